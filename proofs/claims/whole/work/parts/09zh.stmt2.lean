/-! the setup text: the reference's statements -/
section RS2
variable {B : Mem} {m : Nat} {g : Nat → Int32} {f : Nat → Nat} {n : Nat} {A : Nat → Nat → Int32} {v nm : Nat → Nat} {q : Nat}
theorem i3 (s j : Nat) : ((68 : Int32) + (3 : Int32) * nN s) + nN j = nN (68 + 3 * s + j) := by
  have a1 : (3 : Int32) * nN s = nN (3 * s) := nN_mul 3 s
  have a2 : (68 : Int32) + nN (3 * s) = nN (68 + 3 * s) := nN_add 68 (3 * s)
  rw [a1, a2, nN_add]
theorem i4 (s j : Nat) : ((564 : Int32) + (4 : Int32) * nN s) + nN j = nN (564 + 4 * s + j) := by
  have a1 : (4 : Int32) * nN s = nN (4 * s) := nN_mul 4 s
  have a2 : (564 : Int32) + nN (4 * s) = nN (564 + 4 * s) := nN_add 564 (4 * s)
  rw [a1, a2, nN_add]
theorem n1z : ¬ nN 1 = (0 : Int32) := by decide
theorem i10 : ¬ (1 : Int32) = 0 := by decide
theorem rlV_n {s d k : Nat} (hr : rlN f n q = none) : rlV f n s (d + 1) v k q = (v, k, q) := by
  unfold rlV; rw [hr]
theorem rlV_y {s d k r : Nat} (hr : rlN f n q = some r) (c : fnd (fun i => v (68 + 3 * s + i) = r) 0 k = none) : rlV f n s (d + 1) v k q = rlV f n s d (updN (updN v (68 + 3 * s + k) r) (44 + s) (k + 1)) (k + 1) (nxt f n q) := by
  have e : rlV f n s (d + 1) v k q = if fnd (fun i => v (68 + 3 * s + i) = r) 0 k = none then rlV f n s d (updN (updN v (68 + 3 * s + k) r) (44 + s) (k + 1)) (k + 1) (nxt f n q) else (v, k, q) := by
    show (match rlN f n q with | none => (v, k, q) | some r => _) = _
    rw [hr]
  rw [e, if_pos c]
theorem rlV_d {s d k r : Nat} (hr : rlN f n q = some r) (c : ¬ fnd (fun i => v (68 + 3 * s + i) = r) 0 k = none) : rlV f n s (d + 1) v k q = (v, k, q) := by
  have e : rlV f n s (d + 1) v k q = if fnd (fun i => v (68 + 3 * s + i) = r) 0 k = none then rlV f n s d (updN (updN v (68 + 3 * s + k) r) (44 + s) (k + 1)) (k + 1) (nxt f n q) else (v, k, q) := by
    show (match rlN f n q with | none => (v, k, q) | some r => _) = _
    rw [hr]
  rw [e, if_neg c]
theorem r_rl12 {s r : Nat} (hs : s < 8) (hr : r < 3) (h3 : v (44 + s) ≤ 3) (hv : ∀ i, i < v (44 + s) → v (68 + 3 * s + i) < 3) (k1 k2 : Unit → Option (Int32 × Mem)) : ∀ d j fu, j + d = v (44 + s) → d < fu → pl_X7_readRules_12 k1 k2 m (nN s) (nN r) (RS B m g f n A v nm q) fu (nN j) = if fnd (fun i => v (68 + 3 * s + i) = r) j d = none then k2 () else k1 () := by
  have e44 : (44 : Int32) + nN s = nN (44 + s) := nN_add 44 s
  intro d
  induction d with
  | zero =>
    intro j fu hj hf
    obtain ⟨F, rfl⟩ : ∃ F, fu = F + 1 := ⟨fu - 1, by omega⟩
    rw [pl_X7_readRules_12, RS_0, bS, e44, RS_rd (by omega) (by omega), bS, if_pos (nle_t (by omega) (by omega) (by omega))]
    rfl
  | succ d ih =>
    intro j fu hj hf
    obtain ⟨F, rfl⟩ : ∃ F, fu = F + 1 := ⟨fu - 1, by omega⟩
    have ek : nN j + (1 : Int32) = nN (j + 1) := nN_add j 1
    have := hv j (by omega)
    rw [pl_X7_readRules_12, RS_0, bS, e44, RS_rd (by omega) (by omega), bS, if_neg (nle_f (by omega) (by omega) (by omega)), bS, i3, RS_rd (by omega) (by omega), bS, fnd_st]
    by_cases c : v (68 + 3 * s + j) = r
    · rw [if_pos (show nN (v (68 + 3 * s + j)) = nN r by rw [c]), if_pos c, if_neg (Option.some_ne_none _)]
    · rw [if_neg (neq_f (by omega) (by omega) c), if_neg c, ek, ih (j + 1) F (by omega) (by omega)]
theorem r_rl5 (h : TXE g A n f) {s : Nat} (hs : s < 8) (k1 k2 : Mem → Option (Int32 × Mem)) : ∀ d k v q fu, k + d = 3 → d < fu → v (44 + s) = k → (∀ i, i < k → v (68 + 3 * s + i) < 3) → (∀ i j, i < j → j < k → v (68 + 3 * s + i) ≠ v (68 + 3 * s + j)) → q ≤ n → pl_X7_readRules_5 k1 k2 m (nN s) fu (oN (rlN f n q)) (RS B m g f n A v nm q) = if rlN f n (rlV f n s d v k q).2.2 = none then k2 (RS B m g f n A (rlV f n s d v k q).1 nm (rlV f n s d v k q).2.2) else k1 (RS B m g f n A (rlV f n s d v k q).1 nm (rlV f n s d v k q).2.2) := by
  have e44 : (44 : Int32) + nN s = nN (44 + s) := nN_add 44 s
  intro d
  induction d with
  | zero =>
    intro k v q fu hk hf h44 hv hd hq
    obtain ⟨F, rfl⟩ : ∃ F, fu = F + 1 := ⟨fu - 1, by omega⟩
    rw [pl_X7_readRules_5]
    show _ = if rlN f n q = none then k2 (RS B m g f n A v nm q) else k1 (RS B m g f n A v nm q)
    cases hr : rlN f n q with
    | none => rw [if_pos (show oN none = (-1 : Int32) from rfl), if_pos rfl]
    | some r =>
      have hr3 := (rlN_lt hr).1
      rw [if_neg (show ¬ oN (some r) = (-1 : Int32) from nNm (by omega)), show oN (some r) = nN r from rfl, if_neg (Option.some_ne_none _)]
      refine Eq.trans (r_rl12 hs hr3 (by omega) (fun i hi => hv i (by omega)) _ _ 3 0 FU (by omega) (FU_pos (by omega))) ?_
      rw [if_neg (fun w => by
        have n0 := fnd_none w 0 (by omega) (by omega)
        have n1 := fnd_none w 1 (by omega) (by omega)
        have n2 := fnd_none w 2 (by omega) (by omega)
        have a0 := hv 0 (by omega)
        have a1 := hv 1 (by omega)
        have a2 := hv 2 (by omega)
        have b1 := hd 0 1 (by omega) (by omega)
        have b2 := hd 0 2 (by omega) (by omega)
        have b3 := hd 1 2 (by omega) (by omega)
        omega)]
  | succ d ih =>
    intro k v q fu hk hf h44 hv hd hq
    obtain ⟨F, rfl⟩ : ∃ F, fu = F + 1 := ⟨fu - 1, by omega⟩
    have hx := (nxt_b (f := f) hq).2.1
    rw [pl_X7_readRules_5]
    cases hr : rlN f n q with
    | none =>
      rw [rlV_n hr, if_pos (show oN none = (-1 : Int32) from rfl)]
      exact (if_pos hr).symm
    | some r =>
      have hr3 := (rlN_lt hr).1
      rw [if_neg (show ¬ oN (some r) = (-1 : Int32) from nNm (by omega)), show oN (some r) = nN r from rfl]
      refine Eq.trans (r_rl12 hs hr3 (by omega) (fun i hi => hv i (by omega)) _ _ k 0 FU (by omega) (FU_pos (by omega))) ?_
      by_cases c : fnd (fun i => v (68 + 3 * s + i) = r) 0 k = none
      · have e1 : v (44 + s) = k := h44
        have u1 : updN v (68 + 3 * s + k) r (44 + s) = k := (if_neg (by omega)).trans h44
        have ek : nN k + (1 : Int32) = nN (k + 1) := nN_add k 1
        have ew : ∀ i, i < k → updN (updN v (68 + 3 * s + k) r) (44 + s) (k + 1) (68 + 3 * s + i) = v (68 + 3 * s + i) := fun i hi => (if_neg (by omega)).trans (if_neg (by omega))
        have ew2 : updN (updN v (68 + 3 * s + k) r) (44 + s) (k + 1) (68 + 3 * s + k) = r := (if_neg (by omega)).trans (if_pos rfl)
        have nn := fun i (hi : i < k) => fnd_none c i (Nat.zero_le _) (by omega)
        rw [if_pos c, rlV_y hr c]
        show Option.bind (gR 6 0 (RS B m g f n A v nm q) m) _ = _
        rw [RS_0, bS, bS, e44, RS_rd (by omega) (by omega), bS, h44, i3, RS_wr (by omega) (by omega), bS, RS_0, bS, RS_rd (by omega) (by omega), bS, u1, ek, RS_wr (by omega) (by omega), bS, RS_b, RS_adv h hq, bS, RS_b, r_rule h hx, bS]
        exact ih (k + 1) _ _ F (by omega) (by omega) (if_pos rfl) (fun i hi => by
          by_cases e : i = k
          · rw [e, ew2]; exact hr3
          · rw [ew i (by omega)]; exact hv i (by omega)) (fun i j h1 h2 => by
          by_cases e : j = k
          · rw [e, ew2, ew i (by omega)]; exact nn i (by omega)
          · rw [ew i (by omega), ew j (by omega)]; exact hd i j h1 (by omega)) hx
      · rw [if_neg c, rlV_d hr c]
        exact (if_neg (show ¬ rlN f n q = none by rw [hr]; exact Option.some_ne_none _)).symm
theorem rlV_b {s : Nat} : ∀ d v k q, q ≤ n → (rlV f n s d v k q).2.2 ≤ n ∧ q ≤ (rlV f n s d v k q).2.2 := by
  intro d
  induction d with
  | zero => intro v k q h; exact ⟨h, Nat.le_refl _⟩
  | succ d ih =>
    intro v k q h
    have hx := nxt_b (f := f) h
    cases hr : rlN f n q with
    | none => rw [rlV_n hr]; exact ⟨h, Nat.le_refl _⟩
    | some r =>
      by_cases c : fnd (fun i => v (68 + 3 * s + i) = r) 0 k = none
      · rw [rlV_y hr c]
        have := ih (updN (updN v (68 + 3 * s + k) r) (44 + s) (k + 1)) (k + 1) (nxt f n q) hx.2.1
        exact ⟨this.1, Nat.le_trans hx.1 this.2⟩
      · rw [rlV_d hr c]; exact ⟨h, Nat.le_refl _⟩
theorem rlV_o {s i : Nat} (hi : i ≠ 44 + s ∧ ¬ (68 + 3 * s ≤ i ∧ i < 68 + 3 * s + 3)) : ∀ d v k q, k + d = 3 → (rlV f n s d v k q).1 i = v i := by
  intro d
  induction d with
  | zero => intro v k q _; rfl
  | succ d ih =>
    intro v k q hk
    cases hr : rlN f n q with
    | none => rw [rlV_n hr]
    | some r =>
      by_cases c : fnd (fun i => v (68 + 3 * s + i) = r) 0 k = none
      · rw [rlV_y hr c, ih _ _ _ (by omega)]
        exact (if_neg hi.1).trans (if_neg (by omega))
      · rw [rlV_d hr c]
theorem r_rules (h : TXE g A n f) (hq : q ≤ n) (h15 : g 15 = 0) {s : Nat} (hs : s < 8) (h44 : v (44 + s) = 0) (o : Nat) (ho : g 21 = nN o) : PE B m g f n A (schE f n v s nm o q) (ob2 (p_X7_readRules m (nN s) (RS B m g f n A v nm q)) (fun v36 M37 => if v36 = 0 then some ((0 : Int32), M37) else Option.bind (gR 6 0 M37 m) fun v39 => Option.bind (aI 0 M37 v39 (0 : Int32)) fun v40 => Option.bind (aIs M37 v39 (0 : Int32) (v40 + (1 : Int32))) fun M41 => some ((1 : Int32), M41))) ∨ v 0 ≠ s := by
  by_cases hv0 : v 0 = s
  · refine Or.inl ?_
    have hb := rlV_b (f := f) (n := n) (s := s) 3 v 0 q hq
    have h0 := rlV_o (f := f) (n := n) (s := s) (i := 0) (by omega) 3 v 0 q (by omega)
    unfold p_X7_readRules schE
    rw [RS_b, r_rule h hq, bS, r_rl5 h hs _ _ 3 0 v q FU (by omega) (FU_pos (by omega)) h44 (fun i hi => by omega) (fun i j _ hj => by omega) hq]
    generalize rlV f n s 3 v 0 q = R at hb h0
    by_cases c : rlN f n R.2.2 = none
    · rw [if_pos c, if_pos c, ob2_def, if_neg i10, RS_0, bS]
      have r0 : aI 0 (RS B m g f n A R.1 nm R.2.2) (m + 1) (0 : Int32) = some (nN (R.1 0)) := RS_rd (i := 0) (by decide) (by decide)
      have ek : nN s + (1 : Int32) = nN (s + 1) := nN_add s 1
      have w0 : aIs (RS B m g f n A R.1 nm R.2.2) (m + 1) (0 : Int32) (nN (s + 1)) = some (RS B m g f n A (updN R.1 0 (s + 1)) nm R.2.2) := RS_wr (i := 0) (by decide) (by decide)
      rw [r0, bS, h0, hv0, ek, w0, bS]
      exact pe_ok ho
    · rw [if_neg c, if_neg c, RS_b, r_f2 h15, ob2_def, if_pos rfl]
      exact pe_f rfl
  · exact Or.inr hv0
theorem r_s56 (h : TXE g A n f) (hq : q ≤ n) {s : Nat} (hs : s < 8) (k1 : Mem → Option (Int32 × Mem)) : ∀ d k fu, k + d = 6 → d < fu → pl_X7_readSchool_56 k1 m (nN s) fu (nN k) (RS B m g f n A v (nmW nm f n q s k) q) = k1 (RS B m g f n A v (nmW nm f n q s 6) q) := by
  intro d
  induction d with
  | zero =>
    intro k fu hk hf
    obtain ⟨F, rfl⟩ : ∃ F, fu = F + 1 := ⟨fu - 1, by omega⟩
    have e6 : k = 6 := by omega
    subst e6
    rw [pl_X7_readSchool_56, if_pos (show (6 : Int32) ≤ nN 6 by decide)]
  | succ d ih =>
    intro k fu hk hf
    obtain ⟨F, rfl⟩ : ∃ F, fu = F + 1 := ⟨fu - 1, by omega⟩
    have ek : nN k + (1 : Int32) = nN (k + 1) := nN_add k 1
    have em : (6 : Int32) * nN s + nN k = nN (6 * s + k) := by rw [show (6 : Int32) = nN 6 from rfl, nN_mul, nN_add]
    rw [pl_X7_readSchool_56, if_neg (show ¬ (6 : Int32) ≤ nN k from nle_f (a := 6) (by omega) (by omega) (by omega)), RS_7, bS, RS_b, r_let h hq (by omega), bS, em, RS_wn (by omega), bS, nmW_s, ek, ih (k + 1) F (by omega) (by omega)]
theorem r_schoolS (h : TXE g A n f) (hq : q ≤ n) (h15 : g 15 = 0) {o : Nat} (ho : g 21 = nN o) (h0 : v 0 ≤ 8) (hN : NMS nm (v 0)) (h44 : v 0 < 8 → v (44 + v 0) = 0) : PE B m g f n A (schoolS f n v nm o q) (p_X7_readSchool m (RS B m g f n A v nm q)) := by
  have r0 : aI 0 (RS B m g f n A v nm q) (m + 1) (0 : Int32) = some (nN (v 0)) := RS_rd (i := 0) (by decide) (by decide)
  have hx := (nxt_b (f := f) hq).2.1
  have hxx := (nxt_b (f := f) hx).2.1
  unfold p_X7_readSchool schoolS
  rw [RS_0, bS, r0, bS, jn_def]
  by_cases c : 8 ≤ v 0
  · rw [if_pos (show (8 : Int32) ≤ nN (v 0) from nle_t (a := 8) (by omega) (by omega) c), if_pos c]
    show PE B m g f n A _ (Option.bind (isC 6 (RS B m g f n A v nm q) m) _)
    rw [RS_b, (r_starts h hq h15).1, ob2_def, if_pos rfl]
    exact pe_f rfl
  · rw [if_neg (show ¬ (8 : Int32) ≤ nN (v 0) from nle_f (a := 8) (by omega) (by omega) c), if_neg c]
    have hs : v 0 < 8 := by omega
    show PE B m g f n A _ (Option.bind (isC 6 (RS B m g f n A v nm q) m) _)
    rw [RS_b, (r_starts h hq h15).2, ob2_def, if_neg i10, RS_b, r_name h hx, bS]
    by_cases cn : nmB f n (nxt f n q) = true
    · rw [← bI_t cn, if_neg n1z, RS_b, r_find h hx h0 hN, bS, if_pos cn]
      cases hf : fdN nm (v 0) f n (nxt f n q) with
      | some s =>
        have hs := (fnd_some hf).2.1
        rw [if_neg (show ¬ oN (some s) = (-1 : Int32) from nNm (by omega)), RS_b, r_f2 h15]
        exact pe_f rfl
      | none =>
        have e20 : (20 : Int32) + nN (v 0) = nN (20 + v 0) := nN_add 20 _
        have e28 : (28 : Int32) + nN (v 0) = nN (28 + v 0) := nN_add 28 _
        have e36 : (36 : Int32) + nN (v 0) = nN (36 + v 0) := nN_add 36 _
        rw [if_pos (show oN none = (-1 : Int32) from rfl), e20, e28, e36]
        have q56 := fun k1 => r_s56 (B := B) (m := m) (v := v) (nm := nm) h hx hs k1 6 0 FU (by omega) (FU_pos (by omega))
        rw [nmW_0] at q56
        refine Eq.mp (congrArg (PE B m g f n A _) (q56 _).symm) ?_
        rw [RS_b, RS_adv h hx, bS, RS_b]
        refine pe_num (lo := 0) (hi := 40) h hxx h15 (by omega) (by omega) (by decide) (by decide) (fun M => if_pos rfl) (fun c1 c2 c3 => ?_)
        show PE B m g f n A _ (if (1 : Int32) = 0 then _ else _)
        rw [if_neg i10, RS_b]
        refine pe_num (lo := 0) (hi := 99) h c3 h15 (by omega) (by omega) (by decide) (by decide) (fun M => if_pos rfl) (fun c4 c5 c6 => ?_)
        show PE B m g f n A _ (if (1 : Int32) = 0 then _ else _)
        rw [if_neg i10, RS_b]
        refine pe_num (lo := 0) (hi := 99) h c6 h15 (by omega) (by omega) (by decide) (by decide) (fun M => if_pos rfl) (fun c7 c8 c9 => ?_)
        show PE B m g f n A _ (if (1 : Int32) = 0 then _ else _)
        rw [if_neg i10, RS_b]
        have e44 : ∀ x y z, updN (updN (updN v (20 + v 0) x) (28 + v 0) y) (36 + v 0) z (44 + v 0) = 0 := fun x y z => ((if_neg (by omega)).trans ((if_neg (by omega)).trans (if_neg (by omega)))).trans (h44 hs)
        have e00 : ∀ x y z, updN (updN (updN v (20 + v 0) x) (28 + v 0) y) (36 + v 0) z 0 = v 0 := fun x y z => (if_neg (by omega)).trans ((if_neg (by omega)).trans (if_neg (by omega)))
        exact (r_rules h c9 h15 hs (e44 _ _ _) o ho).resolve_right (fun w => w (e00 _ _ _))
    · rw [← bI_f cn, if_pos z00, RS_b, r_f2 h15, if_neg cn]
      exact pe_f rfl
theorem r_zoneS (h : TXE g A n f) (hq : q ≤ n) (h15 : g 15 = 0) {o : Nat} (ho : g 21 = nN o) (h0 : v 0 ≤ 8) (hN : NMS nm (v 0)) (h52 : ∀ s, s < 8 → v (52 + s) < 1000) : PE B m g f n A (zoneS f n v nm o q) (p_X7_readZone m (RS B m g f n A v nm q)) := by
  have hx := (nxt_b (f := f) hq).2.1
  have hxx := (nxt_b (f := f) hx).2.1
  unfold p_X7_readZone zoneS
  rw [RS_b, RS_adv h hq, bS, RS_b, r_name h hx, bS]
  by_cases cn : nmB f n (nxt f n q) = true
  · rw [← bI_t cn, if_neg n1z, RS_b, r_find h hx h0 hN, bS, if_pos cn, jn_def]
    have bad : PE B m g f n A (.inl (3, nxt f n q)) (Option.bind (isC 6 (RS B m g f n A v nm (nxt f n q)) m) fun _ => ob2 (p_X7_failsAt m (3 : Int32) (RS B m g f n A v nm (nxt f n q))) fun v10 M11 => if v10 = 0 ∨ v10 = 1 then some (v10, M11) else none) := by
      rw [RS_b, r_f2 h15]; exact pe_f rfl
    cases hf : fdN nm (v 0) f n (nxt f n q) with
    | none =>
      rw [if_pos (show oN none = (-1 : Int32) from rfl)]
      exact bad
    | some s =>
      have hs := (fnd_some hf).2.1
      have h52' := h52 s (by omega)
      have e52 : (52 : Int32) + nN s = nN (52 + s) := nN_add 52 s
      have e92 : (92 : Int32) + (4 : Int32) * nN s = nN (92 + 4 * s) := by
        have a1 : (4 : Int32) * nN s = nN (4 * s) := nN_mul 4 s
        have a2 : (92 : Int32) + nN (4 * s) = nN (92 + 4 * s) := nN_add 92 (4 * s)
        rw [a1, a2]
      have e93 : nN (92 + 4 * s) + (1 : Int32) = nN (92 + 4 * s + 1) := nN_add _ 1
      have e94 : nN (92 + 4 * s) + (2 : Int32) = nN (92 + 4 * s + 2) := nN_add _ 2
      have e95 : nN (92 + 4 * s) + (3 : Int32) = nN (92 + 4 * s + 3) := nN_add _ 3
      have w52 : ∀ z, aIs (RS B m g f n A v nm z) (m + 1) (nN (52 + s)) (1 : Int32) = some (RS B m g f n A (updN v (52 + s) 1) nm z) := fun z => RS_wr (x := 1) (by omega) (by omega)
      rw [if_neg (show ¬ oN (some s) = (-1 : Int32) from nNm (by omega)), show oN (some s) = nN s from rfl, RS_0, bS, e52, RS_rd (by omega) (by omega), bS]
      show PE B m g f n A (if v (52 + s) = 1 then _ else _) _
      by_cases c52 : v (52 + s) = 1
      · rw [if_pos (show nN (v (52 + s)) = (1 : Int32) by rw [c52]; rfl), if_pos c52]
        exact bad
      · rw [if_neg (show ¬ nN (v (52 + s)) = (1 : Int32) from neq_f (b := 1) (by omega) (by omega) c52), if_neg c52, RS_b, RS_adv h hx, bS, RS_0, bS, w52, bS, RS_b, e92, e93, e94, e95]
        refine pe_num (lo := 0) (hi := 99) h hxx h15 (by omega) (by omega) (by decide) (by decide) (fun M => if_pos rfl) (fun c1 c2 c3 => ?_)
        show PE B m g f n A _ (if (1 : Int32) = 0 then _ else _)
        rw [if_neg i10, RS_b]
        refine pe_num (lo := 0) (hi := 99) h c3 h15 (by omega) (by omega) (by decide) (by decide) (fun M => if_pos rfl) (fun c4 c5 c6 => ?_)
        show PE B m g f n A _ (if (1 : Int32) = 0 then _ else _)
        rw [if_neg i10, RS_0, bS, RS_rd (by omega) (by omega), bS, RS_b]
        have ea : ∀ x y, updN (updN (updN v (52 + s) 1) (92 + 4 * s) x) (92 + 4 * s + 1) y (92 + 4 * s) = x := fun x y => (if_neg (by omega)).trans (if_pos rfl)
        rw [ea]
        refine pe_num (hi := 99) h c6 h15 (by omega) (by omega) (by omega) (by decide) (fun M => if_pos rfl) (fun c7 c8 c9 => ?_)
        show PE B m g f n A _ (if (1 : Int32) = 0 then _ else _)
        rw [if_neg i10, RS_0, bS, RS_rd (by omega) (by omega), bS, RS_b]
        have eb : ∀ x y z, updN (updN (updN (updN v (52 + s) 1) (92 + 4 * s) x) (92 + 4 * s + 1) y) (92 + 4 * s + 2) z (92 + 4 * s + 1) = y := fun x y z => (if_neg (by omega)).trans (if_pos rfl)
        rw [eb]
        refine pe_num (hi := 99) h c9 h15 (by omega) (by omega) (by omega) (by decide) (fun M => if_pos rfl) (fun c10 c11 c12 => ?_)
        show PE B m g f n A _ (if (1 : Int32) = 0 then _ else _)
        rw [if_neg i10]
        exact pe_ok ho
  · rw [← bI_f cn, if_pos z00, RS_b, r_f2 h15, if_neg cn]
    exact pe_f rfl
end RS2
section RS3
variable {B : Mem} {m : Nat} {g : Nat → Int32} {f : Nat → Nat} {n : Nat} {A : Nat → Nat → Int32} {v nm : Nat → Nat} {q : Nat}
theorem r_wi2 {c s : Nat} (hc : c < 40) (hs : s < 8) (h4 : v (324 + c) ≤ 4) (hv : ∀ i, i < v (324 + c) → v (564 + 4 * c + i) < 8) : p_X7_wishOf m (nN c) (nN s) (RS B m g f n A v nm q) = some (oN (fnd (fun i => v (564 + 4 * c + i) = s) 0 (v (324 + c)))) := by
  have e324 : (324 : Int32) + nN c = nN (324 + c) := nN_add 324 c
  unfold p_X7_wishOf
  have key : ∀ d j fu, j + d = v (324 + c) → d < fu → pl_X7_wishOf_2 (fun z7 => some z7) (fun _ => some (-1 : Int32)) m (nN c) (nN s) (RS B m g f n A v nm q) fu (nN j) = some (oN (fnd (fun i => v (564 + 4 * c + i) = s) j d)) := by
    intro d
    induction d with
    | zero =>
      intro j fu hj hf
      obtain ⟨F, rfl⟩ : ∃ F, fu = F + 1 := ⟨fu - 1, by omega⟩
      rw [pl_X7_wishOf_2, RS_0, bS, e324, RS_rd (by omega) (by omega), bS, if_pos (nle_t (by omega) (by omega) (by omega))]; rfl
    | succ d ih =>
      intro j fu hj hf
      obtain ⟨F, rfl⟩ : ∃ F, fu = F + 1 := ⟨fu - 1, by omega⟩
      have ek : nN j + (1 : Int32) = nN (j + 1) := nN_add j 1
      have := hv j (by omega)
      rw [pl_X7_wishOf_2, RS_0, bS, e324, RS_rd (by omega) (by omega), bS, if_neg (nle_f (by omega) (by omega) (by omega)), bS, i4, RS_rd (by omega) (by omega), bS, fnd_st]
      by_cases c : v (564 + 4 * c + j) = s
      · rw [if_pos (by rw [c]), if_pos c]; rfl
      · rw [if_neg (neq_f (by omega) (by omega) c), if_neg c, ek, ih (j + 1) F (by omega) (by omega)]
  exact key _ 0 FU (by omega) (FU_pos (by omega))
def wsQ (nm : Nat → Nat) (o : Nat) (x : Sum (Nat × Nat) ((Nat → Nat) × Nat × Nat)) : QS := match x with
  | .inl e => .inl e
  | .inr y => .inr (y.1, nm, o, y.2.2)
theorem r_wsh (h : TXE g A n f) (h15 : g 15 = 0) {o : Nat} (ho : g 21 = nN o) {c k0 : Nat} (hc : c < 40) (h0 : k0 ≤ 8) (hN : NMS nm k0) : ∀ d k v q fu, k + d = 4 → d < fu → v 0 = k0 → v (324 + c) = k → (∀ i, i < k → v (564 + 4 * c + i) < 8) → q ≤ n → PE B m g f n A (wsQ nm o (wshV f n nm k0 c d v k q)) (pl_X7_readWishes_0 (fun M34 => Option.bind (isC 6 M34 m) fun _ => ob2 (p_X7_failsAt m (1 : Int32) M34) fun v4 M5 => if v4 = 0 ∨ v4 = 1 then some (v4, M5) else none) (fun M35 => Option.bind (isC 6 M35 m) fun _ => ob2 (p_X7_failsAt m (3 : Int32) M35) fun v9 M10 => if v9 = 0 ∨ v9 = 1 then some (v9, M10) else none) (fun M36 => some ((1 : Int32), M36)) m (nN c) fu (RS B m g f n A v nm q)) := by
  have e324 : (324 : Int32) + nN c = nN (324 + c) := nN_add 324 c
  intro d
  induction d with
  | zero =>
    intro k v q fu hk hf hv0 h324 hv hq
    obtain ⟨F, rfl⟩ : ∃ F, fu = F + 1 := ⟨fu - 1, by omega⟩
    rw [pl_X7_readWishes_0, RS_b, r_name h hq, bS]
    show PE B m g f n A (.inl (1, q)) _
    by_cases cn : nmB f n q = true
    · rw [← bI_t cn, if_neg n1z, RS_0, bS, e324, RS_rd (by omega) (by omega), bS, if_pos (show nN (v (324 + c)) = (4 : Int32) by rw [h324, show k = 4 by omega]; rfl), RS_b, r_f2 h15]
      exact pe_f rfl
    · rw [← bI_f cn, if_pos z00, RS_b, r_f2 h15]
      exact pe_f rfl
  | succ d ih =>
    intro k v q fu hk hf hv0 h324 hv hq
    obtain ⟨F, rfl⟩ : ∃ F, fu = F + 1 := ⟨fu - 1, by omega⟩
    have hx := (nxt_b (f := f) hq).2.1
    rw [pl_X7_readWishes_0, RS_b, r_name h hq, bS]
    unfold wshV
    by_cases cn : nmB f n q = true
    · rw [← bI_t cn, if_neg n1z, RS_0, bS, e324, RS_rd (by omega) (by omega), bS, if_neg (show ¬ nN (v (324 + c)) = (4 : Int32) from neq_f (b := 4) (by omega) (by omega) (by omega)), RS_b, r_find h hq (by omega) (by rw [hv0]; exact hN), bS, if_pos cn, hv0]
      cases hf2 : fdN nm k0 f n q with
      | none =>
        rw [if_pos (show oN none = (-1 : Int32) from rfl), RS_b, r_f2 h15]
        exact pe_f rfl
      | some s =>
        have hs := (fnd_some hf2).2.1
        rw [if_neg (show ¬ oN (some s) = (-1 : Int32) from nNm (by omega)), show oN (some s) = nN s from rfl, RS_b, r_wi2 hc (by omega) (by omega) (fun i hi => hv i (by omega)), bS, h324]
        show PE B m g f n A (wsQ nm o (if fnd (fun i => v (564 + 4 * c + i) = s) 0 k = none then _ else _)) _
        cases hfd : fnd (fun i => v (564 + 4 * c + i) = s) 0 k with
        | some j =>
          have := (fnd_some hfd).2.1
          rw [if_neg (show ¬ oN (some j) = (-1 : Int32) from nNm (by omega)), if_neg (Option.some_ne_none _), RS_b, r_f2 h15]
          exact pe_f rfl
        | none =>
          have h4 := kdN_4 (f := f) (n := n) (st := nxt f n q)
          have u1 : updN v (564 + 4 * c + k) s (324 + c) = k := (if_neg (by omega)).trans h324
          have ek : nN k + (1 : Int32) = nN (k + 1) := nN_add k 1
          rw [if_pos (show oN none = (-1 : Int32) from rfl), if_pos rfl, bS, bS, RS_rd (by omega) (by omega), bS, h324, i4, RS_wr (by omega) (by omega), bS, RS_0, bS, RS_rd (by omega) (by omega), bS, u1, ek, RS_wr (by omega) (by omega), bS, RS_b, RS_adv h hq, bS, RS_20, bS]
          by_cases ck : kdN f n (nxt f n q) = 1
          · rw [if_pos (show nN (kdN f n (nxt f n q)) = (1 : Int32) by rw [ck]; rfl), if_pos ck]
            refine ih (k + 1) _ _ F (by omega) (by omega) ?_ (if_pos rfl) (fun i hi => ?_) hx
            · exact (if_neg (by omega)).trans ((if_neg (by omega)).trans hv0)
            · by_cases e : i = k
              · rw [e]
                have : updN (updN v (564 + 4 * c + k) s) (324 + c) (k + 1) (564 + 4 * c + k) = s := (if_neg (by omega)).trans (if_pos rfl)
                omega
              · have : updN (updN v (564 + 4 * c + k) s) (324 + c) (k + 1) (564 + 4 * c + i) = v (564 + 4 * c + i) := (if_neg (by omega)).trans (if_neg (by omega))
                rw [this]; exact hv i (by omega)
          · rw [if_neg (show ¬ nN (kdN f n (nxt f n q)) = (1 : Int32) from neq_f (b := 1) (by omega) (by omega) ck), if_neg ck]
            exact pe_ok ho
    · rw [← bI_f cn, if_pos z00, RS_b, r_f2 h15, if_neg cn]
      exact pe_f rfl
end RS3
