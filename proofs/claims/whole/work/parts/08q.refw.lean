/-! the reference's changes of its row -/
theorem up2_up2 {a : Nat → Nat → Int32} {j : Nat} {f f2 : Nat → Int32} : up2 (up2 a j f) j f2 = up2 a j f2 := by
  funext k; unfold up2; by_cases h : k = j
  · rw [if_pos h, if_pos h]
  · rw [if_neg h, if_neg h, if_neg h]
theorem up2_id {a : Nat → Nat → Int32} {j : Nat} : up2 a j (a j) = a := by
  funext k; unfold up2; by_cases h : k = j
  · rw [if_pos h, h]
  · rw [if_neg h]
theorem up2_sw {a : Nat → Nat → Int32} {i j : Nat} {f f2 : Nat → Int32} (hij : i ≠ j) : up2 (up2 a i f) j f2 = up2 (up2 a j f2) i f := by
  funext k; unfold up2; by_cases h : k = j
  · subst h; rw [if_pos rfl, if_neg (fun z => hij z.symm), if_pos rfl]
  · rw [if_neg h]
    by_cases h2 : k = i
    · rw [if_pos h2, if_pos h2]
    · rw [if_neg h2, if_neg h2, if_neg h]
section RWV
variable {B : Mem} {m : Nat} {g : Nat → Int32} {a : Nat → Nat → Int32} {v : Nat → Nat} {pl : Nat → Option Nat}
theorem ew_v {i x : Nat} (h : i < 764) (h2 : ¬ (484 ≤ i ∧ i < 524)) : aIs (ovl B m g (up2 a 1 (enc v pl))) (m + 1) (nN i) (nN x) = some (ovl B m g (up2 a 1 (enc (updN v i x) pl))) := by
  rw [ow_1, wr_nN (by show i < 764; exact h) (by omega), up2_s, enc_uv h2, Option.map_some, up2_up2]
theorem ew_o {c : Nat} {p : Option Nat} (h : c < 40) : aIs (ovl B m g (up2 a 1 (enc v pl))) (m + 1) (nN (484 + c)) (oN p) = some (ovl B m g (up2 a 1 (enc v (updO pl c p)))) := by
  rw [ow_1, wr_nN (by show 484 + c < 764; omega) (by omega), up2_s, enc_up h, Option.map_some, up2_up2]
theorem ew_p {c : Nat} (h : c < 40) : aIs (ovl B m g (up2 a 1 (enc v pl))) (m + 1) (nN (484 + c)) mI = some (ovl B m g (up2 a 1 (enc v (updO pl c none)))) := ew_o (p := none) h
theorem ew_s {c s : Nat} (h : c < 40) : aIs (ovl B m g (up2 a 1 (enc v pl))) (m + 1) (nN (484 + c)) (nN s) = some (ovl B m g (up2 a 1 (enc v (updO pl c (some s))))) := ew_o (p := some s) h
theorem er_v {i : Nat} (h : i < 764) (h2 : ¬ (484 ≤ i ∧ i < 524)) : aI 0 (ovl B m g (up2 a 1 (enc v pl))) (m + 1) (nN i) = some (nN (v i)) := by
  rw [od_1, up2_s, rd_nN h (by omega), enc_v h2]
theorem er_p {c : Nat} (h : c < 40) : aI 0 (ovl B m g (up2 a 1 (enc v pl))) (m + 1) (nN (484 + c)) = some (oN (pl c)) := by
  rw [od_1, up2_s, rd_nN (by omega) (by omega), enc_p h]
theorem e_puts {c x : Nat} {p : Option Nat} (hc : c < 40) : p_X7_puts m (nN c) (oN p) (nN x) (ovl B m g (up2 a 1 (enc v pl))) = some (ovl B m g (up2 a 1 (enc (updN v (444 + c) x) (updO pl c p)))) := by
  unfold p_X7_puts
  simp only [or_0, bS, nN_lit, nN_add]
  rw [ew_o hc, bS, or_0, bS, ew_v (by omega) (by omega), bS]
theorem e_goes {c : Nat} (hc : c < 40) : p_X7_goes m (nN c) (ovl B m g (up2 a 1 (enc v pl))) = some (ovl B m g (up2 a 1 (enc (updN (updN v (444 + c) 0) (404 + c) 1) (updO pl c none)))) := by
  unfold p_X7_goes
  have e := e_puts (B := B) (m := m) (g := g) (a := a) (v := v) (pl := pl) (c := c) (x := 0) (p := none) hc
  rw [oc, bS]
  show Option.bind (p_X7_puts m (nN c) (oN none) (nN 0) _) _ = _
  rw [e, bS, or_0, bS]
  simp only [nN_lit, nN_add]
  rw [ew_v (by omega) (by omega), bS]
def phi (v : Nat → Nat) (pl : Nat → Option Nat) (c : Nat) : Nat := match gotO v pl c with
  | some i => i
  | none => v (324 + c)
def PhiS (v : Nat → Nat) (pl : Nat → Option Nat) : Nat := fb_sm (phi v pl) (v 1)
theorem phi_le (hI : Inv v pl) {c : Nat} (hc : c < v 1) : phi v pl c ≤ 4 := by
  have h1 := hI.h1
  have := (hI.chi c (by omega)).2.2.2.2.2.1
  unfold phi
  cases h : gotO v pl c with
  | none => exact this
  | some i => exact Nat.le_of_lt (got_b hI hc h)
theorem Phi_le (hI : Inv v pl) : PhiS v pl ≤ 160 := by
  have h1 := hI.h1
  have := fb_sm_bound (f := phi v pl) (c := 4) (n := v 1) (fun k hk => phi_le hI hk)
  unfold PhiS
  omega
theorem Phi_dec (hI : Inv v pl) {s c : Nat} (h : fstO v pl = some (s, c)) : PhiS (updN (updN v (444 + c) 0) 10 (v 10 + 1)) (updO pl c (some s)) + 1 ≤ PhiS v pl := by
  have h1 := hI.h1
  obtain ⟨q1, q2, q3, q4, q5⟩ := fst_some h
  obtain ⟨_, _, i, w1, w2, w3⟩ := wai_wis q5
  have Q : sameQ v (updN (updN v (444 + c) 0) 10 (v 10 + 1)) := (sameQ.w (by omega)).t (sameQ.w (by omega))
  have hn : updN (updN v (444 + c) 0) 10 (v 10 + 1) 1 = v 1 := Q 1 (by omega)
  have e : ∀ k, k < v 1 → phi (updN (updN v (444 + c) 0) 10 (v 10 + 1)) (updO pl c (some s)) k = (if k = c then i else phi v pl k) := by
    intro k hk
    unfold phi
    rw [q_got Q hI (by omega), Q (324 + k) (by omega)]
    by_cases e : k = c
    · subst e
      rw [if_pos rfl]
      unfold gotO
      rw [updO_s]
      show (match wisO v k s with | some i => i | none => v (324 + k)) = i
      rw [w1]
    · rw [if_neg e]
      unfold gotO
      rw [updO_n e]
  have lt : i < phi v pl c := by
    unfold waiB at q5
    simp only [Bool.and_eq_true] at q5
    have p := q5.2
    unfold prfB at p
    rw [w1] at p
    unfold phi
    cases hg : gotO v pl c with
    | none => exact w2
    | some j => rw [hg] at p; simpa using p
  unfold PhiS
  rw [hn, fb_sm_cong e]
  have u := fb_sm_upd (phi v pl) i q4
  omega
theorem fit_none {n : Nat} {x : (Nat → Nat) × (Nat → Option Nat)} (h : fstO x.1 x.2 = none) : fit n x = x := by
  cases n with
  | zero => rfl
  | succ n => unfold fit; rw [h]
theorem fit_step {n s c : Nat} {x : (Nat → Nat) × (Nat → Option Nat)} (h : fstO x.1 x.2 = some (s, c)) : fit (n + 1) x = fit n (updN (updN x.1 (444 + c) 0) 10 (x.1 10 + 1), updO x.2 c (some s)) := by
  show (match fstO x.1 x.2 with | none => x | some (s, c) => fit n (updN (updN x.1 (444 + c) 0) 10 (x.1 10 + 1), updO x.2 c (some s))) = _
  rw [h]
theorem fit_done : ∀ n {x : (Nat → Nat) × (Nat → Option Nat)}, Inv x.1 x.2 → PhiS x.1 x.2 ≤ n → fstO (fit n x).1 (fit n x).2 = none := by
  intro n
  induction n with
  | zero =>
    intro x hI hp
    show fstO x.1 x.2 = none
    cases h : fstO x.1 x.2 with
    | none => rfl
    | some sc => obtain ⟨s, c⟩ := sc; have := Phi_dec hI h; omega
  | succ n ih =>
    intro x hI hp
    cases h : fstO x.1 x.2 with
    | none => rw [fit_none h]; exact h
    | some sc =>
      obtain ⟨s, c⟩ := sc
      have := Phi_dec hI h
      unfold fit
      rw [h]
      exact ih (x := (updN (updN x.1 (444 + c) 0) 10 (x.1 10 + 1), updO x.2 c (some s))) (hI.fst h) (by show PhiS (updN (updN x.1 (444 + c) 0) 10 (x.1 10 + 1)) (updO x.2 c (some s)) ≤ n; omega)
theorem e_fills (hI : Inv v pl) : p_X7_fills m (ovl B m g (up2 a 1 (enc v pl))) = some (ovl B m g (up2 a 1 (enc (fit 160 (v, pl)).1 (fit 160 (v, pl)).2))) := by
  have lp : ∀ n fu (x : (Nat → Nat) × (Nat → Option Nat)), Inv x.1 x.2 → PhiS x.1 x.2 ≤ n → n < fu → pl_X7_fills_16 (fun M => some M) m fu (oN (filO x.1 x.2)) (ovl B m g (up2 a 1 (enc x.1 x.2))) = some (ovl B m g (up2 a 1 (enc (fit n x).1 (fit n x).2))) := by
    intro n
    induction n with
    | zero =>
      intro fu x hI hp hf
      obtain ⟨f, rfl⟩ : ∃ f, fu = f + 1 := ⟨fu - 1, by omega⟩
      have hn : fstO x.1 x.2 = none := fit_done 0 hI hp
      rw [fst_none hn, pl_X7_fills_16, if_pos (show oN none = -1 from rfl)]
      rfl
    | succ n ih =>
      intro fu x hI hp hf
      obtain ⟨f, rfl⟩ : ∃ f, fu = f + 1 := ⟨fu - 1, by omega⟩
      have h0 := hI.h0; have h1 := hI.h1
      cases h : fstO x.1 x.2 with
      | none => rw [fst_none h, pl_X7_fills_16, if_pos (show oN none = -1 from rfl), fit_none h]
      | some sc =>
        obtain ⟨s, c⟩ := sc
        have hd := Phi_dec hI h
        have I2 := hI.fst h
        obtain ⟨q1, q2, q3, q4, q5⟩ := fst_some h
        have e1 := e_standsAt (B := B) (m := m) (g := g) (a := up2 a 1 (enc x.1 x.2)) up2_s hI (s := s) (i := 0) (W := 1) (by omega) (by omega) (by omega)
        rw [staO_0 h1, q2] at e1
        have e2 := e_puts (B := B) (m := m) (g := g) (a := a) (v := x.1) (pl := x.2) (c := c) (x := 0) (p := some s) (by omega)
        have e3 := e_fillable (B := B) (m := m) (g := g) (a := up2 a 1 (enc (updN (updN x.1 (444 + c) 0) 10 (x.1 10 + 1)) (updO x.2 c (some s)))) up2_s I2
        have e4 := ih f (updN (updN x.1 (444 + c) 0) 10 (x.1 10 + 1), updO x.2 c (some s)) I2 (by show PhiS (updN (updN x.1 (444 + c) 0) 10 (x.1 10 + 1)) (updO x.2 c (some s)) ≤ n; omega) (by omega)
        have z10 : updN x.1 (444 + c) 0 10 = x.1 10 := updN_n (by omega)
        have ek : nN (x.1 10) + (1 : Int32) = nN (x.1 10 + 1) := nN_add _ 1
        rw [q1, pl_X7_fills_16]
        show (if nN s = -1 then _ else _) = _
        rw [if_neg (show ¬ nN s = -1 from nNm (by omega)), oc, bS]
        show Option.bind (p_X7_standsAt m (nN s) (nN 0) (nN 1) _) _ = _
        rw [e1, bS, bS]
        show Option.bind (p_X7_puts m (nN c) (oN (some s)) (nN 0) _) _ = _
        rw [e2, bS, or_0, bS]
        show Option.bind (aI 0 _ (m + 1) (nN 10)) _ = _
        rw [er_v (by omega) (by omega), bS, z10, ek]
        show Option.bind (aIs _ (m + 1) (nN 10) _) _ = _
        rw [ew_v (by omega) (by omega), bS, oc, bS, e3, bS]
        refine e4.trans ?_
        show _ = some (ovl B m g (up2 a 1 (enc (fit (n + 1) x).1 (fit (n + 1) x).2)))
        rw [fit_step h]
  have h8 := hI.h8
  unfold p_X7_fills
  rw [or_0, bS]
  show Option.bind (aI 0 _ (m + 1) (nN 8)) _ = _
  rw [er_v (by omega) (by omega), bS]
  by_cases c : v 8 = 0
  · rw [c, if_pos (by rfl)]
    have hn : fstO v pl = none := by
      cases h : fstO v pl with
      | none => rfl
      | some sc =>
        obtain ⟨s, k⟩ := sc
        have := (wai_wis (fst_some h).2.2.2.2).1
        omega
    rw [fit_none (x := (v, pl)) hn]
  · rw [show v 8 = 1 by omega, if_neg (by decide), oc, bS]
    have e3 := e_fillable (B := B) (m := m) (g := g) (a := up2 a 1 (enc v pl)) up2_s hI
    rw [e3, bS]
    exact lp 160 FU (v, pl) hI (Phi_le hI) (FU_pos (by omega))
theorem e_keeps (hI : Inv v pl) {s : Nat} (hs : s < v 0) : p_X7_keeps m (nN s) (ovl B m g (up2 a 1 (enc v pl))) = some (ovl B m g (up2 a 1 (enc (kpS s (v, pl)).1 (kpS s (v, pl)).2))) := by
  have h0 := hI.h0; have h1 := hI.h1
  have lp : ∀ n fu (x : (Nat → Nat) × (Nat → Option Nat)), Inv x.1 x.2 → s < 8 → hldN x.1 x.2 s - x.1 (20 + s) = n → n < fu → pl_X7_keeps_0 (fun M => some M) m (nN s) fu (ovl B m g (up2 a 1 (enc x.1 x.2))) = some (ovl B m g (up2 a 1 (enc (krn s n x).1 (krn s n x).2))) := by
    intro n
    induction n with
    | zero =>
      intro fu x hI hs hn hf
      obtain ⟨f, rfl⟩ : ∃ f, fu = f + 1 := ⟨fu - 1, by omega⟩
      have h1 := hI.h1
      have hle : hldN x.1 x.2 s ≤ x.1 1 := cnt_le _ _
      have hcap := (hI.sch s hs).1
      have e1 := e_holders (B := B) (m := m) (g := g) (a := up2 a 1 (enc x.1 x.2)) up2_s hI hs
      rw [pl_X7_keeps_0, oc, bS, e1, bS, or_0, bS]
      simp only [nN_lit, nN_add]
      rw [er_v (by omega) (by omega), bS, if_pos (nle_t (by omega) (by omega) (by omega))]
      rfl
    | succ n ih =>
      intro fu x hI hs hn hf
      obtain ⟨f, rfl⟩ : ∃ f, fu = f + 1 := ⟨fu - 1, by omega⟩
      have h1 := hI.h1
      have hle : hldN x.1 x.2 s ≤ x.1 1 := cnt_le _ _
      have hcap := (hI.sch s hs).1
      have e1 := e_holders (B := B) (m := m) (g := g) (a := up2 a 1 (enc x.1 x.2)) up2_s hI hs
      have e2 := e_lastOf (B := B) (m := m) (g := g) (a := up2 a 1 (enc x.1 x.2)) up2_s hI hs
      have hd := krm_hld (x := x) (s := s) hI (by omega)
      cases hl : lstO x.1 x.2 s with
      | none =>
        obtain ⟨k, hk, hp⟩ := cnt_pos.mp (show 0 < cnt (fun k => x.2 k = some s) (x.1 1) by unfold hldN at hn; omega)
        exact absurd hp (mxO_none.mp hl k hk)
      | some l =>
        have hlk := lst_some hl
        have ek : krm s x = (updN x.1 (524 + l) 0, updO x.2 l none) := by unfold krm; rw [hl]
        have I2 := krm_Inv (x := x) (s := s) hI
        have z20 : (krm s x).1 (20 + s) = x.1 (20 + s) := (krm_Q (s := s) hI).2 _ (by omega)
        have i2 := ih f (krm s x) I2 hs (by omega) (by omega)
        rw [hl] at e2
        rw [pl_X7_keeps_0, oc, bS, e1, bS, or_0, bS]
        simp only [nN_lit, nN_add, mI_lit]
        rw [er_v (by omega) (by omega), bS, if_neg (nle_f (by omega) (by omega) (by omega)), bS, e2, bS, bS]
        simp only [oN, nN_add]
        rw [ew_p (by omega), bS, or_0, bS, ew_v (by omega) (by omega), bS]
        have i3 : pl_X7_keeps_0 (fun M => some M) m (nN s) f (ovl B m g (up2 a 1 (enc (updN x.1 (524 + l) 0) (updO x.2 l none)))) = some (ovl B m g (up2 a 1 (enc (krn s n (krm s x)).1 (krn s n (krm s x)).2))) := by
          rw [ek] at i2 ⊢
          exact i2
        exact i3
  unfold p_X7_keeps
  have hle : hldN v pl s ≤ v 1 := cnt_le _ _
  exact lp _ FU (v, pl) hI (by omega) rfl (FU_pos (by show hldN v pl s - v (20 + s) < 100000; omega))
end RWV
section RAL
variable {B : Mem} {m : Nat} {g : Nat → Int32} {a : Nat → Nat → Int32} {v : Nat → Nat} {pl : Nat → Option Nat} {T : Nat → Int32}
theorem en_d (i : Int32) : aI 0 (ovl B m g (up2 (up2 a 8 T) 1 (enc v pl))) (m + 8) i = rd 40 T i := by
  rw [od_8, up2_n (by decide), up2_s]
theorem en_w {c : Nat} {x : Int32} (hc : c < 40) : aIs (ovl B m g (up2 (up2 a 8 T) 1 (enc v pl))) (m + 8) (nN c) x = some (ovl B m g (up2 (up2 a 8 (upd T c x)) 1 (enc v pl))) := by
  rw [ow_8, wr_nN hc (by omega), Option.map_some, up2_n (by decide), up2_s, up2_sw (by decide), up2_up2]
theorem WN_eq : (ovl B m g (up2 a 1 (enc v pl))) = (ovl B m g (up2 (up2 a 8 (a 8)) 1 (enc v pl))) := by rw [up2_id]
/-- what is left to be tried -/
def muS (v : Nat → Nat) (nx : Nat → Nat) : Nat := fb_sm (fun c => v (324 + c) - nx c) (v 1)
theorem mu_le (hI : Inv v pl) (nx : Nat → Nat) : muS v nx ≤ 160 := by
  have h1 := hI.h1
  have := fb_sm_bound (f := fun c => v (324 + c) - nx c) (c := 4) (n := v 1) (fun k hk => by have := (hI.chi k (by omega)).2.2.2.2.2.1; show v (324 + k) - nx k ≤ 4; omega)
  unfold muS
  omega
theorem fb_sm_lt {f f2 : Nat → Nat} : ∀ {n : Nat}, (∀ k, k < n → f k ≤ f2 k) → (∃ k, k < n ∧ f k < f2 k) → fb_sm f n < fb_sm f2 n := by
  intro n
  induction n with
  | zero => rintro - ⟨k, h, -⟩; omega
  | succ n ih =>
    intro h ⟨k, hk, hl⟩
    rw [fb_sm_succ, fb_sm_succ]
    have hn := h n (by omega)
    by_cases e : k = n
    · subst e
      have := fb_sm_le (f := f) (g := f2) (n := k) (fun j hj => h j (by omega))
      omega
    · have := ih (fun j hj => h j (by omega)) ⟨k, by omega, hl⟩
      omega
theorem mu_dec {nx : Nat → Nat} {v' : Nat → Nat} (hQ : sameQ v v') (h1 : v 1 ≤ 40) (h : 0 < cnt (fun c => tryB v pl nx c = true) (v 1)) : muS v' (tryX v pl nx (v 1)) + 1 ≤ muS v nx := by
  obtain ⟨k, hk, hp⟩ := cnt_pos.mp h
  unfold muS
  rw [hQ 1 (by omega)]
  refine fb_sm_lt (fun j hj => ?_) ⟨k, hk, ?_⟩
  · show v' (324 + j) - tryX v pl nx (v 1) j ≤ v (324 + j) - nx j
    rw [hQ (324 + j) (by omega)]
    unfold tryX
    split <;> omega
  · show v' (324 + k) - tryX v pl nx (v 1) k < v (324 + k) - nx k
    rw [hQ (324 + k) (by omega)]
    unfold tryX
    rw [if_pos ⟨hk, hp⟩]
    unfold tryB at hp
    simp only [Bool.and_eq_true, decide_eq_true_eq] at hp
    omega
theorem krm_9 {s y : Nat} {x : (Nat → Nat) × (Nat → Option Nat)} (hI : Inv x.1 x.2) (hs : s < 8) : krm s (updN x.1 9 y, x.2) = (updN (krm s x).1 9 y, (krm s x).2) := by
  unfold krm
  show (match lstO (updN x.1 9 y) x.2 s with | none => _ | some l => _) = _
  rw [q_lst (sameQ.w (by omega)) hI hs]
  cases lstO x.1 x.2 s with
  | none => rfl
  | some l =>
    show (updN (updN x.1 9 y) (524 + l) 0, updO x.2 l none) = (updN (updN x.1 (524 + l) 0) 9 y, updO x.2 l none)
    rw [updN_sw (by omega)]
theorem krn_9 {s y : Nat} (hs : s < 8) : ∀ n {x : (Nat → Nat) × (Nat → Option Nat)}, Inv x.1 x.2 → krn s n (updN x.1 9 y, x.2) = (updN (krn s n x).1 9 y, (krn s n x).2) := by
  intro n
  induction n with
  | zero => intro x h; rfl
  | succ n ih =>
    intro x h
    show krn s n (krm s (updN x.1 9 y, x.2)) = _
    rw [krm_9 h hs, ih (krm_Inv h)]
    rfl
theorem kpA_9 {y : Nat} : ∀ k {x : (Nat → Nat) × (Nat → Option Nat)}, Inv x.1 x.2 → k ≤ 8 → kpA k (updN x.1 9 y, x.2) = (updN (kpA k x).1 9 y, (kpA k x).2) := by
  intro k
  induction k with
  | zero => intro x h _; rfl
  | succ k ih =>
    intro x h hk
    show kpS k (kpA k (updN x.1 9 y, x.2)) = _
    rw [ih h (by omega)]
    unfold kpS
    show krn k (hldN (updN (kpA k x).1 9 y) (kpA k x).2 k - updN (kpA k x).1 9 y (20 + k)) _ = _
    rw [q_hld (sameQ.w (by omega)), updN_n (by omega), krn_9 (by omega) _ (kpA_Inv k h)]
    rfl
theorem kpA_full : ∀ k {x : (Nat → Nat) × (Nat → Option Nat)}, (∀ s, s < k → hldN x.1 x.2 s ≤ x.1 (20 + s)) → kpA k x = x := by
  intro k
  induction k with
  | zero => intro x h; rfl
  | succ k ih =>
    intro x h
    show kpS k (kpA k x) = x
    rw [ih (fun s hs => h s (by omega))]
    unfold kpS
    rw [show hldN x.1 x.2 k - x.1 (20 + k) = 0 by have := h k (by omega); omega]
    rfl
theorem krm_oth {s q : Nat} {x : (Nat → Nat) × (Nat → Option Nat)} (hI : Inv x.1 x.2) (hq : q ≠ s) : hldN (krm s x).1 (krm s x).2 q = hldN x.1 x.2 q := by
  have h1 := hI.h1
  unfold krm
  cases hl : lstO x.1 x.2 s with
  | none => rfl
  | some l =>
    have h2 := lst_some hl
    show cnt (fun k => updO x.2 l none k = some q) (updN x.1 (524 + l) 0 1) = cnt (fun k => x.2 k = some q) (x.1 1)
    rw [updN_n (by omega)]
    refine cnt_c (fun k hk => ?_)
    by_cases e : k = l
    · subst e
      rw [updO_s, h2.2]
      exact ⟨fun z => (by cases z), fun z => absurd (Option.some.inj z).symm hq⟩
    · rw [updO_n e]
theorem krn_hld {s : Nat} : ∀ n {x : (Nat → Nat) × (Nat → Option Nat)}, Inv x.1 x.2 → n ≤ hldN x.1 x.2 s → hldN (krn s n x).1 (krn s n x).2 s + n = hldN x.1 x.2 s := by
  intro n
  induction n with
  | zero => intro x h _; rfl
  | succ n ih =>
    intro x h hn
    have := krm_hld (x := x) (s := s) h (by omega)
    have i := ih (krm_Inv (s := s) h) (by omega)
    show hldN (krn s n (krm s x)).1 (krn s n (krm s x)).2 s + (n + 1) = _
    omega
theorem krn_oth {s q : Nat} (hq : q ≠ s) : ∀ n {x : (Nat → Nat) × (Nat → Option Nat)}, Inv x.1 x.2 → hldN (krn s n x).1 (krn s n x).2 q = hldN x.1 x.2 q := by
  intro n
  induction n with
  | zero => intro x h; rfl
  | succ n ih =>
    intro x h
    show hldN (krn s n (krm s x)).1 (krn s n (krm s x)).2 q = _
    rw [ih (krm_Inv (s := s) h), krm_oth h hq]
theorem kpA_cap : ∀ k {x : (Nat → Nat) × (Nat → Option Nat)}, Inv x.1 x.2 → k ≤ 8 → ∀ s, s < k → hldN (kpA k x).1 (kpA k x).2 s ≤ (kpA k x).1 (20 + s) := by
  intro k
  induction k with
  | zero => intro x h _ s hs; omega
  | succ k ih =>
    intro x h hk s hs
    have IK := kpA_Inv k h
    have z : (kpS k (kpA k x)).1 (20 + s) = (kpA k x).1 (20 + s) := (krn_Q _ IK).2 _ (by omega)
    show hldN (kpS k (kpA k x)).1 (kpS k (kpA k x)).2 s ≤ (kpS k (kpA k x)).1 (20 + s)
    rw [z]
    by_cases e : s = k
    · subst e
      have := krn_hld (s := s) (hldN (kpA s x).1 (kpA s x).2 s - (kpA s x).1 (20 + s)) IK (by omega)
      unfold kpS
      omega
    · unfold kpS
      rw [krn_oth e _ IK]
      exact ih h (by omega) s (by omega)
theorem e_tries (hI : Inv v pl) {nx : Nat → Nat} {c : Nat} (hc : c < v 1) (hT : T c = nN (nx c)) (hx : nx c ≤ 4) : p_X7_tries m (nN c) (ovl B m g (up2 (up2 a 8 T) 1 (enc v pl))) = some (bI (tryB v pl nx c = true)) := by
  have h1 := hI.h1
  have hch := hI.chi c (by omega)
  have e1 := e_isHere (B := B) (m := m) (g := g) (a := up2 (up2 a 8 T) 1 (enc v pl)) up2_s hI (c := c) (by omega)
  unfold p_X7_tries tryB
  rw [oc, bS, e1, bS]
  by_cases c1 : v (404 + c) = 0
  · rw [← bI_t c1, if_neg (by decide), or_0, bS]
    simp only [nN_lit, nN_add, mI_lit]
    rw [er_p (by omega), bS]
    cases hp : pl c with
    | none =>
      rw [if_pos (show oN none = mI from rfl), or_10, bS, en_d, rd_nN (by omega) (by omega), bS, bS, er_v (by omega) (by omega), bS, hT]
      by_cases c2 : nx c < v (324 + c)
      · rw [if_neg (nle_f (by omega) (by omega) (by omega)), ← bI_t (by simp [c1, c2])]
      · rw [if_pos (nle_t (by omega) (by omega) (by omega)), ← bI_f (by simp [c2])]
    | some s =>
      have := hI.plb c s hp
      rw [if_neg (show ¬ oN (some s) = mI from nNm (by omega)), ← bI_f (by simp)]
  · rw [← bI_f c1, if_pos (by rfl), ← bI_f (by simp [c1])]; rfl
end RAL
