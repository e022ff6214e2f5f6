/-! the reference's allocation -/
def zr (b k : Nat) (v : Nat → Nat) : Nat → Nat := fun i => if b ≤ i ∧ i < b + k then 0 else v i
theorem zr_0 {b : Nat} {v : Nat → Nat} : zr b 0 v = v := funext fun i => if_neg (by omega)
theorem zr_s {b k : Nat} {v : Nat → Nat} : updN (zr b k v) (b + k) 0 = zr b (k + 1) v := by
  funext i
  unfold updN zr
  by_cases c : i = b + k
  · rw [if_pos c, if_pos (by omega)]
  · rw [if_neg c]
    by_cases c2 : b ≤ i ∧ i < b + k
    · rw [if_pos c2, if_pos (by omega)]
    · rw [if_neg c2, if_neg (by omega)]
def z2 (k : Nat) (v : Nat → Nat) : Nat → Nat := fun i => if (444 ≤ i ∧ i < 444 + k) ∨ (524 ≤ i ∧ i < 524 + k) then 0 else v i
theorem z2_0 {v : Nat → Nat} : z2 0 v = v := funext fun i => if_neg (by omega)
theorem z2_s {k : Nat} {v : Nat → Nat} : updN (updN (z2 k v) (444 + k) 0) (524 + k) 0 = z2 (k + 1) v := by
  funext i
  unfold updN z2
  by_cases c : i = 524 + k
  · rw [if_pos c, if_pos (by omega)]
  · rw [if_neg c]
    by_cases c3 : i = 444 + k
    · rw [if_pos c3, if_pos (by omega)]
    · rw [if_neg c3]
      by_cases c2 : (444 ≤ i ∧ i < 444 + k) ∨ (524 ≤ i ∧ i < 524 + k)
      · rw [if_pos c2, if_pos (by omega)]
      · rw [if_neg c2, if_neg (by omega)]
theorem tb_eq (v : Nat → Nat) : z2 40 (zr 60 8 (updN (updN (updN v 8 1) 9 0) 10 0)) = tbS v := by
  funext i
  unfold z2 zr updN tbS
  by_cases c1 : i = 8
  · subst c1; rfl
  · rw [if_neg c1]
    by_cases c2 : i = 9 ∨ i = 10 ∨ (60 ≤ i ∧ i < 68) ∨ (444 ≤ i ∧ i < 484) ∨ (524 ≤ i ∧ i < 564)
    · rw [if_pos c2]
      (repeat' split) <;> first | rfl | (exfalso; omega)
    · rw [if_neg c2, if_neg (by omega), if_neg (by omega), if_neg (by omega), if_neg (by omega), if_neg c1]
def noP (k : Nat) (p : Nat → Option Nat) : Nat → Option Nat := fun c => if c < k then none else p c
theorem noP_0 {p : Nat → Option Nat} : noP 0 p = p := funext fun i => if_neg (by omega)
theorem noP_s {k : Nat} {p : Nat → Option Nat} : updO (noP k p) k none = noP (k + 1) p := by
  funext i
  unfold updO noP
  by_cases c : i = k
  · rw [if_pos c, if_pos (by omega)]
  · rw [if_neg c]
    by_cases c2 : i < k
    · rw [if_pos c2, if_pos (by omega)]
    · rw [if_neg c2, if_neg (by omega)]
def zT (k : Nat) (T : Nat → Int32) : Nat → Int32 := fun c => if c < k then nN 0 else T c
theorem zT_0 {T : Nat → Int32} : zT 0 T = T := funext fun i => if_neg (by omega)
theorem zT_s {k : Nat} {T : Nat → Int32} : upd (zT k T) k (nN 0) = zT (k + 1) T := by
  funext i
  unfold upd zT
  by_cases c : i = k
  · rw [if_pos c, if_pos (by omega)]
  · rw [if_neg c]
    by_cases c2 : i < k
    · rw [if_pos c2, if_pos (by omega)]
    · rw [if_neg c2, if_neg (by omega)]
section RA2
variable {B : Mem} {m : Nat} {g : Nat → Int32} {a : Nat → Nat → Int32} {v : Nat → Nat} {pl : Nat → Option Nat}
theorem al_26 (k1 : Mem → Option (Int32 × Mem)) : ∀ d k fu, k + d = 8 → d < fu → pl_X7_allocates_26 k1 m fu (nN k) (ovl B m g (up2 a 1 (enc (zr 60 k v) pl))) = k1 (ovl B m g (up2 a 1 (enc (zr 60 8 v) pl))) := by
  intro d
  induction d with
  | zero =>
    intro k fu hk hf
    obtain ⟨f, rfl⟩ : ∃ f, fu = f + 1 := ⟨fu - 1, by omega⟩
    rw [pl_X7_allocates_26, if_pos (show (8 : Int32) ≤ nN k from nle_t (a := 8) (by omega) (by omega) (by omega)), show k = 8 by omega]
  | succ d ih =>
    intro k fu hk hf
    obtain ⟨f, rfl⟩ : ∃ f, fu = f + 1 := ⟨fu - 1, by omega⟩
    rw [pl_X7_allocates_26, if_neg (show ¬ (8 : Int32) ≤ nN k from nle_f (a := 8) (by omega) (by omega) (by omega)), or_0, bS]
    simp only [nN_lit, nN_add]
    rw [ew_v (by omega) (by omega), bS, zr_s]
    exact ih (k + 1) f (by omega) (by omega)
theorem al_50 (k1 : Mem → Option (Int32 × Mem)) {T : Nat → Int32} : ∀ d k fu, k + d = 40 → d < fu → pl_X7_allocates_50 k1 m fu (nN k) (ovl B m g (up2 (up2 a 8 (zT k T)) 1 (enc (z2 k v) (noP k pl)))) = k1 (ovl B m g (up2 (up2 a 8 (zT 40 T)) 1 (enc (z2 40 v) (noP 40 pl)))) := by
  intro d
  induction d with
  | zero =>
    intro k fu hk hf
    obtain ⟨f, rfl⟩ : ∃ f, fu = f + 1 := ⟨fu - 1, by omega⟩
    rw [pl_X7_allocates_50, if_pos (show (40 : Int32) ≤ nN k from nle_t (a := 40) (by omega) (by omega) (by omega)), show k = 40 by omega]
  | succ d ih =>
    intro k fu hk hf
    obtain ⟨f, rfl⟩ : ∃ f, fu = f + 1 := ⟨fu - 1, by omega⟩
    have e := e_puts (B := B) (m := m) (g := g) (a := up2 a 8 (zT k T)) (v := z2 k v) (pl := noP k pl) (c := k) (x := 0) (p := none) (by omega)
    rw [pl_X7_allocates_50, if_neg (show ¬ (40 : Int32) ≤ nN k from nle_f (a := 40) (by omega) (by omega) (by omega)), oc, bS]
    show Option.bind (p_X7_puts m (nN k) (oN none) (nN 0) _) _ = _
    rw [e, bS, or_0, bS]
    simp only [nN_lit, nN_add]
    rw [ew_v (by omega) (by omega), bS, or_10, bS, en_w (by omega), bS, z2_s, noP_s, zT_s]
    exact ih (k + 1) f (by omega) (by omega)
theorem al_97 (hI : Inv v pl) {nx : Nat → Nat} {st : Nat} (hst : v 9 + 1 = st) (hst2 : st < 2147483648) (hx : ∀ c, nx c ≤ 4) (k1 : Int32 → Mem → Option (Int32 × Mem)) : ∀ d k fu (T : Nat → Int32), (∀ c, c < v 1 → T c = nN (tryX v pl nx k c)) → k + d = v 1 → d < fu → ∃ T', pl_X7_allocates_97 k1 m fu (bI (0 < cnt (fun c => tryB v pl nx c = true) k)) (nN k) (ovl B m g (up2 (up2 a 8 T) 1 (enc (tryV v pl nx st k) (tryP v pl nx k)))) = k1 (bI (0 < cnt (fun c => tryB v pl nx c = true) (v 1))) (ovl B m g (up2 (up2 a 8 T') 1 (enc (tryV v pl nx st (v 1)) (tryP v pl nx (v 1))))) ∧ ∀ c, c < v 1 → T' c = nN (tryX v pl nx (v 1) c) := by
  have h1 := hI.h1
  intro d
  induction d with
  | zero =>
    intro k fu T hT hk hf
    obtain ⟨f, rfl⟩ : ∃ f, fu = f + 1 := ⟨fu - 1, by omega⟩
    have ek : k = v 1 := by omega
    subst ek
    refine ⟨T, ?_, hT⟩
    rw [pl_X7_allocates_97, or_0, bS]
    simp only [nN_lit]
    rw [er_v (by omega) (by omega), bS, tryV_n (by omega), if_pos (nle_t (by omega) (by omega) (by omega))]
  | succ d ih =>
    intro k fu T hT hk hf
    obtain ⟨f, rfl⟩ : ∃ f, fu = f + 1 := ⟨fu - 1, by omega⟩
    have hkv : k < v 1 := by omega
    have IK := try_Inv (nx := nx) (st := st) hI hst2 k (by omega)
    have xk : tryX v pl nx k k = nx k := if_neg (by omega)
    have pk : tryP v pl nx k k = pl k := if_neg (by omega)
    have tk := hT k hkv
    have nk4 := hx k
    have z1 : tryV v pl nx st k 1 = v 1 := tryV_n (by omega)
    have eB : tryB (tryV v pl nx st k) (tryP v pl nx k) (tryX v pl nx k) k = tryB v pl nx k := by
      unfold tryB
      rw [pk, xk, tryV_n (by omega), tryV_n (by omega)]
    have et := e_tries (B := B) (m := m) (g := g) (a := a) (T := T) IK (nx := tryX v pl nx k) (c := k) (by omega) tk (by rw [xk]; exact nk4)
    rw [eB] at et
    rw [xk] at tk
    have cs : cnt (fun c => tryB v pl nx c = true) (k + 1) = cnt (fun c => tryB v pl nx c = true) k + (if tryB v pl nx k = true then 1 else 0) := rfl
    rw [pl_X7_allocates_97, or_0, bS]
    simp only [nN_lit, nN_add, nN_mul]
    rw [er_v (by omega) (by omega), bS, z1, if_neg (nle_f (by omega) (by omega) (by omega)), oc, bS, et, bS]
    by_cases c : tryB v pl nx k = true
    · have c2 := c
      unfold tryB at c2
      simp only [Bool.and_eq_true, decide_eq_true_eq] at c2
      have c3 := (hI.chi k (by omega)).2.2.2.2.2.1
      have ew : tryV v pl nx st k (564 + 4 * k + nx k) = v (564 + 4 * k + nx k) := tryV_n (by omega)
      have e9 : tryV v pl nx st k 9 = v 9 := tryV_n (by omega)
      have i2 := ih (k + 1) f (upd T k (nN (nx k + 1))) (fun c' hc' => by
        rw [← tryX_t c]
        by_cases e : c' = k
        · subst e; rw [pk_us, updN_s]
        · rw [pk_un e, updN_n e]; exact hT c' hc') (by omega) (by omega)
      rw [cs, if_pos c, ← bI_t (by omega)] at i2
      rw [← bI_t c, if_neg (by decide), bS, bS, or_10, bS, en_d, rd_nN (by omega) (by omega), bS, tk]
      simp only [nN_add]
      rw [er_v (by omega) (by omega), bS, ew, ew_s (by omega), bS, or_0, bS, bS, er_v (by omega) (by omega), bS, e9]
      simp only [nN_add]
      rw [hst, ew_v (by omega) (by omega), bS, or_10, bS, en_d, rd_nN (by omega) (by omega), bS, tk]
      simp only [nN_add]
      rw [en_w (by omega), bS, tryP_t c, tryV_t c]
      exact i2
    · have i2 := ih (k + 1) f T (by rw [← tryX_f c]; exact hT) (by omega) (by omega)
      rw [cs, if_neg c, Nat.add_zero, ← tryV_f c, ← tryP_f c] at i2
      rw [← bI_f c, if_pos rfl]
      exact i2
theorem al_186 (k1 : Mem → Option (Int32 × Mem)) (y : Int32) {x : (Nat → Nat) × (Nat → Option Nat)} (hI : Inv x.1 x.2) : ∀ d k fu, k + d = x.1 0 → d < fu → pl_X7_allocates_186 k1 m y fu (nN k) (ovl B m g (up2 a 1 (enc (kpA k x).1 (kpA k x).2))) = k1 (ovl B m g (up2 a 1 (enc (kpA (x.1 0) x).1 (kpA (x.1 0) x).2))) := by
  have h0 := hI.h0
  intro d
  induction d with
  | zero =>
    intro k fu hk hf
    obtain ⟨f, rfl⟩ : ∃ f, fu = f + 1 := ⟨fu - 1, by omega⟩
    have z0 := kpA_n0 hI k 0 (by omega)
    rw [pl_X7_allocates_186, or_0, bS]
    simp only [nN_lit]
    rw [er_v (by omega) (by omega), bS, z0, if_pos (nle_t (by omega) (by omega) (by omega)), show k = x.1 0 by omega]
  | succ d ih =>
    intro k fu hk hf
    obtain ⟨f, rfl⟩ : ∃ f, fu = f + 1 := ⟨fu - 1, by omega⟩
    have z0 := kpA_n0 hI k 0 (by omega)
    have e := e_keeps (B := B) (m := m) (g := g) (a := a) (kpA_Inv k hI) (s := k) (by omega)
    rw [pl_X7_allocates_186, or_0, bS]
    simp only [nN_lit, nN_add]
    rw [er_v (by omega) (by omega), bS, z0, if_neg (nle_f (by omega) (by omega) (by omega)), oc, bS, e, bS]
    exact ih (k + 1) f (by omega) (by omega)
theorem tryX_4 (hI : Inv v pl) {nx : Nat → Nat} (hx : ∀ c, nx c ≤ 4) : ∀ c, tryX v pl nx (v 1) c ≤ 4 := fun c => by
  have h1 := hI.h1
  unfold tryX
  by_cases cc : c < v 1 ∧ tryB v pl nx c = true
  · rw [if_pos cc]
    have c2 := cc.2
    unfold tryB at c2
    simp only [Bool.and_eq_true, decide_eq_true_eq] at c2
    have := (hI.chi c (by omega)).2.2.2.2.2.1
    omega
  · rw [if_neg cc]; exact hx c
theorem try_no {nx : Nat → Nat} {st : Nat} (h : cnt (fun c => tryB v pl nx c = true) (v 1) = 0) : tryV v pl nx st (v 1) = v ∧ tryP v pl nx (v 1) = pl ∧ tryX v pl nx (v 1) = nx := by
  have hn := cnt_zero.mp h
  refine ⟨funext fun i => ?_, funext fun i => if_neg (fun z => hn i z.1 z.2), funext fun i => if_neg (fun z => hn i z.1 z.2)⟩
  unfold tryV
  by_cases cc : (524 ≤ i ∧ i < 524 + v 1) ∧ tryB v pl nx (i - 524) = true
  · exact absurd cc.2 (hn _ (by omega))
  · rw [if_neg cc]
theorem alo_go {n st : Nat} {x : (Nat → Nat) × (Nat → Option Nat)} {nx : Nat → Nat} (h : 0 < cnt (fun c => tryB x.1 x.2 nx c = true) (x.1 1)) : alo (n + 1) st x nx = alo n (st + 1) (kpA (x.1 0) (updN (tryV x.1 x.2 nx st (x.1 1)) 9 st, tryP x.1 x.2 nx (x.1 1))) (tryX x.1 x.2 nx (x.1 1)) := by
  show (if _ then _ else _) = _
  rw [if_pos h]
theorem alo_no {n st : Nat} {x : (Nat → Nat) × (Nat → Option Nat)} {nx : Nat → Nat} (h : ¬ 0 < cnt (fun c => tryB x.1 x.2 nx c = true) (x.1 1)) : alo n st x nx = (x, nx) := by
  cases n with
  | zero => rfl
  | succ n => show (if _ then _ else _) = _; rw [if_neg h]
/-- a round's outcome -/
theorem rnd_ok {st : Nat} {x : (Nat → Nat) × (Nat → Option Nat)} {nx : Nat → Nat} (hI : Inv x.1 x.2) (hst : st ≤ 160) : Inv (kpA (x.1 0) (updN (tryV x.1 x.2 nx st (x.1 1)) 9 st, tryP x.1 x.2 nx (x.1 1))).1 (kpA (x.1 0) (updN (tryV x.1 x.2 nx st (x.1 1)) 9 st, tryP x.1 x.2 nx (x.1 1))).2 ∧ sameQ x.1 (kpA (x.1 0) (updN (tryV x.1 x.2 nx st (x.1 1)) 9 st, tryP x.1 x.2 nx (x.1 1))).1 ∧ (kpA (x.1 0) (updN (tryV x.1 x.2 nx st (x.1 1)) 9 st, tryP x.1 x.2 nx (x.1 1))).1 9 = st ∧ (kpA (x.1 0) (updN (tryV x.1 x.2 nx st (x.1 1)) 9 st, tryP x.1 x.2 nx (x.1 1))).1 8 = x.1 8 ∧ ∀ s, s < x.1 0 → hldN (kpA (x.1 0) (updN (tryV x.1 x.2 nx st (x.1 1)) 9 st, tryP x.1 x.2 nx (x.1 1))).1 (kpA (x.1 0) (updN (tryV x.1 x.2 nx st (x.1 1)) 9 st, tryP x.1 x.2 nx (x.1 1))).2 s ≤ (kpA (x.1 0) (updN (tryV x.1 x.2 nx st (x.1 1)) 9 st, tryP x.1 x.2 nx (x.1 1))).1 (20 + s) := by
  have h0 := hI.h0; have h1 := hI.h1
  have IT := try_Inv (nx := nx) (st := st) hI (by omega) (x.1 1) (Nat.le_refl _)
  have QT : sameQ x.1 (tryV x.1 x.2 nx st (x.1 1)) := (tryV_Q (k := x.1 1)).resolve_right (by omega)
  have I2 : Inv (updN (tryV x.1 x.2 nx st (x.1 1)) 9 st) (tryP x.1 x.2 nx (x.1 1)) := IT.w (by unfold okW; omega)
  have Q2 : sameQ x.1 (updN (tryV x.1 x.2 nx st (x.1 1)) 9 st) := QT.t (sameQ.w (by omega))
  refine ⟨kpA_Inv (x.1 0) (x := (updN (tryV x.1 x.2 nx st (x.1 1)) 9 st, tryP x.1 x.2 nx (x.1 1))) I2, Q2.t (kpA_Q (x.1 0) (x := (updN (tryV x.1 x.2 nx st (x.1 1)) 9 st, tryP x.1 x.2 nx (x.1 1))) I2).1, ?_, ?_, ?_⟩
  · rw [kpA_n0 (x := (updN (tryV x.1 x.2 nx st (x.1 1)) 9 st, tryP x.1 x.2 nx (x.1 1))) I2 _ 9 (by omega)]
    show updN (tryV x.1 x.2 nx st (x.1 1)) 9 st 9 = st
    exact updN_s
  · rw [kpA_n0 (x := (updN (tryV x.1 x.2 nx st (x.1 1)) 9 st, tryP x.1 x.2 nx (x.1 1))) I2 _ 8 (by omega)]
    show updN (tryV x.1 x.2 nx st (x.1 1)) 9 st 8 = _
    rw [updN_n (by omega), tryV_n (by omega)]
  · exact kpA_cap (x.1 0) (x := (updN (tryV x.1 x.2 nx st (x.1 1)) 9 st, tryP x.1 x.2 nx (x.1 1))) I2 h0
theorem al_89 (k1 : Mem → Option (Int32 × Mem)) : ∀ n st fu (x : (Nat → Nat) × (Nat → Option Nat)) (nx : Nat → Nat) (T : Nat → Int32), Inv x.1 x.2 → x.1 9 + 1 = st → muS x.1 nx ≤ n → st + n ≤ 161 → (∀ c, nx c ≤ 4) → (∀ s, s < x.1 0 → hldN x.1 x.2 s ≤ x.1 (20 + s)) → (∀ c, c < x.1 1 → T c = nN (nx c)) → n + 1 < fu → ∃ T', pl_X7_allocates_89 k1 m fu (nN 1) (ovl B m g (up2 (up2 a 8 T) 1 (enc x.1 x.2))) = k1 (ovl B m g (up2 (up2 a 8 T') 1 (enc (alo n st x nx).1.1 (alo n st x nx).1.2))) ∧ ∀ c, c < x.1 1 → T' c = nN ((alo n st x nx).2 c) := by
  have base : ∀ n st fu (x : (Nat → Nat) × (Nat → Option Nat)) (nx : Nat → Nat) (T : Nat → Int32), Inv x.1 x.2 → x.1 9 + 1 = st → st ≤ 161 → (∀ c, nx c ≤ 4) → (∀ s, s < x.1 0 → hldN x.1 x.2 s ≤ x.1 (20 + s)) → (∀ c, c < x.1 1 → T c = nN (nx c)) → 1 < fu → ¬ 0 < cnt (fun c => tryB x.1 x.2 nx c = true) (x.1 1) → ∃ T', pl_X7_allocates_89 k1 m fu (nN 1) (ovl B m g (up2 (up2 a 8 T) 1 (enc x.1 x.2))) = k1 (ovl B m g (up2 (up2 a 8 T') 1 (enc (alo n st x nx).1.1 (alo n st x nx).1.2))) ∧ ∀ c, c < x.1 1 → T' c = nN ((alo n st x nx).2 c) := by
    intro n st fu x nx T hI h9 hst hx hcap hT hf hn
    obtain ⟨f, rfl⟩ : ∃ f, fu = f + 2 := ⟨fu - 2, by omega⟩
    have h0 := hI.h0; have h1 := hI.h1
    rw [alo_no hn]
    obtain ⟨eV, eP, eX⟩ := try_no (st := st) (show cnt (fun c => tryB x.1 x.2 nx c = true) (x.1 1) = 0 by omega)
    obtain ⟨T1, q1, X1⟩ := al_97 (B := B) (m := m) (g := g) (a := a) hI (nx := nx) h9 (by omega) hx (fun z39 M40 => pl_X7_allocates_186 (fun M46 => Option.bind (gR 6 0 M46 m) fun v47 => Option.bind (aI 0 M46 v47 (9 : Int32)) fun v48 => if z39 = 0 then Option.bind (aIs M46 v47 (9 : Int32) (v48 + (0 : Int32))) fun M50 => pl_X7_allocates_89 k1 m (f + 1) z39 M50 else Option.bind (aIs M46 v47 (9 : Int32) (v48 + (1 : Int32))) fun M51 => pl_X7_allocates_89 k1 m (f + 1) z39 M51) m z39 FU (0 : Int32) M40) (x.1 1) 0 FU T (by rw [tryX_0]; exact hT) (by omega) (FU_pos (by omega))
    rw [tryV_0, tryP_0, eV, eP, ← bI_f hn] at q1
    rw [eX] at X1
    refine ⟨T1, ?_, X1⟩
    rw [pl_X7_allocates_89, if_neg (by decide)]
    refine q1.trans ?_
    have q2 := al_186 (B := B) (m := m) (g := g) (a := up2 a 8 T1) (fun M46 => Option.bind (gR 6 0 M46 m) fun v47 => Option.bind (aI 0 M46 v47 (9 : Int32)) fun v48 => if nN 0 = 0 then Option.bind (aIs M46 v47 (9 : Int32) (v48 + (0 : Int32))) fun M50 => pl_X7_allocates_89 k1 m (f + 1) (nN 0) M50 else Option.bind (aIs M46 v47 (9 : Int32) (v48 + (1 : Int32))) fun M51 => pl_X7_allocates_89 k1 m (f + 1) (nN 0) M51) (nN 0) hI (x.1 0) 0 FU (by omega) (FU_pos (by omega))
    refine Eq.trans q2 ?_
    rw [kpA_full (x.1 0) hcap]
    show Option.bind (gR 6 0 _ m) _ = _
    rw [or_0, bS]
    show Option.bind (aI 0 _ (m + 1) (nN 9)) _ = _
    rw [er_v (by omega) (by omega), bS, if_pos (by rfl)]
    have e0 : nN (x.1 9) + (0 : Int32) = nN (x.1 9) := nN_add _ 0
    rw [e0]
    show Option.bind (aIs _ (m + 1) (nN 9) _) _ = _
    rw [ew_v (by omega) (by omega), bS, updN_id, pl_X7_allocates_89, if_pos (by rfl)]
  intro n
  induction n with
  | zero =>
    intro st fu x nx T hI h9 hm hst hx hcap hT hf
    have h1 := hI.h1
    refine base 0 st fu x nx T hI h9 (by omega) hx hcap hT (by omega) (fun z => ?_)
    have := mu_dec (sameQ.r x.1) h1 z
    omega
  | succ n ih =>
    intro st fu x nx T hI h9 hm hst hx hcap hT hf
    by_cases hc : 0 < cnt (fun c => tryB x.1 x.2 nx c = true) (x.1 1)
    · obtain ⟨f, rfl⟩ : ∃ f, fu = f + 1 := ⟨fu - 1, by omega⟩
      have h0 := hI.h0; have h1 := hI.h1
      obtain ⟨I3, Q3, e9, e8, cap3⟩ := rnd_ok (st := st) (nx := nx) hI (by omega)
      have md := mu_dec Q3 h1 hc
      rw [alo_go hc]
      obtain ⟨T1, q1, X1⟩ := al_97 (B := B) (m := m) (g := g) (a := a) hI (nx := nx) h9 (by omega) hx (fun z39 M40 => pl_X7_allocates_186 (fun M46 => Option.bind (gR 6 0 M46 m) fun v47 => Option.bind (aI 0 M46 v47 (9 : Int32)) fun v48 => if z39 = 0 then Option.bind (aIs M46 v47 (9 : Int32) (v48 + (0 : Int32))) fun M50 => pl_X7_allocates_89 k1 m f z39 M50 else Option.bind (aIs M46 v47 (9 : Int32) (v48 + (1 : Int32))) fun M51 => pl_X7_allocates_89 k1 m f z39 M51) m z39 FU (0 : Int32) M40) (x.1 1) 0 FU T (by rw [tryX_0]; exact hT) (by omega) (FU_pos (by omega))
      rw [tryV_0, tryP_0, ← bI_t hc] at q1
      have IT := try_Inv (nx := nx) (st := st) hI (by omega) (x.1 1) (Nat.le_refl _)
      have t0 : tryV x.1 x.2 nx st (x.1 1) 0 = x.1 0 := tryV_n (by omega)
      have k9 := kpA_9 (y := st) (x.1 0) (x := (tryV x.1 x.2 nx st (x.1 1), tryP x.1 x.2 nx (x.1 1))) IT h0
      have n9 : (kpA (x.1 0) (tryV x.1 x.2 nx st (x.1 1), tryP x.1 x.2 nx (x.1 1))).1 9 = x.1 9 := by
        rw [kpA_n0 (x := (tryV x.1 x.2 nx st (x.1 1), tryP x.1 x.2 nx (x.1 1))) IT _ 9 (by omega)]
        show tryV x.1 x.2 nx st (x.1 1) 9 = x.1 9
        exact tryV_n (by omega)
      have z1 : (kpA (x.1 0) (updN (tryV x.1 x.2 nx st (x.1 1)) 9 st, tryP x.1 x.2 nx (x.1 1))).1 1 = x.1 1 := Q3 1 (by omega)
      have z0 : (kpA (x.1 0) (updN (tryV x.1 x.2 nx st (x.1 1)) 9 st, tryP x.1 x.2 nx (x.1 1))).1 0 = x.1 0 := Q3 0 (by omega)
      obtain ⟨T2, q3, X3⟩ := ih (st + 1) f (kpA (x.1 0) (updN (tryV x.1 x.2 nx st (x.1 1)) 9 st, tryP x.1 x.2 nx (x.1 1))) (tryX x.1 x.2 nx (x.1 1)) T1 I3 (by omega) (by omega) (by omega) (tryX_4 hI hx) (by rw [z0]; exact cap3) (by rw [z1]; exact X1) (by omega)
      rw [z1] at X3
      refine ⟨T2, ?_, X3⟩
      rw [pl_X7_allocates_89, if_neg (by decide)]
      refine q1.trans ?_
      have q2 := al_186 (B := B) (m := m) (g := g) (a := up2 a 8 T1) (fun M46 => Option.bind (gR 6 0 M46 m) fun v47 => Option.bind (aI 0 M46 v47 (9 : Int32)) fun v48 => if nN 1 = 0 then Option.bind (aIs M46 v47 (9 : Int32) (v48 + (0 : Int32))) fun M50 => pl_X7_allocates_89 k1 m f (nN 1) M50 else Option.bind (aIs M46 v47 (9 : Int32) (v48 + (1 : Int32))) fun M51 => pl_X7_allocates_89 k1 m f (nN 1) M51) (nN 1) (x := (tryV x.1 x.2 nx st (x.1 1), tryP x.1 x.2 nx (x.1 1))) IT (x.1 0) 0 FU (by show 0 + x.1 0 = tryV x.1 x.2 nx st (x.1 1) 0; omega) (FU_pos (by omega))
      have t0' : ((tryV x.1 x.2 nx st (x.1 1), tryP x.1 x.2 nx (x.1 1)) : (Nat → Nat) × (Nat → Option Nat)).1 0 = x.1 0 := t0
      rw [t0'] at q2
      refine Eq.trans q2 ?_
      show Option.bind (gR 6 0 _ m) _ = _
      rw [or_0, bS]
      show Option.bind (aI 0 _ (m + 1) (nN 9)) _ = _
      rw [er_v (by omega) (by omega), bS, if_neg (by decide), n9]
      have e0 : nN (x.1 9) + (1 : Int32) = nN st := by rw [← h9]; exact nN_add _ 1
      rw [e0]
      show Option.bind (aIs _ (m + 1) (nN 9) _) _ = _
      rw [ew_v (by omega) (by omega), bS]
      rw [k9] at q3
      rw [k9]
      exact q3
    · exact base (n + 1) st fu x nx T hI h9 (by omega) hx hcap hT (by omega) hc
theorem e_allocates (hI : Inv v pl) : ∃ T', p_X7_allocates m (ovl B m g (up2 a 1 (enc v pl))) = some (nN ((alo 160 1 (tbS v, fun _ => none) (fun _ => 0)).1.1 9), (ovl B m g (up2 (up2 a 8 T') 1 (enc (alo 160 1 (tbS v, fun _ => none) (fun _ => 0)).1.1 (alo 160 1 (tbS v, fun _ => none) (fun _ => 0)).1.2)))) ∧ ∀ c, c < v 1 → T' c = nN ((alo 160 1 (tbS v, fun _ => none) (fun _ => 0)).2 c) := by
  have h1 := hI.h1
  have IT := tbS_Inv hI
  have y1 : tbS v 1 = v 1 := tbS_Q v 1 (by omega)
  have np : noP 40 pl = fun _ => none := funext fun c => by
    unfold noP
    by_cases h : c < 40
    · rw [if_pos h]
    · rw [if_neg h]
      cases hp : pl c with
      | none => rfl
      | some s => have := (hI.plc c s hp).1; omega
  obtain ⟨T', q, X⟩ := al_89 (B := B) (m := m) (g := g) (a := a) (fun M52 => Option.bind (gR 6 0 M52 m) fun v53 => Option.bind (aI 0 M52 v53 (9 : Int32)) fun v54 => some (v54, M52)) 160 1 FU (tbS v, fun _ => none) (fun _ => 0) (zT 40 (a 8)) IT (by show tbS v 9 + 1 = 1; rw [tbS_0 (by omega)]) (mu_le IT _) (by omega) (fun _ => Nat.zero_le _) (fun s hs => by
    have : hldN (tbS v) (fun _ => none) s = 0 := cnt_zero.mpr (fun k hk z => by cases z)
    show hldN (tbS v) (fun _ => none) s ≤ _
    omega) (fun c hc => if_pos (by have : c < tbS v 1 := hc; omega)) (FU_pos (by omega))
  refine ⟨T', ?_, fun c hc => X c (by show c < tbS v 1; omega)⟩
  unfold p_X7_allocates
  rw [or_0, bS]
  simp only [nN_lit]
  rw [ew_v (by omega) (by omega), bS, or_0, bS, ew_v (by omega) (by omega), bS, or_0, bS, ew_v (by omega) (by omega), bS]
  have q26 := al_26 (B := B) (m := m) (g := g) (a := a) (v := updN (updN (updN v 8 1) 9 0) 10 0) (pl := pl) (fun M10 => pl_X7_allocates_50 (fun M18 => pl_X7_allocates_89 (fun M52 => Option.bind (gR 6 0 M52 m) fun v53 => Option.bind (aI 0 M52 v53 (nN 9)) fun v54 => some (v54, M52)) m FU (nN 1) M18) m FU (nN 0) M10) 8 0 FU (by omega) (FU_pos (by omega))
  rw [zr_0] at q26
  refine q26.trans ?_
  have q50 := al_50 (B := B) (m := m) (g := g) (a := a) (v := zr 60 8 (updN (updN (updN v 8 1) 9 0) 10 0)) (pl := pl) (T := a 8) (fun M18 => pl_X7_allocates_89 (fun M52 => Option.bind (gR 6 0 M52 m) fun v53 => Option.bind (aI 0 M52 v53 (nN 9)) fun v54 => some (v54, M52)) m FU (nN 1) M18) 40 0 FU (by omega) (FU_pos (by omega))
  rw [z2_0, noP_0, zT_0, up2_id, tb_eq, np] at q50
  refine Eq.trans q50 ?_
  refine Eq.trans q ?_
  show Option.bind (gR 6 0 _ m) _ = _
  rw [or_0, bS]
  show Option.bind (aI 0 _ (m + 1) (nN 9)) _ = _
  rw [er_v (by omega) (by omega), bS]
end RA2
