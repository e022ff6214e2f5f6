/-! the figures in floating point: what is used of the machine's arithmetic is FLT; it is proved in the last part -/
section FL1
abbrev dOK (w : UInt64) : Prop := w &&& 0x7fffffffffffffff ≤ 0x7ff0000000000000
abbrev fOK (w : UInt32) : Prop := w &&& 0x7fffffff ≤ 0x7f800000
def FLT : Prop := ∃ PD : UInt64 → Prop, (∀ w, PD w → dOK w ∧ fOK (FP.d2f w) ∧ dOK (FP.f2d (FP.d2f w))) ∧ PD FP.dconst0 ∧ (∀ s : Nat, s < 2147483648 → PD (FP.i2d (nN s))) ∧ (∀ a b, PD a → PD b → PD (FP.dadd a b)) ∧ (∀ (s : Nat) r, 0 < s → s < 2147483648 → PD r → PD (FP.ddiv (FP.i2d (nN s)) r)) ∧ (∀ r, PD r → PD (FP.ddiv r (4611686018427387904 : UInt64))) ∧ (∀ (s : Nat) r, 0 < s → s < 2147483648 → PD r → dOK (FP.ddiv r (FP.i2d (nN s)))) ∧ (∀ x y : Nat, 0 < y → y < 2147483648 → fOK (FP.fdiv (FP.i2f (nN x)) (FP.i2f (nN y))) ∧ dOK (FP.f2d (FP.fdiv (FP.i2f (nN x)) (FP.i2f (nN y))))) ∧ (∀ s : Nat, 0 < s → s < 2147483648 → ¬ (Op.cmpValue (FP.dcmp (FP.i2d (nN s)) FP.dconst0) .l) = 0) ∧ (Op.cmpValue (FP.dcmp (FP.i2d (nN 0)) FP.dconst0) .l) = 0 ∧ dOK (FP.f2d FP.fconst0) ∧ dOK (FP.f2d (3212836864 : UInt32)) ∧ ∀ w : UInt32, dOK (FP.f2d w) → (Op.cmpValue (FP.dcmp (FP.f2d w) (FP.f2d w)) .l) = 0
def rtF (x : UInt64) : Nat → UInt64 → UInt64
  | 0, r => r
  | n + 1, r => rtF x n (FP.ddiv (FP.dadd r (FP.ddiv x r)) (4611686018427387904 : UInt64))
def rtD (s : Nat) : UInt64 := if s = 0 then FP.dconst0 else rtF (FP.i2d (nN s)) 60 (FP.i2d (nN s))
def PDX (PD : UInt64 → Prop) : Prop := (∀ w, PD w → dOK w) ∧ PD FP.dconst0 ∧ (∀ s : Nat, s < 2147483648 → PD (FP.i2d (nN s))) ∧ (∀ a b, PD a → PD b → PD (FP.dadd a b)) ∧ (∀ (s : Nat) r, 0 < s → s < 2147483648 → PD r → PD (FP.ddiv (FP.i2d (nN s)) r)) ∧ (∀ r, PD r → PD (FP.ddiv r (4611686018427387904 : UInt64)))
variable {PD : UInt64 → Prop}
theorem c_rtl (hP : PDX PD) {s : Nat} (hs : 0 < s) (hs2 : s < 2147483648) (k1 : UInt64 → Option UInt64) (M : Mem) : ∀ d k fu r, k + d = 60 → d < fu → PD r → pl_X6_root_14 k1 (FP.i2d (nN s)) M fu r (nN k) = k1 (rtF (FP.i2d (nN s)) d r) ∧ PD (rtF (FP.i2d (nN s)) d r) := by
  obtain ⟨p1, p2, p3, p4, p5, p6⟩ := hP
  intro d
  induction d with
  | zero =>
    intro k fu r hk hf hr
    obtain ⟨f, rfl⟩ : ∃ f, fu = f + 1 := ⟨fu - 1, by omega⟩
    refine ⟨?_, hr⟩
    rw [pl_X6_root_14, if_pos (show (60 : Int32) ≤ nN k from nle_t (a := 60) (by omega) (by omega) (by omega))]
    rfl
  | succ d ih =>
    intro k fu r hk hf hr
    obtain ⟨f, rfl⟩ : ∃ f, fu = f + 1 := ⟨fu - 1, by omega⟩
    have ek : nN k + (1 : Int32) = nN (k + 1) := nN_add k 1
    have h1 := p5 s r hs hs2 hr
    have h2 := p4 _ _ hr h1
    have h3 := p6 _ h2
    obtain ⟨q1, q2⟩ := ih (k + 1) f _ (by omega) (by omega) h3
    refine ⟨?_, q2⟩
    rw [pl_X6_root_14, if_neg (show ¬ (60 : Int32) ≤ nN k from nle_f (a := 60) (by omega) (by omega) (by omega)), jn_def, if_pos (p1 _ h1), jn_def, if_pos (p1 _ h2), jn_def, if_pos (p1 _ h3), ek, q1]
    rfl
theorem e_rtl (hP : PDX PD) {s : Nat} (hs : 0 < s) (hs2 : s < 2147483648) (k1 : UInt64 → Option UInt64) (M : Mem) : ∀ d k fu r, k + d = 60 → d < fu → PD r → pl_X7_root_13 k1 (FP.i2d (nN s)) M fu r (nN k) = k1 (rtF (FP.i2d (nN s)) d r) := by
  obtain ⟨p1, p2, p3, p4, p5, p6⟩ := hP
  intro d
  induction d with
  | zero =>
    intro k fu r hk hf hr
    obtain ⟨f, rfl⟩ : ∃ f, fu = f + 1 := ⟨fu - 1, by omega⟩
    rw [pl_X7_root_13, if_pos (show (60 : Int32) ≤ nN k from nle_t (a := 60) (by omega) (by omega) (by omega))]
    rfl
  | succ d ih =>
    intro k fu r hk hf hr
    obtain ⟨f, rfl⟩ : ∃ f, fu = f + 1 := ⟨fu - 1, by omega⟩
    have ek : nN k + (1 : Int32) = nN (k + 1) := nN_add k 1
    have h1 := p5 s r hs hs2 hr
    have h2 := p4 _ _ hr h1
    have h3 := p6 _ h2
    rw [pl_X7_root_13, if_neg (show ¬ (60 : Int32) ≤ nN k from nle_f (a := 60) (by omega) (by omega) (by omega)), jn_def, if_pos (p1 _ h1), jn_def, if_pos (p1 _ h2), jn_def, if_pos (p1 _ h3), ek, ih (k + 1) f _ (by omega) (by omega) h3]
    rfl
theorem c_root (hP : PDX PD) {s : Nat} (hs2 : s < 2147483648) {M : Mem} : p_X6_root (nN s) M = some (rtD s) ∧ PD (rtD s) := by
  unfold p_X6_root rtD
  by_cases h : s = 0
  · subst h
    rw [if_neg (show ¬ (0 : Int32) < nN 0 by decide), if_pos rfl]
    exact ⟨rfl, hP.2.1⟩
  · rw [if_pos (show (0 : Int32) < nN s from nlt_t (a := 0) (by omega) (by omega) (by omega)), if_neg h]
    exact c_rtl hP (by omega) hs2 (fun z6 => some z6) M 60 0 FU _ (by omega) (FU_pos (by omega)) (hP.2.2.1 s hs2)
theorem e_root (hP : PDX PD) (hz1 : ∀ s : Nat, 0 < s → s < 2147483648 → ¬ (Op.cmpValue (FP.dcmp (FP.i2d (nN s)) FP.dconst0) .l) = 0) (hz0 : (Op.cmpValue (FP.dcmp (FP.i2d (nN 0)) FP.dconst0) .l) = 0) {s : Nat} (hs2 : s < 2147483648) {M : Mem} : p_X7_root (FP.i2d (nN s)) M = some (rtD s) := by
  unfold p_X7_root rtD
  by_cases h : s = 0
  · subst h
    rw [if_pos hz0, if_pos rfl]
  · rw [if_neg (hz1 s (by omega) hs2), if_neg h]
    exact e_rtl hP (by omega) hs2 (fun z6 => some z6) M 60 0 FU _ (by omega) (FU_pos (by omega)) (hP.2.2.1 s hs2)
end FL1
section FL2
variable {B : Mem} {m : Nat} {g : Nat → Int32} {a : Nat → Nat → Int32} {v : Nat → Nat} {pl : Nat → Option Nat}
theorem cnt_not {P : Nat → Prop} [DecidablePred P] {n : Nat} : cnt (fun k => ¬ P k) n + cnt P n = n := by
  induction n with
  | zero => rfl
  | succ n ih =>
    show cnt (fun k => ¬ P k) n + (if ¬ P n then 1 else 0) + (cnt P n + (if P n then 1 else 0)) = n + 1
    by_cases e : P n
    · rw [if_neg (fun h => h e), if_pos e]; omega
    · rw [if_pos e, if_neg e]; omega
theorem e_placed (hI : Inv v pl) : p_X7_placed m (ovl B m g (up2 a 1 (enc v pl))) = some (nN (cnt (fun k => pl k ≠ none) (v 1))) := by
  have h1 := hI.h1
  unfold p_X7_placed
  have e1 : aI 0 (ovl B m g (up2 a 1 (enc v pl))) (m + 1) (1 : Int32) = some (nN (v 1)) := er_v (i := 1) (by omega) (by omega)
  have e2 : p_X7_childrenWith m (484 : Int32) (-1 : Int32) (ovl B m g (up2 a 1 (enc v pl))) = some (nN (cnt (fun k => pl k = none) (v 1))) := e_childrenFree (B := B) (m := m) (g := g) (a := up2 a 1 (enc v pl)) up2_s hI
  have e3 := cnt_not (P := fun k => pl k = none) (n := v 1)
  have e4 : cnt (fun k => ¬ pl k = none) (v 1) = cnt (fun k => pl k ≠ none) (v 1) := cnt_c (fun k hk => Iff.rfl)
  rw [or_0, bS, e1, bS, oc, bS, e2, bS, nN_subN (by omega), show v 1 - cnt (fun k => pl k = none) (v 1) = cnt (fun k => pl k ≠ none) (v 1) by omega]
theorem got_nn (hI : Inv v pl) {k : Nat} : (gotO v pl k ≠ none) ↔ pl k ≠ none := by
  constructor
  · intro h hp
    exact h (by unfold gotO; rw [hp])
  · intro h hg
    cases hp : pl k with
    | none => exact h hp
    | some s =>
      obtain ⟨j, hj⟩ := got_ex hI hp
      rw [hg] at hj; cases hj
/-- the sum of the wishes' numbers -/
def gsm (v : Nat → Nat) (pl : Nat → Option Nat) (k : Nat) : Nat := match gotO v pl k with
  | none => 0
  | some i => i + 1
theorem c_fs {N : Mem} {z r : Nat} (hI : Inv v pl) (h5 : gR 5 3 N z = some r) (h1' : gI 2 1 N r = some (nN (v 1))) (hc : isC 2 N r = some ()) (hg : ∀ k, k < v 1 → p_X2_gotWish r (nN k) N = some (oN (gotO v pl k))) (k1 : Int32 → Int32 → Option UInt32) : ∀ d k fu, k + d = v 1 → d < fu → pl_X6_firstShare_6 k1 z N fu (nN (cnt (fun k => gotO v pl k ≠ none) k)) (nN (cnt (fun k => gotO v pl k = some 0) k)) (nN k) = k1 (nN (cnt (fun k => gotO v pl k ≠ none) (v 1))) (nN (cnt (fun k => gotO v pl k = some 0) (v 1))) := by
  have h1 := hI.h1
  intro d
  induction d with
  | zero =>
    intro k fu hk hf
    obtain ⟨f, rfl⟩ : ∃ f, fu = f + 1 := ⟨fu - 1, by omega⟩
    rw [pl_X6_firstShare_6, h5, bS, h1', bS, if_pos (nle_t (by omega) (by omega) (by omega)), show k = v 1 by omega]
  | succ d ih =>
    intro k fu hk hf
    obtain ⟨f, rfl⟩ : ∃ f, fu = f + 1 := ⟨fu - 1, by omega⟩
    have ek : nN k + (1 : Int32) = nN (k + 1) := nN_add k 1
    have e1 : ∀ x, nN x + (1 : Int32) = nN (x + 1) := fun x => nN_add x 1
    have e0 : ∀ x, nN x + (0 : Int32) = nN x := fun x => nN_add x 0
    have c1 : cnt (fun k => gotO v pl k ≠ none) (k + 1) = cnt (fun k => gotO v pl k ≠ none) k + (if gotO v pl k ≠ none then 1 else 0) := rfl
    have c2 : cnt (fun k => gotO v pl k = some 0) (k + 1) = cnt (fun k => gotO v pl k = some 0) k + (if gotO v pl k = some 0 then 1 else 0) := rfl
    have i1 := ih (k + 1) f (by omega) (by omega)
    rw [pl_X6_firstShare_6, h5, bS, h1', bS, if_neg (nle_f (by omega) (by omega) (by omega)), bS, hc, bS, hg k (by omega), bS, jn_def]
    cases hgk : gotO v pl k with
    | none =>
      rw [c1, c2, if_neg (fun h => h hgk), if_neg (by rw [hgk]; exact fun h => by cases h), Nat.add_zero, Nat.add_zero] at i1
      rw [if_pos (show oN none < (0 : Int32) by decide)]
      show jn _ _ = _
      rw [jn_def, if_neg (show ¬ oN none = (0 : Int32) by decide)]
      show pl_X6_firstShare_6 _ _ _ f (nN _ + (0 : Int32)) (nN _ + (0 : Int32)) (nN k + (1 : Int32)) = _
      rw [e0, e0, ek]
      exact i1
    | some i =>
      have i4 := got_b hI (by omega) hgk
      rw [c1, if_pos (by rw [hgk]; exact fun h => by cases h)] at i1
      rw [if_neg (show ¬ oN (some i) < (0 : Int32) from nN_neg0 (by omega))]
      show jn _ _ = _
      rw [jn_def]
      by_cases ei : i = 0
      · rw [c2, if_pos (by rw [hgk, ei])] at i1
        rw [if_pos (show oN (some i) = (0 : Int32) by rw [ei]; rfl)]
        show pl_X6_firstShare_6 _ _ _ f (nN _ + (1 : Int32)) (nN _ + (1 : Int32)) (nN k + (1 : Int32)) = _
        rw [e1, e1, ek]
        exact i1
      · rw [c2, if_neg (by rw [hgk]; exact fun h => ei (Option.some.inj h)), Nat.add_zero] at i1
        rw [if_neg (show ¬ oN (some i) = (0 : Int32) from neq_f (b := 0) (by omega) (by omega) ei)]
        show pl_X6_firstShare_6 _ _ _ f (nN _ + (1 : Int32)) (nN _ + (0 : Int32)) (nN k + (1 : Int32)) = _
        rw [e1, e0, ek]
        exact i1
theorem c_mp {N : Mem} {z r : Nat} (hI : Inv v pl) (h5 : gR 5 3 N z = some r) (h1' : gI 2 1 N r = some (nN (v 1))) (hc : isC 2 N r = some ()) (hg : ∀ k, k < v 1 → p_X2_gotWish r (nN k) N = some (oN (gotO v pl k))) (k1 : Int32 → Int32 → Option UInt64) : ∀ d k fu, k + d = v 1 → d < fu → pl_X6_meanPreference_6 k1 z N fu (nN (cnt (fun k => gotO v pl k ≠ none) k)) (nN (fb_sm (gsm v pl) k)) (nN k) = k1 (nN (cnt (fun k => gotO v pl k ≠ none) (v 1))) (nN (fb_sm (gsm v pl) (v 1))) := by
  have h1 := hI.h1
  intro d
  induction d with
  | zero =>
    intro k fu hk hf
    obtain ⟨f, rfl⟩ : ∃ f, fu = f + 1 := ⟨fu - 1, by omega⟩
    rw [pl_X6_meanPreference_6, h5, bS, h1', bS, if_pos (nle_t (by omega) (by omega) (by omega)), show k = v 1 by omega]
  | succ d ih =>
    intro k fu hk hf
    obtain ⟨f, rfl⟩ : ∃ f, fu = f + 1 := ⟨fu - 1, by omega⟩
    have ek : nN k + (1 : Int32) = nN (k + 1) := nN_add k 1
    have e1 : ∀ x, nN x + (1 : Int32) = nN (x + 1) := fun x => nN_add x 1
    have c1 : cnt (fun k => gotO v pl k ≠ none) (k + 1) = cnt (fun k => gotO v pl k ≠ none) k + (if gotO v pl k ≠ none then 1 else 0) := rfl
    have c2 : fb_sm (gsm v pl) (k + 1) = fb_sm (gsm v pl) k + gsm v pl k := rfl
    have i1 := ih (k + 1) f (by omega) (by omega)
    rw [pl_X6_meanPreference_6, h5, bS, h1', bS, if_neg (nle_f (by omega) (by omega) (by omega)), bS, hc, bS, hg k (by omega), bS]
    cases hgk : gotO v pl k with
    | none =>
      have g0 : gsm v pl k = 0 := by unfold gsm; rw [hgk]
      rw [c1, c2, if_neg (fun h => h hgk), g0, Nat.add_zero, Nat.add_zero] at i1
      rw [if_pos (show oN none < (0 : Int32) by decide), ek]
      exact i1
    | some i =>
      have i4 := got_b hI (by omega) hgk
      have g0 : gsm v pl k = i + 1 := by unfold gsm; rw [hgk]
      rw [c1, c2, if_pos (by rw [hgk]; exact fun h => by cases h), g0] at i1
      rw [if_neg (show ¬ oN (some i) < (0 : Int32) from nN_neg0 (by omega)), ek, e1, show oN (some i) + (1 : Int32) = nN (i + 1) from nN_add i 1, nN_add]
      exact i1
theorem e_mp (hI : Inv v pl) (k1 : Int32 → Option (UInt64 × Mem)) : ∀ d k fu, k + d = v 1 → d < fu → pl_X7_meanPreference_9 k1 m (ovl B m g (up2 a 1 (enc v pl))) fu (nN (fb_sm (gsm v pl) k)) (nN k) = k1 (nN (fb_sm (gsm v pl) (v 1))) := by
  have h1 := hI.h1
  have r1 : aI 0 (ovl B m g (up2 a 1 (enc v pl))) (m + 1) (1 : Int32) = some (nN (v 1)) := er_v (i := 1) (by omega) (by omega)
  intro d
  induction d with
  | zero =>
    intro k fu hk hf
    obtain ⟨f, rfl⟩ : ∃ f, fu = f + 1 := ⟨fu - 1, by omega⟩
    rw [pl_X7_meanPreference_9, or_0, bS, r1, bS, if_pos (nle_t (by omega) (by omega) (by omega)), show k = v 1 by omega]
  | succ d ih =>
    intro k fu hk hf
    obtain ⟨f, rfl⟩ : ∃ f, fu = f + 1 := ⟨fu - 1, by omega⟩
    have ek : nN k + (1 : Int32) = nN (k + 1) := nN_add k 1
    have c2 : fb_sm (gsm v pl) (k + 1) = fb_sm (gsm v pl) k + gsm v pl k := rfl
    have i1 := ih (k + 1) f (by omega) (by omega)
    have es : oN (gotO v pl k) + (1 : Int32) = nN (gsm v pl k) := by
      unfold gsm
      cases hgk : gotO v pl k with
      | none => decide
      | some i => exact nN_add i 1
    rw [pl_X7_meanPreference_9, or_0, bS, r1, bS, if_neg (nle_f (by omega) (by omega) (by omega)), oc, bS, e_gotOf up2_s hI (by omega), bS, es, nN_add, ek, ← c2]
    exact i1
/-- the sum of the ways -/
def wSm (v : Nat → Nat) (pl : Nat → Option Nat) : Nat → UInt64
  | 0 => FP.dconst0
  | k + 1 => match pl k with
    | none => wSm v pl k
    | some s => FP.dadd (wSm v pl k) (rtD (farS v k s))
theorem wSm_n {k : Nat} (h : pl k = none) : wSm v pl (k + 1) = wSm v pl k := by
  show (match pl k with | none => wSm v pl k | some s => FP.dadd (wSm v pl k) (rtD (farS v k s))) = _
  rw [h]
theorem wSm_s {k s : Nat} (h : pl k = some s) : wSm v pl (k + 1) = FP.dadd (wSm v pl k) (rtD (farS v k s)) := by
  show (match pl k with | none => wSm v pl k | some s => FP.dadd (wSm v pl k) (rtD (farS v k s))) = _
  rw [h]
theorem c_mw {PD : UInt64 → Prop} (hP : PDX PD) {N : Mem} {z r b : Nat} (hI : Inv v pl) (h5 : gR 5 3 N z = some r) (h1' : gI 2 1 N r = some (nN (v 1))) (hc : isC 2 N r = some ()) (h16 : gR 2 16 N r = some b) (hp : ∀ k, k < v 1 → aI 0 N b (nN k) = some (oN (pl k))) (hq : ∀ k s, k < v 1 → s < v 0 → p_X2_squareWay r (nN k) (nN s) N = some (nN (farS v k s))) (k1 : Int32 → UInt64 → Option UInt64) : ∀ d k fu, k + d = v 1 → d < fu → PD (wSm v pl k) → pl_X6_meanWay_7 k1 z N fu (nN (cnt (fun k => pl k ≠ none) k)) (wSm v pl k) (nN k) = k1 (nN (cnt (fun k => pl k ≠ none) (v 1))) (wSm v pl (v 1)) ∧ PD (wSm v pl (v 1)) := by
  have h1 := hI.h1
  have h0 := hI.h0
  intro d
  induction d with
  | zero =>
    intro k fu hk hf hw
    obtain ⟨f, rfl⟩ : ∃ f, fu = f + 1 := ⟨fu - 1, by omega⟩
    have ekv : k = v 1 := by omega
    subst ekv
    refine ⟨?_, hw⟩
    rw [pl_X6_meanWay_7, h5, bS, h1', bS, if_pos (nle_t (by omega) (by omega) (by omega))]
  | succ d ih =>
    intro k fu hk hf hw
    obtain ⟨f, rfl⟩ : ∃ f, fu = f + 1 := ⟨fu - 1, by omega⟩
    have ek : nN k + (1 : Int32) = nN (k + 1) := nN_add k 1
    have e1 : ∀ x, nN x + (1 : Int32) = nN (x + 1) := fun x => nN_add x 1
    have c1 : cnt (fun k => pl k ≠ none) (k + 1) = cnt (fun k => pl k ≠ none) k + (if pl k ≠ none then 1 else 0) := rfl
    cases hpk : pl k with
    | none =>
      obtain ⟨i1, i2⟩ := ih (k + 1) f (by omega) (by omega) (by rw [wSm_n hpk]; exact hw)
      refine ⟨?_, i2⟩
      rw [c1, if_neg (fun h => h hpk), Nat.add_zero, wSm_n hpk] at i1
      rw [pl_X6_meanWay_7, h5, bS, h1', bS, if_neg (nle_f (by omega) (by omega) (by omega)), bS, h16, bS, hp k (by omega), bS, hpk, if_pos (show oN none = (-1 : Int32) from rfl), ek]
      exact i1
    | some s =>
      have hs8 := hI.pl8 k s hpk
      have hfar := far_le hI (c := k) (s := s) (by omega) (by omega)
      obtain ⟨r1, r2⟩ := c_root hP (s := farS v k s) (by omega) (M := N)
      have hadd := hP.2.2.2.1 _ _ hw r2
      obtain ⟨i1, i2⟩ := ih (k + 1) f (by omega) (by omega) (by rw [wSm_s hpk]; exact hadd)
      refine ⟨?_, i2⟩
      rw [c1, if_pos (by rw [hpk]; exact fun h => by cases h), wSm_s hpk] at i1
      rw [pl_X6_meanWay_7, h5, bS, h1', bS, if_neg (nle_f (by omega) (by omega) (by omega)), bS, h16, bS, hp k (by omega), bS, hpk, if_neg (show ¬ oN (some s) = (-1 : Int32) from nNm (by omega)), bS, hc, bS, show oN (some s) = nN s from rfl, hq k s (by omega) hs8, bS, r1, bS, jn_def, if_pos (hP.1 _ hadd), ek, e1]
      exact i1
theorem e_mw {PD : UInt64 → Prop} (hP : PDX PD) (hz1 : ∀ s : Nat, 0 < s → s < 2147483648 → ¬ (Op.cmpValue (FP.dcmp (FP.i2d (nN s)) FP.dconst0) .l) = 0) (hz0 : (Op.cmpValue (FP.dcmp (FP.i2d (nN 0)) FP.dconst0) .l) = 0) (hI : Inv v pl) (k1 : UInt64 → Option (UInt64 × Mem)) : ∀ d k fu, k + d = v 1 → d < fu → PD (wSm v pl k) → pl_X7_meanWay_9 k1 m (ovl B m g (up2 a 1 (enc v pl))) fu (wSm v pl k) (nN k) = k1 (wSm v pl (v 1)) := by
  have h1 := hI.h1
  have h0 := hI.h0
  have r1 : aI 0 (ovl B m g (up2 a 1 (enc v pl))) (m + 1) (1 : Int32) = some (nN (v 1)) := er_v (i := 1) (by omega) (by omega)
  intro d
  induction d with
  | zero =>
    intro k fu hk hf hw
    obtain ⟨f, rfl⟩ : ∃ f, fu = f + 1 := ⟨fu - 1, by omega⟩
    rw [pl_X7_meanWay_9, or_0, bS, r1, bS, if_pos (nle_t (by omega) (by omega) (by omega)), show k = v 1 by omega]
  | succ d ih =>
    intro k fu hk hf hw
    obtain ⟨f, rfl⟩ : ∃ f, fu = f + 1 := ⟨fu - 1, by omega⟩
    have ek : nN k + (1 : Int32) = nN (k + 1) := nN_add k 1
    have e4 : (484 : Int32) + nN k = nN (484 + k) := nN_add 484 k
    cases hpk : pl k with
    | none =>
      have i1 := ih (k + 1) f (by omega) (by omega) (by rw [wSm_n hpk]; exact hw)
      rw [wSm_n hpk] at i1
      rw [pl_X7_meanWay_9, or_0, bS, r1, bS, if_neg (nle_f (by omega) (by omega) (by omega)), bS, e4, er_p (by omega), bS, hpk, if_pos (show oN none = (-1 : Int32) from rfl), ek]
      exact i1
    | some s =>
      have hs8 := hI.pl8 k s hpk
      have hfar := far_le hI (c := k) (s := s) (by omega) (by omega)
      obtain ⟨q1, q2⟩ := c_root hP (s := farS v k s) (by omega) (M := (ovl B m g (up2 a 1 (enc v pl))))
      have hadd := hP.2.2.2.1 _ _ hw q2
      have i1 := ih (k + 1) f (by omega) (by omega) (by rw [wSm_s hpk]; exact hadd)
      rw [wSm_s hpk] at i1
      have er := e_root hP hz1 hz0 (s := farS v k s) (by omega) (M := (ovl B m g (up2 a 1 (enc v pl))))
      rw [pl_X7_meanWay_9, or_0, bS, r1, bS, if_neg (nle_f (by omega) (by omega) (by omega)), bS, e4, er_p (by omega), bS, hpk, if_neg (show ¬ oN (some s) = (-1 : Int32) from nNm (by omega)), bS, er_p (by omega), bS, hpk, oc, bS, show oN (some s) = nN s from rfl, e_far up2_s hI (by omega) (by omega), bS, er, bS, jn_def, if_pos (hP.1 _ hadd), ek]
      exact i1
end FL2
section KFL
variable {L : Nat} {xs : Nat → Int32} {i0 : Int32} {x : Nat → Int32} {z : Nat} {M : Mem}
theorem c3 {P : Prop} [Decidable P] {M : Mem} : (if P then some M else if P then none else if P then none else some M) = some M := by
  by_cases e : P
  · rw [if_pos e]
  · rw [if_neg e, if_neg e, if_neg e]
theorem k_31 (hFL : FLT) (hO : OFF z M) (hx : xIs L xs i0 x) : ∃ M', pk_31 L xs z (z + 180) (z + 194) (z + 195) i0 M = some M' ∧ OFF z M' := by
  obtain ⟨v, pl, nm, H, n, sv, S, inp, len, ec, eo, out, ol, hP, hC, hX0, hV⟩ := off_x hO
  have hI : Inv v pl := hP.1.1
  obtain ⟨hX, r, b, t, tb, g, h, ar, u, ta, hM, hr, hG, hR, hT, -⟩ := cl_qry hI hC
  have h1 := hI.h1
  obtain ⟨PD, f1, f2, f3, f4, f5, f6, f7, f8, f9, f10, f11, f12, f13⟩ := hFL
  have w1 : gI 2 1 M r = some (nN (v 1)) := by rw [hM, fv_1, hR.g1]
  have wc : isC 2 M r = some () := by rw [hM]; exact fv_isC
  have wg : ∀ k, k < v 1 → p_X2_gotWish r (nN k) M = some (oN (gotO v pl k)) := fun k hk => by rw [hM]; exact c_gotWish M hG hR hT hI hk
  have ecn : cnt (fun k => gotO v pl k ≠ none) (v 1) = cnt (fun k => pl k ≠ none) (v 1) := cnt_c (fun k hk => got_nn hI)
  have q6 := c_fs hI hr w1 wc wg (fun z13 z14 => if z13 = 0 then some FP.fconst0 else jn (FP.fdiv (FP.i2f z14) (FP.i2f z13)) fun w16 => if w16 &&& 0x7fffffff ≤ 0x7f800000 then some w16 else none) (v 1) 0 FU (by omega) (FU_pos (by omega))
  have q6 : p_X6_firstShare z M = _ := q6
  have hcl := cnt_le (fun k => pl k ≠ none) (v 1)
  have fin : ∀ w : UInt32, dOK (FP.f2d w) → p_X6_firstShare z M = some w → (∀ B g a, p_X7_firstShare (z + 180) (ovl B (z + 180) g (up2 a 1 (enc v pl))) = some (w, ovl B (z + 180) (upd g 9 (nN 0)) (up2 a 1 (enc v pl)))) → ∃ M', pk_31 L xs z (z + 180) (z + 194) (z + 195) i0 M = some M' ∧ OFF z M' := fun w hw e6 e7 => by
    obtain ⟨o1, M2, o2, o3, o4⟩ := hV UInt32 w M (fun M => p_X7_firstShare (z + 180) M) (cgw_q hP hC (fun B g a hF => e7 B g a))
    refine ⟨M2, ?_, o3⟩
    unfold pk_31
    have o2 : p_X7_firstShare (z + 180) M = some (w, M2) := o2
    rw [hX, bS, e6, bS, jn_def, if_pos hw, o1, bS, o2, ob2_def, jn_def, if_pos hw]
    exact c3
  have eF : ∀ (B : Mem) (g : Nat → Int32) (a : Nat → Nat → Int32) (k1 : Int32 → Option (UInt32 × Mem)), pl_X7_firstShare_9 k1 (z + 180) (ovl B (z + 180) g (up2 a 1 (enc v pl))) FU (0 : Int32) (0 : Int32) = k1 (nN (cnt (fun k => gotO v pl k = some 0) (v 1))) := fun B g a k1 => by
    have r1 : aI 0 (ovl B (z + 180) g (up2 a 1 (enc v pl))) (z + 180 + 1) (1 : Int32) = some (nN (v 1)) := er_v (i := 1) (by omega) (by omega)
    have hFU : v 1 < FU := FU_pos (by omega)
    generalize FU = F at hFU ⊢
    refine loop_cnt (L := fun fu k x => pl_X7_firstShare_9 k1 (z + 180) (ovl B (z + 180) g (up2 a 1 (enc v pl))) fu (nN x) (nN k)) (P := fun k => gotO v pl k = some 0) (fin := fun x => k1 (nN x)) (n := v 1) (fun fu k x hk hx => ?_) (fun fu x hx => ?_) F hFU
    · have ek : nN k + (1 : Int32) = nN (k + 1) := nN_add k 1
      have ex : nN x + (1 : Int32) = nN (x + 1) := nN_add x 1
      have ex0 : nN x + (0 : Int32) = nN x := nN_add x 0
      rw [pl_X7_firstShare_9, or_0, bS, r1, bS, if_neg (nle_f (by omega) (by omega) (by omega)), oc, bS, e_gotOf up2_s hI hk, bS, jn_def]
      by_cases e : gotO v pl k = some 0
      · rw [if_pos e, if_pos (show oN (gotO v pl k) = (0 : Int32) by rw [e]; rfl)]
        show pl_X7_firstShare_9 _ _ _ fu (nN x + (1 : Int32)) (nN k + (1 : Int32)) = _
        rw [ex, ek]
      · rw [if_neg e, if_neg (show ¬ oN (gotO v pl k) = (0 : Int32) from fun q => e ((oN_eq (s := 0) (fun t ht => by have := got_b hI hk ht; omega) (by omega)).mp q))]
        show pl_X7_firstShare_9 _ _ _ fu (nN x + (0 : Int32)) (nN k + (1 : Int32)) = _
        rw [ex0, ek]
    · rw [pl_X7_firstShare_9, or_0, bS, r1, bS, if_pos (nle_t (by omega) (by omega) (by omega))]
  rw [ecn] at q6
  by_cases c0 : cnt (fun k => pl k ≠ none) (v 1) = 0
  · rw [c0] at q6
    refine fin FP.fconst0 f11 (q6.trans (if_pos rfl)) (fun B g a => ?_)
    unfold p_X7_firstShare
    rw [op_9, bS, eF, oc, bS, e_placed hI, bS, c0, if_pos (show nN 0 = (0 : Int32) from rfl)]
    rfl
  · have n0 : ¬ nN (cnt (fun k => pl k ≠ none) (v 1)) = (0 : Int32) := neq_f (b := 0) (by omega) (by omega) c0
    obtain ⟨d1, d2⟩ := f8 (cnt (fun k => gotO v pl k = some 0) (v 1)) (cnt (fun k => pl k ≠ none) (v 1)) (by omega) (by omega)
    refine fin (FP.fdiv (FP.i2f (nN (cnt (fun k => gotO v pl k = some 0) (v 1)))) (FP.i2f (nN (cnt (fun k => pl k ≠ none) (v 1))))) d2 (q6.trans ?_) (fun B g a => ?_)
    · show (if nN _ = (0 : Int32) then _ else _) = _
      rw [if_neg n0, jn_def, if_pos d1]
    · unfold p_X7_firstShare
      rw [op_9, bS, eF, oc, bS, e_placed hI, bS, if_neg n0, bS, bS, jn_def, if_pos d1]
      rfl
theorem k_32 (hFL : FLT) (hO : OFF z M) (hx : xIs L xs i0 x) : ∃ M', pk_32 L xs z (z + 180) (z + 194) (z + 195) i0 M = some M' ∧ OFF z M' := by
  obtain ⟨v, pl, nm, H, n, sv, S, inp, len, ec, eo, out, ol, hP, hC, hX0, hV⟩ := off_x hO
  have hI : Inv v pl := hP.1.1
  obtain ⟨hX, r, b, t, tb, g, h, ar, u, ta, hM, hr, hG, hR, hT, -⟩ := cl_qry hI hC
  have h1 := hI.h1
  obtain ⟨PD, f1, f2, f3, f4, f5, f6, f7, f8, f9, f10, f11, f12, f13⟩ := hFL
  have w1 : gI 2 1 M r = some (nN (v 1)) := by rw [hM, fv_1, hR.g1]
  have wc : isC 2 M r = some () := by rw [hM]; exact fv_isC
  have wg : ∀ k, k < v 1 → p_X2_gotWish r (nN k) M = some (oN (gotO v pl k)) := fun k hk => by rw [hM]; exact c_gotWish M hG hR hT hI hk
  have ecn : cnt (fun k => gotO v pl k ≠ none) (v 1) = cnt (fun k => pl k ≠ none) (v 1) := cnt_c (fun k hk => got_nn hI)
  have hsm : fb_sm (gsm v pl) (v 1) < 2147483648 := by
    have := fb_sm_bound (f := gsm v pl) (c := 4) (n := v 1) (fun k hk => by
      unfold gsm
      cases hg : gotO v pl k with
      | none => exact Nat.zero_le _
      | some i => have := got_b hI hk hg; show i + 1 ≤ 4; omega)
    have : 4 * v 1 ≤ 160 := by omega
    omega
  have q6 := c_mp hI hr w1 wc wg (fun z8 z9 => if z8 = 0 then some FP.dconst0 else jn (FP.ddiv (FP.i2d z9) (FP.i2d z8)) fun w11 => if w11 &&& 0x7fffffffffffffff ≤ 0x7ff0000000000000 then some w11 else none) (v 1) 0 FU (by omega) (FU_pos (by omega))
  have q6 : p_X6_meanPreference z M = _ := q6
  have hcl := cnt_le (fun k => pl k ≠ none) (v 1)
  have fin : ∀ w : UInt64, p_X6_meanPreference z M = some w → (∀ B g a, p_X7_meanPreference (z + 180) (ovl B (z + 180) g (up2 a 1 (enc v pl))) = some (w, ovl B (z + 180) (upd g 9 (nN 0)) (up2 a 1 (enc v pl)))) → ∃ M', pk_32 L xs z (z + 180) (z + 194) (z + 195) i0 M = some M' ∧ OFF z M' := fun w e6 e7 => by
    obtain ⟨o1, M2, o2, o3, o4⟩ := hV UInt64 w M (fun M => p_X7_meanPreference (z + 180) M) (cgw_q hP hC (fun B g a hF => e7 B g a))
    refine ⟨M2, ?_, o3⟩
    unfold pk_32
    have o2 : p_X7_meanPreference (z + 180) M = some (w, M2) := o2
    rw [hX, bS, e6, bS, o1, bS, o2, ob2_def]
    exact c3
  have eF : ∀ (B : Mem) (g : Nat → Int32) (a : Nat → Nat → Int32) (k1 : Int32 → Option (UInt64 × Mem)), pl_X7_meanPreference_9 k1 (z + 180) (ovl B (z + 180) g (up2 a 1 (enc v pl))) FU (0 : Int32) (0 : Int32) = k1 (nN (fb_sm (gsm v pl) (v 1))) := fun B g a k1 => e_mp hI k1 (v 1) 0 FU (by omega) (FU_pos (by omega))
  rw [ecn] at q6
  by_cases c0 : cnt (fun k => pl k ≠ none) (v 1) = 0
  · rw [c0] at q6
    refine fin FP.dconst0 (q6.trans (if_pos rfl)) (fun B g a => ?_)
    unfold p_X7_meanPreference
    rw [op_9, bS, eF, oc, bS, e_placed hI, bS, c0, if_pos (show nN 0 = (0 : Int32) from rfl)]
    rfl
  · have n0 : ¬ nN (cnt (fun k => pl k ≠ none) (v 1)) = (0 : Int32) := neq_f (b := 0) (by omega) (by omega) c0
    have d1 := f7 (cnt (fun k => pl k ≠ none) (v 1)) (FP.i2d (nN (fb_sm (gsm v pl) (v 1)))) (by omega) (by omega) (f3 _ hsm)
    refine fin (FP.ddiv (FP.i2d (nN (fb_sm (gsm v pl) (v 1)))) (FP.i2d (nN (cnt (fun k => pl k ≠ none) (v 1))))) (q6.trans ?_) (fun B g a => ?_)
    · show (if nN _ = (0 : Int32) then _ else _) = _
      rw [if_neg n0, jn_def, if_pos d1]
    · unfold p_X7_meanPreference
      rw [op_9, bS, eF, oc, bS, e_placed hI, bS, if_neg n0, bS, bS, jn_def, if_pos d1]
      rfl
theorem k_45 (hFL : FLT) (hO : OFF z M) (hx : xIs L xs i0 x) : ∃ M', pk_45 L xs z (z + 180) (z + 194) (z + 195) i0 M = some M' ∧ OFF z M' := by
  obtain ⟨v, pl, nm, H, n, sv, S, inp, len, ec, eo, out, ol, hP, hC, hX0, hV⟩ := off_x hO
  have hI : Inv v pl := hP.1.1
  obtain ⟨hX, r, b, t, tb, g, h, ar, u, ta, hM, hr, hG, hR, hT, -⟩ := cl_qry hI hC
  have h1 := hI.h1
  obtain ⟨PD, f1, f2, f3, f4, f5, f6, f7, f8, f9, f10, f11, f12, f13⟩ := hFL
  have hPX : PDX PD := ⟨fun w hw => (f1 w hw).1, f2, f3, f4, f5, f6⟩
  have w1 : gI 2 1 M r = some (nN (v 1)) := by rw [hM, fv_1, hR.g1]
  have wc : isC 2 M r = some () := by rw [hM]; exact fv_isC
  have w16 : gR 2 16 M r = some (b + 5) := by rw [hM]; exact fv_16
  have wp : ∀ k, k < v 1 → aI 0 M (b + 5) (nN k) = some (oN (pl k)) := fun k hk => by rw [hM, fd_5 hG, rd_nN (by omega) (by omega), hR.a5 hk]
  have wq : ∀ k s, k < v 1 → s < v 0 → p_X2_squareWay r (nN k) (nN s) M = some (nN (farS v k s)) := fun k s hk hs => by rw [hM]; exact c_squareWay M hG hR hT hI hk hs
  obtain ⟨q6, qP⟩ := c_mw hPX hI hr w1 wc w16 wp wq (fun z13 z14 => if z13 = 0 then some FP.dconst0 else jn (FP.ddiv z14 (FP.i2d z13)) fun w16 => if w16 &&& 0x7fffffffffffffff ≤ 0x7ff0000000000000 then some w16 else none) (v 1) 0 FU (by omega) (FU_pos (by omega)) f2
  have q6 : p_X6_meanWay z M = _ := q6
  have hcl := cnt_le (fun k => pl k ≠ none) (v 1)
  have fin : ∀ w : UInt64, p_X6_meanWay z M = some w → (∀ B g a, p_X7_meanWay (z + 180) (ovl B (z + 180) g (up2 a 1 (enc v pl))) = some (w, ovl B (z + 180) (upd g 9 (nN 0)) (up2 a 1 (enc v pl)))) → ∃ M', pk_45 L xs z (z + 180) (z + 194) (z + 195) i0 M = some M' ∧ OFF z M' := fun w e6 e7 => by
    obtain ⟨o1, M2, o2, o3, o4⟩ := hV UInt64 w M (fun M => p_X7_meanWay (z + 180) M) (cgw_q hP hC (fun B g a hF => e7 B g a))
    refine ⟨M2, ?_, o3⟩
    unfold pk_45
    have o2 : p_X7_meanWay (z + 180) M = some (w, M2) := o2
    rw [hX, bS, e6, bS, o1, bS, o2, ob2_def]
    exact c3
  have eF : ∀ (B : Mem) (g : Nat → Int32) (a : Nat → Nat → Int32) (k1 : UInt64 → Option (UInt64 × Mem)), pl_X7_meanWay_9 k1 (z + 180) (ovl B (z + 180) g (up2 a 1 (enc v pl))) FU FP.dconst0 (0 : Int32) = k1 (wSm v pl (v 1)) := fun B g a k1 => e_mw hPX f9 f10 hI k1 (v 1) 0 FU (by omega) (FU_pos (by omega)) f2
  by_cases c0 : cnt (fun k => pl k ≠ none) (v 1) = 0
  · rw [c0] at q6
    refine fin FP.dconst0 (q6.trans (if_pos rfl)) (fun B g a => ?_)
    unfold p_X7_meanWay
    rw [op_9, bS, eF, oc, bS, e_placed hI, bS, c0, if_pos (show nN 0 = (0 : Int32) from rfl)]
    rfl
  · have n0 : ¬ nN (cnt (fun k => pl k ≠ none) (v 1)) = (0 : Int32) := neq_f (b := 0) (by omega) (by omega) c0
    have d1 := f7 (cnt (fun k => pl k ≠ none) (v 1)) (wSm v pl (v 1)) (by omega) (by omega) qP
    refine fin (FP.ddiv (wSm v pl (v 1)) (FP.i2d (nN (cnt (fun k => pl k ≠ none) (v 1))))) (q6.trans ?_) (fun B g a => ?_)
    · show (if nN _ = (0 : Int32) then _ else _) = _
      rw [if_neg n0, jn_def, if_pos d1]
    · unfold p_X7_meanWay
      rw [op_9, bS, eF, oc, bS, e_placed hI, bS, if_neg n0, bS, bS, jn_def, if_pos d1]
      rfl
/-- the law's row of doubles set -/
theorem off_d (hO : OFF z M) : ∃ v pl cd, QRY M z v pl cd ∧ (∃ f, M (z + 195) = some (.inl (3, 1, .inr (.inr (.inr (.inl f)))))) ∧ ∀ f : Nat → UInt64, ∃ B g a, upM M (z + 195) (.inl (3, 1, .inr (.inr (.inr (.inl f))))) = ovl B (z + 180) g (up2 a 1 (enc v pl)) ∧ ∀ c, OFF z (ovl B (z + 180) (upd g 9 c) (up2 a 1 (enc v pl))) ∧ ovl B (z + 180) (upd g 9 c) (up2 a 1 (enc v pl)) (z + 195) = some (.inl (3, 1, .inr (.inr (.inr (.inl f))))) := by
  obtain ⟨v, pl, nm, H, n, sv, S, inp, len, ec, eo, out, ol, hP, hC, ⟨B, g, a, hM, hR⟩, ⟨f0, hod⟩, f1, hod2⟩ := hO
  refine ⟨v, pl, cdS nm, cl_qry hP.1.1 hC, ⟨f1, hod2⟩, fun f => ⟨upM B (z + 195) (.inl (3, 1, .inr (.inr (.inr (.inl f))))), g, a, ?_, fun c => ?_⟩⟩
  · rw [hM]; exact ovl_up (by omega) _
  · have e195 : ovl (upM B (z + 195) (.inl (3, 1, .inr (.inr (.inr (.inl f)))))) (z + 180) (upd g 9 c) (up2 a 1 (enc v pl)) (z + 195) = some (.inl (3, 1, .inr (.inr (.inr (.inl f))))) := by
      rw [ovl_o _ _ _ _ (by omega)]; exact if_pos rfl
    refine ⟨⟨v, pl, nm, H, n, sv, S, inp, len, ec, eo, out, ol, hP, ?_, ⟨_, _, a, rfl, hR.g9⟩, ⟨f0, ?_⟩, f, e195⟩, e195⟩
    · rw [rst_eq (M := M)]
      · exact hC
      · intro x h1 h2
        rw [ovl_o _ _ _ _ (by omega), hM, ovl_o _ _ _ _ (by omega)]
        exact if_neg (by omega)
    · rw [ovl_o _ _ _ _ (by omega)]
      rw [hM, ovl_o _ _ _ _ (by omega)] at hod
      exact (if_neg (by omega)).trans hod
theorem aDs_od {q : Nat} {f : Nat → UInt64} {w : UInt64} (h : M q = some (.inl (3, 1, .inr (.inr (.inr (.inl f)))))) : aDs M q (0 : Int32) w = some (upM M q (.inl (3, 1, .inr (.inr (.inr (.inl (vf_upd f 0 w))))))) := by
  unfold aDs
  rw [h]
  exact if_pos ⟨rfl, by decide⟩
theorem aD_od {q : Nat} {f : Nat → UInt64} {w : UInt64} (h : M q = some (.inl (3, 1, .inr (.inr (.inr (.inl (vf_upd f 0 w))))))) : aD M q (0 : Int32) = some w := by
  unfold aD
  rw [h]
  exact (if_pos ⟨rfl, by decide⟩).trans (congrArg some (if_pos rfl))
theorem k_33 (hFL : FLT) (hO : OFF z M) (hx : xIs L xs i0 x) : ∃ M', pk_33 L xs z (z + 180) (z + 194) (z + 195) i0 M = some M' ∧ OFF z M' := by
  obtain ⟨-, hx1, hx2, hx3, -, -⟩ := hx
  obtain ⟨v, pl, cd, ⟨hX, r, b, t, tb, g, h, ar, u, ta, hM, hr, hG, hR, hT, hI⟩, ⟨f0, hod⟩, hF⟩ := off_d hO
  have h1 := hI.h1
  have h0 := hI.h0
  obtain ⟨PD, f1, f2, f3, f4, f5, f6, f7, f8, f9, f10, f11, f12, f13⟩ := hFL
  have hPX : PDX PD := ⟨fun w hw => (f1 w hw).1, f2, f3, f4, f5, f6⟩
  have outc : (x 1 < 0 ∨ nN (v 1) ≤ x 1) → ∃ M', pk_33 L xs z (z + 180) (z + 194) (z + 195) i0 M = some M' ∧ OFF z M' := fun ho => by
    obtain ⟨B1, g1, a1, e1, hc⟩ := hF f0
    rw [upM_same hod] at e1
    obtain ⟨hO2, hod2⟩ := hc (nN 1)
    refine ⟨_, ?_, hO2⟩
    have e6 : p_X6_way z (x 1) M = some (.inr "java/lang/IndexOutOfBoundsException") := by
      have nco := n_ch_o M hG hR hT hI (by rw [← hM]; exact hr) ho
      rw [← hM] at nco
      unfold p_X6_way; rw [hX, bS, nco, obx_r]
    have el : p_L_way z (x 1) (z + 195) M = some (nN 1, M) := by
      unfold p_L_way
      rw [hX, bS, e6, ctc_r, if_pos rfl]
      rfl
    have e7 : p_X7_way (z + 180) (x 1) M = some (FP.fconst0, ovl B1 (z + 180) (upd g1 9 (nN 1)) (up2 a1 1 (enc v pl))) := by
      rw [e1]
      unfold p_X7_way
      rw [oc, bS, e_nc_o hI ho, ob2_def, if_neg (by decide)]
    have o1 : isC 6 M (z + 180) = some () := by rw [e1]; exact oc _ _ _ _
    unfold pk_33
    rw [hx1, bS, el, ob2_def, bS, o1, bS, e7, ob2_def, oc, bS, thr_9, bS, if_pos rfl, if_neg (by decide)]
  rcases ixN (x 1) (n := v 1) (by omega) with ho | ho | ⟨c, hc, hxc⟩
  · exact outc (Or.inl ho)
  · exact outc (Or.inr ho)
  clear outc
  have fin : ∀ w : UInt32, dOK (FP.f2d w) → p_X6_way z (x 1) M = some (.inl w) → (∀ B g a, p_X7_way (z + 180) (x 1) (ovl B (z + 180) g (up2 a 1 (enc v pl))) = some (w, ovl B (z + 180) (upd g 9 (nN 0)) (up2 a 1 (enc v pl)))) → ∃ M', pk_33 L xs z (z + 180) (z + 194) (z + 195) i0 M = some M' ∧ OFF z M' := fun w hw e6 e7 => by
    obtain ⟨B1, g1, a1, e1, hc⟩ := hF (vf_upd f0 0 (FP.f2d w))
    obtain ⟨hO2, hod2⟩ := hc (nN 0)
    refine ⟨_, ?_, hO2⟩
    have el : p_L_way z (x 1) (z + 195) M = some (0, ovl B1 (z + 180) g1 (up2 a1 1 (enc v pl))) := by
      unfold p_L_way
      rw [hX, bS, e6, ctc_l, jn_def, if_pos hw, aDs_od hod, bS, e1]
    have eL := aD_od hod2
    unfold pk_33
    rw [hx1, bS, el, ob2_def, bS, oc, bS, e7, ob2_def, oc, bS, thr_9, bS, if_pos rfl, if_pos (show nN 0 = (0 : Int32) from rfl), eL, bS, jn_def, if_pos hw, bS, bS]
    rw [if_pos (f13 w hw)]
  have nco := n_ch M hG hR hT hI (by rw [← hM]; exact hr) hc
  rw [← hM, ← hxc] at nco
  have w16 : gR 2 16 M r = some (b + 5) := by rw [hM]; exact fv_16
  have wp : aI 0 M (b + 5) (x 1) = some (oN (pl c)) := by rw [hxc, hM, fd_5 hG, rd_nN (by omega) (by omega), hR.a5 hc]
  have wc : isC 2 M r = some () := by rw [hM]; exact fv_isC
  cases hp : pl c with
  | none =>
    rw [hp] at wp
    refine fin _ f12 ?_ (fun B g a => ?_)
    · unfold p_X6_way
      rw [hX, bS, nco, obx_l, hr, bS, w16, bS, wp, bS, if_pos (show oN none = (-1 : Int32) from rfl)]
    · unfold p_X7_way
      rw [hxc, oc, bS, e_nc hI hc, ob2_def, if_pos (by rfl), or_0, bS, show (484 : Int32) + nN c = nN (484 + c) from nN_add 484 c, er_p (by omega), bS, hp, if_pos (show oN none = (-1 : Int32) from rfl)]
  | some s =>
    rw [hp] at wp
    have hs8 := hI.pl8 c s hp
    have hfar := far_le hI (c := c) (s := s) (by omega) (by omega)
    have wq : p_X2_squareWay r (x 1) (nN s) M = some (nN (farS v c s)) := by rw [hxc, hM]; exact c_squareWay M hG hR hT hI hc hs8
    obtain ⟨r1, r2⟩ := c_root hPX (s := farS v c s) (by omega) (M := M)
    obtain ⟨d1, d2, d3⟩ := f1 _ r2
    refine fin (FP.d2f (rtD (farS v c s))) d3 ?_ (fun B g a => ?_)
    · unfold p_X6_way
      rw [hX, bS, nco, obx_l, hr, bS, w16, bS, wp, bS, if_neg (show ¬ oN (some s) = (-1 : Int32) from nNm (by omega)), bS, wc, bS, show oN (some s) = nN s from rfl, wq, bS, r1, bS, jn_def, if_pos d2]
    · have er := fun N : Mem => e_root hPX f9 f10 (s := farS v c s) (by omega) (M := N)
      unfold p_X7_way
      rw [hxc, oc, bS, e_nc hI hc, ob2_def, if_pos (by rfl), or_0, bS, show (484 : Int32) + nN c = nN (484 + c) from nN_add 484 c, er_p (by omega), bS, hp, if_neg (show ¬ oN (some s) = (-1 : Int32) from nNm (by omega)), bS, er_p (by omega), bS, hp, oc, bS, show oN (some s) = nN s from rfl, e_far up2_s hI (by omega) (by omega), bS, er, bS, jn_def, if_pos d2]
end KFL
