theorem loop_acc {R : Type} {L : Nat → Nat → Nat → Option R} {fin : Nat → Option R} {n : Nat} {P : Nat → Prop} [DecidablePred P] (hstep : ∀ fu k x, k < n → L (fu + 1) k x = if P k then L fu (k + 1) (x + 1) else L fu (k + 1) x) (hend : ∀ fu x, L (fu + 1) n x = fin x) {k0 : Nat} : ∀ d fu x, k0 + d = n → d < fu → L fu k0 x = fin (x + cnt (fun k => k0 ≤ k ∧ P k) n) := by
  have key : ∀ d k fu x, k0 ≤ k → k + d = n → d < fu → L fu k (x + cnt (fun k => k0 ≤ k ∧ P k) k) = fin (x + cnt (fun k => k0 ≤ k ∧ P k) n) := by
    intro d
    induction d with
    | zero =>
      intro k fu x h0 hk hf
      obtain ⟨f, rfl⟩ : ∃ f, fu = f + 1 := ⟨fu - 1, by omega⟩
      rw [show k = n by omega, hend]
    | succ d ih =>
      intro k fu x h0 hk hf
      obtain ⟨f, rfl⟩ : ∃ f, fu = f + 1 := ⟨fu - 1, by omega⟩
      rw [hstep f k _ (by omega), ← ih (k + 1) f x (by omega) (by omega) (by omega)]
      show _ = L f (k + 1) (x + (cnt (fun k => k0 ≤ k ∧ P k) k + (if k0 ≤ k ∧ P k then 1 else 0)))
      by_cases c : P k
      · rw [if_pos c, if_pos ⟨h0, c⟩]; rfl
      · rw [if_neg c, if_neg (fun z => c z.2)]; rfl
  intro d fu x hk hf
  have := key d k0 fu x (Nat.le_refl _) hk hf
  rw [cnt_zero.mpr (show ∀ k, k < k0 → ¬ (k0 ≤ k ∧ P k) from fun k h z => by omega)] at this
  exact this
theorem loop_sum {R : Type} {L : Nat → Nat → Nat → Option R} {fin : Nat → Option R} {n : Nat} {f : Nat → Nat} (hstep : ∀ fu k x, k < n → L (fu + 1) k x = L fu (k + 1) (x + f k)) (hend : ∀ fu x, L (fu + 1) n x = fin x) : ∀ fu, n < fu → L fu 0 0 = fin (fb_sm f n) := by
  have key : ∀ d k fu, k + d = n → d < fu → L fu k (fb_sm f k) = fin (fb_sm f n) := by
    intro d
    induction d with
    | zero =>
      intro k fu hk hf
      obtain ⟨f', rfl⟩ : ∃ f', fu = f' + 1 := ⟨fu - 1, by omega⟩
      rw [show k = n by omega, hend]
    | succ d ih =>
      intro k fu hk hf
      obtain ⟨f', rfl⟩ : ∃ f', fu = f' + 1 := ⟨fu - 1, by omega⟩
      rw [hstep f' k _ (by omega), ← fb_sm_succ]
      exact ih (k + 1) f' (by omega) (by omega)
  intro fu hf
  exact key n 0 fu (by omega) hf
theorem sm_swap (f : Nat → Nat → Nat) (M : Nat) : ∀ N, fb_sm (fun i => fb_sm (fun j => f i j) M) N = fb_sm (fun j => fb_sm (fun i => f i j) N) M := by
  intro N
  induction N with
  | zero => show 0 = fb_sm (fun _ => 0) M; rw [fb_sm_const]; omega
  | succ N ih =>
    rw [fb_sm_succ, ih]
    have : fb_sm (fun j => fb_sm (fun i => f i j) (N + 1)) M = fb_sm (fun j => fb_sm (fun i => f i j) N + f N j) M := rfl
    rw [this, fb_sm_add]
theorem cnt_sm {P : Nat → Prop} [DecidablePred P] : ∀ n, cnt P n = fb_sm (fun k => if P k then 1 else 0) n := by
  intro n
  induction n with
  | zero => rfl
  | succ n ih => show cnt P n + _ = _; rw [ih, fb_sm_succ]
theorem cnt_swap (P : Nat → Nat → Prop) [∀ a b, Decidable (P a b)] (N M : Nat) : fb_sm (fun a => cnt (fun b => P a b) M) N = fb_sm (fun b => cnt (fun a => P a b) N) M := by
  have h1 : fb_sm (fun a => cnt (fun b => P a b) M) N = fb_sm (fun a => fb_sm (fun b => if P a b then 1 else 0) M) N := fb_sm_cong (fun k _ => cnt_sm M)
  have h2 : fb_sm (fun b => cnt (fun a => P a b) N) M = fb_sm (fun b => fb_sm (fun a => if P a b then 1 else 0) N) M := fb_sm_cong (fun k _ => cnt_sm N)
  rw [h1, h2]
  exact sm_swap (fun a b => if P a b then 1 else 0) M N
/-- a question without arguments -/
def B0 {α β : Type} (m : Nat) (v : Nat → Nat) (pl : Nat → Option Nat) (R : α → β → Prop) (c6 : Option α) (c7 : Mem → Option (β × Mem)) : Prop :=
  ∃ x y, c6 = some x ∧ R x y ∧ ∀ (B : Mem) (g : Nat → Int32) (a : Nat → Nat → Int32), c7 (ovl B m g (up2 a 1 (enc v pl))) = some (y, ovl B m (upd g 9 (nN 0)) (up2 a 1 (enc v pl)))
def tgB (v : Nat → Nat) (pl : Nat → Option Nat) (f : Nat) : Nat → Nat → Nat → Option Nat → Bool
  | 0, _, n, _ => decide (2 ≤ n)
  | d + 1, k, n, q => if v (204 + k) = f then (if pl k = none then tgB v pl f d (k + 1) n q else if n = 0 ∨ pl k = q then tgB v pl f d (k + 1) (n + 1) (pl k) else false) else tgB v pl f d (k + 1) n q
def mwO (f : Nat → Nat) : Nat → Option Nat × Nat
  | 0 => (none, 0)
  | n + 1 => if (mwO f n).2 < f n then (some n, f n) else mwO f n
theorem trd_sym {v : Nat → Nat} {pl : Nat → Option Nat} {a b : Nat} : trdB v pl a b = trdB v pl b a := by
  unfold trdB
  cases pl a <;> cases pl b <;> first | rfl | exact Bool.and_comm _ _
theorem oN_ne {p q : Option Nat} (hp : ∀ t, p = some t → t < 2147483648) (hq : ∀ t, q = some t → t < 2147483648) : (oN p = oN q) = (p = q) := by
  cases q with
  | none => exact oN_mI hp
  | some t => exact oN_eq hp (hq t rfl)
theorem fr_sub {a b : Nat} (ha : a < 1000000) (hb : b < 1000000) : (if (0 : Int32) < nN a - nN b then nN a - nN b else (0 : Int32)) = nN (a - b) := by
  by_cases c : b < a
  · rw [nN_subN (by omega), if_pos (show (0 : Int32) < nN (a - b) from nlt_t (a := 0) (b := a - b) (by omega) (by omega) (by omega))]
  · rw [if_neg]
    · rw [show a - b = 0 by omega]; rfl
    · rw [nN_sub, i_lt, iI_toInt (by omega)]
      show ¬ (0 : Int) < _
      omega
theorem mwO_le {f : Nat → Nat} {b : Nat} (hf : ∀ s, f s ≤ b) : ∀ n, (mwO f n).2 ≤ b := by
  intro n
  induction n with
  | zero => exact Nat.zero_le _
  | succ n ih => show (if _ then _ else _ : Option Nat × Nat).2 ≤ b; split; exact hf n; exact ih
section QR2
variable {B : Mem} {m : Nat} {g : Nat → Int32} {a : Nat → Nat → Int32} {v : Nat → Nat} {pl : Nat → Option Nat}
theorem e_appealedAt (hw : a 1 = enc v pl) (hI : Inv v pl) {s : Nat} (hs : s < 8) : p_X7_appealedAt m (nN s) (ovl B m g a) = some (nN (cnt (fun k => pl k = some s ∧ v (444 + k) = 1) (v 1))) := by
  have hb := hI.hb; have h1 := hI.h1
  have hpe : ∀ k, (oN (pl k) = nN s) = (pl k = some s) := fun k => oN_eq (hI.plb k) (by omega)
  unfold p_X7_appealedAt
  have hFU : v 1 < FU := FU_pos (by omega)
  generalize FU = F at hFU ⊢
  refine loop_cnt (L := fun fu k x => pl_X7_appealedAt_4 (fun z => some z) m (nN s) (ovl B m g a) fu (nN x) (nN k)) (P := fun k => pl k = some s ∧ v (444 + k) = 1) (fin := fun x => some (nN x)) (n := v 1) (fun fu k x hk hx => ?_) (fun fu x hx => ?_) F hFU
  · rw [pl_X7_appealedAt_4]
    have hch := hI.chi k (by omega)
    simp (disch := first | omega | (apply hb; omega)) only [oc, or_0, or_1, or_2, or_3, or_4, oi_5, oi_6, or_7, or_8, oi_9, or_10, or_11, oi_12, oi_13, oi_14, oi_15, oi_16, oi_17, oi_18, oi_19, oi_20, oi_21, or_22, or_23, or_24, oi_25, or_26, oi_27, od_1, od_2, od_3, od_4, od_5, od_6, od_7, od_8, od_9, od_10, od_11, od_12, od_13, bS, rd_nN, nN_lit, nN_add, nN_mul, hw, enc_v, enc_p, nN_le, nN_lt, nN_eq, jn_def, mI_lit, bI_0, bI_1, e_inRange, n01, n10, if_true, if_false, ite_not, nP_P, hpe]
    rw [if_neg (by omega)]
    by_cases c1 : pl k = some s
    · by_cases c2 : v (444 + k) = 1
      · rw [if_pos c1, if_pos ⟨c1, c2⟩, c2]
      · rw [if_pos c1, if_neg (fun z => c2 z.2), show v (444 + k) = 0 by omega]; rfl
    · rw [if_neg c1, if_neg (fun z => c1 z.1)]; rfl
  · rw [pl_X7_appealedAt_4]
    simp (disch := first | omega | (apply hb; omega)) only [oc, or_0, or_1, or_2, or_3, or_4, oi_5, oi_6, or_7, or_8, oi_9, or_10, or_11, oi_12, oi_13, oi_14, oi_15, oi_16, oi_17, oi_18, oi_19, oi_20, oi_21, or_22, or_23, or_24, oi_25, or_26, oi_27, od_1, od_2, od_3, od_4, od_5, od_6, od_7, od_8, od_9, od_10, od_11, od_12, od_13, bS, rd_nN, nN_lit, nN_add, nN_mul, hw, enc_v, enc_p, nN_le, nN_lt, nN_eq, jn_def, mI_lit, bI_0, bI_1, e_inRange, n01, n10, if_true, if_false, ite_not, nP_P]
    rw [if_pos (by omega)]
theorem e_isTogether (hw : a 1 = enc v pl) (hI : Inv v pl) {f : Nat} (hf : f < 100) : p_X7_isTogether m (nN f) (ovl B m g a) = some (bI (tgB v pl f (v 1) 0 0 none = true)) := by
  have hb := hI.hb; have h1 := hI.h1
  unfold p_X7_isTogether
  have key : ∀ d k fu n q, k + d = v 1 → n ≤ k → (∀ t, q = some t → t < 2147483648) → d < fu → pl_X7_isTogether_7 (fun _ => some (0 : Int32)) (fun z => if z ≤ (1 : Int32) then some (0 : Int32) else some (1 : Int32)) m (nN f) (ovl B m g a) fu (nN n) (oN q) (nN k) = some (bI (tgB v pl f d k n q = true)) := by
    intro d
    induction d with
    | zero =>
      intro k fu n q hk hn hq hfu
      obtain ⟨f', rfl⟩ : ∃ f', fu = f' + 1 := ⟨fu - 1, by omega⟩
      rw [pl_X7_isTogether_7]
      simp (disch := first | omega | (apply hb; omega)) only [oc, or_0, or_1, or_2, or_3, or_4, oi_5, oi_6, or_7, or_8, oi_9, or_10, or_11, oi_12, oi_13, oi_14, oi_15, oi_16, oi_17, oi_18, oi_19, oi_20, oi_21, or_22, or_23, or_24, oi_25, or_26, oi_27, od_1, od_2, od_3, od_4, od_5, od_6, od_7, od_8, od_9, od_10, od_11, od_12, od_13, bS, rd_nN, nN_lit, nN_add, nN_mul, hw, enc_v, enc_p, nN_le, nN_lt, nN_eq, jn_def, mI_lit, bI_0, bI_1, e_inRange, n01, n10, if_true, if_false, ite_not, nP_P]
      rw [if_pos (by omega)]
      show _ = some (bI (decide (2 ≤ n) = true))
      by_cases c : n ≤ 1
      · rw [if_pos c, ← bI_f (by simp; omega)]
      · rw [if_neg c, ← bI_t (by simp; omega)]
    | succ d ih =>
      intro k fu n q hk hn hq hfu
      obtain ⟨f', rfl⟩ : ∃ f', fu = f' + 1 := ⟨fu - 1, by omega⟩
      have i1 := ih (k + 1) f' n q (by omega) (by omega) hq (by omega)
      have i2 := ih (k + 1) f' (n + 1) (pl k) (by omega) (by omega) (hI.plb k) (by omega)
      have hpe : (oN (pl k) = mI) = (pl k = none) := oN_mI (hI.plb k)
      have hpq : (oN (pl k) = oN q) = (pl k = q) := oN_ne (hI.plb k) hq
      rw [pl_X7_isTogether_7]
      simp (disch := first | omega | (apply hb; omega)) only [oc, or_0, or_1, or_2, or_3, or_4, oi_5, oi_6, or_7, or_8, oi_9, or_10, or_11, oi_12, oi_13, oi_14, oi_15, oi_16, oi_17, oi_18, oi_19, oi_20, oi_21, or_22, or_23, or_24, oi_25, or_26, oi_27, od_1, od_2, od_3, od_4, od_5, od_6, od_7, od_8, od_9, od_10, od_11, od_12, od_13, bS, rd_nN, nN_lit, nN_add, nN_mul, hw, enc_v, enc_p, nN_le, nN_lt, nN_eq, jn_def, mI_lit, bI_0, bI_1, e_inRange, n01, n10, if_true, if_false, ite_not, nP_P, hpe, hpq, i1, i2]
      rw [if_neg (by omega)]
      unfold tgB
      by_cases c1 : v (204 + k) = f
      · rw [if_pos c1, if_pos c1]
        by_cases c2 : pl k = none
        · rw [if_pos c2, if_pos c2]; exact i1
        · rw [if_neg c2, if_neg c2]
          by_cases c3 : n ≤ 0
          · rw [if_pos c3, if_pos (Or.inl (by omega))]; exact i2
          · rw [if_neg c3]
            by_cases c4 : pl k = q
            · rw [if_pos c4, if_pos (Or.inr c4)]; exact i2
            · rw [if_neg c4, if_neg (fun z => z.elim (fun z => c3 (by omega)) c4)]; rfl
      · rw [if_neg c1, if_neg c1]; exact i1
  exact key (v 1) 0 FU 0 none (by omega) (by omega) (fun t h => by cases h) (FU_pos (by omega))
end QR2
section QT
variable {B : Mem} {r b t tb : Nat} {g : Nat → Int32} {h : Nat → Int64} {ar : Nat → Nat → Int32} {u : Nat → Int32} {ta : Nat → Nat → Int32} {v : Nat → Nat} {pl : Nat → Option Nat} {cd : Nat → Nat}
variable {z m : Nat}
theorem c_isTogether (B : Mem) (hG : GE r b t tb) (hR : RG g h ar v pl) (hT : TG u ta v cd) (hI : Inv v pl) {f : Nat} (hf : f < 100) : p_X2_isTogether r (nN f) (ofc B r b t tb g h ar u ta) = some (bI (tgB v pl f (v 1) 0 0 none = true)) := by
  have hb := hI.hb; have h0 := hI.h0; have h1 := hI.h1; have h2 := hI.h2; have h7 := hI.h7; have h8 := hI.h8
  unfold p_X2_isTogether
  have key : ∀ d k fu n q, k + d = v 1 → n ≤ k → (∀ t, q = some t → t < 2147483648) → d < fu → pl_X2_isTogether_7 (fun _ => some (0 : Int32)) (fun z16 => if z16 < (2 : Int32) then some (0 : Int32) else some (1 : Int32)) r (nN f) (ofc B r b t tb g h ar u ta) fu (oN q) (nN n) (nN k) = some (bI (tgB v pl f d k n q = true)) := by
    intro d
    induction d with
    | zero =>
      intro k fu n q hk hn hq hfu
      obtain ⟨f', rfl⟩ : ∃ f', fu = f' + 1 := ⟨fu - 1, by omega⟩
      rw [pl_X2_isTogether_7]
      simp (disch := first | omega | (apply hb; omega)) only [fv_isC, fv_0, fv_1, fv_2, fv_3, fv_4, fv_5, fv_6, fv_7, fv_8, fv_9, fv_10, fv_11, fv_12, fv_13, fv_14, fv_15, fv_16, fv_17, fv_18, fv_19, fd_0 hG, fd_1 hG, fd_2 hG, fd_3 hG, fd_4 hG, fd_5 hG, fd_6 hG, fd_7 hG, fd_8 hG, ft_C hG, ft_0 hG, ft_1 hG, ft_2 hG, ft_3 hG, ft_4 hG, ft_5 hG, ft_6 hG, ft_7 hG, ft_8 hG, ft_9 hG, ft_10 hG, ft_11 hG, ft_12 hG, fp_0 hG, fp_1 hG, fp_2 hG, fp_3 hG, fp_4 hG, fp_5 hG, fp_6 hG, fp_7 hG, fp_8 hG, fp_9 hG, hR.g1, hR.g2, hR.g3, hR.g4, hR.g5, hR.g6, hR.h7, hR.h8, hR.h9, hR.h10, hR.a0, hR.a1, hR.a2, hR.a3, hR.a4, hR.a5, hR.a6, hR.a7, hR.a8, hT.u0, hT.u1, hT.u2, hT.a0, hT.a1, hT.a2, hT.a3, hT.a4, bS, rd_nN, nN_lit, nN_add, nN_mul, nN_le, nN_lt, nN_eq, jn_def, mI_lit, bI_0, bI_1, n01, n10, if_true, if_false, ite_not, nP_P]
      rw [if_pos (by omega)]
      show _ = some (bI (decide (2 ≤ n) = true))
      by_cases c : n < 2
      · rw [if_pos c, ← bI_f (by simp; omega)]
      · rw [if_neg c, ← bI_t (by simp; omega)]
    | succ d ih =>
      intro k fu n q hk hn hq hfu
      obtain ⟨f', rfl⟩ : ∃ f', fu = f' + 1 := ⟨fu - 1, by omega⟩
      have i1 := ih (k + 1) f' n q (by omega) (by omega) hq (by omega)
      have i2 := ih (k + 1) f' (n + 1) (pl k) (by omega) (by omega) (hI.plb k) (by omega)
      have hpe : (oN (pl k) = mI) = (pl k = none) := oN_mI (hI.plb k)
      have hpq : (oN (pl k) = oN q) = (pl k = q) := oN_ne (hI.plb k) hq
      have hch := hI.chi k (by omega)
      rw [pl_X2_isTogether_7]
      simp (disch := first | omega | (apply hb; omega)) only [fv_isC, fv_0, fv_1, fv_2, fv_3, fv_4, fv_5, fv_6, fv_7, fv_8, fv_9, fv_10, fv_11, fv_12, fv_13, fv_14, fv_15, fv_16, fv_17, fv_18, fv_19, fd_0 hG, fd_1 hG, fd_2 hG, fd_3 hG, fd_4 hG, fd_5 hG, fd_6 hG, fd_7 hG, fd_8 hG, ft_C hG, ft_0 hG, ft_1 hG, ft_2 hG, ft_3 hG, ft_4 hG, ft_5 hG, ft_6 hG, ft_7 hG, ft_8 hG, ft_9 hG, ft_10 hG, ft_11 hG, ft_12 hG, fp_0 hG, fp_1 hG, fp_2 hG, fp_3 hG, fp_4 hG, fp_5 hG, fp_6 hG, fp_7 hG, fp_8 hG, fp_9 hG, hR.g1, hR.g2, hR.g3, hR.g4, hR.g5, hR.g6, hR.h7, hR.h8, hR.h9, hR.h10, hR.a0, hR.a1, hR.a2, hR.a3, hR.a4, hR.a5, hR.a6, hR.a7, hR.a8, hT.u0, hT.u1, hT.u2, hT.a0, hT.a1, hT.a2, hT.a3, hT.a4, bS, rd_nN, nN_lit, nN_add, nN_mul, nN_le, nN_lt, nN_eq, jn_def, mI_lit, bI_0, bI_1, n01, n10, if_true, if_false, ite_not, nP_P, hpe, hpq, i1, i2]
      rw [if_neg (by omega)]
      unfold tgB
      by_cases c1 : v (204 + k) = f
      · rw [if_pos c1, if_pos c1]
        by_cases c2 : pl k = none
        · rw [if_pos c2, if_pos c2]; exact i1
        · rw [if_neg c2, if_neg c2]
          by_cases c3 : n ≤ 0
          · rw [if_pos c3, if_pos (Or.inl (by omega))]; exact i2
          · rw [if_neg c3]
            by_cases c4 : pl k = q
            · rw [if_pos c4, if_pos (Or.inr c4)]; exact i2
            · rw [if_neg c4, if_neg (fun z => z.elim (fun z => c3 (by omega)) c4)]; rfl
      · rw [if_neg c1, if_neg c1]; exact i1
  exact key (v 1) 0 FU 0 none (by omega) (by omega) (fun t h => by cases h) (FU_pos (by omega))

theorem b_freePlaces (B : Mem) (hG : GE r b t tb) (hR : RG g h ar v pl) (hT : TG u ta v cd) (hI : Inv v pl) (hX : isC 5 (ofc B r b t tb g h ar u ta) z = some ()) (hr : gR 5 3 (ofc B r b t tb g h ar u ta) z = some r) : B0 m v pl (fun x y => x = y) (p_X6_freePlaces z (ofc B r b t tb g h ar u ta)) (fun M => p_X7_freePlaces m M) := by
  have hb := hI.hb; have h0 := hI.h0; have h1 := hI.h1; have h2 := hI.h2; have h7 := hI.h7; have h8 := hI.h8
  refine ⟨nN (fb_sm (fun s => v (20 + s) - hldN v pl s) (v 0)), nN (fb_sm (fun s => v (20 + s) - hldN v pl s) (v 0)), ?_, rfl, fun B' g' a' => ?_⟩
  · unfold p_X6_freePlaces
    have hFU : v 0 < FU := FU_pos (by omega)
    generalize FU = F at hFU ⊢
    refine loop_sum (L := fun fu k x => pl_X6_freePlaces_4 (fun z => some z) z (ofc B r b t tb g h ar u ta) fu (nN x) (nN k)) (f := fun k => v (20 + k) - hldN v pl k) (fin := fun x => some (nN x)) (n := v 0) (fun fu k x hk => ?_) (fun fu x => ?_) F hFU
    · rw [pl_X6_freePlaces_4]
      have e1 := c_holdersOf B hG hR hT hI (s := k) (by omega)
      have e2 : p_J13_bitCount_95d88 (mkL (fun c => pl c = some k) (v 1)) (ofc B r b t tb g h ar u ta) = some (nN (hldN v pl k)) := c_bitc (by omega)
      have l1 : hldN v pl k ≤ v 1 := cnt_le _ _
      have l2 := (hI.sch k (by omega)).1
      have e3 := fr_sub (a := v (20 + k)) (b := hldN v pl k) (by omega) (by omega)
      simp only [nN_lit] at e3
      simp (disch := first | omega | (apply hb; omega)) only [fv_isC, fv_0, fv_1, fv_2, fv_3, fv_4, fv_5, fv_6, fv_7, fv_8, fv_9, fv_10, fv_11, fv_12, fv_13, fv_14, fv_15, fv_16, fv_17, fv_18, fv_19, fd_0 hG, fd_1 hG, fd_2 hG, fd_3 hG, fd_4 hG, fd_5 hG, fd_6 hG, fd_7 hG, fd_8 hG, ft_C hG, ft_0 hG, ft_1 hG, ft_2 hG, ft_3 hG, ft_4 hG, ft_5 hG, ft_6 hG, ft_7 hG, ft_8 hG, ft_9 hG, ft_10 hG, ft_11 hG, ft_12 hG, fp_0 hG, fp_1 hG, fp_2 hG, fp_3 hG, fp_4 hG, fp_5 hG, fp_6 hG, fp_7 hG, fp_8 hG, fp_9 hG, hR.g1, hR.g2, hR.g3, hR.g4, hR.g5, hR.g6, hR.h7, hR.h8, hR.h9, hR.h10, hR.a0, hR.a1, hR.a2, hR.a3, hR.a4, hR.a5, hR.a6, hR.a7, hR.a8, hT.u0, hT.u1, hT.u2, hT.a0, hT.a1, hT.a2, hT.a3, hT.a4, bS, rd_nN, nN_lit, nN_add, nN_mul, nN_le, nN_lt, nN_eq, jn_def, mI_lit, bI_0, bI_1, n01, n10, if_true, if_false, ite_not, nP_P, hr, e1, e2, e3]
      rw [if_neg (by omega)]
    · rw [pl_X6_freePlaces_4]
      simp (disch := first | omega | (apply hb; omega)) only [fv_isC, fv_0, fv_1, fv_2, fv_3, fv_4, fv_5, fv_6, fv_7, fv_8, fv_9, fv_10, fv_11, fv_12, fv_13, fv_14, fv_15, fv_16, fv_17, fv_18, fv_19, fd_0 hG, fd_1 hG, fd_2 hG, fd_3 hG, fd_4 hG, fd_5 hG, fd_6 hG, fd_7 hG, fd_8 hG, ft_C hG, ft_0 hG, ft_1 hG, ft_2 hG, ft_3 hG, ft_4 hG, ft_5 hG, ft_6 hG, ft_7 hG, ft_8 hG, ft_9 hG, ft_10 hG, ft_11 hG, ft_12 hG, fp_0 hG, fp_1 hG, fp_2 hG, fp_3 hG, fp_4 hG, fp_5 hG, fp_6 hG, fp_7 hG, fp_8 hG, fp_9 hG, hR.g1, hR.g2, hR.g3, hR.g4, hR.g5, hR.g6, hR.h7, hR.h8, hR.h9, hR.h10, hR.a0, hR.a1, hR.a2, hR.a3, hR.a4, hR.a5, hR.a6, hR.a7, hR.a8, hT.u0, hT.u1, hT.u2, hT.a0, hT.a1, hT.a2, hT.a3, hT.a4, bS, rd_nN, nN_lit, nN_add, nN_mul, nN_le, nN_lt, nN_eq, jn_def, mI_lit, bI_0, bI_1, n01, n10, if_true, if_false, ite_not, nP_P, hr]
      rw [if_pos (by omega)]

  · show p_X7_freePlaces m _ = _
    unfold p_X7_freePlaces
    have hw : up2 a' 1 (enc v pl) 1 = enc v pl := up2_s
    rw [op_9, bS]
    show _ = some (_, ovl B' m (upd g' 9 (nN 0)) (up2 a' 1 (enc v pl)))
    have hFU : v 0 < FU := FU_pos (by omega)
    generalize FU = F at hFU ⊢
    refine loop_sum (L := fun fu k x => pl_X7_freePlaces_9 (fun z => some (z, (ovl B' m (upd g' 9 (nN 0)) (up2 a' 1 (enc v pl))))) m (ovl B' m (upd g' 9 (nN 0)) (up2 a' 1 (enc v pl))) fu (nN x) (nN k)) (f := fun k => v (20 + k) - hldN v pl k) (fin := fun x => some (nN x, (ovl B' m (upd g' 9 (nN 0)) (up2 a' 1 (enc v pl))))) (n := v 0) (fun fu k x hk => ?_) (fun fu x => ?_) F hFU
    · rw [pl_X7_freePlaces_9]
      have e1 := e_holders (B := B') (m := m) (g := upd g' 9 (nN 0)) (a := up2 a' 1 (enc v pl)) hw hI (s := k) (by omega)
      have l1 : hldN v pl k ≤ v 1 := cnt_le _ _
      have l2 := (hI.sch k (by omega)).1
      have e3 := fr_sub (a := v (20 + k)) (b := hldN v pl k) (by omega) (by omega)
      simp only [nN_lit] at e3
      simp (disch := first | omega | (apply hb; omega)) only [oc, or_0, or_1, or_2, or_3, or_4, oi_5, oi_6, or_7, or_8, oi_9, or_10, or_11, oi_12, oi_13, oi_14, oi_15, oi_16, oi_17, oi_18, oi_19, oi_20, oi_21, or_22, or_23, or_24, oi_25, or_26, oi_27, od_1, od_2, od_3, od_4, od_5, od_6, od_7, od_8, od_9, od_10, od_11, od_12, od_13, bS, rd_nN, nN_lit, nN_add, nN_mul, hw, enc_v, enc_p, nN_le, nN_lt, nN_eq, jn_def, mI_lit, bI_0, bI_1, e_inRange, n01, n10, if_true, if_false, ite_not, nP_P, e1, e3]
      rw [if_neg (by omega)]
    · rw [pl_X7_freePlaces_9]
      simp (disch := first | omega | (apply hb; omega)) only [oc, or_0, or_1, or_2, or_3, or_4, oi_5, oi_6, or_7, or_8, oi_9, or_10, or_11, oi_12, oi_13, oi_14, oi_15, oi_16, oi_17, oi_18, oi_19, oi_20, oi_21, or_22, or_23, or_24, oi_25, or_26, oi_27, od_1, od_2, od_3, od_4, od_5, od_6, od_7, od_8, od_9, od_10, od_11, od_12, od_13, bS, rd_nN, nN_lit, nN_add, nN_mul, hw, enc_v, enc_p, nN_le, nN_lt, nN_eq, jn_def, mI_lit, bI_0, bI_1, e_inRange, n01, n10, if_true, if_false, ite_not, nP_P]
      rw [if_pos (by omega)]

theorem b_mostWaited (B : Mem) (hG : GE r b t tb) (hR : RG g h ar v pl) (hT : TG u ta v cd) (hI : Inv v pl) (hX : isC 5 (ofc B r b t tb g h ar u ta) z = some ()) (hr : gR 5 3 (ofc B r b t tb g h ar u ta) z = some r) : B0 m v pl (fun x y => x = y) (p_X6_mostWaited z (ofc B r b t tb g h ar u ta)) (fun M => p_X7_mostWaited m M) := by
  have hb := hI.hb; have h0 := hI.h0; have h1 := hI.h1; have h2 := hI.h2; have h7 := hI.h7; have h8 := hI.h8
  refine ⟨oN (mwO (fun s => wtgN v pl s) (v 0)).1, oN (mwO (fun s => wtgN v pl s) (v 0)).1, ?_, rfl, fun B' g' a' => ?_⟩
  · unfold p_X6_mostWaited
    have key : ∀ d k fu, k + d = v 0 → d < fu → pl_X6_mostWaited_6 (fun z => some z) z (ofc B r b t tb g h ar u ta) fu (oN (mwO (fun s => wtgN v pl s) k).1) (nN (mwO (fun s => wtgN v pl s) k).2) (nN k) = some (oN (mwO (fun s => wtgN v pl s) (v 0)).1) := by
      intro d
      induction d with
      | zero =>
        intro k fu hk hf
        obtain ⟨f, rfl⟩ : ∃ f, fu = f + 1 := ⟨fu - 1, by omega⟩
        rw [pl_X6_mostWaited_6]
        simp (disch := first | omega | (apply hb; omega)) only [fv_isC, fv_0, fv_1, fv_2, fv_3, fv_4, fv_5, fv_6, fv_7, fv_8, fv_9, fv_10, fv_11, fv_12, fv_13, fv_14, fv_15, fv_16, fv_17, fv_18, fv_19, fd_0 hG, fd_1 hG, fd_2 hG, fd_3 hG, fd_4 hG, fd_5 hG, fd_6 hG, fd_7 hG, fd_8 hG, ft_C hG, ft_0 hG, ft_1 hG, ft_2 hG, ft_3 hG, ft_4 hG, ft_5 hG, ft_6 hG, ft_7 hG, ft_8 hG, ft_9 hG, ft_10 hG, ft_11 hG, ft_12 hG, fp_0 hG, fp_1 hG, fp_2 hG, fp_3 hG, fp_4 hG, fp_5 hG, fp_6 hG, fp_7 hG, fp_8 hG, fp_9 hG, hR.g1, hR.g2, hR.g3, hR.g4, hR.g5, hR.g6, hR.h7, hR.h8, hR.h9, hR.h10, hR.a0, hR.a1, hR.a2, hR.a3, hR.a4, hR.a5, hR.a6, hR.a7, hR.a8, hT.u0, hT.u1, hT.u2, hT.a0, hT.a1, hT.a2, hT.a3, hT.a4, bS, rd_nN, nN_lit, nN_add, nN_mul, nN_le, nN_lt, nN_eq, jn_def, mI_lit, bI_0, bI_1, n01, n10, if_true, if_false, ite_not, nP_P, hr]
        rw [if_pos (by omega), show k = v 0 by omega]
      | succ d ih =>
        intro k fu hk hf
        obtain ⟨f, rfl⟩ : ∃ f, fu = f + 1 := ⟨fu - 1, by omega⟩
        have ih := ih (k + 1) f (by omega) (by omega)
        rw [pl_X6_mostWaited_6]
        have e1 := c_waitersOf B hG hR hT hI (s := k) (by omega)
        have e2 : p_J13_bitCount_95d88 (mkL (fun c => waiB v pl c k = true) (v 1)) (ofc B r b t tb g h ar u ta) = some (nN (wtgN v pl k)) := c_bitc (by omega)
        have l1 : wtgN v pl k ≤ v 1 := cnt_le _ _
        have l2 := mwO_le (f := fun s => wtgN v pl s) (b := 40) (fun s => Nat.le_trans (cnt_le _ _) h1) k
        simp (disch := first | omega | (apply hb; omega)) only [fv_isC, fv_0, fv_1, fv_2, fv_3, fv_4, fv_5, fv_6, fv_7, fv_8, fv_9, fv_10, fv_11, fv_12, fv_13, fv_14, fv_15, fv_16, fv_17, fv_18, fv_19, fd_0 hG, fd_1 hG, fd_2 hG, fd_3 hG, fd_4 hG, fd_5 hG, fd_6 hG, fd_7 hG, fd_8 hG, ft_C hG, ft_0 hG, ft_1 hG, ft_2 hG, ft_3 hG, ft_4 hG, ft_5 hG, ft_6 hG, ft_7 hG, ft_8 hG, ft_9 hG, ft_10 hG, ft_11 hG, ft_12 hG, fp_0 hG, fp_1 hG, fp_2 hG, fp_3 hG, fp_4 hG, fp_5 hG, fp_6 hG, fp_7 hG, fp_8 hG, fp_9 hG, hR.g1, hR.g2, hR.g3, hR.g4, hR.g5, hR.g6, hR.h7, hR.h8, hR.h9, hR.h10, hR.a0, hR.a1, hR.a2, hR.a3, hR.a4, hR.a5, hR.a6, hR.a7, hR.a8, hT.u0, hT.u1, hT.u2, hT.a0, hT.a1, hT.a2, hT.a3, hT.a4, bS, rd_nN, nN_lit, nN_add, nN_mul, nN_le, nN_lt, nN_eq, jn_def, mI_lit, bI_0, bI_1, n01, n10, if_true, if_false, ite_not, nP_P, hr, e1, e2]
        rw [if_neg (by omega), ← ih]
        show _ = pl_X6_mostWaited_6 _ _ _ _ (oN (if _ then _ else _ : Option Nat × Nat).1) (nN (if _ then _ else _ : Option Nat × Nat).2) _
        by_cases c : (mwO (fun s => wtgN v pl s) k).2 < wtgN v pl k
        · rw [if_neg (by omega), if_pos c]; rfl
        · rw [if_pos (by omega), if_neg c]
    exact key (v 0) 0 FU (by omega) (FU_pos (by omega))
  · show p_X7_mostWaited m _ = _
    unfold p_X7_mostWaited
    have hw : up2 a' 1 (enc v pl) 1 = enc v pl := up2_s
    rw [op_9, bS]
    show _ = some (_, ovl B' m (upd g' 9 (nN 0)) (up2 a' 1 (enc v pl)))
    have key : ∀ d k fu, k + d = v 0 → d < fu → pl_X7_mostWaited_11 (fun z => some (z, (ovl B' m (upd g' 9 (nN 0)) (up2 a' 1 (enc v pl))))) m (ovl B' m (upd g' 9 (nN 0)) (up2 a' 1 (enc v pl))) fu (oN (mwO (fun s => wtgN v pl s) k).1) (nN (mwO (fun s => wtgN v pl s) k).2) (nN k) = some (oN (mwO (fun s => wtgN v pl s) (v 0)).1, (ovl B' m (upd g' 9 (nN 0)) (up2 a' 1 (enc v pl)))) := by
      intro d
      induction d with
      | zero =>
        intro k fu hk hf
        obtain ⟨f, rfl⟩ : ∃ f, fu = f + 1 := ⟨fu - 1, by omega⟩
        rw [pl_X7_mostWaited_11]
        simp (disch := first | omega | (apply hb; omega)) only [oc, or_0, or_1, or_2, or_3, or_4, oi_5, oi_6, or_7, or_8, oi_9, or_10, or_11, oi_12, oi_13, oi_14, oi_15, oi_16, oi_17, oi_18, oi_19, oi_20, oi_21, or_22, or_23, or_24, oi_25, or_26, oi_27, od_1, od_2, od_3, od_4, od_5, od_6, od_7, od_8, od_9, od_10, od_11, od_12, od_13, bS, rd_nN, nN_lit, nN_add, nN_mul, hw, enc_v, enc_p, nN_le, nN_lt, nN_eq, jn_def, mI_lit, bI_0, bI_1, e_inRange, n01, n10, if_true, if_false, ite_not, nP_P]
        rw [if_pos (by omega), show k = v 0 by omega]
      | succ d ih =>
        intro k fu hk hf
        obtain ⟨f, rfl⟩ : ∃ f, fu = f + 1 := ⟨fu - 1, by omega⟩
        have ih := ih (k + 1) f (by omega) (by omega)
        rw [pl_X7_mostWaited_11]
        have e1 := e_waitingMany (B := B') (m := m) (g := upd g' 9 (nN 0)) (a := up2 a' 1 (enc v pl)) hw hI (s := k) (by omega)
        have l1 : wtgN v pl k ≤ v 1 := cnt_le _ _
        have l2 := mwO_le (f := fun s => wtgN v pl s) (b := 40) (fun s => Nat.le_trans (cnt_le _ _) h1) k
        simp (disch := first | omega | (apply hb; omega)) only [oc, or_0, or_1, or_2, or_3, or_4, oi_5, oi_6, or_7, or_8, oi_9, or_10, or_11, oi_12, oi_13, oi_14, oi_15, oi_16, oi_17, oi_18, oi_19, oi_20, oi_21, or_22, or_23, or_24, oi_25, or_26, oi_27, od_1, od_2, od_3, od_4, od_5, od_6, od_7, od_8, od_9, od_10, od_11, od_12, od_13, bS, rd_nN, nN_lit, nN_add, nN_mul, hw, enc_v, enc_p, nN_le, nN_lt, nN_eq, jn_def, mI_lit, bI_0, bI_1, e_inRange, n01, n10, if_true, if_false, ite_not, nP_P, e1]
        rw [if_neg (by omega), ← ih]
        show _ = pl_X7_mostWaited_11 _ _ _ _ (oN (if _ then _ else _ : Option Nat × Nat).1) (nN (if _ then _ else _ : Option Nat × Nat).2) _
        by_cases c : (mwO (fun s => wtgN v pl s) k).2 < wtgN v pl k
        · rw [if_pos c, if_pos c]; rfl
        · rw [if_neg c, if_neg c]
    exact key (v 0) 0 FU (by omega) (FU_pos (by omega))
theorem b_together (B : Mem) (hG : GE r b t tb) (hR : RG g h ar v pl) (hT : TG u ta v cd) (hI : Inv v pl) (hX : isC 5 (ofc B r b t tb g h ar u ta) z = some ()) (hr : gR 5 3 (ofc B r b t tb g h ar u ta) z = some r) : B0 m v pl (fun x y => x = y) (p_X6_together z (ofc B r b t tb g h ar u ta)) (fun M => p_X7_together m M) := by
  have hb := hI.hb; have h0 := hI.h0; have h1 := hI.h1; have h2 := hI.h2; have h7 := hI.h7; have h8 := hI.h8
  refine ⟨nN (cnt (fun k => tgB v pl (k + 1) (v 1) 0 0 none = true) 99), nN (cnt (fun k => tgB v pl (k + 1) (v 1) 0 0 none = true) 99), ?_, rfl, fun B' g' a' => ?_⟩
  · unfold p_X6_together
    have hFU : 99 < FU := FU_pos (by omega)
    generalize FU = F at hFU ⊢
    refine loop_cnt (L := fun fu k x => pl_X6_together_4 (fun z => some z) z (ofc B r b t tb g h ar u ta) fu (nN x) (nN (k + 1))) (P := fun k => tgB v pl (k + 1) (v 1) 0 0 none = true) (fin := fun x => some (nN x)) (n := 99) (fun fu k x hk hx => ?_) (fun fu x hx => ?_) F hFU
    · rw [pl_X6_together_4]
      have e1 := c_isTogether B hG hR hT hI (f := k + 1) (by omega)
      simp (disch := first | omega | (apply hb; omega)) only [fv_isC, fv_0, fv_1, fv_2, fv_3, fv_4, fv_5, fv_6, fv_7, fv_8, fv_9, fv_10, fv_11, fv_12, fv_13, fv_14, fv_15, fv_16, fv_17, fv_18, fv_19, fd_0 hG, fd_1 hG, fd_2 hG, fd_3 hG, fd_4 hG, fd_5 hG, fd_6 hG, fd_7 hG, fd_8 hG, ft_C hG, ft_0 hG, ft_1 hG, ft_2 hG, ft_3 hG, ft_4 hG, ft_5 hG, ft_6 hG, ft_7 hG, ft_8 hG, ft_9 hG, ft_10 hG, ft_11 hG, ft_12 hG, fp_0 hG, fp_1 hG, fp_2 hG, fp_3 hG, fp_4 hG, fp_5 hG, fp_6 hG, fp_7 hG, fp_8 hG, fp_9 hG, hR.g1, hR.g2, hR.g3, hR.g4, hR.g5, hR.g6, hR.h7, hR.h8, hR.h9, hR.h10, hR.a0, hR.a1, hR.a2, hR.a3, hR.a4, hR.a5, hR.a6, hR.a7, hR.a8, hT.u0, hT.u1, hT.u2, hT.a0, hT.a1, hT.a2, hT.a3, hT.a4, bS, rd_nN, nN_lit, nN_add, nN_mul, nN_le, nN_lt, nN_eq, jn_def, mI_lit, bI_0, bI_1, n01, n10, if_true, if_false, ite_not, nP_P, hr, e1]
      rw [if_neg (by omega)]
    · rw [pl_X6_together_4]
      simp (disch := first | omega | (apply hb; omega)) only [fv_isC, fv_0, fv_1, fv_2, fv_3, fv_4, fv_5, fv_6, fv_7, fv_8, fv_9, fv_10, fv_11, fv_12, fv_13, fv_14, fv_15, fv_16, fv_17, fv_18, fv_19, fd_0 hG, fd_1 hG, fd_2 hG, fd_3 hG, fd_4 hG, fd_5 hG, fd_6 hG, fd_7 hG, fd_8 hG, ft_C hG, ft_0 hG, ft_1 hG, ft_2 hG, ft_3 hG, ft_4 hG, ft_5 hG, ft_6 hG, ft_7 hG, ft_8 hG, ft_9 hG, ft_10 hG, ft_11 hG, ft_12 hG, fp_0 hG, fp_1 hG, fp_2 hG, fp_3 hG, fp_4 hG, fp_5 hG, fp_6 hG, fp_7 hG, fp_8 hG, fp_9 hG, hR.g1, hR.g2, hR.g3, hR.g4, hR.g5, hR.g6, hR.h7, hR.h8, hR.h9, hR.h10, hR.a0, hR.a1, hR.a2, hR.a3, hR.a4, hR.a5, hR.a6, hR.a7, hR.a8, hT.u0, hT.u1, hT.u2, hT.a0, hT.a1, hT.a2, hT.a3, hT.a4, bS, rd_nN, nN_lit, nN_add, nN_mul, nN_le, nN_lt, nN_eq, jn_def, mI_lit, bI_0, bI_1, n01, n10, if_true, if_false, ite_not, nP_P, hr]
      rw [if_pos (by omega)]

  · show p_X7_together m _ = _
    unfold p_X7_together
    have hw : up2 a' 1 (enc v pl) 1 = enc v pl := up2_s
    rw [op_9, bS]
    show _ = some (_, ovl B' m (upd g' 9 (nN 0)) (up2 a' 1 (enc v pl)))
    have hFU : 99 < FU := FU_pos (by omega)
    generalize FU = F at hFU ⊢
    refine loop_cnt (L := fun fu k x => pl_X7_together_9 (fun z => some (z, (ovl B' m (upd g' 9 (nN 0)) (up2 a' 1 (enc v pl))))) m (ovl B' m (upd g' 9 (nN 0)) (up2 a' 1 (enc v pl))) fu (nN x) (nN (k + 1))) (P := fun k => tgB v pl (k + 1) (v 1) 0 0 none = true) (fin := fun x => some (nN x, (ovl B' m (upd g' 9 (nN 0)) (up2 a' 1 (enc v pl))))) (n := 99) (fun fu k x hk hx => ?_) (fun fu x hx => ?_) F hFU
    · rw [pl_X7_together_9]
      have e1 := e_isTogether (B := B') (m := m) (g := upd g' 9 (nN 0)) (a := up2 a' 1 (enc v pl)) hw hI (f := k + 1) (by omega)
      simp (disch := first | omega | (apply hb; omega)) only [oc, or_0, or_1, or_2, or_3, or_4, oi_5, oi_6, or_7, or_8, oi_9, or_10, or_11, oi_12, oi_13, oi_14, oi_15, oi_16, oi_17, oi_18, oi_19, oi_20, oi_21, or_22, or_23, or_24, oi_25, or_26, oi_27, od_1, od_2, od_3, od_4, od_5, od_6, od_7, od_8, od_9, od_10, od_11, od_12, od_13, bS, rd_nN, nN_lit, nN_add, nN_mul, hw, enc_v, enc_p, nN_le, nN_lt, nN_eq, jn_def, mI_lit, bI_0, bI_1, e_inRange, n01, n10, if_true, if_false, ite_not, nP_P, e1]
      rw [if_neg (by omega)]
      rfl
    · rw [pl_X7_together_9]
      simp (disch := first | omega | (apply hb; omega)) only [oc, or_0, or_1, or_2, or_3, or_4, oi_5, oi_6, or_7, or_8, oi_9, or_10, or_11, oi_12, oi_13, oi_14, oi_15, oi_16, oi_17, oi_18, oi_19, oi_20, oi_21, or_22, or_23, or_24, oi_25, or_26, oi_27, od_1, od_2, od_3, od_4, od_5, od_6, od_7, od_8, od_9, od_10, od_11, od_12, od_13, bS, rd_nN, nN_lit, nN_add, nN_mul, hw, enc_v, enc_p, nN_le, nN_lt, nN_eq, jn_def, mI_lit, bI_0, bI_1, e_inRange, n01, n10, if_true, if_false, ite_not, nP_P]
      rw [if_pos (by omega)]

theorem b_claims (B : Mem) (hG : GE r b t tb) (hR : RG g h ar v pl) (hT : TG u ta v cd) (hI : Inv v pl) (hX : isC 5 (ofc B r b t tb g h ar u ta) z = some ()) (hr : gR 5 3 (ofc B r b t tb g h ar u ta) z = some r) : B0 m v pl (fun x y => x = y) (p_X6_claims z (ofc B r b t tb g h ar u ta)) (fun M => p_X7_claims_ m M) := by
  have hb := hI.hb; have h0 := hI.h0; have h1 := hI.h1; have h2 := hI.h2; have h7 := hI.h7; have h8 := hI.h8
  refine ⟨nN (fb_sm (fun s => cnt (fun c => 0 ≤ c ∧ clmB v pl c s = true) (v 1)) (v 0)), nN (fb_sm (fun c => cnt (fun s => 0 ≤ s ∧ clmB v pl c s = true) (v 0)) (v 1)), ?_, ?_, fun B' g' a' => ?_⟩
  · unfold p_X6_claims
    have inn : ∀ (k1 : Int32 → Option Int32) s, s < v 0 → ∀ x, pl_X6_claims_20 k1 z (nN s) (ofc B r b t tb g h ar u ta) FU (nN x) (nN 0) = k1 (nN (x + cnt (fun c => 0 ≤ c ∧ clmB v pl c s = true) (v 1))) := fun k1 s hs x => by
      have hFU : v 1 < FU := FU_pos (by omega)
      generalize FU = F at hFU ⊢
      refine loop_acc (L := fun fu k x => pl_X6_claims_20 k1 z (nN s) (ofc B r b t tb g h ar u ta) fu (nN x) (nN k)) (P := fun c => clmB v pl c s = true) (fin := fun x => k1 (nN x)) (n := v 1) (fun fu k x hk => ?_) (fun fu x => ?_) (v 1) F x (by omega) hFU
      · rw [pl_X6_claims_20]
        have e1 := c_claimStands B hG hR hT hI hk hs
        simp (disch := first | omega | (apply hb; omega)) only [fv_isC, fv_0, fv_1, fv_2, fv_3, fv_4, fv_5, fv_6, fv_7, fv_8, fv_9, fv_10, fv_11, fv_12, fv_13, fv_14, fv_15, fv_16, fv_17, fv_18, fv_19, fd_0 hG, fd_1 hG, fd_2 hG, fd_3 hG, fd_4 hG, fd_5 hG, fd_6 hG, fd_7 hG, fd_8 hG, ft_C hG, ft_0 hG, ft_1 hG, ft_2 hG, ft_3 hG, ft_4 hG, ft_5 hG, ft_6 hG, ft_7 hG, ft_8 hG, ft_9 hG, ft_10 hG, ft_11 hG, ft_12 hG, fp_0 hG, fp_1 hG, fp_2 hG, fp_3 hG, fp_4 hG, fp_5 hG, fp_6 hG, fp_7 hG, fp_8 hG, fp_9 hG, hR.g1, hR.g2, hR.g3, hR.g4, hR.g5, hR.g6, hR.h7, hR.h8, hR.h9, hR.h10, hR.a0, hR.a1, hR.a2, hR.a3, hR.a4, hR.a5, hR.a6, hR.a7, hR.a8, hT.u0, hT.u1, hT.u2, hT.a0, hT.a1, hT.a2, hT.a3, hT.a4, bS, rd_nN, nN_lit, nN_add, nN_mul, nN_le, nN_lt, nN_eq, jn_def, mI_lit, bI_0, bI_1, n01, n10, if_true, if_false, ite_not, nP_P, hr, e1]
        rw [if_neg (by omega)]
      · rw [pl_X6_claims_20]
        simp (disch := first | omega | (apply hb; omega)) only [fv_isC, fv_0, fv_1, fv_2, fv_3, fv_4, fv_5, fv_6, fv_7, fv_8, fv_9, fv_10, fv_11, fv_12, fv_13, fv_14, fv_15, fv_16, fv_17, fv_18, fv_19, fd_0 hG, fd_1 hG, fd_2 hG, fd_3 hG, fd_4 hG, fd_5 hG, fd_6 hG, fd_7 hG, fd_8 hG, ft_C hG, ft_0 hG, ft_1 hG, ft_2 hG, ft_3 hG, ft_4 hG, ft_5 hG, ft_6 hG, ft_7 hG, ft_8 hG, ft_9 hG, ft_10 hG, ft_11 hG, ft_12 hG, fp_0 hG, fp_1 hG, fp_2 hG, fp_3 hG, fp_4 hG, fp_5 hG, fp_6 hG, fp_7 hG, fp_8 hG, fp_9 hG, hR.g1, hR.g2, hR.g3, hR.g4, hR.g5, hR.g6, hR.h7, hR.h8, hR.h9, hR.h10, hR.a0, hR.a1, hR.a2, hR.a3, hR.a4, hR.a5, hR.a6, hR.a7, hR.a8, hT.u0, hT.u1, hT.u2, hT.a0, hT.a1, hT.a2, hT.a3, hT.a4, bS, rd_nN, nN_lit, nN_add, nN_mul, nN_le, nN_lt, nN_eq, jn_def, mI_lit, bI_0, bI_1, n01, n10, if_true, if_false, ite_not, nP_P, hr]
        rw [if_pos (by omega)]
    have out : ∀ F, v 0 < F → pl_X6_claims_4 (fun z => some z) z (ofc B r b t tb g h ar u ta) F (nN 0) (nN 0) = some (nN (fb_sm (fun s => cnt (fun c => 0 ≤ c ∧ clmB v pl c s = true) (v 1)) (v 0))) := fun F hF => by
      refine loop_sum (L := fun fu k x => pl_X6_claims_4 (fun z => some z) z (ofc B r b t tb g h ar u ta) fu (nN x) (nN k)) (f := fun s => cnt (fun c => 0 ≤ c ∧ clmB v pl c s = true) (v 1)) (fin := fun x => some (nN x)) (n := v 0) (fun fu k x hk => ?_) (fun fu x => ?_) F hF
      · rw [pl_X6_claims_4]
        simp (disch := first | omega | (apply hb; omega)) only [fv_isC, fv_0, fv_1, fv_2, fv_3, fv_4, fv_5, fv_6, fv_7, fv_8, fv_9, fv_10, fv_11, fv_12, fv_13, fv_14, fv_15, fv_16, fv_17, fv_18, fv_19, fd_0 hG, fd_1 hG, fd_2 hG, fd_3 hG, fd_4 hG, fd_5 hG, fd_6 hG, fd_7 hG, fd_8 hG, ft_C hG, ft_0 hG, ft_1 hG, ft_2 hG, ft_3 hG, ft_4 hG, ft_5 hG, ft_6 hG, ft_7 hG, ft_8 hG, ft_9 hG, ft_10 hG, ft_11 hG, ft_12 hG, fp_0 hG, fp_1 hG, fp_2 hG, fp_3 hG, fp_4 hG, fp_5 hG, fp_6 hG, fp_7 hG, fp_8 hG, fp_9 hG, hR.g1, hR.g2, hR.g3, hR.g4, hR.g5, hR.g6, hR.h7, hR.h8, hR.h9, hR.h10, hR.a0, hR.a1, hR.a2, hR.a3, hR.a4, hR.a5, hR.a6, hR.a7, hR.a8, hT.u0, hT.u1, hT.u2, hT.a0, hT.a1, hT.a2, hT.a3, hT.a4, bS, rd_nN, nN_lit, nN_add, nN_mul, nN_le, nN_lt, nN_eq, jn_def, mI_lit, bI_0, bI_1, n01, n10, if_true, if_false, ite_not, nP_P, hr]
        rw [if_neg (by omega)]
        exact inn _ k hk x
      · rw [pl_X6_claims_4]
        simp (disch := first | omega | (apply hb; omega)) only [fv_isC, fv_0, fv_1, fv_2, fv_3, fv_4, fv_5, fv_6, fv_7, fv_8, fv_9, fv_10, fv_11, fv_12, fv_13, fv_14, fv_15, fv_16, fv_17, fv_18, fv_19, fd_0 hG, fd_1 hG, fd_2 hG, fd_3 hG, fd_4 hG, fd_5 hG, fd_6 hG, fd_7 hG, fd_8 hG, ft_C hG, ft_0 hG, ft_1 hG, ft_2 hG, ft_3 hG, ft_4 hG, ft_5 hG, ft_6 hG, ft_7 hG, ft_8 hG, ft_9 hG, ft_10 hG, ft_11 hG, ft_12 hG, fp_0 hG, fp_1 hG, fp_2 hG, fp_3 hG, fp_4 hG, fp_5 hG, fp_6 hG, fp_7 hG, fp_8 hG, fp_9 hG, hR.g1, hR.g2, hR.g3, hR.g4, hR.g5, hR.g6, hR.h7, hR.h8, hR.h9, hR.h10, hR.a0, hR.a1, hR.a2, hR.a3, hR.a4, hR.a5, hR.a6, hR.a7, hR.a8, hT.u0, hT.u1, hT.u2, hT.a0, hT.a1, hT.a2, hT.a3, hT.a4, bS, rd_nN, nN_lit, nN_add, nN_mul, nN_le, nN_lt, nN_eq, jn_def, mI_lit, bI_0, bI_1, n01, n10, if_true, if_false, ite_not, nP_P, hr]
        rw [if_pos (by omega)]
    exact out FU (FU_pos (by omega))
  · congr 1
    have := cnt_swap (fun s c => clmB v pl c s = true) (v 0) (v 1)
    have e1 : fb_sm (fun s => cnt (fun c => 0 ≤ c ∧ clmB v pl c s = true) (v 1)) (v 0) = fb_sm (fun s => cnt (fun c => clmB v pl c s = true) (v 1)) (v 0) := fb_sm_cong (fun k _ => cnt_c (fun j _ => by simp))
    have e2 : fb_sm (fun c => cnt (fun s => 0 ≤ s ∧ clmB v pl c s = true) (v 0)) (v 1) = fb_sm (fun c => cnt (fun s => clmB v pl c s = true) (v 0)) (v 1) := fb_sm_cong (fun k _ => cnt_c (fun j _ => by simp))
    rw [e1, e2]
    exact this
  · show p_X7_claims_ m _ = _
    unfold p_X7_claims_
    have hw : up2 a' 1 (enc v pl) 1 = enc v pl := up2_s
    rw [op_9, bS]
    have inn : ∀ (k1 : Int32 → Option (Int32 × Mem)) c, c < v 1 → ∀ x, pl_X7_claims__21 k1 m (nN c) (ovl B' m (upd g' 9 (nN 0)) (up2 a' 1 (enc v pl))) FU (nN x) (nN 0) = k1 (nN (x + cnt (fun s => 0 ≤ s ∧ clmB v pl c s = true) (v 0))) := fun k1 c hc x => by
      have hFU : v 0 < FU := FU_pos (by omega)
      generalize FU = F at hFU ⊢
      refine loop_acc (L := fun fu k x => pl_X7_claims__21 k1 m (nN c) (ovl B' m (upd g' 9 (nN 0)) (up2 a' 1 (enc v pl))) fu (nN x) (nN k)) (P := fun s => clmB v pl c s = true) (fin := fun x => k1 (nN x)) (n := v 0) (fun fu k x hk => ?_) (fun fu x => ?_) (v 0) F x (by omega) hFU
      · rw [pl_X7_claims__21]
        have e1 := e_claims (B := B') (m := m) (g := upd g' 9 (nN 0)) (a := up2 a' 1 (enc v pl)) hw hI hc (s := k) (by omega)
        simp (disch := first | omega | (apply hb; omega)) only [oc, or_0, or_1, or_2, or_3, or_4, oi_5, oi_6, or_7, or_8, oi_9, or_10, or_11, oi_12, oi_13, oi_14, oi_15, oi_16, oi_17, oi_18, oi_19, oi_20, oi_21, or_22, or_23, or_24, oi_25, or_26, oi_27, od_1, od_2, od_3, od_4, od_5, od_6, od_7, od_8, od_9, od_10, od_11, od_12, od_13, bS, rd_nN, nN_lit, nN_add, nN_mul, hw, enc_v, enc_p, nN_le, nN_lt, nN_eq, jn_def, mI_lit, bI_0, bI_1, e_inRange, n01, n10, if_true, if_false, ite_not, nP_P, e1]
        rw [if_neg (by omega)]
        rfl
      · rw [pl_X7_claims__21]
        simp (disch := first | omega | (apply hb; omega)) only [oc, or_0, or_1, or_2, or_3, or_4, oi_5, oi_6, or_7, or_8, oi_9, or_10, or_11, oi_12, oi_13, oi_14, oi_15, oi_16, oi_17, oi_18, oi_19, oi_20, oi_21, or_22, or_23, or_24, oi_25, or_26, oi_27, od_1, od_2, od_3, od_4, od_5, od_6, od_7, od_8, od_9, od_10, od_11, od_12, od_13, bS, rd_nN, nN_lit, nN_add, nN_mul, hw, enc_v, enc_p, nN_le, nN_lt, nN_eq, jn_def, mI_lit, bI_0, bI_1, e_inRange, n01, n10, if_true, if_false, ite_not, nP_P]
        rw [if_pos (by omega)]
    have out : ∀ F, v 1 < F → pl_X7_claims__9 (fun z => some (z, (ovl B' m (upd g' 9 (nN 0)) (up2 a' 1 (enc v pl))))) m (ovl B' m (upd g' 9 (nN 0)) (up2 a' 1 (enc v pl))) F (nN 0) (nN 0) = some (nN (fb_sm (fun c => cnt (fun s => 0 ≤ s ∧ clmB v pl c s = true) (v 0)) (v 1)), (ovl B' m (upd g' 9 (nN 0)) (up2 a' 1 (enc v pl)))) := fun F hF => by
      refine loop_sum (L := fun fu k x => pl_X7_claims__9 (fun z => some (z, (ovl B' m (upd g' 9 (nN 0)) (up2 a' 1 (enc v pl))))) m (ovl B' m (upd g' 9 (nN 0)) (up2 a' 1 (enc v pl))) fu (nN x) (nN k)) (f := fun c => cnt (fun s => 0 ≤ s ∧ clmB v pl c s = true) (v 0)) (fin := fun x => some (nN x, (ovl B' m (upd g' 9 (nN 0)) (up2 a' 1 (enc v pl))))) (n := v 1) (fun fu k x hk => ?_) (fun fu x => ?_) F hF
      · rw [pl_X7_claims__9]
        simp (disch := first | omega | (apply hb; omega)) only [oc, or_0, or_1, or_2, or_3, or_4, oi_5, oi_6, or_7, or_8, oi_9, or_10, or_11, oi_12, oi_13, oi_14, oi_15, oi_16, oi_17, oi_18, oi_19, oi_20, oi_21, or_22, or_23, or_24, oi_25, or_26, oi_27, od_1, od_2, od_3, od_4, od_5, od_6, od_7, od_8, od_9, od_10, od_11, od_12, od_13, bS, rd_nN, nN_lit, nN_add, nN_mul, hw, enc_v, enc_p, nN_le, nN_lt, nN_eq, jn_def, mI_lit, bI_0, bI_1, e_inRange, n01, n10, if_true, if_false, ite_not, nP_P]
        rw [if_neg (by omega)]
        exact inn _ k hk x
      · rw [pl_X7_claims__9]
        simp (disch := first | omega | (apply hb; omega)) only [oc, or_0, or_1, or_2, or_3, or_4, oi_5, oi_6, or_7, or_8, oi_9, or_10, or_11, oi_12, oi_13, oi_14, oi_15, oi_16, oi_17, oi_18, oi_19, oi_20, oi_21, or_22, or_23, or_24, oi_25, or_26, oi_27, od_1, od_2, od_3, od_4, od_5, od_6, od_7, od_8, od_9, od_10, od_11, od_12, od_13, bS, rd_nN, nN_lit, nN_add, nN_mul, hw, enc_v, enc_p, nN_le, nN_lt, nN_eq, jn_def, mI_lit, bI_0, bI_1, e_inRange, n01, n10, if_true, if_false, ite_not, nP_P]
        rw [if_pos (by omega)]
    exact out FU (FU_pos (by omega))
theorem b_trades (B : Mem) (hG : GE r b t tb) (hR : RG g h ar v pl) (hT : TG u ta v cd) (hI : Inv v pl) (hX : isC 5 (ofc B r b t tb g h ar u ta) z = some ()) (hr : gR 5 3 (ofc B r b t tb g h ar u ta) z = some r) : B0 m v pl (fun x y => x = y) (p_X6_trades z (ofc B r b t tb g h ar u ta)) (fun M => p_X7_trades m M) := by
  have hb := hI.hb; have h0 := hI.h0; have h1 := hI.h1; have h2 := hI.h2; have h7 := hI.h7; have h8 := hI.h8
  refine ⟨nN (fb_sm (fun c => cnt (fun d => c + 1 ≤ d ∧ trdB v pl c d = true) (v 1)) (v 1)), nN (fb_sm (fun c => cnt (fun d => 0 ≤ d ∧ trdB v pl c d = true) c) (v 1)), ?_, ?_, fun B' g' a' => ?_⟩
  · unfold p_X6_trades
    have inn : ∀ (k1 : Int32 → Option Int32) c, c < v 1 → ∀ x, pl_X6_trades_19 k1 z (nN c) (ofc B r b t tb g h ar u ta) FU (nN x) (nN (c + 1)) = k1 (nN (x + cnt (fun d => c + 1 ≤ d ∧ trdB v pl c d = true) (v 1))) := fun k1 c hc x => by
      have hFU : v 1 < FU := FU_pos (by omega)
      generalize FU = F at hFU ⊢
      refine loop_acc (L := fun fu k x => pl_X6_trades_19 k1 z (nN c) (ofc B r b t tb g h ar u ta) fu (nN x) (nN k)) (P := fun d => trdB v pl c d = true) (fin := fun x => k1 (nN x)) (n := v 1) (fun fu k x hk => ?_) (fun fu x => ?_) (v 1 - (c + 1)) F x (by omega) (by omega)
      · rw [pl_X6_trades_19]
        have e1 := c_wouldTrade B hG hR hT hI hc hk
        simp (disch := first | omega | (apply hb; omega)) only [fv_isC, fv_0, fv_1, fv_2, fv_3, fv_4, fv_5, fv_6, fv_7, fv_8, fv_9, fv_10, fv_11, fv_12, fv_13, fv_14, fv_15, fv_16, fv_17, fv_18, fv_19, fd_0 hG, fd_1 hG, fd_2 hG, fd_3 hG, fd_4 hG, fd_5 hG, fd_6 hG, fd_7 hG, fd_8 hG, ft_C hG, ft_0 hG, ft_1 hG, ft_2 hG, ft_3 hG, ft_4 hG, ft_5 hG, ft_6 hG, ft_7 hG, ft_8 hG, ft_9 hG, ft_10 hG, ft_11 hG, ft_12 hG, fp_0 hG, fp_1 hG, fp_2 hG, fp_3 hG, fp_4 hG, fp_5 hG, fp_6 hG, fp_7 hG, fp_8 hG, fp_9 hG, hR.g1, hR.g2, hR.g3, hR.g4, hR.g5, hR.g6, hR.h7, hR.h8, hR.h9, hR.h10, hR.a0, hR.a1, hR.a2, hR.a3, hR.a4, hR.a5, hR.a6, hR.a7, hR.a8, hT.u0, hT.u1, hT.u2, hT.a0, hT.a1, hT.a2, hT.a3, hT.a4, bS, rd_nN, nN_lit, nN_add, nN_mul, nN_le, nN_lt, nN_eq, jn_def, mI_lit, bI_0, bI_1, n01, n10, if_true, if_false, ite_not, nP_P, hr, e1]
        rw [if_neg (by omega)]
      · rw [pl_X6_trades_19]
        simp (disch := first | omega | (apply hb; omega)) only [fv_isC, fv_0, fv_1, fv_2, fv_3, fv_4, fv_5, fv_6, fv_7, fv_8, fv_9, fv_10, fv_11, fv_12, fv_13, fv_14, fv_15, fv_16, fv_17, fv_18, fv_19, fd_0 hG, fd_1 hG, fd_2 hG, fd_3 hG, fd_4 hG, fd_5 hG, fd_6 hG, fd_7 hG, fd_8 hG, ft_C hG, ft_0 hG, ft_1 hG, ft_2 hG, ft_3 hG, ft_4 hG, ft_5 hG, ft_6 hG, ft_7 hG, ft_8 hG, ft_9 hG, ft_10 hG, ft_11 hG, ft_12 hG, fp_0 hG, fp_1 hG, fp_2 hG, fp_3 hG, fp_4 hG, fp_5 hG, fp_6 hG, fp_7 hG, fp_8 hG, fp_9 hG, hR.g1, hR.g2, hR.g3, hR.g4, hR.g5, hR.g6, hR.h7, hR.h8, hR.h9, hR.h10, hR.a0, hR.a1, hR.a2, hR.a3, hR.a4, hR.a5, hR.a6, hR.a7, hR.a8, hT.u0, hT.u1, hT.u2, hT.a0, hT.a1, hT.a2, hT.a3, hT.a4, bS, rd_nN, nN_lit, nN_add, nN_mul, nN_le, nN_lt, nN_eq, jn_def, mI_lit, bI_0, bI_1, n01, n10, if_true, if_false, ite_not, nP_P, hr]
        rw [if_pos (by omega)]
    have out : ∀ F, v 1 < F → pl_X6_trades_4 (fun z => some z) z (ofc B r b t tb g h ar u ta) F (nN 0) (nN 0) = some (nN (fb_sm (fun c => cnt (fun d => c + 1 ≤ d ∧ trdB v pl c d = true) (v 1)) (v 1))) := fun F hF => by
      refine loop_sum (L := fun fu k x => pl_X6_trades_4 (fun z => some z) z (ofc B r b t tb g h ar u ta) fu (nN x) (nN k)) (f := fun c => cnt (fun d => c + 1 ≤ d ∧ trdB v pl c d = true) (v 1)) (fin := fun x => some (nN x)) (n := v 1) (fun fu k x hk => ?_) (fun fu x => ?_) F hF
      · rw [pl_X6_trades_4]
        simp (disch := first | omega | (apply hb; omega)) only [fv_isC, fv_0, fv_1, fv_2, fv_3, fv_4, fv_5, fv_6, fv_7, fv_8, fv_9, fv_10, fv_11, fv_12, fv_13, fv_14, fv_15, fv_16, fv_17, fv_18, fv_19, fd_0 hG, fd_1 hG, fd_2 hG, fd_3 hG, fd_4 hG, fd_5 hG, fd_6 hG, fd_7 hG, fd_8 hG, ft_C hG, ft_0 hG, ft_1 hG, ft_2 hG, ft_3 hG, ft_4 hG, ft_5 hG, ft_6 hG, ft_7 hG, ft_8 hG, ft_9 hG, ft_10 hG, ft_11 hG, ft_12 hG, fp_0 hG, fp_1 hG, fp_2 hG, fp_3 hG, fp_4 hG, fp_5 hG, fp_6 hG, fp_7 hG, fp_8 hG, fp_9 hG, hR.g1, hR.g2, hR.g3, hR.g4, hR.g5, hR.g6, hR.h7, hR.h8, hR.h9, hR.h10, hR.a0, hR.a1, hR.a2, hR.a3, hR.a4, hR.a5, hR.a6, hR.a7, hR.a8, hT.u0, hT.u1, hT.u2, hT.a0, hT.a1, hT.a2, hT.a3, hT.a4, bS, rd_nN, nN_lit, nN_add, nN_mul, nN_le, nN_lt, nN_eq, jn_def, mI_lit, bI_0, bI_1, n01, n10, if_true, if_false, ite_not, nP_P, hr]
        rw [if_neg (by omega)]
        exact inn _ k hk x
      · rw [pl_X6_trades_4]
        simp (disch := first | omega | (apply hb; omega)) only [fv_isC, fv_0, fv_1, fv_2, fv_3, fv_4, fv_5, fv_6, fv_7, fv_8, fv_9, fv_10, fv_11, fv_12, fv_13, fv_14, fv_15, fv_16, fv_17, fv_18, fv_19, fd_0 hG, fd_1 hG, fd_2 hG, fd_3 hG, fd_4 hG, fd_5 hG, fd_6 hG, fd_7 hG, fd_8 hG, ft_C hG, ft_0 hG, ft_1 hG, ft_2 hG, ft_3 hG, ft_4 hG, ft_5 hG, ft_6 hG, ft_7 hG, ft_8 hG, ft_9 hG, ft_10 hG, ft_11 hG, ft_12 hG, fp_0 hG, fp_1 hG, fp_2 hG, fp_3 hG, fp_4 hG, fp_5 hG, fp_6 hG, fp_7 hG, fp_8 hG, fp_9 hG, hR.g1, hR.g2, hR.g3, hR.g4, hR.g5, hR.g6, hR.h7, hR.h8, hR.h9, hR.h10, hR.a0, hR.a1, hR.a2, hR.a3, hR.a4, hR.a5, hR.a6, hR.a7, hR.a8, hT.u0, hT.u1, hT.u2, hT.a0, hT.a1, hT.a2, hT.a3, hT.a4, bS, rd_nN, nN_lit, nN_add, nN_mul, nN_le, nN_lt, nN_eq, jn_def, mI_lit, bI_0, bI_1, n01, n10, if_true, if_false, ite_not, nP_P, hr]
        rw [if_pos (by omega)]
    exact out FU (FU_pos (by omega))
  · congr 1
    have := cnt_swap (fun c d => c + 1 ≤ d ∧ trdB v pl c d = true) (v 1) (v 1)
    refine Eq.trans this (fb_sm_cong (fun k hk => ?_))
    have e := cnt_ext (P := fun d => 0 ≤ d ∧ trdB v pl k d = true) (n := k) (v 1 - k)
    rw [show k + (v 1 - k) = v 1 by omega] at e
    rw [← e]
    exact cnt_c (fun j _ => by
      rw [trd_sym (a := j) (b := k)]
      constructor
      · rintro ⟨p1, p2⟩; exact ⟨by omega, Nat.zero_le _, p2⟩
      · rintro ⟨p1, _, p2⟩; exact ⟨by omega, p2⟩)
  · show p_X7_trades m _ = _
    unfold p_X7_trades
    have hw : up2 a' 1 (enc v pl) 1 = enc v pl := up2_s
    rw [op_9, bS]
    have inn : ∀ (k1 : Int32 → Option (Int32 × Mem)) c, c < v 1 → ∀ x, pl_X7_trades_21 k1 m (nN c) (ovl B' m (upd g' 9 (nN 0)) (up2 a' 1 (enc v pl))) FU (nN x) (nN 0) = k1 (nN (x + cnt (fun d => 0 ≤ d ∧ trdB v pl c d = true) c)) := fun k1 c hc x => by
      have hFU : c < FU := FU_pos (by omega)
      generalize FU = F at hFU ⊢
      refine loop_acc (L := fun fu k x => pl_X7_trades_21 k1 m (nN c) (ovl B' m (upd g' 9 (nN 0)) (up2 a' 1 (enc v pl))) fu (nN x) (nN k)) (P := fun d => trdB v pl c d = true) (fin := fun x => k1 (nN x)) (n := c) (fun fu k x hk => ?_) (fun fu x => ?_) c F x (by omega) hFU
      · rw [pl_X7_trades_21]
        have e1 := e_trade (B := B') (m := m) (g := upd g' 9 (nN 0)) (a := up2 a' 1 (enc v pl)) hw hI hc (d := k) (by omega)
        simp (disch := first | omega | (apply hb; omega)) only [oc, or_0, or_1, or_2, or_3, or_4, oi_5, oi_6, or_7, or_8, oi_9, or_10, or_11, oi_12, oi_13, oi_14, oi_15, oi_16, oi_17, oi_18, oi_19, oi_20, oi_21, or_22, or_23, or_24, oi_25, or_26, oi_27, od_1, od_2, od_3, od_4, od_5, od_6, od_7, od_8, od_9, od_10, od_11, od_12, od_13, bS, rd_nN, nN_lit, nN_add, nN_mul, hw, enc_v, enc_p, nN_le, nN_lt, nN_eq, jn_def, mI_lit, bI_0, bI_1, e_inRange, n01, n10, if_true, if_false, ite_not, nP_P, e1]
        rw [if_neg (by omega)]
        rfl
      · rw [pl_X7_trades_21]
        simp (disch := first | omega | (apply hb; omega)) only [oc, or_0, or_1, or_2, or_3, or_4, oi_5, oi_6, or_7, or_8, oi_9, or_10, or_11, oi_12, oi_13, oi_14, oi_15, oi_16, oi_17, oi_18, oi_19, oi_20, oi_21, or_22, or_23, or_24, oi_25, or_26, oi_27, od_1, od_2, od_3, od_4, od_5, od_6, od_7, od_8, od_9, od_10, od_11, od_12, od_13, bS, rd_nN, nN_lit, nN_add, nN_mul, hw, enc_v, enc_p, nN_le, nN_lt, nN_eq, jn_def, mI_lit, bI_0, bI_1, e_inRange, n01, n10, if_true, if_false, ite_not, nP_P]
        rw [if_pos (by omega)]
    have out : ∀ F, v 1 < F → pl_X7_trades_9 (fun z => some (z, (ovl B' m (upd g' 9 (nN 0)) (up2 a' 1 (enc v pl))))) m (ovl B' m (upd g' 9 (nN 0)) (up2 a' 1 (enc v pl))) F (nN 0) (nN 0) = some (nN (fb_sm (fun c => cnt (fun d => 0 ≤ d ∧ trdB v pl c d = true) c) (v 1)), (ovl B' m (upd g' 9 (nN 0)) (up2 a' 1 (enc v pl)))) := fun F hF => by
      refine loop_sum (L := fun fu k x => pl_X7_trades_9 (fun z => some (z, (ovl B' m (upd g' 9 (nN 0)) (up2 a' 1 (enc v pl))))) m (ovl B' m (upd g' 9 (nN 0)) (up2 a' 1 (enc v pl))) fu (nN x) (nN k)) (f := fun c => cnt (fun d => 0 ≤ d ∧ trdB v pl c d = true) c) (fin := fun x => some (nN x, (ovl B' m (upd g' 9 (nN 0)) (up2 a' 1 (enc v pl))))) (n := v 1) (fun fu k x hk => ?_) (fun fu x => ?_) F hF
      · rw [pl_X7_trades_9]
        simp (disch := first | omega | (apply hb; omega)) only [oc, or_0, or_1, or_2, or_3, or_4, oi_5, oi_6, or_7, or_8, oi_9, or_10, or_11, oi_12, oi_13, oi_14, oi_15, oi_16, oi_17, oi_18, oi_19, oi_20, oi_21, or_22, or_23, or_24, oi_25, or_26, oi_27, od_1, od_2, od_3, od_4, od_5, od_6, od_7, od_8, od_9, od_10, od_11, od_12, od_13, bS, rd_nN, nN_lit, nN_add, nN_mul, hw, enc_v, enc_p, nN_le, nN_lt, nN_eq, jn_def, mI_lit, bI_0, bI_1, e_inRange, n01, n10, if_true, if_false, ite_not, nP_P]
        rw [if_neg (by omega)]
        exact inn _ k hk x
      · rw [pl_X7_trades_9]
        simp (disch := first | omega | (apply hb; omega)) only [oc, or_0, or_1, or_2, or_3, or_4, oi_5, oi_6, or_7, or_8, oi_9, or_10, or_11, oi_12, oi_13, oi_14, oi_15, oi_16, oi_17, oi_18, oi_19, oi_20, oi_21, or_22, or_23, or_24, oi_25, or_26, oi_27, od_1, od_2, od_3, od_4, od_5, od_6, od_7, od_8, od_9, od_10, od_11, od_12, od_13, bS, rd_nN, nN_lit, nN_add, nN_mul, hw, enc_v, enc_p, nN_le, nN_lt, nN_eq, jn_def, mI_lit, bI_0, bI_1, e_inRange, n01, n10, if_true, if_false, ite_not, nP_P]
        rw [if_pos (by omega)]
    exact out FU (FU_pos (by omega))
end QT
