/-! gainersWithout -/
section GAA
variable {z : Nat} {M : Mem} {v : Nat → Nat} {pl : Nat → Option Nat} {nm : Nat → Nat} {H : Nat → rowT} {n sv : Nat} {S : rowT} {inp : Nat → Nat} {len ec : Nat} {eo : Int32} {out : Nat → Nat} {ol : Nat}
def CGV {α : Type} (z : Nat) (M : Mem) (v : Nat → Nat) (pl : Nat → Option Nat) (nm : Nat → Nat) (H : Nat → rowT) (n sv : Nat) (S : rowT) (inp : Nat → Nat) (len ec : Nat) (eo : Int32) (out : Nat → Nat) (ol : Nat) (val : α) (M1 : Mem) (ref : Mem → Option (α × Mem)) : Prop :=
  CL0 z (rst M1 z) v pl nm H n sv S inp len ec eo out ol ∧ (∀ x, ¬ (z ≤ x ∧ x < z + 180) → M1 x = M x) ∧ ∀ B g a, RFO g a nm H n sv S inp len ec eo out ol → ∃ g' a', ref (ovl B (z + 180) g (up2 a 1 (enc v pl))) = some (val, ovl B (z + 180) g' (up2 a' 1 (enc v pl))) ∧ RFO g' a' nm H n sv S inp len ec eo out ol ∧ g' 9 = nN 0
theorem off_v (hO : OFF z M) : ∃ v pl nm H n sv S inp len ec eo out ol, PUR v pl nm H n sv S inp len out ol ∧ CL0 z (rst M z) v pl nm H n sv S inp len ec eo out ol ∧ isC 5 M z = some () ∧ isC 6 M (z + 180) = some () ∧
    (∀ (α : Type) (val : α) M1 ref, CGV z M v pl nm H n sv S inp len ec eo out ol val M1 ref → (∃ f, M1 (z + 194) = some (.inl (2, 1, .inr (.inl f)))) ∧ ∀ f, isC 6 (upM M1 (z + 194) (.inl (2, 1, .inr (.inl f)))) (z + 180) = some () ∧ ∃ M2, ref (upM M1 (z + 194) (.inl (2, 1, .inr (.inl f)))) = some (val, M2) ∧ OFF z M2 ∧ isC 6 M2 (z + 180) = some () ∧ p_X7_thrown (z + 180) M2 = some 0 ∧ M2 (z + 194) = some (.inl (2, 1, .inr (.inl f)))) ∧
    (∀ (α : Type) (k : Nat) (y : α) (ref : Mem → Option (α × Mem)), (∀ B g a, RFO g a nm H n sv S inp len ec eo out ol → ref (ovl B (z + 180) g (up2 a 1 (enc v pl))) = some (y, ovl B (z + 180) (upd g 9 (nN k)) (up2 a 1 (enc v pl)))) → ∃ M2, ref M = some (y, M2) ∧ OFF z M2 ∧ isC 6 M2 (z + 180) = some () ∧ p_X7_thrown (z + 180) M2 = some (nN k)) := by
  obtain ⟨v, pl, nm, H, n, sv, S, inp, len, ec, eo, out, ol, hP, hC, ⟨B, g, a, hM, hR⟩, ⟨f0, hod⟩, f1, hod2⟩ := hO
  refine ⟨v, pl, nm, H, n, sv, S, inp, len, ec, eo, out, ol, hP, hC, (cl_now hC).1, by rw [hM]; exact oc _ _ _ _, ?_, ?_⟩
  · rintro α val M1 ref ⟨p2, p3, p4⟩
    have e1 : M1 = ovl M1 (z + 180) g (up2 a 1 (enc v pl)) := ovl_re (B := B) (fun x x1 x2 => by rw [← hM]; exact p3 x (by omega))
    have e2 : ∀ e, upM M1 (z + 194) e = ovl (upM M1 (z + 194) e) (z + 180) g (up2 a 1 (enc v pl)) := fun e => by
      conv => lhs; rw [e1]
      exact ovl_up (by omega) e
    refine ⟨⟨f0, (p3 _ (by omega)).trans hod⟩, fun f => ⟨by rw [e2]; exact oc _ _ _ _, ?_⟩⟩
    obtain ⟨g', a', q1, q2, q3⟩ := p4 (upM M1 (z + 194) (.inl (2, 1, .inr (.inl f)))) g a hR
    refine ⟨_, by rw [e2]; exact q1, ?_, oc _ _ _ _, ?_, ?_⟩
    · refine ⟨v, pl, nm, H, n, sv, S, inp, len, ec, eo, out, ol, hP, ?_, ⟨_, g', a', rfl, q2⟩, ⟨f, ?_⟩, f1, ?_⟩
      · rw [rst_eq (M := M1)]
        · exact p2
        · intro x x1 x2
          rw [ovl_o _ _ _ _ (by omega)]
          exact if_neg (by omega)
      · rw [ovl_o _ _ _ _ (by omega)]; exact if_pos rfl
      · rw [ovl_o _ _ _ _ (by omega)]
        exact (if_neg (by omega)).trans ((p3 _ (by omega)).trans hod2)
    · unfold p_X7_thrown; rw [oi_9, bS, q3]; rfl
    · rw [ovl_o _ _ _ _ (by omega)]; exact if_pos rfl
  · intro α k y ref hx
    have q1 := hx B g a hR
    refine ⟨_, by rw [hM]; exact q1, ?_, oc _ _ _ _, thr_9⟩
    refine ⟨v, pl, nm, H, n, sv, S, inp, len, ec, eo, out, ol, hP, ?_, ⟨_, _, a, rfl, hR.g9⟩, ⟨f0, ?_⟩, f1, ?_⟩
    · rw [rst_eq (M := M)]
      · exact hC
      · intro x x1 x2
        rw [ovl_o _ _ _ _ (by omega), hM, ovl_o _ _ _ _ (by omega)]
    · rw [ovl_o _ _ _ _ (by omega)]
      rw [hM, ovl_o _ _ _ _ (by omega)] at hod
      exact hod
    · rw [ovl_o _ _ _ _ (by omega)]
      rw [hM, ovl_o _ _ _ _ (by omega)] at hod2
      exact hod2
/-- deferred acceptance, whatever places the row shows before -/
theorem e_alloc2 {B : Mem} {m : Nat} {g : Nat → Int32} {a : Nat → Nat → Int32} {p0 : Nat → Option Nat} (hI : Inv v p0) (hp40 : ∀ c s, pl c = some s → c < 40) : ∃ T', p_X7_allocates m (ovl B m g (up2 a 1 (enc v pl))) = some (nN (daR v 9), (ovl B m g (up2 (up2 a 8 T') 1 (enc (daR v) (daP v))))) ∧ ∀ c, c < v 1 → T' c = nN (daX v c) := by
  have h1 := hI.h1
  have IT := tbS_Inv hI
  have y1 : tbS v 1 = v 1 := tbS_Q v 1 (by omega)
  have np : noP 40 pl = fun _ => none := funext fun c => by
    unfold noP
    by_cases h : c < 40
    · rw [if_pos h]
    · rw [if_neg h]
      cases hp : pl c with
      | none => rfl
      | some s => have := hp40 c s hp; omega
  obtain ⟨T', q, X⟩ := al_89 (B := B) (m := m) (g := g) (a := a) (fun M52 => Option.bind (gR 6 0 M52 m) fun v53 => Option.bind (aI 0 M52 v53 (9 : Int32)) fun v54 => some (v54, M52)) 160 1 FU (tbS v, fun _ => none) (fun _ => 0) (zT 40 (a 8)) IT (by show tbS v 9 + 1 = 1; rw [tbS_0 (by omega)]) (mu_le IT _) (by omega) (fun _ => Nat.zero_le _) (fun s hs => by
    have : hldN (tbS v) (fun _ => none) s = 0 := cnt_zero.mpr (fun k hk z => by cases z)
    show hldN (tbS v) (fun _ => none) s ≤ _
    omega) (fun c hc => if_pos (by have : c < tbS v 1 := hc; omega)) (FU_pos (by omega))
  refine ⟨T', ?_, fun c hc => X c (by show c < tbS v 1; omega)⟩
  unfold p_X7_allocates
  rw [or_0, bS]
  simp only [nN_lit]
  rw [ew_v (by omega) (by omega), bS, or_0, bS, ew_v (by omega) (by omega), bS, or_0, bS, ew_v (by omega) (by omega), bS]
  have q26 := al_26 (B := B) (m := m) (g := g) (a := a) (v := updN (updN (updN v 8 1) 9 0) 10 0) (pl := pl) (fun M10 => pl_X7_allocates_50 (fun M18 => pl_X7_allocates_89 (fun M52 => Option.bind (gR 6 0 M52 m) fun v53 => Option.bind (aI 0 M52 v53 (nN 9)) fun v54 => some (v54, M52)) m FU (nN 1) M18) m FU (nN 0) M10) 8 0 FU (by omega) (FU_pos (by omega))
  rw [zr_0] at q26
  refine q26.trans ?_
  have q50 := al_50 (B := B) (m := m) (g := g) (a := a) (v := zr 60 8 (updN (updN (updN v 8 1) 9 0) 10 0)) (pl := pl) (T := a 8) (fun M18 => pl_X7_allocates_89 (fun M52 => Option.bind (gR 6 0 M52 m) fun v53 => Option.bind (aI 0 M52 v53 (nN 9)) fun v54 => some (v54, M52)) m FU (nN 1) M18) 40 0 FU (by omega) (FU_pos (by omega))
  rw [z2_0, noP_0, zT_0, up2_id, tb_eq, np] at q50
  refine Eq.trans q50 ?_
  refine Eq.trans q ?_
  show Option.bind (gR 6 0 _ m) _ = _
  rw [or_0, bS]
  show Option.bind (aI 0 _ (m + 1) (nN 9)) _ = _
  rw [er_v (by omega) (by omega), bS]
  rfl
theorem daR_same {v v' : Nat → Nat} (h : sameQ v v') : daR v' = daR v := by unfold daR; rw [tbS_same h]
def betW (p q : Option Nat) : Bool := match p, q with
  | none, _ => false
  | some _, none => true
  | some i, some j => decide (i < j)
theorem e_bet {p q : Option Nat} (hp : ∀ i, p = some i → i < 4) (hq : ∀ i, q = some i → i < 4) {N : Mem} : p_X7_isBetter (oN p) (oN q) N = some (bI (betW p q = true)) := by
  unfold p_X7_isBetter
  cases p with
  | none =>
    rw [if_pos (show oN none = (-1 : Int32) from rfl), ← bI_f (show ¬ betW none q = true from fun h => by cases h)]
    rfl
  | some i =>
    have hi := hp i rfl
    rw [if_neg (show ¬ oN (some i) = (-1 : Int32) from nNm (by omega))]
    cases q with
    | none =>
      rw [if_pos (show oN none = (-1 : Int32) from rfl), ← bI_t (show betW (some i) none = true from rfl)]
      rfl
    | some j =>
      have hj := hq j rfl
      rw [if_neg (show ¬ oN (some j) = (-1 : Int32) from nNm (by omega))]
      by_cases e : j ≤ i
      · rw [if_pos (show oN (some j) ≤ oN (some i) from nle_t (by omega) (by omega) e), ← bI_f (show ¬ betW (some i) (some j) = true from fun h => by have : i < j := of_decide_eq_true h; omega)]
        rfl
      · rw [if_neg (show ¬ oN (some j) ≤ oN (some i) from nle_f (by omega) (by omega) (by omega)), ← bI_t (show betW (some i) (some j) = true from decide_eq_true (by omega))]
        rfl
theorem e_g21 {B : Mem} {m : Nat} {g : Nat → Int32} {A : Nat → Nat → Int32} {w : Nat → Nat} {p : Nat → Option Nat} (hI : Inv w p) (k1 : Mem → Option (Int64 × Mem)) (f1 f2 : Int32) : ∀ d k fu (G : Nat → Int32), k + d = w 1 → d < fu → (∀ i, i < k → G i = oN (gotO w p i)) → ∃ G', pl_X7_gainersWithout_21 k1 m f1 f2 fu (nN k) (ovl B m g (up2 (up2 A 11 G) 1 (enc w p))) = k1 (ovl B m g (up2 (up2 A 11 G') 1 (enc w p))) ∧ ∀ i, i < w 1 → G' i = oN (gotO w p i) := by
  have h1 := hI.h1
  intro d
  induction d with
  | zero =>
    intro k fu G hk hf hG
    obtain ⟨f, rfl⟩ : ∃ f, fu = f + 1 := ⟨fu - 1, by omega⟩
    refine ⟨G, ?_, fun i hi => hG i (by omega)⟩
    rw [pl_X7_gainersWithout_21, or_0, bS, show (1 : Int32) = nN 1 from rfl, er_v (by omega) (by omega), bS, if_pos (nle_t (by omega) (by omega) (by omega))]
  | succ d ih =>
    intro k fu G hk hf hG
    obtain ⟨f, rfl⟩ : ∃ f, fu = f + 1 := ⟨fu - 1, by omega⟩
    have ew : ∀ y, aIs (ovl B m g (up2 (up2 A 11 G) 1 (enc w p))) (m + 11) (nN k) y = some (ovl B m g (up2 (up2 A 11 (upd G k y)) 1 (enc w p))) := fun y => by
      rw [ow_11, up2_n (by decide), up2_s, wr_nN (by omega) (by omega), Option.map_some, up2_sw (i := 1) (j := 11) (by decide), up2_up2]
    have ek : nN k + nN 1 = nN (k + 1) := nN_add k 1
    obtain ⟨G', q1, q2⟩ := ih (k + 1) f (upd G k (oN (gotO w p k))) (by omega) (by omega) (fun i hi => by
      unfold upd
      by_cases e : i = k
      · rw [if_pos e, e]
      · rw [if_neg e]; exact hG i (by omega))
    refine ⟨G', ?_, q2⟩
    rw [pl_X7_gainersWithout_21, or_0, bS, show (1 : Int32) = nN 1 from rfl, er_v (by omega) (by omega), bS, if_neg (nle_f (by omega) (by omega) (by omega)), or_23, bS, oc, bS, e_gotOf up2_s hI (by omega), bS, ew, bS, ek, q1]
end GAA
section GAB
variable {z : Nat} {M : Mem} {v : Nat → Nat} {pl : Nat → Option Nat} {nm : Nat → Nat} {H : Nat → rowT} {n sv : Nat} {S : rowT} {inp : Nat → Nat} {len ec : Nat} {eo : Int32} {out : Nat → Nat} {ol : Nat}
theorem or0l (q : Int64) : q ||| (0 : Int64) = q := lb_ext (fun i hi => by rw [lb_or]; show (lb q i || lb (lN 0) i) = _; rw [lb_lN hi]; simp)
def outV (v : Nat → Nat) (c : Nat) : Nat → Nat := updN (updN v (444 + c) 0) (404 + c) 1
def gaB (v : Nat → Nat) (c k : Nat) : Bool := betW (gotO (outV v c) (daP (outV v c)) k) (gotO v (daP v) k)
theorem outV_Inv (hI : Inv v pl) {c : Nat} (hc : c < v 1) : Inv (outV v c) (updO pl c none) := by
  have h1 := hI.h1
  exact ((hI.w (i := 444 + c) (x := 0) (by unfold okW; omega)).pn (c := c)).gone (by omega) (by omega) updO_s
theorem c_gains (hP : PUR v pl nm H n sv S inp len out ol) (hC : CL0 z (rst M z) v pl nm H n sv S inp len ec eo out ol) {c : Nat} (hc : c < v 1) : ∃ M1, p_X6_gainersWithout z (nN c) M = some (.inl (mkL (fun k => gaB v c k = true) (v 1), M1)) ∧ CL0 z (rst M1 z) v pl nm H n sv S inp len ec eo out ol ∧ ∀ x, ¬ (z ≤ x ∧ x < z + 180) → M1 x = M x := by
  have hI : Inv v pl := hP.1.1
  have hb := hI.hb; have h0 := hI.h0; have h1 := hI.h1; have h2 := hI.h2; have h7 := hI.h7; have h8 := hI.h8
  have hX := (cl_now hC).1
  obtain ⟨nc, -, -, -⟩ := in_cc hI hC
  obtain ⟨d1, d2, d3, -, -, -⟩ := da_all hI
  have dv1 : daR v 1 = v 1 := d2 1 (by omega)
  have hI2 := outV_Inv hI hc
  obtain ⟨D1, D2, D3, -, -, -⟩ := da_all hI2
  have o1 : outV v c 1 = v 1 := by unfold outV; rw [updN_n (by omega), updN_n (by omega)]
  have Dv1 : daR (outV v c) 1 = v 1 := (D2 1 (by omega)).trans o1
  obtain ⟨rn, bn, tn, tbn, g, h, ar, u, ta, M2, g0, h0', ar0, e3, r3, r4, i2, hG, hR, hT, hQ, R0, ⟨T, hTq⟩, hA⟩ := cl_tri hI hC
  rw [hTq] at e3
  obtain ⟨g1, h1', ar1, T1, q1, R1, -⟩ := c_run M2 hG hR hT hI hQ (T := T)
  obtain ⟨b3, b4, b1, b5, bR, bC, bO⟩ := hA g1 h1' ar1 T1
  have hA0 := hA g h ar T
  have w15 : gR 2 15 (ofc (ovq M2 (z + 24) T1) (z + 49) (z + 50) tn tbn g1 h1' ar1 u ta) (z + 49) = some (z + 50 + 4) := fv_15
  have w16 : gR 2 16 (ofc (ovq M2 (z + 24) T1) (z + 49) (z + 50) tn tbn g1 h1' ar1 u ta) (z + 49) = some (z + 50 + 5) := fv_16
  have wi2 : isC 2 (ofc (ovq M2 (z + 24) T1) (z + 49) (z + 50) tn tbn g1 h1' ar1 u ta) (z + 49) = some () := fv_isC
  have wr4 : ∀ k, k < v 1 → aI 0 (ofc (ovq M2 (z + 24) T1) (z + 49) (z + 50) tn tbn g1 h1' ar1 u ta) (z + 50 + 4) (nN k) = some (ar1 4 k) := fun k hk => by rw [fd_4 hG, rd_nN (by omega) (by omega)]
  have wr5 : ∀ k, k < v 1 → aI 0 (ofc (ovq M2 (z + 24) T1) (z + 49) (z + 50) tn tbn g1 h1' ar1 u ta) (z + 50 + 5) (nN k) = some (ar1 5 k) := fun k hk => by rw [fd_5 hG, rd_nN (by omega) (by omega)]
  obtain ⟨rn2, bn2, tn2, tbn2, g2, h2', ar2, u2, ta2, M3, g02, h02, ar02, E3, s3, s5, j2, hG2, hR2, hT2, hQ2, R02, ⟨T2, hTq2⟩, hA2⟩ := cl_tri2 hI bC
  rw [hTq2] at E3
  obtain ⟨g3, h3', ar3, f3, R3⟩ := c_takeOut (B := ovq M3 (z + 24) T2) (u := u2) (ta := ta2) hG2 hR2 h0 h1 hc
  have R3 : RG g3 h3' ar3 (outV v c) (updO pl c none) := R3
  have hT1 : sameT v (outV v c) := (sameT.w (by omega)).t (sameT.w (by omega))
  have T3 : TG u2 ta2 (outV v c) (cdS nm) := hT2.same hT1 h0 (fun s hs => (hI.sch s hs).2.2.2.1)
  obtain ⟨g4, h4', ar4, T4, q4, R4, -⟩ := c_run M3 hG2 R3 T3 hI2 hQ2 (T := T2)
  have T4g : TG u2 ta2 (daR (outV v c)) (cdS nm) := T3.same D2.T hI2.h0 (fun s hs => (hI2.sch s hs).2.2.2.1)
  have hB0 := hA2 g2 h2' ar2 T2
  have hB3 := hA2 g3 h3' ar3 T2
  obtain ⟨y3, y5, y1, yi, yR, yC, yk⟩ := hA2 g4 h4' ar4 T4
  have hout : ∀ x, ¬ (z ≤ x ∧ x < z + 180) → ofc (ovq M3 (z + 24) T4) (z + 59) (z + 60) tn2 tbn2 g4 h4' ar4 u2 ta2 x = M x := fun x hx => (yk x (by omega) (by omega)).trans (bO x hx)
  have y4 := (q_gR (ci := 5) (k := 4) (yk z (by omega) (by omega))).trans b4
  have a1 := (q_gR (ci := 2) (k := 15) (yk (z + 49) (by omega) (by omega))).trans w15
  have a2 := (q_gR (ci := 2) (k := 16) (yk (z + 49) (by omega) (by omega))).trans w16
  have a3 := (q_isC (ci := 2) (yk (z + 49) (by omega) (by omega))).trans wi2
  have a4 : ∀ k, k < v 1 → aI 0 (ofc (ovq M3 (z + 24) T4) (z + 59) (z + 60) tn2 tbn2 g4 h4' ar4 u2 ta2) (z + 50 + 4) (nN k) = some (ar1 4 k) := fun k hk => (q_aI (yk (z + 50 + 4) (by omega) (by omega))).trans (wr4 k hk)
  have a5 : ∀ k, k < v 1 → aI 0 (ofc (ovq M3 (z + 24) T4) (z + 59) (z + 60) tn2 tbn2 g4 h4' ar4 u2 ta2) (z + 50 + 5) (nN k) = some (ar1 5 k) := fun k hk => (q_aI (yk (z + 50 + 5) (by omega) (by omega))).trans (wr5 k hk)
  have x1 : ∀ k, k < v 1 → p_X2_gotWish (z + 49) (nN k) (ofc (ovq M3 (z + 24) T4) (z + 59) (z + 60) tn2 tbn2 g4 h4' ar4 u2 ta2) = some (oN (gotO v (daP v) k)) := fun k hk => by
    unfold p_X2_gotWish
    have r4 : ar1 4 k = nN (rwN (fun i => daR v (564 + 4 * k + i)) (daR v (324 + k))) := R1.a4 (c := k) (by show k < daR v 1; omega)
    have r5 : ar1 5 k = oN (daP v k) := R1.a5 (c := k) (by show k < daR v 1; omega)
    rw [a1, bS, a4 k hk, bS, a2, bS, a5 k hk, bS, r4, r5, c_gix d1 (by omega), bS, q_got d2 hI (by omega)]
  have x2 : ∀ k, k < v 1 → p_X2_gotWish (z + 59) (nN k) (ofc (ovq M3 (z + 24) T4) (z + 59) (z + 60) tn2 tbn2 g4 h4' ar4 u2 ta2) = some (oN (gotO (outV v c) (daP (outV v c)) k)) := fun k hk => by
    have e := c_gotWish (ovq M3 (z + 24) T4) hG2 R4 T4g D1 (c := k) (by show k < daR (outV v c) 1; omega)
    refine e.trans ?_
    show some (oN (gotO (daR (outV v c)) (daP (outV v c)) k)) = _
    rw [q_got D2 hI2 (by omega)]
  have xi : isC 2 (ofc (ovq M3 (z + 24) T4) (z + 59) (z + 60) tn2 tbn2 g4 h4' ar4 u2 ta2) (z + 59) = some () := fv_isC
  have xn : gI 2 1 (ofc (ovq M3 (z + 24) T4) (z + 59) (z + 60) tn2 tbn2 g4 h4' ar4 u2 ta2) rn2 = some (nN (v 1)) := by unfold gI gV; rw [yR.1, ← R02.g1]; rfl
  refine ⟨ofc (ovq M3 (z + 24) T4) (z + 59) (z + 60) tn2 tbn2 g4 h4' ar4 u2 ta2, ?_, yC, hout⟩
  unfold p_X6_gainersWithout
  rw [hX, bS, nc c hc, obx_l, r4, bS, r3, bS, i2, bS, e3, bS, hA0.2.2.1, bS, hA0.2.1, bS, q_C hQ, bS, q1, bS, s5, bS, s3, bS, j2, bS, E3, bS, hB0.2.1, bS, fv_isC, bS, f3, bS, hB3.2.2.1, bS, hB3.2.1, bS, q_C hQ2, bS, q4, bS]
  generalize ofc (ovq M3 (z + 24) T4) (z + 59) (z + 60) tn2 tbn2 g4 h4' ar4 u2 ta2 = N at y3 y4 y5 a3 x1 x2 xi xn ⊢
  have hFU : v 1 < FU := FU_pos (by omega)
  generalize FU = F at hFU ⊢
  refine loop_mk (L := fun fu x k => pl_X6_gainersWithout_62 (fun z36 => some (.inl (z36, N))) z N fu x (nN k)) (P := fun k => gaB v c k = true) (fin := fun x => some (.inl (x, N))) (n := v 1) (by omega) (fun fu x k hk => ?_) (fun fu x => ?_) F hFU
  · have ek : nN k + (1 : Int32) = nN (k + 1) := nN_add k 1
    have g2 : ∀ i, gotO (outV v c) (daP (outV v c)) k = some i → i < 4 := fun i hi => by
      rw [← q_got D2 hI2 (by omega)] at hi
      exact got_b D1 (by omega) hi
    have g1 : ∀ i, gotO v (daP v) k = some i → i < 4 := fun i hi => by
      rw [← q_got d2 hI (by omega)] at hi
      exact got_b d1 (by omega) hi
    rw [pl_X6_gainersWithout_62, y3, bS, xn, bS, if_neg (nle_f (by omega) (by omega) (by omega)), y5, bS, xi, bS, x2 k hk, bS, y4, bS, a3, bS, x1 k hk, bS, ek]
    cases hp : gotO (outV v c) (daP (outV v c)) k with
    | none =>
      rw [if_pos (show oN none = (-1 : Int32) from rfl), if_neg (show ¬ gaB v c k = true from fun h => by unfold gaB at h; rw [hp] at h; cases h)]
    | some i =>
      have hi := g2 i hp
      rw [if_neg (show ¬ oN (some i) = (-1 : Int32) from nNm (by omega)), jn_def]
      cases hq : gotO v (daP v) k with
      | none =>
        rw [if_pos (show oN none = (-1 : Int32) from rfl), if_pos (show gaB v c k = true from by unfold gaB; rw [hp, hq]; rfl)]
      | some j =>
        have hj := g1 j hq
        rw [if_neg (show ¬ oN (some j) = (-1 : Int32) from nNm (by omega))]
        by_cases e : j ≤ i
        · rw [if_pos (show oN (some j) ≤ oN (some i) from nle_t (by omega) (by omega) e), if_neg (show ¬ gaB v c k = true from fun h => by unfold gaB at h; rw [hp, hq] at h; have : i < j := of_decide_eq_true h; omega)]
        · rw [if_neg (show ¬ oN (some j) ≤ oN (some i) from nle_f (by omega) (by omega) (by omega)), if_pos (show gaB v c k = true from by unfold gaB; rw [hp, hq]; exact decide_eq_true (by omega))]
  · rw [pl_X6_gainersWithout_62, y3, bS, xn, bS, if_pos (nle_t (by omega) (by omega) (by omega))]
end GAB
section GAC
variable {z : Nat} {M : Mem} {v : Nat → Nat} {pl : Nat → Option Nat} {nm : Nat → Nat} {H : Nat → rowT} {n sv : Nat} {S : rowT} {inp : Nat → Nat} {len ec : Nat} {eo : Int32} {out : Nat → Nat} {ol : Nat}
theorem e_gains {B : Mem} {m : Nat} {g : Nat → Int32} {a : Nat → Nat → Int32} (hI : Inv v pl) (hZ : ∀ i, 764 ≤ i → v i = 0) {c : Nat} (hc : c < v 1) : ∃ G T, p_X7_gainersWithout m (nN c) (ovl B m g (up2 a 1 (enc v pl))) = some (mkL (fun k => gaB v c k = true) (v 1), ovl B m (upd g 9 (nN 0)) (up2 (up2 (up2 (up2 a 3 (cpF (enc v pl) (a 3) 0 0 764)) 11 G) 8 T) 1 (enc v pl))) := by
  have hb := hI.hb; have h0 := hI.h0; have h1 := hI.h1; have h2 := hI.h2; have h7 := hI.h7; have h8 := hI.h8
  obtain ⟨d1, d2, d3, -, -, -⟩ := da_all hI
  have dv1 : daR v 1 = v 1 := d2 1 (by omega)
  have hI2 := outV_Inv hI hc
  obtain ⟨D1, D2, D3, -, -, -⟩ := da_all hI2
  have o1 : outV v c 1 = v 1 := by unfold outV; rw [updN_n (by omega), updN_n (by omega)]
  have Dv1 : daR (outV v c) 1 = v 1 := (D2 1 (by omega)).trans o1
  have hI3 : Inv (updN (daR v) (404 + c) 1) (updO (daP v) c none) := (d1.pn (c := c)).gone (by omega) (by omega) updO_s
  have hQ3 : sameQ (outV v c) (updN (daR v) (404 + c) 1) := fun i hi => by
    unfold outV
    by_cases e : i = 404 + c
    · subst e; rw [updN_s, updN_s]
    · rw [updN_n e, updN_n e, updN_n (by omega)]; exact d2 i hi
  have eR : daR (updN (daR v) (404 + c) 1) = daR (outV v c) := daR_same hQ3
  have eP : daP (updN (daR v) (404 + c) 1) = daP (outV v c) := daP_same hQ3
  obtain ⟨T9, e9, -⟩ := e_alloc2 (B := B) (m := m) (g := upd g 9 (nN 0)) (a := up2 a 3 (cpF (enc v pl) (a 3) 0 0 764)) hI (fun c s h => by have := (hI.plc c s h).1; omega)
  obtain ⟨G, q1, q2⟩ := e_g21 (B := B) (m := m) (g := upd g 9 (nN 0)) (A := up2 (up2 a 3 (cpF (enc v pl) (a 3) 0 0 764)) 8 T9) d1 (fun M17 => Option.bind (gR 6 0 M17 m) fun v18 => Option.bind (aIs M17 v18 ((404 : Int32) + nN c) (1 : Int32)) fun M19 => Option.bind (isC 6 M19 m) fun _ => ob2 (p_X7_allocates m M19) fun v21 M22 => pl_X7_gainersWithout_71 (fun z35 => Option.bind (isC 6 M22 m) fun _ => Option.bind (p_X7_ends m M22) fun M37 => some (z35, M37)) m (nN c) M22 FU (0 : Int64) (0 : Int32)) (nN c) (nN (daR v 9)) (v 1) 0 FU (up2 (up2 a 3 (cpF (enc v pl) (a 3) 0 0 764)) 8 T9 11) (by omega) (FU_pos (by omega)) (fun i hi => by omega)
  rw [up2_id] at q1
  obtain ⟨T10, e10, -⟩ := e_alloc2 (B := B) (m := m) (g := upd g 9 (nN 0)) (a := up2 (up2 (up2 a 3 (cpF (enc v pl) (a 3) 0 0 764)) 8 T9) 11 G) (pl := daP v) hI3 (fun c s h => by have := (d1.plc c s h).1; omega)
  rw [eR, eP] at e10
  have ee := e_ends (B := B) (m := m) (g := upd g 9 (nN 0)) (a := up2 (up2 (up2 (up2 a 3 (cpF (enc v pl) (a 3) 0 0 764)) 8 T9) 11 G) 8 T10) (v := v) (pl := pl) (v' := daR (outV v c)) (pl' := daP (outV v c)) hZ (fun i hi => by
    rw [D2 i (by omega)]
    unfold outV
    rw [updN_n (by omega), updN_n (by omega)]; exact hZ i hi) (fun i hi => by rw [up2_n (by decide), up2_n (by decide), up2_n (by decide), up2_s]; exact cpF_3 hi)
  refine ⟨G, T10, ?_⟩
  have ea : up2 (up2 (up2 (up2 a 3 (cpF (enc v pl) (a 3) 0 0 764)) 8 T9) 11 G) 8 T10 = up2 (up2 (up2 a 3 (cpF (enc v pl) (a 3) 0 0 764)) 11 G) 8 T10 := by
    rw [up2_sw (i := 8) (j := 11) (by decide), up2_up2]
  unfold p_X7_gainersWithout
  rw [oc, bS, e_nc hI hc, ob2_def, if_pos (by rfl), oc, bS, e_begins, bS, oc, bS, e9, ob2_def]
  refine Eq.trans q1 ?_
  show Option.bind (gR 6 0 _ m) _ = _
  rw [or_0, bS, show (404 : Int32) + nN c = nN (404 + c) from nN_add 404 c, show (1 : Int32) = nN 1 from rfl, ew_v (by omega) (by omega), bS, oc, bS, e10, ob2_def]
  have r1 : aI 0 (ovl B m (upd g 9 (nN 0)) (up2 (up2 (up2 (up2 (up2 a 3 (cpF (enc v pl) (a 3) 0 0 764)) 8 T9) 11 G) 8 T10) 1 (enc (daR (outV v c)) (daP (outV v c))))) (m + 1) (nN 1) = some (nN (v 1)) := by rw [er_v (by omega) (by omega), Dv1]
  have rr0 : gR 6 0 (ovl B m (upd g 9 (nN 0)) (up2 (up2 (up2 (up2 (up2 a 3 (cpF (enc v pl) (a 3) 0 0 764)) 8 T9) 11 G) 8 T10) 1 (enc (daR (outV v c)) (daP (outV v c))))) m = some (m + 1) := or_0 _ _ _ _
  have rr23 : gR 6 23 (ovl B m (upd g 9 (nN 0)) (up2 (up2 (up2 (up2 (up2 a 3 (cpF (enc v pl) (a 3) 0 0 764)) 8 T9) 11 G) 8 T10) 1 (enc (daR (outV v c)) (daP (outV v c))))) m = some (m + 11) := or_23 _ _ _ _
  have roc : isC 6 (ovl B m (upd g 9 (nN 0)) (up2 (up2 (up2 (up2 (up2 a 3 (cpF (enc v pl) (a 3) 0 0 764)) 8 T9) 11 G) 8 T10) 1 (enc (daR (outV v c)) (daP (outV v c))))) m = some () := oc _ _ _ _
  have rg : ∀ k, k < v 1 → p_X7_gotOf m (nN k) (ovl B m (upd g 9 (nN 0)) (up2 (up2 (up2 (up2 (up2 a 3 (cpF (enc v pl) (a 3) 0 0 764)) 8 T9) 11 G) 8 T10) 1 (enc (daR (outV v c)) (daP (outV v c))))) = some (oN (gotO (outV v c) (daP (outV v c)) k)) := fun k hk => by
    rw [e_gotOf up2_s D1 (by omega), q_got D2 hI2 (by omega)]
  have r23 : ∀ k, k < v 1 → aI 0 (ovl B m (upd g 9 (nN 0)) (up2 (up2 (up2 (up2 (up2 a 3 (cpF (enc v pl) (a 3) 0 0 764)) 8 T9) 11 G) 8 T10) 1 (enc (daR (outV v c)) (daP (outV v c))))) (m + 11) (nN k) = some (oN (gotO v (daP v) k)) := fun k hk => by
    rw [od_11, up2_n (by decide), up2_n (by decide), up2_s, rd_nN (by omega) (by omega), q2 k (by omega), q_got d2 hI (by omega)]
  rw [← ea]
  generalize ovl B m (upd g 9 (nN 0)) (up2 (up2 (up2 (up2 (up2 a 3 (cpF (enc v pl) (a 3) 0 0 764)) 8 T9) 11 G) 8 T10) 1 (enc (daR (outV v c)) (daP (outV v c)))) = N at r1 rr0 rr23 roc rg r23 ee ⊢
  generalize ovl B m (upd g 9 (nN 0)) (up2 (up2 (up2 (up2 (up2 a 3 (cpF (enc v pl) (a 3) 0 0 764)) 8 T9) 11 G) 8 T10) 1 (enc v pl)) = N2 at ee ⊢
  have hFU : v 1 < FU := FU_pos (by omega)
  generalize FU = F at hFU ⊢
  refine loop_mk (L := fun fu x k => pl_X7_gainersWithout_71 (fun z35 => Option.bind (isC 6 N m) fun _ => Option.bind (p_X7_ends m N) fun M37 => some (z35, M37)) m (nN c) N fu x (nN k)) (P := fun k => gaB v c k = true) (fin := fun x => some (x, N2)) (n := v 1) (by omega) (fun fu x k hk => ?_) (fun fu x => ?_) F hFU
  · have ek : nN k + (1 : Int32) = nN (k + 1) := nN_add k 1
    have g2 : ∀ i, gotO (outV v c) (daP (outV v c)) k = some i → i < 4 := fun i hi => by
      rw [← q_got D2 hI2 (by omega)] at hi
      exact got_b D1 (by omega) hi
    have g1 : ∀ i, gotO v (daP v) k = some i → i < 4 := fun i hi => by
      rw [← q_got d2 hI (by omega)] at hi
      exact got_b d1 (by omega) hi
    have eb := e_bet g2 g1 (N := N)
    rw [pl_X7_gainersWithout_71, rr0, bS, show (1 : Int32) = nN 1 from rfl, r1, bS, if_neg (nle_f (by omega) (by omega) (by omega)), jn_def]
    by_cases ec : k = c
    · have hn : ¬ gaB v c k = true := fun h => by
        unfold gaB at h
        have : daP (outV v c) k = none := by
          cases hp : daP (outV v c) k with
          | none => rfl
          | some s =>
            have := (da_P hI2 hp).2.1
            rw [ec] at this
            unfold outV at this
            rw [updN_s] at this
            omega
        rw [show gotO (outV v c) (daP (outV v c)) k = none from by unfold gotO; rw [this]] at h
        cases h
      rw [if_pos (show nN k = nN c from by rw [ec]), if_neg hn]
      show pl_X7_gainersWithout_71 _ _ _ _ fu (x ||| (0 : Int64)) (nN k + (1 : Int32)) = _
      rw [or0l, ek]
    · rw [if_neg (show ¬ nN k = nN c from neq_f (by omega) (by omega) ec), roc, bS, rg k hk, bS, rr23, bS, r23 k hk, bS, eb, bS]
      by_cases e : gaB v c k = true
      · rw [if_neg (by rw [← bI_t (show betW (gotO (outV v c) (daP (outV v c)) k) (gotO v (daP v) k) = true from e)]; decide), if_pos e]
        show pl_X7_gainersWithout_71 _ _ _ _ fu _ (nN k + (1 : Int32)) = _
        rw [ek]
      · rw [if_pos (by rw [← bI_f (show ¬ betW (gotO (outV v c) (daP (outV v c)) k) (gotO v (daP v) k) = true from e)]; rfl), if_neg e]
        show pl_X7_gainersWithout_71 _ _ _ _ fu (x ||| (0 : Int64)) (nN k + (1 : Int32)) = _
        rw [or0l, ek]
  · rw [pl_X7_gainersWithout_71, rr0, bS, show (1 : Int32) = nN 1 from rfl, r1, bS, if_pos (nle_t (by omega) (by omega) (by omega)), roc, bS, ee, bS]
end GAC
section KGA
variable {L : Nat} {xs : Nat → Int32} {i0 : Int32} {x : Nat → Int32} {z : Nat} {M : Mem}
theorem k_51 (hO : OFF z M) (hx : xIs L xs i0 x) : ∃ M', pk_51 L xs z (z + 180) (z + 194) (z + 195) i0 M = some M' ∧ OFF z M' := by
  obtain ⟨-, hx1, hx2, hx3, hx4, hx5⟩ := hx
  obtain ⟨v, pl, nm, H, n, sv, S, inp, len, ec, eo, out, ol, hP, hC, hX, hX6, hV, hE2⟩ := off_v hO
  have hI : Inv v pl := hP.1.1
  have h1 := hI.h1
  obtain ⟨nc, nco, -, -⟩ := in_cc hI hC
  have outc : (x 1 < 0 ∨ nN (v 1) ≤ x 1) → ∃ M', pk_51 L xs z (z + 180) (z + 194) (z + 195) i0 M = some M' ∧ OFF z M' := fun ho => by
    have e6 : p_X6_gainersWithout z (x 1) M = some (.inr "java/lang/IndexOutOfBoundsException") := by
      unfold p_X6_gainersWithout; rw [hX, bS, nco _ ho, obx_r]
    obtain ⟨M2, o2, o3, o4, o5⟩ := hE2 Int64 1 0 (fun M => p_X7_gainersWithout (z + 180) (x 1) M) (fun B g a hF => by
      show p_X7_gainersWithout _ _ _ = _
      unfold p_X7_gainersWithout
      rw [oc, bS, e_nc_o hI ho, ob2_def, if_neg (by decide)])
    refine ⟨M2, ?_, o3⟩
    have el : p_L_gainersWithout z (x 1) (z + 194) M = some (nN 1, M) := by
      unfold p_L_gainersWithout
      rw [hX, bS, e6, ctc2_r, if_pos rfl]
      rfl
    unfold pk_51
    simp only [hx1, bS, el, ob2_def, hX6, o2, o4, o5, eq_self, if_true]
    rw [if_neg (by decide)]
  rcases ixN (x 1) (n := v 1) (by omega) with ho | ho | ⟨c, hc, hxc⟩
  · exact outc (Or.inl ho)
  · exact outc (Or.inr ho)
  clear outc
  obtain ⟨M1, e6, hC1, hO1⟩ := c_gains hP hC hc
  have hv : CGV z M v pl nm H n sv S inp len ec eo out ol (mkL (fun k => gaB v c k = true) (v 1)) M1 (fun M => p_X7_gainersWithout (z + 180) (nN c) M) := ⟨hC1, hO1, fun B g a hF => by
    obtain ⟨G, T, e7⟩ := e_gains (B := B) (m := z + 180) (g := g) (a := a) hI hP.1.2.1 hc
    exact ⟨_, _, e7, (((hF.g9.a_ (by omega)).a_ (by omega)).a_ (by omega)), pk_us⟩⟩
  rw [← hxc] at e6 hv
  generalize mkL (fun k => gaB v c k = true) (v 1) = val at e6 hv
  obtain ⟨⟨f0, hod⟩, hq⟩ := hV _ _ M1 _ hv
  obtain ⟨o1, M2, o2, o3, o4, o5, o6⟩ := hq (vp_updL f0 0 val)
  refine ⟨M2, ?_, o3⟩
  have el : p_L_gainersWithout z (x 1) (z + 194) M = some (0, upM M1 (z + 194) (.inl (2, 1, .inr (.inl (vp_updL f0 0 val))))) := by
    unfold p_L_gainersWithout
    rw [hX, bS, e6, ctc2_l, aLs_od hod, bS]
  unfold pk_51
  have eL := aL_od o6
  simp only [hx1, bS, el, ob2_def, o1, o2, o4, o5, eq_self, if_true, eL, lgc_self]
end KGA
