/-! the law's cases: changes -/
theorem ctc2_l {α γ : Type} {v : α} {M : Mem} {f : α → Mem → Option γ} {h : String → Option γ} : ctc2 (some (.inl (v, M))) f h = f v M := Eq.symm (Eq.symm rfl)
theorem ctc2_r {α γ : Type} {E : String} {f : α → Mem → Option γ} {h : String → Option γ} : ctc2 (some (.inr E)) f h = h E := Eq.symm (Eq.symm rfl)
theorem sameT.sy {v v' : Nat → Nat} (h : sameT v v') : sameT v' v := fun i hi => (h i hi).symm
theorem ovl_re {M1 B : Mem} {m : Nat} {g : Nat → Int32} {a : Nat → Nat → Int32} (h : ∀ x, m ≤ x → x ≤ m + 13 → M1 x = ovl B m g a x) : M1 = ovl M1 m g a := by
  funext q
  by_cases c : m ≤ q ∧ q ≤ m + 13
  · rw [h q c.1 c.2]
    unfold ovl
    by_cases c1 : q = m
    · rw [if_pos c1, if_pos c1]
    · rw [if_neg c1, if_neg c1, if_pos (by omega), if_pos (by omega)]
  · exact (ovl_o _ _ _ _ (by omega)).symm
section CHG
variable {z : Nat} {M : Mem} {v : Nat → Nat} {pl : Nat → Option Nat} {nm : Nat → Nat} {H : Nat → rowT} {n sv : Nat} {S : rowT} {inp : Nat → Nat} {len ec : Nat} {eo : Int32} {out : Nat → Nat} {ol : Nat}
theorem pur_chg (hP : PUR v pl nm H n sv S inp len out ol) {v' : Nat → Nat} {pl' : Nat → Option Nat} (hI' : Inv v' pl') (hZ : ∀ i, 764 ≤ i → v' i = 0) (hf : fstO v' pl' = none) (hT : sameT v v') : PUR v' pl' nm (hpush H n (v, pl)) (hlen n) sv S inp len out ol := by
  obtain ⟨p1, p2, p3, p4, p5, p6, p7, p8, p9, p10⟩ := hP
  have mv : ∀ x, OKR v x → OKR v' x := fun x hx => ⟨hx.1, hx.2.1, hx.2.2.1, hT.sy.t hx.2.2.2⟩
  refine ⟨⟨hI', hZ, hf, sameT.r _⟩, ?_, p3, fun j hj => ?_, fun e => mv _ (p5 e), p6, p7, p8, p9, by rw [hT 0 (Or.inl rfl)]; exact p10⟩
  · unfold hlen; split <;> omega
  · unfold hpush hlen at *
    by_cases c : n < 10
    · rw [if_pos c] at hj ⊢
      show OKR v' (if j = n then (v, pl) else H j)
      by_cases e : j = n
      · rw [if_pos e]; exact mv _ p1
      · rw [if_neg e]; exact mv _ (p4 j (by omega))
    · rw [if_neg c] at hj ⊢
      show OKR v' (if j < 9 then H (j + 1) else (v, pl))
      by_cases e : j < 9
      · rw [if_pos e]; exact mv _ (p4 (j + 1) (by omega))
      · rw [if_neg e]; exact mv _ p1
/-- what a change leaves -/
def CGv (z : Nat) (M : Mem) (v : Nat → Nat) (pl : Nat → Option Nat) (nm : Nat → Nat) (H : Nat → rowT) (n sv : Nat) (S : rowT) (inp : Nat → Nat) (len ec : Nat) (eo : Int32) (out : Nat → Nat) (ol : Nat) (val : Int32) (M1 : Mem) (ref : Mem → Option (Int32 × Mem)) : Prop :=
  ∃ v' pl' H' n' sv' S', PUR v' pl' nm H' n' sv' S' inp len out ol ∧ CL0 z (rst M1 z) v' pl' nm H' n' sv' S' inp len ec eo out ol ∧ (∀ x, ¬ (z ≤ x ∧ x < z + 180) → M1 x = M x) ∧ ∀ B g a, RFO g a nm H n sv S inp len ec eo out ol → ∃ g' a', ref (ovl B (z + 180) g (up2 a 1 (enc v pl))) = some (val, ovl B (z + 180) g' (up2 a' 1 (enc v' pl'))) ∧ RFO g' a' nm H' n' sv' S' inp len ec eo out ol ∧ g' 9 = nN 0
/-- what an exception leaves -/
def CGx (z : Nat) (v : Nat → Nat) (pl : Nat → Option Nat) (k : Nat) (ref : Mem → Option (Int32 × Mem)) : Prop := ∀ B g a, ∃ y, ref (ovl B (z + 180) g (up2 a 1 (enc v pl))) = some (y, ovl B (z + 180) (upd g 9 (nN k)) (up2 a 1 (enc v pl)))
theorem off_w (hO : OFF z M) : ∃ v pl nm H n sv S inp len ec eo out ol, PUR v pl nm H n sv S inp len out ol ∧ CL0 z (rst M z) v pl nm H n sv S inp len ec eo out ol ∧ isC 5 M z = some () ∧ isC 6 M (z + 180) = some () ∧
    (∀ val M1 ref, CGv z M v pl nm H n sv S inp len ec eo out ol val M1 ref → (∃ f, M1 (z + 194) = some (.inl (2, 1, .inr (.inl f)))) ∧ ∀ f, isC 6 (upM M1 (z + 194) (.inl (2, 1, .inr (.inl f)))) (z + 180) = some () ∧ ∃ M2, ref (upM M1 (z + 194) (.inl (2, 1, .inr (.inl f)))) = some (val, M2) ∧ OFF z M2 ∧ isC 6 M2 (z + 180) = some () ∧ p_X7_thrown (z + 180) M2 = some 0 ∧ M2 (z + 194) = some (.inl (2, 1, .inr (.inl f)))) ∧
    (∀ k ref, CGx z v pl k ref → ∃ y M2, ref M = some (y, M2) ∧ OFF z M2 ∧ isC 6 M2 (z + 180) = some () ∧ p_X7_thrown (z + 180) M2 = some (nN k)) := by
  obtain ⟨v, pl, nm, H, n, sv, S, inp, len, ec, eo, out, ol, hP, hC, ⟨B, g, a, hM, hR⟩, ⟨f0, hod⟩, f1, hod2⟩ := hO
  refine ⟨v, pl, nm, H, n, sv, S, inp, len, ec, eo, out, ol, hP, hC, (cl_now hC).1, by rw [hM]; exact oc _ _ _ _, ?_, ?_⟩
  · rintro val M1 ref ⟨v', pl', H', n', sv', S', p1, p2, p3, p4⟩
    have e1 : M1 = ovl M1 (z + 180) g (up2 a 1 (enc v pl)) := ovl_re (B := B) (fun x x1 x2 => by rw [← hM]; exact p3 x (by omega))
    have e2 : ∀ e, upM M1 (z + 194) e = ovl (upM M1 (z + 194) e) (z + 180) g (up2 a 1 (enc v pl)) := fun e => by
      conv => lhs; rw [e1]
      exact ovl_up (by omega) e
    refine ⟨⟨f0, (p3 _ (by omega)).trans hod⟩, fun f => ⟨by rw [e2]; exact oc _ _ _ _, ?_⟩⟩
    obtain ⟨g', a', q1, q2, q3⟩ := p4 (upM M1 (z + 194) (.inl (2, 1, .inr (.inl f)))) g a hR
    refine ⟨_, by rw [e2]; exact q1, ?_, oc _ _ _ _, ?_, ?_⟩
    · refine ⟨v', pl', nm, H', n', sv', S', inp, len, ec, eo, out, ol, p1, ?_, ⟨_, g', a', rfl, q2⟩, ⟨f, ?_⟩, f1, ?_⟩
      · rw [rst_eq (M := M1)]
        · exact p2
        · intro x x1 x2
          rw [ovl_o _ _ _ _ (by omega)]
          exact if_neg (by omega)
      · rw [ovl_o _ _ _ _ (by omega)]; exact if_pos rfl
      · rw [ovl_o _ _ _ _ (by omega)]
        exact (if_neg (by omega)).trans ((p3 _ (by omega)).trans hod2)
    · unfold p_X7_thrown; rw [oi_9, bS, q3]; rfl
    · rw [ovl_o _ _ _ _ (by omega)]; exact if_pos rfl
  · intro k ref hx
    obtain ⟨y, q1⟩ := hx B g a
    refine ⟨y, _, by rw [hM]; exact q1, ?_, oc _ _ _ _, thr_9⟩
    refine ⟨v, pl, nm, H, n, sv, S, inp, len, ec, eo, out, ol, hP, ?_, ⟨_, _, a, rfl, hR.g9⟩, ⟨f0, ?_⟩, f1, ?_⟩
    · rw [rst_eq (M := M)]
      · exact hC
      · intro x x1 x2
        rw [ovl_o _ _ _ _ (by omega), hM, ovl_o _ _ _ _ (by omega)]
    · rw [ovl_o _ _ _ _ (by omega)]
      rw [hM, ovl_o _ _ _ _ (by omega)] at hod
      exact hod
    · rw [ovl_o _ _ _ _ (by omega)]
      rw [hM, ovl_o _ _ _ _ (by omega)] at hod2
      exact hod2
/-- remembered: the roll that is used lies open -/
theorem cl_chg (hI : Inv v pl) (hn : n ≤ 10) (hC : CL0 z (rst M z) v pl nm H n sv S inp len ec eo out ol) : ∃ M2 r b t tb g h ar u ta, p_X6_remember z M = some (ofc M2 r b t tb g h ar u ta) ∧ (∀ g h ar, gR 5 3 (ofc M2 r b t tb g h ar u ta) z = some r ∧ gR 5 1 (ofc M2 r b t tb g h ar u ta) z = some (z + 24) ∧ isC 5 (ofc M2 r b t tb g h ar u ta) z = some () ∧ ∀ T, gR 5 3 (ofc (ovq M2 (z + 24) T) r b t tb g h ar u ta) z = some r) ∧ GE r b t tb ∧ RG g h ar v pl ∧ TG u ta v (cdS nm) ∧ GQ (z + 24) r b t tb ∧
    (∀ g' h' ar' v' pl', RG g' h' ar' v' pl' → TG u ta v' (cdS nm) → CL0 z (rst (ofc M2 r b t tb g' h' ar' u ta) z) v' pl' nm (hpush H n (v, pl)) (hlen n) sv S inp len ec eo out ol) ∧
    (∀ g' h' ar' T v' pl', RG g' h' ar' v' pl' → TG u ta v' (cdS nm) → CL0 z (rst (ofc (ovq M2 (z + 24) T) r b t tb g' h' ar' u ta) z) v' pl' nm (hpush H n (v, pl)) (hlen n) sv S inp len ec eo out ol) ∧
    (∃ T, M2 = ovq M2 (z + 24) T) ∧ ∀ g' h' ar' T x, ¬ (z ≤ x ∧ x < z + 180) → ofc M2 r b t tb g' h' ar' u ta x = M x ∧ ofc (ovq M2 (z + 24) T) r b t tb g' h' ar' u ta x = M x := by
  obtain ⟨M2, e, hC2, ho⟩ := c_remember hI hn hC
  obtain ⟨-, -, -, r, b, t, tb, g, h, ar, u, ta, hM, hg, hG, hR, hT, ⟨-, -, hQ⟩, put1, put2, hTq, hout⟩ := cl_now hC2
  exact ⟨M2, r, b, t, tb, g, h, ar, u, ta, by rw [← hM]; exact e, hg, hG, hR, hT, hQ, put1, put2, hTq, fun g' h' ar' T x hx => ⟨(hout g' h' ar' T x hx).1.trans (ho x hx), (hout g' h' ar' T x hx).2.trans (ho x hx)⟩⟩
/-- a change that remembers, writes and fills -/
theorem cg_in (hP : PUR v pl nm H n sv S inp len out ol) (hC : CL0 z (rst M z) v pl nm H n sv S inp len ec eo out ol) {v1 : Nat → Nat} {pl1 : Nat → Option Nat} {val : Int32} {ref : Mem → Option (Int32 × Mem)} {X : Mem → Prop} (hI1 : Inv v1 pl1) (hZ1 : ∀ i, 764 ≤ i → v1 i = 0) (hT1 : sameT v v1)
    (h6 : ∀ M2 r b t tb g h ar u ta, (∀ g h ar, gR 5 3 (ofc M2 r b t tb g h ar u ta) z = some r ∧ gR 5 1 (ofc M2 r b t tb g h ar u ta) z = some (z + 24) ∧ isC 5 (ofc M2 r b t tb g h ar u ta) z = some () ∧ ∀ T, gR 5 3 (ofc (ovq M2 (z + 24) T) r b t tb g h ar u ta) z = some r) → GE r b t tb → RG g h ar v pl → TG u ta v (cdS nm) → p_X6_remember z M = some (ofc M2 r b t tb g h ar u ta) → ∃ g' h' ar', RG g' h' ar' v1 pl1 ∧ ∀ M4, p_X2_fillPlaces r (ofc M2 r b t tb g' h' ar' u ta) = some M4 → X M4)
    (h7 : ∀ B g a g2 a2, p_X7_remembers (z + 180) (ovl B (z + 180) (upd g 9 (nN 0)) (up2 a 1 (enc v pl))) = some (ovl B (z + 180) g2 (up2 a2 1 (enc v pl))) → ∃ g3 a3, (RFO g2 a2 nm (hpush H n (v, pl)) (hlen n) sv S inp len ec eo out ol → RFO g3 a3 nm (hpush H n (v, pl)) (hlen n) sv S inp len ec eo out ol) ∧ g3 9 = g2 9 ∧ ∀ M4, p_X7_fills (z + 180) (ovl B (z + 180) g3 (up2 a3 1 (enc v1 pl1))) = some M4 → ref (ovl B (z + 180) g (up2 a 1 (enc v pl))) = some (val, M4)) :
    ∃ M1, X M1 ∧ CGv z M v pl nm H n sv S inp len ec eo out ol val M1 ref := by
  obtain ⟨M2, r, b, t, tb, g, h, ar, u, ta, e, hg, hG, hR, hT, hQ, put1, put2, hTq, hout⟩ := cl_chg hP.1.1 hP.2.1 hC
  obtain ⟨g1, h1, ar1, R1, k6⟩ := h6 M2 r b t tb g h ar u ta hg hG hR hT e
  have hsch := hP.1.1.sch
  have T1 : TG u ta v1 (cdS nm) := hT.same hT1 hP.1.1.h0 (fun s hs => (hsch s hs).2.2.2.1)
  obtain ⟨g2, h2, ar2, f6, R2⟩ := c_fillPlaces M2 hG R1 T1 hI1
  have hQ2 := (fit_Q 160 (x := (v1, pl1)) hI1).1
  have hT2 : sameT v (fit 160 (v1, pl1)).1 := hT1.t hQ2.T
  have T2 : TG u ta (fit 160 (v1, pl1)).1 (cdS nm) := hT.same hT2 hP.1.1.h0 (fun s hs => (hsch s hs).2.2.2.1)
  refine ⟨_, k6 _ f6, (fit 160 (v1, pl1)).1, (fit 160 (v1, pl1)).2, hpush H n (v, pl), hlen n, sv, S, ?_, put1 g2 h2 ar2 _ _ R2 T2, fun x hx => (hout g2 h2 ar2 (fun _ => 0) x hx).1, ?_⟩
  · exact pur_chg hP (fit_Inv 160 (x := (v1, pl1)) hI1) (fun i hi => (hQ2 i (by omega)).trans (hZ1 i hi)) (fit_done 160 (x := (v1, pl1)) hI1 (Phi_le hI1)) hT2
  · intro B g a hF
    obtain ⟨g', a', q1, q2, q3⟩ := e_remembers (v := v) (pl := pl) (B := B) (m := z + 180) (hF.g9 (c := nN 0)) hP.2.1
    obtain ⟨g3, a3, s1, s2, s3⟩ := h7 B g a g' a' q1
    exact ⟨g3, a3, s3 _ (e_fills hI1), s1 q2, by rw [s2, q3]; exact pk_us⟩
def CG (z : Nat) (M : Mem) (v : Nat → Nat) (pl : Nat → Option Nat) (nm : Nat → Nat) (H : Nat → rowT) (n sv : Nat) (S : rowT) (inp : Nat → Nat) (len ec : Nat) (eo : Int32) (out : Nat → Nat) (ol : Nat) (E1 E2 : String) (cls : Option ((Int32 × Mem) ⊕ String)) (ref : Mem → Option (Int32 × Mem)) : Prop :=
  (∃ val M1, cls = some (.inl (val, M1)) ∧ CGv z M v pl nm H n sv S inp len ec eo out ol val M1 ref) ∨ (cls = some (.inr E1) ∧ CGx z v pl 1 ref) ∨ (cls = some (.inr E2) ∧ CGx z v pl 2 ref)
theorem fa0 {B : Mem} {m : Nat} {g : Nat → Int32} {a : Nat → Nat → Int32} {k : Int32} : p_X7_fails m (0 : Int32) k (ovl B m g a) = some ((0 : Int32), ovl B m g a) := fa_0
theorem fa1 {B : Mem} {m : Nat} {g : Nat → Int32} {a : Nat → Nat → Int32} {k : Int32} : p_X7_fails m (1 : Int32) k (ovl B m g a) = some ((1 : Int32), ovl B m (upd g 9 k) a) := fa_1
theorem in_cc (hI : Inv v pl) (hC : CL0 z (rst M z) v pl nm H n sv S inp len ec eo out ol) : (∀ c, c < v 1 → p_X6_needChild z (nN c) M = some (.inl ())) ∧ (∀ x : Int32, (x < 0 ∨ nN (v 1) ≤ x) → p_X6_needChild z x M = some (.inr "java/lang/IndexOutOfBoundsException")) ∧ (∀ c, c < v 0 → p_X6_needSchool z (nN c) M = some (.inl ())) ∧ (∀ x : Int32, (x < 0 ∨ nN (v 0) ≤ x) → p_X6_needSchool z x M = some (.inr "java/lang/IndexOutOfBoundsException")) := by
  obtain ⟨hX, r, b, t, tb, g, h, ar, u, ta, hM, hr, hG, hR, hT, -⟩ := cl_qry hI hC
  rw [hM] at hr ⊢
  exact ⟨fun c hc => n_ch M hG hR hT hI hr hc, fun x hx => n_ch_o M hG hR hT hI hr hx, fun c hc => n_sc M hG hR hT hI hr hc, fun x hx => n_sc_o M hG hR hT hI hr hx⟩
theorem ch_withdraw (hP : PUR v pl nm H n sv S inp len out ol) (hC : CL0 z (rst M z) v pl nm H n sv S inp len ec eo out ol) (x0 : Int32) : CG z M v pl nm H n sv S inp len ec eo out ol "java/lang/IndexOutOfBoundsException" "java/lang/IllegalStateException" (p_X6_withdraw z x0 M) (fun M => p_X7_withdraw (z + 180) x0 M) := by
  have hI : Inv v pl := hP.1.1
  obtain ⟨nc, nco, -, -⟩ := in_cc hI hC
  obtain ⟨hX, r, b, t, tb, g, h, ar, u, ta, hM, hr, hG, hR, hT, -⟩ := cl_qry hI hC
  have hb := hI.hb; have h0 := hI.h0; have h1 := hI.h1; have h2 := hI.h2; have h7 := hI.h7; have h8 := hI.h8
  have key : ∀ x : Int32, (x < 0 ∨ nN (v 1) ≤ x) → CG z M v pl nm H n sv S inp len ec eo out ol "java/lang/IndexOutOfBoundsException" "java/lang/IllegalStateException" (p_X6_withdraw z x M) (fun M => p_X7_withdraw (z + 180) x M) := fun x ho => by
    refine Or.inr (Or.inl ⟨?_, fun B g a => ⟨0, ?_⟩⟩)
    · unfold p_X6_withdraw; simp only [hX, bS, nco x ho, obx_r]
    · show p_X7_withdraw _ _ _ = _
      unfold p_X7_withdraw
      rw [oc, bS, e_nc_o hI ho, ob2_def, if_neg (by decide)]
  rcases ixN x0 (n := v 1) (by omega) with ho | ho | ⟨c, hc, rfl⟩
  · exact key _ (Or.inl ho)
  · exact key _ (Or.inr ho)
  clear key
  have hch := hI.chi c (by omega)
  have f9 : gL 2 9 M r = some (mkL (fun c => v (404 + c) = 1) (v 1)) := by rw [hM, fv_9, hR.h9]
  by_cases c1 : v (404 + c) = 1
  · refine Or.inr (Or.inr ⟨?_, fun B g a => ⟨0, ?_⟩⟩)
    · unfold p_X6_withdraw
      rw [hX, bS, nc c hc, obx_l, hr, bS, f9, bS, c_isIn h1 hc, bS, if_neg (by rw [← bI_t c1]; decide)]
    · show p_X7_withdraw _ _ _ = _
      unfold p_X7_withdraw
      simp only [jn_def]
      rw [oc, bS, e_nc hI hc, ob2_def, if_pos (by rfl), oc, bS, e_isHere up2_s hI (c := c) (by omega), bS, if_pos (by rw [← bI_f (show ¬ v (404 + c) = 0 by omega)]; rfl), bS, fa1, ob2_def, if_neg (by decide), upd_2]
      rfl
  have c0 : v (404 + c) = 0 := by omega
  suffices hcg : ∃ M1, (p_X6_withdraw z (nN c) M = some (.inl (oN (pl c), M1))) ∧ CGv z M v pl nm H n sv S inp len ec eo out ol (oN (pl c)) M1 (fun M => p_X7_withdraw (z + 180) (nN c) M) by
    obtain ⟨M1, hX1, hV⟩ := hcg
    exact Or.inl ⟨_, _, hX1, hV⟩
  refine cg_in hP hC (v1 := updN (updN v (444 + c) 0) (404 + c) 1) (pl1 := updO pl c none) (X := fun M4 => p_X6_withdraw z (nN c) M = some (.inl (oN (pl c), M4))) ?_ ?_ ?_ ?_ ?_
  · exact ((hI.w (i := 444 + c) (x := 0) (by unfold okW; omega)).pn (c := c)).gone (by omega) (by omega) updO_s
  · intro i hi; rw [updN_n (by omega), updN_n (by omega)]; exact hP.1.2.1 i hi
  · exact (sameT.w (by omega)).t (sameT.w (by omega))
  · intro M2 r2 b2 t2 tb2 g2 h2' ar2 u2 ta2 hg hG2 hR2 hT2 e
    obtain ⟨g', h', ar', f1, R1⟩ := c_takeOut (B := M2) (u := u2) (ta := ta2) hG2 hR2 h0 h1 hc
    refine ⟨g', h', ar', R1, fun M4 f4 => ?_⟩
    unfold p_X6_withdraw
    rw [hX, bS, nc c hc, obx_l, hr, bS, f9, bS, c_isIn h1 hc, bS, if_pos (by rw [← bI_f c1]; rfl)]
    simp (disch := omega) only [hX, bS, e, (hg _ _ _).1, fv_16, fd_5 hG2, rd_nN, hR2.a5, fv_isC, f1, f4]
  · intro B g a g2 a2 e
    refine ⟨g2, a2, fun h => h, rfl, fun M4 f4 => ?_⟩
    show p_X7_withdraw _ _ _ = _
    unfold p_X7_withdraw
    simp only [jn_def]
    rw [oc, bS, e_nc hI hc, ob2_def, if_pos (by rfl), oc, bS, e_isHere up2_s hI (c := c) (by omega), bS, if_neg (by rw [← bI_t c0]; decide), bS, fa0, ob2_def, if_pos (by rfl), oc, bS, e, bS, or_0, bS]
    simp (disch := omega) only [nN_lit, nN_add]
    rw [er_p (by omega), bS, oc, bS, e_goes (by omega), bS, oc, bS, f4, bS]
end CHG
section KC
variable {L : Nat} {xs : Nat → Int32} {i0 : Int32} {x : Nat → Int32} {z : Nat} {M : Mem}
theorem k_24 (hO : OFF z M) (hx : xIs L xs i0 x) : ∃ M', pk_24 L xs z (z + 180) (z + 194) (z + 195) i0 M = some M' ∧ OFF z M' := by
  obtain ⟨-, hx1, hx2, hx3, hx4, hx5⟩ := hx
  obtain ⟨v, pl, nm, H, n, sv, S, inp, len, ec, eo, out, ol, hP, hC, hX, hX6, hV, hE⟩ := off_w hO
  rcases ch_withdraw hP hC (x 1) with ⟨val, M1, e6, hv⟩ | ⟨e6, hv⟩ | ⟨e6, hv⟩
  · obtain ⟨⟨f0, hod⟩, hq⟩ := hV val M1 _ hv
    obtain ⟨o1, M2, o2, o3, o4, o5, o6⟩ := hq (vp_updL f0 0 (Int32.toInt64 val))
    refine ⟨M2, ?_, o3⟩
    have el : p_L_withdraw z (x 1) (z + 194) M = some (0, upM M1 (z + 194) (.inl (2, 1, .inr (.inl (vp_updL f0 0 (Int32.toInt64 val)))))) := by
      unfold p_L_withdraw
      rw [hX, bS, e6, ctc2_l, aLs_od hod, bS]
    unfold pk_24
    have eL := aL_od o6
    simp only [hx1, bS, el, ob2_def, o1, o2, o4, o5, eq_self, if_true, eL, lgc_self]
  · obtain ⟨y, M2, o2, o3, o4, o5⟩ := hE 1 _ hv
    refine ⟨M2, ?_, o3⟩
    have el : p_L_withdraw z (x 1) (z + 194) M = some (nN 1, M) := by
      unfold p_L_withdraw
      rw [hX, bS, e6, ctc2_r, if_pos rfl]
      rfl
    unfold pk_24
    simp only [hx1, bS, el, ob2_def, hX6, o2, o4, o5, eq_self, if_true]
    rw [if_neg (by decide)]
  · obtain ⟨y, M2, o2, o3, o4, o5⟩ := hE 2 _ hv
    refine ⟨M2, ?_, o3⟩
    have el : p_L_withdraw z (x 1) (z + 194) M = some (nN 2, M) := by
      unfold p_L_withdraw
      rw [hX, bS, e6, ctc2_r, if_neg (by decide), if_pos rfl]
      rfl
    unfold pk_24
    simp only [hx1, bS, el, ob2_def, hX6, o2, o4, o5, eq_self, if_true]
    rw [if_neg (by decide)]
end KC
