section CK
variable {B : Mem} {r b t tb : Nat} {g : Nat → Int32} {h : Nat → Int64} {ar : Nat → Nat → Int32} {u : Nat → Int32} {ta : Nat → Nat → Int32} {v : Nat → Nat} {pl : Nat → Option Nat} {cd : Nat → Nat}
theorem c_keepFirst (B : Mem) (hG : GE r b t tb) (hR : RG g h ar v pl) (hT : TG u ta v cd) (hI : Inv v pl) {s : Nat} (hs : s < v 0) (a0 : Nat) : ∃ g' h' ar', p_X0_keepFirst a0 r (nN s) (ofc B r b t tb g h ar u ta) = some (ofc B r b t tb g' h' ar' u ta) ∧ RG g' h' ar' (kpS s (v, pl)).1 (kpS s (v, pl)).2 := by
  have hb := hI.hb; have h0 := hI.h0; have h1 := hI.h1; have h2 := hI.h2; have h7 := hI.h7; have h8 := hI.h8
  have lp : ∀ d fu (g : Nat → Int32) (h : Nat → Int64) (ar : Nat → Nat → Int32) (v : Nat → Nat) (pl : Nat → Option Nat), RG g h ar v pl → TG u ta v cd → Inv v pl → s < v 0 → d ≤ hldN v pl s → d < fu → ∃ g' h' ar', pl_X0_keepFirst_19 (fun M => some M) (fun M => some M) r (nN s) fu (mkL (fun k => pl k = some s) (v 1)) (nN d) (ofc B r b t tb g h ar u ta) = some (ofc B r b t tb g' h' ar' u ta) ∧ RG g' h' ar' (krn s d (v, pl)).1 (krn s d (v, pl)).2 := by
    intro d
    induction d with
    | zero =>
      intro fu g h ar v pl hR hT hI hs hd hf
      obtain ⟨f, rfl⟩ : ∃ f, fu = f + 1 := ⟨fu - 1, by omega⟩
      refine ⟨g, h, ar, ?_, hR⟩
      rw [pl_X0_keepFirst_19, if_pos (by decide)]
    | succ d ih =>
      intro fu g h ar v pl hR hT hI hs hd hf
      obtain ⟨f, rfl⟩ : ∃ f, fu = f + 1 := ⟨fu - 1, by omega⟩
      have hb := hI.hb; have h0 := hI.h0; have h1 := hI.h1; have h2 := hI.h2; have h7 := hI.h7; have h8 := hI.h8
      have hle : hldN v pl s ≤ v 1 := cnt_le _ _
      have e1 := c_lastOf B hG hR hT hI (P := fun k => pl k = some s) hs
      have hpos : ¬ nN (d + 1) ≤ 0 := nle_f (b := 0) (by omega) (by omega) (by omega)
      have hdec : nN (d + 1) + (-1 : Int32) = nN d := pk_m1 d
      have hrm := krm_hld (x := (v, pl)) (s := s) hI (by show 0 < hldN v pl s; omega)
      rw [pl_X0_keepFirst_19, if_neg hpos, fv_isC, bS, e1, bS, hdec]
      cases hl : mxO (fun k => pl k = some s) (stS v s) (v 1) with
      | none =>
        obtain ⟨k, hk, hp⟩ := cnt_pos.mp (show 0 < cnt (fun k => pl k = some s) (v 1) by unfold hldN at hd; omega)
        exact absurd hp (mxO_none.mp hl k hk)
      | some l =>
        have hl2 : lstO v pl s = some l := hl
        have hlk := mxO_lt hl
        have ek : krm s (v, pl) = (updN v (524 + l) 0, updO pl l none) := by unfold krm; rw [hl2]
        have R2 := (hR.place (c := l) (p := none)).round (by omega) (by omega) (c := l) (x := 0) (by omega)
        have I2 := krm_Inv (x := (v, pl)) (s := s) hI
        rw [ek] at I2 hrm
        have T2 : TG u ta (updN v (524 + l) 0) cd := hT.same (sameT.w (by omega)) h0 (fun s hs => (hI.sch s hs).2.2.2.1)
        have z0 : updN v (524 + l) 0 0 = v 0 := updN_n (by omega)
        have z1 : updN v (524 + l) 0 1 = v 1 := updN_n (by omega)
        have hs2 : mkL (fun k => pl k = some s) (v 1) &&& (((1 : Int64) <<< (Int32.toInt64 (nN l) &&& 63)) ^^^ (-1 : Int64)) = mkL (fun k => updO pl l none k = some s) (updN v (524 + l) 0 1) := by
          rw [mk_clr (by omega), z1]
          refine mk_c (fun k hk => ?_)
          by_cases e : k = l
          · subst e; rw [updO_s]; simp
          · rw [updO_n e]; simp [e]
        obtain ⟨g3, h3, ar3, q3, R3⟩ := ih f _ _ _ _ _ R2 T2 I2 (by omega) (by have : hldN (updN v (524 + l) 0) (updO pl l none) s + 1 = hldN v pl s := hrm; omega) (by omega)
        refine ⟨g3, h3, ar3, ?_, ?_⟩
        · show (if nN l = -1 then _ else _) = _
          rw [if_neg (show ¬ nN l = -1 from nNm (by omega)), fv_16, bS]
          show Option.bind (aIs (ofc B r b t tb g h ar u ta) (b + 5) (nN l) mI) _ = _
          rw [fe_5 hG, wr_nN (by omega) (by omega), Option.map_some, bS, fv_17, bS]
          show Option.bind (aIs _ (b + 6) (nN l) (nN 0)) _ = _
          rw [fe_6 hG, wr_nN (by omega) (by omega), Option.map_some, bS]
          show pl_X0_keepFirst_19 _ _ r (nN s) f (mkL (fun k => pl k = some s) (v 1) &&& (((1 : Int64) <<< (Int32.toInt64 (nN l) &&& 63)) ^^^ (-1 : Int64))) (nN d) _ = _
          rw [hs2]
          exact q3
        · show RG g3 h3 ar3 (krn s d (krm s (v, pl))).1 (krn s d (krm s (v, pl))).2
          rw [ek]
          exact R3
  unfold p_X0_keepFirst kpS
  have e1 := c_holdersOf B hG hR hT hI (s := s) (by omega)
  have e2 : p_J13_bitCount_95d88 (mkL (fun c => pl c = some s) (v 1)) (ofc B r b t tb g h ar u ta) = some (nN (hldN v pl s)) := c_bitc (by omega)
  have hle : hldN v pl s ≤ v 1 := cnt_le _ _
  have hcap := (hI.sch s (by omega)).1
  rw [fv_isC, bS, e1, bS, e2, bS, fv_18, bS, fd_7 hG, rd_nN (by omega) (by omega), bS, hR.a7 hs]
  by_cases c : v (20 + s) ≤ hldN v pl s
  · rw [nN_subN c]
    exact lp (hldN v pl s - v (20 + s)) FU g h ar v pl hR hT hI hs (by omega) (FU_pos (by omega))
  · refine ⟨g, h, ar, ?_, ?_⟩
    · have hFU : 0 < FU := FU_pos (by omega)
      obtain ⟨f, hf⟩ : ∃ f, FU = f + 1 := ⟨FU - 1, by omega⟩
      rw [hf, pl_X0_keepFirst_19, if_pos]
      rw [nN_sub, i_le, iI_toInt (by omega)]
      show _ ≤ (0 : Int)
      omega
    · show RG g h ar (krn s (hldN v pl s - v (20 + s)) (v, pl)).1 _
      rw [show hldN v pl s - v (20 + s) = 0 by omega]
      exact hR
theorem kpA_n0 {x : (Nat → Nat) × (Nat → Option Nat)} (hI : Inv x.1 x.2) (k i : Nat) (h : ¬ (524 ≤ i ∧ i < 564)) : (kpA k x).1 i = x.1 i := (kpA_Q k hI).2 i h
theorem c_run (B : Mem) (hG : GE r b t tb) (hR : RG g h ar v pl) (hT : TG u ta v cd) (hI : Inv v pl) {q : Nat} (hQ : GQ q r b t tb) {T : Nat → Int32} : ∃ g' h' ar' T', p_X0_run q r (ofc (ovq B q T) r b t tb g h ar u ta) = some (ofc (ovq B q T') r b t tb g' h' ar' u ta) ∧ RG g' h' ar' (alo 160 1 (tbS v, fun _ => none) (fun _ => 0)).1.1 (alo 160 1 (tbS v, fun _ => none) (fun _ => 0)).1.2 ∧ ∀ c, c < v 1 → T' c = nN ((alo 160 1 (tbS v, fun _ => none) (fun _ => 0)).2 c) := by
  have keeps : ∀ (B : Mem) (k1 : Mem → Option Mem) (f2 : Int32) (x : (Nat → Nat) × (Nat → Option Nat)), Inv x.1 x.2 → TG u ta x.1 cd → isC 0 (ofc B r b t tb g h ar u ta) q = some () → (∀ g h ar, isC 0 (ofc B r b t tb g h ar u ta) q = some ()) → ∀ d k fu (g : Nat → Int32) (h : Nat → Int64) (ar : Nat → Nat → Int32), RG g h ar (kpA k x).1 (kpA k x).2 → k + d = x.1 0 → d < fu → ∃ g' h' ar', pl_X0_run_38 k1 q r f2 fu (nN k) (ofc B r b t tb g h ar u ta) = k1 (ofc B r b t tb g' h' ar' u ta) ∧ RG g' h' ar' (kpA (x.1 0) x).1 (kpA (x.1 0) x).2 := by
    intro B k1 f2 x hI hT _ hC d
    induction d with
    | zero =>
      intro k fu g h ar hR hk hf
      obtain ⟨f, rfl⟩ : ∃ f, fu = f + 1 := ⟨fu - 1, by omega⟩
      have h0 := hI.h0
      have ek : k = x.1 0 := by omega
      have T2 : TG u ta (kpA k x).1 cd := hT.same (kpA_Q k hI).1.T h0 (fun s hs => (hI.sch s hs).2.2.2.1)
      have z0 := kpA_n0 hI k 0 (by omega)
      refine ⟨g, h, ar, ?_, ek ▸ hR⟩
      rw [pl_X0_run_38, fv_0, bS, ft_0 hG, bS, T2.u0, z0, if_pos (nle_t (by omega) (by omega) (by omega))]
    | succ d ih =>
      intro k fu g h ar hR hk hf
      obtain ⟨f, rfl⟩ : ∃ f, fu = f + 1 := ⟨fu - 1, by omega⟩
      have h0 := hI.h0
      have IK := kpA_Inv k hI
      have T2 : TG u ta (kpA k x).1 cd := hT.same (kpA_Q k hI).1.T h0 (fun s hs => (hI.sch s hs).2.2.2.1)
      have z0 := kpA_n0 hI k 0 (by omega)
      obtain ⟨g1, h1, ar1, q1, R1⟩ := c_keepFirst B hG hR T2 IK (s := k) (by omega) q
      obtain ⟨g2, h2, ar2, q2, R2⟩ := ih (k + 1) f g1 h1 ar1 R1 (by omega) (by omega)
      have ek1 : nN k + (1 : Int32) = nN (k + 1) := nN_add k 1
      refine ⟨g2, h2, ar2, ?_, R2⟩
      rw [pl_X0_run_38, fv_0, bS, ft_0 hG, bS, T2.u0, z0, if_neg (nle_f (by omega) (by omega) (by omega)), hC, bS, q1, bS, ek1, q2]
  have lp : ∀ d st fu (g : Nat → Int32) (h : Nat → Int64) (ar : Nat → Nat → Int32) (T : Nat → Int32) (x : (Nat → Nat) × (Nat → Option Nat)) (nx : Nat → Nat), RG g h ar x.1 x.2 → TG u ta x.1 cd → Inv x.1 x.2 → (∀ c, c < x.1 1 → T c = nN (nx c)) → (∀ c, nx c ≤ 4) → st + d = 161 → d < fu → ∃ g' h' ar' T', pl_X0_run_14 (fun M => some M) (fun M => some M) q r fu (nN st) (ofc (ovq B q T) r b t tb g h ar u ta) = some (ofc (ovq B q T') r b t tb g' h' ar' u ta) ∧ RG g' h' ar' (alo d st x nx).1.1 (alo d st x nx).1.2 ∧ ∀ c, c < x.1 1 → T' c = nN ((alo d st x nx).2 c) := by
    intro d
    induction d with
    | zero =>
      intro st fu g h ar T x nx hR hT hI hX hx hk hf
      obtain ⟨f, rfl⟩ : ∃ f, fu = f + 1 := ⟨fu - 1, by omega⟩
      refine ⟨g, h, ar, T, ?_, hR, hX⟩
      rw [pl_X0_run_14, if_pos (show (160 : Int32) < nN st from nlt_t (a := 160) (by omega) (by omega) (by omega))]
    | succ d ih =>
      intro st fu g h ar T x nx hR hT hI hX hx hk hf
      obtain ⟨f, rfl⟩ : ∃ f, fu = f + 1 := ⟨fu - 1, by omega⟩
      have h0 := hI.h0; have h1 := hI.h1
      obtain ⟨g1, h1', ar1, T1, q1, R1, X1⟩ := c_tryNext B hG hR hT hI hQ (T := T) (nx := nx) (st := st) (by omega) hX hx
      rw [pl_X0_run_14, if_neg (show ¬ (160 : Int32) < nN st from nlt_f (a := 160) (by omega) (by omega) (by omega)), q_C hQ, bS, q1, ob2_def]
      by_cases c : 0 < cnt (fun c => tryB x.1 x.2 nx c = true) (x.1 1)
      · have ea : alo (d + 1) st x nx = alo d (st + 1) (kpA (x.1 0) (updN (tryV x.1 x.2 nx st (x.1 1)) 9 st, tryP x.1 x.2 nx (x.1 1))) (tryX x.1 x.2 nx (x.1 1)) := by
          show (if _ then _ else _) = _
          rw [if_pos c]
        have IT := try_Inv (nx := nx) (st := st) hI (by omega) (x.1 1) (Nat.le_refl _)
        have QT : sameQ x.1 (tryV x.1 x.2 nx st (x.1 1)) := (tryV_Q (k := x.1 1)).resolve_right (by omega)
        have I2 : Inv (updN (tryV x.1 x.2 nx st (x.1 1)) 9 st) (tryP x.1 x.2 nx (x.1 1)) := IT.w (by unfold okW; omega)
        have Q2 : sameQ x.1 (updN (tryV x.1 x.2 nx st (x.1 1)) 9 st) := QT.t (sameQ.w (by omega))
        have y0 : tryV x.1 x.2 nx st (x.1 1) 0 = x.1 0 := QT 0 (by omega)
        have y1 : tryV x.1 x.2 nx st (x.1 1) 1 = x.1 1 := QT 1 (by omega)
        have w0 : updN (tryV x.1 x.2 nx st (x.1 1)) 9 st 0 = x.1 0 := Q2 0 (by omega)
        have R2 := R1.rounds (by omega) (by omega) (x := st)
        have T2 : TG u ta (updN (tryV x.1 x.2 nx st (x.1 1)) 9 st) cd := hT.same Q2.T h0 (fun s hs => (hI.sch s hs).2.2.2.1)
        have I3 := kpA_Inv (x.1 0) (x := (updN (tryV x.1 x.2 nx st (x.1 1)) 9 st, tryP x.1 x.2 nx (x.1 1))) I2
        have Q3 := (kpA_Q (x.1 0) (x := (updN (tryV x.1 x.2 nx st (x.1 1)) 9 st, tryP x.1 x.2 nx (x.1 1))) I2).1
        have Q4 : sameQ x.1 _ := Q2.t Q3
        have T3 : TG u ta _ cd := hT.same Q4.T h0 (fun s hs => (hI.sch s hs).2.2.2.1)
        obtain ⟨g2, h2, ar2, q2, R3⟩ := keeps (ovq B q T1) (fun M => pl_X0_run_14 (fun M => some M) (fun M => some M) q r f (nN st + (1 : Int32)) M) (nN st) (updN (tryV x.1 x.2 nx st (x.1 1)) 9 st, tryP x.1 x.2 nx (x.1 1)) I2 T2 (q_C hQ) (fun _ _ _ => q_C hQ) (x.1 0) 0 FU _ _ _ R2 (by show 0 + x.1 0 = updN (tryV x.1 x.2 nx st (x.1 1)) 9 st 0; omega) (FU_pos (by omega))
        have R3 : RG g2 h2 ar2 (kpA (updN (tryV x.1 x.2 nx st (x.1 1)) 9 st 0) (updN (tryV x.1 x.2 nx st (x.1 1)) 9 st, tryP x.1 x.2 nx (x.1 1))).1 (kpA (updN (tryV x.1 x.2 nx st (x.1 1)) 9 st 0) (updN (tryV x.1 x.2 nx st (x.1 1)) 9 st, tryP x.1 x.2 nx (x.1 1))).2 := R3
        rw [w0] at R3
        have ek1 : nN st + (1 : Int32) = nN (st + 1) := nN_add st 1
        have k1 : (kpA (x.1 0) (updN (tryV x.1 x.2 nx st (x.1 1)) 9 st, tryP x.1 x.2 nx (x.1 1))).1 1 = x.1 1 := Q4 1 (by omega)
        obtain ⟨g4, h4, ar4, T4, q4, R4, X4⟩ := ih (st + 1) f g2 h2 ar2 T1 (kpA (x.1 0) (updN (tryV x.1 x.2 nx st (x.1 1)) 9 st, tryP x.1 x.2 nx (x.1 1))) (tryX x.1 x.2 nx (x.1 1)) R3 T3 I3 (fun c hc => X1 c (by omega)) (fun c => by
          unfold tryX
          by_cases cc : c < x.1 1 ∧ tryB x.1 x.2 nx c = true
          · rw [if_pos cc]
            have c2 := cc.2
            unfold tryB at c2
            simp only [Bool.and_eq_true, decide_eq_true_eq] at c2
            have := (hI.chi c (by omega)).2.2.2.2.2.1
            omega
          · rw [if_neg cc]; exact hx c) (by omega) (by omega)
        refine ⟨g4, h4, ar4, T4, ?_, ?_, ?_⟩
        · rw [← bI_t c, if_neg (by decide), fw_5, bS]
          refine q2.trans ?_
          show pl_X0_run_14 _ _ q r f (nN st + (1 : Int32)) _ = _
          rw [ek1]
          exact q4
        · rw [ea]; exact R4
        · rw [ea]; exact fun c hc => X4 c (by omega)
      · have ea : alo (d + 1) st x nx = (x, nx) := by
          show (if _ then _ else _) = _
          rw [if_neg c]
        have hn : ∀ c', c' < x.1 1 → ¬ tryB x.1 x.2 nx c' = true := cnt_zero.mp (by omega)
        have eV : tryV x.1 x.2 nx st (x.1 1) = x.1 := funext fun i => by
          unfold tryV
          by_cases cc : (524 ≤ i ∧ i < 524 + x.1 1) ∧ tryB x.1 x.2 nx (i - 524) = true
          · exact absurd cc.2 (hn _ (by omega))
          · rw [if_neg cc]
        have eP : tryP x.1 x.2 nx (x.1 1) = x.2 := funext fun i => if_neg (fun z => hn i z.1 z.2)
        have eX : tryX x.1 x.2 nx (x.1 1) = nx := funext fun i => if_neg (fun z => hn i z.1 z.2)
        rw [eV, eP] at R1
        rw [eX] at X1
        refine ⟨g1, h1', ar1, T1, ?_, ?_, ?_⟩
        · rw [← bI_f c, if_pos (by rfl)]
        · rw [ea]; exact R1
        · rw [ea]; exact X1
  have h0 := hI.h0; have h1 := hI.h1
  obtain ⟨g1, h1', ar1, q1, R1⟩ := c_takeAllBack (B := ovq B q T) (u := u) (ta := ta) hG hR h0 h1
  have ff := j_fill (M := ofc (ovq B q T) r b t tb g1 h1' ar1 u ta) (x := (0 : Int32)) (q_r hQ) (by decide)
  rw [q_up hQ] at ff
  have T2 : TG u ta (tbS v) cd := hT.same (tbS_Q v).T h0 (fun s hs => (hI.sch s hs).2.2.2.1)
  have y1 : tbS v 1 = v 1 := tbS_Q v 1 (by omega)
  obtain ⟨g2, h2', ar2, T3, q2, R2, X2⟩ := lp 160 1 FU g1 h1' ar1 (fun k => if k < 40 then 0 else T k) (tbS v, fun _ => none) (fun _ => 0) R1 T2 (tbS_Inv hI) (fun c hc => if_pos (by have : c < tbS v 1 := hc; omega)) (fun _ => Nat.zero_le _) (by omega) (FU_pos (by omega))
  refine ⟨g2, h2', ar2, T3, ?_, R2, fun c hc => X2 c (by show c < tbS v 1; omega)⟩
  unfold p_X0_run
  rw [fv_isC, bS, q1, bS, q_0 hQ, bS, ff, bS]
  exact q2
end CK
