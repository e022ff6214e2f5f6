/-! undo, saveState, restoreState -/
section ST
variable {z : Nat} {M : Mem} {v : Nat → Nat} {pl : Nat → Option Nat} {nm : Nat → Nat} {H : Nat → rowT} {n sv : Nat} {S : rowT} {inp : Nat → Nat} {len ec : Nat} {eo : Int32} {out : Nat → Nat} {ol : Nat}
/-- neither the class's own cell nor the roll that is used nor the saved one -/
def kp2 (z rn bn x : Nat) : Prop := x ≠ z ∧ ¬ (x = rn ∨ (bn ≤ x ∧ x < bn + 9)) ∧ ¬ (z + 69 ≤ x ∧ x < z + 79)
theorem kp2_all {rn bn tn tbn rr br tr tbr : Nat} (hW : WHR z rn bn tn tbn rr br tr tbr) : (∀ x, x = rr ∨ (br ≤ x ∧ x < br + 9) → kp2 z rn bn x) ∧ (∀ x, x = tr ∨ (tbr ≤ x ∧ x < tbr + 10) → kp2 z rn bn x) ∧ (∀ x, x = tn ∨ (tbn ≤ x ∧ x < tbn + 10) → kp2 z rn bn x) ∧ (∀ x, z + 49 ≤ x ∧ x < z + 69 → kp2 z rn bn x) ∧ (∀ x, z + 79 ≤ x → kp2 z rn bn x) ∧ kp2 z rn bn (z + 1) ∧ kp2 z rn bn (z + 2) ∧ kp2 z rn bn (z + 24) ∧ kp2 z rn bn (z + 25) ∧ kp2 z rn bn (z + 26) ∧ kp2 z rn bn (z + 27) := by
  unfold kp2
  unfold WHR at hW
  rcases hW with ⟨w1, w2, w3, w4, w5, w6, w7, w8⟩ | ⟨w1, w2, w3, w4, w5, w6, w7, w8⟩
  · subst w1 w2 w3 w4 w5 w6 w7 w8
    exact ⟨fun x hx => by omega, fun x hx => by omega, fun x hx => by omega, fun x hx => by omega, fun x hx => by omega, by omega, by omega, by omega, by omega, by omega, by omega⟩
  · subst w1 w2 w3 w4 w5 w6 w7 w8
    exact ⟨fun x hx => by omega, fun x hx => by omega, fun x hx => by omega, fun x hx => by omega, fun x hx => by omega, by omega, by omega, by omega, by omega, by omega, by omega⟩
theorem in4959 {x k : Nat} (h1 : 49 ≤ k) (h2 : k ≤ 59) (hx : x = z + k ∨ (z + (k + 1) ≤ x ∧ x < z + (k + 1) + 9)) : z + 49 ≤ x ∧ x < z + 69 := by omega
theorem ge79 {x k : Nat} (hx : x = z + 80 + 10 * k ∨ (z + 81 + 10 * k ≤ x ∧ x < z + 81 + 10 * k + 9)) : z + 79 ≤ x := by omega
theorem cl_st {N : Mem} (hC : CL0 z N v pl nm H n sv S inp len ec eo out ol) : ∃ rn bn tn tbn rr br tr tbr hn', WHR z rn bn tn tbn rr br tr tbr ∧ N z = some (.inr (5, flX z rn sv hn' n)) ∧ hn' < 10 ∧ (∃ f : Nat → Option Nat, N (z + 79) = some (.inl (4, 10, .inr (.inr (.inr (.inr f))))) ∧ ∀ k, k < 10 → f k = some (z + 80 + 10 * k)) ∧
    (∀ k, k < 10 → ∃ t g h ar, RC N (z + 80 + 10 * k) (z + 81 + 10 * k) t g h ar ∧ ∀ j, j < n → (hn' + 10 - n + j) % 10 = k → t = tn ∧ RG g h ar (H j).1 (H j).2) ∧
    (∃ t g h ar, RC N (z + 69) (z + 70) t g h ar ∧ (sv = 1 → t = tn ∧ RG g h ar S.1 S.2)) ∧ ∃ g h ar u ta, RC N rn bn tn g h ar ∧ TC N tn tbn u ta ∧ RG g h ar v pl ∧ TG u ta v (cdS nm) ∧
    ∀ N' g' h' ar' v' pl' hn'' n'' sv'' S'' H'', (∀ x, kp2 z rn bn x → N' x = N x) → RC N' rn bn tn g' h' ar' → RG g' h' ar' v' pl' → TG u ta v' (cdS nm) → N' z = some (.inr (5, flX z rn sv'' hn'' n'')) → hn'' < 10 →
      (∃ t g h ar, RC N' (z + 69) (z + 70) t g h ar ∧ (sv'' = 1 → t = tn ∧ RG g h ar S''.1 S''.2)) →
      (∀ j, j < n'' → ∃ j0, j0 < n ∧ (hn' + 10 - n + j0) % 10 = (hn'' + 10 - n'' + j) % 10 ∧ H'' j = H j0) →
      CL0 z N' v' pl' nm H'' n'' sv'' S'' inp len ec eo out ol := by
  obtain ⟨rn, bn, tn, tbn, rr, br, tr, tbr, hn', hW, hX, ⟨g, h, ar, u, ta, q1, q2, q3, q4⟩, ⟨t5, g5, h5, a5, r5⟩, ⟨t6, g6, h6, a6, r6⟩, q7, ⟨q8, f, q9, q10⟩, q11, ⟨T, q12a, q12b⟩, ⟨bt, q13a, q13b, q13c⟩, ⟨qq, w, tx, q14a, q14b, q14c⟩, gg, hh2, aa, uu, tt, r15, r16⟩ := hC
  refine ⟨rn, bn, tn, tbn, rr, br, tr, tbr, hn', hW, hX, q8, ⟨f, q9, q10⟩, q11, q7, g, h, ar, u, ta, q1, q2, q3, q4, fun N' g' h' ar' v' pl' hn'' n'' sv'' S'' H'' hk hin R' T' hz hh hs hH => ?_⟩
  obtain ⟨k1, k2, k3, k4, k5, k6, k7, k8, k9, k10, k11⟩ := kp2_all hW
  have c49 : ∀ x, (x = z + 49 ∨ (z + 50 ≤ x ∧ x < z + 50 + 9)) → N' x = N x := fun x hx => hk x (k4 x (in4959 (k := 49) (by decide) (by decide) hx))
  have c59 : ∀ x, (x = z + 59 ∨ (z + 60 ≤ x ∧ x < z + 60 + 9)) → N' x = N x := fun x hx => hk x (k4 x (in4959 (k := 59) (by decide) (by decide) hx))
  refine ⟨rn, bn, tn, tbn, rr, br, tr, tbr, hn'', hW, hz, ⟨g', h', ar', u, ta, hin, q2.kp (fun x hx => hk x (k3 x hx)), R', T'⟩, ⟨t5, g5, h5, a5, r5.kp c49⟩, ⟨t6, g6, h6, a6, r6.kp c59⟩, hs, ⟨hh, f, (hk _ (k5 _ (Nat.le_refl _))).trans q9, q10⟩, fun k hk10 => ?_, ⟨T, (hk _ k8).trans q12a, (hk _ k9).trans q12b⟩, ⟨bt, (hk _ k10).trans q13a, (hk _ k11).trans q13b, q13c⟩, ⟨qq, w, tx, (hk _ k6).trans q14a, (hk _ k7).trans q14b, q14c⟩, ⟨gg, hh2, aa, uu, tt, r15.kp (fun x hx => hk x (k1 x hx)), r16.kp (fun x hx => hk x (k2 x hx))⟩⟩
  obtain ⟨t1, g1, h1, a1, s1, s2⟩ := q11 k hk10
  refine ⟨t1, g1, h1, a1, s1.kp (fun x hx => hk x (k5 x (ge79 hx))), fun j hj hr => ?_⟩
  obtain ⟨j0, a1, a2, a3⟩ := hH j hj
  rw [a3]
  exact s2 j0 a1 (a2.trans hr)
theorem cpF_enc {f : Nat → Int32} {sp : Nat} {v' : Nat → Nat} {pl' : Nat → Option Nat} (hZ : ∀ i, 764 ≤ i → v i = 0) (hZ' : ∀ i, 764 ≤ i → v' i = 0) (h : ∀ i, i < 764 → f (sp + i) = enc v' pl' i) : cpF f (enc v pl) sp 0 764 = enc v' pl' := by
  funext i
  unfold cpF
  by_cases c : 0 ≤ i ∧ i < 0 + 764
  · rw [if_pos c, show i - 0 = i by omega]; exact h i (by omega)
  · rw [if_neg c, enc_v (by omega), enc_v (by omega), hZ i (by omega), hZ' i (by omega)]
theorem pur_set (hP : PUR v pl nm H n sv S inp len out ol) {x : rowT} (hx : OKR v x) {n' sv' : Nat} {H' : Nat → rowT} {S' : rowT} (hn : n' ≤ 10) (hs : sv' ≤ 1) (hH : ∀ j, j < n' → OKR v (H' j)) (hS : sv' = 1 → OKR v S') : PUR x.1 x.2 nm H' n' sv' S' inp len out ol := by
  obtain ⟨p1, p2, p3, p4, p5, p6, p7, p8, p9, p10⟩ := hP
  have mv : ∀ y, OKR v y → OKR x.1 y := fun y hy => ⟨hy.1, hy.2.1, hy.2.2.1, hx.2.2.2.sy.t hy.2.2.2⟩
  exact ⟨⟨hx.1, hx.2.1, hx.2.2.1, sameT.r _⟩, hn, hs, fun j hj => mv _ (hH j hj), fun e => mv _ (hS e), p6, p7, p8, p9, by rw [hx.2.2.2 0 (Or.inl rfl)]; exact p10⟩
theorem upM_o {q y : Nat} {e : mE} (h : y ≠ q) : upM M q e y = M y := if_neg h
theorem ch_undo (hP : PUR v pl nm H n sv S inp len out ol) (hC : CL0 z (rst M z) v pl nm H n sv S inp len ec eo out ol) : ∃ val M1, p_X6_undo z M = some (val, M1) ∧ CGw z M v pl nm H n sv S inp len ec eo out ol val M1 (fun M => p_X7_undo (z + 180) M) := by
  have hn10 : n ≤ 10 := hP.2.1
  obtain ⟨rn, bn, tn, tbn, rr, br, tr, tbr, hn', hW, hX, hh, ⟨f, q9, q10⟩, q11, q7, g, h, ar, u, ta, q1, q2, q3, q4, put⟩ := cl_st hC
  have hXM : M z = some (.inr (5, flX z rn sv hn' n)) := by rw [← rst_in (M := M) (z := z) (a := z) (by omega)]; exact hX
  have q9M : M (z + 79) = some (.inl (4, 10, .inr (.inr (.inr (.inr f))))) := by rw [← rst_in (M := M) (z := z) (a := z + 79) (by omega)]; exact q9
  by_cases c : n = 0
  · refine ⟨-1, M, ?_, cgw_q hP hC (fun B g a hF => ?_)⟩
    · unfold p_X6_undo gI gV; rw [hXM]; show Option.bind (some (nN n)) _ = _; rw [bS, c, if_pos (by rfl)]
    · show p_X7_undo _ _ = _
      unfold p_X7_undo
      rw [show (0 : Int32) = nN 0 from rfl, op_9, bS, oi_5, bS, pk_un (by decide), hF.1.1, c, if_pos rfl]
  · obtain ⟨h9, e9, m9, s9⟩ : ∃ h9, h9 < 10 ∧ (h9 + 1) % 10 = hn' ∧ (if nN hn' = (0 : Int32) then (9 : Int32) else nN hn' - (1 : Int32)) = nN h9 := by
      by_cases d : hn' = 0
      · exact ⟨9, by omega, by omega, by rw [d]; rfl⟩
      · exact ⟨hn' - 1, by omega, by omega, by rw [if_neg (show ¬ nN hn' = (0 : Int32) from neq_f (b := 0) (by omega) (by omega) d)]; exact nN_subN (a := hn') (b := 1) (by omega)⟩
    obtain ⟨t2, g2, h2, ar2, s1, s2⟩ := q11 h9 e9
    obtain ⟨et, R2⟩ := s2 (n - 1) (by omega) (by omega)
    have hO : OKR v (H (n - 1)) := hP.2.2.2.1 (n - 1) (by omega)
    have hl : (z < rn ∧ rn < z + 180) ∧ (z < bn ∧ bn + 9 ≤ z + 180) ∧ AP rn bn (z + 80 + 10 * h9) (z + 81 + 10 * h9) := by
      unfold WHR at hW; unfold AP
      rcases hW with hW | hW <;> omega
    obtain ⟨l1, l2, l3⟩ := hl
    have q1M := q1.up ⟨by omega, l1.2⟩ ⟨by omega, l2.2⟩
    have s1M := s1.up (by omega) (by omega)
    have q1M2 : RC (upM M z (.inr (5, flX z rn sv h9 (n - 1)))) rn bn tn g h ar := q1M.kp (fun x hx => upM_o (by clear q1M s1M q11; omega))
    have s1M2 : RC (upM M z (.inr (5, flX z rn sv h9 (n - 1)))) (z + 80 + 10 * h9) (z + 81 + 10 * h9) t2 g2 h2 ar2 := s1M.kp (fun x hx => upM_o (by clear q1M s1M q11; omega))
    obtain ⟨g3, h3, ar3, e3, R3⟩ := c_copyFrom (t := tn) (g := g) (h := h) (ar := ar) l3 s1M2 R2 hO.1
    rw [← q1M2.eq] at e3
    have hz3 : ovr (upM M z (.inr (5, flX z rn sv h9 (n - 1)))) rn bn t2 g3 h3 ar3 z = some (.inr (5, flX z rn sv h9 (n - 1))) := by
      rw [ovr_o _ _ _ _ _ _ _ (by unfold oR; omega)]; exact upM_at
    have ho3 : ∀ x, x ≠ z → ¬ (x = rn ∨ (bn ≤ x ∧ x < bn + 9)) → ovr (upM M z (.inr (5, flX z rn sv h9 (n - 1)))) rn bn t2 g3 h3 ar3 x = M x := fun x x1 x2 => by
      rw [ovr_o _ _ _ _ _ _ _ (by unfold oR; exact nOR x2)]; exact upM_o x1
    refine ⟨nN (n - 1), _, ?_, (H (n - 1)).1, (H (n - 1)).2, nm, H, n - 1, sv, S, inp, len, ec, eo, out, ol, pur_set hP hO (by omega) hP.2.2.1 (fun j hj => hP.2.2.2.1 j (by omega)) hP.2.2.2.2.1, ?_, fun x hx => ho3 x (by omega) (n180 hx ⟨by omega, l1.2⟩ ⟨by omega, l2.2⟩), ?_⟩
    rotate_left
    · refine put _ g3 h3 ar3 _ _ h9 (n - 1) sv S H (fun x hx => ?_) ?_ R3 ?_ ?_ e9 ?_ (fun j hj => ⟨j, by omega, by omega, rfl⟩)
      · unfold rst
        by_cases d : z ≤ x ∧ x < z + 180
        · rw [if_pos d, if_pos d]; exact ho3 x hx.1 hx.2.1
        · rw [if_neg d, if_neg d]
      · rw [et]; exact ⟨(rst_in ⟨by omega, l1.2⟩).trans (ovr_r _ _ _ _ _ _ _), fun j hj => (rst_in (in180 ⟨by omega, l2.2⟩ hj)).trans (ovr_a _ _ _ _ _ _ _ (by unfold AP at l3; omega) hj)⟩
      · exact q4.same hO.2.2.2 hP.1.1.h0 (fun s hs => (hP.1.1.sch s hs).2.2.2.1)
      · rw [rst_in (by omega)]; exact hz3
      · obtain ⟨t7, g7, h7, a7, r7, r7'⟩ := q7
        refine ⟨t7, g7, h7, a7, r7.kp (fun x hx => ?_), r7'⟩
        have hx2 : x ≠ z ∧ ¬ (x = rn ∨ (bn ≤ x ∧ x < bn + 9)) := by
          unfold WHR at hW
          rcases hW with hW | hW <;> omega
        unfold rst
        by_cases d : z ≤ x ∧ x < z + 180
        · rw [if_pos d, if_pos d]; exact ho3 x hx2.1 hx2.2
        · rw [if_neg d, if_neg d]
    · intro B g a hF
      refine ⟨upd (upd g 9 (nN 0)) 5 (nN (n - 1)), a, ?_, ?_⟩
      · show p_X7_undo _ _ = _
        unfold p_X7_undo
        have ec := e_copies (B := B) (m := z + 180) (g := upd (upd g 9 (nN 0)) 5 (nN (n - 1))) (a := up2 a 1 (enc v pl)) (j0 := 5) (j1 := 1) (sp := 764 * (n - 1)) (dp := 0) (n := 764) (by omega) (by omega) (by omega) (by show 764 * (n - 1) + 764 ≤ 7640; omega) (by show 0 + 764 ≤ 764; omega)
        rw [up2_n (by decide), up2_s, up2_up2, cpF_enc hP.1.2.1 hO.2.1 (fun i hi => hF.2.1 (n - 1) (by omega) i hi)] at ec
        have em : nN n - (1 : Int32) = nN (n - 1) := nN_subN (a := n) (b := 1) (by omega)
        rw [show (0 : Int32) = nN 0 from rfl, op_9, bS, oi_5, bS, pk_un (by decide), hF.1.1, if_neg (neq_f (by omega) (by omega) c), bS, em, op_5, bS, or_4, bS, oi_5, bS, pk_us, or_0, bS, show (764 : Int32) = nN 764 from rfl, nN_mul, ec, bS, oi_5, bS, pk_us]
      · obtain ⟨⟨f1, f2, f3, f4, f5, f6⟩, f7, f8, f9, f10, f11⟩ := hF.g9 (c := nN 0)
        exact ⟨⟨pk_us, by rw [pk_un (by decide)]; exact f2, by rw [pk_un (by decide)]; exact f3, by rw [pk_un (by decide)]; exact f4, by rw [pk_un (by decide)]; exact f5, by rw [pk_un (by decide)]; exact f6⟩, fun k hk i hi => f7 k (by omega) i hi, f8, f9, f10, f11⟩
    · have p1 : sV 5 9 M z (.int (nN h9)) = some (upM M z (.inr (5, flX z rn sv h9 n))) := fx_put hXM (show 9 < 11 by decide)
      have p2 : sV 5 10 (upM M z (.inr (5, flX z rn sv h9 n))) z (.int (nN (n - 1))) = some (upM (upM M z (.inr (5, flX z rn sv h9 n))) z (.inr (5, flX z rn sv h9 (n - 1)))) := fx_put (fs := flX z rn sv h9 n) upM_at (show 10 < 11 by decide)
      have p3 : upM (upM M z (.inr (5, flX z rn sv h9 n))) z (.inr (5, flX z rn sv h9 (n - 1))) = upM M z (.inr (5, flX z rn sv h9 (n - 1))) := by
        funext x; unfold upM; by_cases c : x = z
        · rw [if_pos c, if_pos c]
        · rw [if_neg c, if_neg c, if_neg c]
      rw [p3] at p2
      have aM : ∀ s, upM M z (.inr (5, flX z rn sv h9 s)) z = some (.inr (5, flX z rn sv h9 s)) := fun s => upM_at
      have o1 : gI 5 10 M z = some (nN n) := by unfold gI gV; rw [hXM]; rfl
      have o2 : gI 5 9 M z = some (nN hn') := by unfold gI gV; rw [hXM]; rfl
      have o3 : gI 5 10 (upM M z (.inr (5, flX z rn sv h9 n))) z = some (nN n) := by unfold gI gV; rw [aM]; rfl
      have o4 : gR 5 3 (upM M z (.inr (5, flX z rn sv h9 (n - 1)))) z = some rn := by unfold gR gV; rw [aM]; rfl
      have o5 : gR 5 8 (upM M z (.inr (5, flX z rn sv h9 (n - 1)))) z = some (z + 79) := by unfold gR gV; rw [aM]; rfl
      have o6 : gI 5 9 (upM M z (.inr (5, flX z rn sv h9 (n - 1)))) z = some (nN h9) := by unfold gI gV; rw [aM]; rfl
      have o7 : aR (upM M z (.inr (5, flX z rn sv h9 (n - 1)))) (z + 79) (nN h9) = some (z + 80 + 10 * h9) := by
        unfold aR; rw [upM_o (by omega), q9M]
        have n1 := nN_neg0 (n := h9) (by omega)
        have n2 := nN_clamp (n := h9) (by omega)
        simp only [n2]
        rw [if_pos ⟨trivial, fun y => by rcases y with y | y; exact n1 y; omega⟩]
        exact q10 h9 e9
      have o8 : isC 2 (upM M z (.inr (5, flX z rn sv h9 (n - 1)))) rn = some () := by unfold isC; rw [q1M2.1]; rfl
      have o9 : gI 5 10 (ovr (upM M z (.inr (5, flX z rn sv h9 (n - 1)))) rn bn t2 g3 h3 ar3) z = some (nN (n - 1)) := by unfold gI gV; rw [hz3]; rfl
      have em : nN n - (1 : Int32) = nN (n - 1) := nN_subN (a := n) (b := 1) (by omega)
      unfold p_X6_undo
      rw [o1, bS, if_neg (show ¬ nN n = (0 : Int32) from neq_f (b := 0) (by omega) (by omega) c), o2, bS, jn_def]
      by_cases d : nN hn' = (0 : Int32)
      · rw [if_pos d] at s9 ⊢
        rw [s9]
        show Option.bind (sV 5 9 M z (.int (nN h9))) _ = _
        rw [p1, bS, o3, bS, em, p2, bS, o4, bS, o5, bS, o6, bS, o7, bS, o8, bS, e3, bS, o9, bS]
      · rw [if_neg d] at s9 ⊢
        rw [bS, s9]
        show Option.bind (sV 5 9 M z (.int (nN h9))) _ = _
        rw [p1, bS, o3, bS, em, p2, bS, o4, bS, o5, bS, o6, bS, o7, bS, o8, bS, e3, bS, o9, bS]
theorem ch_save (hP : PUR v pl nm H n sv S inp len out ol) (hC : CL0 z (rst M z) v pl nm H n sv S inp len ec eo out ol) : ∃ M1, p_X6_saveState z M = some (nN (v 1), M1) ∧ CGw z M v pl nm H n sv S inp len ec eo out ol (nN (v 1)) M1 (fun M => p_X7_saveState (z + 180) M) := by
  have hn10 : n ≤ 10 := hP.2.1
  have hI : Inv v pl := hP.1.1
  obtain ⟨rn, bn, tn, tbn, rr, br, tr, tbr, hn', hW, hX, hh, ⟨f, q9, q10⟩, q11, ⟨t7, g7, h7, a7, r7, r7'⟩, g, h, ar, u, ta, q1, q2, q3, q4, put⟩ := cl_st hC
  have hXM : M z = some (.inr (5, flX z rn sv hn' n)) := by rw [← rst_in (M := M) (z := z) (a := z) (by omega)]; exact hX
  have hl : (z < rn ∧ rn < z + 49) ∧ (z < bn ∧ bn + 9 < z + 69) ∧ AP (z + 69) (z + 70) rn bn := by
    unfold WHR at hW; unfold AP
    rcases hW with hW | hW <;> omega
  obtain ⟨l1, l2, l3⟩ := hl
  have q1M := q1.up (M := M) (z := z) ⟨by omega, by omega⟩ ⟨by omega, by omega⟩
  have r7M := r7.up (M := M) (z := z) (by omega) (by omega)
  obtain ⟨g3, h3, ar3, e3, R3⟩ := c_copyFrom (t := t7) (g := g7) (h := h7) (ar := a7) l3 q1M q3 hI
  rw [← r7M.eq] at e3
  have ho : ∀ x, ¬ (z + 69 ≤ x ∧ x < z + 79) → ovr M (z + 69) (z + 70) tn g3 h3 ar3 x = M x := fun x hx => by
    rw [ovr_o _ _ _ _ _ _ _ (by unfold oR; omega)]
  have ho5 : ∀ x, x ≠ z → ¬ (z + 69 ≤ x ∧ x < z + 79) → upM (ovr M (z + 69) (z + 70) tn g3 h3 ar3) z (.inr (5, flX z rn 1 hn' n)) x = M x := fun x h1 h2 => (upM_o h1).trans (ho x h2)
  have hk5 : ∀ x, x ≠ z → ¬ (z + 69 ≤ x ∧ x < z + 79) → rst (upM (ovr M (z + 69) (z + 70) tn g3 h3 ar3) z (.inr (5, flX z rn 1 hn' n))) z x = rst M z x := fun x h1 h2 => by
    unfold rst
    by_cases d : z ≤ x ∧ x < z + 180
    · rw [if_pos d, if_pos d]; exact ho5 x h1 h2
    · rw [if_neg d, if_neg d]
  refine ⟨upM (ovr M (z + 69) (z + 70) tn g3 h3 ar3) z (.inr (5, flX z rn 1 hn' n)), ?_, v, pl, nm, H, n, 1, (v, pl), inp, len, ec, eo, out, ol, pur_set hP hP.1 hn10 (by omega) hP.2.2.2.1 (fun _ => hP.1), ?_, fun x hx => ho5 x (by omega) (by omega), fun B g a hF => ?_⟩
  · have o1 : gR 5 6 M z = some (z + 69) := by unfold gR gV; rw [hXM]; rfl
    have o2 : gR 5 3 M z = some rn := by unfold gR gV; rw [hXM]; rfl
    have o3 : isC 2 M (z + 69) = some () := by unfold isC; rw [r7M.1]; rfl
    have o4 : sZ 5 7 (ovr M (z + 69) (z + 70) tn g3 h3 ar3) z (1 : Int32) = some (upM (ovr M (z + 69) (z + 70) tn g3 h3 ar3) z (.inr (5, flX z rn 1 hn' n))) := by
      unfold sZ
      rw [if_pos (Or.inr rfl)]
      exact fx_put (fs := flX z rn sv hn' n) (k := 7) (x := .int (nN 1)) ((ho z (by omega)).trans hXM) (show 7 < 11 by decide)
    have o5 : gR 5 3 (upM (ovr M (z + 69) (z + 70) tn g3 h3 ar3) z (.inr (5, flX z rn 1 hn' n))) z = some rn := by unfold gR gV; rw [upM_at]; rfl
    have o6 : gI 2 1 (upM (ovr M (z + 69) (z + 70) tn g3 h3 ar3) z (.inr (5, flX z rn 1 hn' n))) rn = some (nN (v 1)) := by
      unfold gI gV; rw [ho5 rn (by omega) (by omega), q1M.1, ← q3.g1]; rfl
    unfold p_X6_saveState
    rw [o1, bS, o2, bS, o3, bS, e3, bS, o4, bS, o5, bS, o6, bS]
  · refine put _ g h ar v pl hn' n 1 (v, pl) H (fun x hx => hk5 x hx.1 hx.2.2) (q1.kp (fun x hx => hk5 x ?_ ?_)) q3 q4 ?_ hh ⟨tn, g3, h3, ar3, ⟨?_, fun j hj => ?_⟩, fun _ => ⟨rfl, R3⟩⟩ (fun j hj => ⟨j, hj, rfl, rfl⟩)
    · clear q11 put; omega
    · clear q11 put; omega
    · rw [rst_in (by omega)]; exact upM_at
    · rw [rst_in (by omega), upM_o (by omega)]; exact ovr_r _ _ _ _ _ _ _
    · rw [rst_in (by omega), upM_o (by omega)]; exact ovr_a _ _ _ _ _ _ _ (by omega) hj
  · refine ⟨upd (upd g 9 (nN 0)) 6 (nN 1), up2 a 4 (cpF (enc v pl) (a 4) 0 0 764), ?_, ?_⟩
    · show p_X7_saveState _ _ = _
      unfold p_X7_saveState
      have ec := e_copies (B := B) (m := z + 180) (g := upd g 9 (nN 0)) (a := up2 a 1 (enc v pl)) (j0 := 1) (j1 := 4) (sp := 0) (dp := 0) (n := 764) (by omega) (by omega) (by omega) (by show 0 + 764 ≤ 764; omega) (by show 0 + 764 ≤ 764; omega)
      rw [up2_s, up2_n (by decide), up2_sw (by decide)] at ec
      have o4 : sZ 6 6 (ovl B (z + 180) (upd g 9 (nN 0)) (up2 (up2 a 4 (cpF (enc v pl) (a 4) 0 0 764)) 1 (enc v pl))) (z + 180) (1 : Int32) = some (ovl B (z + 180) (upd (upd g 9 (nN 0)) 6 (nN 1)) (up2 (up2 a 4 (cpF (enc v pl) (a 4) 0 0 764)) 1 (enc v pl))) := by
        unfold sZ; rw [if_pos (Or.inr rfl)]; exact op_6 _ _ _ _ _
      rw [show (0 : Int32) = nN 0 from rfl, op_9, bS, or_0, bS, or_3, bS, show (764 : Int32) = nN 764 from rfl, ec, bS, o4, bS, or_0, bS, show (1 : Int32) = nN 1 from rfl, er_v (by omega) (by omega), bS]
    · obtain ⟨⟨f1, f2, f3, f4, f5, f6⟩, f7, f8, f9, f10, f11⟩ := hF.g9 (c := nN 0)
      refine ⟨⟨by rw [pk_un (by decide)]; exact f1, pk_us, by rw [pk_un (by decide)]; exact f3, by rw [pk_un (by decide)]; exact f4, by rw [pk_un (by decide)]; exact f5, by rw [pk_un (by decide)]; exact f6⟩, f7, fun _ i hi => ?_, f9, f10, f11⟩
      rw [up2_s]
      unfold cpF
      rw [if_pos (by omega)]
      show enc v pl (0 + (i - 0)) = enc v pl i
      rw [show 0 + (i - 0) = i by omega]
theorem ch_restore (hP : PUR v pl nm H n sv S inp len out ol) (hC : CL0 z (rst M z) v pl nm H n sv S inp len ec eo out ol) (hs1 : sv = 1) : ∃ M1, p_X6_restoreState z M = some (.inl (nN (S.1 1), M1)) ∧ CGv z M v pl nm H n sv S inp len ec eo out ol (nN (S.1 1)) M1 (fun M => p_X7_restoreState (z + 180) M) := by
  have hO : OKR v S := hP.2.2.2.2.1 hs1
  obtain ⟨rn, bn, tn, tbn, rr, br, tr, tbr, hn', hW, hX, hh, ⟨f, q9, q10⟩, q11, ⟨t7, g7, h7, a7, r7, r7'⟩, g, h, ar, u, ta, q1, q2, q3, q4, put⟩ := cl_st hC
  obtain ⟨et, R7⟩ := r7' hs1
  have hXM : M z = some (.inr (5, flX z rn sv hn' n)) := by rw [← rst_in (M := M) (z := z) (a := z) (by omega)]; exact hX
  have hl : (z < rn ∧ rn < z + 49) ∧ (z < bn ∧ bn + 9 < z + 69) ∧ AP rn bn (z + 69) (z + 70) := by
    unfold WHR at hW; unfold AP
    rcases hW with hW | hW <;> omega
  obtain ⟨l1, l2, l3⟩ := hl
  have q1M := q1.up (M := M) (z := z) ⟨by omega, by omega⟩ ⟨by omega, by omega⟩
  have r7M := r7.up (M := M) (z := z) (by omega) (by omega)
  obtain ⟨g3, h3, ar3, e3, R3⟩ := c_copyFrom (t := tn) (g := g) (h := h) (ar := ar) l3 r7M R7 hO.1
  rw [← q1M.eq] at e3
  have ho : ∀ x, ¬ (x = rn ∨ (bn ≤ x ∧ x < bn + 9)) → ovr M rn bn t7 g3 h3 ar3 x = M x := fun x hx => by
    rw [ovr_o _ _ _ _ _ _ _ (by unfold oR; exact nOR hx)]
  have ho5 : ∀ x, x ≠ z → ¬ (x = rn ∨ (bn ≤ x ∧ x < bn + 9)) → upM (ovr M rn bn t7 g3 h3 ar3) z (.inr (5, flX z rn sv hn' 0)) x = M x := fun x h1 h2 => (upM_o h1).trans (ho x h2)
  have hk5 : ∀ x, x ≠ z → ¬ (x = rn ∨ (bn ≤ x ∧ x < bn + 9)) → rst (upM (ovr M rn bn t7 g3 h3 ar3) z (.inr (5, flX z rn sv hn' 0))) z x = rst M z x := fun x h1 h2 => by
    unfold rst
    by_cases d : z ≤ x ∧ x < z + 180
    · rw [if_pos d, if_pos d]; exact ho5 x h1 h2
    · rw [if_neg d, if_neg d]
  refine ⟨upM (ovr M rn bn t7 g3 h3 ar3) z (.inr (5, flX z rn sv hn' 0)), ?_, S.1, S.2, H, 0, sv, S, pur_set hP hO (by omega) hP.2.2.1 (fun j hj => absurd hj (by omega)) hP.2.2.2.2.1, ?_, fun x hx => ho5 x (by omega) (n180 hx ⟨by omega, by omega⟩ ⟨by omega, by omega⟩), fun B g a hF => ?_⟩
  · have o0 : gI 5 7 M z = some (nN sv) := by unfold gI gV; rw [hXM]; rfl
    have o1 : gR 5 6 M z = some (z + 69) := by unfold gR gV; rw [hXM]; rfl
    have o2 : gR 5 3 M z = some rn := by unfold gR gV; rw [hXM]; rfl
    have o3 : isC 2 M rn = some () := by unfold isC; rw [q1M.1]; rfl
    have o4 : sV 5 10 (ovr M rn bn t7 g3 h3 ar3) z (.int (0 : Int32)) = some (upM (ovr M rn bn t7 g3 h3 ar3) z (.inr (5, flX z rn sv hn' 0))) :=
      fx_put (fs := flX z rn sv hn' n) (k := 10) (x := .int (nN 0)) ((ho z (by omega)).trans hXM) (show 10 < 11 by decide)
    have o5 : gR 5 3 (upM (ovr M rn bn t7 g3 h3 ar3) z (.inr (5, flX z rn sv hn' 0))) z = some rn := by unfold gR gV; rw [upM_at]; rfl
    have o6 : gI 2 1 (upM (ovr M rn bn t7 g3 h3 ar3) z (.inr (5, flX z rn sv hn' 0))) rn = some (nN (S.1 1)) := by
      unfold gI gV; rw [upM_o (by omega), ovr_r, ← R3.g1]; rfl
    unfold p_X6_restoreState
    rw [o0, bS, hs1, if_neg (by decide), o2, bS, o1, bS, o3, bS, e3, bS]
    rw [hs1] at o4 o5 o6
    rw [o4, bS, o5, bS, o6, bS]
  · refine put _ g3 h3 ar3 S.1 S.2 hn' 0 sv S H (fun x hx => hk5 x hx.1 hx.2.1) ⟨?_, fun j hj => ?_⟩ R3 ?_ ?_ hh ⟨t7, g7, h7, a7, r7.kp (fun x hx => hk5 x ?_ ?_), r7'⟩ (fun j hj => absurd hj (by omega))
    · rw [rst_in ⟨by omega, by omega⟩, upM_o (by omega), ← et]; exact ovr_r _ _ _ _ _ _ _
    · rw [rst_in (in180 ⟨by omega, by omega⟩ hj), upM_o (by omega)]; exact ovr_a _ _ _ _ _ _ _ (by unfold AP at l3; omega) hj
    · exact q4.same hO.2.2.2 hP.1.1.h0 (fun s hs => (hP.1.1.sch s hs).2.2.2.1)
    · rw [rst_in (by omega)]; exact upM_at
    · clear q11 put; omega
    · clear q11 put; unfold AP at l3; omega
  · refine ⟨upd (upd g 9 (nN 0)) 5 (nN 0), a, ?_, ?_, ?_⟩
    · show p_X7_restoreState _ _ = _
      unfold p_X7_restoreState
      simp only [jn_def]
      have ec := e_copies (B := B) (m := z + 180) (g := upd g 9 (nN 0)) (a := up2 a 1 (enc v pl)) (j0 := 4) (j1 := 1) (sp := 0) (dp := 0) (n := 764) (by omega) (by omega) (by omega) (by show 0 + 764 ≤ 764; omega) (by show 0 + 764 ≤ 764; omega)
      rw [up2_n (by decide), up2_s, up2_up2, cpF_enc hP.1.2.1 hO.2.1 (fun i hi => by rw [Nat.zero_add]; exact hF.2.2.1 hs1 i hi)] at ec
      rw [show (0 : Int32) = nN 0 from rfl, op_9, bS, oi_6, bS, pk_un (by decide), hF.1.2.1, hs1, if_neg (by decide), oc, bS, fa_0, ob2_def, if_pos rfl, or_3, bS, or_0, bS, show (764 : Int32) = nN 764 from rfl, ec, bS, op_5, bS, or_0, bS, show (1 : Int32) = nN 1 from rfl, er_v (by omega) (by omega), bS]
    · obtain ⟨⟨f1, f2, f3, f4, f5, f6⟩, f7, f8, f9, f10, f11⟩ := hF.g9 (c := nN 0)
      exact ⟨⟨pk_us, by rw [pk_un (by decide)]; exact f2, by rw [pk_un (by decide)]; exact f3, by rw [pk_un (by decide)]; exact f4, by rw [pk_un (by decide)]; exact f5, by rw [pk_un (by decide)]; exact f6⟩, fun k hk => absurd hk (by omega), f8, f9, f10, f11⟩
    · rw [pk_un (by decide)]; exact pk_us
end ST
section KS
variable {L : Nat} {xs : Nat → Int32} {i0 : Int32} {x : Nat → Int32} {z : Nat} {M : Mem}
theorem off_w2 (hO : OFF z M) : ∃ v pl nm H n sv S inp len ec eo out ol, PUR v pl nm H n sv S inp len out ol ∧ CL0 z (rst M z) v pl nm H n sv S inp len ec eo out ol ∧ isC 5 M z = some () ∧ isC 6 M (z + 180) = some () ∧
    (∀ val M1 ref, CGv z M v pl nm H n sv S inp len ec eo out ol val M1 ref → (∃ f, M1 (z + 194) = some (.inl (2, 1, .inr (.inl f)))) ∧ ∀ f, isC 6 (upM M1 (z + 194) (.inl (2, 1, .inr (.inl f)))) (z + 180) = some () ∧ ∃ M2, ref (upM M1 (z + 194) (.inl (2, 1, .inr (.inl f)))) = some (val, M2) ∧ OFF z M2 ∧ isC 6 M2 (z + 180) = some () ∧ p_X7_thrown (z + 180) M2 = some 0 ∧ M2 (z + 194) = some (.inl (2, 1, .inr (.inl f)))) ∧
    (∀ (k : Nat) (y : Int32) (ref : Mem → Option (Int32 × Mem)), (∀ B g a, RFO g a nm H n sv S inp len ec eo out ol → ref (ovl B (z + 180) g (up2 a 1 (enc v pl))) = some (y, ovl B (z + 180) (upd g 9 (nN k)) (up2 a 1 (enc v pl)))) → ∃ M2, ref M = some (y, M2) ∧ OFF z M2 ∧ isC 6 M2 (z + 180) = some () ∧ p_X7_thrown (z + 180) M2 = some (nN k)) := by
  obtain ⟨v, pl, nm, H, n, sv, S, inp, len, ec, eo, out, ol, hP, hC, ⟨B, g, a, hM, hR⟩, ⟨f0, hod⟩, f1, hod2⟩ := hO
  refine ⟨v, pl, nm, H, n, sv, S, inp, len, ec, eo, out, ol, hP, hC, (cl_now hC).1, by rw [hM]; exact oc _ _ _ _, ?_, ?_⟩
  · rintro val M1 ref ⟨v', pl', H', n', sv', S', p1, p2, p3, p4⟩
    have e1 : M1 = ovl M1 (z + 180) g (up2 a 1 (enc v pl)) := ovl_re (B := B) (fun x x1 x2 => by rw [← hM]; exact p3 x (by omega))
    have e2 : ∀ e, upM M1 (z + 194) e = ovl (upM M1 (z + 194) e) (z + 180) g (up2 a 1 (enc v pl)) := fun e => by
      conv => lhs; rw [e1]
      exact ovl_up (by omega) e
    refine ⟨⟨f0, (p3 _ (by omega)).trans hod⟩, fun f => ⟨by rw [e2]; exact oc _ _ _ _, ?_⟩⟩
    obtain ⟨g', a', q1, q2, q3⟩ := p4 (upM M1 (z + 194) (.inl (2, 1, .inr (.inl f)))) g a hR
    refine ⟨_, by rw [e2]; exact q1, ?_, oc _ _ _ _, ?_, ?_⟩
    · refine ⟨v', pl', nm, H', n', sv', S', inp, len, ec, eo, out, ol, p1, ?_, ⟨_, g', a', rfl, q2⟩, ⟨f, ?_⟩, f1, ?_⟩
      · rw [rst_eq (M := M1)]
        · exact p2
        · intro x x1 x2
          rw [ovl_o _ _ _ _ (by omega)]
          exact if_neg (by omega)
      · rw [ovl_o _ _ _ _ (by omega)]; exact if_pos rfl
      · rw [ovl_o _ _ _ _ (by omega)]
        exact (if_neg (by omega)).trans ((p3 _ (by omega)).trans hod2)
    · unfold p_X7_thrown; rw [oi_9, bS, q3]; rfl
    · rw [ovl_o _ _ _ _ (by omega)]; exact if_pos rfl
  · intro k y ref hx
    have q1 := hx B g a hR
    refine ⟨_, by rw [hM]; exact q1, ?_, oc _ _ _ _, thr_9⟩
    refine ⟨v, pl, nm, H, n, sv, S, inp, len, ec, eo, out, ol, hP, ?_, ⟨_, _, a, rfl, hR.g9⟩, ⟨f0, ?_⟩, f1, ?_⟩
    · rw [rst_eq (M := M)]
      · exact hC
      · intro x x1 x2
        rw [ovl_o _ _ _ _ (by omega), hM, ovl_o _ _ _ _ (by omega)]
    · rw [ovl_o _ _ _ _ (by omega)]
      rw [hM, ovl_o _ _ _ _ (by omega)] at hod
      exact hod
    · rw [ovl_o _ _ _ _ (by omega)]
      rw [hM, ovl_o _ _ _ _ (by omega)] at hod2
      exact hod2
theorem k_55 (hO : OFF z M) (hx : xIs L xs i0 x) : ∃ M', pk_55 L xs z (z + 180) (z + 194) (z + 195) i0 M = some M' ∧ OFF z M' := by
  obtain ⟨v, pl, nm, H, n, sv, S, inp, len, ec, eo, out, ol, hP, hC, hX, hV⟩ := off_x hO
  obtain ⟨val, M1, e6, hw⟩ := ch_undo hP hC
  obtain ⟨o1, M2, o2, o3, o4⟩ := hV Int32 val M1 _ hw
  exact ⟨M2, by unfold pk_55; rw [hX, bS, e6, ob2_def, o1, bS]; refine Eq.trans (congrArg (fun q => ob2 q _) o2) ?_; rw [ob2_def, if_pos rfl], o3⟩
theorem k_56 (hO : OFF z M) (hx : xIs L xs i0 x) : ∃ M', pk_56 L xs z (z + 180) (z + 194) (z + 195) i0 M = some M' ∧ OFF z M' := by
  obtain ⟨v, pl, nm, H, n, sv, S, inp, len, ec, eo, out, ol, hP, hC, hX, hV⟩ := off_x hO
  obtain ⟨M1, e6, hw⟩ := ch_save hP hC
  obtain ⟨o1, M2, o2, o3, o4⟩ := hV Int32 _ M1 _ hw
  exact ⟨M2, by unfold pk_56; rw [hX, bS, e6, ob2_def, o1, bS]; refine Eq.trans (congrArg (fun q => ob2 q _) o2) ?_; rw [ob2_def, if_pos rfl], o3⟩
theorem k_57 (hO : OFF z M) (hx : xIs L xs i0 x) : ∃ M', pk_57 L xs z (z + 180) (z + 194) (z + 195) i0 M = some M' ∧ OFF z M' := by
  obtain ⟨v, pl, nm, H, n, sv, S, inp, len, ec, eo, out, ol, hP, hC, hX, hX6, hV, hE2⟩ := off_w2 hO
  by_cases hs1 : sv = 1
  · obtain ⟨M1, e6, hv⟩ := ch_restore hP hC hs1
    obtain ⟨⟨f0, hod⟩, hq⟩ := hV _ M1 _ hv
    obtain ⟨o1, M2, o2, o3, o4, o5, o6⟩ := hq (vp_updL f0 0 (Int32.toInt64 (nN (S.1 1))))
    refine ⟨M2, ?_, o3⟩
    have el : p_L_restoreState z (z + 194) M = some (0, upM M1 (z + 194) (.inl (2, 1, .inr (.inl (vp_updL f0 0 (Int32.toInt64 (nN (S.1 1)))))))) := by
      unfold p_L_restoreState
      rw [hX, bS, e6, ctc2_l, aLs_od hod, bS]
    unfold pk_57
    have eL := aL_od o6
    simp only [bS, el, ob2_def, o1, o2, o4, o5, eq_self, if_true, eL, lgc_self]
  · have hs0 : sv = 0 := by have := hP.2.2.1; omega
    have e6 : p_X6_restoreState z M = some (.inr "java/lang/IllegalStateException") := by
      obtain ⟨rn, hn, rr, c1, -⟩ := cl_rw hC
      rw [rst_in (by omega)] at c1
      unfold p_X6_restoreState gI gV
      rw [c1]
      show Option.bind (some (nN sv)) _ = _
      rw [bS, hs0, if_pos (by rfl)]
    have hxx : ∀ B g a, RFO g a nm H n sv S inp len ec eo out ol → p_X7_restoreState (z + 180) (ovl B (z + 180) g (up2 a 1 (enc v pl))) = some (0, ovl B (z + 180) (upd g 9 (nN 1)) (up2 a 1 (enc v pl))) := fun B g a hF => by
      unfold p_X7_restoreState
      simp only [jn_def]
      rw [show (0 : Int32) = nN 0 from rfl, op_9, bS, oi_6, bS, pk_un (by decide), hF.1.2.1, hs0, if_pos rfl, oc, bS, show (1 : Int32) = nN 1 from rfl, fa_1, ob2_def, if_neg (by decide), upd_2]
    obtain ⟨M2, o2, o3, o4, o5⟩ := hE2 1 0 (fun M => p_X7_restoreState (z + 180) M) hxx
    refine ⟨M2, ?_, o3⟩
    have el : p_L_restoreState z (z + 194) M = some (nN 1, M) := by
      unfold p_L_restoreState
      rw [hX, bS, e6, ctc2_r, if_pos rfl]
      rfl
    unfold pk_57
    simp only [bS, el, ob2_def, hX6, o2, o4, o5, eq_self, if_true]
    rw [if_neg (by decide)]
end KS
