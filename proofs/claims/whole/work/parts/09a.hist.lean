/-! the history on both sides; the roll that is used, changed -/
def cpF (f f1 : Nat → Int32) (sp dp n : Nat) : Nat → Int32 := fun k => if dp ≤ k ∧ k < dp + n then f (sp + (k - dp)) else f1 k
theorem cpF_0 {f f1 : Nat → Int32} {sp dp : Nat} : cpF f f1 sp dp 0 = f1 := funext fun k => if_neg (by omega)
theorem cpF_s {f f1 : Nat → Int32} {sp dp k : Nat} : upd (cpF f f1 sp dp k) (dp + k) (f (sp + k)) = cpF f f1 sp dp (k + 1) := by
  funext i
  unfold upd cpF
  by_cases c : i = dp + k
  · rw [if_pos c, if_pos (by omega), show sp + (i - dp) = sp + k by omega]
  · rw [if_neg c]
    by_cases c2 : dp ≤ i ∧ i < dp + k
    · rw [if_pos c2, if_pos (by omega)]
    · rw [if_neg c2, if_neg (by omega)]
theorem ln7_le (j : Nat) : ln7 j ≤ 7640 := by unfold ln7; split <;> decide
section CPY
variable {B : Mem} {m : Nat} {g : Nat → Int32} {a : Nat → Nat → Int32} {v : Nat → Nat} {pl : Nat → Option Nat}
theorem e_copies {j0 j1 sp dp n : Nat} (h0 : 1 ≤ j0 ∧ j0 ≤ 13) (h1 : 1 ≤ j1 ∧ j1 ≤ 13) (hd : j0 ≠ j1 ∨ dp ≤ sp) (b0 : sp + n ≤ ln7 j0) (b1 : dp + n ≤ ln7 j1) : p_X7_copies (m + j0) (nN sp) (m + j1) (nN dp) (nN n) (ovl B m g a) = some (ovl B m g (up2 a j1 (cpF (a j0) (a j1) sp dp n))) := by
  have l0 := ln7_le j0; have l1 := ln7_le j1
  unfold p_X7_copies
  have key : ∀ d k fu, k + d = n → d < fu → pl_X7_copies_3 (fun M => some M) (m + j0) (nN sp) (m + j1) (nN dp) (nN n) fu (nN k) (ovl B m g (up2 a j1 (cpF (a j0) (a j1) sp dp k))) = some (ovl B m g (up2 a j1 (cpF (a j0) (a j1) sp dp n))) := by
    intro d
    induction d with
    | zero =>
      intro k fu hk hf
      obtain ⟨f, rfl⟩ : ∃ f, fu = f + 1 := ⟨fu - 1, by omega⟩
      rw [pl_X7_copies_3, if_pos (nle_t (by omega) (by omega) (by omega)), show k = n by omega]
    | succ d ih =>
      intro k fu hk hf
      obtain ⟨f, rfl⟩ : ∃ f, fu = f + 1 := ⟨fu - 1, by omega⟩
      have ek : nN k + (1 : Int32) = nN (k + 1) := nN_add k 1
      have ev : up2 a j1 (cpF (a j0) (a j1) sp dp k) j0 (sp + k) = a j0 (sp + k) := by
        by_cases e : j0 = j1
        · subst e
          rw [up2_s]
          have := hd.resolve_left (fun z => z rfl)
          exact if_neg (by omega)
        · rw [up2_n e]
      rw [pl_X7_copies_3, if_neg (nle_f (by omega) (by omega) (by omega)), nN_add, nN_add, o_rd B m g _ h0.1 h0.2, rd_nN (by omega) (by omega), bS, o_wr B m g _ h1.1 h1.2, wr_nN (by omega) (by omega), Option.map_some, bS, ev, up2_s, cpF_s, up2_up2, ek]
      exact ih (k + 1) f (by omega) (by omega)
  have := key n 0 FU (by omega) (FU_pos (by omega))
  rw [cpF_0, up2_id] at this
  exact this
end CPY
def hpush (H : Nat → rowT) (n : Nat) (x : rowT) : Nat → rowT := if n < 10 then (fun j => if j = n then x else H j) else fun j => if j < 9 then H (j + 1) else x
def hlen (n : Nat) : Nat := if n < 10 then n + 1 else 10
section REM
variable {B : Mem} {m : Nat} {g : Nat → Int32} {a : Nat → Nat → Int32} {v : Nat → Nat} {pl : Nat → Option Nat} {nm : Nat → Nat} {H : Nat → rowT} {n sv : Nat} {S : rowT} {inp : Nat → Nat} {len ec : Nat} {eo : Int32} {out : Nat → Nat} {ol : Nat}
theorem e_remembers (hF : RFO g a nm H n sv S inp len ec eo out ol) (hn : n ≤ 10) : ∃ g' a', p_X7_remembers m (ovl B m g (up2 a 1 (enc v pl))) = some (ovl B m g' (up2 a' 1 (enc v pl))) ∧ RFO g' a' nm (hpush H n (v, pl)) (hlen n) sv S inp len ec eo out ol ∧ g' 9 = g 9 := by
  obtain ⟨⟨g5, g6, g12, g13, g14, g27⟩, hP, hS, hN, hi, ho⟩ := hF
  have e764 : (764 : Int32) = nN 764 := rfl
  have e0 : (0 : Int32) = nN 0 := rfl
  by_cases c : n < 10
  · refine ⟨upd g 5 (nN (n + 1)), up2 a 5 (cpF (enc v pl) (a 5) 0 (764 * n) 764), ?_, ?_, pk_un (by decide)⟩
    · unfold p_X7_remembers
      have hc := e_copies (B := B) (m := m) (g := g) (a := up2 a 1 (enc v pl)) (j0 := 1) (j1 := 5) (sp := 0) (dp := 764 * n) (n := 764) (by omega) (by omega) (by omega) (by show 0 + 764 ≤ 764; omega) (by show 764 * n + 764 ≤ 7640; omega)
      rw [oi_5, bS, g5, jn_def, if_neg (show ¬ nN n = (10 : Int32) from neq_f (b := 10) (by omega) (by omega) (by omega))]
      show Option.bind (gR 6 0 _ m) _ = _
      rw [or_0, bS, or_4, bS, oi_5, bS, g5, e764, nN_mul, e0, hc, bS, oi_5, bS, g5, op_5, bS]
      have ek : nN n + (1 : Int32) = nN (n + 1) := nN_add n 1
      rw [ek, up2_s, up2_n (by decide), up2_sw (by decide)]
    · unfold hpush hlen
      rw [if_pos c, if_pos c]
      refine ⟨⟨pk_us, by rw [pk_un (by decide)]; exact g6, by rw [pk_un (by decide)]; exact g12, by rw [pk_un (by decide)]; exact g13, by rw [pk_un (by decide)]; exact g14, by rw [pk_un (by decide)]; exact g27⟩, fun k hk i hi => ?_, hS, hN, hi, ho⟩
      show cpF (enc v pl) (a 5) 0 (764 * n) 764 (764 * k + i) = enc (if k = n then (v, pl) else H k).1 (if k = n then (v, pl) else H k).2 i
      unfold cpF
      by_cases e : k = n
      · rw [if_pos (by omega), if_pos e, show 0 + (764 * k + i - 764 * n) = i by omega]
      · rw [if_neg (by omega), if_neg e]
        exact hP k (by omega) i hi
  · have en : n = 10 := by omega
    subst en
    refine ⟨upd g 5 (nN 10), up2 a 5 (cpF (enc v pl) (cpF (a 5) (a 5) 764 0 6876) 0 (764 * 9) 764), ?_, ?_, pk_un (by decide)⟩
    · unfold p_X7_remembers
      have hc := e_copies (B := B) (m := m) (g := g) (a := up2 a 1 (enc v pl)) (j0 := 5) (j1 := 5) (sp := 764) (dp := 0) (n := 6876) (by omega) (by omega) (by omega) (by show 764 + 6876 ≤ 7640; omega) (by show 0 + 6876 ≤ 7640; omega)
      have hc2 := e_copies (B := B) (m := m) (g := upd g 5 (nN 9)) (a := up2 (up2 a 1 (enc v pl)) 5 (cpF (a 5) (a 5) 764 0 6876)) (j0 := 1) (j1 := 5) (sp := 0) (dp := 764 * 9) (n := 764) (by omega) (by omega) (by omega) (by show 0 + 764 ≤ 764; omega) (by show 764 * 9 + 764 ≤ 7640; omega)
      have e6 : (6876 : Int32) = nN 6876 := rfl
      rw [up2_n (by decide)] at hc
      have em : nN 10 - (1 : Int32) = nN 9 := nN_subN (a := 10) (b := 1) (by omega)
      have ek : nN 9 + (1 : Int32) = nN 10 := nN_add 9 1
      rw [oi_5, bS, g5, jn_def, if_pos (by rfl), or_4, bS, bS, e764, e0, e6, hc, bS, oi_5, bS, g5, em, op_5, bS]
      show Option.bind (gR 6 0 _ m) _ = _
      rw [or_0, bS, or_4, bS, oi_5, bS, pk_us, nN_mul, hc2, bS, oi_5, bS, pk_us, ek, op_5, bS, upd_2]
      rw [up2_s, up2_n (by decide), up2_s, up2_up2, up2_sw (by decide)]
    · unfold hpush hlen
      rw [if_neg c, if_neg c]
      refine ⟨⟨pk_us, by rw [pk_un (by decide)]; exact g6, by rw [pk_un (by decide)]; exact g12, by rw [pk_un (by decide)]; exact g13, by rw [pk_un (by decide)]; exact g14, by rw [pk_un (by decide)]; exact g27⟩, fun k hk i hi => ?_, hS, hN, hi, ho⟩
      show cpF (enc v pl) (cpF (a 5) (a 5) 764 0 6876) 0 (764 * 9) 764 (764 * k + i) = enc (if k < 9 then H (k + 1) else (v, pl)).1 (if k < 9 then H (k + 1) else (v, pl)).2 i
      unfold cpF
      by_cases e : k < 9
      · rw [if_neg (by omega), if_pos e, if_pos (by omega), show 764 + (764 * k + i - 0) = 764 * (k + 1) + i by omega]
        exact hP (k + 1) (by omega) i hi
      · rw [if_pos (by omega), if_neg e, show 0 + (764 * k + i - 764 * 9) = i by omega]
theorem RC.kp {N N' : Mem} {r b t : Nat} {g : Nat → Int32} {h : Nat → Int64} {ar : Nat → Nat → Int32} (hC : RC N r b t g h ar) (hk : ∀ x, (x = r ∨ (b ≤ x ∧ x < b + 9)) → N' x = N x) : RC N' r b t g h ar :=
  ⟨(hk r (Or.inl rfl)).trans hC.1, fun j hj => (hk (b + j) (Or.inr (by omega))).trans (hC.2 j hj)⟩
theorem TC.kp {N N' : Mem} {t tb : Nat} {u : Nat → Int32} {ta : Nat → Nat → Int32} (hC : TC N t tb u ta) (hk : ∀ x, (x = t ∨ (tb ≤ x ∧ x < tb + 10)) → N' x = N x) : TC N' t tb u ta :=
  ⟨(hk t (Or.inl rfl)).trans hC.1, fun j hj => (hk (tb + j) (Or.inr (by omega))).trans (hC.2 j hj)⟩
theorem upM_at {M : Mem} {q : Nat} {e : mE} : upM M q e q = some e := if_pos rfl
theorem fx_put {N : Mem} {z k : Nat} {fs : List Value} {x : Value} (h : N z = some (.inr (5, fs))) (hk : k < fs.length) : sV 5 k N z x = some (upM N z (.inr (5, fs.set k x))) := by
  unfold sV; rw [h]; exact if_pos ⟨rfl, hk⟩
theorem c_remember {z : Nat} {M : Mem} (hI : Inv v pl) (hn : n ≤ 10) (hC : CL0 z (rst M z) v pl nm H n sv S inp len ec eo out ol) : ∃ M', p_X6_remember z M = some M' ∧ CL0 z (rst M' z) v pl nm (hpush H n (v, pl)) (hlen n) sv S inp len ec eo out ol ∧ ∀ x, ¬ (z ≤ x ∧ x < z + 180) → M' x = M x := by
  obtain ⟨rn, bn, tn, tbn, rr, br, tr, tbr, hn', hW, hX, ⟨g, h, ar, u, ta, q1, q2, q3, q4⟩, q5, q6, q7, ⟨q8, f, q9, q10⟩, q11, q12, q13, q14, q15⟩ := hC
  have hXM : M z = some (.inr (5, flX z rn sv hn' n)) := by rw [← rst_in (M := M) (z := z) (a := z) (by omega)]; exact hX
  have q9M : M (z + 79) = some (.inl (4, 10, .inr (.inr (.inr (.inr f))))) := by rw [← rst_in (M := M) (z := z) (a := z + 79) (by omega)]; exact q9
  have hl : (z ≤ rn ∧ rn < z + 180) ∧ (z ≤ bn ∧ bn + 9 ≤ z + 180) ∧ AP (z + 80 + 10 * hn') (z + 81 + 10 * hn') rn bn := by
    unfold WHR at hW
    unfold AP
    rcases hW with hW | hW <;> omega
  obtain ⟨l1, l2, l3⟩ := hl
  have qM := q1.up l1 l2
  obtain ⟨t0, g0, h0, ar0, r0, r1⟩ := q11 hn' q8
  have r0M := r0.up (by omega) (by omega)
  obtain ⟨g2, h2, ar2, e1, R2⟩ := c_copyFrom (t := t0) (g := g0) (h := h0) (ar := ar0) l3 qM q3 hI
  rw [← r0M.eq] at e1
  -- the memory behind
  have m6z : ovr M (z + 80 + 10 * hn') (z + 81 + 10 * hn') tn g2 h2 ar2 z = some (.inr (5, flX z rn sv hn' n)) := by
    rw [ovr_o _ _ _ _ _ _ _ (by unfold oR; omega)]; exact hXM
  have hne : hn' + 1 < 2147483648 := by omega
  have hnx : ∃ h9, h9 < 10 ∧ (h9 + 9) % 10 = hn' ∧ (if nN hn' = (9 : Int32) then (0 : Int32) else nN hn' + (1 : Int32)) = nN h9 := by
    by_cases c : hn' = 9
    · exact ⟨0, by omega, by omega, by rw [c, if_pos (by rfl)]; rfl⟩
    · exact ⟨hn' + 1, by omega, by omega, by rw [if_neg (show ¬ nN hn' = (9 : Int32) from neq_f (b := 9) (by omega) (by omega) c)]; exact nN_add hn' 1⟩
  obtain ⟨h9, h9a, h9b, h9c⟩ := hnx
  have hlen' : (if nN n + (1 : Int32) < (10 : Int32) then nN n + (1 : Int32) else (10 : Int32)) = nN (hlen n) := by
    have ek : nN n + (1 : Int32) = nN (n + 1) := nN_add n 1
    rw [ek]
    unfold hlen
    by_cases c : n < 10
    · rw [if_pos c]
      by_cases c2 : n = 9
      · rw [c2, if_neg (by decide)]; rfl
      · rw [if_pos (show nN (n + 1) < (10 : Int32) from nlt_t (b := 10) (by omega) (by omega) (by omega))]
    · rw [if_neg c, show n = 10 by omega, if_neg (by decide)]; rfl
  refine ⟨upM (ovr M (z + 80 + 10 * hn') (z + 81 + 10 * hn') tn g2 h2 ar2) z (.inr (5, flX z rn sv h9 (hlen n))), ?_, ?_, ?_⟩
  · have p1 : sV 5 9 (ovr M (z + 80 + 10 * hn') (z + 81 + 10 * hn') tn g2 h2 ar2) z (.int (nN h9)) = some (upM (ovr M (z + 80 + 10 * hn') (z + 81 + 10 * hn') tn g2 h2 ar2) z (.inr (5, flX z rn sv h9 n))) := fx_put m6z (show 9 < 11 by decide)
    have p2 : sV 5 10 (upM (ovr M (z + 80 + 10 * hn') (z + 81 + 10 * hn') tn g2 h2 ar2) z (.inr (5, flX z rn sv h9 n))) z (.int (nN (hlen n))) = some (upM (upM (ovr M (z + 80 + 10 * hn') (z + 81 + 10 * hn') tn g2 h2 ar2) z (.inr (5, flX z rn sv h9 n))) z (.inr (5, flX z rn sv h9 (hlen n)))) := fx_put (fs := flX z rn sv h9 n) upM_at (show 10 < 11 by decide)
    have p3 : ∀ N : Mem, ∀ e1 e2, upM (upM N z e1) z e2 = upM N z e2 := fun N e1 e2 => by
      funext x; unfold upM; by_cases c : x = z
      · rw [if_pos c, if_pos c]
      · rw [if_neg c, if_neg c, if_neg c]
    have o1 : gR 5 8 M z = some (z + 79) := by unfold gR gV; rw [hXM]; rfl
    have o2 : gI 5 9 M z = some (nN hn') := by unfold gI gV; rw [hXM]; rfl
    have o3 : aR M (z + 79) (nN hn') = some (z + 80 + 10 * hn') := by
      unfold aR; rw [q9M]
      have n1 := nN_neg0 (n := hn') (by omega)
      have n2 := nN_clamp (n := hn') (by omega)
      simp only [n2]
      rw [if_pos ⟨trivial, fun y => by rcases y with y | y; exact n1 y; omega⟩]
      exact q10 hn' q8
    have o4 : gR 5 3 M z = some rn := by unfold gR gV; rw [hXM]; rfl
    have o5 : isC 2 M (z + 80 + 10 * hn') = some () := by unfold isC; rw [r0M.1]; rfl
    have o6 : gI 5 9 (ovr M (z + 80 + 10 * hn') (z + 81 + 10 * hn') tn g2 h2 ar2) z = some (nN hn') := by unfold gI gV; rw [m6z]; rfl
    have o7 : gI 5 10 (upM (ovr M (z + 80 + 10 * hn') (z + 81 + 10 * hn') tn g2 h2 ar2) z (.inr (5, flX z rn sv h9 n))) z = some (nN n) := by
      unfold gI gV
      rw [show upM (ovr M (z + 80 + 10 * hn') (z + 81 + 10 * hn') tn g2 h2 ar2) z (.inr (5, flX z rn sv h9 n)) z = some (.inr (5, flX z rn sv h9 n)) from if_pos rfl]; rfl
    unfold p_X6_remember
    rw [o1, bS, o2, bS, o3, bS, o4, bS, o5, bS, e1, bS, o6, bS, jn_def]
    by_cases c : nN hn' = (9 : Int32)
    · rw [if_pos c] at h9c ⊢
      rw [h9c]
      show Option.bind (sV 5 9 _ z (.int (nN h9))) _ = _
      rw [p1, bS, o7, bS, hlen', p2, bS, p3]
    · rw [if_neg c] at h9c ⊢
      rw [bS, h9c]
      show Option.bind (sV 5 9 _ z (.int (nN h9))) _ = _
      rw [p1, bS, o7, bS, hlen', p2, bS, p3]
  · have hk : ∀ x, x ≠ z → ¬ (z + 80 + 10 * hn' ≤ x ∧ x < z + 90 + 10 * hn') → rst (upM (ovr M (z + 80 + 10 * hn') (z + 81 + 10 * hn') tn g2 h2 ar2) z (.inr (5, flX z rn sv h9 (hlen n)))) z x = rst M z x := fun x x1 x2 => by
      unfold rst
      by_cases c : z ≤ x ∧ x < z + 180
      · rw [if_pos c, if_pos c]
        unfold upM
        rw [if_neg x1, ovr_o _ _ _ _ _ _ _ (by unfold oR; omega)]
      · rw [if_neg c, if_neg c]
    have hz : rst (upM (ovr M (z + 80 + 10 * hn') (z + 81 + 10 * hn') tn g2 h2 ar2) z (.inr (5, flX z rn sv h9 (hlen n)))) z z = some (.inr (5, flX z rn sv h9 (hlen n))) := by
      rw [rst_in (by omega)]; exact if_pos rfl
    have hh : ∀ x, z + 80 + 10 * hn' ≤ x → x < z + 90 + 10 * hn' → rst (upM (ovr M (z + 80 + 10 * hn') (z + 81 + 10 * hn') tn g2 h2 ar2) z (.inr (5, flX z rn sv h9 (hlen n)))) z x = ovr M (z + 80 + 10 * hn') (z + 81 + 10 * hn') tn g2 h2 ar2 x := fun x x1 x2 => by
      rw [rst_in (by omega)]; exact if_neg (by omega)
    generalize rst (upM (ovr M (z + 80 + 10 * hn') (z + 81 + 10 * hn') tn g2 h2 ar2) z (.inr (5, flX z rn sv h9 (hlen n)))) z = N' at hk hz hh ⊢
    have hWo : (rn + 1 < z + 49 ∧ z < rn) ∧ (bn + 9 < z + 79 ∧ z < bn) ∧ (tn < z + 79 ∧ z < tn) ∧ (tbn + 10 < z + 79 ∧ z < tbn) ∧ (rr < z + 79 ∧ z < rr) ∧ (br + 9 < z + 79 ∧ z < br) ∧ (tr < z + 79 ∧ z < tr) ∧ (tbr + 10 < z + 79 ∧ z < tbr) := by
      unfold WHR at hW; rcases hW with hW | hW <;> omega
    obtain ⟨t5, g5, h5, a5, r5⟩ := q5
    obtain ⟨t6, g6, h6, a6, r6⟩ := q6
    obtain ⟨t7, g7, h7, a7, r7, r7'⟩ := q7
    obtain ⟨T, q12a, q12b⟩ := q12
    obtain ⟨bt, q13a, q13b, q13c⟩ := q13
    obtain ⟨qq, w, tx, q14a, q14b, q14c⟩ := q14
    obtain ⟨gg, hh2, aa, uu, tt, r15, r16⟩ := q15
    refine ⟨rn, bn, tn, tbn, rr, br, tr, tbr, h9, hW, hz, ⟨g, h, ar, u, ta, q1.kp (fun x hx => hk x (by omega) (by omega)), q2.kp (fun x hx => hk x (by omega) (by omega)), q3, q4⟩, ⟨t5, g5, h5, a5, r5.kp (fun x hx => hk x (by omega) (by omega))⟩, ⟨t6, g6, h6, a6, r6.kp (fun x hx => hk x (by omega) (by omega))⟩, ⟨t7, g7, h7, a7, r7.kp (fun x hx => hk x (by omega) (by omega)), r7'⟩, ⟨h9a, f, (hk _ (by omega) (by omega)).trans q9, q10⟩, fun k hk10 => ?_, ⟨T, (hk _ (by omega) (by omega)).trans q12a, (hk _ (by omega) (by omega)).trans q12b⟩, ⟨bt, (hk _ (by omega) (by omega)).trans q13a, (hk _ (by omega) (by omega)).trans q13b, q13c⟩, ⟨qq, w, tx, (hk _ (by omega) (by omega)).trans q14a, (hk _ (by omega) (by omega)).trans q14b, q14c⟩, ⟨gg, hh2, aa, uu, tt, r15.kp (fun x hx => hk x (by omega) (by omega)), r16.kp (fun x hx => hk x (by omega) (by omega))⟩⟩
    by_cases ek : k = hn'
    · subst ek
      refine ⟨tn, g2, h2, ar2, ⟨(hh _ (by omega) (by omega)).trans (ovr_r _ _ _ _ _ _ _), fun j hj => (hh _ (by omega) (by omega)).trans (ovr_a _ _ _ _ _ _ _ (by omega) hj)⟩, fun j hj hr => ⟨rfl, ?_⟩⟩
      have : hpush H n (v, pl) j = (v, pl) := by
        unfold hpush hlen at *
        by_cases c : n < 10
        · rw [if_pos c] at hj hr ⊢
          exact if_pos (by omega)
        · rw [if_neg c] at hj hr ⊢
          exact if_neg (by omega)
      rw [this]
      exact R2
    · obtain ⟨t1, g1, h1, a1, s1, s2⟩ := q11 k hk10
      refine ⟨t1, g1, h1, a1, s1.kp (fun x hx => hk x (by omega) (by omega)), fun j hj hr => ?_⟩
      unfold hpush hlen at *
      by_cases c : n < 10
      · rw [if_pos c] at hj hr ⊢
        have hjn : j ≠ n := fun e => by subst e; exact ek (by omega)
        show t1 = tn ∧ RG g1 h1 a1 (if j = n then (v, pl) else H j).1 (if j = n then (v, pl) else H j).2
        rw [if_neg hjn]
        exact s2 j (by omega) (by omega)
      · rw [if_neg c] at hj hr ⊢
        have hj9 : j < 9 := by
          rcases Nat.lt_or_ge j 9 with e | e
          · exact e
          · exact absurd (show k = hn' by omega) ek
        show t1 = tn ∧ RG g1 h1 a1 (if j < 9 then H (j + 1) else (v, pl)).1 (if j < 9 then H (j + 1) else (v, pl)).2
        rw [if_pos hj9]
        exact s2 (j + 1) (by omega) (by omega)
  · intro x hx
    unfold upM
    rw [if_neg (by omega), ovr_o _ _ _ _ _ _ _ (by unfold oR; omega)]
end REM
