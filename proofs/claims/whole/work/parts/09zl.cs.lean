/-! the setup text: the class's state while it reads -/
section CST
def CS (Z : gZ) (f : Nat → Nat) (n : Nat) (B : Mem) (rr br tr tb a t2 : Nat) (g : Nat → Int32) (h : Nat → Int64) (ar : Nat → Nat → Int32) (u : Nat → Int32) (ta : Nat → Nat → Int32) (er eo b5 b6 b7 : Int32) (q : Nat) : Mem := T3 Z f n (ofc B rr br tr tb g h ar u ta) a t2 er eo rr b5 b6 b7 q
def CH (Z : gZ) (f : Nat → Nat) (n : Nat) (B : Mem) (rr br tr tb a t2 : Nat) : Prop := GE rr br tr tb ∧ t2 ≠ a ∧ (oR rr br a ∧ oTw tr tb a) ∧ (oR rr br t2 ∧ oTw tr tb t2) ∧ TXT B t2 n f ∧ ZI Z
variable {Z : gZ} {f : Nat → Nat} {n : Nat} {B : Mem} {rr br tr tb a t2 : Nat} {g : Nat → Int32} {h : Nat → Int64} {ar : Nat → Nat → Int32} {u : Nat → Int32} {ta : Nat → Nat → Int32} {er eo b5 b6 b7 : Int32} {q : Nat}
theorem CH.tx (hC : CH Z f n B rr br tr tb a t2) : TXT (ofc B rr br tr tb g h ar u ta) t2 n f := by
  obtain ⟨tx, h1, h2⟩ := hC.2.2.2.2.1
  exact ⟨tx, by rw [ofc_o hC.2.2.2.1.1 hC.2.2.2.1.2]; exact h1, h2⟩
theorem ofc_upM (h1 : oR rr br a) (h2 : oTw tr tb a) {e : mE} : upM (ofc B rr br tr tb g h ar u ta) a e = ofc (upM B a e) rr br tr tb g h ar u ta := by
  funext x
  by_cases c : x = a
  · subst c; rw [upM_at, ofc_o h1 h2, upM_at]
  · rw [upM_o c]
    unfold ofc ovr ovt
    by_cases c1 : x = rr
    · rw [if_pos c1, if_pos c1]
    · rw [if_neg c1, if_neg c1]
      by_cases c2 : br ≤ x ∧ x < br + 9
      · rw [if_pos c2, if_pos c2]
      · rw [if_neg c2, if_neg c2]
        by_cases c3 : x = tr
        · rw [if_pos c3, if_pos c3]
        · rw [if_neg c3, if_neg c3]
          by_cases c4 : tb ≤ x ∧ x < tb + 10
          · rw [if_pos c4, if_pos c4]
          · rw [if_neg c4, if_neg c4, upM_o c]
theorem cs_sw (hC : CH Z f n B rr br tr tb a t2) : (CS Z f n B rr br tr tb a t2 g h ar u ta er eo b5 b6 b7 q) = ofc (T3 Z f n B a t2 er eo rr b5 b6 b7 q) rr br tr tb g h ar u ta := ofc_upM hC.2.2.1.1 hC.2.2.1.2
theorem cs_C : isC 3 (CS Z f n B rr br tr tb a t2 g h ar u ta er eo b5 b6 b7 q) a = some () := t3_C
theorem cs_b {α : Type} (k : Unit → Option α) : Option.bind (isC 3 (CS Z f n B rr br tr tb a t2 g h ar u ta er eo b5 b6 b7 q) a) k = k () := by rw [cs_C]; rfl
theorem cs_4 : gR 3 4 (CS Z f n B rr br tr tb a t2 g h ar u ta er eo b5 b6 b7 q) a = some rr := t3_4
theorem cs_8 : gI 3 8 (CS Z f n B rr br tr tb a t2 g h ar u ta er eo b5 b6 b7 q) a = some (nN (kdN f n q)) := t3_8
theorem cs_2 : gI 3 2 (CS Z f n B rr br tr tb a t2 g h ar u ta er eo b5 b6 b7 q) a = some er := t3_2
theorem cs_5 : gI 3 5 (CS Z f n B rr br tr tb a t2 g h ar u ta er eo b5 b6 b7 q) a = some b5 := rg_5
theorem cs_6 : gI 3 6 (CS Z f n B rr br tr tb a t2 g h ar u ta er eo b5 b6 b7 q) a = some b6 := rg_6
theorem cs_7 : gI 3 7 (CS Z f n B rr br tr tb a t2 g h ar u ta er eo b5 b6 b7 q) a = some b7 := rg_7
theorem cs_11 : gN 3 11 (CS Z f n B rr br tr tb a t2 g h ar u ta er eo b5 b6 b7 q) a = some ((wdN f n q).map Z.2.2.1) := t3_11
theorem cs_adv (hC : CH Z f n B rr br tr tb a t2) (hq : q ≤ n) : p_X3_advance Z a (CS Z f n B rr br tr tb a t2 g h ar u ta er eo b5 b6 b7 q) = some (CS Z f n B rr br tr tb a t2 g h ar u ta er eo b5 b6 b7 (nxt f n q)) := c_nxt hC.tx hC.2.1 hq
theorem cs_fail (c : Int32) : p_X3_fail a c (CS Z f n B rr br tr tb a t2 g h ar u ta er eo b5 b6 b7 q) = some (CS Z f n B rr br tr tb a t2 g h ar u ta c (nN q) b5 b6 b7 q) := c_fail c
theorem cs_sem (hC : CH Z f n B rr br tr tb a t2) (hq : q ≤ n) : p_X3_passSemicolon Z a (CS Z f n B rr br tr tb a t2 g h ar u ta er eo b5 b6 b7 q) = if kdN f n q = 3 then some ((1 : Int32), CS Z f n B rr br tr tb a t2 g h ar u ta er eo b5 b6 b7 (nxt f n q)) else some ((0 : Int32), CS Z f n B rr br tr tb a t2 g h ar u ta 1 (nN q) b5 b6 b7 q) := c_sem hC.tx hC.2.1 hq
theorem cs_pw (hC : CH Z f n B rr br tr tb a t2) (hq : q ≤ n) {i : Nat} (hi : i < 11) : p_X3_passWord Z a (some (Z.2.2.1 i)) (CS Z f n B rr br tr tb a t2 g h ar u ta er eo b5 b6 b7 q) = if wdN f n q = some i then some ((1 : Int32), CS Z f n B rr br tr tb a t2 g h ar u ta er eo b5 b6 b7 (nxt f n q)) else some ((0 : Int32), (CS Z f n B rr br tr tb a t2 g h ar u ta er eo b5 b6 b7 q)) := c_pw hC.2.2.2.2.2 hC.tx hC.2.1 hq hi
theorem cs_num (hC : CH Z f n B rr br tr tb a t2) (hq : q ≤ n) {lo hi : Nat} (hlo : lo < 1000) (hhi : hi < 1000) : p_X3_readNumber Z a (nN lo) (nN hi) (CS Z f n B rr br tr tb a t2 g h ar u ta er eo b5 b6 b7 q) = if nuB f n q = true then (if raB f n q lo hi = true then some (nN (vlN f n q), CS Z f n B rr br tr tb a t2 g h ar u ta er eo b5 b6 b7 (nxt f n q)) else some ((-1 : Int32), CS Z f n B rr br tr tb a t2 g h ar u ta 2 (nN q) b5 b6 b7 q)) else some ((-1 : Int32), CS Z f n B rr br tr tb a t2 g h ar u ta 1 (nN q) b5 b6 b7 q) := c_num hC.tx hC.2.1 hq hlo hhi
theorem cs_nm (hC : CH Z f n B rr br tr tb a t2) (hq : q ≤ n) : p_X3_nameHere a (CS Z f n B rr br tr tb a t2 g h ar u ta er eo b5 b6 b7 q) = if nmB f n q = true then some (nN (codeN (fun i => f (q + i)) (enN f n q - q)), (CS Z f n B rr br tr tb a t2 g h ar u ta er eo b5 b6 b7 q)) else some ((-1 : Int32), CS Z f n B rr br tr tb a t2 g h ar u ta 1 (nN q) b5 b6 b7 q) := c_nm hC.tx hC.2.1 hq
theorem cs_2_0 (hC : CH Z f n B rr br tr tb a t2) : gR 2 0 (CS Z f n B rr br tr tb a t2 g h ar u ta er eo b5 b6 b7 q) rr = some tr := by rw [cs_sw hC]; exact fv_0
theorem cs_2_1 (hC : CH Z f n B rr br tr tb a t2) : gI 2 1 (CS Z f n B rr br tr tb a t2 g h ar u ta er eo b5 b6 b7 q) rr = some (g 1) := by rw [cs_sw hC]; exact fv_1
theorem cs_4_C (hC : CH Z f n B rr br tr tb a t2) : isC 4 (CS Z f n B rr br tr tb a t2 g h ar u ta er eo b5 b6 b7 q) tr = some () := by rw [cs_sw hC]; exact ft_C hC.1
theorem cs_2_C (hC : CH Z f n B rr br tr tb a t2) : isC 2 (CS Z f n B rr br tr tb a t2 g h ar u ta er eo b5 b6 b7 q) rr = some () := by rw [cs_sw hC]; exact fv_isC
theorem cs_4_0 (hC : CH Z f n B rr br tr tb a t2) : gI 4 0 (CS Z f n B rr br tr tb a t2 g h ar u ta er eo b5 b6 b7 q) tr = some (u 0) := by rw [cs_sw hC]; exact ft_0 hC.1
theorem cs_4_1 (hC : CH Z f n B rr br tr tb a t2) : gI 4 1 (CS Z f n B rr br tr tb a t2 g h ar u ta er eo b5 b6 b7 q) tr = some (u 1) := by rw [cs_sw hC]; exact ft_1 hC.1
theorem cs_TC (hC : CH Z f n B rr br tr tb a t2) : TC (CS Z f n B rr br tr tb a t2 g h ar u ta er eo b5 b6 b7 q) tr tb u ta := by
  rw [cs_sw hC]
  exact ⟨(ovr_o _ _ _ _ _ _ _ hC.1.ot).trans (ovt_t _ _ _ _ _), fun j hj => (ovr_o _ _ _ _ _ _ _ (hC.1.oa hj)).trans (ovt_a _ _ _ _ _ hC.1.2.1 hj)⟩
/-- the roll says v and its names -/
def CR (g : Nat → Int32) (h : Nat → Int64) (ar : Nat → Nat → Int32) (u : Nat → Int32) (ta : Nat → Nat → Int32) (v nm : Nat → Nat) : Prop := RG g h ar v (fun _ => none) ∧ TG u ta v (cdS nm) ∧ ∀ s, v 0 ≤ s → s < 8 → ar 8 s = 0
theorem cdS_lt {nm : Nat → Nat} {k s : Nat} (hN : NMS nm k) (hs : s < k) : cdS nm s < 2147483648 := by
  obtain ⟨l, l1, l2, l3, l4⟩ := hN s hs
  have := code_lt (f := fun i => nm (6 * s + i)) 6 (fun i hi => by
    by_cases c : i < l
    · exact (l3 i c).2
    · show nm (6 * s + i) ≤ 122
      rw [l4 i (by omega) hi]; omega)
  have e : (32 : Nat) ^ 6 = 1073741824 := by decide
  show codeN _ 6 < _
  omega
theorem cs_find (hC : CH Z f n B rr br tr tb a t2) {v nm : Nat → Nat} (hR : CR g h ar u ta v nm) (h0 : v 0 ≤ 8) (hN : NMS nm (v 0)) (hq : q ≤ n) (hb : nmB f n q = true) : p_X4_find tr (nN (codeN (fun i => f (q + i)) (enN f n q - q))) (CS Z f n B rr br tr tb a t2 g h ar u ta er eo b5 b6 b7 q) = some (oN (fdN nm (v 0) f n q)) := by
  obtain ⟨a1, a2⟩ := nm_ltr hb hq
  have hl := code_lt (f := fun i => f (q + i)) (enN f n q - q) (fun i hi => (a2 i hi).2)
  have hp : (32 : Nat) ^ (enN f n q - q) ≤ 32 ^ 6 := Nat.pow_le_pow_right (by decide) (by omega)
  have e6 : (32 : Nat) ^ 6 = 1073741824 := by decide
  rw [c_find (cs_TC hC) (k := v 0) (cd := cdS nm) h0 hR.2.1.u0 (fun s hs => ⟨hR.2.1.a0 hs, cdS_lt hN hs⟩) (by omega)]
  refine congrArg (fun o => some (oN o)) ?_
  exact fnd_c (fun s _ hs => cd_eq hN (by omega) hb hq)
theorem cs_told (hC : CH Z f n B rr br tr tb a t2) {v nm : Nat → Nat} (hR : CR g h ar u ta v nm) (h0 : v 0 ≤ 8) (hN : NMS nm (v 0)) (hq : q ≤ n) : p_X3_toldSchoolHere a (CS Z f n B rr br tr tb a t2 g h ar u ta er eo b5 b6 b7 q) = if nmB f n q = true then (match fdN nm (v 0) f n q with | none => some ((-1 : Int32), CS Z f n B rr br tr tb a t2 g h ar u ta 3 (nN q) b5 b6 b7 q) | some s => some (nN s, (CS Z f n B rr br tr tb a t2 g h ar u ta er eo b5 b6 b7 q))) else some ((-1 : Int32), CS Z f n B rr br tr tb a t2 g h ar u ta 1 (nN q) b5 b6 b7 q) := by
  unfold p_X3_toldSchoolHere
  rw [cs_b, cs_nm hC hq]
  by_cases c : nmB f n q = true
  · obtain ⟨a1, a2⟩ := nm_ltr c hq
    have hl := code_lt (f := fun i => f (q + i)) (enN f n q - q) (fun i hi => (a2 i hi).2)
    have hp : (32 : Nat) ^ (enN f n q - q) ≤ 32 ^ 6 := Nat.pow_le_pow_right (by decide) (by omega)
    have e6 : (32 : Nat) ^ 6 = 1073741824 := by decide
    rw [if_pos c, if_pos c, ob2_def, if_neg (show ¬ nN (codeN (fun i => f (q + i)) (enN f n q - q)) = (-1 : Int32) from nNm (by omega)), cs_4, bS, cs_2_0 hC, bS, cs_4_C hC, bS, cs_find hC hR h0 hN hq c, bS]
    cases hf : fdN nm (v 0) f n q with
    | none => rw [if_pos (show oN none = (-1 : Int32) from rfl), cs_b, cs_fail, bS]; rfl
    | some s =>
      have := (fnd_some hf).2.1
      rw [if_neg (show ¬ oN (some s) = (-1 : Int32) from nNm (by omega))]; rfl
  · rw [if_neg c, if_neg c, ob2_def, if_pos rfl]
def bO (k o : Nat) : Int32 := if o &&& k = 0 then 0 else 1
def PC (Z : gZ) (f : Nat → Nat) (n : Nat) (B : Mem) (rr br tr tb a t2 : Nat) (eo : Int32) (x : QS) (r : Option Mem) : Prop := match x with
  | .inl e => ∃ g h ar u ta b5 b6 b7, r = some (CS Z f n B rr br tr tb a t2 g h ar u ta (nN e.1) (nN e.2) b5 b6 b7 e.2)
  | .inr y => ∃ g h ar u ta, r = some (CS Z f n B rr br tr tb a t2 g h ar u ta 0 eo (bO 1 y.2.2.1) (bO 2 y.2.2.1) (bO 4 y.2.2.1) y.2.2.2) ∧ CR g h ar u ta y.1 y.2.1
theorem pc_f {c : Nat} {c' eo' : Int32} (hc : c' = nN c) : PC Z f n B rr br tr tb a t2 eo' (.inl (c, q)) (some (CS Z f n B rr br tr tb a t2 g h ar u ta c' (nN q) b5 b6 b7 q)) := by
  subst hc
  exact ⟨g, h, ar, u, ta, b5, b6, b7, rfl⟩
theorem pc_num (hC : CH Z f n B rr br tr tb a t2) (hq : q ≤ n) {eo' : Int32} {lo hi : Nat} (hlo : lo < 1000) (hhi : hi < 1000) {k : Nat → Nat → QS} {K : Int32 → Mem → Option Mem} (hK : ∀ M, K (-1) M = some M) (H : nuB f n q = true → (lo ≤ vlN f n q ∧ vlN f n q ≤ hi) → nxt f n q ≤ n → PC Z f n B rr br tr tb a t2 eo' (semS f n (k (vlN f n q) (nxt f n q))) (K (nN (vlN f n q)) (CS Z f n B rr br tr tb a t2 g h ar u ta er eo b5 b6 b7 (nxt f n q)))) : PC Z f n B rr br tr tb a t2 eo' (semS f n (numS f n lo hi q k)) (ob2 (p_X3_readNumber Z a (nN lo) (nN hi) (CS Z f n B rr br tr tb a t2 g h ar u ta er eo b5 b6 b7 q)) K) := by
  rw [cs_num hC hq hlo hhi]
  unfold numS
  by_cases c : nuB f n q = true
  · rw [if_pos c, if_pos c]
    by_cases c2 : raB f n q lo hi = true
    · rw [if_pos c2, if_pos c2, ob2_def]
      exact H c (of_decide_eq_true c2) (nxt_b hq).2.1
    · rw [if_neg c2, if_neg c2, ob2_def, hK]
      exact pc_f rfl
  · rw [if_neg c, if_neg c, ob2_def, hK]
    exact pc_f rfl
theorem pc_tld (hC : CH Z f n B rr br tr tb a t2) {v nm : Nat → Nat} (hR : CR g h ar u ta v nm) (h0 : v 0 ≤ 8) (hN : NMS nm (v 0)) (hq : q ≤ n) {eo' : Int32} {k : Nat → QS} {K : Int32 → Mem → Option Mem} (hK : ∀ M, K (-1) M = some M) (H : ∀ s, fdN nm (v 0) f n q = some s → PC Z f n B rr br tr tb a t2 eo' (semS f n (k s)) (K (nN s) (CS Z f n B rr br tr tb a t2 g h ar u ta er eo b5 b6 b7 q))) : PC Z f n B rr br tr tb a t2 eo' (semS f n (if nmB f n q = true then (match fdN nm (v 0) f n q with | none => .inl (3, q) | some s => k s) else .inl (1, q))) (ob2 (p_X3_toldSchoolHere a (CS Z f n B rr br tr tb a t2 g h ar u ta er eo b5 b6 b7 q)) K) := by
  rw [cs_told hC hR h0 hN hq]
  by_cases c : nmB f n q = true
  · rw [if_pos c, if_pos c]
    cases hf : fdN nm (v 0) f n q with
    | none =>
      show PC Z f n B rr br tr tb a t2 eo' (.inl (3, q)) (ob2 (some _) K)
      rw [ob2_def, hK]
      exact pc_f rfl
    | some s =>
      show PC Z f n B rr br tr tb a t2 eo' (semS f n (k s)) (ob2 (some _) K)
      rw [ob2_def]
      exact H s hf
  · rw [if_neg c, if_neg c, ob2_def, hK]
    exact pc_f rfl
/-- a statement's last step -/
theorem pc_sem (hC : CH Z f n B rr br tr tb a t2) (hq : q ≤ n) {eo' : Int32} {v nm : Nat → Nat} {o : Nat} {K : Int32 → Mem → Option Mem} (hK : ∀ M, K 0 M = some M) (H : PC Z f n B rr br tr tb a t2 eo' (.inr (v, nm, o, nxt f n q)) (K 1 (CS Z f n B rr br tr tb a t2 g h ar u ta er eo b5 b6 b7 (nxt f n q)))) : PC Z f n B rr br tr tb a t2 eo' (semS f n (.inr (v, nm, o, q))) (ob2 (p_X3_passSemicolon Z a (CS Z f n B rr br tr tb a t2 g h ar u ta er eo b5 b6 b7 q)) K) := by
  rw [cs_sem hC hq]
  show PC Z f n B rr br tr tb a t2 eo' (if kdN f n q = 3 then .inr (v, nm, o, nxt f n q) else .inl (1, q)) _
  by_cases c : kdN f n q = 3
  · rw [if_pos c, if_pos c, ob2_def]; exact H
  · rw [if_neg c, if_neg c, ob2_def, hK]
    exact pc_f rfl
/-- it fails there: something stands before the semicolon -/
theorem pc_sem1 (hC : CH Z f n B rr br tr tb a t2) (hq : q ≤ n) {eo' : Int32} {K : Int32 → Mem → Option Mem} (hK : ∀ M, K 0 M = some M) (hk : kdN f n q = 1) : PC Z f n B rr br tr tb a t2 eo' (.inl (1, q)) (ob2 (p_X3_passSemicolon Z a (CS Z f n B rr br tr tb a t2 g h ar u ta er eo b5 b6 b7 q)) K) := by
  rw [cs_sem hC hq, if_neg (by omega), ob2_def, hK]
  exact pc_f rfl
theorem row_s {w : Nat → Nat} {k r : Nat} (hk : k < 4) (hw : ∀ i, i < k → w i < 15) (hr : r < 15) : nN (rwN w k) ||| ((nN r + (1 : Int32)) <<< (((4 : Int32) * nN k) &&& 31)) = nN (rwN (updN w k r) (k + 1)) := by
  have hl := rwN_lt hw
  have e16 : (16 : Nat) ^ k = 2 ^ (4 * k) := by rw [Nat.pow_mul]
  have hp : (16 : Nat) ^ k ≤ 16 ^ 3 := Nat.pow_le_pow_right (by decide) (by omega)
  have h163 : (16 : Nat) ^ 3 = 4096 := by decide
  have e1 : nN r + (1 : Int32) = nN (r + 1) := nN_add r 1
  have hm : (r + 1) * 2 ^ (4 * k) < 2147483648 := by
    rw [← e16]
    have : (r + 1) * 16 ^ k ≤ 16 * 4096 := Nat.mul_le_mul (by omega) (by omega)
    omega
  have e2 : nN (r + 1) <<< (((4 : Int32) * nN k) &&& 31) = nN ((r + 1) * 2 ^ (4 * k)) := pk_shlN (n := r + 1) (((4 : Int32) * nN k) &&& 31) (4 * k) (sm4 k hk) (by omega)
  have e3 : rwN (updN w k r) (k + 1) = rwN w k + (r + 1) * 16 ^ k := by
    show rwN (updN w k r) k + (updN w k r k + 1) * 16 ^ k = _
    rw [updN_s, rwN_c (w := updN w k r) (u := w) (fun i hi => if_neg (by omega))]
  rw [e1, e2, orI, e3, e16, Nat.or_comm, Nat.mul_comm, ← Nat.two_pow_add_eq_or_of_lt (show rwN w k < 2 ^ (4 * k) by rw [← e16]; exact hl), Nat.add_comm]
theorem cs_rule (hZ : ZI Z) : p_X3_ruleHere Z a (CS Z f n B rr br tr tb a t2 g h ar u ta er eo b5 b6 b7 q) = some (oN (rlN f n q)) := by
  unfold p_X3_ruleHere rlN
  rw [cs_11, bS]
  by_cases c7 : wdN f n q = some 7
  · rw [if_pos (show (wdN f n q).map Z.2.2.1 = some (Z.2.2.1 7) by rw [wd_is hZ (by decide)]; exact c7), if_pos c7]; rfl
  · rw [if_neg (show ¬ (wdN f n q).map Z.2.2.1 = some (Z.2.2.1 7) by rw [wd_is hZ (by decide)]; exact c7), bS, if_neg c7]
    by_cases c8 : wdN f n q = some 8
    · rw [if_pos (show (wdN f n q).map Z.2.2.1 = some (Z.2.2.1 8) by rw [wd_is hZ (by decide)]; exact c8), if_pos c8]; rfl
    · rw [if_neg (show ¬ (wdN f n q).map Z.2.2.1 = some (Z.2.2.1 8) by rw [wd_is hZ (by decide)]; exact c8), bS, if_neg c8]
      by_cases c1 : wdN f n q = some 1
      · rw [if_pos (show (wdN f n q).map Z.2.2.1 = some (Z.2.2.1 1) by rw [wd_is hZ (by decide)]; exact c1), if_pos c1]; rfl
      · rw [if_neg (show ¬ (wdN f n q).map Z.2.2.1 = some (Z.2.2.1 1) by rw [wd_is hZ (by decide)]; exact c1), if_neg c1]; rfl
theorem cs_rl4 (hC : CH Z f n B rr br tr tb a t2) {s : Nat} (hs : s < 8) (k1 k2 : Int32 → Mem → Option (Int32 × Mem)) (hk12 : ∀ x M, k1 x M = k2 x M) : ∀ d k v q fu, k + d = 3 → d < fu → (∀ i, i < k → v (68 + 3 * s + i) < 3) → q ≤ n → pl_X3_readRules_4 Z k1 k2 a fu (nN (rwN (fun i => v (68 + 3 * s + i)) k)) (nN k) (CS Z f n B rr br tr tb a t2 g h ar u ta er eo b5 b6 b7 q) = k2 (nN (rwN (fun i => (rlV f n s d v k q).1 (68 + 3 * s + i)) (rlV f n s d v k q).2.1)) (CS Z f n B rr br tr tb a t2 g h ar u ta er eo b5 b6 b7 (rlV f n s d v k q).2.2) := by
  intro d
  induction d with
  | zero =>
    intro k v q fu hk hf hv hq
    obtain ⟨F, rfl⟩ : ∃ F, fu = F + 1 := ⟨fu - 1, by omega⟩
    have e3 : k = 3 := by omega
    subst e3
    rw [pl_X3_readRules_4, if_pos (show (3 : Int32) ≤ nN 3 by decide)]
    rfl
  | succ d ih =>
    intro k v q fu hk hf hv hq
    obtain ⟨F, rfl⟩ : ∃ F, fu = F + 1 := ⟨fu - 1, by omega⟩
    have ek : nN k + (1 : Int32) = nN (k + 1) := nN_add k 1
    rw [pl_X3_readRules_4, if_neg (show ¬ (3 : Int32) ≤ nN k from nle_f (a := 3) (by omega) (by omega) (by omega)), cs_b, cs_rule hC.2.2.2.2.2, bS]
    cases hr : rlN f n q with
    | none => rw [if_pos (show oN none = (-1 : Int32) from rfl), rlV_n hr, hk12]
    | some r =>
      have hr3 := (rlN_lt hr).1
      rw [if_neg (show ¬ oN (some r) = (-1 : Int32) from nNm (by omega)), show oN (some r) = nN r from rfl, c_rowIndex (w := fun i => v (68 + 3 * s + i)) (by omega) (fun i hi => by have := hv i hi; omega) (by omega), bS]
      by_cases c : fnd (fun i => v (68 + 3 * s + i) = r) 0 k = none
      · have ew : (fun i => updN (updN v (68 + 3 * s + k) r) (44 + s) (k + 1) (68 + 3 * s + i)) = updN (fun i => v (68 + 3 * s + i)) k r := funext fun i => by
          show (if 68 + 3 * s + i = 44 + s then _ else if 68 + 3 * s + i = 68 + 3 * s + k then r else v (68 + 3 * s + i)) = (if i = k then r else v (68 + 3 * s + i))
          rw [if_neg (by omega)]
          by_cases e : i = k
          · rw [if_pos (by omega), if_pos e]
          · rw [if_neg (by omega), if_neg e]
        rw [c, if_pos (show oN none = (-1 : Int32) from rfl), cs_b, cs_adv hC hq, bS, row_s (w := fun i => v (68 + 3 * s + i)) (by omega) (fun i hi => by have := hv i hi; omega) (by omega), ek, ← ew, rlV_y hr c]
        exact ih (k + 1) (updN (updN v (68 + 3 * s + k) r) (44 + s) (k + 1)) (nxt f n q) F (by omega) (by omega) (fun i hi => by
          have e := congrFun ew i
          have e : updN (updN v (68 + 3 * s + k) r) (44 + s) (k + 1) (68 + 3 * s + i) = if i = k then r else v (68 + 3 * s + i) := e
          rw [e]
          by_cases e2 : i = k
          · rw [if_pos e2]; exact hr3
          · rw [if_neg e2]; exact hv i (by omega)) (nxt_b hq).2.1
      · cases hj : fnd (fun i => v (68 + 3 * s + i) = r) 0 k with
        | none => exact absurd hj c
        | some j =>
          have := (fnd_some hj).2.1
          rw [if_neg (show ¬ oN (some j) = (-1 : Int32) from nNm (by omega)), rlV_d hr c, hk12]
theorem cs_rules (hC : CH Z f n B rr br tr tb a t2) {s : Nat} (hs : s < 8) {v : Nat → Nat} (hq : q ≤ n) : p_X3_readRules Z a (CS Z f n B rr br tr tb a t2 g h ar u ta er eo b5 b6 b7 q) = some (nN (rwN (fun i => (rlV f n s 3 v 0 q).1 (68 + 3 * s + i)) (rlV f n s 3 v 0 q).2.1), CS Z f n B rr br tr tb a t2 g h ar u ta er eo b5 b6 b7 (rlV f n s 3 v 0 q).2.2) := by
  unfold p_X3_readRules
  rw [jn_def]
  exact cs_rl4 hC hs _ _ (fun _ _ => rfl) 3 0 v q FU (by omega) (FU_pos (by omega)) (fun i hi => by omega) hq
end CST
