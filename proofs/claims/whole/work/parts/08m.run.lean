/-! allocation: what a round does -/
def tryB (v : Nat → Nat) (pl : Nat → Option Nat) (nx : Nat → Nat) (c : Nat) : Bool := decide (v (404 + c) = 0) && decide (pl c = none) && decide (nx c < v (324 + c))
def tryV (v : Nat → Nat) (pl : Nat → Option Nat) (nx : Nat → Nat) (st k : Nat) : Nat → Nat := fun i => if (524 ≤ i ∧ i < 524 + k) ∧ tryB v pl nx (i - 524) = true then st else v i
def tryP (v : Nat → Nat) (pl : Nat → Option Nat) (nx : Nat → Nat) (k : Nat) : Nat → Option Nat := fun c => if c < k ∧ tryB v pl nx c = true then some (v (564 + 4 * c + nx c)) else pl c
def tryX (v : Nat → Nat) (pl : Nat → Option Nat) (nx : Nat → Nat) (k : Nat) : Nat → Nat := fun c => if c < k ∧ tryB v pl nx c = true then nx c + 1 else nx c
section TR
variable {v : Nat → Nat} {pl : Nat → Option Nat} {nx : Nat → Nat} {st k : Nat}
theorem tryV_0 : tryV v pl nx st 0 = v := funext fun i => if_neg (by omega)
theorem tryP_0 : tryP v pl nx 0 = pl := funext fun i => if_neg (by omega)
theorem tryX_0 : tryX v pl nx 0 = nx := funext fun i => if_neg (by omega)
theorem tryV_t (h : tryB v pl nx k = true) : updN (tryV v pl nx st k) (524 + k) st = tryV v pl nx st (k + 1) := by
  funext i
  unfold updN tryV
  by_cases c : i = 524 + k
  · rw [if_pos c, if_pos ⟨by omega, by rw [show i - 524 = k by omega]; exact h⟩]
  · rw [if_neg c]
    by_cases c2 : (524 ≤ i ∧ i < 524 + k) ∧ tryB v pl nx (i - 524) = true
    · rw [if_pos c2, if_pos ⟨by omega, c2.2⟩]
    · rw [if_neg c2, if_neg (fun z => c2 ⟨by omega, z.2⟩)]
theorem tryV_f (h : ¬ tryB v pl nx k = true) : tryV v pl nx st k = tryV v pl nx st (k + 1) := by
  funext i
  unfold tryV
  by_cases c2 : (524 ≤ i ∧ i < 524 + k) ∧ tryB v pl nx (i - 524) = true
  · rw [if_pos c2, if_pos ⟨by omega, c2.2⟩]
  · rw [if_neg c2, if_neg]
    intro z
    by_cases c : i = 524 + k
    · exact h (by have := z.2; rw [show i - 524 = k by omega] at this; exact this)
    · exact c2 ⟨by omega, z.2⟩
theorem tryP_t (h : tryB v pl nx k = true) : updO (tryP v pl nx k) k (some (v (564 + 4 * k + nx k))) = tryP v pl nx (k + 1) := by
  funext c
  unfold updO tryP
  by_cases e : c = k
  · subst e; rw [if_pos rfl, if_pos ⟨by omega, h⟩]
  · rw [if_neg e]
    by_cases c2 : c < k ∧ tryB v pl nx c = true
    · rw [if_pos c2, if_pos ⟨by omega, c2.2⟩]
    · rw [if_neg c2, if_neg (fun z => c2 ⟨by omega, z.2⟩)]
theorem tryP_f (h : ¬ tryB v pl nx k = true) : tryP v pl nx k = tryP v pl nx (k + 1) := by
  funext c
  unfold tryP
  by_cases c2 : c < k ∧ tryB v pl nx c = true
  · rw [if_pos c2, if_pos ⟨by omega, c2.2⟩]
  · rw [if_neg c2, if_neg]
    intro z
    by_cases e : c = k
    · subst e; exact h z.2
    · exact c2 ⟨by omega, z.2⟩
theorem tryX_t (h : tryB v pl nx k = true) : updN (tryX v pl nx k) k (nx k + 1) = tryX v pl nx (k + 1) := by
  funext c
  unfold updN tryX
  by_cases e : c = k
  · subst e; rw [if_pos rfl, if_pos ⟨by omega, h⟩]
  · rw [if_neg e]
    by_cases c2 : c < k ∧ tryB v pl nx c = true
    · rw [if_pos c2, if_pos ⟨by omega, c2.2⟩]
    · rw [if_neg c2, if_neg (fun z => c2 ⟨by omega, z.2⟩)]
theorem tryX_f (h : ¬ tryB v pl nx k = true) : tryX v pl nx k = tryX v pl nx (k + 1) := by
  funext c
  unfold tryX
  by_cases c2 : c < k ∧ tryB v pl nx c = true
  · rw [if_pos c2, if_pos ⟨by omega, c2.2⟩]
  · rw [if_neg c2, if_neg]
    intro z
    by_cases e : c = k
    · subst e; exact h z.2
    · exact c2 ⟨by omega, z.2⟩
theorem tryV_Q : sameQ v (tryV v pl nx st k) ∨ 40 < k := by
  by_cases h : 40 < k
  · right; exact h
  · left
    intro i hi
    unfold tryV
    rw [if_neg (fun z => hi (by omega))]
theorem tryV_n {i : Nat} (h : ¬ (524 ≤ i ∧ i < 524 + k)) : tryV v pl nx st k i = v i := if_neg (fun z => h z.1)
theorem try_at (hk : k ≤ k) : tryP v pl nx k k = pl k := if_neg (by omega)
end TR
/-- one goes: the last at a school -/
def krm (s : Nat) (x : (Nat → Nat) × (Nat → Option Nat)) : (Nat → Nat) × (Nat → Option Nat) := match lstO x.1 x.2 s with
  | none => x
  | some l => (updN x.1 (524 + l) 0, updO x.2 l none)
def krn (s : Nat) : Nat → (Nat → Nat) × (Nat → Option Nat) → (Nat → Nat) × (Nat → Option Nat)
  | 0, x => x
  | n + 1, x => krn s n (krm s x)
def kpS (s : Nat) (x : (Nat → Nat) × (Nat → Option Nat)) : (Nat → Nat) × (Nat → Option Nat) := krn s (hldN x.1 x.2 s - x.1 (20 + s)) x
def kpA : Nat → (Nat → Nat) × (Nat → Option Nat) → (Nat → Nat) × (Nat → Option Nat)
  | 0, x => x
  | s + 1, x => kpS s (kpA s x)
/-- the rounds: how many at most, the next one's number -/
def alo : Nat → Nat → (Nat → Nat) × (Nat → Option Nat) → (Nat → Nat) → ((Nat → Nat) × (Nat → Option Nat)) × (Nat → Nat)
  | 0, _, x, nx => (x, nx)
  | n + 1, st, x, nx => if 0 < cnt (fun c => tryB x.1 x.2 nx c = true) (x.1 1) then alo n (st + 1) (kpA (x.1 0) (updN (tryV x.1 x.2 nx st (x.1 1)) 9 st, tryP x.1 x.2 nx (x.1 1))) (tryX x.1 x.2 nx (x.1 1)) else (x, nx)
section KR
variable {x : (Nat → Nat) × (Nat → Option Nat)}
theorem lst_some {v : Nat → Nat} {pl : Nat → Option Nat} {s l : Nat} (h : lstO v pl s = some l) : l < v 1 ∧ pl l = some s := mxO_lt h
theorem krm_Inv {s : Nat} (hI : Inv x.1 x.2) : Inv (krm s x).1 (krm s x).2 := by
  unfold krm
  cases h : lstO x.1 x.2 s with
  | none => exact hI
  | some l =>
    have h1 := hI.h1
    have h2 := lst_some h
    exact (hI.pn (c := l)).w (by unfold okW; omega)
theorem krm_Q {s : Nat} (hI : Inv x.1 x.2) : sameQ x.1 (krm s x).1 ∧ ∀ i, ¬ (524 ≤ i ∧ i < 564) → (krm s x).1 i = x.1 i := by
  unfold krm
  cases h : lstO x.1 x.2 s with
  | none => exact ⟨sameQ.r _, fun _ _ => rfl⟩
  | some l =>
    have h1 := hI.h1
    have h2 := lst_some h
    exact ⟨sameQ.w (by omega), fun i hi => updN_n (by omega)⟩
theorem krn_Inv {s : Nat} : ∀ n {x : (Nat → Nat) × (Nat → Option Nat)}, Inv x.1 x.2 → Inv (krn s n x).1 (krn s n x).2 := by
  intro n
  induction n with
  | zero => intro x h; exact h
  | succ n ih => intro x h; exact ih (krm_Inv h)
theorem krn_Q {s : Nat} : ∀ n {x : (Nat → Nat) × (Nat → Option Nat)}, Inv x.1 x.2 → sameQ x.1 (krn s n x).1 ∧ ∀ i, ¬ (524 ≤ i ∧ i < 564) → (krn s n x).1 i = x.1 i := by
  intro n
  induction n with
  | zero => intro x h; exact ⟨sameQ.r _, fun _ _ => rfl⟩
  | succ n ih =>
    intro x h
    obtain ⟨q1, q2⟩ := krm_Q (s := s) h
    obtain ⟨i1, i2⟩ := ih (krm_Inv (s := s) h)
    exact ⟨q1.t i1, fun i hi => (i2 i hi).trans (q2 i hi)⟩
theorem kpA_Inv : ∀ s {x : (Nat → Nat) × (Nat → Option Nat)}, Inv x.1 x.2 → Inv (kpA s x).1 (kpA s x).2 := by
  intro s
  induction s with
  | zero => intro x h; exact h
  | succ s ih => intro x h; exact krn_Inv _ (ih h)
theorem kpA_Q : ∀ s {x : (Nat → Nat) × (Nat → Option Nat)}, Inv x.1 x.2 → sameQ x.1 (kpA s x).1 ∧ ∀ i, ¬ (524 ≤ i ∧ i < 564) → (kpA s x).1 i = x.1 i := by
  intro s
  induction s with
  | zero => intro x h; exact ⟨sameQ.r _, fun _ _ => rfl⟩
  | succ s ih =>
    intro x h
    obtain ⟨q1, q2⟩ := ih h
    obtain ⟨i1, i2⟩ := krn_Q (s := s) (hldN (kpA s x).1 (kpA s x).2 s - (kpA s x).1 (20 + s)) (kpA_Inv s h)
    exact ⟨q1.t i1, fun i hi => (i2 i hi).trans (q2 i hi)⟩
theorem try_Inv {v : Nat → Nat} {pl : Nat → Option Nat} {nx : Nat → Nat} {st : Nat} (hI : Inv v pl) (hst : st < 2147483648) : ∀ k, k ≤ v 1 → Inv (tryV v pl nx st k) (tryP v pl nx k) := by
  have h1 := hI.h1
  intro k
  induction k with
  | zero => intro _; rw [tryV_0, tryP_0]; exact hI
  | succ k ih =>
    intro hk
    have ih := ih (by omega)
    by_cases c : tryB v pl nx k = true
    · rw [← tryV_t c, ← tryP_t c]
      have c2 := c
      unfold tryB at c2
      simp only [Bool.and_eq_true, decide_eq_true_eq] at c2
      have i1 := ih.ps (c := k) (s := v (564 + 4 * k + nx k)) (i := nx k) (by rw [tryV_n (by omega)]; omega) (by rw [tryV_n (by omega)]; exact c2.1.1) (by rw [tryV_n (by omega)]; exact c2.2) (tryV_n (by omega))
      exact i1.w (by unfold okW; omega)
    · rw [← tryV_f c, ← tryP_f c]
      exact ih
theorem krm_hld {s : Nat} (hI : Inv x.1 x.2) (h : 0 < hldN x.1 x.2 s) : hldN (krm s x).1 (krm s x).2 s + 1 = hldN x.1 x.2 s := by
  have h1 := hI.h1
  unfold krm
  cases hl : lstO x.1 x.2 s with
  | none =>
    obtain ⟨k, hk, hp⟩ := cnt_pos.mp h
    exact absurd hp (mxO_none.mp hl k hk)
  | some l =>
    have h2 := lst_some hl
    show cnt (fun k => updO x.2 l none k = some s) (updN x.1 (524 + l) 0 1) + 1 = cnt (fun k => x.2 k = some s) (x.1 1)
    rw [updN_n (by omega)]
    refine (cnt_upd h2.1 ?_ h2.2 (fun k hk hne => ?_)).symm
    · rw [updO_s]; intro z; cases z
    · rw [updO_n hne]
end KR
section CA
variable {B : Mem} {r b t tb : Nat} {g : Nat → Int32} {h : Nat → Int64} {ar : Nat → Nat → Int32} {u : Nat → Int32} {ta : Nat → Nat → Int32} {v : Nat → Nat} {pl : Nat → Option Nat} {cd : Nat → Nat}
theorem c_copyTo (hG : GE r b t tb) {r2 b2 t2 : Nat} {g2 : Nat → Int32} {h2 : Nat → Int64} {ar2 : Nat → Nat → Int32} (hb2 : r2 < b2) (hd : oR r b r2 ∧ (b2 + 9 ≤ b ∨ b + 9 ≤ b2) ∧ (r < b2 ∨ b2 + 9 ≤ r)) (hB : ∃ B2, B = ovr B2 r2 b2 t2 g2 h2 ar2) : True := trivial
theorem wr0 {n : Nat} {f : Nat → Int32} {x : Int32} {k : Nat} (h : k < n) (hn : n < 2147483648) : wr n f (nN k) x = some (upd f k x) := wr_nN h hn
/-- the office's Allocation: at q, its row at q + 1 -/
def ovq (B : Mem) (q : Nat) (T : Nat → Int32) : Mem := fun x => if x = q then some (.inr (0, [.ref (q + 1)])) else if x = q + 1 then some (.inl (0, 40, .inl T)) else B x
def GQ (q r b t tb : Nat) : Prop := (oR r b q ∧ oR r b (q + 1)) ∧ oTw t tb q ∧ oTw t tb (q + 1)
theorem q_q {q : Nat} (hQ : GQ q r b t tb) {T : Nat → Int32} : ofc (ovq B q T) r b t tb g h ar u ta q = some (.inr (0, [.ref (q + 1)])) := by
  unfold ofc; rw [ovr_o _ _ _ _ _ _ _ hQ.1.1, ovt_o _ _ _ _ _ hQ.2.1]; exact if_pos rfl
theorem q_r {q : Nat} (hQ : GQ q r b t tb) {T : Nat → Int32} : ofc (ovq B q T) r b t tb g h ar u ta (q + 1) = some (.inl (0, 40, .inl T)) := by
  unfold ofc; rw [ovr_o _ _ _ _ _ _ _ hQ.1.2, ovt_o _ _ _ _ _ hQ.2.2]; unfold ovq; rw [if_neg (by omega), if_pos rfl]
theorem q_C {q : Nat} (hQ : GQ q r b t tb) {T : Nat → Int32} : isC 0 (ofc (ovq B q T) r b t tb g h ar u ta) q = some () := by unfold isC; rw [q_q hQ]; rfl
theorem q_0 {q : Nat} (hQ : GQ q r b t tb) {T : Nat → Int32} : gR 0 0 (ofc (ovq B q T) r b t tb g h ar u ta) q = some (q + 1) := by unfold gR gV; rw [q_q hQ]; rfl
theorem q_d {q : Nat} (hQ : GQ q r b t tb) {T : Nat → Int32} (i : Int32) : aI 0 (ofc (ovq B q T) r b t tb g h ar u ta) (q + 1) i = rd 40 T i := by
  unfold aI; rw [q_r hQ]; unfold rd; simp
theorem q_up {q : Nat} (hQ : GQ q r b t tb) {T T' : Nat → Int32} : upM (ofc (ovq B q T) r b t tb g h ar u ta) (q + 1) (.inl (0, 40, .inl T')) = ofc (ovq B q T') r b t tb g h ar u ta := by
  unfold ofc
  rw [ovr_up _ _ _ _ _ _ _ hQ.1.2]
  congr 1
  funext x
  have hh := hQ.2.2
  unfold oTw at hh
  unfold upM ovt ovq
  by_cases c : x = q + 1
  · subst c; rw [if_pos rfl, if_neg hh.1, if_neg (by omega), if_neg (by omega), if_pos rfl]
  · rw [if_neg c]
    by_cases c1 : x = t
    · rw [if_pos c1, if_pos c1]
    · rw [if_neg c1, if_neg c1]
      by_cases c2 : tb ≤ x ∧ x < tb + 10
      · rw [if_pos c2, if_pos c2]
      · rw [if_neg c2, if_neg c2, if_neg c, if_neg c]
theorem q_e {q : Nat} (hQ : GQ q r b t tb) {T : Nat → Int32} (i x : Int32) : aIs (ofc (ovq B q T) r b t tb g h ar u ta) (q + 1) i x = (wr 40 T i x).map (fun f => ofc (ovq B q f) r b t tb g h ar u ta) := by
  unfold aIs
  rw [q_r hQ]
  unfold wr
  by_cases hh : ¬ (i < 0 ∨ 40 ≤ i.toNatClampNeg)
  · simp only [hh, true_and, if_true, Option.map_some, not_false_eq_true]
    rw [q_up hQ]
  · simp only [hh, and_false, if_false, Option.map_none]
theorem c_tryNext (B : Mem) (hG : GE r b t tb) (hR : RG g h ar v pl) (hT : TG u ta v cd) (hI : Inv v pl) {q : Nat} (hQ : GQ q r b t tb) {T : Nat → Int32} {nx : Nat → Nat} {st : Nat} (hst : st < 2147483648) (hT2 : ∀ c, c < v 1 → T c = nN (nx c)) (hx : ∀ c, nx c ≤ 4) : ∃ g' h' ar' T', p_X0_tryNext q r (nN st) (ofc (ovq B q T) r b t tb g h ar u ta) = some (bI (0 < cnt (fun c => tryB v pl nx c = true) (v 1)), ofc (ovq B q T') r b t tb g' h' ar' u ta) ∧ RG g' h' ar' (tryV v pl nx st (v 1)) (tryP v pl nx (v 1)) ∧ ∀ c, c < v 1 → T' c = nN (tryX v pl nx (v 1) c) := by
  have h0 := hI.h0; have h1 := hI.h1
  have lp : ∀ d k fu (g : Nat → Int32) (h : Nat → Int64) (ar : Nat → Nat → Int32) (T : Nat → Int32), RG g h ar (tryV v pl nx st k) (tryP v pl nx k) → (∀ c, c < v 1 → T c = nN (tryX v pl nx k c)) → k + d = v 1 → d < fu → ∃ g' h' ar' T', pl_X0_tryNext_5 (fun z22 M23 => if z22 = 0 ∨ z22 = 1 then some (z22, M23) else none) q r (nN st) fu (bI (0 < cnt (fun c => tryB v pl nx c = true) k)) (nN k) (ofc (ovq B q T) r b t tb g h ar u ta) = some (bI (0 < cnt (fun c => tryB v pl nx c = true) (v 1)), ofc (ovq B q T') r b t tb g' h' ar' u ta) ∧ RG g' h' ar' (tryV v pl nx st (v 1)) (tryP v pl nx (v 1)) ∧ ∀ c, c < v 1 → T' c = nN (tryX v pl nx (v 1) c) := by
    intro d
    induction d with
    | zero =>
      intro k fu g h ar T hR hT3 hk hf
      obtain ⟨f, rfl⟩ : ∃ f, fu = f + 1 := ⟨fu - 1, by omega⟩
      have ek : k = v 1 := by omega
      subst ek
      refine ⟨g, h, ar, T, ?_, hR, hT3⟩
      have z1 : tryV v pl nx st (v 1) 1 = v 1 := tryV_n (by omega)
      rw [pl_X0_tryNext_5, fv_1, bS, hR.g1, z1, if_pos (nle_t (by omega) (by omega) (by omega))]
      have hb01 : bI (0 < cnt (fun c => tryB v pl nx c = true) (v 1)) = 0 ∨ bI (0 < cnt (fun c => tryB v pl nx c = true) (v 1)) = 1 := by
        unfold bI; split
        · right; rfl
        · left; rfl
      rw [if_pos hb01]
    | succ d ih =>
      intro k fu g h ar T hR hT3 hk hf
      obtain ⟨f, rfl⟩ : ∃ f, fu = f + 1 := ⟨fu - 1, by omega⟩
      have hkv : k < v 1 := by omega
      have IK := try_Inv (nx := nx) (st := st) hI hst k (by omega)
      have z1 : tryV v pl nx st k 1 = v 1 := tryV_n (by omega)
      have z324 : tryV v pl nx st k (324 + k) = v (324 + k) := tryV_n (by omega)
      have z404 : tryV v pl nx st k (404 + k) = v (404 + k) := tryV_n (by omega)
      have a5 := hR.a5 (c := k) (by omega)
      rw [show tryP v pl nx k k = pl k from if_neg (by omega)] at a5
      have a4 := hR.a4 (c := k) (by omega)
      have e9 : p_X6_isIn (h 9) (nN k) (ofc (ovq B q T) r b t tb g h ar u ta) = some (bI (v (404 + k) = 1)) := by
        rw [hR.h9, z1]
        have := c_isIn (P := fun c => tryV v pl nx st k (404 + c) = 1) (n := v 1) (c := k) (M := ofc (ovq B q T) r b t tb g h ar u ta) (by omega) hkv
        rw [this]
        exact congrArg some (bI_c (by rw [z404]))
      have hch := hI.chi k (by omega)
      have xk : tryX v pl nx k k = nx k := if_neg (by omega)
      have tk := hT3 k hkv
      rw [xk] at tk
      have nk4 := hx k
      have cs : cnt (fun c => tryB v pl nx c = true) (k + 1) = cnt (fun c => tryB v pl nx c = true) k + (if tryB v pl nx k = true then 1 else 0) := rfl
      have ek1 : nN k + (1 : Int32) = nN (k + 1) := nN_add k 1
      have ex1 : nN (nx k) + (1 : Int32) = nN (nx k + 1) := nN_add _ 1
      have em1 : (-1 : Int32) = mI := rfl
      have skip : ¬ tryB v pl nx k = true → ∃ g' h' ar' T', pl_X0_tryNext_5 (fun z22 M23 => if z22 = 0 ∨ z22 = 1 then some (z22, M23) else none) q r (nN st) f (bI (0 < cnt (fun c => tryB v pl nx c = true) k)) (nN (k + 1)) (ofc (ovq B q T) r b t tb g h ar u ta) = some (bI (0 < cnt (fun c => tryB v pl nx c = true) (v 1)), ofc (ovq B q T') r b t tb g' h' ar' u ta) ∧ RG g' h' ar' (tryV v pl nx st (v 1)) (tryP v pl nx (v 1)) ∧ ∀ c, c < v 1 → T' c = nN (tryX v pl nx (v 1) c) := by
        intro hn
        have i2 := ih (k + 1) f g h ar T (by rw [← tryV_f hn, ← tryP_f hn]; exact hR) (by rw [← tryX_f hn]; exact hT3) (by omega) (by omega)
        rw [cs, if_neg hn] at i2
        exact i2
      rw [pl_X0_tryNext_5, fv_1, bS, hR.g1, z1, if_neg (nle_f (by omega) (by omega) (by omega)), fv_16, bS, fd_5 hG, rd_nN (by omega) (by omega), bS, a5, ek1, em1]
      by_cases c1 : pl k = none
      · rw [c1]
        show ∃ g' h' ar' T', (if mI = mI then _ else _) = _ ∧ _
        rw [if_pos rfl, fv_9, bS, e9, bS]
        by_cases c2 : v (404 + k) = 1
        · rw [← bI_t c2, if_neg (by decide)]
          exact skip (by unfold tryB; simp [c2])
        · rw [← bI_f c2, if_pos (by rfl), fv_15, bS, fd_4 hG, rd_nN (by omega) (by omega), bS, q_0 hQ, bS, q_d hQ, rd_nN (by omega) (by omega), bS, a4, tk, z324]
          have e8 : p_X6_rowEntry (nN (rwN (fun i => tryV v pl nx st k (564 + 4 * k + i)) (v (324 + k)))) (nN (nx k)) (ofc (ovq B q T) r b t tb g h ar u ta) = some (oN (if nx k < v (324 + k) then some (v (564 + 4 * k + nx k)) else none)) := by
            have w15 := wis15 IK (c := k) (by omega)
            rw [z324] at w15
            by_cases n4 : nx k < 4
            · rw [c_rowEntry (w := fun i => tryV v pl nx st k (564 + 4 * k + i)) (by omega) w15 n4]
              rw [tryV_n (show ¬ (524 ≤ 564 + 4 * k + nx k ∧ 564 + 4 * k + nx k < 524 + k) by omega)]
            · rw [c_rowEntry_no (Or.inr (by rw [nN_toInt (by omega)]; omega)), if_neg (by omega)]
              rfl
          rw [e8, bS]
          by_cases c3 : nx k < v (324 + k)
          · have ht : tryB v pl nx k = true := by unfold tryB; simp [c1, c3]; omega
            have w8 := hI.wis k hkv (nx k) c3
            rw [if_pos c3]
            show ∃ g' h' ar' T', (if nN (v (564 + 4 * k + nx k)) = mI then _ else _) = _ ∧ _
            have R2 := hR.place (c := k) (p := some (v (564 + 4 * k + nx k)))
            have z0 : tryV v pl nx st k 0 = v 0 := tryV_n (by omega)
            have R3 := R2.round (by omega) (by omega) (c := k) (x := st) (by omega)
            rw [tryP_t ht, tryV_t ht] at R3
            have i2 := ih (k + 1) f _ _ _ (upd T k (nN (nx k + 1))) R3 (fun c hc => by
              rw [← tryX_t ht]
              by_cases e : c = k
              · subst e; rw [pk_us, updN_s]
              · rw [pk_un e, updN_n e]; exact hT3 c hc) (by omega) (by omega)
            rw [cs, if_pos ht] at i2
            rw [if_neg (nNm (by omega)), bS, q_d hQ, rd_nN (by omega) (by omega), bS, tk, ex1, q_e hQ, wr_nN (by omega) (by omega), Option.map_some, bS, fv_16, bS, fe_5 hG, wr_nN (by omega) (by omega), Option.map_some, bS, fv_17, bS, fe_6 hG, wr_nN (by omega) (by omega), Option.map_some, bS]
            have e1 : (1 : Int32) = bI (0 < cnt (fun c => tryB v pl nx c = true) k + 1) := bI_t (by omega)
            rw [e1]
            exact i2
          · rw [if_neg c3]
            show ∃ g' h' ar' T', (if mI = mI then _ else _) = _ ∧ _
            rw [if_pos rfl]
            exact skip (by unfold tryB; simp [c3])
      · cases hp : pl k with
        | none => exact absurd hp c1
        | some s =>
          have := hI.plb k s hp
          show ∃ g' h' ar' T', (if nN s = mI then _ else _) = _ ∧ _
          rw [if_neg (nNm (by omega))]
          exact skip (by unfold tryB; simp [c1])
  unfold p_X0_tryNext
  exact lp (v 1) 0 FU g h ar T (by rw [tryV_0, tryP_0]; exact hR) (by rw [tryX_0]; exact hT2) (by omega) (FU_pos (by omega))
end CA
