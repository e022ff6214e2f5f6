/-! the reference's row cleared -/
section CLR
variable {B : Mem} {m : Nat} {g : Nat → Int32} {a : Nat → Nat → Int32}
theorem e_clr1 (k1 : Mem → Option Mem) : ∀ d k fu (F : Nat → Int32), k + d = 764 → d < fu → (∀ i, i < k → F i = nN 0) → (∀ i, 764 ≤ i → F i = nN 0) → pl_X7_clear_2 k1 m fu (nN k) (ovl B m g (up2 a 1 F)) = k1 (ovl B m g (up2 a 1 (fun _ => nN 0))) := by
  intro d
  induction d with
  | zero =>
    intro k fu F hk hf h1 h2
    obtain ⟨f, rfl⟩ : ∃ f, fu = f + 1 := ⟨fu - 1, by omega⟩
    have e : F = fun _ => nN 0 := funext fun i => by
      by_cases c : i < k
      · exact h1 i c
      · exact h2 i (by omega)
    rw [pl_X7_clear_2, if_pos (show (764 : Int32) ≤ nN k from nle_t (a := 764) (by omega) (by omega) (by omega)), e]
  | succ d ih =>
    intro k fu F hk hf h1 h2
    obtain ⟨f, rfl⟩ : ∃ f, fu = f + 1 := ⟨fu - 1, by omega⟩
    have ek : nN k + (1 : Int32) = nN (k + 1) := nN_add k 1
    rw [pl_X7_clear_2, if_neg (show ¬ (764 : Int32) ≤ nN k from nle_f (a := 764) (by omega) (by omega) (by omega)), or_0, bS, ow_1, up2_s, wr_nN (by omega) (by omega), Option.map_some, bS, up2_up2, ek]
    refine ih (k + 1) f (upd F k (0 : Int32)) (by omega) (by omega) (fun i hi => ?_) (fun i hi => ?_)
    · show (if i = k then (0 : Int32) else F i) = nN 0
      by_cases c : i = k
      · rw [if_pos c]; rfl
      · rw [if_neg c]; exact h1 i (by omega)
    · show (if i = k then (0 : Int32) else F i) = nN 0
      rw [if_neg (by omega)]; exact h2 i hi
def clF (k : Nat) : Nat → Int32 := fun i => if 484 ≤ i ∧ i < 484 + k then mI else nN 0
theorem clF_s {k : Nat} : upd (clF k) (484 + k) mI = clF (k + 1) := by
  funext i
  show (if i = 484 + k then mI else clF k i) = _
  unfold clF
  by_cases c : i = 484 + k
  · rw [if_pos c, if_pos (by omega)]
  · rw [if_neg c]
    by_cases c2 : 484 ≤ i ∧ i < 484 + k
    · rw [if_pos c2, if_pos (by omega)]
    · rw [if_neg c2, if_neg (by omega)]
theorem e_clr2 (k1 : Mem → Option Mem) : ∀ d k fu, k + d = 40 → d < fu → pl_X7_clear_24 k1 m fu (nN k) (ovl B m g (up2 a 1 (clF k))) = k1 (ovl B m g (up2 a 1 (clF 40))) := by
  intro d
  induction d with
  | zero =>
    intro k fu hk hf
    obtain ⟨f, rfl⟩ : ∃ f, fu = f + 1 := ⟨fu - 1, by omega⟩
    rw [pl_X7_clear_24, if_pos (show (40 : Int32) ≤ nN k from nle_t (a := 40) (by omega) (by omega) (by omega)), show k = 40 by omega]
  | succ d ih =>
    intro k fu hk hf
    obtain ⟨f, rfl⟩ : ∃ f, fu = f + 1 := ⟨fu - 1, by omega⟩
    have ek : nN k + (1 : Int32) = nN (k + 1) := nN_add k 1
    have e4 : (484 : Int32) + nN k = nN (484 + k) := nN_add 484 k
    rw [pl_X7_clear_24, if_neg (show ¬ (40 : Int32) ≤ nN k from nle_f (a := 40) (by omega) (by omega) (by omega)), or_0, bS, e4, ow_1, up2_s, wr_nN (by omega) (by omega), Option.map_some, bS, up2_up2, ek]
    rw [show upd (clF k) (484 + k) (-1 : Int32) = clF (k + 1) from clF_s]
    exact ih (k + 1) f (by omega) (by omega)
theorem e_clear {F : Nat → Int32} (hF : ∀ i, 764 ≤ i → F i = nN 0) : p_X7_clear m (ovl B m g (up2 a 1 F)) = some (ovl B m g (up2 a 1 (enc (fun _ => 0) (fun _ => none)))) := by
  have e1 := e_clr1 (B := B) (m := m) (g := g) (a := a) (fun M4 => pl_X7_clear_24 (fun M8 => some M8) m FU (0 : Int32) M4) 764 0 FU F (by omega) (FU_pos (by omega)) (fun i hi => absurd hi (Nat.not_lt_zero _)) hF
  have e2 := e_clr2 (B := B) (m := m) (g := g) (a := a) (fun M8 => some M8) 40 0 FU (by omega) (FU_pos (by omega))
  have e0 : clF 0 = fun _ => nN 0 := funext fun i => if_neg (by omega)
  have e4 : clF 40 = enc (fun _ => 0) (fun _ => none) := by
    funext i
    unfold clF enc
    by_cases c : 484 ≤ i ∧ i < 524
    · rw [if_pos c, if_pos c]; rfl
    · rw [if_neg c, if_neg c]
  rw [e0, e4] at e2
  exact e1.trans e2
end CLR
