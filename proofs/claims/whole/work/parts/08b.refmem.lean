/-! the reference's memory: g its numbers by their fields, a its rows (1 w, 2 wKept, 3 aside, 4 savedRow, 5 past, 6 names, 7 namesKept, 8 next, 9 input, 10 classes, 11 gotWith, 12 trueWish, 13 output) -/
def fl7 (m : Nat) (g : Nat → Int32) : List Value := [.ref (m + 1), .ref (m + 2), .ref (m + 3), .ref (m + 4), .ref (m + 5), .int (g 5), .int (g 6), .ref (m + 6), .ref (m + 7), .int (g 9), .ref (m + 8), .ref (m + 9), .int (g 12), .int (g 13), .int (g 14), .int (g 15), .int (g 16), .int (g 17), .int (g 18), .int (g 19), .int (g 20), .int (g 21), .ref (m + 10), .ref (m + 11), .ref (m + 12), .int (g 25), .ref (m + 13), .int (g 27)]
def ln7 (j : Nat) : Nat := match j with | 1 => 764 | 2 => 764 | 3 => 764 | 4 => 764 | 5 => 7640 | 6 => 48 | 7 => 48 | 8 => 40 | 9 => 900 | 10 => 4 | 11 => 40 | 12 => 4 | 13 => 400 | _ => 0
def ovl (B : Mem) (m : Nat) (g : Nat → Int32) (a : Nat → Nat → Int32) : Mem := fun x => if x = m then some (.inr (6, fl7 m g)) else if m < x ∧ x ≤ m + 13 then some (.inl (0, ln7 (x - m), .inl (a (x - m)))) else B x
def rd (n : Nat) (f : Nat → Int32) (i : Int32) : Option Int32 := if ¬ (i < 0 ∨ n ≤ i.toNatClampNeg) then some (f i.toNatClampNeg) else none
theorem rd_nN {n : Nat} {f : Nat → Int32} {k : Nat} (h : k < n) (hn : n < 2147483648) : rd n f (nN k) = some (f k) := by
  have h1 := nN_neg0 (n := k) (by omega)
  have h2 := nN_clamp (n := k) (by omega)
  unfold rd
  rw [h2, if_pos]
  intro h3
  rcases h3 with h3 | h3
  · exact h1 h3
  · omega
def wr (n : Nat) (f : Nat → Int32) (i x : Int32) : Option (Nat → Int32) := if ¬ (i < 0 ∨ n ≤ i.toNatClampNeg) then some (upd f i.toNatClampNeg x) else none
theorem wr_nN {n : Nat} {f : Nat → Int32} {k : Nat} {x : Int32} (h : k < n) (hn : n < 2147483648) : wr n f (nN k) x = some (upd f k x) := by
  have h1 := nN_neg0 (n := k) (by omega)
  have h2 := nN_clamp (n := k) (by omega)
  unfold wr
  rw [h2, if_pos]
  intro h3
  rcases h3 with h3 | h3
  · exact h1 h3
  · omega
section OV
variable (B : Mem) (m : Nat) (g : Nat → Int32) (a : Nat → Nat → Int32)
theorem ovl_m : ovl B m g a m = some (.inr (6, fl7 m g)) := by unfold ovl; rw [if_pos rfl]
theorem ovl_a {j : Nat} (h1 : 1 ≤ j) (h2 : j ≤ 13) : ovl B m g a (m + j) = some (.inl (0, ln7 j, .inl (a j))) := by
  unfold ovl
  rw [if_neg (by omega), if_pos (by omega)]
  simp only [Nat.add_sub_cancel_left]
theorem ovl_o {x : Nat} (h : ¬ (m ≤ x ∧ x ≤ m + 13)) : ovl B m g a x = B x := by
  unfold ovl
  rw [if_neg (by omega), if_neg (by omega)]
theorem oc : isC 6 (ovl B m g a) m = some () := by unfold isC; rw [ovl_m]; rfl
theorem o_rd {j : Nat} (h1 : 1 ≤ j) (h2 : j ≤ 13) (i : Int32) : aI 0 (ovl B m g a) (m + j) i = rd (ln7 j) (a j) i := by
  unfold aI
  rw [ovl_a B m g a h1 h2]
  unfold rd
  simp
theorem upM_a {j : Nat} (h1 : 1 ≤ j) (h2 : j ≤ 13) (f : Nat → Int32) : upM (ovl B m g a) (m + j) (.inl (0, ln7 j, .inl f)) = ovl B m g (fun k => if k = j then f else a k) := by
  funext x
  unfold upM
  by_cases hx : x = m + j
  · subst hx
    rw [if_pos rfl, ovl_a B m g _ h1 h2, if_pos rfl]
  · rw [if_neg hx]
    unfold ovl
    by_cases h3 : x = m
    · rw [if_pos h3, if_pos h3]
    · rw [if_neg h3, if_neg h3]
      by_cases h4 : m < x ∧ x ≤ m + 13
      · rw [if_pos h4, if_pos h4]
        show _ = some (Sum.inl (0, ln7 (x - m), Sum.inl (if x - m = j then f else a (x - m))))
        rw [if_neg (by omega)]
      · rw [if_neg h4, if_neg h4]
def up2 (a : Nat → Nat → Int32) (j : Nat) (f : Nat → Int32) : Nat → Nat → Int32 := fun k => if k = j then f else a k
theorem o_wr {j : Nat} (h1 : 1 ≤ j) (h2 : j ≤ 13) (i x : Int32) : aIs (ovl B m g a) (m + j) i x = (wr (ln7 j) (a j) i x).map (fun f => ovl B m g (up2 a j f)) := by
  unfold aIs
  rw [ovl_a B m g a h1 h2]
  unfold wr
  by_cases h : ¬ (i < 0 ∨ ln7 j ≤ i.toNatClampNeg)
  · simp only [h, true_and, if_true, Option.map_some, not_false_eq_true]
    rw [upM_a B m g a h1 h2]
    rfl
  · simp only [h, and_false, if_false, Option.map_none]
theorem upM_g (k : Nat) (v : Int32) (f : List Value) (hf : f = fl7 m (upd g k v)) : upM (ovl B m g a) m (.inr (6, f)) = ovl B m (upd g k v) a := by
  subst hf
  funext x
  unfold upM ovl
  by_cases hx : x = m
  · rw [if_pos hx, if_pos hx]
  · rw [if_neg hx, if_neg hx, if_neg hx]
theorem o_put (k : Nat) (v : Int32) (hk : k < 28) (hf : (fl7 m g).set k (.int v) = fl7 m (upd g k v)) : sV 6 k (ovl B m g a) m (.int v) = some (ovl B m (upd g k v) a) := by
  unfold sV
  rw [ovl_m]
  have hl : (fl7 m g).length = 28 := rfl
  simp only [hl, hk, true_and, if_true]
  rw [upM_g B m g a k v _ hf]
theorem or_0 : gR 6 0 (ovl B m g a) m = some (m + 1) := by unfold gR gV; rw [ovl_m]; rfl
theorem or_1 : gR 6 1 (ovl B m g a) m = some (m + 2) := by unfold gR gV; rw [ovl_m]; rfl
theorem or_2 : gR 6 2 (ovl B m g a) m = some (m + 3) := by unfold gR gV; rw [ovl_m]; rfl
theorem or_3 : gR 6 3 (ovl B m g a) m = some (m + 4) := by unfold gR gV; rw [ovl_m]; rfl
theorem or_4 : gR 6 4 (ovl B m g a) m = some (m + 5) := by unfold gR gV; rw [ovl_m]; rfl
theorem oi_5 : gI 6 5 (ovl B m g a) m = some (g 5) := by unfold gI gV; rw [ovl_m]; rfl
theorem op_5 (v : Int32) : sV 6 5 (ovl B m g a) m (.int v) = some (ovl B m (upd g 5 v) a) := o_put B m g a 5 v (by decide) (by simp [fl7, upd])
theorem oi_6 : gI 6 6 (ovl B m g a) m = some (g 6) := by unfold gI gV; rw [ovl_m]; rfl
theorem op_6 (v : Int32) : sV 6 6 (ovl B m g a) m (.int v) = some (ovl B m (upd g 6 v) a) := o_put B m g a 6 v (by decide) (by simp [fl7, upd])
theorem or_7 : gR 6 7 (ovl B m g a) m = some (m + 6) := by unfold gR gV; rw [ovl_m]; rfl
theorem or_8 : gR 6 8 (ovl B m g a) m = some (m + 7) := by unfold gR gV; rw [ovl_m]; rfl
theorem oi_9 : gI 6 9 (ovl B m g a) m = some (g 9) := by unfold gI gV; rw [ovl_m]; rfl
theorem op_9 (v : Int32) : sV 6 9 (ovl B m g a) m (.int v) = some (ovl B m (upd g 9 v) a) := o_put B m g a 9 v (by decide) (by simp [fl7, upd])
theorem or_10 : gR 6 10 (ovl B m g a) m = some (m + 8) := by unfold gR gV; rw [ovl_m]; rfl
theorem or_11 : gR 6 11 (ovl B m g a) m = some (m + 9) := by unfold gR gV; rw [ovl_m]; rfl
theorem oi_12 : gI 6 12 (ovl B m g a) m = some (g 12) := by unfold gI gV; rw [ovl_m]; rfl
theorem op_12 (v : Int32) : sV 6 12 (ovl B m g a) m (.int v) = some (ovl B m (upd g 12 v) a) := o_put B m g a 12 v (by decide) (by simp [fl7, upd])
theorem oi_13 : gI 6 13 (ovl B m g a) m = some (g 13) := by unfold gI gV; rw [ovl_m]; rfl
theorem op_13 (v : Int32) : sV 6 13 (ovl B m g a) m (.int v) = some (ovl B m (upd g 13 v) a) := o_put B m g a 13 v (by decide) (by simp [fl7, upd])
theorem oi_14 : gI 6 14 (ovl B m g a) m = some (g 14) := by unfold gI gV; rw [ovl_m]; rfl
theorem op_14 (v : Int32) : sV 6 14 (ovl B m g a) m (.int v) = some (ovl B m (upd g 14 v) a) := o_put B m g a 14 v (by decide) (by simp [fl7, upd])
theorem oi_15 : gI 6 15 (ovl B m g a) m = some (g 15) := by unfold gI gV; rw [ovl_m]; rfl
theorem op_15 (v : Int32) : sV 6 15 (ovl B m g a) m (.int v) = some (ovl B m (upd g 15 v) a) := o_put B m g a 15 v (by decide) (by simp [fl7, upd])
theorem oi_16 : gI 6 16 (ovl B m g a) m = some (g 16) := by unfold gI gV; rw [ovl_m]; rfl
theorem op_16 (v : Int32) : sV 6 16 (ovl B m g a) m (.int v) = some (ovl B m (upd g 16 v) a) := o_put B m g a 16 v (by decide) (by simp [fl7, upd])
theorem oi_17 : gI 6 17 (ovl B m g a) m = some (g 17) := by unfold gI gV; rw [ovl_m]; rfl
theorem op_17 (v : Int32) : sV 6 17 (ovl B m g a) m (.int v) = some (ovl B m (upd g 17 v) a) := o_put B m g a 17 v (by decide) (by simp [fl7, upd])
theorem oi_18 : gI 6 18 (ovl B m g a) m = some (g 18) := by unfold gI gV; rw [ovl_m]; rfl
theorem op_18 (v : Int32) : sV 6 18 (ovl B m g a) m (.int v) = some (ovl B m (upd g 18 v) a) := o_put B m g a 18 v (by decide) (by simp [fl7, upd])
theorem oi_19 : gI 6 19 (ovl B m g a) m = some (g 19) := by unfold gI gV; rw [ovl_m]; rfl
theorem op_19 (v : Int32) : sV 6 19 (ovl B m g a) m (.int v) = some (ovl B m (upd g 19 v) a) := o_put B m g a 19 v (by decide) (by simp [fl7, upd])
theorem oi_20 : gI 6 20 (ovl B m g a) m = some (g 20) := by unfold gI gV; rw [ovl_m]; rfl
theorem op_20 (v : Int32) : sV 6 20 (ovl B m g a) m (.int v) = some (ovl B m (upd g 20 v) a) := o_put B m g a 20 v (by decide) (by simp [fl7, upd])
theorem oi_21 : gI 6 21 (ovl B m g a) m = some (g 21) := by unfold gI gV; rw [ovl_m]; rfl
theorem op_21 (v : Int32) : sV 6 21 (ovl B m g a) m (.int v) = some (ovl B m (upd g 21 v) a) := o_put B m g a 21 v (by decide) (by simp [fl7, upd])
theorem or_22 : gR 6 22 (ovl B m g a) m = some (m + 10) := by unfold gR gV; rw [ovl_m]; rfl
theorem or_23 : gR 6 23 (ovl B m g a) m = some (m + 11) := by unfold gR gV; rw [ovl_m]; rfl
theorem or_24 : gR 6 24 (ovl B m g a) m = some (m + 12) := by unfold gR gV; rw [ovl_m]; rfl
theorem oi_25 : gI 6 25 (ovl B m g a) m = some (g 25) := by unfold gI gV; rw [ovl_m]; rfl
theorem op_25 (v : Int32) : sV 6 25 (ovl B m g a) m (.int v) = some (ovl B m (upd g 25 v) a) := o_put B m g a 25 v (by decide) (by simp [fl7, upd])
theorem or_26 : gR 6 26 (ovl B m g a) m = some (m + 13) := by unfold gR gV; rw [ovl_m]; rfl
theorem oi_27 : gI 6 27 (ovl B m g a) m = some (g 27) := by unfold gI gV; rw [ovl_m]; rfl
theorem op_27 (v : Int32) : sV 6 27 (ovl B m g a) m (.int v) = some (ovl B m (upd g 27 v) a) := o_put B m g a 27 v (by decide) (by simp [fl7, upd])
theorem od_1 (i : Int32) : aI 0 (ovl B m g a) (m + 1) i = rd 764 (a 1) i := o_rd B m g a (by decide) (by decide) i
theorem ow_1 (i x : Int32) : aIs (ovl B m g a) (m + 1) i x = (wr 764 (a 1) i x).map (fun f => ovl B m g (up2 a 1 f)) := o_wr B m g a (by decide) (by decide) i x
theorem od_2 (i : Int32) : aI 0 (ovl B m g a) (m + 2) i = rd 764 (a 2) i := o_rd B m g a (by decide) (by decide) i
theorem ow_2 (i x : Int32) : aIs (ovl B m g a) (m + 2) i x = (wr 764 (a 2) i x).map (fun f => ovl B m g (up2 a 2 f)) := o_wr B m g a (by decide) (by decide) i x
theorem od_3 (i : Int32) : aI 0 (ovl B m g a) (m + 3) i = rd 764 (a 3) i := o_rd B m g a (by decide) (by decide) i
theorem ow_3 (i x : Int32) : aIs (ovl B m g a) (m + 3) i x = (wr 764 (a 3) i x).map (fun f => ovl B m g (up2 a 3 f)) := o_wr B m g a (by decide) (by decide) i x
theorem od_4 (i : Int32) : aI 0 (ovl B m g a) (m + 4) i = rd 764 (a 4) i := o_rd B m g a (by decide) (by decide) i
theorem ow_4 (i x : Int32) : aIs (ovl B m g a) (m + 4) i x = (wr 764 (a 4) i x).map (fun f => ovl B m g (up2 a 4 f)) := o_wr B m g a (by decide) (by decide) i x
theorem od_5 (i : Int32) : aI 0 (ovl B m g a) (m + 5) i = rd 7640 (a 5) i := o_rd B m g a (by decide) (by decide) i
theorem ow_5 (i x : Int32) : aIs (ovl B m g a) (m + 5) i x = (wr 7640 (a 5) i x).map (fun f => ovl B m g (up2 a 5 f)) := o_wr B m g a (by decide) (by decide) i x
theorem od_6 (i : Int32) : aI 0 (ovl B m g a) (m + 6) i = rd 48 (a 6) i := o_rd B m g a (by decide) (by decide) i
theorem ow_6 (i x : Int32) : aIs (ovl B m g a) (m + 6) i x = (wr 48 (a 6) i x).map (fun f => ovl B m g (up2 a 6 f)) := o_wr B m g a (by decide) (by decide) i x
theorem od_7 (i : Int32) : aI 0 (ovl B m g a) (m + 7) i = rd 48 (a 7) i := o_rd B m g a (by decide) (by decide) i
theorem ow_7 (i x : Int32) : aIs (ovl B m g a) (m + 7) i x = (wr 48 (a 7) i x).map (fun f => ovl B m g (up2 a 7 f)) := o_wr B m g a (by decide) (by decide) i x
theorem od_8 (i : Int32) : aI 0 (ovl B m g a) (m + 8) i = rd 40 (a 8) i := o_rd B m g a (by decide) (by decide) i
theorem ow_8 (i x : Int32) : aIs (ovl B m g a) (m + 8) i x = (wr 40 (a 8) i x).map (fun f => ovl B m g (up2 a 8 f)) := o_wr B m g a (by decide) (by decide) i x
theorem od_9 (i : Int32) : aI 0 (ovl B m g a) (m + 9) i = rd 900 (a 9) i := o_rd B m g a (by decide) (by decide) i
theorem ow_9 (i x : Int32) : aIs (ovl B m g a) (m + 9) i x = (wr 900 (a 9) i x).map (fun f => ovl B m g (up2 a 9 f)) := o_wr B m g a (by decide) (by decide) i x
theorem od_10 (i : Int32) : aI 0 (ovl B m g a) (m + 10) i = rd 4 (a 10) i := o_rd B m g a (by decide) (by decide) i
theorem ow_10 (i x : Int32) : aIs (ovl B m g a) (m + 10) i x = (wr 4 (a 10) i x).map (fun f => ovl B m g (up2 a 10 f)) := o_wr B m g a (by decide) (by decide) i x
theorem od_11 (i : Int32) : aI 0 (ovl B m g a) (m + 11) i = rd 40 (a 11) i := o_rd B m g a (by decide) (by decide) i
theorem ow_11 (i x : Int32) : aIs (ovl B m g a) (m + 11) i x = (wr 40 (a 11) i x).map (fun f => ovl B m g (up2 a 11 f)) := o_wr B m g a (by decide) (by decide) i x
theorem od_12 (i : Int32) : aI 0 (ovl B m g a) (m + 12) i = rd 4 (a 12) i := o_rd B m g a (by decide) (by decide) i
theorem ow_12 (i x : Int32) : aIs (ovl B m g a) (m + 12) i x = (wr 4 (a 12) i x).map (fun f => ovl B m g (up2 a 12 f)) := o_wr B m g a (by decide) (by decide) i x
theorem od_13 (i : Int32) : aI 0 (ovl B m g a) (m + 13) i = rd 400 (a 13) i := o_rd B m g a (by decide) (by decide) i
theorem ow_13 (i x : Int32) : aIs (ovl B m g a) (m + 13) i x = (wr 400 (a 13) i x).map (fun f => ovl B m g (up2 a 13 f)) := o_wr B m g a (by decide) (by decide) i x
end OV
