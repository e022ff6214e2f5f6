/-! the class's memory of one roll and its town: a roll at r with its rows at b .. b + 8, its town at t with rows at tb .. tb + 9 -/
def flR (t b : Nat) (g : Nat → Int32) (h : Nat → Int64) : List Value := [.ref t, .int (g 1), .int (g 2), .int (g 3), .int (g 4), .int (g 5), .int (g 6), .long (h 7), .long (h 8), .long (h 9), .long (h 10), .ref b, .ref (b + 1), .ref (b + 2), .ref (b + 3), .ref (b + 4), .ref (b + 5), .ref (b + 6), .ref (b + 7), .ref (b + 8)]
def flT (tb : Nat) (u : Nat → Int32) : List Value := [.int (u 0), .int (u 1), .int (u 2), .ref tb, .ref (tb + 1), .ref (tb + 2), .ref (tb + 3), .ref (tb + 4), .ref (tb + 5), .ref (tb + 6), .ref (tb + 7), .ref (tb + 8), .ref (tb + 9)]
def lnR (j : Nat) : Nat := if j < 7 then 40 else 8
def lnT (j : Nat) : Nat := if j < 9 then 8 else 100
def ovr (B : Mem) (r b t : Nat) (g : Nat → Int32) (h : Nat → Int64) (ar : Nat → Nat → Int32) : Mem := fun x => if x = r then some (.inr (2, flR t b g h)) else if b ≤ x ∧ x < b + 9 then some (.inl (0, lnR (x - b), .inl (ar (x - b)))) else B x
def ovt (B : Mem) (t tb : Nat) (u : Nat → Int32) (ta : Nat → Nat → Int32) : Mem := fun x => if x = t then some (.inr (4, flT tb u)) else if tb ≤ x ∧ x < tb + 10 then some (.inl (0, lnT (x - tb), .inl (ta (x - tb)))) else B x
def ofc (B : Mem) (r b t tb : Nat) (g : Nat → Int32) (h : Nat → Int64) (ar : Nat → Nat → Int32) (u : Nat → Int32) (ta : Nat → Nat → Int32) : Mem := ovr (ovt B t tb u ta) r b t g h ar
def GE (r b t tb : Nat) : Prop := r < b ∧ t < tb ∧ t ≠ r ∧ (t < b ∨ b + 9 ≤ t) ∧ (r < tb ∨ tb + 10 ≤ r) ∧ (b + 9 ≤ tb ∨ tb + 10 ≤ b)
def oR (r b a : Nat) : Prop := a ≠ r ∧ (a < b ∨ b + 9 ≤ a)
def oTw (t tb a : Nat) : Prop := a ≠ t ∧ (a < tb ∨ tb + 10 ≤ a)
-- one cell decides
theorem q_gV {ci k a : Nat} {M M' : Mem} (h : M a = M' a) : gV ci k M a = gV ci k M' a := by unfold gV; rw [h]
theorem q_gI {ci k a : Nat} {M M' : Mem} (h : M a = M' a) : gI ci k M a = gI ci k M' a := by unfold gI; rw [q_gV h]
theorem q_gL {ci k a : Nat} {M M' : Mem} (h : M a = M' a) : gL ci k M a = gL ci k M' a := by unfold gL; rw [q_gV h]
theorem q_gR {ci k a : Nat} {M M' : Mem} (h : M a = M' a) : gR ci k M a = gR ci k M' a := by unfold gR; rw [q_gV h]
theorem q_gN {ci k a : Nat} {M M' : Mem} (h : M a = M' a) : gN ci k M a = gN ci k M' a := by unfold gN; rw [q_gV h]
theorem q_isC {ci a : Nat} {M M' : Mem} (h : M a = M' a) : isC ci M a = isC ci M' a := by unfold isC; rw [h]
theorem q_aI {kd a : Nat} {i : Int32} {M M' : Mem} (h : M a = M' a) : aI kd M a i = aI kd M' a i := by unfold aI; rw [h]
theorem q_aR {a : Nat} {i : Int32} {M M' : Mem} (h : M a = M' a) : aR M a i = aR M' a i := by unfold aR; rw [h]
theorem q_aN {kd a : Nat} {M M' : Mem} (h : M a = M' a) : aN kd M a = aN kd M' a := by unfold aN; rw [h]
section RV
variable (B : Mem) (r b t : Nat) (g : Nat → Int32) (h : Nat → Int64) (ar : Nat → Nat → Int32)
theorem ovr_r : ovr B r b t g h ar r = some (.inr (2, flR t b g h)) := by unfold ovr; rw [if_pos rfl]
theorem ovr_a (hb : r < b) {j : Nat} (hj : j < 9) : ovr B r b t g h ar (b + j) = some (.inl (0, lnR j, .inl (ar j))) := by
  unfold ovr
  rw [if_neg (by omega), if_pos (by omega), Nat.add_sub_cancel_left]
theorem ovr_o {a : Nat} (ha : oR r b a) : ovr B r b t g h ar a = B a := by
  unfold ovr
  have := ha.1; have := ha.2
  rw [if_neg (by omega), if_neg (by omega)]
theorem rv_aI (hb : r < b) {j : Nat} (hj : j < 9) (i : Int32) : aI 0 (ovr B r b t g h ar) (b + j) i = rd (lnR j) (ar j) i := by
  unfold aI
  rw [ovr_a B r b t g h ar hb hj]
  unfold rd
  simp
theorem ovr_ua (hb : r < b) {j : Nat} (hj : j < 9) (f : Nat → Int32) : upM (ovr B r b t g h ar) (b + j) (.inl (0, lnR j, .inl f)) = ovr B r b t g h (up2 ar j f) := by
  funext x
  unfold upM
  by_cases hx : x = b + j
  · subst hx; rw [if_pos rfl, ovr_a B r b t g h _ hb hj]; unfold up2; rw [if_pos rfl]
  · rw [if_neg hx]
    unfold ovr
    by_cases h3 : x = r
    · rw [if_pos h3, if_pos h3]
    · rw [if_neg h3, if_neg h3]
      by_cases h4 : b ≤ x ∧ x < b + 9
      · rw [if_pos h4, if_pos h4]
        unfold up2
        rw [if_neg (by omega)]
      · rw [if_neg h4, if_neg h4]
theorem rv_aIs (hb : r < b) {j : Nat} (hj : j < 9) (i x : Int32) : aIs (ovr B r b t g h ar) (b + j) i x = (wr (lnR j) (ar j) i x).map (fun f => ovr B r b t g h (up2 ar j f)) := by
  unfold aIs
  rw [ovr_a B r b t g h ar hb hj]
  unfold wr
  by_cases hh : ¬ (i < 0 ∨ lnR j ≤ i.toNatClampNeg)
  · simp only [hh, true_and, if_true, Option.map_some, not_false_eq_true]
    rw [ovr_ua B r b t g h ar hb hj]
  · simp only [hh, and_false, if_false, Option.map_none]
theorem rv_aN (hb : r < b) {j : Nat} (hj : j < 9) : aN 0 (ovr B r b t g h ar) (b + j) = some (nN (lnR j)) := by
  unfold aN
  rw [ovr_a B r b t g h ar hb hj]
  rfl
theorem ovr_ur (g' : Nat → Int32) (h' : Nat → Int64) (t' : Nat) : upM (ovr B r b t g h ar) r (.inr (2, flR t' b g' h')) = ovr B r b t' g' h' ar := by
  funext x
  unfold upM ovr
  by_cases hx : x = r
  · rw [if_pos hx, if_pos hx]
  · rw [if_neg hx, if_neg hx, if_neg hx]
theorem ovr_up {a : Nat} (ha : oR r b a) (e : mE) : upM (ovr B r b t g h ar) a e = ovr (upM B a e) r b t g h ar := by
  funext x
  have h1 := ha.1; have h2 := ha.2
  unfold upM ovr
  by_cases hx : x = a
  · subst hx; rw [if_pos rfl, if_neg h1, if_neg (by omega)]; exact (if_pos rfl).symm
  · rw [if_neg hx]
    by_cases h3 : x = r
    · rw [if_pos h3, if_pos h3]
    · rw [if_neg h3, if_neg h3]
      by_cases h4 : b ≤ x ∧ x < b + 9
      · rw [if_pos h4, if_pos h4]
      · rw [if_neg h4, if_neg h4]; exact (if_neg hx).symm
theorem rv_put (k : Nat) (v : Value) (g' : Nat → Int32) (h' : Nat → Int64) (t' : Nat) (hk : k < 20) (hf : (flR t b g h).set k v = flR t' b g' h') : sV 2 k (ovr B r b t g h ar) r v = some (ovr B r b t' g' h' ar) := by
  unfold sV
  rw [ovr_r]
  have hl : (flR t b g h).length = 20 := rfl
  simp only [hl, hk, true_and, if_true]
  rw [hf, ovr_ur B r b t g h ar g' h' t']
theorem rv_sZ (k : Nat) (v : Int32) (hv : v = 0 ∨ v = 1) (M : Mem) (a : Nat) : sZ 2 k M a v = sV 2 k M a (.int v) := by unfold sZ; rw [if_pos hv]
theorem rv_isC : isC 2 (ovr B r b t g h ar) r = some () := by unfold isC; rw [ovr_r]; rfl
theorem rv_0 : gR 2 0 (ovr B r b t g h ar) r = some t := by unfold gR gV; rw [ovr_r]; rfl
theorem rv_1 : gI 2 1 (ovr B r b t g h ar) r = some (g 1) := by unfold gI gV; rw [ovr_r]; rfl
theorem rw_1 (v : Int32) : sV 2 1 (ovr B r b t g h ar) r (.int v) = some (ovr B r b t (upd g 1 v) h ar) := rv_put B r b t g h ar 1 _ _ _ _ (by decide) (by simp [flR, upd])
theorem rv_2 : gI 2 2 (ovr B r b t g h ar) r = some (g 2) := by unfold gI gV; rw [ovr_r]; rfl
theorem rw_2 (v : Int32) : sV 2 2 (ovr B r b t g h ar) r (.int v) = some (ovr B r b t (upd g 2 v) h ar) := rv_put B r b t g h ar 2 _ _ _ _ (by decide) (by simp [flR, upd])
theorem rv_3 : gI 2 3 (ovr B r b t g h ar) r = some (g 3) := by unfold gI gV; rw [ovr_r]; rfl
theorem rw_3 (v : Int32) : sV 2 3 (ovr B r b t g h ar) r (.int v) = some (ovr B r b t (upd g 3 v) h ar) := rv_put B r b t g h ar 3 _ _ _ _ (by decide) (by simp [flR, upd])
theorem rv_4 : gI 2 4 (ovr B r b t g h ar) r = some (g 4) := by unfold gI gV; rw [ovr_r]; rfl
theorem rw_4 (v : Int32) : sV 2 4 (ovr B r b t g h ar) r (.int v) = some (ovr B r b t (upd g 4 v) h ar) := rv_put B r b t g h ar 4 _ _ _ _ (by decide) (by simp [flR, upd])
theorem rv_5 : gI 2 5 (ovr B r b t g h ar) r = some (g 5) := by unfold gI gV; rw [ovr_r]; rfl
theorem rw_5 (v : Int32) : sV 2 5 (ovr B r b t g h ar) r (.int v) = some (ovr B r b t (upd g 5 v) h ar) := rv_put B r b t g h ar 5 _ _ _ _ (by decide) (by simp [flR, upd])
theorem rv_6 : gI 2 6 (ovr B r b t g h ar) r = some (g 6) := by unfold gI gV; rw [ovr_r]; rfl
theorem rw_6 (v : Int32) : sV 2 6 (ovr B r b t g h ar) r (.int v) = some (ovr B r b t (upd g 6 v) h ar) := rv_put B r b t g h ar 6 _ _ _ _ (by decide) (by simp [flR, upd])
theorem rv_7 : gL 2 7 (ovr B r b t g h ar) r = some (h 7) := by unfold gL gV; rw [ovr_r]; rfl
theorem rw_7 (v : Int64) : sV 2 7 (ovr B r b t g h ar) r (.long v) = some (ovr B r b t g (vp_updL h 7 v) ar) := rv_put B r b t g h ar 7 _ _ _ _ (by decide) (by simp [flR, vp_updL])
theorem rv_8 : gL 2 8 (ovr B r b t g h ar) r = some (h 8) := by unfold gL gV; rw [ovr_r]; rfl
theorem rw_8 (v : Int64) : sV 2 8 (ovr B r b t g h ar) r (.long v) = some (ovr B r b t g (vp_updL h 8 v) ar) := rv_put B r b t g h ar 8 _ _ _ _ (by decide) (by simp [flR, vp_updL])
theorem rv_9 : gL 2 9 (ovr B r b t g h ar) r = some (h 9) := by unfold gL gV; rw [ovr_r]; rfl
theorem rw_9 (v : Int64) : sV 2 9 (ovr B r b t g h ar) r (.long v) = some (ovr B r b t g (vp_updL h 9 v) ar) := rv_put B r b t g h ar 9 _ _ _ _ (by decide) (by simp [flR, vp_updL])
theorem rv_10 : gL 2 10 (ovr B r b t g h ar) r = some (h 10) := by unfold gL gV; rw [ovr_r]; rfl
theorem rw_10 (v : Int64) : sV 2 10 (ovr B r b t g h ar) r (.long v) = some (ovr B r b t g (vp_updL h 10 v) ar) := rv_put B r b t g h ar 10 _ _ _ _ (by decide) (by simp [flR, vp_updL])
theorem rw_0 (v : Nat) : sV 2 0 (ovr B r b t g h ar) r (.ref v) = some (ovr B r b v g h ar) := rv_put B r b t g h ar 0 _ _ _ _ (by decide) (by simp [flR])
theorem rv_11 : gR 2 11 (ovr B r b t g h ar) r = some (b) := by unfold gR gV; rw [ovr_r]; rfl
theorem rd_0 (hb : r < b) (i : Int32) : aI 0 (ovr B r b t g h ar) b i = rd 40 (ar 0) i := rv_aI B r b t g h ar hb (j := 0) (by decide) i
theorem re_0 (hb : r < b) (i x : Int32) : aIs (ovr B r b t g h ar) b i x = (wr 40 (ar 0) i x).map (fun f => ovr B r b t g h (up2 ar 0 f)) := rv_aIs B r b t g h ar hb (j := 0) (by decide) i x
theorem rn_0 (hb : r < b) : aN 0 (ovr B r b t g h ar) b = some (nN 40) := rv_aN B r b t g h ar hb (j := 0) (by decide)
theorem rv_12 : gR 2 12 (ovr B r b t g h ar) r = some (b + 1) := by unfold gR gV; rw [ovr_r]; rfl
theorem rd_1 (hb : r < b) (i : Int32) : aI 0 (ovr B r b t g h ar) (b + 1) i = rd 40 (ar 1) i := rv_aI B r b t g h ar hb (j := 1) (by decide) i
theorem re_1 (hb : r < b) (i x : Int32) : aIs (ovr B r b t g h ar) (b + 1) i x = (wr 40 (ar 1) i x).map (fun f => ovr B r b t g h (up2 ar 1 f)) := rv_aIs B r b t g h ar hb (j := 1) (by decide) i x
theorem rn_1 (hb : r < b) : aN 0 (ovr B r b t g h ar) (b + 1) = some (nN 40) := rv_aN B r b t g h ar hb (j := 1) (by decide)
theorem rv_13 : gR 2 13 (ovr B r b t g h ar) r = some (b + 2) := by unfold gR gV; rw [ovr_r]; rfl
theorem rd_2 (hb : r < b) (i : Int32) : aI 0 (ovr B r b t g h ar) (b + 2) i = rd 40 (ar 2) i := rv_aI B r b t g h ar hb (j := 2) (by decide) i
theorem re_2 (hb : r < b) (i x : Int32) : aIs (ovr B r b t g h ar) (b + 2) i x = (wr 40 (ar 2) i x).map (fun f => ovr B r b t g h (up2 ar 2 f)) := rv_aIs B r b t g h ar hb (j := 2) (by decide) i x
theorem rn_2 (hb : r < b) : aN 0 (ovr B r b t g h ar) (b + 2) = some (nN 40) := rv_aN B r b t g h ar hb (j := 2) (by decide)
theorem rv_14 : gR 2 14 (ovr B r b t g h ar) r = some (b + 3) := by unfold gR gV; rw [ovr_r]; rfl
theorem rd_3 (hb : r < b) (i : Int32) : aI 0 (ovr B r b t g h ar) (b + 3) i = rd 40 (ar 3) i := rv_aI B r b t g h ar hb (j := 3) (by decide) i
theorem re_3 (hb : r < b) (i x : Int32) : aIs (ovr B r b t g h ar) (b + 3) i x = (wr 40 (ar 3) i x).map (fun f => ovr B r b t g h (up2 ar 3 f)) := rv_aIs B r b t g h ar hb (j := 3) (by decide) i x
theorem rn_3 (hb : r < b) : aN 0 (ovr B r b t g h ar) (b + 3) = some (nN 40) := rv_aN B r b t g h ar hb (j := 3) (by decide)
theorem rv_15 : gR 2 15 (ovr B r b t g h ar) r = some (b + 4) := by unfold gR gV; rw [ovr_r]; rfl
theorem rd_4 (hb : r < b) (i : Int32) : aI 0 (ovr B r b t g h ar) (b + 4) i = rd 40 (ar 4) i := rv_aI B r b t g h ar hb (j := 4) (by decide) i
theorem re_4 (hb : r < b) (i x : Int32) : aIs (ovr B r b t g h ar) (b + 4) i x = (wr 40 (ar 4) i x).map (fun f => ovr B r b t g h (up2 ar 4 f)) := rv_aIs B r b t g h ar hb (j := 4) (by decide) i x
theorem rn_4 (hb : r < b) : aN 0 (ovr B r b t g h ar) (b + 4) = some (nN 40) := rv_aN B r b t g h ar hb (j := 4) (by decide)
theorem rv_16 : gR 2 16 (ovr B r b t g h ar) r = some (b + 5) := by unfold gR gV; rw [ovr_r]; rfl
theorem rd_5 (hb : r < b) (i : Int32) : aI 0 (ovr B r b t g h ar) (b + 5) i = rd 40 (ar 5) i := rv_aI B r b t g h ar hb (j := 5) (by decide) i
theorem re_5 (hb : r < b) (i x : Int32) : aIs (ovr B r b t g h ar) (b + 5) i x = (wr 40 (ar 5) i x).map (fun f => ovr B r b t g h (up2 ar 5 f)) := rv_aIs B r b t g h ar hb (j := 5) (by decide) i x
theorem rn_5 (hb : r < b) : aN 0 (ovr B r b t g h ar) (b + 5) = some (nN 40) := rv_aN B r b t g h ar hb (j := 5) (by decide)
theorem rv_17 : gR 2 17 (ovr B r b t g h ar) r = some (b + 6) := by unfold gR gV; rw [ovr_r]; rfl
theorem rd_6 (hb : r < b) (i : Int32) : aI 0 (ovr B r b t g h ar) (b + 6) i = rd 40 (ar 6) i := rv_aI B r b t g h ar hb (j := 6) (by decide) i
theorem re_6 (hb : r < b) (i x : Int32) : aIs (ovr B r b t g h ar) (b + 6) i x = (wr 40 (ar 6) i x).map (fun f => ovr B r b t g h (up2 ar 6 f)) := rv_aIs B r b t g h ar hb (j := 6) (by decide) i x
theorem rn_6 (hb : r < b) : aN 0 (ovr B r b t g h ar) (b + 6) = some (nN 40) := rv_aN B r b t g h ar hb (j := 6) (by decide)
theorem rv_18 : gR 2 18 (ovr B r b t g h ar) r = some (b + 7) := by unfold gR gV; rw [ovr_r]; rfl
theorem rd_7 (hb : r < b) (i : Int32) : aI 0 (ovr B r b t g h ar) (b + 7) i = rd 8 (ar 7) i := rv_aI B r b t g h ar hb (j := 7) (by decide) i
theorem re_7 (hb : r < b) (i x : Int32) : aIs (ovr B r b t g h ar) (b + 7) i x = (wr 8 (ar 7) i x).map (fun f => ovr B r b t g h (up2 ar 7 f)) := rv_aIs B r b t g h ar hb (j := 7) (by decide) i x
theorem rn_7 (hb : r < b) : aN 0 (ovr B r b t g h ar) (b + 7) = some (nN 8) := rv_aN B r b t g h ar hb (j := 7) (by decide)
theorem rv_19 : gR 2 19 (ovr B r b t g h ar) r = some (b + 8) := by unfold gR gV; rw [ovr_r]; rfl
theorem rd_8 (hb : r < b) (i : Int32) : aI 0 (ovr B r b t g h ar) (b + 8) i = rd 8 (ar 8) i := rv_aI B r b t g h ar hb (j := 8) (by decide) i
theorem re_8 (hb : r < b) (i x : Int32) : aIs (ovr B r b t g h ar) (b + 8) i x = (wr 8 (ar 8) i x).map (fun f => ovr B r b t g h (up2 ar 8 f)) := rv_aIs B r b t g h ar hb (j := 8) (by decide) i x
theorem rn_8 (hb : r < b) : aN 0 (ovr B r b t g h ar) (b + 8) = some (nN 8) := rv_aN B r b t g h ar hb (j := 8) (by decide)
end RV
section TV
variable (B : Mem) (t tb : Nat) (u : Nat → Int32) (ta : Nat → Nat → Int32)
theorem ovt_t : ovt B t tb u ta t = some (.inr (4, flT tb u)) := by unfold ovt; rw [if_pos rfl]
theorem ovt_a (hb : t < tb) {j : Nat} (hj : j < 10) : ovt B t tb u ta (tb + j) = some (.inl (0, lnT j, .inl (ta j))) := by
  unfold ovt
  rw [if_neg (by omega), if_pos (by omega), Nat.add_sub_cancel_left]
theorem ovt_o {a : Nat} (ha : oTw t tb a) : ovt B t tb u ta a = B a := by
  unfold ovt
  have := ha.1; have := ha.2
  rw [if_neg (by omega), if_neg (by omega)]
theorem ovt_ua (hb : t < tb) {j : Nat} (hj : j < 10) (f : Nat → Int32) : upM (ovt B t tb u ta) (tb + j) (.inl (0, lnT j, .inl f)) = ovt B t tb u (up2 ta j f) := by
  funext x
  unfold upM
  by_cases hx : x = tb + j
  · subst hx; rw [if_pos rfl, ovt_a B t tb u _ hb hj]; unfold up2; rw [if_pos rfl]
  · rw [if_neg hx]
    unfold ovt
    by_cases h3 : x = t
    · rw [if_pos h3, if_pos h3]
    · rw [if_neg h3, if_neg h3]
      by_cases h4 : tb ≤ x ∧ x < tb + 10
      · rw [if_pos h4, if_pos h4]
        unfold up2
        rw [if_neg (by omega)]
      · rw [if_neg h4, if_neg h4]
theorem ovt_ut (u' : Nat → Int32) : upM (ovt B t tb u ta) t (.inr (4, flT tb u')) = ovt B t tb u' ta := by
  funext x
  unfold upM ovt
  by_cases hx : x = t
  · rw [if_pos hx, if_pos hx]
  · rw [if_neg hx, if_neg hx, if_neg hx]
end TV
theorem GE.ot {r b t tb : Nat} (hG : GE r b t tb) : oR r b t := by unfold GE at hG; unfold oR; omega
theorem GE.oa {r b t tb j : Nat} (hG : GE r b t tb) (hj : j < 10) : oR r b (tb + j) := by unfold GE at hG; unfold oR; omega
section FV
variable {B : Mem} {r b t tb : Nat} {g : Nat → Int32} {h : Nat → Int64} {ar : Nat → Nat → Int32} {u : Nat → Int32} {ta : Nat → Nat → Int32}
theorem fv_isC : isC 2 (ofc B r b t tb g h ar u ta) r = some () := rv_isC _ r b t g h ar
theorem fv_0 : gR 2 0 (ofc B r b t tb g h ar u ta) r = some t := rv_0 _ r b t g h ar
theorem fv_1 : gI 2 1 (ofc B r b t tb g h ar u ta) r = some (g 1) := rv_1 _ r b t g h ar
theorem fw_1 (v : Int32) : sV 2 1 (ofc B r b t tb g h ar u ta) r (.int v) = some (ofc B r b t tb (upd g 1 v) h ar u ta) := rw_1 _ r b t g h ar v
theorem fv_2 : gI 2 2 (ofc B r b t tb g h ar u ta) r = some (g 2) := rv_2 _ r b t g h ar
theorem fw_2 (v : Int32) : sV 2 2 (ofc B r b t tb g h ar u ta) r (.int v) = some (ofc B r b t tb (upd g 2 v) h ar u ta) := rw_2 _ r b t g h ar v
theorem fv_3 : gI 2 3 (ofc B r b t tb g h ar u ta) r = some (g 3) := rv_3 _ r b t g h ar
theorem fw_3 (v : Int32) : sV 2 3 (ofc B r b t tb g h ar u ta) r (.int v) = some (ofc B r b t tb (upd g 3 v) h ar u ta) := rw_3 _ r b t g h ar v
theorem fv_4 : gI 2 4 (ofc B r b t tb g h ar u ta) r = some (g 4) := rv_4 _ r b t g h ar
theorem fw_4 (v : Int32) : sV 2 4 (ofc B r b t tb g h ar u ta) r (.int v) = some (ofc B r b t tb (upd g 4 v) h ar u ta) := rw_4 _ r b t g h ar v
theorem fv_5 : gI 2 5 (ofc B r b t tb g h ar u ta) r = some (g 5) := rv_5 _ r b t g h ar
theorem fw_5 (v : Int32) : sV 2 5 (ofc B r b t tb g h ar u ta) r (.int v) = some (ofc B r b t tb (upd g 5 v) h ar u ta) := rw_5 _ r b t g h ar v
theorem fv_6 : gI 2 6 (ofc B r b t tb g h ar u ta) r = some (g 6) := rv_6 _ r b t g h ar
theorem fw_6 (v : Int32) : sV 2 6 (ofc B r b t tb g h ar u ta) r (.int v) = some (ofc B r b t tb (upd g 6 v) h ar u ta) := rw_6 _ r b t g h ar v
theorem fz_3 (v : Int32) (hv : v = 0 ∨ v = 1) : sZ 2 3 (ofc B r b t tb g h ar u ta) r v = some (ofc B r b t tb (upd g 3 v) h ar u ta) := by rw [rv_sZ _ _ hv]; exact rw_3 _ r b t g h ar v
theorem fz_4 (v : Int32) (hv : v = 0 ∨ v = 1) : sZ 2 4 (ofc B r b t tb g h ar u ta) r v = some (ofc B r b t tb (upd g 4 v) h ar u ta) := by rw [rv_sZ _ _ hv]; exact rw_4 _ r b t g h ar v
theorem fv_7 : gL 2 7 (ofc B r b t tb g h ar u ta) r = some (h 7) := rv_7 _ r b t g h ar
theorem fw_7 (v : Int64) : sV 2 7 (ofc B r b t tb g h ar u ta) r (.long v) = some (ofc B r b t tb g (vp_updL h 7 v) ar u ta) := rw_7 _ r b t g h ar v
theorem fv_8 : gL 2 8 (ofc B r b t tb g h ar u ta) r = some (h 8) := rv_8 _ r b t g h ar
theorem fw_8 (v : Int64) : sV 2 8 (ofc B r b t tb g h ar u ta) r (.long v) = some (ofc B r b t tb g (vp_updL h 8 v) ar u ta) := rw_8 _ r b t g h ar v
theorem fv_9 : gL 2 9 (ofc B r b t tb g h ar u ta) r = some (h 9) := rv_9 _ r b t g h ar
theorem fw_9 (v : Int64) : sV 2 9 (ofc B r b t tb g h ar u ta) r (.long v) = some (ofc B r b t tb g (vp_updL h 9 v) ar u ta) := rw_9 _ r b t g h ar v
theorem fv_10 : gL 2 10 (ofc B r b t tb g h ar u ta) r = some (h 10) := rv_10 _ r b t g h ar
theorem fw_10 (v : Int64) : sV 2 10 (ofc B r b t tb g h ar u ta) r (.long v) = some (ofc B r b t tb g (vp_updL h 10 v) ar u ta) := rw_10 _ r b t g h ar v
theorem fv_11 : gR 2 11 (ofc B r b t tb g h ar u ta) r = some (b) := rv_11 _ r b t g h ar
theorem fd_0 (hG : GE r b t tb) (i : Int32) : aI 0 (ofc B r b t tb g h ar u ta) b i = rd 40 (ar 0) i := rd_0 _ r b t g h ar hG.1 i
theorem fe_0 (hG : GE r b t tb) (i x : Int32) : aIs (ofc B r b t tb g h ar u ta) b i x = (wr 40 (ar 0) i x).map (fun f => ofc B r b t tb g h (up2 ar 0 f) u ta) := re_0 _ r b t g h ar hG.1 i x
theorem fn_0 (hG : GE r b t tb) : aN 0 (ofc B r b t tb g h ar u ta) b = some (nN 40) := rn_0 _ r b t g h ar hG.1
theorem fv_12 : gR 2 12 (ofc B r b t tb g h ar u ta) r = some (b + 1) := rv_12 _ r b t g h ar
theorem fd_1 (hG : GE r b t tb) (i : Int32) : aI 0 (ofc B r b t tb g h ar u ta) (b + 1) i = rd 40 (ar 1) i := rd_1 _ r b t g h ar hG.1 i
theorem fe_1 (hG : GE r b t tb) (i x : Int32) : aIs (ofc B r b t tb g h ar u ta) (b + 1) i x = (wr 40 (ar 1) i x).map (fun f => ofc B r b t tb g h (up2 ar 1 f) u ta) := re_1 _ r b t g h ar hG.1 i x
theorem fn_1 (hG : GE r b t tb) : aN 0 (ofc B r b t tb g h ar u ta) (b + 1) = some (nN 40) := rn_1 _ r b t g h ar hG.1
theorem fv_13 : gR 2 13 (ofc B r b t tb g h ar u ta) r = some (b + 2) := rv_13 _ r b t g h ar
theorem fd_2 (hG : GE r b t tb) (i : Int32) : aI 0 (ofc B r b t tb g h ar u ta) (b + 2) i = rd 40 (ar 2) i := rd_2 _ r b t g h ar hG.1 i
theorem fe_2 (hG : GE r b t tb) (i x : Int32) : aIs (ofc B r b t tb g h ar u ta) (b + 2) i x = (wr 40 (ar 2) i x).map (fun f => ofc B r b t tb g h (up2 ar 2 f) u ta) := re_2 _ r b t g h ar hG.1 i x
theorem fn_2 (hG : GE r b t tb) : aN 0 (ofc B r b t tb g h ar u ta) (b + 2) = some (nN 40) := rn_2 _ r b t g h ar hG.1
theorem fv_14 : gR 2 14 (ofc B r b t tb g h ar u ta) r = some (b + 3) := rv_14 _ r b t g h ar
theorem fd_3 (hG : GE r b t tb) (i : Int32) : aI 0 (ofc B r b t tb g h ar u ta) (b + 3) i = rd 40 (ar 3) i := rd_3 _ r b t g h ar hG.1 i
theorem fe_3 (hG : GE r b t tb) (i x : Int32) : aIs (ofc B r b t tb g h ar u ta) (b + 3) i x = (wr 40 (ar 3) i x).map (fun f => ofc B r b t tb g h (up2 ar 3 f) u ta) := re_3 _ r b t g h ar hG.1 i x
theorem fn_3 (hG : GE r b t tb) : aN 0 (ofc B r b t tb g h ar u ta) (b + 3) = some (nN 40) := rn_3 _ r b t g h ar hG.1
theorem fv_15 : gR 2 15 (ofc B r b t tb g h ar u ta) r = some (b + 4) := rv_15 _ r b t g h ar
theorem fd_4 (hG : GE r b t tb) (i : Int32) : aI 0 (ofc B r b t tb g h ar u ta) (b + 4) i = rd 40 (ar 4) i := rd_4 _ r b t g h ar hG.1 i
theorem fe_4 (hG : GE r b t tb) (i x : Int32) : aIs (ofc B r b t tb g h ar u ta) (b + 4) i x = (wr 40 (ar 4) i x).map (fun f => ofc B r b t tb g h (up2 ar 4 f) u ta) := re_4 _ r b t g h ar hG.1 i x
theorem fn_4 (hG : GE r b t tb) : aN 0 (ofc B r b t tb g h ar u ta) (b + 4) = some (nN 40) := rn_4 _ r b t g h ar hG.1
theorem fv_16 : gR 2 16 (ofc B r b t tb g h ar u ta) r = some (b + 5) := rv_16 _ r b t g h ar
theorem fd_5 (hG : GE r b t tb) (i : Int32) : aI 0 (ofc B r b t tb g h ar u ta) (b + 5) i = rd 40 (ar 5) i := rd_5 _ r b t g h ar hG.1 i
theorem fe_5 (hG : GE r b t tb) (i x : Int32) : aIs (ofc B r b t tb g h ar u ta) (b + 5) i x = (wr 40 (ar 5) i x).map (fun f => ofc B r b t tb g h (up2 ar 5 f) u ta) := re_5 _ r b t g h ar hG.1 i x
theorem fn_5 (hG : GE r b t tb) : aN 0 (ofc B r b t tb g h ar u ta) (b + 5) = some (nN 40) := rn_5 _ r b t g h ar hG.1
theorem fv_17 : gR 2 17 (ofc B r b t tb g h ar u ta) r = some (b + 6) := rv_17 _ r b t g h ar
theorem fd_6 (hG : GE r b t tb) (i : Int32) : aI 0 (ofc B r b t tb g h ar u ta) (b + 6) i = rd 40 (ar 6) i := rd_6 _ r b t g h ar hG.1 i
theorem fe_6 (hG : GE r b t tb) (i x : Int32) : aIs (ofc B r b t tb g h ar u ta) (b + 6) i x = (wr 40 (ar 6) i x).map (fun f => ofc B r b t tb g h (up2 ar 6 f) u ta) := re_6 _ r b t g h ar hG.1 i x
theorem fn_6 (hG : GE r b t tb) : aN 0 (ofc B r b t tb g h ar u ta) (b + 6) = some (nN 40) := rn_6 _ r b t g h ar hG.1
theorem fv_18 : gR 2 18 (ofc B r b t tb g h ar u ta) r = some (b + 7) := rv_18 _ r b t g h ar
theorem fd_7 (hG : GE r b t tb) (i : Int32) : aI 0 (ofc B r b t tb g h ar u ta) (b + 7) i = rd 8 (ar 7) i := rd_7 _ r b t g h ar hG.1 i
theorem fe_7 (hG : GE r b t tb) (i x : Int32) : aIs (ofc B r b t tb g h ar u ta) (b + 7) i x = (wr 8 (ar 7) i x).map (fun f => ofc B r b t tb g h (up2 ar 7 f) u ta) := re_7 _ r b t g h ar hG.1 i x
theorem fn_7 (hG : GE r b t tb) : aN 0 (ofc B r b t tb g h ar u ta) (b + 7) = some (nN 8) := rn_7 _ r b t g h ar hG.1
theorem fv_19 : gR 2 19 (ofc B r b t tb g h ar u ta) r = some (b + 8) := rv_19 _ r b t g h ar
theorem fd_8 (hG : GE r b t tb) (i : Int32) : aI 0 (ofc B r b t tb g h ar u ta) (b + 8) i = rd 8 (ar 8) i := rd_8 _ r b t g h ar hG.1 i
theorem fe_8 (hG : GE r b t tb) (i x : Int32) : aIs (ofc B r b t tb g h ar u ta) (b + 8) i x = (wr 8 (ar 8) i x).map (fun f => ofc B r b t tb g h (up2 ar 8 f) u ta) := re_8 _ r b t g h ar hG.1 i x
theorem fn_8 (hG : GE r b t tb) : aN 0 (ofc B r b t tb g h ar u ta) (b + 8) = some (nN 8) := rn_8 _ r b t g h ar hG.1
theorem ft_C (hG : GE r b t tb) : isC 4 (ofc B r b t tb g h ar u ta) t = some () := by unfold isC ofc; rw [ovr_o _ _ _ _ _ _ _ hG.ot, ovt_t]; rfl
theorem ft_0 (hG : GE r b t tb) : gI 4 0 (ofc B r b t tb g h ar u ta) t = some (u 0) := by unfold gI gV ofc; rw [ovr_o _ _ _ _ _ _ _ hG.ot, ovt_t]; rfl
theorem fx_0 (hG : GE r b t tb) (v : Int32) : sV 4 0 (ofc B r b t tb g h ar u ta) t (.int v) = some (ofc B r b t tb g h ar (upd u 0 v) ta) := by
  unfold sV ofc
  rw [ovr_o _ _ _ _ _ _ _ hG.ot, ovt_t]
  have hl : (flT tb u).length = 13 := rfl
  have hf : (flT tb u).set 0 (.int v) = flT tb (upd u 0 v) := by simp [flT, upd]
  simp only [hl, true_and, show 0 < 13 by decide, if_true]
  rw [hf, ovr_up _ _ _ _ _ _ _ hG.ot, ovt_ut]
theorem ft_1 (hG : GE r b t tb) : gI 4 1 (ofc B r b t tb g h ar u ta) t = some (u 1) := by unfold gI gV ofc; rw [ovr_o _ _ _ _ _ _ _ hG.ot, ovt_t]; rfl
theorem fx_1 (hG : GE r b t tb) (v : Int32) : sV 4 1 (ofc B r b t tb g h ar u ta) t (.int v) = some (ofc B r b t tb g h ar (upd u 1 v) ta) := by
  unfold sV ofc
  rw [ovr_o _ _ _ _ _ _ _ hG.ot, ovt_t]
  have hl : (flT tb u).length = 13 := rfl
  have hf : (flT tb u).set 1 (.int v) = flT tb (upd u 1 v) := by simp [flT, upd]
  simp only [hl, true_and, show 1 < 13 by decide, if_true]
  rw [hf, ovr_up _ _ _ _ _ _ _ hG.ot, ovt_ut]
theorem ft_2 (hG : GE r b t tb) : gI 4 2 (ofc B r b t tb g h ar u ta) t = some (u 2) := by unfold gI gV ofc; rw [ovr_o _ _ _ _ _ _ _ hG.ot, ovt_t]; rfl
theorem fx_2 (hG : GE r b t tb) (v : Int32) : sV 4 2 (ofc B r b t tb g h ar u ta) t (.int v) = some (ofc B r b t tb g h ar (upd u 2 v) ta) := by
  unfold sV ofc
  rw [ovr_o _ _ _ _ _ _ _ hG.ot, ovt_t]
  have hl : (flT tb u).length = 13 := rfl
  have hf : (flT tb u).set 2 (.int v) = flT tb (upd u 2 v) := by simp [flT, upd]
  simp only [hl, true_and, show 2 < 13 by decide, if_true]
  rw [hf, ovr_up _ _ _ _ _ _ _ hG.ot, ovt_ut]
theorem ft_3 (hG : GE r b t tb) : gR 4 3 (ofc B r b t tb g h ar u ta) t = some (tb) := by unfold gR gV ofc; rw [ovr_o _ _ _ _ _ _ _ hG.ot, ovt_t]; rfl
theorem fs_0 (hG : GE r b t tb) : ofc B r b t tb g h ar u ta tb = some (.inl (0, 8, .inl (ta 0))) := by
  exact (ovr_o (ovt B t tb u ta) r b t g h ar (hG.oa (j := 0) (by decide))).trans (ovt_a B t tb u ta hG.2.1 (j := 0) (by decide))
theorem fp_0 (hG : GE r b t tb) (i : Int32) : aI 0 (ofc B r b t tb g h ar u ta) tb i = rd 8 (ta 0) i := by
  unfold aI
  rw [fs_0 hG]
  unfold rd
  simp
theorem fq_0 (hG : GE r b t tb) (i x : Int32) : aIs (ofc B r b t tb g h ar u ta) tb i x = (wr 8 (ta 0) i x).map (fun f => ofc B r b t tb g h ar u (up2 ta 0 f)) := by
  unfold aIs
  rw [fs_0 hG]
  unfold wr
  by_cases hh : ¬ (i < 0 ∨ 8 ≤ i.toNatClampNeg)
  · simp only [hh, true_and, if_true, Option.map_some, not_false_eq_true]
    have e := ovr_up (ovt B t tb u ta) r b t g h ar (hG.oa (j := 0) (by decide)) (.inl (0, 8, .inl (upd (ta 0) i.toNatClampNeg x)))
    have e2 := ovt_ua B t tb u ta hG.2.1 (j := 0) (by decide) (upd (ta 0) i.toNatClampNeg x)
    exact congrArg some (e.trans (congrArg (fun Q => ovr Q r b t g h ar) e2))
  · simp only [hh, and_false, if_false, Option.map_none]
theorem fm_0 (hG : GE r b t tb) : aN 0 (ofc B r b t tb g h ar u ta) tb = some (nN 8) := by
  unfold aN
  rw [fs_0 hG]
  rfl
theorem ft_4 (hG : GE r b t tb) : gR 4 4 (ofc B r b t tb g h ar u ta) t = some (tb + 1) := by unfold gR gV ofc; rw [ovr_o _ _ _ _ _ _ _ hG.ot, ovt_t]; rfl
theorem fs_1 (hG : GE r b t tb) : ofc B r b t tb g h ar u ta (tb + 1) = some (.inl (0, 8, .inl (ta 1))) := by
  exact (ovr_o (ovt B t tb u ta) r b t g h ar (hG.oa (j := 1) (by decide))).trans (ovt_a B t tb u ta hG.2.1 (j := 1) (by decide))
theorem fp_1 (hG : GE r b t tb) (i : Int32) : aI 0 (ofc B r b t tb g h ar u ta) (tb + 1) i = rd 8 (ta 1) i := by
  unfold aI
  rw [fs_1 hG]
  unfold rd
  simp
theorem fq_1 (hG : GE r b t tb) (i x : Int32) : aIs (ofc B r b t tb g h ar u ta) (tb + 1) i x = (wr 8 (ta 1) i x).map (fun f => ofc B r b t tb g h ar u (up2 ta 1 f)) := by
  unfold aIs
  rw [fs_1 hG]
  unfold wr
  by_cases hh : ¬ (i < 0 ∨ 8 ≤ i.toNatClampNeg)
  · simp only [hh, true_and, if_true, Option.map_some, not_false_eq_true]
    have e := ovr_up (ovt B t tb u ta) r b t g h ar (hG.oa (j := 1) (by decide)) (.inl (0, 8, .inl (upd (ta 1) i.toNatClampNeg x)))
    have e2 := ovt_ua B t tb u ta hG.2.1 (j := 1) (by decide) (upd (ta 1) i.toNatClampNeg x)
    exact congrArg some (e.trans (congrArg (fun Q => ovr Q r b t g h ar) e2))
  · simp only [hh, and_false, if_false, Option.map_none]
theorem fm_1 (hG : GE r b t tb) : aN 0 (ofc B r b t tb g h ar u ta) (tb + 1) = some (nN 8) := by
  unfold aN
  rw [fs_1 hG]
  rfl
theorem ft_5 (hG : GE r b t tb) : gR 4 5 (ofc B r b t tb g h ar u ta) t = some (tb + 2) := by unfold gR gV ofc; rw [ovr_o _ _ _ _ _ _ _ hG.ot, ovt_t]; rfl
theorem fs_2 (hG : GE r b t tb) : ofc B r b t tb g h ar u ta (tb + 2) = some (.inl (0, 8, .inl (ta 2))) := by
  exact (ovr_o (ovt B t tb u ta) r b t g h ar (hG.oa (j := 2) (by decide))).trans (ovt_a B t tb u ta hG.2.1 (j := 2) (by decide))
theorem fp_2 (hG : GE r b t tb) (i : Int32) : aI 0 (ofc B r b t tb g h ar u ta) (tb + 2) i = rd 8 (ta 2) i := by
  unfold aI
  rw [fs_2 hG]
  unfold rd
  simp
theorem fq_2 (hG : GE r b t tb) (i x : Int32) : aIs (ofc B r b t tb g h ar u ta) (tb + 2) i x = (wr 8 (ta 2) i x).map (fun f => ofc B r b t tb g h ar u (up2 ta 2 f)) := by
  unfold aIs
  rw [fs_2 hG]
  unfold wr
  by_cases hh : ¬ (i < 0 ∨ 8 ≤ i.toNatClampNeg)
  · simp only [hh, true_and, if_true, Option.map_some, not_false_eq_true]
    have e := ovr_up (ovt B t tb u ta) r b t g h ar (hG.oa (j := 2) (by decide)) (.inl (0, 8, .inl (upd (ta 2) i.toNatClampNeg x)))
    have e2 := ovt_ua B t tb u ta hG.2.1 (j := 2) (by decide) (upd (ta 2) i.toNatClampNeg x)
    exact congrArg some (e.trans (congrArg (fun Q => ovr Q r b t g h ar) e2))
  · simp only [hh, and_false, if_false, Option.map_none]
theorem fm_2 (hG : GE r b t tb) : aN 0 (ofc B r b t tb g h ar u ta) (tb + 2) = some (nN 8) := by
  unfold aN
  rw [fs_2 hG]
  rfl
theorem ft_6 (hG : GE r b t tb) : gR 4 6 (ofc B r b t tb g h ar u ta) t = some (tb + 3) := by unfold gR gV ofc; rw [ovr_o _ _ _ _ _ _ _ hG.ot, ovt_t]; rfl
theorem fs_3 (hG : GE r b t tb) : ofc B r b t tb g h ar u ta (tb + 3) = some (.inl (0, 8, .inl (ta 3))) := by
  exact (ovr_o (ovt B t tb u ta) r b t g h ar (hG.oa (j := 3) (by decide))).trans (ovt_a B t tb u ta hG.2.1 (j := 3) (by decide))
theorem fp_3 (hG : GE r b t tb) (i : Int32) : aI 0 (ofc B r b t tb g h ar u ta) (tb + 3) i = rd 8 (ta 3) i := by
  unfold aI
  rw [fs_3 hG]
  unfold rd
  simp
theorem fq_3 (hG : GE r b t tb) (i x : Int32) : aIs (ofc B r b t tb g h ar u ta) (tb + 3) i x = (wr 8 (ta 3) i x).map (fun f => ofc B r b t tb g h ar u (up2 ta 3 f)) := by
  unfold aIs
  rw [fs_3 hG]
  unfold wr
  by_cases hh : ¬ (i < 0 ∨ 8 ≤ i.toNatClampNeg)
  · simp only [hh, true_and, if_true, Option.map_some, not_false_eq_true]
    have e := ovr_up (ovt B t tb u ta) r b t g h ar (hG.oa (j := 3) (by decide)) (.inl (0, 8, .inl (upd (ta 3) i.toNatClampNeg x)))
    have e2 := ovt_ua B t tb u ta hG.2.1 (j := 3) (by decide) (upd (ta 3) i.toNatClampNeg x)
    exact congrArg some (e.trans (congrArg (fun Q => ovr Q r b t g h ar) e2))
  · simp only [hh, and_false, if_false, Option.map_none]
theorem fm_3 (hG : GE r b t tb) : aN 0 (ofc B r b t tb g h ar u ta) (tb + 3) = some (nN 8) := by
  unfold aN
  rw [fs_3 hG]
  rfl
theorem ft_7 (hG : GE r b t tb) : gR 4 7 (ofc B r b t tb g h ar u ta) t = some (tb + 4) := by unfold gR gV ofc; rw [ovr_o _ _ _ _ _ _ _ hG.ot, ovt_t]; rfl
theorem fs_4 (hG : GE r b t tb) : ofc B r b t tb g h ar u ta (tb + 4) = some (.inl (0, 8, .inl (ta 4))) := by
  exact (ovr_o (ovt B t tb u ta) r b t g h ar (hG.oa (j := 4) (by decide))).trans (ovt_a B t tb u ta hG.2.1 (j := 4) (by decide))
theorem fp_4 (hG : GE r b t tb) (i : Int32) : aI 0 (ofc B r b t tb g h ar u ta) (tb + 4) i = rd 8 (ta 4) i := by
  unfold aI
  rw [fs_4 hG]
  unfold rd
  simp
theorem fq_4 (hG : GE r b t tb) (i x : Int32) : aIs (ofc B r b t tb g h ar u ta) (tb + 4) i x = (wr 8 (ta 4) i x).map (fun f => ofc B r b t tb g h ar u (up2 ta 4 f)) := by
  unfold aIs
  rw [fs_4 hG]
  unfold wr
  by_cases hh : ¬ (i < 0 ∨ 8 ≤ i.toNatClampNeg)
  · simp only [hh, true_and, if_true, Option.map_some, not_false_eq_true]
    have e := ovr_up (ovt B t tb u ta) r b t g h ar (hG.oa (j := 4) (by decide)) (.inl (0, 8, .inl (upd (ta 4) i.toNatClampNeg x)))
    have e2 := ovt_ua B t tb u ta hG.2.1 (j := 4) (by decide) (upd (ta 4) i.toNatClampNeg x)
    exact congrArg some (e.trans (congrArg (fun Q => ovr Q r b t g h ar) e2))
  · simp only [hh, and_false, if_false, Option.map_none]
theorem fm_4 (hG : GE r b t tb) : aN 0 (ofc B r b t tb g h ar u ta) (tb + 4) = some (nN 8) := by
  unfold aN
  rw [fs_4 hG]
  rfl
theorem ft_8 (hG : GE r b t tb) : gR 4 8 (ofc B r b t tb g h ar u ta) t = some (tb + 5) := by unfold gR gV ofc; rw [ovr_o _ _ _ _ _ _ _ hG.ot, ovt_t]; rfl
theorem fs_5 (hG : GE r b t tb) : ofc B r b t tb g h ar u ta (tb + 5) = some (.inl (0, 8, .inl (ta 5))) := by
  exact (ovr_o (ovt B t tb u ta) r b t g h ar (hG.oa (j := 5) (by decide))).trans (ovt_a B t tb u ta hG.2.1 (j := 5) (by decide))
theorem fp_5 (hG : GE r b t tb) (i : Int32) : aI 0 (ofc B r b t tb g h ar u ta) (tb + 5) i = rd 8 (ta 5) i := by
  unfold aI
  rw [fs_5 hG]
  unfold rd
  simp
theorem fq_5 (hG : GE r b t tb) (i x : Int32) : aIs (ofc B r b t tb g h ar u ta) (tb + 5) i x = (wr 8 (ta 5) i x).map (fun f => ofc B r b t tb g h ar u (up2 ta 5 f)) := by
  unfold aIs
  rw [fs_5 hG]
  unfold wr
  by_cases hh : ¬ (i < 0 ∨ 8 ≤ i.toNatClampNeg)
  · simp only [hh, true_and, if_true, Option.map_some, not_false_eq_true]
    have e := ovr_up (ovt B t tb u ta) r b t g h ar (hG.oa (j := 5) (by decide)) (.inl (0, 8, .inl (upd (ta 5) i.toNatClampNeg x)))
    have e2 := ovt_ua B t tb u ta hG.2.1 (j := 5) (by decide) (upd (ta 5) i.toNatClampNeg x)
    exact congrArg some (e.trans (congrArg (fun Q => ovr Q r b t g h ar) e2))
  · simp only [hh, and_false, if_false, Option.map_none]
theorem fm_5 (hG : GE r b t tb) : aN 0 (ofc B r b t tb g h ar u ta) (tb + 5) = some (nN 8) := by
  unfold aN
  rw [fs_5 hG]
  rfl
theorem ft_9 (hG : GE r b t tb) : gR 4 9 (ofc B r b t tb g h ar u ta) t = some (tb + 6) := by unfold gR gV ofc; rw [ovr_o _ _ _ _ _ _ _ hG.ot, ovt_t]; rfl
theorem fs_6 (hG : GE r b t tb) : ofc B r b t tb g h ar u ta (tb + 6) = some (.inl (0, 8, .inl (ta 6))) := by
  exact (ovr_o (ovt B t tb u ta) r b t g h ar (hG.oa (j := 6) (by decide))).trans (ovt_a B t tb u ta hG.2.1 (j := 6) (by decide))
theorem fp_6 (hG : GE r b t tb) (i : Int32) : aI 0 (ofc B r b t tb g h ar u ta) (tb + 6) i = rd 8 (ta 6) i := by
  unfold aI
  rw [fs_6 hG]
  unfold rd
  simp
theorem fq_6 (hG : GE r b t tb) (i x : Int32) : aIs (ofc B r b t tb g h ar u ta) (tb + 6) i x = (wr 8 (ta 6) i x).map (fun f => ofc B r b t tb g h ar u (up2 ta 6 f)) := by
  unfold aIs
  rw [fs_6 hG]
  unfold wr
  by_cases hh : ¬ (i < 0 ∨ 8 ≤ i.toNatClampNeg)
  · simp only [hh, true_and, if_true, Option.map_some, not_false_eq_true]
    have e := ovr_up (ovt B t tb u ta) r b t g h ar (hG.oa (j := 6) (by decide)) (.inl (0, 8, .inl (upd (ta 6) i.toNatClampNeg x)))
    have e2 := ovt_ua B t tb u ta hG.2.1 (j := 6) (by decide) (upd (ta 6) i.toNatClampNeg x)
    exact congrArg some (e.trans (congrArg (fun Q => ovr Q r b t g h ar) e2))
  · simp only [hh, and_false, if_false, Option.map_none]
theorem fm_6 (hG : GE r b t tb) : aN 0 (ofc B r b t tb g h ar u ta) (tb + 6) = some (nN 8) := by
  unfold aN
  rw [fs_6 hG]
  rfl
theorem ft_10 (hG : GE r b t tb) : gR 4 10 (ofc B r b t tb g h ar u ta) t = some (tb + 7) := by unfold gR gV ofc; rw [ovr_o _ _ _ _ _ _ _ hG.ot, ovt_t]; rfl
theorem fs_7 (hG : GE r b t tb) : ofc B r b t tb g h ar u ta (tb + 7) = some (.inl (0, 8, .inl (ta 7))) := by
  exact (ovr_o (ovt B t tb u ta) r b t g h ar (hG.oa (j := 7) (by decide))).trans (ovt_a B t tb u ta hG.2.1 (j := 7) (by decide))
theorem fp_7 (hG : GE r b t tb) (i : Int32) : aI 0 (ofc B r b t tb g h ar u ta) (tb + 7) i = rd 8 (ta 7) i := by
  unfold aI
  rw [fs_7 hG]
  unfold rd
  simp
theorem fq_7 (hG : GE r b t tb) (i x : Int32) : aIs (ofc B r b t tb g h ar u ta) (tb + 7) i x = (wr 8 (ta 7) i x).map (fun f => ofc B r b t tb g h ar u (up2 ta 7 f)) := by
  unfold aIs
  rw [fs_7 hG]
  unfold wr
  by_cases hh : ¬ (i < 0 ∨ 8 ≤ i.toNatClampNeg)
  · simp only [hh, true_and, if_true, Option.map_some, not_false_eq_true]
    have e := ovr_up (ovt B t tb u ta) r b t g h ar (hG.oa (j := 7) (by decide)) (.inl (0, 8, .inl (upd (ta 7) i.toNatClampNeg x)))
    have e2 := ovt_ua B t tb u ta hG.2.1 (j := 7) (by decide) (upd (ta 7) i.toNatClampNeg x)
    exact congrArg some (e.trans (congrArg (fun Q => ovr Q r b t g h ar) e2))
  · simp only [hh, and_false, if_false, Option.map_none]
theorem fm_7 (hG : GE r b t tb) : aN 0 (ofc B r b t tb g h ar u ta) (tb + 7) = some (nN 8) := by
  unfold aN
  rw [fs_7 hG]
  rfl
theorem ft_11 (hG : GE r b t tb) : gR 4 11 (ofc B r b t tb g h ar u ta) t = some (tb + 8) := by unfold gR gV ofc; rw [ovr_o _ _ _ _ _ _ _ hG.ot, ovt_t]; rfl
theorem fs_8 (hG : GE r b t tb) : ofc B r b t tb g h ar u ta (tb + 8) = some (.inl (0, 8, .inl (ta 8))) := by
  exact (ovr_o (ovt B t tb u ta) r b t g h ar (hG.oa (j := 8) (by decide))).trans (ovt_a B t tb u ta hG.2.1 (j := 8) (by decide))
theorem fp_8 (hG : GE r b t tb) (i : Int32) : aI 0 (ofc B r b t tb g h ar u ta) (tb + 8) i = rd 8 (ta 8) i := by
  unfold aI
  rw [fs_8 hG]
  unfold rd
  simp
theorem fq_8 (hG : GE r b t tb) (i x : Int32) : aIs (ofc B r b t tb g h ar u ta) (tb + 8) i x = (wr 8 (ta 8) i x).map (fun f => ofc B r b t tb g h ar u (up2 ta 8 f)) := by
  unfold aIs
  rw [fs_8 hG]
  unfold wr
  by_cases hh : ¬ (i < 0 ∨ 8 ≤ i.toNatClampNeg)
  · simp only [hh, true_and, if_true, Option.map_some, not_false_eq_true]
    have e := ovr_up (ovt B t tb u ta) r b t g h ar (hG.oa (j := 8) (by decide)) (.inl (0, 8, .inl (upd (ta 8) i.toNatClampNeg x)))
    have e2 := ovt_ua B t tb u ta hG.2.1 (j := 8) (by decide) (upd (ta 8) i.toNatClampNeg x)
    exact congrArg some (e.trans (congrArg (fun Q => ovr Q r b t g h ar) e2))
  · simp only [hh, and_false, if_false, Option.map_none]
theorem fm_8 (hG : GE r b t tb) : aN 0 (ofc B r b t tb g h ar u ta) (tb + 8) = some (nN 8) := by
  unfold aN
  rw [fs_8 hG]
  rfl
theorem ft_12 (hG : GE r b t tb) : gR 4 12 (ofc B r b t tb g h ar u ta) t = some (tb + 9) := by unfold gR gV ofc; rw [ovr_o _ _ _ _ _ _ _ hG.ot, ovt_t]; rfl
theorem fs_9 (hG : GE r b t tb) : ofc B r b t tb g h ar u ta (tb + 9) = some (.inl (0, 100, .inl (ta 9))) := by
  exact (ovr_o (ovt B t tb u ta) r b t g h ar (hG.oa (j := 9) (by decide))).trans (ovt_a B t tb u ta hG.2.1 (j := 9) (by decide))
theorem fp_9 (hG : GE r b t tb) (i : Int32) : aI 0 (ofc B r b t tb g h ar u ta) (tb + 9) i = rd 100 (ta 9) i := by
  unfold aI
  rw [fs_9 hG]
  unfold rd
  simp
theorem fq_9 (hG : GE r b t tb) (i x : Int32) : aIs (ofc B r b t tb g h ar u ta) (tb + 9) i x = (wr 100 (ta 9) i x).map (fun f => ofc B r b t tb g h ar u (up2 ta 9 f)) := by
  unfold aIs
  rw [fs_9 hG]
  unfold wr
  by_cases hh : ¬ (i < 0 ∨ 100 ≤ i.toNatClampNeg)
  · simp only [hh, true_and, if_true, Option.map_some, not_false_eq_true]
    have e := ovr_up (ovt B t tb u ta) r b t g h ar (hG.oa (j := 9) (by decide)) (.inl (0, 100, .inl (upd (ta 9) i.toNatClampNeg x)))
    have e2 := ovt_ua B t tb u ta hG.2.1 (j := 9) (by decide) (upd (ta 9) i.toNatClampNeg x)
    exact congrArg some (e.trans (congrArg (fun Q => ovr Q r b t g h ar) e2))
  · simp only [hh, and_false, if_false, Option.map_none]
theorem fm_9 (hG : GE r b t tb) : aN 0 (ofc B r b t tb g h ar u ta) (tb + 9) = some (nN 100) := by
  unfold aN
  rw [fs_9 hG]
  rfl
end FV
/-- a roll in the class's memory says what a row of the reference says -/
def RG (g : Nat → Int32) (h : Nat → Int64) (ar : Nat → Nat → Int32) (v : Nat → Nat) (pl : Nat → Option Nat) : Prop :=
  (g 1 = nN (v 1) ∧ g 2 = nN (v 11) ∧ g 3 = nN (v 7) ∧ g 4 = nN (v 8) ∧ g 5 = nN (v 9) ∧ g 6 = nN (v 10)) ∧
  (h 7 = mkL (fun c => v (244 + c) = 1) (v 1) ∧ h 8 = mkL (fun c => v (364 + c) = 1) (v 1) ∧ h 9 = mkL (fun c => v (404 + c) = 1) (v 1) ∧ h 10 = mkL (fun c => v (444 + c) = 1) (v 1)) ∧
  (∀ c, c < v 1 → ar 0 c = nN (v (124 + c)) ∧ ar 1 c = nN (v (164 + c)) ∧ ar 2 c = nN (v (204 + c)) ∧ ar 3 c = nN (v (284 + c)) ∧ ar 4 c = nN (rwN (fun i => v (564 + 4 * c + i)) (v (324 + c))) ∧ ar 5 c = oN (pl c) ∧ ar 6 c = nN (v (524 + c))) ∧
  (∀ s, s < v 0 → ar 7 s = nN (v (20 + s)) ∧ ar 8 s = nN (v (60 + s)))
def TG (u : Nat → Int32) (ta : Nat → Nat → Int32) (v : Nat → Nat) (cd : Nat → Nat) : Prop :=
  (u 0 = nN (v 0) ∧ u 1 = nN (v 2) ∧ u 2 = nN (v 6)) ∧
  (∀ s, s < v 0 → ta 0 s = nN (cd s) ∧ ta 1 s = nN (v (28 + s)) ∧ ta 2 s = nN (v (36 + s)) ∧ ta 3 s = nN (rwN (fun i => v (68 + 3 * s + i)) (v (44 + s))) ∧ ta 4 s = nN (cnt (fun k => v (724 + 2 * k + 1) = s) (v 2)) ∧
    (v (52 + s) = 1 → ta 5 s = nN (v (92 + 4 * s)) ∧ ta 6 s = nN (v (92 + 4 * s + 1)) ∧ ta 7 s = nN (v (92 + 4 * s + 2)) ∧ ta 8 s = nN (v (92 + 4 * s + 3))) ∧
    (v (52 + s) ≠ 1 → ta 7 s = mI ∧ ta 8 s = mI)) ∧
  (∀ f, f < 100 → ∃ N, N < 256 ∧ ta 9 f = nN N ∧ ∀ s, s < 8 → N.testBit s = hasP v f s)
section RGS
variable {g : Nat → Int32} {h : Nat → Int64} {ar : Nat → Nat → Int32} {v : Nat → Nat} {pl : Nat → Option Nat} {u : Nat → Int32} {ta : Nat → Nat → Int32} {cd : Nat → Nat}
theorem RG.g1 (hR : RG g h ar v pl) : g 1 = nN (v 1) := hR.1.1
theorem RG.g2 (hR : RG g h ar v pl) : g 2 = nN (v 11) := hR.1.2.1
theorem RG.g3 (hR : RG g h ar v pl) : g 3 = nN (v 7) := hR.1.2.2.1
theorem RG.g4 (hR : RG g h ar v pl) : g 4 = nN (v 8) := hR.1.2.2.2.1
theorem RG.g5 (hR : RG g h ar v pl) : g 5 = nN (v 9) := hR.1.2.2.2.2.1
theorem RG.g6 (hR : RG g h ar v pl) : g 6 = nN (v 10) := hR.1.2.2.2.2.2
theorem RG.h7 (hR : RG g h ar v pl) : h 7 = mkL (fun c => v (244 + c) = 1) (v 1) := hR.2.1.1
theorem RG.h8 (hR : RG g h ar v pl) : h 8 = mkL (fun c => v (364 + c) = 1) (v 1) := hR.2.1.2.1
theorem RG.h9 (hR : RG g h ar v pl) : h 9 = mkL (fun c => v (404 + c) = 1) (v 1) := hR.2.1.2.2.1
theorem RG.h10 (hR : RG g h ar v pl) : h 10 = mkL (fun c => v (444 + c) = 1) (v 1) := hR.2.1.2.2.2
theorem RG.a0 (hR : RG g h ar v pl) {c : Nat} (hc : c < v 1) : ar 0 c = nN (v (124 + c)) := (hR.2.2.1 c hc).1
theorem RG.a1 (hR : RG g h ar v pl) {c : Nat} (hc : c < v 1) : ar 1 c = nN (v (164 + c)) := (hR.2.2.1 c hc).2.1
theorem RG.a2 (hR : RG g h ar v pl) {c : Nat} (hc : c < v 1) : ar 2 c = nN (v (204 + c)) := (hR.2.2.1 c hc).2.2.1
theorem RG.a3 (hR : RG g h ar v pl) {c : Nat} (hc : c < v 1) : ar 3 c = nN (v (284 + c)) := (hR.2.2.1 c hc).2.2.2.1
theorem RG.a4 (hR : RG g h ar v pl) {c : Nat} (hc : c < v 1) : ar 4 c = nN (rwN (fun i => v (564 + 4 * c + i)) (v (324 + c))) := (hR.2.2.1 c hc).2.2.2.2.1
theorem RG.a5 (hR : RG g h ar v pl) {c : Nat} (hc : c < v 1) : ar 5 c = oN (pl c) := (hR.2.2.1 c hc).2.2.2.2.2.1
theorem RG.a6 (hR : RG g h ar v pl) {c : Nat} (hc : c < v 1) : ar 6 c = nN (v (524 + c)) := (hR.2.2.1 c hc).2.2.2.2.2.2
theorem RG.a7 (hR : RG g h ar v pl) {s : Nat} (hs : s < v 0) : ar 7 s = nN (v (20 + s)) := (hR.2.2.2 s hs).1
theorem RG.a8 (hR : RG g h ar v pl) {s : Nat} (hs : s < v 0) : ar 8 s = nN (v (60 + s)) := (hR.2.2.2 s hs).2
theorem TG.u0 (hT : TG u ta v cd) : u 0 = nN (v 0) := hT.1.1
theorem TG.u1 (hT : TG u ta v cd) : u 1 = nN (v 2) := hT.1.2.1
theorem TG.u2 (hT : TG u ta v cd) : u 2 = nN (v 6) := hT.1.2.2
theorem TG.a0 (hT : TG u ta v cd) {s : Nat} (hs : s < v 0) : ta 0 s = nN (cd s) := (hT.2.1 s hs).1
theorem TG.a1 (hT : TG u ta v cd) {s : Nat} (hs : s < v 0) : ta 1 s = nN (v (28 + s)) := (hT.2.1 s hs).2.1
theorem TG.a2 (hT : TG u ta v cd) {s : Nat} (hs : s < v 0) : ta 2 s = nN (v (36 + s)) := (hT.2.1 s hs).2.2.1
theorem TG.a3 (hT : TG u ta v cd) {s : Nat} (hs : s < v 0) : ta 3 s = nN (rwN (fun i => v (68 + 3 * s + i)) (v (44 + s))) := (hT.2.1 s hs).2.2.2.1
theorem TG.a4 (hT : TG u ta v cd) {s : Nat} (hs : s < v 0) : ta 4 s = nN (cnt (fun k => v (724 + 2 * k + 1) = s) (v 2)) := (hT.2.1 s hs).2.2.2.2.1
theorem TG.zy (hT : TG u ta v cd) {s : Nat} (hs : s < v 0) (hz : v (52 + s) = 1) : ta 5 s = nN (v (92 + 4 * s)) ∧ ta 6 s = nN (v (92 + 4 * s + 1)) ∧ ta 7 s = nN (v (92 + 4 * s + 2)) ∧ ta 8 s = nN (v (92 + 4 * s + 3)) := (hT.2.1 s hs).2.2.2.2.2.1 hz
theorem TG.zn (hT : TG u ta v cd) {s : Nat} (hs : s < v 0) (hz : v (52 + s) ≠ 1) : ta 7 s = mI ∧ ta 8 s = mI := (hT.2.1 s hs).2.2.2.2.2.2 hz
theorem TG.ps (hT : TG u ta v cd) {f : Nat} (hf : f < 100) : ∃ N, N < 256 ∧ ta 9 f = nN N ∧ ∀ s, s < 8 → N.testBit s = hasP v f s := hT.2.2 f hf
end RGS
