/-- a roll lies at r, its rows at b .. b + 8 -/
def RC (M : Mem) (r b t : Nat) (g : Nat → Int32) (h : Nat → Int64) (ar : Nat → Nat → Int32) : Prop := M r = some (.inr (2, flR t b g h)) ∧ ∀ j, j < 9 → M (b + j) = some (.inl (0, lnR j, .inl (ar j)))
def TC (M : Mem) (t tb : Nat) (u : Nat → Int32) (ta : Nat → Nat → Int32) : Prop := M t = some (.inr (4, flT tb u)) ∧ ∀ j, j < 10 → M (tb + j) = some (.inl (0, lnT j, .inl (ta j)))
theorem RC.eq {M : Mem} {r b t : Nat} {g : Nat → Int32} {h : Nat → Int64} {ar : Nat → Nat → Int32} (hC : RC M r b t g h ar) : M = ovr M r b t g h ar := by
  funext x
  unfold ovr
  by_cases c : x = r
  · rw [if_pos c, c]; exact hC.1
  · rw [if_neg c]
    by_cases c2 : b ≤ x ∧ x < b + 9
    · rw [if_pos c2]
      have := hC.2 (x - b) (by omega)
      rw [show b + (x - b) = x by omega] at this
      exact this
    · rw [if_neg c2]
theorem TC.eq {M : Mem} {t tb : Nat} {u : Nat → Int32} {ta : Nat → Nat → Int32} (hC : TC M t tb u ta) : M = ovt M t tb u ta := by
  funext x
  unfold ovt
  by_cases c : x = t
  · rw [if_pos c, c]; exact hC.1
  · rw [if_neg c]
    by_cases c2 : tb ≤ x ∧ x < tb + 10
    · rw [if_pos c2]
      have := hC.2 (x - tb) (by omega)
      rw [show tb + (x - tb) = x by omega] at this
      exact this
    · rw [if_neg c2]
theorem RC.toF {M : Mem} {r b t tb : Nat} {g : Nat → Int32} {h : Nat → Int64} {ar : Nat → Nat → Int32} {u : Nat → Int32} {ta : Nat → Nat → Int32} (hC : RC M r b t g h ar) (hT : TC M t tb u ta) : M = ofc M r b t tb g h ar u ta := by
  unfold ofc
  rw [← hT.eq]
  exact hC.eq
theorem RC.mk1 {B : Mem} {r b t tb : Nat} {g : Nat → Int32} {h : Nat → Int64} {ar : Nat → Nat → Int32} {u : Nat → Int32} {ta : Nat → Nat → Int32} (hb : r < b) : RC (ofc B r b t tb g h ar u ta) r b t g h ar :=
  ⟨ovr_r _ r b t g h ar, fun j hj => ovr_a _ r b t g h ar hb hj⟩
theorem TC.mk1 {B : Mem} {r b t tb : Nat} {g : Nat → Int32} {h : Nat → Int64} {ar : Nat → Nat → Int32} {u : Nat → Int32} {ta : Nat → Nat → Int32} (hG : GE r b t tb) : TC (ofc B r b t tb g h ar u ta) t tb u ta :=
  ⟨(ovr_o _ r b t g h ar hG.ot).trans (ovt_t B t tb u ta), fun j hj => (ovr_o _ r b t g h ar (hG.oa hj)).trans (ovt_a B t tb u ta hG.2.1 hj)⟩
theorem ofc_o {B : Mem} {r b t tb : Nat} {g : Nat → Int32} {h : Nat → Int64} {ar : Nat → Nat → Int32} {u : Nat → Int32} {ta : Nat → Nat → Int32} {a : Nat} (h1 : oR r b a) (h2 : oTw t tb a) : ofc B r b t tb g h ar u ta a = B a :=
  (ovr_o _ r b t g h ar h1).trans (ovt_o B t tb u ta h2)
section CP
variable {B : Mem} {r b t : Nat} {g : Nat → Int32} {h : Nat → Int64} {ar : Nat → Nat → Int32} {r2 b2 t2 : Nat} {g2 : Nat → Int32} {h2 : Nat → Int64} {ar2 : Nat → Nat → Int32}
/-- two rolls apart -/
def AP (r b r2 b2 : Nat) : Prop := r < b ∧ r2 < b2 ∧ r ≠ r2 ∧ (r2 < b ∨ b + 9 ≤ r2) ∧ (r < b2 ∨ b2 + 9 ≤ r) ∧ (b + 9 ≤ b2 ∨ b2 + 9 ≤ b)
theorem AP.o (hA : AP r b r2 b2) : oR r b r2 := by unfold AP at hA; unfold oR; omega
theorem AP.oa (hA : AP r b r2 b2) {j : Nat} (hj : j < 9) : oR r b (b2 + j) := by unfold AP at hA; unfold oR; omega
theorem s_cp (hA : AP r b r2 b2) (hB : RC B r2 b2 t2 g2 h2 ar2) {j n : Nat} (hj : j < 9) (hn : lnR j = n) (hz : n < 2147483648) : aCp (ovr B r b t g h ar) (b2 + j) (0 : Int32) (b + j) (0 : Int32) (nN n) = some (ovr B r b t g h (up2 ar j (va_cpy (ar2 j) (ar j) 0 0 n))) := by
  have e1 : ovr B r b t g h ar (b2 + j) = some (.inl (0, lnR j, .inl (ar2 j))) := (ovr_o B r b t g h ar (hA.oa hj)).trans (hB.2 j hj)
  have e2 := ovr_a B r b t g h ar hA.1 hj
  have c1 := nN_clamp (n := n) hz
  have c0 : (0 : Int32).toNatClampNeg = 0 := rfl
  unfold aCp
  rw [e1, e2]
  simp only [c1, c0]
  rw [if_pos ⟨⟨trivial, trivial, by decide, by decide, nN_neg0 hz⟩, by omega, by omega⟩, hn]
  have e3 := ovr_ua B r b t g h ar hA.1 hj (va_cpy (ar2 j) (ar j) 0 0 n)
  rw [hn] at e3
  rw [e3]
theorem s_0 (hA : AP r b r2 b2) (hB : RC B r2 b2 t2 g2 h2 ar2) : gR 2 0 (ovr B r b t g h ar) r2 = some t2 := by unfold gR gV; rw [ovr_o _ _ _ _ _ _ _ hA.o, hB.1]; rfl
theorem s_1 (hA : AP r b r2 b2) (hB : RC B r2 b2 t2 g2 h2 ar2) : gI 2 1 (ovr B r b t g h ar) r2 = some (g2 1) := by unfold gI gV; rw [ovr_o _ _ _ _ _ _ _ hA.o, hB.1]; rfl
theorem s_2 (hA : AP r b r2 b2) (hB : RC B r2 b2 t2 g2 h2 ar2) : gI 2 2 (ovr B r b t g h ar) r2 = some (g2 2) := by unfold gI gV; rw [ovr_o _ _ _ _ _ _ _ hA.o, hB.1]; rfl
theorem s_3 (hA : AP r b r2 b2) (hB : RC B r2 b2 t2 g2 h2 ar2) : gI 2 3 (ovr B r b t g h ar) r2 = some (g2 3) := by unfold gI gV; rw [ovr_o _ _ _ _ _ _ _ hA.o, hB.1]; rfl
theorem s_4 (hA : AP r b r2 b2) (hB : RC B r2 b2 t2 g2 h2 ar2) : gI 2 4 (ovr B r b t g h ar) r2 = some (g2 4) := by unfold gI gV; rw [ovr_o _ _ _ _ _ _ _ hA.o, hB.1]; rfl
theorem s_5 (hA : AP r b r2 b2) (hB : RC B r2 b2 t2 g2 h2 ar2) : gI 2 5 (ovr B r b t g h ar) r2 = some (g2 5) := by unfold gI gV; rw [ovr_o _ _ _ _ _ _ _ hA.o, hB.1]; rfl
theorem s_6 (hA : AP r b r2 b2) (hB : RC B r2 b2 t2 g2 h2 ar2) : gI 2 6 (ovr B r b t g h ar) r2 = some (g2 6) := by unfold gI gV; rw [ovr_o _ _ _ _ _ _ _ hA.o, hB.1]; rfl
theorem s_7 (hA : AP r b r2 b2) (hB : RC B r2 b2 t2 g2 h2 ar2) : gL 2 7 (ovr B r b t g h ar) r2 = some (h2 7) := by unfold gL gV; rw [ovr_o _ _ _ _ _ _ _ hA.o, hB.1]; rfl
theorem s_8 (hA : AP r b r2 b2) (hB : RC B r2 b2 t2 g2 h2 ar2) : gL 2 8 (ovr B r b t g h ar) r2 = some (h2 8) := by unfold gL gV; rw [ovr_o _ _ _ _ _ _ _ hA.o, hB.1]; rfl
theorem s_9 (hA : AP r b r2 b2) (hB : RC B r2 b2 t2 g2 h2 ar2) : gL 2 9 (ovr B r b t g h ar) r2 = some (h2 9) := by unfold gL gV; rw [ovr_o _ _ _ _ _ _ _ hA.o, hB.1]; rfl
theorem s_10 (hA : AP r b r2 b2) (hB : RC B r2 b2 t2 g2 h2 ar2) : gL 2 10 (ovr B r b t g h ar) r2 = some (h2 10) := by unfold gL gV; rw [ovr_o _ _ _ _ _ _ _ hA.o, hB.1]; rfl
theorem s_11 (hA : AP r b r2 b2) (hB : RC B r2 b2 t2 g2 h2 ar2) : gR 2 11 (ovr B r b t g h ar) r2 = some b2 := by unfold gR gV; rw [ovr_o _ _ _ _ _ _ _ hA.o, hB.1]; rfl
theorem sc_0 (hA : AP r b r2 b2) (hB : RC B r2 b2 t2 g2 h2 ar2) : aCp (ovr B r b t g h ar) b2 (0 : Int32) b (0 : Int32) (40 : Int32) = some (ovr B r b t g h (up2 ar 0 (va_cpy (ar2 0) (ar 0) 0 0 40))) := s_cp hA hB (j := 0) (by decide) rfl (by decide)
theorem s_12 (hA : AP r b r2 b2) (hB : RC B r2 b2 t2 g2 h2 ar2) : gR 2 12 (ovr B r b t g h ar) r2 = some (b2 + 1) := by unfold gR gV; rw [ovr_o _ _ _ _ _ _ _ hA.o, hB.1]; rfl
theorem sc_1 (hA : AP r b r2 b2) (hB : RC B r2 b2 t2 g2 h2 ar2) : aCp (ovr B r b t g h ar) (b2 + 1) (0 : Int32) (b + 1) (0 : Int32) (40 : Int32) = some (ovr B r b t g h (up2 ar 1 (va_cpy (ar2 1) (ar 1) 0 0 40))) := s_cp hA hB (j := 1) (by decide) rfl (by decide)
theorem s_13 (hA : AP r b r2 b2) (hB : RC B r2 b2 t2 g2 h2 ar2) : gR 2 13 (ovr B r b t g h ar) r2 = some (b2 + 2) := by unfold gR gV; rw [ovr_o _ _ _ _ _ _ _ hA.o, hB.1]; rfl
theorem sc_2 (hA : AP r b r2 b2) (hB : RC B r2 b2 t2 g2 h2 ar2) : aCp (ovr B r b t g h ar) (b2 + 2) (0 : Int32) (b + 2) (0 : Int32) (40 : Int32) = some (ovr B r b t g h (up2 ar 2 (va_cpy (ar2 2) (ar 2) 0 0 40))) := s_cp hA hB (j := 2) (by decide) rfl (by decide)
theorem s_14 (hA : AP r b r2 b2) (hB : RC B r2 b2 t2 g2 h2 ar2) : gR 2 14 (ovr B r b t g h ar) r2 = some (b2 + 3) := by unfold gR gV; rw [ovr_o _ _ _ _ _ _ _ hA.o, hB.1]; rfl
theorem sc_3 (hA : AP r b r2 b2) (hB : RC B r2 b2 t2 g2 h2 ar2) : aCp (ovr B r b t g h ar) (b2 + 3) (0 : Int32) (b + 3) (0 : Int32) (40 : Int32) = some (ovr B r b t g h (up2 ar 3 (va_cpy (ar2 3) (ar 3) 0 0 40))) := s_cp hA hB (j := 3) (by decide) rfl (by decide)
theorem s_15 (hA : AP r b r2 b2) (hB : RC B r2 b2 t2 g2 h2 ar2) : gR 2 15 (ovr B r b t g h ar) r2 = some (b2 + 4) := by unfold gR gV; rw [ovr_o _ _ _ _ _ _ _ hA.o, hB.1]; rfl
theorem sc_4 (hA : AP r b r2 b2) (hB : RC B r2 b2 t2 g2 h2 ar2) : aCp (ovr B r b t g h ar) (b2 + 4) (0 : Int32) (b + 4) (0 : Int32) (40 : Int32) = some (ovr B r b t g h (up2 ar 4 (va_cpy (ar2 4) (ar 4) 0 0 40))) := s_cp hA hB (j := 4) (by decide) rfl (by decide)
theorem s_16 (hA : AP r b r2 b2) (hB : RC B r2 b2 t2 g2 h2 ar2) : gR 2 16 (ovr B r b t g h ar) r2 = some (b2 + 5) := by unfold gR gV; rw [ovr_o _ _ _ _ _ _ _ hA.o, hB.1]; rfl
theorem sc_5 (hA : AP r b r2 b2) (hB : RC B r2 b2 t2 g2 h2 ar2) : aCp (ovr B r b t g h ar) (b2 + 5) (0 : Int32) (b + 5) (0 : Int32) (40 : Int32) = some (ovr B r b t g h (up2 ar 5 (va_cpy (ar2 5) (ar 5) 0 0 40))) := s_cp hA hB (j := 5) (by decide) rfl (by decide)
theorem s_17 (hA : AP r b r2 b2) (hB : RC B r2 b2 t2 g2 h2 ar2) : gR 2 17 (ovr B r b t g h ar) r2 = some (b2 + 6) := by unfold gR gV; rw [ovr_o _ _ _ _ _ _ _ hA.o, hB.1]; rfl
theorem sc_6 (hA : AP r b r2 b2) (hB : RC B r2 b2 t2 g2 h2 ar2) : aCp (ovr B r b t g h ar) (b2 + 6) (0 : Int32) (b + 6) (0 : Int32) (40 : Int32) = some (ovr B r b t g h (up2 ar 6 (va_cpy (ar2 6) (ar 6) 0 0 40))) := s_cp hA hB (j := 6) (by decide) rfl (by decide)
theorem s_18 (hA : AP r b r2 b2) (hB : RC B r2 b2 t2 g2 h2 ar2) : gR 2 18 (ovr B r b t g h ar) r2 = some (b2 + 7) := by unfold gR gV; rw [ovr_o _ _ _ _ _ _ _ hA.o, hB.1]; rfl
theorem sc_7 (hA : AP r b r2 b2) (hB : RC B r2 b2 t2 g2 h2 ar2) : aCp (ovr B r b t g h ar) (b2 + 7) (0 : Int32) (b + 7) (0 : Int32) (8 : Int32) = some (ovr B r b t g h (up2 ar 7 (va_cpy (ar2 7) (ar 7) 0 0 8))) := s_cp hA hB (j := 7) (by decide) rfl (by decide)
theorem s_19 (hA : AP r b r2 b2) (hB : RC B r2 b2 t2 g2 h2 ar2) : gR 2 19 (ovr B r b t g h ar) r2 = some (b2 + 8) := by unfold gR gV; rw [ovr_o _ _ _ _ _ _ _ hA.o, hB.1]; rfl
theorem sc_8 (hA : AP r b r2 b2) (hB : RC B r2 b2 t2 g2 h2 ar2) : aCp (ovr B r b t g h ar) (b2 + 8) (0 : Int32) (b + 8) (0 : Int32) (8 : Int32) = some (ovr B r b t g h (up2 ar 8 (va_cpy (ar2 8) (ar 8) 0 0 8))) := s_cp hA hB (j := 8) (by decide) rfl (by decide)
theorem c_copyRaw (hA : AP r b r2 b2) (hB : RC B r2 b2 t2 g2 h2 ar2) (h3 : g2 3 = 0 ∨ g2 3 = 1) (h4 : g2 4 = 0 ∨ g2 4 = 1) : ∃ g' h' ar', p_X2_copyFrom r r2 (ovr B r b t g h ar) = some (ovr B r b t2 g' h' ar') ∧ (∀ k, 1 ≤ k → k ≤ 6 → g' k = g2 k) ∧ (∀ k, 7 ≤ k → k ≤ 10 → h' k = h2 k) ∧ ∀ j, j < 9 → ∀ i, i < lnR j → ar' j i = ar2 j i := by
  refine ⟨(upd (upd (upd (upd (upd (upd g 1 (g2 1)) 2 (g2 2)) 3 (g2 3)) 4 (g2 4)) 5 (g2 5)) 6 (g2 6)), (vp_updL (vp_updL (vp_updL (vp_updL h 7 (h2 7)) 8 (h2 8)) 9 (h2 9)) 10 (h2 10)), (up2 (up2 (up2 (up2 (up2 (up2 (up2 (up2 (up2 ar 0 (va_cpy (ar2 0) (ar 0) 0 0 40)) 1 (va_cpy (ar2 1) (ar 1) 0 0 40)) 2 (va_cpy (ar2 2) (ar 2) 0 0 40)) 3 (va_cpy (ar2 3) (ar 3) 0 0 40)) 4 (va_cpy (ar2 4) (ar 4) 0 0 40)) 5 (va_cpy (ar2 5) (ar 5) 0 0 40)) 6 (va_cpy (ar2 6) (ar 6) 0 0 40)) 7 (va_cpy (ar2 7) (ar 7) 0 0 8)) 8 (va_cpy (ar2 8) (ar 8) 0 0 8)), ?_, fun k h1 h2 => ?_, fun k h1 h2 => ?_, fun j hj i hi => ?_⟩
  · unfold p_X2_copyFrom
    have z3 : ∀ (M : Mem) (a : Nat), sZ 2 3 M a (g2 3) = sV 2 3 M a (.int (g2 3)) := fun M a => rv_sZ _ _ h3 M a
    have z4 : ∀ (M : Mem) (a : Nat), sZ 2 4 M a (g2 4) = sV 2 4 M a (.int (g2 4)) := fun M a => rv_sZ _ _ h4 M a
    simp (disch := omega) only [s_0 hA hB, s_1 hA hB, s_2 hA hB, s_3 hA hB, s_4 hA hB, s_5 hA hB, s_6 hA hB, s_7 hA hB, s_8 hA hB, s_9 hA hB, s_10 hA hB, s_11 hA hB, s_12 hA hB, s_13 hA hB, s_14 hA hB, s_15 hA hB, s_16 hA hB, s_17 hA hB, s_18 hA hB, s_19 hA hB, sc_0 hA hB, sc_1 hA hB, sc_2 hA hB, sc_3 hA hB, sc_4 hA hB, sc_5 hA hB, sc_6 hA hB, sc_7 hA hB, sc_8 hA hB, rw_0, rw_1, rw_2, rw_3, rw_4, rw_5, rw_6, rw_7, rw_8, rw_9, rw_10, rv_0, rv_1, rv_2, rv_3, rv_4, rv_5, rv_6, rv_7, rv_8, rv_9, rv_10, rv_11, rv_12, rv_13, rv_14, rv_15, rv_16, rv_17, rv_18, rv_19, z3, z4, bS, up2_s, up2_n]
  · have hk : k = 1 ∨ k = 2 ∨ k = 3 ∨ k = 4 ∨ k = 5 ∨ k = 6 := by omega
    rcases hk with rfl | rfl | rfl | rfl | rfl | rfl <;> simp [upd]
  · have hk : k = 7 ∨ k = 8 ∨ k = 9 ∨ k = 10 := by omega
    rcases hk with rfl | rfl | rfl | rfl <;> simp [vp_updL]
  · have hk : j = 0 ∨ j = 1 ∨ j = 2 ∨ j = 3 ∨ j = 4 ∨ j = 5 ∨ j = 6 ∨ j = 7 ∨ j = 8 := by omega
    rcases hk with rfl | rfl | rfl | rfl | rfl | rfl | rfl | rfl | rfl
    · have hi : i < 40 := hi
      show va_cpy (ar2 0) (ar 0) 0 0 40 i = _
      rw [pk_cpy_in (Nat.zero_le _) (by omega)]; congr 1; omega
    · have hi : i < 40 := hi
      show va_cpy (ar2 1) (ar 1) 0 0 40 i = _
      rw [pk_cpy_in (Nat.zero_le _) (by omega)]; congr 1; omega
    · have hi : i < 40 := hi
      show va_cpy (ar2 2) (ar 2) 0 0 40 i = _
      rw [pk_cpy_in (Nat.zero_le _) (by omega)]; congr 1; omega
    · have hi : i < 40 := hi
      show va_cpy (ar2 3) (ar 3) 0 0 40 i = _
      rw [pk_cpy_in (Nat.zero_le _) (by omega)]; congr 1; omega
    · have hi : i < 40 := hi
      show va_cpy (ar2 4) (ar 4) 0 0 40 i = _
      rw [pk_cpy_in (Nat.zero_le _) (by omega)]; congr 1; omega
    · have hi : i < 40 := hi
      show va_cpy (ar2 5) (ar 5) 0 0 40 i = _
      rw [pk_cpy_in (Nat.zero_le _) (by omega)]; congr 1; omega
    · have hi : i < 40 := hi
      show va_cpy (ar2 6) (ar 6) 0 0 40 i = _
      rw [pk_cpy_in (Nat.zero_le _) (by omega)]; congr 1; omega
    · have hi : i < 8 := hi
      show va_cpy (ar2 7) (ar 7) 0 0 8 i = _
      rw [pk_cpy_in (Nat.zero_le _) (by omega)]; congr 1; omega
    · have hi : i < 8 := hi
      show va_cpy (ar2 8) (ar 8) 0 0 8 i = _
      rw [pk_cpy_in (Nat.zero_le _) (by omega)]; congr 1; omega
theorem RG.cp {g' : Nat → Int32} {h' : Nat → Int64} {ar' : Nat → Nat → Int32} {v : Nat → Nat} {pl : Nat → Option Nat} (hR : RG g2 h2 ar2 v pl) (h0 : v 0 ≤ 8) (h1 : v 1 ≤ 40) (q1 : ∀ k, 1 ≤ k → k ≤ 6 → g' k = g2 k) (q2 : ∀ k, 7 ≤ k → k ≤ 10 → h' k = h2 k) (q3 : ∀ j, j < 9 → ∀ i, i < lnR j → ar' j i = ar2 j i) : RG g' h' ar' v pl := by
  obtain ⟨⟨a1, a2, a3, a4, a5, a6⟩, ⟨b7, b8, b9, b10⟩, hC, hS⟩ := hR
  refine ⟨⟨by rw [q1 1 (by omega) (by omega)]; exact a1, by rw [q1 2 (by omega) (by omega)]; exact a2, by rw [q1 3 (by omega) (by omega)]; exact a3, by rw [q1 4 (by omega) (by omega)]; exact a4, by rw [q1 5 (by omega) (by omega)]; exact a5, by rw [q1 6 (by omega) (by omega)]; exact a6⟩, ⟨by rw [q2 7 (by omega) (by omega)]; exact b7, by rw [q2 8 (by omega) (by omega)]; exact b8, by rw [q2 9 (by omega) (by omega)]; exact b9, by rw [q2 10 (by omega) (by omega)]; exact b10⟩, fun k hk => ?_, fun s hs => ?_⟩
  · obtain ⟨c0, c1, c2, c3, c4, c5, c6⟩ := hC k hk
    have l : ∀ j, j < 7 → k < lnR j := fun j hj => by unfold lnR; rw [if_pos hj]; omega
    exact ⟨by rw [q3 0 (by omega) k (l 0 (by omega))]; exact c0, by rw [q3 1 (by omega) k (l 1 (by omega))]; exact c1, by rw [q3 2 (by omega) k (l 2 (by omega))]; exact c2, by rw [q3 3 (by omega) k (l 3 (by omega))]; exact c3, by rw [q3 4 (by omega) k (l 4 (by omega))]; exact c4, by rw [q3 5 (by omega) k (l 5 (by omega))]; exact c5, by rw [q3 6 (by omega) k (l 6 (by omega))]; exact c6⟩
  · obtain ⟨d7, d8⟩ := hS s hs
    exact ⟨by rw [q3 7 (by omega) s (by show s < 8; omega)]; exact d7, by rw [q3 8 (by omega) s (by show s < 8; omega)]; exact d8⟩
theorem c_copyFrom {v : Nat → Nat} {pl : Nat → Option Nat} (hA : AP r b r2 b2) (hB : RC B r2 b2 t2 g2 h2 ar2) (hR : RG g2 h2 ar2 v pl) (hI : Inv v pl) : ∃ g' h' ar', p_X2_copyFrom r r2 (ovr B r b t g h ar) = some (ovr B r b t2 g' h' ar') ∧ RG g' h' ar' v pl := by
  have h0 := hI.h0; have h1 := hI.h1; have h7 := hI.h7; have h8 := hI.h8
  have bit : ∀ x, x ≤ 1 → nN x = 0 ∨ nN x = 1 := fun x hx => by
    rcases Nat.lt_or_ge x 1 with c | c
    · left; rw [show x = 0 by omega]; rfl
    · right; rw [show x = 1 by omega]; rfl
  obtain ⟨g', h', ar', e, q1, q2, q3⟩ := c_copyRaw (t := t) (g := g) (h := h) (ar := ar) hA hB (by rw [hR.g3]; exact bit _ h7) (by rw [hR.g4]; exact bit _ h8)
  exact ⟨g', h', ar', e, hR.cp h0 h1 q1 q2 q3⟩
end CP
section EN
variable {B : Mem} {r b t tb : Nat} {g : Nat → Int32} {h : Nat → Int64} {ar : Nat → Nat → Int32} {u : Nat → Int32} {ta : Nat → Nat → Int32} {v : Nat → Nat} {pl : Nat → Option Nat} {cd : Nat → Nat}
/-- a new child: row, family, care and preferences (already in the row v) -/
def enrV (v : Nat → Nat) (x y f cr : Nat) (w : Nat → Nat) (m : Nat) : Nat → Nat := fun i =>
  if i = 1 then v 1 + 1 else if i = 11 then (v 11 * 1103515245 + 12345) % 2147483648
  else if i = 124 + v 1 then x else if i = 164 + v 1 then y else if i = 204 + v 1 then f else if i = 244 + v 1 then cr
  else if i = 284 + v 1 then (v 11 * 1103515245 + 12345) % 2147483648 / 65536 % 10000
  else if i = 324 + v 1 then m else if i = 364 + v 1 then v 8 else if i = 404 + v 1 then 0 else if i = 444 + v 1 then 0
  else if i = 524 + v 1 then 0 else if 564 + 4 * v 1 ≤ i ∧ i < 564 + 4 * v 1 + m then w (i - (564 + 4 * v 1)) else v i
theorem lot_eq (a : Nat) : (nN a * (1103515245 : Int32) + (12345 : Int32)) &&& (2147483647 : Int32) = nN ((a * 1103515245 + 12345) % 2147483648) := by
  have e1 : nN a * (1103515245 : Int32) = nN (a * 1103515245) := nN_mul a 1103515245
  have e2 : nN (a * 1103515245) + (12345 : Int32) = nN (a * 1103515245 + 12345) := nN_add _ 12345
  rw [e1, e2]
  exact fa_mask _ 31
theorem lot_dr {a : Nat} (ha : a < 2147483648) : (nN a / (65536 : Int32)) - (nN a / (65536 : Int32)) / (10000 : Int32) * (10000 : Int32) = nN (a / 65536 % 10000) := by
  have e1 : nN a / (65536 : Int32) = nI (a / 65536) := pk_div (a := a) (d := 65536) (by omega) (by decide) (by decide)
  rw [e1]
  exact pk_rem (a := a / 65536) (d := 10000) (by omega) (by decide) (by decide)
def okE (v : Nat → Nat) (m i : Nat) : Prop := i ≠ 1 ∧ i ≠ 11 ∧ i ≠ 124 + v 1 ∧ i ≠ 164 + v 1 ∧ i ≠ 204 + v 1 ∧ i ≠ 244 + v 1 ∧ i ≠ 284 + v 1 ∧ i ≠ 324 + v 1 ∧ i ≠ 364 + v 1 ∧ i ≠ 404 + v 1 ∧ i ≠ 444 + v 1 ∧ i ≠ 524 + v 1 ∧ ¬ (564 + 4 * v 1 ≤ i ∧ i < 564 + 4 * v 1 + m)
theorem enr_n {v : Nat → Nat} {x y f cr : Nat} {w : Nat → Nat} {m i : Nat} (hi : okE v m i) : enrV v x y f cr w m i = v i := by
  unfold okE at hi
  unfold enrV
  rw [if_neg (by omega), if_neg (by omega), if_neg (by omega), if_neg (by omega), if_neg (by omega), if_neg (by omega), if_neg (by omega), if_neg (by omega), if_neg (by omega), if_neg (by omega), if_neg (by omega), if_neg (by omega), if_neg (by omega)]
theorem enr_1 {v : Nat → Nat} {x y f cr : Nat} {w : Nat → Nat} {m : Nat} : enrV v x y f cr w m 1 = v 1 + 1 := if_pos rfl
theorem enr_11 {v : Nat → Nat} {x y f cr : Nat} {w : Nat → Nat} {m : Nat} : enrV v x y f cr w m 11 = (v 11 * 1103515245 + 12345) % 2147483648 := by unfold enrV; rw [if_neg (by omega), if_pos rfl]
theorem enr_124 {v : Nat → Nat} {x y f cr : Nat} {w : Nat → Nat} {m : Nat} (hn : v 1 < 40) : enrV v x y f cr w m (124 + v 1) = x := by unfold enrV; rw [if_neg (by omega), if_neg (by omega), if_pos rfl]
theorem enr_164 {v : Nat → Nat} {x y f cr : Nat} {w : Nat → Nat} {m : Nat} (hn : v 1 < 40) : enrV v x y f cr w m (164 + v 1) = y := by unfold enrV; rw [if_neg (by omega), if_neg (by omega), if_neg (by omega), if_pos rfl]
theorem enr_204 {v : Nat → Nat} {x y f cr : Nat} {w : Nat → Nat} {m : Nat} (hn : v 1 < 40) : enrV v x y f cr w m (204 + v 1) = f := by unfold enrV; rw [if_neg (by omega), if_neg (by omega), if_neg (by omega), if_neg (by omega), if_pos rfl]
theorem enr_244 {v : Nat → Nat} {x y f cr : Nat} {w : Nat → Nat} {m : Nat} (hn : v 1 < 40) : enrV v x y f cr w m (244 + v 1) = cr := by unfold enrV; rw [if_neg (by omega), if_neg (by omega), if_neg (by omega), if_neg (by omega), if_neg (by omega), if_pos rfl]
theorem enr_284 {v : Nat → Nat} {x y f cr : Nat} {w : Nat → Nat} {m : Nat} (hn : v 1 < 40) : enrV v x y f cr w m (284 + v 1) = (v 11 * 1103515245 + 12345) % 2147483648 / 65536 % 10000 := by unfold enrV; rw [if_neg (by omega), if_neg (by omega), if_neg (by omega), if_neg (by omega), if_neg (by omega), if_neg (by omega), if_pos rfl]
theorem enr_324 {v : Nat → Nat} {x y f cr : Nat} {w : Nat → Nat} {m : Nat} (hn : v 1 < 40) : enrV v x y f cr w m (324 + v 1) = m := by unfold enrV; rw [if_neg (by omega), if_neg (by omega), if_neg (by omega), if_neg (by omega), if_neg (by omega), if_neg (by omega), if_neg (by omega), if_pos rfl]
theorem enr_364 {v : Nat → Nat} {x y f cr : Nat} {w : Nat → Nat} {m : Nat} (hn : v 1 < 40) : enrV v x y f cr w m (364 + v 1) = v 8 := by unfold enrV; rw [if_neg (by omega), if_neg (by omega), if_neg (by omega), if_neg (by omega), if_neg (by omega), if_neg (by omega), if_neg (by omega), if_neg (by omega), if_pos rfl]
theorem enr_404 {v : Nat → Nat} {x y f cr : Nat} {w : Nat → Nat} {m : Nat} (hn : v 1 < 40) : enrV v x y f cr w m (404 + v 1) = 0 := by unfold enrV; rw [if_neg (by omega), if_neg (by omega), if_neg (by omega), if_neg (by omega), if_neg (by omega), if_neg (by omega), if_neg (by omega), if_neg (by omega), if_neg (by omega), if_pos rfl]
theorem enr_444 {v : Nat → Nat} {x y f cr : Nat} {w : Nat → Nat} {m : Nat} (hn : v 1 < 40) : enrV v x y f cr w m (444 + v 1) = 0 := by unfold enrV; rw [if_neg (by omega), if_neg (by omega), if_neg (by omega), if_neg (by omega), if_neg (by omega), if_neg (by omega), if_neg (by omega), if_neg (by omega), if_neg (by omega), if_neg (by omega), if_pos rfl]
theorem enr_524 {v : Nat → Nat} {x y f cr : Nat} {w : Nat → Nat} {m : Nat} (hn : v 1 < 40) : enrV v x y f cr w m (524 + v 1) = 0 := by unfold enrV; rw [if_neg (by omega), if_neg (by omega), if_neg (by omega), if_neg (by omega), if_neg (by omega), if_neg (by omega), if_neg (by omega), if_neg (by omega), if_neg (by omega), if_neg (by omega), if_neg (by omega), if_pos rfl]
theorem enr_w {v : Nat → Nat} {x y f cr : Nat} {w : Nat → Nat} {m i : Nat} (hn : v 1 < 40) (hi : i < m) : enrV v x y f cr w m (564 + 4 * v 1 + i) = w i := by
  unfold enrV
  rw [if_neg (by omega), if_neg (by omega), if_neg (by omega), if_neg (by omega), if_neg (by omega), if_neg (by omega), if_neg (by omega), if_neg (by omega), if_neg (by omega), if_neg (by omega), if_neg (by omega), if_neg (by omega), if_pos (by omega), Nat.add_sub_cancel_left]
theorem enr_T (v : Nat → Nat) (x y f cr : Nat) (w : Nat → Nat) (m : Nat) (hn : v 1 < 40) (hm : m ≤ 4) : sameT v (enrV v x y f cr w m) := fun i hi => enr_n (by unfold okE; omega)
theorem ite_lt {P : Prop} [Decidable P] {a b n : Nat} (ha : a < n) (hb : b < n) : (if P then a else b) < n := by split <;> assumption
theorem enr_Inv {v : Nat → Nat} {pl : Nat → Option Nat} (hI : Inv v pl) {x y f cr : Nat} {w : Nat → Nat} {m : Nat} (hn : v 1 < 40) (hx : x ≤ 99) (hy : y ≤ 99) (hf : f ≤ 99) (hc : cr ≤ 1) (hm : m ≤ 4) (hw : ∀ i, i < m → w i < v 0) (hj : ∀ i j, i < m → j < m → w i = w j → i = j) : Inv (enrV v x y f cr w m) pl := by
  obtain ⟨⟨a0, a1, a2, a6, a7, a8, a9⟩, hS, hU, hC, hW, hJ, hP, hB⟩ := hI
  have n : ∀ i, okE v m i → enrV v x y f cr w m i = v i := fun i hi => enr_n hi
  have hl : (v 11 * 1103515245 + 12345) % 2147483648 < 2147483648 := Nat.mod_lt _ (by decide)
  have hl2 : (v 11 * 1103515245 + 12345) % 2147483648 / 65536 % 10000 < 10000 := Nat.mod_lt _ (by decide)
  refine ⟨⟨by rw [n 0 (by unfold okE; omega)]; exact a0, by rw [enr_1]; omega, by rw [n 2 (by unfold okE; omega)]; exact a2, by rw [n 6 (by unfold okE; omega)]; exact a6, by rw [n 7 (by unfold okE; omega)]; exact a7, by rw [n 8 (by unfold okE; omega)]; exact a8, by rw [n 9 (by unfold okE; omega)]; exact a9⟩, fun s hs => ?_, fun s hs k hk => by rw [n (68 + 3 * s + k) (by unfold okE; omega)]; exact hU s hs k hk, fun c hc => ?_, fun c hc k hk => ?_, fun c hc k l hk hl hkl => ?_, fun c s hp => ?_, fun k hk => ?_⟩
  · rw [n (20 + s) (by unfold okE; omega), n (28 + s) (by unfold okE; omega), n (36 + s) (by unfold okE; omega), n (44 + s) (by unfold okE; omega), n (52 + s) (by unfold okE; omega)]; exact hS s hs
  · by_cases e : c = v 1
    · subst e
      rw [enr_124 hn, enr_164 hn, enr_204 hn, enr_244 hn, enr_284 hn, enr_324 hn, enr_364 hn, enr_404 hn, enr_444 hn]
      omega
    · rw [n (124 + c) (by unfold okE; omega), n (164 + c) (by unfold okE; omega), n (204 + c) (by unfold okE; omega), n (244 + c) (by unfold okE; omega), n (284 + c) (by unfold okE; omega), n (324 + c) (by unfold okE; omega), n (364 + c) (by unfold okE; omega), n (404 + c) (by unfold okE; omega), n (444 + c) (by unfold okE; omega)]
      exact hC c hc
  · rw [enr_1] at hc
    rw [n 0 (by unfold okE; omega)]
    by_cases e : c = v 1
    · subst e
      rw [enr_324 hn] at hk
      rw [enr_w hn hk]
      exact hw k hk
    · rw [n (324 + c) (by unfold okE; omega)] at hk
      have := (hC c (by omega)).2.2.2.2.2.1
      rw [n (564 + 4 * c + k) (by unfold okE; omega)]
      exact hW c (by omega) k hk
  · rw [enr_1] at hc
    by_cases e : c = v 1
    · subst e
      rw [enr_324 hn] at hk hl
      rw [enr_w hn hk, enr_w hn hl] at hkl
      exact hj k l hk hl hkl
    · rw [n (324 + c) (by unfold okE; omega)] at hk hl
      have := (hC c (by omega)).2.2.2.2.2.1
      rw [n (564 + 4 * c + k) (by unfold okE; omega), n (564 + 4 * c + l) (by unfold okE; omega)] at hkl
      exact hJ c (by omega) k l hk hl hkl
  · obtain ⟨q1, q2, k, q3, q4⟩ := hP c s hp
    have := (hC c (by omega)).2.2.2.2.2.1
    refine ⟨by rw [enr_1]; omega, by rw [n (404 + c) (by unfold okE; omega)]; exact q2, k, by rw [n (324 + c) (by unfold okE; omega)]; exact q3, by rw [n (564 + 4 * c + k) (by unfold okE; omega)]; exact q4⟩
  · unfold enrV
    have b8 := hB 8 (by omega)
    have last : (if 564 + 4 * v 1 ≤ k ∧ k < 564 + 4 * v 1 + m then w (k - (564 + 4 * v 1)) else v k) < 2147483648 := by
      by_cases z : 564 + 4 * v 1 ≤ k ∧ k < 564 + 4 * v 1 + m
      · rw [if_pos z]; have := hw (k - (564 + 4 * v 1)) (by omega); omega
      · rw [if_neg z]; exact hB k hk
    exact ite_lt (by omega) (ite_lt (by omega) (ite_lt (by omega) (ite_lt (by omega) (ite_lt (by omega) (ite_lt (by omega) (ite_lt (by omega) (ite_lt (by omega) (ite_lt (by omega) (ite_lt (by omega) (ite_lt (by omega) (ite_lt (by omega) (last))))))))))))
theorem c_enrol (B : Mem) (hG : GE r b t tb) (hR : RG g h ar v pl) (hT : TG u ta v cd) (hI : Inv v pl) {x y f cr : Nat} {w : Nat → Nat} {m : Nat} (hn : v 1 < 40) (hc : cr ≤ 1) (hm : m ≤ 4) : ∃ g' h' ar', p_X2_enrol r (nN x) (nN y) (nN f) (nN cr) (nN (rwN w m)) (ofc B r b t tb g h ar u ta) = some (nN (v 1), ofc B r b t tb g' h' ar' u ta) ∧ RG g' h' ar' (enrV v x y f cr w m) pl := by
  have hb := hI.hb; have h0 := hI.h0; have h1 := hI.h1; have h2 := hI.h2; have h7 := hI.h7; have h8 := hI.h8
  have n : ∀ i, okE v m i → enrV v x y f cr w m i = v i := fun i hi => enr_n hi
  have hl : (v 11 * 1103515245 + 12345) % 2147483648 < 2147483648 := Nat.mod_lt _ (by decide)
  have pn : pl (v 1) = none := by
    cases hp : pl (v 1) with
    | none => rfl
    | some s => have := (hI.plc _ _ hp).1; omega
  have ek : nN (v 1) + (1 : Int32) = nN (v 1 + 1) := nN_add _ 1
  have b11 := hb 11 (by omega)
  have hlt := lot_eq (v 11)
  have hdr := lot_dr hl
  refine ⟨upd (upd g 1 (nN (v 1 + 1))) 2 (nN ((v 11 * 1103515245 + 12345) % 2147483648)), if v 8 = 0 then (if cr = 0 then h else vp_updL h 7 (h 7 ||| ((1 : Int64) <<< (Int32.toInt64 (nN (v 1)) &&& 63)))) else vp_updL (if cr = 0 then h else vp_updL h 7 (h 7 ||| ((1 : Int64) <<< (Int32.toInt64 (nN (v 1)) &&& 63)))) 8 (h 8 ||| ((1 : Int64) <<< (Int32.toInt64 (nN (v 1)) &&& 63))), up2 (up2 (up2 (up2 (up2 (up2 (up2 ar 0 (upd (ar 0) (v 1) (nN x))) 1 (upd (ar 1) (v 1) (nN y))) 2 (upd (ar 2) (v 1) (nN f))) 3 (upd (ar 3) (v 1) (nN ((v 11 * 1103515245 + 12345) % 2147483648 / 65536 % 10000)))) 4 (upd (ar 4) (v 1) (nN (rwN w m)))) 5 (upd (ar 5) (v 1) mI)) 6 (upd (ar 6) (v 1) (nN 0)), ?_, ?_⟩
  · unfold p_X2_enrol
    have e0 : (0 : Int32) = nN 0 := rfl
    have em : (-1 : Int32) = mI := rfl
    have g41 : (upd (upd g 1 (nN (v 1 + 1))) 2 (nN ((v 11 * 1103515245 + 12345) % 2147483648))) 4 = nN (v 8) := by rw [pk_un (by decide), pk_un (by decide)]; exact hR.g4
    simp (disch := omega) only [fv_1, fv_2, fv_11, fv_12, fv_13, fv_14, fv_15, fv_16, fv_17, bS, hR.g1, ek, fw_1, fw_2, pk_us, pk_un, hR.g2, hlt, fe_0 hG, fe_1 hG, fe_2 hG, fe_3 hG, fe_4 hG, fe_5 hG, fe_6 hG, wr_nN, Option.map_some, up2_n, hdr, jn_def, em]
    rcases Nat.lt_or_ge cr 1 with c1 | c1
    · have c0 : cr = 0 := by omega
      subst c0
      rw [if_pos (by rfl), if_pos rfl, fv_4, bS, g41]
      rcases Nat.lt_or_ge (v 8) 1 with c2 | c2
      · rw [if_pos (by rw [show v 8 = 0 by omega]; rfl), if_pos (by omega)]; rfl
      · rw [if_neg (by rw [show v 8 = 1 by omega]; decide), if_neg (by omega), fv_8, bS, fw_8, bS]; rfl
    · have c0 : cr = 1 := by omega
      subst c0
      rw [if_neg (show ¬ nN 1 = 0 by decide), if_neg (show ¬ (1 : Nat) = 0 by decide), fv_7, bS, fw_7, bS, fv_4, bS, g41]
      rcases Nat.lt_or_ge (v 8) 1 with c2 | c2
      · rw [if_pos (by rw [show v 8 = 0 by omega]; rfl), if_pos (by omega)]; rfl
      · rw [if_neg (by rw [show v 8 = 1 by omega]; decide), if_neg (by omega), fv_8, bS, fw_8, bS]; rfl
  · obtain ⟨⟨a1, a2, a3, a4, a5, a6⟩, ⟨b7, b8, b9, b10⟩, hC, hS⟩ := hR
    have k7 : mkL (fun c => enrV v x y f cr w m (244 + c) = 1) (v 1 + 1) = if cr = 0 then h 7 else h 7 ||| ((1 : Int64) <<< (Int32.toInt64 (nN (v 1)) &&& 63)) := by
      by_cases c : cr = 0
      · rw [if_pos c, b7, ← mk_skip (by rw [enr_244 hn]; omega)]
        exact mk_c (fun k hk => by rw [n (244 + k) (by unfold okE; omega)])
      · rw [if_neg c, b7]
        exact (mk_new (by omega) (fun k hk => by rw [n (244 + k) (by unfold okE; omega)]) (by rw [enr_244 hn]; omega)).symm
    have k8 : mkL (fun c => enrV v x y f cr w m (364 + c) = 1) (v 1 + 1) = if v 8 = 0 then h 8 else h 8 ||| ((1 : Int64) <<< (Int32.toInt64 (nN (v 1)) &&& 63)) := by
      by_cases c : v 8 = 0
      · rw [if_pos c, b8, ← mk_skip (by rw [enr_364 hn]; omega)]
        exact mk_c (fun k hk => by rw [n (364 + k) (by unfold okE; omega)])
      · rw [if_neg c, b8]
        exact (mk_new (by omega) (fun k hk => by rw [n (364 + k) (by unfold okE; omega)]) (by rw [enr_364 hn]; omega)).symm
    refine ⟨⟨by rw [enr_1]; rfl, by rw [enr_11]; rfl, by rw [n 7 (by unfold okE; omega)]; exact a3, by rw [n 8 (by unfold okE; omega)]; exact a4, by rw [n 9 (by unfold okE; omega)]; exact a5, by rw [n 10 (by unfold okE; omega)]; exact a6⟩, ⟨?_, ?_, ?_, ?_⟩, fun k hk => ?_, fun s hs => ?_⟩
    · rw [enr_1, k7]; split <;> split <;> rfl
    · rw [enr_1, k8]; split <;> (try split) <;> rfl
    · have : (if v 8 = 0 then (if cr = 0 then h else vp_updL h 7 (h 7 ||| ((1 : Int64) <<< (Int32.toInt64 (nN (v 1)) &&& 63)))) else vp_updL (if cr = 0 then h else vp_updL h 7 (h 7 ||| ((1 : Int64) <<< (Int32.toInt64 (nN (v 1)) &&& 63)))) 8 (h 8 ||| ((1 : Int64) <<< (Int32.toInt64 (nN (v 1)) &&& 63)))) 9 = h 9 := by split <;> split <;> rfl
      rw [this, b9, enr_1, ← mk_skip (by rw [enr_404 hn]; omega)]
      exact mk_c (fun k hk => by rw [n (404 + k) (by unfold okE; omega)])
    · have : (if v 8 = 0 then (if cr = 0 then h else vp_updL h 7 (h 7 ||| ((1 : Int64) <<< (Int32.toInt64 (nN (v 1)) &&& 63)))) else vp_updL (if cr = 0 then h else vp_updL h 7 (h 7 ||| ((1 : Int64) <<< (Int32.toInt64 (nN (v 1)) &&& 63)))) 8 (h 8 ||| ((1 : Int64) <<< (Int32.toInt64 (nN (v 1)) &&& 63)))) 10 = h 10 := by split <;> split <;> rfl
      rw [this, b10, enr_1, ← mk_skip (by rw [enr_444 hn]; omega)]
      exact mk_c (fun k hk => by rw [n (444 + k) (by unfold okE; omega)])
    · rw [enr_1] at hk
      by_cases e : k = v 1
      · subst e
        refine ⟨by rw [enr_124 hn]; exact pk_us, by rw [enr_164 hn]; exact pk_us, by rw [enr_204 hn]; exact pk_us, by rw [enr_284 hn]; exact pk_us, ?_, by rw [pn]; exact pk_us, by rw [enr_524 hn]; exact pk_us⟩
        rw [enr_324 hn]
        refine Eq.trans (pk_us (f := ar 4)) ?_
        congr 1
        exact rwN_c (fun i hi => (enr_w hn hi).symm)
      · obtain ⟨c0, c1, c2, c3, c4, c5, c6⟩ := hC k (by omega)
        refine ⟨?_, ?_, ?_, ?_, ?_, ?_, ?_⟩
        · rw [n (124 + k) (by unfold okE; omega)]; exact (pk_un (f := ar 0) e).trans c0
        · rw [n (164 + k) (by unfold okE; omega)]; exact (pk_un (f := ar 1) e).trans c1
        · rw [n (204 + k) (by unfold okE; omega)]; exact (pk_un (f := ar 2) e).trans c2
        · rw [n (284 + k) (by unfold okE; omega)]; exact (pk_un (f := ar 3) e).trans c3
        · have m4 := (hI.chi k (by omega)).2.2.2.2.2.1
          rw [n (324 + k) (by unfold okE; omega)]
          refine (pk_un (f := ar 4) e).trans (c4.trans ?_)
          congr 1
          exact rwN_c (fun i hi => (n (564 + 4 * k + i) (by unfold okE; omega)).symm)
        · exact (pk_un (f := ar 5) e).trans c5
        · rw [n (524 + k) (by unfold okE; omega)]; exact (pk_un (f := ar 6) e).trans c6
    · rw [n 0 (by unfold okE; omega)] at hs
      obtain ⟨d7, d8⟩ := hS s hs
      exact ⟨by rw [n (20 + s) (by unfold okE; omega)]; exact d7, by rw [n (60 + s) (by unfold okE; omega)]; exact d8⟩
end EN
