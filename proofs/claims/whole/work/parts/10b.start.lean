/-! the start: what the constructors leave -/
section CT0
variable {M M0 : Mem} {a0 z : Nat} {R : Nat → mE} {ci N k : Nat} {fs : List Value}
theorem sV_pt {i : Nat} {v : Value} (h : M a0 = some (.inr (ci, fs))) (hi : i < fs.length) : sV ci i M a0 v = some (upM M a0 (.inr (ci, fs.set i v))) := by
  unfold sV; rw [h]; exact if_pos ⟨rfl, hi⟩
/-- an object at a0 with its rows from z on -/
def ST (z a0 : Nat) (R : Nat → mE) (M0 M : Mem) (ci : Nat) (fs : List Value) (N k : Nat) : Prop := M a0 = some (.inr (ci, fs)) ∧ fs.length = N ∧ (∀ j, j < k → M (z + j) = some (R j)) ∧ ∀ x, x ≠ a0 → ¬ (z ≤ x ∧ x < z + k) → M x = M0 x
theorem st_f (h : ST z a0 R M0 M ci fs N k) (ha : a0 < z) (i : Nat) (v : Value) (hi : i < N) : ∃ M', sV ci i M a0 v = some M' ∧ ST z a0 R M0 M' ci (fs.set i v) N k := by
  obtain ⟨h1, h2, h3, h4⟩ := h
  refine ⟨_, sV_pt h1 (by omega), upM_at, by rw [List.length_set]; exact h2, fun j hj => (upM_o (by omega)).trans (h3 j hj), fun x x1 x2 => (upM_o x1).trans (h4 x x1 x2)⟩
theorem st_r (h : ST z a0 R M0 M ci fs N k) (ha : a0 < z) {e : mE} (he : e = R k) : ST z a0 R M0 (upM M (z + k) e) ci fs N (k + 1) := by
  obtain ⟨h1, h2, h3, h4⟩ := h
  refine ⟨(upM_o (by omega)).trans h1, h2, fun j hj => ?_, fun x x1 x2 => (upM_o (by omega)).trans (h4 x x1 (by omega))⟩
  by_cases e2 : j = k
  · rw [e2, he]; exact upM_at
  · exact (upM_o (by omega)).trans (h3 j (by omega))
end CT0
def zI : Nat → Int32 := fun _ => 0
def zA : Nat → Nat → Int32 := fun _ _ => 0
def zL : Nat → Int64 := fun _ => 0
theorem ct_X2 {M : Mem} {a0 z a1 : Nat} (h : M a0 = some (.inr (2, [.null, .int 0, .int 0, .int 0, .int 0, .int 0, .int 0, .long 0, .long 0, .long 0, .long 0, .null, .null, .null, .null, .null, .null, .null, .null, .null]))) (ha : a0 < z) : ∃ M', pn_X2_init z a0 a1 M = some M' ∧ RC M' a0 z a1 zI zL zA ∧ ∀ x, x ≠ a0 → ¬ (z ≤ x ∧ x < z + 9) → M' x = M x := by
  have s0 : ST z a0 (fun j => .inl (0, lnR j, .inl (fun _ => 0))) M M 2 [.null, .int 0, .int 0, .int 0, .int 0, .int 0, .int 0, .long 0, .long 0, .long 0, .long 0, .null, .null, .null, .null, .null, .null, .null, .null, .null] 20 0 := ⟨h, rfl, fun j hj => absurd hj (Nat.not_lt_zero _), fun _ _ _ => rfl⟩
  obtain ⟨M1, e1, s1⟩ := st_f s0 ha 1 (.int (0 : Int32)) (by decide)
  obtain ⟨M2, e2, s2⟩ := st_f s1 ha 2 (.int (0 : Int32)) (by decide)
  obtain ⟨M3, e3, s3⟩ := st_f s2 ha 3 (.int (0 : Int32)) (by decide)
  obtain ⟨M4, e4, s4⟩ := st_f s3 ha 4 (.int (0 : Int32)) (by decide)
  obtain ⟨M5, e5, s5⟩ := st_f s4 ha 5 (.int (0 : Int32)) (by decide)
  obtain ⟨M6, e6, s6⟩ := st_f s5 ha 6 (.int (0 : Int32)) (by decide)
  obtain ⟨M7, e7, s7⟩ := st_f s6 ha 7 (.long (0 : Int64)) (by decide)
  obtain ⟨M8, e8, s8⟩ := st_f s7 ha 8 (.long (0 : Int64)) (by decide)
  obtain ⟨M9, e9, s9⟩ := st_f s8 ha 9 (.long (0 : Int64)) (by decide)
  obtain ⟨M10, e10, s10⟩ := st_f s9 ha 10 (.long (0 : Int64)) (by decide)
  have s11 := st_r s10 ha (e := (.inl (0, (40, .inl (fun _ => 0))))) rfl
  rw [Nat.add_zero] at s11
  generalize hm11 : upM M10 z (.inl (0, (40, .inl (fun _ => 0)))) = N11 at s11
  obtain ⟨M12, e12, s12⟩ := st_f s11 ha 11 (.ref z) (by decide)
  have s13 := st_r s12 ha (e := (.inl (0, (40, .inl (fun _ => 0))))) rfl
  generalize hm13 : upM M12 (z + 1) (.inl (0, (40, .inl (fun _ => 0)))) = N13 at s13
  obtain ⟨M14, e14, s14⟩ := st_f s13 ha 12 (.ref (z + 1)) (by decide)
  have s15 := st_r s14 ha (e := (.inl (0, (40, .inl (fun _ => 0))))) rfl
  generalize hm15 : upM M14 (z + 2) (.inl (0, (40, .inl (fun _ => 0)))) = N15 at s15
  obtain ⟨M16, e16, s16⟩ := st_f s15 ha 13 (.ref (z + 2)) (by decide)
  have s17 := st_r s16 ha (e := (.inl (0, (40, .inl (fun _ => 0))))) rfl
  generalize hm17 : upM M16 (z + 3) (.inl (0, (40, .inl (fun _ => 0)))) = N17 at s17
  obtain ⟨M18, e18, s18⟩ := st_f s17 ha 14 (.ref (z + 3)) (by decide)
  have s19 := st_r s18 ha (e := (.inl (0, (40, .inl (fun _ => 0))))) rfl
  generalize hm19 : upM M18 (z + 4) (.inl (0, (40, .inl (fun _ => 0)))) = N19 at s19
  obtain ⟨M20, e20, s20⟩ := st_f s19 ha 15 (.ref (z + 4)) (by decide)
  have s21 := st_r s20 ha (e := (.inl (0, (40, .inl (fun _ => 0))))) rfl
  generalize hm21 : upM M20 (z + 5) (.inl (0, (40, .inl (fun _ => 0)))) = N21 at s21
  obtain ⟨M22, e22, s22⟩ := st_f s21 ha 16 (.ref (z + 5)) (by decide)
  have s23 := st_r s22 ha (e := (.inl (0, (40, .inl (fun _ => 0))))) rfl
  generalize hm23 : upM M22 (z + 6) (.inl (0, (40, .inl (fun _ => 0)))) = N23 at s23
  obtain ⟨M24, e24, s24⟩ := st_f s23 ha 17 (.ref (z + 6)) (by decide)
  have s25 := st_r s24 ha (e := (.inl (0, (8, .inl (fun _ => 0))))) rfl
  generalize hm25 : upM M24 (z + 7) (.inl (0, (8, .inl (fun _ => 0)))) = N25 at s25
  obtain ⟨M26, e26, s26⟩ := st_f s25 ha 18 (.ref (z + 7)) (by decide)
  have s27 := st_r s26 ha (e := (.inl (0, (8, .inl (fun _ => 0))))) rfl
  generalize hm27 : upM M26 (z + 8) (.inl (0, (8, .inl (fun _ => 0)))) = N27 at s27
  obtain ⟨M28, e28, s28⟩ := st_f s27 ha 19 (.ref (z + 8)) (by decide)
  obtain ⟨M29, e29, s29⟩ := st_f s28 ha 0 (.ref a1) (by decide)
  refine ⟨M29, ?_, ⟨s29.1, fun j hj => s29.2.2.1 j hj⟩, s29.2.2.2⟩
  unfold pn_X2_init
  rw [e1, bS, e2, bS, e3, bS, e4, bS, e5, bS, e6, bS, e7, bS, e8, bS, e9, bS, e10, bS, jn_def, hm11, e12, bS, jn_def, hm13, e14, bS, jn_def, hm15, e16, bS, jn_def, hm17, e18, bS, jn_def, hm19, e20, bS, jn_def, hm21, e22, bS, jn_def, hm23, e24, bS, jn_def, hm25, e26, bS, jn_def, hm27, e28, bS, e29, bS]
theorem ct_X4 {M : Mem} {a0 z : Nat} (h : M a0 = some (.inr (4, [.int 0, .int 0, .int 0, .null, .null, .null, .null, .null, .null, .null, .null, .null, .null]))) (ha : a0 < z) : ∃ M', pn_X4_init z a0 M = some M' ∧ TC M' a0 z zI zA ∧ ∀ x, x ≠ a0 → ¬ (z ≤ x ∧ x < z + 10) → M' x = M x := by
  have s0 : ST z a0 (fun j => .inl (0, lnT j, .inl (fun _ => 0))) M M 4 [.int 0, .int 0, .int 0, .null, .null, .null, .null, .null, .null, .null, .null, .null, .null] 13 0 := ⟨h, rfl, fun j hj => absurd hj (Nat.not_lt_zero _), fun _ _ _ => rfl⟩
  obtain ⟨M1, e1, s1⟩ := st_f s0 ha 0 (.int (0 : Int32)) (by decide)
  obtain ⟨M2, e2, s2⟩ := st_f s1 ha 1 (.int (0 : Int32)) (by decide)
  obtain ⟨M3, e3, s3⟩ := st_f s2 ha 2 (.int (0 : Int32)) (by decide)
  have s4 := st_r s3 ha (e := (.inl (0, (8, .inl (fun _ => 0))))) rfl
  rw [Nat.add_zero] at s4
  generalize hm4 : upM M3 z (.inl (0, (8, .inl (fun _ => 0)))) = N4 at s4
  obtain ⟨M5, e5, s5⟩ := st_f s4 ha 3 (.ref z) (by decide)
  have s6 := st_r s5 ha (e := (.inl (0, (8, .inl (fun _ => 0))))) rfl
  generalize hm6 : upM M5 (z + 1) (.inl (0, (8, .inl (fun _ => 0)))) = N6 at s6
  obtain ⟨M7, e7, s7⟩ := st_f s6 ha 4 (.ref (z + 1)) (by decide)
  have s8 := st_r s7 ha (e := (.inl (0, (8, .inl (fun _ => 0))))) rfl
  generalize hm8 : upM M7 (z + 2) (.inl (0, (8, .inl (fun _ => 0)))) = N8 at s8
  obtain ⟨M9, e9, s9⟩ := st_f s8 ha 5 (.ref (z + 2)) (by decide)
  have s10 := st_r s9 ha (e := (.inl (0, (8, .inl (fun _ => 0))))) rfl
  generalize hm10 : upM M9 (z + 3) (.inl (0, (8, .inl (fun _ => 0)))) = N10 at s10
  obtain ⟨M11, e11, s11⟩ := st_f s10 ha 6 (.ref (z + 3)) (by decide)
  have s12 := st_r s11 ha (e := (.inl (0, (8, .inl (fun _ => 0))))) rfl
  generalize hm12 : upM M11 (z + 4) (.inl (0, (8, .inl (fun _ => 0)))) = N12 at s12
  obtain ⟨M13, e13, s13⟩ := st_f s12 ha 7 (.ref (z + 4)) (by decide)
  have s14 := st_r s13 ha (e := (.inl (0, (8, .inl (fun _ => 0))))) rfl
  generalize hm14 : upM M13 (z + 5) (.inl (0, (8, .inl (fun _ => 0)))) = N14 at s14
  obtain ⟨M15, e15, s15⟩ := st_f s14 ha 8 (.ref (z + 5)) (by decide)
  have s16 := st_r s15 ha (e := (.inl (0, (8, .inl (fun _ => 0))))) rfl
  generalize hm16 : upM M15 (z + 6) (.inl (0, (8, .inl (fun _ => 0)))) = N16 at s16
  obtain ⟨M17, e17, s17⟩ := st_f s16 ha 9 (.ref (z + 6)) (by decide)
  have s18 := st_r s17 ha (e := (.inl (0, (8, .inl (fun _ => 0))))) rfl
  generalize hm18 : upM M17 (z + 7) (.inl (0, (8, .inl (fun _ => 0)))) = N18 at s18
  obtain ⟨M19, e19, s19⟩ := st_f s18 ha 10 (.ref (z + 7)) (by decide)
  have s20 := st_r s19 ha (e := (.inl (0, (8, .inl (fun _ => 0))))) rfl
  generalize hm20 : upM M19 (z + 8) (.inl (0, (8, .inl (fun _ => 0)))) = N20 at s20
  obtain ⟨M21, e21, s21⟩ := st_f s20 ha 11 (.ref (z + 8)) (by decide)
  have s22 := st_r s21 ha (e := (.inl (0, (100, .inl (fun _ => 0))))) rfl
  generalize hm22 : upM M21 (z + 9) (.inl (0, (100, .inl (fun _ => 0)))) = N22 at s22
  obtain ⟨M23, e23, s23⟩ := st_f s22 ha 12 (.ref (z + 9)) (by decide)
  refine ⟨M23, ?_, ⟨s23.1, fun j hj => s23.2.2.1 j hj⟩, s23.2.2.2⟩
  unfold pn_X4_init
  rw [e1, bS, e2, bS, e3, bS, jn_def, hm4, e5, bS, jn_def, hm6, e7, bS, jn_def, hm8, e9, bS, jn_def, hm10, e11, bS, jn_def, hm12, e13, bS, jn_def, hm14, e15, bS, jn_def, hm16, e17, bS, jn_def, hm18, e19, bS, jn_def, hm20, e21, bS, jn_def, hm22, e23, bS]
theorem ct_X0 {M : Mem} {a0 z : Nat} (h : M a0 = some (.inr (0, [.null]))) (ha : a0 < z) : ∃ M', pn_X0_init z a0 M = some M' ∧ M' a0 = some (.inr (0, [.ref z])) ∧ M' z = some (.inl (0, 40, .inl (fun _ => 0))) ∧ ∀ x, x ≠ a0 → ¬ (z ≤ x ∧ x < z + 1) → M' x = M x := by
  have s0 : ST z a0 (fun _ => .inl (0, 40, .inl (fun _ => 0))) M M 0 [.null] 1 0 := ⟨h, rfl, fun j hj => absurd hj (Nat.not_lt_zero _), fun _ _ _ => rfl⟩
  have s1 := st_r s0 ha (e := (.inl (0, (40, .inl (fun _ => 0))))) rfl
  rw [Nat.add_zero] at s1
  generalize hm1 : upM M z (.inl (0, (40, .inl (fun _ => 0)))) = N1 at s1
  obtain ⟨M2, e2, s2⟩ := st_f s1 ha 0 (.ref z) (by decide)
  refine ⟨M2, ?_, s2.1, s2.2.2.1 0 (by decide), s2.2.2.2⟩
  unfold pn_X0_init
  rw [jn_def, hm1, e2, bS]
theorem ct_X1 {M : Mem} {a0 z : Nat} (h : M a0 = some (.inr (1, [.null, .int 0]))) (ha : a0 < z) : ∃ M', pn_X1_init z a0 M = some M' ∧ M' a0 = some (.inr (1, [.ref z, .int 0])) ∧ M' z = some (.inl (1, 200, .inl (fun _ => 0))) ∧ ∀ x, x ≠ a0 → ¬ (z ≤ x ∧ x < z + 1) → M' x = M x := by
  have s0 : ST z a0 (fun _ => .inl (1, 200, .inl (fun _ => 0))) M M 1 [.null, .int 0] 2 0 := ⟨h, rfl, fun j hj => absurd hj (Nat.not_lt_zero _), fun _ _ _ => rfl⟩
  have s1 := st_r s0 ha (e := (.inl (1, (200, .inl (fun _ => 0))))) rfl
  rw [Nat.add_zero] at s1
  generalize hm1 : upM M z (.inl (1, (200, .inl (fun _ => 0)))) = N1 at s1
  obtain ⟨M2, e2, s2⟩ := st_f s1 ha 0 (.ref z) (by decide)
  obtain ⟨M3, e3, s3⟩ := st_f s2 ha 1 (.int (0 : Int32)) (by decide)
  refine ⟨M3, ?_, s3.1, s3.2.2.1 0 (by decide), s3.2.2.2⟩
  unfold pn_X1_init
  rw [jn_def, hm1, e2, bS, e3, bS]