/-! THE LAW'S AND THE JDK's METHODS: reading our memory and what stood there before it; making things (the heap's size and its slots are counted) -/
/-- a cell that stood there before: an array (kind, length, contents), or an object (class, the fields that are known) -/
abbrev rE : Type := (Nat × vp_A) ⊕ (Nat × (Nat → Option Value))
abbrev gW : Type := Nat → Option rE
/-- what the law's methods rest on: what stood there before; the limits of cells and slots; addresses of constants; the formatter -/
abbrev gY : Type := gW × (Nat × Nat) × (Nat → Nat) × Option Nat
abbrev gK : Type := Mem × Nat × Nat
def kdT (kd : Nat) : FieldType := match kd with
  | 0 => .int
  | 1 => .byte
  | 5 => .object "java/lang/Object"
  | _ => .object "java/lang/Integer"
def rAt (b a : Nat) (x : rE) (U : State) : Prop := match x with
  | .inl (kd, n, .inl f) => va_T (kdT kd) a n (fun j => .int (f j)) (fun q => b ≤ q) U U.heap
  | .inl (kd, n, .inr (.inr (.inr (.inr f)))) => va_T (kdT kd) a n (fun j => va_rf (f j)) (fun q => b ≤ q) U U.heap
  | .inl _ => False
  | .inr o => ∃ r : vw_C, vwCl[o.1]? = some r ∧ va_O r.1 a (fun q => b ≤ q) U U.heap ∧ ∀ k v, o.2 k = some v → va_OF (r.2.1 k).1 (r.2.1 k).2.1 (r.2.1 k).2.2.1 v a (fun q => b ≤ q) U U.heap
-- reading
def rV (ci k : Nat) (R : gW) (a : Nat) : Option Value := match R a with
  | some (.inr o) => if o.1 = ci then o.2 k else none
  | _ => none
def xV (ci k : Nat) (R : gW) (M : Mem) (a : Nat) : Option Value := match gV ci k M a with
  | some v => some v
  | none => rV ci k R a
def xI (ci k : Nat) (R : gW) (M : Mem) (a : Nat) : Option Int32 := match xV ci k R M a with
  | some (.int v) => some v
  | _ => none
def xR (ci k : Nat) (R : gW) (M : Mem) (a : Nat) : Option Nat := match xV ci k R M a with
  | some (.ref v) => some v
  | _ => none
def xC (ci : Nat) (R : gW) (M : Mem) (a : Nat) : Option Unit := match isC ci M a with
  | some _ => some ()
  | none => match R a with
    | some (.inr o) => if o.1 = ci then some () else none
    | _ => none
/-- a place of a row of ints (kind 0) or bytes (kind 1) -/
def rI (kd : Nat) (R : gW) (a : Nat) (i : Int32) : Option Int32 := match R a with
  | some (.inl (k, n, .inl f)) => if k = kd ∧ ¬ (i < 0 ∨ n ≤ i.toNatClampNeg) then some (f i.toNatClampNeg) else none
  | _ => none
def xa (kd : Nat) (R : gW) (M : Mem) (a : Nat) (i : Int32) : Option Int32 := match aI kd M a i with
  | some v => some v
  | none => rI kd R a i
/-- a place of a row of references (of ours: kind 5; of those before: kind 6) that holds one -/
def aO (M : Mem) (a : Nat) (i : Int32) : Option Nat := match M a with
  | some (.inl (k, n, .inr (.inr (.inr (.inr f))))) => if k = 5 ∧ ¬ (i < 0 ∨ n ≤ i.toNatClampNeg) then f i.toNatClampNeg else none
  | _ => none
def rO (R : gW) (a : Nat) (i : Int32) : Option Nat := match R a with
  | some (.inl (k, n, .inr (.inr (.inr (.inr f))))) => if k = 6 ∧ ¬ (i < 0 ∨ n ≤ i.toNatClampNeg) then f i.toNatClampNeg else none
  | _ => none
def xo (R : gW) (M : Mem) (a : Nat) (i : Int32) : Option Nat := match aO M a i with
  | some v => some v
  | none => rO R a i
/-- a row's length -/
def aLn (M : Mem) (a : Nat) : Option Int32 := match M a with
  | some (.inl (k, n, _)) => if k < 6 then some (Int32.ofNat n) else none
  | _ => none
def rLn (R : gW) (a : Nat) : Option Int32 := match R a with
  | some (.inl (_, n, _)) => some (Int32.ofNat n)
  | _ => none
def xn (R : gW) (M : Mem) (a : Nat) : Option Int32 := match aLn M a with
  | some v => some v
  | none => rLn R a
/-- an object that may lie in a row of Objects: a child, a school, an Integer -/
def okO (R : gW) (M : Mem) (v : Nat) : Bool := match M v with
  | some (.inr o) => o.1 == 6 || o.1 == 7 || o.1 == 14
  | some (.inl _) => false
  | none => match R v with
    | some (.inr o) => o.1 == 14
    | _ => false
-- writing
def aOs (R : gW) (M : Mem) (a : Nat) (i : Int32) (v : Nat) : Option Mem := match M a with
  | some (.inl (k, n, .inr (.inr (.inr (.inr f))))) => if (k = 5 ∧ okO R M v = true) ∧ ¬ (i < 0 ∨ n ≤ i.toNatClampNeg) then some (upM M a (.inl (5, n, .inr (.inr (.inr (.inr (va_up f i.toNatClampNeg (some v)))))))) else none
  | _ => none
def aOz (M : Mem) (a : Nat) (i : Int32) : Option Mem := match M a with
  | some (.inl (k, n, .inr (.inr (.inr (.inr f))))) => if k = 5 ∧ ¬ (i < 0 ∨ n ≤ i.toNatClampNeg) then some (upM M a (.inl (5, n, .inr (.inr (.inr (.inr (va_up f i.toNatClampNeg none))))))) else none
  | _ => none
/-- a field of bytes -/
def sB (ci k : Nat) (M : Mem) (a : Nat) (v : Int32) : Option Mem := if vp_nar .byte v = v then sV ci k M a (.int v) else none
/-- the bytes of a row: ours, or one of those before -/
def bR (R : gW) (M : Mem) (a : Nat) : Option (Nat × (Nat → Int32)) := match M a with
  | some (.inl (k, n, .inl f)) => if k = 1 then some (n, f) else none
  | some _ => none
  | none => match R a with
    | some (.inl (k, n, .inl f)) => if k = 1 then some (n, f) else none
    | _ => none
/-- System.arraycopy between rows of bytes -/
def cpB (R : gW) (M : Mem) (a0 : Nat) (sp : Int32) (a : Nat) (dp n : Int32) : Option Mem := match bR R M a0, M a with
  | some x, some (.inl (k1, n1, .inl g)) => if (k1 = 1 ∧ ¬ sp < 0 ∧ ¬ dp < 0 ∧ ¬ n < 0) ∧ (sp.toNatClampNeg + n.toNatClampNeg ≤ x.1 ∧ dp.toNatClampNeg + n.toNatClampNeg ≤ n1) ∧ ∀ i, i < n.toNatClampNeg → fits .byte (.int (x.2 (sp.toNatClampNeg + i))) = true then some (upM M a (.inl (1, n1, .inl (va_cpy x.2 g sp.toNatClampNeg dp.toNatClampNeg n.toNatClampNeg)))) else none
  | _, _ => none
/-- System.arraycopy between rows of Objects -/
def cpO (R : gW) (M : Mem) (a0 : Nat) (sp : Int32) (a : Nat) (dp n : Int32) : Option Mem := match M a0, M a with
  | some (.inl (k0, n0, .inr (.inr (.inr (.inr f))))), some (.inl (k1, n1, .inr (.inr (.inr (.inr g))))) => if (k0 = 5 ∧ k1 = 5 ∧ ¬ sp < 0 ∧ ¬ dp < 0 ∧ ¬ n < 0) ∧ (sp.toNatClampNeg + n.toNatClampNeg ≤ n0 ∧ dp.toNatClampNeg + n.toNatClampNeg ≤ n1) ∧ ∀ i, i < n.toNatClampNeg → (match f (sp.toNatClampNeg + i) with | none => true | some y => okO R M y) = true then some (upM M a (.inl (5, n1, .inr (.inr (.inr (.inr (va_cpy f g sp.toNatClampNeg dp.toNatClampNeg n.toNatClampNeg))))))) else none
  | _, _ => none
/-- the class of a row of Objects, of a list: its class object (a number of Y's addresses) -/
def isO (M : Mem) (a : Nat) : Option Unit := match M a with
  | some (.inl (k, _, .inr (.inr (.inr (.inr _))))) => if k = 5 then some () else none
  | _ => none
def isB (M : Mem) (a : Nat) : Option Unit := match M a with
  | some (.inl (k, _, .inl _)) => if k = 1 then some () else none
  | _ => none
-- making
def nw (K : gK) (x : mE) (n : Nat) : gK := (upM K.1 K.2.1 x, K.2.1 + 1, K.2.2 + n)
abbrev gd (Y : gY) (K : gK) (n : Nat) : Prop := K.2.1 + 1 ≤ Y.2.1.1 ∧ K.2.2 + n ≤ Y.2.1.2
abbrev gn (Y : gY) (K : gK) (n : Int32) : Prop := (¬ n < 0 ∧ n.toNatClampNeg ≤ 134217728) ∧ gd Y K n.toNatClampNeg
/-- a clone of a row of bytes -/
def clB (Y : gY) (K : gK) (a : Nat) : Option gK := match K.1 a with
  | some (.inl (k, n, .inl f)) => if (k = 1 ∧ gd Y K n) ∧ ∀ i, i < n → fits .byte (.int (f i)) = true then some (nw K (.inl (1, n, .inl f)) n) else none
  | _ => none
-- what a success tells
theorem rV_at {ci k : Nat} {R : gW} {a : Nat} {v : Value} (h : rV ci k R a = some v) : ∃ F, R a = some (.inr (ci, F)) ∧ F k = some v := by
  unfold rV at h
  split at h
  · rename_i o he
    split at h
    · rename_i hc
      exact ⟨o.2, by rw [he, ← hc], h⟩
    · cases h
  · cases h
theorem xV_at {ci k : Nat} {R : gW} {M : Mem} {a : Nat} {v : Value} (h : xV ci k R M a = some v) : gV ci k M a = some v ∨ ∃ F, R a = some (.inr (ci, F)) ∧ F k = some v := by
  unfold xV at h
  split at h
  · rename_i w hw
    cases h
    exact Or.inl hw
  · exact Or.inr (rV_at h)
theorem xI_at {ci k : Nat} {R : gW} {M : Mem} {a : Nat} {v : Int32} (h : xI ci k R M a = some v) : xV ci k R M a = some (.int v) := by
  unfold xI at h
  split at h
  · rename_i w hw; cases h; exact hw
  · cases h
theorem xR_at {ci k : Nat} {R : gW} {M : Mem} {a v : Nat} (h : xR ci k R M a = some v) : xV ci k R M a = some (.ref v) := by
  unfold xR at h
  split at h
  · rename_i w hw; cases h; exact hw
  · cases h
theorem xC_at {ci : Nat} {R : gW} {M : Mem} {a : Nat} {v : Unit} (h : xC ci R M a = some v) : (∃ fs, M a = some (.inr (ci, fs))) ∨ ∃ F, R a = some (.inr (ci, F)) := by
  unfold xC at h
  split at h
  · rename_i w hw
    exact Or.inl (isC_at hw)
  · split at h
    · rename_i o he
      split at h
      · rename_i hc
        exact Or.inr ⟨o.2, by rw [he, ← hc]⟩
      · cases h
    · cases h
theorem rI_at {kd : Nat} {R : gW} {a : Nat} {i v : Int32} (h : rI kd R a i = some v) : ∃ n f, R a = some (.inl (kd, n, .inl f)) ∧ vp_in i n ∧ v = f i.toNatClampNeg := by
  unfold rI at h
  split at h
  · rename_i k n f he
    split at h
    · rename_i hc
      cases h
      exact ⟨n, f, by rw [he, hc.1], hc.2, rfl⟩
    · cases h
  · cases h
theorem xa_at {kd : Nat} {R : gW} {M : Mem} {a : Nat} {i v : Int32} (h : xa kd R M a i = some v) : aI kd M a i = some v ∨ ∃ n f, R a = some (.inl (kd, n, .inl f)) ∧ vp_in i n ∧ v = f i.toNatClampNeg := by
  unfold xa at h
  split at h
  · rename_i w hw
    cases h
    exact Or.inl hw
  · exact Or.inr (rI_at h)
theorem aO_at {M : Mem} {a : Nat} {i : Int32} {v : Nat} (h : aO M a i = some v) : ∃ n f, M a = some (.inl (5, n, .inr (.inr (.inr (.inr f))))) ∧ vp_in i n ∧ f i.toNatClampNeg = some v := by
  unfold aO at h
  split at h
  · rename_i k n f he
    split at h
    · rename_i hc
      exact ⟨n, f, by rw [he, hc.1], hc.2, h⟩
    · cases h
  · cases h
theorem rO_at {R : gW} {a : Nat} {i : Int32} {v : Nat} (h : rO R a i = some v) : ∃ n f, R a = some (.inl (6, n, .inr (.inr (.inr (.inr f))))) ∧ vp_in i n ∧ f i.toNatClampNeg = some v := by
  unfold rO at h
  split at h
  · rename_i k n f he
    split at h
    · rename_i hc
      exact ⟨n, f, by rw [he, hc.1], hc.2, h⟩
    · cases h
  · cases h
theorem xo_at {R : gW} {M : Mem} {a : Nat} {i : Int32} {v : Nat} (h : xo R M a i = some v) : aO M a i = some v ∨ rO R a i = some v := by
  unfold xo at h
  split at h
  · rename_i w hw
    cases h
    exact Or.inl hw
  · exact Or.inr h
theorem aLn_at {M : Mem} {a : Nat} {v : Int32} (h : aLn M a = some v) : ∃ k, ∃ x : vp_A, k < 6 ∧ M a = some (.inl (k, x)) ∧ Int32.ofNat x.1 = v := by
  unfold aLn at h
  split at h
  · rename_i k n y he
    split at h
    · rename_i hc
      cases h
      exact ⟨k, (n, y), hc, he, rfl⟩
    · cases h
  · cases h
theorem rLn_at {R : gW} {a : Nat} {v : Int32} (h : rLn R a = some v) : ∃ k, ∃ x : vp_A, R a = some (.inl (k, x)) ∧ Int32.ofNat x.1 = v := by
  unfold rLn at h
  split at h
  · rename_i k n y he
    cases h
    exact ⟨k, (n, y), he, rfl⟩
  · cases h
theorem xn_at {R : gW} {M : Mem} {a : Nat} {v : Int32} (h : xn R M a = some v) : aLn M a = some v ∨ rLn R a = some v := by
  unfold xn at h
  split at h
  · rename_i w hw
    cases h
    exact Or.inl hw
  · exact Or.inr h
theorem okO_at {R : gW} {M : Mem} {v : Nat} (h : okO R M v = true) : ∃ ci, (ci = 6 ∨ ci = 7 ∨ ci = 14) ∧ ((∃ fs, M v = some (.inr (ci, fs))) ∨ ∃ F, R v = some (.inr (ci, F))) := by
  unfold okO at h
  split at h
  · rename_i o he
    refine ⟨o.1, ?_, Or.inl ⟨o.2, he⟩⟩
    simp only [Bool.or_eq_true, beq_iff_eq] at h
    rcases h with (h | h) | h
    · exact Or.inl h
    · exact Or.inr (Or.inl h)
    · exact Or.inr (Or.inr h)
  · cases h
  · split at h
    · rename_i o he
      exact ⟨o.1, Or.inr (Or.inr (eq_of_beq h)), Or.inr ⟨o.2, he⟩⟩
    · cases h
theorem aOs_at {R : gW} {M M' : Mem} {a v : Nat} {i : Int32} (h : aOs R M a i v = some M') : ∃ n f, M a = some (.inl (5, n, .inr (.inr (.inr (.inr f))))) ∧ okO R M v = true ∧ vp_in i n ∧ M' = upM M a (.inl (5, n, .inr (.inr (.inr (.inr (va_up f i.toNatClampNeg (some v))))))) := by
  unfold aOs at h
  split at h
  · rename_i k n f he
    split at h
    · rename_i hc
      cases h
      exact ⟨n, f, by rw [he, hc.1.1], hc.1.2, hc.2, rfl⟩
    · cases h
  · cases h
theorem aOz_at {M M' : Mem} {a : Nat} {i : Int32} (h : aOz M a i = some M') : ∃ n f, M a = some (.inl (5, n, .inr (.inr (.inr (.inr f))))) ∧ vp_in i n ∧ M' = upM M a (.inl (5, n, .inr (.inr (.inr (.inr (va_up f i.toNatClampNeg none)))))) := by
  unfold aOz at h
  split at h
  · rename_i k n f he
    split at h
    · rename_i hc
      cases h
      exact ⟨n, f, by rw [he, hc.1], hc.2, rfl⟩
    · cases h
  · cases h
theorem bR_at {R : gW} {M : Mem} {a : Nat} {x : Nat × (Nat → Int32)} (h : bR R M a = some x) : M a = some (.inl (1, x.1, .inl x.2)) ∨ R a = some (.inl (1, x.1, .inl x.2)) := by
  unfold bR at h
  split at h
  · rename_i k n f he
    split at h
    · rename_i hc
      cases h
      exact Or.inl (by rw [he, hc])
    · cases h
  · cases h
  · split at h
    · rename_i k n f he
      split at h
      · rename_i hc
        cases h
        exact Or.inr (by rw [he, hc])
      · cases h
    · cases h
theorem cpB_at {R : gW} {M M' : Mem} {a0 a : Nat} {sp dp n : Int32} (h : cpB R M a0 sp a dp n = some M') : ∃ n0 f n1 g, bR R M a0 = some (n0, f) ∧ M a = some (.inl (1, n1, .inl g)) ∧ (¬ sp < 0 ∧ ¬ dp < 0 ∧ ¬ n < 0) ∧ sp.toNatClampNeg + n.toNatClampNeg ≤ n0 ∧ dp.toNatClampNeg + n.toNatClampNeg ≤ n1 ∧ (∀ i, i < n.toNatClampNeg → fits .byte (.int (f (sp.toNatClampNeg + i))) = true) ∧ M' = upM M a (.inl (1, n1, .inl (va_cpy f g sp.toNatClampNeg dp.toNatClampNeg n.toNatClampNeg))) := by
  unfold cpB at h
  split at h
  · rename_i x k1 n1 g he0 he1
    split at h
    · rename_i hc
      cases h
      exact ⟨x.1, x.2, n1, g, he0, by rw [he1, hc.1.1], hc.1.2, hc.2.1.1, hc.2.1.2, hc.2.2, rfl⟩
    · cases h
  · cases h
theorem cpO_at {R : gW} {M M' : Mem} {a0 a : Nat} {sp dp n : Int32} (h : cpO R M a0 sp a dp n = some M') : ∃ n0 f n1 g, M a0 = some (.inl (5, n0, .inr (.inr (.inr (.inr f))))) ∧ M a = some (.inl (5, n1, .inr (.inr (.inr (.inr g))))) ∧ (¬ sp < 0 ∧ ¬ dp < 0 ∧ ¬ n < 0) ∧ sp.toNatClampNeg + n.toNatClampNeg ≤ n0 ∧ dp.toNatClampNeg + n.toNatClampNeg ≤ n1 ∧ (∀ i, i < n.toNatClampNeg → ∀ y, f (sp.toNatClampNeg + i) = some y → okO R M y = true) ∧ M' = upM M a (.inl (5, n1, .inr (.inr (.inr (.inr (va_cpy f g sp.toNatClampNeg dp.toNatClampNeg n.toNatClampNeg)))))) := by
  unfold cpO at h
  split at h
  · rename_i k0 n0 f k1 n1 g he0 he1
    split at h
    · rename_i hc
      cases h
      refine ⟨n0, f, n1, g, by rw [he0, hc.1.1], by rw [he1, hc.1.2.1], hc.1.2.2, hc.2.1.1, hc.2.1.2, fun i hi y hy => ?_, rfl⟩
      have h9 := hc.2.2 i hi
      rw [hy] at h9
      exact h9
    · cases h
  · cases h
theorem isO_at {M : Mem} {a : Nat} {v : Unit} (h : isO M a = some v) : ∃ n f, M a = some (.inl (5, n, .inr (.inr (.inr (.inr f))))) := by
  unfold isO at h
  split at h
  · rename_i k n f he
    split at h
    · rename_i hc
      exact ⟨n, f, by rw [he, hc]⟩
    · cases h
  · cases h
theorem isB_at {M : Mem} {a : Nat} {v : Unit} (h : isB M a = some v) : ∃ n f, M a = some (.inl (1, n, .inl f)) := by
  unfold isB at h
  split at h
  · rename_i k n f he
    split at h
    · rename_i hc
      exact ⟨n, f, by rw [he, hc]⟩
    · cases h
  · cases h
theorem clB_at {Y : gY} {K K' : gK} {a : Nat} (h : clB Y K a = some K') : ∃ n f, K.1 a = some (.inl (1, n, .inl f)) ∧ gd Y K n ∧ (∀ i, i < n → fits .byte (.int (f i)) = true) ∧ K' = nw K (.inl (1, n, .inl f)) n := by
  unfold clB at h
  split at h
  · rename_i k n f he
    split at h
    · rename_i hc
      cases h
      exact ⟨n, f, by rw [he, hc.1.1], hc.1.2, hc.2, rfl⟩
    · cases h
  · cases h
