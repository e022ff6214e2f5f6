/-! THE MEMORY: a function from addresses to what the cell there holds; the machine's heap holds it. A method's meaning is a function on it (parts 05 ..), its contract says that the machine does what the function says. -/
/-- a cell: an array (its kind of gG, its length, its contents), or an object (the number of its class in vwCl, its fields) -/
abbrev mE : Type := (Nat × vp_A) ⊕ (Nat × List Value)
abbrev Mem : Type := Nat → Option mE
/-- the tables' numbers: classes and slots, the array classes (0 int, 1 byte, 2 and 3 none, 4 Roll, 5 Object), the first address that is ours, what is known of the cells below it -/
abbrev gG : Type := va_G × (Nat → ClassId) × Nat × (State → Prop)
def toE (g : Nat → ClassId) (x : mE) : va_E := match x with
  | .inl a => .inl (g a.1, a.2)
  | .inr o => .inr o
def MP (G : gG) (M : Mem) (H : Heap) : Prop := ∀ (a : Nat) (x : mE), M a = some x → va_at G.1 vwCl (a, toE G.2.1 x) H ∧ G.2.2.1 ≤ a
def upM (M : Mem) (a : Nat) (x : mE) : Mem := fun q => if q = a then some x else M q
def AM (M : Mem) (sz : Nat) : Nat → Prop := fun q => (∃ x, M q = some x) ∨ sz ≤ q
def tyAr (g : Nat → ClassId) : List (ClassId × FieldType) := [(g 0, .int), (g 1, .byte), (g 2, .int), (g 3, .int), (g 4, .object "PlaceOffice$Roll"), (g 5, .object "java/lang/Object")]
/-- what of the state is the same through the whole run -/
def GK (G : gG) (U : State) : Prop := va_K G.1 vwCl (tyAr G.2.1) U ∧ G.2.2.1 ≤ U.heap.size ∧ G.2.2.2 U
/-- the links of private methods among nest mates: words that no list of a callee may hold -/
def NW : List Cond := [Cond.methodLinkNest "PlaceOffice" 11 (⟨"PlaceOffice$SetupReader", "<init>", "()V"⟩ : MethodName) "PlaceOffice", Cond.methodLinkNest "PlaceOffice$SetupReader" 29 (⟨"PlaceOffice$Town", "<init>", "()V"⟩ : MethodName) "PlaceOffice", Cond.methodLinkNest "PlaceOffice" 18 (⟨"PlaceOffice$Allocation", "<init>", "()V"⟩ : MethodName) "PlaceOffice", Cond.methodLinkNest "PlaceOffice" 25 (⟨"PlaceOffice$Page", "<init>", "()V"⟩ : MethodName) "PlaceOffice", Cond.methodLinkNest "PlaceOffice" 34 (⟨"PlaceOffice$Town", "<init>", "()V"⟩ : MethodName) "PlaceOffice", Cond.methodLinkNest "PlaceOffice$SetupReader" 205 (⟨"PlaceOffice", "rowIndex", "(II)I"⟩ : MethodName) "PlaceOffice", Cond.methodLinkNest "PlaceOffice$Allocation" 57 (⟨"PlaceOffice", "isIn", "(JI)Z"⟩ : MethodName) "PlaceOffice", Cond.methodLinkNest "PlaceOffice$Allocation" 64 (⟨"PlaceOffice", "rowEntry", "(II)I"⟩ : MethodName) "PlaceOffice", Cond.methodLinkNest "PlaceOffice$Roll" 121 (⟨"PlaceOffice", "isIn", "(JI)Z"⟩ : MethodName) "PlaceOffice", Cond.methodLinkNest "PlaceOffice$Roll" 111 (⟨"PlaceOffice", "rowEntry", "(II)I"⟩ : MethodName) "PlaceOffice", Cond.fieldLinkNest "java/util/ArrayList$Itr" 28 "java/util/ArrayList" "size" "I" "java/util/ArrayList", Cond.methodLinkNest "PlaceOfficeLaw" 62 (⟨"PlaceOfficeLaw$School", "<init>", "()V"⟩ : MethodName) "PlaceOfficeLaw", Cond.fieldLinkNest "PlaceOfficeLaw" 63 "PlaceOfficeLaw$School" "number" "I" "PlaceOfficeLaw", Cond.fieldLinkNest "PlaceOfficeLaw" 66 "PlaceOfficeLaw$School" "capacity" "I" "PlaceOfficeLaw", Cond.fieldLinkNest "PlaceOfficeLaw" 69 "PlaceOfficeLaw$School" "x" "I" "PlaceOfficeLaw", Cond.fieldLinkNest "PlaceOfficeLaw" 72 "PlaceOfficeLaw$School" "y" "I" "PlaceOfficeLaw", Cond.fieldLinkNest "PlaceOfficeLaw" 249 "PlaceOfficeLaw$School" "granted" "I" "PlaceOfficeLaw", Cond.fieldLinkNest "PlaceOfficeLaw" 93 "PlaceOfficeLaw$School" "zone" "[I" "PlaceOfficeLaw", Cond.fieldLinkNest "PlaceOfficeLaw" 75 "PlaceOfficeLaw$School" "rules" "Ljava/util/List;" "PlaceOfficeLaw", Cond.fieldLinkNest "PlaceOfficeLaw" 97 "PlaceOfficeLaw$School" "families" "Ljava/util/List;" "PlaceOfficeLaw", Cond.methodLinkNest "PlaceOfficeLaw" 105 (⟨"PlaceOfficeLaw$Child", "<init>", "()V"⟩ : MethodName) "PlaceOfficeLaw", Cond.fieldLinkNest "PlaceOfficeLaw" 109 "PlaceOfficeLaw$Child" "number" "I" "PlaceOfficeLaw", Cond.fieldLinkNest "PlaceOfficeLaw" 110 "PlaceOfficeLaw$Child" "x" "I" "PlaceOfficeLaw", Cond.fieldLinkNest "PlaceOfficeLaw" 111 "PlaceOfficeLaw$Child" "y" "I" "PlaceOfficeLaw", Cond.fieldLinkNest "PlaceOfficeLaw" 112 "PlaceOfficeLaw$Child" "family" "I" "PlaceOfficeLaw", Cond.fieldLinkNest "PlaceOfficeLaw" 129 "PlaceOfficeLaw$Child" "lot" "I" "PlaceOfficeLaw", Cond.fieldLinkNest "PlaceOfficeLaw" 222 "PlaceOfficeLaw$Child" "place" "I" "PlaceOfficeLaw", Cond.fieldLinkNest "PlaceOfficeLaw" 115 "PlaceOfficeLaw$Child" "care" "Z" "PlaceOfficeLaw", Cond.fieldLinkNest "PlaceOfficeLaw" 122 "PlaceOfficeLaw$Child" "late" "Z" "PlaceOfficeLaw", Cond.fieldLinkNest "PlaceOfficeLaw" 237 "PlaceOfficeLaw$Child" "gone" "Z" "PlaceOfficeLaw", Cond.fieldLinkNest "PlaceOfficeLaw" 246 "PlaceOfficeLaw$Child" "byAppeal" "Z" "PlaceOfficeLaw", Cond.fieldLinkNest "PlaceOfficeLaw" 124 "PlaceOfficeLaw$Child" "wishes" "Ljava/util/List;" "PlaceOfficeLaw", Cond.methodLinkNest "PlaceOffice$Roll" 139 (⟨"PlaceOffice", "rowIndex", "(II)I"⟩ : MethodName) "PlaceOffice"]
/-- what is known of the cells below ours stays where those cells stay -/
def GOK (G : gG) : Prop := (∀ u U : State, u.WarmedH U.vm → (∀ q : Nat, q < G.2.2.1 → U.heap[q]? = u.heap[q]?) → G.2.2.1 ≤ U.heap.size → G.2.2.2 u → G.2.2.2 U) ∧ ∀ U : State, G.2.2.2 U → ∀ w ∈ NW, va_Nw w U
theorem GK.moved {G : gG} (hG : GOK G) {u U : State} (h : GK G u) (hW : u.WarmedH U.vm) (hh : ∀ q : Nat, q < G.2.2.1 → U.heap[q]? = u.heap[q]?) (hs : G.2.2.1 ≤ U.heap.size) : GK G U := ⟨va_K.moved hW.alike h.1, hs, hG.1 u U hW hh hs h.2.2⟩
theorem GK.s {G : gG} (hG : GOK G) {s U : State} {A : Nat → Prop} {H : Heap} {locs : List Loc} (h : GK G s) (hW : s.WarmedH U.vm) (hU : U.heap = H) (hS : va_S A s.heap H locs) (hAb : ∀ q, A q → G.2.2.1 ≤ q) : GK G U := by
  refine h.moved hG hW (fun q hq => ?_) ?_
  · rw [hU]
    exact hS.2.1 q (Nat.lt_of_lt_of_le hq h.2.1) (fun z => absurd (hAb q z) (Nat.not_le.mpr hq))
  · rw [hU]
    exact Nat.le_trans h.2.1 hS.1
theorem MP.one {G : gG} {M : Mem} {H : Heap} {a : Nat} {x : mE} (h : MP G M H) (he : M a = some x) : va_P G.1 vwCl [(a, toE G.2.1 x)] H := by
  intro k q hq
  have hz : k < 1 := (List.getElem?_eq_some_iff.mp hq).1
  rw [show k = 0 by omega] at hq
  cases hq
  exact (h a x he).1
theorem MP.put {G : gG} {M : Mem} {H H1 : Heap} {a : Nat} {x x' : mE} (h : MP G M H) (he : M a = some x) (hn : va_at G.1 vwCl (a, toE G.2.1 x') H1) (hk : ∀ q : Nat, q ≠ a → H1[q]? = H[q]?) : MP G (upM M a x') H1 := by
  intro b y hb
  unfold upM at hb
  by_cases hba : b = a
  · subst hba
    rw [if_pos rfl] at hb
    cases hb
    exact ⟨hn, (h b x he).2⟩
  · rw [if_neg hba] at hb
    exact ⟨(h b y hb).1.kept (hk b hba), (h b y hb).2⟩
theorem upM_dom {A : Nat → Prop} {M : Mem} {a : Nat} {x x' : mE} (h : ∀ q y, M q = some y → A q) (he : M a = some x) : ∀ q y, upM M a x' q = some y → A q := by
  intro q y hq
  unfold upM at hq
  by_cases hqa : q = a
  · subst hqa
    exact h q x he
  · rw [if_neg hqa] at hq
    exact h q y hq
-- reading and writing, as the methods' meanings have it
def gV (ci k : Nat) (M : Mem) (a : Nat) : Option Value := match M a with
  | some (.inr o) => if o.1 = ci then o.2[k]? else none
  | _ => none
def gI (ci k : Nat) (M : Mem) (a : Nat) : Option Int32 := match gV ci k M a with
  | some (.int v) => some v
  | _ => none
def gL (ci k : Nat) (M : Mem) (a : Nat) : Option Int64 := match gV ci k M a with
  | some (.long v) => some v
  | _ => none
def gR (ci k : Nat) (M : Mem) (a : Nat) : Option Nat := match gV ci k M a with
  | some (.ref v) => some v
  | _ => none
def gN (ci k : Nat) (M : Mem) (a : Nat) : Option (Option Nat) := match gV ci k M a with
  | some (.ref v) => some (some v)
  | some .null => some none
  | _ => none
/-- the object at a is of the class -/
def isC (ci : Nat) (M : Mem) (a : Nat) : Option Unit := match M a with
  | some (.inr o) => if o.1 = ci then some () else none
  | _ => none
def sV (ci k : Nat) (M : Mem) (a : Nat) (v : Value) : Option Mem := match M a with
  | some (.inr o) => if o.1 = ci ∧ k < o.2.length then some (upM M a (.inr (ci, o.2.set k v))) else none
  | _ => none
/-- a boolean field: 0 or 1 -/
def sZ (ci k : Nat) (M : Mem) (a : Nat) (v : Int32) : Option Mem := if v = 0 ∨ v = 1 then sV ci k M a (.int v) else none
def aI (kd : Nat) (M : Mem) (a : Nat) (i : Int32) : Option Int32 := match M a with
  | some (.inl (k, n, .inl f)) => if k = kd ∧ ¬ (i < 0 ∨ n ≤ i.toNatClampNeg) then some (f i.toNatClampNeg) else none
  | _ => none
def aL (M : Mem) (a : Nat) (i : Int32) : Option Int64 := match M a with
  | some (.inl (k, n, .inr (.inl f))) => if k = 2 ∧ ¬ (i < 0 ∨ n ≤ i.toNatClampNeg) then some (f i.toNatClampNeg) else none
  | _ => none
def aD (M : Mem) (a : Nat) (i : Int32) : Option UInt64 := match M a with
  | some (.inl (k, n, .inr (.inr (.inr (.inl f))))) => if k = 3 ∧ ¬ (i < 0 ∨ n ≤ i.toNatClampNeg) then some (f i.toNatClampNeg) else none
  | _ => none
/-- a place of a row of objects that holds one -/
def aR (M : Mem) (a : Nat) (i : Int32) : Option Nat := match M a with
  | some (.inl (k, n, .inr (.inr (.inr (.inr f))))) => if k = 4 ∧ ¬ (i < 0 ∨ n ≤ i.toNatClampNeg) then f i.toNatClampNeg else none
  | _ => none
def aIs (M : Mem) (a : Nat) (i x : Int32) : Option Mem := match M a with
  | some (.inl (k, n, .inl f)) => if k = 0 ∧ ¬ (i < 0 ∨ n ≤ i.toNatClampNeg) then some (upM M a (.inl (0, n, .inl (upd f i.toNatClampNeg x)))) else none
  | _ => none
def aBs (M : Mem) (a : Nat) (i x : Int32) : Option Mem := match M a with
  | some (.inl (k, n, .inl f)) => if k = 1 ∧ ¬ (i < 0 ∨ n ≤ i.toNatClampNeg) then some (upM M a (.inl (1, n, .inl (upd f i.toNatClampNeg (vp_nar .byte x))))) else none
  | _ => none
def aLs (M : Mem) (a : Nat) (i : Int32) (x : Int64) : Option Mem := match M a with
  | some (.inl (k, n, .inr (.inl f))) => if k = 2 ∧ ¬ (i < 0 ∨ n ≤ i.toNatClampNeg) then some (upM M a (.inl (2, n, .inr (.inl (vp_updL f i.toNatClampNeg x))))) else none
  | _ => none
def aDs (M : Mem) (a : Nat) (i : Int32) (x : UInt64) : Option Mem := match M a with
  | some (.inl (k, n, .inr (.inr (.inr (.inl f))))) => if k = 3 ∧ ¬ (i < 0 ∨ n ≤ i.toNatClampNeg) then some (upM M a (.inl (3, n, .inr (.inr (.inr (.inl (vf_upd f i.toNatClampNeg x))))))) else none
  | _ => none
/-- arraylength of an array of a kind -/
def aN (kd : Nat) (M : Mem) (a : Nat) : Option Int32 := match M a with
  | some (.inl (k, n, _)) => if k = kd then some (Int32.ofNat n) else none
  | _ => none
/-- System.arraycopy between rows of ints -/
def aCp (M : Mem) (a0 : Nat) (sp : Int32) (a : Nat) (dp n : Int32) : Option Mem := match M a0, M a with
  | some (.inl (k0, n0, .inl f)), some (.inl (k1, n1, .inl g)) => if (k0 = 0 ∧ k1 = 0 ∧ ¬ sp < 0 ∧ ¬ dp < 0 ∧ ¬ n < 0) ∧ sp.toNatClampNeg + n.toNatClampNeg ≤ n0 ∧ dp.toNatClampNeg + n.toNatClampNeg ≤ n1 then some (upM M a (.inl (0, n1, .inl (va_cpy f g sp.toNatClampNeg dp.toNatClampNeg n.toNatClampNeg)))) else none
  | _, _ => none
-- what a success tells
theorem gV_at {ci k : Nat} {M : Mem} {a : Nat} {v : Value} (h : gV ci k M a = some v) : ∃ fs, M a = some (.inr (ci, fs)) ∧ fs[k]? = some v := by
  unfold gV at h
  split at h
  · rename_i o he
    split at h
    · rename_i hc
      refine ⟨o.2, ?_, h⟩
      rw [he, ← hc]
    · cases h
  · cases h
theorem gI_at {ci k : Nat} {M : Mem} {a : Nat} {v : Int32} (h : gI ci k M a = some v) : gV ci k M a = some (.int v) := by
  unfold gI at h
  split at h
  · rename_i w hw; cases h; exact hw
  · cases h
theorem gL_at {ci k : Nat} {M : Mem} {a : Nat} {v : Int64} (h : gL ci k M a = some v) : gV ci k M a = some (.long v) := by
  unfold gL at h
  split at h
  · rename_i w hw; cases h; exact hw
  · cases h
theorem gR_at {ci k : Nat} {M : Mem} {a v : Nat} (h : gR ci k M a = some v) : gV ci k M a = some (.ref v) := by
  unfold gR at h
  split at h
  · rename_i w hw; cases h; exact hw
  · cases h
theorem gN_at {ci k : Nat} {M : Mem} {a : Nat} {v : Option Nat} (h : gN ci k M a = some v) : gV ci k M a = some (va_rf v) := by
  unfold gN at h
  split at h
  · rename_i w hw; cases h; exact hw
  · rename_i hw; cases h; exact hw
  · cases h
theorem isC_at {ci : Nat} {M : Mem} {a : Nat} {v : Unit} (h : isC ci M a = some v) : ∃ fs, M a = some (.inr (ci, fs)) := by
  unfold isC at h
  split at h
  · rename_i o he
    split at h
    · rename_i hc
      refine ⟨o.2, ?_⟩
      rw [he, ← hc]
    · cases h
  · cases h
theorem sV_at {ci k : Nat} {M M' : Mem} {a : Nat} {v : Value} (h : sV ci k M a v = some M') : ∃ fs, M a = some (.inr (ci, fs)) ∧ k < fs.length ∧ M' = upM M a (.inr (ci, fs.set k v)) := by
  unfold sV at h
  split at h
  · rename_i o he
    split at h
    · rename_i hc
      cases h
      refine ⟨o.2, ?_, hc.2, rfl⟩
      rw [he, ← hc.1]
    · cases h
  · cases h
theorem aI_at {kd : Nat} {M : Mem} {a : Nat} {i v : Int32} (h : aI kd M a i = some v) : ∃ n f, M a = some (.inl (kd, n, .inl f)) ∧ vp_in i n ∧ v = f i.toNatClampNeg := by
  unfold aI at h
  split at h
  · rename_i k n f he
    split at h
    · rename_i hc
      cases h
      exact ⟨n, f, by rw [he, hc.1], hc.2, rfl⟩
    · cases h
  · cases h
theorem aL_at {M : Mem} {a : Nat} {i : Int32} {v : Int64} (h : aL M a i = some v) : ∃ n f, M a = some (.inl (2, n, .inr (.inl f))) ∧ vp_in i n ∧ v = f i.toNatClampNeg := by
  unfold aL at h
  split at h
  · rename_i k n f he
    split at h
    · rename_i hc
      cases h
      exact ⟨n, f, by rw [he, hc.1], hc.2, rfl⟩
    · cases h
  · cases h
theorem aD_at {M : Mem} {a : Nat} {i : Int32} {v : UInt64} (h : aD M a i = some v) : ∃ n f, M a = some (.inl (3, n, .inr (.inr (.inr (.inl f))))) ∧ vp_in i n ∧ v = f i.toNatClampNeg := by
  unfold aD at h
  split at h
  · rename_i k n f he
    split at h
    · rename_i hc
      cases h
      exact ⟨n, f, by rw [he, hc.1], hc.2, rfl⟩
    · cases h
  · cases h
theorem aR_at {M : Mem} {a : Nat} {i : Int32} {v : Nat} (h : aR M a i = some v) : ∃ n f, M a = some (.inl (4, n, .inr (.inr (.inr (.inr f))))) ∧ vp_in i n ∧ f i.toNatClampNeg = some v := by
  unfold aR at h
  split at h
  · rename_i k n f he
    split at h
    · rename_i hc
      exact ⟨n, f, by rw [he, hc.1], hc.2, h⟩
    · cases h
  · cases h
theorem aIs_at {M M' : Mem} {a : Nat} {i x : Int32} (h : aIs M a i x = some M') : ∃ n f, M a = some (.inl (0, n, .inl f)) ∧ vp_in i n ∧ M' = upM M a (.inl (0, n, .inl (upd f i.toNatClampNeg x))) := by
  unfold aIs at h
  split at h
  · rename_i k n f he
    split at h
    · rename_i hc
      cases h
      exact ⟨n, f, by rw [he, hc.1], hc.2, rfl⟩
    · cases h
  · cases h
theorem aBs_at {M M' : Mem} {a : Nat} {i x : Int32} (h : aBs M a i x = some M') : ∃ n f, M a = some (.inl (1, n, .inl f)) ∧ vp_in i n ∧ M' = upM M a (.inl (1, n, .inl (upd f i.toNatClampNeg (vp_nar .byte x)))) := by
  unfold aBs at h
  split at h
  · rename_i k n f he
    split at h
    · rename_i hc
      cases h
      exact ⟨n, f, by rw [he, hc.1], hc.2, rfl⟩
    · cases h
  · cases h
theorem aLs_at {M M' : Mem} {a : Nat} {i : Int32} {x : Int64} (h : aLs M a i x = some M') : ∃ n f, M a = some (.inl (2, n, .inr (.inl f))) ∧ vp_in i n ∧ M' = upM M a (.inl (2, n, .inr (.inl (vp_updL f i.toNatClampNeg x)))) := by
  unfold aLs at h
  split at h
  · rename_i k n f he
    split at h
    · rename_i hc
      cases h
      exact ⟨n, f, by rw [he, hc.1], hc.2, rfl⟩
    · cases h
  · cases h
theorem aDs_at {M M' : Mem} {a : Nat} {i : Int32} {x : UInt64} (h : aDs M a i x = some M') : ∃ n f, M a = some (.inl (3, n, .inr (.inr (.inr (.inl f))))) ∧ vp_in i n ∧ M' = upM M a (.inl (3, n, .inr (.inr (.inr (.inl (vf_upd f i.toNatClampNeg x)))))) := by
  unfold aDs at h
  split at h
  · rename_i k n f he
    split at h
    · rename_i hc
      cases h
      exact ⟨n, f, by rw [he, hc.1], hc.2, rfl⟩
    · cases h
  · cases h
theorem aN_at {kd : Nat} {M : Mem} {a : Nat} {v : Int32} (h : aN kd M a = some v) : ∃ x : vp_A, M a = some (.inl (kd, x)) ∧ Int32.ofNat x.1 = v := by
  unfold aN at h
  split at h
  · rename_i k n y he
    split at h
    · rename_i hc
      cases h
      exact ⟨(n, y), by rw [he, hc], rfl⟩
    · cases h
  · cases h
theorem aCp_at {M M' : Mem} {a0 a : Nat} {sp dp n : Int32} (h : aCp M a0 sp a dp n = some M') : ∃ n0 f n1 g, M a0 = some (.inl (0, n0, .inl f)) ∧ M a = some (.inl (0, n1, .inl g)) ∧ (¬ sp < 0 ∧ ¬ dp < 0 ∧ ¬ n < 0) ∧ sp.toNatClampNeg + n.toNatClampNeg ≤ n0 ∧ dp.toNatClampNeg + n.toNatClampNeg ≤ n1 ∧ M' = upM M a (.inl (0, n1, .inl (va_cpy f g sp.toNatClampNeg dp.toNatClampNeg n.toNatClampNeg))) := by
  unfold aCp at h
  split at h
  · rename_i k0 n0 f k1 n1 g he0 he1
    split at h
    · rename_i hc
      cases h
      exact ⟨n0, f, n1, g, by rw [he0, hc.1.1], by rw [he1, hc.1.2.1], hc.1.2.2, hc.2.1, hc.2.2, rfl⟩
    · cases h
  · cases h
-- taking a method's meaning apart, step by step
theorem ob {α β : Type} {x : Option α} {f : α → Option β} {r : β} (h : Option.bind x f = some r) : ∃ v, x = some v ∧ f v = some r := by
  cases x with
  | none => cases h
  | some v => exact ⟨v, rfl, h⟩
theorem oT {c : Prop} [Decidable c] {β : Type} {x y : Option β} {r : β} (hc : c) (h : (if c then x else y) = some r) : x = some r := by rwa [if_pos hc] at h
theorem oF {c : Prop} [Decidable c] {β : Type} {x y : Option β} {r : β} (hc : ¬ c) (h : (if c then x else y) = some r) : y = some r := by rwa [if_neg hc] at h
theorem oG {c : Prop} [Decidable c] {β : Type} {y : Option β} {r : β} (h : (if c then y else none) = some r) : c ∧ y = some r := by
  by_cases hc : c
  · exact ⟨hc, by rwa [if_pos hc] at h⟩
  · rw [if_neg hc] at h
    cases h
theorem ob2_at {α β γ : Type} {x : Option (α × β)} {f : α → β → Option γ} {r : γ} (h : Option.bind x (fun y => f y.1 y.2) = some r) : ∃ a b, x = some (a, b) ∧ f a b = some r := by
  cases x with
  | none => cases h
  | some v => exact ⟨v.1, v.2, rfl, h⟩
/-- an answer and a memory -/
def ob2 {α β γ : Type} (x : Option (α × β)) (f : α → β → Option γ) : Option γ := Option.bind x (fun y => f y.1 y.2)
/-- a place where ways meet: k is what follows -/
def jn {α β : Type} (k : α) (f : α → β) : β := f k
theorem ojn {α γ : Type} {k0 : α} {f : α → Option γ} {r : γ} (h : jn k0 f = some r) : ∃ k, k = k0 ∧ f k = some r := ⟨k0, rfl, h⟩
/-- more turns than any loop takes -/
def FU : Nat := 100000
