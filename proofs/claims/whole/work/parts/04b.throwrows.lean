/-- words that a throw wants and no list of a callee may hold -/
def DW : List Cond := [Cond.castable "java/lang/IllegalArgumentException" "java/lang/IllegalArgumentException", Cond.declares (⟨"java/lang/RuntimeException", "<init>", "()V"⟩ : MethodName), Cond.declares (⟨"java/lang/RuntimeException", "<init>", "(Ljava/lang/String;)V"⟩ : MethodName), Cond.declares (⟨"java/lang/Exception", "<init>", "()V"⟩ : MethodName), Cond.declares (⟨"java/lang/Exception", "<init>", "(Ljava/lang/String;)V"⟩ : MethodName), Cond.declares (⟨"java/lang/Throwable", "<init>", "()V"⟩ : MethodName), Cond.declares (⟨"java/lang/Throwable", "<init>", "(Ljava/lang/String;)V"⟩ : MethodName), Cond.castable "java/lang/IndexOutOfBoundsException" "java/lang/IndexOutOfBoundsException", Cond.castable "java/util/NoSuchElementException" "java/util/NoSuchElementException", Cond.castable "java/lang/IllegalStateException" "java/lang/IllegalStateException"]
def yRef : List (Nat × String) := [(132, "no such number of the office"), (356, "no such school"), (177, "no such property of a school"), (185, "no such rule"), (359, "no such child"), (209, "no such property of a child"), (211, "no such preference"), (237, "no such holder"), (239, "no such place on the waiting list"), (361, "no such place"), (266, "no such family"), (271, "these are no preferences"), (275, "there are too many children"), (285, "the child was withdrawn before"), (290, "the child has no place"), (363, "no such capacity"), (301, "the child does not wait for the school"), (352, "no state is saved")]
def ncs : List (String × String) := [("java/lang/IllegalArgumentException", "java/lang/IndexOutOfBoundsException"), ("java/lang/IllegalArgumentException", "java/util/NoSuchElementException"), ("java/lang/IllegalArgumentException", "java/lang/IllegalStateException"), ("java/lang/IndexOutOfBoundsException", "java/lang/IllegalArgumentException"), ("java/lang/IndexOutOfBoundsException", "java/util/NoSuchElementException"), ("java/lang/IndexOutOfBoundsException", "java/lang/IllegalStateException"), ("java/util/NoSuchElementException", "java/lang/IllegalArgumentException"), ("java/util/NoSuchElementException", "java/lang/IndexOutOfBoundsException"), ("java/util/NoSuchElementException", "java/lang/IllegalStateException"), ("java/lang/IllegalStateException", "java/lang/IllegalArgumentException"), ("java/lang/IllegalStateException", "java/lang/IndexOutOfBoundsException"), ("java/lang/IllegalStateException", "java/util/NoSuchElementException")]
/-- what a throw wants of the cells below ours -/
def SY (b : Nat) (U : State) : Prop := (∀ w ∈ DW, va_Nw w U) ∧ (∀ q ∈ yRef, ∃ sa : Nat, vk_R "PlaceOffice" q.1 q.2 sa U) ∧ vx_Zq Bundle.tN "UNASSIGNED_STACK" Bundle.steD (fun q => b ≤ q) U U.heap ∧ vx_Zq Bundle.tN "SUPPRESSED_SENTINEL" Bundle.listD (fun q => b ≤ q) U U.heap ∧ ∀ q ∈ ncs, va_Nc q.1 q.2 U
def GY (G : gG) : Prop := ∀ U : State, G.2.2.2 U → SY G.2.2.1 U
theorem SY.kept {b : Nat} {u U : State} (h : SY b u) (hW : u.WarmedH U.vm) (hh : ∀ q : Nat, q < b → U.heap[q]? = u.heap[q]?) : SY b U := by
  obtain ⟨h1, h2, h3, h4, h5⟩ := h
  have k : ∀ a : Nat, a < u.heap.size → ¬ b ≤ a → U.heap[a]? = u.heap[a]? := fun a _ hb => hh a (Nat.lt_of_not_le hb)
  refine ⟨fun w hw => ?_, fun q hq => ?_, (vx_Zq.moved hW.alike h3).kept k, (vx_Zq.moved hW.alike h4).kept k, fun q hq => (h5 q hq).moved hW.alike⟩
  · have h9 := h1 w hw
    simp only [DW, List.mem_cons, List.not_mem_nil, or_false] at hw
    rcases hw with rfl | rfl | rfl | rfl | rfl | rfl | rfl | rfl | rfl | rfl
    · exact va_Nw.warmC hW h9
    · exact va_Nw.warmD hW h9
    · exact va_Nw.warmD hW h9
    · exact va_Nw.warmD hW h9
    · exact va_Nw.warmD hW h9
    · exact va_Nw.warmD hW h9
    · exact va_Nw.warmD hW h9
    · exact va_Nw.warmC hW h9
    · exact va_Nw.warmC hW h9
    · exact va_Nw.warmC hW h9
  · obtain ⟨sa, h⟩ := h2 q hq
    exact ⟨sa, h.warm hW⟩
/-- a method's end that may be a throw: its answer and the memory, or the class that it has thrown (the memory as it was) -/
def XQ (G : gG) (M : Mem) (A : Nat → Prop) (o : (Option Value × Mem) ⊕ String) : Array Value → State → Outcome → State → Prop := match o with
  | .inl q => CQ G q.2 q.1 A
  | .inr _ => fun _ _ _ _ => False
def XX (G : gG) (M : Mem) (A : Nat → Prop) (o : (Option Value × Mem) ⊕ String) : String → State → State → Prop := match o with
  | .inl _ => fun _ _ _ => False
  | .inr E => fun E1 st t => E1 = E ∧ (MP G M t.heap ∧ ∀ q x, M q = some x → A q) ∧ va_F A st t
def CX (G : gG) (l : Launch) (y : MethodName) (ws : List Cond) (rm : Room) (av : List Value) (M : Mem) (o : (Option Value × Mem) ⊕ String) (mc ms : Nat) : Prop :=
  ∀ sz : Nat, vx_Met l y ws rm (va_Pc av (fun U => U.heap.size = sz ∧ MP G M U.heap ∧ GK G U)) (XQ G M (AM M sz) o) (XX G M (AM M sz) o) mc ms (AM M sz)
theorem CX_of {G : gG} (hG : GOK G) {l : Launch} {y : MethodName} {cc : ByteArray} {own : String} {maxL : Nat} {ret : Option FieldType} {rm : Room} {av : List Value} {M : Mem} {o : (Option Value × Mem) ⊕ String} {mc ms : Nat}
    (hy : plainName y.cls = true) (ho : y.cls = own) (hav : (lg_sl av).length ≤ maxL)
    (body : ∀ (p : Program) (e : Env) (s : State) (m : MethodId) (below : List Frame) (meth : Method) (c : Code) (A : Nat → Prop), cx G p s m av.toArray c cc own maxL A → meth.sig.returnType = ret → meth.locks = false → (∀ x ∈ c.exceptionTable.toList, False) → mm G A s M s.heap [] → ∀ ls : Array Slot, lv_has ls maxL (lv_args 0 av) →
      W p l e rm s m av.toArray below meth c s.heap [] 0 0 (vx_MQ below (XQ G M A o) (XX G M A o) av.toArray s mc ms A) (F0 m 0 ls [])) : CX G l y (wT y cc maxL ret) rm av M o mc ms := by
  intro sz
  refine vx_ofW (cc := cc) (maxL := maxL) (ret := ret) hy rfl ?_
  intro p e s m args below meth c s₁ B hml hno hv
  obtain ⟨rfl, hsz, hP, hK⟩ := hv
  have hts := atoms_spec (ws := wT y cc maxL ret) B.pre
  have hown : s.vm.findClass own = some m.cls := by rw [← ho]; exact findClass_of_methodNamed B.named
  subst hsz
  rw [lg_entry_eq]
  refine body p e s m below meth c (AM M s.heap.size) ⟨B.exec, B.bytes, hml, hown, fun w h => hts w (List.mem_cons_of_mem _ h), hK, fun q h => Or.inr h, fun q h => ?_, hG⟩ B.returns B.notSynchronized hno ⟨hP, fun q x h => Or.inl ⟨x, h⟩, va_S.rf⟩ _ (lv_entry av hav)
  rcases h with ⟨x, h⟩ | h
  · exact (hP q x h).2
  · exact Nat.le_trans hK.2.1 h
theorem zn {v : Int32} (h : v = 0 ∨ v = 1) : narrow .boolean (.int v) = .int v := by rcases h with rfl | rfl <;> rfl
/-- what a method that may throw answers, as its end -/
def sm {α : Type} (f : α → Option Value × Mem) (o : α ⊕ String) : (Option Value × Mem) ⊕ String := match o with
  | .inl r => .inl (f r)
  | .inr E => .inr E
/-- a callee that may throw -/
def obx {α β : Type} (x : Option (α ⊕ String)) (f : α → Option (β ⊕ String)) : Option (β ⊕ String) := match x with
  | none => none
  | some (.inl v) => f v
  | some (.inr E) => some (.inr E)
theorem obx_at {α β : Type} {x : Option (α ⊕ String)} {f : α → Option (β ⊕ String)} {r : β ⊕ String} (h : obx x f = some r) : (∃ E, x = some (.inr E) ∧ r = .inr E) ∨ ∃ v, x = some (.inl v) ∧ f v = some r := by
  cases x with
  | none => cases h
  | some y =>
    cases y with
    | inl v => exact Or.inr ⟨v, rfl, h⟩
    | inr E => cases h; exact Or.inl ⟨E, rfl, rfl⟩
/-- the making of an exception at a class's place -/
def xNs : List String := ["java/lang/RuntimeException", "java/lang/Exception"]
def xk (own : String) (ik ic : Nat) (E : String) : Prop := (Cond.classLink own ik E ∈ TT ∧ Cond.initialized E ∈ TT) ∧ (∀ w ∈ (vx_atS own ic E xNs).filter goodWord, w ∈ TT) ∧ (∀ w ∈ (vx_atS own ic E xNs).filter (fun w => !goodWord w), w ∈ DW) ∧ (∀ w ∈ Cond.classLink own ik E :: Cond.initialized E :: vx_atS own ic E xNs, vx_ot w = true) ∧ Bundle.fit E = true
theorem xk_tt {L : List Cond} (h : ∀ w ∈ L.filter goodWord, w ∈ lw_tbl) : ∀ w ∈ L.filter goodWord, w ∈ TT := fun w hw => List.mem_filter.mpr ⟨h w hw, (List.mem_filter.mp hw).2⟩
theorem xk_134 : xk "PlaceOffice" 130 134 "java/lang/IllegalArgumentException" := ⟨⟨tw_732, tw_19⟩, xk_tt (by decide +kernel), by decide +kernel, by decide +kernel, by decide +kernel⟩
theorem xk_358 : xk "PlaceOffice" 354 358 "java/lang/IndexOutOfBoundsException" := ⟨⟨tw_812, tw_20⟩, xk_tt (by decide +kernel), by decide +kernel, by decide +kernel, by decide +kernel⟩
theorem xk_277 : xk "PlaceOffice" 273 277 "java/lang/IllegalStateException" := ⟨⟨tw_991, tw_24⟩, xk_tt (by decide +kernel), by decide +kernel, by decide +kernel, by decide +kernel⟩
/-- the same for a class whose constructor's link has another number -/
def xkN (own : String) (ik ic : Nat) (E : String) (ix : Nat) (rx : ByteArray) : Prop := (Cond.classLink own ik E ∈ TT ∧ Cond.initialized E ∈ TT) ∧ (∀ w ∈ (nx_at own ic E ix rx "java/lang/RuntimeException" ["java/lang/Exception"]).filter goodWord, w ∈ TT) ∧ (∀ w ∈ (nx_at own ic E ix rx "java/lang/RuntimeException" ["java/lang/Exception"]).filter (fun w => !goodWord w), w ∈ DW) ∧ (∀ w ∈ Cond.classLink own ik E :: Cond.initialized E :: nx_at own ic E ix rx "java/lang/RuntimeException" ["java/lang/Exception"], vx_ot w = true) ∧ Bundle.fit E = true
def nxb : ByteArray := prog_29_method_4_code
theorem xk_187 : xkN "PlaceOffice" 183 187 "java/util/NoSuchElementException" 13 nxb := ⟨⟨tw_842, tw_21⟩, xk_tt (by decide +kernel), by decide +kernel, by decide +kernel, by decide +kernel⟩
theorem nxb0 : decode nxb 0 = .ok (.aload_n 0, 1) := by decide +kernel
theorem nxb1 : decode nxb 1 = .ok (.aload_n 1, 1) := by decide +kernel
theorem nxb2 : decode nxb 2 = .ok (.invokespecial 13, 3) := by decide +kernel
theorem nxb5 : decode nxb 5 = .ok (.return_, 1) := by decide +kernel
section MX
variable {G : gG} {p : Program} {l : Launch} {e : Env} {R : Room} {s : State} {m : MethodId} {args : Array Value} {below : List Frame} {meth : Method} {c : Code} {H : Heap} {locs : List Loc} {cells slots : Nat} {Q : State → Prop}
variable {cc : ByteArray} {pc nL : Nat} {ls : Array Slot} {rest : List Value} {A : Nat → Prop} {a : Nat} {own : String} {M M' M0 : Mem} {ci N index : Nat} {C : String} {T : u_T} {ty : Nat → FieldType} {o : (Option Value × Mem) ⊕ String} {mc ms : Nat}
theorem mx_grow (C0 : cx G p s m args c cc own nL A) (hM : mm G A s M H locs) {H1 : Heap} (hz : H.size ≤ H1.size) (hq : ∀ q : Nat, q < H.size → H1[q]? = H[q]?) : MP G M H1 ∧ va_S A s.heap H1 locs :=
  ⟨fun b x hb => ⟨(hM.1 b x hb).1.kept (hq b (hM.1 b x hb).1.lt), (hM.1 b x hb).2⟩, Nat.le_trans hM.2.2.1 hz, fun q h1 h2 => (hq q (Nat.lt_of_lt_of_le h1 hM.2.2.1)).trans (hM.2.2.2.1 q h1 h2), hM.2.2.2.2⟩
theorem mx_hat {ik ic : Nat} {E : String} (C0 : cx G p s m args c cc own nL A) (hY : SY G.2.2.1 s) (X : xk own ik ic E) : ∀ w ∈ vx_atS own ic E xNs, w.before args s = true :=
  vx_hat (B := DW) (fun w h => C0.2.2.2.2.1 w (X.2.1 w h)) X.2.2.1 (fun w h => va_Nw.use (by
    have : ∀ w ∈ DW, w.onTables = true := by decide +kernel
    exact this w h) (hY.1 w h))
theorem mx_throwS {ik is ic : Nat} {E text : String} (C0 : cx G p s m args c cc own nL A) (hY0 : GY G) (hlf : l.stackTraces = false) (hlk : meth.locks = false) (hno : ∀ x ∈ c.exceptionTable.toList, False) (hM : mm G A s M H locs) (X : xk own ik ic E) (hq : (is, text) ∈ yRef) (hown : own = "PlaceOffice") (hl : ls.size = nL) (ho : o = .inr E)
    (d0 : decode cc pc = .ok (.new ik, 3)) (d3 : decode cc (pc + 3) = .ok (.dup, 1)) (d4 : decode cc (pc + 4) = .ok (.ldc is, 2)) (d6 : decode cc (pc + 6) = .ok (.invokespecial ic, 3)) (d9 : decode cc (pc + 9) = .ok (.athrow, 1))
    (hR : (6 ≤ R.frames ∧ (rest.map fun v => v.category).sum + 82 ≤ R.locals) ∧ cells + 1 ≤ R.cells ∧ slots + 6 ≤ R.slots) (hc : cells + 1 ≤ mc) (hs : slots + 6 ≤ ms) :
    W p l e R s m args below meth c H locs cells slots (vx_MQ below (XQ G M A o) (XX G M A o) args s mc ms A) (F0 m pc ls rest) := by
  subst ho; subst hown
  have hY := hY0 s C0.2.2.2.2.2.1.2.2
  obtain ⟨sa, hstr⟩ := hY.2.1 _ hq
  have hAb := C0.2.2.2.2.2.2.2.1
  refine vx_throwS C0.1 C0.2.1 hlf C0.2.2.2.1 X.2.2.2.2 (names := xNs) (by decide) (C0.2.2.2.2.1 _ X.1.1) (C0.2.2.2.2.1 _ X.1.2) hstr (mx_hat C0 hY X) X.2.2.2.1 (hY.2.2.1.narrow hAb) (hY.2.2.2.1.narrow hAb) hM.2.2 (hl.trans C0.2.2.1.symm) d0 d3 d4 d6 d9 (fun x hx => (hno x hx).elim) hR.1.1 hR.1.2 hR.2.1 hR.2.2 hlk (fun t ht hz hk => ?_) hM.2.2.2.2 hc hs
  obtain ⟨g1, g2⟩ := mx_grow C0 hM hz hk
  exact ⟨rfl, ⟨g1, hM.2.1⟩, g2.F rfl⟩
theorem mx_throwSW {ik is ic : Nat} {E text : String} (C0 : cx G p s m args c cc own nL A) (hY0 : GY G) (hlf : l.stackTraces = false) (hlk : meth.locks = false) (hno : ∀ x ∈ c.exceptionTable.toList, False) (hM : mm G A s M H locs) (X : xk own ik ic E) (hq : (is, text) ∈ yRef) (hown : own = "PlaceOffice") (hl : ls.size = nL) (ho : o = .inr E)
    (d0 : decode cc pc = .ok (.new ik, 3)) (d3 : decode cc (pc + 3) = .ok (.dup, 1)) (d4 : decode cc (pc + 4) = .ok (.ldc_w is, 3)) (d6 : decode cc (pc + 7) = .ok (.invokespecial ic, 3)) (d9 : decode cc (pc + 10) = .ok (.athrow, 1))
    (hR : (6 ≤ R.frames ∧ (rest.map fun v => v.category).sum + 82 ≤ R.locals) ∧ cells + 1 ≤ R.cells ∧ slots + 6 ≤ R.slots) (hc : cells + 1 ≤ mc) (hs : slots + 6 ≤ ms) :
    W p l e R s m args below meth c H locs cells slots (vx_MQ below (XQ G M A o) (XX G M A o) args s mc ms A) (F0 m pc ls rest) := by
  subst ho; subst hown
  have hY := hY0 s C0.2.2.2.2.2.1.2.2
  obtain ⟨sa, hstr⟩ := hY.2.1 _ hq
  have hAb := C0.2.2.2.2.2.2.2.1
  refine vx_throwSW C0.1 C0.2.1 hlf C0.2.2.2.1 X.2.2.2.2 (names := xNs) (by decide) (C0.2.2.2.2.1 _ X.1.1) (C0.2.2.2.2.1 _ X.1.2) hstr (mx_hat C0 hY X) X.2.2.2.1 (hY.2.2.1.narrow hAb) (hY.2.2.2.1.narrow hAb) hM.2.2 (hl.trans C0.2.2.1.symm) d0 d3 d4 d6 d9 (fun x hx => (hno x hx).elim) hR.1.1 hR.1.2 hR.2.1 hR.2.2 hlk (fun t ht hz hk => ?_) hM.2.2.2.2 hc hs
  obtain ⟨g1, g2⟩ := mx_grow C0 hM hz hk
  exact ⟨rfl, ⟨g1, hM.2.1⟩, g2.F rfl⟩
theorem mx_hatN {ik ic : Nat} {E : String} (C0 : cx G p s m args c cc own nL A) (hY : SY G.2.2.1 s) (X : xkN own ik ic E 13 nxb) : ∀ w ∈ nx_at own ic E 13 nxb "java/lang/RuntimeException" ["java/lang/Exception"], w.before args s = true :=
  vx_hat (B := DW) (fun w h => C0.2.2.2.2.1 w (X.2.1 w h)) X.2.2.1 (fun w h => va_Nw.use (by
    have : ∀ w ∈ DW, w.onTables = true := by decide +kernel
    exact this w h) (hY.1 w h))
theorem mx_throwN {ik is ic : Nat} {E text : String} (C0 : cx G p s m args c cc own nL A) (hY0 : GY G) (hlf : l.stackTraces = false) (hlk : meth.locks = false) (hno : ∀ x ∈ c.exceptionTable.toList, False) (hM : mm G A s M H locs) (X : xkN own ik ic E 13 nxb) (hq : (is, text) ∈ yRef) (hown : own = "PlaceOffice") (hl : ls.size = nL) (ho : o = .inr E)
    (d0 : decode cc pc = .ok (.new ik, 3)) (d3 : decode cc (pc + 3) = .ok (.dup, 1)) (d4 : decode cc (pc + 4) = .ok (.ldc is, 2)) (d6 : decode cc (pc + 6) = .ok (.invokespecial ic, 3)) (d9 : decode cc (pc + 9) = .ok (.athrow, 1))
    (hR : (6 ≤ R.frames ∧ (rest.map fun v => v.category).sum + 82 ≤ R.locals) ∧ cells + 1 ≤ R.cells ∧ slots + 6 ≤ R.slots) (hc : cells + 1 ≤ mc) (hs : slots + 6 ≤ ms) :
    W p l e R s m args below meth c H locs cells slots (vx_MQ below (XQ G M A o) (XX G M A o) args s mc ms A) (F0 m pc ls rest) := by
  subst ho; subst hown
  have hY := hY0 s C0.2.2.2.2.2.1.2.2
  obtain ⟨sa, hstr⟩ := hY.2.1 _ hq
  have hAb := C0.2.2.2.2.2.2.2.1
  refine nx_throwS C0.1 C0.2.1 hlf nxb0 nxb1 nxb2 nxb5 C0.2.2.2.1 X.2.2.2.2 (by decide) (by decide) (C0.2.2.2.2.1 _ X.1.1) (C0.2.2.2.2.1 _ X.1.2) hstr (mx_hatN C0 hY X) X.2.2.2.1 (hY.2.2.1.narrow hAb) (hY.2.2.2.1.narrow hAb) hM.2.2 (hl.trans C0.2.2.1.symm) d0 d3 d4 d6 d9 (fun x hx => (hno x hx).elim) hR.1.1 hR.1.2 hR.2.1 hR.2.2 hlk (fun t ht hz hk => ?_) hM.2.2.2.2 hc hs
  obtain ⟨g1, g2⟩ := mx_grow C0 hM hz hk
  exact ⟨rfl, ⟨g1, hM.2.1⟩, g2.F rfl⟩
-- ends of a method that may throw
theorem mx_q {v : Option Value} (C0 : cx G p s m args c cc own nL A) (hM : mm G A s M H locs) (ho : o = .inl (v, M)) (t : State) (ht : t.heap = H) (hW : s.WarmedH t.vm) : XQ G M0 A o args s (.returned v) t := by
  subst ho
  exact mr_q C0 hM rfl rfl t ht hW
theorem mx_iret (C0 : cx G p s m args c cc own nL A) {rt : FieldType} (hr : meth.sig.returnType = some rt) (hlk : meth.locks = false) (hM : mm G A s M H locs) {v : Int32} (hn : narrow rt (.int v) = .int v) (ho : o = .inl (some (.int v), M)) (hc : cells ≤ mc) (hs : slots ≤ ms) (hdg : decode cc pc = .ok (.ireturn, 1)) : W p l e R s m args below meth c H locs cells slots (vx_MQ below (XQ G M0 A o) (XX G M0 A o) args s mc ms A) (F0 m pc ls [.int v]) :=
  vx_ret (W.widen hc hs (W.zret C0.1 C0.2.1 hr hn (fun t ht hW => mx_q C0 hM ho t ht hW) hM.2.2.2.2 hdg hlk))
theorem mx_lret (C0 : cx G p s m args c cc own nL A) (hr : meth.sig.returnType = some .long) (hlk : meth.locks = false) (hM : mm G A s M H locs) {v : Int64} (ho : o = .inl (some (.long v), M)) (hc : cells ≤ mc) (hs : slots ≤ ms) (hdg : decode cc pc = .ok (.lreturn, 1)) : W p l e R s m args below meth c H locs cells slots (vx_MQ below (XQ G M0 A o) (XX G M0 A o) args s mc ms A) (F0 m pc ls [.long v]) :=
  vx_ret (W.widen hc hs (W.lret C0.1 C0.2.1 hr (fun t ht hW => mx_q C0 hM ho t ht hW) hM.2.2.2.2 hdg hlk))
theorem mx_fret (C0 : cx G p s m args c cc own nL A) (hr : meth.sig.returnType = some .float) (hlk : meth.locks = false) (hM : mm G A s M H locs) {v : UInt32} (ho : o = .inl (some (.float v), M)) (hc : cells ≤ mc) (hs : slots ≤ ms) (hdg : decode cc pc = .ok (.freturn, 1)) : W p l e R s m args below meth c H locs cells slots (vx_MQ below (XQ G M0 A o) (XX G M0 A o) args s mc ms A) (F0 m pc ls [.float v]) :=
  vx_ret (W.widen hc hs (W.fret C0.1 C0.2.1 hr (fun t ht hW => mx_q C0 hM ho t ht hW) hM.2.2.2.2 hdg hlk))
theorem mx_vret (C0 : cx G p s m args c cc own nL A) (hr : meth.sig.returnType = none) (hlk : meth.locks = false) (hM : mm G A s M H locs) (ho : o = .inl (none, M)) (hc : cells ≤ mc) (hs : slots ≤ ms) (hdg : decode cc pc = .ok (.return_, 1)) : W p l e R s m args below meth c H locs cells slots (vx_MQ below (XQ G M0 A o) (XX G M0 A o) args s mc ms A) (F0 m pc ls []) :=
  vx_ret (W.widen hc hs (W.vret C0.1 C0.2.1 hr (fun t ht hW => mx_q C0 hM ho t ht hW) hM.2.2.2.2 hdg hlk))
-- calls of a method that may throw
variable {y : MethodName} {bytes : ByteArray} {maxL n mc1 ms1 : Nat} {ret : Option FieldType} {rm : Room} {As : List Value} {b : Nat} {o1 : (Option Value × Mem) ⊕ String}
theorem mx_runV (C0 : cx G p s m args c cc own nL A) (B : cb ci C T ty N) (hM : mm G A s M H locs) (hi : isC ci M b = some ()) (hC : y.cls = C) (hct : CX G l y (wT y bytes maxL ret) rm (.ref b :: As) M o1 mc1 ms1) (w1 : Cond.methodLink own index y ∈ TT) (w2 : Cond.instanceMethod y ∈ TT) (w3 : Cond.selects C y y ∈ TT) (w4 : Cond.initialized C ∈ TT) (w5 : Cond.code y bytes maxL ret ∈ TT) (hy : yok y n) (hrm : rok rm maxL R mc1 ms1 cells slots) (hn : As.length = n) (hl : ls.size = nL) (hw : (rest.map fun v => v.category).sum ≤ 8) (hdg : decode cc pc = .ok (.invokevirtual index, 3)) :
    vx_Run p l e R s m args below meth c H locs cells slots mc1 ms1 (F0 m pc ls (As.reverse ++ .ref b :: rest)) rest (XQ G M (AM M H.size) o1 (Value.ref b :: As).toArray) (XX G M (AM M H.size) o1) (AM M H.size) := by
  have hts : ∀ w ∈ (Cond.instanceMethod y :: TT), w.before args s = true := fun w h => by
    rcases List.mem_cons.mp h with h | h
    · rw [h]; exact C0.2.2.2.2.1 _ w2
    · exact C0.2.2.2.2.1 w h
  exact vx_runV (Ts := Cond.instanceMethod y :: TT) ⟨C0.1, C0.2.1, C0.2.2.1, C0.2.2.2.1, hts⟩ (hct H.size) (cwV n hts (gT (us := [.methodLink own index y, .instanceMethod y, .selects C y y, .initialized C]) (fun w h => by
      simp only [List.mem_cons, List.not_mem_nil, or_false] at h
      rcases h with rfl | rfl | rfl | rfl <;> assumption) w5) rfl hrm.1.1 hrm.1.2 ⟨hC, hy.1, hy.2.1, hy.2.2⟩ hrm.2.1) ⟨mm.blind C0.2.2.2.2.2.2.2.2, mr_recv C0 B hM hi, hM.pre C0⟩ rfl hn hl rfl (lv_room hw) hdg hrm.2.2
theorem mx_runS (C0 : cx G p s m args c cc own nL A) (hM : mm G A s M H locs) (hct : CX G l y (wT y bytes maxL ret) rm As M o1 mc1 ms1) (w1 : Cond.methodLink own index y ∈ TT) (w2 : Cond.static y ∈ TT) (w4 : Cond.initialized y.cls ∈ TT) (w5 : Cond.code y bytes maxL ret ∈ TT) (hy : yok y n) (hrm : rok rm maxL R mc1 ms1 cells slots) (hn : As.length = n) (hl : ls.size = nL) (hw : (rest.map fun v => v.category).sum ≤ 8) (hdg : decode cc pc = .ok (.invokestatic index, 3)) :
    vx_Run p l e R s m args below meth c H locs cells slots mc1 ms1 (F0 m pc ls (As.reverse ++ rest)) rest (XQ G M (AM M H.size) o1 As.toArray) (XX G M (AM M H.size) o1) (AM M H.size) := by
  have hts : ∀ w ∈ (Cond.static y :: TT), w.before args s = true := fun w h => by
    rcases List.mem_cons.mp h with h | h
    · rw [h]; exact C0.2.2.2.2.1 _ w2
    · exact C0.2.2.2.2.1 w h
  exact vx_runS (Ts := Cond.static y :: TT) ⟨C0.1, C0.2.1, C0.2.2.1, C0.2.2.2.1, hts⟩ (hct H.size) (va_cwS n hts (gT (us := [.methodLink own index y, .static y, .initialized y.cls]) (fun w h => by
      simp only [List.mem_cons, List.not_mem_nil, or_false] at h
      rcases h with rfl | rfl | rfl <;> assumption) w5) rfl hrm.1.1 hrm.1.2 hy hrm.2.1) ⟨mm.blind C0.2.2.2.2.2.2.2.2, hM.pre C0⟩ rfl hn hl rfl (lv_room hw) hdg hrm.2.2
/-- the callee came back -/
theorem mx_back {v : Option Value} {a0 : Array Value} {st0 : List Value} {M2 : Mem} (C0 : cx G p s m args c cc own nL A) (hM : mm G A s M H locs) (hr : vx_Run p l e R s m args below meth c H locs cells slots mc1 ms1 (F0 m pc ls st0) rest (XQ G M (AM M H.size) (.inl (v, M2)) a0) (XX G M (AM M H.size) (.inl (v, M2))) (AM M H.size))
    (kk : ∀ (H1 : Heap) (locs1 : List Loc), mm G A s M2 H1 locs1 → W p l e R s m args below meth c H1 locs1 (cells + mc1) (slots + ms1) Q (F0 m (pc + 3) ls (v.toList ++ rest))) : W p l e R s m args below meth c H locs cells slots Q (F0 m pc ls st0) := by
  have hF := hM.free C0
  intro T0 hT X
  rcases hr T0 hT X with ⟨v1, st₀, t, T', L, h0, X', hL, e1, e2, ⟨hv, ⟨hP1, hK1, hA1⟩, hz, hk⟩, st⟩ | ⟨q, st₀, t, T', L, E, ce, h0, X', hL, e1, e2, hx, -⟩
  · cases hv
    rw [h0] at hz hk
    have hS := hM.2.2
    obtain ⟨t2, a1, b1⟩ := kk T'.heap (locs ++ L) ⟨by rw [e1]; exact hP1, fun q x h => hF q (hA1 q x h), Nat.le_trans hS.1 (by rw [e1]; exact hz), fun q h1 h2 => by rw [e1, hk q (Nat.lt_of_lt_of_le h1 hS.1) (fun z => h2 (hF q z))]; exact hS.2.1 q h1 h2, fun q hq => by
        rcases List.mem_append.mp hq with h | h
        · exact hS.2.2 q h
        · exact hF _ (hL q h)⟩ T' rfl X'
    exact ⟨t2, st t2 a1, b1⟩
  · exact hx.elim
/-- the callee threw: the cell of the exception, the memory as it was -/
theorem mx_threw {E : String} {a0 : Array Value} {st0 : List Value} (C0 : cx G p s m args c cc own nL A) (hM : mm G A s M H locs) (hr : vx_Run p l e R s m args below meth c H locs cells slots mc1 ms1 (F0 m pc ls st0) rest (XQ G M (AM M H.size) (.inr E) a0) (XX G M (AM M H.size) (.inr E)) (AM M H.size))
    (kk : ∀ (H1 : Heap) (locs1 : List Loc) (q : Addr) (ce : Cell), mm G A s M H1 locs1 → H1[q]? = some ce → ce.vm = .none → s.vm.findClass E = some ce.cls → vx_W p l e R s m args below meth c H1 locs1 (cells + mc1) (slots + ms1) Q (F0 m pc ls rest) q) : W p l e R s m args below meth c H locs cells slots Q (F0 m pc ls st0) := by
  have hF := hM.free C0
  intro T0 hT X
  rcases hr T0 hT X with ⟨v1, st₀, t, T', L, h0, X', hL, e1, e2, hx, -⟩ | ⟨q, st₀, t, T', L, E1, ce, h0, X', hL, e1, e2, ⟨hE, ⟨hP1, hA1⟩, hz, hk⟩, hce, hcv, hcl, st⟩
  · exact hx.elim
  · subst hE
    rw [h0] at hz hk
    have hS := hM.2.2
    obtain ⟨t2, a1, b1⟩ := kk T'.heap (locs ++ L) q ce ⟨by rw [e1]; exact hP1, hM.2.1, Nat.le_trans hS.1 (by rw [e1]; exact hz), fun q h1 h2 => by rw [e1, hk q (Nat.lt_of_lt_of_le h1 hS.1) (fun z => h2 (hF q z))]; exact hS.2.1 q h1 h2, fun q hq => by
        rcases List.mem_append.mp hq with h | h
        · exact hS.2.2 q h
        · exact hF _ (hL q h)⟩ (by rw [e1]; exact hce) hcv hcl T' rfl X'
    exact ⟨t2, st.trans a1, b1⟩
/-- not caught here -/
theorem mx_out {E : String} {q : Addr} {ce : Cell} (C0 : cx G p s m args c cc own nL A) (hno : ∀ x ∈ c.exceptionTable.toList, False) (hlk : meth.locks = false) (hM : mm G A s M H locs) (ho : o = .inr E) (h1 : H[q]? = some ce) (h2 : ce.vm = .none) (h3 : s.vm.findClass E = some ce.cls) (hc : cells ≤ mc) (hs : slots ≤ ms) :
    vx_W p l e R s m args below meth c H locs cells slots (vx_MQ below (XQ G M A o) (XX G M A o) args s mc ms A) (F0 m pc ls rest) q := by
  subst ho
  exact vx_out (fun x hx => (hno x hx).elim) hlk h1 h2 h3 (fun t ht _ => ⟨rfl, ⟨by rw [ht]; exact hM.1, hM.2.1⟩, hM.2.2.F ht⟩) hM.2.2.2.2 hc hs
/-- a call that throws on: the whole of it -/
theorem mx_V_x {E : String} {st0 : List Value} (C0 : cx G p s m args c cc own nL A) (hno : ∀ x ∈ c.exceptionTable.toList, False) (hlk : meth.locks = false) (B : cb ci C T ty N) (hM : mm G A s M H locs) (hi : isC ci M b = some ()) (hC : y.cls = C) (hct : CX G l y (wT y bytes maxL ret) rm (.ref b :: As) M (.inr E) mc1 ms1) (w1 : Cond.methodLink own index y ∈ TT) (w2 : Cond.instanceMethod y ∈ TT) (w3 : Cond.selects C y y ∈ TT) (w4 : Cond.initialized C ∈ TT) (w5 : Cond.code y bytes maxL ret ∈ TT) (hy : yok y n) (hrm : rok rm maxL R mc1 ms1 cells slots) (hn : As.length = n) (hl : ls.size = nL) (hw : (rest.map fun v => v.category).sum ≤ 8) (hdg : decode cc pc = .ok (.invokevirtual index, 3)) (hst : As.reverse ++ .ref b :: rest = st0) (ho : o = .inr E) (hc : cells + mc1 ≤ mc) (hs : slots + ms1 ≤ ms) :
    W p l e R s m args below meth c H locs cells slots (vx_MQ below (XQ G M A o) (XX G M A o) args s mc ms A) (F0 m pc ls st0) := by
  subst hst
  exact mx_threw C0 hM (mx_runV C0 B hM hi hC hct w1 w2 w3 w4 w5 hy hrm hn hl hw hdg) (fun H1 locs1 q ce hM1 h1 h2 h3 => mx_out C0 hno hlk hM1 ho h1 h2 h3 hc hs)
theorem mx_S_x {E : String} {st0 : List Value} (C0 : cx G p s m args c cc own nL A) (hno : ∀ x ∈ c.exceptionTable.toList, False) (hlk : meth.locks = false) (hM : mm G A s M H locs) (hct : CX G l y (wT y bytes maxL ret) rm As M (.inr E) mc1 ms1) (w1 : Cond.methodLink own index y ∈ TT) (w2 : Cond.static y ∈ TT) (w4 : Cond.initialized y.cls ∈ TT) (w5 : Cond.code y bytes maxL ret ∈ TT) (hy : yok y n) (hrm : rok rm maxL R mc1 ms1 cells slots) (hn : As.length = n) (hl : ls.size = nL) (hw : (rest.map fun v => v.category).sum ≤ 8) (hdg : decode cc pc = .ok (.invokestatic index, 3)) (hst : As.reverse ++ rest = st0) (ho : o = .inr E) (hc : cells + mc1 ≤ mc) (hs : slots + ms1 ≤ ms) :
    W p l e R s m args below meth c H locs cells slots (vx_MQ below (XQ G M A o) (XX G M A o) args s mc ms A) (F0 m pc ls st0) := by
  subst hst
  exact mx_threw C0 hM (mx_runS C0 hM hct w1 w2 w4 w5 hy hrm hn hl hw hdg) (fun H1 locs1 q ce hM1 h1 h2 h3 => mx_out C0 hno hlk hM1 ho h1 h2 h3 hc hs)
/-- a call that comes back with nothing -/
theorem mx_V_0 {st0 : List Value} {M2 : Mem} (C0 : cx G p s m args c cc own nL A) (B : cb ci C T ty N) (hM : mm G A s M H locs) (hi : isC ci M b = some ()) (hC : y.cls = C) (hct : CX G l y (wT y bytes maxL ret) rm (.ref b :: As) M (.inl (none, M2)) mc1 ms1) (w1 : Cond.methodLink own index y ∈ TT) (w2 : Cond.instanceMethod y ∈ TT) (w3 : Cond.selects C y y ∈ TT) (w4 : Cond.initialized C ∈ TT) (w5 : Cond.code y bytes maxL ret ∈ TT) (hy : yok y n) (hrm : rok rm maxL R mc1 ms1 cells slots) (hn : As.length = n) (hl : ls.size = nL) (hw : (rest.map fun v => v.category).sum ≤ 8) (hdg : decode cc pc = .ok (.invokevirtual index, 3)) (hst : As.reverse ++ .ref b :: rest = st0)
    (kk : ∀ (H1 : Heap) (locs1 : List Loc), mm G A s M2 H1 locs1 → W p l e R s m args below meth c H1 locs1 (cells + mc1) (slots + ms1) Q (F0 m (pc + 3) ls rest)) : W p l e R s m args below meth c H locs cells slots Q (F0 m pc ls st0) := by
  subst hst
  exact mx_back C0 hM (mx_runV C0 B hM hi hC hct w1 w2 w3 w4 w5 hy hrm hn hl hw hdg) kk
theorem mx_S_0 {st0 : List Value} {M2 : Mem} (C0 : cx G p s m args c cc own nL A) (hM : mm G A s M H locs) (hct : CX G l y (wT y bytes maxL ret) rm As M (.inl (none, M2)) mc1 ms1) (w1 : Cond.methodLink own index y ∈ TT) (w2 : Cond.static y ∈ TT) (w4 : Cond.initialized y.cls ∈ TT) (w5 : Cond.code y bytes maxL ret ∈ TT) (hy : yok y n) (hrm : rok rm maxL R mc1 ms1 cells slots) (hn : As.length = n) (hl : ls.size = nL) (hw : (rest.map fun v => v.category).sum ≤ 8) (hdg : decode cc pc = .ok (.invokestatic index, 3)) (hst : As.reverse ++ rest = st0)
    (kk : ∀ (H1 : Heap) (locs1 : List Loc), mm G A s M2 H1 locs1 → W p l e R s m args below meth c H1 locs1 (cells + mc1) (slots + ms1) Q (F0 m (pc + 3) ls rest)) : W p l e R s m args below meth c H locs cells slots Q (F0 m pc ls st0) := by
  subst hst
  exact mx_back C0 hM (mx_runS C0 hM hct w1 w2 w4 w5 hy hrm hn hl hw hdg) kk
theorem mg_V1 {x : Value} {st0 : List Value} (C0 : cx G p s m args c cc own nL A) (B : cb ci C T ty N) (hM : mm G A s M H locs) (hi : isC ci M b = some ()) (hC : y.cls = C) (hct : CT G l y (wT y bytes maxL ret) rm (.ref b :: As) M (some x) M' 0 0) (w1 : Cond.methodLink own index y ∈ TT) (w2 : Cond.instanceMethod y ∈ TT) (w3 : Cond.selects C y y ∈ TT) (w4 : Cond.initialized C ∈ TT) (w5 : Cond.code y bytes maxL ret ∈ TT) (hy : yok y n) (hrm : rok rm maxL R 0 0 cells slots) (hn : As.length = n) (hl : ls.size = nL) (hw : (rest.map fun v => v.category).sum ≤ 8) (hdg : decode cc pc = .ok (.invokevirtual index, 3)) (hst : As.reverse ++ .ref b :: rest = st0)
    (kk : ∀ (H1 : Heap) (locs1 : List Loc), mm G A s M' H1 locs1 → W p l e R s m args below meth c H1 locs1 cells slots Q (F0 m (pc + 3) ls (x :: rest))) : W p l e R s m args below meth c H locs cells slots Q (F0 m pc ls st0) := by
  subst hst
  exact mr_b1 C0 hM (mr_runV C0 B hM hi hC hct w1 w2 w3 w4 w5 hy hrm hn hl hw hdg) kk
theorem mg_V0 {st0 : List Value} (C0 : cx G p s m args c cc own nL A) (B : cb ci C T ty N) (hM : mm G A s M H locs) (hi : isC ci M b = some ()) (hC : y.cls = C) (hct : CT G l y (wT y bytes maxL ret) rm (.ref b :: As) M none M' 0 0) (w1 : Cond.methodLink own index y ∈ TT) (w2 : Cond.instanceMethod y ∈ TT) (w3 : Cond.selects C y y ∈ TT) (w4 : Cond.initialized C ∈ TT) (w5 : Cond.code y bytes maxL ret ∈ TT) (hy : yok y n) (hrm : rok rm maxL R 0 0 cells slots) (hn : As.length = n) (hl : ls.size = nL) (hw : (rest.map fun v => v.category).sum ≤ 8) (hdg : decode cc pc = .ok (.invokevirtual index, 3)) (hst : As.reverse ++ .ref b :: rest = st0)
    (kk : ∀ (H1 : Heap) (locs1 : List Loc), mm G A s M' H1 locs1 → W p l e R s m args below meth c H1 locs1 cells slots Q (F0 m (pc + 3) ls rest)) : W p l e R s m args below meth c H locs cells slots Q (F0 m pc ls st0) := by
  subst hst
  exact mr_b0 C0 hM (mr_runV C0 B hM hi hC hct w1 w2 w3 w4 w5 hy hrm hn hl hw hdg) kk
theorem mg_S1 {x : Value} {st0 : List Value} (C0 : cx G p s m args c cc own nL A) (hM : mm G A s M H locs) (hct : CT G l y (wT y bytes maxL ret) rm As M (some x) M' 0 0) (w1 : Cond.methodLink own index y ∈ TT) (w2 : Cond.static y ∈ TT) (w4 : Cond.initialized y.cls ∈ TT) (w5 : Cond.code y bytes maxL ret ∈ TT) (hy : yok y n) (hrm : rok rm maxL R 0 0 cells slots) (hn : As.length = n) (hl : ls.size = nL) (hw : (rest.map fun v => v.category).sum ≤ 8) (hdg : decode cc pc = .ok (.invokestatic index, 3)) (hst : As.reverse ++ rest = st0)
    (kk : ∀ (H1 : Heap) (locs1 : List Loc), mm G A s M' H1 locs1 → W p l e R s m args below meth c H1 locs1 cells slots Q (F0 m (pc + 3) ls (x :: rest))) : W p l e R s m args below meth c H locs cells slots Q (F0 m pc ls st0) := by
  subst hst
  exact mr_b1 C0 hM (mr_runS C0 hM hct w1 w2 w4 w5 hy hrm hn hl hw hdg) kk
theorem mg_S0 {st0 : List Value} (C0 : cx G p s m args c cc own nL A) (hM : mm G A s M H locs) (hct : CT G l y (wT y bytes maxL ret) rm As M none M' 0 0) (w1 : Cond.methodLink own index y ∈ TT) (w2 : Cond.static y ∈ TT) (w4 : Cond.initialized y.cls ∈ TT) (w5 : Cond.code y bytes maxL ret ∈ TT) (hy : yok y n) (hrm : rok rm maxL R 0 0 cells slots) (hn : As.length = n) (hl : ls.size = nL) (hw : (rest.map fun v => v.category).sum ≤ 8) (hdg : decode cc pc = .ok (.invokestatic index, 3)) (hst : As.reverse ++ rest = st0)
    (kk : ∀ (H1 : Heap) (locs1 : List Loc), mm G A s M' H1 locs1 → W p l e R s m args below meth c H1 locs1 cells slots Q (F0 m (pc + 3) ls rest)) : W p l e R s m args below meth c H locs cells slots Q (F0 m pc ls st0) := by
  subst hst
  exact mr_b0 C0 hM (mr_runS C0 hM hct w1 w2 w4 w5 hy hrm hn hl hw hdg) kk
theorem mg_N1 {x : Value} {host : String} {st0 : List Value} (C0 : cx G p s m args c cc own nL A) (hM : mm G A s M H locs) (hct : CT G l y (wT y bytes maxL ret) rm As M (some x) M' 0 0) (w1 : Cond.methodLinkNest own index y host ∈ NW) (w2 : Cond.static y ∈ TT) (w4 : Cond.initialized y.cls ∈ TT) (w5 : Cond.code y bytes maxL ret ∈ TT) (hy : yok y n) (hrm : rok rm maxL R 0 0 cells slots) (hn : As.length = n) (hl : ls.size = nL) (hw : (rest.map fun v => v.category).sum ≤ 8) (hdg : decode cc pc = .ok (.invokestatic index, 3)) (hst : As.reverse ++ rest = st0)
    (kk : ∀ (H1 : Heap) (locs1 : List Loc), mm G A s M' H1 locs1 → W p l e R s m args below meth c H1 locs1 cells slots Q (F0 m (pc + 3) ls (x :: rest))) : W p l e R s m args below meth c H locs cells slots Q (F0 m pc ls st0) := by
  subst hst
  exact mr_b1 C0 hM (mr_runSN C0 hM hct w1 w2 w4 w5 hy hrm hn hl hw hdg) kk
theorem mg_N0 {host : String} {st0 : List Value} (C0 : cx G p s m args c cc own nL A) (hM : mm G A s M H locs) (hct : CT G l y (wT y bytes maxL ret) rm As M none M' 0 0) (w1 : Cond.methodLinkNest own index y host ∈ NW) (w2 : Cond.static y ∈ TT) (w4 : Cond.initialized y.cls ∈ TT) (w5 : Cond.code y bytes maxL ret ∈ TT) (hy : yok y n) (hrm : rok rm maxL R 0 0 cells slots) (hn : As.length = n) (hl : ls.size = nL) (hw : (rest.map fun v => v.category).sum ≤ 8) (hdg : decode cc pc = .ok (.invokestatic index, 3)) (hst : As.reverse ++ rest = st0)
    (kk : ∀ (H1 : Heap) (locs1 : List Loc), mm G A s M' H1 locs1 → W p l e R s m args below meth c H1 locs1 cells slots Q (F0 m (pc + 3) ls rest)) : W p l e R s m args below meth c H locs cells slots Q (F0 m pc ls st0) := by
  subst hst
  exact mr_b0 C0 hM (mr_runSN C0 hM hct w1 w2 w4 w5 hy hrm hn hl hw hdg) kk
theorem mg_max (C0 : cx G p s m args c cc own nL A) (w1 : Cond.methodLink own index Lib.Math.max.name ∈ TT) (w2 : Cond.static Lib.Math.max.name ∈ TT) (w3 : Cond.initialized "java/lang/Math" ∈ TT) (w4 : Cond.code Lib.Math.max.name Lib.Math.max.code 2 (some .int) ∈ TT) (hR : 1 ≤ R.frames ∧ (rest.map fun v => v.category).sum + 13 ≤ R.locals) (hl : ls.size = nL) (hcs : cells ≤ R.cells ∧ slots ≤ R.slots) {x y : Int32} (hdg : decode cc pc = .ok (.invokestatic index, 3))
    (kk : W p l e R s m args below meth c H locs cells slots Q (F0 m (pc + 3) ls (.int (if x < y then y else x) :: rest))) : W p l e R s m args below meth c H locs cells slots Q (F0 m pc ls (.int y :: .int x :: rest)) := by
  have hts := C0.2.2.2.2.1
  exact va_mmax C0.1 C0.2.1 (C0.2.2.1.trans hl.symm) C0.2.2.2.1 (hts _ w1) (hts _ w2) (hts _ w3) (hts _ w4) hR.1 hR.2 hcs.1 hcs.2 hdg kk
end MX
