/-! THE ROWS over the memory: what a row of the kit says of a world, said of a memory. -/
/-- selects of the private methods of StringBuilder's superclass: derived at the start -/
def DS : List Cond := [Cond.selects "java/lang/StringBuilder" (⟨"java/lang/AbstractStringBuilder", "ensureCapacityInternal", "(I)V"⟩ : MethodName) (⟨"java/lang/AbstractStringBuilder", "ensureCapacityInternal", "(I)V"⟩ : MethodName), Cond.selects "java/lang/StringBuilder" (⟨"java/lang/AbstractStringBuilder", "newCapacity", "(I)I"⟩ : MethodName) (⟨"java/lang/AbstractStringBuilder", "newCapacity", "(I)I"⟩ : MethodName), Cond.selects "java/lang/StringBuilder" (⟨"java/lang/AbstractStringBuilder", "putStringAt", "(ILjava/lang/String;)V"⟩ : MethodName) (⟨"java/lang/AbstractStringBuilder", "putStringAt", "(ILjava/lang/String;)V"⟩ : MethodName), Cond.selects "java/lang/StringBuilder" (⟨"java/lang/AbstractStringBuilder", "inflateIfNeededFor", "(Ljava/lang/String;)V"⟩ : MethodName) (⟨"java/lang/AbstractStringBuilder", "inflateIfNeededFor", "(Ljava/lang/String;)V"⟩ : MethodName), Cond.selects "java/util/ArrayList" (⟨"java/util/Collection", "getClass", "()Ljava/lang/Class;"⟩ : MethodName) (⟨"java/lang/Object", "getClass", "()Ljava/lang/Class;"⟩ : MethodName), Cond.selects "java/util/ArrayList$SubList" (⟨"java/util/Collection", "getClass", "()Ljava/lang/Class;"⟩ : MethodName) (⟨"java/lang/Object", "getClass", "()Ljava/lang/Class;"⟩ : MethodName)]
def lwT : List Cond := DS ++ lw_tbl
/-- all words of the tables that a callee may take over -/
def TT : List Cond := lwT.filter goodWord
theorem TT_good : ∀ w ∈ TT, (w.onTables && w.keeps) = true ∨ ∃ ty, w = .arrayClass ty := fun _ h => good_of_word (List.mem_filter.mp h).2
theorem TT_tbl : ∀ w ∈ TT, w ∈ lwT := fun _ h => (List.mem_filter.mp h).1
abbrev wT (y : MethodName) (cc : ByteArray) (maxL : Nat) (ret : Option FieldType) : List Cond := Cond.code y cc maxL ret :: TT
theorem gT {w0 : Cond} {us : List Cond} {y : MethodName} {cc : ByteArray} {maxL : Nat} {ret : Option FieldType} (h : ∀ w ∈ us, w ∈ TT) (hc : Cond.code y cc maxL ret ∈ TT) : GoodIn (w0 :: TT) (us ++ wT y cc maxL ret) := by
  intro w hw
  have h1 : w ∈ TT := by
    rcases List.mem_append.mp hw with h2 | h2
    · exact h w h2
    · rcases List.mem_cons.mp h2 with h3 | h3
      · rw [h3]; exact hc
      · exact h3
  exact ⟨List.mem_cons_of_mem _ h1, TT_good w h1⟩
/-- a class of ours: its number, name, fields, their types -/
def cb (ci : Nat) (C : String) (T : u_T) (ty : Nat → FieldType) (N : Nat) : Prop := vwCl[ci]? = some (C, T, N) ∧ (∀ w ∈ u_ws C T N, w ∈ TT) ∧ (∀ k, k < N → parseFieldDescriptor (T k).2.2.1 = some (ty k)) ∧ ∀ a, a < N → ∀ b, b < N → a ≠ b → (T a).2.1 ≠ (T b).2.1
/-- what holds all along a method's walk -/
def cx (G : gG) (p : Program) (s : State) (m : MethodId) (args : Array Value) (c : Code) (cc : ByteArray) (own : String) (nL : Nat) (A : Nat → Prop) : Prop :=
  p.tables.exec = Jvm.exec ∧ c.code = cc ∧ c.maxLocals = nL ∧ s.vm.findClass own = some m.cls ∧ (∀ w ∈ TT, w.before args s = true) ∧ GK G s ∧ (∀ q : Nat, s.heap.size ≤ q → A q) ∧ (∀ q, A q → G.2.2.1 ≤ q) ∧ GOK G
/-- the memory, at a point of the walk -/
def mm (G : gG) (A : Nat → Prop) (s : State) (M : Mem) (H : Heap) (locs : List Loc) : Prop := MP G M H ∧ (∀ q x, M q = some x → A q) ∧ va_S A s.heap H locs
/-- a method's end: its answer, and the memory behind it -/
def CQ (G : gG) (M' : Mem) (v : Option Value) (A : Nat → Prop) : Array Value → State → Outcome → State → Prop := fun _ st o t => o = .returned v ∧ (MP G M' t.heap ∧ GK G t ∧ ∀ q x, M' q = some x → A q) ∧ va_F A st t
/-- A CONTRACT: from the memory M, with the arguments av, the method returns v, and M' is the memory then -/
def CT (G : gG) (l : Launch) (y : MethodName) (ws : List Cond) (rm : Room) (av : List Value) (M : Mem) (v : Option Value) (M' : Mem) (mc ms : Nat) : Prop :=
  ∀ sz : Nat, Met l y ws rm (va_Pc av (fun U => U.heap.size = sz ∧ MP G M U.heap ∧ GK G U)) (CQ G M' v (AM M sz)) mc ms (AM M sz)
theorem CT_of {G : gG} (hG : GOK G) {l : Launch} {y : MethodName} {cc : ByteArray} {own : String} {maxL : Nat} {ret : Option FieldType} {rm : Room} {av : List Value} {M M' : Mem} {v : Option Value} {mc ms : Nat}
    (hy : plainName y.cls = true) (ho : y.cls = own) (hav : (lg_sl av).length ≤ maxL)
    (body : ∀ (p : Program) (e : Env) (s : State) (m : MethodId) (below : List Frame) (meth : Method) (c : Code) (A : Nat → Prop), cx G p s m av.toArray c cc own maxL A → meth.sig.returnType = ret → meth.locks = false → mm G A s M s.heap [] → ∀ ls : Array Slot, lv_has ls maxL (lv_args 0 av) →
      W p l e rm s m av.toArray below meth c s.heap [] 0 0 (MQ below (CQ G M' v A) av.toArray s mc ms A) (F0 m 0 ls [])) : CT G l y (wT y cc maxL ret) rm av M v M' mc ms := by
  intro sz
  refine Met.ofW (cc := cc) (maxL := maxL) (ret := ret) hy rfl ?_
  intro p e s m args below meth c s₁ B hml hv
  obtain ⟨rfl, hsz, hP, hK⟩ := hv
  have hts := atoms_spec (ws := wT y cc maxL ret) B.pre
  have hown : s.vm.findClass own = some m.cls := by rw [← ho]; exact findClass_of_methodNamed B.named
  subst hsz
  rw [lg_entry_eq]
  refine body p e s m below meth c (AM M s.heap.size) ⟨B.exec, B.bytes, hml, hown, fun w h => hts w (List.mem_cons_of_mem _ h), hK, fun q h => Or.inr h, fun q h => ?_, hG⟩ B.returns B.notSynchronized ⟨hP, fun q x h => Or.inl ⟨x, h⟩, va_S.rf⟩ _ (lv_entry av hav)
  rcases h with ⟨x, h⟩ | h
  · exact (hP q x h).2
  · exact Nat.le_trans hK.2.1 h
section MR
variable {G : gG} {p : Program} {l : Launch} {e : Env} {R : Room} {s : State} {m : MethodId} {args : Array Value} {below : List Frame} {meth : Method} {c : Code} {H : Heap} {locs : List Loc} {cells slots : Nat} {Q : State → Prop}
variable {cc : ByteArray} {pc nL : Nat} {ls : Array Slot} {rest : List Value} {A : Nat → Prop} {a : Nat} {own : String} {M M' : Mem} {ci N index : Nat} {C : String} {T : u_T} {ty : Nat → FieldType}
theorem mr_get (C0 : cx G p s m args c cc own nL A) (B : cb ci C T ty N) (hM : mm G A s M H locs) (k : Nat) (hk : k < N) (hl : Cond.fieldLink own index (T k).1 (T k).2.1 (T k).2.2.1 ∈ TT) {v : Value} (hv : gV ci k M a = some v) (hdg : decode cc pc = .ok (.getfield index, 3))
    (kk : W p l e R s m args below meth c H locs cells slots Q (F0 m (pc + 3) ls (v :: rest))) : W p l e R s m args below meth c H locs cells slots Q (F0 m pc ls (.ref a :: rest)) := by
  obtain ⟨fs, he, hf⟩ := gV_at hv
  exact va_get C0.1 C0.2.1 C0.2.2.2.2.1 B.2.1 C0.2.2.2.1 C0.2.2.2.2.2.1.1 (hM.1.one he) 0 rfl B.1 k hk (C0.2.2.2.2.1 _ hl) (fun _ h => h) hf hdg kk
theorem mr_getI (C0 : cx G p s m args c cc own nL A) (B : cb ci C T ty N) (hM : mm G A s M H locs) (k : Nat) (hk : k < N) (hl : Cond.fieldLink own index (T k).1 (T k).2.1 (T k).2.2.1 ∈ TT) {v : Int32} (hv : gI ci k M a = some v) (hdg : decode cc pc = .ok (.getfield index, 3))
    (kk : W p l e R s m args below meth c H locs cells slots Q (F0 m (pc + 3) ls (.int v :: rest))) : W p l e R s m args below meth c H locs cells slots Q (F0 m pc ls (.ref a :: rest)) := mr_get C0 B hM k hk hl (gI_at hv) hdg kk
theorem mr_getL (C0 : cx G p s m args c cc own nL A) (B : cb ci C T ty N) (hM : mm G A s M H locs) (k : Nat) (hk : k < N) (hl : Cond.fieldLink own index (T k).1 (T k).2.1 (T k).2.2.1 ∈ TT) {v : Int64} (hv : gL ci k M a = some v) (hdg : decode cc pc = .ok (.getfield index, 3))
    (kk : W p l e R s m args below meth c H locs cells slots Q (F0 m (pc + 3) ls (.long v :: rest))) : W p l e R s m args below meth c H locs cells slots Q (F0 m pc ls (.ref a :: rest)) := mr_get C0 B hM k hk hl (gL_at hv) hdg kk
theorem mr_getR (C0 : cx G p s m args c cc own nL A) (B : cb ci C T ty N) (hM : mm G A s M H locs) (k : Nat) (hk : k < N) (hl : Cond.fieldLink own index (T k).1 (T k).2.1 (T k).2.2.1 ∈ TT) {v : Nat} (hv : gR ci k M a = some v) (hdg : decode cc pc = .ok (.getfield index, 3))
    (kk : W p l e R s m args below meth c H locs cells slots Q (F0 m (pc + 3) ls (.ref v :: rest))) : W p l e R s m args below meth c H locs cells slots Q (F0 m pc ls (.ref a :: rest)) := mr_get C0 B hM k hk hl (gR_at hv) hdg kk
theorem mr_getN (C0 : cx G p s m args c cc own nL A) (B : cb ci C T ty N) (hM : mm G A s M H locs) (k : Nat) (hk : k < N) (hl : Cond.fieldLink own index (T k).1 (T k).2.1 (T k).2.2.1 ∈ TT) {v : Option Nat} (hv : gN ci k M a = some v) (hdg : decode cc pc = .ok (.getfield index, 3))
    (kk : W p l e R s m args below meth c H locs cells slots Q (F0 m (pc + 3) ls (va_rf v :: rest))) : W p l e R s m args below meth c H locs cells slots Q (F0 m pc ls (.ref a :: rest)) := mr_get C0 B hM k hk hl (gN_at hv) hdg kk
/-- a write of one cell -/
theorem mm.put {H1 : Heap} {x x' : mE} {j : Nat} (hM : mm G A s M H locs) (he : M a = some x) (hn : va_at G.1 vwCl (a, toE G.2.1 x') H1) (z : H1.size = H.size) (oq : ∀ q : Nat, q ≠ a → H1[q]? = H[q]?) : mm G A s (upM M a x') H1 (locs ++ [⟨a, j⟩]) :=
  ⟨hM.1.put he hn oq, upM_dom hM.2.1 he, hM.2.2.put z oq (hM.2.1 a x he)⟩
theorem mr_put (C0 : cx G p s m args c cc own nL A) (B : cb ci C T ty N) (hM : mm G A s M H locs) (k : Nat) (hk : k < N) (hfin : (T k).2.2.2 = false) (hl : Cond.fieldLink own index (T k).1 (T k).2.1 (T k).2.2.1 ∈ TT) {v : Value} (hn : narrow (ty k) v = v) (hfit : fits (ty k) v = true) (hv : sV ci k M a v = some M') (hdg : decode cc pc = .ok (.putfield index, 3))
    (kk : ∀ (H1 : Heap) (locs1 : List Loc), mm G A s M' H1 locs1 → W p l e R s m args below meth c H1 locs1 cells slots Q (F0 m (pc + 3) ls rest)) : W p l e R s m args below meth c H locs cells slots Q (F0 m pc ls (v :: .ref a :: rest)) := by
  obtain ⟨fs, he, hlen, rfl⟩ := sV_at hv
  have hK := C0.2.2.2.2.2.1.1
  have hts := C0.2.2.2.2.1
  have hown := C0.2.2.2.1
  have hap := va_apart (own := own) hts B.2.1 ty B.2.2.1 B.2.2.2 hK B.1
  obtain ⟨r, h1, cell, q1, q2, q3, q4⟩ := (hM.1 a _ he).1
  have hr : r = (C, T, N) := Option.some.inj (h1.symm.trans B.1)
  subst hr
  obtain ⟨hS, hfc, kC, hkC, hkind⟩ := hK.1 ci _ B.1
  obtain ⟨cf, kf, fi, f, hi, hsl⟩ := hS k hk
  have hlay := hts _ (B.2.1 _ (u_in_lay hk))
  unfold u_lay at hlay
  rw [if_neg (by rw [hfin]; decide)] at hlay
  have hst := (u_facts hfc hkC (u_lays hts B.2.1 hk) hi).1
  have h6 := u_store hfc hkC hkind hlay hi (B.2.2.1 k hk) hn hfit
  refine W.putK C0.1 C0.2.1 (f := f) ⟨hown, hts _ hl, ⟨_, _, _, hi⟩, hst⟩ (by rw [q2]; exact h6) q1 q3 (by rw [hsl]; exact k2_hasslot (q4 k hk)) rfl rfl hdg fun H' e1 e2 e3 => ?_
  rw [hsl] at e1 ⊢
  exact kk H' _ (hM.put he ⟨_, B.1, t_OB.to (V := updV (vp_V fs) k v) ⟨_, e1, q2, q3, t_set q4 hap hk v⟩ (fun j _ => vp_updV_set hlen v j)⟩ e2 e3)
theorem mr_putI (C0 : cx G p s m args c cc own nL A) (B : cb ci C T ty N) (hM : mm G A s M H locs) (k : Nat) (hk : k < N) (hfin : (T k).2.2.2 = false) (hty : ty k = .int) (hl : Cond.fieldLink own index (T k).1 (T k).2.1 (T k).2.2.1 ∈ TT) {v : Int32} (hv : sV ci k M a (.int v) = some M') (hdg : decode cc pc = .ok (.putfield index, 3))
    (kk : ∀ (H1 : Heap) (locs1 : List Loc), mm G A s M' H1 locs1 → W p l e R s m args below meth c H1 locs1 cells slots Q (F0 m (pc + 3) ls rest)) : W p l e R s m args below meth c H locs cells slots Q (F0 m pc ls (.int v :: .ref a :: rest)) := mr_put C0 B hM k hk hfin hl (by rw [hty]; rfl) (by rw [hty]; rfl) hv hdg kk
theorem mr_putL (C0 : cx G p s m args c cc own nL A) (B : cb ci C T ty N) (hM : mm G A s M H locs) (k : Nat) (hk : k < N) (hfin : (T k).2.2.2 = false) (hty : ty k = .long) (hl : Cond.fieldLink own index (T k).1 (T k).2.1 (T k).2.2.1 ∈ TT) {v : Int64} (hv : sV ci k M a (.long v) = some M') (hdg : decode cc pc = .ok (.putfield index, 3))
    (kk : ∀ (H1 : Heap) (locs1 : List Loc), mm G A s M' H1 locs1 → W p l e R s m args below meth c H1 locs1 cells slots Q (F0 m (pc + 3) ls rest)) : W p l e R s m args below meth c H locs cells slots Q (F0 m pc ls (.long v :: .ref a :: rest)) := mr_put C0 B hM k hk hfin hl (by rw [hty]; rfl) (by rw [hty]; rfl) hv hdg kk
theorem mr_putR (C0 : cx G p s m args c cc own nL A) (B : cb ci C T ty N) (hM : mm G A s M H locs) (k : Nat) (hk : k < N) (hfin : (T k).2.2.2 = false) {C1 : String} (hty : ty k = .object C1) (hl : Cond.fieldLink own index (T k).1 (T k).2.1 (T k).2.2.1 ∈ TT) {v : Nat} (hv : sV ci k M a (.ref v) = some M') (hdg : decode cc pc = .ok (.putfield index, 3))
    (kk : ∀ (H1 : Heap) (locs1 : List Loc), mm G A s M' H1 locs1 → W p l e R s m args below meth c H1 locs1 cells slots Q (F0 m (pc + 3) ls rest)) : W p l e R s m args below meth c H locs cells slots Q (F0 m pc ls (.ref v :: .ref a :: rest)) := mr_put C0 B hM k hk hfin hl (by rw [hty]; rfl) (by rw [hty]; rfl) hv hdg kk
theorem mr_putN (C0 : cx G p s m args c cc own nL A) (B : cb ci C T ty N) (hM : mm G A s M H locs) (k : Nat) (hk : k < N) (hfin : (T k).2.2.2 = false) {C1 : String} (hty : ty k = .object C1) (hl : Cond.fieldLink own index (T k).1 (T k).2.1 (T k).2.2.1 ∈ TT) {v : Option Nat} (hv : sV ci k M a (va_rf v) = some M') (hdg : decode cc pc = .ok (.putfield index, 3))
    (kk : ∀ (H1 : Heap) (locs1 : List Loc), mm G A s M' H1 locs1 → W p l e R s m args below meth c H1 locs1 cells slots Q (F0 m (pc + 3) ls rest)) : W p l e R s m args below meth c H locs cells slots Q (F0 m pc ls (va_rf v :: .ref a :: rest)) := mr_put C0 B hM k hk hfin hl (by rw [hty]; cases v <;> rfl) (by rw [hty]; cases v <;> rfl) hv hdg kk
theorem mr_putZ (C0 : cx G p s m args c cc own nL A) (B : cb ci C T ty N) (hM : mm G A s M H locs) (k : Nat) (hk : k < N) (hfin : (T k).2.2.2 = false) (hty : ty k = .boolean) (hl : Cond.fieldLink own index (T k).1 (T k).2.1 (T k).2.2.1 ∈ TT) {v : Int32} (hv : sZ ci k M a v = some M') (hdg : decode cc pc = .ok (.putfield index, 3))
    (kk : ∀ (H1 : Heap) (locs1 : List Loc), mm G A s M' H1 locs1 → W p l e R s m args below meth c H1 locs1 cells slots Q (F0 m (pc + 3) ls rest)) : W p l e R s m args below meth c H locs cells slots Q (F0 m pc ls (.int v :: .ref a :: rest)) := by
  obtain ⟨hz, hv⟩ := oG hv
  refine mr_put C0 B hM k hk hfin hl ?_ ?_ hv hdg kk
  · rw [hty]; rcases hz with rfl | rfl <;> rfl
  · rw [hty]; rcases hz with rfl | rfl <;> rfl
-- rows of numbers
theorem mr_iald (C0 : cx G p s m args c cc own nL A) (hM : mm G A s M H locs) {i v : Int32} (hv : aI 0 M a i = some v) (hdg : decode cc pc = .ok (.iaload, 1))
    (kk : W p l e R s m args below meth c H locs cells slots Q (F0 m (pc + 1) ls (.int v :: rest))) : W p l e R s m args below meth c H locs cells slots Q (F0 m pc ls (.int i :: .ref a :: rest)) := by
  obtain ⟨n, f, he, hin, rfl⟩ := aI_at hv
  exact va_iald C0.1 C0.2.1 C0.2.2.2.2.2.1.1 (hM.1.one he) 0 0 rfl rfl hin hdg kk
theorem mr_bald (C0 : cx G p s m args c cc own nL A) (hM : mm G A s M H locs) {i v : Int32} (hv : aI 1 M a i = some v) (hdg : decode cc pc = .ok (.baload, 1))
    (kk : W p l e R s m args below meth c H locs cells slots Q (F0 m (pc + 1) ls (.int v :: rest))) : W p l e R s m args below meth c H locs cells slots Q (F0 m pc ls (.int i :: .ref a :: rest)) := by
  obtain ⟨n, f, he, hin, rfl⟩ := aI_at hv
  exact va_bald C0.1 C0.2.1 C0.2.2.2.2.2.1.1 (hM.1.one he) 0 1 rfl rfl hin hdg kk
theorem mr_aald (C0 : cx G p s m args c cc own nL A) (hM : mm G A s M H locs) {i : Int32} {v : Nat} (hv : aR M a i = some v) (hdg : decode cc pc = .ok (.aaload, 1))
    (kk : W p l e R s m args below meth c H locs cells slots Q (F0 m (pc + 1) ls (.ref v :: rest))) : W p l e R s m args below meth c H locs cells slots Q (F0 m pc ls (.int i :: .ref a :: rest)) := by
  obtain ⟨n, f, he, hin, hf⟩ := aR_at hv
  refine va_aldq C0.1 C0.2.1 C0.2.2.2.2.2.1.1 (hM.1.one he) 0 4 rfl rfl hin hdg ?_
  rw [hf]
  exact kk
theorem mr_alen (C0 : cx G p s m args c cc own nL A) (hM : mm G A s M H locs) (kd : Nat) {ty1 : FieldType} (hkd : (tyAr G.2.1)[kd]? = some (G.2.1 kd, ty1)) {v : Int32} (hv : aN kd M a = some v) (hdg : decode cc pc = .ok (.arraylength, 1))
    (kk : W p l e R s m args below meth c H locs cells slots Q (F0 m (pc + 1) ls (.int v :: rest))) : W p l e R s m args below meth c H locs cells slots Q (F0 m pc ls (.ref a :: rest)) := by
  obtain ⟨x, he, hx⟩ := aN_at hv
  exact va_alen C0.1 C0.2.1 C0.2.2.2.2.2.1.1 (hM.1.one he) 0 kd rfl hkd hx hdg kk
theorem mr_iast (C0 : cx G p s m args c cc own nL A) (hM : mm G A s M H locs) {i x : Int32} (hv : aIs M a i x = some M') (hdg : decode cc pc = .ok (.iastore, 1))
    (kk : ∀ (H1 : Heap) (locs1 : List Loc), mm G A s M' H1 locs1 → W p l e R s m args below meth c H1 locs1 cells slots Q (F0 m (pc + 1) ls rest)) : W p l e R s m args below meth c H locs cells slots Q (F0 m pc ls (.int x :: .int i :: .ref a :: rest)) := by
  obtain ⟨n, f, he, hin, rfl⟩ := aIs_at hv
  have hK := C0.2.2.2.2.2.1.1
  refine W.iast C0.1 C0.2.1 (hM.1 a _ he).1 ((hK.2 0 _ rfl).1 n (fun j => .int (f j))) (fun q => by cases q) (by show ¬ (i < 0 ∨ (arrV _ _ _).slots.size ≤ _); rw [arrV_size]; exact hin) rfl rfl hdg fun H1 e z oq => ?_
  refine kk H1 _ (hM.put he ?_ z oq)
  show H1[a]? = some (vp_cell _ _)
  rw [e]
  show some ((vp_cell (G.2.1 0) (n, .inl f)).setSlot _ _) = some (vp_cell (G.2.1 0) (n, .inl _))
  rw [vp_cell_i, vp_cell_i, arrV_store]
  congr 2
  funext q
  by_cases hq : q = i.toNatClampNeg
  · subst hq
    simp [updV, upd]
  · simp [updV, upd, hq]
theorem mr_bast (C0 : cx G p s m args c cc own nL A) (hM : mm G A s M H locs) {i x : Int32} (hv : aBs M a i x = some M') (hdg : decode cc pc = .ok (.bastore, 1))
    (kk : ∀ (H1 : Heap) (locs1 : List Loc), mm G A s M' H1 locs1 → W p l e R s m args below meth c H1 locs1 cells slots Q (F0 m (pc + 1) ls rest)) : W p l e R s m args below meth c H locs cells slots Q (F0 m pc ls (.int x :: .int i :: .ref a :: rest)) := by
  obtain ⟨n, f, he, hin, rfl⟩ := aBs_at hv
  have hK := C0.2.2.2.2.2.1.1
  refine W.bast C0.1 C0.2.1 (hM.1 a _ he).1 ((hK.2 1 _ rfl).1 n (fun j => .int (f j))) (fun q => by cases q) (by show ¬ (i < 0 ∨ (arrV _ _ _).slots.size ≤ _); rw [arrV_size]; exact hin) rfl rfl hdg fun H1 e z oq => ?_
  refine kk H1 _ (hM.put he ?_ z oq)
  show H1[a]? = some (vp_cell _ _)
  rw [e]
  show some ((vp_cell (G.2.1 1) (n, .inl f)).setSlot _ _) = some (vp_cell (G.2.1 1) (n, .inl _))
  rw [vp_cell_i, vp_cell_i, arrV_store]
  congr 2
  funext q
  by_cases hq : q = i.toNatClampNeg
  · subst hq
    simp [updV, upd, vp_nar]
    rfl
  · simp [updV, upd, hq]
-- a method's end
theorem mr_q (C0 : cx G p s m args c cc own nL A) (hM : mm G A s M H locs) (hMM : M = M') {v v' : Option Value} (hv : v = v') (t : State) (ht : t.heap = H) (hW : s.WarmedH t.vm) : CQ G M' v' A args s (.returned v) t := by
  subst hMM; subst hv
  exact ⟨rfl, ⟨by rw [ht]; exact hM.1, C0.2.2.2.2.2.1.s C0.2.2.2.2.2.2.2.2 hW ht hM.2.2 C0.2.2.2.2.2.2.2.1, hM.2.1⟩, hM.2.2.F ht⟩
theorem mr_iret (C0 : cx G p s m args c cc own nL A) (hr : meth.sig.returnType = some .int) (hlk : meth.locks = false) (hM : mm G A s M H locs) (hMM : M = M') {v v' : Int32} (hv : v = v') {mc ms : Nat} (hc : cells ≤ mc) (hs : slots ≤ ms) (hdg : decode cc pc = .ok (.ireturn, 1)) : W p l e R s m args below meth c H locs cells slots (MQ below (CQ G M' (some (.int v')) A) args s mc ms A) (F0 m pc ls [.int v]) :=
  W.widen hc hs (W.iret C0.1 C0.2.1 hr (fun t ht hW => mr_q C0 hM hMM (by rw [hv]) t ht hW) hM.2.2.2.2 hdg hlk)
theorem mr_zret (C0 : cx G p s m args c cc own nL A) (hr : meth.sig.returnType = some .boolean) (hlk : meth.locks = false) (hM : mm G A s M H locs) (hMM : M = M') {v v' : Int32} (hz : v = 0 ∨ v = 1) (hv : v = v') {mc ms : Nat} (hc : cells ≤ mc) (hs : slots ≤ ms) (hdg : decode cc pc = .ok (.ireturn, 1)) : W p l e R s m args below meth c H locs cells slots (MQ below (CQ G M' (some (.int v')) A) args s mc ms A) (F0 m pc ls [.int v]) :=
  W.widen hc hs (W.zret C0.1 C0.2.1 hr (by rcases hz with rfl | rfl <;> rfl) (fun t ht hW => mr_q C0 hM hMM (by rw [hv]) t ht hW) hM.2.2.2.2 hdg hlk)
theorem mr_lret (C0 : cx G p s m args c cc own nL A) (hr : meth.sig.returnType = some .long) (hlk : meth.locks = false) (hM : mm G A s M H locs) (hMM : M = M') {v v' : Int64} (hv : v = v') {mc ms : Nat} (hc : cells ≤ mc) (hs : slots ≤ ms) (hdg : decode cc pc = .ok (.lreturn, 1)) : W p l e R s m args below meth c H locs cells slots (MQ below (CQ G M' (some (.long v')) A) args s mc ms A) (F0 m pc ls [.long v]) :=
  W.widen hc hs (W.lret C0.1 C0.2.1 hr (fun t ht hW => mr_q C0 hM hMM (by rw [hv]) t ht hW) hM.2.2.2.2 hdg hlk)
theorem mr_vret (C0 : cx G p s m args c cc own nL A) (hr : meth.sig.returnType = none) (hlk : meth.locks = false) (hM : mm G A s M H locs) (hMM : M = M') {mc ms : Nat} (hc : cells ≤ mc) (hs : slots ≤ ms) (hdg : decode cc pc = .ok (.return_, 1)) : W p l e R s m args below meth c H locs cells slots (MQ below (CQ G M' none A) args s mc ms A) (F0 m pc ls []) :=
  W.widen hc hs (W.vret C0.1 C0.2.1 hr (fun t ht hW => mr_q C0 hM hMM rfl t ht hW) hM.2.2.2.2 hdg hlk)
theorem mr_aret (C0 : cx G p s m args c cc own nL A) {C1 : String} (hr : meth.sig.returnType = some (.object C1)) (hlk : meth.locks = false) (hM : mm G A s M H locs) (hMM : M = M') {v v' : Option Nat} (hv : v = v') {mc ms : Nat} (hc : cells ≤ mc) (hs : slots ≤ ms) (hdg : decode cc pc = .ok (.areturn, 1)) : W p l e R s m args below meth c H locs cells slots (MQ below (CQ G M' (some (va_rf v')) A) args s mc ms A) (F0 m pc ls [va_rf v]) :=
  W.widen hc hs (W.aret C0.1 C0.2.1 hr (Or.inl ⟨_, rfl⟩) (by cases v with
    | none => exact Or.inl rfl
    | some q => exact Or.inr ⟨q, rfl⟩) (fun t ht hW => mr_q C0 hM hMM (by rw [hv]) t ht hW) hM.2.2.2.2 hdg hlk)
-- calls
theorem mm.blind {av : List Value} {M : Mem} {sz : Nat} (hG : GOK G) : FrameBlind (va_Pc av (fun U => U.heap.size = sz ∧ MP G M U.heap ∧ GK G U)) := by
  intro a U g mk h
  obtain ⟨h1, h2, h3, h4⟩ := h
  exact ⟨h1, h2, h3, h4.moved hG (u := U) (U := U.calling g mk a) (State.WarmedH.refl U) (fun _ _ => rfl) h4.2.1⟩
theorem mm.pre {av : List Value} (C0 : cx G p s m args c cc own nL A) (hM : mm G A s M H locs) : ∀ U : State, U.heap = H → s.WarmedH U.vm → va_Pc av (fun U => U.heap.size = H.size ∧ MP G M U.heap ∧ GK G U) av.toArray U := by
  intro U hU hW
  exact ⟨rfl, by rw [hU], by rw [hU]; exact hM.1, C0.2.2.2.2.2.1.s C0.2.2.2.2.2.2.2.2 hW hU hM.2.2 C0.2.2.2.2.2.2.2.1⟩
theorem mm.free (C0 : cx G p s m args c cc own nL A) (hM : mm G A s M H locs) : ∀ q, AM M H.size q → A q := by
  intro q h
  rcases h with ⟨x, h⟩ | h
  · exact hM.2.1 q x h
  · exact C0.2.2.2.2.2.2.1 q (Nat.le_trans hM.2.2.1 h)
/-- behind a call that came back -/
theorem mr_back {v : Option Value} {mc ms : Nat} {a0 : Array Value} {st0 : List Value} (C0 : cx G p s m args c cc own nL A) (hM : mm G A s M H locs) (hr : va_Run p l e R s m args below meth c H locs cells slots mc ms (F0 m pc ls st0) rest (CQ G M' v (AM M H.size) a0) (AM M H.size))
    (kk : ∀ (H1 : Heap) (locs1 : List Loc), mm G A s M' H1 locs1 → W p l e R s m args below meth c H1 locs1 (cells + mc) (slots + ms) Q (F0 m (pc + 3) ls (v.toList ++ rest))) : W p l e R s m args below meth c H locs cells slots Q (F0 m pc ls st0) := by
  have hF := hM.free C0
  intro T0 hT X
  obtain ⟨v1, st₀, t, T', L, h0, X', hL, e1, e2, ⟨hv, ⟨hP1, hK1, hA1⟩, hz, hk⟩, st⟩ := hr T0 hT X
  cases hv
  rw [h0] at hz hk
  have hS := hM.2.2
  obtain ⟨t2, a1, b1⟩ := kk T'.heap (locs ++ L) ⟨by rw [e1]; exact hP1, fun q x h => hF q (hA1 q x h), Nat.le_trans hS.1 (by rw [e1]; exact hz), fun q h1 h2 => by rw [e1, hk q (Nat.lt_of_lt_of_le h1 hS.1) (fun z => h2 (hF q z))]; exact hS.2.1 q h1 h2, fun q hq => by
      rcases List.mem_append.mp hq with h | h
      · exact hS.2.2 q h
      · exact hF _ (hL q h)⟩ T' rfl X'
  exact ⟨t2, st t2 a1, b1⟩
/-- the receiver -/
theorem mr_recv (C0 : cx G p s m args c cc own nL A) (B : cb ci C T ty N) (hM : mm G A s M H locs) (hi : isC ci M a = some ()) : ∃ cellB : Cell, H[a]? = some cellB ∧ cellB.vm.isStatics = false ∧ s.vm.findClass C = some cellB.cls := by
  obtain ⟨fs, he⟩ := isC_at hi
  exact va_recv C0.2.2.2.2.2.1.1 (hM.1.one he) B.1 (q0 := 0) rfl
/-- what a call wants: the room, the rest of the stack -/
abbrev rok (rm : Room) (maxL : Nat) (R : Room) (mc ms cells slots : Nat) : Prop := (rm.cells = mc ∧ rm.slots = ms) ∧ (rm.frames + 1 ≤ R.frames ∧ 8 + (maxL + 11) + rm.locals ≤ R.locals) ∧ cells + mc ≤ R.cells ∧ slots + ms ≤ R.slots
abbrev yok (y : MethodName) (n : Nat) : Prop := y.cls ≠ "java/lang/invoke/MethodHandle" ∧ y.cls ≠ "java/lang/invoke/VarHandle" ∧ (parseMethodDescriptor y.desc).map (fun d => d.parameters.length) = some n
variable {y : MethodName} {bytes : ByteArray} {maxL n mc ms : Nat} {ret : Option FieldType} {rm : Room} {As : List Value} {b : Nat}
theorem mr_runV {v : Option Value} (C0 : cx G p s m args c cc own nL A) (B : cb ci C T ty N) (hM : mm G A s M H locs) (hi : isC ci M b = some ()) (hC : y.cls = C) (hct : CT G l y (wT y bytes maxL ret) rm (.ref b :: As) M v M' mc ms) (w1 : Cond.methodLink own index y ∈ TT) (w2 : Cond.instanceMethod y ∈ TT) (w3 : Cond.selects C y y ∈ TT) (w4 : Cond.initialized C ∈ TT) (w5 : Cond.code y bytes maxL ret ∈ TT) (hy : yok y n) (hrm : rok rm maxL R mc ms cells slots) (hn : As.length = n) (hl : ls.size = nL) (hw : (rest.map fun v => v.category).sum ≤ 8) (hdg : decode cc pc = .ok (.invokevirtual index, 3)) :
    va_Run p l e R s m args below meth c H locs cells slots mc ms (F0 m pc ls (As.reverse ++ .ref b :: rest)) rest (CQ G M' v (AM M H.size) (Value.ref b :: As).toArray) (AM M H.size) := by
  have hts : ∀ w ∈ (Cond.instanceMethod y :: TT), w.before args s = true := fun w h => by
    rcases List.mem_cons.mp h with h | h
    · rw [h]; exact C0.2.2.2.2.1 _ w2
    · exact C0.2.2.2.2.1 w h
  exact va_runV (Ts := Cond.instanceMethod y :: TT) ⟨C0.1, C0.2.1, C0.2.2.1, C0.2.2.2.1, hts⟩ (hct H.size) (cwV n hts (gT (us := [.methodLink own index y, .instanceMethod y, .selects C y y, .initialized C]) (fun w h => by
      simp only [List.mem_cons, List.not_mem_nil, or_false] at h
      rcases h with rfl | rfl | rfl | rfl <;> assumption) w5) rfl hrm.1.1 hrm.1.2 ⟨hC, hy.1, hy.2.1, hy.2.2⟩ hrm.2.1) ⟨mm.blind C0.2.2.2.2.2.2.2.2, mr_recv C0 B hM hi, hM.pre C0⟩ rfl hn hl rfl (lv_room hw) hdg hrm.2.2
theorem mr_runS {v : Option Value} (C0 : cx G p s m args c cc own nL A) (hM : mm G A s M H locs) (hct : CT G l y (wT y bytes maxL ret) rm As M v M' mc ms) (w1 : Cond.methodLink own index y ∈ TT) (w2 : Cond.static y ∈ TT) (w4 : Cond.initialized y.cls ∈ TT) (w5 : Cond.code y bytes maxL ret ∈ TT) (hy : yok y n) (hrm : rok rm maxL R mc ms cells slots) (hn : As.length = n) (hl : ls.size = nL) (hw : (rest.map fun v => v.category).sum ≤ 8) (hdg : decode cc pc = .ok (.invokestatic index, 3)) :
    va_Run p l e R s m args below meth c H locs cells slots mc ms (F0 m pc ls (As.reverse ++ rest)) rest (CQ G M' v (AM M H.size) As.toArray) (AM M H.size) := by
  have hts : ∀ w ∈ (Cond.static y :: TT), w.before args s = true := fun w h => by
    rcases List.mem_cons.mp h with h | h
    · rw [h]; exact C0.2.2.2.2.1 _ w2
    · exact C0.2.2.2.2.1 w h
  exact va_runS (Ts := Cond.static y :: TT) ⟨C0.1, C0.2.1, C0.2.2.1, C0.2.2.2.1, hts⟩ (hct H.size) (va_cwS n hts (gT (us := [.methodLink own index y, .static y, .initialized y.cls]) (fun w h => by
      simp only [List.mem_cons, List.not_mem_nil, or_false] at h
      rcases h with rfl | rfl | rfl <;> assumption) w5) rfl hrm.1.1 hrm.1.2 hy hrm.2.1) ⟨mm.blind C0.2.2.2.2.2.2.2.2, hM.pre C0⟩ rfl hn hl rfl (lv_room hw) hdg hrm.2.2
/-- a static private method of a nest mate -/
theorem mr_runSN {v : Option Value} {host : String} (C0 : cx G p s m args c cc own nL A) (hM : mm G A s M H locs) (hct : CT G l y (wT y bytes maxL ret) rm As M v M' mc ms) (w1 : Cond.methodLinkNest own index y host ∈ NW) (w2 : Cond.static y ∈ TT) (w4 : Cond.initialized y.cls ∈ TT) (w5 : Cond.code y bytes maxL ret ∈ TT) (hy : yok y n) (hrm : rok rm maxL R mc ms cells slots) (hn : As.length = n) (hl : ls.size = nL) (hw : (rest.map fun v => v.category).sum ≤ 8) (hdg : decode cc pc = .ok (.invokestatic index, 3)) :
    va_Run p l e R s m args below meth c H locs cells slots mc ms (F0 m pc ls (As.reverse ++ rest)) rest (CQ G M' v (AM M H.size) As.toArray) (AM M H.size) := by
  have hts := C0.2.2.2.2.1
  exact va_runSN (Ts := TT) (host := host) ⟨C0.1, C0.2.1, C0.2.2.1, C0.2.2.2.1, hts⟩ (hct H.size) ⟨va_cnB n hts (fun w h => by
      have h1 : w ∈ TT := by
        rcases List.mem_cons.mp h with h3 | h3
        · rw [h3]; exact w5
        · exact h3
      exact ⟨h1, TT_good w h1⟩) rfl hrm.1.1 hrm.1.2 (C0.2.2.2.2.2.2.2.2.2 s C0.2.2.2.2.2.1.2.2 _ w1) (hts _ w4) hy hrm.2.1, hts _ w2, trivial⟩ ⟨mm.blind C0.2.2.2.2.2.2.2.2, hM.pre C0⟩ rfl hn hl rfl (lv_room hw) hdg hrm.2.2
/-- behind a call that makes nothing -/
theorem mr_b1 {x : Value} {a0 : Array Value} {st0 : List Value} (C0 : cx G p s m args c cc own nL A) (hM : mm G A s M H locs) (hr : va_Run p l e R s m args below meth c H locs cells slots 0 0 (F0 m pc ls st0) rest (CQ G M' (some x) (AM M H.size) a0) (AM M H.size))
    (kk : ∀ (H1 : Heap) (locs1 : List Loc), mm G A s M' H1 locs1 → W p l e R s m args below meth c H1 locs1 cells slots Q (F0 m (pc + 3) ls (x :: rest))) : W p l e R s m args below meth c H locs cells slots Q (F0 m pc ls st0) := mr_back C0 hM hr kk
theorem mr_b0 {a0 : Array Value} {st0 : List Value} (C0 : cx G p s m args c cc own nL A) (hM : mm G A s M H locs) (hr : va_Run p l e R s m args below meth c H locs cells slots 0 0 (F0 m pc ls st0) rest (CQ G M' none (AM M H.size) a0) (AM M H.size))
    (kk : ∀ (H1 : Heap) (locs1 : List Loc), mm G A s M' H1 locs1 → W p l e R s m args below meth c H1 locs1 cells slots Q (F0 m (pc + 3) ls rest)) : W p l e R s m args below meth c H locs cells slots Q (F0 m pc ls st0) := mr_back C0 hM hr kk
theorem mr_V1 {x : Value} {st0 : List Value} (C0 : cx G p s m args c cc own nL A) (B : cb ci C T ty N) (hM : mm G A s M H locs) (hi : isC ci M b = some ()) (hC : y.cls = C) (hct : CT G l y (wT y bytes maxL ret) rm (.ref b :: As) M (some x) M' 0 0) (w1 : Cond.methodLink own index y ∈ TT) (w2 : Cond.instanceMethod y ∈ TT) (w3 : Cond.selects C y y ∈ TT) (w4 : Cond.initialized C ∈ TT) (w5 : Cond.code y bytes maxL ret ∈ TT) (hy : yok y n) (hrm : rok rm maxL R 0 0 0 0) (hn : As.length = n) (hl : ls.size = nL) (hw : (rest.map fun v => v.category).sum ≤ 8) (hdg : decode cc pc = .ok (.invokevirtual index, 3)) (hst : As.reverse ++ .ref b :: rest = st0)
    (kk : ∀ (H1 : Heap) (locs1 : List Loc), mm G A s M' H1 locs1 → W p l e R s m args below meth c H1 locs1 0 0 Q (F0 m (pc + 3) ls (x :: rest))) : W p l e R s m args below meth c H locs 0 0 Q (F0 m pc ls st0) := by
  subst hst
  exact mr_b1 C0 hM (mr_runV C0 B hM hi hC hct w1 w2 w3 w4 w5 hy hrm hn hl hw hdg) kk
theorem mr_V0 {st0 : List Value} (C0 : cx G p s m args c cc own nL A) (B : cb ci C T ty N) (hM : mm G A s M H locs) (hi : isC ci M b = some ()) (hC : y.cls = C) (hct : CT G l y (wT y bytes maxL ret) rm (.ref b :: As) M none M' 0 0) (w1 : Cond.methodLink own index y ∈ TT) (w2 : Cond.instanceMethod y ∈ TT) (w3 : Cond.selects C y y ∈ TT) (w4 : Cond.initialized C ∈ TT) (w5 : Cond.code y bytes maxL ret ∈ TT) (hy : yok y n) (hrm : rok rm maxL R 0 0 0 0) (hn : As.length = n) (hl : ls.size = nL) (hw : (rest.map fun v => v.category).sum ≤ 8) (hdg : decode cc pc = .ok (.invokevirtual index, 3)) (hst : As.reverse ++ .ref b :: rest = st0)
    (kk : ∀ (H1 : Heap) (locs1 : List Loc), mm G A s M' H1 locs1 → W p l e R s m args below meth c H1 locs1 0 0 Q (F0 m (pc + 3) ls rest)) : W p l e R s m args below meth c H locs 0 0 Q (F0 m pc ls st0) := by
  subst hst
  exact mr_b0 C0 hM (mr_runV C0 B hM hi hC hct w1 w2 w3 w4 w5 hy hrm hn hl hw hdg) kk
theorem mr_S1 {x : Value} {st0 : List Value} (C0 : cx G p s m args c cc own nL A) (hM : mm G A s M H locs) (hct : CT G l y (wT y bytes maxL ret) rm As M (some x) M' 0 0) (w1 : Cond.methodLink own index y ∈ TT) (w2 : Cond.static y ∈ TT) (w4 : Cond.initialized y.cls ∈ TT) (w5 : Cond.code y bytes maxL ret ∈ TT) (hy : yok y n) (hrm : rok rm maxL R 0 0 0 0) (hn : As.length = n) (hl : ls.size = nL) (hw : (rest.map fun v => v.category).sum ≤ 8) (hdg : decode cc pc = .ok (.invokestatic index, 3)) (hst : As.reverse ++ rest = st0)
    (kk : ∀ (H1 : Heap) (locs1 : List Loc), mm G A s M' H1 locs1 → W p l e R s m args below meth c H1 locs1 0 0 Q (F0 m (pc + 3) ls (x :: rest))) : W p l e R s m args below meth c H locs 0 0 Q (F0 m pc ls st0) := by
  subst hst
  exact mr_b1 C0 hM (mr_runS C0 hM hct w1 w2 w4 w5 hy hrm hn hl hw hdg) kk
theorem mr_S0 {st0 : List Value} (C0 : cx G p s m args c cc own nL A) (hM : mm G A s M H locs) (hct : CT G l y (wT y bytes maxL ret) rm As M none M' 0 0) (w1 : Cond.methodLink own index y ∈ TT) (w2 : Cond.static y ∈ TT) (w4 : Cond.initialized y.cls ∈ TT) (w5 : Cond.code y bytes maxL ret ∈ TT) (hy : yok y n) (hrm : rok rm maxL R 0 0 0 0) (hn : As.length = n) (hl : ls.size = nL) (hw : (rest.map fun v => v.category).sum ≤ 8) (hdg : decode cc pc = .ok (.invokestatic index, 3)) (hst : As.reverse ++ rest = st0)
    (kk : ∀ (H1 : Heap) (locs1 : List Loc), mm G A s M' H1 locs1 → W p l e R s m args below meth c H1 locs1 0 0 Q (F0 m (pc + 3) ls rest)) : W p l e R s m args below meth c H locs 0 0 Q (F0 m pc ls st0) := by
  subst hst
  exact mr_b0 C0 hM (mr_runS C0 hM hct w1 w2 w4 w5 hy hrm hn hl hw hdg) kk
theorem mr_N1 {x : Value} {host : String} {st0 : List Value} (C0 : cx G p s m args c cc own nL A) (hM : mm G A s M H locs) (hct : CT G l y (wT y bytes maxL ret) rm As M (some x) M' 0 0) (w1 : Cond.methodLinkNest own index y host ∈ NW) (w2 : Cond.static y ∈ TT) (w4 : Cond.initialized y.cls ∈ TT) (w5 : Cond.code y bytes maxL ret ∈ TT) (hy : yok y n) (hrm : rok rm maxL R 0 0 0 0) (hn : As.length = n) (hl : ls.size = nL) (hw : (rest.map fun v => v.category).sum ≤ 8) (hdg : decode cc pc = .ok (.invokestatic index, 3)) (hst : As.reverse ++ rest = st0)
    (kk : ∀ (H1 : Heap) (locs1 : List Loc), mm G A s M' H1 locs1 → W p l e R s m args below meth c H1 locs1 0 0 Q (F0 m (pc + 3) ls (x :: rest))) : W p l e R s m args below meth c H locs 0 0 Q (F0 m pc ls st0) := by
  subst hst
  exact mr_b1 C0 hM (mr_runSN C0 hM hct w1 w2 w4 w5 hy hrm hn hl hw hdg) kk
theorem mr_N0 {host : String} {st0 : List Value} (C0 : cx G p s m args c cc own nL A) (hM : mm G A s M H locs) (hct : CT G l y (wT y bytes maxL ret) rm As M none M' 0 0) (w1 : Cond.methodLinkNest own index y host ∈ NW) (w2 : Cond.static y ∈ TT) (w4 : Cond.initialized y.cls ∈ TT) (w5 : Cond.code y bytes maxL ret ∈ TT) (hy : yok y n) (hrm : rok rm maxL R 0 0 0 0) (hn : As.length = n) (hl : ls.size = nL) (hw : (rest.map fun v => v.category).sum ≤ 8) (hdg : decode cc pc = .ok (.invokestatic index, 3)) (hst : As.reverse ++ rest = st0)
    (kk : ∀ (H1 : Heap) (locs1 : List Loc), mm G A s M' H1 locs1 → W p l e R s m args below meth c H1 locs1 0 0 Q (F0 m (pc + 3) ls rest)) : W p l e R s m args below meth c H locs 0 0 Q (F0 m pc ls st0) := by
  subst hst
  exact mr_b0 C0 hM (mr_runSN C0 hM hct w1 w2 w4 w5 hy hrm hn hl hw hdg) kk
/-- System.arraycopy between rows of ints -/
theorem mr_copy {a0 : Nat} {sp dp n : Int32} (C0 : cx G p s m args c cc own nL A) (hM : mm G A s M H locs) (hv : aCp M a0 sp a dp n = some M') (wl : Cond.methodLink own index arraycopyName ∈ TT) (wn : Cond.native arraycopyName ∈ TT) (ws : Cond.static arraycopyName ∈ TT) (wi : Cond.initialized "java/lang/System" ∈ TT) (hframes : 1 ≤ R.frames) (hlocals : (rest.map fun v => v.category).sum + (nativeFrameWords "java/lang/System" "arraycopy" 5 + 11) ≤ R.locals) (hl : ls.size = nL) (hdg : decode cc pc = .ok (.invokestatic index, 3))
    (kk : ∀ (H1 : Heap) (locs1 : List Loc), mm G A s M' H1 locs1 → W p l e R s m args below meth c H1 locs1 cells slots Q (F0 m (pc + 3) ls rest)) : W p l e R s m args below meth c H locs cells slots Q (F0 m pc ls (.int n :: .int dp :: .ref a :: .int sp :: .ref a0 :: rest)) := by
  obtain ⟨n0, f, n1, g, he0, he1, ⟨h1, h2, h3⟩, h4, h5, rfl⟩ := aCp_at hv
  have hts := C0.2.2.2.2.1
  have hK := C0.2.2.2.2.2.1.1
  have nn : ∀ z : Int32, ¬ z < 0 → z.toInt = (z.toNatClampNeg : Int) := by
    intro z hz
    have hz0 : (0 : Int) ≤ z.toInt := by
      have := Int32.not_lt.mp hz
      simpa using Int32.le_iff_toInt_le.mp this
    show z.toInt = ((z.toInt.toNat : Nat) : Int)
    omega
  intro T0 hT X
  have hc0 : H[a0]? = some (vp_cell (G.2.1 0) (n0, .inl f)) := (hM.1 a0 _ he0).1
  have hc1 : H[a]? = some (vp_cell (G.2.1 0) (n1, .inl g)) := (hM.1 a _ he1).1
  obtain ⟨-, k0, hk0, cm0, hkk0⟩ := (hK.2 0 _ rfl).1 n0 (fun j => .int (f j))
  obtain ⟨-, k1, hk1, cm1, hkk1⟩ := (hK.2 0 _ rfl).1 n1 (fun j => .int (g j))
  obtain ⟨vm', X', step⟩ := X.arraycopy C0.1 C0.2.2.2.1 (hts _ wl) (hts _ wn) (hts _ ws) (hts _ wi) (src := a0) (dst := a) (cs := vp_cell (G.2.1 0) (n0, .inl f)) (cd := vp_cell (G.2.1 0) (n1, .inl g)) (srcPos := sp) (destPos := dp) (n := n) (by rw [hT]; exact hc0) (by rw [hT]; exact hc1)
    (fun _ h => by cases h) (fun _ h => by cases h) (fun h => by cases h) (fun h => by cases h) hk0 hk1 hkk0 hkk1 (by simp [refKind]) h1 h2 h3
    (by rw [nn sp h1, nn n h3]; show ¬ _ > ((arrV (G.2.1 0) n0 (fun j => .int (f j))).slots.size : Int); rw [arrV_size]; omega)
    (by rw [nn dp h2, nn n h3]; show ¬ _ > ((arrV (G.2.1 0) n1 (fun j => .int (g j))).slots.size : Int); rw [arrV_size]; omega)
    (fun vm₁ _ i hi => by
      have e : (vp_cell (G.2.1 0) (n0, .inl f)).slots.getD (sp.toNatClampNeg + i) .null = .int (f (sp.toNatClampNeg + i)) := by
        show (arrV (G.2.1 0) n0 (fun j => .int (f j))).slots.getD _ _ = _
        rw [Array.getD_eq_getD_getElem?, arrV_read _ _ (by omega)]
        rfl
      refine ⟨?_, ?_⟩
      · rw [e]
        rfl
      · rw [e]
        exact trivial)
    (g := F0 m pc ls (.int n :: .int dp :: .ref a :: .int sp :: .ref a0 :: rest)) rfl (by rw [C0.2.2.1]; exact hl) (rest := rest) rfl (by rw [C0.2.1]; exact hdg) hframes (by show 2 * 0 + _ + _ ≤ _; omega)
  have e1 : copied (vp_cell (G.2.1 0) (n0, .inl f)) (vp_cell (G.2.1 0) (n1, .inl g)) sp dp n = vp_cell (G.2.1 0) (n1, .inl (va_cpy f g sp.toNatClampNeg dp.toNatClampNeg n.toNatClampNeg)) := va_copied (fun z => .int z) (G.2.1 0) (G.2.1 0) f g h4
  rw [e1] at X' step
  have hla : a < H.size := (Array.getElem?_eq_some_iff.mp hc1).1
  have hheap : ((T0.setVm vm').setCell a (vp_cell (G.2.1 0) (n1, .inl (va_cpy f g sp.toNatClampNeg dp.toNatClampNeg n.toNatClampNeg)))).heap = H.setIfInBounds a (vp_cell (G.2.1 0) (n1, .inl (va_cpy f g sp.toNatClampNeg dp.toNatClampNeg n.toNatClampNeg))) := by rw [← hT]; rfl
  have oq : ∀ q : Nat, q ≠ a → (H.setIfInBounds a (vp_cell (G.2.1 0) (n1, .inl (va_cpy f g sp.toNatClampNeg dp.toNatClampNeg n.toNatClampNeg))))[q]? = H[q]? := fun q hq => by simp [Array.getElem?_setIfInBounds, Ne.symm hq]
  have hAa := hM.2.1 a _ he1
  obtain ⟨t, a1, b1⟩ := kk _ _ ⟨hM.1.put he1 (show (H.setIfInBounds a _)[a]? = some (vp_cell (G.2.1 0) _) by simp [Array.getElem?_setIfInBounds, hla]) oq, upM_dom hM.2.1 he1, by simp; exact hM.2.2.1, fun q g1 g2 => by
      rw [oq q (fun e => g2 (by rw [e]; exact hAa))]
      exact hM.2.2.2.1 q g1 g2, fun q hq => by
      rcases List.mem_append.mp hq with h | h
      · exact hM.2.2.2.2 q h
      · obtain ⟨z, -, hz⟩ := List.mem_map.mp h
        rw [← hz]
        exact hAa⟩ _ hheap X'
  exact ⟨t, step t a1, b1⟩
end MR
