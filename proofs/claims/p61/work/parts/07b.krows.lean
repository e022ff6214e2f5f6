/-! ROWS over the view, and rows that make things -/
/-- what stood there before, as Y has it -/
def GR (G : gG) (Y : gY) : Prop := ∀ U : State, G.2.2.2 U → ∀ a x, Y.1 a = some x → rAt G.2.2.1 a x U
abbrev rmk (Y : gY) (f L z n : Nat) : Room := { frames := f, cells := Y.2.1.1 - z, slots := Y.2.1.2 - n, locals := L }
/-- the slots of what a heap has behind another one; the cells of the other keep theirs -/
def SZ (H0 H : Heap) (n : Nat) : Prop := ((H.toList.drop H0.size).map (fun c => c.slots.size)).sum ≤ n ∧ ∀ (a : Nat) (c : Cell), H0[a]? = some c → ∃ c' : Cell, H[a]? = some c' ∧ c'.slots.size = c.slots.size
/-- the memory, the heap's size and the slots used, at a point of the walk of a method that makes things; z0, n0: at its entry -/
def km (G : gG) (A : Nat → Prop) (s : State) (z0 n0 : Nat) (Y : gY) (K : gK) (H : Heap) (locs : List Loc) : Prop := mz G A s K.1 H locs K.2.1 ∧ s.heap.size = z0 ∧ K.2.1 ≤ Y.2.1.1 ∧ n0 ≤ K.2.2 ∧ K.2.2 ≤ Y.2.1.2
theorem km.z {G : gG} {A : Nat → Prop} {s : State} {z0 n0 : Nat} {Y : gY} {K : gK} {H : Heap} {locs : List Loc} (h : km G A s z0 n0 Y K H locs) : z0 ≤ K.2.1 := by
  have h1 := h.1.1.2.2.1
  rw [h.1.2, h.2.1] at h1
  exact h1
theorem km.w {G : gG} {A : Nat → Prop} {s : State} {z0 n0 : Nat} {Y : gY} {K : gK} {H H1 : Heap} {locs locs1 : List Loc} {M' : Mem} (h : km G A s z0 n0 Y K H locs) (h1 : mm G A s M' H1 locs1) (h2 : H1.size = H.size) : km G A s z0 n0 Y (M', K.2) H1 locs1 := ⟨⟨h1, h2.trans h.1.2⟩, h.2⟩
theorem km.room {G : gG} {A : Nat → Prop} {s : State} {z0 n0 f L : Nat} {Y : gY} {K : gK} {H : Heap} {locs : List Loc} (h : km G A s z0 n0 Y K H locs) : (K.2.1 - z0) + (Y.2.1.1 - K.2.1) ≤ (rmk Y f L z0 n0).cells ∧ (K.2.2 - n0) + (Y.2.1.2 - K.2.2) ≤ (rmk Y f L z0 n0).slots := by
  have h1 := h.z
  obtain ⟨-, -, h2, h3, h4⟩ := h
  show (K.2.1 - z0) + (Y.2.1.1 - K.2.1) ≤ Y.2.1.1 - z0 ∧ (K.2.2 - n0) + (Y.2.1.2 - K.2.2) ≤ Y.2.1.2 - n0
  omega
theorem km.room0 {G : gG} {A : Nat → Prop} {s : State} {z0 n0 f L : Nat} {Y : gY} {K : gK} {H : Heap} {locs : List Loc} (h : km G A s z0 n0 Y K H locs) : (K.2.1 - z0) + 0 ≤ (rmk Y f L z0 n0).cells ∧ (K.2.2 - n0) + 0 ≤ (rmk Y f L z0 n0).slots := by
  have h1 := h.z
  obtain ⟨-, -, h2, h3, h4⟩ := h
  show (K.2.1 - z0) + 0 ≤ Y.2.1.1 - z0 ∧ (K.2.2 - n0) + 0 ≤ Y.2.1.2 - n0
  omega
/-- the end of a method that makes things -/
def CAQ (G : gG) (Y : gY) (K : gK) (v : Option Value) (K' : gK) (A : Nat → Prop) : Array Value → State → Outcome → State → Prop := fun a st o t =>
  CQ G K'.1 v A a st o t ∧ t.heap.size = K'.2.1 ∧ (K.2.1 ≤ K'.2.1 ∧ K'.2.1 ≤ Y.2.1.1 ∧ K.2.2 ≤ K'.2.2 ∧ K'.2.2 ≤ Y.2.1.2) ∧ SZ st.heap t.heap (K'.2.2 - K.2.2)
/-- A CONTRACT of a method that makes things: from K (memory, next address, slots used) with the arguments av it returns v, and K' is then -/
def CA (G : gG) (l : Launch) (y : MethodName) (ws : List Cond) (f L : Nat) (Y : gY) (av : List Value) (K : gK) (v : Option Value) (K' : gK) : Prop := K.2.1 ≤ Y.2.1.1 → K.2.2 ≤ Y.2.1.2 →
  Met l y ws (rmk Y f L K.2.1 K.2.2) (va_Pc av (fun U => U.heap.size = K.2.1 ∧ MP G K.1 U.heap ∧ GK G U)) (CAQ G Y K v K' (AM K.1 K.2.1)) (Y.2.1.1 - K.2.1) (Y.2.1.2 - K.2.2) (AM K.1 K.2.1)
theorem CA_of {G : gG} (hG : GOK G) {l : Launch} {y : MethodName} {cc : ByteArray} {own : String} {maxL f L : Nat} {ret : Option FieldType} {Y : gY} {av : List Value} {K K' : gK} {v : Option Value}
    (hy : plainName y.cls = true) (ho : y.cls = own) (hav : (lg_sl av).length ≤ maxL)
    (body : ∀ (p : Program) (e : Env) (s : State) (m : MethodId) (below : List Frame) (meth : Method) (c : Code) (A : Nat → Prop), cx G p s m av.toArray c cc own maxL A → meth.sig.returnType = ret → meth.locks = false → meth.name = y.name → km G A s K.2.1 K.2.2 Y K s.heap [] → ∀ ls : Array Slot, lv_has ls maxL (lv_args 0 av) →
      W p l e (rmk Y f L K.2.1 K.2.2) s m av.toArray below meth c s.heap [] (K.2.1 - K.2.1) (K.2.2 - K.2.2) (MQ below (CAQ G Y K v K' A) av.toArray s (Y.2.1.1 - K.2.1) (Y.2.1.2 - K.2.2) A) (F0 m 0 ls [])) : CA G l y (wT y cc maxL ret) f L Y av K v K' := by
  intro hK1 hK2
  refine Met.ofW (cc := cc) (maxL := maxL) (ret := ret) hy rfl ?_
  intro p e s m args below meth c s₁ B hml hv
  obtain ⟨rfl, hsz, hP, hK⟩ := hv
  have hts := atoms_spec (ws := wT y cc maxL ret) B.pre
  have hown : s.vm.findClass own = some m.cls := by rw [← ho]; exact findClass_of_methodNamed B.named
  have hname := (name_of_methodNamed B.named B.method).1
  rw [lg_entry_eq]
  have hb := body p e s m below meth c (AM K.1 K.2.1) ⟨B.exec, B.bytes, hml, hown, fun w h => hts w (List.mem_cons_of_mem _ h), hK, fun q h => Or.inr (by rw [hsz] at h; exact h), fun q h => ?_, hG⟩ B.returns B.notSynchronized hname ⟨⟨⟨hP, fun q x h => Or.inl ⟨x, h⟩, va_S.rf⟩, hsz⟩, hsz, hK1, Nat.le_refl _, hK2⟩ _ (lv_entry av hav)
  · rw [Nat.sub_self, Nat.sub_self] at hb
    exact hb
  · rcases h with ⟨x, h⟩ | h
    · exact (hP q x h).2
    · have h9 := hK.2.1
      rw [hsz] at h9
      exact Nat.le_trans h9 h
section KR
variable {G : gG} {p : Program} {l : Launch} {e : Env} {R : Room} {s : State} {m : MethodId} {args : Array Value} {below : List Frame} {meth : Method} {c : Code} {H : Heap} {locs : List Loc} {cells slots : Nat} {Q : State → Prop}
variable {cc : ByteArray} {pc nL : Nat} {ls : Array Slot} {rest : List Value} {A : Nat → Prop} {a : Nat} {own : String} {M M' : Mem} {ci N index : Nat} {C : String} {T : u_T} {ty : Nat → FieldType} {Y : gY} {K K' : gK} {z0 n0 f L : Nat}
theorem kr_rAt {x : rE} (C0 : cx G p s m args c cc own nL A) (hR : GR G Y) (h : Y.1 a = some x) : rAt G.2.2.1 a x s := hR s C0.2.2.2.2.2.1.2.2 a x h
/-- what of the slots the walk knows -/
theorem W_know {g : JFrame} (h : SZ s.heap H slots → W p l e R s m args below meth c H locs cells slots Q g) : W p l e R s m args below meth c H locs cells slots Q g := by
  intro T0 hT X
  refine h ⟨?_, fun a c0 hc => ?_⟩ T0 hT X
  · have h1 := X.same.2.2.2.2.1
    rw [show (T0.setVm s.vm).heap = H from hT] at h1
    exact h1
  · obtain ⟨c', h1, -, h3, -⟩ := X.same.2.2.2.2.2 a c0 hc
    rw [show (T0.setVm s.vm).heap = H from hT] at h1
    exact ⟨c', h1, h3⟩
-- reading
theorem xr_get {ref : String} (C0 : cx G p s m args c cc own nL A) (hR : GR G Y) (B : cb ci C T ty N) (hM : mm G A s M H locs) (k : Nat) (hk : k < N) (hl : Cond.fieldLink own index ref (T k).2.1 (T k).2.2.1 ∈ TT) (hsame : ∀ x, s.fieldFound? (T k).1 (T k).2.1 (T k).2.2.1 = some x → s.fieldFound? ref (T k).2.1 (T k).2.2.1 = some x) {v : Value} (hv : xV ci k Y.1 M a = some v) (hdg : decode cc pc = .ok (.getfield index, 3))
    (kk : W p l e R s m args below meth c H locs cells slots Q (F0 m (pc + 3) ls (v :: rest))) : W p l e R s m args below meth c H locs cells slots Q (F0 m pc ls (.ref a :: rest)) := by
  rcases xV_at hv with hv | ⟨F, hF, hFk⟩
  · obtain ⟨fs, he, hf⟩ := gV_at hv
    exact va_get C0.1 C0.2.1 C0.2.2.2.2.1 B.2.1 C0.2.2.2.1 C0.2.2.2.2.2.1.1 (hM.1.one he) 0 rfl B.1 k hk (C0.2.2.2.2.1 _ hl) hsame hf hdg kk
  · obtain ⟨r, hr, -, h3⟩ := kr_rAt C0 hR hF
    have hr2 : r = (C, T, N) := Option.some.inj (hr.symm.trans B.1)
    subst hr2
    exact vk_getf C0.1 C0.2.1 ((h3 k v hFk).narrow C0.2.2.2.2.2.2.2.1) hM.2.2 C0.2.2.2.1 (C0.2.2.2.2.1 _ hl) hsame hdg kk
theorem xr_gets {ref : String} (C0 : cx G p s m args c cc own nL A) (B : cb ci C T ty N) (hM : mm G A s M H locs) (k : Nat) (hk : k < N) (hl : Cond.fieldLink own index ref (T k).2.1 (T k).2.2.1 ∈ TT) (hsame : ∀ x, s.fieldFound? (T k).1 (T k).2.1 (T k).2.2.1 = some x → s.fieldFound? ref (T k).2.1 (T k).2.2.1 = some x) {v : Value} (hv : gV ci k M a = some v) (hdg : decode cc pc = .ok (.getfield index, 3))
    (kk : W p l e R s m args below meth c H locs cells slots Q (F0 m (pc + 3) ls (v :: rest))) : W p l e R s m args below meth c H locs cells slots Q (F0 m pc ls (.ref a :: rest)) := by
  obtain ⟨fs, he, hf⟩ := gV_at hv
  exact va_get C0.1 C0.2.1 C0.2.2.2.2.1 B.2.1 C0.2.2.2.1 C0.2.2.2.2.2.1.1 (hM.1.one he) 0 rfl B.1 k hk (C0.2.2.2.2.1 _ hl) hsame hf hdg kk
/-- a nest mate's private field -/
theorem xr_getn {host : String} (C0 : cx G p s m args c cc own nL A) (B : cb ci C T ty N) (hM : mm G A s M H locs) (k : Nat) (hk : k < N) (hl : Cond.fieldLinkNest own index (T k).1 (T k).2.1 (T k).2.2.1 host ∈ NW) {v : Value} (hv : gV ci k M a = some v) (hdg : decode cc pc = .ok (.getfield index, 3))
    (kk : W p l e R s m args below meth c H locs cells slots Q (F0 m (pc + 3) ls (v :: rest))) : W p l e R s m args below meth c H locs cells slots Q (F0 m pc ls (.ref a :: rest)) := by
  obtain ⟨fs, he, hf⟩ := gV_at hv
  exact va_getN C0.1 C0.2.1 C0.2.2.2.2.1 B.2.1 C0.2.2.2.1 C0.2.2.2.2.2.1.1 (hM.1.one he) 0 rfl B.1 k hk (va_Nw.use rfl (C0.2.2.2.2.2.2.2.2.2 s C0.2.2.2.2.2.1.2.2 _ hl)) (fun _ h => h) hf hdg kk
theorem xr_iald (C0 : cx G p s m args c cc own nL A) (hR : GR G Y) (hM : mm G A s M H locs) {i v : Int32} (hv : xa 0 Y.1 M a i = some v) (hdg : decode cc pc = .ok (.iaload, 1))
    (kk : W p l e R s m args below meth c H locs cells slots Q (F0 m (pc + 1) ls (.int v :: rest))) : W p l e R s m args below meth c H locs cells slots Q (F0 m pc ls (.int i :: .ref a :: rest)) := by
  rcases xa_at hv with hv | ⟨n, g, hg, hin, rfl⟩
  · exact mr_iald C0 hM hv hdg kk
  · exact va_ti C0.1 C0.2.1 (va_T.narrow (kr_rAt C0 hR hg : va_T .int a n (fun j => .int (g j)) _ s s.heap) C0.2.2.2.2.2.2.2.1) hM.2.2 hin rfl hdg kk
theorem xr_bald (C0 : cx G p s m args c cc own nL A) (hR : GR G Y) (hM : mm G A s M H locs) {i v : Int32} (hv : xa 1 Y.1 M a i = some v) (hdg : decode cc pc = .ok (.baload, 1))
    (kk : W p l e R s m args below meth c H locs cells slots Q (F0 m (pc + 1) ls (.int v :: rest))) : W p l e R s m args below meth c H locs cells slots Q (F0 m pc ls (.int i :: .ref a :: rest)) := by
  rcases xa_at hv with hv | ⟨n, g, hg, hin, rfl⟩
  · exact mr_bald C0 hM hv hdg kk
  · exact va_tb C0.1 C0.2.1 (va_T.narrow (kr_rAt C0 hR hg : va_T .byte a n (fun j => .int (g j)) _ s s.heap) C0.2.2.2.2.2.2.2.1) hM.2.2 hin rfl hdg kk
end KR
