/-! ROWS that make things, ends, what is behind a call -/
theorem sz_sum (f : Cell → Nat) : ∀ (l l1 : List Cell) (z : Nat), l.length ≤ l1.length → (∀ (a : Nat) (c : Cell), l[a]? = some c → ∃ c' : Cell, l1[a]? = some c' ∧ f c' = f c) → z ≤ l.length → ((l1.drop z).map f).sum = ((l.drop z).map f).sum + ((l1.drop l.length).map f).sum := by
  intro l
  induction l with
  | nil => intro l1 z h1 h2 hz; simp only [List.length_nil, Nat.le_zero] at hz; subst hz; simp
  | cons x l ih =>
    intro l1 z h1 h2 hz
    cases l1 with
    | nil => simp at h1
    | cons y l1 =>
      have hy : f y = f x := by
        obtain ⟨c', e1, e2⟩ := h2 0 x rfl
        cases e1
        exact e2
      have h3 : ∀ (a : Nat) (c : Cell), l[a]? = some c → ∃ c' : Cell, l1[a]? = some c' ∧ f c' = f c := fun a c hc => by
        obtain ⟨c', e1, e2⟩ := h2 (a + 1) c (by simpa using hc)
        exact ⟨c', by simpa using e1, e2⟩
      have h4 : l.length ≤ l1.length := by simpa using h1
      cases z with
      | zero =>
        have := ih l1 0 h4 h3 (Nat.zero_le _)
        simp only [List.drop_zero] at this
        simp only [List.drop_zero, List.map_cons, List.sum_cons, List.length_cons, List.drop_succ_cons, hy, this]
        omega
      | succ z =>
        have := ih l1 z h4 h3 (by simpa using hz)
        simp only [List.drop_succ_cons, List.length_cons]
        exact this
section KS
variable {G : gG} {p : Program} {l : Launch} {e : Env} {R : Room} {s : State} {m : MethodId} {args : Array Value} {below : List Frame} {meth : Method} {c : Code} {H : Heap} {locs : List Loc} {cells slots : Nat} {Q : State → Prop}
variable {cc : ByteArray} {pc nL : Nat} {ls : Array Slot} {rest : List Value} {A : Nat → Prop} {a : Nat} {own : String} {M M' : Mem} {ci N index : Nat} {C : String} {T : u_T} {ty : Nat → FieldType} {Y : gY} {K K' : gK} {z0 n0 f L : Nat}
theorem km.mk {x : mE} {n : Nat} {H1 : Heap} (h : km G A s z0 n0 Y K H locs) (g : gd Y K n) (h1 : mz G A s (upM K.1 K.2.1 x) H1 locs (K.2.1 + 1)) : km G A s z0 n0 Y (nw K x n) H1 locs := by
  obtain ⟨-, h2, h3, h4, h5⟩ := h
  exact ⟨h1, h2, g.1, Nat.le_trans h4 (Nat.le_add_right _ _), g.2⟩
theorem km.up {n : Nat} {x : mE} (h : km G A s z0 n0 Y K H locs) : K.2.1 - z0 + 1 = (nw K x n).2.1 - z0 ∧ K.2.2 - n0 + n = (nw K x n).2.2 - n0 := by
  have h1 := h.z
  obtain ⟨-, -, h2, h3, h4⟩ := h
  show K.2.1 - z0 + 1 = K.2.1 + 1 - z0 ∧ K.2.2 - n0 + n = K.2.2 + n - n0
  omega
theorem km.fit {n : Nat} (h : km G A s z0 n0 Y K H locs) (g : gd Y K n) : K.2.1 - z0 + 1 ≤ (rmk Y f L z0 n0).cells ∧ K.2.2 - n0 + n ≤ (rmk Y f L z0 n0).slots := by
  have h1 := h.z
  obtain ⟨-, -, h2, h3, h4⟩ := h
  obtain ⟨g1, g2⟩ := g
  show K.2.1 - z0 + 1 ≤ Y.2.1.1 - z0 ∧ K.2.2 - n0 + n ≤ Y.2.1.2 - n0
  omega
/-- a new object -/
theorem kn_new (C0 : cx G p s m args c cc own nL A) (hN : km G A s z0 n0 Y K H locs) (B : cb ci C T ty N) (hcl : Cond.classLink own index C ∈ TT) (hinst : Cond.instantiable C N ∈ TT) (hini : Cond.initialized C ∈ TT) {fs : List Value} (hfs : ∀ j, j < N → defaultValue (ty j) = vp_V fs j) (g : gd Y K N) (hdg : decode cc pc = .ok (.new index, 3))
    (kk : ∀ H1 : Heap, km G A s z0 n0 Y (nw K (.inr (ci, fs)) N) H1 locs → W p l e (rmk Y f L z0 n0) s m args below meth c H1 locs ((nw K (.inr (ci, fs)) N).2.1 - z0) ((nw K (.inr (ci, fs)) N).2.2 - n0) Q (F0 m (pc + 3) ls (.ref K.2.1 :: rest))) : W p l e (rmk Y f L z0 n0) s m args below meth c H locs (K.2.1 - z0) (K.2.2 - n0) Q (F0 m pc ls rest) := by
  refine mn_new C0 hN.1 B hcl hinst hini hfs (hN.fit g).1 (hN.fit g).2 hdg (fun H1 h => ?_)
  rw [(hN.up (x := .inr (ci, fs)) (n := N)).1, (hN.up (x := .inr (ci, fs)) (n := N)).2]
  exact kk H1 (hN.mk g h)
/-- a new row of ints or of bytes, of any length -/
theorem kn_newa {atype : ArrayType} {t : FieldType} (C0 : cx G p s m args c cc own nL A) (hN : km G A s z0 n0 Y K H locs) (harr : Cond.arrayClass t ∈ TT) (hty : newarray.typeOf atype = t) (kd : Nat) (htk : (tyAr G.2.1)[kd]? = some (G.2.1 kd, t)) (hp : ∀ cA : ClassId, va_RA s cA t = (s.vm.findClass ("[" ++ t.toString) = some cA)) (hd : defaultValue t = .int 0) (hcb : componentBytes t ≤ 4) {n : Int32} (g : gn Y K n) (hdg : decode cc pc = .ok (.newarray atype, 2))
    (kk : ∀ H1 : Heap, km G A s z0 n0 Y (nw K (.inl (kd, n.toNatClampNeg, .inl (fun _ => 0))) n.toNatClampNeg) H1 locs → W p l e (rmk Y f L z0 n0) s m args below meth c H1 locs ((nw K (.inl (kd, n.toNatClampNeg, .inl (fun _ => 0))) n.toNatClampNeg).2.1 - z0) ((nw K (.inl (kd, n.toNatClampNeg, .inl (fun _ => 0))) n.toNatClampNeg).2.2 - n0) Q (F0 m (pc + 2) ls (.ref K.2.1 :: rest))) : W p l e (rmk Y f L z0 n0) s m args below meth c H locs (K.2.1 - z0) (K.2.2 - n0) Q (F0 m pc ls (.int n :: rest)) := by
  refine mn_newa C0 hN.1 harr hty kd htk hp n.toNatClampNeg (n.toNatClampNeg, .inl (fun _ => 0)) (fun cA => by rw [hd]; rfl) g.1.1 rfl ?_ (hN.fit g.2).1 (hN.fit g.2).2 hdg (fun H1 h => ?_)
  · have h1 := g.1.2
    have h2 : n.toNatClampNeg * componentBytes t ≤ 134217728 * 4 := Nat.mul_le_mul h1 hcb
    exact h2
  · rw [(hN.up (x := .inl (kd, n.toNatClampNeg, .inl (fun _ => 0))) (n := n.toNatClampNeg)).1, (hN.up (x := .inl (kd, n.toNatClampNeg, .inl (fun _ => 0))) (n := n.toNatClampNeg)).2]
    exact kk H1 (hN.mk g.2 h)
/-- a new row of Objects, of any length -/
theorem kn_newo (C0 : cx G p s m args c cc own nL A) (hN : km G A s z0 n0 Y K H locs) (hcl : Cond.classLink own index "java/lang/Object" ∈ TT) (hov : va_AO "java/lang/Object" s) {n : Int32} (g : gn Y K n) (hdg : decode cc pc = .ok (.anewarray index, 3))
    (kk : ∀ H1 : Heap, km G A s z0 n0 Y (nw K (.inl (5, n.toNatClampNeg, .inr (.inr (.inr (.inr (fun _ => none)))))) n.toNatClampNeg) H1 locs → W p l e (rmk Y f L z0 n0) s m args below meth c H1 locs ((nw K (.inl (5, n.toNatClampNeg, .inr (.inr (.inr (.inr (fun _ => none)))))) n.toNatClampNeg).2.1 - z0) ((nw K (.inl (5, n.toNatClampNeg, .inr (.inr (.inr (.inr (fun _ => none)))))) n.toNatClampNeg).2.2 - n0) Q (F0 m (pc + 3) ls (.ref K.2.1 :: rest))) : W p l e (rmk Y f L z0 n0) s m args below meth c H locs (K.2.1 - z0) (K.2.2 - n0) Q (F0 m pc ls (.int n :: rest)) := by
  refine W.anew C0.1 C0.2.1 C0.2.2.2.1 (C0.2.2.2.2.1 _ hcl) (va_AO.use hov) rfl hdg rfl g.1.1 ?_ (hN.fit g.2).1 (hN.fit g.2).2 fun cA kA comp f1 f2 f3 f4 => ?_
  · have h1 := g.1.2
    omega
  · generalize hH1 : H.push ({ cls := cA, slots := Array.replicate n.toNatClampNeg .null, vm := .none } : Cell) = H1
    have hz : H.size = K.2.1 := hN.1.2
    have z1 : H1.size = K.2.1 + 1 := by rw [← hH1, Array.size_push, hz]
    have e1 : H1[K.2.1]? = some (arrV cA n.toNatClampNeg (fun _ => .null)) := by rw [← hH1, ← hz, Array.getElem?_push_size, ← arrV_new]
    have o1 : ∀ q : Nat, q < K.2.1 → H1[q]? = H[q]? := fun q hq => by rw [← hH1, Array.getElem?_push, if_neg (by rw [hz]; exact Nat.ne_of_lt hq)]
    have hcA : cA = G.2.1 5 := by
      obtain ⟨kA9, comp9, -, -, -, h9⟩ := (C0.2.2.2.2.2.1.1.2 5 _ (rfl : (tyAr G.2.1)[5]? = some (G.2.1 5, .object "java/lang/Object"))).2
      exact Option.some.inj (f1.symm.trans h9)
    subst hcA
    rw [(hN.up (x := .inl (5, n.toNatClampNeg, .inr (.inr (.inr (.inr (fun _ => none)))))) (n := n.toNatClampNeg)).1, (hN.up (x := .inl (5, n.toNatClampNeg, .inr (.inr (.inr (.inr (fun _ => none)))))) (n := n.toNatClampNeg)).2, hz]
    exact kk H1 (hN.mk g.2 (mz_new C0 hN.1 e1 z1 o1))
/-- a method's end -/
theorem kr_q {v : Option Value} {K0 : gK} (C0 : cx G p s m args c cc own nL A) (hz0 : s.heap.size = K0.2.1) (hN : km G A s K0.2.1 K0.2.2 Y K H locs) (hS : SZ s.heap H (K.2.2 - K0.2.2)) (t : State) (ht : t.heap = H) (hW : s.WarmedH t.vm) : CAQ G Y K0 v K A args s (.returned v) t := by
  refine ⟨mr_q C0 hN.1.1 rfl rfl t ht hW, by rw [ht]; exact hN.1.2, ⟨hN.z, hN.2.2⟩, by rw [ht]; exact hS⟩
theorem kr_iret {K0 : gK} (C0 : cx G p s m args c cc own nL A) (hr : meth.sig.returnType = some .int) (hlk : meth.locks = false) (hN : km G A s K0.2.1 K0.2.2 Y K H locs) (hKK : K = K') {v v' : Int32} (hv : v = v') (hdg : decode cc pc = .ok (.ireturn, 1)) : W p l e R s m args below meth c H locs (K.2.1 - K0.2.1) (K.2.2 - K0.2.2) (MQ below (CAQ G Y K0 (some (.int v')) K' A) args s (Y.2.1.1 - K0.2.1) (Y.2.1.2 - K0.2.2) A) (F0 m pc ls [.int v]) := by
  subst hKK; subst hv
  refine W_know fun hS => ?_
  refine W.widen ?_ ?_ (W.iret C0.1 C0.2.1 hr (fun t ht hW => kr_q C0 hN.2.1 hN hS t ht hW) hN.1.1.2.2.2.2 hdg hlk)
  · have := hN.2.2.1
    omega
  · have := hN.2.2.2.2
    omega
theorem kr_vret {K0 : gK} (C0 : cx G p s m args c cc own nL A) (hr : meth.sig.returnType = none) (hlk : meth.locks = false) (hN : km G A s K0.2.1 K0.2.2 Y K H locs) (hKK : K = K') (hdg : decode cc pc = .ok (.return_, 1)) : W p l e R s m args below meth c H locs (K.2.1 - K0.2.1) (K.2.2 - K0.2.2) (MQ below (CAQ G Y K0 none K' A) args s (Y.2.1.1 - K0.2.1) (Y.2.1.2 - K0.2.2) A) (F0 m pc ls []) := by
  subst hKK
  refine W_know fun hS => ?_
  refine W.widen ?_ ?_ (W.vret C0.1 C0.2.1 hr (fun t ht hW => kr_q C0 hN.2.1 hN hS t ht hW) hN.1.1.2.2.2.2 hdg hlk)
  · have := hN.2.2.1
    omega
  · have := hN.2.2.2.2
    omega
theorem kr_aret {K0 : gK} {rt : FieldType} (C0 : cx G p s m args c cc own nL A) (hr : meth.sig.returnType = some rt) (hrt : (∃ n, rt = .object n) ∨ ∃ t, rt = .array t) (hlk : meth.locks = false) (hN : km G A s K0.2.1 K0.2.2 Y K H locs) (hKK : K = K') {v v' : Nat} (hv : v = v') (hdg : decode cc pc = .ok (.areturn, 1)) : W p l e R s m args below meth c H locs (K.2.1 - K0.2.1) (K.2.2 - K0.2.2) (MQ below (CAQ G Y K0 (some (.ref v')) K' A) args s (Y.2.1.1 - K0.2.1) (Y.2.1.2 - K0.2.2) A) (F0 m pc ls [.ref v]) := by
  subst hKK; subst hv
  refine W_know fun hS => ?_
  refine W.widen ?_ ?_ (W.aret C0.1 C0.2.1 hr hrt (Or.inr ⟨v, rfl⟩) (fun t ht hW => kr_q C0 hN.2.1 hN hS t ht hW) hN.1.1.2.2.2.2 hdg hlk)
  · have := hN.2.2.1
    omega
  · have := hN.2.2.2.2
    omega
/-- behind a call of a method that makes things -/
theorem kb_A {v : Option Value} {d : Nat} {a0 : Array Value} {st0 : List Value} (C0 : cx G p s m args c cc own nL A) (hN : km G A s z0 n0 Y K H locs)
    (hr : ∀ T0 : State, T0.heap = H → Stand p l e (rmk Y f L z0 n0) s m args below meth c T0 locs (K.2.1 - z0) (K.2.2 - n0) → ∃ (v1 : Option Value) (st₀ t T' : State) (L1 : List Loc), st₀.heap = H ∧ Stand p l e (rmk Y f L z0 n0) s m args below meth c T' (locs ++ L1) ((K.2.1 - z0) + (Y.2.1.1 - K.2.1)) ((K.2.2 - n0) + (Y.2.1.2 - K.2.2)) ∧ (∀ q ∈ L1, AM K.1 K.2.1 q.base) ∧ T'.heap = t.heap ∧ T'.vm = t.vm ∧ CAQ G Y K v K' (AM K.1 K.2.1) a0 st₀ (.returned v1) t ∧ Goes p e below T0 (F0 m pc ls st0) T' { (F0 m pc ls st0) with pc := pc + d, stack := v1.toList ++ rest })
    (kk : ∀ (H1 : Heap) (locs1 : List Loc), km G A s z0 n0 Y K' H1 locs1 → W p l e (rmk Y f L z0 n0) s m args below meth c H1 locs1 (K'.2.1 - z0) (K'.2.2 - n0) Q (F0 m (pc + d) ls (v.toList ++ rest))) : W p l e (rmk Y f L z0 n0) s m args below meth c H locs (K.2.1 - z0) (K.2.2 - n0) Q (F0 m pc ls st0) := by
  intro T0 hT X
  obtain ⟨v1, st₀, t, T', L1, h0, X', hL, e1, e2, ⟨⟨hv, ⟨hP1, hK1, hA1⟩, hz, hk⟩, hsz, hb, hS⟩, st⟩ := hr T0 hT X
  cases hv
  rw [h0] at hz hk hS
  have hHz : H.size = K.2.1 := hN.1.2
  have hM := hN.1.1
  have hF : ∀ q, AM K.1 K.2.1 q → A q := by rw [← hHz]; exact hM.free C0
  have hSS := hM.2.2
  have hz0 := hN.z
  have hs0 : s.heap.size = z0 := hN.2.1
  have hT1 : (T'.setVm s.vm).heap = t.heap := e1
  have hsum : ((t.heap.toList.drop z0).map (fun c => c.slots.size)).sum ≤ K'.2.2 - n0 := by
    have h1 := X.same.2.2.2.2.1
    rw [show (T0.setVm s.vm).heap = H from hT, hs0] at h1
    have h2 := sz_sum (fun c => c.slots.size) H.toList t.heap.toList z0 (by simpa using hz) (fun a c hc => by
      obtain ⟨c', g1, g2⟩ := hS.2 a c (by simpa using hc)
      exact ⟨c', by simpa using g1, g2⟩) (by simp [hHz, hz0])
    have h3 := hS.1
    rw [h2]
    have h4 : H.toList.length = H.size := by simp
    rw [h4]
    have := hN.2.2.2.1
    omega
  have X'' : Stand p l e (rmk Y f L z0 n0) s m args below meth c T' (locs ++ L1) (K'.2.1 - z0) (K'.2.2 - n0) := by
    refine ⟨X'.admits, X'.cas, X'.clock, X'.frames, X'.room, X'.hears, X'.method, X'.code, X'.here, X'.tail, X'.warmed, X'.limits, X'.bytes, X'.same.1, X'.same.2.1, ?_, X'.same.2.2.2.1, ?_, X'.same.2.2.2.2.2⟩
    · rw [hT1, hs0, hsz]
      omega
    · rw [hT1, hs0]
      exact hsum
  obtain ⟨t2, a1, b1⟩ := kk T'.heap (locs ++ L1) ⟨⟨⟨by rw [e1]; exact hP1, fun q x h => hF q (hA1 q x h), Nat.le_trans hSS.1 (by rw [e1]; exact hz), fun q h1 h2 => by rw [e1, hk q (Nat.lt_of_lt_of_le h1 hSS.1) (fun z => h2 (hF q z))]; exact hSS.2.1 q h1 h2, fun q hq => by
      rcases List.mem_append.mp hq with h | h
      · exact hSS.2.2 q h
      · exact hF _ (hL q h)⟩, by rw [e1]; exact hsz⟩, hs0, hb.2.1, Nat.le_trans hN.2.2.2.1 hb.2.2.1, hb.2.2.2⟩ T' rfl X''
  exact ⟨t2, st t2 a1, b1⟩
end KS
