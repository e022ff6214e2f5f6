/-! constructors: the memory and the heap's size; a new cell lies at the size -/
def mz (G : gG) (A : Nat → Prop) (s : State) (M : Mem) (H : Heap) (locs : List Loc) (z : Nat) : Prop := mm G A s M H locs ∧ H.size = z
/-- what a constructor does: the memory behind it, the heap's size -/
def CNQ (G : gG) (M' : Mem) (A : Nat → Prop) (z : Nat) : Array Value → State → Outcome → State → Prop := fun a st o t => CQ G M' none A a st o t ∧ t.heap.size = z
def CN (G : gG) (l : Launch) (y : MethodName) (ws : List Cond) (rm : Room) (av : List Value) (M : Mem) (z : Nat) (M' : Mem) (mc ms : Nat) : Prop :=
  Met l y ws rm (va_Pc av (fun U => U.heap.size = z ∧ MP G M U.heap ∧ GK G U)) (CNQ G M' (AM M z) (z + mc)) mc ms (AM M z)
theorem CN_of {G : gG} (hG : GOK G) {l : Launch} {y : MethodName} {cc : ByteArray} {own : String} {maxL : Nat} {rm : Room} {av : List Value} {M M' : Mem} {z mc ms : Nat}
    (hy : plainName y.cls = true) (ho : y.cls = own) (hn : y.name = "<init>") (hav : (lg_sl av).length ≤ maxL)
    (body : ∀ (p : Program) (e : Env) (s : State) (m : MethodId) (below : List Frame) (meth : Method) (c : Code) (A : Nat → Prop), cx G p s m av.toArray c cc own maxL A → meth.sig.returnType = none → meth.locks = false → meth.name = "<init>" → mz G A s M s.heap [] z → ∀ ls : Array Slot, lv_has ls maxL (lv_args 0 av) →
      W p l e rm s m av.toArray below meth c s.heap [] 0 0 (MQ below (CNQ G M' A (z + mc)) av.toArray s mc ms A) (F0 m 0 ls [])) : CN G l y (wT y cc maxL none) rm av M z M' mc ms := by
  refine Met.ofW (cc := cc) (maxL := maxL) (ret := none) hy rfl ?_
  intro p e s m args below meth c s₁ B hml hv
  obtain ⟨rfl, hsz, hP, hK⟩ := hv
  have hts := atoms_spec (ws := wT y cc maxL none) B.pre
  have hown : s.vm.findClass own = some m.cls := by rw [← ho]; exact findClass_of_methodNamed B.named
  have hname := (name_of_methodNamed B.named B.method).1
  subst hsz
  rw [lg_entry_eq]
  refine body p e s m below meth c (AM M s.heap.size) ⟨B.exec, B.bytes, hml, hown, fun w h => hts w (List.mem_cons_of_mem _ h), hK, fun q h => Or.inr h, fun q h => ?_, hG⟩ B.returns B.notSynchronized (hname.trans hn) ⟨⟨hP, fun q x h => Or.inl ⟨x, h⟩, va_S.rf⟩, rfl⟩ _ (lv_entry av hav)
  rcases h with ⟨x, h⟩ | h
  · exact (hP q x h).2
  · exact Nat.le_trans hK.2.1 h
/-- a Roll's place in an array of Rolls -/
def aRs (M : Mem) (a : Nat) (i : Int32) (v : Nat) : Option Mem := match M a, M v with
  | some (.inl (k, n, .inr (.inr (.inr (.inr f))))), some (.inr o) => if (k = 4 ∧ o.1 = 2) ∧ ¬ (i < 0 ∨ n ≤ i.toNatClampNeg) then some (upM M a (.inl (4, n, .inr (.inr (.inr (.inr (va_up f i.toNatClampNeg (some v)))))))) else none
  | _, _ => none
theorem aRs_at {M M' : Mem} {a v : Nat} {i : Int32} (h : aRs M a i v = some M') : ∃ n f vs, M a = some (.inl (4, n, .inr (.inr (.inr (.inr f))))) ∧ M v = some (.inr (2, vs)) ∧ vp_in i n ∧ M' = upM M a (.inl (4, n, .inr (.inr (.inr (.inr (va_up f i.toNatClampNeg (some v))))))) := by
  unfold aRs at h
  split at h
  · rename_i k n f o h1 h2
    split at h
    · rename_i hc
      obtain ⟨⟨rfl, h3⟩, h4⟩ := hc
      obtain ⟨o1, o2⟩ := o
      cases h3
      cases h
      exact ⟨n, f, o2, h1, h2, h4, rfl⟩
    · cases h
  · cases h
section MN
variable {G : gG} {p : Program} {l : Launch} {e : Env} {R : Room} {s : State} {m : MethodId} {args : Array Value} {below : List Frame} {meth : Method} {c : Code} {H : Heap} {locs : List Loc} {cells slots : Nat} {Q : State → Prop}
variable {cc : ByteArray} {pc nL z : Nat} {ls : Array Slot} {rest : List Value} {A : Nat → Prop} {a : Nat} {own : String} {M M' M0 : Mem} {ci N index : Nat} {C : String} {T : u_T} {ty : Nat → FieldType} {mc ms : Nat}
variable {y : MethodName} {bytes : ByteArray} {maxL n : Nat} {ret : Option FieldType} {rm : Room} {As : List Value} {b : Nat}
theorem mz_new {H1 : Heap} {x : mE} (C0 : cx G p s m args c cc own nL A) (hM : mz G A s M H locs z) (hn : va_at G.1 vwCl (z, toE G.2.1 x) H1) (z1 : H1.size = z + 1) (o1 : ∀ q : Nat, q < z → H1[q]? = H[q]?) : mz G A s (upM M z x) H1 locs (z + 1) := by
  obtain ⟨⟨h1, h2, h3⟩, hz⟩ := hM
  have hA : A z := C0.2.2.2.2.2.2.1 z (by rw [← hz]; exact h3.1)
  refine ⟨⟨fun q y hq => ?_, fun q y hq => ?_, Nat.le_trans h3.1 (by omega), fun q g1 g2 => (o1 q (by have := h3.1; omega)).trans (h3.2.1 q g1 g2), h3.2.2⟩, z1⟩
  · unfold upM at hq
    by_cases e : q = z
    · rw [if_pos e] at hq
      cases hq
      rw [e]
      exact ⟨hn, C0.2.2.2.2.2.2.2.1 z hA⟩
    · rw [if_neg e] at hq
      exact ⟨(h1 q y hq).1.kept (o1 q (by have := (h1 q y hq).1.lt; omega)), (h1 q y hq).2⟩
  · unfold upM at hq
    by_cases e : q = z
    · rw [e]; exact hA
    · rw [if_neg e] at hq
      exact h2 q y hq
theorem mn_newa {atype : ArrayType} {t : FieldType} (C0 : cx G p s m args c cc own nL A) (hM : mz G A s M H locs z) (harr : Cond.arrayClass t ∈ TT) (hty : newarray.typeOf atype = t) (kd : Nat) (htk : (tyAr G.2.1)[kd]? = some (G.2.1 kd, t)) (hp : ∀ cA : ClassId, va_RA s cA t = (s.vm.findClass ("[" ++ t.toString) = some cA)) {n : Int32} (N' : Nat) (a0 : vp_A) (ha : ∀ cA : ClassId, vp_cell cA a0 = arrV cA N' (fun _ => defaultValue t)) (hn : ¬ n < 0) (hN : n.toNatClampNeg = N') (hbytes : N' * componentBytes t ≤ 536870912) (hcells : cells + 1 ≤ R.cells) (hslots : slots + N' ≤ R.slots) (hdg : decode cc pc = .ok (.newarray atype, 2))
    (kk : ∀ H1 : Heap, mz G A s (upM M z (.inl (kd, a0))) H1 locs (z + 1) → W p l e R s m args below meth c H1 locs (cells + 1) (slots + N') Q (F0 m (pc + 2) ls (.ref z :: rest))) : W p l e R s m args below meth c H locs cells slots Q (F0 m pc ls (.int n :: rest)) := by
  subst hty
  obtain ⟨hM, rfl⟩ := hM
  refine va_newaK C0.1 C0.2.1 (C0.2.2.2.2.1 _ harr) rfl hdg rfl hn hN hbytes hcells hslots rfl fun H1 cA e1 z1 o1 hAr hNm => ?_
  have hcA : cA = G.2.1 kd := by
    have h9 := (C0.2.2.2.2.2.1.1.2 kd _ htk).2
    rw [hp] at h9
    exact Option.some.inj (hNm.symm.trans h9)
  subst hcA
  exact kk H1 (mz_new C0 ⟨hM, rfl⟩ (by show H1[H.size]? = some (vp_cell _ _); rw [ha]; exact e1) z1 o1)
theorem mn_new (C0 : cx G p s m args c cc own nL A) (hM : mz G A s M H locs z) (B : cb ci C T ty N) (hcl : Cond.classLink own index C ∈ TT) (hinst : Cond.instantiable C N ∈ TT) (hini : Cond.initialized C ∈ TT) {fs : List Value} (hfs : ∀ j, j < N → defaultValue (ty j) = vp_V fs j) (hcells : cells + 1 ≤ R.cells) (hslots : slots + N ≤ R.slots) (hdg : decode cc pc = .ok (.new index, 3))
    (kk : ∀ H1 : Heap, mz G A s (upM M z (.inr (ci, fs))) H1 locs (z + 1) → W p l e R s m args below meth c H1 locs (cells + 1) (slots + N) Q (F0 m (pc + 3) ls (.ref z :: rest))) : W p l e R s m args below meth c H locs cells slots Q (F0 m pc ls rest) := by
  obtain ⟨hM, rfl⟩ := hM
  have hts := C0.2.2.2.2.1
  have hKn := C0.2.2.2.2.2.1.1.1 ci _ B.1
  refine W.newcK C0.1 C0.2.1 C0.2.2.2.1 (hts _ hcl) (hts _ hinst) (hts _ hini) rfl hdg hcells hslots hKn.2.1 rfl fun H1 kC hkC e1 z1 o1 => ?_
  exact kk H1 (mz_new C0 ⟨hM, rfl⟩ ⟨_, B.1, (u_born ty hts B.2.1 hKn hkC e1 B.2.2.1).to hfs⟩ z1 o1)
/-- an array of Rolls -/
theorem mn_newq (C0 : cx G p s m args c cc own nL A) (hM : mz G A s M H locs z) (hcl : Cond.classLink own index "PlaceOffice$Roll" ∈ TT) (hov : va_AO "PlaceOffice$Roll" s) {n : Int32} (N' : Nat) (hn : ¬ n < 0) (hN : n.toNatClampNeg = N') (hbytes : N' * 4 ≤ 536870912) (hcells : cells + 1 ≤ R.cells) (hslots : slots + N' ≤ R.slots) (hdg : decode cc pc = .ok (.anewarray index, 3))
    (kk : ∀ H1 : Heap, mz G A s (upM M z (.inl (4, N', .inr (.inr (.inr (.inr (fun _ => none))))))) H1 locs (z + 1) → W p l e R s m args below meth c H1 locs (cells + 1) (slots + N') Q (F0 m (pc + 3) ls (.ref z :: rest))) : W p l e R s m args below meth c H locs cells slots Q (F0 m pc ls (.int n :: rest)) := by
  obtain ⟨hM, rfl⟩ := hM
  subst hN
  refine W.anew C0.1 C0.2.1 C0.2.2.2.1 (C0.2.2.2.2.1 _ hcl) (va_AO.use hov) rfl hdg rfl hn hbytes hcells hslots fun cA kA comp f1 f2 f3 f4 => ?_
  generalize hH1 : H.push ({ cls := cA, slots := Array.replicate n.toNatClampNeg .null, vm := .none } : Cell) = H1
  have z1 : H1.size = H.size + 1 := by rw [← hH1, Array.size_push]
  have e1 : H1[H.size]? = some (arrV cA n.toNatClampNeg (fun _ => .null)) := by rw [← hH1, Array.getElem?_push_size, ← arrV_new]
  have o1 : ∀ q : Nat, q < H.size → H1[q]? = H[q]? := fun q hq => by rw [← hH1, Array.getElem?_push, if_neg (Nat.ne_of_lt hq)]
  have hcA : cA = G.2.1 4 := by
    obtain ⟨kA9, comp9, -, -, -, h9⟩ := (C0.2.2.2.2.2.1.1.2 4 _ (rfl : (tyAr G.2.1)[4]? = some (G.2.1 4, .object "PlaceOffice$Roll"))).2
    exact Option.some.inj (f1.symm.trans h9)
  subst hcA
  exact kk H1 (mz_new C0 ⟨hM, rfl⟩ e1 z1 o1)
theorem mn_put (C0 : cx G p s m args c cc own nL A) (B : cb ci C T ty N) (hM : mz G A s M H locs z) (k : Nat) (hk : k < N) (hfin : (T k).2.2.2 = false) (hl : Cond.fieldLink own index (T k).1 (T k).2.1 (T k).2.2.1 ∈ TT) {v : Value} (hn : narrow (ty k) v = v) (hfit : fits (ty k) v = true) (hv : sV ci k M a v = some M') (hdg : decode cc pc = .ok (.putfield index, 3))
    (kk : ∀ (H1 : Heap) (locs1 : List Loc), mz G A s M' H1 locs1 z → W p l e R s m args below meth c H1 locs1 cells slots Q (F0 m (pc + 3) ls rest)) : W p l e R s m args below meth c H locs cells slots Q (F0 m pc ls (v :: .ref a :: rest)) := by
  obtain ⟨fs, he, hlen, rfl⟩ := sV_at hv
  obtain ⟨hM, hz⟩ := hM
  have hK := C0.2.2.2.2.2.1.1
  have hts := C0.2.2.2.2.1
  have hown := C0.2.2.2.1
  have hap := va_apart (own := own) hts B.2.1 ty B.2.2.1 B.2.2.2 hK B.1
  obtain ⟨r, h1, cell, q1, q2, q3, q4⟩ := (hM.1 a _ he).1
  have hr : r = (C, T, N) := Option.some.inj (h1.symm.trans B.1)
  subst hr
  obtain ⟨hS, hfc, kC, hkC, hkind⟩ := hK.1 ci _ B.1
  obtain ⟨cf, kf, fi, f, hi, hsl⟩ := hS k hk
  have hlay := hts _ (B.2.1 _ (u_in_lay hk))
  unfold u_lay at hlay
  rw [if_neg (by rw [hfin]; decide)] at hlay
  have hst := (u_facts hfc hkC (u_lays hts B.2.1 hk) hi).1
  have h6 := u_store hfc hkC hkind hlay hi (B.2.2.1 k hk) hn hfit
  refine W.putK C0.1 C0.2.1 (f := f) ⟨hown, hts _ hl, ⟨_, _, _, hi⟩, hst⟩ (by rw [q2]; exact h6) q1 q3 (by rw [hsl]; exact k2_hasslot (q4 k hk)) rfl rfl hdg fun H' e1 e2 e3 => ?_
  rw [hsl] at e1 ⊢
  exact kk H' _ ⟨hM.put he ⟨_, B.1, t_OB.to (V := updV (vp_V fs) k v) ⟨_, e1, q2, q3, t_set q4 hap hk v⟩ (fun j _ => vp_updV_set hlen v j)⟩ e2 e3, e2.trans hz⟩
theorem mn_putF (C0 : cx G p s m args c cc own nL A) (B : cb ci C T ty N) (hM : mz G A s M H locs z) (hni : meth.name = "<init>") (k : Nat) (hk : k < N) (hfin : (T k).2.2.2 = true) (hdecl : (T k).1 = own) (hl : Cond.fieldLink own index (T k).1 (T k).2.1 (T k).2.2.1 ∈ TT) {v : Value} (hn : narrow (ty k) v = v) (hfit : fits (ty k) v = true) (hv : sV ci k M a v = some M') (hdg : decode cc pc = .ok (.putfield index, 3))
    (kk : ∀ (H1 : Heap) (locs1 : List Loc), mz G A s M' H1 locs1 z → W p l e R s m args below meth c H1 locs1 cells slots Q (F0 m (pc + 3) ls rest)) : W p l e R s m args below meth c H locs cells slots Q (F0 m pc ls (v :: .ref a :: rest)) := by
  obtain ⟨fs, he, hlen, rfl⟩ := sV_at hv
  obtain ⟨hM, hz⟩ := hM
  have hK := C0.2.2.2.2.2.1.1
  have hts := C0.2.2.2.2.1
  have hown := C0.2.2.2.1
  have hap := va_apart (own := own) hts B.2.1 ty B.2.2.1 B.2.2.2 hK B.1
  obtain ⟨r, h1, cell, q1, q2, q3, q4⟩ := (hM.1 a _ he).1
  have hr : r = (C, T, N) := Option.some.inj (h1.symm.trans B.1)
  subst hr
  obtain ⟨hS, hfc, kC, hkC, hkind⟩ := hK.1 ci _ B.1
  obtain ⟨cf, kf, fi, f, hi, hsl⟩ := hS k hk
  have hlay := hts _ (B.2.1 _ (u_in_lay hk))
  unfold u_lay at hlay
  rw [if_pos hfin] at hlay
  have hst := (u_facts hfc hkC (u_lays hts B.2.1 hk) hi).1
  have hcf : m.cls = cf := by
    obtain ⟨_, _, c', _, _, _, -, -, hf', -, -, -, hown2, -⟩ := Cond.laysFinal_spec hlay
    have e1 : c' = cf := by have := hi.symm.trans hf'; simp at this; exact this.1.symm
    rw [hdecl] at hown2
    rw [← e1]; exact Option.some.inj (hown.symm.trans hown2)
  have h6 := u_fits hfc hkC hkind (Or.inr hlay) hi (B.2.2.1 k hk) hn hfit
  refine W.putFinK C0.1 C0.2.1 hown (hts _ hl) hi hst hcf hni (by rw [q2]; exact h6) q1 q3 (by rw [hsl]; exact k2_hasslot (q4 k hk)) rfl rfl hdg fun H' e1 e2 e3 => ?_
  rw [hsl] at e1 ⊢
  exact kk H' _ ⟨hM.put he ⟨_, B.1, t_OB.to (V := updV (vp_V fs) k v) ⟨_, e1, q2, q3, t_set q4 hap hk v⟩ (fun j _ => vp_updV_set hlen v j)⟩ e2 e3, e2.trans hz⟩
/-- Object's own constructor -/
theorem mn_obj (C0 : cx G p s m args c cc own nL A) (w1 : Cond.methodLink own index Lib.objectInit ∈ TT) (w2 : Cond.instanceMethod Lib.objectInit ∈ TT) (w3 : Cond.code Lib.objectInit ⟨#[0xb1]⟩ 1 none ∈ TT) (hl : ls.size = nL) (hR : 1 ≤ R.frames ∧ (rest.map fun v => v.category).sum + 12 ≤ R.locals) (hdg : decode cc pc = .ok (.invokespecial index, 3))
    (kk : W p l e R s m args below meth c H locs cells slots Q (F0 m (pc + 3) ls rest)) : W p l e R s m args below meth c H locs cells slots Q (F0 m pc ls (.ref a :: rest)) := by
  have hts := C0.2.2.2.2.1
  exact W.objInit C0.1 C0.2.1 C0.2.2.2.1 (hts _ w1) (hts _ w2) (hts _ w3) rfl (hl.trans C0.2.2.1.symm) rfl hdg hR.1 (by show 2 * 0 + _ + 12 ≤ _; omega) kk
theorem mn_back {a0 : Array Value} {st0 : List Value} (C0 : cx G p s m args c cc own nL A) (hM : mz G A s M H locs z) (hr : va_Run p l e R s m args below meth c H locs cells slots mc ms (F0 m pc ls st0) rest (CNQ G M' (AM M z) (z + mc) a0) (AM M z))
    (kk : ∀ (H1 : Heap) (locs1 : List Loc), mz G A s M' H1 locs1 (z + mc) → W p l e R s m args below meth c H1 locs1 (cells + mc) (slots + ms) Q (F0 m (pc + 3) ls rest)) : W p l e R s m args below meth c H locs cells slots Q (F0 m pc ls st0) := by
  obtain ⟨hM, rfl⟩ := hM
  have hF := hM.free C0
  intro T0 hT X
  obtain ⟨v1, st₀, t, T', L, h0, X', hL, e1, e2, ⟨⟨hv, ⟨hP1, hK1, hA1⟩, hz, hk⟩, hsz⟩, st⟩ := hr T0 hT X
  cases hv
  rw [h0] at hz hk
  have hS := hM.2.2
  obtain ⟨t2, a1, b1⟩ := kk T'.heap (locs ++ L) ⟨⟨by rw [e1]; exact hP1, fun q x h => hF q (hA1 q x h), Nat.le_trans hS.1 (by rw [e1]; exact hz), fun q h1 h2 => by rw [e1, hk q (Nat.lt_of_lt_of_le h1 hS.1) (fun z => h2 (hF q z))]; exact hS.2.1 q h1 h2, fun q hq => by
      rcases List.mem_append.mp hq with h | h
      · exact hS.2.2 q h
      · exact hF _ (hL q h)⟩, by rw [e1]; exact hsz⟩ T' rfl X'
  exact ⟨t2, st t2 a1, b1⟩
theorem mn_pre {av : List Value} (C0 : cx G p s m args c cc own nL A) (hM : mz G A s M H locs z) : ∀ U : State, U.heap = H → s.WarmedH U.vm → va_Pc av (fun U => U.heap.size = z ∧ MP G M U.heap ∧ GK G U) av.toArray U := by
  obtain ⟨hM, rfl⟩ := hM
  exact hM.pre C0
/-- a constructor's call -/
theorem mn_I {st0 : List Value} (C0 : cx G p s m args c cc own nL A) (hM : mz G A s M H locs z) (hct : CN G l y (wT y bytes maxL none) rm (.ref b :: As) M z M' mc ms) (hy1 : y.name = "<init>") (w1 : Cond.methodLink own index y ∈ TT) (w2 : Cond.instanceMethod y ∈ TT) (w4 : Cond.initialized y.cls ∈ TT) (w5 : Cond.code y bytes maxL none ∈ TT) (hy : yok y n) (hrm : rok rm maxL R mc ms cells slots) (hn : As.length = n) (hl : ls.size = nL) (hw : (rest.map fun v => v.category).sum ≤ 8) (hdg : decode cc pc = .ok (.invokespecial index, 3)) (hst : As.reverse ++ .ref b :: rest = st0)
    (kk : ∀ (H1 : Heap) (locs1 : List Loc), mz G A s M' H1 locs1 (z + mc) → W p l e R s m args below meth c H1 locs1 (cells + mc) (slots + ms) Q (F0 m (pc + 3) ls rest)) : W p l e R s m args below meth c H locs cells slots Q (F0 m pc ls st0) := by
  subst hst
  have hts := C0.2.2.2.2.1
  exact mn_back C0 hM (va_runI (Ts := TT) ⟨C0.1, C0.2.1, C0.2.2.1, C0.2.2.2.1, hts⟩ hct (cwI n hts (fun w h => by
      have h1 : w ∈ TT := by
        rcases List.mem_cons.mp h with h3 | h3
        · rw [h3]; exact w5
        · exact h3
      exact ⟨h1, TT_good w h1⟩) rfl hrm.1.1 hrm.1.2 (hts _ w4) (hts _ w1) (hts _ w2) hy1 hy hrm.2.1) ⟨mm.blind C0.2.2.2.2.2.2.2.2, mn_pre C0 hM⟩ rfl hn hl rfl (lv_room hw) hdg hrm.2.2) kk
theorem mn_IN {st0 : List Value} {host : String} (C0 : cx G p s m args c cc own nL A) (hM : mz G A s M H locs z) (hct : CN G l y (wT y bytes maxL none) rm (.ref b :: As) M z M' mc ms) (hy1 : y.name = "<init>") (w1 : Cond.methodLinkNest own index y host ∈ NW) (w2 : Cond.instanceMethod y ∈ TT) (w4 : Cond.initialized y.cls ∈ TT) (w5 : Cond.code y bytes maxL none ∈ TT) (hy : yok y n) (hrm : rok rm maxL R mc ms cells slots) (hn : As.length = n) (hl : ls.size = nL) (hw : (rest.map fun v => v.category).sum ≤ 8) (hdg : decode cc pc = .ok (.invokespecial index, 3)) (hst : As.reverse ++ .ref b :: rest = st0)
    (kk : ∀ (H1 : Heap) (locs1 : List Loc), mz G A s M' H1 locs1 (z + mc) → W p l e R s m args below meth c H1 locs1 (cells + mc) (slots + ms) Q (F0 m (pc + 3) ls rest)) : W p l e R s m args below meth c H locs cells slots Q (F0 m pc ls st0) := by
  subst hst
  have hts := C0.2.2.2.2.1
  exact mn_back C0 hM (va_runIN (Ts := TT) (host := host) ⟨C0.1, C0.2.1, C0.2.2.1, C0.2.2.2.1, hts⟩ hct ⟨va_cnB n hts (fun w h => by
      have h1 : w ∈ TT := by
        rcases List.mem_cons.mp h with h3 | h3
        · rw [h3]; exact w5
        · exact h3
      exact ⟨h1, TT_good w h1⟩) rfl hrm.1.1 hrm.1.2 (C0.2.2.2.2.2.2.2.2.2 s C0.2.2.2.2.2.1.2.2 _ w1) (hts _ w4) hy hrm.2.1, hy1, hts _ w2⟩ ⟨mm.blind C0.2.2.2.2.2.2.2.2, mn_pre C0 hM⟩ rfl hn hl rfl (lv_room hw) hdg hrm.2.2) kk
/-- a Roll into an array of Rolls -/
theorem mn_astq {v nn : Nat} {vs : List Value} {f : Nat → Option Nat} (C0 : cx G p s m args c cc own nL A) (hM : mz G A s M H locs z) (ha : M a = some (.inl (4, nn, .inr (.inr (.inr (.inr f)))))) (hv : M v = some (.inr (2, vs))) (hc : vwCl[2]? = some (C, T, N)) (hC : C = "PlaceOffice$Roll") {i : Int32} (hin : vp_in i nn) (hdg : decode cc pc = .ok (.aastore, 1))
    (kk : ∀ (H1 : Heap) (locs1 : List Loc), mz G A s (upM M a (.inl (4, nn, .inr (.inr (.inr (.inr (va_up f i.toNatClampNeg (some v)))))))) H1 locs1 z → W p l e R s m args below meth c H1 locs1 cells slots Q (F0 m (pc + 1) ls rest)) : W p l e R s m args below meth c H locs cells slots Q (F0 m pc ls (.ref v :: .int i :: .ref a :: rest)) := by
  obtain ⟨hM, hz⟩ := hM
  have hK := C0.2.2.2.2.2.1.1
  have hlt : i.toNatClampNeg < nn := Nat.not_le.mp fun q => hin (Or.inr q)
  have h0 : ¬ i < 0 := fun q => hin (Or.inl q)
  obtain ⟨r', hr', cellV, g1, g2, g3, -⟩ := (hM.1 v _ hv).1
  have hcls := (hK.1 2 _ hc).2
  obtain ⟨kA, comp, k1, k2, k3, -⟩ := (hK.2 4 _ (rfl : (tyAr G.2.1)[4]? = some (G.2.1 4, .object "PlaceOffice$Roll"))).2
  subst hC
  have hcomp : comp = G.1.1 2 := Option.some.inj (k3.symm.trans hcls.1)
  subst hcomp
  obtain ⟨kC, hkC, -⟩ := hcls.2
  have hcell : H[a]? = some (vp_cell (G.2.1 4) (nn, .inr (.inr (.inr (.inr f))))) := (hM.1 a _ ha).1
  refine W.aast C0.1 C0.2.1 hcell (fun q h => by cases h) (fun h => by cases h) k1 k2 rfl hkC ⟨h0, by show _ < (arrV _ _ _).slots.size; rw [arrV_size]; exact hlt⟩ g1 (fun q h => by rw [g3] at h; cases h) (by rw [g2]; exact hkC) (by rw [g2]; exact va_assign hcls) rfl rfl hdg fun H1 e z1 oq => ?_
  refine kk H1 _ ⟨hM.put ha ?_ z1 oq, z1.trans hz⟩
  show H1[a]? = some (vp_cell _ _)
  rw [e]
  rw [vp_cell_q, vp_cell_q, arrV_store]
  congr 2
  funext q
  by_cases hq : q = i.toNatClampNeg
  · subst hq
    simp [updV, va_up, va_rf]
  · simp [updV, va_up, hq]
/-- a method that makes nothing, called in a constructor -/
theorem mn_V0 {st0 : List Value} (C0 : cx G p s m args c cc own nL A) (B : cb ci C T ty N) (hM : mz G A s M H locs z) (hz0 : s.heap.size + cells = z) (hi : isC ci M b = some ()) (hC : y.cls = C) (hct : CT G l y (wT y bytes maxL ret) rm (.ref b :: As) M none M' 0 0) (w1 : Cond.methodLink own index y ∈ TT) (w2 : Cond.instanceMethod y ∈ TT) (w3 : Cond.selects C y y ∈ TT) (w4 : Cond.initialized C ∈ TT) (w5 : Cond.code y bytes maxL ret ∈ TT) (hy : yok y n) (hrm : rok rm maxL R 0 0 cells slots) (hn : As.length = n) (hl : ls.size = nL) (hw : (rest.map fun v => v.category).sum ≤ 8) (hdg : decode cc pc = .ok (.invokevirtual index, 3)) (hst : As.reverse ++ .ref b :: rest = st0)
    (kk : ∀ (H1 : Heap) (locs1 : List Loc), mz G A s M' H1 locs1 z → W p l e R s m args below meth c H1 locs1 cells slots Q (F0 m (pc + 3) ls rest)) : W p l e R s m args below meth c H locs cells slots Q (F0 m pc ls st0) := by
  subst hst
  obtain ⟨hM, hzz⟩ := hM
  have hF := hM.free C0
  intro T0 hT X
  obtain ⟨v1, st₀, t, T', L, h0, X', hL, e1, e2, ⟨hv, ⟨hP1, hK1, hA1⟩, hz, hk⟩, st⟩ := mr_runV C0 B hM hi hC hct w1 w2 w3 w4 w5 hy hrm hn hl hw hdg T0 hT X
  cases hv
  rw [h0] at hz hk
  have hS := hM.2.2
  have hsz : T'.heap.size ≤ s.heap.size + (cells + 0) := X'.same.2.2.1
  obtain ⟨t2, a1, b1⟩ := kk T'.heap (locs ++ L) ⟨⟨by rw [e1]; exact hP1, fun q x h => hF q (hA1 q x h), Nat.le_trans hS.1 (by rw [e1]; exact hz), fun q h1 h2 => by rw [e1, hk q (Nat.lt_of_lt_of_le h1 hS.1) (fun z => h2 (hF q z))]; exact hS.2.1 q h1 h2, fun q hq => by
      rcases List.mem_append.mp hq with h | h
      · exact hS.2.2 q h
      · exact hF _ (hL q h)⟩, by rw [e1] at hsz ⊢; omega⟩ T' rfl X'
  exact ⟨t2, st t2 a1, b1⟩
theorem mn_vret (C0 : cx G p s m args c cc own nL A) (hr : meth.sig.returnType = none) (hlk : meth.locks = false) {z1 : Nat} (hM : mz G A s M H locs z) (hMM : M = M') (hz : z = z1) (hc : cells ≤ mc) (hs : slots ≤ ms) (hdg : decode cc pc = .ok (.return_, 1)) : W p l e R s m args below meth c H locs cells slots (MQ below (CNQ G M' A z1) args s mc ms A) (F0 m pc ls []) :=
  W.widen hc hs (W.vret C0.1 C0.2.1 hr (fun t ht hW => ⟨mr_q C0 hM.1 hMM rfl t ht hW, by rw [ht, hM.2, hz]⟩) hM.1.2.2.2.2 hdg hlk)
end MN
