-- floats: the ends, a wide constant
section MF
variable {G : gG} {p : Program} {l : Launch} {e : Env} {R : Room} {s : State} {m : MethodId} {args : Array Value} {below : List Frame} {meth : Method} {c : Code} {H : Heap} {locs : List Loc} {cells slots : Nat} {Q : State → Prop}
variable {cc : ByteArray} {pc nL : Nat} {ls : Array Slot} {rest : List Value} {A : Nat → Prop} {a : Nat} {own : String} {M M' : Mem} {ci N index : Nat} {C : String} {T : u_T} {ty : Nat → FieldType}
theorem mr_dret (C0 : cx G p s m args c cc own nL A) (hr : meth.sig.returnType = some .double) (hlk : meth.locks = false) (hM : mm G A s M H locs) (hMM : M = M') {v v' : UInt64} (hv : v = v') {mc ms : Nat} (hc : cells ≤ mc) (hs : slots ≤ ms) (hdg : decode cc pc = .ok (.dreturn, 1)) : W p l e R s m args below meth c H locs cells slots (MQ below (CQ G M' (some (.double v')) A) args s mc ms A) (F0 m pc ls [.double v]) :=
  W.widen hc hs (W.dret C0.1 C0.2.1 hr (fun t ht hW => mr_q C0 hM hMM (by rw [hv]) t ht hW) hM.2.2.2.2 hdg hlk)
theorem mr_fret (C0 : cx G p s m args c cc own nL A) (hr : meth.sig.returnType = some .float) (hlk : meth.locks = false) (hM : mm G A s M H locs) (hMM : M = M') {v v' : UInt32} (hv : v = v') {mc ms : Nat} (hc : cells ≤ mc) (hs : slots ≤ ms) (hdg : decode cc pc = .ok (.freturn, 1)) : W p l e R s m args below meth c H locs cells slots (MQ below (CQ G M' (some (.float v')) A) args s mc ms A) (F0 m pc ls [.float v]) :=
  W.widen hc hs (W.fret C0.1 C0.2.1 hr (fun t ht hW => mr_q C0 hM hMM (by rw [hv]) t ht hW) hM.2.2.2.2 hdg hlk)
theorem mr_ldcwf {v : UInt32} (C0 : cx G p s m args c cc own nL A) (hconst : Cond.constantFloat own index v ∈ TT) (hdg : decode cc pc = .ok (.ldc_w index, 3)) (k : W p l e R s m args below meth c H locs cells slots Q (F0 m (pc + 3) ls (.float v :: rest))) : W p l e R s m args below meth c H locs cells slots Q (F0 m pc ls rest) := by
  intro T hT X
  obtain ⟨t, a, b⟩ := k T hT X
  obtain ⟨k, cf, hk, hcf, hcp⟩ := Cond.constantFloat_spec C0.2.2.2.1 (C0.2.2.2.2.1 _ hconst)
  obtain ⟨k', hk', he⟩ := X.warmed.alike.2.2 _ _ hk
  refine ⟨t, ?_, b⟩
  have hb := C0.2.1
  jvm_step X.here [X.here.top, C0.1, hb, hdg, ldc_w.wp_float (s := T) (f := F0 m pc ls rest) X.here.top hk' (by rw [he]; exact hcf) hcp]
  exact a
end MF
