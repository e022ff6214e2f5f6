section MR4
variable {G : gG} {p : Program} {l : Launch} {e : Env} {R : Room} {s : State} {m : MethodId} {args : Array Value} {below : List Frame} {meth : Method} {c : Code} {H : Heap} {locs : List Loc} {cells slots : Nat} {Q : State → Prop}
variable {cc : ByteArray} {pc nL : Nat} {ls : Array Slot} {rest : List Value} {A : Nat → Prop} {a : Nat} {own : String} {M M' : Mem} {ci N index : Nat} {C : String} {T : u_T} {ty : Nat → FieldType}
theorem mr_wald2 {Z : gZ} (C0 : cx G p s m args c cc own nL A) (hZ : GS G Z) (hM : mm G A s M H locs) {i : Int32} {v : Nat} (hv : eAt i = some v) (hdg : decode cc pc = .ok (.aaload, 1))
    (kk : W p l e R s m args below meth c H locs cells slots Q (F0 m (pc + 1) ls (.ref (Z.2.2.1 v) :: rest))) : W p l e R s m args below meth c H locs cells slots Q (F0 m pc ls (.int i :: .ref Z.2.2.2 :: rest)) := by
  obtain ⟨hin, hq⟩ := oG hv
  cases hq
  exact mr_wald C0 hZ hM hin hdg kk
theorem mr_text {Z : gZ} (C0 : cx G p s m args c cc own nL A) (hZ : GS G Z) (hM : mm G A s M H locs) {i j : Nat} (hv : eTx i = some j) (hl : Cond.fieldLink own index "PlaceOffice$Word" "text" "Ljava/lang/String;" ∈ TT) (hdg : decode cc pc = .ok (.getfield index, 3))
    (kk : W p l e R s m args below meth c H locs cells slots Q (F0 m (pc + 3) ls (.ref (Z.1 j) :: rest))) : W p l e R s m args below meth c H locs cells slots Q (F0 m pc ls (.ref (Z.2.2.1 i) :: rest)) := by
  obtain ⟨hi, hq⟩ := oG hv
  cases hq
  exact mr_getsf C0 hM ((mr_sx C0 hZ).2.2.2.2.1 i hi).2 hl hdg kk
end MR4
