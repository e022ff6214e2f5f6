theorem ob3 {α β γ : Type} {x : Option (α × β)} {f : α → β → Option γ} {r : γ} (h : ob2 x f = some r) : ∃ a b, x = some (a, b) ∧ f a b = some r := ob2_at h
section MR2
variable {G : gG} {p : Program} {l : Launch} {e : Env} {R : Room} {s : State} {m : MethodId} {args : Array Value} {below : List Frame} {meth : Method} {c : Code} {H : Heap} {locs : List Loc} {cells slots : Nat} {Q : State → Prop}
variable {cc : ByteArray} {pc nL : Nat} {ls : Array Slot} {rest : List Value} {A : Nat → Prop} {a : Nat} {own : String} {M M' : Mem} {ci N index : Nat} {C : String} {T : u_T} {ty : Nat → FieldType}
theorem mr_max (C0 : cx G p s m args c cc own nL A) (w1 : Cond.methodLink own index Lib.Math.max.name ∈ TT) (w2 : Cond.static Lib.Math.max.name ∈ TT) (w3 : Cond.initialized "java/lang/Math" ∈ TT) (w4 : Cond.code Lib.Math.max.name Lib.Math.max.code 2 (some .int) ∈ TT) (hR : 1 ≤ R.frames ∧ (rest.map fun v => v.category).sum + 13 ≤ R.locals) (hl : ls.size = nL) {x y : Int32} (hdg : decode cc pc = .ok (.invokestatic index, 3))
    (kk : W p l e R s m args below meth c H locs 0 0 Q (F0 m (pc + 3) ls (.int (if x < y then y else x) :: rest))) : W p l e R s m args below meth c H locs 0 0 Q (F0 m pc ls (.int y :: .int x :: rest)) := by
  have hts := C0.2.2.2.2.1
  exact va_mmax C0.1 C0.2.1 (C0.2.2.1.trans hl.symm) C0.2.2.2.1 (hts _ w1) (hts _ w2) (hts _ w3) (hts _ w4) hR.1 hR.2 (Nat.zero_le _) (Nat.zero_le _) hdg kk
theorem mr_min (C0 : cx G p s m args c cc own nL A) (w1 : Cond.methodLink own index Lib.Math.min.name ∈ TT) (w2 : Cond.static Lib.Math.min.name ∈ TT) (w3 : Cond.initialized "java/lang/Math" ∈ TT) (w4 : Cond.code Lib.Math.min.name Lib.Math.min.code 2 (some .int) ∈ TT) (hR : 1 ≤ R.frames ∧ (rest.map fun v => v.category).sum + 13 ≤ R.locals) (hl : ls.size = nL) {x y : Int32} (hdg : decode cc pc = .ok (.invokestatic index, 3))
    (kk : W p l e R s m args below meth c H locs 0 0 Q (F0 m (pc + 3) ls (.int (if y < x then y else x) :: rest))) : W p l e R s m args below meth c H locs 0 0 Q (F0 m pc ls (.int y :: .int x :: rest)) := by
  have hts := C0.2.2.2.2.1
  exact va_mmin C0.1 C0.2.1 (C0.2.2.1.trans hl.symm) C0.2.2.2.1 (hts _ w1) (hts _ w2) (hts _ w3) (hts _ w4) hR.1 hR.2 (Nat.zero_le _) (Nat.zero_le _) hdg kk
/-- a switch: at one of its numbers, beside them all -/
theorem mr_tsIn (C0 : cx G p s m args c cc own nL A) {dflt lo hi : Int} {offs : Array Int} {len tgt : Nat} {x : Int32} {off : Int} (n : Int32) (h : x = n) (hdg : decode cc pc = .ok (.tableswitch dflt lo hi offs, len)) (h1 : ¬ n.toInt < lo) (h2 : ¬ hi < n.toInt) (ho : offs[(n.toInt - lo).toNat]? = some off) (ht : (pc : Int) + off = (tgt : Int))
    (k : W p l e R s m args below meth c H locs cells slots Q (F0 m tgt ls rest)) : W p l e R s m args below meth c H locs cells slots Q (F0 m pc ls (.int x :: rest)) := by
  subst h
  exact lv_tableIn C0.1 C0.2.1 hdg h1 h2 ho ht k
end MR2
