/-! WHAT IS KNOWN OF THE CELLS BELOW OURS: the literals (their places 0 .. 10 in zTx), the enum's constants (the same places), its row WORDS -/
/-- addresses: the literals, their rows of bytes, the constants, the row WORDS -/
abbrev gZ : Type := (Nat → Nat) × (Nat → Nat) × (Nat → Nat) × Nat
def zTx : List String := ["school", "zone", "pupil", "child", "seed", "appeals", "late", "care", "sibling", "family", "prefers"]
def zNm : List String := ["SCHOOL", "ZONE", "PUPIL", "CHILD", "SEED", "APPEALS", "LATE", "CARE", "SIBLING", "FAMILY", "PREFERS"]
def zLen : List Nat := [6, 4, 5, 5, 4, 7, 4, 4, 7, 6, 7]
def zBy : List (List Int32) := [[115, 99, 104, 111, 111, 108], [122, 111, 110, 101], [112, 117, 112, 105, 108], [99, 104, 105, 108, 100], [115, 101, 101, 100], [97, 112, 112, 101, 97, 108, 115], [108, 97, 116, 101], [99, 97, 114, 101], [115, 105, 98, 108, 105, 110, 103], [102, 97, 109, 105, 108, 121], [112, 114, 101, 102, 101, 114, 115]]
def zRef : List (String × Nat × Nat) := []
def SX (b : Nat) (Z : gZ) (U : State) : Prop :=
  vk_S 11 zLen zBy Z.1 Z.2.1 (fun q => b ≤ q) U U.heap ∧
  (∀ q ∈ zRef, vk_R q.1 q.2.1 (zTx.getD q.2.2 "") (Z.1 q.2.2) U) ∧
  va_Z "java/lang/String" "COMPACT_STRINGS" "Z" (.int 1) (fun q => b ≤ q) U U.heap ∧
  va_Zq "jdk/internal/util/Preconditions" "SIOOBE_FORMATTER" "Ljava/util/function/BiFunction;" (fun q => b ≤ q) U U.heap ∧
  (∀ i, i < 11 → va_Z "PlaceOffice$Word" (zNm.getD i "") "LPlaceOffice$Word;" (.ref (Z.2.2.1 i)) (fun q => b ≤ q) U U.heap ∧ va_OF "PlaceOffice$Word" "text" "Ljava/lang/String;" (.ref (Z.1 i)) (Z.2.2.1 i) (fun q => b ≤ q) U U.heap) ∧
  (∀ i j, i < 11 → j < 11 → Z.2.2.1 i = Z.2.2.1 j → i = j) ∧
  va_Z "PlaceOffice$SetupReader" "WORDS" "[LPlaceOffice$Word;" (.ref Z.2.2.2) (fun q => b ≤ q) U U.heap ∧
  va_T (.object "PlaceOffice$Word") Z.2.2.2 11 (fun j => .ref (Z.2.2.1 j)) (fun q => b ≤ q) U U.heap
def GS (G : gG) (Z : gZ) : Prop := ∀ U : State, G.2.2.2 U → SX G.2.2.1 Z U
theorem SX.kept {b : Nat} {Z : gZ} {u U : State} (h : SX b Z u) (hW : u.WarmedH U.vm) (hh : ∀ q : Nat, q < b → U.heap[q]? = u.heap[q]?) : SX b Z U := by
  obtain ⟨h1, h2, h3, h4, h5, h6, h7, h8⟩ := h
  have k : ∀ a : Nat, a < u.heap.size → ¬ b ≤ a → U.heap[a]? = u.heap[a]? := fun a _ hb => hh a (Nat.lt_of_not_le hb)
  have hv := hW.alike
  exact ⟨(h1.moved hv).kept k, fun q hq => (h2 q hq).warm hW, (va_Z.moved hv h3).kept k, (va_Zq.moved hv h4).kept k, fun i hi => ⟨(va_Z.moved hv (h5 i hi).1).kept k, (va_OF.moved hv (h5 i hi).2).kept k⟩, h6, (va_Z.moved hv h7).kept k, (va_T.moved hv h8).kept k⟩
section MR3
variable {G : gG} {p : Program} {l : Launch} {e : Env} {R : Room} {s : State} {m : MethodId} {args : Array Value} {below : List Frame} {meth : Method} {c : Code} {H : Heap} {locs : List Loc} {cells slots : Nat} {Q : State → Prop}
variable {cc : ByteArray} {pc nL : Nat} {ls : Array Slot} {rest : List Value} {A : Nat → Prop} {a : Nat} {own : String} {M M' : Mem} {ci N index : Nat} {C : String} {T : u_T} {ty : Nat → FieldType}
theorem mr_sx {Z : gZ} (C0 : cx G p s m args c cc own nL A) (hZ : GS G Z) : SX G.2.2.1 Z s := hZ s C0.2.2.2.2.2.1.2.2
theorem mr_gets (C0 : cx G p s m args c cc own nL A) (hM : mm G A s M H locs) {n d : String} {v : Value} (hz : va_Z C n d v (fun q => G.2.2.1 ≤ q) s s.heap) (hl : Cond.fieldLink own index C n d ∈ TT) (hdg : decode cc pc = .ok (.getstatic index, 3))
    (kk : W p l e R s m args below meth c H locs cells slots Q (F0 m (pc + 3) ls (v :: rest))) : W p l e R s m args below meth c H locs cells slots Q (F0 m pc ls rest) :=
  va_gets C0.1 C0.2.1 (hz.narrow C0.2.2.2.2.2.2.2.1) hM.2.2 C0.2.2.2.1 (C0.2.2.2.2.1 _ hl) (fun _ h => h) hdg kk
theorem mr_getsf (C0 : cx G p s m args c cc own nL A) (hM : mm G A s M H locs) {n d : String} {v : Value} {q : Nat} (hz : va_OF C n d v q (fun q => G.2.2.1 ≤ q) s s.heap) (hl : Cond.fieldLink own index C n d ∈ TT) (hdg : decode cc pc = .ok (.getfield index, 3))
    (kk : W p l e R s m args below meth c H locs cells slots Q (F0 m (pc + 3) ls (v :: rest))) : W p l e R s m args below meth c H locs cells slots Q (F0 m pc ls (.ref q :: rest)) :=
  vk_getf C0.1 C0.2.1 (hz.narrow C0.2.2.2.2.2.2.2.1) hM.2.2 C0.2.2.2.1 (C0.2.2.2.2.1 _ hl) (fun _ h => h) hdg kk
theorem mr_tret (C0 : cx G p s m args c cc own nL A) {rt : FieldType} (hr : meth.sig.returnType = some rt) (hlk : meth.locks = false) (hM : mm G A s M H locs) (hMM : M = M') {v v' : Int32} (hn : narrow rt (.int v) = .int v) (hv : v = v') {mc ms : Nat} (hc : cells ≤ mc) (hs : slots ≤ ms) (hdg : decode cc pc = .ok (.ireturn, 1)) : W p l e R s m args below meth c H locs cells slots (MQ below (CQ G M' (some (.int v')) A) args s mc ms A) (F0 m pc ls [.int v]) :=
  W.widen hc hs (W.zret C0.1 C0.2.1 hr hn (fun t ht hW => mr_q C0 hM hMM (by rw [hv]) t ht hW) hM.2.2.2.2 hdg hlk)
/-- a literal as the receiver -/
theorem mr_runK {y : MethodName} {bytes : ByteArray} {maxL n mc ms : Nat} {ret : Option FieldType} {rm : Room} {As : List Value} {v : Option Value} {Z : gZ} {i : Nat} (C0 : cx G p s m args c cc own nL A) (hZ : GS G Z) (hM : mm G A s M H locs) (hi : i < 11) (hC : y.cls = "java/lang/String") (hct : CT G l y (wT y bytes maxL ret) rm (.ref (Z.1 i) :: As) M v M' mc ms) (w1 : Cond.methodLink own index y ∈ TT) (w2 : Cond.instanceMethod y ∈ TT) (w3 : Cond.selects "java/lang/String" y y ∈ TT) (w4 : Cond.initialized "java/lang/String" ∈ TT) (w5 : Cond.code y bytes maxL ret ∈ TT) (hy : yok y n) (hrm : rok rm maxL R mc ms cells slots) (hn : As.length = n) (hl : ls.size = nL) (hw : (rest.map fun v => v.category).sum ≤ 8) (hdg : decode cc pc = .ok (.invokevirtual index, 3)) :
    va_Run p l e R s m args below meth c H locs cells slots mc ms (F0 m pc ls (As.reverse ++ .ref (Z.1 i) :: rest)) rest (CQ G M' v (AM M H.size) (Value.ref (Z.1 i) :: As).toArray) (AM M H.size) := by
  have hts : ∀ w ∈ (Cond.instanceMethod y :: TT), w.before args s = true := fun w h => by
    rcases List.mem_cons.mp h with h | h
    · rw [h]; exact C0.2.2.2.2.1 _ w2
    · exact C0.2.2.2.2.1 w h
  exact va_runV (Ts := Cond.instanceMethod y :: TT) ⟨C0.1, C0.2.1, C0.2.2.1, C0.2.2.2.1, hts⟩ (hct H.size) (cwV n hts (gT (us := [.methodLink own index y, .instanceMethod y, .selects "java/lang/String" y y, .initialized "java/lang/String"]) (fun w h => by
      simp only [List.mem_cons, List.not_mem_nil, or_false] at h
      rcases h with rfl | rfl | rfl | rfl <;> assumption) w5) rfl hrm.1.1 hrm.1.2 ⟨hC, hy.1, hy.2.1, hy.2.2⟩ hrm.2.1) ⟨mm.blind C0.2.2.2.2.2.2.2.2, vk_recv ((mr_sx C0 hZ).1.narrow C0.2.2.2.2.2.2.2.1) hi hM.2.2, hM.pre C0⟩ rfl hn hl rfl (lv_room hw) hdg hrm.2.2
theorem mr_K1 {y : MethodName} {bytes : ByteArray} {maxL n : Nat} {ret : Option FieldType} {rm : Room} {As : List Value} {x : Value} {st0 : List Value} {Z : gZ} {i : Nat} (C0 : cx G p s m args c cc own nL A) (hZ : GS G Z) (hM : mm G A s M H locs) (hi : i < 11) (hC : y.cls = "java/lang/String") (hct : CT G l y (wT y bytes maxL ret) rm (.ref (Z.1 i) :: As) M (some x) M' 0 0) (w1 : Cond.methodLink own index y ∈ TT) (w2 : Cond.instanceMethod y ∈ TT) (w3 : Cond.selects "java/lang/String" y y ∈ TT) (w4 : Cond.initialized "java/lang/String" ∈ TT) (w5 : Cond.code y bytes maxL ret ∈ TT) (hy : yok y n) (hrm : rok rm maxL R 0 0 0 0) (hn : As.length = n) (hl : ls.size = nL) (hw : (rest.map fun v => v.category).sum ≤ 8) (hdg : decode cc pc = .ok (.invokevirtual index, 3)) (hst : As.reverse ++ .ref (Z.1 i) :: rest = st0)
    (kk : ∀ (H1 : Heap) (locs1 : List Loc), mm G A s M' H1 locs1 → W p l e R s m args below meth c H1 locs1 0 0 Q (F0 m (pc + 3) ls (x :: rest))) : W p l e R s m args below meth c H locs 0 0 Q (F0 m pc ls st0) := by
  subst hst
  exact mr_b1 C0 hM (mr_runK C0 hZ hM hi hC hct w1 w2 w3 w4 w5 hy hrm hn hl hw hdg) kk
-- references that may be null
theorem mr_aldn {k : Fin 4} {i : Nat} {v : Option Nat} (C0 : cx G p s m args c cc own nL A) (hdg : decode cc pc = .ok (.aload_n k, 1)) (hi : (k : Nat) = i) (hl : ls[i]? = some (.val (va_rf v)))
    (kk : W p l e R s m args below meth c H locs cells slots Q (F0 m (pc + 1) ls (va_rf v :: rest))) : W p l e R s m args below meth c H locs cells slots Q (F0 m pc ls rest) := by
  cases v with
  | none => exact lv_aload_nN C0.1 C0.2.1 hdg hi hl kk
  | some q => exact lv_aload_n C0.1 C0.2.1 hdg hi hl kk
theorem mr_acmp_ne {rx ry : Option Nat} {off : Int} {tgt : Nat} (C0 : cx G p s m args c cc own nL A) (hdg : decode cc pc = .ok (.if_acmp .ne off, 3)) (ht : (pc : Int) + off = (tgt : Int)) (kt : ¬ rx = ry → W p l e R s m args below meth c H locs cells slots Q (F0 m tgt ls rest)) (kf : rx = ry → W p l e R s m args below meth c H locs cells slots Q (F0 m (pc + 3) ls rest)) {vx vy : Value} (hx : va_rf rx = vx) (hy : va_rf ry = vy) : W p l e R s m args below meth c H locs cells slots Q (F0 m pc ls (vy :: vx :: rest)) := by
  subst hx; subst hy
  exact lv_acmp_ne C0.1 C0.2.1 hdg ht kt kf
theorem mr_acmp_eq {rx ry : Option Nat} {off : Int} {tgt : Nat} (C0 : cx G p s m args c cc own nL A) (hdg : decode cc pc = .ok (.if_acmp .eq off, 3)) (ht : (pc : Int) + off = (tgt : Int)) (kt : rx = ry → W p l e R s m args below meth c H locs cells slots Q (F0 m tgt ls rest)) (kf : ¬ rx = ry → W p l e R s m args below meth c H locs cells slots Q (F0 m (pc + 3) ls rest)) {vx vy : Value} (hx : va_rf rx = vx) (hy : va_rf ry = vy) : W p l e R s m args below meth c H locs cells slots Q (F0 m pc ls (vy :: vx :: rest)) := by
  subst hx; subst hy
  exact lv_acmp_eq C0.1 C0.2.1 hdg ht kt kf
theorem mr_ifnonnull {rx : Option Nat} {off : Int} {tgt : Nat} (C0 : cx G p s m args c cc own nL A) (hdg : decode cc pc = .ok (.ifnonnull off, 3)) (ht : (pc : Int) + off = (tgt : Int)) (kt : ¬ rx = none → W p l e R s m args below meth c H locs cells slots Q (F0 m tgt ls rest)) (kf : rx = none → W p l e R s m args below meth c H locs cells slots Q (F0 m (pc + 3) ls rest)) : W p l e R s m args below meth c H locs cells slots Q (F0 m pc ls (va_rf rx :: rest)) := by
  cases rx with
  | none => exact lv_ifnonnullN C0.1 C0.2.1 hdg (kf rfl)
  | some q => exact lv_ifnonnull C0.1 C0.2.1 hdg ht (kt (fun h => by cases h))
/-- the row WORDS -/
theorem mr_walen {Z : gZ} (C0 : cx G p s m args c cc own nL A) (hZ : GS G Z) (hM : mm G A s M H locs) (hdg : decode cc pc = .ok (.arraylength, 1))
    (kk : W p l e R s m args below meth c H locs cells slots Q (F0 m (pc + 1) ls (.int 11 :: rest))) : W p l e R s m args below meth c H locs cells slots Q (F0 m pc ls (.ref Z.2.2.2 :: rest)) :=
  va_tlen C0.1 C0.2.1 ((mr_sx C0 hZ).2.2.2.2.2.2.2.narrow C0.2.2.2.2.2.2.2.1) hM.2.2 rfl hdg kk
theorem mr_wald {Z : gZ} (C0 : cx G p s m args c cc own nL A) (hZ : GS G Z) (hM : mm G A s M H locs) {i : Int32} (hin : ¬ (i < 0 ∨ 11 ≤ i.toNatClampNeg)) (hdg : decode cc pc = .ok (.aaload, 1))
    (kk : W p l e R s m args below meth c H locs cells slots Q (F0 m (pc + 1) ls (.ref (Z.2.2.1 i.toNatClampNeg) :: rest))) : W p l e R s m args below meth c H locs cells slots Q (F0 m pc ls (.int i :: .ref Z.2.2.2 :: rest)) :=
  vb_tq C0.1 C0.2.1 ((mr_sx C0 hZ).2.2.2.2.2.2.2.narrow C0.2.2.2.2.2.2.2.1) hM.2.2 hin rfl hdg kk
theorem mr_ldcS {Z : gZ} (C0 : cx G p s m args c cc own nL A) (hZ : GS G Z) {tx : String} {i : Nat} (hq : (own, index, i) ∈ zRef) (htx : zTx.getD i "" = tx) (hdg : decode cc pc = .ok (.ldc index, 2))
    (kk : W p l e R s m args below meth c H locs cells slots Q (F0 m (pc + 2) ls (.ref (Z.1 i) :: rest))) : W p l e R s m args below meth c H locs cells slots Q (F0 m pc ls rest) :=
  va_ldcS C0.1 C0.2.1 C0.2.2.2.1 ((mr_sx C0 hZ).2.1 _ hq) hdg kk
end MR3
/-- length() and charAt(k) of a literal -/
def sLen (i : Nat) : Option Int32 := if i < 11 then some (nI (zLen.getD i 0)) else none
def sAt (i : Nat) (k : Int32) : Option Int32 := if i < 11 ∧ ¬ (k < 0 ∨ zLen.getD i 0 ≤ k.toNatClampNeg) then some ((((zBy.getD i []).getD k.toNatClampNeg 0) &&& 255).toUInt32 % 65536).toInt32 else none
/-- a constant of the enum, out of its row; its text -/
def eAt (k : Int32) : Option Nat := if ¬ (k < 0 ∨ 11 ≤ k.toNatClampNeg) then some k.toNatClampNeg else none
def eTx (i : Nat) : Option Nat := if i < 11 then some i else none
abbrev rm_J0_coder_7d493 : Room := { frames := 0, cells := 0, slots := 0, locals := 0 }
abbrev rm_J0_isLatin1_aae02 : Room := { frames := 0, cells := 0, slots := 0, locals := 0 }
abbrev rm_J0_length_8abf5 : Room := { frames := 1, cells := 0, slots := 0, locals := 20 }
abbrev rm_J3_checkIndex_8e157 : Room := { frames := 0, cells := 0, slots := 0, locals := 0 }
abbrev rm_J0_checkIndex_df160 : Room := { frames := 1, cells := 0, slots := 0, locals := 22 }
abbrev rm_J1_charAt_3b067 : Room := { frames := 2, cells := 0, slots := 0, locals := 43 }
abbrev rm_J0_charAt_5068e : Room := { frames := 3, cells := 0, slots := 0, locals := 64 }
theorem yk_J0_coder_7d493 : yok yJ0_coder_7d493 0 := by decide +kernel
set_option maxHeartbeats 4000000 in
set_option maxRecDepth 100000 in
theorem w_J0_coder_7d493 {G : gG} (hG : GOK G) {Z : gZ} (hZ : GS G Z) {l : Launch} {i : Nat} (hi : i < 11) {M : Mem} : CT G l yJ0_coder_7d493 (wT yJ0_coder_7d493 cJ0_coder_7d493 1 (some FieldType.byte)) rm_J0_coder_7d493 [.ref (Z.1 i)] M (some (.int 0)) M 0 0 := by
  refine CT_of (own := RJ0) (maxL := 1) (ret := (some FieldType.byte)) hG (by decide) rfl (Nat.le_of_ble_eq_true rfl) (fun p e s m below meth c A C0 hr hlk hM ls hl => ?_)
  have hl : lv_has ls 1 [(0, .ref (Z.1 i))] := hl
  generalize ([.ref (Z.1 i)] : List Value).toArray = args at C0 ⊢
  have hx := C0.1
  have hb := C0.2.1
  have hS := mr_sx C0 hZ
  refine mr_gets C0 hM hS.2.2.1 tw_366 dJ0_coder_7d493_0 ?_
  refine lv_if_eq (tgt := 13) hx hb dJ0_coder_7d493_3 (by decide) (fun h => absurd h (by decide)) (fun _ => ?_)
  refine lv_aload_n hx hb dJ0_coder_7d493_6 rfl (lv_at hl 0 rfl) ?_
  refine mr_getsf C0 hM (hS.1.1 i hi).2.1 tw_1180 dJ0_coder_7d493_7 ?_
  refine lv_goto (tgt := 14) hx hb dJ0_coder_7d493_10 (by decide) ?_
  exact mr_tret C0 hr hlk hM rfl rfl rfl (Nat.le_refl _) (Nat.le_refl _) dJ0_coder_7d493_14
theorem yk_J0_isLatin1_aae02 : yok yJ0_isLatin1_aae02 0 := by decide +kernel
set_option maxHeartbeats 4000000 in
set_option maxRecDepth 100000 in
theorem w_J0_isLatin1_aae02 {G : gG} (hG : GOK G) {Z : gZ} (hZ : GS G Z) {l : Launch} {i : Nat} (hi : i < 11) {M : Mem} : CT G l yJ0_isLatin1_aae02 (wT yJ0_isLatin1_aae02 cJ0_isLatin1_aae02 1 (some FieldType.boolean)) rm_J0_isLatin1_aae02 [.ref (Z.1 i)] M (some (.int 1)) M 0 0 := by
  refine CT_of (own := RJ0) (maxL := 1) (ret := (some FieldType.boolean)) hG (by decide) rfl (Nat.le_of_ble_eq_true rfl) (fun p e s m below meth c A C0 hr hlk hM ls hl => ?_)
  have hl : lv_has ls 1 [(0, .ref (Z.1 i))] := hl
  generalize ([.ref (Z.1 i)] : List Value).toArray = args at C0 ⊢
  have hx := C0.1
  have hb := C0.2.1
  have hS := mr_sx C0 hZ
  refine mr_gets C0 hM hS.2.2.1 tw_366 dJ0_isLatin1_aae02_0 ?_
  refine lv_if_eq (tgt := 17) hx hb dJ0_isLatin1_aae02_3 (by decide) (fun h => absurd h (by decide)) (fun _ => ?_)
  refine lv_aload_n hx hb dJ0_isLatin1_aae02_6 rfl (lv_at hl 0 rfl) ?_
  refine mr_getsf C0 hM (hS.1.1 i hi).2.1 tw_1180 dJ0_isLatin1_aae02_7 ?_
  refine lv_if_ne (tgt := 17) hx hb dJ0_isLatin1_aae02_10 (by decide) (fun h => absurd rfl h) (fun _ => ?_)
  refine lv_iconst (v := 1) hx hb dJ0_isLatin1_aae02_13 (by decide) ?_
  refine lv_goto (tgt := 18) hx hb dJ0_isLatin1_aae02_14 (by decide) ?_
  exact mr_zret C0 hr hlk hM rfl (Or.inr rfl) rfl (Nat.le_refl _) (Nat.le_refl _) dJ0_isLatin1_aae02_18
theorem sLen_sh : ∀ i, i < 11 → Int32.ofNat (zLen.getD i 0) >>> ((0 : Int32) &&& 31) = nI (zLen.getD i 0) := by decide +kernel
theorem yk_J0_length_8abf5 : yok yJ0_length_8abf5 0 := by decide +kernel
set_option maxHeartbeats 4000000 in
set_option maxRecDepth 100000 in
theorem w_J0_length_8abf5 {G : gG} (hG : GOK G) {Z : gZ} (hZ : GS G Z) {l : Launch} {i : Nat} {r : Int32} {M : Mem} (hp : sLen i = some r) : CT G l yJ0_length_8abf5 (wT yJ0_length_8abf5 cJ0_length_8abf5 1 (some FieldType.int)) rm_J0_length_8abf5 [.ref (Z.1 i)] M (some (.int r)) M 0 0 := by
  refine CT_of (own := RJ0) (maxL := 1) (ret := (some FieldType.int)) hG (by decide) rfl (Nat.le_of_ble_eq_true rfl) (fun p e s m below meth c A C0 hr hlk hM ls hl => ?_)
  obtain ⟨hi, hp⟩ := oG hp
  have hl : lv_has ls 1 [(0, .ref (Z.1 i))] := hl
  generalize ([.ref (Z.1 i)] : List Value).toArray = args at C0 ⊢
  have hx := C0.1
  have hb := C0.2.1
  have hS := mr_sx C0 hZ
  refine lv_aload_n hx hb dJ0_length_8abf5_0 rfl (lv_at hl 0 rfl) ?_
  refine mr_getsf C0 hM (hS.1.1 i hi).2.2.1 tw_1179 dJ0_length_8abf5_1 ?_
  refine va_tlen hx hb ((hS.1.1 i hi).2.2.2.narrow C0.2.2.2.2.2.2.2.1) hM.2.2 rfl dJ0_length_8abf5_4 ?_
  refine lv_aload_n hx hb dJ0_length_8abf5_5 rfl (lv_at hl 0 rfl) ?_
  refine mr_K1 (As := []) (rest := [.int (Int32.ofNat (zLen.getD i 0))]) C0 hZ hM hi rfl (w_J0_coder_7d493 hG hZ hi) tw_362 tw_363 tw_364 tw_8 tw_365 yk_J0_coder_7d493 (by decide) rfl hl.1 (Nat.le_of_ble_eq_true rfl) dJ0_length_8abf5_6 rfl (fun H locs hM => ?_)
  refine lv_ishr hx hb dJ0_length_8abf5_9 ?_
  exact mr_iret C0 hr hlk hM rfl ((sLen_sh i hi).trans (Option.some.inj hp)) (Nat.le_refl _) (Nat.le_refl _) dJ0_length_8abf5_10
theorem yk_J3_checkIndex_8e157 : yok yJ3_checkIndex_8e157 3 := by decide +kernel
set_option maxHeartbeats 4000000 in
set_option maxRecDepth 100000 in
theorem w_J3_checkIndex_8e157 {G : gG} (hG : GOK G) {Z : gZ} (hZ : GS G Z) {l : Launch} {i n : Int32} {q : Option Nat} (h0 : ¬ i < 0) (h1 : i < n) {M : Mem} : CT G l yJ3_checkIndex_8e157 (wT yJ3_checkIndex_8e157 cJ3_checkIndex_8e157 3 (some FieldType.int)) rm_J3_checkIndex_8e157 [.int i, .int n, va_rf q] M (some (.int i)) M 0 0 := by
  cases q with
  | none =>
    refine CT_of (own := RJ3) (maxL := 3) (ret := (some FieldType.int)) hG (by decide) rfl (Nat.le_of_ble_eq_true rfl) (fun p e s m below meth c A C0 hr hlk hM ls hl => ?_)
    have hl : lv_has ls 3 [(0, .int i), (1, .int n), (2, .null)] := hl
    have hx := C0.1
    have hb := C0.2.1
    refine lv_iload_n hx hb dJ3_checkIndex_8e157_0 rfl (lv_at hl 0 rfl) ?_
    refine lv_if_lt (tgt := 9) hx hb dJ3_checkIndex_8e157_1 (by decide) (fun h => absurd h h0) (fun _ => ?_)
    refine lv_iload_n hx hb dJ3_checkIndex_8e157_4 rfl (lv_at hl 0 rfl) ?_
    refine lv_iload_n hx hb dJ3_checkIndex_8e157_5 rfl (lv_at hl 1 rfl) ?_
    refine lv_icmp_lt (tgt := 16) hx hb dJ3_checkIndex_8e157_6 (by decide) (fun _ => ?_) (fun h => absurd h1 h)
    refine lv_iload_n hx hb dJ3_checkIndex_8e157_16 rfl (lv_at hl 0 rfl) ?_
    exact mr_iret C0 hr hlk hM rfl rfl (Nat.le_refl _) (Nat.le_refl _) dJ3_checkIndex_8e157_17
  | some q =>
    refine CT_of (own := RJ3) (maxL := 3) (ret := (some FieldType.int)) hG (by decide) rfl (Nat.le_of_ble_eq_true rfl) (fun p e s m below meth c A C0 hr hlk hM ls hl => ?_)
    have hl : lv_has ls 3 [(0, .int i), (1, .int n), (2, .ref q)] := hl
    have hx := C0.1
    have hb := C0.2.1
    refine lv_iload_n hx hb dJ3_checkIndex_8e157_0 rfl (lv_at hl 0 rfl) ?_
    refine lv_if_lt (tgt := 9) hx hb dJ3_checkIndex_8e157_1 (by decide) (fun h => absurd h h0) (fun _ => ?_)
    refine lv_iload_n hx hb dJ3_checkIndex_8e157_4 rfl (lv_at hl 0 rfl) ?_
    refine lv_iload_n hx hb dJ3_checkIndex_8e157_5 rfl (lv_at hl 1 rfl) ?_
    refine lv_icmp_lt (tgt := 16) hx hb dJ3_checkIndex_8e157_6 (by decide) (fun _ => ?_) (fun h => absurd h1 h)
    refine lv_iload_n hx hb dJ3_checkIndex_8e157_16 rfl (lv_at hl 0 rfl) ?_
    exact mr_iret C0 hr hlk hM rfl rfl (Nat.le_refl _) (Nat.le_refl _) dJ3_checkIndex_8e157_17
theorem yk_J0_checkIndex_df160 : yok yJ0_checkIndex_df160 2 := by decide +kernel
set_option maxHeartbeats 4000000 in
set_option maxRecDepth 100000 in
theorem w_J0_checkIndex_df160 {G : gG} (hG : GOK G) {Z : gZ} (hZ : GS G Z) {l : Launch} {i n : Int32} (h0 : ¬ i < 0) (h1 : i < n) {M : Mem} : CT G l yJ0_checkIndex_df160 (wT yJ0_checkIndex_df160 cJ0_checkIndex_df160 2 (none)) rm_J0_checkIndex_df160 [.int i, .int n] M none M 0 0 := by
  refine CT_of (own := RJ0) (maxL := 2) (ret := (none)) hG (by decide) rfl (Nat.le_of_ble_eq_true rfl) (fun p e s m below meth c A C0 hr hlk hM ls hl => ?_)
  have hl : lv_has ls 2 [(0, .int i), (1, .int n)] := hl
  generalize ([.int i, .int n] : List Value).toArray = args at C0 ⊢
  have hx := C0.1
  have hb := C0.2.1
  have hS := mr_sx C0 hZ
  refine lv_iload_n hx hb dJ0_checkIndex_df160_0 rfl (lv_at hl 0 rfl) ?_
  refine lv_iload_n hx hb dJ0_checkIndex_df160_1 rfl (lv_at hl 1 rfl) ?_
  obtain ⟨q, hq⟩ : ∃ q : Option Nat, va_Z "jdk/internal/util/Preconditions" "SIOOBE_FORMATTER" "Ljava/util/function/BiFunction;" (va_rf q) (fun q => G.2.2.1 ≤ q) s s.heap := by
    rcases hS.2.2.2.1 with h | ⟨t, h⟩
    · exact ⟨none, h⟩
    · exact ⟨some t, h⟩
  refine mr_gets C0 hM hq tw_382 dJ0_checkIndex_df160_2 ?_
  refine mr_S1 (As := [.int i, .int n, va_rf q]) (rest := []) C0 hM (w_J3_checkIndex_8e157 hG hZ h0 h1) tw_384 tw_385 tw_24 tw_386 yk_J3_checkIndex_8e157 (by decide) rfl hl.1 (Nat.le_of_ble_eq_true rfl) dJ0_checkIndex_df160_5 rfl (fun H locs hM => ?_)
  refine lv_pop hx hb dJ0_checkIndex_df160_8 rfl ?_
  exact mr_vret C0 hr hlk hM rfl (Nat.le_refl _) (Nat.le_refl _) dJ0_checkIndex_df160_9
theorem yk_J1_charAt_3b067 : yok yJ1_charAt_3b067 2 := by decide +kernel
set_option maxHeartbeats 4000000 in
set_option maxRecDepth 100000 in
theorem w_J1_charAt_3b067 {G : gG} (hG : GOK G) {Z : gZ} (hZ : GS G Z) {l : Launch} {i : Nat} (hi : i < 11) {k r : Int32} {M : Mem} (hp : sAt i k = some r) : CT G l yJ1_charAt_3b067 (wT yJ1_charAt_3b067 cJ1_charAt_3b067 2 (some FieldType.char)) rm_J1_charAt_3b067 [.ref (Z.2.1 i), .int k] M (some (.int r)) M 0 0 := by
  refine CT_of (own := RJ1) (maxL := 2) (ret := (some FieldType.char)) hG (by decide) rfl (Nat.le_of_ble_eq_true rfl) (fun p e s m below meth c A C0 hr hlk hM ls hl => ?_)
  obtain ⟨hk, hp⟩ := oG hp
  have hl : lv_has ls 2 [(0, .ref (Z.2.1 i)), (1, .int k)] := hl
  generalize ([.ref (Z.2.1 i), .int k] : List Value).toArray = args at C0 ⊢
  have hx := C0.1
  have hb := C0.2.1
  have hS := mr_sx C0 hZ
  have hT := (hS.1.1 i hi).2.2.2.narrow C0.2.2.2.2.2.2.2.1
  refine lv_iload_n hx hb dJ1_charAt_3b067_0 rfl (lv_at hl 1 rfl) ?_
  refine lv_aload_n hx hb dJ1_charAt_3b067_1 rfl (lv_at hl 0 rfl) ?_
  refine va_tlen hx hb hT hM.2.2 rfl dJ1_charAt_3b067_2 ?_
  have hk0 : ¬ k < 0 := fun h => hk.2 (Or.inl h)
  have hk1 : k < Int32.ofNat (zLen.getD i 0) := by
    have hb2 : zLen.getD i 0 < 2 ^ 31 := by
      have : ∀ i, i < 11 → zLen.getD i 0 < 2 ^ 31 := by decide +kernel
      exact this i hi
    obtain ⟨j, hj, rfl⟩ := vp_in_of hk.2 hb2
    exact nI_lt hj hb2
  refine mr_S0 (As := [.int k, .int (Int32.ofNat (zLen.getD i 0))]) (rest := []) C0 hM (w_J0_checkIndex_df160 hG hZ hk0 hk1) tw_379 tw_380 tw_8 tw_381 yk_J0_checkIndex_df160 (by decide) rfl hl.1 (Nat.le_of_ble_eq_true rfl) dJ1_charAt_3b067_3 rfl (fun H locs hM => ?_)
  refine lv_aload_n hx hb dJ1_charAt_3b067_6 rfl (lv_at hl 0 rfl) ?_
  refine lv_iload_n hx hb dJ1_charAt_3b067_7 rfl (lv_at hl 1 rfl) ?_
  refine va_tb hx hb hT hM.2.2 hk.2 rfl dJ1_charAt_3b067_8 ?_
  refine lv_sipush (v := 255) hx hb dJ1_charAt_3b067_9 (by decide) ?_
  refine lv_iand hx hb dJ1_charAt_3b067_12 ?_
  refine lv_i2c hx hb dJ1_charAt_3b067_13 rfl ?_
  exact mr_tret C0 hr hlk hM rfl (pk_nc _) (Option.some.inj hp) (Nat.le_refl _) (Nat.le_refl _) dJ1_charAt_3b067_14
theorem yk_J0_charAt_5068e : yok yJ0_charAt_5068e 1 := by decide +kernel
set_option maxHeartbeats 4000000 in
set_option maxRecDepth 100000 in
theorem w_J0_charAt_5068e {G : gG} (hG : GOK G) {Z : gZ} (hZ : GS G Z) {l : Launch} {i : Nat} {k r : Int32} {M : Mem} (hp : sAt i k = some r) : CT G l yJ0_charAt_5068e (wT yJ0_charAt_5068e cJ0_charAt_5068e 2 (some FieldType.char)) rm_J0_charAt_5068e [.ref (Z.1 i), .int k] M (some (.int r)) M 0 0 := by
  refine CT_of (own := RJ0) (maxL := 2) (ret := (some FieldType.char)) hG (by decide) rfl (Nat.le_of_ble_eq_true rfl) (fun p e s m below meth c A C0 hr hlk hM ls hl => ?_)
  have hi : i < 11 := (oG hp).1.1
  have hn : narrow .char (.int r) = .int r := by
    have h9 := Option.some.inj (oG hp).2
    rw [← h9]
    exact pk_nc _
  have hl : lv_has ls 2 [(0, .ref (Z.1 i)), (1, .int k)] := hl
  generalize ([.ref (Z.1 i), .int k] : List Value).toArray = args at C0 ⊢
  have hx := C0.1
  have hb := C0.2.1
  have hS := mr_sx C0 hZ
  refine lv_aload_n hx hb dJ0_charAt_5068e_0 rfl (lv_at hl 0 rfl) ?_
  refine mr_K1 (As := []) (rest := []) C0 hZ hM hi rfl (w_J0_isLatin1_aae02 hG hZ hi) tw_372 tw_373 tw_374 tw_8 tw_375 yk_J0_isLatin1_aae02 (by decide) rfl hl.1 (Nat.le_of_ble_eq_true rfl) dJ0_charAt_5068e_1 rfl (fun H locs hM => ?_)
  refine lv_if_eq (tgt := 16) hx hb dJ0_charAt_5068e_4 (by decide) (fun h => absurd h (by decide)) (fun _ => ?_)
  refine lv_aload_n hx hb dJ0_charAt_5068e_7 rfl (lv_at hl 0 rfl) ?_
  refine mr_getsf C0 hM (hS.1.1 i hi).2.2.1 tw_1179 dJ0_charAt_5068e_8 ?_
  refine lv_iload_n hx hb dJ0_charAt_5068e_11 rfl (lv_at hl 1 rfl) ?_
  refine mr_S1 (As := [.ref (Z.2.1 i), .int k]) (rest := []) C0 hM (w_J1_charAt_3b067 hG hZ hi hp) tw_376 tw_377 tw_9 tw_378 yk_J1_charAt_3b067 (by decide) rfl hl.1 (Nat.le_of_ble_eq_true rfl) dJ0_charAt_5068e_12 rfl (fun H locs hM => ?_)
  exact mr_tret C0 hr hlk hM rfl hn rfl (Nat.le_refl _) (Nat.le_refl _) dJ0_charAt_5068e_15
