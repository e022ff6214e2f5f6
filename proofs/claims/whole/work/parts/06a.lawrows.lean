theorem twh_722 : Cond.codeWith (⟨"PlaceOfficeLaw", "count", "(LPlaceOffice;I[J)I"⟩ : MethodName) method_3_code 4 (some FieldType.int) [(0, 9, 12, 13)] ∈ TT := twI 722 (by decide +kernel) (by decide +kernel)
theorem twh_802 : Cond.codeWith (⟨"PlaceOfficeLaw", "school", "(LPlaceOffice;II[J)I"⟩ : MethodName) method_4_code 5 (some FieldType.int) [(0, 10, 13, 19), (0, 10, 17, 13)] ∈ TT := twI 802 (by decide +kernel) (by decide +kernel)
theorem twh_836 : Cond.codeWith (⟨"PlaceOfficeLaw", "rule", "(LPlaceOffice;II[J)I"⟩ : MethodName) method_5_code 5 (some FieldType.int) [(0, 10, 13, 19), (0, 10, 17, 24)] ∈ TT := twI 836 (by decide +kernel) (by decide +kernel)
theorem twh_860 : Cond.codeWith (⟨"PlaceOfficeLaw", "child", "(LPlaceOffice;II[J)I"⟩ : MethodName) method_6_code 5 (some FieldType.int) [(0, 10, 13, 19), (0, 10, 17, 13)] ∈ TT := twI 860 (by decide +kernel) (by decide +kernel)
theorem twh_874 : Cond.codeWith (⟨"PlaceOfficeLaw", "preference", "(LPlaceOffice;II[J)I"⟩ : MethodName) method_7_code 5 (some FieldType.int) [(0, 10, 13, 19), (0, 10, 17, 24)] ∈ TT := twI 874 (by decide +kernel) (by decide +kernel)
theorem twh_882 : Cond.codeWith (⟨"PlaceOfficeLaw", "placeOf", "(LPlaceOffice;I[J)I"⟩ : MethodName) method_8_code 4 (some FieldType.int) [(0, 9, 12, 19)] ∈ TT := twI 882 (by decide +kernel) (by decide +kernel)
theorem twh_889 : Cond.codeWith (⟨"PlaceOfficeLaw", "gotPreference", "(LPlaceOffice;I[J)I"⟩ : MethodName) method_9_code 4 (some FieldType.int) [(0, 9, 12, 19)] ∈ TT := twI 889 (by decide +kernel) (by decide +kernel)
theorem twh_896 : Cond.codeWith (⟨"PlaceOfficeLaw", "meets", "(LPlaceOffice;III[J)I"⟩ : MethodName) method_10_code 6 (some FieldType.int) [(0, 19, 22, 19), (0, 19, 26, 13)] ∈ TT := twI 896 (by decide +kernel) (by decide +kernel)
theorem twh_904 : Cond.codeWith (⟨"PlaceOfficeLaw", "classOf", "(LPlaceOffice;II[J)I"⟩ : MethodName) method_11_code 5 (some FieldType.int) [(0, 10, 13, 19)] ∈ TT := twI 904 (by decide +kernel) (by decide +kernel)
theorem twh_912 : Cond.codeWith (⟨"PlaceOfficeLaw", "distance", "(LPlaceOffice;II[J)I"⟩ : MethodName) method_12_code 5 (some FieldType.int) [(0, 10, 13, 19)] ∈ TT := twI 912 (by decide +kernel) (by decide +kernel)
theorem twh_919 : Cond.codeWith (⟨"PlaceOfficeLaw", "comesFirst", "(LPlaceOffice;III[J)I"⟩ : MethodName) method_13_code 6 (some FieldType.int) [(0, 19, 22, 19)] ∈ TT := twI 919 (by decide +kernel) (by decide +kernel)
theorem twh_927 : Cond.codeWith (⟨"PlaceOfficeLaw", "holder", "(LPlaceOffice;II[J)I"⟩ : MethodName) method_14_code 5 (some FieldType.int) [(0, 10, 13, 19), (0, 10, 17, 24)] ∈ TT := twI 927 (by decide +kernel) (by decide +kernel)
theorem twh_943 : Cond.codeWith (⟨"PlaceOfficeLaw", "waiting", "(LPlaceOffice;II[J)I"⟩ : MethodName) method_15_code 5 (some FieldType.int) [(0, 10, 13, 19), (0, 10, 17, 24)] ∈ TT := twI 943 (by decide +kernel) (by decide +kernel)
theorem twh_951 : Cond.codeWith (⟨"PlaceOfficeLaw", "waitingPlace", "(LPlaceOffice;II[J)I"⟩ : MethodName) method_16_code 5 (some FieldType.int) [(0, 10, 13, 19)] ∈ TT := twI 951 (by decide +kernel) (by decide +kernel)
theorem twh_960 : Cond.codeWith (⟨"PlaceOfficeLaw", "hasClaim", "(LPlaceOffice;II[J)I"⟩ : MethodName) method_17_code 5 (some FieldType.int) [(0, 17, 20, 19)] ∈ TT := twI 960 (by decide +kernel) (by decide +kernel)
theorem twh_967 : Cond.codeWith (⟨"PlaceOfficeLaw", "roundOf", "(LPlaceOffice;I[J)I"⟩ : MethodName) method_18_code 4 (some FieldType.int) [(0, 9, 12, 19)] ∈ TT := twI 967 (by decide +kernel) (by decide +kernel)
theorem twh_974 : Cond.codeWith (⟨"PlaceOfficeLaw", "addChild", "(LPlaceOffice;IIIZI[J)I"⟩ : MethodName) method_19_code 8 (some FieldType.int) [(0, 16, 19, 13), (0, 16, 23, 71)] ∈ TT := twI 974 (by decide +kernel) (by decide +kernel)
theorem twh_1010 : Cond.codeWith (⟨"PlaceOfficeLaw", "withdraw", "(LPlaceOffice;I[J)I"⟩ : MethodName) method_20_code 4 (some FieldType.int) [(0, 9, 12, 19), (0, 9, 15, 71)] ∈ TT := twI 1010 (by decide +kernel) (by decide +kernel)
theorem twh_1022 : Cond.codeWith (⟨"PlaceOfficeLaw", "giveBack", "(LPlaceOffice;I[J)I"⟩ : MethodName) method_21_code 4 (some FieldType.int) [(0, 9, 12, 19), (0, 9, 15, 71)] ∈ TT := twI 1022 (by decide +kernel) (by decide +kernel)
theorem twh_1036 : Cond.codeWith (⟨"PlaceOfficeLaw", "moveHome", "(LPlaceOffice;III[J)I"⟩ : MethodName) method_22_code 6 (some FieldType.int) [(0, 12, 15, 19), (0, 12, 19, 13)] ∈ TT := twI 1036 (by decide +kernel) (by decide +kernel)
theorem twh_1043 : Cond.codeWith (⟨"PlaceOfficeLaw", "setCapacity", "(LPlaceOffice;II[J)I"⟩ : MethodName) method_23_code 5 (some FieldType.int) [(0, 10, 13, 19), (0, 10, 17, 13)] ∈ TT := twI 1043 (by decide +kernel) (by decide +kernel)
theorem twh_1054 : Cond.codeWith (⟨"PlaceOfficeLaw", "appeal", "(LPlaceOffice;II[J)I"⟩ : MethodName) method_24_code 5 (some FieldType.int) [(0, 10, 13, 19), (0, 10, 17, 71)] ∈ TT := twI 1054 (by decide +kernel) (by decide +kernel)
theorem twh_1067 : Cond.codeWith (⟨"PlaceOfficeLaw", "lastHolder", "(LPlaceOffice;I[J)I"⟩ : MethodName) method_25_code 4 (some FieldType.int) [(0, 9, 12, 19)] ∈ TT := twI 1067 (by decide +kernel) (by decide +kernel)
theorem twh_1075 : Cond.codeWith (⟨"PlaceOfficeLaw", "way", "(LPlaceOffice;I[D)I"⟩ : MethodName) method_26_code 4 (some FieldType.int) [(0, 9, 12, 19)] ∈ TT := twI 1075 (by decide +kernel) (by decide +kernel)
theorem twh_1083 : Cond.codeWith (⟨"PlaceOfficeLaw", "wanted", "(LPlaceOffice;II[J)I"⟩ : MethodName) method_27_code 5 (some FieldType.int) [(0, 10, 13, 19)] ∈ TT := twI 1083 (by decide +kernel) (by decide +kernel)
theorem twh_1090 : Cond.codeWith (⟨"PlaceOfficeLaw", "inZone", "(LPlaceOffice;I[J)I"⟩ : MethodName) method_28_code 4 (some FieldType.int) [(0, 9, 12, 19)] ∈ TT := twI 1090 (by decide +kernel) (by decide +kernel)
theorem twh_1097 : Cond.codeWith (⟨"PlaceOfficeLaw", "cutoff", "(LPlaceOffice;II[J)I"⟩ : MethodName) method_29_code 5 (some FieldType.int) [(0, 10, 13, 19), (0, 10, 17, 13)] ∈ TT := twI 1097 (by decide +kernel) (by decide +kernel)
theorem twh_1104 : Cond.codeWith (⟨"PlaceOfficeLaw", "nearest", "(LPlaceOffice;I[J)I"⟩ : MethodName) method_30_code 4 (some FieldType.int) [(0, 9, 12, 19)] ∈ TT := twI 1104 (by decide +kernel) (by decide +kernel)
theorem twh_1111 : Cond.codeWith (⟨"PlaceOfficeLaw", "chainOf", "(LPlaceOffice;I[J)I"⟩ : MethodName) method_31_code 4 (some FieldType.int) [(0, 9, 12, 19)] ∈ TT := twI 1111 (by decide +kernel) (by decide +kernel)
theorem twh_1118 : Cond.codeWith (⟨"PlaceOfficeLaw", "tradePartner", "(LPlaceOffice;I[J)I"⟩ : MethodName) method_32_code 4 (some FieldType.int) [(0, 9, 12, 19)] ∈ TT := twI 1118 (by decide +kernel) (by decide +kernel)
theorem twh_1125 : Cond.codeWith (⟨"PlaceOfficeLaw", "holdersOfClass", "(LPlaceOffice;II[J)I"⟩ : MethodName) method_33_code 5 (some FieldType.int) [(0, 10, 13, 19)] ∈ TT := twI 1125 (by decide +kernel) (by decide +kernel)
theorem twh_1132 : Cond.codeWith (⟨"PlaceOfficeLaw", "triesOf", "(LPlaceOffice;I[J)I"⟩ : MethodName) method_34_code 4 (some FieldType.int) [(0, 9, 12, 19)] ∈ TT := twI 1132 (by decide +kernel) (by decide +kernel)
theorem twh_1143 : Cond.codeWith (⟨"PlaceOfficeLaw", "siblings", "(LPlaceOffice;I[J)I"⟩ : MethodName) method_35_code 4 (some FieldType.int) [(0, 8, 11, 19)] ∈ TT := twI 1143 (by decide +kernel) (by decide +kernel)
theorem twh_1151 : Cond.codeWith (⟨"PlaceOfficeLaw", "placeWith", "(LPlaceOffice;III[J)I"⟩ : MethodName) method_36_code 6 (some FieldType.int) [(0, 12, 15, 19), (0, 12, 19, 13)] ∈ TT := twI 1151 (by decide +kernel) (by decide +kernel)
theorem twh_1158 : Cond.codeWith (⟨"PlaceOfficeLaw", "neededCapacity", "(LPlaceOffice;II[J)I"⟩ : MethodName) method_37_code 5 (some FieldType.int) [(0, 10, 13, 19)] ∈ TT := twI 1158 (by decide +kernel) (by decide +kernel)
theorem twh_1165 : Cond.codeWith (⟨"PlaceOfficeLaw", "gainersWithout", "(LPlaceOffice;I[J)I"⟩ : MethodName) method_38_code 4 (some FieldType.int) [(0, 8, 11, 19)] ∈ TT := twI 1165 (by decide +kernel) (by decide +kernel)
theorem twh_1172 : Cond.codeWith (⟨"PlaceOfficeLaw", "bestByOrder", "(LPlaceOffice;I[J)I"⟩ : MethodName) method_39_code 4 (some FieldType.int) [(0, 9, 12, 19)] ∈ TT := twI 1172 (by decide +kernel) (by decide +kernel)
theorem twh_1179 : Cond.codeWith (⟨"PlaceOfficeLaw", "printSchool", "(LPlaceOffice;I[J)I"⟩ : MethodName) method_40_code 4 (some FieldType.int) [(0, 9, 12, 19)] ∈ TT := twI 1179 (by decide +kernel) (by decide +kernel)
theorem twh_1208 : Cond.codeWith (⟨"PlaceOfficeLaw", "restoreState", "(LPlaceOffice;[J)I"⟩ : MethodName) method_41_code 3 (some FieldType.int) [(0, 8, 11, 71)] ∈ TT := twI 1208 (by decide +kernel) (by decide +kernel)
/-- the words of a method with a handler table -/
abbrev wH (y : MethodName) (cc : ByteArray) (maxL : Nat) (ret : Option FieldType) (hh : List (Nat × Nat × Nat × Nat)) : List Cond := Cond.codeWith y cc maxL ret hh :: TT
theorem gH {w0 : Cond} {us : List Cond} {y : MethodName} {cc : ByteArray} {maxL : Nat} {ret : Option FieldType} {hh : List (Nat × Nat × Nat × Nat)} (h : ∀ w ∈ us, w ∈ TT) (h0 : goodWord w0 = true) (hc : Cond.codeWith y cc maxL ret hh ∈ TT) : GoodIn (w0 :: TT) (us ++ wH y cc maxL ret hh) := by
  intro w hw
  have h1 : w ∈ TT := by
    rcases List.mem_append.mp hw with h2 | h2
    · exact h w h2
    · rcases List.mem_cons.mp h2 with h3 | h3
      · rw [h3]; exact hc
      · exact h3
  exact ⟨List.mem_cons_of_mem _ h1, TT_good w h1⟩
theorem gH0 {us : List Cond} {y : MethodName} {cc : ByteArray} {maxL : Nat} {ret : Option FieldType} {hh : List (Nat × Nat × Nat × Nat)} (h : ∀ w ∈ us, w ∈ TT) (hc : Cond.codeWith y cc maxL ret hh ∈ TT) : GoodIn TT (us ++ wH y cc maxL ret hh) := by
  intro w hw
  have h1 : w ∈ TT := by
    rcases List.mem_append.mp hw with h2 | h2
    · exact h w h2
    · rcases List.mem_cons.mp h2 with h3 | h3
      · rw [h3]; exact hc
      · exact h3
  exact ⟨h1, TT_good w h1⟩
/-- a body with handlers that comes back -/
theorem Met_ofWH {l : Launch} {y : MethodName} {ws ws' : List Cond} {rm : Room} {Pc : Array Value → State → Prop} {Qc : Array Value → State → Outcome → State → Prop} {mc ms : Nat} {free : Addr → Prop} {cc : ByteArray} {maxL : Nat} {ret : Option FieldType} {hh : List (Nat × Nat × Nat × Nat)}
    (hy : plainName y.cls = true) (hw : ws = Cond.codeWith y cc maxL ret hh :: ws')
    (body : ∀ p e s m args below meth c s₁, BodyLoose p l y (headSpec ws rm) cc maxL ret e s m args below meth c s₁ → c.maxLocals = maxL → Pc args s →
      W p l e (headSpec ws rm).room s m args below meth c s.heap [] 0 0 (MQ below Qc args s mc ms free) (entryFrame m args maxL)) : Met l y ws rm Pc Qc mc ms free := by
  refine MetFree.of_bodyS (code := cc) (maxLocals := maxL) (ret := ret) hy ?_ ?_
  · intro args s m h hn
    obtain ⟨m9, meth, c, hn9, h1, h2, h3, h4, -, h5, h6, -⟩ := Cond.codeWith_spec (atoms_spec (ws := ws) h _ (by rw [hw]; exact List.mem_cons_self))
    cases hn.symm.trans hn9
    exact ⟨meth, c, h1, h2, h3, h4, h5, h6⟩
  · intro p e s m args below meth c s₁ B hml hP _
    have hh0 : s₁.heap = s.heap := by rw [B.state]; rfl
    obtain ⟨t, a1, o, b1, b2, b3⟩ := body p e s m args below meth c s₁ B hml hP s₁ hh0 (Stand.of_body B)
    exact ⟨t, o, a1, b1, b2, ⟨b3.1, b3.2⟩⟩
theorem CTH_of {G : gG} (hG : GOK G) {l : Launch} {y : MethodName} {cc : ByteArray} {own : String} {maxL : Nat} {ret : Option FieldType} {hh : List (Nat × Nat × Nat × Nat)} {rm : Room} {av : List Value} {M M' : Mem} {v : Option Value} {mc ms : Nat}
    (hy : plainName y.cls = true) (ho : y.cls = own) (hav : (lg_sl av).length ≤ maxL)
    (body : ∀ (p : Program) (e : Env) (s : State) (m : MethodId) (below : List Frame) (meth : Method) (c : Code) (A : Nat → Prop), cx G p s m av.toArray c cc own maxL A → meth.sig.returnType = ret → meth.locks = false → c.exceptionTable.toList = tableOf hh → mm G A s M s.heap [] → ∀ ls : Array Slot, lv_has ls maxL (lv_args 0 av) →
      W p l e rm s m av.toArray below meth c s.heap [] 0 0 (MQ below (CQ G M' v A) av.toArray s mc ms A) (F0 m 0 ls [])) : CT G l y (wH y cc maxL ret hh) rm av M v M' mc ms := by
  intro sz
  refine Met_ofWH (cc := cc) (maxL := maxL) (ret := ret) hy rfl ?_
  intro p e s m args below meth c s₁ B hml hv
  obtain ⟨rfl, hsz, hP, hK⟩ := hv
  have hts := atoms_spec (ws := wH y cc maxL ret hh) B.pre
  have hown : s.vm.findClass own = some m.cls := by rw [← ho]; exact findClass_of_methodNamed B.named
  subst hsz
  rw [lg_entry_eq]
  refine body p e s m below meth c (AM M s.heap.size) ⟨B.exec, B.bytes, hml, hown, fun w h => hts w (List.mem_cons_of_mem _ h), hK, fun q h => Or.inr h, fun q h => ?_, hG⟩ B.returns B.notSynchronized (vx_table (x := y) B (hts _ List.mem_cons_self)) ⟨hP, fun q x h => Or.inl ⟨x, h⟩, va_S.rf⟩ _ (lv_entry av hav)
  rcases h with ⟨x, h⟩ | h
  · exact (hP q x h).2
  · exact Nat.le_trans hK.2.1 h
/-- a call in a try: its answer, or the class that it threw -/
def ctc {α β : Type} (x : Option (α ⊕ String)) (f : α → Option β) (h : String → Option β) : Option β := match x with
  | none => none
  | some (.inl v) => f v
  | some (.inr E) => h E
theorem ctc_at {α β : Type} {x : Option (α ⊕ String)} {f : α → Option β} {h : String → Option β} {r : β} (e : ctc x f h = some r) : (∃ E, x = some (.inr E) ∧ h E = some r) ∨ ∃ v, x = some (.inl v) ∧ f v = some r := by
  cases x with
  | none => cases e
  | some y =>
    cases y with
    | inl v => exact Or.inr ⟨v, rfl, e⟩
    | inr E => exact Or.inl ⟨E, rfl, e⟩
def ctc2 {α β : Type} (x : Option ((α × Mem) ⊕ String)) (f : α → Mem → Option β) (h : String → Option β) : Option β := match x with
  | none => none
  | some (.inl v) => f v.1 v.2
  | some (.inr E) => h E
theorem ctc2_at {α β : Type} {x : Option ((α × Mem) ⊕ String)} {f : α → Mem → Option β} {h : String → Option β} {r : β} (e : ctc2 x f h = some r) : (∃ E, x = some (.inr E) ∧ h E = some r) ∨ ∃ v M, x = some (.inl (v, M)) ∧ f v M = some r := by
  cases x with
  | none => cases e
  | some y =>
    cases y with
    | inl v => exact Or.inr ⟨v.1, v.2, rfl, e⟩
    | inr E => exact Or.inl ⟨E, rfl, e⟩
theorem cst {s : State} {args : Array Value} {E : String} {b : Nat} (hY : SY b s) (h : Cond.castable E E ∈ DW) : (Cond.castable E E).before args s = true := va_Nw.use rfl (hY.1 _ h)
section ML
variable {G : gG} {p : Program} {l : Launch} {e : Env} {R : Room} {s : State} {m : MethodId} {args : Array Value} {below : List Frame} {meth : Method} {c : Code} {H : Heap} {locs : List Loc} {cells slots : Nat} {Q : State → Prop}
variable {cc : ByteArray} {pc nL : Nat} {ls : Array Slot} {rest : List Value} {A : Nat → Prop} {a : Nat} {own : String} {M M' M0 : Mem} {ci N index : Nat} {C : String} {T : u_T} {ty : Nat → FieldType} {mc ms : Nat}
variable {y : MethodName} {bytes : ByteArray} {maxL n : Nat} {ret : Option FieldType} {rm : Room} {As : List Value} {b : Nat} {hh : List (Nat × Nat × Nat × Nat)}
/-- the first handler takes it -/
theorem ml_c1 {E : String} {ce : Cell} {q : Addr} {a1 b1 h1 t1 : Nat} {hs : List (Nat × Nat × Nat × Nat)} (C0 : cx G p s m args c cc own nL A) (hY : SY G.2.2.1 s) (ht : c.exceptionTable.toList = tableOf ((a1, b1, h1, t1) :: hs)) (hx : a1 ≤ pc ∧ pc < b1) (h0 : t1 ≠ 0) (hlink : Cond.classLink own t1 E ∈ TT) (hcast : Cond.castable E E ∈ DW) (hcell : H[q]? = some ce) (hv : ce.vm = .none) (hcl : s.vm.findClass E = some ce.cls)
    (kk : W p l e R s m args below meth c H locs cells slots Q (F0 m h1 ls [.ref q])) : vx_W p l e R s m args below meth c H locs cells slots Q (F0 m pc ls rest) q :=
  vx_catch (E := E) (name := E) (own := own) C0.2.2.2.1 [] ⟨a1, b1, h1, t1⟩ (tableOf hs) ht (fun z hz => nomatch hz) (by simp [covers, hx.1, hx.2]) h0 (C0.2.2.2.2.1 _ hlink) (cst hY hcast) hcell hv hcl kk
/-- the second -/
theorem ml_c2 {E E1 : String} {ce : Cell} {q : Addr} {a0 b0 h0' t0 a1 b1 h1 t1 : Nat} {hs : List (Nat × Nat × Nat × Nat)} (C0 : cx G p s m args c cc own nL A) (hY : SY G.2.2.1 s) (ht : c.exceptionTable.toList = tableOf ((a0, b0, h0', t0) :: (a1, b1, h1, t1) :: hs)) (hx : a1 ≤ pc ∧ pc < b1) (h0 : t1 ≠ 0) (hz0 : t0 ≠ 0) (hl0 : Cond.classLink own t0 E1 ∈ TT) (hnc : (E, E1) ∈ ncs) (hlink : Cond.classLink own t1 E ∈ TT) (hcast : Cond.castable E E ∈ DW) (hcell : H[q]? = some ce) (hv : ce.vm = .none) (hcl : s.vm.findClass E = some ce.cls)
    (kk : W p l e R s m args below meth c H locs cells slots Q (F0 m h1 ls [.ref q])) : vx_W p l e R s m args below meth c H locs cells slots Q (F0 m pc ls rest) q :=
  vx_catch (E := E) (name := E) (own := own) C0.2.2.2.1 [⟨a0, b0, h0', t0⟩] ⟨a1, b1, h1, t1⟩ (tableOf hs) ht (fun z hz => by
    rw [List.mem_singleton.mp hz]
    exact Or.inr ⟨hz0, E1, C0.2.2.2.2.1 _ hl0, hY.2.2.2.2 _ hnc⟩) (by simp [covers, hx.1, hx.2]) h0 (C0.2.2.2.2.1 _ hlink) (cst hY hcast) hcell hv hcl kk
/-- a static call of a method with handlers, at any cells -/
theorem ml_S1 {x : Value} {st0 : List Value} (C0 : cx G p s m args c cc own nL A) (hM : mm G A s M H locs) (hct : CT G l y (wH y bytes maxL ret hh) rm As M (some x) M' mc ms) (w1 : Cond.methodLink own index y ∈ TT) (w2 : Cond.static y ∈ TT) (w4 : Cond.initialized y.cls ∈ TT) (w5 : Cond.codeWith y bytes maxL ret hh ∈ TT) (hy : yok y n) (hrm : rok rm maxL R mc ms cells slots) (hn : As.length = n) (hl : ls.size = nL) (hw : (rest.map fun v => v.category).sum ≤ 8) (hdg : decode cc pc = .ok (.invokestatic index, 3)) (hst : As.reverse ++ rest = st0)
    (kk : ∀ (H1 : Heap) (locs1 : List Loc), mm G A s M' H1 locs1 → W p l e R s m args below meth c H1 locs1 (cells + mc) (slots + ms) Q (F0 m (pc + 3) ls (x :: rest))) : W p l e R s m args below meth c H locs cells slots Q (F0 m pc ls st0) := by
  subst hst
  exact mr_back C0 hM (vx_runSW (Ts := TT) ⟨C0.1, C0.2.1, C0.2.2.1, C0.2.2.2.1, C0.2.2.2.2.1⟩ (hct H.size) (vx_cwSW n C0.2.2.2.2.1 (gH0 (us := [.methodLink own index y, .static y, .initialized y.cls]) (fun w h => by
      simp only [List.mem_cons, List.not_mem_nil, or_false] at h
      rcases h with rfl | rfl | rfl <;> assumption) w5) rfl hrm.1.1 hrm.1.2 hy hrm.2.1) ⟨mm.blind C0.2.2.2.2.2.2.2.2, hM.pre C0⟩ rfl hn hl rfl (lv_room hw) hdg hrm.2.2) kk
end ML
