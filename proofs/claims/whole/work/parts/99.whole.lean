/-! the whole: the float facts, the claim -/
def PDf (w : UInt64) : Prop := FP.Core.val64 w ≠ .nan ∧ FP.Core.sgn (FP.Core.val64 w) = false
theorem nn64 {w : UInt64} (h : FP.Core.val64 w ≠ .nan) : w &&& 0x7fffffffffffffff ≤ 0x7ff0000000000000 := by
  have h1 := (FP.Core.ne_nan w).mp h
  rw [UInt64.le_iff_toNat_le, UInt64.toNat_and]
  show w.toNat &&& (2 ^ 63 - 1) ≤ 9218868437227405312
  rw [Nat.and_two_pow_sub_one_eq_mod]
  exact h1
theorem nn32 {w : UInt32} (h : FP.Core.val32 w ≠ .nan) : w &&& 0x7fffffff ≤ 0x7f800000 := by
  have h1 := (FP.Core.ne_nan32 w).mp h
  rw [UInt32.le_iff_toNat_le, UInt32.toNat_and]
  show w.toNat &&& (2 ^ 31 - 1) ≤ 2139095040
  rw [Nat.and_two_pow_sub_one_eq_mod]
  exact h1
theorem sum_pd {a b : UInt64} (ha : PDf a) (hb : PDf b) : PDf (FP.Core.dadd a b) := by
  obtain ⟨a1, a2⟩ := ha
  obtain ⟨b1, b2⟩ := hb
  unfold PDf
  rw [FP.Core.val64_dadd]
  generalize FP.Core.val64 a = x at a1 a2
  generalize FP.Core.val64 b = y at b1 b2
  cases x with
  | nan => exact absurd rfl a1
  | inf s =>
    have : s = false := a2
    subst this
    cases y with
    | nan => exact absurd rfl b1
    | inf t =>
      have : t = false := b2
      subst this
      exact ⟨fun h => (by cases h), rfl⟩
    | fin t d r => exact ⟨fun h => (by cases h), rfl⟩
  | fin s c q =>
    have : s = false := a2
    subst this
    cases y with
    | nan => exact absurd rfl b1
    | inf t =>
      have : t = false := b2
      subst this
      exact ⟨fun h => (by cases h), rfl⟩
    | fin t d r =>
      have : t = false := b2
      subst this
      refine ⟨FP.Core.roundRatio_ne_nan _ _ _ _ _, (FP.Core.sgn_roundRatio _ _ _ _ _).trans ?_⟩
      have hv : FP.Core.sumUnits false c q false d r (min q r) = ((FP.Core.inUnits c q (min q r) + FP.Core.inUnits d r (min q r) : Nat) : Int) := rfl
      rw [hv]
      unfold FP.Core.sumSign
      generalize FP.Core.inUnits c q (min q r) + FP.Core.inUnits d r (min q r) = k
      by_cases e : ((k : Nat) : Int) = 0
      · rw [if_pos e]; rfl
      · rw [if_neg e]
        exact decide_eq_false (by omega)
theorem quo_pd {a b : UInt64} (ha : PDf a) (hb : PDf b) (h : FP.Core.dIsNaN (FP.Core.ddiv a b) = false) : PDf (FP.Core.ddiv a b) := by
  obtain ⟨a1, a2⟩ := ha
  obtain ⟨b1, b2⟩ := hb
  refine ⟨(FP.Core.notNaN_iff _).mp h, ?_⟩
  have h := (FP.Core.notNaN_iff _).mp h
  rw [FP.Core.val64_ddiv] at h ⊢
  generalize FP.Core.val64 a = x at a1 a2 h ⊢
  generalize FP.Core.val64 b = y at b1 b2 h ⊢
  cases x with
  | nan => exact absurd rfl a1
  | inf s =>
    have : s = false := a2
    subst this
    cases y with
    | nan => exact absurd rfl b1
    | inf t => exact absurd rfl h
    | fin t d r =>
      have : t = false := b2
      subst this
      rfl
  | fin s c q =>
    have : s = false := a2
    subst this
    cases y with
    | nan => exact absurd rfl b1
    | inf t =>
      have : t = false := b2
      subst this
      rfl
    | fin t d r =>
      have : t = false := b2
      subst this
      have eq : FP.Core.quotient FP.Core.b64 (.fin false c q) (.fin false d r) = if d = 0 then (if c = 0 then .nan else .inf (false != false)) else FP.Core.roundRatio FP.Core.b64 (false != false) c d (q - r) := rfl
      rw [eq] at h ⊢
      by_cases e : d = 0
      · rw [if_pos e] at h ⊢
        by_cases e2 : c = 0
        · rw [if_pos e2] at h; exact absurd rfl h
        · rw [if_neg e2]; rfl
      · rw [if_neg e]
        exact FP.Core.sgn_roundRatio _ _ _ _ _
theorem pd_i2d {x : Int32} (h : 0 ≤ x.toInt) : PDf (FP.Core.i2d x) := by
  refine ⟨(FP.Core.notNaN_iff _).mp (FP.Core.i2d_fin x).notNaN, ?_⟩
  rw [FP.Core.val64_i2d]
  unfold FP.Core.ofInt
  refine (FP.Core.sgn_roundRatio _ _ _ _ _).trans ?_
  exact decide_eq_false (by omega)
theorem pd_0 : PDf FP.dconst0 := by
  unfold PDf
  rw [show FP.Core.val64 FP.dconst0 = .fin false 0 FP.Core.b64.qmin from FP.Core.val64_dconst0]
  exact ⟨fun h => (by cases h), rfl⟩
theorem v2_fin : FP.Core.val64 (4611686018427387904 : UInt64) = .fin false (2 ^ 52) (-51) := by decide +kernel
theorem pd_2 : PDf (4611686018427387904 : UInt64) ∧ FP.Core.DFin (4611686018427387904 : UInt64) ∧ ¬ FP.Core.DZero (4611686018427387904 : UInt64) := by
  refine ⟨⟨?_, ?_⟩, ⟨_, _, _, v2_fin⟩, ?_⟩
  · rw [v2_fin]; exact fun h => by cases h
  · rw [v2_fin]; rfl
  · rintro ⟨s, q, h⟩
    rw [v2_fin] at h
    injection h with _ h2 _
    exact absurd h2 (by decide)
theorem nz_i2d {x : Int32} (h : x ≠ 0) : ¬ FP.Core.DZero (FP.Core.i2d x) := fun hz => FP.Core.i2d_ne_zero h ((FP.Core.zero_bits2 _).mp hz)
theorem nz_i2f {x : Int32} (h : x ≠ 0) : ¬ FP.Core.FZero (FP.Core.i2f x) := fun hz => FP.Core.i2f_ne_zero h ((FP.Core.zero_bits232 _).mp hz)
/-- a step of the root -/
theorem root_s {x : Int32} {r : UInt64} (h : 0 < x.toInt) (hr : PDf r) : PDf (FP.Core.ddiv (FP.Core.i2d x) r) ∧ PDf (FP.Core.dadd r (FP.Core.ddiv (FP.Core.i2d x) r)) ∧ PDf (FP.Core.ddiv (FP.Core.dadd r (FP.Core.ddiv (FP.Core.i2d x) r)) (4611686018427387904 : UInt64)) := by
  have hx : x ≠ 0 := fun e => by rw [e] at h; exact absurd h (by decide)
  have h1 : PDf (FP.Core.ddiv (FP.Core.i2d x) r) := quo_pd (pd_i2d (by omega)) hr (FP.Core.ddiv_out' (FP.Core.i2d_fin x) (nz_i2d hx) ((FP.Core.notNaN_iff _).mpr hr.1))
  have h2 : PDf (FP.Core.dadd r (FP.Core.ddiv (FP.Core.i2d x) r)) := sum_pd hr h1
  exact ⟨h1, h2, quo_pd h2 pd_2.1 (FP.Core.ddiv_out ((FP.Core.notNaN_iff _).mpr h2.1) pd_2.2.1 pd_2.2.2)⟩
theorem mean_s {x : Int32} {r : UInt64} (h : 0 < x.toInt) (hr : PDf r) : FP.Core.val64 (FP.Core.ddiv r (FP.Core.i2d x)) ≠ .nan := by
  have hx : x ≠ 0 := fun e => by rw [e] at h; exact absurd h (by decide)
  exact (FP.Core.notNaN_iff _).mp (FP.Core.ddiv_out ((FP.Core.notNaN_iff _).mpr hr.1) (FP.Core.i2d_fin x) (nz_i2d hx))
theorem share_s {x y : Int32} (h : 0 < y.toInt) : FP.Core.val32 (FP.Core.fdiv (FP.Core.i2f x) (FP.Core.i2f y)) ≠ .nan := by
  have hy : y ≠ 0 := fun e => by rw [e] at h; exact absurd h (by decide)
  exact (FP.Core.notNaN_iff32 _).mp (FP.Core.fdiv_out (FP.Core.i2f_fin x).notNaN (FP.Core.i2f_fin y) (nz_i2f hy))
theorem f2d_s {w : UInt32} (h : FP.Core.val32 w ≠ .nan) : FP.Core.val64 (FP.Core.f2d w) ≠ .nan := (FP.Core.notNaN_iff _).mp (FP.Core.f2d_out ((FP.Core.notNaN_iff32 _).mpr h))
theorem d2f_s {w : UInt64} (h : FP.Core.val64 w ≠ .nan) : FP.Core.val32 (FP.Core.d2f w) ≠ .nan := (FP.Core.notNaN_iff32 _).mp (FP.Core.d2f_out ((FP.Core.notNaN_iff _).mpr h))
theorem i2d_0 {x : Int32} (h : 0 < x.toInt) : ¬ (Op.cmpValue (FP.dcmp (FP.i2d x) FP.dconst0) .l) = 0 := by
  have hx : x ≠ 0 := fun e => by rw [e] at h; exact absurd h (by decide)
  have h2 : x.toInt64.toInt = x.toInt := Int32.toInt_toInt64 x
  have e : FP.dcmp (FP.i2d x) FP.dconst0 = some (compare x.toInt64.toInt (0 : Int64).toInt) := by
    rw [show FP.i2d x = FP.Core.l2d x.toInt64 from FP.Core.i2d_l2d x, show FP.dconst0 = FP.Core.l2d 0 from FP.Core.l2d_zero.symm]
    have := FP.Core.int32_abs x
    exact FP.Core.dcmp_l2d (a := x.toInt64) (b := 0) (by unfold FP.Core.Small53; omega) (by unfold FP.Core.Small53; decide)
  rw [e, h2]
  have : compare x.toInt (0 : Int64).toInt = .gt := by
    show compare x.toInt 0 = .gt
    rw [FP.Core.compare_ite, if_neg (by omega), if_neg (by omega)]
  rw [this]
  decide
theorem i2d_0' : (Op.cmpValue (FP.dcmp (FP.i2d 0) FP.dconst0) .l) = 0 := by decide +kernel

theorem f2d_j {w : UInt32} (h : FP.Core.val32 w ≠ .nan) : FP.f2d w = FP.Core.f2d w := by
  have h1 := (FP.Core.notNaN_iff32 w).mpr h
  unfold FP.f2d
  rw [if_neg (fun e => by rw [h1] at e; cases e)]
theorem d2f_j {w : UInt64} (h : FP.Core.val64 w ≠ .nan) : FP.d2f w = FP.Core.d2f w := by
  have h1 := (FP.Core.notNaN_iff w).mpr h
  unfold FP.d2f
  rw [if_neg (fun e => by rw [h1] at e; cases e)]
theorem ok_nn {w : UInt64} (h : dOK w) : FP.Core.val64 w ≠ .nan := by
  refine (FP.Core.ne_nan w).mpr ?_
  have h : w &&& 0x7fffffffffffffff ≤ 0x7ff0000000000000 := h
  rw [UInt64.le_iff_toNat_le, UInt64.toNat_and] at h
  have h : w.toNat &&& (2 ^ 63 - 1) ≤ 9218868437227405312 := h
  rw [Nat.and_two_pow_sub_one_eq_mod] at h
  exact h
theorem flt_of (hn : ∀ s : Nat, s < 2147483648 → (nN s).toInt = s) : FLT := by
  refine ⟨PDf, fun w h => ?_, pd_0, fun s hs => pd_i2d (by rw [hn s hs]; omega), fun a b ha hb => sum_pd ha hb, fun s r h1 h2 hr => (root_s (by rw [hn s h2]; omega) hr).1, fun r hr => quo_pd hr pd_2.1 (FP.Core.ddiv_out ((FP.Core.notNaN_iff _).mpr hr.1) pd_2.2.1 pd_2.2.2), fun s r h1 h2 hr => nn64 (mean_s (by rw [hn s h2]; omega) hr), fun x y h1 h2 => ?_, fun s h1 h2 => i2d_0 (by rw [hn s h2]; omega), i2d_0', ?_, ?_, fun w h => ?_⟩
  · have h3 := d2f_s h.1
    refine ⟨nn64 h.1, ?_, ?_⟩
    · rw [d2f_j h.1]; exact nn32 h3
    · rw [d2f_j h.1, f2d_j h3]; exact nn64 (f2d_s h3)
  · have h3 := share_s (x := nN x) (y := nN y) (by rw [hn y h2]; omega)
    refine ⟨nn32 h3, ?_⟩
    have e := f2d_j h3
    have h4 := nn64 (f2d_s h3)
    rw [← e] at h4
    exact h4
  · decide +kernel
  · decide +kernel
  · have h1 := FP.Core.dcmp_self (ok_nn h)
    have h1 : FP.dcmp (FP.f2d w) (FP.f2d w) = some .eq := h1
    rw [h1]; rfl
theorem flt : FLT := flt_of (fun s hs => nN_toInt hs)
theorem whole_start {p : Program} {e : Env} {s : State} {m : MethodId} {below : List Frame} {meth : Method} {c : Code} (l : Launch) (hflags : l.flags = flags0) {b L : Nat} {xs : Nat → Int32} (hL : L ≤ 3072) (C0 : lw_At p s m meth c b L xs) : W p l e room_1 s m #[Value.ref b] below meth c s.heap [] 0 0 (lw_Z below #[Value.ref b] s) (entryFrame m ([Value.ref b] : List Value).toArray 10) := start_of2 (fun Z z L xs hZ hL => p_all flt k2_s Z z L xs hZ hL) l hflags hL C0
set_option maxHeartbeats 4000000 in
theorem lw_walk (l : Launch) (hflags : l.flags = flags0) (b : Addr) (xs : List Int32) : MetFree l x (headSpec (Jvm.Cond.code x code maxLocals ret :: tables_1) room_1) (lw_P b xs) (fun _ _ _ _ _ => True) lw_Q := by
  refine MetFree.of_bodyS (code := code) (maxLocals := maxLocals) (ret := ret) (by decide) ?_ ?_
  · intro args s m h hn
    obtain ⟨meth, c, h1, h2, h3, h4, h5, h6, -, -⟩ := Cond.code_spec hn (atoms_spec (ws := Jvm.Cond.code x code maxLocals ret :: tables_1) h _ List.mem_cons_self)
    exact ⟨meth, c, h1, h2, h3, h4, h5, h6⟩
  · intro p e s m args below meth c s₁ B hml0 hP _
    obtain ⟨rfl, hx, hbd, hgv⟩ := hP
    obtain ⟨scr, harrAt, hlist, hof, hsmall⟩ := hx
    obtain ⟨hcb, hkn, -, -⟩ := State.arrayAt?_spec harrAt
    have hown : s.vm.findClass R_law = some m.cls := findClass_of_methodNamed B.named
    have hts0 : ∀ c ∈ (Jvm.Cond.code x code maxLocals ret :: tables_1), c.before #[Value.ref b] s = true := atoms_spec (ws := Jvm.Cond.code x code maxLocals ret :: tables_1) B.pre
    have hts : ∀ w ∈ lw_tbl, w.before #[Value.ref b] s = true := k2_hts_sels lw_privs (fun w hw => hts0 w (List.mem_cons_of_mem _ hw)) lw_privs_ok
    have hml : c.maxLocals = 10 := B.maxLocals_eq (hts0 _ List.mem_cons_self)
    have X₀ : Stand p l e room_1 s m #[Value.ref b] below meth c s₁ [] 0 0 := Stand.of_body B
    have hh0 : s₁.heap = s.heap := by rw [B.state]; rfl
    have hsz : scr.slots.size = xs.length := by rw [← Array.length_toList, hlist, List.length_map]
    have hval : ∀ j : Nat, j < xs.length → scr.slots[j]? = some (.int (xs.getD j 0)) := fun j hj => by
      rw [← Array.getElem?_toList, hlist]
      simp [hj]
    have hbl : b < s.heap.size := (Array.getElem?_eq_some_iff.mp hcb).1
    have hX : va_X b xs.length (fun j => xs.getD j 0) s s.heap := ⟨scr, hcb, hof, hkn, hsz, hval⟩
    have K : W p l e room_1 s m #[Value.ref b] below meth c s₁.heap [] 0 0 (lw_Z below #[Value.ref b] s) (entryFrame m ([Value.ref b] : List Value).toArray 10) := by
      rw [hh0]
      exact whole_start l hflags hbd ⟨B.exec, B.bytes, B.returns, hml, hown, hts, hX, hbl, B.notSynchronized, hgv⟩
    obtain ⟨t, a1, o, b1, b2, b3⟩ := K s₁ rfl X₀
    exact ⟨t, o, a1, b1, b2, b3⟩
theorem lw_pre_spec {args : Array Value} {s : State} (h : (Jvm.Cond.and given_1 narrow_1).before args s = true) (hr : rest_1_c.before args s = true) : ∃ (b : Addr) (xs : List Int32), lw_P b xs args s := by
  have hs := flat_of_before _ h
  have hq := flat_of_before _ hr
  have hc : (Cond.count 1).before args s = true := hs _ (by decide +kernel)
  have harr : (Cond.arrayOf (.arg 0) .int).before args s = true := hs _ (by decide +kernel)
  have hle : (Cond.le (.length (.arg 0)) (.int 3072)).before args s = true := hs _ (by decide +kernel)
  have hlen : (Cond.isInt (.length (.arg 0))).before args s = true := hq _ (by decide +kernel)
  have hall : (Cond.all (.arg 0) (.isInt (.elem (.arg 0) (.index 0)))).before args s = true := hq _ (by decide +kernel)
  obtain ⟨b, xs, hb, hx⟩ := State.ints_of_pre rfl harr hlen hall
  have hsm : xs.length < 2 ^ 31 := hx.choose_spec.2.2.2
  have hev : (Term.length (.arg 0)).eval args s none [] s = some (.int xs.length.toInt32) := hx.length_eval hb
  have hv := Cond.le_ints hev (show (Term.int 3072).eval args s none [] s = some (.int 3072) from rfl)
  have hd : xs.length.toInt32 ≤ 3072 := by
    simpa [Cond.before, Cond.holds, hv] using hle
  have hN : xs.length ≤ 3072 := (Int32.ofNat_le_ofNat hsm (by decide)).mp (show Int32.ofNat xs.length ≤ Int32.ofNat 3072 from hd)
  exact ⟨b, xs, Cond.one_arg hc (show args[0]? = some (.ref b) from hb), hx, hN, h⟩
theorem lw_comes (l : Launch) (hflags : l.flags = flags0) : Comes l x (Jvm.Cond.code x code maxLocals ret :: tables_1) room_1 (fun tb e args s => Calls_1 tb e args s ∧ rest_1 tb e args s ∧ Pre_1 tb e args s)
    (fun _ _ args s o t => lw_Q args s o t) := by
  intro p e ha hc hk s m args below hf hfit hheap happ hpre
  obtain ⟨b, xs, hP⟩ := lw_pre_spec hpre.2.2 hpre.2.1
  obtain ⟨k, o, h1, h2, h3, hQ⟩ := lw_walk l hflags b xs p e ha hc hk s m args below hf ((Spec.applies_iff_loose hf).mp happ).1 hP trivial
  exact ⟨k, o, h1, h2, h3, hQ⟩
theorem lw_frame {s t : State} {o : Outcome} {args : Array Value} (h : State.butDraws s t lw_cs (fun t1 => Framed s o t1 [] 601024 7293034)) :
    State.butDraws s t [Jvm.Choice.named "NaN.bits"] (fun t1 => Framed s o t1 (fieldLocs frame_1_writes args s ++ arrayLocs frame_1_arrays args s ++ staticLocs frame_1_statics s) 601024 7293034) := h
theorem lw_limb (L : Cond) (hL : ∀ (args : Array Value) (s t : State), L.after args s (.returned (some (.int 1))) t = true) :
    ArmFor flags0 classFile x code maxLocals ret World_1 tables_1 room_1 Calls_1 rest_1 Pre_1
      (fun tb e a s o t => postC L tb e a s o t ∧ State.butDraws s t [Jvm.Choice.named "NaN.bits"] (fun t1 => Framed s o t1 (fieldLocs frame_1_writes a s ++ arrayLocs frame_1_arrays a s ++ staticLocs frame_1_statics s) 601024 7293034)) := by
  intro l hflags _ _ p e ha hc hk s m args below hf hfit hheap happ hpre
  obtain ⟨k, o, h1, h2, h3, rfl, hF⟩ := lw_comes l hflags p e ha hc hk s m args below hf hfit hheap happ hpre
  exact ⟨k, _, h1, h2, h3, hL args s _, lw_frame hF⟩
theorem i_vc : Claimed_1_1 ∧ Claimed_1_2 := ⟨lw_limb limb_1_1 (fun args s t => by simp [limb_1_1, Cond.after, Cond.holds, Cond.value]), lw_limb limb_1_2 (fun args s t => Cond.after_iff.mpr (by
  first | (rw [show limb_1_2 = Cond.eq .result (.int 1) from rfl, Cond.eq_ints (x := 1) (y := 1) rfl rfl]; simp; done) | (simp [limb_1_2, Cond.value, Term.eval]; done)))⟩
