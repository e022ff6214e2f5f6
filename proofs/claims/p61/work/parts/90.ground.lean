/-! THE GROUND on which p61 can't be proved as it is printed (REPORT.md, STATEMENT): getClass() of an object whose class has no Class object yet never comes back without laying one, and no frame condition allows that.
gr_getClass: from a state where the cell b is an object of class c, the native method's meaning answers only in states where c's record has its Class object.
gr_frame: a start whose record of c has none, and an end within the frame condition (WarmedH): the end's record has none either. gr_ground: so no end of a run that went through such an answer keeps the frame condition. -/
theorem gr_ex {α : Type} (t : Sem α) {Q : α → Pre} (e : Env) {c : ClassId} {k0 : Class} : ∀ (d : Bool) (acts : List Action) (s : State), s.HM c k0 → wp t Q (fun _ _ _ => False) e d acts s → ∃ a d' acts' s', State.HM s' c k0 ∧ Q a d' acts' s' := by
  induction t with
  | pure a => intro d acts s hm h; exact ⟨a, d, acts, s, hm, h⟩
  | pop k ih => intro d acts s hm h; obtain ⟨f, hf, v, rest, hs, h⟩ := h; refine ih _ _ _ _ ?_ h; exact hm.same rfl
  | push v k ih => intro d acts s hm h; obtain ⟨f, hf, h⟩ := h; refine ih _ _ _ ?_ h; exact hm.same rfl
  | getLocal i k ih => intro d acts s hm h; obtain ⟨f, hf, x, hx, h⟩ := h; exact ih _ _ _ _ hm h
  | setLocal i x k ih => intro d acts s hm h; obtain ⟨f, hf, hi, h⟩ := h; refine ih _ _ _ ?_ h; exact hm.same rfl
  | setMonitors l m k ih => intro d acts s hm h; obtain ⟨f, hf, h⟩ := h; refine ih _ _ _ ?_ h; exact hm.same rfl
  | frames k ih => intro d acts s hm h; exact ih _ _ _ _ hm h
  | thread k ih => intro d acts s hm h; exact ih _ _ _ _ hm h
  | alloc c0 slots vd k ih => intro d acts s hm h; obtain ⟨h1, h2, h3, h⟩ := h; refine ih _ _ _ _ ?_ h; exact hm.same rfl
  | cell a k ih => intro d acts s hm h; obtain ⟨c0, hc, h⟩ := h; exact ih _ _ _ _ hm h
  | setHash a x k ih => intro d acts s hm h; obtain ⟨c0, hc, h⟩ := h; refine ih _ _ _ ?_ h; exact hm.same rfl
  | setVmData a vd k ih => intro d acts s hm h; obtain ⟨c0, hc, h1, h⟩ := h; refine ih _ _ _ ?_ h; exact hm.same rfl
  | read l m k ih => intro d acts s hm h; obtain ⟨c0, hc, h1, v, hv, h⟩ := h; exact ih _ _ _ _ hm h
  | write l m v k ih => intro d acts s hm h; obtain ⟨c0, hc, h1, h2, h3, h⟩ := h; refine ih _ _ _ ?_ h; exact hm.same rfl
  | cas l m x y k ih =>
    intro d acts s hm h
    obtain ⟨c0, hc, h1, v, hv, h⟩ := h
    split at h
    · refine ih _ _ _ _ ?_ h.2; exact hm.same rfl
    · exact ih _ _ _ _ hm h
  | enter a k ih =>
    intro d acts s hm h
    obtain ⟨c0, hc, h⟩ := h
    split at h
    · refine ih _ _ _ ?_ h; exact hm.same rfl
    · exact h.2.elim
  | leave a k ih =>
    intro d acts s hm h
    obtain ⟨c0, hc, h⟩ := h
    split at h
    · refine ih _ _ _ _ ?_ h; exact hm.same rfl
    · exact ih _ _ _ _ hm h
  | look f k ih => intro d acts s hm h; exact ih _ _ _ _ hm h
  | vm op k ih =>
    intro d acts s hm h
    obtain ⟨s', hl, h⟩ := h
    exact ih _ _ _ _ (VmOp.lands_keeps (P := fun a => a.HM c k0) (fun a cc c' slots ha _ _ _ => ⟨hm_kept (.setClassObject c' a.heap.size) e ha.out⟩) hl ⟨hm_kept op e hm.out⟩) h
  | sync op k ih => intro d acts s hm h; exact ih _ _ _ _ (State.HM.sync op hm) h.2
  | choose x k ih => intro d acts s hm h; refine ih _ _ _ _ ?_ h; exact hm.same rfl
  | world op k ih =>
    intro d acts s hm h
    obtain ⟨h1, h⟩ := h
    split at h
    · exact ih _ _ _ _ hm h
    · refine ih _ _ _ _ ?_ h; exact hm.same rfl
  | mark r k ih => intro d acts s hm h; exact ih _ _ _ hm h
  | ctl x => intro d acts s hm h; exact h.2.2.elim
/-- what is laid stays laid -/
theorem gr_stays {α : Type} {t : Sem α} {Q : α → Pre} {e : Env} {d : Bool} {acts : List Action} {s : State} {c : ClassId} (h : wp t Q (fun _ _ _ => False) e d acts s) (hm : ∃ k, s.vm.classes[c]? = some k ∧ k.mirror.isSome = true) : ∃ a d' acts' s', (∃ k, State.vm s' |>.classes[c]? = some k ∧ k.mirror.isSome = true) ∧ Q a d' acts' s' := by
  obtain ⟨k, hk, hi⟩ := hm
  obtain ⟨a, d', acts', s1, hm1, hq⟩ := gr_ex t e (c := c) (k0 := k) d acts s ⟨k, hk, .refl k⟩ h
  obtain ⟨k', hk', hs⟩ := hm1.out
  exact ⟨a, d', acts', s1, ⟨k', hk', hs.2.2.2.2.2.2.2.2.2 hi⟩, hq⟩
theorem gr_mirror {Q : Addr → Pre} {e : Env} {d : Bool} {acts : List Action} {s : State} {c : ClassId} (hw : wp (mirrorOf c) Q (fun _ _ _ => False) e d acts s) : ∃ a d' acts' s', (∃ k, State.vm s' |>.classes[c]? = some k ∧ k.mirror.isSome = true) ∧ Q a d' acts' s' := by
  unfold mirrorOf at hw
  rw [mirrorOfAux] at hw
  simp only [wp_bind', W.theClass] at hw
  obtain ⟨k, hk, hw⟩ := hw
  cases hm : k.mirror with
  | some a =>
    simp only [hm] at hw
    exact gr_stays hw ⟨k, hk, by rw [hm]; rfl⟩
  | none =>
    simp only [hm, wp_bind', W.theClass] at hw
    obtain ⟨cc, d1, acts1, s1, h1, hw⟩ := gr_ex _ e (c := c) (k0 := k) d acts s ⟨k, hk, .refl k⟩ hw
    simp only [wp_bind', W.theClass] at hw
    obtain ⟨k1, hk1, hw⟩ := hw
    cases hm1 : k1.mirror with
    | some a =>
      simp only [hm1] at hw
      exact gr_stays hw ⟨k1, hk1, by rw [hm1]; rfl⟩
    | none =>
      simp only [hm1, wp_bind', W.theClass] at hw
      obtain ⟨kc, hkc, hw⟩ := hw
      obtain ⟨a, d2, acts2, s2, h2, hw⟩ := gr_ex _ e (c := c) (k0 := k1) d1 acts1 s1 ⟨k1, hk1, .refl k1⟩ hw
      obtain ⟨k2, hk2, -⟩ := h2.out
      obtain ⟨s3, hl, hw⟩ := hw
      have h3 : s3.HM c { k2 with mirror := some a } := VmOp.lands_keeps (P := fun x => x.HM c { k2 with mirror := some a }) (fun x cc' c' slots ha _ _ _ => ⟨hm_kept (.setClassObject c' x.heap.size) e ha.out⟩) hl ⟨⟨{ k2 with mirror := some a }, by
        show (s2.vm.classes.modify c fun k => { k with mirror := some a })[c]? = _
        rw [Array.getElem?_modify, hk2]
        simp, .refl _⟩⟩
      obtain ⟨k3, hk3, hs⟩ := h3.out
      exact gr_stays hw ⟨k3, hk3, hs.2.2.2.2.2.2.2.2.2 rfl⟩
/-- getClass()'s own meaning -/
theorem gr_getClass {e : Env} {d : Bool} {acts as' : List Action} {s s' : State} {r : Option Value} {b : Addr} {cell : Cell} (hb : s.heap[b]? = some cell) (h : (Native.java_lang_Object.getClass.row.sem #[.ref b]).go e d acts s = .ok r s' as') : ∃ k, s'.vm.classes[cell.cls]? = some k ∧ k.mirror.isSome = true := by
  have hw : wp (Native.java_lang_Object.getClass.row.sem #[.ref b]) (fun _ _ _ x => x = s') (fun _ _ _ => False) e d (unmarked acts) s := (wp_iff_go _ (fun _ x _ => x = s') (fun _ _ _ => False) e d acts s).mpr (by rw [h])
  rw [Native.java_lang_Object.getClass.getClass_ref] at hw
  simp only [wp_bind', classOf, cellInfo] at hw
  obtain ⟨c0, hc0, hw⟩ := hw
  cases hb.symm.trans hc0
  have h1 : ∃ a d' acts' s1, (∃ k, State.vm s1 |>.classes[cell.cls]? = some k ∧ k.mirror.isSome = true) ∧ wp ((fun _ => some (Value.ref a)) <$> mark "nat.java_lang_Object.getClass") (fun _ _ _ x => x = s') (fun _ _ _ => False) e d' acts' s1 := by
    revert hw
    cases hv : cell.vm <;> intro hw <;> first | (simp [Cell.info, hv] at hw; done) | (simp [Cell.info, hv] at hw; exact gr_mirror hw)
  obtain ⟨a, d1, acts1, s1, hm, hw⟩ := h1
  obtain ⟨-, -, -, s2, hm2, rfl⟩ := gr_stays hw hm
  exact hm2
/-- a start whose record of c has no Class object, an end within the frame condition -/
theorem gr_frame {s t : State} {c : ClassId} {k k' : Class} (hk : s.vm.classes[c]? = some k) (hm : k.mirror = none) (hW : s.WarmedH t.vm) (hk' : t.vm.classes[c]? = some k') : k'.mirror = none := by
  obtain ⟨k1, h1, h2, -⟩ := hW.2.2 c k hk
  cases h1.symm.trans hk'
  rw [h2]
  exact hm
/-- THE GROUND: from a start s whose record of class c has no Class object, no run in which getClass() has answered of an object of class c (from a state x on to a state y), and whose tables only grew since, ends within the frame condition -/
theorem gr_ground {e : Env} {d : Bool} {acts as' : List Action} {s x y t : State} {r : Option Value} {b : Addr} {cell : Cell} {k : Class} (hk : s.vm.classes[cell.cls]? = some k) (hm : k.mirror = none) (hb : x.heap[b]? = some cell) (h : (Native.java_lang_Object.getClass.row.sem #[.ref b]).go e d acts x = .ok r y as') (hg : y.vm.GrowsM t.vm) : ¬ s.WarmedH t.vm := by
  intro hW
  obtain ⟨k1, hk1, hi⟩ := gr_getClass hb h
  obtain ⟨k2, hk2, hs⟩ := hg.1 _ k1 hk1
  have h1 := hs.2.2.2.2.2.2.2.2.2 hi
  rw [gr_frame hk hm hW hk2] at h1
  cases h1
