/-! the start: the office stands; the whole, from what is still owed -/
section ST9
theorem inv_0 : Inv (fun _ => 0) (fun _ => none) := by
  exact ⟨⟨Nat.zero_le _, Nat.zero_le _, Nat.zero_le _, Nat.zero_le _, Nat.zero_le _, Nat.zero_le _, Nat.zero_le _⟩, fun s hs => ⟨Nat.zero_le _, Nat.zero_le _, Nat.zero_le _, Nat.zero_le _, Nat.zero_le _⟩, fun s hs k hk => Nat.zero_le _, fun c hc => ⟨Nat.zero_le _, Nat.zero_le _, Nat.zero_le _, Nat.zero_le _, (by show 0 < 10000; omega), Nat.zero_le _, Nat.zero_le _, Nat.zero_le _, Nat.zero_le _⟩, fun c hc => absurd hc (Nat.not_lt_zero _), fun c hc => absurd hc (Nat.not_lt_zero _), fun c s h => (by cases h), fun i hi => (by show 0 < 2147483648; omega)⟩
theorem rgz_0 : RG zI zL zA (fun _ => 0) (fun _ => none) := ⟨⟨rfl, rfl, rfl, rfl, rfl, rfl⟩, ⟨rfl, rfl, rfl, rfl⟩, fun c hc => absurd hc (Nat.not_lt_zero _), fun s hs => absurd hs (Nat.not_lt_zero _)⟩
theorem tg_0 {cd : Nat → Nat} : TG zI zA (fun _ => 0) cd := ⟨⟨rfl, rfl, rfl⟩, fun s hs => absurd hs (Nat.not_lt_zero _), fun f hf => ⟨0, by omega, rfl, fun s hs => by rw [Nat.zero_testBit]; rfl⟩⟩
theorem okr_0 : OKR (fun _ => 0) ((fun _ => 0), fun _ => none) := ⟨inv_0, fun _ _ => rfl, fil_fst (fil_8 rfl), sameT.r _⟩
theorem off_0 {z : Nat} {M2 B M6 : Mem} (h : ∃ M', M2 = M' ∧ M' z = some (.inr (5, [.ref (z + 1), .ref (z + 1 + 23), .ref (z + 1 + 25), .ref (z + 1 + 27), .ref (z + 1 + 48), .ref (z + 1 + 58), .ref (z + 1 + 68), .int (0 : Int32), .ref (z + 1 + 78), .int (0 : Int32), .int (0 : Int32)])) ∧ (M' (z + 1) = some (.inr (3, [.ref (z + 1 + 1), .int 0, .int 0, .int (-1), .ref (z + 1 + 2), .int 0, .int 0, .int 0, .int 0, .int 0, .int 0, .null])) ∧ M' (z + 1 + 1) = some (.inl (1, 900, .inl zI)) ∧ RC M' (z + 1 + 2) (z + 1 + 14) (z + 1 + 3) zI zL zA ∧ TC M' (z + 1 + 3) (z + 1 + 4) zI zA) ∧ (M' (z + 1 + 23) = some (.inr (0, [.ref (z + 1 + 24)])) ∧ M' (z + 1 + 24) = some (.inl (0, 40, .inl (fun _ => 0)))) ∧ (M' (z + 1 + 25) = some (.inr (1, [.ref (z + 1 + 26), .int 0])) ∧ M' (z + 1 + 26) = some (.inl (1, 200, .inl (fun _ => 0)))) ∧ (RC M' (z + 1 + 27) (z + 1 + 39) (z + 1 + 28) zI zL zA ∧ TC M' (z + 1 + 28) (z + 1 + 29) zI zA) ∧ RC M' (z + 1 + 48) (z + 1 + 49) (z + 1 + 28) zI zL zA ∧ RC M' (z + 1 + 58) (z + 1 + 59) (z + 1 + 28) zI zL zA ∧ RC M' (z + 1 + 68) (z + 1 + 69) (z + 1 + 28) zI zL zA ∧ (∃ f : Nat → Option Nat, M' (z + 1 + 78) = some (.inl (4, 10, .inr (.inr (.inr (.inr f))))) ∧ ∀ k, k < 10 → f k = some (z + 1 + 79 + 10 * k)) ∧ (∀ k, k < 10 → RC M' (z + 1 + 79 + 10 * k) (z + 1 + 80 + 10 * k) (z + 1 + 28) zI zL zA))
    (hB : ∀ x, z ≤ x → x < z + 180 → M6 x = M2 x) (h6 : M6 = ovl B (z + 180) g7 (up2 zA 1 (enc (fun _ => 0) (fun _ => none)))) (h1 : M6 (z + 194) = some (.inl (2, 1, .inr (.inl (fun _ => 0))))) (h2 : M6 (z + 195) = some (.inl (3, 1, .inr (.inr (.inr (.inl (fun _ => 0))))))) : OFF z M6 := by
  obtain ⟨M', rfl, q0, ⟨q1, q2, q3, q4⟩, ⟨q5, q6⟩, ⟨q7, q8⟩, ⟨q9, q10⟩, q11, q12, q13, ⟨f, q14, q15⟩, q16⟩ := h
  have hr : ∀ x, z ≤ x → x < z + 180 → rst M6 z x = M2 x := fun x a b => (rst_in ⟨a, b⟩).trans (hB x a b)
  refine ⟨fun _ => 0, fun _ => none, fun _ => 0, fun _ => ((fun _ => 0), fun _ => none), 0, 0, ((fun _ => 0), fun _ => none), fun _ => 0, 0, 0, (-1 : Int32), fun _ => 0, 0, ?_, ?_, ⟨B, g7, zA, h6, ?_⟩, ⟨_, h1⟩, ⟨_, h2⟩⟩
  · exact ⟨okr_0, by omega, by omega, fun j hj => absurd hj (Nat.not_lt_zero _), fun e => by omega, by omega, fun i hi => absurd hi (Nat.not_lt_zero _), by omega, fun i hi => absurd hi (Nat.not_lt_zero _), fun s hs => absurd hs (Nat.not_lt_zero _)⟩
  · refine ⟨z + 28, z + 40, z + 29, z + 30, z + 3, z + 15, z + 4, z + 5, 0, Or.inr ⟨rfl, rfl, rfl, rfl, rfl, rfl, rfl, rfl⟩, (hr z (by omega) (by omega)).trans q0, ⟨zI, zL, zA, zI, zA, q9.kp (fun x hx => hr x (by omega) (by omega)), q10.kp (fun x hx => hr x (by omega) (by omega)), rgz_0, tg_0⟩, ⟨z + 29, zI, zL, zA, q11.kp (fun x hx => hr x (by omega) (by omega))⟩, ⟨z + 29, zI, zL, zA, q12.kp (fun x hx => hr x (by omega) (by omega))⟩, ⟨z + 29, zI, zL, zA, q13.kp (fun x hx => hr x (by omega) (by omega)), fun e => absurd e (by decide)⟩, ⟨by omega, f, (hr _ (by omega) (by omega)).trans q14, fun k hk => (q15 k hk).trans (congrArg some (show z + 1 + 79 + 10 * k = z + 80 + 10 * k by omega))⟩, fun k hk => ⟨z + 29, zI, zL, zA, ?_, fun j hj => absurd hj (Nat.not_lt_zero _)⟩, ⟨fun _ => 0, (hr _ (by omega) (by omega)).trans q5, (hr _ (by omega) (by omega)).trans q6⟩, ⟨fun _ => 0, (hr _ (by omega) (by omega)).trans q7, (hr _ (by omega) (by omega)).trans q8, fun i hi => absurd hi (Nat.not_lt_zero _)⟩, ⟨fun _ => 0, .null, zI, (hr _ (by omega) (by omega)).trans q1, (hr _ (by omega) (by omega)).trans q2, fun i hi => absurd hi (Nat.not_lt_zero _)⟩, ⟨zI, zL, zA, zI, zA, q3.kp (fun x hx => hr x (by omega) (by omega)), q4.kp (fun x hx => hr x (by omega) (by omega))⟩⟩
    have q := q16 k hk
    rw [show z + 1 + 79 + 10 * k = z + 80 + 10 * k by omega, show z + 1 + 80 + 10 * k = z + 81 + 10 * k by omega] at q
    exact q.kp (fun x hx => hr x (by omega) (by omega))
  · exact ⟨⟨rfl, rfl, rfl, rfl, rfl, rfl⟩, fun k hk => absurd hk (Nat.not_lt_zero _), fun e => absurd e (by decide), fun i hi => rfl, fun i hi => absurd hi (Nat.not_lt_zero _), fun i hi => absurd hi (Nat.not_lt_zero _)⟩
theorem p_all (hFL : FLT) (hK : K2S) (Z : gZ) (z L : Nat) (xs : Nat → Int32) (hZ : ZI Z) (hL : L ≤ 3072) : p_start Z z L xs (fun _ => none) = some () := by
  unfold p_start
  rw [jn_def]
  generalize hm1 : upM (fun _ => none : Mem) z _ = M1
  have p1 : M1 z = some (.inr (5, [.null, .null, .null, .null, .null, .null, .null, .int 0, .null, .int 0, .int 0])) := by rw [← hm1]; exact upM_at
  obtain ⟨M2, e2, c0, c1, c2, c3, c4, c5, c6, c7, c8, c9, c10⟩ := ct_X6 (M := M1) (a0 := z) (y := z + 1) p1 (by omega)
  rw [e2, bS, jn_def]
  generalize hm3 : upM M2 (z + 180) _ = M3
  have p3 : M3 (z + 180) = some (.inr (6, [.null, .null, .null, .null, .null, .int 0, .int 0, .null, .null, .int 0, .null, .null, .int 0, .int 0, .int 0, .int 0, .int 0, .int 0, .int 0, .int 0, .int 0, .int 0, .null, .null, .null, .int 0, .null, .int 0])) := by rw [← hm3]; exact upM_at
  have o3 : ∀ x, x ≠ z + 180 → M3 x = M2 x := fun x hx => by rw [← hm3]; exact upM_o hx
  obtain ⟨B, e4, o4⟩ := ct_X7 (M := M3) (m := z + 180) p3
  have e4 : pn_X7_init (z + 181) (z + 180) M3 = some (ovl B (z + 180) g7 (up2 zA 1 (enc (fun _ => 0) (fun _ => none)))) := e4
  rw [e4, bS, jn_def, jn_def]
  have hO : OFF z (upM (upM (ovl B (z + 180) g7 (up2 zA 1 (enc (fun _ => 0) (fun _ => none)))) (z + 194) (.inl (2, (1, .inr (.inl (fun _ => 0)))))) (z + 195) (.inl (3, (1, .inr (.inr (.inr (.inl (fun _ => 0)))))))) := by
    refine off_0 (M2 := M2) (B := upM (upM B (z + 194) (.inl (2, (1, .inr (.inl (fun _ => 0)))))) (z + 195) (.inl (3, (1, .inr (.inr (.inr (.inl (fun _ => 0)))))))) ⟨M2, rfl, c0, c1, c2, c3, c4, c5, c6, c7, c8, c9⟩ (fun x x1 x2 => ?_) ?_ ?_ ?_
    · rw [upM_o (by omega), upM_o (by omega), ovl_o _ _ _ _ (by omega), o4 x (by omega), o3 x (by omega)]
    · rw [ovl_up (by omega), ovl_up (by omega)]
    · rw [upM_o (by omega)]; exact upM_at
    · exact upM_at
  exact l_all hFL hK hZ hL 514 0 _ (by omega) (by omega) hO
end ST9
/-- THE CLAIM, from what is pure -/
theorem start_of2 (pure : ∀ (Z : gZ) (z L : Nat) (xs : Nat → Int32), ZI Z → L ≤ 3072 → p_start Z z L xs (fun _ => none) = some ()) {p : Program} {e : Env} {s : State} {m : MethodId} {below : List Frame} {meth : Method} {c : Code} (l : Launch) (hflags : l.flags = flags0) {b L : Nat} {xs : Nat → Int32} (hL : L ≤ 3072) (C0 : lw_At p s m meth c b L xs) : W p l e room_1 s m #[Value.ref b] below meth c s.heap [] 0 0 (lw_Z below #[Value.ref b] s) (entryFrame m ([Value.ref b] : List Value).toArray 10) := by
  obtain ⟨hx, hb, hr, hml, hown, hts, hX, hbl, hlk, hgv⟩ := C0
  have hs : ∀ c ∈ stF, c.before #[Value.ref b] s = true := flat_of_before _ hgv
  obtain ⟨D, hD⟩ := st_cls hts
  obtain ⟨g, hg⟩ := st_arr hts
  obtain ⟨Z, hZ⟩ := st_sx hts hs
  have hY := st_sy hts hs
  have hnw : ∀ w ∈ NW, w.onTables = true := by decide +kernel
  have hF : Fct s.heap.size Z s := ⟨hZ, hY, va_AO.of (hts _ tm_ao), fun w hw => va_Nw.of (hnw w hw) (hts _ (tm_nw w hw))⟩
  obtain ⟨kG, kZ, kY, kA⟩ := Fct_ok D g s.heap.size Z
  have hlf : l.stackTraces = false := st_flags hflags
  have Cx : cx (D, g, s.heap.size, Fct s.heap.size Z) p s m #[Value.ref b] c cL_law RL 10 (fun q => s.heap.size ≤ q) := ⟨hx, hb, hml, hown, fun w h => hts w (List.mem_filter.mp h).1, ⟨⟨hD, hg⟩, Nat.le_refl _, hF⟩, fun q h => h, fun q h => h, kG⟩
  rw [lg_entry_eq]
  have hl0 : lv_has ((lg_sl [Value.ref b] ++ List.replicate (10 - (lg_sl [Value.ref b]).length) Slot.unset).toArray) 10 [(0, Value.ref b)] := lv_entry [Value.ref b] (Nat.le_of_ble_eq_true rfl)
  refine w_start Cx kG kZ kY kA hlf hX hbl (Nat.not_le.mpr hbl) (fun M H locs ls cells slots hc hs hM => ?_) ⟨⟨(fun a x h => by cases h), (fun q x h => by cases h), va_S.rf⟩, rfl⟩ hl0 (pure Z s.heap.size L xs hZ.2.2.2.2.2.1 hL)
  refine va_forget hM.2.2.2.2 ?_
  refine lv_iconst (v := 1) hx hb dL_law_3308 (by decide) ?_
  exact W.widen hc hs (lw_ret (Drawn.sameBut.refl s.drawn lw_cs) hx hb hr hlk dL_law_3309)
