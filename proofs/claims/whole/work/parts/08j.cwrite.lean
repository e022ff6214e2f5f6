theorem updN_s {v : Nat → Nat} {i x : Nat} : updN v i x i = x := if_pos rfl
theorem updN_n {v : Nat → Nat} {i j x : Nat} (h : j ≠ i) : updN v i x j = v j := if_neg h
theorem updN_2 {v : Nat → Nat} {i x y : Nat} : updN (updN v i x) i y = updN v i y := by
  funext k; unfold updN; by_cases h : k = i
  · rw [if_pos h, if_pos h]
  · rw [if_neg h, if_neg h, if_neg h]
theorem updN_sw {v : Nat → Nat} {i j x y : Nat} (hij : i ≠ j) : updN (updN v i x) j y = updN (updN v j y) i x := by
  funext k; unfold updN; by_cases h : k = j
  · subst h; rw [if_pos rfl, if_neg (fun z => hij z.symm), if_pos rfl]
  · rw [if_neg h]
    by_cases h2 : k = i
    · rw [if_pos h2, if_pos h2]
    · rw [if_neg h2, if_neg h2, if_neg h]
theorem updN_id {v : Nat → Nat} {i : Nat} : updN v i (v i) = v := by
  funext k; unfold updN; by_cases h : k = i
  · subst h; rw [if_pos rfl]
  · rw [if_neg h]
theorem updO_s {p : Nat → Option Nat} {i : Nat} {x : Option Nat} : updO p i x i = x := if_pos rfl
theorem updO_n {p : Nat → Option Nat} {i j : Nat} {x : Option Nat} (h : j ≠ i) : updO p i x j = p j := if_neg h
theorem updO_2 {p : Nat → Option Nat} {i : Nat} {x y : Option Nat} : updO (updO p i x) i y = updO p i y := by
  funext k; unfold updO; by_cases h : k = i
  · rw [if_pos h, if_pos h]
  · rw [if_neg h, if_neg h, if_neg h]
theorem up2_s {a : Nat → Nat → Int32} {j : Nat} {f : Nat → Int32} : up2 a j f j = f := if_pos rfl
theorem up2_n {a : Nat → Nat → Int32} {j k : Nat} {f : Nat → Int32} (h : k ≠ j) : up2 a j f k = a k := if_neg h
section RU
variable {g : Nat → Int32} {h : Nat → Int64} {ar : Nat → Nat → Int32} {v : Nat → Nat} {pl : Nat → Option Nat} {u : Nat → Int32} {ta : Nat → Nat → Int32} {cd : Nat → Nat}
theorem arr_u {f : Nat → Int32} {w : Nat → Nat} {base c k x : Nat} (hf : f k = nN (w (base + k))) : upd f c (nN x) k = nN (updN w (base + c) x (base + k)) := by
  by_cases hkc : k = c
  · subst hkc; rw [pk_us, updN_s]
  · rw [pk_un hkc, updN_n (by omega)]; exact hf
theorem arr_r {f : Nat → Int32} {v : Nat → Nat} {c k x : Nat} (hc : c < 40) (hf : f k = nN (rwN (fun i => v (564 + 4 * k + i)) (v (324 + k)))) : upd f c (nN (rwN (fun i => v (564 + 4 * c + i)) x)) k = nN (rwN (fun i => updN v (324 + c) x (564 + 4 * k + i)) (updN v (324 + c) x (324 + k))) := by
  by_cases hkc : k = c
  · subst hkc; rw [pk_us, updN_s]; congr 1; exact rwN_c (fun i hi => (updN_n (by omega)).symm)
  · rw [pk_un hkc, updN_n (by omega), hf]; congr 1
    exact rwN_c (fun i hi => (updN_n (by omega)).symm)
theorem RG.place (hR : RG g h ar v pl) {c : Nat} {p : Option Nat} : RG g h (up2 ar 5 (upd (ar 5) c (oN p))) v (updO pl c p) := by
  obtain ⟨hA, hB, hC, hS⟩ := hR
  refine ⟨hA, hB, fun k hk => ?_, fun s hs => hS s hs⟩
  obtain ⟨c0, c1, c2, c3, c4, c5, c6⟩ := hC k hk
  refine ⟨c0, c1, c2, c3, c4, ?_, c6⟩
  show upd (ar 5) c (oN p) k = oN (updO pl c p k)
  by_cases hkc : k = c
  · subst hkc; rw [pk_us, updO_s]
  · rw [pk_un hkc, updO_n hkc, c5]
theorem RG.late (hR : RG g h ar v pl) (h0 : v 0 ≤ 8) (h1 : v 1 ≤ 40) {x : Nat} : RG (upd g 3 (nN x)) h ar (updN v (7) x) pl := by
  obtain ⟨⟨a1, a2, a3, a4, a5, a6⟩, ⟨b7, b8, b9, b10⟩, hC, hS⟩ := hR
  have e : ∀ j, j ≠ 7 → updN v (7) x j = v j := fun j hj => if_neg hj
  have e1 : updN v (7) x 1 = v 1 := e 1 (by omega)
  have e0 : updN v (7) x 0 = v 0 := e 0 (by omega)
  refine ⟨⟨(by show g 1 = _; rw [e 1 (by omega)]; exact a1), (by show g 2 = _; rw [e 11 (by omega)]; exact a2), (by rw [updN_s]; exact pk_us), (by show g 4 = _; rw [e 8 (by omega)]; exact a4), (by show g 5 = _; rw [e 9 (by omega)]; exact a5), (by show g 6 = _; rw [e 10 (by omega)]; exact a6)⟩, ⟨?_, ?_, ?_, ?_⟩, fun k hk => ?_, fun s hs => ?_⟩
  · show h 7 = _; rw [e1, b7]; exact mk_c (fun k hk => by rw [e (244 + k) (by omega)])
  · show h 8 = _; rw [e1, b8]; exact mk_c (fun k hk => by rw [e (364 + k) (by omega)])
  · show h 9 = _; rw [e1, b9]; exact mk_c (fun k hk => by rw [e (404 + k) (by omega)])
  · show h 10 = _; rw [e1, b10]; exact mk_c (fun k hk => by rw [e (444 + k) (by omega)])
  · rw [e1] at hk
    obtain ⟨c0, c1, c2, c3, c4, c5, c6⟩ := hC k hk
    exact ⟨(by show ar 0 k = _; rw [e (124 + k) (by omega)]; exact c0), (by show ar 1 k = _; rw [e (164 + k) (by omega)]; exact c1), (by show ar 2 k = _; rw [e (204 + k) (by omega)]; exact c2), (by show ar 3 k = _; rw [e (284 + k) (by omega)]; exact c3), (by show ar 4 k = _; rw [e (324 + k) (by omega), c4]; congr 1; exact rwN_c (fun i hi => (e (564 + 4 * k + i) (by omega)).symm)), c5, (by show ar 6 k = _; rw [e (524 + k) (by omega)]; exact c6)⟩
  · rw [e0] at hs
    obtain ⟨d7, d8⟩ := hS s hs
    exact ⟨(by show ar 7 s = _; rw [e (20 + s) (by omega)]; exact d7), (by show ar 8 s = _; rw [e (60 + s) (by omega)]; exact d8)⟩
theorem RG.alloc (hR : RG g h ar v pl) (h0 : v 0 ≤ 8) (h1 : v 1 ≤ 40) {x : Nat} : RG (upd g 4 (nN x)) h ar (updN v (8) x) pl := by
  obtain ⟨⟨a1, a2, a3, a4, a5, a6⟩, ⟨b7, b8, b9, b10⟩, hC, hS⟩ := hR
  have e : ∀ j, j ≠ 8 → updN v (8) x j = v j := fun j hj => if_neg hj
  have e1 : updN v (8) x 1 = v 1 := e 1 (by omega)
  have e0 : updN v (8) x 0 = v 0 := e 0 (by omega)
  refine ⟨⟨(by show g 1 = _; rw [e 1 (by omega)]; exact a1), (by show g 2 = _; rw [e 11 (by omega)]; exact a2), (by show g 3 = _; rw [e 7 (by omega)]; exact a3), (by rw [updN_s]; exact pk_us), (by show g 5 = _; rw [e 9 (by omega)]; exact a5), (by show g 6 = _; rw [e 10 (by omega)]; exact a6)⟩, ⟨?_, ?_, ?_, ?_⟩, fun k hk => ?_, fun s hs => ?_⟩
  · show h 7 = _; rw [e1, b7]; exact mk_c (fun k hk => by rw [e (244 + k) (by omega)])
  · show h 8 = _; rw [e1, b8]; exact mk_c (fun k hk => by rw [e (364 + k) (by omega)])
  · show h 9 = _; rw [e1, b9]; exact mk_c (fun k hk => by rw [e (404 + k) (by omega)])
  · show h 10 = _; rw [e1, b10]; exact mk_c (fun k hk => by rw [e (444 + k) (by omega)])
  · rw [e1] at hk
    obtain ⟨c0, c1, c2, c3, c4, c5, c6⟩ := hC k hk
    exact ⟨(by show ar 0 k = _; rw [e (124 + k) (by omega)]; exact c0), (by show ar 1 k = _; rw [e (164 + k) (by omega)]; exact c1), (by show ar 2 k = _; rw [e (204 + k) (by omega)]; exact c2), (by show ar 3 k = _; rw [e (284 + k) (by omega)]; exact c3), (by show ar 4 k = _; rw [e (324 + k) (by omega), c4]; congr 1; exact rwN_c (fun i hi => (e (564 + 4 * k + i) (by omega)).symm)), c5, (by show ar 6 k = _; rw [e (524 + k) (by omega)]; exact c6)⟩
  · rw [e0] at hs
    obtain ⟨d7, d8⟩ := hS s hs
    exact ⟨(by show ar 7 s = _; rw [e (20 + s) (by omega)]; exact d7), (by show ar 8 s = _; rw [e (60 + s) (by omega)]; exact d8)⟩
theorem RG.rounds (hR : RG g h ar v pl) (h0 : v 0 ≤ 8) (h1 : v 1 ≤ 40) {x : Nat} : RG (upd g 5 (nN x)) h ar (updN v (9) x) pl := by
  obtain ⟨⟨a1, a2, a3, a4, a5, a6⟩, ⟨b7, b8, b9, b10⟩, hC, hS⟩ := hR
  have e : ∀ j, j ≠ 9 → updN v (9) x j = v j := fun j hj => if_neg hj
  have e1 : updN v (9) x 1 = v 1 := e 1 (by omega)
  have e0 : updN v (9) x 0 = v 0 := e 0 (by omega)
  refine ⟨⟨(by show g 1 = _; rw [e 1 (by omega)]; exact a1), (by show g 2 = _; rw [e 11 (by omega)]; exact a2), (by show g 3 = _; rw [e 7 (by omega)]; exact a3), (by show g 4 = _; rw [e 8 (by omega)]; exact a4), (by rw [updN_s]; exact pk_us), (by show g 6 = _; rw [e 10 (by omega)]; exact a6)⟩, ⟨?_, ?_, ?_, ?_⟩, fun k hk => ?_, fun s hs => ?_⟩
  · show h 7 = _; rw [e1, b7]; exact mk_c (fun k hk => by rw [e (244 + k) (by omega)])
  · show h 8 = _; rw [e1, b8]; exact mk_c (fun k hk => by rw [e (364 + k) (by omega)])
  · show h 9 = _; rw [e1, b9]; exact mk_c (fun k hk => by rw [e (404 + k) (by omega)])
  · show h 10 = _; rw [e1, b10]; exact mk_c (fun k hk => by rw [e (444 + k) (by omega)])
  · rw [e1] at hk
    obtain ⟨c0, c1, c2, c3, c4, c5, c6⟩ := hC k hk
    exact ⟨(by show ar 0 k = _; rw [e (124 + k) (by omega)]; exact c0), (by show ar 1 k = _; rw [e (164 + k) (by omega)]; exact c1), (by show ar 2 k = _; rw [e (204 + k) (by omega)]; exact c2), (by show ar 3 k = _; rw [e (284 + k) (by omega)]; exact c3), (by show ar 4 k = _; rw [e (324 + k) (by omega), c4]; congr 1; exact rwN_c (fun i hi => (e (564 + 4 * k + i) (by omega)).symm)), c5, (by show ar 6 k = _; rw [e (524 + k) (by omega)]; exact c6)⟩
  · rw [e0] at hs
    obtain ⟨d7, d8⟩ := hS s hs
    exact ⟨(by show ar 7 s = _; rw [e (20 + s) (by omega)]; exact d7), (by show ar 8 s = _; rw [e (60 + s) (by omega)]; exact d8)⟩
theorem RG.filled (hR : RG g h ar v pl) (h0 : v 0 ≤ 8) (h1 : v 1 ≤ 40) {x : Nat} : RG (upd g 6 (nN x)) h ar (updN v (10) x) pl := by
  obtain ⟨⟨a1, a2, a3, a4, a5, a6⟩, ⟨b7, b8, b9, b10⟩, hC, hS⟩ := hR
  have e : ∀ j, j ≠ 10 → updN v (10) x j = v j := fun j hj => if_neg hj
  have e1 : updN v (10) x 1 = v 1 := e 1 (by omega)
  have e0 : updN v (10) x 0 = v 0 := e 0 (by omega)
  refine ⟨⟨(by show g 1 = _; rw [e 1 (by omega)]; exact a1), (by show g 2 = _; rw [e 11 (by omega)]; exact a2), (by show g 3 = _; rw [e 7 (by omega)]; exact a3), (by show g 4 = _; rw [e 8 (by omega)]; exact a4), (by show g 5 = _; rw [e 9 (by omega)]; exact a5), (by rw [updN_s]; exact pk_us)⟩, ⟨?_, ?_, ?_, ?_⟩, fun k hk => ?_, fun s hs => ?_⟩
  · show h 7 = _; rw [e1, b7]; exact mk_c (fun k hk => by rw [e (244 + k) (by omega)])
  · show h 8 = _; rw [e1, b8]; exact mk_c (fun k hk => by rw [e (364 + k) (by omega)])
  · show h 9 = _; rw [e1, b9]; exact mk_c (fun k hk => by rw [e (404 + k) (by omega)])
  · show h 10 = _; rw [e1, b10]; exact mk_c (fun k hk => by rw [e (444 + k) (by omega)])
  · rw [e1] at hk
    obtain ⟨c0, c1, c2, c3, c4, c5, c6⟩ := hC k hk
    exact ⟨(by show ar 0 k = _; rw [e (124 + k) (by omega)]; exact c0), (by show ar 1 k = _; rw [e (164 + k) (by omega)]; exact c1), (by show ar 2 k = _; rw [e (204 + k) (by omega)]; exact c2), (by show ar 3 k = _; rw [e (284 + k) (by omega)]; exact c3), (by show ar 4 k = _; rw [e (324 + k) (by omega), c4]; congr 1; exact rwN_c (fun i hi => (e (564 + 4 * k + i) (by omega)).symm)), c5, (by show ar 6 k = _; rw [e (524 + k) (by omega)]; exact c6)⟩
  · rw [e0] at hs
    obtain ⟨d7, d8⟩ := hS s hs
    exact ⟨(by show ar 7 s = _; rw [e (20 + s) (by omega)]; exact d7), (by show ar 8 s = _; rw [e (60 + s) (by omega)]; exact d8)⟩
theorem RG.gone (hR : RG g h ar v pl) (h0 : v 0 ≤ 8) (h1 : v 1 ≤ 40) {c x : Nat} (hc : c < 40) : RG g (vp_updL h 9 (mkL (fun k => updN v (404 + c) x (404 + k) = 1) (v 1))) ar (updN v (404 + c) x) pl := by
  obtain ⟨⟨a1, a2, a3, a4, a5, a6⟩, ⟨b7, b8, b9, b10⟩, hC, hS⟩ := hR
  have e : ∀ j, j ≠ 404 + c → updN v (404 + c) x j = v j := fun j hj => if_neg hj
  have e1 : updN v (404 + c) x 1 = v 1 := e 1 (by omega)
  have e0 : updN v (404 + c) x 0 = v 0 := e 0 (by omega)
  refine ⟨⟨(by show g 1 = _; rw [e 1 (by omega)]; exact a1), (by show g 2 = _; rw [e 11 (by omega)]; exact a2), (by show g 3 = _; rw [e 7 (by omega)]; exact a3), (by show g 4 = _; rw [e 8 (by omega)]; exact a4), (by show g 5 = _; rw [e 9 (by omega)]; exact a5), (by show g 6 = _; rw [e 10 (by omega)]; exact a6)⟩, ⟨?_, ?_, ?_, ?_⟩, fun k hk => ?_, fun s hs => ?_⟩
  · show h 7 = _; rw [e1, b7]; exact mk_c (fun k hk => by rw [e (244 + k) (by omega)])
  · show h 8 = _; rw [e1, b8]; exact mk_c (fun k hk => by rw [e (364 + k) (by omega)])
  · rw [e1]; exact pk_uLs
  · show h 10 = _; rw [e1, b10]; exact mk_c (fun k hk => by rw [e (444 + k) (by omega)])
  · rw [e1] at hk
    obtain ⟨c0, c1, c2, c3, c4, c5, c6⟩ := hC k hk
    exact ⟨(by show ar 0 k = _; rw [e (124 + k) (by omega)]; exact c0), (by show ar 1 k = _; rw [e (164 + k) (by omega)]; exact c1), (by show ar 2 k = _; rw [e (204 + k) (by omega)]; exact c2), (by show ar 3 k = _; rw [e (284 + k) (by omega)]; exact c3), (by show ar 4 k = _; rw [e (324 + k) (by omega), c4]; congr 1; exact rwN_c (fun i hi => (e (564 + 4 * k + i) (by omega)).symm)), c5, (by show ar 6 k = _; rw [e (524 + k) (by omega)]; exact c6)⟩
  · rw [e0] at hs
    obtain ⟨d7, d8⟩ := hS s hs
    exact ⟨(by show ar 7 s = _; rw [e (20 + s) (by omega)]; exact d7), (by show ar 8 s = _; rw [e (60 + s) (by omega)]; exact d8)⟩
theorem RG.app (hR : RG g h ar v pl) (h0 : v 0 ≤ 8) (h1 : v 1 ≤ 40) {c x : Nat} (hc : c < 40) : RG g (vp_updL h 10 (mkL (fun k => updN v (444 + c) x (444 + k) = 1) (v 1))) ar (updN v (444 + c) x) pl := by
  obtain ⟨⟨a1, a2, a3, a4, a5, a6⟩, ⟨b7, b8, b9, b10⟩, hC, hS⟩ := hR
  have e : ∀ j, j ≠ 444 + c → updN v (444 + c) x j = v j := fun j hj => if_neg hj
  have e1 : updN v (444 + c) x 1 = v 1 := e 1 (by omega)
  have e0 : updN v (444 + c) x 0 = v 0 := e 0 (by omega)
  refine ⟨⟨(by show g 1 = _; rw [e 1 (by omega)]; exact a1), (by show g 2 = _; rw [e 11 (by omega)]; exact a2), (by show g 3 = _; rw [e 7 (by omega)]; exact a3), (by show g 4 = _; rw [e 8 (by omega)]; exact a4), (by show g 5 = _; rw [e 9 (by omega)]; exact a5), (by show g 6 = _; rw [e 10 (by omega)]; exact a6)⟩, ⟨?_, ?_, ?_, ?_⟩, fun k hk => ?_, fun s hs => ?_⟩
  · show h 7 = _; rw [e1, b7]; exact mk_c (fun k hk => by rw [e (244 + k) (by omega)])
  · show h 8 = _; rw [e1, b8]; exact mk_c (fun k hk => by rw [e (364 + k) (by omega)])
  · show h 9 = _; rw [e1, b9]; exact mk_c (fun k hk => by rw [e (404 + k) (by omega)])
  · rw [e1]; exact pk_uLs
  · rw [e1] at hk
    obtain ⟨c0, c1, c2, c3, c4, c5, c6⟩ := hC k hk
    exact ⟨(by show ar 0 k = _; rw [e (124 + k) (by omega)]; exact c0), (by show ar 1 k = _; rw [e (164 + k) (by omega)]; exact c1), (by show ar 2 k = _; rw [e (204 + k) (by omega)]; exact c2), (by show ar 3 k = _; rw [e (284 + k) (by omega)]; exact c3), (by show ar 4 k = _; rw [e (324 + k) (by omega), c4]; congr 1; exact rwN_c (fun i hi => (e (564 + 4 * k + i) (by omega)).symm)), c5, (by show ar 6 k = _; rw [e (524 + k) (by omega)]; exact c6)⟩
  · rw [e0] at hs
    obtain ⟨d7, d8⟩ := hS s hs
    exact ⟨(by show ar 7 s = _; rw [e (20 + s) (by omega)]; exact d7), (by show ar 8 s = _; rw [e (60 + s) (by omega)]; exact d8)⟩
theorem RG.ax (hR : RG g h ar v pl) (h0 : v 0 ≤ 8) (h1 : v 1 ≤ 40) {c x : Nat} (hc : c < 40) : RG g h (up2 ar 0 (upd (ar 0) c (nN x))) (updN v (124 + c) x) pl := by
  obtain ⟨⟨a1, a2, a3, a4, a5, a6⟩, ⟨b7, b8, b9, b10⟩, hC, hS⟩ := hR
  have e : ∀ j, j ≠ 124 + c → updN v (124 + c) x j = v j := fun j hj => if_neg hj
  have e1 : updN v (124 + c) x 1 = v 1 := e 1 (by omega)
  have e0 : updN v (124 + c) x 0 = v 0 := e 0 (by omega)
  refine ⟨⟨(by show g 1 = _; rw [e 1 (by omega)]; exact a1), (by show g 2 = _; rw [e 11 (by omega)]; exact a2), (by show g 3 = _; rw [e 7 (by omega)]; exact a3), (by show g 4 = _; rw [e 8 (by omega)]; exact a4), (by show g 5 = _; rw [e 9 (by omega)]; exact a5), (by show g 6 = _; rw [e 10 (by omega)]; exact a6)⟩, ⟨?_, ?_, ?_, ?_⟩, fun k hk => ?_, fun s hs => ?_⟩
  · show h 7 = _; rw [e1, b7]; exact mk_c (fun k hk => by rw [e (244 + k) (by omega)])
  · show h 8 = _; rw [e1, b8]; exact mk_c (fun k hk => by rw [e (364 + k) (by omega)])
  · show h 9 = _; rw [e1, b9]; exact mk_c (fun k hk => by rw [e (404 + k) (by omega)])
  · show h 10 = _; rw [e1, b10]; exact mk_c (fun k hk => by rw [e (444 + k) (by omega)])
  · rw [e1] at hk
    obtain ⟨c0, c1, c2, c3, c4, c5, c6⟩ := hC k hk
    exact ⟨(arr_u c0), (by show ar 1 k = _; rw [e (164 + k) (by omega)]; exact c1), (by show ar 2 k = _; rw [e (204 + k) (by omega)]; exact c2), (by show ar 3 k = _; rw [e (284 + k) (by omega)]; exact c3), (by show ar 4 k = _; rw [e (324 + k) (by omega), c4]; congr 1; exact rwN_c (fun i hi => (e (564 + 4 * k + i) (by omega)).symm)), c5, (by show ar 6 k = _; rw [e (524 + k) (by omega)]; exact c6)⟩
  · rw [e0] at hs
    obtain ⟨d7, d8⟩ := hS s hs
    exact ⟨(by show ar 7 s = _; rw [e (20 + s) (by omega)]; exact d7), (by show ar 8 s = _; rw [e (60 + s) (by omega)]; exact d8)⟩
theorem RG.ay (hR : RG g h ar v pl) (h0 : v 0 ≤ 8) (h1 : v 1 ≤ 40) {c x : Nat} (hc : c < 40) : RG g h (up2 ar 1 (upd (ar 1) c (nN x))) (updN v (164 + c) x) pl := by
  obtain ⟨⟨a1, a2, a3, a4, a5, a6⟩, ⟨b7, b8, b9, b10⟩, hC, hS⟩ := hR
  have e : ∀ j, j ≠ 164 + c → updN v (164 + c) x j = v j := fun j hj => if_neg hj
  have e1 : updN v (164 + c) x 1 = v 1 := e 1 (by omega)
  have e0 : updN v (164 + c) x 0 = v 0 := e 0 (by omega)
  refine ⟨⟨(by show g 1 = _; rw [e 1 (by omega)]; exact a1), (by show g 2 = _; rw [e 11 (by omega)]; exact a2), (by show g 3 = _; rw [e 7 (by omega)]; exact a3), (by show g 4 = _; rw [e 8 (by omega)]; exact a4), (by show g 5 = _; rw [e 9 (by omega)]; exact a5), (by show g 6 = _; rw [e 10 (by omega)]; exact a6)⟩, ⟨?_, ?_, ?_, ?_⟩, fun k hk => ?_, fun s hs => ?_⟩
  · show h 7 = _; rw [e1, b7]; exact mk_c (fun k hk => by rw [e (244 + k) (by omega)])
  · show h 8 = _; rw [e1, b8]; exact mk_c (fun k hk => by rw [e (364 + k) (by omega)])
  · show h 9 = _; rw [e1, b9]; exact mk_c (fun k hk => by rw [e (404 + k) (by omega)])
  · show h 10 = _; rw [e1, b10]; exact mk_c (fun k hk => by rw [e (444 + k) (by omega)])
  · rw [e1] at hk
    obtain ⟨c0, c1, c2, c3, c4, c5, c6⟩ := hC k hk
    exact ⟨(by show ar 0 k = _; rw [e (124 + k) (by omega)]; exact c0), (arr_u c1), (by show ar 2 k = _; rw [e (204 + k) (by omega)]; exact c2), (by show ar 3 k = _; rw [e (284 + k) (by omega)]; exact c3), (by show ar 4 k = _; rw [e (324 + k) (by omega), c4]; congr 1; exact rwN_c (fun i hi => (e (564 + 4 * k + i) (by omega)).symm)), c5, (by show ar 6 k = _; rw [e (524 + k) (by omega)]; exact c6)⟩
  · rw [e0] at hs
    obtain ⟨d7, d8⟩ := hS s hs
    exact ⟨(by show ar 7 s = _; rw [e (20 + s) (by omega)]; exact d7), (by show ar 8 s = _; rw [e (60 + s) (by omega)]; exact d8)⟩
theorem RG.round (hR : RG g h ar v pl) (h0 : v 0 ≤ 8) (h1 : v 1 ≤ 40) {c x : Nat} (hc : c < 40) : RG g h (up2 ar 6 (upd (ar 6) c (nN x))) (updN v (524 + c) x) pl := by
  obtain ⟨⟨a1, a2, a3, a4, a5, a6⟩, ⟨b7, b8, b9, b10⟩, hC, hS⟩ := hR
  have e : ∀ j, j ≠ 524 + c → updN v (524 + c) x j = v j := fun j hj => if_neg hj
  have e1 : updN v (524 + c) x 1 = v 1 := e 1 (by omega)
  have e0 : updN v (524 + c) x 0 = v 0 := e 0 (by omega)
  refine ⟨⟨(by show g 1 = _; rw [e 1 (by omega)]; exact a1), (by show g 2 = _; rw [e 11 (by omega)]; exact a2), (by show g 3 = _; rw [e 7 (by omega)]; exact a3), (by show g 4 = _; rw [e 8 (by omega)]; exact a4), (by show g 5 = _; rw [e 9 (by omega)]; exact a5), (by show g 6 = _; rw [e 10 (by omega)]; exact a6)⟩, ⟨?_, ?_, ?_, ?_⟩, fun k hk => ?_, fun s hs => ?_⟩
  · show h 7 = _; rw [e1, b7]; exact mk_c (fun k hk => by rw [e (244 + k) (by omega)])
  · show h 8 = _; rw [e1, b8]; exact mk_c (fun k hk => by rw [e (364 + k) (by omega)])
  · show h 9 = _; rw [e1, b9]; exact mk_c (fun k hk => by rw [e (404 + k) (by omega)])
  · show h 10 = _; rw [e1, b10]; exact mk_c (fun k hk => by rw [e (444 + k) (by omega)])
  · rw [e1] at hk
    obtain ⟨c0, c1, c2, c3, c4, c5, c6⟩ := hC k hk
    exact ⟨(by show ar 0 k = _; rw [e (124 + k) (by omega)]; exact c0), (by show ar 1 k = _; rw [e (164 + k) (by omega)]; exact c1), (by show ar 2 k = _; rw [e (204 + k) (by omega)]; exact c2), (by show ar 3 k = _; rw [e (284 + k) (by omega)]; exact c3), (by show ar 4 k = _; rw [e (324 + k) (by omega), c4]; congr 1; exact rwN_c (fun i hi => (e (564 + 4 * k + i) (by omega)).symm)), c5, (arr_u c6)⟩
  · rw [e0] at hs
    obtain ⟨d7, d8⟩ := hS s hs
    exact ⟨(by show ar 7 s = _; rw [e (20 + s) (by omega)]; exact d7), (by show ar 8 s = _; rw [e (60 + s) (by omega)]; exact d8)⟩
theorem RG.many (hR : RG g h ar v pl) (h0 : v 0 ≤ 8) (h1 : v 1 ≤ 40) {c x : Nat} (hc : c < 40) : RG g h (up2 ar 4 (upd (ar 4) c (nN (rwN (fun i => v (564 + 4 * c + i)) x)))) (updN v (324 + c) x) pl := by
  obtain ⟨⟨a1, a2, a3, a4, a5, a6⟩, ⟨b7, b8, b9, b10⟩, hC, hS⟩ := hR
  have e : ∀ j, j ≠ 324 + c → updN v (324 + c) x j = v j := fun j hj => if_neg hj
  have e1 : updN v (324 + c) x 1 = v 1 := e 1 (by omega)
  have e0 : updN v (324 + c) x 0 = v 0 := e 0 (by omega)
  refine ⟨⟨(by show g 1 = _; rw [e 1 (by omega)]; exact a1), (by show g 2 = _; rw [e 11 (by omega)]; exact a2), (by show g 3 = _; rw [e 7 (by omega)]; exact a3), (by show g 4 = _; rw [e 8 (by omega)]; exact a4), (by show g 5 = _; rw [e 9 (by omega)]; exact a5), (by show g 6 = _; rw [e 10 (by omega)]; exact a6)⟩, ⟨?_, ?_, ?_, ?_⟩, fun k hk => ?_, fun s hs => ?_⟩
  · show h 7 = _; rw [e1, b7]; exact mk_c (fun k hk => by rw [e (244 + k) (by omega)])
  · show h 8 = _; rw [e1, b8]; exact mk_c (fun k hk => by rw [e (364 + k) (by omega)])
  · show h 9 = _; rw [e1, b9]; exact mk_c (fun k hk => by rw [e (404 + k) (by omega)])
  · show h 10 = _; rw [e1, b10]; exact mk_c (fun k hk => by rw [e (444 + k) (by omega)])
  · rw [e1] at hk
    obtain ⟨c0, c1, c2, c3, c4, c5, c6⟩ := hC k hk
    exact ⟨(by show ar 0 k = _; rw [e (124 + k) (by omega)]; exact c0), (by show ar 1 k = _; rw [e (164 + k) (by omega)]; exact c1), (by show ar 2 k = _; rw [e (204 + k) (by omega)]; exact c2), (by show ar 3 k = _; rw [e (284 + k) (by omega)]; exact c3), (arr_r hc c4), c5, (by show ar 6 k = _; rw [e (524 + k) (by omega)]; exact c6)⟩
  · rw [e0] at hs
    obtain ⟨d7, d8⟩ := hS s hs
    exact ⟨(by show ar 7 s = _; rw [e (20 + s) (by omega)]; exact d7), (by show ar 8 s = _; rw [e (60 + s) (by omega)]; exact d8)⟩
theorem RG.cap (hR : RG g h ar v pl) (h0 : v 0 ≤ 8) (h1 : v 1 ≤ 40) {c x : Nat} (hc : c < 8) : RG g h (up2 ar 7 (upd (ar 7) c (nN x))) (updN v (20 + c) x) pl := by
  obtain ⟨⟨a1, a2, a3, a4, a5, a6⟩, ⟨b7, b8, b9, b10⟩, hC, hS⟩ := hR
  have e : ∀ j, j ≠ 20 + c → updN v (20 + c) x j = v j := fun j hj => if_neg hj
  have e1 : updN v (20 + c) x 1 = v 1 := e 1 (by omega)
  have e0 : updN v (20 + c) x 0 = v 0 := e 0 (by omega)
  refine ⟨⟨(by show g 1 = _; rw [e 1 (by omega)]; exact a1), (by show g 2 = _; rw [e 11 (by omega)]; exact a2), (by show g 3 = _; rw [e 7 (by omega)]; exact a3), (by show g 4 = _; rw [e 8 (by omega)]; exact a4), (by show g 5 = _; rw [e 9 (by omega)]; exact a5), (by show g 6 = _; rw [e 10 (by omega)]; exact a6)⟩, ⟨?_, ?_, ?_, ?_⟩, fun k hk => ?_, fun s hs => ?_⟩
  · show h 7 = _; rw [e1, b7]; exact mk_c (fun k hk => by rw [e (244 + k) (by omega)])
  · show h 8 = _; rw [e1, b8]; exact mk_c (fun k hk => by rw [e (364 + k) (by omega)])
  · show h 9 = _; rw [e1, b9]; exact mk_c (fun k hk => by rw [e (404 + k) (by omega)])
  · show h 10 = _; rw [e1, b10]; exact mk_c (fun k hk => by rw [e (444 + k) (by omega)])
  · rw [e1] at hk
    obtain ⟨c0, c1, c2, c3, c4, c5, c6⟩ := hC k hk
    exact ⟨(by show ar 0 k = _; rw [e (124 + k) (by omega)]; exact c0), (by show ar 1 k = _; rw [e (164 + k) (by omega)]; exact c1), (by show ar 2 k = _; rw [e (204 + k) (by omega)]; exact c2), (by show ar 3 k = _; rw [e (284 + k) (by omega)]; exact c3), (by show ar 4 k = _; rw [e (324 + k) (by omega), c4]; congr 1; exact rwN_c (fun i hi => (e (564 + 4 * k + i) (by omega)).symm)), c5, (by show ar 6 k = _; rw [e (524 + k) (by omega)]; exact c6)⟩
  · rw [e0] at hs
    obtain ⟨d7, d8⟩ := hS s hs
    exact ⟨(arr_u d7), (by show ar 8 s = _; rw [e (60 + s) (by omega)]; exact d8)⟩
theorem RG.granted (hR : RG g h ar v pl) (h0 : v 0 ≤ 8) (h1 : v 1 ≤ 40) {c x : Nat} (hc : c < 8) : RG g h (up2 ar 8 (upd (ar 8) c (nN x))) (updN v (60 + c) x) pl := by
  obtain ⟨⟨a1, a2, a3, a4, a5, a6⟩, ⟨b7, b8, b9, b10⟩, hC, hS⟩ := hR
  have e : ∀ j, j ≠ 60 + c → updN v (60 + c) x j = v j := fun j hj => if_neg hj
  have e1 : updN v (60 + c) x 1 = v 1 := e 1 (by omega)
  have e0 : updN v (60 + c) x 0 = v 0 := e 0 (by omega)
  refine ⟨⟨(by show g 1 = _; rw [e 1 (by omega)]; exact a1), (by show g 2 = _; rw [e 11 (by omega)]; exact a2), (by show g 3 = _; rw [e 7 (by omega)]; exact a3), (by show g 4 = _; rw [e 8 (by omega)]; exact a4), (by show g 5 = _; rw [e 9 (by omega)]; exact a5), (by show g 6 = _; rw [e 10 (by omega)]; exact a6)⟩, ⟨?_, ?_, ?_, ?_⟩, fun k hk => ?_, fun s hs => ?_⟩
  · show h 7 = _; rw [e1, b7]; exact mk_c (fun k hk => by rw [e (244 + k) (by omega)])
  · show h 8 = _; rw [e1, b8]; exact mk_c (fun k hk => by rw [e (364 + k) (by omega)])
  · show h 9 = _; rw [e1, b9]; exact mk_c (fun k hk => by rw [e (404 + k) (by omega)])
  · show h 10 = _; rw [e1, b10]; exact mk_c (fun k hk => by rw [e (444 + k) (by omega)])
  · rw [e1] at hk
    obtain ⟨c0, c1, c2, c3, c4, c5, c6⟩ := hC k hk
    exact ⟨(by show ar 0 k = _; rw [e (124 + k) (by omega)]; exact c0), (by show ar 1 k = _; rw [e (164 + k) (by omega)]; exact c1), (by show ar 2 k = _; rw [e (204 + k) (by omega)]; exact c2), (by show ar 3 k = _; rw [e (284 + k) (by omega)]; exact c3), (by show ar 4 k = _; rw [e (324 + k) (by omega), c4]; congr 1; exact rwN_c (fun i hi => (e (564 + 4 * k + i) (by omega)).symm)), c5, (by show ar 6 k = _; rw [e (524 + k) (by omega)]; exact c6)⟩
  · rw [e0] at hs
    obtain ⟨d7, d8⟩ := hS s hs
    exact ⟨(by show ar 7 s = _; rw [e (20 + s) (by omega)]; exact d7), (arr_u d8)⟩
/-- the town's part of a row is the same -/
def sameT (v v' : Nat → Nat) : Prop := ∀ i, (i = 0 ∨ i = 2 ∨ i = 6 ∨ (28 ≤ i ∧ i < 60) ∨ (68 ≤ i ∧ i < 124) ∨ 724 ≤ i) → v' i = v i
theorem sameT.r (v : Nat → Nat) : sameT v v := fun _ _ => rfl
theorem sameT.t {v v' v'' : Nat → Nat} (h : sameT v v') (h2 : sameT v' v'') : sameT v v'' := fun i hi => (h2 i hi).trans (h i hi)
theorem sameT.w {v : Nat → Nat} {i x : Nat} (hi : (i = 7 ∨ i = 8 ∨ i = 9 ∨ i = 10 ∨ i = 1 ∨ i = 11) ∨ (20 ≤ i ∧ i < 28) ∨ (60 ≤ i ∧ i < 68) ∨ (124 ≤ i ∧ i < 724)) : sameT v (updN v i x) := fun j hj => updN_n (by omega)
theorem hasP_same {v' : Nat → Nat} (hs : sameT v v') (f s : Nat) : hasP v' f s = hasP v f s := by
  unfold hasP
  rw [hs 2 (by omega)]
  congr 2
  funext k
  rw [hs (724 + 2 * k) (by omega), hs (724 + 2 * k + 1) (by omega)]
theorem TG.same {v' : Nat → Nat} (hT : TG u ta v cd) (hs : sameT v v') (h0 : v 0 ≤ 8) (h44 : ∀ s, s < 8 → v (44 + s) ≤ 3) : TG u ta v' cd := by
  obtain ⟨⟨a0, a1, a2⟩, hC, hF⟩ := hT
  refine ⟨⟨by rw [hs 0 (by omega)]; exact a0, by rw [hs 2 (by omega)]; exact a1, by rw [hs 6 (by omega)]; exact a2⟩, fun s h => ?_, fun f hf => ?_⟩
  · rw [hs 0 (by omega)] at h
    obtain ⟨c0, c1, c2, c3, c4, c5, c6⟩ := hC s h
    have h44 := h44 s (by omega)
    refine ⟨c0, by rw [hs (28 + s) (by omega)]; exact c1, by rw [hs (36 + s) (by omega)]; exact c2, ?_, ?_, ?_, ?_⟩
    · rw [hs (44 + s) (by omega), c3]; congr 1; exact rwN_c (fun i hi => (hs (68 + 3 * s + i) (by omega)).symm)
    · rw [hs 2 (by omega), c4]; congr 1; exact cnt_c (fun k hk => by rw [hs (724 + 2 * k + 1) (by omega)])
    · rw [hs (52 + s) (by omega), hs (92 + 4 * s) (by omega), hs (92 + 4 * s + 1) (by omega), hs (92 + 4 * s + 2) (by omega), hs (92 + 4 * s + 3) (by omega)]; exact c5
    · rw [hs (52 + s) (by omega)]; exact c6
  · obtain ⟨N, h1, h2, h3⟩ := hF f hf
    exact ⟨N, h1, h2, fun s h => by rw [hasP_same hs]; exact h3 s h⟩
end RU
section CW
variable {B : Mem} {r b t tb : Nat} {g : Nat → Int32} {h : Nat → Int64} {ar : Nat → Nat → Int32} {u : Nat → Int32} {ta : Nat → Nat → Int32} {v : Nat → Nat} {pl : Nat → Option Nat} {cd : Nat → Nat}
theorem app_off {c : Nat} (hc : c < v 1) (h1 : v 1 ≤ 40) : mkL (fun c => v (444 + c) = 1) (v 1) &&& (((1 : Int64) <<< (Int32.toInt64 (nN c) &&& 63)) ^^^ (-1 : Int64)) = mkL (fun k => updN v (444 + c) 0 (444 + k) = 1) (v 1) := by
  rw [mk_clr (by omega)]
  refine mk_c (fun k hk => ?_)
  by_cases h : k = c
  · subst h; rw [updN_s]; simp
  · rw [updN_n (by omega)]; simp [h]
theorem app_on {c : Nat} (hc : c < v 1) (h1 : v 1 ≤ 40) : mkL (fun c => v (444 + c) = 1) (v 1) ||| ((1 : Int64) <<< (Int32.toInt64 (nN c) &&& 63)) = mkL (fun k => updN v (444 + c) 1 (444 + k) = 1) (v 1) := by
  rw [mk_set hc (by omega)]
  refine mk_c (fun k hk => ?_)
  by_cases h : k = c
  · subst h; rw [updN_s]; simp
  · rw [updN_n (by omega)]; simp [h]
theorem gone_on {c : Nat} (hc : c < v 1) (h1 : v 1 ≤ 40) : mkL (fun c => v (404 + c) = 1) (v 1) ||| ((1 : Int64) <<< (Int32.toInt64 (nN c) &&& 63)) = mkL (fun k => updN v (404 + c) 1 (404 + k) = 1) (v 1) := by
  rw [mk_set hc (by omega)]
  refine mk_c (fun k hk => ?_)
  by_cases h : k = c
  · subst h; rw [updN_s]; simp
  · rw [updN_n (by omega)]; simp [h]
theorem c_leave (hG : GE r b t tb) (hR : RG g h ar v pl) (h0 : v 0 ≤ 8) (h1 : v 1 ≤ 40) {c : Nat} (hc : c < v 1) : ∃ g' h' ar', p_X2_leave r (nN c) (ofc B r b t tb g h ar u ta) = some (ofc B r b t tb g' h' ar' u ta) ∧ RG g' h' ar' (updN v (444 + c) 0) (updO pl c none) := by
  refine ⟨g, vp_updL h 10 (mkL (fun k => updN v (444 + c) 0 (444 + k) = 1) (v 1)), up2 ar 5 (upd (ar 5) c (oN none)), ?_, (hR.place (c := c) (p := none)).app h0 h1 (by omega)⟩
  unfold p_X2_leave
  simp (disch := omega) only [fv_16, bS, fe_5 hG, wr_nN, Option.map_some, fv_10, hR.h10, app_off hc h1, fw_10]
  rfl
theorem c_takeOut (hG : GE r b t tb) (hR : RG g h ar v pl) (h0 : v 0 ≤ 8) (h1 : v 1 ≤ 40) {c : Nat} (hc : c < v 1) : ∃ g' h' ar', p_X2_takeOut r (nN c) (ofc B r b t tb g h ar u ta) = some (ofc B r b t tb g' h' ar' u ta) ∧ RG g' h' ar' (updN (updN v (444 + c) 0) (404 + c) 1) (updO pl c none) := by
  obtain ⟨g1, h1', ar1, e1, R1⟩ := c_leave (B := B) (u := u) (ta := ta) hG hR h0 h1 hc
  have v1 : updN v (444 + c) 0 1 = v 1 := updN_n (by omega)
  have v0 : updN v (444 + c) 0 0 = v 0 := updN_n (by omega)
  refine ⟨g1, vp_updL h1' 9 (mkL (fun k => updN (updN v (444 + c) 0) (404 + c) 1 (404 + k) = 1) (updN v (444 + c) 0 1)), ar1, ?_, R1.gone (by omega) (by omega) (by omega)⟩
  unfold p_X2_takeOut
  simp only [fv_isC, bS, e1, fv_9, R1.h9, gone_on (v := updN v (444 + c) 0) (c := c) (by omega) (by omega), fw_9]
theorem row_cut {w : Nat → Nat} {n i : Nat} (hn : n ≤ 4) (hw : ∀ i, i < n → w i < 15) (hi : i < 4) (hin : i ≤ n) : nN (rwN w n) &&& (((1 : Int32) <<< (((4 : Int32) * nN i) &&& 31)) - (1 : Int32)) = nN (rwN w i) := by
  have p : 2 ^ (4 * i) ≤ 2 ^ 12 := Nat.pow_le_pow_right (by decide) (by omega)
  have p1 : 0 < 2 ^ (4 * i) := Nat.pow_pos (by decide)
  have e1 : (1 : Int32) <<< (((4 : Int32) * nN i) &&& 31) = nN (2 ^ (4 * i)) := by
    have := pk_shlN (n := 1) (((4 : Int32) * nN i) &&& 31) (4 * i) (sm4 i hi) (by omega)
    rw [Nat.one_mul] at this
    exact this
  have e2 : nN (2 ^ (4 * i)) - (1 : Int32) = nI (2 ^ (4 * i) - 1) := nN_subN p1
  rw [e1, e2, nN_nI, fa_mask, ← nN_nI]
  congr 1
  have e3 : (2 : Nat) ^ (4 * i) = 16 ^ i := by rw [Nat.pow_mul]
  rw [e3]
  clear e1 e2 e3 p p1
  have key : ∀ d, i + d ≤ n → rwN w (i + d) % 16 ^ i = rwN w i := by
    intro d
    induction d with
    | zero => intro hd; exact Nat.mod_eq_of_lt (rwN_lt (fun k hk => hw k (by omega)))
    | succ d ih =>
      intro hd
      show (rwN w (i + d) + (w (i + d) + 1) * 16 ^ (i + d)) % 16 ^ i = _
      have e : (w (i + d) + 1) * 16 ^ (i + d) = 16 ^ i * ((w (i + d) + 1) * 16 ^ d) := by rw [Nat.pow_add]; simp only [Nat.mul_left_comm]
      rw [e, Nat.add_mul_mod_self_left]
      exact ih (by omega)
  have := key (n - i) (by omega)
  rw [show i + (n - i) = n by omega] at this
  exact this
theorem c_handBack (B : Mem) (hG : GE r b t tb) (hR : RG g h ar v pl) (hT : TG u ta v cd) (hI : Inv v pl) {c i : Nat} (hc : c < v 1) (hi : gotO v pl c = some i) : ∃ g' h' ar', p_X2_handBack r (nN c) (ofc B r b t tb g h ar u ta) = some (ofc B r b t tb g' h' ar' u ta) ∧ RG g' h' ar' (if i = 0 then updN (updN v (444 + c) 0) (404 + c) 1 else updN (updN v (444 + c) 0) (324 + c) i) (updO pl c none) := by
  have hb := hI.hb; have h0 := hI.h0; have h1 := hI.h1; have h2 := hI.h2; have h7 := hI.h7; have h8 := hI.h8
  have hch := hI.chi c (by omega)
  have i4 := got_b hI hc hi
  have e0 := c_gotWish B hG hR hT hI hc
  rw [hi] at e0
  obtain ⟨g1, h1', ar1, e1, R1⟩ := c_leave (B := B) (u := u) (ta := ta) hG hR h0 h1 hc
  have v1 : updN v (444 + c) 0 1 = v 1 := updN_n (by omega)
  have v0 : updN v (444 + c) 0 0 = v 0 := updN_n (by omega)
  by_cases ci : i = 0
  · subst ci
    obtain ⟨g2, h2', ar2, e2, R2⟩ := c_takeOut (B := B) (u := u) (ta := ta) hG R1 (by omega) (by omega) (c := c) (by omega)
    refine ⟨g2, h2', ar2, ?_, ?_⟩
    · unfold p_X2_handBack
      simp only [fv_isC, bS, e0, e1, e2]
      rfl
    · rw [if_pos rfl]
      rw [updN_2, updO_2] at R2
      exact R2
  · have hle : i ≤ v (324 + c) := by
      unfold gotO at hi
      cases hp : pl c with
      | none => rw [hp] at hi; cases hi
      | some s => rw [hp] at hi; exact Nat.le_of_lt (wis_lt hi)
    have v3 : updN v (444 + c) 0 (324 + c) = v (324 + c) := updN_n (by omega)
    have a4 := R1.a4 (c := c) (by omega)
    rw [v3] at a4
    have a4' : ar1 4 c = nN (rwN (fun i => v (564 + 4 * c + i)) (v (324 + c))) := by
      rw [a4]; congr 1; exact rwN_c (fun i hi => updN_n (by omega))
    have rc := row_cut (w := fun i => v (564 + 4 * c + i)) (n := v (324 + c)) (i := i) (by omega) (wis15 hI hc) i4 hle
    have rc2 : rwN (fun i => v (564 + 4 * c + i)) i = rwN (fun k => updN v (444 + c) 0 (564 + 4 * c + k)) i := rwN_c (fun k hk => (updN_n (by omega)).symm)
    refine ⟨g1, h1', up2 ar1 4 (upd (ar1 4) c (nN (rwN (fun k => updN v (444 + c) 0 (564 + 4 * c + k)) i))), ?_, ?_⟩
    · unfold p_X2_handBack
      have hpos : (0 : Int32) < nN i := by rw [i_lt, nN_toInt (by omega)]; show (0 : Int) < i; omega
      simp (disch := omega) only [fv_isC, bS, e0, e1, oN, hpos, if_true, fv_15, fd_4 hG, rd_nN, a4', rc, fe_4 hG, wr_nN, Option.map_some]
      rw [rc2]
    · rw [if_neg ci]
      exact R1.many (by omega) (by omega) (by omega)
def heaS (v : Nat → Nat) (pl : Nat → Option Nat) (c s : Nat) : Nat := if clmB v pl c s = true then 2 else if v (60 + s) < v 6 then 1 else 0
def heaV (v : Nat → Nat) (pl : Nat → Option Nat) (c s : Nat) : Nat → Nat := if clmB v pl c s = true then updN v (444 + c) 1 else if v (60 + s) < v 6 then updN (updN v (60 + s) (v (60 + s) + 1)) (444 + c) 1 else v
def heaP (v : Nat → Nat) (pl : Nat → Option Nat) (c s : Nat) : Nat → Option Nat := if clmB v pl c s = true ∨ v (60 + s) < v 6 then updO pl c (some s) else pl
theorem c_hearAppeal (B : Mem) (hG : GE r b t tb) (hR : RG g h ar v pl) (hT : TG u ta v cd) (hI : Inv v pl) {c s : Nat} (hc : c < v 1) (hs : s < v 0) : ∃ g' h' ar', p_X2_hearAppeal r (nN c) (nN s) (ofc B r b t tb g h ar u ta) = some (nN (heaS v pl c s), ofc B r b t tb g' h' ar' u ta) ∧ RG g' h' ar' (heaV v pl c s) (heaP v pl c s) := by
  have hb := hI.hb; have h0 := hI.h0; have h1 := hI.h1; have h2 := hI.h2; have h7 := hI.h7; have h8 := hI.h8
  have e1 := c_claimStands B hG hR hT hI hc hs
  have b6 := hb (60 + s) (by omega)
  have b66 := hb 6 (by omega)
  by_cases c1 : clmB v pl c s = true
  · refine ⟨g, vp_updL h 10 (mkL (fun k => updN v (444 + c) 1 (444 + k) = 1) (v 1)), up2 ar 5 (upd (ar 5) c (oN (some s))), ?_, ?_⟩
    · unfold p_X2_hearAppeal heaS
      rw [if_pos c1]
      simp (disch := omega) only [fv_isC, bS, e1, jn_def, bI, c1, if_true, show ¬ (nN 1 = 0) by decide, if_false, fv_16, fe_5 hG, wr_nN, Option.map_some, fv_10, hR.h10, app_on hc h1, fw_10]
      rfl
    · unfold heaV heaP
      rw [if_pos c1, if_pos (Or.inl c1)]
      exact (hR.place (c := c) (p := some s)).app h0 h1 (by omega)
  · have f0 : bI (clmB v pl c s = true) = (0 : Int32) := (bI_f c1).symm
    by_cases c2 : v (60 + s) < v 6
    · have v1 : updN v (60 + s) (v (60 + s) + 1) 1 = v 1 := updN_n (by omega)
      have v0 : updN v (60 + s) (v (60 + s) + 1) 0 = v 0 := updN_n (by omega)
      have R1 := hR.granted h0 h1 (c := s) (x := v (60 + s) + 1) (by omega)
      have ea := hR.a8 hs
      have en : nN (v (60 + s)) + (1 : Int32) = nN (v (60 + s) + 1) := nN_add _ 1
      have lt : (nN (v (60 + s)) < nN (v 6)) = True := by rw [nN_lt b6 b66]; simp [c2]
      refine ⟨g, vp_updL h 10 (mkL (fun k => updN (updN v (60 + s) (v (60 + s) + 1)) (444 + c) 1 (444 + k) = 1) (updN v (60 + s) (v (60 + s) + 1) 1)), up2 (up2 ar 8 (upd (ar 8) s (nN (v (60 + s) + 1)))) 5 (upd (up2 ar 8 (upd (ar 8) s (nN (v (60 + s) + 1))) 5) c (oN (some s))), ?_, ?_⟩
      · unfold p_X2_hearAppeal heaS
        rw [if_neg c1, if_pos c2]
        have ao := app_on (v := updN v (60 + s) (v (60 + s) + 1)) (c := c) (by omega) (by omega)
        have h10 := R1.h10
        simp (disch := omega) only [fv_isC, bS, e1, jn_def, f0, if_true, fv_19, fd_8 hG, rd_nN, ea, fv_0, ft_2 hG, hT.u2, lt, en, fe_8 hG, fv_16, fe_5 hG, wr_nN, Option.map_some, fv_10, h10, ao, fw_10]
        rfl
      · unfold heaV heaP
        rw [if_neg c1, if_pos c2, if_pos (Or.inr c2)]
        exact (R1.place (c := c) (p := some s)).app (by omega) (by omega) (by omega)
    · have ea := hR.a8 hs
      have lt : (nN (v (60 + s)) < nN (v 6)) = False := by rw [nN_lt b6 b66]; simp [c2]
      refine ⟨g, h, ar, ?_, ?_⟩
      · unfold p_X2_hearAppeal heaS
        rw [if_neg c1, if_neg c2]
        simp (disch := omega) only [fv_isC, bS, e1, jn_def, f0, if_true, fv_19, fd_8 hG, rd_nN, ea, fv_0, ft_2 hG, hT.u2, lt, if_false]
        rfl
      · unfold heaV heaP
        rw [if_neg c1, if_neg c2, if_neg (by intro z; rcases z with z | z; exact c1 z; exact c2 z)]
        exact hR
end CW
