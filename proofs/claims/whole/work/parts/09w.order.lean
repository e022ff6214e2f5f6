/-! bestByOrder -/
section NG
variable {v : Nat → Nat} {p0 : Nat → Option Nat}
theorem no_gain2 (hI : Inv v p0) {v' : Nat → Nat} (hI' : Inv v' p0) (h : sameS v v') {c : Nat} (hc : c < v 1) (hm : v' (324 + c) = v (324 + c)) (ho : ∀ d, d ≠ c → d < v 1 → v' (324 + d) = v (324 + d) ∧ ∀ i, i < 4 → wsh v' d i = wsh v d i) {i : Nat} (hi : i < v (324 + c)) (hD : daP v' c = some (wsh v c i)) : ∃ j, j ≤ i ∧ daP v c = some (wsh v c j) := by
  have h0 := hI.h0; have h1 := hI.h1
  have hc4 := (hI.chi c (by omega)).2.2.2.2.2.1
  by_cases hyp : ∃ j, j ≤ i ∧ daP v c = some (wsh v c j)
  · exact hyp
  exfalso
  have hno : ∀ j, j ≤ i → daP v c ≠ some (wsh v c j) := fun j hj z => hyp ⟨j, hj, z⟩
  -- its list cut behind that school
  have It0 : Inv v (fun _ => none) := hI.pa (fun c s h => by cases h)
  have It : Inv (updN v (324 + c) (i + 1)) (fun _ => none) := It0.many (by omega) (by omega) rfl
  have St : sameS v (updN v (324 + c) (i + 1)) := fun j hj => updN_n (by omega)
  have wt : ∀ d j, j < 4 → d < 40 → wsh (updN v (324 + c) (i + 1)) d j = wsh v d j := fun d j hj hd => updN_n (by omega)
  have mt : updN v (324 + c) (i + 1) (324 + c) = i + 1 := updN_s
  have mo : ∀ d, d ≠ c → updN v (324 + c) (i + 1) (324 + d) = v (324 + d) := fun d hd => updN_n (by omega)
  have m4 : ∀ d, d < v 1 → v (324 + d) ≤ 4 := fun d hd => (hI.chi d (by omega)).2.2.2.2.2.1
  have Bt := da_STB It
  have hct : daP (updN v (324 + c) (i + 1)) c = none := by
    cases hp : daP (updN v (324 + c) (i + 1)) c with
    | none => rfl
    | some s =>
      exfalso
      obtain ⟨_, _, j, q1, q2⟩ := Bt.1 c s hp
      rw [mt] at q1
      rw [wt c j (by omega) (by omega)] at q2
      have BV : STB v (daP (updN v (324 + c) (i + 1))) := by
        refine STB_to St hI Bt (fun d s' hd => ?_) (fun d i2 hd hi2 hn => ?_)
        · obtain ⟨e1, _, k, e2, e3⟩ := Bt.1 d s' hd
          rw [St 1 (by omega)] at e1
          have := m4 d e1
          by_cases e : d = c
          · subst e; rw [mt] at e2; rw [wt d k (by omega) (by omega)] at e3; exact ⟨k, by omega, e3⟩
          · rw [mo d e] at e2; rw [wt d k (by omega) (by omega)] at e3; exact ⟨k, e2, e3⟩
        · have := m4 d hd
          by_cases e : d = c
          · subst e
            have hlt : i2 < j := by
              rcases Nat.lt_or_ge i2 j with e4 | e4
              · exact e4
              · exact absurd (by rw [hp, q2]) (hn j e4)
            exact ⟨i2, by rw [mt]; omega, wt d i2 (by omega) (by omega), fun j' hj' => by rw [wt d j' (by omega) (by omega)]; exact hn j' hj'⟩
          · exact ⟨i2, by rw [mo d e]; exact hi2, wt d i2 (by omega) (by omega), fun j' hj' => by rw [wt d j' (by omega) (by omega)]; exact hn j' hj'⟩
      obtain ⟨j', e1, e2⟩ := da_best hI BV hc (i := j) (by omega) (by rw [hp, q2])
      exact hno j' (by omega) e2
  -- that school alone
  have Sq : sameS v (updN (updN v (564 + 4 * c) (wsh v c i)) (324 + c) 1) := fun j hj => (updN_n (by omega)).trans (updN_n (by omega))
  have mq : updN (updN v (564 + 4 * c) (wsh v c i)) (324 + c) 1 (324 + c) = 1 := updN_s
  have wq : wsh (updN (updN v (564 + 4 * c) (wsh v c i)) (324 + c) 1) c 0 = wsh v c i := (updN_n (by omega)).trans updN_s
  have mqo : ∀ d, d ≠ c → d < 40 → updN (updN v (564 + 4 * c) (wsh v c i)) (324 + c) 1 (324 + d) = v (324 + d) := fun d hd hd4 => (updN_n (by omega)).trans (updN_n (by omega))
  have wqo : ∀ d j, d ≠ c → j < 4 → d < 40 → wsh (updN (updN v (564 + 4 * c) (wsh v c i)) (324 + c) 1) d j = wsh v d j := fun d j hd hj h40 => by
    unfold wsh; rw [updN_n (by omega), updN_n (by omega)]
  have Iq : Inv (updN (updN v (564 + 4 * c) (wsh v c i)) (324 + c) 1) (fun _ => none) := by
    have hw := hI.wis c hc i hi
    obtain ⟨⟨a0, a1, a2, a6, a7, a8, a9⟩, hS, hU, hC, hW, hJ, hP, hB⟩ := It0
    have e : ∀ j, ¬ (j = 324 + c ∨ j = 564 + 4 * c) → updN (updN v (564 + 4 * c) (wsh v c i)) (324 + c) 1 j = v j := fun j hj => (updN_n (by omega)).trans (updN_n (by omega))
    refine ⟨⟨by rw [e 0 (by omega)]; exact a0, by rw [e 1 (by omega)]; exact a1, by rw [e 2 (by omega)]; exact a2, by rw [e 6 (by omega)]; exact a6, by rw [e 7 (by omega)]; exact a7, by rw [e 8 (by omega)]; exact a8, by rw [e 9 (by omega)]; exact a9⟩, fun s hs => ?_, fun s hs k hk => by rw [e (68 + 3 * s + k) (by omega)]; exact hU s hs k hk, fun d hd => ?_, fun d hd k hk => ?_, fun d hd k l hk hl hkl => ?_, fun d s hp => (by cases hp), fun k hk => ?_⟩
    · rw [e (20 + s) (by omega), e (28 + s) (by omega), e (36 + s) (by omega), e (44 + s) (by omega), e (52 + s) (by omega)]; exact hS s hs
    · have hd' := hC d hd
      rw [e (124 + d) (by omega), e (164 + d) (by omega), e (204 + d) (by omega), e (244 + d) (by omega), e (284 + d) (by omega), e (364 + d) (by omega), e (404 + d) (by omega), e (444 + d) (by omega)]
      refine ⟨hd'.1, hd'.2.1, hd'.2.2.1, hd'.2.2.2.1, hd'.2.2.2.2.1, ?_, hd'.2.2.2.2.2.2.1, hd'.2.2.2.2.2.2.2.1, hd'.2.2.2.2.2.2.2.2⟩
      by_cases ed : d = c
      · rw [ed, mq]; omega
      · rw [mqo d ed (by omega)]; exact hd'.2.2.2.2.2.1
    · rw [e 1 (by omega)] at hd
      rw [e 0 (by omega)]
      by_cases ed : d = c
      · subst ed; rw [mq] at hk
        rw [show k = 0 by omega]
        show wsh (updN (updN v (564 + 4 * d) (wsh v d i)) (324 + d) 1) d 0 < v 0
        rw [wq]; exact hw
      · rw [mqo d ed (by omega)] at hk
        have := m4 d hd
        show wsh (updN (updN v (564 + 4 * c) (wsh v c i)) (324 + c) 1) d k < v 0
        rw [wqo d k ed (by omega) (by omega)]
        exact hW d hd k hk
    · rw [e 1 (by omega)] at hd
      by_cases ed : d = c
      · subst ed; rw [mq] at hk hl; omega
      · rw [mqo d ed (by omega)] at hk hl
        have := m4 d hd
        have hkl : wsh (updN (updN v (564 + 4 * c) (wsh v c i)) (324 + c) 1) d k = wsh (updN (updN v (564 + 4 * c) (wsh v c i)) (324 + c) 1) d l := hkl
        rw [wqo d k ed (by omega) (by omega), wqo d l ed (by omega) (by omega)] at hkl
        exact hJ d hd k l hk hl hkl
    · refine lt_upd (lt_upd (hB k hk) (fun z => ?_)) (fun z => by omega)
      have : wsh v c i < v 0 := hw
      omega
  -- the other order's outcome is stable there
  have B' := da_STB hI'
  have Bq' : STB (updN (updN v (564 + 4 * c) (wsh v c i)) (324 + c) 1) (daP v') := by
    have S2 : sameS (updN (updN v (564 + 4 * c) (wsh v c i)) (324 + c) 1) v' := fun j hj => (h j hj).trans (Sq j hj).symm
    refine STB_to S2 Iq B' (fun d s' hd => ?_) (fun d i2 hd hi2 hn => ?_)
    · obtain ⟨e1, _, k, e2, e3⟩ := B'.1 d s' hd
      rw [h 1 (by omega)] at e1
      by_cases e : d = c
      · subst e; rw [hD] at hd; cases hd; exact ⟨0, by rw [mq]; omega, wq⟩
      · have := m4 d e1
        rw [(ho d e (by omega)).1] at e2
        exact ⟨k, by rw [mqo d e (by omega)]; exact e2, by rw [wqo d k e (by omega) (by omega), ← (ho d e (by omega)).2 k (by omega)]; exact e3⟩
    · rw [Sq 1 (by omega)] at hd
      by_cases e : d = c
      · subst e
        rw [mq] at hi2
        exact absurd (show daP v' d = some (wsh (updN (updN v (564 + 4 * d) (wsh v d i)) (324 + d) 1) d 0) by rw [wq]; exact hD) (hn 0 (Nat.zero_le _))
      · have := m4 d hd
        rw [mqo d e (by omega)] at hi2
        refine ⟨i2, by rw [(ho d e (by omega)).1]; exact hi2, by rw [(ho d e (by omega)).2 i2 (by omega), wqo d i2 e (by omega) (by omega)], fun j' hj' => ?_⟩
        rw [(ho d e (by omega)).2 j' (by omega), ← wqo d j' e (by omega) (by omega)]
        exact hn j' hj'
  have Bqt : STB (updN (updN v (564 + 4 * c) (wsh v c i)) (324 + c) 1) (daP (updN v (324 + c) (i + 1))) := by
    have S2 : sameS (updN (updN v (564 + 4 * c) (wsh v c i)) (324 + c) 1) (updN v (324 + c) (i + 1)) := fun j hj => (St j hj).trans (Sq j hj).symm
    refine STB_to S2 Iq Bt (fun d s' hd => ?_) (fun d i2 hd hi2 hn => ?_)
    · obtain ⟨e1, _, k, e2, e3⟩ := Bt.1 d s' hd
      rw [St 1 (by omega)] at e1
      by_cases e : d = c
      · subst e; rw [hct] at hd; cases hd
      · have := m4 d e1
        rw [mo d e] at e2
        exact ⟨k, by rw [mqo d e (by omega)]; exact e2, by rw [wqo d k e (by omega) (by omega), ← wt d k (by omega) (by omega)]; exact e3⟩
    · rw [Sq 1 (by omega)] at hd
      by_cases e : d = c
      · subst e
        rw [mq] at hi2
        refine ⟨i, by rw [mt]; omega, ?_, fun j' _ => by rw [hct]; intro z; cases z⟩
        rw [show i2 = 0 by omega, wq, wt d i (by omega) (by omega)]
      · have := m4 d hd
        rw [mqo d e (by omega)] at hi2
        refine ⟨i2, by rw [mo d e]; exact hi2, by rw [wt d i2 (by omega) (by omega), wqo d i2 e (by omega) (by omega)], fun j' hj' => ?_⟩
        rw [wt d j' (by omega) (by omega), ← wqo d j' e (by omega) (by omega)]
        exact hn j' hj'
  have Bo := da_STB Iq
  have q1v : updN (updN v (564 + 4 * c) (wsh v c i)) (324 + c) 1 1 = v 1 := Sq 1 (by omega)
  have q0v : updN (updN v (564 + 4 * c) (wsh v c i)) (324 + c) 1 0 = v 0 := Sq 0 (by omega)
  generalize hvq : updN (updN v (564 + 4 * c) (wsh v c i)) (324 + c) 1 = vq at *
  generalize hvt : daP (updN v (324 + c) (i + 1)) = pt at *
  -- as many have places
  have sub : ∀ k, k < v 1 → pt k ≠ none → daP vq k ≠ none := fun k hk hp z => by
    cases hpt : pt k with
    | none => exact hp hpt
    | some s =>
      obtain ⟨_, _, j, e1, e2⟩ := Bqt.1 k s hpt
      obtain ⟨j', _, e4⟩ := da_best Iq Bqt (c := k) (i := j) (by omega) e1 (by rw [hpt, e2])
      rw [e4] at z; cases z
  have hqc : daP vq c ≠ none := fun z => by
    obtain ⟨j', _, e4⟩ := da_best Iq Bq' (c := c) (i := 0) (by omega) (by omega) (by rw [wq]; exact hD)
    rw [e4] at z; cases z
  have le : ∀ s, s < v 0 → hldN vq (daP vq) s ≤ hldN vq pt s := fun s hs => by
    by_cases full : v (20 + s) ≤ hldN vq pt s
    · have := Bo.2.1 s (by omega)
      rw [Sq (20 + s) (by omega)] at this
      omega
    · refine cnt_sub (fun k hk hp => ?_)
      rw [q1v] at hk
      obtain ⟨_, hgk, j, e1, e2⟩ := Bo.1 k s hp
      by_cases hpt : pt k = some s
      · exact hpt
      · exfalso
        have := (Bqt.2.2 k j (by omega) hgk e1 (fun j2 hj2 z => by
          obtain ⟨j3, f1, f2⟩ := da_best Iq Bqt (c := k) (i := j2) (by omega) (by omega) z
          rw [hp, ← e2] at f2
          have := Iq.inj k (by omega) j j3 e1 (by omega) (Option.some.inj f2)
          have e5 : j2 = j := by omega
          rw [e5, e2] at z
          exact hpt z)).1
        rw [e2, Sq (20 + s) (by omega)] at this
        omega
  have n1 := sm_hld (p := daP vq) (N := v 0) (fun k s hp => by
    obtain ⟨q1, _, j, e1, e2⟩ := Bo.1 k s hp
    rw [← e2, ← q0v]; exact Iq.wis k q1 j e1) (v 1)
  have n2 := sm_hld (p := pt) (N := v 0) (fun k s hp => by
    obtain ⟨q1, _, j, e1, e2⟩ := Bqt.1 k s hp
    rw [← e2, ← q0v]; exact Iq.wis k q1 j e1) (v 1)
  have n3 : fb_sm (fun s => cnt (fun k => daP vq k = some s) (v 1)) (v 0) ≤ fb_sm (fun s => cnt (fun k => pt k = some s) (v 1)) (v 0) := fb_sm_le (fun s hs => by
    have := le s hs
    unfold hldN at this
    rw [q1v] at this
    exact this)
  have n4 : cnt (fun k => pt k ≠ none) (v 1) < cnt (fun k => daP vq k ≠ none) (v 1) := cnt_lt sub ⟨c, hc, hqc, fun z => z hct⟩
  omega
end NG
section ORA
def wV (v : Nat → Nat) (c : Nat) (f : Nat → Nat) : Nat → Nat := fun i => if 564 + 4 * c ≤ i ∧ i < 564 + 4 * c + 4 then f (i - (564 + 4 * c)) else v i
theorem wV_in {v : Nat → Nat} {c k : Nat} {f : Nat → Nat} (hk : k < 4) : wV v c f (564 + 4 * c + k) = f k := by
  unfold wV
  rw [if_pos (by omega), show 564 + 4 * c + k - (564 + 4 * c) = k by omega]
theorem wV_o {v : Nat → Nat} {c i : Nat} {f : Nat → Nat} (h : ¬ (564 + 4 * c ≤ i ∧ i < 564 + 4 * c + 4)) : wV v c f i = v i := if_neg h
theorem wV_u {v : Nat → Nat} {c k x : Nat} {f : Nat → Nat} (hk : k < 4) : updN (wV v c f) (564 + 4 * c + k) x = wV v c (updN f k x) := by
  funext i
  unfold updN wV
  by_cases e : i = 564 + 4 * c + k
  · rw [if_pos e, if_pos (by omega)]
    exact (if_pos (by omega)).symm
  · rw [if_neg e]
    by_cases e2 : 564 + 4 * c ≤ i ∧ i < 564 + 4 * c + 4
    · rw [if_pos e2, if_pos e2]
      exact (if_neg (by omega)).symm
    · rw [if_neg e2, if_neg e2]
theorem wV_id {v : Nat → Nat} {c : Nat} {f : Nat → Nat} (h : ∀ k, k < 4 → f k = wsh v c k) : wV v c f = v := by
  funext i
  by_cases e2 : 564 + 4 * c ≤ i ∧ i < 564 + 4 * c + 4
  · obtain ⟨k, hk, rfl⟩ : ∃ k, k < 4 ∧ i = 564 + 4 * c + k := ⟨i - (564 + 4 * c), by omega, by omega⟩
    rw [wV_in hk, h k hk]; rfl
  · exact wV_o e2
theorem sameQ_u {a b : Nat → Nat} {i x : Nat} (h : sameQ a b) : sameQ (updN a i x) (updN b i x) := fun j hj => by
  by_cases e : j = i
  · subst e; rw [updN_s, updN_s]
  · rw [updN_n e, updN_n e]; exact h j hj
theorem Inv_wv {w0 w : Nat → Nat} {p0 : Nat → Option Nat} {c : Nat} (hI : Inv w0 p0) (hc : c < w0 1) (hw : ∀ i, ¬ (564 + 4 * c ≤ i ∧ i < 564 + 4 * c + 4) → w i = w0 i) (q1 : ∀ k, k < w0 (324 + c) → w (564 + 4 * c + k) < w0 0) (q2 : ∀ i j, i < w0 (324 + c) → j < w0 (324 + c) → w (564 + 4 * c + i) = w (564 + 4 * c + j) → i = j) (q3 : ∀ k, k < 4 → w (564 + 4 * c + k) < 2147483648) : Inv w (fun _ => none) := by
  have h1 := hI.h1
  obtain ⟨⟨a0, a1, a2, a6, a7, a8, a9⟩, hS, hU, hC, hW, hJ, hP, hB⟩ := hI
  have e0 := hw 0 (by omega)
  have e1 := hw 1 (by omega)
  refine ⟨⟨by rw [e0]; exact a0, by rw [e1]; exact a1, by rw [hw 2 (by omega)]; exact a2, by rw [hw 6 (by omega)]; exact a6, by rw [hw 7 (by omega)]; exact a7, by rw [hw 8 (by omega)]; exact a8, by rw [hw 9 (by omega)]; exact a9⟩, fun s hs => ?_, fun s hs k hk => ?_, fun d hd => ?_, fun d hd k hk => ?_, fun d hd i j hi hj hij => ?_, fun d s hp => (by cases hp), fun i hi => ?_⟩
  · rw [hw (20 + s) (by omega), hw (28 + s) (by omega), hw (36 + s) (by omega), hw (44 + s) (by omega), hw (52 + s) (by omega)]; exact hS s hs
  · rw [hw (68 + 3 * s + k) (by omega)]; exact hU s hs k hk
  · rw [hw (124 + d) (by omega), hw (164 + d) (by omega), hw (204 + d) (by omega), hw (244 + d) (by omega), hw (284 + d) (by omega), hw (324 + d) (by omega), hw (364 + d) (by omega), hw (404 + d) (by omega), hw (444 + d) (by omega)]; exact hC d hd
  · rw [e1] at hd
    rw [hw (324 + d) (by omega)] at hk
    have h4 := (hC d (by omega)).2.2.2.2.2.1
    rw [e0]
    by_cases e : d = c
    · subst e; exact q1 k hk
    · rw [hw (564 + 4 * d + k) (by omega)]; exact hW d hd k hk
  · rw [e1] at hd
    rw [hw (324 + d) (by omega)] at hi hj
    have h4 := (hC d (by omega)).2.2.2.2.2.1
    by_cases e : d = c
    · subst e; exact q2 i j hi hj hij
    · rw [hw (564 + 4 * d + i) (by omega), hw (564 + 4 * d + j) (by omega)] at hij; exact hJ d hd i j hi hj hij
  · by_cases e2 : 564 + 4 * c ≤ i ∧ i < 564 + 4 * c + 4
    · obtain ⟨k, hk, rfl⟩ : ∃ k, k < 4 ∧ i = 564 + 4 * c + k := ⟨i - (564 + 4 * c), by omega, by omega⟩
      exact q3 k hk
    · rw [hw i e2]; exact hB i hi
theorem mk_or {mk y : Nat} (h : mk < 16) (hy : y < 4) : (nN mk ||| ((1 : Int32) <<< (nN y &&& 31))) = nN (mk ||| 2 ^ y) := by
  have key : ∀ a : Fin 16, ∀ b : Fin 4, (nN a.val ||| ((1 : Int32) <<< (nN b.val &&& 31))) = nN (a.val ||| 2 ^ b.val) := by decide
  exact key ⟨mk, h⟩ ⟨y, hy⟩
theorem mk_tb {mk y : Nat} (h : mk < 16) (hy : y < 4) : (((nN mk >>> (nN y &&& 31)) &&& (1 : Int32)) = (1 : Int32)) = (mk.testBit y = true) := by
  have key : ∀ a : Fin 16, ∀ b : Fin 4, decide (((nN a.val >>> (nN b.val &&& 31)) &&& (1 : Int32)) = (1 : Int32)) = a.val.testBit b.val := by decide
  have := key ⟨mk, h⟩ ⟨y, hy⟩
  have this : decide (((nN mk >>> (nN y &&& 31)) &&& (1 : Int32)) = (1 : Int32)) = mk.testBit y := this
  rw [← this, decide_eq_true_eq]
theorem mk_16 {mk y : Nat} (h : mk < 16) (hy : y < 4) : mk ||| 2 ^ y < 16 := by
  have key : ∀ a : Fin 16, ∀ b : Fin 4, a.val ||| 2 ^ b.val < 16 := by decide
  exact key ⟨mk, h⟩ ⟨y, hy⟩
/-- the row in the midst of the orders -/
def OST (v : Nat → Nat) (c d mk : Nat) (f w : Nat → Nat) (p : Nat → Option Nat) : Prop :=
  sameQ (wV v c f) w ∧ (∃ w0 p0, Inv w0 p0 ∧ ∀ i, ¬ (564 + 4 * c ≤ i ∧ i < 564 + 4 * c + 4) → w i = w0 i) ∧ (∀ k, k < d → ∃ y, y < v (324 + c) ∧ f k = wsh v c y) ∧ (∀ i j, i < d → j < d → f i = f j → i = j) ∧ (∀ y, y < v (324 + c) → (mk.testBit y = true ↔ ∃ k, k < d ∧ f k = wsh v c y)) ∧ (∀ k, v (324 + c) ≤ k → f k = wsh v c k) ∧ ∀ c' s, p c' = some s → c' < 40
def Lo (G b : Option Nat) : Prop := ∀ j, b = some j → j < 4 ∧ ∃ j', G = some j' ∧ j' ≤ j
def S25 (B : Mem) (m : Nat) (g : Nat → Int32) (Z : Nat → Nat → Int32) (b : Option Nat) : Mem := ovl B m (upd g 25 (oN b)) Z
theorem S25_i {B : Mem} {m : Nat} {g : Nat → Int32} {Z : Nat → Nat → Int32} {b : Option Nat} : gI 6 25 (S25 B m g Z b) m = some (oN b) := by unfold S25; rw [oi_25, pk_us]
theorem S25_p {B : Mem} {m : Nat} {g : Nat → Int32} {Z : Nat → Nat → Int32} {b : Option Nat} {y : Nat} : sV 6 25 (S25 B m g Z b) m (.int (nN y)) = some (S25 B m g Z (some y)) := by unfold S25; rw [op_25, upd_2]; rfl
theorem o92 {B : Mem} {m : Nat} {g : Nat → Int32} {Z : Nat → Nat → Int32} {v w2 : Nat → Nat} {q : Nat → Option Nat} {c r9 : Nat} {G : Option Nat} {I : Prop} (h4 : v (324 + c) ≤ 4) (hb : ∀ k, k < 4 → wsh v c k < 2147483648) (hc : c < 40) (hr : r9 < 2147483648) (hq : ∀ s, q c = some s → s < 2147483648) (g1 : ∀ j, G = some j → j < v (324 + c)) (k0 : ∀ y, y < v (324 + c) → q c = some (wsh v c y) → ∃ j', G = some j' ∧ j' ≤ y) (ki : I → ∀ j, G = some j → q c = some (wsh v c j)) (hA : ∀ k, k < 4 → Z 12 k = nN (wsh v c k)) (hZ : Z 1 = enc w2 q) (rc : Nat → Int32 → Int32 → Int32 → Mem → Option Mem) (k1 : Mem → Option Mem) : ∀ e y fu (b : Option Nat), y + e = v (324 + c) → e < fu → Lo G b → ∃ b', pl_X7_orders_92 rc k1 m (nN c) (nN (v (324 + c))) (nN r9) fu (nN y) (S25 B m g Z b) = k1 (S25 B m g Z b') ∧ Lo G b' ∧ (b = G → b' = G) ∧ (I → (∀ j, j < y → G = some j → b = G) → b' = G) := by
  intro e
  have hZ1 : up2 Z 1 (enc w2 q) = Z := by rw [← hZ]; exact up2_id
  induction e with
  | zero =>
    intro y fu b hy hf hL
    obtain ⟨f, rfl⟩ : ∃ f, fu = f + 1 := ⟨fu - 1, by omega⟩
    refine ⟨b, ?_, hL, fun h => h, fun hi h => ?_⟩
    · rw [pl_X7_orders_92, if_pos (nle_t (by omega) (by omega) (by omega))]
    · cases hG : G with
      | none =>
        cases hb2 : b with
        | none => rfl
        | some j =>
          obtain ⟨-, j', e1, -⟩ := hL j hb2
          rw [hG] at e1; cases e1
      | some j => rw [← hG]; exact h j (by have := g1 j hG; omega) hG
  | succ e ih =>
    intro y fu b hy hf hL
    obtain ⟨f, rfl⟩ : ∃ f, fu = f + 1 := ⟨fu - 1, by omega⟩
    have ek : nN y + (1 : Int32) = nN (y + 1) := nN_add y 1
    have ev : aI 0 (S25 B m g Z b) (m + 12) (nN y) = some (nN (wsh v c y)) := by
      unfold S25
      rw [od_12, rd_nN (by omega) (by omega), hA y (by omega)]
    have ep : aI 0 (S25 B m g Z b) (m + 1) (nN (484 + c)) = some (oN (q c)) := by
      unfold S25
      rw [← hZ1]
      exact er_p hc
    have e24 : gR 6 24 (S25 B m g Z b) m = some (m + 12) := or_24 _ _ _ _
    have e00 : gR 6 0 (S25 B m g Z b) m = some (m + 1) := or_0 _ _ _ _
    have n9 : ¬ nN r9 < 0 := nN_neg0 hr
    have hwb := hb y (by omega)
    have st : ∀ b2 : Option Nat, (pl_X7_orders_92 rc k1 m (nN c) (nN (v (324 + c))) (nN r9) (f + 1) (nN y) (S25 B m g Z b) = pl_X7_orders_92 rc k1 m (nN c) (nN (v (324 + c))) (nN r9) f (nN (y + 1)) (S25 B m g Z b2)) → Lo G b2 → (b = G → b2 = G) → (I → (∀ j, j < y → G = some j → b = G) → ∀ j, j < y + 1 → G = some j → b2 = G) → ∃ b', pl_X7_orders_92 rc k1 m (nN c) (nN (v (324 + c))) (nN r9) (f + 1) (nN y) (S25 B m g Z b) = k1 (S25 B m g Z b') ∧ Lo G b' ∧ (b = G → b' = G) ∧ (I → (∀ j, j < y → G = some j → b = G) → b' = G) := fun b2 h1 h2 h3 h5 => by
      obtain ⟨b', q1, q2, q3, q4⟩ := ih (y + 1) f b2 (by omega) (by omega) h2
      exact ⟨b', h1.trans q1, q2, fun h => q3 (h3 h), fun hi h => q4 hi (h5 hi h)⟩
    by_cases em : q c = some (wsh v c y)
    · obtain ⟨j', G1, G2⟩ := k0 y (by omega) em
      have set : (pl_X7_orders_92 rc k1 m (nN c) (nN (v (324 + c))) (nN r9) (f + 1) (nN y) (S25 B m g Z b) = pl_X7_orders_92 rc k1 m (nN c) (nN (v (324 + c))) (nN r9) f (nN (y + 1)) (S25 B m g Z (some y))) → (∀ i, b = some i → y < i) → ∃ b', pl_X7_orders_92 rc k1 m (nN c) (nN (v (324 + c))) (nN r9) (f + 1) (nN y) (S25 B m g Z b) = k1 (S25 B m g Z b') ∧ Lo G b' ∧ (b = G → b' = G) ∧ (I → (∀ j, j < y → G = some j → b = G) → b' = G) := fun h1 h2 => by
        refine st (some y) h1 (fun j hj => ?_) (fun h => ?_) (fun hi h j hj hG => ?_)
        · cases hj; exact ⟨by omega, j', G1, G2⟩
        · rw [G1] at h; have := h2 j' h; omega
        · rw [G1] at hG; cases hG
          by_cases ej : j' = y
          · rw [G1, ej]
          · have hb := h j' (by omega) G1
            rw [G1] at hb
            have := h2 j' hb; omega
      cases hbb : b with
      | none =>
        rw [hbb] at set st ev ep e24 e00
        refine set ?_ (fun i hi => by cases hi)
        rw [pl_X7_orders_92, if_neg (nle_f (by omega) (by omega) (by omega)), if_neg n9, e24, bS, ev, bS, e00, bS, show (484 : Int32) + nN c = nN (484 + c) from nN_add 484 c, ep, bS, if_pos (show nN (wsh v c y) = oN (q c) from by rw [em]; rfl), S25_i, bS, jn_def, if_pos (show oN none = (-1 : Int32) from rfl)]
        show Option.bind (sV 6 25 _ m (.int (nN y))) _ = _
        rw [S25_p, bS, ek]
      | some i =>
        have hi4 := (hL i hbb).1
        rw [hbb] at set st ev ep e24 e00
        by_cases ei : i ≤ y
        · refine st (some i) ?_ (by rw [← hbb]; exact hL) (fun h => h) (fun hi h j hj hG => ?_)
          · rw [pl_X7_orders_92, if_neg (nle_f (by omega) (by omega) (by omega)), if_neg n9, e24, bS, ev, bS, e00, bS, show (484 : Int32) + nN c = nN (484 + c) from nN_add 484 c, ep, bS, if_pos (show nN (wsh v c y) = oN (q c) from by rw [em]; rfl), S25_i, bS, jn_def, if_neg (show ¬ oN (some i) = (-1 : Int32) from nNm (by omega)), bS, if_pos (show oN (some i) ≤ nN y from nle_t (by omega) (by omega) ei), ek]
          · obtain ⟨-, j2, G3, G4⟩ := hL i hbb
            rw [G1] at G3; cases G3
            rw [G1] at hG; cases hG
            by_cases ej : j' < y
            · exact h j' ej G1
            · rw [G1]; congr 1; omega
        · refine set ?_ (fun i2 hi2 => by cases hi2; omega)
          rw [pl_X7_orders_92, if_neg (nle_f (by omega) (by omega) (by omega)), if_neg n9, e24, bS, ev, bS, e00, bS, show (484 : Int32) + nN c = nN (484 + c) from nN_add 484 c, ep, bS, if_pos (show nN (wsh v c y) = oN (q c) from by rw [em]; rfl), S25_i, bS, jn_def, if_neg (show ¬ oN (some i) = (-1 : Int32) from nNm (by omega)), bS, if_neg (show ¬ oN (some i) ≤ nN y from nle_f (by omega) (by omega) (by omega))]
          show Option.bind (sV 6 25 _ m (.int (nN y))) _ = _
          rw [S25_p, bS, ek]
    · refine st b ?_ hL (fun h => h) (fun hi h j hj hG => ?_)
      · have hne : ¬ nN (wsh v c y) = oN (q c) := fun h => em (by rw [← oN_eq (fun t ht => hq t ht) hwb]; exact h.symm)
        rw [pl_X7_orders_92, if_neg (nle_f (by omega) (by omega) (by omega)), if_neg n9, e24, bS, ev, bS, e00, bS, show (484 : Int32) + nN c = nN (484 + c) from nN_add 484 c, ep, bS, if_neg hne, ek]
      · by_cases ej : j < y
        · exact h j ej hG
        · have : j = y := by omega
          subst this
          exact absurd (ki hi j hG) em
end ORA
section ORB
def rOK (v : Nat → Nat) (B : Mem) (m : Nat) (g : Nat → Int32) (A : Nat → Nat → Int32) (c : Nat) (G : Option Nat) (rc : Nat → Int32 → Int32 → Int32 → Mem → Option Mem) (d : Nat) : Prop :=
  ∀ (mk : Nat) (f w : Nat → Nat) (p : Nat → Option Nat) (T : Nat → Int32) (b : Option Nat), mk < 16 → OST v c d mk f w p → Lo G b → ∃ f' w' p' T' b', rc m (nN c) (nN mk) (nN d) (S25 B m g (up2 (up2 A 8 T) 1 (enc w p)) b) = some (S25 B m g (up2 (up2 A 8 T') 1 (enc w' p')) b') ∧ OST v c d mk f' w' p' ∧ (∀ k, k < d → f' k = f k) ∧ Lo G b' ∧ (b = G → b' = G) ∧ ((∀ k, k < d → f k = wsh v c k) → b' = G)
variable {v : Nat → Nat} {p0 : Nat → Option Nat} {B : Mem} {m : Nat} {g : Nat → Int32} {A : Nat → Nat → Int32} {c : Nat} {G : Option Nat}
theorem r_leaf (hI : Inv v p0) (hc : c < v 1) (hA : ∀ k, k < 4 → A 12 k = nN (wsh v c k)) (g1 : ∀ j, G = some j → j < v (324 + c) ∧ daP v c = some (wsh v c j)) (g2 : ∀ j, j < v (324 + c) → daP v c = some (wsh v c j) → G = some j) (rc : Nat → Int32 → Int32 → Int32 → Mem → Option Mem) {d : Nat} (hd : d = v (324 + c)) : rOK v B m g A c G (pr_X7_orders rc) d := by
  intro mk f w p T b hmk hO hL
  have h0 := hI.h0
  have h1 := hI.h1
  have h4 := (hI.chi c (by omega)).2.2.2.2.2.1
  have hFU : v (324 + c) < FU := FU_pos (by omega)
  unfold pr_X7_orders
  generalize FU = F at hFU ⊢
  obtain ⟨hQ, ⟨w0, p0', hI0, hw⟩, o1, o2, o3, o4, o5⟩ := hO
  have w1 : w 1 = v 1 := (hQ 1 (by omega)).trans (wV_o (by omega))
  have w00 : w 0 = v 0 := (hQ 0 (by omega)).trans (wV_o (by omega))
  have wm : w (324 + c) = v (324 + c) := (hQ (324 + c) (by omega)).trans (wV_o (by omega))
  have wk : ∀ k, k < 4 → w (564 + 4 * c + k) = f k := fun k hk => (hQ (564 + 4 * c + k) (by omega)).trans (wV_in hk)
  have f1 : ∀ k, k < v (324 + c) → f k < v 0 := fun k hk => by
    obtain ⟨y, y1, y2⟩ := o1 k (by omega)
    rw [y2]; exact hI.wis c hc y y1
  have f3 : ∀ k, k < 4 → f k < 2147483648 := fun k hk => by
    by_cases e : k < v (324 + c)
    · have := f1 k e; omega
    · rw [o4 k (by omega)]; exact hI.hb _ (by omega)
  have Iw : Inv w (fun _ => none) := by
    have e1 := hw 1 (by omega)
    have e0 := hw 0 (by omega)
    have em := hw (324 + c) (by omega)
    refine Inv_wv hI0 (by omega) hw (fun k hk => ?_) (fun i j hi hj hij => ?_) (fun k hk => ?_)
    · rw [wk k (by omega)]; have := f1 k (by omega); omega
    · rw [wk i (by omega), wk j (by omega)] at hij; exact o2 i j (by omega) (by omega) hij
    · rw [wk k hk]; exact f3 k hk
  have Iv : Inv (wV v c f) (fun _ => none) := by
    refine Inv_wv hI hc (fun i hi => wV_o hi) (fun k hk => ?_) (fun i j hi hj hij => ?_) (fun k hk => ?_)
    · rw [wV_in (by omega)]; exact f1 k hk
    · rw [wV_in (by omega), wV_in (by omega)] at hij; exact o2 i j (by omega) (by omega) hij
    · rw [wV_in hk]; exact f3 k hk
  have Iv0 : Inv v (fun _ => none) := hI.pa (fun c s h => by cases h)
  obtain ⟨d1, d2, d3, -, -, -⟩ := da_all Iw
  have d9 : daR w 9 ≤ 160 := d1.1.2.2.2.2.2.2
  have eP : daP w = daP (wV v c f) := daP_same hQ
  obtain ⟨T', e9, -⟩ := e_alloc2 (B := B) (m := m) (g := upd g 25 (oN b)) (a := up2 A 8 T) (pl := p) Iw o5
  rw [up2_up2] at e9
  have e9 : p_X7_allocates m (S25 B m g (up2 (up2 A 8 T) 1 (enc w p)) b) = some (nN (daR w 9), S25 B m g (up2 (up2 A 8 T') 1 (enc (daR w) (daP w))) b) := e9
  have k0 : ∀ y, y < v (324 + c) → daP w c = some (wsh v c y) → ∃ j', G = some j' ∧ j' ≤ y := fun y hy hD => by
    rw [eP] at hD
    obtain ⟨j, j1, j2⟩ := no_gain2 Iv0 Iv (fun i hi => wV_o (by omega)) hc (wV_o (by omega)) (fun d hd hd1 => ⟨wV_o (by omega), fun i hi => wV_o (by omega)⟩) hy hD
    exact ⟨j, g2 j (by omega) j2, j1⟩
  have ki : (∀ k, k < d → f k = wsh v c k) → ∀ j, G = some j → daP w c = some (wsh v c j) := fun hid j hj => by
    rw [eP, wV_id (fun k hk => by
      by_cases e : k < d
      · exact hid k e
      · exact o4 k (by omega))]
    exact (g1 j hj).2
  obtain ⟨b', q1, q2, q3, q4⟩ := o92 (B := B) (m := m) (g := g) (Z := up2 (up2 A 8 T') 1 (enc (daR w) (daP w))) (w2 := daR w) (q := daP w) (r9 := daR w 9) (G := G) h4 (fun k hk => hI.hb _ (by omega)) (by omega) (by omega) (fun s hs => d1.plb c s hs) (fun j hj => (g1 j hj).1) k0 ki (fun k hk => by rw [up2_n (by decide), up2_n (by decide)]; exact hA k hk) up2_s rc (fun M22 => some M22) (v (324 + c)) 0 F b (by omega) hFU hL
  refine ⟨f, daR w, daP w, T', b', ?_, ⟨hQ.t d2, ⟨daR w, daP w, d1, fun i hi => rfl⟩, o1, o2, o3, o4, fun c' s h => by have := (d1.plc c' s h).1; have := d1.h1; omega⟩, fun k hk => rfl, q2, q3, fun hid => q4 hid (fun j hj => by omega)⟩
  have e00 : gR 6 0 (S25 B m g (up2 (up2 A 8 T) 1 (enc w p)) b) m = some (m + 1) := or_0 _ _ _ _
  have eoc : isC 6 (S25 B m g (up2 (up2 A 8 T) 1 (enc w p)) b) m = some () := oc _ _ _ _
  have em : aI 0 (S25 B m g (up2 (up2 A 8 T) 1 (enc w p)) b) (m + 1) (nN (324 + c)) = some (nN (v (324 + c))) := by
    unfold S25
    rw [er_v (by omega) (by omega), wm]
  rw [e00, bS, show (324 : Int32) + nN c = nN (324 + c) from nN_add 324 c, em, bS, if_pos (nle_t (by omega) (by omega) (by omega)), eoc, bS, e9, ob2_def, jn_def]
  exact q1
theorem o21 (hI : Inv v p0) (hc : c < v 1) (hA : ∀ k, k < 4 → A 12 k = nN (wsh v c k)) {rc : Nat → Int32 → Int32 → Int32 → Mem → Option Mem} {d mk : Nat} (hd : d < v (324 + c)) (hmk : mk < 16) (hr : rOK v B m g A c G rc (d + 1)) : ∀ e y fu (f w : Nat → Nat) (p : Nat → Option Nat) (T : Nat → Int32) (b : Option Nat), y + e = v (324 + c) → e < fu → OST v c d mk f w p → Lo G b → ∃ f' w' p' T' b', pl_X7_orders_21 rc (fun M31 => some M31) m (nN c) (nN mk) (nN d) (nN (v (324 + c))) fu (nN y) (S25 B m g (up2 (up2 A 8 T) 1 (enc w p)) b) = some (S25 B m g (up2 (up2 A 8 T') 1 (enc w' p')) b') ∧ OST v c d mk f' w' p' ∧ (∀ k, k < d → f' k = f k) ∧ Lo G b' ∧ (b = G → b' = G) ∧ ((∀ k, k < d → f k = wsh v c k) → (d < y → b = G) → b' = G) := by
  have h0 := hI.h0
  have h1 := hI.h1
  have h4 := (hI.chi c (by omega)).2.2.2.2.2.1
  have wj : ∀ i j, i < v (324 + c) → j < v (324 + c) → wsh v c i = wsh v c j → i = j := hI.inj c hc
  intro e
  induction e with
  | zero =>
    intro y fu f w p T b hy hf hO hL
    obtain ⟨fu, rfl⟩ : ∃ f, fu = f + 1 := ⟨fu - 1, by omega⟩
    refine ⟨f, w, p, T, b, ?_, hO, fun k hk => rfl, hL, fun h => h, fun _ h => h (by omega)⟩
    rw [pl_X7_orders_21, if_pos (nle_t (by omega) (by omega) (by omega))]
  | succ e ih =>
    intro y fu f w p T b hy hf hO hL
    obtain ⟨fu, rfl⟩ : ∃ f, fu = f + 1 := ⟨fu - 1, by omega⟩
    have ek : nN y + (1 : Int32) = nN (y + 1) := nN_add y 1
    have hO' := hO
    obtain ⟨hQ, ⟨w0, p0', hI0, hw⟩, o1, o2, o3, o4, o5⟩ := hO
    by_cases et : mk.testBit y = true
    · obtain ⟨f', w', p', T', b', q1, q2, q3, q4, q5, q6⟩ := ih (y + 1) fu f w p T b (by omega) (by omega) hO' hL
      refine ⟨f', w', p', T', b', ?_, q2, q3, q4, q5, fun hid h => q6 hid (fun hdy => ?_)⟩
      · rw [pl_X7_orders_21, if_neg (nle_f (by omega) (by omega) (by omega)), if_pos (by rw [mk_tb hmk (by omega)]; exact et), ek, q1]
      · by_cases ey : d < y
        · exact h ey
        · have : y = d := by omega
          subst this
          obtain ⟨k, k1, k2⟩ := (o3 y (by omega)).mp et
          rw [hid k k1] at k2
          have := wj k y (by omega) (by omega) k2
          omega
    · have hO2 : OST v c (d + 1) (mk ||| 2 ^ y) (updN f d (wsh v c y)) (updN w (564 + 4 * c + d) (wsh v c y)) p := by
        refine ⟨?_, ⟨w0, p0', hI0, fun i hi => (updN_n (by omega)).trans (hw i hi)⟩, fun k hk => ?_, fun i j hi hj hij => ?_, fun y' hy' => ?_, fun k hk => (updN_n (by omega)).trans (o4 k hk), o5⟩
        · rw [← wV_u (by omega)]; exact sameQ_u hQ
        · by_cases ek : k = d
          · subst ek; exact ⟨y, by omega, updN_s⟩
          · rw [updN_n ek]; exact o1 k (by omega)
        · by_cases ei : i = d
          · by_cases ej : j = d
            · omega
            · exfalso
              rw [ei, updN_s, updN_n ej] at hij
              exact et ((o3 y (by omega)).mpr ⟨j, by omega, hij.symm⟩)
          · by_cases ej : j = d
            · exfalso
              rw [ej, updN_s, updN_n ei] at hij
              exact et ((o3 y (by omega)).mpr ⟨i, by omega, hij⟩)
            · rw [updN_n ei, updN_n ej] at hij
              exact o2 i j (by omega) (by omega) hij
        · rw [Nat.testBit_or, Nat.testBit_two_pow, Bool.or_eq_true, decide_eq_true_eq, o3 y' hy']
          constructor
          · rintro (⟨k, k1, k2⟩ | rfl)
            · exact ⟨k, by omega, (updN_n (by omega)).trans k2⟩
            · exact ⟨d, by omega, updN_s⟩
          · rintro ⟨k, k1, k2⟩
            by_cases ek : k = d
            · rw [ek, updN_s] at k2
              exact Or.inr (wj y y' (by omega) hy' k2)
            · rw [updN_n ek] at k2
              exact Or.inl ⟨k, by omega, k2⟩
      obtain ⟨f2, w2, p2, T2, b2, s1, s2, s3, s4, s5, s6⟩ := hr (mk ||| 2 ^ y) _ _ p T b (mk_16 hmk (by omega)) hO2 hL
      have hO3 : OST v c d mk f2 w2 p2 := by
        obtain ⟨t1, t2, t3, t4, t5, t6, t7⟩ := s2
        have fk : ∀ k, k < d → f2 k = f k := fun k hk => (s3 k (by omega)).trans (updN_n (by omega))
        refine ⟨t1, t2, fun k hk => t3 k (by omega), fun i j hi hj hij => t4 i j (by omega) (by omega) hij, fun y' hy' => ?_, t6, t7⟩
        rw [o3 y' hy']
        constructor
        · rintro ⟨k, k1, k2⟩; exact ⟨k, k1, (fk k k1).trans k2⟩
        · rintro ⟨k, k1, k2⟩; exact ⟨k, k1, (fk k k1).symm.trans k2⟩
      obtain ⟨f', w', p', T', b', q1, q2, q3, q4, q5, q6⟩ := ih (y + 1) fu f2 w2 p2 T2 b2 (by omega) (by omega) hO3 s4
      have fk : ∀ k, k < d → f2 k = f k := fun k hk => (s3 k (by omega)).trans (updN_n (by omega))
      refine ⟨f', w', p', T', b', ?_, q2, fun k hk => (q3 k hk).trans (fk k hk), q4, fun h => q5 (s5 h), fun hid h => q6 (fun k hk => (fk k hk).trans (hid k hk)) (fun hdy => ?_)⟩
      · have e00 : gR 6 0 (S25 B m g (up2 (up2 A 8 T) 1 (enc w p)) b) m = some (m + 1) := or_0 _ _ _ _
        have e24 : gR 6 24 (S25 B m g (up2 (up2 A 8 T) 1 (enc w p)) b) m = some (m + 12) := or_24 _ _ _ _
        have ev : aI 0 (S25 B m g (up2 (up2 A 8 T) 1 (enc w p)) b) (m + 12) (nN y) = some (nN (wsh v c y)) := by
          unfold S25
          rw [od_12, up2_n (by decide), up2_n (by decide), rd_nN (by omega) (by omega), hA y (by omega)]
        have ew : aIs (S25 B m g (up2 (up2 A 8 T) 1 (enc w p)) b) (m + 1) (nN (564 + 4 * c + d)) (nN (wsh v c y)) = some (S25 B m g (up2 (up2 A 8 T) 1 (enc (updN w (564 + 4 * c + d) (wsh v c y)) p)) b) := by
          unfold S25
          exact ew_v (by omega) (by omega)
        have eoc : isC 6 (S25 B m g (up2 (up2 A 8 T) 1 (enc (updN w (564 + 4 * c + d) (wsh v c y)) p)) b) m = some () := oc _ _ _ _
        have ei : ((564 : Int32) + (4 : Int32) * nN c) + nN d = nN (564 + 4 * c + d) := by
          rw [show (4 : Int32) = nN 4 from rfl, nN_mul, show (564 : Int32) = nN 564 from rfl, nN_add, nN_add]
        have ed : nN d + (1 : Int32) = nN (d + 1) := nN_add d 1
        rw [pl_X7_orders_21, if_neg (nle_f (by omega) (by omega) (by omega)), if_neg (by rw [mk_tb hmk (by omega)]; exact et), e00, bS, e24, bS, ev, bS, ei, ew, bS, eoc, bS, mk_or hmk (by omega), ed, s1, bS, ek, q1]
      · by_cases ey : d < y
        · exact s5 (h ey)
        · have : y = d := by omega
          subst this
          exact s6 (fun k hk => by
            by_cases ek : k = y
            · subst ek; exact updN_s
            · exact (updN_n ek).trans (hid k (by omega)))
theorem r_step (hI : Inv v p0) (hc : c < v 1) (hA : ∀ k, k < 4 → A 12 k = nN (wsh v c k)) {rc : Nat → Int32 → Int32 → Int32 → Mem → Option Mem} {d : Nat} (hd : d < v (324 + c)) (hr : rOK v B m g A c G rc (d + 1)) : rOK v B m g A c G (pr_X7_orders rc) d := by
  intro mk f w p T b hmk hO hL
  have h1 := hI.h1
  have h4 := (hI.chi c (by omega)).2.2.2.2.2.1
  have hFU : v (324 + c) < FU := FU_pos (by omega)
  unfold pr_X7_orders
  generalize FU = F at hFU ⊢
  obtain ⟨f', w', p', T', b', q1, q2, q3, q4, q5, q6⟩ := o21 hI hc hA hd hmk hr (v (324 + c)) 0 F f w p T b (by omega) hFU hO hL
  refine ⟨f', w', p', T', b', ?_, q2, q3, q4, q5, fun hid => q6 hid (fun h => by omega)⟩
  have wm : w (324 + c) = v (324 + c) := (hO.1 (324 + c) (by omega)).trans (wV_o (by omega))
  have e00 : gR 6 0 (S25 B m g (up2 (up2 A 8 T) 1 (enc w p)) b) m = some (m + 1) := or_0 _ _ _ _
  have em : aI 0 (S25 B m g (up2 (up2 A 8 T) 1 (enc w p)) b) (m + 1) (nN (324 + c)) = some (nN (v (324 + c))) := by
    unfold S25
    rw [er_v (by omega) (by omega), wm]
  rw [e00, bS, show (324 : Int32) + nN c = nN (324 + c) from nN_add 324 c, em, bS, if_neg (nle_f (by omega) (by omega) (by omega))]
  exact q1
theorem r_all (hI : Inv v p0) (hc : c < v 1) (hA : ∀ k, k < 4 → A 12 k = nN (wsh v c k)) (g1 : ∀ j, G = some j → j < v (324 + c) ∧ daP v c = some (wsh v c j)) (g2 : ∀ j, j < v (324 + c) → daP v c = some (wsh v c j) → G = some j) : rOK v B m g A c G po_5 0 := by
  have h1 := hI.h1
  have h4 := (hI.chi c (by omega)).2.2.2.2.2.1
  have l1 : 4 ≤ v (324 + c) → rOK v B m g A c G po_1 4 := fun h => r_leaf hI hc hA g1 g2 po_0 (by omega)
  have l2 : 3 ≤ v (324 + c) → rOK v B m g A c G po_2 3 := fun h => by
    by_cases e : 3 = v (324 + c)
    · exact r_leaf hI hc hA g1 g2 po_1 e
    · exact r_step hI hc hA (by omega) (l1 (by omega))
  have l3 : 2 ≤ v (324 + c) → rOK v B m g A c G po_3 2 := fun h => by
    by_cases e : 2 = v (324 + c)
    · exact r_leaf hI hc hA g1 g2 po_2 e
    · exact r_step hI hc hA (by omega) (l2 (by omega))
  have l4 : 1 ≤ v (324 + c) → rOK v B m g A c G po_4 1 := fun h => by
    by_cases e : 1 = v (324 + c)
    · exact r_leaf hI hc hA g1 g2 po_3 e
    · exact r_step hI hc hA (by omega) (l3 (by omega))
  by_cases e : 0 = v (324 + c)
  · exact r_leaf hI hc hA g1 g2 po_4 e
  · exact r_step hI hc hA (by omega) (l4 (by omega))
end ORB
section ORC
variable {z : Nat} {M : Mem} {v : Nat → Nat} {pl : Nat → Option Nat} {nm : Nat → Nat} {H : Nat → rowT} {n sv : Nat} {S : rowT} {inp : Nat → Nat} {len ec : Nat} {eo : Int32} {out : Nat → Nat} {ol : Nat}
theorem RFO.g25 {g : Nat → Int32} {a : Nat → Nat → Int32} (h : RFO g a nm H n sv S inp len ec eo out ol) {c : Int32} : RFO (upd g 25 c) a nm H n sv S inp len ec eo out ol := by
  obtain ⟨⟨a1, a2, a3, a4, a5, a6⟩, hh⟩ := h
  exact ⟨⟨by rw [pk_un (by decide)]; exact a1, by rw [pk_un (by decide)]; exact a2, by rw [pk_un (by decide)]; exact a3, by rw [pk_un (by decide)]; exact a4, by rw [pk_un (by decide)]; exact a5, by rw [pk_un (by decide)]; exact a6⟩, hh⟩
theorem e_tw {B : Mem} {m : Nat} {g : Nat → Int32} {A : Nat → Nat → Int32} {c : Nat} (hc : c < 40) (k1 : Mem → Option (Int32 × Mem)) : ∀ d k fu (G : Nat → Int32), k + d = 4 → d < fu → (∀ i, i < k → G i = nN (wsh v c i)) → ∃ G', pl_X7_bestByOrder_16 k1 m (nN c) fu (nN k) (ovl B m g (up2 (up2 A 12 G) 1 (enc v pl))) = k1 (ovl B m g (up2 (up2 A 12 G') 1 (enc v pl))) ∧ ∀ i, i < 4 → G' i = nN (wsh v c i) := by
  intro d
  induction d with
  | zero =>
    intro k fu G hk hf hG
    obtain ⟨f, rfl⟩ : ∃ f, fu = f + 1 := ⟨fu - 1, by omega⟩
    refine ⟨G, ?_, fun i hi => hG i (by omega)⟩
    rw [pl_X7_bestByOrder_16, if_pos (show (4 : Int32) ≤ nN k from nle_t (a := 4) (by omega) (by omega) (by omega))]
  | succ d ih =>
    intro k fu G hk hf hG
    obtain ⟨f, rfl⟩ : ∃ f, fu = f + 1 := ⟨fu - 1, by omega⟩
    have ew : ∀ y, aIs (ovl B m g (up2 (up2 A 12 G) 1 (enc v pl))) (m + 12) (nN k) y = some (ovl B m g (up2 (up2 A 12 (upd G k y)) 1 (enc v pl))) := fun y => by
      rw [ow_12, up2_n (by decide), up2_s, wr_nN (by omega) (by omega), Option.map_some, up2_sw (i := 1) (j := 12) (by decide), up2_up2]
    have ek : nN k + (1 : Int32) = nN (k + 1) := nN_add k 1
    have ei : ((564 : Int32) + (4 : Int32) * nN c) + nN k = nN (564 + 4 * c + k) := by
      rw [show (4 : Int32) = nN 4 from rfl, nN_mul, show (564 : Int32) = nN 564 from rfl, nN_add, nN_add]
    obtain ⟨G', q1, q2⟩ := ih (k + 1) f (upd G k (nN (wsh v c k))) (by omega) (by omega) (fun i hi => by
      unfold upd
      by_cases e : i = k
      · rw [if_pos e, e]
      · rw [if_neg e]; exact hG i (by omega))
    refine ⟨G', ?_, q2⟩
    rw [pl_X7_bestByOrder_16, if_neg (show ¬ (4 : Int32) ≤ nN k from nle_f (a := 4) (by omega) (by omega) (by omega)), or_24, bS, or_0, bS, ei, er_v (by omega) (by omega), bS, ew, bS, ek]
    exact q1
theorem got_g (hI : Inv v pl) {c : Nat} (hc : c < v 1) : (∀ j, gotO v (daP v) c = some j → j < v (324 + c) ∧ daP v c = some (wsh v c j)) ∧ ∀ j, j < v (324 + c) → daP v c = some (wsh v c j) → gotO v (daP v) c = some j := by
  constructor
  · intro j hj
    unfold gotO at hj
    cases hp : daP v c with
    | none => rw [hp] at hj; cases hj
    | some s =>
      rw [hp] at hj
      have h1 : wisO v c s = some j := hj
      obtain ⟨-, q2, q3, -⟩ := fnd_some h1
      refine ⟨by omega, ?_⟩
      show some s = some (wsh v c j)
      rw [show s = wsh v c j from q3.symm]
  · intro j hj hp
    unfold gotO
    rw [hp]
    show wisO v c (wsh v c j) = some j
    cases hw : wisO v c (wsh v c j) with
    | none => exact absurd rfl (fnd_none hw j (Nat.zero_le _) (by omega))
    | some i =>
      obtain ⟨-, q2, q3, -⟩ := fnd_some hw
      rw [hI.inj c hc i j (by omega) hj q3]
theorem e_best {B : Mem} {m : Nat} {g : Nat → Int32} {a : Nat → Nat → Int32} (hI : Inv v pl) (hZ : ∀ i, 764 ≤ i → v i = 0) {c : Nat} (hc : c < v 1) : ∃ G T, p_X7_bestByOrder m (nN c) (ovl B m g (up2 a 1 (enc v pl))) = some (oN (gotO v (daP v) c), ovl B m (upd (upd g 9 (nN 0)) 25 (oN (gotO v (daP v) c))) (up2 (up2 (up2 (up2 a 3 (cpF (enc v pl) (a 3) 0 0 764)) 12 G) 8 T) 1 (enc v pl))) := by
  have hb := hI.hb; have h0 := hI.h0; have h1 := hI.h1; have h2 := hI.h2; have h7 := hI.h7; have h8 := hI.h8
  obtain ⟨G, q1, q2⟩ := e_tw (v := v) (pl := pl) (B := B) (m := m) (g := upd g 9 (nN 0)) (A := up2 a 3 (cpF (enc v pl) (a 3) 0 0 764)) (c := c) (by omega) (fun M12 => Option.bind (sV 6 25 M12 m (.int (-1 : Int32))) fun M13 => Option.bind (isC 6 M13 m) fun _ => Option.bind (p_X7_orders m (nN c) (0 : Int32) (0 : Int32) M13) fun M15 => Option.bind (isC 6 M15 m) fun _ => Option.bind (p_X7_ends m M15) fun M17 => Option.bind (gI 6 25 M17 m) fun v18 => some (v18, M17)) 4 0 FU (up2 a 3 (cpF (enc v pl) (a 3) 0 0 764) 12) (by omega) (FU_pos (by omega)) (fun i hi => by omega)
  rw [up2_id] at q1
  obtain ⟨g1, g2⟩ := got_g hI hc
  have hr : rOK v B m (upd g 9 (nN 0)) (up2 (up2 a 3 (cpF (enc v pl) (a 3) 0 0 764)) 12 G) c (gotO v (daP v) c) po_5 0 := r_all hI hc (fun k hk => by rw [up2_s]; exact q2 k hk) g1 g2
  have hO : OST v c 0 0 (fun k => wsh v c k) v pl := ⟨by rw [wV_id (fun k hk => rfl)]; exact sameQ.r v, ⟨v, pl, hI, fun i hi => rfl⟩, fun k hk => by omega, fun i j hi hj hij => by omega, fun y hy => ⟨fun h => (by rw [Nat.zero_testBit] at h; cases h), fun ⟨k, hk, _⟩ => (by omega)⟩, fun k hk => rfl, fun c' s h => by have := (hI.plc c' s h).1; omega⟩
  obtain ⟨f', w', p', T', b', e5, hO', -, -, -, hb⟩ := hr 0 _ _ _ (up2 (up2 a 3 (cpF (enc v pl) (a 3) 0 0 764)) 12 G 8) none (by omega) hO (fun j hj => by cases hj)
  rw [up2_id, hb (fun k hk => by omega)] at e5
  have ee := e_ends (B := B) (m := m) (g := upd (upd g 9 (nN 0)) 25 (oN (gotO v (daP v) c))) (a := up2 (up2 (up2 a 3 (cpF (enc v pl) (a 3) 0 0 764)) 12 G) 8 T') (v := v) (pl := pl) (v' := w') (pl' := p') hZ (fun i hi => by
    rw [hO'.1 i (by omega), wV_o (by omega)]; exact hZ i hi) (fun i hi => by rw [up2_n (by decide), up2_n (by decide), up2_s]; exact cpF_3 hi)
  refine ⟨G, T', ?_⟩
  unfold p_X7_bestByOrder
  rw [oc, bS, e_nc hI hc, ob2_def, if_pos (by rfl), oc, bS, e_begins, bS]
  refine Eq.trans q1 ?_
  show Option.bind (sV 6 25 _ m (.int (-1 : Int32))) _ = _
  rw [op_25, bS, oc, bS]
  have e5 : p_X7_orders m (nN c) (0 : Int32) (0 : Int32) (ovl B m (upd (upd g 9 (nN 0)) 25 (-1 : Int32)) (up2 (up2 (up2 a 3 (cpF (enc v pl) (a 3) 0 0 764)) 12 G) 1 (enc v pl))) = some (ovl B m (upd (upd g 9 (nN 0)) 25 (oN (gotO v (daP v) c))) (up2 (up2 (up2 (up2 a 3 (cpF (enc v pl) (a 3) 0 0 764)) 12 G) 8 T') 1 (enc w' p'))) := e5
  rw [e5, bS, oc, bS, ee, bS, oi_25, pk_us, bS]
theorem ch_best (hP : PUR v pl nm H n sv S inp len out ol) (hC : CL0 z (rst M z) v pl nm H n sv S inp len ec eo out ol) {c : Nat} (hc : c < v 1) : ∃ val M1, p_X6_bestByOrder z (nN c) M = some (.inl (val, M1)) ∧ CGv z M v pl nm H n sv S inp len ec eo out ol val M1 (fun M => p_X7_bestByOrder (z + 180) (nN c) M) := by
  have hI : Inv v pl := hP.1.1
  have hZ : ∀ i, 764 ≤ i → v i = 0 := hP.1.2.1
  have hb := hI.hb; have h0 := hI.h0; have h1 := hI.h1; have h2 := hI.h2; have h7 := hI.h7; have h8 := hI.h8
  have hX := (cl_now hC).1
  obtain ⟨nc, -, -, -⟩ := in_cc hI hC
  obtain ⟨d1, d2, d3, dJ, -, -⟩ := da_all hI
  have dv1 : daR v 1 = v 1 := d2 1 (by omega)
  obtain ⟨rn, bn, tn, tbn, g, h, ar, u, ta, M2, g0, h0', ar0, e3, r3, r4, i2, hG, hR, hT, hQ, R0, ⟨T, hTq⟩, hA⟩ := cl_tri hI hC
  rw [hTq] at e3
  obtain ⟨g1, h1', ar1, T1, q1, R1, -⟩ := c_run M2 hG hR hT hI hQ (T := T)
  obtain ⟨b3, b4, b1, b5, bR, bC, bO⟩ := hA g1 h1' ar1 T1
  have hT2 : TG u ta (daR v) (cdS nm) := hT.same d2.T h0 (fun s hs => (hI.sch s hs).2.2.2.1)
  have x2 : p_X2_gotWish (z + 49) (nN c) (ofc (ovq M2 (z + 24) T1) (z + 49) (z + 50) tn tbn g1 h1' ar1 u ta) = some (oN (gotO v (daP v) c)) := by
    have e := c_gotWish (ovq M2 (z + 24) T1) hG R1 hT2 d1 (c := c) (by show c < daR v 1; omega)
    refine e.trans ?_
    show some (oN (gotO (daR v) (daP v) c)) = _
    rw [q_got d2 hI (by omega)]
  refine ⟨oN (gotO v (daP v) c), _, ?_, cgv_t hP hC bC bO (fun B g a hF => ?_)⟩
  · unfold p_X6_bestByOrder
    rw [hX, bS, nc c hc, obx_l, r4, bS, r3, bS, i2, bS, e3, bS, (hA g h ar T).2.2.1, bS, (hA g h ar T).2.1, bS, q_C hQ, bS, q1, bS, b4, bS, fv_isC, bS, x2, bS]
  · obtain ⟨G, T, e7⟩ := e_best (B := B) (m := z + 180) (g := g) (a := a) hI hZ hc
    refine ⟨_, _, e7, (((hF.g9.g25.a_ (by omega)).a_ (by omega)).a_ (by omega)), ?_⟩
    rw [pk_un (by decide), pk_us]
end ORC
section KOR
variable {L : Nat} {xs : Nat → Int32} {i0 : Int32} {x : Nat → Int32} {z : Nat} {M : Mem}
theorem k_52 (hO : OFF z M) (hx : xIs L xs i0 x) : ∃ M', pk_52 L xs z (z + 180) (z + 194) (z + 195) i0 M = some M' ∧ OFF z M' := by
  obtain ⟨-, hx1, hx2, hx3, hx4, hx5⟩ := hx
  obtain ⟨v, pl, nm, H, n, sv, S, inp, len, ec, eo, out, ol, hP, hC, hX, hX6, hV, hE2⟩ := off_w2 hO
  have hI : Inv v pl := hP.1.1
  have h1 := hI.h1
  obtain ⟨-, nso, -, -⟩ := in_cc hI hC
  have outc : (x 1 < 0 ∨ nN (v 1) ≤ x 1) → ∃ M', pk_52 L xs z (z + 180) (z + 194) (z + 195) i0 M = some M' ∧ OFF z M' := fun ho => by
    have e6 : p_X6_bestByOrder z (x 1) M = some (.inr "java/lang/IndexOutOfBoundsException") := by
      unfold p_X6_bestByOrder; rw [hX, bS, nso _ ho, obx_r]
    obtain ⟨M2, o2, o3, o4, o5⟩ := hE2 1 0 (fun M => p_X7_bestByOrder (z + 180) (x 1) M) (fun B g a hF => by
      show p_X7_bestByOrder _ _ _ = _
      unfold p_X7_bestByOrder
      rw [oc, bS, e_nc_o hI ho, ob2_def, if_neg (by decide)])
    refine ⟨M2, ?_, o3⟩
    have el : p_L_bestByOrder z (x 1) (z + 194) M = some (nN 1, M) := by
      unfold p_L_bestByOrder
      rw [hX, bS, e6, ctc2_r, if_pos rfl]
      rfl
    unfold pk_52
    simp only [hx1, bS, el, ob2_def, hX6, o2, o4, o5, eq_self, if_true]
    rw [if_neg (by decide)]
  rcases ixN (x 1) (n := v 1) (by omega) with ho | ho | ⟨c, hc, hxc⟩
  · exact outc (Or.inl ho)
  · exact outc (Or.inr ho)
  clear outc
  obtain ⟨val, M1, e6, hv⟩ := ch_best hP hC hc
  rw [← hxc] at e6 hv
  obtain ⟨⟨f0, hod⟩, hq⟩ := hV _ M1 _ hv
  obtain ⟨o1, M2, o2, o3, o4, o5, o6⟩ := hq (vp_updL f0 0 (Int32.toInt64 val))
  refine ⟨M2, ?_, o3⟩
  have el : p_L_bestByOrder z (x 1) (z + 194) M = some (0, upM M1 (z + 194) (.inl (2, 1, .inr (.inl (vp_updL f0 0 (Int32.toInt64 val)))))) := by
    unfold p_L_bestByOrder
    rw [hX, bS, e6, ctc2_l, aLs_od hod, bS]
  unfold pk_52
  have eL := aL_od o6
  simp only [hx1, bS, el, ob2_def, o1, o2, o4, o5, eq_self, if_true, eL, lgc_self]

end KOR
