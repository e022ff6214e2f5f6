/-! appendInput -/
/-- one byte of a word -/
def wby (w : Int32) (k : Nat) : Nat := ((w >>> (((24 : Int32) - (8 : Int32) * nN k) &&& 31)) &&& 255).toInt.toNat
theorem and255 (w : Int32) : 0 ≤ (w &&& 255).toInt ∧ (w &&& 255).toInt < 256 := by
  have e : (w &&& 255).toInt = ((w.toBitVec &&& 255#32).toInt) := rfl
  have h : (w.toBitVec &&& 255#32).toNat < 256 := by
    rw [BitVec.toNat_and]
    exact Nat.lt_of_le_of_lt Nat.and_le_right (by decide)
  rw [e, BitVec.toInt_eq_toNat_of_lt (by omega)]
  omega
theorem and255_n (w : Int32) : w &&& 255 = nN (w &&& 255).toInt.toNat := by
  have := and255 w
  apply Int32.toInt_inj.mp
  rw [nN_toInt (by omega)]
  omega
theorem wby_lt {w : Int32} {k : Nat} : wby w k < 256 := by
  have := and255 (w >>> (((24 : Int32) - (8 : Int32) * nN k) &&& 31))
  unfold wby; omega
theorem sb_of {y : Int32} : y.toInt8.toInt32 = sbI (y &&& 255).toInt.toNat := by
  unfold sbI
  rw [← and255_n, fa_byte_low]
/-- the reader's two cells, all else as in M -/
def RDS (z : Nat) (M N : Mem) (R : List Value) (l : Nat) (tx : Nat → Int32) : Prop := N (z + 1) = some (.inr (3, .ref (z + 2) :: .int (nN l) :: R)) ∧ N (z + 2) = some (.inl (1, 900, .inl tx)) ∧ ∀ x, x ≠ z + 1 → x ≠ z + 2 → N x = M x
theorem apb {z : Nat} {M N : Mem} {R : List Value} {l : Nat} {tx : Nat → Int32} (h : RDS z M N R l tx) (hl : l < 900) (k1 : Mem → Option Mem) (w y : Int32) (F : Nat) (hy : ¬ y < 0) : ∃ N', pl_X3_append_3 k1 (z + 1) w (F + 1) y N = pl_X3_append_3 k1 (z + 1) w F (y + (-8)) N' ∧ RDS z M N' R (l + 1) (upd tx l (w >>> (y &&& 31)).toInt8.toInt32) := by
  obtain ⟨h1, h2, h3⟩ := h
  have g1 : gI 3 1 N (z + 1) = some (nN l) := by unfold gI gV; rw [h1]; rfl
  have g0 : gR 3 0 N (z + 1) = some (z + 2) := by unfold gR gV; rw [h1]; rfl
  have w1 : aBs N (z + 2) (nN l) (Int8.toInt32 (Int32.toInt8 (w >>> (y &&& 31)))) = some (upM N (z + 2) (.inl (1, 900, .inl (upd tx l (w >>> (y &&& 31)).toInt8.toInt32)))) := by
    unfold aBs; rw [h2]
    have n1 := nN_neg0 (n := l) (by omega)
    have n2 := nN_clamp (n := l) (by omega)
    simp only [n2]
    rw [if_pos ⟨trivial, fun y => by rcases y with y | y; exact n1 y; omega⟩]
    have e : vp_nar .byte (Int8.toInt32 (Int32.toInt8 (w >>> (y &&& 31)))) = (w >>> (y &&& 31)).toInt8.toInt32 := fb_byte_twice _
    rw [e]
  have h1' : upM N (z + 2) (.inl (1, 900, .inl (upd tx l (w >>> (y &&& 31)).toInt8.toInt32))) (z + 1) = some (.inr (3, .ref (z + 2) :: .int (nN l) :: R)) := (upM_o (by omega)).trans h1
  have g2 : gI 3 1 (upM N (z + 2) (.inl (1, 900, .inl (upd tx l (w >>> (y &&& 31)).toInt8.toInt32)))) (z + 1) = some (nN l) := by unfold gI gV; rw [h1']; rfl
  have w2 : sV 3 1 (upM N (z + 2) (.inl (1, 900, .inl (upd tx l (w >>> (y &&& 31)).toInt8.toInt32)))) (z + 1) (.int (nN (l + 1))) = some (upM (upM N (z + 2) (.inl (1, 900, .inl (upd tx l (w >>> (y &&& 31)).toInt8.toInt32)))) (z + 1) (.inr (3, .ref (z + 2) :: .int (nN (l + 1)) :: R))) := by
    unfold sV; rw [h1']; exact if_pos ⟨rfl, by show 1 < R.length + 1 + 1; omega⟩
  refine ⟨upM (upM N (z + 2) (.inl (1, 900, .inl (upd tx l (w >>> (y &&& 31)).toInt8.toInt32)))) (z + 1) (.inr (3, .ref (z + 2) :: .int (nN (l + 1)) :: R)), ?_, upM_at, (upM_o (by omega)).trans upM_at, fun x a1 a2 => ((upM_o a1).trans (upM_o a2)).trans (h3 x a1 a2)⟩
  have ek : nN l + (1 : Int32) = nN (l + 1) := nN_add l 1
  rw [pl_X3_append_3, if_neg hy, g1, bS, if_neg (show ¬ (900 : Int32) ≤ nN l from nle_f (a := 900) (by omega) (by omega) (by omega)), g0, bS, bS, w1, bS, g2, bS, ek, w2, bS]
theorem sh_k : (24 : Int32) = (24 : Int32) - (8 : Int32) * nN 0 ∧ (24 : Int32) + (-8) = (24 : Int32) - (8 : Int32) * nN 1 ∧ (24 : Int32) + (-8) + (-8) = (24 : Int32) - (8 : Int32) * nN 2 ∧ (24 : Int32) + (-8) + (-8) + (-8) = (24 : Int32) - (8 : Int32) * nN 3 := by decide
def app4 (tx : Nat → Int32) (l : Nat) (f : Nat → Int32) : Nat → Int32 := upd (upd (upd (upd tx l (f 0)) (l + 1) (f 1)) (l + 1 + 1) (f 2)) (l + 1 + 1 + 1) (f 3)
theorem apw {z : Nat} {M N : Mem} {R : List Value} {l : Nat} {tx : Nat → Int32} (h : RDS z M N R l tx) (hl : l + 4 ≤ 900) (w : Int32) : ∃ N', p_X3_append (z + 1) w N = some N' ∧ RDS z M N' R (l + 4) (app4 tx l (fun k => sbI (wby w k))) := by
  unfold p_X3_append
  simp only [jn_def]
  obtain ⟨F, hF⟩ : ∃ F, FU = F + 5 := ⟨FU - 5, by have := FU_pos (n := 5) (by omega); omega⟩
  rw [hF]
  obtain ⟨N1, e1, r1⟩ := apb h (by omega) (fun M11 => some M11) w 24 (F + 4) (by decide)
  obtain ⟨N2, e2, r2⟩ := apb r1 (by omega) (fun M11 => some M11) w (24 + (-8)) (F + 3) (by decide)
  obtain ⟨N3, e3, r3⟩ := apb r2 (by omega) (fun M11 => some M11) w (24 + (-8) + (-8)) (F + 2) (by decide)
  obtain ⟨N4, e4, r4⟩ := apb r3 (by omega) (fun M11 => some M11) w (24 + (-8) + (-8) + (-8)) (F + 1) (by decide)
  refine ⟨N4, ?_, ?_⟩
  · refine e1.trans (e2.trans (e3.trans (e4.trans ?_)))
    rw [pl_X3_append_3, if_pos (by decide)]
  · have : app4 tx l (fun k => sbI (wby w k)) = upd (upd (upd (upd tx l (w >>> ((24 : Int32) &&& 31)).toInt8.toInt32) (l + 1) (w >>> (((24 : Int32) + (-8)) &&& 31)).toInt8.toInt32) (l + 1 + 1) (w >>> (((24 : Int32) + (-8) + (-8)) &&& 31)).toInt8.toInt32) (l + 1 + 1 + 1) (w >>> (((24 : Int32) + (-8) + (-8) + (-8)) &&& 31)).toInt8.toInt32 := by
      unfold app4 wby
      rw [sb_of, sb_of, sb_of, sb_of]
      rfl
    rw [this]
    exact r4
section R7
variable {B : Mem} {m : Nat} {g : Nat → Int32} {a : Nat → Nat → Int32}
theorem apb7 {l : Nat} (hg : g 12 = nN l) (hl : l < 900) (k1 : Mem → Option Mem) (w y : Int32) (F : Nat) (hy : ¬ y < 0) : pl_X7_appendWord_3 k1 m w (F + 1) y (ovl B m g a) = pl_X7_appendWord_3 k1 m w F (y + (-8)) (ovl B m (upd g 12 (nN (l + 1))) (up2 a 9 (upd (a 9) l ((w >>> (y &&& 31)) &&& 255)))) := by
  have ek : nN l + (1 : Int32) = nN (l + 1) := nN_add l 1
  have ew : aIs (ovl B m g a) (m + 9) (nN l) ((w >>> (y &&& 31)) &&& 255) = some (ovl B m g (up2 a 9 (upd (a 9) l ((w >>> (y &&& 31)) &&& 255)))) := by
    rw [o_wr B m g a (j := 9) (by decide) (by decide), wr_nN (by show l < 900; omega) (by decide), Option.map_some]
  have e11 : gR 6 11 (ovl B m g a) m = some (m + 9) := by unfold gR gV; rw [ovl_m]; rfl
  rw [pl_X7_appendWord_3, if_neg hy, e11, bS, oi_12, bS, hg, ew, bS, oi_12, bS, hg, ek, op_12, bS]
theorem apw7 {l : Nat} (hg : g 12 = nN l) (hl : l + 4 ≤ 900) (w : Int32) : p_X7_appendWord m w (ovl B m g a) = some (ovl B m (upd g 12 (nN (l + 4))) (up2 a 9 (app4 (a 9) l (fun k => nN (wby w k))))) := by
  unfold p_X7_appendWord
  obtain ⟨F, hF⟩ : ∃ F, FU = F + 5 := ⟨FU - 5, by have := FU_pos (n := 5) (by omega); omega⟩
  rw [hF]
  rw [apb7 hg (by omega) _ w 24 (F + 4) (by decide)]
  rw [apb7 pk_us (by omega) _ w (24 + (-8)) (F + 3) (by decide)]
  rw [apb7 pk_us (by omega) _ w (24 + (-8) + (-8)) (F + 2) (by decide)]
  rw [apb7 pk_us (by omega) _ w (24 + (-8) + (-8) + (-8)) (F + 1) (by decide)]
  rw [pl_X7_appendWord_3, if_pos (by decide), upd_2, upd_2, upd_2, up2_s, up2_s, up2_s, up2_up2, up2_up2, up2_up2]
  have : app4 (a 9) l (fun k => nN (wby w k)) = upd (upd (upd (upd (a 9) l ((w >>> ((24 : Int32) &&& 31)) &&& 255)) (l + 1) ((w >>> (((24 : Int32) + (-8)) &&& 31)) &&& 255)) (l + 1 + 1) ((w >>> (((24 : Int32) + (-8) + (-8)) &&& 31)) &&& 255)) (l + 1 + 1 + 1) ((w >>> (((24 : Int32) + (-8) + (-8) + (-8)) &&& 31)) &&& 255) := by
    unfold app4 wby
    rw [and255_n (w >>> ((24 : Int32) &&& 31)), and255_n (w >>> (((24 : Int32) + (-8)) &&& 31)), and255_n (w >>> (((24 : Int32) + (-8) + (-8)) &&& 31)), and255_n (w >>> (((24 : Int32) + (-8) + (-8) + (-8)) &&& 31))]
    rfl
  rw [this]
end R7
def apN (p : Nat → Nat) (l : Nat) (f : Nat → Nat) : Nat → Nat := fun i => if l ≤ i ∧ i < l + 4 then f (i - l) else p i
theorem app4_i {tx : Nat → Int32} {l i : Nat} {f : Nat → Int32} : app4 tx l f i = if l ≤ i ∧ i < l + 4 then f (i - l) else tx i := by
  unfold app4 upd
  by_cases c3 : i = l + 1 + 1 + 1
  · rw [if_pos c3, if_pos (by omega), show i - l = 3 by omega]
  · rw [if_neg c3]
    by_cases c2 : i = l + 1 + 1
    · rw [if_pos c2, if_pos (by omega), show i - l = 2 by omega]
    · rw [if_neg c2]
      by_cases c1 : i = l + 1
      · rw [if_pos c1, if_pos (by omega), show i - l = 1 by omega]
      · rw [if_neg c1]
        by_cases c0 : i = l
        · rw [if_pos c0, if_pos (by omega), show i - l = 0 by omega]
        · rw [if_neg c0, if_neg (by omega)]
theorem app4_r {R : Int32 → Nat → Prop} {tx : Nat → Int32} {p : Nat → Nat} {l : Nat} {f : Nat → Int32} {e : Nat → Nat} (h : ∀ i, i < l → R (tx i) (p i)) (hf : ∀ k, R (f k) (e k)) : ∀ i, i < l + 4 → R (app4 tx l f i) (apN p l e i) := fun i hi => by
  rw [app4_i]
  unfold apN
  by_cases c : l ≤ i ∧ i < l + 4
  · rw [if_pos c, if_pos c]; exact hf _
  · rw [if_neg c, if_neg c]; exact h i (by omega)
theorem apN_b {p : Nat → Nat} {l : Nat} {e : Nat → Nat} (h : ∀ i, i < l → p i < 256) (hf : ∀ k, e k < 256) : ∀ i, i < l + 4 → apN p l e i < 256 := fun i hi => by
  unfold apN
  by_cases c : l ≤ i ∧ i < l + 4
  · rw [if_pos c]; exact hf _
  · rw [if_neg c]; exact h i (by omega)
section AI
variable {z : Nat} {M : Mem} {v : Nat → Nat} {pl : Nat → Option Nat} {nm : Nat → Nat} {H : Nat → rowT} {n sv : Nat} {S : rowT} {inp : Nat → Nat} {len ec : Nat} {eo : Int32} {out : Nat → Nat} {ol : Nat}
theorem ch_append (hP : PUR v pl nm H n sv S inp len out ol) (hC : CL0 z (rst M z) v pl nm H n sv S inp len ec eo out ol) (x1 x2 x3 x4 x5 : Int32) : ∃ val M1, p_X6_appendInput z x1 x2 x3 x4 x5 M = some (val, M1) ∧ CGw z M v pl nm H n sv S inp len ec eo out ol val M1 (fun M => p_X7_appendInput (z + 180) x1 x2 x3 x4 x5 M) := by
  obtain ⟨rn, hn, rr, c1, ⟨q, w, tx, c2, c3, c4⟩, c5, put⟩ := cl_rw hC
  have c1' := c1
  have c2' := c2
  have c3' := c3
  rw [rst_in (by omega)] at c1' c2' c3'
  have hl : len ≤ 900 := hP.2.2.2.2.2.1
  have r0 : ∀ N : Mem, N z = M z → gR 5 0 N z = some (z + 1) := fun N e => by unfold gR gV; rw [e, c1']; rfl
  have hD : RDS z M M [.int (nN ec), .int eo, .ref rr, .int (q 5), .int (q 6), .int (q 7), .int (q 8), .int (q 9), .int (q 10), w] len tx := ⟨c2', c3', fun _ _ _ => rfl⟩
  generalize hRR : ([.int (nN ec), .int eo, .ref rr, .int (q 5), .int (q 6), .int (q 7), .int (q 8), .int (q 9), .int (q 10), w] : List Value) = RR at hD
  have i1 : ∀ N l tx, RDS z M N RR l tx → gI 3 1 N (z + 1) = some (nN l) ∧ isC 3 N (z + 1) = some () ∧ gR 5 0 N z = some (z + 1) := fun N l tx h => ⟨by unfold gI gV; rw [h.1]; rfl, by unfold isC; rw [h.1]; rfl, r0 N (h.2.2 z (by omega) (by omega))⟩
  have ek : nN len + (20 : Int32) = nN (len + 20) := nN_add len 20
  by_cases c : len + 20 ≤ 900
  · obtain ⟨N1, e1, d1⟩ := apw hD (by omega) x1
    obtain ⟨N2, e2, d2⟩ := apw d1 (by omega) x2
    obtain ⟨N3, e3, d3⟩ := apw d2 (by omega) x3
    obtain ⟨N4, e4, d4⟩ := apw d3 (by omega) x4
    obtain ⟨N5, e5, d5⟩ := apw d4 (by omega) x5
    refine ⟨nN (len + 4 + 4 + 4 + 4 + 4), N5, ?_, v, pl, nm, H, n, sv, S, apN (apN (apN (apN (apN inp len (wby x1)) (len + 4) (wby x2)) (len + 4 + 4) (wby x3)) (len + 4 + 4 + 4) (wby x4)) (len + 4 + 4 + 4 + 4) (wby x5), len + 4 + 4 + 4 + 4 + 4, ec, eo, out, ol, ?_, ?_, fun x hx => d5.2.2 x (by omega) (by omega), fun B g a hF => ?_⟩
    · unfold p_X6_appendInput
      rw [(i1 _ _ _ hD).2.2, bS, (i1 _ _ _ hD).1, bS, ek, if_pos (show nN (len + 20) ≤ (900 : Int32) from nle_t (b := 900) (by omega) (by omega) c), bS, (i1 _ _ _ hD).2.1, bS, e1, bS, (i1 _ _ _ d1).2.2, bS, (i1 _ _ _ d1).2.1, bS, e2, bS, (i1 _ _ _ d2).2.2, bS, (i1 _ _ _ d2).2.1, bS, e3, bS, (i1 _ _ _ d3).2.2, bS, (i1 _ _ _ d3).2.1, bS, e4, bS, (i1 _ _ _ d4).2.2, bS, (i1 _ _ _ d4).2.1, bS, e5, bS, (i1 _ _ _ d5).2.2, bS, (i1 _ _ _ d5).1, bS]
    · obtain ⟨p1, p2, p3, p4, p5, p6, p7, p8, p9, p10⟩ := hP
      exact ⟨p1, p2, p3, p4, p5, by omega, apN_b (apN_b (apN_b (apN_b (apN_b p7 (fun k => wby_lt)) (fun k => wby_lt)) (fun k => wby_lt)) (fun k => wby_lt)) (fun k => wby_lt), p8, p9, p10⟩
    · refine put _ _ _ ec eo out ol (fun x a1 a2 a3 a4 => ?_) ⟨q, w, _, ?_, (rst_in (by omega)).trans d5.2.1, ?_⟩ ?_
      · unfold rst
        by_cases d : z ≤ x ∧ x < z + 180
        · rw [if_pos d, if_pos d]; exact d5.2.2 x a1 a2
        · rw [if_neg d, if_neg d]
      · rw [rst_in (by omega), d5.1, ← hRR]
      · have st : ∀ {y : Int32} {tx : Nat → Int32} {p : Nat → Nat} {l : Nat}, (∀ i, i < l → tx i = sbI (p i)) → ∀ i, i < l + 4 → app4 tx l (fun k => sbI (wby y k)) i = sbI (apN p l (wby y) i) := fun h => app4_r (R := fun a b => a = sbI b) h (fun k => rfl)
        exact st (st (st (st (st c4))))
      · obtain ⟨bt, b1, b2, b3⟩ := c5
        have hr : ∀ x, x ≠ z + 1 → x ≠ z + 2 → rst N5 z x = rst M z x := fun x a1 a2 => by
          unfold rst
          by_cases d : z ≤ x ∧ x < z + 180
          · rw [if_pos d, if_pos d]; exact d5.2.2 x a1 a2
          · rw [if_neg d, if_neg d]
        exact ⟨bt, (hr _ (by omega) (by omega)).trans b1, (hr _ (by omega) (by omega)).trans b2, b3⟩
    · obtain ⟨⟨f1, f2, f3, f4, f5, f6⟩, f7, f8, f9, f10, f11⟩ := hF.g9 (c := nN 0)
      have f3' : upd g 9 (nN 0) 12 = nN len := f3
      refine ⟨upd (upd g 9 (nN 0)) 12 (nN (len + 4 + 4 + 4 + 4 + 4)), up2 a 9 (app4 (app4 (app4 (app4 (app4 (a 9) len (fun k => nN (wby x1 k))) (len + 4) (fun k => nN (wby x2 k))) (len + 4 + 4) (fun k => nN (wby x3 k))) (len + 4 + 4 + 4) (fun k => nN (wby x4 k))) (len + 4 + 4 + 4 + 4) (fun k => nN (wby x5 k))), ?_, ?_⟩
      · show p_X7_appendInput _ _ _ _ _ _ _ = _
        unfold p_X7_appendInput
        rw [show (0 : Int32) = nN 0 from rfl, op_9, bS, oi_12, bS, f3', ek, if_pos (show nN (len + 20) ≤ (900 : Int32) from nle_t (b := 900) (by omega) (by omega) c), oc, bS, apw7 f3' (by omega), bS, oc, bS, apw7 pk_us (by omega), bS, oc, bS, apw7 pk_us (by omega), bS, oc, bS, apw7 pk_us (by omega), bS, oc, bS, apw7 pk_us (by omega), bS, oi_12, bS, pk_us]
        simp only [upd_2, up2_s, up2_up2]
        rw [up2_n (by decide), up2_sw (by decide)]
      · refine ⟨⟨by rw [pk_un (by decide)]; exact f1, by rw [pk_un (by decide)]; exact f2, pk_us, by rw [pk_un (by decide)]; exact f4, by rw [pk_un (by decide)]; exact f5, by rw [pk_un (by decide)]; exact f6⟩, f7, f8, f9, ?_, f11⟩
        rw [up2_s]
        have st : ∀ {y : Int32} {tx : Nat → Int32} {p : Nat → Nat} {l : Nat}, (∀ i, i < l → tx i = nN (p i)) → ∀ i, i < l + 4 → app4 tx l (fun k => nN (wby y k)) i = nN (apN p l (wby y) i) := fun h => app4_r (R := fun a b => a = nN b) h (fun k => rfl)
        exact st (st (st (st (st f10))))
  · refine ⟨-1, M, ?_, cgw_q hP hC (fun B g a hF => ?_)⟩
    · unfold p_X6_appendInput
      rw [(i1 _ _ _ hD).2.2, bS, (i1 _ _ _ hD).1, bS, ek, if_neg (show ¬ nN (len + 20) ≤ (900 : Int32) from nle_f (b := 900) (by omega) (by omega) c)]
    · show p_X7_appendInput _ _ _ _ _ _ _ = _
      unfold p_X7_appendInput
      rw [show (0 : Int32) = nN 0 from rfl, op_9, bS, oi_12, bS, pk_un (by decide), hF.1.2.2.1, ek, if_neg (show ¬ nN (len + 20) ≤ (900 : Int32) from nle_f (b := 900) (by omega) (by omega) c)]
end AI
section KA
variable {L : Nat} {xs : Nat → Int32} {i0 : Int32} {x : Nat → Int32} {z : Nat} {M : Mem}
theorem k_0 (hO : OFF z M) (hx : xIs L xs i0 x) : ∃ M', pk_0 L xs z (z + 180) (z + 194) (z + 195) i0 M = some M' ∧ OFF z M' := by
  obtain ⟨-, hx1, hx2, hx3, hx4, hx5⟩ := hx
  obtain ⟨v, pl, nm, H, n, sv, S, inp, len, ec, eo, out, ol, hP, hC, hX, hV⟩ := off_x hO
  obtain ⟨val, M1, e6, hw⟩ := ch_append hP hC (x 1) (x 2) (x 3) (x 4) (x 5)
  obtain ⟨o1, M2, o2, o3, o4⟩ := hV Int32 val M1 _ hw
  have o2 : p_X7_appendInput (z + 180) (x 1) (x 2) (x 3) (x 4) (x 5) M1 = some (val, M2) := o2
  exact ⟨M2, by unfold pk_0; simp only [hx1, hx2, hx3, hx4, hx5, hX, bS, e6, ob2_def, o1, o2, if_true], o3⟩
end KA
