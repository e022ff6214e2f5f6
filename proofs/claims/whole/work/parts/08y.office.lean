/-! the office as a whole: the class from z, the reference from z + 180, the law's two rows at z + 194 and z + 195 -/
abbrev rowT : Type := (Nat → Nat) × (Nat → Option Nat)
def codeN (f : Nat → Nat) : Nat → Nat
  | 0 => 0
  | i + 1 => if f i = 0 then codeN f i else codeN f i * 32 + (f i - 96)
/-- a school's name as the class's number -/
def cdS (nm : Nat → Nat) (s : Nat) : Nat := codeN (fun i => nm (6 * s + i)) 6
/-- a byte as Java has it -/
def sbI (x : Nat) : Int32 := (nN x).toInt8.toInt32
def rst (M : Mem) (z : Nat) : Mem := fun a => if z ≤ a ∧ a < z + 180 then M a else none
def OKR (v : Nat → Nat) (x : rowT) : Prop := Inv x.1 x.2 ∧ (∀ i, 764 ≤ i → x.1 i = 0) ∧ fstO x.1 x.2 = none ∧ sameT v x.1
/-- names: letters first, then zeros; one at least -/
def NMS (nm : Nat → Nat) (k : Nat) : Prop := ∀ s, s < k → ∃ l, 1 ≤ l ∧ l ≤ 6 ∧ (∀ i, i < l → 97 ≤ nm (6 * s + i) ∧ nm (6 * s + i) ≤ 122) ∧ ∀ i, l ≤ i → i < 6 → nm (6 * s + i) = 0
def PUR (v : Nat → Nat) (pl : Nat → Option Nat) (nm : Nat → Nat) (H : Nat → rowT) (n sv : Nat) (S : rowT) (inp : Nat → Nat) (len : Nat) (out : Nat → Nat) (ol : Nat) : Prop :=
  OKR v (v, pl) ∧ n ≤ 10 ∧ sv ≤ 1 ∧ (∀ j, j < n → OKR v (H j)) ∧ (sv = 1 → OKR v S) ∧ len ≤ 900 ∧ (∀ i, i < len → inp i < 256) ∧ ol ≤ 200 ∧ (∀ i, i < ol → out i < 128) ∧ NMS nm (v 0)
def flX (z rn sv hn n : Nat) : List Value := [.ref (z + 1), .ref (z + 24), .ref (z + 26), .ref rn, .ref (z + 49), .ref (z + 59), .ref (z + 69), .int (nN sv), .ref (z + 79), .int (nN hn), .int (nN n)]
/-- where the roll that is used and the reader's lie -/
def WHR (z rn bn tn tbn rr br tr tbr : Nat) : Prop := (rn = z + 3 ∧ bn = z + 15 ∧ tn = z + 4 ∧ tbn = z + 5 ∧ rr = z + 28 ∧ br = z + 40 ∧ tr = z + 29 ∧ tbr = z + 30) ∨ (rn = z + 28 ∧ bn = z + 40 ∧ tn = z + 29 ∧ tbn = z + 30 ∧ rr = z + 3 ∧ br = z + 15 ∧ tr = z + 4 ∧ tbr = z + 5)
def RDR (z : Nat) (N : Mem) (rr : Nat) (inp : Nat → Nat) (len ec : Nat) (eo : Int32) : Prop := ∃ (q : Nat → Int32) (w : Value) (tx : Nat → Int32), N (z + 1) = some (.inr (3, [.ref (z + 2), .int (nN len), .int (nN ec), .int eo, .ref rr, .int (q 5), .int (q 6), .int (q 7), .int (q 8), .int (q 9), .int (q 10), w])) ∧ N (z + 2) = some (.inl (1, 900, .inl tx)) ∧ ∀ i, i < len → tx i = sbI (inp i)
def CL0 (z : Nat) (N : Mem) (v : Nat → Nat) (pl : Nat → Option Nat) (nm : Nat → Nat) (H : Nat → rowT) (n sv : Nat) (S : rowT) (inp : Nat → Nat) (len ec : Nat) (eo : Int32) (out : Nat → Nat) (ol : Nat) : Prop :=
  ∃ rn bn tn tbn rr br tr tbr hn, WHR z rn bn tn tbn rr br tr tbr ∧ N z = some (.inr (5, flX z rn sv hn n)) ∧
  (∃ g h ar u ta, RC N rn bn tn g h ar ∧ TC N tn tbn u ta ∧ RG g h ar v pl ∧ TG u ta v (cdS nm)) ∧
  (∃ t g h ar, RC N (z + 49) (z + 50) t g h ar) ∧ (∃ t g h ar, RC N (z + 59) (z + 60) t g h ar) ∧
  (∃ t g h ar, RC N (z + 69) (z + 70) t g h ar ∧ (sv = 1 → t = tn ∧ RG g h ar S.1 S.2)) ∧
  (hn < 10 ∧ ∃ f : Nat → Option Nat, N (z + 79) = some (.inl (4, 10, .inr (.inr (.inr (.inr f))))) ∧ ∀ k, k < 10 → f k = some (z + 80 + 10 * k)) ∧
  (∀ k, k < 10 → ∃ t g h ar, RC N (z + 80 + 10 * k) (z + 81 + 10 * k) t g h ar ∧ ∀ j, j < n → (hn + 10 - n + j) % 10 = k → t = tn ∧ RG g h ar (H j).1 (H j).2) ∧
  (∃ T, N (z + 24) = some (.inr (0, [.ref (z + 25)])) ∧ N (z + 25) = some (.inl (0, 40, .inl T))) ∧
  (∃ bt, N (z + 26) = some (.inr (1, [.ref (z + 27), .int (nN ol)])) ∧ N (z + 27) = some (.inl (1, 200, .inl bt)) ∧ ∀ i, i < ol → bt i = nN (out i)) ∧
  RDR z N rr inp len ec eo ∧
  (∃ g h ar u ta, RC N rr br tr g h ar ∧ TC N tr tbr u ta)
def RFO (g : Nat → Int32) (a : Nat → Nat → Int32) (nm : Nat → Nat) (H : Nat → rowT) (n sv : Nat) (S : rowT) (inp : Nat → Nat) (len ec : Nat) (eo : Int32) (out : Nat → Nat) (ol : Nat) : Prop :=
  (g 5 = nN n ∧ g 6 = nN sv ∧ g 12 = nN len ∧ g 13 = nN ec ∧ g 14 = eo ∧ g 27 = nN ol) ∧
  (∀ k, k < n → ∀ i, i < 764 → a 5 (764 * k + i) = enc (H k).1 (H k).2 i) ∧ (sv = 1 → ∀ i, i < 764 → a 4 i = enc S.1 S.2 i) ∧
  (∀ i, i < 48 → a 6 i = nN (nm i)) ∧ (∀ i, i < len → a 9 i = nN (inp i)) ∧ ∀ i, i < ol → a 13 i = nN (out i)
def REF (m : Nat) (M : Mem) (v : Nat → Nat) (pl : Nat → Option Nat) (nm : Nat → Nat) (H : Nat → rowT) (n sv : Nat) (S : rowT) (inp : Nat → Nat) (len ec : Nat) (eo : Int32) (out : Nat → Nat) (ol : Nat) : Prop :=
  ∃ B g a, M = ovl B m g (up2 a 1 (enc v pl)) ∧ RFO g a nm H n sv S inp len ec eo out ol
def odC (M : Mem) (z : Nat) : Prop := (∃ f, M (z + 194) = some (.inl (2, 1, .inr (.inl f)))) ∧ ∃ f, M (z + 195) = some (.inl (3, 1, .inr (.inr (.inr (.inl f)))))
def OFF (z : Nat) (M : Mem) : Prop := ∃ v pl nm H n sv S inp len ec eo out ol, PUR v pl nm H n sv S inp len out ol ∧ CL0 z (rst M z) v pl nm H n sv S inp len ec eo out ol ∧ REF (z + 180) M v pl nm H n sv S inp len ec eo out ol ∧ odC M z
theorem rst_in {M : Mem} {z a : Nat} (h : z ≤ a ∧ a < z + 180) : rst M z a = M a := if_pos h
theorem rst_eq {M M' : Mem} {z : Nat} (h : ∀ a, z ≤ a → a < z + 180 → M' a = M a) : rst M' z = rst M z := by
  funext a
  unfold rst
  by_cases c : z ≤ a ∧ a < z + 180
  · rw [if_pos c, if_pos c, h a c.1 c.2]
  · rw [if_neg c, if_neg c]
theorem RC.up {M : Mem} {z r b t : Nat} {g : Nat → Int32} {h : Nat → Int64} {ar : Nat → Nat → Int32} (hC : RC (rst M z) r b t g h ar) (hr : z ≤ r ∧ r < z + 180) (hb : z ≤ b ∧ b + 9 ≤ z + 180) : RC M r b t g h ar := by
  refine ⟨?_, fun j hj => ?_⟩
  · rw [← rst_in (M := M) hr]; exact hC.1
  · rw [← rst_in (M := M) (z := z) (a := b + j) (by omega)]; exact hC.2 j hj
theorem TC.up {M : Mem} {z t tb : Nat} {u : Nat → Int32} {ta : Nat → Nat → Int32} (hC : TC (rst M z) t tb u ta) (hr : z ≤ t ∧ t < z + 180) (hb : z ≤ tb ∧ tb + 10 ≤ z + 180) : TC M t tb u ta := by
  refine ⟨?_, fun j hj => ?_⟩
  · rw [← rst_in (M := M) hr]; exact hC.1
  · rw [← rst_in (M := M) (z := z) (a := tb + j) (by omega)]; exact hC.2 j hj
theorem ovl_up {B : Mem} {m : Nat} {g : Nat → Int32} {a : Nat → Nat → Int32} {x : Nat} (h : ¬ (m ≤ x ∧ x ≤ m + 13)) (e : mE) : upM (ovl B m g a) x e = ovl (upM B x e) m g a := by
  funext q
  unfold upM ovl
  by_cases c : q = x
  · subst c; rw [if_pos rfl, if_neg (by omega), if_neg (by omega)]; exact (if_pos rfl).symm
  · rw [if_neg c]
    by_cases c1 : q = m
    · rw [if_pos c1, if_pos c1]
    · rw [if_neg c1, if_neg c1]
      by_cases c2 : m < q ∧ q ≤ m + 13
      · rw [if_pos c2, if_pos c2]
      · rw [if_neg c2, if_neg c2]; exact (if_neg c).symm
theorem RFO.g9 {g : Nat → Int32} {a : Nat → Nat → Int32} {nm : Nat → Nat} {H : Nat → rowT} {n sv : Nat} {S : rowT} {inp : Nat → Nat} {len ec : Nat} {eo : Int32} {out : Nat → Nat} {ol : Nat} (h : RFO g a nm H n sv S inp len ec eo out ol) {c : Int32} : RFO (upd g 9 c) a nm H n sv S inp len ec eo out ol := by
  obtain ⟨⟨a1, a2, a3, a4, a5, a6⟩, hh⟩ := h
  exact ⟨⟨by rw [pk_un (by decide)]; exact a1, by rw [pk_un (by decide)]; exact a2, by rw [pk_un (by decide)]; exact a3, by rw [pk_un (by decide)]; exact a4, by rw [pk_un (by decide)]; exact a5, by rw [pk_un (by decide)]; exact a6⟩, hh⟩
/-- what a question of the class needs -/
def QRY (M : Mem) (z : Nat) (v : Nat → Nat) (pl : Nat → Option Nat) (cd : Nat → Nat) : Prop := isC 5 M z = some () ∧ ∃ r b t tb g h ar u ta, M = ofc M r b t tb g h ar u ta ∧ gR 5 3 M z = some r ∧ GE r b t tb ∧ RG g h ar v pl ∧ TG u ta v cd ∧ Inv v pl
theorem cl_qry {M : Mem} {z : Nat} {v : Nat → Nat} {pl : Nat → Option Nat} {nm : Nat → Nat} {H : Nat → rowT} {n sv : Nat} {S : rowT} {inp : Nat → Nat} {len ec : Nat} {eo : Int32} {out : Nat → Nat} {ol : Nat} (hI : Inv v pl) (hC : CL0 z (rst M z) v pl nm H n sv S inp len ec eo out ol) : QRY M z v pl (cdS nm) := by
  obtain ⟨rn, bn, tn, tbn, rr, br, tr, tbr, hn, hW, hX, ⟨g, h, ar, u, ta, q1, q2, q3, q4⟩, _⟩ := hC
  rw [rst_in (by omega)] at hX
  have hl : (z ≤ rn ∧ rn < z + 180) ∧ (z ≤ bn ∧ bn + 9 ≤ z + 180) ∧ (z ≤ tn ∧ tn < z + 180) ∧ (z ≤ tbn ∧ tbn + 10 ≤ z + 180) ∧ GE rn bn tn tbn := by
    unfold WHR at hW
    unfold GE
    rcases hW with hW | hW <;> omega
  obtain ⟨l1, l2, l3, l4, l5⟩ := hl
  refine ⟨by unfold isC; rw [hX]; rfl, rn, bn, tn, tbn, g, h, ar, u, ta, ?_, by unfold gR gV; rw [hX]; rfl, l5, q3, q4, hI⟩
  exact (q1.up l1 l2).toF (q2.up l3 l4)
/-- the law's long row set, the reference's word on exceptions set: the office stands -/
theorem off_q {z : Nat} {M : Mem} (hO : OFF z M) : ∃ v pl cd, QRY M z v pl cd ∧ (∃ f, M (z + 194) = some (.inl (2, 1, .inr (.inl f)))) ∧ ∀ f : Nat → Int64, ∃ B g a, upM M (z + 194) (.inl (2, 1, .inr (.inl f))) = ovl B (z + 180) g (up2 a 1 (enc v pl)) ∧ ∀ c, OFF z (ovl B (z + 180) (upd g 9 c) (up2 a 1 (enc v pl))) ∧ ovl B (z + 180) (upd g 9 c) (up2 a 1 (enc v pl)) (z + 194) = some (.inl (2, 1, .inr (.inl f))) := by
  obtain ⟨v, pl, nm, H, n, sv, S, inp, len, ec, eo, out, ol, hP, hC, ⟨B, g, a, hM, hR⟩, ⟨f0, hod⟩, f1, hod2⟩ := hO
  refine ⟨v, pl, cdS nm, cl_qry hP.1.1 hC, ⟨f0, hod⟩, fun f => ⟨upM B (z + 194) (.inl (2, 1, .inr (.inl f))), g, a, ?_, fun c => ?_⟩⟩
  · rw [hM]; exact ovl_up (by omega) _
  · have e194 : ovl (upM B (z + 194) (.inl (2, 1, .inr (.inl f)))) (z + 180) (upd g 9 c) (up2 a 1 (enc v pl)) (z + 194) = some (.inl (2, 1, .inr (.inl f))) := by
      rw [ovl_o _ _ _ _ (by omega)]; exact if_pos rfl
    refine ⟨⟨v, pl, nm, H, n, sv, S, inp, len, ec, eo, out, ol, hP, ?_, ⟨_, _, a, rfl, hR.g9⟩, ⟨f, e194⟩, f1, ?_⟩, e194⟩
    · rw [rst_eq (M := M)]
      · exact hC
      · intro x h1 h2
        rw [ovl_o _ _ _ _ (by omega), hM, ovl_o _ _ _ _ (by omega)]
        exact if_neg (by omega)
    · rw [ovl_o _ _ _ _ (by omega)]
      rw [hM, ovl_o _ _ _ _ (by omega)] at hod2
      exact (if_neg (by omega)).trans hod2
theorem aLs_od {M : Mem} {q : Nat} {f : Nat → Int64} {w : Int64} (h : M q = some (.inl (2, 1, .inr (.inl f)))) : aLs M q (0 : Int32) w = some (upM M q (.inl (2, 1, .inr (.inl (vp_updL f 0 w))))) := by
  unfold aLs
  rw [h]
  exact if_pos ⟨rfl, by decide⟩
theorem aL_od {M : Mem} {q : Nat} {f : Nat → Int64} {w : Int64} (h : M q = some (.inl (2, 1, .inr (.inl (vp_updL f 0 w))))) : aL M q (0 : Int32) = some w := by
  unfold aL
  rw [h]
  exact (if_pos ⟨rfl, by decide⟩).trans (congrArg some pk_uLs)
theorem upM_same {M : Mem} {q : Nat} {e : mE} (h : M q = some e) : upM M q e = M := by
  funext x; unfold upM; by_cases c : x = q
  · rw [if_pos c, c, h]
  · rw [if_neg c]
theorem thr_9 {B : Mem} {m : Nat} {g : Nat → Int32} {a : Nat → Nat → Int32} {c : Int32} : p_X7_thrown m (ovl B m (upd g 9 c) a) = some c := by
  unfold p_X7_thrown; rw [oi_9, bS, pk_us]
theorem ctc_l {α β : Type} {v : α} {f : α → Option β} {h : String → Option β} : ctc (some (.inl v)) f h = f v := Eq.symm (Eq.symm rfl)
theorem ctc_r {α β : Type} {E : String} {f : α → Option β} {h : String → Option β} : ctc (some (.inr E)) f h = h E := Eq.symm (Eq.symm rfl)
