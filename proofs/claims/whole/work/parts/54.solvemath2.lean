/-! the class's solving comes to the same -/
def onB (n x : Nat) : Bool := decide (dif (sdC x) (2 ^ n - 1) = 0)
def XL (h n : Nat) : List Nat := (List.range 219).filter (fun x => decide (frN h ≤ x) && decide (x < frN (h + 1)) && onB n x)
def chkX : Bool := [1, 2, 3].all (fun h => (List.range 10).all (fun n => decide ((rowsL h n).map (rcT h) = (XL h n).map rlA)))
theorem chkX_ok : chkX = true := by decide +kernel
theorem XL_eq {h n : Nat} (h1 : 1 ≤ h) (h3 : h ≤ 3) (hn : n ≤ 9) : (rowsL h n).map (rcT h) = (XL h n).map rlA := by
  have a := List.all_eq_true.mp chkX_ok h (by simp; omega)
  exact of_decide_eq_true (List.all_eq_true.mp a n (List.mem_range.mpr (by omega)))
theorem XL_len {h n : Nat} (h1 : 1 ≤ h) (h3 : h ≤ 3) (hn : n ≤ 9) : (XL h n).length = (rowsL h n).length := by
  have := congrArg List.length (XL_eq h1 h3 hn)
  simpa using this.symm
/-- the class's number of the reference's i-th row -/
def xi (h n i : Nat) : Nat := (XL h n).getD i 0
theorem XL_mem {h n x : Nat} : x ∈ XL h n ↔ x < 219 ∧ frN h ≤ x ∧ x < frN (h + 1) ∧ ON n x := by
  unfold XL onB
  rw [List.mem_filter, List.mem_range, Bool.and_eq_true, Bool.and_eq_true, decide_eq_true_iff, decide_eq_true_iff, decide_eq_true_iff]
  exact ⟨fun z => ⟨z.1, z.2.1.1, z.2.1.2, z.2.2⟩, fun z => ⟨z.1, ⟨z.2.1, z.2.2.1⟩, z.2.2.2⟩⟩
theorem xi_mem {h n : Nat} (h1 : 1 ≤ h) (h3 : h ≤ 3) (hn : n ≤ 9) {i : Nat} (hi : i < (rowsL h n).length) : frN h ≤ xi h n i ∧ xi h n i < frN (h + 1) ∧ ON n (xi h n i) := by
  have := XL_mem.mp (getD_mem (l := XL h n) (i := i) (by rw [XL_len h1 h3 hn]; exact hi))
  exact this.2
theorem xi_lt {h n : Nat} (h1 : 1 ≤ h) (h3 : h ≤ 3) (hn : n ≤ 9) {i : Nat} (hi : i < (rowsL h n).length) : xi h n i < 219 := by
  have := XL_mem.mp (getD_mem (l := XL h n) (i := i) (by rw [XL_len h1 h3 hn]; exact hi))
  exact this.1
theorem xi_row {h n : Nat} (h1 : 1 ≤ h) (h3 : h ≤ 3) (hn : n ≤ 9) {i : Nat} (hi : i < (rowsL h n).length) : rlA (xi h n i) = rcT h (rowAt (rowsL h n) i) := by
  have e := congrArg (fun l => l[i]?) (XL_eq h1 h3 hn)
  simp only [List.getElem?_map] at e
  rw [List.getElem?_eq_getElem hi, List.getElem?_eq_getElem (by rw [XL_len h1 h3 hn]; exact hi)] at e
  have e := Option.some.inj e
  unfold xi rowAt
  rw [List.getD_eq_getElem?_getD, List.getD_eq_getElem?_getD, List.getElem?_eq_getElem hi, List.getElem?_eq_getElem (by rw [XL_len h1 h3 hn]; exact hi)]
  exact e.symm
theorem xi_surj {h n : Nat} (h1 : 1 ≤ h) (h3 : h ≤ 3) (hn : n ≤ 9) {x : Nat} (hx : frN h ≤ x) (hx2 : x < frN (h + 1)) (hon : ON n x) : ∃ i, i < (rowsL h n).length ∧ xi h n i = x := by
  obtain ⟨i, hi, e⟩ := mem_getD (l := XL h n) (y := x) (XL_mem.mpr ⟨by have := (frN_le h h1 h3).1; omega, hx, hx2, hon⟩)
  exact ⟨i, by rw [← XL_len h1 h3 hn]; exact hi, e⟩
theorem xi_inc {h n : Nat} (h1 : 1 ≤ h) (h3 : h ≤ 3) (hn : n ≤ 9) {i j : Nat} (hij : i < j) (hj : j < (rowsL h n).length) : xi h n i < xi h n j := by
  have hp : (XL h n).Pairwise (· < ·) := (List.pairwise_lt_range).filter _
  have hl := XL_len h1 h3 hn
  have := List.pairwise_iff_getElem.mp hp i j (by omega) (by omega) hij
  unfold xi
  rw [List.getD_eq_getElem?_getD, List.getElem?_eq_getElem (by omega), List.getD_eq_getElem?_getD, List.getElem?_eq_getElem (by omega)]
  exact this
theorem xi_inj {h n : Nat} (h1 : 1 ≤ h) (h3 : h ≤ 3) (hn : n ≤ 9) {i j : Nat} (hi : i < (rowsL h n).length) (hj : j < (rowsL h n).length) (e : xi h n i = xi h n j) : i = j := by
  rcases Nat.lt_trichotomy i j with q | q | q
  · have := xi_inc h1 h3 hn q hj; omega
  · exact q
  · have := xi_inc h1 h3 hn q hi; omega
theorem xi_std {h n : Nat} (h1 : 1 ≤ h) (h3 : h ≤ 3) (hn : n ≤ 9) {i : Nat} (hi : i < (rowsL h n).length) : std h (rowAt (rowsL h n) i) = sdC (xi h n i) := by
  obtain ⟨r1, r2, r3, -⟩ := rowsL_ok n (by omega) h (by omega) _ (rowAt_mem hi)
  apply Nat.eq_of_testBit_eq
  intro p
  have e : (std h (rowAt (rowsL h n) i)).testBit p = true ↔ (sdC (xi h n i)).testBit p = true := by
    rw [std_bit, sdC_bit, xi_row h1 h3 hn hi]
    generalize rowAt (rowsL h n) i = r at r1 r2 r3
    unfold rcT
    show _ ↔ p < 9 ∧ (p = r.1 ∨ p = (if 1 < h then r.2.1 else 9) ∨ p = if 2 < h then r.2.2 else 9)
    by_cases a : 1 < h <;> by_cases b : 2 < h <;> simp only [a, b, if_true, if_false, true_and, false_and, or_false] <;> omega
  cases q : (std h (rowAt (rowsL h n) i)).testBit p with
  | true => exact (e.mp q).symm
  | false =>
    cases q2 : (sdC (xi h n i)).testBit p with
    | true => rw [e.mpr q2] at q; cases q
    | false => rfl
theorem xi_cg {h n : Nat} (h1 : 1 ≤ h) (h3 : h ≤ 3) (hn : n ≤ 9) {nb : Nat → Nat} {kd i j : Nat} (hN : isNet n nb) (hi : i < (rowsL h n).length) (hj : j < (rowsL h n).length) : cgF nb h kd (rowsL h n) i j = true ↔ STP nb kd (xi h n i) (xi h n j) := cms_STP hN h1 h3 (rowAt_mem hi) (rowAt_mem hj) (xi_lt h1 h3 hn hi) (xi_lt h1 h3 hn hj) (xi_row h1 h3 hn hi) (xi_row h1 h3 hn hj)
theorem nall9_eq {n : Nat} {nb : Nat → Nat} (hN : isNetZ n nb) (s : Nat) : nall nb 9 s = nall nb n s := by
  have hn := hN.1.1
  apply Nat.eq_of_testBit_eq
  intro j
  have e : (nall nb 9 s).testBit j = true ↔ (nall nb n s).testBit j = true := by
    rw [nall_bit, nall_bit]
    constructor
    · rintro ⟨p, h1, h2, h3⟩
      have : p < n := Classical.byContradiction fun z => by rw [hN.2 p (by omega), Nat.zero_testBit] at h3; cases h3
      exact ⟨p, this, h2, h3⟩
    · rintro ⟨p, h1, h2, h3⟩; exact ⟨p, by omega, h2, h3⟩
  exact bool_eq e
theorem rch_rns {n : Nat} {nb : Nat → Nat} (hN : isNetZ n nb) (kd st p : Nat) : rch nb kd st p = rns nb n kd st p := by unfold rch rns; rw [nall9_eq hN]
/-- the class's rounds -/
def HHf (nb : Nat → Nat) (kd : Nat) (D : Nat → Nat → Prop) (y p : Nat) : Prop := (sdC y).testBit p = true ∨ ∀ q, (rch nb kd (sdC y) p).testBit q = true → D y q
def DD (nb : Nat → Nat) (kd : Nat) : Nat → Nat → Nat → Prop
  | 0, x, p => (sdC x).testBit p = true
  | t + 1, x, p => DD nb kd t x p ∨ ∃ y, STP nb kd x y ∧ HHf nb kd (DD nb kd t) y p
theorem DD_mono {nb : Nat → Nat} {kd t x p : Nat} : ∀ {u : Nat}, t ≤ u → DD nb kd t x p → DD nb kd u x p := by
  intro u
  induction u with
  | zero => intro hu hd; have : t = 0 := by omega
            subst this; exact hd
  | succ u ih =>
    intro hu hd
    by_cases e : t = u + 1
    · subst e; exact hd
    · exact Or.inl (ih (by omega) hd)
theorem HH_mono {nb : Nat → Nat} {kd : Nat} {D D2 : Nat → Nat → Prop} {y p : Nat} (hD : ∀ q, (rch nb kd (sdC y) p).testBit q = true → D y q → D2 y q) (hm : HHf nb kd D y p) : HHf nb kd D2 y p := hm.imp id (fun z q hb => hD q hb (z q hb))
theorem DM_DD {nb : Nat → Nat} {n h kd : Nat} (h1 : 1 ≤ h) (h3 : h ≤ 3) (hN : isNetZ n nb) : ∀ (t i p : Nat), i < (rowsL h n).length → p < n → (DM nb n h kd (rowsL h n) t i p ↔ DD nb kd t (xi h n i) p) := by
  have hn := hN.1.1
  have hH : ∀ (t : Nat), (∀ i p, i < (rowsL h n).length → p < n → (DM nb n h kd (rowsL h n) t i p ↔ DD nb kd t (xi h n i) p)) → ∀ j p, j < (rowsL h n).length → p < n → (HMf nb n h kd (rowsL h n) (DM nb n h kd (rowsL h n) t) j p ↔ HHf nb kd (DD nb kd t) (xi h n j) p) := by
    intro t ih j p hj hp
    unfold HMf HHf
    rw [xi_std h1 h3 hn hj, rch_rns hN]
    constructor
    · rintro (z | z)
      · exact Or.inl z
      · refine Or.inr fun q hq => ?_
        have hqn := bit_lt (rns_lt2 hN.1 hp) hq
        exact (ih j q hj hqn).mp (z q hqn hq)
    · rintro (z | z)
      · exact Or.inl z
      · exact Or.inr fun q hqn hq => (ih j q hj hqn).mpr (z q hq)
  intro t
  induction t with
  | zero =>
    intro i p hi hp
    show (std h (rowAt (rowsL h n) i)).testBit p = true ↔ (sdC (xi h n i)).testBit p = true
    rw [xi_std h1 h3 hn hi]
  | succ t ih =>
    intro i p hi hp
    constructor
    · rintro (z | ⟨j, hj, hc, hm⟩)
      · exact Or.inl ((ih i p hi hp).mp z)
      · exact Or.inr ⟨xi h n j, (xi_cg h1 h3 hn hN.1 hi hj).mp hc, (hH t ih j p hj hp).mp hm⟩
    · rintro (z | ⟨y, hs, hm⟩)
      · exact Or.inl ((ih i p hi hp).mpr z)
      · obtain ⟨m1, m2, m3⟩ := xi_mem h1 h3 hn hi
        obtain ⟨y1, y2, y3⟩ := STP_on hN.1 h1 h3 m1 m2 m3 hs
        obtain ⟨j, hj, rfl⟩ := xi_surj h1 h3 hn y1 y2 y3
        exact Or.inr ⟨j, hj, (xi_cg h1 h3 hn hN.1 hi hj).mpr hs, (hH t ih j p hj hp).mpr hm⟩
/-! steps go both ways -/
theorem mvS_12 {nb : Nat → Nat} {kd a b c u v w : Nat} (h : mvS nb kd a b c u v w) : mvS nb kd b a c v u w := by
  rcases h with ⟨hk, ⟨z1, z2, z3⟩ | ⟨z1, z2, z3⟩ | ⟨z1, z2, z3⟩⟩ | ⟨hk, z1, z2, z3⟩
  · exact Or.inl ⟨hk, Or.inr (Or.inl ⟨z2, z1, z3⟩)⟩
  · exact Or.inl ⟨hk, Or.inl ⟨z2, z1, z3⟩⟩
  · exact Or.inl ⟨hk, Or.inr (Or.inr ⟨z2, z1, z3⟩)⟩
  · exact Or.inr ⟨hk, z2, z1, z3⟩
theorem mvS_23 {nb : Nat → Nat} {kd a b c u v w : Nat} (h : mvS nb kd a b c u v w) : mvS nb kd a c b u w v := by
  rcases h with ⟨hk, ⟨z1, z2, z3⟩ | ⟨z1, z2, z3⟩ | ⟨z1, z2, z3⟩⟩ | ⟨hk, z1, z2, z3⟩
  · exact Or.inl ⟨hk, Or.inl ⟨z1, z3, z2⟩⟩
  · exact Or.inl ⟨hk, Or.inr (Or.inr ⟨z1, z3, z2⟩)⟩
  · exact Or.inl ⟨hk, Or.inr (Or.inl ⟨z1, z3, z2⟩)⟩
  · exact Or.inr ⟨hk, z1, z3, z2⟩
theorem nl_sym {n : Nat} {nb : Nat → Nat} (hN : isNet n nb) {a u : Nat} (ha : onS n a) (hu : u ∈ nl nb a) : a ∈ nl nb u := by
  have hn := hN.1
  have h2 := nl_on hN ha hu
  rcases ha with ha | rfl
  · have hu9 : u < 9 := h2.2.1.mpr (by omega)
    have hun : u < n := by rcases h2.1 with z | z <;> omega
    rw [nl_nr (by omega) hu9] at hu
    rw [nl_nr hu9 (by omega)]
    unfold nr at hu ⊢
    rw [hN.2.2.2 u a hun ha]
    exact hu
  · rw [nl_9.mp hu]; exact nl_9.mpr rfl
theorem mvS_sym {n : Nat} {nb : Nat → Nat} (hN : isNet n nb) {kd a b c u v w : Nat} (ha : onS n a) (hb : onS n b) (hc : onS n c) (h : mvS nb kd a b c u v w) : mvS nb kd u v w a b c := by
  rcases h with ⟨hk, ⟨z1, z2, z3⟩ | ⟨z1, z2, z3⟩ | ⟨z1, z2, z3⟩⟩ | ⟨hk, z1, z2, z3⟩
  · exact Or.inl ⟨hk, Or.inl ⟨nl_sym hN ha z1, z2.symm, z3.symm⟩⟩
  · exact Or.inl ⟨hk, Or.inr (Or.inl ⟨z1.symm, nl_sym hN hb z2, z3.symm⟩)⟩
  · exact Or.inl ⟨hk, Or.inr (Or.inr ⟨z1.symm, z2.symm, nl_sym hN hc z3⟩)⟩
  · exact Or.inr ⟨hk, nl_sym hN ha z1, nl_sym hN hb z2, nl_sym hN hc z3⟩
theorem STP_sym {h n x y kd : Nat} {nb : Nat → Nat} (hN : isNet n nb) (h1 : 1 ≤ h) (h3 : h ≤ 3) (hx : frN h ≤ x) (hx2 : x < frN (h + 1)) (hon : ON n x) (hs : STP nb kd x y) : STP nb kd y x := by
  obtain ⟨y1, y2, y3⟩ := STP_on hN h1 h3 hx hx2 hon hs
  have hl := (frN_le h h1 h3).1
  obtain ⟨o1, o2, o3, hp⟩ := spots_on h1 h3 hx hx2 hon
  obtain ⟨-, -, -, hp2⟩ := spots_on h1 h3 y1 y2 y3
  have px := (rlA_P h1 h3 hx hx2).2.2.2
  have py := (rlA_P h1 h3 y1 y2).2.2.2
  unfold STP at hs ⊢
  rw [stS_X hp.1.1 hp.1.2.1 hp.1.2.2, stX_MV (by omega) py.1 py.2] at hs
  rw [stS_X hp2.1.1 hp2.1.2.1 hp2.1.2.2, stX_MV (by omega) px.1 px.2]
  show mvS nb kd (rlA y).1 (rlA y).2.1 (rlA y).2.2 _ _ _ ∨ _
  have S : ∀ {u v w}, mvS nb kd (rk (rlA x) 0) (rk (rlA x) 1) (rk (rlA x) 2) u v w → mvS nb kd u v w (rlA x).1 (rlA x).2.1 (rlA x).2.2 := fun z => mvS_sym hN o1 o2 o3 z
  rcases hs with z | z | z | z | z | z
  · exact Or.inl (S z)
  · exact Or.inr (Or.inl (mvS_23 (S z)))
  · exact Or.inr (Or.inr (Or.inl (mvS_12 (S z))))
  · exact Or.inr (Or.inr (Or.inr (Or.inr (Or.inl (mvS_12 (mvS_23 (S z)))))))
  · exact Or.inr (Or.inr (Or.inr (Or.inl (mvS_23 (mvS_12 (S z))))))
  · exact Or.inr (Or.inr (Or.inr (Or.inr (Or.inr (mvS_12 (mvS_23 (mvS_12 (S z))))))))
