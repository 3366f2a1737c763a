/-! THE ROWS OF BOTH SIDES -/
theorem ixF_some : ∀ {l : List Row} {r : Row} {i j : Nat}, ixF l r i = some j → i ≤ j ∧ j < i + l.length ∧ l.getD (j - i) (0, 0, 0) = r
  | [], _, _, _, h => by cases h
  | a :: as, r, i, j, h => by
    unfold ixF at h
    split at h
    · rename_i e
      cases h
      refine ⟨Nat.le_refl _, by rw [List.length_cons]; omega, ?_⟩
      rw [Nat.sub_self]; exact e
    · obtain ⟨h1, h2, h3⟩ := ixF_some h
      refine ⟨by omega, by rw [List.length_cons]; omega, ?_⟩
      rw [show j - i = (j - (i + 1)) + 1 by omega]
      exact h3
theorem rowsC_len : rowsC.length = 219 := by decide +kernel
theorem num_some {a b c x : Nat} (h : num a b c = some x) : x < 219 ∧ rlA x = tl3 a b c := by
  obtain ⟨h1, h2, h3⟩ := ixF_some h
  rw [rowsC_len] at h2
  exact ⟨by omega, h3⟩
/-- the rows of h hunters: as many places, then 9s, in order -/
def rowP (h : Nat) (r : Row) : Prop := r.1 < 9 ∧ (if 1 < h then r.2.1 < 9 else r.2.1 = 9) ∧ (if 2 < h then r.2.2 < 9 else r.2.2 = 9) ∧ r.1 ≤ r.2.1 ∧ r.2.1 ≤ r.2.2
def rowPB (h : Nat) (r : Row) : Bool := decide (r.1 < 9) && (if 1 < h then decide (r.2.1 < 9) else decide (r.2.1 = 9)) && (if 2 < h then decide (r.2.2 < 9) else decide (r.2.2 = 9)) && decide (r.1 ≤ r.2.1) && decide (r.2.1 ≤ r.2.2)
theorem rowPB_iff {h : Nat} {r : Row} : rowPB h r = true ↔ rowP h r := by
  unfold rowPB rowP
  by_cases h1 : 1 < h <;> by_cases h2 : 2 < h <;> simp [h1, h2, and_assoc]
def chkA (h : Nat) : Bool := (List.range 219).all (fun x => (decide (x < frN h) || decide (frN (h + 1) ≤ x)) || rowPB h (rlA x))
theorem chkA_ok : chkA 1 = true ∧ chkA 2 = true ∧ chkA 3 = true := by decide +kernel
theorem frN_le : ∀ h, 1 ≤ h → h ≤ 3 → frN (h + 1) ≤ 219 ∧ frN (h + 1) ≤ frN h + 165 ∧ frN h < frN (h + 1) := by
  intro h h1 h3
  rcases (show h = 1 ∨ h = 2 ∨ h = 3 by omega) with rfl | rfl | rfl <;> decide
theorem rlA_P {h x : Nat} (h1 : 1 ≤ h) (h3 : h ≤ 3) (hx : frN h ≤ x) (hx2 : x < frN (h + 1)) : rowP h (rlA x) := by
  have hc : chkA h = true := by
    rcases (show h = 1 ∨ h = 2 ∨ h = 3 by omega) with rfl | rfl | rfl
    · exact chkA_ok.1
    · exact chkA_ok.2.1
    · exact chkA_ok.2.2
  have := List.all_eq_true.mp hc x (List.mem_range.mpr (by have := (frN_le h h1 h3).1; omega))
  rw [Bool.or_eq_true, Bool.or_eq_true, decide_eq_true_iff, decide_eq_true_iff] at this
  rcases this with (z | z) | z
  · omega
  · omega
  · exact rowPB_iff.mp z
/-- each such row is there, in its own part -/
def trips : List Row := (List.range 10).flatMap (fun a => (List.range 10).flatMap (fun b => (List.range 10).map (fun c => (a, b, c))))
def chkB (h : Nat) : Bool := trips.all (fun r => !(rowPB h r) || (match ixF rowsC r 0 with | none => false | some x => decide (frN h ≤ x) && decide (x < frN (h + 1))))
theorem chkB_ok : chkB 1 = true ∧ chkB 2 = true ∧ chkB 3 = true := by decide +kernel
theorem mem_trips {r : Row} (h1 : r.1 < 10) (h2 : r.2.1 < 10) (h3 : r.2.2 < 10) : r ∈ trips := by
  obtain ⟨a, b, c⟩ := r
  refine List.mem_flatMap.mpr ⟨a, List.mem_range.mpr h1, List.mem_flatMap.mpr ⟨b, List.mem_range.mpr h2, List.mem_map.mpr ⟨c, List.mem_range.mpr h3, rfl⟩⟩⟩
theorem rowP_lt {h : Nat} {r : Row} (hp : rowP h r) : r.1 < 10 ∧ r.2.1 < 10 ∧ r.2.2 < 10 := by
  obtain ⟨p1, p2, p3, -⟩ := hp
  refine ⟨by omega, ?_, ?_⟩
  · split at p2 <;> omega
  · split at p3 <;> omega
theorem ix_of {h : Nat} {r : Row} (h1 : 1 ≤ h) (h3 : h ≤ 3) (hp : rowP h r) : ∃ x, ixF rowsC r 0 = some x ∧ frN h ≤ x ∧ x < frN (h + 1) := by
  have hc : chkB h = true := by
    rcases (show h = 1 ∨ h = 2 ∨ h = 3 by omega) with rfl | rfl | rfl
    · exact chkB_ok.1
    · exact chkB_ok.2.1
    · exact chkB_ok.2.2
  obtain ⟨q1, q2, q3⟩ := rowP_lt hp
  have := List.all_eq_true.mp hc r (mem_trips q1 q2 q3)
  rw [rowPB_iff.mpr hp, Bool.not_true, Bool.false_or] at this
  cases e : ixF rowsC r 0 with
  | none => rw [e] at this; cases this
  | some x =>
    rw [e] at this
    simp only [Bool.and_eq_true, decide_eq_true_iff] at this
    exact ⟨x, rfl, this⟩
/-- hunters in some order, 9s for those that are not -/
def spP (h a b c : Nat) : Prop := (a < 10 ∧ b < 10 ∧ c < 10) ∧ hC a b c = h
def chkC : Bool := trips.all (fun r => decide (hC r.1 r.2.1 r.2.2 = 0) || rowPB (hC r.1 r.2.1 r.2.2) (tl3 r.1 r.2.1 r.2.2))
theorem chkC_ok : chkC = true := by decide +kernel
theorem tl3_P {h a b c : Nat} (h1 : 1 ≤ h) (hp : spP h a b c) : rowP h (tl3 a b c) := by
  obtain ⟨⟨ha, hb, hc⟩, hh⟩ := hp
  have := List.all_eq_true.mp chkC_ok (a, b, c) (mem_trips ha hb hc)
  rw [Bool.or_eq_true, decide_eq_true_iff] at this
  rcases this with z | z
  · have z : hC a b c = 0 := z
    omega
  · rw [← hh]
    exact rowPB_iff.mp z
theorem num_of {h a b c : Nat} (h1 : 1 ≤ h) (h3 : h ≤ 3) (hp : spP h a b c) : ∃ x, num a b c = some x ∧ frN h ≤ x ∧ x < frN (h + 1) := ix_of h1 h3 (tl3_P h1 hp)
/-- a row lies on the net -/
abbrev ON (n x : Nat) : Prop := dif (sdC x) (2 ^ n - 1) = 0
theorem sdC_bit {x p : Nat} : (sdC x).testBit p = true ↔ p < 9 ∧ (p = (rlA x).1 ∨ p = (rlA x).2.1 ∨ p = (rlA x).2.2) := by
  unfold sdC
  rw [Nat.testBit_and, Nat.testBit_or, Nat.testBit_or, Bool.and_eq_true, Bool.or_eq_true, Bool.or_eq_true, tb_pow, tb_pow, tb_pow, show (511 : Nat) = 2 ^ 9 - 1 from rfl, Nat.testBit_two_pow_sub_one, decide_eq_true_iff]
  constructor
  · rintro ⟨(z | z) | z, h⟩
    · exact ⟨h, Or.inl z.symm⟩
    · exact ⟨h, Or.inr (Or.inl z.symm)⟩
    · exact ⟨h, Or.inr (Or.inr z.symm)⟩
  · rintro ⟨h, z | z | z⟩
    · exact ⟨Or.inl (Or.inl z.symm), h⟩
    · exact ⟨Or.inl (Or.inr z.symm), h⟩
    · exact ⟨Or.inr z.symm, h⟩
theorem ON_iff {n x : Nat} : ON n x ↔ ((rlA x).1 < 9 → (rlA x).1 < n) ∧ ((rlA x).2.1 < 9 → (rlA x).2.1 < n) ∧ ((rlA x).2.2 < 9 → (rlA x).2.2 < n) := by
  unfold ON
  rw [dif_0]
  have e : ∀ q, (2 ^ n - 1).testBit q = true ↔ q < n := fun q => by rw [Nat.testBit_two_pow_sub_one, decide_eq_true_iff]
  constructor
  · intro h
    exact ⟨fun z => (e _).mp (h _ (sdC_bit.mpr ⟨z, Or.inl rfl⟩)), fun z => (e _).mp (h _ (sdC_bit.mpr ⟨z, Or.inr (Or.inl rfl)⟩)), fun z => (e _).mp (h _ (sdC_bit.mpr ⟨z, Or.inr (Or.inr rfl)⟩))⟩
  · rintro ⟨h1, h2, h3⟩ q hq
    obtain ⟨q9, z | z | z⟩ := sdC_bit.mp hq
    · exact (e q).mpr (z ▸ h1 (z ▸ q9))
    · exact (e q).mpr (z ▸ h2 (z ▸ q9))
    · exact (e q).mpr (z ▸ h3 (z ▸ q9))
/-- a spot on the net: a place, or 9 -/
def onS (n a : Nat) : Prop := a < n ∨ a = 9
theorem nl_on {n : Nat} {nb : Nat → Nat} (hN : isNet n nb) {a u : Nat} (ha : onS n a) (hu : u ∈ nl nb a) : onS n u ∧ (u < 9 ↔ a < 9) ∧ u < 10 := by
  have hn := hN.1
  unfold nl at hu
  split at hu
  · simp at hu; subst hu
    rename_i e
    exact ⟨Or.inr rfl, by omega, by omega⟩
  · rename_i e
    have han : a < n := by rcases ha with z | z <;> omega
    obtain ⟨h1, h2⟩ := mems_mem.mp hu
    exact ⟨Or.inl (bit_lt (hN.2.1 a han) h2), by omega, by omega⟩
theorem spots_on {h n x : Nat} (h1 : 1 ≤ h) (h3 : h ≤ 3) (hx : frN h ≤ x) (hx2 : x < frN (h + 1)) (hon : ON n x) : onS n (rk (rlA x) 0) ∧ onS n (rk (rlA x) 1) ∧ onS n (rk (rlA x) 2) ∧ spP h (rk (rlA x) 0) (rk (rlA x) 1) (rk (rlA x) 2) := by
  have hp := rlA_P h1 h3 hx hx2
  obtain ⟨o1, o2, o3⟩ := ON_iff.mp hon
  obtain ⟨l1, l2, l3⟩ := rowP_lt hp
  obtain ⟨p1, p2, p3, -⟩ := hp
  refine ⟨Or.inl (o1 p1), ?_, ?_, ⟨l1, l2, l3⟩, ?_⟩
  · by_cases z : (rlA x).2.1 < 9
    · exact Or.inl (o2 z)
    · exact Or.inr (by show (rlA x).2.1 = 9; omega)
  · by_cases z : (rlA x).2.2 < 9
    · exact Or.inl (o3 z)
    · exact Or.inr (by show (rlA x).2.2 = 9; omega)
  · show (if (rlA x).1 < 9 then 1 else 0) + (if (rlA x).2.1 < 9 then 1 else 0) + (if (rlA x).2.2 < 9 then 1 else 0) = h
    rw [if_pos p1]
    rcases (show h = 1 ∨ h = 2 ∨ h = 3 by omega) with rfl | rfl | rfl <;> simp at p2 p3 <;> simp [p2, p3]
theorem tl3_mem {a b c : Nat} : ((tl3 a b c).1 = a ∨ (tl3 a b c).1 = b ∨ (tl3 a b c).1 = c) ∧ ((tl3 a b c).2.1 = a ∨ (tl3 a b c).2.1 = b ∨ (tl3 a b c).2.1 = c) ∧ ((tl3 a b c).2.2 = a ∨ (tl3 a b c).2.2 = b ∨ (tl3 a b c).2.2 = c) := by
  unfold tl3
  refine ⟨?_, ?_, ?_⟩ <;> simp only [mn, mx] <;> (repeat' split) <;> simp
theorem ON_num {n a b c x : Nat} (ha : onS n a) (hb : onS n b) (hc : onS n c) (h : num a b c = some x) : ON n x := by
  obtain ⟨-, e⟩ := num_some h
  rw [ON_iff, e]
  obtain ⟨m1, m2, m3⟩ := tl3_mem (a := a) (b := b) (c := c)
  unfold onS at ha hb hc
  refine ⟨fun z => ?_, fun z => ?_, fun z => ?_⟩ <;> omega
theorem hC_eq {h a b c u v y : Nat} (hp : spP h a b c) (hu : u < 10 ∧ (u < 9 ↔ a < 9)) (hv : v < 10 ∧ (v < 9 ↔ b < 9)) (hy : y < 10 ∧ (y < 9 ↔ c < 9)) : spP h u v y := by
  refine ⟨⟨hu.1, hv.1, hy.1⟩, ?_⟩
  rw [← hp.2]
  unfold hC
  simp only [hu.2, hv.2, hy.2]
theorem gdX_on {h n x : Nat} {nb : Nat → Nat} (hN : isNet n nb) (h1 : 1 ≤ h) (h3 : h ≤ 3) (hx : frN h ≤ x) (hx2 : x < frN (h + 1)) (hon : ON n x) : gdX nb (frN h) (frN (h + 1)) x := by
  obtain ⟨o1, o2, o3, hp⟩ := spots_on h1 h3 hx hx2 hon
  intro u hu v hv y hy
  refine num_of h1 h3 (hC_eq hp ?_ ?_ ?_)
  · rcases hu with rfl | hu
    · exact ⟨hp.1.1, Iff.rfl⟩
    · exact ⟨(nl_on hN o1 hu).2.2, (nl_on hN o1 hu).2.1⟩
  · rcases hv with rfl | hv
    · exact ⟨hp.1.2.1, Iff.rfl⟩
    · exact ⟨(nl_on hN o2 hv).2.2, (nl_on hN o2 hv).2.1⟩
  · rcases hy with rfl | hy
    · exact ⟨hp.1.2.2, Iff.rfl⟩
    · exact ⟨(nl_on hN o3 hy).2.2, (nl_on hN o3 hy).2.1⟩
/-- steps of the class, whatever the order: one of them goes (or none), or all do -/
def stX (nb : Nat → Nat) (lz : Prop) (a b c x : Nat) : Prop := ∃ u v y, num u v y = some x ∧ ((lz ∧ ((u ∈ nl nb a ∧ v = b ∧ y = c) ∨ (u = a ∧ v ∈ nl nb b ∧ y = c) ∨ (u = a ∧ v = b ∧ y ∈ nl nb c))) ∨ (¬ lz ∧ u ∈ nl nb a ∧ v ∈ nl nb b ∧ y ∈ nl nb c))
theorem stS_X {nb : Nat → Nat} {lz : Prop} {a b c x : Nat} (ha : a < 10) (hb : b < 10) (hc : c < 10) : stS nb lz a b c x ↔ stX nb lz a b c x := by
  constructor
  · rintro (⟨hl, ⟨y, hy, e⟩ | ⟨y, hy, e⟩ | ⟨y, hy, e⟩⟩ | ⟨hl, u, hu, v, hv, y, hy, e⟩)
    · exact ⟨y, b, c, e, Or.inl ⟨hl, Or.inl ⟨hy, rfl, rfl⟩⟩⟩
    · exact ⟨a, y, c, by rw [(num_perm ha (nl_lt hy) hc).1]; exact e, Or.inl ⟨hl, Or.inr (Or.inl ⟨rfl, hy, rfl⟩)⟩⟩
    · exact ⟨a, b, y, by rw [(num_perm ha hb (nl_lt hy)).2.1]; exact e, Or.inl ⟨hl, Or.inr (Or.inr ⟨rfl, rfl, hy⟩)⟩⟩
    · exact ⟨u, v, y, by rw [(num_perm (nl_lt hu) (nl_lt hv) (nl_lt hy)).2.1]; exact e, Or.inr ⟨hl, hu, hv, hy⟩⟩
  · rintro ⟨u, v, y, e, ⟨hl, ⟨hu, rfl, rfl⟩ | ⟨rfl, hv, rfl⟩ | ⟨rfl, rfl, hy⟩⟩ | ⟨hl, hu, hv, hy⟩⟩
    · exact Or.inl ⟨hl, Or.inl ⟨u, hu, e⟩⟩
    · exact Or.inl ⟨hl, Or.inr (Or.inl ⟨v, hv, by rw [(num_perm (nl_lt hv) ha hc).1]; exact e⟩)⟩
    · exact Or.inl ⟨hl, Or.inr (Or.inr ⟨y, hy, by rw [(num_perm (nl_lt hy) ha hb).2.2]; exact e⟩)⟩
    · exact Or.inr ⟨hl, u, hu, v, hv, y, hy, by rw [(num_perm (nl_lt hy) (nl_lt hu) (nl_lt hv)).2.2]; exact e⟩
theorem STP_on {h n x y kd : Nat} {nb : Nat → Nat} (hN : isNet n nb) (h1 : 1 ≤ h) (h3 : h ≤ 3) (hx : frN h ≤ x) (hx2 : x < frN (h + 1)) (hon : ON n x) (hs : STP nb kd x y) : frN h ≤ y ∧ y < frN (h + 1) ∧ ON n y := by
  obtain ⟨o1, o2, o3, hp⟩ := spots_on h1 h3 hx hx2 hon
  have hg := gdX_on hN h1 h3 hx hx2 hon
  obtain ⟨u, v, w, e, hc⟩ := (stS_X hp.1.1 hp.1.2.1 hp.1.2.2).mp hs
  have hu : (u = rk (rlA x) 0 ∨ u ∈ nl nb (rk (rlA x) 0)) ∧ (v = rk (rlA x) 1 ∨ v ∈ nl nb (rk (rlA x) 1)) ∧ (w = rk (rlA x) 2 ∨ w ∈ nl nb (rk (rlA x) 2)) := by
    rcases hc with ⟨-, ⟨z1, z2, z3⟩ | ⟨z1, z2, z3⟩ | ⟨z1, z2, z3⟩⟩ | ⟨-, z1, z2, z3⟩
    · exact ⟨Or.inr z1, Or.inl z2, Or.inl z3⟩
    · exact ⟨Or.inl z1, Or.inr z2, Or.inl z3⟩
    · exact ⟨Or.inl z1, Or.inl z2, Or.inr z3⟩
    · exact ⟨Or.inr z1, Or.inr z2, Or.inr z3⟩
  obtain ⟨x2, e2, r1, r2⟩ := hg u hu.1 v hu.2.1 w hu.2.2
  rw [e] at e2
  cases e2
  have f : ∀ {a b : Nat}, onS n a → (b = a ∨ b ∈ nl nb a) → onS n b := fun ha hb => by
    rcases hb with rfl | hb
    · exact ha
    · exact (nl_on hN ha hb).1
  exact ⟨r1, r2, ON_num (f o1 hu.1) (f o2 hu.2.1) (f o3 hu.2.2) e⟩
