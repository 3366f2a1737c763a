/-! rows and steps of both sides: they are the same -/
def chkD : Bool := (List.range 219).all (fun y => decide (ixF rowsC (rlA y) 0 = some y))
theorem chkD_ok : chkD = true := by decide +kernel
theorem ix_self {y : Nat} (hy : y < 219) : ixF rowsC (rlA y) 0 = some y := of_decide_eq_true (List.all_eq_true.mp chkD_ok y (List.mem_range.mpr hy))
theorem num_iff {u v w y : Nat} (hy : y < 219) : num u v w = some y ↔ tl3 u v w = rlA y := by
  constructor
  · exact fun h => (num_some h).2.symm
  · intro h
    unfold num
    rw [h]
    exact ix_self hy
theorem tl3_iff {a b c u v w : Nat} (h1 : a ≤ b) (h2 : b ≤ c) : tl3 u v w = (a, b, c) ↔ (u = a ∧ v = b ∧ w = c) ∨ (u = a ∧ v = c ∧ w = b) ∨ (u = b ∧ v = a ∧ w = c) ∨ (u = b ∧ v = c ∧ w = a) ∨ (u = c ∧ v = a ∧ w = b) ∨ (u = c ∧ v = b ∧ w = a) := by
  simp only [tl3, Prod.mk.injEq]
  constructor
  · rintro ⟨e1, e2, e3⟩
    simp only [mn, mx] at e1 e2 e3
    rcases Nat.lt_or_ge u v with q1 | q1 <;> rcases Nat.lt_or_ge v w with q2 | q2 <;> rcases Nat.lt_or_ge u w with q3 | q3 <;> (repeat' split at e1) <;> (repeat' split at e2) <;> (repeat' split at e3) <;> omega
  · intro h
    simp only [mn, mx]
    refine ⟨?_, ?_, ?_⟩ <;> (repeat' split) <;> omega
/-- hunters at a, b, c go to u, v, w -/
def mvS (nb : Nat → Nat) (kd a b c u v w : Nat) : Prop := (kd = 1 ∧ ((u ∈ nl nb a ∧ v = b ∧ w = c) ∨ (u = a ∧ v ∈ nl nb b ∧ w = c) ∨ (u = a ∧ v = b ∧ w ∈ nl nb c))) ∨ (¬ kd = 1 ∧ u ∈ nl nb a ∧ v ∈ nl nb b ∧ w ∈ nl nb c)
theorem stX_MV {nb : Nat → Nat} {kd a b c y : Nat} (hy : y < 219) (h1 : (rlA y).1 ≤ (rlA y).2.1) (h2 : (rlA y).2.1 ≤ (rlA y).2.2) : stX nb (kd = 1) a b c y ↔ mvS nb kd a b c (rlA y).1 (rlA y).2.1 (rlA y).2.2 ∨ mvS nb kd a b c (rlA y).1 (rlA y).2.2 (rlA y).2.1 ∨ mvS nb kd a b c (rlA y).2.1 (rlA y).1 (rlA y).2.2 ∨ mvS nb kd a b c (rlA y).2.1 (rlA y).2.2 (rlA y).1 ∨ mvS nb kd a b c (rlA y).2.2 (rlA y).1 (rlA y).2.1 ∨ mvS nb kd a b c (rlA y).2.2 (rlA y).2.1 (rlA y).1 := by
  have e : ∀ u v w, num u v w = some y ↔ _ := fun u v w => (num_iff hy).trans (tl3_iff (u := u) (v := v) (w := w) h1 h2)
  constructor
  · rintro ⟨u, v, w, e1, hm⟩
    have hm : mvS nb kd a b c u v w := hm
    rcases (e u v w).mp e1 with ⟨rfl, rfl, rfl⟩ | ⟨rfl, rfl, rfl⟩ | ⟨rfl, rfl, rfl⟩ | ⟨rfl, rfl, rfl⟩ | ⟨rfl, rfl, rfl⟩ | ⟨rfl, rfl, rfl⟩
    · exact Or.inl hm
    · exact Or.inr (Or.inl hm)
    · exact Or.inr (Or.inr (Or.inl hm))
    · exact Or.inr (Or.inr (Or.inr (Or.inl hm)))
    · exact Or.inr (Or.inr (Or.inr (Or.inr (Or.inl hm))))
    · exact Or.inr (Or.inr (Or.inr (Or.inr (Or.inr hm))))
  · rintro (hm | hm | hm | hm | hm | hm)
    · exact ⟨_, _, _, (e _ _ _).mpr (Or.inl ⟨rfl, rfl, rfl⟩), hm⟩
    · exact ⟨_, _, _, (e _ _ _).mpr (Or.inr (Or.inl ⟨rfl, rfl, rfl⟩)), hm⟩
    · exact ⟨_, _, _, (e _ _ _).mpr (Or.inr (Or.inr (Or.inl ⟨rfl, rfl, rfl⟩))), hm⟩
    · exact ⟨_, _, _, (e _ _ _).mpr (Or.inr (Or.inr (Or.inr (Or.inl ⟨rfl, rfl, rfl⟩)))), hm⟩
    · exact ⟨_, _, _, (e _ _ _).mpr (Or.inr (Or.inr (Or.inr (Or.inr (Or.inl ⟨rfl, rfl, rfl⟩))))), hm⟩
    · exact ⟨_, _, _, (e _ _ _).mpr (Or.inr (Or.inr (Or.inr (Or.inr (Or.inr ⟨rfl, rfl, rfl⟩))))), hm⟩
/-- the same, as the reference counts: all near, and at most one leaves -/
def dl (a u : Nat) : Nat := if a = u then 0 else 1
def mvR (nb : Nat → Nat) (kd a b c u v w : Nat) : Prop := (u ∈ nl nb a ∧ v ∈ nl nb b ∧ w ∈ nl nb c) ∧ (kd ≠ 1 ∨ dl a u + dl b v + dl c w < 2)
theorem MR_MV {nb : Nat → Nat} {kd a b c u v w : Nat} (ha : a ∈ nl nb a) (hb : b ∈ nl nb b) (hc : c ∈ nl nb c) : mvR nb kd a b c u v w ↔ mvS nb kd a b c u v w := by
  have d0 : ∀ z, dl z z = 0 := fun z => if_pos rfl
  have d1 : ∀ y z, dl y z ≤ 1 := fun y z => by unfold dl; split <;> omega
  have d2 : ∀ {y z}, ¬ y = z → dl y z = 1 := fun h => if_neg h
  unfold mvR mvS
  by_cases hk : kd = 1
  · constructor
    · rintro ⟨⟨p1, p2, p3⟩, q⟩
      rcases q with q | q
      · exact absurd hk q
      · refine Or.inl ⟨hk, ?_⟩
        by_cases e1 : a = u
        · by_cases e2 : b = v
          · exact Or.inr (Or.inr ⟨e1.symm, e2.symm, p3⟩)
          · by_cases e3 : c = w
            · exact Or.inr (Or.inl ⟨e1.symm, p2, e3.symm⟩)
            · rw [d2 e2, d2 e3] at q; omega
        · by_cases e2 : b = v
          · by_cases e3 : c = w
            · exact Or.inl ⟨p1, e2.symm, e3.symm⟩
            · rw [d2 e1, d2 e3] at q; omega
          · rw [d2 e1, d2 e2] at q; omega
    · rintro (⟨-, ⟨z1, rfl, rfl⟩ | ⟨rfl, z2, rfl⟩ | ⟨rfl, rfl, z3⟩⟩ | ⟨z, -⟩)
      · exact ⟨⟨z1, hb, hc⟩, Or.inr (by rw [d0, d0]; have := d1 a u; omega)⟩
      · exact ⟨⟨ha, z2, hc⟩, Or.inr (by rw [d0, d0]; have := d1 b v; omega)⟩
      · exact ⟨⟨ha, hb, z3⟩, Or.inr (by rw [d0, d0]; have := d1 c w; omega)⟩
      · exact absurd hk z
  · constructor
    · rintro ⟨z, -⟩; exact Or.inr ⟨hk, z⟩
    · rintro (⟨z, -⟩ | ⟨-, z⟩)
      · exact absurd z hk
      · exact ⟨z, Or.inl hk⟩
theorem cmsG_iff {nb : Nat → Nat} {h kd : Nat} {r s : Row} : ∀ (f o : Nat), cmsG nb h kd r s f o = true ↔ ∃ j, o ≤ j ∧ j < o + f ∧ (cmO nb h r s j).1 ≠ 0 ∧ (kd ≠ 1 ∨ (cmO nb h r s j).2 < 2)
  | 0, o => ⟨fun e => (by cases e), fun ⟨j, h1, h2, _⟩ => (by omega)⟩
  | f + 1, o => by
    rw [cmsG]
    split
    · rename_i e
      exact ⟨fun _ => ⟨o, Nat.le_refl _, by omega, e⟩, fun _ => rfl⟩
    · rename_i e
      rw [cmsG_iff f (o + 1)]
      constructor
      · rintro ⟨j, h1, h2, h3⟩; exact ⟨j, by omega, by omega, h3⟩
      · rintro ⟨j, h1, h2, h3⟩
        have : j ≠ o := fun z => e (z ▸ h3)
        exact ⟨j, by omega, by omega, h3⟩
def CO (nb : Nat → Nat) (h kd : Nat) (r s : Row) (o : Nat) : Prop := (cmO nb h r s o).1 ≠ 0 ∧ (kd ≠ 1 ∨ (cmO nb h r s o).2 < 2)
theorem cms_CO {nb : Nat → Nat} {h kd : Nat} {r s : Row} : cms nb h kd r s = true ↔ CO nb h kd r s 0 ∨ CO nb h kd r s 1 ∨ CO nb h kd r s 2 ∨ CO nb h kd r s 3 ∨ CO nb h kd r s 4 ∨ CO nb h kd r s 5 := by
  unfold cms
  rw [cmsG_iff]
  constructor
  · rintro ⟨j, -, h2, h3⟩
    rcases (show j = 0 ∨ j = 1 ∨ j = 2 ∨ j = 3 ∨ j = 4 ∨ j = 5 by omega) with rfl | rfl | rfl | rfl | rfl | rfl
    · exact Or.inl h3
    · exact Or.inr (Or.inl h3)
    · exact Or.inr (Or.inr (Or.inl h3))
    · exact Or.inr (Or.inr (Or.inr (Or.inl h3)))
    · exact Or.inr (Or.inr (Or.inr (Or.inr (Or.inl h3))))
    · exact Or.inr (Or.inr (Or.inr (Or.inr (Or.inr h3))))
  · rintro (z | z | z | z | z | z)
    · exact ⟨0, by omega, by omega, z⟩
    · exact ⟨1, by omega, by omega, z⟩
    · exact ⟨2, by omega, by omega, z⟩
    · exact ⟨3, by omega, by omega, z⟩
    · exact ⟨4, by omega, by omega, z⟩
    · exact ⟨5, by omega, by omega, z⟩
def nr (nb : Nat → Nat) (a u : Nat) : Prop := (nb a).testBit u = true
theorem cg_step {nb : Nat → Nat} {h : Nat} {r s : Row} {o k : Nat} {x : Nat × Nat} (ho : ordT (3 * o + k) < h) : ((cmG nb h r s o k x).1 ≠ 0 ↔ x.1 ≠ 0 ∧ nr nb (rk r k) (rk s (ordT (3 * o + k)))) ∧ (cmG nb h r s o k x).2 = x.2 + dl (rk r k) (rk s (ordT (3 * o + k))) := by
  unfold cmG nr dl
  rw [if_pos ho]
  refine ⟨?_, rfl⟩
  show (if _ then 1 else 0) ≠ 0 ↔ _
  split
  · rename_i e; exact ⟨fun _ => e, fun _ => by decide⟩
  · rename_i e; exact ⟨fun z => absurd rfl z, fun z => absurd z e⟩
theorem cg_stop {nb : Nat → Nat} {h : Nat} {r s : Row} {o k : Nat} {x : Nat × Nat} (hx : x.1 = 0 ∨ ¬ ordT (3 * o + k) < h) : (cmG nb h r s o k x).1 = 0 := by
  unfold cmG
  by_cases ho : ordT (3 * o + k) < h
  · rw [if_pos ho]
    show (if _ then 1 else 0) = 0
    rw [if_neg (fun z => z.1 (hx.elim id (fun q => absurd ho q)))]
  · rw [if_neg ho]
theorem CO_3 {nb : Nat → Nat} {kd : Nat} {r s : Row} {o : Nat} (ho : o < 6) : CO nb 3 kd r s o ↔ (nr nb r.1 (rk s (ordT (3 * o))) ∧ nr nb r.2.1 (rk s (ordT (3 * o + 1))) ∧ nr nb r.2.2 (rk s (ordT (3 * o + 2)))) ∧ (kd ≠ 1 ∨ dl r.1 (rk s (ordT (3 * o))) + dl r.2.1 (rk s (ordT (3 * o + 1))) + dl r.2.2 (rk s (ordT (3 * o + 2))) < 2) := by
  have e0 := cg_step (nb := nb) (h := 3) (r := r) (s := s) (o := o) (k := 0) (x := (1, 0)) (ordT_lt _ (by omega))
  have e1 := cg_step (nb := nb) (h := 3) (r := r) (s := s) (o := o) (k := 1) (x := cmG nb 3 r s o 0 (1, 0)) (ordT_lt _ (by omega))
  have e2 := cg_step (nb := nb) (h := 3) (r := r) (s := s) (o := o) (k := 2) (x := cmG nb 3 r s o 1 (cmG nb 3 r s o 0 (1, 0))) (ordT_lt _ (by omega))
  have ec : cmO nb 3 r s o = cmG nb 3 r s o 2 (cmG nb 3 r s o 1 (cmG nb 3 r s o 0 (1, 0))) := rfl
  unfold CO
  rw [ec, e2.1, e2.2, e1.1, e1.2, e0.1, e0.2]
  have z : (1, 0).1 ≠ 0 := by decide
  show ((((1 ≠ 0 ∧ _) ∧ _) ∧ _) ∧ (_ ∨ 0 + _ + _ + _ < 2)) ↔ _
  rw [Nat.zero_add]
  constructor
  · rintro ⟨⟨⟨⟨-, a⟩, b⟩, c⟩, d⟩; exact ⟨⟨a, b, c⟩, d⟩
  · rintro ⟨⟨a, b, c⟩, d⟩; exact ⟨⟨⟨⟨by decide, a⟩, b⟩, c⟩, d⟩
theorem CO_2 {nb : Nat → Nat} {kd : Nat} {r s : Row} {o : Nat} (ho : ordT (3 * o) < 2) (ho1 : ordT (3 * o + 1) < 2) : CO nb 2 kd r s o ↔ (nr nb r.1 (rk s (ordT (3 * o))) ∧ nr nb r.2.1 (rk s (ordT (3 * o + 1)))) ∧ (kd ≠ 1 ∨ dl r.1 (rk s (ordT (3 * o))) + dl r.2.1 (rk s (ordT (3 * o + 1))) < 2) := by
  have e0 := cg_step (nb := nb) (h := 2) (r := r) (s := s) (o := o) (k := 0) (x := (1, 0)) ho
  have e1 := cg_step (nb := nb) (h := 2) (r := r) (s := s) (o := o) (k := 1) (x := cmG nb 2 r s o 0 (1, 0)) ho1
  have ec : cmO nb 2 r s o = cmG nb 2 r s o 1 (cmG nb 2 r s o 0 (1, 0)) := rfl
  unfold CO
  rw [ec, e1.1, e1.2, e0.1, e0.2]
  show (((1 ≠ 0 ∧ _) ∧ _) ∧ (_ ∨ 0 + _ + _ < 2)) ↔ _
  rw [Nat.zero_add]
  constructor
  · rintro ⟨⟨⟨-, a⟩, b⟩, d⟩; exact ⟨⟨a, b⟩, d⟩
  · rintro ⟨⟨a, b⟩, d⟩; exact ⟨⟨⟨by decide, a⟩, b⟩, d⟩
theorem CO_2n {nb : Nat → Nat} {kd : Nat} {r s : Row} {o : Nat} (h : ¬ ordT (3 * o) < 2 ∨ ¬ ordT (3 * o + 1) < 2) : ¬ CO nb 2 kd r s o := by
  have ec : cmO nb 2 r s o = cmG nb 2 r s o 1 (cmG nb 2 r s o 0 (1, 0)) := rfl
  rintro ⟨z, -⟩
  rw [ec] at z
  refine z (cg_stop ?_)
  rcases h with h | h
  · exact Or.inl (cg_stop (Or.inr h))
  · exact Or.inr h
theorem CO_1 {nb : Nat → Nat} {kd : Nat} {r s : Row} {o : Nat} (ho : ordT (3 * o) < 1) : CO nb 1 kd r s o ↔ nr nb r.1 (rk s (ordT (3 * o))) := by
  have e0 := cg_step (nb := nb) (h := 1) (r := r) (s := s) (o := o) (k := 0) (x := (1, 0)) ho
  have ec : cmO nb 1 r s o = cmG nb 1 r s o 0 (1, 0) := rfl
  unfold CO
  rw [ec, e0.1, e0.2]
  have hd : dl (rk r 0) (rk s (ordT (3 * o + 0))) ≤ 1 := by unfold dl; split <;> omega
  show ((1 ≠ 0 ∧ _) ∧ (_ ∨ 0 + _ < 2)) ↔ _
  constructor
  · rintro ⟨⟨-, a⟩, -⟩; exact a
  · exact fun a => ⟨⟨by decide, a⟩, Or.inr (by omega)⟩
theorem CO_1n {nb : Nat → Nat} {kd : Nat} {r s : Row} {o : Nat} (h : ¬ ordT (3 * o) < 1) : ¬ CO nb 1 kd r s o := by
  have ec : cmO nb 1 r s o = cmG nb 1 r s o 0 (1, 0) := rfl
  rintro ⟨z, -⟩
  rw [ec] at z
  exact z (cg_stop (Or.inr h))
theorem nl_nr {nb : Nat → Nat} {a u : Nat} (ha : a < 9) (hu : u < 9) : u ∈ nl nb a ↔ nr nb a u := by
  unfold nl nr
  rw [if_neg (by omega), mems_mem]
  exact ⟨fun z => z.2, fun z => ⟨hu, z⟩⟩
theorem nl_9 {nb : Nat → Nat} {u : Nat} : u ∈ nl nb 9 ↔ u = 9 := by unfold nl; rw [if_pos rfl]; simp
theorem nl_not9 {nb : Nat → Nat} {a : Nat} (ha : a < 9) : ¬ 9 ∈ nl nb a := by
  unfold nl
  rw [if_neg (by omega), mems_mem]
  omega
theorem cms_STP {nb : Nat → Nat} {n h kd x y : Nat} {r s : Row} (hN : isNet n nb) (h1 : 1 ≤ h) (h3 : h ≤ 3) (hr : r ∈ rowsL h n) (hs : s ∈ rowsL h n) (hx : x < 219) (hy : y < 219) (ex : rlA x = rcT h r) (ey : rlA y = rcT h s) : cms nb h kd r s = true ↔ STP nb kd x y := by
  have hn := hN.1
  obtain ⟨r1, r2, r3, r4, r5⟩ := rowsL_ok n (by omega) h (by omega) r hr
  obtain ⟨s1, s2, s3, s4, s5⟩ := rowsL_ok n (by omega) h (by omega) s hs
  have sf : ∀ a, a < n → a ∈ nl nb a := fun a ha => (nl_nr (by omega) (by omega)).mpr (hN.2.2.1 a ha)
  have s9 : 9 ∈ nl nb 9 := nl_9.mpr rfl
  unfold STP
  rw [ex]
  show _ ↔ stS nb (kd = 1) (rcT h r).1 (rcT h r).2.1 (rcT h r).2.2 y
  have hl : (rcT h r).1 < 10 ∧ (rcT h r).2.1 < 10 ∧ (rcT h r).2.2 < 10 := by unfold rcT; refine ⟨by show r.1 < 10; omega, ?_, ?_⟩ <;> (show (if _ then _ else _) < 10; split <;> omega)
  rw [stS_X hl.1 hl.2.1 hl.2.2]
  have hso : (rlA y).1 ≤ (rlA y).2.1 ∧ (rlA y).2.1 ≤ (rlA y).2.2 := by
    rw [ey]
    unfold rcT
    refine ⟨?_, ?_⟩
    · show s.1 ≤ if _ then _ else _; split <;> omega
    · show (if _ then _ else _) ≤ if _ then _ else _; split <;> split <;> omega
  rw [stX_MV hy hso.1 hso.2, cms_CO, ey]
  rcases (show h = 1 ∨ h = 2 ∨ h = 3 by omega) with rfl | rfl | rfl
  · have e1 : rcT 1 r = (r.1, 9, 9) := rfl
    have e2 : rcT 1 s = (s.1, 9, 9) := rfl
    rw [e1, e2]
    have k0 : CO nb 1 kd r s 0 ↔ nr nb r.1 s.1 := CO_1 (by decide)
    have k1 : CO nb 1 kd r s 1 ↔ nr nb r.1 s.1 := CO_1 (by decide)
    have k2 : ¬ CO nb 1 kd r s 2 := CO_1n (by decide)
    have k3 : ¬ CO nb 1 kd r s 3 := CO_1n (by decide)
    have k4 : ¬ CO nb 1 kd r s 4 := CO_1n (by decide)
    have k5 : ¬ CO nb 1 kd r s 5 := CO_1n (by decide)
    have m0 : mvS nb kd r.1 9 9 s.1 9 9 ↔ nr nb r.1 s.1 := by
      rw [← MR_MV (sf _ r1) s9 s9, mvR, nl_nr (by omega) (by omega), nl_9]
      have : dl r.1 s.1 ≤ 1 := by unfold dl; split <;> omega
      have d9 : dl 9 9 = 0 := rfl
      constructor
      · exact fun z => z.1.1
      · exact fun z => ⟨⟨z, rfl, rfl⟩, Or.inr (by omega)⟩
    have m1 : ¬ mvS nb kd r.1 9 9 9 s.1 9 := by
      rw [← MR_MV (sf _ r1) s9 s9]
      rintro ⟨⟨z, -⟩, -⟩
      exact nl_not9 (by omega) z
    have m2 : ¬ mvS nb kd r.1 9 9 9 9 s.1 := by
      rw [← MR_MV (sf _ r1) s9 s9]
      rintro ⟨⟨z, -⟩, -⟩
      exact nl_not9 (by omega) z
    simp only [k0, k1, k2, k3, k4, k5, m0, m1, m2, or_false, false_or]
  · have e1 : rcT 2 r = (r.1, r.2.1, 9) := rfl
    have e2 : rcT 2 s = (s.1, s.2.1, 9) := rfl
    rw [e1, e2]
    have k0 : CO nb 2 kd r s 0 ↔ _ := CO_2 (by decide) (by decide)
    have k2 : CO nb 2 kd r s 2 ↔ _ := CO_2 (by decide) (by decide)
    have k1 : ¬ CO nb 2 kd r s 1 := CO_2n (by decide)
    have k3 : ¬ CO nb 2 kd r s 3 := CO_2n (by decide)
    have k4 : ¬ CO nb 2 kd r s 4 := CO_2n (by decide)
    have k5 : ¬ CO nb 2 kd r s 5 := CO_2n (by decide)
    have mm : ∀ u v, u < n → v < n → (mvS nb kd r.1 r.2.1 9 u v 9 ↔ (nr nb r.1 u ∧ nr nb r.2.1 v) ∧ (kd ≠ 1 ∨ dl r.1 u + dl r.2.1 v < 2)) := by
      intro u v hu hv
      rw [← MR_MV (sf _ r1) (sf _ r2) s9, mvR, nl_nr (by omega) (by omega), nl_nr (by omega) (by omega), nl_9]
      have d9 : dl 9 9 = 0 := rfl
      rw [d9, Nat.add_zero]
      constructor
      · exact fun z => ⟨⟨z.1.1, z.1.2.1⟩, z.2⟩
      · exact fun z => ⟨⟨z.1.1, z.1.2, rfl⟩, z.2⟩
    have m0 := mm s.1 s.2.1 s1 s2
    have m2 := mm s.2.1 s.1 s2 s1
    have mu : ∀ v w, ¬ mvS nb kd r.1 r.2.1 9 9 v w := by
      intro v w
      rw [← MR_MV (sf _ r1) (sf _ r2) s9]
      rintro ⟨⟨z, -⟩, -⟩
      exact nl_not9 (by omega) z
    have mv : ∀ u w, ¬ mvS nb kd r.1 r.2.1 9 u 9 w := by
      intro u w
      rw [← MR_MV (sf _ r1) (sf _ r2) s9]
      rintro ⟨⟨-, z, -⟩, -⟩
      exact nl_not9 (by omega) z
    simp only [k1, k3, k4, k5, mu, mv, or_false, false_or, m0, m2, k0, k2]
    exact Iff.rfl
  · have e1 : rcT 3 r = (r.1, r.2.1, r.2.2) := rfl
    have e2 : rcT 3 s = (s.1, s.2.1, s.2.2) := rfl
    rw [e1, e2]
    have k : ∀ o, o < 6 → (CO nb 3 kd r s o ↔ _) := fun o ho => CO_3 ho
    have mm : ∀ u v w, u < n → v < n → w < n → (mvS nb kd r.1 r.2.1 r.2.2 u v w ↔ (nr nb r.1 u ∧ nr nb r.2.1 v ∧ nr nb r.2.2 w) ∧ (kd ≠ 1 ∨ dl r.1 u + dl r.2.1 v + dl r.2.2 w < 2)) := by
      intro u v w hu hv hw
      rw [← MR_MV (sf _ r1) (sf _ r2) (sf _ r3), mvR, nl_nr (by omega) (by omega), nl_nr (by omega) (by omega), nl_nr (by omega) (by omega)]
    rw [k 0 (by decide), k 1 (by decide), k 2 (by decide), k 3 (by decide), k 4 (by decide), k 5 (by decide), mm _ _ _ s1 s2 s3, mm _ _ _ s1 s3 s2, mm _ _ _ s2 s1 s3, mm _ _ _ s2 s3 s1, mm _ _ _ s3 s1 s2, mm _ _ _ s3 s2 s1]
    exact Iff.rfl
