/-! the sweep's start, and what the reference finds -/
section Sw3
variable {nb : Nat → Nat} {n h : Nat}
def IQ (n h x : Nat) (Q : BQ) : Prop := QOk Q ∧ Q.1.Pairwise (fun a b => rwO h a < rwO h b) ∧ (∀ a, a ∈ Q.1 → rwO h a < x ∧ ON n (rwO h a) ∧ a % 512 = dif (2 ^ n - 1) (sdC (rwO h a))) ∧ ∀ y, frN h ≤ y → y < x → ON n y → (y - frN h) * 512 + dif (2 ^ n - 1) (sdC y) ∈ Q.1
theorem IQ_run (hn : n ≤ 9) (h1 : 1 ≤ h) (h2 : h ≤ 2) : ∀ (k x : Nat) (Q : BQ), x + k = frN (h + 1) → frN h ≤ x → IQ n h x Q → IQ n h (frN (h + 1)) (fl (iniG n (frN h)) k x Q) := by
  intro k
  induction k with
  | zero => intro x Q hx _ hI; have : x = frN (h + 1) := by omega
            subst this; exact hI
  | succ k ih =>
    intro x Q hx hx1 ⟨i1, i2, i3, i4⟩
    show IQ n h (frN (h + 1)) (fl (iniG n (frN h)) k (x + 1) (iniG n (frN h) x Q))
    refine ih (x + 1) _ (by omega) (by omega) ?_
    unfold iniG
    by_cases hon : dif (sdC x) (2 ^ n - 1) = 0
    · rw [if_pos hon]
      have h45 : frN (h + 1) ≤ frN h + 45 := by rcases (show h = 1 ∨ h = 2 by omega) with rfl | rfl <;> decide
      have hpn : 2 ^ n ≤ 512 := pow_le9 hn
      have hp0 := pow_pos9 n
      have hdl : dif (2 ^ n - 1) (sdC x) < 512 := dif_lt9 (by omega)
      generalize ha : (x - frN h) * 512 + dif (2 ^ n - 1) (sdC x) = a
      have har : rwO h a = x := by unfold rwO; omega
      have ham : a % 512 = dif (2 ^ n - 1) (sdC x) := by omega
      have hal : a < 23040 := by omega
      have hna : a ∉ Q.1 := fun z => by have := (i3 a z).1; omega
      have hq : Q.2 a = none := Classical.byContradiction fun z => hna ((i1.1 a).mpr ⟨hal, z⟩)
      have he := i1.enq (v := none) hal (fun x hx => by cases hx)
      have ee : enqF Q a none = (Q.1 ++ [a], va_up Q.2 a (some none)) := if_pos hq
      rw [ee] at he ⊢
      refine ⟨he, ?_, fun b hb => ?_, fun y hy hy2 hy3 => ?_⟩
      · show List.Pairwise _ (Q.1 ++ [a])
        rw [List.pairwise_append]
        refine ⟨i2, by simp, fun b hb c hc => ?_⟩
        have hc : c = a := by simpa using hc
        rw [hc, har]
        exact (i3 b hb).1
      · rcases List.mem_append.mp hb with hb | hb
        · obtain ⟨m1, m2⟩ := i3 b hb
          exact ⟨by omega, m2⟩
        · have hb : b = a := by simpa using hb
          subst hb
          rw [har]
          exact ⟨by omega, hon, ham⟩
      · show _ ∈ Q.1 ++ [a]
        by_cases e : y = x
        · subst e; rw [ha]; simp
        · exact List.mem_append.mpr (Or.inl (i4 y hy (by omega) hy3))
    · rw [if_neg hon]
      refine ⟨i1, i2, fun b hb => ?_, fun y hy hy2 hy3 => ?_⟩
      · obtain ⟨m1, m2⟩ := i3 b hb
        exact ⟨by omega, m2⟩
      · by_cases e : y = x
        · subst e; exact absurd hy3 hon
        · exact i4 y hy (by omega) hy3
theorem IQ_0 (hn : n ≤ 9) (h1 : 1 ≤ h) (h2 : h ≤ 2) : IQ n h (frN (h + 1)) (iniQ n (frN h) (frN (h + 1))) := by
  have := (frN_le h h1 (by omega)).2.2
  refine IQ_run hn h1 h2 _ _ _ (by omega) (Nat.le_refl _) ⟨Q0_ok, List.Pairwise.nil, fun a ha => (by cases ha), fun y hy hy2 => by omega⟩
theorem JS_0 (hN : isNetZ n nb) (h1 : 1 ≤ h) (h2 : h ≤ 2) (h0 : ∀ q, ¬ Lit nb n h 0 q) : JS nb n h 1 0 (iniQ n (frN h) (frN (h + 1))).1.length (iniQ n (frN h) (frN (h + 1))) := by
  obtain ⟨i1, i2, i3, i4⟩ := IQ_0 hN.1.1 h1 h2
  generalize iniQ n (frN h) (frN (h + 1)) = Q at i1 i2 i3 i4
  have hmn : ∀ j, j < Q.1.length → mnP nb n h 0 (atQ Q j) (fun _ => rwO h (atQ Q j)) := fun j hj => by
    obtain ⟨m1, m2, m3⟩ := i3 _ (getD_mem (l := Q.1) (i := j) hj)
    refine ⟨⟨⟨Nat.le_add_right _ _, m1, m2⟩, fun i hi => by omega⟩, ?_, fun q2 hq2 hs => ?_⟩
    · show (rwO h (atQ Q j) - frN h) * 512 + dif (2 ^ n - 1) (sdC (rwO h (atQ Q j))) = _
      rw [← m3]
      unfold rwO
      show (frN h + atQ Q j / 512 - frN h) * 512 + atQ Q j % 512 = atQ Q j
      omega
    · show rwO h (atQ Q j) ≤ q2 0
      rw [← hs, (stt_row hN hq2.1.1).1]
      exact Nat.le_refl _
  have hcd : ∀ j q, j < Q.1.length → mnP nb n h 0 (atQ Q j) q → cdq q 0 = rwO h (atQ Q j) := fun j q hj hm => by
    rw [← hm.2.1, (stt_row hN hm.1.1.1).1]
    rfl
  refine ⟨0, ⟨⟨Nat.le_refl _, Nat.le_refl _, Nat.zero_le _, Nat.le_refl _, i1⟩, fun m q hm => ?_, fun j z _ hj => by omega⟩, ⟨fun j _ hj => ?_, fun j j2 q q2 _ hj hj2 hm hm2 => ?_, fun m q hm hp => ?_, fun j hj => by omega⟩, ⟨fun _ => 0, fun j hj hj2 => by omega, fun j j2 hj hj2 hj3 => by omega⟩, fun p a hp hp2 => by omega⟩
  · have : m = 0 := by omega
    subst this; exact h0 q
  · have := ((i1.1 _).mp (getD_mem (l := Q.1) (i := j) hj)).1
    refine ⟨fun _ => atQ Q j, _, ⟨rfl, fun i hi => by omega, fun i _ => this⟩, hmn j hj, fun i hi => ?_⟩
    have : i = 0 := by omega
    subst this; exact (hmn j hj).2.1
  · show cdq q 0 < cdq q2 0
    rw [hcd j q (by omega) hm, hcd j2 q2 hj2 hm2]
    have hj1 : j < Q.1.length := by omega
    have := List.pairwise_iff_getElem.mp i2 j j2 hj1 hj2 hj
    unfold atQ
    rw [List.getD_eq_getElem?_getD, List.getElem?_eq_getElem hj1, List.getD_eq_getElem?_getD, List.getElem?_eq_getElem hj2]
    exact this
  · have : m = 0 := by omega
    subst this
    exact mem_at (i4 (q 0) hp.1.1 hp.1.2.1 hp.1.2.2)
theorem JS_end : sjE (JS nb n h) (∀ m q, m < 61 → ¬ Lit nb n h m q) := by
  rintro nx e Q ⟨e0, ⟨-, a, -⟩, -⟩
  exact a
/-! ways and the reference's rounds -/
def drF (nb : Nat → Nat) (d : Nat) (q : Nat → Nat) : Nat → Nat
  | 0 => d
  | m + 1 => nxd nb (drF nb d q m) (q (m + 1))
theorem drF_drk (q : Nat → Nat) : ∀ m, drk nb n q m = drF nb (dif (2 ^ n - 1) (sdC (q 0))) q m
  | 0 => rfl
  | m + 1 => by rw [drk, drF, drF_drk q m]
theorem drF_s (d : Nat) (q : Nat → Nat) : ∀ m, drF nb d q (m + 1) = drF nb (nxd nb d (q 1)) (fun i => q (i + 1)) m
  | 0 => rfl
  | m + 1 => by rw [drF, drF_s d q m]; rfl
theorem drF_cg {d : Nat} {q q2 : Nat → Nat} : ∀ {m : Nat}, (∀ i, i ≤ m → q i = q2 i) → drF nb d q m = drF nb d q2 m
  | 0, _ => rfl
  | m + 1, e => by rw [drF, drF, e (m + 1) (Nat.le_refl _), drF_cg (m := m) (fun i hi => e i (by omega))]
theorem drk_add (q : Nat → Nat) (a : Nat) : ∀ b, drk nb n q (a + b) = drF nb (drk nb n q a) (fun i => q (a + i)) b
  | 0 => rfl
  | b + 1 => by rw [drF, ← drk_add q a b]; rfl
theorem dkH_nxd (hN : isNetZ n nb) (h1 : 1 ≤ h) (h2 : h ≤ 2) {d j : Nat} (hj : j < (rowsL h n).length) : dkH nb n h d j = nxd nb d (xi h n j) := by
  show dif (nall nb n (dif d (stH h n j))) (stH h n j) = _
  rw [show stH h n j = sdC (xi h n j) from xi_std h1 (by omega) hN.1.1 hj, ← nall9_eq hN]
  rfl
theorem d0H_sd (hN : isNetZ n nb) (h1 : 1 ≤ h) (h2 : h ≤ 2) {j : Nat} (hj : j < (rowsL h n).length) : d0H n h j = dif (2 ^ n - 1) (sdC (xi h n j)) := by
  show dif (2 ^ n - 1) (stH h n j) = _
  rw [show stH h n j = sdC (xi h n j) from xi_std h1 (by omega) hN.1.1 hj]
theorem swH_way (hN : isNetZ n nb) (h1 : 1 ≤ h) (h2 : h ≤ 2) : ∀ (k i d : Nat), i < (rowsL h n).length → (swH nb n h k i d ↔ ∃ q : Nat → Nat, q 0 = xi h n i ∧ (∀ r, r < k → STP nb 0 (q r) (q (r + 1))) ∧ drF nb d q k = 0) := by
  intro k
  induction k with
  | zero =>
    intro i d hi
    exact ⟨fun z => ⟨fun _ => xi h n i, rfl, fun r hr => by omega, z⟩, fun ⟨q, _, _, z⟩ => z⟩
  | succ k ih =>
    intro i d hi
    constructor
    · rintro ⟨j, hj, hc, hw⟩
      obtain ⟨q, q1, q2, q3⟩ := (ih j _ hj).mp hw
      refine ⟨fun r => if r = 0 then xi h n i else q (r - 1), rfl, fun r hr => ?_, ?_⟩
      · dsimp only
        by_cases e : r = 0
        · subst e
          rw [if_pos rfl, if_neg (by omega)]
          show STP nb 0 _ (q 0)
          rw [q1]
          exact (xi_cg h1 (by omega) hN.1.1 hN.1 hi hj).mp hc
        · rw [if_neg e, if_neg (by omega)]
          have := q2 (r - 1) (by omega)
          rw [show r - 1 + 1 = r by omega] at this
          exact this
      · rw [drF_s]
        show drF nb (nxd nb d (q 0)) q k = 0
        rw [q1]
        have q3 : drF nb (dkH nb n h d j) q k = 0 := q3
        rw [dkH_nxd hN h1 h2 hj] at q3
        exact q3
    · rintro ⟨q, q1, q2, q3⟩
      have hx := xi_mem h1 (by omega) hN.1.1 hi
      have hs := q2 0 (by omega)
      rw [q1] at hs
      obtain ⟨y1, y2, y3⟩ := STP_on hN.1 h1 (by omega) hx.1 hx.2.1 hx.2.2 hs
      obtain ⟨j, hj, ej⟩ := xi_surj h1 (by omega) hN.1.1 y1 y2 y3
      refine ⟨j, hj, (xi_cg h1 (by omega) hN.1.1 hN.1 hi hj).mpr (by rw [ej]; exact hs), (ih j _ hj).mpr ⟨fun r => q (r + 1), ej.symm, fun r hr => q2 (r + 1) (by omega), ?_⟩⟩
      show drF nb (dkH nb n h d j) _ k = 0
      rw [dkH_nxd hN h1 h2 hj, ej, ← drF_s]
      exact q3
theorem swH_Lit (hN : isNetZ n nb) (h1 : 1 ≤ h) (h2 : h ≤ 2) (k : Nat) : (∃ i, i < (rowsL h n).length ∧ swH nb n h k i (d0H n h i)) ↔ ∃ q, Lit nb n h k q := by
  constructor
  · rintro ⟨i, hi, hw⟩
    obtain ⟨q, q1, q2, q3⟩ := (swH_way hN h1 h2 k i _ hi).mp hw
    have hx := xi_mem h1 (by omega) hN.1.1 hi
    rw [d0H_sd hN h1 h2 hi, ← q1] at q3
    exact ⟨q, ⟨by rw [q1]; exact hx, q2⟩, by rw [drF_drk]; exact q3⟩
  · rintro ⟨q, ⟨p1, p2⟩, p3⟩
    obtain ⟨i, hi, ei⟩ := xi_surj h1 (by omega) hN.1.1 p1.1 p1.2.1 p1.2.2
    refine ⟨i, hi, (swH_way hN h1 h2 k i _ hi).mpr ⟨q, ei.symm, p2, ?_⟩⟩
    rw [d0H_sd hN h1 h2 hi, ei, ← drF_drk]
    exact p3
theorem swK_L1 (hN : isNetZ n nb) (h1 : 1 ≤ h) (h2 : h ≤ 2) {k : Nat} (hk : k ≤ 60) {q : Nat → Nat} (hl : Lit nb n h k q) (hm : ∀ m q, m < k → ¬ Lit nb n h m q) : swK nb n h = some k := by
  obtain ⟨i, hi, hw⟩ := (swH_Lit hN h1 h2 k).mpr ⟨q, hl⟩
  refine swK_some hk hi hw (fun m hmk i hi hw => ?_)
  obtain ⟨q2, hq2⟩ := (swH_Lit hN h1 h2 m).mp ⟨i, hi, hw⟩
  exact hm m q2 hmk hq2
theorem swK_L0 (hN : isNetZ n nb) (h1 : 1 ≤ h) (h2 : h ≤ 2) (hm : ∀ m q, m < 61 → ¬ Lit nb n h m q) : swK nb n h = none := by
  refine swK_none (fun m hmk i hi hw => ?_)
  obtain ⟨q2, hq2⟩ := (swH_Lit hN h1 h2 m).mp ⟨i, hi, hw⟩
  exact hm m q2 (by omega) hq2
theorem cdq_lt {q q2 : Nat → Nat} {r : Nat} (he : ∀ i, i < r → q i = q2 i) (hl : q2 r < q r) : ∀ {k : Nat}, r ≤ k → (∀ i, i ≤ k → q2 i < 219) → cdq q2 k < cdq q k
  | 0, hk, _ => by have : r = 0 := by omega
                   subst this; exact hl
  | k + 1, hk, hb => by
    show cdq q2 k * 219 + q2 (k + 1) < cdq q k * 219 + q (k + 1)
    by_cases e : r = k + 1
    · subst e
      rw [cdq_cg (q := q) (q2 := q2) (fun i hi => he i (by omega))]
      omega
    · have := cdq_lt he hl (k := k) (by omega) (fun i hi => hb i (by omega))
      have := hb (k + 1) (Nat.le_refl _)
      omega
/-- the first of the shortest ways is the reference's -/
theorem swY_L (hN : isNetZ n nb) (h1 : 1 ≤ h) (h2 : h ≤ 2) {k : Nat} {q : Nat → Nat} (hl : Lit nb n h k q) (hm : ∀ q2, Lit nb n h k q2 → cdq q k ≤ cdq q2 k) : ∀ r, r ≤ k → (swY nb n h k r).1 < (rowsL h n).length ∧ xi h n (swY nb n h k r).1 = q r ∧ (swY nb n h k r).2 = drk nb n q r := by
  have hlt : ∀ q2 r, r ≤ k → Lit nb n h k q2 → (∀ i, i < r → q i = q2 i) → q2 r < q r → False := fun q2 r hr hq2 he hlt => by
    have := cdq_lt he hlt hr (fun i hi => by
      have := (PV_on hN h1 h2 hq2.1 i hi).2.1
      have := (frN_le h h1 (by omega)).1
      omega)
    have := hm q2 hq2
    omega
  intro r
  induction r with
  | zero =>
    intro _
    obtain ⟨x1, x2, x3⟩ := hl.1.1
    obtain ⟨i, hi, ei⟩ := xi_surj h1 (by omega) hN.1.1 x1 x2 x3
    have hf : ftP (fun i => swH nb n h k i (d0H n h i)) (rowsL h n).length 0 = i := by
      refine ftP_eq (Nat.zero_le _) (by omega) ?_ (fun y _ hy hw => ?_)
      · refine (swH_way hN h1 h2 k i _ hi).mpr ⟨q, ei.symm, hl.1.2, ?_⟩
        rw [d0H_sd hN h1 h2 hi, ei, ← drF_drk]
        exact hl.2
      · obtain ⟨q2, z1, z2, z3⟩ := (swH_way hN h1 h2 k y _ (by omega)).mp hw
        rw [d0H_sd hN h1 h2 (by omega), ← z1] at z3
        refine hlt q2 0 (Nat.zero_le _) ⟨⟨by rw [z1]; exact xi_mem h1 (by omega) hN.1.1 (by omega), z2⟩, by rw [drF_drk]; exact z3⟩ (fun i hi => by omega) ?_
        rw [z1, ← ei]
        exact xi_inc h1 (by omega) hN.1.1 hy hi
    have e1 : (swY nb n h k 0).1 = i := hf
    have e2 : (swY nb n h k 0).2 = d0H n h i := by show d0H n h (ftP _ _ _) = _; rw [hf]
    rw [e1, e2]
    exact ⟨hi, ei, by rw [d0H_sd hN h1 h2 hi, ei]; rfl⟩
  | succ r ih =>
    intro hr
    obtain ⟨r1, r2, r3⟩ := ih (by omega)
    have hon := PV_on hN h1 h2 hl.1 (r + 1) hr
    obtain ⟨i, hi, ei⟩ := xi_surj h1 (by omega) hN.1.1 hon.1 hon.2.1 hon.2.2
    have hf : ftP (fun j => cgH nb n h (swY nb n h k r).1 j = true ∧ swH nb n h (k - (r + 1)) j (dkH nb n h (swY nb n h k r).2 j)) (rowsL h n).length 0 = i := by
      refine ftP_eq (Nat.zero_le _) (by omega) ⟨(xi_cg h1 (by omega) hN.1.1 hN.1 r1 hi).mpr (by rw [r2, ei]; exact hl.1.2 r (by omega)), ?_⟩ (fun y _ hy hw => ?_)
      · refine (swH_way hN h1 h2 _ i _ hi).mpr ⟨fun j => q (r + 1 + j), ei.symm, fun j hj => hl.1.2 (r + 1 + j) (by omega), ?_⟩
        rw [dkH_nxd hN h1 h2 hi, r3, ei]
        have := drk_add (nb := nb) (n := n) q (r + 1) (k - (r + 1))
        rw [show r + 1 + (k - (r + 1)) = k by omega, hl.2] at this
        exact this.symm
      · obtain ⟨w1, w2⟩ := hw
        obtain ⟨q3, z1, z2, z3⟩ := (swH_way hN h1 h2 _ y _ (by omega)).mp w2
        rw [dkH_nxd hN h1 h2 (by omega), r3, ← z1] at z3
        have w1 := (xi_cg h1 (by omega) hN.1.1 hN.1 r1 (by omega)).mp w1
        rw [r2, ← z1] at w1
        have g1 : ∀ i, i ≤ r → (fun i => if i ≤ r then q i else q3 (i - (r + 1))) i = q i := fun i hi => if_pos hi
        have g2 : ∀ i, (fun i => if i ≤ r then q i else q3 (i - (r + 1))) (r + 1 + i) = q3 i := fun i => by
          show (if r + 1 + i ≤ r then _ else _) = _
          rw [if_neg (by omega), show r + 1 + i - (r + 1) = i by omega]
        generalize (fun i => if i ≤ r then q i else q3 (i - (r + 1))) = q2 at g1 g2
        have g3 : q2 (r + 1) = q3 0 := g2 0
        refine hlt q2 (r + 1) hr ⟨⟨by rw [g1 0 (Nat.zero_le _)]; exact hl.1.1, fun j hj => ?_⟩, ?_⟩ (fun j hj => (g1 j (by omega)).symm) ?_
        · rcases Nat.lt_trichotomy j r with e | e | e
          · rw [g1 j (by omega), g1 (j + 1) (by omega)]; exact hl.1.2 j (by omega)
          · subst e; rw [g1 j (by omega), g3]; exact w1
          · obtain ⟨t, rfl⟩ : ∃ t, j = r + 1 + t := ⟨j - (r + 1), by omega⟩
            rw [g2 t, show r + 1 + t + 1 = r + 1 + (t + 1) from rfl, g2 (t + 1)]
            exact z2 t (by omega)
        · have e1 := drk_add (nb := nb) (n := n) q2 (r + 1) (k - (r + 1))
          rw [show r + 1 + (k - (r + 1)) = k by omega] at e1
          rw [e1, show (fun i => q2 (r + 1 + i)) = q3 from funext g2, drk, g3, drk_cg (q := q2) (q2 := q) g1]
          exact z3
        · rw [g3, z1, ← ei]
          exact xi_inc h1 (by omega) hN.1.1 hy hi
    have e1 : (swY nb n h k (r + 1)).1 = i := hf
    have e2 : (swY nb n h k (r + 1)).2 = dkH nb n h (swY nb n h k r).2 i := by show dkH nb n h _ (ftP _ _ _) = _; rw [hf]
    rw [e1, e2]
    exact ⟨hi, ei, by rw [dkH_nxd hN h1 h2 hi, ei, r3]; rfl⟩
end Sw3
