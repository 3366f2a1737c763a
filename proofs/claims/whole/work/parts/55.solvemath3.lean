/-! the numbers that the class keeps as it solves -/
def HP (nb : Nat → Nat) (kd : Nat) : Nat → Nat → Nat → Prop
  | 0, _, _ => False
  | t + 1, x, p => HHf nb kd (DD nb kd t) x p
/-- after t rounds -/
def SolI (nb : Nat → Nat) (n kd h : Nat) : SvI := fun t w hl wo => ∀ x, frN h ≤ x → x < frN (h + 1) → (ON n x → (∀ p, (w x).testBit p = true ↔ p < n ∧ DD nb kd t x p) ∧ (∀ p, (hl x).testBit p = true ↔ p < n ∧ HP nb kd t x p) ∧ ∀ p, p < n → ∀ v, wo ((x - frN h) * 9 + p) = some v ↔ v ≤ t ∧ DD nb kd v x p ∧ ∀ u, u < v → ¬ DD nb kd u x p) ∧ (¬ ON n x → w x = 0 ∧ hl x = 0) ∧ ∀ p, p < 9 → (¬ ON n x ∨ n ≤ p) → wo ((x - frN h) * 9 + p) = none
/-- at the end -/
def FinI (nb : Nat → Nat) (n kd h : Nat) (w : Nat → Nat) (wo : Nat → Option Nat) : Prop := ∀ x, frN h ≤ x → x < frN (h + 1) → (ON n x → (∀ p, (w x).testBit p = true ↔ p < n ∧ ∃ t, DD nb kd t x p) ∧ ∀ p, p < n → ∀ v, wo ((x - frN h) * 9 + p) = some v ↔ DD nb kd v x p ∧ ∀ u, u < v → ¬ DD nb kd u x p) ∧ ∀ p, p < 9 → ∀ v, wo ((x - frN h) * 9 + p) = some v → v ≤ 2000
section Sol
variable {nb : Nat → Nat} {n kd h : Nat}
theorem hd_bits (kd st w : Nat) : ∀ (k i b p : Nat), (fl (hdG nb kd st w) k i b).testBit p = true ↔ b.testBit p = true ∨ (i ≤ p ∧ p < i + k ∧ w.testBit p = true ∧ dif (rch nb kd st p) w = 0)
  | 0, i, b, p => ⟨fun z => Or.inl z, fun z => z.elim id (fun q => (by omega))⟩
  | k + 1, i, b, p => by
    show (fl (hdG nb kd st w) k (i + 1) (hdG nb kd st w i b)).testBit p = true ↔ _
    rw [hd_bits kd st w k (i + 1)]
    unfold hdG
    by_cases hc : w.testBit i = true ∧ dif (rch nb kd st i) w = 0
    · rw [if_pos hc, Nat.testBit_or, Bool.or_eq_true, tb_pow]
      constructor
      · rintro ((z | z) | ⟨z1, z2, z3⟩)
        · exact Or.inl z
        · subst z; exact Or.inr ⟨Nat.le_refl _, by omega, hc⟩
        · exact Or.inr ⟨by omega, by omega, z3⟩
      · rintro (z | ⟨z1, z2, z3⟩)
        · exact Or.inl (Or.inl z)
        · by_cases e : i = p
          · exact Or.inl (Or.inr e)
          · exact Or.inr ⟨by omega, by omega, z3⟩
    · rw [if_neg hc]
      constructor
      · rintro (z | ⟨z1, z2, z3⟩)
        · exact Or.inl z
        · exact Or.inr ⟨by omega, by omega, z3⟩
      · rintro (z | ⟨z1, z2, z3⟩)
        · exact Or.inl z
        · by_cases e : i = p
          · subst e; exact absurd z3 hc
          · exact Or.inr ⟨by omega, by omega, z3⟩
theorem on_lt {x p : Nat} (hon : ON n x) (hb : (sdC x).testBit p = true) : p < n := by
  have := dif_0.mp hon p hb
  rwa [Nat.testBit_two_pow_sub_one, decide_eq_true_iff] at this
theorem HH_DD (hN : isNetZ n nb) {t x p : Nat} (hp : p < n) (hh : HHf nb kd (DD nb kd t) x p) : DD nb kd t x p := by
  rcases hh with z | z
  · exact DD_mono (Nat.zero_le _) z
  · exact z p (rch_net hN hp).1
theorem HP_HH {t x p : Nat} (hh : HP nb kd t x p) : HHf nb kd (DD nb kd t) x p := by
  cases t with
  | zero => exact absurd hh (fun z => z)
  | succ t => exact HH_mono (fun q _ z => Or.inl z) hh
theorem hdF_HH (hN : isNetZ n nb) {t x : Nat} {w : Nat → Nat} (hon : ON n x) (hw : ∀ p, (w x).testBit p = true ↔ p < n ∧ DD nb kd t x p) (p : Nat) : (hdF nb n kd (sdC x) (w x)).testBit p = true ↔ p < n ∧ HHf nb kd (DD nb kd t) x p := by
  unfold hdF
  rw [hd_bits]
  constructor
  · rintro (z | ⟨-, z2, z3, z4⟩)
    · exact ⟨on_lt hon z, Or.inl z⟩
    · exact ⟨by omega, Or.inr fun q hq => ((hw q).mp (dif_0.mp z4 q hq)).2⟩
  · rintro ⟨hp, z | z⟩
    · exact Or.inl z
    · refine Or.inr ⟨Nat.zero_le _, by omega, (hw p).mpr ⟨hp, HH_DD hN hp (Or.inr z)⟩, dif_0.mpr fun q hq => (hw q).mpr ⟨bit_lt (rch_net hN hp).2 hq, z q hq⟩⟩
theorem frs_bits (hN : isNetZ n nb) {t x : Nat} {w hl : Nat → Nat} (hon : ON n x) (hw : ∀ p, (w x).testBit p = true ↔ p < n ∧ DD nb kd t x p) (hl1 : ∀ p, (hl x).testBit p = true ↔ p < n ∧ HP nb kd t x p) (p : Nat) : (frs nb n kd w hl x).testBit p = true ↔ p < n ∧ HHf nb kd (DD nb kd t) x p ∧ ¬ HP nb kd t x p := by
  unfold frs
  by_cases e : w x = hl x
  · rw [if_pos e, Nat.zero_testBit]
    refine ⟨fun z => (by cases z), fun ⟨z1, z2, z3⟩ => ?_⟩
    have := (hw p).mpr ⟨z1, HH_DD hN z1 z2⟩
    rw [e] at this
    exact absurd ((hl1 p).mp this).2 z3
  · rw [if_neg e, dif_bit, Bool.and_eq_true, hdF_HH hN hon hw]
    constructor
    · rintro ⟨⟨z1, z2⟩, z3⟩
      refine ⟨z1, z2, fun q => ?_⟩
      rw [(hl1 p).mpr ⟨z1, q⟩] at z3
      cases z3
    · rintro ⟨z1, z2, z3⟩
      refine ⟨⟨z1, z2⟩, ?_⟩
      cases q : (hl x).testBit p with
      | false => rfl
      | true => exact absurd ((hl1 p).mp q).2 z3
theorem frs_off {w hl : Nat → Nat} {x : Nat} (h0 : w x = 0 ∧ hl x = 0) : frs nb n kd w hl x = 0 := by unfold frs; rw [h0.1, h0.2, if_pos rfl]
theorem zero_of {a : Nat} (h : ∀ p, ¬ a.testBit p = true) : a = 0 := by
  apply Nat.eq_of_testBit_eq
  intro p
  rw [Nat.zero_testBit]
  cases e : a.testBit p with
  | false => rfl
  | true => exact absurd e (h p)
theorem SolI_gd (hN : isNetZ n nb) (h1 : 1 ≤ h) (h3 : h ≤ 3) : gdI nb n kd (frN h) (frN (h + 1)) (SolI nb n kd h) := by
  intro t w hl wo hI x hx hx2 hf
  have hon : ON n x := Classical.byContradiction fun z => hf (frs_off ((hI x hx hx2).2.1 z))
  exact gdX_on hN.1 h1 h3 hx hx2 hon
/-- what is new in a round -/
theorem new_bits (hN : isNetZ n nb) (h1 : 1 ≤ h) (h3 : h ≤ 3) {t : Nat} {w hl nw w2 hl2 nw1 : Nat → Nat} {wo wo2 : Nat → Option Nat} (hI : SolI nb n kd h t w hl wo) (hz : ∀ y, frN h ≤ y → y < frN (h + 1) → nw y = 0) (hr : rndS nb n kd (frN h) (frN (h + 1)) t w hl nw wo w2 hl2 nw1 wo2) {y : Nat} (hy : frN h ≤ y) (hy2 : y < frN (h + 1)) : (ON n y → ∀ p, (nwf w nw1 y).testBit p = true ↔ p < n ∧ DD nb kd (t + 1) y p ∧ ¬ DD nb kd t y p) ∧ (¬ ON n y → nwf w nw1 y = 0) := by
  have hl9 := (frN_le h h1 h3).1
  have hb : ∀ p, (nw1 y).testBit p = true ↔ ∃ z, frN h ≤ z ∧ z < frN (h + 1) ∧ (frs nb n kd w hl z).testBit p = true ∧ STP nb kd z y := fun p => by
    rw [hr.2.1 y p (by omega), hz y hy hy2, Nat.zero_testBit]
    simp
  have hzon : ∀ z p, frN h ≤ z → z < frN (h + 1) → (frs nb n kd w hl z).testBit p = true → ON n z := fun z p z1 z2 z3 => Classical.byContradiction fun q => by rw [frs_off ((hI z z1 z2).2.1 q), Nat.zero_testBit] at z3; cases z3
  refine ⟨fun hon p => ?_, fun hoff => zero_of fun p q => ?_⟩
  · unfold nwf
    rw [dif_bit, Bool.and_eq_true, hb p]
    have hwy := ((hI y hy hy2).1 hon).1
    constructor
    · rintro ⟨⟨z, z1, z2, z3, z4⟩, q⟩
      have zon := hzon z p z1 z2 z3
      obtain ⟨g1, g2, -⟩ := (hI z z1 z2).1 zon
      obtain ⟨f1, f2, f3⟩ := (frs_bits hN zon g1 g2 p).mp z3
      refine ⟨f1, Or.inr ⟨z, STP_sym hN.1 h1 h3 z1 z2 zon z4, f2⟩, fun e => ?_⟩
      rw [(hwy p).mpr ⟨f1, e⟩] at q
      cases q
    · rintro ⟨f1, f2, f3⟩
      have q : (!(w y).testBit p) = true := by
        cases e : (w y).testBit p with
        | false => rfl
        | true => exact absurd ((hwy p).mp e).2 f3
      refine ⟨?_, q⟩
      rcases f2 with z | ⟨z, z1, z2⟩
      · exact absurd z f3
      · obtain ⟨y1, y2, y3⟩ := STP_on hN.1 h1 h3 hy hy2 hon z1
        obtain ⟨g1, g2, -⟩ := (hI z y1 y2).1 y3
        refine ⟨z, y1, y2, (frs_bits hN y3 g1 g2 p).mpr ⟨f1, z2, fun e => ?_⟩, STP_sym hN.1 h1 h3 hy hy2 hon z1⟩
        cases t with
        | zero => exact e
        | succ t => exact f3 (Or.inr ⟨z, z1, e⟩)
  · unfold nwf at q
    rw [dif_bit, Bool.and_eq_true, hb p] at q
    obtain ⟨⟨z, z1, z2, z3, z4⟩, -⟩ := q
    exact hoff (STP_on hN.1 h1 h3 z1 z2 (hzon z p z1 z2 z3) z4).2.2
theorem SolI_step (hN : isNetZ n nb) (h1 : 1 ≤ h) (h3 : h ≤ 3) : stpI nb n kd (frN h) (frN (h + 1)) (SolI nb n kd h) := by
  intro t w hl nw wo w2 hl2 nw1 wo2 hI hz hr y hy hy2
  have hn := hN.1.1
  obtain ⟨k1, k2⟩ := new_bits hN h1 h3 hI hz hr hy hy2
  obtain ⟨i1, i2, i3⟩ := hI y hy hy2
  obtain ⟨r1, r2, r3, r4⟩ := hr
  refine ⟨fun hon => ?_, fun hoff => ?_, fun p hp e => ?_⟩
  · obtain ⟨a1, a2, a3⟩ := i1 hon
    have kb := k1 hon
    refine ⟨fun p => ?_, fun p => ?_, fun p hp v => ?_⟩
    · rw [r3 y hy hy2, Nat.testBit_or, Bool.or_eq_true, a1, kb]
      constructor
      · rintro (⟨z1, z2⟩ | ⟨z1, z2, -⟩)
        · exact ⟨z1, Or.inl z2⟩
        · exact ⟨z1, z2⟩
      · rintro ⟨z1, z2⟩
        by_cases e : DD nb kd t y p
        · exact Or.inl ⟨z1, e⟩
        · exact Or.inr ⟨z1, z2, e⟩
    · rw [r1 y hy hy2, Nat.testBit_or, Bool.or_eq_true, a2, frs_bits hN hon a1 a2]
      constructor
      · rintro (⟨z1, z2⟩ | ⟨z1, z2, -⟩)
        · exact ⟨z1, HP_HH z2⟩
        · exact ⟨z1, z2⟩
      · rintro ⟨z1, z2⟩
        by_cases e : HP nb kd t y p
        · exact Or.inl ⟨z1, e⟩
        · exact Or.inr ⟨z1, z2, e⟩
    · rw [r4 y p hy hy2 (by omega)]
      by_cases e : (nwf w nw1 y).testBit p = true
      · rw [if_pos e]
        obtain ⟨-, e2, e3⟩ := (kb p).mp e
        constructor
        · intro z; cases z
          exact ⟨Nat.le_refl _, e2, fun u hu q => e3 (DD_mono (by omega) q)⟩
        · rintro ⟨z1, z2, z3⟩
          have : v = t + 1 := by
            rcases Nat.lt_or_ge v (t + 1) with q | q
            · exact absurd (DD_mono (by omega) z2) e3
            · omega
          rw [this]
      · rw [if_neg e, a3 p hp v]
        constructor
        · rintro ⟨z1, z2⟩; exact ⟨by omega, z2⟩
        · rintro ⟨z1, z2, z3⟩
          refine ⟨?_, z2, z3⟩
          rcases Nat.lt_or_ge t v with q | q
          · have ev : v = t + 1 := by omega
            subst ev
            exact absurd ((kb p).mpr ⟨hp, z2, z3 t (by omega)⟩) e
          · exact q
  · obtain ⟨z1, z2⟩ := i2 hoff
    rw [r3 y hy hy2, k2 hoff, z1, r1 y hy hy2, z2, frs_off ⟨z1, z2⟩]
    exact ⟨rfl, rfl⟩
  · rw [r4 y p hy hy2 hp, i3 p hp e]
    refine if_neg (fun z => ?_)
    rcases Classical.em (ON n y) with q | q
    · have := ((k1 q p).mp z).1
      rcases e with e | e
      · exact e q
      · omega
    · rw [k2 q, Nat.zero_testBit] at z
      cases z
/-- nothing changes behind a round that changes nothing -/
theorem DD_stop (hN : isNetZ n nb) (h1 : 1 ≤ h) (h3 : h ≤ 3) {T : Nat} (hs : ∀ x p, frN h ≤ x → x < frN (h + 1) → ON n x → p < n → DD nb kd (T + 1) x p → DD nb kd T x p) : ∀ (k x p : Nat), frN h ≤ x → x < frN (h + 1) → ON n x → p < n → DD nb kd (T + k) x p → DD nb kd T x p := by
  intro k
  induction k with
  | zero => intro x p _ _ _ _ hd; exact hd
  | succ k ih =>
    intro x p hx hx2 hon hp hd
    rcases hd with z | ⟨y, y1, y2⟩
    · exact ih x p hx hx2 hon hp z
    · obtain ⟨q1, q2, q3⟩ := STP_on hN.1 h1 h3 hx hx2 hon y1
      exact hs x p hx hx2 hon hp (Or.inr ⟨y, y1, HH_mono (fun q hq z => ih y q q1 q2 q3 (bit_lt (rch_net hN hp).2 hq) z) y2⟩)
theorem Fin_of (hN : isNetZ n nb) (h1 : 1 ≤ h) (h3 : h ≤ 3) {T : Nat} {w hl : Nat → Nat} {wo : Nat → Option Nat} (hI : SolI nb n kd h T w hl wo) (hs : ∀ k x p, frN h ≤ x → x < frN (h + 1) → ON n x → p < n → DD nb kd (T + k) x p → DD nb kd T x p) : FinI nb n kd h w wo := by
  intro x hx hx2
  obtain ⟨i1, i2, i3⟩ := hI x hx hx2
  have up : ∀ u p, ON n x → p < n → DD nb kd u x p → DD nb kd T x p := fun u p hon hp hd => hs u x p hx hx2 hon hp (DD_mono (by omega) hd)
  have ch : ON n x → ∀ p, p < n → ∀ v, wo ((x - frN h) * 9 + p) = some v ↔ DD nb kd v x p ∧ ∀ u, u < v → ¬ DD nb kd u x p := fun hon p hp v => by
    rw [(i1 hon).2.2 p hp v]
    refine ⟨fun z => z.2, fun z => ⟨?_, z⟩⟩
    rcases Nat.lt_or_ge T v with q | q
    · exact absurd (up v p hon hp z.1) (z.2 T q)
    · exact q
  refine ⟨fun hon => ⟨fun p => ?_, ch hon⟩, fun p hp v e => ?_⟩
  · rw [(i1 hon).1]
    exact ⟨fun z => ⟨z.1, T, z.2⟩, fun ⟨z1, u, z2⟩ => ⟨z1, up u p hon z1 z2⟩⟩
  · by_cases c : ON n x ∧ p < n
    · obtain ⟨e1, e2⟩ := (ch c.1 p c.2 v).mp e
      rcases Nat.lt_or_ge 2000 v with q | q
      · obtain ⟨i, hi, rfl⟩ := xi_surj h1 h3 hN.1.1 hx hx2 c.1
        rw [← DM_DD h1 h3 hN _ i p hi c.2] at e1
        have := DM_cap hN.1.1 h3 hi c.2 (v - 1486) (by rw [show 1486 + (v - 1486) = v by omega]; exact e1)
        exact absurd ((DM_DD h1 h3 hN _ i p hi c.2).mp this) (e2 1486 (by omega))
      · exact q
    · rw [i3 p hp (by rcases Classical.em (ON n x) with q | q
                      · exact Or.inr (by have : ¬ p < n := fun z => c ⟨q, z⟩
                                         omega)
                      · exact Or.inl q)] at e
      cases e
theorem SolI_end (hN : isNetZ n nb) (h1 : 1 ≤ h) (h3 : h ≤ 3) : endI nb n kd (frN h) (frN (h + 1)) (SolI nb n kd h) (FinI nb n kd h) := by
  intro t w hl nw wo w2 hl2 nw1 wo2 hI hz hr hc
  have hI2 := SolI_step hN h1 h3 t w hl nw wo w2 hl2 nw1 wo2 hI hz hr
  refine Fin_of hN h1 h3 (T := t + 1) hI2 (fun k x p hx hx2 hon hp hd => ?_)
  have hc : (∀ y, frN h ≤ y → y < frN (h + 1) → nwf w nw1 y = 0) ∨ ∀ y, frN h ≤ y → y < frN (h + 1) → ON n y → w y ||| nwf w nw1 y = 2 ^ n - 1 := by
    rcases Classical.em (∃ y, frN h ≤ y ∧ y < frN (h + 1) ∧ nwf w nw1 y ≠ 0) with q | q
    · exact Or.inr fun y y1 y2 y3 => Classical.byContradiction fun z => hc ⟨q, y, y1, y2, y3, z⟩
    · exact Or.inl fun y y1 y2 => Classical.byContradiction fun z => q ⟨y, y1, y2, z⟩
  rcases hc with hc | hc
  · refine Or.inl (DD_stop hN h1 h3 (T := t) (fun x p hx hx2 hon hp hd => Classical.byContradiction fun z => ?_) (1 + k) x p hx hx2 hon hp (by rw [← Nat.add_assoc]; exact hd))
    have := ((new_bits hN h1 h3 hI hz hr hx hx2).1 hon p).mpr ⟨hp, hd, z⟩
    rw [hc x hx hx2, Nat.zero_testBit] at this
    cases this
  · have := ((hI2 x hx hx2).1 hon).1 p
    rw [hr.2.2.1 x hx hx2, hc x hx hx2 hon, Nat.testBit_two_pow_sub_one, decide_eq_true_iff] at this
    exact (this.mp hp).2
theorem SolI_cap (hN : isNetZ n nb) (h1 : 1 ≤ h) (h3 : h ≤ 3) : capI (SolI nb n kd h) (FinI nb n kd h) := by
  intro w hl wo hI
  refine Fin_of hN h1 h3 (T := 1486) hI (fun k x p hx hx2 hon hp hd => ?_)
  obtain ⟨i, hi, rfl⟩ := xi_surj h1 h3 hN.1.1 hx hx2 hon
  rw [← DM_DD h1 h3 hN _ i p hi hp] at hd ⊢
  exact DM_cap hN.1.1 h3 hi hp k hd
theorem SolI_0 (hN : isNetZ n nb) : ∀ (w hl : Nat → Nat) (wo : Nat → Option Nat), (∀ y, frN h ≤ y → y < frN (h + 1) → w y = w00 n y ∧ hl y = 0) → (∀ y p, frN h ≤ y → y < frN (h + 1) → p < 9 → wo ((y - frN h) * 9 + p) = if (w00 n y).testBit p = true then some 0 else none) → SolI nb n kd h 0 w hl wo := by
  intro w hl wo h1 h2 x hx hx2
  have hn := hN.1.1
  obtain ⟨e1, e2⟩ := h1 x hx hx2
  refine ⟨fun hon => ?_, fun hoff => ⟨by rw [e1, w00, if_neg hoff], e2⟩, fun p hp e => ?_⟩
  · have ew : w00 n x = sdC x := if_pos hon
    rw [e1, e2, ew]
    refine ⟨fun p => ⟨fun z => ⟨on_lt hon z, z⟩, fun z => z.2⟩, fun p => ?_, fun p hp v => ?_⟩
    · rw [Nat.zero_testBit]
      exact ⟨fun z => (by cases z), fun z => absurd z.2 (fun q => q)⟩
    · rw [h2 x p hx hx2 (by omega), ew]
      by_cases hb : (sdC x).testBit p = true
      · rw [if_pos hb]
        constructor
        · intro z; cases z; exact ⟨Nat.le_refl _, hb, fun u hu => absurd hu (Nat.not_lt_zero u)⟩
        · rintro ⟨z1, -⟩
          have : v = 0 := by omega
          rw [this]
      · rw [if_neg hb]
        constructor
        · intro z; cases z
        · rintro ⟨z1, z2, -⟩
          have : v = 0 := by omega
          subst this
          exact absurd z2 hb
  · rw [h2 x p hx hx2 hp]
    refine if_neg (fun z => ?_)
    rcases Classical.em (ON n x) with q | q
    · rw [show w00 n x = sdC x from if_pos q] at z
      have := on_lt q z
      rcases e with e | e
      · exact e q
      · omega
    · rw [show w00 n x = 0 from if_neg q, Nat.zero_testBit] at z
      cases z
/-- both sides' worths are the same -/
theorem Fin_slv (hN : isNetZ n nb) (h1 : 1 ≤ h) (h3 : h ≤ 3) {w : Nat → Nat} {wo : Nat → Option Nat} (hF : FinI nb n kd h w wo) {i p : Nat} (hi : i < (rowsL h n).length) (hp : p < n) : wo ((xi h n i - frN h) * 9 + p) = slvF nb n h kd i p := by
  obtain ⟨m1, m2, m3⟩ := xi_mem h1 h3 hN.1.1 hi
  have a := ((hF _ m1 m2).1 m3).2 p hp
  have b := slvF_iff (nb := nb) (kd := kd) hN.1.1 h3 hi hp
  have e : ∀ v, wo ((xi h n i - frN h) * 9 + p) = some v ↔ slvF nb n h kd i p = some v := fun v => by
    rw [a v, b v, DM_DD h1 h3 hN v i p hi hp]
    constructor
    · exact fun z => ⟨z.1, fun u hu q => z.2 u hu ((DM_DD h1 h3 hN u i p hi hp).mp q)⟩
    · exact fun z => ⟨z.1, fun u hu q => z.2 u hu ((DM_DD h1 h3 hN u i p hi hp).mpr q)⟩
  cases q : slvF nb n h kd i p with
  | some v => exact (e v).mpr q
  | none =>
    cases q2 : wo ((xi h n i - frN h) * 9 + p) with
    | none => rfl
    | some v => rw [(e v).mp q2] at q; cases q
end Sol
