/-! the search round by round finds the first of the shortest ways -/
def nxd (nb : Nat → Nat) (d y : Nat) : Nat := dif (nall nb 9 (dif d (sdC y))) (sdC y)
def drk (nb : Nat → Nat) (n : Nat) (q : Nat → Nat) : Nat → Nat
  | 0 => dif (2 ^ n - 1) (sdC (q 0))
  | m + 1 => nxd nb (drk nb n q m) (q (m + 1))
def PV (nb : Nat → Nat) (n h m : Nat) (q : Nat → Nat) : Prop := (frN h ≤ q 0 ∧ q 0 < frN (h + 1) ∧ ON n (q 0)) ∧ ∀ i, i < m → STP nb 0 (q i) (q (i + 1))
def Lit (nb : Nat → Nat) (n h m : Nat) (q : Nat → Nat) : Prop := PV nb n h m q ∧ drk nb n q m = 0
def cdq (q : Nat → Nat) : Nat → Nat
  | 0 => q 0
  | m + 1 => cdq q m * 219 + q (m + 1)
def stt (nb : Nat → Nat) (n h : Nat) (q : Nat → Nat) (m : Nat) : Nat := (q m - frN h) * 512 + drk nb n q m
def rwO (h s : Nat) : Nat := frN h + s / 512
def isS2 (nb : Nat → Nat) (h s a : Nat) : Prop := STP nb 0 (rwO h s) (rwO h a) ∧ dif (s % 512) (sdC (rwO h a)) ≠ 0 ∧ a % 512 = nxd nb (s % 512) (rwO h a)
section Sw
variable {nb : Nat → Nat} {n h : Nat}
theorem nxd_lt (hN : isNetZ n nb) (d y : Nat) : nxd nb d y < 2 ^ n := dif_lt (by rw [nall9_eq hN]; exact nall_lt2 hN.1 _)
theorem nxd_0 (hN : isNetZ n nb) {d y : Nat} (hd : d < 2 ^ n) : nxd nb d y = 0 ↔ dif d (sdC y) = 0 := by
  unfold nxd
  rw [nall9_eq hN]
  constructor
  · intro h
    refine zero_of fun p hp => ?_
    have hpn : p < n := bit_lt (dif_lt hd) hp
    have h2 := dif_0.mp h p (nall_bit.mpr ⟨p, hpn, hp, hN.1.2.2.1 p hpn⟩)
    rw [dif_bit, h2] at hp
    simp at hp
  · intro h
    rw [h, nall_zero, dif_zero]
theorem drk_lt (hN : isNetZ n nb) (q : Nat → Nat) : ∀ m, drk nb n q m < 2 ^ n
  | 0 => dif_lt (by have := pow_pos9 n; omega)
  | _ + 1 => nxd_lt hN _ _
theorem PV_on (hN : isNetZ n nb) (h1 : 1 ≤ h) (h2 : h ≤ 2) {m : Nat} {q : Nat → Nat} (hp : PV nb n h m q) : ∀ i, i ≤ m → frN h ≤ q i ∧ q i < frN (h + 1) ∧ ON n (q i) := by
  intro i
  induction i with
  | zero => intro _; exact hp.1
  | succ i ih =>
    intro hi
    obtain ⟨a, b, c⟩ := ih (by omega)
    exact STP_on hN.1 h1 (by omega) a b c (hp.2 i (by omega))
theorem PV.le {m m2 : Nat} {q : Nat → Nat} (hp : PV nb n h m q) (hm : m2 ≤ m) : PV nb n h m2 q := ⟨hp.1, fun i hi => hp.2 i (by omega)⟩
theorem stt_row (hN : isNetZ n nb) {q : Nat → Nat} {m : Nat} (hq : frN h ≤ q m) : rwO h (stt nb n h q m) = q m ∧ stt nb n h q m % 512 = drk nb n q m := by
  have := Nat.lt_of_lt_of_le (drk_lt hN q m) (pow_le9 hN.1.1)
  unfold rwO stt
  constructor
  · rw [show ((q m - frN h) * 512 + drk nb n q m) / 512 = q m - frN h by omega]; omega
  · omega
/-- a path goes on by a row -/
def ext (q : Nat → Nat) (m y : Nat) : Nat → Nat := fun i => if i ≤ m then q i else y
theorem ext_le {q : Nat → Nat} {m y i : Nat} (hi : i ≤ m) : ext q m y i = q i := if_pos hi
theorem ext_s {q : Nat → Nat} {m y : Nat} : ext q m y (m + 1) = y := if_neg (by omega)
theorem drk_cg {q q2 : Nat → Nat} : ∀ {m : Nat}, (∀ i, i ≤ m → q i = q2 i) → drk nb n q m = drk nb n q2 m
  | 0, e => by rw [drk, drk, e 0 (Nat.le_refl _)]
  | m + 1, e => by rw [drk, drk, e (m + 1) (Nat.le_refl _), drk_cg (m := m) (fun i hi => e i (by omega))]
theorem cdq_cg {q q2 : Nat → Nat} : ∀ {m : Nat}, (∀ i, i ≤ m → q i = q2 i) → cdq q m = cdq q2 m
  | 0, e => e 0 (Nat.le_refl _)
  | m + 1, e => by rw [cdq, cdq, e (m + 1) (Nat.le_refl _), cdq_cg (m := m) (fun i hi => e i (by omega))]
theorem PV_ext {q : Nat → Nat} {m y : Nat} (hp : PV nb n h m q) (hs : STP nb 0 (q m) y) : PV nb n h (m + 1) (ext q m y) := by
  refine ⟨by rw [ext_le (Nat.zero_le _)]; exact hp.1, fun i hi => ?_⟩
  by_cases e : i = m
  · subst e; rw [ext_le (Nat.le_refl _), ext_s]; exact hs
  · rw [ext_le (by omega), ext_le (by omega)]; exact hp.2 i (by omega)
theorem drk_ext (q : Nat → Nat) (m y : Nat) : drk nb n (ext q m y) m = drk nb n q m ∧ drk nb n (ext q m y) (m + 1) = nxd nb (drk nb n q m) y := by
  have e : drk nb n (ext q m y) m = drk nb n q m := drk_cg (fun i hi => ext_le hi)
  exact ⟨e, by rw [drk, e, ext_s]⟩
theorem cdq_ext (q : Nat → Nat) (m y : Nat) : cdq (ext q m y) (m + 1) = cdq q m * 219 + y := by
  rw [cdq, ext_s, cdq_cg (q := ext q m y) (q2 := q) (fun i hi => ext_le hi)]
theorem stt_ext (q : Nat → Nat) {m y i : Nat} (hi : i ≤ m) : stt nb n h (ext q m y) i = stt nb n h q i := by
  unfold stt
  rw [ext_le hi, drk_cg (fun j hj => ext_le (by omega))]
/-- what one state adds to the queue, row by row -/
def SInv (nb : Nat → Nat) (h s y : Nat) (Q Q2 : BQ) : Prop := ∃ N, Q2.1 = Q.1 ++ N ∧ (∀ a, Q.2 a ≠ none → Q2.2 a = Q.2 a) ∧ (∀ a, a ∈ N → isS2 nb h s a ∧ rwO h a < y ∧ a ∉ Q.1 ∧ Q2.2 a = some (some s)) ∧ N.Pairwise (fun a b => rwO h a < rwO h b) ∧ (∀ a, isS2 nb h s a → rwO h a < y → a ∈ Q2.1) ∧ QOk Q2
theorem stl_ok (hN : isNetZ n nb) (hw : ∀ p, nb p < 512) (h1 : 1 ≤ h) (h2 : h ≤ 2) {s : Nat} (hs : s < 23040) (hx : rwO h s < frN (h + 1)) (hon : ON n (rwO h s)) {Q : BQ} : ∀ (k y : Nat) (Q2 : BQ), y + k = frN (h + 1) → frN h ≤ y → SInv nb h s y Q Q2 → (∀ z, z < y → STP nb 0 (rwO h s) z → dif (s % 512) (sdC z) ≠ 0) → ((stlG nb (frN h) s k y Q2).1 = none ∧ SInv nb h s (frN (h + 1)) Q (stlG nb (frN h) s k y Q2).2 ∧ ∀ z, STP nb 0 (rwO h s) z → dif (s % 512) (sdC z) ≠ 0) ∨ ∃ z, (stlG nb (frN h) s k y Q2).1 = some z ∧ STP nb 0 (rwO h s) z ∧ dif (s % 512) (sdC z) = 0 ∧ ∀ z2, z2 < z → STP nb 0 (rwO h s) z2 → dif (s % 512) (sdC z2) ≠ 0 := by
  intro k
  induction k with
  | zero =>
    intro y Q2 hy hy1 hI hz
    have ey : y = frN (h + 1) := by omega
    subst ey
    exact Or.inl ⟨rfl, hI, fun z hz2 => hz z (STP_on hN.1 h1 (by omega) (Nat.le_add_right _ _) hx hon hz2).2.1 hz2⟩
  | succ k ih =>
    intro y Q2 hy hy1 hI hz
    by_cases hst : STP nb 0 (frN h + s / 512) y
    · by_cases h0 : dif (s % 512) (sdC y) = 0
      · rw [stlG_f hst h0]
        exact Or.inr ⟨y, rfl, hst, h0, fun z hz1 hz2 => hz z hz1 hz2⟩
      · rw [stlG_e hst h0]
        have h45 : frN (h + 1) ≤ frN h + 45 := by rcases (show h = 1 ∨ h = 2 by omega) with rfl | rfl <;> decide
        have hnl : dif (nall nb 9 (dif (s % 512) (sdC y))) (sdC y) < 512 := dif_lt9 (nall9_lt hw _)
        generalize ha : (y - frN h) * 512 + dif (nall nb 9 (dif (s % 512) (sdC y))) (sdC y) = a
        have har : rwO h a = y := by unfold rwO; omega
        have ham : a % 512 = nxd nb (s % 512) y := by show _ = dif (nall nb 9 (dif (s % 512) (sdC y))) (sdC y); omega
        have hal : a < 23040 := by omega
        have has : isS2 nb h s a := ⟨by rw [har]; exact hst, by rw [har]; exact h0, by rw [har]; exact ham⟩
        have hun : ∀ b, isS2 nb h s b → rwO h b = y → b = a := fun b hb hr => by
          have e1 := hb.2.2
          rw [hr, ← ham] at e1
          have e2 : rwO h b = rwO h a := by rw [hr, har]
          unfold rwO at e2
          omega
        refine ih (y + 1) _ (by omega) (by omega) ?_ (fun z hz1 hz2 => ?_)
        · obtain ⟨N, n1, n2, n3, n4, n5, n6⟩ := hI
          have nz : ∀ b, isS2 nb h s b → rwO h b < y + 1 → b ∈ Q2.1 ∨ b = a := fun b hb hr => by
            by_cases e : rwO h b = y
            · exact Or.inr (hun b hb e)
            · exact Or.inl (n5 b hb (by omega))
          by_cases e : Q2.2 a = none
          · have ee : enqF Q2 a (some s) = (Q2.1 ++ [a], va_up Q2.2 a (some (some s))) := if_pos e
            have hna : a ∉ Q2.1 := fun z => ((n6.1 a).mp z).2 e
            rw [ee]
            refine ⟨N ++ [a], by rw [n1, List.append_assoc], fun b hb => ?_, fun b hb => ?_, ?_, fun b hb hr => ?_, ?_⟩
            · have hba : b ≠ a := fun z => by
                have := n2 b hb
                rw [z, e] at this
                exact hb (by rw [z]; exact this.symm)
              show va_up Q2.2 a (some (some s)) b = _
              simp only [va_up, if_neg hba]
              exact n2 b hb
            · rcases List.mem_append.mp hb with hb | hb
              · obtain ⟨m1, m2, m3, m4⟩ := n3 b hb
                have hba : b ≠ a := fun z => by rw [z, har] at m2; omega
                refine ⟨m1, by omega, m3, ?_⟩
                show va_up Q2.2 a (some (some s)) b = _
                simp only [va_up, if_neg hba]
                exact m4
              · have hb : b = a := by simpa using hb
                subst hb
                refine ⟨has, by omega, fun z => hna (by rw [n1]; exact List.mem_append.mpr (Or.inl z)), ?_⟩
                show va_up Q2.2 b (some (some s)) b = _
                simp [va_up]
            · rw [List.pairwise_append]
              refine ⟨n4, by simp, fun b hb c hc => ?_⟩
              have hc : c = a := by simpa using hc
              rw [hc, har]
              exact (n3 b hb).2.1
            · show b ∈ Q2.1 ++ [a]
              rcases nz b hb hr with z | z
              · exact List.mem_append.mpr (Or.inl z)
              · exact List.mem_append.mpr (Or.inr (by rw [z]; simp))
            · have := n6.enq (v := some s) hal (fun x hx => by cases hx; exact hs)
              rw [ee] at this
              exact this
          · have ee : enqF Q2 a (some s) = Q2 := if_neg e
            rw [ee]
            refine ⟨N, n1, n2, fun b hb => ?_, n4, fun b hb hr => ?_, n6⟩
            · obtain ⟨m1, m2, m3⟩ := n3 b hb
              exact ⟨m1, by omega, m3⟩
            · rcases nz b hb hr with z | z
              · exact z
              · rw [z]; exact (n6.1 a).mpr ⟨hal, e⟩
        · by_cases e : z = y
          · rw [e]; exact h0
          · exact hz z (by omega) hz2
    · rw [stlG_n hst]
      refine ih (y + 1) Q2 (by omega) (by omega) ?_ (fun z hz1 hz2 => ?_)
      · obtain ⟨N, n1, n2, n3, n4, n5, n6⟩ := hI
        refine ⟨N, n1, n2, fun b hb => ?_, n4, fun b hb hr => ?_, n6⟩
        · obtain ⟨m1, m2, m3⟩ := n3 b hb
          exact ⟨m1, by omega, m3⟩
        · refine n5 b hb ?_
          have : rwO h b ≠ y := fun z => hst (by have := hb.1; rw [z] at this; exact this)
          omega
      · by_cases e : z = y
        · subst e; exact absurd hz2 hst
        · exact hz z (by omega) hz2
end Sw
