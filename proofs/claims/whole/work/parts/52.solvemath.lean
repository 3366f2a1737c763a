/-! WHAT A GAME IS WORTH, on the reference's side: the least round at which a couple is sure -/
def HMf (nb : Nat → Nat) (n h kd : Nat) (F : List Row) (D : Nat → Nat → Prop) (j p : Nat) : Prop := (std h (rowAt F j)).testBit p = true ∨ ∀ q, q < n → (rns nb n kd (std h (rowAt F j)) p).testBit q = true → D j q
def DM (nb : Nat → Nat) (n h kd : Nat) (F : List Row) : Nat → Nat → Nat → Prop
  | 0, i, p => (std h (rowAt F i)).testBit p = true
  | t + 1, i, p => DM nb n h kd F t i p ∨ ∃ j, j < F.length ∧ cgF nb h kd F i j = true ∧ HMf nb n h kd F (DM nb n h kd F t) j p
theorem least_of {P : Nat → Prop} {m : Nat} (h : P m) : ∃ v, v ≤ m ∧ P v ∧ ∀ u, u < v → ¬ P u := by
  induction m using Nat.strongRecOn with
  | _ m ih =>
    by_cases e : ∃ u, u < m ∧ P u
    · obtain ⟨u, hu, pu⟩ := e
      obtain ⟨v, h1, h2⟩ := ih u hu pu
      exact ⟨v, by omega, h2⟩
    · exact ⟨m, Nat.le_refl _, h, fun u hu pu => e ⟨u, hu, pu⟩⟩
section SolM
variable {nb : Nat → Nat} {n h kd : Nat} {F : List Row}
theorem DM_mono {t i p : Nat} : ∀ {u : Nat}, t ≤ u → DM nb n h kd F t i p → DM nb n h kd F u i p := by
  intro u
  induction u with
  | zero => intro hu hd; have : t = 0 := by omega
            subst this; exact hd
  | succ u ih =>
    intro hu hd
    by_cases e : t = u + 1
    · subst e; exact hd
    · exact Or.inl (ih (by omega) hd)
theorem HM_mono {D D2 : Nat → Nat → Prop} {j p : Nat} (hD : ∀ q, q < n → D j q → D2 j q) (hm : HMf nb n h kd F D j p) : HMf nb n h kd F D2 j p := hm.imp id (fun z q hq hb => hD q hq (z q hq hb))
def WSm (nb : Nat → Nat) (n h kd : Nat) (F : List Row) (w : Wo) (t : Nat) : Prop := ∀ i p, i < F.length → p < n → ∀ v, w i p = some v ↔ (v ≤ t ∧ DM nb n h kd F v i p ∧ ∀ u, u < v → ¬ DM nb n h kd F u i p)
theorem rw_some {w : Wo} {i to : Nat} : ∀ (k q : Nat) (a : Option Nat) (m : Nat), fl (rwG w i to) k q a = some m → ∃ a0, a = some a0 ∧ a0 ≤ m ∧ (∀ j, q ≤ j → j < q + k → to.testBit j = true → ∃ x, w i j = some x ∧ x ≤ m) ∧ (m = a0 ∨ ∃ j, q ≤ j ∧ j < q + k ∧ to.testBit j = true ∧ w i j = some m)
  | 0, q, a, m, e => ⟨m, e, Nat.le_refl _, fun j h1 h2 => (by omega), Or.inl rfl⟩
  | k + 1, q, a, m, e => by
    obtain ⟨a1, h1, h2, h3, h4⟩ := rw_some k (q + 1) (rwG w i to q a) m e
    unfold rwG at h1
    by_cases hb : to.testBit q = true
    · rw [if_pos hb] at h1
      cases a with
      | none => cases h1
      | some a0 =>
        cases hx : w i q with
        | none => rw [hx] at h1; cases h1
        | some x =>
          rw [hx] at h1
          have h1 : some (mxN a0 x) = some a1 := h1
          have e1 : mxN a0 x = a1 := Option.some.inj h1
          have e2 : a0 ≤ a1 ∧ x ≤ a1 ∧ (a1 = a0 ∨ a1 = x) := by rw [← e1]; unfold mxN; split <;> omega
          refine ⟨a0, rfl, by omega, fun j j1 j2 j3 => ?_, ?_⟩
          · by_cases ej : j = q
            · subst ej; exact ⟨x, hx, by omega⟩
            · exact h3 j (by omega) (by omega) j3
          · rcases h4 with h4 | ⟨j, j1, j2, j3⟩
            · rcases e2.2.2 with z | z
              · exact Or.inl (by omega)
              · exact Or.inr ⟨q, by omega, by omega, hb, by rw [hx, h4, z]⟩
            · exact Or.inr ⟨j, by omega, by omega, j3⟩
    · rw [if_neg hb] at h1
      refine ⟨a1, h1, h2, fun j j1 j2 j3 => ?_, ?_⟩
      · have : j ≠ q := fun z => hb (z ▸ j3)
        exact h3 j (by omega) (by omega) j3
      · rcases h4 with h4 | ⟨j, j1, j2, j3⟩
        · exact Or.inl h4
        · exact Or.inr ⟨j, by omega, by omega, j3⟩
theorem rw_none {w : Wo} {i to : Nat} : ∀ (k q : Nat) (a : Option Nat), fl (rwG w i to) k q a = none → a = none ∨ ∃ j, q ≤ j ∧ j < q + k ∧ to.testBit j = true ∧ w i j = none
  | 0, q, a, e => Or.inl e
  | k + 1, q, a, e => by
    rcases rw_none k (q + 1) (rwG w i to q a) e with h1 | ⟨j, j1, j2, j3⟩
    · unfold rwG at h1
      by_cases hb : to.testBit q = true
      · rw [if_pos hb] at h1
        cases a with
        | none => exact Or.inl rfl
        | some a0 =>
          cases hx : w i q with
          | none => exact Or.inr ⟨q, by omega, by omega, hb, hx⟩
          | some x => rw [hx] at h1; cases h1
      · rw [if_neg hb] at h1; exact Or.inl h1
    · exact Or.inr ⟨j, by omega, by omega, j3⟩
theorem rwt_ok {w : Wo} {t : Nat} (hW : WSm nb n h kd F w t) {j p : Nat} (hj : j < F.length) : (∀ m, rwt nb n kd h F w j p = some m → m ≤ t ∧ HMf nb n h kd F (DM nb n h kd F m) j p) ∧ (rwt nb n kd h F w j p = none → ¬ HMf nb n h kd F (DM nb n h kd F t) j p) := by
  unfold rwt
  by_cases hs : (std h (rowAt F j)).testBit p = true
  · rw [if_pos hs]
    exact ⟨fun m e => by cases e; exact ⟨Nat.zero_le _, Or.inl hs⟩, fun e => by cases e⟩
  · rw [if_neg hs]
    refine ⟨fun m e => ?_, fun e => ?_⟩
    · obtain ⟨a0, h1, h2, h3, h4⟩ := rw_some n 0 (some 0) m e
      refine ⟨?_, Or.inr fun q hq hb => ?_⟩
      · rcases h4 with z | ⟨q, q1, q2, q3, q4⟩
        · cases h1; omega
        · exact ((hW j q hj (by omega) m).mp q4).1
      · obtain ⟨x, hx, hm⟩ := h3 q (Nat.zero_le _) (by omega) hb
        exact DM_mono hm ((hW j q hj hq x).mp hx).2.1
    · rcases rw_none n 0 (some 0) e with z | ⟨q, q1, q2, q3, q4⟩
      · cases z
      · rintro (z | z)
        · exact hs z
        · obtain ⟨v, v1, v2, v3⟩ := least_of (P := fun u => DM nb n h kd F u j q) (z q (by omega) q3)
          have := (hW j q hj (by omega) v).mpr ⟨v1, v2, v3⟩
          rw [q4] at this
          cases this
theorem lb_nn {cg : Nat → Bool} {r : Nat → Option Nat} : ∀ (k j : Nat) (b : Option Nat), fl (lbG cg r) k j b = none → b = none ∧ ∀ i, j ≤ i → i < j + k → cg i = true → r i = none
  | 0, _, b, e => ⟨e, fun i h1 h2 => (by omega)⟩
  | k + 1, j, b, e => by
    obtain ⟨h1, h2⟩ := lb_nn k (j + 1) (lbG cg r j b) e
    unfold lbG at h1
    by_cases hc : cg j = true
    · rw [if_pos hc] at h1
      cases hr : r j with
      | none =>
        rw [hr] at h1
        refine ⟨h1, fun i i1 i2 i3 => ?_⟩
        by_cases ei : i = j
        · rw [ei]; exact hr
        · exact h2 i (by omega) (by omega) i3
      | some x =>
        rw [hr] at h1
        cases b with
        | none => cases h1
        | some y =>
          have h1 : (if x < y then some x else some y) = none := h1
          split at h1 <;> cases h1
    · rw [if_neg hc] at h1
      refine ⟨h1, fun i i1 i2 i3 => ?_⟩
      have : i ≠ j := fun z => hc (z ▸ i3)
      exact h2 i (by omega) (by omega) i3
theorem WS_none {w : Wo} {t : Nat} (hW : WSm nb n h kd F w t) {i p : Nat} (hi : i < F.length) (hp : p < n) : w i p = none ↔ ¬ DM nb n h kd F t i p := by
  constructor
  · intro e hd
    obtain ⟨v, v1, v2, v3⟩ := least_of (P := fun u => DM nb n h kd F u i p) hd
    have := (hW i p hi hp v).mpr ⟨v1, v2, v3⟩
    rw [e] at this
    cases this
  · intro hd
    cases e : w i p with
    | none => rfl
    | some v =>
      have := (hW i p hi hp v).mp e
      exact absurd (DM_mono this.1 this.2.1) hd
theorem lbW_ok {w : Wo} {t : Nat} (hW : WSm nb n h kd F w t) {i p : Nat} (hi : i < F.length) (hp : p < n) (hn : w i p = none) : (∀ x, lbW nb n h kd F w i p = some x → x = t ∧ DM nb n h kd F (t + 1) i p) ∧ (lbW nb n h kd F w i p = none → ¬ DM nb n h kd F (t + 1) i p) := by
  have hnd := (WS_none hW hi hp).mp hn
  refine ⟨fun x e => ?_, fun e => ?_⟩
  · obtain ⟨j, j1, j2, j3⟩ := lbF_mem e
    obtain ⟨m1, m2⟩ := (rwt_ok hW j1).1 x j3
    have hd : DM nb n h kd F (x + 1) i p := Or.inr ⟨j, j1, j2, m2⟩
    have : ¬ x + 1 ≤ t := fun z => hnd (DM_mono z hd)
    have e2 : x = t := by omega
    subst e2
    exact ⟨rfl, hd⟩
  · rintro (z | ⟨j, j1, j2, j3⟩)
    · exact hnd z
    · exact (rwt_ok hW j1).2 ((lb_nn F.length 0 none e).2 j (Nat.zero_le _) (by omega) j2) j3
theorem WS_rd {w : Wo} {t : Nat} (hW : WSm nb n h kd F w t) : WSm nb n h kd F (rdW nb n h kd F w) (t + 1) := by
  intro i p hi hp v
  unfold rdW
  cases e : w i p with
  | some x =>
    have hx := (hW i p hi hp x).mp e
    constructor
    · intro z
      cases z
      exact ⟨by omega, hx.2⟩
    · rintro ⟨-, z2, z3⟩
      have : x = v := by
        rcases Nat.lt_trichotomy x v with q | q | q
        · exact absurd hx.2.1 (z3 x q)
        · exact q
        · exact absurd z2 (hx.2.2 v q)
      rw [this]
  | none =>
    have hnd := (WS_none hW hi hp).mp e
    obtain ⟨l1, l2⟩ := lbW_ok hW hi hp e
    cases el : lbW nb n h kd F w i p with
    | none =>
      constructor
      · intro z; cases z
      · rintro ⟨z1, z2, -⟩
        exact absurd (DM_mono z1 z2) (l2 el)
    | some x =>
      obtain ⟨rfl, hd⟩ := l1 x el
      constructor
      · intro z
        have z : some (x + 1) = some v := z
        cases z
        exact ⟨Nat.le_refl _, hd, fun u hu q => hnd (DM_mono (by omega) q)⟩
      · rintro ⟨z1, z2, z3⟩
        have : v = x + 1 := by
          rcases Nat.lt_or_ge v (x + 1) with q | q
          · exact absurd (DM_mono (by omega) z2) hnd
          · omega
        rw [this]
theorem WS_0 : WSm nb n h kd F (w0 h F) 0 := by
  intro i p hi hp v
  unfold w0
  by_cases hb : (std h (rowAt F i)).testBit p = true
  · rw [if_pos hb]
    constructor
    · intro z; cases z; exact ⟨Nat.le_refl _, hb, fun u hu => absurd hu (Nat.not_lt_zero u)⟩
    · rintro ⟨z1, -⟩
      have : v = 0 := by omega
      rw [this]
  · rw [if_neg hb]
    constructor
    · intro z; cases z
    · rintro ⟨z1, z2, -⟩
      have : v = 0 := by omega
      subst this
      exact absurd z2 hb
theorem nc_zero {w : Wo} {R : Nat} (hz : nc w n R = 0) {i p : Nat} (hi : i < R) (hp : p < n) : w i p ≠ none := fun e => by
  have := (nc_lt (w := w) (u := fun _ _ => some 0) (n := n) (fun i p z => by cases z) R 0).2 i p (by omega) (by omega) hp e (by intro z; cases z)
  have h2 : fl (fun i a => fl (ncR (w i)) n 0 a) R 0 0 = 0 := hz
  omega
def stM (nb : Nat → Nat) (n h kd : Nat) (F : List Row) (T : Nat) : Prop := ∀ i p, i < F.length → p < n → DM nb n h kd F (T + 1) i p → DM nb n h kd F T i p
theorem slv_ok : ∀ (k t : Nat) (w : Wo), WSm nb n h kd F w t → nc w n F.length ≤ k → ∃ T, T ≤ t + k ∧ WSm nb n h kd F (slv nb n h kd F k w) T ∧ stM nb n h kd F T
  | 0, t, w, hW, hk => ⟨t, by omega, hW, fun i p hi hp _ => Classical.byContradiction fun z => nc_zero (n := n) (by omega) hi hp ((WS_none hW hi hp).mpr z)⟩
  | k + 1, t, w, hW, hk => by
    unfold slv
    by_cases hc : chg nb n h kd F w
    · rw [if_pos hc]
      have := nc_chg hc
      obtain ⟨T, h1, h2⟩ := slv_ok k (t + 1) _ (WS_rd hW) (by omega)
      exact ⟨T, by omega, h2⟩
    · rw [if_neg hc]
      refine ⟨t, by omega, hW, fun i p hi hp hd => Classical.byContradiction fun z => hc ⟨i, p, hi, hp, (WS_none hW hi hp).mpr z, fun e => ?_⟩⟩
      exact (lbW_ok hW hi hp ((WS_none hW hi hp).mpr z)).2 e hd
theorem st_all {T : Nat} (hs : stM nb n h kd F T) : ∀ (k i p : Nat), i < F.length → p < n → DM nb n h kd F (T + k) i p → DM nb n h kd F T i p := by
  intro k
  induction k with
  | zero => intro i p _ _ hd; exact hd
  | succ k ih =>
    intro i p hi hp hd
    rcases hd with z | ⟨j, j1, j2, j3⟩
    · exact ih i p hi hp z
    · exact hs i p hi hp (Or.inr ⟨j, j1, j2, HM_mono (fun q hq z => ih j q j1 hq z) j3⟩)
end SolM
/-- what the reference's solved game says -/
theorem slvF_iff {nb : Nat → Nat} {n h kd : Nat} (hn : n ≤ 9) (hh : h ≤ 3) {i p : Nat} (hi : i < (rowsL h n).length) (hp : p < n) (v : Nat) : slvF nb n h kd i p = some v ↔ (DM nb n h kd (rowsL h n) v i p ∧ ∀ u, u < v → ¬ DM nb n h kd (rowsL h n) u i p) := by
  obtain ⟨T, -, hW, hs⟩ := slv_ok (nb := nb) (n := n) (h := h) (kd := kd) (F := rowsL h n) 2000 0 (w0 h (rowsL h n)) WS_0 (by
    have h1 := @nc_bound (w0 h (rowsL h n)) n (rowsL h n).length
    have h2 := rowsL_len n (by omega) h (by omega)
    have h3 : (rowsL h n).length * n ≤ 165 * 9 := Nat.mul_le_mul h2 hn
    omega)
  have := hW i p hi hp v
  unfold slvF
  rw [this]
  constructor
  · exact fun z => z.2
  · intro z
    refine ⟨?_, z⟩
    rcases Nat.lt_or_ge T v with q | q
    · exact absurd (st_all hs (v - T) i p hi hp (by rw [show T + (v - T) = v by omega]; exact z.1)) (z.2 T q)
    · exact q
theorem DM_cap {nb : Nat → Nat} {n h kd : Nat} (hn : n ≤ 9) (hh : h ≤ 3) {i p : Nat} (hi : i < (rowsL h n).length) (hp : p < n) (k : Nat) (hd : DM nb n h kd (rowsL h n) (1486 + k) i p) : DM nb n h kd (rowsL h n) 1486 i p := by
  obtain ⟨T, hT, hW, hs⟩ := slv_ok (nb := nb) (n := n) (h := h) (kd := kd) (F := rowsL h n) 1485 0 (w0 h (rowsL h n)) WS_0 (by
    have h1 := @nc_bound (w0 h (rowsL h n)) n (rowsL h n).length
    have h2 := rowsL_len n (by omega) h (by omega)
    have h3 : (rowsL h n).length * n ≤ 165 * 9 := Nat.mul_le_mul h2 hn
    omega)
  exact DM_mono (by omega) (st_all hs (1486 + k - T) i p hi hp (by rw [show T + (1486 + k - T) = 1486 + k by omega]; exact hd))
