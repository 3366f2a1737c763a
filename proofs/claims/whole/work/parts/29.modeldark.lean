/-! a runner that nobody sees -/
def dkS (nb : Nat → Nat) (n : Nat) (st : Nat → Nat) (d j : Nat) : Nat := dif (nall nb n (dif d (st j))) (st j)
theorem dif_zero (b : Nat) : dif 0 b = 0 := by unfold dif; rw [Nat.zero_and, Nat.xor_self]
theorem nall_zero {nb : Nat → Nat} {n : Nat} : nall nb n 0 = 0 := by
  apply Nat.eq_of_testBit_eq
  intro j
  rw [Nat.zero_testBit]
  cases h : (nall nb n 0).testBit j with
  | false => rfl
  | true =>
    obtain ⟨p, -, h1, -⟩ := nall_bit.mp h
    rw [Nat.zero_testBit] at h1
    cases h1
theorem dkS_zero {nb : Nat → Nat} {n : Nat} {st : Nat → Nat} {d j : Nat} (h : dif d (st j) = 0) : dkS nb n st d j = 0 := by
  unfold dkS
  rw [h, nall_zero, dif_zero]
theorem dkS_lt {nb : Nat → Nat} {n : Nat} (hN : isNet n nb) {st : Nat → Nat} {d j : Nat} : dkS nb n st d j < 2 ^ n := dif_lt (nall_lt2 hN _)
theorem dkS_lt9 {nb : Nat → Nat} {n : Nat} (hw : ∀ p, nb p < 512) {st : Nat → Nat} {d j : Nat} : dkS nb n st d j < 512 := dif_lt9 (nall_lt hw n _)
theorem and_dif (a b : Nat) : dif a b &&& b = 0 := by
  apply Nat.eq_of_testBit_eq
  intro j
  rw [Nat.testBit_and, dif_bit, Nat.zero_testBit]
  cases a.testBit j <;> cases b.testBit j <;> rfl
/-- within k rounds all is lit, from a row and what is dark -/
def swW (nb : Nat → Nat) (n R : Nat) (st : Nat → Nat) (cg : Nat → Nat → Bool) : Nat → Nat → Nat → Prop
  | 0, _, d => d = 0
  | k + 1, i, d => ∃ j, j < R ∧ cg i j = true ∧ swW nb n R st cg k j (dkS nb n st d j)
def d0S (n : Nat) (st : Nat → Nat) (i : Nat) : Nat := dif (2 ^ n - 1) (st i)
def vS (n : Nat) (st : Nat → Nat) (i d : Nat) : Prop := d = 0 ∨ (d < 2 ^ n ∧ d &&& st i = 0)
/-- what is known of the rounds left: values are least ones, up to T; all that need less than t are known -/
def swA (nb : Nat → Nat) (n R : Nat) (st : Nat → Nat) (cg : Nat → Nat → Bool) (g : Nat → Nat → Option Nat) (T : Nat) : Prop := ∀ i d k, i < R → d < 512 → g i d = some k → k ≤ T ∧ swW nb n R st cg k i d ∧ ∀ k2, k2 < k → ¬ swW nb n R st cg k2 i d
def swB (nb : Nat → Nat) (n R : Nat) (st : Nat → Nat) (cg : Nat → Nat → Bool) (g : Nat → Nat → Option Nat) (t : Nat) : Prop := ∀ i d k, i < R → d < 512 → vS n st i d → k < t → swW nb n R st cg k i d → g i d ≠ none
def LFA (B : Nat → Nat → Int32) (g : Nat → Nat → Option Nat) (R : Nat) : Prop := ∀ i d, i < R → d < 512 → B 16 (512 * i + d) = oI (g i d)
def lbv (nb : Nat → Nat) (n : Nat) (st : Nat → Nat) (g : Nat → Nat → Option Nat) (d j : Nat) : Option Nat := match g j (dkS nb n st d j) with
  | none => none
  | some x => some (x + 1)
theorem lb_le {cg : Nat → Bool} {r : Nat → Option Nat} : ∀ (k j : Nat) (b : Option Nat) (x : Nat), fl (lbG cg r) k j b = some x → (∀ y, b = some y → x ≤ y) ∧ ∀ i y, j ≤ i → i < j + k → cg i = true → r i = some y → x ≤ y
  | 0, _, b, x, h => ⟨fun y hy => by have h' : b = some x := h; rw [h'] at hy; cases hy; exact Nat.le_refl _, fun i y h1 h2 => absurd h2 (by omega)⟩
  | k + 1, j, b, x, h => by
    obtain ⟨h1, h2⟩ := lb_le k (j + 1) (lbG cg r j b) x h
    have key : (∀ y, b = some y → x ≤ y) ∧ (cg j = true → ∀ y, r j = some y → x ≤ y) := by
      unfold lbG at h1
      by_cases hc : cg j = true
      · rw [if_pos hc] at h1
        cases hr : r j with
        | none =>
          rw [hr] at h1
          exact ⟨h1, fun _ y hy => by cases hy⟩
        | some z =>
          rw [hr] at h1
          cases b with
          | none => exact ⟨(fun y hy => by cases hy), (fun _ y hy => by cases hy; exact h1 _ rfl)⟩
          | some w =>
            have h1' : ∀ y, (if z < w then some z else some w) = some y → x ≤ y := h1
            by_cases hzw : z < w
            · rw [if_pos hzw] at h1'
              have := h1' z rfl
              exact ⟨fun y hy => by cases hy; omega, fun _ y hy => by cases hy; omega⟩
            · rw [if_neg hzw] at h1'
              have := h1' w rfl
              exact ⟨fun y hy => by cases hy; omega, fun _ y hy => by cases hy; omega⟩
      · rw [if_neg hc] at h1
        exact ⟨h1, fun z => absurd z hc⟩
    refine ⟨key.1, fun i y g1 g2 g3 g4 => ?_⟩
    by_cases e : i = j
    · subst e; exact key.2 g3 y g4
    · exact h2 i y (by omega) (by omega) g3 g4
theorem lbF_le {cg : Nat → Bool} {r : Nat → Option Nat} {R x : Nat} (h : lbF cg r R = some x) {i y : Nat} (hi : i < R) (hc : cg i = true) (hr : r i = some y) : x ≤ y := (lb_le R 0 none x h).2 i y (by omega) (by omega) hc hr
theorem vS_dk {nb : Nat → Nat} {n : Nat} (hN : isNet n nb) {st : Nat → Nat} {d j : Nat} : vS n st j (dkS nb n st d j) := Or.inr ⟨dkS_lt hN, and_dif _ _⟩
theorem lbv_some {nb : Nat → Nat} {n : Nat} {st : Nat → Nat} {g : Nat → Nat → Option Nat} {d j y : Nat} (h : lbv nb n st g d j = some y) : ∃ k, g j (dkS nb n st d j) = some k ∧ y = k + 1 := by
  unfold lbv at h
  split at h
  · cases h
  · rename_i k hk; cases h; exact ⟨k, hk, rfl⟩
theorem sw_ll {nb : Nat → Nat} {n R t i d : Nat} {st : Nat → Nat} {cg : Nat → Nat → Bool} {g : Nat → Nat → Option Nat} (hN : isNet n nb) (hn9 : n ≤ 9) (hA : swA nb n R st cg g (t + 1)) (hB : swB nb n R st cg g (t + 1)) (hi : i < R) (hd : d < 512) (hv : vS n st i d) (hg : g i d = none) : lbF (cg i) (lbv nb n st g d) R = some (t + 1) ↔ swW nb n R st cg (t + 1) i d := by
  have hd9 : ∀ j, dkS nb n st d j < 512 := fun j => Nat.lt_of_lt_of_le (dkS_lt hN) (pow9 hn9)
  constructor
  · intro h
    obtain ⟨j, hj, hc, hr⟩ := lbF_mem h
    obtain ⟨k, hk, e⟩ := lbv_some hr
    obtain ⟨-, h2, -⟩ := hA j _ k hj (hd9 j) hk
    have : k = t := by omega
    subst this
    exact ⟨j, hj, hc, h2⟩
  · rintro ⟨j, hj, hc, hW⟩
    have h1 := hB j _ t hj (hd9 j) (vS_dk hN) (by omega) hW
    cases hk : g j (dkS nb n st d j) with
    | none => exact absurd hk h1
    | some k =>
      have hkt : k ≤ t := by
        apply Classical.byContradiction
        intro hc2
        exact (hA j _ k hj (hd9 j) hk).2.2 t (by omega) hW
      have hr : lbv nb n st g d j = some (k + 1) := by unfold lbv; rw [hk]
      cases hl : lbF (cg i) (lbv nb n st g d) R with
      | none => rw [(lb_none R 0 none hl).2 j (by omega) (by omega) hc] at hr; cases hr
      | some x =>
        have hx := lbF_le hl hj hc hr
        obtain ⟨j2, hj2, hc2, hr2⟩ := lbF_mem hl
        obtain ⟨k2, hk2, e2⟩ := lbv_some hr2
        have hW2 : swW nb n R st cg (k2 + 1) i d := ⟨j2, hj2, hc2, (hA j2 _ k2 hj2 (hd9 j2) hk2).2.1⟩
        by_cases hlt : k2 + 1 < t + 1
        · exact absurd hg (hB i d (k2 + 1) hi hd hv hlt hW2)
        · exact congrArg some (by omega)
/-- the first row that is best to begin with -/
def bbG (v : Nat → Option Nat) (i : Nat) (b : Option (Nat × Nat)) : Option (Nat × Nat) := match v i with
  | none => b
  | some x => (match b with
    | none => some (i, x)
    | some y => if x < y.2 then some (i, x) else some y)
def bbF (v : Nat → Option Nat) (R : Nat) : Option (Nat × Nat) := fl (bbG v) R 0 none
theorem bb_ok {v : Nat → Option Nat} : ∀ (k i : Nat) (b : Option (Nat × Nat)), (∀ y, b = some y → y.1 < i ∧ v y.1 = some y.2 ∧ (∀ j x, j < i → v j = some x → y.2 ≤ x) ∧ ∀ j x, j < y.1 → v j = some x → y.2 < x) → (b = none → ∀ j, j < i → v j = none) → (∀ y, fl (bbG v) k i b = some y → y.1 < i + k ∧ v y.1 = some y.2 ∧ (∀ j x, j < i + k → v j = some x → y.2 ≤ x) ∧ ∀ j x, j < y.1 → v j = some x → y.2 < x) ∧ (fl (bbG v) k i b = none → ∀ j, j < i + k → v j = none)
  | 0, i, b, h1, h2 => ⟨h1, h2⟩
  | k + 1, i, b, h1, h2 => by
    have h := bb_ok (v := v) k (i + 1) (bbG v i b) ?_ ?_
    · rw [show i + 1 + k = i + (k + 1) by omega] at h
      exact h
    · intro y hy
      unfold bbG at hy
      cases hv : v i with
      | none =>
        rw [hv] at hy
        obtain ⟨g1, g2, g3, g4⟩ := h1 y hy
        refine ⟨by omega, g2, fun j x hj hx => ?_, g4⟩
        by_cases e : j = i
        · subst e; rw [hv] at hx; cases hx
        · exact g3 j x (by omega) hx
      | some x0 =>
        rw [hv] at hy
        cases b with
        | none =>
          cases hy
          refine ⟨by show i < i + 1; omega, hv, fun j x hj hx => ?_, fun j x hj hx => ?_⟩
          · by_cases e : j = i
            · subst e; rw [hv] at hx; cases hx; exact Nat.le_refl _
            · rw [h2 rfl j (by omega)] at hx; cases hx
          · rw [h2 rfl j hj] at hx; cases hx
        | some w =>
          obtain ⟨g1, g2, g3, g4⟩ := h1 w rfl
          have hy' : (if x0 < w.2 then some (i, x0) else some w) = some y := hy
          by_cases hlt : x0 < w.2
          · rw [if_pos hlt] at hy'
            cases hy'
            refine ⟨by show i < i + 1; omega, hv, fun j x hj hx => ?_, fun j x hj hx => ?_⟩
            · by_cases e : j = i
              · subst e; rw [hv] at hx; cases hx; exact Nat.le_refl _
              · have := g3 j x (by omega) hx
                show x0 ≤ x
                omega
            · have := g3 j x hj hx
              show x0 < x
              omega
          · rw [if_neg hlt] at hy'
            cases hy'
            refine ⟨by omega, g2, fun j x hj hx => ?_, g4⟩
            by_cases e : j = i
            · subst e; rw [hv] at hx; cases hx; omega
            · exact g3 j x (by omega) hx
    · intro hb j hj
      unfold bbG at hb
      cases hv : v i with
      | none =>
        rw [hv] at hb
        by_cases e : j = i
        · subst e; exact hv
        · exact h2 hb j (by omega)
      | some x0 =>
        rw [hv] at hb
        cases b with
        | none => cases hb
        | some w =>
          have hb' : (if x0 < w.2 then some (i, x0) else some w) = none := hb
          split at hb' <;> cases hb'
theorem bbF_some {v : Nat → Option Nat} {R : Nat} {y : Nat × Nat} (h : bbF v R = some y) : y.1 < R ∧ v y.1 = some y.2 ∧ (∀ j x, j < R → v j = some x → y.2 ≤ x) ∧ ∀ j x, j < y.1 → v j = some x → y.2 < x := by
  have := (bb_ok (v := v) R 0 none (fun y hy => by cases hy) (fun _ j hj => absurd hj (Nat.not_lt_zero j))).1 y h
  rw [Nat.zero_add] at this
  exact this
theorem bbF_none {v : Nat → Option Nat} {R : Nat} (h : bbF v R = none) : ∀ j, j < R → v j = none := fun j hj => (bb_ok (v := v) R 0 none (fun y hy => by cases hy) (fun _ j hj => absurd hj (Nat.not_lt_zero j))).2 h j (by omega)
theorem eX12_darkBehind {G : Gx} {d : Nat} {σ : Hp} (hd : 2 ≤ d) {m n R : Nat} {α : Nat → Int32} {B : Nat → Nat → Int32} {nb : Nat → Nat} {st : Nat → Nat} (hM : MA σ σ m α B) (hp : α 2 = nI n) (hn : n ≤ 9) (hb : ∀ p, p < n → B 1 p = nI (nb p)) (hw : ∀ p, nb p < 512) (hR45 : R ≤ 165) (hst : ∀ i, i < R → B 12 i = nI (st i)) (hsl : ∀ i, i < R → st i < 512) {d1 j : Nat} (hd1 : d1 < 512) (hj : j < R) : Cl G mX12_darkBehind d [.ref m, .int (nI d1), .int (nI j)] σ 0 0 (pI fun r s => r = nI (dkS nb n st d1 j) ∧ s = σ) := by
  obtain ⟨d0, hdd⟩ : ∃ e, d = e + 1 := ⟨d - 1, by omega⟩
  refine cl_of (by decide) (by simp [Value.category]) (Nat.le_of_ble_eq_true rfl) ?_
  show Wp G mX12_darkBehind d 0 [.ref m, .int (nI d1), .int (nI j)] [] σ 0 0 _
  refine wp_aload_n (atd dX12_darkBehind 0 rfl) rfl rfl ?_
  refine wp_iload_n (atd dX12_darkBehind 1 rfl) rfl ?_
  refine wp_aload_n (atd dX12_darkBehind 2 rfl) rfl rfl ?_
  refine wp_get fX12_51 (atd dX12_darkBehind 3 rfl) hM.1.1 rfl ?_
  refine wp_iload_n (atd dX12_darkBehind 4 rfl) rfl ?_
  refine wp_ialdN (atd dX12_darkBehind 5 rfl) hM.a12 (show _ < 165 from by omega) (Nat.le_of_ble_eq_true rfl) ?_
  rw [hst j hj]
  refine wp_iconst (v := -1) (atd dX12_darkBehind 6 rfl) (by decide) ?_
  refine wp_ixor (atd dX12_darkBehind 7 rfl) ?_
  refine wp_iandC (atd dX12_darkBehind 8 rfl) ?_
  refine wp_cVi hdd [_] (atd dX12_darkBehind 9 rfl) iX12_nearAll lX12_194 rfl rfl (Nat.le_of_ble_eq_true rfl) hM.1.1 rfl (eX12_nearAll (by omega) hM hp hn hb hw (by have := dif_lt9 (b := st j) hd1; omega)) (fun r_11 s_11 h_11 => ?_)
  obtain ⟨rfl, rfl⟩ := h_11
  refine wp_aload_n (atd dX12_darkBehind 10 rfl) rfl rfl ?_
  refine wp_get fX12_51 (atd dX12_darkBehind 11 rfl) hM.1.1 rfl ?_
  refine wp_iload_n (atd dX12_darkBehind 12 rfl) rfl ?_
  refine wp_ialdN (atd dX12_darkBehind 13 rfl) hM.a12 (show _ < 165 from by omega) (Nat.le_of_ble_eq_true rfl) ?_
  rw [hst j hj]
  refine wp_iconst (v := -1) (atd dX12_darkBehind 14 rfl) (by decide) ?_
  refine wp_ixor (atd dX12_darkBehind 15 rfl) ?_
  refine wp_iandC (atd dX12_darkBehind 16 rfl) ?_
  refine wp_ireti (atd dX12_darkBehind 17 rfl) rfl ?_
  exact ⟨rfl, rfl⟩
theorem eX12_leftBehind {G : Gx} {d : Nat} {σ : Hp} (hd : 3 ≤ d) {m n R X : Nat} {α : Nat → Int32} {B : Nat → Nat → Int32} {nb : Nat → Nat} {st : Nat → Nat} {g : Nat → Nat → Option Nat} (hM : MA σ σ m α B) (hp : α 2 = nI n) (hn : n ≤ 9) (hb : ∀ p, p < n → B 1 p = nI (nb p)) (hw : ∀ p, nb p < 512) (hR45 : R ≤ 45) (hst : ∀ i, i < R → B 12 i = nI (st i)) (hsl : ∀ i, i < R → st i < 512) (hL : LFA B g R) (hX : X < 1000) (hgX : ∀ i d x, i < R → d < 512 → g i d = some x → x ≤ X) (hg0 : ∀ i, i < R → g i 0 = some 0) {d1 j : Nat} (hd1 : d1 < 512) (hj : j < R) : Cl G mX12_leftBehind d [.ref m, .int (nI d1), .int (nI j)] σ 0 0 (pI fun r s => r = oI (lbv nb n st g d1 j) ∧ s = σ) := by
  obtain ⟨d0, hdd⟩ : ∃ e, d = e + 1 := ⟨d - 1, by omega⟩
  refine cl_of (by decide) (by simp [Value.category]) (Nat.le_of_ble_eq_true rfl) ?_
  show Wp G mX12_leftBehind d 0 [.ref m, .int (nI d1), .int (nI j), .double 0] [] σ 0 0 _
  refine wp_iload_n (atd dX12_leftBehind 0 rfl) rfl ?_
  refine wp_aload_n (atd dX12_leftBehind 1 rfl) rfl rfl ?_
  refine wp_get fX12_51 (atd dX12_leftBehind 2 rfl) hM.1.1 rfl ?_
  refine wp_iload_n (atd dX12_leftBehind 3 rfl) rfl ?_
  refine wp_ialdN (atd dX12_leftBehind 4 rfl) hM.a12 (show _ < 165 from by omega) (Nat.le_of_ble_eq_true rfl) ?_
  rw [hst j hj]
  refine wp_iconst (v := -1) (atd dX12_leftBehind 5 rfl) (by decide) ?_
  refine wp_ixor (atd dX12_leftBehind 6 rfl) ?_
  refine wp_iandC (atd dX12_leftBehind 7 rfl) ?_
  have hdl := dif_lt9 (b := st j) hd1
  refine wp_ifN_ne (tgt := 15) (atd dX12_leftBehind 8 rfl) (by decide) (by omega) (fun c_10 => ?_) (fun c_10 => ?_)
  ·
    refine wp_aload_n (atd dX12_leftBehind 11 rfl) rfl rfl ?_
    refine wp_get fX12_63 (atd dX12_leftBehind 12 rfl) hM.1.1 rfl ?_
    refine wp_sipush (v := nI 512) (atd dX12_leftBehind 13 rfl) (by decide) ?_
    refine wp_iload_n (atd dX12_leftBehind 14 rfl) rfl ?_
    refine wp_imulN (atd dX12_leftBehind 15 rfl) ?_
    refine wp_aload_n (atd dX12_leftBehind 16 rfl) rfl rfl ?_
    refine wp_iload_n (atd dX12_leftBehind 17 rfl) rfl ?_
    refine wp_iload_n (atd dX12_leftBehind 18 rfl) rfl ?_
    refine wp_cVi hdd [_, _] (atd dX12_leftBehind 19 rfl) iX12_darkBehind lX12_329 rfl rfl (Nat.le_of_ble_eq_true rfl) hM.1.1 rfl (eX12_darkBehind (by omega) hM hp hn hb hw (by omega) hst hsl hd1 hj) (fun r_27 s_27 h_27 => ?_)
    obtain ⟨rfl, rfl⟩ := h_27
    refine wp_iaddN (atd dX12_leftBehind 20 rfl) ?_
    refine wp_ialdN (atd dX12_leftBehind 21 rfl) hM.a16 (show _ < 23040 from (by have := dkS_lt9 (n := n) (st := st) (d := d1) (j := j) hw; omega)) (Nat.le_of_ble_eq_true rfl) ?_
    rw [hL j (dkS nb n st d1 j) hj (dkS_lt9 hw)]
    generalize hx : g j (dkS nb n st d1 j) = xx; rcases xx with _ | x
    ·
      refine wp_istore_n (atd dX12_leftBehind 22 rfl) (Nat.le_of_ble_eq_true rfl) ?_
      refine wp_iload_n (atd dX12_leftBehind 23 rfl) rfl ?_
      refine wp_if_ge (tgt := 41) (atd dX12_leftBehind 24 rfl) (by decide) (fun c_34 => ?_) (fun c_34 => ?_)
      · exact absurd c_34 (by decide)
      ·
        refine wp_iconst (v := -1) (atd dX12_leftBehind 25 rfl) (by decide) ?_
        refine wp_goto (tgt := 44) (atd dX12_leftBehind 26 rfl) (by decide) ?_
        refine wp_ireti (atd dX12_leftBehind 30 rfl) rfl ?_
        exact ⟨by unfold lbv; rw [hx]; rfl, rfl⟩
    ·
      have hx9 := hgX j _ x hj (dkS_lt9 hw) hx
      refine wp_istore_n (atd dX12_leftBehind 22 rfl) (Nat.le_of_ble_eq_true rfl) ?_
      refine wp_iload_n (atd dX12_leftBehind 23 rfl) rfl ?_
      refine wp_ifN_ge (tgt := 41) (atd dX12_leftBehind 24 rfl) (by decide) (by omega) ?_
      refine wp_iload_n (atd dX12_leftBehind 27 rfl) rfl ?_
      refine wp_iconst (v := nI 1) (atd dX12_leftBehind 28 rfl) (by decide) ?_
      refine wp_iaddN (atd dX12_leftBehind 29 rfl) ?_
      refine wp_ireti (atd dX12_leftBehind 30 rfl) rfl ?_
      exact ⟨by unfold lbv; rw [hx]; rfl, rfl⟩
  ·
    refine wp_iconst (v := nI 1) (atd dX12_leftBehind 9 rfl) (by decide) ?_
    refine wp_ireti (atd dX12_leftBehind 10 rfl) rfl ?_
    exact ⟨by unfold lbv; rw [dkS_zero (by omega), hg0 j hj]; rfl, rfl⟩
theorem lX12_leastLeft {G : Gx} {d : Nat} {σ : Hp} {v : Option Nat} (hd : 4 ≤ d) {m n R X : Nat} {α : Nat → Int32} {B : Nat → Nat → Int32} {nb : Nat → Nat} {st : Nat → Nat} {g : Nat → Nat → Option Nat} (hM : MA σ σ m α B) (hp : α 2 = nI n) (hn : n ≤ 9) (hb : ∀ p, p < n → B 1 p = nI (nb p)) (hw : ∀ p, nb p < 512) (hR45 : R ≤ 45) (hst : ∀ i, i < R → B 12 i = nI (st i)) (hsl : ∀ i, i < R → st i < 512) (hL : LFA B g R) (hX : X < 1000) (hgX : ∀ i d x, i < R → d < 512 → g i d = some x → x ≤ X) (hg0 : ∀ i, i < R → g i 0 = some 0) {i d1 : Nat} {cg : Nat → Nat → Bool} (h32 : α 32 = nI R) (hi : i < R) (hd1 : d1 < 512) (hcg : ∀ x y, x < R → y < R → B 9 (165 * x + y) = bI (cg x y = true)) : ∀ (k : Nat) (j : Nat) (b : Option Nat) (e5 : Value), j + k = R → (∀ y, b = some y → y ≤ X + 1) → fl (lbG (cg i) (lbv nb n st g d1)) k j b = v → Wp G mX12_leastLeft d 5 [.ref m, .int (nI i), .int (nI d1), .int (oI b), .int (nI j), e5] [] σ 0 0 (pI fun r s => r = oI v ∧ s = σ) := by
  obtain ⟨d0, hdd⟩ : ∃ e, d = e + 1 := ⟨d - 1, by omega⟩
  intro k
  induction k with
  | zero =>
    intro j b e5 h2 hb9 hv
    refine wp_iload (atd dX12_leastLeft 4 rfl) rfl ?_
    refine wp_aload_n (atd dX12_leastLeft 5 rfl) rfl rfl ?_
    refine wp_get fX12_234 (atd dX12_leastLeft 6 rfl) hM.1.1 (congrArg (fun z => some (Value.int z)) h32) ?_
    refine wp_icmpN_ge (tgt := 71) (atd dX12_leastLeft 7 rfl) (by decide) (by omega) (by omega) (fun c_11 => ?_) (fun c_11 => ?_)
    ·
      refine wp_iload_n (atd dX12_leastLeft 37 rfl) rfl ?_
      refine wp_ireti (atd dX12_leastLeft 38 rfl) rfl ?_
      exact ⟨by rw [← hv]; rfl, rfl⟩
    · exfalso; omega
  | succ k ih =>
    intro j b e5 h2 hb9 hv
    refine wp_iload (atd dX12_leastLeft 4 rfl) rfl ?_
    refine wp_aload_n (atd dX12_leastLeft 5 rfl) rfl rfl ?_
    refine wp_get fX12_234 (atd dX12_leastLeft 6 rfl) hM.1.1 (congrArg (fun z => some (Value.int z)) h32) ?_
    refine wp_icmpN_ge (tgt := 71) (atd dX12_leastLeft 7 rfl) (by decide) (by omega) (by omega) (fun c_11 => ?_) (fun c_11 => ?_)
    · exfalso; omega
    ·
      refine wp_aload_n (atd dX12_leastLeft 8 rfl) rfl rfl ?_
      refine wp_get fX12_41 (atd dX12_leastLeft 9 rfl) hM.1.1 rfl ?_
      refine wp_sipush (v := nI 165) (atd dX12_leastLeft 10 rfl) (by decide) ?_
      refine wp_iload_n (atd dX12_leastLeft 11 rfl) rfl ?_
      refine wp_imulN (atd dX12_leastLeft 12 rfl) ?_
      refine wp_iload (atd dX12_leastLeft 13 rfl) rfl ?_
      refine wp_iaddN (atd dX12_leastLeft 14 rfl) ?_
      refine wp_zaldN (atd dX12_leastLeft 15 rfl) hM.a9 (show _ < 27225 from by omega) (Nat.le_of_ble_eq_true rfl) ?_
      rw [hcg i j hi (by omega)]
      refine wp_ifB_eq (tgt := 40) (atd dX12_leastLeft 16 rfl) (by decide) (fun c_27 => ?_) (fun c_27 => ?_)
      ·
        refine wp_iconst (v := -1) (atd dX12_leastLeft 22 rfl) (by decide) ?_
        refine wp_istore (atd dX12_leastLeft 23 rfl) (Nat.le_of_ble_eq_true rfl) ?_
        refine wp_iload (atd dX12_leastLeft 24 rfl) rfl ?_
        refine wp_if_lt (tgt := 63) (atd dX12_leastLeft 25 rfl) (by decide) (fun c_45 => ?_) (fun c_45 => ?_)
        ·
          refine wp_iload_n (atd dX12_leastLeft 33 rfl) rfl ?_
          refine wp_istore_n (atd dX12_leastLeft 34 rfl) (Nat.le_of_ble_eq_true rfl) ?_
          refine wp_iincN (c := 1) (atd dX12_leastLeft 35 rfl) rfl ?_
          refine wp_goto (tgt := 5) (atd dX12_leastLeft 36 rfl) (by decide) ?_
          exact ih (j + 1) b _ (by omega) hb9 (by rw [← hv]; simp [fl, lbG, c_27])
        · exact absurd (by decide) c_45
      ·
        refine wp_aload_n (atd dX12_leastLeft 17 rfl) rfl rfl ?_
        refine wp_iload_n (atd dX12_leastLeft 18 rfl) rfl ?_
        refine wp_iload (atd dX12_leastLeft 19 rfl) rfl ?_
        refine wp_cVi hdd [_, _] (atd dX12_leastLeft 20 rfl) iX12_leftBehind lX12_332 rfl rfl (Nat.le_of_ble_eq_true rfl) hM.1.1 rfl (eX12_leftBehind (by omega) hM hp hn hb hw hR45 hst hsl hL hX hgX hg0 hd1 (j := j) (by omega)) (fun r_34 s_34 h_34 => ?_)
        obtain ⟨rfl, rfl⟩ := h_34
        generalize hx : lbv nb n st g d1 j = xx; rcases xx with _ | x
        ·
          refine wp_goto (tgt := 41) (atd dX12_leastLeft 21 rfl) (by decide) ?_
          refine wp_istore (atd dX12_leastLeft 23 rfl) (Nat.le_of_ble_eq_true rfl) ?_
          refine wp_iload (atd dX12_leastLeft 24 rfl) rfl ?_
          refine wp_if_lt (tgt := 63) (atd dX12_leastLeft 25 rfl) (by decide) (fun c_45 => ?_) (fun c_45 => ?_)
          ·
            refine wp_iload_n (atd dX12_leastLeft 33 rfl) rfl ?_
            refine wp_istore_n (atd dX12_leastLeft 34 rfl) (Nat.le_of_ble_eq_true rfl) ?_
            refine wp_iincN (c := 1) (atd dX12_leastLeft 35 rfl) rfl ?_
            refine wp_goto (tgt := 5) (atd dX12_leastLeft 36 rfl) (by decide) ?_
            exact ih (j + 1) b _ (by omega) hb9 (by rw [← hv]; simp [fl, lbG, c_27, hx])
          · exact absurd (by decide) c_45
        ·
          have hx9 : x ≤ X + 1 := by obtain ⟨z, hz, e⟩ := lbv_some hx; have := hgX j _ z (by omega) (dkS_lt9 hw) hz; omega
          refine wp_goto (tgt := 41) (atd dX12_leastLeft 21 rfl) (by decide) ?_
          refine wp_istore (atd dX12_leastLeft 23 rfl) (Nat.le_of_ble_eq_true rfl) ?_
          refine wp_iload (atd dX12_leastLeft 24 rfl) rfl ?_
          refine wp_ifN_lt (tgt := 63) (atd dX12_leastLeft 25 rfl) (by decide) (by omega) ?_
          rcases b with _ | y
          ·
            refine wp_iload_n (atd dX12_leastLeft 26 rfl) rfl ?_
            refine wp_if_lt (tgt := 58) (atd dX12_leastLeft 27 rfl) (by decide) (fun c_49 => ?_) (fun c_49 => ?_)
            ·
              refine wp_iload (atd dX12_leastLeft 31 rfl) rfl ?_
              refine wp_goto (tgt := 64) (atd dX12_leastLeft 32 rfl) (by decide) ?_
              refine wp_istore_n (atd dX12_leastLeft 34 rfl) (Nat.le_of_ble_eq_true rfl) ?_
              refine wp_iincN (c := 1) (atd dX12_leastLeft 35 rfl) rfl ?_
              refine wp_goto (tgt := 5) (atd dX12_leastLeft 36 rfl) (by decide) ?_
              exact ih (j + 1) (some x) _ (by omega) (by intro z hz; cases hz; omega) (by rw [← hv]; simp [fl, lbG, c_27, hx])
            · exact absurd (by decide) c_49
          ·
            have hy9 := hb9 y rfl
            refine wp_iload_n (atd dX12_leastLeft 26 rfl) rfl ?_
            refine wp_ifN_lt (tgt := 58) (atd dX12_leastLeft 27 rfl) (by decide) (by omega) ?_
            refine wp_iload (atd dX12_leastLeft 28 rfl) rfl ?_
            refine wp_iload_n (atd dX12_leastLeft 29 rfl) rfl ?_
            refine wp_icmpN_ge (tgt := 63) (atd dX12_leastLeft 30 rfl) (by decide) (by omega) (by omega) (fun c_55 => ?_) (fun c_55 => ?_)
            ·
              refine wp_iload_n (atd dX12_leastLeft 33 rfl) rfl ?_
              refine wp_istore_n (atd dX12_leastLeft 34 rfl) (Nat.le_of_ble_eq_true rfl) ?_
              refine wp_iincN (c := 1) (atd dX12_leastLeft 35 rfl) rfl ?_
              refine wp_goto (tgt := 5) (atd dX12_leastLeft 36 rfl) (by decide) ?_
              exact ih (j + 1) (some y) _ (by omega) hb9 (by rw [← hv]; simp [fl, lbG, c_27, hx, show ¬ x < y by omega])
            ·
              refine wp_iload (atd dX12_leastLeft 31 rfl) rfl ?_
              refine wp_goto (tgt := 64) (atd dX12_leastLeft 32 rfl) (by decide) ?_
              refine wp_istore_n (atd dX12_leastLeft 34 rfl) (Nat.le_of_ble_eq_true rfl) ?_
              refine wp_iincN (c := 1) (atd dX12_leastLeft 35 rfl) rfl ?_
              refine wp_goto (tgt := 5) (atd dX12_leastLeft 36 rfl) (by decide) ?_
              exact ih (j + 1) (some x) _ (by omega) (by intro z hz; cases hz; omega) (by rw [← hv]; simp [fl, lbG, c_27, hx, c_55])
theorem eX12_leastLeft {G : Gx} {d : Nat} {σ : Hp} (hd : 4 ≤ d) {m n R X : Nat} {α : Nat → Int32} {B : Nat → Nat → Int32} {nb : Nat → Nat} {st : Nat → Nat} {g : Nat → Nat → Option Nat} (hM : MA σ σ m α B) (hp : α 2 = nI n) (hn : n ≤ 9) (hb : ∀ p, p < n → B 1 p = nI (nb p)) (hw : ∀ p, nb p < 512) (hR45 : R ≤ 45) (hst : ∀ i, i < R → B 12 i = nI (st i)) (hsl : ∀ i, i < R → st i < 512) (hL : LFA B g R) (hX : X < 1000) (hgX : ∀ i d x, i < R → d < 512 → g i d = some x → x ≤ X) (hg0 : ∀ i, i < R → g i 0 = some 0) {i d1 : Nat} {cg : Nat → Nat → Bool} (h32 : α 32 = nI R) (hi : i < R) (hd1 : d1 < 512) (hcg : ∀ x y, x < R → y < R → B 9 (165 * x + y) = bI (cg x y = true)) : Cl G mX12_leastLeft d [.ref m, .int (nI i), .int (nI d1)] σ 0 0 (pI fun v s => v = oI (lbF (cg i) (lbv nb n st g d1) R) ∧ s = σ) := by
  obtain ⟨d0, hdd⟩ : ∃ e, d = e + 1 := ⟨d - 1, by omega⟩
  refine cl_of (by decide) (by simp [Value.category]) (Nat.le_of_ble_eq_true rfl) ?_
  show Wp G mX12_leastLeft d 0 [.ref m, .int (nI i), .int (nI d1), .double 0, .double 0, .double 0] [] σ 0 0 _
  refine wp_iconst (v := -1) (atd dX12_leastLeft 0 rfl) (by decide) ?_
  refine wp_istore_n (atd dX12_leastLeft 1 rfl) (Nat.le_of_ble_eq_true rfl) ?_
  refine wp_iconst (v := nI 0) (atd dX12_leastLeft 2 rfl) (by decide) ?_
  refine wp_istore (atd dX12_leastLeft 3 rfl) (Nat.le_of_ble_eq_true rfl) ?_
  exact lX12_leastLeft hd hM hp hn hb hw hR45 hst hsl hL hX hgX hg0 h32 hi hd1 hcg R 0 none _ (by omega) (by intro y hy; cases hy) rfl
def o1 (b : Option (Nat × Nat)) : Option Nat := match b with
  | none => none
  | some y => some y.1
def o2 (b : Option (Nat × Nat)) : Option Nat := match b with
  | none => none
  | some y => some y.2
theorem lX12_bestBegin {G : Gx} {d : Nat} {σ : Hp} {v : Option (Nat × Nat)} (hd : 1 ≤ d) {m n R X : Nat} {α : Nat → Int32} {B : Nat → Nat → Int32} {nb : Nat → Nat} {st : Nat → Nat} {g : Nat → Nat → Option Nat} (hM : MA σ σ m α B) (hp : α 2 = nI n) (hn : n ≤ 9) (hb : ∀ p, p < n → B 1 p = nI (nb p)) (hw : ∀ p, nb p < 512) (hR45 : R ≤ 45) (hst : ∀ i, i < R → B 12 i = nI (st i)) (hsl : ∀ i, i < R → st i < 512) (hL : LFA B g R) (hX : X < 1000) (hgX : ∀ i d x, i < R → d < 512 → g i d = some x → x ≤ X) (hg0 : ∀ i, i < R → g i 0 = some 0) (h32 : α 32 = nI R) : ∀ (k : Nat) (i : Nat) (b : Option (Nat × Nat)) (e4 : Value), i + k = R → (∀ y, b = some y → y.1 < 45 ∧ y.2 ≤ X) → fl (bbG (fun i => g i (d0S n st i))) k i b = v → Wp G mX12_bestBegin d 6 [.ref m, .int (oI (o1 b)), .int (oI (o2 b)), .int (nI i), e4] [] σ 0 0 (pI fun r s => r = oI (o1 v) ∧ s = σ) := by
  obtain ⟨d0, hdd⟩ : ∃ e, d = e + 1 := ⟨d - 1, by omega⟩
  intro k
  induction k with
  | zero =>
    intro i b e4 h2 hb9 hv
    refine wp_iload_n (atd dX12_bestBegin 6 rfl) rfl ?_
    refine wp_aload_n (atd dX12_bestBegin 7 rfl) rfl rfl ?_
    refine wp_get fX12_234 (atd dX12_bestBegin 8 rfl) hM.1.1 (congrArg (fun z => some (Value.int z)) h32) ?_
    refine wp_icmpN_ge (tgt := 66) (atd dX12_bestBegin 9 rfl) (by decide) (by omega) (by omega) (fun c_11 => ?_) (fun c_11 => ?_)
    ·
      refine wp_iload_n (atd dX12_bestBegin 40 rfl) rfl ?_
      refine wp_ireti (atd dX12_bestBegin 41 rfl) rfl ?_
      exact ⟨by rw [← hv]; rfl, rfl⟩
    · exfalso; omega
  | succ k ih =>
    intro i b e4 h2 hb9 hv
    have hdd0 : d0S n st i < 512 := by have h1 := dif_lt (a := 2 ^ n - 1) (b := st i) (k := 9) (by have := pow9 hn; have : 0 < 2 ^ n := Nat.two_pow_pos n; omega); exact h1
    refine wp_iload_n (atd dX12_bestBegin 6 rfl) rfl ?_
    refine wp_aload_n (atd dX12_bestBegin 7 rfl) rfl rfl ?_
    refine wp_get fX12_234 (atd dX12_bestBegin 8 rfl) hM.1.1 (congrArg (fun z => some (Value.int z)) h32) ?_
    refine wp_icmpN_ge (tgt := 66) (atd dX12_bestBegin 9 rfl) (by decide) (by omega) (by omega) (fun c_11 => ?_) (fun c_11 => ?_)
    · exfalso; omega
    ·
      refine wp_aload_n (atd dX12_bestBegin 10 rfl) rfl rfl ?_
      refine wp_get fX12_63 (atd dX12_bestBegin 11 rfl) hM.1.1 rfl ?_
      refine wp_sipush (v := nI 512) (atd dX12_bestBegin 12 rfl) (by decide) ?_
      refine wp_iload_n (atd dX12_bestBegin 13 rfl) rfl ?_
      refine wp_imulN (atd dX12_bestBegin 14 rfl) ?_
      refine wp_aload_n (atd dX12_bestBegin 15 rfl) rfl rfl ?_
      refine wp_cVi hdd [] (atd dX12_bestBegin 16 rfl) iX12_allPlaces lX12_191 rfl rfl (Nat.le_of_ble_eq_true rfl) hM.1.1 rfl (eX12_allPlaces (by omega) hM hp hn) (fun r_24 s_24 h_24 => ?_)
      obtain ⟨rfl, rfl⟩ := h_24
      refine wp_aload_n (atd dX12_bestBegin 17 rfl) rfl rfl ?_
      refine wp_get fX12_51 (atd dX12_bestBegin 18 rfl) hM.1.1 rfl ?_
      refine wp_iload_n (atd dX12_bestBegin 19 rfl) rfl ?_
      refine wp_ialdN (atd dX12_bestBegin 20 rfl) hM.a12 (show _ < 165 from by omega) (Nat.le_of_ble_eq_true rfl) ?_
      rw [hst i (by omega)]
      refine wp_iconst (v := -1) (atd dX12_bestBegin 21 rfl) (by decide) ?_
      refine wp_ixor (atd dX12_bestBegin 22 rfl) ?_
      refine wp_iandC (atd dX12_bestBegin 23 rfl) ?_
      refine wp_iaddN (atd dX12_bestBegin 24 rfl) ?_
      refine wp_ialdN (atd dX12_bestBegin 25 rfl) hM.a16 (show _ < 23040 from (show 512 * i + d0S n st i < 23040 by omega)) (Nat.le_of_ble_eq_true rfl) ?_
      rw [show B 16 (512 * i + dif (2 ^ n - 1) (st i)) = oI (g i (d0S n st i)) from hL i _ (by omega) hdd0]
      generalize hx : g i (d0S n st i) = xx; rcases xx with _ | x
      ·
        refine wp_istore (atd dX12_bestBegin 26 rfl) (Nat.le_of_ble_eq_true rfl) ?_
        refine wp_iload (atd dX12_bestBegin 27 rfl) rfl ?_
        refine wp_if_lt (tgt := 60) (atd dX12_bestBegin 28 rfl) (by decide) (fun c_42 => ?_) (fun c_42 => ?_)
        ·
          refine wp_iincN (c := 1) (atd dX12_bestBegin 38 rfl) rfl ?_
          refine wp_goto (tgt := 6) (atd dX12_bestBegin 39 rfl) (by decide) ?_
          exact ih (i + 1) b _ (by omega) hb9 (by rw [← hv]; show fl (bbG (fun i => g i (d0S n st i))) k (i + 1) b = fl (bbG (fun i => g i (d0S n st i))) k (i + 1) (bbG (fun i => g i (d0S n st i)) i b); rw [show bbG (fun i => g i (d0S n st i)) i b = b from by unfold bbG; simp only [hx]])
        · exact absurd (by decide) c_42
      ·
        have hx9 := hgX i _ x (by omega) hdd0 hx
        refine wp_istore (atd dX12_bestBegin 26 rfl) (Nat.le_of_ble_eq_true rfl) ?_
        refine wp_iload (atd dX12_bestBegin 27 rfl) rfl ?_
        refine wp_ifN_lt (tgt := 60) (atd dX12_bestBegin 28 rfl) (by decide) (by omega) ?_
        rcases b with _ | y
        ·
          refine wp_iload_n (atd dX12_bestBegin 29 rfl) rfl ?_
          refine wp_if_lt (tgt := 55) (atd dX12_bestBegin 30 rfl) (by decide) (fun c_46 => ?_) (fun c_46 => ?_)
          ·
            refine wp_iload_n (atd dX12_bestBegin 34 rfl) rfl ?_
            refine wp_istore_n (atd dX12_bestBegin 35 rfl) (Nat.le_of_ble_eq_true rfl) ?_
            refine wp_iload (atd dX12_bestBegin 36 rfl) rfl ?_
            refine wp_istore_n (atd dX12_bestBegin 37 rfl) (Nat.le_of_ble_eq_true rfl) ?_
            refine wp_iincN (c := 1) (atd dX12_bestBegin 38 rfl) rfl ?_
            refine wp_goto (tgt := 6) (atd dX12_bestBegin 39 rfl) (by decide) ?_
            exact ih (i + 1) (some (i, x)) _ (by omega) (by intro z hz; cases hz; exact ⟨by show i < 45; omega, hx9⟩) (by rw [← hv]; show _ = fl (bbG (fun i => g i (d0S n st i))) k (i + 1) (bbG (fun i => g i (d0S n st i)) i none); rw [show bbG (fun i => g i (d0S n st i)) i none = some (i, x) from by unfold bbG; simp only [hx]])
          · exact absurd (by decide) c_46
        ·
          obtain ⟨hy8, hy9⟩ := hb9 y rfl
          refine wp_iload_n (atd dX12_bestBegin 29 rfl) rfl ?_
          refine wp_ifN_lt (tgt := 55) (atd dX12_bestBegin 30 rfl) (by decide) (by omega) ?_
          refine wp_iload (atd dX12_bestBegin 31 rfl) rfl ?_
          refine wp_iload_n (atd dX12_bestBegin 32 rfl) rfl ?_
          refine wp_icmpN_ge (tgt := 60) (atd dX12_bestBegin 33 rfl) (by decide) (by omega) (by omega) (fun c_52 => ?_) (fun c_52 => ?_)
          ·
            refine wp_iincN (c := 1) (atd dX12_bestBegin 38 rfl) rfl ?_
            refine wp_goto (tgt := 6) (atd dX12_bestBegin 39 rfl) (by decide) ?_
            exact ih (i + 1) (some y) _ (by omega) hb9 (by rw [← hv]; show _ = fl (bbG (fun i => g i (d0S n st i))) k (i + 1) (bbG (fun i => g i (d0S n st i)) i (some y)); rw [show bbG (fun i => g i (d0S n st i)) i (some y) = some y from by unfold bbG; simp only [hx]; exact if_neg (by omega)])
          ·
            refine wp_iload_n (atd dX12_bestBegin 34 rfl) rfl ?_
            refine wp_istore_n (atd dX12_bestBegin 35 rfl) (Nat.le_of_ble_eq_true rfl) ?_
            refine wp_iload (atd dX12_bestBegin 36 rfl) rfl ?_
            refine wp_istore_n (atd dX12_bestBegin 37 rfl) (Nat.le_of_ble_eq_true rfl) ?_
            refine wp_iincN (c := 1) (atd dX12_bestBegin 38 rfl) rfl ?_
            refine wp_goto (tgt := 6) (atd dX12_bestBegin 39 rfl) (by decide) ?_
            exact ih (i + 1) (some (i, x)) _ (by omega) (by intro z hz; cases hz; exact ⟨by show i < 45; omega, hx9⟩) (by rw [← hv]; show _ = fl (bbG (fun i => g i (d0S n st i))) k (i + 1) (bbG (fun i => g i (d0S n st i)) i (some y)); rw [show bbG (fun i => g i (d0S n st i)) i (some y) = some (i, x) from by unfold bbG; simp only [hx]; exact if_pos c_52])
theorem eX12_bestBegin {G : Gx} {d : Nat} {σ : Hp} (hd : 1 ≤ d) {m n R X : Nat} {α : Nat → Int32} {B : Nat → Nat → Int32} {nb : Nat → Nat} {st : Nat → Nat} {g : Nat → Nat → Option Nat} (hM : MA σ σ m α B) (hp : α 2 = nI n) (hn : n ≤ 9) (hb : ∀ p, p < n → B 1 p = nI (nb p)) (hw : ∀ p, nb p < 512) (hR45 : R ≤ 45) (hst : ∀ i, i < R → B 12 i = nI (st i)) (hsl : ∀ i, i < R → st i < 512) (hL : LFA B g R) (hX : X < 1000) (hgX : ∀ i d x, i < R → d < 512 → g i d = some x → x ≤ X) (hg0 : ∀ i, i < R → g i 0 = some 0) (h32 : α 32 = nI R) : Cl G mX12_bestBegin d [.ref m] σ 0 0 (pI fun v s => v = oI (o1 (bbF (fun i => g i (d0S n st i)) R)) ∧ s = σ) := by
  obtain ⟨d0, hdd⟩ : ∃ e, d = e + 1 := ⟨d - 1, by omega⟩
  refine cl_of (by decide) (by simp [Value.category]) (Nat.le_of_ble_eq_true rfl) ?_
  show Wp G mX12_bestBegin d 0 [.ref m, .double 0, .double 0, .double 0, .double 0] [] σ 0 0 _
  refine wp_iconst (v := -1) (atd dX12_bestBegin 0 rfl) (by decide) ?_
  refine wp_istore_n (atd dX12_bestBegin 1 rfl) (Nat.le_of_ble_eq_true rfl) ?_
  refine wp_iconst (v := -1) (atd dX12_bestBegin 2 rfl) (by decide) ?_
  refine wp_istore_n (atd dX12_bestBegin 3 rfl) (Nat.le_of_ble_eq_true rfl) ?_
  refine wp_iconst (v := nI 0) (atd dX12_bestBegin 4 rfl) (by decide) ?_
  refine wp_istore_n (atd dX12_bestBegin 5 rfl) (Nat.le_of_ble_eq_true rfl) ?_
  exact lX12_bestBegin hd hM hp hn hb hw hR45 hst hsl hL hX hgX hg0 h32 R 0 none _ (by omega) (by intro y hy; cases hy) rfl
