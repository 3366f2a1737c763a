theorem bI_iff2 {p q : Prop} [Decidable p] [Decidable q] : bI p = bI q ↔ (p ↔ q) := by
  constructor
  · intro h
    by_cases hp : p <;> by_cases hq : q
    · exact ⟨fun _ => hq, fun _ => hp⟩
    · rw [bI_t hp, bI_f hq] at h; exact absurd h (by decide)
    · rw [bI_f hp, bI_t hq] at h; exact absurd h (by decide)
    · exact ⟨fun z => absurd z hp, fun z => absurd z hq⟩
  · exact bI_c
def jn (nb : Nat → Nat) (n p q : Nat) : Bool := decide (p ≠ q ∧ q < n ∧ (nb p).testBit q = true)
def fitL (nb : Nat → Nat) (n : Nat) (od nu : Nat → Nat) (i v : Nat) : Nat → Nat → Bool
  | 0, _ => true
  | k + 1, j => if nu j ≠ v ∧ jn nb n (od j) (od i) = jn nb n (nu j) v then fitL nb n od nu i v k (j + 1) else false
def fitC (nb : Nat → Nat) (n : Nat) (od nu : Nat → Nat) (i v : Nat) : Bool := decide (cnt (nb (od i)) - 1 = cnt (nb v) - 1) && fitL nb n od nu i v i 0
theorem fitL_iff {nb : Nat → Nat} {n : Nat} {od nu : Nat → Nat} {i v : Nat} : ∀ {k j : Nat}, fitL nb n od nu i v k j = true ↔ ∀ x, j ≤ x → x < j + k → nu x ≠ v ∧ jn nb n (od x) (od i) = jn nb n (nu x) v
  | 0, j => ⟨fun _ x h1 h2 => (by omega), fun _ => rfl⟩
  | k + 1, j => by
    rw [fitL]
    split
    · rename_i h
      rw [fitL_iff]
      constructor
      · intro z x h1 h2
        by_cases e : x = j
        · subst e; exact h
        · exact z x (by omega) (by omega)
      · intro z x h1 h2
        exact z x (by omega) (by omega)
    · rename_i h
      exact ⟨fun z => (by cases z), fun z => absurd (z j (Nat.le_refl _) (by omega)) h⟩
theorem fitC_iff {nb : Nat → Nat} {n : Nat} {od nu : Nat → Nat} {i v : Nat} : fitC nb n od nu i v = true ↔ cnt (nb (od i)) - 1 = cnt (nb v) - 1 ∧ ∀ x, x < i → nu x ≠ v ∧ jn nb n (od x) (od i) = jn nb n (nu x) v := by
  rw [fitC, Bool.and_eq_true, decide_eq_true_iff, fitL_iff]
  constructor
  · exact fun h => ⟨h.1, fun x hx => h.2 x (Nat.zero_le _) (by omega)⟩
  · exact fun h => ⟨h.1, fun x _ hx => h.2 x (by omega)⟩
theorem bool_eq {a b : Bool} (h : a = true ↔ b = true) : a = b := by cases a <;> cases b <;> simp_all
theorem fitC_cg {nb : Nat → Nat} {n : Nat} {od od2 nu nu2 : Nat → Nat} {i v : Nat} (h1 : ∀ j, j ≤ i → od j = od2 j) (h2 : ∀ j, j < i → nu j = nu2 j) : fitC nb n od nu i v = fitC nb n od2 nu2 i v := by
  apply bool_eq
  rw [fitC_iff, fitC_iff, h1 i (Nat.le_refl _)]
  constructor
  · exact fun h => ⟨h.1, fun x hx => by rw [← h2 x hx, ← h1 x (by omega)]; exact h.2 x hx⟩
  · exact fun h => ⟨h.1, fun x hx => by rw [h2 x hx, h1 x (by omega)]; exact h.2 x hx⟩
def anyB (f : Nat → Bool) : Nat → Nat → Bool
  | 0, _ => false
  | k + 1, q => if f q = true then true else anyB f k (q + 1)
theorem anyB_iff {f : Nat → Bool} : ∀ {k q : Nat}, anyB f k q = true ↔ ∃ x, q ≤ x ∧ x < q + k ∧ f x = true
  | 0, q => ⟨fun e => (by cases e), fun ⟨x, h1, h2, _⟩ => (by omega)⟩
  | k + 1, q => by
    rw [anyB]
    split
    · rename_i h
      exact ⟨fun _ => ⟨q, Nat.le_refl _, by omega, h⟩, fun _ => rfl⟩
    · rename_i h
      rw [anyB_iff]
      constructor
      · rintro ⟨x, h1, h2, h3⟩; exact ⟨x, by omega, by omega, h3⟩
      · rintro ⟨x, h1, h2, h3⟩
        have : x ≠ q := fun e => h (e ▸ h3)
        exact ⟨x, by omega, by omega, h3⟩
theorem anyB_cg {f g : Nat → Bool} (h : ∀ x, f x = g x) (k q : Nat) : anyB f k q = anyB g k q := by rw [show f = g from funext h]
/-- whether what stands below i can be completed -/
def cpl (nb : Nat → Nat) (n : Nat) (od : Nat → Nat) : Nat → Nat → (Nat → Nat) → Bool
  | 0, _, _ => true
  | x + 1, i, nu => anyB (fun q => fitC nb n od nu i q && cpl nb n od x (i + 1) (va_up nu i q)) n 0
theorem cpl_cg {nb : Nat → Nat} {n : Nat} {od od2 : Nat → Nat} : ∀ {x i : Nat} {nu nu2 : Nat → Nat}, (∀ j, j < i + x → od j = od2 j) → (∀ j, j < i → nu j = nu2 j) → cpl nb n od x i nu = cpl nb n od2 x i nu2
  | 0, _, _, _, _, _ => rfl
  | x + 1, i, nu, nu2, h1, h2 => by
    rw [cpl, cpl]
    refine anyB_cg (fun q => ?_) n 0
    rw [fitC_cg (fun j hj => h1 j (by omega)) h2]
    rw [cpl_cg (x := x) (i := i + 1) (nu := va_up nu i q) (nu2 := va_up nu2 i q) (fun j hj => h1 j (by omega)) (fun j hj => by
      by_cases e : j = i
      · simp [va_up, e]
      · simp only [va_up, if_neg e]; exact h2 j (by omega))]
def cbB (nb : Nat → Nat) (n : Nat) (od nu : Nat → Nat) (i v : Nat) : Bool := fitC nb n od nu i v && cpl nb n od (n - (i + 1)) (i + 1) (va_up nu i v)
theorem cbB_cg {nb : Nat → Nat} {n : Nat} {od od2 nu nu2 : Nat → Nat} {i v : Nat} (hi : i < n) (h1 : ∀ j, j < n → od j = od2 j) (h2 : ∀ j, j < i → nu j = nu2 j) : cbB nb n od nu i v = cbB nb n od2 nu2 i v := by
  rw [cbB, cbB, fitC_cg (fun j hj => h1 j (by omega)) h2, cpl_cg (nu := va_up nu i v) (nu2 := va_up nu2 i v) (fun j hj => h1 j (by omega)) (fun j hj => by
      by_cases e : j = i
      · simp [va_up, e]
      · simp only [va_up, if_neg e]; exact h2 j (by omega))]
theorem up_lt9 {g : Nat → Nat} {c v : Nat} (hw : ∀ x, g x < 9) (hv : v < 9) : ∀ x, va_up g c v x < 9 := fun x => by
  unfold va_up
  split
  · exact hv
  · exact hw x
theorem lX9_fits0 {G : Gx} {d : Nat} {σ : Hp} {kn ko km i v j : Nat} {od : Nat → Nat} {b : Bool} (hb : b = false) : Wp G mX9_fits d 30 [.ref kn, .ref ko, .ref km, .int (nI i), .int (nI v), .int (nI (od i)), .int (nI 0), .int (nI j)] [] σ 0 0 (pI fun r s => r = bI (b = true) ∧ s = σ) := by
  refine wp_iload (atd dX9_fits 17 rfl) rfl ?_
  refine wp_ifN_eq (tgt := 86) (atd dX9_fits 18 rfl) (by decide) (by omega) (fun c_32 => ?_) (fun c_32 => ?_)
  ·
    refine wp_iload (atd dX9_fits 46 rfl) rfl ?_
    refine wp_iretz (atd dX9_fits 47 rfl) rfl (by first | rfl | decide) ?_
    exact ⟨by rw [hb]; decide, rfl⟩
  · exact absurd c_32 (by decide)
theorem lX9_fits {G : Gx} {d : Nat} {σ : Hp} (hd : 2 ≤ d) {kn n ko km i v : Nat} {nb od nu : Nat → Nat} (hN : OB σ kn 3 [.int (nI n), .ref (kn + 1)]) (hNA : AI σ (kn + 1) 9 nb) (hn : n ≤ 9) (hw : ∀ p, nb p < 512) (hOd : AI σ ko 9 od) (hNu : AI σ km 9 nu) (hod : ∀ j, od j < 9) (hnu : ∀ j, nu j < 9) (hi : i < 9) (hv : v < 9) {b : Bool} : ∀ (x : Nat) (j : Nat), j + x = i → fitL nb n od nu i v x j = b → Wp G mX9_fits d 30 [.ref kn, .ref ko, .ref km, .int (nI i), .int (nI v), .int (nI (od i)), .int (nI 1), .int (nI j)] [] σ 0 0 (pI fun r s => r = bI (b = true) ∧ s = σ) := by
  obtain ⟨d0, hdd⟩ : ∃ e, d = e + 1 := ⟨d - 1, by omega⟩
  intro x
  induction x with
  | zero =>
    intro j h hb
    refine wp_iload (atd dX9_fits 17 rfl) rfl ?_
    refine wp_ifN_eq (tgt := 86) (atd dX9_fits 18 rfl) (by decide) (by omega) (fun c_32 => ?_) (fun c_32 => ?_)
    · exact absurd c_32 (by decide)
    ·
      refine wp_iload (atd dX9_fits 19 rfl) rfl ?_
      refine wp_iload_n (atd dX9_fits 20 rfl) rfl ?_
      refine wp_icmpN_ge (tgt := 86) (atd dX9_fits 21 rfl) (by decide) (by omega) (by omega) (fun c_38 => ?_) (fun c_38 => ?_)
      ·
        refine wp_iload (atd dX9_fits 46 rfl) rfl ?_
        refine wp_iretz (atd dX9_fits 47 rfl) rfl (by first | rfl | decide) ?_
        exact ⟨by rw [← hb]; rfl, rfl⟩
      · exfalso; omega
  | succ x ih =>
    intro j h hb
    refine wp_iload (atd dX9_fits 17 rfl) rfl ?_
    refine wp_ifN_eq (tgt := 86) (atd dX9_fits 18 rfl) (by decide) (by omega) (fun c_32 => ?_) (fun c_32 => ?_)
    · exact absurd c_32 (by decide)
    ·
      refine wp_iload (atd dX9_fits 19 rfl) rfl ?_
      refine wp_iload_n (atd dX9_fits 20 rfl) rfl ?_
      refine wp_icmpN_ge (tgt := 86) (atd dX9_fits 21 rfl) (by decide) (by omega) (by omega) (fun c_38 => ?_) (fun c_38 => ?_)
      · exfalso; omega
      ·
        refine wp_aload_n (atd dX9_fits 22 rfl) rfl rfl ?_
        refine wp_iload (atd dX9_fits 23 rfl) rfl ?_
        refine wp_ialdA (atd dX9_fits 24 rfl) hNu (by omega) (Nat.le_of_ble_eq_true rfl) ?_
        refine wp_iload (atd dX9_fits 25 rfl) rfl ?_
        refine wp_icmpN_eq (tgt := 77) (atd dX9_fits 26 rfl) (by decide) (by have := hnu j; omega) (by omega) (fun c_47 => ?_) (fun c_47 => ?_)
        ·
          refine wp_iconst (v := nI 0) (atd dX9_fits 42 rfl) (by decide) ?_
          refine wp_istore (atd dX9_fits 43 rfl) (Nat.le_of_ble_eq_true rfl) ?_
          refine wp_iincN (c := 1) (atd dX9_fits 44 rfl) rfl ?_
          refine wp_goto (tgt := 30) (atd dX9_fits 45 rfl) (by decide) ?_
          exact lX9_fits0 (by rw [← hb]; rw [show fitL nb n od nu i v (x + 1) j = if nu j ≠ v ∧ jn nb n (od j) (od i) = jn nb n (nu j) v then fitL nb n od nu i v x (j + 1) else false from rfl, if_neg (fun h => h.1 c_47)])
        ·
          refine wp_aload_n (atd dX9_fits 27 rfl) rfl rfl ?_
          refine wp_aload_n (atd dX9_fits 28 rfl) rfl rfl ?_
          refine wp_iload (atd dX9_fits 29 rfl) rfl ?_
          refine wp_ialdA (atd dX9_fits 30 rfl) hOd (by omega) (Nat.le_of_ble_eq_true rfl) ?_
          refine wp_iload (atd dX9_fits 31 rfl) rfl ?_
          refine wp_cVi hdd [_, _] (atd dX9_fits 32 rfl) iX3_joined lX9_44 rfl rfl (Nat.le_of_ble_eq_true rfl) hN rfl (eX3_joined (by omega) hN hNA hn hw (by first | exact hod _ | exact hnu _) (by first | exact hod _ | exact hv)) (fun r_57 s_57 h_57 => ?_)
          obtain ⟨rfl, e_57⟩ := h_57
          obtain rfl := e_57.symm
          refine wp_aload_n (atd dX9_fits 33 rfl) rfl rfl ?_
          refine wp_aload_n (atd dX9_fits 34 rfl) rfl rfl ?_
          refine wp_iload (atd dX9_fits 35 rfl) rfl ?_
          refine wp_ialdA (atd dX9_fits 36 rfl) hNu (by omega) (Nat.le_of_ble_eq_true rfl) ?_
          refine wp_iload (atd dX9_fits 37 rfl) rfl ?_
          refine wp_cVi hdd [_, _] (atd dX9_fits 38 rfl) iX3_joined lX9_44 rfl rfl (Nat.le_of_ble_eq_true rfl) hN rfl (eX3_joined (by omega) hN hNA hn hw (by first | exact hod _ | exact hnu _) (by first | exact hod _ | exact hv)) (fun r_67 s_67 h_67 => ?_)
          obtain ⟨rfl, e_67⟩ := h_67
          obtain rfl := e_67.symm
          refine wp_icmp_ne (tgt := 77) (atd dX9_fits 39 rfl) (by decide) (fun c_70 => ?_) (fun c_70 => ?_)
          ·
            refine wp_iconst (v := nI 0) (atd dX9_fits 42 rfl) (by decide) ?_
            refine wp_istore (atd dX9_fits 43 rfl) (Nat.le_of_ble_eq_true rfl) ?_
            refine wp_iincN (c := 1) (atd dX9_fits 44 rfl) rfl ?_
            refine wp_goto (tgt := 30) (atd dX9_fits 45 rfl) (by decide) ?_
            exact lX9_fits0 (by rw [← hb]; rw [show fitL nb n od nu i v (x + 1) j = if nu j ≠ v ∧ jn nb n (od j) (od i) = jn nb n (nu j) v then fitL nb n od nu i v x (j + 1) else false from rfl, if_neg (fun h => c_70 (bI_iff2.mpr (decide_eq_decide.mp h.2)))])
          ·
            refine wp_iconst (v := nI 1) (atd dX9_fits 40 rfl) (by decide) ?_
            refine wp_goto (tgt := 78) (atd dX9_fits 41 rfl) (by decide) ?_
            refine wp_istore (atd dX9_fits 43 rfl) (Nat.le_of_ble_eq_true rfl) ?_
            refine wp_iincN (c := 1) (atd dX9_fits 44 rfl) rfl ?_
            refine wp_goto (tgt := 30) (atd dX9_fits 45 rfl) (by decide) ?_
            exact ih (j + 1) (by omega) (by rw [← hb]; rw [show fitL nb n od nu i v (x + 1) j = if nu j ≠ v ∧ jn nb n (od j) (od i) = jn nb n (nu j) v then fitL nb n od nu i v x (j + 1) else false from rfl, if_pos ⟨c_47, decide_eq_decide.mpr (bI_iff2.mp (Classical.not_not.mp c_70))⟩])
theorem eX9_fits {G : Gx} {d : Nat} {σ : Hp} (hd : 2 ≤ d) {kn n ko km i v : Nat} {nb od nu : Nat → Nat} (hN : OB σ kn 3 [.int (nI n), .ref (kn + 1)]) (hNA : AI σ (kn + 1) 9 nb) (hn : n ≤ 9) (hw : ∀ p, nb p < 512) (hOd : AI σ ko 9 od) (hNu : AI σ km 9 nu) (hod : ∀ j, od j < 9) (hnu : ∀ j, nu j < 9) (hi : i < 9) (hv : v < 9) : Cl G mX9_fits d [.ref kn, .ref ko, .ref km, .int (nI i), .int (nI v)] σ 0 0 (pI fun r s => r = bI (fitC nb n od nu i v = true) ∧ s = σ) := by
  obtain ⟨d0, hdd⟩ : ∃ e, d = e + 1 := ⟨d - 1, by omega⟩
  refine cl_of (by decide) (by simp [Value.category]) (Nat.le_of_ble_eq_true rfl) ?_
  show Wp G mX9_fits d 0 [.ref kn, .ref ko, .ref km, .int (nI i), .int (nI v), .double 0, .double 0, .double 0] [] σ 0 0 _
  refine wp_aload_n (atd dX9_fits 0 rfl) rfl rfl ?_
  refine wp_iload_n (atd dX9_fits 1 rfl) rfl ?_
  refine wp_ialdA (atd dX9_fits 2 rfl) hOd (by omega) (Nat.le_of_ble_eq_true rfl) ?_
  refine wp_istore (atd dX9_fits 3 rfl) (Nat.le_of_ble_eq_true rfl) ?_
  refine wp_aload_n (atd dX9_fits 4 rfl) rfl rfl ?_
  refine wp_iload (atd dX9_fits 5 rfl) rfl ?_
  refine wp_cVi hdd [_] (atd dX9_fits 6 rfl) iX3_linesAt lX9_40 rfl rfl (Nat.le_of_ble_eq_true rfl) hN rfl (eX3_linesAt (by omega) hN hNA hn hw (hod i)) (fun r_8 s_8 h_8 => ?_)
  obtain ⟨rfl, e_8⟩ := h_8
  obtain rfl := e_8.symm
  refine wp_aload_n (atd dX9_fits 7 rfl) rfl rfl ?_
  refine wp_iload (atd dX9_fits 8 rfl) rfl ?_
  refine wp_cVi hdd [_] (atd dX9_fits 9 rfl) iX3_linesAt lX9_40 rfl rfl (Nat.le_of_ble_eq_true rfl) hN rfl (eX3_linesAt (by omega) hN hNA hn hw hv) (fun r_14 s_14 h_14 => ?_)
  obtain ⟨rfl, e_14⟩ := h_14
  obtain rfl := e_14.symm
  refine wp_icmpN_ne (tgt := 24) (atd dX9_fits 10 rfl) (by decide) (by have := cnt_le (nb (od i)); omega) (by have := cnt_le (nb v); omega) (fun c_17 => ?_) (fun c_17 => ?_)
  ·
    refine wp_iconst (v := nI 0) (atd dX9_fits 13 rfl) (by decide) ?_
    refine wp_istore (atd dX9_fits 14 rfl) (Nat.le_of_ble_eq_true rfl) ?_
    refine wp_iconst (v := nI 0) (atd dX9_fits 15 rfl) (by decide) ?_
    refine wp_istore (atd dX9_fits 16 rfl) (Nat.le_of_ble_eq_true rfl) ?_
    exact lX9_fits0 (by rw [fitC, decide_eq_false c_17, Bool.false_and])
  ·
    refine wp_iconst (v := nI 1) (atd dX9_fits 11 rfl) (by decide) ?_
    refine wp_goto (tgt := 25) (atd dX9_fits 12 rfl) (by decide) ?_
    refine wp_istore (atd dX9_fits 14 rfl) (Nat.le_of_ble_eq_true rfl) ?_
    refine wp_iconst (v := nI 0) (atd dX9_fits 15 rfl) (by decide) ?_
    refine wp_istore (atd dX9_fits 16 rfl) (Nat.le_of_ble_eq_true rfl) ?_
    rw [show fitC nb n od nu i v = fitL nb n od nu i v i 0 by rw [fitC, decide_eq_true c_17, Bool.true_and]]
    exact lX9_fits (by omega) hN hNA hn hw hOd hNu hod hnu hi hv i 0 (by omega) rfl
theorem lX9_completes {G : Gx} {d d0 : Nat} (hdd : d = d0 + 1) {σ0 : Hp} {kn n ko km : Nat} {nb od : Nat → Nat} (hn : n ≤ 9) (hw : ∀ p, nb p < 512) (hod : ∀ j, od j < 9) (hap : km ≠ kn ∧ km ≠ kn + 1 ∧ km ≠ ko) {i x : Nat} {nu : Nat → Nat} {b : Bool} (hd0 : 2 ≤ d0) (hi : i < n) (hrec : ∀ (σ : Hp) (nu : Nat → Nat), OB σ kn 3 [.int (nI n), .ref (kn + 1)] → AI σ (kn + 1) 9 nb → AI σ ko 9 od → AI σ km 9 nu → (∀ j, nu j < 9) → Cl G mX9_completes d0 [.ref kn, .ref ko, .ref km, .int (nI (i + 1))] σ 0 0 (pI fun r s => r = bI (cpl nb n od x (i + 1) nu = true) ∧ fr [km] σ s ∧ ∃ nu2, AI s km 9 nu2 ∧ (∀ j, nu2 j < 9) ∧ ∀ j, j < (i + 1) → nu2 j = nu j)) : ∀ (y : Nat) (q : Nat) (σ : Hp) (nu1 : Nat → Nat), q + y = n → OB σ kn 3 [.int (nI n), .ref (kn + 1)] → AI σ (kn + 1) 9 nb → AI σ ko 9 od → AI σ km 9 nu1 → (∀ j, nu1 j < 9) → (∀ j, j < i → nu1 j = nu j) → fr [km] σ0 σ → anyB (fun q => fitC nb n od nu i q && cpl nb n od x (i + 1) (va_up nu i q)) y q = b → Wp G mX9_completes d 19 [.ref kn, .ref ko, .ref km, .int (nI i), .int (nI q)] [] σ 0 0 (pI fun r s => r = bI (b = true) ∧ fr [km] σ0 s ∧ ∃ nu2, AI s km 9 nu2 ∧ (∀ j, nu2 j < 9) ∧ ∀ j, j < i → nu2 j = nu j) := by
  intro y
  induction y with
  | zero =>
    intro q σ nu1 h hN hNA hOd hNu hnu hg hF hv
    refine wp_iload (atd dX9_completes 11 rfl) rfl ?_
    refine wp_aload_n (atd dX9_completes 12 rfl) rfl rfl ?_
    refine wp_get fX9_18 (atd dX9_completes 13 rfl) hN rfl ?_
    refine wp_icmpN_ge (tgt := 65) (atd dX9_completes 14 rfl) (by decide) (by omega) (by omega) (fun c_25 => ?_) (fun c_25 => ?_)
    ·
      refine wp_iconst (v := nI 0) (atd dX9_completes 38 rfl) (by decide) ?_
      refine wp_iretz (atd dX9_completes 39 rfl) rfl (by first | rfl | decide) ?_
      exact ⟨by rw [← hv]; rfl, hF, nu1, hNu, hnu, hg⟩
    · exfalso; omega
  | succ y ih =>
    intro q σ nu1 h hN hNA hOd hNu hnu hg hF hv
    refine wp_iload (atd dX9_completes 11 rfl) rfl ?_
    refine wp_aload_n (atd dX9_completes 12 rfl) rfl rfl ?_
    refine wp_get fX9_18 (atd dX9_completes 13 rfl) hN rfl ?_
    refine wp_icmpN_ge (tgt := 65) (atd dX9_completes 14 rfl) (by decide) (by omega) (by omega) (fun c_25 => ?_) (fun c_25 => ?_)
    · exfalso; omega
    ·
      refine wp_aload_n (atd dX9_completes 15 rfl) rfl rfl ?_
      refine wp_aload_n (atd dX9_completes 16 rfl) rfl rfl ?_
      refine wp_aload_n (atd dX9_completes 17 rfl) rfl rfl ?_
      refine wp_iload_n (atd dX9_completes 18 rfl) rfl ?_
      refine wp_iload (atd dX9_completes 19 rfl) rfl ?_
      refine wp_cSi hdd [_, _, _, _, _] (atd dX9_completes 20 rfl) iX9_fits lX9_32 rfl rfl (Nat.le_of_ble_eq_true rfl) (eX9_fits (by omega) hN hNA hn hw hOd hNu hod hnu (by omega) (by omega)) (fun r_34 s_34 h_34 => ?_)
      obtain ⟨rfl, e_34⟩ := h_34
      obtain rfl := e_34.symm
      refine wp_ifB_eq (tgt := 59) (atd dX9_completes 21 rfl) (by decide) (fun c_37 => ?_) (fun c_37 => ?_)
      ·
        refine wp_iincN (c := 1) (atd dX9_completes 36 rfl) rfl ?_
        refine wp_goto (tgt := 19) (atd dX9_completes 37 rfl) (by decide) ?_
        have ef : fitC nb n od nu1 i q = fitC nb n od nu i q := fitC_cg (fun _ _ => rfl) hg
        exact ih (q + 1) _ nu1 (by omega) hN hNA hOd hNu hnu hg hF (by rw [← hv]; rw [show anyB (fun q => fitC nb n od nu i q && cpl nb n od x (i + 1) (va_up nu i q)) (y + 1) q = if (fitC nb n od nu i q && cpl nb n od x (i + 1) (va_up nu i q)) = true then true else anyB (fun q => fitC nb n od nu i q && cpl nb n od x (i + 1) (va_up nu i q)) y (q + 1) from rfl]; rw [if_neg (by rw [← ef]; intro z; rw [Bool.and_eq_true] at z; exact c_37 z.1)])
      ·
        refine wp_aload_n (atd dX9_completes 22 rfl) rfl rfl ?_
        refine wp_iload_n (atd dX9_completes 23 rfl) rfl ?_
        refine wp_iload (atd dX9_completes 24 rfl) rfl ?_
        refine wp_iastA (atd dX9_completes 25 rfl) hNu (by omega) (Nat.le_of_ble_eq_true rfl) (fun σ f_44 hNu => ?_)
        have hN := hN.fr f_44 (by first | decide | (simp only [List.mem_cons, List.not_mem_nil, or_false]; omega))
        have hNA := hNA.fr f_44 (by first | decide | (simp only [List.mem_cons, List.not_mem_nil, or_false]; omega))
        have hOd := hOd.fr f_44 (by first | decide | (simp only [List.mem_cons, List.not_mem_nil, or_false]; omega))
        have hF := hF.tr f_44 (by simp)
        refine wp_aload_n (atd dX9_completes 26 rfl) rfl rfl ?_
        refine wp_aload_n (atd dX9_completes 27 rfl) rfl rfl ?_
        refine wp_aload_n (atd dX9_completes 28 rfl) rfl rfl ?_
        refine wp_iload_n (atd dX9_completes 29 rfl) rfl ?_
        refine wp_iconst (v := nI 1) (atd dX9_completes 30 rfl) (by decide) ?_
        refine wp_iaddN (atd dX9_completes 31 rfl) ?_
        refine wp_cSi hdd [_, _, _, _] (atd dX9_completes 32 rfl) iX9_completes lX9_36 rfl rfl (Nat.le_of_ble_eq_true rfl) (hrec _ _ hN hNA hOd hNu (up_lt9 hnu (by omega))) (fun r_51 s_51 h_51 => ?_)
        obtain ⟨rfl, f_51, nu2, hNu, hnu2, hg2⟩ := h_51
        have hN := hN.fr f_51 (by first | decide | (simp only [List.mem_cons, List.not_mem_nil, or_false]; omega))
        have hNA := hNA.fr f_51 (by first | decide | (simp only [List.mem_cons, List.not_mem_nil, or_false]; omega))
        have hOd := hOd.fr f_51 (by first | decide | (simp only [List.mem_cons, List.not_mem_nil, or_false]; omega))
        have hF := hF.tr f_51 (by simp)
        refine wp_ifB_eq (tgt := 59) (atd dX9_completes 33 rfl) (by decide) (fun c_54 => ?_) (fun c_54 => ?_)
        ·
          refine wp_iincN (c := 1) (atd dX9_completes 36 rfl) rfl ?_
          refine wp_goto (tgt := 19) (atd dX9_completes 37 rfl) (by decide) ?_
          have ef : fitC nb n od nu1 i q = fitC nb n od nu i q := fitC_cg (fun _ _ => rfl) hg
          have ec : cpl nb n od x (i + 1) (va_up nu1 i q) = cpl nb n od x (i + 1) (va_up nu i q) := cpl_cg (fun _ _ => rfl) (fun j hj => by
        by_cases e : j = i
        · simp [va_up, e]
        · simp only [va_up, if_neg e]; exact hg j (by omega))
          exact ih (q + 1) _ nu2 (by omega) hN hNA hOd hNu hnu2 (fun j hj => by rw [hg2 j (by omega)]; simp only [va_up, if_neg (by omega : ¬ j = i)]; exact hg j hj) hF (by rw [← hv]; rw [show anyB (fun q => fitC nb n od nu i q && cpl nb n od x (i + 1) (va_up nu i q)) (y + 1) q = if (fitC nb n od nu i q && cpl nb n od x (i + 1) (va_up nu i q)) = true then true else anyB (fun q => fitC nb n od nu i q && cpl nb n od x (i + 1) (va_up nu i q)) y (q + 1) from rfl]; rw [if_neg (by rw [← ef, ← ec]; intro z; rw [Bool.and_eq_true] at z; exact c_54 z.2)])
        ·
          refine wp_iconst (v := nI 1) (atd dX9_completes 34 rfl) (by decide) ?_
          refine wp_iretz (atd dX9_completes 35 rfl) rfl (by first | rfl | decide) ?_
          have ef : fitC nb n od nu1 i q = fitC nb n od nu i q := fitC_cg (fun _ _ => rfl) hg
          have ec : cpl nb n od x (i + 1) (va_up nu1 i q) = cpl nb n od x (i + 1) (va_up nu i q) := cpl_cg (fun _ _ => rfl) (fun j hj => by
        by_cases e : j = i
        · simp [va_up, e]
        · simp only [va_up, if_neg e]; exact hg j (by omega))
          refine ⟨?_, hF, nu2, hNu, hnu2, (fun j hj => by rw [hg2 j (by omega)]; simp only [va_up, if_neg (by omega : ¬ j = i)]; exact hg j hj)⟩
          rw [← hv]
          rw [show anyB (fun q => fitC nb n od nu i q && cpl nb n od x (i + 1) (va_up nu i q)) (y + 1) q = if (fitC nb n od nu i q && cpl nb n od x (i + 1) (va_up nu i q)) = true then true else anyB (fun q => fitC nb n od nu i q && cpl nb n od x (i + 1) (va_up nu i q)) y (q + 1) from rfl]
          rw [if_pos (by rw [← ef, ← ec, c_37, c_54]; rfl)]
          decide
theorem eX9_completes {G : Gx} {kn n ko km : Nat} {nb od : Nat → Nat} (hn : n ≤ 9) (hw : ∀ p, nb p < 512) (hod : ∀ j, od j < 9) (hap : km ≠ kn ∧ km ≠ kn + 1 ∧ km ≠ ko) : ∀ (x i d : Nat) (σ : Hp) (nu : Nat → Nat), i + x = n → x + 3 ≤ d → OB σ kn 3 [.int (nI n), .ref (kn + 1)] → AI σ (kn + 1) 9 nb → AI σ ko 9 od → AI σ km 9 nu → (∀ j, nu j < 9) → Cl G mX9_completes d [.ref kn, .ref ko, .ref km, .int (nI i)] σ 0 0 (pI fun r s => r = bI (cpl nb n od x i nu = true) ∧ fr [km] σ s ∧ ∃ nu2, AI s km 9 nu2 ∧ (∀ j, nu2 j < 9) ∧ ∀ j, j < i → nu2 j = nu j) := by
  intro x
  induction x with
  | zero =>
    intro i d σ nu h hd hN hNA hOd hNu hnu
    refine cl_of (by decide) (by simp [Value.category]) (Nat.le_of_ble_eq_true rfl) ?_
    show Wp G mX9_completes d 0 [.ref kn, .ref ko, .ref km, .int (nI i), .double 0] [] σ 0 0 _
    refine wp_iload_n (atd dX9_completes 0 rfl) rfl ?_
    refine wp_aload_n (atd dX9_completes 1 rfl) rfl rfl ?_
    refine wp_get fX9_18 (atd dX9_completes 2 rfl) hN rfl ?_
    refine wp_icmpN_ge (tgt := 14) (atd dX9_completes 3 rfl) (by decide) (by omega) (by omega) (fun c_5 => ?_) (fun c_5 => ?_)
    ·
      refine wp_iconst (v := nI 1) (atd dX9_completes 7 rfl) (by decide) ?_
      refine wp_iretz (atd dX9_completes 8 rfl) rfl (by first | rfl | decide) ?_
      exact ⟨rfl, fr.rf, nu, hNu, hnu, fun j hj => rfl⟩
    · exfalso; omega
  | succ x ihx =>
    intro i d σ nu h hd hN hNA hOd hNu hnu
    obtain ⟨d0, hdd⟩ : ∃ e, d = e + 1 := ⟨d - 1, by omega⟩
    refine cl_of (by decide) (by simp [Value.category]) (Nat.le_of_ble_eq_true rfl) ?_
    show Wp G mX9_completes d 0 [.ref kn, .ref ko, .ref km, .int (nI i), .double 0] [] σ 0 0 _
    refine wp_iload_n (atd dX9_completes 0 rfl) rfl ?_
    refine wp_aload_n (atd dX9_completes 1 rfl) rfl rfl ?_
    refine wp_get fX9_18 (atd dX9_completes 2 rfl) hN rfl ?_
    refine wp_icmpN_ge (tgt := 14) (atd dX9_completes 3 rfl) (by decide) (by omega) (by omega) (fun c_5 => ?_) (fun c_5 => ?_)
    · exfalso; omega
    ·
      refine wp_iload_n (atd dX9_completes 4 rfl) rfl ?_
      refine wp_bipush (v := nI 9) (atd dX9_completes 5 rfl) (by decide) ?_
      refine wp_icmpN_lt (tgt := 16) (atd dX9_completes 6 rfl) (by decide) (by omega) (by omega) (fun c_11 => ?_) (fun c_11 => ?_)
      ·
        refine wp_iconst (v := nI 0) (atd dX9_completes 9 rfl) (by decide) ?_
        refine wp_istore (atd dX9_completes 10 rfl) (Nat.le_of_ble_eq_true rfl) ?_
        exact lX9_completes hdd hn hw hod hap (by omega) (by omega) (fun σ nu h1 h2 h3 h4 h5 => ihx (i + 1) d0 σ nu (by omega) (by omega) h1 h2 h3 h4 h5) n 0 σ nu (by omega) hN hNA hOd hNu hnu (fun j hj => rfl) fr.rf rfl
      · exfalso; omega
theorem eX9_canBe {G : Gx} {d : Nat} {σ : Hp} (hd : 13 ≤ d) {kn n k : Nat} {nb od nu : Nat → Nat} (hN : OB σ kn 3 [.int (nI n), .ref (kn + 1)]) (hNA : AI σ (kn + 1) 9 nb) (hn : n ≤ 9) (hw : ∀ p, nb p < 512) (hO : OB σ k 9 [.ref (k + 1), .ref (k + 2)]) (hOd : AI σ (k + 1) 9 od) (hNu : AI σ (k + 2) 9 nu) (hod : ∀ j, od j < 9) (hnu : ∀ j, nu j < 9) (hap : kn + 1 < k ∨ k + 2 < kn) {i v : Nat} (hi : i < n) (hv : v < n) : Cl G mX9_canBe d [.ref k, .ref kn, .int (nI i), .int (nI v)] σ 0 0 (pI fun r s => r = bI (cbB nb n od nu i v = true) ∧ fr [k + 2] σ s ∧ ∃ nu2, AI s (k + 2) 9 nu2 ∧ (∀ j, nu2 j < 9) ∧ ∀ j, j < i → nu2 j = nu j) := by
  obtain ⟨d0, hdd⟩ : ∃ e, d = e + 1 := ⟨d - 1, by omega⟩
  refine cl_of (by decide) (by simp [Value.category]) (Nat.le_of_ble_eq_true rfl) ?_
  show Wp G mX9_canBe d 0 [.ref k, .ref kn, .int (nI i), .int (nI v)] [] σ 0 0 _
  have hF : fr [k + 2] σ σ := fr.rf
  refine wp_iload_n (atd dX9_canBe 0 rfl) rfl ?_
  refine wp_ifN_lt (tgt := 27) (atd dX9_canBe 1 rfl) (by decide) (by omega) ?_
  refine wp_iload_n (atd dX9_canBe 2 rfl) rfl ?_
  refine wp_bipush (v := nI 9) (atd dX9_canBe 3 rfl) (by decide) ?_
  refine wp_icmpN_ge (tgt := 27) (atd dX9_canBe 4 rfl) (by decide) (by omega) (by omega) (fun c_7 => ?_) (fun c_7 => ?_)
  · exfalso; omega
  ·
    refine wp_aload_n (atd dX9_canBe 5 rfl) rfl rfl ?_
    refine wp_aload_n (atd dX9_canBe 6 rfl) rfl rfl ?_
    refine wp_get fX9_9 (atd dX9_canBe 7 rfl) hO rfl ?_
    refine wp_aload_n (atd dX9_canBe 8 rfl) rfl rfl ?_
    refine wp_get fX9_15 (atd dX9_canBe 9 rfl) hO rfl ?_
    refine wp_iload_n (atd dX9_canBe 10 rfl) rfl ?_
    refine wp_iload_n (atd dX9_canBe 11 rfl) rfl ?_
    refine wp_cSi hdd [_, _, _, _, _] (atd dX9_canBe 12 rfl) iX9_fits lX9_32 rfl rfl (Nat.le_of_ble_eq_true rfl) (eX9_fits (by omega) hN hNA hn hw hOd hNu hod hnu (by omega) (by omega)) (fun r_21 s_21 h_21 => ?_)
    obtain ⟨rfl, e_21⟩ := h_21
    obtain rfl := e_21.symm
    refine wp_ifB_ne (tgt := 29) (atd dX9_canBe 13 rfl) (by decide) (fun c_24 => ?_) (fun c_24 => ?_)
    ·
      refine wp_aload_n (atd dX9_canBe 16 rfl) rfl rfl ?_
      refine wp_get fX9_15 (atd dX9_canBe 17 rfl) hO rfl ?_
      refine wp_iload_n (atd dX9_canBe 18 rfl) rfl ?_
      refine wp_iload_n (atd dX9_canBe 19 rfl) rfl ?_
      refine wp_iastA (atd dX9_canBe 20 rfl) hNu (by omega) (Nat.le_of_ble_eq_true rfl) (fun σ f_35 hNu => ?_)
      have hN := hN.fr f_35 (by first | decide | (simp only [List.mem_cons, List.not_mem_nil, or_false]; omega))
      have hNA := hNA.fr f_35 (by first | decide | (simp only [List.mem_cons, List.not_mem_nil, or_false]; omega))
      have hO := hO.fr f_35 (by first | decide | (simp only [List.mem_cons, List.not_mem_nil, or_false]; omega))
      have hOd := hOd.fr f_35 (by first | decide | (simp only [List.mem_cons, List.not_mem_nil, or_false]; omega))
      have hF := hF.tr f_35 (by simp)
      refine wp_aload_n (atd dX9_canBe 21 rfl) rfl rfl ?_
      refine wp_aload_n (atd dX9_canBe 22 rfl) rfl rfl ?_
      refine wp_get fX9_9 (atd dX9_canBe 23 rfl) hO rfl ?_
      refine wp_aload_n (atd dX9_canBe 24 rfl) rfl rfl ?_
      refine wp_get fX9_15 (atd dX9_canBe 25 rfl) hO rfl ?_
      refine wp_iload_n (atd dX9_canBe 26 rfl) rfl ?_
      refine wp_iconst (v := nI 1) (atd dX9_canBe 27 rfl) (by decide) ?_
      refine wp_iaddN (atd dX9_canBe 28 rfl) ?_
      refine wp_cSi hdd [_, _, _, _] (atd dX9_canBe 29 rfl) iX9_completes lX9_36 rfl rfl (Nat.le_of_ble_eq_true rfl) (eX9_completes (ko := k + 1) (km := k + 2) hn hw hod (by omega) (n - (i + 1)) (i + 1) d0 _ _ (by omega) (by omega) hN hNA hOd hNu (up_lt9 hnu (by omega))) (fun r_48 s_48 h_48 => ?_)
      obtain ⟨rfl, f_48, nu2, hNu, hnu2, hg2⟩ := h_48
      have hN := hN.fr f_48 (by first | decide | (simp only [List.mem_cons, List.not_mem_nil, or_false]; omega))
      have hNA := hNA.fr f_48 (by first | decide | (simp only [List.mem_cons, List.not_mem_nil, or_false]; omega))
      have hO := hO.fr f_48 (by first | decide | (simp only [List.mem_cons, List.not_mem_nil, or_false]; omega))
      have hOd := hOd.fr f_48 (by first | decide | (simp only [List.mem_cons, List.not_mem_nil, or_false]; omega))
      have hF := hF.tr f_48 (by simp)
      refine wp_iretz (atd dX9_canBe 30 rfl) rfl bI_and ?_
      exact ⟨bI_c (by rw [cbB, Bool.and_eq_true]; exact ⟨fun z => ⟨c_24, z⟩, fun z => z.2⟩), hF, nu2, hNu, hnu2, fun j hj => by rw [hg2 j (by omega)]; simp only [va_up, if_neg (by omega : ¬ j = i)]⟩
    ·
      refine wp_iconst (v := nI 0) (atd dX9_canBe 14 rfl) (by decide) ?_
      refine wp_iretz (atd dX9_canBe 15 rfl) rfl (by first | rfl | decide) ?_
      exact ⟨(bI_f (by rw [cbB, Bool.and_eq_true]; exact fun z => c_24 z.1)).symm, hF, nu, hNu, hnu, fun j hj => rfl⟩
def imG (f : Nat → Bool) (q c : Nat) : Nat := if f q = true then c + 1 else c
theorem lX9_imagesOf {G : Gx} {d : Nat} (hd : 14 ≤ d) {σ0 : Hp} {kn n k : Nat} {nb od : Nat → Nat} (hn : n ≤ 9) (hw : ∀ p, nb p < 512) (hod : ∀ j, od j < 9) (hap : kn + 1 < k ∨ k + 2 < kn) {nu : Nat → Nat} {p v : Nat} (hp : p < n) : ∀ (x : Nat) (q c : Nat) (σ : Hp) (nu1 : Nat → Nat), q + x = n → OB σ kn 3 [.int (nI n), .ref (kn + 1)] → AI σ (kn + 1) 9 nb → OB σ k 9 [.ref (k + 1), .ref (k + 2)] → AI σ (k + 1) 9 od → AI σ (k + 2) 9 nu1 → (∀ j, nu1 j < 9) → (∀ j, j < p → nu1 j = nu j) → fr [k + 2] σ0 σ → fl (imG (cbB nb n od nu p)) x q c = v → Wp G mX9_imagesOf d 5 [.ref k, .ref kn, .int (nI p), .int (nI c), .int (nI q)] [] σ 0 0 (pI fun r s => r = nI v ∧ fr [k + 2] σ0 s ∧ ∃ nu2, AI s (k + 2) 9 nu2 ∧ (∀ j, nu2 j < 9) ∧ ∀ j, j < p → nu2 j = nu j) := by
  obtain ⟨d0, hdd⟩ : ∃ e, d = e + 1 := ⟨d - 1, by omega⟩
  intro x
  induction x with
  | zero =>
    intro q c σ nu1 h hN hNA hO hOd hNu hnu hg hF hv
    refine wp_iload (atd dX9_imagesOf 4 rfl) rfl ?_
    refine wp_aload_n (atd dX9_imagesOf 5 rfl) rfl rfl ?_
    refine wp_get fX9_18 (atd dX9_imagesOf 6 rfl) hN rfl ?_
    refine wp_icmpN_ge (tgt := 34) (atd dX9_imagesOf 7 rfl) (by decide) (by omega) (by omega) (fun c_11 => ?_) (fun c_11 => ?_)
    ·
      refine wp_iload_n (atd dX9_imagesOf 17 rfl) rfl ?_
      refine wp_ireti (atd dX9_imagesOf 18 rfl) rfl ?_
      exact ⟨by rw [← hv]; rfl, hF, nu1, hNu, hnu, hg⟩
    · exfalso; omega
  | succ x ih =>
    intro q c σ nu1 h hN hNA hO hOd hNu hnu hg hF hv
    refine wp_iload (atd dX9_imagesOf 4 rfl) rfl ?_
    refine wp_aload_n (atd dX9_imagesOf 5 rfl) rfl rfl ?_
    refine wp_get fX9_18 (atd dX9_imagesOf 6 rfl) hN rfl ?_
    refine wp_icmpN_ge (tgt := 34) (atd dX9_imagesOf 7 rfl) (by decide) (by omega) (by omega) (fun c_11 => ?_) (fun c_11 => ?_)
    · exfalso; omega
    ·
      refine wp_aload_n (atd dX9_imagesOf 8 rfl) rfl rfl ?_
      refine wp_aload_n (atd dX9_imagesOf 9 rfl) rfl rfl ?_
      refine wp_iload_n (atd dX9_imagesOf 10 rfl) rfl ?_
      refine wp_iload (atd dX9_imagesOf 11 rfl) rfl ?_
      refine wp_cVi hdd [_, _, _] (atd dX9_imagesOf 12 rfl) iX9_canBe lX9_28 rfl rfl (Nat.le_of_ble_eq_true rfl) hO rfl (eX9_canBe (by omega) hN hNA hn hw hO hOd hNu hod hnu hap (by omega) (by omega)) (fun r_19 s_19 h_19 => ?_)
      obtain ⟨rfl, f_19, nu2, hNu, hnu2, hg2⟩ := h_19
      have hN := hN.fr f_19 (by first | decide | (simp only [List.mem_cons, List.not_mem_nil, or_false]; omega))
      have hNA := hNA.fr f_19 (by first | decide | (simp only [List.mem_cons, List.not_mem_nil, or_false]; omega))
      have hO := hO.fr f_19 (by first | decide | (simp only [List.mem_cons, List.not_mem_nil, or_false]; omega))
      have hOd := hOd.fr f_19 (by first | decide | (simp only [List.mem_cons, List.not_mem_nil, or_false]; omega))
      have hF := hF.tr f_19 (by simp)
      refine wp_ifB_eq (tgt := 28) (atd dX9_imagesOf 13 rfl) (by decide) (fun c_22 => ?_) (fun c_22 => ?_)
      ·
        refine wp_iincN (c := 1) (atd dX9_imagesOf 15 rfl) rfl ?_
        refine wp_goto (tgt := 5) (atd dX9_imagesOf 16 rfl) (by decide) ?_
        have ef : cbB nb n od nu1 p q = cbB nb n od nu p q := cbB_cg (by omega) (fun _ _ => rfl) hg
        exact ih (q + 1) _ _ nu2 (by omega) hN hNA hO hOd hNu hnu2 (fun j hj => by rw [hg2 j hj]; exact hg j hj) hF (by rw [← hv]; show _ = fl _ _ _ (imG (cbB nb n od nu p) q c); rw [imG, if_neg (by rw [← ef]; exact c_22)])
      ·
        refine wp_iincN (c := 1) (atd dX9_imagesOf 14 rfl) rfl ?_
        refine wp_iincN (c := 1) (atd dX9_imagesOf 15 rfl) rfl ?_
        refine wp_goto (tgt := 5) (atd dX9_imagesOf 16 rfl) (by decide) ?_
        have ef : cbB nb n od nu1 p q = cbB nb n od nu p q := cbB_cg (by omega) (fun _ _ => rfl) hg
        exact ih (q + 1) _ _ nu2 (by omega) hN hNA hO hOd hNu hnu2 (fun j hj => by rw [hg2 j hj]; exact hg j hj) hF (by rw [← hv]; show _ = fl _ _ _ (imG (cbB nb n od nu p) q c); rw [imG, if_pos (by rw [← ef]; exact c_22)])
theorem eX9_imagesOf {G : Gx} {d : Nat} {σ : Hp} (hd : 14 ≤ d) {kn n k : Nat} {nb od nu : Nat → Nat} (hN : OB σ kn 3 [.int (nI n), .ref (kn + 1)]) (hNA : AI σ (kn + 1) 9 nb) (hn : n ≤ 9) (hw : ∀ p, nb p < 512) (hO : OB σ k 9 [.ref (k + 1), .ref (k + 2)]) (hOd : AI σ (k + 1) 9 od) (hNu : AI σ (k + 2) 9 nu) (hod : ∀ j, od j < 9) (hnu : ∀ j, nu j < 9) (hap : kn + 1 < k ∨ k + 2 < kn) {p : Nat} (hp : p < n) : Cl G mX9_imagesOf d [.ref k, .ref kn, .int (nI p)] σ 0 0 (pI fun r s => r = nI (fl (imG (cbB nb n od nu p)) n 0 0) ∧ fr [k + 2] σ s ∧ ∃ nu2, AI s (k + 2) 9 nu2 ∧ (∀ j, nu2 j < 9) ∧ ∀ j, j < p → nu2 j = nu j) := by
  obtain ⟨d0, hdd⟩ : ∃ e, d = e + 1 := ⟨d - 1, by omega⟩
  refine cl_of (by decide) (by simp [Value.category]) (Nat.le_of_ble_eq_true rfl) ?_
  show Wp G mX9_imagesOf d 0 [.ref k, .ref kn, .int (nI p), .double 0, .double 0] [] σ 0 0 _
  refine wp_iconst (v := nI 0) (atd dX9_imagesOf 0 rfl) (by decide) ?_
  refine wp_istore_n (atd dX9_imagesOf 1 rfl) (Nat.le_of_ble_eq_true rfl) ?_
  refine wp_iconst (v := nI 0) (atd dX9_imagesOf 2 rfl) (by decide) ?_
  refine wp_istore (atd dX9_imagesOf 3 rfl) (Nat.le_of_ble_eq_true rfl) ?_
  exact lX9_imagesOf (by omega) hn hw hod hap hp n 0 0 σ nu (by omega) hN hNA hO hOd hNu hnu (fun j hj => rfl) fr.rf rfl
def hmG (nb : Nat → Nat) (n p a : Nat) : Nat := a * fl (imG (cbB nb n id id p)) n 0 0
theorem lX9_howMany1 {G : Gx} {d : Nat} {Q : Option Value → Hp → Prop} {σ0 : Hp} {kn n k : Nat} {nb nu : Nat → Nat} (hn : n ≤ 9) (hap : kn + 1 < k ∨ k + 2 < kn) (hk : ∀ (σ : Hp) (od : Nat → Nat), OB σ kn 3 [.int (nI n), .ref (kn + 1)] → AI σ (kn + 1) 9 nb → OB σ k 9 [.ref (k + 1), .ref (k + 2)] → AI σ (k + 1) 9 od → AI σ (k + 2) 9 nu → (∀ j, od j < 9) → fr [k + 1, k + 2] σ0 σ → (∀ j, j < n → od j = j) → Wp G mX9_howMany d 31 [.ref k, .ref kn, .int (nI 1), .int (nI n)] [] σ 0 0 Q) : ∀ (x : Nat) (p : Nat) (σ : Hp) (od : Nat → Nat), p + x = n → OB σ kn 3 [.int (nI n), .ref (kn + 1)] → AI σ (kn + 1) 9 nb → OB σ k 9 [.ref (k + 1), .ref (k + 2)] → AI σ (k + 1) 9 od → AI σ (k + 2) 9 nu → (∀ j, od j < 9) → fr [k + 1, k + 2] σ0 σ → (∀ j, j < p → od j = j) → Wp G mX9_howMany d 4 [.ref k, .ref kn, .int (nI 1), .int (nI p)] [] σ 0 0 Q := by
  intro x
  induction x with
  | zero =>
    intro p σ od h hN hNA hO hOd hNu hod hF hg
    obtain rfl : p = n := by omega
    refine wp_iload_n (atd dX9_howMany 4 rfl) rfl ?_
    refine wp_aload_n (atd dX9_howMany 5 rfl) rfl rfl ?_
    refine wp_get fX9_18 (atd dX9_howMany 6 rfl) hN rfl ?_
    refine wp_icmpN_ge (tgt := 31) (atd dX9_howMany 7 rfl) (by decide) (by omega) (by omega) (fun c_9 => ?_) (fun c_9 => ?_)
    ·
      exact hk σ od hN hNA hO hOd hNu hod hF hg
    · exfalso; omega
  | succ x ih =>
    intro p σ od h hN hNA hO hOd hNu hod hF hg
    refine wp_iload_n (atd dX9_howMany 4 rfl) rfl ?_
    refine wp_aload_n (atd dX9_howMany 5 rfl) rfl rfl ?_
    refine wp_get fX9_18 (atd dX9_howMany 6 rfl) hN rfl ?_
    refine wp_icmpN_ge (tgt := 31) (atd dX9_howMany 7 rfl) (by decide) (by omega) (by omega) (fun c_9 => ?_) (fun c_9 => ?_)
    · exfalso; omega
    ·
      refine wp_iload_n (atd dX9_howMany 8 rfl) rfl ?_
      refine wp_bipush (v := nI 9) (atd dX9_howMany 9 rfl) (by decide) ?_
      refine wp_icmpN_ge (tgt := 31) (atd dX9_howMany 10 rfl) (by decide) (by omega) (by omega) (fun c_15 => ?_) (fun c_15 => ?_)
      · exfalso; omega
      ·
        refine wp_aload_n (atd dX9_howMany 11 rfl) rfl rfl ?_
        refine wp_get fX9_9 (atd dX9_howMany 12 rfl) hO rfl ?_
        refine wp_iload_n (atd dX9_howMany 13 rfl) rfl ?_
        refine wp_iload_n (atd dX9_howMany 14 rfl) rfl ?_
        refine wp_iastA (atd dX9_howMany 15 rfl) hOd (by omega) (Nat.le_of_ble_eq_true rfl) (fun σ f_24 hOd => ?_)
        have hN := hN.fr f_24 (by first | decide | (simp only [List.mem_cons, List.not_mem_nil, or_false]; omega))
        have hNA := hNA.fr f_24 (by first | decide | (simp only [List.mem_cons, List.not_mem_nil, or_false]; omega))
        have hO := hO.fr f_24 (by first | decide | (simp only [List.mem_cons, List.not_mem_nil, or_false]; omega))
        have hNu := hNu.fr f_24 (by first | decide | (simp only [List.mem_cons, List.not_mem_nil, or_false]; omega))
        have hF := hF.tr f_24 (by simp)
        refine wp_iincN (c := 1) (atd dX9_howMany 16 rfl) rfl ?_
        refine wp_goto (tgt := 4) (atd dX9_howMany 17 rfl) (by decide) ?_
        exact ih (p + 1) _ _ (by omega) hN hNA hO hOd hNu (up_lt9 hod (by omega)) hF (fun j hj => by
        by_cases e : j = p
        · simp [va_up, e]
        · simp only [va_up, if_neg e]; exact hg j (by omega))
theorem lX9_howMany2 {G : Gx} {d : Nat} (hd : 15 ≤ d) {σ0 : Hp} {kn n k : Nat} {nb od : Nat → Nat} (hn : n ≤ 9) (hw : ∀ p, nb p < 512) (hod : ∀ j, od j < 9) (ho : ∀ j, j < n → od j = id j) (hap : kn + 1 < k ∨ k + 2 < kn) {v : Nat} : ∀ (x : Nat) (p a : Nat) (σ : Hp) (nu : Nat → Nat), p + x = n → OB σ kn 3 [.int (nI n), .ref (kn + 1)] → AI σ (kn + 1) 9 nb → OB σ k 9 [.ref (k + 1), .ref (k + 2)] → AI σ (k + 1) 9 od → AI σ (k + 2) 9 nu → (∀ j, od j < 9) → fr [k + 1, k + 2] σ0 σ → (∀ j, nu j < 9) → (∀ j, j < p → nu j = id j) → fl (hmG nb n) x p a = v → Wp G mX9_howMany d 33 [.ref k, .ref kn, .int (nI a), .int (nI p)] [] σ 0 0 (pI fun r s => r = nI v ∧ fr [k + 1, k + 2] σ0 s ∧ ∃ od nu, AI s (k + 1) 9 od ∧ AI s (k + 2) 9 nu ∧ (∀ j, od j < 9) ∧ ∀ j, nu j < 9) := by
  obtain ⟨d0, hdd⟩ : ∃ e, d = e + 1 := ⟨d - 1, by omega⟩
  intro x
  induction x with
  | zero =>
    intro p a σ nu h hN hNA hO hOd hNu hod2 hF hnu hg hv
    refine wp_iload_n (atd dX9_howMany 20 rfl) rfl ?_
    refine wp_aload_n (atd dX9_howMany 21 rfl) rfl rfl ?_
    refine wp_get fX9_18 (atd dX9_howMany 22 rfl) hN rfl ?_
    refine wp_icmpN_ge (tgt := 69) (atd dX9_howMany 23 rfl) (by decide) (by omega) (by omega) (fun c_38 => ?_) (fun c_38 => ?_)
    ·
      refine wp_iload_n (atd dX9_howMany 41 rfl) rfl ?_
      refine wp_ireti (atd dX9_howMany 42 rfl) rfl ?_
      exact ⟨by rw [← hv]; rfl, hF, od, nu, hOd, hNu, hod, hnu⟩
    · exfalso; omega
  | succ x ih =>
    intro p a σ nu h hN hNA hO hOd hNu hod2 hF hnu hg hv
    refine wp_iload_n (atd dX9_howMany 20 rfl) rfl ?_
    refine wp_aload_n (atd dX9_howMany 21 rfl) rfl rfl ?_
    refine wp_get fX9_18 (atd dX9_howMany 22 rfl) hN rfl ?_
    refine wp_icmpN_ge (tgt := 69) (atd dX9_howMany 23 rfl) (by decide) (by omega) (by omega) (fun c_38 => ?_) (fun c_38 => ?_)
    · exfalso; omega
    ·
      refine wp_iload_n (atd dX9_howMany 24 rfl) rfl ?_
      refine wp_bipush (v := nI 9) (atd dX9_howMany 25 rfl) (by decide) ?_
      refine wp_icmpN_ge (tgt := 69) (atd dX9_howMany 26 rfl) (by decide) (by omega) (by omega) (fun c_44 => ?_) (fun c_44 => ?_)
      · exfalso; omega
      ·
        refine wp_iload_n (atd dX9_howMany 27 rfl) rfl ?_
        refine wp_aload_n (atd dX9_howMany 28 rfl) rfl rfl ?_
        refine wp_aload_n (atd dX9_howMany 29 rfl) rfl rfl ?_
        refine wp_iload_n (atd dX9_howMany 30 rfl) rfl ?_
        refine wp_cVi hdd [_, _] (atd dX9_howMany 31 rfl) iX9_imagesOf lX9_24 rfl rfl (Nat.le_of_ble_eq_true rfl) hO rfl (eX9_imagesOf (by omega) hN hNA hn hw hO hOd hNu hod hnu hap (by omega)) (fun r_51 s_51 h_51 => ?_)
        obtain ⟨rfl, f_51, nu2, hNu, hnu2, hg2⟩ := h_51
        have hN := hN.fr f_51 (by first | decide | (simp only [List.mem_cons, List.not_mem_nil, or_false]; omega))
        have hNA := hNA.fr f_51 (by first | decide | (simp only [List.mem_cons, List.not_mem_nil, or_false]; omega))
        have hO := hO.fr f_51 (by first | decide | (simp only [List.mem_cons, List.not_mem_nil, or_false]; omega))
        have hOd := hOd.fr f_51 (by first | decide | (simp only [List.mem_cons, List.not_mem_nil, or_false]; omega))
        have hF := hF.tr f_51 (by simp)
        refine wp_imulN (atd dX9_howMany 32 rfl) ?_
        refine wp_istore_n (atd dX9_howMany 33 rfl) (Nat.le_of_ble_eq_true rfl) ?_
        refine wp_aload_n (atd dX9_howMany 34 rfl) rfl rfl ?_
        refine wp_get fX9_15 (atd dX9_howMany 35 rfl) hO rfl ?_
        refine wp_iload_n (atd dX9_howMany 36 rfl) rfl ?_
        refine wp_iload_n (atd dX9_howMany 37 rfl) rfl ?_
        refine wp_iastA (atd dX9_howMany 38 rfl) hNu (by omega) (Nat.le_of_ble_eq_true rfl) (fun σ f_62 hNu => ?_)
        have hN := hN.fr f_62 (by first | decide | (simp only [List.mem_cons, List.not_mem_nil, or_false]; omega))
        have hNA := hNA.fr f_62 (by first | decide | (simp only [List.mem_cons, List.not_mem_nil, or_false]; omega))
        have hO := hO.fr f_62 (by first | decide | (simp only [List.mem_cons, List.not_mem_nil, or_false]; omega))
        have hOd := hOd.fr f_62 (by first | decide | (simp only [List.mem_cons, List.not_mem_nil, or_false]; omega))
        have hF := hF.tr f_62 (by simp)
        refine wp_iincN (c := 1) (atd dX9_howMany 39 rfl) rfl ?_
        refine wp_goto (tgt := 33) (atd dX9_howMany 40 rfl) (by decide) ?_
        have ef : cbB nb n od nu p = cbB nb n id id p := funext fun q => cbB_cg (by omega) ho hg
        exact ih (p + 1) _ _ _ (by omega) hN hNA hO hOd hNu hod hF (up_lt9 hnu2 (by omega)) (fun j hj => by
        by_cases e : j = p
        · simp [va_up, e]
        · simp only [va_up, if_neg e]; rw [hg2 j (by omega)]; exact hg j (by omega)) (by rw [← hv]; show _ = fl _ _ _ (hmG nb n p a); rw [hmG, ← ef])
theorem eX9_howMany {G : Gx} {d : Nat} {σ : Hp} (hd : 15 ≤ d) {kn n k : Nat} {nb od nu : Nat → Nat} (hN : OB σ kn 3 [.int (nI n), .ref (kn + 1)]) (hNA : AI σ (kn + 1) 9 nb) (hn : n ≤ 9) (hw : ∀ p, nb p < 512) (hO : OB σ k 9 [.ref (k + 1), .ref (k + 2)]) (hOd : AI σ (k + 1) 9 od) (hNu : AI σ (k + 2) 9 nu) (hod : ∀ j, od j < 9) (hnu : ∀ j, nu j < 9) (hap : kn + 1 < k ∨ k + 2 < kn) : Cl G mX9_howMany d [.ref k, .ref kn] σ 0 0 (pI fun r s => r = nI (fl (hmG nb n) n 0 1) ∧ fr [k + 1, k + 2] σ s ∧ ∃ od nu, AI s (k + 1) 9 od ∧ AI s (k + 2) 9 nu ∧ (∀ j, od j < 9) ∧ ∀ j, nu j < 9) := by
  obtain ⟨d0, hdd⟩ : ∃ e, d = e + 1 := ⟨d - 1, by omega⟩
  refine cl_of (by decide) (by simp [Value.category]) (Nat.le_of_ble_eq_true rfl) ?_
  show Wp G mX9_howMany d 0 [.ref k, .ref kn, .double 0, .double 0] [] σ 0 0 _
  refine wp_iconst (v := nI 1) (atd dX9_howMany 0 rfl) (by decide) ?_
  refine wp_istore_n (atd dX9_howMany 1 rfl) (Nat.le_of_ble_eq_true rfl) ?_
  refine wp_iconst (v := nI 0) (atd dX9_howMany 2 rfl) (by decide) ?_
  refine wp_istore_n (atd dX9_howMany 3 rfl) (Nat.le_of_ble_eq_true rfl) ?_
  refine lX9_howMany1 (σ0 := σ) hn hap (fun s1 od1 hN hNA hO hOd hNu hod hF hg => ?_) n 0 σ od (by omega) hN hNA hO hOd hNu hod fr.rf (fun j hj => absurd hj (Nat.not_lt_zero j))
  refine wp_iconst (v := nI 0) (atd dX9_howMany 18 rfl) (by decide) ?_
  refine wp_istore_n (atd dX9_howMany 19 rfl) (Nat.le_of_ble_eq_true rfl) ?_
  exact lX9_howMany2 (by omega) hn hw hod hg hap n 0 1 s1 nu (by omega) hN hNA hO hOd hNu hod hF hnu (fun j hj => absurd hj (Nat.not_lt_zero j)) rfl
def odA (pl j : Nat) : Nat := if j = 0 then pl else if j - 1 < pl then j - 1 else j
theorem odA_0 {od : Nat → Nat} {pl : Nat} : ∀ j, j < 1 → va_up od 0 pl j = odA pl j := fun j hj => by
  have e : j = 0 := by omega
  subst e
  simp [va_up, odA]
def lsC (f : Nat → Bool) (pl : Nat) : Nat → Nat → Nat
  | 0, _ => pl
  | k + 1, q => if f q = true then q else lsC f pl k (q + 1)
theorem lX9_leastAlike1 {G : Gx} {d : Nat} {Q : Option Value → Hp → Prop} {σ0 : Hp} {kn n k pl : Nat} {nb nu : Nat → Nat} (hn : n ≤ 9) (hpl : pl < n) (hap : kn + 1 < k ∨ k + 2 < kn) (hk : ∀ (σ : Hp) (od : Nat → Nat) (i : Nat), OB σ kn 3 [.int (nI n), .ref (kn + 1)] → AI σ (kn + 1) 9 nb → OB σ k 9 [.ref (k + 1), .ref (k + 2)] → AI σ (k + 1) 9 od → AI σ (k + 2) 9 nu → (∀ j, od j < 9) → fr [k + 1, k + 2] σ0 σ → (∀ j, j < n → od j = odA pl j) → Wp G mX9_leastAlike d 50 [.ref k, .ref kn, .int (nI pl), .int (nI i), .int (nI n)] [] σ 0 0 Q) : ∀ (x : Nat) (p i : Nat) (σ : Hp) (od : Nat → Nat), p + x = n → OB σ kn 3 [.int (nI n), .ref (kn + 1)] → AI σ (kn + 1) 9 nb → OB σ k 9 [.ref (k + 1), .ref (k + 2)] → AI σ (k + 1) 9 od → AI σ (k + 2) 9 nu → (∀ j, od j < 9) → fr [k + 1, k + 2] σ0 σ → i = (if p ≤ pl then p + 1 else p) → (∀ j, j < i → od j = odA pl j) → Wp G mX9_leastAlike d 12 [.ref k, .ref kn, .int (nI pl), .int (nI i), .int (nI p)] [] σ 0 0 Q := by
  intro x
  induction x with
  | zero =>
    intro p i σ od h hN hNA hO hOd hNu hod hF hi hg
    obtain rfl : p = n := by omega
    refine wp_iload (atd dX9_leastAlike 9 rfl) rfl ?_
    refine wp_aload_n (atd dX9_leastAlike 10 rfl) rfl rfl ?_
    refine wp_get fX9_18 (atd dX9_leastAlike 11 rfl) hN rfl ?_
    refine wp_icmpN_ge (tgt := 50) (atd dX9_leastAlike 12 rfl) (by decide) (by omega) (by omega) (fun c_18 => ?_) (fun c_18 => ?_)
    ·
      exact hk σ od i hN hNA hO hOd hNu hod hF (fun j hj => hg j (by split at hi <;> omega))
    · exfalso; omega
  | succ x ih =>
    intro p i σ od h hN hNA hO hOd hNu hod hF hi hg
    refine wp_iload (atd dX9_leastAlike 9 rfl) rfl ?_
    refine wp_aload_n (atd dX9_leastAlike 10 rfl) rfl rfl ?_
    refine wp_get fX9_18 (atd dX9_leastAlike 11 rfl) hN rfl ?_
    refine wp_icmpN_ge (tgt := 50) (atd dX9_leastAlike 12 rfl) (by decide) (by omega) (by omega) (fun c_18 => ?_) (fun c_18 => ?_)
    · exfalso; omega
    ·
      refine wp_iload (atd dX9_leastAlike 13 rfl) rfl ?_
      refine wp_iload_n (atd dX9_leastAlike 14 rfl) rfl ?_
      refine wp_icmpN_eq (tgt := 44) (atd dX9_leastAlike 15 rfl) (by decide) (by omega) (by omega) (fun c_24 => ?_) (fun c_24 => ?_)
      ·
        refine wp_iincN (c := 1) (atd dX9_leastAlike 25 rfl) rfl ?_
        refine wp_goto (tgt := 12) (atd dX9_leastAlike 26 rfl) (by decide) ?_
        exact ih (p + 1) i _ od (by omega) hN hNA hO hOd hNu hod hF (by split <;> split at hi <;> omega) hg
      ·
        refine wp_iload_n (atd dX9_leastAlike 16 rfl) rfl ?_
        refine wp_bipush (v := nI 9) (atd dX9_leastAlike 17 rfl) (by decide) ?_
        refine wp_icmpN_ge (tgt := 44) (atd dX9_leastAlike 18 rfl) (by decide) (by split at hi <;> omega) (by omega) (fun c_30 => ?_) (fun c_30 => ?_)
        · exfalso; split at hi <;> omega
        ·
          refine wp_aload_n (atd dX9_leastAlike 19 rfl) rfl rfl ?_
          refine wp_get fX9_9 (atd dX9_leastAlike 20 rfl) hO rfl ?_
          refine wp_iload_n (atd dX9_leastAlike 21 rfl) rfl ?_
          refine wp_iload (atd dX9_leastAlike 22 rfl) rfl ?_
          refine wp_iastA (atd dX9_leastAlike 23 rfl) hOd (by split at hi <;> omega) (Nat.le_of_ble_eq_true rfl) (fun σ f_40 hOd => ?_)
          have hN := hN.fr f_40 (by first | decide | (simp only [List.mem_cons, List.not_mem_nil, or_false]; omega))
          have hNA := hNA.fr f_40 (by first | decide | (simp only [List.mem_cons, List.not_mem_nil, or_false]; omega))
          have hO := hO.fr f_40 (by first | decide | (simp only [List.mem_cons, List.not_mem_nil, or_false]; omega))
          have hNu := hNu.fr f_40 (by first | decide | (simp only [List.mem_cons, List.not_mem_nil, or_false]; omega))
          have hF := hF.tr f_40 (by simp)
          refine wp_iincN (c := 1) (atd dX9_leastAlike 24 rfl) rfl ?_
          refine wp_iincN (c := 1) (atd dX9_leastAlike 25 rfl) rfl ?_
          refine wp_goto (tgt := 12) (atd dX9_leastAlike 26 rfl) (by decide) ?_
          exact ih (p + 1) (i + 1) _ _ (by omega) hN hNA hO hOd hNu (up_lt9 hod (by omega)) hF (by split <;> split at hi <;> omega) (fun j hj => by
        by_cases e : j = i
        · subst e; simp only [va_up, if_true]; unfold odA; split at hi <;> split <;> (try split) <;> omega
        · simp only [va_up, if_neg e]; exact hg j (by omega))
theorem lX9_leastAlike2 {G : Gx} {d : Nat} (hd : 14 ≤ d) {σ0 : Hp} {kn n k pl : Nat} {nb od : Nat → Nat} (hn : n ≤ 9) (hw : ∀ p, nb p < 512) (hpl : pl < n) (hod : ∀ j, od j < 9) (ho : ∀ j, j < n → od j = odA pl j) (hap : kn + 1 < k ∨ k + 2 < kn) {v : Nat} {y : Value} : ∀ (x : Nat) (q : Nat) (σ : Hp) (nu : Nat → Nat), q + x = pl → OB σ kn 3 [.int (nI n), .ref (kn + 1)] → AI σ (kn + 1) 9 nb → OB σ k 9 [.ref (k + 1), .ref (k + 2)] → AI σ (k + 1) 9 od → AI σ (k + 2) 9 nu → (∀ j, od j < 9) → fr [k + 1, k + 2] σ0 σ → (∀ j, nu j < 9) → lsC (cbB nb n (odA pl) id 0) pl x q = v → Wp G mX9_leastAlike d 53 [.ref k, .ref kn, .int (nI pl), y, .int (nI q)] [] σ 0 0 (pI fun r s => r = nI v ∧ fr [k + 1, k + 2] σ0 s ∧ ∃ od nu, AI s (k + 1) 9 od ∧ AI s (k + 2) 9 nu ∧ (∀ j, od j < 9) ∧ ∀ j, nu j < 9) := by
  obtain ⟨d0, hdd⟩ : ∃ e, d = e + 1 := ⟨d - 1, by omega⟩
  intro x
  induction x with
  | zero =>
    intro q σ nu h hN hNA hO hOd hNu hod2 hF hnu hv
    refine wp_iload (atd dX9_leastAlike 29 rfl) rfl ?_
    refine wp_iload_n (atd dX9_leastAlike 30 rfl) rfl ?_
    refine wp_icmpN_ge (tgt := 79) (atd dX9_leastAlike 31 rfl) (by decide) (by omega) (by omega) (fun c_56 => ?_) (fun c_56 => ?_)
    ·
      refine wp_iload_n (atd dX9_leastAlike 42 rfl) rfl ?_
      refine wp_ireti (atd dX9_leastAlike 43 rfl) rfl ?_
      exact ⟨by rw [← hv]; rfl, hF, od, nu, hOd, hNu, hod, hnu⟩
    · exfalso; omega
  | succ x ih =>
    intro q σ nu h hN hNA hO hOd hNu hod2 hF hnu hv
    refine wp_iload (atd dX9_leastAlike 29 rfl) rfl ?_
    refine wp_iload_n (atd dX9_leastAlike 30 rfl) rfl ?_
    refine wp_icmpN_ge (tgt := 79) (atd dX9_leastAlike 31 rfl) (by decide) (by omega) (by omega) (fun c_56 => ?_) (fun c_56 => ?_)
    · exfalso; omega
    ·
      refine wp_aload_n (atd dX9_leastAlike 32 rfl) rfl rfl ?_
      refine wp_aload_n (atd dX9_leastAlike 33 rfl) rfl rfl ?_
      refine wp_iconst (v := nI 0) (atd dX9_leastAlike 34 rfl) (by decide) ?_
      refine wp_iload (atd dX9_leastAlike 35 rfl) rfl ?_
      refine wp_cVi hdd [_, _, _] (atd dX9_leastAlike 36 rfl) iX9_canBe lX9_28 rfl rfl (Nat.le_of_ble_eq_true rfl) hO rfl (eX9_canBe (by omega) hN hNA hn hw hO hOd hNu hod hnu hap (by omega) (by omega)) (fun r_64 s_64 h_64 => ?_)
      obtain ⟨rfl, f_64, nu2, hNu, hnu2, hg2⟩ := h_64
      have hN := hN.fr f_64 (by first | decide | (simp only [List.mem_cons, List.not_mem_nil, or_false]; omega))
      have hNA := hNA.fr f_64 (by first | decide | (simp only [List.mem_cons, List.not_mem_nil, or_false]; omega))
      have hO := hO.fr f_64 (by first | decide | (simp only [List.mem_cons, List.not_mem_nil, or_false]; omega))
      have hOd := hOd.fr f_64 (by first | decide | (simp only [List.mem_cons, List.not_mem_nil, or_false]; omega))
      have hF := hF.tr f_64 (by simp)
      refine wp_ifB_eq (tgt := 73) (atd dX9_leastAlike 37 rfl) (by decide) (fun c_67 => ?_) (fun c_67 => ?_)
      ·
        refine wp_iincN (c := 1) (atd dX9_leastAlike 40 rfl) rfl ?_
        refine wp_goto (tgt := 53) (atd dX9_leastAlike 41 rfl) (by decide) ?_
        have ef : cbB nb n od nu 0 q = cbB nb n (odA pl) id 0 q := cbB_cg (by omega) ho (fun j hj => absurd hj (Nat.not_lt_zero j))
        exact ih (q + 1) _ nu2 (by omega) hN hNA hO hOd hNu hod hF hnu2 (by rw [← hv, lsC, if_neg (by rw [← ef]; exact c_67)])
      ·
        refine wp_iload (atd dX9_leastAlike 38 rfl) rfl ?_
        refine wp_ireti (atd dX9_leastAlike 39 rfl) rfl ?_
        have ef : cbB nb n od nu 0 q = cbB nb n (odA pl) id 0 q := cbB_cg (by omega) ho (fun j hj => absurd hj (Nat.not_lt_zero j))
        exact ⟨by rw [← hv, lsC, if_pos (by rw [← ef]; exact c_67)], hF, od, nu2, hOd, hNu, hod, hnu2⟩
theorem eX9_leastAlike {G : Gx} {d : Nat} {σ : Hp} (hd : 14 ≤ d) {kn n k : Nat} {nb od nu : Nat → Nat} (hN : OB σ kn 3 [.int (nI n), .ref (kn + 1)]) (hNA : AI σ (kn + 1) 9 nb) (hn : n ≤ 9) (hw : ∀ p, nb p < 512) (hO : OB σ k 9 [.ref (k + 1), .ref (k + 2)]) (hOd : AI σ (k + 1) 9 od) (hNu : AI σ (k + 2) 9 nu) (hod : ∀ j, od j < 9) (hnu : ∀ j, nu j < 9) (hap : kn + 1 < k ∨ k + 2 < kn) {pl : Nat} (hpl : pl < n) : Cl G mX9_leastAlike d [.ref k, .ref kn, .int (nI pl)] σ 0 0 (pI fun r s => r = nI (lsC (cbB nb n (odA pl) id 0) pl pl 0) ∧ fr [k + 1, k + 2] σ s ∧ ∃ od nu, AI s (k + 1) 9 od ∧ AI s (k + 2) 9 nu ∧ (∀ j, od j < 9) ∧ ∀ j, nu j < 9) := by
  obtain ⟨d0, hdd⟩ : ∃ e, d = e + 1 := ⟨d - 1, by omega⟩
  refine cl_of (by decide) (by simp [Value.category]) (Nat.le_of_ble_eq_true rfl) ?_
  show Wp G mX9_leastAlike d 0 [.ref k, .ref kn, .int (nI pl), .double 0, .double 0] [] σ 0 0 _
  have hF : fr [k + 1, k + 2] σ σ := fr.rf
  refine wp_iconst (v := nI 1) (atd dX9_leastAlike 0 rfl) (by decide) ?_
  refine wp_istore_n (atd dX9_leastAlike 1 rfl) (Nat.le_of_ble_eq_true rfl) ?_
  refine wp_aload_n (atd dX9_leastAlike 2 rfl) rfl rfl ?_
  refine wp_get fX9_9 (atd dX9_leastAlike 3 rfl) hO rfl ?_
  refine wp_iconst (v := nI 0) (atd dX9_leastAlike 4 rfl) (by decide) ?_
  refine wp_iload_n (atd dX9_leastAlike 5 rfl) rfl ?_
  refine wp_iastA (atd dX9_leastAlike 6 rfl) hOd (by omega) (Nat.le_of_ble_eq_true rfl) (fun σ f_8 hOd => ?_)
  have hN := hN.fr f_8 (by first | decide | (simp only [List.mem_cons, List.not_mem_nil, or_false]; omega))
  have hNA := hNA.fr f_8 (by first | decide | (simp only [List.mem_cons, List.not_mem_nil, or_false]; omega))
  have hO := hO.fr f_8 (by first | decide | (simp only [List.mem_cons, List.not_mem_nil, or_false]; omega))
  have hNu := hNu.fr f_8 (by first | decide | (simp only [List.mem_cons, List.not_mem_nil, or_false]; omega))
  have hF := hF.tr f_8 (by simp)
  refine wp_iconst (v := nI 0) (atd dX9_leastAlike 7 rfl) (by decide) ?_
  refine wp_istore (atd dX9_leastAlike 8 rfl) (Nat.le_of_ble_eq_true rfl) ?_
  refine lX9_leastAlike1 hn hpl hap (fun s1 od1 i1 hN hNA hO hOd hNu hod hF hg => ?_) n 0 1 _ _ (by omega) hN hNA hO hOd hNu (up_lt9 hod (by omega)) hF (by simp) odA_0
  refine wp_iconst (v := nI 0) (atd dX9_leastAlike 27 rfl) (by decide) ?_
  refine wp_istore (atd dX9_leastAlike 28 rfl) (Nat.le_of_ble_eq_true rfl) ?_
  exact lX9_leastAlike2 (by omega) hn hw hpl hod hg hap pl 0 s1 nu (by omega) hN hNA hO hOd hNu hod hF hnu rfl
