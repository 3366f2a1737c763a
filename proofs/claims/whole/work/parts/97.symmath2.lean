/-! the least place alike -/
section Sym2
variable {nb : Nat → Nat} {n : Nat}
theorem fl_bits {α : Type} {G : Nat → α → α} {m : α → Prop} {F : Nat → Prop} : ∀ (k i : Nat) (s : α), (∀ v s, i ≤ v → v < i + k → (m (G v s) ↔ m s ∨ F v)) → (m (fl G k i s) ↔ m s ∨ ∃ v, i ≤ v ∧ v < i + k ∧ F v)
  | 0, i, s, _ => ⟨Or.inl, fun z => z.elim id (fun ⟨v, h1, h2, _⟩ => by omega)⟩
  | k + 1, i, s, h => by
    show m (fl G k (i + 1) (G i s)) ↔ _
    rw [fl_bits k (i + 1) (G i s) (fun v s h1 h2 => h v s (by omega) (by omega)), h i s (by omega) (by omega)]
    constructor
    · rintro ((z | z) | ⟨v, h1, h2, h3⟩)
      · exact Or.inl z
      · exact Or.inr ⟨i, by omega, by omega, z⟩
      · exact Or.inr ⟨v, by omega, by omega, h3⟩
    · rintro (z | ⟨v, h1, h2, h3⟩)
      · exact Or.inl (Or.inl z)
      · by_cases e : v = i
        · subst e; exact Or.inl (Or.inr h3)
        · exact Or.inr ⟨v, by omega, by omega, h3⟩
theorem syD_bit {p j : Nat} (hp : p < n) : ∀ (r k : Nat) (f : Nat → Nat) (s : Sy), k + r = n → (((syD nb n r k f s).2 p).testBit j = true ↔ (s.2 p).testBit j = true ∨ ∃ g, isX nb n k r f g ∧ g p = j)
  | 0, k, f, s, hk => by
    show ((if p < n then s.2 p ||| 2 ^ f p else s.2 p)).testBit j = true ↔ _
    rw [if_pos hp, Nat.testBit_or, Bool.or_eq_true, tb_pow]
    refine or_congr Iff.rfl ⟨fun z => ⟨f, ⟨fun _ _ => rfl, fun x h1 h2 => by omega⟩, z⟩, fun ⟨g, h1, h2⟩ => ?_⟩
    rw [← h1.1 p (by omega)]; exact h2
  | r + 1, k, f, s, hk => by
    unfold syD
    rw [fl_bits (m := fun s : Sy => (s.2 p).testBit j = true) (F := fun v => fitB nb k v f = true ∧ ∃ g, isX nb n (k + 1) r (va_up f k v) g ∧ g p = j) n 0 s (fun v s _ _ => ?_)]
    · refine or_congr Iff.rfl ⟨?_, ?_⟩
      · rintro ⟨v, -, h2, h3, g, h4, h5⟩
        exact ⟨g, isX_s.mpr ⟨v, by omega, fitB_iff.mp h3, h4⟩, h5⟩
      · rintro ⟨g, h1, h2⟩
        obtain ⟨v, a, b, c⟩ := isX_s.mp h1
        exact ⟨v, Nat.zero_le _, by omega, fitB_iff.mpr b, g, c, h2⟩
    · by_cases hf : fitB nb k v f = true
      · show (((if fitB nb k v f = true then syD nb n r (k + 1) (va_up f k v) s else s) : Sy).2 p).testBit j = true ↔ _
        rw [if_pos hf, syD_bit hp r (k + 1) _ s (by omega)]
        exact or_congr Iff.rfl ⟨fun z => ⟨hf, z⟩, fun z => z.2⟩
      · show (((if fitB nb k v f = true then syD nb n r (k + 1) (va_up f k v) s else s) : Sy).2 p).testBit j = true ↔ _
        rw [if_neg hf]
        exact ⟨Or.inl, fun z => z.elim id (fun q => absurd q.1 hf)⟩
theorem syF_bit (hN : isNet n nb) {p j : Nat} (hp : p < n) : ((syF nb n).2 p).testBit j = true ↔ ∃ g, Aut nb n g ∧ g p = j := by
  unfold syF
  rw [syD_bit hp n 0 _ _ (by omega)]
  constructor
  · rintro (z | ⟨g, h1, h2⟩)
    · have z : (0 : Nat).testBit j = true := z
      rw [Nat.zero_testBit] at z; cases z
    · exact ⟨g, X_aut hN h1, h2⟩
  · rintro ⟨g, h1, h2⟩
    exact Or.inr ⟨g, ⟨fun i hi => by omega, fun x _ hx => ⟨h1.1 x (by omega), aut_fit h1 (by omega)⟩⟩, h2⟩
theorem aut_id : Aut nb n id := ⟨fun _ h => h, fun _ _ _ _ h => h, fun _ _ _ _ => rfl, fun _ _ => rfl⟩
/-! the class's search in another order -/
def isY (nb : Nat → Nat) (n : Nat) (od : Nat → Nat) (i x : Nat) (nu g : Nat → Nat) : Prop := (∀ j, j < i → g j = nu j) ∧ ∀ j, i ≤ j → j < i + x → g j < n ∧ fitC nb n od g j (g j) = true
theorem fitC_cg2 {od nu nu2 : Nat → Nat} {i v : Nat} (h : ∀ j, j < i → nu j = nu2 j) : fitC nb n od nu i v = fitC nb n od nu2 i v := Bool.eq_iff_iff.mpr (by
  unfold fitC
  rw [Bool.and_eq_true, Bool.and_eq_true, fitL_iff, fitL_iff]
  refine and_congr Iff.rfl ⟨fun z x h1 h2 => ?_, fun z x h1 h2 => ?_⟩
  · rw [← h x (by omega)]; exact z x h1 h2
  · rw [h x (by omega)]; exact z x h1 h2)
theorem cpl_Y {od : Nat → Nat} : ∀ (x i : Nat) (nu : Nat → Nat), cpl nb n od x i nu = true ↔ ∃ g, isY nb n od i x nu g
  | 0, i, nu => ⟨fun _ => ⟨nu, fun _ _ => rfl, fun j h1 h2 => by omega⟩, fun _ => rfl⟩
  | x + 1, i, nu => by
    rw [cpl, anyB_iff]
    constructor
    · rintro ⟨q, -, h2, h3⟩
      rw [Bool.and_eq_true] at h3
      obtain ⟨g, a, b⟩ := (cpl_Y x (i + 1) _).mp h3.2
      have hg : ∀ j, j < i → g j = nu j := fun j hj => by rw [a j (by omega)]; unfold va_up; rw [if_neg (by omega)]
      have hi : g i = q := by rw [a i (by omega)]; unfold va_up; rw [if_pos rfl]
      refine ⟨g, hg, fun j h4 h5 => ?_⟩
      by_cases e : j = i
      · subst e; rw [hi]; exact ⟨by omega, by rw [fitC_cg2 hg]; exact h3.1⟩
      · exact b j (by omega) (by omega)
    · rintro ⟨g, a, b⟩
      obtain ⟨c1, c2⟩ := b i (Nat.le_refl _) (by omega)
      refine ⟨g i, Nat.zero_le _, by omega, ?_⟩
      rw [Bool.and_eq_true]
      refine ⟨by rw [← fitC_cg2 a]; exact c2, (cpl_Y x (i + 1) _).mpr ⟨g, fun j hj => ?_, fun j h4 h5 => b j (by omega) (by omega)⟩⟩
      unfold va_up
      by_cases e : j = i
      · rw [if_pos e, e]
      · rw [if_neg e]; exact a j (by omega)
def odI (pl x : Nat) : Nat := if x = pl then 0 else if x < pl then x + 1 else x
theorem odA_I {pl x : Nat} : odA pl (odI pl x) = x := by
  unfold odA odI
  by_cases h : x = pl
  · rw [if_pos h, if_pos rfl, h]
  · rw [if_neg h]
    by_cases h2 : x < pl
    · rw [if_pos h2, if_neg (by omega), if_pos (by omega)]; omega
    · rw [if_neg h2, if_neg (by omega), if_neg (by omega)]
theorem odI_A {pl j : Nat} : odI pl (odA pl j) = j := by
  unfold odA odI
  by_cases h : j = 0
  · rw [if_pos h, if_pos rfl, h]
  · rw [if_neg h]
    by_cases h2 : j - 1 < pl
    · rw [if_pos h2, if_neg (by omega), if_pos (by omega)]; omega
    · rw [if_neg h2, if_neg (by omega), if_neg (by omega)]
theorem odA_lt {pl j : Nat} (hpl : pl < n) (hj : j < n) : odA pl j < n := by
  unfold odA
  by_cases h : j = 0
  · rw [if_pos h]; exact hpl
  · rw [if_neg h]
    split <;> omega
theorem odI_lt {pl x : Nat} (hx : x < n) (hpl : pl < n) : odI pl x < n := by
  unfold odI
  by_cases h : x = pl
  · rw [if_pos h]; omega
  · rw [if_neg h]
    split <;> omega
theorem odA_ne {pl i j : Nat} (h : i ≠ j) : odA pl i ≠ odA pl j := fun e => h (by rw [← odI_A (pl := pl) (j := i), e, odI_A])
theorem cb_od (hN : isNet n nb) {pl q : Nat} (hpl : pl < n) (hq : q < n) : cbB nb n (odA pl) id 0 q = true ↔ ∃ g, Aut nb n g ∧ g pl = q := by
  have h0 : odA pl 0 = pl := rfl
  unfold cbB
  rw [Bool.and_eq_true, cpl_Y]
  constructor
  · rintro ⟨h1, u, a, b⟩
    have hu0 : u 0 = q := a 0 (by omega)
    have hu : ∀ j, j < n → u j < n ∧ fitC nb n (odA pl) u j (u j) = true := fun j hj => by
      by_cases e : j = 0
      · subst e; rw [hu0]; exact ⟨hq, by rw [fitC_cg2 (nu2 := id) (fun j hj => by omega)]; exact h1⟩
      · exact b j (by omega) (by omega)
    have hP : ∀ j, j < n → cnt (nb (odA pl j)) = cnt (nb (u j)) ∧ ∀ x, x < j → u x ≠ u j ∧ (nb (odA pl x)).testBit (odA pl j) = (nb (u x)).testBit (u j) := fun j hj => (fitC_P hN (fun x hx => odA_lt hpl (by omega)) (fun x hx => odA_ne (by omega)) (fun x hx => (hu x (by omega)).1) (hu j hj).1).mp (hu j hj).2
    have hne : ∀ i j, i < n → j < n → u i = u j → i = j := fun i j hi hj e => by
      rcases Nat.lt_trichotomy i j with z | z | z
      · exact absurd e ((hP j hj).2 i z).1
      · exact z
      · exact absurd e.symm ((hP i hi).2 j z).1
    have hbit : ∀ i j, i < n → j < n → (nb (odA pl i)).testBit (odA pl j) = (nb (u i)).testBit (u j) := fun i j hi hj => by
      rcases Nat.lt_trichotomy i j with z | z | z
      · exact ((hP j hj).2 i z).2
      · subst z; rw [hN.2.2.1 _ (odA_lt hpl hi), hN.2.2.1 _ (hu i hi).1]
      · rw [hN.2.2.2 _ _ (odA_lt hpl hi) (odA_lt hpl hj), ((hP i hi).2 j z).2, hN.2.2.2 _ _ (hu j hj).1 (hu i hi).1]
    refine ⟨fun x => u (odI pl x), ⟨fun x hx => (hu _ (odI_lt hx hpl)).1, fun x y hx hy e => ?_, fun x y hx hy => ?_, fun x hx => ?_⟩, ?_⟩
    · have := hne _ _ (odI_lt hx hpl) (odI_lt hy hpl) e
      rw [← odA_I (pl := pl) (x := x), this, odA_I]
    · have := hbit _ _ (odI_lt hx hpl) (odI_lt hy hpl)
      rw [odA_I, odA_I] at this
      exact this
    · have := (hP _ (odI_lt hx hpl)).1
      rw [odA_I] at this
      exact this
    · show u (odI pl pl) = q
      unfold odI
      rw [if_pos rfl]; exact hu0
  · rintro ⟨g, hg, rfl⟩
    have hf : ∀ j, j < n → fitC nb n (odA pl) (fun j => g (odA pl j)) j (g (odA pl j)) = true := fun j hj => (fitC_P hN (fun x hx => odA_lt hpl (by omega)) (fun x hx => odA_ne (by omega)) (fun x hx => hg.1 _ (odA_lt hpl (by omega))) (hg.1 _ (odA_lt hpl hj))).mpr ⟨hg.2.2.2 _ (odA_lt hpl hj), fun x hx => ⟨fun e => by
      have := hg.2.1 _ _ (odA_lt hpl (by omega)) (odA_lt hpl hj) e
      exact odA_ne (by omega) this, hg.2.2.1 _ _ (odA_lt hpl (by omega)) (odA_lt hpl hj)⟩⟩
    refine ⟨?_, fun j => g (odA pl j), fun j hj => ?_, fun j h1 h2 => ⟨hg.1 _ (odA_lt hpl (by omega)), hf j (by omega)⟩⟩
    · have := hf 0 (by omega)
      rw [fitC_cg2 (nu2 := id) (fun j hj => by omega)] at this
      exact this
    · have e : j = 0 := by omega
      subst e
      unfold va_up
      rw [if_pos rfl]; rfl
theorem ls_eq {a pl : Nat} {f : Nat → Bool} (h : ∀ q, q < pl → (f q = true ↔ a.testBit q = true)) (hpl : a.testBit pl = true) : ∀ (k i m : Nat), i + k = pl → k < m → lsC f pl k i = lsB a m i
  | 0, i, m, hi, hm => by
    obtain ⟨m, rfl⟩ : ∃ t, m = t + 1 := ⟨m - 1, by omega⟩
    unfold lsB
    rw [show i = pl from by omega, if_pos hpl]; rfl
  | k + 1, i, m, hi, hm => by
    obtain ⟨m, rfl⟩ : ∃ t, m = t + 1 := ⟨m - 1, by omega⟩
    unfold lsC lsB
    have hq := h i (by omega)
    by_cases hf : f i = true
    · rw [if_pos hf, if_pos (hq.mp hf)]
    · rw [if_neg hf, if_neg (fun z => hf (hq.mpr z))]
      exact ls_eq h hpl k (i + 1) m (by omega) (by omega)
theorem al_eq (hN : isNet n nb) {pl : Nat} (hpl : pl < n) : lsC (cbB nb n (odA pl) id 0) pl pl 0 = lsB ((syF nb n).2 pl) 9 0 :=
  ls_eq (a := (syF nb n).2 pl) (pl := pl) (fun q hq => (cb_od hN hpl (by omega)).trans (syF_bit hN hpl).symm) ((syF_bit hN hpl).mpr ⟨fun x => x, aut_id, rfl⟩) pl 0 9 (Nat.zero_add _) (by have := hN.1; omega)
end Sym2
