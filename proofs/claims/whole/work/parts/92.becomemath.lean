/-! nets made of the net: what double loops of flips leave -/
def prE (a : Nat → Nat) (c : Nat → Nat → Bool) (n P Q x y : Nat) : Prop := ∃ p q, p < q ∧ q < n ∧ (p < P ∨ (p = P ∧ q < Q)) ∧ c p q = true ∧ ((x = a p ∧ y = a q) ∨ (x = a q ∧ y = a p))
def sfl (a : Nat → Nat) (c : Nat → Nat → Bool) (N p q : Nat) (g : Nat → Nat) : Nat → Nat := if c p q = true then flp g N (a p) (a q) else g
theorem xor_st {b : Bool} {A E D E2 : Prop} [Decidable D] (h : b = true ↔ (A ↔ ¬ E)) (hE : E2 ↔ E ∨ D) (hx : ¬ (E ∧ D)) : (b ^^ decide D) = true ↔ (A ↔ ¬ E2) := by
  by_cases hD : D
  · have hE0 : ¬ E := fun z => hx ⟨z, hD⟩
    have hE2 : E2 := hE.mpr (Or.inr hD)
    rw [decide_eq_true hD]
    cases b with
    | true => simp only [Bool.xor_self, Bool.false_eq_true, false_iff]
              have := h.mp rfl
              intro z
              exact (z.mp (this.mpr hE0)) hE2
    | false =>
      simp only [Bool.false_xor, true_iff]
      constructor
      · intro hA; exfalso; exact absurd (h.mpr ⟨fun _ => hE0, fun _ => hA⟩) (by decide)
      · intro z; exact absurd hE2 z
  · have : E2 ↔ E := hE.trans ⟨fun z => z.elim id (fun q => absurd q hD), Or.inl⟩
    rw [decide_eq_false hD, Bool.xor_false, this]
    exact h
section Flips
variable {a : Nat → Nat} {c : Nat → Nat → Bool} {n N : Nat} {g0 : Nat → Nat}
theorem fl_in (hc : ∀ p q, p < q → q < n → c p q = true → a p ≠ a q ∧ a p < N ∧ a q < N) (hi : ∀ p q p2 q2, p < q → q < n → p2 < q2 → q2 < n → c p q = true → c p2 q2 = true → ((a p = a p2 ∧ a q = a q2) ∨ (a p = a q2 ∧ a q = a p2)) → p = p2 ∧ q = q2) : ∀ (k P Q : Nat) (g : Nat → Nat), Q + k = n → P < Q → (∀ x y, (g x).testBit y = true ↔ ((g0 x).testBit y = true ↔ ¬ prE a c n P Q x y)) → ∀ x y, (fl (sfl a c N P) k Q g x).testBit y = true ↔ ((g0 x).testBit y = true ↔ ¬ prE a c n P n x y) := by
  intro k
  induction k with
  | zero => intro P Q g hk hPQ h x y; rw [show Q = n from by omega] at h; exact h x y
  | succ k ih =>
    intro P Q g hk hPQ h
    refine ih P (Q + 1) (sfl a c N P Q g) (by omega) (by omega) (fun x y => ?_)
    unfold sfl
    by_cases hcc : c P Q = true
    · obtain ⟨h1, h2, h3⟩ := hc P Q hPQ (by omega) hcc
      rw [if_pos hcc, flp_t h1 h2 h3, nbt_bit h1]
      refine xor_st (h x y) ?_ ?_
      · constructor
        · rintro ⟨p, q, w1, w2, w3, w4, w5⟩
          by_cases hq : p = P ∧ q = Q
          · obtain ⟨rfl, rfl⟩ := hq; exact Or.inr w5
          · exact Or.inl ⟨p, q, w1, w2, by omega, w4, w5⟩
        · rintro (⟨p, q, w1, w2, w3, w4, w5⟩ | w)
          · exact ⟨p, q, w1, w2, by omega, w4, w5⟩
          · exact ⟨P, Q, hPQ, by omega, by omega, hcc, w⟩
      · rintro ⟨⟨p, q, w1, w2, w3, w4, w5⟩, w⟩
        have := hi p q P Q w1 w2 hPQ (by omega) w4 hcc (by rcases w5 with ⟨rfl, rfl⟩ | ⟨rfl, rfl⟩ <;> rcases w with ⟨u, v⟩ | ⟨u, v⟩ <;> first | exact Or.inl ⟨u, v⟩ | exact Or.inr ⟨u, v⟩ | exact Or.inl ⟨v, u⟩ | exact Or.inr ⟨v, u⟩)
        omega
    · rw [if_neg hcc]
      have : prE a c n P (Q + 1) x y ↔ prE a c n P Q x y := by
        constructor
        · rintro ⟨p, q, w1, w2, w3, w4, w5⟩
          by_cases hq : p = P ∧ q = Q
          · obtain ⟨rfl, rfl⟩ := hq; exact absurd w4 hcc
          · exact ⟨p, q, w1, w2, by omega, w4, w5⟩
        · rintro ⟨p, q, w1, w2, w3, w4, w5⟩
          exact ⟨p, q, w1, w2, by omega, w4, w5⟩
      rw [this]; exact h x y
theorem fl_out (hc : ∀ p q, p < q → q < n → c p q = true → a p ≠ a q ∧ a p < N ∧ a q < N) (hi : ∀ p q p2 q2, p < q → q < n → p2 < q2 → q2 < n → c p q = true → c p2 q2 = true → ((a p = a p2 ∧ a q = a q2) ∨ (a p = a q2 ∧ a q = a p2)) → p = p2 ∧ q = q2) : ∀ (k P : Nat) (g : Nat → Nat), P + k = n → (∀ x y, (g x).testBit y = true ↔ ((g0 x).testBit y = true ↔ ¬ prE a c n P (P + 1) x y)) → ∀ x y, (fl (fun p g => fl (sfl a c N p) (n - (p + 1)) (p + 1) g) k P g x).testBit y = true ↔ ((g0 x).testBit y = true ↔ ¬ prE a c n n n x y) := by
  intro k
  induction k with
  | zero =>
    intro P g hk h x y
    have : prE a c n n n x y ↔ prE a c n P (P + 1) x y := by
      constructor
      · rintro ⟨p, q, w1, w2, w3, w4, w5⟩; exact ⟨p, q, w1, w2, by omega, w4, w5⟩
      · rintro ⟨p, q, w1, w2, w3, w4, w5⟩; exact ⟨p, q, w1, w2, by omega, w4, w5⟩
    rw [this]; exact h x y
  | succ k ih =>
    intro P g hk h
    refine ih (P + 1) _ (by omega) (fun x y => ?_)
    have h2 := fl_in hc hi (n - (P + 1)) P (P + 1) g (by omega) (by omega) h x y
    have : prE a c n (P + 1) (P + 1 + 1) x y ↔ prE a c n P n x y := by
      constructor
      · rintro ⟨p, q, w1, w2, w3, w4, w5⟩; exact ⟨p, q, w1, w2, by omega, w4, w5⟩
      · rintro ⟨p, q, w1, w2, w3, w4, w5⟩; exact ⟨p, q, w1, w2, by omega, w4, w5⟩
    rw [this]; exact h2
theorem fl_all (hc : ∀ p q, p < q → q < n → c p q = true → a p ≠ a q ∧ a p < N ∧ a q < N) (hi : ∀ p q p2 q2, p < q → q < n → p2 < q2 → q2 < n → c p q = true → c p2 q2 = true → ((a p = a p2 ∧ a q = a q2) ∨ (a p = a q2 ∧ a q = a p2)) → p = p2 ∧ q = q2) (x y : Nat) : (fl (fun p g => fl (sfl a c N p) (n - (p + 1)) (p + 1) g) n 0 g0 x).testBit y = true ↔ ((g0 x).testBit y = true ↔ ¬ prE a c n n n x y) :=
  fl_out hc hi n 0 g0 (by omega) (fun x y => by
    have : ¬ prE a c n 0 (0 + 1) x y := by rintro ⟨p, q, w1, w2, w3, w4, w5⟩; omega
    exact ⟨fun z => ⟨fun _ => this, fun _ => z⟩, fun z => z.mpr this⟩) x y
theorem fl_netZ (hc : ∀ p q, p < q → q < n → c p q = true → a p ≠ a q ∧ a p < N ∧ a q < N) (h0 : isNetZ N g0) : isNetZ N (fl (fun p g => fl (sfl a c N p) (n - (p + 1)) (p + 1) g) n 0 g0) := by
  have h1 : ∀ (k P Q : Nat) (g : Nat → Nat), Q + k = n → P < Q → isNetZ N g → isNetZ N (fl (sfl a c N P) k Q g) := by
    intro k
    induction k with
    | zero => intro P Q g _ _ h; exact h
    | succ k ih =>
      intro P Q g hk hPQ h
      refine ih P (Q + 1) _ (by omega) (by omega) ?_
      unfold sfl
      by_cases hcc : c P Q = true
      · obtain ⟨h1, h2, h3⟩ := hc P Q hPQ (by omega) hcc
        rw [if_pos hcc, flp_t h1 h2 h3]; exact nbt_netZ h h2 h3 h1
      · rw [if_neg hcc]; exact h
  have h2 : ∀ (k P : Nat) (g : Nat → Nat), P + k = n → isNetZ N g → isNetZ N (fl (fun p g => fl (sfl a c N p) (n - (p + 1)) (p + 1) g) k P g) := by
    intro k
    induction k with
    | zero => intro P g _ h; exact h
    | succ k ih =>
      intro P g hk h
      exact ih (P + 1) _ (by omega) (h1 (n - (P + 1)) P (P + 1) g (by omega) (by omega) h)
  exact h2 n 0 g0 (by omega) h0
end Flips
/-! the net turned about -/
theorem tt_st (n : Nat) (nb : Nat → Nat) : ttF n nb = fl (fun p g => fl (sfl id (fun _ _ => true) n p) (n - (p + 1)) (p + 1) g) n 0 nb := by
  have : ∀ p, ttG n p = sfl id (fun _ _ => true) n p := fun p => funext fun q => funext fun g => by unfold ttG sfl; rw [if_pos rfl]; rfl
  unfold ttF
  rw [show (fun p g => fl (ttG n p) (n - (p + 1)) (p + 1) g) = (fun p g => fl (sfl id (fun _ _ => true) n p) (n - (p + 1)) (p + 1) g) from funext fun p => by rw [this]]
theorem tt_bit {n : Nat} {nb : Nat → Nat} (x y : Nat) : (ttF n nb x).testBit y = true ↔ ((nb x).testBit y = true ↔ ¬ (x ≠ y ∧ x < n ∧ y < n)) := by
  rw [tt_st, fl_all (a := id) (c := fun _ _ => true) (N := n) (fun p q h1 h2 _ => ⟨by show p ≠ q; omega, by show p < n; omega, h2⟩) (fun p q p2 q2 h1 h2 h3 h4 _ _ h => by have h : (p = p2 ∧ q = q2) ∨ (p = q2 ∧ q = p2) := h; omega)]
  have : prE id (fun _ _ => true) n n n x y ↔ (x ≠ y ∧ x < n ∧ y < n) := by
    constructor
    · rintro ⟨p, q, w1, w2, w3, w4, w5⟩
      have w5 : (x = p ∧ y = q) ∨ (x = q ∧ y = p) := w5
      omega
    · rintro ⟨h1, h2, h3⟩
      rcases Nat.lt_or_gt_of_ne h1 with h | h
      · exact ⟨x, y, h, h3, by omega, rfl, Or.inl ⟨rfl, rfl⟩⟩
      · exact ⟨y, x, h, h2, by omega, rfl, Or.inr ⟨rfl, rfl⟩⟩
  rw [this]
theorem tt_netZ {n : Nat} {nb : Nat → Nat} (h : isNetZ n nb) : isNetZ n (ttF n nb) := by
  rw [tt_st]
  exact fl_netZ (fun p q h1 h2 _ => ⟨by show p ≠ q; omega, by show p < n; omega, h2⟩) h
theorem bec1 {n : Nat} {nb : Nat → Nat} (h : isNetZ n nb) : ttF n nb = becZ nb n 1 := by
  funext x
  show ttF n nb x = if x < n then trnN nb n x else 0
  by_cases hx : x < n
  · rw [if_pos hx]
    unfold trnN
    rw [if_pos hx]
    apply Nat.eq_of_testBit_eq
    intro y
    apply Bool.eq_iff_iff.mpr
    rw [tt_bit, Nat.testBit_or, Bool.or_eq_true, dif_bit, Bool.and_eq_true, Nat.testBit_two_pow_sub_one, decide_eq_true_iff, tb_pow]
    have h1 := h.1.2.2.1 x hx
    by_cases hy : y < n
    · by_cases hxy : x = y
      · subst hxy; simp [h1]
      · cases hb : (nb x).testBit y <;> simp [hxy, hx, hy]
    · have hb : (nb x).testBit y = false := Nat.testBit_lt_two_pow (Nat.lt_of_lt_of_le (h.1.2.1 x hx) (Nat.pow_le_pow_right (by decide) (by omega)))
      rw [hb]
      have : x ≠ y := by omega
      simp [hy, this]
  · rw [if_neg hx]
    exact (tt_netZ h).2 x (by omega)
/-! those left alone, numbered anew -/
def rkL (L p : Nat) : Nat := cnt (L &&& (2 ^ p - 1))
theorem rkL_s : ∀ L, L < 512 → ∀ p, p < 9 → rkL L (p + 1) = rkL L p + (if L.testBit p = true then 1 else 0) := by decide +kernel
theorem rkL_0 (L : Nat) : rkL L 0 = 0 := by unfold rkL; rw [show 2 ^ 0 - 1 = 0 from rfl, Nat.and_zero]; decide
theorem rkL_le {L : Nat} (hL : L < 512) {i : Nat} : ∀ (k : Nat), i + k ≤ 9 → rkL L i ≤ rkL L (i + k)
  | 0, _ => Nat.le_refl _
  | k + 1, h => by
    have h1 := rkL_le hL (i := i) k (by omega)
    have h2 := rkL_s L hL (i + k) (by omega)
    rw [show i + (k + 1) = i + k + 1 from rfl, h2]
    omega
theorem rkL_lt {L : Nat} (hL : L < 512) {i j : Nat} (hi : L.testBit i = true) (hij : i < j) (hj : j ≤ 9) : rkL L i < rkL L j := by
  have h2 := rkL_s L hL i (by omega)
  rw [if_pos hi] at h2
  obtain ⟨k, rfl⟩ : ∃ k, j = i + 1 + k := ⟨j - (i + 1), by omega⟩
  have := rkL_le hL (i := i + 1) k (by omega)
  omega
theorem rkL_inj {L : Nat} (hL : L < 512) {i j : Nat} (hi : L.testBit i = true) (hj : L.testBit j = true) (h1 : i < 9) (h2 : j < 9) (e : rkL L i = rkL L j) : i = j := by
  rcases Nat.lt_trichotomy i j with h | h | h
  · have := rkL_lt hL hi h (by omega); omega
  · exact h
  · have := rkL_lt hL hj h (by omega); omega
theorem rkL_sur {L : Nat} (hL : L < 512) : ∀ (n x : Nat), n ≤ 9 → x < rkL L n → ∃ p, p < n ∧ L.testBit p = true ∧ rkL L p = x
  | 0, x, _, h => by rw [rkL_0] at h; omega
  | n + 1, x, hn, h => by
    rw [rkL_s L hL n (by omega)] at h
    by_cases hb : L.testBit n = true
    · rw [if_pos hb] at h
      by_cases hx : x = rkL L n
      · exact ⟨n, by omega, hb, hx.symm⟩
      · obtain ⟨p, h1, h2, h3⟩ := rkL_sur hL n x (by omega) (by omega)
        exact ⟨p, by omega, h2, h3⟩
    · rw [if_neg hb] at h
      obtain ⟨p, h1, h2, h3⟩ := rkL_sur hL n x (by omega) (by omega)
      exact ⟨p, by omega, h2, h3⟩
def idN (m x : Nat) : Nat := if x < m then 2 ^ x else 0
theorem idN_up (m : Nat) : va_up (idN m) m (2 ^ m) = idN (m + 1) := by
  funext x
  unfold va_up idN
  by_cases h : x = m
  · rw [if_pos h, if_pos (by omega), h]
  · rw [if_neg h]
    by_cases h2 : x < m
    · rw [if_pos h2, if_pos (by omega)]
    · rw [if_neg h2, if_neg (by omega)]
theorem idN_0 : idN 0 = fun _ => 0 := by funext x; unfold idN; rw [if_neg (by omega)]
theorem idN_netZ {m : Nat} (h : m ≤ 9) : isNetZ m (idN m) := by
  refine ⟨⟨h, fun p hp => ?_, fun p hp => ?_, fun p q hp hq => ?_⟩, fun p hp => ?_⟩
  · unfold idN; rw [if_pos hp]; exact Nat.pow_lt_pow_right (by decide) hp
  · unfold idN; rw [if_pos hp, Nat.testBit_two_pow]; simp
  · unfold idN; rw [if_pos hp, if_pos hq, Nat.testBit_two_pow, Nat.testBit_two_pow]; exact decide_eq_decide.mpr ⟨Eq.symm, Eq.symm⟩
  · unfold idN; rw [if_neg (by omega)]
theorem tpA_fl {L : Nat} (hL : L < 512) : ∀ (k i : Nat), i + k ≤ 9 → fl (tpA L) k i (rkL L i, idN (rkL L i)) = (rkL L (i + k), idN (rkL L (i + k)))
  | 0, i, _ => rfl
  | k + 1, i, h => by
    show fl (tpA L) k (i + 1) (tpA L i (rkL L i, idN (rkL L i))) = _
    have hs := rkL_s L hL i (by omega)
    have : tpA L i (rkL L i, idN (rkL L i)) = (rkL L (i + 1), idN (rkL L (i + 1))) := by
      unfold tpA
      by_cases hb : L.testBit i = true
      · rw [if_pos hb] at hs ⊢; rw [hs]; show (rkL L i + 1, va_up (idN (rkL L i)) (rkL L i) (2 ^ rkL L i)) = _; rw [idN_up]
      · rw [if_neg hb] at hs ⊢; rw [hs]; rfl
    rw [this, tpA_fl hL k (i + 1) (by omega), show i + 1 + k = i + (k + 1) from by omega]
theorem cmp_fl {L w : Nat} (hL : L < 512) : ∀ (k i acc : Nat), i + k ≤ 9 → (∀ y, acc.testBit y = true ↔ ∃ q, q < i ∧ L.testBit q = true ∧ w.testBit q = true ∧ y = rkL L q) → ∀ y, (fl (cmpG L w) k i (acc, rkL L i)).1.testBit y = true ↔ ∃ q, q < i + k ∧ L.testBit q = true ∧ w.testBit q = true ∧ y = rkL L q
  | 0, i, acc, _, h => h
  | k + 1, i, acc, hk, h => by
    show ∀ y, (fl (cmpG L w) k (i + 1) (cmpG L w i (acc, rkL L i))).1.testBit y = true ↔ _
    have hs := rkL_s L hL i (by omega)
    by_cases hb : L.testBit i = true
    · rw [if_pos hb] at hs
      have e : cmpG L w i (acc, rkL L i) = (acc ||| (if w.testBit i = true then 2 ^ rkL L i else 0), rkL L (i + 1)) := by unfold cmpG; rw [if_pos hb, hs]
      rw [e, show i + (k + 1) = i + 1 + k from by omega]
      refine cmp_fl hL k (i + 1) _ (by omega) (fun y => ?_)
      rw [Nat.testBit_or, Bool.or_eq_true, h y]
      constructor
      · rintro (⟨q, a1, a2, a3, a4⟩ | hy)
        · exact ⟨q, by omega, a2, a3, a4⟩
        · by_cases hw : w.testBit i = true
          · rw [if_pos hw, tb_pow] at hy; exact ⟨i, by omega, hb, hw, hy.symm⟩
          · rw [if_neg hw, Nat.zero_testBit] at hy; cases hy
      · rintro ⟨q, a1, a2, a3, a4⟩
        by_cases hq : q = i
        · subst hq; rw [if_pos a3, tb_pow]; exact Or.inr a4.symm
        · exact Or.inl ⟨q, by omega, a2, a3, a4⟩
    · rw [if_neg hb] at hs
      have e : cmpG L w i (acc, rkL L i) = (acc, rkL L (i + 1)) := by unfold cmpG; rw [if_neg hb, hs]; rfl
      rw [e, show i + (k + 1) = i + 1 + k from by omega]
      refine cmp_fl hL k (i + 1) _ (by omega) (fun y => ?_)
      rw [h y]
      constructor
      · rintro ⟨q, a1, a2, a3, a4⟩; exact ⟨q, by omega, a2, a3, a4⟩
      · rintro ⟨q, a1, a2, a3, a4⟩
        exact ⟨q, by rcases Nat.lt_or_eq_of_le (Nat.lt_succ_iff.mp a1) with z | z; · exact z
                     · subst z; exact absurd a2 hb, a2, a3, a4⟩
theorem cmpF_bit {L w n : Nat} (hL : L < 512) (hn : n ≤ 9) (y : Nat) : (cmpF L w n).testBit y = true ↔ ∃ q, q < n ∧ L.testBit q = true ∧ w.testBit q = true ∧ y = rkL L q := by
  have h := cmp_fl (w := w) hL n 0 0 (by omega) (fun y => ⟨fun z => absurd z (by rw [Nat.zero_testBit]; decide), fun ⟨q, a1, _⟩ => absurd a1 (Nat.not_lt_zero q)⟩) y
  rw [rkL_0, Nat.zero_add] at h
  exact h
theorem bl_fl {L n : Nat} {w : Nat → Nat} (hL : L < 512) : ∀ (k i : Nat) (f : Nat → Nat), i + k ≤ 9 → (∀ p, p < i → L.testBit p = true → f (rkL L p) = cmpF L (w p) n) → (fl (blG L n w) k i (rkL L i, f)).1 = rkL L (i + k) ∧ ∀ p, p < i + k → L.testBit p = true → (fl (blG L n w) k i (rkL L i, f)).2 (rkL L p) = cmpF L (w p) n
  | 0, i, f, _, h => ⟨rfl, h⟩
  | k + 1, i, f, hk, h => by
    show (fl (blG L n w) k (i + 1) (blG L n w i (rkL L i, f))).1 = _ ∧ ∀ p, p < i + (k + 1) → L.testBit p = true → (fl (blG L n w) k (i + 1) (blG L n w i (rkL L i, f))).2 (rkL L p) = _
    have hs := rkL_s L hL i (by omega)
    rw [show i + (k + 1) = i + 1 + k from by omega]
    by_cases hb : L.testBit i = true
    · rw [if_pos hb] at hs
      have e : blG L n w i (rkL L i, f) = (rkL L (i + 1), va_up f (rkL L i) (cmpF L (w i) n)) := by unfold blG; rw [if_pos hb, hs]
      rw [e]
      refine bl_fl hL k (i + 1) _ (by omega) (fun p hp hpb => ?_)
      unfold va_up
      by_cases hpi : p = i
      · subst hpi; rw [if_pos rfl]
      · have := rkL_lt hL hpb (show p < i by omega) (by omega)
        rw [if_neg (by omega)]; exact h p (by omega) hpb
    · rw [if_neg hb] at hs
      have e : blG L n w i (rkL L i, f) = (rkL L (i + 1), f) := by unfold blG; rw [if_neg hb, hs]; rfl
      rw [e]
      refine bl_fl hL k (i + 1) _ (by omega) (fun p hp hpb => ?_)
      by_cases hpi : p = i
      · subst hpi; exact absurd hpb hb
      · exact h p (by omega) hpb
theorem tp_st (nb : Nat → Nat) (n L c : Nat) (g : Nat → Nat) : tpB nb n L c g = fl (fun p g => fl (sfl (rkL L) (fun p q => decide ((L.testBit p = true ∧ L.testBit q = true) ∧ (nb p).testBit q = true)) c p) (n - (p + 1)) (p + 1) g) n 0 g := by
  have : ∀ p, tpG nb n L c p = sfl (rkL L) (fun p q => decide ((L.testBit p = true ∧ L.testBit q = true) ∧ (nb p).testBit q = true)) c p := fun p => funext fun q => funext fun g => by
    unfold tpG sfl rkL
    by_cases h : (L.testBit p = true ∧ L.testBit q = true) ∧ (nb p).testBit q = true
    · rw [if_pos h, if_pos (decide_eq_true h)]
    · rw [if_neg h, if_neg (by rw [decide_eq_true_iff]; exact h)]
  unfold tpB
  rw [show (fun p g => fl (tpG nb n L c p) (n - (p + 1)) (p + 1) g) = (fun p g => fl (sfl (rkL L) (fun p q => decide ((L.testBit p = true ∧ L.testBit q = true) ∧ (nb p).testBit q = true)) c p) (n - (p + 1)) (p + 1) g) from funext fun p => by rw [this]]
theorem bec0 {n : Nat} {nb : Nat → Nat} (h : isNetZ n nb) : (tpF nb n (dis0 nb n).1).1 = becN nb n 0 ∧ (tpF nb n (dis0 nb n).1).2 = becZ nb n 0 ∧ isNetZ (becN nb n 0) (becZ nb n 0) := by
  have hn := h.1.1
  have hL2 := (dis0_lt nb hn).1
  have hb : becN nb n 0 = cnt (dis0 nb n).1 := rfl
  have hz : ∀ x, becZ nb n 0 x = if x < cnt (dis0 nb n).1 then (blF (dis0 nb n).1 n nb).2 x else 0 := fun x => rfl
  rw [hb]
  generalize (dis0 nb n).1 = L at hL2 hz ⊢
  have hL : L < 512 := Nat.lt_of_lt_of_le hL2 (pow9 hn)
  have hN : rkL L n = cnt L := by unfold rkL; rw [Nat.and_two_pow_sub_one_eq_mod, Nat.mod_eq_of_lt hL2]
  have hN9 : rkL L n ≤ 9 := by rw [hN]; exact cnt_le L
  have hA : fl (tpA L) n 0 (0, fun _ => 0) = (rkL L n, idN (rkL L n)) := by
    have := tpA_fl hL n 0 (by omega)
    rw [rkL_0, idN_0, Nat.zero_add] at this
    exact this
  have hF : tpF nb n L = (rkL L n, tpB nb n L (rkL L n) (idN (rkL L n))) := by unfold tpF; rw [hA]
  have hc : ∀ p q, p < q → q < n → (fun p q => decide ((L.testBit p = true ∧ L.testBit q = true) ∧ (nb p).testBit q = true)) p q = true → rkL L p ≠ rkL L q ∧ rkL L p < rkL L n ∧ rkL L q < rkL L n := fun p q h1 h2 h3 => by
    obtain ⟨⟨b1, b2⟩, -⟩ := of_decide_eq_true h3
    have := rkL_lt hL b1 h1 (by omega)
    have := rkL_lt hL b2 h2 (by omega)
    omega
  have hi : ∀ p q p2 q2, p < q → q < n → p2 < q2 → q2 < n → (fun p q => decide ((L.testBit p = true ∧ L.testBit q = true) ∧ (nb p).testBit q = true)) p q = true → (fun p q => decide ((L.testBit p = true ∧ L.testBit q = true) ∧ (nb p).testBit q = true)) p2 q2 = true → ((rkL L p = rkL L p2 ∧ rkL L q = rkL L q2) ∨ (rkL L p = rkL L q2 ∧ rkL L q = rkL L p2)) → p = p2 ∧ q = q2 := fun p q p2 q2 h1 h2 h3 h4 h5 h6 h7 => by
    obtain ⟨⟨b1, b2⟩, -⟩ := of_decide_eq_true h5
    obtain ⟨⟨b3, b4⟩, -⟩ := of_decide_eq_true h6
    rcases h7 with ⟨u, v⟩ | ⟨u, v⟩
    · exact ⟨rkL_inj hL b1 b3 (by omega) (by omega) u, rkL_inj hL b2 b4 (by omega) (by omega) v⟩
    · have := rkL_inj hL b1 b4 (by omega) (by omega) u
      have := rkL_inj hL b2 b3 (by omega) (by omega) v
      omega
  have hR : isNetZ (rkL L n) (tpB nb n L (rkL L n) (idN (rkL L n))) := by rw [tp_st]; exact fl_netZ hc (idN_netZ hN9)
  have hE : (tpF nb n L).2 = becZ nb n 0 := by
    rw [hF]
    funext x
    rw [hz x, ← hN]
    show tpB nb n L (rkL L n) (idN (rkL L n)) x = _
    by_cases hx : x < rkL L n
    · rw [if_pos hx]
      obtain ⟨p0, h1, h2, rfl⟩ := rkL_sur hL n x hn hx
      have hbl := (bl_fl (w := nb) (n := n) hL n 0 (fun _ => 0) (by omega) (fun p hp => by omega)).2 p0 (by omega) h2
      rw [rkL_0] at hbl
      rw [show (blF L n nb).2 (rkL L p0) = cmpF L (nb p0) n from hbl]
      apply Nat.eq_of_testBit_eq
      intro y
      apply Bool.eq_iff_iff.mpr
      rw [cmpF_bit hL hn, tp_st, fl_all hc hi, show (idN (rkL L n) (rkL L p0)).testBit y = decide (rkL L p0 = y) from by unfold idN; rw [if_pos hx, Nat.testBit_two_pow], decide_eq_true_iff]
      by_cases hxy : rkL L p0 = y
      · constructor
        · intro _; exact ⟨p0, h1, h2, h.1.2.2.1 p0 h1, hxy.symm⟩
        · intro _
          refine ⟨fun _ => ?_, fun _ => hxy⟩
          rintro ⟨p, q, w1, w2, w3, w4, w5⟩
          have := (hc p q w1 w2 w4).1
          omega
      · constructor
        · intro z
          have hE : prE (rkL L) (fun p q => decide ((L.testBit p = true ∧ L.testBit q = true) ∧ (nb p).testBit q = true)) n n n (rkL L p0) y := Classical.not_not.mp (fun q => hxy (z.mpr q))
          obtain ⟨p, q, w1, w2, w3, w4, w5⟩ := hE
          obtain ⟨⟨b1, b2⟩, b3⟩ := of_decide_eq_true w4
          rcases w5 with ⟨u, v⟩ | ⟨u, v⟩
          · obtain rfl := rkL_inj hL h2 b1 (by omega) (by omega) u
            exact ⟨q, w2, b2, b3, v⟩
          · obtain rfl := rkL_inj hL h2 b2 (by omega) (by omega) u
            exact ⟨p, by omega, b1, by rw [h.1.2.2.2 _ _ w2 (by omega)]; exact b3, v⟩
        · rintro ⟨q, a1, a2, a3, rfl⟩
          refine ⟨fun z => absurd z hxy, fun z => absurd ?_ z⟩
          have hne : p0 ≠ q := fun e => hxy (by rw [e])
          rcases Nat.lt_or_gt_of_ne hne with hlt | hlt
          · exact ⟨p0, q, hlt, a1, by omega, decide_eq_true ⟨⟨h2, a2⟩, a3⟩, Or.inl ⟨rfl, rfl⟩⟩
          · exact ⟨q, p0, hlt, h1, by omega, decide_eq_true ⟨⟨a2, h2⟩, by rw [h.1.2.2.2 _ _ a1 h1]; exact a3⟩, Or.inr ⟨rfl, rfl⟩⟩
    · rw [if_neg hx]; exact hR.2 x (by omega)
  refine ⟨by rw [hF]; exact hN, hE, ?_⟩
  rw [← hE, hF, ← hN]
  exact hR
/-! the net twice: few nets, tried one by one -/
def mk4 (v0 v1 v2 v3 x : Nat) : Nat := if x = 0 then v0 else if x = 1 then v1 else if x = 2 then v2 else if x = 3 then v3 else 0
def impB (a b : Bool) : Bool := !a || b
theorem impB_mp {a b : Bool} (h : impB a b = true) (ha : a = true) : b = true := by subst ha; exact h
def twC (n : Nat) (nb : Nat → Nat) : Bool := (List.range 9).all (fun x => twF nb n x == becZ nb n 2 x) && (List.range (2 * n)).all (fun p => decide (becZ nb n 2 p < 2 ^ (2 * n)) && ((becZ nb n 2 p).testBit p && (List.range (2 * n)).all (fun q => (becZ nb n 2 p).testBit q == (becZ nb n 2 q).testBit p)))
def twD (n : Nat) : Bool := (List.range (2 ^ n)).all fun v0 => impB (impB (decide (0 < n)) (v0.testBit 0)) ((List.range (if 1 < n then 2 ^ n else 1)).all fun v1 => impB (impB (decide (1 < n)) (v1.testBit 1 && v0.testBit 1 == v1.testBit 0)) ((List.range (if 2 < n then 2 ^ n else 1)).all fun v2 => impB (impB (decide (2 < n)) (v2.testBit 2 && (v0.testBit 2 == v2.testBit 0 && v1.testBit 2 == v2.testBit 1))) ((List.range (if 3 < n then 2 ^ n else 1)).all fun v3 => impB (impB (decide (3 < n)) (v3.testBit 3 && (v0.testBit 3 == v3.testBit 0 && (v1.testBit 3 == v3.testBit 1 && v2.testBit 3 == v3.testBit 2)))) (twC n (mk4 v0 v1 v2 v3)))))
theorem tw_D : ∀ n, n < 5 → twD n = true := by decide +kernel
theorem impB_of {a : Prop} [Decidable a] {b : Bool} (h : a → b = true) : impB (decide a) b = true := by
  unfold impB
  by_cases ha : a
  · rw [h ha, Bool.or_true]
  · rw [decide_eq_false ha]; rfl
theorem bq {a b : Bool} (h : a = b) : (a == b) = true := by rw [h]; exact beq_self_eq_true b
theorem tw_all (n : Nat) (hn : n < 5) (v0 : Nat) (h0 : v0 < 2 ^ n) (g0 : 0 < n → v0.testBit 0 = true) (v1 : Nat) (h1 : v1 < (if 1 < n then 2 ^ n else 1)) (g1 : 1 < n → v1.testBit 1 = true ∧ v0.testBit 1 = v1.testBit 0) (v2 : Nat) (h2 : v2 < (if 2 < n then 2 ^ n else 1)) (g2 : 2 < n → v2.testBit 2 = true ∧ v0.testBit 2 = v2.testBit 0 ∧ v1.testBit 2 = v2.testBit 1) (v3 : Nat) (h3 : v3 < (if 3 < n then 2 ^ n else 1)) (g3 : 3 < n → v3.testBit 3 = true ∧ v0.testBit 3 = v3.testBit 0 ∧ v1.testBit 3 = v3.testBit 1 ∧ v2.testBit 3 = v3.testBit 2) : (∀ x, x < 9 → twF (mk4 v0 v1 v2 v3) n x = becZ (mk4 v0 v1 v2 v3) n 2 x) ∧ ∀ p, p < 2 * n → becZ (mk4 v0 v1 v2 v3) n 2 p < 2 ^ (2 * n) ∧ (becZ (mk4 v0 v1 v2 v3) n 2 p).testBit p = true ∧ ∀ q, q < 2 * n → (becZ (mk4 v0 v1 v2 v3) n 2 p).testBit q = (becZ (mk4 v0 v1 v2 v3) n 2 q).testBit p := by
  have k := tw_D n hn
  unfold twD at k
  have k := impB_mp (List.all_eq_true.mp k v0 (List.mem_range.mpr h0)) (impB_of g0)
  have k := impB_mp (List.all_eq_true.mp k v1 (List.mem_range.mpr h1)) (impB_of fun z => by rw [(g1 z).1, bq (g1 z).2]; rfl)
  have k := impB_mp (List.all_eq_true.mp k v2 (List.mem_range.mpr h2)) (impB_of fun z => by rw [(g2 z).1, bq (g2 z).2.1, bq (g2 z).2.2]; rfl)
  have k := impB_mp (List.all_eq_true.mp k v3 (List.mem_range.mpr h3)) (impB_of fun z => by rw [(g3 z).1, bq (g3 z).2.1, bq (g3 z).2.2.1, bq (g3 z).2.2.2]; rfl)
  unfold twC at k
  rw [Bool.and_eq_true] at k
  refine ⟨fun x hx => eq_of_beq (List.all_eq_true.mp k.1 x (List.mem_range.mpr hx)), fun p hp => ?_⟩
  have k2 := List.all_eq_true.mp k.2 p (List.mem_range.mpr hp)
  rw [Bool.and_eq_true, Bool.and_eq_true] at k2
  exact ⟨of_decide_eq_true k2.1, k2.2.1, fun q hq => eq_of_beq (List.all_eq_true.mp k2.2.2 q (List.mem_range.mpr hq))⟩
theorem bec2 {n : Nat} {nb : Nat → Nat} (h : isNetZ n nb) (h4 : n ≤ 4) (h0 : 0 < n) : (∀ x, x < 9 → twF nb n x = becZ nb n 2 x) ∧ isNetZ (becN nb n 2) (becZ nb n 2) := by
  have e : nb = mk4 (nb 0) (nb 1) (nb 2) (nb 3) := by
    funext x
    unfold mk4
    by_cases h1 : x = 0
    · rw [if_pos h1, h1]
    · rw [if_neg h1]
      by_cases h2 : x = 1
      · rw [if_pos h2, h2]
      · rw [if_neg h2]
        by_cases h3 : x = 2
        · rw [if_pos h3, h3]
        · rw [if_neg h3]
          by_cases h5 : x = 3
          · rw [if_pos h5, h5]
          · rw [if_neg h5]; exact h.2 x (by omega)
  have hv : ∀ j, nb j < (if j < n then 2 ^ n else 1) := fun j => by
    by_cases hj : j < n
    · rw [if_pos hj]; exact h.1.2.1 j hj
    · rw [if_neg hj, h.2 j (by omega)]; decide
  have key := tw_all n (by omega) (nb 0) (h.1.2.1 0 h0) (fun z => h.1.2.2.1 0 z) (nb 1) (hv 1) (fun z => ⟨h.1.2.2.1 1 z, h.1.2.2.2 0 1 h0 z⟩) (nb 2) (hv 2) (fun z => ⟨h.1.2.2.1 2 z, h.1.2.2.2 0 2 h0 z, h.1.2.2.2 1 2 (by omega) z⟩) (nb 3) (hv 3) (fun z => ⟨h.1.2.2.1 3 z, h.1.2.2.2 0 3 h0 z, h.1.2.2.2 1 3 (by omega) z, h.1.2.2.2 2 3 (by omega) z⟩)
  rw [← e] at key
  refine ⟨key.1, ⟨by show 2 * n ≤ 9; omega, fun p hp => (key.2 p hp).1, fun p hp => (key.2 p hp).2.1, fun p q hp hq => (key.2 p hp).2.2 q hq⟩, fun p hp => ?_⟩
  unfold becZ
  rw [if_neg (by omega)]
