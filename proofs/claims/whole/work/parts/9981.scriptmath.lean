/-! words of letters as numbers -/
def wcd (tp : Nat → Nat) (a : Nat) : Nat → Nat
  | 0 => 0
  | k + 1 => wcd tp a k * 32 + (tp (a + k) - 96)
def isL (c : Nat) : Prop := 97 ≤ c ∧ c ≤ 122
theorem wcd_lt {tp : Nat → Nat} {a : Nat} : ∀ {k : Nat}, (∀ i, i < k → isL (tp (a + i))) → wcd tp a k < 32 ^ k
  | 0, _ => by show 0 < 1; decide
  | k + 1, h => by
    have h1 := wcd_lt (k := k) (fun i hi => h i (by omega))
    have h2 := h k (by omega)
    unfold isL at h2
    rw [wcd, Nat.pow_succ]
    omega
theorem wcd_inj {tp tq : Nat → Nat} {a b : Nat} : ∀ {k m : Nat}, (∀ i, i < k → isL (tp (a + i))) → (∀ i, i < m → isL (tq (b + i))) → (wcd tp a k = wcd tq b m ↔ k = m ∧ ∀ i, i < k → tp (a + i) = tq (b + i))
  | 0, 0, _, _ => ⟨fun _ => ⟨rfl, fun i hi => by omega⟩, fun _ => rfl⟩
  | 0, m + 1, _, h2 => by
    have h := h2 m (by omega)
    unfold isL at h
    constructor
    · intro e; rw [wcd, wcd] at e; omega
    · rintro ⟨e, -⟩; omega
  | k + 1, 0, h1, _ => by
    have h := h1 k (by omega)
    unfold isL at h
    constructor
    · intro e; rw [wcd, wcd] at e; omega
    · rintro ⟨e, -⟩; omega
  | k + 1, m + 1, h1, h2 => by
    have ih := wcd_inj (k := k) (m := m) (fun i hi => h1 i (by omega)) (fun i hi => h2 i (by omega))
    have l1 := h1 k (by omega)
    have l2 := h2 m (by omega)
    unfold isL at l1 l2
    rw [wcd, wcd]
    constructor
    · intro e
      have e1 : wcd tp a k = wcd tq b m := by omega
      have e2 : tp (a + k) = tq (b + m) := by omega
      obtain ⟨q1, q2⟩ := ih.mp e1
      subst q1
      refine ⟨rfl, fun i hi => ?_⟩
      by_cases hk : i = k
      · subst hk; exact e2
      · exact q2 i (by omega)
    · rintro ⟨e, hh⟩
      obtain rfl : k = m := by omega
      rw [ih.mpr ⟨rfl, fun i hi => hh i (by omega)⟩, hh k (by omega)]
def wrE (tp : Nat → Nat) (sz : Nat) : Nat → Nat → Nat
  | 0, b => b
  | f + 1, b => if b < sz ∧ 97 ≤ tp b ∧ tp b ≤ 122 then wrE tp sz f (b + 1) else b
theorem wrE_1 {tp : Nat → Nat} {sz a : Nat} : ∀ (f b : Nat) (v : Int32), (wrd tp sz a f b v).1 = wrE tp sz f b
  | 0, _, _ => rfl
  | f + 1, b, v => by
    unfold wrd wrE
    by_cases h : b < sz ∧ 97 ≤ tp b ∧ tp b ≤ 122
    · rw [if_pos h, if_pos h]; exact wrE_1 f (b + 1) _
    · rw [if_neg h, if_neg h]
theorem wrE_l {tp : Nat → Nat} {sz : Nat} : ∀ (f b : Nat), b ≤ wrE tp sz f b ∧ ∀ i, b ≤ i → i < wrE tp sz f b → isL (tp i) ∧ i < sz
  | 0, b => ⟨Nat.le_refl _, fun i h1 h2 => by unfold wrE at h2; omega⟩
  | f + 1, b => by
    unfold wrE
    by_cases h : b < sz ∧ 97 ≤ tp b ∧ tp b ≤ 122
    · rw [if_pos h]
      obtain ⟨h1, h2⟩ := wrE_l (tp := tp) (sz := sz) f (b + 1)
      refine ⟨by omega, fun i h3 h4 => ?_⟩
      by_cases e : i = b
      · subst e; exact ⟨h.2, h.1⟩
      · exact h2 i (by omega) h4
    · rw [if_neg h]; exact ⟨Nat.le_refl _, fun i h1 h2 => by omega⟩
theorem wrd_2 {tp : Nat → Nat} {sz a : Nat} : ∀ (f b : Nat), a ≤ b → (∀ i, i < b - a → isL (tp (a + i))) → wrE tp sz f b ≤ a + 6 → (wrd tp sz a f b (nI (wcd tp a (b - a)))).2 = nI (wcd tp a (wrE tp sz f b - a))
  | 0, _, _, _, _ => rfl
  | f + 1, b, hab, hl, hw => by
    unfold wrd
    unfold wrE at hw ⊢
    by_cases h : b < sz ∧ 97 ≤ tp b ∧ tp b ≤ 122
    · rw [if_pos h] at hw ⊢
      rw [if_pos h]
      have hge := (wrE_l (tp := tp) (sz := sz) f (b + 1)).1
      have e : nI (wcd tp a (b - a)) * nI 32 + nI (tp b) - nI 96 = nI (wcd tp a (b + 1 - a)) := by
        rw [pk_mul, nI_add, pk_sub (by omega), show b + 1 - a = (b - a) + 1 from by omega, wcd, show a + (b - a) = b from by omega]
        congr 1
        omega
      rw [if_pos (by omega), e]
      refine wrd_2 f (b + 1) (by omega) (fun i hi => ?_) hw
      by_cases q : i = b - a
      · subst q; rw [show a + (b - a) = b from by omega]; exact h.2
      · exact hl i (by omega)
    · rw [if_neg h] at hw ⊢
      rw [if_neg h]
/-- a token of the tape: what it is, as the reference tells it -/
def TKw (tp : Nat → Nat) (sz : Nat) (t : Tok) : Prop := t.2.2.1 = 1 → t.1 < t.2.1 ∧ t.2.1 ≤ t.1 + 6 ∧ t.2.1 ≤ sz ∧ (∀ i, i < t.2.1 - t.1 → isL (tp (t.1 + i))) ∧ t.2.2.2 = nI (wcd tp t.1 (t.2.1 - t.1))
theorem tokM_w {tp : Nat → Nat} {sz b : Nat} (hb : b ≤ sz) : TKw tp sz (tokM tp sz b) := by
  have ho := tokM_ok (tp := tp) hb
  unfold TKw
  intro h1
  unfold tokM at h1 ho ⊢
  generalize skp tp sz 600 b = a at h1 ho ⊢
  by_cases ha : a < sz
  · rw [if_pos ha] at h1 ho ⊢
    by_cases hl : 97 ≤ tp a ∧ tp a ≤ 122
    · rw [if_pos hl] at h1 ho ⊢
      have hw : (wrd tp sz a 600 a (nI 0)).1 = wrE tp sz 600 a := wrE_1 600 a (nI 0)
      rw [hw] at h1 ho ⊢
      have h6 : wrE tp sz 600 a ≤ a + 6 := by
        apply Classical.byContradiction; intro z
        have h1 : (if wrE tp sz 600 a ≤ a + 6 then 1 else 3) = 1 := h1
        rw [if_neg z] at h1; cases h1
      obtain ⟨g1, g2⟩ := wrE_l (tp := tp) (sz := sz) 600 a
      have hgt : a < wrE tp sz 600 a := by
        have : wrE tp sz 600 a = wrE tp sz 599 (a + 1) := by rw [wrE, if_pos ⟨ha, hl⟩]
        rw [this]
        have := (wrE_l (tp := tp) (sz := sz) 599 (a + 1)).1
        omega
      refine ⟨hgt, h6, ho.2.1, fun i hi => ?_, ?_⟩
      · have hi : i < wrE tp sz 600 a - a := hi
        exact (g2 (a + i) (by omega) (by omega)).1
      · have := wrd_2 (tp := tp) (sz := sz) (a := a) 600 a (Nat.le_refl _) (fun i hi => by omega) h6
        rw [Nat.sub_self] at this
        exact this
    · rw [if_neg hl] at h1
      have h1 : (if tp a = 59 then 2 else 3) = 1 := h1
      split at h1 <;> cases h1
  · rw [if_neg ha] at h1
    have h1 : (0 : Nat) = 1 := h1
    cases h1
def txP (i : Nat) : Nat := [112, 108, 97, 99, 101].getD i 0
def txL (i : Nat) : Nat := [108, 105, 110, 101].getD i 0
theorem wcd_P : wcd txP 0 5 = 17171557 ∧ ∀ i, i < 5 → isL (txP (0 + i)) := by unfold isL; decide
theorem wcd_L : wcd txL 0 4 = 402885 ∧ ∀ i, i < 4 → isL (txL (0 + i)) := by unfold isL; decide
/-! the class's reading: tokens by its own numbers -/
def ctk (t : Tok) : Nat := if t.2.2.1 = 0 then 0 else if t.2.2.1 = 3 then 1 else if t.2.2.1 = 2 then 2 else if t.2.2.2 = 17171557 then 3 else if t.2.2.2 = 402885 then 4 else 5
/-- the names told so far: where they stand, and their numbers -/
def NMr (tp : Nat → Nat) (sz : Nat) (s : PS) (nf nl : Nat → Nat) : Prop := ∀ p, p < s.2.2.2.1 → nl p ≤ 6 ∧ nf p + nl p ≤ sz ∧ (∀ i, i < nl p → isL (tp (nf p + i))) ∧ s.2.2.2.2.1 p = nI (wcd tp (nf p) (nl p))
theorem wcd_31 {tp : Nat → Nat} {a k : Nat} (hk : k ≤ 6) (h : ∀ i, i < k → isL (tp (a + i))) : wcd tp a k < 2 ^ 31 := by
  have h1 := wcd_lt h
  have h2 : 32 ^ k ≤ 32 ^ 6 := Nat.pow_le_pow_right (by decide) hk
  have h3 : 32 ^ 6 < 2 ^ 31 := by decide
  omega
/-- two words are the same -/
abbrev wEq (tp : Nat → Nat) (a k b m : Nat) : Prop := k = m ∧ ∀ i, i < k → tp (a + i) = tp (b + i)
theorem nm_iff {tp : Nat → Nat} {sz : Nat} {s : PS} {nf nl : Nat → Nat} (hN : NMr tp sz s nf nl) (hT : TKw tp sz s.1) (h1 : s.1.2.2.1 = 1) {p : Nat} (hp : p < s.2.2.2.1) : s.2.2.2.2.1 p = s.1.2.2.2 ↔ wEq tp (nf p) (nl p) s.1.1 (s.1.2.1 - s.1.1) := by
  obtain ⟨a1, a2, a3, a4⟩ := hN p hp
  obtain ⟨b1, b2, b3, b4, b5⟩ := hT h1
  rw [a4, b5, nI_eq (wcd_31 a1 a3) (wcd_31 (by omega) b4)]
  exact wcd_inj a3 b4
theorem pl_iff {tp : Nat → Nat} {sz : Nat} {t : Tok} (hT : TKw tp sz t) (h1 : t.2.2.1 = 1) : t.2.2.2 = 17171557 ↔ t.2.1 - t.1 = 5 ∧ ∀ i, i < 5 → tp (t.1 + i) = txP i := by
  obtain ⟨b1, b2, b3, b4, b5⟩ := hT h1
  have e : (17171557 : Int32) = nI (wcd txP 0 5) := by rw [wcd_P.1]; rfl
  rw [b5, e, nI_eq (wcd_31 (by omega) b4) (by rw [wcd_P.1]; decide), wcd_inj b4 wcd_P.2]
  constructor
  · rintro ⟨q1, q2⟩; exact ⟨q1, fun i hi => by have := q2 i (by omega); rw [Nat.zero_add] at this; exact this⟩
  · rintro ⟨q1, q2⟩; exact ⟨q1, fun i hi => by rw [Nat.zero_add]; exact q2 i (by omega)⟩
theorem ln_iff {tp : Nat → Nat} {sz : Nat} {t : Tok} (hT : TKw tp sz t) (h1 : t.2.2.1 = 1) : t.2.2.2 = 402885 ↔ t.2.1 - t.1 = 4 ∧ ∀ i, i < 4 → tp (t.1 + i) = txL i := by
  obtain ⟨b1, b2, b3, b4, b5⟩ := hT h1
  have e : (402885 : Int32) = nI (wcd txL 0 4) := by rw [wcd_L.1]; rfl
  rw [b5, e, nI_eq (wcd_31 (by omega) b4) (by rw [wcd_L.1]; decide), wcd_inj b4 wcd_L.2]
  constructor
  · rintro ⟨q1, q2⟩; exact ⟨q1, fun i hi => by have := q2 i (by omega); rw [Nat.zero_add] at this; exact this⟩
  · rintro ⟨q1, q2⟩; exact ⟨q1, fun i hi => by rw [Nat.zero_add]; exact q2 i (by omega)⟩
theorem ctk_lt (t : Tok) : ctk t ≤ 5 := by
  unfold ctk
  split
  · omega
  · split
    · omega
    · split
      · omega
      · split
        · omega
        · split <;> omega
theorem ctk_3 {t : Tok} (h : t.2.2.1 ≤ 3) : ctk t = 3 ↔ t.2.2.1 = 1 ∧ t.2.2.2 = 17171557 := by
  unfold ctk
  by_cases h0 : t.2.2.1 = 0
  · rw [if_pos h0]; constructor
    · intro z; cases z
    · rintro ⟨z, -⟩; omega
  · rw [if_neg h0]
    by_cases h3 : t.2.2.1 = 3
    · rw [if_pos h3]; constructor
      · intro z; cases z
      · rintro ⟨z, -⟩; omega
    · rw [if_neg h3]
      by_cases h2 : t.2.2.1 = 2
      · rw [if_pos h2]; constructor
        · intro z; cases z
        · rintro ⟨z, -⟩; omega
      · rw [if_neg h2]
        have h1 : t.2.2.1 = 1 := by omega
        by_cases hp : t.2.2.2 = 17171557
        · rw [if_pos hp]; exact ⟨fun _ => ⟨h1, hp⟩, fun _ => rfl⟩
        · rw [if_neg hp]; constructor
          · intro z; split at z <;> cases z
          · rintro ⟨-, z⟩; exact absurd z hp
theorem ctk_4 {t : Tok} (h : t.2.2.1 ≤ 3) : ctk t = 4 ↔ t.2.2.1 = 1 ∧ t.2.2.2 = 402885 := by
  unfold ctk
  by_cases h0 : t.2.2.1 = 0
  · rw [if_pos h0]; constructor
    · intro z; cases z
    · rintro ⟨z, -⟩; omega
  · rw [if_neg h0]
    by_cases h3 : t.2.2.1 = 3
    · rw [if_pos h3]; constructor
      · intro z; cases z
      · rintro ⟨z, -⟩; omega
    · rw [if_neg h3]
      by_cases h2 : t.2.2.1 = 2
      · rw [if_pos h2]; constructor
        · intro z; cases z
        · rintro ⟨z, -⟩; omega
      · rw [if_neg h2]
        have h1 : t.2.2.1 = 1 := by omega
        by_cases hp : t.2.2.2 = 17171557
        · rw [if_pos hp, hp]; constructor
          · intro z; cases z
          · rintro ⟨-, z⟩; exact absurd z (by decide)
        · rw [if_neg hp]
          by_cases hl : t.2.2.2 = 402885
          · rw [if_pos hl]; exact ⟨fun _ => ⟨h1, hl⟩, fun _ => rfl⟩
          · rw [if_neg hl]; constructor
            · intro z; cases z
            · rintro ⟨-, z⟩; exact absurd z hl
theorem ctk_5 {t : Tok} (h : t.2.2.1 ≤ 3) : ctk t = 5 ↔ t.2.2.1 = 1 ∧ t.2.2.2 ≠ 17171557 ∧ t.2.2.2 ≠ 402885 := by
  have h3 := ctk_3 h
  have h4 := ctk_4 h
  constructor
  · intro z
    unfold ctk at z
    split at z
    · cases z
    · split at z
      · cases z
      · split at z
        · cases z
        · split at z
          · cases z
          · split at z
            · cases z
            · exact ⟨by omega, by assumption, by assumption⟩
  · rintro ⟨q1, q2, q3⟩
    unfold ctk
    rw [if_neg (by omega), if_neg (by omega), if_neg (by omega), if_neg q2, if_neg q3]
theorem ctk_2 {t : Tok} (h : t.2.2.1 ≤ 3) : ctk t = 2 ↔ t.2.2.1 = 2 := by
  constructor
  · intro z
    unfold ctk at z
    split at z
    · cases z
    · split at z
      · cases z
      · split at z
        · assumption
        · split at z
          · cases z
          · split at z <;> cases z
  · intro z; unfold ctk; rw [if_neg (by omega), if_neg (by omega), if_pos z]
theorem ctk_1 {t : Tok} (h : t.2.2.1 ≤ 3) : ctk t = 1 ↔ t.2.2.1 = 3 := by
  constructor
  · intro z
    unfold ctk at z
    split at z
    · cases z
    · split at z
      · assumption
      · split at z
        · cases z
        · split at z
          · cases z
          · split at z <;> cases z
  · intro z; unfold ctk; rw [if_neg (by omega), if_pos z]
theorem ctk_0 {t : Tok} : ctk t = 0 ↔ t.2.2.1 = 0 := by
  constructor
  · intro z
    unfold ctk at z
    split at z
    · assumption
    · split at z
      · cases z
      · split at z
        · cases z
        · split at z
          · cases z
          · split at z <;> cases z
  · intro z; unfold ctk; rw [if_pos z]
