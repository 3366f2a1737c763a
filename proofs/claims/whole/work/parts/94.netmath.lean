/-! questions of the net: both sides' answers are the same -/
def srh (f : Nat → Nat) (to : Nat) : Nat → Nat → Nat → Option Nat
  | 0, _, _ => none
  | k + 1, i, s => if s.testBit to = true then some i else srh f to k (i + 1) (f s)
theorem cnt_lt2 : ∀ a, a < 512 → ∀ p, p < 9 → a.testBit p = false → cnt (a ||| 2 ^ p) = cnt a + 1 := by decide +kernel
theorem cnt_mono_b : ∀ p, p < 9 → ∀ a, a < 512 → cnt a ≤ cnt (a ||| 2 ^ p) := by decide +kernel
/-- a larger set has more -/
theorem cnt_sub_le {a : Nat} (ha : a < 512) : ∀ (k : Nat) {b : Nat}, b < 512 → k ≤ 9 → (∀ j, b.testBit j = true → a.testBit j = true ∨ j < k) → (∀ j, a.testBit j = true → b.testBit j = true) → cnt a ≤ cnt b := by
  intro k
  induction k with
  | zero =>
    intro b hb _ h1 h2
    have : a = b := Nat.eq_of_testBit_eq fun j => Bool.eq_iff_iff.mpr ⟨h2 j, fun z => (h1 j z).elim id (fun q => absurd q (Nat.not_lt_zero j))⟩
    rw [this]; exact Nat.le_refl _
  | succ k ih =>
    intro b hb hk h1 h2
    by_cases hbk : b.testBit k = true ∧ a.testBit k = false
    · have e := cnt_dif k (by omega) b hb hbk.1
      have := ih (b := dif b (2 ^ k)) (dif_lt9 hb) (by omega) (fun j hj => by
        rw [dif_bit, Bool.and_eq_true, Nat.testBit_two_pow] at hj
        rcases h1 j hj.1 with z | z
        · exact Or.inl z
        · have : k ≠ j := by have := hj.2; simpa using this
          exact Or.inr (by omega)) (fun j hj => by
        rw [dif_bit, Bool.and_eq_true, Nat.testBit_two_pow]
        refine ⟨h2 j hj, ?_⟩
        have : k ≠ j := fun z => by rw [z] at hbk; rw [hj] at hbk; exact absurd hbk.2 (by decide)
        simpa using this)
      omega
    · refine ih hb (by omega) (fun j hj => ?_) h2
      rcases h1 j hj with z | z
      · exact Or.inl z
      · by_cases hjk : j = k
        · subst hjk
          cases hc : a.testBit j with
          | true => exact Or.inl rfl
          | false => exact absurd ⟨hj, hc⟩ hbk
        · exact Or.inr (by omega)
section Stab
variable {n : Nat} {nb : Nat → Nat}
theorem nall_sub (hN : isNet n nb) {s : Nat} (hs : s < 2 ^ n) {j : Nat} (h : s.testBit j = true) : (nall nb n s).testBit j = true := nall_bit.mpr ⟨j, bit_lt hs h, h, hN.2.2.1 j (bit_lt hs h)⟩
theorem nall_more (hN : isNet n nb) {s : Nat} (hs : s < 2 ^ n) (h : nall nb n s ≠ s) : cnt s + 1 ≤ cnt (nall nb n s) := by
  have hs9 : s < 512 := Nat.lt_of_lt_of_le hs (pow9 hN.1)
  have hN9 : nall nb n s < 512 := Nat.lt_of_lt_of_le (nall_lt2 hN s) (pow9 hN.1)
  obtain ⟨j, h1, h2⟩ : ∃ j, (nall nb n s).testBit j = true ∧ s.testBit j = false := Classical.byContradiction fun z => h (Nat.eq_of_testBit_eq fun j => Bool.eq_iff_iff.mpr ⟨fun q => by
    cases hb : s.testBit j with
    | true => rfl
    | false => exact absurd ⟨j, q, hb⟩ z, fun q => nall_sub hN hs q⟩)
  have hj : j < 9 := Nat.lt_of_lt_of_le (bit_lt (nall_lt2 hN s) h1) hN.1
  rw [← cnt_lt2 s hs9 j hj h2]
  refine cnt_sub_le (Nat.or_lt_two_pow (n := 9) hs9 (Nat.pow_lt_pow_right (by decide) hj)) 9 hN9 (by decide) (fun i hi => Or.inr (Nat.lt_of_lt_of_le (bit_lt (nall_lt2 hN s) hi) hN.1)) (fun i hi => ?_)
  rw [Nat.testBit_or, Bool.or_eq_true, tb_pow] at hi
  rcases hi with hi | hi
  · exact nall_sub hN hs hi
  · rw [← hi]; exact h1
theorem itn_lt2 (hN : isNet n nb) : ∀ (k : Nat) {s : Nat}, s < 2 ^ n → itn (nall nb n) k s < 2 ^ n
  | 0, _, h => h
  | k + 1, _, _ => itn_lt2 hN k (nall_lt2 hN _)
theorem itn_fix {f : Nat → Nat} {s : Nat} (h : f s = s) : ∀ k, itn f k s = s
  | 0 => rfl
  | k + 1 => by show itn f k (f s) = s; rw [h]; exact itn_fix h k
theorem itn_add {f : Nat → Nat} : ∀ (k m s : Nat), itn f (k + m) s = itn f m (itn f k s)
  | 0, m, s => by rw [Nat.zero_add]; rfl
  | k + 1, m, s => by rw [show k + 1 + m = k + m + 1 from by omega]; exact itn_add k m (f s)
theorem cnt_full : ∀ n, n ≤ 9 → ∀ s, s < 2 ^ n → cnt s ≤ n := by decide +kernel
theorem itn_stab (hN : isNet n nb) : ∀ (k : Nat) {s : Nat}, s < 2 ^ n → n ≤ cnt s + k → nall nb n (itn (nall nb n) k s) = itn (nall nb n) k s
  | 0, s, hs, h => Classical.byContradiction fun z => by
    have h1 := nall_more hN hs z
    have h2 := cnt_full n hN.1 _ (nall_lt2 hN s)
    omega
  | k + 1, s, hs, h => by
    by_cases z : nall nb n s = s
    · rw [itn_fix z]; exact z
    · have h1 := nall_more hN hs z
      exact itn_stab hN k (nall_lt2 hN s) (by omega)
theorem cnt_pow : ∀ p, p < 9 → cnt (2 ^ p) = 1 := by decide +kernel
theorem itn_stab1 (hN : isNet n nb) {p : Nat} (hp : p < n) {k : Nat} (hk : n ≤ k + 1) : nall nb n (itn (nall nb n) k (2 ^ p)) = itn (nall nb n) k (2 ^ p) := itn_stab hN k (Nat.pow_lt_pow_right (by decide) hp) (by rw [cnt_pow p (by have := hN.1; omega)]; omega)
theorem itn_same (hN : isNet n nb) {p : Nat} (hp : p < n) {k m : Nat} (hk : n ≤ k + 1) (hm : k ≤ m) : itn (nall nb n) m (2 ^ p) = itn (nall nb n) k (2 ^ p) := by
  obtain ⟨t, rfl⟩ : ∃ t, m = k + t := ⟨m - k, by omega⟩
  rw [itn_add, itn_fix (itn_stab1 hN hp hk)]
theorem srh_none {f : Nat → Nat} {to : Nat} : ∀ (k i s : Nat), srh f to k i s = none ↔ ∀ t, t < k → (itn f t s).testBit to = false
  | 0, i, s => ⟨fun _ t ht => by omega, fun _ => rfl⟩
  | k + 1, i, s => by
    unfold srh
    by_cases h : s.testBit to = true
    · rw [if_pos h]
      exact ⟨fun z => (by cases z), fun z => by have := z 0 (by omega); rw [show itn f 0 s = s from rfl, h] at this; cases this⟩
    · rw [if_neg h, srh_none k (i + 1) (f s)]
      constructor
      · intro z t ht
        cases t with
        | zero => show s.testBit to = false; exact Bool.eq_false_iff.mpr h
        | succ t => exact z t (by omega)
      · intro z t ht; exact z (t + 1) (by omega)
theorem srh_more {f : Nat → Nat} {to r : Nat} : ∀ (k m i s : Nat), srh f to k i s = some r → srh f to (k + m) i s = some r
  | 0, m, i, s, h => by cases h
  | k + 1, m, i, s, h => by
    rw [show k + 1 + m = k + m + 1 from by omega]
    unfold srh at h ⊢
    by_cases hb : s.testBit to = true
    · rw [if_pos hb] at h ⊢; exact h
    · rw [if_neg hb] at h ⊢; exact srh_more k m (i + 1) (f s) h
theorem srh_cut (hN : isNet n nb) {p to : Nat} (hp : p < n) {m : Nat} (hm : n ≤ m) : srh (nall nb n) to m 0 (2 ^ p) = srh (nall nb n) to n 0 (2 ^ p) := by
  obtain ⟨t, rfl⟩ : ∃ t, m = n + t := ⟨m - n, by omega⟩
  cases h : srh (nall nb n) to n 0 (2 ^ p) with
  | some r => exact srh_more n t 0 _ h
  | none =>
    rw [srh_none] at h ⊢
    intro j hj
    by_cases hjn : j < n
    · exact h j hjn
    · rw [itn_same hN hp (k := n - 1) (by omega) (by omega)]; exact h (n - 1) (by omega)
theorem stpC_srh (hN : isNetZ n nb) (to : Nat) : ∀ (k i s : Nat), stpC nb to k i s = srh (nall nb n) to k i s
  | 0, _, _ => rfl
  | k + 1, i, s => by
    unfold stpC srh
    rw [nall9_eq hN, stpC_srh hN to k]
theorem nst_nall (hN : isNet n nb) {s : Nat} (hs : s < 2 ^ n) : nst nb n s = nall nb n s := Nat.eq_of_testBit_eq fun j => Bool.eq_iff_iff.mpr (by
  rw [nst_bit, nall_bit]
  exact ⟨fun z => z.elim (fun q => ⟨j, bit_lt hs q, q, hN.2.2.1 j (bit_lt hs q)⟩) id, Or.inr⟩)
theorem stp_srh (hN : isNet n nb) (to : Nat) : ∀ (k i s : Nat), s < 2 ^ n → stp nb n to k i s = srh (nall nb n) to k i s
  | 0, _, _, _ => rfl
  | k + 1, i, s, hs => by
    unfold stp srh
    rw [nst_nall hN hs, stp_srh hN to k _ _ (nall_lt2 hN s)]
theorem stp_eq (hN : isNetZ n nb) {p to : Nat} (hp : p < n) : stpC nb to n 0 (2 ^ p) = stp nb n to 10 0 (2 ^ p) := by
  rw [stpC_srh hN, stp_srh hN.1 to 10 0 _ (Nat.pow_lt_pow_right (by decide) hp)]
  exact (srh_cut hN.1 hp (by have := hN.1.1; omega)).symm
/-! rings -/
theorem nbx_all (hN : isNetZ n nb) {p q s : Nat} (hp : p < n) (hq : q < n) (hpq : p ≠ q) (hj : (nb p).testBit q = true) (hs : s < 2 ^ n) (hqs : s.testBit q = false) : nst (nbx nb p q) n s = nall (nbt nb p q) n s := Nat.eq_of_testBit_eq fun j => Bool.eq_iff_iff.mpr (by
  have hZ := nbt_netZ hN hp hq hpq
  have hx : ∀ x, x < n → s.testBit x = true → ((nbx nb p q x).testBit j = true ↔ (nbt nb p q x).testBit j = true) := fun x hx hb => by
    have hxq : x ≠ q := fun z => by rw [z, hqs] at hb; cases hb
    rw [nbt_bit hpq]
    unfold nbx
    by_cases hxp : x = p
    · rw [if_pos hxp, hxp, dif_bit, Bool.and_eq_true, Nat.testBit_two_pow]
      by_cases hjq : q = j
      · subst hjq; rw [hj]; simp
      · have h1 : decide (q = j) = false := decide_eq_false hjq
        have h2 : decide ((p = p ∧ j = q) ∨ (p = q ∧ j = p)) = false := decide_eq_false (by omega)
        rw [h1, h2]; simp
    · have h2 : decide ((x = p ∧ j = q) ∨ (x = q ∧ j = p)) = false := decide_eq_false (by omega)
      rw [if_neg hxp, h2, Bool.xor_false]
  rw [nst_bit, nall_bit]
  constructor
  · rintro (z | ⟨x, h1, h2, h3⟩)
    · exact ⟨j, bit_lt hs z, z, hZ.1.2.2.1 j (bit_lt hs z)⟩
    · exact ⟨x, h1, h2, (hx x h1 h2).mp h3⟩
  · rintro ⟨x, h1, h2, h3⟩
    exact Or.inr ⟨x, h1, h2, (hx x h1 h2).mpr h3⟩)
theorem stpx (hN : isNetZ n nb) {p q : Nat} (hp : p < n) (hq : q < n) (hpq : p ≠ q) (hj : (nb p).testBit q = true) : ∀ (k i s : Nat), s < 2 ^ n → stp (nbx nb p q) n q k i s = srh (nall (nbt nb p q) n) q k i s
  | 0, _, _, _ => rfl
  | k + 1, i, s, hs => by
    unfold stp srh
    by_cases hb : s.testBit q = true
    · rw [if_pos hb, if_pos hb]
    · rw [if_neg hb, if_neg hb, nbx_all hN hp hq hpq hj hs (Bool.eq_false_iff.mpr hb), stpx hN hp hq hpq hj k _ _ (nall_lt2 (nbt_netZ hN hp hq hpq).1 s)]
theorem ring_eq (hN : isNetZ n nb) {p q : Nat} (hp : p < n) (hq : q < n) (hpq : p ≠ q) (hj : (nb p).testBit q = true) : stp (nbx nb p q) n q 10 0 (2 ^ p) = stpC (nbt nb p q) q n 0 (2 ^ p) := by
  have hZ := nbt_netZ hN hp hq hpq
  rw [stpx hN hp hq hpq hj 10 0 _ (Nat.pow_lt_pow_right (by decide) hp), stpC_srh hZ, srh_cut hZ.1 hp (by have := hN.1.1; omega)]
theorem ring_2 (hN : isNetZ n nb) {p q t : Nat} (hp : p < n) (hq : q < n) (hpq : p ≠ q) (hj : (nb p).testBit q = true) (h : stpC (nbt nb p q) q n 0 (2 ^ p) = some t) : 2 ≤ t := by
  have hZ := nbt_netZ hN hp hq hpq
  rw [stpC_srh hZ] at h
  have h0 : (2 ^ p).testBit q = false := by rw [Nat.testBit_two_pow]; exact decide_eq_false hpq
  have h1 : (nall (nbt nb p q) n (2 ^ p)).testBit q = false := by
    cases hb : (nall (nbt nb p q) n (2 ^ p)).testBit q with
    | false => rfl
    | true =>
      obtain ⟨x, a1, a2, a3⟩ := nall_bit.mp hb
      rw [tb_pow] at a2
      subst a2
      rw [nbt_bit hpq, hj, decide_eq_true (Or.inl ⟨rfl, rfl⟩)] at a3
      cases a3
  obtain ⟨m, rfl⟩ : ∃ m, n = m + 1 := ⟨n - 1, by omega⟩
  unfold srh at h
  rw [if_neg (by rw [h0]; decide)] at h
  cases m with
  | zero => cases h
  | succ m =>
    unfold srh at h
    rw [if_neg (by rw [h1]; decide)] at h
    have : ∀ (k i s r : Nat), srh (nall (nbt nb p q) (m + 1 + 1)) q k i s = some r → i ≤ r := by
      intro k
      induction k with
      | zero => intro i s r z; cases z
      | succ k ih =>
        intro i s r z
        unfold srh at z
        split at z
        · injection z with z; omega
        · have := ih _ _ _ z; omega
    exact this _ _ _ _ h
theorem gc_step (hN : isNetZ n nb) {p q : Nat} (hp : p < n) (hq : q < n) (hpq : p ≠ q) (b : Option Nat) : gcG nb n p q b = girG nb n p q b := by
  unfold gcG girG
  by_cases hj : (nb p).testBit q = true
  · rw [if_pos hj, if_pos hj, ring_eq hN hp hq hpq hj]
    cases h : stpC (nbt nb p q) q n 0 (2 ^ p) with
    | none => rfl
    | some t =>
      have := ring_2 hN hp hq hpq hj h
      show _ = if t = 0 then b else _
      rw [if_neg (by omega)]
      cases b <;> rfl
  · rw [if_neg hj, if_neg hj]
theorem gc_gir (hN : isNetZ n nb) : gcF nb n = gir nb n := by
  unfold gcF gir
  refine fl_cg (fun p b _ hp => ?_)
  refine fl_cg (fun q b2 h1 h2 => ?_)
  exact gc_step hN (by omega) (by omega) (by omega) b2
theorem gir_ge (hN : isNetZ n nb) {x : Nat} (h : gir nb n = some x) : 3 ≤ x := by
  have key : ∀ (k p q : Nat) (b : Option Nat), p < q → q + k = n → (∀ x, b = some x → 3 ≤ x) → ∀ x, fl (gcG nb n p) k q b = some x → 3 ≤ x := by
    intro k
    induction k with
    | zero => intro p q b _ _ hb x hx; exact hb x hx
    | succ k ih =>
      intro p q b hpq hk hb
      refine ih p (q + 1) _ (by omega) (by omega) (fun x hx => ?_)
      unfold gcG at hx
      by_cases hj : (nb p).testBit q = true
      · rw [if_pos hj] at hx
        cases h : stpC (nbt nb p q) q n 0 (2 ^ p) with
        | none => rw [h] at hx; exact hb x hx
        | some t =>
          have := ring_2 hN (by omega) (by omega) (by omega) hj h
          rw [h] at hx
          cases b with
          | none => have hx : some (t + 1) = some x := hx; injection hx; omega
          | some y =>
            have hx : (if t + 1 < y then some (t + 1) else some y) = some x := hx
            split at hx
            · injection hx; omega
            · injection hx with hx; subst hx; exact hb y rfl
      · rw [if_neg hj] at hx; exact hb x hx
  have key2 : ∀ (k p : Nat) (b : Option Nat), p + k = n → (∀ x, b = some x → 3 ≤ x) → ∀ x, fl (fun p b => fl (gcG nb n p) (n - (p + 1)) (p + 1) b) k p b = some x → 3 ≤ x := by
    intro k
    induction k with
    | zero => intro p b _ hb x hx; exact hb x hx
    | succ k ih =>
      intro p b hk hb
      exact ih (p + 1) _ (by omega) (key (n - (p + 1)) p (p + 1) b (by omega) (by omega) hb)
  rw [← gc_gir hN] at h
  exact key2 n 0 none (by omega) (fun x z => by cases z) x h
/-! covers -/
theorem cov_eq (hN : isNetZ n nb) : fl (covC nb n) (2 ^ n) 0 (2 ^ n - 1) = cov nb n := by
  unfold cov
  refine fl_cg (fun s b _ _ => ?_)
  unfold covC covG
  rw [nall9_eq hN]
  by_cases hsb : s = b
  · subst hsb
    have h0 : lowb (s ^^^ s) &&& s = 0 := by rw [Nat.xor_self]; unfold lowb; rw [Nat.zero_and, Nat.zero_and]
    rw [if_neg (fun z => z.2.elim (fun q => Nat.lt_irrefl _ q) (fun q => q.2 h0)), if_neg (fun z => z.2.elim (fun q => Nat.lt_irrefl _ q) (fun q => q.2.1 rfl))]
  · by_cases h : nall nb n s = 2 ^ n - 1 ∧ (cnt s < cnt b ∨ (cnt s = cnt b ∧ lowb (s ^^^ b) &&& s ≠ 0))
    · rw [if_pos h, if_pos ⟨h.1, h.2.elim Or.inl (fun q => Or.inr ⟨q.1, hsb, q.2⟩)⟩]
    · rw [if_neg h, if_neg (fun z => h ⟨z.1, z.2.elim Or.inl (fun q => Or.inr ⟨q.1, q.2.2⟩)⟩)]
/-! parts -/
theorem clo_itn : ∀ (k s : Nat), clo nb n k s = itn (nall nb n) k s
  | 0, _ => rfl
  | k + 1, s => by
    unfold clo
    by_cases h : nall nb n s = s
    · rw [if_pos h, itn_fix h]
    · rw [if_neg h, clo_itn k]; rfl
theorem itn9 (hN : isNetZ n nb) : ∀ (k s : Nat), itn (nall nb 9) k s = itn (nall nb n) k s
  | 0, _ => rfl
  | k + 1, s => by show itn (nall nb 9) k (nall nb 9 s) = itn (nall nb n) k (nall nb n s); rw [nall9_eq hN, itn9 hN k]
theorem lowb_at : ∀ a, a < 512 → ∀ m, m < 9 → a.testBit m = true → (∀ j, j < m → a.testBit j = false) → lowb a = 2 ^ m := by decide +kernel
theorem pt_step (hN : isNetZ n nb) : ∀ (j m k c K : Nat), m + j = n → j ≤ k → K < 2 ^ n → (∀ i, i < m → K.testBit i = true) → pts nb n k (dif (2 ^ n - 1) K) c = (fl (ptG nb n) j m (c, K)).1
  | 0, m, k, c, K, hm, hk, hK, hb => by
    have h0 : dif (2 ^ n - 1) K = 0 := by
      rw [dif_0]
      intro q hq
      rw [Nat.testBit_two_pow_sub_one, decide_eq_true_iff] at hq
      exact hb q (by omega)
    rw [h0]
    show pts nb n k 0 c = c
    cases k with
    | zero => rfl
    | succ k => unfold pts; rw [if_pos rfl]
  | j + 1, m, k, c, K, hm, hk, hK, hb => by
    show _ = (fl (ptG nb n) j (m + 1) (ptG nb n m (c, K))).1
    have hn := hN.1.1
    by_cases hmK : K.testBit m = true
    · rw [show ptG nb n m (c, K) = (c, K) from if_pos hmK]
      exact pt_step hN j (m + 1) k c K (by omega) (by omega) hK (fun i hi => by
        by_cases e : i = m
        · rw [e]; exact hmK
        · exact hb i (by omega))
    · rw [show ptG nb n m (c, K) = (c + 1, K ||| itn (nall nb 9) n (2 ^ m)) from if_neg hmK]
      obtain ⟨k, rfl⟩ : ∃ q, k = q + 1 := ⟨k - 1, by omega⟩
      have hbit : (dif (2 ^ n - 1) K).testBit m = true := by rw [dif_bit, Bool.and_eq_true, Nat.testBit_two_pow_sub_one, decide_eq_true_iff]; exact ⟨by omega, by rw [Bool.eq_false_iff.mpr hmK]; rfl⟩
      have hlow : lowb (dif (2 ^ n - 1) K) = 2 ^ m := lowb_at _ (Nat.lt_of_lt_of_le (dif_lt (by have := Nat.two_pow_pos n; omega)) (pow9 hn)) m (by omega) hbit (fun i hi => by
        rw [dif_bit, hb i hi]; simp)
      have hne : dif (2 ^ n - 1) K ≠ 0 := fun z => by rw [z, Nat.zero_testBit] at hbit; cases hbit
      have hp2 : 2 ^ m < 2 ^ n := Nat.pow_lt_pow_right (by decide) (by omega)
      have hcl : clo nb n 512 (2 ^ m) = itn (nall nb 9) n (2 ^ m) := by
        rw [clo_itn, itn9 hN, itn_same hN.1 (by omega) (k := n) (by omega) (by omega)]
      have hin : ∀ (t : Nat), (itn (nall nb n) t (2 ^ m)).testBit m = true := by
        intro t
        have : ∀ (t s : Nat), s < 2 ^ n → s.testBit m = true → (itn (nall nb n) t s).testBit m = true := by
          intro t
          induction t with
          | zero => intro s _ h; exact h
          | succ t ih => intro s hs h; exact ih _ (nall_lt2 hN.1 s) (nall_sub hN.1 hs h)
        exact this t _ hp2 (tb_pow.mpr rfl)
      unfold pts
      rw [if_neg hne, hlow, hcl]
      have e : dif (dif (2 ^ n - 1) K) (itn (nall nb 9) n (2 ^ m)) = dif (2 ^ n - 1) (K ||| itn (nall nb 9) n (2 ^ m)) := Nat.eq_of_testBit_eq fun i => by
        rw [dif_bit, dif_bit, dif_bit, Nat.testBit_or]
        cases (2 ^ n - 1).testBit i <;> cases K.testBit i <;> cases (itn (nall nb 9) n (2 ^ m)).testBit i <;> rfl
      rw [e]
      refine pt_step hN j (m + 1) k (c + 1) _ (by omega) (by omega) (Nat.or_lt_two_pow hK (by rw [itn9 hN]; exact itn_lt2 hN.1 n hp2)) (fun i hi => ?_)
      rw [Nat.testBit_or, Bool.or_eq_true]
      by_cases e : i = m
      · rw [e, itn9 hN]; exact Or.inr (hin n)
      · exact Or.inl (hb i (by omega))
theorem pt_eq (hN : isNetZ n nb) : ptC nb n = pts nb n 512 (2 ^ n - 1) 0 := by
  have h := pt_step hN n 0 512 0 0 (by omega) (by have := hN.1.1; omega) (Nat.two_pow_pos n) (fun i hi => by omega)
  rw [show dif (2 ^ n - 1) 0 = 2 ^ n - 1 from by unfold dif; rw [Nat.and_zero, Nat.xor_zero]] at h
  exact h.symm
theorem pt_0 (hN : isNetZ n nb) : pts nb n 512 (2 ^ n - 1) 0 = 0 ↔ n = 0 := by
  have mono : ∀ (k l c : Nat), c ≤ pts nb n k l c := by
    intro k
    induction k with
    | zero => intro l c; exact Nat.le_refl _
    | succ k ih =>
      intro l c
      unfold pts
      split
      · exact Nat.le_refl _
      · exact Nat.le_trans (Nat.le_succ c) (ih _ _)
  constructor
  · intro h
    apply Classical.byContradiction
    intro hn
    have h1 : 2 ^ n - 1 ≠ 0 := by
      have : 2 ^ 1 ≤ 2 ^ n := Nat.pow_le_pow_right (by decide) (by omega)
      omega
    have h : (if 2 ^ n - 1 = 0 then 0 else pts nb n 511 (dif (2 ^ n - 1) (clo nb n 512 (lowb (2 ^ n - 1)))) (0 + 1)) = 0 := h
    rw [if_neg h1] at h
    have := mono 511 (dif (2 ^ n - 1) (clo nb n 512 (lowb (2 ^ n - 1)))) (0 + 1)
    omega
  · intro h; subst h; unfold pts; rw [if_pos rfl]
end Stab
