/-- all that hangs together with a set -/
def clo (nb : Nat → Nat) (n : Nat) : Nat → Nat → Nat
  | 0, s => s
  | k + 1, s => if nall nb n s = s then s else clo nb n k (nall nb n s)
theorem clo_sub {n : Nat} {nb : Nat → Nat} (hN : isNet n nb) : ∀ (k : Nat) {s : Nat}, s < 2 ^ n → (∀ j, s.testBit j = true → (clo nb n k s).testBit j = true) ∧ clo nb n k s < 2 ^ n
  | 0, s, hs => ⟨fun _ h => h, hs⟩
  | k + 1, s, hs => by
    unfold clo
    split
    · exact ⟨fun _ h => h, hs⟩
    · obtain ⟨h1, h2⟩ := clo_sub hN k (nall_lt2 hN s)
      exact ⟨fun j h => h1 j (nall_bit.mpr ⟨j, bit_lt hs h, h, hN.2.2.1 j (bit_lt hs h)⟩), h2⟩
theorem dif_lt_self {l x j : Nat} (h1 : l.testBit j = true) (h2 : x.testBit j = true) : dif l x < l := by
  have hle : dif l x ≤ l := le_of_bits fun i h => by rw [dif_bit, Bool.and_eq_true] at h; exact h.1
  rcases Nat.lt_or_ge (dif l x) l with q | q
  · exact q
  · have e : dif l x = l := Nat.le_antisymm hle q
    have := dif_bit l x j
    rw [e, h1, h2] at this
    cases this
theorem bit_of_ne {a : Nat} (h : a ≠ 0) : ∃ j, a.testBit j = true := Nat.exists_testBit_of_ne_zero h
theorem lowb_sub {a j : Nat} (h : (lowb a).testBit j = true) : a.testBit j = true := by rw [lowb, Nat.testBit_and, Bool.and_eq_true] at h; exact h.1
def pts (nb : Nat → Nat) (n : Nat) : Nat → Nat → Nat → Nat
  | 0, _, c => c
  | k + 1, l, c => if l = 0 then c else pts nb n k (dif l (clo nb n 512 (lowb l))) (c + 1)
theorem lowb_lt {a n : Nat} (h : a < 2 ^ n) : lowb a < 2 ^ n := Nat.lt_of_le_of_lt Nat.and_le_left h
theorem lX12_parts {G : Gx} {d : Nat} {Q : Option Value → Hp → Prop} {σ : Hp} (hd : 2 ≤ d) {m n : Nat} {α : Nat → Int32} {B : Nat → Nat → Int32} {nb : Nat → Nat} (hM : MA σ σ m α B) (hp : α 2 = nI n) (hn : n ≤ 9) (hb : ∀ p, p < n → B 1 p = nI (nb p)) (hw : ∀ p, nb p < 512) (hN : isNet n nb) {l c v : Nat} (hk : ∀ e4 : Value, Wp G mX12_parts d 42 [.ref m, .int (nI l), .int (nI c), .int (nI v), e4] [] σ 0 0 Q) : ∀ (k : Nat) (s : Nat), s < 2 ^ n → 512 ≤ s + k → clo nb n k s = v → Wp G mX12_parts d 23 [.ref m, .int (nI l), .int (nI c), .int (nI s), .int (nI (nall nb n s))] [] σ 0 0 Q := by
  obtain ⟨d0, hdd⟩ : ∃ e, d = e + 1 := ⟨d - 1, by omega⟩
  intro k
  induction k with
  | zero =>
    intro s hs hk2 hv
    exfalso
    have := pow_le9 hn
    omega
  | succ k ih =>
    intro s hs hk2 hv
    have h9 := pow_le9 hn
    have hq := nall_lt2 hN s
    refine wp_iload (atd dX12_parts 16 rfl) rfl ?_
    refine wp_iload_n (atd dX12_parts 17 rfl) rfl ?_
    refine wp_icmpN_eq (tgt := 42) (atd dX12_parts 18 rfl) (by decide) (by omega) (by omega) (fun c_26 => ?_) (fun c_26 => ?_)
    ·
      have e : s = v := by rw [← hv]; simp [clo, c_26]
      subst e
      exact hk _
    ·
      have hgt := nall_ge hN hs
      refine wp_iload (atd dX12_parts 19 rfl) rfl ?_
      refine wp_istore_n (atd dX12_parts 20 rfl) (Nat.le_of_ble_eq_true rfl) ?_
      refine wp_aload_n (atd dX12_parts 21 rfl) rfl rfl ?_
      refine wp_iload_n (atd dX12_parts 22 rfl) rfl ?_
      refine wp_cVi hdd [_] (atd dX12_parts 23 rfl) iX12_nearAll lX12_194 rfl rfl (Nat.le_of_ble_eq_true rfl) hM.1.1 rfl (eX12_nearAll (by omega) hM hp hn hb hw (by omega)) (fun r_34 s_34 h_34 => ?_)
      obtain ⟨rfl, rfl⟩ := h_34
      refine wp_istore (atd dX12_parts 24 rfl) (Nat.le_of_ble_eq_true rfl) ?_
      refine wp_goto (tgt := 23) (atd dX12_parts 25 rfl) (by decide) ?_
      exact ih _ hq (by omega) (by rw [← hv]; simp [clo, c_26])
theorem oX12_parts {G : Gx} {d : Nat} {σ : Hp} (hd : 2 ≤ d) {m n : Nat} {α : Nat → Int32} {B : Nat → Nat → Int32} {nb : Nat → Nat} (hM : MA σ σ m α B) (hp : α 2 = nI n) (hn : n ≤ 9) (hb : ∀ p, p < n → B 1 p = nI (nb p)) (hw : ∀ p, nb p < 512) (hN : isNet n nb) {v : Nat} : ∀ (k l c : Nat) (e3 e4 : Value), l < 2 ^ n → l < k → pts nb n k l c = v → Wp G mX12_parts d 7 [.ref m, .int (nI l), .int (nI c), e3, e4] [] σ 0 0 (pI fun r s2 => r = nI v ∧ s2 = σ) := by
  obtain ⟨d0, hdd⟩ : ∃ e, d = e + 1 := ⟨d - 1, by omega⟩
  intro k
  induction k with
  | zero =>
    intro l c e3 e4 hl hk2 hv
    exfalso; omega
  | succ k ih =>
    intro l c e3 e4 hl hk2 hv
    have h9 := pow_le9 hn
    refine wp_iload_n (atd dX12_parts 5 rfl) rfl ?_
    refine wp_ifN_eq (tgt := 54) (atd dX12_parts 6 rfl) (by decide) (by omega) (fun c_8 => ?_) (fun c_8 => ?_)
    ·
      refine wp_iload_n (atd dX12_parts 34 rfl) rfl ?_
      refine wp_ireti (atd dX12_parts 35 rfl) rfl ?_
      exact ⟨by rw [← hv]; simp [pts, c_8], rfl⟩
    ·
      refine wp_iload_n (atd dX12_parts 7 rfl) rfl ?_
      refine wp_iload_n (atd dX12_parts 8 rfl) rfl ?_
      refine wp_ineg (atd dX12_parts 9 rfl) ?_
      refine wp_iand (atd dX12_parts 10 rfl) ?_
      rw [lowb_eq l (by omega)]
      refine wp_istore_n (atd dX12_parts 11 rfl) (Nat.le_of_ble_eq_true rfl) ?_
      refine wp_aload_n (atd dX12_parts 12 rfl) rfl rfl ?_
      refine wp_iload_n (atd dX12_parts 13 rfl) rfl ?_
      refine wp_cVi hdd [_] (atd dX12_parts 14 rfl) iX12_nearAll lX12_194 rfl rfl (Nat.le_of_ble_eq_true rfl) hM.1.1 rfl (eX12_nearAll (by omega) hM hp hn hb hw (by have := lowb_lt hl; omega)) (fun r_18 s_18 h_18 => ?_)
      obtain ⟨rfl, rfl⟩ := h_18
      refine wp_istore (atd dX12_parts 15 rfl) (Nat.le_of_ble_eq_true rfl) ?_
      have hlo := lowb_lt (n := n) hl
      refine lX12_parts (v := clo nb n 512 (lowb l)) (by omega) hM hp hn hb hw hN (fun e4 => ?_) 512 (lowb l) hlo (by omega) rfl
      obtain ⟨j, hj⟩ := bit_of_ne (lowb_pos l (by omega) (by omega))
      obtain ⟨q1, q2⟩ := clo_sub hN 512 hlo
      have hdl := dif_lt_self (lowb_sub hj) (q1 j hj)
      refine wp_iload_n (atd dX12_parts 26 rfl) rfl ?_
      refine wp_iload_n (atd dX12_parts 27 rfl) rfl ?_
      refine wp_iconst (v := -1) (atd dX12_parts 28 rfl) (by decide) ?_
      refine wp_ixor (atd dX12_parts 29 rfl) ?_
      refine wp_iandC (atd dX12_parts 30 rfl) ?_
      refine wp_istore_n (atd dX12_parts 31 rfl) (Nat.le_of_ble_eq_true rfl) ?_
      refine wp_iincN (c := 1) (atd dX12_parts 32 rfl) rfl ?_
      refine wp_goto (tgt := 7) (atd dX12_parts 33 rfl) (by decide) ?_
      exact ih _ _ _ _ (by omega) (by omega) (by rw [← hv]; rw [show pts nb n (k + 1) l c = if l = 0 then c else pts nb n k (dif l (clo nb n 512 (lowb l))) (c + 1) from rfl, if_neg (by omega)])
theorem eX12_parts {G : Gx} {d : Nat} {σ : Hp} (hd : 2 ≤ d) {m n : Nat} {α : Nat → Int32} {B : Nat → Nat → Int32} {nb : Nat → Nat} (hM : MA σ σ m α B) (hp : α 2 = nI n) (hn : n ≤ 9) (hb : ∀ p, p < n → B 1 p = nI (nb p)) (hw : ∀ p, nb p < 512) (hN : isNet n nb) : Cl G mX12_parts d [.ref m] σ 0 0 (pI fun r s2 => r = nI (pts nb n 512 (2 ^ n - 1) 0) ∧ s2 = σ) := by
  obtain ⟨d0, hdd⟩ : ∃ e, d = e + 1 := ⟨d - 1, by omega⟩
  refine cl_of (by decide) (by simp [Value.category]) (Nat.le_of_ble_eq_true rfl) ?_
  show Wp G mX12_parts d 0 [.ref m, .double 0, .double 0, .double 0, .double 0] [] σ 0 0 _
  refine wp_aload_n (atd dX12_parts 0 rfl) rfl rfl ?_
  refine wp_cVi hdd [] (atd dX12_parts 1 rfl) iX12_allPlaces lX12_191 rfl rfl (Nat.le_of_ble_eq_true rfl) hM.1.1 rfl (eX12_allPlaces (by omega) hM hp hn) (fun r_1 s_1 h_1 => ?_)
  obtain ⟨rfl, rfl⟩ := h_1
  refine wp_istore_n (atd dX12_parts 2 rfl) (Nat.le_of_ble_eq_true rfl) ?_
  refine wp_iconst (v := nI 0) (atd dX12_parts 3 rfl) (by decide) ?_
  refine wp_istore_n (atd dX12_parts 4 rfl) (Nat.le_of_ble_eq_true rfl) ?_
  have h9 := pow_le9 hn
  have h8 := pow_pos9 n
  exact oX12_parts (by omega) hM hp hn hb hw hN 512 _ 0 _ _ (by omega) (by omega) rfl
theorem eX12_isAhead {G : Gx} {d : Nat} {σ : Hp} (hd : 0 ≤ d) {a b : Nat} (ha : a < 512) (hb : b < 512) : Cl G mX12_isAhead d [.int (nI a), .int (nI b)] σ 0 0 (pI fun r s2 => r = bI (lowb (a ^^^ b) &&& a ≠ 0) ∧ s2 = σ) := by
  refine cl_of (by decide) (by simp [Value.category]) (Nat.le_of_ble_eq_true rfl) ?_
  show Wp G mX12_isAhead d 0 [.int (nI a), .int (nI b), .double 0] [] σ 0 0 _
  refine wp_iload_n (atd dX12_isAhead 0 rfl) rfl ?_
  refine wp_iload_n (atd dX12_isAhead 1 rfl) rfl ?_
  refine wp_ixorN (atd dX12_isAhead 2 rfl) ?_
  refine wp_istore_n (atd dX12_isAhead 3 rfl) (Nat.le_of_ble_eq_true rfl) ?_
  refine wp_iload_n (atd dX12_isAhead 4 rfl) rfl ?_
  refine wp_iload_n (atd dX12_isAhead 5 rfl) rfl ?_
  refine wp_ineg (atd dX12_isAhead 6 rfl) ?_
  refine wp_iand (atd dX12_isAhead 7 rfl) ?_
  rw [lowb_eq _ (Nat.xor_lt_two_pow (n := 9) ha hb)]
  refine wp_iload_n (atd dX12_isAhead 8 rfl) rfl ?_
  refine wp_iandN (atd dX12_isAhead 9 rfl) ?_
  refine wp_ifN_eq (tgt := 17) (atd dX12_isAhead 10 rfl) (by decide) (by have : lowb (a ^^^ b) &&& a ≤ a := Nat.and_le_right; omega) (fun c_10 => ?_) (fun c_10 => ?_)
  ·
    refine wp_iconst (v := nI 0) (atd dX12_isAhead 13 rfl) (by decide) ?_
    refine wp_iretz (atd dX12_isAhead 14 rfl) rfl (by first | rfl | decide) ?_
    exact ⟨by first | rw [bI_f (by omega)] | rw [bI_t (by omega)], rfl⟩
  ·
    refine wp_iconst (v := nI 1) (atd dX12_isAhead 11 rfl) (by decide) ?_
    refine wp_goto (tgt := 18) (atd dX12_isAhead 12 rfl) (by decide) ?_
    refine wp_iretz (atd dX12_isAhead 14 rfl) rfl (by first | rfl | decide) ?_
    exact ⟨by first | rw [bI_f (by omega)] | rw [bI_t (by omega)], rfl⟩
def covG (nb : Nat → Nat) (n s b : Nat) : Nat := if nall nb n s = 2 ^ n - 1 ∧ (cnt s < cnt b ∨ (cnt s = cnt b ∧ s ≠ b ∧ lowb (s ^^^ b) &&& s ≠ 0)) then s else b
