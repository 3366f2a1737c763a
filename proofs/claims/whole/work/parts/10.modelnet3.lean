/-- all that hangs together with a set -/
def clo (nb : Nat → Nat) (n : Nat) : Nat → Nat → Nat
  | 0, s => s
  | k + 1, s => if nall nb n s = s then s else clo nb n k (nall nb n s)
theorem clo_sub {n : Nat} {nb : Nat → Nat} (hN : isNet n nb) : ∀ (k : Nat) {s : Nat}, s < 2 ^ n → (∀ j, s.testBit j = true → (clo nb n k s).testBit j = true) ∧ clo nb n k s < 2 ^ n
  | 0, s, hs => ⟨fun _ h => h, hs⟩
  | k + 1, s, hs => by
    unfold clo
    split
    · exact ⟨fun _ h => h, hs⟩
    · obtain ⟨h1, h2⟩ := clo_sub hN k (nall_lt2 hN s)
      exact ⟨fun j h => h1 j (nall_bit.mpr ⟨j, bit_lt hs h, h, hN.2.2.1 j (bit_lt hs h)⟩), h2⟩
theorem dif_lt_self {l x j : Nat} (h1 : l.testBit j = true) (h2 : x.testBit j = true) : dif l x < l := by
  have hle : dif l x ≤ l := le_of_bits fun i h => by rw [dif_bit, Bool.and_eq_true] at h; exact h.1
  rcases Nat.lt_or_ge (dif l x) l with q | q
  · exact q
  · have e : dif l x = l := Nat.le_antisymm hle q
    have := dif_bit l x j
    rw [e, h1, h2] at this
    cases this
theorem bit_of_ne {a : Nat} (h : a ≠ 0) : ∃ j, a.testBit j = true := Nat.exists_testBit_of_ne_zero h
theorem lowb_sub {a j : Nat} (h : (lowb a).testBit j = true) : a.testBit j = true := by rw [lowb, Nat.testBit_and, Bool.and_eq_true] at h; exact h.1
def pts (nb : Nat → Nat) (n : Nat) : Nat → Nat → Nat → Nat
  | 0, _, c => c
  | k + 1, l, c => if l = 0 then c else pts nb n k (dif l (clo nb n 512 (lowb l))) (c + 1)
theorem lowb_lt {a n : Nat} (h : a < 2 ^ n) : lowb a < 2 ^ n := Nat.lt_of_le_of_lt Nat.and_le_left h
theorem lX12_parts {G : Gx} {d : Nat} {Q : Option Value → Hp → Prop} {σ : Hp} (hd : 2 ≤ d) {m n : Nat} {α : Nat → Int32} {B : Nat → Nat → Int32} {nb : Nat → Nat} (hM : MA σ σ m α B) (hp : α 2 = nI n) (hn : n ≤ 9) (hb : ∀ p, p < n → B 1 p = nI (nb p)) (hw : ∀ p, nb p < 512) (hN : isNet n nb) {l c v : Nat} (hk : ∀ e4 : Value, Wp G mX12_parts d 42 [.ref m, .int (nI l), .int (nI c), .int (nI v), e4] [] σ 0 0 Q) : ∀ (k : Nat) (s : Nat), s < 2 ^ n → 512 ≤ s + k → clo nb n k s = v → Wp G mX12_parts d 23 [.ref m, .int (nI l), .int (nI c), .int (nI s), .int (nI (nall nb n s))] [] σ 0 0 Q := by
  obtain ⟨d0, hdd⟩ : ∃ e, d = e + 1 := ⟨d - 1, by omega⟩
  intro k
  induction k with
  | zero =>
    intro s hs hk2 hv
    exfalso
    have := pow_le9 hn
    omega
  | succ k ih =>
    intro s hs hk2 hv
    have h9 := pow_le9 hn
    have hq := nall_lt2 hN s
    refine wp_iload (atd dX12_parts 16 rfl) rfl ?_
    refine wp_iload_n (atd dX12_parts 17 rfl) rfl ?_
    refine wp_icmpN_eq (tgt := 42) (atd dX12_parts 18 rfl) (by decide) (by omega) (by omega) (fun c_26 => ?_) (fun c_26 => ?_)
    ·
      have e : s = v := by rw [← hv]; simp [clo, c_26]
      subst e
      exact hk _
    ·
      have hgt := nall_ge hN hs
      refine wp_iload (atd dX12_parts 19 rfl) rfl ?_
      refine wp_istore_n (atd dX12_parts 20 rfl) (Nat.le_of_ble_eq_true rfl) ?_
      refine wp_aload_n (atd dX12_parts 21 rfl) rfl rfl ?_
      refine wp_iload_n (atd dX12_parts 22 rfl) rfl ?_
      refine wp_cVi hdd [_] (atd dX12_parts 23 rfl) iX12_nearAll lX12_194 rfl rfl (Nat.le_of_ble_eq_true rfl) hM.1.1 rfl (eX12_nearAll (by omega) hM hp hn hb hw (by omega)) (fun r_34 s_34 h_34 => ?_)
      obtain ⟨rfl, rfl⟩ := h_34
      refine wp_istore (atd dX12_parts 24 rfl) (Nat.le_of_ble_eq_true rfl) ?_
      refine wp_goto (tgt := 23) (atd dX12_parts 25 rfl) (by decide) ?_
      exact ih _ hq (by omega) (by rw [← hv]; simp [clo, c_26])
theorem oX12_parts {G : Gx} {d : Nat} {σ : Hp} (hd : 2 ≤ d) {m n : Nat} {α : Nat → Int32} {B : Nat → Nat → Int32} {nb : Nat → Nat} (hM : MA σ σ m α B) (hp : α 2 = nI n) (hn : n ≤ 9) (hb : ∀ p, p < n → B 1 p = nI (nb p)) (hw : ∀ p, nb p < 512) (hN : isNet n nb) {v : Nat} : ∀ (k l c : Nat) (e3 e4 : Value), l < 2 ^ n → l < k → pts nb n k l c = v → Wp G mX12_parts d 7 [.ref m, .int (nI l), .int (nI c), e3, e4] [] σ 0 0 (pI fun r s2 => r = nI v ∧ s2 = σ) := by
  obtain ⟨d0, hdd⟩ : ∃ e, d = e + 1 := ⟨d - 1, by omega⟩
  intro k
  induction k with
  | zero =>
    intro l c e3 e4 hl hk2 hv
    exfalso; omega
  | succ k ih =>
    intro l c e3 e4 hl hk2 hv
    have h9 := pow_le9 hn
    refine wp_iload_n (atd dX12_parts 5 rfl) rfl ?_
    refine wp_ifN_eq (tgt := 54) (atd dX12_parts 6 rfl) (by decide) (by omega) (fun c_8 => ?_) (fun c_8 => ?_)
    ·
      refine wp_iload_n (atd dX12_parts 34 rfl) rfl ?_
      refine wp_ireti (atd dX12_parts 35 rfl) rfl ?_
      exact ⟨by rw [← hv]; simp [pts, c_8], rfl⟩
    ·
      refine wp_iload_n (atd dX12_parts 7 rfl) rfl ?_
      refine wp_iload_n (atd dX12_parts 8 rfl) rfl ?_
      refine wp_ineg (atd dX12_parts 9 rfl) ?_
      refine wp_iand (atd dX12_parts 10 rfl) ?_
      rw [lowb_eq l (by omega)]
      refine wp_istore_n (atd dX12_parts 11 rfl) (Nat.le_of_ble_eq_true rfl) ?_
      refine wp_aload_n (atd dX12_parts 12 rfl) rfl rfl ?_
      refine wp_iload_n (atd dX12_parts 13 rfl) rfl ?_
      refine wp_cVi hdd [_] (atd dX12_parts 14 rfl) iX12_nearAll lX12_194 rfl rfl (Nat.le_of_ble_eq_true rfl) hM.1.1 rfl (eX12_nearAll (by omega) hM hp hn hb hw (by have := lowb_lt hl; omega)) (fun r_18 s_18 h_18 => ?_)
      obtain ⟨rfl, rfl⟩ := h_18
      refine wp_istore (atd dX12_parts 15 rfl) (Nat.le_of_ble_eq_true rfl) ?_
      have hlo := lowb_lt (n := n) hl
      refine lX12_parts (v := clo nb n 512 (lowb l)) (by omega) hM hp hn hb hw hN (fun e4 => ?_) 512 (lowb l) hlo (by omega) rfl
      obtain ⟨j, hj⟩ := bit_of_ne (lowb_pos l (by omega) (by omega))
      obtain ⟨q1, q2⟩ := clo_sub hN 512 hlo
      have hdl := dif_lt_self (lowb_sub hj) (q1 j hj)
      refine wp_iload_n (atd dX12_parts 26 rfl) rfl ?_
      refine wp_iload_n (atd dX12_parts 27 rfl) rfl ?_
      refine wp_iconst (v := -1) (atd dX12_parts 28 rfl) (by decide) ?_
      refine wp_ixor (atd dX12_parts 29 rfl) ?_
      refine wp_iandC (atd dX12_parts 30 rfl) ?_
      refine wp_istore_n (atd dX12_parts 31 rfl) (Nat.le_of_ble_eq_true rfl) ?_
      refine wp_iincN (c := 1) (atd dX12_parts 32 rfl) rfl ?_
      refine wp_goto (tgt := 7) (atd dX12_parts 33 rfl) (by decide) ?_
      exact ih _ _ _ _ (by omega) (by omega) (by rw [← hv]; rw [show pts nb n (k + 1) l c = if l = 0 then c else pts nb n k (dif l (clo nb n 512 (lowb l))) (c + 1) from rfl, if_neg (by omega)])
theorem eX12_parts {G : Gx} {d : Nat} {σ : Hp} (hd : 2 ≤ d) {m n : Nat} {α : Nat → Int32} {B : Nat → Nat → Int32} {nb : Nat → Nat} (hM : MA σ σ m α B) (hp : α 2 = nI n) (hn : n ≤ 9) (hb : ∀ p, p < n → B 1 p = nI (nb p)) (hw : ∀ p, nb p < 512) (hN : isNet n nb) : Cl G mX12_parts d [.ref m] σ 0 0 (pI fun r s2 => r = nI (pts nb n 512 (2 ^ n - 1) 0) ∧ s2 = σ) := by
  obtain ⟨d0, hdd⟩ : ∃ e, d = e + 1 := ⟨d - 1, by omega⟩
  refine cl_of (by decide) (by simp [Value.category]) (Nat.le_of_ble_eq_true rfl) ?_
  show Wp G mX12_parts d 0 [.ref m, .double 0, .double 0, .double 0, .double 0] [] σ 0 0 _
  refine wp_aload_n (atd dX12_parts 0 rfl) rfl rfl ?_
  refine wp_cVi hdd [] (atd dX12_parts 1 rfl) iX12_allPlaces lX12_191 rfl rfl (Nat.le_of_ble_eq_true rfl) hM.1.1 rfl (eX12_allPlaces (by omega) hM hp hn) (fun r_1 s_1 h_1 => ?_)
  obtain ⟨rfl, rfl⟩ := h_1
  refine wp_istore_n (atd dX12_parts 2 rfl) (Nat.le_of_ble_eq_true rfl) ?_
  refine wp_iconst (v := nI 0) (atd dX12_parts 3 rfl) (by decide) ?_
  refine wp_istore_n (atd dX12_parts 4 rfl) (Nat.le_of_ble_eq_true rfl) ?_
  have h9 := pow_le9 hn
  have h8 := pow_pos9 n
  exact oX12_parts (by omega) hM hp hn hb hw hN 512 _ 0 _ _ (by omega) (by omega) rfl
theorem eX12_isAhead {G : Gx} {d : Nat} {σ : Hp} (hd : 0 ≤ d) {a b : Nat} (ha : a < 512) (hb : b < 512) : Cl G mX12_isAhead d [.int (nI a), .int (nI b)] σ 0 0 (pI fun r s2 => r = bI (lowb (a ^^^ b) &&& a ≠ 0) ∧ s2 = σ) := by
  refine cl_of (by decide) (by simp [Value.category]) (Nat.le_of_ble_eq_true rfl) ?_
  show Wp G mX12_isAhead d 0 [.int (nI a), .int (nI b), .double 0] [] σ 0 0 _
  refine wp_iload_n (atd dX12_isAhead 0 rfl) rfl ?_
  refine wp_iload_n (atd dX12_isAhead 1 rfl) rfl ?_
  refine wp_ixorN (atd dX12_isAhead 2 rfl) ?_
  refine wp_istore_n (atd dX12_isAhead 3 rfl) (Nat.le_of_ble_eq_true rfl) ?_
  refine wp_iload_n (atd dX12_isAhead 4 rfl) rfl ?_
  refine wp_iload_n (atd dX12_isAhead 5 rfl) rfl ?_
  refine wp_ineg (atd dX12_isAhead 6 rfl) ?_
  refine wp_iand (atd dX12_isAhead 7 rfl) ?_
  rw [lowb_eq _ (Nat.xor_lt_two_pow (n := 9) ha hb)]
  refine wp_iload_n (atd dX12_isAhead 8 rfl) rfl ?_
  refine wp_iandN (atd dX12_isAhead 9 rfl) ?_
  refine wp_ifN_eq (tgt := 17) (atd dX12_isAhead 10 rfl) (by decide) (by have : lowb (a ^^^ b) &&& a ≤ a := Nat.and_le_right; omega) (fun c_10 => ?_) (fun c_10 => ?_)
  ·
    refine wp_iconst (v := nI 0) (atd dX12_isAhead 13 rfl) (by decide) ?_
    refine wp_iretz (atd dX12_isAhead 14 rfl) rfl (by first | rfl | decide) ?_
    exact ⟨by first | rw [bI_f (by omega)] | rw [bI_t (by omega)], rfl⟩
  ·
    refine wp_iconst (v := nI 1) (atd dX12_isAhead 11 rfl) (by decide) ?_
    refine wp_goto (tgt := 18) (atd dX12_isAhead 12 rfl) (by decide) ?_
    refine wp_iretz (atd dX12_isAhead 14 rfl) rfl (by first | rfl | decide) ?_
    exact ⟨by first | rw [bI_f (by omega)] | rw [bI_t (by omega)], rfl⟩
def covG (nb : Nat → Nat) (n s b : Nat) : Nat := if nall nb n s = 2 ^ n - 1 ∧ (cnt s < cnt b ∨ (cnt s = cnt b ∧ s ≠ b ∧ lowb (s ^^^ b) &&& s ≠ 0)) then s else b
theorem lX12_cover {G : Gx} {d : Nat} {σ : Hp} (hd : 2 ≤ d) {m n : Nat} {α : Nat → Int32} {B : Nat → Nat → Int32} {nb : Nat → Nat} (hM : MA σ σ m α B) (hp : α 2 = nI n) (hn : n ≤ 9) (hb : ∀ p, p < n → B 1 p = nI (nb p)) (hw : ∀ p, nb p < 512) {v : Nat} : ∀ (k : Nat) (i b : Nat) (e3 e4 : Value), i + k = 2 ^ n → b < 2 ^ n → fl (covG nb n) k i b = v → Wp G mX12_cover d 7 [.ref m, .int (nI b), .int (nI i), e3, e4] [] σ 0 0 (pI fun r s' => r = nI v ∧ s' = σ) := by
  obtain ⟨d0, hdd⟩ : ∃ e, d = e + 1 := ⟨d - 1, by omega⟩
  intro k
  induction k with
  | zero =>
    intro i b e3 e4 h hb9 hv
    have h9 := pow_le9 hn
    have h8 := pow_pos9 n
    refine wp_iload_n (atd dX12_cover 5 rfl) rfl ?_
    refine wp_aload_n (atd dX12_cover 6 rfl) rfl rfl ?_
    refine wp_cVi hdd [] (atd dX12_cover 7 rfl) iX12_allPlaces lX12_191 rfl rfl (Nat.le_of_ble_eq_true rfl) hM.1.1 rfl (eX12_allPlaces (by omega) hM hp hn) (fun r_9 s_9 h_9 => ?_)
    obtain ⟨rfl, rfl⟩ := h_9
    refine wp_icmpN_gt (tgt := 82) (atd dX12_cover 8 rfl) (by decide) (by omega) (by omega) (fun c_12 => ?_) (fun c_12 => ?_)
    ·
      refine wp_iload_n (atd dX12_cover 43 rfl) rfl ?_
      refine wp_ireti (atd dX12_cover 44 rfl) rfl ?_
      exact ⟨by rw [← hv]; rfl, rfl⟩
    · exfalso; omega
  | succ k ih =>
    intro i b e3 e4 h hb9 hv
    have h9 := pow_le9 hn
    have h8 := pow_pos9 n
    have hq := nall_lt hw n i
    refine wp_iload_n (atd dX12_cover 5 rfl) rfl ?_
    refine wp_aload_n (atd dX12_cover 6 rfl) rfl rfl ?_
    refine wp_cVi hdd [] (atd dX12_cover 7 rfl) iX12_allPlaces lX12_191 rfl rfl (Nat.le_of_ble_eq_true rfl) hM.1.1 rfl (eX12_allPlaces (by omega) hM hp hn) (fun r_9 s_9 h_9 => ?_)
    obtain ⟨rfl, rfl⟩ := h_9
    refine wp_icmpN_gt (tgt := 82) (atd dX12_cover 8 rfl) (by decide) (by omega) (by omega) (fun c_12 => ?_) (fun c_12 => ?_)
    · exfalso; omega
    ·
      refine wp_aload_n (atd dX12_cover 9 rfl) rfl rfl ?_
      refine wp_iload_n (atd dX12_cover 10 rfl) rfl ?_
      refine wp_cVi hdd [_] (atd dX12_cover 11 rfl) iX12_nearAll lX12_194 rfl rfl (Nat.le_of_ble_eq_true rfl) hM.1.1 rfl (eX12_nearAll (by omega) hM hp hn hb hw (by omega)) (fun r_17 s_17 h_17 => ?_)
      obtain ⟨rfl, rfl⟩ := h_17
      refine wp_aload_n (atd dX12_cover 12 rfl) rfl rfl ?_
      refine wp_cVi hdd [] (atd dX12_cover 13 rfl) iX12_allPlaces lX12_191 rfl rfl (Nat.le_of_ble_eq_true rfl) hM.1.1 rfl (eX12_allPlaces (by omega) hM hp hn) (fun r_21 s_21 h_21 => ?_)
      obtain ⟨rfl, rfl⟩ := h_21
      refine wp_icmpN_ne (tgt := 31) (atd dX12_cover 14 rfl) (by decide) (by omega) (by omega) (fun c_24 => ?_) (fun c_24 => ?_)
      ·
        refine wp_iconst (v := nI 0) (atd dX12_cover 17 rfl) (by decide) ?_
        refine wp_istore_n (atd dX12_cover 18 rfl) (Nat.le_of_ble_eq_true rfl) ?_
        refine wp_iload_n (atd dX12_cover 19 rfl) rfl ?_
        refine wp_cSi hdd [_] (atd dX12_cover 20 rfl) iX12_many lX12_188 rfl rfl (Nat.le_of_ble_eq_true rfl) (eX12_many (by omega) (by omega)) (fun r_34 s_34 h_34 => ?_)
        obtain ⟨rfl, rfl⟩ := h_34
        refine wp_istore (atd dX12_cover 21 rfl) (Nat.le_of_ble_eq_true rfl) ?_
        refine wp_iload_n (atd dX12_cover 22 rfl) rfl ?_
        refine wp_ifN_eq (tgt := 76) (atd dX12_cover 23 rfl) (by decide) (by omega) (fun c_40 => ?_) (fun c_40 => ?_)
        ·
          refine wp_iincN (c := 1) (atd dX12_cover 41 rfl) rfl ?_
          refine wp_goto (tgt := 7) (atd dX12_cover 42 rfl) (by decide) ?_
          refine ih (i + 1) _ _ _ (by omega) (by omega) ?_
          rw [← hv]
          show _ = fl (covG nb n) k (i + 1) (covG nb n i b)
          congr 1
          exact (if_neg (fun z => absurd z.1 c_24)).symm
        · exact absurd c_40 (by decide)
      ·
        refine wp_iconst (v := nI 1) (atd dX12_cover 15 rfl) (by decide) ?_
        refine wp_goto (tgt := 32) (atd dX12_cover 16 rfl) (by decide) ?_
        refine wp_istore_n (atd dX12_cover 18 rfl) (Nat.le_of_ble_eq_true rfl) ?_
        refine wp_iload_n (atd dX12_cover 19 rfl) rfl ?_
        refine wp_cSi hdd [_] (atd dX12_cover 20 rfl) iX12_many lX12_188 rfl rfl (Nat.le_of_ble_eq_true rfl) (eX12_many (by omega) (by omega)) (fun r_34 s_34 h_34 => ?_)
        obtain ⟨rfl, rfl⟩ := h_34
        refine wp_istore (atd dX12_cover 21 rfl) (Nat.le_of_ble_eq_true rfl) ?_
        refine wp_iload_n (atd dX12_cover 22 rfl) rfl ?_
        refine wp_ifN_eq (tgt := 76) (atd dX12_cover 23 rfl) (by decide) (by omega) (fun c_40 => ?_) (fun c_40 => ?_)
        · exact absurd c_40 (by decide)
        ·
          refine wp_iload (atd dX12_cover 24 rfl) rfl ?_
          refine wp_iload_n (atd dX12_cover 25 rfl) rfl ?_
          refine wp_cSi hdd [_] (atd dX12_cover 26 rfl) iX12_many lX12_188 rfl rfl (Nat.le_of_ble_eq_true rfl) (eX12_many (by omega) (by omega)) (fun r_46 s_46 h_46 => ?_)
          obtain ⟨rfl, rfl⟩ := h_46
          refine wp_icmpN_lt (tgt := 74) (atd dX12_cover 27 rfl) (by decide) (by have := (cnt_pos_le i (by omega)).2; omega) (by have := (cnt_pos_le b (by omega)).2; omega) (fun c_49 => ?_) (fun c_49 => ?_)
          ·
            refine wp_iload_n (atd dX12_cover 39 rfl) rfl ?_
            refine wp_istore_n (atd dX12_cover 40 rfl) (Nat.le_of_ble_eq_true rfl) ?_
            refine wp_iincN (c := 1) (atd dX12_cover 41 rfl) rfl ?_
            refine wp_goto (tgt := 7) (atd dX12_cover 42 rfl) (by decide) ?_
            refine ih (i + 1) _ _ _ (by omega) (by omega) ?_
            rw [← hv]
            show _ = fl (covG nb n) k (i + 1) (covG nb n i b)
            congr 1
            exact (if_pos ⟨c_24, Or.inl c_49⟩).symm
          ·
            refine wp_iload (atd dX12_cover 28 rfl) rfl ?_
            refine wp_iload_n (atd dX12_cover 29 rfl) rfl ?_
            refine wp_cSi hdd [_] (atd dX12_cover 30 rfl) iX12_many lX12_188 rfl rfl (Nat.le_of_ble_eq_true rfl) (eX12_many (by omega) (by omega)) (fun r_55 s_55 h_55 => ?_)
            obtain ⟨rfl, rfl⟩ := h_55
            refine wp_icmpN_ne (tgt := 76) (atd dX12_cover 31 rfl) (by decide) (by have := (cnt_pos_le i (by omega)).2; omega) (by have := (cnt_pos_le b (by omega)).2; omega) (fun c_58 => ?_) (fun c_58 => ?_)
            ·
              refine wp_iincN (c := 1) (atd dX12_cover 41 rfl) rfl ?_
              refine wp_goto (tgt := 7) (atd dX12_cover 42 rfl) (by decide) ?_
              refine ih (i + 1) _ _ _ (by omega) (by omega) ?_
              rw [← hv]
              show _ = fl (covG nb n) k (i + 1) (covG nb n i b)
              congr 1
              exact (if_neg (fun z => z.2.elim (fun y => by omega) (fun y => by omega))).symm
            ·
              refine wp_iload_n (atd dX12_cover 32 rfl) rfl ?_
              refine wp_iload_n (atd dX12_cover 33 rfl) rfl ?_
              refine wp_icmpN_eq (tgt := 76) (atd dX12_cover 34 rfl) (by decide) (by omega) (by omega) (fun c_63 => ?_) (fun c_63 => ?_)
              ·
                refine wp_iincN (c := 1) (atd dX12_cover 41 rfl) rfl ?_
                refine wp_goto (tgt := 7) (atd dX12_cover 42 rfl) (by decide) ?_
                refine ih (i + 1) _ _ _ (by omega) (by omega) ?_
                rw [← hv]
                show _ = fl (covG nb n) k (i + 1) (covG nb n i b)
                congr 1
                exact (if_neg (fun z => z.2.elim (fun y => by omega) (fun y => absurd c_63 y.2.1))).symm
              ·
                refine wp_iload_n (atd dX12_cover 35 rfl) rfl ?_
                refine wp_iload_n (atd dX12_cover 36 rfl) rfl ?_
                refine wp_cSi hdd [_, _] (atd dX12_cover 37 rfl) iX12_isAhead lX12_216 rfl rfl (Nat.le_of_ble_eq_true rfl) (eX12_isAhead (by omega) (by omega) (by omega)) (fun r_68 s_68 h_68 => ?_)
                obtain ⟨rfl, rfl⟩ := h_68
                refine wp_ifB_eq (tgt := 76) (atd dX12_cover 38 rfl) (by decide) (fun c_71 => ?_) (fun c_71 => ?_)
                ·
                  refine wp_iincN (c := 1) (atd dX12_cover 41 rfl) rfl ?_
                  refine wp_goto (tgt := 7) (atd dX12_cover 42 rfl) (by decide) ?_
                  refine ih (i + 1) _ _ _ (by omega) (by omega) ?_
                  rw [← hv]
                  show _ = fl (covG nb n) k (i + 1) (covG nb n i b)
                  congr 1
                  exact (if_neg (fun z => z.2.elim (fun y => by omega) (fun y => c_71 y.2.2))).symm
                ·
                  refine wp_iload_n (atd dX12_cover 39 rfl) rfl ?_
                  refine wp_istore_n (atd dX12_cover 40 rfl) (Nat.le_of_ble_eq_true rfl) ?_
                  refine wp_iincN (c := 1) (atd dX12_cover 41 rfl) rfl ?_
                  refine wp_goto (tgt := 7) (atd dX12_cover 42 rfl) (by decide) ?_
                  refine ih (i + 1) _ _ _ (by omega) (by omega) ?_
                  rw [← hv]
                  show _ = fl (covG nb n) k (i + 1) (covG nb n i b)
                  congr 1
                  exact (if_pos ⟨c_24, Or.inr ⟨c_58, c_63, c_71⟩⟩).symm
def cov (nb : Nat → Nat) (n : Nat) : Nat := fl (covG nb n) (2 ^ n) 0 (2 ^ n - 1)
theorem eX12_cover {G : Gx} {d : Nat} {σ : Hp} (hd : 2 ≤ d) {m n : Nat} {α : Nat → Int32} {B : Nat → Nat → Int32} {nb : Nat → Nat} (hM : MA σ σ m α B) (hp : α 2 = nI n) (hn : n ≤ 9) (hb : ∀ p, p < n → B 1 p = nI (nb p)) (hw : ∀ p, nb p < 512) : Cl G mX12_cover d [.ref m] σ 0 0 (pI fun r s2 => r = nI (cov nb n) ∧ s2 = σ) := by
  obtain ⟨d0, hdd⟩ : ∃ e, d = e + 1 := ⟨d - 1, by omega⟩
  refine cl_of (by decide) (by simp [Value.category]) (Nat.le_of_ble_eq_true rfl) ?_
  show Wp G mX12_cover d 0 [.ref m, .double 0, .double 0, .double 0, .double 0] [] σ 0 0 _
  refine wp_aload_n (atd dX12_cover 0 rfl) rfl rfl ?_
  refine wp_cVi hdd [] (atd dX12_cover 1 rfl) iX12_allPlaces lX12_191 rfl rfl (Nat.le_of_ble_eq_true rfl) hM.1.1 rfl (eX12_allPlaces (by omega) hM hp hn) (fun r_1 s_1 h_1 => ?_)
  obtain ⟨rfl, rfl⟩ := h_1
  refine wp_istore_n (atd dX12_cover 2 rfl) (Nat.le_of_ble_eq_true rfl) ?_
  refine wp_iconst (v := nI 0) (atd dX12_cover 3 rfl) (by decide) ?_
  refine wp_istore_n (atd dX12_cover 4 rfl) (Nat.le_of_ble_eq_true rfl) ?_
  exact lX12_cover (by omega) hM hp hn hb hw (2 ^ n) 0 _ _ _ (by omega) (by have := pow_pos9 n; omega) rfl
theorem stp_lt {nb : Nat → Nat} {n to : Nat} : ∀ {k i s t : Nat}, stp nb n to k i s = some t → t < i + k
  | 0, _, _, _, h => by cases h
  | k + 1, i, s, t, h => by
    unfold stp at h
    split at h
    · cases h; omega
    · have := stp_lt h; omega
def girG (nb : Nat → Nat) (n p q : Nat) (b : Option Nat) : Option Nat :=
  if (nb p).testBit q = true then (match stp (nbx nb p q) n q 10 0 (2 ^ p) with
    | none => b
    | some t => if t = 0 then b else match b with
      | none => some (t + 1)
      | some x => if t + 1 < x then some (t + 1) else some x) else b
def gir (nb : Nat → Nat) (n : Nat) : Option Nat := fl (fun p b => fl (girG nb n p) (n - (p + 1)) (p + 1) b) n 0 none
theorem lX12_girth {G : Gx} {d : Nat} {Q : Option Value → Hp → Prop} {σ : Hp} (hd : 2 ≤ d) {m n : Nat} {α : Nat → Int32} {B : Nat → Nat → Int32} {nb : Nat → Nat} (hM : MA σ σ m α B) (hp : α 2 = nI n) (hn : n ≤ 9) (hb : ∀ p, p < n → B 1 p = nI (nb p)) (hw : ∀ p, nb p < 512) {p : Nat} {v : Option Nat} (hpn : p < n) (hk : ∀ e3 e4 : Value, (∀ x, v = some x → x ≤ 10) → Wp G mX12_girth d 82 [.ref m, .int (oI v), .int (nI p), e3, e4] [] σ 0 0 Q) : ∀ (k : Nat) (q : Nat) (b : Option Nat) (e4 : Value), q + k = n → (∀ x, b = some x → x ≤ 10) → fl (girG nb n p) k q b = v → Wp G mX12_girth d 16 [.ref m, .int (oI b), .int (nI p), .int (nI q), e4] [] σ 0 0 Q := by
  obtain ⟨d0, hdd⟩ : ∃ e, d = e + 1 := ⟨d - 1, by omega⟩
  intro k
  induction k with
  | zero =>
    intro q b e4 h hb9 hv
    refine wp_iload_n (atd dX12_girth 12 rfl) rfl ?_
    refine wp_aload_n (atd dX12_girth 13 rfl) rfl rfl ?_
    refine wp_get fX12_78 (atd dX12_girth 14 rfl) hM.1.1 (congrArg (fun z => some (Value.int z)) hp) ?_
    refine wp_icmpN_ge (tgt := 82) (atd dX12_girth 15 rfl) (by decide) (by omega) (by omega) (fun c_21 => ?_) (fun c_21 => ?_)
    ·
      have hv2 : b = v := hv
      subst hv2
      exact hk _ _ hb9
    · exfalso; omega
  | succ k ih =>
    intro q b e4 h hb9 hv
    refine wp_iload_n (atd dX12_girth 12 rfl) rfl ?_
    refine wp_aload_n (atd dX12_girth 13 rfl) rfl rfl ?_
    refine wp_get fX12_78 (atd dX12_girth 14 rfl) hM.1.1 (congrArg (fun z => some (Value.int z)) hp) ?_
    refine wp_icmpN_ge (tgt := 82) (atd dX12_girth 15 rfl) (by decide) (by omega) (by omega) (fun c_21 => ?_) (fun c_21 => ?_)
    · exfalso; omega
    ·
      refine wp_aload_n (atd dX12_girth 16 rfl) rfl rfl ?_
      refine wp_get fX12_7 (atd dX12_girth 17 rfl) hM.1.1 rfl ?_
      refine wp_iload_n (atd dX12_girth 18 rfl) rfl ?_
      refine wp_ialdN (atd dX12_girth 19 rfl) hM.a1 (show _ < 9 from by omega) (Nat.le_of_ble_eq_true rfl) ?_
      rw [hb p (by omega)]
      refine wp_iload_n (atd dX12_girth 20 rfl) rfl ?_
      refine wp_cSi hdd [_, _] (atd dX12_girth 21 rfl) iX12_isOf lX12_149 rfl rfl (Nat.le_of_ble_eq_true rfl) (eX12_isOf (by omega) (by have := hw p; omega) (by omega)) (fun r_31 s_31 h_31 => ?_)
      obtain ⟨rfl, rfl⟩ := h_31
      refine wp_ifB_eq (tgt := 47) (atd dX12_girth 22 rfl) (by decide) (fun c_34 => ?_) (fun c_34 => ?_)
      ·
        refine wp_iconst (v := -1) (atd dX12_girth 29 rfl) (by decide) ?_
        refine wp_istore (atd dX12_girth 30 rfl) (Nat.le_of_ble_eq_true rfl) ?_
        refine wp_iload (atd dX12_girth 31 rfl) rfl ?_
        refine wp_if_le (tgt := 74) (atd dX12_girth 32 rfl) (by decide) (fun c_52 => ?_) (fun c_52 => ?_)
        ·
          refine wp_iload_n (atd dX12_girth 44 rfl) rfl ?_
          refine wp_istore_n (atd dX12_girth 45 rfl) (Nat.le_of_ble_eq_true rfl) ?_
          refine wp_iincN (c := 1) (atd dX12_girth 46 rfl) rfl ?_
          refine wp_goto (tgt := 16) (atd dX12_girth 47 rfl) (by decide) ?_
          exact ih (q + 1) b _ (by omega) hb9 (by rw [← hv]; simp [fl, girG, c_34])
        · exact absurd (by decide) c_52
      ·
        refine wp_aload_n (atd dX12_girth 23 rfl) rfl rfl ?_
        refine wp_iload_n (atd dX12_girth 24 rfl) rfl ?_
        refine wp_iload_n (atd dX12_girth 25 rfl) rfl ?_
        refine wp_iload_n (atd dX12_girth 26 rfl) rfl ?_
        refine wp_cVi hdd [_, _, _] (atd dX12_girth 27 rfl) iX12_steps lX12_184 rfl rfl (Nat.le_of_ble_eq_true rfl) hM.1.1 rfl (eX12_steps1 (by omega) hM hp hn hb hw (a := q) (by omega) (fr := p) (by omega) (to := q) (by omega)) (fun r_41 s_41 h_41 => ?_)
        obtain ⟨rfl, rfl⟩ := h_41
        generalize hx : stp (nbx nb p q) n q 10 0 (2 ^ p) = xx; rcases xx with _ | t
        ·
          refine wp_goto (tgt := 48) (atd dX12_girth 28 rfl) (by decide) ?_
          refine wp_istore (atd dX12_girth 30 rfl) (Nat.le_of_ble_eq_true rfl) ?_
          refine wp_iload (atd dX12_girth 31 rfl) rfl ?_
          refine wp_if_le (tgt := 74) (atd dX12_girth 32 rfl) (by decide) (fun c_52 => ?_) (fun c_52 => ?_)
          ·
            refine wp_iload_n (atd dX12_girth 44 rfl) rfl ?_
            refine wp_istore_n (atd dX12_girth 45 rfl) (Nat.le_of_ble_eq_true rfl) ?_
            refine wp_iincN (c := 1) (atd dX12_girth 46 rfl) rfl ?_
            refine wp_goto (tgt := 16) (atd dX12_girth 47 rfl) (by decide) ?_
            exact ih (q + 1) b _ (by omega) hb9 (by rw [← hv]; simp [fl, girG, c_34, hx])
          · exact absurd (by decide) c_52
        ·
          have ht := stp_lt hx
          refine wp_goto (tgt := 48) (atd dX12_girth 28 rfl) (by decide) ?_
          refine wp_istore (atd dX12_girth 30 rfl) (Nat.le_of_ble_eq_true rfl) ?_
          refine wp_iload (atd dX12_girth 31 rfl) rfl ?_
          refine wp_ifN_le (tgt := 74) (atd dX12_girth 32 rfl) (by decide) (by omega) (fun c_52 => ?_) (fun c_52 => ?_)
          ·
            refine wp_iload_n (atd dX12_girth 44 rfl) rfl ?_
            refine wp_istore_n (atd dX12_girth 45 rfl) (Nat.le_of_ble_eq_true rfl) ?_
            refine wp_iincN (c := 1) (atd dX12_girth 46 rfl) rfl ?_
            refine wp_goto (tgt := 16) (atd dX12_girth 47 rfl) (by decide) ?_
            exact ih (q + 1) b _ (by omega) hb9 (by rw [← hv]; simp [fl, girG, c_34, hx, c_52])
          ·
            rcases b with _ | x
            ·
              refine wp_iload_n (atd dX12_girth 33 rfl) rfl ?_
              refine wp_if_lt (tgt := 67) (atd dX12_girth 34 rfl) (by decide) (fun c_56 => ?_) (fun c_56 => ?_)
              ·
                refine wp_iload (atd dX12_girth 40 rfl) rfl ?_
                refine wp_iconst (v := nI 1) (atd dX12_girth 41 rfl) (by decide) ?_
                refine wp_iaddN (atd dX12_girth 42 rfl) ?_
                refine wp_goto (tgt := 75) (atd dX12_girth 43 rfl) (by decide) ?_
                refine wp_istore_n (atd dX12_girth 45 rfl) (Nat.le_of_ble_eq_true rfl) ?_
                refine wp_iincN (c := 1) (atd dX12_girth 46 rfl) rfl ?_
                refine wp_goto (tgt := 16) (atd dX12_girth 47 rfl) (by decide) ?_
                have ht0 : ¬ t = 0 := by omega
                exact ih (q + 1) (some (t + 1)) _ (by omega) (by intro z hz; cases hz; omega) (by rw [← hv]; simp [fl, girG, c_34, hx, ht0])
              · exact absurd (by decide) c_56
            ·
              have hx9 := hb9 x rfl
              refine wp_iload_n (atd dX12_girth 33 rfl) rfl ?_
              refine wp_ifN_lt (tgt := 67) (atd dX12_girth 34 rfl) (by decide) (by omega) ?_
              refine wp_iload (atd dX12_girth 35 rfl) rfl ?_
              refine wp_iconst (v := nI 1) (atd dX12_girth 36 rfl) (by decide) ?_
              refine wp_iaddN (atd dX12_girth 37 rfl) ?_
              refine wp_iload_n (atd dX12_girth 38 rfl) rfl ?_
              refine wp_icmpN_ge (tgt := 74) (atd dX12_girth 39 rfl) (by decide) (by omega) (by omega) (fun c_64 => ?_) (fun c_64 => ?_)
              ·
                refine wp_iload_n (atd dX12_girth 44 rfl) rfl ?_
                refine wp_istore_n (atd dX12_girth 45 rfl) (Nat.le_of_ble_eq_true rfl) ?_
                refine wp_iincN (c := 1) (atd dX12_girth 46 rfl) rfl ?_
                refine wp_goto (tgt := 16) (atd dX12_girth 47 rfl) (by decide) ?_
                have ht0 : ¬ t = 0 := by omega
                have hz0 : ¬ t + 1 < x := by omega
                exact ih (q + 1) (some x) _ (by omega) hb9 (by rw [← hv]; simp [fl, girG, c_34, hx, ht0, hz0])
              ·
                refine wp_iload (atd dX12_girth 40 rfl) rfl ?_
                refine wp_iconst (v := nI 1) (atd dX12_girth 41 rfl) (by decide) ?_
                refine wp_iaddN (atd dX12_girth 42 rfl) ?_
                refine wp_goto (tgt := 75) (atd dX12_girth 43 rfl) (by decide) ?_
                refine wp_istore_n (atd dX12_girth 45 rfl) (Nat.le_of_ble_eq_true rfl) ?_
                refine wp_iincN (c := 1) (atd dX12_girth 46 rfl) rfl ?_
                refine wp_goto (tgt := 16) (atd dX12_girth 47 rfl) (by decide) ?_
                have ht0 : ¬ t = 0 := by omega
                exact ih (q + 1) (some (t + 1)) _ (by omega) (by intro z hz; cases hz; omega) (by rw [← hv]; simp [fl, girG, c_34, hx, ht0, c_64])
theorem oX12_girth {G : Gx} {d : Nat} {σ : Hp} (hd : 2 ≤ d) {m n : Nat} {α : Nat → Int32} {B : Nat → Nat → Int32} {nb : Nat → Nat} (hM : MA σ σ m α B) (hp : α 2 = nI n) (hn : n ≤ 9) (hb : ∀ p, p < n → B 1 p = nI (nb p)) (hw : ∀ p, nb p < 512) {v : Option Nat} : ∀ (k p : Nat) (b : Option Nat) (e3 e4 : Value), p + k = n → (∀ x, b = some x → x ≤ 10) → fl (fun p b => fl (girG nb n p) (n - (p + 1)) (p + 1) b) k p b = v → Wp G mX12_girth d 4 [.ref m, .int (oI b), .int (nI p), e3, e4] [] σ 0 0 (pI fun r s2 => r = oI v ∧ s2 = σ) := by
  obtain ⟨d0, hdd⟩ : ∃ e, d = e + 1 := ⟨d - 1, by omega⟩
  intro k
  induction k with
  | zero =>
    intro p b e3 e4 h hb9 hv
    refine wp_iload_n (atd dX12_girth 4 rfl) rfl ?_
    refine wp_aload_n (atd dX12_girth 5 rfl) rfl rfl ?_
    refine wp_get fX12_78 (atd dX12_girth 6 rfl) hM.1.1 (congrArg (fun z => some (Value.int z)) hp) ?_
    refine wp_icmpN_ge (tgt := 88) (atd dX12_girth 7 rfl) (by decide) (by omega) (by omega) (fun c_9 => ?_) (fun c_9 => ?_)
    ·
      refine wp_iload_n (atd dX12_girth 50 rfl) rfl ?_
      refine wp_ireti (atd dX12_girth 51 rfl) rfl ?_
      exact ⟨by rw [← hv]; rfl, rfl⟩
    · exfalso; omega
  | succ k ih =>
    intro p b e3 e4 h hb9 hv
    refine wp_iload_n (atd dX12_girth 4 rfl) rfl ?_
    refine wp_aload_n (atd dX12_girth 5 rfl) rfl rfl ?_
    refine wp_get fX12_78 (atd dX12_girth 6 rfl) hM.1.1 (congrArg (fun z => some (Value.int z)) hp) ?_
    refine wp_icmpN_ge (tgt := 88) (atd dX12_girth 7 rfl) (by decide) (by omega) (by omega) (fun c_9 => ?_) (fun c_9 => ?_)
    · exfalso; omega
    ·
      refine wp_iload_n (atd dX12_girth 8 rfl) rfl ?_
      refine wp_iconst (v := nI 1) (atd dX12_girth 9 rfl) (by decide) ?_
      refine wp_iaddN (atd dX12_girth 10 rfl) ?_
      refine wp_istore_n (atd dX12_girth 11 rfl) (Nat.le_of_ble_eq_true rfl) ?_
      refine lX12_girth (v := fl (girG nb n p) (n - (p + 1)) (p + 1) b) (by omega) hM hp hn hb hw (by omega) (fun e3 e4 hb9 => ?_) (n - (p + 1)) (p + 1) b _ (by omega) hb9 rfl
      refine wp_iincN (c := 1) (atd dX12_girth 48 rfl) rfl ?_
      refine wp_goto (tgt := 4) (atd dX12_girth 49 rfl) (by decide) ?_
      exact ih (p + 1) _ _ _ (by omega) hb9 (by rw [← hv]; rfl)
theorem eX12_girth {G : Gx} {d : Nat} {σ : Hp} (hd : 2 ≤ d) {m n : Nat} {α : Nat → Int32} {B : Nat → Nat → Int32} {nb : Nat → Nat} (hM : MA σ σ m α B) (hp : α 2 = nI n) (hn : n ≤ 9) (hb : ∀ p, p < n → B 1 p = nI (nb p)) (hw : ∀ p, nb p < 512) : Cl G mX12_girth d [.ref m] σ 0 0 (pI fun r s2 => r = oI (gir nb n) ∧ s2 = σ) := by
  obtain ⟨d0, hdd⟩ : ∃ e, d = e + 1 := ⟨d - 1, by omega⟩
  refine cl_of (by decide) (by simp [Value.category]) (Nat.le_of_ble_eq_true rfl) ?_
  show Wp G mX12_girth d 0 [.ref m, .double 0, .double 0, .double 0, .double 0] [] σ 0 0 _
  refine wp_iconst (v := -1) (atd dX12_girth 0 rfl) (by decide) ?_
  refine wp_istore_n (atd dX12_girth 1 rfl) (Nat.le_of_ble_eq_true rfl) ?_
  refine wp_iconst (v := nI 0) (atd dX12_girth 2 rfl) (by decide) ?_
  refine wp_istore_n (atd dX12_girth 3 rfl) (Nat.le_of_ble_eq_true rfl) ?_
  exact oX12_girth (by omega) hM hp hn hb hw n 0 none _ _ (by omega) (by intro x hx; cases hx) rfl
