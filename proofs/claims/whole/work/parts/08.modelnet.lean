/-- a place of n -/
abbrev isP (p : Int32) (n : Nat) : Prop := 0 ≤ p.toInt ∧ p.toInt < (n : Int)
theorem isP_iff {p : Int32} {n : Nat} (hn : n ≤ 9) : (¬ p < nI 0 ∧ ¬ nI n - nI 1 < p) ↔ isP p n := by
  have h1 : (nI n - nI 1).toInt = (n : Int) - (1 : Nat) := pk_sub_toInt (by omega) (by omega)
  have h0 : (nI 0).toInt = ((0 : Nat) : Int) := nI_toInt (by decide)
  rw [Int32.lt_iff_toInt_lt, Int32.lt_iff_toInt_lt, h1, h0, isP]
  omega
theorem isP_nI {j n : Nat} (hj : j < 2 ^ 31) : isP (nI j) n ↔ j < n := by rw [isP, nI_toInt hj]; omega
theorem isP_of {p : Int32} {n : Nat} (hn : n ≤ 9) (h : isP p n) : ∃ j, j < n ∧ p = nI j := by
  obtain ⟨j, hj, e⟩ := nI_of (x := p) (by rw [Int32.lt_iff_toInt_lt]; have := h.1; simp; omega)
  refine ⟨j, ?_, e⟩
  rw [e] at h
  exact (isP_nI hj).mp h
/-- an answer for a place, another for what is none -/
def atP (p : Int32) (n : Nat) (f : Nat → Int32) (e : Int32) : Int32 := if isP p n then f p.toNatClampNeg else e
theorem atP_t {j n : Nat} {f : Nat → Int32} {e : Int32} (hn : n ≤ 9) (hj : j < n) : atP (nI j) n f e = f j := by
  unfold atP
  rw [if_pos ((isP_nI (by omega)).mpr hj), nI_clamp (by omega)]
theorem atP_f {p : Int32} {n : Nat} {f : Nat → Int32} {e : Int32} (h : ¬ isP p n) : atP p n f e = e := if_neg h
theorem pow_le9 {n : Nat} (h : n ≤ 9) : 2 ^ n ≤ 512 := Nat.pow_le_pow_right (by decide) h
theorem pow_pos9 (n : Nat) : 1 ≤ 2 ^ n := Nat.one_le_two_pow
theorem eX12_isPlace {G : Gx} {d : Nat} {σ : Hp} (hd : 1 ≤ d) {m n : Nat} {α : Nat → Int32} {B : Nat → Nat → Int32} (hM : MA σ σ m α B) (hp : α 2 = nI n) (hn : n ≤ 9) {p : Int32} : Cl G mX12_isPlace d [.ref m, .int p] σ 0 0 (pI fun r s => r = bI (isP p n) ∧ s = σ) := by
  obtain ⟨d0, hdd⟩ : ∃ e, d = e + 1 := ⟨d - 1, by omega⟩
  refine cl_of (by decide) (by simp [Value.category]) (Nat.le_of_ble_eq_true rfl) ?_
  show Wp G mX12_isPlace d 0 [.ref m, .int p] [] σ 0 0 _
  refine wp_iload_n (atd dX12_isPlace 0 rfl) rfl ?_
  refine wp_iconst (v := nI 0) (atd dX12_isPlace 1 rfl) (by decide) ?_
  refine wp_aload_n (atd dX12_isPlace 2 rfl) rfl rfl ?_
  refine wp_get fX12_78 (atd dX12_isPlace 3 rfl) hM.1.1 (congrArg (fun z => some (Value.int z)) hp) ?_
  refine wp_iconst (v := nI 1) (atd dX12_isPlace 4 rfl) (by decide) ?_
  refine wp_isub (atd dX12_isPlace 5 rfl) ?_
  refine wp_cSi hdd [_, _, _] (atd dX12_isPlace 6 rfl) iX12_in lX12_81 rfl rfl (Nat.le_of_ble_eq_true rfl) (eX12_in (by omega)) (fun r_8 s_8 h_8 => ?_)
  obtain ⟨rfl, rfl⟩ := h_8
  refine wp_iretz (atd dX12_isPlace 7 rfl) rfl bI_and ?_
  exact ⟨bI_c (isP_iff hn), rfl⟩
theorem eX12_allPlaces {G : Gx} {d : Nat} {σ : Hp} (hd : 0 ≤ d) {m n : Nat} {α : Nat → Int32} {B : Nat → Nat → Int32} (hM : MA σ σ m α B) (hp : α 2 = nI n) (hn : n ≤ 9) : Cl G mX12_allPlaces d [.ref m] σ 0 0 (pI fun r s => r = nI (2 ^ n - 1) ∧ s = σ) := by
  refine cl_of (by decide) (by simp [Value.category]) (Nat.le_of_ble_eq_true rfl) ?_
  show Wp G mX12_allPlaces d 0 [.ref m] [] σ 0 0 _
  refine wp_iconst (v := nI 1) (atd dX12_allPlaces 0 rfl) (by decide) ?_
  refine wp_aload_n (atd dX12_allPlaces 1 rfl) rfl rfl ?_
  refine wp_get fX12_78 (atd dX12_allPlaces 2 rfl) hM.1.1 (congrArg (fun z => some (Value.int z)) hp) ?_
  refine wp_ishl1 (atd dX12_allPlaces 3 rfl) (by omega) ?_
  refine wp_iconst (v := nI 1) (atd dX12_allPlaces 4 rfl) (by decide) ?_
  refine wp_isubN (atd dX12_allPlaces 5 rfl) (pow_pos9 n) ?_
  refine wp_ireti (atd dX12_allPlaces 6 rfl) rfl ?_
  exact ⟨rfl, rfl⟩
theorem eX12_near {G : Gx} {d : Nat} {σ : Hp} (hd : 2 ≤ d) {m n : Nat} {α : Nat → Int32} {B : Nat → Nat → Int32} {nb : Nat → Nat} (hM : MA σ σ m α B) (hp : α 2 = nI n) (hn : n ≤ 9) (hb : ∀ p, p < n → B 1 p = nI (nb p)) (hw : ∀ p, nb p < 512) {p : Int32} : Cl G mX12_near d [.ref m, .int p] σ 0 0 (pI fun r s => r = atP p n (fun j => nI (nb j)) (-1) ∧ MA σ s m (upd α 0 (nI 0)) B) := by
  obtain ⟨d0, hdd⟩ : ∃ e, d = e + 1 := ⟨d - 1, by omega⟩
  refine cl_of (by decide) (by simp [Value.category]) (Nat.le_of_ble_eq_true rfl) ?_
  show Wp G mX12_near d 0 [.ref m, .int p] [] σ 0 0 _
  refine wp_aload_n (atd dX12_near 0 rfl) rfl rfl ?_
  refine wp_iconst (v := nI 0) (atd dX12_near 1 rfl) (by decide) ?_
  refine wp_putM fX12_75 (atd dX12_near 2 rfl) hM rfl (fun σ hM => ?_)
  refine wp_aload_n (atd dX12_near 3 rfl) rfl rfl ?_
  refine wp_iload_n (atd dX12_near 4 rfl) rfl ?_
  refine wp_cVi hdd [_] (atd dX12_near 5 rfl) iX12_isPlace lX12_181 rfl rfl (Nat.le_of_ble_eq_true rfl) hM.1.1 rfl (eX12_isPlace (by omega) hM.self hp hn) (fun r_7 s_7 h_7 => ?_)
  obtain ⟨rfl, rfl⟩ := h_7
  refine wp_ifB_eq (tgt := 22) (atd dX12_near 6 rfl) (by decide) (fun c_10 => ?_) (fun c_10 => ?_)
  ·
    refine wp_iconst (v := -1) (atd dX12_near 12 rfl) (by decide) ?_
    refine wp_ireti (atd dX12_near 13 rfl) rfl ?_
    exact ⟨by first | rw [atP_t hn hj] | rw [atP_f c_10], hM⟩
  ·
    obtain ⟨j, hj, rfl⟩ := isP_of hn c_10
    refine wp_aload_n (atd dX12_near 7 rfl) rfl rfl ?_
    refine wp_get fX12_7 (atd dX12_near 8 rfl) hM.1.1 rfl ?_
    refine wp_iload_n (atd dX12_near 9 rfl) rfl ?_
    refine wp_ialdN (atd dX12_near 10 rfl) hM.a1 (show _ < 9 from by omega) (Nat.le_of_ble_eq_true rfl) ?_
    rw [hb j hj]
    refine wp_goto (tgt := 23) (atd dX12_near 11 rfl) (by decide) ?_
    refine wp_ireti (atd dX12_near 13 rfl) rfl ?_
    exact ⟨by first | rw [atP_t hn hj] | rw [atP_f c_10], hM⟩
/-- places near one of a set, by the first n places -/
def nallG (nb : Nat → Nat) (s : Nat) (p w : Nat) : Nat := if s.testBit p = true then w ||| nb p else w
def nall (nb : Nat → Nat) (n s : Nat) : Nat := fl (nallG nb s) n 0 0
theorem lX12_nearAll {G : Gx} {d : Nat} {σ : Hp} (hd : 1 ≤ d) {m n : Nat} {α : Nat → Int32} {B : Nat → Nat → Int32} {nb : Nat → Nat} (hM : MA σ σ m α B) (hp : α 2 = nI n) (hn : n ≤ 9) (hb : ∀ p, p < n → B 1 p = nI (nb p)) (hw : ∀ p, nb p < 512) {s v : Nat} (hs : s < 2 ^ 31) : ∀ (k : Nat) (i w : Nat), i + k = n → fl (nallG nb s) k i w = v → Wp G mX12_nearAll d 4 [.ref m, .int (nI s), .int (nI w), .int (nI i)] [] σ 0 0 (pI fun r s' => r = nI v ∧ s' = σ) := by
  obtain ⟨d0, hdd⟩ : ∃ e, d = e + 1 := ⟨d - 1, by omega⟩
  intro k
  induction k with
  | zero =>
    intro i w h hv
    refine wp_iload_n (atd dX12_nearAll 4 rfl) rfl ?_
    refine wp_aload_n (atd dX12_nearAll 5 rfl) rfl rfl ?_
    refine wp_get fX12_78 (atd dX12_nearAll 6 rfl) hM.1.1 (congrArg (fun z => some (Value.int z)) hp) ?_
    refine wp_icmpN_ge (tgt := 39) (atd dX12_nearAll 7 rfl) (by decide) (by omega) (by omega) (fun c_9 => ?_) (fun c_9 => ?_)
    ·
      refine wp_iload_n (atd dX12_nearAll 23 rfl) rfl ?_
      refine wp_ireti (atd dX12_nearAll 24 rfl) rfl ?_
      exact ⟨by rw [← hv]; rfl, rfl⟩
    · exfalso; omega
  | succ k ih =>
    intro i w h hv
    refine wp_iload_n (atd dX12_nearAll 4 rfl) rfl ?_
    refine wp_aload_n (atd dX12_nearAll 5 rfl) rfl rfl ?_
    refine wp_get fX12_78 (atd dX12_nearAll 6 rfl) hM.1.1 (congrArg (fun z => some (Value.int z)) hp) ?_
    refine wp_icmpN_ge (tgt := 39) (atd dX12_nearAll 7 rfl) (by decide) (by omega) (by omega) (fun c_9 => ?_) (fun c_9 => ?_)
    · exfalso; omega
    ·
      refine wp_iload_n (atd dX12_nearAll 8 rfl) rfl ?_
      refine wp_iload_n (atd dX12_nearAll 9 rfl) rfl ?_
      refine wp_iload_n (atd dX12_nearAll 10 rfl) rfl ?_
      refine wp_cSi hdd [_, _] (atd dX12_nearAll 11 rfl) iX12_isOf lX12_149 rfl rfl (Nat.le_of_ble_eq_true rfl) (eX12_isOf (by omega) hs (by omega)) (fun r_15 s_15 h_15 => ?_)
      obtain ⟨rfl, rfl⟩ := h_15
      refine wp_ifB_eq (tgt := 30) (atd dX12_nearAll 12 rfl) (by decide) (fun c_18 => ?_) (fun c_18 => ?_)
      ·
        refine wp_iconst (v := nI 0) (atd dX12_nearAll 18 rfl) (by decide) ?_
        refine wp_iorN (atd dX12_nearAll 19 rfl) ?_
        refine wp_istore_n (atd dX12_nearAll 20 rfl) (Nat.le_of_ble_eq_true rfl) ?_
        refine wp_iincN (c := 1) (atd dX12_nearAll 21 rfl) rfl ?_
        refine wp_goto (tgt := 4) (atd dX12_nearAll 22 rfl) (by decide) ?_
        exact ih (i + 1) _ (by omega) (by rw [← hv]; simp [fl, nallG, c_18])
      ·
        refine wp_aload_n (atd dX12_nearAll 13 rfl) rfl rfl ?_
        refine wp_get fX12_7 (atd dX12_nearAll 14 rfl) hM.1.1 rfl ?_
        refine wp_iload_n (atd dX12_nearAll 15 rfl) rfl ?_
        refine wp_ialdN (atd dX12_nearAll 16 rfl) hM.a1 (show _ < 9 from by omega) (Nat.le_of_ble_eq_true rfl) ?_
        rw [hb i (by omega)]
        refine wp_goto (tgt := 31) (atd dX12_nearAll 17 rfl) (by decide) ?_
        refine wp_iorN (atd dX12_nearAll 19 rfl) ?_
        refine wp_istore_n (atd dX12_nearAll 20 rfl) (Nat.le_of_ble_eq_true rfl) ?_
        refine wp_iincN (c := 1) (atd dX12_nearAll 21 rfl) rfl ?_
        refine wp_goto (tgt := 4) (atd dX12_nearAll 22 rfl) (by decide) ?_
        exact ih (i + 1) _ (by omega) (by rw [← hv]; simp [fl, nallG, c_18])
theorem eX12_nearAll {G : Gx} {d : Nat} {σ : Hp} (hd : 1 ≤ d) {m n : Nat} {α : Nat → Int32} {B : Nat → Nat → Int32} {nb : Nat → Nat} (hM : MA σ σ m α B) (hp : α 2 = nI n) (hn : n ≤ 9) (hb : ∀ p, p < n → B 1 p = nI (nb p)) (hw : ∀ p, nb p < 512) {s : Nat} (hs : s < 2 ^ 31) : Cl G mX12_nearAll d [.ref m, .int (nI s)] σ 0 0 (pI fun r s' => r = nI (nall nb n s) ∧ s' = σ) := by
  obtain ⟨d0, hdd⟩ : ∃ e, d = e + 1 := ⟨d - 1, by omega⟩
  refine cl_of (by decide) (by simp [Value.category]) (Nat.le_of_ble_eq_true rfl) ?_
  show Wp G mX12_nearAll d 0 [.ref m, .int (nI s), .double 0, .double 0] [] σ 0 0 _
  refine wp_iconst (v := nI 0) (atd dX12_nearAll 0 rfl) (by decide) ?_
  refine wp_istore_n (atd dX12_nearAll 1 rfl) (Nat.le_of_ble_eq_true rfl) ?_
  refine wp_iconst (v := nI 0) (atd dX12_nearAll 2 rfl) (by decide) ?_
  refine wp_istore_n (atd dX12_nearAll 3 rfl) (Nat.le_of_ble_eq_true rfl) ?_
  exact lX12_nearAll (by omega) hM hp hn hb hw hs n 0 0 (by omega) rfl
def crn (nb : Nat → Nat) (n p a : Nat) : Nat → Nat → Option Nat
  | 0, _ => none
  | k + 1, q => if q ≠ p ∧ a.testBit q = true ∧ dif (nb p &&& a) (nb q) = 0 then some q else crn nb n p a k (q + 1)
def oI (r : Option Nat) : Int32 := match r with
  | some q => nI q
  | none => -1
theorem dif_lt {a b k : Nat} (h : a < 2 ^ k) : dif a b < 2 ^ k := Nat.xor_lt_two_pow h (Nat.lt_of_le_of_lt Nat.and_le_left h)
theorem and_lt9 {a b : Nat} (h : a < 512) : a &&& b < 512 := Nat.lt_of_le_of_lt Nat.and_le_left h
theorem dif_lt9 {a b : Nat} (h : a < 512) : dif a b < 512 := dif_lt (k := 9) h
theorem lX12_cornerBy {G : Gx} {d : Nat} {σ : Hp} (hd : 1 ≤ d) {m n : Nat} {α : Nat → Int32} {B : Nat → Nat → Int32} {nb : Nat → Nat} (hM : MA σ σ m α B) (hp : α 2 = nI n) (hn : n ≤ 9) (hb : ∀ p, p < n → B 1 p = nI (nb p)) (hw : ∀ p, nb p < 512) {p a : Nat} {v : Option Nat} (hpn : p < n) (ha : a < 512) : ∀ (k : Nat) (i : Nat), i + k = n → crn nb n p a k i = v → Wp G mX12_cornerBy d 2 [.ref m, .int (nI p), .int (nI a), .int (nI i)] [] σ 0 0 (pI fun r s' => r = oI v ∧ s' = σ) := by
  obtain ⟨d0, hdd⟩ : ∃ e, d = e + 1 := ⟨d - 1, by omega⟩
  intro k
  induction k with
  | zero =>
    intro i h hv
    refine wp_iload_n (atd dX12_cornerBy 2 rfl) rfl ?_
    refine wp_aload_n (atd dX12_cornerBy 3 rfl) rfl rfl ?_
    refine wp_get fX12_78 (atd dX12_cornerBy 4 rfl) hM.1.1 (congrArg (fun z => some (Value.int z)) hp) ?_
    refine wp_icmpN_ge (tgt := 51) (atd dX12_cornerBy 5 rfl) (by decide) (by omega) (by omega) (fun c_7 => ?_) (fun c_7 => ?_)
    ·
      refine wp_iconst (v := -1) (atd dX12_cornerBy 31 rfl) (by decide) ?_
      refine wp_ireti (atd dX12_cornerBy 32 rfl) rfl ?_
      exact ⟨by rw [← hv]; rfl, rfl⟩
    · exfalso; omega
  | succ k ih =>
    intro i h hv
    refine wp_iload_n (atd dX12_cornerBy 2 rfl) rfl ?_
    refine wp_aload_n (atd dX12_cornerBy 3 rfl) rfl rfl ?_
    refine wp_get fX12_78 (atd dX12_cornerBy 4 rfl) hM.1.1 (congrArg (fun z => some (Value.int z)) hp) ?_
    refine wp_icmpN_ge (tgt := 51) (atd dX12_cornerBy 5 rfl) (by decide) (by omega) (by omega) (fun c_7 => ?_) (fun c_7 => ?_)
    · exfalso; omega
    ·
      refine wp_iload_n (atd dX12_cornerBy 6 rfl) rfl ?_
      refine wp_iload_n (atd dX12_cornerBy 7 rfl) rfl ?_
      refine wp_icmpN_eq (tgt := 45) (atd dX12_cornerBy 8 rfl) (by decide) (by omega) (by omega) (fun c_12 => ?_) (fun c_12 => ?_)
      ·
        refine wp_iincN (c := 1) (atd dX12_cornerBy 29 rfl) rfl ?_
        refine wp_goto (tgt := 2) (atd dX12_cornerBy 30 rfl) (by decide) ?_
        exact ih (i + 1) (by omega) (by rw [← hv]; simp [crn, *]; try omega)
      ·
        refine wp_iload_n (atd dX12_cornerBy 9 rfl) rfl ?_
        refine wp_iload_n (atd dX12_cornerBy 10 rfl) rfl ?_
        refine wp_cSi hdd [_, _] (atd dX12_cornerBy 11 rfl) iX12_isOf lX12_149 rfl rfl (Nat.le_of_ble_eq_true rfl) (eX12_isOf (by omega) (by omega) (by omega)) (fun r_17 s_17 h_17 => ?_)
        obtain ⟨rfl, rfl⟩ := h_17
        refine wp_ifB_eq (tgt := 45) (atd dX12_cornerBy 12 rfl) (by decide) (fun c_20 => ?_) (fun c_20 => ?_)
        ·
          refine wp_iincN (c := 1) (atd dX12_cornerBy 29 rfl) rfl ?_
          refine wp_goto (tgt := 2) (atd dX12_cornerBy 30 rfl) (by decide) ?_
          exact ih (i + 1) (by omega) (by rw [← hv]; simp [crn, *]; try omega)
        ·
          refine wp_aload_n (atd dX12_cornerBy 13 rfl) rfl rfl ?_
          refine wp_get fX12_7 (atd dX12_cornerBy 14 rfl) hM.1.1 rfl ?_
          refine wp_iload_n (atd dX12_cornerBy 15 rfl) rfl ?_
          refine wp_ialdN (atd dX12_cornerBy 16 rfl) hM.a1 (show _ < 9 from by omega) (Nat.le_of_ble_eq_true rfl) ?_
          rw [hb p hpn]
          refine wp_iload_n (atd dX12_cornerBy 17 rfl) rfl ?_
          refine wp_iandN (atd dX12_cornerBy 18 rfl) ?_
          refine wp_aload_n (atd dX12_cornerBy 19 rfl) rfl rfl ?_
          refine wp_get fX12_7 (atd dX12_cornerBy 20 rfl) hM.1.1 rfl ?_
          refine wp_iload_n (atd dX12_cornerBy 21 rfl) rfl ?_
          refine wp_ialdN (atd dX12_cornerBy 22 rfl) hM.a1 (show _ < 9 from by omega) (Nat.le_of_ble_eq_true rfl) ?_
          rw [hb i (by omega)]
          refine wp_iconst (v := -1) (atd dX12_cornerBy 23 rfl) (by decide) ?_
          refine wp_ixor (atd dX12_cornerBy 24 rfl) ?_
          refine wp_iandC (atd dX12_cornerBy 25 rfl) ?_
          refine wp_ifN_ne (tgt := 45) (atd dX12_cornerBy 26 rfl) (by decide) (by have := dif_lt9 (b := nb i) (and_lt9 (b := a) (hw p)); omega) (fun c_40 => ?_) (fun c_40 => ?_)
          ·
            refine wp_iincN (c := 1) (atd dX12_cornerBy 29 rfl) rfl ?_
            refine wp_goto (tgt := 2) (atd dX12_cornerBy 30 rfl) (by decide) ?_
            exact ih (i + 1) (by omega) (by rw [← hv]; simp [crn, *]; try omega)
          ·
            refine wp_iload_n (atd dX12_cornerBy 27 rfl) rfl ?_
            refine wp_ireti (atd dX12_cornerBy 28 rfl) rfl ?_
            exact ⟨by rw [← hv]; simp [crn, oI, *], rfl⟩
theorem eX12_cornerBy {G : Gx} {d : Nat} {σ : Hp} (hd : 1 ≤ d) {m n : Nat} {α : Nat → Int32} {B : Nat → Nat → Int32} {nb : Nat → Nat} (hM : MA σ σ m α B) (hp : α 2 = nI n) (hn : n ≤ 9) (hb : ∀ p, p < n → B 1 p = nI (nb p)) (hw : ∀ p, nb p < 512) {p a : Nat} (hpn : p < n) (ha : a < 512) : Cl G mX12_cornerBy d [.ref m, .int (nI p), .int (nI a)] σ 0 0 (pI fun r s' => r = oI (crn nb n p a n 0) ∧ s' = σ) := by
  obtain ⟨d0, hdd⟩ : ∃ e, d = e + 1 := ⟨d - 1, by omega⟩
  refine cl_of (by decide) (by simp [Value.category]) (Nat.le_of_ble_eq_true rfl) ?_
  show Wp G mX12_cornerBy d 0 [.ref m, .int (nI p), .int (nI a), .double 0] [] σ 0 0 _
  refine wp_iconst (v := nI 0) (atd dX12_cornerBy 0 rfl) (by decide) ?_
  refine wp_istore_n (atd dX12_cornerBy 1 rfl) (Nat.le_of_ble_eq_true rfl) ?_
  exact lX12_cornerBy (by omega) hM hp hn hb hw hpn ha n 0 (by omega) rfl
