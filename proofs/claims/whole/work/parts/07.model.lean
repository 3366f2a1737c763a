/-! THE REFERENCE: one object at m, its arrays at m + 1 .. m + 19 -/
def mF (m : Nat) (α : Nat → Int32) : List Value := [.int (α 0), .ref (m + 1), .int (α 2), .ref (m + 2), .ref (m + 3), .ref (m + 4), .int (α 6), .int (α 7), .int (α 8), .int (α 9), .int (α 10), .int (α 11), .int (α 12), .int (α 13), .int (α 14), .int (α 15), .int (α 16), .int (α 17), .int (α 18), .int (α 19), .int (α 20), .int (α 21), .ref (m + 5), .ref (m + 6), .int (α 24), .int (α 25), .ref (m + 7), .ref (m + 8), .ref (m + 9), .ref (m + 10), .ref (m + 11), .ref (m + 12), .int (α 32), .int (α 33), .int (α 34), .int (α 35), .int (α 36), .int (α 37), .int (α 38), .ref (m + 13), .ref (m + 14), .int (α 41), .ref (m + 15), .ref (m + 16), .ref (m + 17), .int (α 45), .int (α 46), .int (α 47), .int (α 48), .int (α 49), .int (α 50), .int (α 51), .int (α 52), .int (α 53), .int (α 54), .ref (m + 18), .ref (m + 19), .int (α 57)]
def mLen (j : Nat) : Nat := match j with
  | 1 => 9
  | 2 => 600
  | 3 => 9
  | 4 => 9
  | 5 => 9
  | 6 => 9
  | 7 => 495
  | 8 => 18
  | 9 => 27225
  | 10 => 1485
  | 11 => 1485
  | 12 => 165
  | 13 => 9
  | 14 => 9
  | 15 => 81
  | 16 => 23040
  | 17 => 61
  | 18 => 240
  | 19 => 9
  | _ => 0
def mT (j : Nat) : Nat := match j with
  | 9 => 1
  | 15 => 1
  | _ => 0
/-- the heap holds the reference's numbers α and arrays B, and else it is as σ0 -/
def MA (σ0 σ : Hp) (m : Nat) (α : Nat → Int32) (B : Nat → Nat → Int32) : Prop := (σ.2 m = .inr (12, mF m α) ∧ ∀ j, 1 ≤ j → j ≤ 19 → σ.2 (m + j) = .inl (mT j, mLen j, .inl (B j))) ∧ σ.1 = σ0.1 ∧ ∀ k, (k < m ∨ m + 19 < k) → σ.2 k = σ0.2 k
section MArows
variable {σ0 σ σ2 : Hp} {m : Nat} {α α' : Nat → Int32} {B B' : Nat → Nat → Int32}
theorem MA.trans (h : MA σ0 σ m α B) (h2 : MA σ σ2 m α' B') : MA σ0 σ2 m α' B' := ⟨h2.1, h2.2.1.trans h.2.1, fun k hk => (h2.2.2 k hk).trans (h.2.2 k hk)⟩
theorem MA.self (h : MA σ0 σ m α B) : MA σ σ m α B := ⟨h.1, rfl, fun _ _ => rfl⟩
theorem MA.put (h : MA σ0 σ m α B) {fs : List Value} (e : fs = mF m α') : MA σ0 (hset σ m (.inr (12, fs))) m α' B := by
  refine ⟨⟨by rw [hset_eq, e], fun j h1 h2 => ?_⟩, h.2.1, fun k hk => ?_⟩
  · rw [hset_ne (by omega)]; exact h.1.2 j h1 h2
  · rw [hset_ne (by omega)]; exact h.2.2 k hk
theorem MA.ast (h : MA σ0 σ m α B) {j : Nat} (h1 : 1 ≤ j) (h2 : j ≤ 19) {f : Nat → Int32} : MA σ0 (hset σ (m + j) (.inl (mT j, mLen j, .inl f))) m α (va_up B j f) := by
  refine ⟨⟨by rw [hset_ne (by omega)]; exact h.1.1, fun i g1 g2 => ?_⟩, h.2.1, fun k hk => ?_⟩
  · by_cases hij : i = j
    · subst hij; rw [hset_eq]; simp [va_up]
    · rw [hset_ne (by omega), h.1.2 i g1 g2]; simp [va_up, hij]
  · rw [hset_ne (by omega)]; exact h.2.2 k hk
theorem MA.a1 (h : MA σ0 σ m α B) : σ.2 (m + 1) = .inl (0, 9, .inl (B 1)) := h.1.2 1 (by decide) (by decide)
theorem MA.a2 (h : MA σ0 σ m α B) : σ.2 (m + 2) = .inl (0, 600, .inl (B 2)) := h.1.2 2 (by decide) (by decide)
theorem MA.a3 (h : MA σ0 σ m α B) : σ.2 (m + 3) = .inl (0, 9, .inl (B 3)) := h.1.2 3 (by decide) (by decide)
theorem MA.a4 (h : MA σ0 σ m α B) : σ.2 (m + 4) = .inl (0, 9, .inl (B 4)) := h.1.2 4 (by decide) (by decide)
theorem MA.a5 (h : MA σ0 σ m α B) : σ.2 (m + 5) = .inl (0, 9, .inl (B 5)) := h.1.2 5 (by decide) (by decide)
theorem MA.a6 (h : MA σ0 σ m α B) : σ.2 (m + 6) = .inl (0, 9, .inl (B 6)) := h.1.2 6 (by decide) (by decide)
theorem MA.a7 (h : MA σ0 σ m α B) : σ.2 (m + 7) = .inl (0, 495, .inl (B 7)) := h.1.2 7 (by decide) (by decide)
theorem MA.a8 (h : MA σ0 σ m α B) : σ.2 (m + 8) = .inl (0, 18, .inl (B 8)) := h.1.2 8 (by decide) (by decide)
theorem MA.a9 (h : MA σ0 σ m α B) : σ.2 (m + 9) = .inl (1, 27225, .inl (B 9)) := h.1.2 9 (by decide) (by decide)
theorem MA.a10 (h : MA σ0 σ m α B) : σ.2 (m + 10) = .inl (0, 1485, .inl (B 10)) := h.1.2 10 (by decide) (by decide)
theorem MA.a11 (h : MA σ0 σ m α B) : σ.2 (m + 11) = .inl (0, 1485, .inl (B 11)) := h.1.2 11 (by decide) (by decide)
theorem MA.a12 (h : MA σ0 σ m α B) : σ.2 (m + 12) = .inl (0, 165, .inl (B 12)) := h.1.2 12 (by decide) (by decide)
theorem MA.a13 (h : MA σ0 σ m α B) : σ.2 (m + 13) = .inl (0, 9, .inl (B 13)) := h.1.2 13 (by decide) (by decide)
theorem MA.a14 (h : MA σ0 σ m α B) : σ.2 (m + 14) = .inl (0, 9, .inl (B 14)) := h.1.2 14 (by decide) (by decide)
theorem MA.a15 (h : MA σ0 σ m α B) : σ.2 (m + 15) = .inl (1, 81, .inl (B 15)) := h.1.2 15 (by decide) (by decide)
theorem MA.a16 (h : MA σ0 σ m α B) : σ.2 (m + 16) = .inl (0, 23040, .inl (B 16)) := h.1.2 16 (by decide) (by decide)
theorem MA.a17 (h : MA σ0 σ m α B) : σ.2 (m + 17) = .inl (0, 61, .inl (B 17)) := h.1.2 17 (by decide) (by decide)
theorem MA.a18 (h : MA σ0 σ m α B) : σ.2 (m + 18) = .inl (0, 240, .inl (B 18)) := h.1.2 18 (by decide) (by decide)
theorem MA.a19 (h : MA σ0 σ m α B) : σ.2 (m + 19) = .inl (0, 9, .inl (B 19)) := h.1.2 19 (by decide) (by decide)
theorem mLen_lt (j : Nat) : mLen j < 2 ^ 31 := by unfold mLen; split <;> decide
variable {G : Gx} {M : Md} {d pc : Nat} {L st : List Value} {mc ms : Nat} {Q : Option Value → Hp → Prop}
theorem wp_putM {i j : Nat} {x : Int32} (F : FL M.1.cls i 12 j .int false) (hd : decode M.2.1 pc = .ok (.putfield i, 3)) (hM : MA σ0 σ m α B) (he : (mF m α).set j (.int x) = mF m (upd α j x)) (kk : ∀ σ', MA σ0 σ' m (upd α j x) B → Wp G M d (pc + 3) L st σ' mc ms Q) : Wp G M d pc L (.int x :: .ref m :: st) σ mc ms Q :=
  wp_put F hd hM.1.1 rfl (by obtain ⟨_, _, _, _, K, hj, -⟩ := F; cases K.1; exact hj) (kk _ (hM.put he))
theorem wp_putMz {i j : Nat} {x : Int32} (F : FL M.1.cls i 12 j .boolean false) (hd : decode M.2.1 pc = .ok (.putfield i, 3)) (hM : MA σ0 σ m α B) (he : (mF m α).set j (.int x) = mF m (upd α j x)) (hx : okV .boolean (.int x) = true) (kk : ∀ σ', MA σ0 σ' m (upd α j x) B → Wp G M d (pc + 3) L st σ' mc ms Q) : Wp G M d pc L (.int x :: .ref m :: st) σ mc ms Q :=
  wp_put F hd hM.1.1 hx (by obtain ⟨_, _, _, _, K, hj, -⟩ := F; cases K.1; exact hj) (kk _ (hM.put he))
theorem wp_iastM {j q : Nat} {x : Int32} (hd : decode M.2.1 pc = .ok (.iastore, 1)) (hM : MA σ0 σ m α B) (h1 : 1 ≤ j) (h2 : j ≤ 19) (hT : mT j = 0) (hq : q < mLen j) (kk : ∀ σ', MA σ0 σ' m α (va_up B j (upd (B j) q x)) → Wp G M d (pc + 1) L st σ' mc ms Q) : Wp G M d pc L (.int x :: .int (nI q) :: .ref (m + j) :: st) σ mc ms Q :=
  wp_iastN hd (by rw [hM.1.2 j h1 h2, hT]) hq (mLen_lt j) (kk _ (by have := hM.ast h1 h2 (f := upd (B j) q x); rwa [hT] at this))
theorem wp_zastM {j q : Nat} {x : Int32} (hd : decode M.2.1 pc = .ok (.bastore, 1)) (hM : MA σ0 σ m α B) (h1 : 1 ≤ j) (h2 : j ≤ 19) (hT : mT j = 1) (hq : q < mLen j) (kk : ∀ σ', MA σ0 σ' m α (va_up B j (upd (B j) q (vp_nar .boolean x))) → Wp G M d (pc + 1) L st σ' mc ms Q) : Wp G M d pc L (.int x :: .int (nI q) :: .ref (m + j) :: st) σ mc ms Q :=
  wp_zastN hd (by rw [hM.1.2 j h1 h2, hT]) hq (mLen_lt j) (kk _ (by have := hM.ast h1 h2 (f := upd (B j) q (vp_nar .boolean x)); rwa [hT] at this))
end MArows
theorem tb_iff (s j : Nat) : s >>> j &&& 1 = 1 ↔ s.testBit j = true := by
  rw [Nat.and_one_is_mod, Nat.testBit_eq_decide_div_mod_eq, Nat.shiftRight_eq_div_pow, decide_eq_true_iff]
theorem and1_lt (x : Nat) : x &&& 1 < 2 ^ 31 := by have : x &&& 1 ≤ 1 := Nat.and_le_right; omega
theorem eX12_in {G : Gx} {d : Nat} {σ : Hp} (hd : 0 ≤ d) {v lo hi : Int32} : Cl G mX12_in d [.int v, .int lo, .int hi] σ 0 0 (pI fun r s => r = bI (¬ v < lo ∧ ¬ hi < v) ∧ s = σ) := by
  refine cl_of (by decide) (by simp [Value.category]) (Nat.le_of_ble_eq_true rfl) ?_
  show Wp G mX12_in d 0 [.int v, .int lo, .int hi] [] σ 0 0 _
  refine wp_iload_n (atd dX12_in 0 rfl) rfl ?_
  refine wp_iload_n (atd dX12_in 1 rfl) rfl ?_
  refine wp_icmp_lt (tgt := 14) (atd dX12_in 2 rfl) (by decide) (fun c_2 => ?_) (fun c_2 => ?_)
  ·
    refine wp_iconst (v := nI 0) (atd dX12_in 8 rfl) (by decide) ?_
    refine wp_iretz (atd dX12_in 9 rfl) rfl (by first | rfl | decide) ?_
    exact ⟨by simp [bI, *], rfl⟩
  ·
    refine wp_iload_n (atd dX12_in 3 rfl) rfl ?_
    refine wp_iload_n (atd dX12_in 4 rfl) rfl ?_
    refine wp_icmp_gt (tgt := 14) (atd dX12_in 5 rfl) (by decide) (fun c_7 => ?_) (fun c_7 => ?_)
    ·
      refine wp_iconst (v := nI 0) (atd dX12_in 8 rfl) (by decide) ?_
      refine wp_iretz (atd dX12_in 9 rfl) rfl (by first | rfl | decide) ?_
      exact ⟨by simp [bI, *], rfl⟩
    ·
      refine wp_iconst (v := nI 1) (atd dX12_in 6 rfl) (by decide) ?_
      refine wp_goto (tgt := 15) (atd dX12_in 7 rfl) (by decide) ?_
      refine wp_iretz (atd dX12_in 9 rfl) rfl (by first | rfl | decide) ?_
      exact ⟨by simp [bI, *], rfl⟩
theorem eX12_isOf {G : Gx} {d : Nat} {σ : Hp} (hd : 0 ≤ d) {a j : Nat} (ha : a < 2 ^ 31) (hj : j < 32) : Cl G mX12_isOf d [.int (nI a), .int (nI j)] σ 0 0 (pI fun r s => r = bI (a.testBit j = true) ∧ s = σ) := by
  refine cl_of (by decide) (by simp [Value.category]) (Nat.le_of_ble_eq_true rfl) ?_
  show Wp G mX12_isOf d 0 [.int (nI a), .int (nI j)] [] σ 0 0 _
  refine wp_iload_n (atd dX12_isOf 0 rfl) rfl ?_
  refine wp_iload_n (atd dX12_isOf 1 rfl) rfl ?_
  refine wp_ishrN (atd dX12_isOf 2 rfl) (by omega) (by omega) ?_
  refine wp_iconst (v := nI 1) (atd dX12_isOf 3 rfl) (by decide) ?_
  refine wp_iandN (atd dX12_isOf 4 rfl) ?_
  refine wp_iconst (v := nI 1) (atd dX12_isOf 5 rfl) (by decide) ?_
  refine wp_icmpN_ne (tgt := 13) (atd dX12_isOf 6 rfl) (by decide) (and1_lt _) (by omega) (fun c_6 => ?_) (fun c_6 => ?_)
  ·
    refine wp_iconst (v := nI 0) (atd dX12_isOf 9 rfl) (by decide) ?_
    refine wp_iretz (atd dX12_isOf 10 rfl) rfl (by first | rfl | decide) ?_
    exact ⟨by rw [bI_c (tb_iff a j).symm]; simp only [bI, c_6]; rfl, rfl⟩
  ·
    refine wp_iconst (v := nI 1) (atd dX12_isOf 7 rfl) (by decide) ?_
    refine wp_goto (tgt := 14) (atd dX12_isOf 8 rfl) (by decide) ?_
    refine wp_iretz (atd dX12_isOf 10 rfl) rfl (by first | rfl | decide) ?_
    exact ⟨by rw [bI_c (tb_iff a j).symm]; simp only [bI, c_6]; rfl, rfl⟩
theorem eX12_lesser {G : Gx} {d : Nat} {σ : Hp} (hd : 0 ≤ d) {a b : Int32} : Cl G mX12_lesser d [.int a, .int b] σ 0 0 (pI fun r s => r = (if b ≤ a then b else a) ∧ s = σ) := by
  refine cl_of (by decide) (by simp [Value.category]) (Nat.le_of_ble_eq_true rfl) ?_
  show Wp G mX12_lesser d 0 [.int a, .int b] [] σ 0 0 _
  refine wp_iload_n (atd dX12_lesser 0 rfl) rfl ?_
  refine wp_iload_n (atd dX12_lesser 1 rfl) rfl ?_
  refine wp_icmp_ge (tgt := 9) (atd dX12_lesser 2 rfl) (by decide) (fun c_2 => ?_) (fun c_2 => ?_)
  ·
    refine wp_iload_n (atd dX12_lesser 5 rfl) rfl ?_
    refine wp_ireti (atd dX12_lesser 6 rfl) rfl ?_
    exact ⟨by simp [*], rfl⟩
  ·
    refine wp_iload_n (atd dX12_lesser 3 rfl) rfl ?_
    refine wp_goto (tgt := 10) (atd dX12_lesser 4 rfl) (by decide) ?_
    refine wp_ireti (atd dX12_lesser 6 rfl) rfl ?_
    exact ⟨by simp [*], rfl⟩
theorem eX12_greater {G : Gx} {d : Nat} {σ : Hp} (hd : 0 ≤ d) {a b : Int32} : Cl G mX12_greater d [.int a, .int b] σ 0 0 (pI fun r s => r = (if a ≤ b then b else a) ∧ s = σ) := by
  refine cl_of (by decide) (by simp [Value.category]) (Nat.le_of_ble_eq_true rfl) ?_
  show Wp G mX12_greater d 0 [.int a, .int b] [] σ 0 0 _
  refine wp_iload_n (atd dX12_greater 0 rfl) rfl ?_
  refine wp_iload_n (atd dX12_greater 1 rfl) rfl ?_
  refine wp_icmp_le (tgt := 9) (atd dX12_greater 2 rfl) (by decide) (fun c_2 => ?_) (fun c_2 => ?_)
  ·
    refine wp_iload_n (atd dX12_greater 5 rfl) rfl ?_
    refine wp_ireti (atd dX12_greater 6 rfl) rfl ?_
    exact ⟨by simp [*], rfl⟩
  ·
    refine wp_iload_n (atd dX12_greater 3 rfl) rfl ?_
    refine wp_goto (tgt := 10) (atd dX12_greater 4 rfl) (by decide) ?_
    refine wp_ireti (atd dX12_greater 6 rfl) rfl ?_
    exact ⟨by simp [*], rfl⟩
/-- how many of the places 0 .. 8 a set has -/
def cnt (s : Nat) : Nat := fl (fun k n => n + (s >>> k &&& 1)) 9 0 0
theorem lX12_many {G : Gx} {d : Nat} {σ : Hp} {s : Nat} (hs : s < 2 ^ 31) : ∀ (n : Nat) (i acc : Nat), i + n = 9 → Wp G mX12_many d 4 [.int (nI s), .int (nI acc), .int (nI i)] [] σ 0 0 (pI fun r s' => r = nI (fl (fun k n => n + (s >>> k &&& 1)) n i acc) ∧ s' = σ) := by
  intro n
  induction n with
  | zero =>
    intro i acc h
    refine wp_iload_n (atd dX12_many 4 rfl) rfl ?_
    refine wp_bipush (v := nI 9) (atd dX12_many 5 rfl) (by decide) ?_
    refine wp_icmpN_ge (tgt := 24) (atd dX12_many 6 rfl) (by decide) (by omega) (by omega) (fun c_7 => ?_) (fun c_7 => ?_)
    ·
      refine wp_iload_n (atd dX12_many 17 rfl) rfl ?_
      refine wp_ireti (atd dX12_many 18 rfl) rfl ?_
      exact ⟨rfl, rfl⟩
    · exfalso; omega
  | succ n ih =>
    intro i acc h
    refine wp_iload_n (atd dX12_many 4 rfl) rfl ?_
    refine wp_bipush (v := nI 9) (atd dX12_many 5 rfl) (by decide) ?_
    refine wp_icmpN_ge (tgt := 24) (atd dX12_many 6 rfl) (by decide) (by omega) (by omega) (fun c_7 => ?_) (fun c_7 => ?_)
    · exfalso; omega
    ·
      refine wp_iload_n (atd dX12_many 7 rfl) rfl ?_
      refine wp_iload_n (atd dX12_many 8 rfl) rfl ?_
      refine wp_iload_n (atd dX12_many 9 rfl) rfl ?_
      refine wp_ishrN (atd dX12_many 10 rfl) hs (by omega) ?_
      refine wp_iconst (v := nI 1) (atd dX12_many 11 rfl) (by decide) ?_
      refine wp_iandN (atd dX12_many 12 rfl) ?_
      refine wp_iaddN (atd dX12_many 13 rfl) ?_
      refine wp_istore_n (atd dX12_many 14 rfl) (Nat.le_of_ble_eq_true rfl) ?_
      refine wp_iincN (c := 1) (atd dX12_many 15 rfl) rfl ?_
      refine wp_goto (tgt := 4) (atd dX12_many 16 rfl) (by decide) ?_
      exact ih (i + 1) _ (by omega)
theorem eX12_many {G : Gx} {d : Nat} {σ : Hp} (hd : 0 ≤ d) {s : Nat} (hs : s < 2 ^ 31) : Cl G mX12_many d [.int (nI s)] σ 0 0 (pI fun r s' => r = nI (cnt s) ∧ s' = σ) := by
  refine cl_of (by decide) (by simp [Value.category]) (Nat.le_of_ble_eq_true rfl) ?_
  show Wp G mX12_many d 0 [.int (nI s), .double 0, .double 0] [] σ 0 0 _
  refine wp_iconst (v := nI 0) (atd dX12_many 0 rfl) (by decide) ?_
  refine wp_istore_n (atd dX12_many 1 rfl) (Nat.le_of_ble_eq_true rfl) ?_
  refine wp_iconst (v := nI 0) (atd dX12_many 2 rfl) (by decide) ?_
  refine wp_istore_n (atd dX12_many 3 rfl) (Nat.le_of_ble_eq_true rfl) ?_
  exact lX12_many hs 9 0 0 rfl
