theorem cnt_le (s : Nat) : cnt s ≤ 9 := by
  have h : ∀ (k i a : Nat), fl (fun k n => n + (s >>> k &&& 1)) k i a ≤ a + k := by
    intro k
    induction k with
    | zero => intro i a; exact Nat.le_refl _
    | succ k ih =>
      intro i a
      have h1 := ih (i + 1) (a + (s >>> i &&& 1))
      have h2 : s >>> i &&& 1 ≤ 1 := Nat.and_le_right
      show fl _ k (i + 1) (a + (s >>> i &&& 1)) ≤ _
      omega
  have := h 9 0 0
  show fl _ 9 0 0 ≤ 9
  omega
theorem has_t {p : Int32} {n : Nat} (hn : n ≤ 9) (h1 : ¬ p < 0) (h2 : ¬ nI n ≤ p) : isP p n := by
  obtain ⟨j, hj, rfl⟩ := nI_of h1
  rw [isP_nI hj]
  by_cases h : j < n
  · exact h
  · exact absurd ((nI_leI (by omega) hj).mpr (by omega)) h2
theorem has_f {p : Int32} {n : Nat} (h1 : p < 0) : ¬ isP p n := fun h => by
  rw [Int32.lt_iff_toInt_lt] at h1
  have := h.1
  simp at h1; omega
theorem has_g {p : Int32} {n m : Nat} (hn : n ≤ m) (hm : m < 2 ^ 31) (h1 : nI m ≤ p) : ¬ isP p n := fun h => by
  obtain ⟨j, hj, rfl⟩ := isP_ofB h
  have := (nI_leI hm (by omega)).mp h1
  omega
theorem eX3_has {G : Gx} {d : Nat} {σ : Hp} (hd : 0 ≤ d) {k n : Nat} (hO : OB σ k 3 [.int (nI n), .ref (k + 1)]) (hn : n ≤ 9) {p : Int32} : Cl G mX3_has d [.ref k, .int p] σ 0 0 (pI fun r s => r = bI (isP p n) ∧ s = σ) := by
  refine cl_of (by decide) (by simp [Value.category]) (Nat.le_of_ble_eq_true rfl) ?_
  show Wp G mX3_has d 0 [.ref k, .int p] [] σ 0 0 _
  refine wp_iload_n (atd dX3_has 0 rfl) rfl ?_
  refine wp_if_lt (tgt := 22) (atd dX3_has 1 rfl) (by decide) (fun c_1 => ?_) (fun c_1 => ?_)
  ·
    refine wp_iconst (v := nI 0) (atd dX3_has 11 rfl) (by decide) ?_
    refine wp_iretz (atd dX3_has 12 rfl) rfl (by first | rfl | decide) ?_
    exact ⟨(bI_f (has_f c_1)).symm, rfl⟩
  ·
    refine wp_iload_n (atd dX3_has 2 rfl) rfl ?_
    refine wp_aload_n (atd dX3_has 3 rfl) rfl rfl ?_
    refine wp_get fX3_15 (atd dX3_has 4 rfl) hO rfl ?_
    refine wp_icmp_ge (tgt := 22) (atd dX3_has 5 rfl) (by decide) (fun c_9 => ?_) (fun c_9 => ?_)
    ·
      refine wp_iconst (v := nI 0) (atd dX3_has 11 rfl) (by decide) ?_
      refine wp_iretz (atd dX3_has 12 rfl) rfl (by first | rfl | decide) ?_
      exact ⟨(bI_f (has_g (Nat.le_refl n) (by omega) c_9)).symm, rfl⟩
    ·
      refine wp_iload_n (atd dX3_has 6 rfl) rfl ?_
      refine wp_bipush (v := nI 9) (atd dX3_has 7 rfl) (by decide) ?_
      refine wp_icmp_ge (tgt := 22) (atd dX3_has 8 rfl) (by decide) (fun c_15 => ?_) (fun c_15 => ?_)
      ·
        refine wp_iconst (v := nI 0) (atd dX3_has 11 rfl) (by decide) ?_
        refine wp_iretz (atd dX3_has 12 rfl) rfl (by first | rfl | decide) ?_
        exact ⟨(bI_f (has_g hn (by decide) c_15)).symm, rfl⟩
      ·
        refine wp_iconst (v := nI 1) (atd dX3_has 9 rfl) (by decide) ?_
        refine wp_goto (tgt := 23) (atd dX3_has 10 rfl) (by decide) ?_
        refine wp_iretz (atd dX3_has 12 rfl) rfl (by first | rfl | decide) ?_
        exact ⟨(bI_t (has_t hn c_1 c_9)).symm, rfl⟩
theorem eX3_all {G : Gx} {d : Nat} {σ : Hp} (hd : 0 ≤ d) {k n : Nat} (hO : OB σ k 3 [.int (nI n), .ref (k + 1)]) (hn : n ≤ 9) : Cl G mX3_all d [.ref k] σ 0 0 (pI fun r s => r = nI (2 ^ n - 1) ∧ s = σ) := by
  refine cl_of (by decide) (by simp [Value.category]) (Nat.le_of_ble_eq_true rfl) ?_
  show Wp G mX3_all d 0 [.ref k] [] σ 0 0 _
  refine wp_iconst (v := nI 1) (atd dX3_all 0 rfl) (by decide) ?_
  refine wp_aload_n (atd dX3_all 1 rfl) rfl rfl ?_
  refine wp_get fX3_15 (atd dX3_all 2 rfl) hO rfl ?_
  refine wp_ishl1 (atd dX3_all 3 rfl) (by omega) ?_
  refine wp_iconst (v := nI 1) (atd dX3_all 4 rfl) (by decide) ?_
  refine wp_isubN (atd dX3_all 5 rfl) (pow_pos9 n) ?_
  refine wp_ireti (atd dX3_all 6 rfl) rfl ?_
  exact ⟨rfl, rfl⟩
theorem eX3_around {G : Gx} {d : Nat} {σ : Hp} (hd : 0 ≤ d) {k n : Nat} {nb : Nat → Nat} (hO : OB σ k 3 [.int (nI n), .ref (k + 1)]) (hA : AI σ (k + 1) 9 nb) (hn : n ≤ 9) (hw : ∀ p, nb p < 512) {j : Nat} (hj : j < 9) : Cl G mX3_around d [.ref k, .int (nI j)] σ 0 0 (pI fun r s => r = nI (nb j) ∧ s = σ) := by
  refine cl_of (by decide) (by simp [Value.category]) (Nat.le_of_ble_eq_true rfl) ?_
  show Wp G mX3_around d 0 [.ref k, .int (nI j)] [] σ 0 0 _
  refine wp_iload_n (atd dX3_around 0 rfl) rfl ?_
  refine wp_ifN_lt (tgt := 19) (atd dX3_around 1 rfl) (by decide) (by omega) ?_
  refine wp_iload_n (atd dX3_around 2 rfl) rfl ?_
  refine wp_bipush (v := nI 9) (atd dX3_around 3 rfl) (by decide) ?_
  refine wp_icmpN_ge (tgt := 19) (atd dX3_around 4 rfl) (by decide) (by omega) (by omega) (fun c_7 => ?_) (fun c_7 => ?_)
  · exfalso; omega
  ·
    refine wp_aload_n (atd dX3_around 5 rfl) rfl rfl ?_
    refine wp_get fX3_9 (atd dX3_around 6 rfl) hO rfl ?_
    refine wp_iload_n (atd dX3_around 7 rfl) rfl ?_
    refine wp_ialdA (atd dX3_around 8 rfl) hA (by omega) (Nat.le_of_ble_eq_true rfl) ?_
    refine wp_goto (tgt := 20) (atd dX3_around 9 rfl) (by decide) ?_
    refine wp_ireti (atd dX3_around 11 rfl) rfl ?_
    exact ⟨rfl, rfl⟩
theorem eX3_joined {G : Gx} {d : Nat} {σ : Hp} (hd : 1 ≤ d) {k n : Nat} {nb : Nat → Nat} (hO : OB σ k 3 [.int (nI n), .ref (k + 1)]) (hA : AI σ (k + 1) 9 nb) (hn : n ≤ 9) (hw : ∀ p, nb p < 512) {p q : Nat} (hp : p < 9) (hq : q < 9) : Cl G mX3_joined d [.ref k, .int (nI p), .int (nI q)] σ 0 0 (pI fun r s => r = bI (p ≠ q ∧ q < n ∧ (nb p).testBit q = true) ∧ s = σ) := by
  obtain ⟨d0, hdd⟩ : ∃ e, d = e + 1 := ⟨d - 1, by omega⟩
  refine cl_of (by decide) (by simp [Value.category]) (Nat.le_of_ble_eq_true rfl) ?_
  show Wp G mX3_joined d 0 [.ref k, .int (nI p), .int (nI q)] [] σ 0 0 _
  refine wp_iload_n (atd dX3_joined 0 rfl) rfl ?_
  refine wp_iload_n (atd dX3_joined 1 rfl) rfl ?_
  refine wp_icmpN_eq (tgt := 30) (atd dX3_joined 2 rfl) (by decide) (by omega) (by omega) (fun c_2 => ?_) (fun c_2 => ?_)
  ·
    refine wp_iconst (v := nI 0) (atd dX3_joined 18 rfl) (by decide) ?_
    refine wp_iretz (atd dX3_joined 19 rfl) rfl (by first | rfl | decide) ?_
    exact ⟨(bI_f (fun h => h.1 c_2)).symm, rfl⟩
  ·
    refine wp_aload_n (atd dX3_joined 3 rfl) rfl rfl ?_
    refine wp_iload_n (atd dX3_joined 4 rfl) rfl ?_
    refine wp_cVi hdd [_] (atd dX3_joined 5 rfl) iX3_has lX3_25 rfl rfl (Nat.le_of_ble_eq_true rfl) hO rfl (eX3_has (by omega) hO hn) (fun r_7 s_7 h_7 => ?_)
    obtain ⟨rfl, rfl⟩ := h_7
    refine wp_ifB_eq (tgt := 30) (atd dX3_joined 6 rfl) (by decide) (fun c_10 => ?_) (fun c_10 => ?_)
    ·
      refine wp_iconst (v := nI 0) (atd dX3_joined 18 rfl) (by decide) ?_
      refine wp_iretz (atd dX3_joined 19 rfl) rfl (by first | rfl | decide) ?_
      exact ⟨(bI_f (fun h => c_10 ((isP_nI (by omega)).mpr h.2.1))).symm, rfl⟩
    ·
      refine wp_aload_n (atd dX3_joined 7 rfl) rfl rfl ?_
      refine wp_iload_n (atd dX3_joined 8 rfl) rfl ?_
      refine wp_cVi hdd [_] (atd dX3_joined 9 rfl) iX3_around lX3_29 rfl rfl (Nat.le_of_ble_eq_true rfl) hO rfl (eX3_around (by omega) hO hA hn hw (by omega)) (fun r_15 s_15 h_15 => ?_)
      obtain ⟨rfl, rfl⟩ := h_15
      refine wp_iload_n (atd dX3_joined 10 rfl) rfl ?_
      refine wp_ishrN (atd dX3_joined 11 rfl) (by have := hw p; omega) (by omega) ?_
      refine wp_iconst (v := nI 1) (atd dX3_joined 12 rfl) (by decide) ?_
      refine wp_iandN (atd dX3_joined 13 rfl) ?_
      refine wp_iconst (v := nI 1) (atd dX3_joined 14 rfl) (by decide) ?_
      refine wp_icmpN_ne (tgt := 30) (atd dX3_joined 15 rfl) (by decide) (by have := and1_lt (nb p >>> q); omega) (by omega) (fun c_23 => ?_) (fun c_23 => ?_)
      ·
        refine wp_iconst (v := nI 0) (atd dX3_joined 18 rfl) (by decide) ?_
        refine wp_iretz (atd dX3_joined 19 rfl) rfl (by first | rfl | decide) ?_
        exact ⟨(bI_f (fun h => c_23 ((tb_iff _ _).mpr h.2.2))).symm, rfl⟩
      ·
        refine wp_iconst (v := nI 1) (atd dX3_joined 16 rfl) (by decide) ?_
        refine wp_goto (tgt := 31) (atd dX3_joined 17 rfl) (by decide) ?_
        refine wp_iretz (atd dX3_joined 19 rfl) rfl (by first | rfl | decide) ?_
        exact ⟨(bI_t ⟨c_2, (isP_nI (by omega)).mp c_10, (tb_iff _ _).mp c_23⟩).symm, rfl⟩
/-- a line is put or taken away -/
def flp (nb : Nat → Nat) (n p q : Nat) : Nat → Nat := if p ≠ q ∧ p < n ∧ q < n then nbt nb p q else nb
theorem flp_t {nb : Nat → Nat} {n p q : Nat} (h : p ≠ q) (hp : p < n) (hq : q < n) : flp nb n p q = nbt nb p q := if_pos ⟨h, hp, hq⟩
theorem flp_lt {nb : Nat → Nat} (hw : ∀ p, nb p < 512) {n p q : Nat} (hp : p < 9) (hq : q < 9) : ∀ x, flp nb n p q x < 512 := fun x => by
  unfold flp
  split
  · exact nbt_lt hw hp hq x
  · exact hw x
theorem eX3_flip {G : Gx} {d : Nat} {σ : Hp} (hd : 1 ≤ d) {k n : Nat} {nb : Nat → Nat} (hO : OB σ k 3 [.int (nI n), .ref (k + 1)]) (hA : AI σ (k + 1) 9 nb) (hn : n ≤ 9) (hw : ∀ p, nb p < 512) {p q : Nat} (hp : p < 9) (hq : q < 9) : Cl G mX3_flip d [.ref k, .int (nI p), .int (nI q)] σ 0 0 (pV fun s => fr [k + 1] σ s ∧ AI s (k + 1) 9 (flp nb n p q)) := by
  obtain ⟨d0, hdd⟩ : ∃ e, d = e + 1 := ⟨d - 1, by omega⟩
  refine cl_of (by decide) (by simp [Value.category]) (Nat.le_of_ble_eq_true rfl) ?_
  show Wp G mX3_flip d 0 [.ref k, .int (nI p), .int (nI q)] [] σ 0 0 _
  have hF : fr [k + 1] σ σ := fr.rf
  refine wp_iload_n (atd dX3_flip 0 rfl) rfl ?_
  refine wp_iload_n (atd dX3_flip 1 rfl) rfl ?_
  refine wp_icmpN_eq (tgt := 45) (atd dX3_flip 2 rfl) (by decide) (by omega) (by omega) (fun c_2 => ?_) (fun c_2 => ?_)
  ·
    refine wp_vretv (atd dX3_flip 31 rfl) rfl ?_
    refine ⟨hF, ?_⟩
    rw [flp, if_neg (fun h => h.1 c_2)]
    exact hA
  ·
    refine wp_aload_n (atd dX3_flip 3 rfl) rfl rfl ?_
    refine wp_iload_n (atd dX3_flip 4 rfl) rfl ?_
    refine wp_cVi hdd [_] (atd dX3_flip 5 rfl) iX3_has lX3_25 rfl rfl (Nat.le_of_ble_eq_true rfl) hO rfl (eX3_has (by omega) hO hn) (fun r_7 s_7 h_7 => ?_)
    obtain ⟨rfl, rfl⟩ := h_7
    refine wp_ifB_eq (tgt := 45) (atd dX3_flip 6 rfl) (by decide) (fun c_10 => ?_) (fun c_10 => ?_)
    ·
      refine wp_vretv (atd dX3_flip 31 rfl) rfl ?_
      refine ⟨hF, ?_⟩
      rw [flp, if_neg (fun h => c_10 ((isP_nI (by omega)).mpr h.2.1))]
      exact hA
    ·
      refine wp_aload_n (atd dX3_flip 7 rfl) rfl rfl ?_
      refine wp_iload_n (atd dX3_flip 8 rfl) rfl ?_
      refine wp_cVi hdd [_] (atd dX3_flip 9 rfl) iX3_has lX3_25 rfl rfl (Nat.le_of_ble_eq_true rfl) hO rfl (eX3_has (by omega) hO hn) (fun r_15 s_15 h_15 => ?_)
      obtain ⟨rfl, rfl⟩ := h_15
      refine wp_ifB_eq (tgt := 45) (atd dX3_flip 10 rfl) (by decide) (fun c_18 => ?_) (fun c_18 => ?_)
      ·
        refine wp_vretv (atd dX3_flip 31 rfl) rfl ?_
        refine ⟨hF, ?_⟩
        rw [flp, if_neg (fun h => c_18 ((isP_nI (by omega)).mpr h.2.2))]
        exact hA
      ·
        refine wp_aload_n (atd dX3_flip 11 rfl) rfl rfl ?_
        refine wp_get fX3_9 (atd dX3_flip 12 rfl) hO rfl ?_
        refine wp_iload_n (atd dX3_flip 13 rfl) rfl ?_
        refine wp_dup2 (atd dX3_flip 14 rfl) rfl rfl ?_
        refine wp_ialdA (atd dX3_flip 15 rfl) hA (by omega) (Nat.le_of_ble_eq_true rfl) ?_
        refine wp_iconst (v := nI 1) (atd dX3_flip 16 rfl) (by decide) ?_
        refine wp_iload_n (atd dX3_flip 17 rfl) rfl ?_
        refine wp_ishl1 (atd dX3_flip 18 rfl) (by omega) ?_
        refine wp_ixorN (atd dX3_flip 19 rfl) ?_
        refine wp_iastA (atd dX3_flip 20 rfl) hA (by omega) (Nat.le_of_ble_eq_true rfl) (fun σ f_32 hA => ?_)
        have hO := hO.fr f_32 (by first | decide | (simp only [List.mem_cons, List.not_mem_nil, or_false]; omega))
        have hF := hF.tr f_32 (by simp)
        refine wp_aload_n (atd dX3_flip 21 rfl) rfl rfl ?_
        refine wp_get fX3_9 (atd dX3_flip 22 rfl) hO rfl ?_
        refine wp_iload_n (atd dX3_flip 23 rfl) rfl ?_
        refine wp_dup2 (atd dX3_flip 24 rfl) rfl rfl ?_
        refine wp_ialdA (atd dX3_flip 25 rfl) hA (by omega) (Nat.le_of_ble_eq_true rfl) ?_
        refine wp_iconst (v := nI 1) (atd dX3_flip 26 rfl) (by decide) ?_
        refine wp_iload_n (atd dX3_flip 27 rfl) rfl ?_
        refine wp_ishl1 (atd dX3_flip 28 rfl) (by omega) ?_
        refine wp_ixorN (atd dX3_flip 29 rfl) ?_
        refine wp_iastA (atd dX3_flip 30 rfl) hA (by omega) (Nat.le_of_ble_eq_true rfl) (fun σ f_44 hA => ?_)
        have hO := hO.fr f_44 (by first | decide | (simp only [List.mem_cons, List.not_mem_nil, or_false]; omega))
        have hF := hF.tr f_44 (by simp)
        refine wp_vretv (atd dX3_flip 31 rfl) rfl ?_
        refine ⟨hF, ?_⟩
        rw [flp_t c_2 ((isP_nI (by omega)).mp c_10) ((isP_nI (by omega)).mp c_18)]
        exact hA.cg (fun i hi => by rw [nbt, show va_up nb p (nb p ^^^ 2 ^ q) q = nb q from if_neg (fun e => c_2 e.symm)])
theorem eX3_linesAt {G : Gx} {d : Nat} {σ : Hp} (hd : 1 ≤ d) {k n : Nat} {nb : Nat → Nat} (hO : OB σ k 3 [.int (nI n), .ref (k + 1)]) (hA : AI σ (k + 1) 9 nb) (hn : n ≤ 9) (hw : ∀ p, nb p < 512) {j : Nat} (hj : j < 9) : Cl G mX3_linesAt d [.ref k, .int (nI j)] σ 0 0 (pI fun r s => r = nI (cnt (nb j) - 1) ∧ s = σ) := by
  obtain ⟨d0, hdd⟩ : ∃ e, d = e + 1 := ⟨d - 1, by omega⟩
  refine cl_of (by decide) (by simp [Value.category]) (Nat.le_of_ble_eq_true rfl) ?_
  show Wp G mX3_linesAt d 0 [.ref k, .int (nI j)] [] σ 0 0 _
  refine wp_iconst (v := nI 0) (atd dX3_linesAt 0 rfl) (by decide) ?_
  refine wp_aload_n (atd dX3_linesAt 1 rfl) rfl rfl ?_
  refine wp_iload_n (atd dX3_linesAt 2 rfl) rfl ?_
  refine wp_cVi hdd [_] (atd dX3_linesAt 3 rfl) iX3_around lX3_29 rfl rfl (Nat.le_of_ble_eq_true rfl) hO rfl (eX3_around (by omega) hO hA hn hw (by omega)) (fun r_3 s_3 h_3 => ?_)
  obtain ⟨rfl, rfl⟩ := h_3
  refine wp_cSi hdd [_] (atd dX3_linesAt 4 rfl) iJ6_bitCount_0f7a4 lX3_33 rfl rfl (Nat.le_of_ble_eq_true rfl) (eJ6_bitCount (by omega) (hw _)) (fun r_6 s_6 h_6 => ?_)
  obtain ⟨rfl, rfl⟩ := h_6
  rcases Nat.eq_zero_or_pos (cnt (nb j)) with hz | hz
  ·
    rw [hz]
    refine wp_iconst (v := nI 1) (atd dX3_linesAt 5 rfl) (by decide) ?_
    refine wp_isub (atd dX3_linesAt 6 rfl) ?_
    refine wp_max (atd dX3_linesAt 7 rfl) lX3_38 (by omega) (Nat.le_of_ble_eq_true rfl) ?_
    refine wp_ireti (atd dX3_linesAt 8 rfl) rfl ?_
    exact ⟨by decide, rfl⟩
  ·
    refine wp_iconst (v := nI 1) (atd dX3_linesAt 5 rfl) (by decide) ?_
    refine wp_isubN (atd dX3_linesAt 6 rfl) (by omega) ?_
    refine wp_maxN hdd (atd dX3_linesAt 7 rfl) lX3_38 (by decide) (by have := cnt_le (nb j); omega) (Nat.le_of_ble_eq_true rfl) ?_
    refine wp_ireti (atd dX3_linesAt 8 rfl) rfl ?_
    exact ⟨by congr 1; split <;> omega, rfl⟩
theorem lX3_widen {G : Gx} {d : Nat} {σ : Hp} {k n : Nat} {nb : Nat → Nat} (hO : OB σ k 3 [.int (nI n), .ref (k + 1)]) (hA : AI σ (k + 1) 9 nb) (hn : n ≤ 9) (hw : ∀ p, nb p < 512) {s v : Nat} (hs : s < 2 ^ 31) : ∀ (t : Nat) (i w : Nat), i + t = 9 → fl (nallG nb s) t i w = v → Wp G mX3_widen d 4 [.ref k, .int (nI s), .int (nI w), .int (nI i)] [] σ 0 0 (pI fun r s' => r = nI v ∧ s' = σ) := by
  intro t
  induction t with
  | zero =>
    intro i w h hv
    refine wp_iload_n (atd dX3_widen 4 rfl) rfl ?_
    refine wp_bipush (v := nI 9) (atd dX3_widen 5 rfl) (by decide) ?_
    refine wp_icmpN_ge (tgt := 34) (atd dX3_widen 6 rfl) (by decide) (by omega) (by omega) (fun c_7 => ?_) (fun c_7 => ?_)
    ·
      refine wp_iload_n (atd dX3_widen 23 rfl) rfl ?_
      refine wp_ireti (atd dX3_widen 24 rfl) rfl ?_
      exact ⟨by rw [← hv]; rfl, rfl⟩
    · exfalso; omega
  | succ t ih =>
    intro i w h hv
    refine wp_iload_n (atd dX3_widen 4 rfl) rfl ?_
    refine wp_bipush (v := nI 9) (atd dX3_widen 5 rfl) (by decide) ?_
    refine wp_icmpN_ge (tgt := 34) (atd dX3_widen 6 rfl) (by decide) (by omega) (by omega) (fun c_7 => ?_) (fun c_7 => ?_)
    · exfalso; omega
    ·
      refine wp_iload_n (atd dX3_widen 7 rfl) rfl ?_
      refine wp_iload_n (atd dX3_widen 8 rfl) rfl ?_
      refine wp_ishrN (atd dX3_widen 9 rfl) hs (by omega) ?_
      refine wp_iconst (v := nI 1) (atd dX3_widen 10 rfl) (by decide) ?_
      refine wp_iandN (atd dX3_widen 11 rfl) ?_
      refine wp_iconst (v := nI 1) (atd dX3_widen 12 rfl) (by decide) ?_
      refine wp_icmpN_ne (tgt := 28) (atd dX3_widen 13 rfl) (by decide) (by have := and1_lt (s >>> i); omega) (by omega) (fun c_16 => ?_) (fun c_16 => ?_)
      ·
        refine wp_iincN (c := 1) (atd dX3_widen 21 rfl) rfl ?_
        refine wp_goto (tgt := 4) (atd dX3_widen 22 rfl) (by decide) ?_
        exact ih (i + 1) _ (by omega) (by rw [← hv]; show _ = fl _ _ _ (nallG nb s i w); rw [nallG, if_neg (fun h => c_16 ((tb_iff _ _).mpr h))])
      ·
        refine wp_iload_n (atd dX3_widen 14 rfl) rfl ?_
        refine wp_aload_n (atd dX3_widen 15 rfl) rfl rfl ?_
        refine wp_get fX3_9 (atd dX3_widen 16 rfl) hO rfl ?_
        refine wp_iload_n (atd dX3_widen 17 rfl) rfl ?_
        refine wp_ialdA (atd dX3_widen 18 rfl) hA (by omega) (Nat.le_of_ble_eq_true rfl) ?_
        refine wp_iorN (atd dX3_widen 19 rfl) ?_
        refine wp_istore_n (atd dX3_widen 20 rfl) (Nat.le_of_ble_eq_true rfl) ?_
        refine wp_iincN (c := 1) (atd dX3_widen 21 rfl) rfl ?_
        refine wp_goto (tgt := 4) (atd dX3_widen 22 rfl) (by decide) ?_
        exact ih (i + 1) _ (by omega) (by rw [← hv]; show _ = fl _ _ _ (nallG nb s i w); rw [nallG, if_pos ((tb_iff _ _).mp c_16)])
theorem eX3_widen {G : Gx} {d : Nat} {σ : Hp} (hd : 0 ≤ d) {k n : Nat} {nb : Nat → Nat} (hO : OB σ k 3 [.int (nI n), .ref (k + 1)]) (hA : AI σ (k + 1) 9 nb) (hn : n ≤ 9) (hw : ∀ p, nb p < 512) {s : Nat} (hs : s < 2 ^ 31) : Cl G mX3_widen d [.ref k, .int (nI s)] σ 0 0 (pI fun r s' => r = nI (nall nb 9 s) ∧ s' = σ) := by
  refine cl_of (by decide) (by simp [Value.category]) (Nat.le_of_ble_eq_true rfl) ?_
  show Wp G mX3_widen d 0 [.ref k, .int (nI s), .double 0, .double 0] [] σ 0 0 _
  refine wp_iconst (v := nI 0) (atd dX3_widen 0 rfl) (by decide) ?_
  refine wp_istore_n (atd dX3_widen 1 rfl) (Nat.le_of_ble_eq_true rfl) ?_
  refine wp_iconst (v := nI 0) (atd dX3_widen 2 rfl) (by decide) ?_
  refine wp_istore_n (atd dX3_widen 3 rfl) (Nat.le_of_ble_eq_true rfl) ?_
  exact lX3_widen hO hA hn hw hs 9 0 0 (by omega) rfl
theorem lX3_lines {G : Gx} {d : Nat} {σ : Hp} (hd : 2 ≤ d) {k n : Nat} {nb : Nat → Nat} (hO : OB σ k 3 [.int (nI n), .ref (k + 1)]) (hA : AI σ (k + 1) 9 nb) (hn : n ≤ 9) (hw : ∀ p, nb p < 512) {v : Nat} : ∀ (t : Nat) (i w : Nat), i + t = n → fl (linG nb) t i w = v → w ≤ 9 * i → Wp G mX3_lines d 4 [.ref k, .int (nI w), .int (nI i)] [] σ 0 0 (pI fun r s' => r = nI (v / 2) ∧ s' = σ) := by
  obtain ⟨d0, hdd⟩ : ∃ e, d = e + 1 := ⟨d - 1, by omega⟩
  intro t
  induction t with
  | zero =>
    intro i w h hv hb
    refine wp_iload_n (atd dX3_lines 4 rfl) rfl ?_
    refine wp_aload_n (atd dX3_lines 5 rfl) rfl rfl ?_
    refine wp_get fX3_15 (atd dX3_lines 6 rfl) hO rfl ?_
    refine wp_icmpN_ge (tgt := 26) (atd dX3_lines 7 rfl) (by decide) (by omega) (by omega) (fun c_9 => ?_) (fun c_9 => ?_)
    ·
      refine wp_iload_n (atd dX3_lines 16 rfl) rfl ?_
      refine wp_iconst (v := nI 2) (atd dX3_lines 17 rfl) (by decide) ?_
      refine wp_idivN (atd dX3_lines 18 rfl) (by omega) (by omega) (by omega) ?_
      refine wp_ireti (atd dX3_lines 19 rfl) rfl ?_
      exact ⟨by rw [← hv]; rfl, rfl⟩
    · exfalso; omega
  | succ t ih =>
    intro i w h hv hb
    refine wp_iload_n (atd dX3_lines 4 rfl) rfl ?_
    refine wp_aload_n (atd dX3_lines 5 rfl) rfl rfl ?_
    refine wp_get fX3_15 (atd dX3_lines 6 rfl) hO rfl ?_
    refine wp_icmpN_ge (tgt := 26) (atd dX3_lines 7 rfl) (by decide) (by omega) (by omega) (fun c_9 => ?_) (fun c_9 => ?_)
    · exfalso; omega
    ·
      refine wp_iload_n (atd dX3_lines 8 rfl) rfl ?_
      refine wp_aload_n (atd dX3_lines 9 rfl) rfl rfl ?_
      refine wp_iload_n (atd dX3_lines 10 rfl) rfl ?_
      refine wp_cVi hdd [_] (atd dX3_lines 11 rfl) iX3_linesAt lX3_44 rfl rfl (Nat.le_of_ble_eq_true rfl) hO rfl (eX3_linesAt (by omega) hO hA hn hw (by omega)) (fun r_15 s_15 h_15 => ?_)
      obtain ⟨rfl, rfl⟩ := h_15
      refine wp_iaddN (atd dX3_lines 12 rfl) ?_
      refine wp_istore_n (atd dX3_lines 13 rfl) (Nat.le_of_ble_eq_true rfl) ?_
      refine wp_iincN (c := 1) (atd dX3_lines 14 rfl) rfl ?_
      refine wp_goto (tgt := 4) (atd dX3_lines 15 rfl) (by decide) ?_
      exact ih (i + 1) _ (by omega) (by rw [← hv]; rfl) (by have := cnt_le (nb i); omega)
theorem eX3_lines {G : Gx} {d : Nat} {σ : Hp} (hd : 2 ≤ d) {k n : Nat} {nb : Nat → Nat} (hO : OB σ k 3 [.int (nI n), .ref (k + 1)]) (hA : AI σ (k + 1) 9 nb) (hn : n ≤ 9) (hw : ∀ p, nb p < 512) : Cl G mX3_lines d [.ref k] σ 0 0 (pI fun r s' => r = nI (fl (linG nb) n 0 0 / 2) ∧ s' = σ) := by
  obtain ⟨d0, hdd⟩ : ∃ e, d = e + 1 := ⟨d - 1, by omega⟩
  refine cl_of (by decide) (by simp [Value.category]) (Nat.le_of_ble_eq_true rfl) ?_
  show Wp G mX3_lines d 0 [.ref k, .double 0, .double 0] [] σ 0 0 _
  refine wp_iconst (v := nI 0) (atd dX3_lines 0 rfl) (by decide) ?_
  refine wp_istore_n (atd dX3_lines 1 rfl) (Nat.le_of_ble_eq_true rfl) ?_
  refine wp_iconst (v := nI 0) (atd dX3_lines 2 rfl) (by decide) ?_
  refine wp_istore_n (atd dX3_lines 3 rfl) (Nat.le_of_ble_eq_true rfl) ?_
  exact lX3_lines (by omega) hO hA hn hw n 0 0 (by omega) rfl (by omega)
theorem lX3_fewestLines {G : Gx} {d : Nat} {σ : Hp} (hd : 2 ≤ d) {k n : Nat} {nb : Nat → Nat} (hO : OB σ k 3 [.int (nI n), .ref (k + 1)]) (hA : AI σ (k + 1) 9 nb) (hn : n ≤ 9) (hw : ∀ p, nb p < 512) {v : Nat} : ∀ (t : Nat) (i w : Nat), i + t = n → fl (lowG nb) t i w = v → w ≤ 9 → Wp G mX3_fewestLines d 5 [.ref k, .int (nI w), .int (nI i)] [] σ 0 0 (pI fun r s' => r = nI v ∧ s' = σ) := by
  obtain ⟨d0, hdd⟩ : ∃ e, d = e + 1 := ⟨d - 1, by omega⟩
  intro t
  induction t with
  | zero =>
    intro i w h hv hb
    refine wp_iload_n (atd dX3_fewestLines 4 rfl) rfl ?_
    refine wp_aload_n (atd dX3_fewestLines 5 rfl) rfl rfl ?_
    refine wp_get fX3_15 (atd dX3_fewestLines 6 rfl) hO rfl ?_
    refine wp_icmpN_ge (tgt := 29) (atd dX3_fewestLines 7 rfl) (by decide) (by omega) (by omega) (fun c_10 => ?_) (fun c_10 => ?_)
    ·
      refine wp_iload_n (atd dX3_fewestLines 16 rfl) rfl ?_
      refine wp_ireti (atd dX3_fewestLines 17 rfl) rfl ?_
      exact ⟨by rw [← hv]; rfl, rfl⟩
    · exfalso; omega
  | succ t ih =>
    intro i w h hv hb
    refine wp_iload_n (atd dX3_fewestLines 4 rfl) rfl ?_
    refine wp_aload_n (atd dX3_fewestLines 5 rfl) rfl rfl ?_
    refine wp_get fX3_15 (atd dX3_fewestLines 6 rfl) hO rfl ?_
    refine wp_icmpN_ge (tgt := 29) (atd dX3_fewestLines 7 rfl) (by decide) (by omega) (by omega) (fun c_10 => ?_) (fun c_10 => ?_)
    · exfalso; omega
    ·
      refine wp_iload_n (atd dX3_fewestLines 8 rfl) rfl ?_
      refine wp_aload_n (atd dX3_fewestLines 9 rfl) rfl rfl ?_
      refine wp_iload_n (atd dX3_fewestLines 10 rfl) rfl ?_
      refine wp_cVi hdd [_] (atd dX3_fewestLines 11 rfl) iX3_linesAt lX3_44 rfl rfl (Nat.le_of_ble_eq_true rfl) hO rfl (eX3_linesAt (by omega) hO hA hn hw (by omega)) (fun r_16 s_16 h_16 => ?_)
      obtain ⟨rfl, rfl⟩ := h_16
      refine wp_minN hdd (atd dX3_fewestLines 12 rfl) lX3_47 (by omega) (by have := cnt_le (nb i); omega) (Nat.le_of_ble_eq_true rfl) ?_
      refine wp_istore_n (atd dX3_fewestLines 13 rfl) (Nat.le_of_ble_eq_true rfl) ?_
      refine wp_iincN (c := 1) (atd dX3_fewestLines 14 rfl) rfl ?_
      refine wp_goto (tgt := 5) (atd dX3_fewestLines 15 rfl) (by decide) ?_
      exact ih (i + 1) _ (by omega) (by rw [← hv]; show _ = fl _ _ _ (lowG nb i w); congr 1; unfold lowG; split <;> split <;> omega) (by split <;> omega)
theorem eX3_fewestLines {G : Gx} {d : Nat} {σ : Hp} (hd : 2 ≤ d) {k n : Nat} {nb : Nat → Nat} (hO : OB σ k 3 [.int (nI n), .ref (k + 1)]) (hA : AI σ (k + 1) 9 nb) (hn : n ≤ 9) (hw : ∀ p, nb p < 512) : Cl G mX3_fewestLines d [.ref k] σ 0 0 (pI fun r s' => r = nI (fl (lowG nb) n 0 9) ∧ s' = σ) := by
  obtain ⟨d0, hdd⟩ : ∃ e, d = e + 1 := ⟨d - 1, by omega⟩
  refine cl_of (by decide) (by simp [Value.category]) (Nat.le_of_ble_eq_true rfl) ?_
  show Wp G mX3_fewestLines d 0 [.ref k, .double 0, .double 0] [] σ 0 0 _
  refine wp_bipush (v := nI 9) (atd dX3_fewestLines 0 rfl) (by decide) ?_
  refine wp_istore_n (atd dX3_fewestLines 1 rfl) (Nat.le_of_ble_eq_true rfl) ?_
  refine wp_iconst (v := nI 0) (atd dX3_fewestLines 2 rfl) (by decide) ?_
  refine wp_istore_n (atd dX3_fewestLines 3 rfl) (Nat.le_of_ble_eq_true rfl) ?_
  exact lX3_fewestLines (by omega) hO hA hn hw n 0 9 (by omega) rfl (by omega)
def itn (f : Nat → Nat) : Nat → Nat → Nat
  | 0, s => s
  | k + 1, s => itn f k (f s)
theorem nall9_lt {nb : Nat → Nat} (hw : ∀ p, nb p < 512) (s : Nat) : nall nb 9 s < 512 := fl_lt9 (nallG_lt hw s) 9 0 0 (by decide)
theorem itn_lt {nb : Nat → Nat} (hw : ∀ p, nb p < 512) : ∀ (k s : Nat), s < 512 → itn (nall nb 9) k s < 512
  | 0, _, h => h
  | k + 1, s, _ => itn_lt hw k _ (nall9_lt hw s)
theorem lX3_partOf {G : Gx} {d : Nat} {σ : Hp} (hd : 1 ≤ d) {k n : Nat} {nb : Nat → Nat} (hO : OB σ k 3 [.int (nI n), .ref (k + 1)]) (hA : AI σ (k + 1) 9 nb) (hn : n ≤ 9) (hw : ∀ p, nb p < 512) {p v : Nat} : ∀ (t : Nat) (i w : Nat), i + t = n → itn (nall nb 9) t w = v → w < 512 → Wp G mX3_partOf d 6 [.ref k, .int (nI p), .int (nI w), .int (nI i)] [] σ 0 0 (pI fun r s' => r = nI v ∧ s' = σ) := by
  obtain ⟨d0, hdd⟩ : ∃ e, d = e + 1 := ⟨d - 1, by omega⟩
  intro t
  induction t with
  | zero =>
    intro i w h hv hb
    refine wp_iload_n (atd dX3_partOf 6 rfl) rfl ?_
    refine wp_aload_n (atd dX3_partOf 7 rfl) rfl rfl ?_
    refine wp_get fX3_15 (atd dX3_partOf 8 rfl) hO rfl ?_
    refine wp_icmpN_ge (tgt := 26) (atd dX3_partOf 9 rfl) (by decide) (by omega) (by omega) (fun c_11 => ?_) (fun c_11 => ?_)
    ·
      refine wp_iload_n (atd dX3_partOf 16 rfl) rfl ?_
      refine wp_ireti (atd dX3_partOf 17 rfl) rfl ?_
      exact ⟨by rw [← hv]; rfl, rfl⟩
    · exfalso; omega
  | succ t ih =>
    intro i w h hv hb
    refine wp_iload_n (atd dX3_partOf 6 rfl) rfl ?_
    refine wp_aload_n (atd dX3_partOf 7 rfl) rfl rfl ?_
    refine wp_get fX3_15 (atd dX3_partOf 8 rfl) hO rfl ?_
    refine wp_icmpN_ge (tgt := 26) (atd dX3_partOf 9 rfl) (by decide) (by omega) (by omega) (fun c_11 => ?_) (fun c_11 => ?_)
    · exfalso; omega
    ·
      refine wp_aload_n (atd dX3_partOf 10 rfl) rfl rfl ?_
      refine wp_iload_n (atd dX3_partOf 11 rfl) rfl ?_
      refine wp_cVi hdd [_] (atd dX3_partOf 12 rfl) iX3_widen lX3_53 rfl rfl (Nat.le_of_ble_eq_true rfl) hO rfl (eX3_widen (by omega) hO hA hn hw (by omega)) (fun r_16 s_16 h_16 => ?_)
      obtain ⟨rfl, rfl⟩ := h_16
      refine wp_istore_n (atd dX3_partOf 13 rfl) (Nat.le_of_ble_eq_true rfl) ?_
      refine wp_iincN (c := 1) (atd dX3_partOf 14 rfl) rfl ?_
      refine wp_goto (tgt := 6) (atd dX3_partOf 15 rfl) (by decide) ?_
      exact ih (i + 1) _ (by omega) (by rw [← hv]; rfl) (nall9_lt hw w)
theorem eX3_partOf {G : Gx} {d : Nat} {σ : Hp} (hd : 1 ≤ d) {k n : Nat} {nb : Nat → Nat} (hO : OB σ k 3 [.int (nI n), .ref (k + 1)]) (hA : AI σ (k + 1) 9 nb) (hn : n ≤ 9) (hw : ∀ p, nb p < 512) {p : Nat} (hp : p < 9) : Cl G mX3_partOf d [.ref k, .int (nI p)] σ 0 0 (pI fun r s' => r = nI (itn (nall nb 9) n (2 ^ p)) ∧ s' = σ) := by
  obtain ⟨d0, hdd⟩ : ∃ e, d = e + 1 := ⟨d - 1, by omega⟩
  refine cl_of (by decide) (by simp [Value.category]) (Nat.le_of_ble_eq_true rfl) ?_
  show Wp G mX3_partOf d 0 [.ref k, .int (nI p), .double 0, .double 0] [] σ 0 0 _
  refine wp_iconst (v := nI 1) (atd dX3_partOf 0 rfl) (by decide) ?_
  refine wp_iload_n (atd dX3_partOf 1 rfl) rfl ?_
  refine wp_ishl1 (atd dX3_partOf 2 rfl) (by omega) ?_
  refine wp_istore_n (atd dX3_partOf 3 rfl) (Nat.le_of_ble_eq_true rfl) ?_
  refine wp_iconst (v := nI 0) (atd dX3_partOf 4 rfl) (by decide) ?_
  refine wp_istore_n (atd dX3_partOf 5 rfl) (Nat.le_of_ble_eq_true rfl) ?_
  exact lX3_partOf (by omega) hO hA hn hw n 0 _ (by omega) rfl (pow_lt9 hp)
def ptG (nb : Nat → Nat) (n p : Nat) (x : Nat × Nat) : Nat × Nat := if x.2.testBit p = true then x else (x.1 + 1, x.2 ||| itn (nall nb 9) n (2 ^ p))
def ptC (nb : Nat → Nat) (n : Nat) : Nat := (fl (ptG nb n) n 0 (0, 0)).1
theorem tb_z (s j : Nat) : s >>> j &&& 1 = 0 ↔ s.testBit j = false := by
  have h1 := tb_iff s j
  have h2 : s >>> j &&& 1 ≤ 1 := Nat.and_le_right
  constructor
  · intro h
    cases e : s.testBit j with
    | false => rfl
    | true => rw [h1.mpr e] at h; cases h
  · intro h
    by_cases e : s >>> j &&& 1 = 1
    · rw [h1.mp e] at h; cases h
    · omega
theorem lX3_parts {G : Gx} {d : Nat} {σ : Hp} (hd : 2 ≤ d) {k n : Nat} {nb : Nat → Nat} (hO : OB σ k 3 [.int (nI n), .ref (k + 1)]) (hA : AI σ (k + 1) 9 nb) (hn : n ≤ 9) (hw : ∀ p, nb p < 512) {v : Nat} : ∀ (t : Nat) (i c w : Nat), i + t = n → (fl (ptG nb n) t i (c, w)).1 = v → w < 512 → Wp G mX3_parts d 6 [.ref k, .int (nI c), .int (nI w), .int (nI i)] [] σ 0 0 (pI fun r s' => r = nI v ∧ s' = σ) := by
  obtain ⟨d0, hdd⟩ : ∃ e, d = e + 1 := ⟨d - 1, by omega⟩
  intro t
  induction t with
  | zero =>
    intro i c w h hv hb
    refine wp_iload_n (atd dX3_parts 6 rfl) rfl ?_
    refine wp_aload_n (atd dX3_parts 7 rfl) rfl rfl ?_
    refine wp_get fX3_15 (atd dX3_parts 8 rfl) hO rfl ?_
    refine wp_icmpN_ge (tgt := 39) (atd dX3_parts 9 rfl) (by decide) (by omega) (by omega) (fun c_11 => ?_) (fun c_11 => ?_)
    ·
      refine wp_iload_n (atd dX3_parts 25 rfl) rfl ?_
      refine wp_ireti (atd dX3_parts 26 rfl) rfl ?_
      exact ⟨by rw [← hv]; rfl, rfl⟩
    · exfalso; omega
  | succ t ih =>
    intro i c w h hv hb
    refine wp_iload_n (atd dX3_parts 6 rfl) rfl ?_
    refine wp_aload_n (atd dX3_parts 7 rfl) rfl rfl ?_
    refine wp_get fX3_15 (atd dX3_parts 8 rfl) hO rfl ?_
    refine wp_icmpN_ge (tgt := 39) (atd dX3_parts 9 rfl) (by decide) (by omega) (by omega) (fun c_11 => ?_) (fun c_11 => ?_)
    · exfalso; omega
    ·
      refine wp_iload_n (atd dX3_parts 10 rfl) rfl ?_
      refine wp_iload_n (atd dX3_parts 11 rfl) rfl ?_
      refine wp_ishrN (atd dX3_parts 12 rfl) (by omega) (by omega) ?_
      refine wp_iconst (v := nI 1) (atd dX3_parts 13 rfl) (by decide) ?_
      refine wp_iandN (atd dX3_parts 14 rfl) ?_
      refine wp_ifN_ne (tgt := 33) (atd dX3_parts 15 rfl) (by decide) (by have := and1_lt (w >>> i); omega) (fun c_19 => ?_) (fun c_19 => ?_)
      ·
        refine wp_iincN (c := 1) (atd dX3_parts 23 rfl) rfl ?_
        refine wp_goto (tgt := 6) (atd dX3_parts 24 rfl) (by decide) ?_
        exact ih (i + 1) _ _ (by omega) (by rw [← hv]; show _ = (fl _ _ _ (ptG nb n i (c, w))).1; rw [ptG, if_pos (by show w.testBit i = true; cases e : w.testBit i with | true => rfl | false => have := (tb_z w i).mpr e; omega)]) hb
      ·
        refine wp_iincN (c := 1) (atd dX3_parts 16 rfl) rfl ?_
        refine wp_iload_n (atd dX3_parts 17 rfl) rfl ?_
        refine wp_aload_n (atd dX3_parts 18 rfl) rfl rfl ?_
        refine wp_iload_n (atd dX3_parts 19 rfl) rfl ?_
        refine wp_cVi hdd [_] (atd dX3_parts 20 rfl) iX3_partOf lX3_50 rfl rfl (Nat.le_of_ble_eq_true rfl) hO rfl (eX3_partOf (by omega) hO hA hn hw (by omega)) (fun r_28 s_28 h_28 => ?_)
        obtain ⟨rfl, rfl⟩ := h_28
        refine wp_iorN (atd dX3_parts 21 rfl) ?_
        refine wp_istore_n (atd dX3_parts 22 rfl) (Nat.le_of_ble_eq_true rfl) ?_
        refine wp_iincN (c := 1) (atd dX3_parts 23 rfl) rfl ?_
        refine wp_goto (tgt := 6) (atd dX3_parts 24 rfl) (by decide) ?_
        exact ih (i + 1) _ _ (by omega) (by rw [← hv]; show _ = (fl _ _ _ (ptG nb n i (c, w))).1; rw [ptG, if_neg (by show ¬ w.testBit i = true; rw [(tb_z w i).mp c_19]; decide)]) (Nat.or_lt_two_pow (n := 9) hb (itn_lt hw n _ (pow_lt9 (by omega))))
theorem eX3_parts {G : Gx} {d : Nat} {σ : Hp} (hd : 2 ≤ d) {k n : Nat} {nb : Nat → Nat} (hO : OB σ k 3 [.int (nI n), .ref (k + 1)]) (hA : AI σ (k + 1) 9 nb) (hn : n ≤ 9) (hw : ∀ p, nb p < 512) : Cl G mX3_parts d [.ref k] σ 0 0 (pI fun r s' => r = nI (ptC nb n) ∧ s' = σ) := by
  obtain ⟨d0, hdd⟩ : ∃ e, d = e + 1 := ⟨d - 1, by omega⟩
  refine cl_of (by decide) (by simp [Value.category]) (Nat.le_of_ble_eq_true rfl) ?_
  show Wp G mX3_parts d 0 [.ref k, .double 0, .double 0, .double 0] [] σ 0 0 _
  refine wp_iconst (v := nI 0) (atd dX3_parts 0 rfl) (by decide) ?_
  refine wp_istore_n (atd dX3_parts 1 rfl) (Nat.le_of_ble_eq_true rfl) ?_
  refine wp_iconst (v := nI 0) (atd dX3_parts 2 rfl) (by decide) ?_
  refine wp_istore_n (atd dX3_parts 3 rfl) (Nat.le_of_ble_eq_true rfl) ?_
  refine wp_iconst (v := nI 0) (atd dX3_parts 4 rfl) (by decide) ?_
  refine wp_istore_n (atd dX3_parts 5 rfl) (Nat.le_of_ble_eq_true rfl) ?_
  exact lX3_parts (by omega) hO hA hn hw n 0 0 0 (by omega) rfl (by decide)
def stpC (nb : Nat → Nat) (to : Nat) : Nat → Nat → Nat → Option Nat
  | 0, _, _ => none
  | k + 1, i, s => if s.testBit to = true then some i else stpC nb to k (i + 1) (nall nb 9 s)
theorem lX3_steps {G : Gx} {d : Nat} {σ : Hp} (hd : 1 ≤ d) {k n : Nat} {nb : Nat → Nat} (hO : OB σ k 3 [.int (nI n), .ref (k + 1)]) (hA : AI σ (k + 1) 9 nb) (hn : n ≤ 9) (hw : ∀ p, nb p < 512) {fr to : Nat} {v : Option Nat} (hto : to < 9) : ∀ (t : Nat) (i w : Nat), i + t = n → stpC nb to t i w = v → w < 512 → Wp G mX3_steps d 7 [.ref k, .int (nI fr), .int (nI to), .int (nI w), .int (nI i)] [] σ 0 0 (pI fun r s' => r = oI v ∧ s' = σ) := by
  obtain ⟨d0, hdd⟩ : ∃ e, d = e + 1 := ⟨d - 1, by omega⟩
  intro t
  induction t with
  | zero =>
    intro i w h hv hb
    refine wp_iload (atd dX3_steps 6 rfl) rfl ?_
    refine wp_aload_n (atd dX3_steps 7 rfl) rfl rfl ?_
    refine wp_get fX3_15 (atd dX3_steps 8 rfl) hO rfl ?_
    refine wp_icmpN_ge (tgt := 40) (atd dX3_steps 9 rfl) (by decide) (by omega) (by omega) (fun c_13 => ?_) (fun c_13 => ?_)
    ·
      refine wp_iconst (v := -1) (atd dX3_steps 25 rfl) (by decide) ?_
      refine wp_ireti (atd dX3_steps 26 rfl) rfl ?_
      exact ⟨by rw [← hv]; rfl, rfl⟩
    · exfalso; omega
  | succ t ih =>
    intro i w h hv hb
    refine wp_iload (atd dX3_steps 6 rfl) rfl ?_
    refine wp_aload_n (atd dX3_steps 7 rfl) rfl rfl ?_
    refine wp_get fX3_15 (atd dX3_steps 8 rfl) hO rfl ?_
    refine wp_icmpN_ge (tgt := 40) (atd dX3_steps 9 rfl) (by decide) (by omega) (by omega) (fun c_13 => ?_) (fun c_13 => ?_)
    · exfalso; omega
    ·
      refine wp_iload_n (atd dX3_steps 10 rfl) rfl ?_
      refine wp_iload_n (atd dX3_steps 11 rfl) rfl ?_
      refine wp_ishrN (atd dX3_steps 12 rfl) (by omega) (by omega) ?_
      refine wp_iconst (v := nI 1) (atd dX3_steps 13 rfl) (by decide) ?_
      refine wp_iandN (atd dX3_steps 14 rfl) ?_
      refine wp_iconst (v := nI 1) (atd dX3_steps 15 rfl) (by decide) ?_
      refine wp_icmpN_ne (tgt := 28) (atd dX3_steps 16 rfl) (by decide) (by have := and1_lt (w >>> to); omega) (by omega) (fun c_22 => ?_) (fun c_22 => ?_)
      ·
        refine wp_aload_n (atd dX3_steps 19 rfl) rfl rfl ?_
        refine wp_iload_n (atd dX3_steps 20 rfl) rfl ?_
        refine wp_cVi hdd [_] (atd dX3_steps 21 rfl) iX3_widen lX3_53 rfl rfl (Nat.le_of_ble_eq_true rfl) hO rfl (eX3_widen (by omega) hO hA hn hw (by omega)) (fun r_30 s_30 h_30 => ?_)
        obtain ⟨rfl, rfl⟩ := h_30
        refine wp_istore_n (atd dX3_steps 22 rfl) (Nat.le_of_ble_eq_true rfl) ?_
        refine wp_iincN (c := 1) (atd dX3_steps 23 rfl) rfl ?_
        refine wp_goto (tgt := 7) (atd dX3_steps 24 rfl) (by decide) ?_
        exact ih (i + 1) _ (by omega) (by rw [← hv, stpC, if_neg (fun h => c_22 ((tb_iff _ _).mpr h))]) (nall9_lt hw w)
      ·
        refine wp_iload (atd dX3_steps 17 rfl) rfl ?_
        refine wp_ireti (atd dX3_steps 18 rfl) rfl ?_
        exact ⟨by rw [← hv, stpC, if_pos ((tb_iff _ _).mp c_22)]; rfl, rfl⟩
theorem eX3_steps {G : Gx} {d : Nat} {σ : Hp} (hd : 1 ≤ d) {k n : Nat} {nb : Nat → Nat} (hO : OB σ k 3 [.int (nI n), .ref (k + 1)]) (hA : AI σ (k + 1) 9 nb) (hn : n ≤ 9) (hw : ∀ p, nb p < 512) {fr to : Nat} (hfr : fr < 9) (hto : to < 9) : Cl G mX3_steps d [.ref k, .int (nI fr), .int (nI to)] σ 0 0 (pI fun r s' => r = oI (stpC nb to n 0 (2 ^ fr)) ∧ s' = σ) := by
  obtain ⟨d0, hdd⟩ : ∃ e, d = e + 1 := ⟨d - 1, by omega⟩
  refine cl_of (by decide) (by simp [Value.category]) (Nat.le_of_ble_eq_true rfl) ?_
  show Wp G mX3_steps d 0 [.ref k, .int (nI fr), .int (nI to), .double 0, .double 0] [] σ 0 0 _
  refine wp_iconst (v := nI 1) (atd dX3_steps 0 rfl) (by decide) ?_
  refine wp_iload_n (atd dX3_steps 1 rfl) rfl ?_
  refine wp_ishl1 (atd dX3_steps 2 rfl) (by omega) ?_
  refine wp_istore_n (atd dX3_steps 3 rfl) (Nat.le_of_ble_eq_true rfl) ?_
  refine wp_iconst (v := nI 0) (atd dX3_steps 4 rfl) (by decide) ?_
  refine wp_istore (atd dX3_steps 5 rfl) (Nat.le_of_ble_eq_true rfl) ?_
  exact lX3_steps (by omega) hO hA hn hw hto n 0 _ (by omega) rfl (pow_lt9 hfr)
theorem cnt_sub : ∀ a, a ≤ 9 → ∀ b, b ≤ 9 → ((nI a - nI b < 0) ↔ a < b) ∧ ((nI a - nI b = 0) ↔ a = b) := by decide +kernel
theorem btc_eq {a u : Nat} (hu : u < 512) : nI (a &&& u) &&& -(nI u) = nI (lowb u &&& a) := by
  rw [← nx_and, Int32.and_assoc, lowb_eq u hu, nx_and, Nat.and_comm]
def btr (a b : Nat) : Prop := cnt a < cnt b ∨ (cnt a = cnt b ∧ lowb (a ^^^ b) &&& a ≠ 0)
theorem lowb_and_lt (u a : Nat) (ha : a < 512) : lowb u &&& a < 512 := Nat.lt_of_le_of_lt Nat.and_le_right ha
theorem eX3_isBetterCover {G : Gx} {d : Nat} {σ : Hp} (hd : 1 ≤ d) {a b : Nat} (ha : a < 512) (hb : b < 512) : Cl G mX3_isBetterCover d [.int (nI a), .int (nI b)] σ 0 0 (pI fun r s => r = bI (cnt a < cnt b ∨ (cnt a = cnt b ∧ lowb (a ^^^ b) &&& a ≠ 0)) ∧ s = σ) := by
  obtain ⟨d0, hdd⟩ : ∃ e, d = e + 1 := ⟨d - 1, by omega⟩
  refine cl_of (by decide) (by simp [Value.category]) (Nat.le_of_ble_eq_true rfl) ?_
  show Wp G mX3_isBetterCover d 0 [.int (nI a), .int (nI b), .double 0, .double 0] [] σ 0 0 _
  refine wp_iload_n (atd dX3_isBetterCover 0 rfl) rfl ?_
  refine wp_cSi hdd [_] (atd dX3_isBetterCover 1 rfl) iJ6_bitCount_0f7a4 lX3_33 rfl rfl (Nat.le_of_ble_eq_true rfl) (eJ6_bitCount (by omega) ha) (fun r_1 s_1 h_1 => ?_)
  obtain ⟨rfl, rfl⟩ := h_1
  refine wp_iload_n (atd dX3_isBetterCover 2 rfl) rfl ?_
  refine wp_cSi hdd [_] (atd dX3_isBetterCover 3 rfl) iJ6_bitCount_0f7a4 lX3_33 rfl rfl (Nat.le_of_ble_eq_true rfl) (eJ6_bitCount (by omega) hb) (fun r_5 s_5 h_5 => ?_)
  obtain ⟨rfl, rfl⟩ := h_5
  refine wp_isub (atd dX3_isBetterCover 4 rfl) ?_
  refine wp_istore_n (atd dX3_isBetterCover 5 rfl) (Nat.le_of_ble_eq_true rfl) ?_
  refine wp_iload_n (atd dX3_isBetterCover 6 rfl) rfl ?_
  refine wp_iload_n (atd dX3_isBetterCover 7 rfl) rfl ?_
  refine wp_ixorN (atd dX3_isBetterCover 8 rfl) ?_
  refine wp_istore_n (atd dX3_isBetterCover 9 rfl) (Nat.le_of_ble_eq_true rfl) ?_
  refine wp_iload_n (atd dX3_isBetterCover 10 rfl) rfl ?_
  refine wp_if_lt (tgt := 31) (atd dX3_isBetterCover 11 rfl) (by decide) (fun c_15 => ?_) (fun c_15 => ?_)
  ·
    refine wp_iconst (v := nI 1) (atd dX3_isBetterCover 21 rfl) (by decide) ?_
    refine wp_goto (tgt := 36) (atd dX3_isBetterCover 22 rfl) (by decide) ?_
    refine wp_iretz (atd dX3_isBetterCover 24 rfl) rfl (by first | rfl | decide) ?_
    exact ⟨(bI_t (Or.inl ((cnt_sub _ (cnt_le a) _ (cnt_le b)).1.mp c_15))).symm, rfl⟩
  ·
    refine wp_iload_n (atd dX3_isBetterCover 12 rfl) rfl ?_
    refine wp_if_ne (tgt := 35) (atd dX3_isBetterCover 13 rfl) (by decide) (fun c_19 => ?_) (fun c_19 => ?_)
    ·
      refine wp_iconst (v := nI 0) (atd dX3_isBetterCover 23 rfl) (by decide) ?_
      refine wp_iretz (atd dX3_isBetterCover 24 rfl) rfl (by first | rfl | decide) ?_
      exact ⟨(bI_f (fun h => h.elim (fun z => c_15 ((cnt_sub _ (cnt_le a) _ (cnt_le b)).1.mpr z)) (fun z => c_19 ((cnt_sub _ (cnt_le a) _ (cnt_le b)).2.mpr z.1)))).symm, rfl⟩
    ·
      refine wp_iload_n (atd dX3_isBetterCover 14 rfl) rfl ?_
      refine wp_iload_n (atd dX3_isBetterCover 15 rfl) rfl ?_
      refine wp_iandN (atd dX3_isBetterCover 16 rfl) ?_
      refine wp_iload_n (atd dX3_isBetterCover 17 rfl) rfl ?_
      refine wp_ineg (atd dX3_isBetterCover 18 rfl) ?_
      refine wp_iand (atd dX3_isBetterCover 19 rfl) ?_
      rw [btc_eq (Nat.xor_lt_two_pow (n := 9) ha hb)]
      refine wp_ifN_eq (tgt := 35) (atd dX3_isBetterCover 20 rfl) (by decide) (by have := lowb_and_lt (a ^^^ b) a ha; omega) (fun c_28 => ?_) (fun c_28 => ?_)
      ·
        refine wp_iconst (v := nI 0) (atd dX3_isBetterCover 23 rfl) (by decide) ?_
        refine wp_iretz (atd dX3_isBetterCover 24 rfl) rfl (by first | rfl | decide) ?_
        exact ⟨(bI_f (fun h => h.elim (fun z => c_15 ((cnt_sub _ (cnt_le a) _ (cnt_le b)).1.mpr z)) (fun z => z.2 c_28))).symm, rfl⟩
      ·
        refine wp_iconst (v := nI 1) (atd dX3_isBetterCover 21 rfl) (by decide) ?_
        refine wp_goto (tgt := 36) (atd dX3_isBetterCover 22 rfl) (by decide) ?_
        refine wp_iretz (atd dX3_isBetterCover 24 rfl) rfl (by first | rfl | decide) ?_
        exact ⟨(bI_t (Or.inr ⟨(cnt_sub _ (cnt_le a) _ (cnt_le b)).2.mp (Classical.byContradiction c_19), by omega⟩)).symm, rfl⟩
def covC (nb : Nat → Nat) (n s b : Nat) : Nat := if nall nb 9 s = 2 ^ n - 1 ∧ (cnt s < cnt b ∨ (cnt s = cnt b ∧ lowb (s ^^^ b) &&& s ≠ 0)) then s else b
theorem lX3_cover {G : Gx} {d : Nat} {σ : Hp} (hd : 2 ≤ d) {k n : Nat} {nb : Nat → Nat} (hO : OB σ k 3 [.int (nI n), .ref (k + 1)]) (hA : AI σ (k + 1) 9 nb) (hn : n ≤ 9) (hw : ∀ p, nb p < 512) {v : Nat} : ∀ (t : Nat) (i b : Nat), i + t = 2 ^ n → fl (covC nb n) t i b = v → b < 512 → Wp G mX3_cover d 7 [.ref k, .int (nI b), .int (nI i)] [] σ 0 0 (pI fun r s' => r = nI v ∧ s' = σ) := by
  obtain ⟨d0, hdd⟩ : ∃ e, d = e + 1 := ⟨d - 1, by omega⟩
  intro t
  induction t with
  | zero =>
    intro i b h hv hb
    refine wp_iload_n (atd dX3_cover 5 rfl) rfl ?_
    refine wp_aload_n (atd dX3_cover 6 rfl) rfl rfl ?_
    refine wp_cVi hdd [] (atd dX3_cover 7 rfl) iX3_all lX3_67 rfl rfl (Nat.le_of_ble_eq_true rfl) hO rfl (eX3_all (by omega) hO hn) (fun r_9 s_9 h_9 => ?_)
    obtain ⟨rfl, rfl⟩ := h_9
    refine wp_icmpN_gt (tgt := 43) (atd dX3_cover 8 rfl) (by decide) (by have := pow_le9 hn; omega) (by have := pow_le9 hn; omega) (fun c_12 => ?_) (fun c_12 => ?_)
    ·
      refine wp_iload_n (atd dX3_cover 23 rfl) rfl ?_
      refine wp_ireti (atd dX3_cover 24 rfl) rfl ?_
      exact ⟨by rw [← hv]; rfl, rfl⟩
    · exfalso; have := pow_pos9 n; omega
  | succ t ih =>
    intro i b h hv hb
    have h9 := pow_le9 hn
    refine wp_iload_n (atd dX3_cover 5 rfl) rfl ?_
    refine wp_aload_n (atd dX3_cover 6 rfl) rfl rfl ?_
    refine wp_cVi hdd [] (atd dX3_cover 7 rfl) iX3_all lX3_67 rfl rfl (Nat.le_of_ble_eq_true rfl) hO rfl (eX3_all (by omega) hO hn) (fun r_9 s_9 h_9 => ?_)
    obtain ⟨rfl, rfl⟩ := h_9
    refine wp_icmpN_gt (tgt := 43) (atd dX3_cover 8 rfl) (by decide) (by omega) (by omega) (fun c_12 => ?_) (fun c_12 => ?_)
    · exfalso; omega
    ·
      refine wp_aload_n (atd dX3_cover 9 rfl) rfl rfl ?_
      refine wp_iload_n (atd dX3_cover 10 rfl) rfl ?_
      refine wp_cVi hdd [_] (atd dX3_cover 11 rfl) iX3_widen lX3_53 rfl rfl (Nat.le_of_ble_eq_true rfl) hO rfl (eX3_widen (by omega) hO hA hn hw (by omega)) (fun r_17 s_17 h_17 => ?_)
      obtain ⟨rfl, rfl⟩ := h_17
      refine wp_aload_n (atd dX3_cover 12 rfl) rfl rfl ?_
      refine wp_cVi hdd [] (atd dX3_cover 13 rfl) iX3_all lX3_67 rfl rfl (Nat.le_of_ble_eq_true rfl) hO rfl (eX3_all (by omega) hO hn) (fun r_21 s_21 h_21 => ?_)
      obtain ⟨rfl, rfl⟩ := h_21
      refine wp_icmpN_ne (tgt := 37) (atd dX3_cover 14 rfl) (by decide) (by have := nall9_lt hw i; omega) (by have := pow_le9 hn; omega) (fun c_24 => ?_) (fun c_24 => ?_)
      ·
        refine wp_iincN (c := 1) (atd dX3_cover 21 rfl) rfl ?_
        refine wp_goto (tgt := 7) (atd dX3_cover 22 rfl) (by decide) ?_
        exact ih (i + 1) _ (by omega) (by rw [← hv]; show _ = fl _ _ _ (covC nb n i b); rw [covC, if_neg (fun h => c_24 h.1)]) (by omega)
      ·
        refine wp_iload_n (atd dX3_cover 15 rfl) rfl ?_
        refine wp_iload_n (atd dX3_cover 16 rfl) rfl ?_
        refine wp_cSi hdd [_, _] (atd dX3_cover 17 rfl) iX3_isBetterCover lX3_71 rfl rfl (Nat.le_of_ble_eq_true rfl) (eX3_isBetterCover (by omega) (by omega) (by omega)) (fun r_29 s_29 h_29 => ?_)
        obtain ⟨rfl, rfl⟩ := h_29
        refine wp_ifB_eq (tgt := 37) (atd dX3_cover 18 rfl) (by decide) (fun c_32 => ?_) (fun c_32 => ?_)
        ·
          refine wp_iincN (c := 1) (atd dX3_cover 21 rfl) rfl ?_
          refine wp_goto (tgt := 7) (atd dX3_cover 22 rfl) (by decide) ?_
          exact ih (i + 1) _ (by omega) (by rw [← hv]; show _ = fl _ _ _ (covC nb n i b); rw [covC, if_neg (fun h => c_32 h.2)]) (by omega)
        ·
          refine wp_iload_n (atd dX3_cover 19 rfl) rfl ?_
          refine wp_istore_n (atd dX3_cover 20 rfl) (Nat.le_of_ble_eq_true rfl) ?_
          refine wp_iincN (c := 1) (atd dX3_cover 21 rfl) rfl ?_
          refine wp_goto (tgt := 7) (atd dX3_cover 22 rfl) (by decide) ?_
          exact ih (i + 1) _ (by omega) (by rw [← hv]; show _ = fl _ _ _ (covC nb n i b); rw [covC, if_pos ⟨c_24, c_32⟩]) (by omega)
theorem eX3_cover {G : Gx} {d : Nat} {σ : Hp} (hd : 2 ≤ d) {k n : Nat} {nb : Nat → Nat} (hO : OB σ k 3 [.int (nI n), .ref (k + 1)]) (hA : AI σ (k + 1) 9 nb) (hn : n ≤ 9) (hw : ∀ p, nb p < 512) : Cl G mX3_cover d [.ref k] σ 0 0 (pI fun r s' => r = nI (fl (covC nb n) (2 ^ n) 0 (2 ^ n - 1)) ∧ s' = σ) := by
  obtain ⟨d0, hdd⟩ : ∃ e, d = e + 1 := ⟨d - 1, by omega⟩
  refine cl_of (by decide) (by simp [Value.category]) (Nat.le_of_ble_eq_true rfl) ?_
  show Wp G mX3_cover d 0 [.ref k, .double 0, .double 0] [] σ 0 0 _
  refine wp_aload_n (atd dX3_cover 0 rfl) rfl rfl ?_
  refine wp_cVi hdd [] (atd dX3_cover 1 rfl) iX3_all lX3_67 rfl rfl (Nat.le_of_ble_eq_true rfl) hO rfl (eX3_all (by omega) hO hn) (fun r_1 s_1 h_1 => ?_)
  obtain ⟨rfl, rfl⟩ := h_1
  refine wp_istore_n (atd dX3_cover 2 rfl) (Nat.le_of_ble_eq_true rfl) ?_
  refine wp_iconst (v := nI 0) (atd dX3_cover 3 rfl) (by decide) ?_
  refine wp_istore_n (atd dX3_cover 4 rfl) (Nat.le_of_ble_eq_true rfl) ?_
  exact lX3_cover (by omega) hO hA hn hw (2 ^ n) 0 _ (by omega) rfl (by have := pow_le9 hn; omega)
theorem eX3_countBelow {G : Gx} {d : Nat} {σ : Hp} (hd : 1 ≤ d) {a p : Nat} (ha : a < 512) (hp : p < 9) : Cl G mX3_countBelow d [.int (nI a), .int (nI p)] σ 0 0 (pI fun r s => r = nI (cnt (a &&& (2 ^ p - 1))) ∧ s = σ) := by
  obtain ⟨d0, hdd⟩ : ∃ e, d = e + 1 := ⟨d - 1, by omega⟩
  refine cl_of (by decide) (by simp [Value.category]) (Nat.le_of_ble_eq_true rfl) ?_
  show Wp G mX3_countBelow d 0 [.int (nI a), .int (nI p)] [] σ 0 0 _
  refine wp_iload_n (atd dX3_countBelow 0 rfl) rfl ?_
  refine wp_iconst (v := nI 1) (atd dX3_countBelow 1 rfl) (by decide) ?_
  refine wp_iload_n (atd dX3_countBelow 2 rfl) rfl ?_
  refine wp_ishl1 (atd dX3_countBelow 3 rfl) (by omega) ?_
  refine wp_iconst (v := nI 1) (atd dX3_countBelow 4 rfl) (by decide) ?_
  refine wp_isubN (atd dX3_countBelow 5 rfl) (pow_pos9 p) ?_
  refine wp_iandN (atd dX3_countBelow 6 rfl) ?_
  refine wp_cSi hdd [_] (atd dX3_countBelow 7 rfl) iJ6_bitCount_0f7a4 lX3_33 rfl rfl (Nat.le_of_ble_eq_true rfl) (eJ6_bitCount (by omega) (and_lt9 ha)) (fun r_7 s_7 h_7 => ?_)
  obtain ⟨rfl, rfl⟩ := h_7
  refine wp_ireti (atd dX3_countBelow 8 rfl) rfl ?_
  exact ⟨rfl, rfl⟩
