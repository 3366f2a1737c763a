/-! the class's script: bytes, words, tokens -/
theorem eX7_byteAt {G : Gx} {d : Nat} {σ : Hp} (hd : 0 ≤ d) {sz fk : Nat} {fp : Int32} {tp bs : Nat → Nat} (hsz : sz ≤ 600) (ht : ∀ k, tp k < 256) {tk fm bh : Int32} (hSc : OB σ 1 7 (scL sz fk fp tk fm bh)) (hB : AI σ 2 600 bs) (hb : ∀ k, k < sz → bs k = tp k) {k : Nat} (hk : k < 2 ^ 31) : Cl G mX7_byteAt d [.ref 1, .int (nI k)] σ 0 0 (pI fun r s => r = bA tp sz k ∧ s = σ) := by
  refine cl_of (by decide) (by simp [Value.category]) (Nat.le_of_ble_eq_true rfl) ?_
  show Wp G mX7_byteAt d 0 [.ref 1, .int (nI k)] [] σ 0 0 _
  refine wp_iload_n (atd dX7_byteAt 0 rfl) rfl ?_
  refine wp_ifN_lt (tgt := 28) (atd dX7_byteAt 1 rfl) (by decide) (by omega) ?_
  refine wp_iload_n (atd dX7_byteAt 2 rfl) rfl ?_
  refine wp_aload_n (atd dX7_byteAt 3 rfl) rfl rfl ?_
  refine wp_get fX7_25 (atd dX7_byteAt 4 rfl) hSc rfl ?_
  refine wp_icmpN_ge (tgt := 28) (atd dX7_byteAt 5 rfl) (by decide) (by omega) (by omega) (fun c_9 => ?_) (fun c_9 => ?_)
  ·
    refine wp_iconst (v := -1) (atd dX7_byteAt 14 rfl) (by decide) ?_
    refine wp_ireti (atd dX7_byteAt 15 rfl) rfl ?_
    exact ⟨(bA_f (by omega)).symm, rfl⟩
  ·
    refine wp_iload_n (atd dX7_byteAt 6 rfl) rfl ?_
    refine wp_sipush (v := nI 600) (atd dX7_byteAt 7 rfl) (by decide) ?_
    refine wp_icmpN_ge (tgt := 28) (atd dX7_byteAt 8 rfl) (by decide) (by omega) (by omega) (fun c_16 => ?_) (fun c_16 => ?_)
    · exfalso; omega
    ·
      refine wp_aload_n (atd dX7_byteAt 9 rfl) rfl rfl ?_
      refine wp_get fX7_9 (atd dX7_byteAt 10 rfl) hSc rfl ?_
      refine wp_iload_n (atd dX7_byteAt 11 rfl) rfl ?_
      refine wp_ialdA (atd dX7_byteAt 12 rfl) hB (by omega) (Nat.le_of_ble_eq_true rfl) ?_
      refine wp_goto (tgt := 29) (atd dX7_byteAt 13 rfl) (by decide) ?_
      refine wp_ireti (atd dX7_byteAt 15 rfl) rfl ?_
      exact ⟨by rw [hb k (by omega), bA_t (by omega)], rfl⟩
theorem eX7_isBlank {G : Gx} {d : Nat} {σ : Hp} (hd : 0 ≤ d) {x : Int32} : Cl G mX7_isBlank d [.int x] σ 0 0 (pI fun r s => r = bI (x = nI 32 ∨ x = nI 10) ∧ s = σ) := by
  refine cl_of (by decide) (by simp [Value.category]) (Nat.le_of_ble_eq_true rfl) ?_
  show Wp G mX7_isBlank d 0 [.int x] [] σ 0 0 _
  refine wp_iload_n (atd dX7_isBlank 0 rfl) rfl ?_
  refine wp_bipush (v := nI 32) (atd dX7_isBlank 1 rfl) (by decide) ?_
  refine wp_icmp_eq (tgt := 12) (atd dX7_isBlank 2 rfl) (by decide) (fun c_3 => ?_) (fun c_3 => ?_)
  ·
    refine wp_iconst (v := nI 1) (atd dX7_isBlank 6 rfl) (by decide) ?_
    refine wp_goto (tgt := 17) (atd dX7_isBlank 7 rfl) (by decide) ?_
    refine wp_iretz (atd dX7_isBlank 9 rfl) rfl (by first | rfl | decide) ?_
    exact ⟨(bI_t (Or.inl c_3)).symm, rfl⟩
  ·
    refine wp_iload_n (atd dX7_isBlank 3 rfl) rfl ?_
    refine wp_bipush (v := nI 10) (atd dX7_isBlank 4 rfl) (by decide) ?_
    refine wp_icmp_ne (tgt := 16) (atd dX7_isBlank 5 rfl) (by decide) (fun c_9 => ?_) (fun c_9 => ?_)
    ·
      refine wp_iconst (v := nI 0) (atd dX7_isBlank 8 rfl) (by decide) ?_
      refine wp_iretz (atd dX7_isBlank 9 rfl) rfl (by first | rfl | decide) ?_
      exact ⟨(bI_f (fun z => z.elim c_3 c_9)).symm, rfl⟩
    ·
      refine wp_iconst (v := nI 1) (atd dX7_isBlank 6 rfl) (by decide) ?_
      refine wp_goto (tgt := 17) (atd dX7_isBlank 7 rfl) (by decide) ?_
      refine wp_iretz (atd dX7_isBlank 9 rfl) rfl (by first | rfl | decide) ?_
      exact ⟨(bI_t (Or.inr (Classical.not_not.mp c_9))).symm, rfl⟩
theorem eX7_isLetter {G : Gx} {d : Nat} {σ : Hp} (hd : 0 ≤ d) {x : Int32} : Cl G mX7_isLetter d [.int x] σ 0 0 (pI fun r s => r = bI (¬ x < nI 97 ∧ ¬ nI 122 < x) ∧ s = σ) := by
  refine cl_of (by decide) (by simp [Value.category]) (Nat.le_of_ble_eq_true rfl) ?_
  show Wp G mX7_isLetter d 0 [.int x] [] σ 0 0 _
  refine wp_iload_n (atd dX7_isLetter 0 rfl) rfl ?_
  refine wp_bipush (v := nI 97) (atd dX7_isLetter 1 rfl) (by decide) ?_
  refine wp_icmp_lt (tgt := 16) (atd dX7_isLetter 2 rfl) (by decide) (fun c_3 => ?_) (fun c_3 => ?_)
  ·
    refine wp_iconst (v := nI 0) (atd dX7_isLetter 8 rfl) (by decide) ?_
    refine wp_iretz (atd dX7_isLetter 9 rfl) rfl (by first | rfl | decide) ?_
    exact ⟨(bI_f (fun z => z.1 c_3)).symm, rfl⟩
  ·
    refine wp_iload_n (atd dX7_isLetter 3 rfl) rfl ?_
    refine wp_bipush (v := nI 122) (atd dX7_isLetter 4 rfl) (by decide) ?_
    refine wp_icmp_gt (tgt := 16) (atd dX7_isLetter 5 rfl) (by decide) (fun c_9 => ?_) (fun c_9 => ?_)
    ·
      refine wp_iconst (v := nI 0) (atd dX7_isLetter 8 rfl) (by decide) ?_
      refine wp_iretz (atd dX7_isLetter 9 rfl) rfl (by first | rfl | decide) ?_
      exact ⟨(bI_f (fun z => z.2 c_9)).symm, rfl⟩
    ·
      refine wp_iconst (v := nI 1) (atd dX7_isLetter 6 rfl) (by decide) ?_
      refine wp_goto (tgt := 17) (atd dX7_isLetter 7 rfl) (by decide) ?_
      refine wp_iretz (atd dX7_isLetter 9 rfl) rfl (by first | rfl | decide) ?_
      exact ⟨(bI_t ⟨c_3, c_9⟩).symm, rfl⟩
theorem blank_A {tp : Nat → Nat} {sz k : Nat} (ht : ∀ k, tp k < 256) : (bA tp sz k = nI 32 ∨ bA tp sz k = nI 10) ↔ k < sz ∧ (tp k = 32 ∨ tp k = 10) := by
  have h := ht k
  by_cases hk : k < sz
  · rw [bA_t hk, nI_eq (by omega) (by decide), nI_eq (by omega) (by decide)]; exact ⟨fun z => ⟨hk, z⟩, fun z => z.2⟩
  · rw [bA_f hk]; exact ⟨fun z => z.elim (fun q => absurd q (by decide)) (fun q => absurd q (by decide)), fun z => absurd z.1 hk⟩
theorem letter_A {tp : Nat → Nat} {sz k : Nat} (ht : ∀ k, tp k < 256) : (¬ bA tp sz k < nI 97 ∧ ¬ nI 122 < bA tp sz k) ↔ k < sz ∧ 97 ≤ tp k ∧ tp k ≤ 122 := by
  by_cases hk : k < sz
  · rw [bA_t hk, small_N (ht k)]; exact ⟨fun z => ⟨hk, z⟩, fun z => z.2⟩
  · rw [bA_f hk]; exact ⟨fun z => absurd z small_M, fun z => absurd z.1 hk⟩
/-- a word of the tape is a constant text -/
abbrev isWd (tp : Nat → Nat) (a b i : Nat) : Prop := b - a = slen i ∧ ∀ j, j < slen i → tp (a + j) = sbyt i j
theorem lX7_isWord0 {G : Gx} {d : Nat} (hd : 4 ≤ d) {σ : Hp} {sz fk a b i : Nat} {fp tk : Int32} {tp bs : Nat → Nat} (hsz : sz ≤ 600) (ht : ∀ k, tp k < 256) (hSc : OB σ 1 7 (scL sz fk fp tk (nI a) (nI b))) (hB : AI σ 2 600 bs) (hb : ∀ k, k < sz → bs k = tp k) (hi : i < 2) (hab : a ≤ b) (hbs : b ≤ sz) : ∀ (y : Nat) (k : Nat), k + y = slen i → Wp G mX7_isWord d 24 [.ref 1, stK i, .int (nI 0), .int (nI k)] [] σ 0 0 (pI fun r s => r = nI 0 ∧ s = σ) := by
  obtain ⟨d0, hdd⟩ : ∃ e, d = e + 1 := ⟨d - 1, by omega⟩
  have hs13 : ∀ i, i < 2 → slen i ≤ 5 := by decide
  have h13 := hs13 i hi
  intro y
  induction y with
  | zero =>
    intro k h
    refine wp_iload_n (atd dX7_isWord 14 rfl) rfl ?_
    refine wp_aload_n (atd dX7_isWord 15 rfl) rfl rfl ?_
    refine wp_cKi hdd [] (show i < 3 by omega) rfl (atd dX7_isWord 16 rfl) iJ0_length_8abf5 lX7_109 (okw (in2 194 (by decide +kernel)) (by decide +kernel)) rfl rfl (Nat.le_of_ble_eq_true rfl) (eJ0_length (by omega) (by omega)) (fun r_26 s_26 h_26 => ?_)
    obtain ⟨rfl, e_26⟩ := h_26
    obtain rfl := e_26.symm
    refine wp_icmpN_ge (tgt := 66) (atd dX7_isWord 17 rfl) (by decide) (by omega) (by omega) (fun c_29 => ?_) (fun c_29 => ?_)
    ·
      refine wp_iload_n (atd dX7_isWord 36 rfl) rfl ?_
      refine wp_iretz (atd dX7_isWord 37 rfl) rfl (by first | rfl | decide) ?_
      exact ⟨rfl, rfl⟩
    · exfalso; omega
  | succ y ih =>
    intro k h
    refine wp_iload_n (atd dX7_isWord 14 rfl) rfl ?_
    refine wp_aload_n (atd dX7_isWord 15 rfl) rfl rfl ?_
    refine wp_cKi hdd [] (show i < 3 by omega) rfl (atd dX7_isWord 16 rfl) iJ0_length_8abf5 lX7_109 (okw (in2 194 (by decide +kernel)) (by decide +kernel)) rfl rfl (Nat.le_of_ble_eq_true rfl) (eJ0_length (by omega) (by omega)) (fun r_26 s_26 h_26 => ?_)
    obtain ⟨rfl, e_26⟩ := h_26
    obtain rfl := e_26.symm
    refine wp_icmpN_ge (tgt := 66) (atd dX7_isWord 17 rfl) (by decide) (by omega) (by omega) (fun c_29 => ?_) (fun c_29 => ?_)
    · exfalso; omega
    ·
      refine wp_iload_n (atd dX7_isWord 18 rfl) rfl ?_
      refine wp_ifN_eq (tgt := 58) (atd dX7_isWord 19 rfl) (by decide) (by omega) (fun c_33 => ?_) (fun c_33 => ?_)
      ·
        refine wp_iconst (v := nI 0) (atd dX7_isWord 32 rfl) (by decide) ?_
        refine wp_istore_n (atd dX7_isWord 33 rfl) (Nat.le_of_ble_eq_true rfl) ?_
        refine wp_iincN (c := 1) (atd dX7_isWord 34 rfl) rfl ?_
        refine wp_goto (tgt := 24) (atd dX7_isWord 35 rfl) (by decide) ?_
        exact ih (k + 1) (by omega)
      · exact absurd c_33 (by decide)
theorem lX7_isWord1 {G : Gx} {d : Nat} (hd : 4 ≤ d) {σ : Hp} {sz fk a b i : Nat} {fp tk : Int32} {tp bs : Nat → Nat} (hsz : sz ≤ 600) (ht : ∀ k, tp k < 256) (hSc : OB σ 1 7 (scL sz fk fp tk (nI a) (nI b))) (hB : AI σ 2 600 bs) (hb : ∀ k, k < sz → bs k = tp k) (hi : i < 2) (hab : a ≤ b) (hbs : b ≤ sz) : ∀ (y : Nat) (k : Nat), k + y = slen i → b - a = slen i → (∀ j, j < k → tp (a + j) = sbyt i j) → Wp G mX7_isWord d 24 [.ref 1, stK i, .int (nI 1), .int (nI k)] [] σ 0 0 (pI fun r s => r = bI (isWd tp a b i) ∧ s = σ) := by
  obtain ⟨d0, hdd⟩ : ∃ e, d = e + 1 := ⟨d - 1, by omega⟩
  have hs13 : ∀ i, i < 2 → slen i ≤ 5 := by decide
  have h13 := hs13 i hi
  intro y
  induction y with
  | zero =>
    intro k h hl hj
    refine wp_iload_n (atd dX7_isWord 14 rfl) rfl ?_
    refine wp_aload_n (atd dX7_isWord 15 rfl) rfl rfl ?_
    refine wp_cKi hdd [] (show i < 3 by omega) rfl (atd dX7_isWord 16 rfl) iJ0_length_8abf5 lX7_109 (okw (in2 194 (by decide +kernel)) (by decide +kernel)) rfl rfl (Nat.le_of_ble_eq_true rfl) (eJ0_length (by omega) (by omega)) (fun r_26 s_26 h_26 => ?_)
    obtain ⟨rfl, e_26⟩ := h_26
    obtain rfl := e_26.symm
    refine wp_icmpN_ge (tgt := 66) (atd dX7_isWord 17 rfl) (by decide) (by omega) (by omega) (fun c_29 => ?_) (fun c_29 => ?_)
    ·
      refine wp_iload_n (atd dX7_isWord 36 rfl) rfl ?_
      refine wp_iretz (atd dX7_isWord 37 rfl) rfl (by first | rfl | decide) ?_
      exact ⟨(bI_t ⟨hl, fun j hj2 => hj j (by omega)⟩).symm, rfl⟩
    · exfalso; omega
  | succ y ih =>
    intro k h hl hj
    have hbt := (txB_at i hi k (by omega)).2
    have htk := ht (a + k)
    refine wp_iload_n (atd dX7_isWord 14 rfl) rfl ?_
    refine wp_aload_n (atd dX7_isWord 15 rfl) rfl rfl ?_
    refine wp_cKi hdd [] (show i < 3 by omega) rfl (atd dX7_isWord 16 rfl) iJ0_length_8abf5 lX7_109 (okw (in2 194 (by decide +kernel)) (by decide +kernel)) rfl rfl (Nat.le_of_ble_eq_true rfl) (eJ0_length (by omega) (by omega)) (fun r_26 s_26 h_26 => ?_)
    obtain ⟨rfl, e_26⟩ := h_26
    obtain rfl := e_26.symm
    refine wp_icmpN_ge (tgt := 66) (atd dX7_isWord 17 rfl) (by decide) (by omega) (by omega) (fun c_29 => ?_) (fun c_29 => ?_)
    · exfalso; omega
    ·
      refine wp_iload_n (atd dX7_isWord 18 rfl) rfl ?_
      refine wp_ifN_eq (tgt := 58) (atd dX7_isWord 19 rfl) (by decide) (by omega) (fun c_33 => ?_) (fun c_33 => ?_)
      · exact absurd c_33 (by decide)
      ·
        refine wp_aload_n (atd dX7_isWord 20 rfl) rfl rfl ?_
        refine wp_iload_n (atd dX7_isWord 21 rfl) rfl ?_
        refine wp_cKi hdd [_] (show i < 3 by omega) rfl (atd dX7_isWord 22 rfl) iJ0_charAt_5068e lX7_113 (okw (in2 204 (by decide +kernel)) (by decide +kernel)) rfl rfl (Nat.le_of_ble_eq_true rfl) (eJ0_charAt (by omega) hi (by omega)) (fun r_38 s_38 h_38 => ?_)
        obtain ⟨rfl, e_38⟩ := h_38
        obtain rfl := e_38.symm
        refine wp_aload_n (atd dX7_isWord 23 rfl) rfl rfl ?_
        refine wp_aload_n (atd dX7_isWord 24 rfl) rfl rfl ?_
        refine wp_get fX7_66 (atd dX7_isWord 25 rfl) hSc rfl ?_
        refine wp_iload_n (atd dX7_isWord 26 rfl) rfl ?_
        refine wp_iaddN (atd dX7_isWord 27 rfl) ?_
        refine wp_cVi hdd [_] (atd dX7_isWord 28 rfl) iX7_byteAt lX7_86 rfl rfl (Nat.le_of_ble_eq_true rfl) hSc rfl (eX7_byteAt (by omega) hsz ht hSc hB hb (by omega)) (fun r_48 s_48 h_48 => ?_)
        obtain ⟨rfl, e_48⟩ := h_48
        obtain rfl := e_48.symm
        rw [bA_t (show a + k < sz by omega)]
        refine wp_icmpN_ne (tgt := 58) (atd dX7_isWord 29 rfl) (by decide) (by omega) (by omega) (fun c_51 => ?_) (fun c_51 => ?_)
        ·
          refine wp_iconst (v := nI 0) (atd dX7_isWord 32 rfl) (by decide) ?_
          refine wp_istore_n (atd dX7_isWord 33 rfl) (Nat.le_of_ble_eq_true rfl) ?_
          refine wp_iincN (c := 1) (atd dX7_isWord 34 rfl) rfl ?_
          refine wp_goto (tgt := 24) (atd dX7_isWord 35 rfl) (by decide) ?_
          refine wp_post (lX7_isWord0 (by omega) hsz ht hSc hB hb hi hab hbs y (k + 1) (by omega)) ?_
          rintro v s ⟨r, rfl, h1, h2⟩
          exact ⟨r, rfl, h1.trans (bI_f (fun z => c_51 (z.2 k (by omega)).symm)).symm, h2⟩
        ·
          refine wp_iconst (v := nI 1) (atd dX7_isWord 30 rfl) (by decide) ?_
          refine wp_goto (tgt := 59) (atd dX7_isWord 31 rfl) (by decide) ?_
          refine wp_istore_n (atd dX7_isWord 33 rfl) (Nat.le_of_ble_eq_true rfl) ?_
          refine wp_iincN (c := 1) (atd dX7_isWord 34 rfl) rfl ?_
          refine wp_goto (tgt := 24) (atd dX7_isWord 35 rfl) (by decide) ?_
          exact ih (k + 1) (by omega) hl (fun j hj2 => by
            by_cases e : j = k
            · subst e; exact c_51.symm
            · exact hj j (by omega))
theorem eX7_isWord {G : Gx} {d : Nat} {σ : Hp} (hd : 4 ≤ d) {sz fk a b i : Nat} {fp tk : Int32} {tp bs : Nat → Nat} (hsz : sz ≤ 600) (ht : ∀ k, tp k < 256) (hSc : OB σ 1 7 (scL sz fk fp tk (nI a) (nI b))) (hB : AI σ 2 600 bs) (hb : ∀ k, k < sz → bs k = tp k) (hi : i < 2) (hab : a ≤ b) (hbs : b ≤ sz) : Cl G mX7_isWord d [.ref 1, stK i] σ 0 0 (pI fun r s => r = bI (isWd tp a b i) ∧ s = σ) := by
  obtain ⟨d0, hdd⟩ : ∃ e, d = e + 1 := ⟨d - 1, by omega⟩
  refine cl_of (by decide) (by simp [Value.category]) (Nat.le_of_ble_eq_true rfl) ?_
  show Wp G mX7_isWord d 0 [.ref 1, stK i, .double 0, .double 0] [] σ 0 0 _
  have hs13 : ∀ i, i < 2 → slen i ≤ 5 := by decide
  have h13 := hs13 i hi
  refine wp_aload_n (atd dX7_isWord 0 rfl) rfl rfl ?_
  refine wp_cKi hdd [] (show i < 3 by omega) rfl (atd dX7_isWord 1 rfl) iJ0_length_8abf5 lX7_109 (okw (in2 194 (by decide +kernel)) (by decide +kernel)) rfl rfl (Nat.le_of_ble_eq_true rfl) (eJ0_length (by omega) (by omega)) (fun r_1 s_1 h_1 => ?_)
  obtain ⟨rfl, e_1⟩ := h_1
  obtain rfl := e_1.symm
  refine wp_aload_n (atd dX7_isWord 2 rfl) rfl rfl ?_
  refine wp_get fX7_36 (atd dX7_isWord 3 rfl) hSc rfl ?_
  refine wp_aload_n (atd dX7_isWord 4 rfl) rfl rfl ?_
  refine wp_get fX7_66 (atd dX7_isWord 5 rfl) hSc rfl ?_
  refine wp_isubN (atd dX7_isWord 6 rfl) (by omega) ?_
  refine wp_icmpN_ne (tgt := 20) (atd dX7_isWord 7 rfl) (by decide) (by omega) (by omega) (fun c_13 => ?_) (fun c_13 => ?_)
  ·
    refine wp_iconst (v := nI 0) (atd dX7_isWord 10 rfl) (by decide) ?_
    refine wp_istore_n (atd dX7_isWord 11 rfl) (Nat.le_of_ble_eq_true rfl) ?_
    refine wp_iconst (v := nI 0) (atd dX7_isWord 12 rfl) (by decide) ?_
    refine wp_istore_n (atd dX7_isWord 13 rfl) (Nat.le_of_ble_eq_true rfl) ?_
    refine wp_post (lX7_isWord0 (by omega) hsz ht hSc hB hb hi hab hbs (slen i) 0 (by omega)) ?_
    rintro v s ⟨r, rfl, h1, h2⟩
    exact ⟨r, rfl, h1.trans (bI_f (fun z => c_13 z.1.symm)).symm, h2⟩
  ·
    refine wp_iconst (v := nI 1) (atd dX7_isWord 8 rfl) (by decide) ?_
    refine wp_goto (tgt := 21) (atd dX7_isWord 9 rfl) (by decide) ?_
    refine wp_istore_n (atd dX7_isWord 11 rfl) (Nat.le_of_ble_eq_true rfl) ?_
    refine wp_iconst (v := nI 0) (atd dX7_isWord 12 rfl) (by decide) ?_
    refine wp_istore_n (atd dX7_isWord 13 rfl) (Nat.le_of_ble_eq_true rfl) ?_
    exact lX7_isWord1 (by omega) hsz ht hSc hB hb hi hab hbs (slen i) 0 (by omega) c_13.symm (fun j hj => absurd hj (Nat.not_lt_zero j))
def wtk (tp : Nat → Nat) (a b : Nat) : Nat := if 6 < b - a then 1 else if isWd tp a b 0 then 3 else if isWd tp a b 1 then 4 else 5
theorem eX7_wordToken {G : Gx} {d : Nat} {σ : Hp} (hd : 5 ≤ d) {sz fk a b : Nat} {fp tk : Int32} {tp bs : Nat → Nat} (hsz : sz ≤ 600) (ht : ∀ k, tp k < 256) (hSc : OB σ 1 7 (scL sz fk fp tk (nI a) (nI b))) (hB : AI σ 2 600 bs) (hb : ∀ k, k < sz → bs k = tp k) (hab : a ≤ b) (hbs : b ≤ sz) : Cl G mX7_wordToken d [.ref 1] σ 0 0 (pI fun r s => r = nI (wtk tp a b) ∧ s = σ) := by
  obtain ⟨d0, hdd⟩ : ∃ e, d = e + 1 := ⟨d - 1, by omega⟩
  refine cl_of (by decide) (by simp [Value.category]) (Nat.le_of_ble_eq_true rfl) ?_
  show Wp G mX7_wordToken d 0 [.ref 1] [] σ 0 0 _
  refine wp_aload_n (atd dX7_wordToken 0 rfl) rfl rfl ?_
  refine wp_get fX7_36 (atd dX7_wordToken 1 rfl) hSc rfl ?_
  refine wp_aload_n (atd dX7_wordToken 2 rfl) rfl rfl ?_
  refine wp_get fX7_66 (atd dX7_wordToken 3 rfl) hSc rfl ?_
  refine wp_isubN (atd dX7_wordToken 4 rfl) (by omega) ?_
  refine wp_bipush (v := nI 6) (atd dX7_wordToken 5 rfl) (by decide) ?_
  refine wp_icmpN_le (tgt := 16) (atd dX7_wordToken 6 rfl) (by decide) (by omega) (by omega) (fun c_11 => ?_) (fun c_11 => ?_)
  ·
    refine wp_aload_n (atd dX7_wordToken 9 rfl) rfl rfl ?_
    refine wp_ldcP rfl (atd dX7_wordToken 10 rfl) ?_
    refine wp_cVi hdd [_] (atd dX7_wordToken 11 rfl) iX7_isWord lX7_103 rfl rfl (Nat.le_of_ble_eq_true rfl) hSc rfl (eX7_isWord (i := 0) (by omega) hsz ht hSc hB hb (by decide) hab hbs) (fun r_19 s_19 h_19 => ?_)
    obtain ⟨rfl, e_19⟩ := h_19
    obtain rfl := e_19.symm
    refine wp_ifB_eq (tgt := 27) (atd dX7_wordToken 12 rfl) (by decide) (fun c_22 => ?_) (fun c_22 => ?_)
    ·
      refine wp_aload_n (atd dX7_wordToken 15 rfl) rfl rfl ?_
      refine wp_ldcL rfl (atd dX7_wordToken 16 rfl) ?_
      refine wp_cVi hdd [_] (atd dX7_wordToken 17 rfl) iX7_isWord lX7_103 rfl rfl (Nat.le_of_ble_eq_true rfl) hSc rfl (eX7_isWord (i := 1) (by omega) hsz ht hSc hB hb (by decide) hab hbs) (fun r_30 s_30 h_30 => ?_)
      obtain ⟨rfl, e_30⟩ := h_30
      obtain rfl := e_30.symm
      refine wp_ifB_eq (tgt := 40) (atd dX7_wordToken 18 rfl) (by decide) (fun c_33 => ?_) (fun c_33 => ?_)
      ·
        refine wp_iconst (v := nI 5) (atd dX7_wordToken 21 rfl) (by decide) ?_
        refine wp_ireti (atd dX7_wordToken 22 rfl) rfl ?_
        exact ⟨by unfold wtk; rw [if_neg (by omega), if_neg c_22, if_neg c_33], rfl⟩
      ·
        refine wp_iconst (v := nI 4) (atd dX7_wordToken 19 rfl) (by decide) ?_
        refine wp_goto (tgt := 41) (atd dX7_wordToken 20 rfl) (by decide) ?_
        refine wp_ireti (atd dX7_wordToken 22 rfl) rfl ?_
        exact ⟨by unfold wtk; rw [if_neg (by omega), if_neg c_22, if_pos c_33], rfl⟩
    ·
      refine wp_iconst (v := nI 3) (atd dX7_wordToken 13 rfl) (by decide) ?_
      refine wp_ireti (atd dX7_wordToken 14 rfl) rfl ?_
      exact ⟨by unfold wtk; rw [if_neg (by omega), if_pos c_22], rfl⟩
  ·
    refine wp_iconst (v := nI 1) (atd dX7_wordToken 7 rfl) (by decide) ?_
    refine wp_ireti (atd dX7_wordToken 8 rfl) rfl ?_
    exact ⟨by unfold wtk; rw [if_pos c_11], rfl⟩
