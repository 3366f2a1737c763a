/-! names of places -/
abbrev isNm (tp : Nat → Nat) (x k a m : Nat) : Prop := k = m ∧ ∀ i, i < k → tp (x + i) = tp (a + i)
theorem lX7_nm0 {G : Gx} {d : Nat} {σ : Hp} {p : Nat} {y : Value} : Wp G mX7_isNameOf d 26 [.ref 1, .int (nI p), .int (nI 0), y] [] σ 0 0 (pI fun r s => r = nI 0 ∧ s = σ) := by
  refine wp_iload_n (atd dX7_isNameOf 16 rfl) rfl ?_
  refine wp_ifN_eq (tgt := 83) (atd dX7_isNameOf 17 rfl) (by decide) (by omega) (fun c_27 => ?_) (fun c_27 => ?_)
  ·
    refine wp_iload_n (atd dX7_isNameOf 48 rfl) rfl ?_
    refine wp_iretz (atd dX7_isNameOf 49 rfl) rfl (by first | rfl | decide) ?_
    exact ⟨rfl, rfl⟩
  · exact absurd c_27 (by decide)
theorem lX7_nm1 {G : Gx} {d : Nat} (hd : 1 ≤ d) {σ : Hp} {sz fk a b p : Nat} {fp tk : Int32} {tp bs nf nl : Nat → Nat} (hsz : sz ≤ 600) (ht : ∀ k, tp k < 256) (hSc : OB σ 1 7 (scL sz fk fp tk (nI a) (nI b))) (hB : AI σ 2 600 bs) (hb : ∀ k, k < sz → bs k = tp k) (hNf : AI σ 3 9 nf) (hNl : AI σ 4 9 nl) (hab : a ≤ b) (hbs : b ≤ sz) (hp : p < 9) (h6 : nl p ≤ 6) (hin : nf p + nl p ≤ sz) : ∀ (y : Nat) (i : Nat), i + y = nl p → nl p = b - a → (∀ j, j < i → tp (nf p + j) = tp (a + j)) → Wp G mX7_isNameOf d 26 [.ref 1, .int (nI p), .int (nI 1), .int (nI i)] [] σ 0 0 (pI fun r s => r = bI (isNm tp (nf p) (nl p) a (b - a)) ∧ s = σ) := by
  obtain ⟨d0, hdd⟩ : ∃ e, d = e + 1 := ⟨d - 1, by omega⟩
  intro y
  induction y with
  | zero =>
    intro i h hl hj
    obtain rfl : i = nl p := by omega
    refine wp_iload_n (atd dX7_isNameOf 16 rfl) rfl ?_
    refine wp_ifN_eq (tgt := 83) (atd dX7_isNameOf 17 rfl) (by decide) (by omega) (fun c_27 => ?_) (fun c_27 => ?_)
    · exact absurd c_27 (by decide)
    ·
      refine wp_iload_n (atd dX7_isNameOf 18 rfl) rfl ?_
      refine wp_bipush (v := nI 6) (atd dX7_isNameOf 19 rfl) (by decide) ?_
      refine wp_icmpN_ge (tgt := 83) (atd dX7_isNameOf 20 rfl) (by decide) (by omega) (by omega) (fun c_33 => ?_) (fun c_33 => ?_)
      ·
        refine wp_iload_n (atd dX7_isNameOf 48 rfl) rfl ?_
        refine wp_iretz (atd dX7_isNameOf 49 rfl) rfl (by first | rfl | decide) ?_
        exact ⟨(bI_t ⟨hl, hj⟩).symm, rfl⟩
      ·
        refine wp_iload_n (atd dX7_isNameOf 21 rfl) rfl ?_
        refine wp_aload_n (atd dX7_isNameOf 22 rfl) rfl rfl ?_
        refine wp_get fX7_22 (atd dX7_isNameOf 23 rfl) hSc rfl ?_
        refine wp_iload_n (atd dX7_isNameOf 24 rfl) rfl ?_
        refine wp_ialdA (atd dX7_isNameOf 25 rfl) hNl (by omega) (Nat.le_of_ble_eq_true rfl) ?_
        refine wp_icmpN_ge (tgt := 83) (atd dX7_isNameOf 26 rfl) (by decide) (by omega) (by omega) (fun c_43 => ?_) (fun c_43 => ?_)
        ·
          refine wp_iload_n (atd dX7_isNameOf 48 rfl) rfl ?_
          refine wp_iretz (atd dX7_isNameOf 49 rfl) rfl (by first | rfl | decide) ?_
          exact ⟨(bI_t ⟨hl, hj⟩).symm, rfl⟩
        · exfalso; omega
  | succ y ih =>
    intro i h hl hj
    have t1 := ht (nf p + i)
    have t2 := ht (a + i)
    refine wp_iload_n (atd dX7_isNameOf 16 rfl) rfl ?_
    refine wp_ifN_eq (tgt := 83) (atd dX7_isNameOf 17 rfl) (by decide) (by omega) (fun c_27 => ?_) (fun c_27 => ?_)
    · exact absurd c_27 (by decide)
    ·
      refine wp_iload_n (atd dX7_isNameOf 18 rfl) rfl ?_
      refine wp_bipush (v := nI 6) (atd dX7_isNameOf 19 rfl) (by decide) ?_
      refine wp_icmpN_ge (tgt := 83) (atd dX7_isNameOf 20 rfl) (by decide) (by omega) (by omega) (fun c_33 => ?_) (fun c_33 => ?_)
      · exfalso; omega
      ·
        refine wp_iload_n (atd dX7_isNameOf 21 rfl) rfl ?_
        refine wp_aload_n (atd dX7_isNameOf 22 rfl) rfl rfl ?_
        refine wp_get fX7_22 (atd dX7_isNameOf 23 rfl) hSc rfl ?_
        refine wp_iload_n (atd dX7_isNameOf 24 rfl) rfl ?_
        refine wp_ialdA (atd dX7_isNameOf 25 rfl) hNl (by omega) (Nat.le_of_ble_eq_true rfl) ?_
        refine wp_icmpN_ge (tgt := 83) (atd dX7_isNameOf 26 rfl) (by decide) (by omega) (by omega) (fun c_43 => ?_) (fun c_43 => ?_)
        · exfalso; omega
        ·
          refine wp_aload_n (atd dX7_isNameOf 27 rfl) rfl rfl ?_
          refine wp_aload_n (atd dX7_isNameOf 28 rfl) rfl rfl ?_
          refine wp_get fX7_19 (atd dX7_isNameOf 29 rfl) hSc rfl ?_
          refine wp_iload_n (atd dX7_isNameOf 30 rfl) rfl ?_
          refine wp_ialdA (atd dX7_isNameOf 31 rfl) hNf (by omega) (Nat.le_of_ble_eq_true rfl) ?_
          refine wp_iload_n (atd dX7_isNameOf 32 rfl) rfl ?_
          refine wp_iaddN (atd dX7_isNameOf 33 rfl) ?_
          refine wp_cVi hdd [_] (atd dX7_isNameOf 34 rfl) iX7_byteAt lX7_86 rfl rfl (Nat.le_of_ble_eq_true rfl) hSc rfl (eX7_byteAt (by omega) hsz ht hSc hB hb (by omega)) (fun r_55 s_55 h_55 => ?_)
          obtain ⟨rfl, e_55⟩ := h_55
          obtain rfl := e_55.symm
          rw [bA_t (show nf p + i < sz by omega)]
          refine wp_aload_n (atd dX7_isNameOf 35 rfl) rfl rfl ?_
          refine wp_aload_n (atd dX7_isNameOf 36 rfl) rfl rfl ?_
          refine wp_get fX7_66 (atd dX7_isNameOf 37 rfl) hSc rfl ?_
          refine wp_iload_n (atd dX7_isNameOf 38 rfl) rfl ?_
          refine wp_iaddN (atd dX7_isNameOf 39 rfl) ?_
          refine wp_cVi hdd [_] (atd dX7_isNameOf 40 rfl) iX7_byteAt lX7_86 rfl rfl (Nat.le_of_ble_eq_true rfl) hSc rfl (eX7_byteAt (by omega) hsz ht hSc hB hb (by omega)) (fun r_65 s_65 h_65 => ?_)
          obtain ⟨rfl, e_65⟩ := h_65
          obtain rfl := e_65.symm
          rw [bA_t (show a + i < sz by omega)]
          refine wp_icmpN_ne (tgt := 75) (atd dX7_isNameOf 41 rfl) (by decide) (by omega) (by omega) (fun c_68 => ?_) (fun c_68 => ?_)
          ·
            refine wp_iconst (v := nI 0) (atd dX7_isNameOf 44 rfl) (by decide) ?_
            refine wp_istore_n (atd dX7_isNameOf 45 rfl) (Nat.le_of_ble_eq_true rfl) ?_
            refine wp_iincN (c := 1) (atd dX7_isNameOf 46 rfl) rfl ?_
            refine wp_goto (tgt := 26) (atd dX7_isNameOf 47 rfl) (by decide) ?_
            refine wp_post lX7_nm0 ?_
            rintro v s ⟨r, rfl, h1, h2⟩
            exact ⟨r, rfl, h1.trans (bI_f (fun z => c_68 (z.2 i (by omega)))).symm, h2⟩
          ·
            refine wp_iconst (v := nI 1) (atd dX7_isNameOf 42 rfl) (by decide) ?_
            refine wp_goto (tgt := 76) (atd dX7_isNameOf 43 rfl) (by decide) ?_
            refine wp_istore_n (atd dX7_isNameOf 45 rfl) (Nat.le_of_ble_eq_true rfl) ?_
            refine wp_iincN (c := 1) (atd dX7_isNameOf 46 rfl) rfl ?_
            refine wp_goto (tgt := 26) (atd dX7_isNameOf 47 rfl) (by decide) ?_
            exact ih (i + 1) (by omega) hl (fun j hj2 => by
              by_cases e : j = i
              · subst e; exact c_68
              · exact hj j (by omega))
theorem eX7_isNameOf {G : Gx} {d : Nat} {σ : Hp} (hd : 1 ≤ d) {sz fk a b p : Nat} {fp tk : Int32} {tp bs nf nl : Nat → Nat} (hsz : sz ≤ 600) (ht : ∀ k, tp k < 256) (hSc : OB σ 1 7 (scL sz fk fp tk (nI a) (nI b))) (hB : AI σ 2 600 bs) (hb : ∀ k, k < sz → bs k = tp k) (hNf : AI σ 3 9 nf) (hNl : AI σ 4 9 nl) (hab : a ≤ b) (hbs : b ≤ sz) (hp : p < 9) (h6 : nl p ≤ 6) (hin : nf p + nl p ≤ sz) : Cl G mX7_isNameOf d [.ref 1, .int (nI p)] σ 0 0 (pI fun r s => r = bI (isNm tp (nf p) (nl p) a (b - a)) ∧ s = σ) := by
  obtain ⟨d0, hdd⟩ : ∃ e, d = e + 1 := ⟨d - 1, by omega⟩
  refine cl_of (by decide) (by simp [Value.category]) (Nat.le_of_ble_eq_true rfl) ?_
  show Wp G mX7_isNameOf d 0 [.ref 1, .int (nI p), .double 0, .double 0] [] σ 0 0 _
  refine wp_aload_n (atd dX7_isNameOf 0 rfl) rfl rfl ?_
  refine wp_get fX7_22 (atd dX7_isNameOf 1 rfl) hSc rfl ?_
  refine wp_iload_n (atd dX7_isNameOf 2 rfl) rfl ?_
  refine wp_ialdA (atd dX7_isNameOf 3 rfl) hNl (by omega) (Nat.le_of_ble_eq_true rfl) ?_
  refine wp_aload_n (atd dX7_isNameOf 4 rfl) rfl rfl ?_
  refine wp_get fX7_36 (atd dX7_isNameOf 5 rfl) hSc rfl ?_
  refine wp_aload_n (atd dX7_isNameOf 6 rfl) rfl rfl ?_
  refine wp_get fX7_66 (atd dX7_isNameOf 7 rfl) hSc rfl ?_
  refine wp_isubN (atd dX7_isNameOf 8 rfl) (by omega) ?_
  refine wp_icmpN_ne (tgt := 22) (atd dX7_isNameOf 9 rfl) (by decide) (by omega) (by omega) (fun c_15 => ?_) (fun c_15 => ?_)
  ·
    refine wp_iconst (v := nI 0) (atd dX7_isNameOf 12 rfl) (by decide) ?_
    refine wp_istore_n (atd dX7_isNameOf 13 rfl) (Nat.le_of_ble_eq_true rfl) ?_
    refine wp_iconst (v := nI 0) (atd dX7_isNameOf 14 rfl) (by decide) ?_
    refine wp_istore_n (atd dX7_isNameOf 15 rfl) (Nat.le_of_ble_eq_true rfl) ?_
    refine wp_post lX7_nm0 ?_
    rintro v s ⟨r, rfl, h1, h2⟩
    exact ⟨r, rfl, h1.trans (bI_f (fun z => c_15 z.1)).symm, h2⟩
  ·
    refine wp_iconst (v := nI 1) (atd dX7_isNameOf 10 rfl) (by decide) ?_
    refine wp_goto (tgt := 23) (atd dX7_isNameOf 11 rfl) (by decide) ?_
    refine wp_istore_n (atd dX7_isNameOf 13 rfl) (Nat.le_of_ble_eq_true rfl) ?_
    refine wp_iconst (v := nI 0) (atd dX7_isNameOf 14 rfl) (by decide) ?_
    refine wp_istore_n (atd dX7_isNameOf 15 rfl) (Nat.le_of_ble_eq_true rfl) ?_
    exact lX7_nm1 (by omega) hsz ht hSc hB hb hNf hNl hab hbs hp h6 hin (nl p) 0 (by omega) c_15 (fun j hj => absurd hj (Nat.not_lt_zero j))
theorem lX7_placeNamed {G : Gx} {d : Nat} (hd : 2 ≤ d) {σ : Hp} {sz fk a b n : Nat} {fp tk v : Int32} {tp bs nf nl : Nat → Nat} {nm : Nat → Int32} (hsz : sz ≤ 600) (ht : ∀ k, tp k < 256) (hSc : OB σ 1 7 (scL sz fk fp tk (nI a) (nI b))) (hB : AI σ 2 600 bs) (hb : ∀ k, k < sz → bs k = tp k) (hNf : AI σ 3 9 nf) (hNl : AI σ 4 9 nl) (hab : a ≤ b) (hbs : b ≤ sz) (hn : n ≤ 9) (hDr : OB σ 7 3 [.int (nI n), .ref (7 + 1)]) (hnm : ∀ p, p < n → (nl p ≤ 6 ∧ nf p + nl p ≤ sz) ∧ (nm p = v ↔ isNm tp (nf p) (nl p) a (b - a))) {w : Option Nat} : ∀ (y : Nat) (p : Nat), p + y = n → cldG nm v y p = w → Wp G mX7_placeNamed d 2 [.ref 1, .ref 7, .int (nI p)] [] σ 0 0 (pI fun r s => r = oI w ∧ s = σ) := by
  obtain ⟨d0, hdd⟩ : ∃ e, d = e + 1 := ⟨d - 1, by omega⟩
  intro y
  induction y with
  | zero =>
    intro p h hv
    obtain rfl : p = n := by omega
    refine wp_iload_n (atd dX7_placeNamed 2 rfl) rfl ?_
    refine wp_aload_n (atd dX7_placeNamed 3 rfl) rfl rfl ?_
    refine wp_get fX7_55 (atd dX7_placeNamed 4 rfl) hDr rfl ?_
    refine wp_icmpN_ge (tgt := 32) (atd dX7_placeNamed 5 rfl) (by decide) (by omega) (by omega) (fun c_7 => ?_) (fun c_7 => ?_)
    ·
      refine wp_iconst (v := -1) (atd dX7_placeNamed 17 rfl) (by decide) ?_
      refine wp_ireti (atd dX7_placeNamed 18 rfl) rfl ?_
      subst hv
      exact ⟨rfl, rfl⟩
    · exfalso; omega
  | succ y ih =>
    intro p h hv
    refine wp_iload_n (atd dX7_placeNamed 2 rfl) rfl ?_
    refine wp_aload_n (atd dX7_placeNamed 3 rfl) rfl rfl ?_
    refine wp_get fX7_55 (atd dX7_placeNamed 4 rfl) hDr rfl ?_
    refine wp_icmpN_ge (tgt := 32) (atd dX7_placeNamed 5 rfl) (by decide) (by omega) (by omega) (fun c_7 => ?_) (fun c_7 => ?_)
    · exfalso; omega
    ·
      refine wp_iload_n (atd dX7_placeNamed 6 rfl) rfl ?_
      refine wp_bipush (v := nI 9) (atd dX7_placeNamed 7 rfl) (by decide) ?_
      refine wp_icmpN_ge (tgt := 32) (atd dX7_placeNamed 8 rfl) (by decide) (by omega) (by omega) (fun c_13 => ?_) (fun c_13 => ?_)
      · exfalso; omega
      ·
        refine wp_aload_n (atd dX7_placeNamed 9 rfl) rfl rfl ?_
        refine wp_iload_n (atd dX7_placeNamed 10 rfl) rfl ?_
        refine wp_cVi hdd [_] (atd dX7_placeNamed 11 rfl) iX7_isNameOf lX7_117 rfl rfl (Nat.le_of_ble_eq_true rfl) hSc rfl (eX7_isNameOf (by omega) hsz ht hSc hB hb hNf hNl hab hbs (by omega) (hnm p (by omega)).1.1 (hnm p (by omega)).1.2) (fun r_18 s_18 h_18 => ?_)
        obtain ⟨rfl, e_18⟩ := h_18
        obtain rfl := e_18.symm
        refine wp_ifB_eq (tgt := 26) (atd dX7_placeNamed 12 rfl) (by decide) (fun c_21 => ?_) (fun c_21 => ?_)
        ·
          refine wp_iincN (c := 1) (atd dX7_placeNamed 15 rfl) rfl ?_
          refine wp_goto (tgt := 2) (atd dX7_placeNamed 16 rfl) (by decide) ?_
          exact ih (p + 1) (by omega) (by rw [← hv, cldG, if_neg (fun z => c_21 ((hnm p (by omega)).2.mp z))])
        ·
          refine wp_iload_n (atd dX7_placeNamed 13 rfl) rfl ?_
          refine wp_ireti (atd dX7_placeNamed 14 rfl) rfl ?_
          rw [← hv, cldG, if_pos ((hnm p (by omega)).2.mpr c_21)]
          exact ⟨rfl, rfl⟩
theorem eX7_placeNamed {G : Gx} {d : Nat} {σ : Hp} (hd : 2 ≤ d) {sz fk a b n : Nat} {fp tk v : Int32} {tp bs nf nl : Nat → Nat} {nm : Nat → Int32} (hsz : sz ≤ 600) (ht : ∀ k, tp k < 256) (hSc : OB σ 1 7 (scL sz fk fp tk (nI a) (nI b))) (hB : AI σ 2 600 bs) (hb : ∀ k, k < sz → bs k = tp k) (hNf : AI σ 3 9 nf) (hNl : AI σ 4 9 nl) (hab : a ≤ b) (hbs : b ≤ sz) (hn : n ≤ 9) (hDr : OB σ 7 3 [.int (nI n), .ref (7 + 1)]) (hnm : ∀ p, p < n → (nl p ≤ 6 ∧ nf p + nl p ≤ sz) ∧ (nm p = v ↔ isNm tp (nf p) (nl p) a (b - a))) : Cl G mX7_placeNamed d [.ref 1, .ref 7] σ 0 0 (pI fun r s => r = oI (cldG nm v n 0) ∧ s = σ) := by
  obtain ⟨d0, hdd⟩ : ∃ e, d = e + 1 := ⟨d - 1, by omega⟩
  refine cl_of (by decide) (by simp [Value.category]) (Nat.le_of_ble_eq_true rfl) ?_
  show Wp G mX7_placeNamed d 0 [.ref 1, .ref 7, .double 0] [] σ 0 0 _
  refine wp_iconst (v := nI 0) (atd dX7_placeNamed 0 rfl) (by decide) ?_
  refine wp_istore_n (atd dX7_placeNamed 1 rfl) (Nat.le_of_ble_eq_true rfl) ?_
  exact lX7_placeNamed (by omega) hsz ht hSc hB hb hNf hNl hab hbs hn hDr hnm n 0 (by omega) rfl
