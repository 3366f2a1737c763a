theorem eX12_thrown {G : Gx} {d : Nat} {σ : Hp} (hd : 0 ≤ d) {m : Nat} {α : Nat → Int32} {B : Nat → Nat → Int32} (hM : MA σ σ m α B) : Cl G mX12_thrown d [.ref m] σ 0 0 (pI fun r s => r = α 0 ∧ s = σ) := by
  refine cl_of (by decide) (by simp [Value.category]) (Nat.le_of_ble_eq_true rfl) ?_
  show Wp G mX12_thrown d 0 [.ref m] [] σ 0 0 _
  refine wp_aload_n (atd dX12_thrown 0 rfl) rfl rfl ?_
  refine wp_get fX12_75 (atd dX12_thrown 1 rfl) hM.1.1 rfl ?_
  refine wp_ireti (atd dX12_thrown 2 rfl) rfl ?_
  exact ⟨rfl, rfl⟩
def fltF (w a b : Int32) : Int32 := if w = 0 then a else if w = nI 1 then b else -1
theorem eX12_fault {G : Gx} {d : Nat} {σ : Hp} (hd : 0 ≤ d) {m : Nat} {α : Nat → Int32} {B : Nat → Nat → Int32} (hM : MA σ σ m α B) {w : Int32} : Cl G mX12_fault d [.ref m, .int w] σ 0 0 (pI fun r s => r = fltF w (α 12) (α 13) ∧ MA σ s m (upd α 0 (nI 0)) B) := by
  refine cl_of (by decide) (by simp [Value.category]) (Nat.le_of_ble_eq_true rfl) ?_
  show Wp G mX12_fault d 0 [.ref m, .int w] [] σ 0 0 _
  refine wp_aload_n (atd dX12_fault 0 rfl) rfl rfl ?_
  refine wp_iconst (v := nI 0) (atd dX12_fault 1 rfl) (by decide) ?_
  refine wp_putM fX12_75 (atd dX12_fault 2 rfl) hM rfl (fun σ hM => ?_)
  refine wp_iload_n (atd dX12_fault 3 rfl) rfl ?_
  refine wp_if_ne (tgt := 16) (atd dX12_fault 4 rfl) (by decide) (fun c_6 => ?_) (fun c_6 => ?_)
  ·
    refine wp_iload_n (atd dX12_fault 8 rfl) rfl ?_
    refine wp_iconst (v := nI 1) (atd dX12_fault 9 rfl) (by decide) ?_
    refine wp_icmp_ne (tgt := 28) (atd dX12_fault 10 rfl) (by decide) (fun c_18 => ?_) (fun c_18 => ?_)
    ·
      refine wp_iconst (v := -1) (atd dX12_fault 14 rfl) (by decide) ?_
      refine wp_ireti (atd dX12_fault 15 rfl) rfl ?_
      refine ⟨?_, hM⟩
      unfold fltF
      rw [if_neg c_6, if_neg c_18]
    ·
      refine wp_aload_n (atd dX12_fault 11 rfl) rfl rfl ?_
      refine wp_get fX12_22 (atd dX12_fault 12 rfl) hM.1.1 rfl ?_
      refine wp_goto (tgt := 29) (atd dX12_fault 13 rfl) (by decide) ?_
      refine wp_ireti (atd dX12_fault 15 rfl) rfl ?_
      refine ⟨?_, hM⟩
      unfold fltF
      rw [if_neg c_6, if_pos (Classical.not_not.mp c_18)]; rfl
  ·
    refine wp_aload_n (atd dX12_fault 5 rfl) rfl rfl ?_
    refine wp_get fX12_159 (atd dX12_fault 6 rfl) hM.1.1 rfl ?_
    refine wp_goto (tgt := 29) (atd dX12_fault 7 rfl) (by decide) ?_
    refine wp_ireti (atd dX12_fault 15 rfl) rfl ?_
    refine ⟨?_, hM⟩
    unfold fltF
    rw [if_pos (Classical.not_not.mp c_6)]; rfl
theorem eX12_distance {G : Gx} {d : Nat} {σ : Hp} (hd : 2 ≤ d) {m n : Nat} {α : Nat → Int32} {B : Nat → Nat → Int32} {nb : Nat → Nat} (hM : MA σ σ m α B) (hp : α 2 = nI n) (hn : n ≤ 9) (hb : ∀ p, p < n → B 1 p = nI (nb p)) (hw : ∀ p, nb p < 512) {f u : Int32} : Cl G mX12_distance d [.ref m, .int f, .int u] σ 0 0 (pI fun r s => MA σ s m (upd α 0 (bI (¬ (isP f n ∧ isP u n)))) B ∧ r = atP f n (fun j => atP u n (fun k => oI (stp nb n k 10 0 (2 ^ j))) (nI 0)) (nI 0)) := by
  obtain ⟨d0, hdd⟩ : ∃ e, d = e + 1 := ⟨d - 1, by omega⟩
  refine cl_of (by decide) (by simp [Value.category]) (Nat.le_of_ble_eq_true rfl) ?_
  show Wp G mX12_distance d 0 [.ref m, .int f, .int u] [] σ 0 0 _
  refine wp_aload_n (atd dX12_distance 0 rfl) rfl rfl ?_
  refine wp_aload_n (atd dX12_distance 1 rfl) rfl rfl ?_
  refine wp_iload_n (atd dX12_distance 2 rfl) rfl ?_
  refine wp_cVi hdd [_] (atd dX12_distance 3 rfl) iX12_isPlace lX12_181 rfl rfl (Nat.le_of_ble_eq_true rfl) hM.1.1 rfl (eX12_isPlace (by omega) hM.self hp hn) (fun r_3 s_3 h_3 => ?_)
  obtain ⟨rfl, rfl⟩ := h_3
  refine wp_ifB_eq (tgt := 21) (atd dX12_distance 4 rfl) (by decide) (fun c_6 => ?_) (fun c_6 => ?_)
  ·
    refine wp_iconst (v := nI 1) (atd dX12_distance 11 rfl) (by decide) ?_
    refine wp_putM fX12_75 (atd dX12_distance 12 rfl) hM rfl (fun σ hM => ?_)
    refine wp_aload_n (atd dX12_distance 13 rfl) rfl rfl ?_
    refine wp_get fX12_75 (atd dX12_distance 14 rfl) hM.1.1 rfl ?_
    refine wp_ifN_ne (tgt := 42) (atd dX12_distance 15 rfl) (by decide) (by omega) (fun c_29 => ?_) (fun c_29 => ?_)
    ·
      refine wp_iconst (v := nI 0) (atd dX12_distance 22 rfl) (by decide) ?_
      refine wp_ireti (atd dX12_distance 23 rfl) rfl ?_
      refine ⟨?_, ?_⟩
      · rw [bI_t (show ¬ (isP f n ∧ isP u n) from fun z => c_6 z.1)]; exact hM
      · rw [atP_f c_6]
    · exact absurd c_29 (by decide)
  ·
    obtain ⟨j, hj, rfl⟩ := isP_of hn c_6
    refine wp_aload_n (atd dX12_distance 5 rfl) rfl rfl ?_
    refine wp_iload_n (atd dX12_distance 6 rfl) rfl ?_
    refine wp_cVi hdd [_] (atd dX12_distance 7 rfl) iX12_isPlace lX12_181 rfl rfl (Nat.le_of_ble_eq_true rfl) hM.1.1 rfl (eX12_isPlace (by omega) hM.self hp hn) (fun r_11 s_11 h_11 => ?_)
    obtain ⟨rfl, rfl⟩ := h_11
    refine wp_ifB_eq (tgt := 21) (atd dX12_distance 8 rfl) (by decide) (fun c_14 => ?_) (fun c_14 => ?_)
    ·
      refine wp_iconst (v := nI 1) (atd dX12_distance 11 rfl) (by decide) ?_
      refine wp_putM fX12_75 (atd dX12_distance 12 rfl) hM rfl (fun σ hM => ?_)
      refine wp_aload_n (atd dX12_distance 13 rfl) rfl rfl ?_
      refine wp_get fX12_75 (atd dX12_distance 14 rfl) hM.1.1 rfl ?_
      refine wp_ifN_ne (tgt := 42) (atd dX12_distance 15 rfl) (by decide) (by omega) (fun c_29 => ?_) (fun c_29 => ?_)
      ·
        refine wp_iconst (v := nI 0) (atd dX12_distance 22 rfl) (by decide) ?_
        refine wp_ireti (atd dX12_distance 23 rfl) rfl ?_
        refine ⟨?_, ?_⟩
        · rw [bI_t (show ¬ (isP (nI j) n ∧ isP u n) from fun z => c_14 z.2)]; exact hM
        · rw [atP_t hn hj, atP_f c_14]
      · exact absurd c_29 (by decide)
    ·
      obtain ⟨k, hk, rfl⟩ := isP_of hn c_14
      refine wp_iconst (v := nI 0) (atd dX12_distance 9 rfl) (by decide) ?_
      refine wp_goto (tgt := 22) (atd dX12_distance 10 rfl) (by decide) ?_
      refine wp_putM fX12_75 (atd dX12_distance 12 rfl) hM rfl (fun σ hM => ?_)
      refine wp_aload_n (atd dX12_distance 13 rfl) rfl rfl ?_
      refine wp_get fX12_75 (atd dX12_distance 14 rfl) hM.1.1 rfl ?_
      refine wp_ifN_ne (tgt := 42) (atd dX12_distance 15 rfl) (by decide) (by omega) (fun c_29 => ?_) (fun c_29 => ?_)
      · exact absurd c_29 (by decide)
      ·
        refine wp_aload_n (atd dX12_distance 16 rfl) rfl rfl ?_
        refine wp_iload_n (atd dX12_distance 17 rfl) rfl ?_
        refine wp_iload_n (atd dX12_distance 18 rfl) rfl ?_
        refine wp_iconst (v := -1) (atd dX12_distance 19 rfl) (by decide) ?_
        refine wp_cVi hdd [_, _, _] (atd dX12_distance 20 rfl) iX12_steps lX12_184 rfl rfl (Nat.le_of_ble_eq_true rfl) hM.1.1 rfl (eX12_steps0 (by omega) hM.self hp hn hb hw hj hk) (fun r_36 s_36 h_36 => ?_)
        obtain ⟨rfl, rfl⟩ := h_36
        refine wp_goto (tgt := 43) (atd dX12_distance 21 rfl) (by decide) ?_
        refine wp_ireti (atd dX12_distance 23 rfl) rfl ?_
        refine ⟨?_, ?_⟩
        · rw [bI_f (fun z => z ⟨c_6, c_14⟩)]; exact hM
        · rw [atP_t hn hj, atP_t hn hk]
theorem eX12_corner {G : Gx} {d : Nat} {σ : Hp} (hd : 2 ≤ d) {m n : Nat} {α : Nat → Int32} {B : Nat → Nat → Int32} {nb : Nat → Nat} (hM : MA σ σ m α B) (hp : α 2 = nI n) (hn : n ≤ 9) (hb : ∀ p, p < n → B 1 p = nI (nb p)) (hw : ∀ p, nb p < 512) {f : Int32} : Cl G mX12_corner d [.ref m, .int f] σ 0 0 (pI fun r s => MA σ s m (upd α 0 (bI (¬ isP f n))) B ∧ r = atP f n (fun j => oI (crn nb n j (2 ^ n - 1) n 0)) (nI 0)) := by
  obtain ⟨d0, hdd⟩ : ∃ e, d = e + 1 := ⟨d - 1, by omega⟩
  refine cl_of (by decide) (by simp [Value.category]) (Nat.le_of_ble_eq_true rfl) ?_
  show Wp G mX12_corner d 0 [.ref m, .int f] [] σ 0 0 _
  refine wp_aload_n (atd dX12_corner 0 rfl) rfl rfl ?_
  refine wp_aload_n (atd dX12_corner 1 rfl) rfl rfl ?_
  refine wp_iload_n (atd dX12_corner 2 rfl) rfl ?_
  refine wp_cVi hdd [_] (atd dX12_corner 3 rfl) iX12_isPlace lX12_181 rfl rfl (Nat.le_of_ble_eq_true rfl) hM.1.1 rfl (eX12_isPlace (by omega) hM.self hp hn) (fun r_3 s_3 h_3 => ?_)
  obtain ⟨rfl, rfl⟩ := h_3
  refine wp_ifB_eq (tgt := 13) (atd dX12_corner 4 rfl) (by decide) (fun c_6 => ?_) (fun c_6 => ?_)
  ·
    refine wp_iconst (v := nI 1) (atd dX12_corner 7 rfl) (by decide) ?_
    refine wp_putM fX12_75 (atd dX12_corner 8 rfl) hM rfl (fun σ hM => ?_)
    refine wp_aload_n (atd dX12_corner 9 rfl) rfl rfl ?_
    refine wp_get fX12_75 (atd dX12_corner 10 rfl) hM.1.1 rfl ?_
    refine wp_ifN_ne (tgt := 36) (atd dX12_corner 11 rfl) (by decide) (by omega) (fun c_21 => ?_) (fun c_21 => ?_)
    ·
      refine wp_iconst (v := nI 0) (atd dX12_corner 18 rfl) (by decide) ?_
      refine wp_ireti (atd dX12_corner 19 rfl) rfl ?_
      refine ⟨?_, ?_⟩
      · rw [bI_t c_6]; exact hM
      · rw [atP_f c_6]
    · exact absurd c_21 (by decide)
  ·
    obtain ⟨j, hj, rfl⟩ := isP_of hn c_6
    refine wp_iconst (v := nI 0) (atd dX12_corner 5 rfl) (by decide) ?_
    refine wp_goto (tgt := 14) (atd dX12_corner 6 rfl) (by decide) ?_
    refine wp_putM fX12_75 (atd dX12_corner 8 rfl) hM rfl (fun σ hM => ?_)
    refine wp_aload_n (atd dX12_corner 9 rfl) rfl rfl ?_
    refine wp_get fX12_75 (atd dX12_corner 10 rfl) hM.1.1 rfl ?_
    refine wp_ifN_ne (tgt := 36) (atd dX12_corner 11 rfl) (by decide) (by omega) (fun c_21 => ?_) (fun c_21 => ?_)
    · exact absurd c_21 (by decide)
    ·
      refine wp_aload_n (atd dX12_corner 12 rfl) rfl rfl ?_
      refine wp_iload_n (atd dX12_corner 13 rfl) rfl ?_
      refine wp_aload_n (atd dX12_corner 14 rfl) rfl rfl ?_
      refine wp_cVi hdd [] (atd dX12_corner 15 rfl) iX12_allPlaces lX12_191 rfl rfl (Nat.le_of_ble_eq_true rfl) hM.1.1 rfl (eX12_allPlaces (by omega) hM.self hp hn) (fun r_27 s_27 h_27 => ?_)
      obtain ⟨rfl, rfl⟩ := h_27
      refine wp_cVi hdd [_, _] (atd dX12_corner 16 rfl) iX12_cornerBy lX12_231 rfl rfl (Nat.le_of_ble_eq_true rfl) hM.1.1 rfl (eX12_cornerBy (by omega) hM.self hp hn hb hw hj (by have := pow_le9 hn; omega)) (fun r_30 s_30 h_30 => ?_)
      obtain ⟨rfl, rfl⟩ := h_30
      refine wp_goto (tgt := 37) (atd dX12_corner 17 rfl) (by decide) ?_
      refine wp_ireti (atd dX12_corner 19 rfl) rfl ?_
      refine ⟨?_, ?_⟩
      · rw [bI_f (fun z => z c_6)]; exact hM
      · rw [atP_t hn hj]
theorem dis_inv (nb : Nat → Nat) (n : Nat) (hn : n ≤ 9) : ∀ (k : Nat) (D : DisT), D.1 < 2 ^ n → D.2.1 + cnt D.1 ≤ n → (dis nb n k D).1 < 2 ^ n ∧ (dis nb n k D).2.1 + cnt (dis nb n k D).1 ≤ n
  | 0, D, h1, h2 => ⟨h1, h2⟩
  | k + 1, D, h1, h2 => by
    unfold dis
    cases hq : lcr nb n D.1 n 0 with
    | none => exact ⟨h1, h2⟩
    | some x =>
      obtain ⟨p, q⟩ := x
      have h9 := pow_le9 hn
      obtain ⟨-, g2, g3, -⟩ := lcr_spec hq
      have hc := cnt_dif p (by omega) D.1 (by omega) g3
      exact dis_inv nb n hn k _ (dif_lt2 h1) (by show D.2.1 + 1 + cnt (dif D.1 (2 ^ p)) ≤ n; omega)
theorem dis0_lt (nb : Nat → Nat) {n : Nat} (hn : n ≤ 9) : (dis0 nb n).1 < 2 ^ n ∧ (dis0 nb n).2.1 ≤ n := by
  have h8 := pow_pos9 n
  obtain ⟨h1, h2⟩ := dis_inv nb n hn 10 (2 ^ n - 1, 0, fun _ => 0, fun _ => 0) (by show 2 ^ n - 1 < 2 ^ n; omega) (by show 0 + cnt (2 ^ n - 1) ≤ n; rw [cnt_all n hn]; omega)
  exact ⟨h1, by unfold dis0; omega⟩
/-- every place that is gone comes to one that is left, or goes later -/
def DisW (n : Nat) (D : DisT) : Prop := ∀ p, p < n → D.1.testBit p = false → ∃ i, i < D.2.1 ∧ D.2.2.1 i = p ∧ D.2.2.2 p < n ∧ (D.1.testBit (D.2.2.2 p) = true ∨ ∃ j, i < j ∧ j < D.2.1 ∧ D.2.2.1 j = D.2.2.2 p)
theorem dis_W (nb : Nat → Nat) (n : Nat) : ∀ (k : Nat) (D : DisT), D.1 < 2 ^ n → DisW n D → DisW n (dis nb n k D)
  | 0, D, _, h => h
  | k + 1, D, h1, h => by
    unfold dis
    cases hq : lcr nb n D.1 n 0 with
    | none => exact h
    | some x =>
      obtain ⟨p', q⟩ := x
      obtain ⟨-, g2, g3, g4⟩ := lcr_spec hq
      obtain ⟨c1, c2, c3⟩ := crn_lt g4
      refine dis_W nb n k _ (dif_lt2 h1) ?_
      intro p hp hb
      have hb' : (D.1.testBit p && !decide (p' = p)) = false := by
        have hb0 : (dif D.1 (2 ^ p')).testBit p = false := hb
        rw [dif_bit, bit_pow] at hb0
        exact hb0
      by_cases hpp : p = p'
      · subst hpp
        refine ⟨D.2.1, by show _ < D.2.1 + 1; omega, by simp [va_up], by simp [va_up]; omega, Or.inl ?_⟩
        show (dif D.1 (2 ^ p)).testBit (va_up D.2.2.2 p q p) = true
        simp [va_up, dif_bit, bit_pow, c2, Ne.symm c3]
      · have hb2 : D.1.testBit p = false := by simpa [Ne.symm hpp] using hb'
        obtain ⟨i, i1, i2, i3, i4⟩ := h p hp hb2
        refine ⟨i, by show _ < D.2.1 + 1; omega, ?_, ?_, ?_⟩
        · show va_up D.2.2.1 D.2.1 p' i = p
          simp [va_up, Nat.ne_of_lt i1, i2]
        · show va_up D.2.2.2 p' q p < n
          simp [va_up, hpp, i3]
        · show (dif D.1 (2 ^ p')).testBit (va_up D.2.2.2 p' q p) = true ∨ _
          have e : va_up D.2.2.2 p' q p = D.2.2.2 p := by simp [va_up, hpp]
          rcases i4 with i4 | ⟨j, j1, j2, j3⟩
          · by_cases hz : D.2.2.2 p = p'
            · exact Or.inr ⟨D.2.1, i1, by show _ < D.2.1 + 1; omega, by show va_up D.2.2.1 D.2.1 p' D.2.1 = va_up D.2.2.2 p' q p; rw [e]; simp [va_up, hz]⟩
            · refine Or.inl ?_
              rw [e, dif_bit, bit_pow, i4]
              simp [Ne.symm hz]
          · exact Or.inr ⟨j, j1, by show _ < D.2.1 + 1; omega, by show va_up D.2.2.1 D.2.1 p' j = va_up D.2.2.2 p' q p; rw [e]; simp [va_up, Nat.ne_of_lt j2, j3]⟩
theorem dis0_W (nb : Nat → Nat) {n : Nat} : DisW n (dis0 nb n) := by
  have h8 := pow_pos9 n
  refine dis_W nb n 10 _ (by show 2 ^ n - 1 < 2 ^ n; omega) (fun p hp hb => ?_)
  have hb2 : (2 ^ n - 1).testBit p = false := hb
  rw [Nat.testBit_two_pow_sub_one] at hb2
  simp at hb2
  omega
def DisV (D : DisT) : Prop := (∀ i, i < D.2.1 → D.1.testBit (D.2.2.1 i) = false) ∧ ∀ i j, i < D.2.1 → j < D.2.1 → D.2.2.1 i = D.2.2.1 j → i = j
theorem dis_V (nb : Nat → Nat) (n : Nat) : ∀ (k : Nat) (D : DisT), DisV D → DisV (dis nb n k D)
  | 0, D, h => h
  | k + 1, D, h => by
    unfold dis
    cases hq : lcr nb n D.1 n 0 with
    | none => exact h
    | some x =>
      obtain ⟨p', q⟩ := x
      obtain ⟨-, -, g3, -⟩ := lcr_spec hq
      have hne : ∀ i, i < D.2.1 → D.2.2.1 i ≠ p' := fun i hi e => by
        have := h.1 i hi
        rw [e, g3] at this
        cases this
      refine dis_V nb n k _ ⟨fun i hi => ?_, fun i j hi hj e => ?_⟩
      · show (dif D.1 (2 ^ p')).testBit (va_up D.2.2.1 D.2.1 p' i) = false
        by_cases hi2 : i = D.2.1
        · subst hi2; simp [va_up, dif_bit, bit_pow]
        · have hi3 : i < D.2.1 := by have : i < D.2.1 + 1 := hi; omega
          simp [va_up, hi2, dif_bit, h.1 i hi3]
      · have hi1 : i < D.2.1 + 1 := hi
        have hj1 : j < D.2.1 + 1 := hj
        have e' : va_up D.2.2.1 D.2.1 p' i = va_up D.2.2.1 D.2.1 p' j := e
        by_cases hi2 : i = D.2.1
        · by_cases hj2 : j = D.2.1
          · omega
          · simp only [va_up, if_pos hi2, if_neg hj2] at e'
            exact absurd e'.symm (hne j (by omega))
        · by_cases hj2 : j = D.2.1
          · simp only [va_up, if_neg hi2, if_pos hj2] at e'
            exact absurd e' (hne i (by omega))
          · simp only [va_up, if_neg hi2, if_neg hj2] at e'
            exact h.2 i j (by omega) (by omega) e'
theorem dis0_V (nb : Nat → Nat) (n : Nat) : DisV (dis0 nb n) := dis_V nb n 10 _ ⟨fun i hi => absurd hi (Nat.not_lt_zero i), fun i j hi => absurd hi (Nat.not_lt_zero i)⟩
def img (D : DisT) : Nat → Nat → Nat
  | 0, p => p
  | k + 1, p => if D.1.testBit p = true then p else img D k (D.2.2.2 p)
theorem eX12_left {G : Gx} {d : Nat} {σ : Hp} (hd : 3 ≤ d) {m n : Nat} {α : Nat → Int32} {B : Nat → Nat → Int32} {nb : Nat → Nat} (hM : MA σ σ m α B) (hp : α 2 = nI n) (hn : n ≤ 9) (hb : ∀ p, p < n → B 1 p = nI (nb p)) (hw : ∀ p, nb p < 512) (hds : DisOk α B nb n) : Cl G mX12_left d [.ref m] σ 0 0 (pI fun r s => r = nI (dis0 nb n).1 ∧ ∃ α1 B1, MA σ s m α1 B1 ∧ frm [0, 17, 24, 25] α α1 ∧ frm [5, 6] B B1 ∧ α1 0 = nI 0 ∧ α1 17 = nI 1 ∧ DR α1 B1 n (dis0 nb n)) := by
  obtain ⟨d0, hdd⟩ : ∃ e, d = e + 1 := ⟨d - 1, by omega⟩
  refine cl_of (by decide) (by simp [Value.category]) (Nat.le_of_ble_eq_true rfl) ?_
  show Wp G mX12_left d 0 [.ref m] [] σ 0 0 _
  refine wp_aload_n (atd dX12_left 0 rfl) rfl rfl ?_
  refine wp_iconst (v := nI 0) (atd dX12_left 1 rfl) (by decide) ?_
  refine wp_putM fX12_75 (atd dX12_left 2 rfl) hM rfl (fun σ hM => ?_)
  refine wp_aload_n (atd dX12_left 3 rfl) rfl rfl ?_
  refine wp_cVv hdd [] (atd dX12_left 4 rfl) iX12_dismantle lX12_203 rfl rfl (Nat.le_of_ble_eq_true rfl) hM.1.1 rfl (eX12_dismantle (by omega) hM.self hp hn hb hw hds) (fun s_6 h_6 => ?_)
  obtain ⟨α1, B1, hM1, hfa, hfb, h17, hDR⟩ := h_6
  have hM := hM.trans hM1
  refine wp_aload_n (atd dX12_left 5 rfl) rfl rfl ?_
  refine wp_get fX12_206 (atd dX12_left 6 rfl) hM.1.1 (congrArg (fun z => some (Value.int z)) hDR.1) ?_
  refine wp_ireti (atd dX12_left 7 rfl) rfl ?_
  exact ⟨rfl, ⟨α1, B1, hM, (frm.up (f := α) frm.rf (by decide)).tr (hfa.mono (by decide)), hfb, (hfa 0 (by decide)).trans rfl, h17, hDR⟩⟩
def goesF (D : DisT) (i : Int32) : Int32 := if i = -1 then nI D.2.1 else atP i D.2.1 (fun j => nI (D.2.2.1 j)) (-1)
theorem eX12_goes {G : Gx} {d : Nat} {σ : Hp} (hd : 3 ≤ d) {m n : Nat} {α : Nat → Int32} {B : Nat → Nat → Int32} {nb : Nat → Nat} (hM : MA σ σ m α B) (hp : α 2 = nI n) (hn : n ≤ 9) (hb : ∀ p, p < n → B 1 p = nI (nb p)) (hw : ∀ p, nb p < 512) (hds : DisOk α B nb n) {i : Int32} : Cl G mX12_goes d [.ref m, .int i] σ 0 0 (pI fun r s => r = goesF (dis0 nb n) i ∧ ∃ α1 B1, MA σ s m α1 B1 ∧ frm [0, 17, 24, 25] α α1 ∧ frm [5, 6] B B1 ∧ α1 0 = nI 0 ∧ α1 17 = nI 1 ∧ DR α1 B1 n (dis0 nb n)) := by
  obtain ⟨d0, hdd⟩ : ∃ e, d = e + 1 := ⟨d - 1, by omega⟩
  refine cl_of (by decide) (by simp [Value.category]) (Nat.le_of_ble_eq_true rfl) ?_
  show Wp G mX12_goes d 0 [.ref m, .int i] [] σ 0 0 _
  refine wp_aload_n (atd dX12_goes 0 rfl) rfl rfl ?_
  refine wp_iconst (v := nI 0) (atd dX12_goes 1 rfl) (by decide) ?_
  refine wp_putM fX12_75 (atd dX12_goes 2 rfl) hM rfl (fun σ hM => ?_)
  refine wp_aload_n (atd dX12_goes 3 rfl) rfl rfl ?_
  refine wp_cVv hdd [] (atd dX12_goes 4 rfl) iX12_dismantle lX12_203 rfl rfl (Nat.le_of_ble_eq_true rfl) hM.1.1 rfl (eX12_dismantle (by omega) hM.self hp hn hb hw hds) (fun s_6 h_6 => ?_)
  obtain ⟨α1, B1, hM1, hfa, hfb, h17, hDR⟩ := h_6
  have hM := hM.trans hM1
  have hg9 : (dis0 nb n).2.1 ≤ 9 := Nat.le_trans (dis0_lt nb hn).2 hn
  refine wp_iload_n (atd dX12_goes 5 rfl) rfl ?_
  refine wp_iconst (v := -1) (atd dX12_goes 6 rfl) (by decide) ?_
  refine wp_icmp_ne (tgt := 21) (atd dX12_goes 7 rfl) (by decide) (fun c_11 => ?_) (fun c_11 => ?_)
  ·
    refine wp_iload_n (atd dX12_goes 11 rfl) rfl ?_
    refine wp_iconst (v := nI 0) (atd dX12_goes 12 rfl) (by decide) ?_
    refine wp_aload_n (atd dX12_goes 13 rfl) rfl rfl ?_
    refine wp_get fX12_228 (atd dX12_goes 14 rfl) hM.1.1 (congrArg (fun z => some (Value.int z)) hDR.2.1) ?_
    refine wp_iconst (v := nI 1) (atd dX12_goes 15 rfl) (by decide) ?_
    refine wp_isub (atd dX12_goes 16 rfl) ?_
    refine wp_cSi hdd [_, _, _] (atd dX12_goes 17 rfl) iX12_in lX12_81 rfl rfl (Nat.le_of_ble_eq_true rfl) (eX12_in (by omega)) (fun r_29 s_29 h_29 => ?_)
    obtain ⟨rfl, rfl⟩ := h_29
    rw [bI_c (isP_iff hg9)]
    refine wp_ifB_eq (tgt := 44) (atd dX12_goes 18 rfl) (by decide) (fun c_32 => ?_) (fun c_32 => ?_)
    ·
      refine wp_iconst (v := -1) (atd dX12_goes 24 rfl) (by decide) ?_
      refine wp_ireti (atd dX12_goes 25 rfl) rfl ?_
      refine ⟨?_, ⟨α1, B1, hM, (frm.up (f := α) frm.rf (by decide)).tr (hfa.mono (by decide)), hfb, (hfa 0 (by decide)).trans rfl, h17, hDR⟩⟩
      unfold goesF
      rw [if_neg c_11, atP_f c_32]
    ·
      obtain ⟨j, hj, rfl⟩ := isP_of hg9 c_32
      refine wp_aload_n (atd dX12_goes 19 rfl) rfl rfl ?_
      refine wp_get fX12_29 (atd dX12_goes 20 rfl) hM.1.1 rfl ?_
      refine wp_iload_n (atd dX12_goes 21 rfl) rfl ?_
      refine wp_ialdN (atd dX12_goes 22 rfl) hM.a5 (show _ < 9 from by omega) (Nat.le_of_ble_eq_true rfl) ?_
      rw [hDR.2.2.1 j hj]
      refine wp_goto (tgt := 45) (atd dX12_goes 23 rfl) (by decide) ?_
      refine wp_ireti (atd dX12_goes 25 rfl) rfl ?_
      refine ⟨?_, ⟨α1, B1, hM, (frm.up (f := α) frm.rf (by decide)).tr (hfa.mono (by decide)), hfb, (hfa 0 (by decide)).trans rfl, h17, hDR⟩⟩
      unfold goesF
      rw [if_neg c_11, atP_t hg9 hj]
  ·
    refine wp_aload_n (atd dX12_goes 8 rfl) rfl rfl ?_
    refine wp_get fX12_228 (atd dX12_goes 9 rfl) hM.1.1 (congrArg (fun z => some (Value.int z)) hDR.2.1) ?_
    refine wp_goto (tgt := 45) (atd dX12_goes 10 rfl) (by decide) ?_
    refine wp_ireti (atd dX12_goes 25 rfl) rfl ?_
    refine ⟨?_, ⟨α1, B1, hM, (frm.up (f := α) frm.rf (by decide)).tr (hfa.mono (by decide)), hfb, (hfa 0 (by decide)).trans rfl, h17, hDR⟩⟩
    unfold goesF
    rw [if_pos (Classical.not_not.mp c_11)]
theorem lX12_image {G : Gx} {d : Nat} {σ0 σ : Hp} (hd : 1 ≤ d) {m n v : Nat} {α : Nat → Int32} {B : Nat → Nat → Int32} {D : DisT} {w : Int32} (hn : n ≤ 9) (hl : D.1 < 512) (hg : D.2.1 ≤ 9) (hW : DisW n D) (hV : DisV D) (hM : MA σ0 σ m α B) (hDR : DR α B n D) : ∀ (k p : Nat), p < n → (D.1.testBit p = true ∨ ∃ i, i < D.2.1 ∧ D.2.2.1 i = p ∧ D.2.1 < i + k ∧ D.2.2.2 p < n ∧ (D.1.testBit (D.2.2.2 p) = true ∨ ∃ j, i < j ∧ j < D.2.1 ∧ D.2.2.1 j = D.2.2.2 p)) → img D (k + 1) p = v → Wp G mX12_image d 21 [.ref m, .int w, .int (nI p)] [] σ 0 0 (pI fun r s => r = nI v ∧ s = σ) := by
  obtain ⟨d0, hdd⟩ : ∃ e, d = e + 1 := ⟨d - 1, by omega⟩
  intro k
  induction k with
  | zero =>
    intro p hpn hm hv
    have hbit : D.1.testBit p = true := by
      rcases hm with h | ⟨i, h1, h2, h3, h4⟩
      · exact h
      · omega
    refine wp_aload_n (atd dX12_image 13 rfl) rfl rfl ?_
    refine wp_get fX12_206 (atd dX12_image 14 rfl) hM.1.1 (congrArg (fun z => some (Value.int z)) hDR.1) ?_
    refine wp_iload_n (atd dX12_image 15 rfl) rfl ?_
    refine wp_cSi hdd [_, _] (atd dX12_image 16 rfl) iX12_isOf lX12_149 rfl rfl (Nat.le_of_ble_eq_true rfl) (eX12_isOf (by omega) (by omega) (by omega)) (fun r_26 s_26 h_26 => ?_)
    obtain ⟨rfl, rfl⟩ := h_26
    refine wp_ifB_ne (tgt := 42) (atd dX12_image 17 rfl) (by decide) (fun c_29 => ?_) (fun c_29 => ?_)
    ·
      refine wp_iload_n (atd dX12_image 24 rfl) rfl ?_
      refine wp_ireti (atd dX12_image 25 rfl) rfl ?_
      exact ⟨by rw [← hv]; simp [img, hbit], rfl⟩
    · exact absurd hbit c_29
  | succ k ih =>
    intro p hpn hm hv
    refine wp_aload_n (atd dX12_image 13 rfl) rfl rfl ?_
    refine wp_get fX12_206 (atd dX12_image 14 rfl) hM.1.1 (congrArg (fun z => some (Value.int z)) hDR.1) ?_
    refine wp_iload_n (atd dX12_image 15 rfl) rfl ?_
    refine wp_cSi hdd [_, _] (atd dX12_image 16 rfl) iX12_isOf lX12_149 rfl rfl (Nat.le_of_ble_eq_true rfl) (eX12_isOf (by omega) (by omega) (by omega)) (fun r_26 s_26 h_26 => ?_)
    obtain ⟨rfl, rfl⟩ := h_26
    refine wp_ifB_ne (tgt := 42) (atd dX12_image 17 rfl) (by decide) (fun c_29 => ?_) (fun c_29 => ?_)
    ·
      refine wp_iload_n (atd dX12_image 24 rfl) rfl ?_
      refine wp_ireti (atd dX12_image 25 rfl) rfl ?_
      exact ⟨by rw [← hv]; simp [img, c_29], rfl⟩
    ·
      refine wp_aload_n (atd dX12_image 18 rfl) rfl rfl ?_
      refine wp_get fX12_32 (atd dX12_image 19 rfl) hM.1.1 rfl ?_
      refine wp_iload_n (atd dX12_image 20 rfl) rfl ?_
      refine wp_ialdN (atd dX12_image 21 rfl) hM.a6 (show _ < 9 from by omega) (Nat.le_of_ble_eq_true rfl) ?_
      rw [hDR.2.2.2 p hpn (by simpa using c_29)]
      refine wp_istore_n (atd dX12_image 22 rfl) (Nat.le_of_ble_eq_true rfl) ?_
      refine wp_goto (tgt := 21) (atd dX12_image 23 rfl) (by decide) ?_
      rcases hm with h | ⟨i, h1, h2, h3, h4, h5⟩
      · exact absurd h c_29
      refine ih _ h4 ?_ (by rw [← hv]; rw [show img D (k + 1 + 1) p = img D (k + 1) (D.2.2.2 p) from if_neg c_29])
      by_cases hz : D.1.testBit (D.2.2.2 p) = true
      · exact Or.inl hz
      rcases h5 with h5 | ⟨j, j1, j2, j3⟩
      · exact absurd h5 hz
      obtain ⟨i2, g1, g2, g3, g4⟩ := hW _ h4 (by simpa using hz)
      have hij : j = i2 := hV.2 j i2 j2 g1 (j3.trans g2.symm)
      subst hij
      exact Or.inr ⟨j, g1, g2, by omega, g3, g4⟩
theorem eX12_image {G : Gx} {d : Nat} {σ : Hp} (hd : 3 ≤ d) {m n : Nat} {α : Nat → Int32} {B : Nat → Nat → Int32} {nb : Nat → Nat} (hM : MA σ σ m α B) (hp : α 2 = nI n) (hn : n ≤ 9) (hb : ∀ p, p < n → B 1 p = nI (nb p)) (hw : ∀ p, nb p < 512) (hds : DisOk α B nb n) {w : Int32} : Cl G mX12_image d [.ref m, .int w] σ 0 0 (pI fun r s => r = atP w n (fun p => nI (img (dis0 nb n) 11 p)) (-1) ∧ ((¬ isP w n ∧ MA σ s m (upd α 0 (nI 0)) B) ∨ ∃ α1 B1, MA σ s m α1 B1 ∧ frm [0, 17, 24, 25] α α1 ∧ frm [5, 6] B B1 ∧ α1 0 = nI 0 ∧ α1 17 = nI 1 ∧ DR α1 B1 n (dis0 nb n))) := by
  obtain ⟨d0, hdd⟩ : ∃ e, d = e + 1 := ⟨d - 1, by omega⟩
  refine cl_of (by decide) (by simp [Value.category]) (Nat.le_of_ble_eq_true rfl) ?_
  show Wp G mX12_image d 0 [.ref m, .int w, .double 0] [] σ 0 0 _
  refine wp_aload_n (atd dX12_image 0 rfl) rfl rfl ?_
  refine wp_iconst (v := nI 0) (atd dX12_image 1 rfl) (by decide) ?_
  refine wp_putM fX12_75 (atd dX12_image 2 rfl) hM rfl (fun σ hM => ?_)
  refine wp_aload_n (atd dX12_image 3 rfl) rfl rfl ?_
  refine wp_iload_n (atd dX12_image 4 rfl) rfl ?_
  refine wp_cVi hdd [_] (atd dX12_image 5 rfl) iX12_isPlace lX12_181 rfl rfl (Nat.le_of_ble_eq_true rfl) hM.1.1 rfl (eX12_isPlace (by omega) hM.self hp hn) (fun r_7 s_7 h_7 => ?_)
  obtain ⟨rfl, rfl⟩ := h_7
  refine wp_ifB_ne (tgt := 15) (atd dX12_image 6 rfl) (by decide) (fun c_10 => ?_) (fun c_10 => ?_)
  ·
    obtain ⟨p, hp_, rfl⟩ := isP_of hn c_10
    refine wp_aload_n (atd dX12_image 9 rfl) rfl rfl ?_
    refine wp_cVv hdd [] (atd dX12_image 10 rfl) iX12_dismantle lX12_203 rfl rfl (Nat.le_of_ble_eq_true rfl) hM.1.1 rfl (eX12_dismantle (by omega) hM.self hp hn hb hw hds) (fun s_16 h_16 => ?_)
    obtain ⟨α1, B1, hM1, hfa, hfb, h17, hDR⟩ := h_16
    have hM := hM.trans hM1
    refine wp_iload_n (atd dX12_image 11 rfl) rfl ?_
    refine wp_istore_n (atd dX12_image 12 rfl) (Nat.le_of_ble_eq_true rfl) ?_
    have hl9 := dis0_lt nb hn
    have h9 := pow_le9 hn
    refine wp_post (lX12_image (v := img (dis0 nb n) 11 p) (by omega) hn (by omega) (by omega) (dis0_W nb) (dis0_V nb n) hM hDR 10 p hp_ ?_ rfl) ?_
    · by_cases hz : (dis0 nb n).1.testBit p = true
      · exact Or.inl hz
      · obtain ⟨i, i1, i2, i3, i4⟩ := dis0_W nb p hp_ (by simpa using hz)
        exact Or.inr ⟨i, i1, i2, by omega, i3, i4⟩
    · rintro v s ⟨r, rfl, rfl, rfl⟩
      exact ⟨_, rfl, by rw [atP_t hn hp_], Or.inr ⟨α1, B1, hM, (frm.up (f := α) frm.rf (by decide)).tr (hfa.mono (by decide)), hfb, (hfa 0 (by decide)).trans rfl, h17, hDR⟩⟩
  ·
    refine wp_iconst (v := -1) (atd dX12_image 7 rfl) (by decide) ?_
    refine wp_ireti (atd dX12_image 8 rfl) rfl ?_
    exact ⟨by rw [atP_f c_10], Or.inl ⟨c_10, hM⟩⟩
