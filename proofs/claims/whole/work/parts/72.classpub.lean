theorem vX11_fault {G : Gx} {d : Nat} {σ : Hp} (hd : 0 ≤ d) {S : Ab} {mk : Nat → Option Nat} {T : Nat} (hV : AbV S) (hS : CSt S σ mk T) {w : Int32} : Cl G mX11_fault d [.ref 0, .int w] σ 0 0 (pI fun r s => r = fltF w (nI S.fk) (oI S.fp) ∧ fK σ s ∧ CSt S s mk T) := by
  refine cl_of (by decide) (by simp [Value.category]) (Nat.le_of_ble_eq_true rfl) ?_
  show Wp G mX11_fault d 0 [.ref 0, .int w] [] σ 0 0 _
  have hH := hS.1.2.2.2
  have hn := hV.1.1.1
  have hw := net_lt hV.1
  obtain ⟨hN, hNA⟩ := hS.2.1.2.1
  obtain ⟨⟨tk, fm, bh, hSc⟩, -⟩ := hS.2.1.1
  refine wp_iload_n (atd dX11_fault 0 rfl) rfl ?_
  refine wp_if_ne (tgt := 12) (atd dX11_fault 1 rfl) (by decide) (fun c_1 => ?_) (fun c_1 => ?_)
  ·
    refine wp_iload_n (atd dX11_fault 6 rfl) rfl ?_
    refine wp_iconst (v := nI 1) (atd dX11_fault 7 rfl) (by decide) ?_
    refine wp_icmp_ne (tgt := 27) (atd dX11_fault 8 rfl) (by decide) (fun c_14 => ?_) (fun c_14 => ?_)
    ·
      refine wp_iconst (v := -1) (atd dX11_fault 13 rfl) (by decide) ?_
      refine wp_ireti (atd dX11_fault 14 rfl) rfl ?_
      exact ⟨by unfold fltF; rw [if_neg c_1, if_neg c_14], fK.rf, hS⟩
    ·
      refine wp_aload_n (atd dX11_fault 9 rfl) rfl rfl ?_
      refine wp_get fX11_10 (atd dX11_fault 10 rfl) hH rfl ?_
      refine wp_get fX11_116 (atd dX11_fault 11 rfl) hSc rfl ?_
      refine wp_goto (tgt := 28) (atd dX11_fault 12 rfl) (by decide) ?_
      refine wp_ireti (atd dX11_fault 14 rfl) rfl ?_
      exact ⟨by unfold fltF; rw [if_neg c_1, if_pos (Classical.not_not.mp c_14)], fK.rf, hS⟩
  ·
    refine wp_aload_n (atd dX11_fault 2 rfl) rfl rfl ?_
    refine wp_get fX11_10 (atd dX11_fault 3 rfl) hH rfl ?_
    refine wp_get fX11_97 (atd dX11_fault 4 rfl) hSc rfl ?_
    refine wp_ireti (atd dX11_fault 5 rfl) rfl ?_
    exact ⟨by unfold fltF; rw [if_pos (Classical.not_not.mp c_1)], fK.rf, hS⟩
theorem vX11_near {G : Gx} {d : Nat} {σ : Hp} (hd : 1 ≤ d) {S : Ab} {mk : Nat → Option Nat} {T : Nat} (hV : AbV S) (hS : CSt S σ mk T) {w : Int32} : Cl G mX11_near d [.ref 0, .int w] σ 0 0 (pI fun r s => r = atP w S.n (fun j => nI (S.nb j)) (-1) ∧ fK σ s ∧ CSt S s mk T) := by
  obtain ⟨d0, hdd⟩ : ∃ e, d = e + 1 := ⟨d - 1, by omega⟩
  refine cl_of (by decide) (by simp [Value.category]) (Nat.le_of_ble_eq_true rfl) ?_
  show Wp G mX11_near d 0 [.ref 0, .int w] [] σ 0 0 _
  have hH := hS.1.2.2.2
  have hn := hV.1.1.1
  have hw := net_lt hV.1
  obtain ⟨hN, hNA⟩ := hS.2.1.2.1
  refine wp_aload_n (atd dX11_near 0 rfl) rfl rfl ?_
  refine wp_get fX11_19 (atd dX11_near 1 rfl) hH rfl ?_
  refine wp_iload_n (atd dX11_near 2 rfl) rfl ?_
  refine wp_cVi hdd [_] (atd dX11_near 3 rfl) iX3_has lX11_144 rfl rfl (Nat.le_of_ble_eq_true rfl) hN rfl (eX3_has (by omega) hN hn) (fun r_5 s_5 h_5 => ?_)
  obtain ⟨rfl, e_5⟩ := h_5
  obtain rfl := e_5.symm
  refine wp_ifB_eq (tgt := 22) (atd dX11_near 4 rfl) (by decide) (fun c_8 => ?_) (fun c_8 => ?_)
  ·
    refine wp_iconst (v := -1) (atd dX11_near 10 rfl) (by decide) ?_
    refine wp_ireti (atd dX11_near 11 rfl) rfl ?_
    exact ⟨by unfold atP; rw [if_neg c_8], fK.rf, hS⟩
  ·
    obtain ⟨p, hp, rfl⟩ := isP_of hn c_8
    refine wp_aload_n (atd dX11_near 5 rfl) rfl rfl ?_
    refine wp_get fX11_19 (atd dX11_near 6 rfl) hH rfl ?_
    refine wp_iload_n (atd dX11_near 7 rfl) rfl ?_
    refine wp_cVi hdd [_] (atd dX11_near 8 rfl) iX3_around lX11_148 rfl rfl (Nat.le_of_ble_eq_true rfl) hN rfl (eX3_around (by omega) hN hNA hn hw (by omega)) (fun r_16 s_16 h_16 => ?_)
    obtain ⟨rfl, e_16⟩ := h_16
    obtain rfl := e_16.symm
    refine wp_goto (tgt := 23) (atd dX11_near 9 rfl) (by decide) ?_
    refine wp_ireti (atd dX11_near 11 rfl) rfl ?_
    exact ⟨by unfold atP; rw [if_pos ((isP_nI (by omega)).mpr hp), nI_clamp (by omega)], fK.rf, hS⟩
theorem isP_ge {r : Int32} {k : Nat} (hk : k < 2 ^ 31) (h : r ≥ nI k) : ¬ isP r k := fun z => by
  rw [ge_iff_le, Int32.le_iff_toInt_le, nI_toInt hk] at h
  have := z.2
  omega
theorem isP_in2 {r : Int32} {k : Nat} (hk : k < 1000) (h : ¬ r < 0) (h2 : ¬ r ≥ nI k) : ∃ j, j < k ∧ r = nI j := by
  rw [Int32.lt_iff_toInt_lt, show (0 : Int32).toInt = 0 from by decide] at h
  rw [ge_iff_le, Int32.le_iff_toInt_le, nI_toInt (by omega)] at h2
  exact isP_ofB (n := k) (p := r) ⟨by omega, by omega⟩
theorem vX11_goes {G : Gx} {d : Nat} {σ : Hp} (hd : 4 ≤ d) {S : Ab} {mk : Nat → Option Nat} {T : Nat} (hV : AbV S) (hS : CSt S σ mk T) {i : Int32} : Cl G mX11_goes d [.ref 0, .int i] σ 0 0 (pI fun r s => r = goesF (dis0 S.nb S.n) i ∧ fK σ s ∧ CSt S s mk T) := by
  obtain ⟨d0, hdd⟩ : ∃ e, d = e + 1 := ⟨d - 1, by omega⟩
  refine cl_of (by decide) (by simp [Value.category]) (Nat.le_of_ble_eq_true rfl) ?_
  show Wp G mX11_goes d 0 [.ref 0, .int i] [] σ 0 0 _
  have hH := hS.1.2.2.2
  have hn := hV.1.1.1
  have hw := net_lt hV.1
  obtain ⟨hN, hNA⟩ := hS.2.1.2.1
  obtain ⟨z0, D0, hDi⟩ : ∃ z D, OB σ 9 0 (diF 9 z D) := by
    rcases hS.2.1.2.2.2 with ⟨_, _, h, _⟩ | ⟨D, _, _, h, _⟩
    · exact ⟨_, _, h⟩
    · exact ⟨_, _, h⟩
  have hd9 := (dis0_lt S.nb hn).2
  refine wp_aload_n (atd dX11_goes 0 rfl) rfl rfl ?_
  refine wp_get fX11_29 (atd dX11_goes 1 rfl) hH rfl ?_
  refine wp_aload_n (atd dX11_goes 2 rfl) rfl rfl ?_
  refine wp_get fX11_19 (atd dX11_goes 3 rfl) hH rfl ?_
  refine wp_cVv hdd [_] (atd dX11_goes 4 rfl) iX0_settle lX11_169 rfl rfl (Nat.le_of_ble_eq_true rfl) hDi rfl (eX0_settleC (by omega) hV hS) (fun s_8 h_8 => ?_)
  obtain ⟨hS, hK, hDC⟩ := h_8
  have hH := hS.1.2.2.2
  obtain ⟨hN, hNA⟩ := hS.2.1.2.1
  obtain ⟨tu, co, hDi, hTu, hCo, htu, hco⟩ := id hDC
  refine wp_iload_n (atd dX11_goes 5 rfl) rfl ?_
  refine wp_iconst (v := -1) (atd dX11_goes 6 rfl) (by decide) ?_
  refine wp_icmp_ne (tgt := 24) (atd dX11_goes 7 rfl) (by decide) (fun c_13 => ?_) (fun c_13 => ?_)
  ·
    refine wp_iload_n (atd dX11_goes 12 rfl) rfl ?_
    refine wp_if_lt (tgt := 51) (atd dX11_goes 13 rfl) (by decide) (fun c_25 => ?_) (fun c_25 => ?_)
    ·
      refine wp_iconst (v := -1) (atd dX11_goes 25 rfl) (by decide) ?_
      refine wp_ireti (atd dX11_goes 26 rfl) rfl ?_
      exact ⟨by unfold goesF atP; rw [if_neg c_13, if_neg (isP_lt0 c_25)], hK, hS⟩
    ·
      refine wp_iload_n (atd dX11_goes 14 rfl) rfl ?_
      refine wp_aload_n (atd dX11_goes 15 rfl) rfl rfl ?_
      refine wp_get fX11_29 (atd dX11_goes 16 rfl) hH rfl ?_
      refine wp_get fX11_172 (atd dX11_goes 17 rfl) hDi rfl ?_
      refine wp_icmp_ge (tgt := 51) (atd dX11_goes 18 rfl) (by decide) (fun c_36 => ?_) (fun c_36 => ?_)
      ·
        refine wp_iconst (v := -1) (atd dX11_goes 25 rfl) (by decide) ?_
        refine wp_ireti (atd dX11_goes 26 rfl) rfl ?_
        exact ⟨by unfold goesF atP; rw [if_neg c_13, if_neg (isP_ge (by omega) c_36)], hK, hS⟩
      ·
        obtain ⟨j, hj, rfl⟩ := isP_in2 (by omega) c_25 c_36
        refine wp_aload_n (atd dX11_goes 19 rfl) rfl rfl ?_
        refine wp_get fX11_29 (atd dX11_goes 20 rfl) hH rfl ?_
        refine wp_get fX11_175 (atd dX11_goes 21 rfl) hDi rfl ?_
        refine wp_iload_n (atd dX11_goes 22 rfl) rfl ?_
        refine wp_ialdA (atd dX11_goes 23 rfl) hTu (by omega) (Nat.le_of_ble_eq_true rfl) ?_
        refine wp_goto (tgt := 52) (atd dX11_goes 24 rfl) (by decide) ?_
        refine wp_ireti (atd dX11_goes 26 rfl) rfl ?_
        exact ⟨by unfold goesF atP; rw [if_neg c_13, if_pos ((isP_nI (by omega)).mpr hj), nI_clamp (by omega), htu j hj], hK, hS⟩
  ·
    refine wp_aload_n (atd dX11_goes 8 rfl) rfl rfl ?_
    refine wp_get fX11_29 (atd dX11_goes 9 rfl) hH rfl ?_
    refine wp_get fX11_172 (atd dX11_goes 10 rfl) hDi rfl ?_
    refine wp_ireti (atd dX11_goes 11 rfl) rfl ?_
    exact ⟨by unfold goesF; rw [if_pos (Classical.not_not.mp c_13)], hK, hS⟩
theorem vX11_left {G : Gx} {d : Nat} {σ : Hp} (hd : 4 ≤ d) {S : Ab} {mk : Nat → Option Nat} {T : Nat} (hV : AbV S) (hS : CSt S σ mk T) : Cl G mX11_left d [.ref 0] σ 0 0 (pI fun r s => r = nI (dis0 S.nb S.n).1 ∧ fK σ s ∧ CSt S s mk T) := by
  obtain ⟨d0, hdd⟩ : ∃ e, d = e + 1 := ⟨d - 1, by omega⟩
  refine cl_of (by decide) (by simp [Value.category]) (Nat.le_of_ble_eq_true rfl) ?_
  show Wp G mX11_left d 0 [.ref 0] [] σ 0 0 _
  have hH := hS.1.2.2.2
  have hn := hV.1.1.1
  have hw := net_lt hV.1
  obtain ⟨hN, hNA⟩ := hS.2.1.2.1
  obtain ⟨z0, D0, hDi⟩ : ∃ z D, OB σ 9 0 (diF 9 z D) := by
    rcases hS.2.1.2.2.2 with ⟨_, _, h, _⟩ | ⟨D, _, _, h, _⟩
    · exact ⟨_, _, h⟩
    · exact ⟨_, _, h⟩
  refine wp_aload_n (atd dX11_left 0 rfl) rfl rfl ?_
  refine wp_get fX11_29 (atd dX11_left 1 rfl) hH rfl ?_
  refine wp_aload_n (atd dX11_left 2 rfl) rfl rfl ?_
  refine wp_get fX11_19 (atd dX11_left 3 rfl) hH rfl ?_
  refine wp_cVv hdd [_] (atd dX11_left 4 rfl) iX0_settle lX11_169 rfl rfl (Nat.le_of_ble_eq_true rfl) hDi rfl (eX0_settleC (by omega) hV hS) (fun s_8 h_8 => ?_)
  obtain ⟨hS, hK, hDC⟩ := h_8
  have hH := hS.1.2.2.2
  obtain ⟨hN, hNA⟩ := hS.2.1.2.1
  obtain ⟨tu, co, hDi, hTu, hCo, htu, hco⟩ := id hDC
  refine wp_aload_n (atd dX11_left 5 rfl) rfl rfl ?_
  refine wp_get fX11_29 (atd dX11_left 6 rfl) hH rfl ?_
  refine wp_get fX11_179 (atd dX11_left 7 rfl) hDi rfl ?_
  refine wp_ireti (atd dX11_left 8 rfl) rfl ?_
  exact ⟨rfl, hK, hS⟩
theorem vX11_image {G : Gx} {d : Nat} {σ : Hp} (hd : 4 ≤ d) {S : Ab} {mk : Nat → Option Nat} {T : Nat} (hV : AbV S) (hS : CSt S σ mk T) {w : Int32} : Cl G mX11_image d [.ref 0, .int w] σ 0 0 (pI fun r s => r = atP w S.n (fun p => nI (img (dis0 S.nb S.n) 11 p)) (-1) ∧ fK σ s ∧ CSt S s mk T) := by
  obtain ⟨d0, hdd⟩ : ∃ e, d = e + 1 := ⟨d - 1, by omega⟩
  refine cl_of (by decide) (by simp [Value.category]) (Nat.le_of_ble_eq_true rfl) ?_
  show Wp G mX11_image d 0 [.ref 0, .int w] [] σ 0 0 _
  have hH := hS.1.2.2.2
  have hn := hV.1.1.1
  have hw := net_lt hV.1
  obtain ⟨hN, hNA⟩ := hS.2.1.2.1
  obtain ⟨z0, D0, hDi⟩ : ∃ z D, OB σ 9 0 (diF 9 z D) := by
    rcases hS.2.1.2.2.2 with ⟨_, _, h, _⟩ | ⟨D, _, _, h, _⟩
    · exact ⟨_, _, h⟩
    · exact ⟨_, _, h⟩
  refine wp_aload_n (atd dX11_image 0 rfl) rfl rfl ?_
  refine wp_get fX11_19 (atd dX11_image 1 rfl) hH rfl ?_
  refine wp_iload_n (atd dX11_image 2 rfl) rfl ?_
  refine wp_cVi hdd [_] (atd dX11_image 3 rfl) iX3_has lX11_144 rfl rfl (Nat.le_of_ble_eq_true rfl) hN rfl (eX3_has (by omega) hN hn) (fun r_5 s_5 h_5 => ?_)
  obtain ⟨rfl, e_5⟩ := h_5
  obtain rfl := e_5.symm
  refine wp_ifB_ne (tgt := 13) (atd dX11_image 4 rfl) (by decide) (fun c_8 => ?_) (fun c_8 => ?_)
  ·
    obtain ⟨p, hp, rfl⟩ := isP_of hn c_8
    refine wp_aload_n (atd dX11_image 7 rfl) rfl rfl ?_
    refine wp_get fX11_29 (atd dX11_image 8 rfl) hH rfl ?_
    refine wp_aload_n (atd dX11_image 9 rfl) rfl rfl ?_
    refine wp_get fX11_19 (atd dX11_image 10 rfl) hH rfl ?_
    refine wp_cVv hdd [_] (atd dX11_image 11 rfl) iX0_settle lX11_169 rfl rfl (Nat.le_of_ble_eq_true rfl) hDi rfl (eX0_settleC (by omega) hV hS) (fun s_21 h_21 => ?_)
    obtain ⟨hS, hK, hDC⟩ := h_21
    have hH := hS.1.2.2.2
    obtain ⟨hN, hNA⟩ := hS.2.1.2.1
    obtain ⟨tu, co, hDi, hTu, hCo, htu, hco⟩ := id hDC
    refine wp_aload_n (atd dX11_image 12 rfl) rfl rfl ?_
    refine wp_get fX11_29 (atd dX11_image 13 rfl) hH rfl ?_
    refine wp_iload_n (atd dX11_image 14 rfl) rfl ?_
    refine wp_cVi hdd [_] (atd dX11_image 15 rfl) iX0_comesAtLast lX11_182 rfl rfl (Nat.le_of_ble_eq_true rfl) hDi rfl (eX0_comesAtLast (by omega) hn hDC (Nat.lt_of_lt_of_le (dis0_lt S.nb hn).1 (pow_le9 hn)) (fun q h1 h2 => by obtain ⟨i, -, -, h3, -⟩ := dis0_W S.nb q h1 h2; exact h3) hp) (fun r_29 s_29 h_29 => ?_)
    obtain ⟨rfl, e_29⟩ := h_29
    obtain rfl := e_29.symm
    refine wp_ireti (atd dX11_image 16 rfl) rfl ?_
    exact ⟨by unfold atP; rw [if_pos ((isP_nI (by omega)).mpr hp), nI_clamp (by omega), img_9 hn hp], hK, hS⟩
  ·
    refine wp_iconst (v := -1) (atd dX11_image 5 rfl) (by decide) ?_
    refine wp_ireti (atd dX11_image 6 rfl) rfl ?_
    exact ⟨by unfold atP; rw [if_neg c_8], fK.rf, hS⟩
