theorem isS_le {x : Int32} {n : Nat} (h : x ≤ 0) : ¬ isS x n := fun z => by
  rw [Int32.le_iff_toInt_le, show (0 : Int32).toInt = 0 from by decide] at h
  have := z.1
  omega
theorem ne0_le {x : Int32} (h : ¬ x ≤ 0) : x ≠ 0 := fun e => h (by rw [e]; exact Int32.le_refl _)
theorem eX11_isSet {G : Gx} {d : Nat} {σ : Hp} (hd : 1 ≤ d) {S : Ab} {mk : Nat → Option Nat} {T : Nat} (hV : AbV S) (hS : CSt S σ mk T) {x : Int32} : Cl G mX11_isSet d [.ref 0, .int x] σ 0 0 (pI fun r s => r = bI (isS x S.n) ∧ s = σ) := by
  obtain ⟨d0, hdd⟩ : ∃ e, d = e + 1 := ⟨d - 1, by omega⟩
  refine cl_of (by decide) (by simp [Value.category]) (Nat.le_of_ble_eq_true rfl) ?_
  show Wp G mX11_isSet d 0 [.ref 0, .int x] [] σ 0 0 _
  have hH := hS.1.2.2.2
  have hn := hV.1.1.1
  have hw := net_lt hV.1
  obtain ⟨hN, hNA⟩ := hS.2.1.2.1
  refine wp_iload_n (atd dX11_isSet 0 rfl) rfl ?_
  refine wp_if_le (tgt := 22) (atd dX11_isSet 1 rfl) (by decide) (fun c_1 => ?_) (fun c_1 => ?_)
  ·
    refine wp_iconst (v := nI 0) (atd dX11_isSet 12 rfl) (by decide) ?_
    refine wp_iretz (atd dX11_isSet 13 rfl) rfl (by first | rfl | decide) ?_
    exact ⟨(bI_f (isS_le c_1)).symm, rfl⟩
  ·
    refine wp_iload_n (atd dX11_isSet 2 rfl) rfl ?_
    refine wp_aload_n (atd dX11_isSet 3 rfl) rfl rfl ?_
    refine wp_get fX11_19 (atd dX11_isSet 4 rfl) hH rfl ?_
    refine wp_cVi hdd [] (atd dX11_isSet 5 rfl) iX3_all lX11_162 rfl rfl (Nat.le_of_ble_eq_true rfl) hN rfl (eX3_all (by omega) hN hn) (fun r_9 s_9 h_9 => ?_)
    obtain ⟨rfl, e_9⟩ := h_9
    obtain rfl := e_9.symm
    refine wp_iconst (v := -1) (atd dX11_isSet 6 rfl) (by decide) ?_
    refine wp_ixor (atd dX11_isSet 7 rfl) ?_
    refine wp_iand (atd dX11_isSet 8 rfl) ?_
    refine wp_if_ne (tgt := 22) (atd dX11_isSet 9 rfl) (by decide) (fun c_15 => ?_) (fun c_15 => ?_)
    ·
      refine wp_iconst (v := nI 0) (atd dX11_isSet 12 rfl) (by decide) ?_
      refine wp_iretz (atd dX11_isSet 13 rfl) rfl (by first | rfl | decide) ?_
      exact ⟨(bI_f (fun z => c_15 ((isS_iff hn).mpr z).2)).symm, rfl⟩
    ·
      refine wp_iconst (v := nI 1) (atd dX11_isSet 10 rfl) (by decide) ?_
      refine wp_goto (tgt := 23) (atd dX11_isSet 11 rfl) (by decide) ?_
      refine wp_iretz (atd dX11_isSet 13 rfl) rfl (by first | rfl | decide) ?_
      exact ⟨(bI_t ((isS_iff hn).mp ⟨ne0_le c_1, Classical.not_not.mp c_15⟩)).symm, rfl⟩
theorem vX11_guard {G : Gx} {d : Nat} {σ : Hp} (hd : 4 ≤ d) {S : Ab} {mk : Nat → Option Nat} {T : Nat} (hV : AbV S) (hS : CSt S σ mk T) {x : Int32} : Cl G mX11_guard d [.ref 0, .int x] σ 0 0 (pI fun r s => r = atS x S.n (fun z => nI (nc (cW (gdB S.nb S.n z)) S.n S.n)) (-1) ∧ fK σ s ∧ CSt S s mk T) := by
  obtain ⟨d0, hdd⟩ : ∃ e, d = e + 1 := ⟨d - 1, by omega⟩
  refine cl_of (by decide) (by simp [Value.category]) (Nat.le_of_ble_eq_true rfl) ?_
  show Wp G mX11_guard d 0 [.ref 0, .int x] [] σ 0 0 _
  have hH := hS.1.2.2.2
  have hn := hV.1.1.1
  have hw := net_lt hV.1
  obtain ⟨hN, hNA⟩ := hS.2.1.2.1
  refine wp_aload_n (atd dX11_guard 0 rfl) rfl rfl ?_
  refine wp_iload_n (atd dX11_guard 1 rfl) rfl ?_
  refine wp_cVi hdd [_] (atd dX11_guard 2 rfl) iX11_isSet lX11_236 rfl rfl (Nat.le_of_ble_eq_true rfl) hH rfl (eX11_isSet (by omega) hV hS) (fun r_2 s_2 h_2 => ?_)
  obtain ⟨rfl, e_2⟩ := h_2
  obtain rfl := e_2.symm
  refine wp_ifB_ne (tgt := 10) (atd dX11_guard 3 rfl) (by decide) (fun c_5 => ?_) (fun c_5 => ?_)
  ·
    obtain ⟨z, hz, hz0, rfl⟩ := isS_of hn c_5
    obtain ⟨hWa, kp, hWk⟩ := hS.2.2.1.2.2.1
    refine wp_aload_n (atd dX11_guard 6 rfl) rfl rfl ?_
    refine wp_get fX11_52 (atd dX11_guard 7 rfl) hH rfl ?_
    refine wp_aload_n (atd dX11_guard 8 rfl) rfl rfl ?_
    refine wp_get fX11_19 (atd dX11_guard 9 rfl) hH rfl ?_
    refine wp_iload_n (atd dX11_guard 10 rfl) rfl ?_
    refine wp_cVv hdd [_, _] (atd dX11_guard 11 rfl) iX10_settle lX11_239 rfl rfl (Nat.le_of_ble_eq_true rfl) hWa rfl (eX10_settle (by omega) hV.1.1 hw hz (by omega) hN hNA hWa hWk) (fun s_19 h_19 => ?_)
    obtain ⟨f_19, kp1, hWk, hKB⟩ := h_19
    have hWa := hWa.fr f_19 (by simp only [List.mem_cons, List.not_mem_nil, or_false]; omega)
    have hc7 : cWat s_19 := ⟨hWa, _, hWk⟩
    obtain ⟨hS, hK⟩ := hS.upS f_19.A
    have hH := hS.1.2.2.2
    refine wp_aload_n (atd dX11_guard 12 rfl) rfl rfl ?_
    refine wp_get fX11_52 (atd dX11_guard 13 rfl) hH rfl ?_
    refine wp_cVi hdd [] (atd dX11_guard 14 rfl) iX10_couples lX11_242 rfl rfl (Nat.le_of_ble_eq_true rfl) hWa rfl (eX10_couples (by omega) hWa hWk hKB.1) (fun r_26 s_26 h_26 => ?_)
    obtain ⟨rfl, e_26⟩ := h_26
    obtain rfl := e_26.symm
    refine wp_ireti (atd dX11_guard 15 rfl) rfl ?_
    refine ⟨?_, hK, hS⟩
    unfold atS
    have h512 := Nat.lt_of_lt_of_le hz (pow_le9 hn)
    rw [if_pos (isS_nI hn hz hz0), nI_clamp (by omega), couples_eq hn hKB]
  ·
    refine wp_iconst (v := -1) (atd dX11_guard 4 rfl) (by decide) ?_
    refine wp_ireti (atd dX11_guard 5 rfl) rfl ?_
    exact ⟨by unfold atS; rw [if_neg c_5], fK.rf, hS⟩
theorem vX11_guards {G : Gx} {d : Nat} {σ : Hp} (hd : 4 ≤ d) {S : Ab} {mk : Nat → Option Nat} {T : Nat} (hV : AbV S) (hS : CSt S σ mk T) {x a b : Int32} : Cl G mX11_guards d [.ref 0, .int x, .int a, .int b] σ 0 0 (pI fun r s => r = atS x S.n (fun z => atP a S.n (fun h => atP b S.n (fun y => bI (gdB S.nb S.n z h y = true)) (-1)) (-1)) (-1) ∧ fK σ s ∧ CSt S s mk T) := by
  obtain ⟨d0, hdd⟩ : ∃ e, d = e + 1 := ⟨d - 1, by omega⟩
  refine cl_of (by decide) (by simp [Value.category]) (Nat.le_of_ble_eq_true rfl) ?_
  show Wp G mX11_guards d 0 [.ref 0, .int x, .int a, .int b] [] σ 0 0 _
  have hH := hS.1.2.2.2
  have hn := hV.1.1.1
  have hw := net_lt hV.1
  obtain ⟨hN, hNA⟩ := hS.2.1.2.1
  refine wp_aload_n (atd dX11_guards 0 rfl) rfl rfl ?_
  refine wp_iload_n (atd dX11_guards 1 rfl) rfl ?_
  refine wp_cVi hdd [_] (atd dX11_guards 2 rfl) iX11_isSet lX11_236 rfl rfl (Nat.le_of_ble_eq_true rfl) hH rfl (eX11_isSet (by omega) hV hS) (fun r_2 s_2 h_2 => ?_)
  obtain ⟨rfl, e_2⟩ := h_2
  obtain rfl := e_2.symm
  refine wp_ifB_eq (tgt := 30) (atd dX11_guards 3 rfl) (by decide) (fun c_5 => ?_) (fun c_5 => ?_)
  ·
    refine wp_iconst (v := -1) (atd dX11_guards 14 rfl) (by decide) ?_
    refine wp_ireti (atd dX11_guards 15 rfl) rfl ?_
    exact ⟨by unfold atS; rw [if_neg c_5], fK.rf, hS⟩
  ·
    refine wp_aload_n (atd dX11_guards 4 rfl) rfl rfl ?_
    refine wp_get fX11_19 (atd dX11_guards 5 rfl) hH rfl ?_
    refine wp_iload_n (atd dX11_guards 6 rfl) rfl ?_
    refine wp_cVi hdd [_] (atd dX11_guards 7 rfl) iX3_has lX11_144 rfl rfl (Nat.le_of_ble_eq_true rfl) hN rfl (eX3_has (by omega) hN hn) (fun r_13 s_13 h_13 => ?_)
    obtain ⟨rfl, e_13⟩ := h_13
    obtain rfl := e_13.symm
    refine wp_ifB_eq (tgt := 30) (atd dX11_guards 8 rfl) (by decide) (fun c_16 => ?_) (fun c_16 => ?_)
    ·
      refine wp_iconst (v := -1) (atd dX11_guards 14 rfl) (by decide) ?_
      refine wp_ireti (atd dX11_guards 15 rfl) rfl ?_
      refine ⟨?_, fK.rf, hS⟩
      unfold atS atP
      dsimp only
      rw [if_neg c_16]
      split <;> rfl
    ·
      obtain ⟨p, hp, rfl⟩ := isP_of hn c_16
      refine wp_aload_n (atd dX11_guards 9 rfl) rfl rfl ?_
      refine wp_get fX11_19 (atd dX11_guards 10 rfl) hH rfl ?_
      refine wp_iload_n (atd dX11_guards 11 rfl) rfl ?_
      refine wp_cVi hdd [_] (atd dX11_guards 12 rfl) iX3_has lX11_144 rfl rfl (Nat.le_of_ble_eq_true rfl) hN rfl (eX3_has (by omega) hN hn) (fun r_24 s_24 h_24 => ?_)
      obtain ⟨rfl, e_24⟩ := h_24
      obtain rfl := e_24.symm
      refine wp_ifB_ne (tgt := 32) (atd dX11_guards 13 rfl) (by decide) (fun c_27 => ?_) (fun c_27 => ?_)
      ·
        obtain ⟨q, hq, rfl⟩ := isP_of hn c_27
        obtain ⟨z, hz, hz0, rfl⟩ := isS_of hn c_5
        obtain ⟨hWa, kp, hWk⟩ := hS.2.2.1.2.2.1
        refine wp_aload_n (atd dX11_guards 16 rfl) rfl rfl ?_
        refine wp_get fX11_52 (atd dX11_guards 17 rfl) hH rfl ?_
        refine wp_aload_n (atd dX11_guards 18 rfl) rfl rfl ?_
        refine wp_get fX11_19 (atd dX11_guards 19 rfl) hH rfl ?_
        refine wp_iload_n (atd dX11_guards 20 rfl) rfl ?_
        refine wp_cVv hdd [_, _] (atd dX11_guards 21 rfl) iX10_settle lX11_239 rfl rfl (Nat.le_of_ble_eq_true rfl) hWa rfl (eX10_settle (by omega) hV.1.1 hw hz (by omega) hN hNA hWa hWk) (fun s_41 h_41 => ?_)
        obtain ⟨f_41, kp1, hWk, hKB⟩ := h_41
        have hWa := hWa.fr f_41 (by simp only [List.mem_cons, List.not_mem_nil, or_false]; omega)
        have hc7 : cWat s_41 := ⟨hWa, _, hWk⟩
        obtain ⟨hS, hK⟩ := hS.upS f_41.A
        have hH := hS.1.2.2.2
        refine wp_aload_n (atd dX11_guards 22 rfl) rfl rfl ?_
        refine wp_get fX11_52 (atd dX11_guards 23 rfl) hH rfl ?_
        refine wp_iload_n (atd dX11_guards 24 rfl) rfl ?_
        refine wp_iload_n (atd dX11_guards 25 rfl) rfl ?_
        refine wp_cVi hdd [_, _] (atd dX11_guards 26 rfl) iX10_isCouple lX11_245 rfl rfl (Nat.le_of_ble_eq_true rfl) hWa rfl (eX10_isCouple (by omega) hWa hWk hKB.1 (by omega) (by omega)) (fun r_50 s_50 h_50 => ?_)
        obtain ⟨rfl, e_50⟩ := h_50
        obtain rfl := e_50.symm
        refine wp_ifB_eq (tgt := 60) (atd dX11_guards 27 rfl) (by decide) (fun c_53 => ?_) (fun c_53 => ?_)
        ·
          refine wp_iconst (v := nI 0) (atd dX11_guards 30 rfl) (by decide) ?_
          refine wp_ireti (atd dX11_guards 31 rfl) rfl ?_
          refine ⟨?_, hK, hS⟩
          have hbit := hKB.2 p q (by omega)
          have h512 := Nat.lt_of_lt_of_le hz (pow_le9 hn)
          unfold atS atP
          dsimp only
          rw [if_pos (isS_nI hn hz hz0), if_pos ((isP_nI (by omega)).mpr hp), if_pos ((isP_nI (by omega)).mpr hq), nI_clamp (by omega), nI_clamp (by omega), nI_clamp (by omega)]
          have e : (kp1 p).testBit q = gdB S.nb S.n z p q := by rw [hbit, decide_eq_true hp, decide_eq_true hq]; rfl
          rw [← e]
          exact (bI_f c_53).symm
        ·
          refine wp_iconst (v := nI 1) (atd dX11_guards 28 rfl) (by decide) ?_
          refine wp_goto (tgt := 61) (atd dX11_guards 29 rfl) (by decide) ?_
          refine wp_ireti (atd dX11_guards 31 rfl) rfl ?_
          refine ⟨?_, hK, hS⟩
          have hbit := hKB.2 p q (by omega)
          have h512 := Nat.lt_of_lt_of_le hz (pow_le9 hn)
          unfold atS atP
          dsimp only
          rw [if_pos (isS_nI hn hz hz0), if_pos ((isP_nI (by omega)).mpr hp), if_pos ((isP_nI (by omega)).mpr hq), nI_clamp (by omega), nI_clamp (by omega), nI_clamp (by omega)]
          have e : (kp1 p).testBit q = gdB S.nb S.n z p q := by rw [hbit, decide_eq_true hp, decide_eq_true hq]; rfl
          rw [← e]
          exact (bI_t c_53).symm
      ·
        refine wp_iconst (v := -1) (atd dX11_guards 14 rfl) (by decide) ?_
        refine wp_ireti (atd dX11_guards 15 rfl) rfl ?_
        refine ⟨?_, fK.rf, hS⟩
        unfold atS atP
        dsimp only
        rw [if_neg c_27]
        split
        · first | rfl | (split <;> rfl)
        · rfl
