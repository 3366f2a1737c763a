theorem low_le (nb : Nat → Nat) : ∀ (k i w : Nat), w ≤ 9 → fl (lowG nb) k i w ≤ 9
  | 0, _, _, h => h
  | k + 1, i, w, h => low_le nb k (i + 1) _ (by unfold lowG; split <;> omega)
theorem lowF_hi {nb : Nat → Nat} {n : Nat} (h1 : ¬ (n = 0 ∨ 1 < pts nb n 512 (2 ^ n - 1) 0)) (h2 : ¬ (gir nb n = some 3 ∨ gir nb n = some 4)) : (if 1 < fl (lowG nb) n 0 9 then fl (lowG nb) n 0 9 else 1) = lowF nb n := by
  unfold lowF
  rw [if_neg h1, if_neg h2]
  split <;> split <;> omega
theorem lowF_lo {nb : Nat → Nat} {n : Nat} (h1 : ¬ (n = 0 ∨ 1 < pts nb n 512 (2 ^ n - 1) 0)) (h2 : gir nb n = some 3 ∨ gir nb n = some 4) : (if 1 < cnt (dis0 nb n).1 then 2 else 1) = lowF nb n := by
  unfold lowF
  rw [if_neg h1, if_pos h2]
theorem gir_no {nb : Nat → Nat} {n x : Nat} (h : gir nb n = some x) (hx : 4 < x) : ¬ (gir nb n = some 3 ∨ gir nb n = some 4) := fun z => by
  rw [h] at z
  rcases z with z | z <;> (injection z with z; omega)
theorem gir_yes {nb : Nat → Nat} {n x : Nat} (h : gir nb n = some x) (hx : x ≤ 4) (h3 : 3 ≤ x) : gir nb n = some 3 ∨ gir nb n = some 4 := by
  rw [h]
  rcases (by omega : x = 3 ∨ x = 4) with rfl | rfl
  · exact Or.inl rfl
  · exact Or.inr rfl
theorem eX11_low {G : Gx} {d : Nat} {σ : Hp} (hd : 4 ≤ d) {S : Ab} {mk : Nat → Option Nat} {T : Nat} (hV : AbV S) (hS : CSt S σ mk T) : Cl G mX11_low d [.ref 0] σ 0 0 (pI fun r s => r = nI (lowF S.nb S.n) ∧ fK σ s ∧ CSt S s mk T) := by
  obtain ⟨d0, hdd⟩ : ∃ e, d = e + 1 := ⟨d - 1, by omega⟩
  refine cl_of (by decide) (by simp [Value.category]) (Nat.le_of_ble_eq_true rfl) ?_
  show Wp G mX11_low d 0 [.ref 0, .double 0] [] σ 0 0 _
  have hH := hS.1.2.2.2
  have hn := hV.1.1.1
  obtain ⟨hN, hNA⟩ := hS.2.1.2.1
  have hDi : ∃ F, OB σ 9 0 F := by
    rcases hS.2.1.2.2.2 with ⟨t, c, h1, h2, h3, h4⟩ | ⟨D, t, c, h1, h2, h3⟩
    · exact ⟨_, h1⟩
    · exact ⟨_, h1⟩
  obtain ⟨dF, hDi⟩ := hDi
  have hpl := pts_lt S.nb S.n
  refine wp_aload_n (atd dX11_low 0 rfl) rfl rfl ?_
  refine wp_get fX11_19 (atd dX11_low 1 rfl) hH rfl ?_
  refine wp_cVi hdd [] (atd dX11_low 2 rfl) iX3_parts lX11_123 rfl rfl (Nat.le_of_ble_eq_true rfl) hN rfl (eX3_parts (by omega) hN hNA hn (net_lt hV.1)) (fun r_4 s_4 h_4 => ?_)
  obtain ⟨rfl, e_4⟩ := h_4
  obtain rfl := e_4.symm
  rw [pt_eq hV.1]
  refine wp_iconst (v := nI 1) (atd dX11_low 3 rfl) (by decide) ?_
  refine wp_icmpN_eq (tgt := 13) (atd dX11_low 4 rfl) (by decide) (by omega) (by omega) (fun c_8 => ?_) (fun c_8 => ?_)
  ·
    refine wp_aload_n (atd dX11_low 7 rfl) rfl rfl ?_
    refine wp_get fX11_19 (atd dX11_low 8 rfl) hH rfl ?_
    refine wp_cVi hdd [] (atd dX11_low 9 rfl) iX3_girth lX11_126 rfl rfl (Nat.le_of_ble_eq_true rfl) hN rfl (eX3_girth (by omega) hN hNA hn (net_lt hV.1)) (fun r_17 s_17 h_17 => ?_)
    obtain ⟨rfl, f_17, hNA⟩ := h_17
    have c2 : cNet S s_17 := ⟨hN.fr f_17 (by decide), hNA⟩
    obtain ⟨hS, hk0⟩ := CSt.upS hS f_17.A
    have hH := hS.1.2.2.2
    obtain ⟨hN, hNA⟩ := hS.2.1.2.1
    rw [gc_gir hV.1]
    have hDi := hDi.fr f_17 (by decide)
    have hpre : ¬ (S.n = 0 ∨ 1 < pts S.nb S.n 512 (2 ^ S.n - 1) 0) := fun z => z.elim (fun q => by have := (pt_0 hV.1).mpr q; omega) (fun q => by omega)
    cases hg : gir S.nb S.n with
    | none =>
      show Wp G mX11_low d 20 _ (.int (-1) :: _) _ _ _ _
      refine wp_istore_n (atd dX11_low 10 rfl) (Nat.le_of_ble_eq_true rfl) ?_
      refine wp_iload_n (atd dX11_low 11 rfl) rfl ?_
      refine wp_iconst (v := -1) (atd dX11_low 12 rfl) (by decide) ?_
      refine wp_icmp_eq (tgt := 31) (atd dX11_low 13 rfl) (by decide) (fun c_23 => ?_) (fun c_23 => ?_)
      ·
        have hl9 := low_le S.nb S.n 0 9 (by omega)
        refine wp_iconst (v := nI 1) (atd dX11_low 17 rfl) (by decide) ?_
        refine wp_aload_n (atd dX11_low 18 rfl) rfl rfl ?_
        refine wp_get fX11_19 (atd dX11_low 19 rfl) hH rfl ?_
        refine wp_cVi hdd [] (atd dX11_low 20 rfl) iX3_fewestLines lX11_348 rfl rfl (Nat.le_of_ble_eq_true rfl) hN rfl (eX3_fewestLines (by omega) hN hNA hn (net_lt hV.1)) (fun r_36 s_36 h_36 => ?_)
        obtain ⟨rfl, e_36⟩ := h_36
        obtain rfl := e_36.symm
        refine wp_maxN hdd (atd dX11_low 21 rfl) lX11_351 (by omega) (by omega) (Nat.le_of_ble_eq_true rfl) ?_
        refine wp_ireti (atd dX11_low 22 rfl) rfl ?_
        exact ⟨by rw [← lowF_hi hpre (by rw [hg]; simp)], hk0, hS⟩
      · exact absurd rfl c_23
    | some x =>
      have hx1 := gir_ge hV.1 hg
      have hx2 := gir_lt x hg
      show Wp G mX11_low d 20 _ (.int (nI x) :: _) _ _ _ _
      refine wp_istore_n (atd dX11_low 10 rfl) (Nat.le_of_ble_eq_true rfl) ?_
      refine wp_iload_n (atd dX11_low 11 rfl) rfl ?_
      refine wp_iconst (v := -1) (atd dX11_low 12 rfl) (by decide) ?_
      refine wp_icmp_eq (tgt := 31) (atd dX11_low 13 rfl) (by decide) (fun c_23 => ?_) (fun c_23 => ?_)
      · exact absurd c_23 (nI_m1 (by omega))
      ·
        refine wp_iload_n (atd dX11_low 14 rfl) rfl ?_
        refine wp_iconst (v := nI 4) (atd dX11_low 15 rfl) (by decide) ?_
        refine wp_icmpN_le (tgt := 43) (atd dX11_low 16 rfl) (by decide) (by omega) (by omega) (fun c_28 => ?_) (fun c_28 => ?_)
        ·
          refine wp_aload_n (atd dX11_low 23 rfl) rfl rfl ?_
          refine wp_get fX11_29 (atd dX11_low 24 rfl) hH rfl ?_
          refine wp_aload_n (atd dX11_low 25 rfl) rfl rfl ?_
          refine wp_get fX11_19 (atd dX11_low 26 rfl) hH rfl ?_
          refine wp_cVv hdd [_] (atd dX11_low 27 rfl) iX0_settle lX11_169 rfl rfl (Nat.le_of_ble_eq_true rfl) hDi rfl (eX0_settleC (by omega) hV hS) (fun s_51 h_51 => ?_)
          obtain ⟨hS, hk1, t0, c0, hDi, -⟩ := h_51
          have hH := hS.1.2.2.2
          refine wp_aload_n (atd dX11_low 28 rfl) rfl rfl ?_
          refine wp_get fX11_29 (atd dX11_low 29 rfl) hH rfl ?_
          refine wp_get fX11_179 (atd dX11_low 30 rfl) hDi rfl ?_
          refine wp_cSi hdd [_] (atd dX11_low 31 rfl) iJ6_bitCount_0f7a4 lX11_135 rfl rfl (Nat.le_of_ble_eq_true rfl) (eJ6_bitCount (by omega) (Nat.lt_of_lt_of_le (dis0_lt S.nb hn).1 (pow9 hn))) (fun r_61 s_61 h_61 => ?_)
          obtain ⟨rfl, e_61⟩ := h_61
          obtain rfl := e_61.symm
          refine wp_iconst (v := nI 1) (atd dX11_low 32 rfl) (by decide) ?_
          refine wp_icmpN_le (tgt := 72) (atd dX11_low 33 rfl) (by decide) (by have := cnt_le (dis0 S.nb S.n).1; omega) (by omega) (fun c_65 => ?_) (fun c_65 => ?_)
          ·
            refine wp_iconst (v := nI 1) (atd dX11_low 36 rfl) (by decide) ?_
            refine wp_ireti (atd dX11_low 37 rfl) rfl ?_
            exact ⟨by rw [← lowF_lo hpre (gir_yes hg c_28 hx1), if_neg (by omega)], hk0.tr hk1, hS⟩
          ·
            refine wp_iconst (v := nI 2) (atd dX11_low 34 rfl) (by decide) ?_
            refine wp_goto (tgt := 73) (atd dX11_low 35 rfl) (by decide) ?_
            refine wp_ireti (atd dX11_low 37 rfl) rfl ?_
            exact ⟨by rw [← lowF_lo hpre (gir_yes hg c_28 hx1), if_pos (by omega)], hk0.tr hk1, hS⟩
        ·
          have hl9 := low_le S.nb S.n 0 9 (by omega)
          refine wp_iconst (v := nI 1) (atd dX11_low 17 rfl) (by decide) ?_
          refine wp_aload_n (atd dX11_low 18 rfl) rfl rfl ?_
          refine wp_get fX11_19 (atd dX11_low 19 rfl) hH rfl ?_
          refine wp_cVi hdd [] (atd dX11_low 20 rfl) iX3_fewestLines lX11_348 rfl rfl (Nat.le_of_ble_eq_true rfl) hN rfl (eX3_fewestLines (by omega) hN hNA hn (net_lt hV.1)) (fun r_36 s_36 h_36 => ?_)
          obtain ⟨rfl, e_36⟩ := h_36
          obtain rfl := e_36.symm
          refine wp_maxN hdd (atd dX11_low 21 rfl) lX11_351 (by omega) (by omega) (Nat.le_of_ble_eq_true rfl) ?_
          refine wp_ireti (atd dX11_low 22 rfl) rfl ?_
          exact ⟨by rw [← lowF_hi hpre (gir_no hg c_28)], hk0, hS⟩
  ·
    refine wp_iconst (v := nI 0) (atd dX11_low 5 rfl) (by decide) ?_
    refine wp_ireti (atd dX11_low 6 rfl) rfl ?_
    refine ⟨?_, fK.rf, hS⟩
    unfold lowF
    rw [if_pos (by by_cases h0 : S.n = 0; · exact Or.inl h0
                   · exact Or.inr (by have := mt (pt_0 hV.1).mp h0; omega))]
theorem vX11_about {G : Gx} {d : Nat} {σ : Hp} (hd : 5 ≤ d) {S : Ab} {mk : Nat → Option Nat} {T : Nat} (hV : AbV S) (hS : CSt S σ mk T) {w : Int32} : Cl G mX11_about d [.ref 0, .int w] σ 0 0 (pI fun r s => r = atP w 9 (abF S.nb S.n (nI S.ps.length) (nI S.td)) (-1) ∧ fK σ s ∧ CSt S s mk T) := by
  obtain ⟨d0, hdd⟩ : ∃ e, d = e + 1 := ⟨d - 1, by omega⟩
  refine cl_of (by decide) (by simp [Value.category]) (Nat.le_of_ble_eq_true rfl) ?_
  show Wp G mX11_about d 0 [.ref 0, .int w] [] σ 0 0 _
  have hH := hS.1.2.2.2
  have hn := hV.1.1.1
  obtain ⟨hN, hNA⟩ := hS.2.1.2.1
  obtain ⟨nx, N, NB, C, hnx, hPa, hPr⟩ := id hS.2.2.2.2.1
  obtain ⟨⟨tk, fm, bh, hSc⟩, -⟩ := id hS.2.1.1
  refine wp_iload_n (atd dX11_about 0 rfl) rfl ?_
  by_cases hw9 : isP w 9
  ·
    obtain ⟨j, hj, rfl⟩ := isP_ofB hw9
    rw [show atP (nI j) 9 (abF S.nb S.n (nI S.ps.length) (nI S.td)) (-1) = abF S.nb S.n (nI S.ps.length) (nI S.td) j from by unfold atP; rw [if_pos hw9, nI_clamp (by omega)]]
    rcases (show j = 0 ∨ j = 1 ∨ j = 2 ∨ j = 3 ∨ j = 4 ∨ j = 5 ∨ j = 6 ∨ j = 7 ∨ j = 8 by omega) with rfl | rfl | rfl | rfl | rfl | rfl | rfl | rfl | rfl
    ·
      refine wp_tblIn (off := 51) (tgt := 52) (atd dX11_about 1 rfl) (by decide) (by decide) rfl (by decide) ?_
      refine wp_aload_n (atd dX11_about 2 rfl) rfl rfl ?_
      refine wp_get fX11_19 (atd dX11_about 3 rfl) hH rfl ?_
      refine wp_get fX11_113 (atd dX11_about 4 rfl) hN rfl ?_
      refine wp_ireti (atd dX11_about 5 rfl) rfl ?_
      exact ⟨rfl, fK.rf, hS⟩
    ·
      refine wp_tblIn (off := 59) (tgt := 60) (atd dX11_about 1 rfl) (by decide) (by decide) rfl (by decide) ?_
      refine wp_aload_n (atd dX11_about 6 rfl) rfl rfl ?_
      refine wp_get fX11_19 (atd dX11_about 7 rfl) hH rfl ?_
      refine wp_cVi hdd [] (atd dX11_about 8 rfl) iX3_lines lX11_119 rfl rfl (Nat.le_of_ble_eq_true rfl) hN rfl (eX3_lines (by omega) hN hNA hn (net_lt hV.1)) (fun r_64 s_64 h_64 => ?_)
      obtain ⟨rfl, e_64⟩ := h_64
      obtain rfl := e_64.symm
      refine wp_ireti (atd dX11_about 9 rfl) rfl ?_
      exact ⟨rfl, fK.rf, hS⟩
    ·
      refine wp_tblIn (off := 67) (tgt := 68) (atd dX11_about 1 rfl) (by decide) (by decide) rfl (by decide) ?_
      refine wp_aload_n (atd dX11_about 10 rfl) rfl rfl ?_
      refine wp_get fX11_19 (atd dX11_about 11 rfl) hH rfl ?_
      refine wp_cVi hdd [] (atd dX11_about 12 rfl) iX3_parts lX11_123 rfl rfl (Nat.le_of_ble_eq_true rfl) hN rfl (eX3_parts (by omega) hN hNA hn (net_lt hV.1)) (fun r_72 s_72 h_72 => ?_)
      obtain ⟨rfl, e_72⟩ := h_72
      obtain rfl := e_72.symm
      rw [pt_eq hV.1]
      refine wp_ireti (atd dX11_about 13 rfl) rfl ?_
      exact ⟨rfl, fK.rf, hS⟩
    ·
      refine wp_tblIn (off := 75) (tgt := 76) (atd dX11_about 1 rfl) (by decide) (by decide) rfl (by decide) ?_
      refine wp_aload_n (atd dX11_about 14 rfl) rfl rfl ?_
      refine wp_get fX11_19 (atd dX11_about 15 rfl) hH rfl ?_
      refine wp_cVi hdd [] (atd dX11_about 16 rfl) iX3_girth lX11_126 rfl rfl (Nat.le_of_ble_eq_true rfl) hN rfl (eX3_girth (by omega) hN hNA hn (net_lt hV.1)) (fun r_80 s_80 h_80 => ?_)
      obtain ⟨rfl, f_80, hNA⟩ := h_80
      have c2 : cNet S s_80 := ⟨hN.fr f_80 (by decide), hNA⟩
      obtain ⟨hS, hk0⟩ := CSt.upS hS f_80.A
      have hH := hS.1.2.2.2
      obtain ⟨hN, hNA⟩ := hS.2.1.2.1
      rw [gc_gir hV.1]
      refine wp_ireti (atd dX11_about 17 rfl) rfl ?_
      exact ⟨rfl, hk0, hS⟩
    ·
      refine wp_tblIn (off := 83) (tgt := 84) (atd dX11_about 1 rfl) (by decide) (by decide) rfl (by decide) ?_
      refine wp_aload_n (atd dX11_about 18 rfl) rfl rfl ?_
      refine wp_cVi hdd [] (atd dX11_about 19 rfl) iX11_low lX11_129 rfl rfl (Nat.le_of_ble_eq_true rfl) hH rfl (eX11_low (by omega) hV hS) (fun r_85 s_85 h_85 => ?_)
      obtain ⟨rfl, hk0, hS⟩ := h_85
      refine wp_ireti (atd dX11_about 20 rfl) rfl ?_
      exact ⟨rfl, hk0, hS⟩
    ·
      refine wp_tblIn (off := 88) (tgt := 89) (atd dX11_about 1 rfl) (by decide) (by decide) rfl (by decide) ?_
      refine wp_aload_n (atd dX11_about 21 rfl) rfl rfl ?_
      refine wp_get fX11_19 (atd dX11_about 22 rfl) hH rfl ?_
      refine wp_cVi hdd [] (atd dX11_about 23 rfl) iX3_cover lX11_132 rfl rfl (Nat.le_of_ble_eq_true rfl) hN rfl (eX3_cover (by omega) hN hNA hn (net_lt hV.1)) (fun r_93 s_93 h_93 => ?_)
      obtain ⟨rfl, e_93⟩ := h_93
      obtain rfl := e_93.symm
      rw [cov_eq hV.1]
      refine wp_cSi hdd [_] (atd dX11_about 24 rfl) iJ6_bitCount_0f7a4 lX11_135 rfl rfl (Nat.le_of_ble_eq_true rfl) (eJ6_bitCount (by omega) (cov_lt S.nb hn)) (fun r_96 s_96 h_96 => ?_)
      obtain ⟨rfl, e_96⟩ := h_96
      obtain rfl := e_96.symm
      refine wp_ireti (atd dX11_about 25 rfl) rfl ?_
      exact ⟨rfl, fK.rf, hS⟩
    ·
      refine wp_tblIn (off := 99) (tgt := 100) (atd dX11_about 1 rfl) (by decide) (by decide) rfl (by decide) ?_
      refine wp_aload_n (atd dX11_about 26 rfl) rfl rfl ?_
      refine wp_get fX11_19 (atd dX11_about 27 rfl) hH rfl ?_
      refine wp_cVi hdd [] (atd dX11_about 28 rfl) iX3_cover lX11_132 rfl rfl (Nat.le_of_ble_eq_true rfl) hN rfl (eX3_cover (by omega) hN hNA hn (net_lt hV.1)) (fun r_104 s_104 h_104 => ?_)
      obtain ⟨rfl, e_104⟩ := h_104
      obtain rfl := e_104.symm
      rw [cov_eq hV.1]
      refine wp_ireti (atd dX11_about 29 rfl) rfl ?_
      exact ⟨rfl, fK.rf, hS⟩
    ·
      refine wp_tblIn (off := 107) (tgt := 108) (atd dX11_about 1 rfl) (by decide) (by decide) rfl (by decide) ?_
      refine wp_aload_n (atd dX11_about 30 rfl) rfl rfl ?_
      refine wp_get fX11_79 (atd dX11_about 31 rfl) hH rfl ?_
      refine wp_get fX11_141 (atd dX11_about 32 rfl) hPa rfl ?_
      refine wp_ireti (atd dX11_about 33 rfl) rfl ?_
      exact ⟨rfl, fK.rf, hS⟩
    ·
      refine wp_tblIn (off := 115) (tgt := 116) (atd dX11_about 1 rfl) (by decide) (by decide) rfl (by decide) ?_
      refine wp_aload_n (atd dX11_about 34 rfl) rfl rfl ?_
      refine wp_get fX11_10 (atd dX11_about 35 rfl) hH rfl ?_
      refine wp_get fX11_86 (atd dX11_about 36 rfl) hSc rfl ?_
      refine wp_ireti (atd dX11_about 37 rfl) rfl ?_
      exact ⟨rfl, fK.rf, hS⟩
  ·
    refine wp_tblOut (tgt := 124) (atd dX11_about 1 rfl) (by have := hw9; omega) (by decide) ?_
    refine wp_iconst (v := -1) (atd dX11_about 38 rfl) (by decide) ?_
    refine wp_ireti (atd dX11_about 39 rfl) rfl ?_
    exact ⟨(by unfold atP; rw [if_neg hw9]), fK.rf, hS⟩
