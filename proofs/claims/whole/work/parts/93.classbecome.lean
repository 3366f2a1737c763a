/-! a net made of the net -/
theorem bcm_yes {S : Ab} {j : Nat} (hj : j < 3) (h0 : 0 < S.n) (h4 : j = 2 → S.n ≤ 4) : aBecome S (nI j) = nI (becN S.nb S.n j) ∧ S.becomeF (nI j) = S.nnet (becN S.nb S.n j) (becZ S.nb S.n j) := by
  have hy : bcOk S.n (nI j) := ⟨(isP_nI (by omega)).mpr hj, h0, fun z => h4 ((nI_eq (by omega) (by decide)).mp z)⟩
  unfold aBecome Ab.becomeF
  rw [if_pos hy, if_pos hy, nI_clamp (by omega)]
  exact ⟨rfl, rfl⟩
theorem bcm_no {S : Ab} {w : Int32} (h : ¬ bcOk S.n w) : aBecome S w = -1 ∧ S.becomeF w = S := ⟨if_neg h, if_neg h⟩
theorem bec_V {S : Ab} (hV : AbV S) (w : Int32) : AbV (S.becomeF w) := by
  by_cases h : bcOk S.n w
  · obtain ⟨j, hj, rfl⟩ := isP_ofB h.1
    have h4 : j = 2 → S.n ≤ 4 := fun z => h.2.2 (by rw [z])
    rw [(bcm_yes hj h.2.1 h4).2]
    refine nnet_V hV ?_
    rcases (by omega : j = 0 ∨ j = 1 ∨ j = 2) with rfl | rfl | rfl
    · exact (bec0 hV.1).2.2
    · have := tt_netZ hV.1
      rw [bec1 hV.1] at this
      exact this
    · exact (bec2 hV.1 (h4 rfl) h.2.1).2
  · rw [(bcm_no h).2]; exact hV
theorem isP3 {w : Int32} (h : isP w 3) : w = 0 ∨ w = nI 1 ∨ w = nI 2 := by
  obtain ⟨j, hj, rfl⟩ := isP_ofB h
  rcases (by omega : j = 0 ∨ j = 1 ∨ j = 2) with rfl | rfl | rfl
  · exact Or.inl rfl
  · exact Or.inr (Or.inl rfl)
  · exact Or.inr (Or.inr rfl)
theorem vX11_become {G : Gx} {d : Nat} {σ : Hp} (hd : 5 ≤ d) {S : Ab} {mk : Nat → Option Nat} {T : Nat} (hV : AbV S) (hS : CSt S σ mk T) {w : Int32} : Cl G mX11_become d [.ref 0, .int w] σ 0 0 (pI fun r s => r = aBecome S w ∧ fK σ s ∧ CSt (S.becomeF w) s mk T) := by
  obtain ⟨d0, hdd⟩ : ∃ e, d = e + 1 := ⟨d - 1, by omega⟩
  refine cl_of (by decide) (by simp [Value.category]) (Nat.le_of_ble_eq_true rfl) ?_
  show Wp G mX11_become d 0 [.ref 0, .int w] [] σ 0 0 _
  have hH := hS.1.2.2.2
  have hn := hV.1.1.1
  obtain ⟨hN, hNA⟩ := hS.2.1.2.1
  obtain ⟨dn, dnb, hdn, hdw, hDr, hDA⟩ := id hS.2.1.2.2.1
  have hDi : ∃ F, OB σ 9 0 F := by
    rcases hS.2.1.2.2.2 with ⟨t, c, h1, h2, h3, h4⟩ | ⟨D, t, c, h1, h2, h3⟩
    · exact ⟨_, h1⟩
    · exact ⟨_, h1⟩
  obtain ⟨dF, hDi⟩ := hDi
  refine wp_aload_n (atd dX11_become 0 rfl) rfl rfl ?_
  refine wp_get fX11_19 (atd dX11_become 1 rfl) hH rfl ?_
  refine wp_get fX11_113 (atd dX11_become 2 rfl) hN rfl ?_
  refine wp_ifN_ne (tgt := 12) (atd dX11_become 3 rfl) (by decide) (by omega) (fun c_7 => ?_) (fun c_7 => ?_)
  ·
    refine wp_iload_n (atd dX11_become 6 rfl) rfl ?_
    refine wp_if_ne (tgt := 48) (atd dX11_become 7 rfl) (by decide) (fun c_13 => ?_) (fun c_13 => ?_)
    ·
      refine wp_iload_n (atd dX11_become 22 rfl) rfl ?_
      refine wp_iconst (v := nI 1) (atd dX11_become 23 rfl) (by decide) ?_
      refine wp_icmp_ne (tgt := 67) (atd dX11_become 24 rfl) (by decide) (fun c_50 => ?_) (fun c_50 => ?_)
      ·
        refine wp_iload_n (atd dX11_become 31 rfl) rfl ?_
        refine wp_iconst (v := nI 2) (atd dX11_become 32 rfl) (by decide) ?_
        refine wp_icmp_ne (tgt := 97) (atd dX11_become 33 rfl) (by decide) (fun c_69 => ?_) (fun c_69 => ?_)
        ·
          refine wp_iconst (v := -1) (atd dX11_become 45 rfl) (by decide) ?_
          refine wp_ireti (atd dX11_become 46 rfl) rfl ?_
          have hno : ¬ bcOk S.n w := fun z => (isP3 z.1).elim c_13 (fun q => q.elim c_50 c_69)
          rw [(bcm_no hno).1, (bcm_no hno).2]
          exact ⟨rfl, fK.rf, hS⟩
        ·
          obtain rfl : w = nI 2 := Classical.not_not.mp c_69
          refine wp_aload_n (atd dX11_become 34 rfl) rfl rfl ?_
          refine wp_get fX11_19 (atd dX11_become 35 rfl) hH rfl ?_
          refine wp_get fX11_113 (atd dX11_become 36 rfl) hN rfl ?_
          refine wp_iconst (v := nI 4) (atd dX11_become 37 rfl) (by decide) ?_
          refine wp_icmpN_gt (tgt := 97) (atd dX11_become 38 rfl) (by decide) (by omega) (by omega) (fun c_80 => ?_) (fun c_80 => ?_)
          ·
            refine wp_iconst (v := -1) (atd dX11_become 45 rfl) (by decide) ?_
            refine wp_ireti (atd dX11_become 46 rfl) rfl ?_
            have hno : ¬ bcOk S.n (nI 2) := fun z => by have := z.2.2 rfl; omega
            rw [(bcm_no hno).1, (bcm_no hno).2]
            exact ⟨rfl, fK.rf, hS⟩
          ·
            refine wp_aload_n (atd dX11_become 39 rfl) rfl rfl ?_
            refine wp_get fX11_23 (atd dX11_become 40 rfl) hH rfl ?_
            refine wp_aload_n (atd dX11_become 41 rfl) rfl rfl ?_
            refine wp_get fX11_19 (atd dX11_become 42 rfl) hH rfl ?_
            refine wp_cVv hdd [_] (atd dX11_become 43 rfl) iX3_takeTwice lX11_332 rfl rfl (Nat.le_of_ble_eq_true rfl) hDr rfl (eX3_takeTwice (by omega) hDr hDA hN hNA (by omega) (by omega) (net_lt hV.1)) (fun s_91 h_91 => ?_)
            obtain ⟨f_91, hDr, hDA⟩ := h_91
            obtain ⟨b2, hNZ⟩ := bec2 hV.1 (by omega) (by omega)
            have hDA := hDA.cg b2
            have hDr : OB s_91 7 3 [.int (nI (becN S.nb S.n 2)), .ref (7 + 1)] := hDr
            have c3 : cDra s_91 := ⟨_, _, hNZ.1.1, net_lt hNZ, hDr, hDA⟩
            obtain ⟨hS, hk2⟩ := CSt.upS hS f_91.A
            have hH := hS.1.2.2.2
            refine wp_goto (tgt := 99) (atd dX11_become 44 rfl) (by decide) ?_
            refine wp_aload_n (atd dX11_become 47 rfl) rfl rfl ?_
            refine wp_cVv hdd [] (atd dX11_become 48 rfl) iX11_takeDraft lX11_320 rfl rfl (Nat.le_of_ble_eq_true rfl) hH rfl (eX11_takeDraft (by omega) hV hS hDr hDA hNZ) (fun s_100 h_100 => ?_)
            obtain ⟨hS, hk3⟩ := h_100
            have hH := hS.1.2.2.2
            obtain ⟨hN, hNA⟩ := hS.2.1.2.1
            refine wp_aload_n (atd dX11_become 49 rfl) rfl rfl ?_
            refine wp_get fX11_19 (atd dX11_become 50 rfl) hH rfl ?_
            refine wp_get fX11_113 (atd dX11_become 51 rfl) hN rfl ?_
            refine wp_ireti (atd dX11_become 52 rfl) rfl ?_
            have hy := bcm_yes (S := S) (j := 2) (by decide) (by omega) (fun _ => by omega)
            rw [hy.1, hy.2]
            exact ⟨rfl, hk2.tr hk3, hS⟩
      ·
        obtain rfl : w = nI 1 := Classical.not_not.mp c_50
        refine wp_aload_n (atd dX11_become 25 rfl) rfl rfl ?_
        refine wp_get fX11_23 (atd dX11_become 26 rfl) hH rfl ?_
        refine wp_aload_n (atd dX11_become 27 rfl) rfl rfl ?_
        refine wp_get fX11_19 (atd dX11_become 28 rfl) hH rfl ?_
        refine wp_cVv hdd [_] (atd dX11_become 29 rfl) iX3_takeTurned lX11_329 rfl rfl (Nat.le_of_ble_eq_true rfl) hDr rfl (eX3_takeTurned (by omega) hDr hDA hN hNA (by omega) hn (net_lt hV.1)) (fun s_61 h_61 => ?_)
        obtain ⟨f_61, hDr, hDA⟩ := h_61
        have hNZ : isNetZ (becN S.nb S.n 1) (becZ S.nb S.n 1) := by have := tt_netZ hV.1; rw [bec1 hV.1] at this; exact this
        rw [bec1 hV.1] at hDA
        have hDr : OB s_61 7 3 [.int (nI (becN S.nb S.n 1)), .ref (7 + 1)] := hDr
        have c3 : cDra s_61 := ⟨_, _, hNZ.1.1, net_lt hNZ, hDr, hDA⟩
        obtain ⟨hS, hk2⟩ := CSt.upS hS f_61.A
        have hH := hS.1.2.2.2
        refine wp_goto (tgt := 99) (atd dX11_become 30 rfl) (by decide) ?_
        refine wp_aload_n (atd dX11_become 47 rfl) rfl rfl ?_
        refine wp_cVv hdd [] (atd dX11_become 48 rfl) iX11_takeDraft lX11_320 rfl rfl (Nat.le_of_ble_eq_true rfl) hH rfl (eX11_takeDraft (by omega) hV hS hDr hDA hNZ) (fun s_100 h_100 => ?_)
        obtain ⟨hS, hk3⟩ := h_100
        have hH := hS.1.2.2.2
        obtain ⟨hN, hNA⟩ := hS.2.1.2.1
        refine wp_aload_n (atd dX11_become 49 rfl) rfl rfl ?_
        refine wp_get fX11_19 (atd dX11_become 50 rfl) hH rfl ?_
        refine wp_get fX11_113 (atd dX11_become 51 rfl) hN rfl ?_
        refine wp_ireti (atd dX11_become 52 rfl) rfl ?_
        have hy := bcm_yes (S := S) (j := 1) (by decide) (by omega) (by omega)
        rw [hy.1, hy.2]
        exact ⟨rfl, hk2.tr hk3, hS⟩
    ·
      obtain rfl : w = nI 0 := Classical.not_not.mp c_13
      refine wp_aload_n (atd dX11_become 8 rfl) rfl rfl ?_
      refine wp_get fX11_29 (atd dX11_become 9 rfl) hH rfl ?_
      refine wp_aload_n (atd dX11_become 10 rfl) rfl rfl ?_
      refine wp_get fX11_19 (atd dX11_become 11 rfl) hH rfl ?_
      refine wp_cVv hdd [_] (atd dX11_become 12 rfl) iX0_settle lX11_169 rfl rfl (Nat.le_of_ble_eq_true rfl) hDi rfl (eX0_settleC (by omega) hV hS) (fun s_24 h_24 => ?_)
      obtain ⟨hS, hk1, t0, c0, hDi, -⟩ := h_24
      have hH := hS.1.2.2.2
      obtain ⟨hN, hNA⟩ := hS.2.1.2.1
      obtain ⟨dn, dnb, hdn, hdw, hDr, hDA⟩ := id hS.2.1.2.2.1
      refine wp_aload_n (atd dX11_become 13 rfl) rfl rfl ?_
      refine wp_get fX11_23 (atd dX11_become 14 rfl) hH rfl ?_
      refine wp_aload_n (atd dX11_become 15 rfl) rfl rfl ?_
      refine wp_get fX11_19 (atd dX11_become 16 rfl) hH rfl ?_
      refine wp_aload_n (atd dX11_become 17 rfl) rfl rfl ?_
      refine wp_get fX11_29 (atd dX11_become 18 rfl) hH rfl ?_
      refine wp_get fX11_179 (atd dX11_become 19 rfl) hDi rfl ?_
      refine wp_cVv hdd [_, _] (atd dX11_become 20 rfl) iX3_takePart lX11_326 rfl rfl (Nat.le_of_ble_eq_true rfl) hDr rfl (eX3_takePart (by omega) hDr hDA hN hNA (by omega) (Nat.lt_of_lt_of_le (dis0_lt S.nb hn).1 (pow9 hn)) hn (net_lt hV.1)) (fun s_42 h_42 => ?_)
      obtain ⟨f_42, hDr, hDA⟩ := h_42
      obtain ⟨b1, b2, hNZ⟩ := bec0 hV.1
      rw [b1] at hDr
      rw [b2] at hDA
      have c3 : cDra s_42 := ⟨_, _, hNZ.1.1, net_lt hNZ, hDr, hDA⟩
      obtain ⟨hS, hk2⟩ := CSt.upS hS f_42.A
      have hH := hS.1.2.2.2
      refine wp_goto (tgt := 99) (atd dX11_become 21 rfl) (by decide) ?_
      refine wp_aload_n (atd dX11_become 47 rfl) rfl rfl ?_
      refine wp_cVv hdd [] (atd dX11_become 48 rfl) iX11_takeDraft lX11_320 rfl rfl (Nat.le_of_ble_eq_true rfl) hH rfl (eX11_takeDraft (by omega) hV hS hDr hDA hNZ) (fun s_100 h_100 => ?_)
      obtain ⟨hS, hk3⟩ := h_100
      have hH := hS.1.2.2.2
      obtain ⟨hN, hNA⟩ := hS.2.1.2.1
      refine wp_aload_n (atd dX11_become 49 rfl) rfl rfl ?_
      refine wp_get fX11_19 (atd dX11_become 50 rfl) hH rfl ?_
      refine wp_get fX11_113 (atd dX11_become 51 rfl) hN rfl ?_
      refine wp_ireti (atd dX11_become 52 rfl) rfl ?_
      have hy := bcm_yes (S := S) (j := 0) (by decide) (by omega) (by omega)
      rw [hy.1, hy.2]
      exact ⟨rfl, hk1.tr (hk2.tr hk3), hS⟩
  ·
    refine wp_iconst (v := -1) (atd dX11_become 4 rfl) (by decide) ?_
    refine wp_ireti (atd dX11_become 5 rfl) rfl ?_
    have hno : ¬ bcOk S.n w := fun z => by have := z.2.1; omega
    rw [(bcm_no hno).1, (bcm_no hno).2]
    exact ⟨rfl, fK.rf, hS⟩
