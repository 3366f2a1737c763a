/-- the class's number of the hunters told -/
def rwT (n : Nat) (t : Option (Nat × Row)) : Option Nat := t.map (fun x => xi x.1 n (rwi (rowsL x.1 n) x.2))
theorem row_num {h n a b c : Nat} {ρ : Row} (h1 : 1 ≤ h) (h3 : h ≤ 3) (hn : n ≤ 9) (hm : ρ ∈ rowsL h n) (e : tl3 a b c = rcT h ρ) : num a b c = some (xi h n (rwi (rowsL h n) ρ)) := by
  have hi := rwi_lt hm
  rw [num_iff (xi_lt h1 h3 hn hi), xi_row h1 h3 hn hi, rwi_at hm, e]
theorem rw_1 {n a : Nat} (hn : n ≤ 9) (ha : a < n) : num a 9 9 = rwT n (tlF n (nI a) (-1) (-1)) := by
  have e := tl_1 hn ha
  obtain ⟨h1, h3, -, hm⟩ := tl_ok hn e
  rw [e]
  refine row_num h1 h3 hn hm ?_
  unfold tl3 rcT mn mx
  have c1 : ¬ (9 ≤ a) := by omega
  have c2 : a ≤ 9 := by omega
  simp [c1, c2]
theorem rw_2 {n a b : Nat} (hn : n ≤ 9) (ha : a < n) (hb : b < n) : num a b 9 = rwT n (tlF n (nI a) (nI b) (-1)) := by
  have e := tl_2 hn ha hb
  obtain ⟨h1, h3, -, hm⟩ := tl_ok hn e
  rw [e]
  refine row_num h1 h3 hn hm ?_
  show (mn (mn a b) 9, mx (mn a b) (mn (mx a b) 9), mx (mx a b) 9) = (mn a b, mx a b, 9)
  simp only [Prod.mk.injEq]
  refine ⟨?_, ?_, ?_⟩ <;> (simp only [mn, mx]; (repeat' split) <;> omega)
theorem rw_3 {n a b c : Nat} (hn : n ≤ 9) (ha : a < n) (hb : b < n) (hc : c < n) : num a b c = rwT n (tlF n (nI a) (nI b) (nI c)) := by
  have e := tl_3 hn ha hb hc
  obtain ⟨h1, h3, -, hm⟩ := tl_ok hn e
  rw [e]
  exact row_num h1 h3 hn hm rfl
theorem eX11_rowOf {G : Gx} {d : Nat} {σ : Hp} (hd : 2 ≤ d) {S : Ab} {mk : Nat → Option Nat} {T : Nat} (hV : AbV S) (hS : CSt S σ mk T) {a b c : Int32} : Cl G mX11_rowOf d [.ref 0, .int a, .int b, .int c] σ 0 0 (pI fun r s => r = oI (rwT S.n (tlF S.n a b c)) ∧ s = σ) := by
  obtain ⟨d0, hdd⟩ : ∃ e, d = e + 1 := ⟨d - 1, by omega⟩
  refine cl_of (by decide) (by simp [Value.category]) (Nat.le_of_ble_eq_true rfl) ?_
  show Wp G mX11_rowOf d 0 [.ref 0, .int a, .int b, .int c] [] σ 0 0 _
  have hH := hS.1.2.2.2
  have hn := hV.1.1.1
  obtain ⟨hN, hNA⟩ := hS.2.1.2.1
  have hGo := hS.2.2.1.1.1
  obtain ⟨hTz, hLz, tz, lz, hFS, htz⟩ := hS.2.2.1.1.2.2.1
  have hRo := hFS.ob
  refine wp_aload_n (atd dX11_rowOf 0 rfl) rfl rfl ?_
  refine wp_get fX11_19 (atd dX11_rowOf 1 rfl) hH rfl ?_
  refine wp_iload_n (atd dX11_rowOf 2 rfl) rfl ?_
  refine wp_cVi hdd [_] (atd dX11_rowOf 3 rfl) iX3_has lX11_144 rfl rfl (Nat.le_of_ble_eq_true rfl) hN rfl (eX3_has (by omega) hN hn) (fun r_5 s_5 h_5 => ?_)
  obtain ⟨rfl, e_5⟩ := h_5
  obtain rfl := e_5.symm
  refine wp_ifB_ne (tgt := 13) (atd dX11_rowOf 4 rfl) (by decide) (fun c_8 => ?_) (fun c_8 => ?_)
  ·
    obtain ⟨x, hx, rfl⟩ := isP_of hn c_8
    refine wp_iload_n (atd dX11_rowOf 7 rfl) rfl ?_
    refine wp_iconst (v := -1) (atd dX11_rowOf 8 rfl) (by decide) ?_
    refine wp_icmp_ne (tgt := 43) (atd dX11_rowOf 9 rfl) (by decide) (fun c_15 => ?_) (fun c_15 => ?_)
    ·
      refine wp_aload_n (atd dX11_rowOf 23 rfl) rfl rfl ?_
      refine wp_get fX11_19 (atd dX11_rowOf 24 rfl) hH rfl ?_
      refine wp_iload_n (atd dX11_rowOf 25 rfl) rfl ?_
      refine wp_cVi hdd [_] (atd dX11_rowOf 26 rfl) iX3_has lX11_144 rfl rfl (Nat.le_of_ble_eq_true rfl) hN rfl (eX3_has (by omega) hN hn) (fun r_48 s_48 h_48 => ?_)
      obtain ⟨rfl, e_48⟩ := h_48
      obtain rfl := e_48.symm
      refine wp_ifB_ne (tgt := 56) (atd dX11_rowOf 27 rfl) (by decide) (fun c_51 => ?_) (fun c_51 => ?_)
      ·
        obtain ⟨y, hy, rfl⟩ := isP_of hn c_51
        refine wp_iload_n (atd dX11_rowOf 30 rfl) rfl ?_
        refine wp_iconst (v := -1) (atd dX11_rowOf 31 rfl) (by decide) ?_
        refine wp_icmp_ne (tgt := 76) (atd dX11_rowOf 32 rfl) (by decide) (fun c_58 => ?_) (fun c_58 => ?_)
        ·
          refine wp_aload_n (atd dX11_rowOf 41 rfl) rfl rfl ?_
          refine wp_get fX11_19 (atd dX11_rowOf 42 rfl) hH rfl ?_
          refine wp_iload_n (atd dX11_rowOf 43 rfl) rfl ?_
          refine wp_cVi hdd [_] (atd dX11_rowOf 44 rfl) iX3_has lX11_144 rfl rfl (Nat.le_of_ble_eq_true rfl) hN rfl (eX3_has (by omega) hN hn) (fun r_81 s_81 h_81 => ?_)
          obtain ⟨rfl, e_81⟩ := h_81
          obtain rfl := e_81.symm
          refine wp_ifB_eq (tgt := 103) (atd dX11_rowOf 45 rfl) (by decide) (fun c_84 => ?_) (fun c_84 => ?_)
          ·
            refine wp_iconst (v := -1) (atd dX11_rowOf 54 rfl) (by decide) ?_
            refine wp_ireti (atd dX11_rowOf 55 rfl) rfl ?_
            exact ⟨by rw [tl_3n hn hx hy c_58 c_84]; rfl, rfl⟩
          ·
            obtain ⟨z, hz, rfl⟩ := isP_of hn c_84
            refine wp_aload_n (atd dX11_rowOf 46 rfl) rfl rfl ?_
            refine wp_get fX11_38 (atd dX11_rowOf 47 rfl) hH rfl ?_
            refine wp_get fX11_58 (atd dX11_rowOf 48 rfl) hGo rfl ?_
            refine wp_iload_n (atd dX11_rowOf 49 rfl) rfl ?_
            refine wp_iload_n (atd dX11_rowOf 50 rfl) rfl ?_
            refine wp_iload_n (atd dX11_rowOf 51 rfl) rfl ?_
            refine wp_cVi hdd [_, _, _] (atd dX11_rowOf 52 rfl) iX5_numberOf lX11_356 rfl rfl (Nat.le_of_ble_eq_true rfl) hRo rfl (eX5_numberOf (by omega) hRo hTz (by omega) (by omega) (by omega)) (fun r_97 s_97 h_97 => ?_)
            obtain ⟨rfl, e_97⟩ := h_97
            obtain rfl := e_97.symm
            refine wp_goto (tgt := 104) (atd dX11_rowOf 53 rfl) (by decide) ?_
            refine wp_ireti (atd dX11_rowOf 55 rfl) rfl ?_
            exact ⟨by rw [rw_3 hn hx hy hz], rfl⟩
        ·
          have ec : c = -1 := Classical.not_not.mp c_58
          refine wp_aload_n (atd dX11_rowOf 33 rfl) rfl rfl ?_
          refine wp_get fX11_38 (atd dX11_rowOf 34 rfl) hH rfl ?_
          refine wp_get fX11_58 (atd dX11_rowOf 35 rfl) hGo rfl ?_
          refine wp_iload_n (atd dX11_rowOf 36 rfl) rfl ?_
          refine wp_iload_n (atd dX11_rowOf 37 rfl) rfl ?_
          refine wp_bipush (v := nI 9) (atd dX11_rowOf 38 rfl) (by decide) ?_
          refine wp_cVi hdd [_, _, _] (atd dX11_rowOf 39 rfl) iX5_numberOf lX11_356 rfl rfl (Nat.le_of_ble_eq_true rfl) hRo rfl (eX5_numberOf (by omega) hRo hTz (by omega) (by omega) (by omega)) (fun r_72 s_72 h_72 => ?_)
          obtain ⟨rfl, e_72⟩ := h_72
          obtain rfl := e_72.symm
          refine wp_ireti (atd dX11_rowOf 40 rfl) rfl ?_
          exact ⟨by rw [ec, rw_2 hn hx hy], rfl⟩
      ·
        refine wp_iconst (v := -1) (atd dX11_rowOf 28 rfl) (by decide) ?_
        refine wp_ireti (atd dX11_rowOf 29 rfl) rfl ?_
        exact ⟨by rw [tl_2n hn hx c_15 c_51]; rfl, rfl⟩
    ·
      have eb : b = -1 := Classical.not_not.mp c_15
      refine wp_iload_n (atd dX11_rowOf 10 rfl) rfl ?_
      refine wp_iconst (v := -1) (atd dX11_rowOf 11 rfl) (by decide) ?_
      refine wp_icmp_ne (tgt := 41) (atd dX11_rowOf 12 rfl) (by decide) (fun c_20 => ?_) (fun c_20 => ?_)
      ·
        refine wp_iconst (v := -1) (atd dX11_rowOf 21 rfl) (by decide) ?_
        refine wp_ireti (atd dX11_rowOf 22 rfl) rfl ?_
        exact ⟨by rw [eb, tl_1n hn hx c_20]; rfl, rfl⟩
      ·
        have ec : c = -1 := Classical.not_not.mp c_20
        refine wp_aload_n (atd dX11_rowOf 13 rfl) rfl rfl ?_
        refine wp_get fX11_38 (atd dX11_rowOf 14 rfl) hH rfl ?_
        refine wp_get fX11_58 (atd dX11_rowOf 15 rfl) hGo rfl ?_
        refine wp_iload_n (atd dX11_rowOf 16 rfl) rfl ?_
        refine wp_bipush (v := nI 9) (atd dX11_rowOf 17 rfl) (by decide) ?_
        refine wp_bipush (v := nI 9) (atd dX11_rowOf 18 rfl) (by decide) ?_
        refine wp_cVi hdd [_, _, _] (atd dX11_rowOf 19 rfl) iX5_numberOf lX11_356 rfl rfl (Nat.le_of_ble_eq_true rfl) hRo rfl (eX5_numberOf (by omega) hRo hTz (by omega) (by omega) (by omega)) (fun r_35 s_35 h_35 => ?_)
        obtain ⟨rfl, e_35⟩ := h_35
        obtain rfl := e_35.symm
        refine wp_goto (tgt := 42) (atd dX11_rowOf 20 rfl) (by decide) ?_
        refine wp_ireti (atd dX11_rowOf 22 rfl) rfl ?_
        exact ⟨by rw [eb, ec, rw_1 hn hx], rfl⟩
  ·
    refine wp_iconst (v := -1) (atd dX11_rowOf 5 rfl) (by decide) ?_
    refine wp_ireti (atd dX11_rowOf 6 rfl) rfl ?_
    exact ⟨by rw [tl_0 c_8]; rfl, rfl⟩
theorem hOf_xi {h n i : Nat} (h1 : 1 ≤ h) (h3 : h ≤ 3) (hn : n ≤ 9) (hi : i < (rowsL h n).length) : hOf (xi h n i) = h := by
  obtain ⟨m1, m2, -⟩ := xi_mem h1 h3 hn hi
  generalize xi h n i = x at m1 m2
  have e1 : frN 1 = 0 := by decide
  have e2 : frN 2 = 9 := by decide
  have e3 : frN 3 = 54 := by decide
  unfold hOf
  rcases (show h = 1 ∨ h = 2 ∨ h = 3 by omega) with rfl | rfl | rfl
  · have m2 : x < frN 2 := m2
    rw [e2] at m2; rw [if_pos (by omega)]
  · have m2 : x < frN 3 := m2
    rw [e2] at m1; rw [e3] at m2
    rw [if_neg (by omega), if_pos (by omega)]
  · rw [e3] at m1
    rw [if_neg (by omega), if_neg (by omega)]
theorem vX11_sure {G : Gx} {d : Nat} {σ : Hp} (hd : 7 ≤ d) {S : Ab} {mk : Nat → Option Nat} {T : Nat} (hV : AbV S) (hS : CSt S σ mk T) (hT0 : T + 245390 < 2 ^ 31) {k a b c : Int32} : Cl G mX11_sure d [.ref 0, .int k, .int a, .int b, .int c] σ 1 1485 (pI fun r s => r = atP k 3 (fun kd => surF S.nb S.n kd (tlF S.n a b c)) (-1) ∧ fK σ s ∧ ∃ mk2, mk2 0 = mk 0 ∧ CSt S s mk2 (T + 245190)) := by
  obtain ⟨d0, hdd⟩ : ∃ e, d = e + 1 := ⟨d - 1, by omega⟩
  refine cl_of (by decide) (by simp [Value.category]) (Nat.le_of_ble_eq_true rfl) ?_
  show Wp G mX11_sure d 0 [.ref 0, .int k, .int a, .int b, .int c, .double 0, .double 0] [] σ 1 1485 _
  have hH := hS.1.2.2.2
  have hn := hV.1.1.1
  have hGo := hS.2.2.1.1.1
  refine wp_aload_n (atd dX11_sure 0 rfl) rfl rfl ?_
  refine wp_iload_n (atd dX11_sure 1 rfl) rfl ?_
  refine wp_iload_n (atd dX11_sure 2 rfl) rfl ?_
  refine wp_iload (atd dX11_sure 3 rfl) rfl ?_
  refine wp_cVi hdd [_, _, _] (atd dX11_sure 4 rfl) iX11_rowOf lX11_202 rfl rfl (Nat.le_of_ble_eq_true rfl) hH rfl (eX11_rowOf (by omega) hV hS) (fun r_5 s_5 h_5 => ?_)
  obtain ⟨rfl, e_5⟩ := h_5
  obtain rfl := e_5.symm
  cases et : tlF S.n a b c with
  | none =>
    show Wp G mX11_sure d 8 _ (.int (-1) :: _) _ _ _ _
    refine wp_istore (atd dX11_sure 5 rfl) (Nat.le_of_ble_eq_true rfl) ?_
    refine wp_iload (atd dX11_sure 6 rfl) rfl ?_
    refine wp_iconst (v := -1) (atd dX11_sure 7 rfl) (by decide) ?_
    refine wp_icmp_ne (tgt := 20) (atd dX11_sure 8 rfl) (by decide) (fun c_13 => ?_) (fun c_13 => ?_)
    · exact absurd rfl c_13
    ·
      refine wp_null (atd dX11_sure 9 rfl) ?_
      refine wp_goto (tgt := 33) (atd dX11_sure 10 rfl) (by decide) ?_
      refine wp_astore (atd dX11_sure 17 rfl) (Nat.le_of_ble_eq_true rfl) rfl ?_
      refine wp_aload (atd dX11_sure 18 rfl) rfl rfl ?_
      refine wp_ifnonnull_n (atd dX11_sure 19 rfl) ?_
      refine wp_iconst (v := -1) (atd dX11_sure 20 rfl) (by decide) ?_
      refine wp_goto (tgt := 58) (atd dX11_sure 21 rfl) (by decide) ?_
      refine wp_ireti (atd dX11_sure 28 rfl) rfl ?_
      exact ⟨(atP_const k 3 _ (fun j => rfl)).symm, fK.rf, mk, rfl, CSt_T hS (by omega)⟩
  | some t =>
    obtain ⟨h, ρ⟩ := t
    obtain ⟨hh1, hh3, hn1, hm⟩ := tl_ok hn et
    have hi := rwi_lt hm
    have hx9 := xi_lt hh1 hh3 hn hi
    show Wp G mX11_sure d 8 _ (.int (nI (xi h S.n (rwi (rowsL h S.n) ρ))) :: _) _ _ _ _
    refine wp_istore (atd dX11_sure 5 rfl) (Nat.le_of_ble_eq_true rfl) ?_
    refine wp_iload (atd dX11_sure 6 rfl) rfl ?_
    refine wp_iconst (v := -1) (atd dX11_sure 7 rfl) (by decide) ?_
    refine wp_icmp_ne (tgt := 20) (atd dX11_sure 8 rfl) (by decide) (fun c_13 => ?_) (fun c_13 => ?_)
    ·
      refine wp_aload_n (atd dX11_sure 11 rfl) rfl rfl ?_
      refine wp_get fX11_38 (atd dX11_sure 12 rfl) hH rfl ?_
      refine wp_iload_n (atd dX11_sure 13 rfl) rfl ?_
      refine wp_iload (atd dX11_sure 14 rfl) rfl ?_
      refine wp_cSi hdd [_] (atd dX11_sure 15 rfl) iX5_huntersOf lX11_206 rfl rfl (Nat.le_of_ble_eq_true rfl) (eX5_huntersOf (by omega) hx9) (fun r_27 s_27 h_27 => ?_)
      obtain ⟨rfl, e_27⟩ := h_27
      obtain rfl := e_27.symm
      rw [hOf_xi hh1 hh3 hn hi]
      refine wp_cVr hdd [_, _] (atd dX11_sure 16 rfl) iX2_solved lX11_185 rfl rfl (Nat.le_of_ble_eq_true rfl) hGo rfl (eX2_solvedC (by omega) hV hS hT0) (show 1 = 1 + 0 from rfl) (show 1485 = 1485 + 0 from rfl) (fun r_30 s_30 h_30 => ?_)
      obtain ⟨hK, mk2, hm0, hS, hA⟩ := h_30
      have hH := hS.1.2.2.2
      obtain ⟨hN, hNA⟩ := hS.2.1.2.1
      rcases hA with ⟨hG, rfl⟩ | ⟨kd, h2, rfl, eh, hkd, g1, g3, hn0, rfl, op, tn, rf, hp, hGx⟩
      ·
        refine wp_astore (atd dX11_sure 17 rfl) (Nat.le_of_ble_eq_true rfl) rfl ?_
        refine wp_aload (atd dX11_sure 18 rfl) rfl rfl ?_
        refine wp_ifnonnull_n (atd dX11_sure 19 rfl) ?_
        refine wp_iconst (v := -1) (atd dX11_sure 20 rfl) (by decide) ?_
        refine wp_goto (tgt := 58) (atd dX11_sure 21 rfl) (by decide) ?_
        refine wp_ireti (atd dX11_sure 28 rfl) rfl ?_
        refine ⟨?_, hK, mk2, hm0, hS⟩
        unfold atP
        exact (if_neg (fun z => hG ⟨z, ⟨by rw [nI_toInt (by omega)]; omega, by rw [nI_toInt (by omega)]; omega⟩, hn1⟩)).symm
      ·
        obtain rfl := nI_inj9 (by omega) (by omega) eh
        obtain ⟨hGm, hX, hRd⟩ := id hGx
        obtain ⟨wa, wo, ew, hWo, ⟨⟨w, hFin⟩, hwb, rfl, rfl, rfl⟩, hhp⟩ := hRd rfl
        have hfl := frN_le h hh1 hh3
        rw [ew] at hGm
        have hGm : OB s_30 (12 + 13 + gix kd h) 1 (gaF kd (frN h) (frN (h + 1)) _ (.ref wa) _ _ _ hp) := hGm
        obtain ⟨hm1, hm2, hm3⟩ := xi_mem hh1 hh3 hn hi
        refine wp_astore (atd dX11_sure 17 rfl) (Nat.le_of_ble_eq_true rfl) rfl ?_
        refine wp_aload (atd dX11_sure 18 rfl) rfl rfl ?_
        refine wp_ifnonnull_r (tgt := 44) (atd dX11_sure 19 rfl) (by decide) ?_
        refine wp_aload (atd dX11_sure 22 rfl) rfl rfl ?_
        refine wp_iload (atd dX11_sure 23 rfl) rfl ?_
        refine wp_aload_n (atd dX11_sure 24 rfl) rfl rfl ?_
        refine wp_get fX11_19 (atd dX11_sure 25 rfl) hH rfl ?_
        refine wp_get fX11_113 (atd dX11_sure 26 rfl) hN rfl ?_
        refine wp_cVi hdd [_, _] (atd dX11_sure 27 rfl) iX1_sureBits lX11_209 rfl rfl (Nat.le_of_ble_eq_true rfl) hGm rfl (eX1_sureBits (by omega) hGm hWo (by omega) hwb hm1 hm2 hn) (fun r_55 s_55 h_55 => ?_)
        obtain ⟨rfl, e_55⟩ := h_55
        obtain rfl := e_55.symm
        refine wp_ireti (atd dX11_sure 28 rfl) rfl ?_
        refine ⟨?_, hK, mk2, hm0, hS⟩
        unfold atP
        rw [if_pos ((isP_nI (by omega)).mpr hkd), nI_clamp (by omega), su_eq hV.1 hh1 hh3 hFin hi]
        rfl
    · exact absurd (fun e => nI_m1 (by omega) e) c_13
