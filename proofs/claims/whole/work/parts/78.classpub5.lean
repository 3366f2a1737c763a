/-- the class's number of the hunters told -/
def rwT (n : Nat) (t : Option (Nat × Row)) : Option Nat := t.map (fun x => xi x.1 n (rwi (rowsL x.1 n) x.2))
theorem row_num {h n a b c : Nat} {ρ : Row} (h1 : 1 ≤ h) (h3 : h ≤ 3) (hn : n ≤ 9) (hm : ρ ∈ rowsL h n) (e : tl3 a b c = rcT h ρ) : num a b c = some (xi h n (rwi (rowsL h n) ρ)) := by
  have hi := rwi_lt hm
  rw [num_iff (xi_lt h1 h3 hn hi), xi_row h1 h3 hn hi, rwi_at hm, e]
theorem rw_1 {n a : Nat} (hn : n ≤ 9) (ha : a < n) : num a 9 9 = rwT n (tlF n (nI a) (-1) (-1)) := by
  have e := tl_1 hn ha
  obtain ⟨h1, h3, -, hm⟩ := tl_ok hn e
  rw [e]
  refine row_num h1 h3 hn hm ?_
  unfold tl3 rcT mn mx
  have c1 : ¬ (9 ≤ a) := by omega
  have c2 : a ≤ 9 := by omega
  simp [c1, c2]
theorem rw_2 {n a b : Nat} (hn : n ≤ 9) (ha : a < n) (hb : b < n) : num a b 9 = rwT n (tlF n (nI a) (nI b) (-1)) := by
  have e := tl_2 hn ha hb
  obtain ⟨h1, h3, -, hm⟩ := tl_ok hn e
  rw [e]
  refine row_num h1 h3 hn hm ?_
  show (mn (mn a b) 9, mx (mn a b) (mn (mx a b) 9), mx (mx a b) 9) = (mn a b, mx a b, 9)
  simp only [Prod.mk.injEq]
  refine ⟨?_, ?_, ?_⟩ <;> (simp only [mn, mx]; (repeat' split) <;> omega)
theorem rw_3 {n a b c : Nat} (hn : n ≤ 9) (ha : a < n) (hb : b < n) (hc : c < n) : num a b c = rwT n (tlF n (nI a) (nI b) (nI c)) := by
  have e := tl_3 hn ha hb hc
  obtain ⟨h1, h3, -, hm⟩ := tl_ok hn e
  rw [e]
  exact row_num h1 h3 hn hm rfl
theorem eX11_rowOf {G : Gx} {d : Nat} {σ : Hp} (hd : 2 ≤ d) {S : Ab} {mk : Nat → Option Nat} {T : Nat} (hV : AbV S) (hS : CSt S σ mk T) {a b c : Int32} : Cl G mX11_rowOf d [.ref 0, .int a, .int b, .int c] σ 0 0 (pI fun r s => r = oI (rwT S.n (tlF S.n a b c)) ∧ s = σ) := by
  obtain ⟨d0, hdd⟩ : ∃ e, d = e + 1 := ⟨d - 1, by omega⟩
  refine cl_of (by decide) (by simp [Value.category]) (Nat.le_of_ble_eq_true rfl) ?_
  show Wp G mX11_rowOf d 0 [.ref 0, .int a, .int b, .int c] [] σ 0 0 _
  have hH := hS.1.2.2.2
  have hn := hV.1.1.1
  obtain ⟨hN, hNA⟩ := hS.2.1.2.1
  have hGo := hS.2.2.1.1.1
  obtain ⟨hTz, hLz, tz, lz, hFS, htz⟩ := hS.2.2.1.1.2.2.1
  have hRo := hFS.ob
  refine wp_aload_n (atd dX11_rowOf 0 rfl) rfl rfl ?_
  refine wp_get fX11_19 (atd dX11_rowOf 1 rfl) hH rfl ?_
  refine wp_iload_n (atd dX11_rowOf 2 rfl) rfl ?_
  refine wp_cVi hdd [_] (atd dX11_rowOf 3 rfl) iX3_has lX11_144 rfl rfl (Nat.le_of_ble_eq_true rfl) hN rfl (eX3_has (by omega) hN hn) (fun r_5 s_5 h_5 => ?_)
  obtain ⟨rfl, e_5⟩ := h_5
  obtain rfl := e_5.symm
  refine wp_ifB_ne (tgt := 13) (atd dX11_rowOf 4 rfl) (by decide) (fun c_8 => ?_) (fun c_8 => ?_)
  ·
    obtain ⟨x, hx, rfl⟩ := isP_of hn c_8
    refine wp_iload_n (atd dX11_rowOf 7 rfl) rfl ?_
    refine wp_iconst (v := -1) (atd dX11_rowOf 8 rfl) (by decide) ?_
    refine wp_icmp_ne (tgt := 43) (atd dX11_rowOf 9 rfl) (by decide) (fun c_15 => ?_) (fun c_15 => ?_)
    ·
      refine wp_aload_n (atd dX11_rowOf 23 rfl) rfl rfl ?_
      refine wp_get fX11_19 (atd dX11_rowOf 24 rfl) hH rfl ?_
      refine wp_iload_n (atd dX11_rowOf 25 rfl) rfl ?_
      refine wp_cVi hdd [_] (atd dX11_rowOf 26 rfl) iX3_has lX11_144 rfl rfl (Nat.le_of_ble_eq_true rfl) hN rfl (eX3_has (by omega) hN hn) (fun r_48 s_48 h_48 => ?_)
      obtain ⟨rfl, e_48⟩ := h_48
      obtain rfl := e_48.symm
      refine wp_ifB_ne (tgt := 56) (atd dX11_rowOf 27 rfl) (by decide) (fun c_51 => ?_) (fun c_51 => ?_)
      ·
        obtain ⟨y, hy, rfl⟩ := isP_of hn c_51
        refine wp_iload_n (atd dX11_rowOf 30 rfl) rfl ?_
        refine wp_iconst (v := -1) (atd dX11_rowOf 31 rfl) (by decide) ?_
        refine wp_icmp_ne (tgt := 76) (atd dX11_rowOf 32 rfl) (by decide) (fun c_58 => ?_) (fun c_58 => ?_)
        ·
          refine wp_aload_n (atd dX11_rowOf 41 rfl) rfl rfl ?_
          refine wp_get fX11_19 (atd dX11_rowOf 42 rfl) hH rfl ?_
          refine wp_iload_n (atd dX11_rowOf 43 rfl) rfl ?_
          refine wp_cVi hdd [_] (atd dX11_rowOf 44 rfl) iX3_has lX11_144 rfl rfl (Nat.le_of_ble_eq_true rfl) hN rfl (eX3_has (by omega) hN hn) (fun r_81 s_81 h_81 => ?_)
          obtain ⟨rfl, e_81⟩ := h_81
          obtain rfl := e_81.symm
          refine wp_ifB_eq (tgt := 103) (atd dX11_rowOf 45 rfl) (by decide) (fun c_84 => ?_) (fun c_84 => ?_)
          ·
            refine wp_iconst (v := -1) (atd dX11_rowOf 54 rfl) (by decide) ?_
            refine wp_ireti (atd dX11_rowOf 55 rfl) rfl ?_
            exact ⟨by rw [tl_3n hn hx hy c_58 c_84]; rfl, rfl⟩
          ·
            obtain ⟨z, hz, rfl⟩ := isP_of hn c_84
            refine wp_aload_n (atd dX11_rowOf 46 rfl) rfl rfl ?_
            refine wp_get fX11_38 (atd dX11_rowOf 47 rfl) hH rfl ?_
            refine wp_get fX11_58 (atd dX11_rowOf 48 rfl) hGo rfl ?_
            refine wp_iload_n (atd dX11_rowOf 49 rfl) rfl ?_
            refine wp_iload_n (atd dX11_rowOf 50 rfl) rfl ?_
            refine wp_iload_n (atd dX11_rowOf 51 rfl) rfl ?_
            refine wp_cVi hdd [_, _, _] (atd dX11_rowOf 52 rfl) iX5_numberOf lX11_356 rfl rfl (Nat.le_of_ble_eq_true rfl) hRo rfl (eX5_numberOf (by omega) hRo hTz (by omega) (by omega) (by omega)) (fun r_97 s_97 h_97 => ?_)
            obtain ⟨rfl, e_97⟩ := h_97
            obtain rfl := e_97.symm
            refine wp_goto (tgt := 104) (atd dX11_rowOf 53 rfl) (by decide) ?_
            refine wp_ireti (atd dX11_rowOf 55 rfl) rfl ?_
            exact ⟨by rw [rw_3 hn hx hy hz], rfl⟩
        ·
          have ec : c = -1 := Classical.not_not.mp c_58
          refine wp_aload_n (atd dX11_rowOf 33 rfl) rfl rfl ?_
          refine wp_get fX11_38 (atd dX11_rowOf 34 rfl) hH rfl ?_
          refine wp_get fX11_58 (atd dX11_rowOf 35 rfl) hGo rfl ?_
          refine wp_iload_n (atd dX11_rowOf 36 rfl) rfl ?_
          refine wp_iload_n (atd dX11_rowOf 37 rfl) rfl ?_
          refine wp_bipush (v := nI 9) (atd dX11_rowOf 38 rfl) (by decide) ?_
          refine wp_cVi hdd [_, _, _] (atd dX11_rowOf 39 rfl) iX5_numberOf lX11_356 rfl rfl (Nat.le_of_ble_eq_true rfl) hRo rfl (eX5_numberOf (by omega) hRo hTz (by omega) (by omega) (by omega)) (fun r_72 s_72 h_72 => ?_)
          obtain ⟨rfl, e_72⟩ := h_72
          obtain rfl := e_72.symm
          refine wp_ireti (atd dX11_rowOf 40 rfl) rfl ?_
          exact ⟨by rw [ec, rw_2 hn hx hy], rfl⟩
      ·
        refine wp_iconst (v := -1) (atd dX11_rowOf 28 rfl) (by decide) ?_
        refine wp_ireti (atd dX11_rowOf 29 rfl) rfl ?_
        exact ⟨by rw [tl_2n hn hx c_15 c_51]; rfl, rfl⟩
    ·
      have eb : b = -1 := Classical.not_not.mp c_15
      refine wp_iload_n (atd dX11_rowOf 10 rfl) rfl ?_
      refine wp_iconst (v := -1) (atd dX11_rowOf 11 rfl) (by decide) ?_
      refine wp_icmp_ne (tgt := 41) (atd dX11_rowOf 12 rfl) (by decide) (fun c_20 => ?_) (fun c_20 => ?_)
      ·
        refine wp_iconst (v := -1) (atd dX11_rowOf 21 rfl) (by decide) ?_
        refine wp_ireti (atd dX11_rowOf 22 rfl) rfl ?_
        exact ⟨by rw [eb, tl_1n hn hx c_20]; rfl, rfl⟩
      ·
        have ec : c = -1 := Classical.not_not.mp c_20
        refine wp_aload_n (atd dX11_rowOf 13 rfl) rfl rfl ?_
        refine wp_get fX11_38 (atd dX11_rowOf 14 rfl) hH rfl ?_
        refine wp_get fX11_58 (atd dX11_rowOf 15 rfl) hGo rfl ?_
        refine wp_iload_n (atd dX11_rowOf 16 rfl) rfl ?_
        refine wp_bipush (v := nI 9) (atd dX11_rowOf 17 rfl) (by decide) ?_
        refine wp_bipush (v := nI 9) (atd dX11_rowOf 18 rfl) (by decide) ?_
        refine wp_cVi hdd [_, _, _] (atd dX11_rowOf 19 rfl) iX5_numberOf lX11_356 rfl rfl (Nat.le_of_ble_eq_true rfl) hRo rfl (eX5_numberOf (by omega) hRo hTz (by omega) (by omega) (by omega)) (fun r_35 s_35 h_35 => ?_)
        obtain ⟨rfl, e_35⟩ := h_35
        obtain rfl := e_35.symm
        refine wp_goto (tgt := 42) (atd dX11_rowOf 20 rfl) (by decide) ?_
        refine wp_ireti (atd dX11_rowOf 22 rfl) rfl ?_
        exact ⟨by rw [eb, ec, rw_1 hn hx], rfl⟩
  ·
    refine wp_iconst (v := -1) (atd dX11_rowOf 5 rfl) (by decide) ?_
    refine wp_ireti (atd dX11_rowOf 6 rfl) rfl ?_
    exact ⟨by rw [tl_0 c_8]; rfl, rfl⟩
