theorem vX11_symmetries {G : Gx} {d : Nat} {σ : Hp} (hd : 16 ≤ d) {S : Ab} {mk : Nat → Option Nat} {T : Nat} (hV : AbV S) (hS : CSt S σ mk T) : Cl G mX11_symmetries d [.ref 0] σ 0 0 (pI fun r s => r = nI (syF S.nb S.n).1 ∧ fK σ s ∧ CSt S s mk T) := by
  obtain ⟨d0, hdd⟩ : ∃ e, d = e + 1 := ⟨d - 1, by omega⟩
  refine cl_of (by decide) (by simp [Value.category]) (Nat.le_of_ble_eq_true rfl) ?_
  show Wp G mX11_symmetries d 0 [.ref 0] [] σ 0 0 _
  have hH := hS.1.2.2.2
  have hn := hV.1.1.1
  obtain ⟨hN, hNA⟩ := hS.2.1.2.1
  obtain ⟨hSy, od, nu, hOd, hNu, hod, hnu⟩ := id hS.2.2.1.2.1
  refine wp_aload_n (atd dX11_symmetries 0 rfl) rfl rfl ?_
  refine wp_get fX11_45 (atd dX11_symmetries 1 rfl) hH rfl ?_
  refine wp_aload_n (atd dX11_symmetries 2 rfl) rfl rfl ?_
  refine wp_get fX11_19 (atd dX11_symmetries 3 rfl) hH rfl ?_
  refine wp_cVi hdd [_] (atd dX11_symmetries 4 rfl) iX9_howMany lX11_228 rfl rfl (Nat.le_of_ble_eq_true rfl) hSy rfl (eX9_howMany (by omega) hN hNA hn (net_lt hV.1) hSy hOd hNu hod hnu (by omega)) (fun r_8 s_8 h_8 => ?_)
  obtain ⟨rfl, f_8, od2, nu2, hOd2, hNu2, hod2, hnu2⟩ := h_8
  have c6 : cSym s_8 := ⟨hSy.fr f_8 (by decide), od2, nu2, hOd2, hNu2, hod2, hnu2⟩
  obtain ⟨hS, hk0⟩ := CSt.upS hS f_8.A
  refine wp_ireti (atd dX11_symmetries 5 rfl) rfl ?_
  exact ⟨by rw [hm_eq hV.1.1], hk0, hS⟩
theorem vX11_alike {G : Gx} {d : Nat} {σ : Hp} (hd : 15 ≤ d) {S : Ab} {mk : Nat → Option Nat} {T : Nat} (hV : AbV S) (hS : CSt S σ mk T) {w : Int32} : Cl G mX11_alike d [.ref 0, .int w] σ 0 0 (pI fun r s => r = atP w S.n (fun p => nI (lsB ((syF S.nb S.n).2 p) 9 0)) (-1) ∧ fK σ s ∧ CSt S s mk T) := by
  obtain ⟨d0, hdd⟩ : ∃ e, d = e + 1 := ⟨d - 1, by omega⟩
  refine cl_of (by decide) (by simp [Value.category]) (Nat.le_of_ble_eq_true rfl) ?_
  show Wp G mX11_alike d 0 [.ref 0, .int w] [] σ 0 0 _
  have hH := hS.1.2.2.2
  have hn := hV.1.1.1
  obtain ⟨hN, hNA⟩ := hS.2.1.2.1
  obtain ⟨hSy, od, nu, hOd, hNu, hod, hnu⟩ := id hS.2.2.1.2.1
  refine wp_aload_n (atd dX11_alike 0 rfl) rfl rfl ?_
  refine wp_get fX11_19 (atd dX11_alike 1 rfl) hH rfl ?_
  refine wp_iload_n (atd dX11_alike 2 rfl) rfl ?_
  refine wp_cVi hdd [_] (atd dX11_alike 3 rfl) iX3_has lX11_144 rfl rfl (Nat.le_of_ble_eq_true rfl) hN rfl (eX3_has (by omega) hN hn) (fun r_5 s_5 h_5 => ?_)
  obtain ⟨rfl, e_5⟩ := h_5
  obtain rfl := e_5.symm
  refine wp_ifB_eq (tgt := 26) (atd dX11_alike 4 rfl) (by decide) (fun c_8 => ?_) (fun c_8 => ?_)
  ·
    refine wp_iconst (v := -1) (atd dX11_alike 12 rfl) (by decide) ?_
    refine wp_ireti (atd dX11_alike 13 rfl) rfl ?_
    exact ⟨by unfold atP; rw [if_neg c_8], fK.rf, hS⟩
  ·
    obtain ⟨p, hp, rfl⟩ := isP_ofB c_8
    refine wp_aload_n (atd dX11_alike 5 rfl) rfl rfl ?_
    refine wp_get fX11_45 (atd dX11_alike 6 rfl) hH rfl ?_
    refine wp_aload_n (atd dX11_alike 7 rfl) rfl rfl ?_
    refine wp_get fX11_19 (atd dX11_alike 8 rfl) hH rfl ?_
    refine wp_iload_n (atd dX11_alike 9 rfl) rfl ?_
    refine wp_cVi hdd [_, _] (atd dX11_alike 10 rfl) iX9_leastAlike lX11_232 rfl rfl (Nat.le_of_ble_eq_true rfl) hSy rfl (eX9_leastAlike (by omega) hN hNA hn (net_lt hV.1) hSy hOd hNu hod hnu (by omega) hp) (fun r_20 s_20 h_20 => ?_)
    obtain ⟨rfl, f_20, od2, nu2, hOd2, hNu2, hod2, hnu2⟩ := h_20
    have c6 : cSym s_20 := ⟨hSy.fr f_20 (by decide), od2, nu2, hOd2, hNu2, hod2, hnu2⟩
    obtain ⟨hS, hk0⟩ := CSt.upS hS f_20.A
    refine wp_goto (tgt := 27) (atd dX11_alike 11 rfl) (by decide) ?_
    refine wp_ireti (atd dX11_alike 13 rfl) rfl ?_
    exact ⟨by unfold atP; rw [if_pos c_8, nI_clamp (by omega), al_eq hV.1.1 hp], hk0, hS⟩
