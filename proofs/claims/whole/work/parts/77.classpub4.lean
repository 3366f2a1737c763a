noncomputable def FW (nb : Nat → Nat) (n : Nat) (a : Int32) (y h : Nat) : Int32 := if 0 < n then atP a 3 (fun kd => fwF nb n kd y h) (-1) else -1
theorem FW_0 (nb : Nat → Nat) (n : Nat) (a : Int32) (h : Nat) : FW nb n a 0 h = -1 := by
  unfold FW atP
  split
  · split <;> rfl
  · rfl
theorem FW_n {nb : Nat → Nat} {n y h : Nat} {a : Int32} (h1 : 1 ≤ h) (h3 : h ≤ 3) (hG : ¬ isG a (nI h) n) : FW nb n a (y + 1) h = FW nb n a y (h + 1) := by
  have hx : ¬ (isP a 3 ∧ 0 < n) := fun z => hG ⟨z.1, ⟨by rw [nI_toInt (by omega)]; omega, by rw [nI_toInt (by omega)]; omega⟩, z.2⟩
  unfold FW atP
  by_cases e : 0 < n
  · rw [if_pos e, if_pos e, if_neg (fun z => hx ⟨z, e⟩), if_neg (fun z => hx ⟨z, e⟩)]
  · rw [if_neg e, if_neg e]
theorem FW_k {nb : Nat → Nat} {n y h kd : Nat} (hk : kd < 3) (hn : 0 < n) : FW nb n (nI kd) y h = fwF nb n kd y h := by
  unfold FW atP
  rw [if_pos hn, if_pos ((isP_nI (by omega)).mpr hk), nI_clamp (by omega)]
theorem oI_m9 {v : Option Nat} (hv : ∀ x, v = some x → x < 1000000) : oI v = -1 ↔ v = none := by
  cases v with
  | none => exact ⟨fun _ => rfl, fun _ => rfl⟩
  | some x => exact ⟨fun z => absurd z (nI_m1 (by have := hv x rfl; omega)), fun z => (by cases z)⟩
theorem lX11_fewest {G : Gx} {d : Nat} (hd : 7 ≤ d) {S : Ab} {σ0 : Hp} {T0 : Nat} (hV : AbV S) (hT0 : T0 + 735770 < 2 ^ 31) {a : Int32} : ∀ (y : Nat) (h0 : Nat) (σ : Hp) (mk : Nat → Option Nat) (T : Nat) (v3 : Value), h0 + y = 4 → 1 ≤ h0 → fK σ0 σ → CSt S σ mk T → T + y * 245190 ≤ T0 + 735570 → Wp G mX11_fewest d 2 [.ref 0, .int a, .int (nI h0), v3] [] σ y (y * 1485) (pI fun r s => r = FW S.nb S.n a y h0 ∧ fK σ0 s ∧ ∃ mk2, CSt S s mk2 (T0 + 735570)) := by
  obtain ⟨d0, hdd⟩ : ∃ e, d = e + 1 := ⟨d - 1, by omega⟩
  intro y
  induction y with
  | zero =>
    intro h0 σ mk T v3 hi hi1 hK hS hT
    have hH := hS.1.2.2.2
    have hn := hV.1.1.1
    have hGo := hS.2.2.1.1.1
    obtain rfl : h0 = 4 := by omega
    refine wp_iload_n (atd dX11_fewest 2 rfl) rfl ?_
    refine wp_iconst (v := nI 3) (atd dX11_fewest 3 rfl) (by decide) ?_
    refine wp_icmpN_gt (tgt := 37) (atd dX11_fewest 4 rfl) (by decide) (by omega) (by omega) (fun c_4 => ?_) (fun c_4 => ?_)
    ·
      refine wp_iconst (v := -1) (atd dX11_fewest 21 rfl) (by decide) ?_
      refine wp_ireti (atd dX11_fewest 22 rfl) rfl ?_
      exact ⟨(FW_0 _ _ _ _).symm, hK, mk, CSt_T hS (by omega)⟩
    · exfalso; omega
  | succ y ih =>
    intro h0 σ mk T v3 hi hi1 hK hS hT
    have hH := hS.1.2.2.2
    have hn := hV.1.1.1
    have hGo := hS.2.2.1.1.1
    refine wp_iload_n (atd dX11_fewest 2 rfl) rfl ?_
    refine wp_iconst (v := nI 3) (atd dX11_fewest 3 rfl) (by decide) ?_
    refine wp_icmpN_gt (tgt := 37) (atd dX11_fewest 4 rfl) (by decide) (by omega) (by omega) (fun c_4 => ?_) (fun c_4 => ?_)
    · exfalso; omega
    ·
      refine wp_aload_n (atd dX11_fewest 5 rfl) rfl rfl ?_
      refine wp_get fX11_38 (atd dX11_fewest 6 rfl) hH rfl ?_
      refine wp_iload_n (atd dX11_fewest 7 rfl) rfl ?_
      refine wp_iload_n (atd dX11_fewest 8 rfl) rfl ?_
      refine wp_cVr hdd [_, _] (atd dX11_fewest 9 rfl) iX2_solved lX11_185 rfl rfl (Nat.le_of_ble_eq_true rfl) hGo rfl (eX2_solvedC (by omega) hV hS (by omega)) (show y + 1 = 1 + y by omega) (show (y + 1) * 1485 = 1485 + y * 1485 by omega) (fun r_13 s_13 h_13 => ?_)
      obtain ⟨hK2, mk2, hS, hA⟩ := h_13
      have hK := hK.tr hK2
      have hH := hS.1.2.2.2
      have hGo := hS.2.2.1.1.1
      rcases hA with ⟨hG, rfl⟩ | ⟨kd, h, rfl, eh, hkd, hh1, hh3, hn0, rfl, op, tn, rf, hp, hGx⟩
      ·
        refine wp_astore_n (atd dX11_fewest 10 rfl) (Nat.le_of_ble_eq_true rfl) rfl ?_
        refine wp_aload_n (atd dX11_fewest 11 rfl) rfl rfl ?_
        refine wp_ifnull_n (tgt := 31) (atd dX11_fewest 12 rfl) (by decide) ?_
        refine wp_iincN (c := 1) (atd dX11_fewest 19 rfl) rfl ?_
        refine wp_goto (tgt := 2) (atd dX11_fewest 20 rfl) (by decide) ?_
        rw [FW_n hi1 (by omega) hG]
        exact ih (h0 + 1) _ mk2 _ _ (by omega) (by omega) hK hS (by omega)
      ·
        obtain rfl := nI_inj9 (by omega) (by omega) eh
        obtain ⟨hGm, hX, hRd⟩ := id hGx
        obtain ⟨wa, wo, ew, hWo, ⟨⟨w, hFin⟩, hwb, rfl, rfl, rfl⟩, hhp⟩ := hRd rfl
        have hR := rowsL_pos S.n (by omega) hn0 h0 (by omega) hh1
        have hst : stF S.nb S.n h0 kd < (rowsL h0 S.n).length := srF_lt hR
        have htm := oI_m9 (v := tmF S.nb S.n h0 kd) (gtF_lt hV.1 hh1 hh3 hFin hst)
        have hfw : fwF S.nb S.n kd (y + 1) h0 = if tmF S.nb S.n h0 kd = none then fwF S.nb S.n kd y (h0 + 1) else nI h0 := rfl
        refine wp_astore_n (atd dX11_fewest 10 rfl) (Nat.le_of_ble_eq_true rfl) rfl ?_
        refine wp_aload_n (atd dX11_fewest 11 rfl) rfl rfl ?_
        refine wp_ifnull_r (atd dX11_fewest 12 rfl) ?_
        refine wp_aload_n (atd dX11_fewest 13 rfl) rfl rfl ?_
        refine wp_get fX11_189 (atd dX11_fewest 14 rfl) hGm rfl ?_
        refine wp_iconst (v := -1) (atd dX11_fewest 15 rfl) (by decide) ?_
        refine wp_icmp_eq (tgt := 31) (atd dX11_fewest 16 rfl) (by decide) (fun c_26 => ?_) (fun c_26 => ?_)
        ·
          refine wp_iincN (c := 1) (atd dX11_fewest 19 rfl) rfl ?_
          refine wp_goto (tgt := 2) (atd dX11_fewest 20 rfl) (by decide) ?_
          rw [FW_k hkd hn0, hfw, if_pos (htm.mp c_26), ← FW_k hkd hn0]
          exact ih (h0 + 1) _ mk2 _ _ (by omega) (by omega) hK hS (by omega)
        ·
          refine wp_iload_n (atd dX11_fewest 17 rfl) rfl ?_
          refine wp_ireti (atd dX11_fewest 18 rfl) rfl ?_
          exact ⟨by rw [FW_k hkd hn0, hfw, if_neg (fun z => c_26 (htm.mpr z))], hK, mk2, CSt_T hS (by omega)⟩
theorem vX11_fewest {G : Gx} {d : Nat} {σ : Hp} (hd : 7 ≤ d) {S : Ab} {mk : Nat → Option Nat} {T : Nat} (hV : AbV S) (hS : CSt S σ mk T) (hT0 : T + 735770 < 2 ^ 31) {a : Int32} : Cl G mX11_fewest d [.ref 0, .int a] σ 3 4455 (pI fun r s => r = FW S.nb S.n a 3 1 ∧ fK σ s ∧ ∃ mk2, CSt S s mk2 (T + 735570)) := by
  obtain ⟨d0, hdd⟩ : ∃ e, d = e + 1 := ⟨d - 1, by omega⟩
  refine cl_of (by decide) (by simp [Value.category]) (Nat.le_of_ble_eq_true rfl) ?_
  show Wp G mX11_fewest d 0 [.ref 0, .int a, .double 0, .double 0] [] σ 3 4455 _
  refine wp_iconst (v := nI 1) (atd dX11_fewest 0 rfl) (by decide) ?_
  refine wp_istore_n (atd dX11_fewest 1 rfl) (Nat.le_of_ble_eq_true rfl) ?_
  exact lX11_fewest hd hV hT0 3 1 σ mk T _ (by omega) (by omega) fK.rf hS (by omega)
