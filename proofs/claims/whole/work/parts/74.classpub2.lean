theorem vX11_time {G : Gx} {d : Nat} {σ : Hp} (hd : 7 ≤ d) {S : Ab} {mk : Nat → Option Nat} {T : Nat} (hV : AbV S) (hS : CSt S σ mk T) (hT0 : T + 245390 < 2 ^ 31) {a b : Int32} : Cl G mX11_time d [.ref 0, .int a, .int b] σ 1 1485 (pI fun r s => r = gmF a b S.n (fun kd h => oI (tmF S.nb S.n h kd)) (-1) ∧ fK σ s ∧ ∃ mk2, mk2 0 = mk 0 ∧ CSt S s mk2 (T + 245190)) := by
  obtain ⟨d0, hdd⟩ : ∃ e, d = e + 1 := ⟨d - 1, by omega⟩
  refine cl_of (by decide) (by simp [Value.category]) (Nat.le_of_ble_eq_true rfl) ?_
  show Wp G mX11_time d 0 [.ref 0, .int a, .int b, .double 0] [] σ 1 1485 _
  have hH := hS.1.2.2.2
  have hn := hV.1.1.1
  have hw := net_lt hV.1
  have hGo := hS.2.2.1.1.1
  refine wp_aload_n (atd dX11_time 0 rfl) rfl rfl ?_
  refine wp_get fX11_38 (atd dX11_time 1 rfl) hH rfl ?_
  refine wp_iload_n (atd dX11_time 2 rfl) rfl ?_
  refine wp_iload_n (atd dX11_time 3 rfl) rfl ?_
  refine wp_cVr hdd [_, _] (atd dX11_time 4 rfl) iX2_solved lX11_185 rfl rfl (Nat.le_of_ble_eq_true rfl) hGo rfl (eX2_solvedC (by omega) hV hS hT0) (show 1 = 1 + 0 from rfl) (show 1485 = 1485 + 0 from rfl) (fun r_6 s_6 h_6 => ?_)
  obtain ⟨hK, mk2, hm0, hS, hA⟩ := h_6
  have hH := hS.1.2.2.2
  have hGo := hS.2.2.1.1.1
  rcases hA with ⟨hG, rfl⟩ | ⟨kd, h, rfl, rfl, hkd, hh1, hh3, hn0, rfl, op, tn, rf, hp, hGx⟩
  ·
    refine wp_astore_n (atd dX11_time 5 rfl) (Nat.le_of_ble_eq_true rfl) rfl ?_
    refine wp_aload_n (atd dX11_time 6 rfl) rfl rfl ?_
    refine wp_ifnonnull_n (atd dX11_time 7 rfl) ?_
    refine wp_iconst (v := -1) (atd dX11_time 8 rfl) (by decide) ?_
    refine wp_goto (tgt := 22) (atd dX11_time 9 rfl) (by decide) ?_
    refine wp_ireti (atd dX11_time 12 rfl) rfl ?_
    exact ⟨(gmF_f hG).symm, hK, mk2, hm0, hS⟩
  ·
    obtain ⟨hGm, hX, hRd⟩ := id hGx
    obtain ⟨wa, wo, ew, hWo, ⟨⟨w, hFin⟩, hwb, rfl, rfl, rfl⟩, hhp⟩ := hRd rfl
    have hR := rowsL_pos S.n (by omega) hn0 h (by omega) hh1
    have hst : stF S.nb S.n h kd < (rowsL h S.n).length := srF_lt hR
    refine wp_astore_n (atd dX11_time 5 rfl) (Nat.le_of_ble_eq_true rfl) rfl ?_
    refine wp_aload_n (atd dX11_time 6 rfl) rfl rfl ?_
    refine wp_ifnonnull_r (tgt := 18) (atd dX11_time 7 rfl) (by decide) ?_
    refine wp_aload_n (atd dX11_time 10 rfl) rfl rfl ?_
    refine wp_get fX11_189 (atd dX11_time 11 rfl) hGm rfl ?_
    refine wp_ireti (atd dX11_time 12 rfl) rfl ?_
    exact ⟨by rw [gmF_t hkd hh1 hh3 hn0], hK, mk2, hm0, hS⟩
theorem vX11_refusals {G : Gx} {d : Nat} {σ : Hp} (hd : 7 ≤ d) {S : Ab} {mk : Nat → Option Nat} {T : Nat} (hV : AbV S) (hS : CSt S σ mk T) (hT0 : T + 245390 < 2 ^ 31) {a b : Int32} : Cl G mX11_refusals d [.ref 0, .int a, .int b] σ 1 1485 (pI fun r s => r = gmF a b S.n (fun kd h => nI (nc (slvF S.nb S.n h kd) S.n (rowsL h S.n).length)) (-1) ∧ fK σ s ∧ ∃ mk2, mk2 0 = mk 0 ∧ CSt S s mk2 (T + 245190)) := by
  obtain ⟨d0, hdd⟩ : ∃ e, d = e + 1 := ⟨d - 1, by omega⟩
  refine cl_of (by decide) (by simp [Value.category]) (Nat.le_of_ble_eq_true rfl) ?_
  show Wp G mX11_refusals d 0 [.ref 0, .int a, .int b, .double 0] [] σ 1 1485 _
  have hH := hS.1.2.2.2
  have hn := hV.1.1.1
  have hw := net_lt hV.1
  have hGo := hS.2.2.1.1.1
  refine wp_aload_n (atd dX11_refusals 0 rfl) rfl rfl ?_
  refine wp_get fX11_38 (atd dX11_refusals 1 rfl) hH rfl ?_
  refine wp_iload_n (atd dX11_refusals 2 rfl) rfl ?_
  refine wp_iload_n (atd dX11_refusals 3 rfl) rfl ?_
  refine wp_cVr hdd [_, _] (atd dX11_refusals 4 rfl) iX2_solved lX11_185 rfl rfl (Nat.le_of_ble_eq_true rfl) hGo rfl (eX2_solvedC (by omega) hV hS hT0) (show 1 = 1 + 0 from rfl) (show 1485 = 1485 + 0 from rfl) (fun r_6 s_6 h_6 => ?_)
  obtain ⟨hK, mk2, hm0, hS, hA⟩ := h_6
  have hH := hS.1.2.2.2
  have hGo := hS.2.2.1.1.1
  rcases hA with ⟨hG, rfl⟩ | ⟨kd, h, rfl, rfl, hkd, hh1, hh3, hn0, rfl, op, tn, rf, hp, hGx⟩
  ·
    refine wp_astore_n (atd dX11_refusals 5 rfl) (Nat.le_of_ble_eq_true rfl) rfl ?_
    refine wp_aload_n (atd dX11_refusals 6 rfl) rfl rfl ?_
    refine wp_ifnonnull_n (atd dX11_refusals 7 rfl) ?_
    refine wp_iconst (v := -1) (atd dX11_refusals 8 rfl) (by decide) ?_
    refine wp_goto (tgt := 22) (atd dX11_refusals 9 rfl) (by decide) ?_
    refine wp_ireti (atd dX11_refusals 12 rfl) rfl ?_
    exact ⟨(gmF_f hG).symm, hK, mk2, hm0, hS⟩
  ·
    obtain ⟨hGm, hX, hRd⟩ := id hGx
    obtain ⟨wa, wo, ew, hWo, ⟨⟨w, hFin⟩, hwb, rfl, rfl, rfl⟩, hhp⟩ := hRd rfl
    have hR := rowsL_pos S.n (by omega) hn0 h (by omega) hh1
    have hst : stF S.nb S.n h kd < (rowsL h S.n).length := srF_lt hR
    refine wp_astore_n (atd dX11_refusals 5 rfl) (Nat.le_of_ble_eq_true rfl) rfl ?_
    refine wp_aload_n (atd dX11_refusals 6 rfl) rfl rfl ?_
    refine wp_ifnonnull_r (tgt := 18) (atd dX11_refusals 7 rfl) (by decide) ?_
    refine wp_aload_n (atd dX11_refusals 10 rfl) rfl rfl ?_
    refine wp_get fX11_212 (atd dX11_refusals 11 rfl) hGm rfl ?_
    refine wp_ireti (atd dX11_refusals 12 rfl) rfl ?_
    exact ⟨by rw [gmF_t hkd hh1 hh3 hn0], hK, mk2, hm0, hS⟩
/-- a hunter of a row, on both sides -/
theorem hAt_eq {h n i : Nat} (h1 : 1 ≤ h) (h3 : h ≤ 3) (hn : n ≤ 9) (hi : i < (rowsL h n).length) (w : Int32) : atP w 3 (fun j => if rk (rlA (xi h n i)) j = 9 then -1 else nI (rk (rlA (xi h n i)) j)) (-1) = atP w h (fun j => nI (rk (rowAt (rowsL h n) i) j)) (-1) := by
  rw [xi_row h1 h3 hn hi]
  obtain ⟨r1, r2, r3, -⟩ := rowsL_ok n (by omega) h (by omega) _ (rowAt_mem hi)
  generalize rowAt (rowsL h n) i = r at r1 r2 r3
  unfold atP
  by_cases e : isP w 3
  · obtain ⟨j, hj, rfl⟩ := isP_ofB e
    rw [if_pos e, nI_clamp (by omega)]
    rcases (show j = 0 ∨ j = 1 ∨ j = 2 by omega) with rfl | rfl | rfl
    · rw [if_pos ((isP_nI (by omega)).mpr (by omega))]
      show (if r.1 = 9 then (-1 : Int32) else nI r.1) = nI r.1
      rw [if_neg (by omega)]
    · show (if (if 1 < h then r.2.1 else 9) = 9 then (-1 : Int32) else nI (if 1 < h then r.2.1 else 9)) = _
      by_cases q : 1 < h
      · rw [if_pos ((isP_nI (by omega)).mpr (by omega)), if_pos q, if_neg (by omega)]; rfl
      · rw [if_neg (fun z => q ((isP_nI (by omega)).mp z)), if_neg q, if_pos rfl]
    · show (if (if 2 < h then r.2.2 else 9) = 9 then (-1 : Int32) else nI (if 2 < h then r.2.2 else 9)) = _
      by_cases q : 2 < h
      · rw [if_pos ((isP_nI (by omega)).mpr (by omega)), if_pos q, if_neg (by omega)]; rfl
      · rw [if_neg (fun z => q ((isP_nI (by omega)).mp z)), if_neg q, if_pos rfl]
  · rw [if_neg e, if_neg (fun z => e ⟨z.1, by have := z.2; omega⟩)]
theorem vX11_start {G : Gx} {d : Nat} {σ : Hp} (hd : 7 ≤ d) {S : Ab} {mk : Nat → Option Nat} {T : Nat} (hV : AbV S) (hS : CSt S σ mk T) (hT0 : T + 245390 < 2 ^ 31) {a b c : Int32} : Cl G mX11_start d [.ref 0, .int a, .int b, .int c] σ 1 1485 (pI fun r s => r = gmF a b S.n (fun kd h => atP c h (fun j => nI (rk (rowAt (rowsL h S.n) (stF S.nb S.n h kd)) j)) (-1)) (-1) ∧ fK σ s ∧ ∃ mk2, mk2 0 = mk 0 ∧ CSt S s mk2 (T + 245190)) := by
  obtain ⟨d0, hdd⟩ : ∃ e, d = e + 1 := ⟨d - 1, by omega⟩
  refine cl_of (by decide) (by simp [Value.category]) (Nat.le_of_ble_eq_true rfl) ?_
  show Wp G mX11_start d 0 [.ref 0, .int a, .int b, .int c, .double 0] [] σ 1 1485 _
  have hH := hS.1.2.2.2
  have hn := hV.1.1.1
  have hw := net_lt hV.1
  have hGo := hS.2.2.1.1.1
  refine wp_aload_n (atd dX11_start 0 rfl) rfl rfl ?_
  refine wp_get fX11_38 (atd dX11_start 1 rfl) hH rfl ?_
  refine wp_iload_n (atd dX11_start 2 rfl) rfl ?_
  refine wp_iload_n (atd dX11_start 3 rfl) rfl ?_
  refine wp_cVr hdd [_, _] (atd dX11_start 4 rfl) iX2_solved lX11_185 rfl rfl (Nat.le_of_ble_eq_true rfl) hGo rfl (eX2_solvedC (by omega) hV hS hT0) (show 1 = 1 + 0 from rfl) (show 1485 = 1485 + 0 from rfl) (fun r_6 s_6 h_6 => ?_)
  obtain ⟨hK, mk2, hm0, hS, hA⟩ := h_6
  have hH := hS.1.2.2.2
  have hGo := hS.2.2.1.1.1
  rcases hA with ⟨hG, rfl⟩ | ⟨kd, h, rfl, rfl, hkd, hh1, hh3, hn0, rfl, op, tn, rf, hp, hGx⟩
  ·
    refine wp_astore (atd dX11_start 5 rfl) (Nat.le_of_ble_eq_true rfl) rfl ?_
    refine wp_aload (atd dX11_start 6 rfl) rfl rfl ?_
    refine wp_ifnonnull_n (atd dX11_start 7 rfl) ?_
    refine wp_iconst (v := -1) (atd dX11_start 8 rfl) (by decide) ?_
    refine wp_goto (tgt := 36) (atd dX11_start 9 rfl) (by decide) ?_
    refine wp_ireti (atd dX11_start 17 rfl) rfl ?_
    exact ⟨(gmF_f hG).symm, hK, mk2, hm0, hS⟩
  ·
    obtain ⟨hGm, hX, hRd⟩ := id hGx
    obtain ⟨wa, wo, ew, hWo, ⟨⟨w, hFin⟩, hwb, rfl, rfl, rfl⟩, hhp⟩ := hRd rfl
    have hR := rowsL_pos S.n (by omega) hn0 h (by omega) hh1
    have hst : stF S.nb S.n h kd < (rowsL h S.n).length := srF_lt hR
    refine wp_astore (atd dX11_start 5 rfl) (Nat.le_of_ble_eq_true rfl) rfl ?_
    refine wp_aload (atd dX11_start 6 rfl) rfl rfl ?_
    refine wp_ifnonnull_r (tgt := 20) (atd dX11_start 7 rfl) (by decide) ?_
    refine wp_aload_n (atd dX11_start 10 rfl) rfl rfl ?_
    refine wp_get fX11_38 (atd dX11_start 11 rfl) hH rfl ?_
    obtain ⟨tz, lz, hFS, -⟩ := hS.2.2.1.1.2.2.1.2.2
    have hRo := hFS.ob
    refine wp_get fX11_58 (atd dX11_start 12 rfl) hGo rfl ?_
    refine wp_aload (atd dX11_start 13 rfl) rfl rfl ?_
    refine wp_get fX11_194 (atd dX11_start 14 rfl) hGm rfl ?_
    refine wp_iload_n (atd dX11_start 15 rfl) rfl ?_
    refine wp_cVi hdd [_, _] (atd dX11_start 16 rfl) iX5_hunterAt lX11_197 rfl rfl (Nat.le_of_ble_eq_true rfl) hRo rfl (eX5_hunterAt (by omega) hRo hS.2.2.1.1.2.2.1.1 (xi_lt hh1 hh3 hn hst)) (fun r_33 s_33 h_33 => ?_)
    obtain ⟨rfl, e_33⟩ := h_33
    obtain rfl := e_33.symm
    refine wp_ireti (atd dX11_start 17 rfl) rfl ?_
    exact ⟨by rw [gmF_t hkd hh1 hh3 hn0]; exact hAt_eq hh1 hh3 hn hst c, hK, mk2, hm0, hS⟩
theorem GS_rows {σ s : Hp} {g kn n T T2 : Nat} {nb : Nat → Nat} {wk : Nat → Option Nat} (h : GS σ g kn nb n wk T) (f : fr [g + 1, g + 7, g + 8] σ s) (hwk : ∀ i a, wk i = some a → a < g ∨ g + 21 < a) (hr : RKg s g nb T2) : GS s g kn nb n wk T2 := by
  obtain ⟨a1, a2, -, ⟨w, hl, nw, b1, b2, b3, b4⟩, a5⟩ := h
  have hk : ∀ j, j ≠ g + 1 → j ≠ g + 7 → j ≠ g + 8 → s.2 j = σ.2 j := fun j h1 h2 h3 => f.2 j (by simp only [List.mem_cons, List.not_mem_nil, or_false]; omega)
  refine ⟨a1.kp (hk _ (by omega) (by omega) (by omega)), a2.kp (hk _ (by omega) (by omega) (by omega)), hr, ⟨w, hl, nw, b1.kp (hk _ (by omega) (by omega) (by omega)), b2.kp (hk _ (by omega) (by omega) (by omega)), b3.kp (hk _ (by omega) (by omega) (by omega)), b4⟩, fun kd h hk3 h1 h3 => ?_⟩
  refine (a5 kd h hk3 h1 h3).kp (hk _ (by omega) (by omega) (by omega)) (fun a q => ?_)
  have := hwk _ a q
  exact hk a (by omega) (by omega) (by omega)
theorem CSt_rows {S : Ab} {σ s : Hp} {mk : Nat → Option Nat} {T T2 : Nat} (h : CSt S σ mk T) (f : fr [12 + 1, 12 + 7, 12 + 8] σ s) (hT : T ≤ T2) (hr : RKg s 12 S.nb T2) : CSt S s mk T2 ∧ fK σ s := by
  have hMK := h.1.2.1
  refine h.upG f.A (fun j hj => ?_) (fun _ _ => rfl) (by rw [f.1]; exact hMK) (by rw [f.1]; exact h.1.2.2.1) hT (GS_rows h.2.2.1.1 f (fun i a e => ?_) hr)
  · simp only [List.mem_cons, List.not_mem_nil, or_false] at hj
    exact Or.inl (by omega)
  · have := ((wkG_ok hMK).1 i a e).1
    omega
theorem CSt_T {S : Ab} {σ : Hp} {mk : Nat → Option Nat} {T T2 : Nat} (h : CSt S σ mk T) (hT : T ≤ T2) : CSt S σ mk T2 := by
  obtain ⟨a, b, ⟨c1, c2⟩, d1, d2, d3⟩ := h
  exact ⟨a, b, ⟨GS.T c1 hT, c2⟩, d1, d2, cTri_T d3 hT⟩
theorem vX11_trial {G : Gx} {d : Nat} {σ : Hp} (hd : 7 ≤ d) {S : Ab} {mk : Nat → Option Nat} {T : Nat} (hV : AbV S) (hS : CSt S σ mk T) (hT0 : T + 245390 < 2 ^ 31) {a b c : Int32} : Cl G mX11_trial d [.ref 0, .int a, .int b, .int c] σ 1 1485 (pI fun r s => r = gmF a b S.n (fun kd h => trF S.nb S.n kd h c) (-1) ∧ fK σ s ∧ ∃ mk2, mk2 0 = mk 0 ∧ CSt S s mk2 (T + 245290)) := by
  obtain ⟨d0, hdd⟩ : ∃ e, d = e + 1 := ⟨d - 1, by omega⟩
  refine cl_of (by decide) (by simp [Value.category]) (Nat.le_of_ble_eq_true rfl) ?_
  show Wp G mX11_trial d 0 [.ref 0, .int a, .int b, .int c, .double 0] [] σ 1 1485 _
  have hH := hS.1.2.2.2
  have hn := hV.1.1.1
  have hw := net_lt hV.1
  have hGo := hS.2.2.1.1.1
  refine wp_aload_n (atd dX11_trial 0 rfl) rfl rfl ?_
  refine wp_get fX11_38 (atd dX11_trial 1 rfl) hH rfl ?_
  refine wp_iload_n (atd dX11_trial 2 rfl) rfl ?_
  refine wp_iload_n (atd dX11_trial 3 rfl) rfl ?_
  refine wp_cVr hdd [_, _] (atd dX11_trial 4 rfl) iX2_solved lX11_185 rfl rfl (Nat.le_of_ble_eq_true rfl) hGo rfl (eX2_solvedC (by omega) hV hS hT0) (show 1 = 1 + 0 from rfl) (show 1485 = 1485 + 0 from rfl) (fun r_6 s_6 h_6 => ?_)
  obtain ⟨hK, mk2, hm0, hS, hA⟩ := h_6
  have hH := hS.1.2.2.2
  have hGo := hS.2.2.1.1.1
  rcases hA with ⟨hG, rfl⟩ | ⟨kd, h, rfl, rfl, hkd, hh1, hh3, hn0, rfl, op, tn, rf, hp, hGx⟩
  ·
    refine wp_astore (atd dX11_trial 5 rfl) (Nat.le_of_ble_eq_true rfl) rfl ?_
    refine wp_aload (atd dX11_trial 6 rfl) rfl rfl ?_
    refine wp_ifnonnull_n (atd dX11_trial 7 rfl) ?_
    refine wp_iconst (v := -1) (atd dX11_trial 8 rfl) (by decide) ?_
    refine wp_goto (tgt := 30) (atd dX11_trial 9 rfl) (by decide) ?_
    refine wp_ireti (atd dX11_trial 15 rfl) rfl ?_
    exact ⟨(gmF_f hG).symm, hK, mk2, hm0, CSt_T hS (by omega)⟩
  ·
    obtain ⟨hGm, hX, hRd⟩ := id hGx
    obtain ⟨wa, wo, ew, hWo, ⟨⟨w, hFin⟩, hwb, rfl, rfl, rfl⟩, hhp⟩ := hRd rfl
    have hR := rowsL_pos S.n (by omega) hn0 h (by omega) hh1
    have hst : stF S.nb S.n h kd < (rowsL h S.n).length := srF_lt hR
    refine wp_astore (atd dX11_trial 5 rfl) (Nat.le_of_ble_eq_true rfl) rfl ?_
    refine wp_aload (atd dX11_trial 6 rfl) rfl rfl ?_
    refine wp_ifnonnull_r (tgt := 20) (atd dX11_trial 7 rfl) (by decide) ?_
    obtain ⟨hTz, hLz, tz, lz, hFS, htz⟩ := hS.2.2.1.1.2.2.1
    obtain ⟨hN, hNA⟩ := hS.2.1.2.1
    obtain ⟨hm1, hm2, hm3⟩ := xi_mem hh1 hh3 hn hst
    have hw1 := (wkG_ok hS.1.2.1).1 _ _ ew
    have hix := gix_lt hkd hh1 hh3
    have hwa2 : (wa < 12 ∨ 12 + 12 < wa) ∧ wa ≠ 12 + 13 + gix kd h ∧ wa ≠ 5 ∧ wa ≠ 5 + 1 := ⟨by omega, by omega, by omega, by omega⟩
    rw [ew] at hGm
    have hGm : OB s_6 (12 + 13 + gix kd h) 1 (gaF kd (frN h) (frN (h + 1)) _ (.ref wa) (nI (xi h S.n (stF S.nb S.n h kd))) _ _ hp) := hGm
    refine wp_aload_n (atd dX11_trial 10 rfl) rfl rfl ?_
    refine wp_get fX11_38 (atd dX11_trial 11 rfl) hH rfl ?_
    refine wp_aload (atd dX11_trial 12 rfl) rfl rfl ?_
    refine wp_iload_n (atd dX11_trial 13 rfl) rfl ?_
    refine wp_cVi hdd [_, _] (atd dX11_trial 14 rfl) iX2_tryOut lX11_219 rfl rfl (Nat.le_of_ble_eq_true rfl) hGo rfl (eX2_tryOut (by omega) hV.1 hw hkd hh1 hh3 rfl rfl hwb (by omega) (by omega) hwa2 (by omega) hn0 hm1 hm2 hm3 hGo hN hNA hGm hWo hTz hLz hFS) (fun r_27 s_27 h_27 => ?_)
    obtain ⟨rfl, f_27, hTz, hLz, T9, l9, hFS, hT9⟩ := h_27
    obtain ⟨hS, hK2⟩ := CSt_rows (T2 := T + 245290) hS f_27 (by omega) ⟨hTz, hLz, T9, l9, hFS, by omega⟩
    refine wp_ireti (atd dX11_trial 15 rfl) rfl ?_
    exact ⟨by rw [gmF_t hkd hh1 hh3 hn0, toF_tr hV.1 hh1 hh3 hn0 hFin], hK.tr hK2, mk2, hm0, hS⟩
