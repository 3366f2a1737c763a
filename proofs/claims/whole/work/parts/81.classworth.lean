theorem eX11_stageWorth {G : Gx} {d : Nat} {σ : Hp} (hd : 7 ≤ d) {S : Ab} {mk : Nat → Option Nat} {T : Nat} {e : Scn} (hV : AbV S) (hS : CSt S σ mk T) (he : S.sc = some e) (hT0 : T + 245390 < 2 ^ 31) : Cl G mX11_stageWorth d [.ref 0] σ 1 1485 (pI fun r s => r = oI (wnF S.nb S.n e.kd e.h e.ρ e.p e.t) ∧ fK σ s ∧ ∃ mk2, mk2 0 = mk 0 ∧ CSt S s mk2 (T + 245190)) := by
  obtain ⟨d0, hdd⟩ : ∃ e, d = e + 1 := ⟨d - 1, by omega⟩
  refine cl_of (by decide) (by simp [Value.category]) (Nat.le_of_ble_eq_true rfl) ?_
  show Wp G mX11_stageWorth d 0 [.ref 0, .double 0] [] σ 1 1485 _
  have hH := hS.1.2.2.2
  have hn := hV.1.1.1
  have hGo := hS.2.2.1.1.1
  obtain ⟨hTz, hLz, tz, lz, hFS, htz⟩ := hS.2.2.1.1.2.2.1
  have hRo := hFS.ob
  have hSt := st_on hS he
  obtain ⟨⟨hkd, hh1, hh3, hm, hp, ht⟩, hi, hx9, hho, hsd⟩ := xS_ok hV he
  refine wp_aload_n (atd dX11_stageWorth 0 rfl) rfl rfl ?_
  refine wp_get fX11_38 (atd dX11_stageWorth 1 rfl) hH rfl ?_
  refine wp_aload_n (atd dX11_stageWorth 2 rfl) rfl rfl ?_
  refine wp_get fX11_72 (atd dX11_stageWorth 3 rfl) hH rfl ?_
  refine wp_get fX11_263 (atd dX11_stageWorth 4 rfl) hSt rfl ?_
  refine wp_aload_n (atd dX11_stageWorth 5 rfl) rfl rfl ?_
  refine wp_get fX11_72 (atd dX11_stageWorth 6 rfl) hH rfl ?_
  refine wp_get fX11_266 (atd dX11_stageWorth 7 rfl) hSt rfl ?_
  refine wp_cSi hdd [_] (atd dX11_stageWorth 8 rfl) iX5_huntersOf lX11_206 rfl rfl (Nat.le_of_ble_eq_true rfl) (eX5_huntersOf (by omega) hx9) (fun r_18 s_18 h_18 => ?_)
  obtain ⟨rfl, e_18⟩ := h_18
  obtain rfl := e_18.symm
  rw [hho]
  refine wp_cVr hdd [_, _] (atd dX11_stageWorth 9 rfl) iX2_solved lX11_185 rfl rfl (Nat.le_of_ble_eq_true rfl) hGo rfl (eX2_solvedC (by omega) hV hS hT0) (show 1 = 1 + 0 from rfl) (show 1485 = 1485 + 0 from rfl) (fun r_21 s_21 h_21 => ?_)
  obtain ⟨hK, mk2, hm0, hS, hA⟩ := h_21
  obtain ⟨kd, h, e1, e2, q1, q2, q3, q4, rfl, hGx⟩ : ∃ kd h, nI e.kd = nI kd ∧ nI e.h = nI h ∧ kd < 3 ∧ 1 ≤ h ∧ h ≤ 3 ∧ 0 < S.n ∧ r_21 = .ref (12 + 13 + gix kd h) ∧ ∃ op tn rf hp, GMx s_21 12 S.nb S.n (wkG mk2) kd h true op tn rf hp := by
    rcases hA with ⟨hG, -⟩ | z
    · exact absurd ⟨(isP_nI (by omega)).mpr hkd, ⟨by rw [nI_toInt (by omega)]; omega, by rw [nI_toInt (by omega)]; omega⟩, by omega⟩ hG
    · exact z
  obtain rfl := nI_inj9 (by omega) (by omega) e1
  obtain rfl := nI_inj9 (by omega) (by omega) e2
  have hH := hS.1.2.2.2
  have hGo := hS.2.2.1.1.1
  have hSt := st_on hS he
  obtain ⟨op, tn, rf, hpp, hGx⟩ := hGx
  obtain ⟨hGm, hX, hRd⟩ := id hGx
  obtain ⟨wa, wo, ew, hWo, ⟨⟨w, hFin⟩, hwb, rfl, rfl, rfl⟩, hhp⟩ := hRd rfl
  have hfl := frN_le e.h hh1 hh3
  rw [ew] at hGm
  have hGm : OB s_21 (12 + 13 + gix e.kd e.h) 1 (gaF e.kd (frN e.h) (frN (e.h + 1)) _ (.ref wa) _ _ _ hpp) := hGm
  obtain ⟨hm1, hm2, hm3⟩ := xi_mem hh1 hh3 hn hi
  obtain ⟨hN, hNA⟩ := hS.2.1.2.1
  obtain ⟨hTz, hLz, tz, lz, hFS, htz⟩ := hS.2.2.1.1.2.2.1
  have hRo := hFS.ob
  refine wp_astore_n (atd dX11_stageWorth 10 rfl) (Nat.le_of_ble_eq_true rfl) rfl ?_
  refine wp_aload_n (atd dX11_stageWorth 11 rfl) rfl rfl ?_
  refine wp_ifnonnull_r (tgt := 31) (atd dX11_stageWorth 12 rfl) (by decide) ?_
  refine wp_aload_n (atd dX11_stageWorth 15 rfl) rfl rfl ?_
  refine wp_get fX11_72 (atd dX11_stageWorth 16 rfl) hH rfl ?_
  refine wp_get fX11_272 (atd dX11_stageWorth 17 rfl) hSt rfl ?_
  refine wp_ifN_eq (tgt := 64) (atd dX11_stageWorth 18 rfl) (by decide) (by omega) (fun c_38 => ?_) (fun c_38 => ?_)
  ·
    refine wp_aload_n (atd dX11_stageWorth 30 rfl) rfl rfl ?_
    refine wp_aload_n (atd dX11_stageWorth 31 rfl) rfl rfl ?_
    refine wp_get fX11_72 (atd dX11_stageWorth 32 rfl) hH rfl ?_
    refine wp_get fX11_266 (atd dX11_stageWorth 33 rfl) hSt rfl ?_
    refine wp_aload_n (atd dX11_stageWorth 34 rfl) rfl rfl ?_
    refine wp_get fX11_72 (atd dX11_stageWorth 35 rfl) hH rfl ?_
    refine wp_get fX11_269 (atd dX11_stageWorth 36 rfl) hSt rfl ?_
    refine wp_cVi hdd [_, _] (atd dX11_stageWorth 37 rfl) iX1_worthAt lX11_365 rfl rfl (Nat.le_of_ble_eq_true rfl) hGm rfl (eX1_worthAt (by omega) hGm hWo (by omega) hm1 hm2 (by omega)) (fun r_79 s_79 h_79 => ?_)
    obtain ⟨rfl, e_79⟩ := h_79
    obtain rfl := e_79.symm
    refine wp_ireti (atd dX11_stageWorth 38 rfl) rfl ?_
    refine ⟨?_, hK, mk2, hm0, hS⟩
    unfold wnF
    rw [if_pos c_38, ← Fin_slv hV.1 hh1 hh3 hFin hi hp]
    rfl
  ·
    refine wp_aload_n (atd dX11_stageWorth 19 rfl) rfl rfl ?_
    refine wp_get fX11_38 (atd dX11_stageWorth 20 rfl) hH rfl ?_
    refine wp_aload_n (atd dX11_stageWorth 21 rfl) rfl rfl ?_
    refine wp_aload_n (atd dX11_stageWorth 22 rfl) rfl rfl ?_
    refine wp_get fX11_72 (atd dX11_stageWorth 23 rfl) hH rfl ?_
    refine wp_get fX11_266 (atd dX11_stageWorth 24 rfl) hSt rfl ?_
    refine wp_aload_n (atd dX11_stageWorth 25 rfl) rfl rfl ?_
    refine wp_get fX11_72 (atd dX11_stageWorth 26 rfl) hH rfl ?_
    refine wp_get fX11_269 (atd dX11_stageWorth 27 rfl) hSt rfl ?_
    refine wp_cVi hdd [_, _, _] (atd dX11_stageWorth 28 rfl) iX2_runnersWorth lX11_362 rfl rfl (Nat.le_of_ble_eq_true rfl) hGo rfl (eX2_runnersWorth (by omega) hN hNA hn (net_lt hV.1) hGo hGm hWo (by omega) hwb hRo hTz hkd hm1 hm2 (by omega)) (fun r_60 s_60 h_60 => ?_)
    obtain ⟨rfl, e_60⟩ := h_60
    obtain rfl := e_60.symm
    refine wp_ireti (atd dX11_stageWorth 29 rfl) rfl ?_
    refine ⟨?_, hK, mk2, hm0, hS⟩
    unfold wnF
    rw [if_neg (by omega)]
    have hq := rrF_rwt hV.1 hh1 hh3 hFin (p := e.p) hi
    rw [show rrF S.nb S.n e.kd (frN e.h) wo (xS S.n e) e.p = _ from hq.1, wk_rk (fun x hx => by have := hq.2 x hx; omega)]
