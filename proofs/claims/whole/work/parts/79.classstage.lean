/-! the scene on the stage -/
def xS (n : Nat) (e : Scn) : Nat := xi e.h n (rwi (rowsL e.h n) e.ρ)
theorem st_on {S : Ab} {σ : Hp} {mk : Nat → Option Nat} {T : Nat} {e : Scn} (hS : CSt S σ mk T) (he : S.sc = some e) : OB σ 43 6 [.int (nI 1), .int (nI e.kd), .int (nI (xS S.n e)), .int (nI e.p), .int (nI e.t), .int e.b] := by
  obtain ⟨c, h1, -, h3⟩ := hS.2.2.2.1
  rw [he] at h3
  obtain ⟨c0, c1, c2, c3, c4, c5⟩ := h3
  unfold scF at h1
  rw [c0, c1, c2, c3, c4, c5] at h1
  exact h1
theorem xS_ok {S : Ab} {e : Scn} (hV : AbV S) (he : S.sc = some e) : (e.kd < 3 ∧ 1 ≤ e.h ∧ e.h ≤ 3 ∧ e.ρ ∈ rowsL e.h S.n ∧ e.p < S.n ∧ e.t ≤ 1) ∧ rwi (rowsL e.h S.n) e.ρ < (rowsL e.h S.n).length ∧ xS S.n e < 219 ∧ hOf (xS S.n e) = e.h ∧ sdC (xS S.n e) = std e.h e.ρ := by
  have h := hV.2.1
  rw [he] at h
  obtain ⟨h1, h2, h3, h4, h5, h6⟩ := h
  have hi := rwi_lt h4
  have hn := hV.1.1.1
  refine ⟨⟨h1, h2, h3, h4, h5, h6⟩, hi, xi_lt h2 h3 hn hi, hOf_xi h2 h3 hn hi, ?_⟩
  have := xi_std h2 h3 hn hi
  rw [rwi_at h4] at this
  exact this.symm
theorem eX11_isCaught {G : Gx} {d : Nat} {σ : Hp} (hd : 2 ≤ d) {S : Ab} {mk : Nat → Option Nat} {T : Nat} {e : Scn} (hV : AbV S) (hS : CSt S σ mk T) (he : S.sc = some e) : Cl G mX11_isCaught d [.ref 0] σ 0 0 (pI fun r s => r = bI ((std e.h e.ρ).testBit e.p = true) ∧ s = σ) := by
  obtain ⟨d0, hdd⟩ : ∃ e, d = e + 1 := ⟨d - 1, by omega⟩
  refine cl_of (by decide) (by simp [Value.category]) (Nat.le_of_ble_eq_true rfl) ?_
  show Wp G mX11_isCaught d 0 [.ref 0] [] σ 0 0 _
  have hH := hS.1.2.2.2
  have hn := hV.1.1.1
  have hGo := hS.2.2.1.1.1
  obtain ⟨hTz, hLz, tz, lz, hFS, htz⟩ := hS.2.2.1.1.2.2.1
  have hRo := hFS.ob
  have hSt := st_on hS he
  obtain ⟨⟨hkd, hh1, hh3, hm, hp, ht⟩, hi, hx9, hho, hsd⟩ := xS_ok hV he
  refine wp_aload_n (atd dX11_isCaught 0 rfl) rfl rfl ?_
  refine wp_get fX11_38 (atd dX11_isCaught 1 rfl) hH rfl ?_
  refine wp_get fX11_58 (atd dX11_isCaught 2 rfl) hGo rfl ?_
  refine wp_aload_n (atd dX11_isCaught 3 rfl) rfl rfl ?_
  refine wp_get fX11_72 (atd dX11_isCaught 4 rfl) hH rfl ?_
  refine wp_get fX11_266 (atd dX11_isCaught 5 rfl) hSt rfl ?_
  refine wp_aload_n (atd dX11_isCaught 6 rfl) rfl rfl ?_
  refine wp_get fX11_72 (atd dX11_isCaught 7 rfl) hH rfl ?_
  refine wp_get fX11_269 (atd dX11_isCaught 8 rfl) hSt rfl ?_
  refine wp_cVi hdd [_, _] (atd dX11_isCaught 9 rfl) iX5_standsAt lX11_359 rfl rfl (Nat.le_of_ble_eq_true rfl) hRo rfl (eX5_standsAt (by omega) hRo hTz hx9 (by omega)) (fun r_21 s_21 h_21 => ?_)
  obtain ⟨rfl, e_21⟩ := h_21
  obtain rfl := e_21.symm
  refine wp_iretz (atd dX11_isCaught 10 rfl) rfl bI_and ?_
  exact ⟨by rw [hsd], rfl⟩
theorem eX11_stageGame {G : Gx} {d : Nat} {σ : Hp} (hd : 7 ≤ d) {S : Ab} {mk : Nat → Option Nat} {T : Nat} {e : Scn} (hV : AbV S) (hS : CSt S σ mk T) (he : S.sc = some e) (hT0 : T + 245390 < 2 ^ 31) : Cl G mX11_stageGame d [.ref 0] σ 1 1485 (pR fun r s => r = .ref (12 + 13 + gix e.kd e.h) ∧ fK σ s ∧ ∃ mk2, mk2 0 = mk 0 ∧ CSt S s mk2 (T + 245190) ∧ ∃ op tn rf hp, GMx s 12 S.nb S.n (wkG mk2) e.kd e.h true op tn rf hp) := by
  obtain ⟨d0, hdd⟩ : ∃ e, d = e + 1 := ⟨d - 1, by omega⟩
  refine cl_of (by decide) (by simp [Value.category]) (Nat.le_of_ble_eq_true rfl) ?_
  show Wp G mX11_stageGame d 0 [.ref 0] [] σ 1 1485 _
  have hH := hS.1.2.2.2
  have hn := hV.1.1.1
  have hGo := hS.2.2.1.1.1
  obtain ⟨hTz, hLz, tz, lz, hFS, htz⟩ := hS.2.2.1.1.2.2.1
  have hRo := hFS.ob
  have hSt := st_on hS he
  obtain ⟨⟨hkd, hh1, hh3, hm, hp, ht⟩, hi, hx9, hho, hsd⟩ := xS_ok hV he
  refine wp_aload_n (atd dX11_stageGame 0 rfl) rfl rfl ?_
  refine wp_get fX11_38 (atd dX11_stageGame 1 rfl) hH rfl ?_
  refine wp_aload_n (atd dX11_stageGame 2 rfl) rfl rfl ?_
  refine wp_get fX11_72 (atd dX11_stageGame 3 rfl) hH rfl ?_
  refine wp_get fX11_263 (atd dX11_stageGame 4 rfl) hSt rfl ?_
  refine wp_aload_n (atd dX11_stageGame 5 rfl) rfl rfl ?_
  refine wp_get fX11_72 (atd dX11_stageGame 6 rfl) hH rfl ?_
  refine wp_get fX11_266 (atd dX11_stageGame 7 rfl) hSt rfl ?_
  refine wp_cSi hdd [_] (atd dX11_stageGame 8 rfl) iX5_huntersOf lX11_206 rfl rfl (Nat.le_of_ble_eq_true rfl) (eX5_huntersOf (by omega) hx9) (fun r_18 s_18 h_18 => ?_)
  obtain ⟨rfl, e_18⟩ := h_18
  obtain rfl := e_18.symm
  rw [hho]
  refine wp_cVr hdd [_, _] (atd dX11_stageGame 9 rfl) iX2_solved lX11_185 rfl rfl (Nat.le_of_ble_eq_true rfl) hGo rfl (eX2_solvedC (by omega) hV hS hT0) (show 1 = 1 + 0 from rfl) (show 1485 = 1485 + 0 from rfl) (fun r_21 s_21 h_21 => ?_)
  obtain ⟨hK, mk2, hm0, hS, hA⟩ := h_21
  obtain ⟨kd, h, e1, e2, q1, q2, q3, q4, rfl, hGx⟩ : ∃ kd h, nI e.kd = nI kd ∧ nI e.h = nI h ∧ kd < 3 ∧ 1 ≤ h ∧ h ≤ 3 ∧ 0 < S.n ∧ r_21 = .ref (12 + 13 + gix kd h) ∧ ∃ op tn rf hp, GMx s_21 12 S.nb S.n (wkG mk2) kd h true op tn rf hp := by
    rcases hA with ⟨hG, -⟩ | z
    · exact absurd ⟨(isP_nI (by omega)).mpr hkd, ⟨by rw [nI_toInt (by omega)]; omega, by rw [nI_toInt (by omega)]; omega⟩, by omega⟩ hG
    · exact z
  obtain rfl := nI_inj9 (by omega) (by omega) e1
  obtain rfl := nI_inj9 (by omega) (by omega) e2
  refine wp_aretr (atd dX11_stageGame 10 rfl) rfl (Or.inr ⟨_, rfl⟩) ?_
  exact ⟨rfl, hK, mk2, hm0, hS, hGx⟩
theorem vX11_safe {G : Gx} {d : Nat} {σ : Hp} (hd : 8 ≤ d) {S : Ab} {mk : Nat → Option Nat} {T : Nat} (hV : AbV S) (hS : CSt S σ mk T) (hT0 : T + 245390 < 2 ^ 31) : Cl G mX11_safe d [.ref 0] σ 1 1485 (pI fun r s => r = aSafe S ∧ fK σ s ∧ ∃ mk2, mk2 0 = mk 0 ∧ CSt S s mk2 (T + 245190)) := by
  obtain ⟨d0, hdd⟩ : ∃ e, d = e + 1 := ⟨d - 1, by omega⟩
  refine cl_of (by decide) (by simp [Value.category]) (Nat.le_of_ble_eq_true rfl) ?_
  show Wp G mX11_safe d 0 [.ref 0, .double 0] [] σ 1 1485 _
  unfold aSafe
  cases he : S.sc with
  | none =>
    have hH := hS.1.2.2.2
    obtain ⟨c, hSt, -, h3⟩ := hS.2.2.2.1
    rw [he] at h3
    have h3 : c 0 = nI 0 := h3
    unfold scF at hSt
    rw [h3] at hSt
    refine wp_aload_n (atd dX11_safe 0 rfl) rfl rfl ?_
    refine wp_get fX11_72 (atd dX11_safe 1 rfl) hH rfl ?_
    refine wp_get fX11_103 (atd dX11_safe 2 rfl) hSt rfl ?_
    refine wp_ifN_eq (tgt := 34) (atd dX11_safe 3 rfl) (by decide) (by omega) (fun c_7 => ?_) (fun c_7 => ?_)
    ·
      refine wp_null (atd dX11_safe 14 rfl) ?_
      refine wp_astore_n (atd dX11_safe 15 rfl) (Nat.le_of_ble_eq_true rfl) rfl ?_
      refine wp_aload_n (atd dX11_safe 16 rfl) rfl rfl ?_
      refine wp_ifnonnull_n (atd dX11_safe 17 rfl) ?_
      refine wp_iconst (v := -1) (atd dX11_safe 18 rfl) (by decide) ?_
      refine wp_goto (tgt := 66) (atd dX11_safe 19 rfl) (by decide) ?_
      refine wp_ireti (atd dX11_safe 30 rfl) rfl ?_
      exact ⟨rfl, fK.rf, mk, rfl, CSt_T hS (by omega)⟩
    · exact absurd c_7 (by decide)
  | some e =>
    have hH := hS.1.2.2.2
    have hn := hV.1.1.1
    have hGo := hS.2.2.1.1.1
    obtain ⟨hTz, hLz, tz, lz, hFS, htz⟩ := hS.2.2.1.1.2.2.1
    have hRo := hFS.ob
    have hSt := st_on hS he
    obtain ⟨⟨hkd, hh1, hh3, hm, hp, ht⟩, hi, hx9, hho, hsd⟩ := xS_ok hV he
    refine wp_aload_n (atd dX11_safe 0 rfl) rfl rfl ?_
    refine wp_get fX11_72 (atd dX11_safe 1 rfl) hH rfl ?_
    refine wp_get fX11_103 (atd dX11_safe 2 rfl) hSt rfl ?_
    refine wp_ifN_eq (tgt := 34) (atd dX11_safe 3 rfl) (by decide) (by omega) (fun c_7 => ?_) (fun c_7 => ?_)
    · exact absurd c_7 (by decide)
    ·
      refine wp_aload_n (atd dX11_safe 4 rfl) rfl rfl ?_
      refine wp_get fX11_72 (atd dX11_safe 5 rfl) hH rfl ?_
      refine wp_get fX11_272 (atd dX11_safe 6 rfl) hSt rfl ?_
      refine wp_ifN_eq (tgt := 34) (atd dX11_safe 7 rfl) (by decide) (by omega) (fun c_17 => ?_) (fun c_17 => ?_)
      ·
        refine wp_null (atd dX11_safe 14 rfl) ?_
        refine wp_astore_n (atd dX11_safe 15 rfl) (Nat.le_of_ble_eq_true rfl) rfl ?_
        refine wp_aload_n (atd dX11_safe 16 rfl) rfl rfl ?_
        refine wp_ifnonnull_n (atd dX11_safe 17 rfl) ?_
        refine wp_iconst (v := -1) (atd dX11_safe 18 rfl) (by decide) ?_
        refine wp_goto (tgt := 66) (atd dX11_safe 19 rfl) (by decide) ?_
        refine wp_ireti (atd dX11_safe 30 rfl) rfl ?_
        refine ⟨?_, fK.rf, mk, rfl, CSt_T hS (by omega)⟩
        show _ = sfF S.nb S.n e.kd e.h e.ρ e.p e.t
        unfold sfF
        rw [if_pos (Or.inr c_17)]
      ·
        refine wp_aload_n (atd dX11_safe 8 rfl) rfl rfl ?_
        refine wp_cVi hdd [] (atd dX11_safe 9 rfl) iX11_isCaught lX11_278 rfl rfl (Nat.le_of_ble_eq_true rfl) hH rfl (eX11_isCaught (by omega) hV hS he) (fun r_21 s_21 h_21 => ?_)
        obtain ⟨rfl, e_21⟩ := h_21
        obtain rfl := e_21.symm
        refine wp_ifB_ne (tgt := 34) (atd dX11_safe 10 rfl) (by decide) (fun c_24 => ?_) (fun c_24 => ?_)
        ·
          refine wp_null (atd dX11_safe 14 rfl) ?_
          refine wp_astore_n (atd dX11_safe 15 rfl) (Nat.le_of_ble_eq_true rfl) rfl ?_
          refine wp_aload_n (atd dX11_safe 16 rfl) rfl rfl ?_
          refine wp_ifnonnull_n (atd dX11_safe 17 rfl) ?_
          refine wp_iconst (v := -1) (atd dX11_safe 18 rfl) (by decide) ?_
          refine wp_goto (tgt := 66) (atd dX11_safe 19 rfl) (by decide) ?_
          refine wp_ireti (atd dX11_safe 30 rfl) rfl ?_
          refine ⟨?_, fK.rf, mk, rfl, CSt_T hS (by omega)⟩
          show _ = sfF S.nb S.n e.kd e.h e.ρ e.p e.t
          unfold sfF
          rw [if_pos (Or.inl c_24)]
        ·
          refine wp_aload_n (atd dX11_safe 11 rfl) rfl rfl ?_
          refine wp_cVr hdd [] (atd dX11_safe 12 rfl) iX11_stageGame lX11_285 rfl rfl (Nat.le_of_ble_eq_true rfl) hH rfl (eX11_stageGame (by omega) hV hS he hT0) (show 1 = 1 + 0 from rfl) (show 1485 = 1485 + 0 from rfl) (fun r_28 s_28 h_28 => ?_)
          obtain ⟨rfl, hK, mk2, hm0, hS, op, tn, rf, hpp, hGx⟩ := h_28
          have hH := hS.1.2.2.2
          have hGo := hS.2.2.1.1.1
          have hSt := st_on hS he
          obtain ⟨hGm, hX, hRd⟩ := id hGx
          obtain ⟨wa, wo, ew, hWo, ⟨⟨w, hFin⟩, hwb, rfl, rfl, rfl⟩, hhp⟩ := hRd rfl
          have hfl := frN_le e.h hh1 hh3
          rw [ew] at hGm
          have hGm : OB s_28 (12 + 13 + gix e.kd e.h) 1 (gaF e.kd (frN e.h) (frN (e.h + 1)) _ (.ref wa) _ _ _ hpp) := hGm
          obtain ⟨hm1, hm2, hm3⟩ := xi_mem hh1 hh3 hn hi
          obtain ⟨hN, hNA⟩ := hS.2.1.2.1
          obtain ⟨hTz, hLz, tz, lz, hFS, htz⟩ := hS.2.2.1.1.2.2.1
          have hRo := hFS.ob
          refine wp_goto (tgt := 35) (atd dX11_safe 13 rfl) (by decide) ?_
          refine wp_astore_n (atd dX11_safe 15 rfl) (Nat.le_of_ble_eq_true rfl) rfl ?_
          refine wp_aload_n (atd dX11_safe 16 rfl) rfl rfl ?_
          refine wp_ifnonnull_r (tgt := 44) (atd dX11_safe 17 rfl) (by decide) ?_
          refine wp_aload_n (atd dX11_safe 20 rfl) rfl rfl ?_
          refine wp_get fX11_38 (atd dX11_safe 21 rfl) hH rfl ?_
          refine wp_aload_n (atd dX11_safe 22 rfl) rfl rfl ?_
          refine wp_aload_n (atd dX11_safe 23 rfl) rfl rfl ?_
          refine wp_get fX11_72 (atd dX11_safe 24 rfl) hH rfl ?_
          refine wp_get fX11_266 (atd dX11_safe 25 rfl) hSt rfl ?_
          refine wp_aload_n (atd dX11_safe 26 rfl) rfl rfl ?_
          refine wp_get fX11_72 (atd dX11_safe 27 rfl) hH rfl ?_
          refine wp_get fX11_269 (atd dX11_safe 28 rfl) hSt rfl ?_
          refine wp_cVi hdd [_, _, _] (atd dX11_safe 29 rfl) iX2_safeBits lX11_296 rfl rfl (Nat.le_of_ble_eq_true rfl) hGo rfl (eX2_safeBits (by omega) hN hNA hn (net_lt hV.1) hGo hGm hWo (by omega) hwb hRo hTz hkd hm1 hm2 (by omega)) (fun r_63 s_63 h_63 => ?_)
          obtain ⟨rfl, e_63⟩ := h_63
          obtain rfl := e_63.symm
          refine wp_ireti (atd dX11_safe 30 rfl) rfl ?_
          refine ⟨?_, hK, mk2, hm0, hS⟩
          show _ = sfF S.nb S.n e.kd e.h e.ρ e.p e.t
          unfold sfF
          rw [if_neg (fun z => z.elim c_24 (fun q => by omega))]
          have hq := sf_eq hV.1 hh1 hh3 hFin (p := e.p) hi hp
          rw [show sdC (xi e.h S.n (rwi (rowsL e.h S.n) e.ρ)) = std e.h e.ρ from hsd] at hq
          rw [← hq, ← hsd]
          rfl
