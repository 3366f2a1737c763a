theorem bp_at {u u2 : Nat → Option Nat} {to n p : Nat} (hu : ∀ q, q < n → u q = u2 q) (hb : ∀ q, q < n → ∀ v, u q = some v → v ≤ 2000) (hbit : to.testBit p = true) (hp : p < n) : nI (fl (bcG u to) n 0 (p, none)).1 = oI (bpF u2 to n) := by
  rw [bp_eq hb, bpG_cg hu]
  have hne : bpF u2 to n ≠ none := by
    refine fl_at (P := fun b => b ≠ none) (g := bpG u2 to) (fun v s hs => ?_) (v0 := p) (fun s => ?_) n 0 none (by omega) (by omega)
    · cases s with
      | none => exact absurd rfl hs
      | some x =>
        unfold bpG
        by_cases c : to.testBit v = true
        · rw [if_pos c]
          show (match u2 x with
            | none => some x
            | some y => (match u2 v with
              | none => some v
              | some z => if y < z then some v else some x)) ≠ none
          cases u2 x with
          | none => intro z; cases z
          | some y =>
            cases u2 v with
            | none => intro z; cases z
            | some z => show (if y < z then some v else some x) ≠ none
                        split <;> (intro z; cases z)
        · rw [if_neg c]; exact hs
    · cases s with
      | none => unfold bpG; rw [if_pos hbit]; intro z; cases z
      | some x =>
        unfold bpG
        rw [if_pos hbit]
        show (match u2 x with
          | none => some x
          | some y => (match u2 p with
            | none => some p
            | some z => if y < z then some p else some x)) ≠ none
        cases u2 x with
        | none => intro z; cases z
        | some y =>
          cases u2 p with
          | none => intro z; cases z
          | some z => show (if y < z then some p else some x) ≠ none
                      split <;> (intro z; cases z)
  cases q : bpF u2 to n with
  | none => exact absurd q hne
  | some x => rfl
theorem isP1 {i : Int32} (h : i ≠ 0) : ¬ isP i 1 := fun z => h (Int32.toInt_inj.mp (by rw [show (0 : Int32).toInt = 0 from by decide]; have := z.1; have := z.2; omega))
theorem isP_nl {i : Int32} {h : Nat} (hh : h < 2 ^ 31) (c : ¬ i < nI h) : ¬ isP i h := fun z => c (by rw [Int32.lt_iff_toInt_lt, nI_toInt hh]; exact z.2)
theorem vX11_best {G : Gx} {d : Nat} {σ : Hp} (hd : 8 ≤ d) {S : Ab} {mk : Nat → Option Nat} {T : Nat} (hV : AbV S) (hS : CSt S σ mk T) (hT0 : T + 245390 < 2 ^ 31) {i : Int32} : Cl G mX11_best d [.ref 0, .int i] σ 1 1485 (pI fun r s => r = aBest S i ∧ fK σ s ∧ ∃ mk2, mk2 0 = mk 0 ∧ CSt S s mk2 (T + 245290)) := by
  obtain ⟨d0, hdd⟩ : ∃ e, d = e + 1 := ⟨d - 1, by omega⟩
  refine cl_of (by decide) (by simp [Value.category]) (Nat.le_of_ble_eq_true rfl) ?_
  show Wp G mX11_best d 0 [.ref 0, .int i, .double 0] [] σ 1 1485 _
  unfold aBest
  cases he : S.sc with
  | none =>
    have hH := hS.1.2.2.2
    obtain ⟨c, hSt, -, h3⟩ := hS.2.2.2.1
    rw [he] at h3
    have h3 : c 0 = nI 0 := h3
    unfold scF at hSt
    rw [h3] at hSt
    refine wp_aload_n (atd dX11_best 0 rfl) rfl rfl ?_
    refine wp_get fX11_72 (atd dX11_best 1 rfl) hH rfl ?_
    refine wp_get fX11_103 (atd dX11_best 2 rfl) hSt rfl ?_
    refine wp_ifN_eq (tgt := 17) (atd dX11_best 3 rfl) (by decide) (by omega) (fun c_7 => ?_) (fun c_7 => ?_)
    ·
      refine wp_iconst (v := -1) (atd dX11_best 7 rfl) (by decide) ?_
      refine wp_ireti (atd dX11_best 8 rfl) rfl ?_
      exact ⟨rfl, fK.rf, mk, rfl, CSt_T hS (by omega)⟩
    · exact absurd c_7 (by decide)
  | some e =>
    have hH := hS.1.2.2.2
    have hn := hV.1.1.1
    have hGo := hS.2.2.1.1.1
    obtain ⟨hTz, hLz, tz, lz, hFS, htz⟩ := hS.2.2.1.1.2.2.1
    have hRo := hFS.ob
    have hSt := st_on hS he
    obtain ⟨⟨hkd, hh1, hh3, hm, hp, ht⟩, hi, hx9, hho, hsd⟩ := xS_ok hV he
    refine wp_aload_n (atd dX11_best 0 rfl) rfl rfl ?_
    refine wp_get fX11_72 (atd dX11_best 1 rfl) hH rfl ?_
    refine wp_get fX11_103 (atd dX11_best 2 rfl) hSt rfl ?_
    refine wp_ifN_eq (tgt := 17) (atd dX11_best 3 rfl) (by decide) (by omega) (fun c_7 => ?_) (fun c_7 => ?_)
    · exact absurd c_7 (by decide)
    ·
      refine wp_aload_n (atd dX11_best 4 rfl) rfl rfl ?_
      refine wp_cVi hdd [] (atd dX11_best 5 rfl) iX11_isCaught lX11_278 rfl rfl (Nat.le_of_ble_eq_true rfl) hH rfl (eX11_isCaught (by omega) hV hS he) (fun r_11 s_11 h_11 => ?_)
      obtain ⟨rfl, e_11⟩ := h_11
      obtain rfl := e_11.symm
      refine wp_ifB_eq (tgt := 19) (atd dX11_best 6 rfl) (by decide) (fun c_14 => ?_) (fun c_14 => ?_)
      ·
        refine wp_aload_n (atd dX11_best 9 rfl) rfl rfl ?_
        refine wp_cVr hdd [] (atd dX11_best 10 rfl) iX11_stageGame lX11_285 rfl rfl (Nat.le_of_ble_eq_true rfl) hH rfl (eX11_stageGame (by omega) hV hS he hT0) (show 1 = 1 + 0 from rfl) (show 1485 = 1485 + 0 from rfl) (fun r_20 s_20 h_20 => ?_)
        obtain ⟨rfl, hK, mk2, hm0, hS, op, tn, rf, hpp, hGx⟩ := h_20
        have hH := hS.1.2.2.2
        have hGo := hS.2.2.1.1.1
        have hSt := st_on hS he
        obtain ⟨hGm, hX, hRd⟩ := id hGx
        obtain ⟨wa, wo, ew, hWo, ⟨⟨w, hFin⟩, hwb, rfl, rfl, rfl⟩, hhp⟩ := hRd rfl
        have hfl := frN_le e.h hh1 hh3
        rw [ew] at hGm
        have hGm : OB s_20 (12 + 13 + gix e.kd e.h) 1 (gaF e.kd (frN e.h) (frN (e.h + 1)) _ (.ref wa) _ _ _ hpp) := hGm
        obtain ⟨hm1, hm2, hm3⟩ := xi_mem hh1 hh3 hn hi
        obtain ⟨hN, hNA⟩ := hS.2.1.2.1
        obtain ⟨hTz, hLz, tz, lz, hFS, htz⟩ := hS.2.2.1.1.2.2.1
        have hRo := hFS.ob
        refine wp_astore_n (atd dX11_best 11 rfl) (Nat.le_of_ble_eq_true rfl) rfl ?_
        refine wp_aload_n (atd dX11_best 12 rfl) rfl rfl ?_
        refine wp_ifnonnull_r (tgt := 30) (atd dX11_best 13 rfl) (by decide) ?_
        refine wp_aload_n (atd dX11_best 16 rfl) rfl rfl ?_
        refine wp_get fX11_72 (atd dX11_best 17 rfl) hH rfl ?_
        refine wp_get fX11_272 (atd dX11_best 18 rfl) hSt rfl ?_
        refine wp_ifN_eq (tgt := 71) (atd dX11_best 19 rfl) (by decide) (by omega) (fun c_37 => ?_) (fun c_37 => ?_)
        ·
          refine wp_iload_n (atd dX11_best 35 rfl) rfl ?_
          refine wp_if_lt (tgt := 89) (atd dX11_best 36 rfl) (by decide) (fun c_72 => ?_) (fun c_72 => ?_)
          ·
            refine wp_iconst (v := -1) (atd dX11_best 43 rfl) (by decide) ?_
            refine wp_ireti (atd dX11_best 44 rfl) rfl ?_
            refine ⟨?_, hK, mk2, hm0, CSt_T hS (by omega)⟩
            show _ = bsF S.nb S.n e.kd e.h e.ρ e.p e.t i
            unfold bsF
            rw [if_neg c_14, if_pos c_37]
            unfold atP
            rw [if_neg (isP_lt0 c_72)]
          ·
            refine wp_iload_n (atd dX11_best 37 rfl) rfl ?_
            refine wp_aload_n (atd dX11_best 38 rfl) rfl rfl ?_
            refine wp_get fX11_72 (atd dX11_best 39 rfl) hH rfl ?_
            refine wp_get fX11_266 (atd dX11_best 40 rfl) hSt rfl ?_
            refine wp_cSi hdd [_] (atd dX11_best 41 rfl) iX5_huntersOf lX11_206 rfl rfl (Nat.le_of_ble_eq_true rfl) (eX5_huntersOf (by omega) hx9) (fun r_83 s_83 h_83 => ?_)
            obtain ⟨rfl, e_83⟩ := h_83
            obtain rfl := e_83.symm
            rw [hho]
            refine wp_icmp_lt (tgt := 91) (atd dX11_best 42 rfl) (by decide) (fun c_86 => ?_) (fun c_86 => ?_)
            ·
              have hix := gix_lt hkd hh1 hh3
              have hw1 := (wkG_ok hS.1.2.1).1 _ _ ew
              have hwa2 : (wa < 12 ∨ 12 + 12 < wa) ∧ wa ≠ 12 + 13 + gix e.kd e.h ∧ wa ≠ 5 ∧ wa ≠ 5 + 1 := ⟨by omega, by omega, by omega, by omega⟩
              have h165 : frN (e.h + 1) ≤ frN e.h + 165 := by
                generalize e.h = h at hh1 hh3
                rcases (show h = 1 ∨ h = 2 ∨ h = 3 by omega) with rfl | rfl | rfl <;> decide
              refine wp_aload_n (atd dX11_best 45 rfl) rfl rfl ?_
              refine wp_get fX11_38 (atd dX11_best 46 rfl) hH rfl ?_
              refine wp_get fX11_58 (atd dX11_best 47 rfl) hGo rfl ?_
              refine wp_aload_n (atd dX11_best 48 rfl) rfl rfl ?_
              refine wp_get fX11_38 (atd dX11_best 49 rfl) hH rfl ?_
              refine wp_aload_n (atd dX11_best 50 rfl) rfl rfl ?_
              refine wp_aload_n (atd dX11_best 51 rfl) rfl rfl ?_
              refine wp_get fX11_72 (atd dX11_best 52 rfl) hH rfl ?_
              refine wp_get fX11_266 (atd dX11_best 53 rfl) hSt rfl ?_
              refine wp_aload_n (atd dX11_best 54 rfl) rfl rfl ?_
              refine wp_get fX11_72 (atd dX11_best 55 rfl) hH rfl ?_
              refine wp_get fX11_269 (atd dX11_best 56 rfl) hSt rfl ?_
              refine wp_cVi hdd [_, _, _] (atd dX11_best 57 rfl) iX2_bestRow lX11_293 rfl rfl (Nat.le_of_ble_eq_true rfl) hGo rfl (eX2_bestRow (by omega) hn (net_lt hV.1) hkd (by omega) h165 hwb (by omega) (by omega) hwa2 hGo hN hNA hGm hWo hTz hLz hFS (by omega) hm1 hm2 (by omega) (gdX_on hV.1.1 hh1 hh3 hm1 hm2 hm3)) (fun r_117 s_117 h_117 => ?_)
              obtain ⟨rfl, -, f_117, hTz, hLz, l9, hFS⟩ := h_117
              have hRo := hFS.ob
              obtain ⟨hS, hK2⟩ := CSt_rows (T2 := T + 245290) hS f_117 (by omega) ⟨hTz, hLz, tz + 1, l9, hFS, by omega⟩
              rw [show bsC S.nb S.n e.kd (frN e.h) wo (xS S.n e) e.p = _ from bs_br hV.1 hh1 hh3 hFin hi]
              refine wp_iload_n (atd dX11_best 58 rfl) rfl ?_
              refine wp_cVi hdd [_, _] (atd dX11_best 59 rfl) iX5_hunterAt lX11_197 rfl rfl (Nat.le_of_ble_eq_true rfl) hRo rfl (eX5_hunterAt (by omega) hRo hTz (xi_lt hh1 hh3 hn (brT_isB hV.1 hh1 hh3 hFin (p := e.p) hi).1)) (fun r_121 s_121 h_121 => ?_)
              obtain ⟨rfl, e_121⟩ := h_121
              obtain rfl := e_121.symm
              refine wp_ireti (atd dX11_best 60 rfl) rfl ?_
              refine ⟨?_, hK.tr hK2, mk2, hm0, hS⟩
              show _ = bsF S.nb S.n e.kd e.h e.ρ e.p e.t i
              unfold bsF
              rw [if_neg c_14, if_pos c_37]
              exact hAt_eq hh1 hh3 hn (brT_isB hV.1 hh1 hh3 hFin hi).1 i
            ·
              refine wp_iconst (v := -1) (atd dX11_best 43 rfl) (by decide) ?_
              refine wp_ireti (atd dX11_best 44 rfl) rfl ?_
              refine ⟨?_, hK, mk2, hm0, CSt_T hS (by omega)⟩
              show _ = bsF S.nb S.n e.kd e.h e.ρ e.p e.t i
              unfold bsF
              rw [if_neg c_14, if_pos c_37]
              unfold atP
              rw [if_neg (isP_nl (by omega) c_86)]
        ·
          refine wp_iload_n (atd dX11_best 20 rfl) rfl ?_
          refine wp_if_ne (tgt := 69) (atd dX11_best 21 rfl) (by decide) (fun c_41 => ?_) (fun c_41 => ?_)
          ·
            refine wp_iconst (v := -1) (atd dX11_best 33 rfl) (by decide) ?_
            refine wp_ireti (atd dX11_best 34 rfl) rfl ?_
            refine ⟨?_, hK, mk2, hm0, CSt_T hS (by omega)⟩
            show _ = bsF S.nb S.n e.kd e.h e.ρ e.p e.t i
            unfold bsF
            rw [if_neg c_14, if_neg (by omega)]
            unfold atP
            rw [if_neg (isP1 c_41)]
          ·
            refine wp_aload_n (atd dX11_best 22 rfl) rfl rfl ?_
            refine wp_get fX11_38 (atd dX11_best 23 rfl) hH rfl ?_
            refine wp_aload_n (atd dX11_best 24 rfl) rfl rfl ?_
            refine wp_aload_n (atd dX11_best 25 rfl) rfl rfl ?_
            refine wp_get fX11_72 (atd dX11_best 26 rfl) hH rfl ?_
            refine wp_get fX11_266 (atd dX11_best 27 rfl) hSt rfl ?_
            refine wp_aload_n (atd dX11_best 28 rfl) rfl rfl ?_
            refine wp_get fX11_72 (atd dX11_best 29 rfl) hH rfl ?_
            refine wp_get fX11_269 (atd dX11_best 30 rfl) hSt rfl ?_
            refine wp_cVi hdd [_, _, _] (atd dX11_best 31 rfl) iX2_bestPlace lX11_289 rfl rfl (Nat.le_of_ble_eq_true rfl) hGo rfl (eX2_bestPlace (by omega) hN hNA hn (net_lt hV.1) hGo hGm hWo (by omega) hwb hRo hTz hkd hm1 hm2 (by omega)) (fun r_63 s_63 h_63 => ?_)
            obtain ⟨rfl, e_63⟩ := h_63
            obtain rfl := e_63.symm
            refine wp_goto (tgt := 70) (atd dX11_best 32 rfl) (by decide) ?_
            refine wp_ireti (atd dX11_best 34 rfl) rfl ?_
            refine ⟨?_, hK, mk2, hm0, CSt_T hS (by omega)⟩
            show _ = bsF S.nb S.n e.kd e.h e.ρ e.p e.t i
            unfold bsF
            rw [if_neg c_14, if_neg (by omega), show i = nI 0 from Classical.not_not.mp c_41]
            unfold atP
            rw [if_pos ((isP_nI (by omega)).mpr (by omega)), ← hsd, ← rch_rns hV.1]
            exact bp_at (fun q hq => Fin_slv hV.1 hh1 hh3 hFin hi hq) (fun q hq v ev => slv_le hV.1 hh1 hh3 hFin hi hq (by rw [← Fin_slv hV.1 hh1 hh3 hFin hi hq]; exact ev)) (rch_net hV.1 hp).1 hp
      ·
        refine wp_iconst (v := -1) (atd dX11_best 7 rfl) (by decide) ?_
        refine wp_ireti (atd dX11_best 8 rfl) rfl ?_
        refine ⟨?_, fK.rf, mk, rfl, CSt_T hS (by omega)⟩
        show _ = bsF S.nb S.n e.kd e.h e.ρ e.p e.t i
        unfold bsF
        rw [if_pos c_14]
