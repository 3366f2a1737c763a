theorem sn_j {nb : Nat → Nat} {n kd h p t j : Nat} {ρ : Row} {b : Int32} (hj : j < 7) : snF nb n kd h ρ p t b (nI j) = snJ nb n kd h ρ p t b j := by
  unfold snF atP
  rw [if_neg (fun z => by have := z.1; rw [nI_toInt (by omega)] at this; omega), if_pos ((isP_nI (by omega)).mpr hj), nI_clamp (by omega)]
theorem sn_lo {nb : Nat → Nat} {n kd h p t : Nat} {ρ : Row} {b w : Int32} (h7 : ¬ isP w 7) (hw : ¬ w ≥ nI 10) : snF nb n kd h ρ p t b w = -2 := by
  unfold snF atP
  rw [ge_iff_le, Int32.le_iff_toInt_le, show (nI 10).toInt = 10 from by decide] at hw
  rw [if_neg (fun z => by have := z.1; omega), if_neg h7]
theorem sn_hi {nb : Nat → Nat} {n kd h p t : Nat} {ρ : Row} {b w : Int32} (hh3 : h ≤ 3) (hρ : ∀ k, rk ρ k < 9) (h7 : ¬ isP w 7) (hw : w ≥ nI 10) : snF nb n kd h ρ p t b w = if atP (w - nI 10) h (fun j => nI (rk ρ j)) (-1) = -1 then -2 else atP (w - nI 10) h (fun j => nI (rk ρ j)) (-1) := by
  unfold snF
  by_cases e : isRw w h
  · obtain ⟨j, hj, rfl⟩ := isRw_of hh3 e
    rw [if_pos e, pk_sub (by omega : 10 ≤ 10 + j), show 10 + j - 10 = j by omega]
    unfold atP
    rw [if_pos ((isP_nI (by omega)).mpr hj), nI_clamp (by omega), nI_clamp (by omega), show 10 + j - 10 = j by omega, if_neg (nI_m1 (by have := hρ j; omega))]
  · have hq : ¬ isP (w - nI 10) h := fun z => by
      obtain ⟨j, hj, ej⟩ := isP_ofB z
      have : w = nI (10 + j) := by
        rw [← Int32.sub_add_cancel (a := w) (b := nI 10), ej, nI_add]
        congr 1
        omega
      exact e (by rw [this]; exact isRw_nI hh3 hj)
    unfold atP
    rw [if_neg e, if_neg h7, if_neg hq, if_pos rfl]
theorem vX11_scene {G : Gx} {d : Nat} {σ : Hp} (hd : 8 ≤ d) {S : Ab} {mk : Nat → Option Nat} {T : Nat} (hV : AbV S) (hS : CSt S σ mk T) (hT0 : T + 245390 < 2 ^ 31) {w : Int32} : Cl G mX11_scene d [.ref 0, .int w] σ 1 1485 (pI fun r s => r = aScene S w ∧ fK σ s ∧ ∃ mk2, mk2 0 = mk 0 ∧ CSt S s mk2 (T + 245190)) := by
  obtain ⟨d0, hdd⟩ : ∃ e, d = e + 1 := ⟨d - 1, by omega⟩
  refine cl_of (by decide) (by simp [Value.category]) (Nat.le_of_ble_eq_true rfl) ?_
  show Wp G mX11_scene d 0 [.ref 0, .int w, .double 0] [] σ 1 1485 _
  unfold aScene
  cases he : S.sc with
  | none =>
    have hH := hS.1.2.2.2
    obtain ⟨c, hSt, -, h3⟩ := hS.2.2.2.1
    rw [he] at h3
    have h3 : c 0 = nI 0 := h3
    unfold scF at hSt
    rw [h3] at hSt
    refine wp_aload_n (atd dX11_scene 0 rfl) rfl rfl ?_
    refine wp_get fX11_72 (atd dX11_scene 1 rfl) hH rfl ?_
    refine wp_get fX11_103 (atd dX11_scene 2 rfl) hSt rfl ?_
    refine wp_ifN_ne (tgt := 13) (atd dX11_scene 3 rfl) (by decide) (by omega) (fun c_7 => ?_) (fun c_7 => ?_)
    · exact absurd c_7 (by decide)
    ·
      refine wp_bipush (v := -2) (atd dX11_scene 4 rfl) (by decide) ?_
      refine wp_ireti (atd dX11_scene 5 rfl) rfl ?_
      exact ⟨rfl, fK.rf, mk, rfl, CSt_T hS (by omega)⟩
  | some e =>
    have hH := hS.1.2.2.2
    have hn := hV.1.1.1
    have hGo := hS.2.2.1.1.1
    obtain ⟨hTz, hLz, tz, lz, hFS, htz⟩ := hS.2.2.1.1.2.2.1
    have hRo := hFS.ob
    have hSt := st_on hS he
    obtain ⟨⟨hkd, hh1, hh3, hm, hp, ht⟩, hi, hx9, hho, hsd⟩ := xS_ok hV he
    refine wp_aload_n (atd dX11_scene 0 rfl) rfl rfl ?_
    refine wp_get fX11_72 (atd dX11_scene 1 rfl) hH rfl ?_
    refine wp_get fX11_103 (atd dX11_scene 2 rfl) hSt rfl ?_
    refine wp_ifN_ne (tgt := 13) (atd dX11_scene 3 rfl) (by decide) (by omega) (fun c_7 => ?_) (fun c_7 => ?_)
    ·
      refine wp_iload_n (atd dX11_scene 6 rfl) rfl ?_
      by_cases hw7 : isP w 7
      ·
        obtain ⟨j, hj, rfl⟩ := isP_ofB hw7
        rcases (show j = 0 ∨ j = 1 ∨ j = 2 ∨ j = 3 ∨ j = 4 ∨ j = 5 ∨ j = 6 by omega) with rfl | rfl | rfl | rfl | rfl | rfl | rfl
        ·
          refine wp_tblIn (off := 42) (tgt := 56) (atd dX11_scene 7 rfl) (by decide) (by decide) rfl (by decide) ?_
          refine wp_aload_n (atd dX11_scene 8 rfl) rfl rfl ?_
          refine wp_get fX11_72 (atd dX11_scene 9 rfl) hH rfl ?_
          refine wp_get fX11_263 (atd dX11_scene 10 rfl) hSt rfl ?_
          refine wp_ireti (atd dX11_scene 11 rfl) rfl ?_
          refine ⟨?_, fK.rf, mk, rfl, CSt_T hS (by omega)⟩
          show _ = snF S.nb S.n e.kd e.h e.ρ e.p e.t e.b (nI 0)
          rw [sn_j (by omega)]
          rfl
        ·
          refine wp_tblIn (off := 50) (tgt := 64) (atd dX11_scene 7 rfl) (by decide) (by decide) rfl (by decide) ?_
          refine wp_aload_n (atd dX11_scene 12 rfl) rfl rfl ?_
          refine wp_get fX11_72 (atd dX11_scene 13 rfl) hH rfl ?_
          refine wp_get fX11_266 (atd dX11_scene 14 rfl) hSt rfl ?_
          refine wp_cSi hdd [_] (atd dX11_scene 15 rfl) iX5_huntersOf lX11_206 rfl rfl (Nat.le_of_ble_eq_true rfl) (eX5_huntersOf (by omega) hx9) (fun r_71 s_71 h_71 => ?_)
          obtain ⟨rfl, e_71⟩ := h_71
          obtain rfl := e_71.symm
          rw [hho]
          refine wp_ireti (atd dX11_scene 16 rfl) rfl ?_
          refine ⟨?_, fK.rf, mk, rfl, CSt_T hS (by omega)⟩
          show _ = snF S.nb S.n e.kd e.h e.ρ e.p e.t e.b (nI 1)
          rw [sn_j (by omega)]
          rfl
        ·
          refine wp_tblIn (off := 61) (tgt := 75) (atd dX11_scene 7 rfl) (by decide) (by decide) rfl (by decide) ?_
          refine wp_aload_n (atd dX11_scene 17 rfl) rfl rfl ?_
          refine wp_get fX11_72 (atd dX11_scene 18 rfl) hH rfl ?_
          refine wp_get fX11_269 (atd dX11_scene 19 rfl) hSt rfl ?_
          refine wp_ireti (atd dX11_scene 20 rfl) rfl ?_
          refine ⟨?_, fK.rf, mk, rfl, CSt_T hS (by omega)⟩
          show _ = snF S.nb S.n e.kd e.h e.ρ e.p e.t e.b (nI 2)
          rw [sn_j (by omega)]
          rfl
        ·
          refine wp_tblIn (off := 69) (tgt := 83) (atd dX11_scene 7 rfl) (by decide) (by decide) rfl (by decide) ?_
          refine wp_aload_n (atd dX11_scene 21 rfl) rfl rfl ?_
          refine wp_get fX11_72 (atd dX11_scene 22 rfl) hH rfl ?_
          refine wp_get fX11_272 (atd dX11_scene 23 rfl) hSt rfl ?_
          refine wp_ifN_eq (tgt := 97) (atd dX11_scene 24 rfl) (by decide) (by omega) (fun c_90 => ?_) (fun c_90 => ?_)
          ·
            refine wp_iconst (v := nI 0) (atd dX11_scene 27 rfl) (by decide) ?_
            refine wp_ireti (atd dX11_scene 28 rfl) rfl ?_
            refine ⟨?_, fK.rf, mk, rfl, CSt_T hS (by omega)⟩
            show _ = snF S.nb S.n e.kd e.h e.ρ e.p e.t e.b (nI 3)
            rw [sn_j (by omega)]
            show nI 0 = nI e.t
            rw [c_90]
          ·
            refine wp_iconst (v := nI 1) (atd dX11_scene 25 rfl) (by decide) ?_
            refine wp_goto (tgt := 98) (atd dX11_scene 26 rfl) (by decide) ?_
            refine wp_ireti (atd dX11_scene 28 rfl) rfl ?_
            refine ⟨?_, fK.rf, mk, rfl, CSt_T hS (by omega)⟩
            show _ = snF S.nb S.n e.kd e.h e.ρ e.p e.t e.b (nI 3)
            rw [sn_j (by omega)]
            show nI 1 = nI e.t
            rw [show e.t = 1 by omega]
        ·
          refine wp_tblIn (off := 85) (tgt := 99) (atd dX11_scene 7 rfl) (by decide) (by decide) rfl (by decide) ?_
          refine wp_aload_n (atd dX11_scene 29 rfl) rfl rfl ?_
          refine wp_get fX11_72 (atd dX11_scene 30 rfl) hH rfl ?_
          refine wp_get fX11_275 (atd dX11_scene 31 rfl) hSt rfl ?_
          refine wp_ireti (atd dX11_scene 32 rfl) rfl ?_
          refine ⟨?_, fK.rf, mk, rfl, CSt_T hS (by omega)⟩
          show _ = snF S.nb S.n e.kd e.h e.ρ e.p e.t e.b (nI 4)
          rw [sn_j (by omega)]
          rfl
        ·
          refine wp_tblIn (off := 93) (tgt := 107) (atd dX11_scene 7 rfl) (by decide) (by decide) rfl (by decide) ?_
          refine wp_aload_n (atd dX11_scene 33 rfl) rfl rfl ?_
          refine wp_cVi hdd [] (atd dX11_scene 34 rfl) iX11_isCaught lX11_278 rfl rfl (Nat.le_of_ble_eq_true rfl) hH rfl (eX11_isCaught (by omega) hV hS he) (fun r_108 s_108 h_108 => ?_)
          obtain ⟨rfl, e_108⟩ := h_108
          obtain rfl := e_108.symm
          refine wp_ifB_eq (tgt := 118) (atd dX11_scene 35 rfl) (by decide) (fun c_111 => ?_) (fun c_111 => ?_)
          ·
            refine wp_iconst (v := nI 0) (atd dX11_scene 38 rfl) (by decide) ?_
            refine wp_ireti (atd dX11_scene 39 rfl) rfl ?_
            refine ⟨?_, fK.rf, mk, rfl, CSt_T hS (by omega)⟩
            show _ = snF S.nb S.n e.kd e.h e.ρ e.p e.t e.b (nI 5)
            rw [sn_j (by omega)]
            exact (bI_f c_111).symm
          ·
            refine wp_iconst (v := nI 1) (atd dX11_scene 36 rfl) (by decide) ?_
            refine wp_goto (tgt := 119) (atd dX11_scene 37 rfl) (by decide) ?_
            refine wp_ireti (atd dX11_scene 39 rfl) rfl ?_
            refine ⟨?_, fK.rf, mk, rfl, CSt_T hS (by omega)⟩
            show _ = snF S.nb S.n e.kd e.h e.ρ e.p e.t e.b (nI 5)
            rw [sn_j (by omega)]
            exact (bI_t c_111).symm
        ·
          refine wp_tblIn (off := 106) (tgt := 120) (atd dX11_scene 7 rfl) (by decide) (by decide) rfl (by decide) ?_
          refine wp_aload_n (atd dX11_scene 40 rfl) rfl rfl ?_
          refine wp_cViA hdd [] (atd dX11_scene 41 rfl) iX11_stageWorth lX11_282 rfl rfl (Nat.le_of_ble_eq_true rfl) hH rfl (eX11_stageWorth (by omega) hV hS he hT0) (show 1 = 1 + 0 from rfl) (show 1485 = 1485 + 0 from rfl) (fun r_121 s_121 h_121 => ?_)
          obtain ⟨rfl, hK, mk2, hm0, hS⟩ := h_121
          refine wp_ireti (atd dX11_scene 42 rfl) rfl ?_
          refine ⟨?_, hK, mk2, hm0, hS⟩
          show _ = snF S.nb S.n e.kd e.h e.ρ e.p e.t e.b (nI 6)
          rw [sn_j (by omega)]
          rfl
      ·
        have hr9 : ∀ k, rk e.ρ k < 9 := fun k => by
          obtain ⟨r1, r2, r3, -⟩ := rowsL_ok S.n (by omega) e.h (by omega) _ hm
          unfold rk
          split <;> omega
        refine wp_tblOut (tgt := 125) (atd dX11_scene 7 rfl) (by have := hw7; omega) (by decide) ?_
        refine wp_iload_n (atd dX11_scene 43 rfl) rfl ?_
        refine wp_bipush (v := nI 10) (atd dX11_scene 44 rfl) (by decide) ?_
        refine wp_icmp_ge (tgt := 135) (atd dX11_scene 45 rfl) (by decide) (fun c_128 => ?_) (fun c_128 => ?_)
        ·
          refine wp_aload_n (atd dX11_scene 48 rfl) rfl rfl ?_
          refine wp_get fX11_38 (atd dX11_scene 49 rfl) hH rfl ?_
          refine wp_get fX11_58 (atd dX11_scene 50 rfl) hGo rfl ?_
          refine wp_aload_n (atd dX11_scene 51 rfl) rfl rfl ?_
          refine wp_get fX11_72 (atd dX11_scene 52 rfl) hH rfl ?_
          refine wp_get fX11_266 (atd dX11_scene 53 rfl) hSt rfl ?_
          refine wp_iload_n (atd dX11_scene 54 rfl) rfl ?_
          refine wp_bipush (v := nI 10) (atd dX11_scene 55 rfl) (by decide) ?_
          refine wp_isub (atd dX11_scene 56 rfl) ?_
          refine wp_cVi hdd [_, _] (atd dX11_scene 57 rfl) iX5_hunterAt lX11_197 rfl rfl (Nat.le_of_ble_eq_true rfl) hRo rfl (eX5_hunterAt (by omega) hRo hTz hx9) (fun r_153 s_153 h_153 => ?_)
          obtain ⟨rfl, e_153⟩ := h_153
          obtain rfl := e_153.symm
          rw [show atP (w - nI 10) 3 (fun j => if rk (rlA (xS S.n e)) j = 9 then -1 else nI (rk (rlA (xS S.n e)) j)) (-1) = _ from hAt_eq hh1 hh3 hn hi (w - nI 10), rwi_at hm]
          refine wp_istore_n (atd dX11_scene 58 rfl) (Nat.le_of_ble_eq_true rfl) ?_
          refine wp_iload_n (atd dX11_scene 59 rfl) rfl ?_
          refine wp_iconst (v := -1) (atd dX11_scene 60 rfl) (by decide) ?_
          refine wp_icmp_ne (tgt := 167) (atd dX11_scene 61 rfl) (by decide) (fun c_159 => ?_) (fun c_159 => ?_)
          ·
            refine wp_iload_n (atd dX11_scene 64 rfl) rfl ?_
            refine wp_ireti (atd dX11_scene 65 rfl) rfl ?_
            refine ⟨?_, fK.rf, mk, rfl, CSt_T hS (by omega)⟩
            show _ = snF S.nb S.n e.kd e.h e.ρ e.p e.t e.b w
            rw [sn_hi hh3 hr9 hw7 c_128, if_neg c_159]
          ·
            refine wp_bipush (v := -2) (atd dX11_scene 62 rfl) (by decide) ?_
            refine wp_goto (tgt := 168) (atd dX11_scene 63 rfl) (by decide) ?_
            refine wp_ireti (atd dX11_scene 65 rfl) rfl ?_
            refine ⟨?_, fK.rf, mk, rfl, CSt_T hS (by omega)⟩
            show _ = snF S.nb S.n e.kd e.h e.ρ e.p e.t e.b w
            rw [sn_hi hh3 hr9 hw7 c_128, if_pos (Classical.not_not.mp c_159)]
        ·
          refine wp_iconst (v := -1) (atd dX11_scene 46 rfl) (by decide) ?_
          refine wp_goto (tgt := 156) (atd dX11_scene 47 rfl) (by decide) ?_
          refine wp_istore_n (atd dX11_scene 58 rfl) (Nat.le_of_ble_eq_true rfl) ?_
          refine wp_iload_n (atd dX11_scene 59 rfl) rfl ?_
          refine wp_iconst (v := -1) (atd dX11_scene 60 rfl) (by decide) ?_
          refine wp_icmp_ne (tgt := 167) (atd dX11_scene 61 rfl) (by decide) (fun c_159 => ?_) (fun c_159 => ?_)
          · exact absurd rfl c_159
          ·
            refine wp_bipush (v := -2) (atd dX11_scene 62 rfl) (by decide) ?_
            refine wp_goto (tgt := 168) (atd dX11_scene 63 rfl) (by decide) ?_
            refine wp_ireti (atd dX11_scene 65 rfl) rfl ?_
            refine ⟨?_, fK.rf, mk, rfl, CSt_T hS (by omega)⟩
            show _ = snF S.nb S.n e.kd e.h e.ρ e.p e.t e.b w
            rw [sn_lo hw7 c_128]
    · exact absurd c_7 (by decide)
