/-! scenes that begin and go on -/
def Ab.withSc (S : Ab) (sc : Option Scn) : Ab := Ab.mk S.n S.nb sc S.td S.tp S.fk S.fp S.ps
theorem CSt.scn {S : Ab} {σ s : Hp} {mk : Nat → Option Nat} {T : Nat} {sc : Option Scn} (h : CSt S σ mk T) (f : fr [43] σ s) (c9 : cSce (S.withSc sc) s) : CSt (S.withSc sc) s mk T ∧ fK σ s :=
  CS2.up (S2 := S.withSc sc) (S3 := S.withSc sc) h.to2 f.A
def sc6 (a b c d e f : Int32) (i : Nat) : Int32 := match i with
  | 0 => a
  | 1 => b
  | 2 => c
  | 3 => d
  | 4 => e
  | _ => f
theorem cSce_of {S : Ab} {s : Hp} {sc : Scn} (h : OB s 43 6 [.int (nI 1), .int (nI sc.kd), .int (nI (xS S.n sc)), .int (nI sc.p), .int (nI sc.t), .int sc.b]) (ht : sc.t ≤ 1) : cSce (S.withSc (some sc)) s := ⟨sc6 (nI 1) (nI sc.kd) (nI (xS S.n sc)) (nI sc.p) (nI sc.t) sc.b, h, ⟨(by decide : okV .boolean (.int (nI 1)) = true), by rcases (by omega : sc.t = 0 ∨ sc.t = 1) with e | e <;> (show okV .boolean (.int (nI sc.t)) = true; rw [e]; decide)⟩, rfl, rfl, rfl, rfl, rfl, rfl⟩
theorem num_rl : ∀ x, x < 219 → num (rlA x).1 (rlA x).2.1 (rlA x).2.2 = some x := by decide +kernel
theorem rlA_inj {x y : Nat} (hx : x < 219) (hy : y < 219) (e : rlA x = rlA y) : x = y := by
  have h1 := num_rl x hx
  rw [e, num_rl y hy] at h1
  injection h1 with h1
  exact h1.symm
theorem rwi_row {h n i : Nat} (h1 : 1 ≤ h) (h3 : h ≤ 3) (hn : n ≤ 9) (hi : i < (rowsL h n).length) : rwi (rowsL h n) (rowAt (rowsL h n) i) = i := by
  have hm := rowAt_mem hi
  have hj := rwi_lt hm
  have e1 := xi_row h1 h3 hn hj
  rw [rwi_at hm, ← xi_row h1 h3 hn hi] at e1
  exact xi_inj h1 h3 hn hj hi (rlA_inj (xi_lt h1 h3 hn hj) (xi_lt h1 h3 hn hi) e1)
theorem frN_uq {h h2 x : Nat} (h1 : 1 ≤ h) (h3 : h ≤ 3) (g1 : 1 ≤ h2) (g3 : h2 ≤ 3) (a1 : frN h ≤ x) (a2 : x < frN (h + 1)) (b1 : frN h2 ≤ x) (b2 : x < frN (h2 + 1)) : h2 = h := by
  have e1 : frN 1 = 0 := rfl
  have e2 : frN 2 = 9 := rfl
  have e3 : frN 3 = 54 := rfl
  have e4 : frN 4 = 219 := rfl
  rcases (by omega : h = 1 ∨ h = 2 ∨ h = 3) with rfl | rfl | rfl <;> rcases (by omega : h2 = 1 ∨ h2 = 2 ∨ h2 = 3) with rfl | rfl | rfl <;> simp only [e1, e2, e3, e4] at * <;> omega
theorem leads_iff {n h h2 kd : Nat} {nb : Nat → Nat} {ρ ρ2 : Row} (hN : isNet n nb) (h1 : 1 ≤ h) (h3 : h ≤ 3) (g1 : 1 ≤ h2) (g3 : h2 ≤ 3) (hm : ρ ∈ rowsL h n) (hm2 : ρ2 ∈ rowsL h2 n) : STP nb kd (xi h n (rwi (rowsL h n) ρ)) (xi h2 n (rwi (rowsL h2 n) ρ2)) ↔ h2 = h ∧ cms nb h kd ρ ρ2 = true := by
  have hi := rwi_lt hm
  have hi2 := rwi_lt hm2
  have hn := hN.1
  constructor
  · intro hs
    obtain ⟨a1, a2, a3⟩ := xi_mem h1 h3 hn hi
    obtain ⟨b1, b2, -⟩ := xi_mem g1 g3 hn hi2
    obtain ⟨c1, c2, -⟩ := STP_on hN h1 h3 a1 a2 a3 hs
    obtain rfl : h2 = h := frN_uq h1 h3 g1 g3 c1 c2 b1 b2
    refine ⟨rfl, ?_⟩
    have := (xi_cg h1 h3 hn hN hi hi2).mpr hs
    unfold cgF at this
    rw [rwi_at hm, rwi_at hm2] at this
    exact this
  · rintro ⟨rfl, hc⟩
    refine (xi_cg h1 h3 hn hN hi hi2).mp ?_
    unfold cgF
    rw [rwi_at hm, rwi_at hm2]
    exact hc
theorem isP_k3 {k : Int32} (h1 : ¬ k < 0) (h2 : ¬ nI 3 ≤ k) : ∃ j, j < 3 ∧ k = nI j := by
  rw [Int32.lt_iff_toInt_lt, show (0 : Int32).toInt = 0 from by decide] at h1
  rw [Int32.le_iff_toInt_le, show (nI 3).toInt = 3 from by decide] at h2
  exact isP_ofB ⟨by omega, by omega⟩
theorem not_k3 {k : Int32} (h : nI 3 ≤ k) : ¬ isP k 3 := fun z => by
  rw [Int32.le_iff_toInt_le, show (nI 3).toInt = 3 from by decide] at h
  have := z.2
  omega
theorem tb_val1 {a p : Nat} (h : a >>> p &&& 1 ≠ 0) : a.testBit p = true := by
  cases hb : a.testBit p with
  | true => rfl
  | false => exact absurd ((tb_z a p).mpr hb) h
theorem vX11_begin {G : Gx} {d : Nat} {σ : Hp} (hd : 3 ≤ d) {S : Ab} {mk : Nat → Option Nat} {T : Nat} (hV : AbV S) (hS : CSt S σ mk T) {k a b c w : Int32} : Cl G mX11_begin d [.ref 0, .int k, .int a, .int b, .int c, .int w] σ 0 0 (pI fun r s => r = bgA S.n k a b c w ∧ fK σ s ∧ CSt (S.beginF k a b c w) s mk T) := by
  obtain ⟨d0, hdd⟩ : ∃ e, d = e + 1 := ⟨d - 1, by omega⟩
  refine cl_of (by decide) (by simp [Value.category]) (Nat.le_of_ble_eq_true rfl) ?_
  show Wp G mX11_begin d 0 [.ref 0, .int k, .int a, .int b, .int c, .int w, .double 0] [] σ 0 0 _
  have hH := hS.1.2.2.2
  have hn := hV.1.1.1
  have hGo := hS.2.2.1.1.1
  obtain ⟨hN, hNA⟩ := hS.2.1.2.1
  refine wp_aload_n (atd dX11_begin 0 rfl) rfl rfl ?_
  refine wp_iload_n (atd dX11_begin 1 rfl) rfl ?_
  refine wp_iload_n (atd dX11_begin 2 rfl) rfl ?_
  refine wp_iload (atd dX11_begin 3 rfl) rfl ?_
  refine wp_cVi hdd [_, _, _] (atd dX11_begin 4 rfl) iX11_rowOf lX11_202 rfl rfl (Nat.le_of_ble_eq_true rfl) hH rfl (eX11_rowOf (by omega) hV hS) (fun r_5 s_5 h_5 => ?_)
  obtain ⟨rfl, e_5⟩ := h_5
  obtain rfl := e_5.symm
  cases et : tlF S.n a b c with
  | none =>
    show Wp G mX11_begin d 8 _ (.int (-1) :: _) _ _ _ _
    refine wp_istore (atd dX11_begin 5 rfl) (Nat.le_of_ble_eq_true rfl) ?_
    refine wp_iload (atd dX11_begin 6 rfl) rfl ?_
    refine wp_iconst (v := -1) (atd dX11_begin 7 rfl) (by decide) ?_
    refine wp_icmp_eq (tgt := 37) (atd dX11_begin 8 rfl) (by decide) (fun c_13 => ?_) (fun c_13 => ?_)
    ·
      refine wp_iconst (v := -1) (atd dX11_begin 19 rfl) (by decide) ?_
      refine wp_ireti (atd dX11_begin 20 rfl) rfl ?_
      have hb : bgn S.n k a b c w = none := by unfold bgn; rw [et]; split <;> rfl
      refine ⟨by unfold bgA; rw [hb], fK.rf, ?_⟩
      rw [show S.beginF k a b c w = S from by unfold Ab.beginF; rw [hb]]
      exact hS
    · exact absurd rfl c_13
  | some t =>
    obtain ⟨h, ρ⟩ := t
    obtain ⟨hh1, hh3, hn1, hm⟩ := tl_ok hn et
    have hi := rwi_lt hm
    have hx9 := xi_lt hh1 hh3 hn hi
    obtain ⟨nx, N, NB, C, hnx, hPa, hPr⟩ := id hS.2.2.2.2.1
    show Wp G mX11_begin d 8 _ (.int (nI (xi h S.n (rwi (rowsL h S.n) ρ))) :: _) _ _ _ _
    refine wp_istore (atd dX11_begin 5 rfl) (Nat.le_of_ble_eq_true rfl) ?_
    refine wp_iload (atd dX11_begin 6 rfl) rfl ?_
    refine wp_iconst (v := -1) (atd dX11_begin 7 rfl) (by decide) ?_
    refine wp_icmp_eq (tgt := 37) (atd dX11_begin 8 rfl) (by decide) (fun c_13 => ?_) (fun c_13 => ?_)
    · exact absurd c_13 (nI_m1 (by omega))
    ·
      refine wp_iload_n (atd dX11_begin 9 rfl) rfl ?_
      refine wp_if_lt (tgt := 37) (atd dX11_begin 10 rfl) (by decide) (fun c_17 => ?_) (fun c_17 => ?_)
      ·
        refine wp_iconst (v := -1) (atd dX11_begin 19 rfl) (by decide) ?_
        refine wp_ireti (atd dX11_begin 20 rfl) rfl ?_
        have hb : bgn S.n k a b c w = none := if_neg (isP_lt0 c_17)
        refine ⟨by unfold bgA; rw [hb], fK.rf, ?_⟩
        rw [show Ab.beginF S _ a b c _ = S from by unfold Ab.beginF; rw [hb]]
        exact hS
      ·
        refine wp_iload_n (atd dX11_begin 11 rfl) rfl ?_
        refine wp_iconst (v := nI 3) (atd dX11_begin 12 rfl) (by decide) ?_
        refine wp_icmp_ge (tgt := 37) (atd dX11_begin 13 rfl) (by decide) (fun c_22 => ?_) (fun c_22 => ?_)
        ·
          refine wp_iconst (v := -1) (atd dX11_begin 19 rfl) (by decide) ?_
          refine wp_ireti (atd dX11_begin 20 rfl) rfl ?_
          have hb : bgn S.n k a b c w = none := if_neg (not_k3 c_22)
          refine ⟨by unfold bgA; rw [hb], fK.rf, ?_⟩
          rw [show Ab.beginF S _ a b c _ = S from by unfold Ab.beginF; rw [hb]]
          exact hS
        ·
          obtain ⟨kd, hkd, rfl⟩ := isP_k3 c_17 c_22
          refine wp_aload_n (atd dX11_begin 14 rfl) rfl rfl ?_
          refine wp_get fX11_19 (atd dX11_begin 15 rfl) hH rfl ?_
          refine wp_iload (atd dX11_begin 16 rfl) rfl ?_
          refine wp_cVi hdd [_] (atd dX11_begin 17 rfl) iX3_has lX11_144 rfl rfl (Nat.le_of_ble_eq_true rfl) hN rfl (eX3_has (by omega) hN hn) (fun r_31 s_31 h_31 => ?_)
          obtain ⟨rfl, e_31⟩ := h_31
          obtain rfl := e_31.symm
          refine wp_ifB_ne (tgt := 39) (atd dX11_begin 18 rfl) (by decide) (fun c_34 => ?_) (fun c_34 => ?_)
          ·
            obtain ⟨p, hp, rfl⟩ := isP_ofB c_34
            refine wp_aload_n (atd dX11_begin 21 rfl) rfl rfl ?_
            refine wp_get fX11_79 (atd dX11_begin 22 rfl) hH rfl ?_
            refine wp_aload_n (atd dX11_begin 23 rfl) rfl rfl ?_
            refine wp_get fX11_19 (atd dX11_begin 24 rfl) hH rfl ?_
            refine wp_aload_n (atd dX11_begin 25 rfl) rfl rfl ?_
            refine wp_get fX11_72 (atd dX11_begin 26 rfl) hH rfl ?_
            refine wp_cVv hdd [_, _] (atd dX11_begin 27 rfl) iX4_keep lX11_255 rfl rfl (Nat.le_of_ble_eq_true rfl) hPa rfl (eX4_keepC (by omega) hV hS) (fun s_51 h_51 => ?_)
            obtain ⟨f_51, hS, hk1⟩ := h_51
            have hH := hS.1.2.2.2
            obtain ⟨c0, hSt, hcz, hcs⟩ := id hS.2.2.2.1
            refine wp_aload_n (atd dX11_begin 28 rfl) rfl rfl ?_
            refine wp_get fX11_72 (atd dX11_begin 29 rfl) hH rfl ?_
            refine wp_iload_n (atd dX11_begin 30 rfl) rfl ?_
            refine wp_iload (atd dX11_begin 31 rfl) rfl ?_
            refine wp_iload (atd dX11_begin 32 rfl) rfl ?_
            refine wp_cVv hdd [_, _, _] (atd dX11_begin 33 rfl) iX6_open lX11_259 rfl rfl (Nat.le_of_ble_eq_true rfl) hSt rfl (eX6_open (by omega) hSt) (fun s_63 h_63 => ?_)
            obtain ⟨f_63, hSt⟩ := h_63
            obtain ⟨hS, hk2⟩ := CSt.scn (sc := some (Scn.mk kd h ρ p 0 (nI 0))) hS f_63 (cSce_of (S := S.act S.sc) (sc := Scn.mk kd h ρ p 0 (nI 0)) hSt (Nat.zero_le _))
            have hH := hS.1.2.2.2
            refine wp_iload (atd dX11_begin 34 rfl) rfl ?_
            refine wp_cSi hdd [_] (atd dX11_begin 35 rfl) iX5_huntersOf lX11_206 rfl rfl (Nat.le_of_ble_eq_true rfl) (eX5_huntersOf (by omega) hx9) (fun r_68 s_68 h_68 => ?_)
            obtain ⟨rfl, e_68⟩ := h_68
            obtain rfl := e_68.symm
            rw [hOf_xi hh1 hh3 hn hi]
            refine wp_ireti (atd dX11_begin 36 rfl) rfl ?_
            have hb : bgn S.n (nI kd) a b c (nI p) = some (kd, h, ρ, p) := by unfold bgn; rw [if_pos ((isP_nI (by omega)).mpr hkd), et]; show (if isP (nI p) S.n then some ((nI kd).toNatClampNeg, h, ρ, (nI p).toNatClampNeg) else none) = _; rw [if_pos ((isP_nI (by omega)).mpr hp), nI_clamp (by omega), nI_clamp (by omega)]
            refine ⟨by unfold bgA; rw [hb], hk1.tr hk2, ?_⟩
            rw [show S.beginF (nI kd) a b c (nI p) = S.act (some (Scn.mk kd h ρ p 0 (nI 0))) from by unfold Ab.beginF; rw [hb]]
            exact hS
          ·
            refine wp_iconst (v := -1) (atd dX11_begin 19 rfl) (by decide) ?_
            refine wp_ireti (atd dX11_begin 20 rfl) rfl ?_
            have hb : bgn S.n (nI kd) a b c w = none := by unfold bgn; rw [if_pos ((isP_nI (by omega)).mpr hkd), et]; exact if_neg c_34
            refine ⟨by unfold bgA; rw [hb], fK.rf, ?_⟩
            rw [show Ab.beginF S _ a b c _ = S from by unfold Ab.beginF; rw [hb]]
            exact hS
theorem vX11_hunt {G : Gx} {d : Nat} {σ : Hp} (hd : 5 ≤ d) {S : Ab} {mk : Nat → Option Nat} {T : Nat} (hV : AbV S) (hS : CSt S σ mk T) (hT0 : T + 2 < 2 ^ 31) {x y z : Int32} : Cl G mX11_hunt d [.ref 0, .int x, .int y, .int z] σ 0 0 (pI fun r s => r = aHunt S x y z ∧ fK σ s ∧ CSt (S.huntF x y z) s mk (T + 1)) := by
  obtain ⟨d0, hdd⟩ : ∃ e, d = e + 1 := ⟨d - 1, by omega⟩
  refine cl_of (by decide) (by simp [Value.category]) (Nat.le_of_ble_eq_true rfl) ?_
  show Wp G mX11_hunt d 0 [.ref 0, .int x, .int y, .int z, .double 0] [] σ 0 0 _
  have hH := hS.1.2.2.2
  have hn := hV.1.1.1
  have hGo := hS.2.2.1.1.1
  obtain ⟨hN, hNA⟩ := hS.2.1.2.1
  refine wp_aload_n (atd dX11_hunt 0 rfl) rfl rfl ?_
  refine wp_iload_n (atd dX11_hunt 1 rfl) rfl ?_
  refine wp_iload_n (atd dX11_hunt 2 rfl) rfl ?_
  refine wp_iload_n (atd dX11_hunt 3 rfl) rfl ?_
  refine wp_cVi hdd [_, _, _] (atd dX11_hunt 4 rfl) iX11_rowOf lX11_202 rfl rfl (Nat.le_of_ble_eq_true rfl) hH rfl (eX11_rowOf (by omega) hV hS) (fun r_4 s_4 h_4 => ?_)
  obtain ⟨rfl, e_4⟩ := h_4
  obtain rfl := e_4.symm
  cases et : tlF S.n x y z with
  | none =>
    show Wp G mX11_hunt d 7 _ (.int (-1) :: _) _ _ _ _
    refine wp_istore (atd dX11_hunt 5 rfl) (Nat.le_of_ble_eq_true rfl) ?_
    refine wp_iload (atd dX11_hunt 6 rfl) rfl ?_
    refine wp_iconst (v := -1) (atd dX11_hunt 7 rfl) (by decide) ?_
    refine wp_icmp_eq (tgt := 42) (atd dX11_hunt 8 rfl) (by decide) (fun c_12 => ?_) (fun c_12 => ?_)
    ·
      refine wp_iconst (v := nI 0) (atd dX11_hunt 20 rfl) (by decide) ?_
      refine wp_iretz (atd dX11_hunt 21 rfl) rfl (by first | rfl | decide) ?_
      cases he : S.sc with
      | none =>
        refine ⟨by unfold aHunt; rw [he], fK.rf, ?_⟩
        rw [show S.huntF x y z = S from by unfold Ab.huntF; rw [he]]
        exact CSt_T hS (by omega)
      | some e =>
        have hb : htR S.nb S.n e.kd e.h e.ρ e.p e.t x y z = none := by unfold htR; rw [et]; split <;> rfl
        refine ⟨by unfold aHunt; rw [he]; simp only [hb]; rfl, fK.rf, ?_⟩
        rw [show S.huntF x y z = S from by unfold Ab.huntF; rw [he]; simp only [hb]]
        exact CSt_T hS (by omega)
    · exact absurd rfl c_12
  | some t =>
    obtain ⟨h, ρ⟩ := t
    cases he : S.sc with
    | none =>
      obtain ⟨c, hSt, -, h3⟩ := hS.2.2.2.1
      rw [he] at h3
      have h3 : c 0 = nI 0 := h3
      unfold scF at hSt
      rw [h3] at hSt
      obtain ⟨g1, g3, hn1, gm⟩ := tl_ok hn et
      have hy9 := xi_lt g1 g3 hn (rwi_lt gm)
      show Wp G mX11_hunt d 7 _ (.int (nI (xi h S.n (rwi (rowsL h S.n) ρ))) :: _) _ _ _ _
      refine wp_istore (atd dX11_hunt 5 rfl) (Nat.le_of_ble_eq_true rfl) ?_
      refine wp_iload (atd dX11_hunt 6 rfl) rfl ?_
      refine wp_iconst (v := -1) (atd dX11_hunt 7 rfl) (by decide) ?_
      refine wp_icmp_eq (tgt := 42) (atd dX11_hunt 8 rfl) (by decide) (fun c_12 => ?_) (fun c_12 => ?_)
      · exact absurd c_12 (nI_m1 (by omega))
      ·
        refine wp_aload_n (atd dX11_hunt 9 rfl) rfl rfl ?_
        refine wp_get fX11_72 (atd dX11_hunt 10 rfl) hH rfl ?_
        refine wp_get fX11_103 (atd dX11_hunt 11 rfl) hSt rfl ?_
        refine wp_ifN_eq (tgt := 42) (atd dX11_hunt 12 rfl) (by decide) (by omega) (fun c_22 => ?_) (fun c_22 => ?_)
        ·
          refine wp_iconst (v := nI 0) (atd dX11_hunt 20 rfl) (by decide) ?_
          refine wp_iretz (atd dX11_hunt 21 rfl) rfl (by first | rfl | decide) ?_
          refine ⟨by unfold aHunt; rw [he], fK.rf, ?_⟩
          rw [show S.huntF x y z = S from by unfold Ab.huntF; rw [he]]
          exact CSt_T hS (by omega)
        · exact absurd c_22 (by decide)
    | some e =>
      obtain ⟨hTz, hLz, tz, lz, hFS, htz⟩ := hS.2.2.1.1.2.2.1
      have hRo := hFS.ob
      have hSt := st_on hS he
      obtain ⟨⟨hkd, hh1, hh3, hm, hp, ht⟩, hi, hx9, hho, hsd⟩ := xS_ok hV he
      obtain ⟨g1, g3, hn1, gm⟩ := tl_ok hn et
      have hy9 := xi_lt g1 g3 hn (rwi_lt gm)
      obtain ⟨hm1, hm2, hm3⟩ := xi_mem hh1 hh3 hn hi
      show Wp G mX11_hunt d 7 _ (.int (nI (xi h S.n (rwi (rowsL h S.n) ρ))) :: _) _ _ _ _
      refine wp_istore (atd dX11_hunt 5 rfl) (Nat.le_of_ble_eq_true rfl) ?_
      refine wp_iload (atd dX11_hunt 6 rfl) rfl ?_
      refine wp_iconst (v := -1) (atd dX11_hunt 7 rfl) (by decide) ?_
      refine wp_icmp_eq (tgt := 42) (atd dX11_hunt 8 rfl) (by decide) (fun c_12 => ?_) (fun c_12 => ?_)
      · exact absurd c_12 (nI_m1 (by omega))
      ·
        refine wp_aload_n (atd dX11_hunt 9 rfl) rfl rfl ?_
        refine wp_get fX11_72 (atd dX11_hunt 10 rfl) hH rfl ?_
        refine wp_get fX11_103 (atd dX11_hunt 11 rfl) hSt rfl ?_
        refine wp_ifN_eq (tgt := 42) (atd dX11_hunt 12 rfl) (by decide) (by omega) (fun c_22 => ?_) (fun c_22 => ?_)
        · exact absurd c_22 (by decide)
        ·
          refine wp_aload_n (atd dX11_hunt 13 rfl) rfl rfl ?_
          refine wp_get fX11_72 (atd dX11_hunt 14 rfl) hH rfl ?_
          refine wp_get fX11_272 (atd dX11_hunt 15 rfl) hSt rfl ?_
          refine wp_ifN_ne (tgt := 42) (atd dX11_hunt 16 rfl) (by decide) (by omega) (fun c_32 => ?_) (fun c_32 => ?_)
          ·
            refine wp_iconst (v := nI 0) (atd dX11_hunt 20 rfl) (by decide) ?_
            refine wp_iretz (atd dX11_hunt 21 rfl) rfl (by first | rfl | decide) ?_
            have hb : htR S.nb S.n e.kd e.h e.ρ e.p e.t x y z = none := if_pos (Or.inr (by omega))
            refine ⟨by unfold aHunt; rw [he]; simp only [hb]; rfl, fK.rf, ?_⟩
            rw [show S.huntF x y z = S from by unfold Ab.huntF; rw [he]; simp only [hb]]
            exact CSt_T hS (by omega)
          ·
            refine wp_aload_n (atd dX11_hunt 17 rfl) rfl rfl ?_
            refine wp_cVi hdd [] (atd dX11_hunt 18 rfl) iX11_isCaught lX11_278 rfl rfl (Nat.le_of_ble_eq_true rfl) hH rfl (eX11_isCaught (by omega) hV hS he) (fun r_36 s_36 h_36 => ?_)
            obtain ⟨rfl, e_36⟩ := h_36
            obtain rfl := e_36.symm
            refine wp_ifB_eq (tgt := 44) (atd dX11_hunt 19 rfl) (by decide) (fun c_39 => ?_) (fun c_39 => ?_)
            ·
              refine wp_aload_n (atd dX11_hunt 22 rfl) rfl rfl ?_
              refine wp_get fX11_38 (atd dX11_hunt 23 rfl) hH rfl ?_
              refine wp_get fX11_58 (atd dX11_hunt 24 rfl) hGo rfl ?_
              refine wp_aload_n (atd dX11_hunt 25 rfl) rfl rfl ?_
              refine wp_get fX11_72 (atd dX11_hunt 26 rfl) hH rfl ?_
              refine wp_get fX11_266 (atd dX11_hunt 27 rfl) hSt rfl ?_
              refine wp_iload (atd dX11_hunt 28 rfl) rfl ?_
              refine wp_aload_n (atd dX11_hunt 29 rfl) rfl rfl ?_
              refine wp_get fX11_72 (atd dX11_hunt 30 rfl) hH rfl ?_
              refine wp_get fX11_263 (atd dX11_hunt 31 rfl) hSt rfl ?_
              refine wp_iconst (v := nI 1) (atd dX11_hunt 32 rfl) (by decide) ?_
              refine wp_icmpN_ne (tgt := 75) (atd dX11_hunt 33 rfl) (by decide) (by omega) (by omega) (fun c_68 => ?_) (fun c_68 => ?_)
              ·
                refine wp_iconst (v := nI 0) (atd dX11_hunt 36 rfl) (by decide) ?_
                refine wp_cVi hdd [_, _, _] (atd dX11_hunt 37 rfl) iX5_leads lX11_299 rfl rfl (Nat.le_of_ble_eq_true rfl) hRo rfl (by have h := eX5_leads (G := G) (d := d0) (lz := e.kd = 1) (by omega) hTz hLz hFS hx9 rfl rfl rfl (gdX_on hV.1.1 hh1 hh3 hm1 hm2 hm3) (frN_le e.h hh1 hh3).2.1 (frN_le e.h hh1 hh3).1 (by omega) hy9; rw [bI_f c_68] at h; exact h) (fun r_76 s_76 h_76 => ?_)
                obtain ⟨⟨hdc, rfl⟩, f_76, hTz, hLz, l9, hFS⟩ := h_76
                obtain ⟨hS, hK0⟩ := CSt_rows (T2 := T + 1) hS f_76 (by omega) ⟨hTz, hLz, tz + 1, l9, hFS, by omega⟩
                have hH := hS.1.2.2.2
                obtain ⟨nx, N, NB, C, hnx, hPa, hPr⟩ := id hS.2.2.2.2.1
                refine wp_ifB_ne (tgt := 84) (atd dX11_hunt 38 rfl) (by decide) (fun c_79 => ?_) (fun c_79 => ?_)
                ·
                  refine wp_aload_n (atd dX11_hunt 41 rfl) rfl rfl ?_
                  refine wp_get fX11_79 (atd dX11_hunt 42 rfl) hH rfl ?_
                  refine wp_aload_n (atd dX11_hunt 43 rfl) rfl rfl ?_
                  refine wp_get fX11_19 (atd dX11_hunt 44 rfl) hH rfl ?_
                  refine wp_aload_n (atd dX11_hunt 45 rfl) rfl rfl ?_
                  refine wp_get fX11_72 (atd dX11_hunt 46 rfl) hH rfl ?_
                  refine wp_cVv hdd [_, _] (atd dX11_hunt 47 rfl) iX4_keep lX11_255 rfl rfl (Nat.le_of_ble_eq_true rfl) hPa rfl (eX4_keepC (by omega) hV hS) (fun s_96 h_96 => ?_)
                  obtain ⟨f_96, hS, hk1⟩ := h_96
                  have hH := hS.1.2.2.2
                  have hSt := st_on (S := S.act S.sc) (e := e) hS he
                  have hSt : OB _ 43 6 (scF (sc6 (nI 1) (nI e.kd) (nI (xS S.n e)) (nI e.p) (nI e.t) e.b)) := hSt
                  refine wp_aload_n (atd dX11_hunt 48 rfl) rfl rfl ?_
                  refine wp_get fX11_72 (atd dX11_hunt 49 rfl) hH rfl ?_
                  refine wp_iload (atd dX11_hunt 50 rfl) rfl ?_
                  refine wp_cVv hdd [_] (atd dX11_hunt 51 rfl) iX6_huntersGo lX11_303 rfl rfl (Nat.le_of_ble_eq_true rfl) hSt rfl (eX6_huntersGo (by omega) hSt) (fun s_105 h_105 => ?_)
                  obtain ⟨f_105, hSt⟩ := h_105
                  obtain ⟨rfl, hcm⟩ := (leads_iff hV.1.1 hh1 hh3 g1 g3 hm gm).mp c_79
                  obtain ⟨hS, hk2⟩ := CSt.scn (sc := some (Scn.mk e.kd e.h ρ e.p 1 (e.b + nI 1))) hS f_105 (cSce_of (S := S.act S.sc) (sc := Scn.mk e.kd e.h ρ e.p 1 (e.b + nI 1)) hSt (Nat.le_refl _))
                  refine wp_iconst (v := nI 1) (atd dX11_hunt 52 rfl) (by decide) ?_
                  refine wp_iretz (atd dX11_hunt 53 rfl) rfl (by first | rfl | decide) ?_
                  have hb : htR S.nb S.n e.kd e.h e.ρ e.p e.t x y z = some ρ := by unfold htR; rw [if_neg (fun q => q.elim c_39 (fun q => by omega)), et]; exact if_pos ⟨rfl, hcm⟩
                  refine ⟨by unfold aHunt; rw [he]; simp only [hb]; rfl, hK0.tr (hk1.tr hk2), ?_⟩
                  rw [show S.huntF x y z = S.act (some (Scn.mk e.kd e.h ρ e.p 1 (e.b + nI 1))) from by unfold Ab.huntF; rw [he]; simp only [hb]]
                  exact hS
                ·
                  refine wp_iconst (v := nI 0) (atd dX11_hunt 39 rfl) (by decide) ?_
                  refine wp_iretz (atd dX11_hunt 40 rfl) rfl (by first | rfl | decide) ?_
                  have hb : htR S.nb S.n e.kd e.h e.ρ e.p e.t x y z = none := by unfold htR; rw [if_neg (fun q => q.elim c_39 (fun q => by omega)), et]; exact if_neg (fun q => c_79 ((leads_iff hV.1.1 hh1 hh3 g1 g3 hm gm).mpr q))
                  refine ⟨by unfold aHunt; rw [he]; simp only [hb]; rfl, hK0, ?_⟩
                  rw [show S.huntF x y z = S from by unfold Ab.huntF; rw [he]; simp only [hb]]
                  exact hS
              ·
                refine wp_iconst (v := nI 1) (atd dX11_hunt 34 rfl) (by decide) ?_
                refine wp_goto (tgt := 76) (atd dX11_hunt 35 rfl) (by decide) ?_
                refine wp_cVi hdd [_, _, _] (atd dX11_hunt 37 rfl) iX5_leads lX11_299 rfl rfl (Nat.le_of_ble_eq_true rfl) hRo rfl (by have h := eX5_leads (G := G) (d := d0) (lz := e.kd = 1) (by omega) hTz hLz hFS hx9 rfl rfl rfl (gdX_on hV.1.1 hh1 hh3 hm1 hm2 hm3) (frN_le e.h hh1 hh3).2.1 (frN_le e.h hh1 hh3).1 (by omega) hy9; rw [bI_t c_68] at h; exact h) (fun r_76 s_76 h_76 => ?_)
                obtain ⟨⟨hdc, rfl⟩, f_76, hTz, hLz, l9, hFS⟩ := h_76
                obtain ⟨hS, hK0⟩ := CSt_rows (T2 := T + 1) hS f_76 (by omega) ⟨hTz, hLz, tz + 1, l9, hFS, by omega⟩
                have hH := hS.1.2.2.2
                obtain ⟨nx, N, NB, C, hnx, hPa, hPr⟩ := id hS.2.2.2.2.1
                refine wp_ifB_ne (tgt := 84) (atd dX11_hunt 38 rfl) (by decide) (fun c_79 => ?_) (fun c_79 => ?_)
                ·
                  refine wp_aload_n (atd dX11_hunt 41 rfl) rfl rfl ?_
                  refine wp_get fX11_79 (atd dX11_hunt 42 rfl) hH rfl ?_
                  refine wp_aload_n (atd dX11_hunt 43 rfl) rfl rfl ?_
                  refine wp_get fX11_19 (atd dX11_hunt 44 rfl) hH rfl ?_
                  refine wp_aload_n (atd dX11_hunt 45 rfl) rfl rfl ?_
                  refine wp_get fX11_72 (atd dX11_hunt 46 rfl) hH rfl ?_
                  refine wp_cVv hdd [_, _] (atd dX11_hunt 47 rfl) iX4_keep lX11_255 rfl rfl (Nat.le_of_ble_eq_true rfl) hPa rfl (eX4_keepC (by omega) hV hS) (fun s_96 h_96 => ?_)
                  obtain ⟨f_96, hS, hk1⟩ := h_96
                  have hH := hS.1.2.2.2
                  have hSt := st_on (S := S.act S.sc) (e := e) hS he
                  have hSt : OB _ 43 6 (scF (sc6 (nI 1) (nI e.kd) (nI (xS S.n e)) (nI e.p) (nI e.t) e.b)) := hSt
                  refine wp_aload_n (atd dX11_hunt 48 rfl) rfl rfl ?_
                  refine wp_get fX11_72 (atd dX11_hunt 49 rfl) hH rfl ?_
                  refine wp_iload (atd dX11_hunt 50 rfl) rfl ?_
                  refine wp_cVv hdd [_] (atd dX11_hunt 51 rfl) iX6_huntersGo lX11_303 rfl rfl (Nat.le_of_ble_eq_true rfl) hSt rfl (eX6_huntersGo (by omega) hSt) (fun s_105 h_105 => ?_)
                  obtain ⟨f_105, hSt⟩ := h_105
                  obtain ⟨rfl, hcm⟩ := (leads_iff hV.1.1 hh1 hh3 g1 g3 hm gm).mp c_79
                  obtain ⟨hS, hk2⟩ := CSt.scn (sc := some (Scn.mk e.kd e.h ρ e.p 1 (e.b + nI 1))) hS f_105 (cSce_of (S := S.act S.sc) (sc := Scn.mk e.kd e.h ρ e.p 1 (e.b + nI 1)) hSt (Nat.le_refl _))
                  refine wp_iconst (v := nI 1) (atd dX11_hunt 52 rfl) (by decide) ?_
                  refine wp_iretz (atd dX11_hunt 53 rfl) rfl (by first | rfl | decide) ?_
                  have hb : htR S.nb S.n e.kd e.h e.ρ e.p e.t x y z = some ρ := by unfold htR; rw [if_neg (fun q => q.elim c_39 (fun q => by omega)), et]; exact if_pos ⟨rfl, hcm⟩
                  refine ⟨by unfold aHunt; rw [he]; simp only [hb]; rfl, hK0.tr (hk1.tr hk2), ?_⟩
                  rw [show S.huntF x y z = S.act (some (Scn.mk e.kd e.h ρ e.p 1 (e.b + nI 1))) from by unfold Ab.huntF; rw [he]; simp only [hb]]
                  exact hS
                ·
                  refine wp_iconst (v := nI 0) (atd dX11_hunt 39 rfl) (by decide) ?_
                  refine wp_iretz (atd dX11_hunt 40 rfl) rfl (by first | rfl | decide) ?_
                  have hb : htR S.nb S.n e.kd e.h e.ρ e.p e.t x y z = none := by unfold htR; rw [if_neg (fun q => q.elim c_39 (fun q => by omega)), et]; exact if_neg (fun q => c_79 ((leads_iff hV.1.1 hh1 hh3 g1 g3 hm gm).mpr q))
                  refine ⟨by unfold aHunt; rw [he]; simp only [hb]; rfl, hK0, ?_⟩
                  rw [show S.huntF x y z = S from by unfold Ab.huntF; rw [he]; simp only [hb]]
                  exact hS
            ·
              refine wp_iconst (v := nI 0) (atd dX11_hunt 20 rfl) (by decide) ?_
              refine wp_iretz (atd dX11_hunt 21 rfl) rfl (by first | rfl | decide) ?_
              have hb : htR S.nb S.n e.kd e.h e.ρ e.p e.t x y z = none := if_pos (Or.inl c_39)
              refine ⟨by unfold aHunt; rw [he]; simp only [hb]; rfl, fK.rf, ?_⟩
              rw [show S.huntF x y z = S from by unfold Ab.huntF; rw [he]; simp only [hb]]
              exact CSt_T hS (by omega)
theorem vX11_run {G : Gx} {d : Nat} {σ : Hp} (hd : 3 ≤ d) {S : Ab} {mk : Nat → Option Nat} {T : Nat} (hV : AbV S) (hS : CSt S σ mk T) {w : Int32} : Cl G mX11_run d [.ref 0, .int w] σ 0 0 (pI fun r s => r = aRun S w ∧ fK σ s ∧ CSt (S.runF w) s mk T) := by
  obtain ⟨d0, hdd⟩ : ∃ e, d = e + 1 := ⟨d - 1, by omega⟩
  refine cl_of (by decide) (by simp [Value.category]) (Nat.le_of_ble_eq_true rfl) ?_
  show Wp G mX11_run d 0 [.ref 0, .int w] [] σ 0 0 _
  have hH := hS.1.2.2.2
  have hn := hV.1.1.1
  have hGo := hS.2.2.1.1.1
  obtain ⟨hN, hNA⟩ := hS.2.1.2.1
  cases he : S.sc with
  | none =>
    obtain ⟨c, hSt, -, h3⟩ := hS.2.2.2.1
    rw [he] at h3
    have h3 : c 0 = nI 0 := h3
    unfold scF at hSt
    rw [h3] at hSt
    refine wp_aload_n (atd dX11_run 0 rfl) rfl rfl ?_
    refine wp_get fX11_19 (atd dX11_run 1 rfl) hH rfl ?_
    refine wp_iload_n (atd dX11_run 2 rfl) rfl ?_
    refine wp_cVi hdd [_] (atd dX11_run 3 rfl) iX3_has lX11_144 rfl rfl (Nat.le_of_ble_eq_true rfl) hN rfl (eX3_has (by omega) hN hn) (fun r_5 s_5 h_5 => ?_)
    obtain ⟨rfl, e_5⟩ := h_5
    obtain rfl := e_5.symm
    refine wp_ifB_eq (tgt := 38) (atd dX11_run 4 rfl) (by decide) (fun c_8 => ?_) (fun c_8 => ?_)
    ·
      refine wp_iconst (v := nI 0) (atd dX11_run 16 rfl) (by decide) ?_
      refine wp_iretz (atd dX11_run 17 rfl) rfl (by first | rfl | decide) ?_
      refine ⟨by unfold aRun; rw [he], fK.rf, ?_⟩
      rw [show Ab.runF S _ = S from by unfold Ab.runF; rw [he]]
      exact hS
    ·
      refine wp_aload_n (atd dX11_run 5 rfl) rfl rfl ?_
      refine wp_get fX11_72 (atd dX11_run 6 rfl) hH rfl ?_
      refine wp_get fX11_103 (atd dX11_run 7 rfl) hSt rfl ?_
      refine wp_ifN_eq (tgt := 38) (atd dX11_run 8 rfl) (by decide) (by omega) (fun c_18 => ?_) (fun c_18 => ?_)
      ·
        refine wp_iconst (v := nI 0) (atd dX11_run 16 rfl) (by decide) ?_
        refine wp_iretz (atd dX11_run 17 rfl) rfl (by first | rfl | decide) ?_
        refine ⟨by unfold aRun; rw [he], fK.rf, ?_⟩
        rw [show Ab.runF S _ = S from by unfold Ab.runF; rw [he]]
        exact hS
      · exact absurd c_18 (by decide)
  | some e =>
    obtain ⟨hTz, hLz, tz, lz, hFS, htz⟩ := hS.2.2.1.1.2.2.1
    have hRo := hFS.ob
    have hSt := st_on hS he
    obtain ⟨⟨hkd, hh1, hh3, hm, hp, ht⟩, hi, hx9, hho, hsd⟩ := xS_ok hV he
    obtain ⟨nx, N, NB, C, hnx, hPa, hPr⟩ := id hS.2.2.2.2.1
    refine wp_aload_n (atd dX11_run 0 rfl) rfl rfl ?_
    refine wp_get fX11_19 (atd dX11_run 1 rfl) hH rfl ?_
    refine wp_iload_n (atd dX11_run 2 rfl) rfl ?_
    refine wp_cVi hdd [_] (atd dX11_run 3 rfl) iX3_has lX11_144 rfl rfl (Nat.le_of_ble_eq_true rfl) hN rfl (eX3_has (by omega) hN hn) (fun r_5 s_5 h_5 => ?_)
    obtain ⟨rfl, e_5⟩ := h_5
    obtain rfl := e_5.symm
    refine wp_ifB_eq (tgt := 38) (atd dX11_run 4 rfl) (by decide) (fun c_8 => ?_) (fun c_8 => ?_)
    ·
      refine wp_iconst (v := nI 0) (atd dX11_run 16 rfl) (by decide) ?_
      refine wp_iretz (atd dX11_run 17 rfl) rfl (by first | rfl | decide) ?_
      have hno : ¬ rnOk S.nb S.n e.kd e.h e.ρ e.p e.t w := fun z => c_8 z.2.2.1
      refine ⟨by unfold aRun; rw [he]; exact (bI_f hno).symm, fK.rf, ?_⟩
      rw [show Ab.runF S _ = S from by unfold Ab.runF; rw [he]; exact if_neg hno]
      exact hS
    ·
      obtain ⟨q, hq, rfl⟩ := isP_ofB c_8
      refine wp_aload_n (atd dX11_run 5 rfl) rfl rfl ?_
      refine wp_get fX11_72 (atd dX11_run 6 rfl) hH rfl ?_
      refine wp_get fX11_103 (atd dX11_run 7 rfl) hSt rfl ?_
      refine wp_ifN_eq (tgt := 38) (atd dX11_run 8 rfl) (by decide) (by omega) (fun c_18 => ?_) (fun c_18 => ?_)
      · exact absurd c_18 (by decide)
      ·
        refine wp_aload_n (atd dX11_run 9 rfl) rfl rfl ?_
        refine wp_get fX11_72 (atd dX11_run 10 rfl) hH rfl ?_
        refine wp_get fX11_272 (atd dX11_run 11 rfl) hSt rfl ?_
        refine wp_ifN_eq (tgt := 38) (atd dX11_run 12 rfl) (by decide) (by omega) (fun c_28 => ?_) (fun c_28 => ?_)
        ·
          refine wp_iconst (v := nI 0) (atd dX11_run 16 rfl) (by decide) ?_
          refine wp_iretz (atd dX11_run 17 rfl) rfl (by first | rfl | decide) ?_
          have hno : ¬ rnOk S.nb S.n e.kd e.h e.ρ e.p e.t (nI q) := fun z => z.2.1 c_28
          refine ⟨by unfold aRun; rw [he]; exact (bI_f hno).symm, fK.rf, ?_⟩
          rw [show Ab.runF S _ = S from by unfold Ab.runF; rw [he]; exact if_neg hno]
          exact hS
        ·
          refine wp_aload_n (atd dX11_run 13 rfl) rfl rfl ?_
          refine wp_cVi hdd [] (atd dX11_run 14 rfl) iX11_isCaught lX11_278 rfl rfl (Nat.le_of_ble_eq_true rfl) hH rfl (eX11_isCaught (by omega) hV hS he) (fun r_32 s_32 h_32 => ?_)
          obtain ⟨rfl, e_32⟩ := h_32
          obtain rfl := e_32.symm
          refine wp_ifB_eq (tgt := 40) (atd dX11_run 15 rfl) (by decide) (fun c_35 => ?_) (fun c_35 => ?_)
          ·
            refine wp_aload_n (atd dX11_run 18 rfl) rfl rfl ?_
            refine wp_get fX11_38 (atd dX11_run 19 rfl) hH rfl ?_
            refine wp_aload_n (atd dX11_run 20 rfl) rfl rfl ?_
            refine wp_get fX11_72 (atd dX11_run 21 rfl) hH rfl ?_
            refine wp_get fX11_263 (atd dX11_run 22 rfl) hSt rfl ?_
            refine wp_aload_n (atd dX11_run 23 rfl) rfl rfl ?_
            refine wp_get fX11_72 (atd dX11_run 24 rfl) hH rfl ?_
            refine wp_get fX11_266 (atd dX11_run 25 rfl) hSt rfl ?_
            refine wp_aload_n (atd dX11_run 26 rfl) rfl rfl ?_
            refine wp_get fX11_72 (atd dX11_run 27 rfl) hH rfl ?_
            refine wp_get fX11_269 (atd dX11_run 28 rfl) hSt rfl ?_
            refine wp_cVi hdd [_, _, _] (atd dX11_run 29 rfl) iX2_reach lX11_306 rfl rfl (Nat.le_of_ble_eq_true rfl) hGo rfl (eX2_reach (by omega) hN hNA hn (net_lt hV.1) hGo hRo hTz hkd hx9 (by omega)) (fun r_65 s_65 h_65 => ?_)
            obtain ⟨rfl, e_65⟩ := h_65
            obtain rfl := e_65.symm
            refine wp_iload_n (atd dX11_run 30 rfl) rfl ?_
            refine wp_ishrN (atd dX11_run 31 rfl) (by have := rch_lt (net_lt hV.1) e.kd (sdC (xS S.n e)) e.p; omega) (by omega) ?_
            refine wp_iconst (v := nI 1) (atd dX11_run 32 rfl) (by decide) ?_
            refine wp_iandN (atd dX11_run 33 rfl) ?_
            refine wp_ifN_ne (tgt := 77) (atd dX11_run 34 rfl) (by decide) (by have := and1_lt (rch S.nb e.kd (sdC (xS S.n e)) e.p >>> q); omega) (fun c_72 => ?_) (fun c_72 => ?_)
            ·
              refine wp_aload_n (atd dX11_run 37 rfl) rfl rfl ?_
              refine wp_get fX11_79 (atd dX11_run 38 rfl) hH rfl ?_
              refine wp_aload_n (atd dX11_run 39 rfl) rfl rfl ?_
              refine wp_get fX11_19 (atd dX11_run 40 rfl) hH rfl ?_
              refine wp_aload_n (atd dX11_run 41 rfl) rfl rfl ?_
              refine wp_get fX11_72 (atd dX11_run 42 rfl) hH rfl ?_
              refine wp_cVv hdd [_, _] (atd dX11_run 43 rfl) iX4_keep lX11_255 rfl rfl (Nat.le_of_ble_eq_true rfl) hPa rfl (eX4_keepC (by omega) hV hS) (fun s_89 h_89 => ?_)
              obtain ⟨f_89, hS, hk1⟩ := h_89
              have hH := hS.1.2.2.2
              have hSt := st_on (S := S.act S.sc) (e := e) hS he
              have hSt : OB _ 43 6 (scF (sc6 (nI 1) (nI e.kd) (nI (xS S.n e)) (nI e.p) (nI e.t) e.b)) := hSt
              refine wp_aload_n (atd dX11_run 44 rfl) rfl rfl ?_
              refine wp_get fX11_72 (atd dX11_run 45 rfl) hH rfl ?_
              refine wp_iload_n (atd dX11_run 46 rfl) rfl ?_
              refine wp_cVv hdd [_] (atd dX11_run 47 rfl) iX6_runnerGoes lX11_309 rfl rfl (Nat.le_of_ble_eq_true rfl) hSt rfl (eX6_runnerGoes (by omega) hSt) (fun s_97 h_97 => ?_)
              obtain ⟨f_97, hSt⟩ := h_97
              obtain ⟨hS, hk2⟩ := CSt.scn (sc := some (Scn.mk e.kd e.h e.ρ q 0 e.b)) hS f_97 (cSce_of (S := S.act S.sc) (sc := Scn.mk e.kd e.h e.ρ q 0 e.b) hSt (Nat.zero_le _))
              refine wp_iconst (v := nI 1) (atd dX11_run 48 rfl) (by decide) ?_
              refine wp_iretz (atd dX11_run 49 rfl) rfl (by first | rfl | decide) ?_
              have hyes : rnOk S.nb S.n e.kd e.h e.ρ e.p e.t (nI q) := ⟨by cases hb : (std e.h e.ρ).testBit e.p with | false => rfl | true => exact absurd hb c_35, Nat.pos_iff_ne_zero.mp c_28, (isP_nI (by omega)).mpr hq, by rw [nI_clamp (by omega), ← hsd, ← rch_rns hV.1]; exact tb_val1 (Nat.pos_iff_ne_zero.mp c_72)⟩
              refine ⟨by unfold aRun; rw [he]; exact (bI_t hyes).symm, hk1.tr hk2, ?_⟩
              rw [show Ab.runF S (nI q) = S.act (some (Scn.mk e.kd e.h e.ρ q 0 e.b)) from by unfold Ab.runF; rw [he]; refine (if_pos hyes).trans ?_; rw [nI_clamp (by omega)]]
              exact hS
            ·
              refine wp_iconst (v := nI 0) (atd dX11_run 35 rfl) (by decide) ?_
              refine wp_iretz (atd dX11_run 36 rfl) rfl (by first | rfl | decide) ?_
              have hno : ¬ rnOk S.nb S.n e.kd e.h e.ρ e.p e.t (nI q) := fun z => by have := z.2.2.2; rw [nI_clamp (by omega), ← hsd, ← rch_rns hV.1, (tb_z _ _).mp c_72] at this; cases this
              refine ⟨by unfold aRun; rw [he]; exact (bI_f hno).symm, fK.rf, ?_⟩
              rw [show Ab.runF S _ = S from by unfold Ab.runF; rw [he]; exact if_neg hno]
              exact hS
          ·
            refine wp_iconst (v := nI 0) (atd dX11_run 16 rfl) (by decide) ?_
            refine wp_iretz (atd dX11_run 17 rfl) rfl (by first | rfl | decide) ?_
            have hno : ¬ rnOk S.nb S.n e.kd e.h e.ρ e.p e.t (nI q) := fun z => by have := z.1; rw [c_35] at this; cases this
            refine ⟨by unfold aRun; rw [he]; exact (bI_f hno).symm, fK.rf, ?_⟩
            rw [show Ab.runF S _ = S from by unfold Ab.runF; rw [he]; exact if_neg hno]
            exact hS
