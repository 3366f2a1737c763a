/-! undo -/
theorem back_ix {len nx i : Nat} (h : len ≤ 12) (hnx : nx < 12) (h0 : 0 < len) (hi : i < len - 1) : ((nx + 12 - 1) % 12 + 12 - (len - 1) + i) % 12 = (nx + 12 - len + i) % 12 := by omega
theorem back_ix2 {len nx : Nat} (h : len ≤ 12) (hnx : nx < 12) (h0 : 0 < len) : (nx + 12 - len + (len - 1)) % 12 = (nx + 12 - 1) % 12 := by omega
theorem aUndo_0 {S : Ab} (h : S.ps.length = 0) : nI 0 = aUndo S ∧ S.undoF = S := ⟨(bI_f (fun z => z h)).symm, by unfold Ab.undoF; rw [List.length_eq_zero_iff.mp h]; rfl⟩
theorem aUndo_1 {S : Ab} (h : 0 < S.ps.length) : ∃ r, nI 1 = aUndo S ∧ S.undoF = S.back r ∧ S.ps[S.ps.length - 1]? = some r ∧ r ∈ S.ps := by
  cases hl : S.ps.getLast? with
  | none => rw [List.getLast?_eq_none_iff] at hl; rw [hl] at h; cases h
  | some r => exact ⟨r, (bI_t (by omega : S.ps.length ≠ 0)).symm, by unfold Ab.undoF; rw [hl], by rw [← List.getLast?_eq_getElem?]; exact hl, List.mem_of_getLast? hl⟩
theorem cPas_back {S : Ab} {σ s : Hp} {nx : Nat} {N : Nat → Nat} {NB : Nat → Nat → Nat} {C : Nat → Nat → Int32} {r : Rec} (hlen : S.ps.length ≤ 12) (h0 : 0 < S.ps.length) (hnx : nx < 12) (hR1 : AR σ (44 + 1) 3 12 (fun i => 44 + 3 + 3 * i)) (hR2 : AR σ (44 + 2) 4 12 (fun i => 44 + 3 + 3 * i + 2)) (hPS : PaS σ 44 N NB C) (hzC : ∀ i, i < 12 → scZ (C i)) (hrec : ∀ i r, S.ps[i]? = some r → N ((nx + 12 - S.ps.length + i) % 12) = r.n ∧ (∀ p, p < 9 → NB ((nx + 12 - S.ps.length + i) % 12) p = r.nb p) ∧ ScC r.n (C ((nx + 12 - S.ps.length + i) % 12)) r.sc) (hk : kpR 45 82 σ s) (hPa : OB s 44 4 (paF 44 (S.ps.length - 1) ((nx + 12 - 1) % 12))) : cPas (S.back r) s := by
  refine ⟨(nx + 12 - 1) % 12, N, NB, C, Nat.mod_lt _ (by decide), ?_, hR1.kp (hk _ (by omega) (by omega)), hR2.kp (hk _ (by omega) (by omega)), fun i hi => ⟨(hPS i hi).1.kp (hk _ (by omega) (by omega)), (hPS i hi).2.1.kp (hk _ (by omega) (by omega)), (hPS i hi).2.2.kp (hk _ (by omega) (by omega))⟩, hzC, fun i q hq => ?_⟩
  · show OB s 44 4 (paF 44 S.ps.dropLast.length _)
    rw [List.length_dropLast]; exact hPa
  · have hq : S.ps.dropLast[i]? = some q := hq
    rw [List.getElem?_dropLast] at hq
    show N (((nx + 12 - 1) % 12 + 12 - S.ps.dropLast.length + i) % 12) = q.n ∧ (∀ p, p < 9 → NB (((nx + 12 - 1) % 12 + 12 - S.ps.dropLast.length + i) % 12) p = q.nb p) ∧ ScC q.n (C (((nx + 12 - 1) % 12 + 12 - S.ps.dropLast.length + i) % 12)) q.sc
    by_cases hi : i < S.ps.length - 1
    · rw [if_pos hi] at hq
      rw [List.length_dropLast, back_ix hlen hnx h0 hi]
      exact hrec i q hq
    · rw [if_neg hi] at hq; cases hq
theorem vX11_undo {G : Gx} {d : Nat} {σ : Hp} (hd : 4 ≤ d) {S : Ab} {mk : Nat → Option Nat} {T : Nat} (hV : AbV S) (hS : CSt S σ mk T) : Cl G mX11_undo d [.ref 0] σ 0 0 (pI fun r s => r = aUndo S ∧ fK σ s ∧ CSt S.undoF s mk T) := by
  obtain ⟨d0, hdd⟩ : ∃ e, d = e + 1 := ⟨d - 1, by omega⟩
  refine cl_of (by decide) (by simp [Value.category]) (Nat.le_of_ble_eq_true rfl) ?_
  show Wp G mX11_undo d 0 [.ref 0] [] σ 0 0 _
  have hH := hS.1.2.2.2
  have hn := hV.1.1.1
  obtain ⟨hN, hNA⟩ := hS.2.1.2.1
  obtain ⟨dn, dnb, hdn, hdw, hDr, hDA⟩ := id hS.2.1.2.2.1
  obtain ⟨nx, N, NB, C, hnx, hPa, hR1, hR2, hPS, hzC, hrec⟩ := id hS.2.2.2.2.1
  obtain ⟨c, hSt, hcz, hcs⟩ := id hS.2.2.2.1
  have hlen := hV.2.2.2.2.1
  refine wp_aload_n (atd dX11_undo 0 rfl) rfl rfl ?_
  refine wp_get fX11_79 (atd dX11_undo 1 rfl) hH rfl ?_
  refine wp_aload_n (atd dX11_undo 2 rfl) rfl rfl ?_
  refine wp_get fX11_23 (atd dX11_undo 3 rfl) hH rfl ?_
  refine wp_aload_n (atd dX11_undo 4 rfl) rfl rfl ?_
  refine wp_get fX11_72 (atd dX11_undo 5 rfl) hH rfl ?_
  refine wp_cVi hdd [_, _] (atd dX11_undo 6 rfl) iX4_takeBack lX11_335 rfl rfl (Nat.le_of_ble_eq_true rfl) hPa rfl (eX4_takeBack (by omega) hPa hR1 hR2 hPS hlen hnx hDr hDA hSt (by omega) (by omega) (by omega) hzC) (fun r_12 s_12 h_12 => ?_)
  rcases h_12 with ⟨h0, rfl, rfl⟩ | ⟨h0, rfl, f_12, hPa, hDr, hDA, hSt⟩
  ·
    refine wp_ifN_ne (tgt := 20) (atd dX11_undo 7 rfl) (by decide) (by omega) (fun c_15 => ?_) (fun c_15 => ?_)
    · exact absurd c_15 (by decide)
    ·
      refine wp_iconst (v := nI 0) (atd dX11_undo 8 rfl) (by decide) ?_
      refine wp_iretz (atd dX11_undo 9 rfl) rfl (by first | rfl | decide) ?_
      rw [(aUndo_0 h0).2]
      exact ⟨(aUndo_0 h0).1, fK.rf, hS⟩
  ·
    obtain ⟨r, ea, eu, hr, hrm⟩ := aUndo_1 h0
    have hrV := hV.2.2.2.2.2 r hrm
    have hrn := hrV.1.1.1
    obtain ⟨x1, x2, x3⟩ := hrec _ r hr
    rw [back_ix2 hlen hnx h0] at x1 x2 x3
    rw [x1] at hDr
    have hDA := hDA.cg x2
    have c9 : cSce (S.back r) s_12 := ⟨_, hSt, hzC _ (Nat.mod_lt _ (by decide)), x3⟩
    have c10 : cPas (S.back r) s_12 := cPas_back hlen h0 hnx hR1 hR2 hPS hzC hrec (fun j h1 h2 => f_12.2 j (by simp only [List.mem_cons, List.not_mem_nil, or_false]; omega)) hPa
    have hH := hH.fr f_12 (by decide)
    have hN := hN.fr f_12 (by decide)
    have hNA := hNA.fr f_12 (by decide)
    have hVu : AbV (S.back r) := by rw [← eu]; exact undo_V hV
    rw [eu]
    refine wp_ifN_ne (tgt := 20) (atd dX11_undo 7 rfl) (by decide) (by omega) (fun c_15 => ?_) (fun c_15 => ?_)
    ·
      refine wp_aload_n (atd dX11_undo 10 rfl) rfl rfl ?_
      refine wp_get fX11_19 (atd dX11_undo 11 rfl) hH rfl ?_
      refine wp_aload_n (atd dX11_undo 12 rfl) rfl rfl ?_
      refine wp_get fX11_23 (atd dX11_undo 13 rfl) hH rfl ?_
      refine wp_cVi hdd [_] (atd dX11_undo 14 rfl) iX3_sameAs lX11_339 rfl rfl (Nat.le_of_ble_eq_true rfl) hN rfl (eX3_sameAs (by omega) hN hNA hDr hDA hn hrn (net_lt hV.1) (net_lt hrV.1)) (fun r_28 s_28 h_28 => ?_)
      obtain ⟨rfl, e_28⟩ := h_28
      obtain rfl := e_28.symm
      refine wp_ifB_ne (tgt := 49) (atd dX11_undo 15 rfl) (by decide) (fun c_31 => ?_) (fun c_31 => ?_)
      ·
        refine wp_iconst (v := nI 1) (atd dX11_undo 23 rfl) (by decide) ?_
        refine wp_iretz (atd dX11_undo 24 rfl) rfl (by first | rfl | decide) ?_
        have en : r.n = S.n := c_31.1.symm
        have eb : r.nb = S.nb := netZ_ext (n := r.n) hrV.1 (by rw [en]; exact hV.1) (fun q hq => (eqN_iff.mp c_31.2 q (by omega)).symm)
        have c3 : cDra s_12 := ⟨r.n, r.nb, hrn, net_lt hrV.1, hDr, hDA⟩
        obtain ⟨hS, hk2⟩ := CS2.up (S2 := S.back r) (S3 := S.back r) hS.to2 f_12.A (c2 := Or.inl ⟨by decide, fun z => by unfold cNet at z ⊢; show OB σ 5 3 [.int (nI r.n), _] ∧ AI σ _ 9 r.nb; rw [en, eb]; exact z⟩) (c3 := Or.inr c3) (c4 := Or.inl ⟨by decide, fun z => by unfold cDis at z ⊢; show DC σ 9 (nI 1) r.n (dis0 r.nb r.n) ∨ _; rw [en, eb]; exact z⟩) (c5 := Or.inl ⟨by decide, fun z => by unfold cGam at z ⊢; show GS σ 12 5 r.nb r.n _ T; rw [en, eb]; exact z⟩) (c8 := Or.inl ⟨by decide, fun z => by unfold cSea at z ⊢; show ∃ rd rn pa, SSx σ r.nb r.n mk rd rn pa; rw [en, eb]; exact z⟩) (c9 := Or.inr c9) (c10 := Or.inr c10)
        exact ⟨ea, hk2, hS⟩
      ·
        refine wp_aload_n (atd dX11_undo 16 rfl) rfl rfl ?_
        refine wp_get fX11_19 (atd dX11_undo 17 rfl) hH rfl ?_
        refine wp_aload_n (atd dX11_undo 18 rfl) rfl rfl ?_
        refine wp_get fX11_23 (atd dX11_undo 19 rfl) hH rfl ?_
        refine wp_cVv hdd [_] (atd dX11_undo 20 rfl) iX3_copyFrom lX11_100 rfl rfl (Nat.le_of_ble_eq_true rfl) hN rfl (eX3_copyFrom (by omega) hN hNA hDr hDA (by omega)) (fun s_42 h_42 => ?_)
        obtain ⟨f_42, hN, hNA⟩ := h_42
        have c2 : cNet (S.back r) s_42 := ⟨hN, hNA⟩
        have c3 : cDra s_42 := ⟨r.n, r.nb, hrn, net_lt hrV.1, hDr.fr f_42 (by decide), hDA.fr f_42 (by decide)⟩
        have c9 := c9.kp (s := s_42) (fun j h1 h2 => f_42.2 j (by simp only [List.mem_cons, List.not_mem_nil, or_false]; omega))
        have c10 := c10.kp (s := s_42) (fun j h1 h2 => f_42.2 j (by simp only [List.mem_cons, List.not_mem_nil, or_false]; omega))
        obtain ⟨hS, hk2⟩ := CS2.up (S2 := S.back r) (S3 := S) hS.to2 (f_12.A.tr2 f_42.A) (c2 := Or.inr c2) (c3 := Or.inr c3) (c9 := Or.inr c9) (c10 := Or.inr c10)
        have hH := hS.1.2.2.2
        refine wp_aload_n (atd dX11_undo 21 rfl) rfl rfl ?_
        refine wp_cVv hdd [] (atd dX11_undo 22 rfl) iX11_renew lX11_110 rfl rfl (Nat.le_of_ble_eq_true rfl) hH rfl (eX11_renew (by omega) hVu hS) (fun s_46 h_46 => ?_)
        obtain ⟨hS, hk3⟩ := h_46
        refine wp_iconst (v := nI 1) (atd dX11_undo 23 rfl) (by decide) ?_
        refine wp_iretz (atd dX11_undo 24 rfl) rfl (by first | rfl | decide) ?_
        exact ⟨ea, hk2.tr hk3, hS⟩
    · exact absurd c_15 (by decide)
/-! bytes fed -/
theorem btU24 (v : Int32) : (v.toUInt32 >>> ((nI 24).toUInt32 &&& Int32.toUInt32 31)).toInt32 &&& nI 255 = nI (btN v 24) := btM_ush v (by decide)
theorem btU16 (v : Int32) : (v.toUInt32 >>> ((nI 16).toUInt32 &&& Int32.toUInt32 31)).toInt32 &&& nI 255 = nI (btN v 16) := btM_ush v (by decide)
theorem btU8 (v : Int32) : (v.toUInt32 >>> ((nI 8).toUInt32 &&& Int32.toUInt32 31)).toInt32 &&& nI 255 = nI (btN v 8) := btM_ush v (by decide)
theorem btU0 (v : Int32) : (v.toUInt32 >>> ((nI 0).toUInt32 &&& Int32.toUInt32 31)).toInt32 &&& nI 255 = nI (btN v 0) := btM_ush v (by decide)
def scL (t fk : Nat) (fp : Int32) (tk fm bh : Int32) : List Value := [.ref 2, .int (nI t), .int (nI fk), .int fp, .int tk, .int fm, .int bh, .ref 3, .ref 4]
theorem eX7_append {G : Gx} {d : Nat} {σ : Hp} (hd : 0 ≤ d) {t fk : Nat} {fp tk fm bh v : Int32} {bs : Nat → Nat} (hSc : OB σ 1 7 (scL t fk fp tk fm bh)) (hB : AI σ 2 600 bs) (ht : t + 4 ≤ 600) : Cl G mX7_append d [.ref 1, .int v] σ 0 0 (pV fun s => fr [1, 2] σ s ∧ OB s 1 7 (scL (t + 4) fk fp tk fm bh) ∧ AI s 2 600 (up4N bs t v)) := by
  refine cl_of (by decide) (by simp [Value.category]) (Nat.le_of_ble_eq_true rfl) ?_
  show Wp G mX7_append d 0 [.ref 1, .int v, .double 0] [] σ 0 0 _
  have hF : fr [1, 2] σ σ := fr.rf
  refine wp_bipush (v := nI 24) (atd dX7_append 0 rfl) (by decide) ?_
  refine wp_istore_n (atd dX7_append 1 rfl) (Nat.le_of_ble_eq_true rfl) ?_
  refine wp_iload_n (atd dX7_append 2 rfl) rfl ?_
  refine wp_ifN_lt (tgt := 56) (atd dX7_append 3 rfl) (by decide) (by omega) ?_
  refine wp_aload_n (atd dX7_append 4 rfl) rfl rfl ?_
  refine wp_get fX7_25 (atd dX7_append 5 rfl) hSc rfl ?_
  refine wp_ifN_lt (tgt := 50) (atd dX7_append 6 rfl) (by decide) (by omega) ?_
  refine wp_aload_n (atd dX7_append 7 rfl) rfl rfl ?_
  refine wp_get fX7_25 (atd dX7_append 8 rfl) hSc rfl ?_
  refine wp_sipush (v := nI 600) (atd dX7_append 9 rfl) (by decide) ?_
  refine wp_icmpN_ge (tgt := 50) (atd dX7_append 10 rfl) (by decide) (by omega) (by omega) (fun c_21 => ?_) (fun c_21 => ?_)
  · exfalso; omega
  ·
    refine wp_aload_n (atd dX7_append 11 rfl) rfl rfl ?_
    refine wp_get fX7_9 (atd dX7_append 12 rfl) hSc rfl ?_
    refine wp_aload_n (atd dX7_append 13 rfl) rfl rfl ?_
    refine wp_get fX7_25 (atd dX7_append 14 rfl) hSc rfl ?_
    refine wp_iload_n (atd dX7_append 15 rfl) rfl ?_
    refine wp_iload_n (atd dX7_append 16 rfl) rfl ?_
    refine wp_iushr (atd dX7_append 17 rfl) ?_
    refine wp_sipush (v := nI 255) (atd dX7_append 18 rfl) (by decide) ?_
    refine wp_iand (atd dX7_append 19 rfl) ?_
    first | rw [btU24 v] | rw [btU16 v] | rw [btU8 v] | rw [btU0 v]
    refine wp_iastA (atd dX7_append 20 rfl) hB (by omega) (Nat.le_of_ble_eq_true rfl) (fun σ f_39 hB => ?_)
    have hSc := hSc.fr f_39 (by first | decide | (simp only [List.mem_cons, List.not_mem_nil, or_false]; omega))
    have hF := hF.tr f_39 (by simp)
    refine wp_aload_n (atd dX7_append 21 rfl) rfl rfl ?_
    refine wp_dup (atd dX7_append 22 rfl) rfl ?_
    refine wp_get fX7_25 (atd dX7_append 23 rfl) hSc rfl ?_
    refine wp_iconst (v := nI 1) (atd dX7_append 24 rfl) (by decide) ?_
    refine wp_iaddN (atd dX7_append 25 rfl) ?_
    refine wp_putX fX7_25 (atd dX7_append 26 rfl) hSc rfl (Nat.le_of_ble_eq_true rfl) (fun σ f_47 hSc => ?_)
    have hB := hB.fr f_47 (by first | decide | (simp only [List.mem_cons, List.not_mem_nil, or_false]; omega))
    have hF := hF.tr f_47 (by simp)
    refine wp_iinc (v := nI 16) (atd dX7_append 27 rfl) rfl (by decide) ?_
    refine wp_goto (tgt := 3) (atd dX7_append 28 rfl) (by decide) ?_
    refine wp_iload_n (atd dX7_append 2 rfl) rfl ?_
    refine wp_ifN_lt (tgt := 56) (atd dX7_append 3 rfl) (by decide) (by omega) ?_
    refine wp_aload_n (atd dX7_append 4 rfl) rfl rfl ?_
    refine wp_get fX7_25 (atd dX7_append 5 rfl) hSc rfl ?_
    refine wp_ifN_lt (tgt := 50) (atd dX7_append 6 rfl) (by decide) (by omega) ?_
    refine wp_aload_n (atd dX7_append 7 rfl) rfl rfl ?_
    refine wp_get fX7_25 (atd dX7_append 8 rfl) hSc rfl ?_
    refine wp_sipush (v := nI 600) (atd dX7_append 9 rfl) (by decide) ?_
    refine wp_icmpN_ge (tgt := 50) (atd dX7_append 10 rfl) (by decide) (by omega) (by omega) (fun c_21 => ?_) (fun c_21 => ?_)
    · exfalso; omega
    ·
      refine wp_aload_n (atd dX7_append 11 rfl) rfl rfl ?_
      refine wp_get fX7_9 (atd dX7_append 12 rfl) hSc rfl ?_
      refine wp_aload_n (atd dX7_append 13 rfl) rfl rfl ?_
      refine wp_get fX7_25 (atd dX7_append 14 rfl) hSc rfl ?_
      refine wp_iload_n (atd dX7_append 15 rfl) rfl ?_
      refine wp_iload_n (atd dX7_append 16 rfl) rfl ?_
      refine wp_iushr (atd dX7_append 17 rfl) ?_
      refine wp_sipush (v := nI 255) (atd dX7_append 18 rfl) (by decide) ?_
      refine wp_iand (atd dX7_append 19 rfl) ?_
      first | rw [btU24 v] | rw [btU16 v] | rw [btU8 v] | rw [btU0 v]
      refine wp_iastA (atd dX7_append 20 rfl) hB (by omega) (Nat.le_of_ble_eq_true rfl) (fun σ f_39 hB => ?_)
      have hSc := hSc.fr f_39 (by first | decide | (simp only [List.mem_cons, List.not_mem_nil, or_false]; omega))
      have hF := hF.tr f_39 (by simp)
      refine wp_aload_n (atd dX7_append 21 rfl) rfl rfl ?_
      refine wp_dup (atd dX7_append 22 rfl) rfl ?_
      refine wp_get fX7_25 (atd dX7_append 23 rfl) hSc rfl ?_
      refine wp_iconst (v := nI 1) (atd dX7_append 24 rfl) (by decide) ?_
      refine wp_iaddN (atd dX7_append 25 rfl) ?_
      refine wp_putX fX7_25 (atd dX7_append 26 rfl) hSc rfl (Nat.le_of_ble_eq_true rfl) (fun σ f_47 hSc => ?_)
      have hB := hB.fr f_47 (by first | decide | (simp only [List.mem_cons, List.not_mem_nil, or_false]; omega))
      have hF := hF.tr f_47 (by simp)
      refine wp_iinc (v := nI 8) (atd dX7_append 27 rfl) rfl (by decide) ?_
      refine wp_goto (tgt := 3) (atd dX7_append 28 rfl) (by decide) ?_
      refine wp_iload_n (atd dX7_append 2 rfl) rfl ?_
      refine wp_ifN_lt (tgt := 56) (atd dX7_append 3 rfl) (by decide) (by omega) ?_
      refine wp_aload_n (atd dX7_append 4 rfl) rfl rfl ?_
      refine wp_get fX7_25 (atd dX7_append 5 rfl) hSc rfl ?_
      refine wp_ifN_lt (tgt := 50) (atd dX7_append 6 rfl) (by decide) (by omega) ?_
      refine wp_aload_n (atd dX7_append 7 rfl) rfl rfl ?_
      refine wp_get fX7_25 (atd dX7_append 8 rfl) hSc rfl ?_
      refine wp_sipush (v := nI 600) (atd dX7_append 9 rfl) (by decide) ?_
      refine wp_icmpN_ge (tgt := 50) (atd dX7_append 10 rfl) (by decide) (by omega) (by omega) (fun c_21 => ?_) (fun c_21 => ?_)
      · exfalso; omega
      ·
        refine wp_aload_n (atd dX7_append 11 rfl) rfl rfl ?_
        refine wp_get fX7_9 (atd dX7_append 12 rfl) hSc rfl ?_
        refine wp_aload_n (atd dX7_append 13 rfl) rfl rfl ?_
        refine wp_get fX7_25 (atd dX7_append 14 rfl) hSc rfl ?_
        refine wp_iload_n (atd dX7_append 15 rfl) rfl ?_
        refine wp_iload_n (atd dX7_append 16 rfl) rfl ?_
        refine wp_iushr (atd dX7_append 17 rfl) ?_
        refine wp_sipush (v := nI 255) (atd dX7_append 18 rfl) (by decide) ?_
        refine wp_iand (atd dX7_append 19 rfl) ?_
        first | rw [btU24 v] | rw [btU16 v] | rw [btU8 v] | rw [btU0 v]
        refine wp_iastA (atd dX7_append 20 rfl) hB (by omega) (Nat.le_of_ble_eq_true rfl) (fun σ f_39 hB => ?_)
        have hSc := hSc.fr f_39 (by first | decide | (simp only [List.mem_cons, List.not_mem_nil, or_false]; omega))
        have hF := hF.tr f_39 (by simp)
        refine wp_aload_n (atd dX7_append 21 rfl) rfl rfl ?_
        refine wp_dup (atd dX7_append 22 rfl) rfl ?_
        refine wp_get fX7_25 (atd dX7_append 23 rfl) hSc rfl ?_
        refine wp_iconst (v := nI 1) (atd dX7_append 24 rfl) (by decide) ?_
        refine wp_iaddN (atd dX7_append 25 rfl) ?_
        refine wp_putX fX7_25 (atd dX7_append 26 rfl) hSc rfl (Nat.le_of_ble_eq_true rfl) (fun σ f_47 hSc => ?_)
        have hB := hB.fr f_47 (by first | decide | (simp only [List.mem_cons, List.not_mem_nil, or_false]; omega))
        have hF := hF.tr f_47 (by simp)
        refine wp_iinc (v := nI 0) (atd dX7_append 27 rfl) rfl (by decide) ?_
        refine wp_goto (tgt := 3) (atd dX7_append 28 rfl) (by decide) ?_
        refine wp_iload_n (atd dX7_append 2 rfl) rfl ?_
        refine wp_ifN_lt (tgt := 56) (atd dX7_append 3 rfl) (by decide) (by omega) ?_
        refine wp_aload_n (atd dX7_append 4 rfl) rfl rfl ?_
        refine wp_get fX7_25 (atd dX7_append 5 rfl) hSc rfl ?_
        refine wp_ifN_lt (tgt := 50) (atd dX7_append 6 rfl) (by decide) (by omega) ?_
        refine wp_aload_n (atd dX7_append 7 rfl) rfl rfl ?_
        refine wp_get fX7_25 (atd dX7_append 8 rfl) hSc rfl ?_
        refine wp_sipush (v := nI 600) (atd dX7_append 9 rfl) (by decide) ?_
        refine wp_icmpN_ge (tgt := 50) (atd dX7_append 10 rfl) (by decide) (by omega) (by omega) (fun c_21 => ?_) (fun c_21 => ?_)
        · exfalso; omega
        ·
          refine wp_aload_n (atd dX7_append 11 rfl) rfl rfl ?_
          refine wp_get fX7_9 (atd dX7_append 12 rfl) hSc rfl ?_
          refine wp_aload_n (atd dX7_append 13 rfl) rfl rfl ?_
          refine wp_get fX7_25 (atd dX7_append 14 rfl) hSc rfl ?_
          refine wp_iload_n (atd dX7_append 15 rfl) rfl ?_
          refine wp_iload_n (atd dX7_append 16 rfl) rfl ?_
          refine wp_iushr (atd dX7_append 17 rfl) ?_
          refine wp_sipush (v := nI 255) (atd dX7_append 18 rfl) (by decide) ?_
          refine wp_iand (atd dX7_append 19 rfl) ?_
          first | rw [btU24 v] | rw [btU16 v] | rw [btU8 v] | rw [btU0 v]
          refine wp_iastA (atd dX7_append 20 rfl) hB (by omega) (Nat.le_of_ble_eq_true rfl) (fun σ f_39 hB => ?_)
          have hSc := hSc.fr f_39 (by first | decide | (simp only [List.mem_cons, List.not_mem_nil, or_false]; omega))
          have hF := hF.tr f_39 (by simp)
          refine wp_aload_n (atd dX7_append 21 rfl) rfl rfl ?_
          refine wp_dup (atd dX7_append 22 rfl) rfl ?_
          refine wp_get fX7_25 (atd dX7_append 23 rfl) hSc rfl ?_
          refine wp_iconst (v := nI 1) (atd dX7_append 24 rfl) (by decide) ?_
          refine wp_iaddN (atd dX7_append 25 rfl) ?_
          refine wp_putX fX7_25 (atd dX7_append 26 rfl) hSc rfl (Nat.le_of_ble_eq_true rfl) (fun σ f_47 hSc => ?_)
          have hB := hB.fr f_47 (by first | decide | (simp only [List.mem_cons, List.not_mem_nil, or_false]; omega))
          have hF := hF.tr f_47 (by simp)
          refine wp_iinc (v := (-8)) (atd dX7_append 27 rfl) rfl (by decide) ?_
          refine wp_goto (tgt := 3) (atd dX7_append 28 rfl) (by decide) ?_
          refine wp_iload_n (atd dX7_append 2 rfl) rfl ?_
          refine wp_if_lt (tgt := 56) (atd dX7_append 3 rfl) (by decide) (fun c_4 => ?_) (fun c_4 => ?_)
          ·
            refine wp_vretv (atd dX7_append 29 rfl) rfl ?_
            exact ⟨hF, hSc, hB⟩
          · exact absurd (by decide) c_4
theorem up4N_cg {f g : Nat → Nat} {t t2 : Nat} (h : ∀ k, k < t → f k = g k) (v : Int32) (e : t2 = t + 4) : ∀ k, k < t2 → up4N f t v k = up4N g t v k := fun k hk => by
  unfold up4N va_up
  by_cases h3 : k = t + 3
  · rw [if_pos h3, if_pos h3]
  · rw [if_neg h3, if_neg h3]
    by_cases h2 : k = t + 2
    · rw [if_pos h2, if_pos h2]
    · rw [if_neg h2, if_neg h2]
      by_cases h1 : k = t + 1
      · rw [if_pos h1, if_pos h1]
      · rw [if_neg h1, if_neg h1]
        by_cases h0 : k = t
        · rw [if_pos h0, if_pos h0]
        · rw [if_neg h0, if_neg h0]; exact h k (by omega)
theorem fdT_cg {f g : Nat → Nat} {t : Nat} {a b c e v : Int32} (h : ∀ k, k < t → f k = g k) {k : Nat} (hk : k < t + 20) : up4N (up4N (up4N (up4N (up4N f t a) (t + 4) b) (t + 4 + 4) c) (t + 4 + 4 + 4) e) (t + 4 + 4 + 4 + 4) v k = fdT g t a b c e v k :=
  up4N_cg (up4N_cg (up4N_cg (up4N_cg (up4N_cg h a rfl) b rfl) c rfl) e rfl) v rfl k hk
theorem vX11_feed {G : Gx} {d : Nat} {σ : Hp} (hd : 1 ≤ d) {S : Ab} {mk : Nat → Option Nat} {T : Nat} (hV : AbV S) (hS : CSt S σ mk T) {a b c e g : Int32} : Cl G mX11_feed d [.ref 0, .int a, .int b, .int c, .int e, .int g] σ 0 0 (pI fun r s => r = aFeed S ∧ fK σ s ∧ CSt (S.feedF a b c e g) s mk T) := by
  obtain ⟨d0, hdd⟩ : ∃ e, d = e + 1 := ⟨d - 1, by omega⟩
  refine cl_of (by decide) (by simp [Value.category]) (Nat.le_of_ble_eq_true rfl) ?_
  show Wp G mX11_feed d 0 [.ref 0, .int a, .int b, .int c, .int e, .int g] [] σ 0 0 _
  have hF : fr [1, 2] σ σ := fr.rf
  have hH := hS.1.2.2.2
  have htd := hV.2.2.1
  obtain ⟨⟨tk, fm, bh, hSc⟩, ⟨bs, hB, hb⟩, hX1, hX2⟩ := id hS.2.1.1
  have hSc : OB σ 1 7 (scL S.td S.fk (oI S.fp) tk fm bh) := hSc
  refine wp_aload_n (atd dX11_feed 0 rfl) rfl rfl ?_
  refine wp_get fX11_10 (atd dX11_feed 1 rfl) hH rfl ?_
  refine wp_get fX11_86 (atd dX11_feed 2 rfl) hSc rfl ?_
  refine wp_bipush (v := nI 20) (atd dX11_feed 3 rfl) (by decide) ?_
  refine wp_iaddN (atd dX11_feed 4 rfl) ?_
  refine wp_sipush (v := nI 600) (atd dX11_feed 5 rfl) (by decide) ?_
  refine wp_icmpN_le (tgt := 18) (atd dX11_feed 6 rfl) (by decide) (by omega) (by omega) (fun c_13 => ?_) (fun c_13 => ?_)
  ·
    refine wp_aload_n (atd dX11_feed 9 rfl) rfl rfl ?_
    refine wp_get fX11_10 (atd dX11_feed 10 rfl) hH rfl ?_
    refine wp_iload_n (atd dX11_feed 11 rfl) rfl ?_
    refine wp_cVv hdd [_] (atd dX11_feed 12 rfl) iX7_append lX11_90 rfl rfl (Nat.le_of_ble_eq_true rfl) hSc rfl (eX7_append (v := a) (by omega) hSc hB (by omega)) (fun s_23 h_23 => ?_)
    obtain ⟨f_23, hSc, hB⟩ := h_23
    have hF := hF.tr f_23 (by simp)
    have hH := hH.fr f_23 (by decide)
    refine wp_aload_n (atd dX11_feed 13 rfl) rfl rfl ?_
    refine wp_get fX11_10 (atd dX11_feed 14 rfl) hH rfl ?_
    refine wp_iload_n (atd dX11_feed 15 rfl) rfl ?_
    refine wp_cVv hdd [_] (atd dX11_feed 16 rfl) iX7_append lX11_90 rfl rfl (Nat.le_of_ble_eq_true rfl) hSc rfl (eX7_append (v := b) (by omega) hSc hB (by omega)) (fun s_31 h_31 => ?_)
    obtain ⟨f_31, hSc, hB⟩ := h_31
    have hF := hF.tr f_31 (by simp)
    have hH := hH.fr f_31 (by decide)
    refine wp_aload_n (atd dX11_feed 17 rfl) rfl rfl ?_
    refine wp_get fX11_10 (atd dX11_feed 18 rfl) hH rfl ?_
    refine wp_iload_n (atd dX11_feed 19 rfl) rfl ?_
    refine wp_cVv hdd [_] (atd dX11_feed 20 rfl) iX7_append lX11_90 rfl rfl (Nat.le_of_ble_eq_true rfl) hSc rfl (eX7_append (v := c) (by omega) hSc hB (by omega)) (fun s_39 h_39 => ?_)
    obtain ⟨f_39, hSc, hB⟩ := h_39
    have hF := hF.tr f_39 (by simp)
    have hH := hH.fr f_39 (by decide)
    refine wp_aload_n (atd dX11_feed 21 rfl) rfl rfl ?_
    refine wp_get fX11_10 (atd dX11_feed 22 rfl) hH rfl ?_
    refine wp_iload (atd dX11_feed 23 rfl) rfl ?_
    refine wp_cVv hdd [_] (atd dX11_feed 24 rfl) iX7_append lX11_90 rfl rfl (Nat.le_of_ble_eq_true rfl) hSc rfl (eX7_append (v := e) (by omega) hSc hB (by omega)) (fun s_48 h_48 => ?_)
    obtain ⟨f_48, hSc, hB⟩ := h_48
    have hF := hF.tr f_48 (by simp)
    have hH := hH.fr f_48 (by decide)
    refine wp_aload_n (atd dX11_feed 25 rfl) rfl rfl ?_
    refine wp_get fX11_10 (atd dX11_feed 26 rfl) hH rfl ?_
    refine wp_iload (atd dX11_feed 27 rfl) rfl ?_
    refine wp_cVv hdd [_] (atd dX11_feed 28 rfl) iX7_append lX11_90 rfl rfl (Nat.le_of_ble_eq_true rfl) hSc rfl (eX7_append (v := g) (by omega) hSc hB (by omega)) (fun s_57 h_57 => ?_)
    obtain ⟨f_57, hSc, hB⟩ := h_57
    have hF := hF.tr f_57 (by simp)
    have hH := hH.fr f_57 (by decide)
    refine wp_aload_n (atd dX11_feed 29 rfl) rfl rfl ?_
    refine wp_get fX11_10 (atd dX11_feed 30 rfl) hH rfl ?_
    refine wp_get fX11_86 (atd dX11_feed 31 rfl) hSc rfl ?_
    refine wp_ireti (atd dX11_feed 32 rfl) rfl ?_
    have hy : ¬ 600 < S.td + 20 := by omega
    have hX1 := hX1.fr hF (by decide)
    have hX2 := hX2.fr hF (by decide)
    obtain ⟨q1, q2⟩ := CSt.scr (S2 := S.fed (S.td + 20) (fdT S.tp S.td a b c e g)) hS (hF.A.mono (by simp)) ⟨⟨tk, fm, bh, hSc⟩, ⟨_, hB, fun k hk => fdT_cg hb hk⟩, hX1, hX2⟩ rfl rfl rfl rfl
    refine ⟨(if_neg hy).symm, q2, ?_⟩
    rw [show S.feedF a b c e g = S.fed (S.td + 20) (fdT S.tp S.td a b c e g) from if_neg hy]
    exact q1
  ·
    refine wp_iconst (v := -1) (atd dX11_feed 7 rfl) (by decide) ?_
    refine wp_ireti (atd dX11_feed 8 rfl) rfl ?_
    have hy : 600 < S.td + 20 := by omega
    refine ⟨(if_pos hy).symm, fK.rf, ?_⟩
    rw [show S.feedF a b c e g = S from if_pos hy]
    exact hS
