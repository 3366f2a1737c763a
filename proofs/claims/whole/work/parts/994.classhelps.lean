/-! a line that helps: all of them tried -/
def shG (g : Nat) : List Value := [.ref 1, .ref 5, .ref 7, .ref 9, .ref 12, .ref 34, .ref 37, .ref 39, .ref 43, .ref 44, .ref g]
theorem shF_g {mk : Nat → Option Nat} {g : Nat} (h : mk 12 = some g) : shF mk = shG g := by unfold shF shG; rw [h]; rfl
def trN : Nat → Nat
  | 0 => 0
  | x + 1 => x + trN x
theorem trN_36 : ∀ n, n ≤ 9 → trN n ≤ 36 := by decide
theorem hlP_s {nb : Nat → Nat} {n kd h k p : Nat} : hlP nb n kd h (k + 1) p = (hlQ nb n kd h p (n - (p + 1)) (p + 1)).or (hlP nb n kd h k (p + 1)) := by
  rw [hlP]
  cases hlQ nb n kd h p (n - (p + 1)) (p + 1) <;> rfl
theorem hlQ_n {nb : Nat → Nat} {n kd h p k q : Nat} (e : tmF (nbt nb p q) n h kd = none) : hlQ nb n kd h p (k + 1) q = hlQ nb n kd h p k (q + 1) := if_pos e
theorem hlQ_y {nb : Nat → Nat} {n kd h p k q : Nat} (e : ¬ tmF (nbt nb p q) n h kd = none) : hlQ nb n kd h p (k + 1) q = some (16 * p + q) := if_neg e
theorem GMx_tm {σ : Hp} {g n kd h : Nat} {nb : Nat → Nat} {wk : Nat → Option Nat} {op tn rf hp : Int32} (hNZ : isNetZ n nb) (hn1 : 1 ≤ n) (h1 : 1 ≤ h) (h3 : h ≤ 3) (hGx : GMx σ g nb n wk kd h true op tn rf hp) : (∃ wv op rf hp, OB σ (g + 13 + gix kd h) 1 (gaF kd (frN h) (frN (h + 1)) (nI 1) wv op (oI (tmF nb n h kd)) rf hp)) ∧ (oI (tmF nb n h kd) = -1 ↔ tmF nb n h kd = none) := by
  obtain ⟨hGm, hX, hRd⟩ := hGx
  obtain ⟨wa, wo, ew, hWo, ⟨⟨w, hFin⟩, hwb, rfl, rfl, rfl⟩, hhp⟩ := hRd rfl
  have hR := rowsL_pos n (by have := hNZ.1.1; omega) hn1 h (by omega) h1
  have hst : stF nb n h kd < (rowsL h n).length := srF_lt hR
  exact ⟨⟨_, _, _, _, hGm⟩, oI_m9 (v := tmF nb n h kd) (gtF_lt hNZ h1 h3 hFin hst)⟩
theorem lX11_hq {G : Gx} {d : Nat} (hd : 7 ≤ d) {S : Ab} {σ0 : Hp} {kd h g wa T2 : Nat} {mk : Nat → Option Nat} {v : Option Nat} (hV : AbV S) (hkd : kd < 3) (hh1 : 1 ≤ h) (hh2 : h ≤ 2) (hg : mk 12 = some g) (hwa : mk (13 + gix kd h) = some wa) (hn1 : 1 ≤ S.n) (hT2 : T2 + 245390 < 2 ^ 31) {p R : Nat} {w : Option Nat} (hp : p < S.n) (hk : ∀ (σ : Hp) (T : Nat) (y4 y5 : Value), fK σ0 σ → CSt S σ mk T → OB σ 7 3 [.int (nI S.n), .ref (7 + 1)] → AI σ (7 + 1) 9 S.nb → T + 66870 * R ≤ T2 → w = v → Wp G mX11_helpingLine d 129 [.ref 0, .int (nI kd), .int (nI h), .int (nI p), y4, y5] [] σ 0 0 (pI fun r s => r = oI v ∧ fK σ0 s ∧ CSt S s mk T2)) : ∀ (k : Nat) (q : Nat) (σ : Hp) (T : Nat) (y5 : Value), q + k = S.n → p < q → fK σ0 σ → CSt S σ mk T → OB σ 7 3 [.int (nI S.n), .ref (7 + 1)] → AI σ (7 + 1) 9 S.nb → T + 66870 * (k + R) ≤ T2 → (hlQ S.nb S.n kd h p k q).or w = v → Wp G mX11_helpingLine d 51 [.ref 0, .int (nI kd), .int (nI h), .int (nI p), .int (nI q), y5] [] σ 0 0 (pI fun r s => r = oI v ∧ fK σ0 s ∧ CSt S s mk T2) := by
  obtain ⟨d0, hdd⟩ : ∃ e, d = e + 1 := ⟨d - 1, by omega⟩
  intro k
  induction k with
  | zero =>
    intro q σ T y5 h_ hpq hK hS hDr hDA hTT hv
    have hn := hV.1.1.1
    have hH : OB σ 0 11 (shG g) := by rw [← shF_g hg]; exact hS.1.2.2.2
    obtain ⟨hN, hNA⟩ := hS.2.1.2.1
    obtain rfl : q = S.n := by omega
    refine wp_iload (atd dX11_helpingLine 26 rfl) rfl ?_
    refine wp_aload_n (atd dX11_helpingLine 27 rfl) rfl rfl ?_
    refine wp_get fX11_19 (atd dX11_helpingLine 28 rfl) hH rfl ?_
    refine wp_get fX11_113 (atd dX11_helpingLine 29 rfl) hN rfl ?_
    refine wp_icmpN_ge (tgt := 129) (atd dX11_helpingLine 30 rfl) (by decide) (by omega) (by omega) (fun c_60 => ?_) (fun c_60 => ?_)
    ·
      exact hk σ T _ _ hK hS hDr hDA (by omega) hv
    · exfalso; omega
  | succ k ih =>
    intro q σ T y5 h_ hpq hK hS hDr hDA hTT hv
    have hn := hV.1.1.1
    have hH : OB σ 0 11 (shG g) := by rw [← shF_g hg]; exact hS.1.2.2.2
    obtain ⟨hN, hNA⟩ := hS.2.1.2.1
    refine wp_iload (atd dX11_helpingLine 26 rfl) rfl ?_
    refine wp_aload_n (atd dX11_helpingLine 27 rfl) rfl rfl ?_
    refine wp_get fX11_19 (atd dX11_helpingLine 28 rfl) hH rfl ?_
    refine wp_get fX11_113 (atd dX11_helpingLine 29 rfl) hN rfl ?_
    refine wp_icmpN_ge (tgt := 129) (atd dX11_helpingLine 30 rfl) (by decide) (by omega) (by omega) (fun c_60 => ?_) (fun c_60 => ?_)
    · exfalso; omega
    ·
      refine wp_aload_n (atd dX11_helpingLine 31 rfl) rfl rfl ?_
      refine wp_get fX11_23 (atd dX11_helpingLine 32 rfl) hH rfl ?_
      refine wp_iload_n (atd dX11_helpingLine 33 rfl) rfl ?_
      refine wp_iload (atd dX11_helpingLine 34 rfl) rfl ?_
      refine wp_cVv hdd [_, _] (atd dX11_helpingLine 35 rfl) iX3_flip lX11_316 rfl rfl (Nat.le_of_ble_eq_true rfl) hDr rfl (eX3_flip (by omega) hDr hDA hn (net_lt hV.1) (by omega) (by omega)) (fun s_70 h_70 => ?_)
      obtain ⟨f_70, hDA⟩ := h_70
      rw [flp_t (show p ≠ q by omega) (by omega) (by omega)] at hDA
      have hDr := hDr.fr f_70 (by decide)
      have hNZ := nbt_netZ (p := p) (q := q) hV.1 (by omega) (by omega) (by omega)
      have c3 : cDra s_70 := ⟨S.n, _, hn, net_lt hNZ, hDr, hDA⟩
      obtain ⟨hS, hk1⟩ := CSt.upS hS f_70.A
      have hK := hK.tr hk1
      have hH : OB s_70 0 11 (shG g) := by rw [← shF_g hg]; exact hS.1.2.2.2
      obtain ⟨n0, nb0, hGS0⟩ := hS.2.2.2.2.2 g hg
      have hTr := hGS0.1
      refine wp_aload_n (atd dX11_helpingLine 36 rfl) rfl rfl ?_
      refine wp_get fX11_83 (atd dX11_helpingLine 37 rfl) hH rfl ?_
      refine wp_cVv hdd [] (atd dX11_helpingLine 38 rfl) iX2_renew lX11_346 rfl rfl (Nat.le_of_ble_eq_true rfl) hTr rfl (eX2_renewT (by omega) hS hg hn (net_lt hNZ) hDr hDA) (fun s_77 h_77 => ?_)
      obtain ⟨hk2, hS, hDr, hDA, hGS⟩ := h_77
      have hK := hK.tr hk2
      have hH : OB s_77 0 11 (shG g) := by rw [← shF_g hg]; exact hS.1.2.2.2
      have hTr := hGS.1
      refine wp_aload_n (atd dX11_helpingLine 39 rfl) rfl rfl ?_
      refine wp_get fX11_83 (atd dX11_helpingLine 40 rfl) hH rfl ?_
      refine wp_iload_n (atd dX11_helpingLine 41 rfl) rfl ?_
      refine wp_iload_n (atd dX11_helpingLine 42 rfl) rfl ?_
      refine wp_cVr hdd [_, _] (atd dX11_helpingLine 43 rfl) iX2_solved lX11_185 rfl rfl (Nat.le_of_ble_eq_true rfl) hTr rfl (eX2_solvedT1 (by omega) hS (by omega) hg hNZ hn1 hDr hDA hGS hkd hh1 hh2 hwa) (Nat.zero_add _).symm (Nat.zero_add _).symm (fun r_86 s_86 h_86 => ?_)
      obtain ⟨rfl, hk3, hS, hDr, hDA, -, op, tn, rf, hpp, hGx⟩ := h_86
      have hK := hK.tr hk3
      have hH : OB s_86 0 11 (shG g) := by rw [← shF_g hg]; exact hS.1.2.2.2
      obtain ⟨⟨wv, op, rf, hpp, hGm⟩, htm⟩ := GMx_tm hNZ hn1 hh1 (by omega) hGx
      refine wp_astore (atd dX11_helpingLine 44 rfl) (Nat.le_of_ble_eq_true rfl) rfl ?_
      refine wp_aload_n (atd dX11_helpingLine 45 rfl) rfl rfl ?_
      refine wp_get fX11_23 (atd dX11_helpingLine 46 rfl) hH rfl ?_
      refine wp_iload_n (atd dX11_helpingLine 47 rfl) rfl ?_
      refine wp_iload (atd dX11_helpingLine 48 rfl) rfl ?_
      refine wp_cVv hdd [_, _] (atd dX11_helpingLine 49 rfl) iX3_flip lX11_316 rfl rfl (Nat.le_of_ble_eq_true rfl) hDr rfl (eX3_flip (by omega) hDr hDA hn (net_lt hNZ) (by omega) (by omega)) (fun s_98 h_98 => ?_)
      obtain ⟨f_98, hDA⟩ := h_98
      rw [flp_t (show p ≠ q by omega) (by omega) (by omega), nbt_nbt (show p ≠ q by omega)] at hDA
      have hDr := hDr.fr f_98 (by decide)
      have hGm := hGm.fr f_98 (by simp only [List.mem_cons, List.not_mem_nil, or_false]; have := (hS.1.2.1.1 _ _ hg).1; omega)
      have c3 : cDra s_98 := ⟨S.n, _, hn, net_lt hV.1, hDr, hDA⟩
      obtain ⟨hS, hk4⟩ := CSt.upS hS f_98.A
      have hK := hK.tr hk4
      have hH : OB s_98 0 11 (shG g) := by rw [← shF_g hg]; exact hS.1.2.2.2
      obtain ⟨hN, hNA⟩ := hS.2.1.2.1
      refine wp_aload (atd dX11_helpingLine 50 rfl) rfl rfl ?_
      refine wp_ifnull_r (atd dX11_helpingLine 51 rfl) ?_
      refine wp_aload (atd dX11_helpingLine 52 rfl) rfl rfl ?_
      refine wp_get fX11_189 (atd dX11_helpingLine 53 rfl) hGm rfl ?_
      refine wp_iconst (v := -1) (atd dX11_helpingLine 54 rfl) (by decide) ?_
      refine wp_icmp_eq (tgt := 123) (atd dX11_helpingLine 55 rfl) (by decide) (fun c_112 => ?_) (fun c_112 => ?_)
      ·
        refine wp_iincN (c := 1) (atd dX11_helpingLine 62 rfl) rfl ?_
        refine wp_goto (tgt := 51) (atd dX11_helpingLine 63 rfl) (by decide) ?_
        rw [hlQ_n (htm.mp c_112)] at hv
        exact ih (q + 1) _ (T + 66870) _ (by omega) (by omega) hK hS hDr hDA (by omega) hv
      ·
        refine wp_bipush (v := nI 16) (atd dX11_helpingLine 56 rfl) (by decide) ?_
        refine wp_iload_n (atd dX11_helpingLine 57 rfl) rfl ?_
        refine wp_imulN (atd dX11_helpingLine 58 rfl) ?_
        refine wp_iload (atd dX11_helpingLine 59 rfl) rfl ?_
        refine wp_iaddN (atd dX11_helpingLine 60 rfl) ?_
        refine wp_ireti (atd dX11_helpingLine 61 rfl) rfl ?_
        rw [hlQ_y (fun e => c_112 (htm.mpr e))] at hv
        obtain rfl : v = some (16 * p + q) := hv.symm
        exact ⟨rfl, hK, CSt_T hS (by omega)⟩
theorem lX11_hp {G : Gx} {d : Nat} (hd : 7 ≤ d) {S : Ab} {σ0 : Hp} {kd h g wa T2 : Nat} {mk : Nat → Option Nat} {v : Option Nat} (hV : AbV S) (hkd : kd < 3) (hh1 : 1 ≤ h) (hh2 : h ≤ 2) (hg : mk 12 = some g) (hwa : mk (13 + gix kd h) = some wa) (hn1 : 1 ≤ S.n) (hT2 : T2 + 245390 < 2 ^ 31) : ∀ (x : Nat) (p : Nat) (σ : Hp) (T : Nat) (y4 y5 : Value), p + x = S.n → fK σ0 σ → CSt S σ mk T → OB σ 7 3 [.int (nI S.n), .ref (7 + 1)] → AI σ (7 + 1) 9 S.nb → T + 66870 * trN x ≤ T2 → hlP S.nb S.n kd h x p = v → Wp G mX11_helpingLine d 35 [.ref 0, .int (nI kd), .int (nI h), .int (nI p), y4, y5] [] σ 0 0 (pI fun r s => r = oI v ∧ fK σ0 s ∧ CSt S s mk T2) := by
  obtain ⟨d0, hdd⟩ : ∃ e, d = e + 1 := ⟨d - 1, by omega⟩
  intro x
  induction x with
  | zero =>
    intro p σ T y4 y5 h_ hK hS hDr hDA hTT hv
    have hn := hV.1.1.1
    have hH : OB σ 0 11 (shG g) := by rw [← shF_g hg]; exact hS.1.2.2.2
    obtain ⟨hN, hNA⟩ := hS.2.1.2.1
    obtain rfl : p = S.n := by omega
    refine wp_iload_n (atd dX11_helpingLine 17 rfl) rfl ?_
    refine wp_aload_n (atd dX11_helpingLine 18 rfl) rfl rfl ?_
    refine wp_get fX11_19 (atd dX11_helpingLine 19 rfl) hH rfl ?_
    refine wp_get fX11_113 (atd dX11_helpingLine 20 rfl) hN rfl ?_
    refine wp_icmpN_ge (tgt := 135) (atd dX11_helpingLine 21 rfl) (by decide) (by omega) (by omega) (fun c_43 => ?_) (fun c_43 => ?_)
    ·
      refine wp_iconst (v := -1) (atd dX11_helpingLine 66 rfl) (by decide) ?_
      refine wp_ireti (atd dX11_helpingLine 67 rfl) rfl ?_
      subst hv
      exact ⟨rfl, hK, CSt_T hS (by omega)⟩
    · exfalso; omega
  | succ x ih =>
    intro p σ T y4 y5 h_ hK hS hDr hDA hTT hv
    have hn := hV.1.1.1
    have hH : OB σ 0 11 (shG g) := by rw [← shF_g hg]; exact hS.1.2.2.2
    obtain ⟨hN, hNA⟩ := hS.2.1.2.1
    refine wp_iload_n (atd dX11_helpingLine 17 rfl) rfl ?_
    refine wp_aload_n (atd dX11_helpingLine 18 rfl) rfl rfl ?_
    refine wp_get fX11_19 (atd dX11_helpingLine 19 rfl) hH rfl ?_
    refine wp_get fX11_113 (atd dX11_helpingLine 20 rfl) hN rfl ?_
    refine wp_icmpN_ge (tgt := 135) (atd dX11_helpingLine 21 rfl) (by decide) (by omega) (by omega) (fun c_43 => ?_) (fun c_43 => ?_)
    · exfalso; omega
    ·
      refine wp_iload_n (atd dX11_helpingLine 22 rfl) rfl ?_
      refine wp_iconst (v := nI 1) (atd dX11_helpingLine 23 rfl) (by decide) ?_
      refine wp_iaddN (atd dX11_helpingLine 24 rfl) ?_
      refine wp_istore (atd dX11_helpingLine 25 rfl) (Nat.le_of_ble_eq_true rfl) ?_
      rw [hlP_s] at hv
      have ht : trN (x + 1) = x + trN x := rfl
      refine lX11_hq (by omega) hV hkd hh1 hh2 hg hwa hn1 hT2 (R := trN x) (by omega) (fun σ T y4 y5 hK hS hDr hDA hTT hv => ?_) (S.n - (p + 1)) (p + 1) σ T _ (by omega) (by omega) hK hS hDr hDA (by omega) hv
      refine wp_iincN (c := 1) (atd dX11_helpingLine 64 rfl) rfl ?_
      refine wp_goto (tgt := 35) (atd dX11_helpingLine 65 rfl) (by decide) ?_
      exact ih (p + 1) σ T y4 y5 (by omega) hK hS hDr hDA hTT hv
theorem bX11_help {G : Gx} {d : Nat} {σ : Hp} (hd : 7 ≤ d) {S : Ab} {kd h g T : Nat} {mk : Nat → Option Nat} (hV : AbV S) (hS : CSt S σ mk T) (hkd : kd < 3) (hh1 : 1 ≤ h) (hh2 : h ≤ 2) (hg : mk 12 = some g) (hn1 : 1 ≤ S.n) (hT0 : T + 2407320 + 245390 < 2 ^ 31) {y3 y4 y5 : Value} : Wp G mX11_helpingLine d 22 [.ref 0, .int (nI kd), .int (nI h), y3, y4, y5] [] σ 1 405 (pI fun r s => r = oI (hlP S.nb S.n kd h S.n 0) ∧ fK σ s ∧ ∃ mk2, (∀ i, i < 12 → mk2 i = mk i) ∧ CSt S s mk2 (T + 2407320)) := by
  obtain ⟨d0, hdd⟩ : ∃ e, d = e + 1 := ⟨d - 1, by omega⟩
  have hn := hV.1.1.1
  have hH : OB σ 0 11 (shG g) := by rw [← shF_g hg]; exact hS.1.2.2.2
  obtain ⟨hN, hNA⟩ := hS.2.1.2.1
  obtain ⟨dn, dnb, hdn, hdw, hDr, hDA⟩ := id hS.2.1.2.2.1
  have h36 := trN_36 S.n hn
  have hK : fK σ σ := fK.rf
  refine wp_aload_n (atd dX11_helpingLine 10 rfl) rfl rfl ?_
  refine wp_get fX11_23 (atd dX11_helpingLine 11 rfl) hH rfl ?_
  refine wp_aload_n (atd dX11_helpingLine 12 rfl) rfl rfl ?_
  refine wp_get fX11_19 (atd dX11_helpingLine 13 rfl) hH rfl ?_
  refine wp_cVv hdd [_] (atd dX11_helpingLine 14 rfl) iX3_copyFrom lX11_100 rfl rfl (Nat.le_of_ble_eq_true rfl) hDr rfl (eX3_copyFrom (by omega) hDr hDA hN hNA (by omega)) (fun s_30 h_30 => ?_)
  obtain ⟨f_30, hDr, hDA⟩ := h_30
  have c3 : cDra s_30 := ⟨S.n, S.nb, hn, net_lt hV.1, hDr, hDA⟩
  obtain ⟨hS, hk0⟩ := CSt.upS hS f_30.A
  have hK := hK.tr hk0
  have hH : OB s_30 0 11 (shG g) := by rw [← shF_g hg]; exact hS.1.2.2.2
  obtain ⟨hN, hNA⟩ := hS.2.1.2.1
  refine wp_iconst (v := nI 0) (atd dX11_helpingLine 15 rfl) (by decide) ?_
  refine wp_istore_n (atd dX11_helpingLine 16 rfl) (Nat.le_of_ble_eq_true rfl) ?_
  cases hwa : mk (13 + gix kd h) with
  | some wa =>
    refine wp_le (Nat.zero_le _) (Nat.zero_le _) (wp_post (lX11_hp (T2 := T + 2407320) (by omega) hV hkd hh1 hh2 hg hwa hn1 (by omega) S.n 0 _ T _ _ (by omega) hK hS hDr hDA (by omega) rfl) ?_)
    rintro v s ⟨r, rfl, h1, h2, h3⟩
    exact ⟨_, rfl, h1, h2, mk, fun _ _ => rfl, h3⟩
  | none =>
    by_cases hn2 : S.n = 1
    ·
      have hl : hlP S.nb S.n kd h S.n 0 = none := by rw [hn2]; rfl
      refine wp_iload_n (atd dX11_helpingLine 17 rfl) rfl ?_
      refine wp_aload_n (atd dX11_helpingLine 18 rfl) rfl rfl ?_
      refine wp_get fX11_19 (atd dX11_helpingLine 19 rfl) hH rfl ?_
      refine wp_get fX11_113 (atd dX11_helpingLine 20 rfl) hN rfl ?_
      refine wp_icmpN_ge (tgt := 135) (atd dX11_helpingLine 21 rfl) (by decide) (by omega) (by omega) (fun c_43 => ?_) (fun c_43 => ?_)
      · exfalso; omega
      ·
        refine wp_iload_n (atd dX11_helpingLine 22 rfl) rfl ?_
        refine wp_iconst (v := nI 1) (atd dX11_helpingLine 23 rfl) (by decide) ?_
        refine wp_iaddN (atd dX11_helpingLine 24 rfl) ?_
        refine wp_istore (atd dX11_helpingLine 25 rfl) (Nat.le_of_ble_eq_true rfl) ?_
        refine wp_iload (atd dX11_helpingLine 26 rfl) rfl ?_
        refine wp_aload_n (atd dX11_helpingLine 27 rfl) rfl rfl ?_
        refine wp_get fX11_19 (atd dX11_helpingLine 28 rfl) hH rfl ?_
        refine wp_get fX11_113 (atd dX11_helpingLine 29 rfl) hN rfl ?_
        refine wp_icmpN_ge (tgt := 129) (atd dX11_helpingLine 30 rfl) (by decide) (by omega) (by omega) (fun c_60 => ?_) (fun c_60 => ?_)
        ·
          refine wp_iinc (v := nI 1) (atd dX11_helpingLine 64 rfl) rfl (by decide) ?_
          refine wp_goto (tgt := 35) (atd dX11_helpingLine 65 rfl) (by decide) ?_
          refine wp_iload_n (atd dX11_helpingLine 17 rfl) rfl ?_
          refine wp_aload_n (atd dX11_helpingLine 18 rfl) rfl rfl ?_
          refine wp_get fX11_19 (atd dX11_helpingLine 19 rfl) hH rfl ?_
          refine wp_get fX11_113 (atd dX11_helpingLine 20 rfl) hN rfl ?_
          refine wp_icmpN_ge (tgt := 135) (atd dX11_helpingLine 21 rfl) (by decide) (by omega) (by omega) (fun c_43 => ?_) (fun c_43 => ?_)
          ·
            refine wp_iconst (v := -1) (atd dX11_helpingLine 66 rfl) (by decide) ?_
            refine wp_ireti (atd dX11_helpingLine 67 rfl) rfl ?_
            exact ⟨by rw [hl]; rfl, hK, mk, fun _ _ => rfl, CSt_T hS (by omega)⟩
          · exfalso; omega
        · exfalso; omega
    ·
      obtain ⟨m, hm⟩ : ∃ m, S.n = m + 2 := ⟨S.n - 2, by omega⟩
      have ht : trN S.n = (S.n - 1) + trN (S.n - 1) := by rw [hm]; rfl
      have hl : hlP S.nb S.n kd h S.n 0 = (hlQ S.nb S.n kd h 0 (S.n - 2 + 1) 1).or (hlP S.nb S.n kd h (S.n - 1) 1) := by
        have e := hlP_s (nb := S.nb) (n := S.n) (kd := kd) (h := h) (k := S.n - 1) (p := 0)
        rw [show S.n - 1 + 1 = S.n from by omega, show S.n - (0 + 1) = S.n - 2 + 1 from by omega] at e
        rw [show S.n - 2 + 1 = S.n - 1 from by omega] at e ⊢
        exact e
      refine wp_iload_n (atd dX11_helpingLine 17 rfl) rfl ?_
      refine wp_aload_n (atd dX11_helpingLine 18 rfl) rfl rfl ?_
      refine wp_get fX11_19 (atd dX11_helpingLine 19 rfl) hH rfl ?_
      refine wp_get fX11_113 (atd dX11_helpingLine 20 rfl) hN rfl ?_
      refine wp_icmpN_ge (tgt := 135) (atd dX11_helpingLine 21 rfl) (by decide) (by omega) (by omega) (fun c_43 => ?_) (fun c_43 => ?_)
      · exfalso; omega
      ·
        refine wp_iload_n (atd dX11_helpingLine 22 rfl) rfl ?_
        refine wp_iconst (v := nI 1) (atd dX11_helpingLine 23 rfl) (by decide) ?_
        refine wp_iaddN (atd dX11_helpingLine 24 rfl) ?_
        refine wp_istore (atd dX11_helpingLine 25 rfl) (Nat.le_of_ble_eq_true rfl) ?_
        refine wp_iload (atd dX11_helpingLine 26 rfl) rfl ?_
        refine wp_aload_n (atd dX11_helpingLine 27 rfl) rfl rfl ?_
        refine wp_get fX11_19 (atd dX11_helpingLine 28 rfl) hH rfl ?_
        refine wp_get fX11_113 (atd dX11_helpingLine 29 rfl) hN rfl ?_
        refine wp_icmpN_ge (tgt := 129) (atd dX11_helpingLine 30 rfl) (by decide) (by omega) (by omega) (fun c_60 => ?_) (fun c_60 => ?_)
        · exfalso; omega
        ·
          refine wp_aload_n (atd dX11_helpingLine 31 rfl) rfl rfl ?_
          refine wp_get fX11_23 (atd dX11_helpingLine 32 rfl) hH rfl ?_
          refine wp_iload_n (atd dX11_helpingLine 33 rfl) rfl ?_
          refine wp_iload (atd dX11_helpingLine 34 rfl) rfl ?_
          refine wp_cVv hdd [_, _] (atd dX11_helpingLine 35 rfl) iX3_flip lX11_316 rfl rfl (Nat.le_of_ble_eq_true rfl) hDr rfl (eX3_flip (by omega) hDr hDA hn (net_lt hV.1) (by omega) (by omega)) (fun s_70 h_70 => ?_)
          obtain ⟨f_70, hDA⟩ := h_70
          rw [flp_t (show 0 ≠ (0 + 1) by omega) (by omega) (by omega)] at hDA
          have hDr := hDr.fr f_70 (by decide)
          have hNZ := nbt_netZ (p := 0) (q := (0 + 1)) hV.1 (by omega) (by omega) (by omega)
          have c3 : cDra s_70 := ⟨S.n, _, hn, net_lt hNZ, hDr, hDA⟩
          obtain ⟨hS, hk1⟩ := CSt.upS hS f_70.A
          have hK := hK.tr hk1
          have hH : OB s_70 0 11 (shG g) := by rw [← shF_g hg]; exact hS.1.2.2.2
          obtain ⟨n0, nb0, hGS0⟩ := hS.2.2.2.2.2 g hg
          have hTr := hGS0.1
          refine wp_aload_n (atd dX11_helpingLine 36 rfl) rfl rfl ?_
          refine wp_get fX11_83 (atd dX11_helpingLine 37 rfl) hH rfl ?_
          refine wp_cVv hdd [] (atd dX11_helpingLine 38 rfl) iX2_renew lX11_346 rfl rfl (Nat.le_of_ble_eq_true rfl) hTr rfl (eX2_renewT (by omega) hS hg hn (net_lt hNZ) hDr hDA) (fun s_77 h_77 => ?_)
          obtain ⟨hk2, hS, hDr, hDA, hGS⟩ := h_77
          have hK := hK.tr hk2
          have hH : OB s_77 0 11 (shG g) := by rw [← shF_g hg]; exact hS.1.2.2.2
          have hTr := hGS.1
          refine wp_aload_n (atd dX11_helpingLine 39 rfl) rfl rfl ?_
          refine wp_get fX11_83 (atd dX11_helpingLine 40 rfl) hH rfl ?_
          refine wp_iload_n (atd dX11_helpingLine 41 rfl) rfl ?_
          refine wp_iload_n (atd dX11_helpingLine 42 rfl) rfl ?_
          refine wp_cVr hdd [_, _] (atd dX11_helpingLine 43 rfl) iX2_solved lX11_185 rfl rfl (Nat.le_of_ble_eq_true rfl) hTr rfl (eX2_solvedT0 (by omega) hS (by omega) hg hNZ hn1 hDr hDA hGS hkd hh1 hh2 hwa) (show 1 = 1 + 0 from rfl) (show 405 = 405 + 0 from rfl) (fun r_86 s_86 h_86 => ?_)
          obtain ⟨rfl, hk3, mk2, wa, hg, hwa, hmm, hS, hDr, hDA, -, op, tn, rf, hpp, hGx⟩ := h_86
          have hK := hK.tr hk3
          have hH : OB s_86 0 11 (shG g) := by rw [← shF_g hg]; exact hS.1.2.2.2
          obtain ⟨⟨wv, op, rf, hpp, hGm⟩, htm⟩ := GMx_tm hNZ hn1 hh1 (by omega) hGx
          refine wp_astore (atd dX11_helpingLine 44 rfl) (Nat.le_of_ble_eq_true rfl) rfl ?_
          refine wp_aload_n (atd dX11_helpingLine 45 rfl) rfl rfl ?_
          refine wp_get fX11_23 (atd dX11_helpingLine 46 rfl) hH rfl ?_
          refine wp_iload_n (atd dX11_helpingLine 47 rfl) rfl ?_
          refine wp_iload (atd dX11_helpingLine 48 rfl) rfl ?_
          refine wp_cVv hdd [_, _] (atd dX11_helpingLine 49 rfl) iX3_flip lX11_316 rfl rfl (Nat.le_of_ble_eq_true rfl) hDr rfl (eX3_flip (by omega) hDr hDA hn (net_lt hNZ) (by omega) (by omega)) (fun s_98 h_98 => ?_)
          obtain ⟨f_98, hDA⟩ := h_98
          rw [flp_t (show 0 ≠ (0 + 1) by omega) (by omega) (by omega), nbt_nbt (show 0 ≠ (0 + 1) by omega)] at hDA
          have hDr := hDr.fr f_98 (by decide)
          have hGm := hGm.fr f_98 (by simp only [List.mem_cons, List.not_mem_nil, or_false]; have := (hS.1.2.1.1 _ _ hg).1; omega)
          have c3 : cDra s_98 := ⟨S.n, _, hn, net_lt hV.1, hDr, hDA⟩
          obtain ⟨hS, hk4⟩ := CSt.upS hS f_98.A
          have hK := hK.tr hk4
          have hH : OB s_98 0 11 (shG g) := by rw [← shF_g hg]; exact hS.1.2.2.2
          obtain ⟨hN, hNA⟩ := hS.2.1.2.1
          refine wp_aload (atd dX11_helpingLine 50 rfl) rfl rfl ?_
          refine wp_ifnull_r (atd dX11_helpingLine 51 rfl) ?_
          refine wp_aload (atd dX11_helpingLine 52 rfl) rfl rfl ?_
          refine wp_get fX11_189 (atd dX11_helpingLine 53 rfl) hGm rfl ?_
          refine wp_iconst (v := -1) (atd dX11_helpingLine 54 rfl) (by decide) ?_
          refine wp_icmp_eq (tgt := 123) (atd dX11_helpingLine 55 rfl) (by decide) (fun c_112 => ?_) (fun c_112 => ?_)
          ·
            rw [hlQ_n (htm.mp c_112)] at hl
            refine wp_iincN (c := 1) (atd dX11_helpingLine 62 rfl) rfl ?_
            refine wp_goto (tgt := 51) (atd dX11_helpingLine 63 rfl) (by decide) ?_
            refine wp_post (lX11_hq (σ0 := σ) (T2 := T + 2407320) (v := hlP S.nb S.n kd h S.n 0) (w := hlP S.nb S.n kd h (S.n - 1) 1) (R := trN (S.n - 1)) (by omega) hV hkd hh1 hh2 hg hwa hn1 (by omega) (by omega) (fun σ T2 y4 y5 hK hS hDr hDA hTT hv => ?_) (S.n - 2) 2 _ (T + 66870) _ (by omega) (by omega) hK hS hDr hDA (by omega) hl.symm) ?_
            ·
              have hH : OB σ 0 11 (shG g) := by rw [← shF_g hg]; exact hS.1.2.2.2
              obtain ⟨hN, hNA⟩ := hS.2.1.2.1
              refine wp_iinc (v := nI 1) (atd dX11_helpingLine 64 rfl) rfl (by decide) ?_
              refine wp_goto (tgt := 35) (atd dX11_helpingLine 65 rfl) (by decide) ?_
              exact lX11_hp (by omega) hV hkd hh1 hh2 hg hwa hn1 (by omega) (S.n - 1) 1 σ T2 y4 y5 (by omega) hK hS hDr hDA hTT hv
            · rintro v s ⟨r, rfl, h1, h2, h3⟩
              exact ⟨_, rfl, h1, h2, mk2, hmm, h3⟩
          ·
            refine wp_bipush (v := nI 16) (atd dX11_helpingLine 56 rfl) (by decide) ?_
            refine wp_iload_n (atd dX11_helpingLine 57 rfl) rfl ?_
            refine wp_imulN (atd dX11_helpingLine 58 rfl) ?_
            refine wp_iload (atd dX11_helpingLine 59 rfl) rfl ?_
            refine wp_iaddN (atd dX11_helpingLine 60 rfl) ?_
            refine wp_ireti (atd dX11_helpingLine 61 rfl) rfl ?_
            exact ⟨by rw [hl, hlQ_y (fun e => c_112 (htm.mpr e))]; rfl, hK, mk2, hmm, CSt_T hS (by omega)⟩
theorem eX11_helpingLine {G : Gx} {d : Nat} {σ : Hp} (hd : 7 ≤ d) {S : Ab} {kd h T : Nat} {mk : Nat → Option Nat} (hV : AbV S) (hS : CSt S σ mk T) (hkd : kd < 3) (hh1 : 1 ≤ h) (hh2 : h ≤ 2) (hn1 : 1 ≤ S.n) (hT0 : T + 2407320 + 245390 < 2 ^ 31) : Cl G mX11_helpingLine d [.ref 0, .int (nI kd), .int (nI h)] σ 23 3537 (pI fun r s => r = oI (hlP S.nb S.n kd h S.n 0) ∧ fK σ s ∧ ∃ mk2, (∀ i, i < 12 → mk2 i = mk i) ∧ CSt S s mk2 (T + 2407320)) := by
  obtain ⟨d0, hdd⟩ : ∃ e, d = e + 1 := ⟨d - 1, by omega⟩
  refine cl_of (by decide) (by simp [Value.category]) (Nat.le_of_ble_eq_true rfl) ?_
  show Wp G mX11_helpingLine d 0 [.ref 0, .int (nI kd), .int (nI h), .double 0, .double 0, .double 0] [] σ 23 3537 _
  cases hg : mk 12 with
  | some g =>
    have hH : OB σ 0 11 (shG g) := by rw [← shF_g hg]; exact hS.1.2.2.2
    refine wp_aload_n (atd dX11_helpingLine 0 rfl) rfl rfl ?_
    refine wp_get fX11_83 (atd dX11_helpingLine 1 rfl) hH rfl ?_
    refine wp_ifnonnull_r (tgt := 22) (atd dX11_helpingLine 2 rfl) (by decide) ?_
    exact wp_le (by omega) (by omega) (bX11_help (by omega) hV hS hkd hh1 hh2 hg hn1 hT0)
  | none =>
    have hH : OB σ 0 11 [.ref 1, .ref 5, .ref 7, .ref 9, .ref 12, .ref 34, .ref 37, .ref 39, .ref 43, .ref 44, .null] := by have := hS.1.2.2.2; unfold shF at this; rw [hg] at this; exact this
    obtain ⟨g, hs⟩ : ∃ g, σ.1 = g := ⟨_, rfl⟩
    have h104 := hS.1.1
    have hF : fA [0] σ σ := fA.rf
    refine wp_aload_n (atd dX11_helpingLine 0 rfl) rfl rfl ?_
    refine wp_get fX11_83 (atd dX11_helpingLine 1 rfl) hH rfl ?_
    refine wp_ifnonnull_n (atd dX11_helpingLine 2 rfl) ?_
    refine wp_aload_n (atd dX11_helpingLine 3 rfl) rfl rfl ?_
    refine wp_newOb (mc := 22) (ms := 3531) (fs := [.null, .null, .null, .null, .null, .null]) kcX2 (atd dX11_helpingLine 4 rfl) kX11_33 nX2 oX2 (by decide) (by decide) (fun σ f_8 hz hTr => ?_)
    rw [hs] at hTr ⊢
    have hs : σ.1 = g + 1 := by omega
    have hH := hH.fA f_8 (by omega) List.not_mem_nil
    have hF := hF.tr f_8 (by simp)
    refine wp_dup (atd dX11_helpingLine 5 rfl) rfl ?_
    refine wp_aload_n (atd dX11_helpingLine 6 rfl) rfl rfl ?_
    refine wp_get fX11_23 (atd dX11_helpingLine 7 rfl) hH rfl ?_
    refine wp_cIv hdd [_] (atd dX11_helpingLine 8 rfl) iX2_init lX11_35 rfl rfl (Nat.le_of_ble_eq_true rfl) (eX2_init (by omega) hs hTr) (show 22 = 21 + 1 from rfl) (show 3531 = 3126 + 405 from rfl) (fun s_16 h_16 => ?_)
    obtain ⟨hs, f_16, hGS⟩ := h_16
    have hH := hH.fA f_16 (by omega) (by simp only [List.mem_cons, List.not_mem_nil, or_false]; omega)
    have hF := hF.trN f_16 (fun j hj => by simp only [List.mem_cons, List.not_mem_nil, or_false] at hj ⊢; omega)
    refine wp_putX fX11_83 (atd dX11_helpingLine 9 rfl) hH rfl (Nat.le_of_ble_eq_true rfl) (fun σ f_19 hH => ?_)
    have hs : σ.1 = g + 22 := by rw [f_19.1]; exact hs
    have hF := hF.trN f_19.A (fun j hj => Or.inl hj)
    have hGS := hGS.kp (s := σ) (fun j h1 h2 => f_19.2 j (by simp only [List.mem_cons, List.not_mem_nil, or_false]; omega)) (fun i a q => by cases q)
    have e12 : va_up mk 12 (some g) 12 = some g := by unfold va_up; rw [if_pos rfl]
    obtain ⟨hS2, hk9⟩ := hS.mkT (s := σ) hg (by assumption) hs hF hGS (by rw [shF_g e12]; exact hH)
    refine wp_post (bX11_help (by omega) hV hS2 hkd hh1 hh2 e12 hn1 hT0) ?_
    rintro v s ⟨r, rfl, h1, h2, mk2, h3, h4⟩
    exact ⟨_, rfl, h1, hk9.tr h2, mk2, fun i hi => (h3 i hi).trans (by unfold va_up; rw [if_neg (by omega)]), h4⟩
