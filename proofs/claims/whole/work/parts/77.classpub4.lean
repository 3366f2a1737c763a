noncomputable def FW (nb : Nat → Nat) (n : Nat) (a : Int32) (y h : Nat) : Int32 := if 0 < n then atP a 3 (fun kd => fwF nb n kd y h) (-1) else -1
theorem FW_0 (nb : Nat → Nat) (n : Nat) (a : Int32) (h : Nat) : FW nb n a 0 h = -1 := by
  unfold FW atP
  split
  · split <;> rfl
  · rfl
theorem FW_n {nb : Nat → Nat} {n y h : Nat} {a : Int32} (h1 : 1 ≤ h) (h3 : h ≤ 3) (hG : ¬ isG a (nI h) n) : FW nb n a (y + 1) h = FW nb n a y (h + 1) := by
  have hx : ¬ (isP a 3 ∧ 0 < n) := fun z => hG ⟨z.1, ⟨by rw [nI_toInt (by omega)]; omega, by rw [nI_toInt (by omega)]; omega⟩, z.2⟩
  unfold FW atP
  by_cases e : 0 < n
  · rw [if_pos e, if_pos e, if_neg (fun z => hx ⟨z, e⟩), if_neg (fun z => hx ⟨z, e⟩)]
  · rw [if_neg e, if_neg e]
theorem FW_k {nb : Nat → Nat} {n y h kd : Nat} (hk : kd < 3) (hn : 0 < n) : FW nb n (nI kd) y h = fwF nb n kd y h := by
  unfold FW atP
  rw [if_pos hn, if_pos ((isP_nI (by omega)).mpr hk), nI_clamp (by omega)]
theorem oI_m9 {v : Option Nat} (hv : ∀ x, v = some x → x < 1000000) : oI v = -1 ↔ v = none := by
  cases v with
  | none => exact ⟨fun _ => rfl, fun _ => rfl⟩
  | some x => exact ⟨fun z => absurd z (nI_m1 (by have := hv x rfl; omega)), fun z => (by cases z)⟩
theorem lX11_fewest {G : Gx} {d : Nat} (hd : 7 ≤ d) {S : Ab} {m0 : Option Nat} {σ0 : Hp} {T0 : Nat} (hV : AbV S) (hT0 : T0 + 735770 < 2 ^ 31) {a : Int32} : ∀ (y : Nat) (h0 : Nat) (σ : Hp) (mk : Nat → Option Nat) (T : Nat) (v3 : Value), h0 + y = 4 → 1 ≤ h0 → mk 0 = m0 → fK σ0 σ → CSt S σ mk T → T + y * 245190 ≤ T0 + 735570 → Wp G mX11_fewest d 2 [.ref 0, .int a, .int (nI h0), v3] [] σ y (y * 1485) (pI fun r s => r = FW S.nb S.n a y h0 ∧ fK σ0 s ∧ ∃ mk2, mk2 0 = m0 ∧ CSt S s mk2 (T0 + 735570)) := by
  obtain ⟨d0, hdd⟩ : ∃ e, d = e + 1 := ⟨d - 1, by omega⟩
  intro y
  induction y with
  | zero =>
    intro h0 σ mk T v3 hi hi1 hM0 hK hS hT
    have hH := hS.1.2.2.2
    have hn := hV.1.1.1
    have hGo := hS.2.2.1.1.1
    obtain rfl : h0 = 4 := by omega
    refine wp_iload_n (atd dX11_fewest 2 rfl) rfl ?_
    refine wp_iconst (v := nI 3) (atd dX11_fewest 3 rfl) (by decide) ?_
    refine wp_icmpN_gt (tgt := 37) (atd dX11_fewest 4 rfl) (by decide) (by omega) (by omega) (fun c_4 => ?_) (fun c_4 => ?_)
    ·
      refine wp_iconst (v := -1) (atd dX11_fewest 21 rfl) (by decide) ?_
      refine wp_ireti (atd dX11_fewest 22 rfl) rfl ?_
      exact ⟨(FW_0 _ _ _ _).symm, hK, mk, hM0, CSt_T hS (by omega)⟩
    · exfalso; omega
  | succ y ih =>
    intro h0 σ mk T v3 hi hi1 hM0 hK hS hT
    have hH := hS.1.2.2.2
    have hn := hV.1.1.1
    have hGo := hS.2.2.1.1.1
    refine wp_iload_n (atd dX11_fewest 2 rfl) rfl ?_
    refine wp_iconst (v := nI 3) (atd dX11_fewest 3 rfl) (by decide) ?_
    refine wp_icmpN_gt (tgt := 37) (atd dX11_fewest 4 rfl) (by decide) (by omega) (by omega) (fun c_4 => ?_) (fun c_4 => ?_)
    · exfalso; omega
    ·
      refine wp_aload_n (atd dX11_fewest 5 rfl) rfl rfl ?_
      refine wp_get fX11_38 (atd dX11_fewest 6 rfl) hH rfl ?_
      refine wp_iload_n (atd dX11_fewest 7 rfl) rfl ?_
      refine wp_iload_n (atd dX11_fewest 8 rfl) rfl ?_
      refine wp_cVr hdd [_, _] (atd dX11_fewest 9 rfl) iX2_solved lX11_185 rfl rfl (Nat.le_of_ble_eq_true rfl) hGo rfl (eX2_solvedC (by omega) hV hS (by omega)) (show y + 1 = 1 + y by omega) (show (y + 1) * 1485 = 1485 + y * 1485 by omega) (fun r_13 s_13 h_13 => ?_)
      obtain ⟨hK2, mk2, hm0, hS, hA⟩ := h_13
      have hK := hK.tr hK2
      have hH := hS.1.2.2.2
      have hGo := hS.2.2.1.1.1
      rcases hA with ⟨hG, rfl⟩ | ⟨kd, h, rfl, eh, hkd, hh1, hh3, hn0, rfl, op, tn, rf, hp, hGx⟩
      ·
        refine wp_astore_n (atd dX11_fewest 10 rfl) (Nat.le_of_ble_eq_true rfl) rfl ?_
        refine wp_aload_n (atd dX11_fewest 11 rfl) rfl rfl ?_
        refine wp_ifnull_n (tgt := 31) (atd dX11_fewest 12 rfl) (by decide) ?_
        refine wp_iincN (c := 1) (atd dX11_fewest 19 rfl) rfl ?_
        refine wp_goto (tgt := 2) (atd dX11_fewest 20 rfl) (by decide) ?_
        rw [FW_n hi1 (by omega) hG]
        exact ih (h0 + 1) _ mk2 _ _ (by omega) (by omega) (hm0.trans hM0) hK hS (by omega)
      ·
        obtain rfl := nI_inj9 (by omega) (by omega) eh
        obtain ⟨hGm, hX, hRd⟩ := id hGx
        obtain ⟨wa, wo, ew, hWo, ⟨⟨w, hFin⟩, hwb, rfl, rfl, rfl⟩, hhp⟩ := hRd rfl
        have hR := rowsL_pos S.n (by omega) hn0 h0 (by omega) hh1
        have hst : stF S.nb S.n h0 kd < (rowsL h0 S.n).length := srF_lt hR
        have htm := oI_m9 (v := tmF S.nb S.n h0 kd) (gtF_lt hV.1 hh1 hh3 hFin hst)
        have hfw : fwF S.nb S.n kd (y + 1) h0 = if tmF S.nb S.n h0 kd = none then fwF S.nb S.n kd y (h0 + 1) else nI h0 := rfl
        refine wp_astore_n (atd dX11_fewest 10 rfl) (Nat.le_of_ble_eq_true rfl) rfl ?_
        refine wp_aload_n (atd dX11_fewest 11 rfl) rfl rfl ?_
        refine wp_ifnull_r (atd dX11_fewest 12 rfl) ?_
        refine wp_aload_n (atd dX11_fewest 13 rfl) rfl rfl ?_
        refine wp_get fX11_189 (atd dX11_fewest 14 rfl) hGm rfl ?_
        refine wp_iconst (v := -1) (atd dX11_fewest 15 rfl) (by decide) ?_
        refine wp_icmp_eq (tgt := 31) (atd dX11_fewest 16 rfl) (by decide) (fun c_26 => ?_) (fun c_26 => ?_)
        ·
          refine wp_iincN (c := 1) (atd dX11_fewest 19 rfl) rfl ?_
          refine wp_goto (tgt := 2) (atd dX11_fewest 20 rfl) (by decide) ?_
          rw [FW_k hkd hn0, hfw, if_pos (htm.mp c_26), ← FW_k hkd hn0]
          exact ih (h0 + 1) _ mk2 _ _ (by omega) (by omega) (hm0.trans hM0) hK hS (by omega)
        ·
          refine wp_iload_n (atd dX11_fewest 17 rfl) rfl ?_
          refine wp_ireti (atd dX11_fewest 18 rfl) rfl ?_
          exact ⟨by rw [FW_k hkd hn0, hfw, if_neg (fun z => c_26 (htm.mpr z))], hK, mk2, hm0.trans hM0, CSt_T hS (by omega)⟩
theorem vX11_fewest {G : Gx} {d : Nat} {σ : Hp} (hd : 7 ≤ d) {S : Ab} {mk : Nat → Option Nat} {T : Nat} (hV : AbV S) (hS : CSt S σ mk T) (hT0 : T + 735770 < 2 ^ 31) {a : Int32} : Cl G mX11_fewest d [.ref 0, .int a] σ 3 4455 (pI fun r s => r = FW S.nb S.n a 3 1 ∧ fK σ s ∧ ∃ mk2, mk2 0 = mk 0 ∧ CSt S s mk2 (T + 735570)) := by
  obtain ⟨d0, hdd⟩ : ∃ e, d = e + 1 := ⟨d - 1, by omega⟩
  refine cl_of (by decide) (by simp [Value.category]) (Nat.le_of_ble_eq_true rfl) ?_
  show Wp G mX11_fewest d 0 [.ref 0, .int a, .double 0, .double 0] [] σ 3 4455 _
  refine wp_iconst (v := nI 1) (atd dX11_fewest 0 rfl) (by decide) ?_
  refine wp_istore_n (atd dX11_fewest 1 rfl) (Nat.le_of_ble_eq_true rfl) ?_
  exact lX11_fewest hd hV hT0 3 1 σ mk T _ (by omega) (by omega) rfl fK.rf hS (by omega)
theorem rfP_none {u : Nat → Option Nat} {i kk : Nat} : ∀ (k p c : Nat), c + fl (ncR u) k p 0 ≤ kk → rfP u i kk k p c = (none, c + fl (ncR u) k p 0)
  | 0, _, _, _ => rfl
  | k + 1, p, c, h => by
    have e : fl (ncR u) (k + 1) p 0 = ncR u p 0 + fl (ncR u) k (p + 1) 0 := ncR_add u k (p + 1) (ncR u p 0)
    rw [e] at h ⊢
    unfold rfP
    unfold ncR at h ⊢
    by_cases z : u p = none
    · rw [if_pos z] at h ⊢
      rw [if_pos z, if_neg (by omega)]
      have := rfP_none (u := u) (i := i) (kk := kk) k (p + 1) (c + 1) (by unfold ncR; omega)
      rw [this]
      unfold ncR
      congr 1
      omega
    · rw [if_neg z] at h ⊢
      rw [if_neg z]
      have := rfP_none (u := u) (i := i) (kk := kk) k (p + 1) c (by unfold ncR; omega)
      rw [this]
      unfold ncR
      congr 1
      omega
theorem ncS_add (w : Wo) (n : Nat) : ∀ (k i a : Nat), fl (fun i a => fl (ncR (w i)) n 0 a) k i a = a + fl (fun i a => fl (ncR (w i)) n 0 a) k i 0
  | 0, _, _ => rfl
  | k + 1, i, a => by
    show fl _ k (i + 1) (fl (ncR (w i)) n 0 a) = a + fl _ k (i + 1) (fl (ncR (w i)) n 0 0)
    rw [ncS_add w n k (i + 1) (fl (ncR (w i)) n 0 a), ncS_add w n k (i + 1) (fl (ncR (w i)) n 0 0), ncR_add (w i) n 0 a]
    omega
theorem rfR_none {w : Wo} {n kk : Nat} : ∀ (k i c : Nat), c + fl (fun i a => fl (ncR (w i)) n 0 a) k i 0 ≤ kk → rfR w n kk k i c = none
  | 0, _, _, _ => rfl
  | k + 1, i, c, h => by
    have e : fl (fun i a => fl (ncR (w i)) n 0 a) (k + 1) i 0 = fl (ncR (w i)) n 0 0 + fl (fun i a => fl (ncR (w i)) n 0 a) k (i + 1) 0 := ncS_add w n k (i + 1) _
    rw [e] at h
    unfold rfR
    rw [rfP_none n 0 c (by omega)]
    exact rfR_none k (i + 1) _ (by omega)
theorem rf_none {w : Wo} {n R kk : Nat} (h : nc w n R ≤ kk) : rfF w n R kk = none := rfR_none R 0 0 (by unfold nc at h; omega)
theorem atP_const (e : Int32) (k : Nat) (f : Nat → Int32) (hf : ∀ j, f j = -1) : atP e k f (-1) = -1 := by
  unfold atP
  split
  · exact hf _
  · rfl
theorem ref_none {nb : Nat → Nat} {n kd h : Nat} {c e : Int32} (hr : rfF (slvF nb n h kd) n (rowsL h n).length c.toNatClampNeg = none) : atP e (h + 1) (refF nb n kd h c) (-1) = -1 := atP_const e _ _ (fun j => by unfold refF; rw [hr])
theorem ref_some {nb : Nat → Nat} {n kd h x : Nat} {c : Int32} (hr : rfF (slvF nb n h kd) n (rowsL h n).length c.toNatClampNeg = some x) (j : Nat) : refF nb n kd h c j = if j = 0 then nI (x % 9) else nI (rk (rowAt (rowsL h n) (x / 9)) (j - 1)) := by unfold refF; rw [hr]
theorem le_of_nlt {c : Int32} {k : Nat} (hk : k < 2 ^ 31) (h0 : ¬ c < 0) (h : ¬ c < nI k) : k ≤ c.toNatClampNeg := by
  rw [Int32.lt_iff_toInt_lt, show (0 : Int32).toInt = 0 from by decide] at h0
  rw [Int32.lt_iff_toInt_lt, nI_toInt hk] at h
  have : (c.toNatClampNeg : Int) = c.toInt := by
    show ((c.toInt.toNat : Nat) : Int) = _
    omega
  omega
theorem in_of_lt {c : Int32} {k : Nat} (hk : k < 2 ^ 31) (h0 : ¬ c < 0) (h : c < nI k) : ∃ j, j < k ∧ c = nI j := by
  rw [Int32.lt_iff_toInt_lt, show (0 : Int32).toInt = 0 from by decide] at h0
  rw [Int32.lt_iff_toInt_lt, nI_toInt hk] at h
  exact isP_ofB (n := k) (p := c) ⟨by omega, by omega⟩
theorem ref_out {e : Int32} {f : Nat → Int32} (h : Nat) (hh3 : h ≤ 3) (ho : e < nI 1 ∨ ¬ e ≤ nI 3) (h0 : e ≠ 0) : atP e (h + 1) f (-1) = -1 := by
  unfold atP
  refine if_neg (fun z => ?_)
  rcases ho with q | q
  · rw [Int32.lt_iff_toInt_lt, show (nI 1).toInt = 1 from by decide] at q
    have := z.1
    exact h0 (Int32.toInt_inj.mp (by rw [show (0 : Int32).toInt = 0 from by decide]; omega))
  · rw [Int32.le_iff_toInt_le, show (nI 3).toInt = 3 from by decide] at q
    have := z.2
    omega
theorem ref_in {h n x : Nat} {e : Int32} {f : Nat → Int32} (hh1 : 1 ≤ h) (hh3 : h ≤ 3) (hn : n ≤ 9) (hx : x / 9 < (rowsL h n).length) (h1 : ¬ e < nI 1) (h2 : e ≤ nI 3) (hf : ∀ j, f j = if j = 0 then nI (x % 9) else nI (rk (rowAt (rowsL h n) (x / 9)) (j - 1))) : atP (e - nI 1) 3 (fun i => if rk (rlA (xi h n (x / 9))) i = 9 then -1 else nI (rk (rlA (xi h n (x / 9))) i)) (-1) = atP e (h + 1) f (-1) := by
  rw [hAt_eq hh1 hh3 hn hx]
  rw [Int32.lt_iff_toInt_lt, show (nI 1).toInt = 1 from by decide] at h1
  rw [Int32.le_iff_toInt_le, show (nI 3).toInt = 3 from by decide] at h2
  obtain ⟨j, hj, rfl⟩ := isP_ofB (n := 4) (p := e) ⟨by omega, by omega⟩
  rw [nI_toInt (by omega)] at h1
  rw [pk_sub (by omega : 1 ≤ j)]
  unfold atP
  by_cases q : j < h + 1
  · rw [if_pos ((isP_nI (by omega)).mpr (by omega)), if_pos ((isP_nI (by omega)).mpr q), nI_clamp (by omega), nI_clamp (by omega), hf, if_neg (by omega)]
  · rw [if_neg (fun z => q (by have := (isP_nI (by omega)).mp z; omega)), if_neg (fun z => q ((isP_nI (by omega)).mp z))]
theorem vX11_refusal {G : Gx} {d : Nat} {σ : Hp} (hd : 7 ≤ d) {S : Ab} {mk : Nat → Option Nat} {T : Nat} (hV : AbV S) (hS : CSt S σ mk T) (hT0 : T + 245390 < 2 ^ 31) {a b c e : Int32} : Cl G mX11_refusal d [.ref 0, .int a, .int b, .int c, .int e] σ 1 1485 (pI fun r s => r = gmF a b S.n (fun kd h => if c < 0 then -1 else atP e (h + 1) (refF S.nb S.n kd h c) (-1)) (-1) ∧ fK σ s ∧ ∃ mk2, mk2 0 = mk 0 ∧ CSt S s mk2 (T + 245190)) := by
  obtain ⟨d0, hdd⟩ : ∃ e, d = e + 1 := ⟨d - 1, by omega⟩
  refine cl_of (by decide) (by simp [Value.category]) (Nat.le_of_ble_eq_true rfl) ?_
  show Wp G mX11_refusal d 0 [.ref 0, .int a, .int b, .int c, .int e, .double 0, .double 0] [] σ 1 1485 _
  have hH := hS.1.2.2.2
  have hn := hV.1.1.1
  have hw := net_lt hV.1
  have hGo := hS.2.2.1.1.1
  refine wp_aload_n (atd dX11_refusal 0 rfl) rfl rfl ?_
  refine wp_get fX11_38 (atd dX11_refusal 1 rfl) hH rfl ?_
  refine wp_iload_n (atd dX11_refusal 2 rfl) rfl ?_
  refine wp_iload_n (atd dX11_refusal 3 rfl) rfl ?_
  refine wp_cVr hdd [_, _] (atd dX11_refusal 4 rfl) iX2_solved lX11_185 rfl rfl (Nat.le_of_ble_eq_true rfl) hGo rfl (eX2_solvedC (by omega) hV hS hT0) (show 1 = 1 + 0 from rfl) (show 1485 = 1485 + 0 from rfl) (fun r_6 s_6 h_6 => ?_)
  obtain ⟨hK, mk2, hm0, hS, hA⟩ := h_6
  have hH := hS.1.2.2.2
  have hGo := hS.2.2.1.1.1
  rcases hA with ⟨hG, rfl⟩ | ⟨kd, h, rfl, rfl, hkd, hh1, hh3, hn0, rfl, op, tn, rf, hp, hGx⟩
  ·
    refine wp_astore (atd dX11_refusal 5 rfl) (Nat.le_of_ble_eq_true rfl) rfl ?_
    refine wp_aload (atd dX11_refusal 6 rfl) rfl rfl ?_
    refine wp_ifnull_n (tgt := 29) (atd dX11_refusal 7 rfl) (by decide) ?_
    refine wp_iconst (v := -1) (atd dX11_refusal 14 rfl) (by decide) ?_
    refine wp_ireti (atd dX11_refusal 15 rfl) rfl ?_
    exact ⟨(gmF_f hG).symm, hK, mk2, hm0, hS⟩
  ·
    obtain ⟨hGm, hX, hRd⟩ := id hGx
    obtain ⟨wa, wo, ew, hWo, ⟨⟨w, hFin⟩, hwb, rfl, rfl, rfl⟩, hhp⟩ := hRd rfl
    have hR := rowsL_len S.n (by omega) h (by omega)
    have hfl := frN_le h hh1 hh3
    rw [ew] at hGm
    have hGm : OB s_6 (12 + 13 + gix kd h) 1 (gaF kd (frN h) (frN (h + 1)) _ (.ref wa) _ _ (nI (nc (slvF S.nb S.n h kd) S.n (rowsL h S.n).length)) hp) := hGm
    obtain ⟨hTz, hLz, tz, lz, hFS, htz⟩ := hS.2.2.1.1.2.2.1
    obtain ⟨hN, hNA⟩ := hS.2.1.2.1
    have hRo := hFS.ob
    have hnc : nc (slvF S.nb S.n h kd) S.n (rowsL h S.n).length < 2 ^ 31 := by have := nc_bound (w := slvF S.nb S.n h kd) (n := S.n) (R := (rowsL h S.n).length); have := Nat.mul_le_mul hR (show S.n ≤ 9 from hn); omega
    refine wp_astore (atd dX11_refusal 5 rfl) (Nat.le_of_ble_eq_true rfl) rfl ?_
    refine wp_aload (atd dX11_refusal 6 rfl) rfl rfl ?_
    refine wp_ifnull_r (atd dX11_refusal 7 rfl) ?_
    refine wp_iload_n (atd dX11_refusal 8 rfl) rfl ?_
    refine wp_if_lt (tgt := 29) (atd dX11_refusal 9 rfl) (by decide) (fun c_17 => ?_) (fun c_17 => ?_)
    ·
      refine wp_iconst (v := -1) (atd dX11_refusal 14 rfl) (by decide) ?_
      refine wp_ireti (atd dX11_refusal 15 rfl) rfl ?_
      exact ⟨by rw [gmF_t hkd hh1 hh3 hn0]; exact (if_pos c_17).symm, hK, mk2, hm0, hS⟩
    ·
      refine wp_iload_n (atd dX11_refusal 10 rfl) rfl ?_
      refine wp_aload (atd dX11_refusal 11 rfl) rfl rfl ?_
      refine wp_get fX11_212 (atd dX11_refusal 12 rfl) hGm rfl ?_
      refine wp_icmp_lt (tgt := 31) (atd dX11_refusal 13 rfl) (by decide) (fun c_26 => ?_) (fun c_26 => ?_)
      ·
        obtain ⟨c0, hc0, rfl⟩ := in_of_lt hnc c_17 c_26
        refine wp_aload_n (atd dX11_refusal 16 rfl) rfl rfl ?_
        refine wp_get fX11_38 (atd dX11_refusal 17 rfl) hH rfl ?_
        refine wp_aload (atd dX11_refusal 18 rfl) rfl rfl ?_
        refine wp_iload_n (atd dX11_refusal 19 rfl) rfl ?_
        refine wp_cVi hdd [_, _] (atd dX11_refusal 20 rfl) iX2_refusedCouple lX11_215 rfl rfl (Nat.le_of_ble_eq_true rfl) hGo rfl (eX2_refusedCouple (by omega) hN hNA hn hw hGo hGm hWo (by omega) hwb hRo hTz hkd (by omega) (by omega)) (fun r_38 s_38 h_38 => ?_)
        obtain ⟨rfl, e_38⟩ := h_38
        obtain rfl := e_38.symm
        rw [cdR_rf hV.1 hh1 hh3 hFin c0]
        cases er : rfF (slvF S.nb S.n h kd) S.n (rowsL h S.n).length c0
        ·
          show Wp G mX11_refusal d 41 _ (.int (-1) :: _) _ _ _ _
          refine wp_istore (atd dX11_refusal 21 rfl) (Nat.le_of_ble_eq_true rfl) ?_
          refine wp_iload (atd dX11_refusal 22 rfl) rfl ?_
          refine wp_iconst (v := -1) (atd dX11_refusal 23 rfl) (by decide) ?_
          refine wp_icmp_ne (tgt := 51) (atd dX11_refusal 24 rfl) (by decide) (fun c_46 => ?_) (fun c_46 => ?_)
          · exact absurd rfl c_46
          ·
            refine wp_iconst (v := -1) (atd dX11_refusal 25 rfl) (by decide) ?_
            refine wp_ireti (atd dX11_refusal 26 rfl) rfl ?_
            refine ⟨?_, hK, mk2, hm0, hS⟩
            rw [gmF_t hkd hh1 hh3 hn0]
            rw [if_neg c_17]
            rw [ref_none (by rw [nI_clamp (by omega)]; exact er)]
        ·
          rename_i y
          show Wp G mX11_refusal d 41 _ (.int (nI (9 * xi h S.n (y / 9) + y % 9)) :: _) _ _ _ _
          have hy : y / 9 < (rowsL h S.n).length := (rfF_lt er).elim (fun z => z.1) (fun z => absurd hn z)
          have hx9 := xi_lt hh1 hh3 hn hy
          refine wp_istore (atd dX11_refusal 21 rfl) (Nat.le_of_ble_eq_true rfl) ?_
          refine wp_iload (atd dX11_refusal 22 rfl) rfl ?_
          refine wp_iconst (v := -1) (atd dX11_refusal 23 rfl) (by decide) ?_
          refine wp_icmp_ne (tgt := 51) (atd dX11_refusal 24 rfl) (by decide) (fun c_46 => ?_) (fun c_46 => ?_)
          ·
            refine wp_iload (atd dX11_refusal 27 rfl) rfl ?_
            refine wp_if_ne (tgt := 62) (atd dX11_refusal 28 rfl) (by decide) (fun c_53 => ?_) (fun c_53 => ?_)
            ·
              refine wp_iload (atd dX11_refusal 33 rfl) rfl ?_
              refine wp_iconst (v := nI 1) (atd dX11_refusal 34 rfl) (by decide) ?_
              refine wp_icmp_lt (tgt := 74) (atd dX11_refusal 35 rfl) (by decide) (fun c_65 => ?_) (fun c_65 => ?_)
              ·
                refine wp_iconst (v := -1) (atd dX11_refusal 39 rfl) (by decide) ?_
                refine wp_ireti (atd dX11_refusal 40 rfl) rfl ?_
                refine ⟨?_, hK, mk2, hm0, hS⟩
                rw [gmF_t hkd hh1 hh3 hn0]
                rw [if_neg c_17]
                exact (ref_out h hh3 (Or.inl c_65) c_53).symm
              ·
                refine wp_iload (atd dX11_refusal 36 rfl) rfl ?_
                refine wp_iconst (v := nI 3) (atd dX11_refusal 37 rfl) (by decide) ?_
                refine wp_icmp_le (tgt := 76) (atd dX11_refusal 38 rfl) (by decide) (fun c_71 => ?_) (fun c_71 => ?_)
                ·
                  refine wp_aload_n (atd dX11_refusal 41 rfl) rfl rfl ?_
                  refine wp_get fX11_38 (atd dX11_refusal 42 rfl) hH rfl ?_
                  refine wp_get fX11_58 (atd dX11_refusal 43 rfl) hGo rfl ?_
                  refine wp_iload (atd dX11_refusal 44 rfl) rfl ?_
                  refine wp_bipush (v := nI 9) (atd dX11_refusal 45 rfl) (by decide) ?_
                  refine wp_idivN (atd dX11_refusal 46 rfl) (by omega) (by omega) (by omega) ?_
                  rw [show (9 * xi h S.n (y / 9) + y % 9) / 9 = xi h S.n (y / 9) by omega]
                  refine wp_iload (atd dX11_refusal 47 rfl) rfl ?_
                  refine wp_iconst (v := nI 1) (atd dX11_refusal 48 rfl) (by decide) ?_
                  refine wp_isub (atd dX11_refusal 49 rfl) ?_
                  refine wp_cVi hdd [_, _] (atd dX11_refusal 50 rfl) iX5_hunterAt lX11_197 rfl rfl (Nat.le_of_ble_eq_true rfl) hRo rfl (eX5_hunterAt (by omega) hRo hTz (by omega)) (fun r_92 s_92 h_92 => ?_)
                  obtain ⟨rfl, e_92⟩ := h_92
                  obtain rfl := e_92.symm
                  refine wp_ireti (atd dX11_refusal 51 rfl) rfl ?_
                  refine ⟨?_, hK, mk2, hm0, hS⟩
                  rw [gmF_t hkd hh1 hh3 hn0]
                  rw [if_neg c_17]
                  exact ref_in hh1 hh3 hn hy c_65 c_71 (ref_some (by rw [nI_clamp (by omega)]; exact er))
                ·
                  refine wp_iconst (v := -1) (atd dX11_refusal 39 rfl) (by decide) ?_
                  refine wp_ireti (atd dX11_refusal 40 rfl) rfl ?_
                  refine ⟨?_, hK, mk2, hm0, hS⟩
                  rw [gmF_t hkd hh1 hh3 hn0]
                  rw [if_neg c_17]
                  exact (ref_out h hh3 (Or.inr c_71) c_53).symm
            ·
              refine wp_iload (atd dX11_refusal 29 rfl) rfl ?_
              refine wp_bipush (v := nI 9) (atd dX11_refusal 30 rfl) (by decide) ?_
              refine wp_iremN (atd dX11_refusal 31 rfl) (by omega) (by omega) (by omega) ?_
              refine wp_ireti (atd dX11_refusal 32 rfl) rfl ?_
              refine ⟨?_, hK, mk2, hm0, hS⟩
              rw [gmF_t hkd hh1 hh3 hn0]
              rw [if_neg c_17]
              unfold atP
              rw [show e = nI 0 from Classical.not_not.mp c_53, if_pos ((isP_nI (by omega)).mpr (by omega)), nI_clamp (by omega), ref_some (by rw [nI_clamp (by omega)]; exact er), if_pos rfl, show (9 * xi h S.n (y / 9) + y % 9) % 9 = y % 9 by omega]
          · exact absurd (fun e => nI_m1 (by omega) e) c_46
      ·
        refine wp_iconst (v := -1) (atd dX11_refusal 14 rfl) (by decide) ?_
        refine wp_ireti (atd dX11_refusal 15 rfl) rfl ?_
        refine ⟨?_, hK, mk2, hm0, hS⟩
        rw [gmF_t hkd hh1 hh3 hn0]
        rw [if_neg c_17, ref_none (rf_none (le_of_nlt hnc c_17 c_26))]
