theorem rowsL_pos : ∀ n, n < 10 → 1 ≤ n → ∀ h, h < 4 → 1 ≤ h → 1 ≤ (rowsL h n).length := by decide +kernel
noncomputable def stF (nb : Nat → Nat) (n h kd : Nat) : Nat := srF (slvF nb n h kd) n (rowsL h n).length
noncomputable def tmF (nb : Nat → Nat) (n h kd : Nat) : Option Nat := gtF (slvF nb n h kd) n (stF nb n h kd)
theorem srF_lt {w : Wo} {n R : Nat} (hR : 1 ≤ R) : srF w n R < R := by
  have h : ∀ (k i b : Nat), i + k ≤ R → b < R → fl (srG (gtF w n)) k i b < R := by
    intro k
    induction k with
    | zero => intro i b _ hb; exact hb
    | succ k ih =>
      intro i b hi hb
      refine ih (i + 1) _ (by omega) ?_
      unfold srG
      split
      · exact hb
      · split
        · omega
        · split <;> omega
  exact h (R - 1) 1 0 (by omega) (by omega)
theorem tmF_le {nb : Nat → Nat} {n h kd : Nat} {α : Nat → Int32} {B : Nat → Nat → Int32} (hG : GSol α B nb n kd h) (hR : 1 ≤ (rowsL h n).length) : ∀ y, tmF nb n h kd = some y → y ≤ 4000 := gtF_le hG.2.2.2.2.2.2 (srF_lt hR)
/-- the state behind an asking of games -/
def GX (σ s : Hp) (m : Nat) (α : Nat → Int32) (B : Nat → Nat → Int32) (nb : Nat → Nat) (n : Nat) : Prop := ∃ α1 B1, MA σ s m α1 B1 ∧ frm [0, 19, 20, 32, 33] α α1 ∧ frm [7, 9, 10, 11, 12] B B1 ∧ α1 0 = nI 0 ∧ GOk α1 B1 nb n
noncomputable def gmF (a b : Int32) (n : Nat) (f : Nat → Nat → Int32) (e : Int32) : Int32 := if isG a b n then f a.toNatClampNeg b.toNatClampNeg else e
theorem gmF_t {kd h n : Nat} {f : Nat → Nat → Int32} {e : Int32} (hk : kd < 3) (hh : 1 ≤ h) (hh3 : h ≤ 3) (hn : 0 < n) : gmF (nI kd) (nI h) n f e = f kd h := by
  unfold gmF
  rw [if_pos ⟨(isP_nI (by omega)).mpr hk, ⟨by rw [nI_toInt (by omega)]; omega, by rw [nI_toInt (by omega)]; omega⟩, hn⟩, nI_clamp (by omega), nI_clamp (by omega)]
theorem gmF_f {a b : Int32} {n : Nat} {f : Nat → Nat → Int32} {e : Int32} (h : ¬ isG a b n) : gmF a b n f e = e := if_neg h
theorem eX12_timeOf {G : Gx} {d : Nat} {σ : Hp} (hd : 6 ≤ d) {m n : Nat} {α : Nat → Int32} {B : Nat → Nat → Int32} {nb : Nat → Nat} (hM : MA σ σ m α B) (hp : α 2 = nI n) (hn : n ≤ 9) (hb : ∀ p, p < n → B 1 p = nI (nb p)) (hw : ∀ p, nb p < 512) (ho : ∀ j, j < 18 → B 8 j = nI (ordT j)) (hG : GOk α B nb n) {kd h : Nat} (hkd : kd < 3) (hh1 : 1 ≤ h) (hh : h ≤ 3) (hn1 : 1 ≤ n) : Cl G mX12_timeOf d [.ref m, .int (nI kd), .int (nI h)] σ 0 0 (pI fun r s => r = oI (tmF nb n h kd) ∧ ∃ α1 B1, MA σ s m α1 B1 ∧ frm [19, 20, 32, 33] α α1 ∧ frm [7, 9, 10, 11, 12] B B1 ∧ α1 19 = nI kd ∧ α1 20 = nI h ∧ GSol α1 B1 nb n kd h) := by
  obtain ⟨d0, hdd⟩ : ∃ e, d = e + 1 := ⟨d - 1, by omega⟩
  refine cl_of (by decide) (by simp [Value.category]) (Nat.le_of_ble_eq_true rfl) ?_
  show Wp G mX12_timeOf d 0 [.ref m, .int (nI kd), .int (nI h)] [] σ 0 0 _
  refine wp_aload_n (atd dX12_timeOf 0 rfl) rfl rfl ?_
  refine wp_iload_n (atd dX12_timeOf 1 rfl) rfl ?_
  refine wp_iload_n (atd dX12_timeOf 2 rfl) rfl ?_
  refine wp_cVv hdd [_, _] (atd dX12_timeOf 3 rfl) iX12_solve lX12_265 rfl rfl (Nat.le_of_ble_eq_true rfl) hM.1.1 rfl (eX12_solve (by omega) hM.self hp hn hb hw ho hG hkd hh1 hh) (fun s_3 h_3 => ?_)
  obtain ⟨α1, B1, hM1, hfa1, hfb1, k19, k20, hGS⟩ := h_3
  have hM := hM.trans hM1
  have hR9 := rowsL_len n (by omega) h (by omega)
  have hR1 := rowsL_pos n (by omega) hn1 h (by omega) hh1
  have hp1 : α1 2 = nI n := (hfa1 2 (by decide)).trans hp
  refine wp_aload_n (atd dX12_timeOf 4 rfl) rfl rfl ?_
  refine wp_aload_n (atd dX12_timeOf 5 rfl) rfl rfl ?_
  refine wp_cVi hdd [] (atd dX12_timeOf 6 rfl) iX12_startRow lX12_268 rfl rfl (Nat.le_of_ble_eq_true rfl) hM.1.1 rfl (eX12_startRow (by omega) hM.self hp1 hn hGS.2.1 hR9 hR1 hGS.2.2.2.2.1 hGS.2.2.2.2.2.2 (by omega)) (fun r_8 s_8 h_8 => ?_)
  obtain ⟨rfl, rfl⟩ := h_8
  refine wp_cVi hdd [_] (atd dX12_timeOf 7 rfl) iX12_greatestOf lX12_262 rfl rfl (Nat.le_of_ble_eq_true rfl) hM.1.1 rfl (eX12_greatestOf (by omega) hM.self hp1 hn hR9 (srF_lt hR1) hGS.2.2.2.2.1 hGS.2.2.2.2.2.2 (by omega)) (fun r_11 s_11 h_11 => ?_)
  obtain ⟨rfl, rfl⟩ := h_11
  refine wp_ireti (atd dX12_timeOf 8 rfl) rfl ?_
  exact ⟨rfl, α1, B1, hM, hfa1, hfb1, k19, k20, hGS⟩
theorem eX12_time {G : Gx} {d : Nat} {σ : Hp} (hd : 7 ≤ d) {m n : Nat} {α : Nat → Int32} {B : Nat → Nat → Int32} {nb : Nat → Nat} (hM : MA σ σ m α B) (hp : α 2 = nI n) (hn : n ≤ 9) (hb : ∀ p, p < n → B 1 p = nI (nb p)) (hw : ∀ p, nb p < 512) (ho : ∀ j, j < 18 → B 8 j = nI (ordT j)) (hG : GOk α B nb n) {a b : Int32} : Cl G mX12_time d [.ref m, .int a, .int b] σ 0 0 (pI fun r s => r = gmF a b n (fun kd h => oI (tmF nb n h kd)) (-1) ∧ GX σ s m α B nb n) := by
  obtain ⟨d0, hdd⟩ : ∃ e, d = e + 1 := ⟨d - 1, by omega⟩
  refine cl_of (by decide) (by simp [Value.category]) (Nat.le_of_ble_eq_true rfl) ?_
  show Wp G mX12_time d 0 [.ref m, .int a, .int b] [] σ 0 0 _
  refine wp_aload_n (atd dX12_time 0 rfl) rfl rfl ?_
  refine wp_iconst (v := nI 0) (atd dX12_time 1 rfl) (by decide) ?_
  refine wp_putM fX12_75 (atd dX12_time 2 rfl) hM rfl (fun σ hM => ?_)
  refine wp_aload_n (atd dX12_time 3 rfl) rfl rfl ?_
  refine wp_iload_n (atd dX12_time 4 rfl) rfl ?_
  refine wp_iload_n (atd dX12_time 5 rfl) rfl ?_
  refine wp_cVi hdd [_, _] (atd dX12_time 6 rfl) iX12_isGame lX12_271 rfl rfl (Nat.le_of_ble_eq_true rfl) hM.1.1 rfl (eX12_isGame (by omega) hM.self hp hn) (fun r_8 s_8 h_8 => ?_)
  obtain ⟨rfl, rfl⟩ := h_8
  refine wp_ifB_eq (tgt := 23) (atd dX12_time 7 rfl) (by decide) (fun c_11 => ?_) (fun c_11 => ?_)
  ·
    refine wp_iconst (v := -1) (atd dX12_time 13 rfl) (by decide) ?_
    refine wp_ireti (atd dX12_time 14 rfl) rfl ?_
    refine ⟨by rw [gmF_f c_11], ⟨_, B, hM, frm.up frm.rf (by decide), frm.rf, rfl, hG⟩⟩
  ·
    obtain ⟨kd, hkd, rfl⟩ := isP_ofB c_11.1
    obtain ⟨h, hh1, hh, rfl⟩ := isH_of c_11.2.1
    have hn1 := c_11.2.2
    refine wp_aload_n (atd dX12_time 8 rfl) rfl rfl ?_
    refine wp_iload_n (atd dX12_time 9 rfl) rfl ?_
    refine wp_iload_n (atd dX12_time 10 rfl) rfl ?_
    refine wp_cVi hdd [_, _] (atd dX12_time 11 rfl) iX12_timeOf lX12_274 rfl rfl (Nat.le_of_ble_eq_true rfl) hM.1.1 rfl (eX12_timeOf (by omega) hM.self hp hn hb hw ho hG hkd hh1 hh hn1) (fun r_17 s_17 h_17 => ?_)
    obtain ⟨rfl, α1, B1, hM1, hfa1, hfb1, k19, k20, hGS⟩ := h_17
    have hM := hM.trans hM1
    refine wp_goto (tgt := 24) (atd dX12_time 12 rfl) (by decide) ?_
    refine wp_ireti (atd dX12_time 14 rfl) rfl ?_
    refine ⟨by rw [gmF_t hkd hh1 hh hn1], ⟨α1, B1, hM, frm_sub (frm.up (f := α) (frm.rf (S := [0])) (by decide)) hfa1 (by decide) (by decide), hfb1, (hfa1 0 (by decide)).trans rfl, Or.inr ⟨kd, h, hkd, hh1, hh, k19, k20, hGS⟩⟩⟩
theorem eX12_start {G : Gx} {d : Nat} {σ : Hp} (hd : 7 ≤ d) {m n : Nat} {α : Nat → Int32} {B : Nat → Nat → Int32} {nb : Nat → Nat} (hM : MA σ σ m α B) (hp : α 2 = nI n) (hn : n ≤ 9) (hb : ∀ p, p < n → B 1 p = nI (nb p)) (hw : ∀ p, nb p < 512) (ho : ∀ j, j < 18 → B 8 j = nI (ordT j)) (hG : GOk α B nb n) {a b c : Int32} : Cl G mX12_start d [.ref m, .int a, .int b, .int c] σ 0 0 (pI fun r s => r = gmF a b n (fun kd h => atP c h (fun j => nI (rk (rowAt (rowsL h n) (stF nb n h kd)) j)) (-1)) (-1) ∧ GX σ s m α B nb n) := by
  obtain ⟨d0, hdd⟩ : ∃ e, d = e + 1 := ⟨d - 1, by omega⟩
  refine cl_of (by decide) (by simp [Value.category]) (Nat.le_of_ble_eq_true rfl) ?_
  show Wp G mX12_start d 0 [.ref m, .int a, .int b, .int c] [] σ 0 0 _
  refine wp_aload_n (atd dX12_start 0 rfl) rfl rfl ?_
  refine wp_iconst (v := nI 0) (atd dX12_start 1 rfl) (by decide) ?_
  refine wp_putM fX12_75 (atd dX12_start 2 rfl) hM rfl (fun σ hM => ?_)
  refine wp_aload_n (atd dX12_start 3 rfl) rfl rfl ?_
  refine wp_iload_n (atd dX12_start 4 rfl) rfl ?_
  refine wp_iload_n (atd dX12_start 5 rfl) rfl ?_
  refine wp_cVi hdd [_, _] (atd dX12_start 6 rfl) iX12_isGame lX12_271 rfl rfl (Nat.le_of_ble_eq_true rfl) hM.1.1 rfl (eX12_isGame (by omega) hM.self hp hn) (fun r_8 s_8 h_8 => ?_)
  obtain ⟨rfl, rfl⟩ := h_8
  refine wp_ifB_eq (tgt := 25) (atd dX12_start 7 rfl) (by decide) (fun c_11 => ?_) (fun c_11 => ?_)
  ·
    refine wp_iconst (v := -1) (atd dX12_start 15 rfl) (by decide) ?_
    refine wp_ireti (atd dX12_start 16 rfl) rfl ?_
    refine ⟨by rw [gmF_f c_11], ⟨_, B, hM, frm.up frm.rf (by decide), frm.rf, rfl, hG⟩⟩
  ·
    obtain ⟨kd, hkd, rfl⟩ := isP_ofB c_11.1
    obtain ⟨h, hh1, hh, rfl⟩ := isH_of c_11.2.1
    have hn1 := c_11.2.2
    refine wp_iload_n (atd dX12_start 8 rfl) rfl ?_
    refine wp_iconst (v := nI 0) (atd dX12_start 9 rfl) (by decide) ?_
    refine wp_iload_n (atd dX12_start 10 rfl) rfl ?_
    refine wp_iconst (v := nI 1) (atd dX12_start 11 rfl) (by decide) ?_
    refine wp_isub (atd dX12_start 12 rfl) ?_
    refine wp_cSi hdd [_, _, _] (atd dX12_start 13 rfl) iX12_in lX12_81 rfl rfl (Nat.le_of_ble_eq_true rfl) (eX12_in (by omega)) (fun r_19 s_19 h_19 => ?_)
    obtain ⟨rfl, rfl⟩ := h_19
    rw [bI_c (isP_iff (by omega))]
    refine wp_ifB_ne (tgt := 27) (atd dX12_start 14 rfl) (by decide) (fun c_22 => ?_) (fun c_22 => ?_)
    ·
      obtain ⟨j, hj, rfl⟩ := isP_of (by omega) c_22
      refine wp_aload_n (atd dX12_start 17 rfl) rfl rfl ?_
      refine wp_iload_n (atd dX12_start 18 rfl) rfl ?_
      refine wp_iload_n (atd dX12_start 19 rfl) rfl ?_
      refine wp_cVv hdd [_, _] (atd dX12_start 20 rfl) iX12_solve lX12_265 rfl rfl (Nat.le_of_ble_eq_true rfl) hM.1.1 rfl (eX12_solve (by omega) hM.self hp hn hb hw ho hG hkd hh1 hh) (fun s_30 h_30 => ?_)
      obtain ⟨α1, B1, hM1, hfa1, hfb1, k19, k20, hGS⟩ := h_30
      have hM := hM.trans hM1
      have hR9 := rowsL_len n (by omega) h (by omega)
      have hR1 := rowsL_pos n (by omega) hn1 h (by omega) hh1
      have hp1 : α1 2 = nI n := (hfa1 2 (by decide)).trans hp
      refine wp_aload_n (atd dX12_start 21 rfl) rfl rfl ?_
      refine wp_get fX12_35 (atd dX12_start 22 rfl) hM.1.1 rfl ?_
      refine wp_iconst (v := nI 3) (atd dX12_start 23 rfl) (by decide) ?_
      refine wp_aload_n (atd dX12_start 24 rfl) rfl rfl ?_
      refine wp_cVi hdd [] (atd dX12_start 25 rfl) iX12_startRow lX12_268 rfl rfl (Nat.le_of_ble_eq_true rfl) hM.1.1 rfl (eX12_startRow (by omega) hM.self hp1 hn hGS.2.1 hR9 hR1 hGS.2.2.2.2.1 hGS.2.2.2.2.2.2 (by omega)) (fun r_39 s_39 h_39 => ?_)
      obtain ⟨rfl, rfl⟩ := h_39
      refine wp_imulN (atd dX12_start 26 rfl) ?_
      refine wp_iload_n (atd dX12_start 27 rfl) rfl ?_
      refine wp_iaddN (atd dX12_start 28 rfl) ?_
      refine wp_ialdN (atd dX12_start 29 rfl) hM.a7 (show _ < 495 from (by have := srF_lt (w := slvF nb n h kd) (n := n) hR1; omega)) (Nat.le_of_ble_eq_true rfl) ?_
      rw [(hGS.2.2.1 _ (srF_lt hR1)).1 j (by omega)]
      refine wp_ireti (atd dX12_start 30 rfl) rfl ?_
      refine ⟨by rw [gmF_t hkd hh1 hh hn1, atP_t (by omega) hj]; rfl, ⟨α1, B1, hM, frm_sub (frm.up (f := α) (frm.rf (S := [0])) (by decide)) hfa1 (by decide) (by decide), hfb1, (hfa1 0 (by decide)).trans rfl, Or.inr ⟨kd, h, hkd, hh1, hh, k19, k20, hGS⟩⟩⟩
    ·
      refine wp_iconst (v := -1) (atd dX12_start 15 rfl) (by decide) ?_
      refine wp_ireti (atd dX12_start 16 rfl) rfl ?_
      refine ⟨by rw [gmF_t hkd hh1 hh hn1, atP_f c_22], ⟨_, B, hM, frm.up frm.rf (by decide), frm.rf, rfl, hG⟩⟩
noncomputable def fwF (nb : Nat → Nat) (n kd : Nat) : Nat → Nat → Int32
  | 0, _ => -1
  | k + 1, h => if tmF nb n h kd = none then fwF nb n kd k (h + 1) else nI h
theorem lX12_fewest {G : Gx} {d : Nat} {σ0 : Hp} {m n kd : Nat} {α0 : Nat → Int32} {B0 : Nat → Nat → Int32} {nb : Nat → Nat} (hd : 7 ≤ d) (hp0 : α0 2 = nI n) (hn : n ≤ 9) (hn1 : 1 ≤ n) (hb0 : ∀ p, p < n → B0 1 p = nI (nb p)) (hw : ∀ p, nb p < 512) (ho0 : ∀ j, j < 18 → B0 8 j = nI (ordT j)) (hkd : kd < 3) {v : Int32} : ∀ (k : Nat) (σ : Hp) (α : Nat → Int32) (B : Nat → Nat → Int32) (h : Nat), MA σ0 σ m α B → frm [0, 19, 20, 32, 33] α0 α → frm [7, 9, 10, 11, 12] B0 B → α 0 = nI 0 → GOk α B nb n → 1 ≤ h → h + k = 4 → fwF nb n kd k h = v → Wp G mX12_fewest d 7 [.ref m, .int (nI kd), .int (nI h)] [] σ 0 0 (pI fun r s => r = v ∧ GX σ0 s m α0 B0 nb n) := by
  obtain ⟨d0, hdd⟩ : ∃ e, d = e + 1 := ⟨d - 1, by omega⟩
  intro k
  induction k with
  | zero =>
    intro σ α B h hM hfa hfb h0 hG hh1 hk hv
    refine wp_iload_n (atd dX12_fewest 5 rfl) rfl ?_
    refine wp_iconst (v := nI 3) (atd dX12_fewest 6 rfl) (by decide) ?_
    refine wp_icmpN_gt (tgt := 38) (atd dX12_fewest 7 rfl) (by decide) (by omega) (by omega) (fun c_9 => ?_) (fun c_9 => ?_)
    ·
      refine wp_iconst (v := -1) (atd dX12_fewest 22 rfl) (by decide) ?_
      refine wp_ireti (atd dX12_fewest 23 rfl) rfl ?_
      exact ⟨hv, α, B, hM, hfa, hfb, h0, hG⟩
    · exfalso; omega
  | succ k ih =>
    intro σ α B h hM hfa hfb h0 hG hh1 hk hv
    have hh : h ≤ 3 := by omega
    have hp : α 2 = nI n := (hfa 2 (by decide)).trans hp0
    have hb : ∀ p, p < n → B 1 p = nI (nb p) := fun p hpn => by rw [hfb 1 (by decide)]; exact hb0 p hpn
    have ho : ∀ j, j < 18 → B 8 j = nI (ordT j) := fun j hj => by rw [hfb 8 (by decide)]; exact ho0 j hj
    have hig : isG (nI kd) (nI h) n := ⟨(isP_nI (by omega)).mpr hkd, ⟨by rw [nI_toInt (by omega)]; omega, by rw [nI_toInt (by omega)]; omega⟩, hn1⟩
    refine wp_iload_n (atd dX12_fewest 5 rfl) rfl ?_
    refine wp_iconst (v := nI 3) (atd dX12_fewest 6 rfl) (by decide) ?_
    refine wp_icmpN_gt (tgt := 38) (atd dX12_fewest 7 rfl) (by decide) (by omega) (by omega) (fun c_9 => ?_) (fun c_9 => ?_)
    · exfalso; omega
    ·
      refine wp_aload_n (atd dX12_fewest 8 rfl) rfl rfl ?_
      refine wp_iload_n (atd dX12_fewest 9 rfl) rfl ?_
      refine wp_iload_n (atd dX12_fewest 10 rfl) rfl ?_
      refine wp_cVi hdd [_, _] (atd dX12_fewest 11 rfl) iX12_isGame lX12_271 rfl rfl (Nat.le_of_ble_eq_true rfl) hM.1.1 rfl (eX12_isGame (by omega) hM.self hp hn) (fun r_15 s_15 h_15 => ?_)
      obtain ⟨rfl, rfl⟩ := h_15
      refine wp_ifB_eq (tgt := 38) (atd dX12_fewest 12 rfl) (by decide) (fun c_18 => ?_) (fun c_18 => ?_)
      · exact absurd hig c_18
      ·
        refine wp_aload_n (atd dX12_fewest 13 rfl) rfl rfl ?_
        refine wp_iload_n (atd dX12_fewest 14 rfl) rfl ?_
        refine wp_iload_n (atd dX12_fewest 15 rfl) rfl ?_
        refine wp_cVi hdd [_, _] (atd dX12_fewest 16 rfl) iX12_timeOf lX12_274 rfl rfl (Nat.le_of_ble_eq_true rfl) hM.1.1 rfl (eX12_timeOf (by omega) hM.self hp hn hb hw ho hG hkd hh1 hh hn1) (fun r_24 s_24 h_24 => ?_)
        obtain ⟨rfl, α1, B1, hM1, hfa1, hfb1, k19, k20, hGS⟩ := h_24
        have hM := hM.trans hM1
        generalize hx : tmF nb n h kd = xx; rcases xx with _ | x
        ·
          refine wp_if_lt (tgt := 32) (atd dX12_fewest 17 rfl) (by decide) (fun c_27 => ?_) (fun c_27 => ?_)
          ·
            refine wp_iincN (c := 1) (atd dX12_fewest 20 rfl) rfl ?_
            refine wp_goto (tgt := 7) (atd dX12_fewest 21 rfl) (by decide) ?_
            exact ih _ α1 B1 (h + 1) (hM) (frm_sub hfa hfa1 (by decide) (by decide)) (frm_sub hfb hfb1 (by decide) (by decide)) ((hfa1 0 (by decide)).trans h0) (Or.inr ⟨kd, h, hkd, hh1, hh, k19, k20, hGS⟩) (by omega) (by omega) (by rw [← hv]; simp [fwF, hx])
          · exact absurd (by decide) c_27
        ·
          have hx9 := tmF_le hGS (rowsL_pos n (by omega) hn1 h (by omega) hh1) x hx
          refine wp_ifN_lt (tgt := 32) (atd dX12_fewest 17 rfl) (by decide) (by omega) ?_
          refine wp_iload_n (atd dX12_fewest 18 rfl) rfl ?_
          refine wp_ireti (atd dX12_fewest 19 rfl) rfl ?_
          exact ⟨by rw [← hv]; simp [fwF, hx], α1, B1, hM, frm_sub hfa hfa1 (by decide) (by decide), frm_sub hfb hfb1 (by decide) (by decide), (hfa1 0 (by decide)).trans h0, Or.inr ⟨kd, h, hkd, hh1, hh, k19, k20, hGS⟩⟩
theorem eX12_fewest {G : Gx} {d : Nat} {σ : Hp} (hd : 7 ≤ d) {m n : Nat} {α : Nat → Int32} {B : Nat → Nat → Int32} {nb : Nat → Nat} (hM : MA σ σ m α B) (hp : α 2 = nI n) (hn : n ≤ 9) (hb : ∀ p, p < n → B 1 p = nI (nb p)) (hw : ∀ p, nb p < 512) (ho : ∀ j, j < 18 → B 8 j = nI (ordT j)) (hG : GOk α B nb n) {a : Int32} : Cl G mX12_fewest d [.ref m, .int a] σ 0 0 (pI fun r s => r = (if 0 < n then atP a 3 (fun kd => fwF nb n kd 3 1) (-1) else -1) ∧ GX σ s m α B nb n) := by
  obtain ⟨d0, hdd⟩ : ∃ e, d = e + 1 := ⟨d - 1, by omega⟩
  refine cl_of (by decide) (by simp [Value.category]) (Nat.le_of_ble_eq_true rfl) ?_
  show Wp G mX12_fewest d 0 [.ref m, .int a, .double 0] [] σ 0 0 _
  refine wp_aload_n (atd dX12_fewest 0 rfl) rfl rfl ?_
  refine wp_iconst (v := nI 0) (atd dX12_fewest 1 rfl) (by decide) ?_
  refine wp_putM fX12_75 (atd dX12_fewest 2 rfl) hM rfl (fun σ hM => ?_)
  refine wp_iconst (v := nI 1) (atd dX12_fewest 3 rfl) (by decide) ?_
  refine wp_istore_n (atd dX12_fewest 4 rfl) (Nat.le_of_ble_eq_true rfl) ?_
  by_cases hg : 0 < n ∧ isP a 3
  · obtain ⟨hn1, ha⟩ := hg
    obtain ⟨kd, hkd, rfl⟩ := isP_ofB ha
    rw [if_pos hn1, atP_t (by decide) hkd]
    exact lX12_fewest (by omega) hp hn hn1 hb hw ho hkd 3 _ _ B 1 hM (frm.up frm.rf (by decide)) frm.rf rfl hG (by omega) (by omega) rfl
  ·
    refine wp_iload_n (atd dX12_fewest 5 rfl) rfl ?_
    refine wp_iconst (v := nI 3) (atd dX12_fewest 6 rfl) (by decide) ?_
    refine wp_icmpN_gt (tgt := 38) (atd dX12_fewest 7 rfl) (by decide) (by omega) (by omega) (fun c_9 => ?_) (fun c_9 => ?_)
    · exfalso; omega
    ·
      refine wp_aload_n (atd dX12_fewest 8 rfl) rfl rfl ?_
      refine wp_iload_n (atd dX12_fewest 9 rfl) rfl ?_
      refine wp_iload_n (atd dX12_fewest 10 rfl) rfl ?_
      refine wp_cVi hdd [_, _] (atd dX12_fewest 11 rfl) iX12_isGame lX12_271 rfl rfl (Nat.le_of_ble_eq_true rfl) hM.1.1 rfl (eX12_isGame (by omega) hM.self hp hn) (fun r_15 s_15 h_15 => ?_)
      obtain ⟨rfl, rfl⟩ := h_15
      refine wp_ifB_eq (tgt := 38) (atd dX12_fewest 12 rfl) (by decide) (fun c_18 => ?_) (fun c_18 => ?_)
      ·
        refine wp_iconst (v := -1) (atd dX12_fewest 22 rfl) (by decide) ?_
        refine wp_ireti (atd dX12_fewest 23 rfl) rfl ?_
        refine ⟨?_, ⟨_, B, hM, frm.up frm.rf (by decide), frm.rf, rfl, hG⟩⟩
        by_cases hn1 : 0 < n
        · rw [if_pos hn1, atP_f (fun z => hg ⟨hn1, z⟩)]
        · rw [if_neg hn1]
      · exact absurd ⟨c_18.2.2, c_18.1⟩ hg
