/-! scenes -/
def SCN (α : Nat → Int32) (kd h : Nat) (ρ : Row) (p t : Nat) : Prop := α 47 = nI kd ∧ α 48 = nI h ∧ α 49 = nI ρ.1 ∧ α 50 = nI ρ.2.1 ∧ α 51 = nI ρ.2.2 ∧ α 52 = nI p ∧ α 53 = nI t
theorem SCN.cg {α α1 : Nat → Int32} {kd h p t : Nat} {ρ : Row} {S : List Nat} (hs : SCN α kd h ρ p t) (hf : frm S α α1) (hS : ∀ k, 47 ≤ k → k ≤ 53 → k ∉ S) : SCN α1 kd h ρ p t := by
  obtain ⟨h1, h2, h3, h4, h5, h6, h7⟩ := hs
  exact ⟨(hf 47 (hS 47 (by decide) (by decide))).trans h1, (hf 48 (hS 48 (by decide) (by decide))).trans h2, (hf 49 (hS 49 (by decide) (by decide))).trans h3, (hf 50 (hS 50 (by decide) (by decide))).trans h4, (hf 51 (hS 51 (by decide) (by decide))).trans h5, (hf 52 (hS 52 (by decide) (by decide))).trans h6, (hf 53 (hS 53 (by decide) (by decide))).trans h7⟩
theorem tb_pow {i j : Nat} : (2 ^ i).testBit j = true ↔ i = j := by rw [Nat.testBit_two_pow, decide_eq_true_iff]
theorem std_bit {h p : Nat} {ρ : Row} : (std h ρ).testBit p = true ↔ p = ρ.1 ∨ (1 < h ∧ p = ρ.2.1) ∨ (2 < h ∧ p = ρ.2.2) := by
  unfold std
  rw [Nat.testBit_or, Nat.testBit_or, Bool.or_eq_true, Bool.or_eq_true, tb_pow]
  have e1 : (if 1 < h then 2 ^ ρ.2.1 else 0).testBit p = true ↔ (1 < h ∧ p = ρ.2.1) := by
    split
    · rw [tb_pow]; omega
    · rw [Nat.zero_testBit]; exact ⟨(fun z => by cases z), (fun z => by omega)⟩
  have e2 : (if 2 < h then 2 ^ ρ.2.2 else 0).testBit p = true ↔ (2 < h ∧ p = ρ.2.2) := by
    split
    · rw [tb_pow]; omega
    · rw [Nat.zero_testBit]; exact ⟨(fun z => by cases z), (fun z => by omega)⟩
  rw [e1, e2]
  omega
theorem eX12_isCaught {G : Gx} {d : Nat} {σ : Hp} (hd : 0 ≤ d) {m n : Nat} {α : Nat → Int32} {B : Nat → Nat → Int32} (hM : MA σ σ m α B) (hn : n ≤ 9) {kd h p t : Nat} {ρ : Row} (hsc : SCN α kd h ρ p t) (hkd : kd < 3) (hh1 : 1 ≤ h) (hh : h ≤ 3) (hρ : ρ ∈ rowsL h n) (hpn : p < n) (ht : t ≤ 1) : Cl G mX12_isCaught d [.ref m] σ 0 0 (pI fun r s => r = bI ((std h ρ).testBit p = true) ∧ s = σ) := by
  refine cl_of (by decide) (by simp [Value.category]) (Nat.le_of_ble_eq_true rfl) ?_
  show Wp G mX12_isCaught d 0 [.ref m] [] σ 0 0 _
  have hok := rowsL_ok n (by omega) h (by omega) ρ hρ
  have hR9 := rowsL_len n (by omega) h (by omega)
  have hix := rwi_lt hρ
  refine wp_aload_n (atd dX12_isCaught 0 rfl) rfl rfl ?_
  refine wp_get fX12_353 (atd dX12_isCaught 1 rfl) hM.1.1 (congrArg (fun z => some (Value.int z)) hsc.2.2.2.2.2.1) ?_
  refine wp_aload_n (atd dX12_isCaught 2 rfl) rfl rfl ?_
  refine wp_get fX12_356 (atd dX12_isCaught 3 rfl) hM.1.1 (congrArg (fun z => some (Value.int z)) hsc.2.2.1) ?_
  refine wp_icmpN_eq (tgt := 49) (atd dX12_isCaught 4 rfl) (by decide) (by omega) (by omega) (fun c_8 => ?_) (fun c_8 => ?_)
  ·
    refine wp_iconst (v := nI 1) (atd dX12_isCaught 23 rfl) (by decide) ?_
    refine wp_goto (tgt := 54) (atd dX12_isCaught 24 rfl) (by decide) ?_
    refine wp_iretz (atd dX12_isCaught 26 rfl) rfl (by first | rfl | decide) ?_
    exact ⟨(bI_t (std_bit.mpr (by omega))).symm, rfl⟩
  ·
    refine wp_aload_n (atd dX12_isCaught 5 rfl) rfl rfl ?_
    refine wp_get fX12_359 (atd dX12_isCaught 6 rfl) hM.1.1 (congrArg (fun z => some (Value.int z)) hsc.2.1) ?_
    refine wp_iconst (v := nI 1) (atd dX12_isCaught 7 rfl) (by decide) ?_
    refine wp_icmpN_le (tgt := 30) (atd dX12_isCaught 8 rfl) (by decide) (by omega) (by omega) (fun c_16 => ?_) (fun c_16 => ?_)
    ·
      refine wp_aload_n (atd dX12_isCaught 14 rfl) rfl rfl ?_
      refine wp_get fX12_359 (atd dX12_isCaught 15 rfl) hM.1.1 (congrArg (fun z => some (Value.int z)) hsc.2.1) ?_
      refine wp_iconst (v := nI 2) (atd dX12_isCaught 16 rfl) (by decide) ?_
      refine wp_icmpN_le (tgt := 53) (atd dX12_isCaught 17 rfl) (by decide) (by omega) (by omega) (fun c_35 => ?_) (fun c_35 => ?_)
      ·
        refine wp_iconst (v := nI 0) (atd dX12_isCaught 25 rfl) (by decide) ?_
        refine wp_iretz (atd dX12_isCaught 26 rfl) rfl (by first | rfl | decide) ?_
        exact ⟨(bI_f (fun z => by have := std_bit.mp z; omega)).symm, rfl⟩
      ·
        refine wp_aload_n (atd dX12_isCaught 18 rfl) rfl rfl ?_
        refine wp_get fX12_353 (atd dX12_isCaught 19 rfl) hM.1.1 (congrArg (fun z => some (Value.int z)) hsc.2.2.2.2.2.1) ?_
        refine wp_aload_n (atd dX12_isCaught 20 rfl) rfl rfl ?_
        refine wp_get fX12_365 (atd dX12_isCaught 21 rfl) hM.1.1 (congrArg (fun z => some (Value.int z)) hsc.2.2.2.2.1) ?_
        refine wp_icmpN_ne (tgt := 53) (atd dX12_isCaught 22 rfl) (by decide) (by omega) (by omega) (fun c_46 => ?_) (fun c_46 => ?_)
        ·
          refine wp_iconst (v := nI 0) (atd dX12_isCaught 25 rfl) (by decide) ?_
          refine wp_iretz (atd dX12_isCaught 26 rfl) rfl (by first | rfl | decide) ?_
          exact ⟨(bI_f (fun z => by have := std_bit.mp z; omega)).symm, rfl⟩
        ·
          refine wp_iconst (v := nI 1) (atd dX12_isCaught 23 rfl) (by decide) ?_
          refine wp_goto (tgt := 54) (atd dX12_isCaught 24 rfl) (by decide) ?_
          refine wp_iretz (atd dX12_isCaught 26 rfl) rfl (by first | rfl | decide) ?_
          exact ⟨(bI_t (std_bit.mpr (by omega))).symm, rfl⟩
    ·
      refine wp_aload_n (atd dX12_isCaught 9 rfl) rfl rfl ?_
      refine wp_get fX12_353 (atd dX12_isCaught 10 rfl) hM.1.1 (congrArg (fun z => some (Value.int z)) hsc.2.2.2.2.2.1) ?_
      refine wp_aload_n (atd dX12_isCaught 11 rfl) rfl rfl ?_
      refine wp_get fX12_362 (atd dX12_isCaught 12 rfl) hM.1.1 (congrArg (fun z => some (Value.int z)) hsc.2.2.2.1) ?_
      refine wp_icmpN_eq (tgt := 49) (atd dX12_isCaught 13 rfl) (by decide) (by omega) (by omega) (fun c_27 => ?_) (fun c_27 => ?_)
      ·
        refine wp_iconst (v := nI 1) (atd dX12_isCaught 23 rfl) (by decide) ?_
        refine wp_goto (tgt := 54) (atd dX12_isCaught 24 rfl) (by decide) ?_
        refine wp_iretz (atd dX12_isCaught 26 rfl) rfl (by first | rfl | decide) ?_
        exact ⟨(bI_t (std_bit.mpr (by omega))).symm, rfl⟩
      ·
        refine wp_aload_n (atd dX12_isCaught 14 rfl) rfl rfl ?_
        refine wp_get fX12_359 (atd dX12_isCaught 15 rfl) hM.1.1 (congrArg (fun z => some (Value.int z)) hsc.2.1) ?_
        refine wp_iconst (v := nI 2) (atd dX12_isCaught 16 rfl) (by decide) ?_
        refine wp_icmpN_le (tgt := 53) (atd dX12_isCaught 17 rfl) (by decide) (by omega) (by omega) (fun c_35 => ?_) (fun c_35 => ?_)
        ·
          refine wp_iconst (v := nI 0) (atd dX12_isCaught 25 rfl) (by decide) ?_
          refine wp_iretz (atd dX12_isCaught 26 rfl) rfl (by first | rfl | decide) ?_
          exact ⟨(bI_f (fun z => by have := std_bit.mp z; omega)).symm, rfl⟩
        ·
          refine wp_aload_n (atd dX12_isCaught 18 rfl) rfl rfl ?_
          refine wp_get fX12_353 (atd dX12_isCaught 19 rfl) hM.1.1 (congrArg (fun z => some (Value.int z)) hsc.2.2.2.2.2.1) ?_
          refine wp_aload_n (atd dX12_isCaught 20 rfl) rfl rfl ?_
          refine wp_get fX12_365 (atd dX12_isCaught 21 rfl) hM.1.1 (congrArg (fun z => some (Value.int z)) hsc.2.2.2.2.1) ?_
          refine wp_icmpN_ne (tgt := 53) (atd dX12_isCaught 22 rfl) (by decide) (by omega) (by omega) (fun c_46 => ?_) (fun c_46 => ?_)
          ·
            refine wp_iconst (v := nI 0) (atd dX12_isCaught 25 rfl) (by decide) ?_
            refine wp_iretz (atd dX12_isCaught 26 rfl) rfl (by first | rfl | decide) ?_
            exact ⟨(bI_f (fun z => by have := std_bit.mp z; omega)).symm, rfl⟩
          ·
            refine wp_iconst (v := nI 1) (atd dX12_isCaught 23 rfl) (by decide) ?_
            refine wp_goto (tgt := 54) (atd dX12_isCaught 24 rfl) (by decide) ?_
            refine wp_iretz (atd dX12_isCaught 26 rfl) rfl (by first | rfl | decide) ?_
            exact ⟨(bI_t (std_bit.mpr (by omega))).symm, rfl⟩
theorem eX12_sceneRow {G : Gx} {d : Nat} {σ : Hp} (hd : 6 ≤ d) {m n : Nat} {α : Nat → Int32} {B : Nat → Nat → Int32} {nb : Nat → Nat} (hM : MA σ σ m α B) (hp : α 2 = nI n) (hn : n ≤ 9) (hb : ∀ p, p < n → B 1 p = nI (nb p)) (hw : ∀ p, nb p < 512) (ho : ∀ j, j < 18 → B 8 j = nI (ordT j)) (hG : GOk α B nb n) {kd h p t : Nat} {ρ : Row} (hsc : SCN α kd h ρ p t) (hkd : kd < 3) (hh1 : 1 ≤ h) (hh : h ≤ 3) (hρ : ρ ∈ rowsL h n) (hpn : p < n) (ht : t ≤ 1) : Cl G mX12_sceneRow d [.ref m] σ 0 0 (pI fun r s => r = nI (rwi (rowsL h n) ρ) ∧ ∃ α1 B1, MA σ s m α1 B1 ∧ frm [19, 20, 32, 33, 34, 35, 36] α α1 ∧ frm [7, 9, 10, 11, 12] B B1 ∧ α1 19 = nI kd ∧ α1 20 = nI h ∧ GSol α1 B1 nb n kd h) := by
  obtain ⟨d0, hdd⟩ : ∃ e, d = e + 1 := ⟨d - 1, by omega⟩
  refine cl_of (by decide) (by simp [Value.category]) (Nat.le_of_ble_eq_true rfl) ?_
  show Wp G mX12_sceneRow d 0 [.ref m] [] σ 0 0 _
  refine wp_aload_n (atd dX12_sceneRow 0 rfl) rfl rfl ?_
  refine wp_aload_n (atd dX12_sceneRow 1 rfl) rfl rfl ?_
  refine wp_get fX12_368 (atd dX12_sceneRow 2 rfl) hM.1.1 (congrArg (fun z => some (Value.int z)) hsc.1) ?_
  refine wp_aload_n (atd dX12_sceneRow 3 rfl) rfl rfl ?_
  refine wp_get fX12_359 (atd dX12_sceneRow 4 rfl) hM.1.1 (congrArg (fun z => some (Value.int z)) hsc.2.1) ?_
  refine wp_cVv hdd [_, _] (atd dX12_sceneRow 5 rfl) iX12_solve lX12_265 rfl rfl (Nat.le_of_ble_eq_true rfl) hM.1.1 rfl (eX12_solve (by omega) hM.self hp hn hb hw ho hG hkd hh1 hh) (fun s_9 h_9 => ?_)
  obtain ⟨α1, B1, hM1, hfa1, hfb1, k19, k20, hGS⟩ := h_9
  have hM := hM.trans hM1
  refine wp_aload_n (atd dX12_sceneRow 6 rfl) rfl rfl ?_
  refine wp_aload_n (atd dX12_sceneRow 7 rfl) rfl rfl ?_
  refine wp_get fX12_356 (atd dX12_sceneRow 8 rfl) hM.1.1 (congrArg (fun z => some (Value.int z)) ((hfa1 49 (by decide)).trans hsc.2.2.1)) ?_
  refine wp_putM fX12_280 (atd dX12_sceneRow 9 rfl) hM rfl (fun σ hM => ?_)
  refine wp_aload_n (atd dX12_sceneRow 10 rfl) rfl rfl ?_
  refine wp_aload_n (atd dX12_sceneRow 11 rfl) rfl rfl ?_
  refine wp_get fX12_362 (atd dX12_sceneRow 12 rfl) hM.1.1 (congrArg (fun z => some (Value.int z)) ((hfa1 50 (by decide)).trans hsc.2.2.2.1)) ?_
  refine wp_putM fX12_283 (atd dX12_sceneRow 13 rfl) hM rfl (fun σ hM => ?_)
  refine wp_aload_n (atd dX12_sceneRow 14 rfl) rfl rfl ?_
  refine wp_aload_n (atd dX12_sceneRow 15 rfl) rfl rfl ?_
  refine wp_get fX12_365 (atd dX12_sceneRow 16 rfl) hM.1.1 (congrArg (fun z => some (Value.int z)) ((hfa1 51 (by decide)).trans hsc.2.2.2.2.1)) ?_
  refine wp_putM fX12_286 (atd dX12_sceneRow 17 rfl) hM rfl (fun σ hM => ?_)
  refine wp_aload_n (atd dX12_sceneRow 18 rfl) rfl rfl ?_
  refine wp_cVi hdd [] (atd dX12_sceneRow 19 rfl) iX12_rowTold lX12_292 rfl rfl (Nat.le_of_ble_eq_true rfl) hM.1.1 rfl (eX12_rowTold (by omega) hM.self hh hn hGS.2.2.1 hρ rfl rfl rfl) (fun r_37 s_37 h_37 => ?_)
  obtain ⟨rfl, rfl⟩ := h_37
  refine wp_ireti (atd dX12_sceneRow 20 rfl) rfl ?_
  exact ⟨rfl, _, B1, hM, (((hfa1.mono (by decide)).up (by decide)).up (by decide)).up (by decide), hfb1, k19, k20, hGS⟩
theorem eX12_stand {G : Gx} {d : Nat} {σ : Hp} (hd : 0 ≤ d) {m i h : Nat} {F : List Row} {α : Nat → Int32} {B : Nat → Nat → Int32} (hM : MA σ σ m α B) (hR : RW B F h) (hi : i < F.length) (hF : F.length ≤ 165) : Cl G mX12_stand d [.ref m, .int (nI i)] σ 0 0 (pV fun s => MA σ s m (upd (upd (upd α 49 (nI (rowAt F i).1)) 50 (nI (rowAt F i).2.1)) 51 (nI (rowAt F i).2.2)) B) := by
  refine cl_of (by decide) (by simp [Value.category]) (Nat.le_of_ble_eq_true rfl) ?_
  show Wp G mX12_stand d 0 [.ref m, .int (nI i)] [] σ 0 0 _
  refine wp_aload_n (atd dX12_stand 0 rfl) rfl rfl ?_
  refine wp_aload_n (atd dX12_stand 1 rfl) rfl rfl ?_
  refine wp_get fX12_35 (atd dX12_stand 2 rfl) hM.1.1 rfl ?_
  refine wp_iconst (v := nI 3) (atd dX12_stand 3 rfl) (by decide) ?_
  refine wp_iload_n (atd dX12_stand 4 rfl) rfl ?_
  refine wp_imulN (atd dX12_stand 5 rfl) ?_
  refine wp_ialdN (atd dX12_stand 6 rfl) hM.a7 (show _ < 495 from by omega) (Nat.le_of_ble_eq_true rfl) ?_
  rw [show B 7 (3 * i) = nI (rowAt F i).1 from (hR i hi).1 0 (by decide)]
  refine wp_putM fX12_356 (atd dX12_stand 7 rfl) hM rfl (fun σ hM => ?_)
  refine wp_aload_n (atd dX12_stand 8 rfl) rfl rfl ?_
  refine wp_aload_n (atd dX12_stand 9 rfl) rfl rfl ?_
  refine wp_get fX12_35 (atd dX12_stand 10 rfl) hM.1.1 rfl ?_
  refine wp_iconst (v := nI 3) (atd dX12_stand 11 rfl) (by decide) ?_
  refine wp_iload_n (atd dX12_stand 12 rfl) rfl ?_
  refine wp_imulN (atd dX12_stand 13 rfl) ?_
  refine wp_iconst (v := nI 1) (atd dX12_stand 14 rfl) (by decide) ?_
  refine wp_iaddN (atd dX12_stand 15 rfl) ?_
  refine wp_ialdN (atd dX12_stand 16 rfl) hM.a7 (show _ < 495 from by omega) (Nat.le_of_ble_eq_true rfl) ?_
  rw [show B 7 (3 * i + 1) = nI (rowAt F i).2.1 from (hR i hi).1 1 (by decide)]
  refine wp_putM fX12_362 (atd dX12_stand 17 rfl) hM rfl (fun σ hM => ?_)
  refine wp_aload_n (atd dX12_stand 18 rfl) rfl rfl ?_
  refine wp_aload_n (atd dX12_stand 19 rfl) rfl rfl ?_
  refine wp_get fX12_35 (atd dX12_stand 20 rfl) hM.1.1 rfl ?_
  refine wp_iconst (v := nI 3) (atd dX12_stand 21 rfl) (by decide) ?_
  refine wp_iload_n (atd dX12_stand 22 rfl) rfl ?_
  refine wp_imulN (atd dX12_stand 23 rfl) ?_
  refine wp_iconst (v := nI 2) (atd dX12_stand 24 rfl) (by decide) ?_
  refine wp_iaddN (atd dX12_stand 25 rfl) ?_
  refine wp_ialdN (atd dX12_stand 26 rfl) hM.a7 (show _ < 495 from by omega) (Nat.le_of_ble_eq_true rfl) ?_
  rw [show B 7 (3 * i + 2) = nI (rowAt F i).2.2 from (hR i hi).1 2 (by decide)]
  refine wp_putM fX12_365 (atd dX12_stand 27 rfl) hM rfl (fun σ hM => ?_)
  refine wp_vretv (atd dX12_stand 28 rfl) rfl ?_
  exact hM
noncomputable def wnF (nb : Nat → Nat) (n kd h : Nat) (ρ : Row) (p t : Nat) : Option Nat := if t = 0 then slvF nb n h kd (rwi (rowsL h n) ρ) p else rwt nb n kd h (rowsL h n) (slvF nb n h kd) (rwi (rowsL h n) ρ) p
theorem eX12_worthNow {G : Gx} {d : Nat} {σ : Hp} (hd : 7 ≤ d) {m n : Nat} {α : Nat → Int32} {B : Nat → Nat → Int32} {nb : Nat → Nat} (hM : MA σ σ m α B) (hp : α 2 = nI n) (hn : n ≤ 9) (hb : ∀ p, p < n → B 1 p = nI (nb p)) (hw : ∀ p, nb p < 512) (ho : ∀ j, j < 18 → B 8 j = nI (ordT j)) (hG : GOk α B nb n) {kd h p t : Nat} {ρ : Row} (hsc : SCN α kd h ρ p t) (hkd : kd < 3) (hh1 : 1 ≤ h) (hh : h ≤ 3) (hρ : ρ ∈ rowsL h n) (hpn : p < n) (ht : t ≤ 1) : Cl G mX12_worthNow d [.ref m] σ 0 0 (pI fun r s => r = oI (wnF nb n kd h ρ p t) ∧ ∃ α1 B1, MA σ s m α1 B1 ∧ frm [19, 20, 32, 33, 34, 35, 36] α α1 ∧ frm [7, 9, 10, 11, 12] B B1 ∧ α1 19 = nI kd ∧ α1 20 = nI h ∧ GSol α1 B1 nb n kd h) := by
  obtain ⟨d0, hdd⟩ : ∃ e, d = e + 1 := ⟨d - 1, by omega⟩
  refine cl_of (by decide) (by simp [Value.category]) (Nat.le_of_ble_eq_true rfl) ?_
  show Wp G mX12_worthNow d 0 [.ref m, .double 0] [] σ 0 0 _
  have hok := rowsL_ok n (by omega) h (by omega) ρ hρ
  have hR9 := rowsL_len n (by omega) h (by omega)
  have hix := rwi_lt hρ
  refine wp_aload_n (atd dX12_worthNow 0 rfl) rfl rfl ?_
  refine wp_cVi hdd [] (atd dX12_worthNow 1 rfl) iX12_sceneRow lX12_380 rfl rfl (Nat.le_of_ble_eq_true rfl) hM.1.1 rfl (eX12_sceneRow (by omega) hM.self hp hn hb hw ho hG hsc hkd hh1 hh hρ hpn ht) (fun r_1 s_1 h_1 => ?_)
  obtain ⟨rfl, α1, B1, hM1, hfa1, hfb1, k19, k20, hGS⟩ := h_1
  have hM := hM.trans hM1
  have hsc1 := hsc.cg hfa1 (fun k h1 h2 => by simp only [List.mem_cons, List.not_mem_nil, or_false]; omega)
  have hp1 : α1 2 = nI n := (hfa1 2 (by decide)).trans hp
  have hb1 : ∀ p, p < n → B1 1 p = nI (nb p) := fun p hpn => by rw [hfb1 1 (by decide)]; exact hb p hpn
  refine wp_istore_n (atd dX12_worthNow 2 rfl) (Nat.le_of_ble_eq_true rfl) ?_
  refine wp_aload_n (atd dX12_worthNow 3 rfl) rfl rfl ?_
  refine wp_get fX12_374 (atd dX12_worthNow 4 rfl) hM.1.1 (congrArg (fun z => some (Value.int z)) hsc1.2.2.2.2.2.2) ?_
  refine wp_ifN_ne (tgt := 27) (atd dX12_worthNow 5 rfl) (by decide) (by omega) (fun c_9 => ?_) (fun c_9 => ?_)
  ·
    refine wp_aload_n (atd dX12_worthNow 16 rfl) rfl rfl ?_
    refine wp_aload_n (atd dX12_worthNow 17 rfl) rfl rfl ?_
    refine wp_get fX12_368 (atd dX12_worthNow 18 rfl) hM.1.1 (congrArg (fun z => some (Value.int z)) hsc1.1) ?_
    refine wp_cVv hdd [_] (atd dX12_worthNow 19 rfl) iX12_layRunner lX12_253 rfl rfl (Nat.le_of_ble_eq_true rfl) hM.1.1 rfl (eX12_layRunner (F := rowsL h n) (w := slvF nb n h kd) (by omega) hM.self hp1 hn hb1 hw hGS.2.1 hh hkd hR9 hGS.2.2.1 (rowsL_in hn hh) hGS.2.2.2.2.1 hGS.2.2.2.2.2.2 (by omega)) (fun s_32 h_32 => ?_)
    obtain ⟨B2, hM2, hfb2, hWT2⟩ := h_32
    have hM := hM.trans hM2
    have hGS2 : GSol α1 B2 nb n kd h := ⟨hGS.1, hGS.2.1, fun i hi => by rw [hfb2 7 (by decide), hfb2 12 (by decide)]; exact hGS.2.2.1 i hi, fun x y hx hy => by rw [hfb2 9 (by decide)]; exact hGS.2.2.2.1 x y hx hy, fun x y hx hy => by rw [hfb2 10 (by decide)]; exact hGS.2.2.2.2.1 x y hx hy, hWT2, hGS.2.2.2.2.2.2⟩
    refine wp_aload_n (atd dX12_worthNow 20 rfl) rfl rfl ?_
    refine wp_get fX12_48 (atd dX12_worthNow 21 rfl) hM.1.1 rfl ?_
    refine wp_bipush (v := nI 9) (atd dX12_worthNow 22 rfl) (by decide) ?_
    refine wp_iload_n (atd dX12_worthNow 23 rfl) rfl ?_
    refine wp_imulN (atd dX12_worthNow 24 rfl) ?_
    refine wp_aload_n (atd dX12_worthNow 25 rfl) rfl rfl ?_
    refine wp_get fX12_353 (atd dX12_worthNow 26 rfl) hM.1.1 (congrArg (fun z => some (Value.int z)) hsc1.2.2.2.2.2.1) ?_
    refine wp_iaddN (atd dX12_worthNow 27 rfl) ?_
    refine wp_ialdN (atd dX12_worthNow 28 rfl) hM.a11 (show _ < 1485 from by omega) (Nat.le_of_ble_eq_true rfl) ?_
    rw [hWT2 _ p hix hpn]
    refine wp_ireti (atd dX12_worthNow 29 rfl) rfl ?_
    exact ⟨by unfold wnF; rw [if_neg (by omega)], α1, B2, hM, hfa1, frm_sub hfb1 hfb2 (by decide) (by decide), k19, k20, hGS2⟩
  ·
    refine wp_aload_n (atd dX12_worthNow 6 rfl) rfl rfl ?_
    refine wp_get fX12_45 (atd dX12_worthNow 7 rfl) hM.1.1 rfl ?_
    refine wp_bipush (v := nI 9) (atd dX12_worthNow 8 rfl) (by decide) ?_
    refine wp_iload_n (atd dX12_worthNow 9 rfl) rfl ?_
    refine wp_imulN (atd dX12_worthNow 10 rfl) ?_
    refine wp_aload_n (atd dX12_worthNow 11 rfl) rfl rfl ?_
    refine wp_get fX12_353 (atd dX12_worthNow 12 rfl) hM.1.1 (congrArg (fun z => some (Value.int z)) hsc1.2.2.2.2.2.1) ?_
    refine wp_iaddN (atd dX12_worthNow 13 rfl) ?_
    refine wp_ialdN (atd dX12_worthNow 14 rfl) hM.a10 (show _ < 1485 from by omega) (Nat.le_of_ble_eq_true rfl) ?_
    rw [hGS.2.2.2.2.1 _ p hix hpn]
    refine wp_ireti (atd dX12_worthNow 15 rfl) rfl ?_
    exact ⟨by unfold wnF; rw [if_pos c_9], α1, B1, hM, hfa1, hfb1, k19, k20, hGS⟩
abbrev isRw (w : Int32) (h : Nat) : Prop := 10 ≤ w.toInt ∧ w.toInt ≤ 9 + (h : Int)
theorem isRw_iff {w : Int32} {h : Nat} (hh : h ≤ 3) : (¬ w < nI 10 ∧ ¬ nI (9 + h) < w) ↔ isRw w h := by
  rw [Int32.lt_iff_toInt_lt, Int32.lt_iff_toInt_lt, show (nI 10).toInt = 10 from by decide, nI_toInt (by omega)]
  omega
theorem isRw_of {w : Int32} {h : Nat} (hh : h ≤ 3) (hr : isRw w h) : ∃ j, j < h ∧ w = nI (10 + j) := by
  obtain ⟨j, h1, rfl⟩ := isP_ofB (n := 13) (p := w) ⟨by omega, by omega⟩
  have g1 := hr.1
  have g2 := hr.2
  rw [nI_toInt (by omega)] at g1 g2
  exact ⟨j - 10, by omega, by congr 1; omega⟩
theorem isRw_nI {j h : Nat} (hh : h ≤ 3) (hj : j < h) : isRw (nI (10 + j)) h := by
  constructor
  · rw [nI_toInt (by omega)]; omega
  · rw [nI_toInt (by omega)]; omega
noncomputable def snJ (nb : Nat → Nat) (n kd h : Nat) (ρ : Row) (p t : Nat) (b : Int32) (j : Nat) : Int32 := match j with
  | 0 => nI kd
  | 1 => nI h
  | 2 => nI p
  | 3 => nI t
  | 4 => b
  | 5 => bI ((std h ρ).testBit p = true)
  | _ => oI (wnF nb n kd h ρ p t)
noncomputable def snF (nb : Nat → Nat) (n kd h : Nat) (ρ : Row) (p t : Nat) (b w : Int32) : Int32 := if isRw w h then nI (rk ρ (w.toNatClampNeg - 10)) else atP w 7 (snJ nb n kd h ρ p t b) (-2)
theorem eX12_scene {G : Gx} {d : Nat} {σ : Hp} (hd : 8 ≤ d) {m n : Nat} {α : Nat → Int32} {B : Nat → Nat → Int32} {nb : Nat → Nat} (hM : MA σ σ m α B) (hp : α 2 = nI n) (hn : n ≤ 9) (hb : ∀ p, p < n → B 1 p = nI (nb p)) (hw : ∀ p, nb p < 512) (ho : ∀ j, j < 18 → B 8 j = nI (ordT j)) (hG : GOk α B nb n) {kd h p t : Nat} {ρ : Row} (hsc : SCN α kd h ρ p t) (hkd : kd < 3) (hh1 : 1 ≤ h) (hh : h ≤ 3) (hρ : ρ ∈ rowsL h n) (hpn : p < n) (ht : t ≤ 1) {b w : Int32} (h46 : α 46 = nI 1) (h54 : α 54 = b) : Cl G mX12_scene d [.ref m, .int w] σ 0 0 (pI fun r s => r = snF nb n kd h ρ p t b w ∧ GY σ s m α B nb n) := by
  obtain ⟨d0, hdd⟩ : ∃ e, d = e + 1 := ⟨d - 1, by omega⟩
  refine cl_of (by decide) (by simp [Value.category]) (Nat.le_of_ble_eq_true rfl) ?_
  show Wp G mX12_scene d 0 [.ref m, .int w] [] σ 0 0 _
  have hok := rowsL_ok n (by omega) h (by omega) ρ hρ
  have hR9 := rowsL_len n (by omega) h (by omega)
  have hix := rwi_lt hρ
  refine wp_aload_n (atd dX12_scene 0 rfl) rfl rfl ?_
  refine wp_iconst (v := nI 0) (atd dX12_scene 1 rfl) (by decide) ?_
  refine wp_putM fX12_75 (atd dX12_scene 2 rfl) hM rfl (fun σ hM => ?_)
  refine wp_aload_n (atd dX12_scene 3 rfl) rfl rfl ?_
  refine wp_get fX12_165 (atd dX12_scene 4 rfl) hM.1.1 (congrArg (fun z => some (Value.int z)) h46) ?_
  refine wp_ifN_ne (tgt := 15) (atd dX12_scene 5 rfl) (by decide) (by omega) (fun c_9 => ?_) (fun c_9 => ?_)
  ·
    refine wp_iload_n (atd dX12_scene 8 rfl) rfl ?_
    refine wp_bipush (v := nI 10) (atd dX12_scene 9 rfl) (by decide) ?_
    refine wp_bipush (v := nI 9) (atd dX12_scene 10 rfl) (by decide) ?_
    refine wp_aload_n (atd dX12_scene 11 rfl) rfl rfl ?_
    refine wp_get fX12_359 (atd dX12_scene 12 rfl) hM.1.1 (congrArg (fun z => some (Value.int z)) hsc.2.1) ?_
    refine wp_iaddN (atd dX12_scene 13 rfl) ?_
    refine wp_cSi hdd [_, _, _] (atd dX12_scene 14 rfl) iX12_in lX12_81 rfl rfl (Nat.le_of_ble_eq_true rfl) (eX12_in (by omega)) (fun r_25 s_25 h_25 => ?_)
    obtain ⟨rfl, rfl⟩ := h_25
    rw [bI_c (isRw_iff hh)]
    refine wp_ifB_eq (tgt := 62) (atd dX12_scene 15 rfl) (by decide) (fun c_28 => ?_) (fun c_28 => ?_)
    ·
      refine wp_iload_n (atd dX12_scene 31 rfl) rfl ?_
      by_cases hw7 : isP w 7
      · obtain ⟨j, hj, rfl⟩ := isP_of (by decide) hw7
        rcases (show j = 0 ∨ j = 1 ∨ j = 2 ∨ j = 3 ∨ j = 4 ∨ j = 5 ∨ j = 6 by omega) with rfl | rfl | rfl | rfl | rfl | rfl | rfl
        ·
          refine wp_tblIn (off := 41) (tgt := 104) (atd dX12_scene 32 rfl) (by decide) (by decide) rfl (by decide) ?_
          refine wp_aload_n (atd dX12_scene 33 rfl) rfl rfl ?_
          refine wp_get fX12_368 (atd dX12_scene 34 rfl) hM.1.1 (congrArg (fun z => some (Value.int z)) hsc.1) ?_
          refine wp_ireti (atd dX12_scene 35 rfl) rfl ?_
          exact ⟨by unfold snF; rw [if_neg c_28, atP_t (by decide) hj]; rfl, ⟨_, B, hM, frm.rf.up (by decide), frm.rf, rfl, hG⟩⟩
        ·
          refine wp_tblIn (off := 46) (tgt := 109) (atd dX12_scene 32 rfl) (by decide) (by decide) rfl (by decide) ?_
          refine wp_aload_n (atd dX12_scene 36 rfl) rfl rfl ?_
          refine wp_get fX12_359 (atd dX12_scene 37 rfl) hM.1.1 (congrArg (fun z => some (Value.int z)) hsc.2.1) ?_
          refine wp_ireti (atd dX12_scene 38 rfl) rfl ?_
          exact ⟨by unfold snF; rw [if_neg c_28, atP_t (by decide) hj]; rfl, ⟨_, B, hM, frm.rf.up (by decide), frm.rf, rfl, hG⟩⟩
        ·
          refine wp_tblIn (off := 51) (tgt := 114) (atd dX12_scene 32 rfl) (by decide) (by decide) rfl (by decide) ?_
          refine wp_aload_n (atd dX12_scene 39 rfl) rfl rfl ?_
          refine wp_get fX12_353 (atd dX12_scene 40 rfl) hM.1.1 (congrArg (fun z => some (Value.int z)) hsc.2.2.2.2.2.1) ?_
          refine wp_ireti (atd dX12_scene 41 rfl) rfl ?_
          exact ⟨by unfold snF; rw [if_neg c_28, atP_t (by decide) hj]; rfl, ⟨_, B, hM, frm.rf.up (by decide), frm.rf, rfl, hG⟩⟩
        ·
          refine wp_tblIn (off := 56) (tgt := 119) (atd dX12_scene 32 rfl) (by decide) (by decide) rfl (by decide) ?_
          refine wp_aload_n (atd dX12_scene 42 rfl) rfl rfl ?_
          refine wp_get fX12_374 (atd dX12_scene 43 rfl) hM.1.1 (congrArg (fun z => some (Value.int z)) hsc.2.2.2.2.2.2) ?_
          refine wp_ireti (atd dX12_scene 44 rfl) rfl ?_
          exact ⟨by unfold snF; rw [if_neg c_28, atP_t (by decide) hj]; rfl, ⟨_, B, hM, frm.rf.up (by decide), frm.rf, rfl, hG⟩⟩
        ·
          refine wp_tblIn (off := 61) (tgt := 124) (atd dX12_scene 32 rfl) (by decide) (by decide) rfl (by decide) ?_
          refine wp_aload_n (atd dX12_scene 45 rfl) rfl rfl ?_
          refine wp_get fX12_377 (atd dX12_scene 46 rfl) hM.1.1 rfl ?_
          refine wp_ireti (atd dX12_scene 47 rfl) rfl ?_
          exact ⟨by unfold snF; rw [if_neg c_28, atP_t (by decide) hj]; exact h54, ⟨_, B, hM, frm.rf.up (by decide), frm.rf, rfl, hG⟩⟩
        ·
          refine wp_tblIn (off := 66) (tgt := 129) (atd dX12_scene 32 rfl) (by decide) (by decide) rfl (by decide) ?_
          refine wp_aload_n (atd dX12_scene 48 rfl) rfl rfl ?_
          refine wp_cVi hdd [] (atd dX12_scene 49 rfl) iX12_isCaught lX12_383 rfl rfl (Nat.le_of_ble_eq_true rfl) hM.1.1 rfl (eX12_isCaught (by omega) hM.self hn hsc hkd hh1 hh hρ hpn ht) (fun r_130 s_130 h_130 => ?_)
          obtain ⟨rfl, rfl⟩ := h_130
          refine wp_ifB_eq (tgt := 140) (atd dX12_scene 50 rfl) (by decide) (fun c_133 => ?_) (fun c_133 => ?_)
          ·
            refine wp_iconst (v := nI 0) (atd dX12_scene 53 rfl) (by decide) ?_
            refine wp_ireti (atd dX12_scene 54 rfl) rfl ?_
            exact ⟨by unfold snF; rw [if_neg c_28, atP_t (by decide) hj]; show _ = bI _; rw [bI_f c_133], ⟨_, B, hM, frm.rf.up (by decide), frm.rf, rfl, hG⟩⟩
          ·
            refine wp_iconst (v := nI 1) (atd dX12_scene 51 rfl) (by decide) ?_
            refine wp_goto (tgt := 141) (atd dX12_scene 52 rfl) (by decide) ?_
            refine wp_ireti (atd dX12_scene 54 rfl) rfl ?_
            exact ⟨by unfold snF; rw [if_neg c_28, atP_t (by decide) hj]; show _ = bI _; rw [bI_t c_133], ⟨_, B, hM, frm.rf.up (by decide), frm.rf, rfl, hG⟩⟩
        ·
          refine wp_tblIn (off := 79) (tgt := 142) (atd dX12_scene 32 rfl) (by decide) (by decide) rfl (by decide) ?_
          refine wp_aload_n (atd dX12_scene 55 rfl) rfl rfl ?_
          refine wp_cVi hdd [] (atd dX12_scene 56 rfl) iX12_worthNow lX12_386 rfl rfl (Nat.le_of_ble_eq_true rfl) hM.1.1 rfl (eX12_worthNow (by omega) hM.self hp hn hb hw ho hG hsc hkd hh1 hh hρ hpn ht) (fun r_143 s_143 h_143 => ?_)
          obtain ⟨rfl, α1, B1, hM1, hfa1, hfb1, k19, k20, hGS⟩ := h_143
          have hM := hM.trans hM1
          refine wp_ireti (atd dX12_scene 57 rfl) rfl ?_
          exact ⟨by unfold snF; rw [if_neg c_28, atP_t (by decide) hj]; rfl, ⟨α1, B1, hM, frm_sub (frm.up (f := α) (frm.rf (S := [0])) (by decide)) hfa1 (by decide) (by decide), hfb1, (hfa1 0 (by decide)).trans rfl, Or.inr ⟨kd, h, hkd, hh1, hh, k19, k20, hGS⟩⟩⟩
      ·
        refine wp_tblOut (tgt := 147) (atd dX12_scene 32 rfl) (by have h9 : ¬ (0 ≤ w.toInt ∧ w.toInt < ((7 : Nat) : Int)) := hw7; omega) (by decide) ?_
        refine wp_bipush (v := -2) (atd dX12_scene 58 rfl) (by decide) ?_
        refine wp_ireti (atd dX12_scene 59 rfl) rfl ?_
        exact ⟨by unfold snF; rw [if_neg c_28, atP_f hw7], ⟨_, B, hM, frm.rf.up (by decide), frm.rf, rfl, hG⟩⟩
    ·
      obtain ⟨j, hj, rfl⟩ := isRw_of hh c_28
      refine wp_iload_n (atd dX12_scene 16 rfl) rfl ?_
      refine wp_bipush (v := nI 10) (atd dX12_scene 17 rfl) (by decide) ?_
      refine wp_icmpN_ne (tgt := 44) (atd dX12_scene 18 rfl) (by decide) (by omega) (by omega) (fun c_34 => ?_) (fun c_34 => ?_)
      ·
        refine wp_iload_n (atd dX12_scene 22 rfl) rfl ?_
        refine wp_bipush (v := nI 11) (atd dX12_scene 23 rfl) (by decide) ?_
        refine wp_icmpN_ne (tgt := 57) (atd dX12_scene 24 rfl) (by decide) (by omega) (by omega) (fun c_47 => ?_) (fun c_47 => ?_)
        ·
          refine wp_aload_n (atd dX12_scene 28 rfl) rfl rfl ?_
          refine wp_get fX12_365 (atd dX12_scene 29 rfl) hM.1.1 (congrArg (fun z => some (Value.int z)) hsc.2.2.2.2.1) ?_
          refine wp_ireti (atd dX12_scene 30 rfl) rfl ?_
          refine ⟨?_, ⟨_, B, hM, frm.rf.up (by decide), frm.rf, rfl, hG⟩⟩
          unfold snF
          rw [if_pos c_28, nI_clamp (by omega), show 10 + j - 10 = j by omega]
          rw [show j = 2 by omega]; rfl
        ·
          refine wp_aload_n (atd dX12_scene 25 rfl) rfl rfl ?_
          refine wp_get fX12_362 (atd dX12_scene 26 rfl) hM.1.1 (congrArg (fun z => some (Value.int z)) hsc.2.2.2.1) ?_
          refine wp_goto (tgt := 61) (atd dX12_scene 27 rfl) (by decide) ?_
          refine wp_ireti (atd dX12_scene 30 rfl) rfl ?_
          refine ⟨?_, ⟨_, B, hM, frm.rf.up (by decide), frm.rf, rfl, hG⟩⟩
          unfold snF
          rw [if_pos c_28, nI_clamp (by omega), show 10 + j - 10 = j by omega]
          rw [show j = 1 by omega]; rfl
      ·
        refine wp_aload_n (atd dX12_scene 19 rfl) rfl rfl ?_
        refine wp_get fX12_356 (atd dX12_scene 20 rfl) hM.1.1 (congrArg (fun z => some (Value.int z)) hsc.2.2.1) ?_
        refine wp_goto (tgt := 61) (atd dX12_scene 21 rfl) (by decide) ?_
        refine wp_ireti (atd dX12_scene 30 rfl) rfl ?_
        refine ⟨?_, ⟨_, B, hM, frm.rf.up (by decide), frm.rf, rfl, hG⟩⟩
        unfold snF
        rw [if_pos c_28, nI_clamp (by omega), show 10 + j - 10 = j by omega]
        rw [show j = 0 by omega]; rfl
  · exact absurd c_9 (by decide)
theorem eX12_scene0 {G : Gx} {d : Nat} {σ : Hp} (hd : 0 ≤ d) {m : Nat} {α : Nat → Int32} {B : Nat → Nat → Int32} (hM : MA σ σ m α B) (h46 : α 46 = nI 0) {w : Int32} : Cl G mX12_scene d [.ref m, .int w] σ 0 0 (pI fun r s => r = -2 ∧ MA σ s m (upd α 0 (nI 0)) B) := by
  refine cl_of (by decide) (by simp [Value.category]) (Nat.le_of_ble_eq_true rfl) ?_
  show Wp G mX12_scene d 0 [.ref m, .int w] [] σ 0 0 _
  refine wp_aload_n (atd dX12_scene 0 rfl) rfl rfl ?_
  refine wp_iconst (v := nI 0) (atd dX12_scene 1 rfl) (by decide) ?_
  refine wp_putM fX12_75 (atd dX12_scene 2 rfl) hM rfl (fun σ hM => ?_)
  refine wp_aload_n (atd dX12_scene 3 rfl) rfl rfl ?_
  refine wp_get fX12_165 (atd dX12_scene 4 rfl) hM.1.1 (congrArg (fun z => some (Value.int z)) h46) ?_
  refine wp_ifN_ne (tgt := 15) (atd dX12_scene 5 rfl) (by decide) (by omega) (fun c_9 => ?_) (fun c_9 => ?_)
  · exact absurd c_9 (by decide)
  ·
    refine wp_bipush (v := -2) (atd dX12_scene 6 rfl) (by decide) ?_
    refine wp_ireti (atd dX12_scene 7 rfl) rfl ?_
    exact ⟨rfl, hM⟩
def bpG (w : Nat → Option Nat) (to q : Nat) (b : Option Nat) : Option Nat := if to.testBit q = true then (match b with
  | none => some q
  | some x => (match w x with
    | none => some x
    | some y => (match w q with
      | none => some q
      | some z => if y < z then some q else some x))) else b
def bpF (w : Nat → Option Nat) (to n : Nat) : Option Nat := fl (bpG w to) n 0 none
theorem bpG_ok {w : Nat → Option Nat} {to q : Nat} {b : Option Nat} {x : Nat} (h : bpG w to q b = some x) : x = q ∧ to.testBit q = true ∨ b = some x := by
  unfold bpG at h
  split at h
  · rename_i hb
    split at h
    · cases h; exact Or.inl ⟨rfl, hb⟩
    · split at h
      · exact Or.inr h
      · split at h
        · cases h; exact Or.inl ⟨rfl, hb⟩
        · split at h
          · cases h; exact Or.inl ⟨rfl, hb⟩
          · exact Or.inr h
  · exact Or.inr h
theorem bp_ok {w : Nat → Option Nat} {to : Nat} : ∀ (k q : Nat) (b : Option Nat) (x : Nat), fl (bpG w to) k q b = some x → (q ≤ x ∧ x < q + k ∧ to.testBit x = true) ∨ b = some x
  | 0, _, _, _, h => Or.inr h
  | k + 1, q, b, x, h => by
    rcases bp_ok k (q + 1) (bpG w to q b) x h with h1 | h1
    · exact Or.inl ⟨by omega, by omega, h1.2.2⟩
    · rcases bpG_ok h1 with ⟨rfl, h2⟩ | h2
      · exact Or.inl ⟨by omega, by omega, h2⟩
      · exact Or.inr h2
theorem bp_ne {w : Nat → Option Nat} {to : Nat} : ∀ (k q : Nat) (b : Option Nat), (b ≠ none ∨ ∃ x, q ≤ x ∧ x < q + k ∧ to.testBit x = true) → fl (bpG w to) k q b ≠ none
  | 0, _, _, h => by
    rcases h with h | ⟨x, h1, h2, -⟩
    · exact h
    · omega
  | k + 1, q, b, h => by
    refine bp_ne k (q + 1) (bpG w to q b) ?_
    have key : (b ≠ none ∨ to.testBit q = true) → bpG w to q b ≠ none := by
      intro hk
      unfold bpG
      split
      · cases b with
        | none => intro z; cases z
        | some x =>
          show (match w x with | none => some x | some y => (match w q with | none => some q | some z => if y < z then some q else some x)) ≠ none
          split
          · intro z; cases z
          · split
            · intro z; cases z
            · split
              · intro z; cases z
              · intro z; cases z
      · rename_i hc
        exact hk.resolve_right hc
    rcases h with h | ⟨x, h1, h2, h3⟩
    · exact Or.inl (key (Or.inl h))
    · by_cases e : x = q
      · subst e; exact Or.inl (key (Or.inr h3))
      · exact Or.inr ⟨x, by omega, by omega, h3⟩
theorem bpF_ex {w : Nat → Option Nat} {to n p : Nat} (hp : p < n) (hb : to.testBit p = true) : ∃ x, bpF w to n = some x ∧ x < n ∧ to.testBit x = true := by
  have h1 := bp_ne (w := w) (to := to) n 0 none (Or.inr ⟨p, by omega, by omega, hb⟩)
  cases h : bpF w to n with
  | none => exact absurd h h1
  | some x =>
    rcases bp_ok n 0 none x h with ⟨-, h2, h3⟩ | h2
    · exact ⟨x, rfl, by omega, h3⟩
    · cases h2
theorem lX12_bestPlace {G : Gx} {d : Nat} {σ : Hp} {v : Option Nat} (hd : 1 ≤ d) {m n i R to X : Nat} {α : Nat → Int32} {B : Nat → Nat → Int32} {w : Wo} (hM : MA σ σ m α B) (hp : α 2 = nI n) (hn : n ≤ 9) (hR9 : R ≤ 165) (hi : i < R) (hto : to < 512) (hWT : WT B 10 w R n) (hWB : WB w R n X) (hX : X < 100000) : ∀ (k : Nat) (q : Nat) (b : Option Nat) (e5 e6 : Value), q + k = n → (∀ y, b = some y → y < n) → fl (bpG (w i) to) k q b = v → Wp G mX12_bestPlace d 24 [.ref m, .int (nI i), .int (nI to), .int (oI b), .int (nI q), e5, e6] [] σ 0 0 (pI fun r s => r = oI v ∧ s = σ) := by
  obtain ⟨d0, hdd⟩ : ∃ e, d = e + 1 := ⟨d - 1, by omega⟩
  intro k
  induction k with
  | zero =>
    intro q b e5 e6 h2 hb9 hv
    refine wp_iload (atd dX12_bestPlace 15 rfl) rfl ?_
    refine wp_aload_n (atd dX12_bestPlace 16 rfl) rfl rfl ?_
    refine wp_get fX12_78 (atd dX12_bestPlace 17 rfl) hM.1.1 (congrArg (fun z => some (Value.int z)) hp) ?_
    refine wp_icmpN_ge (tgt := 110) (atd dX12_bestPlace 18 rfl) (by decide) (by omega) (by omega) (fun c_30 => ?_) (fun c_30 => ?_)
    ·
      refine wp_iload_n (atd dX12_bestPlace 59 rfl) rfl ?_
      refine wp_ireti (atd dX12_bestPlace 60 rfl) rfl ?_
      exact ⟨by rw [← hv]; rfl, rfl⟩
    · exfalso; omega
  | succ k ih =>
    intro q b e5 e6 h2 hb9 hv
    refine wp_iload (atd dX12_bestPlace 15 rfl) rfl ?_
    refine wp_aload_n (atd dX12_bestPlace 16 rfl) rfl rfl ?_
    refine wp_get fX12_78 (atd dX12_bestPlace 17 rfl) hM.1.1 (congrArg (fun z => some (Value.int z)) hp) ?_
    refine wp_icmpN_ge (tgt := 110) (atd dX12_bestPlace 18 rfl) (by decide) (by omega) (by omega) (fun c_30 => ?_) (fun c_30 => ?_)
    · exfalso; omega
    ·
      refine wp_iload_n (atd dX12_bestPlace 19 rfl) rfl ?_
      refine wp_iload (atd dX12_bestPlace 20 rfl) rfl ?_
      refine wp_cSi hdd [_, _] (atd dX12_bestPlace 21 rfl) iX12_isOf lX12_149 rfl rfl (Nat.le_of_ble_eq_true rfl) (eX12_isOf (by omega) (by omega) (by omega)) (fun r_36 s_36 h_36 => ?_)
      obtain ⟨rfl, rfl⟩ := h_36
      refine wp_ifB_ne (tgt := 45) (atd dX12_bestPlace 22 rfl) (by decide) (fun c_39 => ?_) (fun c_39 => ?_)
      ·
        refine wp_aload_n (atd dX12_bestPlace 24 rfl) rfl rfl ?_
        refine wp_get fX12_45 (atd dX12_bestPlace 25 rfl) hM.1.1 rfl ?_
        refine wp_bipush (v := nI 9) (atd dX12_bestPlace 26 rfl) (by decide) ?_
        refine wp_iload_n (atd dX12_bestPlace 27 rfl) rfl ?_
        refine wp_imulN (atd dX12_bestPlace 28 rfl) ?_
        refine wp_iload (atd dX12_bestPlace 29 rfl) rfl ?_
        refine wp_iaddN (atd dX12_bestPlace 30 rfl) ?_
        refine wp_ialdN (atd dX12_bestPlace 31 rfl) hM.a10 (show _ < 1485 from by omega) (Nat.le_of_ble_eq_true rfl) ?_
        rw [hWT i q hi (by omega)]
        generalize hz : w i q = zz; rcases zz with _ | z
        ·
          refine wp_istore (atd dX12_bestPlace 32 rfl) (Nat.le_of_ble_eq_true rfl) ?_
          rcases b with _ | x
          ·
            refine wp_iload_n (atd dX12_bestPlace 33 rfl) rfl ?_
            refine wp_if_ge (tgt := 67) (atd dX12_bestPlace 34 rfl) (by decide) (fun c_60 => ?_) (fun c_60 => ?_)
            · exact absurd c_60 (by decide)
            ·
              refine wp_iconst (v := nI 0) (atd dX12_bestPlace 35 rfl) (by decide) ?_
              refine wp_goto (tgt := 78) (atd dX12_bestPlace 36 rfl) (by decide) ?_
              refine wp_istore (atd dX12_bestPlace 45 rfl) (Nat.le_of_ble_eq_true rfl) ?_
              refine wp_iload_n (atd dX12_bestPlace 46 rfl) rfl ?_
              refine wp_if_lt (tgt := 101) (atd dX12_bestPlace 47 rfl) (by decide) (fun c_81 => ?_) (fun c_81 => ?_)
              ·
                refine wp_iload (atd dX12_bestPlace 55 rfl) rfl ?_
                refine wp_istore_n (atd dX12_bestPlace 56 rfl) (Nat.le_of_ble_eq_true rfl) ?_
                refine wp_iincN (c := 1) (atd dX12_bestPlace 57 rfl) rfl ?_
                refine wp_goto (tgt := 24) (atd dX12_bestPlace 58 rfl) (by decide) ?_
                exact ih (q + 1) (some q) _ _ (by omega) (by intro z hz; cases hz; omega) (by rw [← hv]; show _ = fl (bpG (w i) to) k (q + 1) (bpG (w i) to q none); rw [show bpG (w i) to q none = (some q) from by unfold bpG; rw [if_pos c_39]])
              · exact absurd (by decide) c_81
          ·
            have hx9 := hb9 x rfl
            refine wp_iload_n (atd dX12_bestPlace 33 rfl) rfl ?_
            refine wp_ifN_ge (tgt := 67) (atd dX12_bestPlace 34 rfl) (by decide) (by omega) ?_
            rcases hy : w i x with _ | y
            ·
              refine wp_aload_n (atd dX12_bestPlace 37 rfl) rfl rfl ?_
              refine wp_get fX12_45 (atd dX12_bestPlace 38 rfl) hM.1.1 rfl ?_
              refine wp_bipush (v := nI 9) (atd dX12_bestPlace 39 rfl) (by decide) ?_
              refine wp_iload_n (atd dX12_bestPlace 40 rfl) rfl ?_
              refine wp_imulN (atd dX12_bestPlace 41 rfl) ?_
              refine wp_iload_n (atd dX12_bestPlace 42 rfl) rfl ?_
              refine wp_iaddN (atd dX12_bestPlace 43 rfl) ?_
              refine wp_ialdN (atd dX12_bestPlace 44 rfl) hM.a10 (show _ < 1485 from by omega) (Nat.le_of_ble_eq_true rfl) ?_
              rw [hWT i x hi (by omega), hy]
              refine wp_istore (atd dX12_bestPlace 45 rfl) (Nat.le_of_ble_eq_true rfl) ?_
              refine wp_iload_n (atd dX12_bestPlace 46 rfl) rfl ?_
              refine wp_ifN_lt (tgt := 101) (atd dX12_bestPlace 47 rfl) (by decide) (by omega) ?_
              refine wp_iload (atd dX12_bestPlace 48 rfl) rfl ?_
              refine wp_if_lt (tgt := 104) (atd dX12_bestPlace 49 rfl) (by decide) (fun c_86 => ?_) (fun c_86 => ?_)
              ·
                refine wp_iincN (c := 1) (atd dX12_bestPlace 57 rfl) rfl ?_
                refine wp_goto (tgt := 24) (atd dX12_bestPlace 58 rfl) (by decide) ?_
                exact ih (q + 1) (some x) _ _ (by omega) hb9 (by rw [← hv]; show _ = fl (bpG (w i) to) k (q + 1) (bpG (w i) to q (some x)); rw [show bpG (w i) to q (some x) = (some x) from by unfold bpG; rw [if_pos c_39]; simp only [hy]])
              · exact absurd (by decide) c_86
            ·
              have hy9 := hWB i x y hi (by omega) hy
              refine wp_aload_n (atd dX12_bestPlace 37 rfl) rfl rfl ?_
              refine wp_get fX12_45 (atd dX12_bestPlace 38 rfl) hM.1.1 rfl ?_
              refine wp_bipush (v := nI 9) (atd dX12_bestPlace 39 rfl) (by decide) ?_
              refine wp_iload_n (atd dX12_bestPlace 40 rfl) rfl ?_
              refine wp_imulN (atd dX12_bestPlace 41 rfl) ?_
              refine wp_iload_n (atd dX12_bestPlace 42 rfl) rfl ?_
              refine wp_iaddN (atd dX12_bestPlace 43 rfl) ?_
              refine wp_ialdN (atd dX12_bestPlace 44 rfl) hM.a10 (show _ < 1485 from by omega) (Nat.le_of_ble_eq_true rfl) ?_
              rw [hWT i x hi (by omega), hy]
              refine wp_istore (atd dX12_bestPlace 45 rfl) (Nat.le_of_ble_eq_true rfl) ?_
              refine wp_iload_n (atd dX12_bestPlace 46 rfl) rfl ?_
              refine wp_ifN_lt (tgt := 101) (atd dX12_bestPlace 47 rfl) (by decide) (by omega) ?_
              refine wp_iload (atd dX12_bestPlace 48 rfl) rfl ?_
              refine wp_ifN_lt (tgt := 104) (atd dX12_bestPlace 49 rfl) (by decide) (by omega) ?_
              refine wp_iload (atd dX12_bestPlace 50 rfl) rfl ?_
              refine wp_if_lt (tgt := 101) (atd dX12_bestPlace 51 rfl) (by decide) (fun c_91 => ?_) (fun c_91 => ?_)
              ·
                refine wp_iload (atd dX12_bestPlace 55 rfl) rfl ?_
                refine wp_istore_n (atd dX12_bestPlace 56 rfl) (Nat.le_of_ble_eq_true rfl) ?_
                refine wp_iincN (c := 1) (atd dX12_bestPlace 57 rfl) rfl ?_
                refine wp_goto (tgt := 24) (atd dX12_bestPlace 58 rfl) (by decide) ?_
                exact ih (q + 1) (some q) _ _ (by omega) (by intro z hz; cases hz; omega) (by rw [← hv]; show _ = fl (bpG (w i) to) k (q + 1) (bpG (w i) to q (some x)); rw [show bpG (w i) to q (some x) = (some q) from by unfold bpG; rw [if_pos c_39]; simp only [hy, hz]])
              · exact absurd (by decide) c_91
        ·
          have hz9 := hWB i q z hi (by omega) hz
          refine wp_istore (atd dX12_bestPlace 32 rfl) (Nat.le_of_ble_eq_true rfl) ?_
          rcases b with _ | x
          ·
            refine wp_iload_n (atd dX12_bestPlace 33 rfl) rfl ?_
            refine wp_if_ge (tgt := 67) (atd dX12_bestPlace 34 rfl) (by decide) (fun c_60 => ?_) (fun c_60 => ?_)
            · exact absurd c_60 (by decide)
            ·
              refine wp_iconst (v := nI 0) (atd dX12_bestPlace 35 rfl) (by decide) ?_
              refine wp_goto (tgt := 78) (atd dX12_bestPlace 36 rfl) (by decide) ?_
              refine wp_istore (atd dX12_bestPlace 45 rfl) (Nat.le_of_ble_eq_true rfl) ?_
              refine wp_iload_n (atd dX12_bestPlace 46 rfl) rfl ?_
              refine wp_if_lt (tgt := 101) (atd dX12_bestPlace 47 rfl) (by decide) (fun c_81 => ?_) (fun c_81 => ?_)
              ·
                refine wp_iload (atd dX12_bestPlace 55 rfl) rfl ?_
                refine wp_istore_n (atd dX12_bestPlace 56 rfl) (Nat.le_of_ble_eq_true rfl) ?_
                refine wp_iincN (c := 1) (atd dX12_bestPlace 57 rfl) rfl ?_
                refine wp_goto (tgt := 24) (atd dX12_bestPlace 58 rfl) (by decide) ?_
                exact ih (q + 1) (some q) _ _ (by omega) (by intro z hz; cases hz; omega) (by rw [← hv]; show _ = fl (bpG (w i) to) k (q + 1) (bpG (w i) to q none); rw [show bpG (w i) to q none = (some q) from by unfold bpG; rw [if_pos c_39]])
              · exact absurd (by decide) c_81
          ·
            have hx9 := hb9 x rfl
            refine wp_iload_n (atd dX12_bestPlace 33 rfl) rfl ?_
            refine wp_ifN_ge (tgt := 67) (atd dX12_bestPlace 34 rfl) (by decide) (by omega) ?_
            rcases hy : w i x with _ | y
            ·
              refine wp_aload_n (atd dX12_bestPlace 37 rfl) rfl rfl ?_
              refine wp_get fX12_45 (atd dX12_bestPlace 38 rfl) hM.1.1 rfl ?_
              refine wp_bipush (v := nI 9) (atd dX12_bestPlace 39 rfl) (by decide) ?_
              refine wp_iload_n (atd dX12_bestPlace 40 rfl) rfl ?_
              refine wp_imulN (atd dX12_bestPlace 41 rfl) ?_
              refine wp_iload_n (atd dX12_bestPlace 42 rfl) rfl ?_
              refine wp_iaddN (atd dX12_bestPlace 43 rfl) ?_
              refine wp_ialdN (atd dX12_bestPlace 44 rfl) hM.a10 (show _ < 1485 from by omega) (Nat.le_of_ble_eq_true rfl) ?_
              rw [hWT i x hi (by omega), hy]
              refine wp_istore (atd dX12_bestPlace 45 rfl) (Nat.le_of_ble_eq_true rfl) ?_
              refine wp_iload_n (atd dX12_bestPlace 46 rfl) rfl ?_
              refine wp_ifN_lt (tgt := 101) (atd dX12_bestPlace 47 rfl) (by decide) (by omega) ?_
              refine wp_iload (atd dX12_bestPlace 48 rfl) rfl ?_
              refine wp_if_lt (tgt := 104) (atd dX12_bestPlace 49 rfl) (by decide) (fun c_86 => ?_) (fun c_86 => ?_)
              ·
                refine wp_iincN (c := 1) (atd dX12_bestPlace 57 rfl) rfl ?_
                refine wp_goto (tgt := 24) (atd dX12_bestPlace 58 rfl) (by decide) ?_
                exact ih (q + 1) (some x) _ _ (by omega) hb9 (by rw [← hv]; show _ = fl (bpG (w i) to) k (q + 1) (bpG (w i) to q (some x)); rw [show bpG (w i) to q (some x) = (some x) from by unfold bpG; rw [if_pos c_39]; simp only [hy]])
              · exact absurd (by decide) c_86
            ·
              have hy9 := hWB i x y hi (by omega) hy
              refine wp_aload_n (atd dX12_bestPlace 37 rfl) rfl rfl ?_
              refine wp_get fX12_45 (atd dX12_bestPlace 38 rfl) hM.1.1 rfl ?_
              refine wp_bipush (v := nI 9) (atd dX12_bestPlace 39 rfl) (by decide) ?_
              refine wp_iload_n (atd dX12_bestPlace 40 rfl) rfl ?_
              refine wp_imulN (atd dX12_bestPlace 41 rfl) ?_
              refine wp_iload_n (atd dX12_bestPlace 42 rfl) rfl ?_
              refine wp_iaddN (atd dX12_bestPlace 43 rfl) ?_
              refine wp_ialdN (atd dX12_bestPlace 44 rfl) hM.a10 (show _ < 1485 from by omega) (Nat.le_of_ble_eq_true rfl) ?_
              rw [hWT i x hi (by omega), hy]
              refine wp_istore (atd dX12_bestPlace 45 rfl) (Nat.le_of_ble_eq_true rfl) ?_
              refine wp_iload_n (atd dX12_bestPlace 46 rfl) rfl ?_
              refine wp_ifN_lt (tgt := 101) (atd dX12_bestPlace 47 rfl) (by decide) (by omega) ?_
              refine wp_iload (atd dX12_bestPlace 48 rfl) rfl ?_
              refine wp_ifN_lt (tgt := 104) (atd dX12_bestPlace 49 rfl) (by decide) (by omega) ?_
              refine wp_iload (atd dX12_bestPlace 50 rfl) rfl ?_
              refine wp_ifN_lt (tgt := 101) (atd dX12_bestPlace 51 rfl) (by decide) (by omega) ?_
              refine wp_iload (atd dX12_bestPlace 52 rfl) rfl ?_
              refine wp_iload (atd dX12_bestPlace 53 rfl) rfl ?_
              refine wp_icmpN_le (tgt := 104) (atd dX12_bestPlace 54 rfl) (by decide) (by omega) (by omega) (fun c_98 => ?_) (fun c_98 => ?_)
              ·
                refine wp_iincN (c := 1) (atd dX12_bestPlace 57 rfl) rfl ?_
                refine wp_goto (tgt := 24) (atd dX12_bestPlace 58 rfl) (by decide) ?_
                exact ih (q + 1) (some x) _ _ (by omega) hb9 (by rw [← hv]; show _ = fl (bpG (w i) to) k (q + 1) (bpG (w i) to q (some x)); rw [show bpG (w i) to q (some x) = (some x) from by unfold bpG; rw [if_pos c_39]; simp only [hy, hz]; exact if_neg (by omega)])
              ·
                refine wp_iload (atd dX12_bestPlace 55 rfl) rfl ?_
                refine wp_istore_n (atd dX12_bestPlace 56 rfl) (Nat.le_of_ble_eq_true rfl) ?_
                refine wp_iincN (c := 1) (atd dX12_bestPlace 57 rfl) rfl ?_
                refine wp_goto (tgt := 24) (atd dX12_bestPlace 58 rfl) (by decide) ?_
                exact ih (q + 1) (some q) _ _ (by omega) (by intro z hz; cases hz; omega) (by rw [← hv]; show _ = fl (bpG (w i) to) k (q + 1) (bpG (w i) to q (some x)); rw [show bpG (w i) to q (some x) = (some q) from by unfold bpG; rw [if_pos c_39]; simp only [hy, hz]; exact if_pos c_98])
      ·
        refine wp_goto (tgt := 104) (atd dX12_bestPlace 23 rfl) (by decide) ?_
        refine wp_iincN (c := 1) (atd dX12_bestPlace 57 rfl) rfl ?_
        refine wp_goto (tgt := 24) (atd dX12_bestPlace 58 rfl) (by decide) ?_
        exact ih (q + 1) b _ _ (by omega) hb9 (by rw [← hv]; show _ = fl (bpG (w i) to) k (q + 1) (bpG (w i) to q b); rw [show bpG (w i) to q b = b from if_neg c_39])
theorem eX12_bestPlace {G : Gx} {d : Nat} {σ : Hp} (hd : 3 ≤ d) {m n i h kd p : Nat} {α : Nat → Int32} {B : Nat → Nat → Int32} {nb : Nat → Nat} (hM : MA σ σ m α B) (hp : α 2 = nI n) (hn : n ≤ 9) (hb : ∀ p, p < n → B 1 p = nI (nb p)) (hw : ∀ p, nb p < 512) (hkd : kd < 3) (hh : h ≤ 3) (h47 : α 47 = nI kd) (h52 : α 52 = nI p) (hpn : p < n) (hi : i < (rowsL h n).length) (hGS : GSol α B nb n kd h) : Cl G mX12_bestPlace d [.ref m, .int (nI i)] σ 0 0 (pI fun r s => r = oI (bpF (slvF nb n h kd i) (rns nb n kd (std h (rowAt (rowsL h n) i)) p) n) ∧ s = σ) := by
  obtain ⟨d0, hdd⟩ : ∃ e, d = e + 1 := ⟨d - 1, by omega⟩
  refine cl_of (by decide) (by simp [Value.category]) (Nat.le_of_ble_eq_true rfl) ?_
  show Wp G mX12_bestPlace d 0 [.ref m, .int (nI i), .double 0, .double 0, .double 0, .double 0, .double 0] [] σ 0 0 _
  have hR9 := rowsL_len n (by omega) h (by omega)
  refine wp_aload_n (atd dX12_bestPlace 0 rfl) rfl rfl ?_
  refine wp_aload_n (atd dX12_bestPlace 1 rfl) rfl rfl ?_
  refine wp_get fX12_368 (atd dX12_bestPlace 2 rfl) hM.1.1 (congrArg (fun z => some (Value.int z)) h47) ?_
  refine wp_aload_n (atd dX12_bestPlace 3 rfl) rfl rfl ?_
  refine wp_get fX12_51 (atd dX12_bestPlace 4 rfl) hM.1.1 rfl ?_
  refine wp_iload_n (atd dX12_bestPlace 5 rfl) rfl ?_
  refine wp_ialdN (atd dX12_bestPlace 6 rfl) hM.a12 (show _ < 165 from by omega) (Nat.le_of_ble_eq_true rfl) ?_
  rw [(hGS.2.2.1 i hi).2]
  refine wp_aload_n (atd dX12_bestPlace 7 rfl) rfl rfl ?_
  refine wp_get fX12_353 (atd dX12_bestPlace 8 rfl) hM.1.1 (congrArg (fun z => some (Value.int z)) h52) ?_
  refine wp_cVi hdd [_, _, _] (atd dX12_bestPlace 9 rfl) iX12_runs lX12_259 rfl rfl (Nat.le_of_ble_eq_true rfl) hM.1.1 rfl (eX12_runs (by omega) hM hp hn hb hw hkd hpn) (fun r_15 s_15 h_15 => ?_)
  obtain ⟨rfl, rfl⟩ := h_15
  refine wp_istore_n (atd dX12_bestPlace 10 rfl) (Nat.le_of_ble_eq_true rfl) ?_
  refine wp_iconst (v := -1) (atd dX12_bestPlace 11 rfl) (by decide) ?_
  refine wp_istore_n (atd dX12_bestPlace 12 rfl) (Nat.le_of_ble_eq_true rfl) ?_
  refine wp_iconst (v := nI 0) (atd dX12_bestPlace 13 rfl) (by decide) ?_
  refine wp_istore (atd dX12_bestPlace 14 rfl) (Nat.le_of_ble_eq_true rfl) ?_
  exact lX12_bestPlace (by omega) hM hp hn hR9 hi (rns_lt hw n kd _ p) hGS.2.2.2.2.1 hGS.2.2.2.2.2.2 (by omega) n 0 none _ _ (by omega) (by intro y hy; cases hy) rfl
noncomputable def bsF (nb : Nat → Nat) (n kd h : Nat) (ρ : Row) (p t : Nat) (i : Int32) : Int32 := if (std h ρ).testBit p = true then -1 else
  if t = 0 then atP i h (fun j => nI (rk (rowAt (rowsL h n) (brT nb n kd h (slvF nb n h kd) (rwi (rowsL h n) ρ) p)) j)) (-1) else atP i 1 (fun _ => oI (bpF (slvF nb n h kd (rwi (rowsL h n) ρ)) (rns nb n kd (std h ρ) p) n)) (-1)
theorem eX12_best {G : Gx} {d : Nat} {σ : Hp} (hd : 7 ≤ d) {m n : Nat} {α : Nat → Int32} {B : Nat → Nat → Int32} {nb : Nat → Nat} (hM : MA σ σ m α B) (hp : α 2 = nI n) (hn : n ≤ 9) (hb : ∀ p, p < n → B 1 p = nI (nb p)) (hw : ∀ p, nb p < 512) (ho : ∀ j, j < 18 → B 8 j = nI (ordT j)) (hG : GOk α B nb n) (hN : isNet n nb) {kd h p t : Nat} {ρ : Row} (hsc : SCN α kd h ρ p t) (hkd : kd < 3) (hh1 : 1 ≤ h) (hh : h ≤ 3) (hρ : ρ ∈ rowsL h n) (hpn : p < n) (ht : t ≤ 1) {i : Int32} (h46 : α 46 = nI 1) : Cl G mX12_best d [.ref m, .int i] σ 0 0 (pI fun r s => r = bsF nb n kd h ρ p t i ∧ GY σ s m α B nb n) := by
  obtain ⟨d0, hdd⟩ : ∃ e, d = e + 1 := ⟨d - 1, by omega⟩
  refine cl_of (by decide) (by simp [Value.category]) (Nat.le_of_ble_eq_true rfl) ?_
  show Wp G mX12_best d 0 [.ref m, .int i, .double 0] [] σ 0 0 _
  have hok := rowsL_ok n (by omega) h (by omega) ρ hρ
  have hR9 := rowsL_len n (by omega) h (by omega)
  have hix := rwi_lt hρ
  have hex : ∃ x, x < (rowsL h n).length ∧ cgF nb h kd (rowsL h n) (rwi (rowsL h n) ρ) x = true := ⟨_, hix, cms_rf hh hN.2.2.1 (rowsL_in hn hh _ hix)⟩
  have hbl : brT nb n kd h (slvF nb n h kd) (rwi (rowsL h n) ρ) p < (rowsL h n).length := brF_lt hex
  refine wp_aload_n (atd dX12_best 0 rfl) rfl rfl ?_
  refine wp_iconst (v := nI 0) (atd dX12_best 1 rfl) (by decide) ?_
  refine wp_putM fX12_75 (atd dX12_best 2 rfl) hM rfl (fun σ hM => ?_)
  refine wp_aload_n (atd dX12_best 3 rfl) rfl rfl ?_
  refine wp_get fX12_165 (atd dX12_best 4 rfl) hM.1.1 (congrArg (fun z => some (Value.int z)) h46) ?_
  refine wp_ifN_eq (tgt := 44) (atd dX12_best 5 rfl) (by decide) (by omega) (fun c_9 => ?_) (fun c_9 => ?_)
  · exact absurd c_9 (by decide)
  ·
    refine wp_aload_n (atd dX12_best 6 rfl) rfl rfl ?_
    refine wp_cVi hdd [] (atd dX12_best 7 rfl) iX12_isCaught lX12_383 rfl rfl (Nat.le_of_ble_eq_true rfl) hM.1.1 rfl (eX12_isCaught (by omega) hM.self hn hsc hkd hh1 hh hρ hpn ht) (fun r_13 s_13 h_13 => ?_)
    obtain ⟨rfl, rfl⟩ := h_13
    refine wp_ifB_ne (tgt := 44) (atd dX12_best 8 rfl) (by decide) (fun c_16 => ?_) (fun c_16 => ?_)
    ·
      refine wp_iconst (v := -1) (atd dX12_best 22 rfl) (by decide) ?_
      refine wp_ireti (atd dX12_best 23 rfl) rfl ?_
      exact ⟨by unfold bsF; rw [if_pos c_16], ⟨_, B, hM, frm.rf.up (by decide), frm.rf, rfl, hG⟩⟩
    ·
      refine wp_iload_n (atd dX12_best 9 rfl) rfl ?_
      refine wp_iconst (v := nI 0) (atd dX12_best 10 rfl) (by decide) ?_
      refine wp_aload_n (atd dX12_best 11 rfl) rfl rfl ?_
      refine wp_get fX12_374 (atd dX12_best 12 rfl) hM.1.1 (congrArg (fun z => some (Value.int z)) hsc.2.2.2.2.2.2) ?_
      refine wp_ifN_ne (tgt := 37) (atd dX12_best 13 rfl) (by decide) (by omega) (fun c_25 => ?_) (fun c_25 => ?_)
      ·
        refine wp_iconst (v := nI 0) (atd dX12_best 19 rfl) (by decide) ?_
        refine wp_cSi hdd [_, _, _] (atd dX12_best 20 rfl) iX12_in lX12_81 rfl rfl (Nat.le_of_ble_eq_true rfl) (eX12_in (by omega)) (fun r_38 s_38 h_38 => ?_)
        obtain ⟨rfl, rfl⟩ := h_38
        rw [bI_c (isP_le (t := 0) (by omega))]
        refine wp_ifB_ne (tgt := 46) (atd dX12_best 21 rfl) (by decide) (fun c_41 => ?_) (fun c_41 => ?_)
        ·
          obtain ⟨j, hj, rfl⟩ := isP_ofB c_41
          refine wp_aload_n (atd dX12_best 24 rfl) rfl rfl ?_
          refine wp_cVi hdd [] (atd dX12_best 25 rfl) iX12_sceneRow lX12_380 rfl rfl (Nat.le_of_ble_eq_true rfl) hM.1.1 rfl (eX12_sceneRow (by omega) hM.self hp hn hb hw ho hG hsc hkd hh1 hh hρ hpn ht) (fun r_47 s_47 h_47 => ?_)
          obtain ⟨rfl, α1, B1, hM1, hfa1, hfb1, k19, k20, hGS⟩ := h_47
          have hM := hM.trans hM1
          have hsc1 := SCN.cg (show SCN (upd α 0 (nI 0)) kd h ρ p t from hsc) hfa1 (fun k h1 h2 => by simp only [List.mem_cons, List.not_mem_nil, or_false]; omega)
          have hp1 : α1 2 = nI n := (hfa1 2 (by decide)).trans hp
          have hb1 : ∀ p, p < n → B1 1 p = nI (nb p) := fun p hpn => by rw [hfb1 1 (by decide)]; exact hb p hpn
          refine wp_istore_n (atd dX12_best 26 rfl) (Nat.le_of_ble_eq_true rfl) ?_
          refine wp_aload_n (atd dX12_best 27 rfl) rfl rfl ?_
          refine wp_get fX12_374 (atd dX12_best 28 rfl) hM.1.1 (congrArg (fun z => some (Value.int z)) hsc1.2.2.2.2.2.2) ?_
          refine wp_ifN_ne (tgt := 79) (atd dX12_best 29 rfl) (by decide) (by omega) (fun c_55 => ?_) (fun c_55 => ?_)
          ·
            refine wp_aload_n (atd dX12_best 43 rfl) rfl rfl ?_
            refine wp_iload_n (atd dX12_best 44 rfl) rfl ?_
            refine wp_cVi hdd [_] (atd dX12_best 45 rfl) iX12_bestPlace lX12_389 rfl rfl (Nat.le_of_ble_eq_true rfl) hM.1.1 rfl (eX12_bestPlace (by omega) hM.self hp1 hn hb1 hw hkd hh hsc1.1 hsc1.2.2.2.2.2.1 hpn hix hGS) (fun r_81 s_81 h_81 => ?_)
            obtain ⟨rfl, rfl⟩ := h_81
            refine wp_ireti (atd dX12_best 46 rfl) rfl ?_
            exact ⟨by unfold bsF; rw [if_neg c_16, if_neg (by omega), atP_t (by omega) hj, rwi_at hρ], ⟨α1, B1, hM, frm_sub (frm.up (f := α) (frm.rf (S := [0])) (by decide)) hfa1 (by decide) (by decide), hfb1, (hfa1 0 (by decide)).trans rfl, Or.inr ⟨kd, h, hkd, hh1, hh, k19, k20, hGS⟩⟩⟩
          · exfalso; omega
        ·
          refine wp_iconst (v := -1) (atd dX12_best 22 rfl) (by decide) ?_
          refine wp_ireti (atd dX12_best 23 rfl) rfl ?_
          exact ⟨by unfold bsF; rw [if_neg c_16, if_neg (by omega), atP_f c_41], ⟨_, B, hM, frm.rf.up (by decide), frm.rf, rfl, hG⟩⟩
      ·
        refine wp_aload_n (atd dX12_best 14 rfl) rfl rfl ?_
        refine wp_get fX12_359 (atd dX12_best 15 rfl) hM.1.1 (congrArg (fun z => some (Value.int z)) hsc.2.1) ?_
        refine wp_iconst (v := nI 1) (atd dX12_best 16 rfl) (by decide) ?_
        refine wp_isub (atd dX12_best 17 rfl) ?_
        refine wp_goto (tgt := 38) (atd dX12_best 18 rfl) (by decide) ?_
        refine wp_cSi hdd [_, _, _] (atd dX12_best 20 rfl) iX12_in lX12_81 rfl rfl (Nat.le_of_ble_eq_true rfl) (eX12_in (by omega)) (fun r_38 s_38 h_38 => ?_)
        obtain ⟨rfl, rfl⟩ := h_38
        rw [bI_c (isP_iff (by omega))]
        refine wp_ifB_ne (tgt := 46) (atd dX12_best 21 rfl) (by decide) (fun c_41 => ?_) (fun c_41 => ?_)
        ·
          obtain ⟨j, hj, rfl⟩ := isP_ofB c_41
          refine wp_aload_n (atd dX12_best 24 rfl) rfl rfl ?_
          refine wp_cVi hdd [] (atd dX12_best 25 rfl) iX12_sceneRow lX12_380 rfl rfl (Nat.le_of_ble_eq_true rfl) hM.1.1 rfl (eX12_sceneRow (by omega) hM.self hp hn hb hw ho hG hsc hkd hh1 hh hρ hpn ht) (fun r_47 s_47 h_47 => ?_)
          obtain ⟨rfl, α1, B1, hM1, hfa1, hfb1, k19, k20, hGS⟩ := h_47
          have hM := hM.trans hM1
          have hsc1 := SCN.cg (show SCN (upd α 0 (nI 0)) kd h ρ p t from hsc) hfa1 (fun k h1 h2 => by simp only [List.mem_cons, List.not_mem_nil, or_false]; omega)
          have hp1 : α1 2 = nI n := (hfa1 2 (by decide)).trans hp
          have hb1 : ∀ p, p < n → B1 1 p = nI (nb p) := fun p hpn => by rw [hfb1 1 (by decide)]; exact hb p hpn
          refine wp_istore_n (atd dX12_best 26 rfl) (Nat.le_of_ble_eq_true rfl) ?_
          refine wp_aload_n (atd dX12_best 27 rfl) rfl rfl ?_
          refine wp_get fX12_374 (atd dX12_best 28 rfl) hM.1.1 (congrArg (fun z => some (Value.int z)) hsc1.2.2.2.2.2.2) ?_
          refine wp_ifN_ne (tgt := 79) (atd dX12_best 29 rfl) (by decide) (by omega) (fun c_55 => ?_) (fun c_55 => ?_)
          · exfalso; omega
          ·
            refine wp_aload_n (atd dX12_best 30 rfl) rfl rfl ?_
            refine wp_get fX12_35 (atd dX12_best 31 rfl) hM.1.1 rfl ?_
            refine wp_iconst (v := nI 3) (atd dX12_best 32 rfl) (by decide) ?_
            refine wp_aload_n (atd dX12_best 33 rfl) rfl rfl ?_
            refine wp_iload_n (atd dX12_best 34 rfl) rfl ?_
            refine wp_aload_n (atd dX12_best 35 rfl) rfl rfl ?_
            refine wp_get fX12_353 (atd dX12_best 36 rfl) hM.1.1 (congrArg (fun z => some (Value.int z)) hsc1.2.2.2.2.2.1) ?_
            refine wp_cVi hdd [_, _] (atd dX12_best 37 rfl) iX12_bestRow lX12_305 rfl rfl (Nat.le_of_ble_eq_true rfl) hM.1.1 rfl (eX12_bestRow (cg := cgF nb h kd (rowsL h n)) (r := rwt nb n kd h (rowsL h n) (slvF nb n h kd)) (by omega) hM.self hGS.2.1 hR9 hix hpn hn hGS.2.2.2.1 hGS.2.2.2.2.2.1 (rwt_le hGS.2.2.2.2.2.2) (by omega) hex) (fun r_69 s_69 h_69 => ?_)
            obtain ⟨rfl, rfl⟩ := h_69
            rw [show brF (cgF nb h kd (rowsL h n) (rwi (rowsL h n) ρ)) (fun j => rwt nb n kd h (rowsL h n) (slvF nb n h kd) j p) (rowsL h n).length = brT nb n kd h (slvF nb n h kd) (rwi (rowsL h n) ρ) p from rfl]
            refine wp_imulN (atd dX12_best 38 rfl) ?_
            refine wp_iload_n (atd dX12_best 39 rfl) rfl ?_
            refine wp_iaddN (atd dX12_best 40 rfl) ?_
            refine wp_ialdN (atd dX12_best 41 rfl) hM.a7 (show _ < 495 from by omega) (Nat.le_of_ble_eq_true rfl) ?_
            rw [(hGS.2.2.1 _ hbl).1 j (by omega)]
            refine wp_goto (tgt := 84) (atd dX12_best 42 rfl) (by decide) ?_
            refine wp_ireti (atd dX12_best 46 rfl) rfl ?_
            exact ⟨by unfold bsF; rw [if_neg c_16, if_pos c_25, atP_t (by omega) hj], ⟨α1, B1, hM, frm_sub (frm.up (f := α) (frm.rf (S := [0])) (by decide)) hfa1 (by decide) (by decide), hfb1, (hfa1 0 (by decide)).trans rfl, Or.inr ⟨kd, h, hkd, hh1, hh, k19, k20, hGS⟩⟩⟩
        ·
          refine wp_iconst (v := -1) (atd dX12_best 22 rfl) (by decide) ?_
          refine wp_ireti (atd dX12_best 23 rfl) rfl ?_
          exact ⟨by unfold bsF; rw [if_neg c_16, if_pos c_25, atP_f c_41], ⟨_, B, hM, frm.rf.up (by decide), frm.rf, rfl, hG⟩⟩
theorem eX12_best0 {G : Gx} {d : Nat} {σ : Hp} (hd : 0 ≤ d) {m : Nat} {α : Nat → Int32} {B : Nat → Nat → Int32} (hM : MA σ σ m α B) (h46 : α 46 = nI 0) {w : Int32} : Cl G mX12_best d [.ref m, .int w] σ 0 0 (pI fun r s => r = -1 ∧ MA σ s m (upd α 0 (nI 0)) B) := by
  refine cl_of (by decide) (by simp [Value.category]) (Nat.le_of_ble_eq_true rfl) ?_
  show Wp G mX12_best d 0 [.ref m, .int w, .double 0] [] σ 0 0 _
  refine wp_aload_n (atd dX12_best 0 rfl) rfl rfl ?_
  refine wp_iconst (v := nI 0) (atd dX12_best 1 rfl) (by decide) ?_
  refine wp_putM fX12_75 (atd dX12_best 2 rfl) hM rfl (fun σ hM => ?_)
  refine wp_aload_n (atd dX12_best 3 rfl) rfl rfl ?_
  refine wp_get fX12_165 (atd dX12_best 4 rfl) hM.1.1 (congrArg (fun z => some (Value.int z)) h46) ?_
  refine wp_ifN_eq (tgt := 44) (atd dX12_best 5 rfl) (by decide) (by omega) (fun c_9 => ?_) (fun c_9 => ?_)
  ·
    refine wp_iconst (v := -1) (atd dX12_best 22 rfl) (by decide) ?_
    refine wp_ireti (atd dX12_best 23 rfl) rfl ?_
    exact ⟨rfl, hM⟩
  · exact absurd c_9 (by decide)
def sfG (w : Nat → Option Nat) (to q s : Nat) : Nat := s ||| (if to.testBit q = true ∧ w q = none then 2 ^ q else 0)
noncomputable def sfF (nb : Nat → Nat) (n kd h : Nat) (ρ : Row) (p t : Nat) : Int32 := if (std h ρ).testBit p = true ∨ t = 0 then -1 else nI (fl (sfG (slvF nb n h kd (rwi (rowsL h n) ρ)) (rns nb n kd (std h ρ) p)) n 0 0)
theorem lX12_safe {G : Gx} {d : Nat} {σ : Hp} {v : Nat} (hd : 1 ≤ d) {m n i R to X : Nat} {α : Nat → Int32} {B : Nat → Nat → Int32} {w : Wo} (hM : MA σ σ m α B) (hp : α 2 = nI n) (hn : n ≤ 9) (hR9 : R ≤ 165) (hi : i < R) (hto : to < 512) (hWT : WT B 10 w R n) (hWB : WB w R n X) (hX : X < 100000) : ∀ (k : Nat) (q s : Nat), q + k = n → fl (sfG (w i) to) k q s = v → Wp G mX12_safe d 57 [.ref m, .int (nI i), .int (nI to), .int (nI s), .int (nI q)] [] σ 0 0 (pI fun r s => r = nI v ∧ s = σ) := by
  obtain ⟨d0, hdd⟩ : ∃ e, d = e + 1 := ⟨d - 1, by omega⟩
  intro k
  induction k with
  | zero =>
    intro q s h2 hv
    refine wp_iload (atd dX12_safe 32 rfl) rfl ?_
    refine wp_aload_n (atd dX12_safe 33 rfl) rfl rfl ?_
    refine wp_get fX12_78 (atd dX12_safe 34 rfl) hM.1.1 (congrArg (fun z => some (Value.int z)) hp) ?_
    refine wp_icmpN_ge (tgt := 107) (atd dX12_safe 35 rfl) (by decide) (by omega) (by omega) (fun c_63 => ?_) (fun c_63 => ?_)
    ·
      refine wp_iload_n (atd dX12_safe 59 rfl) rfl ?_
      refine wp_ireti (atd dX12_safe 60 rfl) rfl ?_
      exact ⟨by rw [← hv]; rfl, rfl⟩
    · exfalso; omega
  | succ k ih =>
    intro q s h2 hv
    refine wp_iload (atd dX12_safe 32 rfl) rfl ?_
    refine wp_aload_n (atd dX12_safe 33 rfl) rfl rfl ?_
    refine wp_get fX12_78 (atd dX12_safe 34 rfl) hM.1.1 (congrArg (fun z => some (Value.int z)) hp) ?_
    refine wp_icmpN_ge (tgt := 107) (atd dX12_safe 35 rfl) (by decide) (by omega) (by omega) (fun c_63 => ?_) (fun c_63 => ?_)
    · exfalso; omega
    ·
      refine wp_iload_n (atd dX12_safe 36 rfl) rfl ?_
      refine wp_iload_n (atd dX12_safe 37 rfl) rfl ?_
      refine wp_iload (atd dX12_safe 38 rfl) rfl ?_
      refine wp_cSi hdd [_, _] (atd dX12_safe 39 rfl) iX12_isOf lX12_149 rfl rfl (Nat.le_of_ble_eq_true rfl) (eX12_isOf (by omega) (by omega) (by omega)) (fun r_70 s_70 h_70 => ?_)
      obtain ⟨rfl, rfl⟩ := h_70
      refine wp_ifB_eq (tgt := 98) (atd dX12_safe 40 rfl) (by decide) (fun c_73 => ?_) (fun c_73 => ?_)
      ·
        refine wp_iconst (v := nI 0) (atd dX12_safe 54 rfl) (by decide) ?_
        refine wp_iorN (atd dX12_safe 55 rfl) ?_
        refine wp_istore_n (atd dX12_safe 56 rfl) (Nat.le_of_ble_eq_true rfl) ?_
        refine wp_iincN (c := 1) (atd dX12_safe 57 rfl) rfl ?_
        refine wp_goto (tgt := 57) (atd dX12_safe 58 rfl) (by decide) ?_
        exact ih (q + 1) _ (by omega) (by rw [← hv]; simp [fl, sfG, c_73])
      ·
        refine wp_aload_n (atd dX12_safe 41 rfl) rfl rfl ?_
        refine wp_get fX12_45 (atd dX12_safe 42 rfl) hM.1.1 rfl ?_
        refine wp_bipush (v := nI 9) (atd dX12_safe 43 rfl) (by decide) ?_
        refine wp_iload_n (atd dX12_safe 44 rfl) rfl ?_
        refine wp_imulN (atd dX12_safe 45 rfl) ?_
        refine wp_iload (atd dX12_safe 46 rfl) rfl ?_
        refine wp_iaddN (atd dX12_safe 47 rfl) ?_
        refine wp_ialdN (atd dX12_safe 48 rfl) hM.a10 (show _ < 1485 from by omega) (Nat.le_of_ble_eq_true rfl) ?_
        rw [hWT i q hi (by omega)]
        generalize hx : w i q = xx; rcases xx with _ | x
        ·
          refine wp_if_ge (tgt := 98) (atd dX12_safe 49 rfl) (by decide) (fun c_88 => ?_) (fun c_88 => ?_)
          · exact absurd c_88 (by decide)
          ·
            refine wp_iconst (v := nI 1) (atd dX12_safe 50 rfl) (by decide) ?_
            refine wp_iload (atd dX12_safe 51 rfl) rfl ?_
            refine wp_ishl1 (atd dX12_safe 52 rfl) (by omega) ?_
            refine wp_goto (tgt := 99) (atd dX12_safe 53 rfl) (by decide) ?_
            refine wp_iorN (atd dX12_safe 55 rfl) ?_
            refine wp_istore_n (atd dX12_safe 56 rfl) (Nat.le_of_ble_eq_true rfl) ?_
            refine wp_iincN (c := 1) (atd dX12_safe 57 rfl) rfl ?_
            refine wp_goto (tgt := 57) (atd dX12_safe 58 rfl) (by decide) ?_
            exact ih (q + 1) _ (by omega) (by rw [← hv]; simp [fl, sfG, c_73, hx])
        ·
          have hx9 := hWB i q x hi (by omega) hx
          refine wp_ifN_ge (tgt := 98) (atd dX12_safe 49 rfl) (by decide) (by omega) ?_
          refine wp_iconst (v := nI 0) (atd dX12_safe 54 rfl) (by decide) ?_
          refine wp_iorN (atd dX12_safe 55 rfl) ?_
          refine wp_istore_n (atd dX12_safe 56 rfl) (Nat.le_of_ble_eq_true rfl) ?_
          refine wp_iincN (c := 1) (atd dX12_safe 57 rfl) rfl ?_
          refine wp_goto (tgt := 57) (atd dX12_safe 58 rfl) (by decide) ?_
          exact ih (q + 1) _ (by omega) (by rw [← hv]; simp [fl, sfG, c_73, hx])
theorem eX12_safe {G : Gx} {d : Nat} {σ : Hp} (hd : 7 ≤ d) {m n : Nat} {α : Nat → Int32} {B : Nat → Nat → Int32} {nb : Nat → Nat} (hM : MA σ σ m α B) (hp : α 2 = nI n) (hn : n ≤ 9) (hb : ∀ p, p < n → B 1 p = nI (nb p)) (hw : ∀ p, nb p < 512) (ho : ∀ j, j < 18 → B 8 j = nI (ordT j)) (hG : GOk α B nb n) {kd h p t : Nat} {ρ : Row} (hsc : SCN α kd h ρ p t) (hkd : kd < 3) (hh1 : 1 ≤ h) (hh : h ≤ 3) (hρ : ρ ∈ rowsL h n) (hpn : p < n) (ht : t ≤ 1) (h46 : α 46 = nI 1) : Cl G mX12_safe d [.ref m] σ 0 0 (pI fun r s => r = sfF nb n kd h ρ p t ∧ GY σ s m α B nb n) := by
  obtain ⟨d0, hdd⟩ : ∃ e, d = e + 1 := ⟨d - 1, by omega⟩
  refine cl_of (by decide) (by simp [Value.category]) (Nat.le_of_ble_eq_true rfl) ?_
  show Wp G mX12_safe d 0 [.ref m, .double 0, .double 0, .double 0, .double 0] [] σ 0 0 _
  have hok := rowsL_ok n (by omega) h (by omega) ρ hρ
  have hR9 := rowsL_len n (by omega) h (by omega)
  have hix := rwi_lt hρ
  refine wp_aload_n (atd dX12_safe 0 rfl) rfl rfl ?_
  refine wp_iconst (v := nI 0) (atd dX12_safe 1 rfl) (by decide) ?_
  refine wp_putM fX12_75 (atd dX12_safe 2 rfl) hM rfl (fun σ hM => ?_)
  refine wp_aload_n (atd dX12_safe 3 rfl) rfl rfl ?_
  refine wp_get fX12_165 (atd dX12_safe 4 rfl) hM.1.1 (congrArg (fun z => some (Value.int z)) h46) ?_
  refine wp_ifN_eq (tgt := 26) (atd dX12_safe 5 rfl) (by decide) (by omega) (fun c_9 => ?_) (fun c_9 => ?_)
  · exact absurd c_9 (by decide)
  ·
    refine wp_aload_n (atd dX12_safe 6 rfl) rfl rfl ?_
    refine wp_cVi hdd [] (atd dX12_safe 7 rfl) iX12_isCaught lX12_383 rfl rfl (Nat.le_of_ble_eq_true rfl) hM.1.1 rfl (eX12_isCaught (by omega) hM.self hn hsc hkd hh1 hh hρ hpn ht) (fun r_13 s_13 h_13 => ?_)
    obtain ⟨rfl, rfl⟩ := h_13
    refine wp_ifB_ne (tgt := 26) (atd dX12_safe 8 rfl) (by decide) (fun c_16 => ?_) (fun c_16 => ?_)
    ·
      refine wp_iconst (v := -1) (atd dX12_safe 12 rfl) (by decide) ?_
      refine wp_ireti (atd dX12_safe 13 rfl) rfl ?_
      exact ⟨by unfold sfF; rw [if_pos (Or.inl c_16)], ⟨_, B, hM, frm.rf.up (by decide), frm.rf, rfl, hG⟩⟩
    ·
      refine wp_aload_n (atd dX12_safe 9 rfl) rfl rfl ?_
      refine wp_get fX12_374 (atd dX12_safe 10 rfl) hM.1.1 (congrArg (fun z => some (Value.int z)) hsc.2.2.2.2.2.2) ?_
      refine wp_ifN_ne (tgt := 28) (atd dX12_safe 11 rfl) (by decide) (by omega) (fun c_23 => ?_) (fun c_23 => ?_)
      ·
        refine wp_aload_n (atd dX12_safe 14 rfl) rfl rfl ?_
        refine wp_cVi hdd [] (atd dX12_safe 15 rfl) iX12_sceneRow lX12_380 rfl rfl (Nat.le_of_ble_eq_true rfl) hM.1.1 rfl (eX12_sceneRow (by omega) hM.self hp hn hb hw ho hG hsc hkd hh1 hh hρ hpn ht) (fun r_29 s_29 h_29 => ?_)
        obtain ⟨rfl, α1, B1, hM1, hfa1, hfb1, k19, k20, hGS⟩ := h_29
        have hM := hM.trans hM1
        have hsc1 := SCN.cg (show SCN (upd α 0 (nI 0)) kd h ρ p t from hsc) hfa1 (fun k h1 h2 => by simp only [List.mem_cons, List.not_mem_nil, or_false]; omega)
        have hp1 : α1 2 = nI n := (hfa1 2 (by decide)).trans hp
        have hb1 : ∀ p, p < n → B1 1 p = nI (nb p) := fun p hpn => by rw [hfb1 1 (by decide)]; exact hb p hpn
        refine wp_istore_n (atd dX12_safe 16 rfl) (Nat.le_of_ble_eq_true rfl) ?_
        refine wp_aload_n (atd dX12_safe 17 rfl) rfl rfl ?_
        refine wp_aload_n (atd dX12_safe 18 rfl) rfl rfl ?_
        refine wp_get fX12_368 (atd dX12_safe 19 rfl) hM.1.1 (congrArg (fun z => some (Value.int z)) hsc1.1) ?_
        refine wp_aload_n (atd dX12_safe 20 rfl) rfl rfl ?_
        refine wp_get fX12_51 (atd dX12_safe 21 rfl) hM.1.1 rfl ?_
        refine wp_iload_n (atd dX12_safe 22 rfl) rfl ?_
        refine wp_ialdN (atd dX12_safe 23 rfl) hM.a12 (show _ < 165 from by omega) (Nat.le_of_ble_eq_true rfl) ?_
        rw [(hGS.2.2.1 _ hix).2]
        refine wp_aload_n (atd dX12_safe 24 rfl) rfl rfl ?_
        refine wp_get fX12_353 (atd dX12_safe 25 rfl) hM.1.1 (congrArg (fun z => some (Value.int z)) hsc1.2.2.2.2.2.1) ?_
        refine wp_cVi hdd [_, _, _] (atd dX12_safe 26 rfl) iX12_runs lX12_259 rfl rfl (Nat.le_of_ble_eq_true rfl) hM.1.1 rfl (eX12_runs (by omega) hM.self hp1 hn hb1 hw hkd hpn) (fun r_48 s_48 h_48 => ?_)
        obtain ⟨rfl, rfl⟩ := h_48
        refine wp_istore_n (atd dX12_safe 27 rfl) (Nat.le_of_ble_eq_true rfl) ?_
        refine wp_iconst (v := nI 0) (atd dX12_safe 28 rfl) (by decide) ?_
        refine wp_istore_n (atd dX12_safe 29 rfl) (Nat.le_of_ble_eq_true rfl) ?_
        refine wp_iconst (v := nI 0) (atd dX12_safe 30 rfl) (by decide) ?_
        refine wp_istore (atd dX12_safe 31 rfl) (Nat.le_of_ble_eq_true rfl) ?_
        rw [rwi_at hρ]
        refine wp_post (lX12_safe (v := fl (sfG (slvF nb n h kd (rwi (rowsL h n) ρ)) (rns nb n kd (std h ρ) p)) n 0 0) (by omega) hM.self hp1 hn hR9 hix (rns_lt hw n kd _ p) hGS.2.2.2.2.1 hGS.2.2.2.2.2.2 (by omega) n 0 0 (by omega) rfl) ?_
        rintro v s ⟨r, rfl, rfl, rfl⟩
        exact ⟨_, rfl, by unfold sfF; rw [if_neg (by intro z; rcases z with z | z; exact c_16 z; omega)], ⟨α1, B1, hM, frm_sub (frm.up (f := α) (frm.rf (S := [0])) (by decide)) hfa1 (by decide) (by decide), hfb1, (hfa1 0 (by decide)).trans rfl, Or.inr ⟨kd, h, hkd, hh1, hh, k19, k20, hGS⟩⟩⟩
      ·
        refine wp_iconst (v := -1) (atd dX12_safe 12 rfl) (by decide) ?_
        refine wp_ireti (atd dX12_safe 13 rfl) rfl ?_
        exact ⟨by unfold sfF; rw [if_pos (Or.inr c_23)], ⟨_, B, hM, frm.rf.up (by decide), frm.rf, rfl, hG⟩⟩
theorem eX12_safe0 {G : Gx} {d : Nat} {σ : Hp} (hd : 0 ≤ d) {m : Nat} {α : Nat → Int32} {B : Nat → Nat → Int32} (hM : MA σ σ m α B) (h46 : α 46 = nI 0) : Cl G mX12_safe d [.ref m] σ 0 0 (pI fun r s => r = -1 ∧ MA σ s m (upd α 0 (nI 0)) B) := by
  refine cl_of (by decide) (by simp [Value.category]) (Nat.le_of_ble_eq_true rfl) ?_
  show Wp G mX12_safe d 0 [.ref m, .double 0, .double 0, .double 0, .double 0] [] σ 0 0 _
  refine wp_aload_n (atd dX12_safe 0 rfl) rfl rfl ?_
  refine wp_iconst (v := nI 0) (atd dX12_safe 1 rfl) (by decide) ?_
  refine wp_putM fX12_75 (atd dX12_safe 2 rfl) hM rfl (fun σ hM => ?_)
  refine wp_aload_n (atd dX12_safe 3 rfl) rfl rfl ?_
  refine wp_get fX12_165 (atd dX12_safe 4 rfl) hM.1.1 (congrArg (fun z => some (Value.int z)) h46) ?_
  refine wp_ifN_eq (tgt := 26) (atd dX12_safe 5 rfl) (by decide) (by omega) (fun c_9 => ?_) (fun c_9 => ?_)
  ·
    refine wp_iconst (v := -1) (atd dX12_safe 12 rfl) (by decide) ?_
    refine wp_ireti (atd dX12_safe 13 rfl) rfl ?_
    exact ⟨rfl, hM⟩
  · exact absurd c_9 (by decide)
