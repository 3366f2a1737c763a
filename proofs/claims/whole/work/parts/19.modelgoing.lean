def ordT (j : Nat) : Nat := [0, 1, 2, 0, 2, 1, 1, 0, 2, 1, 2, 0, 2, 0, 1, 2, 1, 0].getD j 0
theorem ordT_lt : ∀ j, j < 18 → ordT j < 3 := by decide +kernel
def cmG (nb : Nat → Nat) (h : Nat) (ri rj : Row) (o k : Nat) (x : Nat × Nat) : Nat × Nat :=
  if ordT (3 * o + k) < h then ((if x.1 ≠ 0 ∧ (nb (rk ri k)).testBit (rk rj (ordT (3 * o + k))) = true then 1 else 0), x.2 + (if rk ri k = rk rj (ordT (3 * o + k)) then 0 else 1)) else (0, x.2 + 1)
def cmO (nb : Nat → Nat) (h : Nat) (ri rj : Row) (o : Nat) : Nat × Nat := fl (cmG nb h ri rj o) h 0 (1, 0)
def cmsG (nb : Nat → Nat) (h kd : Nat) (ri rj : Row) : Nat → Nat → Bool
  | 0, _ => false
  | f + 1, o => if (cmO nb h ri rj o).1 ≠ 0 ∧ (kd ≠ 1 ∨ (cmO nb h ri rj o).2 < 2) then true else cmsG nb h kd ri rj f (o + 1)
def cms (nb : Nat → Nat) (h kd : Nat) (ri rj : Row) : Bool := cmsG nb h kd ri rj 6 0
/-- all rows are of places below n -/
def RIn (F : List Row) (n : Nat) : Prop := ∀ i, i < F.length → ∀ k, k < 3 → rk (rowAt F i) k < n
theorem rowsL_in {n h : Nat} (hn : n ≤ 9) (hh : h ≤ 3) : RIn (rowsL h n) n := by
  intro i hi k hk
  have hm : rowAt (rowsL h n) i ∈ rowsL h n := by
    unfold rowAt
    rw [List.getD, List.getElem?_eq_getElem hi]
    exact List.getElem_mem hi
  obtain ⟨h1, h2, h3, -⟩ := rowsL_ok n (by omega) h (by omega) _ hm
  rcases (show k = 0 ∨ k = 1 ∨ k = 2 by omega) with rfl | rfl | rfl
  · exact h1
  · exact h2
  · exact h3
theorem lX12_comes {G : Gx} {d : Nat} {Q : Option Value → Hp → Prop} {σ : Hp} (hd : 1 ≤ d) {m n : Nat} {α : Nat → Int32} {B : Nat → Nat → Int32} {nb : Nat → Nat} (hM : MA σ σ m α B) (hp : α 2 = nI n) (hn : n ≤ 9) (hb : ∀ p, p < n → B 1 p = nI (nb p)) (hw : ∀ p, nb p < 512) {h kd i j : Nat} {F : List Row} (h33 : α 33 = nI h) (hh1 : 1 ≤ h) (hh : h ≤ 3) (hkd : kd < 3) (hF9 : F.length ≤ 165) (hR : RW B F h) (hin : RIn F n) (ho : ∀ j, j < 18 → B 8 j = nI (ordT j)) (hi : i < F.length) (hj : j < F.length) {oo : Nat} {v : Nat × Nat} (hoo : oo < 6) (hk : ∀ e7 e8 e9 e10 : Value, v.1 ≤ 1 → v.2 ≤ 9 → Wp G mX12_comes d 136 [.ref m, .int (nI kd), .int (nI i), .int (nI j), .int (nI oo), .int (nI v.1), .int (nI v.2), e7, e8, e9, e10] [] σ 0 0 Q) : ∀ (k2 : Nat) (k t l : Nat) (e8 e9 e10 : Value), k + k2 = h → t ≤ 1 → l ≤ k → fl (cmG nb h (rowAt F i) (rowAt F j) oo) k2 k (t, l) = v → Wp G mX12_comes d 19 [.ref m, .int (nI kd), .int (nI i), .int (nI j), .int (nI oo), .int (nI t), .int (nI l), .int (nI k), e8, e9, e10] [] σ 0 0 Q := by
  obtain ⟨d0, hdd⟩ : ∃ e, d = e + 1 := ⟨d - 1, by omega⟩
  intro k2
  induction k2 with
  | zero =>
    intro k t l e8 e9 e10 h2 ht hl hv
    refine wp_iload (atd dX12_comes 11 rfl) rfl ?_
    refine wp_aload_n (atd dX12_comes 12 rfl) rfl rfl ?_
    refine wp_get fX12_237 (atd dX12_comes 13 rfl) hM.1.1 (congrArg (fun z => some (Value.int z)) h33) ?_
    refine wp_icmpN_ge (tgt := 136) (atd dX12_comes 14 rfl) (by decide) (by omega) (by omega) (fun c_25 => ?_) (fun c_25 => ?_)
    ·
      subst hv
      exact hk _ _ _ _ ht (by show l ≤ 9; omega)
    · exfalso; omega
  | succ k2 ih =>
    intro k t l e8 e9 e10 h2 ht hl hv
    have hk3 : k < 3 := by omega
    have hot := ordT_lt (3 * oo + k) (by omega)
    have hpp := hin i hi k hk3
    refine wp_iload (atd dX12_comes 11 rfl) rfl ?_
    refine wp_aload_n (atd dX12_comes 12 rfl) rfl rfl ?_
    refine wp_get fX12_237 (atd dX12_comes 13 rfl) hM.1.1 (congrArg (fun z => some (Value.int z)) h33) ?_
    refine wp_icmpN_ge (tgt := 136) (atd dX12_comes 14 rfl) (by decide) (by omega) (by omega) (fun c_25 => ?_) (fun c_25 => ?_)
    · exfalso; omega
    ·
      refine wp_aload_n (atd dX12_comes 15 rfl) rfl rfl ?_
      refine wp_get fX12_38 (atd dX12_comes 16 rfl) hM.1.1 rfl ?_
      refine wp_iconst (v := nI 3) (atd dX12_comes 17 rfl) (by decide) ?_
      refine wp_iload (atd dX12_comes 18 rfl) rfl ?_
      refine wp_imulN (atd dX12_comes 19 rfl) ?_
      refine wp_iload (atd dX12_comes 20 rfl) rfl ?_
      refine wp_iaddN (atd dX12_comes 21 rfl) ?_
      refine wp_ialdN (atd dX12_comes 22 rfl) hM.a8 (show _ < 18 from by omega) (Nat.le_of_ble_eq_true rfl) ?_
      rw [ho (3 * oo + k) (by omega)]
      refine wp_istore (atd dX12_comes 23 rfl) (Nat.le_of_ble_eq_true rfl) ?_
      refine wp_aload_n (atd dX12_comes 24 rfl) rfl rfl ?_
      refine wp_get fX12_35 (atd dX12_comes 25 rfl) hM.1.1 rfl ?_
      refine wp_iconst (v := nI 3) (atd dX12_comes 26 rfl) (by decide) ?_
      refine wp_iload_n (atd dX12_comes 27 rfl) rfl ?_
      refine wp_imulN (atd dX12_comes 28 rfl) ?_
      refine wp_iload (atd dX12_comes 29 rfl) rfl ?_
      refine wp_iaddN (atd dX12_comes 30 rfl) ?_
      refine wp_ialdN (atd dX12_comes 31 rfl) hM.a7 (show _ < 495 from by omega) (Nat.le_of_ble_eq_true rfl) ?_
      rw [(hR i hi).1 k hk3]
      refine wp_istore (atd dX12_comes 32 rfl) (Nat.le_of_ble_eq_true rfl) ?_
      refine wp_iload (atd dX12_comes 33 rfl) rfl ?_
      refine wp_aload_n (atd dX12_comes 34 rfl) rfl rfl ?_
      refine wp_get fX12_237 (atd dX12_comes 35 rfl) hM.1.1 (congrArg (fun z => some (Value.int z)) h33) ?_
      refine wp_icmpN_ge (tgt := 78) (atd dX12_comes 36 rfl) (by decide) (by omega) (by omega) (fun c_61 => ?_) (fun c_61 => ?_)
      ·
        refine wp_iconst (v := -1) (atd dX12_comes 46 rfl) (by decide) ?_
        refine wp_istore (atd dX12_comes 47 rfl) (Nat.le_of_ble_eq_true rfl) ?_
        refine wp_iload (atd dX12_comes 48 rfl) rfl ?_
        refine wp_ifN_eq (tgt := 110) (atd dX12_comes 49 rfl) (by decide) (by omega) (fun c_83 => ?_) (fun c_83 => ?_)
        ·
          refine wp_iconst (v := nI 0) (atd dX12_comes 61 rfl) (by decide) ?_
          refine wp_istore (atd dX12_comes 62 rfl) (Nat.le_of_ble_eq_true rfl) ?_
          refine wp_iload (atd dX12_comes 63 rfl) rfl ?_
          refine wp_iload (atd dX12_comes 64 rfl) rfl ?_
          refine wp_iload (atd dX12_comes 65 rfl) rfl ?_
          refine wp_icmp_eq (tgt := 126) (atd dX12_comes 66 rfl) (by decide) (fun c_119 => ?_) (fun c_119 => ?_)
          · exact absurd c_119 (nI_m1 (by omega))
          ·
            refine wp_iconst (v := nI 1) (atd dX12_comes 67 rfl) (by decide) ?_
            refine wp_goto (tgt := 127) (atd dX12_comes 68 rfl) (by decide) ?_
            refine wp_iaddN (atd dX12_comes 70 rfl) ?_
            refine wp_istore (atd dX12_comes 71 rfl) (Nat.le_of_ble_eq_true rfl) ?_
            refine wp_iincN (c := 1) (atd dX12_comes 72 rfl) rfl ?_
            refine wp_goto (tgt := 19) (atd dX12_comes 73 rfl) (by decide) ?_
            exact ih (k + 1) 0 (l + 1) _ _ _ (by omega) (by omega) (by omega) (by rw [← hv]; show _ = fl (cmG nb h (rowAt F i) (rowAt F j) oo) k2 (k + 1) (cmG nb h (rowAt F i) (rowAt F j) oo k (t, l)); rw [show cmG nb h (rowAt F i) (rowAt F j) oo k (t, l) = (0, l + 1) from if_neg (by omega)])
        ·
          refine wp_iload (atd dX12_comes 50 rfl) rfl ?_
          refine wp_if_lt (tgt := 110) (atd dX12_comes 51 rfl) (by decide) (fun c_88 => ?_) (fun c_88 => ?_)
          ·
            refine wp_iconst (v := nI 0) (atd dX12_comes 61 rfl) (by decide) ?_
            refine wp_istore (atd dX12_comes 62 rfl) (Nat.le_of_ble_eq_true rfl) ?_
            refine wp_iload (atd dX12_comes 63 rfl) rfl ?_
            refine wp_iload (atd dX12_comes 64 rfl) rfl ?_
            refine wp_iload (atd dX12_comes 65 rfl) rfl ?_
            refine wp_icmp_eq (tgt := 126) (atd dX12_comes 66 rfl) (by decide) (fun c_119 => ?_) (fun c_119 => ?_)
            · exact absurd c_119 (nI_m1 (by omega))
            ·
              refine wp_iconst (v := nI 1) (atd dX12_comes 67 rfl) (by decide) ?_
              refine wp_goto (tgt := 127) (atd dX12_comes 68 rfl) (by decide) ?_
              refine wp_iaddN (atd dX12_comes 70 rfl) ?_
              refine wp_istore (atd dX12_comes 71 rfl) (Nat.le_of_ble_eq_true rfl) ?_
              refine wp_iincN (c := 1) (atd dX12_comes 72 rfl) rfl ?_
              refine wp_goto (tgt := 19) (atd dX12_comes 73 rfl) (by decide) ?_
              exact ih (k + 1) 0 (l + 1) _ _ _ (by omega) (by omega) (by omega) (by rw [← hv]; show _ = fl (cmG nb h (rowAt F i) (rowAt F j) oo) k2 (k + 1) (cmG nb h (rowAt F i) (rowAt F j) oo k (t, l)); rw [show cmG nb h (rowAt F i) (rowAt F j) oo k (t, l) = (0, l + 1) from if_neg (by omega)])
          · exact absurd (by decide) c_88
      ·
        have hqq := hin j hj _ hot
        refine wp_aload_n (atd dX12_comes 37 rfl) rfl rfl ?_
        refine wp_get fX12_35 (atd dX12_comes 38 rfl) hM.1.1 rfl ?_
        refine wp_iconst (v := nI 3) (atd dX12_comes 39 rfl) (by decide) ?_
        refine wp_iload_n (atd dX12_comes 40 rfl) rfl ?_
        refine wp_imulN (atd dX12_comes 41 rfl) ?_
        refine wp_iload (atd dX12_comes 42 rfl) rfl ?_
        refine wp_iaddN (atd dX12_comes 43 rfl) ?_
        refine wp_ialdN (atd dX12_comes 44 rfl) hM.a7 (show _ < 495 from by omega) (Nat.le_of_ble_eq_true rfl) ?_
        rw [(hR j hj).1 _ hot]
        refine wp_goto (tgt := 79) (atd dX12_comes 45 rfl) (by decide) ?_
        refine wp_istore (atd dX12_comes 47 rfl) (Nat.le_of_ble_eq_true rfl) ?_
        refine wp_iload (atd dX12_comes 48 rfl) rfl ?_
        refine wp_ifN_eq (tgt := 110) (atd dX12_comes 49 rfl) (by decide) (by omega) (fun c_83 => ?_) (fun c_83 => ?_)
        ·
          refine wp_iconst (v := nI 0) (atd dX12_comes 61 rfl) (by decide) ?_
          refine wp_istore (atd dX12_comes 62 rfl) (Nat.le_of_ble_eq_true rfl) ?_
          refine wp_iload (atd dX12_comes 63 rfl) rfl ?_
          refine wp_iload (atd dX12_comes 64 rfl) rfl ?_
          refine wp_iload (atd dX12_comes 65 rfl) rfl ?_
          refine wp_icmpN_eq (tgt := 126) (atd dX12_comes 66 rfl) (by decide) (by omega) (by omega) (fun c_119 => ?_) (fun c_119 => ?_)
          ·
            refine wp_iconst (v := nI 0) (atd dX12_comes 69 rfl) (by decide) ?_
            refine wp_iaddN (atd dX12_comes 70 rfl) ?_
            refine wp_istore (atd dX12_comes 71 rfl) (Nat.le_of_ble_eq_true rfl) ?_
            refine wp_iincN (c := 1) (atd dX12_comes 72 rfl) rfl ?_
            refine wp_goto (tgt := 19) (atd dX12_comes 73 rfl) (by decide) ?_
            exact ih (k + 1) 0 (l + 0) _ _ _ (by omega) (by omega) (by omega) (by rw [← hv]; show _ = fl (cmG nb h (rowAt F i) (rowAt F j) oo) k2 (k + 1) (cmG nb h (rowAt F i) (rowAt F j) oo k (t, l)); rw [show cmG nb h (rowAt F i) (rowAt F j) oo k (t, l) = (0, l + 0) from by unfold cmG; rw [if_pos c_61, if_neg (fun z => absurd c_83 z.1), if_pos c_119]])
          ·
            refine wp_iconst (v := nI 1) (atd dX12_comes 67 rfl) (by decide) ?_
            refine wp_goto (tgt := 127) (atd dX12_comes 68 rfl) (by decide) ?_
            refine wp_iaddN (atd dX12_comes 70 rfl) ?_
            refine wp_istore (atd dX12_comes 71 rfl) (Nat.le_of_ble_eq_true rfl) ?_
            refine wp_iincN (c := 1) (atd dX12_comes 72 rfl) rfl ?_
            refine wp_goto (tgt := 19) (atd dX12_comes 73 rfl) (by decide) ?_
            exact ih (k + 1) 0 (l + 1) _ _ _ (by omega) (by omega) (by omega) (by rw [← hv]; show _ = fl (cmG nb h (rowAt F i) (rowAt F j) oo) k2 (k + 1) (cmG nb h (rowAt F i) (rowAt F j) oo k (t, l)); rw [show cmG nb h (rowAt F i) (rowAt F j) oo k (t, l) = (0, l + 1) from by unfold cmG; rw [if_pos c_61, if_neg (fun z => absurd c_83 z.1), if_neg c_119]])
        ·
          refine wp_iload (atd dX12_comes 50 rfl) rfl ?_
          refine wp_ifN_lt (tgt := 110) (atd dX12_comes 51 rfl) (by decide) (by omega) ?_
          refine wp_aload_n (atd dX12_comes 52 rfl) rfl rfl ?_
          refine wp_get fX12_7 (atd dX12_comes 53 rfl) hM.1.1 rfl ?_
          refine wp_iload (atd dX12_comes 54 rfl) rfl ?_
          refine wp_ialdN (atd dX12_comes 55 rfl) hM.a1 (show _ < 9 from by omega) (Nat.le_of_ble_eq_true rfl) ?_
          rw [hb (rk (rowAt F i) k) hpp]
          refine wp_iload (atd dX12_comes 56 rfl) rfl ?_
          refine wp_cSi hdd [_, _] (atd dX12_comes 57 rfl) iX12_isOf lX12_149 rfl rfl (Nat.le_of_ble_eq_true rfl) (eX12_isOf (by omega) (by have := hw (rk (rowAt F i) k); omega) (by omega)) (fun r_100 s_100 h_100 => ?_)
          obtain ⟨rfl, rfl⟩ := h_100
          refine wp_ifB_eq (tgt := 110) (atd dX12_comes 58 rfl) (by decide) (fun c_103 => ?_) (fun c_103 => ?_)
          ·
            refine wp_iconst (v := nI 0) (atd dX12_comes 61 rfl) (by decide) ?_
            refine wp_istore (atd dX12_comes 62 rfl) (Nat.le_of_ble_eq_true rfl) ?_
            refine wp_iload (atd dX12_comes 63 rfl) rfl ?_
            refine wp_iload (atd dX12_comes 64 rfl) rfl ?_
            refine wp_iload (atd dX12_comes 65 rfl) rfl ?_
            refine wp_icmpN_eq (tgt := 126) (atd dX12_comes 66 rfl) (by decide) (by omega) (by omega) (fun c_119 => ?_) (fun c_119 => ?_)
            ·
              refine wp_iconst (v := nI 0) (atd dX12_comes 69 rfl) (by decide) ?_
              refine wp_iaddN (atd dX12_comes 70 rfl) ?_
              refine wp_istore (atd dX12_comes 71 rfl) (Nat.le_of_ble_eq_true rfl) ?_
              refine wp_iincN (c := 1) (atd dX12_comes 72 rfl) rfl ?_
              refine wp_goto (tgt := 19) (atd dX12_comes 73 rfl) (by decide) ?_
              exact ih (k + 1) 0 (l + 0) _ _ _ (by omega) (by omega) (by omega) (by rw [← hv]; show _ = fl (cmG nb h (rowAt F i) (rowAt F j) oo) k2 (k + 1) (cmG nb h (rowAt F i) (rowAt F j) oo k (t, l)); rw [show cmG nb h (rowAt F i) (rowAt F j) oo k (t, l) = (0, l + 0) from by unfold cmG; rw [if_pos c_61, if_neg (fun z => c_103 z.2), if_pos c_119]])
            ·
              refine wp_iconst (v := nI 1) (atd dX12_comes 67 rfl) (by decide) ?_
              refine wp_goto (tgt := 127) (atd dX12_comes 68 rfl) (by decide) ?_
              refine wp_iaddN (atd dX12_comes 70 rfl) ?_
              refine wp_istore (atd dX12_comes 71 rfl) (Nat.le_of_ble_eq_true rfl) ?_
              refine wp_iincN (c := 1) (atd dX12_comes 72 rfl) rfl ?_
              refine wp_goto (tgt := 19) (atd dX12_comes 73 rfl) (by decide) ?_
              exact ih (k + 1) 0 (l + 1) _ _ _ (by omega) (by omega) (by omega) (by rw [← hv]; show _ = fl (cmG nb h (rowAt F i) (rowAt F j) oo) k2 (k + 1) (cmG nb h (rowAt F i) (rowAt F j) oo k (t, l)); rw [show cmG nb h (rowAt F i) (rowAt F j) oo k (t, l) = (0, l + 1) from by unfold cmG; rw [if_pos c_61, if_neg (fun z => c_103 z.2), if_neg c_119]])
          ·
            refine wp_iconst (v := nI 1) (atd dX12_comes 59 rfl) (by decide) ?_
            refine wp_goto (tgt := 111) (atd dX12_comes 60 rfl) (by decide) ?_
            refine wp_istore (atd dX12_comes 62 rfl) (Nat.le_of_ble_eq_true rfl) ?_
            refine wp_iload (atd dX12_comes 63 rfl) rfl ?_
            refine wp_iload (atd dX12_comes 64 rfl) rfl ?_
            refine wp_iload (atd dX12_comes 65 rfl) rfl ?_
            refine wp_icmpN_eq (tgt := 126) (atd dX12_comes 66 rfl) (by decide) (by omega) (by omega) (fun c_119 => ?_) (fun c_119 => ?_)
            ·
              refine wp_iconst (v := nI 0) (atd dX12_comes 69 rfl) (by decide) ?_
              refine wp_iaddN (atd dX12_comes 70 rfl) ?_
              refine wp_istore (atd dX12_comes 71 rfl) (Nat.le_of_ble_eq_true rfl) ?_
              refine wp_iincN (c := 1) (atd dX12_comes 72 rfl) rfl ?_
              refine wp_goto (tgt := 19) (atd dX12_comes 73 rfl) (by decide) ?_
              exact ih (k + 1) 1 (l + 0) _ _ _ (by omega) (by omega) (by omega) (by rw [← hv]; show _ = fl (cmG nb h (rowAt F i) (rowAt F j) oo) k2 (k + 1) (cmG nb h (rowAt F i) (rowAt F j) oo k (t, l)); rw [show cmG nb h (rowAt F i) (rowAt F j) oo k (t, l) = (1, l + 0) from by unfold cmG; rw [if_pos c_61, if_pos ⟨by show t ≠ 0; omega, c_103⟩, if_pos c_119]])
            ·
              refine wp_iconst (v := nI 1) (atd dX12_comes 67 rfl) (by decide) ?_
              refine wp_goto (tgt := 127) (atd dX12_comes 68 rfl) (by decide) ?_
              refine wp_iaddN (atd dX12_comes 70 rfl) ?_
              refine wp_istore (atd dX12_comes 71 rfl) (Nat.le_of_ble_eq_true rfl) ?_
              refine wp_iincN (c := 1) (atd dX12_comes 72 rfl) rfl ?_
              refine wp_goto (tgt := 19) (atd dX12_comes 73 rfl) (by decide) ?_
              exact ih (k + 1) 1 (l + 1) _ _ _ (by omega) (by omega) (by omega) (by rw [← hv]; show _ = fl (cmG nb h (rowAt F i) (rowAt F j) oo) k2 (k + 1) (cmG nb h (rowAt F i) (rowAt F j) oo k (t, l)); rw [show cmG nb h (rowAt F i) (rowAt F j) oo k (t, l) = (1, l + 1) from by unfold cmG; rw [if_pos c_61, if_pos ⟨by show t ≠ 0; omega, c_103⟩, if_neg c_119]])
theorem oX12_comes {G : Gx} {d : Nat} {σ : Hp} (hd : 1 ≤ d) {m n : Nat} {α : Nat → Int32} {B : Nat → Nat → Int32} {nb : Nat → Nat} (hM : MA σ σ m α B) (hp : α 2 = nI n) (hn : n ≤ 9) (hb : ∀ p, p < n → B 1 p = nI (nb p)) (hw : ∀ p, nb p < 512) {h kd i j : Nat} {F : List Row} (h33 : α 33 = nI h) (hh1 : 1 ≤ h) (hh : h ≤ 3) (hkd : kd < 3) (hF9 : F.length ≤ 165) (hR : RW B F h) (hin : RIn F n) (ho : ∀ j, j < 18 → B 8 j = nI (ordT j)) (hi : i < F.length) (hj : j < F.length) {v : Bool} : ∀ (f oo : Nat) (e5 e6 e7 e8 e9 e10 : Value), oo + f = 6 → cmsG nb h kd (rowAt F i) (rowAt F j) f oo = v → Wp G mX12_comes d 3 [.ref m, .int (nI kd), .int (nI i), .int (nI j), .int (nI oo), e5, e6, e7, e8, e9, e10] [] σ 0 0 (pI fun r s => r = bI (v = true) ∧ s = σ) := by
  intro f
  induction f with
  | zero =>
    intro oo e5 e6 e7 e8 e9 e10 h2 hv
    refine wp_iload (atd dX12_comes 2 rfl) rfl ?_
    refine wp_bipush (v := nI 6) (atd dX12_comes 3 rfl) (by decide) ?_
    refine wp_icmpN_ge (tgt := 160) (atd dX12_comes 4 rfl) (by decide) (by omega) (by omega) (fun c_7 => ?_) (fun c_7 => ?_)
    ·
      refine wp_iconst (v := nI 0) (atd dX12_comes 86 rfl) (by decide) ?_
      refine wp_iretz (atd dX12_comes 87 rfl) rfl (by first | rfl | decide) ?_
      exact ⟨by rw [← hv]; rfl, rfl⟩
    · exfalso; omega
  | succ f ih =>
    intro oo e5 e6 e7 e8 e9 e10 h2 hv
    refine wp_iload (atd dX12_comes 2 rfl) rfl ?_
    refine wp_bipush (v := nI 6) (atd dX12_comes 3 rfl) (by decide) ?_
    refine wp_icmpN_ge (tgt := 160) (atd dX12_comes 4 rfl) (by decide) (by omega) (by omega) (fun c_7 => ?_) (fun c_7 => ?_)
    · exfalso; omega
    ·
      refine wp_iconst (v := nI 1) (atd dX12_comes 5 rfl) (by decide) ?_
      refine wp_istore (atd dX12_comes 6 rfl) (Nat.le_of_ble_eq_true rfl) ?_
      refine wp_iconst (v := nI 0) (atd dX12_comes 7 rfl) (by decide) ?_
      refine wp_istore (atd dX12_comes 8 rfl) (Nat.le_of_ble_eq_true rfl) ?_
      refine wp_iconst (v := nI 0) (atd dX12_comes 9 rfl) (by decide) ?_
      refine wp_istore (atd dX12_comes 10 rfl) (Nat.le_of_ble_eq_true rfl) ?_
      refine lX12_comes (v := cmO nb h (rowAt F i) (rowAt F j) oo) hd hM hp hn hb hw h33 hh1 hh hkd hF9 hR hin ho hi hj (by omega) (fun e7 e8 e9 e10 hv1 hv2 => ?_) h 0 1 0 _ _ _ (by omega) (by omega) (by omega) rfl
      refine wp_iload (atd dX12_comes 74 rfl) rfl ?_
      refine wp_ifN_eq (tgt := 154) (atd dX12_comes 75 rfl) (by decide) (by omega) (fun c_138 => ?_) (fun c_138 => ?_)
      ·
        refine wp_iincN (c := 1) (atd dX12_comes 84 rfl) rfl ?_
        refine wp_goto (tgt := 3) (atd dX12_comes 85 rfl) (by decide) ?_
        exact ih (oo + 1) _ _ _ _ _ _ (by omega) (by rw [← hv]; exact (if_neg (fun z => z.1 c_138)).symm)
      ·
        refine wp_iload_n (atd dX12_comes 76 rfl) rfl ?_
        refine wp_iconst (v := nI 1) (atd dX12_comes 77 rfl) (by decide) ?_
        refine wp_icmpN_ne (tgt := 152) (atd dX12_comes 78 rfl) (by decide) (by omega) (by omega) (fun c_143 => ?_) (fun c_143 => ?_)
        ·
          refine wp_iconst (v := nI 1) (atd dX12_comes 82 rfl) (by decide) ?_
          refine wp_iretz (atd dX12_comes 83 rfl) rfl (by first | rfl | decide) ?_
          exact ⟨by rw [← hv, show cmsG nb h kd (rowAt F i) (rowAt F j) (f + 1) oo = true from if_pos ⟨by omega, Or.inl c_143⟩]; rfl, rfl⟩
        ·
          refine wp_iload (atd dX12_comes 79 rfl) rfl ?_
          refine wp_iconst (v := nI 2) (atd dX12_comes 80 rfl) (by decide) ?_
          refine wp_icmpN_ge (tgt := 154) (atd dX12_comes 81 rfl) (by decide) (by omega) (by omega) (fun c_149 => ?_) (fun c_149 => ?_)
          ·
            refine wp_iincN (c := 1) (atd dX12_comes 84 rfl) rfl ?_
            refine wp_goto (tgt := 3) (atd dX12_comes 85 rfl) (by decide) ?_
            exact ih (oo + 1) _ _ _ _ _ _ (by omega) (by rw [← hv]; exact (if_neg (fun z => by omega)).symm)
          ·
            refine wp_iconst (v := nI 1) (atd dX12_comes 82 rfl) (by decide) ?_
            refine wp_iretz (atd dX12_comes 83 rfl) rfl (by first | rfl | decide) ?_
            exact ⟨by rw [← hv, show cmsG nb h kd (rowAt F i) (rowAt F j) (f + 1) oo = true from if_pos ⟨by omega, Or.inr c_149⟩]; rfl, rfl⟩
theorem eX12_comes {G : Gx} {d : Nat} {σ : Hp} (hd : 1 ≤ d) {m n : Nat} {α : Nat → Int32} {B : Nat → Nat → Int32} {nb : Nat → Nat} (hM : MA σ σ m α B) (hp : α 2 = nI n) (hn : n ≤ 9) (hb : ∀ p, p < n → B 1 p = nI (nb p)) (hw : ∀ p, nb p < 512) {h kd i j : Nat} {F : List Row} (h33 : α 33 = nI h) (hh1 : 1 ≤ h) (hh : h ≤ 3) (hkd : kd < 3) (hF9 : F.length ≤ 165) (hR : RW B F h) (hin : RIn F n) (ho : ∀ j, j < 18 → B 8 j = nI (ordT j)) (hi : i < F.length) (hj : j < F.length) : Cl G mX12_comes d [.ref m, .int (nI kd), .int (nI i), .int (nI j)] σ 0 0 (pI fun r s => r = bI (cms nb h kd (rowAt F i) (rowAt F j) = true) ∧ s = σ) := by
  obtain ⟨d0, hdd⟩ : ∃ e, d = e + 1 := ⟨d - 1, by omega⟩
  refine cl_of (by decide) (by simp [Value.category]) (Nat.le_of_ble_eq_true rfl) ?_
  show Wp G mX12_comes d 0 [.ref m, .int (nI kd), .int (nI i), .int (nI j), .double 0, .double 0, .double 0, .double 0, .double 0, .double 0, .double 0] [] σ 0 0 _
  refine wp_iconst (v := nI 0) (atd dX12_comes 0 rfl) (by decide) ?_
  refine wp_istore (atd dX12_comes 1 rfl) (Nat.le_of_ble_eq_true rfl) ?_
  exact oX12_comes hd hM hp hn hb hw h33 hh1 hh hkd hF9 hR hin ho hi hj 6 0 _ _ _ _ _ _ (by omega) rfl
theorem nar_bI {p : Prop} [Decidable p] : vp_nar .boolean (bI p) = bI p := by unfold bI; split <;> decide
def CG (B : Nat → Nat → Int32) (nb : Nat → Nat) (h kd : Nat) (F : List Row) : Prop := ∀ i j, i < F.length → j < F.length → B 9 (165 * i + j) = bI (cms nb h kd (rowAt F i) (rowAt F j) = true)
theorem lX12_layGoing {G : Gx} {d : Nat} {Q : Option Value → Hp → Prop} {σ0 : Hp} {m n h kd : Nat} {α : Nat → Int32} {B0 : Nat → Nat → Int32} {nb : Nat → Nat} {F : List Row} (hd : 2 ≤ d) (hp : α 2 = nI n) (hn : n ≤ 9) (hb : ∀ p, p < n → B0 1 p = nI (nb p)) (hw : ∀ p, nb p < 512) (h33 : α 33 = nI h) (h32 : α 32 = nI F.length) (hh1 : 1 ≤ h) (hh : h ≤ 3) (hkd : kd < 3) (hF9 : F.length ≤ 165) (hR : RW B0 F h) (hin : RIn F n) (ho : ∀ j, j < 18 → B0 8 j = nI (ordT j)) {i : Nat} (hi : i < F.length) (hk : ∀ (σ : Hp) (B : Nat → Nat → Int32) (e4 : Value), MA σ0 σ m α B → frm [9] B0 B → (∀ x j, x < i + 1 → j < F.length → B 9 (165 * x + j) = bI (cms nb h kd (rowAt F x) (rowAt F j) = true)) → Wp G mX12_layGoing d 54 [.ref m, .int (nI kd), .int (nI h), .int (nI i), e4] [] σ 0 0 Q) : ∀ (k : Nat) (σ : Hp) (B : Nat → Nat → Int32) (j : Nat), MA σ0 σ m α B → frm [9] B0 B → (∀ x y, x < i → y < F.length → B 9 (165 * x + y) = bI (cms nb h kd (rowAt F x) (rowAt F y) = true)) → (∀ y, y < j → B 9 (165 * i + y) = bI (cms nb h kd (rowAt F i) (rowAt F y) = true)) → j + k = F.length → Wp G mX12_layGoing d 18 [.ref m, .int (nI kd), .int (nI h), .int (nI i), .int (nI j)] [] σ 0 0 Q := by
  obtain ⟨d0, hdd⟩ : ∃ e, d = e + 1 := ⟨d - 1, by omega⟩
  intro k
  induction k with
  | zero =>
    intro σ B j hM hfb hx hy hjk
    refine wp_iload (atd dX12_layGoing 11 rfl) rfl ?_
    refine wp_aload_n (atd dX12_layGoing 12 rfl) rfl rfl ?_
    refine wp_get fX12_234 (atd dX12_layGoing 13 rfl) hM.1.1 (congrArg (fun z => some (Value.int z)) h32) ?_
    refine wp_icmpN_ge (tgt := 54) (atd dX12_layGoing 14 rfl) (by decide) (by omega) (by omega) (fun c_24 => ?_) (fun c_24 => ?_)
    ·
      refine hk _ B _ hM hfb (fun x y h1 h2 => ?_)
      by_cases e : x = i
      · subst e; exact hy y (by omega)
      · exact hx x y (by omega) h2
    · exfalso; omega
  | succ k ih =>
    intro σ B j hM hfb hx hy hjk
    have hb1 : ∀ p, p < n → B 1 p = nI (nb p) := fun p hpn => by rw [hfb 1 (by decide)]; exact hb p hpn
    have hR1 : RW B F h := fun i hi => by rw [hfb 7 (by decide), hfb 12 (by decide)]; exact hR i hi
    have ho1 : ∀ j, j < 18 → B 8 j = nI (ordT j) := fun j hj => by rw [hfb 8 (by decide)]; exact ho j hj
    refine wp_iload (atd dX12_layGoing 11 rfl) rfl ?_
    refine wp_aload_n (atd dX12_layGoing 12 rfl) rfl rfl ?_
    refine wp_get fX12_234 (atd dX12_layGoing 13 rfl) hM.1.1 (congrArg (fun z => some (Value.int z)) h32) ?_
    refine wp_icmpN_ge (tgt := 54) (atd dX12_layGoing 14 rfl) (by decide) (by omega) (by omega) (fun c_24 => ?_) (fun c_24 => ?_)
    · exfalso; omega
    ·
      refine wp_aload_n (atd dX12_layGoing 15 rfl) rfl rfl ?_
      refine wp_get fX12_41 (atd dX12_layGoing 16 rfl) hM.1.1 rfl ?_
      refine wp_sipush (v := nI 165) (atd dX12_layGoing 17 rfl) (by decide) ?_
      refine wp_iload_n (atd dX12_layGoing 18 rfl) rfl ?_
      refine wp_imulN (atd dX12_layGoing 19 rfl) ?_
      refine wp_iload (atd dX12_layGoing 20 rfl) rfl ?_
      refine wp_iaddN (atd dX12_layGoing 21 rfl) ?_
      refine wp_aload_n (atd dX12_layGoing 22 rfl) rfl rfl ?_
      refine wp_iload_n (atd dX12_layGoing 23 rfl) rfl ?_
      refine wp_iload_n (atd dX12_layGoing 24 rfl) rfl ?_
      refine wp_iload (atd dX12_layGoing 25 rfl) rfl ?_
      refine wp_cVi hdd [_, _, _] (atd dX12_layGoing 26 rfl) iX12_comes lX12_243 rfl rfl (Nat.le_of_ble_eq_true rfl) hM.1.1 rfl (eX12_comes (by omega) hM.self hp hn hb1 hw h33 hh1 hh hkd hF9 hR1 hin ho1 hi (j := j) (by omega)) (fun r_44 s_44 h_44 => ?_)
      obtain ⟨rfl, rfl⟩ := h_44
      refine wp_zastM (j := 9) (atd dX12_layGoing 27 rfl) hM (by decide) (by decide) rfl (show _ < 27225 from by omega) (fun σ hM => ?_)
      refine wp_iincN (c := 1) (atd dX12_layGoing 28 rfl) rfl ?_
      refine wp_goto (tgt := 18) (atd dX12_layGoing 29 rfl) (by decide) ?_
      rw [nar_bI] at hM
      refine ih _ _ (j + 1) hM (hfb.va (by decide)) (fun x y h1 h2 => ?_) (fun y h1 => ?_) (by omega)
      · show upd (B 9) (165 * i + j) _ (165 * x + y) = _
        rw [show upd (B 9) (165 * i + j) (bI (cms nb h kd (rowAt F i) (rowAt F j) = true)) (165 * x + y) = B 9 (165 * x + y) from if_neg (by omega)]
        exact hx x y h1 h2
      · show upd (B 9) (165 * i + j) _ (165 * i + y) = _
        by_cases e : y = j
        · subst e; exact if_pos rfl
        · rw [show upd (B 9) (165 * i + j) (bI (cms nb h kd (rowAt F i) (rowAt F j) = true)) (165 * i + y) = B 9 (165 * i + y) from if_neg (by omega)]
          exact hy y (by omega)
theorem oX12_layGoing {G : Gx} {d : Nat} {σ0 : Hp} {m n h kd : Nat} {α : Nat → Int32} {B0 : Nat → Nat → Int32} {nb : Nat → Nat} {F : List Row} (hd : 2 ≤ d) (hp : α 2 = nI n) (hn : n ≤ 9) (hb : ∀ p, p < n → B0 1 p = nI (nb p)) (hw : ∀ p, nb p < 512) (h33 : α 33 = nI h) (h32 : α 32 = nI F.length) (hh1 : 1 ≤ h) (hh : h ≤ 3) (hkd : kd < 3) (hF9 : F.length ≤ 165) (hR : RW B0 F h) (hin : RIn F n) (ho : ∀ j, j < 18 → B0 8 j = nI (ordT j)) : ∀ (k : Nat) (σ : Hp) (B : Nat → Nat → Int32) (i : Nat) (e4 : Value), MA σ0 σ m α B → frm [9] B0 B → (∀ x y, x < i → y < F.length → B 9 (165 * x + y) = bI (cms nb h kd (rowAt F x) (rowAt F y) = true)) → i + k = F.length → Wp G mX12_layGoing d 7 [.ref m, .int (nI kd), .int (nI h), .int (nI i), e4] [] σ 0 0 (pV fun s => ∃ B1, MA σ0 s m α B1 ∧ frm [9] B0 B1 ∧ CG B1 nb h kd F) := by
  intro k
  induction k with
  | zero =>
    intro σ B i e4 hM hfb hx hik
    refine wp_iload_n (atd dX12_layGoing 5 rfl) rfl ?_
    refine wp_aload_n (atd dX12_layGoing 6 rfl) rfl rfl ?_
    refine wp_get fX12_234 (atd dX12_layGoing 7 rfl) hM.1.1 (congrArg (fun z => some (Value.int z)) h32) ?_
    refine wp_icmpN_ge (tgt := 60) (atd dX12_layGoing 8 rfl) (by decide) (by omega) (by omega) (fun c_12 => ?_) (fun c_12 => ?_)
    ·
      refine wp_vretv (atd dX12_layGoing 32 rfl) rfl ?_
      exact ⟨B, hM, hfb, fun x y h1 h2 => hx x y (by omega) h2⟩
    · exfalso; omega
  | succ k ih =>
    intro σ B i e4 hM hfb hx hik
    refine wp_iload_n (atd dX12_layGoing 5 rfl) rfl ?_
    refine wp_aload_n (atd dX12_layGoing 6 rfl) rfl rfl ?_
    refine wp_get fX12_234 (atd dX12_layGoing 7 rfl) hM.1.1 (congrArg (fun z => some (Value.int z)) h32) ?_
    refine wp_icmpN_ge (tgt := 60) (atd dX12_layGoing 8 rfl) (by decide) (by omega) (by omega) (fun c_12 => ?_) (fun c_12 => ?_)
    · exfalso; omega
    ·
      refine wp_iconst (v := nI 0) (atd dX12_layGoing 9 rfl) (by decide) ?_
      refine wp_istore (atd dX12_layGoing 10 rfl) (Nat.le_of_ble_eq_true rfl) ?_
      refine lX12_layGoing hd hp hn hb hw h33 h32 hh1 hh hkd hF9 hR hin ho (i := i) (by omega) (fun σ B e4 hM hfb hx => ?_) F.length _ B 0 hM hfb hx (fun y hy => absurd hy (Nat.not_lt_zero y)) (by omega)
      refine wp_iincN (c := 1) (atd dX12_layGoing 30 rfl) rfl ?_
      refine wp_goto (tgt := 7) (atd dX12_layGoing 31 rfl) (by decide) ?_
      exact ih _ B (i + 1) _ hM hfb hx (by omega)
theorem eX12_layGoing {G : Gx} {d : Nat} {σ : Hp} (hd : 3 ≤ d) {m n : Nat} {α : Nat → Int32} {B : Nat → Nat → Int32} {nb : Nat → Nat} (hM : MA σ σ m α B) (hp : α 2 = nI n) (hn : n ≤ 9) (hb : ∀ p, p < n → B 1 p = nI (nb p)) (hw : ∀ p, nb p < 512) {h kd : Nat} (hh1 : 1 ≤ h) (hh : h ≤ 3) (hkd : kd < 3) (ho : ∀ j, j < 18 → B 8 j = nI (ordT j)) : Cl G mX12_layGoing d [.ref m, .int (nI kd), .int (nI h)] σ 0 0 (pV fun s => ∃ α1 B1, MA σ s m α1 B1 ∧ frm [32, 33] α α1 ∧ frm [7, 9, 12] B B1 ∧ α1 33 = nI h ∧ α1 32 = nI (rowsL h n).length ∧ RW B1 (rowsL h n) h ∧ CG B1 nb h kd (rowsL h n)) := by
  obtain ⟨d0, hdd⟩ : ∃ e, d = e + 1 := ⟨d - 1, by omega⟩
  refine cl_of (by decide) (by simp [Value.category]) (Nat.le_of_ble_eq_true rfl) ?_
  show Wp G mX12_layGoing d 0 [.ref m, .int (nI kd), .int (nI h), .double 0, .double 0] [] σ 0 0 _
  refine wp_aload_n (atd dX12_layGoing 0 rfl) rfl rfl ?_
  refine wp_iload_n (atd dX12_layGoing 1 rfl) rfl ?_
  refine wp_cVv hdd [_] (atd dX12_layGoing 2 rfl) iX12_layRows lX12_240 rfl rfl (Nat.le_of_ble_eq_true rfl) hM.1.1 rfl (eX12_layRows (by omega) hM hp hn hh) (fun s_2 h_2 => ?_)
  obtain ⟨α1, B1, hM1, hfa1, hfb1, h33, h32, hR⟩ := h_2
  refine wp_iconst (v := nI 0) (atd dX12_layGoing 3 rfl) (by decide) ?_
  refine wp_istore_n (atd dX12_layGoing 4 rfl) (Nat.le_of_ble_eq_true rfl) ?_
  refine wp_post (oX12_layGoing (F := rowsL h n) (by omega) ((hfa1 2 (by decide)).trans hp) hn (fun p hpn => by rw [hfb1 1 (by decide)]; exact hb p hpn) hw h33 h32 hh1 hh hkd (rowsL_len n (by omega) h (by omega)) hR (rowsL_in hn hh) (fun j hj => by rw [hfb1 8 (by decide)]; exact ho j hj) (rowsL h n).length _ B1 0 _ hM1 frm.rf (fun x y hx => absurd hx (Nat.not_lt_zero x)) (by omega)) ?_
  rintro v s ⟨rfl, B2, hM2, hfb2, hcg⟩
  refine ⟨rfl, α1, B2, hM2, hfa1, (hfb1.mono (by decide)).tr (hfb2.mono (by decide)), h33, h32, fun i hi => ?_, hcg⟩
  rw [hfb2 7 (by decide), hfb2 12 (by decide)]
  exact hR i hi
