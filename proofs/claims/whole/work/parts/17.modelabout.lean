def btM (v : Int32) (s : Nat) : Int32 := v >>> (nI s &&& 31) &&& nI 255
def up4 (f : Nat → Int32) (t : Nat) (v : Int32) : Nat → Int32 := upd (upd (upd (upd f t (btM v 24)) (t + 1) (btM v 16)) (t + 2) (btM v 8)) (t + 3) (btM v 0)
theorem isP_le {p : Int32} {t : Nat} (h : t < 2 ^ 30) : (¬ p < nI 0 ∧ ¬ nI t < p) ↔ isP p (t + 1) := by
  have h1 : (nI t).toInt = (t : Int) := nI_toInt (by omega)
  have h0 : (nI 0).toInt = ((0 : Nat) : Int) := nI_toInt (by decide)
  rw [Int32.lt_iff_toInt_lt, Int32.lt_iff_toInt_lt, h1, h0, isP]
  omega
theorem isP_ofB {p : Int32} {n : Nat} (h : isP p n) : ∃ j, j < n ∧ p = nI j := by
  obtain ⟨j, hj, e⟩ := nI_of (x := p) (by rw [Int32.lt_iff_toInt_lt]; have := h.1; simp; omega)
  refine ⟨j, ?_, e⟩
  rw [e] at h
  exact (isP_nI hj).mp h
theorem eX12_four {G : Gx} {d : Nat} {σ : Hp} (hd : 0 ≤ d) {m : Nat} {α : Nat → Int32} {B : Nat → Nat → Int32} (hM : MA σ σ m α B) {t : Nat} {v : Int32} (h6 : α 6 = nI t) (ht : t + 4 ≤ 600) : Cl G mX12_four d [.ref m, .int v] σ 0 0 (pV fun s => ∃ α1 B1, MA σ s m α1 B1 ∧ frm [6] α α1 ∧ frm [2] B B1 ∧ α1 6 = nI (t + 4) ∧ B1 2 = up4 (B 2) t v) := by
  refine cl_of (by decide) (by simp [Value.category]) (Nat.le_of_ble_eq_true rfl) ?_
  show Wp G mX12_four d 0 [.ref m, .int v, .double 0] [] σ 0 0 _
  refine wp_bipush (v := nI 24) (atd dX12_four 0 rfl) (by decide) ?_
  refine wp_istore_n (atd dX12_four 1 rfl) (Nat.le_of_ble_eq_true rfl) ?_
  refine wp_iload_n (atd dX12_four 2 rfl) rfl ?_
  refine wp_ifN_lt (tgt := 39) (atd dX12_four 3 rfl) (by decide) (by omega) ?_
  refine wp_aload_n (atd dX12_four 4 rfl) rfl rfl ?_
  refine wp_get fX12_13 (atd dX12_four 5 rfl) hM.1.1 rfl ?_
  refine wp_aload_n (atd dX12_four 6 rfl) rfl rfl ?_
  refine wp_get fX12_85 (atd dX12_four 7 rfl) hM.1.1 (by first | exact congrArg (fun z => some (Value.int z)) h6 | rfl) ?_
  refine wp_iload_n (atd dX12_four 8 rfl) rfl ?_
  refine wp_iload_n (atd dX12_four 9 rfl) rfl ?_
  refine wp_ishr (atd dX12_four 10 rfl) ?_
  refine wp_sipush (v := nI 255) (atd dX12_four 11 rfl) (by decide) ?_
  refine wp_iand (atd dX12_four 12 rfl) ?_
  refine wp_iastM (j := 2) (atd dX12_four 13 rfl) hM (by decide) (by decide) rfl (show _ < 600 from by omega) (fun σ hM => ?_)
  refine wp_aload_n (atd dX12_four 14 rfl) rfl rfl ?_
  refine wp_dup (atd dX12_four 15 rfl) rfl ?_
  refine wp_get fX12_85 (atd dX12_four 16 rfl) hM.1.1 (by first | exact congrArg (fun z => some (Value.int z)) h6 | rfl) ?_
  refine wp_iconst (v := nI 1) (atd dX12_four 17 rfl) (by decide) ?_
  refine wp_iaddN (atd dX12_four 18 rfl) ?_
  refine wp_putM fX12_85 (atd dX12_four 19 rfl) hM rfl (fun σ hM => ?_)
  refine wp_iinc (v := nI 16) (atd dX12_four 20 rfl) rfl (by decide) ?_
  refine wp_goto (tgt := 3) (atd dX12_four 21 rfl) (by decide) ?_
  refine wp_iload_n (atd dX12_four 2 rfl) rfl ?_
  refine wp_ifN_lt (tgt := 39) (atd dX12_four 3 rfl) (by decide) (by omega) ?_
  refine wp_aload_n (atd dX12_four 4 rfl) rfl rfl ?_
  refine wp_get fX12_13 (atd dX12_four 5 rfl) hM.1.1 rfl ?_
  refine wp_aload_n (atd dX12_four 6 rfl) rfl rfl ?_
  refine wp_get fX12_85 (atd dX12_four 7 rfl) hM.1.1 (by first | exact congrArg (fun z => some (Value.int z)) h6 | rfl) ?_
  refine wp_iload_n (atd dX12_four 8 rfl) rfl ?_
  refine wp_iload_n (atd dX12_four 9 rfl) rfl ?_
  refine wp_ishr (atd dX12_four 10 rfl) ?_
  refine wp_sipush (v := nI 255) (atd dX12_four 11 rfl) (by decide) ?_
  refine wp_iand (atd dX12_four 12 rfl) ?_
  refine wp_iastM (j := 2) (atd dX12_four 13 rfl) hM (by decide) (by decide) rfl (show _ < 600 from by omega) (fun σ hM => ?_)
  refine wp_aload_n (atd dX12_four 14 rfl) rfl rfl ?_
  refine wp_dup (atd dX12_four 15 rfl) rfl ?_
  refine wp_get fX12_85 (atd dX12_four 16 rfl) hM.1.1 (by first | exact congrArg (fun z => some (Value.int z)) h6 | rfl) ?_
  refine wp_iconst (v := nI 1) (atd dX12_four 17 rfl) (by decide) ?_
  refine wp_iaddN (atd dX12_four 18 rfl) ?_
  refine wp_putM fX12_85 (atd dX12_four 19 rfl) hM rfl (fun σ hM => ?_)
  refine wp_iinc (v := nI 8) (atd dX12_four 20 rfl) rfl (by decide) ?_
  refine wp_goto (tgt := 3) (atd dX12_four 21 rfl) (by decide) ?_
  refine wp_iload_n (atd dX12_four 2 rfl) rfl ?_
  refine wp_ifN_lt (tgt := 39) (atd dX12_four 3 rfl) (by decide) (by omega) ?_
  refine wp_aload_n (atd dX12_four 4 rfl) rfl rfl ?_
  refine wp_get fX12_13 (atd dX12_four 5 rfl) hM.1.1 rfl ?_
  refine wp_aload_n (atd dX12_four 6 rfl) rfl rfl ?_
  refine wp_get fX12_85 (atd dX12_four 7 rfl) hM.1.1 (by first | exact congrArg (fun z => some (Value.int z)) h6 | rfl) ?_
  refine wp_iload_n (atd dX12_four 8 rfl) rfl ?_
  refine wp_iload_n (atd dX12_four 9 rfl) rfl ?_
  refine wp_ishr (atd dX12_four 10 rfl) ?_
  refine wp_sipush (v := nI 255) (atd dX12_four 11 rfl) (by decide) ?_
  refine wp_iand (atd dX12_four 12 rfl) ?_
  refine wp_iastM (j := 2) (atd dX12_four 13 rfl) hM (by decide) (by decide) rfl (show _ < 600 from by omega) (fun σ hM => ?_)
  refine wp_aload_n (atd dX12_four 14 rfl) rfl rfl ?_
  refine wp_dup (atd dX12_four 15 rfl) rfl ?_
  refine wp_get fX12_85 (atd dX12_four 16 rfl) hM.1.1 (by first | exact congrArg (fun z => some (Value.int z)) h6 | rfl) ?_
  refine wp_iconst (v := nI 1) (atd dX12_four 17 rfl) (by decide) ?_
  refine wp_iaddN (atd dX12_four 18 rfl) ?_
  refine wp_putM fX12_85 (atd dX12_four 19 rfl) hM rfl (fun σ hM => ?_)
  refine wp_iinc (v := nI 0) (atd dX12_four 20 rfl) rfl (by decide) ?_
  refine wp_goto (tgt := 3) (atd dX12_four 21 rfl) (by decide) ?_
  refine wp_iload_n (atd dX12_four 2 rfl) rfl ?_
  refine wp_ifN_lt (tgt := 39) (atd dX12_four 3 rfl) (by decide) (by omega) ?_
  refine wp_aload_n (atd dX12_four 4 rfl) rfl rfl ?_
  refine wp_get fX12_13 (atd dX12_four 5 rfl) hM.1.1 rfl ?_
  refine wp_aload_n (atd dX12_four 6 rfl) rfl rfl ?_
  refine wp_get fX12_85 (atd dX12_four 7 rfl) hM.1.1 (by first | exact congrArg (fun z => some (Value.int z)) h6 | rfl) ?_
  refine wp_iload_n (atd dX12_four 8 rfl) rfl ?_
  refine wp_iload_n (atd dX12_four 9 rfl) rfl ?_
  refine wp_ishr (atd dX12_four 10 rfl) ?_
  refine wp_sipush (v := nI 255) (atd dX12_four 11 rfl) (by decide) ?_
  refine wp_iand (atd dX12_four 12 rfl) ?_
  refine wp_iastM (j := 2) (atd dX12_four 13 rfl) hM (by decide) (by decide) rfl (show _ < 600 from by omega) (fun σ hM => ?_)
  refine wp_aload_n (atd dX12_four 14 rfl) rfl rfl ?_
  refine wp_dup (atd dX12_four 15 rfl) rfl ?_
  refine wp_get fX12_85 (atd dX12_four 16 rfl) hM.1.1 (by first | exact congrArg (fun z => some (Value.int z)) h6 | rfl) ?_
  refine wp_iconst (v := nI 1) (atd dX12_four 17 rfl) (by decide) ?_
  refine wp_iaddN (atd dX12_four 18 rfl) ?_
  refine wp_putM fX12_85 (atd dX12_four 19 rfl) hM rfl (fun σ hM => ?_)
  refine wp_iinc (v := (-8)) (atd dX12_four 20 rfl) rfl (by decide) ?_
  refine wp_goto (tgt := 3) (atd dX12_four 21 rfl) (by decide) ?_
  refine wp_iload_n (atd dX12_four 2 rfl) rfl ?_
  refine wp_if_lt (tgt := 39) (atd dX12_four 3 rfl) (by decide) (fun c_4 => ?_) (fun c_4 => ?_)
  ·
    refine wp_vretv (atd dX12_four 22 rfl) rfl ?_
    exact ⟨_, _, hM, (((frm.rf.up (by decide)).up (by decide)).up (by decide)).up (by decide), (((frm.rf.va (by decide)).va (by decide)).va (by decide)).va (by decide), rfl, rfl⟩
  · exact absurd (by decide) c_4
theorem eX12_feed {G : Gx} {d : Nat} {σ : Hp} (hd : 1 ≤ d) {m : Nat} {α : Nat → Int32} {B : Nat → Nat → Int32} (hM : MA σ σ m α B) {t : Nat} {a b c e f : Int32} (h6 : α 6 = nI t) (ht : t ≤ 600) : Cl G mX12_feed d [.ref m, .int a, .int b, .int c, .int e, .int f] σ 0 0 (pI fun r s => (600 < t + 20 ∧ r = -1 ∧ MA σ s m (upd α 0 (nI 0)) B) ∨ (t + 20 ≤ 600 ∧ r = nI (t + 20) ∧ ∃ α1 B1, MA σ s m α1 B1 ∧ frm [0, 6] α α1 ∧ frm [2] B B1 ∧ α1 0 = nI 0 ∧ α1 6 = nI (t + 20) ∧ B1 2 = up4 (up4 (up4 (up4 (up4 (B 2) t a) (t + 4) b) (t + 8) c) (t + 12) e) (t + 16) f)) := by
  obtain ⟨d0, hdd⟩ : ∃ e, d = e + 1 := ⟨d - 1, by omega⟩
  refine cl_of (by decide) (by simp [Value.category]) (Nat.le_of_ble_eq_true rfl) ?_
  show Wp G mX12_feed d 0 [.ref m, .int a, .int b, .int c, .int e, .int f] [] σ 0 0 _
  refine wp_aload_n (atd dX12_feed 0 rfl) rfl rfl ?_
  refine wp_iconst (v := nI 0) (atd dX12_feed 1 rfl) (by decide) ?_
  refine wp_putM fX12_75 (atd dX12_feed 2 rfl) hM rfl (fun σ hM => ?_)
  refine wp_aload_n (atd dX12_feed 3 rfl) rfl rfl ?_
  refine wp_get fX12_85 (atd dX12_feed 4 rfl) hM.1.1 (congrArg (fun z => some (Value.int z)) h6) ?_
  refine wp_bipush (v := nI 20) (atd dX12_feed 5 rfl) (by decide) ?_
  refine wp_iaddN (atd dX12_feed 6 rfl) ?_
  refine wp_sipush (v := nI 600) (atd dX12_feed 7 rfl) (by decide) ?_
  refine wp_icmpN_le (tgt := 20) (atd dX12_feed 8 rfl) (by decide) (by omega) (by omega) (fun c_15 => ?_) (fun c_15 => ?_)
  ·
    refine wp_aload_n (atd dX12_feed 11 rfl) rfl rfl ?_
    refine wp_iload_n (atd dX12_feed 12 rfl) rfl ?_
    refine wp_cVv hdd [_] (atd dX12_feed 13 rfl) iX12_four lX12_88 rfl rfl (Nat.le_of_ble_eq_true rfl) hM.1.1 rfl (eX12_four (by omega) hM.self h6 (by omega)) (fun s_22 h_22 => ?_)
    obtain ⟨a_0, b_0, hM_0, ga_0, gb_0, g6_0, g2_0⟩ := h_22
    have hM := hM.trans hM_0
    refine wp_aload_n (atd dX12_feed 14 rfl) rfl rfl ?_
    refine wp_iload_n (atd dX12_feed 15 rfl) rfl ?_
    refine wp_cVv hdd [_] (atd dX12_feed 16 rfl) iX12_four lX12_88 rfl rfl (Nat.le_of_ble_eq_true rfl) hM.1.1 rfl (eX12_four (by omega) hM.self g6_0 (by omega)) (fun s_27 h_27 => ?_)
    obtain ⟨a_1, b_1, hM_1, ga_1, gb_1, g6_1, g2_1⟩ := h_27
    have hM := hM.trans hM_1
    refine wp_aload_n (atd dX12_feed 17 rfl) rfl rfl ?_
    refine wp_iload_n (atd dX12_feed 18 rfl) rfl ?_
    refine wp_cVv hdd [_] (atd dX12_feed 19 rfl) iX12_four lX12_88 rfl rfl (Nat.le_of_ble_eq_true rfl) hM.1.1 rfl (eX12_four (by omega) hM.self g6_1 (by omega)) (fun s_32 h_32 => ?_)
    obtain ⟨a_2, b_2, hM_2, ga_2, gb_2, g6_2, g2_2⟩ := h_32
    have hM := hM.trans hM_2
    refine wp_aload_n (atd dX12_feed 20 rfl) rfl rfl ?_
    refine wp_iload (atd dX12_feed 21 rfl) rfl ?_
    refine wp_cVv hdd [_] (atd dX12_feed 22 rfl) iX12_four lX12_88 rfl rfl (Nat.le_of_ble_eq_true rfl) hM.1.1 rfl (eX12_four (by omega) hM.self g6_2 (by omega)) (fun s_38 h_38 => ?_)
    obtain ⟨a_3, b_3, hM_3, ga_3, gb_3, g6_3, g2_3⟩ := h_38
    have hM := hM.trans hM_3
    refine wp_aload_n (atd dX12_feed 23 rfl) rfl rfl ?_
    refine wp_iload (atd dX12_feed 24 rfl) rfl ?_
    refine wp_cVv hdd [_] (atd dX12_feed 25 rfl) iX12_four lX12_88 rfl rfl (Nat.le_of_ble_eq_true rfl) hM.1.1 rfl (eX12_four (by omega) hM.self g6_3 (by omega)) (fun s_44 h_44 => ?_)
    obtain ⟨a_4, b_4, hM_4, ga_4, gb_4, g6_4, g2_4⟩ := h_44
    have hM := hM.trans hM_4
    refine wp_aload_n (atd dX12_feed 26 rfl) rfl rfl ?_
    refine wp_get fX12_85 (atd dX12_feed 27 rfl) hM.1.1 (congrArg (fun z => some (Value.int z)) g6_4) ?_
    refine wp_ireti (atd dX12_feed 28 rfl) rfl ?_
    refine Or.inr ⟨c_15, rfl, _, _, hM, ?_, ?_, ?_, g6_4, ?_⟩
    · exact (frm.up (f := α) frm.rf (by decide)).tr ((((ga_0.mono (by decide)).tr (ga_1.mono (by decide))).tr (ga_2.mono (by decide))).tr ((ga_3.mono (by decide)).tr (ga_4.mono (by decide))))
    · exact (((gb_0.tr gb_1).tr gb_2).tr gb_3).tr gb_4
    · rw [ga_4 0 (by decide), ga_3 0 (by decide), ga_2 0 (by decide), ga_1 0 (by decide), ga_0 0 (by decide)]; rfl
    · rw [g2_4, g2_3, g2_2, g2_1, g2_0]
  ·
    refine wp_iconst (v := -1) (atd dX12_feed 9 rfl) (by decide) ?_
    refine wp_ireti (atd dX12_feed 10 rfl) rfl ?_
    exact Or.inl ⟨c_15, rfl, hM⟩
theorem eX12_end {G : Gx} {d : Nat} {σ : Hp} (hd : 1 ≤ d) {m : Nat} {α : Nat → Int32} {B : Nat → Nat → Int32} (hM : MA σ σ m α B) {t : Nat} {w : Int32} (h6 : α 6 = nI t) (ht : t ≤ 600) : Cl G mX12_end d [.ref m, .int w] σ 0 0 (pI fun r s => (¬ isP w (t + 1) ∧ r = -1 ∧ MA σ s m (upd α 0 (nI 0)) B) ∨ (isP w (t + 1) ∧ r = w ∧ MA σ s m (upd (upd α 0 (nI 0)) 6 w) B)) := by
  obtain ⟨d0, hdd⟩ : ∃ e, d = e + 1 := ⟨d - 1, by omega⟩
  refine cl_of (by decide) (by simp [Value.category]) (Nat.le_of_ble_eq_true rfl) ?_
  show Wp G mX12_end d 0 [.ref m, .int w] [] σ 0 0 _
  refine wp_aload_n (atd dX12_end 0 rfl) rfl rfl ?_
  refine wp_iconst (v := nI 0) (atd dX12_end 1 rfl) (by decide) ?_
  refine wp_putM fX12_75 (atd dX12_end 2 rfl) hM rfl (fun σ hM => ?_)
  refine wp_iload_n (atd dX12_end 3 rfl) rfl ?_
  refine wp_iconst (v := nI 0) (atd dX12_end 4 rfl) (by decide) ?_
  refine wp_aload_n (atd dX12_end 5 rfl) rfl rfl ?_
  refine wp_get fX12_85 (atd dX12_end 6 rfl) hM.1.1 (congrArg (fun z => some (Value.int z)) h6) ?_
  refine wp_cSi hdd [_, _, _] (atd dX12_end 7 rfl) iX12_in lX12_81 rfl rfl (Nat.le_of_ble_eq_true rfl) (eX12_in (by omega)) (fun r_11 s_11 h_11 => ?_)
  obtain ⟨rfl, rfl⟩ := h_11
  rw [bI_c (isP_le (by omega))]
  refine wp_ifB_ne (tgt := 19) (atd dX12_end 8 rfl) (by decide) (fun c_14 => ?_) (fun c_14 => ?_)
  ·
    refine wp_aload_n (atd dX12_end 11 rfl) rfl rfl ?_
    refine wp_iload_n (atd dX12_end 12 rfl) rfl ?_
    refine wp_putM fX12_85 (atd dX12_end 13 rfl) hM rfl (fun σ hM => ?_)
    refine wp_iload_n (atd dX12_end 14 rfl) rfl ?_
    refine wp_ireti (atd dX12_end 15 rfl) rfl ?_
    exact Or.inr ⟨c_14, rfl, hM⟩
  ·
    refine wp_iconst (v := -1) (atd dX12_end 9 rfl) (by decide) ?_
    refine wp_ireti (atd dX12_end 10 rfl) rfl ?_
    exact Or.inl ⟨c_14, rfl, hM⟩
def lowG (nb : Nat → Nat) (p w : Nat) : Nat := if cnt (nb p) - 1 ≤ w then cnt (nb p) - 1 else w
def lowF (nb : Nat → Nat) (n : Nat) : Nat := if n = 0 ∨ 1 < pts nb n 512 (2 ^ n - 1) 0 then 0 else
  if gir nb n = some 3 ∨ gir nb n = some 4 then (if 1 < cnt (dis0 nb n).1 then 2 else 1) else (if 1 ≤ fl (lowG nb) n 0 9 then fl (lowG nb) n 0 9 else 1)
theorem lesN {a b : Nat} (ha : a < 2 ^ 31) (hb : b < 2 ^ 31) : (if nI b ≤ nI a then nI b else nI a) = nI (if b ≤ a then b else a) := by
  by_cases h : b ≤ a
  · rw [if_pos ((nI_leI hb ha).mpr h), if_pos h]
  · rw [if_neg (fun z => h ((nI_leI hb ha).mp z)), if_neg h]
theorem greN {a b : Nat} (ha : a < 2 ^ 31) (hb : b < 2 ^ 31) : (if nI a ≤ nI b then nI b else nI a) = nI (if a ≤ b then b else a) := by
  by_cases h : a ≤ b
  · rw [if_pos ((nI_leI ha hb).mpr h), if_pos h]
  · rw [if_neg (fun z => h ((nI_leI ha hb).mp z)), if_neg h]
theorem gir_lt {nb : Nat → Nat} {n : Nat} : ∀ x, gir nb n = some x → x ≤ 10 := by
  have h1 : ∀ p (k q : Nat) (b : Option Nat), (∀ x, b = some x → x ≤ 10) → ∀ x, fl (girG nb n p) k q b = some x → x ≤ 10 := by
    intro p k
    induction k with
    | zero => intro q b hb x h; exact hb x h
    | succ k ih =>
      intro q b hb x h
      refine ih (q + 1) (girG nb n p q b) (fun y hy => ?_) x h
      unfold girG at hy
      split at hy
      · split at hy
        · exact hb y hy
        · rename_i t ht
          have := stp_lt ht
          split at hy
          · exact hb y hy
          · split at hy
            · cases hy; omega
            · split at hy
              · cases hy; omega
              · exact hb y hy
      · exact hb y hy
  have h2 : ∀ (k p : Nat) (b : Option Nat), (∀ x, b = some x → x ≤ 10) → ∀ x, fl (fun p b => fl (girG nb n p) (n - (p + 1)) (p + 1) b) k p b = some x → x ≤ 10 := by
    intro k
    induction k with
    | zero => intro p b hb x h; exact hb x h
    | succ k ih => intro p b hb x h; exact ih (p + 1) _ (fun y hy => h1 p _ _ b hb y hy) x h
  exact h2 n 0 none (fun x h => by cases h)
theorem lX12_low {G : Gx} {d : Nat} {σ : Hp} {e1 : Value} (hd : 1 ≤ d) {m n : Nat} {α : Nat → Int32} {B : Nat → Nat → Int32} {nb : Nat → Nat} (hM : MA σ σ m α B) (hp : α 2 = nI n) (hn : n ≤ 9) (hb : ∀ p, p < n → B 1 p = nI (nb p)) (hw : ∀ p, nb p < 512) (hc : ∀ p, p < n → 1 ≤ cnt (nb p)) {v : Nat} : ∀ (k : Nat) (p w : Nat), p + k = n → w ≤ 9 → fl (lowG nb) k p w = v → Wp G mX12_low d 58 [.ref m, e1, .int (nI w), .int (nI p)] [] σ 0 0 (pI fun r s => r = nI (if 1 ≤ v then v else 1) ∧ s = σ) := by
  obtain ⟨d0, hdd⟩ : ∃ e, d = e + 1 := ⟨d - 1, by omega⟩
  intro k
  induction k with
  | zero =>
    intro p w h hw9 hv
    refine wp_iload_n (atd dX12_low 33 rfl) rfl ?_
    refine wp_aload_n (atd dX12_low 34 rfl) rfl rfl ?_
    refine wp_get fX12_78 (atd dX12_low 35 rfl) hM.1.1 (congrArg (fun z => some (Value.int z)) hp) ?_
    refine wp_icmpN_ge (tgt := 88) (atd dX12_low 36 rfl) (by decide) (by omega) (by omega) (fun c_63 => ?_) (fun c_63 => ?_)
    ·
      refine wp_iconst (v := nI 1) (atd dX12_low 49 rfl) (by decide) ?_
      refine wp_iload_n (atd dX12_low 50 rfl) rfl ?_
      refine wp_cSi hdd [_, _] (atd dX12_low 51 rfl) iX12_greater lX12_213 rfl rfl (Nat.le_of_ble_eq_true rfl) (eX12_greater (by omega)) (fun r_90 s_90 h_90 => ?_)
      obtain ⟨rfl, rfl⟩ := h_90
      rw [greN (by omega) (by omega)]
      refine wp_ireti (atd dX12_low 52 rfl) rfl ?_
      exact ⟨by rw [← hv]; rfl, rfl⟩
    · exfalso; omega
  | succ k ih =>
    intro p w h hw9 hv
    refine wp_iload_n (atd dX12_low 33 rfl) rfl ?_
    refine wp_aload_n (atd dX12_low 34 rfl) rfl rfl ?_
    refine wp_get fX12_78 (atd dX12_low 35 rfl) hM.1.1 (congrArg (fun z => some (Value.int z)) hp) ?_
    refine wp_icmpN_ge (tgt := 88) (atd dX12_low 36 rfl) (by decide) (by omega) (by omega) (fun c_63 => ?_) (fun c_63 => ?_)
    · exfalso; omega
    ·
      refine wp_iload_n (atd dX12_low 37 rfl) rfl ?_
      refine wp_aload_n (atd dX12_low 38 rfl) rfl rfl ?_
      refine wp_get fX12_7 (atd dX12_low 39 rfl) hM.1.1 rfl ?_
      refine wp_iload_n (atd dX12_low 40 rfl) rfl ?_
      refine wp_ialdN (atd dX12_low 41 rfl) hM.a1 (show _ < 9 from by omega) (Nat.le_of_ble_eq_true rfl) ?_
      rw [hb p (by omega)]
      refine wp_cSi hdd [_] (atd dX12_low 42 rfl) iX12_many lX12_188 rfl rfl (Nat.le_of_ble_eq_true rfl) (eX12_many (by omega) (by have := hw p; omega)) (fun r_73 s_73 h_73 => ?_)
      obtain ⟨rfl, rfl⟩ := h_73
      refine wp_iconst (v := nI 1) (atd dX12_low 43 rfl) (by decide) ?_
      refine wp_isubN (atd dX12_low 44 rfl) (hc p (by omega)) ?_
      refine wp_cSi hdd [_, _] (atd dX12_low 45 rfl) iX12_lesser lX12_209 rfl rfl (Nat.le_of_ble_eq_true rfl) (eX12_lesser (by omega)) (fun r_78 s_78 h_78 => ?_)
      obtain ⟨rfl, rfl⟩ := h_78
      have hcl := (cnt_pos_le (nb p) (hw p)).2
      rw [lesN (by omega) (by omega)]
      refine wp_istore_n (atd dX12_low 46 rfl) (Nat.le_of_ble_eq_true rfl) ?_
      refine wp_iincN (c := 1) (atd dX12_low 47 rfl) rfl ?_
      refine wp_goto (tgt := 58) (atd dX12_low 48 rfl) (by decide) ?_
      exact ih (p + 1) _ (by omega) (by split <;> omega) (by rw [← hv]; rfl)
theorem pts_lt (nb : Nat → Nat) (n : Nat) : pts nb n 512 (2 ^ n - 1) 0 < 2 ^ 31 := by
  have h : ∀ (k l c : Nat), pts nb n k l c ≤ c + k := by
    intro k
    induction k with
    | zero => intro l c; exact Nat.le_refl _
    | succ k ih =>
      intro l c
      unfold pts
      split
      · omega
      · have := ih (dif l (clo nb n 512 (lowb l))) (c + 1); omega
  have := h 512 (2 ^ n - 1) 0
  omega
theorem eX12_low {G : Gx} {d : Nat} {σ : Hp} (hd : 3 ≤ d) {m n : Nat} {α : Nat → Int32} {B : Nat → Nat → Int32} {nb : Nat → Nat} (hM : MA σ σ m α B) (hp : α 2 = nI n) (hn : n ≤ 9) (hb : ∀ p, p < n → B 1 p = nI (nb p)) (hw : ∀ p, nb p < 512) (hN : isNet n nb) (hc : ∀ p, p < n → 1 ≤ cnt (nb p)) (hds : DisOk α B nb n) : Cl G mX12_low d [.ref m] σ 0 0 (pI fun r s => r = nI (lowF nb n) ∧ ∃ α1 B1, MA σ s m α1 B1 ∧ frm [17, 24, 25] α α1 ∧ frm [5, 6] B B1 ∧ DisOk α1 B1 nb n) := by
  obtain ⟨d0, hdd⟩ : ∃ e, d = e + 1 := ⟨d - 1, by omega⟩
  refine cl_of (by decide) (by simp [Value.category]) (Nat.le_of_ble_eq_true rfl) ?_
  show Wp G mX12_low d 0 [.ref m, .double 0, .double 0, .double 0] [] σ 0 0 _
  refine wp_aload_n (atd dX12_low 0 rfl) rfl rfl ?_
  refine wp_get fX12_78 (atd dX12_low 1 rfl) hM.1.1 (congrArg (fun z => some (Value.int z)) hp) ?_
  refine wp_ifN_eq (tgt := 15) (atd dX12_low 2 rfl) (by decide) (by omega) (fun c_4 => ?_) (fun c_4 => ?_)
  ·
    refine wp_iconst (v := nI 0) (atd dX12_low 7 rfl) (by decide) ?_
    refine wp_ireti (atd dX12_low 8 rfl) rfl ?_
    exact ⟨by unfold lowF; rw [if_pos (Or.inl c_4)], α, B, hM, frm.rf, frm.rf, hds⟩
  ·
    refine wp_aload_n (atd dX12_low 3 rfl) rfl rfl ?_
    refine wp_cVi hdd [] (atd dX12_low 4 rfl) iX12_parts lX12_197 rfl rfl (Nat.le_of_ble_eq_true rfl) hM.1.1 rfl (eX12_parts (by omega) hM hp hn hb hw hN) (fun r_8 s_8 h_8 => ?_)
    obtain ⟨rfl, rfl⟩ := h_8
    have hpt := pts_lt nb n
    refine wp_iconst (v := nI 1) (atd dX12_low 5 rfl) (by decide) ?_
    refine wp_icmpN_le (tgt := 17) (atd dX12_low 6 rfl) (by decide) (by omega) (by omega) (fun c_12 => ?_) (fun c_12 => ?_)
    ·
      refine wp_aload_n (atd dX12_low 9 rfl) rfl rfl ?_
      refine wp_cVi hdd [] (atd dX12_low 10 rfl) iX12_girth lX12_200 rfl rfl (Nat.le_of_ble_eq_true rfl) hM.1.1 rfl (eX12_girth (by omega) hM hp hn hb hw) (fun r_18 s_18 h_18 => ?_)
      obtain ⟨rfl, rfl⟩ := h_18
      generalize hx : gir nb n = xx; rcases xx with _ | g
      ·
        refine wp_istore_n (atd dX12_low 11 rfl) (Nat.le_of_ble_eq_true rfl) ?_
        refine wp_iload_n (atd dX12_low 12 rfl) rfl ?_
        refine wp_iconst (v := nI 3) (atd dX12_low 13 rfl) (by decide) ?_
        refine wp_icmp_eq (tgt := 32) (atd dX12_low 14 rfl) (by decide) (fun c_24 => ?_) (fun c_24 => ?_)
        · exact absurd c_24 (by decide)
        ·
          refine wp_iload_n (atd dX12_low 15 rfl) rfl ?_
          refine wp_iconst (v := nI 4) (atd dX12_low 16 rfl) (by decide) ?_
          refine wp_icmp_ne (tgt := 53) (atd dX12_low 17 rfl) (by decide) (fun c_29 => ?_) (fun c_29 => ?_)
          ·
            refine wp_bipush (v := nI 9) (atd dX12_low 29 rfl) (by decide) ?_
            refine wp_istore_n (atd dX12_low 30 rfl) (Nat.le_of_ble_eq_true rfl) ?_
            refine wp_iconst (v := nI 0) (atd dX12_low 31 rfl) (by decide) ?_
            refine wp_istore_n (atd dX12_low 32 rfl) (Nat.le_of_ble_eq_true rfl) ?_
            refine wp_post (lX12_low (v := fl (lowG nb) n 0 9) (by omega) hM hp hn hb hw hc n 0 9 (by omega) (by omega) rfl) ?_
            rintro v s ⟨r, rfl, rfl, rfl⟩
            refine ⟨_, rfl, ?_, α, B, hM, frm.rf, frm.rf, hds⟩
            unfold lowF
            rw [if_neg (show ¬ (n = 0 ∨ 1 < pts nb n 512 (2 ^ n - 1) 0) by omega), if_neg (show ¬ (gir nb n = some 3 ∨ gir nb n = some 4) by rw [hx]; rintro (z | z) <;> cases z)]
          · exact absurd (Classical.not_not.mp c_29) (by decide)
      ·
        have hg9 := gir_lt g hx
        refine wp_istore_n (atd dX12_low 11 rfl) (Nat.le_of_ble_eq_true rfl) ?_
        refine wp_iload_n (atd dX12_low 12 rfl) rfl ?_
        refine wp_iconst (v := nI 3) (atd dX12_low 13 rfl) (by decide) ?_
        refine wp_icmpN_eq (tgt := 32) (atd dX12_low 14 rfl) (by decide) (by omega) (by omega) (fun c_24 => ?_) (fun c_24 => ?_)
        ·
          refine wp_aload_n (atd dX12_low 18 rfl) rfl rfl ?_
          refine wp_cVv hdd [] (atd dX12_low 19 rfl) iX12_dismantle lX12_203 rfl rfl (Nat.le_of_ble_eq_true rfl) hM.1.1 rfl (eX12_dismantle (by omega) hM.self hp hn hb hw hds) (fun s_33 h_33 => ?_)
          obtain ⟨α1, B1, hM1, hfa, hfb, h17, hDR⟩ := h_33
          have hM := hM.trans hM1
          have hl9 := dis0_lt nb hn
          have h9 := pow_le9 hn
          refine wp_aload_n (atd dX12_low 20 rfl) rfl rfl ?_
          refine wp_get fX12_206 (atd dX12_low 21 rfl) hM.1.1 (congrArg (fun z => some (Value.int z)) hDR.1) ?_
          refine wp_cSi hdd [_] (atd dX12_low 22 rfl) iX12_many lX12_188 rfl rfl (Nat.le_of_ble_eq_true rfl) (eX12_many (by omega) (by omega)) (fun r_40 s_40 h_40 => ?_)
          obtain ⟨rfl, rfl⟩ := h_40
          have hcl := (cnt_pos_le (dis0 nb n).1 (by omega)).2
          refine wp_iconst (v := nI 1) (atd dX12_low 23 rfl) (by decide) ?_
          refine wp_icmpN_le (tgt := 51) (atd dX12_low 24 rfl) (by decide) (by omega) (by omega) (fun c_44 => ?_) (fun c_44 => ?_)
          ·
            refine wp_iconst (v := nI 1) (atd dX12_low 27 rfl) (by decide) ?_
            refine wp_ireti (atd dX12_low 28 rfl) rfl ?_
            exact ⟨by unfold lowF; rw [if_neg (show ¬ (n = 0 ∨ 1 < pts nb n 512 (2 ^ n - 1) 0) by omega), if_pos (Or.inl (by rw [hx, c_24])), if_neg (by omega)], α1, B1, hM, hfa, hfb, Or.inr ⟨h17, hDR⟩⟩
          ·
            refine wp_iconst (v := nI 2) (atd dX12_low 25 rfl) (by decide) ?_
            refine wp_goto (tgt := 52) (atd dX12_low 26 rfl) (by decide) ?_
            refine wp_ireti (atd dX12_low 28 rfl) rfl ?_
            exact ⟨by unfold lowF; rw [if_neg (show ¬ (n = 0 ∨ 1 < pts nb n 512 (2 ^ n - 1) 0) by omega), if_pos (Or.inl (by rw [hx, c_24])), if_pos (by omega)], α1, B1, hM, hfa, hfb, Or.inr ⟨h17, hDR⟩⟩
        ·
          refine wp_iload_n (atd dX12_low 15 rfl) rfl ?_
          refine wp_iconst (v := nI 4) (atd dX12_low 16 rfl) (by decide) ?_
          refine wp_icmpN_ne (tgt := 53) (atd dX12_low 17 rfl) (by decide) (by omega) (by omega) (fun c_29 => ?_) (fun c_29 => ?_)
          ·
            refine wp_bipush (v := nI 9) (atd dX12_low 29 rfl) (by decide) ?_
            refine wp_istore_n (atd dX12_low 30 rfl) (Nat.le_of_ble_eq_true rfl) ?_
            refine wp_iconst (v := nI 0) (atd dX12_low 31 rfl) (by decide) ?_
            refine wp_istore_n (atd dX12_low 32 rfl) (Nat.le_of_ble_eq_true rfl) ?_
            refine wp_post (lX12_low (v := fl (lowG nb) n 0 9) (by omega) hM hp hn hb hw hc n 0 9 (by omega) (by omega) rfl) ?_
            rintro v s ⟨r, rfl, rfl, rfl⟩
            refine ⟨_, rfl, ?_, α, B, hM, frm.rf, frm.rf, hds⟩
            unfold lowF
            rw [if_neg (show ¬ (n = 0 ∨ 1 < pts nb n 512 (2 ^ n - 1) 0) by omega), if_neg (show ¬ (gir nb n = some 3 ∨ gir nb n = some 4) by rw [hx]; rintro (z | z) <;> cases z <;> omega)]
          ·
            refine wp_aload_n (atd dX12_low 18 rfl) rfl rfl ?_
            refine wp_cVv hdd [] (atd dX12_low 19 rfl) iX12_dismantle lX12_203 rfl rfl (Nat.le_of_ble_eq_true rfl) hM.1.1 rfl (eX12_dismantle (by omega) hM.self hp hn hb hw hds) (fun s_33 h_33 => ?_)
            obtain ⟨α1, B1, hM1, hfa, hfb, h17, hDR⟩ := h_33
            have hM := hM.trans hM1
            have hl9 := dis0_lt nb hn
            have h9 := pow_le9 hn
            refine wp_aload_n (atd dX12_low 20 rfl) rfl rfl ?_
            refine wp_get fX12_206 (atd dX12_low 21 rfl) hM.1.1 (congrArg (fun z => some (Value.int z)) hDR.1) ?_
            refine wp_cSi hdd [_] (atd dX12_low 22 rfl) iX12_many lX12_188 rfl rfl (Nat.le_of_ble_eq_true rfl) (eX12_many (by omega) (by omega)) (fun r_40 s_40 h_40 => ?_)
            obtain ⟨rfl, rfl⟩ := h_40
            have hcl := (cnt_pos_le (dis0 nb n).1 (by omega)).2
            refine wp_iconst (v := nI 1) (atd dX12_low 23 rfl) (by decide) ?_
            refine wp_icmpN_le (tgt := 51) (atd dX12_low 24 rfl) (by decide) (by omega) (by omega) (fun c_44 => ?_) (fun c_44 => ?_)
            ·
              refine wp_iconst (v := nI 1) (atd dX12_low 27 rfl) (by decide) ?_
              refine wp_ireti (atd dX12_low 28 rfl) rfl ?_
              exact ⟨by unfold lowF; rw [if_neg (show ¬ (n = 0 ∨ 1 < pts nb n 512 (2 ^ n - 1) 0) by omega), if_pos (Or.inr (by rw [hx, c_29])), if_neg (by omega)], α1, B1, hM, hfa, hfb, Or.inr ⟨h17, hDR⟩⟩
            ·
              refine wp_iconst (v := nI 2) (atd dX12_low 25 rfl) (by decide) ?_
              refine wp_goto (tgt := 52) (atd dX12_low 26 rfl) (by decide) ?_
              refine wp_ireti (atd dX12_low 28 rfl) rfl ?_
              exact ⟨by unfold lowF; rw [if_neg (show ¬ (n = 0 ∨ 1 < pts nb n 512 (2 ^ n - 1) 0) by omega), if_pos (Or.inr (by rw [hx, c_29])), if_pos (by omega)], α1, B1, hM, hfa, hfb, Or.inr ⟨h17, hDR⟩⟩
    ·
      refine wp_iconst (v := nI 0) (atd dX12_low 7 rfl) (by decide) ?_
      refine wp_ireti (atd dX12_low 8 rfl) rfl ?_
      exact ⟨by unfold lowF; rw [if_pos (Or.inr c_12)], α, B, hM, frm.rf, frm.rf, hds⟩
def abF (nb : Nat → Nat) (n : Nat) (ac tp : Int32) (j : Nat) : Int32 := match j with
  | 0 => nI n
  | 1 => nI (fl (linG nb) n 0 0 / 2)
  | 2 => nI (pts nb n 512 (2 ^ n - 1) 0)
  | 3 => oI (gir nb n)
  | 4 => nI (lowF nb n)
  | 5 => nI (cnt (cov nb n))
  | 6 => nI (cov nb n)
  | 7 => ac
  | _ => tp
theorem cov_lt (nb : Nat → Nat) {n : Nat} (hn : n ≤ 9) : cov nb n < 512 := by
  have h9 := pow_le9 hn
  have h8 := pow_pos9 n
  have h : ∀ (k i b : Nat), i + k ≤ 512 → b < 512 → fl (covG nb n) k i b < 512 := by
    intro k
    induction k with
    | zero => intro i b _ h; exact h
    | succ k ih =>
      intro i b hi hb
      refine ih (i + 1) _ (by omega) ?_
      unfold covG
      split
      · omega
      · exact hb
  exact h (2 ^ n) 0 (2 ^ n - 1) (by omega) (by omega)
theorem eX12_about {G : Gx} {d : Nat} {σ : Hp} (hd : 4 ≤ d) {m n : Nat} {α : Nat → Int32} {B : Nat → Nat → Int32} {nb : Nat → Nat} (hM : MA σ σ m α B) (hp : α 2 = nI n) (hn : n ≤ 9) (hb : ∀ p, p < n → B 1 p = nI (nb p)) (hw : ∀ p, nb p < 512) (hN : isNet n nb) (hc : ∀ p, p < n → 1 ≤ cnt (nb p)) (hds : DisOk α B nb n) {w : Int32} : Cl G mX12_about d [.ref m, .int w] σ 0 0 (pI fun r s => r = atP w 9 (abF nb n (α 57) (α 6)) (-1) ∧ ∃ α1 B1, MA σ s m α1 B1 ∧ frm [0, 17, 24, 25] α α1 ∧ frm [5, 6] B B1 ∧ α1 0 = nI 0 ∧ DisOk α1 B1 nb n) := by
  obtain ⟨d0, hdd⟩ : ∃ e, d = e + 1 := ⟨d - 1, by omega⟩
  refine cl_of (by decide) (by simp [Value.category]) (Nat.le_of_ble_eq_true rfl) ?_
  show Wp G mX12_about d 0 [.ref m, .int w] [] σ 0 0 _
  refine wp_aload_n (atd dX12_about 0 rfl) rfl rfl ?_
  refine wp_iconst (v := nI 0) (atd dX12_about 1 rfl) (by decide) ?_
  refine wp_putM fX12_75 (atd dX12_about 2 rfl) hM rfl (fun σ hM => ?_)
  refine wp_iload_n (atd dX12_about 3 rfl) rfl ?_
  by_cases hw9 : isP w 9
  · obtain ⟨j, hj, rfl⟩ := isP_of (by decide) hw9
    rcases (show j = 0 ∨ j = 1 ∨ j = 2 ∨ j = 3 ∨ j = 4 ∨ j = 5 ∨ j = 6 ∨ j = 7 ∨ j = 8 by omega) with rfl | rfl | rfl | rfl | rfl | rfl | rfl | rfl | rfl
    ·
      refine wp_tblIn (off := 50) (tgt := 56) (atd dX12_about 4 rfl) (by decide) (by decide) rfl (by decide) ?_
      refine wp_aload_n (atd dX12_about 5 rfl) rfl rfl ?_
      refine wp_get fX12_78 (atd dX12_about 6 rfl) hM.1.1 (congrArg (fun z => some (Value.int z)) hp) ?_
      refine wp_ireti (atd dX12_about 7 rfl) rfl ?_
      exact ⟨by rw [atP_t (by decide) hj]; rfl, _, B, hM, frm.up frm.rf (by decide), frm.rf, rfl, hds⟩
    ·
      refine wp_tblIn (off := 55) (tgt := 61) (atd dX12_about 4 rfl) (by decide) (by decide) rfl (by decide) ?_
      refine wp_aload_n (atd dX12_about 8 rfl) rfl rfl ?_
      refine wp_cVi hdd [] (atd dX12_about 9 rfl) iX12_lines lX12_219 rfl rfl (Nat.le_of_ble_eq_true rfl) hM.1.1 rfl (eX12_lines (by omega) hM.self hp hn hb hw hc) (fun r_62 s_62 h_62 => ?_)
      obtain ⟨rfl, rfl⟩ := h_62
      refine wp_ireti (atd dX12_about 10 rfl) rfl ?_
      exact ⟨by rw [atP_t (by decide) hj]; rfl, _, B, hM, frm.up frm.rf (by decide), frm.rf, rfl, hds⟩
    ·
      refine wp_tblIn (off := 60) (tgt := 66) (atd dX12_about 4 rfl) (by decide) (by decide) rfl (by decide) ?_
      refine wp_aload_n (atd dX12_about 11 rfl) rfl rfl ?_
      refine wp_cVi hdd [] (atd dX12_about 12 rfl) iX12_parts lX12_197 rfl rfl (Nat.le_of_ble_eq_true rfl) hM.1.1 rfl (eX12_parts (by omega) hM.self hp hn hb hw hN) (fun r_67 s_67 h_67 => ?_)
      obtain ⟨rfl, rfl⟩ := h_67
      refine wp_ireti (atd dX12_about 13 rfl) rfl ?_
      exact ⟨by rw [atP_t (by decide) hj]; rfl, _, B, hM, frm.up frm.rf (by decide), frm.rf, rfl, hds⟩
    ·
      refine wp_tblIn (off := 65) (tgt := 71) (atd dX12_about 4 rfl) (by decide) (by decide) rfl (by decide) ?_
      refine wp_aload_n (atd dX12_about 14 rfl) rfl rfl ?_
      refine wp_cVi hdd [] (atd dX12_about 15 rfl) iX12_girth lX12_200 rfl rfl (Nat.le_of_ble_eq_true rfl) hM.1.1 rfl (eX12_girth (by omega) hM.self hp hn hb hw) (fun r_72 s_72 h_72 => ?_)
      obtain ⟨rfl, rfl⟩ := h_72
      refine wp_ireti (atd dX12_about 16 rfl) rfl ?_
      exact ⟨by rw [atP_t (by decide) hj]; rfl, _, B, hM, frm.up frm.rf (by decide), frm.rf, rfl, hds⟩
    ·
      refine wp_tblIn (off := 70) (tgt := 76) (atd dX12_about 4 rfl) (by decide) (by decide) rfl (by decide) ?_
      refine wp_aload_n (atd dX12_about 17 rfl) rfl rfl ?_
      refine wp_cVi hdd [] (atd dX12_about 18 rfl) iX12_low lX12_222 rfl rfl (Nat.le_of_ble_eq_true rfl) hM.1.1 rfl (eX12_low (by omega) hM.self hp hn hb hw hN hc hds) (fun r_77 s_77 h_77 => ?_)
      obtain ⟨rfl, α1, B1, hM1, hfa, hfb, hds1⟩ := h_77
      refine wp_ireti (atd dX12_about 19 rfl) rfl ?_
      exact ⟨by rw [atP_t (by decide) hj]; rfl, α1, B1, hM.trans hM1, (frm.up (f := α) frm.rf (by decide)).tr (hfa.mono (by decide)), hfb, (hfa 0 (by decide)).trans rfl, hds1⟩
    ·
      refine wp_tblIn (off := 75) (tgt := 81) (atd dX12_about 4 rfl) (by decide) (by decide) rfl (by decide) ?_
      refine wp_aload_n (atd dX12_about 20 rfl) rfl rfl ?_
      refine wp_cVi hdd [] (atd dX12_about 21 rfl) iX12_cover lX12_225 rfl rfl (Nat.le_of_ble_eq_true rfl) hM.1.1 rfl (eX12_cover (by omega) hM.self hp hn hb hw) (fun r_82 s_82 h_82 => ?_)
      obtain ⟨rfl, rfl⟩ := h_82
      refine wp_cSi hdd [_] (atd dX12_about 22 rfl) iX12_many lX12_188 rfl rfl (Nat.le_of_ble_eq_true rfl) (eX12_many (by omega) (by have := cov_lt nb hn; omega)) (fun r_85 s_85 h_85 => ?_)
      obtain ⟨rfl, rfl⟩ := h_85
      refine wp_ireti (atd dX12_about 23 rfl) rfl ?_
      exact ⟨by rw [atP_t (by decide) hj]; rfl, _, B, hM, frm.up frm.rf (by decide), frm.rf, rfl, hds⟩
    ·
      refine wp_tblIn (off := 83) (tgt := 89) (atd dX12_about 4 rfl) (by decide) (by decide) rfl (by decide) ?_
      refine wp_aload_n (atd dX12_about 24 rfl) rfl rfl ?_
      refine wp_cVi hdd [] (atd dX12_about 25 rfl) iX12_cover lX12_225 rfl rfl (Nat.le_of_ble_eq_true rfl) hM.1.1 rfl (eX12_cover (by omega) hM.self hp hn hb hw) (fun r_90 s_90 h_90 => ?_)
      obtain ⟨rfl, rfl⟩ := h_90
      refine wp_ireti (atd dX12_about 26 rfl) rfl ?_
      exact ⟨by rw [atP_t (by decide) hj]; rfl, _, B, hM, frm.up frm.rf (by decide), frm.rf, rfl, hds⟩
    ·
      refine wp_tblIn (off := 88) (tgt := 94) (atd dX12_about 4 rfl) (by decide) (by decide) rfl (by decide) ?_
      refine wp_aload_n (atd dX12_about 27 rfl) rfl rfl ?_
      refine wp_get fX12_162 (atd dX12_about 28 rfl) hM.1.1 rfl ?_
      refine wp_ireti (atd dX12_about 29 rfl) rfl ?_
      exact ⟨by rw [atP_t (by decide) hj]; rfl, _, B, hM, frm.up frm.rf (by decide), frm.rf, rfl, hds⟩
    ·
      refine wp_tblIn (off := 93) (tgt := 99) (atd dX12_about 4 rfl) (by decide) (by decide) rfl (by decide) ?_
      refine wp_aload_n (atd dX12_about 30 rfl) rfl rfl ?_
      refine wp_get fX12_85 (atd dX12_about 31 rfl) hM.1.1 rfl ?_
      refine wp_ireti (atd dX12_about 32 rfl) rfl ?_
      exact ⟨by rw [atP_t (by decide) hj]; rfl, _, B, hM, frm.up frm.rf (by decide), frm.rf, rfl, hds⟩
  ·
    refine wp_tblOut (tgt := 104) (atd dX12_about 4 rfl) (by have h9 : ¬ (0 ≤ w.toInt ∧ w.toInt < ((9 : Nat) : Int)) := hw9; omega) (by decide) ?_
    refine wp_iconst (v := -1) (atd dX12_about 33 rfl) (by decide) ?_
    refine wp_ireti (atd dX12_about 34 rfl) rfl ?_
    exact ⟨by rw [atP_f hw9], _, B, hM, frm.up frm.rf (by decide), frm.rf, rfl, hds⟩
