theorem lX12_solve3 {G : Gx} {d : Nat} {Q : Option Value → Hp → Prop} {σ0 : Hp} {m n h kd : Nat} {α : Nat → Int32} {B0 : Nat → Nat → Int32} {nb : Nat → Nat} {F : List Row} (hd : 4 ≤ d) (hp : α 2 = nI n) (hn : n ≤ 9) (hb : ∀ p, p < n → B0 1 p = nI (nb p)) (hw : ∀ p, nb p < 512) (h32 : α 32 = nI F.length) (hh : h ≤ 3) (hkd : kd < 3) (hF9 : F.length ≤ 165) (hR : RW B0 F h) (hin : RIn F n) (hcg : CG B0 nb h kd F) {i : Nat} (hi : i < F.length) (hk : ∀ (σ : Hp) (B : Nat → Nat → Int32) (e4 e5 e6 : Value), MA σ0 σ m α B → frm [10] B0 B → (∀ x y, x < i + 1 → y < n → B 10 (9 * x + y) = oI (w0 h F x y)) → Wp G mX12_solve d 92 [.ref m, .int (nI kd), .int (nI h), .int (nI i), e4, e5, e6] [] σ 0 0 Q) : ∀ (k : Nat) (σ : Hp) (B : Nat → Nat → Int32) (p : Nat) (e5 e6 : Value), MA σ0 σ m α B → frm [10] B0 B → (∀ x y, x < i → y < n → B 10 (9 * x + y) = oI (w0 h F x y)) → (∀ y, y < p → B 10 (9 * i + y) = oI (w0 h F i y)) → p + k = n → Wp G mX12_solve d 46 [.ref m, .int (nI kd), .int (nI h), .int (nI i), .int (nI p), e5, e6] [] σ 0 0 Q := by
  obtain ⟨d0, hdd⟩ : ∃ e, d = e + 1 := ⟨d - 1, by omega⟩
  intro k
  induction k with
  | zero =>
    intro σ B p e5 e6 hM hfb hx hy hpk
    refine wp_iload (atd dX12_solve 27 rfl) rfl ?_
    refine wp_aload_n (atd dX12_solve 28 rfl) rfl rfl ?_
    refine wp_get fX12_78 (atd dX12_solve 29 rfl) hM.1.1 (congrArg (fun z => some (Value.int z)) hp) ?_
    refine wp_icmpN_ge (tgt := 92) (atd dX12_solve 30 rfl) (by decide) (by omega) (by omega) (fun c_52 => ?_) (fun c_52 => ?_)
    ·
      refine hk _ B _ _ _ hM hfb (fun x y h1 h2 => ?_)
      by_cases e : x = i
      · subst e; exact hy y (by omega)
      · exact hx x y (by omega) h2
    · exfalso; omega
  | succ k ih =>
    intro σ B p e5 e6 hM hfb hx hy hpk
    have hsl := std_lt (h := h) hn hin hi
    have hst : B 12 i = nI (std h (rowAt F i)) := by rw [hfb 12 (by decide)]; exact (hR i hi).2
    refine wp_iload (atd dX12_solve 27 rfl) rfl ?_
    refine wp_aload_n (atd dX12_solve 28 rfl) rfl rfl ?_
    refine wp_get fX12_78 (atd dX12_solve 29 rfl) hM.1.1 (congrArg (fun z => some (Value.int z)) hp) ?_
    refine wp_icmpN_ge (tgt := 92) (atd dX12_solve 30 rfl) (by decide) (by omega) (by omega) (fun c_52 => ?_) (fun c_52 => ?_)
    · exfalso; omega
    ·
      refine wp_aload_n (atd dX12_solve 31 rfl) rfl rfl ?_
      refine wp_get fX12_45 (atd dX12_solve 32 rfl) hM.1.1 rfl ?_
      refine wp_bipush (v := nI 9) (atd dX12_solve 33 rfl) (by decide) ?_
      refine wp_iload_n (atd dX12_solve 34 rfl) rfl ?_
      refine wp_imulN (atd dX12_solve 35 rfl) ?_
      refine wp_iload (atd dX12_solve 36 rfl) rfl ?_
      refine wp_iaddN (atd dX12_solve 37 rfl) ?_
      refine wp_aload_n (atd dX12_solve 38 rfl) rfl rfl ?_
      refine wp_get fX12_51 (atd dX12_solve 39 rfl) hM.1.1 rfl ?_
      refine wp_iload_n (atd dX12_solve 40 rfl) rfl ?_
      refine wp_ialdN (atd dX12_solve 41 rfl) hM.a12 (show _ < 165 from by omega) (Nat.le_of_ble_eq_true rfl) ?_
      rw [hst]
      refine wp_iload (atd dX12_solve 42 rfl) rfl ?_
      refine wp_cSi hdd [_, _] (atd dX12_solve 43 rfl) iX12_isOf lX12_149 rfl rfl (Nat.le_of_ble_eq_true rfl) (eX12_isOf (by omega) (by omega) (by omega)) (fun r_74 s_74 h_74 => ?_)
      obtain ⟨rfl, rfl⟩ := h_74
      refine wp_ifB_eq (tgt := 84) (atd dX12_solve 44 rfl) (by decide) (fun c_77 => ?_) (fun c_77 => ?_)
      ·
        refine wp_iconst (v := -1) (atd dX12_solve 47 rfl) (by decide) ?_
        refine wp_iastM (j := 10) (atd dX12_solve 48 rfl) hM (by decide) (by decide) rfl (show _ < 1485 from by omega) (fun σ hM => ?_)
        refine wp_iincN (c := 1) (atd dX12_solve 49 rfl) rfl ?_
        refine wp_goto (tgt := 46) (atd dX12_solve 50 rfl) (by decide) ?_
        have hv : w0 h F i p = none := if_neg c_77
        refine ih _ _ (p + 1) _ _ hM (hfb.va (by decide)) (fun x y h1 h2 => ?_) (fun y h1 => ?_) (by omega)
        · show upd (B 10) (9 * i + p) (oI none) (9 * x + y) = _
          rw [show upd (B 10) (9 * i + p) (oI none) (9 * x + y) = B 10 (9 * x + y) from if_neg (by omega)]
          exact hx x y h1 h2
        · show upd (B 10) (9 * i + p) (oI none) (9 * i + y) = _
          by_cases e : y = p
          · subst e; rw [hv]; exact if_pos rfl
          · rw [show upd (B 10) (9 * i + p) (oI none) (9 * i + y) = B 10 (9 * i + y) from if_neg (by omega)]
            exact hy y (by omega)
      ·
        refine wp_iconst (v := nI 0) (atd dX12_solve 45 rfl) (by decide) ?_
        refine wp_goto (tgt := 85) (atd dX12_solve 46 rfl) (by decide) ?_
        refine wp_iastM (j := 10) (atd dX12_solve 48 rfl) hM (by decide) (by decide) rfl (show _ < 1485 from by omega) (fun σ hM => ?_)
        refine wp_iincN (c := 1) (atd dX12_solve 49 rfl) rfl ?_
        refine wp_goto (tgt := 46) (atd dX12_solve 50 rfl) (by decide) ?_
        have hv : w0 h F i p = (some 0) := if_pos c_77
        refine ih _ _ (p + 1) _ _ hM (hfb.va (by decide)) (fun x y h1 h2 => ?_) (fun y h1 => ?_) (by omega)
        · show upd (B 10) (9 * i + p) (oI (some 0)) (9 * x + y) = _
          rw [show upd (B 10) (9 * i + p) (oI (some 0)) (9 * x + y) = B 10 (9 * x + y) from if_neg (by omega)]
          exact hx x y h1 h2
        · show upd (B 10) (9 * i + p) (oI (some 0)) (9 * i + y) = _
          by_cases e : y = p
          · subst e; rw [hv]; exact if_pos rfl
          · rw [show upd (B 10) (9 * i + p) (oI (some 0)) (9 * i + y) = B 10 (9 * i + y) from if_neg (by omega)]
            exact hy y (by omega)
theorem lX12_solve4 {G : Gx} {d : Nat} {Q : Option Value → Hp → Prop} {σ0 : Hp} {m n h kd : Nat} {α : Nat → Int32} {B0 : Nat → Nat → Int32} {nb : Nat → Nat} {F : List Row} (hd : 4 ≤ d) (hp : α 2 = nI n) (hn : n ≤ 9) (hb : ∀ p, p < n → B0 1 p = nI (nb p)) (hw : ∀ p, nb p < 512) (h32 : α 32 = nI F.length) (hh : h ≤ 3) (hkd : kd < 3) (hF9 : F.length ≤ 165) (hR : RW B0 F h) (hin : RIn F n) (hcg : CG B0 nb h kd F) (hk : ∀ (σ : Hp) (B : Nat → Nat → Int32) (e3 e4 e5 e6 : Value), MA σ0 σ m α B → frm [10] B0 B → WT B 10 (w0 h F) F.length n → Wp G mX12_solve d 98 [.ref m, .int (nI kd), .int (nI h), e3, e4, e5, e6] [] σ 0 0 Q) : ∀ (k : Nat) (σ : Hp) (B : Nat → Nat → Int32) (i : Nat) (e4 e5 e6 : Value), MA σ0 σ m α B → frm [10] B0 B → (∀ x y, x < i → y < n → B 10 (9 * x + y) = oI (w0 h F x y)) → i + k = F.length → Wp G mX12_solve d 35 [.ref m, .int (nI kd), .int (nI h), .int (nI i), e4, e5, e6] [] σ 0 0 Q := by
  intro k
  induction k with
  | zero =>
    intro σ B i e4 e5 e6 hM hfb hx hik
    refine wp_iload_n (atd dX12_solve 21 rfl) rfl ?_
    refine wp_aload_n (atd dX12_solve 22 rfl) rfl rfl ?_
    refine wp_get fX12_234 (atd dX12_solve 23 rfl) hM.1.1 (congrArg (fun z => some (Value.int z)) h32) ?_
    refine wp_icmpN_ge (tgt := 98) (atd dX12_solve 24 rfl) (by decide) (by omega) (by omega) (fun c_40 => ?_) (fun c_40 => ?_)
    ·
      exact hk _ B _ _ _ _ hM hfb (fun x y h1 h2 => hx x y (by omega) h2)
    · exfalso; omega
  | succ k ih =>
    intro σ B i e4 e5 e6 hM hfb hx hik
    refine wp_iload_n (atd dX12_solve 21 rfl) rfl ?_
    refine wp_aload_n (atd dX12_solve 22 rfl) rfl rfl ?_
    refine wp_get fX12_234 (atd dX12_solve 23 rfl) hM.1.1 (congrArg (fun z => some (Value.int z)) h32) ?_
    refine wp_icmpN_ge (tgt := 98) (atd dX12_solve 24 rfl) (by decide) (by omega) (by omega) (fun c_40 => ?_) (fun c_40 => ?_)
    · exfalso; omega
    ·
      refine wp_iconst (v := nI 0) (atd dX12_solve 25 rfl) (by decide) ?_
      refine wp_istore (atd dX12_solve 26 rfl) (Nat.le_of_ble_eq_true rfl) ?_
      refine lX12_solve3 hd hp hn hb hw h32 hh hkd hF9 hR hin hcg (i := i) (by omega) (fun σ B e4 e5 e6 hM hfb hx => ?_) n _ B 0 _ _ hM hfb hx (fun y hy => absurd hy (Nat.not_lt_zero y)) (by omega)
      refine wp_iincN (c := 1) (atd dX12_solve 51 rfl) rfl ?_
      refine wp_goto (tgt := 35) (atd dX12_solve 52 rfl) (by decide) ?_
      exact ih _ B (i + 1) _ _ _ hM hfb hx (by omega)
/-- a game is solved -/
def GSol (α : Nat → Int32) (B : Nat → Nat → Int32) (nb : Nat → Nat) (n kd h : Nat) : Prop := α 33 = nI h ∧ α 32 = nI (rowsL h n).length ∧ RW B (rowsL h n) h ∧ CG B nb h kd (rowsL h n) ∧ WT B 10 (slvF nb n h kd) (rowsL h n).length n ∧ WT B 11 (rwt nb n kd h (rowsL h n) (slvF nb n h kd)) (rowsL h n).length n ∧ WB (slvF nb n h kd) (rowsL h n).length n 4000
def GOk (α : Nat → Int32) (B : Nat → Nat → Int32) (nb : Nat → Nat) (n : Nat) : Prop := α 19 = -1 ∨ ∃ kd h, kd < 3 ∧ 1 ≤ h ∧ h ≤ 3 ∧ α 19 = nI kd ∧ α 20 = nI h ∧ GSol α B nb n kd h
theorem w0_WB (h : Nat) (F : List Row) (n : Nat) : WB (w0 h F) F.length n 0 := by
  intro i p x _ _ e
  unfold w0 at e
  split at e
  · cases e; exact Nat.le_refl _
  · cases e
theorem frm_sub {β : Type} {S T U : List Nat} {f g k : Nat → β} (a : frm S f g) (b : frm T g k) (h1 : ∀ j ∈ S, j ∈ U) (h2 : ∀ j ∈ T, j ∈ U) : frm U f k := (a.mono h1).tr (b.mono h2)
theorem eX12_solve {G : Gx} {d : Nat} {σ : Hp} (hd : 5 ≤ d) {m n : Nat} {α : Nat → Int32} {B : Nat → Nat → Int32} {nb : Nat → Nat} (hM : MA σ σ m α B) (hp : α 2 = nI n) (hn : n ≤ 9) (hb : ∀ p, p < n → B 1 p = nI (nb p)) (hw : ∀ p, nb p < 512) (ho : ∀ j, j < 18 → B 8 j = nI (ordT j)) (hG : GOk α B nb n) {kd h : Nat} (hkd : kd < 3) (hh1 : 1 ≤ h) (hh : h ≤ 3) : Cl G mX12_solve d [.ref m, .int (nI kd), .int (nI h)] σ 0 0 (pV fun s => ∃ α1 B1, MA σ s m α1 B1 ∧ frm [19, 20, 32, 33] α α1 ∧ frm [7, 9, 10, 11, 12] B B1 ∧ α1 19 = nI kd ∧ α1 20 = nI h ∧ GSol α1 B1 nb n kd h) := by
  obtain ⟨d0, hdd⟩ : ∃ e, d = e + 1 := ⟨d - 1, by omega⟩
  refine cl_of (by decide) (by simp [Value.category]) (Nat.le_of_ble_eq_true rfl) ?_
  show Wp G mX12_solve d 0 [.ref m, .int (nI kd), .int (nI h), .double 0, .double 0, .double 0, .double 0] [] σ 0 0 _
  rcases hG with hk19 | ⟨k1, h1, hk1, hh11, hh13, hk19, hk20, hGS⟩
  ·
    refine wp_aload_n (atd dX12_solve 0 rfl) rfl rfl ?_
    refine wp_get fX12_26 (atd dX12_solve 1 rfl) hM.1.1 (congrArg (fun z => some (Value.int z)) hk19) ?_
    refine wp_iload_n (atd dX12_solve 2 rfl) rfl ?_
    refine wp_icmp_ne (tgt := 17) (atd dX12_solve 3 rfl) (by decide) (fun c_5 => ?_) (fun c_5 => ?_)
    ·
      refine wp_aload_n (atd dX12_solve 9 rfl) rfl rfl ?_
      refine wp_iload_n (atd dX12_solve 10 rfl) rfl ?_
      refine wp_iload_n (atd dX12_solve 11 rfl) rfl ?_
      refine wp_cVv hdd [_, _] (atd dX12_solve 12 rfl) iX12_layGoing lX12_249 rfl rfl (Nat.le_of_ble_eq_true rfl) hM.1.1 rfl (eX12_layGoing (by omega) hM hp hn hb hw hh1 hh hkd ho) (fun s_20 h_20 => ?_)
      obtain ⟨α1, B1, hM1, hfa1, hfb1, g33, g32, gR, gcg⟩ := h_20
      have hM := hM.trans hM1
      refine wp_aload_n (atd dX12_solve 13 rfl) rfl rfl ?_
      refine wp_iload_n (atd dX12_solve 14 rfl) rfl ?_
      refine wp_putM fX12_26 (atd dX12_solve 15 rfl) hM rfl (fun σ hM => ?_)
      refine wp_aload_n (atd dX12_solve 16 rfl) rfl rfl ?_
      refine wp_iload_n (atd dX12_solve 17 rfl) rfl ?_
      refine wp_putM fX12_246 (atd dX12_solve 18 rfl) hM rfl (fun σ hM => ?_)
      refine wp_iconst (v := nI 0) (atd dX12_solve 19 rfl) (by decide) ?_
      refine wp_istore_n (atd dX12_solve 20 rfl) (Nat.le_of_ble_eq_true rfl) ?_
      have hfb0 := hfb1
      refine lX12_solve4 (F := rowsL h n) (α := upd (upd α1 19 (nI kd)) 20 (nI h)) (B0 := B1) (by omega) ((hfa1 2 (by decide)).trans hp) hn (fun p hpn => by rw [hfb1 1 (by decide)]; exact hb p hpn) hw g32 hh hkd (rowsL_len n (by omega) h (by omega)) gR (rowsL_in hn hh) gcg (fun σ2 B2 e3 e4 e5 e6 hM hfb2 hw0 => ?_) (rowsL h n).length _ B1 0 _ _ _ hM frm.rf (fun x y hx => absurd hx (Nat.not_lt_zero x)) (by omega)
      refine wp_iconst (v := nI 1) (atd dX12_solve 53 rfl) (by decide) ?_
      refine wp_istore_n (atd dX12_solve 54 rfl) (Nat.le_of_ble_eq_true rfl) ?_
      refine wp_post (oX12_solve (F := rowsL h n) (α := upd (upd α1 19 (nI kd)) 20 (nI h)) (B0 := B1) (v := slvF nb n h kd) (by omega) ((hfa1 2 (by decide)).trans hp) hn (fun p hpn => by rw [hfb1 1 (by decide)]; exact hb p hpn) hw g32 hh hkd (rowsL_len n (by omega) h (by omega)) gR (rowsL_in hn hh) gcg 2000 _ B2 (w0 h (rowsL h n)) 0 _ _ _ hM (hfb2.mono (by decide)) hw0 (w0_WB h _ n) (by omega) (by have h1 := nc_bound (w := w0 h (rowsL h n)) (n := n) (R := (rowsL h n).length); have h2 := rowsL_len n (by omega) h (by omega); have h3 : (rowsL h n).length * n ≤ 165 * 9 := Nat.mul_le_mul h2 hn; omega) rfl) ?_
      rintro v s ⟨rfl, B3, hM3, hfb3, g10, g11, gwb⟩
      refine ⟨rfl, _, B3, hM3, ((hfa1.mono (by decide)).up (by decide)).up (by decide), frm_sub hfb1 hfb3 (by decide) (by decide), rfl, rfl, g33, g32, fun i hi => by rw [hfb3 7 (by decide), hfb3 12 (by decide)]; exact gR i hi, fun x y hx hy => by rw [hfb3 9 (by decide)]; exact gcg x y hx hy, g10, g11, gwb⟩
    · exact absurd (Classical.not_not.mp c_5).symm (nI_m1 (by omega))
  ·
    refine wp_aload_n (atd dX12_solve 0 rfl) rfl rfl ?_
    refine wp_get fX12_26 (atd dX12_solve 1 rfl) hM.1.1 (congrArg (fun z => some (Value.int z)) hk19) ?_
    refine wp_iload_n (atd dX12_solve 2 rfl) rfl ?_
    refine wp_icmpN_ne (tgt := 17) (atd dX12_solve 3 rfl) (by decide) (by omega) (by omega) (fun c_5 => ?_) (fun c_5 => ?_)
    ·
      refine wp_aload_n (atd dX12_solve 9 rfl) rfl rfl ?_
      refine wp_iload_n (atd dX12_solve 10 rfl) rfl ?_
      refine wp_iload_n (atd dX12_solve 11 rfl) rfl ?_
      refine wp_cVv hdd [_, _] (atd dX12_solve 12 rfl) iX12_layGoing lX12_249 rfl rfl (Nat.le_of_ble_eq_true rfl) hM.1.1 rfl (eX12_layGoing (by omega) hM hp hn hb hw hh1 hh hkd ho) (fun s_20 h_20 => ?_)
      obtain ⟨α1, B1, hM1, hfa1, hfb1, g33, g32, gR, gcg⟩ := h_20
      have hM := hM.trans hM1
      refine wp_aload_n (atd dX12_solve 13 rfl) rfl rfl ?_
      refine wp_iload_n (atd dX12_solve 14 rfl) rfl ?_
      refine wp_putM fX12_26 (atd dX12_solve 15 rfl) hM rfl (fun σ hM => ?_)
      refine wp_aload_n (atd dX12_solve 16 rfl) rfl rfl ?_
      refine wp_iload_n (atd dX12_solve 17 rfl) rfl ?_
      refine wp_putM fX12_246 (atd dX12_solve 18 rfl) hM rfl (fun σ hM => ?_)
      refine wp_iconst (v := nI 0) (atd dX12_solve 19 rfl) (by decide) ?_
      refine wp_istore_n (atd dX12_solve 20 rfl) (Nat.le_of_ble_eq_true rfl) ?_
      have hfb0 := hfb1
      refine lX12_solve4 (F := rowsL h n) (α := upd (upd α1 19 (nI kd)) 20 (nI h)) (B0 := B1) (by omega) ((hfa1 2 (by decide)).trans hp) hn (fun p hpn => by rw [hfb1 1 (by decide)]; exact hb p hpn) hw g32 hh hkd (rowsL_len n (by omega) h (by omega)) gR (rowsL_in hn hh) gcg (fun σ2 B2 e3 e4 e5 e6 hM hfb2 hw0 => ?_) (rowsL h n).length _ B1 0 _ _ _ hM frm.rf (fun x y hx => absurd hx (Nat.not_lt_zero x)) (by omega)
      refine wp_iconst (v := nI 1) (atd dX12_solve 53 rfl) (by decide) ?_
      refine wp_istore_n (atd dX12_solve 54 rfl) (Nat.le_of_ble_eq_true rfl) ?_
      refine wp_post (oX12_solve (F := rowsL h n) (α := upd (upd α1 19 (nI kd)) 20 (nI h)) (B0 := B1) (v := slvF nb n h kd) (by omega) ((hfa1 2 (by decide)).trans hp) hn (fun p hpn => by rw [hfb1 1 (by decide)]; exact hb p hpn) hw g32 hh hkd (rowsL_len n (by omega) h (by omega)) gR (rowsL_in hn hh) gcg 2000 _ B2 (w0 h (rowsL h n)) 0 _ _ _ hM (hfb2.mono (by decide)) hw0 (w0_WB h _ n) (by omega) (by have h1 := nc_bound (w := w0 h (rowsL h n)) (n := n) (R := (rowsL h n).length); have h2 := rowsL_len n (by omega) h (by omega); have h3 : (rowsL h n).length * n ≤ 165 * 9 := Nat.mul_le_mul h2 hn; omega) rfl) ?_
      rintro v s ⟨rfl, B3, hM3, hfb3, g10, g11, gwb⟩
      refine ⟨rfl, _, B3, hM3, ((hfa1.mono (by decide)).up (by decide)).up (by decide), frm_sub hfb1 hfb3 (by decide) (by decide), rfl, rfl, g33, g32, fun i hi => by rw [hfb3 7 (by decide), hfb3 12 (by decide)]; exact gR i hi, fun x y hx hy => by rw [hfb3 9 (by decide)]; exact gcg x y hx hy, g10, g11, gwb⟩
    ·
      refine wp_aload_n (atd dX12_solve 4 rfl) rfl rfl ?_
      refine wp_get fX12_246 (atd dX12_solve 5 rfl) hM.1.1 (congrArg (fun z => some (Value.int z)) hk20) ?_
      refine wp_iload_n (atd dX12_solve 6 rfl) rfl ?_
      refine wp_icmpN_ne (tgt := 17) (atd dX12_solve 7 rfl) (by decide) (by omega) (by omega) (fun c_13 => ?_) (fun c_13 => ?_)
      ·
        refine wp_aload_n (atd dX12_solve 9 rfl) rfl rfl ?_
        refine wp_iload_n (atd dX12_solve 10 rfl) rfl ?_
        refine wp_iload_n (atd dX12_solve 11 rfl) rfl ?_
        refine wp_cVv hdd [_, _] (atd dX12_solve 12 rfl) iX12_layGoing lX12_249 rfl rfl (Nat.le_of_ble_eq_true rfl) hM.1.1 rfl (eX12_layGoing (by omega) hM hp hn hb hw hh1 hh hkd ho) (fun s_20 h_20 => ?_)
        obtain ⟨α1, B1, hM1, hfa1, hfb1, g33, g32, gR, gcg⟩ := h_20
        have hM := hM.trans hM1
        refine wp_aload_n (atd dX12_solve 13 rfl) rfl rfl ?_
        refine wp_iload_n (atd dX12_solve 14 rfl) rfl ?_
        refine wp_putM fX12_26 (atd dX12_solve 15 rfl) hM rfl (fun σ hM => ?_)
        refine wp_aload_n (atd dX12_solve 16 rfl) rfl rfl ?_
        refine wp_iload_n (atd dX12_solve 17 rfl) rfl ?_
        refine wp_putM fX12_246 (atd dX12_solve 18 rfl) hM rfl (fun σ hM => ?_)
        refine wp_iconst (v := nI 0) (atd dX12_solve 19 rfl) (by decide) ?_
        refine wp_istore_n (atd dX12_solve 20 rfl) (Nat.le_of_ble_eq_true rfl) ?_
        have hfb0 := hfb1
        refine lX12_solve4 (F := rowsL h n) (α := upd (upd α1 19 (nI kd)) 20 (nI h)) (B0 := B1) (by omega) ((hfa1 2 (by decide)).trans hp) hn (fun p hpn => by rw [hfb1 1 (by decide)]; exact hb p hpn) hw g32 hh hkd (rowsL_len n (by omega) h (by omega)) gR (rowsL_in hn hh) gcg (fun σ2 B2 e3 e4 e5 e6 hM hfb2 hw0 => ?_) (rowsL h n).length _ B1 0 _ _ _ hM frm.rf (fun x y hx => absurd hx (Nat.not_lt_zero x)) (by omega)
        refine wp_iconst (v := nI 1) (atd dX12_solve 53 rfl) (by decide) ?_
        refine wp_istore_n (atd dX12_solve 54 rfl) (Nat.le_of_ble_eq_true rfl) ?_
        refine wp_post (oX12_solve (F := rowsL h n) (α := upd (upd α1 19 (nI kd)) 20 (nI h)) (B0 := B1) (v := slvF nb n h kd) (by omega) ((hfa1 2 (by decide)).trans hp) hn (fun p hpn => by rw [hfb1 1 (by decide)]; exact hb p hpn) hw g32 hh hkd (rowsL_len n (by omega) h (by omega)) gR (rowsL_in hn hh) gcg 2000 _ B2 (w0 h (rowsL h n)) 0 _ _ _ hM (hfb2.mono (by decide)) hw0 (w0_WB h _ n) (by omega) (by have h1 := nc_bound (w := w0 h (rowsL h n)) (n := n) (R := (rowsL h n).length); have h2 := rowsL_len n (by omega) h (by omega); have h3 : (rowsL h n).length * n ≤ 165 * 9 := Nat.mul_le_mul h2 hn; omega) rfl) ?_
        rintro v s ⟨rfl, B3, hM3, hfb3, g10, g11, gwb⟩
        refine ⟨rfl, _, B3, hM3, ((hfa1.mono (by decide)).up (by decide)).up (by decide), frm_sub hfb1 hfb3 (by decide) (by decide), rfl, rfl, g33, g32, fun i hi => by rw [hfb3 7 (by decide), hfb3 12 (by decide)]; exact gR i hi, fun x y hx hy => by rw [hfb3 9 (by decide)]; exact gcg x y hx hy, g10, g11, gwb⟩
      ·
        refine wp_vretv (atd dX12_solve 8 rfl) rfl ?_
        subst c_5
        subst c_13
        exact ⟨α, B, hM, frm.rf, frm.rf, hk19, hk20, hGS⟩
