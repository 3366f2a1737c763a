/-! other nets made of the net -/
theorem rcd_up {α : Nat → Int32} {B : Nat → Nat → Int32} {k : Nat} {x : Int32} (hk : k ≠ 2) (hk2 : k < 46 ∨ 54 < k) {j : Nat} (hj : j < 19) : rcd (upd α k x) B j = rcd α B j := by
  unfold rcd
  split
  · exact if_neg (fun e => hk e.symm)
  · split
    · rfl
    · exact if_neg (by omega)
theorem rcd_cg {α α1 : Nat → Int32} {B B1 : Nat → Nat → Int32} {S T : List Nat} (h : frm S α α1) (h2 : frm T B B1) (hS : ∀ k, (k = 2 ∨ (46 ≤ k ∧ k ≤ 54)) → k ∉ S) (hT : 1 ∉ T) {j : Nat} (hj : j < 19) : rcd α1 B1 j = rcd α B j := by
  unfold rcd
  split
  · exact h 2 (hS 2 (Or.inl rfl))
  · split
    · rw [h2 1 hT]
    · exact h _ (hS _ (Or.inr (by omega)))
/-- the state behind an act that makes another net -/
def KP (B : Nat → Nat → Int32) (a : Nat) (rc : Nat → Int32) (B1 : Nat → Nat → Int32) : Prop := REC rc (fun x => if a = 12 then B 18 (x + 20) else B 18 x) (if a = 12 then 11 else a) 19 B1
def ka (a : Nat) : Nat := (if a = 12 then 11 else a) + 1
theorem REC.cg {rc rc2 old : Nat → Int32} {a k : Nat} {B B1 : Nat → Nat → Int32} (h : REC rc old a k B) (e : B1 18 = B 18) (h2 : ∀ j, j < k → rc2 j = rc j) : REC rc2 old a k B1 := ⟨fun j hj => by rw [e, h2 j hj]; exact h.1 j hj, fun x hx => by rw [e]; exact h.2 x hx⟩
theorem eX12_toggle {G : Gx} {d : Nat} {σ : Hp} (hd : 2 ≤ d) {m n : Nat} {α : Nat → Int32} {B : Nat → Nat → Int32} {nb : Nat → Nat} (hM : MA σ σ m α B) (hp : α 2 = nI n) (hn : n ≤ 9) (hb : ∀ p, p < n → B 1 p = nI (nb p)) (hw : ∀ p, nb p < 512) {a on : Nat} (ha : a ≤ 12) (h57 : α 57 = nI a) (h46 : α 46 = nI on) (hon : on ≤ 1) {a1 a2 : Int32} : Cl G mX12_toggle d [.ref m, .int a1, .int a2] σ 0 0 (pI fun r s => r = atP a1 n (fun p => atP a2 n (fun q => if p = q then -1 else bI ((nbt nb p q p).testBit q = true)) (-1)) (-1) ∧ ((¬ (isP a1 n ∧ isP a2 n ∧ a1 ≠ a2) ∧ MA σ s m (upd α 0 (nI 0)) B) ∨ ((isP a1 n ∧ isP a2 n ∧ a1 ≠ a2) ∧ ∃ α1 B1, MA σ s m α1 B1 ∧ frm [0, 2, 17, 18, 19, 21, 24, 25, 46, 57] α α1 ∧ frm [1, 5, 6, 18, 19] B B1 ∧ α1 0 = nI 0 ∧ α1 2 = nI (n) ∧ α1 17 = nI 0 ∧ α1 18 = nI 0 ∧ α1 19 = -1 ∧ α1 21 = nI 0 ∧ α1 46 = nI 0 ∧ α1 57 = nI (ka a) ∧ (∀ x, x < n → B1 1 x = nI ((nbt nb a1.toNatClampNeg a2.toNatClampNeg) x)) ∧ KP B a (rcd α B) B1))) := by
  obtain ⟨d0, hdd⟩ : ∃ e, d = e + 1 := ⟨d - 1, by omega⟩
  refine cl_of (by decide) (by simp [Value.category]) (Nat.le_of_ble_eq_true rfl) ?_
  show Wp G mX12_toggle d 0 [.ref m, .int a1, .int a2] [] σ 0 0 _
  refine wp_aload_n (atd dX12_toggle 0 rfl) rfl rfl ?_
  refine wp_iconst (v := nI 0) (atd dX12_toggle 1 rfl) (by decide) ?_
  refine wp_putM fX12_75 (atd dX12_toggle 2 rfl) hM rfl (fun σ hM => ?_)
  refine wp_aload_n (atd dX12_toggle 3 rfl) rfl rfl ?_
  refine wp_iload_n (atd dX12_toggle 4 rfl) rfl ?_
  refine wp_cVi hdd [_] (atd dX12_toggle 5 rfl) iX12_isPlace lX12_181 rfl rfl (Nat.le_of_ble_eq_true rfl) hM.1.1 rfl (eX12_isPlace (by omega) hM.self hp hn) (fun r_7 s_7 h_7 => ?_)
  obtain ⟨rfl, rfl⟩ := h_7
  refine wp_ifB_eq (tgt := 26) (atd dX12_toggle 6 rfl) (by decide) (fun c_10 => ?_) (fun c_10 => ?_)
  ·
    refine wp_iconst (v := -1) (atd dX12_toggle 14 rfl) (by decide) ?_
    refine wp_ireti (atd dX12_toggle 15 rfl) rfl ?_
    exact ⟨by rw [atP_f c_10], Or.inl ⟨fun z => c_10 z.1, hM⟩⟩
  ·
    obtain ⟨p, hp1, rfl⟩ := isP_of hn c_10
    refine wp_aload_n (atd dX12_toggle 7 rfl) rfl rfl ?_
    refine wp_iload_n (atd dX12_toggle 8 rfl) rfl ?_
    refine wp_cVi hdd [_] (atd dX12_toggle 9 rfl) iX12_isPlace lX12_181 rfl rfl (Nat.le_of_ble_eq_true rfl) hM.1.1 rfl (eX12_isPlace (by omega) hM.self hp hn) (fun r_15 s_15 h_15 => ?_)
    obtain ⟨rfl, rfl⟩ := h_15
    refine wp_ifB_eq (tgt := 26) (atd dX12_toggle 10 rfl) (by decide) (fun c_18 => ?_) (fun c_18 => ?_)
    ·
      refine wp_iconst (v := -1) (atd dX12_toggle 14 rfl) (by decide) ?_
      refine wp_ireti (atd dX12_toggle 15 rfl) rfl ?_
      exact ⟨by rw [atP_t hn hp1, atP_f c_18], Or.inl ⟨fun z => c_18 z.2.1, hM⟩⟩
    ·
      obtain ⟨q, hq1, rfl⟩ := isP_of hn c_18
      refine wp_iload_n (atd dX12_toggle 11 rfl) rfl ?_
      refine wp_iload_n (atd dX12_toggle 12 rfl) rfl ?_
      refine wp_icmpN_ne (tgt := 28) (atd dX12_toggle 13 rfl) (by decide) (by omega) (by omega) (fun c_23 => ?_) (fun c_23 => ?_)
      ·
        refine wp_aload_n (atd dX12_toggle 16 rfl) rfl rfl ?_
        refine wp_cVv hdd [] (atd dX12_toggle 17 rfl) iX12_keep lX12_371 rfl rfl (Nat.le_of_ble_eq_true rfl) hM.1.1 rfl (eX12_keep (by omega) hM.self ha h57 h46 hon) (fun s_29 h_29 => ?_)
        obtain ⟨αk, Bk, hMk, hfak, hfbk, hk57, hkR⟩ := h_29
        have hM := hM.trans hMk
        refine wp_aload_n (atd dX12_toggle 18 rfl) rfl rfl ?_
        refine wp_iload_n (atd dX12_toggle 19 rfl) rfl ?_
        refine wp_iload_n (atd dX12_toggle 20 rfl) rfl ?_
        refine wp_cVv hdd [_, _] (atd dX12_toggle 21 rfl) iX12_turns lX12_308 rfl rfl (Nat.le_of_ble_eq_true rfl) hM.1.1 rfl (eX12_turns (by omega) hM.self ((hfak 2 (by decide)).trans hp) hn (fun x hx => by rw [hfbk 1 (by decide)]; exact hb x hx) hw hp1 hq1 c_23) (fun s_35 h_35 => ?_)
        obtain ⟨Bt, hMt, hfbt, hbt⟩ := h_35
        have hM := hM.trans hMt
        refine wp_aload_n (atd dX12_toggle 22 rfl) rfl rfl ?_
        refine wp_iconst (v := nI 0) (atd dX12_toggle 23 rfl) (by decide) ?_
        refine wp_putMz fX12_165 (atd dX12_toggle 24 rfl) hM rfl (by decide) (fun σ hM => ?_)
        refine wp_aload_n (atd dX12_toggle 25 rfl) rfl rfl ?_
        refine wp_cVv hdd [] (atd dX12_toggle 26 rfl) iX12_another lX12_169 rfl rfl (Nat.le_of_ble_eq_true rfl) hM.1.1 rfl (eX12_another (by omega) hM.self) (fun s_44 h_44 => ?_)
        have hM := hM.trans h_44
        refine wp_aload_n (atd dX12_toggle 27 rfl) rfl rfl ?_
        refine wp_get fX12_7 (atd dX12_toggle 28 rfl) hM.1.1 rfl ?_
        refine wp_iload_n (atd dX12_toggle 29 rfl) rfl ?_
        refine wp_ialdN (atd dX12_toggle 30 rfl) hM.a1 (show _ < 9 from by omega) (Nat.le_of_ble_eq_true rfl) ?_
        rw [hbt p hp1]
        refine wp_iload_n (atd dX12_toggle 31 rfl) rfl ?_
        refine wp_cSi hdd [_, _] (atd dX12_toggle 32 rfl) iX12_isOf lX12_149 rfl rfl (Nat.le_of_ble_eq_true rfl) (eX12_isOf (by omega) (by have := nbt_lt (p := p) (q := q) hw (by omega) (by omega) p; omega) (by omega)) (fun r_54 s_54 h_54 => ?_)
        obtain ⟨rfl, rfl⟩ := h_54
        refine wp_ifB_eq (tgt := 64) (atd dX12_toggle 33 rfl) (by decide) (fun c_57 => ?_) (fun c_57 => ?_)
        ·
          refine wp_iconst (v := nI 0) (atd dX12_toggle 36 rfl) (by decide) ?_
          refine wp_ireti (atd dX12_toggle 37 rfl) rfl ?_
          refine ⟨by rw [atP_t hn hp1, atP_t hn hq1, if_neg c_23, bI_f c_57], Or.inr ⟨⟨(isP_nI (by omega)).mpr hp1, (isP_nI (by omega)).mpr hq1, fun z => c_23 ((nI_eq (by omega) (by omega)).mp z)⟩, _, Bt, hM, (frm_sub (U := [0, 2, 17, 18, 19, 21, 24, 25, 46, 57]) (frm_sub (U := [0, 57]) (frm.up (f := α) (frm.rf (S := [0])) (by decide)) hfak (by decide) (by decide)) (((((((frm.rf (S := [17, 18, 19, 21, 46])).up (by decide)).up (by decide)).up (by decide)).up (by decide)).up (by decide)).up (by decide)) (by decide) (by decide)), frm_sub hfbk hfbt (by decide) (by decide), (hfak 0 (by decide)).trans rfl, (hfak 2 (by decide)).trans hp, rfl, rfl, rfl, rfl, rfl, hk57, fun x hx => ?_, hkR.cg (hfbt 18 (by decide)) (fun j hj => (rcd_up (by decide) (by decide) hj).symm)⟩⟩
          show _ = nI (nbt nb (nI p).toNatClampNeg (nI q).toNatClampNeg x)
          rw [nI_clamp (by omega), nI_clamp (by omega)]
          exact hbt x hx
        ·
          refine wp_iconst (v := nI 1) (atd dX12_toggle 34 rfl) (by decide) ?_
          refine wp_goto (tgt := 65) (atd dX12_toggle 35 rfl) (by decide) ?_
          refine wp_ireti (atd dX12_toggle 37 rfl) rfl ?_
          refine ⟨by rw [atP_t hn hp1, atP_t hn hq1, if_neg c_23, bI_t c_57], Or.inr ⟨⟨(isP_nI (by omega)).mpr hp1, (isP_nI (by omega)).mpr hq1, fun z => c_23 ((nI_eq (by omega) (by omega)).mp z)⟩, _, Bt, hM, (frm_sub (U := [0, 2, 17, 18, 19, 21, 24, 25, 46, 57]) (frm_sub (U := [0, 57]) (frm.up (f := α) (frm.rf (S := [0])) (by decide)) hfak (by decide) (by decide)) (((((((frm.rf (S := [17, 18, 19, 21, 46])).up (by decide)).up (by decide)).up (by decide)).up (by decide)).up (by decide)).up (by decide)) (by decide) (by decide)), frm_sub hfbk hfbt (by decide) (by decide), (hfak 0 (by decide)).trans rfl, (hfak 2 (by decide)).trans hp, rfl, rfl, rfl, rfl, rfl, hk57, fun x hx => ?_, hkR.cg (hfbt 18 (by decide)) (fun j hj => (rcd_up (by decide) (by decide) hj).symm)⟩⟩
          show _ = nI (nbt nb (nI p).toNatClampNeg (nI q).toNatClampNeg x)
          rw [nI_clamp (by omega), nI_clamp (by omega)]
          exact hbt x hx
      ·
        refine wp_iconst (v := -1) (atd dX12_toggle 14 rfl) (by decide) ?_
        refine wp_ireti (atd dX12_toggle 15 rfl) rfl ?_
        exact ⟨by rw [atP_t hn hp1, atP_t hn hq1, if_pos c_23], Or.inl ⟨fun z => z.2.2 (by rw [c_23]), hM⟩⟩
theorem wp_ishlN {G : Gx} {M : Md} {d pc : Nat} {L st : List Value} {σ : Hp} {mc ms : Nat} {Q : Option Value → Hp → Prop} {a j : Nat} (hd : decode M.2.1 pc = .ok (.ishl, 1)) (hj : j < 32) (h : a * 2 ^ j < 2 ^ 32) (k : Wp G M d (pc + 1) L (.int (nI (a * 2 ^ j)) :: st) σ mc ms Q) : Wp G M d pc L (.int (nI j) :: .int (nI a) :: st) σ mc ms Q := wp_ishl hd (by rw [nx_shl hj h]; exact k)
def cmpG (L w q : Nat) (x : Nat × Nat) : Nat × Nat := if L.testBit q = true then (x.1 ||| (if w.testBit q = true then 2 ^ x.2 else 0), x.2 + 1) else x
def cmpF (L w n : Nat) : Nat := (fl (cmpG L w) n 0 (0, 0)).1
def blG (L n : Nat) (w : Nat → Nat) (p : Nat) (x : Nat × (Nat → Nat)) : Nat × (Nat → Nat) := if L.testBit p = true then (x.1 + 1, va_up x.2 x.1 (cmpF L (w p) n)) else x
def blF (L n : Nat) (w : Nat → Nat) : Nat × (Nat → Nat) := fl (blG L n w) n 0 (0, fun _ => 0)
theorem lX12_becomeLeft1 {G : Gx} {d : Nat} {Q : Option Value → Hp → Prop} {σ0 : Hp} {m n L : Nat} {α : Nat → Int32} {B0 : Nat → Nat → Int32} {w : Nat → Nat} (hd : 1 ≤ d) (hn : n ≤ 9) (h25 : α 25 = nI L) (hL : L < 512) (hw0 : ∀ p, p < n → B0 19 p = nI (w p)) (hw : ∀ p, w p < 512) {σ : Hp} {B : Nat → Nat → Int32} {k p : Nat} {v : Nat × Nat} (hM : MA σ0 σ m α B) (hfb : frm [1] B0 B) (hp : p < n) (hk : ∀ e5 e6 : Value, v.1 < 512 → Wp G mX12_becomeLeft d 86 [.ref m, .int (nI n), .int (nI k), .int (nI p), .int (nI v.1), e5, e6] [] σ 0 0 Q) : ∀ (f q s i : Nat), q + f = n → s < 512 → i ≤ q → fl (cmpG L (w p)) f q (s, i) = v → Wp G mX12_becomeLeft d 32 [.ref m, .int (nI n), .int (nI k), .int (nI p), .int (nI s), .int (nI i), .int (nI q)] [] σ 0 0 Q := by
  obtain ⟨d0, hdd⟩ : ∃ e, d = e + 1 := ⟨d - 1, by omega⟩
  have hwp := hw p
  have hB19 : B 19 p = nI (w p) := by rw [hfb 19 (by decide)]; exact hw0 p hp
  intro f
  induction f with
  | zero =>
    intro q s i hq hs hi hv
    have e : v = (s, i) := hv.symm
    subst e
    refine wp_iload (atd dX12_becomeLeft 19 rfl) rfl ?_
    refine wp_iload_n (atd dX12_becomeLeft 20 rfl) rfl ?_
    refine wp_icmpN_ge (tgt := 86) (atd dX12_becomeLeft 21 rfl) (by decide) (by omega) (by omega) (fun c_35 => ?_) (fun c_35 => ?_)
    ·
      exact hk _ _ hs
    · exfalso; omega
  | succ f ih =>
    intro q s i hq hs hi hv
    refine wp_iload (atd dX12_becomeLeft 19 rfl) rfl ?_
    refine wp_iload_n (atd dX12_becomeLeft 20 rfl) rfl ?_
    refine wp_icmpN_ge (tgt := 86) (atd dX12_becomeLeft 21 rfl) (by decide) (by omega) (by omega) (fun c_35 => ?_) (fun c_35 => ?_)
    · exfalso; omega
    ·
      refine wp_aload_n (atd dX12_becomeLeft 22 rfl) rfl rfl ?_
      refine wp_get fX12_206 (atd dX12_becomeLeft 23 rfl) hM.1.1 (congrArg (fun z => some (Value.int z)) h25) ?_
      refine wp_iload (atd dX12_becomeLeft 24 rfl) rfl ?_
      refine wp_cSi hdd [_, _] (atd dX12_becomeLeft 25 rfl) iX12_isOf lX12_149 rfl rfl (Nat.le_of_ble_eq_true rfl) (eX12_isOf (by omega) (by omega) (by omega)) (fun r_44 s_44 h_44 => ?_)
      obtain ⟨rfl, rfl⟩ := h_44
      refine wp_ifB_eq (tgt := 80) (atd dX12_becomeLeft 26 rfl) (by decide) (fun c_47 => ?_) (fun c_47 => ?_)
      ·
        refine wp_iincN (c := 1) (atd dX12_becomeLeft 43 rfl) rfl ?_
        refine wp_goto (tgt := 32) (atd dX12_becomeLeft 44 rfl) (by decide) ?_
        exact ih (q + 1) s i (by omega) hs (by omega) (by rw [← hv]; show _ = fl (cmpG L (w p)) f (q + 1) (cmpG L (w p) q (s, i)); rw [show cmpG L (w p) q (s, i) = (s, i) from if_neg c_47])
      ·
        refine wp_iload (atd dX12_becomeLeft 27 rfl) rfl ?_
        refine wp_aload_n (atd dX12_becomeLeft 28 rfl) rfl rfl ?_
        refine wp_get fX12_72 (atd dX12_becomeLeft 29 rfl) hM.1.1 rfl ?_
        refine wp_iload_n (atd dX12_becomeLeft 30 rfl) rfl ?_
        refine wp_ialdN (atd dX12_becomeLeft 31 rfl) hM.a19 (show _ < 9 from by omega) (Nat.le_of_ble_eq_true rfl) ?_
        rw [hB19]
        refine wp_iload (atd dX12_becomeLeft 32 rfl) rfl ?_
        refine wp_cSi hdd [_, _] (atd dX12_becomeLeft 33 rfl) iX12_isOf lX12_149 rfl rfl (Nat.le_of_ble_eq_true rfl) (eX12_isOf (by omega) (by omega) (by omega)) (fun r_60 s_60 h_60 => ?_)
        obtain ⟨rfl, rfl⟩ := h_60
        refine wp_ifB_eq (tgt := 73) (atd dX12_becomeLeft 34 rfl) (by decide) (fun c_63 => ?_) (fun c_63 => ?_)
        ·
          refine wp_iconst (v := nI 0) (atd dX12_becomeLeft 39 rfl) (by decide) ?_
          refine wp_iorN (atd dX12_becomeLeft 40 rfl) ?_
          refine wp_istore (atd dX12_becomeLeft 41 rfl) (Nat.le_of_ble_eq_true rfl) ?_
          refine wp_iincN (c := 1) (atd dX12_becomeLeft 42 rfl) rfl ?_
          refine wp_iincN (c := 1) (atd dX12_becomeLeft 43 rfl) rfl ?_
          refine wp_goto (tgt := 32) (atd dX12_becomeLeft 44 rfl) (by decide) ?_
          exact ih (q + 1) (s ||| 0) (i + 1) (by omega) (or_lt9 hs (by decide)) (by omega) (by rw [← hv]; show _ = fl (cmpG L (w p)) f (q + 1) (cmpG L (w p) q (s, i)); rw [show cmpG L (w p) q (s, i) = (s ||| 0, i + 1) from by unfold cmpG; rw [if_pos c_47, if_neg c_63]])
        ·
          refine wp_iconst (v := nI 1) (atd dX12_becomeLeft 35 rfl) (by decide) ?_
          refine wp_iload (atd dX12_becomeLeft 36 rfl) rfl ?_
          refine wp_ishl1 (atd dX12_becomeLeft 37 rfl) (by omega) ?_
          refine wp_goto (tgt := 74) (atd dX12_becomeLeft 38 rfl) (by decide) ?_
          refine wp_iorN (atd dX12_becomeLeft 40 rfl) ?_
          refine wp_istore (atd dX12_becomeLeft 41 rfl) (Nat.le_of_ble_eq_true rfl) ?_
          refine wp_iincN (c := 1) (atd dX12_becomeLeft 42 rfl) rfl ?_
          refine wp_iincN (c := 1) (atd dX12_becomeLeft 43 rfl) rfl ?_
          refine wp_goto (tgt := 32) (atd dX12_becomeLeft 44 rfl) (by decide) ?_
          exact ih (q + 1) (s ||| 2 ^ i) (i + 1) (by omega) (or_lt9 hs (pow_lt9 (by omega))) (by omega) (by rw [← hv]; show _ = fl (cmpG L (w p)) f (q + 1) (cmpG L (w p) q (s, i)); rw [show cmpG L (w p) q (s, i) = (s ||| 2 ^ i, i + 1) from by unfold cmpG; rw [if_pos c_47, if_pos c_63]])
theorem lX12_becomeLeft {G : Gx} {d : Nat} {σ0 : Hp} {m n L : Nat} {α : Nat → Int32} {B0 : Nat → Nat → Int32} {w : Nat → Nat} (hd : 1 ≤ d) (hn : n ≤ 9) (h25 : α 25 = nI L) (hL : L < 512) (hw0 : ∀ p, p < n → B0 19 p = nI (w p)) (hw : ∀ p, w p < 512) {v : Nat × (Nat → Nat)} : ∀ (f : Nat) (σ : Hp) (B : Nat → Nat → Int32) (p k : Nat) (g : Nat → Nat) (e4 e5 e6 : Value), MA σ0 σ m α B → frm [1] B0 B → (∀ x, x < k → B 1 x = nI (g x)) → k ≤ p → p + f = n → fl (blG L n w) f p (k, g) = v → Wp G mX12_becomeLeft d 4 [.ref m, .int (nI n), .int (nI k), .int (nI p), e4, e5, e6] [] σ 0 0 (pV fun s => ∃ B1, MA σ0 s m α B1 ∧ frm [1] B0 B1 ∧ ∀ x, x < v.1 → B1 1 x = nI (v.2 x)) := by
  obtain ⟨d0, hdd⟩ : ∃ e, d = e + 1 := ⟨d - 1, by omega⟩
  intro f
  induction f with
  | zero =>
    intro σ B p k g e4 e5 e6 hM hfb hx hkp hpf hv
    have e : v = (k, g) := hv.symm
    subst e
    refine wp_iload_n (atd dX12_becomeLeft 4 rfl) rfl ?_
    refine wp_iload_n (atd dX12_becomeLeft 5 rfl) rfl ?_
    refine wp_icmpN_ge (tgt := 103) (atd dX12_becomeLeft 6 rfl) (by decide) (by omega) (by omega) (fun c_6 => ?_) (fun c_6 => ?_)
    ·
      refine wp_vretv (atd dX12_becomeLeft 53 rfl) rfl ?_
      exact ⟨B, hM, hfb, hx⟩
    · exfalso; omega
  | succ f ih =>
    intro σ B p k g e4 e5 e6 hM hfb hx hkp hpf hv
    refine wp_iload_n (atd dX12_becomeLeft 4 rfl) rfl ?_
    refine wp_iload_n (atd dX12_becomeLeft 5 rfl) rfl ?_
    refine wp_icmpN_ge (tgt := 103) (atd dX12_becomeLeft 6 rfl) (by decide) (by omega) (by omega) (fun c_6 => ?_) (fun c_6 => ?_)
    · exfalso; omega
    ·
      refine wp_aload_n (atd dX12_becomeLeft 7 rfl) rfl rfl ?_
      refine wp_get fX12_206 (atd dX12_becomeLeft 8 rfl) hM.1.1 (congrArg (fun z => some (Value.int z)) h25) ?_
      refine wp_iload_n (atd dX12_becomeLeft 9 rfl) rfl ?_
      refine wp_cSi hdd [_, _] (atd dX12_becomeLeft 10 rfl) iX12_isOf lX12_149 rfl rfl (Nat.le_of_ble_eq_true rfl) (eX12_isOf (by omega) (by omega) (by omega)) (fun r_14 s_14 h_14 => ?_)
      obtain ⟨rfl, rfl⟩ := h_14
      refine wp_ifB_ne (tgt := 23) (atd dX12_becomeLeft 11 rfl) (by decide) (fun c_17 => ?_) (fun c_17 => ?_)
      ·
        refine wp_iconst (v := nI 0) (atd dX12_becomeLeft 13 rfl) (by decide) ?_
        refine wp_istore (atd dX12_becomeLeft 14 rfl) (Nat.le_of_ble_eq_true rfl) ?_
        refine wp_iconst (v := nI 0) (atd dX12_becomeLeft 15 rfl) (by decide) ?_
        refine wp_istore (atd dX12_becomeLeft 16 rfl) (Nat.le_of_ble_eq_true rfl) ?_
        refine wp_iconst (v := nI 0) (atd dX12_becomeLeft 17 rfl) (by decide) ?_
        refine wp_istore (atd dX12_becomeLeft 18 rfl) (Nat.le_of_ble_eq_true rfl) ?_
        refine lX12_becomeLeft1 (v := fl (cmpG L (w p)) n 0 (0, 0)) hd hn h25 hL hw0 hw hM hfb (p := p) (by omega) (fun e5 e6 hv5 => ?_) n 0 0 0 (by omega) (by decide) (by omega) rfl
        refine wp_aload_n (atd dX12_becomeLeft 45 rfl) rfl rfl ?_
        refine wp_get fX12_7 (atd dX12_becomeLeft 46 rfl) hM.1.1 rfl ?_
        refine wp_iload_n (atd dX12_becomeLeft 47 rfl) rfl ?_
        refine wp_iload (atd dX12_becomeLeft 48 rfl) rfl ?_
        refine wp_iastM (j := 1) (atd dX12_becomeLeft 49 rfl) hM (by decide) (by decide) rfl (show _ < 9 from by omega) (fun σ hM => ?_)
        refine wp_iincN (c := 1) (atd dX12_becomeLeft 50 rfl) rfl ?_
        refine wp_iincN (c := 1) (atd dX12_becomeLeft 51 rfl) rfl ?_
        refine wp_goto (tgt := 4) (atd dX12_becomeLeft 52 rfl) (by decide) ?_
        refine ih _ _ (p + 1) (k + 1) (va_up g k (cmpF L (w p) n)) _ _ _ hM (hfb.va (by decide)) (fun x hxk => ?_) (by omega) (by omega) (by rw [← hv]; show _ = fl (blG L n w) f (p + 1) (blG L n w p (k, g)); rw [show blG L n w p (k, g) = (k + 1, va_up g k (cmpF L (w p) n)) from if_pos c_17])
        show upd (B 1) k (nI (cmpF L (w p) n)) x = nI (va_up g k (cmpF L (w p) n) x)
        unfold upd va_up
        by_cases e : x = k
        · rw [if_pos e, if_pos e]
        · rw [if_neg e, if_neg e]; exact hx x (by omega)
      ·
        refine wp_goto (tgt := 97) (atd dX12_becomeLeft 12 rfl) (by decide) ?_
        refine wp_iincN (c := 1) (atd dX12_becomeLeft 51 rfl) rfl ?_
        refine wp_goto (tgt := 4) (atd dX12_becomeLeft 52 rfl) (by decide) ?_
        exact ih _ B (p + 1) k g _ _ _ hM hfb hx (by omega) (by omega) (by rw [← hv]; show _ = fl (blG L n w) f (p + 1) (blG L n w p (k, g)); rw [show blG L n w p (k, g) = (k, g) from if_neg c_17])
theorem eX12_becomeLeft {G : Gx} {d : Nat} {σ : Hp} (hd : 1 ≤ d) {m n L : Nat} {α : Nat → Int32} {B : Nat → Nat → Int32} {w : Nat → Nat} (hM : MA σ σ m α B) (hn : n ≤ 9) (h25 : α 25 = nI L) (hL : L < 512) (hw0 : ∀ p, p < n → B 19 p = nI (w p)) (hw : ∀ p, w p < 512) : Cl G mX12_becomeLeft d [.ref m, .int (nI n)] σ 0 0 (pV fun s => ∃ B1, MA σ s m α B1 ∧ frm [1] B B1 ∧ ∀ x, x < (blF L n w).1 → B1 1 x = nI ((blF L n w).2 x)) := by
  obtain ⟨d0, hdd⟩ : ∃ e, d = e + 1 := ⟨d - 1, by omega⟩
  refine cl_of (by decide) (by simp [Value.category]) (Nat.le_of_ble_eq_true rfl) ?_
  show Wp G mX12_becomeLeft d 0 [.ref m, .int (nI n), .double 0, .double 0, .double 0, .double 0, .double 0] [] σ 0 0 _
  refine wp_iconst (v := nI 0) (atd dX12_becomeLeft 0 rfl) (by decide) ?_
  refine wp_istore_n (atd dX12_becomeLeft 1 rfl) (Nat.le_of_ble_eq_true rfl) ?_
  refine wp_iconst (v := nI 0) (atd dX12_becomeLeft 2 rfl) (by decide) ?_
  refine wp_istore_n (atd dX12_becomeLeft 3 rfl) (Nat.le_of_ble_eq_true rfl) ?_
  exact lX12_becomeLeft hd hn h25 hL hw0 hw n _ B 0 0 (fun _ => 0) _ _ _ hM frm.rf (fun x hx => absurd hx (Nat.not_lt_zero x)) (by omega) (by omega) rfl
def trnN (nb : Nat → Nat) (n p : Nat) : Nat := if p < n then dif (2 ^ n - 1) (nb p) ||| 2 ^ p else 0
def twiN (nb : Nat → Nat) (n p : Nat) : Nat := if p < n then nb p ||| 2 ^ (n + p) else if p < 2 * n then nb (p - n) * 2 ^ n ||| 2 ^ (p - n) else 0
def becN (nb : Nat → Nat) (n w : Nat) : Nat := if w = 0 then cnt (dis0 nb n).1 else if w = 1 then n else 2 * n
def becF (nb : Nat → Nat) (n w : Nat) : Nat → Nat := if w = 0 then (blF (dis0 nb n).1 n nb).2 else if w = 1 then trnN nb n else twiN nb n
theorem lX12_becomeW {G : Gx} {d : Nat} {Q : Option Value → Hp → Prop} {σ0 : Hp} {m n : Nat} {α : Nat → Int32} {B0 : Nat → Nat → Int32} {nb : Nat → Nat} {e1 e3 : Value} (hn : n ≤ 9) (hp : α 2 = nI n) (hb0 : ∀ p, p < n → B0 1 p = nI (nb p)) (hk : ∀ (σ : Hp) (B : Nat → Nat → Int32) (e2 : Value), MA σ0 σ m α B → frm [19] B0 B → (∀ p, p < n → B 19 p = nI (nb p)) → Wp G mX12_become d 85 [.ref m, e1, e2, e3] [] σ 0 0 Q) : ∀ (f : Nat) (σ : Hp) (B : Nat → Nat → Int32) (p : Nat), MA σ0 σ m α B → frm [19] B0 B → (∀ x, x < p → x < n → B 19 x = nI (nb x)) → p + f = 9 → Wp G mX12_become d 49 [.ref m, e1, .int (nI p), e3] [] σ 0 0 Q := by
  intro f
  induction f with
  | zero =>
    intro σ B p hM hfb hx hpf
    refine wp_iload_n (atd dX12_become 28 rfl) rfl ?_
    refine wp_bipush (v := nI 9) (atd dX12_become 29 rfl) (by decide) ?_
    refine wp_icmpN_ge (tgt := 85) (atd dX12_become 30 rfl) (by decide) (by omega) (by omega) (fun c_52 => ?_) (fun c_52 => ?_)
    ·
      exact hk _ B _ hM hfb (fun p hpn => hx p (by omega) hpn)
    · exfalso; omega
  | succ f ih =>
    intro σ B p hM hfb hx hpf
    refine wp_iload_n (atd dX12_become 28 rfl) rfl ?_
    refine wp_bipush (v := nI 9) (atd dX12_become 29 rfl) (by decide) ?_
    refine wp_icmpN_ge (tgt := 85) (atd dX12_become 30 rfl) (by decide) (by omega) (by omega) (fun c_52 => ?_) (fun c_52 => ?_)
    · exfalso; omega
    ·
      refine wp_aload_n (atd dX12_become 31 rfl) rfl rfl ?_
      refine wp_get fX12_72 (atd dX12_become 32 rfl) hM.1.1 rfl ?_
      refine wp_iload_n (atd dX12_become 33 rfl) rfl ?_
      refine wp_iload_n (atd dX12_become 34 rfl) rfl ?_
      refine wp_aload_n (atd dX12_become 35 rfl) rfl rfl ?_
      refine wp_get fX12_78 (atd dX12_become 36 rfl) hM.1.1 (congrArg (fun z => some (Value.int z)) hp) ?_
      refine wp_icmpN_ge (tgt := 77) (atd dX12_become 37 rfl) (by decide) (by omega) (by omega) (fun c_65 => ?_) (fun c_65 => ?_)
      ·
        refine wp_iconst (v := nI 0) (atd dX12_become 43 rfl) (by decide) ?_
        refine wp_iastM (j := 19) (atd dX12_become 44 rfl) hM (by decide) (by decide) rfl (show _ < 9 from by omega) (fun σ hM => ?_)
        refine wp_iincN (c := 1) (atd dX12_become 45 rfl) rfl ?_
        refine wp_goto (tgt := 49) (atd dX12_become 46 rfl) (by decide) ?_
        refine ih _ _ (p + 1) hM (hfb.va (by decide)) (fun x h1 h2 => ?_) (by omega)
        show upd (B 19) p (nI 0) x = _
        by_cases e : x = p
        · rw [show upd (B 19) p (nI 0) x = nI 0 from if_pos e]
          exfalso; omega
        · rw [show upd (B 19) p (nI 0) x = B 19 x from if_neg e]; exact hx x (by omega) h2
      ·
        refine wp_aload_n (atd dX12_become 38 rfl) rfl rfl ?_
        refine wp_get fX12_7 (atd dX12_become 39 rfl) hM.1.1 rfl ?_
        refine wp_iload_n (atd dX12_become 40 rfl) rfl ?_
        refine wp_ialdN (atd dX12_become 41 rfl) hM.a1 (show _ < 9 from by omega) (Nat.le_of_ble_eq_true rfl) ?_
        refine wp_goto (tgt := 78) (atd dX12_become 42 rfl) (by decide) ?_
        refine wp_iastM (j := 19) (atd dX12_become 44 rfl) hM (by decide) (by decide) rfl (show _ < 9 from by omega) (fun σ hM => ?_)
        refine wp_iincN (c := 1) (atd dX12_become 45 rfl) rfl ?_
        refine wp_goto (tgt := 49) (atd dX12_become 46 rfl) (by decide) ?_
        refine ih _ _ (p + 1) hM (hfb.va (by decide)) (fun x h1 h2 => ?_) (by omega)
        show upd (B 19) p (B 1 p) x = _
        by_cases e : x = p
        · rw [show upd (B 19) p (B 1 p) x = B 1 p from if_pos e]
          rw [e, hfb 1 (by decide)]; exact hb0 p (by omega)
        · rw [show upd (B 19) p (B 1 p) x = B 19 x from if_neg e]; exact hx x (by omega) h2
theorem lX12_become1 {G : Gx} {d : Nat} {Q : Option Value → Hp → Prop} {σ0 : Hp} {m n : Nat} {α : Nat → Int32} {B0 : Nat → Nat → Int32} {nb : Nat → Nat} (hd : 1 ≤ d) (hn : n ≤ 9) (hp : α 2 = nI n) (hw : ∀ p, nb p < 512) (hb0 : ∀ p, p < n → B0 19 p = nI (nb p)) (hk : ∀ (σ : Hp) (B : Nat → Nat → Int32) (e3 : Value), MA σ0 σ m α B → frm [1] B0 B → (∀ x, x < n → B 1 x = nI (trnN nb n x)) → Wp G mX12_become d 184 [.ref m, .int (nI 1), .int (nI n), e3] [] σ 0 0 Q) : ∀ (f : Nat) (σ : Hp) (B : Nat → Nat → Int32) (p : Nat), MA σ0 σ m α B → frm [1] B0 B → (∀ x, x < p → B 1 x = nI (trnN nb n x)) → p + f = n → Wp G mX12_become d 101 [.ref m, .int (nI 1), .int (nI n), .int (nI p)] [] σ 0 0 Q := by
  obtain ⟨d0, hdd⟩ : ∃ e, d = e + 1 := ⟨d - 1, by omega⟩
  intro f
  induction f with
  | zero =>
    intro σ B p hM hfb hx hpf
    refine wp_iload_n (atd dX12_become 57 rfl) rfl ?_
    refine wp_iload_n (atd dX12_become 58 rfl) rfl ?_
    refine wp_icmpN_ge (tgt := 184) (atd dX12_become 59 rfl) (by decide) (by omega) (by omega) (fun c_103 => ?_) (fun c_103 => ?_)
    ·
      exact hk _ B _ hM hfb (fun x hxn => hx x (by omega))
    · exfalso; omega
  | succ f ih =>
    intro σ B p hM hfb hx hpf
    have hwp := hw p
    have hB19 : B 19 p = nI (nb p) := by rw [hfb 19 (by decide)]; exact hb0 p (by omega)
    refine wp_iload_n (atd dX12_become 57 rfl) rfl ?_
    refine wp_iload_n (atd dX12_become 58 rfl) rfl ?_
    refine wp_icmpN_ge (tgt := 184) (atd dX12_become 59 rfl) (by decide) (by omega) (by omega) (fun c_103 => ?_) (fun c_103 => ?_)
    · exfalso; omega
    ·
      refine wp_iload_n (atd dX12_become 60 rfl) rfl ?_
      refine wp_ifN_le (tgt := 184) (atd dX12_become 61 rfl) (by decide) (by omega) (fun c_107 => ?_) (fun c_107 => ?_)
      · exfalso; omega
      ·
        refine wp_aload_n (atd dX12_become 62 rfl) rfl rfl ?_
        refine wp_get fX12_7 (atd dX12_become 63 rfl) hM.1.1 rfl ?_
        refine wp_iload_n (atd dX12_become 64 rfl) rfl ?_
        refine wp_iload_n (atd dX12_become 65 rfl) rfl ?_
        refine wp_iconst (v := nI 1) (atd dX12_become 66 rfl) (by decide) ?_
        refine wp_icmpN_ne (tgt := 140) (atd dX12_become 67 rfl) (by decide) (by omega) (by omega) (fun c_117 => ?_) (fun c_117 => ?_)
        · exfalso; omega
        ·
          refine wp_aload_n (atd dX12_become 68 rfl) rfl rfl ?_
          refine wp_cVi hdd [] (atd dX12_become 69 rfl) iX12_allPlaces lX12_191 rfl rfl (Nat.le_of_ble_eq_true rfl) hM.1.1 rfl (eX12_allPlaces (by omega) hM.self hp hn) (fun r_121 s_121 h_121 => ?_)
          obtain ⟨rfl, rfl⟩ := h_121
          refine wp_aload_n (atd dX12_become 70 rfl) rfl rfl ?_
          refine wp_get fX12_72 (atd dX12_become 71 rfl) hM.1.1 rfl ?_
          refine wp_iload_n (atd dX12_become 72 rfl) rfl ?_
          refine wp_ialdN (atd dX12_become 73 rfl) hM.a19 (show _ < 9 from by omega) (Nat.le_of_ble_eq_true rfl) ?_
          rw [hB19]
          refine wp_iconst (v := -1) (atd dX12_become 74 rfl) (by decide) ?_
          refine wp_ixor (atd dX12_become 75 rfl) ?_
          refine wp_iandC (atd dX12_become 76 rfl) ?_
          refine wp_iconst (v := nI 1) (atd dX12_become 77 rfl) (by decide) ?_
          refine wp_iload_n (atd dX12_become 78 rfl) rfl ?_
          refine wp_ishl1 (atd dX12_become 79 rfl) (by omega) ?_
          refine wp_iorN (atd dX12_become 80 rfl) ?_
          refine wp_goto (tgt := 152) (atd dX12_become 81 rfl) (by decide) ?_
          refine wp_iastM (j := 1) (atd dX12_become 92 rfl) hM (by decide) (by decide) rfl (show _ < 9 from by omega) (fun σ hM => ?_)
          refine wp_iload_n (atd dX12_become 93 rfl) rfl ?_
          refine wp_iconst (v := nI 2) (atd dX12_become 94 rfl) (by decide) ?_
          refine wp_icmpN_ne (tgt := 178) (atd dX12_become 95 rfl) (by decide) (by omega) (by omega) (fun c_155 => ?_) (fun c_155 => ?_)
          ·
            refine wp_iincN (c := 1) (atd dX12_become 112 rfl) rfl ?_
            refine wp_goto (tgt := 101) (atd dX12_become 113 rfl) (by decide) ?_
            refine ih _ _ (p + 1) hM (hfb.va (by decide)) (fun x hxp => ?_) (by omega)
            show upd (B 1) p (nI (dif (2 ^ n - 1) (nb p) ||| 2 ^ p)) x = _
            by_cases e : x = p
            · subst e; rw [show upd (B 1) x (nI (dif (2 ^ n - 1) (nb x) ||| 2 ^ x)) x = _ from if_pos rfl]; unfold trnN; rw [if_pos (by omega)]
            · rw [show upd (B 1) p (nI (dif (2 ^ n - 1) (nb p) ||| 2 ^ p)) x = B 1 x from if_neg e]; exact hx x (by omega)
          · exfalso; omega
theorem lX12_become2 {G : Gx} {d : Nat} {Q : Option Value → Hp → Prop} {σ0 : Hp} {m n : Nat} {α : Nat → Int32} {B0 : Nat → Nat → Int32} {nb : Nat → Nat} (hd : 1 ≤ d) (hn : n ≤ 9) (hp : α 2 = nI n) (hw : ∀ p, nb p < 512) (hb0 : ∀ p, p < n → B0 19 p = nI (nb p)) (hn4 : n ≤ 4) (hk : ∀ (σ : Hp) (B : Nat → Nat → Int32) (e3 : Value), MA σ0 σ m α B → frm [1] B0 B → (∀ x, x < 2 * n → B 1 x = nI (twiN nb n x)) → Wp G mX12_become d 184 [.ref m, .int (nI 2), .int (nI n), e3] [] σ 0 0 Q) : ∀ (f : Nat) (σ : Hp) (B : Nat → Nat → Int32) (p : Nat), MA σ0 σ m α B → frm [1] B0 B → (∀ x, x < p → B 1 x = nI (twiN nb n x)) → (∀ x, n ≤ x → x < n + p → B 1 x = nI (twiN nb n x)) → p + f = n → Wp G mX12_become d 101 [.ref m, .int (nI 2), .int (nI n), .int (nI p)] [] σ 0 0 Q := by
  obtain ⟨d0, hdd⟩ : ∃ e, d = e + 1 := ⟨d - 1, by omega⟩
  intro f
  induction f with
  | zero =>
    intro σ B p hM hfb hx hy hpf
    refine wp_iload_n (atd dX12_become 57 rfl) rfl ?_
    refine wp_iload_n (atd dX12_become 58 rfl) rfl ?_
    refine wp_icmpN_ge (tgt := 184) (atd dX12_become 59 rfl) (by decide) (by omega) (by omega) (fun c_103 => ?_) (fun c_103 => ?_)
    ·
      exact hk _ B _ hM hfb (fun x hxn => if h : x < n then hx x (by omega) else hy x (by omega) (by omega))
    · exfalso; omega
  | succ f ih =>
    intro σ B p hM hfb hx hy hpf
    have hwp := hw p
    have hB19 : B 19 p = nI (nb p) := by rw [hfb 19 (by decide)]; exact hb0 p (by omega)
    refine wp_iload_n (atd dX12_become 57 rfl) rfl ?_
    refine wp_iload_n (atd dX12_become 58 rfl) rfl ?_
    refine wp_icmpN_ge (tgt := 184) (atd dX12_become 59 rfl) (by decide) (by omega) (by omega) (fun c_103 => ?_) (fun c_103 => ?_)
    · exfalso; omega
    ·
      refine wp_iload_n (atd dX12_become 60 rfl) rfl ?_
      refine wp_ifN_le (tgt := 184) (atd dX12_become 61 rfl) (by decide) (by omega) (fun c_107 => ?_) (fun c_107 => ?_)
      · exfalso; omega
      ·
        refine wp_aload_n (atd dX12_become 62 rfl) rfl rfl ?_
        refine wp_get fX12_7 (atd dX12_become 63 rfl) hM.1.1 rfl ?_
        refine wp_iload_n (atd dX12_become 64 rfl) rfl ?_
        refine wp_iload_n (atd dX12_become 65 rfl) rfl ?_
        refine wp_iconst (v := nI 1) (atd dX12_become 66 rfl) (by decide) ?_
        refine wp_icmpN_ne (tgt := 140) (atd dX12_become 67 rfl) (by decide) (by omega) (by omega) (fun c_117 => ?_) (fun c_117 => ?_)
        ·
          refine wp_aload_n (atd dX12_become 82 rfl) rfl rfl ?_
          refine wp_get fX12_72 (atd dX12_become 83 rfl) hM.1.1 rfl ?_
          refine wp_iload_n (atd dX12_become 84 rfl) rfl ?_
          refine wp_ialdN (atd dX12_become 85 rfl) hM.a19 (show _ < 9 from by omega) (Nat.le_of_ble_eq_true rfl) ?_
          rw [hB19]
          refine wp_iconst (v := nI 1) (atd dX12_become 86 rfl) (by decide) ?_
          refine wp_iload_n (atd dX12_become 87 rfl) rfl ?_
          refine wp_iload_n (atd dX12_become 88 rfl) rfl ?_
          refine wp_iaddN (atd dX12_become 89 rfl) ?_
          refine wp_ishl1 (atd dX12_become 90 rfl) (by omega) ?_
          refine wp_iorN (atd dX12_become 91 rfl) ?_
          refine wp_iastM (j := 1) (atd dX12_become 92 rfl) hM (by decide) (by decide) rfl (show _ < 9 from by omega) (fun σ hM => ?_)
          refine wp_iload_n (atd dX12_become 93 rfl) rfl ?_
          refine wp_iconst (v := nI 2) (atd dX12_become 94 rfl) (by decide) ?_
          refine wp_icmpN_ne (tgt := 178) (atd dX12_become 95 rfl) (by decide) (by omega) (by omega) (fun c_155 => ?_) (fun c_155 => ?_)
          · exfalso; omega
          ·
            refine wp_aload_n (atd dX12_become 96 rfl) rfl rfl ?_
            refine wp_get fX12_7 (atd dX12_become 97 rfl) hM.1.1 rfl ?_
            refine wp_iload_n (atd dX12_become 98 rfl) rfl ?_
            refine wp_iload_n (atd dX12_become 99 rfl) rfl ?_
            refine wp_iaddN (atd dX12_become 100 rfl) ?_
            refine wp_aload_n (atd dX12_become 101 rfl) rfl rfl ?_
            refine wp_get fX12_72 (atd dX12_become 102 rfl) hM.1.1 rfl ?_
            refine wp_iload_n (atd dX12_become 103 rfl) rfl ?_
            refine wp_ialdN (atd dX12_become 104 rfl) hM.a19 (show _ < 9 from by omega) (Nat.le_of_ble_eq_true rfl) ?_
            rw [show va_up B 1 _ 19 p = nI (nb p) from hB19]
            refine wp_iload_n (atd dX12_become 105 rfl) rfl ?_
            refine wp_ishlN (atd dX12_become 106 rfl) (by omega) (by have h1 : (2 : Nat) ^ n ≤ 2 ^ 4 := Nat.pow_le_pow_right (by decide) hn4; have h2 : nb p * 2 ^ n ≤ 512 * 2 ^ 4 := Nat.mul_le_mul (by omega) h1; omega) ?_
            refine wp_iconst (v := nI 1) (atd dX12_become 107 rfl) (by decide) ?_
            refine wp_iload_n (atd dX12_become 108 rfl) rfl ?_
            refine wp_ishl1 (atd dX12_become 109 rfl) (by omega) ?_
            refine wp_iorN (atd dX12_become 110 rfl) ?_
            refine wp_iastM (j := 1) (atd dX12_become 111 rfl) hM (by decide) (by decide) rfl (show _ < 9 from by omega) (fun σ hM => ?_)
            refine wp_iincN (c := 1) (atd dX12_become 112 rfl) rfl ?_
            refine wp_goto (tgt := 101) (atd dX12_become 113 rfl) (by decide) ?_
            refine ih _ _ (p + 1) hM ((hfb.va (by decide)).va (by decide)) (fun x hxp => ?_) (fun x h1 h2 => ?_) (by omega)
            · show upd (upd (B 1) p (nI (nb p ||| 2 ^ (n + p)))) (n + p) (nI (nb p * 2 ^ n ||| 2 ^ p)) x = _
              rw [show upd (upd (B 1) p (nI (nb p ||| 2 ^ (n + p)))) (n + p) (nI (nb p * 2 ^ n ||| 2 ^ p)) x = upd (B 1) p (nI (nb p ||| 2 ^ (n + p))) x from if_neg (by omega)]
              by_cases e : x = p
              · subst e; rw [show upd (B 1) x (nI (nb x ||| 2 ^ (n + x))) x = _ from if_pos rfl]; unfold twiN; rw [if_pos (by omega)]
              · rw [show upd (B 1) p (nI (nb p ||| 2 ^ (n + p))) x = B 1 x from if_neg e]; exact hx x (by omega)
            · show upd (upd (B 1) p (nI (nb p ||| 2 ^ (n + p)))) (n + p) (nI (nb p * 2 ^ n ||| 2 ^ p)) x = _
              by_cases e : x = n + p
              · subst e; rw [show upd (upd (B 1) p (nI (nb p ||| 2 ^ (n + p)))) (n + p) (nI (nb p * 2 ^ n ||| 2 ^ p)) (n + p) = _ from if_pos rfl]; unfold twiN; rw [if_neg (by omega), if_pos (by omega), show n + p - n = p by omega]
              · rw [show upd (upd (B 1) p (nI (nb p ||| 2 ^ (n + p)))) (n + p) (nI (nb p * 2 ^ n ||| 2 ^ p)) x = upd (B 1) p (nI (nb p ||| 2 ^ (n + p))) x from if_neg e, show upd (B 1) p (nI (nb p ||| 2 ^ (n + p))) x = B 1 x from if_neg (by omega)]; exact hy x h1 (by omega)
        · exfalso; omega
theorem bl_1 {L n : Nat} {w : Nat → Nat} : ∀ (f p k : Nat) (g : Nat → Nat), (fl (blG L n w) f p (k, g)).1 = k + cnF L f p
  | 0, _, k, _ => rfl
  | f + 1, p, k, g => by
    show (fl (blG L n w) f (p + 1) (blG L n w p (k, g))).1 = _
    rw [cnF_s]
    unfold blG
    by_cases h : L.testBit p = true
    · rw [if_pos h, if_pos h]
      have := bl_1 (L := L) (n := n) (w := w) f (p + 1) (k + 1) (va_up g k (cmpF L (w p) n))
      rw [show fl (blG L n w) f (p + 1) (k + 1, va_up g k (cmpF L (w p) n)) = fl (blG L n w) f (p + 1) (k + 1, va_up g k (cmpF L (w p) n)) from rfl] at this
      show (fl (blG L n w) f (p + 1) (k + 1, va_up g k (cmpF L (w p) n))).1 = _
      rw [this]; omega
    · rw [if_neg h, if_neg h]
      have := bl_1 (L := L) (n := n) (w := w) f (p + 1) k g
      show (fl (blG L n w) f (p + 1) (k, g)).1 = _
      rw [this]; omega
theorem cnF_n : ∀ L, L < 512 → ∀ n, n < 10 → L < 2 ^ n → cnF L n 0 = cnt L := by decide +kernel
theorem blF_1 {L n : Nat} {w : Nat → Nat} (hn : n ≤ 9) (hL : L < 2 ^ n) : (blF L n w).1 = cnt L := by
  have h1 := bl_1 (L := L) (n := n) (w := w) n 0 0 (fun _ => 0)
  unfold blF
  rw [h1, cnF_n L (Nat.lt_of_lt_of_le hL (pow9 hn)) n (by omega) hL]
  omega
theorem eX12_become0 {G : Gx} {d : Nat} {σ : Hp} (hd : 3 ≤ d) {m n : Nat} {α : Nat → Int32} {B : Nat → Nat → Int32} {nb : Nat → Nat} (hM : MA σ σ m α B) (hp : α 2 = nI n) (hn : n ≤ 9) (hb : ∀ p, p < n → B 1 p = nI (nb p)) (hw : ∀ p, nb p < 512) (hds : DisOk α B nb n) {a on : Nat} (ha : a ≤ 12) (h57 : α 57 = nI a) (h46 : α 46 = nI on) (hon : on ≤ 1) (hn1 : 1 ≤ n) : Cl G mX12_become d [.ref m, .int (nI 0)] σ 0 0 (pI fun r s => r = nI (becN nb n 0) ∧ ∃ α1 B1, MA σ s m α1 B1 ∧ frm [0, 2, 17, 18, 19, 21, 24, 25, 46, 57] α α1 ∧ frm [1, 5, 6, 18, 19] B B1 ∧ α1 0 = nI 0 ∧ α1 2 = nI (becN nb n 0) ∧ α1 17 = nI 0 ∧ α1 18 = nI 0 ∧ α1 19 = -1 ∧ α1 21 = nI 0 ∧ α1 46 = nI 0 ∧ α1 57 = nI (ka a) ∧ (∀ x, x < becN nb n 0 → B1 1 x = nI ((becF nb n 0) x)) ∧ KP B a (rcd α B) B1) := by
  obtain ⟨d0, hdd⟩ : ∃ e, d = e + 1 := ⟨d - 1, by omega⟩
  refine cl_of (by decide) (by simp [Value.category]) (Nat.le_of_ble_eq_true rfl) ?_
  show Wp G mX12_become d 0 [.ref m, .int (nI 0), .double 0, .double 0] [] σ 0 0 _
  refine wp_aload_n (atd dX12_become 0 rfl) rfl rfl ?_
  refine wp_iconst (v := nI 0) (atd dX12_become 1 rfl) (by decide) ?_
  refine wp_putM fX12_75 (atd dX12_become 2 rfl) hM rfl (fun σ hM => ?_)
  refine wp_iload_n (atd dX12_become 3 rfl) rfl ?_
  refine wp_iconst (v := nI 0) (atd dX12_become 4 rfl) (by decide) ?_
  refine wp_iconst (v := nI 2) (atd dX12_become 5 rfl) (by decide) ?_
  refine wp_cSi hdd [_, _, _] (atd dX12_become 6 rfl) iX12_in lX12_81 rfl rfl (Nat.le_of_ble_eq_true rfl) (eX12_in (by omega)) (fun r_8 s_8 h_8 => ?_)
  obtain ⟨rfl, rfl⟩ := h_8
  rw [bI_t (by decide)]
  refine wp_ifN_eq (tgt := 37) (atd dX12_become 7 rfl) (by decide) (by omega) (fun c_11 => ?_) (fun c_11 => ?_)
  · exact absurd c_11 (by decide)
  ·
    refine wp_aload_n (atd dX12_become 8 rfl) rfl rfl ?_
    refine wp_get fX12_78 (atd dX12_become 9 rfl) hM.1.1 (congrArg (fun z => some (Value.int z)) hp) ?_
    refine wp_ifN_eq (tgt := 37) (atd dX12_become 10 rfl) (by decide) (by omega) (fun c_18 => ?_) (fun c_18 => ?_)
    · exfalso; omega
    ·
      refine wp_iload_n (atd dX12_become 11 rfl) rfl ?_
      refine wp_iconst (v := nI 2) (atd dX12_become 12 rfl) (by decide) ?_
      refine wp_icmpN_ne (tgt := 39) (atd dX12_become 13 rfl) (by decide) (by omega) (by omega) (fun c_23 => ?_) (fun c_23 => ?_)
      ·
        refine wp_aload_n (atd dX12_become 22 rfl) rfl rfl ?_
        refine wp_cVv hdd [] (atd dX12_become 23 rfl) iX12_dismantle lX12_203 rfl rfl (Nat.le_of_ble_eq_true rfl) hM.1.1 rfl (eX12_dismantle (by omega) hM.self hp hn hb hw hds) (fun s_40 h_40 => ?_)
        obtain ⟨αd, Bd, hMd, hfad, hfbd, hd17, hdr⟩ := h_40
        have hM := hM.trans hMd
        have hp2 : αd 2 = nI n := (hfad 2 (by decide)).trans hp
        refine wp_aload_n (atd dX12_become 24 rfl) rfl rfl ?_
        refine wp_cVv hdd [] (atd dX12_become 25 rfl) iX12_keep lX12_371 rfl rfl (Nat.le_of_ble_eq_true rfl) hM.1.1 rfl (eX12_keep (by omega) hM.self ha ((hfad 57 (by decide)).trans h57) ((hfad 46 (by decide)).trans h46) hon) (fun s_44 h_44 => ?_)
        obtain ⟨αk, Bk, hMk, hfak, hfbk, hk57, hkR⟩ := h_44
        have hM := hM.trans hMk
        have hp3 : αk 2 = nI n := (hfak 2 (by decide)).trans hp2
        have h25 : αk 25 = nI (dis0 nb n).1 := (hfak 25 (by decide)).trans hdr.1
        have hLn := (dis0_lt nb hn).1
        have hL9 : (dis0 nb n).1 < 512 := Nat.lt_of_lt_of_le hLn (pow9 hn)
        refine wp_iconst (v := nI 0) (atd dX12_become 26 rfl) (by decide) ?_
        refine wp_istore_n (atd dX12_become 27 rfl) (Nat.le_of_ble_eq_true rfl) ?_
        refine lX12_becomeW (nb := nb) (B0 := Bk) hn hp3 (fun p hpn => by rw [hfbk 1 (by decide), hfbd 1 (by decide)]; exact hb p hpn) (fun σ2 Bw e2 hM hfbw hw19 => ?_) 9 _ Bk 0 hM frm.rf (fun x hx => absurd hx (Nat.not_lt_zero x)) (by omega)
        refine wp_aload_n (atd dX12_become 47 rfl) rfl rfl ?_
        refine wp_get fX12_78 (atd dX12_become 48 rfl) hM.1.1 (congrArg (fun z => some (Value.int z)) hp3) ?_
        refine wp_istore_n (atd dX12_become 49 rfl) (Nat.le_of_ble_eq_true rfl) ?_
        refine wp_iload_n (atd dX12_become 50 rfl) rfl ?_
        refine wp_ifN_ne (tgt := 99) (atd dX12_become 51 rfl) (by decide) (by omega) (fun c_91 => ?_) (fun c_91 => ?_)
        · exact absurd c_91 (by decide)
        ·
          refine wp_aload_n (atd dX12_become 52 rfl) rfl rfl ?_
          refine wp_iload_n (atd dX12_become 53 rfl) rfl ?_
          refine wp_cVv hdd [_] (atd dX12_become 54 rfl) iX12_becomeLeft lX12_395 rfl rfl (Nat.le_of_ble_eq_true rfl) hM.1.1 rfl (eX12_becomeLeft (w := nb) (by omega) hM.self hn h25 hL9 hw19 hw) (fun s_96 h_96 => ?_)
          obtain ⟨Bn, hMn, hfbn, hbn⟩ := h_96
          have hM := hM.trans hMn
          refine wp_iconst (v := nI 0) (atd dX12_become 55 rfl) (by decide) ?_
          refine wp_istore_n (atd dX12_become 56 rfl) (Nat.le_of_ble_eq_true rfl) ?_
          refine wp_iload_n (atd dX12_become 57 rfl) rfl ?_
          refine wp_iload_n (atd dX12_become 58 rfl) rfl ?_
          refine wp_icmpN_ge (tgt := 184) (atd dX12_become 59 rfl) (by decide) (by omega) (by omega) (fun c_103 => ?_) (fun c_103 => ?_)
          · exfalso; omega
          ·
            refine wp_iload_n (atd dX12_become 60 rfl) rfl ?_
            refine wp_ifN_le (tgt := 184) (atd dX12_become 61 rfl) (by decide) (by omega) (fun c_107 => ?_) (fun c_107 => ?_)
            ·
              refine wp_aload_n (atd dX12_become 114 rfl) rfl rfl ?_
              refine wp_iload_n (atd dX12_become 115 rfl) rfl ?_
              refine wp_ifN_ne (tgt := 199) (atd dX12_become 116 rfl) (by decide) (by omega) (fun c_186 => ?_) (fun c_186 => ?_)
              · exact absurd c_186 (by decide)
              ·
                refine wp_aload_n (atd dX12_become 117 rfl) rfl rfl ?_
                refine wp_get fX12_206 (atd dX12_become 118 rfl) hM.1.1 (congrArg (fun z => some (Value.int z)) h25) ?_
                refine wp_cSi hdd [_] (atd dX12_become 119 rfl) iX12_many lX12_188 rfl rfl (Nat.le_of_ble_eq_true rfl) (eX12_many (by omega) (by omega)) (fun r_193 s_193 h_193 => ?_)
                obtain ⟨rfl, rfl⟩ := h_193
                refine wp_goto (tgt := 211) (atd dX12_become 120 rfl) (by decide) ?_
                refine wp_putM fX12_78 (atd dX12_become 129 rfl) hM rfl (fun σ hM => ?_)
                refine wp_aload_n (atd dX12_become 130 rfl) rfl rfl ?_
                refine wp_iconst (v := nI 0) (atd dX12_become 131 rfl) (by decide) ?_
                refine wp_putMz fX12_165 (atd dX12_become 132 rfl) hM rfl (by decide) (fun σ hM => ?_)
                refine wp_aload_n (atd dX12_become 133 rfl) rfl rfl ?_
                refine wp_cVv hdd [] (atd dX12_become 134 rfl) iX12_another lX12_169 rfl rfl (Nat.le_of_ble_eq_true rfl) hM.1.1 rfl (eX12_another (by omega) hM.self) (fun s_220 h_220 => ?_)
                have hM := hM.trans h_220
                refine wp_aload_n (atd dX12_become 135 rfl) rfl rfl ?_
                refine wp_get fX12_78 (atd dX12_become 136 rfl) hM.1.1 (congrArg (fun z => some (Value.int z)) (rfl : _ = nI (cnt (dis0 nb n).1))) ?_
                refine wp_ireti (atd dX12_become 137 rfl) rfl ?_
                have hkR2 : KP B a (rcd α B) Bn := by
                  have h1 := hkR.cg (B1 := Bn) (rc2 := rcd α B) (by rw [hfbn 18 (by decide), hfbw 18 (by decide)]) (fun j hj => ((rcd_cg hfad hfbd (fun k hk => by simp only [List.mem_cons, List.not_mem_nil, or_false]; omega) (by decide) hj).trans (rcd_up (by decide) (by decide) hj)).symm)
                  unfold KP
                  rw [hfbd 18 (by decide)] at h1
                  exact h1
                refine ⟨rfl, _, Bn, hM, (frm_sub (U := [0, 2, 17, 18, 19, 21, 24, 25, 46, 57]) (frm_sub (U := [0, 17, 24, 25, 57]) (frm_sub (U := [0, 17, 24, 25]) (frm.up (f := α) (frm.rf (S := [0])) (by decide)) hfad (by decide) (by decide)) hfak (by decide) (by decide)) (((((((frm.rf (S := [2, 17, 18, 19, 21, 46])).up (by decide)).up (by decide)).up (by decide)).up (by decide)).up (by decide)).up (by decide)) (by decide) (by decide)), (frm_sub (U := [1, 5, 6, 18, 19]) (frm_sub (U := [5, 6, 18, 19]) (frm_sub (U := [5, 6, 18]) hfbd hfbk (by decide) (by decide)) hfbw (by decide) (by decide)) hfbn (by decide) (by decide)), (hfak 0 (by decide)).trans ((hfad 0 (by decide)).trans rfl), rfl, rfl, rfl, rfl, rfl, rfl, hk57, fun x hx => ?_, hkR2⟩
                exact hbn x (by rw [blF_1 hn hLn]; exact hx)
            · exact absurd c_107 (by decide)
      · exfalso; omega
theorem eX12_become1 {G : Gx} {d : Nat} {σ : Hp} (hd : 3 ≤ d) {m n : Nat} {α : Nat → Int32} {B : Nat → Nat → Int32} {nb : Nat → Nat} (hM : MA σ σ m α B) (hp : α 2 = nI n) (hn : n ≤ 9) (hb : ∀ p, p < n → B 1 p = nI (nb p)) (hw : ∀ p, nb p < 512) (hds : DisOk α B nb n) {a on : Nat} (ha : a ≤ 12) (h57 : α 57 = nI a) (h46 : α 46 = nI on) (hon : on ≤ 1) (hn1 : 1 ≤ n) : Cl G mX12_become d [.ref m, .int (nI 1)] σ 0 0 (pI fun r s => r = nI (becN nb n 1) ∧ ∃ α1 B1, MA σ s m α1 B1 ∧ frm [0, 2, 17, 18, 19, 21, 24, 25, 46, 57] α α1 ∧ frm [1, 5, 6, 18, 19] B B1 ∧ α1 0 = nI 0 ∧ α1 2 = nI (becN nb n 1) ∧ α1 17 = nI 0 ∧ α1 18 = nI 0 ∧ α1 19 = -1 ∧ α1 21 = nI 0 ∧ α1 46 = nI 0 ∧ α1 57 = nI (ka a) ∧ (∀ x, x < becN nb n 1 → B1 1 x = nI ((becF nb n 1) x)) ∧ KP B a (rcd α B) B1) := by
  obtain ⟨d0, hdd⟩ : ∃ e, d = e + 1 := ⟨d - 1, by omega⟩
  refine cl_of (by decide) (by simp [Value.category]) (Nat.le_of_ble_eq_true rfl) ?_
  show Wp G mX12_become d 0 [.ref m, .int (nI 1), .double 0, .double 0] [] σ 0 0 _
  refine wp_aload_n (atd dX12_become 0 rfl) rfl rfl ?_
  refine wp_iconst (v := nI 0) (atd dX12_become 1 rfl) (by decide) ?_
  refine wp_putM fX12_75 (atd dX12_become 2 rfl) hM rfl (fun σ hM => ?_)
  refine wp_iload_n (atd dX12_become 3 rfl) rfl ?_
  refine wp_iconst (v := nI 0) (atd dX12_become 4 rfl) (by decide) ?_
  refine wp_iconst (v := nI 2) (atd dX12_become 5 rfl) (by decide) ?_
  refine wp_cSi hdd [_, _, _] (atd dX12_become 6 rfl) iX12_in lX12_81 rfl rfl (Nat.le_of_ble_eq_true rfl) (eX12_in (by omega)) (fun r_8 s_8 h_8 => ?_)
  obtain ⟨rfl, rfl⟩ := h_8
  rw [bI_t (by decide)]
  refine wp_ifN_eq (tgt := 37) (atd dX12_become 7 rfl) (by decide) (by omega) (fun c_11 => ?_) (fun c_11 => ?_)
  · exact absurd c_11 (by decide)
  ·
    refine wp_aload_n (atd dX12_become 8 rfl) rfl rfl ?_
    refine wp_get fX12_78 (atd dX12_become 9 rfl) hM.1.1 (congrArg (fun z => some (Value.int z)) hp) ?_
    refine wp_ifN_eq (tgt := 37) (atd dX12_become 10 rfl) (by decide) (by omega) (fun c_18 => ?_) (fun c_18 => ?_)
    · exfalso; omega
    ·
      refine wp_iload_n (atd dX12_become 11 rfl) rfl ?_
      refine wp_iconst (v := nI 2) (atd dX12_become 12 rfl) (by decide) ?_
      refine wp_icmpN_ne (tgt := 39) (atd dX12_become 13 rfl) (by decide) (by omega) (by omega) (fun c_23 => ?_) (fun c_23 => ?_)
      ·
        refine wp_aload_n (atd dX12_become 22 rfl) rfl rfl ?_
        refine wp_cVv hdd [] (atd dX12_become 23 rfl) iX12_dismantle lX12_203 rfl rfl (Nat.le_of_ble_eq_true rfl) hM.1.1 rfl (eX12_dismantle (by omega) hM.self hp hn hb hw hds) (fun s_40 h_40 => ?_)
        obtain ⟨αd, Bd, hMd, hfad, hfbd, hd17, hdr⟩ := h_40
        have hM := hM.trans hMd
        have hp2 : αd 2 = nI n := (hfad 2 (by decide)).trans hp
        refine wp_aload_n (atd dX12_become 24 rfl) rfl rfl ?_
        refine wp_cVv hdd [] (atd dX12_become 25 rfl) iX12_keep lX12_371 rfl rfl (Nat.le_of_ble_eq_true rfl) hM.1.1 rfl (eX12_keep (by omega) hM.self ha ((hfad 57 (by decide)).trans h57) ((hfad 46 (by decide)).trans h46) hon) (fun s_44 h_44 => ?_)
        obtain ⟨αk, Bk, hMk, hfak, hfbk, hk57, hkR⟩ := h_44
        have hM := hM.trans hMk
        have hp3 : αk 2 = nI n := (hfak 2 (by decide)).trans hp2
        have h25 : αk 25 = nI (dis0 nb n).1 := (hfak 25 (by decide)).trans hdr.1
        have hLn := (dis0_lt nb hn).1
        have hL9 : (dis0 nb n).1 < 512 := Nat.lt_of_lt_of_le hLn (pow9 hn)
        refine wp_iconst (v := nI 0) (atd dX12_become 26 rfl) (by decide) ?_
        refine wp_istore_n (atd dX12_become 27 rfl) (Nat.le_of_ble_eq_true rfl) ?_
        refine lX12_becomeW (nb := nb) (B0 := Bk) hn hp3 (fun p hpn => by rw [hfbk 1 (by decide), hfbd 1 (by decide)]; exact hb p hpn) (fun σ2 Bw e2 hM hfbw hw19 => ?_) 9 _ Bk 0 hM frm.rf (fun x hx => absurd hx (Nat.not_lt_zero x)) (by omega)
        refine wp_aload_n (atd dX12_become 47 rfl) rfl rfl ?_
        refine wp_get fX12_78 (atd dX12_become 48 rfl) hM.1.1 (congrArg (fun z => some (Value.int z)) hp3) ?_
        refine wp_istore_n (atd dX12_become 49 rfl) (Nat.le_of_ble_eq_true rfl) ?_
        refine wp_iload_n (atd dX12_become 50 rfl) rfl ?_
        refine wp_ifN_ne (tgt := 99) (atd dX12_become 51 rfl) (by decide) (by omega) (fun c_91 => ?_) (fun c_91 => ?_)
        ·
          refine wp_iconst (v := nI 0) (atd dX12_become 55 rfl) (by decide) ?_
          refine wp_istore_n (atd dX12_become 56 rfl) (Nat.le_of_ble_eq_true rfl) ?_
          refine lX12_become1 (nb := nb) (B0 := Bw) (by omega) hn hp3 hw hw19 (fun σ3 Bn e3 hM hfbn hbn => ?_) n _ Bw 0 hM frm.rf (fun x hx => absurd hx (Nat.not_lt_zero x)) (by omega)
          refine wp_aload_n (atd dX12_become 114 rfl) rfl rfl ?_
          refine wp_iload_n (atd dX12_become 115 rfl) rfl ?_
          refine wp_ifN_ne (tgt := 199) (atd dX12_become 116 rfl) (by decide) (by omega) (fun c_186 => ?_) (fun c_186 => ?_)
          ·
            refine wp_iload_n (atd dX12_become 121 rfl) rfl ?_
            refine wp_iconst (v := nI 1) (atd dX12_become 122 rfl) (by decide) ?_
            refine wp_icmpN_ne (tgt := 208) (atd dX12_become 123 rfl) (by decide) (by omega) (by omega) (fun c_201 => ?_) (fun c_201 => ?_)
            · exfalso; omega
            ·
              refine wp_iload_n (atd dX12_become 124 rfl) rfl ?_
              refine wp_goto (tgt := 211) (atd dX12_become 125 rfl) (by decide) ?_
              refine wp_putM fX12_78 (atd dX12_become 129 rfl) hM rfl (fun σ hM => ?_)
              refine wp_aload_n (atd dX12_become 130 rfl) rfl rfl ?_
              refine wp_iconst (v := nI 0) (atd dX12_become 131 rfl) (by decide) ?_
              refine wp_putMz fX12_165 (atd dX12_become 132 rfl) hM rfl (by decide) (fun σ hM => ?_)
              refine wp_aload_n (atd dX12_become 133 rfl) rfl rfl ?_
              refine wp_cVv hdd [] (atd dX12_become 134 rfl) iX12_another lX12_169 rfl rfl (Nat.le_of_ble_eq_true rfl) hM.1.1 rfl (eX12_another (by omega) hM.self) (fun s_220 h_220 => ?_)
              have hM := hM.trans h_220
              refine wp_aload_n (atd dX12_become 135 rfl) rfl rfl ?_
              refine wp_get fX12_78 (atd dX12_become 136 rfl) hM.1.1 (congrArg (fun z => some (Value.int z)) (rfl : _ = nI n)) ?_
              refine wp_ireti (atd dX12_become 137 rfl) rfl ?_
              have hkR2 : KP B a (rcd α B) Bn := by
                have h1 := hkR.cg (B1 := Bn) (rc2 := rcd α B) (by rw [hfbn 18 (by decide), hfbw 18 (by decide)]) (fun j hj => ((rcd_cg hfad hfbd (fun k hk => by simp only [List.mem_cons, List.not_mem_nil, or_false]; omega) (by decide) hj).trans (rcd_up (by decide) (by decide) hj)).symm)
                unfold KP
                rw [hfbd 18 (by decide)] at h1
                exact h1
              refine ⟨rfl, _, Bn, hM, (frm_sub (U := [0, 2, 17, 18, 19, 21, 24, 25, 46, 57]) (frm_sub (U := [0, 17, 24, 25, 57]) (frm_sub (U := [0, 17, 24, 25]) (frm.up (f := α) (frm.rf (S := [0])) (by decide)) hfad (by decide) (by decide)) hfak (by decide) (by decide)) (((((((frm.rf (S := [2, 17, 18, 19, 21, 46])).up (by decide)).up (by decide)).up (by decide)).up (by decide)).up (by decide)).up (by decide)) (by decide) (by decide)), (frm_sub (U := [1, 5, 6, 18, 19]) (frm_sub (U := [5, 6, 18, 19]) (frm_sub (U := [5, 6, 18]) hfbd hfbk (by decide) (by decide)) hfbw (by decide) (by decide)) hfbn (by decide) (by decide)), (hfak 0 (by decide)).trans ((hfad 0 (by decide)).trans rfl), rfl, rfl, rfl, rfl, rfl, rfl, hk57, fun x hx => ?_, hkR2⟩
              exact hbn x hx
          · exact absurd c_186 (by decide)
        · exact absurd c_91 (by decide)
      · exfalso; omega
theorem eX12_become2 {G : Gx} {d : Nat} {σ : Hp} (hd : 3 ≤ d) {m n : Nat} {α : Nat → Int32} {B : Nat → Nat → Int32} {nb : Nat → Nat} (hM : MA σ σ m α B) (hp : α 2 = nI n) (hn : n ≤ 9) (hb : ∀ p, p < n → B 1 p = nI (nb p)) (hw : ∀ p, nb p < 512) (hds : DisOk α B nb n) {a on : Nat} (ha : a ≤ 12) (h57 : α 57 = nI a) (h46 : α 46 = nI on) (hon : on ≤ 1) (hn1 : 1 ≤ n) (hn4 : n ≤ 4) : Cl G mX12_become d [.ref m, .int (nI 2)] σ 0 0 (pI fun r s => r = nI (becN nb n 2) ∧ ∃ α1 B1, MA σ s m α1 B1 ∧ frm [0, 2, 17, 18, 19, 21, 24, 25, 46, 57] α α1 ∧ frm [1, 5, 6, 18, 19] B B1 ∧ α1 0 = nI 0 ∧ α1 2 = nI (becN nb n 2) ∧ α1 17 = nI 0 ∧ α1 18 = nI 0 ∧ α1 19 = -1 ∧ α1 21 = nI 0 ∧ α1 46 = nI 0 ∧ α1 57 = nI (ka a) ∧ (∀ x, x < becN nb n 2 → B1 1 x = nI ((becF nb n 2) x)) ∧ KP B a (rcd α B) B1) := by
  obtain ⟨d0, hdd⟩ : ∃ e, d = e + 1 := ⟨d - 1, by omega⟩
  refine cl_of (by decide) (by simp [Value.category]) (Nat.le_of_ble_eq_true rfl) ?_
  show Wp G mX12_become d 0 [.ref m, .int (nI 2), .double 0, .double 0] [] σ 0 0 _
  refine wp_aload_n (atd dX12_become 0 rfl) rfl rfl ?_
  refine wp_iconst (v := nI 0) (atd dX12_become 1 rfl) (by decide) ?_
  refine wp_putM fX12_75 (atd dX12_become 2 rfl) hM rfl (fun σ hM => ?_)
  refine wp_iload_n (atd dX12_become 3 rfl) rfl ?_
  refine wp_iconst (v := nI 0) (atd dX12_become 4 rfl) (by decide) ?_
  refine wp_iconst (v := nI 2) (atd dX12_become 5 rfl) (by decide) ?_
  refine wp_cSi hdd [_, _, _] (atd dX12_become 6 rfl) iX12_in lX12_81 rfl rfl (Nat.le_of_ble_eq_true rfl) (eX12_in (by omega)) (fun r_8 s_8 h_8 => ?_)
  obtain ⟨rfl, rfl⟩ := h_8
  rw [bI_t (by decide)]
  refine wp_ifN_eq (tgt := 37) (atd dX12_become 7 rfl) (by decide) (by omega) (fun c_11 => ?_) (fun c_11 => ?_)
  · exact absurd c_11 (by decide)
  ·
    refine wp_aload_n (atd dX12_become 8 rfl) rfl rfl ?_
    refine wp_get fX12_78 (atd dX12_become 9 rfl) hM.1.1 (congrArg (fun z => some (Value.int z)) hp) ?_
    refine wp_ifN_eq (tgt := 37) (atd dX12_become 10 rfl) (by decide) (by omega) (fun c_18 => ?_) (fun c_18 => ?_)
    · exfalso; omega
    ·
      refine wp_iload_n (atd dX12_become 11 rfl) rfl ?_
      refine wp_iconst (v := nI 2) (atd dX12_become 12 rfl) (by decide) ?_
      refine wp_icmpN_ne (tgt := 39) (atd dX12_become 13 rfl) (by decide) (by omega) (by omega) (fun c_23 => ?_) (fun c_23 => ?_)
      · exfalso; omega
      ·
        refine wp_iconst (v := nI 2) (atd dX12_become 14 rfl) (by decide) ?_
        refine wp_aload_n (atd dX12_become 15 rfl) rfl rfl ?_
        refine wp_get fX12_78 (atd dX12_become 16 rfl) hM.1.1 (congrArg (fun z => some (Value.int z)) hp) ?_
        refine wp_imulN (atd dX12_become 17 rfl) ?_
        refine wp_bipush (v := nI 8) (atd dX12_become 18 rfl) (by decide) ?_
        refine wp_icmpN_le (tgt := 39) (atd dX12_become 19 rfl) (by decide) (by omega) (by omega) (fun c_34 => ?_) (fun c_34 => ?_)
        ·
          refine wp_aload_n (atd dX12_become 22 rfl) rfl rfl ?_
          refine wp_cVv hdd [] (atd dX12_become 23 rfl) iX12_dismantle lX12_203 rfl rfl (Nat.le_of_ble_eq_true rfl) hM.1.1 rfl (eX12_dismantle (by omega) hM.self hp hn hb hw hds) (fun s_40 h_40 => ?_)
          obtain ⟨αd, Bd, hMd, hfad, hfbd, hd17, hdr⟩ := h_40
          have hM := hM.trans hMd
          have hp2 : αd 2 = nI n := (hfad 2 (by decide)).trans hp
          refine wp_aload_n (atd dX12_become 24 rfl) rfl rfl ?_
          refine wp_cVv hdd [] (atd dX12_become 25 rfl) iX12_keep lX12_371 rfl rfl (Nat.le_of_ble_eq_true rfl) hM.1.1 rfl (eX12_keep (by omega) hM.self ha ((hfad 57 (by decide)).trans h57) ((hfad 46 (by decide)).trans h46) hon) (fun s_44 h_44 => ?_)
          obtain ⟨αk, Bk, hMk, hfak, hfbk, hk57, hkR⟩ := h_44
          have hM := hM.trans hMk
          have hp3 : αk 2 = nI n := (hfak 2 (by decide)).trans hp2
          have h25 : αk 25 = nI (dis0 nb n).1 := (hfak 25 (by decide)).trans hdr.1
          have hLn := (dis0_lt nb hn).1
          have hL9 : (dis0 nb n).1 < 512 := Nat.lt_of_lt_of_le hLn (pow9 hn)
          refine wp_iconst (v := nI 0) (atd dX12_become 26 rfl) (by decide) ?_
          refine wp_istore_n (atd dX12_become 27 rfl) (Nat.le_of_ble_eq_true rfl) ?_
          refine lX12_becomeW (nb := nb) (B0 := Bk) hn hp3 (fun p hpn => by rw [hfbk 1 (by decide), hfbd 1 (by decide)]; exact hb p hpn) (fun σ2 Bw e2 hM hfbw hw19 => ?_) 9 _ Bk 0 hM frm.rf (fun x hx => absurd hx (Nat.not_lt_zero x)) (by omega)
          refine wp_aload_n (atd dX12_become 47 rfl) rfl rfl ?_
          refine wp_get fX12_78 (atd dX12_become 48 rfl) hM.1.1 (congrArg (fun z => some (Value.int z)) hp3) ?_
          refine wp_istore_n (atd dX12_become 49 rfl) (Nat.le_of_ble_eq_true rfl) ?_
          refine wp_iload_n (atd dX12_become 50 rfl) rfl ?_
          refine wp_ifN_ne (tgt := 99) (atd dX12_become 51 rfl) (by decide) (by omega) (fun c_91 => ?_) (fun c_91 => ?_)
          ·
            refine wp_iconst (v := nI 0) (atd dX12_become 55 rfl) (by decide) ?_
            refine wp_istore_n (atd dX12_become 56 rfl) (Nat.le_of_ble_eq_true rfl) ?_
            refine lX12_become2 (nb := nb) (B0 := Bw) (by omega) hn hp3 hw hw19 hn4 (fun σ3 Bn e3 hM hfbn hbn => ?_) n _ Bw 0 hM frm.rf (fun x hx => absurd hx (Nat.not_lt_zero x)) (fun x h1 h2 => absurd h2 (by omega)) (by omega)
            refine wp_aload_n (atd dX12_become 114 rfl) rfl rfl ?_
            refine wp_iload_n (atd dX12_become 115 rfl) rfl ?_
            refine wp_ifN_ne (tgt := 199) (atd dX12_become 116 rfl) (by decide) (by omega) (fun c_186 => ?_) (fun c_186 => ?_)
            ·
              refine wp_iload_n (atd dX12_become 121 rfl) rfl ?_
              refine wp_iconst (v := nI 1) (atd dX12_become 122 rfl) (by decide) ?_
              refine wp_icmpN_ne (tgt := 208) (atd dX12_become 123 rfl) (by decide) (by omega) (by omega) (fun c_201 => ?_) (fun c_201 => ?_)
              ·
                refine wp_iconst (v := nI 2) (atd dX12_become 126 rfl) (by decide) ?_
                refine wp_iload_n (atd dX12_become 127 rfl) rfl ?_
                refine wp_imulN (atd dX12_become 128 rfl) ?_
                refine wp_putM fX12_78 (atd dX12_become 129 rfl) hM rfl (fun σ hM => ?_)
                refine wp_aload_n (atd dX12_become 130 rfl) rfl rfl ?_
                refine wp_iconst (v := nI 0) (atd dX12_become 131 rfl) (by decide) ?_
                refine wp_putMz fX12_165 (atd dX12_become 132 rfl) hM rfl (by decide) (fun σ hM => ?_)
                refine wp_aload_n (atd dX12_become 133 rfl) rfl rfl ?_
                refine wp_cVv hdd [] (atd dX12_become 134 rfl) iX12_another lX12_169 rfl rfl (Nat.le_of_ble_eq_true rfl) hM.1.1 rfl (eX12_another (by omega) hM.self) (fun s_220 h_220 => ?_)
                have hM := hM.trans h_220
                refine wp_aload_n (atd dX12_become 135 rfl) rfl rfl ?_
                refine wp_get fX12_78 (atd dX12_become 136 rfl) hM.1.1 (congrArg (fun z => some (Value.int z)) (rfl : _ = nI (2 * n))) ?_
                refine wp_ireti (atd dX12_become 137 rfl) rfl ?_
                have hkR2 : KP B a (rcd α B) Bn := by
                  have h1 := hkR.cg (B1 := Bn) (rc2 := rcd α B) (by rw [hfbn 18 (by decide), hfbw 18 (by decide)]) (fun j hj => ((rcd_cg hfad hfbd (fun k hk => by simp only [List.mem_cons, List.not_mem_nil, or_false]; omega) (by decide) hj).trans (rcd_up (by decide) (by decide) hj)).symm)
                  unfold KP
                  rw [hfbd 18 (by decide)] at h1
                  exact h1
                refine ⟨rfl, _, Bn, hM, (frm_sub (U := [0, 2, 17, 18, 19, 21, 24, 25, 46, 57]) (frm_sub (U := [0, 17, 24, 25, 57]) (frm_sub (U := [0, 17, 24, 25]) (frm.up (f := α) (frm.rf (S := [0])) (by decide)) hfad (by decide) (by decide)) hfak (by decide) (by decide)) (((((((frm.rf (S := [2, 17, 18, 19, 21, 46])).up (by decide)).up (by decide)).up (by decide)).up (by decide)).up (by decide)).up (by decide)) (by decide) (by decide)), (frm_sub (U := [1, 5, 6, 18, 19]) (frm_sub (U := [5, 6, 18, 19]) (frm_sub (U := [5, 6, 18]) hfbd hfbk (by decide) (by decide)) hfbw (by decide) (by decide)) hfbn (by decide) (by decide)), (hfak 0 (by decide)).trans ((hfad 0 (by decide)).trans rfl), rfl, rfl, rfl, rfl, rfl, rfl, hk57, fun x hx => ?_, hkR2⟩
                exact hbn x hx
              · exfalso; omega
            · exact absurd c_186 (by decide)
          · exact absurd c_91 (by decide)
        · exfalso; omega
theorem eX12_becomeN {G : Gx} {d : Nat} {σ : Hp} (hd : 1 ≤ d) {m n : Nat} {α : Nat → Int32} {B : Nat → Nat → Int32} (hM : MA σ σ m α B) (hp : α 2 = nI n) (hn : n ≤ 9) {w : Int32} (href : ¬ (isP w 3 ∧ 0 < n ∧ (w = nI 2 → n ≤ 4))) : Cl G mX12_become d [.ref m, .int w] σ 0 0 (pI fun r s => r = -1 ∧ MA σ s m (upd α 0 (nI 0)) B) := by
  obtain ⟨d0, hdd⟩ : ∃ e, d = e + 1 := ⟨d - 1, by omega⟩
  refine cl_of (by decide) (by simp [Value.category]) (Nat.le_of_ble_eq_true rfl) ?_
  show Wp G mX12_become d 0 [.ref m, .int w, .double 0, .double 0] [] σ 0 0 _
  refine wp_aload_n (atd dX12_become 0 rfl) rfl rfl ?_
  refine wp_iconst (v := nI 0) (atd dX12_become 1 rfl) (by decide) ?_
  refine wp_putM fX12_75 (atd dX12_become 2 rfl) hM rfl (fun σ hM => ?_)
  refine wp_iload_n (atd dX12_become 3 rfl) rfl ?_
  refine wp_iconst (v := nI 0) (atd dX12_become 4 rfl) (by decide) ?_
  refine wp_iconst (v := nI 2) (atd dX12_become 5 rfl) (by decide) ?_
  refine wp_cSi hdd [_, _, _] (atd dX12_become 6 rfl) iX12_in lX12_81 rfl rfl (Nat.le_of_ble_eq_true rfl) (eX12_in (by omega)) (fun r_8 s_8 h_8 => ?_)
  obtain ⟨rfl, rfl⟩ := h_8
  rw [bI_c (isP_le (by omega))]
  refine wp_ifB_eq (tgt := 37) (atd dX12_become 7 rfl) (by decide) (fun c_11 => ?_) (fun c_11 => ?_)
  ·
    refine wp_iconst (v := -1) (atd dX12_become 20 rfl) (by decide) ?_
    refine wp_ireti (atd dX12_become 21 rfl) rfl ?_
    exact ⟨rfl, hM⟩
  ·
    refine wp_aload_n (atd dX12_become 8 rfl) rfl rfl ?_
    refine wp_get fX12_78 (atd dX12_become 9 rfl) hM.1.1 (congrArg (fun z => some (Value.int z)) hp) ?_
    refine wp_ifN_eq (tgt := 37) (atd dX12_become 10 rfl) (by decide) (by omega) (fun c_18 => ?_) (fun c_18 => ?_)
    ·
      refine wp_iconst (v := -1) (atd dX12_become 20 rfl) (by decide) ?_
      refine wp_ireti (atd dX12_become 21 rfl) rfl ?_
      exact ⟨rfl, hM⟩
    ·
      refine wp_iload_n (atd dX12_become 11 rfl) rfl ?_
      refine wp_iconst (v := nI 2) (atd dX12_become 12 rfl) (by decide) ?_
      refine wp_icmp_ne (tgt := 39) (atd dX12_become 13 rfl) (by decide) (fun c_23 => ?_) (fun c_23 => ?_)
      ·
        exact absurd ⟨c_11, c_18, fun z => absurd z c_23⟩ href
      ·
        refine wp_iconst (v := nI 2) (atd dX12_become 14 rfl) (by decide) ?_
        refine wp_aload_n (atd dX12_become 15 rfl) rfl rfl ?_
        refine wp_get fX12_78 (atd dX12_become 16 rfl) hM.1.1 (congrArg (fun z => some (Value.int z)) hp) ?_
        refine wp_imulN (atd dX12_become 17 rfl) ?_
        refine wp_bipush (v := nI 8) (atd dX12_become 18 rfl) (by decide) ?_
        refine wp_icmpN_le (tgt := 39) (atd dX12_become 19 rfl) (by decide) (by omega) (by omega) (fun c_34 => ?_) (fun c_34 => ?_)
        ·
          exact absurd ⟨c_11, c_18, fun z => by omega⟩ href
        ·
          refine wp_iconst (v := -1) (atd dX12_become 20 rfl) (by decide) ?_
          refine wp_ireti (atd dX12_become 21 rfl) rfl ?_
          exact ⟨rfl, hM⟩
