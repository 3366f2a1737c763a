/-- a scene begins -/
def bgn (n : Nat) (k a b c r : Int32) : Option (Nat × Nat × Row × Nat) := if isP k 3 then (match tlF n a b c with
  | none => none
  | some x => if isP r n then some (k.toNatClampNeg, x.1, x.2, r.toNatClampNeg) else none) else none
def bgP (σ s : Hp) (m : Nat) (α : Nat → Int32) (B : Nat → Nat → Int32) (a : Nat) (x : Nat × Nat × Row × Nat) : Prop := ∃ α1 B1, MA σ s m α1 B1 ∧ frm [0, 34, 35, 36, 37, 46, 47, 48, 49, 50, 51, 52, 53, 54, 57] α α1 ∧ frm [18] B B1 ∧ α1 0 = nI 0 ∧ α1 46 = nI 1 ∧ SCN α1 x.1 x.2.1 x.2.2.1 x.2.2.2 0 ∧ α1 54 = nI 0 ∧ α1 57 = nI (ka a) ∧ KP B a (rcd α B) B1
def bg0 (σ s : Hp) (m : Nat) (α : Nat → Int32) (B : Nat → Nat → Int32) : Prop := ∃ α1, MA σ s m α1 B ∧ frm [0, 34, 35, 36, 37] α α1 ∧ α1 0 = nI 0
def bgA (n : Nat) (k a b c r : Int32) : Int32 := match bgn n k a b c r with
  | none => -1
  | some x => nI x.2.1
theorem eX12_begin {G : Gx} {d : Nat} {σ : Hp} (hd : 3 ≤ d) {m n : Nat} {α : Nat → Int32} {B : Nat → Nat → Int32} (hM : MA σ σ m α B) (hp : α 2 = nI n) (hn : n ≤ 9) {aa on : Nat} (ha : aa ≤ 12) (h57 : α 57 = nI aa) (h46 : α 46 = nI on) (hon : on ≤ 1) {k a b c r : Int32} : Cl G mX12_begin d [.ref m, .int k, .int a, .int b, .int c, .int r] σ 0 0 (pI fun z s => z = bgA n k a b c r ∧ ((bgn n k a b c r = none ∧ bg0 σ s m α B) ∨ ∃ x, bgn n k a b c r = some x ∧ bgP σ s m α B aa x)) := by
  obtain ⟨d0, hdd⟩ : ∃ e, d = e + 1 := ⟨d - 1, by omega⟩
  refine cl_of (by decide) (by simp [Value.category]) (Nat.le_of_ble_eq_true rfl) ?_
  show Wp G mX12_begin d 0 [.ref m, .int k, .int a, .int b, .int c, .int r] [] σ 0 0 _
  refine wp_aload_n (atd dX12_begin 0 rfl) rfl rfl ?_
  refine wp_iconst (v := nI 0) (atd dX12_begin 1 rfl) (by decide) ?_
  refine wp_putM fX12_75 (atd dX12_begin 2 rfl) hM rfl (fun σ hM => ?_)
  refine wp_iload_n (atd dX12_begin 3 rfl) rfl ?_
  refine wp_iconst (v := nI 0) (atd dX12_begin 4 rfl) (by decide) ?_
  refine wp_iconst (v := nI 2) (atd dX12_begin 5 rfl) (by decide) ?_
  refine wp_cSi hdd [_, _, _] (atd dX12_begin 6 rfl) iX12_in lX12_81 rfl rfl (Nat.le_of_ble_eq_true rfl) (eX12_in (by omega)) (fun r_8 s_8 h_8 => ?_)
  obtain ⟨rfl, rfl⟩ := h_8
  rw [bI_c (isP_le (by omega))]
  refine wp_ifB_eq (tgt := 34) (atd dX12_begin 7 rfl) (by decide) (fun c_11 => ?_) (fun c_11 => ?_)
  ·
    refine wp_iconst (v := -1) (atd dX12_begin 18 rfl) (by decide) ?_
    refine wp_ireti (atd dX12_begin 19 rfl) rfl ?_
    refine ⟨?_, Or.inl ⟨if_neg c_11, _, hM, frm.rf.up (by decide), rfl⟩⟩
    unfold bgA bgn; rw [if_neg c_11]
  ·
    obtain ⟨kd, hkd, rfl⟩ := isP_ofB c_11
    refine wp_aload_n (atd dX12_begin 8 rfl) rfl rfl ?_
    refine wp_iload_n (atd dX12_begin 9 rfl) rfl ?_
    refine wp_iload_n (atd dX12_begin 10 rfl) rfl ?_
    refine wp_iload (atd dX12_begin 11 rfl) rfl ?_
    refine wp_cVi hdd [_, _, _] (atd dX12_begin 12 rfl) iX12_tell lX12_289 rfl rfl (Nat.le_of_ble_eq_true rfl) hM.1.1 rfl (eX12_tell (by omega) hM.self hp hn) (fun r_19 s_19 h_19 => ?_)
    obtain ⟨rfl, α1, hM1, hfa1, hT⟩ := h_19
    have hM := hM.trans hM1
    generalize ht : tlF n a b c = tt; rcases tt with _ | ⟨h, ρ⟩
    ·
      rw [show nI (tlH none) = nI 0 from rfl]
      refine wp_ifN_eq (tgt := 34) (atd dX12_begin 13 rfl) (by decide) (by omega) (fun c_22 => ?_) (fun c_22 => ?_)
      ·
        refine wp_iconst (v := -1) (atd dX12_begin 18 rfl) (by decide) ?_
        refine wp_ireti (atd dX12_begin 19 rfl) rfl ?_
        have e : bgn n (nI kd) a b c r = none := by unfold bgn; rw [if_pos ((isP_nI (by omega)).mpr hkd), ht]
        exact ⟨by unfold bgA; rw [e], Or.inl ⟨e, α1, hM, frm_sub (frm.up (f := α) (frm.rf (S := [0])) (by decide)) hfa1 (by decide) (by decide), (hfa1 0 (by decide)).trans rfl⟩⟩
      · exact absurd c_22 (by decide)
    ·
      rw [ht] at hT
      have hok := tl_ok hn ht
      obtain ⟨hh1, hh, hn1, hρ⟩ := hok
      obtain ⟨hT1, hT2⟩ := hT
      have hT2 := hT2 h ρ rfl
      rw [show nI (tlH (some (h, ρ))) = nI h from rfl]
      refine wp_ifN_eq (tgt := 34) (atd dX12_begin 13 rfl) (by decide) (by omega) (fun c_22 => ?_) (fun c_22 => ?_)
      · exfalso; omega
      ·
        refine wp_aload_n (atd dX12_begin 14 rfl) rfl rfl ?_
        refine wp_iload (atd dX12_begin 15 rfl) rfl ?_
        refine wp_cVi hdd [_] (atd dX12_begin 16 rfl) iX12_isPlace lX12_181 rfl rfl (Nat.le_of_ble_eq_true rfl) hM.1.1 rfl (eX12_isPlace (by omega) hM.self ((hfa1 2 (by decide)).trans hp) hn) (fun r_28 s_28 h_28 => ?_)
        obtain ⟨rfl, rfl⟩ := h_28
        refine wp_ifB_ne (tgt := 36) (atd dX12_begin 17 rfl) (by decide) (fun c_31 => ?_) (fun c_31 => ?_)
        ·
          have c_31 := c_31
          obtain ⟨p, hpn, rfl⟩ := isP_of hn c_31
          refine wp_aload_n (atd dX12_begin 20 rfl) rfl rfl ?_
          refine wp_cVv hdd [] (atd dX12_begin 21 rfl) iX12_keep lX12_371 rfl rfl (Nat.le_of_ble_eq_true rfl) hM.1.1 rfl (eX12_keep (by omega) hM.self ha ((hfa1 57 (by decide)).trans h57) ((hfa1 46 (by decide)).trans h46) hon) (fun s_37 h_37 => ?_)
          obtain ⟨αk, Bk, hMk, hfak, hfbk, hk57, hkR⟩ := h_37
          have hM := hM.trans hMk
          refine wp_aload_n (atd dX12_begin 22 rfl) rfl rfl ?_
          refine wp_iconst (v := nI 1) (atd dX12_begin 23 rfl) (by decide) ?_
          refine wp_putMz fX12_165 (atd dX12_begin 24 rfl) hM rfl (by decide) (fun σ hM => ?_)
          refine wp_aload_n (atd dX12_begin 25 rfl) rfl rfl ?_
          refine wp_iload_n (atd dX12_begin 26 rfl) rfl ?_
          refine wp_putM fX12_368 (atd dX12_begin 27 rfl) hM rfl (fun σ hM => ?_)
          refine wp_aload_n (atd dX12_begin 28 rfl) rfl rfl ?_
          refine wp_aload_n (atd dX12_begin 29 rfl) rfl rfl ?_
          refine wp_get fX12_277 (atd dX12_begin 30 rfl) hM.1.1 (congrArg (fun z => some (Value.int z)) ((hfak 37 (by decide)).trans hT1)) ?_
          refine wp_putM fX12_359 (atd dX12_begin 31 rfl) hM rfl (fun σ hM => ?_)
          refine wp_aload_n (atd dX12_begin 32 rfl) rfl rfl ?_
          refine wp_aload_n (atd dX12_begin 33 rfl) rfl rfl ?_
          refine wp_get fX12_280 (atd dX12_begin 34 rfl) hM.1.1 (congrArg (fun z => some (Value.int z)) ((hfak 34 (by decide)).trans hT2.1)) ?_
          refine wp_putM fX12_356 (atd dX12_begin 35 rfl) hM rfl (fun σ hM => ?_)
          refine wp_aload_n (atd dX12_begin 36 rfl) rfl rfl ?_
          refine wp_aload_n (atd dX12_begin 37 rfl) rfl rfl ?_
          refine wp_get fX12_283 (atd dX12_begin 38 rfl) hM.1.1 (congrArg (fun z => some (Value.int z)) ((hfak 35 (by decide)).trans hT2.2.1)) ?_
          refine wp_putM fX12_362 (atd dX12_begin 39 rfl) hM rfl (fun σ hM => ?_)
          refine wp_aload_n (atd dX12_begin 40 rfl) rfl rfl ?_
          refine wp_aload_n (atd dX12_begin 41 rfl) rfl rfl ?_
          refine wp_get fX12_286 (atd dX12_begin 42 rfl) hM.1.1 (congrArg (fun z => some (Value.int z)) ((hfak 36 (by decide)).trans hT2.2.2)) ?_
          refine wp_putM fX12_365 (atd dX12_begin 43 rfl) hM rfl (fun σ hM => ?_)
          refine wp_aload_n (atd dX12_begin 44 rfl) rfl rfl ?_
          refine wp_iload (atd dX12_begin 45 rfl) rfl ?_
          refine wp_putM fX12_353 (atd dX12_begin 46 rfl) hM rfl (fun σ hM => ?_)
          refine wp_aload_n (atd dX12_begin 47 rfl) rfl rfl ?_
          refine wp_iconst (v := nI 0) (atd dX12_begin 48 rfl) (by decide) ?_
          refine wp_putM fX12_374 (atd dX12_begin 49 rfl) hM rfl (fun σ hM => ?_)
          refine wp_aload_n (atd dX12_begin 50 rfl) rfl rfl ?_
          refine wp_iconst (v := nI 0) (atd dX12_begin 51 rfl) (by decide) ?_
          refine wp_putM fX12_377 (atd dX12_begin 52 rfl) hM rfl (fun σ hM => ?_)
          refine wp_aload_n (atd dX12_begin 53 rfl) rfl rfl ?_
          refine wp_get fX12_359 (atd dX12_begin 54 rfl) hM.1.1 (congrArg (fun z => some (Value.int z)) (rfl : _ = nI h)) ?_
          refine wp_ireti (atd dX12_begin 55 rfl) rfl ?_
          have e : bgn n (nI kd) a b c (nI p) = some (kd, h, ρ, p) := by unfold bgn; rw [if_pos ((isP_nI (by omega)).mpr hkd), ht]; show (if isP (nI p) n then _ else none) = _; rw [if_pos c_31, nI_clamp (by omega), nI_clamp (by omega)]
          have hkR2 : KP B aa (rcd α B) Bk := by
            have h1 := hkR.cg (B1 := Bk) (rc2 := rcd α B) rfl (fun j hj => ((rcd_cg hfa1 (frm.rf (S := [])) (fun k hk => by simp only [List.mem_cons, List.not_mem_nil, or_false]; omega) (by decide) hj).trans (rcd_up (by decide) (by decide) hj)).symm)
            unfold KP
            exact h1
          refine ⟨by unfold bgA; rw [e], Or.inr ⟨_, e, _, Bk, hM, frm_sub (U := [0, 34, 35, 36, 37, 46, 47, 48, 49, 50, 51, 52, 53, 54, 57]) (frm_sub (U := [0, 34, 35, 36, 37, 57]) (frm_sub (U := [0, 34, 35, 36, 37]) (frm.up (f := α) (frm.rf (S := [0])) (by decide)) hfa1 (by decide) (by decide)) hfak (by decide) (by decide)) ((((((((((frm.rf (S := [46, 47, 48, 49, 50, 51, 52, 53, 54])).up (by decide)).up (by decide)).up (by decide)).up (by decide)).up (by decide)).up (by decide)).up (by decide)).up (by decide)).up (by decide)) (by decide) (by decide), hfbk, (hfak 0 (by decide)).trans ((hfa1 0 (by decide)).trans rfl), rfl, ⟨rfl, rfl, rfl, rfl, rfl, rfl, rfl⟩, rfl, hk57, hkR2⟩⟩
        ·
          refine wp_iconst (v := -1) (atd dX12_begin 18 rfl) (by decide) ?_
          refine wp_ireti (atd dX12_begin 19 rfl) rfl ?_
          have e : bgn n (nI kd) a b c r = none := by unfold bgn; rw [if_pos ((isP_nI (by omega)).mpr hkd), ht]; exact if_neg c_31
          exact ⟨by unfold bgA; rw [e], Or.inl ⟨e, α1, hM, frm_sub (frm.up (f := α) (frm.rf (S := [0])) (by decide)) hfa1 (by decide) (by decide), (hfa1 0 (by decide)).trans rfl⟩⟩
abbrev rnOk (nb : Nat → Nat) (n kd h : Nat) (ρ : Row) (p t : Nat) (q : Int32) : Prop := (std h ρ).testBit p = false ∧ t ≠ 0 ∧ isP q n ∧ (rns nb n kd (std h ρ) p).testBit q.toNatClampNeg = true
/-- the state behind an act in a scene -/
def acP (σ s : Hp) (m : Nat) (α : Nat → Int32) (B : Nat → Nat → Int32) (nb : Nat → Nat) (n a kd h : Nat) (ρ : Row) (p t : Nat) (b : Int32) : Prop := ∃ α1 B1, MA σ s m α1 B1 ∧ frm [0, 19, 20, 32, 33, 34, 35, 36, 37, 49, 50, 51, 52, 53, 54, 57] α α1 ∧ frm [7, 9, 10, 11, 12, 18] B B1 ∧ α1 0 = nI 0 ∧ GOk α1 B1 nb n ∧ SCN α1 kd h ρ p t ∧ α1 54 = b ∧ α1 57 = nI (ka a) ∧ KP B a (rcd α B) B1
theorem eX12_run {G : Gx} {d : Nat} {σ : Hp} (hd : 7 ≤ d) {m n : Nat} {α : Nat → Int32} {B : Nat → Nat → Int32} {nb : Nat → Nat} (hM : MA σ σ m α B) (hp : α 2 = nI n) (hn : n ≤ 9) (hb : ∀ p, p < n → B 1 p = nI (nb p)) (hw : ∀ p, nb p < 512) (ho : ∀ j, j < 18 → B 8 j = nI (ordT j)) (hG : GOk α B nb n) {kd h p t : Nat} {ρ : Row} (hsc : SCN α kd h ρ p t) (hkd : kd < 3) (hh1 : 1 ≤ h) (hh : h ≤ 3) (hρ : ρ ∈ rowsL h n) (hpn : p < n) (ht : t ≤ 1) {a : Nat} (ha : a ≤ 12) (h57 : α 57 = nI a) (h46 : α 46 = nI 1) {u b : Int32} (h54 : α 54 = b) : Cl G mX12_run d [.ref m, .int u] σ 0 0 (pI fun z s => z = bI (rnOk nb n kd h ρ p t u) ∧ ((¬ rnOk nb n kd h ρ p t u ∧ GY σ s m α B nb n) ∨ (rnOk nb n kd h ρ p t u ∧ acP σ s m α B nb n a kd h ρ u.toNatClampNeg 0 b))) := by
  obtain ⟨d0, hdd⟩ : ∃ e, d = e + 1 := ⟨d - 1, by omega⟩
  refine cl_of (by decide) (by simp [Value.category]) (Nat.le_of_ble_eq_true rfl) ?_
  show Wp G mX12_run d 0 [.ref m, .int u, .double 0] [] σ 0 0 _
  have hok := rowsL_ok n (by omega) h (by omega) ρ hρ
  have hR9 := rowsL_len n (by omega) h (by omega)
  have hix := rwi_lt hρ
  refine wp_aload_n (atd dX12_run 0 rfl) rfl rfl ?_
  refine wp_iconst (v := nI 0) (atd dX12_run 1 rfl) (by decide) ?_
  refine wp_putM fX12_75 (atd dX12_run 2 rfl) hM rfl (fun σ hM => ?_)
  refine wp_aload_n (atd dX12_run 3 rfl) rfl rfl ?_
  refine wp_get fX12_165 (atd dX12_run 4 rfl) hM.1.1 (congrArg (fun z => some (Value.int z)) h46) ?_
  refine wp_ifN_eq (tgt := 34) (atd dX12_run 5 rfl) (by decide) (by omega) (fun c_9 => ?_) (fun c_9 => ?_)
  · exact absurd c_9 (by decide)
  ·
    refine wp_aload_n (atd dX12_run 6 rfl) rfl rfl ?_
    refine wp_cVi hdd [] (atd dX12_run 7 rfl) iX12_isCaught lX12_383 rfl rfl (Nat.le_of_ble_eq_true rfl) hM.1.1 rfl (eX12_isCaught (by omega) hM.self hn hsc hkd hh1 hh hρ hpn ht) (fun r_13 s_13 h_13 => ?_)
    obtain ⟨rfl, rfl⟩ := h_13
    refine wp_ifB_ne (tgt := 34) (atd dX12_run 8 rfl) (by decide) (fun c_16 => ?_) (fun c_16 => ?_)
    ·
      refine wp_iconst (v := nI 0) (atd dX12_run 16 rfl) (by decide) ?_
      refine wp_iretz (atd dX12_run 17 rfl) rfl (by first | rfl | decide) ?_
      exact ⟨(bI_f (fun z => absurd (c_16.symm.trans z.1) (by decide))).symm, Or.inl ⟨fun z => absurd (c_16.symm.trans z.1) (by decide), ⟨_, B, hM, frm.rf.up (by decide), frm.rf, rfl, hG⟩⟩⟩
    ·
      refine wp_aload_n (atd dX12_run 9 rfl) rfl rfl ?_
      refine wp_get fX12_374 (atd dX12_run 10 rfl) hM.1.1 (congrArg (fun z => some (Value.int z)) hsc.2.2.2.2.2.2) ?_
      refine wp_ifN_eq (tgt := 34) (atd dX12_run 11 rfl) (by decide) (by omega) (fun c_23 => ?_) (fun c_23 => ?_)
      ·
        refine wp_iconst (v := nI 0) (atd dX12_run 16 rfl) (by decide) ?_
        refine wp_iretz (atd dX12_run 17 rfl) rfl (by first | rfl | decide) ?_
        exact ⟨(bI_f (fun z => z.2.1 c_23)).symm, Or.inl ⟨fun z => z.2.1 c_23, ⟨_, B, hM, frm.rf.up (by decide), frm.rf, rfl, hG⟩⟩⟩
      ·
        refine wp_aload_n (atd dX12_run 12 rfl) rfl rfl ?_
        refine wp_iload_n (atd dX12_run 13 rfl) rfl ?_
        refine wp_cVi hdd [_] (atd dX12_run 14 rfl) iX12_isPlace lX12_181 rfl rfl (Nat.le_of_ble_eq_true rfl) hM.1.1 rfl (eX12_isPlace (by omega) hM.self hp hn) (fun r_28 s_28 h_28 => ?_)
        obtain ⟨rfl, rfl⟩ := h_28
        refine wp_ifB_ne (tgt := 36) (atd dX12_run 15 rfl) (by decide) (fun c_31 => ?_) (fun c_31 => ?_)
        ·
          obtain ⟨q, hqn, rfl⟩ := isP_of hn c_31
          refine wp_aload_n (atd dX12_run 18 rfl) rfl rfl ?_
          refine wp_cVi hdd [] (atd dX12_run 19 rfl) iX12_sceneRow lX12_380 rfl rfl (Nat.le_of_ble_eq_true rfl) hM.1.1 rfl (eX12_sceneRow (by omega) hM.self hp hn hb hw ho hG hsc hkd hh1 hh hρ hpn ht) (fun r_37 s_37 h_37 => ?_)
          obtain ⟨rfl, α1, B1, hM1, hfa1, hfb1, k19, k20, hGS⟩ := h_37
          have hM := hM.trans hM1
          have hsc1 := SCN.cg (show SCN (upd α 0 (nI 0)) kd h ρ p t from hsc) hfa1 (fun k h1 h2 => by simp only [List.mem_cons, List.not_mem_nil, or_false]; omega)
          have hp1 : α1 2 = nI n := (hfa1 2 (by decide)).trans hp
          have hb1 : ∀ p, p < n → B1 1 p = nI (nb p) := fun p hpn => by rw [hfb1 1 (by decide)]; exact hb p hpn
          refine wp_istore_n (atd dX12_run 20 rfl) (Nat.le_of_ble_eq_true rfl) ?_
          refine wp_aload_n (atd dX12_run 21 rfl) rfl rfl ?_
          refine wp_aload_n (atd dX12_run 22 rfl) rfl rfl ?_
          refine wp_get fX12_368 (atd dX12_run 23 rfl) hM.1.1 (congrArg (fun z => some (Value.int z)) hsc1.1) ?_
          refine wp_aload_n (atd dX12_run 24 rfl) rfl rfl ?_
          refine wp_get fX12_51 (atd dX12_run 25 rfl) hM.1.1 rfl ?_
          refine wp_iload_n (atd dX12_run 26 rfl) rfl ?_
          refine wp_ialdN (atd dX12_run 27 rfl) hM.a12 (show _ < 165 from by omega) (Nat.le_of_ble_eq_true rfl) ?_
          rw [(hGS.2.2.1 _ hix).2]
          refine wp_aload_n (atd dX12_run 28 rfl) rfl rfl ?_
          refine wp_get fX12_353 (atd dX12_run 29 rfl) hM.1.1 (congrArg (fun z => some (Value.int z)) hsc1.2.2.2.2.2.1) ?_
          refine wp_cVi hdd [_, _, _] (atd dX12_run 30 rfl) iX12_runs lX12_259 rfl rfl (Nat.le_of_ble_eq_true rfl) hM.1.1 rfl (eX12_runs (by omega) hM.self hp1 hn hb1 hw hkd hpn) (fun r_56 s_56 h_56 => ?_)
          obtain ⟨rfl, rfl⟩ := h_56
          have hrl := rns_lt hw n kd (std h (rowAt (rowsL h n) (rwi (rowsL h n) ρ))) p
          rw [rwi_at hρ] at hrl ⊢
          refine wp_iload_n (atd dX12_run 31 rfl) rfl ?_
          refine wp_cSi hdd [_, _] (atd dX12_run 32 rfl) iX12_isOf lX12_149 rfl rfl (Nat.le_of_ble_eq_true rfl) (eX12_isOf (by omega) (by omega) (by omega)) (fun r_60 s_60 h_60 => ?_)
          obtain ⟨rfl, rfl⟩ := h_60
          refine wp_ifB_ne (tgt := 68) (atd dX12_run 33 rfl) (by decide) (fun c_63 => ?_) (fun c_63 => ?_)
          ·
            refine wp_aload_n (atd dX12_run 36 rfl) rfl rfl ?_
            refine wp_cVv hdd [] (atd dX12_run 37 rfl) iX12_keep lX12_371 rfl rfl (Nat.le_of_ble_eq_true rfl) hM.1.1 rfl (eX12_keep (on := 1) (by omega) hM.self ha ((hfa1 57 (by decide)).trans h57) ((hfa1 46 (by decide)).trans h46) (by decide)) (fun s_69 h_69 => ?_)
            obtain ⟨αk, Bk, hMk, hfak, hfbk, hk57, hkR⟩ := h_69
            have hM := hM.trans hMk
            have hGSk : GSol αk Bk nb n kd h := ⟨(hfak 33 (by decide)).trans hGS.1, (hfak 32 (by decide)).trans hGS.2.1, fun i hi => by rw [hfbk 7 (by decide), hfbk 12 (by decide)]; exact hGS.2.2.1 i hi, fun x y hx hy => by rw [hfbk 9 (by decide)]; exact hGS.2.2.2.1 x y hx hy, fun x y hx hy => by rw [hfbk 10 (by decide)]; exact hGS.2.2.2.2.1 x y hx hy, fun x y hx hy => by rw [hfbk 11 (by decide)]; exact hGS.2.2.2.2.2.1 x y hx hy, hGS.2.2.2.2.2.2⟩
            have hsck := hsc1.cg hfak (fun k h1 h2 => by simp only [List.mem_cons, List.not_mem_nil, or_false]; omega)
            have hkR2 : KP B a (rcd α B) Bk := by
              have h1 := hkR.cg (B1 := Bk) (rc2 := rcd α B) rfl (fun j hj => ((rcd_cg hfa1 hfb1 (fun k hk => by simp only [List.mem_cons, List.not_mem_nil, or_false]; omega) (by decide) hj).trans (rcd_up (by decide) (by decide) hj)).symm)
              rw [hfb1 18 (by decide)] at h1
              unfold KP
              exact h1
            refine wp_aload_n (atd dX12_run 38 rfl) rfl rfl ?_
            refine wp_iload_n (atd dX12_run 39 rfl) rfl ?_
            refine wp_putM fX12_353 (atd dX12_run 40 rfl) hM rfl (fun σ hM => ?_)
            refine wp_aload_n (atd dX12_run 41 rfl) rfl rfl ?_
            refine wp_iconst (v := nI 0) (atd dX12_run 42 rfl) (by decide) ?_
            refine wp_putM fX12_374 (atd dX12_run 43 rfl) hM rfl (fun σ hM => ?_)
            refine wp_iconst (v := nI 1) (atd dX12_run 44 rfl) (by decide) ?_
            refine wp_iretz (atd dX12_run 45 rfl) rfl (by first | rfl | decide) ?_
            have hyes : rnOk nb n kd h ρ p t (nI q) := ⟨by simpa using c_16, by omega, (isP_nI (by omega)).mpr hqn, by rw [nI_clamp (by omega)]; exact c_63⟩
            refine ⟨(bI_t hyes).symm, Or.inr ⟨hyes, _, Bk, hM, frm_sub (U := [0, 19, 20, 32, 33, 34, 35, 36, 37, 49, 50, 51, 52, 53, 54, 57]) (frm_sub (U := [0, 19, 20, 32, 33, 34, 35, 36, 37, 57]) (frm_sub (U := [0, 19, 20, 32, 33, 34, 35, 36, 37]) (frm.up (f := α) (frm.rf (S := [0])) (by decide)) hfa1 (by decide) (by decide)) hfak (by decide) (by decide)) (((frm.rf (S := [52, 53])).up (by decide)).up (by decide)) (by decide) (by decide), frm_sub hfb1 hfbk (by decide) (by decide), (hfak 0 (by decide)).trans ((hfa1 0 (by decide)).trans rfl), Or.inr ⟨kd, h, hkd, hh1, hh, (hfak 19 (by decide)).trans k19, (hfak 20 (by decide)).trans k20, hGSk⟩, ⟨hsck.1, hsck.2.1, hsck.2.2.1, hsck.2.2.2.1, hsck.2.2.2.2.1, ?_, rfl⟩, (hfak 54 (by decide)).trans ((hfa1 54 (by decide)).trans h54), hk57, hkR2⟩⟩
            rw [nI_clamp (by omega)]; rfl
          ·
            refine wp_iconst (v := nI 0) (atd dX12_run 34 rfl) (by decide) ?_
            refine wp_iretz (atd dX12_run 35 rfl) rfl (by first | rfl | decide) ?_
            have hno : ¬ rnOk nb n kd h ρ p t (nI q) := fun z => by have := z.2.2.2; rw [nI_clamp (by omega)] at this; exact c_63 this
            exact ⟨(bI_f hno).symm, Or.inl ⟨hno, ⟨α1, B1, hM, frm_sub (frm.up (f := α) (frm.rf (S := [0])) (by decide)) hfa1 (by decide) (by decide), hfb1, (hfa1 0 (by decide)).trans rfl, Or.inr ⟨kd, h, hkd, hh1, hh, k19, k20, hGS⟩⟩⟩⟩
        ·
          refine wp_iconst (v := nI 0) (atd dX12_run 16 rfl) (by decide) ?_
          refine wp_iretz (atd dX12_run 17 rfl) rfl (by first | rfl | decide) ?_
          exact ⟨(bI_f (fun z => c_31 z.2.2.1)).symm, Or.inl ⟨fun z => c_31 z.2.2.1, ⟨_, B, hM, frm.rf.up (by decide), frm.rf, rfl, hG⟩⟩⟩
theorem eX12_run0 {G : Gx} {d : Nat} {σ : Hp} (hd : 0 ≤ d) {m : Nat} {α : Nat → Int32} {B : Nat → Nat → Int32} (hM : MA σ σ m α B) (h46 : α 46 = nI 0) {w : Int32} : Cl G mX12_run d [.ref m, .int w] σ 0 0 (pI fun r s => r = nI 0 ∧ MA σ s m (upd α 0 (nI 0)) B) := by
  refine cl_of (by decide) (by simp [Value.category]) (Nat.le_of_ble_eq_true rfl) ?_
  show Wp G mX12_run d 0 [.ref m, .int w, .double 0] [] σ 0 0 _
  refine wp_aload_n (atd dX12_run 0 rfl) rfl rfl ?_
  refine wp_iconst (v := nI 0) (atd dX12_run 1 rfl) (by decide) ?_
  refine wp_putM fX12_75 (atd dX12_run 2 rfl) hM rfl (fun σ hM => ?_)
  refine wp_aload_n (atd dX12_run 3 rfl) rfl rfl ?_
  refine wp_get fX12_165 (atd dX12_run 4 rfl) hM.1.1 (congrArg (fun z => some (Value.int z)) h46) ?_
  refine wp_ifN_eq (tgt := 34) (atd dX12_run 5 rfl) (by decide) (by omega) (fun c_9 => ?_) (fun c_9 => ?_)
  ·
    refine wp_iconst (v := nI 0) (atd dX12_run 16 rfl) (by decide) ?_
    refine wp_iretz (atd dX12_run 17 rfl) rfl (by first | rfl | decide) ?_
    exact ⟨rfl, hM⟩
  · exact absurd c_9 (by decide)
def htR (nb : Nat → Nat) (n kd h : Nat) (ρ : Row) (p t : Nat) (a b c : Int32) : Option Row := if (std h ρ).testBit p = true ∨ t = 1 then none else (match tlF n a b c with
  | none => none
  | some x => if x.1 = h ∧ cms nb h kd ρ x.2 = true then some x.2 else none)
theorem eX12_hunt {G : Gx} {d : Nat} {σ : Hp} (hd : 7 ≤ d) {m n : Nat} {α : Nat → Int32} {B : Nat → Nat → Int32} {nb : Nat → Nat} (hM : MA σ σ m α B) (hp : α 2 = nI n) (hn : n ≤ 9) (hb : ∀ p, p < n → B 1 p = nI (nb p)) (hw : ∀ p, nb p < 512) (ho : ∀ j, j < 18 → B 8 j = nI (ordT j)) (hG : GOk α B nb n) {kd h p t : Nat} {ρ : Row} (hsc : SCN α kd h ρ p t) (hkd : kd < 3) (hh1 : 1 ≤ h) (hh : h ≤ 3) (hρ : ρ ∈ rowsL h n) (hpn : p < n) (ht : t ≤ 1) {a : Nat} (ha : a ≤ 12) (h57 : α 57 = nI a) (h46 : α 46 = nI 1) {x y z b : Int32} (h54 : α 54 = b) : Cl G mX12_hunt d [.ref m, .int x, .int y, .int z] σ 0 0 (pI fun r s => r = bI (htR nb n kd h ρ p t x y z ≠ none) ∧ ((htR nb n kd h ρ p t x y z = none ∧ GY σ s m α B nb n) ∨ ∃ ρ2, htR nb n kd h ρ p t x y z = some ρ2 ∧ acP σ s m α B nb n a kd h ρ2 p 1 (b + nI 1))) := by
  obtain ⟨d0, hdd⟩ : ∃ e, d = e + 1 := ⟨d - 1, by omega⟩
  refine cl_of (by decide) (by simp [Value.category]) (Nat.le_of_ble_eq_true rfl) ?_
  show Wp G mX12_hunt d 0 [.ref m, .int x, .int y, .int z, .double 0, .double 0, .double 0, .double 0, .double 0] [] σ 0 0 _
  have hok := rowsL_ok n (by omega) h (by omega) ρ hρ
  have hR9 := rowsL_len n (by omega) h (by omega)
  have hix := rwi_lt hρ
  refine wp_aload_n (atd dX12_hunt 0 rfl) rfl rfl ?_
  refine wp_iconst (v := nI 0) (atd dX12_hunt 1 rfl) (by decide) ?_
  refine wp_putM fX12_75 (atd dX12_hunt 2 rfl) hM rfl (fun σ hM => ?_)
  refine wp_aload_n (atd dX12_hunt 3 rfl) rfl rfl ?_
  refine wp_get fX12_165 (atd dX12_hunt 4 rfl) hM.1.1 (congrArg (fun z => some (Value.int z)) h46) ?_
  refine wp_ifN_eq (tgt := 41) (atd dX12_hunt 5 rfl) (by decide) (by omega) (fun c_9 => ?_) (fun c_9 => ?_)
  · exact absurd c_9 (by decide)
  ·
    refine wp_aload_n (atd dX12_hunt 6 rfl) rfl rfl ?_
    refine wp_cVi hdd [] (atd dX12_hunt 7 rfl) iX12_isCaught lX12_383 rfl rfl (Nat.le_of_ble_eq_true rfl) hM.1.1 rfl (eX12_isCaught (by omega) hM.self hn hsc hkd hh1 hh hρ hpn ht) (fun r_13 s_13 h_13 => ?_)
    obtain ⟨rfl, rfl⟩ := h_13
    refine wp_ifB_ne (tgt := 41) (atd dX12_hunt 8 rfl) (by decide) (fun c_16 => ?_) (fun c_16 => ?_)
    ·
      refine wp_iconst (v := nI 0) (atd dX12_hunt 21 rfl) (by decide) ?_
      refine wp_iretz (atd dX12_hunt 22 rfl) rfl (by first | rfl | decide) ?_
      have e : htR nb n kd h ρ p t x y z = none := if_pos (Or.inl c_16)
      exact ⟨(bI_f (fun w => w e)).symm, Or.inl ⟨e, ⟨_, B, hM, frm.rf.up (by decide), frm.rf, rfl, hG⟩⟩⟩
    ·
      refine wp_aload_n (atd dX12_hunt 9 rfl) rfl rfl ?_
      refine wp_get fX12_374 (atd dX12_hunt 10 rfl) hM.1.1 (congrArg (fun z => some (Value.int z)) hsc.2.2.2.2.2.2) ?_
      refine wp_iconst (v := nI 1) (atd dX12_hunt 11 rfl) (by decide) ?_
      refine wp_icmpN_eq (tgt := 41) (atd dX12_hunt 12 rfl) (by decide) (by omega) (by omega) (fun c_24 => ?_) (fun c_24 => ?_)
      ·
        refine wp_iconst (v := nI 0) (atd dX12_hunt 21 rfl) (by decide) ?_
        refine wp_iretz (atd dX12_hunt 22 rfl) rfl (by first | rfl | decide) ?_
        have e : htR nb n kd h ρ p t x y z = none := if_pos (Or.inr c_24)
        exact ⟨(bI_f (fun w => w e)).symm, Or.inl ⟨e, ⟨_, B, hM, frm.rf.up (by decide), frm.rf, rfl, hG⟩⟩⟩
      ·
        refine wp_aload_n (atd dX12_hunt 13 rfl) rfl rfl ?_
        refine wp_iload_n (atd dX12_hunt 14 rfl) rfl ?_
        refine wp_iload_n (atd dX12_hunt 15 rfl) rfl ?_
        refine wp_iload_n (atd dX12_hunt 16 rfl) rfl ?_
        refine wp_cVi hdd [_, _, _] (atd dX12_hunt 17 rfl) iX12_tell lX12_289 rfl rfl (Nat.le_of_ble_eq_true rfl) hM.1.1 rfl (eX12_tell (by omega) hM.self hp hn) (fun r_31 s_31 h_31 => ?_)
        obtain ⟨rfl, α0, hM0, hfa0, hT⟩ := h_31
        have hM := hM.trans hM0
        have hsc0 := SCN.cg (show SCN (upd α 0 (nI 0)) kd h ρ p t from hsc) hfa0 (fun k h1 h2 => by simp only [List.mem_cons, List.not_mem_nil, or_false]; omega)
        have hp0 : α0 2 = nI n := (hfa0 2 (by decide)).trans hp
        have hG0 : GOk α0 B nb n := hG.cg (hfa0 19 (by decide)) (hfa0 20 (by decide)) (hfa0 32 (by decide)) (hfa0 33 (by decide))
        generalize ht2 : tlF n x y z = tt; rcases tt with _ | ⟨h2, ρ2⟩
        ·
          rw [show nI (tlH none) = nI 0 from rfl]
          refine wp_aload_n (atd dX12_hunt 18 rfl) rfl rfl ?_
          refine wp_get fX12_359 (atd dX12_hunt 19 rfl) hM.1.1 (congrArg (fun z => some (Value.int z)) hsc0.2.1) ?_
          refine wp_icmpN_eq (tgt := 43) (atd dX12_hunt 20 rfl) (by decide) (by omega) (by omega) (fun c_38 => ?_) (fun c_38 => ?_)
          · exfalso; omega
          ·
            refine wp_iconst (v := nI 0) (atd dX12_hunt 21 rfl) (by decide) ?_
            refine wp_iretz (atd dX12_hunt 22 rfl) rfl (by first | rfl | decide) ?_
            have e : htR nb n kd h ρ p t x y z = none := by unfold htR; rw [if_neg (show ¬ ((std h ρ).testBit p = true ∨ t = 1) from fun w => w.elim c_16 c_24), ht2]
            exact ⟨(bI_f (fun w => w e)).symm, Or.inl ⟨e, ⟨α0, B, hM, (frm_sub (U := [0, 34, 35, 36, 37]) (frm.up (f := α) (frm.rf (S := [0])) (by decide)) hfa0 (by decide) (by decide)).mono (by decide), frm.rf, (hfa0 0 (by decide)).trans rfl, hG0⟩⟩⟩
        ·
          rw [ht2] at hT
          obtain ⟨hq1, hq2, hq3, hρ2⟩ := tl_ok hn ht2
          obtain ⟨hT1, hT2⟩ := hT
          have hT2 := hT2 h2 ρ2 rfl
          rw [show nI (tlH (some (h2, ρ2))) = nI h2 from rfl]
          refine wp_aload_n (atd dX12_hunt 18 rfl) rfl rfl ?_
          refine wp_get fX12_359 (atd dX12_hunt 19 rfl) hM.1.1 (congrArg (fun z => some (Value.int z)) hsc0.2.1) ?_
          refine wp_icmpN_eq (tgt := 43) (atd dX12_hunt 20 rfl) (by decide) (by omega) (by omega) (fun c_38 => ?_) (fun c_38 => ?_)
          ·
            subst c_38
            refine wp_aload_n (atd dX12_hunt 23 rfl) rfl rfl ?_
            refine wp_get fX12_280 (atd dX12_hunt 24 rfl) hM.1.1 (congrArg (fun z => some (Value.int z)) hT2.1) ?_
            refine wp_istore (atd dX12_hunt 25 rfl) (Nat.le_of_ble_eq_true rfl) ?_
            refine wp_aload_n (atd dX12_hunt 26 rfl) rfl rfl ?_
            refine wp_get fX12_283 (atd dX12_hunt 27 rfl) hM.1.1 (congrArg (fun z => some (Value.int z)) hT2.2.1) ?_
            refine wp_istore (atd dX12_hunt 28 rfl) (Nat.le_of_ble_eq_true rfl) ?_
            refine wp_aload_n (atd dX12_hunt 29 rfl) rfl rfl ?_
            refine wp_get fX12_286 (atd dX12_hunt 30 rfl) hM.1.1 (congrArg (fun z => some (Value.int z)) hT2.2.2) ?_
            refine wp_istore (atd dX12_hunt 31 rfl) (Nat.le_of_ble_eq_true rfl) ?_
            refine wp_aload_n (atd dX12_hunt 32 rfl) rfl rfl ?_
            refine wp_cVi hdd [] (atd dX12_hunt 33 rfl) iX12_sceneRow lX12_380 rfl rfl (Nat.le_of_ble_eq_true rfl) hM.1.1 rfl (eX12_sceneRow (by omega) hM.self hp0 hn hb hw ho hG0 hsc0 hkd hh1 hh hρ hpn ht) (fun r_62 s_62 h_62 => ?_)
            obtain ⟨rfl, α1, B1, hM1, hfa1, hfb1, k19, k20, hGS⟩ := h_62
            have hM := hM.trans hM1
            have hsc1 := hsc0.cg hfa1 (fun k h1 h2 => by simp only [List.mem_cons, List.not_mem_nil, or_false]; omega)
            have hp1 : α1 2 = nI n := (hfa1 2 (by decide)).trans hp0
            refine wp_istore (atd dX12_hunt 34 rfl) (Nat.le_of_ble_eq_true rfl) ?_
            refine wp_aload_n (atd dX12_hunt 35 rfl) rfl rfl ?_
            refine wp_iload (atd dX12_hunt 36 rfl) rfl ?_
            refine wp_putM fX12_280 (atd dX12_hunt 37 rfl) hM rfl (fun σ hM => ?_)
            refine wp_aload_n (atd dX12_hunt 38 rfl) rfl rfl ?_
            refine wp_iload (atd dX12_hunt 39 rfl) rfl ?_
            refine wp_putM fX12_283 (atd dX12_hunt 40 rfl) hM rfl (fun σ hM => ?_)
            refine wp_aload_n (atd dX12_hunt 41 rfl) rfl rfl ?_
            refine wp_iload (atd dX12_hunt 42 rfl) rfl ?_
            refine wp_putM fX12_286 (atd dX12_hunt 43 rfl) hM rfl (fun σ hM => ?_)
            refine wp_aload_n (atd dX12_hunt 44 rfl) rfl rfl ?_
            refine wp_cVi hdd [] (atd dX12_hunt 45 rfl) iX12_rowTold lX12_292 rfl rfl (Nat.le_of_ble_eq_true rfl) hM.1.1 rfl (eX12_rowTold (by omega) hM.self hh hn hGS.2.2.1 hρ2 rfl rfl rfl) (fun r_86 s_86 h_86 => ?_)
            obtain ⟨rfl, rfl⟩ := h_86
            have hj9 := rwi_lt hρ2
            refine wp_istore (atd dX12_hunt 46 rfl) (Nat.le_of_ble_eq_true rfl) ?_
            refine wp_aload_n (atd dX12_hunt 47 rfl) rfl rfl ?_
            refine wp_get fX12_41 (atd dX12_hunt 48 rfl) hM.1.1 rfl ?_
            refine wp_sipush (v := nI 165) (atd dX12_hunt 49 rfl) (by decide) ?_
            refine wp_iload (atd dX12_hunt 50 rfl) rfl ?_
            refine wp_imulN (atd dX12_hunt 51 rfl) ?_
            refine wp_iload (atd dX12_hunt 52 rfl) rfl ?_
            refine wp_iaddN (atd dX12_hunt 53 rfl) ?_
            refine wp_zaldN (atd dX12_hunt 54 rfl) hM.a9 (show _ < 27225 from by omega) (Nat.le_of_ble_eq_true rfl) ?_
            rw [show B1 9 (165 * rwi (rowsL h2 n) ρ + rwi (rowsL h2 n) ρ2) = bI (cms nb h2 kd ρ ρ2 = true) from by rw [hGS.2.2.2.1 _ _ hix hj9, rwi_at hρ, rwi_at hρ2]]
            refine wp_ifB_ne (tgt := 110) (atd dX12_hunt 55 rfl) (by decide) (fun c_105 => ?_) (fun c_105 => ?_)
            ·
              refine wp_aload_n (atd dX12_hunt 58 rfl) rfl rfl ?_
              refine wp_cVv hdd [] (atd dX12_hunt 59 rfl) iX12_keep lX12_371 rfl rfl (Nat.le_of_ble_eq_true rfl) hM.1.1 rfl (eX12_keep (on := 1) (by omega) hM.self ha ((hfa1 57 (by decide)).trans ((hfa0 57 (by decide)).trans h57)) ((hfa1 46 (by decide)).trans ((hfa0 46 (by decide)).trans h46)) (by decide)) (fun s_111 h_111 => ?_)
              obtain ⟨αk, Bk, hMk, hfak, hfbk, hk57, hkR⟩ := h_111
              have hM := hM.trans hMk
              have hGSk : GSol αk Bk nb n kd h2 := ⟨(hfak 33 (by decide)).trans hGS.1, (hfak 32 (by decide)).trans hGS.2.1, fun i hi => by rw [hfbk 7 (by decide), hfbk 12 (by decide)]; exact hGS.2.2.1 i hi, fun x y hx hy => by rw [hfbk 9 (by decide)]; exact hGS.2.2.2.1 x y hx hy, fun x y hx hy => by rw [hfbk 10 (by decide)]; exact hGS.2.2.2.2.1 x y hx hy, fun x y hx hy => by rw [hfbk 11 (by decide)]; exact hGS.2.2.2.2.2.1 x y hx hy, hGS.2.2.2.2.2.2⟩
              have hsck := SCN.cg (show SCN (upd (upd (upd α1 34 (nI ρ2.1)) 35 (nI ρ2.2.1)) 36 (nI ρ2.2.2)) kd h2 ρ p t from hsc1) hfak (fun k h1 h2 => by simp only [List.mem_cons, List.not_mem_nil, or_false]; omega)
              have hkR2 : KP B a (rcd α B) Bk := by
                have h1 := hkR.cg (B1 := Bk) (rc2 := rcd α B) rfl (fun j hj => ((rcd_up (by decide) (by decide) hj).trans ((rcd_up (by decide) (by decide) hj).trans ((rcd_up (by decide) (by decide) hj).trans ((rcd_cg hfa1 hfb1 (fun k hk => by simp only [List.mem_cons, List.not_mem_nil, or_false]; omega) (by decide) hj).trans ((rcd_cg hfa0 (frm.rf (S := [])) (fun k hk => by simp only [List.mem_cons, List.not_mem_nil, or_false]; omega) (by decide) hj).trans (rcd_up (by decide) (by decide) hj)))))).symm)
                rw [hfb1 18 (by decide)] at h1
                unfold KP
                exact h1
              refine wp_aload_n (atd dX12_hunt 60 rfl) rfl rfl ?_
              refine wp_iload (atd dX12_hunt 61 rfl) rfl ?_
              refine wp_cVv hdd [_] (atd dX12_hunt 62 rfl) iX12_stand lX12_392 rfl rfl (Nat.le_of_ble_eq_true rfl) hM.1.1 rfl (eX12_stand (by omega) hM.self hGSk.2.2.1 (rwi_lt hρ2) hR9) (fun s_117 h_117 => ?_)
              have hM := hM.trans h_117
              refine wp_aload_n (atd dX12_hunt 63 rfl) rfl rfl ?_
              refine wp_iconst (v := nI 1) (atd dX12_hunt 64 rfl) (by decide) ?_
              refine wp_putM fX12_374 (atd dX12_hunt 65 rfl) hM rfl (fun σ hM => ?_)
              refine wp_aload_n (atd dX12_hunt 66 rfl) rfl rfl ?_
              refine wp_dup (atd dX12_hunt 67 rfl) rfl ?_
              refine wp_get fX12_377 (atd dX12_hunt 68 rfl) hM.1.1 rfl ?_
              refine wp_iconst (v := nI 1) (atd dX12_hunt 69 rfl) (by decide) ?_
              refine wp_iadd (atd dX12_hunt 70 rfl) ?_
              refine wp_putM fX12_377 (atd dX12_hunt 71 rfl) hM rfl (fun σ hM => ?_)
              refine wp_iconst (v := nI 1) (atd dX12_hunt 72 rfl) (by decide) ?_
              refine wp_iretz (atd dX12_hunt 73 rfl) rfl (by first | rfl | decide) ?_
              have e : htR nb n kd h2 ρ p t x y z = some ρ2 := by unfold htR; rw [if_neg (show ¬ ((std h2 ρ).testBit p = true ∨ t = 1) from fun w => w.elim c_16 c_24), ht2]; exact if_pos ⟨rfl, c_105⟩
              refine ⟨(bI_t (show htR nb n kd h2 ρ p t x y z ≠ none from (fun w => by rw [e] at w; cases w))).symm, Or.inr ⟨ρ2, e, _, Bk, hM, frm_sub (U := [0, 19, 20, 32, 33, 34, 35, 36, 37, 49, 50, 51, 52, 53, 54, 57]) (frm_sub (U := [0, 19, 20, 32, 33, 34, 35, 36, 37, 57]) (frm_sub (U := [0, 19, 20, 32, 33, 34, 35, 36, 37]) (frm_sub (U := [0, 19, 20, 32, 33, 34, 35, 36, 37]) (frm_sub (U := [0, 34, 35, 36, 37]) (frm.up (f := α) (frm.rf (S := [0])) (by decide)) hfa0 (by decide) (by decide)) hfa1 (by decide) (by decide)) ((((frm.rf (S := [34, 35, 36])).up (by decide)).up (by decide)).up (by decide)) (by decide) (by decide)) hfak (by decide) (by decide)) ((((((frm.rf (S := [49, 50, 51, 53, 54])).up (by decide)).up (by decide)).up (by decide)).up (by decide)).up (by decide)) (by decide) (by decide), frm_sub hfb1 hfbk (by decide) (by decide), (hfak 0 (by decide)).trans ((hfa1 0 (by decide)).trans ((hfa0 0 (by decide)).trans rfl)), Or.inr ⟨kd, h2, hkd, hh1, hh, (hfak 19 (by decide)).trans k19, (hfak 20 (by decide)).trans k20, hGSk⟩, ⟨hsck.1, hsck.2.1, ?_, ?_, ?_, hsck.2.2.2.2.2.1, rfl⟩, ?_, hk57, hkR2⟩⟩
              · rw [rwi_at hρ2]; rfl
              · rw [rwi_at hρ2]; rfl
              · rw [rwi_at hρ2]; rfl
              · show αk 54 + nI 1 = _; rw [(hfak 54 (by decide)).trans ((hfa1 54 (by decide)).trans ((hfa0 54 (by decide)).trans h54))]
            ·
              refine wp_iconst (v := nI 0) (atd dX12_hunt 56 rfl) (by decide) ?_
              refine wp_iretz (atd dX12_hunt 57 rfl) rfl (by first | rfl | decide) ?_
              have e : htR nb n kd h2 ρ p t x y z = none := by unfold htR; rw [if_neg (show ¬ ((std h2 ρ).testBit p = true ∨ t = 1) from fun w => w.elim c_16 c_24), ht2]; exact if_neg (fun w => c_105 w.2)
              exact ⟨(bI_f (fun w => w e)).symm, Or.inl ⟨e, ⟨_, B1, hM, (frm_sub (U := [0, 19, 20, 32, 33, 34, 35, 36, 37]) (frm_sub (U := [0, 19, 20, 32, 33, 34, 35, 36, 37]) (frm_sub (U := [0, 34, 35, 36, 37]) (frm.up (f := α) (frm.rf (S := [0])) (by decide)) hfa0 (by decide) (by decide)) hfa1 (by decide) (by decide)) ((((frm.rf (S := [34, 35, 36])).up (by decide)).up (by decide)).up (by decide)) (by decide) (by decide)).mono (by decide), hfb1, (hfa1 0 (by decide)).trans ((hfa0 0 (by decide)).trans rfl), Or.inr ⟨kd, h2, hkd, hh1, hh, k19, k20, hGS⟩⟩⟩⟩
          ·
            refine wp_iconst (v := nI 0) (atd dX12_hunt 21 rfl) (by decide) ?_
            refine wp_iretz (atd dX12_hunt 22 rfl) rfl (by first | rfl | decide) ?_
            have e : htR nb n kd h ρ p t x y z = none := by unfold htR; rw [if_neg (show ¬ ((std h ρ).testBit p = true ∨ t = 1) from fun w => w.elim c_16 c_24), ht2]; exact if_neg (fun w => c_38 w.1)
            exact ⟨(bI_f (fun w => w e)).symm, Or.inl ⟨e, ⟨α0, B, hM, (frm_sub (U := [0, 34, 35, 36, 37]) (frm.up (f := α) (frm.rf (S := [0])) (by decide)) hfa0 (by decide) (by decide)).mono (by decide), frm.rf, (hfa0 0 (by decide)).trans rfl, hG0⟩⟩⟩
theorem eX12_hunt0 {G : Gx} {d : Nat} {σ : Hp} (hd : 0 ≤ d) {m : Nat} {α : Nat → Int32} {B : Nat → Nat → Int32} (hM : MA σ σ m α B) (h46 : α 46 = nI 0) {u v w : Int32} : Cl G mX12_hunt d [.ref m, .int u, .int v, .int w] σ 0 0 (pI fun r s => r = nI 0 ∧ MA σ s m (upd α 0 (nI 0)) B) := by
  refine cl_of (by decide) (by simp [Value.category]) (Nat.le_of_ble_eq_true rfl) ?_
  show Wp G mX12_hunt d 0 [.ref m, .int u, .int v, .int w, .double 0, .double 0, .double 0, .double 0, .double 0] [] σ 0 0 _
  refine wp_aload_n (atd dX12_hunt 0 rfl) rfl rfl ?_
  refine wp_iconst (v := nI 0) (atd dX12_hunt 1 rfl) (by decide) ?_
  refine wp_putM fX12_75 (atd dX12_hunt 2 rfl) hM rfl (fun σ hM => ?_)
  refine wp_aload_n (atd dX12_hunt 3 rfl) rfl rfl ?_
  refine wp_get fX12_165 (atd dX12_hunt 4 rfl) hM.1.1 (congrArg (fun z => some (Value.int z)) h46) ?_
  refine wp_ifN_eq (tgt := 41) (atd dX12_hunt 5 rfl) (by decide) (by omega) (fun c_9 => ?_) (fun c_9 => ?_)
  ·
    refine wp_iconst (v := nI 0) (atd dX12_hunt 21 rfl) (by decide) ?_
    refine wp_iretz (atd dX12_hunt 22 rfl) rfl (by first | rfl | decide) ?_
    exact ⟨rfl, hM⟩
  · exact absurd c_9 (by decide)
abbrev Pos : Type := Row × Nat × Nat × Int32
noncomputable def plT (nb : Nat → Nat) (n kd h : Nat) (s : Pos) : Pos := if s.2.2.1 = 0 then (rowAt (rowsL h n) (brT nb n kd h (slvF nb n h kd) (rwi (rowsL h n) s.1) s.2.1), s.2.1, 1, s.2.2.2 + nI 1)
  else (s.1, (bpF (slvF nb n h kd (rwi (rowsL h n) s.1)) (rns nb n kd (std h s.1) s.2.1) n).getD 0, 0, s.2.2.2)
noncomputable def plS (nb : Nat → Nat) (n kd h : Nat) : Nat → Pos → Nat → Pos × Nat
  | 0, s, k => (s, k)
  | f + 1, s, k => if (std h s.1).testBit s.2.1 = true then (s, k) else plS nb n kd h f (plT nb n kd h s) (k + 1)
def PosV (n h : Nat) (s : Pos) : Prop := s.1 ∈ rowsL h n ∧ s.2.1 < n ∧ s.2.2.1 ≤ 1
abbrev isN100 (x : Int32) : Prop := 1 ≤ x.toInt ∧ x.toInt ≤ 100
theorem isN_iff {x : Int32} : (¬ x < nI 1 ∧ ¬ nI 100 < x) ↔ isN100 x := by
  rw [Int32.lt_iff_toInt_lt, Int32.lt_iff_toInt_lt, show (nI 1).toInt = 1 from by decide, show (nI 100).toInt = 100 from by decide]
  omega
theorem isN_of {x : Int32} (h : isN100 x) : ∃ j, 1 ≤ j ∧ j ≤ 100 ∧ x = nI j := by
  obtain ⟨j, h1, rfl⟩ := isP_ofB (n := 101) (p := x) ⟨by omega, by omega⟩
  have := h.1
  rw [nI_toInt (by omega)] at this
  exact ⟨j, by omega, by omega, rfl⟩
theorem rowAt_mem {F : List Row} {i : Nat} (hi : i < F.length) : rowAt F i ∈ F := by
  unfold rowAt
  rw [List.getD, List.getElem?_eq_getElem hi]
  exact List.getElem_mem hi
theorem GOk.cg2 {α α1 : Nat → Int32} {B B1 : Nat → Nat → Int32} {nb : Nat → Nat} {n : Nat} (h : GOk α B nb n) (h1 : α1 19 = α 19) (h2 : α1 20 = α 20) (h3 : α1 32 = α 32) (h4 : α1 33 = α 33) (g7 : B1 7 = B 7) (g9 : B1 9 = B 9) (g10 : B1 10 = B 10) (g11 : B1 11 = B 11) (g12 : B1 12 = B 12) : GOk α1 B1 nb n := by
  unfold GOk GSol RW CG WT at h ⊢
  rw [h1, h2, h3, h4, g7, g9, g10, g11, g12]
  exact h
theorem lX12_play {G : Gx} {d : Nat} {σ0 : Hp} {m n kd h : Nat} {α0 : Nat → Int32} {B0 : Nat → Nat → Int32} {nb : Nat → Nat} (hd : 7 ≤ d) (hp0 : α0 2 = nI n) (hn : n ≤ 9) (hb0 : ∀ p, p < n → B0 1 p = nI (nb p)) (hw : ∀ p, nb p < 512) (ho0 : ∀ j, j < 18 → B0 8 j = nI (ordT j)) (hN : isNet n nb) (hkd : kd < 3) (hh1 : 1 ≤ h) (hh : h ≤ 3) {N : Nat} {v : Pos × Nat} (hN1 : N ≤ 100) : ∀ (f : Nat) (σ : Hp) (α : Nat → Int32) (B : Nat → Nat → Int32) (ρ : Row) (p t : Nat) (b : Int32) (k : Nat) (e3 : Value), MA σ0 σ m α B → frm [19, 20, 32, 33, 34, 35, 36, 49, 50, 51, 52, 53, 54] α0 α → frm [7, 9, 10, 11, 12] B0 B → GOk α B nb n → SCN α kd h ρ p t → α 54 = b → ρ ∈ rowsL h n → p < n → t ≤ 1 → k + f = N → plS nb n kd h f (ρ, p, t, b) k = v → Wp G mX12_play d 37 [.ref m, .int (nI N), .int (nI k), e3] [] σ 0 0 (pI fun r s => r = nI v.2 ∧ PosV n h v.1 ∧ ∃ α1 B1, MA σ0 s m α1 B1 ∧ frm [19, 20, 32, 33, 34, 35, 36, 49, 50, 51, 52, 53, 54] α0 α1 ∧ frm [7, 9, 10, 11, 12] B0 B1 ∧ GOk α1 B1 nb n ∧ SCN α1 kd h v.1.1 v.1.2.1 v.1.2.2.1 ∧ α1 54 = v.1.2.2.2) := by
  obtain ⟨d0, hdd⟩ : ∃ e, d = e + 1 := ⟨d - 1, by omega⟩
  intro f
  induction f with
  | zero =>
    intro σ α B ρ p t b k e3 hM hfa hfb hG hsc h54 hρ hpn ht hkf hv
    have e : v = ((ρ, p, t, b), k) := hv.symm
    subst e
    refine wp_iload_n (atd dX12_play 20 rfl) rfl ?_
    refine wp_iload_n (atd dX12_play 21 rfl) rfl ?_
    refine wp_icmpN_ge (tgt := 120) (atd dX12_play 22 rfl) (by decide) (by omega) (by omega) (fun c_39 => ?_) (fun c_39 => ?_)
    ·
      refine wp_iload_n (atd dX12_play 63 rfl) rfl ?_
      refine wp_ireti (atd dX12_play 64 rfl) rfl ?_
      exact ⟨rfl, ⟨hρ, hpn, ht⟩, α, B, hM, hfa, hfb, hG, hsc, h54⟩
    · exfalso; omega
  | succ f ih =>
    intro σ α B ρ p t b k e3 hM hfa hfb hG hsc h54 hρ hpn ht hkf hv
    have hp : α 2 = nI n := (hfa 2 (by decide)).trans hp0
    have hb : ∀ p, p < n → B 1 p = nI (nb p) := fun p hpn => by rw [hfb 1 (by decide)]; exact hb0 p hpn
    have ho : ∀ j, j < 18 → B 8 j = nI (ordT j) := fun j hj => by rw [hfb 8 (by decide)]; exact ho0 j hj
    have hok := rowsL_ok n (by omega) h (by omega) ρ hρ
    have hR9 := rowsL_len n (by omega) h (by omega)
    have hix := rwi_lt hρ
    have hex : ∃ x, x < (rowsL h n).length ∧ cgF nb h kd (rowsL h n) (rwi (rowsL h n) ρ) x = true := ⟨_, hix, cms_rf hh hN.2.2.1 (rowsL_in hn hh _ hix)⟩
    have hbl : brT nb n kd h (slvF nb n h kd) (rwi (rowsL h n) ρ) p < (rowsL h n).length := brF_lt hex
    refine wp_iload_n (atd dX12_play 20 rfl) rfl ?_
    refine wp_iload_n (atd dX12_play 21 rfl) rfl ?_
    refine wp_icmpN_ge (tgt := 120) (atd dX12_play 22 rfl) (by decide) (by omega) (by omega) (fun c_39 => ?_) (fun c_39 => ?_)
    · exfalso; omega
    ·
      refine wp_aload_n (atd dX12_play 23 rfl) rfl rfl ?_
      refine wp_cVi hdd [] (atd dX12_play 24 rfl) iX12_isCaught lX12_383 rfl rfl (Nat.le_of_ble_eq_true rfl) hM.1.1 rfl (eX12_isCaught (by omega) hM.self hn hsc hkd hh1 hh hρ hpn ht) (fun r_43 s_43 h_43 => ?_)
      obtain ⟨rfl, rfl⟩ := h_43
      refine wp_ifB_ne (tgt := 120) (atd dX12_play 25 rfl) (by decide) (fun c_46 => ?_) (fun c_46 => ?_)
      ·
        refine wp_iload_n (atd dX12_play 63 rfl) rfl ?_
        refine wp_ireti (atd dX12_play 64 rfl) rfl ?_
        have e : v = ((ρ, p, t, b), k) := by rw [← hv, plS, if_pos (show (std h ρ).testBit p = true from c_46)]
        subst e
        exact ⟨rfl, ⟨hρ, hpn, ht⟩, α, B, hM, hfa, hfb, hG, hsc, h54⟩
      ·
        refine wp_aload_n (atd dX12_play 26 rfl) rfl rfl ?_
        refine wp_cVi hdd [] (atd dX12_play 27 rfl) iX12_sceneRow lX12_380 rfl rfl (Nat.le_of_ble_eq_true rfl) hM.1.1 rfl (eX12_sceneRow (by omega) hM.self hp hn hb hw ho hG hsc hkd hh1 hh hρ hpn ht) (fun r_50 s_50 h_50 => ?_)
        obtain ⟨rfl, α1, B1, hM1, hfa1, hfb1, k19, k20, hGS⟩ := h_50
        have hM := hM.trans hM1
        have hsc1 := hsc.cg hfa1 (fun k h1 h2 => by simp only [List.mem_cons, List.not_mem_nil, or_false]; omega)
        have hp1 : α1 2 = nI n := (hfa1 2 (by decide)).trans hp
        have hb1 : ∀ p, p < n → B1 1 p = nI (nb p) := fun p hpn => by rw [hfb1 1 (by decide)]; exact hb p hpn
        refine wp_istore_n (atd dX12_play 28 rfl) (Nat.le_of_ble_eq_true rfl) ?_
        refine wp_aload_n (atd dX12_play 29 rfl) rfl rfl ?_
        refine wp_get fX12_374 (atd dX12_play 30 rfl) hM.1.1 (congrArg (fun z => some (Value.int z)) hsc1.2.2.2.2.2.2) ?_
        refine wp_ifN_ne (tgt := 95) (atd dX12_play 31 rfl) (by decide) (by omega) (fun c_58 => ?_) (fun c_58 => ?_)
        ·
          refine wp_aload_n (atd dX12_play 50 rfl) rfl rfl ?_
          refine wp_aload_n (atd dX12_play 51 rfl) rfl rfl ?_
          refine wp_iload_n (atd dX12_play 52 rfl) rfl ?_
          refine wp_cVi hdd [_] (atd dX12_play 53 rfl) iX12_bestPlace lX12_389 rfl rfl (Nat.le_of_ble_eq_true rfl) hM.1.1 rfl (eX12_bestPlace (by omega) hM.self hp1 hn hb1 hw hkd hh hsc1.1 hsc1.2.2.2.2.2.1 hpn hix hGS) (fun r_98 s_98 h_98 => ?_)
          obtain ⟨rfl, rfl⟩ := h_98
          refine wp_putM fX12_353 (atd dX12_play 54 rfl) hM rfl (fun σ hM => ?_)
          refine wp_aload_n (atd dX12_play 55 rfl) rfl rfl ?_
          refine wp_iconst (v := nI 1) (atd dX12_play 56 rfl) (by decide) ?_
          refine wp_aload_n (atd dX12_play 57 rfl) rfl rfl ?_
          refine wp_get fX12_374 (atd dX12_play 58 rfl) hM.1.1 (congrArg (fun z => some (Value.int z)) ((show _ = _ from rfl).trans hsc1.2.2.2.2.2.2)) ?_
          refine wp_isubN (atd dX12_play 59 rfl) (by omega) ?_
          refine wp_putM fX12_374 (atd dX12_play 60 rfl) hM rfl (fun σ hM => ?_)
          refine wp_iincN (c := 1) (atd dX12_play 61 rfl) rfl ?_
          refine wp_goto (tgt := 37) (atd dX12_play 62 rfl) (by decide) ?_
          have e1 : t = 1 := by omega
          subst e1
          obtain ⟨x, hx1, hx2, hx3⟩ := bpF_ex (w := slvF nb n h kd (rwi (rowsL h n) ρ)) (n := n) hpn (rns_self hN (kd := kd) (hs := std h ρ) hpn)
          have hM := hM
          refine ih _ _ B1 ρ x 0 b (k + 1) _ hM (frm_sub (U := [19, 20, 32, 33, 34, 35, 36, 49, 50, 51, 52, 53, 54]) (frm_sub (U := [19, 20, 32, 33, 34, 35, 36, 49, 50, 51, 52, 53, 54]) hfa hfa1 (by decide) (by decide)) ((((frm.rf (S := [52, 53])).up (by decide)).up (by decide))) (by decide) (by decide)) (frm_sub (U := [7, 9, 10, 11, 12]) hfb hfb1 (by decide) (by decide)) (Or.inr ⟨kd, h, hkd, hh1, hh, k19, k20, hGS⟩) ⟨hsc1.1, hsc1.2.1, hsc1.2.2.1, hsc1.2.2.2.1, hsc1.2.2.2.2.1, ?_, rfl⟩ ((hfa1 54 (by decide)).trans h54) hρ hx2 (by omega) (by omega) ?_
          · show oI (bpF (slvF nb n h kd (rwi (rowsL h n) ρ)) (rns nb n kd (std h (rowAt (rowsL h n) (rwi (rowsL h n) ρ))) p) n) = nI x; rw [rwi_at hρ, hx1]; rfl
          · rw [← hv, plS, if_neg (show ¬ (std h ρ).testBit p = true from c_46)]; unfold plT; rw [if_neg (show ¬ (ρ, p, 1, b).2.2.1 = 0 from Nat.one_ne_zero)]; show _ = plS nb n kd h f (ρ, (bpF (slvF nb n h kd (rwi (rowsL h n) ρ)) (rns nb n kd (std h ρ) p) n).getD 0, 0, b) (k + 1); rw [hx1]; rfl
        ·
          refine wp_aload_n (atd dX12_play 32 rfl) rfl rfl ?_
          refine wp_aload_n (atd dX12_play 33 rfl) rfl rfl ?_
          refine wp_get fX12_368 (atd dX12_play 34 rfl) hM.1.1 (congrArg (fun z => some (Value.int z)) hsc1.1) ?_
          refine wp_cVv hdd [_] (atd dX12_play 35 rfl) iX12_layRunner lX12_253 rfl rfl (Nat.le_of_ble_eq_true rfl) hM.1.1 rfl (eX12_layRunner (F := rowsL h n) (w := slvF nb n h kd) (by omega) hM.self hp1 hn hb1 hw hGS.2.1 hh hkd hR9 hGS.2.2.1 (rowsL_in hn hh) hGS.2.2.2.2.1 hGS.2.2.2.2.2.2 (by omega)) (fun s_66 h_66 => ?_)
          obtain ⟨B2, hM2, hfb2, hWT2⟩ := h_66
          have hM := hM.trans hM2
          have hGS2 : GSol α1 B2 nb n kd h := ⟨hGS.1, hGS.2.1, fun i hi => by rw [hfb2 7 (by decide), hfb2 12 (by decide)]; exact hGS.2.2.1 i hi, fun x y hx hy => by rw [hfb2 9 (by decide)]; exact hGS.2.2.2.1 x y hx hy, fun x y hx hy => by rw [hfb2 10 (by decide)]; exact hGS.2.2.2.2.1 x y hx hy, hWT2, hGS.2.2.2.2.2.2⟩
          refine wp_aload_n (atd dX12_play 36 rfl) rfl rfl ?_
          refine wp_aload_n (atd dX12_play 37 rfl) rfl rfl ?_
          refine wp_iload_n (atd dX12_play 38 rfl) rfl ?_
          refine wp_aload_n (atd dX12_play 39 rfl) rfl rfl ?_
          refine wp_get fX12_353 (atd dX12_play 40 rfl) hM.1.1 (congrArg (fun z => some (Value.int z)) hsc1.2.2.2.2.2.1) ?_
          refine wp_cVi hdd [_, _] (atd dX12_play 41 rfl) iX12_bestRow lX12_305 rfl rfl (Nat.le_of_ble_eq_true rfl) hM.1.1 rfl (eX12_bestRow (cg := cgF nb h kd (rowsL h n)) (r := rwt nb n kd h (rowsL h n) (slvF nb n h kd)) (by omega) hM.self hGS2.2.1 hR9 hix hpn hn hGS2.2.2.2.1 hGS2.2.2.2.2.2.1 (rwt_le hGS.2.2.2.2.2.2) (by omega) hex) (fun r_76 s_76 h_76 => ?_)
          obtain ⟨rfl, rfl⟩ := h_76
          rw [show brF (cgF nb h kd (rowsL h n) (rwi (rowsL h n) ρ)) (fun j => rwt nb n kd h (rowsL h n) (slvF nb n h kd) j p) (rowsL h n).length = brT nb n kd h (slvF nb n h kd) (rwi (rowsL h n) ρ) p from rfl]
          refine wp_cVv hdd [_] (atd dX12_play 42 rfl) iX12_stand lX12_392 rfl rfl (Nat.le_of_ble_eq_true rfl) hM.1.1 rfl (eX12_stand (by omega) hM.self hGS2.2.2.1 hbl hR9) (fun s_79 h_79 => ?_)
          have hM := hM.trans h_79
          refine wp_aload_n (atd dX12_play 43 rfl) rfl rfl ?_
          refine wp_dup (atd dX12_play 44 rfl) rfl ?_
          refine wp_get fX12_377 (atd dX12_play 45 rfl) hM.1.1 rfl ?_
          refine wp_iconst (v := nI 1) (atd dX12_play 46 rfl) (by decide) ?_
          refine wp_iadd (atd dX12_play 47 rfl) ?_
          refine wp_putM fX12_377 (atd dX12_play 48 rfl) hM rfl (fun σ hM => ?_)
          refine wp_goto (tgt := 104) (atd dX12_play 49 rfl) (by decide) ?_
          refine wp_aload_n (atd dX12_play 55 rfl) rfl rfl ?_
          refine wp_iconst (v := nI 1) (atd dX12_play 56 rfl) (by decide) ?_
          refine wp_aload_n (atd dX12_play 57 rfl) rfl rfl ?_
          refine wp_get fX12_374 (atd dX12_play 58 rfl) hM.1.1 (congrArg (fun z => some (Value.int z)) ((show _ = _ from rfl).trans hsc1.2.2.2.2.2.2)) ?_
          refine wp_isubN (atd dX12_play 59 rfl) (by omega) ?_
          refine wp_putM fX12_374 (atd dX12_play 60 rfl) hM rfl (fun σ hM => ?_)
          refine wp_iincN (c := 1) (atd dX12_play 61 rfl) rfl ?_
          refine wp_goto (tgt := 37) (atd dX12_play 62 rfl) (by decide) ?_
          have e0 : t = 0 := c_58
          subst e0
          refine ih _ _ B2 (rowAt (rowsL h n) (brT nb n kd h (slvF nb n h kd) (rwi (rowsL h n) ρ) p)) p 1 (b + nI 1) (k + 1) _ hM (frm_sub (U := [19, 20, 32, 33, 34, 35, 36, 49, 50, 51, 52, 53, 54]) (frm_sub (U := [19, 20, 32, 33, 34, 35, 36, 49, 50, 51, 52, 53, 54]) hfa hfa1 (by decide) (by decide)) (((((((frm.rf (S := [49, 50, 51, 53, 54])).up (by decide)).up (by decide)).up (by decide)).up (by decide)).up (by decide))) (by decide) (by decide)) (frm_sub (U := [7, 9, 10, 11, 12]) (frm_sub (U := [7, 9, 10, 11, 12]) hfb hfb1 (by decide) (by decide)) hfb2 (by decide) (by decide)) (Or.inr ⟨kd, h, hkd, hh1, hh, k19, k20, hGS2⟩) ⟨hsc1.1, hsc1.2.1, rfl, rfl, rfl, hsc1.2.2.2.2.2.1, rfl⟩ ?_ (rowAt_mem hbl) hpn (by omega) (by omega) ?_
          · show α1 54 + nI 1 = _; rw [(hfa1 54 (by decide)).trans h54]
          · rw [← hv, plS, if_neg (show ¬ (std h ρ).testBit p = true from c_46)]; unfold plT; rw [if_pos (show (ρ, p, 0, b).2.2.1 = 0 from rfl)]
theorem eX12_play {G : Gx} {d : Nat} {σ : Hp} (hd : 8 ≤ d) {m n : Nat} {α : Nat → Int32} {B : Nat → Nat → Int32} {nb : Nat → Nat} (hM : MA σ σ m α B) (hp : α 2 = nI n) (hn : n ≤ 9) (hb : ∀ p, p < n → B 1 p = nI (nb p)) (hw : ∀ p, nb p < 512) (ho : ∀ j, j < 18 → B 8 j = nI (ordT j)) (hG : GOk α B nb n) (hN : isNet n nb) {kd h p t : Nat} {ρ : Row} (hsc : SCN α kd h ρ p t) (hkd : kd < 3) (hh1 : 1 ≤ h) (hh : h ≤ 3) (hρ : ρ ∈ rowsL h n) (hpn : p < n) (ht : t ≤ 1) {a : Nat} (ha : a ≤ 12) (h57 : α 57 = nI a) (h46 : α 46 = nI 1) {u b : Int32} (h54 : α 54 = b) : Cl G mX12_play d [.ref m, .int u] σ 0 0 (pI fun r s => (((std h ρ).testBit p = true ∨ ¬ isN100 u) ∧ r = -1 ∧ GY σ s m α B nb n) ∨ ((std h ρ).testBit p = false ∧ isN100 u ∧ r = nI (plS nb n kd h u.toNatClampNeg (ρ, p, t, b) 0).2 ∧ PosV n h (plS nb n kd h u.toNatClampNeg (ρ, p, t, b) 0).1 ∧ acP σ s m α B nb n a kd h (plS nb n kd h u.toNatClampNeg (ρ, p, t, b) 0).1.1 (plS nb n kd h u.toNatClampNeg (ρ, p, t, b) 0).1.2.1 (plS nb n kd h u.toNatClampNeg (ρ, p, t, b) 0).1.2.2.1 (plS nb n kd h u.toNatClampNeg (ρ, p, t, b) 0).1.2.2.2)) := by
  obtain ⟨d0, hdd⟩ : ∃ e, d = e + 1 := ⟨d - 1, by omega⟩
  refine cl_of (by decide) (by simp [Value.category]) (Nat.le_of_ble_eq_true rfl) ?_
  show Wp G mX12_play d 0 [.ref m, .int u, .double 0, .double 0] [] σ 0 0 _
  have hok := rowsL_ok n (by omega) h (by omega) ρ hρ
  have hR9 := rowsL_len n (by omega) h (by omega)
  have hix := rwi_lt hρ
  refine wp_aload_n (atd dX12_play 0 rfl) rfl rfl ?_
  refine wp_iconst (v := nI 0) (atd dX12_play 1 rfl) (by decide) ?_
  refine wp_putM fX12_75 (atd dX12_play 2 rfl) hM rfl (fun σ hM => ?_)
  refine wp_aload_n (atd dX12_play 3 rfl) rfl rfl ?_
  refine wp_get fX12_165 (atd dX12_play 4 rfl) hM.1.1 (congrArg (fun z => some (Value.int z)) h46) ?_
  refine wp_ifN_eq (tgt := 29) (atd dX12_play 5 rfl) (by decide) (by omega) (fun c_9 => ?_) (fun c_9 => ?_)
  · exact absurd c_9 (by decide)
  ·
    refine wp_aload_n (atd dX12_play 6 rfl) rfl rfl ?_
    refine wp_cVi hdd [] (atd dX12_play 7 rfl) iX12_isCaught lX12_383 rfl rfl (Nat.le_of_ble_eq_true rfl) hM.1.1 rfl (eX12_isCaught (by omega) hM.self hn hsc hkd hh1 hh hρ hpn ht) (fun r_13 s_13 h_13 => ?_)
    obtain ⟨rfl, rfl⟩ := h_13
    refine wp_ifB_ne (tgt := 29) (atd dX12_play 8 rfl) (by decide) (fun c_16 => ?_) (fun c_16 => ?_)
    ·
      refine wp_iconst (v := -1) (atd dX12_play 14 rfl) (by decide) ?_
      refine wp_ireti (atd dX12_play 15 rfl) rfl ?_
      exact Or.inl ⟨Or.inl c_16, rfl, ⟨_, B, hM, frm.rf.up (by decide), frm.rf, rfl, hG⟩⟩
    ·
      refine wp_iload_n (atd dX12_play 9 rfl) rfl ?_
      refine wp_iconst (v := nI 1) (atd dX12_play 10 rfl) (by decide) ?_
      refine wp_bipush (v := nI 100) (atd dX12_play 11 rfl) (by decide) ?_
      refine wp_cSi hdd [_, _, _] (atd dX12_play 12 rfl) iX12_in lX12_81 rfl rfl (Nat.le_of_ble_eq_true rfl) (eX12_in (by omega)) (fun r_23 s_23 h_23 => ?_)
      obtain ⟨rfl, rfl⟩ := h_23
      rw [bI_c isN_iff]
      refine wp_ifB_ne (tgt := 31) (atd dX12_play 13 rfl) (by decide) (fun c_26 => ?_) (fun c_26 => ?_)
      ·
        obtain ⟨N, hN0, hN1, rfl⟩ := isN_of c_26
        refine wp_aload_n (atd dX12_play 16 rfl) rfl rfl ?_
        refine wp_cVv hdd [] (atd dX12_play 17 rfl) iX12_keep lX12_371 rfl rfl (Nat.le_of_ble_eq_true rfl) hM.1.1 rfl (eX12_keep (on := 1) (by omega) hM.self ha h57 h46 (by decide)) (fun s_32 h_32 => ?_)
        obtain ⟨αk, Bk, hMk, hfak, hfbk, hk57, hkR⟩ := h_32
        have hM := hM.trans hMk
        have hsck := SCN.cg (show SCN (upd α 0 (nI 0)) kd h ρ p t from hsc) hfak (fun k h1 h2 => by simp only [List.mem_cons, List.not_mem_nil, or_false]; omega)
        have hkR2 : KP B a (rcd α B) Bk := hkR.cg (B1 := Bk) (rc2 := rcd α B) rfl (fun j hj => (rcd_up (by decide) (by decide) hj).symm)
        refine wp_iconst (v := nI 0) (atd dX12_play 18 rfl) (by decide) ?_
        refine wp_istore_n (atd dX12_play 19 rfl) (Nat.le_of_ble_eq_true rfl) ?_
        refine wp_post (lX12_play (α0 := αk) (B0 := Bk) (v := plS nb n kd h N (ρ, p, t, b) 0) (by omega) ((hfak 2 (by decide)).trans hp) hn (fun p hpn => by rw [hfbk 1 (by decide)]; exact hb p hpn) hw (fun j hj => by rw [hfbk 8 (by decide)]; exact ho j hj) hN hkd hh1 hh hN1 N _ αk Bk ρ p t b 0 _ hM frm.rf frm.rf (hG.cg2 (hfak 19 (by decide)) (hfak 20 (by decide)) (hfak 32 (by decide)) (hfak 33 (by decide)) (hfbk 7 (by decide)) (hfbk 9 (by decide)) (hfbk 10 (by decide)) (hfbk 11 (by decide)) (hfbk 12 (by decide))) hsck ((hfak 54 (by decide)).trans h54) hρ hpn ht (by omega) rfl) ?_
        rintro v s ⟨r, rfl, rfl, hPV, α1, B1, hM1, hfa1, hfb1, hG1, hsc1, h541⟩
        refine ⟨_, rfl, Or.inr ⟨by simpa using c_16, c_26, ?_⟩⟩
        rw [nI_clamp (by omega)]
        exact ⟨rfl, hPV, α1, B1, hM1, frm_sub (U := [0, 19, 20, 32, 33, 34, 35, 36, 37, 49, 50, 51, 52, 53, 54, 57]) (frm_sub (U := [0, 57]) (frm.up (f := α) (frm.rf (S := [0])) (by decide)) hfak (by decide) (by decide)) hfa1 (by decide) (by decide), frm_sub hfbk hfb1 (by decide) (by decide), (hfa1 0 (by decide)).trans ((hfak 0 (by decide)).trans rfl), hG1, hsc1, h541, (hfa1 57 (by decide)).trans hk57, hkR2.cg (hfb1 18 (by decide)) (fun _ _ => rfl)⟩
      ·
        refine wp_iconst (v := -1) (atd dX12_play 14 rfl) (by decide) ?_
        refine wp_ireti (atd dX12_play 15 rfl) rfl ?_
        exact Or.inl ⟨Or.inr c_26, rfl, ⟨_, B, hM, frm.rf.up (by decide), frm.rf, rfl, hG⟩⟩
theorem eX12_play0 {G : Gx} {d : Nat} {σ : Hp} (hd : 0 ≤ d) {m : Nat} {α : Nat → Int32} {B : Nat → Nat → Int32} (hM : MA σ σ m α B) (h46 : α 46 = nI 0) {w : Int32} : Cl G mX12_play d [.ref m, .int w] σ 0 0 (pI fun r s => r = -1 ∧ MA σ s m (upd α 0 (nI 0)) B) := by
  refine cl_of (by decide) (by simp [Value.category]) (Nat.le_of_ble_eq_true rfl) ?_
  show Wp G mX12_play d 0 [.ref m, .int w, .double 0, .double 0] [] σ 0 0 _
  refine wp_aload_n (atd dX12_play 0 rfl) rfl rfl ?_
  refine wp_iconst (v := nI 0) (atd dX12_play 1 rfl) (by decide) ?_
  refine wp_putM fX12_75 (atd dX12_play 2 rfl) hM rfl (fun σ hM => ?_)
  refine wp_aload_n (atd dX12_play 3 rfl) rfl rfl ?_
  refine wp_get fX12_165 (atd dX12_play 4 rfl) hM.1.1 (congrArg (fun z => some (Value.int z)) h46) ?_
  refine wp_ifN_eq (tgt := 29) (atd dX12_play 5 rfl) (by decide) (by omega) (fun c_9 => ?_) (fun c_9 => ?_)
  ·
    refine wp_iconst (v := -1) (atd dX12_play 14 rfl) (by decide) ?_
    refine wp_ireti (atd dX12_play 15 rfl) rfl ?_
    exact ⟨rfl, hM⟩
  · exact absurd c_9 (by decide)
