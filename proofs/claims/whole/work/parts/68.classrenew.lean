/-! games that can't be; a new net -/
theorem isG_of {a b : Int32} {n : Nat} (h1 : ¬ a < 0) (h2 : ¬ a ≥ nI 3) (h3 : ¬ b < nI 1) (h4 : ¬ b > nI 3) (h5 : 0 < n) : isG a b n := by
  have e0 : (0 : Int32).toInt = 0 := by decide
  have e1 : (nI 1).toInt = 1 := by decide
  have e3 : (nI 3).toInt = 3 := by decide
  rw [Int32.lt_iff_toInt_lt, e0] at h1
  rw [ge_iff_le, Int32.le_iff_toInt_le, e3] at h2
  rw [Int32.lt_iff_toInt_lt, e1] at h3
  rw [gt_iff_lt, Int32.lt_iff_toInt_lt, e3] at h4
  exact ⟨⟨by omega, by omega⟩, ⟨by omega, by omega⟩, h5⟩
theorem wX2_solvedN {G : Gx} {d : Nat} {σ : Hp} (hd : 1 ≤ d) {g kn n : Nat} {a b : Int32} (hn : n ≤ 9) (hG : OB σ g 2 (ggF g kn)) (hN : OB σ kn 3 [.int (nI n), .ref (kn + 1)]) (hnG : ¬ isG a b n) : Wp G mX2_solved d 0 [.ref g, .int a, .int b, .double 0, .double 0] [] σ 0 0 (pR fun r s => r = .null ∧ s = σ) := by
  obtain ⟨d0, hdd⟩ : ∃ e, d = e + 1 := ⟨d - 1, by omega⟩
  refine wp_iload_n (atd dX2_solved 0 rfl) rfl ?_
  refine wp_if_lt (tgt := 23) (atd dX2_solved 1 rfl) (by decide) (fun c_1 => ?_) (fun c_1 => ?_)
  ·
    refine wp_iconst (v := nI 0) (atd dX2_solved 13 rfl) (by decide) ?_
    refine wp_istore_n (atd dX2_solved 14 rfl) (Nat.le_of_ble_eq_true rfl) ?_
    refine wp_iload_n (atd dX2_solved 15 rfl) rfl ?_
    refine wp_ifN_eq (tgt := 39) (atd dX2_solved 16 rfl) (by decide) (by omega) (fun c_26 => ?_) (fun c_26 => ?_)
    ·
      refine wp_null (atd dX2_solved 21 rfl) ?_
      refine wp_aretr (atd dX2_solved 22 rfl) rfl (Or.inl rfl) ?_
      exact ⟨rfl, rfl⟩
    · exact absurd c_26 (by decide)
  ·
    refine wp_iload_n (atd dX2_solved 2 rfl) rfl ?_
    refine wp_iconst (v := nI 3) (atd dX2_solved 3 rfl) (by decide) ?_
    refine wp_icmp_ge (tgt := 23) (atd dX2_solved 4 rfl) (by decide) (fun c_6 => ?_) (fun c_6 => ?_)
    ·
      refine wp_iconst (v := nI 0) (atd dX2_solved 13 rfl) (by decide) ?_
      refine wp_istore_n (atd dX2_solved 14 rfl) (Nat.le_of_ble_eq_true rfl) ?_
      refine wp_iload_n (atd dX2_solved 15 rfl) rfl ?_
      refine wp_ifN_eq (tgt := 39) (atd dX2_solved 16 rfl) (by decide) (by omega) (fun c_26 => ?_) (fun c_26 => ?_)
      ·
        refine wp_null (atd dX2_solved 21 rfl) ?_
        refine wp_aretr (atd dX2_solved 22 rfl) rfl (Or.inl rfl) ?_
        exact ⟨rfl, rfl⟩
      · exact absurd c_26 (by decide)
    ·
      refine wp_iload_n (atd dX2_solved 5 rfl) rfl ?_
      refine wp_iconst (v := nI 1) (atd dX2_solved 6 rfl) (by decide) ?_
      refine wp_icmp_lt (tgt := 23) (atd dX2_solved 7 rfl) (by decide) (fun c_11 => ?_) (fun c_11 => ?_)
      ·
        refine wp_iconst (v := nI 0) (atd dX2_solved 13 rfl) (by decide) ?_
        refine wp_istore_n (atd dX2_solved 14 rfl) (Nat.le_of_ble_eq_true rfl) ?_
        refine wp_iload_n (atd dX2_solved 15 rfl) rfl ?_
        refine wp_ifN_eq (tgt := 39) (atd dX2_solved 16 rfl) (by decide) (by omega) (fun c_26 => ?_) (fun c_26 => ?_)
        ·
          refine wp_null (atd dX2_solved 21 rfl) ?_
          refine wp_aretr (atd dX2_solved 22 rfl) rfl (Or.inl rfl) ?_
          exact ⟨rfl, rfl⟩
        · exact absurd c_26 (by decide)
      ·
        refine wp_iload_n (atd dX2_solved 8 rfl) rfl ?_
        refine wp_iconst (v := nI 3) (atd dX2_solved 9 rfl) (by decide) ?_
        refine wp_icmp_gt (tgt := 23) (atd dX2_solved 10 rfl) (by decide) (fun c_16 => ?_) (fun c_16 => ?_)
        ·
          refine wp_iconst (v := nI 0) (atd dX2_solved 13 rfl) (by decide) ?_
          refine wp_istore_n (atd dX2_solved 14 rfl) (Nat.le_of_ble_eq_true rfl) ?_
          refine wp_iload_n (atd dX2_solved 15 rfl) rfl ?_
          refine wp_ifN_eq (tgt := 39) (atd dX2_solved 16 rfl) (by decide) (by omega) (fun c_26 => ?_) (fun c_26 => ?_)
          ·
            refine wp_null (atd dX2_solved 21 rfl) ?_
            refine wp_aretr (atd dX2_solved 22 rfl) rfl (Or.inl rfl) ?_
            exact ⟨rfl, rfl⟩
          · exact absurd c_26 (by decide)
        ·
          refine wp_iconst (v := nI 1) (atd dX2_solved 11 rfl) (by decide) ?_
          refine wp_goto (tgt := 24) (atd dX2_solved 12 rfl) (by decide) ?_
          refine wp_istore_n (atd dX2_solved 14 rfl) (Nat.le_of_ble_eq_true rfl) ?_
          refine wp_iload_n (atd dX2_solved 15 rfl) rfl ?_
          refine wp_ifN_eq (tgt := 39) (atd dX2_solved 16 rfl) (by decide) (by omega) (fun c_26 => ?_) (fun c_26 => ?_)
          · exact absurd c_26 (by decide)
          ·
            refine wp_aload_n (atd dX2_solved 17 rfl) rfl rfl ?_
            refine wp_get fX2_34 (atd dX2_solved 18 rfl) hG rfl ?_
            refine wp_get fX2_52 (atd dX2_solved 19 rfl) hN rfl ?_
            refine wp_ifN_ne (tgt := 41) (atd dX2_solved 20 rfl) (by decide) (by omega) (fun c_36 => ?_) (fun c_36 => ?_)
            ·
              exact absurd (isG_of c_1 c_6 c_11 c_16 (by omega)) hnG
            ·
              refine wp_null (atd dX2_solved 21 rfl) ?_
              refine wp_aretr (atd dX2_solved 22 rfl) rfl (Or.inl rfl) ?_
              exact ⟨rfl, rfl⟩
def GW (σ : Hp) (g : Nat) (wk : Nat → Option Nat) (i0 : Nat) : Prop := ∀ kd h, kd < 3 → 1 ≤ h → h ≤ 3 → ∃ (rd : Bool) (op tn rf hp : Int32), OB σ (g + 13 + gix kd h) 1 (gaF kd (frN h) (frN (h + 1)) (bI (rd = true)) (rv (wk (gix kd h))) op tn rf hp) ∧ (∀ wa, wk (gix kd h) = some wa → AX σ wa (gLn h)) ∧ (gix kd h < i0 → rd = false)
theorem GW_step {σ s : Hp} {g i : Nat} {wk : Nat → Option Nat} {op tn rf hp : Int32} (hGW : GW σ g wk i) (f : fr [g + 13 + i] σ s) (hi : i < 9) (hGm : OB s (g + 13 + i) 1 (gaF (i / 3) (frN (i % 3 + 1)) (frN (i % 3 + 1 + 1)) (nI 0) (rv (wk i)) op tn rf hp)) (hwk : ∀ j a, wk j = some a → (a < g ∨ g + 21 < a)) : GW s g wk (i + 1) := by
  intro kd h hk h1 h3
  obtain ⟨rd, op2, tn2, rf2, hp2, a1, a2, a3⟩ := hGW kd h hk h1 h3
  have hw : ∀ wa, wk (gix kd h) = some wa → AX s wa (gLn h) := fun wa e => (a2 wa e).fr f (by have := hwk _ _ e; simp only [List.mem_cons, List.not_mem_nil, or_false]; omega)
  by_cases e : gix kd h = i
  · have e1 : kd = i / 3 := by unfold gix at e; omega
    have e2 : h = i % 3 + 1 := by unfold gix at e; omega
    refine ⟨false, op, tn, rf, hp, ?_, hw, fun _ => rfl⟩
    rw [e, e1, e2, show bI (false = true) = nI 0 by decide]
    exact hGm
  · exact ⟨rd, op2, tn2, rf2, hp2, a1.fr f (by simp only [List.mem_cons, List.not_mem_nil, or_false]; omega), hw, fun hl => a3 (by omega)⟩
theorem GW_at {σ : Hp} {g i : Nat} {wk : Nat → Option Nat} (hGW : GW σ g wk i) (hi : i < 9) : ∃ (rd : Bool) (op tn rf hp : Int32), OB σ (g + 13 + i) 1 (gaF (i / 3) (frN (i % 3 + 1)) (frN (i % 3 + 1 + 1)) (bI (rd = true)) (rv (wk i)) op tn rf hp) := by
  obtain ⟨rd, op, tn, rf, hp, a1, -⟩ := hGW (i / 3) (i % 3 + 1) (by omega) (by omega) (by omega)
  rw [show gix (i / 3) (i % 3 + 1) = i by unfold gix; omega] at a1
  exact ⟨rd, op, tn, rf, hp, a1⟩
theorem lX2_renew {G : Gx} {d : Nat} {σ0 : Hp} {g kn n t T : Nat} {nb : Nat → Nat} {wk : Nat → Option Nat} {l : List Nat} (ht : t ≤ T) (hwk : ∀ j a, wk j = some a → (a < g ∨ g + 21 < a)) : ∀ (y : Nat) (i : Nat) (σ : Hp), i + y = 9 → OB σ g 2 (ggF g kn) → AR σ (g + 9) 5 9 (fun i => g + 13 + i) → RT σ (g + 1) → LR σ (g + 1) nb → FS σ (g + 1) t l → WHN σ g → GW σ g wk i → fr [g + 1 + 4, g + 1 + 5, g + 13, g + 14, g + 15, g + 16, g + 17, g + 18, g + 19, g + 20, g + 21] σ0 σ → Wp G mX2_renew d 13 [.ref g, .int (nI i)] [] σ 0 0 (pV fun s => fr [g + 1 + 4, g + 1 + 5, g + 13, g + 14, g + 15, g + 16, g + 17, g + 18, g + 19, g + 20, g + 21] σ0 s ∧ GS s g kn nb n wk T) := by
  intro y
  induction y with
  | zero =>
    intro i σ hi hG hTb hT hLR hFS hWn hGW hF
    obtain rfl : i = 9 := by omega
    refine wp_iload_n (atd dX2_renew 7 rfl) rfl ?_
    refine wp_aload_n (atd dX2_renew 8 rfl) rfl rfl ?_
    refine wp_get fX2_20 (atd dX2_renew 9 rfl) hG rfl ?_
    refine wp_lenR (atd dX2_renew 10 rfl) hTb (by decide) ?_
    refine wp_icmpN_ge (tgt := 38) (atd dX2_renew 11 rfl) (by decide) (by omega) (by omega) (fun c_19 => ?_) (fun c_19 => ?_)
    ·
      refine wp_vretv (atd dX2_renew 20 rfl) rfl ?_
      refine ⟨hF, hG, hTb, ⟨hT, hLR, t, l, hFS, ht⟩, hWn, fun kd h hk h1 h3 => ?_⟩
      obtain ⟨rd, op, tn, rf, hp, a1, a2, a3⟩ := hGW kd h hk h1 h3
      have a3 := a3 (gix_lt hk h1 h3)
      subst a3
      exact ⟨false, op, tn, rf, hp, a1, a2, fun z => (by cases z)⟩
    · exfalso; omega
  | succ y ih =>
    intro i σ hi hG hTb hT hLR hFS hWn hGW hF
    obtain ⟨w, hl, nw, hW, hH, hNw, hb⟩ := hWn
    obtain ⟨rd, op, tn, rf, hp, hGm⟩ := GW_at hGW (by omega)
    refine wp_iload_n (atd dX2_renew 7 rfl) rfl ?_
    refine wp_aload_n (atd dX2_renew 8 rfl) rfl rfl ?_
    refine wp_get fX2_20 (atd dX2_renew 9 rfl) hG rfl ?_
    refine wp_lenR (atd dX2_renew 10 rfl) hTb (by decide) ?_
    refine wp_icmpN_ge (tgt := 38) (atd dX2_renew 11 rfl) (by decide) (by omega) (by omega) (fun c_19 => ?_) (fun c_19 => ?_)
    · exfalso; omega
    ·
      refine wp_aload_n (atd dX2_renew 12 rfl) rfl rfl ?_
      refine wp_get fX2_20 (atd dX2_renew 13 rfl) hG rfl ?_
      refine wp_iload_n (atd dX2_renew 14 rfl) rfl ?_
      refine wp_aaldR (atd dX2_renew 15 rfl) hTb (by decide) rfl (by omega) (Nat.le_of_ble_eq_true rfl) ?_
      show Wp G mX2_renew d 28 _ (.ref (g + 13 + i) :: _) _ _ _ _
      refine wp_iconst (v := nI 0) (atd dX2_renew 16 rfl) (by decide) ?_
      refine wp_putX fX2_48 (atd dX2_renew 17 rfl) hGm (by decide) (Nat.le_of_ble_eq_true rfl) (fun σ f_29 hGm => ?_)
      have hG := hG.fr f_29 (by first | decide | (simp only [List.mem_cons, List.not_mem_nil, or_false]; omega))
      have hTb := hTb.fr f_29 (by first | decide | (simp only [List.mem_cons, List.not_mem_nil, or_false]; omega))
      have hT := hT.fr f_29 ⟨by simp only [List.mem_cons, List.not_mem_nil, or_false]; omega, by simp only [List.mem_cons, List.not_mem_nil, or_false]; omega, by simp only [List.mem_cons, List.not_mem_nil, or_false]; omega⟩
      have hLR := hLR.fr f_29 ⟨by simp only [List.mem_cons, List.not_mem_nil, or_false]; omega, by simp only [List.mem_cons, List.not_mem_nil, or_false]; omega⟩
      have hFS := hFS.fr f_29 ⟨by simp only [List.mem_cons, List.not_mem_nil, or_false]; omega, by simp only [List.mem_cons, List.not_mem_nil, or_false]; omega, by simp only [List.mem_cons, List.not_mem_nil, or_false]; omega⟩
      have hW := hW.fr f_29 (by first | decide | (simp only [List.mem_cons, List.not_mem_nil, or_false]; omega))
      have hH := hH.fr f_29 (by first | decide | (simp only [List.mem_cons, List.not_mem_nil, or_false]; omega))
      have hNw := hNw.fr f_29 (by first | decide | (simp only [List.mem_cons, List.not_mem_nil, or_false]; omega))
      have hF := hF.tr f_29 (fun j hj => by simp only [List.mem_cons, List.not_mem_nil, or_false] at hj ⊢; omega)
      refine wp_iincN (c := 1) (atd dX2_renew 18 rfl) rfl ?_
      refine wp_goto (tgt := 13) (atd dX2_renew 19 rfl) (by decide) ?_
      exact ih (i + 1) σ (by omega) hG hTb hT hLR hFS ⟨w, hl, nw, hW, hH, hNw, hb⟩ (GW_step hGW f_29 (by omega) hGm hwk) hF
theorem eX2_renew {G : Gx} {d : Nat} {σ : Hp} (hd : 2 ≤ d) {g kn n n0 T : Nat} {nb nb0 : Nat → Nat} {wk : Nat → Option Nat} (hn : n ≤ 9) (hw : ∀ p, nb p < 512) (hN : OB σ kn 3 [.int (nI n), .ref (kn + 1)]) (hNA : AI σ (kn + 1) 9 nb) (hS : GS σ g kn nb0 n0 wk T) (hwk : ∀ j a, wk j = some a → (a < g ∨ g + 21 < a)) (hap : kn + 1 < g ∨ g + 21 < kn) : Cl G mX2_renew d [.ref g] σ 0 0 (pV fun s => fr [g + 1 + 4, g + 1 + 5, g + 13, g + 14, g + 15, g + 16, g + 17, g + 18, g + 19, g + 20, g + 21] σ s ∧ GS s g kn nb n wk T) := by
  obtain ⟨d0, hdd⟩ : ∃ e, d = e + 1 := ⟨d - 1, by omega⟩
  refine cl_of (by decide) (by simp [Value.category]) (Nat.le_of_ble_eq_true rfl) ?_
  show Wp G mX2_renew d 0 [.ref g, .double 0] [] σ 0 0 _
  obtain ⟨hG, hTb, ⟨hT, hLR, t, l, hFS, ht⟩, ⟨w, hl, nw, hW, hH, hNw, hb⟩, hgs⟩ := hS
  have hRo := hFS.ob
  obtain ⟨ns, nc, hNs, hNc, hLN⟩ := hLR
  have h99 : nc 9 = 1 ∧ ns 90 = 9 := by
    obtain ⟨a, b⟩ := hLN 9 (by omega)
    have e9 : nl nb0 9 = [9] := if_pos rfl
    rw [e9] at a b
    exact ⟨a, b 0 (by simp)⟩
  refine wp_aload_n (atd dX2_renew 0 rfl) rfl rfl ?_
  refine wp_get fX2_12 (atd dX2_renew 1 rfl) hG rfl ?_
  refine wp_aload_n (atd dX2_renew 2 rfl) rfl rfl ?_
  refine wp_get fX2_34 (atd dX2_renew 3 rfl) hG rfl ?_
  refine wp_cVv hdd [_] (atd dX2_renew 4 rfl) iX5_learn lX2_44 rfl rfl (Nat.le_of_ble_eq_true rfl) hRo rfl (eX5_learn (by omega) hRo hN hNA hNs hNc h99 hn hw (by omega)) (fun s_8 h_8 => ?_)
  obtain ⟨f_8, hRo, hLR⟩ := h_8
  have hG := hG.fr f_8 (by simp only [List.mem_cons, List.not_mem_nil, or_false]; omega)
  have hTb := hTb.fr f_8 (by simp only [List.mem_cons, List.not_mem_nil, or_false]; omega)
  have hW := hW.fr f_8 (by simp only [List.mem_cons, List.not_mem_nil, or_false]; omega)
  have hH := hH.fr f_8 (by simp only [List.mem_cons, List.not_mem_nil, or_false]; omega)
  have hNw := hNw.fr f_8 (by simp only [List.mem_cons, List.not_mem_nil, or_false]; omega)
  have hT := hT.fr f_8 ⟨by simp only [List.mem_cons, List.not_mem_nil, or_false]; omega, by simp only [List.mem_cons, List.not_mem_nil, or_false]; omega, by simp only [List.mem_cons, List.not_mem_nil, or_false]; omega⟩
  have hFS := hFS.fr f_8 ⟨by simp only [List.mem_cons, List.not_mem_nil, or_false]; omega, by simp only [List.mem_cons, List.not_mem_nil, or_false]; omega, by simp only [List.mem_cons, List.not_mem_nil, or_false]; omega⟩
  have hGW : GW s_8 g wk 0 := fun kd h hk h1 h3 => by
    obtain ⟨rd, op, tn, rf, hp, a1, a2, -⟩ := hgs kd h hk h1 h3
    have hx := gix_lt hk h1 h3
    exact ⟨rd, op, tn, rf, hp, a1.fr f_8 (by simp only [List.mem_cons, List.not_mem_nil, or_false]; omega), fun wa e => (a2 wa e).fr f_8 (by have := hwk _ _ e; simp only [List.mem_cons, List.not_mem_nil, or_false]; omega), fun z => absurd z (Nat.not_lt_zero _)⟩
  have hF : fr [g + 1 + 4, g + 1 + 5, g + 13, g + 14, g + 15, g + 16, g + 17, g + 18, g + 19, g + 20, g + 21] σ s_8 := f_8.mono (fun j hj => by simp only [List.mem_cons, List.not_mem_nil, or_false] at hj ⊢; omega)
  refine wp_iconst (v := nI 0) (atd dX2_renew 5 rfl) (by decide) ?_
  refine wp_istore_n (atd dX2_renew 6 rfl) (Nat.le_of_ble_eq_true rfl) ?_
  exact lX2_renew ht hwk 9 0 s_8 (by omega) hG hTb hT hLR hFS ⟨w, hl, nw, hW, hH, hNw, hb⟩ hGW hF
theorem SM.fr {σ s : Hp} {S : List Nat} {mk : Nat → Option Nat} (h : SM σ mk) (f : fr S σ s) (hk : ∀ i a, mk i = some a → a ∉ S) : SM s mk := by
  rcases h with h | ⟨ka, kq, kw, e1, e2, e3, x1, x2, x3⟩
  · exact Or.inl h
  · exact Or.inr ⟨ka, kq, kw, e1, e2, e3, x1.fr f (hk _ _ e1), x2.fr f (hk _ _ e2), x3.fr f (hk _ _ e3)⟩
theorem eX8_renew {G : Gx} {d : Nat} {σ : Hp} (hd : 0 ≤ d) {n n0 : Nat} {nb nb0 : Nat → Nat} {mk : Nat → Option Nat} {rd : Nat → Bool} {rn : Nat → Option Nat} {pa : Nat → Nat} (hS : SSx σ nb0 n0 mk rd rn pa) (hMK : MKO mk σ.1) : Cl G mX8_renew d [.ref 39] σ 0 0 (pV fun s => fr [39 + 1] σ s ∧ ∃ rd, SSx s nb n mk rd rn pa) := by
  refine cl_of (by decide) (by simp [Value.category]) (Nat.le_of_ble_eq_true rfl) ?_
  show Wp G mX8_renew d 0 [.ref 39] [] σ 0 0 _
  have hF : fr [39 + 1] σ σ := fr.rf
  obtain ⟨⟨qd, hO⟩, hRy, hRn, hPa, hM, -⟩ := hS
  refine wp_aload_n (atd dX8_renew 0 rfl) rfl rfl ?_
  refine wp_get fX8_11 (atd dX8_renew 1 rfl) hO rfl ?_
  refine wp_iconst (v := nI 0) (atd dX8_renew 2 rfl) (by decide) ?_
  refine wp_iconst (v := nI 0) (atd dX8_renew 3 rfl) (by decide) ?_
  refine wp_zastB (v := false) (atd dX8_renew 4 rfl) hRy (by omega) (Nat.le_of_ble_eq_true rfl) (fun σ f_6 hRy => ?_)
  have hO := hO.fr f_6 (by first | decide | (simp only [List.mem_cons, List.not_mem_nil, or_false]; omega))
  have hRn := hRn.fr f_6 (by first | decide | (simp only [List.mem_cons, List.not_mem_nil, or_false]; omega))
  have hPa := hPa.fr f_6 (by first | decide | (simp only [List.mem_cons, List.not_mem_nil, or_false]; omega))
  have hF := hF.tr f_6 (by simp)
  refine wp_aload_n (atd dX8_renew 5 rfl) rfl rfl ?_
  refine wp_get fX8_11 (atd dX8_renew 6 rfl) hO rfl ?_
  refine wp_iconst (v := nI 1) (atd dX8_renew 7 rfl) (by decide) ?_
  refine wp_iconst (v := nI 0) (atd dX8_renew 8 rfl) (by decide) ?_
  refine wp_zastB (v := false) (atd dX8_renew 9 rfl) hRy (by omega) (Nat.le_of_ble_eq_true rfl) (fun σ f_13 hRy => ?_)
  have hO := hO.fr f_13 (by first | decide | (simp only [List.mem_cons, List.not_mem_nil, or_false]; omega))
  have hRn := hRn.fr f_13 (by first | decide | (simp only [List.mem_cons, List.not_mem_nil, or_false]; omega))
  have hPa := hPa.fr f_13 (by first | decide | (simp only [List.mem_cons, List.not_mem_nil, or_false]; omega))
  have hF := hF.tr f_13 (by simp)
  refine wp_vretv (atd dX8_renew 10 rfl) rfl ?_
  refine ⟨hF, _, ⟨_, hO⟩, hRy, hRn, hPa, hM.fr hF (fun i a e => by have := (hMK.1 i a e).1; simp only [List.mem_cons, List.not_mem_nil, or_false]; omega), fun h h1 h2 z => ?_⟩
  rcases (show h = 1 ∨ h = 2 by omega) with rfl | rfl <;> simp [va_up] at z
noncomputable def rwI (nb : Nat → Nat) (n : Nat) (a r : Int32) : Int32 := swF nb n a (fun h k => if isP r (k + 1) then nI (xi h n (swY nb n h k r.toNatClampNeg).1) else -1)
theorem sw_cases (nb : Nat → Nat) (n : Nat) (a : Int32) : (∀ f, swF nb n a f = -1) ∨ ∃ h k, 1 ≤ h ∧ h ≤ 2 ∧ a = nI h ∧ 0 < n ∧ swK nb n h = some k ∧ k ≤ 60 ∧ ∀ f, swF nb n a f = f h k := by
  by_cases e : isW2 a ∧ 0 < n
  · obtain ⟨h, h1, h2, rfl⟩ := isW2_of e.1
    cases hk : swK nb n h with
    | none => exact Or.inl fun f => swF_n h1 h2 e.2 hk
    | some k => exact Or.inr ⟨h, k, h1, h2, rfl, e.2, hk, swK_le hk, fun f => swF_t h1 h2 e.2 hk⟩
  · exact Or.inl fun f => swF_f e
theorem isP_lt0 {r : Int32} {k : Nat} (h : r < 0) : ¬ isP r k := fun z => by
  rw [Int32.lt_iff_toInt_lt, show (0 : Int32).toInt = 0 from by decide] at h
  have := z.1
  omega
theorem isP_gt {r : Int32} {k : Nat} (hk : k < 2 ^ 31) (h : r > nI k) : ¬ isP r (k + 1) := fun z => by
  rw [gt_iff_lt, Int32.lt_iff_toInt_lt, nI_toInt hk] at h
  have := z.2
  omega
theorem isP_in {r : Int32} {k : Nat} (hk : k < 1000) (h : ¬ r < 0) (h2 : ¬ r > nI k) : ∃ j, j ≤ k ∧ r = nI j := by
  rw [Int32.lt_iff_toInt_lt, show (0 : Int32).toInt = 0 from by decide] at h
  rw [gt_iff_lt, Int32.lt_iff_toInt_lt, nI_toInt (by omega)] at h2
  obtain ⟨j, h1, rfl⟩ := isP_ofB (n := k + 1) (p := r) ⟨by omega, by omega⟩
  exact ⟨j, by omega, rfl⟩
theorem bX8_rowIn {G : Gx} {d : Nat} {σ : Hp} (hd : 1 ≤ d) {n qd : Nat} {nb : Nat → Nat} {rn : Nat → Option Nat} {pa : Nat → Nat} {v1 v2 v3 y3 : Value} {a r z : Int32} (hO : OB σ 39 8 (seF 39 5 13 v1 v2 v3 qd)) (hPa : AI σ (39 + 3) 122 pa) (hz : z = swF nb n a (fun _ k => nI k)) (hK : ∀ h, 1 ≤ h → h ≤ 2 → a = nI h → 0 < n → K1 nb n h rn pa) : Wp G mX8_rowIn d 5 [.ref 39, .int a, .int r, y3] [.int z] σ 0 0 (pI fun v s => v = rwI nb n a r ∧ s = σ) := by
  obtain ⟨d0, hdd⟩ : ∃ e, d = e + 1 := ⟨d - 1, by omega⟩
  rcases sw_cases nb n a with hx | ⟨h, k, hh1, hh2, rfl, hn0, hk, hk60, hx⟩
  ·
    rw [hx] at hz
    subst hz
    refine wp_istore_n (atd dX8_rowIn 3 rfl) (Nat.le_of_ble_eq_true rfl) ?_
    refine wp_iload_n (atd dX8_rowIn 4 rfl) rfl ?_
    refine wp_iconst (v := -1) (atd dX8_rowIn 5 rfl) (by decide) ?_
    refine wp_icmp_eq (tgt := 33) (atd dX8_rowIn 6 rfl) (by decide) (fun c_8 => ?_) (fun c_8 => ?_)
    ·
      refine wp_iconst (v := -1) (atd dX8_rowIn 19 rfl) (by decide) ?_
      refine wp_ireti (atd dX8_rowIn 20 rfl) rfl ?_
      exact ⟨(hx _).symm, rfl⟩
    · exact absurd rfl c_8
  ·
    rw [hx] at hz
    have hz : z = nI k := hz
    subst hz
    refine wp_istore_n (atd dX8_rowIn 3 rfl) (Nat.le_of_ble_eq_true rfl) ?_
    refine wp_iload_n (atd dX8_rowIn 4 rfl) rfl ?_
    refine wp_iconst (v := -1) (atd dX8_rowIn 5 rfl) (by decide) ?_
    refine wp_icmp_eq (tgt := 33) (atd dX8_rowIn 6 rfl) (by decide) (fun c_8 => ?_) (fun c_8 => ?_)
    · exact absurd c_8 (nI_m1 (by omega))
    ·
      refine wp_iload_n (atd dX8_rowIn 7 rfl) rfl ?_
      refine wp_if_lt (tgt := 33) (atd dX8_rowIn 8 rfl) (by decide) (fun c_12 => ?_) (fun c_12 => ?_)
      ·
        refine wp_iconst (v := -1) (atd dX8_rowIn 19 rfl) (by decide) ?_
        refine wp_ireti (atd dX8_rowIn 20 rfl) rfl ?_
        refine ⟨?_, rfl⟩
        rw [rwI, hx, if_neg (isP_lt0 c_12)]
      ·
        refine wp_iload_n (atd dX8_rowIn 9 rfl) rfl ?_
        refine wp_iload_n (atd dX8_rowIn 10 rfl) rfl ?_
        refine wp_icmp_gt (tgt := 33) (atd dX8_rowIn 11 rfl) (by decide) (fun c_17 => ?_) (fun c_17 => ?_)
        ·
          refine wp_iconst (v := -1) (atd dX8_rowIn 19 rfl) (by decide) ?_
          refine wp_ireti (atd dX8_rowIn 20 rfl) rfl ?_
          refine ⟨?_, rfl⟩
          rw [rwI, hx, if_neg (isP_gt (by omega) c_17)]
        ·
          obtain ⟨r0, hr0, rfl⟩ := isP_in (by omega) c_12 c_17
          refine wp_aload_n (atd dX8_rowIn 12 rfl) rfl rfl ?_
          refine wp_get fX8_19 (atd dX8_rowIn 13 rfl) hO rfl ?_
          refine wp_iload_n (atd dX8_rowIn 14 rfl) rfl ?_
          refine wp_iload_n (atd dX8_rowIn 15 rfl) rfl ?_
          refine wp_cSi hdd [_, _] (atd dX8_rowIn 16 rfl) iX8_pathIndex lX8_48 rfl rfl (Nat.le_of_ble_eq_true rfl) (eX8_pathIndex (by omega) hh1) (fun r_26 s_26 h_26 => ?_)
          obtain ⟨rfl, e_26⟩ := h_26
          obtain rfl := e_26.symm
          refine wp_ialdA (atd dX8_rowIn 17 rfl) hPa (by omega) (Nat.le_of_ble_eq_true rfl) ?_
          refine wp_goto (tgt := 34) (atd dX8_rowIn 18 rfl) (by decide) ?_
          refine wp_ireti (atd dX8_rowIn 20 rfl) rfl ?_
          refine ⟨?_, rfl⟩
          rw [rwI, hx, if_pos ((isP_nI (by omega)).mpr (by omega)), nI_clamp (by omega), (hK h hh1 hh2 rfl hn0).2 k hk r0 hr0]
