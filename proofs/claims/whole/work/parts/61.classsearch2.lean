noncomputable def stlG (nb : Nat → Nat) (f s : Nat) : Nat → Nat → BQ → Option Nat × BQ
  | 0, _, Q => (none, Q)
  | k + 1, y, Q => @ite _ (STP nb 0 (f + s / 512) y) (Classical.propDecidable _) (if dif (s % 512) (sdC y) = 0 then (some y, Q) else stlG nb f s k (y + 1) (enqF Q ((y - f) * 512 + dif (nall nb 9 (dif (s % 512) (sdC y))) (sdC y)) (some s))) (stlG nb f s k (y + 1) Q)
theorem stlG_n {nb : Nat → Nat} {f s k y : Nat} {Q : BQ} (h : ¬ STP nb 0 (f + s / 512) y) : stlG nb f s (k + 1) y Q = stlG nb f s k (y + 1) Q := if_neg h
theorem stlG_f {nb : Nat → Nat} {f s k y : Nat} {Q : BQ} (h : STP nb 0 (f + s / 512) y) (h0 : dif (s % 512) (sdC y) = 0) : stlG nb f s (k + 1) y Q = (some y, Q) := (if_pos h).trans (if_pos h0)
theorem stlG_e {nb : Nat → Nat} {f s k y : Nat} {Q : BQ} (h : STP nb 0 (f + s / 512) y) (h0 : ¬ dif (s % 512) (sdC y) = 0) : stlG nb f s (k + 1) y Q = stlG nb f s k (y + 1) (enqF Q ((y - f) * 512 + dif (nall nb 9 (dif (s % 512) (sdC y))) (sdC y)) (some s)) := (if_pos h).trans (if_neg h0)
theorem dif_or_lt {a : Nat} {x : Nat} (ha : a < 45) (hx : x < 512) : a * 512 + x < 23040 := by omega
theorem chn_enq {Q : BQ} (hQ : QOk Q) {s : Nat} {v : Option Nat} {m a : Nat} {c : Nat → Nat} (hc : chn Q.2 m a c) : chn (enqF Q s v).2 m a c := by
  refine ⟨hc.1, fun i hi => ?_, hc.2.2⟩
  unfold enqF
  by_cases e : Q.2 s = none
  · rw [if_pos e]
    show va_up Q.2 s (some v) (c (i + 1)) = _
    have : c (i + 1) ≠ s := fun z => by have := hc.2.1 i hi; rw [z, e] at this; cases this
    simp only [va_up, if_neg this]
    exact hc.2.1 i hi
  · rw [if_neg e]; exact hc.2.1 i hi
theorem lX8_steps {G : Gx} {d : Nat} (hd : 2 ≤ d) {σ0 : Hp} {ka kq kw n h : Nat} {nb wd : Nat → Nat} (hNt : isNetZ n nb) (hw : ∀ p, nb p < 512) (hh1 : 1 ≤ h) (hh2 : h ≤ 2) (hwd : ∀ s, s < 2 ^ n → wd s = nall nb 9 s) (hka : 104 ≤ ka) (hkq : 104 ≤ kq) (hkw : 104 ≤ kw) (hka2 : ka ≠ kq ∧ ka ≠ kw ∧ kq ≠ kw) {s ro T : Nat} {c : Nat → Nat} {rn : Nat → Option Nat} {pa : Nat → Nat} {v : Option Nat × BQ} (hs : s < 23040) (hs2 : s % 512 < 2 ^ n) (hro : 1 ≤ ro) (hro2 : ro ≤ 60) (hT2 : T < 2 ^ 31 ∧ 0 < T) : ∀ (x : Nat) (y : Nat) (σ : Hp) (Q : BQ) (t : Nat) (l : List Nat) (y6 y7 : Value), y + x = frN (h + 1) → frN h ≤ y → OB σ 39 8 (seF 39 5 13 (.ref ka) (.ref kq) (.ref kw) Q.1.length) → OB σ 5 3 [.int (nI n), .ref (5 + 1)] → AI σ (5 + 1) 9 nb → RT σ 13 → LR σ 13 nb → FS σ 13 T l → QS σ ka kq Q → AI σ kw 512 wd → AO σ (39 + 2) 2 rn → AI σ (39 + 3) 122 pa → fr [39, ka, kq, 39 + 2, 39 + 3, 13, 13 + 6, 13 + 7] σ0 σ → QOk Q → (∀ z, z ∈ l ↔ STP nb 0 (frN h + s / 512) z) → chn Q.2 (ro - 1) s c → stlG nb (frN h) s x y Q = v → Wp G mX8_stepsToLight d 27 [.ref 39, .int (nI h), .int (nI s), .int (nI ro), .int (nI (frN h)), .int (nI y), y6, y7] [] σ 0 0 (pI fun z s2 => z = bI (v.1 ≠ none) ∧ fr [39, ka, kq, 39 + 2, 39 + 3, 13, 13 + 6, 13 + 7] σ0 s2 ∧ OB s2 39 8 (seF 39 5 13 (.ref ka) (.ref kq) (.ref kw) v.2.1.length) ∧ RT s2 13 ∧ LR s2 13 nb ∧ (∃ l, FS s2 13 T l) ∧ QS s2 ka kq v.2 ∧ QOk v.2 ∧ ((v.1 = none ∧ AO s2 (39 + 2) 2 rn ∧ AI s2 (39 + 3) 122 pa) ∨ ∃ y, v.1 = some y ∧ AO s2 (39 + 2) 2 (va_up rn (h - 1) (some ro)) ∧ ∃ pa2, AI s2 (39 + 3) 122 pa2 ∧ (∀ i, i < ro → pa2 ((h - 1) * 61 + i) = frN h + c i / 512) ∧ pa2 ((h - 1) * 61 + ro) = y ∧ ∀ i, i < 122 → (i < (h - 1) * 61 ∨ (h - 1) * 61 + ro < i) → pa2 i = pa i)) := by
  obtain ⟨d0, hdd⟩ : ∃ e, d = e + 1 := ⟨d - 1, by omega⟩
  intro x
  induction x with
  | zero =>
    have hn := hNt.1.1
    have hfl := frN_le h hh1 (by omega)
    have h45 : frN (h + 1) ≤ frN h + 45 := by rcases (show h = 1 ∨ h = 2 by omega) with rfl | rfl <;> decide
    have h9 := pow_le9 hn
    intro y σ Q t l y6 y7 h_ hy hO hN hNA hT hLR hFS hQS hWd hRn hPa hF hQ hml hc hv
    refine wp_iload (atd dX8_stepsToLight 15 rfl) rfl ?_
    refine wp_frow fX8_61 (atd dX8_stepsToLight 16 rfl) ?_
    refine wp_iload_n (atd dX8_stepsToLight 17 rfl) rfl ?_
    refine wp_iconst (v := nI 1) (atd dX8_stepsToLight 18 rfl) (by decide) ?_
    refine wp_iaddN (atd dX8_stepsToLight 19 rfl) ?_
    refine wp_faldN (atd dX8_stepsToLight 20 rfl) (by omega) ?_
    rw [frow_N]
    refine wp_icmpN_ge (tgt := 144) (atd dX8_stepsToLight 21 rfl) (by decide) (by omega) (by omega) (fun c_36 => ?_) (fun c_36 => ?_)
    ·
      refine wp_iconst (v := nI 0) (atd dX8_stepsToLight 84 rfl) (by decide) ?_
      refine wp_iretz (atd dX8_stepsToLight 85 rfl) rfl (by first | rfl | decide) ?_
      have e : v = (none, Q) := hv.symm
      rw [e]
      exact ⟨(bI_f (fun z => z rfl)).symm, hF, hO, hT, hLR, ⟨l, hFS⟩, hQS, hQ, Or.inl ⟨rfl, hRn, hPa⟩⟩
    · exfalso; omega
  | succ x ih =>
    have hn := hNt.1.1
    have hfl := frN_le h hh1 (by omega)
    have h45 : frN (h + 1) ≤ frN h + 45 := by rcases (show h = 1 ∨ h = 2 by omega) with rfl | rfl <;> decide
    have h9 := pow_le9 hn
    intro y σ Q t l y6 y7 h_ hy hO hN hNA hT hLR hFS hQS hWd hRn hPa hF hQ hml hc hv
    have hsm : s % 512 < 512 := Nat.mod_lt _ (by decide)
    refine wp_iload (atd dX8_stepsToLight 15 rfl) rfl ?_
    refine wp_frow fX8_61 (atd dX8_stepsToLight 16 rfl) ?_
    refine wp_iload_n (atd dX8_stepsToLight 17 rfl) rfl ?_
    refine wp_iconst (v := nI 1) (atd dX8_stepsToLight 18 rfl) (by decide) ?_
    refine wp_iaddN (atd dX8_stepsToLight 19 rfl) ?_
    refine wp_faldN (atd dX8_stepsToLight 20 rfl) (by omega) ?_
    rw [frow_N]
    refine wp_icmpN_ge (tgt := 144) (atd dX8_stepsToLight 21 rfl) (by decide) (by omega) (by omega) (fun c_36 => ?_) (fun c_36 => ?_)
    · exfalso; omega
    ·
      refine wp_aload_n (atd dX8_stepsToLight 22 rfl) rfl rfl ?_
      refine wp_get fX8_26 (atd dX8_stepsToLight 23 rfl) hO rfl ?_
      refine wp_iload (atd dX8_stepsToLight 24 rfl) rfl ?_
      refine wp_cVi hdd [_] (atd dX8_stepsToLight 25 rfl) iX5_isFound lX8_103 rfl rfl (Nat.le_of_ble_eq_true rfl) hFS.ob rfl (eX5_isFound (by omega) hFS (by omega) (by omega)) (fun r_45 s_45 h_45 => ?_)
      obtain ⟨rfl, e_45⟩ := h_45
      obtain rfl := e_45.symm
      refine wp_ifB_eq (tgt := 138) (atd dX8_stepsToLight 26 rfl) (by decide) (fun c_48 => ?_) (fun c_48 => ?_)
      ·
        refine wp_iincN (c := 1) (atd dX8_stepsToLight 82 rfl) rfl ?_
        refine wp_goto (tgt := 27) (atd dX8_stepsToLight 83 rfl) (by decide) ?_
        exact ih (y + 1) σ Q t l _ _ (by omega) (by omega) hO hN hNA hT hLR hFS hQS hWd hRn hPa hF hQ hml hc (by rw [← hv, stlG_n (fun e => c_48 ((hml y).mpr e))])
      ·
        refine wp_aload_n (atd dX8_stepsToLight 27 rfl) rfl rfl ?_
        refine wp_get fX8_26 (atd dX8_stepsToLight 28 rfl) hO rfl ?_
        refine wp_iload (atd dX8_stepsToLight 29 rfl) rfl ?_
        refine wp_cVi hdd [_] (atd dX8_stepsToLight 30 rfl) iX5_standBits lX8_52 rfl rfl (Nat.le_of_ble_eq_true rfl) hFS.ob rfl (eX5_standBits (by omega) hFS.ob hT (by omega)) (fun r_57 s_57 h_57 => ?_)
        obtain ⟨rfl, e_57⟩ := h_57
        obtain rfl := e_57.symm
        refine wp_istore (atd dX8_stepsToLight 31 rfl) (Nat.le_of_ble_eq_true rfl) ?_
        refine wp_iload_n (atd dX8_stepsToLight 32 rfl) rfl ?_
        refine wp_sipush (v := nI 512) (atd dX8_stepsToLight 33 rfl) (by decide) ?_
        refine wp_iremN (atd dX8_stepsToLight 34 rfl) (by omega) (by omega) (by omega) ?_
        refine wp_iload (atd dX8_stepsToLight 35 rfl) rfl ?_
        refine wp_iconst (v := -1) (atd dX8_stepsToLight 36 rfl) (by decide) ?_
        refine wp_ixor (atd dX8_stepsToLight 37 rfl) ?_
        refine wp_iandC (atd dX8_stepsToLight 38 rfl) ?_
        refine wp_istore (atd dX8_stepsToLight 39 rfl) (Nat.le_of_ble_eq_true rfl) ?_
        refine wp_iload (atd dX8_stepsToLight 40 rfl) rfl ?_
        refine wp_ifN_ne (tgt := 111) (atd dX8_stepsToLight 41 rfl) (by decide) (by have := dif_lt9 (b := sdC y) hsm; omega) (fun c_76 => ?_) (fun c_76 => ?_)
        ·
          refine wp_aload_n (atd dX8_stepsToLight 65 rfl) rfl rfl ?_
          refine wp_iload (atd dX8_stepsToLight 66 rfl) rfl ?_
          refine wp_iload (atd dX8_stepsToLight 67 rfl) rfl ?_
          refine wp_isubN (atd dX8_stepsToLight 68 rfl) (by omega) ?_
          refine wp_sipush (v := nI 512) (atd dX8_stepsToLight 69 rfl) (by decide) ?_
          refine wp_imulN (atd dX8_stepsToLight 70 rfl) ?_
          refine wp_aload_n (atd dX8_stepsToLight 71 rfl) rfl rfl ?_
          refine wp_get fX8_87 (atd dX8_stepsToLight 72 rfl) hO rfl ?_
          refine wp_iload (atd dX8_stepsToLight 73 rfl) rfl ?_
          refine wp_ialdA (atd dX8_stepsToLight 74 rfl) hWd (by have := dif_lt9 (b := sdC y) hsm; omega) (Nat.le_of_ble_eq_true rfl) ?_
          have hdk : dif (s % 512) (sdC y) < 2 ^ n := dif_lt hs2
          rw [hwd _ hdk]
          have hst : (y - frN h) * 512 + dif (nall nb 9 (dif (s % 512) (sdC y))) (sdC y) < 23040 := dif_or_lt (by omega) (dif_lt9 (nall9_lt hw _))
          refine wp_iload (atd dX8_stepsToLight 75 rfl) rfl ?_
          refine wp_iconst (v := -1) (atd dX8_stepsToLight 76 rfl) (by decide) ?_
          refine wp_ixor (atd dX8_stepsToLight 77 rfl) ?_
          refine wp_iandC (atd dX8_stepsToLight 78 rfl) ?_
          refine wp_iaddN (atd dX8_stepsToLight 79 rfl) ?_
          refine wp_iload_n (atd dX8_stepsToLight 80 rfl) rfl ?_
          refine wp_cVv hdd [_, _] (atd dX8_stepsToLight 81 rfl) iX8_enqueue lX8_70 rfl rfl (Nat.le_of_ble_eq_true rfl) hO rfl (eX8_enqueue (v := some s) (by omega) hO hQS hQ hst (by omega)) (fun s_135 h_135 => ?_)
          obtain ⟨f_135, hO, hQS⟩ := h_135
          have hN := hN.fr f_135 (by first | decide | (simp only [List.mem_cons, List.not_mem_nil, or_false]; omega))
          have hNA := hNA.fr f_135 (by first | decide | (simp only [List.mem_cons, List.not_mem_nil, or_false]; omega))
          have hT := hT.fr f_135 ⟨by simp only [List.mem_cons, List.not_mem_nil, or_false]; omega, by simp only [List.mem_cons, List.not_mem_nil, or_false]; omega, by simp only [List.mem_cons, List.not_mem_nil, or_false]; omega⟩
          have hLR := hLR.fr f_135 ⟨by simp only [List.mem_cons, List.not_mem_nil, or_false]; omega, by simp only [List.mem_cons, List.not_mem_nil, or_false]; omega⟩
          have hFS := hFS.fr f_135 ⟨by simp only [List.mem_cons, List.not_mem_nil, or_false]; omega, by simp only [List.mem_cons, List.not_mem_nil, or_false]; omega, by simp only [List.mem_cons, List.not_mem_nil, or_false]; omega⟩
          have hWd := hWd.fr f_135 (by first | decide | (simp only [List.mem_cons, List.not_mem_nil, or_false]; omega))
          have hRn := hRn.fr f_135 (by first | decide | (simp only [List.mem_cons, List.not_mem_nil, or_false]; omega))
          have hPa := hPa.fr f_135 (by first | decide | (simp only [List.mem_cons, List.not_mem_nil, or_false]; omega))
          have hF := hF.tr f_135 (by simp)
          refine wp_iincN (c := 1) (atd dX8_stepsToLight 82 rfl) rfl ?_
          refine wp_goto (tgt := 27) (atd dX8_stepsToLight 83 rfl) (by decide) ?_
          refine ih (y + 1) _ _ t l _ _ (by omega) (by omega) hO hN hNA hT hLR hFS hQS hWd hRn hPa hF (hQ.enq hst (fun x hx => by cases hx; exact hs)) hml (chn_enq hQ hc) (by rw [← hv, stlG_e ((hml y).mp c_48) (by omega)])
        ·
          refine wp_aload_n (atd dX8_stepsToLight 42 rfl) rfl rfl ?_
          refine wp_get fX8_15 (atd dX8_stepsToLight 43 rfl) hO rfl ?_
          refine wp_iload_n (atd dX8_stepsToLight 44 rfl) rfl ?_
          refine wp_iconst (v := nI 1) (atd dX8_stepsToLight 45 rfl) (by decide) ?_
          refine wp_isubN (atd dX8_stepsToLight 46 rfl) (by omega) ?_
          refine wp_iload_n (atd dX8_stepsToLight 47 rfl) rfl ?_
          refine wp_iastO (v := some _) (atd dX8_stepsToLight 48 rfl) hRn (by omega) (Nat.le_of_ble_eq_true rfl) (fun σ f_87 hRn => ?_)
          have hO := hO.fr f_87 (by first | decide | (simp only [List.mem_cons, List.not_mem_nil, or_false]; omega))
          have hN := hN.fr f_87 (by first | decide | (simp only [List.mem_cons, List.not_mem_nil, or_false]; omega))
          have hNA := hNA.fr f_87 (by first | decide | (simp only [List.mem_cons, List.not_mem_nil, or_false]; omega))
          have hT := hT.fr f_87 ⟨by simp only [List.mem_cons, List.not_mem_nil, or_false]; omega, by simp only [List.mem_cons, List.not_mem_nil, or_false]; omega, by simp only [List.mem_cons, List.not_mem_nil, or_false]; omega⟩
          have hLR := hLR.fr f_87 ⟨by simp only [List.mem_cons, List.not_mem_nil, or_false]; omega, by simp only [List.mem_cons, List.not_mem_nil, or_false]; omega⟩
          have hFS := hFS.fr f_87 ⟨by simp only [List.mem_cons, List.not_mem_nil, or_false]; omega, by simp only [List.mem_cons, List.not_mem_nil, or_false]; omega, by simp only [List.mem_cons, List.not_mem_nil, or_false]; omega⟩
          have hQS := hQS.fr f_87 ⟨by simp only [List.mem_cons, List.not_mem_nil, or_false]; omega, by simp only [List.mem_cons, List.not_mem_nil, or_false]; omega⟩
          have hWd := hWd.fr f_87 (by first | decide | (simp only [List.mem_cons, List.not_mem_nil, or_false]; omega))
          have hPa := hPa.fr f_87 (by first | decide | (simp only [List.mem_cons, List.not_mem_nil, or_false]; omega))
          have hF := hF.tr f_87 (by simp)
          refine wp_aload_n (atd dX8_stepsToLight 49 rfl) rfl rfl ?_
          refine wp_get fX8_19 (atd dX8_stepsToLight 50 rfl) hO rfl ?_
          refine wp_iload_n (atd dX8_stepsToLight 51 rfl) rfl ?_
          refine wp_iload_n (atd dX8_stepsToLight 52 rfl) rfl ?_
          refine wp_cSi hdd [_, _] (atd dX8_stepsToLight 53 rfl) iX8_pathIndex lX8_48 rfl rfl (Nat.le_of_ble_eq_true rfl) (eX8_pathIndex (by omega) hh1) (fun r_94 s_94 h_94 => ?_)
          obtain ⟨rfl, e_94⟩ := h_94
          obtain rfl := e_94.symm
          refine wp_iload (atd dX8_stepsToLight 54 rfl) rfl ?_
          refine wp_iastA (atd dX8_stepsToLight 55 rfl) hPa (by omega) (Nat.le_of_ble_eq_true rfl) (fun σ f_99 hPa => ?_)
          have hO := hO.fr f_99 (by first | decide | (simp only [List.mem_cons, List.not_mem_nil, or_false]; omega))
          have hN := hN.fr f_99 (by first | decide | (simp only [List.mem_cons, List.not_mem_nil, or_false]; omega))
          have hNA := hNA.fr f_99 (by first | decide | (simp only [List.mem_cons, List.not_mem_nil, or_false]; omega))
          have hT := hT.fr f_99 ⟨by simp only [List.mem_cons, List.not_mem_nil, or_false]; omega, by simp only [List.mem_cons, List.not_mem_nil, or_false]; omega, by simp only [List.mem_cons, List.not_mem_nil, or_false]; omega⟩
          have hLR := hLR.fr f_99 ⟨by simp only [List.mem_cons, List.not_mem_nil, or_false]; omega, by simp only [List.mem_cons, List.not_mem_nil, or_false]; omega⟩
          have hFS := hFS.fr f_99 ⟨by simp only [List.mem_cons, List.not_mem_nil, or_false]; omega, by simp only [List.mem_cons, List.not_mem_nil, or_false]; omega, by simp only [List.mem_cons, List.not_mem_nil, or_false]; omega⟩
          have hQS := hQS.fr f_99 ⟨by simp only [List.mem_cons, List.not_mem_nil, or_false]; omega, by simp only [List.mem_cons, List.not_mem_nil, or_false]; omega⟩
          have hWd := hWd.fr f_99 (by first | decide | (simp only [List.mem_cons, List.not_mem_nil, or_false]; omega))
          have hRn := hRn.fr f_99 (by first | decide | (simp only [List.mem_cons, List.not_mem_nil, or_false]; omega))
          have hF := hF.tr f_99 (by simp)
          refine wp_aload_n (atd dX8_stepsToLight 56 rfl) rfl rfl ?_
          refine wp_iload_n (atd dX8_stepsToLight 57 rfl) rfl ?_
          refine wp_iload_n (atd dX8_stepsToLight 58 rfl) rfl ?_
          refine wp_iload_n (atd dX8_stepsToLight 59 rfl) rfl ?_
          refine wp_iconst (v := nI 1) (atd dX8_stepsToLight 60 rfl) (by decide) ?_
          refine wp_isubN (atd dX8_stepsToLight 61 rfl) (by omega) ?_
          refine wp_cVv hdd [_, _, _] (atd dX8_stepsToLight 62 rfl) iX8_tellPath lX8_106 rfl rfl (Nat.le_of_ble_eq_true rfl) hO rfl (eX8_tellPath (by omega) hh1 hh2 (by omega) (by omega) hc hO hQS.1 hPa) (fun s_106 h_106 => ?_)
          obtain ⟨f_106, pa2, hPa, hpa⟩ := h_106
          have hO := hO.fr f_106 (by first | decide | (simp only [List.mem_cons, List.not_mem_nil, or_false]; omega))
          have hN := hN.fr f_106 (by first | decide | (simp only [List.mem_cons, List.not_mem_nil, or_false]; omega))
          have hNA := hNA.fr f_106 (by first | decide | (simp only [List.mem_cons, List.not_mem_nil, or_false]; omega))
          have hT := hT.fr f_106 ⟨by simp only [List.mem_cons, List.not_mem_nil, or_false]; omega, by simp only [List.mem_cons, List.not_mem_nil, or_false]; omega, by simp only [List.mem_cons, List.not_mem_nil, or_false]; omega⟩
          have hLR := hLR.fr f_106 ⟨by simp only [List.mem_cons, List.not_mem_nil, or_false]; omega, by simp only [List.mem_cons, List.not_mem_nil, or_false]; omega⟩
          have hFS := hFS.fr f_106 ⟨by simp only [List.mem_cons, List.not_mem_nil, or_false]; omega, by simp only [List.mem_cons, List.not_mem_nil, or_false]; omega, by simp only [List.mem_cons, List.not_mem_nil, or_false]; omega⟩
          have hQS := hQS.fr f_106 ⟨by simp only [List.mem_cons, List.not_mem_nil, or_false]; omega, by simp only [List.mem_cons, List.not_mem_nil, or_false]; omega⟩
          have hWd := hWd.fr f_106 (by first | decide | (simp only [List.mem_cons, List.not_mem_nil, or_false]; omega))
          have hRn := hRn.fr f_106 (by first | decide | (simp only [List.mem_cons, List.not_mem_nil, or_false]; omega))
          have hF := hF.tr f_106 (by simp)
          refine wp_iconst (v := nI 1) (atd dX8_stepsToLight 63 rfl) (by decide) ?_
          refine wp_iretz (atd dX8_stepsToLight 64 rfl) rfl (by first | rfl | decide) ?_
          have e : v = (some y, Q) := by rw [← hv, stlG_f ((hml y).mp c_48) c_76]
          rw [e]
          refine ⟨(bI_t (fun z => by cases z)).symm, hF, hO, hT, hLR, ⟨l, hFS⟩, hQS, hQ, Or.inr ⟨y, rfl, hRn, pa2, hPa, fun i hi => ?_, ?_, fun i hi hi2 => ?_⟩⟩
          · rw [hpa _ (by omega), if_pos ⟨by omega, by omega⟩, Nat.add_sub_cancel_left]
          · rw [hpa _ (by omega), if_neg (by omega)]; simp [va_up]
          · rw [hpa i hi, if_neg (by omega)]; simp only [va_up]; rw [if_neg (by omega)]
theorem eX8_stepsToLight {G : Gx} {d : Nat} {σ : Hp} (hd : 3 ≤ d) {ka kq kw n h : Nat} {nb wd : Nat → Nat} (hNt : isNetZ n nb) (hw : ∀ p, nb p < 512) (hh1 : 1 ≤ h) (hh2 : h ≤ 2) (hwd : ∀ s, s < 2 ^ n → wd s = nall nb 9 s) (hka : 104 ≤ ka) (hkq : 104 ≤ kq) (hkw : 104 ≤ kw) (hka2 : ka ≠ kq ∧ ka ≠ kw ∧ kq ≠ kw) {s ro t : Nat} {c : Nat → Nat} {rn : Nat → Option Nat} {pa : Nat → Nat} {Q : BQ} {l : List Nat} (hs : s < 23040) (hs2 : s % 512 < 2 ^ n) (hx2 : frN h + s / 512 < frN (h + 1)) (hon : ON n (frN h + s / 512)) (hro : 1 ≤ ro) (hro2 : ro ≤ 60) (ht : t + 1 < 2 ^ 31) (hc : chn Q.2 (ro - 1) s c) (hQ : QOk Q) (hO : OB σ 39 8 (seF 39 5 13 (.ref ka) (.ref kq) (.ref kw) Q.1.length)) (hN : OB σ 5 3 [.int (nI n), .ref (5 + 1)]) (hNA : AI σ (5 + 1) 9 nb) (hT : RT σ 13) (hLR : LR σ 13 nb) (hFS : FS σ 13 t l) (hQS : QS σ ka kq Q) (hWd : AI σ kw 512 wd) (hRn : AO σ (39 + 2) 2 rn) (hPa : AI σ (39 + 3) 122 pa) : Cl G mX8_stepsToLight d [.ref 39, .int (nI h), .int (nI s), .int (nI ro)] σ 0 0 (pI fun z s2 => z = bI ((stlG nb (frN h) s (frN (h + 1) - frN h) (frN h) Q).1 ≠ none) ∧ fr [39, ka, kq, 39 + 2, 39 + 3, 13, 13 + 6, 13 + 7] σ s2 ∧ OB s2 39 8 (seF 39 5 13 (.ref ka) (.ref kq) (.ref kw) (stlG nb (frN h) s (frN (h + 1) - frN h) (frN h) Q).2.1.length) ∧ RT s2 13 ∧ LR s2 13 nb ∧ (∃ l, FS s2 13 (t + 1) l) ∧ QS s2 ka kq (stlG nb (frN h) s (frN (h + 1) - frN h) (frN h) Q).2 ∧ QOk (stlG nb (frN h) s (frN (h + 1) - frN h) (frN h) Q).2 ∧ (((stlG nb (frN h) s (frN (h + 1) - frN h) (frN h) Q).1 = none ∧ AO s2 (39 + 2) 2 rn ∧ AI s2 (39 + 3) 122 pa) ∨ ∃ y, (stlG nb (frN h) s (frN (h + 1) - frN h) (frN h) Q).1 = some y ∧ AO s2 (39 + 2) 2 (va_up rn (h - 1) (some ro)) ∧ ∃ pa2, AI s2 (39 + 3) 122 pa2 ∧ (∀ i, i < ro → pa2 ((h - 1) * 61 + i) = frN h + c i / 512) ∧ pa2 ((h - 1) * 61 + ro) = y ∧ ∀ i, i < 122 → (i < (h - 1) * 61 ∨ (h - 1) * 61 + ro < i) → pa2 i = pa i)) := by
  obtain ⟨d0, hdd⟩ : ∃ e, d = e + 1 := ⟨d - 1, by omega⟩
  refine cl_of (by decide) (by simp [Value.category]) (Nat.le_of_ble_eq_true rfl) ?_
  show Wp G mX8_stepsToLight d 0 [.ref 39, .int (nI h), .int (nI s), .int (nI ro), .double 0, .double 0, .double 0, .double 0] [] σ 0 0 _
  have hF : fr [39, ka, kq, 39 + 2, 39 + 3, 13, 13 + 6, 13 + 7] σ σ := fr.rf
  have hn := hNt.1.1
  have hfl := frN_le h hh1 (by omega)
  have h45 : frN (h + 1) ≤ frN h + 45 := by rcases (show h = 1 ∨ h = 2 by omega) with rfl | rfl <;> decide
  have h9 := pow_le9 hn
  have hgd := gdX_on hNt.1 hh1 (by omega) (Nat.le_add_right _ _) hx2 hon
  refine wp_frow fX8_61 (atd dX8_stepsToLight 0 rfl) ?_
  refine wp_iload_n (atd dX8_stepsToLight 1 rfl) rfl ?_
  refine wp_faldN (atd dX8_stepsToLight 2 rfl) (by omega) ?_
  rw [frow_N]
  refine wp_istore (atd dX8_stepsToLight 3 rfl) (Nat.le_of_ble_eq_true rfl) ?_
  refine wp_aload_n (atd dX8_stepsToLight 4 rfl) rfl rfl ?_
  refine wp_get fX8_26 (atd dX8_stepsToLight 5 rfl) hO rfl ?_
  refine wp_iload (atd dX8_stepsToLight 6 rfl) rfl ?_
  refine wp_iload_n (atd dX8_stepsToLight 7 rfl) rfl ?_
  refine wp_sipush (v := nI 512) (atd dX8_stepsToLight 8 rfl) (by decide) ?_
  refine wp_idivN (atd dX8_stepsToLight 9 rfl) (by omega) (by omega) (by omega) ?_
  refine wp_iaddN (atd dX8_stepsToLight 10 rfl) ?_
  refine wp_iconst (v := nI 0) (atd dX8_stepsToLight 11 rfl) (by decide) ?_
  refine wp_top (bI_f (p := (0 : Nat) = 1) (by decide)).symm ?_
  refine wp_cVv hdd [_, _] (atd dX8_stepsToLight 12 rfl) iX5_stepFrom lX8_99 rfl rfl (Nat.le_of_ble_eq_true rfl) hFS.ob rfl (eX5_stepFrom (by omega) hT hLR hFS (by omega) rfl rfl rfl hgd (by omega) (by omega) (by omega)) (fun s_20 h_20 => ?_)
  obtain ⟨f_20, hT, hLR, l2, hFS, hR, hml⟩ := h_20
  have hO := hO.fr f_20 (by first | decide | (simp only [List.mem_cons, List.not_mem_nil, or_false]; omega))
  have hN := hN.fr f_20 (by first | decide | (simp only [List.mem_cons, List.not_mem_nil, or_false]; omega))
  have hNA := hNA.fr f_20 (by first | decide | (simp only [List.mem_cons, List.not_mem_nil, or_false]; omega))
  have hQS := hQS.fr f_20 ⟨by simp only [List.mem_cons, List.not_mem_nil, or_false]; omega, by simp only [List.mem_cons, List.not_mem_nil, or_false]; omega⟩
  have hWd := hWd.fr f_20 (by first | decide | (simp only [List.mem_cons, List.not_mem_nil, or_false]; omega))
  have hRn := hRn.fr f_20 (by first | decide | (simp only [List.mem_cons, List.not_mem_nil, or_false]; omega))
  have hPa := hPa.fr f_20 (by first | decide | (simp only [List.mem_cons, List.not_mem_nil, or_false]; omega))
  have hF := hF.tr f_20 (by simp)
  refine wp_iload (atd dX8_stepsToLight 13 rfl) rfl ?_
  refine wp_istore (atd dX8_stepsToLight 14 rfl) (Nat.le_of_ble_eq_true rfl) ?_
  exact lX8_steps (by omega) hNt hw hh1 hh2 hwd hka hkq hkw hka2 hs hs2 hro hro2 (by omega) (frN (h + 1) - frN h) (frN h) _ Q (t + 1) l2 _ _ (by omega) (Nat.le_refl _) hO hN hNA hT hLR hFS hQS hWd hRn hPa hF hQ hml hc rfl
