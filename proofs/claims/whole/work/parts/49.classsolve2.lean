theorem ite_lt {p : Prop} [Decidable p] {a b c : Nat} (h1 : a < c) (h2 : b < c) : (if p then a else b) < c := by
  split
  · exact h1
  · exact h2
def flg2 (b : Nat) (P : Prop) : Prop := b ≤ 1 ∧ (b = 1 ↔ P)
def nwf (w nw : Nat → Nat) (x : Nat) : Nat := dif (nw x) (w x)
theorem idx_ne {f x y p q : Nat} (hp : p < 9) (hq : q < 9) (hx : f ≤ x) (hy : f ≤ y) (h : x ≠ y) : ¬ ((x - f) * 9 ≤ (y - f) * 9 + q ∧ (y - f) * 9 + q < (x - f) * 9 + 9) := by omega
theorem lX2_takeNews {G : Gx} {d : Nat} (hd : 2 ≤ d) {σ0 : Hp} {g kn n a kd f f2 wa T : Nat} {nb w nw : Nat → Nat} {wo : Nat → Option Nat} {rd op tn rf hp : Int32} {l : List Nat} (hn : n ≤ 9) (hw : ∀ p, nb p < 512) (hf2 : f2 ≤ 219) (hww : ∀ x, w x < 512) (hnl : ∀ x, nw x < 512) (hap : kn + 1 < g ∨ g + 12 < kn) (haa : a < g ∨ g + 12 < a) (hwa : (wa < g ∨ g + 12 < wa) ∧ wa ≠ a ∧ wa ≠ kn ∧ wa ≠ kn + 1) {ro : Nat} (hro : ro < 2 ^ 31) : ∀ (k : Nat) (x : Nat) (σ : Hp) (wc nwc : Nat → Nat) (woc : Nat → Option Nat) (mo oq : Nat) (y6 : Value), x + k = f2 → f ≤ x → OB σ g 2 (ggF g kn) → OB σ kn 3 [.int (nI n), .ref (kn + 1)] → AI σ (kn + 1) 9 nb → OB σ a 1 (gaF kd f f2 rd (.ref wa) op tn rf hp) → RT σ (g + 1) → LR σ (g + 1) nb → FS σ (g + 1) T l → AI σ (g + 10) 219 wc → AI σ (g + 12) 219 nwc → AO σ wa ((f2 - f) * 9) woc → fr [g + 10, g + 12, wa] σ0 σ → (∀ y, wc y = if f ≤ y ∧ y < x then w y ||| nwf w nw y else w y) → (∀ y, nwc y = if f ≤ y ∧ y < x then 0 else nw y) → (∀ y p, f ≤ y → y < f2 → p < 9 → woc ((y - f) * 9 + p) = if y < x ∧ (nwf w nw y).testBit p = true then some ro else wo ((y - f) * 9 + p)) → flg2 mo (∃ y, f ≤ y ∧ y < x ∧ nwf w nw y ≠ 0) → flg2 oq (∃ y, f ≤ y ∧ y < x ∧ ON n y ∧ w y ||| nwf w nw y ≠ 2 ^ n - 1) → Wp G mX2_takeNews d 11 [.ref g, .ref a, .int (nI ro), .int (nI mo), .int (nI oq), .int (nI x), y6] [] σ 0 0 (pI fun z s => ∃ b, z = nI b ∧ flg2 b ((∃ y, f ≤ y ∧ y < f2 ∧ nwf w nw y ≠ 0) ∧ ∃ y, f ≤ y ∧ y < f2 ∧ ON n y ∧ w y ||| nwf w nw y ≠ 2 ^ n - 1) ∧ fr [g + 10, g + 12, wa] σ0 s ∧ ∃ w2 nw2 wo2, AI s (g + 10) 219 w2 ∧ AI s (g + 12) 219 nw2 ∧ AO s wa ((f2 - f) * 9) wo2 ∧ (∀ y, f ≤ y → y < f2 → w2 y = w y ||| nwf w nw y) ∧ (∀ y, w2 y < 512) ∧ (∀ y, nw2 y < 512) ∧ (∀ y, f ≤ y → y < f2 → nw2 y = 0) ∧ (∀ y p, f ≤ y → y < f2 → p < 9 → wo2 ((y - f) * 9 + p) = if (nwf w nw y).testBit p = true then some ro else wo ((y - f) * 9 + p))) := by
  obtain ⟨d0, hdd⟩ : ∃ e, d = e + 1 := ⟨d - 1, by omega⟩
  intro k
  induction k with
  | zero =>
    intro x σ wc nwc woc mo oq y6 h hfx hG hN hNA hGm hT hLR hFS hW hNw hWo hF i1 i2 i3 i4 i5
    obtain rfl : x = f2 := by omega
    refine wp_iload (atd dX2_takeNews 7 rfl) rfl ?_
    refine wp_aload_n (atd dX2_takeNews 8 rfl) rfl rfl ?_
    refine wp_get fX2_71 (atd dX2_takeNews 9 rfl) hGm rfl ?_
    refine wp_icmpN_ge (tgt := 119) (atd dX2_takeNews 10 rfl) (by decide) (by omega) (by omega) (fun c_17 => ?_) (fun c_17 => ?_)
    ·
      refine wp_iload_n (atd dX2_takeNews 65 rfl) rfl ?_
      refine wp_ifN_eq (tgt := 132) (atd dX2_takeNews 66 rfl) (by decide) (by have := i4.1; omega) (fun c_120 => ?_) (fun c_120 => ?_)
      ·
        refine wp_iconst (v := nI 0) (atd dX2_takeNews 71 rfl) (by decide) ?_
        refine wp_iretz (atd dX2_takeNews 72 rfl) rfl (by first | rfl | decide) ?_
        exact ⟨0, rfl, ⟨by omega, ⟨fun e => (by omega), fun e => (by have := i4.2.mpr e.1; omega)⟩⟩, hF, wc, nwc, woc, hW, hNw, hWo, fun y h1 h2 => by rw [i1 y, if_pos ⟨h1, h2⟩], (fun y => by rw [i1 y]; exact ite_lt (Nat.or_lt_two_pow (n := 9) (hww y) (dif_lt9 (hnl y))) (hww y)), fun y => by rw [i2 y]; exact ite_lt (by decide) (hnl y), fun y h1 h2 => by rw [i2 y, if_pos ⟨h1, h2⟩], fun y p h1 h2 hp => by rw [i3 y p h1 h2 hp]; simp only [h2, true_and]⟩
      ·
        refine wp_iload (atd dX2_takeNews 67 rfl) rfl ?_
        refine wp_ifN_eq (tgt := 132) (atd dX2_takeNews 68 rfl) (by decide) (by have := i5.1; omega) (fun c_125 => ?_) (fun c_125 => ?_)
        ·
          refine wp_iconst (v := nI 0) (atd dX2_takeNews 71 rfl) (by decide) ?_
          refine wp_iretz (atd dX2_takeNews 72 rfl) rfl (by first | rfl | decide) ?_
          exact ⟨0, rfl, ⟨by omega, ⟨fun e => (by omega), fun e => (by have := i5.2.mpr e.2; omega)⟩⟩, hF, wc, nwc, woc, hW, hNw, hWo, fun y h1 h2 => by rw [i1 y, if_pos ⟨h1, h2⟩], (fun y => by rw [i1 y]; exact ite_lt (Nat.or_lt_two_pow (n := 9) (hww y) (dif_lt9 (hnl y))) (hww y)), fun y => by rw [i2 y]; exact ite_lt (by decide) (hnl y), fun y h1 h2 => by rw [i2 y, if_pos ⟨h1, h2⟩], fun y p h1 h2 hp => by rw [i3 y p h1 h2 hp]; simp only [h2, true_and]⟩
        ·
          refine wp_iconst (v := nI 1) (atd dX2_takeNews 69 rfl) (by decide) ?_
          refine wp_goto (tgt := 133) (atd dX2_takeNews 70 rfl) (by decide) ?_
          refine wp_iretz (atd dX2_takeNews 72 rfl) rfl (by first | rfl | decide) ?_
          exact ⟨1, rfl, ⟨by omega, ⟨fun _ => ⟨i4.2.mp (by have := i4.1; omega), i5.2.mp (by have := i5.1; omega)⟩, fun _ => rfl⟩⟩, hF, wc, nwc, woc, hW, hNw, hWo, fun y h1 h2 => by rw [i1 y, if_pos ⟨h1, h2⟩], (fun y => by rw [i1 y]; exact ite_lt (Nat.or_lt_two_pow (n := 9) (hww y) (dif_lt9 (hnl y))) (hww y)), fun y => by rw [i2 y]; exact ite_lt (by decide) (hnl y), fun y h1 h2 => by rw [i2 y, if_pos ⟨h1, h2⟩], fun y p h1 h2 hp => by rw [i3 y p h1 h2 hp]; simp only [h2, true_and]⟩
    · exfalso; omega
  | succ k ih =>
    intro x σ wc nwc woc mo oq y6 h hfx hG hN hNA hGm hT hLR hFS hW hNw hWo hF i1 i2 i3 i4 i5
    have hwx : wc x = w x := by rw [i1 x, if_neg (by omega)]
    have hnx : nwc x = nw x := by rw [i2 x, if_neg (by omega)]
    refine wp_iload (atd dX2_takeNews 7 rfl) rfl ?_
    refine wp_aload_n (atd dX2_takeNews 8 rfl) rfl rfl ?_
    refine wp_get fX2_71 (atd dX2_takeNews 9 rfl) hGm rfl ?_
    refine wp_icmpN_ge (tgt := 119) (atd dX2_takeNews 10 rfl) (by decide) (by omega) (by omega) (fun c_17 => ?_) (fun c_17 => ?_)
    · exfalso; omega
    ·
      refine wp_aload_n (atd dX2_takeNews 11 rfl) rfl rfl ?_
      refine wp_get fX2_31 (atd dX2_takeNews 12 rfl) hG rfl ?_
      refine wp_iload (atd dX2_takeNews 13 rfl) rfl ?_
      refine wp_ialdA (atd dX2_takeNews 14 rfl) hNw (by omega) (Nat.le_of_ble_eq_true rfl) ?_
      refine wp_aload_n (atd dX2_takeNews 15 rfl) rfl rfl ?_
      refine wp_get fX2_24 (atd dX2_takeNews 16 rfl) hG rfl ?_
      refine wp_iload (atd dX2_takeNews 17 rfl) rfl ?_
      refine wp_ialdA (atd dX2_takeNews 18 rfl) hW (by omega) (Nat.le_of_ble_eq_true rfl) ?_
      refine wp_iconst (v := -1) (atd dX2_takeNews 19 rfl) (by decide) ?_
      refine wp_ixor (atd dX2_takeNews 20 rfl) ?_
      refine wp_iandC (atd dX2_takeNews 21 rfl) ?_
      refine wp_istore (atd dX2_takeNews 22 rfl) (Nat.le_of_ble_eq_true rfl) ?_
      refine wp_aload_n (atd dX2_takeNews 23 rfl) rfl rfl ?_
      refine wp_get fX2_31 (atd dX2_takeNews 24 rfl) hG rfl ?_
      refine wp_iload (atd dX2_takeNews 25 rfl) rfl ?_
      refine wp_iconst (v := nI 0) (atd dX2_takeNews 26 rfl) (by decide) ?_
      refine wp_iastA (atd dX2_takeNews 27 rfl) hNw (by omega) (Nat.le_of_ble_eq_true rfl) (fun σ f_46 hNw => ?_)
      have hG := hG.fr f_46 (by first | decide | (simp only [List.mem_cons, List.not_mem_nil, or_false]; omega))
      have hN := hN.fr f_46 (by first | decide | (simp only [List.mem_cons, List.not_mem_nil, or_false]; omega))
      have hNA := hNA.fr f_46 (by first | decide | (simp only [List.mem_cons, List.not_mem_nil, or_false]; omega))
      have hGm := hGm.fr f_46 (by first | decide | (simp only [List.mem_cons, List.not_mem_nil, or_false]; omega))
      have hT := hT.fr f_46 ⟨by simp only [List.mem_cons, List.not_mem_nil, or_false]; omega, by simp only [List.mem_cons, List.not_mem_nil, or_false]; omega, by simp only [List.mem_cons, List.not_mem_nil, or_false]; omega⟩
      have hLR := hLR.fr f_46 ⟨by simp only [List.mem_cons, List.not_mem_nil, or_false]; omega, by simp only [List.mem_cons, List.not_mem_nil, or_false]; omega⟩
      have hFS := hFS.fr f_46 ⟨by simp only [List.mem_cons, List.not_mem_nil, or_false]; omega, by simp only [List.mem_cons, List.not_mem_nil, or_false]; omega, by simp only [List.mem_cons, List.not_mem_nil, or_false]; omega⟩
      have hW := hW.fr f_46 (by first | decide | (simp only [List.mem_cons, List.not_mem_nil, or_false]; omega))
      have hWo := hWo.fr f_46 (by first | decide | (simp only [List.mem_cons, List.not_mem_nil, or_false]; omega))
      have hF := hF.tr f_46 (by simp)
      refine wp_iload (atd dX2_takeNews 28 rfl) rfl ?_
      refine wp_ifN_eq (tgt := 75) (atd dX2_takeNews 29 rfl) (by decide) (by have := dif_lt9 (b := wc x) (show nwc x < 512 by rw [hnx]; exact hnl x); omega) (fun c_49 => ?_) (fun c_49 => ?_)
      ·
        refine wp_iload (atd dX2_takeNews 45 rfl) rfl ?_
        refine wp_ifN_ne (tgt := 106) (atd dX2_takeNews 46 rfl) (by decide) (by have := i5.1; omega) (fun c_77 => ?_) (fun c_77 => ?_)
        ·
          refine wp_iconst (v := nI 1) (atd dX2_takeNews 59 rfl) (by decide) ?_
          refine wp_goto (tgt := 111) (atd dX2_takeNews 60 rfl) (by decide) ?_
          refine wp_istore (atd dX2_takeNews 62 rfl) (Nat.le_of_ble_eq_true rfl) ?_
          refine wp_iincN (c := 1) (atd dX2_takeNews 63 rfl) rfl ?_
          refine wp_goto (tgt := 11) (atd dX2_takeNews 64 rfl) (by decide) ?_
          have e2 : ∀ y, y ≠ x → ((f ≤ y ∧ y < x) ↔ (f ≤ y ∧ y < x + 1)) := fun y hy => ⟨fun z => ⟨z.1, by omega⟩, fun z => ⟨z.1, by omega⟩⟩
          have hfz : dif (nwc x) (wc x) = nwf w nw x := by rw [hwx, hnx]; rfl
          have hl9 : w x ||| nwf w nw x < 512 := Nat.or_lt_two_pow (n := 9) (hww x) (dif_lt9 (hnl x))
          have hz : nwf w nw x = 0 := by rw [← hfz]; exact c_49
          refine ih (x + 1) _ _ _ _ mo 1 _ (by omega) (by omega) hG hN hNA hGm hT hLR hFS hW hNw hWo hF (fun y => ?_) (fun y => ?_) (fun y p h1 h2 hp => ?_) ?_ ?_
          · by_cases e : y = x
            · subst e; rw [if_pos ⟨hfx, by omega⟩]; rw [hz, Nat.or_zero]; exact hwx
            · rw [i1 y]; simp only [e2 y e]
          · by_cases e : y = x
            · subst e; rw [if_pos ⟨hfx, by omega⟩]; simp [va_up]
            · simp only [va_up, if_neg e]; rw [i2 y]; simp only [e2 y e]
          · rw [i3 y p h1 h2 hp]
            by_cases e : y = x
            · subst e; rw [hz, Nat.zero_testBit]; simp
            · have : (y < x ↔ y < x + 1) := by omega
              simp only [this]
          · exact ⟨i4.1, by rw [i4.2]; exact ⟨fun ⟨y, z1, z2, z3⟩ => ⟨y, z1, by omega, z3⟩, fun ⟨y, z1, z2, z3⟩ => ⟨y, z1, by have : y ≠ x := fun e => z3 (e ▸ hz); omega, z3⟩⟩⟩
          · exact ⟨Nat.le_refl _, fun _ => by obtain ⟨y, z1, z2, z3⟩ := i5.2.mp (by have := i5.1; omega); exact ⟨y, z1, by omega, z3⟩, fun _ => rfl⟩
        ·
          refine wp_aload_n (atd dX2_takeNews 47 rfl) rfl rfl ?_
          refine wp_iload (atd dX2_takeNews 48 rfl) rfl ?_
          refine wp_cVi hdd [_] (atd dX2_takeNews 49 rfl) iX2_isOnNet lX2_74 rfl rfl (Nat.le_of_ble_eq_true rfl) hG rfl (eX2_isOnNet (by omega) hN hNA hn hw hG hFS.ob hT (by omega)) (fun r_83 s_83 h_83 => ?_)
          obtain ⟨rfl, e_83⟩ := h_83
          obtain rfl := e_83.symm
          refine wp_ifB_eq (tgt := 110) (atd dX2_takeNews 50 rfl) (by decide) (fun c_86 => ?_) (fun c_86 => ?_)
          ·
            refine wp_iconst (v := nI 0) (atd dX2_takeNews 61 rfl) (by decide) ?_
            refine wp_istore (atd dX2_takeNews 62 rfl) (Nat.le_of_ble_eq_true rfl) ?_
            refine wp_iincN (c := 1) (atd dX2_takeNews 63 rfl) rfl ?_
            refine wp_goto (tgt := 11) (atd dX2_takeNews 64 rfl) (by decide) ?_
            have e2 : ∀ y, y ≠ x → ((f ≤ y ∧ y < x) ↔ (f ≤ y ∧ y < x + 1)) := fun y hy => ⟨fun z => ⟨z.1, by omega⟩, fun z => ⟨z.1, by omega⟩⟩
            have hfz : dif (nwc x) (wc x) = nwf w nw x := by rw [hwx, hnx]; rfl
            have hl9 : w x ||| nwf w nw x < 512 := Nat.or_lt_two_pow (n := 9) (hww x) (dif_lt9 (hnl x))
            have hz : nwf w nw x = 0 := by rw [← hfz]; exact c_49
            refine ih (x + 1) _ _ _ _ mo 0 _ (by omega) (by omega) hG hN hNA hGm hT hLR hFS hW hNw hWo hF (fun y => ?_) (fun y => ?_) (fun y p h1 h2 hp => ?_) ?_ ?_
            · by_cases e : y = x
              · subst e; rw [if_pos ⟨hfx, by omega⟩]; rw [hz, Nat.or_zero]; exact hwx
              · rw [i1 y]; simp only [e2 y e]
            · by_cases e : y = x
              · subst e; rw [if_pos ⟨hfx, by omega⟩]; simp [va_up]
              · simp only [va_up, if_neg e]; rw [i2 y]; simp only [e2 y e]
            · rw [i3 y p h1 h2 hp]
              by_cases e : y = x
              · subst e; rw [hz, Nat.zero_testBit]; simp
              · have : (y < x ↔ y < x + 1) := by omega
                simp only [this]
            · exact ⟨i4.1, by rw [i4.2]; exact ⟨fun ⟨y, z1, z2, z3⟩ => ⟨y, z1, by omega, z3⟩, fun ⟨y, z1, z2, z3⟩ => ⟨y, z1, by have : y ≠ x := fun e => z3 (e ▸ hz); omega, z3⟩⟩⟩
            · refine ⟨by omega, fun e => (by omega), fun ⟨y, z1, z2, z3, z4⟩ => ?_⟩
              by_cases e : y = x
              · exact absurd (e ▸ z3) c_86
              · exact absurd (i5.2.mpr ⟨y, z1, by omega, z3, z4⟩) (by omega)
          ·
            refine wp_aload_n (atd dX2_takeNews 51 rfl) rfl rfl ?_
            refine wp_get fX2_24 (atd dX2_takeNews 52 rfl) hG rfl ?_
            refine wp_iload (atd dX2_takeNews 53 rfl) rfl ?_
            refine wp_ialdA (atd dX2_takeNews 54 rfl) hW (by omega) (Nat.le_of_ble_eq_true rfl) ?_
            refine wp_aload_n (atd dX2_takeNews 55 rfl) rfl rfl ?_
            refine wp_get fX2_34 (atd dX2_takeNews 56 rfl) hG rfl ?_
            refine wp_cVi hdd [] (atd dX2_takeNews 57 rfl) iX3_all lX2_92 rfl rfl (Nat.le_of_ble_eq_true rfl) hN rfl (eX3_all (by omega) hN hn) (fun r_100 s_100 h_100 => ?_)
            obtain ⟨rfl, e_100⟩ := h_100
            obtain rfl := e_100.symm
            refine wp_icmpN_eq (tgt := 110) (atd dX2_takeNews 58 rfl) (by decide) (by first | (have := hww x; rw [← hwx] at this; omega) | (simp only [va_up, if_true]; have := Nat.or_lt_two_pow (n := 9) (hww x) (dif_lt9 (b := w x) (hnl x)); rw [hwx, hnx]; omega)) (by have := pow_le9 hn; omega) (fun c_103 => ?_) (fun c_103 => ?_)
            ·
              refine wp_iconst (v := nI 0) (atd dX2_takeNews 61 rfl) (by decide) ?_
              refine wp_istore (atd dX2_takeNews 62 rfl) (Nat.le_of_ble_eq_true rfl) ?_
              refine wp_iincN (c := 1) (atd dX2_takeNews 63 rfl) rfl ?_
              refine wp_goto (tgt := 11) (atd dX2_takeNews 64 rfl) (by decide) ?_
              have e2 : ∀ y, y ≠ x → ((f ≤ y ∧ y < x) ↔ (f ≤ y ∧ y < x + 1)) := fun y hy => ⟨fun z => ⟨z.1, by omega⟩, fun z => ⟨z.1, by omega⟩⟩
              have hfz : dif (nwc x) (wc x) = nwf w nw x := by rw [hwx, hnx]; rfl
              have hl9 : w x ||| nwf w nw x < 512 := Nat.or_lt_two_pow (n := 9) (hww x) (dif_lt9 (hnl x))
              have hz : nwf w nw x = 0 := by rw [← hfz]; exact c_49
              have hwe : w x ||| nwf w nw x = 2 ^ n - 1 := by rw [hz, Nat.or_zero, ← hwx]; exact c_103
              refine ih (x + 1) _ _ _ _ mo 0 _ (by omega) (by omega) hG hN hNA hGm hT hLR hFS hW hNw hWo hF (fun y => ?_) (fun y => ?_) (fun y p h1 h2 hp => ?_) ?_ ?_
              · by_cases e : y = x
                · subst e; rw [if_pos ⟨hfx, by omega⟩]; rw [hz, Nat.or_zero]; exact hwx
                · rw [i1 y]; simp only [e2 y e]
              · by_cases e : y = x
                · subst e; rw [if_pos ⟨hfx, by omega⟩]; simp [va_up]
                · simp only [va_up, if_neg e]; rw [i2 y]; simp only [e2 y e]
              · rw [i3 y p h1 h2 hp]
                by_cases e : y = x
                · subst e; rw [hz, Nat.zero_testBit]; simp
                · have : (y < x ↔ y < x + 1) := by omega
                  simp only [this]
              · exact ⟨i4.1, by rw [i4.2]; exact ⟨fun ⟨y, z1, z2, z3⟩ => ⟨y, z1, by omega, z3⟩, fun ⟨y, z1, z2, z3⟩ => ⟨y, z1, by have : y ≠ x := fun e => z3 (e ▸ hz); omega, z3⟩⟩⟩
              · refine ⟨by omega, fun e => (by omega), fun ⟨y, z1, z2, z3, z4⟩ => ?_⟩
                by_cases e : y = x
                · exact absurd hwe (e ▸ z4)
                · exact absurd (i5.2.mpr ⟨y, z1, by omega, z3, z4⟩) (by omega)
            ·
              refine wp_iconst (v := nI 1) (atd dX2_takeNews 59 rfl) (by decide) ?_
              refine wp_goto (tgt := 111) (atd dX2_takeNews 60 rfl) (by decide) ?_
              refine wp_istore (atd dX2_takeNews 62 rfl) (Nat.le_of_ble_eq_true rfl) ?_
              refine wp_iincN (c := 1) (atd dX2_takeNews 63 rfl) rfl ?_
              refine wp_goto (tgt := 11) (atd dX2_takeNews 64 rfl) (by decide) ?_
              have e2 : ∀ y, y ≠ x → ((f ≤ y ∧ y < x) ↔ (f ≤ y ∧ y < x + 1)) := fun y hy => ⟨fun z => ⟨z.1, by omega⟩, fun z => ⟨z.1, by omega⟩⟩
              have hfz : dif (nwc x) (wc x) = nwf w nw x := by rw [hwx, hnx]; rfl
              have hl9 : w x ||| nwf w nw x < 512 := Nat.or_lt_two_pow (n := 9) (hww x) (dif_lt9 (hnl x))
              have hz : nwf w nw x = 0 := by rw [← hfz]; exact c_49
              have hwe : w x ||| nwf w nw x ≠ 2 ^ n - 1 := by rw [hz, Nat.or_zero, ← hwx]; exact c_103
              refine ih (x + 1) _ _ _ _ mo 1 _ (by omega) (by omega) hG hN hNA hGm hT hLR hFS hW hNw hWo hF (fun y => ?_) (fun y => ?_) (fun y p h1 h2 hp => ?_) ?_ ?_
              · by_cases e : y = x
                · subst e; rw [if_pos ⟨hfx, by omega⟩]; rw [hz, Nat.or_zero]; exact hwx
                · rw [i1 y]; simp only [e2 y e]
              · by_cases e : y = x
                · subst e; rw [if_pos ⟨hfx, by omega⟩]; simp [va_up]
                · simp only [va_up, if_neg e]; rw [i2 y]; simp only [e2 y e]
              · rw [i3 y p h1 h2 hp]
                by_cases e : y = x
                · subst e; rw [hz, Nat.zero_testBit]; simp
                · have : (y < x ↔ y < x + 1) := by omega
                  simp only [this]
              · exact ⟨i4.1, by rw [i4.2]; exact ⟨fun ⟨y, z1, z2, z3⟩ => ⟨y, z1, by omega, z3⟩, fun ⟨y, z1, z2, z3⟩ => ⟨y, z1, by have : y ≠ x := fun e => z3 (e ▸ hz); omega, z3⟩⟩⟩
              · exact ⟨Nat.le_refl _, fun _ => ⟨x, hfx, by omega, c_86, hwe⟩, fun _ => rfl⟩
      ·
        refine wp_aload_n (atd dX2_takeNews 30 rfl) rfl rfl ?_
        refine wp_get fX2_24 (atd dX2_takeNews 31 rfl) hG rfl ?_
        refine wp_iload (atd dX2_takeNews 32 rfl) rfl ?_
        refine wp_dup2 (atd dX2_takeNews 33 rfl) rfl rfl ?_
        refine wp_ialdA (atd dX2_takeNews 34 rfl) hW (by omega) (Nat.le_of_ble_eq_true rfl) ?_
        refine wp_iload (atd dX2_takeNews 35 rfl) rfl ?_
        refine wp_iorN (atd dX2_takeNews 36 rfl) ?_
        refine wp_iastA (atd dX2_takeNews 37 rfl) hW (by omega) (Nat.le_of_ble_eq_true rfl) (fun σ f_63 hW => ?_)
        have hG := hG.fr f_63 (by first | decide | (simp only [List.mem_cons, List.not_mem_nil, or_false]; omega))
        have hN := hN.fr f_63 (by first | decide | (simp only [List.mem_cons, List.not_mem_nil, or_false]; omega))
        have hNA := hNA.fr f_63 (by first | decide | (simp only [List.mem_cons, List.not_mem_nil, or_false]; omega))
        have hGm := hGm.fr f_63 (by first | decide | (simp only [List.mem_cons, List.not_mem_nil, or_false]; omega))
        have hT := hT.fr f_63 ⟨by simp only [List.mem_cons, List.not_mem_nil, or_false]; omega, by simp only [List.mem_cons, List.not_mem_nil, or_false]; omega, by simp only [List.mem_cons, List.not_mem_nil, or_false]; omega⟩
        have hLR := hLR.fr f_63 ⟨by simp only [List.mem_cons, List.not_mem_nil, or_false]; omega, by simp only [List.mem_cons, List.not_mem_nil, or_false]; omega⟩
        have hFS := hFS.fr f_63 ⟨by simp only [List.mem_cons, List.not_mem_nil, or_false]; omega, by simp only [List.mem_cons, List.not_mem_nil, or_false]; omega, by simp only [List.mem_cons, List.not_mem_nil, or_false]; omega⟩
        have hNw := hNw.fr f_63 (by first | decide | (simp only [List.mem_cons, List.not_mem_nil, or_false]; omega))
        have hWo := hWo.fr f_63 (by first | decide | (simp only [List.mem_cons, List.not_mem_nil, or_false]; omega))
        have hF := hF.tr f_63 (by simp)
        refine wp_aload_n (atd dX2_takeNews 38 rfl) rfl rfl ?_
        refine wp_iload (atd dX2_takeNews 39 rfl) rfl ?_
        refine wp_iload (atd dX2_takeNews 40 rfl) rfl ?_
        refine wp_iload_n (atd dX2_takeNews 41 rfl) rfl ?_
        refine wp_cVv hdd [_, _, _] (atd dX2_takeNews 42 rfl) iX1_setWorth lX2_82 rfl rfl (Nat.le_of_ble_eq_true rfl) hGm rfl (eX1_setWorth (by omega) hGm hWo hf2 (fun e => hwa.2.1 e.symm) hfx (by omega) (dif_lt9 (by rw [hnx]; exact hnl x))) (fun s_70 h_70 => ?_)
        obtain ⟨f_70, hWo⟩ := h_70
        have hG := hG.fr f_70 (by first | decide | (simp only [List.mem_cons, List.not_mem_nil, or_false]; omega))
        have hN := hN.fr f_70 (by first | decide | (simp only [List.mem_cons, List.not_mem_nil, or_false]; omega))
        have hNA := hNA.fr f_70 (by first | decide | (simp only [List.mem_cons, List.not_mem_nil, or_false]; omega))
        have hGm := hGm.fr f_70 (by first | decide | (simp only [List.mem_cons, List.not_mem_nil, or_false]; omega))
        have hT := hT.fr f_70 ⟨by simp only [List.mem_cons, List.not_mem_nil, or_false]; omega, by simp only [List.mem_cons, List.not_mem_nil, or_false]; omega, by simp only [List.mem_cons, List.not_mem_nil, or_false]; omega⟩
        have hLR := hLR.fr f_70 ⟨by simp only [List.mem_cons, List.not_mem_nil, or_false]; omega, by simp only [List.mem_cons, List.not_mem_nil, or_false]; omega⟩
        have hFS := hFS.fr f_70 ⟨by simp only [List.mem_cons, List.not_mem_nil, or_false]; omega, by simp only [List.mem_cons, List.not_mem_nil, or_false]; omega, by simp only [List.mem_cons, List.not_mem_nil, or_false]; omega⟩
        have hW := hW.fr f_70 (by first | decide | (simp only [List.mem_cons, List.not_mem_nil, or_false]; omega))
        have hNw := hNw.fr f_70 (by first | decide | (simp only [List.mem_cons, List.not_mem_nil, or_false]; omega))
        have hF := hF.tr f_70 (by simp)
        refine wp_iconst (v := nI 1) (atd dX2_takeNews 43 rfl) (by decide) ?_
        refine wp_istore_n (atd dX2_takeNews 44 rfl) (Nat.le_of_ble_eq_true rfl) ?_
        refine wp_iload (atd dX2_takeNews 45 rfl) rfl ?_
        refine wp_ifN_ne (tgt := 106) (atd dX2_takeNews 46 rfl) (by decide) (by have := i5.1; omega) (fun c_77 => ?_) (fun c_77 => ?_)
        ·
          refine wp_iconst (v := nI 1) (atd dX2_takeNews 59 rfl) (by decide) ?_
          refine wp_goto (tgt := 111) (atd dX2_takeNews 60 rfl) (by decide) ?_
          refine wp_istore (atd dX2_takeNews 62 rfl) (Nat.le_of_ble_eq_true rfl) ?_
          refine wp_iincN (c := 1) (atd dX2_takeNews 63 rfl) rfl ?_
          refine wp_goto (tgt := 11) (atd dX2_takeNews 64 rfl) (by decide) ?_
          have e2 : ∀ y, y ≠ x → ((f ≤ y ∧ y < x) ↔ (f ≤ y ∧ y < x + 1)) := fun y hy => ⟨fun z => ⟨z.1, by omega⟩, fun z => ⟨z.1, by omega⟩⟩
          have hfz : dif (nwc x) (wc x) = nwf w nw x := by rw [hwx, hnx]; rfl
          have hl9 : w x ||| nwf w nw x < 512 := Nat.or_lt_two_pow (n := 9) (hww x) (dif_lt9 (hnl x))
          have hz : nwf w nw x ≠ 0 := by rw [← hfz]; omega
          refine ih (x + 1) _ _ _ _ 1 1 _ (by omega) (by omega) hG hN hNA hGm hT hLR hFS hW hNw hWo hF (fun y => ?_) (fun y => ?_) (fun y p h1 h2 hp => ?_) ?_ ?_
          · by_cases e : y = x
            · subst e; rw [if_pos ⟨hfx, by omega⟩]; simp only [va_up, if_true]; rw [hfz, hwx]
            · simp only [va_up, if_neg e]; rw [i1 y]; simp only [e2 y e]
          · by_cases e : y = x
            · subst e; rw [if_pos ⟨hfx, by omega⟩]; simp [va_up]
            · simp only [va_up, if_neg e]; rw [i2 y]; simp only [e2 y e]
          · by_cases e : y = x
            · subst e; show stW woc _ _ _ _ = _; unfold stW; rw [hfz]
              by_cases hb : (nwf w nw y).testBit p = true
              · rw [if_pos ⟨by omega, by omega, by rw [Nat.add_sub_cancel_left]; exact hb⟩, if_pos ⟨by omega, hb⟩]
              · rw [if_neg (fun z => hb (by have := z.2.2; rwa [Nat.add_sub_cancel_left] at this)), if_neg (fun z => hb z.2), i3 y p h1 h2 hp, if_neg (fun z => by omega)]
            · show stW woc _ _ _ _ = _; unfold stW; rw [if_neg (fun z => idx_ne hp hp hfx h1 (fun q => e q.symm) ⟨z.1, z.2.1⟩), i3 y p h1 h2 hp]
              have : (y < x ↔ y < x + 1) := by omega
              simp only [this]
          · exact ⟨Nat.le_refl _, fun _ => ⟨x, hfx, by omega, hz⟩, fun _ => rfl⟩
          · exact ⟨Nat.le_refl _, fun _ => by obtain ⟨y, z1, z2, z3⟩ := i5.2.mp (by have := i5.1; omega); exact ⟨y, z1, by omega, z3⟩, fun _ => rfl⟩
        ·
          refine wp_aload_n (atd dX2_takeNews 47 rfl) rfl rfl ?_
          refine wp_iload (atd dX2_takeNews 48 rfl) rfl ?_
          refine wp_cVi hdd [_] (atd dX2_takeNews 49 rfl) iX2_isOnNet lX2_74 rfl rfl (Nat.le_of_ble_eq_true rfl) hG rfl (eX2_isOnNet (by omega) hN hNA hn hw hG hFS.ob hT (by omega)) (fun r_83 s_83 h_83 => ?_)
          obtain ⟨rfl, e_83⟩ := h_83
          obtain rfl := e_83.symm
          refine wp_ifB_eq (tgt := 110) (atd dX2_takeNews 50 rfl) (by decide) (fun c_86 => ?_) (fun c_86 => ?_)
          ·
            refine wp_iconst (v := nI 0) (atd dX2_takeNews 61 rfl) (by decide) ?_
            refine wp_istore (atd dX2_takeNews 62 rfl) (Nat.le_of_ble_eq_true rfl) ?_
            refine wp_iincN (c := 1) (atd dX2_takeNews 63 rfl) rfl ?_
            refine wp_goto (tgt := 11) (atd dX2_takeNews 64 rfl) (by decide) ?_
            have e2 : ∀ y, y ≠ x → ((f ≤ y ∧ y < x) ↔ (f ≤ y ∧ y < x + 1)) := fun y hy => ⟨fun z => ⟨z.1, by omega⟩, fun z => ⟨z.1, by omega⟩⟩
            have hfz : dif (nwc x) (wc x) = nwf w nw x := by rw [hwx, hnx]; rfl
            have hl9 : w x ||| nwf w nw x < 512 := Nat.or_lt_two_pow (n := 9) (hww x) (dif_lt9 (hnl x))
            have hz : nwf w nw x ≠ 0 := by rw [← hfz]; omega
            refine ih (x + 1) _ _ _ _ 1 0 _ (by omega) (by omega) hG hN hNA hGm hT hLR hFS hW hNw hWo hF (fun y => ?_) (fun y => ?_) (fun y p h1 h2 hp => ?_) ?_ ?_
            · by_cases e : y = x
              · subst e; rw [if_pos ⟨hfx, by omega⟩]; simp only [va_up, if_true]; rw [hfz, hwx]
              · simp only [va_up, if_neg e]; rw [i1 y]; simp only [e2 y e]
            · by_cases e : y = x
              · subst e; rw [if_pos ⟨hfx, by omega⟩]; simp [va_up]
              · simp only [va_up, if_neg e]; rw [i2 y]; simp only [e2 y e]
            · by_cases e : y = x
              · subst e; show stW woc _ _ _ _ = _; unfold stW; rw [hfz]
                by_cases hb : (nwf w nw y).testBit p = true
                · rw [if_pos ⟨by omega, by omega, by rw [Nat.add_sub_cancel_left]; exact hb⟩, if_pos ⟨by omega, hb⟩]
                · rw [if_neg (fun z => hb (by have := z.2.2; rwa [Nat.add_sub_cancel_left] at this)), if_neg (fun z => hb z.2), i3 y p h1 h2 hp, if_neg (fun z => by omega)]
              · show stW woc _ _ _ _ = _; unfold stW; rw [if_neg (fun z => idx_ne hp hp hfx h1 (fun q => e q.symm) ⟨z.1, z.2.1⟩), i3 y p h1 h2 hp]
                have : (y < x ↔ y < x + 1) := by omega
                simp only [this]
            · exact ⟨Nat.le_refl _, fun _ => ⟨x, hfx, by omega, hz⟩, fun _ => rfl⟩
            · refine ⟨by omega, fun e => (by omega), fun ⟨y, z1, z2, z3, z4⟩ => ?_⟩
              by_cases e : y = x
              · exact absurd (e ▸ z3) c_86
              · exact absurd (i5.2.mpr ⟨y, z1, by omega, z3, z4⟩) (by omega)
          ·
            refine wp_aload_n (atd dX2_takeNews 51 rfl) rfl rfl ?_
            refine wp_get fX2_24 (atd dX2_takeNews 52 rfl) hG rfl ?_
            refine wp_iload (atd dX2_takeNews 53 rfl) rfl ?_
            refine wp_ialdA (atd dX2_takeNews 54 rfl) hW (by omega) (Nat.le_of_ble_eq_true rfl) ?_
            refine wp_aload_n (atd dX2_takeNews 55 rfl) rfl rfl ?_
            refine wp_get fX2_34 (atd dX2_takeNews 56 rfl) hG rfl ?_
            refine wp_cVi hdd [] (atd dX2_takeNews 57 rfl) iX3_all lX2_92 rfl rfl (Nat.le_of_ble_eq_true rfl) hN rfl (eX3_all (by omega) hN hn) (fun r_100 s_100 h_100 => ?_)
            obtain ⟨rfl, e_100⟩ := h_100
            obtain rfl := e_100.symm
            refine wp_icmpN_eq (tgt := 110) (atd dX2_takeNews 58 rfl) (by decide) (by first | (have := hww x; rw [← hwx] at this; omega) | (simp only [va_up, if_true]; have := Nat.or_lt_two_pow (n := 9) (hww x) (dif_lt9 (b := w x) (hnl x)); rw [hwx, hnx]; omega)) (by have := pow_le9 hn; omega) (fun c_103 => ?_) (fun c_103 => ?_)
            ·
              refine wp_iconst (v := nI 0) (atd dX2_takeNews 61 rfl) (by decide) ?_
              refine wp_istore (atd dX2_takeNews 62 rfl) (Nat.le_of_ble_eq_true rfl) ?_
              refine wp_iincN (c := 1) (atd dX2_takeNews 63 rfl) rfl ?_
              refine wp_goto (tgt := 11) (atd dX2_takeNews 64 rfl) (by decide) ?_
              have e2 : ∀ y, y ≠ x → ((f ≤ y ∧ y < x) ↔ (f ≤ y ∧ y < x + 1)) := fun y hy => ⟨fun z => ⟨z.1, by omega⟩, fun z => ⟨z.1, by omega⟩⟩
              have hfz : dif (nwc x) (wc x) = nwf w nw x := by rw [hwx, hnx]; rfl
              have hl9 : w x ||| nwf w nw x < 512 := Nat.or_lt_two_pow (n := 9) (hww x) (dif_lt9 (hnl x))
              have hz : nwf w nw x ≠ 0 := by rw [← hfz]; omega
              have hwe : w x ||| nwf w nw x = 2 ^ n - 1 := by have := c_103; simp only [va_up, if_true] at this; rw [hfz, hwx] at this; exact this
              refine ih (x + 1) _ _ _ _ 1 0 _ (by omega) (by omega) hG hN hNA hGm hT hLR hFS hW hNw hWo hF (fun y => ?_) (fun y => ?_) (fun y p h1 h2 hp => ?_) ?_ ?_
              · by_cases e : y = x
                · subst e; rw [if_pos ⟨hfx, by omega⟩]; simp only [va_up, if_true]; rw [hfz, hwx]
                · simp only [va_up, if_neg e]; rw [i1 y]; simp only [e2 y e]
              · by_cases e : y = x
                · subst e; rw [if_pos ⟨hfx, by omega⟩]; simp [va_up]
                · simp only [va_up, if_neg e]; rw [i2 y]; simp only [e2 y e]
              · by_cases e : y = x
                · subst e; show stW woc _ _ _ _ = _; unfold stW; rw [hfz]
                  by_cases hb : (nwf w nw y).testBit p = true
                  · rw [if_pos ⟨by omega, by omega, by rw [Nat.add_sub_cancel_left]; exact hb⟩, if_pos ⟨by omega, hb⟩]
                  · rw [if_neg (fun z => hb (by have := z.2.2; rwa [Nat.add_sub_cancel_left] at this)), if_neg (fun z => hb z.2), i3 y p h1 h2 hp, if_neg (fun z => by omega)]
                · show stW woc _ _ _ _ = _; unfold stW; rw [if_neg (fun z => idx_ne hp hp hfx h1 (fun q => e q.symm) ⟨z.1, z.2.1⟩), i3 y p h1 h2 hp]
                  have : (y < x ↔ y < x + 1) := by omega
                  simp only [this]
              · exact ⟨Nat.le_refl _, fun _ => ⟨x, hfx, by omega, hz⟩, fun _ => rfl⟩
              · refine ⟨by omega, fun e => (by omega), fun ⟨y, z1, z2, z3, z4⟩ => ?_⟩
                by_cases e : y = x
                · exact absurd hwe (e ▸ z4)
                · exact absurd (i5.2.mpr ⟨y, z1, by omega, z3, z4⟩) (by omega)
            ·
              refine wp_iconst (v := nI 1) (atd dX2_takeNews 59 rfl) (by decide) ?_
              refine wp_goto (tgt := 111) (atd dX2_takeNews 60 rfl) (by decide) ?_
              refine wp_istore (atd dX2_takeNews 62 rfl) (Nat.le_of_ble_eq_true rfl) ?_
              refine wp_iincN (c := 1) (atd dX2_takeNews 63 rfl) rfl ?_
              refine wp_goto (tgt := 11) (atd dX2_takeNews 64 rfl) (by decide) ?_
              have e2 : ∀ y, y ≠ x → ((f ≤ y ∧ y < x) ↔ (f ≤ y ∧ y < x + 1)) := fun y hy => ⟨fun z => ⟨z.1, by omega⟩, fun z => ⟨z.1, by omega⟩⟩
              have hfz : dif (nwc x) (wc x) = nwf w nw x := by rw [hwx, hnx]; rfl
              have hl9 : w x ||| nwf w nw x < 512 := Nat.or_lt_two_pow (n := 9) (hww x) (dif_lt9 (hnl x))
              have hz : nwf w nw x ≠ 0 := by rw [← hfz]; omega
              have hwe : w x ||| nwf w nw x ≠ 2 ^ n - 1 := by have := c_103; simp only [va_up, if_true] at this; rw [hfz, hwx] at this; exact this
              refine ih (x + 1) _ _ _ _ 1 1 _ (by omega) (by omega) hG hN hNA hGm hT hLR hFS hW hNw hWo hF (fun y => ?_) (fun y => ?_) (fun y p h1 h2 hp => ?_) ?_ ?_
              · by_cases e : y = x
                · subst e; rw [if_pos ⟨hfx, by omega⟩]; simp only [va_up, if_true]; rw [hfz, hwx]
                · simp only [va_up, if_neg e]; rw [i1 y]; simp only [e2 y e]
              · by_cases e : y = x
                · subst e; rw [if_pos ⟨hfx, by omega⟩]; simp [va_up]
                · simp only [va_up, if_neg e]; rw [i2 y]; simp only [e2 y e]
              · by_cases e : y = x
                · subst e; show stW woc _ _ _ _ = _; unfold stW; rw [hfz]
                  by_cases hb : (nwf w nw y).testBit p = true
                  · rw [if_pos ⟨by omega, by omega, by rw [Nat.add_sub_cancel_left]; exact hb⟩, if_pos ⟨by omega, hb⟩]
                  · rw [if_neg (fun z => hb (by have := z.2.2; rwa [Nat.add_sub_cancel_left] at this)), if_neg (fun z => hb z.2), i3 y p h1 h2 hp, if_neg (fun z => by omega)]
                · show stW woc _ _ _ _ = _; unfold stW; rw [if_neg (fun z => idx_ne hp hp hfx h1 (fun q => e q.symm) ⟨z.1, z.2.1⟩), i3 y p h1 h2 hp]
                  have : (y < x ↔ y < x + 1) := by omega
                  simp only [this]
              · exact ⟨Nat.le_refl _, fun _ => ⟨x, hfx, by omega, hz⟩, fun _ => rfl⟩
              · exact ⟨Nat.le_refl _, fun _ => ⟨x, hfx, by omega, c_86, hwe⟩, fun _ => rfl⟩
theorem eX2_takeNews {G : Gx} {d : Nat} {σ : Hp} (hd : 2 ≤ d) {g kn n a kd f f2 wa T : Nat} {nb w nw : Nat → Nat} {wo : Nat → Option Nat} {rd op tn rf hp : Int32} {l : List Nat} (hn : n ≤ 9) (hw : ∀ p, nb p < 512) (hff : f ≤ f2) (hf2 : f2 ≤ 219) (hww : ∀ x, w x < 512) (hnl : ∀ x, nw x < 512) (hap : kn + 1 < g ∨ g + 12 < kn) (haa : a < g ∨ g + 12 < a) (hwa : (wa < g ∨ g + 12 < wa) ∧ wa ≠ a ∧ wa ≠ kn ∧ wa ≠ kn + 1) (hG : OB σ g 2 (ggF g kn)) (hN : OB σ kn 3 [.int (nI n), .ref (kn + 1)]) (hNA : AI σ (kn + 1) 9 nb) (hGm : OB σ a 1 (gaF kd f f2 rd (.ref wa) op tn rf hp)) (hT : RT σ (g + 1)) (hLR : LR σ (g + 1) nb) (hFS : FS σ (g + 1) T l) (hW : AI σ (g + 10) 219 w) (hNw : AI σ (g + 12) 219 nw) (hWo : AO σ wa ((f2 - f) * 9) wo) {ro : Nat} (hro : ro < 2 ^ 31) : Cl G mX2_takeNews d [.ref g, .ref a, .int (nI ro)] σ 0 0 (pI fun z s => ∃ b, z = nI b ∧ flg2 b ((∃ y, f ≤ y ∧ y < f2 ∧ nwf w nw y ≠ 0) ∧ ∃ y, f ≤ y ∧ y < f2 ∧ ON n y ∧ w y ||| nwf w nw y ≠ 2 ^ n - 1) ∧ fr [g + 10, g + 12, wa] σ s ∧ ∃ w2 nw2 wo2, AI s (g + 10) 219 w2 ∧ AI s (g + 12) 219 nw2 ∧ AO s wa ((f2 - f) * 9) wo2 ∧ (∀ y, f ≤ y → y < f2 → w2 y = w y ||| nwf w nw y) ∧ (∀ y, w2 y < 512) ∧ (∀ y, nw2 y < 512) ∧ (∀ y, f ≤ y → y < f2 → nw2 y = 0) ∧ (∀ y p, f ≤ y → y < f2 → p < 9 → wo2 ((y - f) * 9 + p) = if (nwf w nw y).testBit p = true then some ro else wo ((y - f) * 9 + p))) := by
  obtain ⟨d0, hdd⟩ : ∃ e, d = e + 1 := ⟨d - 1, by omega⟩
  refine cl_of (by decide) (by simp [Value.category]) (Nat.le_of_ble_eq_true rfl) ?_
  show Wp G mX2_takeNews d 0 [.ref g, .ref a, .int (nI ro), .double 0, .double 0, .double 0, .double 0] [] σ 0 0 _
  refine wp_iconst (v := nI 0) (atd dX2_takeNews 0 rfl) (by decide) ?_
  refine wp_istore_n (atd dX2_takeNews 1 rfl) (Nat.le_of_ble_eq_true rfl) ?_
  refine wp_iconst (v := nI 0) (atd dX2_takeNews 2 rfl) (by decide) ?_
  refine wp_istore (atd dX2_takeNews 3 rfl) (Nat.le_of_ble_eq_true rfl) ?_
  refine wp_aload_n (atd dX2_takeNews 4 rfl) rfl rfl ?_
  refine wp_get fX2_68 (atd dX2_takeNews 5 rfl) hGm rfl ?_
  refine wp_istore (atd dX2_takeNews 6 rfl) (Nat.le_of_ble_eq_true rfl) ?_
  exact lX2_takeNews (by omega) hn hw hf2 hww hnl hap haa hwa hro (f2 - f) f σ w nw wo 0 0 _ (by omega) (Nat.le_refl _) hG hN hNA hGm hT hLR hFS hW hNw hWo fr.rf (fun y => by rw [if_neg (by omega)]) (fun y => by rw [if_neg (by omega)]) (fun y p h1 h2 hp => by rw [if_neg (fun z => by omega)]) ⟨by omega, fun e => (by omega), fun ⟨y, z1, z2, _⟩ => (by omega)⟩ ⟨by omega, fun e => (by omega), fun ⟨y, z1, z2, _⟩ => (by omega)⟩
