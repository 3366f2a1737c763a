/-! the constructor of Rows: three loops -/
def b2 (a : Nat) : Nat := [9, 18, 26, 33, 39, 44, 48, 51, 53, 54].getD a 0
def c3 (a : Nat) : Nat := [54, 99, 135, 163, 184, 199, 209, 215, 218, 219].getD a 0
def b3 (a b : Nat) : Nat := c3 a + (b2 b - b2 a)
theorem rl_1 : ∀ a, a < 9 → rlA a = (a, 9, 9) := by decide +kernel
theorem b2_s : ∀ a, a < 9 → b2 (a + 1) = b2 a + (9 - a) ∧ b2 a ≤ 54 ∧ b2 (a + 1) ≤ 54 := by decide +kernel
theorem b2_m : ∀ b, b < 10 → ∀ a, a ≤ b → b2 a ≤ b2 b := by decide +kernel
theorem rl_2 : ∀ a, a < 9 → ∀ i, i < 9 - a → rlA (b2 a + i) = (a, a + i, 9) ∧ b2 a + i < 219 := by decide +kernel
theorem c3_s : ∀ a, a < 9 → c3 (a + 1) = c3 a + (54 - b2 a) ∧ c3 a ≤ 219 ∧ c3 (a + 1) ≤ 219 := by decide +kernel
theorem rl_3q : (List.range 9).all (fun a => (List.range 9).all fun b => (List.range 9).all fun i => !(decide (a ≤ b) && decide (b + i < 9)) || (decide (rlA (b3 a b + i) = (a, b, b + i)) && decide (b3 a b + i < 219))) = true := by decide +kernel
theorem rl_3 (a : Nat) (ha : a < 9) (b : Nat) (hb : b < 9) (hab : a ≤ b) (i : Nat) (hi : i < 9 - b) : rlA (b3 a b + i) = (a, b, b + i) ∧ b3 a b + i < 219 := by
  have h := List.all_eq_true.mp (List.all_eq_true.mp (List.all_eq_true.mp rl_3q a (List.mem_range.mpr ha)) b (List.mem_range.mpr hb)) i (List.mem_range.mpr (by omega))
  rw [decide_eq_true hab, decide_eq_true (show b + i < 9 by omega)] at h
  have h : (decide (rlA (b3 a b + i) = (a, b, b + i)) && decide (b3 a b + i < 219)) = true := h
  rw [Bool.and_eq_true] at h
  exact ⟨of_decide_eq_true h.1, of_decide_eq_true h.2⟩
theorem b3_s {a b : Nat} (hb : b < 9) (hab : a ≤ b) : b3 a (b + 1) = b3 a b + (9 - b) := by
  have h1 := (b2_s b hb).1
  have h2 := b2_m b (by omega) a hab
  unfold b3
  omega
theorem b3_0 (a : Nat) : b3 a a = c3 a := by unfold b3; omega
theorem b3_9 {a : Nat} (ha : a < 9) : b3 a 9 = c3 (a + 1) := by
  have h1 := (c3_s a ha).1
  unfold b3
  rw [h1]; rfl
theorem b3_le {a b : Nat} (ha : a < 9) (hb : b ≤ 9) : b3 a b ≤ 219 := by
  have h1 := (c3_s a ha)
  have h3 : ∀ b, b ≤ 9 → b2 b ≤ 54 := by decide +kernel
  have := h3 b hb
  unfold b3
  omega
theorem tNm_219 (j : Nat) : tNm 219 j = nmC j := by
  cases h : nmC j with
  | none => exact tNm_n h
  | some x => rw [tNm_x h, if_pos (num_some h).1]
theorem LRN_0 : LRN (fun _ => 0) (va_up (fun _ => 0) 90 9) (va_up (fun _ => 0) 9 1) := by unfold LRN; decide +kernel
theorem lX5_i1 {G : Gx} {d : Nat} {Q : Option Value → Hp → Prop} (hd : 3 ≤ d) {σ0 : Hp} {r : Nat} (hk : ∀ (σ : Hp) (y4 y5 y6 y7 : Value), OB σ r 5 (roF r 0 0) → AI σ (r + 1) 657 (tSp (9)) → AI σ (r + 2) 219 (tSd (9)) → AO σ (r + 3) 1000 (tNm (9)) → fr [r + 1, r + 2, r + 3] σ0 σ → Wp G mX5_init d 190 [.ref r, .int (nI 9), .int (nI 1), .int (nI 9), y4, y5, y6, y7] [] σ 0 0 Q) : ∀ (x : Nat) (a : Nat) (σ : Hp) (y4 y5 y6 y7 : Value), a + x = 9 → OB σ r 5 (roF r 0 0) → AI σ (r + 1) 657 (tSp (a)) → AI σ (r + 2) 219 (tSd (a)) → AO σ (r + 3) 1000 (tNm (a)) → fr [r + 1, r + 2, r + 3] σ0 σ → Wp G mX5_init d 84 [.ref r, .int (nI a), .int (nI 1), .int (nI a), y4, y5, y6, y7] [] σ 0 0 Q := by
  obtain ⟨d0, hdd⟩ : ∃ e, d = e + 1 := ⟨d - 1, by omega⟩
  intro x
  induction x with
  | zero =>
    intro a σ y4 y5 y6 y7 h hO hSp hSd hNm hF
    obtain rfl : a = 9 := by omega
    refine wp_iload_n (atd dX5_init 43 rfl) rfl ?_
    refine wp_bipush (v := nI 9) (atd dX5_init 44 rfl) (by decide) ?_
    refine wp_icmpN_ge (tgt := 190) (atd dX5_init 45 rfl) (by decide) (by omega) (by omega) (fun c_87 => ?_) (fun c_87 => ?_)
    ·
      exact hk σ y4 y5 y6 y7 hO hSp hSd hNm hF
    · exfalso; omega
  | succ x ih =>
    intro a σ y4 y5 y6 y7 h hO hSp hSd hNm hF
    refine wp_iload_n (atd dX5_init 43 rfl) rfl ?_
    refine wp_bipush (v := nI 9) (atd dX5_init 44 rfl) (by decide) ?_
    refine wp_icmpN_ge (tgt := 190) (atd dX5_init 45 rfl) (by decide) (by omega) (by omega) (fun c_87 => ?_) (fun c_87 => ?_)
    · exfalso; omega
    ·
      refine wp_iload_n (atd dX5_init 46 rfl) rfl ?_
      refine wp_iconst (v := nI 1) (atd dX5_init 47 rfl) (by decide) ?_
      refine wp_icmpN_le (tgt := 100) (atd dX5_init 48 rfl) (by decide) (by omega) (by omega) (fun c_92 => ?_) (fun c_92 => ?_)
      ·
        refine wp_bipush (v := nI 9) (atd dX5_init 51 rfl) (by decide) ?_
        refine wp_istore (atd dX5_init 52 rfl) (Nat.le_of_ble_eq_true rfl) ?_
        refine wp_iload_n (atd dX5_init 53 rfl) rfl ?_
        refine wp_iconst (v := nI 1) (atd dX5_init 54 rfl) (by decide) ?_
        refine wp_icmpN_le (tgt := 113) (atd dX5_init 55 rfl) (by decide) (by omega) (by omega) (fun c_106 => ?_) (fun c_106 => ?_)
        ·
          refine wp_bipush (v := nI 9) (atd dX5_init 58 rfl) (by decide) ?_
          refine wp_istore (atd dX5_init 59 rfl) (Nat.le_of_ble_eq_true rfl) ?_
          refine wp_iload (atd dX5_init 60 rfl) rfl ?_
          refine wp_iload (atd dX5_init 61 rfl) rfl ?_
          refine wp_icmpN_gt (tgt := 184) (atd dX5_init 62 rfl) (by decide) (by omega) (by omega) (fun c_121 => ?_) (fun c_121 => ?_)
          · exfalso; omega
          ·
            refine wp_iload_n (atd dX5_init 63 rfl) rfl ?_
            refine wp_iconst (v := nI 2) (atd dX5_init 64 rfl) (by decide) ?_
            refine wp_icmpN_le (tgt := 134) (atd dX5_init 65 rfl) (by decide) (by omega) (by omega) (fun c_126 => ?_) (fun c_126 => ?_)
            ·
              refine wp_bipush (v := nI 9) (atd dX5_init 68 rfl) (by decide) ?_
              refine wp_istore (atd dX5_init 69 rfl) (Nat.le_of_ble_eq_true rfl) ?_
              refine wp_iload_n (atd dX5_init 70 rfl) rfl ?_
              refine wp_iconst (v := nI 2) (atd dX5_init 71 rfl) (by decide) ?_
              refine wp_icmpN_le (tgt := 148) (atd dX5_init 72 rfl) (by decide) (by omega) (by omega) (fun c_140 => ?_) (fun c_140 => ?_)
              ·
                refine wp_bipush (v := nI 9) (atd dX5_init 75 rfl) (by decide) ?_
                refine wp_istore (atd dX5_init 76 rfl) (Nat.le_of_ble_eq_true rfl) ?_
                refine wp_iload (atd dX5_init 77 rfl) rfl ?_
                refine wp_iload (atd dX5_init 78 rfl) rfl ?_
                refine wp_icmpN_gt (tgt := 178) (atd dX5_init 79 rfl) (by decide) (by omega) (by omega) (fun c_156 => ?_) (fun c_156 => ?_)
                · exfalso; omega
                ·
                  refine wp_aload_n (atd dX5_init 80 rfl) rfl rfl ?_
                  refine wp_iload_n (atd dX5_init 81 rfl) rfl ?_
                  refine wp_iload_n (atd dX5_init 82 rfl) rfl ?_
                  refine wp_iload (atd dX5_init 83 rfl) rfl ?_
                  refine wp_iload (atd dX5_init 84 rfl) rfl ?_
                  refine wp_cVv hdd [_, _, _, _] (atd dX5_init 85 rfl) iX5_tell lX5_39 rfl rfl (Nat.le_of_ble_eq_true rfl) hO rfl (eX5_tell (by omega) hO hSp hSd hNm (by omega) (rl_1 a (by omega)) (by omega) (by omega) (by omega)) (fun s_166 h_166 => ?_)
                  obtain ⟨f_166, hSp, hSd, hNm⟩ := h_166
                  have hO := hO.fr f_166 (by simp only [List.mem_cons, List.not_mem_nil, or_false]; omega)
                  have hF := hF.tr f_166 (by simp)
                  refine wp_iincN (c := 1) (atd dX5_init 86 rfl) rfl ?_
                  refine wp_iinc (v := nI 10) (atd dX5_init 87 rfl) rfl (by decide) ?_
                  refine wp_goto (tgt := 152) (atd dX5_init 88 rfl) (by decide) ?_
                  refine wp_iload (atd dX5_init 77 rfl) rfl ?_
                  refine wp_iload (atd dX5_init 78 rfl) rfl ?_
                  refine wp_icmpN_gt (tgt := 178) (atd dX5_init 79 rfl) (by decide) (by omega) (by omega) (fun c_156 => ?_) (fun c_156 => ?_)
                  ·
                    refine wp_iinc (v := nI 10) (atd dX5_init 89 rfl) rfl (by decide) ?_
                    refine wp_goto (tgt := 117) (atd dX5_init 90 rfl) (by decide) ?_
                    refine wp_iload (atd dX5_init 60 rfl) rfl ?_
                    refine wp_iload (atd dX5_init 61 rfl) rfl ?_
                    refine wp_icmpN_gt (tgt := 184) (atd dX5_init 62 rfl) (by decide) (by omega) (by omega) (fun c_121 => ?_) (fun c_121 => ?_)
                    ·
                      refine wp_iincN (c := 1) (atd dX5_init 91 rfl) rfl ?_
                      refine wp_goto (tgt := 84) (atd dX5_init 92 rfl) (by decide) ?_
                      exact ih (a + 1) _ _ _ _ _ (by omega) hO hSp hSd hNm hF
                    · exfalso; omega
                  · exfalso; omega
              · exfalso; omega
            · exfalso; omega
        · exfalso; omega
      · exfalso; omega
theorem lX5_i2 {G : Gx} {d : Nat} {Q : Option Value → Hp → Prop} (hd : 3 ≤ d) {σ0 : Hp} {r a : Nat} (ha : a < 9) (hk : ∀ (σ : Hp) (y4 y5 y6 y7 : Value), OB σ r 5 (roF r 0 0) → AI σ (r + 1) 657 (tSp (b2 (a + 1))) → AI σ (r + 2) 219 (tSd (b2 (a + 1))) → AO σ (r + 3) 1000 (tNm (b2 (a + 1))) → fr [r + 1, r + 2, r + 3] σ0 σ → Wp G mX5_init d 184 [.ref r, .int (nI (b2 (a + 1))), .int (nI 2), .int (nI a), y4, y5, y6, y7] [] σ 0 0 Q) : ∀ (x : Nat) (b : Nat) (σ : Hp) (y6 y7 : Value), b + x = 9 → a ≤ b → OB σ r 5 (roF r 0 0) → AI σ (r + 1) 657 (tSp (b2 a + (b - a))) → AI σ (r + 2) 219 (tSd (b2 a + (b - a))) → AO σ (r + 3) 1000 (tNm (b2 a + (b - a))) → fr [r + 1, r + 2, r + 3] σ0 σ → Wp G mX5_init d 117 [.ref r, .int (nI (b2 a + (b - a))), .int (nI 2), .int (nI a), .int (nI 8), .int (nI b), y6, y7] [] σ 0 0 Q := by
  obtain ⟨d0, hdd⟩ : ∃ e, d = e + 1 := ⟨d - 1, by omega⟩
  intro x
  induction x with
  | zero =>
    intro b σ y6 y7 h hb hO hSp hSd hNm hF
    obtain rfl : b = 9 := by omega
    refine wp_iload (atd dX5_init 60 rfl) rfl ?_
    refine wp_iload (atd dX5_init 61 rfl) rfl ?_
    refine wp_icmpN_gt (tgt := 184) (atd dX5_init 62 rfl) (by decide) (by omega) (by omega) (fun c_121 => ?_) (fun c_121 => ?_)
    ·
      have e := (b2_s a ha).1
      rw [← e] at hSp hSd hNm ⊢
      exact hk σ _ _ y6 y7 hO hSp hSd hNm hF
    · exfalso; omega
  | succ x ih =>
    intro b σ y6 y7 h hb hO hSp hSd hNm hF
    have hr := rl_2 a ha (b - a) (by omega)
    rw [show a + (b - a) = b from by omega] at hr
    refine wp_iload (atd dX5_init 60 rfl) rfl ?_
    refine wp_iload (atd dX5_init 61 rfl) rfl ?_
    refine wp_icmpN_gt (tgt := 184) (atd dX5_init 62 rfl) (by decide) (by omega) (by omega) (fun c_121 => ?_) (fun c_121 => ?_)
    · exfalso; omega
    ·
      refine wp_iload_n (atd dX5_init 63 rfl) rfl ?_
      refine wp_iconst (v := nI 2) (atd dX5_init 64 rfl) (by decide) ?_
      refine wp_icmpN_le (tgt := 134) (atd dX5_init 65 rfl) (by decide) (by omega) (by omega) (fun c_126 => ?_) (fun c_126 => ?_)
      ·
        refine wp_bipush (v := nI 9) (atd dX5_init 68 rfl) (by decide) ?_
        refine wp_istore (atd dX5_init 69 rfl) (Nat.le_of_ble_eq_true rfl) ?_
        refine wp_iload_n (atd dX5_init 70 rfl) rfl ?_
        refine wp_iconst (v := nI 2) (atd dX5_init 71 rfl) (by decide) ?_
        refine wp_icmpN_le (tgt := 148) (atd dX5_init 72 rfl) (by decide) (by omega) (by omega) (fun c_140 => ?_) (fun c_140 => ?_)
        ·
          refine wp_bipush (v := nI 9) (atd dX5_init 75 rfl) (by decide) ?_
          refine wp_istore (atd dX5_init 76 rfl) (Nat.le_of_ble_eq_true rfl) ?_
          refine wp_iload (atd dX5_init 77 rfl) rfl ?_
          refine wp_iload (atd dX5_init 78 rfl) rfl ?_
          refine wp_icmpN_gt (tgt := 178) (atd dX5_init 79 rfl) (by decide) (by omega) (by omega) (fun c_156 => ?_) (fun c_156 => ?_)
          · exfalso; omega
          ·
            refine wp_aload_n (atd dX5_init 80 rfl) rfl rfl ?_
            refine wp_iload_n (atd dX5_init 81 rfl) rfl ?_
            refine wp_iload_n (atd dX5_init 82 rfl) rfl ?_
            refine wp_iload (atd dX5_init 83 rfl) rfl ?_
            refine wp_iload (atd dX5_init 84 rfl) rfl ?_
            refine wp_cVv hdd [_, _, _, _] (atd dX5_init 85 rfl) iX5_tell lX5_39 rfl rfl (Nat.le_of_ble_eq_true rfl) hO rfl (eX5_tell (by omega) hO hSp hSd hNm (by omega) hr.1 (by omega) (by omega) (by omega)) (fun s_166 h_166 => ?_)
            obtain ⟨f_166, hSp, hSd, hNm⟩ := h_166
            have hO := hO.fr f_166 (by simp only [List.mem_cons, List.not_mem_nil, or_false]; omega)
            have hF := hF.tr f_166 (by simp)
            refine wp_iincN (c := 1) (atd dX5_init 86 rfl) rfl ?_
            refine wp_iinc (v := nI 10) (atd dX5_init 87 rfl) rfl (by decide) ?_
            refine wp_goto (tgt := 152) (atd dX5_init 88 rfl) (by decide) ?_
            refine wp_iload (atd dX5_init 77 rfl) rfl ?_
            refine wp_iload (atd dX5_init 78 rfl) rfl ?_
            refine wp_icmpN_gt (tgt := 178) (atd dX5_init 79 rfl) (by decide) (by omega) (by omega) (fun c_156 => ?_) (fun c_156 => ?_)
            ·
              refine wp_iincN (c := 1) (atd dX5_init 89 rfl) rfl ?_
              refine wp_goto (tgt := 117) (atd dX5_init 90 rfl) (by decide) ?_
              have e : b2 a + (b - a) + 1 = b2 a + (b + 1 - a) := by omega
              rw [e] at hSp hSd hNm ⊢
              exact ih (b + 1) _ _ _ (by omega) (by omega) hO hSp hSd hNm hF
            · exfalso; omega
        · exfalso; omega
      · exfalso; omega
theorem lX5_i2o {G : Gx} {d : Nat} {Q : Option Value → Hp → Prop} (hd : 3 ≤ d) {σ0 : Hp} {r : Nat} (hk : ∀ (σ : Hp) (y4 y5 y6 y7 : Value), OB σ r 5 (roF r 0 0) → AI σ (r + 1) 657 (tSp (54)) → AI σ (r + 2) 219 (tSd (54)) → AO σ (r + 3) 1000 (tNm (54)) → fr [r + 1, r + 2, r + 3] σ0 σ → Wp G mX5_init d 190 [.ref r, .int (nI 54), .int (nI 2), .int (nI 9), y4, y5, y6, y7] [] σ 0 0 Q) : ∀ (x : Nat) (a : Nat) (σ : Hp) (y4 y5 y6 y7 : Value), a + x = 9 → OB σ r 5 (roF r 0 0) → AI σ (r + 1) 657 (tSp (b2 a)) → AI σ (r + 2) 219 (tSd (b2 a)) → AO σ (r + 3) 1000 (tNm (b2 a)) → fr [r + 1, r + 2, r + 3] σ0 σ → Wp G mX5_init d 84 [.ref r, .int (nI (b2 a)), .int (nI 2), .int (nI a), y4, y5, y6, y7] [] σ 0 0 Q := by
  obtain ⟨d0, hdd⟩ : ∃ e, d = e + 1 := ⟨d - 1, by omega⟩
  intro x
  induction x with
  | zero =>
    intro a σ y4 y5 y6 y7 h hO hSp hSd hNm hF
    obtain rfl : a = 9 := by omega
    refine wp_iload_n (atd dX5_init 43 rfl) rfl ?_
    refine wp_bipush (v := nI 9) (atd dX5_init 44 rfl) (by decide) ?_
    refine wp_icmpN_ge (tgt := 190) (atd dX5_init 45 rfl) (by decide) (by omega) (by omega) (fun c_87 => ?_) (fun c_87 => ?_)
    ·
      exact hk σ y4 y5 y6 y7 hO hSp hSd hNm hF
    · exfalso; omega
  | succ x ih =>
    intro a σ y4 y5 y6 y7 h hO hSp hSd hNm hF
    refine wp_iload_n (atd dX5_init 43 rfl) rfl ?_
    refine wp_bipush (v := nI 9) (atd dX5_init 44 rfl) (by decide) ?_
    refine wp_icmpN_ge (tgt := 190) (atd dX5_init 45 rfl) (by decide) (by omega) (by omega) (fun c_87 => ?_) (fun c_87 => ?_)
    · exfalso; omega
    ·
      refine wp_iload_n (atd dX5_init 46 rfl) rfl ?_
      refine wp_iconst (v := nI 1) (atd dX5_init 47 rfl) (by decide) ?_
      refine wp_icmpN_le (tgt := 100) (atd dX5_init 48 rfl) (by decide) (by omega) (by omega) (fun c_92 => ?_) (fun c_92 => ?_)
      · exfalso; omega
      ·
        refine wp_bipush (v := nI 8) (atd dX5_init 49 rfl) (by decide) ?_
        refine wp_goto (tgt := 102) (atd dX5_init 50 rfl) (by decide) ?_
        refine wp_istore (atd dX5_init 52 rfl) (Nat.le_of_ble_eq_true rfl) ?_
        refine wp_iload_n (atd dX5_init 53 rfl) rfl ?_
        refine wp_iconst (v := nI 1) (atd dX5_init 54 rfl) (by decide) ?_
        refine wp_icmpN_le (tgt := 113) (atd dX5_init 55 rfl) (by decide) (by omega) (by omega) (fun c_106 => ?_) (fun c_106 => ?_)
        · exfalso; omega
        ·
          refine wp_iload_n (atd dX5_init 56 rfl) rfl ?_
          refine wp_goto (tgt := 115) (atd dX5_init 57 rfl) (by decide) ?_
          refine wp_istore (atd dX5_init 59 rfl) (Nat.le_of_ble_eq_true rfl) ?_
          have e : b2 a = b2 a + (a - a) := by omega
          rw [e] at hSp hSd hNm ⊢
          refine lX5_i2 (by omega) (by omega) (fun σ y4 y5 y6 y7 hO hSp hSd hNm hF => ?_) (9 - a) a σ _ _ (by omega) (Nat.le_refl _) hO hSp hSd hNm hF
          refine wp_iincN (c := 1) (atd dX5_init 91 rfl) rfl ?_
          refine wp_goto (tgt := 84) (atd dX5_init 92 rfl) (by decide) ?_
          exact ih (a + 1) σ y4 y5 y6 y7 (by omega) hO hSp hSd hNm hF
theorem lX5_i3 {G : Gx} {d : Nat} {Q : Option Value → Hp → Prop} (hd : 3 ≤ d) {σ0 : Hp} {r a b : Nat} (ha : a < 9) (hb9 : b < 9) (hab : a ≤ b) (hk : ∀ (σ : Hp) (y4 y5 y6 y7 : Value), OB σ r 5 (roF r 0 0) → AI σ (r + 1) 657 (tSp (b3 a (b + 1))) → AI σ (r + 2) 219 (tSd (b3 a (b + 1))) → AO σ (r + 3) 1000 (tNm (b3 a (b + 1))) → fr [r + 1, r + 2, r + 3] σ0 σ → Wp G mX5_init d 178 [.ref r, .int (nI (b3 a (b + 1))), .int (nI 3), .int (nI a), .int (nI 8), .int (nI b), y6, y7] [] σ 0 0 Q) : ∀ (x : Nat) (c : Nat) (σ : Hp), c + x = 9 → b ≤ c → OB σ r 5 (roF r 0 0) → AI σ (r + 1) 657 (tSp (b3 a b + (c - b))) → AI σ (r + 2) 219 (tSd (b3 a b + (c - b))) → AO σ (r + 3) 1000 (tNm (b3 a b + (c - b))) → fr [r + 1, r + 2, r + 3] σ0 σ → Wp G mX5_init d 152 [.ref r, .int (nI (b3 a b + (c - b))), .int (nI 3), .int (nI a), .int (nI 8), .int (nI b), .int (nI 8), .int (nI c)] [] σ 0 0 Q := by
  obtain ⟨d0, hdd⟩ : ∃ e, d = e + 1 := ⟨d - 1, by omega⟩
  intro x
  induction x with
  | zero =>
    intro c σ h hb hO hSp hSd hNm hF
    obtain rfl : c = 9 := by omega
    refine wp_iload (atd dX5_init 77 rfl) rfl ?_
    refine wp_iload (atd dX5_init 78 rfl) rfl ?_
    refine wp_icmpN_gt (tgt := 178) (atd dX5_init 79 rfl) (by decide) (by omega) (by omega) (fun c_156 => ?_) (fun c_156 => ?_)
    ·
      have e := (b3_s hb9 hab).symm
      rw [e] at hSp hSd hNm ⊢
      exact hk σ .null .null _ _ hO hSp hSd hNm hF
    · exfalso; omega
  | succ x ih =>
    intro c σ h hb hO hSp hSd hNm hF
    have hr := rl_3 a ha b hb9 hab (c - b) (by omega)
    rw [show b + (c - b) = c from by omega] at hr
    refine wp_iload (atd dX5_init 77 rfl) rfl ?_
    refine wp_iload (atd dX5_init 78 rfl) rfl ?_
    refine wp_icmpN_gt (tgt := 178) (atd dX5_init 79 rfl) (by decide) (by omega) (by omega) (fun c_156 => ?_) (fun c_156 => ?_)
    · exfalso; omega
    ·
      refine wp_aload_n (atd dX5_init 80 rfl) rfl rfl ?_
      refine wp_iload_n (atd dX5_init 81 rfl) rfl ?_
      refine wp_iload_n (atd dX5_init 82 rfl) rfl ?_
      refine wp_iload (atd dX5_init 83 rfl) rfl ?_
      refine wp_iload (atd dX5_init 84 rfl) rfl ?_
      refine wp_cVv hdd [_, _, _, _] (atd dX5_init 85 rfl) iX5_tell lX5_39 rfl rfl (Nat.le_of_ble_eq_true rfl) hO rfl (eX5_tell (by omega) hO hSp hSd hNm (by omega) hr.1 (by omega) (by omega) (by omega)) (fun s_166 h_166 => ?_)
      obtain ⟨f_166, hSp, hSd, hNm⟩ := h_166
      have hO := hO.fr f_166 (by simp only [List.mem_cons, List.not_mem_nil, or_false]; omega)
      have hF := hF.tr f_166 (by simp)
      refine wp_iincN (c := 1) (atd dX5_init 86 rfl) rfl ?_
      refine wp_iincN (c := 1) (atd dX5_init 87 rfl) rfl ?_
      refine wp_goto (tgt := 152) (atd dX5_init 88 rfl) (by decide) ?_
      have e : b3 a b + (c - b) + 1 = b3 a b + (c + 1 - b) := by omega
      rw [e] at hSp hSd hNm ⊢
      exact ih (c + 1) _ (by omega) (by omega) hO hSp hSd hNm hF
theorem lX5_i3b {G : Gx} {d : Nat} {Q : Option Value → Hp → Prop} (hd : 3 ≤ d) {σ0 : Hp} {r a : Nat} (ha : a < 9) (hk : ∀ (σ : Hp) (y4 y5 y6 y7 : Value), OB σ r 5 (roF r 0 0) → AI σ (r + 1) 657 (tSp (c3 (a + 1))) → AI σ (r + 2) 219 (tSd (c3 (a + 1))) → AO σ (r + 3) 1000 (tNm (c3 (a + 1))) → fr [r + 1, r + 2, r + 3] σ0 σ → Wp G mX5_init d 184 [.ref r, .int (nI (c3 (a + 1))), .int (nI 3), .int (nI a), y4, y5, y6, y7] [] σ 0 0 Q) : ∀ (x : Nat) (b : Nat) (σ : Hp) (y6 y7 : Value), b + x = 9 → a ≤ b → OB σ r 5 (roF r 0 0) → AI σ (r + 1) 657 (tSp (b3 a b)) → AI σ (r + 2) 219 (tSd (b3 a b)) → AO σ (r + 3) 1000 (tNm (b3 a b)) → fr [r + 1, r + 2, r + 3] σ0 σ → Wp G mX5_init d 117 [.ref r, .int (nI (b3 a b)), .int (nI 3), .int (nI a), .int (nI 8), .int (nI b), y6, y7] [] σ 0 0 Q := by
  obtain ⟨d0, hdd⟩ : ∃ e, d = e + 1 := ⟨d - 1, by omega⟩
  intro x
  induction x with
  | zero =>
    intro b σ y6 y7 h hb hO hSp hSd hNm hF
    obtain rfl : b = 9 := by omega
    refine wp_iload (atd dX5_init 60 rfl) rfl ?_
    refine wp_iload (atd dX5_init 61 rfl) rfl ?_
    refine wp_icmpN_gt (tgt := 184) (atd dX5_init 62 rfl) (by decide) (by omega) (by omega) (fun c_121 => ?_) (fun c_121 => ?_)
    ·
      rw [b3_9 ha] at hSp hSd hNm ⊢
      exact hk σ _ _ y6 y7 hO hSp hSd hNm hF
    · exfalso; omega
  | succ x ih =>
    intro b σ y6 y7 h hb hO hSp hSd hNm hF
    refine wp_iload (atd dX5_init 60 rfl) rfl ?_
    refine wp_iload (atd dX5_init 61 rfl) rfl ?_
    refine wp_icmpN_gt (tgt := 184) (atd dX5_init 62 rfl) (by decide) (by omega) (by omega) (fun c_121 => ?_) (fun c_121 => ?_)
    · exfalso; omega
    ·
      refine wp_iload_n (atd dX5_init 63 rfl) rfl ?_
      refine wp_iconst (v := nI 2) (atd dX5_init 64 rfl) (by decide) ?_
      refine wp_icmpN_le (tgt := 134) (atd dX5_init 65 rfl) (by decide) (by omega) (by omega) (fun c_126 => ?_) (fun c_126 => ?_)
      · exfalso; omega
      ·
        refine wp_bipush (v := nI 8) (atd dX5_init 66 rfl) (by decide) ?_
        refine wp_goto (tgt := 136) (atd dX5_init 67 rfl) (by decide) ?_
        refine wp_istore (atd dX5_init 69 rfl) (Nat.le_of_ble_eq_true rfl) ?_
        refine wp_iload_n (atd dX5_init 70 rfl) rfl ?_
        refine wp_iconst (v := nI 2) (atd dX5_init 71 rfl) (by decide) ?_
        refine wp_icmpN_le (tgt := 148) (atd dX5_init 72 rfl) (by decide) (by omega) (by omega) (fun c_140 => ?_) (fun c_140 => ?_)
        · exfalso; omega
        ·
          refine wp_iload (atd dX5_init 73 rfl) rfl ?_
          refine wp_goto (tgt := 150) (atd dX5_init 74 rfl) (by decide) ?_
          refine wp_istore (atd dX5_init 76 rfl) (Nat.le_of_ble_eq_true rfl) ?_
          have e : b3 a b = b3 a b + (b - b) := by omega
          rw [e] at hSp hSd hNm ⊢
          refine lX5_i3 (by omega) ha (by omega) hb (fun σ y4 y5 y6 y7 hO hSp hSd hNm hF => ?_) (9 - b) b σ (by omega) (Nat.le_refl _) hO hSp hSd hNm hF
          refine wp_iincN (c := 1) (atd dX5_init 89 rfl) rfl ?_
          refine wp_goto (tgt := 117) (atd dX5_init 90 rfl) (by decide) ?_
          exact ih (b + 1) σ y6 y7 (by omega) (by omega) hO hSp hSd hNm hF
theorem lX5_i3o {G : Gx} {d : Nat} {Q : Option Value → Hp → Prop} (hd : 3 ≤ d) {σ0 : Hp} {r : Nat} (hk : ∀ (σ : Hp) (y4 y5 y6 y7 : Value), OB σ r 5 (roF r 0 0) → AI σ (r + 1) 657 (tSp (219)) → AI σ (r + 2) 219 (tSd (219)) → AO σ (r + 3) 1000 (tNm (219)) → fr [r + 1, r + 2, r + 3] σ0 σ → Wp G mX5_init d 190 [.ref r, .int (nI 219), .int (nI 3), .int (nI 9), y4, y5, y6, y7] [] σ 0 0 Q) : ∀ (x : Nat) (a : Nat) (σ : Hp) (y4 y5 y6 y7 : Value), a + x = 9 → OB σ r 5 (roF r 0 0) → AI σ (r + 1) 657 (tSp (c3 a)) → AI σ (r + 2) 219 (tSd (c3 a)) → AO σ (r + 3) 1000 (tNm (c3 a)) → fr [r + 1, r + 2, r + 3] σ0 σ → Wp G mX5_init d 84 [.ref r, .int (nI (c3 a)), .int (nI 3), .int (nI a), y4, y5, y6, y7] [] σ 0 0 Q := by
  obtain ⟨d0, hdd⟩ : ∃ e, d = e + 1 := ⟨d - 1, by omega⟩
  intro x
  induction x with
  | zero =>
    intro a σ y4 y5 y6 y7 h hO hSp hSd hNm hF
    obtain rfl : a = 9 := by omega
    refine wp_iload_n (atd dX5_init 43 rfl) rfl ?_
    refine wp_bipush (v := nI 9) (atd dX5_init 44 rfl) (by decide) ?_
    refine wp_icmpN_ge (tgt := 190) (atd dX5_init 45 rfl) (by decide) (by omega) (by omega) (fun c_87 => ?_) (fun c_87 => ?_)
    ·
      exact hk σ y4 y5 y6 y7 hO hSp hSd hNm hF
    · exfalso; omega
  | succ x ih =>
    intro a σ y4 y5 y6 y7 h hO hSp hSd hNm hF
    refine wp_iload_n (atd dX5_init 43 rfl) rfl ?_
    refine wp_bipush (v := nI 9) (atd dX5_init 44 rfl) (by decide) ?_
    refine wp_icmpN_ge (tgt := 190) (atd dX5_init 45 rfl) (by decide) (by omega) (by omega) (fun c_87 => ?_) (fun c_87 => ?_)
    · exfalso; omega
    ·
      refine wp_iload_n (atd dX5_init 46 rfl) rfl ?_
      refine wp_iconst (v := nI 1) (atd dX5_init 47 rfl) (by decide) ?_
      refine wp_icmpN_le (tgt := 100) (atd dX5_init 48 rfl) (by decide) (by omega) (by omega) (fun c_92 => ?_) (fun c_92 => ?_)
      · exfalso; omega
      ·
        refine wp_bipush (v := nI 8) (atd dX5_init 49 rfl) (by decide) ?_
        refine wp_goto (tgt := 102) (atd dX5_init 50 rfl) (by decide) ?_
        refine wp_istore (atd dX5_init 52 rfl) (Nat.le_of_ble_eq_true rfl) ?_
        refine wp_iload_n (atd dX5_init 53 rfl) rfl ?_
        refine wp_iconst (v := nI 1) (atd dX5_init 54 rfl) (by decide) ?_
        refine wp_icmpN_le (tgt := 113) (atd dX5_init 55 rfl) (by decide) (by omega) (by omega) (fun c_106 => ?_) (fun c_106 => ?_)
        · exfalso; omega
        ·
          refine wp_iload_n (atd dX5_init 56 rfl) rfl ?_
          refine wp_goto (tgt := 115) (atd dX5_init 57 rfl) (by decide) ?_
          refine wp_istore (atd dX5_init 59 rfl) (Nat.le_of_ble_eq_true rfl) ?_
          rw [← b3_0] at hSp hSd hNm ⊢
          refine lX5_i3b (by omega) (by omega) (fun σ y4 y5 y6 y7 hO hSp hSd hNm hF => ?_) (9 - a) a σ _ _ (by omega) (Nat.le_refl _) hO hSp hSd hNm hF
          refine wp_iincN (c := 1) (atd dX5_init 91 rfl) rfl ?_
          refine wp_goto (tgt := 84) (atd dX5_init 92 rfl) (by decide) ?_
          exact ih (a + 1) σ y4 y5 y6 y7 (by omega) hO hSp hSd hNm hF
theorem AK_AO {σ : Hp} {k L : Nat} (h : AK σ k L (-1)) : AO σ k L (fun _ => none) := by obtain ⟨f, h1, h2⟩ := h; exact ⟨f, h1, h2⟩
theorem tNm_0 (j : Nat) : tNm 0 j = none := by
  cases h : nmC j with
  | none => exact tNm_n h
  | some x => rw [tNm_x h, if_neg (by omega)]
theorem eX5_init {G : Gx} {d : Nat} {σ : Hp} (hd : 3 ≤ d) {r : Nat} (hs : σ.1 = r + 1) (hO : OB σ r 5 [.null, .null, .null, .null, .null, .null, .int 0, .null, .int 0]) : Cl G mX5_init d [.ref r] σ 7 2370 (pV fun s => s.1 = r + 8 ∧ fA [r] σ s ∧ RT s r ∧ LR s r (fun _ => 0) ∧ FS s r 0 []) := by
  obtain ⟨d0, hdd⟩ : ∃ e, d = e + 1 := ⟨d - 1, by omega⟩
  refine cl_of (by decide) (by simp [Value.category]) (Nat.le_of_ble_eq_true rfl) ?_
  show Wp G mX5_init d 0 [.ref r, .double 0, .double 0, .double 0, .double 0, .double 0, .double 0, .double 0] [] σ 7 2370 _
  have hF : fA [r] σ σ := fA.rf
  refine wp_aload_n (atd dX5_init 0 rfl) rfl rfl ?_
  refine wp_objInit (atd dX5_init 1 rfl) lX5_3 (by omega) (Nat.le_of_ble_eq_true rfl) ?_
  refine wp_aload_n (atd dX5_init 2 rfl) rfl rfl ?_
  refine wp_sipush (v := nI 657) (atd dX5_init 3 rfl) (by decide) ?_
  refine wp_newiA (mc := 6) (ms := 1713) (atd dX5_init 4 rfl) (by decide) (fun σ f_8 hz hSp => ?_)
  rw [hs] at hSp ⊢
  have hs : σ.1 = r + 2 := by omega
  have hO := hO.fA f_8 (by omega) List.not_mem_nil
  have hF := hF.tr f_8 (by simp)
  refine wp_putFX FfX5_9 (atd dX5_init 5 rfl) rfl hO rfl (Nat.le_of_ble_eq_true rfl) (fun σ f_10 hO => ?_)
  have hF := hF.trN f_10.A (fun j hj => by simp only [List.mem_cons, List.not_mem_nil, or_false] at hj ⊢; omega)
  have hSp := hSp.fr f_10 (by simp only [List.mem_cons, List.not_mem_nil, or_false]; omega)
  have hs : σ.1 = r + 2 := by rw [f_10.1]; exact hs
  refine wp_aload_n (atd dX5_init 6 rfl) rfl rfl ?_
  refine wp_sipush (v := nI 219) (atd dX5_init 7 rfl) (by decide) ?_
  refine wp_newiA (mc := 5) (ms := 1494) (atd dX5_init 8 rfl) (by decide) (fun σ f_17 hz hSd => ?_)
  rw [hs] at hSd ⊢
  have hs : σ.1 = r + 3 := by omega
  have hO := hO.fA f_17 (by omega) List.not_mem_nil
  have hSp := hSp.fA f_17 (by omega) List.not_mem_nil
  have hF := hF.tr f_17 (by simp)
  refine wp_putFX FfX5_15 (atd dX5_init 9 rfl) rfl hO rfl (Nat.le_of_ble_eq_true rfl) (fun σ f_19 hO => ?_)
  have hF := hF.trN f_19.A (fun j hj => by simp only [List.mem_cons, List.not_mem_nil, or_false] at hj ⊢; omega)
  have hSp := hSp.fr f_19 (by simp only [List.mem_cons, List.not_mem_nil, or_false]; omega)
  have hSd := hSd.fr f_19 (by simp only [List.mem_cons, List.not_mem_nil, or_false]; omega)
  have hs : σ.1 = r + 3 := by rw [f_19.1]; exact hs
  refine wp_aload_n (atd dX5_init 10 rfl) rfl rfl ?_
  refine wp_sipush (v := nI 1000) (atd dX5_init 11 rfl) (by decide) ?_
  refine wp_newiA (mc := 4) (ms := 494) (atd dX5_init 12 rfl) (by decide) (fun σ f_26 hz hNm => ?_)
  rw [hs] at hNm ⊢
  have hs : σ.1 = r + 4 := by omega
  have hO := hO.fA f_26 (by omega) List.not_mem_nil
  have hSp := hSp.fA f_26 (by omega) List.not_mem_nil
  have hSd := hSd.fA f_26 (by omega) List.not_mem_nil
  have hF := hF.tr f_26 (by simp)
  refine wp_putFX FfX5_18 (atd dX5_init 13 rfl) rfl hO rfl (Nat.le_of_ble_eq_true rfl) (fun σ f_28 hO => ?_)
  have hF := hF.trN f_28.A (fun j hj => by simp only [List.mem_cons, List.not_mem_nil, or_false] at hj ⊢; omega)
  have hSp := hSp.fr f_28 (by simp only [List.mem_cons, List.not_mem_nil, or_false]; omega)
  have hSd := hSd.fr f_28 (by simp only [List.mem_cons, List.not_mem_nil, or_false]; omega)
  have hNm := hNm.fr f_28 (by simp only [List.mem_cons, List.not_mem_nil, or_false]; omega)
  have hs : σ.1 = r + 4 := by rw [f_28.1]; exact hs
  refine wp_aload_n (atd dX5_init 14 rfl) rfl rfl ?_
  refine wp_bipush (v := nI 100) (atd dX5_init 15 rfl) (by decide) ?_
  refine wp_newiA (mc := 3) (ms := 394) (atd dX5_init 16 rfl) (by decide) (fun σ f_34 hz hNs => ?_)
  rw [hs] at hNs ⊢
  have hs : σ.1 = r + 5 := by omega
  have hO := hO.fA f_34 (by omega) List.not_mem_nil
  have hSp := hSp.fA f_34 (by omega) List.not_mem_nil
  have hSd := hSd.fA f_34 (by omega) List.not_mem_nil
  have hNm := hNm.fA f_34 (by omega) List.not_mem_nil
  have hF := hF.tr f_34 (by simp)
  refine wp_putFX FfX5_21 (atd dX5_init 17 rfl) rfl hO rfl (Nat.le_of_ble_eq_true rfl) (fun σ f_36 hO => ?_)
  have hF := hF.trN f_36.A (fun j hj => by simp only [List.mem_cons, List.not_mem_nil, or_false] at hj ⊢; omega)
  have hSp := hSp.fr f_36 (by simp only [List.mem_cons, List.not_mem_nil, or_false]; omega)
  have hSd := hSd.fr f_36 (by simp only [List.mem_cons, List.not_mem_nil, or_false]; omega)
  have hNm := hNm.fr f_36 (by simp only [List.mem_cons, List.not_mem_nil, or_false]; omega)
  have hNs := hNs.fr f_36 (by simp only [List.mem_cons, List.not_mem_nil, or_false]; omega)
  have hs : σ.1 = r + 5 := by rw [f_36.1]; exact hs
  refine wp_aload_n (atd dX5_init 18 rfl) rfl rfl ?_
  refine wp_bipush (v := nI 10) (atd dX5_init 19 rfl) (by decide) ?_
  refine wp_newiA (mc := 2) (ms := 384) (atd dX5_init 20 rfl) (by decide) (fun σ f_42 hz hNc => ?_)
  rw [hs] at hNc ⊢
  have hs : σ.1 = r + 6 := by omega
  have hO := hO.fA f_42 (by omega) List.not_mem_nil
  have hSp := hSp.fA f_42 (by omega) List.not_mem_nil
  have hSd := hSd.fA f_42 (by omega) List.not_mem_nil
  have hNm := hNm.fA f_42 (by omega) List.not_mem_nil
  have hNs := hNs.fA f_42 (by omega) List.not_mem_nil
  have hF := hF.tr f_42 (by simp)
  refine wp_putFX FfX5_24 (atd dX5_init 21 rfl) rfl hO rfl (Nat.le_of_ble_eq_true rfl) (fun σ f_44 hO => ?_)
  have hF := hF.trN f_44.A (fun j hj => by simp only [List.mem_cons, List.not_mem_nil, or_false] at hj ⊢; omega)
  have hSp := hSp.fr f_44 (by simp only [List.mem_cons, List.not_mem_nil, or_false]; omega)
  have hSd := hSd.fr f_44 (by simp only [List.mem_cons, List.not_mem_nil, or_false]; omega)
  have hNm := hNm.fr f_44 (by simp only [List.mem_cons, List.not_mem_nil, or_false]; omega)
  have hNs := hNs.fr f_44 (by simp only [List.mem_cons, List.not_mem_nil, or_false]; omega)
  have hNc := hNc.fr f_44 (by simp only [List.mem_cons, List.not_mem_nil, or_false]; omega)
  have hs : σ.1 = r + 6 := by rw [f_44.1]; exact hs
  refine wp_aload_n (atd dX5_init 22 rfl) rfl rfl ?_
  refine wp_sipush (v := nI 165) (atd dX5_init 23 rfl) (by decide) ?_
  refine wp_newiA (mc := 1) (ms := 219) (atd dX5_init 24 rfl) (by decide) (fun σ f_51 hz hFo => ?_)
  rw [hs] at hFo ⊢
  have hs : σ.1 = r + 7 := by omega
  have hO := hO.fA f_51 (by omega) List.not_mem_nil
  have hSp := hSp.fA f_51 (by omega) List.not_mem_nil
  have hSd := hSd.fA f_51 (by omega) List.not_mem_nil
  have hNm := hNm.fA f_51 (by omega) List.not_mem_nil
  have hNs := hNs.fA f_51 (by omega) List.not_mem_nil
  have hNc := hNc.fA f_51 (by omega) List.not_mem_nil
  have hF := hF.tr f_51 (by simp)
  refine wp_putFX FfX5_27 (atd dX5_init 25 rfl) rfl hO rfl (Nat.le_of_ble_eq_true rfl) (fun σ f_53 hO => ?_)
  have hF := hF.trN f_53.A (fun j hj => by simp only [List.mem_cons, List.not_mem_nil, or_false] at hj ⊢; omega)
  have hSp := hSp.fr f_53 (by simp only [List.mem_cons, List.not_mem_nil, or_false]; omega)
  have hSd := hSd.fr f_53 (by simp only [List.mem_cons, List.not_mem_nil, or_false]; omega)
  have hNm := hNm.fr f_53 (by simp only [List.mem_cons, List.not_mem_nil, or_false]; omega)
  have hNs := hNs.fr f_53 (by simp only [List.mem_cons, List.not_mem_nil, or_false]; omega)
  have hNc := hNc.fr f_53 (by simp only [List.mem_cons, List.not_mem_nil, or_false]; omega)
  have hFo := hFo.fr f_53 (by simp only [List.mem_cons, List.not_mem_nil, or_false]; omega)
  have hs : σ.1 = r + 7 := by rw [f_53.1]; exact hs
  refine wp_aload_n (atd dX5_init 26 rfl) rfl rfl ?_
  refine wp_sipush (v := nI 219) (atd dX5_init 27 rfl) (by decide) ?_
  refine wp_newiA (mc := 0) (ms := 0) (atd dX5_init 28 rfl) (by decide) (fun σ f_60 hz hSe => ?_)
  rw [hs] at hSe ⊢
  have hs : σ.1 = r + 8 := by omega
  have hO := hO.fA f_60 (by omega) List.not_mem_nil
  have hSp := hSp.fA f_60 (by omega) List.not_mem_nil
  have hSd := hSd.fA f_60 (by omega) List.not_mem_nil
  have hNm := hNm.fA f_60 (by omega) List.not_mem_nil
  have hNs := hNs.fA f_60 (by omega) List.not_mem_nil
  have hNc := hNc.fA f_60 (by omega) List.not_mem_nil
  have hFo := hFo.fA f_60 (by omega) List.not_mem_nil
  have hF := hF.tr f_60 (by simp)
  refine wp_putFX FfX5_30 (atd dX5_init 29 rfl) rfl hO rfl (Nat.le_of_ble_eq_true rfl) (fun σ f_62 hO => ?_)
  have hF := hF.trN f_62.A (fun j hj => by simp only [List.mem_cons, List.not_mem_nil, or_false] at hj ⊢; omega)
  have hSp := hSp.fr f_62 (by simp only [List.mem_cons, List.not_mem_nil, or_false]; omega)
  have hSd := hSd.fr f_62 (by simp only [List.mem_cons, List.not_mem_nil, or_false]; omega)
  have hNm := hNm.fr f_62 (by simp only [List.mem_cons, List.not_mem_nil, or_false]; omega)
  have hNs := hNs.fr f_62 (by simp only [List.mem_cons, List.not_mem_nil, or_false]; omega)
  have hNc := hNc.fr f_62 (by simp only [List.mem_cons, List.not_mem_nil, or_false]; omega)
  have hFo := hFo.fr f_62 (by simp only [List.mem_cons, List.not_mem_nil, or_false]; omega)
  have hSe := hSe.fr f_62 (by simp only [List.mem_cons, List.not_mem_nil, or_false]; omega)
  have hs : σ.1 = r + 8 := by rw [f_62.1]; exact hs
  refine wp_aload_n (atd dX5_init 30 rfl) rfl rfl ?_
  refine wp_get fX5_18 (atd dX5_init 31 rfl) hO rfl ?_
  refine wp_iconst (v := -1) (atd dX5_init 32 rfl) (by decide) ?_
  refine wp_cSv hdd [_, _] (atd dX5_init 33 rfl) iJ7_fill_53178 lX5_33 rfl rfl (Nat.le_of_ble_eq_true rfl) (eJ7_fill (by decide) hNm.X) (fun s_70 h_70 => ?_)
  obtain ⟨f_70, hAk⟩ := h_70
  have hNm : AO s_70 (r + 3) 1000 (tNm 0) := (AK_AO hAk).cg (fun i _ => (tNm_0 i).symm)
  have hO := hO.fr f_70 (by simp only [List.mem_cons, List.not_mem_nil, or_false]; omega)
  have hSp := hSp.fr f_70 (by simp only [List.mem_cons, List.not_mem_nil, or_false]; omega)
  have hSd := hSd.fr f_70 (by simp only [List.mem_cons, List.not_mem_nil, or_false]; omega)
  have hNs := hNs.fr f_70 (by simp only [List.mem_cons, List.not_mem_nil, or_false]; omega)
  have hNc := hNc.fr f_70 (by simp only [List.mem_cons, List.not_mem_nil, or_false]; omega)
  have hFo := hFo.fr f_70 (by simp only [List.mem_cons, List.not_mem_nil, or_false]; omega)
  have hSe := hSe.fr f_70 (by simp only [List.mem_cons, List.not_mem_nil, or_false]; omega)
  have hF := hF.trN f_70.A (fun j hj => by simp only [List.mem_cons, List.not_mem_nil, or_false] at hj ⊢; omega)
  have hs : s_70.1 = r + 8 := by rw [f_70.1]; exact hs
  refine wp_iconst (v := nI 0) (atd dX5_init 34 rfl) (by decide) ?_
  refine wp_istore_n (atd dX5_init 35 rfl) (Nat.le_of_ble_eq_true rfl) ?_
  refine wp_iconst (v := nI 1) (atd dX5_init 36 rfl) (by decide) ?_
  refine wp_istore_n (atd dX5_init 37 rfl) (Nat.le_of_ble_eq_true rfl) ?_
  refine wp_iload_n (atd dX5_init 38 rfl) rfl ?_
  refine wp_iconst (v := nI 3) (atd dX5_init 39 rfl) (by decide) ?_
  refine wp_icmpN_gt (tgt := 196) (atd dX5_init 40 rfl) (by decide) (by omega) (by omega) (fun c_79 => ?_) (fun c_79 => ?_)
  · exfalso; omega
  ·
    refine wp_iconst (v := nI 0) (atd dX5_init 41 rfl) (by decide) ?_
    refine wp_istore_n (atd dX5_init 42 rfl) (Nat.le_of_ble_eq_true rfl) ?_
    have hSp := hSp.cg (g2 := tSp 0) (fun i _ => by unfold tSp; rw [if_neg (by omega)])
    have hSd := hSd.cg (g2 := tSd 0) (fun i _ => by unfold tSd; rw [if_neg (by omega)])
    have hO : OB _ r 5 (roF r 0 0) := hO
    have hFz := hF
    have hF := fr.rf (S := [r + 1, r + 2, r + 3]) (σ := s_70)
    refine lX5_i1 (by omega) (fun σ y4 y5 y6 y7 hO hSp hSd hNm hF => ?_) 9 0 _ _ _ _ _ (by omega) hO hSp hSd hNm hF
    refine wp_iinc (v := nI 2) (atd dX5_init 93 rfl) rfl (by decide) ?_
    refine wp_goto (tgt := 77) (atd dX5_init 94 rfl) (by decide) ?_
    refine wp_iload_n (atd dX5_init 38 rfl) rfl ?_
    refine wp_iconst (v := nI 3) (atd dX5_init 39 rfl) (by decide) ?_
    refine wp_icmpN_gt (tgt := 196) (atd dX5_init 40 rfl) (by decide) (by omega) (by omega) (fun c_79 => ?_) (fun c_79 => ?_)
    · exfalso; omega
    ·
      refine wp_iconst (v := nI 0) (atd dX5_init 41 rfl) (by decide) ?_
      refine wp_istore_n (atd dX5_init 42 rfl) (Nat.le_of_ble_eq_true rfl) ?_
      refine lX5_i2o (by omega) (fun σ y4 y5 y6 y7 hO hSp hSd hNm hF => ?_) 9 0 _ _ _ _ _ (by omega) hO hSp hSd hNm hF
      refine wp_iinc (v := nI 3) (atd dX5_init 93 rfl) rfl (by decide) ?_
      refine wp_goto (tgt := 77) (atd dX5_init 94 rfl) (by decide) ?_
      refine wp_iload_n (atd dX5_init 38 rfl) rfl ?_
      refine wp_iconst (v := nI 3) (atd dX5_init 39 rfl) (by decide) ?_
      refine wp_icmpN_gt (tgt := 196) (atd dX5_init 40 rfl) (by decide) (by omega) (by omega) (fun c_79 => ?_) (fun c_79 => ?_)
      · exfalso; omega
      ·
        refine wp_iconst (v := nI 0) (atd dX5_init 41 rfl) (by decide) ?_
        refine wp_istore_n (atd dX5_init 42 rfl) (Nat.le_of_ble_eq_true rfl) ?_
        refine lX5_i3o (by omega) (fun σ y4 y5 y6 y7 hO hSp hSd hNm hF => ?_) 9 0 _ _ _ _ _ (by omega) hO hSp hSd hNm hF
        have hfz := hF
        have hNs := hNs.fr hF (by simp only [List.mem_cons, List.not_mem_nil, or_false]; omega)
        have hNc := hNc.fr hF (by simp only [List.mem_cons, List.not_mem_nil, or_false]; omega)
        have hFo := hFo.fr hF (by simp only [List.mem_cons, List.not_mem_nil, or_false]; omega)
        have hSe := hSe.fr hF (by simp only [List.mem_cons, List.not_mem_nil, or_false]; omega)
        refine wp_iinc (v := nI 4) (atd dX5_init 93 rfl) rfl (by decide) ?_
        refine wp_goto (tgt := 77) (atd dX5_init 94 rfl) (by decide) ?_
        refine wp_iload_n (atd dX5_init 38 rfl) rfl ?_
        refine wp_iconst (v := nI 3) (atd dX5_init 39 rfl) (by decide) ?_
        refine wp_icmpN_gt (tgt := 196) (atd dX5_init 40 rfl) (by decide) (by omega) (by omega) (fun c_79 => ?_) (fun c_79 => ?_)
        ·
          refine wp_aload_n (atd dX5_init 95 rfl) rfl rfl ?_
          refine wp_get fX5_21 (atd dX5_init 96 rfl) hO rfl ?_
          refine wp_bipush (v := nI 90) (atd dX5_init 97 rfl) (by decide) ?_
          refine wp_bipush (v := nI 9) (atd dX5_init 98 rfl) (by decide) ?_
          refine wp_iastA (atd dX5_init 99 rfl) hNs (by omega) (Nat.le_of_ble_eq_true rfl) (fun σ f_204 hNs => ?_)
          have hO := hO.fr f_204 (by first | decide | (simp only [List.mem_cons, List.not_mem_nil, or_false]; omega))
          have hSp := hSp.fr f_204 (by first | decide | (simp only [List.mem_cons, List.not_mem_nil, or_false]; omega))
          have hSd := hSd.fr f_204 (by first | decide | (simp only [List.mem_cons, List.not_mem_nil, or_false]; omega))
          have hNm := hNm.fr f_204 (by first | decide | (simp only [List.mem_cons, List.not_mem_nil, or_false]; omega))
          have hFo := hFo.fr f_204 (by first | decide | (simp only [List.mem_cons, List.not_mem_nil, or_false]; omega))
          have hSe := hSe.fr f_204 (by first | decide | (simp only [List.mem_cons, List.not_mem_nil, or_false]; omega))
          have hNc := hNc.fr f_204 (by first | decide | (simp only [List.mem_cons, List.not_mem_nil, or_false]; omega))
          have hF := hF.A.tr2 f_204.A
          refine wp_aload_n (atd dX5_init 100 rfl) rfl rfl ?_
          refine wp_get fX5_24 (atd dX5_init 101 rfl) hO rfl ?_
          refine wp_bipush (v := nI 9) (atd dX5_init 102 rfl) (by decide) ?_
          refine wp_iconst (v := nI 1) (atd dX5_init 103 rfl) (by decide) ?_
          refine wp_iastA (atd dX5_init 104 rfl) hNc (by omega) (Nat.le_of_ble_eq_true rfl) (fun σ f_212 hNc => ?_)
          have hO := hO.fr f_212 (by first | decide | (simp only [List.mem_cons, List.not_mem_nil, or_false]; omega))
          have hSp := hSp.fr f_212 (by first | decide | (simp only [List.mem_cons, List.not_mem_nil, or_false]; omega))
          have hSd := hSd.fr f_212 (by first | decide | (simp only [List.mem_cons, List.not_mem_nil, or_false]; omega))
          have hNm := hNm.fr f_212 (by first | decide | (simp only [List.mem_cons, List.not_mem_nil, or_false]; omega))
          have hFo := hFo.fr f_212 (by first | decide | (simp only [List.mem_cons, List.not_mem_nil, or_false]; omega))
          have hSe := hSe.fr f_212 (by first | decide | (simp only [List.mem_cons, List.not_mem_nil, or_false]; omega))
          have hNs := hNs.fr f_212 (by first | decide | (simp only [List.mem_cons, List.not_mem_nil, or_false]; omega))
          have hF := hF.tr2 f_212.A
          refine wp_vretv (atd dX5_init 105 rfl) rfl ?_
          refine ⟨?_, ?_, ⟨hSp.cg (fun i hi => by unfold tSp; rw [if_pos (by omega)]), hSd.cg (fun i hi => by unfold tSd; rw [if_pos hi]), hNm.cg (fun i _ => tNm_219 i)⟩, ⟨_, _, hNs, hNc, LRN_0⟩, ⟨_, _, hO, hFo, hSe, fun i hi => absurd hi (Nat.not_lt_zero i), fun z => absurd z (Nat.lt_irrefl 0), fun x => Nat.le_refl _, List.nodup_nil⟩⟩
          · rw [f_212.1, f_204.1, hfz.1]; exact hs
          · exact hFz.trN hF (fun j hj => by simp only [List.mem_append, List.mem_cons, List.not_mem_nil, or_false] at hj ⊢; omega)
        · exfalso; omega
