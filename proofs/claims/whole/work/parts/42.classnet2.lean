theorem eX3_clear {G : Gx} {d : Nat} {σ : Hp} (hd : 1 ≤ d) {k n : Nat} {nb : Nat → Nat} (hO : OB σ k 3 [.int (nI n), .ref (k + 1)]) (hA : AI σ (k + 1) 9 nb) : Cl G mX3_clear d [.ref k] σ 0 0 (pV fun s => fr [k, k + 1] σ s ∧ OB s k 3 [.int (nI 0), .ref (k + 1)] ∧ AI s (k + 1) 9 (fun _ => 0)) := by
  obtain ⟨d0, hdd⟩ : ∃ e, d = e + 1 := ⟨d - 1, by omega⟩
  refine cl_of (by decide) (by simp [Value.category]) (Nat.le_of_ble_eq_true rfl) ?_
  show Wp G mX3_clear d 0 [.ref k] [] σ 0 0 _
  have hF : fr [k, k + 1] σ σ := fr.rf
  refine wp_aload_n (atd dX3_clear 0 rfl) rfl rfl ?_
  refine wp_iconst (v := nI 0) (atd dX3_clear 1 rfl) (by decide) ?_
  refine wp_putX fX3_15 (atd dX3_clear 2 rfl) hO rfl (Nat.le_of_ble_eq_true rfl) (fun σ f_2 hO => ?_)
  have hA := hA.fr f_2 (by first | decide | (simp only [List.mem_cons, List.not_mem_nil, or_false]; omega))
  have hF := hF.tr f_2 (by simp)
  refine wp_aload_n (atd dX3_clear 3 rfl) rfl rfl ?_
  refine wp_get fX3_9 (atd dX3_clear 4 rfl) hO rfl ?_
  refine wp_iconst (v := nI 0) (atd dX3_clear 5 rfl) (by decide) ?_
  refine wp_cSv hdd [_, _] (atd dX3_clear 6 rfl) iJ7_fill_53178 lX3_19 rfl rfl (Nat.le_of_ble_eq_true rfl) (eJ7_fill (by decide) hA.X) (fun s_10 h_10 => ?_)
  obtain ⟨f_10, hA⟩ := h_10
  have hO := hO.fr f_10 (by first | decide | (simp only [List.mem_cons, List.not_mem_nil, or_false]; omega))
  have hF := hF.tr f_10 (by simp)
  refine wp_vretv (atd dX3_clear 7 rfl) rfl ?_
  exact ⟨hF, hO, hA.I⟩
theorem lX3_copyFrom {G : Gx} {d : Nat} {σ0 : Hp} {k k2 n2 : Nat} {nb2 : Nat → Nat} (hap : k + 1 < k2 ∨ k2 + 1 < k) : ∀ (t : Nat) (i : Nat) (σ : Hp) (g : Nat → Nat), i + t = 9 → OB σ k 3 [.int (nI n2), .ref (k + 1)] → AI σ (k + 1) 9 g → OB σ k2 3 [.int (nI n2), .ref (k2 + 1)] → AI σ (k2 + 1) 9 nb2 → (∀ j, j < i → g j = nb2 j) → fr [k, k + 1] σ0 σ → Wp G mX3_copyFrom d 10 [.ref k, .ref k2, .int (nI i)] [] σ 0 0 (pV fun s => fr [k, k + 1] σ0 s ∧ OB s k 3 [.int (nI n2), .ref (k + 1)] ∧ AI s (k + 1) 9 nb2) := by
  intro t
  induction t with
  | zero =>
    intro i σ g h hO hA hO2 hA2 hg hF
    refine wp_iload_n (atd dX3_copyFrom 6 rfl) rfl ?_
    refine wp_bipush (v := nI 9) (atd dX3_copyFrom 7 rfl) (by decide) ?_
    refine wp_icmpN_ge (tgt := 34) (atd dX3_copyFrom 8 rfl) (by decide) (by omega) (by omega) (fun c_13 => ?_) (fun c_13 => ?_)
    ·
      refine wp_vretv (atd dX3_copyFrom 19 rfl) rfl ?_
      exact ⟨hF, hO, hA.cg (fun j hj => hg j (by omega))⟩
    · exfalso; omega
  | succ t ih =>
    intro i σ g h hO hA hO2 hA2 hg hF
    refine wp_iload_n (atd dX3_copyFrom 6 rfl) rfl ?_
    refine wp_bipush (v := nI 9) (atd dX3_copyFrom 7 rfl) (by decide) ?_
    refine wp_icmpN_ge (tgt := 34) (atd dX3_copyFrom 8 rfl) (by decide) (by omega) (by omega) (fun c_13 => ?_) (fun c_13 => ?_)
    · exfalso; omega
    ·
      refine wp_aload_n (atd dX3_copyFrom 9 rfl) rfl rfl ?_
      refine wp_get fX3_9 (atd dX3_copyFrom 10 rfl) hO rfl ?_
      refine wp_iload_n (atd dX3_copyFrom 11 rfl) rfl ?_
      refine wp_aload_n (atd dX3_copyFrom 12 rfl) rfl rfl ?_
      refine wp_get fX3_9 (atd dX3_copyFrom 13 rfl) hO2 rfl ?_
      refine wp_iload_n (atd dX3_copyFrom 14 rfl) rfl ?_
      refine wp_ialdA (atd dX3_copyFrom 15 rfl) hA2 (by omega) (Nat.le_of_ble_eq_true rfl) ?_
      refine wp_iastA (atd dX3_copyFrom 16 rfl) hA (by omega) (Nat.le_of_ble_eq_true rfl) (fun σ f_27 hA => ?_)
      have hO := hO.fr f_27 (by first | decide | (simp only [List.mem_cons, List.not_mem_nil, or_false]; omega))
      have hO2 := hO2.fr f_27 (by first | decide | (simp only [List.mem_cons, List.not_mem_nil, or_false]; omega))
      have hA2 := hA2.fr f_27 (by first | decide | (simp only [List.mem_cons, List.not_mem_nil, or_false]; omega))
      have hF := hF.tr f_27 (by simp)
      refine wp_iincN (c := 1) (atd dX3_copyFrom 17 rfl) rfl ?_
      refine wp_goto (tgt := 10) (atd dX3_copyFrom 18 rfl) (by decide) ?_
      exact ih (i + 1) σ _ (by omega) hO hA hO2 hA2 (fun j hj => by
        by_cases e : j = i
        · subst e; simp [va_up]
        · simp only [va_up, if_neg e]; exact hg j (by omega)) hF
theorem eX3_copyFrom {G : Gx} {d : Nat} {σ : Hp} (hd : 0 ≤ d) {k n k2 n2 : Nat} {nb nb2 : Nat → Nat} (hO : OB σ k 3 [.int (nI n), .ref (k + 1)]) (hA : AI σ (k + 1) 9 nb) (hO2 : OB σ k2 3 [.int (nI n2), .ref (k2 + 1)]) (hA2 : AI σ (k2 + 1) 9 nb2) (hap : k + 1 < k2 ∨ k2 + 1 < k) : Cl G mX3_copyFrom d [.ref k, .ref k2] σ 0 0 (pV fun s => fr [k, k + 1] σ s ∧ OB s k 3 [.int (nI n2), .ref (k + 1)] ∧ AI s (k + 1) 9 nb2) := by
  refine cl_of (by decide) (by simp [Value.category]) (Nat.le_of_ble_eq_true rfl) ?_
  show Wp G mX3_copyFrom d 0 [.ref k, .ref k2, .double 0] [] σ 0 0 _
  have hF : fr [k, k + 1] σ σ := fr.rf
  refine wp_aload_n (atd dX3_copyFrom 0 rfl) rfl rfl ?_
  refine wp_aload_n (atd dX3_copyFrom 1 rfl) rfl rfl ?_
  refine wp_get fX3_15 (atd dX3_copyFrom 2 rfl) hO2 rfl ?_
  refine wp_putX fX3_15 (atd dX3_copyFrom 3 rfl) hO rfl (Nat.le_of_ble_eq_true rfl) (fun σ f_5 hO => ?_)
  have hA := hA.fr f_5 (by first | decide | (simp only [List.mem_cons, List.not_mem_nil, or_false]; omega))
  have hO2 := hO2.fr f_5 (by first | decide | (simp only [List.mem_cons, List.not_mem_nil, or_false]; omega))
  have hA2 := hA2.fr f_5 (by first | decide | (simp only [List.mem_cons, List.not_mem_nil, or_false]; omega))
  have hF := hF.tr f_5 (by simp)
  refine wp_iconst (v := nI 0) (atd dX3_copyFrom 4 rfl) (by decide) ?_
  refine wp_istore_n (atd dX3_copyFrom 5 rfl) (Nat.le_of_ble_eq_true rfl) ?_
  exact lX3_copyFrom hap 9 0 σ nb (by omega) hO hA hO2 hA2 (fun j hj => absurd hj (Nat.not_lt_zero j)) hF
def eqN : Nat → (Nat → Nat) → (Nat → Nat) → Bool
  | 0, _, _ => true
  | m + 1, f, g => eqN m f g && decide (f m = g m)
theorem eqN_iff {f g : Nat → Nat} : ∀ {m : Nat}, eqN m f g = true ↔ ∀ j, j < m → f j = g j
  | 0 => ⟨fun _ j hj => absurd hj (Nat.not_lt_zero j), fun _ => rfl⟩
  | m + 1 => by
    rw [eqN, Bool.and_eq_true, eqN_iff, decide_eq_true_iff]
    constructor
    · intro h j hj
      by_cases e : j = m
      · subst e; exact h.2
      · exact h.1 j (by omega)
    · intro h
      exact ⟨fun j hj => h j (by omega), h m (by omega)⟩
theorem lX3_sameAs {G : Gx} {d : Nat} {σ : Hp} {k n k2 n2 : Nat} {nb nb2 : Nat → Nat} (hO : OB σ k 3 [.int (nI n), .ref (k + 1)]) (hA : AI σ (k + 1) 9 nb) (hO2 : OB σ k2 3 [.int (nI n2), .ref (k2 + 1)]) (hA2 : AI σ (k2 + 1) 9 nb2) (hw : ∀ p, nb p < 512) (hw2 : ∀ p, nb2 p < 512) : ∀ (z : Nat) (i : Nat) (t : Int32), i + z = 9 → t = bI (n = n2 ∧ eqN i nb nb2 = true) → Wp G mX3_sameAs d 19 [.ref k, .ref k2, .int t, .int (nI i)] [] σ 0 0 (pI fun r s => r = bI (n = n2 ∧ eqN 9 nb nb2 = true) ∧ s = σ) := by
  intro z
  induction z with
  | zero =>
    intro i t h ht
    subst ht
    refine wp_iload_n (atd dX3_sameAs 11 rfl) rfl ?_
    refine wp_bipush (v := nI 9) (atd dX3_sameAs 12 rfl) (by decide) ?_
    refine wp_icmpN_ge (tgt := 56) (atd dX3_sameAs 13 rfl) (by decide) (by omega) (by omega) (fun c_22 => ?_) (fun c_22 => ?_)
    ·
      refine wp_iload_n (atd dX3_sameAs 31 rfl) rfl ?_
      refine wp_iretz (atd dX3_sameAs 32 rfl) rfl bI_and ?_
      obtain rfl : i = 9 := by omega
      exact ⟨rfl, rfl⟩
    · exfalso; omega
  | succ z ih =>
    intro i t h ht
    subst ht
    refine wp_iload_n (atd dX3_sameAs 11 rfl) rfl ?_
    refine wp_bipush (v := nI 9) (atd dX3_sameAs 12 rfl) (by decide) ?_
    refine wp_icmpN_ge (tgt := 56) (atd dX3_sameAs 13 rfl) (by decide) (by omega) (by omega) (fun c_22 => ?_) (fun c_22 => ?_)
    · exfalso; omega
    ·
      refine wp_iload_n (atd dX3_sameAs 14 rfl) rfl ?_
      refine wp_ifB_eq (tgt := 48) (atd dX3_sameAs 15 rfl) (by decide) (fun c_26 => ?_) (fun c_26 => ?_)
      ·
        refine wp_iconst (v := nI 0) (atd dX3_sameAs 27 rfl) (by decide) ?_
        refine wp_istore_n (atd dX3_sameAs 28 rfl) (Nat.le_of_ble_eq_true rfl) ?_
        refine wp_iincN (c := 1) (atd dX3_sameAs 29 rfl) rfl ?_
        refine wp_goto (tgt := 19) (atd dX3_sameAs 30 rfl) (by decide) ?_
        exact ih (i + 1) _ (by omega) (bI_f (fun h => c_26 ⟨h.1, eqN_iff.mpr (fun j hj => eqN_iff.mp h.2 j (by omega))⟩)).symm
      ·
        refine wp_aload_n (atd dX3_sameAs 16 rfl) rfl rfl ?_
        refine wp_get fX3_9 (atd dX3_sameAs 17 rfl) hO rfl ?_
        refine wp_iload_n (atd dX3_sameAs 18 rfl) rfl ?_
        refine wp_ialdA (atd dX3_sameAs 19 rfl) hA (by omega) (Nat.le_of_ble_eq_true rfl) ?_
        refine wp_aload_n (atd dX3_sameAs 20 rfl) rfl rfl ?_
        refine wp_get fX3_9 (atd dX3_sameAs 21 rfl) hO2 rfl ?_
        refine wp_iload_n (atd dX3_sameAs 22 rfl) rfl ?_
        refine wp_ialdA (atd dX3_sameAs 23 rfl) hA2 (by omega) (Nat.le_of_ble_eq_true rfl) ?_
        refine wp_icmpN_ne (tgt := 48) (atd dX3_sameAs 24 rfl) (by decide) (by have := hw i; omega) (by have := hw2 i; omega) (fun c_41 => ?_) (fun c_41 => ?_)
        ·
          refine wp_iconst (v := nI 0) (atd dX3_sameAs 27 rfl) (by decide) ?_
          refine wp_istore_n (atd dX3_sameAs 28 rfl) (Nat.le_of_ble_eq_true rfl) ?_
          refine wp_iincN (c := 1) (atd dX3_sameAs 29 rfl) rfl ?_
          refine wp_goto (tgt := 19) (atd dX3_sameAs 30 rfl) (by decide) ?_
          exact ih (i + 1) _ (by omega) (bI_f (fun h => c_41 (eqN_iff.mp h.2 i (by omega)))).symm
        ·
          refine wp_iconst (v := nI 1) (atd dX3_sameAs 25 rfl) (by decide) ?_
          refine wp_goto (tgt := 49) (atd dX3_sameAs 26 rfl) (by decide) ?_
          refine wp_istore_n (atd dX3_sameAs 28 rfl) (Nat.le_of_ble_eq_true rfl) ?_
          refine wp_iincN (c := 1) (atd dX3_sameAs 29 rfl) rfl ?_
          refine wp_goto (tgt := 19) (atd dX3_sameAs 30 rfl) (by decide) ?_
          exact ih (i + 1) _ (by omega) (bI_t ⟨c_26.1, by rw [eqN, c_26.2, Bool.true_and]; exact decide_eq_true c_41⟩).symm
theorem eX3_sameAs {G : Gx} {d : Nat} {σ : Hp} (hd : 0 ≤ d) {k n k2 n2 : Nat} {nb nb2 : Nat → Nat} (hO : OB σ k 3 [.int (nI n), .ref (k + 1)]) (hA : AI σ (k + 1) 9 nb) (hO2 : OB σ k2 3 [.int (nI n2), .ref (k2 + 1)]) (hA2 : AI σ (k2 + 1) 9 nb2) (hn : n ≤ 9) (hn2 : n2 ≤ 9) (hw : ∀ p, nb p < 512) (hw2 : ∀ p, nb2 p < 512) : Cl G mX3_sameAs d [.ref k, .ref k2] σ 0 0 (pI fun r s => r = bI (n = n2 ∧ eqN 9 nb nb2 = true) ∧ s = σ) := by
  refine cl_of (by decide) (by simp [Value.category]) (Nat.le_of_ble_eq_true rfl) ?_
  show Wp G mX3_sameAs d 0 [.ref k, .ref k2, .double 0, .double 0] [] σ 0 0 _
  refine wp_aload_n (atd dX3_sameAs 0 rfl) rfl rfl ?_
  refine wp_get fX3_15 (atd dX3_sameAs 1 rfl) hO rfl ?_
  refine wp_aload_n (atd dX3_sameAs 2 rfl) rfl rfl ?_
  refine wp_get fX3_15 (atd dX3_sameAs 3 rfl) hO2 rfl ?_
  refine wp_icmpN_ne (tgt := 15) (atd dX3_sameAs 4 rfl) (by decide) (by omega) (by omega) (fun c_8 => ?_) (fun c_8 => ?_)
  ·
    refine wp_iconst (v := nI 0) (atd dX3_sameAs 7 rfl) (by decide) ?_
    refine wp_istore_n (atd dX3_sameAs 8 rfl) (Nat.le_of_ble_eq_true rfl) ?_
    refine wp_iconst (v := nI 0) (atd dX3_sameAs 9 rfl) (by decide) ?_
    refine wp_istore_n (atd dX3_sameAs 10 rfl) (Nat.le_of_ble_eq_true rfl) ?_
    exact lX3_sameAs hO hA hO2 hA2 hw hw2 9 0 _ (by omega) (bI_f (fun h => c_8 h.1)).symm
  ·
    refine wp_iconst (v := nI 1) (atd dX3_sameAs 5 rfl) (by decide) ?_
    refine wp_goto (tgt := 16) (atd dX3_sameAs 6 rfl) (by decide) ?_
    refine wp_istore_n (atd dX3_sameAs 8 rfl) (Nat.le_of_ble_eq_true rfl) ?_
    refine wp_iconst (v := nI 0) (atd dX3_sameAs 9 rfl) (by decide) ?_
    refine wp_istore_n (atd dX3_sameAs 10 rfl) (Nat.le_of_ble_eq_true rfl) ?_
    exact lX3_sameAs hO hA hO2 hA2 hw hw2 9 0 _ (by omega) (bI_t ⟨c_8, rfl⟩).symm
theorem eX3_addPlace {G : Gx} {d : Nat} {σ : Hp} (hd : 0 ≤ d) {k n : Nat} {nb : Nat → Nat} (hO : OB σ k 3 [.int (nI n), .ref (k + 1)]) (hA : AI σ (k + 1) 9 nb) (hn : n < 9) : Cl G mX3_addPlace d [.ref k] σ 0 0 (pV fun s => fr [k, k + 1] σ s ∧ OB s k 3 [.int (nI (n + 1)), .ref (k + 1)] ∧ AI s (k + 1) 9 (va_up nb n (2 ^ n))) := by
  refine cl_of (by decide) (by simp [Value.category]) (Nat.le_of_ble_eq_true rfl) ?_
  show Wp G mX3_addPlace d 0 [.ref k] [] σ 0 0 _
  have hF : fr [k, k + 1] σ σ := fr.rf
  refine wp_aload_n (atd dX3_addPlace 0 rfl) rfl rfl ?_
  refine wp_get fX3_15 (atd dX3_addPlace 1 rfl) hO rfl ?_
  refine wp_bipush (v := nI 9) (atd dX3_addPlace 2 rfl) (by decide) ?_
  refine wp_icmpN_ge (tgt := 34) (atd dX3_addPlace 3 rfl) (by decide) (by omega) (by omega) (fun c_6 => ?_) (fun c_6 => ?_)
  · exfalso; omega
  ·
    refine wp_aload_n (atd dX3_addPlace 4 rfl) rfl rfl ?_
    refine wp_get fX3_9 (atd dX3_addPlace 5 rfl) hO rfl ?_
    refine wp_aload_n (atd dX3_addPlace 6 rfl) rfl rfl ?_
    refine wp_get fX3_15 (atd dX3_addPlace 7 rfl) hO rfl ?_
    refine wp_iconst (v := nI 1) (atd dX3_addPlace 8 rfl) (by decide) ?_
    refine wp_aload_n (atd dX3_addPlace 9 rfl) rfl rfl ?_
    refine wp_get fX3_15 (atd dX3_addPlace 10 rfl) hO rfl ?_
    refine wp_ishl1 (atd dX3_addPlace 11 rfl) (by omega) ?_
    refine wp_iastA (atd dX3_addPlace 12 rfl) hA (by omega) (Nat.le_of_ble_eq_true rfl) (fun σ f_23 hA => ?_)
    have hO := hO.fr f_23 (by first | decide | (simp only [List.mem_cons, List.not_mem_nil, or_false]; omega))
    have hF := hF.tr f_23 (by simp)
    refine wp_aload_n (atd dX3_addPlace 13 rfl) rfl rfl ?_
    refine wp_dup (atd dX3_addPlace 14 rfl) rfl ?_
    refine wp_get fX3_15 (atd dX3_addPlace 15 rfl) hO rfl ?_
    refine wp_iconst (v := nI 1) (atd dX3_addPlace 16 rfl) (by decide) ?_
    refine wp_iaddN (atd dX3_addPlace 17 rfl) ?_
    refine wp_putX fX3_15 (atd dX3_addPlace 18 rfl) hO rfl (Nat.le_of_ble_eq_true rfl) (fun σ f_31 hO => ?_)
    have hA := hA.fr f_31 (by first | decide | (simp only [List.mem_cons, List.not_mem_nil, or_false]; omega))
    have hF := hF.tr f_31 (by simp)
    refine wp_vretv (atd dX3_addPlace 19 rfl) rfl ?_
    exact ⟨hF, hO, hA⟩
def gcG (nb : Nat → Nat) (n p q : Nat) (b : Option Nat) : Option Nat := if (nb p).testBit q = true then (match stpC (nbt nb p q) q n 0 (2 ^ p) with
  | none => b
  | some t => (match b with
    | none => some (t + 1)
    | some x => if t + 1 < x then some (t + 1) else some x)) else b
def gcF (nb : Nat → Nat) (n : Nat) : Option Nat := fl (fun p b => fl (gcG nb n p) (n - (p + 1)) (p + 1) b) n 0 none
theorem stpC_lt {nb : Nat → Nat} {to : Nat} : ∀ {k i s t : Nat}, stpC nb to k i s = some t → t < i + k
  | 0, _, _, _, h => by cases h
  | k + 1, i, s, t, h => by
    unfold stpC at h
    split at h
    · cases h; omega
    · have := stpC_lt h; omega
theorem gcG_lt {nb : Nat → Nat} {n p q : Nat} {b : Option Nat} (h : ∀ x, b = some x → x ≤ n) : ∀ x, gcG nb n p q b = some x → x ≤ n := by
  intro x hx
  unfold gcG at hx
  split at hx
  · split at hx
    · exact h x hx
    · rename_i t ht
      have := stpC_lt ht
      split at hx
      · cases hx; omega
      · split at hx
        · cases hx; omega
        · cases hx; exact h _ rfl
  · exact h x hx
theorem lX3_girth1 {G : Gx} {d : Nat} {Q : Option Value → Hp → Prop} (hd : 2 ≤ d) {σ0 : Hp} {k n : Nat} {nb : Nat → Nat} (hn : n ≤ 9) (hw : ∀ p, nb p < 512) {p : Nat} {v : Option Nat} (hp : p < n) (hk : ∀ (b : Option Nat) (σ : Hp) (y : Value), OB σ k 3 [.int (nI n), .ref (k + 1)] → AI σ (k + 1) 9 nb → fr [k + 1] σ0 σ → b = v → (∀ x, b = some x → x ≤ n) → Wp G mX3_girth d 83 [.ref k, .int (oI b), .int (nI p), .int (nI n), y] [] σ 0 0 Q) : ∀ (t : Nat) (q : Nat) (b : Option Nat) (σ : Hp) (y : Value), q + t = n → p < q → OB σ k 3 [.int (nI n), .ref (k + 1)] → AI σ (k + 1) 9 nb → fr [k + 1] σ0 σ → fl (gcG nb n p) t q b = v → (∀ x, b = some x → x ≤ n) → Wp G mX3_girth d 16 [.ref k, .int (oI b), .int (nI p), .int (nI q), y] [] σ 0 0 Q := by
  obtain ⟨d0, hdd⟩ : ∃ e, d = e + 1 := ⟨d - 1, by omega⟩
  intro t
  induction t with
  | zero =>
    intro q b σ y h hpq hO hA hF hv hb
    obtain rfl : q = n := by omega
    refine wp_iload_n (atd dX3_girth 12 rfl) rfl ?_
    refine wp_aload_n (atd dX3_girth 13 rfl) rfl rfl ?_
    refine wp_get fX3_15 (atd dX3_girth 14 rfl) hO rfl ?_
    refine wp_icmpN_ge (tgt := 83) (atd dX3_girth 15 rfl) (by decide) (by omega) (by omega) (fun c_21 => ?_) (fun c_21 => ?_)
    ·
      exact hk b σ y hO hA hF hv hb
    · exfalso; omega
  | succ t ih =>
    intro q b σ y h hpq hO hA hF hv hb
    refine wp_iload_n (atd dX3_girth 12 rfl) rfl ?_
    refine wp_aload_n (atd dX3_girth 13 rfl) rfl rfl ?_
    refine wp_get fX3_15 (atd dX3_girth 14 rfl) hO rfl ?_
    refine wp_icmpN_ge (tgt := 83) (atd dX3_girth 15 rfl) (by decide) (by omega) (by omega) (fun c_21 => ?_) (fun c_21 => ?_)
    · exfalso; omega
    ·
      refine wp_aload_n (atd dX3_girth 16 rfl) rfl rfl ?_
      refine wp_iload_n (atd dX3_girth 17 rfl) rfl ?_
      refine wp_iload_n (atd dX3_girth 18 rfl) rfl ?_
      refine wp_cVi hdd [_, _] (atd dX3_girth 19 rfl) iX3_joined lX3_56 rfl rfl (Nat.le_of_ble_eq_true rfl) hO rfl (eX3_joined (by omega) hO hA hn hw (by omega) (by omega)) (fun r_27 s_27 h_27 => ?_)
      obtain ⟨rfl, e_27⟩ := h_27
      obtain rfl := e_27.symm
      refine wp_ifB_eq (tgt := 77) (atd dX3_girth 20 rfl) (by decide) (fun c_30 => ?_) (fun c_30 => ?_)
      ·
        refine wp_iincN (c := 1) (atd dX3_girth 49 rfl) rfl ?_
        refine wp_goto (tgt := 16) (atd dX3_girth 50 rfl) (by decide) ?_
        exact ih (q + 1) b _ y (by omega) (by omega) hO hA hF (by rw [← hv]; show _ = fl _ _ _ (gcG nb n p q b); rw [gcG, if_neg (fun h => c_30 ⟨by omega, by omega, h⟩)]) hb
      ·
        refine wp_aload_n (atd dX3_girth 21 rfl) rfl rfl ?_
        refine wp_iload_n (atd dX3_girth 22 rfl) rfl ?_
        refine wp_iload_n (atd dX3_girth 23 rfl) rfl ?_
        refine wp_cVv hdd [_, _] (atd dX3_girth 24 rfl) iX3_flip lX3_60 rfl rfl (Nat.le_of_ble_eq_true rfl) hO rfl (eX3_flip (by omega) hO hA hn hw (by omega) (by omega)) (fun s_36 h_36 => ?_)
        obtain ⟨f_36, hA⟩ := h_36
        rw [flp_t (by omega) (by omega) (by omega)] at hA
        have hO := hO.fr f_36 (by first | decide | (simp only [List.mem_cons, List.not_mem_nil, or_false]; omega))
        have hF := hF.tr f_36 (by simp)
        refine wp_aload_n (atd dX3_girth 25 rfl) rfl rfl ?_
        refine wp_iload_n (atd dX3_girth 26 rfl) rfl ?_
        refine wp_iload_n (atd dX3_girth 27 rfl) rfl ?_
        refine wp_cVi hdd [_, _] (atd dX3_girth 28 rfl) iX3_steps lX3_64 rfl rfl (Nat.le_of_ble_eq_true rfl) hO rfl (eX3_steps (by omega) hO hA hn (nbt_lt hw (by omega) (by omega)) (by omega) (by omega)) (fun r_42 s_42 h_42 => ?_)
        obtain ⟨rfl, e_42⟩ := h_42
        obtain rfl := e_42.symm
        refine wp_istore (atd dX3_girth 29 rfl) (Nat.le_of_ble_eq_true rfl) ?_
        refine wp_aload_n (atd dX3_girth 30 rfl) rfl rfl ?_
        refine wp_iload_n (atd dX3_girth 31 rfl) rfl ?_
        refine wp_iload_n (atd dX3_girth 32 rfl) rfl ?_
        refine wp_cVv hdd [_, _] (atd dX3_girth 33 rfl) iX3_flip lX3_60 rfl rfl (Nat.le_of_ble_eq_true rfl) hO rfl (eX3_flip (by omega) hO hA hn (nbt_lt hw (by omega) (by omega)) (by omega) (by omega)) (fun s_50 h_50 => ?_)
        obtain ⟨f_50, hA⟩ := h_50
        rw [flp_t (by omega) (by omega) (by omega), nbt_nbt (by omega)] at hA
        have hO := hO.fr f_50 (by first | decide | (simp only [List.mem_cons, List.not_mem_nil, or_false]; omega))
        have hF := hF.tr f_50 (by simp)
        rcases hst : stpC (nbt nb p q) q n 0 (2 ^ p) with _ | t
        ·
          rw [show oI none = -1 from rfl]
          refine wp_iload (atd dX3_girth 34 rfl) rfl ?_
          refine wp_iconst (v := -1) (atd dX3_girth 35 rfl) (by decide) ?_
          refine wp_icmp_eq (tgt := 77) (atd dX3_girth 36 rfl) (by decide) (fun c_56 => ?_) (fun c_56 => ?_)
          ·
            refine wp_iincN (c := 1) (atd dX3_girth 49 rfl) rfl ?_
            refine wp_goto (tgt := 16) (atd dX3_girth 50 rfl) (by decide) ?_
            exact ih (q + 1) b _ _ (by omega) (by omega) hO hA hF (by rw [← hv]; show _ = fl _ _ _ (gcG nb n p q b); rw [gcG, if_pos c_30.2.2, hst]) hb
          · exact absurd rfl c_56
        ·
          rw [show oI (some t) = nI t from rfl]
          have htn := stpC_lt hst
          refine wp_iload (atd dX3_girth 34 rfl) rfl ?_
          refine wp_iconst (v := -1) (atd dX3_girth 35 rfl) (by decide) ?_
          refine wp_icmp_eq (tgt := 77) (atd dX3_girth 36 rfl) (by decide) (fun c_56 => ?_) (fun c_56 => ?_)
          · exact absurd c_56 (nI_m1 (by omega))
          ·
            rcases b with _ | x
            ·
              rw [show oI none = -1 from rfl]
              refine wp_iload_n (atd dX3_girth 37 rfl) rfl ?_
              refine wp_iconst (v := -1) (atd dX3_girth 38 rfl) (by decide) ?_
              refine wp_icmp_eq (tgt := 72) (atd dX3_girth 39 rfl) (by decide) (fun c_61 => ?_) (fun c_61 => ?_)
              ·
                refine wp_iload (atd dX3_girth 45 rfl) rfl ?_
                refine wp_iconst (v := nI 1) (atd dX3_girth 46 rfl) (by decide) ?_
                refine wp_iaddN (atd dX3_girth 47 rfl) ?_
                refine wp_istore_n (atd dX3_girth 48 rfl) (Nat.le_of_ble_eq_true rfl) ?_
                refine wp_iincN (c := 1) (atd dX3_girth 49 rfl) rfl ?_
                refine wp_goto (tgt := 16) (atd dX3_girth 50 rfl) (by decide) ?_
                exact ih (q + 1) (some (t + 1)) _ _ (by omega) (by omega) hO hA hF (by rw [← hv]; show _ = fl _ _ _ (gcG nb n p q none); rw [gcG, if_pos c_30.2.2, hst]) (fun x hx => by cases hx; omega)
              · exact absurd rfl c_61
            ·
              rw [show oI (some x) = nI x from rfl]
              have hxn := hb x rfl
              refine wp_iload_n (atd dX3_girth 37 rfl) rfl ?_
              refine wp_iconst (v := -1) (atd dX3_girth 38 rfl) (by decide) ?_
              refine wp_icmp_eq (tgt := 72) (atd dX3_girth 39 rfl) (by decide) (fun c_61 => ?_) (fun c_61 => ?_)
              · exact absurd c_61 (nI_m1 (by omega))
              ·
                refine wp_iload (atd dX3_girth 40 rfl) rfl ?_
                refine wp_iconst (v := nI 1) (atd dX3_girth 41 rfl) (by decide) ?_
                refine wp_iaddN (atd dX3_girth 42 rfl) ?_
                refine wp_iload_n (atd dX3_girth 43 rfl) rfl ?_
                refine wp_icmpN_ge (tgt := 77) (atd dX3_girth 44 rfl) (by decide) (by omega) (by omega) (fun c_69 => ?_) (fun c_69 => ?_)
                ·
                  refine wp_iincN (c := 1) (atd dX3_girth 49 rfl) rfl ?_
                  refine wp_goto (tgt := 16) (atd dX3_girth 50 rfl) (by decide) ?_
                  exact ih (q + 1) (some x) _ _ (by omega) (by omega) hO hA hF (by rw [← hv]; show _ = fl _ _ _ (gcG nb n p q (some x)); rw [gcG, if_pos c_30.2.2, hst]; show _ = fl _ _ _ (if t + 1 < x then some (t + 1) else some x); rw [if_neg (by omega)]) hb
                ·
                  refine wp_iload (atd dX3_girth 45 rfl) rfl ?_
                  refine wp_iconst (v := nI 1) (atd dX3_girth 46 rfl) (by decide) ?_
                  refine wp_iaddN (atd dX3_girth 47 rfl) ?_
                  refine wp_istore_n (atd dX3_girth 48 rfl) (Nat.le_of_ble_eq_true rfl) ?_
                  refine wp_iincN (c := 1) (atd dX3_girth 49 rfl) rfl ?_
                  refine wp_goto (tgt := 16) (atd dX3_girth 50 rfl) (by decide) ?_
                  exact ih (q + 1) (some (t + 1)) _ _ (by omega) (by omega) hO hA hF (by rw [← hv]; show _ = fl _ _ _ (gcG nb n p q (some x)); rw [gcG, if_pos c_30.2.2, hst]; show _ = fl _ _ _ (if t + 1 < x then some (t + 1) else some x); rw [if_pos (by omega)]) (fun x hx => by cases hx; omega)
theorem lX3_girth {G : Gx} {d : Nat} (hd : 2 ≤ d) {σ0 : Hp} {k n : Nat} {nb : Nat → Nat} (hn : n ≤ 9) (hw : ∀ p, nb p < 512) {v : Option Nat} : ∀ (t : Nat) (p : Nat) (b : Option Nat) (σ : Hp) (y z : Value), p + t = n → OB σ k 3 [.int (nI n), .ref (k + 1)] → AI σ (k + 1) 9 nb → fr [k + 1] σ0 σ → fl (fun p b => fl (gcG nb n p) (n - (p + 1)) (p + 1) b) t p b = v → (∀ x, b = some x → x ≤ n) → Wp G mX3_girth d 4 [.ref k, .int (oI b), .int (nI p), z, y] [] σ 0 0 (pI fun r s => r = oI v ∧ fr [k + 1] σ0 s ∧ AI s (k + 1) 9 nb) := by
  obtain ⟨d0, hdd⟩ : ∃ e, d = e + 1 := ⟨d - 1, by omega⟩
  intro t
  induction t with
  | zero =>
    intro p b σ y z h hO hA hF hv hb
    refine wp_iload_n (atd dX3_girth 4 rfl) rfl ?_
    refine wp_aload_n (atd dX3_girth 5 rfl) rfl rfl ?_
    refine wp_get fX3_15 (atd dX3_girth 6 rfl) hO rfl ?_
    refine wp_icmpN_ge (tgt := 89) (atd dX3_girth 7 rfl) (by decide) (by omega) (by omega) (fun c_9 => ?_) (fun c_9 => ?_)
    ·
      refine wp_iload_n (atd dX3_girth 53 rfl) rfl ?_
      refine wp_ireti (atd dX3_girth 54 rfl) rfl ?_
      exact ⟨by rw [← hv]; rfl, hF, hA⟩
    · exfalso; omega
  | succ t ih =>
    intro p b σ y z h hO hA hF hv hb
    refine wp_iload_n (atd dX3_girth 4 rfl) rfl ?_
    refine wp_aload_n (atd dX3_girth 5 rfl) rfl rfl ?_
    refine wp_get fX3_15 (atd dX3_girth 6 rfl) hO rfl ?_
    refine wp_icmpN_ge (tgt := 89) (atd dX3_girth 7 rfl) (by decide) (by omega) (by omega) (fun c_9 => ?_) (fun c_9 => ?_)
    · exfalso; omega
    ·
      refine wp_iload_n (atd dX3_girth 8 rfl) rfl ?_
      refine wp_iconst (v := nI 1) (atd dX3_girth 9 rfl) (by decide) ?_
      refine wp_iaddN (atd dX3_girth 10 rfl) ?_
      refine wp_istore_n (atd dX3_girth 11 rfl) (Nat.le_of_ble_eq_true rfl) ?_
      refine lX3_girth1 (σ0 := σ0) (v := fl (gcG nb n p) (n - (p + 1)) (p + 1) b) (by omega) hn hw (by omega) (fun b2 σ y2 hO hA hF he hb2 => ?_) (n - (p + 1)) (p + 1) b σ y (by omega) (by omega) hO hA hF rfl hb
      subst he
      refine wp_iincN (c := 1) (atd dX3_girth 51 rfl) rfl ?_
      refine wp_goto (tgt := 4) (atd dX3_girth 52 rfl) (by decide) ?_
      exact ih (p + 1) _ σ _ _ (by omega) hO hA hF (by rw [← hv]; rfl) hb2
theorem eX3_girth {G : Gx} {d : Nat} {σ : Hp} (hd : 2 ≤ d) {k n : Nat} {nb : Nat → Nat} (hO : OB σ k 3 [.int (nI n), .ref (k + 1)]) (hA : AI σ (k + 1) 9 nb) (hn : n ≤ 9) (hw : ∀ p, nb p < 512) : Cl G mX3_girth d [.ref k] σ 0 0 (pI fun r s => r = oI (gcF nb n) ∧ fr [k + 1] σ s ∧ AI s (k + 1) 9 nb) := by
  obtain ⟨d0, hdd⟩ : ∃ e, d = e + 1 := ⟨d - 1, by omega⟩
  refine cl_of (by decide) (by simp [Value.category]) (Nat.le_of_ble_eq_true rfl) ?_
  show Wp G mX3_girth d 0 [.ref k, .double 0, .double 0, .double 0, .double 0] [] σ 0 0 _
  refine wp_iconst (v := -1) (atd dX3_girth 0 rfl) (by decide) ?_
  refine wp_istore_n (atd dX3_girth 1 rfl) (Nat.le_of_ble_eq_true rfl) ?_
  refine wp_iconst (v := nI 0) (atd dX3_girth 2 rfl) (by decide) ?_
  refine wp_istore_n (atd dX3_girth 3 rfl) (Nat.le_of_ble_eq_true rfl) ?_
  exact lX3_girth (σ0 := σ) (by omega) hn hw n 0 none σ _ _ (by omega) hO hA fr.rf rfl (fun x hx => by cases hx)
def ttG (n p q : Nat) (nb : Nat → Nat) : Nat → Nat := flp nb n p q
def ttF (n : Nat) (nb : Nat → Nat) : Nat → Nat := fl (fun p g => fl (ttG n p) (n - (p + 1)) (p + 1) g) n 0 nb
theorem lX3_takeTurned1 {G : Gx} {d : Nat} {Q : Option Value → Hp → Prop} (hd : 2 ≤ d) {σ0 : Hp} {k n : Nat} (hn : n ≤ 9) {p : Nat} {k2 : Value} {v : Nat → Nat} (hp : p < n) (hk : ∀ (g : Nat → Nat) (σ : Hp), OB σ k 3 [.int (nI n), .ref (k + 1)] → AI σ (k + 1) 9 g → fr [k, k + 1] σ0 σ → (∀ p, g p < 512) → g = v → Wp G mX3_takeTurned d 39 [.ref k, k2, .int (nI p), .int (nI n)] [] σ 0 0 Q) : ∀ (t : Nat) (q : Nat) (g : Nat → Nat) (σ : Hp), q + t = n → OB σ k 3 [.int (nI n), .ref (k + 1)] → AI σ (k + 1) 9 g → fr [k, k + 1] σ0 σ → (∀ p, g p < 512) → fl (ttG n p) t q g = v → Wp G mX3_takeTurned d 19 [.ref k, k2, .int (nI p), .int (nI q)] [] σ 0 0 Q := by
  obtain ⟨d0, hdd⟩ : ∃ e, d = e + 1 := ⟨d - 1, by omega⟩
  intro t
  induction t with
  | zero =>
    intro q g σ h hO hA hF hw hv
    obtain rfl : q = n := by omega
    refine wp_iload_n (atd dX3_takeTurned 13 rfl) rfl ?_
    refine wp_aload_n (atd dX3_takeTurned 14 rfl) rfl rfl ?_
    refine wp_get fX3_15 (atd dX3_takeTurned 15 rfl) hO rfl ?_
    refine wp_icmpN_ge (tgt := 39) (atd dX3_takeTurned 16 rfl) (by decide) (by omega) (by omega) (fun c_24 => ?_) (fun c_24 => ?_)
    ·
      exact hk g σ hO hA hF hw hv
    · exfalso; omega
  | succ t ih =>
    intro q g σ h hO hA hF hw hv
    refine wp_iload_n (atd dX3_takeTurned 13 rfl) rfl ?_
    refine wp_aload_n (atd dX3_takeTurned 14 rfl) rfl rfl ?_
    refine wp_get fX3_15 (atd dX3_takeTurned 15 rfl) hO rfl ?_
    refine wp_icmpN_ge (tgt := 39) (atd dX3_takeTurned 16 rfl) (by decide) (by omega) (by omega) (fun c_24 => ?_) (fun c_24 => ?_)
    · exfalso; omega
    ·
      refine wp_aload_n (atd dX3_takeTurned 17 rfl) rfl rfl ?_
      refine wp_iload_n (atd dX3_takeTurned 18 rfl) rfl ?_
      refine wp_iload_n (atd dX3_takeTurned 19 rfl) rfl ?_
      refine wp_cVv hdd [_, _] (atd dX3_takeTurned 20 rfl) iX3_flip lX3_60 rfl rfl (Nat.le_of_ble_eq_true rfl) hO rfl (eX3_flip (by omega) hO hA hn hw (by omega) (by omega)) (fun s_30 h_30 => ?_)
      obtain ⟨f_30, hA⟩ := h_30
      have hO := hO.fr f_30 (by first | decide | (simp only [List.mem_cons, List.not_mem_nil, or_false]; omega))
      have hF := hF.tr f_30 (by simp)
      refine wp_iincN (c := 1) (atd dX3_takeTurned 21 rfl) rfl ?_
      refine wp_goto (tgt := 19) (atd dX3_takeTurned 22 rfl) (by decide) ?_
      exact ih (q + 1) _ _ (by omega) hO hA hF (flp_lt hw (by omega) (by omega)) (by rw [← hv]; rfl)
theorem lX3_takeTurned {G : Gx} {d : Nat} (hd : 2 ≤ d) {σ0 : Hp} {k n : Nat} (hn : n ≤ 9) {k2 : Value} {v : Nat → Nat} : ∀ (t : Nat) (p : Nat) (g : Nat → Nat) (σ : Hp) (y : Value), p + t = n → OB σ k 3 [.int (nI n), .ref (k + 1)] → AI σ (k + 1) 9 g → fr [k, k + 1] σ0 σ → (∀ p, g p < 512) → fl (fun p g => fl (ttG n p) (n - (p + 1)) (p + 1) g) t p g = v → Wp G mX3_takeTurned d 7 [.ref k, k2, .int (nI p), y] [] σ 0 0 (pV fun s => fr [k, k + 1] σ0 s ∧ OB s k 3 [.int (nI n), .ref (k + 1)] ∧ AI s (k + 1) 9 v) := by
  obtain ⟨d0, hdd⟩ : ∃ e, d = e + 1 := ⟨d - 1, by omega⟩
  intro t
  induction t with
  | zero =>
    intro p g σ y h hO hA hF hw hv
    refine wp_iload_n (atd dX3_takeTurned 5 rfl) rfl ?_
    refine wp_aload_n (atd dX3_takeTurned 6 rfl) rfl rfl ?_
    refine wp_get fX3_15 (atd dX3_takeTurned 7 rfl) hO rfl ?_
    refine wp_icmpN_ge (tgt := 45) (atd dX3_takeTurned 8 rfl) (by decide) (by omega) (by omega) (fun c_12 => ?_) (fun c_12 => ?_)
    ·
      refine wp_vretv (atd dX3_takeTurned 25 rfl) rfl ?_
      exact ⟨hF, hO, by rw [← hv]; exact hA⟩
    · exfalso; omega
  | succ t ih =>
    intro p g σ y h hO hA hF hw hv
    refine wp_iload_n (atd dX3_takeTurned 5 rfl) rfl ?_
    refine wp_aload_n (atd dX3_takeTurned 6 rfl) rfl rfl ?_
    refine wp_get fX3_15 (atd dX3_takeTurned 7 rfl) hO rfl ?_
    refine wp_icmpN_ge (tgt := 45) (atd dX3_takeTurned 8 rfl) (by decide) (by omega) (by omega) (fun c_12 => ?_) (fun c_12 => ?_)
    · exfalso; omega
    ·
      refine wp_iload_n (atd dX3_takeTurned 9 rfl) rfl ?_
      refine wp_iconst (v := nI 1) (atd dX3_takeTurned 10 rfl) (by decide) ?_
      refine wp_iaddN (atd dX3_takeTurned 11 rfl) ?_
      refine wp_istore_n (atd dX3_takeTurned 12 rfl) (Nat.le_of_ble_eq_true rfl) ?_
      refine lX3_takeTurned1 (σ0 := σ0) (v := fl (ttG n p) (n - (p + 1)) (p + 1) g) (by omega) hn (by omega) (fun g2 σ hO hA hF hw he => ?_) (n - (p + 1)) (p + 1) g σ (by omega) hO hA hF hw rfl
      subst he
      refine wp_iincN (c := 1) (atd dX3_takeTurned 23 rfl) rfl ?_
      refine wp_goto (tgt := 7) (atd dX3_takeTurned 24 rfl) (by decide) ?_
      exact ih (p + 1) _ σ _ (by omega) hO hA hF hw (by rw [← hv]; rfl)
theorem eX3_takeTurned {G : Gx} {d : Nat} {σ : Hp} (hd : 2 ≤ d) {k n k2 n2 : Nat} {nb nb2 : Nat → Nat} (hO : OB σ k 3 [.int (nI n), .ref (k + 1)]) (hA : AI σ (k + 1) 9 nb) (hO2 : OB σ k2 3 [.int (nI n2), .ref (k2 + 1)]) (hA2 : AI σ (k2 + 1) 9 nb2) (hap : k + 1 < k2 ∨ k2 + 1 < k) (hn2 : n2 ≤ 9) (hw2 : ∀ p, nb2 p < 512) : Cl G mX3_takeTurned d [.ref k, .ref k2] σ 0 0 (pV fun s => fr [k, k + 1] σ s ∧ OB s k 3 [.int (nI n2), .ref (k + 1)] ∧ AI s (k + 1) 9 (ttF n2 nb2)) := by
  obtain ⟨d0, hdd⟩ : ∃ e, d = e + 1 := ⟨d - 1, by omega⟩
  refine cl_of (by decide) (by simp [Value.category]) (Nat.le_of_ble_eq_true rfl) ?_
  show Wp G mX3_takeTurned d 0 [.ref k, .ref k2, .double 0, .double 0] [] σ 0 0 _
  have hF : fr [k, k + 1] σ σ := fr.rf
  refine wp_aload_n (atd dX3_takeTurned 0 rfl) rfl rfl ?_
  refine wp_aload_n (atd dX3_takeTurned 1 rfl) rfl rfl ?_
  refine wp_cVv hdd [_] (atd dX3_takeTurned 2 rfl) iX3_copyFrom lX3_83 rfl rfl (Nat.le_of_ble_eq_true rfl) hO rfl (eX3_copyFrom (by omega) hO hA hO2 hA2 hap) (fun s_2 h_2 => ?_)
  obtain ⟨f_2, hO, hA⟩ := h_2
  have hF := hF.tr f_2 (by simp)
  refine wp_iconst (v := nI 0) (atd dX3_takeTurned 3 rfl) (by decide) ?_
  refine wp_istore_n (atd dX3_takeTurned 4 rfl) (Nat.le_of_ble_eq_true rfl) ?_
  exact lX3_takeTurned (by omega) hn2 n2 0 nb2 _ _ (by omega) hO hA hF hw2 rfl
theorem up_lt {g : Nat → Nat} {c v : Nat} (hw : ∀ x, g x < 512) (hv : v < 512) : ∀ x, va_up g c v x < 512 := fun x => by
  unfold va_up
  split
  · exact hv
  · exact hw x
def tpA (L : Nat) (p : Nat) (x : Nat × (Nat → Nat)) : Nat × (Nat → Nat) := if L.testBit p = true then (x.1 + 1, va_up x.2 x.1 (2 ^ x.1)) else x
def tpG (nb2 : Nat → Nat) (n2 L c p q : Nat) (g : Nat → Nat) : Nat → Nat := if (L.testBit p = true ∧ L.testBit q = true) ∧ (nb2 p).testBit q = true then flp g c (cnt (L &&& (2 ^ p - 1))) (cnt (L &&& (2 ^ q - 1))) else g
def tpB (nb2 : Nat → Nat) (n2 L c : Nat) (g : Nat → Nat) : Nat → Nat := fl (fun p g => fl (tpG nb2 n2 L c p) (n2 - (p + 1)) (p + 1) g) n2 0 g
def tpF (nb2 : Nat → Nat) (n2 L : Nat) : Nat × (Nat → Nat) := ((fl (tpA L) n2 0 (0, fun _ => 0)).1, tpB nb2 n2 L (fl (tpA L) n2 0 (0, fun _ => 0)).1 (fl (tpA L) n2 0 (0, fun _ => 0)).2)
theorem tb_and2 (a p q : Nat) : a >>> p &&& a >>> q &&& 1 = 1 ↔ a.testBit p = true ∧ a.testBit q = true := by
  rw [← tb_iff, ← tb_iff, Nat.and_assoc]
  have h1 : a >>> p &&& 1 ≤ 1 := Nat.and_le_right
  have h2 : a >>> q &&& 1 ≤ 1 := Nat.and_le_right
  have e : a >>> p &&& (a >>> q &&& 1) = (a >>> p &&& 1) &&& (a >>> q &&& 1) := by
    rw [Nat.and_assoc, ← Nat.and_assoc 1, Nat.and_comm 1 (a >>> q), Nat.and_assoc, Nat.and_self]
  rw [e]
  generalize a >>> p &&& 1 = x at h1 ⊢
  generalize a >>> q &&& 1 = y at h2 ⊢
  rcases (show x = 0 ∨ x = 1 by omega) with rfl | rfl <;> rcases (show y = 0 ∨ y = 1 by omega) with rfl | rfl <;> decide
theorem and1_lt2 (x y : Nat) : x &&& y &&& 1 < 2 ^ 31 := and1_lt (x &&& y)
theorem lX3_takePart1 {G : Gx} {d : Nat} {Q : Option Value → Hp → Prop} (hd : 2 ≤ d) {σ0 : Hp} {k k2 n2 L : Nat} {nb2 : Nat → Nat} {y : Value} {v : Nat × (Nat → Nat)} (hap : k + 1 < k2 ∨ k2 + 1 < k) (hn2 : n2 ≤ 9) (hL : L < 512) (hk : ∀ (c : Nat) (g : Nat → Nat) (σ : Hp), OB σ k 3 [.int (nI c), .ref (k + 1)] → AI σ (k + 1) 9 g → OB σ k2 3 [.int (nI n2), .ref (k2 + 1)] → AI σ (k2 + 1) 9 nb2 → fr [k, k + 1] σ0 σ → c ≤ n2 → (∀ x, g x < 512) → (c, g) = v → Wp G mX3_takePart d 33 [.ref k, .ref k2, .int (nI L), .int (nI n2), y] [] σ 0 0 Q) : ∀ (t : Nat) (p c : Nat) (g : Nat → Nat) (σ : Hp), p + t = n2 → OB σ k 3 [.int (nI c), .ref (k + 1)] → AI σ (k + 1) 9 g → OB σ k2 3 [.int (nI n2), .ref (k2 + 1)] → AI σ (k2 + 1) 9 nb2 → fr [k, k + 1] σ0 σ → c ≤ p → (∀ x, g x < 512) → fl (tpA L) t p (c, g) = v → Wp G mX3_takePart d 6 [.ref k, .ref k2, .int (nI L), .int (nI p), y] [] σ 0 0 Q := by
  obtain ⟨d0, hdd⟩ : ∃ e, d = e + 1 := ⟨d - 1, by omega⟩
  intro t
  induction t with
  | zero =>
    intro p c g σ h hO hA hO2 hA2 hF hc hw hv
    obtain rfl : p = n2 := by omega
    refine wp_iload_n (atd dX3_takePart 4 rfl) rfl ?_
    refine wp_aload_n (atd dX3_takePart 5 rfl) rfl rfl ?_
    refine wp_get fX3_15 (atd dX3_takePart 6 rfl) hO2 rfl ?_
    refine wp_icmpN_ge (tgt := 33) (atd dX3_takePart 7 rfl) (by decide) (by omega) (by omega) (fun c_11 => ?_) (fun c_11 => ?_)
    ·
      exact hk c g σ hO hA hO2 hA2 hF (by omega) hw hv
    · exfalso; omega
  | succ t ih =>
    intro p c g σ h hO hA hO2 hA2 hF hc hw hv
    refine wp_iload_n (atd dX3_takePart 4 rfl) rfl ?_
    refine wp_aload_n (atd dX3_takePart 5 rfl) rfl rfl ?_
    refine wp_get fX3_15 (atd dX3_takePart 6 rfl) hO2 rfl ?_
    refine wp_icmpN_ge (tgt := 33) (atd dX3_takePart 7 rfl) (by decide) (by omega) (by omega) (fun c_11 => ?_) (fun c_11 => ?_)
    · exfalso; omega
    ·
      refine wp_iload_n (atd dX3_takePart 8 rfl) rfl ?_
      refine wp_iload_n (atd dX3_takePart 9 rfl) rfl ?_
      refine wp_ishrN (atd dX3_takePart 10 rfl) (by omega) (by omega) ?_
      refine wp_iconst (v := nI 1) (atd dX3_takePart 11 rfl) (by decide) ?_
      refine wp_iandN (atd dX3_takePart 12 rfl) ?_
      refine wp_iconst (v := nI 1) (atd dX3_takePart 13 rfl) (by decide) ?_
      refine wp_icmpN_ne (tgt := 27) (atd dX3_takePart 14 rfl) (by decide) (by have := and1_lt (L >>> p); omega) (by omega) (fun c_20 => ?_) (fun c_20 => ?_)
      ·
        refine wp_iincN (c := 1) (atd dX3_takePart 17 rfl) rfl ?_
        refine wp_goto (tgt := 6) (atd dX3_takePart 18 rfl) (by decide) ?_
        exact ih (p + 1) _ _ _ (by omega) hO hA hO2 hA2 hF (by omega) hw (by rw [← hv]; show _ = fl _ _ _ (tpA L p (c, g)); rw [tpA, if_neg (fun h => c_20 ((tb_iff _ _).mpr h))])
      ·
        refine wp_aload_n (atd dX3_takePart 15 rfl) rfl rfl ?_
        refine wp_cVv hdd [] (atd dX3_takePart 16 rfl) iX3_addPlace lX3_77 rfl rfl (Nat.le_of_ble_eq_true rfl) hO rfl (eX3_addPlace (by omega) hO hA (by omega)) (fun s_24 h_24 => ?_)
        obtain ⟨f_24, hO, hA⟩ := h_24
        have hO2 := hO2.fr f_24 (by first | decide | (simp only [List.mem_cons, List.not_mem_nil, or_false]; omega))
        have hA2 := hA2.fr f_24 (by first | decide | (simp only [List.mem_cons, List.not_mem_nil, or_false]; omega))
        have hF := hF.tr f_24 (by simp)
        refine wp_iincN (c := 1) (atd dX3_takePart 17 rfl) rfl ?_
        refine wp_goto (tgt := 6) (atd dX3_takePart 18 rfl) (by decide) ?_
        exact ih (p + 1) _ _ _ (by omega) hO hA hO2 hA2 hF (by omega) (up_lt hw (pow_lt9 (by omega))) (by rw [← hv]; show _ = fl _ _ _ (tpA L p (c, g)); rw [tpA, if_pos ((tb_iff _ _).mp c_20)])
theorem lX3_takePart2 {G : Gx} {d : Nat} {Q : Option Value → Hp → Prop} (hd : 3 ≤ d) {σ0 : Hp} {k k2 n2 L c : Nat} {nb2 : Nat → Nat} (hap : k + 1 < k2 ∨ k2 + 1 < k) (hn2 : n2 ≤ 9) (hw2 : ∀ p, nb2 p < 512) (hL : L < 512) (hc : c ≤ 9) (hcb : ∀ p, p < 9 → cnt (L &&& (2 ^ p - 1)) < 9) {p : Nat} {v : Nat → Nat} (hp : p < n2) (hk : ∀ (g : Nat → Nat) (σ : Hp), OB σ k 3 [.int (nI c), .ref (k + 1)] → AI σ (k + 1) 9 g → OB σ k2 3 [.int (nI n2), .ref (k2 + 1)] → AI σ (k2 + 1) 9 nb2 → fr [k, k + 1] σ0 σ → (∀ x, g x < 512) → g = v → Wp G mX3_takePart d 102 [.ref k, .ref k2, .int (nI L), .int (nI p), .int (nI n2)] [] σ 0 0 Q) : ∀ (t : Nat) (q : Nat) (g : Nat → Nat) (σ : Hp), q + t = n2 → p < q → OB σ k 3 [.int (nI c), .ref (k + 1)] → AI σ (k + 1) 9 g → OB σ k2 3 [.int (nI n2), .ref (k2 + 1)] → AI σ (k2 + 1) 9 nb2 → fr [k, k + 1] σ0 σ → (∀ x, g x < 512) → fl (tpG nb2 n2 L c p) t q g = v → Wp G mX3_takePart d 48 [.ref k, .ref k2, .int (nI L), .int (nI p), .int (nI q)] [] σ 0 0 Q := by
  obtain ⟨d0, hdd⟩ : ∃ e, d = e + 1 := ⟨d - 1, by omega⟩
  intro t
  induction t with
  | zero =>
    intro q g σ h hpq hO hA hO2 hA2 hF hw hv
    obtain rfl : q = n2 := by omega
    refine wp_iload (atd dX3_takePart 29 rfl) rfl ?_
    refine wp_aload_n (atd dX3_takePart 30 rfl) rfl rfl ?_
    refine wp_get fX3_15 (atd dX3_takePart 31 rfl) hO2 rfl ?_
    refine wp_icmpN_ge (tgt := 102) (atd dX3_takePart 32 rfl) (by decide) (by omega) (by omega) (fun c_54 => ?_) (fun c_54 => ?_)
    ·
      exact hk g σ hO hA hO2 hA2 hF hw hv
    · exfalso; omega
  | succ t ih =>
    intro q g σ h hpq hO hA hO2 hA2 hF hw hv
    refine wp_iload (atd dX3_takePart 29 rfl) rfl ?_
    refine wp_aload_n (atd dX3_takePart 30 rfl) rfl rfl ?_
    refine wp_get fX3_15 (atd dX3_takePart 31 rfl) hO2 rfl ?_
    refine wp_icmpN_ge (tgt := 102) (atd dX3_takePart 32 rfl) (by decide) (by omega) (by omega) (fun c_54 => ?_) (fun c_54 => ?_)
    · exfalso; omega
    ·
      refine wp_iload_n (atd dX3_takePart 33 rfl) rfl ?_
      refine wp_iload_n (atd dX3_takePart 34 rfl) rfl ?_
      refine wp_ishrN (atd dX3_takePart 35 rfl) (by omega) (by omega) ?_
      refine wp_iload_n (atd dX3_takePart 36 rfl) rfl ?_
      refine wp_iload (atd dX3_takePart 37 rfl) rfl ?_
      refine wp_ishrN (atd dX3_takePart 38 rfl) (by omega) (by omega) ?_
      refine wp_iandN (atd dX3_takePart 39 rfl) ?_
      refine wp_iconst (v := nI 1) (atd dX3_takePart 40 rfl) (by decide) ?_
      refine wp_iandN (atd dX3_takePart 41 rfl) ?_
      refine wp_iconst (v := nI 1) (atd dX3_takePart 42 rfl) (by decide) ?_
      refine wp_icmpN_ne (tgt := 96) (atd dX3_takePart 43 rfl) (by decide) (by have := and1_lt2 (L >>> p) (L >>> q); omega) (by omega) (fun c_68 => ?_) (fun c_68 => ?_)
      ·
        refine wp_iincN (c := 1) (atd dX3_takePart 57 rfl) rfl ?_
        refine wp_goto (tgt := 48) (atd dX3_takePart 58 rfl) (by decide) ?_
        exact ih (q + 1) _ _ (by omega) (by omega) hO hA hO2 hA2 hF hw (by rw [← hv]; show _ = fl _ _ _ (tpG nb2 n2 L c p q g); rw [tpG, if_neg (fun h => c_68 ((tb_and2 _ _ _).mpr h.1))])
      ·
        refine wp_aload_n (atd dX3_takePart 44 rfl) rfl rfl ?_
        refine wp_iload_n (atd dX3_takePart 45 rfl) rfl ?_
        refine wp_iload (atd dX3_takePart 46 rfl) rfl ?_
        refine wp_cVi hdd [_, _] (atd dX3_takePart 47 rfl) iX3_joined lX3_56 rfl rfl (Nat.le_of_ble_eq_true rfl) hO2 rfl (eX3_joined (by omega) hO2 hA2 hn2 hw2 (by omega) (by omega)) (fun r_75 s_75 h_75 => ?_)
        obtain ⟨rfl, e_75⟩ := h_75
        obtain rfl := e_75.symm
        refine wp_ifB_eq (tgt := 96) (atd dX3_takePart 48 rfl) (by decide) (fun c_78 => ?_) (fun c_78 => ?_)
        ·
          refine wp_iincN (c := 1) (atd dX3_takePart 57 rfl) rfl ?_
          refine wp_goto (tgt := 48) (atd dX3_takePart 58 rfl) (by decide) ?_
          exact ih (q + 1) _ _ (by omega) (by omega) hO hA hO2 hA2 hF hw (by rw [← hv]; show _ = fl _ _ _ (tpG nb2 n2 L c p q g); rw [tpG, if_neg (fun h => c_78 ⟨by omega, by omega, h.2⟩)])
        ·
          refine wp_aload_n (atd dX3_takePart 49 rfl) rfl rfl ?_
          refine wp_iload_n (atd dX3_takePart 50 rfl) rfl ?_
          refine wp_iload_n (atd dX3_takePart 51 rfl) rfl ?_
          refine wp_cSi hdd [_, _] (atd dX3_takePart 52 rfl) iX3_countBelow lX3_80 rfl rfl (Nat.le_of_ble_eq_true rfl) (eX3_countBelow (by omega) hL (by omega)) (fun r_84 s_84 h_84 => ?_)
          obtain ⟨rfl, e_84⟩ := h_84
          obtain rfl := e_84.symm
          refine wp_iload_n (atd dX3_takePart 53 rfl) rfl ?_
          refine wp_iload (atd dX3_takePart 54 rfl) rfl ?_
          refine wp_cSi hdd [_, _] (atd dX3_takePart 55 rfl) iX3_countBelow lX3_80 rfl rfl (Nat.le_of_ble_eq_true rfl) (eX3_countBelow (by omega) hL (by omega)) (fun r_90 s_90 h_90 => ?_)
          obtain ⟨rfl, e_90⟩ := h_90
          obtain rfl := e_90.symm
          refine wp_cVv hdd [_, _] (atd dX3_takePart 56 rfl) iX3_flip lX3_60 rfl rfl (Nat.le_of_ble_eq_true rfl) hO rfl (eX3_flip (by omega) hO hA hc hw (hcb p (by omega)) (hcb q (by omega))) (fun s_93 h_93 => ?_)
          obtain ⟨f_93, hA⟩ := h_93
          have hO := hO.fr f_93 (by first | decide | (simp only [List.mem_cons, List.not_mem_nil, or_false]; omega))
          have hO2 := hO2.fr f_93 (by first | decide | (simp only [List.mem_cons, List.not_mem_nil, or_false]; omega))
          have hA2 := hA2.fr f_93 (by first | decide | (simp only [List.mem_cons, List.not_mem_nil, or_false]; omega))
          have hF := hF.tr f_93 (by simp)
          refine wp_iincN (c := 1) (atd dX3_takePart 57 rfl) rfl ?_
          refine wp_goto (tgt := 48) (atd dX3_takePart 58 rfl) (by decide) ?_
          exact ih (q + 1) _ _ (by omega) (by omega) hO hA hO2 hA2 hF (flp_lt hw (hcb p (by omega)) (hcb q (by omega))) (by rw [← hv]; show _ = fl _ _ _ (tpG nb2 n2 L c p q g); rw [tpG, if_pos ⟨(tb_and2 _ _ _).mp c_68, c_78.2.2⟩])
theorem lX3_takePart3 {G : Gx} {d : Nat} (hd : 3 ≤ d) {σ0 : Hp} {k k2 n2 L c : Nat} {nb2 : Nat → Nat} (hap : k + 1 < k2 ∨ k2 + 1 < k) (hn2 : n2 ≤ 9) (hw2 : ∀ p, nb2 p < 512) (hL : L < 512) (hc : c ≤ 9) (hcb : ∀ p, p < 9 → cnt (L &&& (2 ^ p - 1)) < 9) {v : Nat → Nat} : ∀ (t : Nat) (p : Nat) (g : Nat → Nat) (σ : Hp) (y : Value), p + t = n2 → OB σ k 3 [.int (nI c), .ref (k + 1)] → AI σ (k + 1) 9 g → OB σ k2 3 [.int (nI n2), .ref (k2 + 1)] → AI σ (k2 + 1) 9 nb2 → fr [k, k + 1] σ0 σ → (∀ x, g x < 512) → fl (fun p g => fl (tpG nb2 n2 L c p) (n2 - (p + 1)) (p + 1) g) t p g = v → Wp G mX3_takePart d 35 [.ref k, .ref k2, .int (nI L), .int (nI p), y] [] σ 0 0 (pV fun s => fr [k, k + 1] σ0 s ∧ OB s k 3 [.int (nI c), .ref (k + 1)] ∧ AI s (k + 1) 9 v) := by
  obtain ⟨d0, hdd⟩ : ∃ e, d = e + 1 := ⟨d - 1, by omega⟩
  intro t
  induction t with
  | zero =>
    intro p g σ y h hO hA hO2 hA2 hF hw hv
    refine wp_iload_n (atd dX3_takePart 21 rfl) rfl ?_
    refine wp_aload_n (atd dX3_takePart 22 rfl) rfl rfl ?_
    refine wp_get fX3_15 (atd dX3_takePart 23 rfl) hO2 rfl ?_
    refine wp_icmpN_ge (tgt := 108) (atd dX3_takePart 24 rfl) (by decide) (by omega) (by omega) (fun c_40 => ?_) (fun c_40 => ?_)
    ·
      refine wp_vretv (atd dX3_takePart 61 rfl) rfl ?_
      exact ⟨hF, hO, by rw [← hv]; exact hA⟩
    · exfalso; omega
  | succ t ih =>
    intro p g σ y h hO hA hO2 hA2 hF hw hv
    refine wp_iload_n (atd dX3_takePart 21 rfl) rfl ?_
    refine wp_aload_n (atd dX3_takePart 22 rfl) rfl rfl ?_
    refine wp_get fX3_15 (atd dX3_takePart 23 rfl) hO2 rfl ?_
    refine wp_icmpN_ge (tgt := 108) (atd dX3_takePart 24 rfl) (by decide) (by omega) (by omega) (fun c_40 => ?_) (fun c_40 => ?_)
    · exfalso; omega
    ·
      refine wp_iload_n (atd dX3_takePart 25 rfl) rfl ?_
      refine wp_iconst (v := nI 1) (atd dX3_takePart 26 rfl) (by decide) ?_
      refine wp_iaddN (atd dX3_takePart 27 rfl) ?_
      refine wp_istore (atd dX3_takePart 28 rfl) (Nat.le_of_ble_eq_true rfl) ?_
      refine lX3_takePart2 (σ0 := σ0) (v := fl (tpG nb2 n2 L c p) (n2 - (p + 1)) (p + 1) g) (by omega) hap hn2 hw2 hL hc hcb (by omega) (fun g2 σ hO hA hO2 hA2 hF hw he => ?_) (n2 - (p + 1)) (p + 1) g σ (by omega) (by omega) hO hA hO2 hA2 hF hw rfl
      subst he
      refine wp_iincN (c := 1) (atd dX3_takePart 59 rfl) rfl ?_
      refine wp_goto (tgt := 35) (atd dX3_takePart 60 rfl) (by decide) ?_
      exact ih (p + 1) _ σ _ (by omega) hO hA hO2 hA2 hF hw (by rw [← hv]; rfl)
theorem cb_lt : ∀ p, p < 9 → ∀ a, a < 512 → cnt (a &&& (2 ^ p - 1)) < 9 := by decide +kernel
theorem Prod_eq {a b : Nat} {f g : Nat → Nat} {v : Nat × (Nat → Nat)} (h : (a, f) = v) : a = v.1 ∧ f = v.2 := by subst h; exact ⟨rfl, rfl⟩
theorem eX3_takePart {G : Gx} {d : Nat} {σ : Hp} (hd : 3 ≤ d) {k n k2 n2 : Nat} {nb nb2 : Nat → Nat} (hO : OB σ k 3 [.int (nI n), .ref (k + 1)]) (hA : AI σ (k + 1) 9 nb) (hO2 : OB σ k2 3 [.int (nI n2), .ref (k2 + 1)]) (hA2 : AI σ (k2 + 1) 9 nb2) (hap : k + 1 < k2 ∨ k2 + 1 < k) {L : Nat} (hL : L < 512) (hn2 : n2 ≤ 9) (hw2 : ∀ p, nb2 p < 512) : Cl G mX3_takePart d [.ref k, .ref k2, .int (nI L)] σ 0 0 (pV fun s => fr [k, k + 1] σ s ∧ OB s k 3 [.int (nI (tpF nb2 n2 L).1), .ref (k + 1)] ∧ AI s (k + 1) 9 (tpF nb2 n2 L).2) := by
  obtain ⟨d0, hdd⟩ : ∃ e, d = e + 1 := ⟨d - 1, by omega⟩
  refine cl_of (by decide) (by simp [Value.category]) (Nat.le_of_ble_eq_true rfl) ?_
  show Wp G mX3_takePart d 0 [.ref k, .ref k2, .int (nI L), .double 0, .double 0] [] σ 0 0 _
  have hF : fr [k, k + 1] σ σ := fr.rf
  refine wp_aload_n (atd dX3_takePart 0 rfl) rfl rfl ?_
  refine wp_cVv hdd [] (atd dX3_takePart 1 rfl) iX3_clear lX3_74 rfl rfl (Nat.le_of_ble_eq_true rfl) hO rfl (eX3_clear (by omega) hO hA) (fun s_1 h_1 => ?_)
  obtain ⟨f_1, hO, hA⟩ := h_1
  have hO2 := hO2.fr f_1 (by first | decide | (simp only [List.mem_cons, List.not_mem_nil, or_false]; omega))
  have hA2 := hA2.fr f_1 (by first | decide | (simp only [List.mem_cons, List.not_mem_nil, or_false]; omega))
  have hF := hF.tr f_1 (by simp)
  refine wp_iconst (v := nI 0) (atd dX3_takePart 2 rfl) (by decide) ?_
  refine wp_istore_n (atd dX3_takePart 3 rfl) (Nat.le_of_ble_eq_true rfl) ?_
  refine lX3_takePart1 (σ0 := σ) (v := fl (tpA L) n2 0 (0, fun _ => 0)) (by omega) hap hn2 hL (fun c g s2 hO hA hO2 hA2 hF hc hw he => ?_) n2 0 0 (fun _ => 0) _ (by omega) hO hA hO2 hA2 hF (by omega) (by simp) rfl
  obtain ⟨e1, e2⟩ : c = (fl (tpA L) n2 0 (0, fun _ => 0)).1 ∧ g = (fl (tpA L) n2 0 (0, fun _ => 0)).2 := by rw [← he]; exact ⟨rfl, rfl⟩
  refine wp_iconst (v := nI 0) (atd dX3_takePart 19 rfl) (by decide) ?_
  refine wp_istore_n (atd dX3_takePart 20 rfl) (Nat.le_of_ble_eq_true rfl) ?_
  rw [tpF, tpB, ← e1, ← e2]
  exact lX3_takePart3 (by omega) hap hn2 hw2 hL (by omega) (fun p hp => cb_lt p hp L hL) n2 0 g _ _ (by omega) hO hA hO2 hA2 hF hw rfl
def twA (p : Nat) (x : Nat × (Nat → Nat)) : Nat × (Nat → Nat) := (x.1 + 1, va_up x.2 x.1 (2 ^ x.1))
def twG (nb2 : Nat → Nat) (n2 p q : Nat) (g : Nat → Nat) : Nat → Nat := if (nb2 p).testBit q = true then flp (flp g (2 * n2) p q) (2 * n2) (n2 + p) (n2 + q) else g
def twB (nb2 : Nat → Nat) (n2 p : Nat) (g : Nat → Nat) : Nat → Nat := fl (twG nb2 n2 p) (n2 - (p + 1)) (p + 1) (flp g (2 * n2) p (n2 + p))
def twF (nb2 : Nat → Nat) (n2 : Nat) : Nat → Nat := fl (twB nb2 n2) n2 0 (fl twA (2 * n2) 0 (0, fun _ => 0)).2
theorem lX3_takeTwice1 {G : Gx} {d : Nat} {Q : Option Value → Hp → Prop} (hd : 2 ≤ d) {σ0 : Hp} {k k2 n2 : Nat} {nb2 : Nat → Nat} {y : Value} {v : Nat → Nat} (hap : k + 1 < k2 ∨ k2 + 1 < k) (hn2 : n2 ≤ 4) (hk : ∀ (g : Nat → Nat) (σ : Hp), OB σ k 3 [.int (nI (2 * n2)), .ref (k + 1)] → AI σ (k + 1) 9 g → OB σ k2 3 [.int (nI n2), .ref (k2 + 1)] → AI σ (k2 + 1) 9 nb2 → fr [k, k + 1] σ0 σ → (∀ x, g x < 512) → g = v → Wp G mX3_takeTwice d 28 [.ref k, .ref k2, .int (nI n2), .int (nI (2 * n2)), y] [] σ 0 0 Q) : ∀ (t : Nat) (p : Nat) (g : Nat → Nat) (σ : Hp), p + t = 2 * n2 → OB σ k 3 [.int (nI p), .ref (k + 1)] → AI σ (k + 1) 9 g → OB σ k2 3 [.int (nI n2), .ref (k2 + 1)] → AI σ (k2 + 1) 9 nb2 → fr [k, k + 1] σ0 σ → (∀ x, g x < 512) → (fl twA t p (p, g)).2 = v → Wp G mX3_takeTwice d 11 [.ref k, .ref k2, .int (nI n2), .int (nI p), y] [] σ 0 0 Q := by
  obtain ⟨d0, hdd⟩ : ∃ e, d = e + 1 := ⟨d - 1, by omega⟩
  intro t
  induction t with
  | zero =>
    intro p g σ h hO hA hO2 hA2 hF hw hv
    obtain rfl : p = 2 * n2 := by omega
    refine wp_iload_n (atd dX3_takeTwice 7 rfl) rfl ?_
    refine wp_iconst (v := nI 2) (atd dX3_takeTwice 8 rfl) (by decide) ?_
    refine wp_iload_n (atd dX3_takeTwice 9 rfl) rfl ?_
    refine wp_imulN (atd dX3_takeTwice 10 rfl) ?_
    refine wp_icmpN_ge (tgt := 28) (atd dX3_takeTwice 11 rfl) (by decide) (by omega) (by omega) (fun c_15 => ?_) (fun c_15 => ?_)
    ·
      exact hk g σ hO hA hO2 hA2 hF hw hv
    · exfalso; omega
  | succ t ih =>
    intro p g σ h hO hA hO2 hA2 hF hw hv
    refine wp_iload_n (atd dX3_takeTwice 7 rfl) rfl ?_
    refine wp_iconst (v := nI 2) (atd dX3_takeTwice 8 rfl) (by decide) ?_
    refine wp_iload_n (atd dX3_takeTwice 9 rfl) rfl ?_
    refine wp_imulN (atd dX3_takeTwice 10 rfl) ?_
    refine wp_icmpN_ge (tgt := 28) (atd dX3_takeTwice 11 rfl) (by decide) (by omega) (by omega) (fun c_15 => ?_) (fun c_15 => ?_)
    · exfalso; omega
    ·
      refine wp_aload_n (atd dX3_takeTwice 12 rfl) rfl rfl ?_
      refine wp_cVv hdd [] (atd dX3_takeTwice 13 rfl) iX3_addPlace lX3_77 rfl rfl (Nat.le_of_ble_eq_true rfl) hO rfl (eX3_addPlace (by omega) hO hA (by omega)) (fun s_19 h_19 => ?_)
      obtain ⟨f_19, hO, hA⟩ := h_19
      have hO2 := hO2.fr f_19 (by first | decide | (simp only [List.mem_cons, List.not_mem_nil, or_false]; omega))
      have hA2 := hA2.fr f_19 (by first | decide | (simp only [List.mem_cons, List.not_mem_nil, or_false]; omega))
      have hF := hF.tr f_19 (by simp)
      refine wp_iincN (c := 1) (atd dX3_takeTwice 14 rfl) rfl ?_
      refine wp_goto (tgt := 11) (atd dX3_takeTwice 15 rfl) (by decide) ?_
      exact ih (p + 1) _ _ (by omega) hO hA hO2 hA2 hF (up_lt hw (pow_lt9 (by omega))) (by rw [← hv]; rfl)
theorem lX3_takeTwice2 {G : Gx} {d : Nat} {Q : Option Value → Hp → Prop} (hd : 3 ≤ d) {σ0 : Hp} {k k2 n2 : Nat} {nb2 : Nat → Nat} (hap : k + 1 < k2 ∨ k2 + 1 < k) (hn2 : n2 ≤ 4) (hw2 : ∀ p, nb2 p < 512) {p : Nat} {v : Nat → Nat} (hp : p < n2) (hk : ∀ (g : Nat → Nat) (σ : Hp), OB σ k 3 [.int (nI (2 * n2)), .ref (k + 1)] → AI σ (k + 1) 9 g → OB σ k2 3 [.int (nI n2), .ref (k2 + 1)] → AI σ (k2 + 1) 9 nb2 → fr [k, k + 1] σ0 σ → (∀ x, g x < 512) → g = v → Wp G mX3_takeTwice d 88 [.ref k, .ref k2, .int (nI n2), .int (nI p), .int (nI n2)] [] σ 0 0 Q) : ∀ (t : Nat) (q : Nat) (g : Nat → Nat) (σ : Hp), q + t = n2 → p < q → OB σ k 3 [.int (nI (2 * n2)), .ref (k + 1)] → AI σ (k + 1) 9 g → OB σ k2 3 [.int (nI n2), .ref (k2 + 1)] → AI σ (k2 + 1) 9 nb2 → fr [k, k + 1] σ0 σ → (∀ x, g x < 512) → fl (twG nb2 n2 p) t q g = v → Wp G mX3_takeTwice d 48 [.ref k, .ref k2, .int (nI n2), .int (nI p), .int (nI q)] [] σ 0 0 Q := by
  obtain ⟨d0, hdd⟩ : ∃ e, d = e + 1 := ⟨d - 1, by omega⟩
  intro t
  induction t with
  | zero =>
    intro q g σ h hpq hO hA hO2 hA2 hF hw hv
    obtain rfl : q = n2 := by omega
    refine wp_iload (atd dX3_takeTwice 31 rfl) rfl ?_
    refine wp_iload_n (atd dX3_takeTwice 32 rfl) rfl ?_
    refine wp_icmpN_ge (tgt := 88) (atd dX3_takeTwice 33 rfl) (by decide) (by omega) (by omega) (fun c_51 => ?_) (fun c_51 => ?_)
    ·
      exact hk g σ hO hA hO2 hA2 hF hw hv
    · exfalso; omega
  | succ t ih =>
    intro q g σ h hpq hO hA hO2 hA2 hF hw hv
    refine wp_iload (atd dX3_takeTwice 31 rfl) rfl ?_
    refine wp_iload_n (atd dX3_takeTwice 32 rfl) rfl ?_
    refine wp_icmpN_ge (tgt := 88) (atd dX3_takeTwice 33 rfl) (by decide) (by omega) (by omega) (fun c_51 => ?_) (fun c_51 => ?_)
    · exfalso; omega
    ·
      refine wp_aload_n (atd dX3_takeTwice 34 rfl) rfl rfl ?_
      refine wp_iload_n (atd dX3_takeTwice 35 rfl) rfl ?_
      refine wp_iload (atd dX3_takeTwice 36 rfl) rfl ?_
      refine wp_cVi hdd [_, _] (atd dX3_takeTwice 37 rfl) iX3_joined lX3_56 rfl rfl (Nat.le_of_ble_eq_true rfl) hO2 rfl (eX3_joined (by omega) hO2 hA2 (by omega) hw2 (by omega) (by omega)) (fun r_58 s_58 h_58 => ?_)
      obtain ⟨rfl, e_58⟩ := h_58
      obtain rfl := e_58.symm
      refine wp_ifB_eq (tgt := 82) (atd dX3_takeTwice 38 rfl) (by decide) (fun c_61 => ?_) (fun c_61 => ?_)
      ·
        refine wp_iincN (c := 1) (atd dX3_takeTwice 51 rfl) rfl ?_
        refine wp_goto (tgt := 48) (atd dX3_takeTwice 52 rfl) (by decide) ?_
        exact ih (q + 1) _ _ (by omega) (by omega) hO hA hO2 hA2 hF hw (by rw [← hv]; show _ = fl _ _ _ (twG nb2 n2 p q g); rw [twG, if_neg (fun h => c_61 ⟨by omega, by omega, h⟩)])
      ·
        refine wp_aload_n (atd dX3_takeTwice 39 rfl) rfl rfl ?_
        refine wp_iload_n (atd dX3_takeTwice 40 rfl) rfl ?_
        refine wp_iload (atd dX3_takeTwice 41 rfl) rfl ?_
        refine wp_cVv hdd [_, _] (atd dX3_takeTwice 42 rfl) iX3_flip lX3_60 rfl rfl (Nat.le_of_ble_eq_true rfl) hO rfl (eX3_flip (by omega) hO hA (by omega) hw (by omega) (by omega)) (fun s_68 h_68 => ?_)
        obtain ⟨f_68, hA⟩ := h_68
        have hO := hO.fr f_68 (by first | decide | (simp only [List.mem_cons, List.not_mem_nil, or_false]; omega))
        have hO2 := hO2.fr f_68 (by first | decide | (simp only [List.mem_cons, List.not_mem_nil, or_false]; omega))
        have hA2 := hA2.fr f_68 (by first | decide | (simp only [List.mem_cons, List.not_mem_nil, or_false]; omega))
        have hF := hF.tr f_68 (by simp)
        refine wp_aload_n (atd dX3_takeTwice 43 rfl) rfl rfl ?_
        refine wp_iload_n (atd dX3_takeTwice 44 rfl) rfl ?_
        refine wp_iload_n (atd dX3_takeTwice 45 rfl) rfl ?_
        refine wp_iaddN (atd dX3_takeTwice 46 rfl) ?_
        refine wp_iload_n (atd dX3_takeTwice 47 rfl) rfl ?_
        refine wp_iload (atd dX3_takeTwice 48 rfl) rfl ?_
        refine wp_iaddN (atd dX3_takeTwice 49 rfl) ?_
        refine wp_cVv hdd [_, _] (atd dX3_takeTwice 50 rfl) iX3_flip lX3_60 rfl rfl (Nat.le_of_ble_eq_true rfl) hO rfl (eX3_flip (by omega) hO hA (by omega) (flp_lt hw (by omega) (by omega)) (by omega) (by omega)) (fun s_79 h_79 => ?_)
        obtain ⟨f_79, hA⟩ := h_79
        have hO := hO.fr f_79 (by first | decide | (simp only [List.mem_cons, List.not_mem_nil, or_false]; omega))
        have hO2 := hO2.fr f_79 (by first | decide | (simp only [List.mem_cons, List.not_mem_nil, or_false]; omega))
        have hA2 := hA2.fr f_79 (by first | decide | (simp only [List.mem_cons, List.not_mem_nil, or_false]; omega))
        have hF := hF.tr f_79 (by simp)
        refine wp_iincN (c := 1) (atd dX3_takeTwice 51 rfl) rfl ?_
        refine wp_goto (tgt := 48) (atd dX3_takeTwice 52 rfl) (by decide) ?_
        exact ih (q + 1) _ _ (by omega) (by omega) hO hA hO2 hA2 hF (flp_lt (flp_lt hw (by omega) (by omega)) (by omega) (by omega)) (by rw [← hv]; show _ = fl _ _ _ (twG nb2 n2 p q g); rw [twG, if_pos c_61.2.2])
theorem lX3_takeTwice3 {G : Gx} {d : Nat} (hd : 3 ≤ d) {σ0 : Hp} {k k2 n2 : Nat} {nb2 : Nat → Nat} (hap : k + 1 < k2 ∨ k2 + 1 < k) (hn2 : n2 ≤ 4) (hw2 : ∀ p, nb2 p < 512) {v : Nat → Nat} : ∀ (t : Nat) (p : Nat) (g : Nat → Nat) (σ : Hp) (y : Value), p + t = n2 → OB σ k 3 [.int (nI (2 * n2)), .ref (k + 1)] → AI σ (k + 1) 9 g → OB σ k2 3 [.int (nI n2), .ref (k2 + 1)] → AI σ (k2 + 1) 9 nb2 → fr [k, k + 1] σ0 σ → (∀ x, g x < 512) → fl (twB nb2 n2) t p g = v → Wp G mX3_takeTwice d 30 [.ref k, .ref k2, .int (nI n2), .int (nI p), y] [] σ 0 0 (pV fun s => fr [k, k + 1] σ0 s ∧ OB s k 3 [.int (nI (2 * n2)), .ref (k + 1)] ∧ AI s (k + 1) 9 v) := by
  obtain ⟨d0, hdd⟩ : ∃ e, d = e + 1 := ⟨d - 1, by omega⟩
  intro t
  induction t with
  | zero =>
    intro p g σ y h hO hA hO2 hA2 hF hw hv
    refine wp_iload_n (atd dX3_takeTwice 18 rfl) rfl ?_
    refine wp_iload_n (atd dX3_takeTwice 19 rfl) rfl ?_
    refine wp_icmpN_ge (tgt := 94) (atd dX3_takeTwice 20 rfl) (by decide) (by omega) (by omega) (fun c_32 => ?_) (fun c_32 => ?_)
    ·
      refine wp_vretv (atd dX3_takeTwice 55 rfl) rfl ?_
      exact ⟨hF, hO, by rw [← hv]; exact hA⟩
    · exfalso; omega
  | succ t ih =>
    intro p g σ y h hO hA hO2 hA2 hF hw hv
    refine wp_iload_n (atd dX3_takeTwice 18 rfl) rfl ?_
    refine wp_iload_n (atd dX3_takeTwice 19 rfl) rfl ?_
    refine wp_icmpN_ge (tgt := 94) (atd dX3_takeTwice 20 rfl) (by decide) (by omega) (by omega) (fun c_32 => ?_) (fun c_32 => ?_)
    · exfalso; omega
    ·
      refine wp_aload_n (atd dX3_takeTwice 21 rfl) rfl rfl ?_
      refine wp_iload_n (atd dX3_takeTwice 22 rfl) rfl ?_
      refine wp_iload_n (atd dX3_takeTwice 23 rfl) rfl ?_
      refine wp_iload_n (atd dX3_takeTwice 24 rfl) rfl ?_
      refine wp_iaddN (atd dX3_takeTwice 25 rfl) ?_
      refine wp_cVv hdd [_, _] (atd dX3_takeTwice 26 rfl) iX3_flip lX3_60 rfl rfl (Nat.le_of_ble_eq_true rfl) hO rfl (eX3_flip (by omega) hO hA (by omega) hw (by omega) (by omega)) (fun s_40 h_40 => ?_)
      obtain ⟨f_40, hA⟩ := h_40
      have hO := hO.fr f_40 (by first | decide | (simp only [List.mem_cons, List.not_mem_nil, or_false]; omega))
      have hO2 := hO2.fr f_40 (by first | decide | (simp only [List.mem_cons, List.not_mem_nil, or_false]; omega))
      have hA2 := hA2.fr f_40 (by first | decide | (simp only [List.mem_cons, List.not_mem_nil, or_false]; omega))
      have hF := hF.tr f_40 (by simp)
      refine wp_iload_n (atd dX3_takeTwice 27 rfl) rfl ?_
      refine wp_iconst (v := nI 1) (atd dX3_takeTwice 28 rfl) (by decide) ?_
      refine wp_iaddN (atd dX3_takeTwice 29 rfl) ?_
      refine wp_istore (atd dX3_takeTwice 30 rfl) (Nat.le_of_ble_eq_true rfl) ?_
      refine lX3_takeTwice2 (σ0 := σ0) (v := twB nb2 n2 p g) (by omega) hap hn2 hw2 (by omega) (fun g2 σ hO hA hO2 hA2 hF hw he => ?_) (n2 - (p + 1)) (p + 1) _ _ (by omega) (by omega) hO hA hO2 hA2 hF (flp_lt hw (by omega) (by omega)) rfl
      subst he
      refine wp_iincN (c := 1) (atd dX3_takeTwice 53 rfl) rfl ?_
      refine wp_goto (tgt := 30) (atd dX3_takeTwice 54 rfl) (by decide) ?_
      exact ih (p + 1) _ σ _ (by omega) hO hA hO2 hA2 hF hw (by rw [← hv]; rfl)
theorem eX3_takeTwice {G : Gx} {d : Nat} {σ : Hp} (hd : 3 ≤ d) {k n k2 n2 : Nat} {nb nb2 : Nat → Nat} (hO : OB σ k 3 [.int (nI n), .ref (k + 1)]) (hA : AI σ (k + 1) 9 nb) (hO2 : OB σ k2 3 [.int (nI n2), .ref (k2 + 1)]) (hA2 : AI σ (k2 + 1) 9 nb2) (hap : k + 1 < k2 ∨ k2 + 1 < k) (hn2 : n2 ≤ 4) (hw2 : ∀ p, nb2 p < 512) : Cl G mX3_takeTwice d [.ref k, .ref k2] σ 0 0 (pV fun s => fr [k, k + 1] σ s ∧ OB s k 3 [.int (nI (2 * n2)), .ref (k + 1)] ∧ AI s (k + 1) 9 (twF nb2 n2)) := by
  obtain ⟨d0, hdd⟩ : ∃ e, d = e + 1 := ⟨d - 1, by omega⟩
  refine cl_of (by decide) (by simp [Value.category]) (Nat.le_of_ble_eq_true rfl) ?_
  show Wp G mX3_takeTwice d 0 [.ref k, .ref k2, .double 0, .double 0, .double 0] [] σ 0 0 _
  have hF : fr [k, k + 1] σ σ := fr.rf
  refine wp_aload_n (atd dX3_takeTwice 0 rfl) rfl rfl ?_
  refine wp_get fX3_15 (atd dX3_takeTwice 1 rfl) hO2 rfl ?_
  refine wp_istore_n (atd dX3_takeTwice 2 rfl) (Nat.le_of_ble_eq_true rfl) ?_
  refine wp_aload_n (atd dX3_takeTwice 3 rfl) rfl rfl ?_
  refine wp_cVv hdd [] (atd dX3_takeTwice 4 rfl) iX3_clear lX3_74 rfl rfl (Nat.le_of_ble_eq_true rfl) hO rfl (eX3_clear (by omega) hO hA) (fun s_6 h_6 => ?_)
  obtain ⟨f_6, hO, hA⟩ := h_6
  have hO2 := hO2.fr f_6 (by first | decide | (simp only [List.mem_cons, List.not_mem_nil, or_false]; omega))
  have hA2 := hA2.fr f_6 (by first | decide | (simp only [List.mem_cons, List.not_mem_nil, or_false]; omega))
  have hF := hF.tr f_6 (by simp)
  refine wp_iconst (v := nI 0) (atd dX3_takeTwice 5 rfl) (by decide) ?_
  refine wp_istore_n (atd dX3_takeTwice 6 rfl) (Nat.le_of_ble_eq_true rfl) ?_
  refine lX3_takeTwice1 (σ0 := σ) (v := (fl twA (2 * n2) 0 (0, fun _ => 0)).2) (by omega) hap hn2 (fun g s2 hO hA hO2 hA2 hF hw he => ?_) (2 * n2) 0 (fun _ => 0) _ (by omega) hO hA hO2 hA2 hF (by simp) rfl
  refine wp_iconst (v := nI 0) (atd dX3_takeTwice 16 rfl) (by decide) ?_
  refine wp_istore_n (atd dX3_takeTwice 17 rfl) (Nat.le_of_ble_eq_true rfl) ?_
  rw [twF, ← he]
  exact lX3_takeTwice3 (by omega) hap hn2 hw2 n2 0 g _ _ (by omega) hO hA hO2 hA2 hF hw rfl
