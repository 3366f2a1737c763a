/-! a set that one hunter guards -/
abbrev Cpl : Type := Nat → Nat → Bool
def hld (nb : Nat → Nat) (n s : Nat) (C : Cpl) (h r : Nat) : Prop := ∃ to, to < n ∧ (nb h).testBit to = true ∧ s.testBit to = true ∧ ∀ q, q < n → (nb r).testBit q = true → (if s.testBit q = true then (nb to).testBit q = true else C to q = true)
def PF (nb : Nat → Nat) (n s : Nat) (C : Cpl) : Prop := ∀ h r, h < n → r < n → C h r = true → s.testBit h = true ∧ s.testBit r = false ∧ hld nb n s C h r
/-- the couples that guard: the greatest of the sets of them that hold themselves -/
def gd (nb : Nat → Nat) (n s h r : Nat) : Prop := ∃ C : Cpl, PF nb n s C ∧ C h r = true
noncomputable def gdB (nb : Nat → Nat) (n s : Nat) : Cpl := fun h r => @decide (gd nb n s h r) (Classical.propDecidable _)
def UP (nb : Nat → Nat) (n s : Nat) (C : Cpl) : Prop := (∀ h r, h < n → r < n → C h r = true → s.testBit h = true ∧ s.testBit r = false) ∧ ∀ C2, PF nb n s C2 → ∀ h r, h < n → r < n → C2 h r = true → C h r = true
theorem hld_mono {nb : Nat → Nat} {n s : Nat} {C C2 : Cpl} {h r : Nat} (hs : ∀ h r, h < n → r < n → C2 h r = true → C h r = true) (hl : hld nb n s C2 h r) : hld nb n s C h r := by
  obtain ⟨to, h1, h2, h3, h4⟩ := hl
  refine ⟨to, h1, h2, h3, fun q hq hb => ?_⟩
  have := h4 q hq hb
  by_cases hc : s.testBit q = true
  · rw [if_pos hc] at this ⊢; exact this
  · rw [if_neg hc] at this ⊢; exact hs to q h1 hq this
theorem gd_of {nb : Nat → Nat} {n s : Nat} {C : Cpl} (hu : UP nb n s C) (hp : PF nb n s C) {h r : Nat} (hh : h < n) (hr : r < n) : C h r = gdB nb n s h r := by
  unfold gdB
  by_cases hc : C h r = true
  · rw [hc]; exact (@decide_eq_true _ (Classical.propDecidable _) ⟨C, hp, hc⟩).symm
  · rw [Bool.not_eq_true] at hc
    rw [hc]
    refine (@decide_eq_false _ (Classical.propDecidable _) ?_).symm
    rintro ⟨C2, h1, h2⟩
    rw [hu.2 C2 h1 h r hh hr h2] at hc
    cases hc
def hQ (nb : Nat → Nat) (s : Nat) (C : Cpl) (r to q x : Nat) : Nat := if (nb r).testBit q = true then (if x ≠ 0 ∧ (if s.testBit q = true then (nb to).testBit q = true else C to q = true) then 1 else 0) else x
def hT (nb : Nat → Nat) (n s : Nat) (C : Cpl) (h r : Nat) : Nat → Nat → Bool
  | 0, _ => false
  | k + 1, to => if (nb h &&& s).testBit to = true ∧ fl (hQ nb s C r to) n 0 1 ≠ 0 then true else hT nb n s C h r k (to + 1)
theorem hQ_iff {nb : Nat → Nat} {s : Nat} {C : Cpl} {r to : Nat} : ∀ (k q x : Nat), fl (hQ nb s C r to) k q x ≠ 0 ↔ x ≠ 0 ∧ ∀ j, q ≤ j → j < q + k → (nb r).testBit j = true → (if s.testBit j = true then (nb to).testBit j = true else C to j = true)
  | 0, q, x => ⟨fun h => ⟨h, fun j h1 h2 => absurd h2 (by omega)⟩, fun h => h.1⟩
  | k + 1, q, x => by
    show fl (hQ nb s C r to) k (q + 1) (hQ nb s C r to q x) ≠ 0 ↔ _
    rw [hQ_iff k (q + 1) _]
    have hh : hQ nb s C r to q x ≠ 0 ↔ x ≠ 0 ∧ ((nb r).testBit q = true → (if s.testBit q = true then (nb to).testBit q = true else C to q = true)) := by
      unfold hQ
      by_cases hb : (nb r).testBit q = true
      · rw [if_pos hb]
        by_cases hc : x ≠ 0 ∧ (if s.testBit q = true then (nb to).testBit q = true else C to q = true)
        · rw [if_pos hc]; exact ⟨fun _ => ⟨hc.1, fun _ => hc.2⟩, fun _ => by decide⟩
        · rw [if_neg hc]; exact ⟨fun z => absurd rfl z, fun z => absurd ⟨z.1, z.2 hb⟩ hc⟩
      · rw [if_neg hb]; exact ⟨fun z => ⟨z, fun w => absurd w hb⟩, fun z => z.1⟩
    rw [hh]
    constructor
    · rintro ⟨⟨h1, h2⟩, h3⟩
      refine ⟨h1, fun j g1 g2 g3 => ?_⟩
      by_cases e : j = q
      · subst e; exact h2 g3
      · exact h3 j (by omega) (by omega) g3
    · rintro ⟨h1, h2⟩
      exact ⟨⟨h1, h2 q (by omega) (by omega)⟩, fun j g1 g2 g3 => h2 j (by omega) (by omega) g3⟩
theorem hT_iff {nb : Nat → Nat} {n s : Nat} {C : Cpl} {h r : Nat} : ∀ (k to : Nat), hT nb n s C h r k to = true ↔ ∃ t, to ≤ t ∧ t < to + k ∧ (nb h).testBit t = true ∧ s.testBit t = true ∧ ∀ q, q < n → (nb r).testBit q = true → (if s.testBit q = true then (nb t).testBit q = true else C t q = true)
  | 0, to => ⟨fun h => absurd h (by simp [hT]), fun ⟨t, h1, h2, _⟩ => absurd h2 (by omega)⟩
  | k + 1, to => by
    have h0 : ((nb h &&& s).testBit to = true ∧ fl (hQ nb s C r to) n 0 1 ≠ 0) ↔ ((nb h).testBit to = true ∧ s.testBit to = true ∧ ∀ q, q < n → (nb r).testBit q = true → (if s.testBit q = true then (nb to).testBit q = true else C to q = true)) := by
      rw [hQ_iff, Nat.testBit_and, Bool.and_eq_true]
      constructor
      · rintro ⟨⟨h1, h2⟩, -, h3⟩; exact ⟨h1, h2, fun q hq => h3 q (by omega) (by omega)⟩
      · rintro ⟨h1, h2, h3⟩; exact ⟨⟨h1, h2⟩, by decide, fun q _ hq => h3 q (by omega)⟩
    unfold hT
    by_cases hc : (nb h &&& s).testBit to = true ∧ fl (hQ nb s C r to) n 0 1 ≠ 0
    · rw [if_pos hc]
      exact ⟨fun _ => ⟨to, by omega, by omega, h0.mp hc⟩, fun _ => rfl⟩
    · rw [if_neg hc, hT_iff k (to + 1)]
      constructor
      · rintro ⟨t, h1, h2, h3⟩; exact ⟨t, by omega, by omega, h3⟩
      · rintro ⟨t, h1, h2, h3⟩
        refine ⟨t, ?_, by omega, h3⟩
        have : t ≠ to := fun e => hc (h0.mpr (by subst e; exact h3))
        omega
def hlB (nb : Nat → Nat) (n s : Nat) (C : Cpl) (h r : Nat) : Bool := hT nb n s C h r n 0
theorem hlB_iff {nb : Nat → Nat} {n s : Nat} {C : Cpl} {h r : Nat} : hlB nb n s C h r = true ↔ hld nb n s C h r := by
  unfold hlB
  rw [hT_iff]
  constructor
  · rintro ⟨t, -, h2, h3⟩; exact ⟨t, by omega, h3⟩
  · rintro ⟨t, h2, h3⟩; exact ⟨t, by omega, by omega, h3⟩
def CPA (B : Nat → Nat → Int32) (C : Cpl) (n : Nat) : Prop := ∀ h r, h < n → r < n → B 15 (9 * h + r) = bI (C h r = true)
theorem lX12_holdsQ {G : Gx} {d : Nat} {Q : Option Value → Hp → Prop} {σ0 σ : Hp} {m n : Nat} {α : Nat → Int32} {B : Nat → Nat → Int32} {nb : Nat → Nat} (hM : MA σ0 σ m α B) (hp : α 2 = nI n) (hn : n ≤ 9) (hb : ∀ p, p < n → B 1 p = nI (nb p)) (hw : ∀ p, nb p < 512) {s h r : Nat} {C : Cpl} (hs : s < 512) (hh : h < n) (hr : r < n) (hC : CPA B C n) {to v : Nat} (hd : 1 ≤ d) (hto : to < n) (hk : ∀ e6 : Value, v ≤ 1 → Wp G mX12_holds d 121 [.ref m, .int (nI s), .int (nI h), .int (nI r), .int (nI to), .int (nI v), e6] [] σ 0 0 Q) : ∀ (k : Nat) (q x : Nat), q + k = n → x ≤ 1 → fl (hQ nb s C r to) k q x = v → Wp G mX12_holds d 37 [.ref m, .int (nI s), .int (nI h), .int (nI r), .int (nI to), .int (nI x), .int (nI q)] [] σ 0 0 Q := by
  obtain ⟨d0, hdd⟩ : ∃ e, d = e + 1 := ⟨d - 1, by omega⟩
  intro k
  induction k with
  | zero =>
    intro q x hq hx hv
    refine wp_iload (atd dX12_holds 20 rfl) rfl ?_
    refine wp_aload_n (atd dX12_holds 21 rfl) rfl rfl ?_
    refine wp_get fX12_78 (atd dX12_holds 22 rfl) hM.1.1 (congrArg (fun z => some (Value.int z)) hp) ?_
    refine wp_icmpN_ge (tgt := 121) (atd dX12_holds 23 rfl) (by decide) (by omega) (by omega) (fun c_43 => ?_) (fun c_43 => ?_)
    ·
      have e : x = v := hv
      subst e
      exact hk _ hx
    · exfalso; omega
  | succ k ih =>
    intro q x hq hx hv
    have hwr := hw r
    have hwt := hw to
    refine wp_iload (atd dX12_holds 20 rfl) rfl ?_
    refine wp_aload_n (atd dX12_holds 21 rfl) rfl rfl ?_
    refine wp_get fX12_78 (atd dX12_holds 22 rfl) hM.1.1 (congrArg (fun z => some (Value.int z)) hp) ?_
    refine wp_icmpN_ge (tgt := 121) (atd dX12_holds 23 rfl) (by decide) (by omega) (by omega) (fun c_43 => ?_) (fun c_43 => ?_)
    · exfalso; omega
    ·
      refine wp_aload_n (atd dX12_holds 24 rfl) rfl rfl ?_
      refine wp_get fX12_7 (atd dX12_holds 25 rfl) hM.1.1 rfl ?_
      refine wp_iload_n (atd dX12_holds 26 rfl) rfl ?_
      refine wp_ialdN (atd dX12_holds 27 rfl) hM.a1 (show _ < 9 from by omega) (Nat.le_of_ble_eq_true rfl) ?_
      rw [hb r hr]
      refine wp_iload (atd dX12_holds 28 rfl) rfl ?_
      refine wp_cSi hdd [_, _] (atd dX12_holds 29 rfl) iX12_isOf lX12_149 rfl rfl (Nat.le_of_ble_eq_true rfl) (eX12_isOf (by omega) (by omega) (by omega)) (fun r_54 s_54 h_54 => ?_)
      obtain ⟨rfl, rfl⟩ := h_54
      refine wp_ifB_eq (tgt := 115) (atd dX12_holds 30 rfl) (by decide) (fun c_57 => ?_) (fun c_57 => ?_)
      ·
        refine wp_iincN (c := 1) (atd dX12_holds 58 rfl) rfl ?_
        refine wp_goto (tgt := 37) (atd dX12_holds 59 rfl) (by decide) ?_
        exact ih (q + 1) x (by omega) hx (by rw [← hv]; show fl _ k (q + 1) x = fl _ k (q + 1) (hQ nb s C r to q x); rw [show hQ nb s C r to q x = x from if_neg c_57])
      ·
        refine wp_iload (atd dX12_holds 31 rfl) rfl ?_
        refine wp_ifN_eq (tgt := 112) (atd dX12_holds 32 rfl) (by decide) (by omega) (fun c_62 => ?_) (fun c_62 => ?_)
        ·
          refine wp_iconst (v := nI 0) (atd dX12_holds 56 rfl) (by decide) ?_
          refine wp_istore (atd dX12_holds 57 rfl) (Nat.le_of_ble_eq_true rfl) ?_
          refine wp_iincN (c := 1) (atd dX12_holds 58 rfl) rfl ?_
          refine wp_goto (tgt := 37) (atd dX12_holds 59 rfl) (by decide) ?_
          exact ih (q + 1) 0 (by omega) (by omega) (by rw [← hv]; show fl _ k (q + 1) 0 = fl _ k (q + 1) (hQ nb s C r to q x); rw [show hQ nb s C r to q x = 0 from (if_pos c_57).trans (if_neg (fun z => by omega))])
        ·
          refine wp_iload_n (atd dX12_holds 33 rfl) rfl ?_
          refine wp_iload (atd dX12_holds 34 rfl) rfl ?_
          refine wp_cSi hdd [_, _] (atd dX12_holds 35 rfl) iX12_isOf lX12_149 rfl rfl (Nat.le_of_ble_eq_true rfl) (eX12_isOf (by omega) (by omega) (by omega)) (fun r_68 s_68 h_68 => ?_)
          obtain ⟨rfl, rfl⟩ := h_68
          refine wp_ifB_eq (tgt := 92) (atd dX12_holds 36 rfl) (by decide) (fun c_71 => ?_) (fun c_71 => ?_)
          ·
            refine wp_aload_n (atd dX12_holds 45 rfl) rfl rfl ?_
            refine wp_get fX12_60 (atd dX12_holds 46 rfl) hM.1.1 rfl ?_
            refine wp_bipush (v := nI 9) (atd dX12_holds 47 rfl) (by decide) ?_
            refine wp_iload (atd dX12_holds 48 rfl) rfl ?_
            refine wp_imulN (atd dX12_holds 49 rfl) ?_
            refine wp_iload (atd dX12_holds 50 rfl) rfl ?_
            refine wp_iaddN (atd dX12_holds 51 rfl) ?_
            refine wp_zaldN (atd dX12_holds 52 rfl) hM.a15 (show _ < 81 from by omega) (Nat.le_of_ble_eq_true rfl) ?_
            rw [hC to q hto (by omega)]
            refine wp_ifB_eq (tgt := 112) (atd dX12_holds 53 rfl) (by decide) (fun c_105 => ?_) (fun c_105 => ?_)
            ·
              refine wp_iconst (v := nI 0) (atd dX12_holds 56 rfl) (by decide) ?_
              refine wp_istore (atd dX12_holds 57 rfl) (Nat.le_of_ble_eq_true rfl) ?_
              refine wp_iincN (c := 1) (atd dX12_holds 58 rfl) rfl ?_
              refine wp_goto (tgt := 37) (atd dX12_holds 59 rfl) (by decide) ?_
              exact ih (q + 1) 0 (by omega) (by omega) (by rw [← hv]; show fl _ k (q + 1) 0 = fl _ k (q + 1) (hQ nb s C r to q x); rw [show hQ nb s C r to q x = 0 from (if_pos c_57).trans (if_neg (fun z => by have := z.2; rw [if_neg c_71] at this; exact c_105 this))])
            ·
              refine wp_iconst (v := nI 1) (atd dX12_holds 54 rfl) (by decide) ?_
              refine wp_goto (tgt := 113) (atd dX12_holds 55 rfl) (by decide) ?_
              refine wp_istore (atd dX12_holds 57 rfl) (Nat.le_of_ble_eq_true rfl) ?_
              refine wp_iincN (c := 1) (atd dX12_holds 58 rfl) rfl ?_
              refine wp_goto (tgt := 37) (atd dX12_holds 59 rfl) (by decide) ?_
              exact ih (q + 1) 1 (by omega) (by omega) (by rw [← hv]; show fl _ k (q + 1) 1 = fl _ k (q + 1) (hQ nb s C r to q x); rw [show hQ nb s C r to q x = 1 from (if_pos c_57).trans (if_pos ⟨by omega, by rw [if_neg c_71]; exact c_105⟩)])
          ·
            refine wp_aload_n (atd dX12_holds 37 rfl) rfl rfl ?_
            refine wp_get fX12_7 (atd dX12_holds 38 rfl) hM.1.1 rfl ?_
            refine wp_iload (atd dX12_holds 39 rfl) rfl ?_
            refine wp_ialdN (atd dX12_holds 40 rfl) hM.a1 (show _ < 9 from by omega) (Nat.le_of_ble_eq_true rfl) ?_
            rw [hb to hto]
            refine wp_iload (atd dX12_holds 41 rfl) rfl ?_
            refine wp_cSi hdd [_, _] (atd dX12_holds 42 rfl) iX12_isOf lX12_149 rfl rfl (Nat.le_of_ble_eq_true rfl) (eX12_isOf (by omega) (by omega) (by omega)) (fun r_83 s_83 h_83 => ?_)
            obtain ⟨rfl, rfl⟩ := h_83
            refine wp_ifB_eq (tgt := 112) (atd dX12_holds 43 rfl) (by decide) (fun c_86 => ?_) (fun c_86 => ?_)
            ·
              refine wp_iconst (v := nI 0) (atd dX12_holds 56 rfl) (by decide) ?_
              refine wp_istore (atd dX12_holds 57 rfl) (Nat.le_of_ble_eq_true rfl) ?_
              refine wp_iincN (c := 1) (atd dX12_holds 58 rfl) rfl ?_
              refine wp_goto (tgt := 37) (atd dX12_holds 59 rfl) (by decide) ?_
              exact ih (q + 1) 0 (by omega) (by omega) (by rw [← hv]; show fl _ k (q + 1) 0 = fl _ k (q + 1) (hQ nb s C r to q x); rw [show hQ nb s C r to q x = 0 from (if_pos c_57).trans (if_neg (fun z => by have := z.2; rw [if_pos c_71] at this; exact c_86 this))])
            ·
              refine wp_goto (tgt := 108) (atd dX12_holds 44 rfl) (by decide) ?_
              refine wp_iconst (v := nI 1) (atd dX12_holds 54 rfl) (by decide) ?_
              refine wp_goto (tgt := 113) (atd dX12_holds 55 rfl) (by decide) ?_
              refine wp_istore (atd dX12_holds 57 rfl) (Nat.le_of_ble_eq_true rfl) ?_
              refine wp_iincN (c := 1) (atd dX12_holds 58 rfl) rfl ?_
              refine wp_goto (tgt := 37) (atd dX12_holds 59 rfl) (by decide) ?_
              exact ih (q + 1) 1 (by omega) (by omega) (by rw [← hv]; show fl _ k (q + 1) 1 = fl _ k (q + 1) (hQ nb s C r to q x); rw [show hQ nb s C r to q x = 1 from (if_pos c_57).trans (if_pos ⟨by omega, by rw [if_pos c_71]; exact c_86⟩)])
theorem lX12_holds {G : Gx} {d : Nat} {σ0 σ : Hp} {m n : Nat} {α : Nat → Int32} {B : Nat → Nat → Int32} {nb : Nat → Nat} (hM : MA σ0 σ m α B) (hp : α 2 = nI n) (hn : n ≤ 9) (hb : ∀ p, p < n → B 1 p = nI (nb p)) (hw : ∀ p, nb p < 512) {s h r : Nat} {C : Cpl} (hs : s < 512) (hh : h < n) (hr : r < n) (hC : CPA B C n) {v : Bool} (hd : 1 ≤ d) : ∀ (k to : Nat) (e5 e6 : Value), to + k = n → hT nb n s C h r k to = v → Wp G mX12_holds d 3 [.ref m, .int (nI s), .int (nI h), .int (nI r), .int (nI to), e5, e6] [] σ 0 0 (pI fun z s => z = bI (v = true) ∧ s = σ) := by
  obtain ⟨d0, hdd⟩ : ∃ e, d = e + 1 := ⟨d - 1, by omega⟩
  intro k
  induction k with
  | zero =>
    intro to e5 e6 ht hv
    refine wp_iload (atd dX12_holds 2 rfl) rfl ?_
    refine wp_aload_n (atd dX12_holds 3 rfl) rfl rfl ?_
    refine wp_get fX12_78 (atd dX12_holds 4 rfl) hM.1.1 (congrArg (fun z => some (Value.int z)) hp) ?_
    refine wp_icmpN_ge (tgt := 134) (atd dX12_holds 5 rfl) (by decide) (by omega) (by omega) (fun c_9 => ?_) (fun c_9 => ?_)
    ·
      refine wp_iconst (v := nI 0) (atd dX12_holds 66 rfl) (by decide) ?_
      refine wp_iretz (atd dX12_holds 67 rfl) rfl (by first | rfl | decide) ?_
      exact ⟨by rw [← hv]; rfl, rfl⟩
    · exfalso; omega
  | succ k ih =>
    intro to e5 e6 ht hv
    have hwh := hw h
    have hwa := and_lt9 (b := s) hwh
    refine wp_iload (atd dX12_holds 2 rfl) rfl ?_
    refine wp_aload_n (atd dX12_holds 3 rfl) rfl rfl ?_
    refine wp_get fX12_78 (atd dX12_holds 4 rfl) hM.1.1 (congrArg (fun z => some (Value.int z)) hp) ?_
    refine wp_icmpN_ge (tgt := 134) (atd dX12_holds 5 rfl) (by decide) (by omega) (by omega) (fun c_9 => ?_) (fun c_9 => ?_)
    · exfalso; omega
    ·
      refine wp_aload_n (atd dX12_holds 6 rfl) rfl rfl ?_
      refine wp_get fX12_7 (atd dX12_holds 7 rfl) hM.1.1 rfl ?_
      refine wp_iload_n (atd dX12_holds 8 rfl) rfl ?_
      refine wp_ialdN (atd dX12_holds 9 rfl) hM.a1 (show _ < 9 from by omega) (Nat.le_of_ble_eq_true rfl) ?_
      rw [hb h hh]
      refine wp_iload_n (atd dX12_holds 10 rfl) rfl ?_
      refine wp_iandN (atd dX12_holds 11 rfl) ?_
      refine wp_iload (atd dX12_holds 12 rfl) rfl ?_
      refine wp_cSi hdd [_, _] (atd dX12_holds 13 rfl) iX12_isOf lX12_149 rfl rfl (Nat.le_of_ble_eq_true rfl) (eX12_isOf (by omega) (by omega) (by omega)) (fun r_22 s_22 h_22 => ?_)
      obtain ⟨rfl, rfl⟩ := h_22
      refine wp_ifB_ne (tgt := 31) (atd dX12_holds 14 rfl) (by decide) (fun c_25 => ?_) (fun c_25 => ?_)
      ·
        refine wp_iconst (v := nI 1) (atd dX12_holds 16 rfl) (by decide) ?_
        refine wp_istore (atd dX12_holds 17 rfl) (Nat.le_of_ble_eq_true rfl) ?_
        refine wp_iconst (v := nI 0) (atd dX12_holds 18 rfl) (by decide) ?_
        refine wp_istore (atd dX12_holds 19 rfl) (Nat.le_of_ble_eq_true rfl) ?_
        refine lX12_holdsQ (v := fl (hQ nb s C r to) n 0 1) hM hp hn hb hw hs hh hr hC hd (to := to) (by omega) (fun e6 hv1 => ?_) n 0 1 (by omega) (by omega) rfl
        refine wp_iload (atd dX12_holds 60 rfl) rfl ?_
        refine wp_ifN_eq (tgt := 128) (atd dX12_holds 61 rfl) (by decide) (by omega) (fun c_123 => ?_) (fun c_123 => ?_)
        ·
          refine wp_iincN (c := 1) (atd dX12_holds 64 rfl) rfl ?_
          refine wp_goto (tgt := 3) (atd dX12_holds 65 rfl) (by decide) ?_
          exact ih (to + 1) _ _ (by omega) (by rw [← hv, hT, if_neg (fun z => z.2 c_123)])
        ·
          refine wp_iconst (v := nI 1) (atd dX12_holds 62 rfl) (by decide) ?_
          refine wp_iretz (atd dX12_holds 63 rfl) rfl (by first | rfl | decide) ?_
          exact ⟨by rw [← hv, hT, if_pos ⟨c_25, by omega⟩]; rfl, rfl⟩
      ·
        refine wp_goto (tgt := 128) (atd dX12_holds 15 rfl) (by decide) ?_
        refine wp_iincN (c := 1) (atd dX12_holds 64 rfl) rfl ?_
        refine wp_goto (tgt := 3) (atd dX12_holds 65 rfl) (by decide) ?_
        exact ih (to + 1) _ _ (by omega) (by rw [← hv, hT, if_neg (fun z => c_25 z.1)])
theorem eX12_holds {G : Gx} {d : Nat} {σ : Hp} (hd : 1 ≤ d) {m n : Nat} {α : Nat → Int32} {B : Nat → Nat → Int32} {nb : Nat → Nat} (hM : MA σ σ m α B) (hp : α 2 = nI n) (hn : n ≤ 9) (hb : ∀ p, p < n → B 1 p = nI (nb p)) (hw : ∀ p, nb p < 512) {s h r : Nat} {C : Cpl} (hs : s < 512) (hh : h < n) (hr : r < n) (hC : CPA B C n) : Cl G mX12_holds d [.ref m, .int (nI s), .int (nI h), .int (nI r)] σ 0 0 (pI fun z s2 => z = bI (hlB nb n s C h r = true) ∧ s2 = σ) := by
  obtain ⟨d0, hdd⟩ : ∃ e, d = e + 1 := ⟨d - 1, by omega⟩
  refine cl_of (by decide) (by simp [Value.category]) (Nat.le_of_ble_eq_true rfl) ?_
  show Wp G mX12_holds d 0 [.ref m, .int (nI s), .int (nI h), .int (nI r), .double 0, .double 0, .double 0] [] σ 0 0 _
  refine wp_iconst (v := nI 0) (atd dX12_holds 0 rfl) (by decide) ?_
  refine wp_istore (atd dX12_holds 1 rfl) (Nat.le_of_ble_eq_true rfl) ?_
  exact lX12_holds hM hp hn hb hw hs hh hr hC hd n 0 _ _ (by omega) rfl
theorem nar_1 : vp_nar .boolean (nI 1) = nI 1 := by decide
theorem nar_0 : vp_nar .boolean (nI 0) = nI 0 := by decide
def cW (C : Cpl) : Wo := fun h r => if C h r = true then none else some 0
def C0 (s : Nat) : Cpl := fun h r => s.testBit h && !s.testBit r
def cDel (C : Cpl) (h r : Nat) : Cpl := fun x y => if x = h ∧ y = r then false else C x y
theorem C0_UP {nb : Nat → Nat} {n s : Nat} : UP nb n s (C0 s) := by
  refine ⟨fun h r _ _ hc => ?_, fun C2 h2 h r hh hr hc => ?_⟩
  · simp [C0] at hc; exact hc
  · obtain ⟨g1, g2, -⟩ := h2 h r hh hr hc
    simp [C0, g1, g2]
theorem UP.del {nb : Nat → Nat} {n s : Nat} {C : Cpl} (hu : UP nb n s C) {h r : Nat} (hn : ¬ hld nb n s C h r) : UP nb n s (cDel C h r) := by
  refine ⟨fun x y hx hy hc => ?_, fun C2 h2 x y hx hy hc => ?_⟩
  · unfold cDel at hc
    split at hc
    · cases hc
    · exact hu.1 x y hx hy hc
  · unfold cDel
    by_cases e : x = h ∧ y = r
    · obtain ⟨rfl, rfl⟩ := e
      exact absurd (hld_mono (hu.2 C2 h2) (h2 x y hx hy hc).2.2) hn
    · rw [if_neg e]; exact hu.2 C2 h2 x y hx hy hc
theorem cDel_lt {C : Cpl} {n h r : Nat} (hh : h < n) (hr : r < n) (hc : C h r = true) : nc (cW (cDel C h r)) n n < nc (cW C) n n := by
  refine (nc_lt (w := cW C) (u := cW (cDel C h r)) (fun i p hp => ?_) n 0).2 h r (by omega) (by omega) hr (by simp [cW, hc]) (by simp [cW, cDel])
  unfold cW cDel at hp
  unfold cW
  by_cases e : i = h ∧ p = r
  · obtain ⟨rfl, rfl⟩ := e; rw [if_pos hc]
  · rw [if_neg e] at hp
    exact hp
theorem CPA.del {B : Nat → Nat → Int32} {C : Cpl} {n h r : Nat} (hn : n ≤ 9) (hC : CPA B C n) (hr : r < n) : CPA (va_up B 15 (upd (B 15) (9 * h + r) (nI 0))) (cDel C h r) n := by
  intro x y hx hy
  show upd (B 15) (9 * h + r) (nI 0) (9 * x + y) = _
  unfold cDel
  by_cases e : x = h ∧ y = r
  · obtain ⟨rfl, rfl⟩ := e
    rw [if_pos ⟨rfl, rfl⟩]
    exact if_pos rfl
  · rw [if_neg e, show upd (B 15) (9 * h + r) (nI 0) (9 * x + y) = B 15 (9 * x + y) from if_neg (by omega)]
    exact hC x y hx hy
theorem lX12_layGuard1 {G : Gx} {d : Nat} {Q : Option Value → Hp → Prop} {σ0 : Hp} {m n s : Nat} {α : Nat → Int32} {B0 : Nat → Nat → Int32} {nb : Nat → Nat} (hd : 2 ≤ d) (hp : α 2 = nI n) (hn : n ≤ 9) (hb0 : ∀ p, p < n → B0 1 p = nI (nb p)) (hw : ∀ p, nb p < 512) (hs : s < 512) {h : Nat} (hh : h < n) (hk : ∀ (σ : Hp) (B : Nat → Nat → Int32) (e3 e4 : Value), MA σ0 σ m α B → frm [15] B0 B → (∀ x y, x < h + 1 → y < n → B 15 (9 * x + y) = bI (C0 s x y = true)) → Wp G mX12_layGuard d 58 [.ref m, .int (nI s), .int (nI h), e3, e4] [] σ 0 0 Q) : ∀ (k : Nat) (σ : Hp) (B : Nat → Nat → Int32) (r : Nat) (e4 : Value), MA σ0 σ m α B → frm [15] B0 B → (∀ x y, x < h → y < n → B 15 (9 * x + y) = bI (C0 s x y = true)) → (∀ y, y < r → B 15 (9 * h + y) = bI (C0 s h y = true)) → r + k = n → Wp G mX12_layGuard d 12 [.ref m, .int (nI s), .int (nI h), .int (nI r), e4] [] σ 0 0 Q := by
  obtain ⟨d0, hdd⟩ : ∃ e, d = e + 1 := ⟨d - 1, by omega⟩
  intro k
  induction k with
  | zero =>
    intro σ B r e4 hM hfb hx hy hrk
    refine wp_iload_n (atd dX12_layGuard 8 rfl) rfl ?_
    refine wp_aload_n (atd dX12_layGuard 9 rfl) rfl rfl ?_
    refine wp_get fX12_78 (atd dX12_layGuard 10 rfl) hM.1.1 (congrArg (fun z => some (Value.int z)) hp) ?_
    refine wp_icmpN_ge (tgt := 58) (atd dX12_layGuard 11 rfl) (by decide) (by omega) (by omega) (fun c_17 => ?_) (fun c_17 => ?_)
    ·
      refine hk _ B _ _ hM hfb (fun x y h1 h2 => ?_)
      by_cases e : x = h
      · subst e; exact hy y (by omega)
      · exact hx x y (by omega) h2
    · exfalso; omega
  | succ k ih =>
    intro σ B r e4 hM hfb hx hy hrk
    refine wp_iload_n (atd dX12_layGuard 8 rfl) rfl ?_
    refine wp_aload_n (atd dX12_layGuard 9 rfl) rfl rfl ?_
    refine wp_get fX12_78 (atd dX12_layGuard 10 rfl) hM.1.1 (congrArg (fun z => some (Value.int z)) hp) ?_
    refine wp_icmpN_ge (tgt := 58) (atd dX12_layGuard 11 rfl) (by decide) (by omega) (by omega) (fun c_17 => ?_) (fun c_17 => ?_)
    · exfalso; omega
    ·
      refine wp_aload_n (atd dX12_layGuard 12 rfl) rfl rfl ?_
      refine wp_get fX12_60 (atd dX12_layGuard 13 rfl) hM.1.1 rfl ?_
      refine wp_bipush (v := nI 9) (atd dX12_layGuard 14 rfl) (by decide) ?_
      refine wp_iload_n (atd dX12_layGuard 15 rfl) rfl ?_
      refine wp_imulN (atd dX12_layGuard 16 rfl) ?_
      refine wp_iload_n (atd dX12_layGuard 17 rfl) rfl ?_
      refine wp_iaddN (atd dX12_layGuard 18 rfl) ?_
      refine wp_iload_n (atd dX12_layGuard 19 rfl) rfl ?_
      refine wp_iload_n (atd dX12_layGuard 20 rfl) rfl ?_
      refine wp_cSi hdd [_, _] (atd dX12_layGuard 21 rfl) iX12_isOf lX12_149 rfl rfl (Nat.le_of_ble_eq_true rfl) (eX12_isOf (by omega) (by omega) (by omega)) (fun r_32 s_32 h_32 => ?_)
      obtain ⟨rfl, rfl⟩ := h_32
      refine wp_ifB_eq (tgt := 50) (atd dX12_layGuard 22 rfl) (by decide) (fun c_35 => ?_) (fun c_35 => ?_)
      ·
        refine wp_iconst (v := nI 0) (atd dX12_layGuard 29 rfl) (by decide) ?_
        refine wp_zastM (j := 15) (atd dX12_layGuard 30 rfl) hM (by decide) (by decide) rfl (show _ < 81 from by omega) (fun σ hM => ?_)
        refine wp_iincN (c := 1) (atd dX12_layGuard 31 rfl) rfl ?_
        refine wp_goto (tgt := 12) (atd dX12_layGuard 32 rfl) (by decide) ?_
        rw [nar_0] at hM
        have hval : nI 0 = bI (C0 s h r = true) := (bI_f (by simp [C0, c_35])).symm
        rw [hval] at hM
        refine ih _ _ (r + 1) _ hM (hfb.va (by decide)) (fun x y h1 h2 => ?_) (fun y h1 => ?_) (by omega)
        · show upd (B 15) (9 * h + r) (bI (C0 s h r = true)) (9 * x + y) = _
          rw [show upd (B 15) (9 * h + r) (bI (C0 s h r = true)) (9 * x + y) = B 15 (9 * x + y) from if_neg (by omega)]
          exact hx x y h1 h2
        · show upd (B 15) (9 * h + r) (bI (C0 s h r = true)) (9 * h + y) = _
          by_cases e : y = r
          · subst e; exact if_pos rfl
          · rw [show upd (B 15) (9 * h + r) (bI (C0 s h r = true)) (9 * h + y) = B 15 (9 * h + y) from if_neg (by omega)]
            exact hy y (by omega)
      ·
        refine wp_iload_n (atd dX12_layGuard 23 rfl) rfl ?_
        refine wp_iload_n (atd dX12_layGuard 24 rfl) rfl ?_
        refine wp_cSi hdd [_, _] (atd dX12_layGuard 25 rfl) iX12_isOf lX12_149 rfl rfl (Nat.le_of_ble_eq_true rfl) (eX12_isOf (by omega) (by omega) (by omega)) (fun r_40 s_40 h_40 => ?_)
        obtain ⟨rfl, rfl⟩ := h_40
        refine wp_ifB_ne (tgt := 50) (atd dX12_layGuard 26 rfl) (by decide) (fun c_43 => ?_) (fun c_43 => ?_)
        ·
          refine wp_iconst (v := nI 0) (atd dX12_layGuard 29 rfl) (by decide) ?_
          refine wp_zastM (j := 15) (atd dX12_layGuard 30 rfl) hM (by decide) (by decide) rfl (show _ < 81 from by omega) (fun σ hM => ?_)
          refine wp_iincN (c := 1) (atd dX12_layGuard 31 rfl) rfl ?_
          refine wp_goto (tgt := 12) (atd dX12_layGuard 32 rfl) (by decide) ?_
          rw [nar_0] at hM
          have hval : nI 0 = bI (C0 s h r = true) := (bI_f (by simp [C0, c_43])).symm
          rw [hval] at hM
          refine ih _ _ (r + 1) _ hM (hfb.va (by decide)) (fun x y h1 h2 => ?_) (fun y h1 => ?_) (by omega)
          · show upd (B 15) (9 * h + r) (bI (C0 s h r = true)) (9 * x + y) = _
            rw [show upd (B 15) (9 * h + r) (bI (C0 s h r = true)) (9 * x + y) = B 15 (9 * x + y) from if_neg (by omega)]
            exact hx x y h1 h2
          · show upd (B 15) (9 * h + r) (bI (C0 s h r = true)) (9 * h + y) = _
            by_cases e : y = r
            · subst e; exact if_pos rfl
            · rw [show upd (B 15) (9 * h + r) (bI (C0 s h r = true)) (9 * h + y) = B 15 (9 * h + y) from if_neg (by omega)]
              exact hy y (by omega)
        ·
          refine wp_iconst (v := nI 1) (atd dX12_layGuard 27 rfl) (by decide) ?_
          refine wp_goto (tgt := 51) (atd dX12_layGuard 28 rfl) (by decide) ?_
          refine wp_zastM (j := 15) (atd dX12_layGuard 30 rfl) hM (by decide) (by decide) rfl (show _ < 81 from by omega) (fun σ hM => ?_)
          refine wp_iincN (c := 1) (atd dX12_layGuard 31 rfl) rfl ?_
          refine wp_goto (tgt := 12) (atd dX12_layGuard 32 rfl) (by decide) ?_
          rw [nar_1] at hM
          have hval : nI 1 = bI (C0 s h r = true) := (bI_t (by simp [C0, c_35, c_43])).symm
          rw [hval] at hM
          refine ih _ _ (r + 1) _ hM (hfb.va (by decide)) (fun x y h1 h2 => ?_) (fun y h1 => ?_) (by omega)
          · show upd (B 15) (9 * h + r) (bI (C0 s h r = true)) (9 * x + y) = _
            rw [show upd (B 15) (9 * h + r) (bI (C0 s h r = true)) (9 * x + y) = B 15 (9 * x + y) from if_neg (by omega)]
            exact hx x y h1 h2
          · show upd (B 15) (9 * h + r) (bI (C0 s h r = true)) (9 * h + y) = _
            by_cases e : y = r
            · subst e; exact if_pos rfl
            · rw [show upd (B 15) (9 * h + r) (bI (C0 s h r = true)) (9 * h + y) = B 15 (9 * h + y) from if_neg (by omega)]
              exact hy y (by omega)
theorem lX12_layGuard2 {G : Gx} {d : Nat} {Q : Option Value → Hp → Prop} {σ0 : Hp} {m n s : Nat} {α : Nat → Int32} {B0 : Nat → Nat → Int32} {nb : Nat → Nat} (hd : 2 ≤ d) (hp : α 2 = nI n) (hn : n ≤ 9) (hb0 : ∀ p, p < n → B0 1 p = nI (nb p)) (hw : ∀ p, nb p < 512) (hs : s < 512) (hk : ∀ (σ : Hp) (B : Nat → Nat → Int32) (e2 e3 e4 : Value), MA σ0 σ m α B → frm [15] B0 B → CPA B (C0 s) n → Wp G mX12_layGuard d 64 [.ref m, .int (nI s), e2, e3, e4] [] σ 0 0 Q) : ∀ (k : Nat) (σ : Hp) (B : Nat → Nat → Int32) (h : Nat) (e3 e4 : Value), MA σ0 σ m α B → frm [15] B0 B → (∀ x y, x < h → y < n → B 15 (9 * x + y) = bI (C0 s x y = true)) → h + k = n → Wp G mX12_layGuard d 2 [.ref m, .int (nI s), .int (nI h), e3, e4] [] σ 0 0 Q := by
  intro k
  induction k with
  | zero =>
    intro σ B h e3 e4 hM hfb hx hhk
    refine wp_iload_n (atd dX12_layGuard 2 rfl) rfl ?_
    refine wp_aload_n (atd dX12_layGuard 3 rfl) rfl rfl ?_
    refine wp_get fX12_78 (atd dX12_layGuard 4 rfl) hM.1.1 (congrArg (fun z => some (Value.int z)) hp) ?_
    refine wp_icmpN_ge (tgt := 64) (atd dX12_layGuard 5 rfl) (by decide) (by omega) (by omega) (fun c_7 => ?_) (fun c_7 => ?_)
    ·
      exact hk _ B _ _ _ hM hfb (fun x y h1 h2 => hx x y (by omega) h2)
    · exfalso; omega
  | succ k ih =>
    intro σ B h e3 e4 hM hfb hx hhk
    refine wp_iload_n (atd dX12_layGuard 2 rfl) rfl ?_
    refine wp_aload_n (atd dX12_layGuard 3 rfl) rfl rfl ?_
    refine wp_get fX12_78 (atd dX12_layGuard 4 rfl) hM.1.1 (congrArg (fun z => some (Value.int z)) hp) ?_
    refine wp_icmpN_ge (tgt := 64) (atd dX12_layGuard 5 rfl) (by decide) (by omega) (by omega) (fun c_7 => ?_) (fun c_7 => ?_)
    · exfalso; omega
    ·
      refine wp_iconst (v := nI 0) (atd dX12_layGuard 6 rfl) (by decide) ?_
      refine wp_istore_n (atd dX12_layGuard 7 rfl) (Nat.le_of_ble_eq_true rfl) ?_
      refine lX12_layGuard1 hd hp hn hb0 hw hs (h := h) (by omega) (fun σ B e3 e4 hM hfb hx => ?_) n _ B 0 _ hM hfb hx (fun y hy => absurd hy (Nat.not_lt_zero y)) (by omega)
      refine wp_iincN (c := 1) (atd dX12_layGuard 33 rfl) rfl ?_
      refine wp_goto (tgt := 2) (atd dX12_layGuard 34 rfl) (by decide) ?_
      exact ih _ B (h + 1) _ _ hM hfb hx (by omega)
/-- how a round goes: either nothing was taken out and all that was looked at holds, or there are fewer -/
def rdG (nb : Nat → Nat) (n s : Nat) (C C1 : Cpl) (t h r : Nat) : Prop := (t = 1 ∧ nc (cW C1) n n < nc (cW C) n n) ∨ (t = 0 ∧ C1 = C ∧ ∀ x y, (x < h ∨ (x = h ∧ y < r)) → x < n → y < n → C x y = true → hld nb n s C x y)
theorem rdG.step {nb : Nat → Nat} {n s t h r : Nat} {C C1 : Cpl} (hg : rdG nb n s C C1 t h r) (hz : C1 h r = true → hld nb n s C1 h r) : rdG nb n s C C1 t h (r + 1) := by
  rcases hg with hg | ⟨h0, rfl, h1⟩
  · exact Or.inl hg
  · refine Or.inr ⟨h0, rfl, fun x y hxy hx hy hc => ?_⟩
    by_cases e : x = h ∧ y = r
    · obtain ⟨rfl, rfl⟩ := e; exact hz hc
    · exact h1 x y (by omega) hx hy hc
theorem rdG.del {nb : Nat → Nat} {n s t h r x y : Nat} {C C1 : Cpl} (hg : rdG nb n s C C1 t h r) (hh : h < n) (hr : r < n) (hc : C1 h r = true) : rdG nb n s C (cDel C1 h r) 1 x y := by
  refine Or.inl ⟨rfl, ?_⟩
  have h1 := cDel_lt hh hr hc
  rcases hg with ⟨-, hg⟩ | ⟨-, rfl, -⟩
  · omega
  · exact h1
theorem rdG.row {nb : Nat → Nat} {n s t h : Nat} {C C1 : Cpl} (hg : rdG nb n s C C1 t h n) : rdG nb n s C C1 t (h + 1) 0 := by
  rcases hg with hg | ⟨h0, h2, h1⟩
  · exact Or.inl hg
  · exact Or.inr ⟨h0, h2, fun x y hxy hx hy hc => h1 x y (by omega) hx hy hc⟩
theorem lX12_layGuard3 {G : Gx} {d : Nat} {Q : Option Value → Hp → Prop} {σ0 : Hp} {m n s : Nat} {α : Nat → Int32} {B0 : Nat → Nat → Int32} {nb : Nat → Nat} (hd : 2 ≤ d) (hp : α 2 = nI n) (hn : n ≤ 9) (hb0 : ∀ p, p < n → B0 1 p = nI (nb p)) (hw : ∀ p, nb p < 512) (hs : s < 512) {C : Cpl} {h : Nat} (hh : h < n) (hk : ∀ (σ : Hp) (B : Nat → Nat → Int32) (C1 : Cpl) (t : Nat) (e4 : Value), MA σ0 σ m α B → frm [15] B0 B → CPA B C1 n → UP nb n s C1 → t ≤ 1 → rdG nb n s C C1 t h n → Wp G mX12_layGuard d 141 [.ref m, .int (nI s), .int (nI t), .int (nI h), e4] [] σ 0 0 Q) : ∀ (k : Nat) (σ : Hp) (B : Nat → Nat → Int32) (C1 : Cpl) (t r : Nat), MA σ0 σ m α B → frm [15] B0 B → CPA B C1 n → UP nb n s C1 → t ≤ 1 → rdG nb n s C C1 t h r → r + k = n → Wp G mX12_layGuard d 85 [.ref m, .int (nI s), .int (nI t), .int (nI h), .int (nI r)] [] σ 0 0 Q := by
  obtain ⟨d0, hdd⟩ : ∃ e, d = e + 1 := ⟨d - 1, by omega⟩
  intro k
  induction k with
  | zero =>
    intro σ B C1 t r hM hfb hC hU ht hg hrk
    have e : r = n := by omega
    subst e
    refine wp_iload (atd dX12_layGuard 49 rfl) rfl ?_
    refine wp_aload_n (atd dX12_layGuard 50 rfl) rfl rfl ?_
    refine wp_get fX12_78 (atd dX12_layGuard 51 rfl) hM.1.1 (congrArg (fun z => some (Value.int z)) hp) ?_
    refine wp_icmpN_ge (tgt := 141) (atd dX12_layGuard 52 rfl) (by decide) (by omega) (by omega) (fun c_91 => ?_) (fun c_91 => ?_)
    ·
      exact hk _ B C1 t _ hM hfb hC hU ht hg
    · exfalso; omega
  | succ k ih =>
    intro σ B C1 t r hM hfb hC hU ht hg hrk
    have hb : ∀ p, p < n → B 1 p = nI (nb p) := fun p hpn => by rw [hfb 1 (by decide)]; exact hb0 p hpn
    refine wp_iload (atd dX12_layGuard 49 rfl) rfl ?_
    refine wp_aload_n (atd dX12_layGuard 50 rfl) rfl rfl ?_
    refine wp_get fX12_78 (atd dX12_layGuard 51 rfl) hM.1.1 (congrArg (fun z => some (Value.int z)) hp) ?_
    refine wp_icmpN_ge (tgt := 141) (atd dX12_layGuard 52 rfl) (by decide) (by omega) (by omega) (fun c_91 => ?_) (fun c_91 => ?_)
    · exfalso; omega
    ·
      refine wp_aload_n (atd dX12_layGuard 53 rfl) rfl rfl ?_
      refine wp_get fX12_60 (atd dX12_layGuard 54 rfl) hM.1.1 rfl ?_
      refine wp_bipush (v := nI 9) (atd dX12_layGuard 55 rfl) (by decide) ?_
      refine wp_iload_n (atd dX12_layGuard 56 rfl) rfl ?_
      refine wp_imulN (atd dX12_layGuard 57 rfl) ?_
      refine wp_iload (atd dX12_layGuard 58 rfl) rfl ?_
      refine wp_iaddN (atd dX12_layGuard 59 rfl) ?_
      refine wp_zaldN (atd dX12_layGuard 60 rfl) hM.a15 (show _ < 81 from by omega) (Nat.le_of_ble_eq_true rfl) ?_
      rw [hC h r hh (by omega)]
      refine wp_ifB_eq (tgt := 135) (atd dX12_layGuard 61 rfl) (by decide) (fun c_106 => ?_) (fun c_106 => ?_)
      ·
        refine wp_iincN (c := 1) (atd dX12_layGuard 79 rfl) rfl ?_
        refine wp_goto (tgt := 85) (atd dX12_layGuard 80 rfl) (by decide) ?_
        exact ih _ B C1 t (r + 1) hM hfb hC hU ht (hg.step (fun z => absurd z c_106)) (by omega)
      ·
        refine wp_aload_n (atd dX12_layGuard 62 rfl) rfl rfl ?_
        refine wp_iload_n (atd dX12_layGuard 63 rfl) rfl ?_
        refine wp_iload_n (atd dX12_layGuard 64 rfl) rfl ?_
        refine wp_iload (atd dX12_layGuard 65 rfl) rfl ?_
        refine wp_cVi hdd [_, _, _] (atd dX12_layGuard 66 rfl) iX12_holds lX12_320 rfl rfl (Nat.le_of_ble_eq_true rfl) hM.1.1 rfl (eX12_holds (by omega) hM.self hp hn hb hw hs hh (by omega) hC) (fun r_114 s_114 h_114 => ?_)
        obtain ⟨rfl, rfl⟩ := h_114
        refine wp_ifB_ne (tgt := 135) (atd dX12_layGuard 67 rfl) (by decide) (fun c_117 => ?_) (fun c_117 => ?_)
        ·
          refine wp_iincN (c := 1) (atd dX12_layGuard 79 rfl) rfl ?_
          refine wp_goto (tgt := 85) (atd dX12_layGuard 80 rfl) (by decide) ?_
          exact ih _ B C1 t (r + 1) hM hfb hC hU ht (hg.step (fun _ => hlB_iff.mp c_117)) (by omega)
        ·
          refine wp_aload_n (atd dX12_layGuard 68 rfl) rfl rfl ?_
          refine wp_get fX12_60 (atd dX12_layGuard 69 rfl) hM.1.1 rfl ?_
          refine wp_bipush (v := nI 9) (atd dX12_layGuard 70 rfl) (by decide) ?_
          refine wp_iload_n (atd dX12_layGuard 71 rfl) rfl ?_
          refine wp_imulN (atd dX12_layGuard 72 rfl) ?_
          refine wp_iload (atd dX12_layGuard 73 rfl) rfl ?_
          refine wp_iaddN (atd dX12_layGuard 74 rfl) ?_
          refine wp_iconst (v := nI 0) (atd dX12_layGuard 75 rfl) (by decide) ?_
          refine wp_zastM (j := 15) (atd dX12_layGuard 76 rfl) hM (by decide) (by decide) rfl (show _ < 81 from by omega) (fun σ hM => ?_)
          refine wp_iconst (v := nI 1) (atd dX12_layGuard 77 rfl) (by decide) ?_
          refine wp_istore_n (atd dX12_layGuard 78 rfl) (Nat.le_of_ble_eq_true rfl) ?_
          refine wp_iincN (c := 1) (atd dX12_layGuard 79 rfl) rfl ?_
          refine wp_goto (tgt := 85) (atd dX12_layGuard 80 rfl) (by decide) ?_
          rw [nar_0] at hM
          exact ih _ _ (cDel C1 h r) 1 (r + 1) hM (hfb.va (by decide)) (hC.del hn (by omega)) (hU.del (fun z => c_117 (hlB_iff.mpr z))) (by omega) (hg.del hh (by omega) c_106) (by omega)
theorem lX12_layGuard4 {G : Gx} {d : Nat} {Q : Option Value → Hp → Prop} {σ0 : Hp} {m n s : Nat} {α : Nat → Int32} {B0 : Nat → Nat → Int32} {nb : Nat → Nat} (hd : 2 ≤ d) (hp : α 2 = nI n) (hn : n ≤ 9) (hb0 : ∀ p, p < n → B0 1 p = nI (nb p)) (hw : ∀ p, nb p < 512) (hs : s < 512) {C : Cpl} (hk : ∀ (σ : Hp) (B : Nat → Nat → Int32) (C1 : Cpl) (t : Nat) (e3 e4 : Value), MA σ0 σ m α B → frm [15] B0 B → CPA B C1 n → UP nb n s C1 → t ≤ 1 → rdG nb n s C C1 t n 0 → Wp G mX12_layGuard d 147 [.ref m, .int (nI s), .int (nI t), e3, e4] [] σ 0 0 Q) : ∀ (k : Nat) (σ : Hp) (B : Nat → Nat → Int32) (C1 : Cpl) (t h : Nat) (e4 : Value), MA σ0 σ m α B → frm [15] B0 B → CPA B C1 n → UP nb n s C1 → t ≤ 1 → rdG nb n s C C1 t h 0 → h + k = n → Wp G mX12_layGuard d 74 [.ref m, .int (nI s), .int (nI t), .int (nI h), e4] [] σ 0 0 Q := by
  intro k
  induction k with
  | zero =>
    intro σ B C1 t h e4 hM hfb hC hU ht hg hhk
    have e : h = n := by omega
    subst e
    refine wp_iload_n (atd dX12_layGuard 43 rfl) rfl ?_
    refine wp_aload_n (atd dX12_layGuard 44 rfl) rfl rfl ?_
    refine wp_get fX12_78 (atd dX12_layGuard 45 rfl) hM.1.1 (congrArg (fun z => some (Value.int z)) hp) ?_
    refine wp_icmpN_ge (tgt := 147) (atd dX12_layGuard 46 rfl) (by decide) (by omega) (by omega) (fun c_79 => ?_) (fun c_79 => ?_)
    ·
      exact hk _ B C1 t _ _ hM hfb hC hU ht hg
    · exfalso; omega
  | succ k ih =>
    intro σ B C1 t h e4 hM hfb hC hU ht hg hhk
    refine wp_iload_n (atd dX12_layGuard 43 rfl) rfl ?_
    refine wp_aload_n (atd dX12_layGuard 44 rfl) rfl rfl ?_
    refine wp_get fX12_78 (atd dX12_layGuard 45 rfl) hM.1.1 (congrArg (fun z => some (Value.int z)) hp) ?_
    refine wp_icmpN_ge (tgt := 147) (atd dX12_layGuard 46 rfl) (by decide) (by omega) (by omega) (fun c_79 => ?_) (fun c_79 => ?_)
    · exfalso; omega
    ·
      refine wp_iconst (v := nI 0) (atd dX12_layGuard 47 rfl) (by decide) ?_
      refine wp_istore (atd dX12_layGuard 48 rfl) (Nat.le_of_ble_eq_true rfl) ?_
      refine lX12_layGuard3 hd hp hn hb0 hw hs (C := C) (h := h) (by omega) (fun σ B C1 t e4 hM hfb hC hU ht hg => ?_) n _ B C1 t 0 hM hfb hC hU ht hg (by omega)
      refine wp_iincN (c := 1) (atd dX12_layGuard 81 rfl) rfl ?_
      refine wp_goto (tgt := 74) (atd dX12_layGuard 82 rfl) (by decide) ?_
      exact ih _ B C1 t (h + 1) _ hM hfb hC hU ht hg.row (by omega)
theorem oX12_layGuard {G : Gx} {d : Nat} {σ0 : Hp} {m n s : Nat} {α : Nat → Int32} {B0 : Nat → Nat → Int32} {nb : Nat → Nat} (hd : 2 ≤ d) (hp : α 2 = nI n) (hn : n ≤ 9) (hb0 : ∀ p, p < n → B0 1 p = nI (nb p)) (hw : ∀ p, nb p < 512) (hs : s < 512) : ∀ (k : Nat) (σ : Hp) (B : Nat → Nat → Int32) (C : Cpl) (e3 e4 : Value), MA σ0 σ m α B → frm [15] B0 B → CPA B C n → UP nb n s C → nc (cW C) n n < k → Wp G mX12_layGuard d 66 [.ref m, .int (nI s), .int (nI 1), e3, e4] [] σ 0 0 (pV fun s2 => ∃ B1, MA σ0 s2 m α B1 ∧ frm [15] B0 B1 ∧ CPA B1 (gdB nb n s) n) := by
  intro k
  induction k with
  | zero =>
    intro σ B C e3 e4 hM hfb hC hU hk
    exact absurd hk (Nat.not_lt_zero _)
  | succ k ih =>
    intro σ B C e3 e4 hM hfb hC hU hk
    refine wp_iload_n (atd dX12_layGuard 37 rfl) rfl ?_
    refine wp_ifN_eq (tgt := 150) (atd dX12_layGuard 38 rfl) (by decide) (by omega) (fun c_67 => ?_) (fun c_67 => ?_)
    · exact absurd c_67 (by decide)
    ·
      refine wp_iconst (v := nI 0) (atd dX12_layGuard 39 rfl) (by decide) ?_
      refine wp_istore_n (atd dX12_layGuard 40 rfl) (Nat.le_of_ble_eq_true rfl) ?_
      refine wp_iconst (v := nI 0) (atd dX12_layGuard 41 rfl) (by decide) ?_
      refine wp_istore_n (atd dX12_layGuard 42 rfl) (Nat.le_of_ble_eq_true rfl) ?_
      refine lX12_layGuard4 hd hp hn hb0 hw hs (C := C) (fun σ B C1 t e3 e4 hM hfb hC hU ht hg => ?_) n _ B C 0 0 _ hM hfb hC hU (by omega) (Or.inr ⟨rfl, rfl, fun x y hxy => absurd hxy (by omega)⟩) (by omega)
      refine wp_goto (tgt := 66) (atd dX12_layGuard 83 rfl) (by decide) ?_
      rcases hg with ⟨rfl, hg⟩ | ⟨rfl, he, hg⟩
      · exact ih _ B C1 _ _ hM hfb hC hU (by omega)
      · rw [← he] at hg
        refine wp_iload_n (atd dX12_layGuard 37 rfl) rfl ?_
        refine wp_ifN_eq (tgt := 150) (atd dX12_layGuard 38 rfl) (by decide) (by omega) (fun c_67 => ?_) (fun c_67 => ?_)
        ·
          refine wp_vretv (atd dX12_layGuard 84 rfl) rfl ?_
          have hPF : PF nb n s C1 := fun x y hx hy hc => ⟨(hU.1 x y hx hy hc).1, (hU.1 x y hx hy hc).2, hg x y (by omega) hx hy hc⟩
          exact ⟨B, hM, hfb, fun x y hx hy => by rw [hC x y hx hy, gd_of hU hPF hx hy]⟩
        · exact absurd c_67 (by decide)
theorem eX12_layGuard {G : Gx} {d : Nat} {σ : Hp} (hd : 2 ≤ d) {m n : Nat} {α : Nat → Int32} {B : Nat → Nat → Int32} {nb : Nat → Nat} (hM : MA σ σ m α B) (hp : α 2 = nI n) (hn : n ≤ 9) (hb : ∀ p, p < n → B 1 p = nI (nb p)) (hw : ∀ p, nb p < 512) {s : Nat} (hs : s < 512) : Cl G mX12_layGuard d [.ref m, .int (nI s)] σ 0 0 (pV fun s2 => ∃ B1, MA σ s2 m α B1 ∧ frm [15] B B1 ∧ CPA B1 (gdB nb n s) n) := by
  obtain ⟨d0, hdd⟩ : ∃ e, d = e + 1 := ⟨d - 1, by omega⟩
  refine cl_of (by decide) (by simp [Value.category]) (Nat.le_of_ble_eq_true rfl) ?_
  show Wp G mX12_layGuard d 0 [.ref m, .int (nI s), .double 0, .double 0, .double 0] [] σ 0 0 _
  refine wp_iconst (v := nI 0) (atd dX12_layGuard 0 rfl) (by decide) ?_
  refine wp_istore_n (atd dX12_layGuard 1 rfl) (Nat.le_of_ble_eq_true rfl) ?_
  refine lX12_layGuard2 (s := s) hd hp hn hb hw hs (fun σ2 B2 e2 e3 e4 hM hfb hC => ?_) n _ B 0 _ _ hM frm.rf (fun x y hx => absurd hx (Nat.not_lt_zero x)) (by omega)
  refine wp_iconst (v := nI 1) (atd dX12_layGuard 35 rfl) (by decide) ?_
  refine wp_istore_n (atd dX12_layGuard 36 rfl) (Nat.le_of_ble_eq_true rfl) ?_
  exact oX12_layGuard hd hp hn hb hw hs 82 _ B2 (C0 s) _ _ hM hfb hC C0_UP (by have h1 := nc_bound (w := cW (C0 s)) (n := n) (R := n); have h3 : n * n ≤ 9 * 9 := Nat.mul_le_mul hn hn; omega)
abbrev isS (x : Int32) (n : Nat) : Prop := 0 < x.toInt ∧ x.toInt < ((2 ^ n : Nat) : Int)
theorem nI_self (x : Int32) : x = nI x.toBitVec.toNat := by
  apply Int32.toBitVec_inj.1
  show x.toBitVec = BitVec.ofNat 32 x.toBitVec.toNat
  rw [BitVec.ofNat_toNat, BitVec.setWidth_eq]
theorem pow9 {n : Nat} (hn : n ≤ 9) : 2 ^ n ≤ 512 := Nat.pow_le_pow_right (n := 2) (by decide) hn
theorem isS_nI {s n : Nat} (hn : n ≤ 9) (hs : s < 2 ^ n) (h0 : s ≠ 0) : isS (nI s) n := by
  have := pow9 hn
  refine ⟨?_, ?_⟩
  · rw [nI_toInt (by omega)]; omega
  · rw [nI_toInt (by omega)]; omega
theorem isS_of {x : Int32} {n : Nat} (hn : n ≤ 9) (h : isS x n) : ∃ s, s < 2 ^ n ∧ s ≠ 0 ∧ x = nI s := by
  have h9 := pow9 hn
  obtain ⟨s, hs, rfl⟩ := isP_ofB (n := 2 ^ n) (p := x) ⟨by omega, h.2⟩
  refine ⟨s, hs, fun e => ?_, rfl⟩
  subst e
  exact absurd h.1 (by decide)
theorem dif_all {s n : Nat} (hs : s < 2 ^ n) : dif s (2 ^ n - 1) = 0 := by
  apply Nat.eq_of_testBit_eq
  intro j
  rw [dif_bit, Nat.testBit_two_pow_sub_one, Nat.zero_testBit]
  by_cases hj : j < n
  · simp [hj]
  · rw [Nat.testBit_lt_two_pow (Nat.lt_of_lt_of_le hs (Nat.pow_le_pow_right (by decide) (by omega)))]; rfl
theorem isS_iff {x : Int32} {n : Nat} (hn : n ≤ 9) : (x ≠ 0 ∧ x &&& (nI (2 ^ n - 1) ^^^ (-1)) = 0) ↔ isS x n := by
  constructor
  · rintro ⟨h1, h2⟩
    rw [nI_self x, nx_dif] at h2
    have hu : x.toBitVec.toNat < 2 ^ 32 := x.toBitVec.isLt
    have hd := dif_lt (b := 2 ^ n - 1) hu
    generalize hx : x.toBitVec.toNat = u at h2 hd
    have e : BitVec.ofNat 32 (dif u (2 ^ n - 1)) = 0#32 := congrArg Int32.toBitVec h2
    have e2 := congrArg BitVec.toNat e
    rw [BitVec.toNat_ofNat, Nat.mod_eq_of_lt hd] at e2
    have e3 : dif u (2 ^ n - 1) = 0 := e2
    have hlt : u < 2 ^ n := lt_of_bits fun j hj => by
      apply Classical.byContradiction
      intro hc
      have := congrArg (fun z => z.testBit j) e3
      simp only [dif_bit, Nat.testBit_two_pow_sub_one, Nat.zero_testBit] at this
      rw [hj] at this
      simp [hc] at this
    have ex : x = nI u := by rw [← hx]; exact nI_self x
    rw [ex]
    exact isS_nI hn hlt (fun e => h1 (by rw [ex, e]; rfl))
  · intro h
    obtain ⟨s, hs, h0, rfl⟩ := isS_of hn h
    have := pow9 hn
    refine ⟨fun e => h0 ((nI_z (by omega)).mp e), ?_⟩
    rw [nx_dif, dif_all hs]
    rfl
theorem eX12_isSet {G : Gx} {d : Nat} {σ : Hp} (hd : 1 ≤ d) {m n : Nat} {α : Nat → Int32} {B : Nat → Nat → Int32} (hM : MA σ σ m α B) (hp : α 2 = nI n) (hn : n ≤ 9) {x : Int32} : Cl G mX12_isSet d [.ref m, .int x] σ 0 0 (pI fun r s => r = bI (isS x n) ∧ s = σ) := by
  obtain ⟨d0, hdd⟩ : ∃ e, d = e + 1 := ⟨d - 1, by omega⟩
  refine cl_of (by decide) (by simp [Value.category]) (Nat.le_of_ble_eq_true rfl) ?_
  show Wp G mX12_isSet d 0 [.ref m, .int x] [] σ 0 0 _
  refine wp_iload_n (atd dX12_isSet 0 rfl) rfl ?_
  refine wp_if_eq (tgt := 19) (atd dX12_isSet 1 rfl) (by decide) (fun c_1 => ?_) (fun c_1 => ?_)
  ·
    refine wp_iconst (v := nI 0) (atd dX12_isSet 11 rfl) (by decide) ?_
    refine wp_iretz (atd dX12_isSet 12 rfl) rfl (by first | rfl | decide) ?_
    exact ⟨(bI_f (fun z => ((isS_iff hn).mpr z).1 c_1)).symm, rfl⟩
  ·
    refine wp_iload_n (atd dX12_isSet 2 rfl) rfl ?_
    refine wp_aload_n (atd dX12_isSet 3 rfl) rfl rfl ?_
    refine wp_cVi hdd [] (atd dX12_isSet 4 rfl) iX12_allPlaces lX12_191 rfl rfl (Nat.le_of_ble_eq_true rfl) hM.1.1 rfl (eX12_allPlaces (by omega) hM hp hn) (fun r_6 s_6 h_6 => ?_)
    obtain ⟨rfl, rfl⟩ := h_6
    refine wp_iconst (v := -1) (atd dX12_isSet 5 rfl) (by decide) ?_
    refine wp_ixor (atd dX12_isSet 6 rfl) ?_
    refine wp_iand (atd dX12_isSet 7 rfl) ?_
    refine wp_if_ne (tgt := 19) (atd dX12_isSet 8 rfl) (by decide) (fun c_12 => ?_) (fun c_12 => ?_)
    ·
      refine wp_iconst (v := nI 0) (atd dX12_isSet 11 rfl) (by decide) ?_
      refine wp_iretz (atd dX12_isSet 12 rfl) rfl (by first | rfl | decide) ?_
      exact ⟨(bI_f (fun z => c_12 ((isS_iff hn).mpr z).2)).symm, rfl⟩
    ·
      refine wp_iconst (v := nI 1) (atd dX12_isSet 9 rfl) (by decide) ?_
      refine wp_goto (tgt := 20) (atd dX12_isSet 10 rfl) (by decide) ?_
      refine wp_iretz (atd dX12_isSet 12 rfl) rfl (by first | rfl | decide) ?_
      exact ⟨(bI_t ((isS_iff hn).mp ⟨c_1, Classical.not_not.mp c_12⟩)).symm, rfl⟩
def atS (x : Int32) (n : Nat) (f : Nat → Int32) (e : Int32) : Int32 := if isS x n then f x.toNatClampNeg else e
theorem atS_t {s n : Nat} {f : Nat → Int32} {e : Int32} (hn : n ≤ 9) (hs : s < 2 ^ n) (h0 : s ≠ 0) : atS (nI s) n f e = f s := by
  have := pow9 hn
  unfold atS; rw [if_pos (isS_nI hn hs h0), nI_clamp (by omega)]
theorem atS_f {x : Int32} {n : Nat} {f : Nat → Int32} {e : Int32} (h : ¬ isS x n) : atS x n f e = e := if_neg h
theorem eX12_guards {G : Gx} {d : Nat} {σ : Hp} (hd : 3 ≤ d) {m n : Nat} {α : Nat → Int32} {B : Nat → Nat → Int32} {nb : Nat → Nat} (hM : MA σ σ m α B) (hp : α 2 = nI n) (hn : n ≤ 9) (hb : ∀ p, p < n → B 1 p = nI (nb p)) (hw : ∀ p, nb p < 512) {x a b : Int32} : Cl G mX12_guards d [.ref m, .int x, .int a, .int b] σ 0 0 (pI fun r s => r = atS x n (fun z => atP a n (fun h => atP b n (fun y => bI (gdB nb n z h y = true)) (-1)) (-1)) (-1) ∧ ∃ B1, MA σ s m (upd α 0 (nI 0)) B1 ∧ frm [15] B B1) := by
  obtain ⟨d0, hdd⟩ : ∃ e, d = e + 1 := ⟨d - 1, by omega⟩
  refine cl_of (by decide) (by simp [Value.category]) (Nat.le_of_ble_eq_true rfl) ?_
  show Wp G mX12_guards d 0 [.ref m, .int x, .int a, .int b] [] σ 0 0 _
  refine wp_aload_n (atd dX12_guards 0 rfl) rfl rfl ?_
  refine wp_iconst (v := nI 0) (atd dX12_guards 1 rfl) (by decide) ?_
  refine wp_putM fX12_75 (atd dX12_guards 2 rfl) hM rfl (fun σ hM => ?_)
  refine wp_aload_n (atd dX12_guards 3 rfl) rfl rfl ?_
  refine wp_iload_n (atd dX12_guards 4 rfl) rfl ?_
  refine wp_cVi hdd [_] (atd dX12_guards 5 rfl) iX12_isSet lX12_323 rfl rfl (Nat.le_of_ble_eq_true rfl) hM.1.1 rfl (eX12_isSet (by omega) hM.self hp hn) (fun r_7 s_7 h_7 => ?_)
  obtain ⟨rfl, rfl⟩ := h_7
  refine wp_ifB_eq (tgt := 29) (atd dX12_guards 6 rfl) (by decide) (fun c_10 => ?_) (fun c_10 => ?_)
  ·
    refine wp_iconst (v := -1) (atd dX12_guards 15 rfl) (by decide) ?_
    refine wp_ireti (atd dX12_guards 16 rfl) rfl ?_
    exact ⟨by rw [atS_f c_10], B, hM, frm.rf⟩
  ·
    obtain ⟨s, hs, hs0, rfl⟩ := isS_of hn c_10
    have hs9 : s < 512 := Nat.lt_of_lt_of_le hs (pow9 hn)
    refine wp_aload_n (atd dX12_guards 7 rfl) rfl rfl ?_
    refine wp_iload_n (atd dX12_guards 8 rfl) rfl ?_
    refine wp_cVi hdd [_] (atd dX12_guards 9 rfl) iX12_isPlace lX12_181 rfl rfl (Nat.le_of_ble_eq_true rfl) hM.1.1 rfl (eX12_isPlace (by omega) hM.self hp hn) (fun r_15 s_15 h_15 => ?_)
    obtain ⟨rfl, rfl⟩ := h_15
    refine wp_ifB_eq (tgt := 29) (atd dX12_guards 10 rfl) (by decide) (fun c_18 => ?_) (fun c_18 => ?_)
    ·
      refine wp_iconst (v := -1) (atd dX12_guards 15 rfl) (by decide) ?_
      refine wp_ireti (atd dX12_guards 16 rfl) rfl ?_
      exact ⟨by rw [atS_t hn hs hs0, atP_f c_18], B, hM, frm.rf⟩
    ·
      obtain ⟨h, ha, rfl⟩ := isP_of hn c_18
      refine wp_aload_n (atd dX12_guards 11 rfl) rfl rfl ?_
      refine wp_iload_n (atd dX12_guards 12 rfl) rfl ?_
      refine wp_cVi hdd [_] (atd dX12_guards 13 rfl) iX12_isPlace lX12_181 rfl rfl (Nat.le_of_ble_eq_true rfl) hM.1.1 rfl (eX12_isPlace (by omega) hM.self hp hn) (fun r_23 s_23 h_23 => ?_)
      obtain ⟨rfl, rfl⟩ := h_23
      refine wp_ifB_ne (tgt := 31) (atd dX12_guards 14 rfl) (by decide) (fun c_26 => ?_) (fun c_26 => ?_)
      ·
        obtain ⟨r, hb2, rfl⟩ := isP_of hn c_26
        refine wp_aload_n (atd dX12_guards 17 rfl) rfl rfl ?_
        refine wp_iload_n (atd dX12_guards 18 rfl) rfl ?_
        refine wp_cVv hdd [_] (atd dX12_guards 19 rfl) iX12_layGuard lX12_326 rfl rfl (Nat.le_of_ble_eq_true rfl) hM.1.1 rfl (eX12_layGuard (by omega) hM.self hp hn hb hw hs9) (fun s_33 h_33 => ?_)
        obtain ⟨B1, hM1, hfb1, hC1⟩ := h_33
        have hM := hM.trans hM1
        refine wp_aload_n (atd dX12_guards 20 rfl) rfl rfl ?_
        refine wp_get fX12_60 (atd dX12_guards 21 rfl) hM.1.1 rfl ?_
        refine wp_bipush (v := nI 9) (atd dX12_guards 22 rfl) (by decide) ?_
        refine wp_iload_n (atd dX12_guards 23 rfl) rfl ?_
        refine wp_imulN (atd dX12_guards 24 rfl) ?_
        refine wp_iload_n (atd dX12_guards 25 rfl) rfl ?_
        refine wp_iaddN (atd dX12_guards 26 rfl) ?_
        refine wp_zaldN (atd dX12_guards 27 rfl) hM.a15 (show _ < 81 from by omega) (Nat.le_of_ble_eq_true rfl) ?_
        rw [hC1 h r ha hb2]
        refine wp_ifB_eq (tgt := 54) (atd dX12_guards 28 rfl) (by decide) (fun c_47 => ?_) (fun c_47 => ?_)
        ·
          refine wp_iconst (v := nI 0) (atd dX12_guards 31 rfl) (by decide) ?_
          refine wp_ireti (atd dX12_guards 32 rfl) rfl ?_
          exact ⟨by rw [atS_t hn hs hs0, atP_t hn ha, atP_t hn hb2, bI_f c_47], B1, hM, hfb1⟩
        ·
          refine wp_iconst (v := nI 1) (atd dX12_guards 29 rfl) (by decide) ?_
          refine wp_goto (tgt := 55) (atd dX12_guards 30 rfl) (by decide) ?_
          refine wp_ireti (atd dX12_guards 32 rfl) rfl ?_
          exact ⟨by rw [atS_t hn hs hs0, atP_t hn ha, atP_t hn hb2, bI_t c_47], B1, hM, hfb1⟩
      ·
        refine wp_iconst (v := -1) (atd dX12_guards 15 rfl) (by decide) ?_
        refine wp_ireti (atd dX12_guards 16 rfl) rfl ?_
        exact ⟨by rw [atS_t hn hs hs0, atP_t hn ha, atP_f c_26], B, hM, frm.rf⟩
theorem lX12_guard1 {G : Gx} {d : Nat} {Q : Option Value → Hp → Prop} {σ : Hp} {m n : Nat} {α : Nat → Int32} {B : Nat → Nat → Int32} {C : Cpl} {e1 : Value} {σ0 : Hp} (hM : MA σ0 σ m α B) (hp : α 2 = nI n) (hn : n ≤ 9) (hC : CPA B C n) {h v : Nat} (hh : h < n) (hk : ∀ e4 : Value, Wp G mX12_guard d 73 [.ref m, e1, .int (nI v), .int (nI h), e4] [] σ 0 0 Q) : ∀ (k : Nat) (r c : Nat), r + k = n → fl (ncR (cW C h)) k r c = v → Wp G mX12_guard d 35 [.ref m, e1, .int (nI c), .int (nI h), .int (nI r)] [] σ 0 0 Q := by
  intro k
  induction k with
  | zero =>
    intro r c hr hv
    refine wp_iload (atd dX12_guard 22 rfl) rfl ?_
    refine wp_aload_n (atd dX12_guard 23 rfl) rfl rfl ?_
    refine wp_get fX12_78 (atd dX12_guard 24 rfl) hM.1.1 (congrArg (fun z => some (Value.int z)) hp) ?_
    refine wp_icmpN_ge (tgt := 73) (atd dX12_guard 25 rfl) (by decide) (by omega) (by omega) (fun c_41 => ?_) (fun c_41 => ?_)
    ·
      have e : c = v := hv
      subst e
      exact hk _
    · exfalso; omega
  | succ k ih =>
    intro r c hr hv
    refine wp_iload (atd dX12_guard 22 rfl) rfl ?_
    refine wp_aload_n (atd dX12_guard 23 rfl) rfl rfl ?_
    refine wp_get fX12_78 (atd dX12_guard 24 rfl) hM.1.1 (congrArg (fun z => some (Value.int z)) hp) ?_
    refine wp_icmpN_ge (tgt := 73) (atd dX12_guard 25 rfl) (by decide) (by omega) (by omega) (fun c_41 => ?_) (fun c_41 => ?_)
    · exfalso; omega
    ·
      refine wp_iload_n (atd dX12_guard 26 rfl) rfl ?_
      refine wp_aload_n (atd dX12_guard 27 rfl) rfl rfl ?_
      refine wp_get fX12_60 (atd dX12_guard 28 rfl) hM.1.1 rfl ?_
      refine wp_bipush (v := nI 9) (atd dX12_guard 29 rfl) (by decide) ?_
      refine wp_iload_n (atd dX12_guard 30 rfl) rfl ?_
      refine wp_imulN (atd dX12_guard 31 rfl) ?_
      refine wp_iload (atd dX12_guard 32 rfl) rfl ?_
      refine wp_iaddN (atd dX12_guard 33 rfl) ?_
      refine wp_zaldN (atd dX12_guard 34 rfl) hM.a15 (show _ < 81 from by omega) (Nat.le_of_ble_eq_true rfl) ?_
      rw [hC h r hh (by omega)]
      refine wp_ifB_eq (tgt := 64) (atd dX12_guard 35 rfl) (by decide) (fun c_57 => ?_) (fun c_57 => ?_)
      ·
        refine wp_iconst (v := nI 0) (atd dX12_guard 38 rfl) (by decide) ?_
        refine wp_iaddN (atd dX12_guard 39 rfl) ?_
        refine wp_istore_n (atd dX12_guard 40 rfl) (Nat.le_of_ble_eq_true rfl) ?_
        refine wp_iincN (c := 1) (atd dX12_guard 41 rfl) rfl ?_
        refine wp_goto (tgt := 35) (atd dX12_guard 42 rfl) (by decide) ?_
        exact ih (r + 1) (c + 0) (by omega) (by rw [← hv]; simp [fl, ncR, cW, c_57])
      ·
        refine wp_iconst (v := nI 1) (atd dX12_guard 36 rfl) (by decide) ?_
        refine wp_goto (tgt := 65) (atd dX12_guard 37 rfl) (by decide) ?_
        refine wp_iaddN (atd dX12_guard 39 rfl) ?_
        refine wp_istore_n (atd dX12_guard 40 rfl) (Nat.le_of_ble_eq_true rfl) ?_
        refine wp_iincN (c := 1) (atd dX12_guard 41 rfl) rfl ?_
        refine wp_goto (tgt := 35) (atd dX12_guard 42 rfl) (by decide) ?_
        exact ih (r + 1) (c + 1) (by omega) (by rw [← hv]; simp [fl, ncR, cW, c_57])
theorem lX12_guard2 {G : Gx} {d : Nat} {σ : Hp} {m n : Nat} {α : Nat → Int32} {B : Nat → Nat → Int32} {C : Cpl} {e1 : Value} {σ0 : Hp} (hM : MA σ0 σ m α B) (hp : α 2 = nI n) (hn : n ≤ 9) (hC : CPA B C n) {v : Nat} : ∀ (k h c : Nat) (e4 : Value), h + k = n → fl (fun i a => fl (ncR (cW C i)) n 0 a) k h c = v → Wp G mX12_guard d 24 [.ref m, e1, .int (nI c), .int (nI h), e4] [] σ 0 0 (pI fun r s => r = nI v ∧ s = σ) := by
  intro k
  induction k with
  | zero =>
    intro h c e4 hh hv
    refine wp_iload_n (atd dX12_guard 16 rfl) rfl ?_
    refine wp_aload_n (atd dX12_guard 17 rfl) rfl rfl ?_
    refine wp_get fX12_78 (atd dX12_guard 18 rfl) hM.1.1 (congrArg (fun z => some (Value.int z)) hp) ?_
    refine wp_icmpN_ge (tgt := 79) (atd dX12_guard 19 rfl) (by decide) (by omega) (by omega) (fun c_29 => ?_) (fun c_29 => ?_)
    ·
      refine wp_iload_n (atd dX12_guard 45 rfl) rfl ?_
      refine wp_ireti (atd dX12_guard 46 rfl) rfl ?_
      exact ⟨by rw [← hv]; rfl, rfl⟩
    · exfalso; omega
  | succ k ih =>
    intro h c e4 hh hv
    refine wp_iload_n (atd dX12_guard 16 rfl) rfl ?_
    refine wp_aload_n (atd dX12_guard 17 rfl) rfl rfl ?_
    refine wp_get fX12_78 (atd dX12_guard 18 rfl) hM.1.1 (congrArg (fun z => some (Value.int z)) hp) ?_
    refine wp_icmpN_ge (tgt := 79) (atd dX12_guard 19 rfl) (by decide) (by omega) (by omega) (fun c_29 => ?_) (fun c_29 => ?_)
    · exfalso; omega
    ·
      refine wp_iconst (v := nI 0) (atd dX12_guard 20 rfl) (by decide) ?_
      refine wp_istore (atd dX12_guard 21 rfl) (Nat.le_of_ble_eq_true rfl) ?_
      refine lX12_guard1 (v := fl (ncR (cW C h)) n 0 c) hM hp hn hC (h := h) (by omega) (fun e4 => ?_) n 0 c (by omega) rfl
      refine wp_iincN (c := 1) (atd dX12_guard 43 rfl) rfl ?_
      refine wp_goto (tgt := 24) (atd dX12_guard 44 rfl) (by decide) ?_
      exact ih (h + 1) _ _ (by omega) (by rw [← hv]; rfl)
theorem eX12_guard {G : Gx} {d : Nat} {σ : Hp} (hd : 3 ≤ d) {m n : Nat} {α : Nat → Int32} {B : Nat → Nat → Int32} {nb : Nat → Nat} (hM : MA σ σ m α B) (hp : α 2 = nI n) (hn : n ≤ 9) (hb : ∀ p, p < n → B 1 p = nI (nb p)) (hw : ∀ p, nb p < 512) {x : Int32} : Cl G mX12_guard d [.ref m, .int x] σ 0 0 (pI fun r s => r = atS x n (fun z => nI (nc (cW (gdB nb n z)) n n)) (-1) ∧ ∃ B1, MA σ s m (upd α 0 (nI 0)) B1 ∧ frm [15] B B1) := by
  obtain ⟨d0, hdd⟩ : ∃ e, d = e + 1 := ⟨d - 1, by omega⟩
  refine cl_of (by decide) (by simp [Value.category]) (Nat.le_of_ble_eq_true rfl) ?_
  show Wp G mX12_guard d 0 [.ref m, .int x, .double 0, .double 0, .double 0] [] σ 0 0 _
  refine wp_aload_n (atd dX12_guard 0 rfl) rfl rfl ?_
  refine wp_iconst (v := nI 0) (atd dX12_guard 1 rfl) (by decide) ?_
  refine wp_putM fX12_75 (atd dX12_guard 2 rfl) hM rfl (fun σ hM => ?_)
  refine wp_aload_n (atd dX12_guard 3 rfl) rfl rfl ?_
  refine wp_iload_n (atd dX12_guard 4 rfl) rfl ?_
  refine wp_cVi hdd [_] (atd dX12_guard 5 rfl) iX12_isSet lX12_323 rfl rfl (Nat.le_of_ble_eq_true rfl) hM.1.1 rfl (eX12_isSet (by omega) hM.self hp hn) (fun r_7 s_7 h_7 => ?_)
  obtain ⟨rfl, rfl⟩ := h_7
  refine wp_ifB_ne (tgt := 15) (atd dX12_guard 6 rfl) (by decide) (fun c_10 => ?_) (fun c_10 => ?_)
  ·
    obtain ⟨s, hs, hs0, rfl⟩ := isS_of hn c_10
    have hs9 : s < 512 := Nat.lt_of_lt_of_le hs (pow9 hn)
    refine wp_aload_n (atd dX12_guard 9 rfl) rfl rfl ?_
    refine wp_iload_n (atd dX12_guard 10 rfl) rfl ?_
    refine wp_cVv hdd [_] (atd dX12_guard 11 rfl) iX12_layGuard lX12_326 rfl rfl (Nat.le_of_ble_eq_true rfl) hM.1.1 rfl (eX12_layGuard (by omega) hM.self hp hn hb hw hs9) (fun s_17 h_17 => ?_)
    obtain ⟨B1, hM1, hfb1, hC1⟩ := h_17
    have hM := hM.trans hM1
    refine wp_iconst (v := nI 0) (atd dX12_guard 12 rfl) (by decide) ?_
    refine wp_istore_n (atd dX12_guard 13 rfl) (Nat.le_of_ble_eq_true rfl) ?_
    refine wp_iconst (v := nI 0) (atd dX12_guard 14 rfl) (by decide) ?_
    refine wp_istore_n (atd dX12_guard 15 rfl) (Nat.le_of_ble_eq_true rfl) ?_
    refine wp_post (lX12_guard2 (v := nc (cW (gdB nb n s)) n n) hM hp hn hC1 n 0 0 _ (by omega) rfl) ?_
    rintro v s2 ⟨r, rfl, rfl, rfl⟩
    exact ⟨_, rfl, by rw [atS_t hn hs hs0], B1, hM, hfb1⟩
  ·
    refine wp_iconst (v := -1) (atd dX12_guard 7 rfl) (by decide) ?_
    refine wp_ireti (atd dX12_guard 8 rfl) rfl ?_
    exact ⟨by rw [atS_f c_10], B, hM, frm.rf⟩
