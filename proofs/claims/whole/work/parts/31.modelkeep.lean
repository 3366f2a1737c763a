/-! what is kept -/
def rcd (α : Nat → Int32) (B : Nat → Nat → Int32) (j : Nat) : Int32 := if j = 0 then α 2 else if j < 10 then B 1 (j - 1) else α (36 + j)
def REC (rc old : Nat → Int32) (a k : Nat) (B : Nat → Nat → Int32) : Prop := (∀ j, j < k → B 18 (20 * a + j) = rc j) ∧ ∀ x, x < 20 * a → B 18 x = old x
theorem rec_put {σ0 σ : Hp} {m a k x : Nat} {α rc old : Nat → Int32} {B0 B : Nat → Nat → Int32} {v : Int32} (hM : MA σ0 σ m α (va_up B 18 (upd (B 18) x v))) (hf : frm [18] B0 B) (hK : REC rc old a k B) (hx : x = 20 * a + k) (hv : v = rc k) : ∃ B1, MA σ0 σ m α B1 ∧ frm [18] B0 B1 ∧ REC rc old a (k + 1) B1 := by
  refine ⟨_, hM, hf.va (by decide), fun j hj => ?_, fun y hy => ?_⟩
  · show upd (B 18) x v (20 * a + j) = _
    by_cases e : j = k
    · subst e; subst hx; rw [hv]; exact if_pos rfl
    · rw [show upd (B 18) x v (20 * a + j) = B 18 (20 * a + j) from if_neg (by omega)]
      exact hK.1 j (by omega)
  · show upd (B 18) x v y = _
    rw [show upd (B 18) x v y = B 18 y from if_neg (by omega)]
    exact hK.2 y hy
theorem lX12_keep1 {G : Gx} {d : Nat} {σ0 : Hp} {m a on : Nat} {α rc old : Nat → Int32} {B0 : Nat → Nat → Int32} (ha : a ≤ 11) (h57 : α 57 = nI a) (h46 : α 46 = nI on) (hon : on ≤ 1) (hrc : ∀ j, j < 19 → rc j = rcd α B0 j) {σ : Hp} {B : Nat → Nat → Int32} {e2 : Value} (hM : MA σ0 σ m α B) (hfb : frm [18] B0 B) (hK : REC rc old a 10 B) : Wp G mX12_keep d 98 [.ref m, .int (nI (20 * a)), e2] [] σ 0 0 (pV fun s => ∃ B1, MA σ0 s m (upd α 57 (nI (a + 1))) B1 ∧ frm [18] B0 B1 ∧ REC rc old a 19 B1) := by
  refine wp_aload_n (atd dX12_keep 57 rfl) rfl rfl ?_
  refine wp_get fX12_69 (atd dX12_keep 58 rfl) hM.1.1 rfl ?_
  refine wp_iload_n (atd dX12_keep 59 rfl) rfl ?_
  refine wp_bipush (v := nI 10) (atd dX12_keep 60 rfl) (by decide) ?_
  refine wp_iaddN (atd dX12_keep 61 rfl) ?_
  refine wp_aload_n (atd dX12_keep 62 rfl) rfl rfl ?_
  refine wp_get fX12_165 (atd dX12_keep 63 rfl) hM.1.1 (congrArg (fun z => some (Value.int z)) h46) ?_
  refine wp_ifN_eq (tgt := 117) (atd dX12_keep 64 rfl) (by decide) (by omega) (fun c_110 => ?_) (fun c_110 => ?_)
  ·
    refine wp_iconst (v := nI 0) (atd dX12_keep 67 rfl) (by decide) ?_
    refine wp_iastM (j := 18) (atd dX12_keep 68 rfl) hM (by decide) (by decide) rfl (show _ < 240 from by omega) (fun σ hM => ?_)
    obtain ⟨B, hM, hfb, hK⟩ := rec_put (k := 10) hM hfb hK (by omega) (by rw [hrc 10 (by decide)]; show _ = α 46; rw [h46]; exact congrArg nI (by omega))
    refine wp_aload_n (atd dX12_keep 69 rfl) rfl rfl ?_
    refine wp_get fX12_69 (atd dX12_keep 70 rfl) hM.1.1 rfl ?_
    refine wp_iload_n (atd dX12_keep 71 rfl) rfl ?_
    refine wp_bipush (v := nI 11) (atd dX12_keep 72 rfl) (by decide) ?_
    refine wp_iaddN (atd dX12_keep 73 rfl) ?_
    refine wp_aload_n (atd dX12_keep 74 rfl) rfl rfl ?_
    refine wp_get fX12_368 (atd dX12_keep 75 rfl) hM.1.1 rfl ?_
    refine wp_iastM (j := 18) (atd dX12_keep 76 rfl) hM (by decide) (by decide) rfl (show _ < 240 from by omega) (fun σ hM => ?_)
    obtain ⟨B, hM, hfb, hK⟩ := rec_put (k := 11) hM hfb hK (by omega) (by rw [hrc 11 (by decide)]; rfl)
    refine wp_aload_n (atd dX12_keep 77 rfl) rfl rfl ?_
    refine wp_get fX12_69 (atd dX12_keep 78 rfl) hM.1.1 rfl ?_
    refine wp_iload_n (atd dX12_keep 79 rfl) rfl ?_
    refine wp_bipush (v := nI 12) (atd dX12_keep 80 rfl) (by decide) ?_
    refine wp_iaddN (atd dX12_keep 81 rfl) ?_
    refine wp_aload_n (atd dX12_keep 82 rfl) rfl rfl ?_
    refine wp_get fX12_359 (atd dX12_keep 83 rfl) hM.1.1 rfl ?_
    refine wp_iastM (j := 18) (atd dX12_keep 84 rfl) hM (by decide) (by decide) rfl (show _ < 240 from by omega) (fun σ hM => ?_)
    obtain ⟨B, hM, hfb, hK⟩ := rec_put (k := 12) hM hfb hK (by omega) (by rw [hrc 12 (by decide)]; rfl)
    refine wp_aload_n (atd dX12_keep 85 rfl) rfl rfl ?_
    refine wp_get fX12_69 (atd dX12_keep 86 rfl) hM.1.1 rfl ?_
    refine wp_iload_n (atd dX12_keep 87 rfl) rfl ?_
    refine wp_bipush (v := nI 13) (atd dX12_keep 88 rfl) (by decide) ?_
    refine wp_iaddN (atd dX12_keep 89 rfl) ?_
    refine wp_aload_n (atd dX12_keep 90 rfl) rfl rfl ?_
    refine wp_get fX12_356 (atd dX12_keep 91 rfl) hM.1.1 rfl ?_
    refine wp_iastM (j := 18) (atd dX12_keep 92 rfl) hM (by decide) (by decide) rfl (show _ < 240 from by omega) (fun σ hM => ?_)
    obtain ⟨B, hM, hfb, hK⟩ := rec_put (k := 13) hM hfb hK (by omega) (by rw [hrc 13 (by decide)]; rfl)
    refine wp_aload_n (atd dX12_keep 93 rfl) rfl rfl ?_
    refine wp_get fX12_69 (atd dX12_keep 94 rfl) hM.1.1 rfl ?_
    refine wp_iload_n (atd dX12_keep 95 rfl) rfl ?_
    refine wp_bipush (v := nI 14) (atd dX12_keep 96 rfl) (by decide) ?_
    refine wp_iaddN (atd dX12_keep 97 rfl) ?_
    refine wp_aload_n (atd dX12_keep 98 rfl) rfl rfl ?_
    refine wp_get fX12_362 (atd dX12_keep 99 rfl) hM.1.1 rfl ?_
    refine wp_iastM (j := 18) (atd dX12_keep 100 rfl) hM (by decide) (by decide) rfl (show _ < 240 from by omega) (fun σ hM => ?_)
    obtain ⟨B, hM, hfb, hK⟩ := rec_put (k := 14) hM hfb hK (by omega) (by rw [hrc 14 (by decide)]; rfl)
    refine wp_aload_n (atd dX12_keep 101 rfl) rfl rfl ?_
    refine wp_get fX12_69 (atd dX12_keep 102 rfl) hM.1.1 rfl ?_
    refine wp_iload_n (atd dX12_keep 103 rfl) rfl ?_
    refine wp_bipush (v := nI 15) (atd dX12_keep 104 rfl) (by decide) ?_
    refine wp_iaddN (atd dX12_keep 105 rfl) ?_
    refine wp_aload_n (atd dX12_keep 106 rfl) rfl rfl ?_
    refine wp_get fX12_365 (atd dX12_keep 107 rfl) hM.1.1 rfl ?_
    refine wp_iastM (j := 18) (atd dX12_keep 108 rfl) hM (by decide) (by decide) rfl (show _ < 240 from by omega) (fun σ hM => ?_)
    obtain ⟨B, hM, hfb, hK⟩ := rec_put (k := 15) hM hfb hK (by omega) (by rw [hrc 15 (by decide)]; rfl)
    refine wp_aload_n (atd dX12_keep 109 rfl) rfl rfl ?_
    refine wp_get fX12_69 (atd dX12_keep 110 rfl) hM.1.1 rfl ?_
    refine wp_iload_n (atd dX12_keep 111 rfl) rfl ?_
    refine wp_bipush (v := nI 16) (atd dX12_keep 112 rfl) (by decide) ?_
    refine wp_iaddN (atd dX12_keep 113 rfl) ?_
    refine wp_aload_n (atd dX12_keep 114 rfl) rfl rfl ?_
    refine wp_get fX12_353 (atd dX12_keep 115 rfl) hM.1.1 rfl ?_
    refine wp_iastM (j := 18) (atd dX12_keep 116 rfl) hM (by decide) (by decide) rfl (show _ < 240 from by omega) (fun σ hM => ?_)
    obtain ⟨B, hM, hfb, hK⟩ := rec_put (k := 16) hM hfb hK (by omega) (by rw [hrc 16 (by decide)]; rfl)
    refine wp_aload_n (atd dX12_keep 117 rfl) rfl rfl ?_
    refine wp_get fX12_69 (atd dX12_keep 118 rfl) hM.1.1 rfl ?_
    refine wp_iload_n (atd dX12_keep 119 rfl) rfl ?_
    refine wp_bipush (v := nI 17) (atd dX12_keep 120 rfl) (by decide) ?_
    refine wp_iaddN (atd dX12_keep 121 rfl) ?_
    refine wp_aload_n (atd dX12_keep 122 rfl) rfl rfl ?_
    refine wp_get fX12_374 (atd dX12_keep 123 rfl) hM.1.1 rfl ?_
    refine wp_iastM (j := 18) (atd dX12_keep 124 rfl) hM (by decide) (by decide) rfl (show _ < 240 from by omega) (fun σ hM => ?_)
    obtain ⟨B, hM, hfb, hK⟩ := rec_put (k := 17) hM hfb hK (by omega) (by rw [hrc 17 (by decide)]; rfl)
    refine wp_aload_n (atd dX12_keep 125 rfl) rfl rfl ?_
    refine wp_get fX12_69 (atd dX12_keep 126 rfl) hM.1.1 rfl ?_
    refine wp_iload_n (atd dX12_keep 127 rfl) rfl ?_
    refine wp_bipush (v := nI 18) (atd dX12_keep 128 rfl) (by decide) ?_
    refine wp_iaddN (atd dX12_keep 129 rfl) ?_
    refine wp_aload_n (atd dX12_keep 130 rfl) rfl rfl ?_
    refine wp_get fX12_377 (atd dX12_keep 131 rfl) hM.1.1 rfl ?_
    refine wp_iastM (j := 18) (atd dX12_keep 132 rfl) hM (by decide) (by decide) rfl (show _ < 240 from by omega) (fun σ hM => ?_)
    obtain ⟨B, hM, hfb, hK⟩ := rec_put (k := 18) hM hfb hK (by omega) (by rw [hrc 18 (by decide)]; rfl)
    refine wp_aload_n (atd dX12_keep 133 rfl) rfl rfl ?_
    refine wp_dup (atd dX12_keep 134 rfl) rfl ?_
    refine wp_get fX12_162 (atd dX12_keep 135 rfl) hM.1.1 (congrArg (fun z => some (Value.int z)) h57) ?_
    refine wp_iconst (v := nI 1) (atd dX12_keep 136 rfl) (by decide) ?_
    refine wp_iaddN (atd dX12_keep 137 rfl) ?_
    refine wp_putM fX12_162 (atd dX12_keep 138 rfl) hM rfl (fun σ hM => ?_)
    refine wp_vretv (atd dX12_keep 139 rfl) rfl ?_
    exact ⟨B, hM, hfb, hK⟩
  ·
    refine wp_iconst (v := nI 1) (atd dX12_keep 65 rfl) (by decide) ?_
    refine wp_goto (tgt := 118) (atd dX12_keep 66 rfl) (by decide) ?_
    refine wp_iastM (j := 18) (atd dX12_keep 68 rfl) hM (by decide) (by decide) rfl (show _ < 240 from by omega) (fun σ hM => ?_)
    obtain ⟨B, hM, hfb, hK⟩ := rec_put (k := 10) hM hfb hK (by omega) (by rw [hrc 10 (by decide)]; show _ = α 46; rw [h46]; exact congrArg nI (by omega))
    refine wp_aload_n (atd dX12_keep 69 rfl) rfl rfl ?_
    refine wp_get fX12_69 (atd dX12_keep 70 rfl) hM.1.1 rfl ?_
    refine wp_iload_n (atd dX12_keep 71 rfl) rfl ?_
    refine wp_bipush (v := nI 11) (atd dX12_keep 72 rfl) (by decide) ?_
    refine wp_iaddN (atd dX12_keep 73 rfl) ?_
    refine wp_aload_n (atd dX12_keep 74 rfl) rfl rfl ?_
    refine wp_get fX12_368 (atd dX12_keep 75 rfl) hM.1.1 rfl ?_
    refine wp_iastM (j := 18) (atd dX12_keep 76 rfl) hM (by decide) (by decide) rfl (show _ < 240 from by omega) (fun σ hM => ?_)
    obtain ⟨B, hM, hfb, hK⟩ := rec_put (k := 11) hM hfb hK (by omega) (by rw [hrc 11 (by decide)]; rfl)
    refine wp_aload_n (atd dX12_keep 77 rfl) rfl rfl ?_
    refine wp_get fX12_69 (atd dX12_keep 78 rfl) hM.1.1 rfl ?_
    refine wp_iload_n (atd dX12_keep 79 rfl) rfl ?_
    refine wp_bipush (v := nI 12) (atd dX12_keep 80 rfl) (by decide) ?_
    refine wp_iaddN (atd dX12_keep 81 rfl) ?_
    refine wp_aload_n (atd dX12_keep 82 rfl) rfl rfl ?_
    refine wp_get fX12_359 (atd dX12_keep 83 rfl) hM.1.1 rfl ?_
    refine wp_iastM (j := 18) (atd dX12_keep 84 rfl) hM (by decide) (by decide) rfl (show _ < 240 from by omega) (fun σ hM => ?_)
    obtain ⟨B, hM, hfb, hK⟩ := rec_put (k := 12) hM hfb hK (by omega) (by rw [hrc 12 (by decide)]; rfl)
    refine wp_aload_n (atd dX12_keep 85 rfl) rfl rfl ?_
    refine wp_get fX12_69 (atd dX12_keep 86 rfl) hM.1.1 rfl ?_
    refine wp_iload_n (atd dX12_keep 87 rfl) rfl ?_
    refine wp_bipush (v := nI 13) (atd dX12_keep 88 rfl) (by decide) ?_
    refine wp_iaddN (atd dX12_keep 89 rfl) ?_
    refine wp_aload_n (atd dX12_keep 90 rfl) rfl rfl ?_
    refine wp_get fX12_356 (atd dX12_keep 91 rfl) hM.1.1 rfl ?_
    refine wp_iastM (j := 18) (atd dX12_keep 92 rfl) hM (by decide) (by decide) rfl (show _ < 240 from by omega) (fun σ hM => ?_)
    obtain ⟨B, hM, hfb, hK⟩ := rec_put (k := 13) hM hfb hK (by omega) (by rw [hrc 13 (by decide)]; rfl)
    refine wp_aload_n (atd dX12_keep 93 rfl) rfl rfl ?_
    refine wp_get fX12_69 (atd dX12_keep 94 rfl) hM.1.1 rfl ?_
    refine wp_iload_n (atd dX12_keep 95 rfl) rfl ?_
    refine wp_bipush (v := nI 14) (atd dX12_keep 96 rfl) (by decide) ?_
    refine wp_iaddN (atd dX12_keep 97 rfl) ?_
    refine wp_aload_n (atd dX12_keep 98 rfl) rfl rfl ?_
    refine wp_get fX12_362 (atd dX12_keep 99 rfl) hM.1.1 rfl ?_
    refine wp_iastM (j := 18) (atd dX12_keep 100 rfl) hM (by decide) (by decide) rfl (show _ < 240 from by omega) (fun σ hM => ?_)
    obtain ⟨B, hM, hfb, hK⟩ := rec_put (k := 14) hM hfb hK (by omega) (by rw [hrc 14 (by decide)]; rfl)
    refine wp_aload_n (atd dX12_keep 101 rfl) rfl rfl ?_
    refine wp_get fX12_69 (atd dX12_keep 102 rfl) hM.1.1 rfl ?_
    refine wp_iload_n (atd dX12_keep 103 rfl) rfl ?_
    refine wp_bipush (v := nI 15) (atd dX12_keep 104 rfl) (by decide) ?_
    refine wp_iaddN (atd dX12_keep 105 rfl) ?_
    refine wp_aload_n (atd dX12_keep 106 rfl) rfl rfl ?_
    refine wp_get fX12_365 (atd dX12_keep 107 rfl) hM.1.1 rfl ?_
    refine wp_iastM (j := 18) (atd dX12_keep 108 rfl) hM (by decide) (by decide) rfl (show _ < 240 from by omega) (fun σ hM => ?_)
    obtain ⟨B, hM, hfb, hK⟩ := rec_put (k := 15) hM hfb hK (by omega) (by rw [hrc 15 (by decide)]; rfl)
    refine wp_aload_n (atd dX12_keep 109 rfl) rfl rfl ?_
    refine wp_get fX12_69 (atd dX12_keep 110 rfl) hM.1.1 rfl ?_
    refine wp_iload_n (atd dX12_keep 111 rfl) rfl ?_
    refine wp_bipush (v := nI 16) (atd dX12_keep 112 rfl) (by decide) ?_
    refine wp_iaddN (atd dX12_keep 113 rfl) ?_
    refine wp_aload_n (atd dX12_keep 114 rfl) rfl rfl ?_
    refine wp_get fX12_353 (atd dX12_keep 115 rfl) hM.1.1 rfl ?_
    refine wp_iastM (j := 18) (atd dX12_keep 116 rfl) hM (by decide) (by decide) rfl (show _ < 240 from by omega) (fun σ hM => ?_)
    obtain ⟨B, hM, hfb, hK⟩ := rec_put (k := 16) hM hfb hK (by omega) (by rw [hrc 16 (by decide)]; rfl)
    refine wp_aload_n (atd dX12_keep 117 rfl) rfl rfl ?_
    refine wp_get fX12_69 (atd dX12_keep 118 rfl) hM.1.1 rfl ?_
    refine wp_iload_n (atd dX12_keep 119 rfl) rfl ?_
    refine wp_bipush (v := nI 17) (atd dX12_keep 120 rfl) (by decide) ?_
    refine wp_iaddN (atd dX12_keep 121 rfl) ?_
    refine wp_aload_n (atd dX12_keep 122 rfl) rfl rfl ?_
    refine wp_get fX12_374 (atd dX12_keep 123 rfl) hM.1.1 rfl ?_
    refine wp_iastM (j := 18) (atd dX12_keep 124 rfl) hM (by decide) (by decide) rfl (show _ < 240 from by omega) (fun σ hM => ?_)
    obtain ⟨B, hM, hfb, hK⟩ := rec_put (k := 17) hM hfb hK (by omega) (by rw [hrc 17 (by decide)]; rfl)
    refine wp_aload_n (atd dX12_keep 125 rfl) rfl rfl ?_
    refine wp_get fX12_69 (atd dX12_keep 126 rfl) hM.1.1 rfl ?_
    refine wp_iload_n (atd dX12_keep 127 rfl) rfl ?_
    refine wp_bipush (v := nI 18) (atd dX12_keep 128 rfl) (by decide) ?_
    refine wp_iaddN (atd dX12_keep 129 rfl) ?_
    refine wp_aload_n (atd dX12_keep 130 rfl) rfl rfl ?_
    refine wp_get fX12_377 (atd dX12_keep 131 rfl) hM.1.1 rfl ?_
    refine wp_iastM (j := 18) (atd dX12_keep 132 rfl) hM (by decide) (by decide) rfl (show _ < 240 from by omega) (fun σ hM => ?_)
    obtain ⟨B, hM, hfb, hK⟩ := rec_put (k := 18) hM hfb hK (by omega) (by rw [hrc 18 (by decide)]; rfl)
    refine wp_aload_n (atd dX12_keep 133 rfl) rfl rfl ?_
    refine wp_dup (atd dX12_keep 134 rfl) rfl ?_
    refine wp_get fX12_162 (atd dX12_keep 135 rfl) hM.1.1 (congrArg (fun z => some (Value.int z)) h57) ?_
    refine wp_iconst (v := nI 1) (atd dX12_keep 136 rfl) (by decide) ?_
    refine wp_iaddN (atd dX12_keep 137 rfl) ?_
    refine wp_putM fX12_162 (atd dX12_keep 138 rfl) hM rfl (fun σ hM => ?_)
    refine wp_vretv (atd dX12_keep 139 rfl) rfl ?_
    exact ⟨B, hM, hfb, hK⟩
theorem lX12_keep2 {G : Gx} {d : Nat} {σ0 : Hp} {m a on : Nat} {α rc old : Nat → Int32} {B0 : Nat → Nat → Int32} (ha : a ≤ 11) (h57 : α 57 = nI a) (h46 : α 46 = nI on) (hon : on ≤ 1) (hrc : ∀ j, j < 19 → rc j = rcd α B0 j) : ∀ (k : Nat) (σ : Hp) (B : Nat → Nat → Int32) (p : Nat), MA σ0 σ m α B → frm [18] B0 B → REC rc old a (p + 1) B → p + k = 9 → Wp G mX12_keep d 70 [.ref m, .int (nI (20 * a)), .int (nI p)] [] σ 0 0 (pV fun s => ∃ B1, MA σ0 s m (upd α 57 (nI (a + 1))) B1 ∧ frm [18] B0 B1 ∧ REC rc old a 19 B1) := by
  intro k
  induction k with
  | zero =>
    intro σ B p hM hfb hK hpk
    have e : p = 9 := by omega
    subst e
    refine wp_iload_n (atd dX12_keep 40 rfl) rfl ?_
    refine wp_bipush (v := nI 9) (atd dX12_keep 41 rfl) (by decide) ?_
    refine wp_icmpN_ge (tgt := 98) (atd dX12_keep 42 rfl) (by decide) (by omega) (by omega) (fun c_73 => ?_) (fun c_73 => ?_)
    ·
      exact lX12_keep1 ha h57 h46 hon hrc hM hfb hK
    · exfalso; omega
  | succ k ih =>
    intro σ B p hM hfb hK hpk
    have hrp := hrc (p + 1) (by omega)
    have hnr : B 1 p = rc (p + 1) := by rw [hfb 1 (by decide), hrp]; unfold rcd; rw [if_neg (by omega), if_pos (by omega)]; rfl
    refine wp_iload_n (atd dX12_keep 40 rfl) rfl ?_
    refine wp_bipush (v := nI 9) (atd dX12_keep 41 rfl) (by decide) ?_
    refine wp_icmpN_ge (tgt := 98) (atd dX12_keep 42 rfl) (by decide) (by omega) (by omega) (fun c_73 => ?_) (fun c_73 => ?_)
    · exfalso; omega
    ·
      refine wp_aload_n (atd dX12_keep 43 rfl) rfl rfl ?_
      refine wp_get fX12_69 (atd dX12_keep 44 rfl) hM.1.1 rfl ?_
      refine wp_iload_n (atd dX12_keep 45 rfl) rfl ?_
      refine wp_iconst (v := nI 1) (atd dX12_keep 46 rfl) (by decide) ?_
      refine wp_iaddN (atd dX12_keep 47 rfl) ?_
      refine wp_iload_n (atd dX12_keep 48 rfl) rfl ?_
      refine wp_iaddN (atd dX12_keep 49 rfl) ?_
      refine wp_aload_n (atd dX12_keep 50 rfl) rfl rfl ?_
      refine wp_get fX12_7 (atd dX12_keep 51 rfl) hM.1.1 rfl ?_
      refine wp_iload_n (atd dX12_keep 52 rfl) rfl ?_
      refine wp_ialdN (atd dX12_keep 53 rfl) hM.a1 (show _ < 9 from by omega) (Nat.le_of_ble_eq_true rfl) ?_
      refine wp_iastM (j := 18) (atd dX12_keep 54 rfl) hM (by decide) (by decide) rfl (show _ < 240 from by omega) (fun σ hM => ?_)
      obtain ⟨B, hM, hfb, hK⟩ := rec_put (k := p + 1) hM hfb hK (by omega) hnr
      refine wp_iincN (c := 1) (atd dX12_keep 55 rfl) rfl ?_
      refine wp_goto (tgt := 70) (atd dX12_keep 56 rfl) (by decide) ?_
      exact ih _ B (p + 1) hM hfb hK (by omega)
theorem lX12_keep3 {G : Gx} {d : Nat} {σ0 : Hp} {m a on : Nat} {α rc old : Nat → Int32} {B0 : Nat → Nat → Int32} (ha : a ≤ 11) (h57 : α 57 = nI a) (h46 : α 46 = nI on) (hon : on ≤ 1) (hrc : ∀ j, j < 19 → rc j = rcd α B0 j) {σ : Hp} {B : Nat → Nat → Int32} {e1 e2 : Value} (hM : MA σ0 σ m α B) (hfb : frm [18] B0 B) (hK : ∀ x, x < 20 * a → B 18 x = old x) : Wp G mX12_keep d 50 [.ref m, e1, e2] [] σ 0 0 (pV fun s => ∃ B1, MA σ0 s m (upd α 57 (nI (a + 1))) B1 ∧ frm [18] B0 B1 ∧ REC rc old a 19 B1) := by
  refine wp_bipush (v := nI 20) (atd dX12_keep 27 rfl) (by decide) ?_
  refine wp_aload_n (atd dX12_keep 28 rfl) rfl rfl ?_
  refine wp_get fX12_162 (atd dX12_keep 29 rfl) hM.1.1 (congrArg (fun z => some (Value.int z)) h57) ?_
  refine wp_imulN (atd dX12_keep 30 rfl) ?_
  refine wp_istore_n (atd dX12_keep 31 rfl) (Nat.le_of_ble_eq_true rfl) ?_
  refine wp_aload_n (atd dX12_keep 32 rfl) rfl rfl ?_
  refine wp_get fX12_69 (atd dX12_keep 33 rfl) hM.1.1 rfl ?_
  refine wp_iload_n (atd dX12_keep 34 rfl) rfl ?_
  refine wp_aload_n (atd dX12_keep 35 rfl) rfl rfl ?_
  refine wp_get fX12_78 (atd dX12_keep 36 rfl) hM.1.1 rfl ?_
  refine wp_iastM (j := 18) (atd dX12_keep 37 rfl) hM (by decide) (by decide) rfl (show _ < 240 from by omega) (fun σ hM => ?_)
  obtain ⟨B, hM, hfb, hK⟩ := rec_put (rc := rc) (old := old) (k := 0) hM hfb ⟨fun j hj => absurd hj (Nat.not_lt_zero j), hK⟩ (by omega) (by rw [hrc 0 (by decide)]; rfl)
  refine wp_iconst (v := nI 0) (atd dX12_keep 38 rfl) (by decide) ?_
  refine wp_istore_n (atd dX12_keep 39 rfl) (Nat.le_of_ble_eq_true rfl) ?_
  exact lX12_keep2 ha h57 h46 hon hrc 9 _ B 0 hM hfb hK (by omega)
theorem lX12_keep4 {G : Gx} {d : Nat} {Q : Option Value → Hp → Prop} {σ0 : Hp} {m : Nat} {α : Nat → Int32} {B0 : Nat → Nat → Int32} {e2 : Value} (hk : ∀ (σ : Hp) (B : Nat → Nat → Int32) (e1 : Value), MA σ0 σ m α B → frm [18] B0 B → (∀ x, x < 220 → B 18 x = B0 18 (x + 20)) → Wp G mX12_keep d 40 [.ref m, e1, e2] [] σ 0 0 Q) : ∀ (f : Nat) (σ : Hp) (B : Nat → Nat → Int32) (k : Nat), MA σ0 σ m α B → frm [18] B0 B → (∀ x, x < k → B 18 x = B0 18 (x + 20)) → (∀ x, k ≤ x → B 18 x = B0 18 x) → k + f = 220 → Wp G mX12_keep d 12 [.ref m, .int (nI (k + 20)), e2] [] σ 0 0 Q := by
  intro f
  induction f with
  | zero =>
    intro σ B k hM hfb h1 h2 hkf
    have e : k = 220 := by omega
    subst e
    refine wp_iload_n (atd dX12_keep 6 rfl) rfl ?_
    refine wp_sipush (v := nI 240) (atd dX12_keep 7 rfl) (by decide) ?_
    refine wp_icmpN_ge (tgt := 40) (atd dX12_keep 8 rfl) (by decide) (by omega) (by omega) (fun c_16 => ?_) (fun c_16 => ?_)
    ·
      exact hk _ B _ hM hfb h1
    · exfalso; omega
  | succ f ih =>
    intro σ B k hM hfb h1 h2 hkf
    refine wp_iload_n (atd dX12_keep 6 rfl) rfl ?_
    refine wp_sipush (v := nI 240) (atd dX12_keep 7 rfl) (by decide) ?_
    refine wp_icmpN_ge (tgt := 40) (atd dX12_keep 8 rfl) (by decide) (by omega) (by omega) (fun c_16 => ?_) (fun c_16 => ?_)
    · exfalso; omega
    ·
      refine wp_aload_n (atd dX12_keep 9 rfl) rfl rfl ?_
      refine wp_get fX12_69 (atd dX12_keep 10 rfl) hM.1.1 rfl ?_
      refine wp_iload_n (atd dX12_keep 11 rfl) rfl ?_
      refine wp_bipush (v := nI 20) (atd dX12_keep 12 rfl) (by decide) ?_
      refine wp_isubN (atd dX12_keep 13 rfl) (by omega) ?_
      refine wp_aload_n (atd dX12_keep 14 rfl) rfl rfl ?_
      refine wp_get fX12_69 (atd dX12_keep 15 rfl) hM.1.1 rfl ?_
      refine wp_iload_n (atd dX12_keep 16 rfl) rfl ?_
      refine wp_ialdN (atd dX12_keep 17 rfl) hM.a18 (show _ < 240 from by omega) (Nat.le_of_ble_eq_true rfl) ?_
      refine wp_iastM (j := 18) (atd dX12_keep 18 rfl) hM (by decide) (by decide) rfl (show _ < 240 from by omega) (fun σ hM => ?_)
      refine wp_iincN (c := 1) (atd dX12_keep 19 rfl) rfl ?_
      refine wp_goto (tgt := 12) (atd dX12_keep 20 rfl) (by decide) ?_
      rw [show k + 20 - 20 = k by omega, h2 (k + 20) (by omega)] at hM
      have e : k + 20 + 1 = k + 1 + 20 := by omega
      show Wp G mX12_keep d 12 [.ref m, .int (nI (k + 20 + 1)), e2] [] σ 0 0 Q
      rw [e]
      refine ih _ _ (k + 1) hM (hfb.va (by decide)) (fun x hx => ?_) (fun x hx => ?_) (by omega)
      · show upd (B 18) k (B0 18 (k + 20)) x = _
        by_cases e : x = k
        · subst e; exact if_pos rfl
        · rw [show upd (B 18) k (B0 18 (k + 20)) x = B 18 x from if_neg e]; exact h1 x (by omega)
      · show upd (B 18) k (B0 18 (k + 20)) x = _
        rw [show upd (B 18) k (B0 18 (k + 20)) x = B 18 x from if_neg (by omega)]; exact h2 x (by omega)
theorem eX12_keep {G : Gx} {d : Nat} {σ : Hp} (hd : 0 ≤ d) {m a on : Nat} {α : Nat → Int32} {B : Nat → Nat → Int32} (hM : MA σ σ m α B) (ha : a ≤ 12) (h57 : α 57 = nI a) (h46 : α 46 = nI on) (hon : on ≤ 1) : Cl G mX12_keep d [.ref m] σ 0 0 (pV fun s => ∃ α1 B1, MA σ s m α1 B1 ∧ frm [57] α α1 ∧ frm [18] B B1 ∧ α1 57 = nI ((if a = 12 then 11 else a) + 1) ∧ REC (rcd α B) (fun x => if a = 12 then B 18 (x + 20) else B 18 x) (if a = 12 then 11 else a) 19 B1) := by
  refine cl_of (by decide) (by simp [Value.category]) (Nat.le_of_ble_eq_true rfl) ?_
  show Wp G mX12_keep d 0 [.ref m, .double 0, .double 0] [] σ 0 0 _
  refine wp_aload_n (atd dX12_keep 0 rfl) rfl rfl ?_
  refine wp_get fX12_162 (atd dX12_keep 1 rfl) hM.1.1 (congrArg (fun z => some (Value.int z)) h57) ?_
  refine wp_bipush (v := nI 12) (atd dX12_keep 2 rfl) (by decide) ?_
  refine wp_icmpN_ne (tgt := 50) (atd dX12_keep 3 rfl) (by decide) (by omega) (by omega) (fun c_6 => ?_) (fun c_6 => ?_)
  ·
    refine wp_post (lX12_keep3 (rc := rcd α B) (old := B 18) (a := a) (by omega) h57 h46 hon (fun j hj => rfl) hM frm.rf (fun x hx => rfl)) ?_
    rintro v s ⟨rfl, B1, hM1, hfb1, hK1⟩
    refine ⟨rfl, _, B1, hM1, frm.rf.up (by decide), hfb1, ?_, ?_⟩
    · rw [if_neg c_6]; rfl
    · rw [if_neg c_6]; simp only [if_neg c_6]; exact hK1
  ·
    refine wp_bipush (v := nI 20) (atd dX12_keep 4 rfl) (by decide) ?_
    refine wp_istore_n (atd dX12_keep 5 rfl) (Nat.le_of_ble_eq_true rfl) ?_
    refine lX12_keep4 (fun σ2 B2 e1 hM hfb hx => ?_) 220 _ B 0 hM frm.rf (fun x hx => absurd hx (Nat.not_lt_zero x)) (fun x _ => rfl) (by omega)
    refine wp_aload_n (atd dX12_keep 21 rfl) rfl rfl ?_
    refine wp_dup (atd dX12_keep 22 rfl) rfl ?_
    refine wp_get fX12_162 (atd dX12_keep 23 rfl) hM.1.1 (congrArg (fun z => some (Value.int z)) h57) ?_
    refine wp_iconst (v := nI 1) (atd dX12_keep 24 rfl) (by decide) ?_
    refine wp_isubN (atd dX12_keep 25 rfl) (by omega) ?_
    refine wp_putM fX12_162 (atd dX12_keep 26 rfl) hM rfl (fun σ hM => ?_)
    subst c_6
    refine wp_post (lX12_keep3 (α := upd α 57 (nI (12 - 1))) (rc := rcd α B) (old := fun x => B 18 (x + 20)) (a := 11) (by omega) rfl h46 hon (fun j hj => ?_) hM hfb (fun x hx2 => hx x (by omega))) ?_
    · unfold rcd
      rcases (show j = 0 ∨ (0 < j ∧ j < 10) ∨ (10 ≤ j ∧ j < 19) by omega) with rfl | ⟨h1, h2⟩ | ⟨h1, h2⟩
      · rfl
      · rw [if_neg (by omega), if_pos h2, if_neg (by omega), if_pos h2]
      · rw [if_neg (by omega), if_neg (by omega), if_neg (by omega), if_neg (by omega)]; show _ = upd α 57 _ (36 + j); exact (if_neg (by omega)).symm
    · rintro v s ⟨rfl, B1, hM1, hfb1, hK1⟩
      exact ⟨rfl, _, B1, hM1, (frm.rf.up (by decide)).up (by decide), hfb1, rfl, hK1⟩
/-- near is laid anew from what was kept -/
def und (B0 B : Nat → Nat → Int32) (R : Nat → Int32) (p : Nat) : Prop := (∀ x, x < p → B 1 x = R (1 + x)) ∧ ∀ x, p ≤ x → B 1 x = B0 1 x
def ulk (α0 : Nat → Int32) (B0 : Nat → Nat → Int32) (R : Nat → Int32) (t p : Nat) : Prop := t ≤ 1 ∧ (t = 1 → α0 2 = R 0 ∧ ∀ x, x < p → B0 1 x = R (1 + x))
theorem lX12_undo1 {G : Gx} {d : Nat} {Q : Option Value → Hp → Prop} {σ0 : Hp} {m a : Nat} {α α0 R : Nat → Int32} {B0 : Nat → Nat → Int32} (ha : a ≤ 11) (hR : ∀ j, j < 19 → B0 18 (20 * a + j) = R j) (hk : ∀ (σ : Hp) (B : Nat → Nat → Int32) (t : Nat) (e3 : Value), MA σ0 σ m α B → frm [1] B0 B → und B0 B R 9 → ulk α0 B0 R t 9 → Wp G mX12_undo d 118 [.ref m, .int (nI (20 * a)), .int (nI t), e3] [] σ 0 0 Q) : ∀ (k : Nat) (σ : Hp) (B : Nat → Nat → Int32) (t p : Nat), MA σ0 σ m α B → frm [1] B0 B → und B0 B R p → ulk α0 B0 R t p → p + k = 9 → Wp G mX12_undo d 63 [.ref m, .int (nI (20 * a)), .int (nI t), .int (nI p)] [] σ 0 0 Q := by
  intro k
  induction k with
  | zero =>
    intro σ B t p hM hfb hu hl hpk
    have e : p = 9 := by omega
    subst e
    refine wp_iload_n (atd dX12_undo 38 rfl) rfl ?_
    refine wp_bipush (v := nI 9) (atd dX12_undo 39 rfl) (by decide) ?_
    refine wp_icmpN_ge (tgt := 118) (atd dX12_undo 40 rfl) (by decide) (by omega) (by omega) (fun c_66 => ?_) (fun c_66 => ?_)
    ·
      exact hk _ B t _ hM hfb hu hl
    · exfalso; omega
  | succ k ih =>
    intro σ B t p hM hfb hu hl hpk
    have hR1 : B 18 (20 * a + 1 + p) = R (1 + p) := by rw [hfb 18 (by decide), show 20 * a + 1 + p = 20 * a + (1 + p) by omega]; exact hR (1 + p) (by omega)
    have hB1 : B 1 p = B0 1 p := hu.2 p (Nat.le_refl p)
    refine wp_iload_n (atd dX12_undo 38 rfl) rfl ?_
    refine wp_bipush (v := nI 9) (atd dX12_undo 39 rfl) (by decide) ?_
    refine wp_icmpN_ge (tgt := 118) (atd dX12_undo 40 rfl) (by decide) (by omega) (by omega) (fun c_66 => ?_) (fun c_66 => ?_)
    · exfalso; omega
    ·
      refine wp_iload_n (atd dX12_undo 41 rfl) rfl ?_
      refine wp_aload_n (atd dX12_undo 42 rfl) rfl rfl ?_
      refine wp_get fX12_7 (atd dX12_undo 43 rfl) hM.1.1 rfl ?_
      refine wp_iload_n (atd dX12_undo 44 rfl) rfl ?_
      refine wp_ialdN (atd dX12_undo 45 rfl) hM.a1 (show _ < 9 from by omega) (Nat.le_of_ble_eq_true rfl) ?_
      rw [hB1]
      refine wp_aload_n (atd dX12_undo 46 rfl) rfl rfl ?_
      refine wp_get fX12_69 (atd dX12_undo 47 rfl) hM.1.1 rfl ?_
      refine wp_iload_n (atd dX12_undo 48 rfl) rfl ?_
      refine wp_iconst (v := nI 1) (atd dX12_undo 49 rfl) (by decide) ?_
      refine wp_iaddN (atd dX12_undo 50 rfl) ?_
      refine wp_iload_n (atd dX12_undo 51 rfl) rfl ?_
      refine wp_iaddN (atd dX12_undo 52 rfl) ?_
      refine wp_ialdN (atd dX12_undo 53 rfl) hM.a18 (show _ < 240 from by omega) (Nat.le_of_ble_eq_true rfl) ?_
      rw [hR1]
      refine wp_icmp_ne (tgt := 93) (atd dX12_undo 54 rfl) (by decide) (fun c_86 => ?_) (fun c_86 => ?_)
      ·
        refine wp_iconst (v := nI 0) (atd dX12_undo 57 rfl) (by decide) ?_
        refine wp_iandN (atd dX12_undo 58 rfl) ?_
        refine wp_istore_n (atd dX12_undo 59 rfl) (Nat.le_of_ble_eq_true rfl) ?_
        refine wp_aload_n (atd dX12_undo 60 rfl) rfl rfl ?_
        refine wp_get fX12_7 (atd dX12_undo 61 rfl) hM.1.1 rfl ?_
        refine wp_iload_n (atd dX12_undo 62 rfl) rfl ?_
        refine wp_aload_n (atd dX12_undo 63 rfl) rfl rfl ?_
        refine wp_get fX12_69 (atd dX12_undo 64 rfl) hM.1.1 rfl ?_
        refine wp_iload_n (atd dX12_undo 65 rfl) rfl ?_
        refine wp_iconst (v := nI 1) (atd dX12_undo 66 rfl) (by decide) ?_
        refine wp_iaddN (atd dX12_undo 67 rfl) ?_
        refine wp_iload_n (atd dX12_undo 68 rfl) rfl ?_
        refine wp_iaddN (atd dX12_undo 69 rfl) ?_
        refine wp_ialdN (atd dX12_undo 70 rfl) hM.a18 (show _ < 240 from by omega) (Nat.le_of_ble_eq_true rfl) ?_
        rw [hR1]
        refine wp_iastM (j := 1) (atd dX12_undo 71 rfl) hM (by decide) (by decide) rfl (show _ < 9 from by omega) (fun σ hM => ?_)
        refine wp_iincN (c := 1) (atd dX12_undo 72 rfl) rfl ?_
        refine wp_goto (tgt := 63) (atd dX12_undo 73 rfl) (by decide) ?_
        show Wp G mX12_undo d 63 [.ref m, .int (nI (20 * a)), .int (nI (t &&& 0)), .int (nI (p + 1))] [] σ 0 0 Q
        rw [show t &&& 0 = 0 from Nat.and_zero t]
        refine ih _ _ 0 (p + 1) hM (hfb.va (by decide)) ⟨fun x hx => ?_, fun x hx => ?_⟩ ⟨by omega, fun z => absurd z (by decide)⟩ (by omega)
        · show upd (B 1) p (R (1 + p)) x = _
          by_cases e : x = p
          · subst e; exact if_pos rfl
          · rw [show upd (B 1) p (R (1 + p)) x = B 1 x from if_neg e]; exact hu.1 x (by omega)
        · show upd (B 1) p (R (1 + p)) x = _
          rw [show upd (B 1) p (R (1 + p)) x = B 1 x from if_neg (by omega)]; exact hu.2 x (by omega)
      ·
        refine wp_iconst (v := nI 1) (atd dX12_undo 55 rfl) (by decide) ?_
        refine wp_goto (tgt := 94) (atd dX12_undo 56 rfl) (by decide) ?_
        refine wp_iandN (atd dX12_undo 58 rfl) ?_
        refine wp_istore_n (atd dX12_undo 59 rfl) (Nat.le_of_ble_eq_true rfl) ?_
        refine wp_aload_n (atd dX12_undo 60 rfl) rfl rfl ?_
        refine wp_get fX12_7 (atd dX12_undo 61 rfl) hM.1.1 rfl ?_
        refine wp_iload_n (atd dX12_undo 62 rfl) rfl ?_
        refine wp_aload_n (atd dX12_undo 63 rfl) rfl rfl ?_
        refine wp_get fX12_69 (atd dX12_undo 64 rfl) hM.1.1 rfl ?_
        refine wp_iload_n (atd dX12_undo 65 rfl) rfl ?_
        refine wp_iconst (v := nI 1) (atd dX12_undo 66 rfl) (by decide) ?_
        refine wp_iaddN (atd dX12_undo 67 rfl) ?_
        refine wp_iload_n (atd dX12_undo 68 rfl) rfl ?_
        refine wp_iaddN (atd dX12_undo 69 rfl) ?_
        refine wp_ialdN (atd dX12_undo 70 rfl) hM.a18 (show _ < 240 from by omega) (Nat.le_of_ble_eq_true rfl) ?_
        rw [hR1]
        refine wp_iastM (j := 1) (atd dX12_undo 71 rfl) hM (by decide) (by decide) rfl (show _ < 9 from by omega) (fun σ hM => ?_)
        refine wp_iincN (c := 1) (atd dX12_undo 72 rfl) rfl ?_
        refine wp_goto (tgt := 63) (atd dX12_undo 73 rfl) (by decide) ?_
        show Wp G mX12_undo d 63 [.ref m, .int (nI (20 * a)), .int (nI (t &&& 1)), .int (nI (p + 1))] [] σ 0 0 Q
        rw [show t &&& 1 = t from by have := hl.1; rcases (show t = 0 ∨ t = 1 by omega) with rfl | rfl <;> rfl]
        refine ih _ _ t (p + 1) hM (hfb.va (by decide)) ⟨fun x hx => ?_, fun x hx => ?_⟩ ⟨hl.1, fun z => ⟨(hl.2 z).1, fun x hx => if e : x = p then (by subst e; exact Classical.not_not.mp c_86) else (hl.2 z).2 x (by omega)⟩⟩ (by omega)
        · show upd (B 1) p (R (1 + p)) x = _
          by_cases e : x = p
          · subst e; exact if_pos rfl
          · rw [show upd (B 1) p (R (1 + p)) x = B 1 x from if_neg e]; exact hu.1 x (by omega)
        · show upd (B 1) p (R (1 + p)) x = _
          rw [show upd (B 1) p (R (1 + p)) x = B 1 x from if_neg (by omega)]; exact hu.2 x (by omega)
theorem eX12_undo0 {G : Gx} {d : Nat} {σ : Hp} (hd : 1 ≤ d) {m : Nat} {α : Nat → Int32} {B : Nat → Nat → Int32} (hM : MA σ σ m α B) (h57 : α 57 = nI 0) : Cl G mX12_undo d [.ref m] σ 0 0 (pI fun r s => r = nI 0 ∧ MA σ s m (upd α 0 (nI 0)) B) := by
  obtain ⟨d0, hdd⟩ : ∃ e, d = e + 1 := ⟨d - 1, by omega⟩
  refine cl_of (by decide) (by simp [Value.category]) (Nat.le_of_ble_eq_true rfl) ?_
  show Wp G mX12_undo d 0 [.ref m, .double 0, .double 0, .double 0] [] σ 0 0 _
  refine wp_aload_n (atd dX12_undo 0 rfl) rfl rfl ?_
  refine wp_iconst (v := nI 0) (atd dX12_undo 1 rfl) (by decide) ?_
  refine wp_putM fX12_75 (atd dX12_undo 2 rfl) hM rfl (fun σ hM => ?_)
  refine wp_aload_n (atd dX12_undo 3 rfl) rfl rfl ?_
  refine wp_get fX12_162 (atd dX12_undo 4 rfl) hM.1.1 (congrArg (fun z => some (Value.int z)) h57) ?_
  refine wp_ifN_ne (tgt := 14) (atd dX12_undo 5 rfl) (by decide) (by omega) (fun c_9 => ?_) (fun c_9 => ?_)
  · exact absurd c_9 (by decide)
  ·
    refine wp_iconst (v := nI 0) (atd dX12_undo 6 rfl) (by decide) ?_
    refine wp_iretz (atd dX12_undo 7 rfl) rfl (by first | rfl | decide) ?_
    exact ⟨rfl, hM⟩
theorem eX12_undo {G : Gx} {d : Nat} {σ : Hp} (hd : 1 ≤ d) {m a : Nat} {α : Nat → Int32} {B : Nat → Nat → Int32} (hM : MA σ σ m α B) (ha : a ≤ 12) (h57 : α 57 = nI a) (ha1 : 1 ≤ a) : Cl G mX12_undo d [.ref m] σ 0 0 (pI fun r s => r = nI 1 ∧ ∃ α1 B1, MA σ s m α1 B1 ∧ frm [0, 2, 17, 18, 19, 21, 46, 47, 48, 49, 50, 51, 52, 53, 54, 57] α α1 ∧ frm [1] B B1 ∧ α1 0 = nI 0 ∧ α1 57 = nI (a - 1) ∧ α1 2 = B 18 (20 * (a - 1)) ∧ (∀ p, p < 9 → B1 1 p = B 18 (20 * (a - 1) + (1 + p))) ∧ α1 46 = bI (B 18 (20 * (a - 1) + 10) = nI 1) ∧ (∀ j, 11 ≤ j → j < 19 → α1 (36 + j) = B 18 (20 * (a - 1) + j)) ∧ ((α1 2 = α 2 ∧ (∀ p, p < 9 → B1 1 p = B 1 p) ∧ α1 17 = α 17 ∧ α1 18 = α 18 ∧ α1 19 = α 19 ∧ α1 21 = α 21) ∨ (α1 17 = nI 0 ∧ α1 18 = nI 0 ∧ α1 19 = -1 ∧ α1 21 = nI 0))) := by
  obtain ⟨d0, hdd⟩ : ∃ e, d = e + 1 := ⟨d - 1, by omega⟩
  refine cl_of (by decide) (by simp [Value.category]) (Nat.le_of_ble_eq_true rfl) ?_
  show Wp G mX12_undo d 0 [.ref m, .double 0, .double 0, .double 0] [] σ 0 0 _
  refine wp_aload_n (atd dX12_undo 0 rfl) rfl rfl ?_
  refine wp_iconst (v := nI 0) (atd dX12_undo 1 rfl) (by decide) ?_
  refine wp_putM fX12_75 (atd dX12_undo 2 rfl) hM rfl (fun σ hM => ?_)
  refine wp_aload_n (atd dX12_undo 3 rfl) rfl rfl ?_
  refine wp_get fX12_162 (atd dX12_undo 4 rfl) hM.1.1 (congrArg (fun z => some (Value.int z)) h57) ?_
  refine wp_ifN_ne (tgt := 14) (atd dX12_undo 5 rfl) (by decide) (by omega) (fun c_9 => ?_) (fun c_9 => ?_)
  ·
    refine wp_aload_n (atd dX12_undo 8 rfl) rfl rfl ?_
    refine wp_dup (atd dX12_undo 9 rfl) rfl ?_
    refine wp_get fX12_162 (atd dX12_undo 10 rfl) hM.1.1 (congrArg (fun z => some (Value.int z)) h57) ?_
    refine wp_iconst (v := nI 1) (atd dX12_undo 11 rfl) (by decide) ?_
    refine wp_isubN (atd dX12_undo 12 rfl) (by omega) ?_
    refine wp_putM fX12_162 (atd dX12_undo 13 rfl) hM rfl (fun σ hM => ?_)
    refine wp_bipush (v := nI 20) (atd dX12_undo 14 rfl) (by decide) ?_
    refine wp_aload_n (atd dX12_undo 15 rfl) rfl rfl ?_
    refine wp_get fX12_162 (atd dX12_undo 16 rfl) hM.1.1 (congrArg (fun z => some (Value.int z)) (rfl : _ = nI (a - 1))) ?_
    refine wp_imulN (atd dX12_undo 17 rfl) ?_
    refine wp_istore_n (atd dX12_undo 18 rfl) (Nat.le_of_ble_eq_true rfl) ?_
    refine wp_aload_n (atd dX12_undo 19 rfl) rfl rfl ?_
    refine wp_get fX12_78 (atd dX12_undo 20 rfl) hM.1.1 rfl ?_
    refine wp_aload_n (atd dX12_undo 21 rfl) rfl rfl ?_
    refine wp_get fX12_69 (atd dX12_undo 22 rfl) hM.1.1 rfl ?_
    refine wp_iload_n (atd dX12_undo 23 rfl) rfl ?_
    refine wp_ialdN (atd dX12_undo 24 rfl) hM.a18 (show _ < 240 from by omega) (Nat.le_of_ble_eq_true rfl) ?_
    refine wp_icmp_ne (tgt := 49) (atd dX12_undo 25 rfl) (by decide) (fun c_42 => ?_) (fun c_42 => ?_)
    ·
      refine wp_iconst (v := nI 0) (atd dX12_undo 28 rfl) (by decide) ?_
      refine wp_istore_n (atd dX12_undo 29 rfl) (Nat.le_of_ble_eq_true rfl) ?_
      refine wp_aload_n (atd dX12_undo 30 rfl) rfl rfl ?_
      refine wp_aload_n (atd dX12_undo 31 rfl) rfl rfl ?_
      refine wp_get fX12_69 (atd dX12_undo 32 rfl) hM.1.1 rfl ?_
      refine wp_iload_n (atd dX12_undo 33 rfl) rfl ?_
      refine wp_ialdN (atd dX12_undo 34 rfl) hM.a18 (show _ < 240 from by omega) (Nat.le_of_ble_eq_true rfl) ?_
      refine wp_putM fX12_78 (atd dX12_undo 35 rfl) hM rfl (fun σ hM => ?_)
      refine wp_iconst (v := nI 0) (atd dX12_undo 36 rfl) (by decide) ?_
      refine wp_istore_n (atd dX12_undo 37 rfl) (Nat.le_of_ble_eq_true rfl) ?_
      refine lX12_undo1 (α0 := α) (R := fun j => B 18 (20 * (a - 1) + j)) (a := a - 1) (by omega) (fun j hj => rfl) (fun σ2 B2 t e3 hM hfb hu hl => ?_) 9 _ B 0 0 hM frm.rf ⟨fun x hx => absurd hx (Nat.not_lt_zero x), fun x _ => rfl⟩ ⟨by omega, fun z => absurd z (by decide)⟩ (by omega)
      have hl1 := hl.1
      refine wp_aload_n (atd dX12_undo 74 rfl) rfl rfl ?_
      refine wp_aload_n (atd dX12_undo 75 rfl) rfl rfl ?_
      refine wp_get fX12_69 (atd dX12_undo 76 rfl) hM.1.1 rfl ?_
      refine wp_iload_n (atd dX12_undo 77 rfl) rfl ?_
      refine wp_bipush (v := nI 10) (atd dX12_undo 78 rfl) (by decide) ?_
      refine wp_iaddN (atd dX12_undo 79 rfl) ?_
      refine wp_ialdN (atd dX12_undo 80 rfl) hM.a18 (show _ < 240 from by omega) (Nat.le_of_ble_eq_true rfl) ?_
      rw [show B2 18 (20 * (a - 1) + 10) = B 18 (20 * (a - 1) + 10) from congrFun (hfb 18 (by decide)) _]
      refine wp_iconst (v := nI 1) (atd dX12_undo 81 rfl) (by decide) ?_
      refine wp_icmp_ne (tgt := 136) (atd dX12_undo 82 rfl) (by decide) (fun c_129 => ?_) (fun c_129 => ?_)
      ·
        refine wp_iconst (v := nI 0) (atd dX12_undo 85 rfl) (by decide) ?_
        refine wp_putMz fX12_165 (atd dX12_undo 86 rfl) hM rfl (by decide) (fun σ hM => ?_)
        refine wp_aload_n (atd dX12_undo 87 rfl) rfl rfl ?_
        refine wp_aload_n (atd dX12_undo 88 rfl) rfl rfl ?_
        refine wp_get fX12_69 (atd dX12_undo 89 rfl) hM.1.1 rfl ?_
        refine wp_iload_n (atd dX12_undo 90 rfl) rfl ?_
        refine wp_bipush (v := nI 11) (atd dX12_undo 91 rfl) (by decide) ?_
        refine wp_iaddN (atd dX12_undo 92 rfl) ?_
        refine wp_ialdN (atd dX12_undo 93 rfl) hM.a18 (show _ < 240 from by omega) (Nat.le_of_ble_eq_true rfl) ?_
        rw [show B2 18 (20 * (a - 1) + 11) = B 18 (20 * (a - 1) + 11) from congrFun (hfb 18 (by decide)) _]
        refine wp_putM fX12_368 (atd dX12_undo 94 rfl) hM rfl (fun σ hM => ?_)
        refine wp_aload_n (atd dX12_undo 95 rfl) rfl rfl ?_
        refine wp_aload_n (atd dX12_undo 96 rfl) rfl rfl ?_
        refine wp_get fX12_69 (atd dX12_undo 97 rfl) hM.1.1 rfl ?_
        refine wp_iload_n (atd dX12_undo 98 rfl) rfl ?_
        refine wp_bipush (v := nI 12) (atd dX12_undo 99 rfl) (by decide) ?_
        refine wp_iaddN (atd dX12_undo 100 rfl) ?_
        refine wp_ialdN (atd dX12_undo 101 rfl) hM.a18 (show _ < 240 from by omega) (Nat.le_of_ble_eq_true rfl) ?_
        rw [show B2 18 (20 * (a - 1) + 12) = B 18 (20 * (a - 1) + 12) from congrFun (hfb 18 (by decide)) _]
        refine wp_putM fX12_359 (atd dX12_undo 102 rfl) hM rfl (fun σ hM => ?_)
        refine wp_aload_n (atd dX12_undo 103 rfl) rfl rfl ?_
        refine wp_aload_n (atd dX12_undo 104 rfl) rfl rfl ?_
        refine wp_get fX12_69 (atd dX12_undo 105 rfl) hM.1.1 rfl ?_
        refine wp_iload_n (atd dX12_undo 106 rfl) rfl ?_
        refine wp_bipush (v := nI 13) (atd dX12_undo 107 rfl) (by decide) ?_
        refine wp_iaddN (atd dX12_undo 108 rfl) ?_
        refine wp_ialdN (atd dX12_undo 109 rfl) hM.a18 (show _ < 240 from by omega) (Nat.le_of_ble_eq_true rfl) ?_
        rw [show B2 18 (20 * (a - 1) + 13) = B 18 (20 * (a - 1) + 13) from congrFun (hfb 18 (by decide)) _]
        refine wp_putM fX12_356 (atd dX12_undo 110 rfl) hM rfl (fun σ hM => ?_)
        refine wp_aload_n (atd dX12_undo 111 rfl) rfl rfl ?_
        refine wp_aload_n (atd dX12_undo 112 rfl) rfl rfl ?_
        refine wp_get fX12_69 (atd dX12_undo 113 rfl) hM.1.1 rfl ?_
        refine wp_iload_n (atd dX12_undo 114 rfl) rfl ?_
        refine wp_bipush (v := nI 14) (atd dX12_undo 115 rfl) (by decide) ?_
        refine wp_iaddN (atd dX12_undo 116 rfl) ?_
        refine wp_ialdN (atd dX12_undo 117 rfl) hM.a18 (show _ < 240 from by omega) (Nat.le_of_ble_eq_true rfl) ?_
        rw [show B2 18 (20 * (a - 1) + 14) = B 18 (20 * (a - 1) + 14) from congrFun (hfb 18 (by decide)) _]
        refine wp_putM fX12_362 (atd dX12_undo 118 rfl) hM rfl (fun σ hM => ?_)
        refine wp_aload_n (atd dX12_undo 119 rfl) rfl rfl ?_
        refine wp_aload_n (atd dX12_undo 120 rfl) rfl rfl ?_
        refine wp_get fX12_69 (atd dX12_undo 121 rfl) hM.1.1 rfl ?_
        refine wp_iload_n (atd dX12_undo 122 rfl) rfl ?_
        refine wp_bipush (v := nI 15) (atd dX12_undo 123 rfl) (by decide) ?_
        refine wp_iaddN (atd dX12_undo 124 rfl) ?_
        refine wp_ialdN (atd dX12_undo 125 rfl) hM.a18 (show _ < 240 from by omega) (Nat.le_of_ble_eq_true rfl) ?_
        rw [show B2 18 (20 * (a - 1) + 15) = B 18 (20 * (a - 1) + 15) from congrFun (hfb 18 (by decide)) _]
        refine wp_putM fX12_365 (atd dX12_undo 126 rfl) hM rfl (fun σ hM => ?_)
        refine wp_aload_n (atd dX12_undo 127 rfl) rfl rfl ?_
        refine wp_aload_n (atd dX12_undo 128 rfl) rfl rfl ?_
        refine wp_get fX12_69 (atd dX12_undo 129 rfl) hM.1.1 rfl ?_
        refine wp_iload_n (atd dX12_undo 130 rfl) rfl ?_
        refine wp_bipush (v := nI 16) (atd dX12_undo 131 rfl) (by decide) ?_
        refine wp_iaddN (atd dX12_undo 132 rfl) ?_
        refine wp_ialdN (atd dX12_undo 133 rfl) hM.a18 (show _ < 240 from by omega) (Nat.le_of_ble_eq_true rfl) ?_
        rw [show B2 18 (20 * (a - 1) + 16) = B 18 (20 * (a - 1) + 16) from congrFun (hfb 18 (by decide)) _]
        refine wp_putM fX12_353 (atd dX12_undo 134 rfl) hM rfl (fun σ hM => ?_)
        refine wp_aload_n (atd dX12_undo 135 rfl) rfl rfl ?_
        refine wp_aload_n (atd dX12_undo 136 rfl) rfl rfl ?_
        refine wp_get fX12_69 (atd dX12_undo 137 rfl) hM.1.1 rfl ?_
        refine wp_iload_n (atd dX12_undo 138 rfl) rfl ?_
        refine wp_bipush (v := nI 17) (atd dX12_undo 139 rfl) (by decide) ?_
        refine wp_iaddN (atd dX12_undo 140 rfl) ?_
        refine wp_ialdN (atd dX12_undo 141 rfl) hM.a18 (show _ < 240 from by omega) (Nat.le_of_ble_eq_true rfl) ?_
        rw [show B2 18 (20 * (a - 1) + 17) = B 18 (20 * (a - 1) + 17) from congrFun (hfb 18 (by decide)) _]
        refine wp_putM fX12_374 (atd dX12_undo 142 rfl) hM rfl (fun σ hM => ?_)
        refine wp_aload_n (atd dX12_undo 143 rfl) rfl rfl ?_
        refine wp_aload_n (atd dX12_undo 144 rfl) rfl rfl ?_
        refine wp_get fX12_69 (atd dX12_undo 145 rfl) hM.1.1 rfl ?_
        refine wp_iload_n (atd dX12_undo 146 rfl) rfl ?_
        refine wp_bipush (v := nI 18) (atd dX12_undo 147 rfl) (by decide) ?_
        refine wp_iaddN (atd dX12_undo 148 rfl) ?_
        refine wp_ialdN (atd dX12_undo 149 rfl) hM.a18 (show _ < 240 from by omega) (Nat.le_of_ble_eq_true rfl) ?_
        rw [show B2 18 (20 * (a - 1) + 18) = B 18 (20 * (a - 1) + 18) from congrFun (hfb 18 (by decide)) _]
        refine wp_putM fX12_377 (atd dX12_undo 150 rfl) hM rfl (fun σ hM => ?_)
        refine wp_iload_n (atd dX12_undo 151 rfl) rfl ?_
        refine wp_ifN_ne (tgt := 252) (atd dX12_undo 152 rfl) (by decide) (by omega) (fun c_245 => ?_) (fun c_245 => ?_)
        ·
          refine wp_iconst (v := nI 1) (atd dX12_undo 155 rfl) (by decide) ?_
          refine wp_iretz (atd dX12_undo 156 rfl) rfl (by first | rfl | decide) ?_
          refine ⟨rfl, _, B2, hM, ((((((((((((frm.rf.up (by decide)).up (by decide)).up (by decide)).up (by decide)).up (by decide)).up (by decide)).up (by decide)).up (by decide)).up (by decide)).up (by decide)).up (by decide)).up (by decide)), hfb, rfl, rfl, rfl, fun p hp => hu.1 p hp, (bI_f c_129).symm, fun j h1 h2 => by rcases (show j = 11 ∨ j = 12 ∨ j = 13 ∨ j = 14 ∨ j = 15 ∨ j = 16 ∨ j = 17 ∨ j = 18 by omega) with rfl | rfl | rfl | rfl | rfl | rfl | rfl | rfl <;> rfl, Or.inl ⟨(hl.2 (by have := hl.1; omega)).1.symm, fun p hp => by rw [hu.1 p hp]; exact ((hl.2 (by have := hl.1; omega)).2 p hp).symm, rfl, rfl, rfl, rfl⟩⟩
        ·
          refine wp_aload_n (atd dX12_undo 153 rfl) rfl rfl ?_
          refine wp_cVv hdd [] (atd dX12_undo 154 rfl) iX12_another lX12_169 rfl rfl (Nat.le_of_ble_eq_true rfl) hM.1.1 rfl (eX12_another (by omega) hM.self) (fun s_249 h_249 => ?_)
          have hM := hM.trans h_249
          refine wp_iconst (v := nI 1) (atd dX12_undo 155 rfl) (by decide) ?_
          refine wp_iretz (atd dX12_undo 156 rfl) rfl (by first | rfl | decide) ?_
          refine ⟨rfl, _, B2, hM, ((((((((((((((((frm.rf.up (by decide)).up (by decide)).up (by decide)).up (by decide)).up (by decide)).up (by decide)).up (by decide)).up (by decide)).up (by decide)).up (by decide)).up (by decide)).up (by decide)).up (by decide)).up (by decide)).up (by decide)).up (by decide)), hfb, rfl, rfl, rfl, fun p hp => hu.1 p hp, (bI_f c_129).symm, fun j h1 h2 => by rcases (show j = 11 ∨ j = 12 ∨ j = 13 ∨ j = 14 ∨ j = 15 ∨ j = 16 ∨ j = 17 ∨ j = 18 by omega) with rfl | rfl | rfl | rfl | rfl | rfl | rfl | rfl <;> rfl, Or.inr ⟨rfl, rfl, rfl, rfl⟩⟩
      ·
        refine wp_iconst (v := nI 1) (atd dX12_undo 83 rfl) (by decide) ?_
        refine wp_goto (tgt := 137) (atd dX12_undo 84 rfl) (by decide) ?_
        refine wp_putMz fX12_165 (atd dX12_undo 86 rfl) hM rfl (by decide) (fun σ hM => ?_)
        refine wp_aload_n (atd dX12_undo 87 rfl) rfl rfl ?_
        refine wp_aload_n (atd dX12_undo 88 rfl) rfl rfl ?_
        refine wp_get fX12_69 (atd dX12_undo 89 rfl) hM.1.1 rfl ?_
        refine wp_iload_n (atd dX12_undo 90 rfl) rfl ?_
        refine wp_bipush (v := nI 11) (atd dX12_undo 91 rfl) (by decide) ?_
        refine wp_iaddN (atd dX12_undo 92 rfl) ?_
        refine wp_ialdN (atd dX12_undo 93 rfl) hM.a18 (show _ < 240 from by omega) (Nat.le_of_ble_eq_true rfl) ?_
        rw [show B2 18 (20 * (a - 1) + 11) = B 18 (20 * (a - 1) + 11) from congrFun (hfb 18 (by decide)) _]
        refine wp_putM fX12_368 (atd dX12_undo 94 rfl) hM rfl (fun σ hM => ?_)
        refine wp_aload_n (atd dX12_undo 95 rfl) rfl rfl ?_
        refine wp_aload_n (atd dX12_undo 96 rfl) rfl rfl ?_
        refine wp_get fX12_69 (atd dX12_undo 97 rfl) hM.1.1 rfl ?_
        refine wp_iload_n (atd dX12_undo 98 rfl) rfl ?_
        refine wp_bipush (v := nI 12) (atd dX12_undo 99 rfl) (by decide) ?_
        refine wp_iaddN (atd dX12_undo 100 rfl) ?_
        refine wp_ialdN (atd dX12_undo 101 rfl) hM.a18 (show _ < 240 from by omega) (Nat.le_of_ble_eq_true rfl) ?_
        rw [show B2 18 (20 * (a - 1) + 12) = B 18 (20 * (a - 1) + 12) from congrFun (hfb 18 (by decide)) _]
        refine wp_putM fX12_359 (atd dX12_undo 102 rfl) hM rfl (fun σ hM => ?_)
        refine wp_aload_n (atd dX12_undo 103 rfl) rfl rfl ?_
        refine wp_aload_n (atd dX12_undo 104 rfl) rfl rfl ?_
        refine wp_get fX12_69 (atd dX12_undo 105 rfl) hM.1.1 rfl ?_
        refine wp_iload_n (atd dX12_undo 106 rfl) rfl ?_
        refine wp_bipush (v := nI 13) (atd dX12_undo 107 rfl) (by decide) ?_
        refine wp_iaddN (atd dX12_undo 108 rfl) ?_
        refine wp_ialdN (atd dX12_undo 109 rfl) hM.a18 (show _ < 240 from by omega) (Nat.le_of_ble_eq_true rfl) ?_
        rw [show B2 18 (20 * (a - 1) + 13) = B 18 (20 * (a - 1) + 13) from congrFun (hfb 18 (by decide)) _]
        refine wp_putM fX12_356 (atd dX12_undo 110 rfl) hM rfl (fun σ hM => ?_)
        refine wp_aload_n (atd dX12_undo 111 rfl) rfl rfl ?_
        refine wp_aload_n (atd dX12_undo 112 rfl) rfl rfl ?_
        refine wp_get fX12_69 (atd dX12_undo 113 rfl) hM.1.1 rfl ?_
        refine wp_iload_n (atd dX12_undo 114 rfl) rfl ?_
        refine wp_bipush (v := nI 14) (atd dX12_undo 115 rfl) (by decide) ?_
        refine wp_iaddN (atd dX12_undo 116 rfl) ?_
        refine wp_ialdN (atd dX12_undo 117 rfl) hM.a18 (show _ < 240 from by omega) (Nat.le_of_ble_eq_true rfl) ?_
        rw [show B2 18 (20 * (a - 1) + 14) = B 18 (20 * (a - 1) + 14) from congrFun (hfb 18 (by decide)) _]
        refine wp_putM fX12_362 (atd dX12_undo 118 rfl) hM rfl (fun σ hM => ?_)
        refine wp_aload_n (atd dX12_undo 119 rfl) rfl rfl ?_
        refine wp_aload_n (atd dX12_undo 120 rfl) rfl rfl ?_
        refine wp_get fX12_69 (atd dX12_undo 121 rfl) hM.1.1 rfl ?_
        refine wp_iload_n (atd dX12_undo 122 rfl) rfl ?_
        refine wp_bipush (v := nI 15) (atd dX12_undo 123 rfl) (by decide) ?_
        refine wp_iaddN (atd dX12_undo 124 rfl) ?_
        refine wp_ialdN (atd dX12_undo 125 rfl) hM.a18 (show _ < 240 from by omega) (Nat.le_of_ble_eq_true rfl) ?_
        rw [show B2 18 (20 * (a - 1) + 15) = B 18 (20 * (a - 1) + 15) from congrFun (hfb 18 (by decide)) _]
        refine wp_putM fX12_365 (atd dX12_undo 126 rfl) hM rfl (fun σ hM => ?_)
        refine wp_aload_n (atd dX12_undo 127 rfl) rfl rfl ?_
        refine wp_aload_n (atd dX12_undo 128 rfl) rfl rfl ?_
        refine wp_get fX12_69 (atd dX12_undo 129 rfl) hM.1.1 rfl ?_
        refine wp_iload_n (atd dX12_undo 130 rfl) rfl ?_
        refine wp_bipush (v := nI 16) (atd dX12_undo 131 rfl) (by decide) ?_
        refine wp_iaddN (atd dX12_undo 132 rfl) ?_
        refine wp_ialdN (atd dX12_undo 133 rfl) hM.a18 (show _ < 240 from by omega) (Nat.le_of_ble_eq_true rfl) ?_
        rw [show B2 18 (20 * (a - 1) + 16) = B 18 (20 * (a - 1) + 16) from congrFun (hfb 18 (by decide)) _]
        refine wp_putM fX12_353 (atd dX12_undo 134 rfl) hM rfl (fun σ hM => ?_)
        refine wp_aload_n (atd dX12_undo 135 rfl) rfl rfl ?_
        refine wp_aload_n (atd dX12_undo 136 rfl) rfl rfl ?_
        refine wp_get fX12_69 (atd dX12_undo 137 rfl) hM.1.1 rfl ?_
        refine wp_iload_n (atd dX12_undo 138 rfl) rfl ?_
        refine wp_bipush (v := nI 17) (atd dX12_undo 139 rfl) (by decide) ?_
        refine wp_iaddN (atd dX12_undo 140 rfl) ?_
        refine wp_ialdN (atd dX12_undo 141 rfl) hM.a18 (show _ < 240 from by omega) (Nat.le_of_ble_eq_true rfl) ?_
        rw [show B2 18 (20 * (a - 1) + 17) = B 18 (20 * (a - 1) + 17) from congrFun (hfb 18 (by decide)) _]
        refine wp_putM fX12_374 (atd dX12_undo 142 rfl) hM rfl (fun σ hM => ?_)
        refine wp_aload_n (atd dX12_undo 143 rfl) rfl rfl ?_
        refine wp_aload_n (atd dX12_undo 144 rfl) rfl rfl ?_
        refine wp_get fX12_69 (atd dX12_undo 145 rfl) hM.1.1 rfl ?_
        refine wp_iload_n (atd dX12_undo 146 rfl) rfl ?_
        refine wp_bipush (v := nI 18) (atd dX12_undo 147 rfl) (by decide) ?_
        refine wp_iaddN (atd dX12_undo 148 rfl) ?_
        refine wp_ialdN (atd dX12_undo 149 rfl) hM.a18 (show _ < 240 from by omega) (Nat.le_of_ble_eq_true rfl) ?_
        rw [show B2 18 (20 * (a - 1) + 18) = B 18 (20 * (a - 1) + 18) from congrFun (hfb 18 (by decide)) _]
        refine wp_putM fX12_377 (atd dX12_undo 150 rfl) hM rfl (fun σ hM => ?_)
        refine wp_iload_n (atd dX12_undo 151 rfl) rfl ?_
        refine wp_ifN_ne (tgt := 252) (atd dX12_undo 152 rfl) (by decide) (by omega) (fun c_245 => ?_) (fun c_245 => ?_)
        ·
          refine wp_iconst (v := nI 1) (atd dX12_undo 155 rfl) (by decide) ?_
          refine wp_iretz (atd dX12_undo 156 rfl) rfl (by first | rfl | decide) ?_
          refine ⟨rfl, _, B2, hM, ((((((((((((frm.rf.up (by decide)).up (by decide)).up (by decide)).up (by decide)).up (by decide)).up (by decide)).up (by decide)).up (by decide)).up (by decide)).up (by decide)).up (by decide)).up (by decide)), hfb, rfl, rfl, rfl, fun p hp => hu.1 p hp, (bI_t (Classical.not_not.mp c_129)).symm, fun j h1 h2 => by rcases (show j = 11 ∨ j = 12 ∨ j = 13 ∨ j = 14 ∨ j = 15 ∨ j = 16 ∨ j = 17 ∨ j = 18 by omega) with rfl | rfl | rfl | rfl | rfl | rfl | rfl | rfl <;> rfl, Or.inl ⟨(hl.2 (by have := hl.1; omega)).1.symm, fun p hp => by rw [hu.1 p hp]; exact ((hl.2 (by have := hl.1; omega)).2 p hp).symm, rfl, rfl, rfl, rfl⟩⟩
        ·
          refine wp_aload_n (atd dX12_undo 153 rfl) rfl rfl ?_
          refine wp_cVv hdd [] (atd dX12_undo 154 rfl) iX12_another lX12_169 rfl rfl (Nat.le_of_ble_eq_true rfl) hM.1.1 rfl (eX12_another (by omega) hM.self) (fun s_249 h_249 => ?_)
          have hM := hM.trans h_249
          refine wp_iconst (v := nI 1) (atd dX12_undo 155 rfl) (by decide) ?_
          refine wp_iretz (atd dX12_undo 156 rfl) rfl (by first | rfl | decide) ?_
          refine ⟨rfl, _, B2, hM, ((((((((((((((((frm.rf.up (by decide)).up (by decide)).up (by decide)).up (by decide)).up (by decide)).up (by decide)).up (by decide)).up (by decide)).up (by decide)).up (by decide)).up (by decide)).up (by decide)).up (by decide)).up (by decide)).up (by decide)).up (by decide)), hfb, rfl, rfl, rfl, fun p hp => hu.1 p hp, (bI_t (Classical.not_not.mp c_129)).symm, fun j h1 h2 => by rcases (show j = 11 ∨ j = 12 ∨ j = 13 ∨ j = 14 ∨ j = 15 ∨ j = 16 ∨ j = 17 ∨ j = 18 by omega) with rfl | rfl | rfl | rfl | rfl | rfl | rfl | rfl <;> rfl, Or.inr ⟨rfl, rfl, rfl, rfl⟩⟩
    ·
      refine wp_iconst (v := nI 1) (atd dX12_undo 26 rfl) (by decide) ?_
      refine wp_goto (tgt := 50) (atd dX12_undo 27 rfl) (by decide) ?_
      refine wp_istore_n (atd dX12_undo 29 rfl) (Nat.le_of_ble_eq_true rfl) ?_
      refine wp_aload_n (atd dX12_undo 30 rfl) rfl rfl ?_
      refine wp_aload_n (atd dX12_undo 31 rfl) rfl rfl ?_
      refine wp_get fX12_69 (atd dX12_undo 32 rfl) hM.1.1 rfl ?_
      refine wp_iload_n (atd dX12_undo 33 rfl) rfl ?_
      refine wp_ialdN (atd dX12_undo 34 rfl) hM.a18 (show _ < 240 from by omega) (Nat.le_of_ble_eq_true rfl) ?_
      refine wp_putM fX12_78 (atd dX12_undo 35 rfl) hM rfl (fun σ hM => ?_)
      refine wp_iconst (v := nI 0) (atd dX12_undo 36 rfl) (by decide) ?_
      refine wp_istore_n (atd dX12_undo 37 rfl) (Nat.le_of_ble_eq_true rfl) ?_
      refine lX12_undo1 (α0 := α) (R := fun j => B 18 (20 * (a - 1) + j)) (a := a - 1) (by omega) (fun j hj => rfl) (fun σ2 B2 t e3 hM hfb hu hl => ?_) 9 _ B 1 0 hM frm.rf ⟨fun x hx => absurd hx (Nat.not_lt_zero x), fun x _ => rfl⟩ ⟨by omega, fun z => ⟨Classical.not_not.mp c_42, fun x hx => absurd hx (Nat.not_lt_zero x)⟩⟩ (by omega)
      have hl1 := hl.1
      refine wp_aload_n (atd dX12_undo 74 rfl) rfl rfl ?_
      refine wp_aload_n (atd dX12_undo 75 rfl) rfl rfl ?_
      refine wp_get fX12_69 (atd dX12_undo 76 rfl) hM.1.1 rfl ?_
      refine wp_iload_n (atd dX12_undo 77 rfl) rfl ?_
      refine wp_bipush (v := nI 10) (atd dX12_undo 78 rfl) (by decide) ?_
      refine wp_iaddN (atd dX12_undo 79 rfl) ?_
      refine wp_ialdN (atd dX12_undo 80 rfl) hM.a18 (show _ < 240 from by omega) (Nat.le_of_ble_eq_true rfl) ?_
      rw [show B2 18 (20 * (a - 1) + 10) = B 18 (20 * (a - 1) + 10) from congrFun (hfb 18 (by decide)) _]
      refine wp_iconst (v := nI 1) (atd dX12_undo 81 rfl) (by decide) ?_
      refine wp_icmp_ne (tgt := 136) (atd dX12_undo 82 rfl) (by decide) (fun c_129 => ?_) (fun c_129 => ?_)
      ·
        refine wp_iconst (v := nI 0) (atd dX12_undo 85 rfl) (by decide) ?_
        refine wp_putMz fX12_165 (atd dX12_undo 86 rfl) hM rfl (by decide) (fun σ hM => ?_)
        refine wp_aload_n (atd dX12_undo 87 rfl) rfl rfl ?_
        refine wp_aload_n (atd dX12_undo 88 rfl) rfl rfl ?_
        refine wp_get fX12_69 (atd dX12_undo 89 rfl) hM.1.1 rfl ?_
        refine wp_iload_n (atd dX12_undo 90 rfl) rfl ?_
        refine wp_bipush (v := nI 11) (atd dX12_undo 91 rfl) (by decide) ?_
        refine wp_iaddN (atd dX12_undo 92 rfl) ?_
        refine wp_ialdN (atd dX12_undo 93 rfl) hM.a18 (show _ < 240 from by omega) (Nat.le_of_ble_eq_true rfl) ?_
        rw [show B2 18 (20 * (a - 1) + 11) = B 18 (20 * (a - 1) + 11) from congrFun (hfb 18 (by decide)) _]
        refine wp_putM fX12_368 (atd dX12_undo 94 rfl) hM rfl (fun σ hM => ?_)
        refine wp_aload_n (atd dX12_undo 95 rfl) rfl rfl ?_
        refine wp_aload_n (atd dX12_undo 96 rfl) rfl rfl ?_
        refine wp_get fX12_69 (atd dX12_undo 97 rfl) hM.1.1 rfl ?_
        refine wp_iload_n (atd dX12_undo 98 rfl) rfl ?_
        refine wp_bipush (v := nI 12) (atd dX12_undo 99 rfl) (by decide) ?_
        refine wp_iaddN (atd dX12_undo 100 rfl) ?_
        refine wp_ialdN (atd dX12_undo 101 rfl) hM.a18 (show _ < 240 from by omega) (Nat.le_of_ble_eq_true rfl) ?_
        rw [show B2 18 (20 * (a - 1) + 12) = B 18 (20 * (a - 1) + 12) from congrFun (hfb 18 (by decide)) _]
        refine wp_putM fX12_359 (atd dX12_undo 102 rfl) hM rfl (fun σ hM => ?_)
        refine wp_aload_n (atd dX12_undo 103 rfl) rfl rfl ?_
        refine wp_aload_n (atd dX12_undo 104 rfl) rfl rfl ?_
        refine wp_get fX12_69 (atd dX12_undo 105 rfl) hM.1.1 rfl ?_
        refine wp_iload_n (atd dX12_undo 106 rfl) rfl ?_
        refine wp_bipush (v := nI 13) (atd dX12_undo 107 rfl) (by decide) ?_
        refine wp_iaddN (atd dX12_undo 108 rfl) ?_
        refine wp_ialdN (atd dX12_undo 109 rfl) hM.a18 (show _ < 240 from by omega) (Nat.le_of_ble_eq_true rfl) ?_
        rw [show B2 18 (20 * (a - 1) + 13) = B 18 (20 * (a - 1) + 13) from congrFun (hfb 18 (by decide)) _]
        refine wp_putM fX12_356 (atd dX12_undo 110 rfl) hM rfl (fun σ hM => ?_)
        refine wp_aload_n (atd dX12_undo 111 rfl) rfl rfl ?_
        refine wp_aload_n (atd dX12_undo 112 rfl) rfl rfl ?_
        refine wp_get fX12_69 (atd dX12_undo 113 rfl) hM.1.1 rfl ?_
        refine wp_iload_n (atd dX12_undo 114 rfl) rfl ?_
        refine wp_bipush (v := nI 14) (atd dX12_undo 115 rfl) (by decide) ?_
        refine wp_iaddN (atd dX12_undo 116 rfl) ?_
        refine wp_ialdN (atd dX12_undo 117 rfl) hM.a18 (show _ < 240 from by omega) (Nat.le_of_ble_eq_true rfl) ?_
        rw [show B2 18 (20 * (a - 1) + 14) = B 18 (20 * (a - 1) + 14) from congrFun (hfb 18 (by decide)) _]
        refine wp_putM fX12_362 (atd dX12_undo 118 rfl) hM rfl (fun σ hM => ?_)
        refine wp_aload_n (atd dX12_undo 119 rfl) rfl rfl ?_
        refine wp_aload_n (atd dX12_undo 120 rfl) rfl rfl ?_
        refine wp_get fX12_69 (atd dX12_undo 121 rfl) hM.1.1 rfl ?_
        refine wp_iload_n (atd dX12_undo 122 rfl) rfl ?_
        refine wp_bipush (v := nI 15) (atd dX12_undo 123 rfl) (by decide) ?_
        refine wp_iaddN (atd dX12_undo 124 rfl) ?_
        refine wp_ialdN (atd dX12_undo 125 rfl) hM.a18 (show _ < 240 from by omega) (Nat.le_of_ble_eq_true rfl) ?_
        rw [show B2 18 (20 * (a - 1) + 15) = B 18 (20 * (a - 1) + 15) from congrFun (hfb 18 (by decide)) _]
        refine wp_putM fX12_365 (atd dX12_undo 126 rfl) hM rfl (fun σ hM => ?_)
        refine wp_aload_n (atd dX12_undo 127 rfl) rfl rfl ?_
        refine wp_aload_n (atd dX12_undo 128 rfl) rfl rfl ?_
        refine wp_get fX12_69 (atd dX12_undo 129 rfl) hM.1.1 rfl ?_
        refine wp_iload_n (atd dX12_undo 130 rfl) rfl ?_
        refine wp_bipush (v := nI 16) (atd dX12_undo 131 rfl) (by decide) ?_
        refine wp_iaddN (atd dX12_undo 132 rfl) ?_
        refine wp_ialdN (atd dX12_undo 133 rfl) hM.a18 (show _ < 240 from by omega) (Nat.le_of_ble_eq_true rfl) ?_
        rw [show B2 18 (20 * (a - 1) + 16) = B 18 (20 * (a - 1) + 16) from congrFun (hfb 18 (by decide)) _]
        refine wp_putM fX12_353 (atd dX12_undo 134 rfl) hM rfl (fun σ hM => ?_)
        refine wp_aload_n (atd dX12_undo 135 rfl) rfl rfl ?_
        refine wp_aload_n (atd dX12_undo 136 rfl) rfl rfl ?_
        refine wp_get fX12_69 (atd dX12_undo 137 rfl) hM.1.1 rfl ?_
        refine wp_iload_n (atd dX12_undo 138 rfl) rfl ?_
        refine wp_bipush (v := nI 17) (atd dX12_undo 139 rfl) (by decide) ?_
        refine wp_iaddN (atd dX12_undo 140 rfl) ?_
        refine wp_ialdN (atd dX12_undo 141 rfl) hM.a18 (show _ < 240 from by omega) (Nat.le_of_ble_eq_true rfl) ?_
        rw [show B2 18 (20 * (a - 1) + 17) = B 18 (20 * (a - 1) + 17) from congrFun (hfb 18 (by decide)) _]
        refine wp_putM fX12_374 (atd dX12_undo 142 rfl) hM rfl (fun σ hM => ?_)
        refine wp_aload_n (atd dX12_undo 143 rfl) rfl rfl ?_
        refine wp_aload_n (atd dX12_undo 144 rfl) rfl rfl ?_
        refine wp_get fX12_69 (atd dX12_undo 145 rfl) hM.1.1 rfl ?_
        refine wp_iload_n (atd dX12_undo 146 rfl) rfl ?_
        refine wp_bipush (v := nI 18) (atd dX12_undo 147 rfl) (by decide) ?_
        refine wp_iaddN (atd dX12_undo 148 rfl) ?_
        refine wp_ialdN (atd dX12_undo 149 rfl) hM.a18 (show _ < 240 from by omega) (Nat.le_of_ble_eq_true rfl) ?_
        rw [show B2 18 (20 * (a - 1) + 18) = B 18 (20 * (a - 1) + 18) from congrFun (hfb 18 (by decide)) _]
        refine wp_putM fX12_377 (atd dX12_undo 150 rfl) hM rfl (fun σ hM => ?_)
        refine wp_iload_n (atd dX12_undo 151 rfl) rfl ?_
        refine wp_ifN_ne (tgt := 252) (atd dX12_undo 152 rfl) (by decide) (by omega) (fun c_245 => ?_) (fun c_245 => ?_)
        ·
          refine wp_iconst (v := nI 1) (atd dX12_undo 155 rfl) (by decide) ?_
          refine wp_iretz (atd dX12_undo 156 rfl) rfl (by first | rfl | decide) ?_
          refine ⟨rfl, _, B2, hM, ((((((((((((frm.rf.up (by decide)).up (by decide)).up (by decide)).up (by decide)).up (by decide)).up (by decide)).up (by decide)).up (by decide)).up (by decide)).up (by decide)).up (by decide)).up (by decide)), hfb, rfl, rfl, rfl, fun p hp => hu.1 p hp, (bI_f c_129).symm, fun j h1 h2 => by rcases (show j = 11 ∨ j = 12 ∨ j = 13 ∨ j = 14 ∨ j = 15 ∨ j = 16 ∨ j = 17 ∨ j = 18 by omega) with rfl | rfl | rfl | rfl | rfl | rfl | rfl | rfl <;> rfl, Or.inl ⟨(hl.2 (by have := hl.1; omega)).1.symm, fun p hp => by rw [hu.1 p hp]; exact ((hl.2 (by have := hl.1; omega)).2 p hp).symm, rfl, rfl, rfl, rfl⟩⟩
        ·
          refine wp_aload_n (atd dX12_undo 153 rfl) rfl rfl ?_
          refine wp_cVv hdd [] (atd dX12_undo 154 rfl) iX12_another lX12_169 rfl rfl (Nat.le_of_ble_eq_true rfl) hM.1.1 rfl (eX12_another (by omega) hM.self) (fun s_249 h_249 => ?_)
          have hM := hM.trans h_249
          refine wp_iconst (v := nI 1) (atd dX12_undo 155 rfl) (by decide) ?_
          refine wp_iretz (atd dX12_undo 156 rfl) rfl (by first | rfl | decide) ?_
          refine ⟨rfl, _, B2, hM, ((((((((((((((((frm.rf.up (by decide)).up (by decide)).up (by decide)).up (by decide)).up (by decide)).up (by decide)).up (by decide)).up (by decide)).up (by decide)).up (by decide)).up (by decide)).up (by decide)).up (by decide)).up (by decide)).up (by decide)).up (by decide)), hfb, rfl, rfl, rfl, fun p hp => hu.1 p hp, (bI_f c_129).symm, fun j h1 h2 => by rcases (show j = 11 ∨ j = 12 ∨ j = 13 ∨ j = 14 ∨ j = 15 ∨ j = 16 ∨ j = 17 ∨ j = 18 by omega) with rfl | rfl | rfl | rfl | rfl | rfl | rfl | rfl <;> rfl, Or.inr ⟨rfl, rfl, rfl, rfl⟩⟩
      ·
        refine wp_iconst (v := nI 1) (atd dX12_undo 83 rfl) (by decide) ?_
        refine wp_goto (tgt := 137) (atd dX12_undo 84 rfl) (by decide) ?_
        refine wp_putMz fX12_165 (atd dX12_undo 86 rfl) hM rfl (by decide) (fun σ hM => ?_)
        refine wp_aload_n (atd dX12_undo 87 rfl) rfl rfl ?_
        refine wp_aload_n (atd dX12_undo 88 rfl) rfl rfl ?_
        refine wp_get fX12_69 (atd dX12_undo 89 rfl) hM.1.1 rfl ?_
        refine wp_iload_n (atd dX12_undo 90 rfl) rfl ?_
        refine wp_bipush (v := nI 11) (atd dX12_undo 91 rfl) (by decide) ?_
        refine wp_iaddN (atd dX12_undo 92 rfl) ?_
        refine wp_ialdN (atd dX12_undo 93 rfl) hM.a18 (show _ < 240 from by omega) (Nat.le_of_ble_eq_true rfl) ?_
        rw [show B2 18 (20 * (a - 1) + 11) = B 18 (20 * (a - 1) + 11) from congrFun (hfb 18 (by decide)) _]
        refine wp_putM fX12_368 (atd dX12_undo 94 rfl) hM rfl (fun σ hM => ?_)
        refine wp_aload_n (atd dX12_undo 95 rfl) rfl rfl ?_
        refine wp_aload_n (atd dX12_undo 96 rfl) rfl rfl ?_
        refine wp_get fX12_69 (atd dX12_undo 97 rfl) hM.1.1 rfl ?_
        refine wp_iload_n (atd dX12_undo 98 rfl) rfl ?_
        refine wp_bipush (v := nI 12) (atd dX12_undo 99 rfl) (by decide) ?_
        refine wp_iaddN (atd dX12_undo 100 rfl) ?_
        refine wp_ialdN (atd dX12_undo 101 rfl) hM.a18 (show _ < 240 from by omega) (Nat.le_of_ble_eq_true rfl) ?_
        rw [show B2 18 (20 * (a - 1) + 12) = B 18 (20 * (a - 1) + 12) from congrFun (hfb 18 (by decide)) _]
        refine wp_putM fX12_359 (atd dX12_undo 102 rfl) hM rfl (fun σ hM => ?_)
        refine wp_aload_n (atd dX12_undo 103 rfl) rfl rfl ?_
        refine wp_aload_n (atd dX12_undo 104 rfl) rfl rfl ?_
        refine wp_get fX12_69 (atd dX12_undo 105 rfl) hM.1.1 rfl ?_
        refine wp_iload_n (atd dX12_undo 106 rfl) rfl ?_
        refine wp_bipush (v := nI 13) (atd dX12_undo 107 rfl) (by decide) ?_
        refine wp_iaddN (atd dX12_undo 108 rfl) ?_
        refine wp_ialdN (atd dX12_undo 109 rfl) hM.a18 (show _ < 240 from by omega) (Nat.le_of_ble_eq_true rfl) ?_
        rw [show B2 18 (20 * (a - 1) + 13) = B 18 (20 * (a - 1) + 13) from congrFun (hfb 18 (by decide)) _]
        refine wp_putM fX12_356 (atd dX12_undo 110 rfl) hM rfl (fun σ hM => ?_)
        refine wp_aload_n (atd dX12_undo 111 rfl) rfl rfl ?_
        refine wp_aload_n (atd dX12_undo 112 rfl) rfl rfl ?_
        refine wp_get fX12_69 (atd dX12_undo 113 rfl) hM.1.1 rfl ?_
        refine wp_iload_n (atd dX12_undo 114 rfl) rfl ?_
        refine wp_bipush (v := nI 14) (atd dX12_undo 115 rfl) (by decide) ?_
        refine wp_iaddN (atd dX12_undo 116 rfl) ?_
        refine wp_ialdN (atd dX12_undo 117 rfl) hM.a18 (show _ < 240 from by omega) (Nat.le_of_ble_eq_true rfl) ?_
        rw [show B2 18 (20 * (a - 1) + 14) = B 18 (20 * (a - 1) + 14) from congrFun (hfb 18 (by decide)) _]
        refine wp_putM fX12_362 (atd dX12_undo 118 rfl) hM rfl (fun σ hM => ?_)
        refine wp_aload_n (atd dX12_undo 119 rfl) rfl rfl ?_
        refine wp_aload_n (atd dX12_undo 120 rfl) rfl rfl ?_
        refine wp_get fX12_69 (atd dX12_undo 121 rfl) hM.1.1 rfl ?_
        refine wp_iload_n (atd dX12_undo 122 rfl) rfl ?_
        refine wp_bipush (v := nI 15) (atd dX12_undo 123 rfl) (by decide) ?_
        refine wp_iaddN (atd dX12_undo 124 rfl) ?_
        refine wp_ialdN (atd dX12_undo 125 rfl) hM.a18 (show _ < 240 from by omega) (Nat.le_of_ble_eq_true rfl) ?_
        rw [show B2 18 (20 * (a - 1) + 15) = B 18 (20 * (a - 1) + 15) from congrFun (hfb 18 (by decide)) _]
        refine wp_putM fX12_365 (atd dX12_undo 126 rfl) hM rfl (fun σ hM => ?_)
        refine wp_aload_n (atd dX12_undo 127 rfl) rfl rfl ?_
        refine wp_aload_n (atd dX12_undo 128 rfl) rfl rfl ?_
        refine wp_get fX12_69 (atd dX12_undo 129 rfl) hM.1.1 rfl ?_
        refine wp_iload_n (atd dX12_undo 130 rfl) rfl ?_
        refine wp_bipush (v := nI 16) (atd dX12_undo 131 rfl) (by decide) ?_
        refine wp_iaddN (atd dX12_undo 132 rfl) ?_
        refine wp_ialdN (atd dX12_undo 133 rfl) hM.a18 (show _ < 240 from by omega) (Nat.le_of_ble_eq_true rfl) ?_
        rw [show B2 18 (20 * (a - 1) + 16) = B 18 (20 * (a - 1) + 16) from congrFun (hfb 18 (by decide)) _]
        refine wp_putM fX12_353 (atd dX12_undo 134 rfl) hM rfl (fun σ hM => ?_)
        refine wp_aload_n (atd dX12_undo 135 rfl) rfl rfl ?_
        refine wp_aload_n (atd dX12_undo 136 rfl) rfl rfl ?_
        refine wp_get fX12_69 (atd dX12_undo 137 rfl) hM.1.1 rfl ?_
        refine wp_iload_n (atd dX12_undo 138 rfl) rfl ?_
        refine wp_bipush (v := nI 17) (atd dX12_undo 139 rfl) (by decide) ?_
        refine wp_iaddN (atd dX12_undo 140 rfl) ?_
        refine wp_ialdN (atd dX12_undo 141 rfl) hM.a18 (show _ < 240 from by omega) (Nat.le_of_ble_eq_true rfl) ?_
        rw [show B2 18 (20 * (a - 1) + 17) = B 18 (20 * (a - 1) + 17) from congrFun (hfb 18 (by decide)) _]
        refine wp_putM fX12_374 (atd dX12_undo 142 rfl) hM rfl (fun σ hM => ?_)
        refine wp_aload_n (atd dX12_undo 143 rfl) rfl rfl ?_
        refine wp_aload_n (atd dX12_undo 144 rfl) rfl rfl ?_
        refine wp_get fX12_69 (atd dX12_undo 145 rfl) hM.1.1 rfl ?_
        refine wp_iload_n (atd dX12_undo 146 rfl) rfl ?_
        refine wp_bipush (v := nI 18) (atd dX12_undo 147 rfl) (by decide) ?_
        refine wp_iaddN (atd dX12_undo 148 rfl) ?_
        refine wp_ialdN (atd dX12_undo 149 rfl) hM.a18 (show _ < 240 from by omega) (Nat.le_of_ble_eq_true rfl) ?_
        rw [show B2 18 (20 * (a - 1) + 18) = B 18 (20 * (a - 1) + 18) from congrFun (hfb 18 (by decide)) _]
        refine wp_putM fX12_377 (atd dX12_undo 150 rfl) hM rfl (fun σ hM => ?_)
        refine wp_iload_n (atd dX12_undo 151 rfl) rfl ?_
        refine wp_ifN_ne (tgt := 252) (atd dX12_undo 152 rfl) (by decide) (by omega) (fun c_245 => ?_) (fun c_245 => ?_)
        ·
          refine wp_iconst (v := nI 1) (atd dX12_undo 155 rfl) (by decide) ?_
          refine wp_iretz (atd dX12_undo 156 rfl) rfl (by first | rfl | decide) ?_
          refine ⟨rfl, _, B2, hM, ((((((((((((frm.rf.up (by decide)).up (by decide)).up (by decide)).up (by decide)).up (by decide)).up (by decide)).up (by decide)).up (by decide)).up (by decide)).up (by decide)).up (by decide)).up (by decide)), hfb, rfl, rfl, rfl, fun p hp => hu.1 p hp, (bI_t (Classical.not_not.mp c_129)).symm, fun j h1 h2 => by rcases (show j = 11 ∨ j = 12 ∨ j = 13 ∨ j = 14 ∨ j = 15 ∨ j = 16 ∨ j = 17 ∨ j = 18 by omega) with rfl | rfl | rfl | rfl | rfl | rfl | rfl | rfl <;> rfl, Or.inl ⟨(hl.2 (by have := hl.1; omega)).1.symm, fun p hp => by rw [hu.1 p hp]; exact ((hl.2 (by have := hl.1; omega)).2 p hp).symm, rfl, rfl, rfl, rfl⟩⟩
        ·
          refine wp_aload_n (atd dX12_undo 153 rfl) rfl rfl ?_
          refine wp_cVv hdd [] (atd dX12_undo 154 rfl) iX12_another lX12_169 rfl rfl (Nat.le_of_ble_eq_true rfl) hM.1.1 rfl (eX12_another (by omega) hM.self) (fun s_249 h_249 => ?_)
          have hM := hM.trans h_249
          refine wp_iconst (v := nI 1) (atd dX12_undo 155 rfl) (by decide) ?_
          refine wp_iretz (atd dX12_undo 156 rfl) rfl (by first | rfl | decide) ?_
          refine ⟨rfl, _, B2, hM, ((((((((((((((((frm.rf.up (by decide)).up (by decide)).up (by decide)).up (by decide)).up (by decide)).up (by decide)).up (by decide)).up (by decide)).up (by decide)).up (by decide)).up (by decide)).up (by decide)).up (by decide)).up (by decide)).up (by decide)).up (by decide)), hfb, rfl, rfl, rfl, fun p hp => hu.1 p hp, (bI_t (Classical.not_not.mp c_129)).symm, fun j h1 h2 => by rcases (show j = 11 ∨ j = 12 ∨ j = 13 ∨ j = 14 ∨ j = 15 ∨ j = 16 ∨ j = 17 ∨ j = 18 by omega) with rfl | rfl | rfl | rfl | rfl | rfl | rfl | rfl <;> rfl, Or.inr ⟨rfl, rfl, rfl, rfl⟩⟩
  · exfalso; omega
