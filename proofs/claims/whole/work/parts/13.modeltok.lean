/-! the tape: bytes tp, sz of them are read -/
def bA (tp : Nat → Nat) (sz k : Nat) : Int32 := if k < sz then nI (tp k) else -1
theorem bA_t {tp : Nat → Nat} {sz k : Nat} (h : k < sz) : bA tp sz k = nI (tp k) := if_pos h
theorem bA_f {tp : Nat → Nat} {sz k : Nat} (h : ¬ k < sz) : bA tp sz k = -1 := if_neg h
def ltr (c : Nat) : Prop := 97 ≤ c ∧ c ≤ 122
def skp (tp : Nat → Nat) (sz : Nat) : Nat → Nat → Nat
  | 0, k => k
  | f + 1, k => if k < sz ∧ (tp k = 32 ∨ tp k = 10) then skp tp sz f (k + 1) else k
def wrd (tp : Nat → Nat) (sz a : Nat) : Nat → Nat → Int32 → Nat × Int32
  | 0, b, v => (b, v)
  | f + 1, b, v => if b < sz ∧ 97 ≤ tp b ∧ tp b ≤ 122 then wrd tp sz a f (b + 1) (if b - a < 6 then v * nI 32 + nI (tp b) - nI 96 else -1) else (b, v)
abbrev Tok : Type := Nat × Nat × Nat × Int32
def tokM (tp : Nat → Nat) (sz b : Nat) : Tok :=
  if skp tp sz 600 b < sz then
    (if 97 ≤ tp (skp tp sz 600 b) ∧ tp (skp tp sz 600 b) ≤ 122 then (skp tp sz 600 b, (wrd tp sz (skp tp sz 600 b) 600 (skp tp sz 600 b) (nI 0)).1, (if (wrd tp sz (skp tp sz 600 b) 600 (skp tp sz 600 b) (nI 0)).1 ≤ skp tp sz 600 b + 6 then 1 else 3), (wrd tp sz (skp tp sz 600 b) 600 (skp tp sz 600 b) (nI 0)).2)
    else (skp tp sz 600 b, skp tp sz 600 b + 1, (if tp (skp tp sz 600 b) = 59 then 2 else 3), nI 0))
  else (skp tp sz 600 b, skp tp sz 600 b, 0, nI 0)
def setT (α : Nat → Int32) (T : Tok) : Nat → Int32 := upd (upd (upd (upd α 8 (nI T.1)) 9 (nI T.2.1)) 10 (nI T.2.2.1)) 11 T.2.2.2
theorem setT_of {α α1 : Nat → Int32} {T : Tok} (h : frm [8, 9, 10, 11] α α1) (h8 : α1 8 = nI T.1) (h9 : α1 9 = nI T.2.1) (h10 : α1 10 = nI T.2.2.1) (h11 : α1 11 = T.2.2.2) : α1 = setT α T := by
  funext j
  by_cases e8 : j = 8
  · subst e8; exact h8
  by_cases e9 : j = 9
  · subst e9; exact h9
  by_cases e10 : j = 10
  · subst e10; exact h10
  by_cases e11 : j = 11
  · subst e11; exact h11
  · rw [h j (by simp [e8, e9, e10, e11])]
    simp [setT, upd, e8, e9, e10, e11]
theorem MA.toT {σ0 s : Hp} {m : Nat} {α α1 : Nat → Int32} {B : Nat → Nat → Int32} (hM : MA σ0 s m α1 B) {T : Tok} (h : frm [8, 9, 10, 11] α α1) (h8 : α1 8 = nI T.1) (h9 : α1 9 = nI T.2.1) (h10 : α1 10 = nI T.2.2.1) (h11 : α1 11 = T.2.2.2) : MA σ0 s m (setT α T) B := by
  rw [← setT_of h h8 h9 h10 h11]; exact hM
theorem skp_le {tp : Nat → Nat} {sz : Nat} : ∀ {f k : Nat}, k ≤ sz → k ≤ skp tp sz f k ∧ skp tp sz f k ≤ sz
  | 0, k, h => ⟨Nat.le_refl _, h⟩
  | f + 1, k, h => by
    unfold skp
    split
    · have := skp_le (tp := tp) (sz := sz) (f := f) (k := k + 1) (by omega); omega
    · exact ⟨Nat.le_refl _, h⟩
theorem wrd_le {tp : Nat → Nat} {sz a : Nat} : ∀ {f b : Nat} {v : Int32}, b ≤ sz → b ≤ (wrd tp sz a f b v).1 ∧ (wrd tp sz a f b v).1 ≤ sz
  | 0, b, v, h => ⟨Nat.le_refl _, h⟩
  | f + 1, b, v, h => by
    unfold wrd
    split
    · have := wrd_le (tp := tp) (sz := sz) (a := a) (f := f) (b := b + 1) (v := if b - a < 6 then v * nI 32 + nI (tp b) - nI 96 else -1) (by omega); omega
    · exact ⟨Nat.le_refl _, h⟩
theorem eX12_byteAt {G : Gx} {d : Nat} {σ : Hp} (hd : 0 ≤ d) {m sz : Nat} {tp : Nat → Nat} (hsz : sz ≤ 600) (ht : ∀ k, tp k < 256) {α : Nat → Int32} {B : Nat → Nat → Int32} {k : Nat} (hM : MA σ σ m α B) (h7 : α 7 = nI sz) (hB : ∀ j, j < sz → B 2 j = nI (tp j)) (hk : k < 2 ^ 31) : Cl G mX12_byteAt d [.ref m, .int (nI k)] σ 0 0 (pI fun r s => r = bA tp sz k ∧ s = σ) := by
  refine cl_of (by decide) (by simp [Value.category]) (Nat.le_of_ble_eq_true rfl) ?_
  show Wp G mX12_byteAt d 0 [.ref m, .int (nI k)] [] σ 0 0 _
  refine wp_iload_n (atd dX12_byteAt 0 rfl) rfl ?_
  refine wp_aload_n (atd dX12_byteAt 1 rfl) rfl rfl ?_
  refine wp_get fX12_92 (atd dX12_byteAt 2 rfl) hM.1.1 (congrArg (fun z => some (Value.int z)) h7) ?_
  refine wp_icmpN_ge (tgt := 17) (atd dX12_byteAt 3 rfl) (by decide) (by omega) (by omega) (fun c_5 => ?_) (fun c_5 => ?_)
  ·
    refine wp_iconst (v := -1) (atd dX12_byteAt 9 rfl) (by decide) ?_
    refine wp_ireti (atd dX12_byteAt 10 rfl) rfl ?_
    exact ⟨(bA_f (by omega)).symm, rfl⟩
  ·
    refine wp_aload_n (atd dX12_byteAt 4 rfl) rfl rfl ?_
    refine wp_get fX12_13 (atd dX12_byteAt 5 rfl) hM.1.1 rfl ?_
    refine wp_iload_n (atd dX12_byteAt 6 rfl) rfl ?_
    refine wp_ialdN (atd dX12_byteAt 7 rfl) hM.a2 (show _ < 600 from by omega) (Nat.le_of_ble_eq_true rfl) ?_
    rw [hB k c_5]
    refine wp_goto (tgt := 18) (atd dX12_byteAt 8 rfl) (by decide) ?_
    refine wp_ireti (atd dX12_byteAt 10 rfl) rfl ?_
    exact ⟨(bA_t c_5).symm, rfl⟩
theorem eX12_isSmall {G : Gx} {d : Nat} {σ : Hp} (hd : 0 ≤ d) {x : Int32} : Cl G mX12_isSmall d [.int x] σ 0 0 (pI fun r s => r = bI (¬ x < nI 97 ∧ ¬ nI 122 < x) ∧ s = σ) := by
  refine cl_of (by decide) (by simp [Value.category]) (Nat.le_of_ble_eq_true rfl) ?_
  show Wp G mX12_isSmall d 0 [.int x] [] σ 0 0 _
  refine wp_iload_n (atd dX12_isSmall 0 rfl) rfl ?_
  refine wp_bipush (v := nI 97) (atd dX12_isSmall 1 rfl) (by decide) ?_
  refine wp_icmp_lt (tgt := 16) (atd dX12_isSmall 2 rfl) (by decide) (fun c_3 => ?_) (fun c_3 => ?_)
  ·
    refine wp_iconst (v := nI 0) (atd dX12_isSmall 8 rfl) (by decide) ?_
    refine wp_iretz (atd dX12_isSmall 9 rfl) rfl (by first | rfl | decide) ?_
    exact ⟨by simp [bI, *], rfl⟩
  ·
    refine wp_iload_n (atd dX12_isSmall 3 rfl) rfl ?_
    refine wp_bipush (v := nI 122) (atd dX12_isSmall 4 rfl) (by decide) ?_
    refine wp_icmp_gt (tgt := 16) (atd dX12_isSmall 5 rfl) (by decide) (fun c_9 => ?_) (fun c_9 => ?_)
    ·
      refine wp_iconst (v := nI 0) (atd dX12_isSmall 8 rfl) (by decide) ?_
      refine wp_iretz (atd dX12_isSmall 9 rfl) rfl (by first | rfl | decide) ?_
      exact ⟨by simp [bI, *], rfl⟩
    ·
      refine wp_iconst (v := nI 1) (atd dX12_isSmall 6 rfl) (by decide) ?_
      refine wp_goto (tgt := 17) (atd dX12_isSmall 7 rfl) (by decide) ?_
      refine wp_iretz (atd dX12_isSmall 9 rfl) rfl (by first | rfl | decide) ?_
      exact ⟨by simp [bI, *], rfl⟩
theorem small_N {c : Nat} (hc : c < 256) : (¬ nI c < nI 97 ∧ ¬ nI 122 < nI c) ↔ (97 ≤ c ∧ c ≤ 122) := by
  rw [nI_ltI (by omega) (by omega), nI_ltI (by omega) (by omega)]; omega
theorem small_M : ¬ (¬ (-1 : Int32) < nI 97 ∧ ¬ nI 122 < (-1 : Int32)) := by decide
theorem lX12_next1 {G : Gx} {d : Nat} {Q : Option Value → Hp → Prop} {σ0 : Hp} (hd : 2 ≤ d) {m sz : Nat} {tp : Nat → Nat} (hsz : sz ≤ 600) (ht : ∀ k, tp k < 256) {α0 : Nat → Int32} {B : Nat → Nat → Int32} (hB : ∀ j, j < sz → B 2 j = nI (tp j)) (h70 : α0 7 = nI sz) {v : Nat} {e1 : Value} (hk : ∀ (σ : Hp) (α : Nat → Int32), MA σ0 σ m α B → frm [8, 9, 10, 11] α0 α → α 9 = nI v → Wp G mX12_next d 39 [.ref m, e1] [] σ 0 0 Q) : ∀ (f : Nat) (σ : Hp) (α : Nat → Int32) (b : Nat), MA σ0 σ m α B → frm [8, 9, 10, 11] α0 α → α 9 = nI b → b ≤ sz → sz ≤ b + f → skp tp sz f b = v → Wp G mX12_next d 0 [.ref m, e1] [] σ 0 0 Q := by
  obtain ⟨d0, hdd⟩ : ∃ e, d = e + 1 := ⟨d - 1, by omega⟩
  intro f
  induction f with
  | zero =>
    intro σ α b hM hfa h9 hb1 hb2 hv
    have h7 : α 7 = nI sz := (hfa 7 (by decide)).trans h70
    refine wp_aload_n (atd dX12_next 0 rfl) rfl rfl ?_
    refine wp_aload_n (atd dX12_next 1 rfl) rfl rfl ?_
    refine wp_get fX12_95 (atd dX12_next 2 rfl) hM.1.1 (congrArg (fun z => some (Value.int z)) h9) ?_
    refine wp_cVi hdd [_] (atd dX12_next 3 rfl) iX12_byteAt lX12_98 rfl rfl (Nat.le_of_ble_eq_true rfl) hM.1.1 rfl (eX12_byteAt (by omega) hsz ht hM.self h7 hB (by omega)) (fun r_5 s_5 h_5 => ?_)
    obtain ⟨rfl, rfl⟩ := h_5
    have hbs : ¬ b < sz := by omega
    rw [bA_f hbs]
    ·
      refine wp_bipush (v := nI 32) (atd dX12_next 4 rfl) (by decide) ?_
      refine wp_icmp_eq (tgt := 26) (atd dX12_next 5 rfl) (by decide) (fun c_10 => ?_) (fun c_10 => ?_)
      · exact absurd c_10 (by decide)
      ·
        refine wp_aload_n (atd dX12_next 6 rfl) rfl rfl ?_
        refine wp_aload_n (atd dX12_next 7 rfl) rfl rfl ?_
        refine wp_get fX12_95 (atd dX12_next 8 rfl) hM.1.1 (congrArg (fun z => some (Value.int z)) h9) ?_
        refine wp_cVi hdd [_] (atd dX12_next 9 rfl) iX12_byteAt lX12_98 rfl rfl (Nat.le_of_ble_eq_true rfl) hM.1.1 rfl (eX12_byteAt (by omega) hsz ht hM.self h7 hB (by omega)) (fun r_18 s_18 h_18 => ?_)
        obtain ⟨rfl, rfl⟩ := h_18
        rw [bA_f hbs]
        ·
          refine wp_bipush (v := nI 10) (atd dX12_next 10 rfl) (by decide) ?_
          refine wp_icmp_ne (tgt := 39) (atd dX12_next 11 rfl) (by decide) (fun c_23 => ?_) (fun c_23 => ?_)
          ·
            have e : b = v := hv
            subst e
            exact hk _ _ hM hfa h9
          · exact absurd c_23 (by decide)
  | succ f ih =>
    intro σ α b hM hfa h9 hb1 hb2 hv
    have h7 : α 7 = nI sz := (hfa 7 (by decide)).trans h70
    by_cases hbs : b < sz
    · have htb := ht b
      refine wp_aload_n (atd dX12_next 0 rfl) rfl rfl ?_
      refine wp_aload_n (atd dX12_next 1 rfl) rfl rfl ?_
      refine wp_get fX12_95 (atd dX12_next 2 rfl) hM.1.1 (congrArg (fun z => some (Value.int z)) h9) ?_
      refine wp_cVi hdd [_] (atd dX12_next 3 rfl) iX12_byteAt lX12_98 rfl rfl (Nat.le_of_ble_eq_true rfl) hM.1.1 rfl (eX12_byteAt (by omega) hsz ht hM.self h7 hB (by omega)) (fun r_5 s_5 h_5 => ?_)
      obtain ⟨rfl, rfl⟩ := h_5
      rw [bA_t hbs]
      ·
        refine wp_bipush (v := nI 32) (atd dX12_next 4 rfl) (by decide) ?_
        refine wp_icmpN_eq (tgt := 26) (atd dX12_next 5 rfl) (by decide) (by omega) (by omega) (fun c_10 => ?_) (fun c_10 => ?_)
        ·
          refine wp_aload_n (atd dX12_next 12 rfl) rfl rfl ?_
          refine wp_dup (atd dX12_next 13 rfl) rfl ?_
          refine wp_get fX12_95 (atd dX12_next 14 rfl) hM.1.1 (congrArg (fun z => some (Value.int z)) h9) ?_
          refine wp_iconst (v := nI 1) (atd dX12_next 15 rfl) (by decide) ?_
          refine wp_iaddN (atd dX12_next 16 rfl) ?_
          refine wp_putM fX12_95 (atd dX12_next 17 rfl) hM rfl (fun σ hM => ?_)
          refine wp_goto (tgt := 0) (atd dX12_next 18 rfl) (by decide) ?_
          refine ih σ _ (b + 1) hM (hfa.up (by decide)) rfl (by omega) (by omega) ?_
          rw [← hv]
          exact (if_pos ⟨hbs, Or.inl c_10⟩).symm
        ·
          refine wp_aload_n (atd dX12_next 6 rfl) rfl rfl ?_
          refine wp_aload_n (atd dX12_next 7 rfl) rfl rfl ?_
          refine wp_get fX12_95 (atd dX12_next 8 rfl) hM.1.1 (congrArg (fun z => some (Value.int z)) h9) ?_
          refine wp_cVi hdd [_] (atd dX12_next 9 rfl) iX12_byteAt lX12_98 rfl rfl (Nat.le_of_ble_eq_true rfl) hM.1.1 rfl (eX12_byteAt (by omega) hsz ht hM.self h7 hB (by omega)) (fun r_18 s_18 h_18 => ?_)
          obtain ⟨rfl, rfl⟩ := h_18
          rw [bA_t hbs]
          ·
            refine wp_bipush (v := nI 10) (atd dX12_next 10 rfl) (by decide) ?_
            refine wp_icmpN_ne (tgt := 39) (atd dX12_next 11 rfl) (by decide) (by omega) (by omega) (fun c_23 => ?_) (fun c_23 => ?_)
            ·
              refine hk _ _ hM hfa ?_
              rw [h9, ← hv]
              exact congrArg nI (if_neg (fun z => by omega)).symm
            ·
              refine wp_aload_n (atd dX12_next 12 rfl) rfl rfl ?_
              refine wp_dup (atd dX12_next 13 rfl) rfl ?_
              refine wp_get fX12_95 (atd dX12_next 14 rfl) hM.1.1 (congrArg (fun z => some (Value.int z)) h9) ?_
              refine wp_iconst (v := nI 1) (atd dX12_next 15 rfl) (by decide) ?_
              refine wp_iaddN (atd dX12_next 16 rfl) ?_
              refine wp_putM fX12_95 (atd dX12_next 17 rfl) hM rfl (fun σ hM => ?_)
              refine wp_goto (tgt := 0) (atd dX12_next 18 rfl) (by decide) ?_
              refine ih σ _ (b + 1) hM (hfa.up (by decide)) rfl (by omega) (by omega) ?_
              rw [← hv]
              exact (if_pos ⟨hbs, Or.inr c_23⟩).symm
    ·
      refine wp_aload_n (atd dX12_next 0 rfl) rfl rfl ?_
      refine wp_aload_n (atd dX12_next 1 rfl) rfl rfl ?_
      refine wp_get fX12_95 (atd dX12_next 2 rfl) hM.1.1 (congrArg (fun z => some (Value.int z)) h9) ?_
      refine wp_cVi hdd [_] (atd dX12_next 3 rfl) iX12_byteAt lX12_98 rfl rfl (Nat.le_of_ble_eq_true rfl) hM.1.1 rfl (eX12_byteAt (by omega) hsz ht hM.self h7 hB (by omega)) (fun r_5 s_5 h_5 => ?_)
      obtain ⟨rfl, rfl⟩ := h_5
      rw [bA_f hbs]
      ·
        refine wp_bipush (v := nI 32) (atd dX12_next 4 rfl) (by decide) ?_
        refine wp_icmp_eq (tgt := 26) (atd dX12_next 5 rfl) (by decide) (fun c_10 => ?_) (fun c_10 => ?_)
        · exact absurd c_10 (by decide)
        ·
          refine wp_aload_n (atd dX12_next 6 rfl) rfl rfl ?_
          refine wp_aload_n (atd dX12_next 7 rfl) rfl rfl ?_
          refine wp_get fX12_95 (atd dX12_next 8 rfl) hM.1.1 (congrArg (fun z => some (Value.int z)) h9) ?_
          refine wp_cVi hdd [_] (atd dX12_next 9 rfl) iX12_byteAt lX12_98 rfl rfl (Nat.le_of_ble_eq_true rfl) hM.1.1 rfl (eX12_byteAt (by omega) hsz ht hM.self h7 hB (by omega)) (fun r_18 s_18 h_18 => ?_)
          obtain ⟨rfl, rfl⟩ := h_18
          rw [bA_f hbs]
          ·
            refine wp_bipush (v := nI 10) (atd dX12_next 10 rfl) (by decide) ?_
            refine wp_icmp_ne (tgt := 39) (atd dX12_next 11 rfl) (by decide) (fun c_23 => ?_) (fun c_23 => ?_)
            ·
              refine hk _ _ hM hfa ?_
              rw [h9, ← hv]
              exact congrArg nI (if_neg (fun z => hbs z.1)).symm
            · exact absurd c_23 (by decide)
theorem nI_m1 {c : Nat} (h : c < 2 ^ 31) : nI c ≠ -1 := fun e => by
  have h1 := nI_pos h
  rw [e] at h1
  exact h1 (by decide)
theorem lX12_next2 {G : Gx} {d : Nat} {Q : Option Value → Hp → Prop} {σ0 : Hp} (hd : 2 ≤ d) {m sz : Nat} {tp : Nat → Nat} (hsz : sz ≤ 600) (ht : ∀ k, tp k < 256) {α0 : Nat → Int32} {B : Nat → Nat → Int32} (hB : ∀ j, j < sz → B 2 j = nI (tp j)) (h70 : α0 7 = nI sz) {a : Nat} {v : Nat × Int32} {e1 : Value} (hk : ∀ (σ : Hp) (α : Nat → Int32), MA σ0 σ m α B → frm [8, 9, 10, 11] α0 α → α 8 = nI a → α 9 = nI v.1 → α 11 = v.2 → Wp G mX12_next d 149 [.ref m, e1] [] σ 0 0 Q) : ∀ (f : Nat) (σ : Hp) (α : Nat → Int32) (b : Nat) (u : Int32), MA σ0 σ m α B → frm [8, 9, 10, 11] α0 α → α 8 = nI a → α 9 = nI b → α 11 = u → a ≤ b → b ≤ sz → sz ≤ b + f → wrd tp sz a f b u = v → Wp G mX12_next d 81 [.ref m, e1] [] σ 0 0 Q := by
  obtain ⟨d0, hdd⟩ : ∃ e, d = e + 1 := ⟨d - 1, by omega⟩
  intro f
  induction f with
  | zero =>
    intro σ α b u hM hfa h8 h9 h11 hab hb1 hb2 hv
    have h7 : α 7 = nI sz := (hfa 7 (by decide)).trans h70
    have hbs : ¬ b < sz := by omega
    refine wp_aload_n (atd dX12_next 41 rfl) rfl rfl ?_
    refine wp_aload_n (atd dX12_next 42 rfl) rfl rfl ?_
    refine wp_get fX12_95 (atd dX12_next 43 rfl) hM.1.1 (congrArg (fun z => some (Value.int z)) h9) ?_
    refine wp_cVi hdd [_] (atd dX12_next 44 rfl) iX12_byteAt lX12_98 rfl rfl (Nat.le_of_ble_eq_true rfl) hM.1.1 rfl (eX12_byteAt (by omega) hsz ht hM.self h7 hB (by omega)) (fun r_86 s_86 h_86 => ?_)
    obtain ⟨rfl, rfl⟩ := h_86
    rw [bA_f hbs]
    refine wp_cSi hdd [_] (atd dX12_next 45 rfl) iX12_isSmall lX12_111 rfl rfl (Nat.le_of_ble_eq_true rfl) (eX12_isSmall (by omega)) (fun r_89 s_89 h_89 => ?_)
    obtain ⟨rfl, rfl⟩ := h_89
    rw [bI_f small_M]
    refine wp_ifN_eq (tgt := 149) (atd dX12_next 46 rfl) (by decide) (by omega) (fun c_92 => ?_) (fun c_92 => ?_)
    ·
      subst hv
      exact hk _ _ hM hfa h8 h9 h11
    · exact absurd c_92 (by decide)
  | succ f ih =>
    intro σ α b u hM hfa h8 h9 h11 hab hb1 hb2 hv
    have h7 : α 7 = nI sz := (hfa 7 (by decide)).trans h70
    by_cases hbs : b < sz
    · have htb := ht b
      refine wp_aload_n (atd dX12_next 41 rfl) rfl rfl ?_
      refine wp_aload_n (atd dX12_next 42 rfl) rfl rfl ?_
      refine wp_get fX12_95 (atd dX12_next 43 rfl) hM.1.1 (congrArg (fun z => some (Value.int z)) h9) ?_
      refine wp_cVi hdd [_] (atd dX12_next 44 rfl) iX12_byteAt lX12_98 rfl rfl (Nat.le_of_ble_eq_true rfl) hM.1.1 rfl (eX12_byteAt (by omega) hsz ht hM.self h7 hB (by omega)) (fun r_86 s_86 h_86 => ?_)
      obtain ⟨rfl, rfl⟩ := h_86
      rw [bA_t hbs]
      refine wp_cSi hdd [_] (atd dX12_next 45 rfl) iX12_isSmall lX12_111 rfl rfl (Nat.le_of_ble_eq_true rfl) (eX12_isSmall (by omega)) (fun r_89 s_89 h_89 => ?_)
      obtain ⟨rfl, rfl⟩ := h_89
      rw [bI_c (small_N htb)]
      refine wp_ifB_eq (tgt := 149) (atd dX12_next 46 rfl) (by decide) (fun c_92 => ?_) (fun c_92 => ?_)
      ·
        have e : wrd tp sz a (f + 1) b u = (b, u) := if_neg (fun z => c_92 z.2)
        rw [e] at hv
        subst hv
        exact hk _ _ hM hfa h8 h9 h11
      ·
        refine wp_aload_n (atd dX12_next 47 rfl) rfl rfl ?_
        refine wp_aload_n (atd dX12_next 48 rfl) rfl rfl ?_
        refine wp_get fX12_95 (atd dX12_next 49 rfl) hM.1.1 (congrArg (fun z => some (Value.int z)) h9) ?_
        refine wp_aload_n (atd dX12_next 50 rfl) rfl rfl ?_
        refine wp_get fX12_102 (atd dX12_next 51 rfl) hM.1.1 (congrArg (fun z => some (Value.int z)) h8) ?_
        refine wp_isubN (atd dX12_next 52 rfl) (by omega) ?_
        refine wp_bipush (v := nI 6) (atd dX12_next 53 rfl) (by decide) ?_
        refine wp_icmpN_ge (tgt := 132) (atd dX12_next 54 rfl) (by decide) (by omega) (by omega) (fun c_107 => ?_) (fun c_107 => ?_)
        ·
          refine wp_iconst (v := -1) (atd dX12_next 67 rfl) (by decide) ?_
          refine wp_putM fX12_105 (atd dX12_next 68 rfl) hM rfl (fun σ hM => ?_)
          refine wp_aload_n (atd dX12_next 69 rfl) rfl rfl ?_
          refine wp_dup (atd dX12_next 70 rfl) rfl ?_
          refine wp_get fX12_95 (atd dX12_next 71 rfl) hM.1.1 (congrArg (fun z => some (Value.int z)) h9) ?_
          refine wp_iconst (v := nI 1) (atd dX12_next 72 rfl) (by decide) ?_
          refine wp_iaddN (atd dX12_next 73 rfl) ?_
          refine wp_putM fX12_95 (atd dX12_next 74 rfl) hM rfl (fun σ hM => ?_)
          refine wp_goto (tgt := 81) (atd dX12_next 75 rfl) (by decide) ?_
          refine ih _ _ (b + 1) _ hM ((hfa.up (by decide)).up (by decide)) h8 rfl rfl (by omega) (by omega) (by omega) ?_
          rw [← hv, show wrd tp sz a (f + 1) b u = wrd tp sz a f (b + 1) (if b - a < 6 then u * nI 32 + nI (tp b) - nI 96 else -1) from if_pos ⟨hbs, c_92⟩, if_neg (by omega)]
          rfl
        ·
          refine wp_aload_n (atd dX12_next 55 rfl) rfl rfl ?_
          refine wp_get fX12_105 (atd dX12_next 56 rfl) hM.1.1 (congrArg (fun z => some (Value.int z)) h11) ?_
          refine wp_bipush (v := nI 32) (atd dX12_next 57 rfl) (by decide) ?_
          refine wp_imul (atd dX12_next 58 rfl) ?_
          refine wp_aload_n (atd dX12_next 59 rfl) rfl rfl ?_
          refine wp_aload_n (atd dX12_next 60 rfl) rfl rfl ?_
          refine wp_get fX12_95 (atd dX12_next 61 rfl) hM.1.1 (congrArg (fun z => some (Value.int z)) h9) ?_
          refine wp_cVi hdd [_] (atd dX12_next 62 rfl) iX12_byteAt lX12_98 rfl rfl (Nat.le_of_ble_eq_true rfl) hM.1.1 rfl (eX12_byteAt (by omega) hsz ht hM.self h7 hB (by omega)) (fun r_122 s_122 h_122 => ?_)
          obtain ⟨rfl, rfl⟩ := h_122
          rw [bA_t hbs]
          refine wp_iadd (atd dX12_next 63 rfl) ?_
          refine wp_bipush (v := nI 96) (atd dX12_next 64 rfl) (by decide) ?_
          refine wp_isub (atd dX12_next 65 rfl) ?_
          refine wp_goto (tgt := 133) (atd dX12_next 66 rfl) (by decide) ?_
          refine wp_putM fX12_105 (atd dX12_next 68 rfl) hM rfl (fun σ hM => ?_)
          refine wp_aload_n (atd dX12_next 69 rfl) rfl rfl ?_
          refine wp_dup (atd dX12_next 70 rfl) rfl ?_
          refine wp_get fX12_95 (atd dX12_next 71 rfl) hM.1.1 (congrArg (fun z => some (Value.int z)) h9) ?_
          refine wp_iconst (v := nI 1) (atd dX12_next 72 rfl) (by decide) ?_
          refine wp_iaddN (atd dX12_next 73 rfl) ?_
          refine wp_putM fX12_95 (atd dX12_next 74 rfl) hM rfl (fun σ hM => ?_)
          refine wp_goto (tgt := 81) (atd dX12_next 75 rfl) (by decide) ?_
          refine ih _ _ (b + 1) _ hM ((hfa.up (by decide)).up (by decide)) h8 rfl rfl (by omega) (by omega) (by omega) ?_
          rw [← hv, show wrd tp sz a (f + 1) b u = wrd tp sz a f (b + 1) (if b - a < 6 then u * nI 32 + nI (tp b) - nI 96 else -1) from if_pos ⟨hbs, c_92⟩, if_pos c_107]
          rfl
    ·
      refine wp_aload_n (atd dX12_next 41 rfl) rfl rfl ?_
      refine wp_aload_n (atd dX12_next 42 rfl) rfl rfl ?_
      refine wp_get fX12_95 (atd dX12_next 43 rfl) hM.1.1 (congrArg (fun z => some (Value.int z)) h9) ?_
      refine wp_cVi hdd [_] (atd dX12_next 44 rfl) iX12_byteAt lX12_98 rfl rfl (Nat.le_of_ble_eq_true rfl) hM.1.1 rfl (eX12_byteAt (by omega) hsz ht hM.self h7 hB (by omega)) (fun r_86 s_86 h_86 => ?_)
      obtain ⟨rfl, rfl⟩ := h_86
      rw [bA_f hbs]
      refine wp_cSi hdd [_] (atd dX12_next 45 rfl) iX12_isSmall lX12_111 rfl rfl (Nat.le_of_ble_eq_true rfl) (eX12_isSmall (by omega)) (fun r_89 s_89 h_89 => ?_)
      obtain ⟨rfl, rfl⟩ := h_89
      rw [bI_f small_M]
      refine wp_ifN_eq (tgt := 149) (atd dX12_next 46 rfl) (by decide) (by omega) (fun c_92 => ?_) (fun c_92 => ?_)
      ·
        have e : wrd tp sz a (f + 1) b u = (b, u) := if_neg (fun z => hbs z.1)
        rw [e] at hv
        subst hv
        exact hk _ _ hM hfa h8 h9 h11
      · exact absurd c_92 (by decide)
theorem eX12_next {G : Gx} {d : Nat} {σ : Hp} (hd : 2 ≤ d) {m sz : Nat} {tp : Nat → Nat} (hsz : sz ≤ 600) (ht : ∀ k, tp k < 256) {α : Nat → Int32} {B : Nat → Nat → Int32} {b : Nat} (hM : MA σ σ m α B) (hB : ∀ j, j < sz → B 2 j = nI (tp j)) (h7 : α 7 = nI sz) (h9 : α 9 = nI b) (hb : b ≤ sz) : Cl G mX12_next d [.ref m] σ 0 0 (pV fun s => MA σ s m (setT α (tokM tp sz b)) B) := by
  obtain ⟨d0, hdd⟩ : ∃ e, d = e + 1 := ⟨d - 1, by omega⟩
  refine cl_of (by decide) (by simp [Value.category]) (Nat.le_of_ble_eq_true rfl) ?_
  show Wp G mX12_next d 0 [.ref m, .double 0] [] σ 0 0 _
  have hsk := skp_le (tp := tp) (f := 600) hb
  generalize hae : skp tp sz 600 b = a at hsk
  refine lX12_next1 hd hsz ht hB h7 (v := a) (fun σ1 α1 hM hfa h9 => ?_) 600 σ α b hM frm.rf h9 hb (by omega) hae
  have h7 : α1 7 = nI sz := (hfa 7 (by decide)).trans h7
  by_cases has : a < sz
  · have htb := ht a
    refine wp_aload_n (atd dX12_next 19 rfl) rfl rfl ?_
    refine wp_aload_n (atd dX12_next 20 rfl) rfl rfl ?_
    refine wp_get fX12_95 (atd dX12_next 21 rfl) hM.1.1 (congrArg (fun z => some (Value.int z)) h9) ?_
    refine wp_putM fX12_102 (atd dX12_next 22 rfl) hM rfl (fun σ hM => ?_)
    refine wp_aload_n (atd dX12_next 23 rfl) rfl rfl ?_
    refine wp_aload_n (atd dX12_next 24 rfl) rfl rfl ?_
    refine wp_get fX12_102 (atd dX12_next 25 rfl) hM.1.1 rfl ?_
    refine wp_cVi hdd [_] (atd dX12_next 26 rfl) iX12_byteAt lX12_98 rfl rfl (Nat.le_of_ble_eq_true rfl) hM.1.1 rfl (eX12_byteAt (by omega) hsz ht hM.self h7 hB (by omega)) (fun r_52 s_52 h_52 => ?_)
    obtain ⟨rfl, rfl⟩ := h_52
    rw [bA_t has]
    refine wp_istore_n (atd dX12_next 27 rfl) (Nat.le_of_ble_eq_true rfl) ?_
    refine wp_aload_n (atd dX12_next 28 rfl) rfl rfl ?_
    refine wp_iconst (v := nI 0) (atd dX12_next 29 rfl) (by decide) ?_
    refine wp_putM fX12_105 (atd dX12_next 30 rfl) hM rfl (fun σ hM => ?_)
    refine wp_iload_n (atd dX12_next 31 rfl) rfl ?_
    refine wp_iconst (v := -1) (atd dX12_next 32 rfl) (by decide) ?_
    refine wp_icmp_ne (tgt := 74) (atd dX12_next 33 rfl) (by decide) (fun c_63 => ?_) (fun c_63 => ?_)
    ·
      refine wp_iload_n (atd dX12_next 38 rfl) rfl ?_
      refine wp_cSi hdd [_] (atd dX12_next 39 rfl) iX12_isSmall lX12_111 rfl rfl (Nat.le_of_ble_eq_true rfl) (eX12_isSmall (by omega)) (fun r_75 s_75 h_75 => ?_)
      obtain ⟨rfl, rfl⟩ := h_75
      rw [bI_c (small_N htb)]
      refine wp_ifB_eq (tgt := 175) (atd dX12_next 40 rfl) (by decide) (fun c_78 => ?_) (fun c_78 => ?_)
      ·
        refine wp_aload_n (atd dX12_next 89 rfl) rfl rfl ?_
        refine wp_dup (atd dX12_next 90 rfl) rfl ?_
        refine wp_get fX12_95 (atd dX12_next 91 rfl) hM.1.1 (congrArg (fun z => some (Value.int z)) h9) ?_
        refine wp_iconst (v := nI 1) (atd dX12_next 92 rfl) (by decide) ?_
        refine wp_iaddN (atd dX12_next 93 rfl) ?_
        refine wp_putM fX12_95 (atd dX12_next 94 rfl) hM rfl (fun σ hM => ?_)
        refine wp_aload_n (atd dX12_next 95 rfl) rfl rfl ?_
        refine wp_iload_n (atd dX12_next 96 rfl) rfl ?_
        refine wp_bipush (v := nI 59) (atd dX12_next 97 rfl) (by decide) ?_
        refine wp_icmpN_ne (tgt := 196) (atd dX12_next 98 rfl) (by decide) (by omega) (by omega) (fun c_189 => ?_) (fun c_189 => ?_)
        ·
          refine wp_iconst (v := nI 3) (atd dX12_next 101 rfl) (by decide) ?_
          refine wp_putM fX12_108 (atd dX12_next 102 rfl) hM rfl (fun σ hM => ?_)
          refine wp_vretv (atd dX12_next 103 rfl) rfl ?_
          exact MA.toT hM (T := tokM tp sz b) (((((hfa.up (by decide)).up (by decide)).up (by decide)).up (by decide))) (by unfold tokM; rw [hae, if_pos has, if_neg c_78]; rfl) (by unfold tokM; rw [hae, if_pos has, if_neg c_78]; rfl) (by unfold tokM; rw [hae, if_pos has, if_neg c_78]; rw [if_neg c_189]; rfl) (by unfold tokM; rw [hae, if_pos has, if_neg c_78]; rfl)
        ·
          refine wp_iconst (v := nI 2) (atd dX12_next 99 rfl) (by decide) ?_
          refine wp_goto (tgt := 197) (atd dX12_next 100 rfl) (by decide) ?_
          refine wp_putM fX12_108 (atd dX12_next 102 rfl) hM rfl (fun σ hM => ?_)
          refine wp_vretv (atd dX12_next 103 rfl) rfl ?_
          exact MA.toT hM (T := tokM tp sz b) (((((hfa.up (by decide)).up (by decide)).up (by decide)).up (by decide))) (by unfold tokM; rw [hae, if_pos has, if_neg c_78]; rfl) (by unfold tokM; rw [hae, if_pos has, if_neg c_78]; rfl) (by unfold tokM; rw [hae, if_pos has, if_neg c_78]; rw [if_pos c_189]; rfl) (by unfold tokM; rw [hae, if_pos has, if_neg c_78]; rfl)
      ·
        refine lX12_next2 hd hsz ht hB (α0 := α) (by assumption) (a := a) (v := wrd tp sz a 600 a (nI 0)) (fun σ2 α2 hM hfa h8 h9 h11 => ?_) 600 _ _ a (nI 0) hM ((hfa.up (by decide)).up (by decide)) rfl h9 rfl (Nat.le_refl _) (by omega) (by omega) rfl
        have hwl := wrd_le (tp := tp) (sz := sz) (a := a) (f := 600) (b := a) (v := nI 0) (by omega)
        refine wp_aload_n (atd dX12_next 76 rfl) rfl rfl ?_
        refine wp_aload_n (atd dX12_next 77 rfl) rfl rfl ?_
        refine wp_get fX12_95 (atd dX12_next 78 rfl) hM.1.1 (congrArg (fun z => some (Value.int z)) h9) ?_
        refine wp_aload_n (atd dX12_next 79 rfl) rfl rfl ?_
        refine wp_get fX12_102 (atd dX12_next 80 rfl) hM.1.1 (congrArg (fun z => some (Value.int z)) h8) ?_
        refine wp_isubN (atd dX12_next 81 rfl) (by omega) ?_
        refine wp_bipush (v := nI 6) (atd dX12_next 82 rfl) (by decide) ?_
        refine wp_icmpN_le (tgt := 168) (atd dX12_next 83 rfl) (by decide) (by omega) (by omega) (fun c_161 => ?_) (fun c_161 => ?_)
        ·
          refine wp_iconst (v := nI 1) (atd dX12_next 86 rfl) (by decide) ?_
          refine wp_putM fX12_108 (atd dX12_next 87 rfl) hM rfl (fun σ hM => ?_)
          refine wp_goto (tgt := 200) (atd dX12_next 88 rfl) (by decide) ?_
          refine wp_vretv (atd dX12_next 103 rfl) rfl ?_
          exact MA.toT hM (T := tokM tp sz b) (hfa.up (by decide)) (by unfold tokM; rw [hae, if_pos has, if_pos c_78]; exact h8) (by unfold tokM; rw [hae, if_pos has, if_pos c_78]; exact h9) (by unfold tokM; rw [hae, if_pos has, if_pos c_78]; rw [if_pos (by omega)]; rfl) (by unfold tokM; rw [hae, if_pos has, if_pos c_78]; exact h11)
        ·
          refine wp_iconst (v := nI 3) (atd dX12_next 84 rfl) (by decide) ?_
          refine wp_goto (tgt := 169) (atd dX12_next 85 rfl) (by decide) ?_
          refine wp_putM fX12_108 (atd dX12_next 87 rfl) hM rfl (fun σ hM => ?_)
          refine wp_goto (tgt := 200) (atd dX12_next 88 rfl) (by decide) ?_
          refine wp_vretv (atd dX12_next 103 rfl) rfl ?_
          exact MA.toT hM (T := tokM tp sz b) (hfa.up (by decide)) (by unfold tokM; rw [hae, if_pos has, if_pos c_78]; exact h8) (by unfold tokM; rw [hae, if_pos has, if_pos c_78]; exact h9) (by unfold tokM; rw [hae, if_pos has, if_pos c_78]; rw [if_neg (by omega)]; rfl) (by unfold tokM; rw [hae, if_pos has, if_pos c_78]; exact h11)
    · exact absurd (Classical.not_not.mp c_63) (nI_m1 (by omega))
  ·
    refine wp_aload_n (atd dX12_next 19 rfl) rfl rfl ?_
    refine wp_aload_n (atd dX12_next 20 rfl) rfl rfl ?_
    refine wp_get fX12_95 (atd dX12_next 21 rfl) hM.1.1 (congrArg (fun z => some (Value.int z)) h9) ?_
    refine wp_putM fX12_102 (atd dX12_next 22 rfl) hM rfl (fun σ hM => ?_)
    refine wp_aload_n (atd dX12_next 23 rfl) rfl rfl ?_
    refine wp_aload_n (atd dX12_next 24 rfl) rfl rfl ?_
    refine wp_get fX12_102 (atd dX12_next 25 rfl) hM.1.1 rfl ?_
    refine wp_cVi hdd [_] (atd dX12_next 26 rfl) iX12_byteAt lX12_98 rfl rfl (Nat.le_of_ble_eq_true rfl) hM.1.1 rfl (eX12_byteAt (by omega) hsz ht hM.self h7 hB (by omega)) (fun r_52 s_52 h_52 => ?_)
    obtain ⟨rfl, rfl⟩ := h_52
    rw [bA_f has]
    refine wp_istore_n (atd dX12_next 27 rfl) (Nat.le_of_ble_eq_true rfl) ?_
    refine wp_aload_n (atd dX12_next 28 rfl) rfl rfl ?_
    refine wp_iconst (v := nI 0) (atd dX12_next 29 rfl) (by decide) ?_
    refine wp_putM fX12_105 (atd dX12_next 30 rfl) hM rfl (fun σ hM => ?_)
    refine wp_iload_n (atd dX12_next 31 rfl) rfl ?_
    refine wp_iconst (v := -1) (atd dX12_next 32 rfl) (by decide) ?_
    refine wp_icmp_ne (tgt := 74) (atd dX12_next 33 rfl) (by decide) (fun c_63 => ?_) (fun c_63 => ?_)
    · exact absurd rfl c_63
    ·
      refine wp_aload_n (atd dX12_next 34 rfl) rfl rfl ?_
      refine wp_iconst (v := nI 0) (atd dX12_next 35 rfl) (by decide) ?_
      refine wp_putM fX12_108 (atd dX12_next 36 rfl) hM rfl (fun σ hM => ?_)
      refine wp_goto (tgt := 200) (atd dX12_next 37 rfl) (by decide) ?_
      refine wp_vretv (atd dX12_next 103 rfl) rfl ?_
      exact MA.toT hM (T := tokM tp sz b) (((hfa.up (by decide)).up (by decide)).up (by decide)) (by unfold tokM; rw [hae, if_neg has]; rfl) (by unfold tokM; rw [hae, if_neg has]; exact h9) (by unfold tokM; rw [hae, if_neg has]; rfl) (by unfold tokM; rw [hae, if_neg has]; rfl)
