/-! symmetries: all ways of numbering anew, tried one by one -/
def fitG (nb : Nat → Nat) (k v : Nat) (f : Nat → Nat) : Nat → Nat → Bool
  | 0, _ => decide (cnt (nb k) = cnt (nb v))
  | g + 1, i => if f i = v ∨ (nb k).testBit i ≠ (nb v).testBit (f i) then false else fitG nb k v f g (i + 1)
def fitB (nb : Nat → Nat) (k v : Nat) (f : Nat → Nat) : Bool := fitG nb k v f k 0
abbrev Sy : Type := Nat × (Nat → Nat)
def syD (nb : Nat → Nat) (n : Nat) : Nat → Nat → (Nat → Nat) → Sy → Sy
  | 0, _, f, s => (s.1 + 1, fun p => if p < n then s.2 p ||| 2 ^ f p else s.2 p)
  | r + 1, k, f, s => fl (fun v s => if fitB nb k v f = true then syD nb n r (k + 1) (va_up f k v) s else s) n 0 s
def syF (nb : Nat → Nat) (n : Nat) : Sy := syD nb n n 0 (fun _ => 0) (0, fun _ => 0)
def SyOk (α : Nat → Int32) (B : Nat → Nat → Int32) (nb : Nat → Nat) (n : Nat) : Prop := α 18 = nI 0 ∨ (α 18 = nI 1 ∧ α 41 = nI (syF nb n).1 ∧ ∀ p, p < 9 → B 14 p = nI ((syF nb n).2 p))
theorem bI_inj {p q : Prop} [Decidable p] [Decidable q] (h : bI p = bI q) : p ↔ q := by
  unfold bI at h
  by_cases hp : p
  · by_cases hq : q
    · exact ⟨fun _ => hq, fun _ => hp⟩
    · rw [if_pos hp, if_neg hq] at h; exact absurd h (by decide)
  · by_cases hq : q
    · rw [if_neg hp, if_pos hq] at h; exact absurd h (by decide)
    · exact ⟨fun z => absurd z hp, fun z => absurd z hq⟩
theorem tb_eq {a b : Bool} : ((a = true) ↔ (b = true)) ↔ a = b := by cases a <;> cases b <;> simp
theorem lX12_fits {G : Gx} {d : Nat} {σ0 σ : Hp} {z : Bool} (hd : 1 ≤ d) {m n k v : Nat} {α : Nat → Int32} {B : Nat → Nat → Int32} {nb f : Nat → Nat} (hM : MA σ0 σ m α B) (hn : n ≤ 9) (hb : ∀ p, p < n → B 1 p = nI (nb p)) (hw : ∀ p, nb p < 512) (hk : k < n) (hv : v < n) (hkv : B 13 k = nI v) (hf : ∀ j, j < k → B 13 j = nI (f j)) (hfn : ∀ j, j < k → f j < n) : ∀ (g : Nat) (i : Nat), i + g = k → fitG nb k v f g i = z → Wp G mX12_fits d 9 [.ref m, .int (nI k), .int (nI v), .int (nI i)] [] σ 0 0 (pI fun r s => r = bI (z = true) ∧ s = σ) := by
  obtain ⟨d0, hdd⟩ : ∃ e, d = e + 1 := ⟨d - 1, by omega⟩
  intro g
  induction g with
  | zero =>
    intro i hi hz
    have hwk := hw k
    have hwv := hw v
    refine wp_iload_n (atd dX12_fits 7 rfl) rfl ?_
    refine wp_iload_n (atd dX12_fits 8 rfl) rfl ?_
    refine wp_icmpN_ge (tgt := 60) (atd dX12_fits 9 rfl) (by decide) (by omega) (by omega) (fun c_11 => ?_) (fun c_11 => ?_)
    ·
      refine wp_aload_n (atd dX12_fits 36 rfl) rfl rfl ?_
      refine wp_get fX12_7 (atd dX12_fits 37 rfl) hM.1.1 rfl ?_
      refine wp_iload_n (atd dX12_fits 38 rfl) rfl ?_
      refine wp_ialdN (atd dX12_fits 39 rfl) hM.a1 (show _ < 9 from by omega) (Nat.le_of_ble_eq_true rfl) ?_
      rw [hb k hk]
      refine wp_cSi hdd [_] (atd dX12_fits 40 rfl) iX12_many lX12_188 rfl rfl (Nat.le_of_ble_eq_true rfl) (eX12_many (by omega) (by omega)) (fun r_66 s_66 h_66 => ?_)
      obtain ⟨rfl, rfl⟩ := h_66
      refine wp_aload_n (atd dX12_fits 41 rfl) rfl rfl ?_
      refine wp_get fX12_7 (atd dX12_fits 42 rfl) hM.1.1 rfl ?_
      refine wp_iload_n (atd dX12_fits 43 rfl) rfl ?_
      refine wp_ialdN (atd dX12_fits 44 rfl) hM.a1 (show _ < 9 from by omega) (Nat.le_of_ble_eq_true rfl) ?_
      rw [hb v hv]
      refine wp_cSi hdd [_] (atd dX12_fits 45 rfl) iX12_many lX12_188 rfl rfl (Nat.le_of_ble_eq_true rfl) (eX12_many (by omega) (by omega)) (fun r_75 s_75 h_75 => ?_)
      obtain ⟨rfl, rfl⟩ := h_75
      have hc1 := (cnt_pos_le _ hwk).2
      have hc2 := (cnt_pos_le _ hwv).2
      refine wp_icmpN_ne (tgt := 85) (atd dX12_fits 46 rfl) (by decide) (by omega) (by omega) (fun c_78 => ?_) (fun c_78 => ?_)
      ·
        refine wp_iconst (v := nI 0) (atd dX12_fits 49 rfl) (by decide) ?_
        refine wp_iretz (atd dX12_fits 50 rfl) rfl (by first | rfl | decide) ?_
        exact ⟨by rw [← hz]; exact (bI_f (by simp [fitG, c_78])).symm, rfl⟩
      ·
        refine wp_iconst (v := nI 1) (atd dX12_fits 47 rfl) (by decide) ?_
        refine wp_goto (tgt := 86) (atd dX12_fits 48 rfl) (by decide) ?_
        refine wp_iretz (atd dX12_fits 50 rfl) rfl (by first | rfl | decide) ?_
        exact ⟨by rw [← hz]; exact (bI_t (by simp [fitG, c_78])).symm, rfl⟩
    · exfalso; omega
  | succ g ih =>
    intro i hi hz
    have hwk := hw k
    have hwv := hw v
    have hfi := hfn i (by omega)
    refine wp_iload_n (atd dX12_fits 7 rfl) rfl ?_
    refine wp_iload_n (atd dX12_fits 8 rfl) rfl ?_
    refine wp_icmpN_ge (tgt := 60) (atd dX12_fits 9 rfl) (by decide) (by omega) (by omega) (fun c_11 => ?_) (fun c_11 => ?_)
    · exfalso; omega
    ·
      refine wp_aload_n (atd dX12_fits 10 rfl) rfl rfl ?_
      refine wp_get fX12_54 (atd dX12_fits 11 rfl) hM.1.1 rfl ?_
      refine wp_iload_n (atd dX12_fits 12 rfl) rfl ?_
      refine wp_ialdN (atd dX12_fits 13 rfl) hM.a13 (show _ < 9 from by omega) (Nat.le_of_ble_eq_true rfl) ?_
      rw [hf i (by omega)]
      refine wp_iload_n (atd dX12_fits 14 rfl) rfl ?_
      refine wp_icmpN_eq (tgt := 52) (atd dX12_fits 15 rfl) (by decide) (by omega) (by omega) (fun c_21 => ?_) (fun c_21 => ?_)
      ·
        refine wp_iconst (v := nI 0) (atd dX12_fits 32 rfl) (by decide) ?_
        refine wp_iretz (atd dX12_fits 33 rfl) rfl (by first | rfl | decide) ?_
        exact ⟨by rw [← hz, fitG, if_pos (Or.inl c_21)]; rfl, rfl⟩
      ·
        refine wp_aload_n (atd dX12_fits 16 rfl) rfl rfl ?_
        refine wp_get fX12_7 (atd dX12_fits 17 rfl) hM.1.1 rfl ?_
        refine wp_iload_n (atd dX12_fits 18 rfl) rfl ?_
        refine wp_ialdN (atd dX12_fits 19 rfl) hM.a1 (show _ < 9 from by omega) (Nat.le_of_ble_eq_true rfl) ?_
        rw [hb k hk]
        refine wp_iload_n (atd dX12_fits 20 rfl) rfl ?_
        refine wp_cSi hdd [_, _] (atd dX12_fits 21 rfl) iX12_isOf lX12_149 rfl rfl (Nat.le_of_ble_eq_true rfl) (eX12_isOf (by omega) (by omega) (by omega)) (fun r_31 s_31 h_31 => ?_)
        obtain ⟨rfl, rfl⟩ := h_31
        refine wp_aload_n (atd dX12_fits 22 rfl) rfl rfl ?_
        refine wp_get fX12_7 (atd dX12_fits 23 rfl) hM.1.1 rfl ?_
        refine wp_iload_n (atd dX12_fits 24 rfl) rfl ?_
        refine wp_ialdN (atd dX12_fits 25 rfl) hM.a1 (show _ < 9 from by omega) (Nat.le_of_ble_eq_true rfl) ?_
        rw [hb v hv]
        refine wp_aload_n (atd dX12_fits 26 rfl) rfl rfl ?_
        refine wp_get fX12_54 (atd dX12_fits 27 rfl) hM.1.1 rfl ?_
        refine wp_iload_n (atd dX12_fits 28 rfl) rfl ?_
        refine wp_ialdN (atd dX12_fits 29 rfl) hM.a13 (show _ < 9 from by omega) (Nat.le_of_ble_eq_true rfl) ?_
        rw [hf i (by omega)]
        refine wp_cSi hdd [_, _] (atd dX12_fits 30 rfl) iX12_isOf lX12_149 rfl rfl (Nat.le_of_ble_eq_true rfl) (eX12_isOf (by omega) (by omega) (by omega)) (fun r_46 s_46 h_46 => ?_)
        obtain ⟨rfl, rfl⟩ := h_46
        refine wp_icmp_eq (tgt := 54) (atd dX12_fits 31 rfl) (by decide) (fun c_49 => ?_) (fun c_49 => ?_)
        ·
          refine wp_iincN (c := 1) (atd dX12_fits 34 rfl) rfl ?_
          refine wp_goto (tgt := 9) (atd dX12_fits 35 rfl) (by decide) ?_
          exact ih (i + 1) (by omega) (by rw [← hz, fitG, if_neg (show ¬ (f i = v ∨ (nb k).testBit i ≠ (nb v).testBit (f i)) from fun w => w.elim c_21 (fun w2 => w2 (tb_eq.mp (bI_inj c_49))))])
        ·
          refine wp_iconst (v := nI 0) (atd dX12_fits 32 rfl) (by decide) ?_
          refine wp_iretz (atd dX12_fits 33 rfl) rfl (by first | rfl | decide) ?_
          exact ⟨by rw [← hz, fitG, if_pos (Or.inr (fun z => c_49 (by rw [z])))]; rfl, rfl⟩
theorem eX12_fits {G : Gx} {d : Nat} {σ : Hp} (hd : 1 ≤ d) {m n k v : Nat} {α : Nat → Int32} {B : Nat → Nat → Int32} {nb f : Nat → Nat} (hM : MA σ σ m α B) (hn : n ≤ 9) (hb : ∀ p, p < n → B 1 p = nI (nb p)) (hw : ∀ p, nb p < 512) (hk : k < n) (hv : v < n) (hkv : B 13 k = nI v) (hf : ∀ j, j < k → B 13 j = nI (f j)) (hfn : ∀ j, j < k → f j < n) : Cl G mX12_fits d [.ref m, .int (nI k)] σ 0 0 (pI fun r s => r = bI (fitB nb k v f = true) ∧ s = σ) := by
  obtain ⟨d0, hdd⟩ : ∃ e, d = e + 1 := ⟨d - 1, by omega⟩
  refine cl_of (by decide) (by simp [Value.category]) (Nat.le_of_ble_eq_true rfl) ?_
  show Wp G mX12_fits d 0 [.ref m, .int (nI k), .double 0, .double 0] [] σ 0 0 _
  refine wp_aload_n (atd dX12_fits 0 rfl) rfl rfl ?_
  refine wp_get fX12_54 (atd dX12_fits 1 rfl) hM.1.1 rfl ?_
  refine wp_iload_n (atd dX12_fits 2 rfl) rfl ?_
  refine wp_ialdN (atd dX12_fits 3 rfl) hM.a13 (show _ < 9 from by omega) (Nat.le_of_ble_eq_true rfl) ?_
  rw [hkv]
  refine wp_istore_n (atd dX12_fits 4 rfl) (Nat.le_of_ble_eq_true rfl) ?_
  refine wp_iconst (v := nI 0) (atd dX12_fits 5 rfl) (by decide) ?_
  refine wp_istore_n (atd dX12_fits 6 rfl) (Nat.le_of_ble_eq_true rfl) ?_
  exact lX12_fits hd hM hn hb hw hk hv hkv hf hfn k 0 (by omega) rfl
/-- one less; of 0: NONE -/
def pd (k : Nat) : Int32 := if k = 0 then -1 else nI (k - 1)
theorem pd_s (k : Nat) : pd (k + 1) = nI k := by unfold pd; rw [if_neg (by omega)]; rfl
theorem pd_inc (v : Nat) : pd v + nI 1 = nI v := by
  unfold pd
  split
  · rename_i h; subst h; rfl
  · rw [nI_add]; congr 1; omega
theorem pd_dec (k : Nat) : nI k + Int32.ofInt (-1) = pd k := by
  unfold pd
  split
  · rename_i h; subst h; rfl
  · rename_i h
    have e : nI k = nI (k - 1) + nI 1 := by rw [nI_add]; congr 1; omega
    rw [e, show Int32.ofInt (-1) = - nI 1 from by decide, Int32.add_assoc, Int32.add_right_neg, Int32.add_zero]
def TA (B : Nat → Nat → Int32) (f : Nat → Nat) (k n : Nat) : Prop := (∀ j, j < k → B 13 j = nI (f j) ∧ f j < n) ∧ ∀ j, k ≤ j → j < 9 → B 13 j = -1
def AL (α : Nat → Int32) (B : Nat → Nat → Int32) (s : Sy) : Prop := α 41 = nI s.1 ∧ (∀ p, p < 9 → B 14 p = nI (s.2 p)) ∧ ∀ p, s.2 p < 512
def SyI (σ0 σ : Hp) (m : Nat) (α0 α : Nat → Int32) (B0 B : Nat → Nat → Int32) : Prop := MA σ0 σ m α B ∧ frm [41] α0 α ∧ frm [13, 14] B0 B
theorem lX12_sy0 {G : Gx} {d : Nat} {Q : Option Value → Hp → Prop} {σ0 : Hp} {m n : Nat} {α0 : Nat → Int32} {B0 : Nat → Nat → Int32} {nb : Nat → Nat} (hd : 2 ≤ d) (hp0 : α0 2 = nI n) (hn : n ≤ 9) (hb0 : ∀ p, p < n → B0 1 p = nI (nb p)) (hw : ∀ p, nb p < 512) {f : Nat → Nat} {s : Sy} {c : Nat} {e1 : Value} (hfn : ∀ j, j < n → f j < n) (hk : ∀ (σ : Hp) (α : Nat → Int32) (B : Nat → Nat → Int32) (e2 : Value), SyI σ0 σ m α0 α B0 B → TA B f n n → AL α B (c, fun p => if p < n then s.2 p ||| 2 ^ f p else s.2 p) → Wp G mX12_laySymmetries d 103 [.ref m, e1, e2] [] σ 0 0 Q) : ∀ (g : Nat) (σ : Hp) (α : Nat → Int32) (B : Nat → Nat → Int32) (p : Nat), SyI σ0 σ m α0 α B0 B → TA B f n n → AL α B (c, fun x => if x < p then s.2 x ||| 2 ^ f x else s.2 x) → p + g = n → Wp G mX12_laySymmetries d 72 [.ref m, e1, .int (nI p)] [] σ 0 0 Q := by
  intro g
  induction g with
  | zero =>
    intro σ α B p hI hT hA hpg
    obtain ⟨hM, hfa, hfb⟩ := hI
    have hp : α 2 = nI n := (hfa 2 (by decide)).trans hp0
    have e : p = n := by omega
    subst e
    refine wp_iload_n (atd dX12_laySymmetries 43 rfl) rfl ?_
    refine wp_aload_n (atd dX12_laySymmetries 44 rfl) rfl rfl ?_
    refine wp_get fX12_78 (atd dX12_laySymmetries 45 rfl) hM.1.1 (congrArg (fun z => some (Value.int z)) hp) ?_
    refine wp_icmpN_ge (tgt := 103) (atd dX12_laySymmetries 46 rfl) (by decide) (by omega) (by omega) (fun c_77 => ?_) (fun c_77 => ?_)
    ·
      exact hk _ α B _ ⟨hM, hfa, hfb⟩ hT hA
    · exfalso; omega
  | succ g ih =>
    intro σ α B p hI hT hA hpg
    obtain ⟨hM, hfa, hfb⟩ := hI
    have hp : α 2 = nI n := (hfa 2 (by decide)).trans hp0
    have hB14 : B 14 p = nI (s.2 p) := by rw [hA.2.1 p (by omega)]; show nI (if p < p then _ else _) = _; rw [if_neg (Nat.lt_irrefl p)]
    have hB13 := (hT.1 p (by omega)).1
    have hfp := hfn p (by omega)
    have hsp := hA.2.2 p
    have hsp2 : s.2 p < 512 := by have : (if p < p then s.2 p ||| 2 ^ f p else s.2 p) < 512 := hsp; rwa [if_neg (Nat.lt_irrefl p)] at this
    refine wp_iload_n (atd dX12_laySymmetries 43 rfl) rfl ?_
    refine wp_aload_n (atd dX12_laySymmetries 44 rfl) rfl rfl ?_
    refine wp_get fX12_78 (atd dX12_laySymmetries 45 rfl) hM.1.1 (congrArg (fun z => some (Value.int z)) hp) ?_
    refine wp_icmpN_ge (tgt := 103) (atd dX12_laySymmetries 46 rfl) (by decide) (by omega) (by omega) (fun c_77 => ?_) (fun c_77 => ?_)
    · exfalso; omega
    ·
      refine wp_aload_n (atd dX12_laySymmetries 47 rfl) rfl rfl ?_
      refine wp_get fX12_57 (atd dX12_laySymmetries 48 rfl) hM.1.1 rfl ?_
      refine wp_iload_n (atd dX12_laySymmetries 49 rfl) rfl ?_
      refine wp_dup2 (atd dX12_laySymmetries 50 rfl) rfl rfl ?_
      refine wp_ialdN (atd dX12_laySymmetries 51 rfl) hM.a14 (show _ < 9 from by omega) (Nat.le_of_ble_eq_true rfl) ?_
      rw [hB14]
      refine wp_iconst (v := nI 1) (atd dX12_laySymmetries 52 rfl) (by decide) ?_
      refine wp_aload_n (atd dX12_laySymmetries 53 rfl) rfl rfl ?_
      refine wp_get fX12_54 (atd dX12_laySymmetries 54 rfl) hM.1.1 rfl ?_
      refine wp_iload_n (atd dX12_laySymmetries 55 rfl) rfl ?_
      refine wp_ialdN (atd dX12_laySymmetries 56 rfl) hM.a13 (show _ < 9 from by omega) (Nat.le_of_ble_eq_true rfl) ?_
      rw [hB13]
      refine wp_ishl1 (atd dX12_laySymmetries 57 rfl) (by omega) ?_
      refine wp_iorN (atd dX12_laySymmetries 58 rfl) ?_
      refine wp_iastM (j := 14) (atd dX12_laySymmetries 59 rfl) hM (by decide) (by decide) rfl (show _ < 9 from by omega) (fun σ hM => ?_)
      refine wp_iincN (c := 1) (atd dX12_laySymmetries 60 rfl) rfl ?_
      refine wp_goto (tgt := 72) (atd dX12_laySymmetries 61 rfl) (by decide) ?_
      refine ih _ α _ (p + 1) ⟨hM, hfa, hfb.va (by decide)⟩ ⟨fun j hj => hT.1 j hj, fun j h1 h2 => hT.2 j h1 h2⟩ ⟨hA.1, fun x hx => ?_, fun x => ?_⟩ (by omega)
      · show upd (B 14) p (nI (s.2 p ||| 2 ^ f p)) x = nI (if x < p + 1 then s.2 x ||| 2 ^ f x else s.2 x)
        by_cases e : x = p
        · subst e; rw [show upd (B 14) x (nI (s.2 x ||| 2 ^ f x)) x = _ from if_pos rfl, if_pos (by omega)]
        · rw [show upd (B 14) p (nI (s.2 p ||| 2 ^ f p)) x = B 14 x from if_neg e, hA.2.1 x hx]
          show nI (if x < p then s.2 x ||| 2 ^ f x else s.2 x) = _
          by_cases hxp : x < p
          · rw [if_pos hxp, if_pos (by omega)]
          · rw [if_neg hxp, if_neg (by omega)]
      · show (if x < p + 1 then s.2 x ||| 2 ^ f x else s.2 x) < 512
        have hx := hA.2.2 x
        have hx2 : (if x < p then s.2 x ||| 2 ^ f x else s.2 x) < 512 := hx
        by_cases e : x = p
        · subst e; rw [if_pos (by omega)]; exact or_lt9 hsp2 (pow_lt9 (by omega))
        · by_cases hxp : x < p
          · rw [if_pos hxp] at hx2; rw [if_pos (by omega)]; exact hx2
          · rw [if_neg hxp] at hx2; rw [if_neg (by omega)]; exact hx2
theorem lX12_syV {G : Gx} {d : Nat} {Q : Option Value → Hp → Prop} {σ0 : Hp} {m n : Nat} {α0 : Nat → Int32} {B0 : Nat → Nat → Int32} {nb : Nat → Nat} (hd : 2 ≤ d) (hp0 : α0 2 = nI n) (hn : n ≤ 9) (hb0 : ∀ p, p < n → B0 1 p = nI (nb p)) (hw : ∀ p, nb p < 512) {r : Nat} (hD : ∀ (k : Nat) (f : Nat → Nat) (s : Sy) (σ : Hp) (α : Nat → Int32) (B : Nat → Nat → Int32) (e2 : Value), k + r = n → SyI σ0 σ m α0 α B0 B → TA B f k n → AL α B s → (∀ (σ : Hp) (α : Nat → Int32) (B : Nat → Nat → Int32) (e2 : Value), SyI σ0 σ m α0 α B0 B → TA B f k n → AL α B (syD nb n r k f s) → Wp G mX12_laySymmetries d 48 [.ref m, .int (pd k), e2] [] σ 0 0 Q) → Wp G mX12_laySymmetries d 48 [.ref m, .int (nI k), e2] [] σ 0 0 Q) {k : Nat} {f : Nat → Nat} {v0 : Sy} (hkr : k + (r + 1) = n) (hk : ∀ (σ : Hp) (α : Nat → Int32) (B : Nat → Nat → Int32) (e2 : Value), SyI σ0 σ m α0 α B0 B → TA B f k n → AL α B v0 → Wp G mX12_laySymmetries d 48 [.ref m, .int (pd k), e2] [] σ 0 0 Q) : ∀ (g v : Nat) (s : Sy) (σ : Hp) (α : Nat → Int32) (B : Nat → Nat → Int32) (e2 : Value), v + g = n → SyI σ0 σ m α0 α B0 B → (∀ j, j < k → B 13 j = nI (f j) ∧ f j < n) → B 13 k = nI v → (∀ j, k < j → j < 9 → B 13 j = -1) → AL α B s → fl (fun v s => if fitB nb k v f = true then syD nb n r (k + 1) (va_up f k v) s else s) g v s = v0 → Wp G mX12_laySymmetries d 119 [.ref m, .int (nI k), e2] [] σ 0 0 Q := by
  obtain ⟨d0, hdd⟩ : ∃ e, d = e + 1 := ⟨d - 1, by omega⟩
  intro g
  induction g with
  | zero =>
    intro v s σ α B e2 hvg hI hT1 hTk hT2 hA hz
    obtain ⟨hM, hfa, hfb⟩ := hI
    have hp : α 2 = nI n := (hfa 2 (by decide)).trans hp0
    have hb : ∀ p, p < n → B 1 p = nI (nb p) := fun p hpn => by rw [hfb 1 (by decide)]; exact hb0 p hpn
    have e : s = v0 := hz
    subst e
    have ev : v = n := by omega
    subst ev
    refine wp_aload_n (atd dX12_laySymmetries 72 rfl) rfl rfl ?_
    refine wp_get fX12_54 (atd dX12_laySymmetries 73 rfl) hM.1.1 rfl ?_
    refine wp_iload_n (atd dX12_laySymmetries 74 rfl) rfl ?_
    refine wp_ialdN (atd dX12_laySymmetries 75 rfl) hM.a13 (show _ < 9 from by omega) (Nat.le_of_ble_eq_true rfl) ?_
    rw [hTk]
    refine wp_aload_n (atd dX12_laySymmetries 76 rfl) rfl rfl ?_
    refine wp_get fX12_78 (atd dX12_laySymmetries 77 rfl) hM.1.1 (congrArg (fun z => some (Value.int z)) hp) ?_
    refine wp_icmpN_ge (tgt := 153) (atd dX12_laySymmetries 78 rfl) (by decide) (by omega) (by omega) (fun c_129 => ?_) (fun c_129 => ?_)
    ·
      refine wp_aload_n (atd dX12_laySymmetries 92 rfl) rfl rfl ?_
      refine wp_get fX12_54 (atd dX12_laySymmetries 93 rfl) hM.1.1 rfl ?_
      refine wp_iload_n (atd dX12_laySymmetries 94 rfl) rfl ?_
      refine wp_ialdN (atd dX12_laySymmetries 95 rfl) hM.a13 (show _ < 9 from by omega) (Nat.le_of_ble_eq_true rfl) ?_
      rw [hTk]
      refine wp_aload_n (atd dX12_laySymmetries 96 rfl) rfl rfl ?_
      refine wp_get fX12_78 (atd dX12_laySymmetries 97 rfl) hM.1.1 (congrArg (fun z => some (Value.int z)) hp) ?_
      refine wp_icmpN_ne (tgt := 179) (atd dX12_laySymmetries 98 rfl) (by decide) (by omega) (by omega) (fun c_163 => ?_) (fun c_163 => ?_)
      · exfalso; omega
      ·
        refine wp_aload_n (atd dX12_laySymmetries 99 rfl) rfl rfl ?_
        refine wp_get fX12_54 (atd dX12_laySymmetries 100 rfl) hM.1.1 rfl ?_
        refine wp_iload_n (atd dX12_laySymmetries 101 rfl) rfl ?_
        refine wp_iconst (v := -1) (atd dX12_laySymmetries 102 rfl) (by decide) ?_
        refine wp_iastM (j := 13) (atd dX12_laySymmetries 103 rfl) hM (by decide) (by decide) rfl (show _ < 9 from by omega) (fun σ hM => ?_)
        refine wp_iinc (atd dX12_laySymmetries 104 rfl) rfl (pd_dec k) ?_
        refine wp_goto (tgt := 48) (atd dX12_laySymmetries 105 rfl) (by decide) ?_
        refine hk _ α _ _ ⟨hM, hfa, hfb.va (by decide)⟩ ⟨fun j hj => ⟨?_, (hT1 j hj).2⟩, fun j h1 h2 => ?_⟩ hA
        · show upd (B 13) k (-1) j = _
          rw [show upd (B 13) k (-1) j = B 13 j from if_neg (by omega)]; exact (hT1 j hj).1
        · show upd (B 13) k (-1) j = _
          by_cases e : j = k
          · exact if_pos e
          · rw [show upd (B 13) k (-1) j = B 13 j from if_neg e]; exact hT2 j (by omega) h2
    · exfalso; omega
  | succ g ih =>
    intro v s σ α B e2 hvg hI hT1 hTk hT2 hA hz
    obtain ⟨hM, hfa, hfb⟩ := hI
    have hp : α 2 = nI n := (hfa 2 (by decide)).trans hp0
    have hb : ∀ p, p < n → B 1 p = nI (nb p) := fun p hpn => by rw [hfb 1 (by decide)]; exact hb0 p hpn
    refine wp_aload_n (atd dX12_laySymmetries 72 rfl) rfl rfl ?_
    refine wp_get fX12_54 (atd dX12_laySymmetries 73 rfl) hM.1.1 rfl ?_
    refine wp_iload_n (atd dX12_laySymmetries 74 rfl) rfl ?_
    refine wp_ialdN (atd dX12_laySymmetries 75 rfl) hM.a13 (show _ < 9 from by omega) (Nat.le_of_ble_eq_true rfl) ?_
    rw [hTk]
    refine wp_aload_n (atd dX12_laySymmetries 76 rfl) rfl rfl ?_
    refine wp_get fX12_78 (atd dX12_laySymmetries 77 rfl) hM.1.1 (congrArg (fun z => some (Value.int z)) hp) ?_
    refine wp_icmpN_ge (tgt := 153) (atd dX12_laySymmetries 78 rfl) (by decide) (by omega) (by omega) (fun c_129 => ?_) (fun c_129 => ?_)
    · exfalso; omega
    ·
      refine wp_aload_n (atd dX12_laySymmetries 79 rfl) rfl rfl ?_
      refine wp_iload_n (atd dX12_laySymmetries 80 rfl) rfl ?_
      refine wp_cVi hdd [_] (atd dX12_laySymmetries 81 rfl) iX12_fits lX12_314 rfl rfl (Nat.le_of_ble_eq_true rfl) hM.1.1 rfl (eX12_fits (f := f) (v := v) (by omega) hM.self hn hb hw (by omega) (by omega) hTk (fun j hj => (hT1 j hj).1) (fun j hj => (hT1 j hj).2)) (fun r_134 s_134 h_134 => ?_)
      obtain ⟨rfl, rfl⟩ := h_134
      refine wp_ifB_ne (tgt := 153) (atd dX12_laySymmetries 82 rfl) (by decide) (fun c_137 => ?_) (fun c_137 => ?_)
      ·
        refine wp_aload_n (atd dX12_laySymmetries 92 rfl) rfl rfl ?_
        refine wp_get fX12_54 (atd dX12_laySymmetries 93 rfl) hM.1.1 rfl ?_
        refine wp_iload_n (atd dX12_laySymmetries 94 rfl) rfl ?_
        refine wp_ialdN (atd dX12_laySymmetries 95 rfl) hM.a13 (show _ < 9 from by omega) (Nat.le_of_ble_eq_true rfl) ?_
        rw [hTk]
        refine wp_aload_n (atd dX12_laySymmetries 96 rfl) rfl rfl ?_
        refine wp_get fX12_78 (atd dX12_laySymmetries 97 rfl) hM.1.1 (congrArg (fun z => some (Value.int z)) hp) ?_
        refine wp_icmpN_ne (tgt := 179) (atd dX12_laySymmetries 98 rfl) (by decide) (by omega) (by omega) (fun c_163 => ?_) (fun c_163 => ?_)
        ·
          refine wp_iincN (c := 1) (atd dX12_laySymmetries 106 rfl) rfl ?_
          refine wp_goto (tgt := 48) (atd dX12_laySymmetries 107 rfl) (by decide) ?_
          refine hD (k + 1) (va_up f k v) s _ α B _ (by omega) ⟨hM, hfa, hfb⟩ ⟨fun j hj => ?_, fun j h1 h2 => hT2 j (by omega) h2⟩ hA (fun σ α B e2 hI hT hA => ?_)
          · show B 13 j = nI (if j = k then v else f j) ∧ (if j = k then v else f j) < n
            by_cases e : j = k
            · subst e; rw [if_pos rfl]; exact ⟨hTk, by omega⟩
            · rw [if_neg e]; exact hT1 j (by omega)
          · rw [pd_s]
            obtain ⟨hM, hfa, hfb⟩ := hI
            have hp : α 2 = nI n := (hfa 2 (by decide)).trans hp0
            have hTk : B 13 k = nI v := by have h1 := (hT.1 k (by omega)).1; rw [h1]; show nI (if k = k then v else f k) = _; rw [if_pos rfl]
            have hT1 : ∀ j, j < k → B 13 j = nI (f j) ∧ f j < n := fun j hj => by have h1 := hT.1 j (by omega); rw [show va_up f k v j = f j from if_neg (by omega)] at h1; exact h1
            have hT2 : ∀ j, k < j → j < 9 → B 13 j = -1 := fun j h1 h2 => hT.2 j (by omega) h2
            refine wp_iload_n (atd dX12_laySymmetries 29 rfl) rfl ?_
            refine wp_ifN_lt (tgt := 185) (atd dX12_laySymmetries 30 rfl) (by decide) (by omega) ?_
            refine wp_iload_n (atd dX12_laySymmetries 31 rfl) rfl ?_
            refine wp_aload_n (atd dX12_laySymmetries 32 rfl) rfl rfl ?_
            refine wp_get fX12_78 (atd dX12_laySymmetries 33 rfl) hM.1.1 (congrArg (fun z => some (Value.int z)) hp) ?_
            refine wp_icmpN_ne (tgt := 109) (atd dX12_laySymmetries 34 rfl) (by decide) (by omega) (by omega) (fun c_57 => ?_) (fun c_57 => ?_)
            ·
              refine wp_aload_n (atd dX12_laySymmetries 64 rfl) rfl rfl ?_
              refine wp_get fX12_54 (atd dX12_laySymmetries 65 rfl) hM.1.1 rfl ?_
              refine wp_iload_n (atd dX12_laySymmetries 66 rfl) rfl ?_
              refine wp_dup2 (atd dX12_laySymmetries 67 rfl) rfl rfl ?_
              refine wp_ialdN (atd dX12_laySymmetries 68 rfl) hM.a13 (show _ < 9 from by omega) (Nat.le_of_ble_eq_true rfl) ?_
              rw [hTk]
              refine wp_iconst (v := nI 1) (atd dX12_laySymmetries 69 rfl) (by decide) ?_
              refine wp_iaddN (atd dX12_laySymmetries 70 rfl) ?_
              refine wp_iastM (j := 13) (atd dX12_laySymmetries 71 rfl) hM (by decide) (by decide) rfl (show _ < 9 from by omega) (fun σ hM => ?_)
              refine ih (v + 1) _ _ α _ _ (by omega) ⟨hM, hfa, hfb.va (by decide)⟩ (fun j hj => ⟨?_, (hT1 j hj).2⟩) ?_ (fun j h1 h2 => ?_) hA ?_
              · show upd (B 13) k (nI (v + 1)) j = _
                rw [show upd (B 13) k (nI (v + 1)) j = B 13 j from if_neg (by omega)]; exact (hT1 j hj).1
              · exact if_pos rfl
              · show upd (B 13) k (nI (v + 1)) j = _
                rw [show upd (B 13) k (nI (v + 1)) j = B 13 j from if_neg (by omega)]; exact hT2 j h1 h2
              · rw [← hz]; show _ = fl (fun v s => if fitB nb k v f = true then syD nb n r (k + 1) (va_up f k v) s else s) g (v + 1) (if fitB nb k v f = true then syD nb n r (k + 1) (va_up f k v) s else s); rw [if_pos c_137]
            · exfalso; omega
        · exfalso; omega
      ·
        refine wp_aload_n (atd dX12_laySymmetries 83 rfl) rfl rfl ?_
        refine wp_get fX12_54 (atd dX12_laySymmetries 84 rfl) hM.1.1 rfl ?_
        refine wp_iload_n (atd dX12_laySymmetries 85 rfl) rfl ?_
        refine wp_dup2 (atd dX12_laySymmetries 86 rfl) rfl rfl ?_
        refine wp_ialdN (atd dX12_laySymmetries 87 rfl) hM.a13 (show _ < 9 from by omega) (Nat.le_of_ble_eq_true rfl) ?_
        rw [hTk]
        refine wp_iconst (v := nI 1) (atd dX12_laySymmetries 88 rfl) (by decide) ?_
        refine wp_iaddN (atd dX12_laySymmetries 89 rfl) ?_
        refine wp_iastM (j := 13) (atd dX12_laySymmetries 90 rfl) hM (by decide) (by decide) rfl (show _ < 9 from by omega) (fun σ hM => ?_)
        refine wp_goto (tgt := 119) (atd dX12_laySymmetries 91 rfl) (by decide) ?_
        refine ih (v + 1) s _ α _ _ (by omega) ⟨hM, hfa, hfb.va (by decide)⟩ (fun j hj => ⟨?_, (hT1 j hj).2⟩) ?_ (fun j h1 h2 => ?_) hA ?_
        · show upd (B 13) k (nI (v + 1)) j = _
          rw [show upd (B 13) k (nI (v + 1)) j = B 13 j from if_neg (by omega)]; exact (hT1 j hj).1
        · exact if_pos rfl
        · show upd (B 13) k (nI (v + 1)) j = _
          rw [show upd (B 13) k (nI (v + 1)) j = B 13 j from if_neg (by omega)]; exact hT2 j h1 h2
        · rw [← hz]; show _ = fl (fun v s => if fitB nb k v f = true then syD nb n r (k + 1) (va_up f k v) s else s) g (v + 1) (if fitB nb k v f = true then syD nb n r (k + 1) (va_up f k v) s else s); rw [if_neg c_137]
theorem lX12_sy {G : Gx} {d : Nat} {Q : Option Value → Hp → Prop} {σ0 : Hp} {m n : Nat} {α0 : Nat → Int32} {B0 : Nat → Nat → Int32} {nb : Nat → Nat} (hd : 2 ≤ d) (hp0 : α0 2 = nI n) (hn : n ≤ 9) (hb0 : ∀ p, p < n → B0 1 p = nI (nb p)) (hw : ∀ p, nb p < 512) : ∀ (r : Nat), ∀ (k : Nat) (f : Nat → Nat) (s : Sy) (σ : Hp) (α : Nat → Int32) (B : Nat → Nat → Int32) (e2 : Value), k + r = n → SyI σ0 σ m α0 α B0 B → TA B f k n → AL α B s → (∀ (σ : Hp) (α : Nat → Int32) (B : Nat → Nat → Int32) (e2 : Value), SyI σ0 σ m α0 α B0 B → TA B f k n → AL α B (syD nb n r k f s) → Wp G mX12_laySymmetries d 48 [.ref m, .int (pd k), e2] [] σ 0 0 Q) → Wp G mX12_laySymmetries d 48 [.ref m, .int (nI k), e2] [] σ 0 0 Q := by
  intro r
  induction r with
  | zero =>
    intro k f s σ α B e2 hkr hI hT hA hk
    have e : k = n := by omega
    subst e
    obtain ⟨hM, hfa, hfb⟩ := hI
    have hp : α 2 = nI k := (hfa 2 (by decide)).trans hp0
    refine wp_iload_n (atd dX12_laySymmetries 29 rfl) rfl ?_
    refine wp_ifN_lt (tgt := 185) (atd dX12_laySymmetries 30 rfl) (by decide) (by omega) ?_
    refine wp_iload_n (atd dX12_laySymmetries 31 rfl) rfl ?_
    refine wp_aload_n (atd dX12_laySymmetries 32 rfl) rfl rfl ?_
    refine wp_get fX12_78 (atd dX12_laySymmetries 33 rfl) hM.1.1 (congrArg (fun z => some (Value.int z)) hp) ?_
    refine wp_icmpN_ne (tgt := 109) (atd dX12_laySymmetries 34 rfl) (by decide) (by omega) (by omega) (fun c_57 => ?_) (fun c_57 => ?_)
    · exfalso; omega
    ·
      refine wp_aload_n (atd dX12_laySymmetries 35 rfl) rfl rfl ?_
      refine wp_dup (atd dX12_laySymmetries 36 rfl) rfl ?_
      refine wp_get fX12_311 (atd dX12_laySymmetries 37 rfl) hM.1.1 (congrArg (fun z => some (Value.int z)) hA.1) ?_
      refine wp_iconst (v := nI 1) (atd dX12_laySymmetries 38 rfl) (by decide) ?_
      refine wp_iaddN (atd dX12_laySymmetries 39 rfl) ?_
      refine wp_putM fX12_311 (atd dX12_laySymmetries 40 rfl) hM rfl (fun σ hM => ?_)
      refine wp_iconst (v := nI 0) (atd dX12_laySymmetries 41 rfl) (by decide) ?_
      refine wp_istore_n (atd dX12_laySymmetries 42 rfl) (Nat.le_of_ble_eq_true rfl) ?_
      refine lX12_sy0 (f := f) (s := s) (c := s.1 + 1) hd hp0 hn hb0 hw (fun j hj => (hT.1 j hj).2) (fun σ α B e2 hI hT hA => ?_) k _ _ B 0 ⟨hM, hfa.up (by decide), hfb⟩ hT ⟨rfl, fun p hp => by rw [hA.2.1 p hp]; show _ = nI (if p < 0 then s.2 p ||| 2 ^ f p else s.2 p); rw [if_neg (Nat.not_lt_zero p)], fun p => by show (if p < 0 then s.2 p ||| 2 ^ f p else s.2 p) < 512; rw [if_neg (Nat.not_lt_zero p)]; exact hA.2.2 p⟩ (by omega)
      refine wp_iinc (atd dX12_laySymmetries 62 rfl) rfl (pd_dec k) ?_
      refine wp_goto (tgt := 48) (atd dX12_laySymmetries 63 rfl) (by decide) ?_
      exact hk _ α B _ hI hT hA
  | succ r ih =>
    intro k f s σ α B e2 hkr hI hT hA hk
    have hI0 := hI
    obtain ⟨hM, hfa, hfb⟩ := hI
    have hp : α 2 = nI n := (hfa 2 (by decide)).trans hp0
    have hTk : B 13 k = -1 := hT.2 k (Nat.le_refl k) (by omega)
    refine wp_iload_n (atd dX12_laySymmetries 29 rfl) rfl ?_
    refine wp_ifN_lt (tgt := 185) (atd dX12_laySymmetries 30 rfl) (by decide) (by omega) ?_
    refine wp_iload_n (atd dX12_laySymmetries 31 rfl) rfl ?_
    refine wp_aload_n (atd dX12_laySymmetries 32 rfl) rfl rfl ?_
    refine wp_get fX12_78 (atd dX12_laySymmetries 33 rfl) hM.1.1 (congrArg (fun z => some (Value.int z)) hp) ?_
    refine wp_icmpN_ne (tgt := 109) (atd dX12_laySymmetries 34 rfl) (by decide) (by omega) (by omega) (fun c_57 => ?_) (fun c_57 => ?_)
    ·
      refine wp_aload_n (atd dX12_laySymmetries 64 rfl) rfl rfl ?_
      refine wp_get fX12_54 (atd dX12_laySymmetries 65 rfl) hM.1.1 rfl ?_
      refine wp_iload_n (atd dX12_laySymmetries 66 rfl) rfl ?_
      refine wp_dup2 (atd dX12_laySymmetries 67 rfl) rfl rfl ?_
      refine wp_ialdN (atd dX12_laySymmetries 68 rfl) hM.a13 (show _ < 9 from by omega) (Nat.le_of_ble_eq_true rfl) ?_
      rw [hTk]
      refine wp_iconst (v := nI 1) (atd dX12_laySymmetries 69 rfl) (by decide) ?_
      refine wp_iadd (atd dX12_laySymmetries 70 rfl) ?_
      rw [show (-1 : Int32) + nI 1 = nI 0 from by decide]
      refine wp_iastM (j := 13) (atd dX12_laySymmetries 71 rfl) hM (by decide) (by decide) rfl (show _ < 9 from by omega) (fun σ hM => ?_)
      refine lX12_syV hd hp0 hn hb0 hw (r := r) ih (k := k) (f := f) (by omega) hk n 0 s _ α _ _ (by omega) ⟨hM, hfa, hfb.va (by decide)⟩ (fun j hj => ⟨?_, (hT.1 j hj).2⟩) ?_ (fun j h1 h2 => ?_) hA rfl
      · show upd (B 13) k (nI 0) j = _
        rw [show upd (B 13) k (nI 0) j = B 13 j from if_neg (by omega)]; exact (hT.1 j hj).1
      · exact if_pos rfl
      · show upd (B 13) k (nI 0) j = _
        rw [show upd (B 13) k (nI 0) j = B 13 j from if_neg (by omega)]; exact hT.2 j (by omega) h2
    · exfalso; omega
theorem lX12_syI {G : Gx} {d : Nat} {Q : Option Value → Hp → Prop} {σ0 : Hp} {m : Nat} {α : Nat → Int32} {B0 : Nat → Nat → Int32} {e2 : Value} (hk : ∀ (σ : Hp) (B : Nat → Nat → Int32) (e1 : Value), MA σ0 σ m α B → frm [13, 14] B0 B → (∀ p, p < 9 → B 14 p = nI 0 ∧ B 13 p = -1) → Wp G mX12_laySymmetries d 46 [.ref m, e1, e2] [] σ 0 0 Q) : ∀ (g : Nat) (σ : Hp) (B : Nat → Nat → Int32) (p : Nat), MA σ0 σ m α B → frm [13, 14] B0 B → (∀ x, x < p → B 14 x = nI 0 ∧ B 13 x = -1) → p + g = 9 → Wp G mX12_laySymmetries d 20 [.ref m, .int (nI p), e2] [] σ 0 0 Q := by
  intro g
  induction g with
  | zero =>
    intro σ B p hM hfb hx hpg
    refine wp_iload_n (atd dX12_laySymmetries 12 rfl) rfl ?_
    refine wp_bipush (v := nI 9) (atd dX12_laySymmetries 13 rfl) (by decide) ?_
    refine wp_icmpN_ge (tgt := 46) (atd dX12_laySymmetries 14 rfl) (by decide) (by omega) (by omega) (fun c_23 => ?_) (fun c_23 => ?_)
    ·
      exact hk _ B _ hM hfb (fun x hx9 => hx x (by omega))
    · exfalso; omega
  | succ g ih =>
    intro σ B p hM hfb hx hpg
    refine wp_iload_n (atd dX12_laySymmetries 12 rfl) rfl ?_
    refine wp_bipush (v := nI 9) (atd dX12_laySymmetries 13 rfl) (by decide) ?_
    refine wp_icmpN_ge (tgt := 46) (atd dX12_laySymmetries 14 rfl) (by decide) (by omega) (by omega) (fun c_23 => ?_) (fun c_23 => ?_)
    · exfalso; omega
    ·
      refine wp_aload_n (atd dX12_laySymmetries 15 rfl) rfl rfl ?_
      refine wp_get fX12_57 (atd dX12_laySymmetries 16 rfl) hM.1.1 rfl ?_
      refine wp_iload_n (atd dX12_laySymmetries 17 rfl) rfl ?_
      refine wp_iconst (v := nI 0) (atd dX12_laySymmetries 18 rfl) (by decide) ?_
      refine wp_iastM (j := 14) (atd dX12_laySymmetries 19 rfl) hM (by decide) (by decide) rfl (show _ < 9 from by omega) (fun σ hM => ?_)
      refine wp_aload_n (atd dX12_laySymmetries 20 rfl) rfl rfl ?_
      refine wp_get fX12_54 (atd dX12_laySymmetries 21 rfl) hM.1.1 rfl ?_
      refine wp_iload_n (atd dX12_laySymmetries 22 rfl) rfl ?_
      refine wp_iconst (v := -1) (atd dX12_laySymmetries 23 rfl) (by decide) ?_
      refine wp_iastM (j := 13) (atd dX12_laySymmetries 24 rfl) hM (by decide) (by decide) rfl (show _ < 9 from by omega) (fun σ hM => ?_)
      refine wp_iincN (c := 1) (atd dX12_laySymmetries 25 rfl) rfl ?_
      refine wp_goto (tgt := 20) (atd dX12_laySymmetries 26 rfl) (by decide) ?_
      refine ih _ _ (p + 1) hM ((hfb.va (by decide)).va (by decide)) (fun x hxp => ?_) (by omega)
      show upd (B 14) p (nI 0) x = nI 0 ∧ upd (B 13) p (-1) x = -1
      by_cases e : x = p
      · exact ⟨if_pos e, if_pos e⟩
      · rw [show upd (B 14) p (nI 0) x = B 14 x from if_neg e, show upd (B 13) p (-1) x = B 13 x from if_neg e]; exact hx x (by omega)
theorem eX12_laySymmetries {G : Gx} {d : Nat} {σ : Hp} (hd : 2 ≤ d) {m n : Nat} {α : Nat → Int32} {B : Nat → Nat → Int32} {nb : Nat → Nat} (hM : MA σ σ m α B) (hp : α 2 = nI n) (hn : n ≤ 9) (hb : ∀ p, p < n → B 1 p = nI (nb p)) (hw : ∀ p, nb p < 512) (hS : SyOk α B nb n) : Cl G mX12_laySymmetries d [.ref m] σ 0 0 (pV fun s => ∃ α1 B1, MA σ s m α1 B1 ∧ frm [18, 41] α α1 ∧ frm [13, 14] B B1 ∧ α1 18 = nI 1 ∧ α1 41 = nI (syF nb n).1 ∧ ∀ p, p < 9 → B1 14 p = nI ((syF nb n).2 p)) := by
  obtain ⟨d0, hdd⟩ : ∃ e, d = e + 1 := ⟨d - 1, by omega⟩
  refine cl_of (by decide) (by simp [Value.category]) (Nat.le_of_ble_eq_true rfl) ?_
  show Wp G mX12_laySymmetries d 0 [.ref m, .double 0, .double 0] [] σ 0 0 _
  rcases hS with h18 | ⟨h18, h41, h14⟩
  ·
    refine wp_aload_n (atd dX12_laySymmetries 0 rfl) rfl rfl ?_
    refine wp_get fX12_175 (atd dX12_laySymmetries 1 rfl) hM.1.1 (congrArg (fun z => some (Value.int z)) h18) ?_
    refine wp_ifN_eq (tgt := 8) (atd dX12_laySymmetries 2 rfl) (by decide) (by omega) (fun c_4 => ?_) (fun c_4 => ?_)
    ·
      refine wp_aload_n (atd dX12_laySymmetries 4 rfl) rfl rfl ?_
      refine wp_iconst (v := nI 1) (atd dX12_laySymmetries 5 rfl) (by decide) ?_
      refine wp_putMz fX12_175 (atd dX12_laySymmetries 6 rfl) hM rfl (by decide) (fun σ hM => ?_)
      refine wp_aload_n (atd dX12_laySymmetries 7 rfl) rfl rfl ?_
      refine wp_iconst (v := nI 0) (atd dX12_laySymmetries 8 rfl) (by decide) ?_
      refine wp_putM fX12_311 (atd dX12_laySymmetries 9 rfl) hM rfl (fun σ hM => ?_)
      refine wp_iconst (v := nI 0) (atd dX12_laySymmetries 10 rfl) (by decide) ?_
      refine wp_istore_n (atd dX12_laySymmetries 11 rfl) (Nat.le_of_ble_eq_true rfl) ?_
      refine lX12_syI (α := upd (upd α 18 (nI 1)) 41 (nI 0)) (B0 := B) (fun σ2 B2 e1 hM hfb2 hx => ?_) 9 _ B 0 hM frm.rf (fun x hx => absurd hx (Nat.not_lt_zero x)) (by omega)
      refine wp_iconst (v := nI 0) (atd dX12_laySymmetries 27 rfl) (by decide) ?_
      refine wp_istore_n (atd dX12_laySymmetries 28 rfl) (Nat.le_of_ble_eq_true rfl) ?_
      refine lX12_sy (α0 := upd (upd α 18 (nI 1)) 41 (nI 0)) (B0 := B) (nb := nb) (by omega) hp hn hb hw n 0 (fun _ => 0) (0, fun _ => 0) _ _ B2 _ (by omega) ⟨hM, frm.rf, hfb2⟩ ⟨fun j hj => absurd hj (Nat.not_lt_zero j), fun j _ h2 => (hx j h2).2⟩ ⟨rfl, fun p hp9 => (hx p hp9).1, fun p => (show (0 : Nat) < 512 by decide)⟩ (fun σ3 α3 B3 e2 hI3 hT3 hA3 => ?_)
      obtain ⟨hM, hfa3, hfb3⟩ := hI3
      rw [show pd 0 = -1 from rfl]
      refine wp_iload_n (atd dX12_laySymmetries 29 rfl) rfl ?_
      refine wp_if_lt (tgt := 185) (atd dX12_laySymmetries 30 rfl) (by decide) (fun c_49 => ?_) (fun c_49 => ?_)
      ·
        refine wp_vretv (atd dX12_laySymmetries 108 rfl) rfl ?_
        exact ⟨α3, B3, hM, frm_sub (U := [18, 41]) (((frm.rf (S := [18, 41])).up (by decide)).up (by decide)) hfa3 (by decide) (by decide), hfb3, (hfa3 18 (by decide)).trans rfl, hA3.1, hA3.2.1⟩
      · exact absurd (by decide) c_49
    · exact absurd c_4 (by decide)
  ·
    refine wp_aload_n (atd dX12_laySymmetries 0 rfl) rfl rfl ?_
    refine wp_get fX12_175 (atd dX12_laySymmetries 1 rfl) hM.1.1 (congrArg (fun z => some (Value.int z)) h18) ?_
    refine wp_ifN_eq (tgt := 8) (atd dX12_laySymmetries 2 rfl) (by decide) (by omega) (fun c_4 => ?_) (fun c_4 => ?_)
    · exact absurd c_4 (by decide)
    ·
      refine wp_vretv (atd dX12_laySymmetries 3 rfl) rfl ?_
      exact ⟨α, B, hM, frm.rf, frm.rf, h18, h41, h14⟩
theorem eX12_symmetries {G : Gx} {d : Nat} {σ : Hp} (hd : 3 ≤ d) {m n : Nat} {α : Nat → Int32} {B : Nat → Nat → Int32} {nb : Nat → Nat} (hM : MA σ σ m α B) (hp : α 2 = nI n) (hn : n ≤ 9) (hb : ∀ p, p < n → B 1 p = nI (nb p)) (hw : ∀ p, nb p < 512) (hS : SyOk α B nb n) : Cl G mX12_symmetries d [.ref m] σ 0 0 (pI fun r s => r = nI (syF nb n).1 ∧ ∃ α1 B1, MA σ s m α1 B1 ∧ frm [0, 18, 41] α α1 ∧ frm [13, 14] B B1 ∧ α1 0 = nI 0 ∧ SyOk α1 B1 nb n) := by
  obtain ⟨d0, hdd⟩ : ∃ e, d = e + 1 := ⟨d - 1, by omega⟩
  refine cl_of (by decide) (by simp [Value.category]) (Nat.le_of_ble_eq_true rfl) ?_
  show Wp G mX12_symmetries d 0 [.ref m] [] σ 0 0 _
  refine wp_aload_n (atd dX12_symmetries 0 rfl) rfl rfl ?_
  refine wp_iconst (v := nI 0) (atd dX12_symmetries 1 rfl) (by decide) ?_
  refine wp_putM fX12_75 (atd dX12_symmetries 2 rfl) hM rfl (fun σ hM => ?_)
  refine wp_aload_n (atd dX12_symmetries 3 rfl) rfl rfl ?_
  refine wp_cVv hdd [] (atd dX12_symmetries 4 rfl) iX12_laySymmetries lX12_317 rfl rfl (Nat.le_of_ble_eq_true rfl) hM.1.1 rfl (eX12_laySymmetries (by omega) hM.self hp hn hb hw hS) (fun s_6 h_6 => ?_)
  obtain ⟨α1, B1, hM1, hfa1, hfb1, g18, g41, g14⟩ := h_6
  have hM := hM.trans hM1
  refine wp_aload_n (atd dX12_symmetries 5 rfl) rfl rfl ?_
  refine wp_get fX12_311 (atd dX12_symmetries 6 rfl) hM.1.1 (congrArg (fun z => some (Value.int z)) g41) ?_
  refine wp_ireti (atd dX12_symmetries 7 rfl) rfl ?_
  exact ⟨rfl, α1, B1, hM, frm_sub (frm.up (f := α) (frm.rf (S := [0])) (by decide)) hfa1 (by decide) (by decide), hfb1, (hfa1 0 (by decide)).trans rfl, Or.inr ⟨g18, g41, g14⟩⟩
def lsB (a : Nat) : Nat → Nat → Nat
  | 0, j => j
  | k + 1, j => if a.testBit j = true then j else lsB a k (j + 1)
theorem syD_mono {nb : Nat → Nat} {n p j : Nat} : ∀ (r k : Nat) (f : Nat → Nat) (s : Sy), (s.2 p).testBit j = true → ((syD nb n r k f s).2 p).testBit j = true
  | 0, k, f, s, h => by
    show ((if p < n then s.2 p ||| 2 ^ f p else s.2 p)).testBit j = true
    split
    · rw [Nat.testBit_or, h]; rfl
    · exact h
  | r + 1, k, f, s, h => by
    have hg : ∀ (g v : Nat) (s : Sy), (s.2 p).testBit j = true → ((fl (fun v s => if fitB nb k v f = true then syD nb n r (k + 1) (va_up f k v) s else s) g v s).2 p).testBit j = true := by
      intro g
      induction g with
      | zero => intro v s h; exact h
      | succ g ih =>
        intro v s h
        refine ih (v + 1) _ ?_
        show ((if fitB nb k v f = true then syD nb n r (k + 1) (va_up f k v) s else s).2 p).testBit j = true
        split
        · exact syD_mono r (k + 1) (va_up f k v) s h
        · exact h
    exact hg n 0 s h
theorem fl_at {α : Type} {P : α → Prop} {g : Nat → α → α} (hm : ∀ v s, P s → P (g v s)) {v0 : Nat} (h0 : ∀ s, P (g v0 s)) : ∀ (k v : Nat) (s : α), v ≤ v0 → v0 < v + k → P (fl g k v s)
  | 0, v, s, h1, h2 => absurd h2 (by omega)
  | k + 1, v, s, h1, h2 => by
    have hk : ∀ (k v : Nat) (s : α), P s → P (fl g k v s) := by
      intro k
      induction k with
      | zero => intro v s h; exact h
      | succ k ih => intro v s h; exact ih (v + 1) _ (hm v s h)
    by_cases e : v = v0
    · subst e; exact hk k (v + 1) _ (h0 s)
    · exact fl_at hm h0 k (v + 1) _ (by omega) (by omega)
theorem fit_id {nb f : Nat → Nat} {k : Nat} (hf : ∀ i, i < k → f i = i) : fitB nb k k f = true := by
  have h : ∀ (g i : Nat), i + g = k → fitG nb k k f g i = true := by
    intro g
    induction g with
    | zero => intro i _; simp [fitG]
    | succ g ih =>
      intro i hi
      rw [fitG, hf i (by omega), if_neg (show ¬ (i = k ∨ (nb k).testBit i ≠ (nb k).testBit i) from fun z => z.elim (fun e => by omega) (fun w => w rfl))]
      exact ih (i + 1) (by omega)
  exact h k 0 (by omega)
theorem syD_id {nb : Nat → Nat} {n p : Nat} (hp : p < n) : ∀ (r k : Nat) (f : Nat → Nat) (s : Sy), k + r = n → (∀ i, i < k → f i = i) → ((syD nb n r k f s).2 p).testBit p = true
  | 0, k, f, s, hk, hf => by
    show ((if p < n then s.2 p ||| 2 ^ f p else s.2 p)).testBit p = true
    rw [if_pos hp, hf p (by omega), Nat.testBit_or, Nat.testBit_two_pow_self, Bool.or_true]
  | r + 1, k, f, s, hk, hf => by
    refine fl_at (P := fun s : Sy => (s.2 p).testBit p = true) (v0 := k) (fun v s h => ?_) (fun s => ?_) n 0 s (by omega) (by omega)
    · show ((if fitB nb k v f = true then syD nb n r (k + 1) (va_up f k v) s else s).2 p).testBit p = true
      split
      · exact syD_mono r (k + 1) _ s h
      · exact h
    · show ((if fitB nb k k f = true then syD nb n r (k + 1) (va_up f k k) s else s).2 p).testBit p = true
      rw [if_pos (fit_id hf)]
      refine syD_id hp r (k + 1) (va_up f k k) s (by omega) (fun i hi => ?_)
      show (if i = k then k else f i) = i
      split
      · omega
      · exact hf i (by omega)
theorem syF_id {nb : Nat → Nat} {n p : Nat} (hp : p < n) : ((syF nb n).2 p).testBit p = true := syD_id hp n 0 _ _ (by omega) (fun i hi => absurd hi (Nat.not_lt_zero i))
theorem syD_lt {nb : Nat → Nat} {n : Nat} (hn : n ≤ 9) : ∀ (r k : Nat) (f : Nat → Nat) (s : Sy), k + r = n → (∀ i, i < k → f i < n) → (∀ p, s.2 p < 512) → ∀ p, (syD nb n r k f s).2 p < 512
  | 0, k, f, s, hk, hf, hs, p => by
    show (if p < n then s.2 p ||| 2 ^ f p else s.2 p) < 512
    split
    · exact or_lt9 (hs p) (pow_lt9 (by have := hf p (by omega); omega))
    · exact hs p
  | r + 1, k, f, s, hk, hf, hs, p => by
    have hg : ∀ (g v : Nat) (s : Sy), v + g = n → (∀ p, s.2 p < 512) → ∀ p, (fl (fun v s => if fitB nb k v f = true then syD nb n r (k + 1) (va_up f k v) s else s) g v s).2 p < 512 := by
      intro g
      induction g with
      | zero => intro v s _ h; exact h
      | succ g ih =>
        intro v s hv h
        refine ih (v + 1) _ (by omega) (fun p => ?_)
        show (if fitB nb k v f = true then syD nb n r (k + 1) (va_up f k v) s else s).2 p < 512
        split
        · refine syD_lt hn r (k + 1) (va_up f k v) s (by omega) (fun i hi => ?_) h p
          show (if i = k then v else f i) < n
          split
          · omega
          · exact hf i (by omega)
        · exact h p
    exact hg n 0 s (by omega) hs p
theorem syF_lt {nb : Nat → Nat} {n : Nat} (hn : n ≤ 9) (p : Nat) : (syF nb n).2 p < 512 := syD_lt hn n 0 _ _ (by omega) (fun i hi => absurd hi (Nat.not_lt_zero i)) (fun _ => (show (0 : Nat) < 512 by decide)) p
theorem lX12_alike {G : Gx} {d : Nat} {σ σ0 : Hp} {m p v : Nat} {α : Nat → Int32} {B : Nat → Nat → Int32} {a : Nat} (hd : 1 ≤ d) (hM : MA σ0 σ m α B) (hp9 : p < 9) (ha : a < 512) (hB : B 14 p = nI a) (hpa : a.testBit p = true) : ∀ (k j : Nat), j + k = 9 → j ≤ p → lsB a k j = v → Wp G mX12_alike d 21 [.ref m, .int (nI p), .int (nI j)] [] σ 0 0 (pI fun r s => r = nI v ∧ s = σ) := by
  obtain ⟨d0, hdd⟩ : ∃ e, d = e + 1 := ⟨d - 1, by omega⟩
  intro k
  induction k with
  | zero =>
    intro j hj hjp
    exfalso; omega
  | succ k ih =>
    intro j hj hjp hv
    refine wp_aload_n (atd dX12_alike 13 rfl) rfl rfl ?_
    refine wp_get fX12_57 (atd dX12_alike 14 rfl) hM.1.1 rfl ?_
    refine wp_iload_n (atd dX12_alike 15 rfl) rfl ?_
    refine wp_ialdN (atd dX12_alike 16 rfl) hM.a14 (show _ < 9 from by omega) (Nat.le_of_ble_eq_true rfl) ?_
    rw [hB]
    refine wp_iload_n (atd dX12_alike 17 rfl) rfl ?_
    refine wp_cSi hdd [_, _] (atd dX12_alike 18 rfl) iX12_isOf lX12_149 rfl rfl (Nat.le_of_ble_eq_true rfl) (eX12_isOf (by omega) (by omega) (by omega)) (fun r_28 s_28 h_28 => ?_)
    obtain ⟨rfl, rfl⟩ := h_28
    refine wp_ifB_ne (tgt := 40) (atd dX12_alike 19 rfl) (by decide) (fun c_31 => ?_) (fun c_31 => ?_)
    ·
      refine wp_iload_n (atd dX12_alike 22 rfl) rfl ?_
      refine wp_ireti (atd dX12_alike 23 rfl) rfl ?_
      exact ⟨by rw [← hv, lsB, if_pos c_31], rfl⟩
    ·
      refine wp_iincN (c := 1) (atd dX12_alike 20 rfl) rfl ?_
      refine wp_goto (tgt := 21) (atd dX12_alike 21 rfl) (by decide) ?_
      exact ih (j + 1) (by omega) (Nat.lt_of_le_of_ne hjp (fun e => c_31 (by rw [e]; exact hpa))) (by rw [← hv, lsB, if_neg c_31])
theorem eX12_alike {G : Gx} {d : Nat} {σ : Hp} (hd : 3 ≤ d) {m n : Nat} {α : Nat → Int32} {B : Nat → Nat → Int32} {nb : Nat → Nat} (hM : MA σ σ m α B) (hp : α 2 = nI n) (hn : n ≤ 9) (hb : ∀ p, p < n → B 1 p = nI (nb p)) (hw : ∀ p, nb p < 512) (hS : SyOk α B nb n) {u : Int32} : Cl G mX12_alike d [.ref m, .int u] σ 0 0 (pI fun r s => r = atP u n (fun p => nI (lsB ((syF nb n).2 p) 9 0)) (-1) ∧ ∃ α1 B1, MA σ s m α1 B1 ∧ frm [0, 18, 41] α α1 ∧ frm [13, 14] B B1 ∧ α1 0 = nI 0 ∧ SyOk α1 B1 nb n) := by
  obtain ⟨d0, hdd⟩ : ∃ e, d = e + 1 := ⟨d - 1, by omega⟩
  refine cl_of (by decide) (by simp [Value.category]) (Nat.le_of_ble_eq_true rfl) ?_
  show Wp G mX12_alike d 0 [.ref m, .int u, .double 0] [] σ 0 0 _
  refine wp_aload_n (atd dX12_alike 0 rfl) rfl rfl ?_
  refine wp_iconst (v := nI 0) (atd dX12_alike 1 rfl) (by decide) ?_
  refine wp_putM fX12_75 (atd dX12_alike 2 rfl) hM rfl (fun σ hM => ?_)
  refine wp_aload_n (atd dX12_alike 3 rfl) rfl rfl ?_
  refine wp_iload_n (atd dX12_alike 4 rfl) rfl ?_
  refine wp_cVi hdd [_] (atd dX12_alike 5 rfl) iX12_isPlace lX12_181 rfl rfl (Nat.le_of_ble_eq_true rfl) hM.1.1 rfl (eX12_isPlace (by omega) hM.self hp hn) (fun r_7 s_7 h_7 => ?_)
  obtain ⟨rfl, rfl⟩ := h_7
  refine wp_ifB_ne (tgt := 15) (atd dX12_alike 6 rfl) (by decide) (fun c_10 => ?_) (fun c_10 => ?_)
  ·
    obtain ⟨p, hpn, rfl⟩ := isP_of hn c_10
    refine wp_aload_n (atd dX12_alike 9 rfl) rfl rfl ?_
    refine wp_cVv hdd [] (atd dX12_alike 10 rfl) iX12_laySymmetries lX12_317 rfl rfl (Nat.le_of_ble_eq_true rfl) hM.1.1 rfl (eX12_laySymmetries (by omega) hM.self hp hn hb hw hS) (fun s_16 h_16 => ?_)
    obtain ⟨α1, B1, hM1, hfa1, hfb1, g18, g41, g14⟩ := h_16
    have hM := hM.trans hM1
    refine wp_iconst (v := nI 0) (atd dX12_alike 11 rfl) (by decide) ?_
    refine wp_istore_n (atd dX12_alike 12 rfl) (Nat.le_of_ble_eq_true rfl) ?_
    refine wp_post (lX12_alike (v := lsB ((syF nb n).2 p) 9 0) (by omega) hM (by omega) (syF_lt hn p) (g14 p (by omega)) (syF_id hpn) 9 0 (by omega) (by omega) rfl) ?_
    rintro v s ⟨r, rfl, rfl, rfl⟩
    exact ⟨_, rfl, by rw [atP_t hn hpn], α1, B1, hM, frm_sub (frm.up (f := α) (frm.rf (S := [0])) (by decide)) hfa1 (by decide) (by decide), hfb1, (hfa1 0 (by decide)).trans rfl, Or.inr ⟨g18, g41, g14⟩⟩
  ·
    refine wp_iconst (v := -1) (atd dX12_alike 7 rfl) (by decide) ?_
    refine wp_ireti (atd dX12_alike 8 rfl) rfl ?_
    exact ⟨by rw [atP_f c_10], _, B, hM, frm.rf.up (by decide), frm.rf, rfl, hS⟩
