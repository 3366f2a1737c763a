/-! a new reference -/
def mF0 : List Value := [.int 0, .null, .int 0, .null, .null, .null, .int 0, .int 0, .int 0, .int 0, .int 0, .int 0, .int 0, .int 0, .int 0, .int 0, .int 0, .int 0, .int 0, .int 0, .int 0, .int 0, .null, .null, .int 0, .int 0, .null, .null, .null, .null, .null, .null, .int 0, .int 0, .int 0, .int 0, .int 0, .int 0, .int 0, .null, .null, .int 0, .null, .null, .null, .int 0, .int 0, .int 0, .int 0, .int 0, .int 0, .int 0, .int 0, .int 0, .int 0, .null, .null, .int 0]
def αI : Nat → Int32 := fun j => if j = 13 then -1 else if j = 19 then -1 else 0
def ord8 : Nat → Int32 := upd (upd (upd (upd (upd (upd (upd (upd (upd (upd (upd (upd (upd (upd (upd (upd (upd (upd (fun _ => 0) 0 (nI 0)) 1 (nI 1)) 2 (nI 2)) 3 (nI 0)) 4 (nI 2)) 5 (nI 1)) 6 (nI 1)) 7 (nI 0)) 8 (nI 2)) 9 (nI 1)) 10 (nI 2)) 11 (nI 0)) 12 (nI 2)) 13 (nI 0)) 14 (nI 1)) 15 (nI 2)) 16 (nI 1)) 17 (nI 0)
def BI (j : Nat) : Nat → Int32 := if j = 8 then ord8 else fun _ => 0
theorem ord8_ok : ∀ j, j < 18 → ord8 j = nI (ordT j) := by decide +kernel
def IniS (σ0 σ : Hp) (m j : Nat) (fs : List Value) : Prop := σ.1 = m + 1 + j ∧ σ.2 m = .inr (12, fs) ∧ (∀ i, 1 ≤ i → i ≤ j → σ.2 (m + i) = .inl (mT i, mLen i, .inl (BI i))) ∧ ∀ k, (k < m ∨ m + j < k) → σ.2 k = σ0.2 k
theorem hnew_eq {σ : Hp} {e : va_E} : (hnew σ e).2 σ.1 = e := by simp [hnew, va_up]
theorem hnew_ne {σ : Hp} {e : va_E} {k : Nat} (h : k ≠ σ.1) : (hnew σ e).2 k = σ.2 k := by simp [hnew, va_up, h]
theorem IniS.put {σ0 σ : Hp} {m j : Nat} {fs fs2 : List Value} (h : IniS σ0 σ m j fs) : IniS σ0 (hset σ m (.inr (12, fs2))) m j fs2 := ⟨h.1, hset_eq, fun i h1 h2 => by rw [hset_ne (by omega)]; exact h.2.2.1 i h1 h2, fun k hk => by rw [hset_ne (by omega)]; exact h.2.2.2 k hk⟩
theorem IniS.arr {σ0 σ : Hp} {m j t l : Nat} {f : Nat → Int32} {fs fs2 : List Value} (h : IniS σ0 σ m j fs) (ht : mT (j + 1) = t) (hl : mLen (j + 1) = l) (hf : BI (j + 1) = f) : IniS σ0 (hset (hnew σ (.inl (t, l, .inl f))) m (.inr (12, fs2))) m (j + 1) fs2 := by
  have hs : σ.1 = m + (j + 1) := by have := h.1; omega
  refine ⟨by show σ.1 + 1 = _; have := h.1; omega, hset_eq, fun i h1 h2 => ?_, fun k hk => ?_⟩
  · rw [hset_ne (by omega)]
    by_cases e : i = j + 1
    · subst e; rw [← hs, hnew_eq, ht, hl, hf]
    · rw [hnew_ne (by omega)]; exact h.2.2.1 i h1 (by omega)
  · rw [hset_ne (by omega), hnew_ne (by omega)]; exact h.2.2.2 k (by omega)
theorem IniS.ob {σ0 σ : Hp} {m j : Nat} {e : va_E} {fs : List Value} (h : IniS σ0 σ m j fs) : (hnew σ e).2 m = .inr (12, fs) := by rw [hnew_ne (by have := h.1; omega)]; exact h.2.1
theorem hset_new {σ : Hp} {e e2 : va_E} : hset (hnew σ e) σ.1 e2 = hnew σ e2 := by
  simp only [hset, hnew, Prod.mk.injEq, true_and]
  exact bx_uu _ _ _ _
theorem eX12_init {G : Gx} {d : Nat} {σ : Hp} (hd : 1 ≤ d) {m : Nat} (hm : σ.1 = m + 1) (hσ : σ.2 m = .inr (12, mF0)) : Cl G mX12_init d [.ref m] σ 19 54967 (pV fun s => MA s s m αI BI ∧ s.1 = m + 20 ∧ ∀ k, (k < m ∨ m + 19 < k) → s.2 k = σ.2 k) := by
  refine cl_of (by decide) (by simp [Value.category]) (Nat.le_of_ble_eq_true rfl) ?_
  show Wp G mX12_init d 0 [.ref m] [] σ 19 54967 _
  have hI : IniS σ σ m 0 mF0 := ⟨hm, hσ, fun i h1 h2 => by omega, fun k _ => rfl⟩
  refine wp_aload_n (atd dX12_init 0 rfl) rfl rfl ?_
  refine wp_objInit (atd dX12_init 1 rfl) lX12_1 (by omega) (Nat.le_of_ble_eq_true rfl) ?_
  refine wp_aload_n (atd dX12_init 2 rfl) rfl rfl ?_
  refine wp_bipush (v := nI 9) (atd dX12_init 3 rfl) (by decide) ?_
  refine wp_newi (mc := 18) (ms := 54958) (N := 9) (atd dX12_init 4 rfl) (by decide) (by decide) (by decide) ?_
  rw [show σ.1 = m + 1 from by have := hI.1; omega]
  refine wp_putF FfX12_7 (atd dX12_init 5 rfl) rfl hI.ob rfl (Nat.le_of_ble_eq_true rfl) ?_
  show Wp G mX12_init d _ _ _ (hset (hnew σ (.inl (0, 9, .inl (fun _ => 0)))) m (.inr (12, [.int 0, .ref (m + 1), .int 0, .null, .null, .null, .int 0, .int 0, .int 0, .int 0, .int 0, .int 0, .int 0, .int 0, .int 0, .int 0, .int 0, .int 0, .int 0, .int 0, .int 0, .int 0, .null, .null, .int 0, .int 0, .null, .null, .null, .null, .null, .null, .int 0, .int 0, .int 0, .int 0, .int 0, .int 0, .int 0, .null, .null, .int 0, .null, .null, .null, .int 0, .int 0, .int 0, .int 0, .int 0, .int 0, .int 0, .int 0, .int 0, .int 0, .null, .null, .int 0]))) _ _ _
  obtain ⟨σ1, eσ, hI⟩ : ∃ s, s = _ ∧ IniS σ s m 1 [.int 0, .ref (m + 1), .int 0, .null, .null, .null, .int 0, .int 0, .int 0, .int 0, .int 0, .int 0, .int 0, .int 0, .int 0, .int 0, .int 0, .int 0, .int 0, .int 0, .int 0, .int 0, .null, .null, .int 0, .int 0, .null, .null, .null, .null, .null, .null, .int 0, .int 0, .int 0, .int 0, .int 0, .int 0, .int 0, .null, .null, .int 0, .null, .null, .null, .int 0, .int 0, .int 0, .int 0, .int 0, .int 0, .int 0, .int 0, .int 0, .int 0, .null, .null, .int 0] := ⟨_, rfl, hI.arr (t := 0) (l := 9) (f := fun _ => 0) rfl rfl rfl⟩
  rw [← eσ]; clear eσ
  refine wp_aload_n (atd dX12_init 6 rfl) rfl rfl ?_
  refine wp_sipush (v := nI 600) (atd dX12_init 7 rfl) (by decide) ?_
  refine wp_newi (mc := 17) (ms := 54358) (N := 600) (atd dX12_init 8 rfl) (by decide) (by decide) (by decide) ?_
  rw [show σ1.1 = m + 2 from by have := hI.1; omega]
  refine wp_putF FfX12_13 (atd dX12_init 9 rfl) rfl hI.ob rfl (Nat.le_of_ble_eq_true rfl) ?_
  show Wp G mX12_init d _ _ _ (hset (hnew σ1 (.inl (0, 600, .inl (fun _ => 0)))) m (.inr (12, [.int 0, .ref (m + 1), .int 0, .ref (m + 2), .null, .null, .int 0, .int 0, .int 0, .int 0, .int 0, .int 0, .int 0, .int 0, .int 0, .int 0, .int 0, .int 0, .int 0, .int 0, .int 0, .int 0, .null, .null, .int 0, .int 0, .null, .null, .null, .null, .null, .null, .int 0, .int 0, .int 0, .int 0, .int 0, .int 0, .int 0, .null, .null, .int 0, .null, .null, .null, .int 0, .int 0, .int 0, .int 0, .int 0, .int 0, .int 0, .int 0, .int 0, .int 0, .null, .null, .int 0]))) _ _ _
  obtain ⟨σ2, eσ, hI⟩ : ∃ s, s = _ ∧ IniS σ s m 2 [.int 0, .ref (m + 1), .int 0, .ref (m + 2), .null, .null, .int 0, .int 0, .int 0, .int 0, .int 0, .int 0, .int 0, .int 0, .int 0, .int 0, .int 0, .int 0, .int 0, .int 0, .int 0, .int 0, .null, .null, .int 0, .int 0, .null, .null, .null, .null, .null, .null, .int 0, .int 0, .int 0, .int 0, .int 0, .int 0, .int 0, .null, .null, .int 0, .null, .null, .null, .int 0, .int 0, .int 0, .int 0, .int 0, .int 0, .int 0, .int 0, .int 0, .int 0, .null, .null, .int 0] := ⟨_, rfl, hI.arr (t := 0) (l := 600) (f := fun _ => 0) rfl rfl rfl⟩
  rw [← eσ]; clear eσ
  refine wp_aload_n (atd dX12_init 10 rfl) rfl rfl ?_
  refine wp_bipush (v := nI 9) (atd dX12_init 11 rfl) (by decide) ?_
  refine wp_newi (mc := 16) (ms := 54349) (N := 9) (atd dX12_init 12 rfl) (by decide) (by decide) (by decide) ?_
  rw [show σ2.1 = m + 3 from by have := hI.1; omega]
  refine wp_putF FfX12_16 (atd dX12_init 13 rfl) rfl hI.ob rfl (Nat.le_of_ble_eq_true rfl) ?_
  show Wp G mX12_init d _ _ _ (hset (hnew σ2 (.inl (0, 9, .inl (fun _ => 0)))) m (.inr (12, [.int 0, .ref (m + 1), .int 0, .ref (m + 2), .ref (m + 3), .null, .int 0, .int 0, .int 0, .int 0, .int 0, .int 0, .int 0, .int 0, .int 0, .int 0, .int 0, .int 0, .int 0, .int 0, .int 0, .int 0, .null, .null, .int 0, .int 0, .null, .null, .null, .null, .null, .null, .int 0, .int 0, .int 0, .int 0, .int 0, .int 0, .int 0, .null, .null, .int 0, .null, .null, .null, .int 0, .int 0, .int 0, .int 0, .int 0, .int 0, .int 0, .int 0, .int 0, .int 0, .null, .null, .int 0]))) _ _ _
  obtain ⟨σ3, eσ, hI⟩ : ∃ s, s = _ ∧ IniS σ s m 3 [.int 0, .ref (m + 1), .int 0, .ref (m + 2), .ref (m + 3), .null, .int 0, .int 0, .int 0, .int 0, .int 0, .int 0, .int 0, .int 0, .int 0, .int 0, .int 0, .int 0, .int 0, .int 0, .int 0, .int 0, .null, .null, .int 0, .int 0, .null, .null, .null, .null, .null, .null, .int 0, .int 0, .int 0, .int 0, .int 0, .int 0, .int 0, .null, .null, .int 0, .null, .null, .null, .int 0, .int 0, .int 0, .int 0, .int 0, .int 0, .int 0, .int 0, .int 0, .int 0, .null, .null, .int 0] := ⟨_, rfl, hI.arr (t := 0) (l := 9) (f := fun _ => 0) rfl rfl rfl⟩
  rw [← eσ]; clear eσ
  refine wp_aload_n (atd dX12_init 14 rfl) rfl rfl ?_
  refine wp_bipush (v := nI 9) (atd dX12_init 15 rfl) (by decide) ?_
  refine wp_newi (mc := 15) (ms := 54340) (N := 9) (atd dX12_init 16 rfl) (by decide) (by decide) (by decide) ?_
  rw [show σ3.1 = m + 4 from by have := hI.1; omega]
  refine wp_putF FfX12_19 (atd dX12_init 17 rfl) rfl hI.ob rfl (Nat.le_of_ble_eq_true rfl) ?_
  show Wp G mX12_init d _ _ _ (hset (hnew σ3 (.inl (0, 9, .inl (fun _ => 0)))) m (.inr (12, [.int 0, .ref (m + 1), .int 0, .ref (m + 2), .ref (m + 3), .ref (m + 4), .int 0, .int 0, .int 0, .int 0, .int 0, .int 0, .int 0, .int 0, .int 0, .int 0, .int 0, .int 0, .int 0, .int 0, .int 0, .int 0, .null, .null, .int 0, .int 0, .null, .null, .null, .null, .null, .null, .int 0, .int 0, .int 0, .int 0, .int 0, .int 0, .int 0, .null, .null, .int 0, .null, .null, .null, .int 0, .int 0, .int 0, .int 0, .int 0, .int 0, .int 0, .int 0, .int 0, .int 0, .null, .null, .int 0]))) _ _ _
  obtain ⟨σ4, eσ, hI⟩ : ∃ s, s = _ ∧ IniS σ s m 4 [.int 0, .ref (m + 1), .int 0, .ref (m + 2), .ref (m + 3), .ref (m + 4), .int 0, .int 0, .int 0, .int 0, .int 0, .int 0, .int 0, .int 0, .int 0, .int 0, .int 0, .int 0, .int 0, .int 0, .int 0, .int 0, .null, .null, .int 0, .int 0, .null, .null, .null, .null, .null, .null, .int 0, .int 0, .int 0, .int 0, .int 0, .int 0, .int 0, .null, .null, .int 0, .null, .null, .null, .int 0, .int 0, .int 0, .int 0, .int 0, .int 0, .int 0, .int 0, .int 0, .int 0, .null, .null, .int 0] := ⟨_, rfl, hI.arr (t := 0) (l := 9) (f := fun _ => 0) rfl rfl rfl⟩
  rw [← eσ]; clear eσ
  refine wp_aload_n (atd dX12_init 18 rfl) rfl rfl ?_
  refine wp_iconst (v := -1) (atd dX12_init 19 rfl) (by decide) ?_
  refine wp_put fX12_22 (atd dX12_init 20 rfl) hI.2.1 rfl (Nat.le_of_ble_eq_true rfl) ?_
  show Wp G mX12_init d _ _ _ (hset σ4 m (.inr (12, [.int 0, .ref (m + 1), .int 0, .ref (m + 2), .ref (m + 3), .ref (m + 4), .int 0, .int 0, .int 0, .int 0, .int 0, .int 0, .int 0, .int (-1), .int 0, .int 0, .int 0, .int 0, .int 0, .int 0, .int 0, .int 0, .null, .null, .int 0, .int 0, .null, .null, .null, .null, .null, .null, .int 0, .int 0, .int 0, .int 0, .int 0, .int 0, .int 0, .null, .null, .int 0, .null, .null, .null, .int 0, .int 0, .int 0, .int 0, .int 0, .int 0, .int 0, .int 0, .int 0, .int 0, .null, .null, .int 0]))) _ _ _
  obtain ⟨σ4x, eσ, hI⟩ : ∃ s, s = _ ∧ IniS σ s m 4 [.int 0, .ref (m + 1), .int 0, .ref (m + 2), .ref (m + 3), .ref (m + 4), .int 0, .int 0, .int 0, .int 0, .int 0, .int 0, .int 0, .int (-1), .int 0, .int 0, .int 0, .int 0, .int 0, .int 0, .int 0, .int 0, .null, .null, .int 0, .int 0, .null, .null, .null, .null, .null, .null, .int 0, .int 0, .int 0, .int 0, .int 0, .int 0, .int 0, .null, .null, .int 0, .null, .null, .null, .int 0, .int 0, .int 0, .int 0, .int 0, .int 0, .int 0, .int 0, .int 0, .int 0, .null, .null, .int 0] := ⟨_, rfl, hI.put⟩
  rw [← eσ]; clear eσ
  refine wp_aload_n (atd dX12_init 21 rfl) rfl rfl ?_
  refine wp_iconst (v := -1) (atd dX12_init 22 rfl) (by decide) ?_
  refine wp_put fX12_26 (atd dX12_init 23 rfl) hI.2.1 rfl (Nat.le_of_ble_eq_true rfl) ?_
  show Wp G mX12_init d _ _ _ (hset σ4x m (.inr (12, [.int 0, .ref (m + 1), .int 0, .ref (m + 2), .ref (m + 3), .ref (m + 4), .int 0, .int 0, .int 0, .int 0, .int 0, .int 0, .int 0, .int (-1), .int 0, .int 0, .int 0, .int 0, .int 0, .int (-1), .int 0, .int 0, .null, .null, .int 0, .int 0, .null, .null, .null, .null, .null, .null, .int 0, .int 0, .int 0, .int 0, .int 0, .int 0, .int 0, .null, .null, .int 0, .null, .null, .null, .int 0, .int 0, .int 0, .int 0, .int 0, .int 0, .int 0, .int 0, .int 0, .int 0, .null, .null, .int 0]))) _ _ _
  obtain ⟨σ4x, eσ, hI⟩ : ∃ s, s = _ ∧ IniS σ s m 4 [.int 0, .ref (m + 1), .int 0, .ref (m + 2), .ref (m + 3), .ref (m + 4), .int 0, .int 0, .int 0, .int 0, .int 0, .int 0, .int 0, .int (-1), .int 0, .int 0, .int 0, .int 0, .int 0, .int (-1), .int 0, .int 0, .null, .null, .int 0, .int 0, .null, .null, .null, .null, .null, .null, .int 0, .int 0, .int 0, .int 0, .int 0, .int 0, .int 0, .null, .null, .int 0, .null, .null, .null, .int 0, .int 0, .int 0, .int 0, .int 0, .int 0, .int 0, .int 0, .int 0, .int 0, .null, .null, .int 0] := ⟨_, rfl, hI.put⟩
  rw [← eσ]; clear eσ
  refine wp_aload_n (atd dX12_init 24 rfl) rfl rfl ?_
  refine wp_bipush (v := nI 9) (atd dX12_init 25 rfl) (by decide) ?_
  refine wp_newi (mc := 14) (ms := 54331) (N := 9) (atd dX12_init 26 rfl) (by decide) (by decide) (by decide) ?_
  rw [show σ4x.1 = m + 5 from by have := hI.1; omega]
  refine wp_putF FfX12_29 (atd dX12_init 27 rfl) rfl hI.ob rfl (Nat.le_of_ble_eq_true rfl) ?_
  show Wp G mX12_init d _ _ _ (hset (hnew σ4x (.inl (0, 9, .inl (fun _ => 0)))) m (.inr (12, [.int 0, .ref (m + 1), .int 0, .ref (m + 2), .ref (m + 3), .ref (m + 4), .int 0, .int 0, .int 0, .int 0, .int 0, .int 0, .int 0, .int (-1), .int 0, .int 0, .int 0, .int 0, .int 0, .int (-1), .int 0, .int 0, .ref (m + 5), .null, .int 0, .int 0, .null, .null, .null, .null, .null, .null, .int 0, .int 0, .int 0, .int 0, .int 0, .int 0, .int 0, .null, .null, .int 0, .null, .null, .null, .int 0, .int 0, .int 0, .int 0, .int 0, .int 0, .int 0, .int 0, .int 0, .int 0, .null, .null, .int 0]))) _ _ _
  obtain ⟨σ5, eσ, hI⟩ : ∃ s, s = _ ∧ IniS σ s m 5 [.int 0, .ref (m + 1), .int 0, .ref (m + 2), .ref (m + 3), .ref (m + 4), .int 0, .int 0, .int 0, .int 0, .int 0, .int 0, .int 0, .int (-1), .int 0, .int 0, .int 0, .int 0, .int 0, .int (-1), .int 0, .int 0, .ref (m + 5), .null, .int 0, .int 0, .null, .null, .null, .null, .null, .null, .int 0, .int 0, .int 0, .int 0, .int 0, .int 0, .int 0, .null, .null, .int 0, .null, .null, .null, .int 0, .int 0, .int 0, .int 0, .int 0, .int 0, .int 0, .int 0, .int 0, .int 0, .null, .null, .int 0] := ⟨_, rfl, hI.arr (t := 0) (l := 9) (f := fun _ => 0) rfl rfl rfl⟩
  rw [← eσ]; clear eσ
  refine wp_aload_n (atd dX12_init 28 rfl) rfl rfl ?_
  refine wp_bipush (v := nI 9) (atd dX12_init 29 rfl) (by decide) ?_
  refine wp_newi (mc := 13) (ms := 54322) (N := 9) (atd dX12_init 30 rfl) (by decide) (by decide) (by decide) ?_
  rw [show σ5.1 = m + 6 from by have := hI.1; omega]
  refine wp_putF FfX12_32 (atd dX12_init 31 rfl) rfl hI.ob rfl (Nat.le_of_ble_eq_true rfl) ?_
  show Wp G mX12_init d _ _ _ (hset (hnew σ5 (.inl (0, 9, .inl (fun _ => 0)))) m (.inr (12, [.int 0, .ref (m + 1), .int 0, .ref (m + 2), .ref (m + 3), .ref (m + 4), .int 0, .int 0, .int 0, .int 0, .int 0, .int 0, .int 0, .int (-1), .int 0, .int 0, .int 0, .int 0, .int 0, .int (-1), .int 0, .int 0, .ref (m + 5), .ref (m + 6), .int 0, .int 0, .null, .null, .null, .null, .null, .null, .int 0, .int 0, .int 0, .int 0, .int 0, .int 0, .int 0, .null, .null, .int 0, .null, .null, .null, .int 0, .int 0, .int 0, .int 0, .int 0, .int 0, .int 0, .int 0, .int 0, .int 0, .null, .null, .int 0]))) _ _ _
  obtain ⟨σ6, eσ, hI⟩ : ∃ s, s = _ ∧ IniS σ s m 6 [.int 0, .ref (m + 1), .int 0, .ref (m + 2), .ref (m + 3), .ref (m + 4), .int 0, .int 0, .int 0, .int 0, .int 0, .int 0, .int 0, .int (-1), .int 0, .int 0, .int 0, .int 0, .int 0, .int (-1), .int 0, .int 0, .ref (m + 5), .ref (m + 6), .int 0, .int 0, .null, .null, .null, .null, .null, .null, .int 0, .int 0, .int 0, .int 0, .int 0, .int 0, .int 0, .null, .null, .int 0, .null, .null, .null, .int 0, .int 0, .int 0, .int 0, .int 0, .int 0, .int 0, .int 0, .int 0, .int 0, .null, .null, .int 0] := ⟨_, rfl, hI.arr (t := 0) (l := 9) (f := fun _ => 0) rfl rfl rfl⟩
  rw [← eσ]; clear eσ
  refine wp_aload_n (atd dX12_init 32 rfl) rfl rfl ?_
  refine wp_sipush (v := nI 495) (atd dX12_init 33 rfl) (by decide) ?_
  refine wp_newi (mc := 12) (ms := 53827) (N := 495) (atd dX12_init 34 rfl) (by decide) (by decide) (by decide) ?_
  rw [show σ6.1 = m + 7 from by have := hI.1; omega]
  refine wp_putF FfX12_35 (atd dX12_init 35 rfl) rfl hI.ob rfl (Nat.le_of_ble_eq_true rfl) ?_
  show Wp G mX12_init d _ _ _ (hset (hnew σ6 (.inl (0, 495, .inl (fun _ => 0)))) m (.inr (12, [.int 0, .ref (m + 1), .int 0, .ref (m + 2), .ref (m + 3), .ref (m + 4), .int 0, .int 0, .int 0, .int 0, .int 0, .int 0, .int 0, .int (-1), .int 0, .int 0, .int 0, .int 0, .int 0, .int (-1), .int 0, .int 0, .ref (m + 5), .ref (m + 6), .int 0, .int 0, .ref (m + 7), .null, .null, .null, .null, .null, .int 0, .int 0, .int 0, .int 0, .int 0, .int 0, .int 0, .null, .null, .int 0, .null, .null, .null, .int 0, .int 0, .int 0, .int 0, .int 0, .int 0, .int 0, .int 0, .int 0, .int 0, .null, .null, .int 0]))) _ _ _
  obtain ⟨σ7, eσ, hI⟩ : ∃ s, s = _ ∧ IniS σ s m 7 [.int 0, .ref (m + 1), .int 0, .ref (m + 2), .ref (m + 3), .ref (m + 4), .int 0, .int 0, .int 0, .int 0, .int 0, .int 0, .int 0, .int (-1), .int 0, .int 0, .int 0, .int 0, .int 0, .int (-1), .int 0, .int 0, .ref (m + 5), .ref (m + 6), .int 0, .int 0, .ref (m + 7), .null, .null, .null, .null, .null, .int 0, .int 0, .int 0, .int 0, .int 0, .int 0, .int 0, .null, .null, .int 0, .null, .null, .null, .int 0, .int 0, .int 0, .int 0, .int 0, .int 0, .int 0, .int 0, .int 0, .int 0, .null, .null, .int 0] := ⟨_, rfl, hI.arr (t := 0) (l := 495) (f := fun _ => 0) rfl rfl rfl⟩
  rw [← eσ]; clear eσ
  refine wp_aload_n (atd dX12_init 36 rfl) rfl rfl ?_
  refine wp_bipush (v := nI 18) (atd dX12_init 37 rfl) (by decide) ?_
  refine wp_newi (mc := 11) (ms := 53809) (N := 18) (atd dX12_init 38 rfl) (by decide) (by decide) (by decide) ?_
  refine wp_dup (atd dX12_init 39 rfl) rfl ?_
  refine wp_iconst (v := nI 0) (atd dX12_init 40 rfl) (by decide) ?_
  refine wp_iconst (v := nI 0) (atd dX12_init 41 rfl) (by decide) ?_
  refine wp_iastN (atd dX12_init 42 rfl) hnew_eq (by decide) (by decide) ?_
  rw [hset_new]
  refine wp_dup (atd dX12_init 43 rfl) rfl ?_
  refine wp_iconst (v := nI 1) (atd dX12_init 44 rfl) (by decide) ?_
  refine wp_iconst (v := nI 1) (atd dX12_init 45 rfl) (by decide) ?_
  refine wp_iastN (atd dX12_init 46 rfl) hnew_eq (by decide) (by decide) ?_
  rw [hset_new]
  refine wp_dup (atd dX12_init 47 rfl) rfl ?_
  refine wp_iconst (v := nI 2) (atd dX12_init 48 rfl) (by decide) ?_
  refine wp_iconst (v := nI 2) (atd dX12_init 49 rfl) (by decide) ?_
  refine wp_iastN (atd dX12_init 50 rfl) hnew_eq (by decide) (by decide) ?_
  rw [hset_new]
  refine wp_dup (atd dX12_init 51 rfl) rfl ?_
  refine wp_iconst (v := nI 3) (atd dX12_init 52 rfl) (by decide) ?_
  refine wp_iconst (v := nI 0) (atd dX12_init 53 rfl) (by decide) ?_
  refine wp_iastN (atd dX12_init 54 rfl) hnew_eq (by decide) (by decide) ?_
  rw [hset_new]
  refine wp_dup (atd dX12_init 55 rfl) rfl ?_
  refine wp_iconst (v := nI 4) (atd dX12_init 56 rfl) (by decide) ?_
  refine wp_iconst (v := nI 2) (atd dX12_init 57 rfl) (by decide) ?_
  refine wp_iastN (atd dX12_init 58 rfl) hnew_eq (by decide) (by decide) ?_
  rw [hset_new]
  refine wp_dup (atd dX12_init 59 rfl) rfl ?_
  refine wp_iconst (v := nI 5) (atd dX12_init 60 rfl) (by decide) ?_
  refine wp_iconst (v := nI 1) (atd dX12_init 61 rfl) (by decide) ?_
  refine wp_iastN (atd dX12_init 62 rfl) hnew_eq (by decide) (by decide) ?_
  rw [hset_new]
  refine wp_dup (atd dX12_init 63 rfl) rfl ?_
  refine wp_bipush (v := nI 6) (atd dX12_init 64 rfl) (by decide) ?_
  refine wp_iconst (v := nI 1) (atd dX12_init 65 rfl) (by decide) ?_
  refine wp_iastN (atd dX12_init 66 rfl) hnew_eq (by decide) (by decide) ?_
  rw [hset_new]
  refine wp_dup (atd dX12_init 67 rfl) rfl ?_
  refine wp_bipush (v := nI 7) (atd dX12_init 68 rfl) (by decide) ?_
  refine wp_iconst (v := nI 0) (atd dX12_init 69 rfl) (by decide) ?_
  refine wp_iastN (atd dX12_init 70 rfl) hnew_eq (by decide) (by decide) ?_
  rw [hset_new]
  refine wp_dup (atd dX12_init 71 rfl) rfl ?_
  refine wp_bipush (v := nI 8) (atd dX12_init 72 rfl) (by decide) ?_
  refine wp_iconst (v := nI 2) (atd dX12_init 73 rfl) (by decide) ?_
  refine wp_iastN (atd dX12_init 74 rfl) hnew_eq (by decide) (by decide) ?_
  rw [hset_new]
  refine wp_dup (atd dX12_init 75 rfl) rfl ?_
  refine wp_bipush (v := nI 9) (atd dX12_init 76 rfl) (by decide) ?_
  refine wp_iconst (v := nI 1) (atd dX12_init 77 rfl) (by decide) ?_
  refine wp_iastN (atd dX12_init 78 rfl) hnew_eq (by decide) (by decide) ?_
  rw [hset_new]
  refine wp_dup (atd dX12_init 79 rfl) rfl ?_
  refine wp_bipush (v := nI 10) (atd dX12_init 80 rfl) (by decide) ?_
  refine wp_iconst (v := nI 2) (atd dX12_init 81 rfl) (by decide) ?_
  refine wp_iastN (atd dX12_init 82 rfl) hnew_eq (by decide) (by decide) ?_
  rw [hset_new]
  refine wp_dup (atd dX12_init 83 rfl) rfl ?_
  refine wp_bipush (v := nI 11) (atd dX12_init 84 rfl) (by decide) ?_
  refine wp_iconst (v := nI 0) (atd dX12_init 85 rfl) (by decide) ?_
  refine wp_iastN (atd dX12_init 86 rfl) hnew_eq (by decide) (by decide) ?_
  rw [hset_new]
  refine wp_dup (atd dX12_init 87 rfl) rfl ?_
  refine wp_bipush (v := nI 12) (atd dX12_init 88 rfl) (by decide) ?_
  refine wp_iconst (v := nI 2) (atd dX12_init 89 rfl) (by decide) ?_
  refine wp_iastN (atd dX12_init 90 rfl) hnew_eq (by decide) (by decide) ?_
  rw [hset_new]
  refine wp_dup (atd dX12_init 91 rfl) rfl ?_
  refine wp_bipush (v := nI 13) (atd dX12_init 92 rfl) (by decide) ?_
  refine wp_iconst (v := nI 0) (atd dX12_init 93 rfl) (by decide) ?_
  refine wp_iastN (atd dX12_init 94 rfl) hnew_eq (by decide) (by decide) ?_
  rw [hset_new]
  refine wp_dup (atd dX12_init 95 rfl) rfl ?_
  refine wp_bipush (v := nI 14) (atd dX12_init 96 rfl) (by decide) ?_
  refine wp_iconst (v := nI 1) (atd dX12_init 97 rfl) (by decide) ?_
  refine wp_iastN (atd dX12_init 98 rfl) hnew_eq (by decide) (by decide) ?_
  rw [hset_new]
  refine wp_dup (atd dX12_init 99 rfl) rfl ?_
  refine wp_bipush (v := nI 15) (atd dX12_init 100 rfl) (by decide) ?_
  refine wp_iconst (v := nI 2) (atd dX12_init 101 rfl) (by decide) ?_
  refine wp_iastN (atd dX12_init 102 rfl) hnew_eq (by decide) (by decide) ?_
  rw [hset_new]
  refine wp_dup (atd dX12_init 103 rfl) rfl ?_
  refine wp_bipush (v := nI 16) (atd dX12_init 104 rfl) (by decide) ?_
  refine wp_iconst (v := nI 1) (atd dX12_init 105 rfl) (by decide) ?_
  refine wp_iastN (atd dX12_init 106 rfl) hnew_eq (by decide) (by decide) ?_
  rw [hset_new]
  refine wp_dup (atd dX12_init 107 rfl) rfl ?_
  refine wp_bipush (v := nI 17) (atd dX12_init 108 rfl) (by decide) ?_
  refine wp_iconst (v := nI 0) (atd dX12_init 109 rfl) (by decide) ?_
  refine wp_iastN (atd dX12_init 110 rfl) hnew_eq (by decide) (by decide) ?_
  rw [hset_new]
  rw [show σ7.1 = m + 8 from by have := hI.1; omega]
  refine wp_putF FfX12_38 (atd dX12_init 111 rfl) rfl hI.ob rfl (Nat.le_of_ble_eq_true rfl) ?_
  show Wp G mX12_init d _ _ _ (hset (hnew σ7 (.inl (0, 18, .inl ord8))) m (.inr (12, [.int 0, .ref (m + 1), .int 0, .ref (m + 2), .ref (m + 3), .ref (m + 4), .int 0, .int 0, .int 0, .int 0, .int 0, .int 0, .int 0, .int (-1), .int 0, .int 0, .int 0, .int 0, .int 0, .int (-1), .int 0, .int 0, .ref (m + 5), .ref (m + 6), .int 0, .int 0, .ref (m + 7), .ref (m + 8), .null, .null, .null, .null, .int 0, .int 0, .int 0, .int 0, .int 0, .int 0, .int 0, .null, .null, .int 0, .null, .null, .null, .int 0, .int 0, .int 0, .int 0, .int 0, .int 0, .int 0, .int 0, .int 0, .int 0, .null, .null, .int 0]))) _ _ _
  obtain ⟨σ8, eσ, hI⟩ : ∃ s, s = _ ∧ IniS σ s m 8 [.int 0, .ref (m + 1), .int 0, .ref (m + 2), .ref (m + 3), .ref (m + 4), .int 0, .int 0, .int 0, .int 0, .int 0, .int 0, .int 0, .int (-1), .int 0, .int 0, .int 0, .int 0, .int 0, .int (-1), .int 0, .int 0, .ref (m + 5), .ref (m + 6), .int 0, .int 0, .ref (m + 7), .ref (m + 8), .null, .null, .null, .null, .int 0, .int 0, .int 0, .int 0, .int 0, .int 0, .int 0, .null, .null, .int 0, .null, .null, .null, .int 0, .int 0, .int 0, .int 0, .int 0, .int 0, .int 0, .int 0, .int 0, .int 0, .null, .null, .int 0] := ⟨_, rfl, hI.arr (t := 0) (l := 18) (f := ord8) rfl rfl rfl⟩
  rw [← eσ]; clear eσ
  refine wp_aload_n (atd dX12_init 112 rfl) rfl rfl ?_
  refine wp_sipush (v := nI 27225) (atd dX12_init 113 rfl) (by decide) ?_
  refine wp_newz (mc := 10) (ms := 26584) (N := 27225) (atd dX12_init 114 rfl) (by decide) (by decide) (by decide) ?_
  rw [show σ8.1 = m + 9 from by have := hI.1; omega]
  refine wp_putF FfX12_41 (atd dX12_init 115 rfl) rfl hI.ob rfl (Nat.le_of_ble_eq_true rfl) ?_
  show Wp G mX12_init d _ _ _ (hset (hnew σ8 (.inl (1, 27225, .inl (fun _ => 0)))) m (.inr (12, [.int 0, .ref (m + 1), .int 0, .ref (m + 2), .ref (m + 3), .ref (m + 4), .int 0, .int 0, .int 0, .int 0, .int 0, .int 0, .int 0, .int (-1), .int 0, .int 0, .int 0, .int 0, .int 0, .int (-1), .int 0, .int 0, .ref (m + 5), .ref (m + 6), .int 0, .int 0, .ref (m + 7), .ref (m + 8), .ref (m + 9), .null, .null, .null, .int 0, .int 0, .int 0, .int 0, .int 0, .int 0, .int 0, .null, .null, .int 0, .null, .null, .null, .int 0, .int 0, .int 0, .int 0, .int 0, .int 0, .int 0, .int 0, .int 0, .int 0, .null, .null, .int 0]))) _ _ _
  obtain ⟨σ9, eσ, hI⟩ : ∃ s, s = _ ∧ IniS σ s m 9 [.int 0, .ref (m + 1), .int 0, .ref (m + 2), .ref (m + 3), .ref (m + 4), .int 0, .int 0, .int 0, .int 0, .int 0, .int 0, .int 0, .int (-1), .int 0, .int 0, .int 0, .int 0, .int 0, .int (-1), .int 0, .int 0, .ref (m + 5), .ref (m + 6), .int 0, .int 0, .ref (m + 7), .ref (m + 8), .ref (m + 9), .null, .null, .null, .int 0, .int 0, .int 0, .int 0, .int 0, .int 0, .int 0, .null, .null, .int 0, .null, .null, .null, .int 0, .int 0, .int 0, .int 0, .int 0, .int 0, .int 0, .int 0, .int 0, .int 0, .null, .null, .int 0] := ⟨_, rfl, hI.arr (t := 1) (l := 27225) (f := fun _ => 0) rfl rfl rfl⟩
  rw [← eσ]; clear eσ
  refine wp_aload_n (atd dX12_init 116 rfl) rfl rfl ?_
  refine wp_sipush (v := nI 1485) (atd dX12_init 117 rfl) (by decide) ?_
  refine wp_newi (mc := 9) (ms := 25099) (N := 1485) (atd dX12_init 118 rfl) (by decide) (by decide) (by decide) ?_
  rw [show σ9.1 = m + 10 from by have := hI.1; omega]
  refine wp_putF FfX12_45 (atd dX12_init 119 rfl) rfl hI.ob rfl (Nat.le_of_ble_eq_true rfl) ?_
  show Wp G mX12_init d _ _ _ (hset (hnew σ9 (.inl (0, 1485, .inl (fun _ => 0)))) m (.inr (12, [.int 0, .ref (m + 1), .int 0, .ref (m + 2), .ref (m + 3), .ref (m + 4), .int 0, .int 0, .int 0, .int 0, .int 0, .int 0, .int 0, .int (-1), .int 0, .int 0, .int 0, .int 0, .int 0, .int (-1), .int 0, .int 0, .ref (m + 5), .ref (m + 6), .int 0, .int 0, .ref (m + 7), .ref (m + 8), .ref (m + 9), .ref (m + 10), .null, .null, .int 0, .int 0, .int 0, .int 0, .int 0, .int 0, .int 0, .null, .null, .int 0, .null, .null, .null, .int 0, .int 0, .int 0, .int 0, .int 0, .int 0, .int 0, .int 0, .int 0, .int 0, .null, .null, .int 0]))) _ _ _
  obtain ⟨σ10, eσ, hI⟩ : ∃ s, s = _ ∧ IniS σ s m 10 [.int 0, .ref (m + 1), .int 0, .ref (m + 2), .ref (m + 3), .ref (m + 4), .int 0, .int 0, .int 0, .int 0, .int 0, .int 0, .int 0, .int (-1), .int 0, .int 0, .int 0, .int 0, .int 0, .int (-1), .int 0, .int 0, .ref (m + 5), .ref (m + 6), .int 0, .int 0, .ref (m + 7), .ref (m + 8), .ref (m + 9), .ref (m + 10), .null, .null, .int 0, .int 0, .int 0, .int 0, .int 0, .int 0, .int 0, .null, .null, .int 0, .null, .null, .null, .int 0, .int 0, .int 0, .int 0, .int 0, .int 0, .int 0, .int 0, .int 0, .int 0, .null, .null, .int 0] := ⟨_, rfl, hI.arr (t := 0) (l := 1485) (f := fun _ => 0) rfl rfl rfl⟩
  rw [← eσ]; clear eσ
  refine wp_aload_n (atd dX12_init 120 rfl) rfl rfl ?_
  refine wp_sipush (v := nI 1485) (atd dX12_init 121 rfl) (by decide) ?_
  refine wp_newi (mc := 8) (ms := 23614) (N := 1485) (atd dX12_init 122 rfl) (by decide) (by decide) (by decide) ?_
  rw [show σ10.1 = m + 11 from by have := hI.1; omega]
  refine wp_putF FfX12_48 (atd dX12_init 123 rfl) rfl hI.ob rfl (Nat.le_of_ble_eq_true rfl) ?_
  show Wp G mX12_init d _ _ _ (hset (hnew σ10 (.inl (0, 1485, .inl (fun _ => 0)))) m (.inr (12, [.int 0, .ref (m + 1), .int 0, .ref (m + 2), .ref (m + 3), .ref (m + 4), .int 0, .int 0, .int 0, .int 0, .int 0, .int 0, .int 0, .int (-1), .int 0, .int 0, .int 0, .int 0, .int 0, .int (-1), .int 0, .int 0, .ref (m + 5), .ref (m + 6), .int 0, .int 0, .ref (m + 7), .ref (m + 8), .ref (m + 9), .ref (m + 10), .ref (m + 11), .null, .int 0, .int 0, .int 0, .int 0, .int 0, .int 0, .int 0, .null, .null, .int 0, .null, .null, .null, .int 0, .int 0, .int 0, .int 0, .int 0, .int 0, .int 0, .int 0, .int 0, .int 0, .null, .null, .int 0]))) _ _ _
  obtain ⟨σ11, eσ, hI⟩ : ∃ s, s = _ ∧ IniS σ s m 11 [.int 0, .ref (m + 1), .int 0, .ref (m + 2), .ref (m + 3), .ref (m + 4), .int 0, .int 0, .int 0, .int 0, .int 0, .int 0, .int 0, .int (-1), .int 0, .int 0, .int 0, .int 0, .int 0, .int (-1), .int 0, .int 0, .ref (m + 5), .ref (m + 6), .int 0, .int 0, .ref (m + 7), .ref (m + 8), .ref (m + 9), .ref (m + 10), .ref (m + 11), .null, .int 0, .int 0, .int 0, .int 0, .int 0, .int 0, .int 0, .null, .null, .int 0, .null, .null, .null, .int 0, .int 0, .int 0, .int 0, .int 0, .int 0, .int 0, .int 0, .int 0, .int 0, .null, .null, .int 0] := ⟨_, rfl, hI.arr (t := 0) (l := 1485) (f := fun _ => 0) rfl rfl rfl⟩
  rw [← eσ]; clear eσ
  refine wp_aload_n (atd dX12_init 124 rfl) rfl rfl ?_
  refine wp_sipush (v := nI 165) (atd dX12_init 125 rfl) (by decide) ?_
  refine wp_newi (mc := 7) (ms := 23449) (N := 165) (atd dX12_init 126 rfl) (by decide) (by decide) (by decide) ?_
  rw [show σ11.1 = m + 12 from by have := hI.1; omega]
  refine wp_putF FfX12_51 (atd dX12_init 127 rfl) rfl hI.ob rfl (Nat.le_of_ble_eq_true rfl) ?_
  show Wp G mX12_init d _ _ _ (hset (hnew σ11 (.inl (0, 165, .inl (fun _ => 0)))) m (.inr (12, [.int 0, .ref (m + 1), .int 0, .ref (m + 2), .ref (m + 3), .ref (m + 4), .int 0, .int 0, .int 0, .int 0, .int 0, .int 0, .int 0, .int (-1), .int 0, .int 0, .int 0, .int 0, .int 0, .int (-1), .int 0, .int 0, .ref (m + 5), .ref (m + 6), .int 0, .int 0, .ref (m + 7), .ref (m + 8), .ref (m + 9), .ref (m + 10), .ref (m + 11), .ref (m + 12), .int 0, .int 0, .int 0, .int 0, .int 0, .int 0, .int 0, .null, .null, .int 0, .null, .null, .null, .int 0, .int 0, .int 0, .int 0, .int 0, .int 0, .int 0, .int 0, .int 0, .int 0, .null, .null, .int 0]))) _ _ _
  obtain ⟨σ12, eσ, hI⟩ : ∃ s, s = _ ∧ IniS σ s m 12 [.int 0, .ref (m + 1), .int 0, .ref (m + 2), .ref (m + 3), .ref (m + 4), .int 0, .int 0, .int 0, .int 0, .int 0, .int 0, .int 0, .int (-1), .int 0, .int 0, .int 0, .int 0, .int 0, .int (-1), .int 0, .int 0, .ref (m + 5), .ref (m + 6), .int 0, .int 0, .ref (m + 7), .ref (m + 8), .ref (m + 9), .ref (m + 10), .ref (m + 11), .ref (m + 12), .int 0, .int 0, .int 0, .int 0, .int 0, .int 0, .int 0, .null, .null, .int 0, .null, .null, .null, .int 0, .int 0, .int 0, .int 0, .int 0, .int 0, .int 0, .int 0, .int 0, .int 0, .null, .null, .int 0] := ⟨_, rfl, hI.arr (t := 0) (l := 165) (f := fun _ => 0) rfl rfl rfl⟩
  rw [← eσ]; clear eσ
  refine wp_aload_n (atd dX12_init 128 rfl) rfl rfl ?_
  refine wp_bipush (v := nI 9) (atd dX12_init 129 rfl) (by decide) ?_
  refine wp_newi (mc := 6) (ms := 23440) (N := 9) (atd dX12_init 130 rfl) (by decide) (by decide) (by decide) ?_
  rw [show σ12.1 = m + 13 from by have := hI.1; omega]
  refine wp_putF FfX12_54 (atd dX12_init 131 rfl) rfl hI.ob rfl (Nat.le_of_ble_eq_true rfl) ?_
  show Wp G mX12_init d _ _ _ (hset (hnew σ12 (.inl (0, 9, .inl (fun _ => 0)))) m (.inr (12, [.int 0, .ref (m + 1), .int 0, .ref (m + 2), .ref (m + 3), .ref (m + 4), .int 0, .int 0, .int 0, .int 0, .int 0, .int 0, .int 0, .int (-1), .int 0, .int 0, .int 0, .int 0, .int 0, .int (-1), .int 0, .int 0, .ref (m + 5), .ref (m + 6), .int 0, .int 0, .ref (m + 7), .ref (m + 8), .ref (m + 9), .ref (m + 10), .ref (m + 11), .ref (m + 12), .int 0, .int 0, .int 0, .int 0, .int 0, .int 0, .int 0, .ref (m + 13), .null, .int 0, .null, .null, .null, .int 0, .int 0, .int 0, .int 0, .int 0, .int 0, .int 0, .int 0, .int 0, .int 0, .null, .null, .int 0]))) _ _ _
  obtain ⟨σ13, eσ, hI⟩ : ∃ s, s = _ ∧ IniS σ s m 13 [.int 0, .ref (m + 1), .int 0, .ref (m + 2), .ref (m + 3), .ref (m + 4), .int 0, .int 0, .int 0, .int 0, .int 0, .int 0, .int 0, .int (-1), .int 0, .int 0, .int 0, .int 0, .int 0, .int (-1), .int 0, .int 0, .ref (m + 5), .ref (m + 6), .int 0, .int 0, .ref (m + 7), .ref (m + 8), .ref (m + 9), .ref (m + 10), .ref (m + 11), .ref (m + 12), .int 0, .int 0, .int 0, .int 0, .int 0, .int 0, .int 0, .ref (m + 13), .null, .int 0, .null, .null, .null, .int 0, .int 0, .int 0, .int 0, .int 0, .int 0, .int 0, .int 0, .int 0, .int 0, .null, .null, .int 0] := ⟨_, rfl, hI.arr (t := 0) (l := 9) (f := fun _ => 0) rfl rfl rfl⟩
  rw [← eσ]; clear eσ
  refine wp_aload_n (atd dX12_init 132 rfl) rfl rfl ?_
  refine wp_bipush (v := nI 9) (atd dX12_init 133 rfl) (by decide) ?_
  refine wp_newi (mc := 5) (ms := 23431) (N := 9) (atd dX12_init 134 rfl) (by decide) (by decide) (by decide) ?_
  rw [show σ13.1 = m + 14 from by have := hI.1; omega]
  refine wp_putF FfX12_57 (atd dX12_init 135 rfl) rfl hI.ob rfl (Nat.le_of_ble_eq_true rfl) ?_
  show Wp G mX12_init d _ _ _ (hset (hnew σ13 (.inl (0, 9, .inl (fun _ => 0)))) m (.inr (12, [.int 0, .ref (m + 1), .int 0, .ref (m + 2), .ref (m + 3), .ref (m + 4), .int 0, .int 0, .int 0, .int 0, .int 0, .int 0, .int 0, .int (-1), .int 0, .int 0, .int 0, .int 0, .int 0, .int (-1), .int 0, .int 0, .ref (m + 5), .ref (m + 6), .int 0, .int 0, .ref (m + 7), .ref (m + 8), .ref (m + 9), .ref (m + 10), .ref (m + 11), .ref (m + 12), .int 0, .int 0, .int 0, .int 0, .int 0, .int 0, .int 0, .ref (m + 13), .ref (m + 14), .int 0, .null, .null, .null, .int 0, .int 0, .int 0, .int 0, .int 0, .int 0, .int 0, .int 0, .int 0, .int 0, .null, .null, .int 0]))) _ _ _
  obtain ⟨σ14, eσ, hI⟩ : ∃ s, s = _ ∧ IniS σ s m 14 [.int 0, .ref (m + 1), .int 0, .ref (m + 2), .ref (m + 3), .ref (m + 4), .int 0, .int 0, .int 0, .int 0, .int 0, .int 0, .int 0, .int (-1), .int 0, .int 0, .int 0, .int 0, .int 0, .int (-1), .int 0, .int 0, .ref (m + 5), .ref (m + 6), .int 0, .int 0, .ref (m + 7), .ref (m + 8), .ref (m + 9), .ref (m + 10), .ref (m + 11), .ref (m + 12), .int 0, .int 0, .int 0, .int 0, .int 0, .int 0, .int 0, .ref (m + 13), .ref (m + 14), .int 0, .null, .null, .null, .int 0, .int 0, .int 0, .int 0, .int 0, .int 0, .int 0, .int 0, .int 0, .int 0, .null, .null, .int 0] := ⟨_, rfl, hI.arr (t := 0) (l := 9) (f := fun _ => 0) rfl rfl rfl⟩
  rw [← eσ]; clear eσ
  refine wp_aload_n (atd dX12_init 136 rfl) rfl rfl ?_
  refine wp_bipush (v := nI 81) (atd dX12_init 137 rfl) (by decide) ?_
  refine wp_newz (mc := 4) (ms := 23350) (N := 81) (atd dX12_init 138 rfl) (by decide) (by decide) (by decide) ?_
  rw [show σ14.1 = m + 15 from by have := hI.1; omega]
  refine wp_putF FfX12_60 (atd dX12_init 139 rfl) rfl hI.ob rfl (Nat.le_of_ble_eq_true rfl) ?_
  show Wp G mX12_init d _ _ _ (hset (hnew σ14 (.inl (1, 81, .inl (fun _ => 0)))) m (.inr (12, [.int 0, .ref (m + 1), .int 0, .ref (m + 2), .ref (m + 3), .ref (m + 4), .int 0, .int 0, .int 0, .int 0, .int 0, .int 0, .int 0, .int (-1), .int 0, .int 0, .int 0, .int 0, .int 0, .int (-1), .int 0, .int 0, .ref (m + 5), .ref (m + 6), .int 0, .int 0, .ref (m + 7), .ref (m + 8), .ref (m + 9), .ref (m + 10), .ref (m + 11), .ref (m + 12), .int 0, .int 0, .int 0, .int 0, .int 0, .int 0, .int 0, .ref (m + 13), .ref (m + 14), .int 0, .ref (m + 15), .null, .null, .int 0, .int 0, .int 0, .int 0, .int 0, .int 0, .int 0, .int 0, .int 0, .int 0, .null, .null, .int 0]))) _ _ _
  obtain ⟨σ15, eσ, hI⟩ : ∃ s, s = _ ∧ IniS σ s m 15 [.int 0, .ref (m + 1), .int 0, .ref (m + 2), .ref (m + 3), .ref (m + 4), .int 0, .int 0, .int 0, .int 0, .int 0, .int 0, .int 0, .int (-1), .int 0, .int 0, .int 0, .int 0, .int 0, .int (-1), .int 0, .int 0, .ref (m + 5), .ref (m + 6), .int 0, .int 0, .ref (m + 7), .ref (m + 8), .ref (m + 9), .ref (m + 10), .ref (m + 11), .ref (m + 12), .int 0, .int 0, .int 0, .int 0, .int 0, .int 0, .int 0, .ref (m + 13), .ref (m + 14), .int 0, .ref (m + 15), .null, .null, .int 0, .int 0, .int 0, .int 0, .int 0, .int 0, .int 0, .int 0, .int 0, .int 0, .null, .null, .int 0] := ⟨_, rfl, hI.arr (t := 1) (l := 81) (f := fun _ => 0) rfl rfl rfl⟩
  rw [← eσ]; clear eσ
  refine wp_aload_n (atd dX12_init 140 rfl) rfl rfl ?_
  refine wp_sipush (v := nI 23040) (atd dX12_init 141 rfl) (by decide) ?_
  refine wp_newi (mc := 3) (ms := 310) (N := 23040) (atd dX12_init 142 rfl) (by decide) (by decide) (by decide) ?_
  rw [show σ15.1 = m + 16 from by have := hI.1; omega]
  refine wp_putF FfX12_63 (atd dX12_init 143 rfl) rfl hI.ob rfl (Nat.le_of_ble_eq_true rfl) ?_
  show Wp G mX12_init d _ _ _ (hset (hnew σ15 (.inl (0, 23040, .inl (fun _ => 0)))) m (.inr (12, [.int 0, .ref (m + 1), .int 0, .ref (m + 2), .ref (m + 3), .ref (m + 4), .int 0, .int 0, .int 0, .int 0, .int 0, .int 0, .int 0, .int (-1), .int 0, .int 0, .int 0, .int 0, .int 0, .int (-1), .int 0, .int 0, .ref (m + 5), .ref (m + 6), .int 0, .int 0, .ref (m + 7), .ref (m + 8), .ref (m + 9), .ref (m + 10), .ref (m + 11), .ref (m + 12), .int 0, .int 0, .int 0, .int 0, .int 0, .int 0, .int 0, .ref (m + 13), .ref (m + 14), .int 0, .ref (m + 15), .ref (m + 16), .null, .int 0, .int 0, .int 0, .int 0, .int 0, .int 0, .int 0, .int 0, .int 0, .int 0, .null, .null, .int 0]))) _ _ _
  obtain ⟨σ16, eσ, hI⟩ : ∃ s, s = _ ∧ IniS σ s m 16 [.int 0, .ref (m + 1), .int 0, .ref (m + 2), .ref (m + 3), .ref (m + 4), .int 0, .int 0, .int 0, .int 0, .int 0, .int 0, .int 0, .int (-1), .int 0, .int 0, .int 0, .int 0, .int 0, .int (-1), .int 0, .int 0, .ref (m + 5), .ref (m + 6), .int 0, .int 0, .ref (m + 7), .ref (m + 8), .ref (m + 9), .ref (m + 10), .ref (m + 11), .ref (m + 12), .int 0, .int 0, .int 0, .int 0, .int 0, .int 0, .int 0, .ref (m + 13), .ref (m + 14), .int 0, .ref (m + 15), .ref (m + 16), .null, .int 0, .int 0, .int 0, .int 0, .int 0, .int 0, .int 0, .int 0, .int 0, .int 0, .null, .null, .int 0] := ⟨_, rfl, hI.arr (t := 0) (l := 23040) (f := fun _ => 0) rfl rfl rfl⟩
  rw [← eσ]; clear eσ
  refine wp_aload_n (atd dX12_init 144 rfl) rfl rfl ?_
  refine wp_bipush (v := nI 61) (atd dX12_init 145 rfl) (by decide) ?_
  refine wp_newi (mc := 2) (ms := 249) (N := 61) (atd dX12_init 146 rfl) (by decide) (by decide) (by decide) ?_
  rw [show σ16.1 = m + 17 from by have := hI.1; omega]
  refine wp_putF FfX12_66 (atd dX12_init 147 rfl) rfl hI.ob rfl (Nat.le_of_ble_eq_true rfl) ?_
  show Wp G mX12_init d _ _ _ (hset (hnew σ16 (.inl (0, 61, .inl (fun _ => 0)))) m (.inr (12, [.int 0, .ref (m + 1), .int 0, .ref (m + 2), .ref (m + 3), .ref (m + 4), .int 0, .int 0, .int 0, .int 0, .int 0, .int 0, .int 0, .int (-1), .int 0, .int 0, .int 0, .int 0, .int 0, .int (-1), .int 0, .int 0, .ref (m + 5), .ref (m + 6), .int 0, .int 0, .ref (m + 7), .ref (m + 8), .ref (m + 9), .ref (m + 10), .ref (m + 11), .ref (m + 12), .int 0, .int 0, .int 0, .int 0, .int 0, .int 0, .int 0, .ref (m + 13), .ref (m + 14), .int 0, .ref (m + 15), .ref (m + 16), .ref (m + 17), .int 0, .int 0, .int 0, .int 0, .int 0, .int 0, .int 0, .int 0, .int 0, .int 0, .null, .null, .int 0]))) _ _ _
  obtain ⟨σ17, eσ, hI⟩ : ∃ s, s = _ ∧ IniS σ s m 17 [.int 0, .ref (m + 1), .int 0, .ref (m + 2), .ref (m + 3), .ref (m + 4), .int 0, .int 0, .int 0, .int 0, .int 0, .int 0, .int 0, .int (-1), .int 0, .int 0, .int 0, .int 0, .int 0, .int (-1), .int 0, .int 0, .ref (m + 5), .ref (m + 6), .int 0, .int 0, .ref (m + 7), .ref (m + 8), .ref (m + 9), .ref (m + 10), .ref (m + 11), .ref (m + 12), .int 0, .int 0, .int 0, .int 0, .int 0, .int 0, .int 0, .ref (m + 13), .ref (m + 14), .int 0, .ref (m + 15), .ref (m + 16), .ref (m + 17), .int 0, .int 0, .int 0, .int 0, .int 0, .int 0, .int 0, .int 0, .int 0, .int 0, .null, .null, .int 0] := ⟨_, rfl, hI.arr (t := 0) (l := 61) (f := fun _ => 0) rfl rfl rfl⟩
  rw [← eσ]; clear eσ
  refine wp_aload_n (atd dX12_init 148 rfl) rfl rfl ?_
  refine wp_sipush (v := nI 240) (atd dX12_init 149 rfl) (by decide) ?_
  refine wp_newi (mc := 1) (ms := 9) (N := 240) (atd dX12_init 150 rfl) (by decide) (by decide) (by decide) ?_
  rw [show σ17.1 = m + 18 from by have := hI.1; omega]
  refine wp_putF FfX12_69 (atd dX12_init 151 rfl) rfl hI.ob rfl (Nat.le_of_ble_eq_true rfl) ?_
  show Wp G mX12_init d _ _ _ (hset (hnew σ17 (.inl (0, 240, .inl (fun _ => 0)))) m (.inr (12, [.int 0, .ref (m + 1), .int 0, .ref (m + 2), .ref (m + 3), .ref (m + 4), .int 0, .int 0, .int 0, .int 0, .int 0, .int 0, .int 0, .int (-1), .int 0, .int 0, .int 0, .int 0, .int 0, .int (-1), .int 0, .int 0, .ref (m + 5), .ref (m + 6), .int 0, .int 0, .ref (m + 7), .ref (m + 8), .ref (m + 9), .ref (m + 10), .ref (m + 11), .ref (m + 12), .int 0, .int 0, .int 0, .int 0, .int 0, .int 0, .int 0, .ref (m + 13), .ref (m + 14), .int 0, .ref (m + 15), .ref (m + 16), .ref (m + 17), .int 0, .int 0, .int 0, .int 0, .int 0, .int 0, .int 0, .int 0, .int 0, .int 0, .ref (m + 18), .null, .int 0]))) _ _ _
  obtain ⟨σ18, eσ, hI⟩ : ∃ s, s = _ ∧ IniS σ s m 18 [.int 0, .ref (m + 1), .int 0, .ref (m + 2), .ref (m + 3), .ref (m + 4), .int 0, .int 0, .int 0, .int 0, .int 0, .int 0, .int 0, .int (-1), .int 0, .int 0, .int 0, .int 0, .int 0, .int (-1), .int 0, .int 0, .ref (m + 5), .ref (m + 6), .int 0, .int 0, .ref (m + 7), .ref (m + 8), .ref (m + 9), .ref (m + 10), .ref (m + 11), .ref (m + 12), .int 0, .int 0, .int 0, .int 0, .int 0, .int 0, .int 0, .ref (m + 13), .ref (m + 14), .int 0, .ref (m + 15), .ref (m + 16), .ref (m + 17), .int 0, .int 0, .int 0, .int 0, .int 0, .int 0, .int 0, .int 0, .int 0, .int 0, .ref (m + 18), .null, .int 0] := ⟨_, rfl, hI.arr (t := 0) (l := 240) (f := fun _ => 0) rfl rfl rfl⟩
  rw [← eσ]; clear eσ
  refine wp_aload_n (atd dX12_init 152 rfl) rfl rfl ?_
  refine wp_bipush (v := nI 9) (atd dX12_init 153 rfl) (by decide) ?_
  refine wp_newi (mc := 0) (ms := 0) (N := 9) (atd dX12_init 154 rfl) (by decide) (by decide) (by decide) ?_
  rw [show σ18.1 = m + 19 from by have := hI.1; omega]
  refine wp_putF FfX12_72 (atd dX12_init 155 rfl) rfl hI.ob rfl (Nat.le_of_ble_eq_true rfl) ?_
  show Wp G mX12_init d _ _ _ (hset (hnew σ18 (.inl (0, 9, .inl (fun _ => 0)))) m (.inr (12, [.int 0, .ref (m + 1), .int 0, .ref (m + 2), .ref (m + 3), .ref (m + 4), .int 0, .int 0, .int 0, .int 0, .int 0, .int 0, .int 0, .int (-1), .int 0, .int 0, .int 0, .int 0, .int 0, .int (-1), .int 0, .int 0, .ref (m + 5), .ref (m + 6), .int 0, .int 0, .ref (m + 7), .ref (m + 8), .ref (m + 9), .ref (m + 10), .ref (m + 11), .ref (m + 12), .int 0, .int 0, .int 0, .int 0, .int 0, .int 0, .int 0, .ref (m + 13), .ref (m + 14), .int 0, .ref (m + 15), .ref (m + 16), .ref (m + 17), .int 0, .int 0, .int 0, .int 0, .int 0, .int 0, .int 0, .int 0, .int 0, .int 0, .ref (m + 18), .ref (m + 19), .int 0]))) _ _ _
  obtain ⟨σ19, eσ, hI⟩ : ∃ s, s = _ ∧ IniS σ s m 19 [.int 0, .ref (m + 1), .int 0, .ref (m + 2), .ref (m + 3), .ref (m + 4), .int 0, .int 0, .int 0, .int 0, .int 0, .int 0, .int 0, .int (-1), .int 0, .int 0, .int 0, .int 0, .int 0, .int (-1), .int 0, .int 0, .ref (m + 5), .ref (m + 6), .int 0, .int 0, .ref (m + 7), .ref (m + 8), .ref (m + 9), .ref (m + 10), .ref (m + 11), .ref (m + 12), .int 0, .int 0, .int 0, .int 0, .int 0, .int 0, .int 0, .ref (m + 13), .ref (m + 14), .int 0, .ref (m + 15), .ref (m + 16), .ref (m + 17), .int 0, .int 0, .int 0, .int 0, .int 0, .int 0, .int 0, .int 0, .int 0, .int 0, .ref (m + 18), .ref (m + 19), .int 0] := ⟨_, rfl, hI.arr (t := 0) (l := 9) (f := fun _ => 0) rfl rfl rfl⟩
  rw [← eσ]; clear eσ
  refine wp_vretv (atd dX12_init 156 rfl) rfl ?_
  have h1 := hI.1
  exact ⟨⟨⟨hI.2.1, fun j h1 h2 => hI.2.2.1 j h1 h2⟩, rfl, fun _ _ => rfl⟩, by omega, fun k hk => hI.2.2.2 k hk⟩
