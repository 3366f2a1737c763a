/-- but for some places the two are alike -/
def frm {β : Type} (S : List Nat) (f g : Nat → β) : Prop := ∀ j, j ∉ S → g j = f j
theorem frm.rf {β : Type} {S : List Nat} {f : Nat → β} : frm S f f := fun _ _ => rfl
theorem frm.tr {β : Type} {S : List Nat} {f g h : Nat → β} (a : frm S f g) (b : frm S g h) : frm S f h := fun j hj => (b j hj).trans (a j hj)
theorem frm.up {S : List Nat} {f g : Nat → Int32} (a : frm S f g) {k : Nat} {x : Int32} (hk : k ∈ S) : frm S f (upd g k x) := fun j hj => by
  have : j ≠ k := fun e => hj (e ▸ hk)
  simp [upd, this, a j hj]
theorem frm.va {β : Type} {S : List Nat} {f g : Nat → β} (a : frm S f g) {k : Nat} {x : β} (hk : k ∈ S) : frm S f (va_up g k x) := fun j hj => by
  have : j ≠ k := fun e => hj (e ▸ hk)
  simp [va_up, this, a j hj]
theorem frm.mono {β : Type} {S T : List Nat} {f g : Nat → β} (a : frm S f g) (h : ∀ j ∈ S, j ∈ T) : frm T f g := fun j hj => a j (fun q => hj (h j q))
/-- the least corner among those that are left, from p on -/
def lcr (nb : Nat → Nat) (n l : Nat) : Nat → Nat → Option (Nat × Nat)
  | 0, _ => none
  | k + 1, p => if l.testBit p = true then (match crn nb n p l n 0 with
    | some q => some (p, q)
    | none => lcr nb n l k (p + 1)) else lcr nb n l k (p + 1)
abbrev DisT : Type := Nat × Nat × (Nat → Nat) × (Nat → Nat)
def dis (nb : Nat → Nat) (n : Nat) : Nat → DisT → DisT
  | 0, D => D
  | k + 1, D => match lcr nb n D.1 n 0 with
    | none => D
    | some (p, q) => dis nb n k (dif D.1 (2 ^ p), D.2.1 + 1, va_up D.2.2.1 D.2.1 p, va_up D.2.2.2 p q)
def dis0 (nb : Nat → Nat) (n : Nat) : DisT := dis nb n 10 (2 ^ n - 1, 0, fun _ => 0, fun _ => 0)
/-- the reference's numbers hold a dismantling -/
def DR (α : Nat → Int32) (B : Nat → Nat → Int32) (n : Nat) (D : DisT) : Prop := α 25 = nI D.1 ∧ α 24 = nI D.2.1 ∧ (∀ i, i < D.2.1 → B 5 i = nI (D.2.2.1 i)) ∧ ∀ p, p < n → D.1.testBit p = false → B 6 p = nI (D.2.2.2 p)
theorem lcr_spec {nb : Nat → Nat} {n l : Nat} : ∀ {k p p' q : Nat}, lcr nb n l k p = some (p', q) → p ≤ p' ∧ p' < p + k ∧ l.testBit p' = true ∧ crn nb n p' l n 0 = some q
  | 0, _, _, _, h => by cases h
  | k + 1, p, p', q, h => by
    unfold lcr at h
    split at h
    · rename_i hb
      split at h
      · rename_i q' hq
        cases h
        exact ⟨by omega, by omega, hb, hq⟩
      · obtain ⟨h1, h2, h3⟩ := lcr_spec h
        exact ⟨by omega, by omega, h3⟩
    · obtain ⟨h1, h2, h3⟩ := lcr_spec h
      exact ⟨by omega, by omega, h3⟩
theorem crn_lt {nb : Nat → Nat} {n p a : Nat} : ∀ {k i q : Nat}, crn nb n p a k i = some q → q < i + k ∧ a.testBit q = true ∧ q ≠ p
  | 0, _, _, h => by cases h
  | k + 1, i, q, h => by
    unfold crn at h
    split at h
    · rename_i hc
      cases h
      exact ⟨by omega, hc.2.1, hc.1⟩
    · obtain ⟨h1, h2⟩ := crn_lt h
      exact ⟨by omega, h2⟩
theorem cnt_dif : ∀ p, p < 9 → ∀ a, a < 512 → a.testBit p = true → cnt (dif a (2 ^ p)) + 1 = cnt a := by decide +kernel
theorem bit_pow (p j : Nat) : (2 ^ p).testBit j = decide (p = j) := Nat.testBit_two_pow
theorem dif_lt2 {a b n : Nat} (h : a < 2 ^ n) : dif a b < 2 ^ n := dif_lt h
theorem DR.step {α : Nat → Int32} {B : Nat → Nat → Int32} {n p q : Nat} {D : DisT} (h : DR α B n D) :
    DR (upd (upd α 24 (nI (D.2.1 + 1))) 25 (nI (dif D.1 (2 ^ p)))) (va_up (va_up B 6 (upd (B 6) p (nI q))) 5 (upd (B 5) D.2.1 (nI p))) n (dif D.1 (2 ^ p), D.2.1 + 1, va_up D.2.2.1 D.2.1 p, va_up D.2.2.2 p q) := by
  refine ⟨rfl, rfl, fun i hi => ?_, fun j hj hb => ?_⟩
  · show upd (B 5) D.2.1 (nI p) i = nI (va_up D.2.2.1 D.2.1 p i)
    by_cases hi2 : i = D.2.1
    · subst hi2; simp [upd, va_up]
    · simp only [upd, va_up, if_neg hi2]
      exact h.2.2.1 i (by have : i < D.2.1 + 1 := hi; omega)
  · show upd (B 6) p (nI q) j = nI (va_up D.2.2.2 p q j)
    by_cases hj2 : j = p
    · subst hj2; simp [upd, va_up]
    · simp only [upd, va_up, if_neg hj2]
      refine h.2.2.2 j hj ?_
      have hb' : (dif D.1 (2 ^ p)).testBit j = false := hb
      rw [dif_bit, bit_pow] at hb'
      simpa [Ne.symm hj2] using hb' 
theorem tX12_dis {G : Gx} {d : Nat} {Q : Option Value → Hp → Prop} {σ0 σ : Hp} {m n p : Nat} {α : Nat → Int32} {B : Nat → Nat → Int32} {e3 : Value} (hn : n ≤ 9) (hpn : p ≤ n) (hM : MA σ0 σ m α B) (hp : α 2 = nI n) (hk : Wp G mX12_dismantle d 28 [.ref m, .int (nI 1), .int (nI p), e3] [] σ 0 0 Q) : Wp G mX12_dismantle d 36 [.ref m, .int (nI 1), .int (nI p), e3] [] σ 0 0 Q := by
  refine wp_iload_n (atd dX12_dismantle 22 rfl) rfl ?_
  refine wp_aload_n (atd dX12_dismantle 23 rfl) rfl rfl ?_
  refine wp_get fX12_78 (atd dX12_dismantle 24 rfl) hM.1.1 (congrArg (fun z => some (Value.int z)) hp) ?_
  refine wp_icmpN_ge (tgt := 126) (atd dX12_dismantle 25 rfl) (by decide) (by omega) (by omega) (fun c_41 => ?_) (fun c_41 => ?_)
  ·
    refine wp_goto (tgt := 28) (atd dX12_dismantle 74 rfl) (by decide) ?_
    exact hk
  ·
    refine wp_iload_n (atd dX12_dismantle 26 rfl) rfl ?_
    refine wp_ifN_ne (tgt := 126) (atd dX12_dismantle 27 rfl) (by decide) (by omega) (fun c_45 => ?_) (fun c_45 => ?_)
    ·
      refine wp_goto (tgt := 28) (atd dX12_dismantle 74 rfl) (by decide) ?_
      exact hk
    · exact absurd c_45 (by decide)
theorem lX12_dis {G : Gx} {d : Nat} {Q : Option Value → Hp → Prop} {σ0 σ : Hp} (hd : 2 ≤ d) {m n : Nat} {nb : Nat → Nat} (hn : n ≤ 9) (hw : ∀ p, nb p < 512) {α : Nat → Int32} {B : Nat → Nat → Int32} {D : DisT} {v : Option (Nat × Nat)} (hM : MA σ0 σ m α B) (hp : α 2 = nI n) (hb : ∀ p, p < n → B 1 p = nI (nb p)) (hD : DR α B n D) (hl : D.1 < 512) (hg : ∀ p, D.1.testBit p = true → D.2.1 < 9)
    (hk0 : ∀ e2 e3 : Value, v = none → Wp G mX12_dismantle d 28 [.ref m, .int (nI 0), e2, e3] [] σ 0 0 Q)
    (hk1 : ∀ (p q : Nat) (e2 e3 : Value) (σ2 : Hp), MA σ0 σ2 m (upd (upd α 24 (nI (D.2.1 + 1))) 25 (nI (dif D.1 (2 ^ p)))) (va_up (va_up B 6 (upd (B 6) p (nI q))) 5 (upd (B 5) D.2.1 (nI p))) → v = some (p, q) → Wp G mX12_dismantle d 28 [.ref m, .int (nI 1), e2, e3] [] σ2 0 0 Q) :
    ∀ (k p : Nat) (e3 : Value), p + k = n → lcr nb n D.1 k p = v → Wp G mX12_dismantle d 36 [.ref m, .int (nI 0), .int (nI p), e3] [] σ 0 0 Q := by
  obtain ⟨d0, hdd⟩ : ∃ e, d = e + 1 := ⟨d - 1, by omega⟩
  intro k
  induction k with
  | zero =>
    intro p e3 h hv
    refine wp_iload_n (atd dX12_dismantle 22 rfl) rfl ?_
    refine wp_aload_n (atd dX12_dismantle 23 rfl) rfl rfl ?_
    refine wp_get fX12_78 (atd dX12_dismantle 24 rfl) hM.1.1 (congrArg (fun z => some (Value.int z)) hp) ?_
    refine wp_icmpN_ge (tgt := 126) (atd dX12_dismantle 25 rfl) (by decide) (by omega) (by omega) (fun c_41 => ?_) (fun c_41 => ?_)
    ·
      refine wp_goto (tgt := 28) (atd dX12_dismantle 74 rfl) (by decide) ?_
      exact hk0 _ _ hv.symm
    · exfalso; omega
  | succ k ih =>
    intro p e3 h hv
    refine wp_iload_n (atd dX12_dismantle 22 rfl) rfl ?_
    refine wp_aload_n (atd dX12_dismantle 23 rfl) rfl rfl ?_
    refine wp_get fX12_78 (atd dX12_dismantle 24 rfl) hM.1.1 (congrArg (fun z => some (Value.int z)) hp) ?_
    refine wp_icmpN_ge (tgt := 126) (atd dX12_dismantle 25 rfl) (by decide) (by omega) (by omega) (fun c_41 => ?_) (fun c_41 => ?_)
    · exfalso; omega
    ·
      refine wp_iload_n (atd dX12_dismantle 26 rfl) rfl ?_
      refine wp_ifN_ne (tgt := 126) (atd dX12_dismantle 27 rfl) (by decide) (by omega) (fun c_45 => ?_) (fun c_45 => ?_)
      · exact absurd c_45 (by decide)
      ·
        refine wp_aload_n (atd dX12_dismantle 28 rfl) rfl rfl ?_
        refine wp_get fX12_206 (atd dX12_dismantle 29 rfl) hM.1.1 (congrArg (fun z => some (Value.int z)) hD.1) ?_
        refine wp_iload_n (atd dX12_dismantle 30 rfl) rfl ?_
        refine wp_cSi hdd [_, _] (atd dX12_dismantle 31 rfl) iX12_isOf lX12_149 rfl rfl (Nat.le_of_ble_eq_true rfl) (eX12_isOf (by omega) (by omega) (by omega)) (fun r_53 s_53 h_53 => ?_)
        obtain ⟨rfl, rfl⟩ := h_53
        refine wp_ifB_eq (tgt := 71) (atd dX12_dismantle 32 rfl) (by decide) (fun c_56 => ?_) (fun c_56 => ?_)
        ·
          refine wp_iconst (v := -1) (atd dX12_dismantle 39 rfl) (by decide) ?_
          refine wp_istore_n (atd dX12_dismantle 40 rfl) (Nat.le_of_ble_eq_true rfl) ?_
          refine wp_iload_n (atd dX12_dismantle 41 rfl) rfl ?_
          refine wp_if_lt (tgt := 120) (atd dX12_dismantle 42 rfl) (by decide) (fun c_74 => ?_) (fun c_74 => ?_)
          ·
            refine wp_iincN (c := 1) (atd dX12_dismantle 72 rfl) rfl ?_
            refine wp_goto (tgt := 36) (atd dX12_dismantle 73 rfl) (by decide) ?_
            exact ih (p + 1) _ (by omega) (by rw [← hv]; simp [lcr, c_56])
          · exact absurd (by decide) c_74
        ·
          refine wp_aload_n (atd dX12_dismantle 33 rfl) rfl rfl ?_
          refine wp_iload_n (atd dX12_dismantle 34 rfl) rfl ?_
          refine wp_aload_n (atd dX12_dismantle 35 rfl) rfl rfl ?_
          refine wp_get fX12_206 (atd dX12_dismantle 36 rfl) hM.1.1 (congrArg (fun z => some (Value.int z)) hD.1) ?_
          refine wp_cVi hdd [_, _] (atd dX12_dismantle 37 rfl) iX12_cornerBy lX12_231 rfl rfl (Nat.le_of_ble_eq_true rfl) hM.1.1 rfl (eX12_cornerBy (by omega) hM.self hp hn hb hw (p := p) (by omega) (a := D.1) (by omega)) (fun r_65 s_65 h_65 => ?_)
          obtain ⟨rfl, rfl⟩ := h_65
          generalize hx : crn nb n p D.1 n 0 = xx; rcases xx with _ | q
          ·
            refine wp_goto (tgt := 72) (atd dX12_dismantle 38 rfl) (by decide) ?_
            refine wp_istore_n (atd dX12_dismantle 40 rfl) (Nat.le_of_ble_eq_true rfl) ?_
            refine wp_iload_n (atd dX12_dismantle 41 rfl) rfl ?_
            refine wp_if_lt (tgt := 120) (atd dX12_dismantle 42 rfl) (by decide) (fun c_74 => ?_) (fun c_74 => ?_)
            ·
              refine wp_iincN (c := 1) (atd dX12_dismantle 72 rfl) rfl ?_
              refine wp_goto (tgt := 36) (atd dX12_dismantle 73 rfl) (by decide) ?_
              exact ih (p + 1) _ (by omega) (by rw [← hv]; simp [lcr, c_56, hx])
            · exact absurd (by decide) c_74
          ·
            have hq9 := (crn_lt hx).1
            refine wp_goto (tgt := 72) (atd dX12_dismantle 38 rfl) (by decide) ?_
            refine wp_istore_n (atd dX12_dismantle 40 rfl) (Nat.le_of_ble_eq_true rfl) ?_
            refine wp_iload_n (atd dX12_dismantle 41 rfl) rfl ?_
            refine wp_ifN_lt (tgt := 120) (atd dX12_dismantle 42 rfl) (by decide) (by omega) ?_
            refine wp_aload_n (atd dX12_dismantle 43 rfl) rfl rfl ?_
            refine wp_get fX12_32 (atd dX12_dismantle 44 rfl) hM.1.1 rfl ?_
            refine wp_iload_n (atd dX12_dismantle 45 rfl) rfl ?_
            refine wp_iload_n (atd dX12_dismantle 46 rfl) rfl ?_
            refine wp_iastM (j := 6) (atd dX12_dismantle 47 rfl) hM (by decide) (by decide) rfl (show _ < 9 from by omega) (fun σ hM => ?_)
            refine wp_aload_n (atd dX12_dismantle 48 rfl) rfl rfl ?_
            refine wp_get fX12_29 (atd dX12_dismantle 49 rfl) hM.1.1 rfl ?_
            refine wp_aload_n (atd dX12_dismantle 50 rfl) rfl rfl ?_
            refine wp_get fX12_228 (atd dX12_dismantle 51 rfl) hM.1.1 (congrArg (fun z => some (Value.int z)) hD.2.1) ?_
            refine wp_iload_n (atd dX12_dismantle 52 rfl) rfl ?_
            refine wp_iastM (j := 5) (atd dX12_dismantle 53 rfl) hM (by decide) (by decide) rfl (show _ < 9 from hg p c_56) (fun σ hM => ?_)
            refine wp_aload_n (atd dX12_dismantle 54 rfl) rfl rfl ?_
            refine wp_dup (atd dX12_dismantle 55 rfl) rfl ?_
            refine wp_get fX12_228 (atd dX12_dismantle 56 rfl) hM.1.1 (congrArg (fun z => some (Value.int z)) hD.2.1) ?_
            refine wp_iconst (v := nI 1) (atd dX12_dismantle 57 rfl) (by decide) ?_
            refine wp_iaddN (atd dX12_dismantle 58 rfl) ?_
            refine wp_putM fX12_228 (atd dX12_dismantle 59 rfl) hM rfl (fun σ hM => ?_)
            refine wp_aload_n (atd dX12_dismantle 60 rfl) rfl rfl ?_
            refine wp_dup (atd dX12_dismantle 61 rfl) rfl ?_
            refine wp_get fX12_206 (atd dX12_dismantle 62 rfl) hM.1.1 (congrArg (fun z => some (Value.int z)) hD.1) ?_
            refine wp_iconst (v := nI 1) (atd dX12_dismantle 63 rfl) (by decide) ?_
            refine wp_iload_n (atd dX12_dismantle 64 rfl) rfl ?_
            refine wp_ishl1 (atd dX12_dismantle 65 rfl) (by omega) ?_
            refine wp_iconst (v := -1) (atd dX12_dismantle 66 rfl) (by decide) ?_
            refine wp_ixor (atd dX12_dismantle 67 rfl) ?_
            refine wp_iandC (atd dX12_dismantle 68 rfl) ?_
            refine wp_putM fX12_206 (atd dX12_dismantle 69 rfl) hM rfl (fun σ hM => ?_)
            refine wp_iconst (v := nI 1) (atd dX12_dismantle 70 rfl) (by decide) ?_
            refine wp_istore_n (atd dX12_dismantle 71 rfl) (Nat.le_of_ble_eq_true rfl) ?_
            refine wp_iincN (c := 1) (atd dX12_dismantle 72 rfl) rfl ?_
            refine wp_goto (tgt := 36) (atd dX12_dismantle 73 rfl) (by decide) ?_
            refine tX12_dis hn (by omega) hM hp ?_
            exact hk1 p q _ _ _ hM (by rw [← hv]; simp [lcr, c_56, hx])
theorem oX12_dis {G : Gx} {d : Nat} {σ0 : Hp} (hd : 2 ≤ d) {m n : Nat} {nb : Nat → Nat} (hn : n ≤ 9) (hw : ∀ p, nb p < 512) {α0 : Nat → Int32} {B0 : Nat → Nat → Int32} {E : DisT} (hp0 : α0 2 = nI n) (hb0 : ∀ p, p < n → B0 1 p = nI (nb p)) : ∀ (k : Nat) (σ : Hp) (α : Nat → Int32) (B : Nat → Nat → Int32) (D : DisT) (e2 e3 : Value), MA σ0 σ m α B → frm [17, 24, 25] α0 α → frm [5, 6] B0 B → α 17 = nI 1 → DR α B n D → D.1 < 2 ^ n → D.2.1 + cnt D.1 ≤ n → cnt D.1 < k → dis nb n k D = E → Wp G mX12_dismantle d 28 [.ref m, .int (nI 1), e2, e3] [] σ 0 0 (pV fun s => ∃ α1 B1, MA σ0 s m α1 B1 ∧ frm [17, 24, 25] α0 α1 ∧ frm [5, 6] B0 B1 ∧ α1 17 = nI 1 ∧ DR α1 B1 n E) := by
  intro k
  induction k with
  | zero =>
    intro σ α B D e2 e3 hM hfa hfb h17 hD hl hg hc hv
    exact absurd hc (by omega)
  | succ k ih =>
    intro σ α B D e2 e3 hM hfa hfb h17 hD hl hg hc hv
    have h9 := pow_le9 hn
    have hp : α 2 = nI n := (hfa 2 (by decide)).trans hp0
    have hb : ∀ p, p < n → B 1 p = nI (nb p) := fun p hpn => by rw [hfb 1 (by decide)]; exact hb0 p hpn
    refine wp_iload_n (atd dX12_dismantle 16 rfl) rfl ?_
    refine wp_ifN_eq (tgt := 129) (atd dX12_dismantle 17 rfl) (by decide) (by omega) (fun c_29 => ?_) (fun c_29 => ?_)
    · exact absurd c_29 (by decide)
    ·
      refine wp_iconst (v := nI 0) (atd dX12_dismantle 18 rfl) (by decide) ?_
      refine wp_istore_n (atd dX12_dismantle 19 rfl) (Nat.le_of_ble_eq_true rfl) ?_
      refine wp_iconst (v := nI 0) (atd dX12_dismantle 20 rfl) (by decide) ?_
      refine wp_istore_n (atd dX12_dismantle 21 rfl) (Nat.le_of_ble_eq_true rfl) ?_
      have hbits : ∀ p, D.1.testBit p = true → p < n ∧ cnt (dif D.1 (2 ^ p)) + 1 = cnt D.1 := fun p hpb => by
        have hpn := bit_lt hl hpb
        exact ⟨hpn, cnt_dif p (by omega) D.1 (by omega) hpb⟩
      refine lX12_dis (v := lcr nb n D.1 n 0) hd hn hw hM hp hb hD (by omega) (fun p hpb => by have := (hbits p hpb).2; omega) (fun e2 e3 hnone => ?_) (fun p q e2 e3 σ2 hM2 hsome => ?_) n 0 _ (by omega) rfl
      ·
        refine wp_iload_n (atd dX12_dismantle 16 rfl) rfl ?_
        refine wp_ifN_eq (tgt := 129) (atd dX12_dismantle 17 rfl) (by decide) (by omega) (fun c_29 => ?_) (fun c_29 => ?_)
        ·
          refine wp_vretv (atd dX12_dismantle 75 rfl) rfl ?_
          exact ⟨α, B, hM, hfa, hfb, h17, by rw [← hv]; simp only [dis, hnone]; exact hD⟩
        · exact absurd c_29 (by decide)
      · obtain ⟨-, -, hpb, -⟩ := lcr_spec hsome
        have hcc := (hbits p hpb).2
        refine ih σ2 _ _ _ _ _ hM2 ((hfa.up (by decide)).up (by decide)) ((hfb.va (by decide)).va (by decide)) h17 hD.step (dif_lt2 hl) ?_ ?_ (by rw [← hv]; simp only [dis, hsome])
        · show D.2.1 + 1 + cnt (dif D.1 (2 ^ p)) ≤ n; omega
        · show cnt (dif D.1 (2 ^ p)) < k; omega
def DisOk (α : Nat → Int32) (B : Nat → Nat → Int32) (nb : Nat → Nat) (n : Nat) : Prop := α 17 = nI 0 ∨ (α 17 = nI 1 ∧ DR α B n (dis0 nb n))
theorem cnt_all : ∀ n, n ≤ 9 → cnt (2 ^ n - 1) = n := by decide +kernel
theorem eX12_dismantle {G : Gx} {d : Nat} {σ : Hp} (hd : 2 ≤ d) {m n : Nat} {α : Nat → Int32} {B : Nat → Nat → Int32} {nb : Nat → Nat} (hM : MA σ σ m α B) (hp : α 2 = nI n) (hn : n ≤ 9) (hb : ∀ p, p < n → B 1 p = nI (nb p)) (hw : ∀ p, nb p < 512) (hds : DisOk α B nb n) : Cl G mX12_dismantle d [.ref m] σ 0 0 (pV fun s => ∃ α1 B1, MA σ s m α1 B1 ∧ frm [17, 24, 25] α α1 ∧ frm [5, 6] B B1 ∧ α1 17 = nI 1 ∧ DR α1 B1 n (dis0 nb n)) := by
  obtain ⟨d0, hdd⟩ : ∃ e, d = e + 1 := ⟨d - 1, by omega⟩
  refine cl_of (by decide) (by simp [Value.category]) (Nat.le_of_ble_eq_true rfl) ?_
  show Wp G mX12_dismantle d 0 [.ref m, .double 0, .double 0, .double 0] [] σ 0 0 _
  rcases hds with h17 | ⟨h17, hDR⟩
  ·
    refine wp_aload_n (atd dX12_dismantle 0 rfl) rfl rfl ?_
    refine wp_get fX12_172 (atd dX12_dismantle 1 rfl) hM.1.1 (congrArg (fun z => some (Value.int z)) h17) ?_
    refine wp_ifN_eq (tgt := 8) (atd dX12_dismantle 2 rfl) (by decide) (by omega) (fun c_4 => ?_) (fun c_4 => ?_)
    ·
      refine wp_aload_n (atd dX12_dismantle 4 rfl) rfl rfl ?_
      refine wp_iconst (v := nI 1) (atd dX12_dismantle 5 rfl) (by decide) ?_
      refine wp_putMz fX12_172 (atd dX12_dismantle 6 rfl) hM rfl (by decide) (fun σ hM => ?_)
      refine wp_aload_n (atd dX12_dismantle 7 rfl) rfl rfl ?_
      refine wp_aload_n (atd dX12_dismantle 8 rfl) rfl rfl ?_
      refine wp_cVi hdd [] (atd dX12_dismantle 9 rfl) iX12_allPlaces lX12_191 rfl rfl (Nat.le_of_ble_eq_true rfl) hM.1.1 rfl (eX12_allPlaces (by omega) hM.self hp hn) (fun r_15 s_15 h_15 => ?_)
      obtain ⟨rfl, rfl⟩ := h_15
      refine wp_putM fX12_206 (atd dX12_dismantle 10 rfl) hM rfl (fun σ hM => ?_)
      refine wp_aload_n (atd dX12_dismantle 11 rfl) rfl rfl ?_
      refine wp_iconst (v := nI 0) (atd dX12_dismantle 12 rfl) (by decide) ?_
      refine wp_putM fX12_228 (atd dX12_dismantle 13 rfl) hM rfl (fun σ hM => ?_)
      refine wp_iconst (v := nI 1) (atd dX12_dismantle 14 rfl) (by decide) ?_
      refine wp_istore_n (atd dX12_dismantle 15 rfl) (Nat.le_of_ble_eq_true rfl) ?_
      refine oX12_dis (E := dis0 nb n) hd hn hw hp hb 10 _ _ _ (2 ^ n - 1, 0, fun _ => 0, fun _ => 0) _ _ hM (((frm.rf.up (by decide)).up (by decide)).up (by decide)) frm.rf rfl ⟨rfl, rfl, fun i hi => absurd hi (Nat.not_lt_zero i), fun p hpn hbt => ?_⟩ (by show 2 ^ n - 1 < 2 ^ n; have := pow_pos9 n; omega) (by show 0 + cnt (2 ^ n - 1) ≤ n; rw [cnt_all n hn]; omega) (by show cnt (2 ^ n - 1) < 10; rw [cnt_all n hn]; omega) rfl
      have hbt2 : (2 ^ n - 1).testBit p = false := hbt
      rw [Nat.testBit_two_pow_sub_one] at hbt2
      simp at hbt2
      omega
    · exact absurd c_4 (by decide)
  ·
    refine wp_aload_n (atd dX12_dismantle 0 rfl) rfl rfl ?_
    refine wp_get fX12_172 (atd dX12_dismantle 1 rfl) hM.1.1 (congrArg (fun z => some (Value.int z)) h17) ?_
    refine wp_ifN_eq (tgt := 8) (atd dX12_dismantle 2 rfl) (by decide) (by omega) (fun c_4 => ?_) (fun c_4 => ?_)
    · exact absurd c_4 (by decide)
    ·
      refine wp_vretv (atd dX12_dismantle 3 rfl) rfl ?_
      exact ⟨α, B, hM, frm.rf, frm.rf, h17, hDR⟩
