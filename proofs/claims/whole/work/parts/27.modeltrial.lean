/-! the first of the best rows -/
theorem oI_inj {a b : Option Nat} (ha : ∀ x, a = some x → x < 2 ^ 31) (hb : ∀ x, b = some x → x < 2 ^ 31) (h : oI a = oI b) : a = b := by
  cases a with
  | none => cases b with
    | none => rfl
    | some y => exact absurd h.symm (nI_m1 (hb y rfl))
  | some x => cases b with
    | none => exact absurd h (nI_m1 (ha x rfl))
    | some y => exact congrArg some ((nI_eq (ha x rfl) (hb y rfl)).mp h)
def brK (cg : Nat → Bool) (r : Nat → Option Nat) (v : Option Nat) : Nat → Nat → Nat
  | 0, j => j
  | k + 1, j => if cg j = true ∧ r j = v then j else brK cg r v k (j + 1)
def brF (cg : Nat → Bool) (r : Nat → Option Nat) (R : Nat) : Nat := brK cg r (lbF cg r R) R 0
theorem lb_none {cg : Nat → Bool} {r : Nat → Option Nat} : ∀ (k j : Nat) (b : Option Nat), fl (lbG cg r) k j b = none → b = none ∧ ∀ i, j ≤ i → i < j + k → cg i = true → r i = none
  | 0, _, _, h => ⟨h, fun i h1 h2 => absurd h2 (by omega)⟩
  | k + 1, j, b, h => by
    obtain ⟨h1, h2⟩ := lb_none k (j + 1) (lbG cg r j b) h
    unfold lbG at h1
    by_cases hc : cg j = true
    · rw [if_pos hc] at h1
      cases hr : r j with
      | none =>
        rw [hr] at h1
        refine ⟨h1, fun i g1 g2 g3 => ?_⟩
        by_cases e : i = j
        · subst e; exact hr
        · exact h2 i (by omega) (by omega) g3
      | some x =>
        rw [hr] at h1
        cases b with
        | none => cases h1
        | some y =>
          have h1' : (if x < y then some x else some y) = none := h1
          split at h1' <;> cases h1'
    · rw [if_neg hc] at h1
      refine ⟨h1, fun i g1 g2 g3 => ?_⟩
      by_cases e : i = j
      · subst e; exact absurd g3 hc
      · exact h2 i (by omega) (by omega) g3
theorem lbF_ex {cg : Nat → Bool} {r : Nat → Option Nat} {R : Nat} (hx : ∃ x, x < R ∧ cg x = true) : ∃ x, x < R ∧ cg x = true ∧ r x = lbF cg r R := by
  cases h : lbF cg r R with
  | none =>
    obtain ⟨x, h1, h2⟩ := hx
    exact ⟨x, h1, h2, (lb_none R 0 none h).2 x (by omega) (by omega) h2⟩
  | some y => exact lbF_mem h
theorem brK_lt {cg : Nat → Bool} {r : Nat → Option Nat} {v : Option Nat} : ∀ (k j : Nat), (∃ x, j ≤ x ∧ x < j + k ∧ cg x = true ∧ r x = v) → brK cg r v k j < j + k ∧ cg (brK cg r v k j) = true ∧ r (brK cg r v k j) = v
  | 0, j, ⟨x, h1, h2, _⟩ => absurd h2 (by omega)
  | k + 1, j, ⟨x, h1, h2, h3, h4⟩ => by
    unfold brK
    by_cases hc : cg j = true ∧ r j = v
    · rw [if_pos hc]; exact ⟨by omega, hc⟩
    · rw [if_neg hc]
      have hx : x ≠ j := fun e => hc (by subst e; exact ⟨h3, h4⟩)
      have := brK_lt k (j + 1) ⟨x, by omega, by omega, h3, h4⟩
      exact ⟨by omega, this.2⟩
theorem brF_lt {cg : Nat → Bool} {r : Nat → Option Nat} {R : Nat} (hx : ∃ x, x < R ∧ cg x = true) : brF cg r R < R := by
  obtain ⟨x, h1, h2, h3⟩ := lbF_ex (r := r) hx
  have := (brK_lt R 0 ⟨x, by omega, by omega, h2, h3⟩).1
  unfold brF
  omega
theorem cms_rf {nb : Nat → Nat} {h kd n : Nat} {r : Row} (hh : h ≤ 3) (hr : ∀ p, p < n → (nb p).testBit p = true) (hin : ∀ k, k < 3 → rk r k < n) : cms nb h kd r r = true := by
  have h0 : cmO nb h r r 0 = (1, 0) := by
    have g : ∀ k, k < 3 → k < h → cmG nb h r r 0 k (1, 0) = (1, 0) := by
      intro k hk hkh
      have ek : ordT (3 * 0 + k) = k := by rcases (show k = 0 ∨ k = 1 ∨ k = 2 by omega) with rfl | rfl | rfl <;> rfl
      unfold cmG
      rw [ek, if_pos hkh, if_pos ⟨by decide, hr _ (hin k hk)⟩, if_pos rfl]
    unfold cmO
    rcases (show h = 0 ∨ h = 1 ∨ h = 2 ∨ h = 3 by omega) with rfl | rfl | rfl | rfl
    · rfl
    · show cmG nb 1 r r 0 0 (1, 0) = _
      exact g 0 (by decide) (by decide)
    · show cmG nb 2 r r 0 1 (cmG nb 2 r r 0 0 (1, 0)) = _
      rw [g 0 (by decide) (by decide), g 1 (by decide) (by decide)]
    · show cmG nb 3 r r 0 2 (cmG nb 3 r r 0 1 (cmG nb 3 r r 0 0 (1, 0))) = _
      rw [g 0 (by decide) (by decide), g 1 (by decide) (by decide), g 2 (by decide) (by decide)]
  show (if (cmO nb h r r 0).1 ≠ 0 ∧ (kd ≠ 1 ∨ (cmO nb h r r 0).2 < 2) then true else cmsG nb h kd r r 5 1) = true
  rw [h0, if_pos ⟨by decide, Or.inr (by decide)⟩]
theorem lX12_bestRow {G : Gx} {d : Nat} {σ : Hp} {m n X R : Nat} {α : Nat → Int32} {B : Nat → Nat → Int32} (hM : MA σ σ m α B) {i p : Nat} {cg : Nat → Nat → Bool} {r : Nat → Nat → Option Nat} (h32 : α 32 = nI R) (hR9 : R ≤ 165) (hi : i < R) (hpn : p < n) (hn : n ≤ 9) (hcg : ∀ x y, x < R → y < R → B 9 (165 * x + y) = bI (cg x y = true)) (hr : WT B 11 r R n) (hrb : WB r R n X) (hX : X < 100000) {v : Option Nat} {u : Nat} (hvb : ∀ x, v = some x → x < 2 ^ 31) : ∀ (k j : Nat), j + k = R → (∃ x, j ≤ x ∧ x < j + k ∧ cg i x = true ∧ r x p = v) → brK (cg i) (fun j => r j p) v k j = u → Wp G mX12_bestRow d 10 [.ref m, .int (nI i), .int (nI p), .int (oI v), .int (nI j)] [] σ 0 0 (pI fun r s => r = nI u ∧ s = σ) := by
  intro k
  induction k with
  | zero =>
    intro j hj hx hv
    obtain ⟨x, h1, h2, -⟩ := hx
    exfalso; omega
  | succ k ih =>
    intro j hj hx hv
    refine wp_aload_n (atd dX12_bestRow 7 rfl) rfl rfl ?_
    refine wp_get fX12_41 (atd dX12_bestRow 8 rfl) hM.1.1 rfl ?_
    refine wp_sipush (v := nI 165) (atd dX12_bestRow 9 rfl) (by decide) ?_
    refine wp_iload_n (atd dX12_bestRow 10 rfl) rfl ?_
    refine wp_imulN (atd dX12_bestRow 11 rfl) ?_
    refine wp_iload (atd dX12_bestRow 12 rfl) rfl ?_
    refine wp_iaddN (atd dX12_bestRow 13 rfl) ?_
    refine wp_zaldN (atd dX12_bestRow 14 rfl) hM.a9 (show _ < 27225 from by omega) (Nat.le_of_ble_eq_true rfl) ?_
    rw [hcg i j hi (by omega)]
    refine wp_ifB_eq (tgt := 42) (atd dX12_bestRow 15 rfl) (by decide) (fun c_23 => ?_) (fun c_23 => ?_)
    ·
      refine wp_iincN (c := 1) (atd dX12_bestRow 26 rfl) rfl ?_
      refine wp_goto (tgt := 10) (atd dX12_bestRow 27 rfl) (by decide) ?_
      have hne : ¬ (cg i j = true ∧ r j p = v) := fun z => c_23 z.1
      refine ih (j + 1) (by omega) ?_ (by rw [← hv]; exact (if_neg hne).symm)
      obtain ⟨x, h1, h2, h3, h4⟩ := hx
      exact ⟨x, by have : x ≠ j := (fun e => hne (by subst e; exact ⟨h3, h4⟩)); omega, by omega, h3, h4⟩
    ·
      refine wp_aload_n (atd dX12_bestRow 16 rfl) rfl rfl ?_
      refine wp_get fX12_48 (atd dX12_bestRow 17 rfl) hM.1.1 rfl ?_
      refine wp_bipush (v := nI 9) (atd dX12_bestRow 18 rfl) (by decide) ?_
      refine wp_iload (atd dX12_bestRow 19 rfl) rfl ?_
      refine wp_imulN (atd dX12_bestRow 20 rfl) ?_
      refine wp_iload_n (atd dX12_bestRow 21 rfl) rfl ?_
      refine wp_iaddN (atd dX12_bestRow 22 rfl) ?_
      refine wp_ialdN (atd dX12_bestRow 23 rfl) hM.a11 (show _ < 1485 from by omega) (Nat.le_of_ble_eq_true rfl) ?_
      rw [hr j p (by omega) hpn]
      refine wp_iload_n (atd dX12_bestRow 24 rfl) rfl ?_
      refine wp_icmp_eq (tgt := 48) (atd dX12_bestRow 25 rfl) (by decide) (fun c_39 => ?_) (fun c_39 => ?_)
      ·
        refine wp_iload (atd dX12_bestRow 28 rfl) rfl ?_
        refine wp_ireti (atd dX12_bestRow 29 rfl) rfl ?_
        exact ⟨by rw [← hv]; unfold brK; rw [if_pos ⟨c_23, oI_inj (fun x hx => by have := hrb j p x (by omega) hpn hx; omega) hvb c_39⟩], rfl⟩
      ·
        refine wp_iincN (c := 1) (atd dX12_bestRow 26 rfl) rfl ?_
        refine wp_goto (tgt := 10) (atd dX12_bestRow 27 rfl) (by decide) ?_
        have hne : ¬ (cg i j = true ∧ r j p = v) := fun z => c_39 (congrArg oI z.2)
        refine ih (j + 1) (by omega) ?_ (by rw [← hv]; exact (if_neg hne).symm)
        obtain ⟨x, h1, h2, h3, h4⟩ := hx
        exact ⟨x, by have : x ≠ j := (fun e => hne (by subst e; exact ⟨h3, h4⟩)); omega, by omega, h3, h4⟩
theorem eX12_bestRow {G : Gx} {d : Nat} {σ : Hp} (hd : 1 ≤ d) {m n X R : Nat} {α : Nat → Int32} {B : Nat → Nat → Int32} (hM : MA σ σ m α B) {i p : Nat} {cg : Nat → Nat → Bool} {r : Nat → Nat → Option Nat} (h32 : α 32 = nI R) (hR9 : R ≤ 165) (hi : i < R) (hpn : p < n) (hn : n ≤ 9) (hcg : ∀ x y, x < R → y < R → B 9 (165 * x + y) = bI (cg x y = true)) (hr : WT B 11 r R n) (hrb : WB r R n X) (hX : X < 100000) (hex : ∃ x, x < R ∧ cg i x = true) : Cl G mX12_bestRow d [.ref m, .int (nI i), .int (nI p)] σ 0 0 (pI fun v s => v = nI (brF (cg i) (fun j => r j p) R) ∧ s = σ) := by
  obtain ⟨d0, hdd⟩ : ∃ e, d = e + 1 := ⟨d - 1, by omega⟩
  refine cl_of (by decide) (by simp [Value.category]) (Nat.le_of_ble_eq_true rfl) ?_
  show Wp G mX12_bestRow d 0 [.ref m, .int (nI i), .int (nI p), .double 0, .double 0] [] σ 0 0 _
  refine wp_aload_n (atd dX12_bestRow 0 rfl) rfl rfl ?_
  refine wp_iload_n (atd dX12_bestRow 1 rfl) rfl ?_
  refine wp_iload_n (atd dX12_bestRow 2 rfl) rfl ?_
  refine wp_cVi hdd [_, _] (atd dX12_bestRow 3 rfl) iX12_leastBehind lX12_256 rfl rfl (Nat.le_of_ble_eq_true rfl) hM.1.1 rfl (eX12_leastBehind (by omega) hM h32 hR9 hi hpn hn hcg hr hrb hX) (fun r_3 s_3 h_3 => ?_)
  obtain ⟨rfl, rfl⟩ := h_3
  refine wp_istore_n (atd dX12_bestRow 4 rfl) (Nat.le_of_ble_eq_true rfl) ?_
  refine wp_iconst (v := nI 0) (atd dX12_bestRow 5 rfl) (by decide) ?_
  refine wp_istore (atd dX12_bestRow 6 rfl) (Nat.le_of_ble_eq_true rfl) ?_
  obtain ⟨x, h1, h2, h3⟩ := lbF_ex (r := fun j => r j p) hex
  exact lX12_bestRow hM h32 hR9 hi hpn hn hcg hr hrb hX (fun y hy => by obtain ⟨j, j1, -, j3⟩ := lbF_mem hy; have := hrb j p y j1 hpn j3; omega) R 0 (by omega) ⟨x, by omega, by omega, h2, h3⟩ rfl
/-! drawing -/
def nxS (s : Int32) : Int32 := s * 1103515245 + nI 12345
def drN (s : Int32) (k : Nat) : Nat := s.toUInt32.toNat / 65536 % k
theorem ush16 (x : Int32) : (x.toUInt32 >>> ((nI 16).toUInt32 &&& Int32.toUInt32 31)).toInt32 = nI (x.toUInt32.toNat / 65536) := by
  rw [show (nI 16).toUInt32 &&& Int32.toUInt32 31 = (16 : UInt32) from by decide]
  apply Int32.toBitVec_inj.1
  show (x.toUInt32 >>> 16).toBitVec = BitVec.ofNat 32 (x.toUInt32.toNat / 65536)
  apply BitVec.eq_of_toNat_eq
  rw [BitVec.toNat_ofNat]
  show (x.toUInt32 >>> 16).toNat = _
  rw [UInt32.toNat_shiftRight]
  have h1 : x.toUInt32.toNat < 2 ^ 32 := UInt32.toNat_lt _
  rw [show UInt32.toNat 16 % 32 = 16 from rfl, Nat.shiftRight_eq_div_pow, Nat.mod_eq_of_lt (show x.toUInt32.toNat / 65536 < 2 ^ 32 by omega)]
theorem ush_lt (x : Int32) : x.toUInt32.toNat / 65536 < 65536 := by
  have h1 : x.toUInt32.toNat < 2 ^ 32 := UInt32.toNat_lt _
  omega
theorem eX12_drawn {G : Gx} {d : Nat} {σ : Hp} (hd : 0 ≤ d) {m k : Nat} {α : Nat → Int32} {B : Nat → Nat → Int32} (hM : MA σ σ m α B) (hk0 : 0 < k) (hk : k < 2 ^ 31) : Cl G mX12_drawn d [.ref m, .int (nI k)] σ 0 0 (pI fun r s => r = nI (drN (nxS (α 38)) k) ∧ MA σ s m (upd α 38 (nxS (α 38))) B) := by
  refine cl_of (by decide) (by simp [Value.category]) (Nat.le_of_ble_eq_true rfl) ?_
  show Wp G mX12_drawn d 0 [.ref m, .int (nI k)] [] σ 0 0 _
  refine wp_aload_n (atd dX12_drawn 0 rfl) rfl rfl ?_
  refine wp_aload_n (atd dX12_drawn 1 rfl) rfl rfl ?_
  refine wp_get fX12_298 (atd dX12_drawn 2 rfl) hM.1.1 rfl ?_
  refine wp_ldcw (atd dX12_drawn 3 rfl) qX12_301 ?_
  refine wp_imul (atd dX12_drawn 4 rfl) ?_
  refine wp_sipush (v := nI 12345) (atd dX12_drawn 5 rfl) (by decide) ?_
  refine wp_iadd (atd dX12_drawn 6 rfl) ?_
  refine wp_putM fX12_298 (atd dX12_drawn 7 rfl) hM rfl (fun σ hM => ?_)
  refine wp_aload_n (atd dX12_drawn 8 rfl) rfl rfl ?_
  refine wp_get fX12_298 (atd dX12_drawn 9 rfl) hM.1.1 rfl ?_
  refine wp_bipush (v := nI 16) (atd dX12_drawn 10 rfl) (by decide) ?_
  refine wp_iushr (atd dX12_drawn 11 rfl) ?_
  rw [ush16]
  have hu := ush_lt (nxS (α 38))
  rw [show upd α 38 (α 38 * 1103515245 + nI 12345) 38 = nxS (α 38) from rfl]
  refine wp_iload_n (atd dX12_drawn 12 rfl) rfl ?_
  refine wp_iremN (atd dX12_drawn 13 rfl) (by omega) (by omega) (by omega) ?_
  refine wp_ireti (atd dX12_drawn 14 rfl) rfl ?_
  exact ⟨rfl, hM⟩
/-- the net with one line turned over -/
def nbt (nb : Nat → Nat) (p q : Nat) : Nat → Nat := va_up (va_up nb p (nb p ^^^ 2 ^ q)) q (nb q ^^^ 2 ^ p)
theorem nbt_lt {nb : Nat → Nat} {p q : Nat} (hw : ∀ p, nb p < 512) (hp : p < 9) (hq : q < 9) : ∀ x, nbt nb p q x < 512 := by
  intro x
  have h1 := pow_lt9 hp
  have h2 := pow_lt9 hq
  unfold nbt va_up
  split
  · exact Nat.xor_lt_two_pow (n := 9) (hw _) h1
  · split
    · exact Nat.xor_lt_two_pow (n := 9) (hw _) h2
    · exact hw x
theorem nbt_nbt {nb : Nat → Nat} {p q : Nat} (h : p ≠ q) : nbt (nbt nb p q) p q = nb := by
  funext x
  have hqp : ¬ q = p := fun e => h e.symm
  unfold nbt va_up
  by_cases h1 : x = q
  · subst h1
    rw [if_pos rfl, if_pos rfl, Nat.xor_assoc, Nat.xor_self, Nat.xor_zero]
  · rw [if_neg h1]
    by_cases h2 : x = p
    · subst h2
      rw [if_pos rfl, if_neg h1, if_pos rfl, Nat.xor_assoc, Nat.xor_self, Nat.xor_zero]
    · rw [if_neg h2, if_neg h1, if_neg h2]
theorem nbt_up {nb : Nat → Nat} {p q n : Nat} {f : Nat → Int32} (hf : ∀ x, x < n → f x = nI (nb x)) (h : p ≠ q) (hp : p < n) (hq : q < n) : ∀ x, x < n → upd (upd f p (nI (nb p ^^^ 2 ^ q))) q (nI (nb q ^^^ 2 ^ p)) x = nI (nbt nb p q x) := by
  intro x hx
  unfold nbt va_up upd
  by_cases h1 : x = q
  · rw [if_pos h1, if_pos h1]
  · rw [if_neg h1, if_neg h1]
    by_cases h2 : x = p
    · rw [if_pos h2, if_pos h2]
    · rw [if_neg h2, if_neg h2]; exact hf x hx
theorem eX12_turns {G : Gx} {d : Nat} {σ : Hp} (hd : 0 ≤ d) {m n : Nat} {α : Nat → Int32} {B : Nat → Nat → Int32} {nb : Nat → Nat} (hM : MA σ σ m α B) (hp : α 2 = nI n) (hn : n ≤ 9) (hb : ∀ p, p < n → B 1 p = nI (nb p)) (hw : ∀ p, nb p < 512) {p q : Nat} (hpn : p < n) (hqn : q < n) (hpq : p ≠ q) : Cl G mX12_turns d [.ref m, .int (nI p), .int (nI q)] σ 0 0 (pV fun s => ∃ B1, MA σ s m (upd α 19 (-1)) B1 ∧ frm [1] B B1 ∧ ∀ x, x < n → B1 1 x = nI (nbt nb p q x)) := by
  refine cl_of (by decide) (by simp [Value.category]) (Nat.le_of_ble_eq_true rfl) ?_
  show Wp G mX12_turns d 0 [.ref m, .int (nI p), .int (nI q)] [] σ 0 0 _
  refine wp_aload_n (atd dX12_turns 0 rfl) rfl rfl ?_
  refine wp_get fX12_7 (atd dX12_turns 1 rfl) hM.1.1 rfl ?_
  refine wp_iload_n (atd dX12_turns 2 rfl) rfl ?_
  refine wp_dup2 (atd dX12_turns 3 rfl) rfl rfl ?_
  refine wp_ialdN (atd dX12_turns 4 rfl) hM.a1 (show _ < 9 from by omega) (Nat.le_of_ble_eq_true rfl) ?_
  rw [hb p hpn]
  refine wp_iconst (v := nI 1) (atd dX12_turns 5 rfl) (by decide) ?_
  refine wp_iload_n (atd dX12_turns 6 rfl) rfl ?_
  refine wp_ishl1 (atd dX12_turns 7 rfl) (by omega) ?_
  refine wp_ixorN (atd dX12_turns 8 rfl) ?_
  refine wp_iastM (j := 1) (atd dX12_turns 9 rfl) hM (by decide) (by decide) rfl (show _ < 9 from by omega) (fun σ hM => ?_)
  refine wp_aload_n (atd dX12_turns 10 rfl) rfl rfl ?_
  refine wp_get fX12_7 (atd dX12_turns 11 rfl) hM.1.1 rfl ?_
  refine wp_iload_n (atd dX12_turns 12 rfl) rfl ?_
  refine wp_dup2 (atd dX12_turns 13 rfl) rfl rfl ?_
  refine wp_ialdN (atd dX12_turns 14 rfl) hM.a1 (show _ < 9 from by omega) (Nat.le_of_ble_eq_true rfl) ?_
  rw [show va_up B 1 (upd (B 1) p (nI (nb p ^^^ 2 ^ q))) 1 q = nI (nb q) from (show upd (B 1) p (nI (nb p ^^^ 2 ^ q)) q = nI (nb q) from by rw [show upd (B 1) p (nI (nb p ^^^ 2 ^ q)) q = B 1 q from if_neg (fun e => hpq e.symm)]; exact hb q hqn)]
  refine wp_iconst (v := nI 1) (atd dX12_turns 15 rfl) (by decide) ?_
  refine wp_iload_n (atd dX12_turns 16 rfl) rfl ?_
  refine wp_ishl1 (atd dX12_turns 17 rfl) (by omega) ?_
  refine wp_ixorN (atd dX12_turns 18 rfl) ?_
  refine wp_iastM (j := 1) (atd dX12_turns 19 rfl) hM (by decide) (by decide) rfl (show _ < 9 from by omega) (fun σ hM => ?_)
  refine wp_aload_n (atd dX12_turns 20 rfl) rfl rfl ?_
  refine wp_iconst (v := -1) (atd dX12_turns 21 rfl) (by decide) ?_
  refine wp_putM fX12_26 (atd dX12_turns 22 rfl) hM rfl (fun σ hM => ?_)
  refine wp_vretv (atd dX12_turns 23 rfl) rfl ?_
  exact ⟨_, hM, (frm.rf.va (by decide)).va (by decide), nbt_up hb hpq hpn hqn⟩
def kth (to : Nat) : Nat → Nat → Nat → Nat
  | 0, p, _ => p
  | f + 1, p, k => if to.testBit p = true ∧ k = 0 then p else kth to f (p + 1) (if to.testBit p = true then k - 1 else k)
def cnF (to f p : Nat) : Nat := fl (fun k n => n + (to >>> k &&& 1)) f p 0
theorem cnF_add (to : Nat) : ∀ (f p a : Nat), fl (fun k n => n + (to >>> k &&& 1)) f p a = a + cnF to f p
  | 0, _, a => rfl
  | f + 1, p, a => by
    show fl (fun k n => n + (to >>> k &&& 1)) f (p + 1) (a + (to >>> p &&& 1)) = a + fl (fun k n => n + (to >>> k &&& 1)) f (p + 1) (0 + (to >>> p &&& 1))
    rw [cnF_add to f (p + 1) (a + (to >>> p &&& 1)), cnF_add to f (p + 1) (0 + (to >>> p &&& 1))]
    omega
theorem tb_val (s j : Nat) : s >>> j &&& 1 = if s.testBit j = true then 1 else 0 := by
  by_cases h : s.testBit j = true
  · rw [if_pos h]; exact (tb_iff s j).mpr h
  · rw [if_neg h]
    have h1 := mt (tb_iff s j).mp h
    have h2 : s >>> j &&& 1 ≤ 1 := Nat.and_le_right
    omega
theorem cnF_s (to f p : Nat) : cnF to (f + 1) p = (if to.testBit p = true then 1 else 0) + cnF to f (p + 1) := by
  show fl (fun k n => n + (to >>> k &&& 1)) f (p + 1) (0 + (to >>> p &&& 1)) = _
  rw [cnF_add, tb_val]
  omega
theorem kth_bit (to : Nat) : ∀ (f p k : Nat), k < cnF to f p → to.testBit (kth to f p k) = true ∧ p ≤ kth to f p k ∧ kth to f p k < p + f
  | 0, p, k, h => absurd h (Nat.not_lt_zero k)
  | f + 1, p, k, h => by
    rw [cnF_s] at h
    unfold kth
    by_cases hc : to.testBit p = true ∧ k = 0
    · rw [if_pos hc]; exact ⟨hc.1, by omega, by omega⟩
    · rw [if_neg hc]
      by_cases hb : to.testBit p = true
      · rw [if_pos hb] at h ⊢
        have hk : k ≠ 0 := fun e => hc ⟨hb, e⟩
        have := kth_bit to f (p + 1) (k - 1) (by omega)
        exact ⟨this.1, by omega, by omega⟩
      · rw [if_neg hb] at h ⊢
        have := kth_bit to f (p + 1) k (by omega)
        exact ⟨this.1, by omega, by omega⟩
theorem rns_lt2 {nb : Nat → Nat} {n : Nat} (hN : isNet n nb) {kd hs p : Nat} (hp : p < n) : rns nb n kd hs p < 2 ^ n := by
  unfold rns
  split
  · exact Nat.or_lt_two_pow (hN.2.1 p hp) (nall_lt2 hN _)
  · exact hN.2.1 p hp
theorem rns_self {nb : Nat → Nat} {n : Nat} (hN : isNet n nb) {kd hs p : Nat} (hp : p < n) : (rns nb n kd hs p).testBit p = true := by
  unfold rns
  split
  · rw [Nat.testBit_or, hN.2.2.1 p hp]; rfl
  · exact hN.2.2.1 p hp
theorem bit_ltn {a n p : Nat} (h : a < 2 ^ n) (hb : a.testBit p = true) : p < n := by
  apply Classical.byContradiction
  intro h2
  have h3 : a < 2 ^ p := Nat.lt_of_lt_of_le h (Nat.pow_le_pow_right (by decide) (by omega))
  rw [Nat.testBit_lt_two_pow h3] at hb
  cases hb
def brT (nb : Nat → Nat) (n kd h : Nat) (w : Wo) (i p : Nat) : Nat := brF (cgF nb h kd (rowsL h n) i) (fun j => rwt nb n kd h (rowsL h n) w j p) (rowsL h n).length
def stT (n h i p : Nat) : Bool := (std h (rowAt (rowsL h n) i)).testBit p
def drT (nb : Nat → Nat) (n kd h i p : Nat) (s : Int32) : Nat := kth (rns nb n kd (std h (rowAt (rowsL h n) i)) p) 9 0 (drN s (cnt (rns nb n kd (std h (rowAt (rowsL h n) i)) p)))
def trL (nb : Nat → Nat) (n kd h : Nat) (w : Wo) : Nat → Nat → Nat → Int32 → Nat → Int32
  | 0, i, p, _, t => if stT n h i p = true then nI t else -2
  | f + 1, i, p, s, t => if stT n h i p = true then nI t else
      if stT n h (brT nb n kd h w i p) p = true then trL nb n kd h w f (brT nb n kd h w i p) p s (t + 1)
      else trL nb n kd h w f (brT nb n kd h w i p) (drT nb n kd h (brT nb n kd h w i p) p (nxS s)) (nxS s) (t + 1)
noncomputable def trF (nb : Nat → Nat) (n kd h : Nat) (s : Int32) : Int32 := trL nb n kd h (slvF nb n h kd) 100 (stF nb n h kd) (drN (nxS s) n) (nxS s) 0
theorem lX12_trialD {G : Gx} {d : Nat} {Q : Option Value → Hp → Prop} {σ : Hp} {m kd h i t to v : Nat} {e3 : Value} (hd : 1 ≤ d) (hto : to < 512) (hk : ∀ e8 : Value, Wp G mX12_trial d 167 [.ref m, .int (nI kd), .int (nI h), e3, .int (nI i), .int (nI v), .int (nI t), .int (nI to), e8] [] σ 0 0 Q) : ∀ (f p k : Nat), p + f = 9 → k < cnF to f p → k < 100000 → kth to f p k = v → Wp G mX12_trial d 126 [.ref m, .int (nI kd), .int (nI h), e3, .int (nI i), .int (nI p), .int (nI t), .int (nI to), .int (nI k)] [] σ 0 0 Q := by
  obtain ⟨d0, hdd⟩ : ∃ e, d = e + 1 := ⟨d - 1, by omega⟩
  intro f
  induction f with
  | zero =>
    intro p k _ hc
    exact absurd hc (Nat.not_lt_zero k)
  | succ f ih =>
    intro p k hpf hc hk9 hv
    rw [cnF_s] at hc
    refine wp_iload (atd dX12_trial 66 rfl) rfl ?_
    refine wp_iload (atd dX12_trial 67 rfl) rfl ?_
    refine wp_cSi hdd [_, _] (atd dX12_trial 68 rfl) iX12_isOf lX12_149 rfl rfl (Nat.le_of_ble_eq_true rfl) (eX12_isOf (by omega) (by omega) (by omega)) (fun r_130 s_130 h_130 => ?_)
    obtain ⟨rfl, rfl⟩ := h_130
    refine wp_ifB_eq (tgt := 141) (atd dX12_trial 69 rfl) (by decide) (fun c_133 => ?_) (fun c_133 => ?_)
    ·
      refine wp_iload (atd dX12_trial 72 rfl) rfl ?_
      refine wp_iload (atd dX12_trial 73 rfl) rfl ?_
      refine wp_iload (atd dX12_trial 74 rfl) rfl ?_
      refine wp_cSi hdd [_, _] (atd dX12_trial 75 rfl) iX12_isOf lX12_149 rfl rfl (Nat.le_of_ble_eq_true rfl) (eX12_isOf (by omega) (by omega) (by omega)) (fun r_147 s_147 h_147 => ?_)
      obtain ⟨rfl, rfl⟩ := h_147
      refine wp_ifB_eq (tgt := 157) (atd dX12_trial 76 rfl) (by decide) (fun c_150 => ?_) (fun c_150 => ?_)
      ·
        refine wp_iconst (v := nI 0) (atd dX12_trial 79 rfl) (by decide) ?_
        refine wp_isubN (atd dX12_trial 80 rfl) (by omega) ?_
        refine wp_istore (atd dX12_trial 81 rfl) (Nat.le_of_ble_eq_true rfl) ?_
        refine wp_iincN (c := 1) (atd dX12_trial 82 rfl) rfl ?_
        refine wp_goto (tgt := 126) (atd dX12_trial 83 rfl) (by decide) ?_
        rw [if_neg c_133] at hc
        exact ih (p + 1) k (by omega) (by omega) (by omega) (by rw [← hv, kth, if_neg (show ¬ (to.testBit p = true ∧ k = 0) from fun z => c_133 z.1), if_neg c_133])
      · exact absurd c_150 c_133
    ·
      refine wp_iload (atd dX12_trial 70 rfl) rfl ?_
      refine wp_ifN_le (tgt := 167) (atd dX12_trial 71 rfl) (by decide) (by omega) (fun c_138 => ?_) (fun c_138 => ?_)
      ·
        have e : p = v := by rw [← hv, kth, if_pos ⟨c_133, by omega⟩]
        subst e
        exact hk _
      ·
        refine wp_iload (atd dX12_trial 72 rfl) rfl ?_
        refine wp_iload (atd dX12_trial 73 rfl) rfl ?_
        refine wp_iload (atd dX12_trial 74 rfl) rfl ?_
        refine wp_cSi hdd [_, _] (atd dX12_trial 75 rfl) iX12_isOf lX12_149 rfl rfl (Nat.le_of_ble_eq_true rfl) (eX12_isOf (by omega) (by omega) (by omega)) (fun r_147 s_147 h_147 => ?_)
        obtain ⟨rfl, rfl⟩ := h_147
        refine wp_ifB_eq (tgt := 157) (atd dX12_trial 76 rfl) (by decide) (fun c_150 => ?_) (fun c_150 => ?_)
        · exact absurd c_133 c_150
        ·
          refine wp_iconst (v := nI 1) (atd dX12_trial 77 rfl) (by decide) ?_
          refine wp_goto (tgt := 158) (atd dX12_trial 78 rfl) (by decide) ?_
          refine wp_isubN (atd dX12_trial 80 rfl) (by omega) ?_
          refine wp_istore (atd dX12_trial 81 rfl) (Nat.le_of_ble_eq_true rfl) ?_
          refine wp_iincN (c := 1) (atd dX12_trial 82 rfl) rfl ?_
          refine wp_goto (tgt := 126) (atd dX12_trial 83 rfl) (by decide) ?_
          rw [if_pos c_133] at hc
          exact ih (p + 1) (k - 1) (by omega) (by omega) (by omega) (by rw [← hv, kth, if_neg (show ¬ (to.testBit p = true ∧ k = 0) from fun z => by omega), if_pos c_133])
theorem lX12_trial {G : Gx} {d : Nat} {σ0 : Hp} {m n kd h : Nat} {α0 : Nat → Int32} {B : Nat → Nat → Int32} {nb : Nat → Nat} {w : Wo} {X : Nat} {e3 : Value} (hd : 4 ≤ d) (hp0 : α0 2 = nI n) (hN : isNet n nb) (hb : ∀ p, p < n → B 1 p = nI (nb p)) (hw : ∀ p, nb p < 512) (hkd : kd < 3) (hh : h ≤ 3) (h32 : α0 32 = nI (rowsL h n).length) (hR : RW B (rowsL h n) h) (hCG : CG B nb h kd (rowsL h n)) (hr : WT B 11 (rwt nb n kd h (rowsL h n) w) (rowsL h n).length n) (hrb : WB (rwt nb n kd h (rowsL h n) w) (rowsL h n).length n X) (hX : X < 100000) {v : Int32} : ∀ (f : Nat) (σ : Hp) (α : Nat → Int32) (i p t : Nat) (e7 e8 : Value), MA σ0 σ m α B → frm [38] α0 α → i < (rowsL h n).length → p < n → t + f = 100 → trL nb n kd h w f i p (α 38) t = v → Wp G mX12_trial d 46 [.ref m, .int (nI kd), .int (nI h), e3, .int (nI i), .int (nI p), .int (nI t), e7, e8] [] σ 0 0 (pI fun r s => r = v ∧ ∃ α1, MA σ0 s m α1 B ∧ frm [38] α0 α1) := by
  obtain ⟨d0, hdd⟩ : ∃ e, d = e + 1 := ⟨d - 1, by omega⟩
  intro f
  induction f with
  | zero =>
    intro σ α i p t e7 e8 hM hfa hi hpn ht hv
    have hn := hN.1
    have hp : α 2 = nI n := (hfa 2 (by decide)).trans hp0
    have hR9 := rowsL_len n (by omega) h (by omega)
    have hin := rowsL_in hn hh
    have hst := fun j hj => (hR j hj).2
    have hsl := fun j hj => std_lt (h := h) hn hin (i := j) hj
    have hs1 := hst i hi
    have hs2 := hsl i hi
    refine wp_aload_n (atd dX12_trial 27 rfl) rfl rfl ?_
    refine wp_get fX12_51 (atd dX12_trial 28 rfl) hM.1.1 rfl ?_
    refine wp_iload (atd dX12_trial 29 rfl) rfl ?_
    refine wp_ialdN (atd dX12_trial 30 rfl) hM.a12 (show _ < 165 from by omega) (Nat.le_of_ble_eq_true rfl) ?_
    rw [hs1]
    refine wp_iload (atd dX12_trial 31 rfl) rfl ?_
    refine wp_cSi hdd [_, _] (atd dX12_trial 32 rfl) iX12_isOf lX12_149 rfl rfl (Nat.le_of_ble_eq_true rfl) (eX12_isOf (by omega) (by omega) (by omega)) (fun r_55 s_55 h_55 => ?_)
    obtain ⟨rfl, rfl⟩ := h_55
    refine wp_ifB_ne (tgt := 170) (atd dX12_trial 33 rfl) (by decide) (fun c_58 => ?_) (fun c_58 => ?_)
    ·
      refine wp_aload_n (atd dX12_trial 85 rfl) rfl rfl ?_
      refine wp_get fX12_51 (atd dX12_trial 86 rfl) hM.1.1 rfl ?_
      refine wp_iload (atd dX12_trial 87 rfl) rfl ?_
      refine wp_ialdN (atd dX12_trial 88 rfl) hM.a12 (show _ < 165 from by omega) (Nat.le_of_ble_eq_true rfl) ?_
      rw [hs1]
      refine wp_iload (atd dX12_trial 89 rfl) rfl ?_
      refine wp_cSi hdd [_, _] (atd dX12_trial 90 rfl) iX12_isOf lX12_149 rfl rfl (Nat.le_of_ble_eq_true rfl) (eX12_isOf (by omega) (by omega) (by omega)) (fun r_179 s_179 h_179 => ?_)
      obtain ⟨rfl, rfl⟩ := h_179
      refine wp_ifB_eq (tgt := 190) (atd dX12_trial 91 rfl) (by decide) (fun c_182 => ?_) (fun c_182 => ?_)
      · exact absurd c_58 c_182
      ·
        refine wp_iload (atd dX12_trial 92 rfl) rfl ?_
        refine wp_goto (tgt := 192) (atd dX12_trial 93 rfl) (by decide) ?_
        refine wp_ireti (atd dX12_trial 95 rfl) rfl ?_
        exact ⟨by rw [← hv, trL, if_pos (show stT n h i p = true from c_182)], _, hM, hfa⟩
    ·
      refine wp_iload (atd dX12_trial 34 rfl) rfl ?_
      refine wp_bipush (v := nI 100) (atd dX12_trial 35 rfl) (by decide) ?_
      refine wp_icmpN_ge (tgt := 170) (atd dX12_trial 36 rfl) (by decide) (by omega) (by omega) (fun c_65 => ?_) (fun c_65 => ?_)
      ·
        refine wp_aload_n (atd dX12_trial 85 rfl) rfl rfl ?_
        refine wp_get fX12_51 (atd dX12_trial 86 rfl) hM.1.1 rfl ?_
        refine wp_iload (atd dX12_trial 87 rfl) rfl ?_
        refine wp_ialdN (atd dX12_trial 88 rfl) hM.a12 (show _ < 165 from by omega) (Nat.le_of_ble_eq_true rfl) ?_
        rw [hs1]
        refine wp_iload (atd dX12_trial 89 rfl) rfl ?_
        refine wp_cSi hdd [_, _] (atd dX12_trial 90 rfl) iX12_isOf lX12_149 rfl rfl (Nat.le_of_ble_eq_true rfl) (eX12_isOf (by omega) (by omega) (by omega)) (fun r_179 s_179 h_179 => ?_)
        obtain ⟨rfl, rfl⟩ := h_179
        refine wp_ifB_eq (tgt := 190) (atd dX12_trial 91 rfl) (by decide) (fun c_182 => ?_) (fun c_182 => ?_)
        ·
          refine wp_bipush (v := -2) (atd dX12_trial 94 rfl) (by decide) ?_
          refine wp_ireti (atd dX12_trial 95 rfl) rfl ?_
          exact ⟨by rw [← hv, trL, if_neg (show ¬ stT n h i p = true from c_182)], _, hM, hfa⟩
        · exact absurd c_182 c_58
      · exfalso; omega
  | succ f ih =>
    intro σ α i p t e7 e8 hM hfa hi hpn ht hv
    have hn := hN.1
    have hp : α 2 = nI n := (hfa 2 (by decide)).trans hp0
    have hR9 := rowsL_len n (by omega) h (by omega)
    have hin := rowsL_in hn hh
    have hst := fun j hj => (hR j hj).2
    have hsl := fun j hj => std_lt (h := h) hn hin (i := j) hj
    have hs1 := hst i hi
    have hs2 := hsl i hi
    have hex : ∃ x, x < (rowsL h n).length ∧ cgF nb h kd (rowsL h n) i x = true := ⟨i, hi, cms_rf hh hN.2.2.1 (hin i hi)⟩
    have hbl : brT nb n kd h w i p < (rowsL h n).length := brF_lt hex
    have hs3 := hsl _ hbl
    refine wp_aload_n (atd dX12_trial 27 rfl) rfl rfl ?_
    refine wp_get fX12_51 (atd dX12_trial 28 rfl) hM.1.1 rfl ?_
    refine wp_iload (atd dX12_trial 29 rfl) rfl ?_
    refine wp_ialdN (atd dX12_trial 30 rfl) hM.a12 (show _ < 165 from by omega) (Nat.le_of_ble_eq_true rfl) ?_
    rw [hs1]
    refine wp_iload (atd dX12_trial 31 rfl) rfl ?_
    refine wp_cSi hdd [_, _] (atd dX12_trial 32 rfl) iX12_isOf lX12_149 rfl rfl (Nat.le_of_ble_eq_true rfl) (eX12_isOf (by omega) (by omega) (by omega)) (fun r_55 s_55 h_55 => ?_)
    obtain ⟨rfl, rfl⟩ := h_55
    refine wp_ifB_ne (tgt := 170) (atd dX12_trial 33 rfl) (by decide) (fun c_58 => ?_) (fun c_58 => ?_)
    ·
      refine wp_aload_n (atd dX12_trial 85 rfl) rfl rfl ?_
      refine wp_get fX12_51 (atd dX12_trial 86 rfl) hM.1.1 rfl ?_
      refine wp_iload (atd dX12_trial 87 rfl) rfl ?_
      refine wp_ialdN (atd dX12_trial 88 rfl) hM.a12 (show _ < 165 from by omega) (Nat.le_of_ble_eq_true rfl) ?_
      rw [hs1]
      refine wp_iload (atd dX12_trial 89 rfl) rfl ?_
      refine wp_cSi hdd [_, _] (atd dX12_trial 90 rfl) iX12_isOf lX12_149 rfl rfl (Nat.le_of_ble_eq_true rfl) (eX12_isOf (by omega) (by omega) (by omega)) (fun r_179 s_179 h_179 => ?_)
      obtain ⟨rfl, rfl⟩ := h_179
      refine wp_ifB_eq (tgt := 190) (atd dX12_trial 91 rfl) (by decide) (fun c_182 => ?_) (fun c_182 => ?_)
      · exact absurd c_58 c_182
      ·
        refine wp_iload (atd dX12_trial 92 rfl) rfl ?_
        refine wp_goto (tgt := 192) (atd dX12_trial 93 rfl) (by decide) ?_
        refine wp_ireti (atd dX12_trial 95 rfl) rfl ?_
        exact ⟨by rw [← hv, trL, if_pos (show stT n h i p = true from c_182)], _, hM, hfa⟩
    ·
      refine wp_iload (atd dX12_trial 34 rfl) rfl ?_
      refine wp_bipush (v := nI 100) (atd dX12_trial 35 rfl) (by decide) ?_
      refine wp_icmpN_ge (tgt := 170) (atd dX12_trial 36 rfl) (by decide) (by omega) (by omega) (fun c_65 => ?_) (fun c_65 => ?_)
      · exfalso; omega
      ·
        refine wp_aload_n (atd dX12_trial 37 rfl) rfl rfl ?_
        refine wp_iload (atd dX12_trial 38 rfl) rfl ?_
        refine wp_iload (atd dX12_trial 39 rfl) rfl ?_
        refine wp_cVi hdd [_, _] (atd dX12_trial 40 rfl) iX12_bestRow lX12_305 rfl rfl (Nat.le_of_ble_eq_true rfl) hM.1.1 rfl (eX12_bestRow (cg := cgF nb h kd (rowsL h n)) (by omega) hM.self ((hfa 32 (by decide)).trans h32) hR9 hi hpn hn hCG hr hrb hX hex) (fun r_73 s_73 h_73 => ?_)
        obtain ⟨rfl, rfl⟩ := h_73
        rw [show brF (cgF nb h kd (rowsL h n) i) (fun j => rwt nb n kd h (rowsL h n) w j p) (rowsL h n).length = brT nb n kd h w i p from rfl]
        refine wp_istore (atd dX12_trial 41 rfl) (Nat.le_of_ble_eq_true rfl) ?_
        refine wp_iincN (c := 1) (atd dX12_trial 42 rfl) rfl ?_
        refine wp_aload_n (atd dX12_trial 43 rfl) rfl rfl ?_
        refine wp_get fX12_51 (atd dX12_trial 44 rfl) hM.1.1 rfl ?_
        refine wp_iload (atd dX12_trial 45 rfl) rfl ?_
        refine wp_ialdN (atd dX12_trial 46 rfl) hM.a12 (show _ < 165 from by omega) (Nat.le_of_ble_eq_true rfl) ?_
        rw [hst _ hbl]
        refine wp_iload (atd dX12_trial 47 rfl) rfl ?_
        refine wp_cSi hdd [_, _] (atd dX12_trial 48 rfl) iX12_isOf lX12_149 rfl rfl (Nat.le_of_ble_eq_true rfl) (eX12_isOf (by omega) (by omega) (by omega)) (fun r_90 s_90 h_90 => ?_)
        obtain ⟨rfl, rfl⟩ := h_90
        refine wp_ifB_ne (tgt := 46) (atd dX12_trial 49 rfl) (by decide) (fun c_93 => ?_) (fun c_93 => ?_)
        ·
          exact ih _ α _ p (t + 1) _ _ hM hfa hbl hpn (by omega) (by rw [← hv, trL, if_neg (show ¬ stT n h i p = true from c_58), if_pos (show stT n h (brT nb n kd h w i p) p = true from c_93)])
        ·
          refine wp_aload_n (atd dX12_trial 50 rfl) rfl rfl ?_
          refine wp_iload_n (atd dX12_trial 51 rfl) rfl ?_
          refine wp_aload_n (atd dX12_trial 52 rfl) rfl rfl ?_
          refine wp_get fX12_51 (atd dX12_trial 53 rfl) hM.1.1 rfl ?_
          refine wp_iload (atd dX12_trial 54 rfl) rfl ?_
          refine wp_ialdN (atd dX12_trial 55 rfl) hM.a12 (show _ < 165 from by omega) (Nat.le_of_ble_eq_true rfl) ?_
          rw [hst _ hbl]
          refine wp_iload (atd dX12_trial 56 rfl) rfl ?_
          refine wp_cVi hdd [_, _, _] (atd dX12_trial 57 rfl) iX12_runs lX12_259 rfl rfl (Nat.le_of_ble_eq_true rfl) hM.1.1 rfl (eX12_runs (by omega) hM.self hp hn hb hw hkd hpn) (fun r_107 s_107 h_107 => ?_)
          obtain ⟨rfl, rfl⟩ := h_107
          have hrl := rns_lt hw n kd (std h (rowAt (rowsL h n) (brT nb n kd h w i p))) p
          have hcb := cnt_pos_le _ hrl
          have hc0 : 0 < cnt (rns nb n kd (std h (rowAt (rowsL h n) (brT nb n kd h w i p))) p) := hcb.1 (fun z => by have := rns_self hN (kd := kd) (hs := std h (rowAt (rowsL h n) (brT nb n kd h w i p))) hpn; rw [z] at this; simp at this)
          refine wp_istore (atd dX12_trial 58 rfl) (Nat.le_of_ble_eq_true rfl) ?_
          refine wp_aload_n (atd dX12_trial 59 rfl) rfl rfl ?_
          refine wp_iload (atd dX12_trial 60 rfl) rfl ?_
          refine wp_cSi hdd [_] (atd dX12_trial 61 rfl) iX12_many lX12_188 rfl rfl (Nat.le_of_ble_eq_true rfl) (eX12_many (by omega) (by omega)) (fun r_115 s_115 h_115 => ?_)
          obtain ⟨rfl, rfl⟩ := h_115
          refine wp_cVi hdd [_] (atd dX12_trial 62 rfl) iX12_drawn lX12_302 rfl rfl (Nat.le_of_ble_eq_true rfl) hM.1.1 rfl (eX12_drawn (by omega) hM.self hc0 (by omega)) (fun r_118 s_118 h_118 => ?_)
          obtain ⟨rfl, hM1⟩ := h_118
          have hM := hM.trans hM1
          refine wp_istore (atd dX12_trial 63 rfl) (Nat.le_of_ble_eq_true rfl) ?_
          refine wp_iconst (v := nI 0) (atd dX12_trial 64 rfl) (by decide) ?_
          refine wp_istore (atd dX12_trial 65 rfl) (Nat.le_of_ble_eq_true rfl) ?_
          have hdl : drN (nxS (α 38)) (cnt (rns nb n kd (std h (rowAt (rowsL h n) (brT nb n kd h w i p))) p)) < cnt (rns nb n kd (std h (rowAt (rowsL h n) (brT nb n kd h w i p))) p) := Nat.mod_lt _ hc0
          have hkb := kth_bit (rns nb n kd (std h (rowAt (rowsL h n) (brT nb n kd h w i p))) p) 9 0 _ hdl
          refine lX12_trialD (v := drT nb n kd h (brT nb n kd h w i p) p (nxS (α 38))) (by omega) hrl (fun e8 => ?_) 9 0 _ (by omega) hdl (by omega) rfl
          refine wp_goto (tgt := 46) (atd dX12_trial 84 rfl) (by decide) ?_
          exact ih _ _ _ _ (t + 1) _ _ hM (hfa.up (by decide)) hbl (bit_ltn (rns_lt2 hN hpn) hkb.1) (by omega) (by rw [← hv, trL, if_neg (show ¬ stT n h i p = true from c_58), if_neg (show ¬ stT n h (brT nb n kd h w i p) p = true from c_93)]; rfl)
theorem eX12_trial {G : Gx} {d : Nat} {σ : Hp} (hd : 7 ≤ d) {m n : Nat} {α : Nat → Int32} {B : Nat → Nat → Int32} {nb : Nat → Nat} (hM : MA σ σ m α B) (hp : α 2 = nI n) (hn : n ≤ 9) (hb : ∀ p, p < n → B 1 p = nI (nb p)) (hw : ∀ p, nb p < 512) (ho : ∀ j, j < 18 → B 8 j = nI (ordT j)) (hG : GOk α B nb n) (hN : isNet n nb) {a b c : Int32} : Cl G mX12_trial d [.ref m, .int a, .int b, .int c] σ 0 0 (pI fun r s => r = gmF a b n (fun kd h => trF nb n kd h c) (-1) ∧ GY σ s m α B nb n) := by
  obtain ⟨d0, hdd⟩ : ∃ e, d = e + 1 := ⟨d - 1, by omega⟩
  refine cl_of (by decide) (by simp [Value.category]) (Nat.le_of_ble_eq_true rfl) ?_
  show Wp G mX12_trial d 0 [.ref m, .int a, .int b, .int c, .double 0, .double 0, .double 0, .double 0, .double 0] [] σ 0 0 _
  refine wp_aload_n (atd dX12_trial 0 rfl) rfl rfl ?_
  refine wp_iconst (v := nI 0) (atd dX12_trial 1 rfl) (by decide) ?_
  refine wp_putM fX12_75 (atd dX12_trial 2 rfl) hM rfl (fun σ hM => ?_)
  refine wp_aload_n (atd dX12_trial 3 rfl) rfl rfl ?_
  refine wp_iload_n (atd dX12_trial 4 rfl) rfl ?_
  refine wp_iload_n (atd dX12_trial 5 rfl) rfl ?_
  refine wp_cVi hdd [_, _] (atd dX12_trial 6 rfl) iX12_isGame lX12_271 rfl rfl (Nat.le_of_ble_eq_true rfl) hM.1.1 rfl (eX12_isGame (by omega) hM.self hp hn) (fun r_8 s_8 h_8 => ?_)
  obtain ⟨rfl, rfl⟩ := h_8
  refine wp_ifB_ne (tgt := 16) (atd dX12_trial 7 rfl) (by decide) (fun c_11 => ?_) (fun c_11 => ?_)
  ·
    obtain ⟨kd, hkd, rfl⟩ := isP_ofB c_11.1
    obtain ⟨h, hh1, hh, rfl⟩ := isH_of c_11.2.1
    have hn1 := c_11.2.2
    refine wp_aload_n (atd dX12_trial 10 rfl) rfl rfl ?_
    refine wp_iload_n (atd dX12_trial 11 rfl) rfl ?_
    refine wp_iload_n (atd dX12_trial 12 rfl) rfl ?_
    refine wp_cVv hdd [_, _] (atd dX12_trial 13 rfl) iX12_solve lX12_265 rfl rfl (Nat.le_of_ble_eq_true rfl) hM.1.1 rfl (eX12_solve (by omega) hM.self hp hn hb hw ho hG hkd hh1 hh) (fun s_19 h_19 => ?_)
    obtain ⟨α1, B1, hM1, hfa1, hfb1, k19, k20, hGS⟩ := h_19
    have hM := hM.trans hM1
    have hR9 := rowsL_len n (by omega) h (by omega)
    have hR1 := rowsL_pos n (by omega) hn1 h (by omega) hh1
    have hp1 : α1 2 = nI n := (hfa1 2 (by decide)).trans hp
    refine wp_aload_n (atd dX12_trial 14 rfl) rfl rfl ?_
    refine wp_iload_n (atd dX12_trial 15 rfl) rfl ?_
    refine wp_putM fX12_298 (atd dX12_trial 16 rfl) hM rfl (fun σ hM => ?_)
    refine wp_aload_n (atd dX12_trial 17 rfl) rfl rfl ?_
    refine wp_cVi hdd [] (atd dX12_trial 18 rfl) iX12_startRow lX12_268 rfl rfl (Nat.le_of_ble_eq_true rfl) hM.1.1 rfl (eX12_startRow (by omega) hM.self hp1 hn hGS.2.1 hR9 hR1 hGS.2.2.2.2.1 hGS.2.2.2.2.2.2 (by omega)) (fun r_28 s_28 h_28 => ?_)
    obtain ⟨rfl, rfl⟩ := h_28
    refine wp_istore (atd dX12_trial 19 rfl) (Nat.le_of_ble_eq_true rfl) ?_
    refine wp_aload_n (atd dX12_trial 20 rfl) rfl rfl ?_
    refine wp_aload_n (atd dX12_trial 21 rfl) rfl rfl ?_
    refine wp_get fX12_78 (atd dX12_trial 22 rfl) hM.1.1 (congrArg (fun z => some (Value.int z)) hp1) ?_
    refine wp_cVi hdd [_] (atd dX12_trial 23 rfl) iX12_drawn lX12_302 rfl rfl (Nat.le_of_ble_eq_true rfl) hM.1.1 rfl (eX12_drawn (by omega) hM.self hn1 (by omega)) (fun r_38 s_38 h_38 => ?_)
    obtain ⟨rfl, hM2⟩ := h_38
    have hM := hM.trans hM2
    refine wp_istore (atd dX12_trial 24 rfl) (Nat.le_of_ble_eq_true rfl) ?_
    refine wp_iconst (v := nI 0) (atd dX12_trial 25 rfl) (by decide) ?_
    refine wp_istore (atd dX12_trial 26 rfl) (Nat.le_of_ble_eq_true rfl) ?_
    refine wp_post (lX12_trial (v := trF nb n kd h c) (by omega) hp1 hN (fun p hpn => by rw [hfb1 1 (by decide)]; exact hb p hpn) hw hkd hh hGS.2.1 hGS.2.2.1 hGS.2.2.2.1 hGS.2.2.2.2.2.1 (rwt_le hGS.2.2.2.2.2.2) (by omega) 100 _ _ _ _ 0 _ _ hM ((frm.rf.up (by decide)).up (by decide)) (srF_lt hR1) (Nat.mod_lt _ hn1) (by omega) rfl) ?_
    rintro v s ⟨r, rfl, rfl, α2, hM2, hfa2⟩
    exact ⟨_, rfl, by rw [gmF_t hkd hh1 hh hn1], α2, B1, hM2, frm_sub (frm_sub (U := [0, 19, 20, 32, 33]) (frm.up (f := α) (frm.rf (S := [0])) (by decide)) hfa1 (by decide) (by decide)) hfa2 (by decide) (by decide), hfb1, (hfa2 0 (by decide)).trans ((hfa1 0 (by decide)).trans rfl), Or.inr ⟨kd, h, hkd, hh1, hh, (hfa2 19 (by decide)).trans k19, (hfa2 20 (by decide)).trans k20, (hfa2 33 (by decide)).trans hGS.1, (hfa2 32 (by decide)).trans hGS.2.1, hGS.2.2⟩⟩
  ·
    refine wp_iconst (v := -1) (atd dX12_trial 8 rfl) (by decide) ?_
    refine wp_ireti (atd dX12_trial 9 rfl) rfl ?_
    refine ⟨by rw [gmF_f c_11], _, B, hM, frm.up frm.rf (by decide), frm.rf, rfl, hG⟩
noncomputable def hlQ (nb : Nat → Nat) (n kd h p : Nat) : Nat → Nat → Option Nat
  | 0, _ => none
  | k + 1, q => if tmF (nbt nb p q) n h kd = none then hlQ nb n kd h p k (q + 1) else some (16 * p + q)
noncomputable def hlP (nb : Nat → Nat) (n kd h : Nat) : Nat → Nat → Option Nat
  | 0, _ => none
  | k + 1, p => match hlQ nb n kd h p (n - (p + 1)) (p + 1) with
    | none => hlP nb n kd h k (p + 1)
    | some x => some x
noncomputable def hlF (nb : Nat → Nat) (n kd h : Nat) : Int32 := if h = 3 then -1 else if tmF nb n h kd = none then oI (hlP nb n kd h n 0) else -2
/-- the state behind a try of other nets -/
def GZ (σ s : Hp) (m : Nat) (α : Nat → Int32) (B : Nat → Nat → Int32) (nb : Nat → Nat) (n : Nat) : Prop := ∃ α1 B1, MA σ s m α1 B1 ∧ frm [0, 19, 20, 32, 33] α α1 ∧ frm [1, 7, 9, 10, 11, 12] B B1 ∧ α1 0 = nI 0 ∧ (∀ p, p < n → B1 1 p = nI (nb p)) ∧ GOk α1 B1 nb n
theorem lX12_helpsQ {G : Gx} {d : Nat} {P : Int32 → Hp → Prop} {σ0 : Hp} {m n kd h : Nat} {α0 : Nat → Int32} {B0 : Nat → Nat → Int32} {nb : Nat → Nat} (hd : 7 ≤ d) (hp0 : α0 2 = nI n) (hn : n ≤ 9) (hw : ∀ p, nb p < 512) (ho0 : ∀ j, j < 18 → B0 8 j = nI (ordT j)) (hkd : kd < 3) (hh1 : 1 ≤ h) (hh : h ≤ 3) (hn1 : 1 ≤ n) {p : Nat} {v : Option Nat} (hpn : p < n) (hk : ∀ (σ : Hp) (α : Nat → Int32) (B : Nat → Nat → Int32) (e4 e5 : Value), MA σ0 σ m α B → frm [0, 19, 20, 32, 33] α0 α → frm [1, 7, 9, 10, 11, 12] B0 B → α 0 = nI 0 → (∀ p, p < n → B 1 p = nI (nb p)) → GOk α B nb n → v = none → Wp G mX12_helps d 106 [.ref m, .int (nI kd), .int (nI h), .int (nI p), e4, e5] [] σ 0 0 (pI P)) (hq : ∀ (σ : Hp) (α : Nat → Int32) (B : Nat → Nat → Int32) (x : Nat), MA σ0 σ m α B → frm [0, 19, 20, 32, 33] α0 α → frm [1, 7, 9, 10, 11, 12] B0 B → α 0 = nI 0 → (∀ p, p < n → B 1 p = nI (nb p)) → GOk α B nb n → v = some x → P (nI x) σ) : ∀ (k : Nat) (σ : Hp) (α : Nat → Int32) (B : Nat → Nat → Int32) (q : Nat) (e5 : Value), MA σ0 σ m α B → frm [0, 19, 20, 32, 33] α0 α → frm [1, 7, 9, 10, 11, 12] B0 B → α 0 = nI 0 → (∀ p, p < n → B 1 p = nI (nb p)) → GOk α B nb n → q + k = n → p < q → hlQ nb n kd h p k q = v → Wp G mX12_helps d 48 [.ref m, .int (nI kd), .int (nI h), .int (nI p), .int (nI q), e5] [] σ 0 0 (pI P) := by
  obtain ⟨d0, hdd⟩ : ∃ e, d = e + 1 := ⟨d - 1, by omega⟩
  intro k
  induction k with
  | zero =>
    intro σ α B q e5 hM hfa hfb h0 hb hG hqn hpq hv
    have hp : α 2 = nI n := (hfa 2 (by decide)).trans hp0
    have ho : ∀ j, j < 18 → B 8 j = nI (ordT j) := fun j hj => by rw [hfb 8 (by decide)]; exact ho0 j hj
    refine wp_iload (atd dX12_helps 30 rfl) rfl ?_
    refine wp_aload_n (atd dX12_helps 31 rfl) rfl rfl ?_
    refine wp_get fX12_78 (atd dX12_helps 32 rfl) hM.1.1 (congrArg (fun z => some (Value.int z)) hp) ?_
    refine wp_icmpN_ge (tgt := 106) (atd dX12_helps 33 rfl) (by decide) (by omega) (by omega) (fun c_54 => ?_) (fun c_54 => ?_)
    ·
      exact hk _ α B _ _ hM hfa hfb h0 hb hG hv.symm
    · exfalso; omega
  | succ k ih =>
    intro σ α B q e5 hM hfa hfb h0 hb hG hqn hpq hv
    have hp : α 2 = nI n := (hfa 2 (by decide)).trans hp0
    have ho : ∀ j, j < 18 → B 8 j = nI (ordT j) := fun j hj => by rw [hfb 8 (by decide)]; exact ho0 j hj
    refine wp_iload (atd dX12_helps 30 rfl) rfl ?_
    refine wp_aload_n (atd dX12_helps 31 rfl) rfl rfl ?_
    refine wp_get fX12_78 (atd dX12_helps 32 rfl) hM.1.1 (congrArg (fun z => some (Value.int z)) hp) ?_
    refine wp_icmpN_ge (tgt := 106) (atd dX12_helps 33 rfl) (by decide) (by omega) (by omega) (fun c_54 => ?_) (fun c_54 => ?_)
    · exfalso; omega
    ·
      refine wp_aload_n (atd dX12_helps 34 rfl) rfl rfl ?_
      refine wp_iload_n (atd dX12_helps 35 rfl) rfl ?_
      refine wp_iload (atd dX12_helps 36 rfl) rfl ?_
      refine wp_cVv hdd [_, _] (atd dX12_helps 37 rfl) iX12_turns lX12_308 rfl rfl (Nat.le_of_ble_eq_true rfl) hM.1.1 rfl (eX12_turns (by omega) hM.self hp hn hb hw (p := p) (q := q) (by omega) (by omega) (by omega)) (fun s_61 h_61 => ?_)
      obtain ⟨B1, hM1, hfb1, hb1⟩ := h_61
      have hM := hM.trans hM1
      refine wp_aload_n (atd dX12_helps 38 rfl) rfl rfl ?_
      refine wp_iload_n (atd dX12_helps 39 rfl) rfl ?_
      refine wp_iload_n (atd dX12_helps 40 rfl) rfl ?_
      refine wp_cVi hdd [_, _] (atd dX12_helps 41 rfl) iX12_timeOf lX12_274 rfl rfl (Nat.le_of_ble_eq_true rfl) hM.1.1 rfl (eX12_timeOf (by omega) (nb := nbt nb p q) hM.self hp hn hb1 (nbt_lt hw (by omega) (by omega)) (fun j hj => by rw [hfb1 8 (by decide)]; exact ho j hj) (Or.inl rfl) hkd hh1 hh hn1) (fun r_67 s_67 h_67 => ?_)
      obtain ⟨rfl, α2, B2, hM2, hfa2, hfb2, k19, k20, hGS⟩ := h_67
      have hM := hM.trans hM2
      generalize hx : tmF (nbt nb p q) n h kd = xx; rcases xx with _ | x
      ·
        refine wp_if_lt (tgt := 77) (atd dX12_helps 42 rfl) (by decide) (fun c_70 => ?_) (fun c_70 => ?_)
        ·
          refine wp_iconst (v := nI 0) (atd dX12_helps 45 rfl) (by decide) ?_
          refine wp_istore (atd dX12_helps 46 rfl) (Nat.le_of_ble_eq_true rfl) ?_
          refine wp_aload_n (atd dX12_helps 47 rfl) rfl rfl ?_
          refine wp_iload_n (atd dX12_helps 48 rfl) rfl ?_
          refine wp_iload (atd dX12_helps 49 rfl) rfl ?_
          refine wp_cVv hdd [_, _] (atd dX12_helps 50 rfl) iX12_turns lX12_308 rfl rfl (Nat.le_of_ble_eq_true rfl) hM.1.1 rfl (eX12_turns (by omega) hM.self ((hfa2 2 (by decide)).trans hp) hn (nb := nbt nb p q) (fun x hx => by rw [hfb2 1 (by decide)]; exact hb1 x hx) (nbt_lt hw (by omega) (by omega)) (p := p) (q := q) (by omega) (by omega) (by omega)) (fun s_84 h_84 => ?_)
          obtain ⟨B3, hM3, hfb3, hb3⟩ := h_84
          have hM := hM.trans hM3
          rw [nbt_nbt (by omega)] at hb3
          refine wp_iload (atd dX12_helps 51 rfl) rfl ?_
          refine wp_ifN_eq (tgt := 100) (atd dX12_helps 52 rfl) (by decide) (by omega) (fun c_89 => ?_) (fun c_89 => ?_)
          ·
            refine wp_iincN (c := 1) (atd dX12_helps 59 rfl) rfl ?_
            refine wp_goto (tgt := 48) (atd dX12_helps 60 rfl) (by decide) ?_
            exact ih _ _ _ (q + 1) _ hM ((frm_sub (frm_sub (U := [0, 19, 20, 32, 33]) hfa ((frm.rf (S := [19])).up (by decide)) (by decide) (by decide)) hfa2 (by decide) (by decide)).up (by decide)) (frm_sub (frm_sub (U := [1, 7, 9, 10, 11, 12]) (frm_sub (U := [1, 7, 9, 10, 11, 12]) hfb hfb1 (by decide) (by decide)) hfb2 (by decide) (by decide)) hfb3 (by decide) (by decide)) ((hfa2 0 (by decide)).trans h0) hb3 (Or.inl rfl) (by omega) (by omega) (by rw [← hv, hlQ, if_pos hx])
          · exact absurd c_89 (by decide)
        · exact absurd (by decide) c_70
      ·
        have hx9 := tmF_le hGS (rowsL_pos n (by omega) hn1 h (by omega) hh1) x hx
        refine wp_ifN_lt (tgt := 77) (atd dX12_helps 42 rfl) (by decide) (by omega) ?_
        refine wp_iconst (v := nI 1) (atd dX12_helps 43 rfl) (by decide) ?_
        refine wp_goto (tgt := 78) (atd dX12_helps 44 rfl) (by decide) ?_
        refine wp_istore (atd dX12_helps 46 rfl) (Nat.le_of_ble_eq_true rfl) ?_
        refine wp_aload_n (atd dX12_helps 47 rfl) rfl rfl ?_
        refine wp_iload_n (atd dX12_helps 48 rfl) rfl ?_
        refine wp_iload (atd dX12_helps 49 rfl) rfl ?_
        refine wp_cVv hdd [_, _] (atd dX12_helps 50 rfl) iX12_turns lX12_308 rfl rfl (Nat.le_of_ble_eq_true rfl) hM.1.1 rfl (eX12_turns (by omega) hM.self ((hfa2 2 (by decide)).trans hp) hn (nb := nbt nb p q) (fun x hx => by rw [hfb2 1 (by decide)]; exact hb1 x hx) (nbt_lt hw (by omega) (by omega)) (p := p) (q := q) (by omega) (by omega) (by omega)) (fun s_84 h_84 => ?_)
        obtain ⟨B3, hM3, hfb3, hb3⟩ := h_84
        have hM := hM.trans hM3
        rw [nbt_nbt (by omega)] at hb3
        refine wp_iload (atd dX12_helps 51 rfl) rfl ?_
        refine wp_ifN_eq (tgt := 100) (atd dX12_helps 52 rfl) (by decide) (by omega) (fun c_89 => ?_) (fun c_89 => ?_)
        · exact absurd c_89 (by decide)
        ·
          refine wp_bipush (v := nI 16) (atd dX12_helps 53 rfl) (by decide) ?_
          refine wp_iload_n (atd dX12_helps 54 rfl) rfl ?_
          refine wp_imulN (atd dX12_helps 55 rfl) ?_
          refine wp_iload (atd dX12_helps 56 rfl) rfl ?_
          refine wp_iaddN (atd dX12_helps 57 rfl) ?_
          refine wp_ireti (atd dX12_helps 58 rfl) rfl ?_
          exact hq _ _ _ (16 * p + q) hM ((frm_sub (frm_sub (U := [0, 19, 20, 32, 33]) hfa ((frm.rf (S := [19])).up (by decide)) (by decide) (by decide)) hfa2 (by decide) (by decide)).up (by decide)) (frm_sub (frm_sub (U := [1, 7, 9, 10, 11, 12]) (frm_sub (U := [1, 7, 9, 10, 11, 12]) hfb hfb1 (by decide) (by decide)) hfb2 (by decide) (by decide)) hfb3 (by decide) (by decide)) ((hfa2 0 (by decide)).trans h0) hb3 (Or.inl rfl) (by rw [← hv, hlQ, if_neg (by rw [hx]; exact fun z => by cases z)])
theorem oX12_helps {G : Gx} {d : Nat} {σ0 : Hp} {m n kd h : Nat} {α0 : Nat → Int32} {B0 : Nat → Nat → Int32} {nb : Nat → Nat} (hd : 7 ≤ d) (hp0 : α0 2 = nI n) (hn : n ≤ 9) (hw : ∀ p, nb p < 512) (ho0 : ∀ j, j < 18 → B0 8 j = nI (ordT j)) (hkd : kd < 3) (hh1 : 1 ≤ h) (hh : h ≤ 3) (hn1 : 1 ≤ n) {v : Option Nat} : ∀ (k : Nat) (σ : Hp) (α : Nat → Int32) (B : Nat → Nat → Int32) (p : Nat) (e4 e5 : Value), MA σ0 σ m α B → frm [0, 19, 20, 32, 33] α0 α → frm [1, 7, 9, 10, 11, 12] B0 B → α 0 = nI 0 → (∀ p, p < n → B 1 p = nI (nb p)) → GOk α B nb n → p + k = n → hlP nb n kd h k p = v → Wp G mX12_helps d 35 [.ref m, .int (nI kd), .int (nI h), .int (nI p), e4, e5] [] σ 0 0 (pI fun r s => r = oI v ∧ GZ σ0 s m α0 B0 nb n) := by
  intro k
  induction k with
  | zero =>
    intro σ α B p e4 e5 hM hfa hfb h0 hb hG hpn hv
    have hp : α 2 = nI n := (hfa 2 (by decide)).trans hp0
    have ho : ∀ j, j < 18 → B 8 j = nI (ordT j) := fun j hj => by rw [hfb 8 (by decide)]; exact ho0 j hj
    refine wp_iload_n (atd dX12_helps 22 rfl) rfl ?_
    refine wp_aload_n (atd dX12_helps 23 rfl) rfl rfl ?_
    refine wp_get fX12_78 (atd dX12_helps 24 rfl) hM.1.1 (congrArg (fun z => some (Value.int z)) hp) ?_
    refine wp_icmpN_ge (tgt := 112) (atd dX12_helps 25 rfl) (by decide) (by omega) (by omega) (fun c_40 => ?_) (fun c_40 => ?_)
    ·
      refine wp_iconst (v := -1) (atd dX12_helps 63 rfl) (by decide) ?_
      refine wp_ireti (atd dX12_helps 64 rfl) rfl ?_
      exact ⟨by rw [← hv]; rfl, α, B, hM, hfa, hfb, h0, hb, hG⟩
    · exfalso; omega
  | succ k ih =>
    intro σ α B p e4 e5 hM hfa hfb h0 hb hG hpn hv
    have hp : α 2 = nI n := (hfa 2 (by decide)).trans hp0
    have ho : ∀ j, j < 18 → B 8 j = nI (ordT j) := fun j hj => by rw [hfb 8 (by decide)]; exact ho0 j hj
    generalize hg : hlQ nb n kd h p (n - (p + 1)) (p + 1) = g
    refine wp_iload_n (atd dX12_helps 22 rfl) rfl ?_
    refine wp_aload_n (atd dX12_helps 23 rfl) rfl rfl ?_
    refine wp_get fX12_78 (atd dX12_helps 24 rfl) hM.1.1 (congrArg (fun z => some (Value.int z)) hp) ?_
    refine wp_icmpN_ge (tgt := 112) (atd dX12_helps 25 rfl) (by decide) (by omega) (by omega) (fun c_40 => ?_) (fun c_40 => ?_)
    · exfalso; omega
    ·
      refine wp_iload_n (atd dX12_helps 26 rfl) rfl ?_
      refine wp_iconst (v := nI 1) (atd dX12_helps 27 rfl) (by decide) ?_
      refine wp_iaddN (atd dX12_helps 28 rfl) ?_
      refine wp_istore (atd dX12_helps 29 rfl) (Nat.le_of_ble_eq_true rfl) ?_
      refine lX12_helpsQ (v := g) hd hp0 hn hw ho0 hkd hh1 hh hn1 (p := p) (by omega) (fun σ α B e4 e5 hM hfa hfb h0 hb hG hz => ?_) (fun σ α B x hM hfa hfb h0 hb hG hz => ⟨by rw [← hv, hlP, hg, hz]; rfl, α, B, hM, hfa, hfb, h0, hb, hG⟩) (n - (p + 1)) _ α B (p + 1) _ hM hfa hfb h0 hb hG (by omega) (by omega) hg
      refine wp_iincN (c := 1) (atd dX12_helps 61 rfl) rfl ?_
      refine wp_goto (tgt := 35) (atd dX12_helps 62 rfl) (by decide) ?_
      exact ih _ α B (p + 1) _ _ hM hfa hfb h0 hb hG (by omega) (by rw [← hv, hlP, hg, hz])
theorem eX12_helps {G : Gx} {d : Nat} {σ : Hp} (hd : 7 ≤ d) {m n : Nat} {α : Nat → Int32} {B : Nat → Nat → Int32} {nb : Nat → Nat} (hM : MA σ σ m α B) (hp : α 2 = nI n) (hn : n ≤ 9) (hb : ∀ p, p < n → B 1 p = nI (nb p)) (hw : ∀ p, nb p < 512) (ho : ∀ j, j < 18 → B 8 j = nI (ordT j)) (hG : GOk α B nb n) {a b : Int32} : Cl G mX12_helps d [.ref m, .int a, .int b] σ 0 0 (pI fun r s => r = gmF a b n (fun kd h => hlF nb n kd h) (-1) ∧ GZ σ s m α B nb n) := by
  obtain ⟨d0, hdd⟩ : ∃ e, d = e + 1 := ⟨d - 1, by omega⟩
  refine cl_of (by decide) (by simp [Value.category]) (Nat.le_of_ble_eq_true rfl) ?_
  show Wp G mX12_helps d 0 [.ref m, .int a, .int b, .double 0, .double 0, .double 0] [] σ 0 0 _
  refine wp_aload_n (atd dX12_helps 0 rfl) rfl rfl ?_
  refine wp_iconst (v := nI 0) (atd dX12_helps 1 rfl) (by decide) ?_
  refine wp_putM fX12_75 (atd dX12_helps 2 rfl) hM rfl (fun σ hM => ?_)
  refine wp_aload_n (atd dX12_helps 3 rfl) rfl rfl ?_
  refine wp_iload_n (atd dX12_helps 4 rfl) rfl ?_
  refine wp_iload_n (atd dX12_helps 5 rfl) rfl ?_
  refine wp_cVi hdd [_, _] (atd dX12_helps 6 rfl) iX12_isGame lX12_271 rfl rfl (Nat.le_of_ble_eq_true rfl) hM.1.1 rfl (eX12_isGame (by omega) hM.self hp hn) (fun r_8 s_8 h_8 => ?_)
  obtain ⟨rfl, rfl⟩ := h_8
  refine wp_ifB_eq (tgt := 19) (atd dX12_helps 7 rfl) (by decide) (fun c_11 => ?_) (fun c_11 => ?_)
  ·
    refine wp_iconst (v := -1) (atd dX12_helps 11 rfl) (by decide) ?_
    refine wp_ireti (atd dX12_helps 12 rfl) rfl ?_
    exact ⟨by rw [gmF_f c_11], _, B, hM, frm.rf.up (by decide), frm.rf, rfl, hb, hG⟩
  ·
    obtain ⟨kd, hkd, rfl⟩ := isP_ofB c_11.1
    obtain ⟨h, hh1, hh, rfl⟩ := isH_of c_11.2.1
    have hn1 := c_11.2.2
    refine wp_iload_n (atd dX12_helps 8 rfl) rfl ?_
    refine wp_iconst (v := nI 3) (atd dX12_helps 9 rfl) (by decide) ?_
    refine wp_icmpN_ne (tgt := 21) (atd dX12_helps 10 rfl) (by decide) (by omega) (by omega) (fun c_16 => ?_) (fun c_16 => ?_)
    ·
      refine wp_aload_n (atd dX12_helps 13 rfl) rfl rfl ?_
      refine wp_iload_n (atd dX12_helps 14 rfl) rfl ?_
      refine wp_iload_n (atd dX12_helps 15 rfl) rfl ?_
      refine wp_cVi hdd [_, _] (atd dX12_helps 16 rfl) iX12_timeOf lX12_274 rfl rfl (Nat.le_of_ble_eq_true rfl) hM.1.1 rfl (eX12_timeOf (by omega) hM.self hp hn hb hw ho hG hkd hh1 hh hn1) (fun r_24 s_24 h_24 => ?_)
      obtain ⟨rfl, α1, B1, hM1, hfa1, hfb1, k19, k20, hGS⟩ := h_24
      have hM := hM.trans hM1
      generalize hx : tmF nb n h kd = xx; rcases xx with _ | x
      ·
        refine wp_if_lt (tgt := 33) (atd dX12_helps 17 rfl) (by decide) (fun c_27 => ?_) (fun c_27 => ?_)
        ·
          refine wp_iconst (v := nI 0) (atd dX12_helps 20 rfl) (by decide) ?_
          refine wp_istore_n (atd dX12_helps 21 rfl) (Nat.le_of_ble_eq_true rfl) ?_
          refine wp_post (oX12_helps (v := hlP nb n kd h n 0) (α0 := α) (B0 := B) (by omega) hp hn hw ho hkd hh1 hh hn1 n _ α1 B1 0 _ _ hM (frm_sub (frm.up (f := α) (frm.rf (S := [0])) (by decide)) hfa1 (by decide) (by decide)) (hfb1.mono (by decide)) ((hfa1 0 (by decide)).trans rfl) (fun p hpn => by rw [hfb1 1 (by decide)]; exact hb p hpn) (Or.inr ⟨kd, h, hkd, hh1, hh, k19, k20, hGS⟩) (by omega) rfl) ?_
          rintro v s ⟨r, rfl, rfl, hz⟩
          exact ⟨_, rfl, by rw [gmF_t hkd hh1 hh hn1]; unfold hlF; rw [if_neg c_16, if_pos hx], hz⟩
        · exact absurd (by decide) c_27
      ·
        have hx9 := tmF_le hGS (rowsL_pos n (by omega) hn1 h (by omega) hh1) x hx
        refine wp_ifN_lt (tgt := 33) (atd dX12_helps 17 rfl) (by decide) (by omega) ?_
        refine wp_bipush (v := -2) (atd dX12_helps 18 rfl) (by decide) ?_
        refine wp_ireti (atd dX12_helps 19 rfl) rfl ?_
        exact ⟨by rw [gmF_t hkd hh1 hh hn1]; unfold hlF; rw [if_neg c_16, if_neg (by rw [hx]; exact fun z => by cases z)], ⟨α1, B1, hM, frm_sub (frm.up (f := α) (frm.rf (S := [0])) (by decide)) hfa1 (by decide) (by decide), hfb1.mono (by decide), (hfa1 0 (by decide)).trans rfl, fun p hpn => by rw [hfb1 1 (by decide)]; exact hb p hpn, Or.inr ⟨kd, h, hkd, hh1, hh, k19, k20, hGS⟩⟩⟩
    ·
      refine wp_iconst (v := -1) (atd dX12_helps 11 rfl) (by decide) ?_
      refine wp_ireti (atd dX12_helps 12 rfl) rfl ?_
      exact ⟨by rw [gmF_t hkd hh1 hh hn1]; unfold hlF; rw [if_pos c_16], _, B, hM, frm.rf.up (by decide), frm.rf, rfl, hb, hG⟩
