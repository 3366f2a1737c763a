def lbG (cg : Nat → Bool) (r : Nat → Option Nat) (j : Nat) (b : Option Nat) : Option Nat := if cg j = true then (match r j with
  | none => b
  | some x => (match b with
    | none => some x
    | some y => if x < y then some x else some y)) else b
def gtG (w : Nat → Option Nat) (p : Nat) (b : Option Nat) : Option Nat := match w p with
  | none => none
  | some x => (match b with
    | none => none
    | some y => some (mxN y x))
def gtF (w : Nat → Nat → Option Nat) (n i : Nat) : Option Nat := fl (gtG (w i)) n 0 (some 0)
def srG (g : Nat → Option Nat) (i b : Nat) : Nat := match g i with
  | none => b
  | some x => (match g b with
    | none => i
    | some y => if x < y then i else b)
def srF (w : Nat → Nat → Option Nat) (n R : Nat) : Nat := fl (srG (gtF w n)) (R - 1) 1 0
theorem gtF_le {w : Nat → Nat → Option Nat} {R n X i : Nat} (hW : WB w R n X) (hi : i < R) : ∀ y, gtF w n i = some y → y ≤ X := by
  have h : ∀ (k p : Nat) (b : Option Nat), p + k ≤ n → (∀ y, b = some y → y ≤ X) → ∀ y, fl (gtG (w i)) k p b = some y → y ≤ X := by
    intro k
    induction k with
    | zero => intro p b _ hb y e; exact hb y e
    | succ k ih =>
      intro p b hp hb y e
      refine ih (p + 1) (gtG (w i) p b) (by omega) (fun z hz => ?_) y e
      unfold gtG at hz
      cases hx : w i p with
      | none => rw [hx] at hz; cases hz
      | some x =>
        rw [hx] at hz
        cases b with
        | none => cases hz
        | some y0 =>
          cases hz
          have h1 := hb y0 rfl
          have h2 := hW i p x hi (by omega) hx
          unfold mxN
          split <;> omega
  exact h n 0 (some 0) (by omega) (fun y hy => by cases hy; omega)
theorem lX12_leastBehind {G : Gx} {d : Nat} {σ : Hp} {v : Option Nat} {m n X : Nat} {α : Nat → Int32} {B : Nat → Nat → Int32} {R : Nat} (hM : MA σ σ m α B) {i p : Nat} {cg : Nat → Nat → Bool} {r : Nat → Nat → Option Nat} (h32 : α 32 = nI R) (hR9 : R ≤ 165) (hi : i < R) (hpn : p < n) (hn : n ≤ 9) (hcg : ∀ x y, x < R → y < R → B 9 (165 * x + y) = bI (cg x y = true)) (hr : WT B 11 r R n) (hrb : WB r R n X) (hX : X < 100000) : ∀ (k : Nat) (j : Nat) (b : Option Nat) (e5 : Value), j + k = R → (∀ y, b = some y → y ≤ X) → fl (lbG (cg i) (fun j => r j p)) k j b = v → Wp G mX12_leastBehind d 5 [.ref m, .int (nI i), .int (nI p), .int (oI b), .int (nI j), e5] [] σ 0 0 (pI fun r s => r = oI v ∧ s = σ) := by
  intro k
  induction k with
  | zero =>
    intro j b e5 h2 hb9 hv
    refine wp_iload (atd dX12_leastBehind 4 rfl) rfl ?_
    refine wp_aload_n (atd dX12_leastBehind 5 rfl) rfl rfl ?_
    refine wp_get fX12_234 (atd dX12_leastBehind 6 rfl) hM.1.1 (congrArg (fun z => some (Value.int z)) h32) ?_
    refine wp_icmpN_ge (tgt := 76) (atd dX12_leastBehind 7 rfl) (by decide) (by omega) (by omega) (fun c_11 => ?_) (fun c_11 => ?_)
    ·
      refine wp_iload_n (atd dX12_leastBehind 41 rfl) rfl ?_
      refine wp_ireti (atd dX12_leastBehind 42 rfl) rfl ?_
      exact ⟨by rw [← hv]; rfl, rfl⟩
    · exfalso; omega
  | succ k ih =>
    intro j b e5 h2 hb9 hv
    refine wp_iload (atd dX12_leastBehind 4 rfl) rfl ?_
    refine wp_aload_n (atd dX12_leastBehind 5 rfl) rfl rfl ?_
    refine wp_get fX12_234 (atd dX12_leastBehind 6 rfl) hM.1.1 (congrArg (fun z => some (Value.int z)) h32) ?_
    refine wp_icmpN_ge (tgt := 76) (atd dX12_leastBehind 7 rfl) (by decide) (by omega) (by omega) (fun c_11 => ?_) (fun c_11 => ?_)
    · exfalso; omega
    ·
      refine wp_aload_n (atd dX12_leastBehind 8 rfl) rfl rfl ?_
      refine wp_get fX12_41 (atd dX12_leastBehind 9 rfl) hM.1.1 rfl ?_
      refine wp_sipush (v := nI 165) (atd dX12_leastBehind 10 rfl) (by decide) ?_
      refine wp_iload_n (atd dX12_leastBehind 11 rfl) rfl ?_
      refine wp_imulN (atd dX12_leastBehind 12 rfl) ?_
      refine wp_iload (atd dX12_leastBehind 13 rfl) rfl ?_
      refine wp_iaddN (atd dX12_leastBehind 14 rfl) ?_
      refine wp_zaldN (atd dX12_leastBehind 15 rfl) hM.a9 (show _ < 27225 from by omega) (Nat.le_of_ble_eq_true rfl) ?_
      rw [hcg i j hi (by omega)]
      refine wp_ifB_eq (tgt := 45) (atd dX12_leastBehind 16 rfl) (by decide) (fun c_27 => ?_) (fun c_27 => ?_)
      ·
        refine wp_iconst (v := -1) (atd dX12_leastBehind 26 rfl) (by decide) ?_
        refine wp_istore (atd dX12_leastBehind 27 rfl) (Nat.le_of_ble_eq_true rfl) ?_
        refine wp_iload (atd dX12_leastBehind 28 rfl) rfl ?_
        refine wp_if_lt (tgt := 68) (atd dX12_leastBehind 29 rfl) (by decide) (fun c_50 => ?_) (fun c_50 => ?_)
        ·
          refine wp_iload_n (atd dX12_leastBehind 37 rfl) rfl ?_
          refine wp_istore_n (atd dX12_leastBehind 38 rfl) (Nat.le_of_ble_eq_true rfl) ?_
          refine wp_iincN (c := 1) (atd dX12_leastBehind 39 rfl) rfl ?_
          refine wp_goto (tgt := 5) (atd dX12_leastBehind 40 rfl) (by decide) ?_
          exact ih (j + 1) b _ (by omega) hb9 (by rw [← hv]; simp [fl, lbG, c_27])
        · exact absurd (by decide) c_50
      ·
        refine wp_aload_n (atd dX12_leastBehind 17 rfl) rfl rfl ?_
        refine wp_get fX12_48 (atd dX12_leastBehind 18 rfl) hM.1.1 rfl ?_
        refine wp_bipush (v := nI 9) (atd dX12_leastBehind 19 rfl) (by decide) ?_
        refine wp_iload (atd dX12_leastBehind 20 rfl) rfl ?_
        refine wp_imulN (atd dX12_leastBehind 21 rfl) ?_
        refine wp_iload_n (atd dX12_leastBehind 22 rfl) rfl ?_
        refine wp_iaddN (atd dX12_leastBehind 23 rfl) ?_
        refine wp_ialdN (atd dX12_leastBehind 24 rfl) hM.a11 (show _ < 1485 from by omega) (Nat.le_of_ble_eq_true rfl) ?_
        rw [hr j p (by omega) hpn]
        generalize hx : r j p = xx; rcases xx with _ | x
        ·
          refine wp_goto (tgt := 46) (atd dX12_leastBehind 25 rfl) (by decide) ?_
          refine wp_istore (atd dX12_leastBehind 27 rfl) (Nat.le_of_ble_eq_true rfl) ?_
          refine wp_iload (atd dX12_leastBehind 28 rfl) rfl ?_
          refine wp_if_lt (tgt := 68) (atd dX12_leastBehind 29 rfl) (by decide) (fun c_50 => ?_) (fun c_50 => ?_)
          ·
            refine wp_iload_n (atd dX12_leastBehind 37 rfl) rfl ?_
            refine wp_istore_n (atd dX12_leastBehind 38 rfl) (Nat.le_of_ble_eq_true rfl) ?_
            refine wp_iincN (c := 1) (atd dX12_leastBehind 39 rfl) rfl ?_
            refine wp_goto (tgt := 5) (atd dX12_leastBehind 40 rfl) (by decide) ?_
            exact ih (j + 1) b _ (by omega) hb9 (by rw [← hv]; simp [fl, lbG, c_27, hx])
          · exact absurd (by decide) c_50
        ·
          have hx9 := hrb j p x (by omega) hpn hx
          refine wp_goto (tgt := 46) (atd dX12_leastBehind 25 rfl) (by decide) ?_
          refine wp_istore (atd dX12_leastBehind 27 rfl) (Nat.le_of_ble_eq_true rfl) ?_
          refine wp_iload (atd dX12_leastBehind 28 rfl) rfl ?_
          refine wp_ifN_lt (tgt := 68) (atd dX12_leastBehind 29 rfl) (by decide) (by omega) ?_
          rcases b with _ | y
          ·
            refine wp_iload_n (atd dX12_leastBehind 30 rfl) rfl ?_
            refine wp_if_lt (tgt := 63) (atd dX12_leastBehind 31 rfl) (by decide) (fun c_54 => ?_) (fun c_54 => ?_)
            ·
              refine wp_iload (atd dX12_leastBehind 35 rfl) rfl ?_
              refine wp_goto (tgt := 69) (atd dX12_leastBehind 36 rfl) (by decide) ?_
              refine wp_istore_n (atd dX12_leastBehind 38 rfl) (Nat.le_of_ble_eq_true rfl) ?_
              refine wp_iincN (c := 1) (atd dX12_leastBehind 39 rfl) rfl ?_
              refine wp_goto (tgt := 5) (atd dX12_leastBehind 40 rfl) (by decide) ?_
              exact ih (j + 1) (some x) _ (by omega) (by intro z hz; cases hz; omega) (by rw [← hv]; simp [fl, lbG, c_27, hx])
            · exact absurd (by decide) c_54
          ·
            have hy9 := hb9 y rfl
            refine wp_iload_n (atd dX12_leastBehind 30 rfl) rfl ?_
            refine wp_ifN_lt (tgt := 63) (atd dX12_leastBehind 31 rfl) (by decide) (by omega) ?_
            refine wp_iload (atd dX12_leastBehind 32 rfl) rfl ?_
            refine wp_iload_n (atd dX12_leastBehind 33 rfl) rfl ?_
            refine wp_icmpN_ge (tgt := 68) (atd dX12_leastBehind 34 rfl) (by decide) (by omega) (by omega) (fun c_60 => ?_) (fun c_60 => ?_)
            ·
              refine wp_iload_n (atd dX12_leastBehind 37 rfl) rfl ?_
              refine wp_istore_n (atd dX12_leastBehind 38 rfl) (Nat.le_of_ble_eq_true rfl) ?_
              refine wp_iincN (c := 1) (atd dX12_leastBehind 39 rfl) rfl ?_
              refine wp_goto (tgt := 5) (atd dX12_leastBehind 40 rfl) (by decide) ?_
              exact ih (j + 1) (some y) _ (by omega) hb9 (by rw [← hv]; simp [fl, lbG, c_27, hx, show ¬ x < y by omega])
            ·
              refine wp_iload (atd dX12_leastBehind 35 rfl) rfl ?_
              refine wp_goto (tgt := 69) (atd dX12_leastBehind 36 rfl) (by decide) ?_
              refine wp_istore_n (atd dX12_leastBehind 38 rfl) (Nat.le_of_ble_eq_true rfl) ?_
              refine wp_iincN (c := 1) (atd dX12_leastBehind 39 rfl) rfl ?_
              refine wp_goto (tgt := 5) (atd dX12_leastBehind 40 rfl) (by decide) ?_
              exact ih (j + 1) (some x) _ (by omega) (by intro z hz; cases hz; omega) (by rw [← hv]; simp [fl, lbG, c_27, hx, c_60])
def lbF (cg : Nat → Bool) (r : Nat → Option Nat) (R : Nat) : Option Nat := fl (lbG cg r) R 0 none
theorem eX12_leastBehind {G : Gx} {d : Nat} {σ : Hp} (hd : 0 ≤ d) {m n X : Nat} {α : Nat → Int32} {B : Nat → Nat → Int32} {R : Nat} (hM : MA σ σ m α B) {i p : Nat} {cg : Nat → Nat → Bool} {r : Nat → Nat → Option Nat} (h32 : α 32 = nI R) (hR9 : R ≤ 165) (hi : i < R) (hpn : p < n) (hn : n ≤ 9) (hcg : ∀ x y, x < R → y < R → B 9 (165 * x + y) = bI (cg x y = true)) (hr : WT B 11 r R n) (hrb : WB r R n X) (hX : X < 100000) : Cl G mX12_leastBehind d [.ref m, .int (nI i), .int (nI p)] σ 0 0 (pI fun v s => v = oI (lbF (cg i) (fun j => r j p) R) ∧ s = σ) := by
  refine cl_of (by decide) (by simp [Value.category]) (Nat.le_of_ble_eq_true rfl) ?_
  show Wp G mX12_leastBehind d 0 [.ref m, .int (nI i), .int (nI p), .double 0, .double 0, .double 0] [] σ 0 0 _
  refine wp_iconst (v := -1) (atd dX12_leastBehind 0 rfl) (by decide) ?_
  refine wp_istore_n (atd dX12_leastBehind 1 rfl) (Nat.le_of_ble_eq_true rfl) ?_
  refine wp_iconst (v := nI 0) (atd dX12_leastBehind 2 rfl) (by decide) ?_
  refine wp_istore (atd dX12_leastBehind 3 rfl) (Nat.le_of_ble_eq_true rfl) ?_
  exact lX12_leastBehind hM h32 hR9 hi hpn hn hcg hr hrb hX R 0 none _ (by omega) (by intro y hy; cases hy) rfl
theorem lX12_greatestOf {G : Gx} {d : Nat} {σ : Hp} {v : Option Nat} (hd : 1 ≤ d) {m n X : Nat} {α : Nat → Int32} {B : Nat → Nat → Int32} {R : Nat} (hM : MA σ σ m α B) {i : Nat} {w : Nat → Nat → Option Nat} (hp : α 2 = nI n) (hn : n ≤ 9) (hR9 : R ≤ 165) (hi : i < R) (hWT : WT B 10 w R n) (hWB : WB w R n X) (hX : X < 100000) : ∀ (k : Nat) (p : Nat) (b : Option Nat) (e4 : Value), p + k = n → (∀ y, b = some y → y ≤ X) → fl (gtG (w i)) k p b = v → Wp G mX12_greatestOf d 4 [.ref m, .int (nI i), .int (oI b), .int (nI p), e4] [] σ 0 0 (pI fun r s => r = oI v ∧ s = σ) := by
  obtain ⟨d0, hdd⟩ : ∃ e, d = e + 1 := ⟨d - 1, by omega⟩
  intro k
  induction k with
  | zero =>
    intro p b e4 h2 hb9 hv
    refine wp_iload_n (atd dX12_greatestOf 4 rfl) rfl ?_
    refine wp_aload_n (atd dX12_greatestOf 5 rfl) rfl rfl ?_
    refine wp_get fX12_78 (atd dX12_greatestOf 6 rfl) hM.1.1 (congrArg (fun z => some (Value.int z)) hp) ?_
    refine wp_icmpN_ge (tgt := 51) (atd dX12_greatestOf 7 rfl) (by decide) (by omega) (by omega) (fun c_9 => ?_) (fun c_9 => ?_)
    ·
      refine wp_iload_n (atd dX12_greatestOf 29 rfl) rfl ?_
      refine wp_ireti (atd dX12_greatestOf 30 rfl) rfl ?_
      exact ⟨by rw [← hv]; rfl, rfl⟩
    · exfalso; omega
  | succ k ih =>
    intro p b e4 h2 hb9 hv
    refine wp_iload_n (atd dX12_greatestOf 4 rfl) rfl ?_
    refine wp_aload_n (atd dX12_greatestOf 5 rfl) rfl rfl ?_
    refine wp_get fX12_78 (atd dX12_greatestOf 6 rfl) hM.1.1 (congrArg (fun z => some (Value.int z)) hp) ?_
    refine wp_icmpN_ge (tgt := 51) (atd dX12_greatestOf 7 rfl) (by decide) (by omega) (by omega) (fun c_9 => ?_) (fun c_9 => ?_)
    · exfalso; omega
    ·
      refine wp_aload_n (atd dX12_greatestOf 8 rfl) rfl rfl ?_
      refine wp_get fX12_45 (atd dX12_greatestOf 9 rfl) hM.1.1 rfl ?_
      refine wp_bipush (v := nI 9) (atd dX12_greatestOf 10 rfl) (by decide) ?_
      refine wp_iload_n (atd dX12_greatestOf 11 rfl) rfl ?_
      refine wp_imulN (atd dX12_greatestOf 12 rfl) ?_
      refine wp_iload_n (atd dX12_greatestOf 13 rfl) rfl ?_
      refine wp_iaddN (atd dX12_greatestOf 14 rfl) ?_
      refine wp_ialdN (atd dX12_greatestOf 15 rfl) hM.a10 (show _ < 1485 from by omega) (Nat.le_of_ble_eq_true rfl) ?_
      rw [hWT i p hi (by omega)]
      generalize hx : w i p = xx; rcases xx with _ | x
      ·
        refine wp_istore (atd dX12_greatestOf 16 rfl) (Nat.le_of_ble_eq_true rfl) ?_
        refine wp_iload (atd dX12_greatestOf 17 rfl) rfl ?_
        refine wp_if_lt (tgt := 34) (atd dX12_greatestOf 18 rfl) (by decide) (fun c_27 => ?_) (fun c_27 => ?_)
        ·
          refine wp_iconst (v := -1) (atd dX12_greatestOf 21 rfl) (by decide) ?_
          refine wp_goto (tgt := 44) (atd dX12_greatestOf 22 rfl) (by decide) ?_
          refine wp_istore_n (atd dX12_greatestOf 26 rfl) (Nat.le_of_ble_eq_true rfl) ?_
          refine wp_iincN (c := 1) (atd dX12_greatestOf 27 rfl) rfl ?_
          refine wp_goto (tgt := 4) (atd dX12_greatestOf 28 rfl) (by decide) ?_
          exact ih (p + 1) none _ (by omega) (by intro z hz; cases hz) (by rw [← hv]; simp [fl, gtG, hx])
        · exact absurd (by decide) c_27
      ·
        have hx9 := hWB i p x hi (by omega) hx
        refine wp_istore (atd dX12_greatestOf 16 rfl) (Nat.le_of_ble_eq_true rfl) ?_
        refine wp_iload (atd dX12_greatestOf 17 rfl) rfl ?_
        refine wp_ifN_lt (tgt := 34) (atd dX12_greatestOf 18 rfl) (by decide) (by omega) ?_
        rcases b with _ | y
        ·
          refine wp_iload_n (atd dX12_greatestOf 19 rfl) rfl ?_
          refine wp_if_ge (tgt := 38) (atd dX12_greatestOf 20 rfl) (by decide) (fun c_31 => ?_) (fun c_31 => ?_)
          · exact absurd c_31 (by decide)
          ·
            refine wp_iconst (v := -1) (atd dX12_greatestOf 21 rfl) (by decide) ?_
            refine wp_goto (tgt := 44) (atd dX12_greatestOf 22 rfl) (by decide) ?_
            refine wp_istore_n (atd dX12_greatestOf 26 rfl) (Nat.le_of_ble_eq_true rfl) ?_
            refine wp_iincN (c := 1) (atd dX12_greatestOf 27 rfl) rfl ?_
            refine wp_goto (tgt := 4) (atd dX12_greatestOf 28 rfl) (by decide) ?_
            exact ih (p + 1) none _ (by omega) (by intro z hz; cases hz) (by rw [← hv]; simp [fl, gtG, hx])
        ·
          have hy9 := hb9 y rfl
          refine wp_iload_n (atd dX12_greatestOf 19 rfl) rfl ?_
          refine wp_ifN_ge (tgt := 38) (atd dX12_greatestOf 20 rfl) (by decide) (by omega) ?_
          refine wp_iload_n (atd dX12_greatestOf 23 rfl) rfl ?_
          refine wp_iload (atd dX12_greatestOf 24 rfl) rfl ?_
          refine wp_cSi hdd [_, _] (atd dX12_greatestOf 25 rfl) iX12_greater lX12_213 rfl rfl (Nat.le_of_ble_eq_true rfl) (eX12_greater (by omega)) (fun r_41 s_41 h_41 => ?_)
          obtain ⟨rfl, rfl⟩ := h_41
          rw [greO (by omega) (by omega)]
          refine wp_istore_n (atd dX12_greatestOf 26 rfl) (Nat.le_of_ble_eq_true rfl) ?_
          refine wp_iincN (c := 1) (atd dX12_greatestOf 27 rfl) rfl ?_
          refine wp_goto (tgt := 4) (atd dX12_greatestOf 28 rfl) (by decide) ?_
          exact ih (p + 1) (some (mxN y x)) _ (by omega) (by intro z hz; cases hz; unfold mxN; split <;> omega) (by rw [← hv]; simp [fl, gtG, hx])
theorem eX12_greatestOf {G : Gx} {d : Nat} {σ : Hp} (hd : 1 ≤ d) {m n X : Nat} {α : Nat → Int32} {B : Nat → Nat → Int32} {R : Nat} (hM : MA σ σ m α B) {i : Nat} {w : Nat → Nat → Option Nat} (hp : α 2 = nI n) (hn : n ≤ 9) (hR9 : R ≤ 165) (hi : i < R) (hWT : WT B 10 w R n) (hWB : WB w R n X) (hX : X < 100000) : Cl G mX12_greatestOf d [.ref m, .int (nI i)] σ 0 0 (pI fun r s => r = oI (gtF w n i) ∧ s = σ) := by
  obtain ⟨d0, hdd⟩ : ∃ e, d = e + 1 := ⟨d - 1, by omega⟩
  refine cl_of (by decide) (by simp [Value.category]) (Nat.le_of_ble_eq_true rfl) ?_
  show Wp G mX12_greatestOf d 0 [.ref m, .int (nI i), .double 0, .double 0, .double 0] [] σ 0 0 _
  refine wp_iconst (v := nI 0) (atd dX12_greatestOf 0 rfl) (by decide) ?_
  refine wp_istore_n (atd dX12_greatestOf 1 rfl) (Nat.le_of_ble_eq_true rfl) ?_
  refine wp_iconst (v := nI 0) (atd dX12_greatestOf 2 rfl) (by decide) ?_
  refine wp_istore_n (atd dX12_greatestOf 3 rfl) (Nat.le_of_ble_eq_true rfl) ?_
  exact lX12_greatestOf (by omega) hM hp hn hR9 hi hWT hWB hX n 0 (some 0) _ (by omega) (by intro y hy; cases hy; omega) rfl
theorem lX12_startRow {G : Gx} {d : Nat} {σ : Hp} {v : Nat} (hd : 2 ≤ d) {m n X : Nat} {α : Nat → Int32} {B : Nat → Nat → Int32} {R : Nat} (hM : MA σ σ m α B) {w : Nat → Nat → Option Nat} (hp : α 2 = nI n) (hn : n ≤ 9) (h32 : α 32 = nI R) (hR9 : R ≤ 165) (hR1 : 1 ≤ R) (hWT : WT B 10 w R n) (hWB : WB w R n X) (hX : X < 100000) : ∀ (k : Nat) (i b : Nat) (e3 e4 : Value), i + k = R → b < R → fl (srG (gtF w n)) k i b = v → Wp G mX12_startRow d 4 [.ref m, .int (nI b), .int (nI i), e3, e4] [] σ 0 0 (pI fun r s => r = nI v ∧ s = σ) := by
  obtain ⟨d0, hdd⟩ : ∃ e, d = e + 1 := ⟨d - 1, by omega⟩
  intro k
  induction k with
  | zero =>
    intro i b e3 e4 h2 hb9 hv
    refine wp_iload_n (atd dX12_startRow 4 rfl) rfl ?_
    refine wp_aload_n (atd dX12_startRow 5 rfl) rfl rfl ?_
    refine wp_get fX12_234 (atd dX12_startRow 6 rfl) hM.1.1 (congrArg (fun z => some (Value.int z)) h32) ?_
    refine wp_icmpN_ge (tgt := 52) (atd dX12_startRow 7 rfl) (by decide) (by omega) (by omega) (fun c_9 => ?_) (fun c_9 => ?_)
    ·
      refine wp_iload_n (atd dX12_startRow 29 rfl) rfl ?_
      refine wp_ireti (atd dX12_startRow 30 rfl) rfl ?_
      exact ⟨by rw [← hv]; rfl, rfl⟩
    · exfalso; omega
  | succ k ih =>
    intro i b e3 e4 h2 hb9 hv
    refine wp_iload_n (atd dX12_startRow 4 rfl) rfl ?_
    refine wp_aload_n (atd dX12_startRow 5 rfl) rfl rfl ?_
    refine wp_get fX12_234 (atd dX12_startRow 6 rfl) hM.1.1 (congrArg (fun z => some (Value.int z)) h32) ?_
    refine wp_icmpN_ge (tgt := 52) (atd dX12_startRow 7 rfl) (by decide) (by omega) (by omega) (fun c_9 => ?_) (fun c_9 => ?_)
    · exfalso; omega
    ·
      refine wp_aload_n (atd dX12_startRow 8 rfl) rfl rfl ?_
      refine wp_iload_n (atd dX12_startRow 9 rfl) rfl ?_
      refine wp_cVi hdd [_] (atd dX12_startRow 10 rfl) iX12_greatestOf lX12_262 rfl rfl (Nat.le_of_ble_eq_true rfl) hM.1.1 rfl (eX12_greatestOf (by omega) hM hp hn hR9 (i := i) (by omega) hWT hWB hX) (fun r_14 s_14 h_14 => ?_)
      obtain ⟨rfl, rfl⟩ := h_14
      generalize hx : gtF w n i = xx; rcases xx with _ | x
      ·
        refine wp_istore_n (atd dX12_startRow 11 rfl) (Nat.le_of_ble_eq_true rfl) ?_
        refine wp_aload_n (atd dX12_startRow 12 rfl) rfl rfl ?_
        refine wp_iload_n (atd dX12_startRow 13 rfl) rfl ?_
        refine wp_cVi hdd [_] (atd dX12_startRow 14 rfl) iX12_greatestOf lX12_262 rfl rfl (Nat.le_of_ble_eq_true rfl) hM.1.1 rfl (eX12_greatestOf (by omega) hM hp hn hR9 (i := b) (by omega) hWT hWB hX) (fun r_20 s_20 h_20 => ?_)
        obtain ⟨rfl, rfl⟩ := h_20
        generalize hy : gtF w n b = yy; rcases yy with _ | y
        ·
          refine wp_istore (atd dX12_startRow 15 rfl) (Nat.le_of_ble_eq_true rfl) ?_
          refine wp_iload_n (atd dX12_startRow 16 rfl) rfl ?_
          refine wp_if_lt (tgt := 44) (atd dX12_startRow 17 rfl) (by decide) (fun c_26 => ?_) (fun c_26 => ?_)
          ·
            refine wp_iload_n (atd dX12_startRow 25 rfl) rfl ?_
            refine wp_istore_n (atd dX12_startRow 26 rfl) (Nat.le_of_ble_eq_true rfl) ?_
            refine wp_iincN (c := 1) (atd dX12_startRow 27 rfl) rfl ?_
            refine wp_goto (tgt := 4) (atd dX12_startRow 28 rfl) (by decide) ?_
            exact ih (i + 1) b _ _ (by omega) (by omega) (by rw [← hv]; simp [fl, srG, hx])
          · exact absurd (by decide) c_26
        ·
          have hy9 := gtF_le hWB (by omega) y hy
          refine wp_istore (atd dX12_startRow 15 rfl) (Nat.le_of_ble_eq_true rfl) ?_
          refine wp_iload_n (atd dX12_startRow 16 rfl) rfl ?_
          refine wp_if_lt (tgt := 44) (atd dX12_startRow 17 rfl) (by decide) (fun c_26 => ?_) (fun c_26 => ?_)
          ·
            refine wp_iload_n (atd dX12_startRow 25 rfl) rfl ?_
            refine wp_istore_n (atd dX12_startRow 26 rfl) (Nat.le_of_ble_eq_true rfl) ?_
            refine wp_iincN (c := 1) (atd dX12_startRow 27 rfl) rfl ?_
            refine wp_goto (tgt := 4) (atd dX12_startRow 28 rfl) (by decide) ?_
            exact ih (i + 1) b _ _ (by omega) (by omega) (by rw [← hv]; simp [fl, srG, hx])
          · exact absurd (by decide) c_26
      ·
        have hx9 := gtF_le hWB (by omega) x hx
        refine wp_istore_n (atd dX12_startRow 11 rfl) (Nat.le_of_ble_eq_true rfl) ?_
        refine wp_aload_n (atd dX12_startRow 12 rfl) rfl rfl ?_
        refine wp_iload_n (atd dX12_startRow 13 rfl) rfl ?_
        refine wp_cVi hdd [_] (atd dX12_startRow 14 rfl) iX12_greatestOf lX12_262 rfl rfl (Nat.le_of_ble_eq_true rfl) hM.1.1 rfl (eX12_greatestOf (by omega) hM hp hn hR9 (i := b) (by omega) hWT hWB hX) (fun r_20 s_20 h_20 => ?_)
        obtain ⟨rfl, rfl⟩ := h_20
        generalize hy : gtF w n b = yy; rcases yy with _ | y
        ·
          refine wp_istore (atd dX12_startRow 15 rfl) (Nat.le_of_ble_eq_true rfl) ?_
          refine wp_iload_n (atd dX12_startRow 16 rfl) rfl ?_
          refine wp_ifN_lt (tgt := 44) (atd dX12_startRow 17 rfl) (by decide) (by omega) ?_
          refine wp_iload (atd dX12_startRow 18 rfl) rfl ?_
          refine wp_if_lt (tgt := 40) (atd dX12_startRow 19 rfl) (by decide) (fun c_31 => ?_) (fun c_31 => ?_)
          ·
            refine wp_iload_n (atd dX12_startRow 23 rfl) rfl ?_
            refine wp_goto (tgt := 45) (atd dX12_startRow 24 rfl) (by decide) ?_
            refine wp_istore_n (atd dX12_startRow 26 rfl) (Nat.le_of_ble_eq_true rfl) ?_
            refine wp_iincN (c := 1) (atd dX12_startRow 27 rfl) rfl ?_
            refine wp_goto (tgt := 4) (atd dX12_startRow 28 rfl) (by decide) ?_
            exact ih (i + 1) i _ _ (by omega) (by omega) (by rw [← hv]; simp [fl, srG, hx, hy])
          · exact absurd (by decide) c_31
        ·
          have hy9 := gtF_le hWB (by omega) y hy
          refine wp_istore (atd dX12_startRow 15 rfl) (Nat.le_of_ble_eq_true rfl) ?_
          refine wp_iload_n (atd dX12_startRow 16 rfl) rfl ?_
          refine wp_ifN_lt (tgt := 44) (atd dX12_startRow 17 rfl) (by decide) (by omega) ?_
          refine wp_iload (atd dX12_startRow 18 rfl) rfl ?_
          refine wp_ifN_lt (tgt := 40) (atd dX12_startRow 19 rfl) (by decide) (by omega) ?_
          refine wp_iload_n (atd dX12_startRow 20 rfl) rfl ?_
          refine wp_iload (atd dX12_startRow 21 rfl) rfl ?_
          refine wp_icmpN_ge (tgt := 44) (atd dX12_startRow 22 rfl) (by decide) (by omega) (by omega) (fun c_37 => ?_) (fun c_37 => ?_)
          ·
            refine wp_iload_n (atd dX12_startRow 25 rfl) rfl ?_
            refine wp_istore_n (atd dX12_startRow 26 rfl) (Nat.le_of_ble_eq_true rfl) ?_
            refine wp_iincN (c := 1) (atd dX12_startRow 27 rfl) rfl ?_
            refine wp_goto (tgt := 4) (atd dX12_startRow 28 rfl) (by decide) ?_
            exact ih (i + 1) b _ _ (by omega) (by omega) (by rw [← hv]; simp [fl, srG, hx, hy, show ¬ x < y by omega])
          ·
            refine wp_iload_n (atd dX12_startRow 23 rfl) rfl ?_
            refine wp_goto (tgt := 45) (atd dX12_startRow 24 rfl) (by decide) ?_
            refine wp_istore_n (atd dX12_startRow 26 rfl) (Nat.le_of_ble_eq_true rfl) ?_
            refine wp_iincN (c := 1) (atd dX12_startRow 27 rfl) rfl ?_
            refine wp_goto (tgt := 4) (atd dX12_startRow 28 rfl) (by decide) ?_
            exact ih (i + 1) i _ _ (by omega) (by omega) (by rw [← hv]; simp [fl, srG, hx, hy, c_37])
theorem eX12_startRow {G : Gx} {d : Nat} {σ : Hp} (hd : 2 ≤ d) {m n X : Nat} {α : Nat → Int32} {B : Nat → Nat → Int32} {R : Nat} (hM : MA σ σ m α B) {w : Nat → Nat → Option Nat} (hp : α 2 = nI n) (hn : n ≤ 9) (h32 : α 32 = nI R) (hR9 : R ≤ 165) (hR1 : 1 ≤ R) (hWT : WT B 10 w R n) (hWB : WB w R n X) (hX : X < 100000) : Cl G mX12_startRow d [.ref m] σ 0 0 (pI fun r s => r = nI (srF w n R) ∧ s = σ) := by
  obtain ⟨d0, hdd⟩ : ∃ e, d = e + 1 := ⟨d - 1, by omega⟩
  refine cl_of (by decide) (by simp [Value.category]) (Nat.le_of_ble_eq_true rfl) ?_
  show Wp G mX12_startRow d 0 [.ref m, .double 0, .double 0, .double 0, .double 0] [] σ 0 0 _
  refine wp_iconst (v := nI 0) (atd dX12_startRow 0 rfl) (by decide) ?_
  refine wp_istore_n (atd dX12_startRow 1 rfl) (Nat.le_of_ble_eq_true rfl) ?_
  refine wp_iconst (v := nI 1) (atd dX12_startRow 2 rfl) (by decide) ?_
  refine wp_istore_n (atd dX12_startRow 3 rfl) (Nat.le_of_ble_eq_true rfl) ?_
  exact lX12_startRow (by omega) hM hp hn h32 hR9 hR1 hWT hWB hX (R - 1) 1 0 _ _ (by omega) (by omega) rfl
abbrev isH (x : Int32) : Prop := 1 ≤ x.toInt ∧ x.toInt ≤ 3
theorem isH_iff {x : Int32} : (¬ x < nI 1 ∧ ¬ nI 3 < x) ↔ isH x := by
  rw [Int32.lt_iff_toInt_lt, Int32.lt_iff_toInt_lt, nI_toInt (by decide), nI_toInt (by decide), isH]
  omega
theorem isH_of {x : Int32} (h : isH x) : ∃ j, 1 ≤ j ∧ j ≤ 3 ∧ x = nI j := by
  obtain ⟨j, hj, e⟩ := isP_ofB (p := x) (n := 4) ⟨by have := h.1; omega, by have := h.2; omega⟩
  refine ⟨j, ?_, by omega, e⟩
  rw [e] at h
  have := h.1
  rw [nI_toInt (by omega)] at this
  omega
abbrev isG (k h : Int32) (n : Nat) : Prop := isP k 3 ∧ isH h ∧ 0 < n
theorem eX12_isGame {G : Gx} {d : Nat} {σ : Hp} (hd : 1 ≤ d) {m n : Nat} {α : Nat → Int32} {B : Nat → Nat → Int32} {a b : Int32} (hM : MA σ σ m α B) (hp : α 2 = nI n) (hn : n ≤ 9) : Cl G mX12_isGame d [.ref m, .int a, .int b] σ 0 0 (pI fun r s => r = bI (isG a b n) ∧ s = σ) := by
  obtain ⟨d0, hdd⟩ : ∃ e, d = e + 1 := ⟨d - 1, by omega⟩
  refine cl_of (by decide) (by simp [Value.category]) (Nat.le_of_ble_eq_true rfl) ?_
  show Wp G mX12_isGame d 0 [.ref m, .int a, .int b] [] σ 0 0 _
  refine wp_iload_n (atd dX12_isGame 0 rfl) rfl ?_
  refine wp_iconst (v := nI 0) (atd dX12_isGame 1 rfl) (by decide) ?_
  refine wp_iconst (v := nI 2) (atd dX12_isGame 2 rfl) (by decide) ?_
  refine wp_cSi hdd [_, _, _] (atd dX12_isGame 3 rfl) iX12_in lX12_81 rfl rfl (Nat.le_of_ble_eq_true rfl) (eX12_in (by omega)) (fun r_3 s_3 h_3 => ?_)
  obtain ⟨rfl, rfl⟩ := h_3
  rw [bI_c (isP_le (t := 2) (by decide))]
  refine wp_ifB_eq (tgt := 29) (atd dX12_isGame 4 rfl) (by decide) (fun c_6 => ?_) (fun c_6 => ?_)
  ·
    refine wp_iconst (v := nI 0) (atd dX12_isGame 15 rfl) (by decide) ?_
    refine wp_iretz (atd dX12_isGame 16 rfl) rfl (by first | rfl | decide) ?_
    exact ⟨(bI_f (fun z => c_6 z.1)).symm, rfl⟩
  ·
    refine wp_iload_n (atd dX12_isGame 5 rfl) rfl ?_
    refine wp_iconst (v := nI 1) (atd dX12_isGame 6 rfl) (by decide) ?_
    refine wp_iconst (v := nI 3) (atd dX12_isGame 7 rfl) (by decide) ?_
    refine wp_cSi hdd [_, _, _] (atd dX12_isGame 8 rfl) iX12_in lX12_81 rfl rfl (Nat.le_of_ble_eq_true rfl) (eX12_in (by omega)) (fun r_12 s_12 h_12 => ?_)
    obtain ⟨rfl, rfl⟩ := h_12
    rw [bI_c isH_iff]
    refine wp_ifB_eq (tgt := 29) (atd dX12_isGame 9 rfl) (by decide) (fun c_15 => ?_) (fun c_15 => ?_)
    ·
      refine wp_iconst (v := nI 0) (atd dX12_isGame 15 rfl) (by decide) ?_
      refine wp_iretz (atd dX12_isGame 16 rfl) rfl (by first | rfl | decide) ?_
      exact ⟨(bI_f (fun z => c_15 z.2.1)).symm, rfl⟩
    ·
      refine wp_aload_n (atd dX12_isGame 10 rfl) rfl rfl ?_
      refine wp_get fX12_78 (atd dX12_isGame 11 rfl) hM.1.1 (congrArg (fun z => some (Value.int z)) hp) ?_
      refine wp_ifN_le (tgt := 29) (atd dX12_isGame 12 rfl) (by decide) (by omega) (fun c_22 => ?_) (fun c_22 => ?_)
      ·
        refine wp_iconst (v := nI 0) (atd dX12_isGame 15 rfl) (by decide) ?_
        refine wp_iretz (atd dX12_isGame 16 rfl) rfl (by first | rfl | decide) ?_
        exact ⟨(bI_f (fun z => by omega)).symm, rfl⟩
      ·
        refine wp_iconst (v := nI 1) (atd dX12_isGame 13 rfl) (by decide) ?_
        refine wp_goto (tgt := 30) (atd dX12_isGame 14 rfl) (by decide) ?_
        refine wp_iretz (atd dX12_isGame 16 rfl) rfl (by first | rfl | decide) ?_
        exact ⟨(bI_t ⟨c_6, c_15, c_22⟩).symm, rfl⟩
