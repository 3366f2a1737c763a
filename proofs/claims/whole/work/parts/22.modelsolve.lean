/-! solving: rounds of the worths -/
abbrev Wo : Type := Nat → Nat → Option Nat
def cgF (nb : Nat → Nat) (h kd : Nat) (F : List Row) (i j : Nat) : Bool := cms nb h kd (rowAt F i) (rowAt F j)
def lbW (nb : Nat → Nat) (n h kd : Nat) (F : List Row) (w : Wo) (i p : Nat) : Option Nat := lbF (cgF nb h kd F i) (fun j => rwt nb n kd h F w j p) F.length
def rdW (nb : Nat → Nat) (n h kd : Nat) (F : List Row) (w : Wo) : Wo := fun i p => match w i p with
  | some x => some x
  | none => (match lbW nb n h kd F w i p with
    | none => none
    | some x => some (x + 1))
def nw (nb : Nat → Nat) (n h kd : Nat) (F : List Row) (w : Wo) (i p : Nat) : Prop := w i p = none ∧ lbW nb n h kd F w i p ≠ none
def chg (nb : Nat → Nat) (n h kd : Nat) (F : List Row) (w : Wo) : Prop := ∃ i p, i < F.length ∧ p < n ∧ nw nb n h kd F w i p
noncomputable def slv (nb : Nat → Nat) (n h kd : Nat) (F : List Row) : Nat → Wo → Wo
  | 0, w => w
  | k + 1, w => @ite _ (chg nb n h kd F w) (Classical.propDecidable _) (slv nb n h kd F k (rdW nb n h kd F w)) w
def w0 (h : Nat) (F : List Row) : Wo := fun i p => if (std h (rowAt F i)).testBit p = true then some 0 else none
noncomputable def slvF (nb : Nat → Nat) (n h kd : Nat) : Wo := slv nb n h kd (rowsL h n) 2000 (w0 h (rowsL h n))
theorem lb_mem {cg : Nat → Bool} {r : Nat → Option Nat} : ∀ (k j : Nat) (b : Option Nat) (x : Nat), fl (lbG cg r) k j b = some x → b = some x ∨ ∃ i, j ≤ i ∧ i < j + k ∧ cg i = true ∧ r i = some x
  | 0, _, _, _, h => Or.inl h
  | k + 1, j, b, x, h => by
    rcases lb_mem k (j + 1) (lbG cg r j b) x h with h1 | ⟨i, h1, h2, h3⟩
    · unfold lbG at h1
      split at h1
      · rename_i hc
        split at h1
        · exact Or.inl h1
        · rename_i y hy
          split at h1
          · cases h1; exact Or.inr ⟨j, by omega, by omega, hc, hy⟩
          · split at h1
            · cases h1; exact Or.inr ⟨j, by omega, by omega, hc, hy⟩
            · exact Or.inl h1
      · exact Or.inl h1
    · exact Or.inr ⟨i, by omega, by omega, h3⟩
theorem lbF_mem {cg : Nat → Bool} {r : Nat → Option Nat} {R x : Nat} (h : lbF cg r R = some x) : ∃ i, i < R ∧ cg i = true ∧ r i = some x := by
  rcases lb_mem R 0 none x h with h1 | ⟨i, -, h2, h3⟩
  · cases h1
  · exact ⟨i, by omega, h3⟩
theorem rdW_le {nb : Nat → Nat} {n h kd X : Nat} {F : List Row} {w : Wo} (hW : WB w F.length n X) : WB (rdW nb n h kd F w) F.length n (X + 1) := by
  intro i p x hi hp e
  unfold rdW at e
  split at e
  · rename_i y hy
    cases e
    have := hW i p x hi hp hy
    omega
  · split at e
    · cases e
    · rename_i y hy
      cases e
      obtain ⟨j, hj, -, hr⟩ := lbF_mem hy
      have := rwt_le (nb := nb) (kd := kd) (h := h) hW j p y hj hp hr
      omega
/-- how many are none -/
def ncR (w : Nat → Option Nat) (p a : Nat) : Nat := a + (if w p = none then 1 else 0)
def nc (w : Wo) (n R : Nat) : Nat := fl (fun i a => fl (ncR (w i)) n 0 a) R 0 0
theorem ncR_add (w : Nat → Option Nat) : ∀ (k p a : Nat), fl (ncR w) k p a = a + fl (ncR w) k p 0
  | 0, _, a => rfl
  | k + 1, p, a => by
    show fl (ncR w) k (p + 1) (ncR w p a) = a + fl (ncR w) k (p + 1) (ncR w p 0)
    rw [ncR_add w k (p + 1) (ncR w p a), ncR_add w k (p + 1) (ncR w p 0)]
    unfold ncR
    omega
theorem ncR_le {w u : Nat → Option Nat} (h : ∀ p, u p = none → w p = none) : ∀ (k p : Nat), fl (ncR u) k p 0 ≤ fl (ncR w) k p 0 ∧ (∀ q, p ≤ q → q < p + k → w q = none → u q ≠ none → fl (ncR u) k p 0 < fl (ncR w) k p 0)
  | 0, _ => ⟨Nat.le_refl _, fun q h1 h2 => absurd h2 (by omega)⟩
  | k + 1, p => by
    have e1 : fl (ncR u) (k + 1) p 0 = (if u p = none then 1 else 0) + fl (ncR u) k (p + 1) 0 := by
      show fl (ncR u) k (p + 1) (ncR u p 0) = _
      rw [ncR_add]; unfold ncR; omega
    have e2 : fl (ncR w) (k + 1) p 0 = (if w p = none then 1 else 0) + fl (ncR w) k (p + 1) 0 := by
      show fl (ncR w) k (p + 1) (ncR w p 0) = _
      rw [ncR_add]; unfold ncR; omega
    obtain ⟨g1, g2⟩ := ncR_le h k (p + 1)
    have g3 : (if u p = none then 1 else 0) ≤ (if w p = none then 1 else 0) := by
      by_cases hu : u p = none
      · rw [if_pos hu, if_pos (h p hu)]; exact Nat.le_refl _
      · rw [if_neg hu]; exact Nat.zero_le _
    refine ⟨by omega, fun q h1 h2 h3 h4 => ?_⟩
    by_cases hq : q = p
    · subst hq
      rw [if_neg h4] at e1
      rw [if_pos h3] at e2
      omega
    · have := g2 q (by omega) (by omega) h3 h4
      omega
theorem nc_add {w : Wo} {n : Nat} : ∀ (k i a : Nat), fl (fun i a => fl (ncR (w i)) n 0 a) k i a = a + fl (fun i a => fl (ncR (w i)) n 0 a) k i 0
  | 0, _, a => rfl
  | k + 1, i, a => by
    show fl (fun i a => fl (ncR (w i)) n 0 a) k (i + 1) (fl (ncR (w i)) n 0 a) = a + fl (fun i a => fl (ncR (w i)) n 0 a) k (i + 1) (fl (ncR (w i)) n 0 0)
    rw [nc_add k (i + 1) (fl (ncR (w i)) n 0 a), nc_add k (i + 1) (fl (ncR (w i)) n 0 0), ncR_add (w i) n 0 a]
    omega
theorem nc_lt {w u : Wo} {n : Nat} (h : ∀ i p, u i p = none → w i p = none) : ∀ (k i : Nat), fl (fun i a => fl (ncR (u i)) n 0 a) k i 0 ≤ fl (fun i a => fl (ncR (w i)) n 0 a) k i 0 ∧ (∀ x p, i ≤ x → x < i + k → p < n → w x p = none → u x p ≠ none → fl (fun i a => fl (ncR (u i)) n 0 a) k i 0 < fl (fun i a => fl (ncR (w i)) n 0 a) k i 0)
  | 0, _ => ⟨Nat.le_refl _, fun x p h1 h2 => absurd h2 (by omega)⟩
  | k + 1, i => by
    have e1 : fl (fun i a => fl (ncR (u i)) n 0 a) (k + 1) i 0 = fl (ncR (u i)) n 0 0 + fl (fun i a => fl (ncR (u i)) n 0 a) k (i + 1) 0 := nc_add k (i + 1) _
    have e2 : fl (fun i a => fl (ncR (w i)) n 0 a) (k + 1) i 0 = fl (ncR (w i)) n 0 0 + fl (fun i a => fl (ncR (w i)) n 0 a) k (i + 1) 0 := nc_add k (i + 1) _
    obtain ⟨g1, g2⟩ := nc_lt (n := n) h k (i + 1)
    obtain ⟨g3, g4⟩ := ncR_le (h i) n 0
    refine ⟨by omega, fun x p h1 h2 h3 h4 h5 => ?_⟩
    by_cases hx : x = i
    · subst hx
      have := g4 p (by omega) (by omega) h4 h5
      omega
    · have := g2 x p (by omega) (by omega) h3 h4 h5
      omega
theorem nc_bound {w : Wo} {n R : Nat} : nc w n R ≤ R * n := by
  have h1 : ∀ (w : Nat → Option Nat) (k p : Nat), fl (ncR w) k p 0 ≤ k := by
    intro w k
    induction k with
    | zero => intro p; exact Nat.le_refl _
    | succ k ih =>
      intro p
      show fl (ncR w) k (p + 1) (ncR w p 0) ≤ k + 1
      rw [ncR_add]
      have := ih (p + 1)
      have h5 : ncR w p 0 ≤ 1 := by unfold ncR; split <;> omega
      omega
  have h2 : ∀ (k i : Nat), fl (fun i a => fl (ncR (w i)) n 0 a) k i 0 ≤ k * n := by
    intro k
    induction k with
    | zero => intro i; exact Nat.zero_le _
    | succ k ih =>
      intro i
      show fl (fun i a => fl (ncR (w i)) n 0 a) k (i + 1) (fl (ncR (w i)) n 0 0) ≤ (k + 1) * n
      rw [nc_add, Nat.succ_mul]
      have := ih (i + 1)
      have := h1 (w i) n 0
      omega
  exact h2 R 0
theorem rdW_none {nb : Nat → Nat} {n h kd : Nat} {F : List Row} {w : Wo} : ∀ i p, rdW nb n h kd F w i p = none → w i p = none := by
  intro i p e
  unfold rdW at e
  split at e
  · cases e
  · assumption
theorem nc_chg {nb : Nat → Nat} {n h kd : Nat} {F : List Row} {w : Wo} (hc : chg nb n h kd F w) : nc (rdW nb n h kd F w) n F.length < nc w n F.length := by
  obtain ⟨i, p, hi, hp, h1, h2⟩ := hc
  refine (nc_lt rdW_none F.length 0).2 i p (by omega) (by omega) hp h1 ?_
  unfold rdW
  rw [h1]
  cases hx : lbW nb n h kd F w i p with
  | none => exact absurd hx h2
  | some x => intro z; cases z
def dn (i p x y : Nat) : Prop := x < i ∨ (x = i ∧ y < p)
def mix (nb : Nat → Nat) (n h kd : Nat) (F : List Row) (w : Wo) (i p : Nat) : Wo := fun x y => if x < i ∨ (x = i ∧ y < p) then rdW nb n h kd F w x y else w x y
def flg (nb : Nat → Nat) (n h kd : Nat) (F : List Row) (w : Wo) (t i p : Nat) : Prop := (t = 1 ∧ chg nb n h kd F w) ∨ (t = 0 ∧ ∀ x y, (x < i ∨ (x = i ∧ y < p)) → x < F.length → y < n → ¬ nw nb n h kd F w x y)
theorem mix_put {nb : Nat → Nat} {n h kd : Nat} {F : List Row} {w : Wo} {i p : Nat} {B : Nat → Nat → Int32} {x : Int32} (hm : WT B 10 (mix nb n h kd F w i p) F.length n) (hn : n ≤ 9) (hpn : p < n) (hx : x = oI (rdW nb n h kd F w i p)) : WT (va_up B 10 (upd (B 10) (9 * i + p) x)) 10 (mix nb n h kd F w i (p + 1)) F.length n := by
  intro a b ha hb
  show upd (B 10) (9 * i + p) x (9 * a + b) = _
  by_cases e : a = i ∧ b = p
  · obtain ⟨rfl, rfl⟩ := e
    rw [show upd (B 10) (9 * a + b) x (9 * a + b) = x from if_pos rfl, hx]
    exact congrArg oI (if_pos (Or.inr ⟨rfl, by omega⟩)).symm
  · rw [show upd (B 10) (9 * i + p) x (9 * a + b) = B 10 (9 * a + b) from if_neg (by omega), hm a b ha hb]
    refine congrArg oI ?_
    unfold mix
    by_cases hc : a < i ∨ (a = i ∧ b < p)
    · rw [if_pos hc, if_pos (by omega)]
    · rw [if_neg hc, if_neg (by omega)]
theorem mix_keep {nb : Nat → Nat} {n h kd : Nat} {F : List Row} {w : Wo} {i p : Nat} {B : Nat → Nat → Int32} (hm : WT B 10 (mix nb n h kd F w i p) F.length n) (he : rdW nb n h kd F w i p = w i p) : WT B 10 (mix nb n h kd F w i (p + 1)) F.length n := by
  intro a b ha hb
  rw [hm a b ha hb]
  refine congrArg oI ?_
  unfold mix
  by_cases hc : a < i ∨ (a = i ∧ b < p)
  · rw [if_pos hc, if_pos (by omega)]
  · rw [if_neg hc]
    by_cases e : a = i ∧ b = p
    · obtain ⟨rfl, rfl⟩ := e
      rw [if_pos (by omega), he]
    · rw [if_neg (by omega)]
theorem mix_row {nb : Nat → Nat} {n h kd : Nat} {F : List Row} {w : Wo} {i : Nat} {B : Nat → Nat → Int32} (hm : WT B 10 (mix nb n h kd F w i n) F.length n) : WT B 10 (mix nb n h kd F w (i + 1) 0) F.length n := by
  intro a b ha hb
  rw [hm a b ha hb]
  refine congrArg oI ?_
  unfold mix
  by_cases hc : a < i ∨ (a = i ∧ b < n)
  · rw [if_pos hc, if_pos (by omega)]
  · rw [if_neg hc, if_neg (by omega)]
theorem flg_step {nb : Nat → Nat} {n h kd : Nat} {F : List Row} {w : Wo} {t i p : Nat} (hf : flg nb n h kd F w t i p) (hz : ¬ nw nb n h kd F w i p) : flg nb n h kd F w t i (p + 1) := by
  rcases hf with hf | ⟨h0, h1⟩
  · exact Or.inl hf
  · refine Or.inr ⟨h0, fun x y hxy hx hy => ?_⟩
    by_cases e : x = i ∧ y = p
    · obtain ⟨rfl, rfl⟩ := e; exact hz
    · exact h1 x y (by omega) hx hy
theorem lX12_solve1 {G : Gx} {d : Nat} {Q : Option Value → Hp → Prop} {σ0 : Hp} {m n h kd : Nat} {α : Nat → Int32} {B0 : Nat → Nat → Int32} {nb : Nat → Nat} {F : List Row} (hd : 4 ≤ d) (hp : α 2 = nI n) (hn : n ≤ 9) (hb : ∀ p, p < n → B0 1 p = nI (nb p)) (hw : ∀ p, nb p < 512) (h32 : α 32 = nI F.length) (hh : h ≤ 3) (hkd : kd < 3) (hF9 : F.length ≤ 165) (hR : RW B0 F h) (hin : RIn F n) (hcg : CG B0 nb h kd F) {w : Wo} {X : Nat} {B1 : Nat → Nat → Int32} (hf1 : frm [10, 11] B0 B1) (hr : WT B1 11 (rwt nb n kd h F w) F.length n) (hWB : WB w F.length n X) (hX : X < 9000) {i : Nat} (hi : i < F.length) (hk : ∀ (σ : Hp) (B : Nat → Nat → Int32) (t : Nat) (e5 e6 : Value), MA σ0 σ m α B → frm [10] B1 B → WT B 10 (mix nb n h kd F w i n) F.length n → t ≤ 1 → flg nb n h kd F w t i n → Wp G mX12_solve d 195 [.ref m, .int (nI kd), .int (nI h), .int (nI t), .int (nI i), e5, e6] [] σ 0 0 Q) : ∀ (k : Nat) (σ : Hp) (B : Nat → Nat → Int32) (t p : Nat) (e6 : Value), MA σ0 σ m α B → frm [10] B1 B → WT B 10 (mix nb n h kd F w i p) F.length n → t ≤ 1 → flg nb n h kd F w t i p → p + k = n → Wp G mX12_solve d 126 [.ref m, .int (nI kd), .int (nI h), .int (nI t), .int (nI i), .int (nI p), e6] [] σ 0 0 Q := by
  obtain ⟨d0, hdd⟩ : ∃ e, d = e + 1 := ⟨d - 1, by omega⟩
  intro k
  induction k with
  | zero =>
    intro σ B t p e6 hM hfb hmx ht hfl hpk
    have e : p = n := by omega
    subst e
    refine wp_iload (atd dX12_solve 70 rfl) rfl ?_
    refine wp_aload_n (atd dX12_solve 71 rfl) rfl rfl ?_
    refine wp_get fX12_78 (atd dX12_solve 72 rfl) hM.1.1 (congrArg (fun z => some (Value.int z)) hp) ?_
    refine wp_icmpN_ge (tgt := 195) (atd dX12_solve 73 rfl) (by decide) (by omega) (by omega) (fun c_132 => ?_) (fun c_132 => ?_)
    ·
      exact hk _ B t _ _ hM hfb hmx ht hfl
    · exfalso; omega
  | succ k ih =>
    intro σ B t p e6 hM hfb hmx ht hfl hpk
    have hcur : B 10 (9 * i + p) = oI (w i p) := by rw [hmx i p hi (by omega)]; exact congrArg oI (if_neg (by omega))
    have hcg1 : ∀ x y, x < F.length → y < F.length → B 9 (165 * x + y) = bI (cgF nb h kd F x y = true) := fun x y hx hy => by rw [hfb 9 (by decide), hf1 9 (by decide)]; exact hcg x y hx hy
    have hr1 : WT B 11 (rwt nb n kd h F w) F.length n := fun x y hx hy => by rw [hfb 11 (by decide)]; exact hr x y hx hy
    refine wp_iload (atd dX12_solve 70 rfl) rfl ?_
    refine wp_aload_n (atd dX12_solve 71 rfl) rfl rfl ?_
    refine wp_get fX12_78 (atd dX12_solve 72 rfl) hM.1.1 (congrArg (fun z => some (Value.int z)) hp) ?_
    refine wp_icmpN_ge (tgt := 195) (atd dX12_solve 73 rfl) (by decide) (by omega) (by omega) (fun c_132 => ?_) (fun c_132 => ?_)
    · exfalso; omega
    ·
      refine wp_aload_n (atd dX12_solve 74 rfl) rfl rfl ?_
      refine wp_get fX12_45 (atd dX12_solve 75 rfl) hM.1.1 rfl ?_
      refine wp_bipush (v := nI 9) (atd dX12_solve 76 rfl) (by decide) ?_
      refine wp_iload (atd dX12_solve 77 rfl) rfl ?_
      refine wp_imulN (atd dX12_solve 78 rfl) ?_
      refine wp_iload (atd dX12_solve 79 rfl) rfl ?_
      refine wp_iaddN (atd dX12_solve 80 rfl) ?_
      refine wp_ialdN (atd dX12_solve 81 rfl) hM.a10 (show _ < 1485 from by omega) (Nat.le_of_ble_eq_true rfl) ?_
      rw [hcur]
      generalize hx : w i p = xx; rcases xx with _ | z
      ·
        refine wp_if_ge (tgt := 162) (atd dX12_solve 82 rfl) (by decide) (fun c_148 => ?_) (fun c_148 => ?_)
        · exact absurd c_148 (by decide)
        ·
          refine wp_aload_n (atd dX12_solve 83 rfl) rfl rfl ?_
          refine wp_iload (atd dX12_solve 84 rfl) rfl ?_
          refine wp_iload (atd dX12_solve 85 rfl) rfl ?_
          refine wp_cVi hdd [_, _] (atd dX12_solve 86 rfl) iX12_leastBehind lX12_256 rfl rfl (Nat.le_of_ble_eq_true rfl) hM.1.1 rfl (eX12_leastBehind (n := n) (p := p) (by omega) hM.self h32 hF9 hi (by omega) hn hcg1 hr1 (rwt_le hWB) (by omega)) (fun r_156 s_156 h_156 => ?_)
          obtain ⟨rfl, rfl⟩ := h_156
          generalize hy : lbF (cgF nb h kd F i) (fun j => rwt nb n kd h F w j p) F.length = yy; rcases yy with _ | x
          ·
            refine wp_goto (tgt := 163) (atd dX12_solve 87 rfl) (by decide) ?_
            refine wp_istore (atd dX12_solve 89 rfl) (Nat.le_of_ble_eq_true rfl) ?_
            refine wp_iload (atd dX12_solve 90 rfl) rfl ?_
            refine wp_if_lt (tgt := 189) (atd dX12_solve 91 rfl) (by decide) (fun c_167 => ?_) (fun c_167 => ?_)
            ·
              refine wp_iincN (c := 1) (atd dX12_solve 105 rfl) rfl ?_
              refine wp_goto (tgt := 126) (atd dX12_solve 106 rfl) (by decide) ?_
              have he : rdW nb n h kd F w i p = w i p := by unfold rdW; rw [hx]; show (match lbW nb n h kd F w i p with | none => none | some x => some (x + 1)) = _; rw [show lbW nb n h kd F w i p = none from hy]
              exact ih _ B t (p + 1) _ hM hfb (mix_keep hmx he) ht (flg_step hfl (fun z => z.2 hy)) (by omega)
            · exact absurd (by decide) c_167
          ·
            have hx9 : x ≤ X := by obtain ⟨j, j1, -, j3⟩ := lbF_mem hy; exact rwt_le hWB j p x j1 (by omega) j3
            refine wp_goto (tgt := 163) (atd dX12_solve 87 rfl) (by decide) ?_
            refine wp_istore (atd dX12_solve 89 rfl) (Nat.le_of_ble_eq_true rfl) ?_
            refine wp_iload (atd dX12_solve 90 rfl) rfl ?_
            refine wp_ifN_lt (tgt := 189) (atd dX12_solve 91 rfl) (by decide) (by omega) ?_
            refine wp_aload_n (atd dX12_solve 92 rfl) rfl rfl ?_
            refine wp_get fX12_45 (atd dX12_solve 93 rfl) hM.1.1 rfl ?_
            refine wp_bipush (v := nI 9) (atd dX12_solve 94 rfl) (by decide) ?_
            refine wp_iload (atd dX12_solve 95 rfl) rfl ?_
            refine wp_imulN (atd dX12_solve 96 rfl) ?_
            refine wp_iload (atd dX12_solve 97 rfl) rfl ?_
            refine wp_iaddN (atd dX12_solve 98 rfl) ?_
            refine wp_iload (atd dX12_solve 99 rfl) rfl ?_
            refine wp_iconst (v := nI 1) (atd dX12_solve 100 rfl) (by decide) ?_
            refine wp_iaddN (atd dX12_solve 101 rfl) ?_
            refine wp_iastM (j := 10) (atd dX12_solve 102 rfl) hM (by decide) (by decide) rfl (show _ < 1485 from by omega) (fun σ hM => ?_)
            refine wp_iconst (v := nI 1) (atd dX12_solve 103 rfl) (by decide) ?_
            refine wp_istore_n (atd dX12_solve 104 rfl) (Nat.le_of_ble_eq_true rfl) ?_
            refine wp_iincN (c := 1) (atd dX12_solve 105 rfl) rfl ?_
            refine wp_goto (tgt := 126) (atd dX12_solve 106 rfl) (by decide) ?_
            have he : rdW nb n h kd F w i p = some (x + 1) := by unfold rdW; rw [hx]; show (match lbW nb n h kd F w i p with | none => none | some x => some (x + 1)) = _; rw [show lbW nb n h kd F w i p = some x from hy]
            exact ih _ _ 1 (p + 1) _ hM (hfb.va (by decide)) (mix_put hmx hn (by omega) (by rw [he]; rfl)) (by omega) (Or.inl ⟨rfl, i, p, hi, by omega, hx, fun z => by rw [show lbW nb n h kd F w i p = some x from hy] at z; cases z⟩) (by omega)
      ·
        have hz9 := hWB i p z hi (by omega) hx
        refine wp_ifN_ge (tgt := 162) (atd dX12_solve 82 rfl) (by decide) (by omega) ?_
        refine wp_iconst (v := -1) (atd dX12_solve 88 rfl) (by decide) ?_
        refine wp_istore (atd dX12_solve 89 rfl) (Nat.le_of_ble_eq_true rfl) ?_
        refine wp_iload (atd dX12_solve 90 rfl) rfl ?_
        refine wp_if_lt (tgt := 189) (atd dX12_solve 91 rfl) (by decide) (fun c_167 => ?_) (fun c_167 => ?_)
        ·
          refine wp_iincN (c := 1) (atd dX12_solve 105 rfl) rfl ?_
          refine wp_goto (tgt := 126) (atd dX12_solve 106 rfl) (by decide) ?_
          have he : rdW nb n h kd F w i p = w i p := by unfold rdW; rw [hx]
          exact ih _ B t (p + 1) _ hM hfb (mix_keep hmx he) ht (flg_step hfl (fun z => by rw [nw, hx] at z; cases z.1)) (by omega)
        · exact absurd (by decide) c_167
theorem lX12_solve2 {G : Gx} {d : Nat} {Q : Option Value → Hp → Prop} {σ0 : Hp} {m n h kd : Nat} {α : Nat → Int32} {B0 : Nat → Nat → Int32} {nb : Nat → Nat} {F : List Row} (hd : 4 ≤ d) (hp : α 2 = nI n) (hn : n ≤ 9) (hb : ∀ p, p < n → B0 1 p = nI (nb p)) (hw : ∀ p, nb p < 512) (h32 : α 32 = nI F.length) (hh : h ≤ 3) (hkd : kd < 3) (hF9 : F.length ≤ 165) (hR : RW B0 F h) (hin : RIn F n) (hcg : CG B0 nb h kd F) {w : Wo} {X : Nat} {B1 : Nat → Nat → Int32} (hf1 : frm [10, 11] B0 B1) (hr : WT B1 11 (rwt nb n kd h F w) F.length n) (hWB : WB w F.length n X) (hX : X < 9000) (hk : ∀ (σ : Hp) (B : Nat → Nat → Int32) (t : Nat) (e4 e5 e6 : Value), MA σ0 σ m α B → frm [10] B1 B → WT B 10 (mix nb n h kd F w F.length 0) F.length n → t ≤ 1 → flg nb n h kd F w t F.length 0 → Wp G mX12_solve d 100 [.ref m, .int (nI kd), .int (nI h), .int (nI t), e4, e5, e6] [] σ 0 0 Q) : ∀ (k : Nat) (σ : Hp) (B : Nat → Nat → Int32) (t i : Nat) (e5 e6 : Value), MA σ0 σ m α B → frm [10] B1 B → WT B 10 (mix nb n h kd F w i 0) F.length n → t ≤ 1 → flg nb n h kd F w t i 0 → i + k = F.length → Wp G mX12_solve d 114 [.ref m, .int (nI kd), .int (nI h), .int (nI t), .int (nI i), e5, e6] [] σ 0 0 Q := by
  intro k
  induction k with
  | zero =>
    intro σ B t i e5 e6 hM hfb hmx ht hfl hik
    have e : i = F.length := by omega
    subst e
    refine wp_iload (atd dX12_solve 64 rfl) rfl ?_
    refine wp_aload_n (atd dX12_solve 65 rfl) rfl rfl ?_
    refine wp_get fX12_234 (atd dX12_solve 66 rfl) hM.1.1 (congrArg (fun z => some (Value.int z)) h32) ?_
    refine wp_icmpN_ge (tgt := 201) (atd dX12_solve 67 rfl) (by decide) (by omega) (by omega) (fun c_120 => ?_) (fun c_120 => ?_)
    ·
      refine wp_goto (tgt := 100) (atd dX12_solve 109 rfl) (by decide) ?_
      exact hk _ B t _ _ _ hM hfb hmx ht hfl
    · exfalso; omega
  | succ k ih =>
    intro σ B t i e5 e6 hM hfb hmx ht hfl hik
    refine wp_iload (atd dX12_solve 64 rfl) rfl ?_
    refine wp_aload_n (atd dX12_solve 65 rfl) rfl rfl ?_
    refine wp_get fX12_234 (atd dX12_solve 66 rfl) hM.1.1 (congrArg (fun z => some (Value.int z)) h32) ?_
    refine wp_icmpN_ge (tgt := 201) (atd dX12_solve 67 rfl) (by decide) (by omega) (by omega) (fun c_120 => ?_) (fun c_120 => ?_)
    · exfalso; omega
    ·
      refine wp_iconst (v := nI 0) (atd dX12_solve 68 rfl) (by decide) ?_
      refine wp_istore (atd dX12_solve 69 rfl) (Nat.le_of_ble_eq_true rfl) ?_
      refine lX12_solve1 hd hp hn hb hw h32 hh hkd hF9 hR hin hcg hf1 hr hWB hX (i := i) (by omega) (fun σ B t e5 e6 hM hfb hmx ht hfl => ?_) n _ B t 0 _ hM hfb hmx ht hfl (by omega)
      refine wp_iincN (c := 1) (atd dX12_solve 107 rfl) rfl ?_
      refine wp_goto (tgt := 114) (atd dX12_solve 108 rfl) (by decide) ?_
      refine ih _ B t (i + 1) _ _ hM hfb (mix_row hmx) ht ?_ (by omega)
      rcases hfl with hfl | ⟨z1, z2⟩
      · exact Or.inl hfl
      · exact Or.inr ⟨z1, fun x y hxy hx hy => z2 x y (by omega) hx hy⟩
theorem oX12_solve {G : Gx} {d : Nat} {σ0 : Hp} {m n h kd : Nat} {α : Nat → Int32} {B0 : Nat → Nat → Int32} {nb : Nat → Nat} {F : List Row} (hd : 4 ≤ d) (hp : α 2 = nI n) (hn : n ≤ 9) (hb : ∀ p, p < n → B0 1 p = nI (nb p)) (hw : ∀ p, nb p < 512) (h32 : α 32 = nI F.length) (hh : h ≤ 3) (hkd : kd < 3) (hF9 : F.length ≤ 165) (hR : RW B0 F h) (hin : RIn F n) (hcg : CG B0 nb h kd F) {v : Wo} : ∀ (k : Nat) (σ : Hp) (B : Nat → Nat → Int32) (w : Wo) (X : Nat) (e4 e5 e6 : Value), MA σ0 σ m α B → frm [10, 11] B0 B → WT B 10 w F.length n → WB w F.length n X → X + k ≤ 4000 → nc w n F.length < k → slv nb n h kd F k w = v → Wp G mX12_solve d 100 [.ref m, .int (nI kd), .int (nI h), .int (nI 1), e4, e5, e6] [] σ 0 0 (pV fun s => ∃ B1, MA σ0 s m α B1 ∧ frm [10, 11] B0 B1 ∧ WT B1 10 v F.length n ∧ WT B1 11 (rwt nb n kd h F v) F.length n ∧ WB v F.length n 4000) := by
  obtain ⟨d0, hdd⟩ : ∃ e, d = e + 1 := ⟨d - 1, by omega⟩
  intro k
  induction k with
  | zero =>
    intro σ B w X e4 e5 e6 hM hfb hWT hWB hXk hnc hv
    exact absurd hnc (by omega)
  | succ k ih =>
    intro σ B w X e4 e5 e6 hM hfb hWT hWB hXk hnc hv
    have hb1 : ∀ p, p < n → B 1 p = nI (nb p) := fun p hpn => by rw [hfb 1 (by decide)]; exact hb p hpn
    have hR1 : RW B F h := fun i hi => by rw [hfb 7 (by decide), hfb 12 (by decide)]; exact hR i hi
    refine wp_iload_n (atd dX12_solve 55 rfl) rfl ?_
    refine wp_ifN_eq (tgt := 204) (atd dX12_solve 56 rfl) (by decide) (by omega) (fun c_101 => ?_) (fun c_101 => ?_)
    · exact absurd c_101 (by decide)
    ·
      refine wp_aload_n (atd dX12_solve 57 rfl) rfl rfl ?_
      refine wp_iload_n (atd dX12_solve 58 rfl) rfl ?_
      refine wp_cVv hdd [_] (atd dX12_solve 59 rfl) iX12_layRunner lX12_253 rfl rfl (Nat.le_of_ble_eq_true rfl) hM.1.1 rfl (eX12_layRunner (by omega) hM.self hp hn hb1 hw h32 hh hkd hF9 hR1 hin hWT hWB (by omega)) (fun s_106 h_106 => ?_)
      obtain ⟨B1, hM1, hf1, hr1⟩ := h_106
      have hM := hM.trans hM1
      refine wp_iconst (v := nI 0) (atd dX12_solve 60 rfl) (by decide) ?_
      refine wp_istore_n (atd dX12_solve 61 rfl) (Nat.le_of_ble_eq_true rfl) ?_
      refine wp_iconst (v := nI 0) (atd dX12_solve 62 rfl) (by decide) ?_
      refine wp_istore (atd dX12_solve 63 rfl) (Nat.le_of_ble_eq_true rfl) ?_
      refine lX12_solve2 hd hp hn hb hw h32 hh hkd hF9 hR hin hcg (w := w) (X := X) (B1 := B1) (hfb.tr (hf1.mono (by decide))) hr1 hWB (by omega) (fun σ B2 t e4 e5 e6 hM hfb2 hmx ht hfl => ?_) F.length _ B1 0 0 _ _ hM frm.rf (fun x y hx hy => by rw [hf1 10 (by decide), hWT x y hx hy]; exact congrArg oI (if_neg (by omega)).symm) (by omega) (Or.inr ⟨rfl, fun x y hxy => by omega⟩) (by omega)
      have hmx2 : WT B2 10 (rdW nb n h kd F w) F.length n := fun x y hx hy => by rw [hmx x y hx hy]; exact congrArg oI (if_pos (Or.inl hx))
      have hfb3 : frm [10, 11] B0 B2 := (hfb.tr (hf1.mono (by decide))).tr (hfb2.mono (by decide))
      rcases hfl with ⟨rfl, hcc⟩ | ⟨rfl, hno⟩
      · refine ih _ B2 (rdW nb n h kd F w) (X + 1) _ _ _ hM hfb3 hmx2 (rdW_le hWB) (by omega) (by have := nc_chg hcc; omega) ?_
        rw [← hv]
        exact (@if_pos _ (Classical.propDecidable _) hcc _ _ _).symm
      · have hnc2 : ¬ chg nb n h kd F w := fun ⟨x, y, hx, hy, hz⟩ => hno x y (Or.inl hx) hx hy hz
        have hvw : v = w := by rw [← hv]; exact @if_neg _ (Classical.propDecidable _) hnc2 _ _ _
        subst hvw
        have hsame : ∀ x y, x < F.length → y < n → rdW nb n h kd F v x y = v x y := fun x y hx hy => by
          unfold rdW
          split
          · rename_i z hz; exact hz.symm
          · rename_i hz
            rw [hz]
            split
            · rfl
            · rename_i z hz2
              exact absurd ⟨hz, fun q => by rw [hz2] at q; cases q⟩ (hno x y (Or.inl hx) hx hy)
        refine wp_iload_n (atd dX12_solve 55 rfl) rfl ?_
        refine wp_ifN_eq (tgt := 204) (atd dX12_solve 56 rfl) (by decide) (by omega) (fun c_101 => ?_) (fun c_101 => ?_)
        ·
          refine wp_vretv (atd dX12_solve 110 rfl) rfl ?_
          exact ⟨B2, hM, hfb3, fun x y hx hy => by rw [hmx2 x y hx hy, hsame x y hx hy], fun x y hx hy => by rw [hfb2 11 (by decide)]; exact hr1 x y hx hy, fun x y z hx hy hz => by have := hWB x y z hx hy hz; omega⟩
        · exact absurd c_101 (by decide)
