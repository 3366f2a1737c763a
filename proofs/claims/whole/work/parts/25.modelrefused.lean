theorem lX12_refusedC {G : Gx} {d : Nat} {Q : Option Value → Hp → Prop} {σ : Hp} {m n R X : Nat} {α : Nat → Int32} {B : Nat → Nat → Int32} {w : Wo} (hM : MA σ σ m α B) (hp : α 2 = nI n) (hn : n ≤ 9) (h32 : α 32 = nI R) (hR9 : R ≤ 165) (hWT : WT B 10 w R n) (hWB : WB w R n X) (hX : X < 100000) {i v : Nat} (hi : i < R) (hk : ∀ e4 : Value, v ≤ 9 * i + 9 → Wp G mX12_refused d 61 [.ref m, .int (-1), .int (nI v), .int (nI i), e4] [] σ 0 0 Q) : ∀ (k : Nat) (p c : Nat), p + k = n → c ≤ 9 * i + p → fl (ncR (w i)) k p c = v → Wp G mX12_refused d 15 [.ref m, .int (-1), .int (nI c), .int (nI i), .int (nI p)] [] σ 0 0 Q := by
  intro k
  induction k with
  | zero =>
    intro p c h2 hc hv
    refine wp_iload (atd dX12_refused 10 rfl) rfl ?_
    refine wp_aload_n (atd dX12_refused 11 rfl) rfl rfl ?_
    refine wp_get fX12_78 (atd dX12_refused 12 rfl) hM.1.1 (congrArg (fun z => some (Value.int z)) hp) ?_
    refine wp_icmpN_ge (tgt := 61) (atd dX12_refused 13 rfl) (by decide) (by omega) (by omega) (fun c_21 => ?_) (fun c_21 => ?_)
    ·
      have e : c = v := hv
      subst e
      exact hk _ (by omega)
    · exfalso; omega
  | succ k ih =>
    intro p c h2 hc hv
    refine wp_iload (atd dX12_refused 10 rfl) rfl ?_
    refine wp_aload_n (atd dX12_refused 11 rfl) rfl rfl ?_
    refine wp_get fX12_78 (atd dX12_refused 12 rfl) hM.1.1 (congrArg (fun z => some (Value.int z)) hp) ?_
    refine wp_icmpN_ge (tgt := 61) (atd dX12_refused 13 rfl) (by decide) (by omega) (by omega) (fun c_21 => ?_) (fun c_21 => ?_)
    · exfalso; omega
    ·
      refine wp_aload_n (atd dX12_refused 14 rfl) rfl rfl ?_
      refine wp_get fX12_45 (atd dX12_refused 15 rfl) hM.1.1 rfl ?_
      refine wp_bipush (v := nI 9) (atd dX12_refused 16 rfl) (by decide) ?_
      refine wp_iload_n (atd dX12_refused 17 rfl) rfl ?_
      refine wp_imulN (atd dX12_refused 18 rfl) ?_
      refine wp_iload (atd dX12_refused 19 rfl) rfl ?_
      refine wp_iaddN (atd dX12_refused 20 rfl) ?_
      refine wp_ialdN (atd dX12_refused 21 rfl) hM.a10 (show _ < 1485 from by omega) (Nat.le_of_ble_eq_true rfl) ?_
      rw [hWT i p hi (by omega)]
      generalize hx : w i p = xx; rcases xx with _ | x
      ·
        refine wp_if_ge (tgt := 55) (atd dX12_refused 22 rfl) (by decide) (fun c_36 => ?_) (fun c_36 => ?_)
        · exact absurd c_36 (by decide)
        ·
          refine wp_iload_n (atd dX12_refused 23 rfl) rfl ?_
          refine wp_iload_n (atd dX12_refused 24 rfl) rfl ?_
          refine wp_icmp_ne (tgt := 52) (atd dX12_refused 25 rfl) (by decide) (fun c_41 => ?_) (fun c_41 => ?_)
          ·
            refine wp_iincN (c := 1) (atd dX12_refused 32 rfl) rfl ?_
            refine wp_iincN (c := 1) (atd dX12_refused 33 rfl) rfl ?_
            refine wp_goto (tgt := 15) (atd dX12_refused 34 rfl) (by decide) ?_
            exact ih (p + 1) (c + 1) (by omega) (by omega) (by rw [← hv]; simp [fl, ncR, hx])
          · exact absurd (Classical.not_not.mp c_41) (nI_m1 (by omega))
      ·
        have hx9 := hWB i p x hi (by omega) hx
        refine wp_ifN_ge (tgt := 55) (atd dX12_refused 22 rfl) (by decide) (by omega) ?_
        refine wp_iincN (c := 1) (atd dX12_refused 33 rfl) rfl ?_
        refine wp_goto (tgt := 15) (atd dX12_refused 34 rfl) (by decide) ?_
        exact ih (p + 1) c (by omega) (by omega) (by rw [← hv]; simp [fl, ncR, hx])
theorem oX12_refusedC {G : Gx} {d : Nat} {σ : Hp} {m n R X : Nat} {α : Nat → Int32} {B : Nat → Nat → Int32} {w : Wo} (hM : MA σ σ m α B) (hp : α 2 = nI n) (hn : n ≤ 9) (h32 : α 32 = nI R) (hR9 : R ≤ 165) (hWT : WT B 10 w R n) (hWB : WB w R n X) (hX : X < 100000) {v : Nat} : ∀ (k i c : Nat) (e4 : Value), i + k = R → c ≤ 9 * i → fl (fun i a => fl (ncR (w i)) n 0 a) k i c = v → Wp G mX12_refused d 4 [.ref m, .int (-1), .int (nI c), .int (nI i), e4] [] σ 0 0 (pI fun r s => r = nI v ∧ s = σ) := by
  intro k
  induction k with
  | zero =>
    intro i c e4 h2 hc hv
    refine wp_iload_n (atd dX12_refused 4 rfl) rfl ?_
    refine wp_aload_n (atd dX12_refused 5 rfl) rfl rfl ?_
    refine wp_get fX12_234 (atd dX12_refused 6 rfl) hM.1.1 (congrArg (fun z => some (Value.int z)) h32) ?_
    refine wp_icmpN_ge (tgt := 67) (atd dX12_refused 7 rfl) (by decide) (by omega) (by omega) (fun c_9 => ?_) (fun c_9 => ?_)
    ·
      refine wp_iload_n (atd dX12_refused 37 rfl) rfl ?_
      refine wp_if_ge (tgt := 75) (atd dX12_refused 38 rfl) (by decide) (fun c_68 => ?_) (fun c_68 => ?_)
      · exact absurd c_68 (by decide)
      ·
        refine wp_iload_n (atd dX12_refused 39 rfl) rfl ?_
        refine wp_goto (tgt := 76) (atd dX12_refused 40 rfl) (by decide) ?_
        refine wp_ireti (atd dX12_refused 42 rfl) rfl ?_
        exact ⟨by rw [← hv]; rfl, rfl⟩
    · exfalso; omega
  | succ k ih =>
    intro i c e4 h2 hc hv
    refine wp_iload_n (atd dX12_refused 4 rfl) rfl ?_
    refine wp_aload_n (atd dX12_refused 5 rfl) rfl rfl ?_
    refine wp_get fX12_234 (atd dX12_refused 6 rfl) hM.1.1 (congrArg (fun z => some (Value.int z)) h32) ?_
    refine wp_icmpN_ge (tgt := 67) (atd dX12_refused 7 rfl) (by decide) (by omega) (by omega) (fun c_9 => ?_) (fun c_9 => ?_)
    · exfalso; omega
    ·
      refine wp_iconst (v := nI 0) (atd dX12_refused 8 rfl) (by decide) ?_
      refine wp_istore (atd dX12_refused 9 rfl) (Nat.le_of_ble_eq_true rfl) ?_
      refine lX12_refusedC (v := fl (ncR (w i)) n 0 c) hM hp hn h32 hR9 hWT hWB hX (i := i) (by omega) (fun e4 hvl => ?_) n 0 c (by omega) (by omega) rfl
      refine wp_iincN (c := 1) (atd dX12_refused 35 rfl) rfl ?_
      refine wp_goto (tgt := 4) (atd dX12_refused 36 rfl) (by decide) ?_
      exact ih (i + 1) _ _ (by omega) (by omega) (by rw [← hv]; rfl)
theorem eX12_refusedC {G : Gx} {d : Nat} {σ : Hp} (hd : 0 ≤ d) {m n R X : Nat} {α : Nat → Int32} {B : Nat → Nat → Int32} {w : Wo} (hM : MA σ σ m α B) (hp : α 2 = nI n) (hn : n ≤ 9) (h32 : α 32 = nI R) (hR9 : R ≤ 165) (hWT : WT B 10 w R n) (hWB : WB w R n X) (hX : X < 100000) : Cl G mX12_refused d [.ref m, .int (-1)] σ 0 0 (pI fun r s => r = nI (nc w n R) ∧ s = σ) := by
  refine cl_of (by decide) (by simp [Value.category]) (Nat.le_of_ble_eq_true rfl) ?_
  show Wp G mX12_refused d 0 [.ref m, .int (-1), .double 0, .double 0, .double 0] [] σ 0 0 _
  refine wp_iconst (v := nI 0) (atd dX12_refused 0 rfl) (by decide) ?_
  refine wp_istore_n (atd dX12_refused 1 rfl) (Nat.le_of_ble_eq_true rfl) ?_
  refine wp_iconst (v := nI 0) (atd dX12_refused 2 rfl) (by decide) ?_
  refine wp_istore_n (atd dX12_refused 3 rfl) (Nat.le_of_ble_eq_true rfl) ?_
  exact oX12_refusedC hM hp hn h32 hR9 hWT hWB hX R 0 0 _ (by omega) (by omega) rfl
def rfP (w : Nat → Option Nat) (i kk : Nat) : Nat → Nat → Nat → Option Nat × Nat
  | 0, _, c => (none, c)
  | k + 1, p, c => if w p = none then (if c = kk then (some (9 * i + p), c) else rfP w i kk k (p + 1) (c + 1)) else rfP w i kk k (p + 1) c
def rfR (w : Wo) (n kk : Nat) : Nat → Nat → Nat → Option Nat
  | 0, _, _ => none
  | k + 1, i, c => match rfP (w i) i kk n 0 c with
    | (some x, _) => some x
    | (none, c2) => rfR w n kk k (i + 1) c2
def rfF (w : Wo) (n R kk : Nat) : Option Nat := rfR w n kk R 0 0
theorem lX12_refusedI {G : Gx} {d : Nat} {P : Int32 → Hp → Prop} {σ : Hp} {m n R X : Nat} {α : Nat → Int32} {B : Nat → Nat → Int32} {w : Wo} (hM : MA σ σ m α B) (hp : α 2 = nI n) (hn : n ≤ 9) (h32 : α 32 = nI R) (hR9 : R ≤ 165) (hWT : WT B 10 w R n) (hWB : WB w R n X) (hX : X < 100000) {i kk : Nat} {v : Option Nat × Nat} (hi : i < R) (hkk : kk < 2 ^ 31) (hk : ∀ e4 : Value, v.1 = none → v.2 ≤ 9 * i + 9 → Wp G mX12_refused d 61 [.ref m, .int (nI kk), .int (nI v.2), .int (nI i), e4] [] σ 0 0 (pI P)) (hq : ∀ x, v.1 = some x → P (nI x) σ) : ∀ (k p c : Nat), p + k = n → c ≤ 9 * i + p → rfP (w i) i kk k p c = v → Wp G mX12_refused d 15 [.ref m, .int (nI kk), .int (nI c), .int (nI i), .int (nI p)] [] σ 0 0 (pI P) := by
  intro k
  induction k with
  | zero =>
    intro p c h2 hc hv
    refine wp_iload (atd dX12_refused 10 rfl) rfl ?_
    refine wp_aload_n (atd dX12_refused 11 rfl) rfl rfl ?_
    refine wp_get fX12_78 (atd dX12_refused 12 rfl) hM.1.1 (congrArg (fun z => some (Value.int z)) hp) ?_
    refine wp_icmpN_ge (tgt := 61) (atd dX12_refused 13 rfl) (by decide) (by omega) (by omega) (fun c_21 => ?_) (fun c_21 => ?_)
    ·
      have e : v = (none, c) := hv.symm
      subst e
      exact hk _ rfl (by show c ≤ _; omega)
    · exfalso; omega
  | succ k ih =>
    intro p c h2 hc hv
    refine wp_iload (atd dX12_refused 10 rfl) rfl ?_
    refine wp_aload_n (atd dX12_refused 11 rfl) rfl rfl ?_
    refine wp_get fX12_78 (atd dX12_refused 12 rfl) hM.1.1 (congrArg (fun z => some (Value.int z)) hp) ?_
    refine wp_icmpN_ge (tgt := 61) (atd dX12_refused 13 rfl) (by decide) (by omega) (by omega) (fun c_21 => ?_) (fun c_21 => ?_)
    · exfalso; omega
    ·
      refine wp_aload_n (atd dX12_refused 14 rfl) rfl rfl ?_
      refine wp_get fX12_45 (atd dX12_refused 15 rfl) hM.1.1 rfl ?_
      refine wp_bipush (v := nI 9) (atd dX12_refused 16 rfl) (by decide) ?_
      refine wp_iload_n (atd dX12_refused 17 rfl) rfl ?_
      refine wp_imulN (atd dX12_refused 18 rfl) ?_
      refine wp_iload (atd dX12_refused 19 rfl) rfl ?_
      refine wp_iaddN (atd dX12_refused 20 rfl) ?_
      refine wp_ialdN (atd dX12_refused 21 rfl) hM.a10 (show _ < 1485 from by omega) (Nat.le_of_ble_eq_true rfl) ?_
      rw [hWT i p hi (by omega)]
      generalize hx : w i p = xx; rcases xx with _ | x
      ·
        refine wp_if_ge (tgt := 55) (atd dX12_refused 22 rfl) (by decide) (fun c_36 => ?_) (fun c_36 => ?_)
        · exact absurd c_36 (by decide)
        ·
          refine wp_iload_n (atd dX12_refused 23 rfl) rfl ?_
          refine wp_iload_n (atd dX12_refused 24 rfl) rfl ?_
          refine wp_icmpN_ne (tgt := 52) (atd dX12_refused 25 rfl) (by decide) (by omega) (by omega) (fun c_41 => ?_) (fun c_41 => ?_)
          ·
            refine wp_iincN (c := 1) (atd dX12_refused 32 rfl) rfl ?_
            refine wp_iincN (c := 1) (atd dX12_refused 33 rfl) rfl ?_
            refine wp_goto (tgt := 15) (atd dX12_refused 34 rfl) (by decide) ?_
            exact ih (p + 1) (c + 1) (by omega) (by omega) (by rw [← hv]; simp [rfP, hx, c_41])
          ·
            refine wp_bipush (v := nI 9) (atd dX12_refused 26 rfl) (by decide) ?_
            refine wp_iload_n (atd dX12_refused 27 rfl) rfl ?_
            refine wp_imulN (atd dX12_refused 28 rfl) ?_
            refine wp_iload (atd dX12_refused 29 rfl) rfl ?_
            refine wp_iaddN (atd dX12_refused 30 rfl) ?_
            refine wp_ireti (atd dX12_refused 31 rfl) rfl ?_
            exact hq (9 * i + p) (by rw [← hv]; simp [rfP, hx, c_41])
      ·
        have hx9 := hWB i p x hi (by omega) hx
        refine wp_ifN_ge (tgt := 55) (atd dX12_refused 22 rfl) (by decide) (by omega) ?_
        refine wp_iincN (c := 1) (atd dX12_refused 33 rfl) rfl ?_
        refine wp_goto (tgt := 15) (atd dX12_refused 34 rfl) (by decide) ?_
        exact ih (p + 1) c (by omega) (by omega) (by rw [← hv]; simp [rfP, hx])
theorem oX12_refusedI {G : Gx} {d : Nat} {σ : Hp} {m n R X : Nat} {α : Nat → Int32} {B : Nat → Nat → Int32} {w : Wo} (hM : MA σ σ m α B) (hp : α 2 = nI n) (hn : n ≤ 9) (h32 : α 32 = nI R) (hR9 : R ≤ 165) (hWT : WT B 10 w R n) (hWB : WB w R n X) (hX : X < 100000) {kk : Nat} {v : Option Nat} (hkk : kk < 2 ^ 31) : ∀ (k i c : Nat) (e4 : Value), i + k = R → c ≤ 9 * i → rfR w n kk k i c = v → Wp G mX12_refused d 4 [.ref m, .int (nI kk), .int (nI c), .int (nI i), e4] [] σ 0 0 (pI fun r s => r = oI v ∧ s = σ) := by
  intro k
  induction k with
  | zero =>
    intro i c e4 h2 hc hv
    refine wp_iload_n (atd dX12_refused 4 rfl) rfl ?_
    refine wp_aload_n (atd dX12_refused 5 rfl) rfl rfl ?_
    refine wp_get fX12_234 (atd dX12_refused 6 rfl) hM.1.1 (congrArg (fun z => some (Value.int z)) h32) ?_
    refine wp_icmpN_ge (tgt := 67) (atd dX12_refused 7 rfl) (by decide) (by omega) (by omega) (fun c_9 => ?_) (fun c_9 => ?_)
    ·
      refine wp_iload_n (atd dX12_refused 37 rfl) rfl ?_
      refine wp_ifN_ge (tgt := 75) (atd dX12_refused 38 rfl) (by decide) (by omega) ?_
      refine wp_iconst (v := -1) (atd dX12_refused 41 rfl) (by decide) ?_
      refine wp_ireti (atd dX12_refused 42 rfl) rfl ?_
      exact ⟨by rw [← hv]; rfl, rfl⟩
    · exfalso; omega
  | succ k ih =>
    intro i c e4 h2 hc hv
    generalize hg : rfP (w i) i kk n 0 c = g
    obtain ⟨g1, g2⟩ := g
    refine wp_iload_n (atd dX12_refused 4 rfl) rfl ?_
    refine wp_aload_n (atd dX12_refused 5 rfl) rfl rfl ?_
    refine wp_get fX12_234 (atd dX12_refused 6 rfl) hM.1.1 (congrArg (fun z => some (Value.int z)) h32) ?_
    refine wp_icmpN_ge (tgt := 67) (atd dX12_refused 7 rfl) (by decide) (by omega) (by omega) (fun c_9 => ?_) (fun c_9 => ?_)
    · exfalso; omega
    ·
      refine wp_iconst (v := nI 0) (atd dX12_refused 8 rfl) (by decide) ?_
      refine wp_istore (atd dX12_refused 9 rfl) (Nat.le_of_ble_eq_true rfl) ?_
      refine lX12_refusedI (v := (g1, g2)) hM hp hn h32 hR9 hWT hWB hX (i := i) (by omega) hkk (fun e4 hvn hvl => ?_) (fun x hx => ⟨by rw [← hv, rfR, hg, show g1 = some x from hx]; rfl, rfl⟩) n 0 c (by omega) (by omega) hg
      have hvl2 : g2 ≤ 9 * i + 9 := hvl
      refine wp_iincN (c := 1) (atd dX12_refused 35 rfl) rfl ?_
      refine wp_goto (tgt := 4) (atd dX12_refused 36 rfl) (by decide) ?_
      exact ih (i + 1) _ _ (by omega) (show g2 ≤ _ by omega) (by rw [← hv, rfR, hg, show g1 = none from hvn])
theorem eX12_refusedI {G : Gx} {d : Nat} {σ : Hp} (hd : 0 ≤ d) {m n R X : Nat} {α : Nat → Int32} {B : Nat → Nat → Int32} {w : Wo} (hM : MA σ σ m α B) (hp : α 2 = nI n) (hn : n ≤ 9) (h32 : α 32 = nI R) (hR9 : R ≤ 165) (hWT : WT B 10 w R n) (hWB : WB w R n X) (hX : X < 100000) {kk : Nat} (hkk : kk < 2 ^ 31) : Cl G mX12_refused d [.ref m, .int (nI kk)] σ 0 0 (pI fun r s => r = oI (rfF w n R kk) ∧ s = σ) := by
  refine cl_of (by decide) (by simp [Value.category]) (Nat.le_of_ble_eq_true rfl) ?_
  show Wp G mX12_refused d 0 [.ref m, .int (nI kk), .double 0, .double 0, .double 0] [] σ 0 0 _
  refine wp_iconst (v := nI 0) (atd dX12_refused 0 rfl) (by decide) ?_
  refine wp_istore_n (atd dX12_refused 1 rfl) (Nat.le_of_ble_eq_true rfl) ?_
  refine wp_iconst (v := nI 0) (atd dX12_refused 2 rfl) (by decide) ?_
  refine wp_istore_n (atd dX12_refused 3 rfl) (Nat.le_of_ble_eq_true rfl) ?_
  exact oX12_refusedI hM hp hn h32 hR9 hWT hWB hX hkk R 0 0 _ (by omega) (by omega) rfl
theorem eX12_refusals {G : Gx} {d : Nat} {σ : Hp} (hd : 6 ≤ d) {m n : Nat} {α : Nat → Int32} {B : Nat → Nat → Int32} {nb : Nat → Nat} (hM : MA σ σ m α B) (hp : α 2 = nI n) (hn : n ≤ 9) (hb : ∀ p, p < n → B 1 p = nI (nb p)) (hw : ∀ p, nb p < 512) (ho : ∀ j, j < 18 → B 8 j = nI (ordT j)) (hG : GOk α B nb n) {a b : Int32} : Cl G mX12_refusals d [.ref m, .int a, .int b] σ 0 0 (pI fun r s => r = gmF a b n (fun kd h => nI (nc (slvF nb n h kd) n (rowsL h n).length)) (-1) ∧ GX σ s m α B nb n) := by
  obtain ⟨d0, hdd⟩ : ∃ e, d = e + 1 := ⟨d - 1, by omega⟩
  refine cl_of (by decide) (by simp [Value.category]) (Nat.le_of_ble_eq_true rfl) ?_
  show Wp G mX12_refusals d 0 [.ref m, .int a, .int b] [] σ 0 0 _
  refine wp_aload_n (atd dX12_refusals 0 rfl) rfl rfl ?_
  refine wp_iconst (v := nI 0) (atd dX12_refusals 1 rfl) (by decide) ?_
  refine wp_putM fX12_75 (atd dX12_refusals 2 rfl) hM rfl (fun σ hM => ?_)
  refine wp_aload_n (atd dX12_refusals 3 rfl) rfl rfl ?_
  refine wp_iload_n (atd dX12_refusals 4 rfl) rfl ?_
  refine wp_iload_n (atd dX12_refusals 5 rfl) rfl ?_
  refine wp_cVi hdd [_, _] (atd dX12_refusals 6 rfl) iX12_isGame lX12_271 rfl rfl (Nat.le_of_ble_eq_true rfl) hM.1.1 rfl (eX12_isGame (by omega) hM.self hp hn) (fun r_8 s_8 h_8 => ?_)
  obtain ⟨rfl, rfl⟩ := h_8
  refine wp_ifB_ne (tgt := 16) (atd dX12_refusals 7 rfl) (by decide) (fun c_11 => ?_) (fun c_11 => ?_)
  ·
    obtain ⟨kd, hkd, rfl⟩ := isP_ofB c_11.1
    obtain ⟨h, hh1, hh, rfl⟩ := isH_of c_11.2.1
    have hn1 := c_11.2.2
    refine wp_aload_n (atd dX12_refusals 10 rfl) rfl rfl ?_
    refine wp_iload_n (atd dX12_refusals 11 rfl) rfl ?_
    refine wp_iload_n (atd dX12_refusals 12 rfl) rfl ?_
    refine wp_cVv hdd [_, _] (atd dX12_refusals 13 rfl) iX12_solve lX12_265 rfl rfl (Nat.le_of_ble_eq_true rfl) hM.1.1 rfl (eX12_solve (by omega) hM.self hp hn hb hw ho hG hkd hh1 hh) (fun s_19 h_19 => ?_)
    obtain ⟨α1, B1, hM1, hfa1, hfb1, k19, k20, hGS⟩ := h_19
    have hM := hM.trans hM1
    have hR9 := rowsL_len n (by omega) h (by omega)
    have hR1 := rowsL_pos n (by omega) hn1 h (by omega) hh1
    have hp1 : α1 2 = nI n := (hfa1 2 (by decide)).trans hp
    refine wp_aload_n (atd dX12_refusals 14 rfl) rfl rfl ?_
    refine wp_iconst (v := -1) (atd dX12_refusals 15 rfl) (by decide) ?_
    refine wp_cVi hdd [_] (atd dX12_refusals 16 rfl) iX12_refused lX12_295 rfl rfl (Nat.le_of_ble_eq_true rfl) hM.1.1 rfl (eX12_refusedC (by omega) hM.self hp1 hn hGS.2.1 hR9 hGS.2.2.2.2.1 hGS.2.2.2.2.2.2 (by omega)) (fun r_24 s_24 h_24 => ?_)
    obtain ⟨rfl, rfl⟩ := h_24
    refine wp_ireti (atd dX12_refusals 17 rfl) rfl ?_
    refine ⟨by rw [gmF_t hkd hh1 hh hn1], ⟨α1, B1, hM, frm_sub (frm.up (f := α) (frm.rf (S := [0])) (by decide)) hfa1 (by decide) (by decide), hfb1, (hfa1 0 (by decide)).trans rfl, Or.inr ⟨kd, h, hkd, hh1, hh, k19, k20, hGS⟩⟩⟩
  ·
    refine wp_iconst (v := -1) (atd dX12_refusals 8 rfl) (by decide) ?_
    refine wp_ireti (atd dX12_refusals 9 rfl) rfl ?_
    refine ⟨by rw [gmF_f c_11], ⟨_, B, hM, frm.up frm.rf (by decide), frm.rf, rfl, hG⟩⟩
theorem rfF_lt {w : Wo} {n R kk x : Nat} (h : rfF w n R kk = some x) : x / 9 < R ∧ x % 9 < n ∨ ¬ n ≤ 9 := by
  by_cases hn : n ≤ 9
  · refine Or.inl ?_
    have hP : ∀ (w : Nat → Option Nat) (i k p c : Nat), p + k = n → ∀ y, (rfP w i kk k p c).1 = some y → y / 9 = i ∧ y % 9 < n := by
      intro w i k
      induction k with
      | zero => intro p c _ y hy; cases hy
      | succ k ih =>
        intro p c hp y hy
        unfold rfP at hy
        split at hy
        · split at hy
          · cases hy; omega
          · exact ih (p + 1) (c + 1) (by omega) y hy
        · exact ih (p + 1) c (by omega) y hy
    have hR : ∀ (k i c : Nat), i + k = R → rfR w n kk k i c = some x → x / 9 < R ∧ x % 9 < n := by
      intro k
      induction k with
      | zero => intro i c _ hy; cases hy
      | succ k ih =>
        intro i c hi hy
        unfold rfR at hy
        generalize hg : rfP (w i) i kk n 0 c = g at hy
        obtain ⟨g1, g2⟩ := g
        cases g1 with
        | none => exact ih (i + 1) g2 (by omega) hy
        | some z =>
          cases hy
          have := hP (w i) i n 0 c (by omega) x (by rw [hg])
          omega
    exact hR R 0 0 (by omega) h
  · exact Or.inr hn
noncomputable def refF (nb : Nat → Nat) (n kd h : Nat) (c : Int32) (j : Nat) : Int32 := match rfF (slvF nb n h kd) n (rowsL h n).length c.toNatClampNeg with
  | none => -1
  | some x => if j = 0 then nI (x % 9) else nI (rk (rowAt (rowsL h n) (x / 9)) (j - 1))
theorem eX12_refusal {G : Gx} {d : Nat} {σ : Hp} (hd : 6 ≤ d) {m n : Nat} {α : Nat → Int32} {B : Nat → Nat → Int32} {nb : Nat → Nat} (hM : MA σ σ m α B) (hp : α 2 = nI n) (hn : n ≤ 9) (hb : ∀ p, p < n → B 1 p = nI (nb p)) (hw : ∀ p, nb p < 512) (ho : ∀ j, j < 18 → B 8 j = nI (ordT j)) (hG : GOk α B nb n) {a b c e : Int32} : Cl G mX12_refusal d [.ref m, .int a, .int b, .int c, .int e] σ 0 0 (pI fun r s => r = gmF a b n (fun kd h => if c < 0 then -1 else atP e (h + 1) (refF nb n kd h c) (-1)) (-1) ∧ GX σ s m α B nb n) := by
  obtain ⟨d0, hdd⟩ : ∃ e, d = e + 1 := ⟨d - 1, by omega⟩
  refine cl_of (by decide) (by simp [Value.category]) (Nat.le_of_ble_eq_true rfl) ?_
  show Wp G mX12_refusal d 0 [.ref m, .int a, .int b, .int c, .int e, .double 0] [] σ 0 0 _
  refine wp_aload_n (atd dX12_refusal 0 rfl) rfl rfl ?_
  refine wp_iconst (v := nI 0) (atd dX12_refusal 1 rfl) (by decide) ?_
  refine wp_putM fX12_75 (atd dX12_refusal 2 rfl) hM rfl (fun σ hM => ?_)
  refine wp_aload_n (atd dX12_refusal 3 rfl) rfl rfl ?_
  refine wp_iload_n (atd dX12_refusal 4 rfl) rfl ?_
  refine wp_iload_n (atd dX12_refusal 5 rfl) rfl ?_
  refine wp_cVi hdd [_, _] (atd dX12_refusal 6 rfl) iX12_isGame lX12_271 rfl rfl (Nat.le_of_ble_eq_true rfl) hM.1.1 rfl (eX12_isGame (by omega) hM.self hp hn) (fun r_8 s_8 h_8 => ?_)
  obtain ⟨rfl, rfl⟩ := h_8
  refine wp_ifB_eq (tgt := 28) (atd dX12_refusal 7 rfl) (by decide) (fun c_11 => ?_) (fun c_11 => ?_)
  ·
    refine wp_iconst (v := -1) (atd dX12_refusal 15 rfl) (by decide) ?_
    refine wp_ireti (atd dX12_refusal 16 rfl) rfl ?_
    refine ⟨by rw [gmF_f c_11], ⟨_, B, hM, frm.up frm.rf (by decide), frm.rf, rfl, hG⟩⟩
  ·
    obtain ⟨kd, hkd, rfl⟩ := isP_ofB c_11.1
    obtain ⟨h, hh1, hh, rfl⟩ := isH_of c_11.2.1
    have hn1 := c_11.2.2
    refine wp_iload_n (atd dX12_refusal 8 rfl) rfl ?_
    refine wp_if_lt (tgt := 28) (atd dX12_refusal 9 rfl) (by decide) (fun c_15 => ?_) (fun c_15 => ?_)
    ·
      refine wp_iconst (v := -1) (atd dX12_refusal 15 rfl) (by decide) ?_
      refine wp_ireti (atd dX12_refusal 16 rfl) rfl ?_
      refine ⟨by rw [gmF_t hkd hh1 hh hn1, if_pos c_15], ⟨_, B, hM, frm.up frm.rf (by decide), frm.rf, rfl, hG⟩⟩
    ·
      obtain ⟨kk, hkk, rfl⟩ := nI_of c_15
      refine wp_iload (atd dX12_refusal 10 rfl) rfl ?_
      refine wp_iconst (v := nI 0) (atd dX12_refusal 11 rfl) (by decide) ?_
      refine wp_iload_n (atd dX12_refusal 12 rfl) rfl ?_
      refine wp_cSi hdd [_, _, _] (atd dX12_refusal 13 rfl) iX12_in lX12_81 rfl rfl (Nat.le_of_ble_eq_true rfl) (eX12_in (by omega)) (fun r_22 s_22 h_22 => ?_)
      obtain ⟨rfl, rfl⟩ := h_22
      rw [bI_c (isP_le (by omega))]
      refine wp_ifB_ne (tgt := 30) (atd dX12_refusal 14 rfl) (by decide) (fun c_25 => ?_) (fun c_25 => ?_)
      ·
        obtain ⟨j, hj, rfl⟩ := isP_ofB c_25
        refine wp_aload_n (atd dX12_refusal 17 rfl) rfl rfl ?_
        refine wp_iload_n (atd dX12_refusal 18 rfl) rfl ?_
        refine wp_iload_n (atd dX12_refusal 19 rfl) rfl ?_
        refine wp_cVv hdd [_, _] (atd dX12_refusal 20 rfl) iX12_solve lX12_265 rfl rfl (Nat.le_of_ble_eq_true rfl) hM.1.1 rfl (eX12_solve (by omega) hM.self hp hn hb hw ho hG hkd hh1 hh) (fun s_33 h_33 => ?_)
        obtain ⟨α1, B1, hM1, hfa1, hfb1, k19, k20, hGS⟩ := h_33
        have hM := hM.trans hM1
        have hR9 := rowsL_len n (by omega) h (by omega)
        have hR1 := rowsL_pos n (by omega) hn1 h (by omega) hh1
        have hp1 : α1 2 = nI n := (hfa1 2 (by decide)).trans hp
        refine wp_aload_n (atd dX12_refusal 21 rfl) rfl rfl ?_
        refine wp_iload_n (atd dX12_refusal 22 rfl) rfl ?_
        refine wp_cVi hdd [_] (atd dX12_refusal 23 rfl) iX12_refused lX12_295 rfl rfl (Nat.le_of_ble_eq_true rfl) hM.1.1 rfl (eX12_refusedI (by omega) hM.self hp1 hn hGS.2.1 hR9 hGS.2.2.2.2.1 hGS.2.2.2.2.2.2 (by omega) hkk) (fun r_38 s_38 h_38 => ?_)
        obtain ⟨rfl, rfl⟩ := h_38
        generalize hx : rfF (slvF nb n h kd) n (rowsL h n).length kk = xx; rcases xx with _ | x
        ·
          refine wp_istore (atd dX12_refusal 24 rfl) (Nat.le_of_ble_eq_true rfl) ?_
          refine wp_iload (atd dX12_refusal 25 rfl) rfl ?_
          refine wp_if_ge (tgt := 52) (atd dX12_refusal 26 rfl) (by decide) (fun c_45 => ?_) (fun c_45 => ?_)
          · exact absurd c_45 (by decide)
          ·
            refine wp_iconst (v := -1) (atd dX12_refusal 27 rfl) (by decide) ?_
            refine wp_goto (tgt := 82) (atd dX12_refusal 28 rfl) (by decide) ?_
            refine wp_ireti (atd dX12_refusal 47 rfl) rfl ?_
            refine ⟨by rw [gmF_t hkd hh1 hh hn1, if_neg c_15, atP_t (by omega) hj]; unfold refF; rw [nI_clamp hkk, hx], ⟨α1, B1, hM, frm_sub (frm.up (f := α) (frm.rf (S := [0])) (by decide)) hfa1 (by decide) (by decide), hfb1, (hfa1 0 (by decide)).trans rfl, Or.inr ⟨kd, h, hkd, hh1, hh, k19, k20, hGS⟩⟩⟩
        ·
          have hx9 : x / 9 < (rowsL h n).length ∧ x % 9 < n := (rfF_lt hx).resolve_right (fun z => z hn)
          refine wp_istore (atd dX12_refusal 24 rfl) (Nat.le_of_ble_eq_true rfl) ?_
          refine wp_iload (atd dX12_refusal 25 rfl) rfl ?_
          refine wp_ifN_ge (tgt := 52) (atd dX12_refusal 26 rfl) (by decide) (by omega) ?_
          refine wp_iload (atd dX12_refusal 29 rfl) rfl ?_
          refine wp_ifN_ne (tgt := 65) (atd dX12_refusal 30 rfl) (by decide) (by omega) (fun c_54 => ?_) (fun c_54 => ?_)
          ·
            refine wp_aload_n (atd dX12_refusal 35 rfl) rfl rfl ?_
            refine wp_get fX12_35 (atd dX12_refusal 36 rfl) hM.1.1 rfl ?_
            refine wp_iconst (v := nI 3) (atd dX12_refusal 37 rfl) (by decide) ?_
            refine wp_iload (atd dX12_refusal 38 rfl) rfl ?_
            refine wp_bipush (v := nI 9) (atd dX12_refusal 39 rfl) (by decide) ?_
            refine wp_idivN (atd dX12_refusal 40 rfl) (by omega) (by omega) (by omega) ?_
            refine wp_imulN (atd dX12_refusal 41 rfl) ?_
            refine wp_iload (atd dX12_refusal 42 rfl) rfl ?_
            refine wp_iaddN (atd dX12_refusal 43 rfl) ?_
            refine wp_iconst (v := nI 1) (atd dX12_refusal 44 rfl) (by decide) ?_
            refine wp_isubN (atd dX12_refusal 45 rfl) (by omega) ?_
            refine wp_ialdN (atd dX12_refusal 46 rfl) hM.a7 (show _ < 495 from by omega) (Nat.le_of_ble_eq_true rfl) ?_
            rw [show B1 7 (3 * (x / 9) + j - 1) = nI (rk (rowAt (rowsL h n) (x / 9)) (j - 1)) by rw [show 3 * (x / 9) + j - 1 = 3 * (x / 9) + (j - 1) by omega]; exact (hGS.2.2.1 _ hx9.1).1 (j - 1) (by omega)]
            refine wp_ireti (atd dX12_refusal 47 rfl) rfl ?_
            refine ⟨by rw [gmF_t hkd hh1 hh hn1, if_neg c_15, atP_t (by omega) hj]; unfold refF; rw [nI_clamp hkk, hx]; show _ = (if j = 0 then _ else nI (rk (rowAt (rowsL h n) (x / 9)) (j - 1))); rw [if_neg (by omega)], ⟨α1, B1, hM, frm_sub (frm.up (f := α) (frm.rf (S := [0])) (by decide)) hfa1 (by decide) (by decide), hfb1, (hfa1 0 (by decide)).trans rfl, Or.inr ⟨kd, h, hkd, hh1, hh, k19, k20, hGS⟩⟩⟩
          ·
            refine wp_iload (atd dX12_refusal 31 rfl) rfl ?_
            refine wp_bipush (v := nI 9) (atd dX12_refusal 32 rfl) (by decide) ?_
            refine wp_iremN (atd dX12_refusal 33 rfl) (by omega) (by omega) (by omega) ?_
            refine wp_goto (tgt := 82) (atd dX12_refusal 34 rfl) (by decide) ?_
            refine wp_ireti (atd dX12_refusal 47 rfl) rfl ?_
            refine ⟨by rw [gmF_t hkd hh1 hh hn1, if_neg c_15, atP_t (by omega) hj]; unfold refF; rw [nI_clamp hkk, hx]; show _ = (if j = 0 then nI (x % 9) else _); rw [if_pos c_54], ⟨α1, B1, hM, frm_sub (frm.up (f := α) (frm.rf (S := [0])) (by decide)) hfa1 (by decide) (by decide), hfb1, (hfa1 0 (by decide)).trans rfl, Or.inr ⟨kd, h, hkd, hh1, hh, k19, k20, hGS⟩⟩⟩
      ·
        refine wp_iconst (v := -1) (atd dX12_refusal 15 rfl) (by decide) ?_
        refine wp_ireti (atd dX12_refusal 16 rfl) rfl ?_
        refine ⟨by rw [gmF_t hkd hh1 hh hn1, if_neg c_15, atP_f c_25], ⟨_, B, hM, frm.up frm.rf (by decide), frm.rf, rfl, hG⟩⟩
