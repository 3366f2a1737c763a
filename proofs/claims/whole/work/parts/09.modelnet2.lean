theorem or_lt9 {a b : Nat} (ha : a < 512) (hb : b < 512) : a ||| b < 512 := Nat.or_lt_two_pow (n := 9) ha hb
theorem fl_lt9 {g : Nat → Nat → Nat} (hg : ∀ i w, w < 512 → g i w < 512) : ∀ (k i w : Nat), w < 512 → fl g k i w < 512
  | 0, _, _, h => h
  | k + 1, i, w, h => fl_lt9 hg k (i + 1) (g i w) (hg i w h)
theorem nallG_lt {nb : Nat → Nat} (hw : ∀ p, nb p < 512) (s : Nat) : ∀ i w, w < 512 → nallG nb s i w < 512 := fun i w h => by
  unfold nallG
  split
  · exact or_lt9 h (hw i)
  · exact h
theorem nall_lt {nb : Nat → Nat} (hw : ∀ p, nb p < 512) (n s : Nat) : nall nb n s < 512 := fl_lt9 (nallG_lt hw s) n 0 0 (by decide)
/-- a step from a set, which stays in it -/
def nst (nb : Nat → Nat) (n s : Nat) : Nat := fl (nallG nb s) n 0 s
theorem nst_lt {nb : Nat → Nat} (hw : ∀ p, nb p < 512) (n : Nat) {s : Nat} (hs : s < 512) : nst nb n s < 512 := fl_lt9 (nallG_lt hw s) n 0 s hs
/-- how many steps to a place: k tries from i on -/
def stp (nb : Nat → Nat) (n to : Nat) : Nat → Nat → Nat → Option Nat
  | 0, _, _ => none
  | k + 1, i, s => if s.testBit to = true then some i else stp nb n to k (i + 1) (nst nb n s)
/-- near without a line -/
def nbx (nb : Nat → Nat) (fr a : Nat) (p : Nat) : Nat := if p = fr then dif (nb p) (2 ^ a) else nb p
theorem nbx_lt {nb : Nat → Nat} (hw : ∀ p, nb p < 512) (fr a : Nat) : ∀ p, nbx nb fr a p < 512 := fun p => by
  unfold nbx
  split
  · exact dif_lt9 (hw p)
  · exact hw p
theorem pow_lt9 {j : Nat} (h : j < 9) : 2 ^ j < 512 := Nat.pow_lt_pow_right (n := 9) (by decide) h
theorem lX12_steps0 {G : Gx} {d : Nat} {Q : Option Value → Hp → Prop} {σ : Hp} (hd : 1 ≤ d) {m n : Nat} {α : Nat → Int32} {B : Nat → Nat → Int32} {nb : Nat → Nat} (hM : MA σ σ m α B) (hp : α 2 = nI n) (hn : n ≤ 9) (hb : ∀ p, p < n → B 1 p = nI (nb p)) (hw : ∀ p, nb p < 512) {fr to i s v : Nat} (hfr : fr < n) (hto : to < n) (hs : s < 512) (hk : ∀ e7 e8 : Value, Wp G mX12_steps d 99 [.ref m, .int (nI fr), .int (nI to), .int (-1), .int (nI s), .int (nI i), .int (nI v), e7, e8] [] σ 0 0 Q) : ∀ (k : Nat) (p w : Nat) (e8 : Value), p + k = n → fl (nallG nb s) k p w = v → Wp G mX12_steps d 34 [.ref m, .int (nI fr), .int (nI to), .int (-1), .int (nI s), .int (nI i), .int (nI w), .int (nI p), e8] [] σ 0 0 Q := by
  obtain ⟨d0, hdd⟩ : ∃ e, d = e + 1 := ⟨d - 1, by omega⟩
  intro k
  induction k with
  | zero =>
    intro p w e8 h hv
    refine wp_iload (atd dX12_steps 19 rfl) rfl ?_
    refine wp_aload_n (atd dX12_steps 20 rfl) rfl rfl ?_
    refine wp_get fX12_78 (atd dX12_steps 21 rfl) hM.1.1 (congrArg (fun z => some (Value.int z)) hp) ?_
    refine wp_icmpN_ge (tgt := 99) (atd dX12_steps 22 rfl) (by decide) (by omega) (by omega) (fun c_40 => ?_) (fun c_40 => ?_)
    ·
      have hv2 : w = v := hv
      subst hv2
      exact hk _ _
    · exfalso; omega
  | succ k ih =>
    intro p w e8 h hv
    refine wp_iload (atd dX12_steps 19 rfl) rfl ?_
    refine wp_aload_n (atd dX12_steps 20 rfl) rfl rfl ?_
    refine wp_get fX12_78 (atd dX12_steps 21 rfl) hM.1.1 (congrArg (fun z => some (Value.int z)) hp) ?_
    refine wp_icmpN_ge (tgt := 99) (atd dX12_steps 22 rfl) (by decide) (by omega) (by omega) (fun c_40 => ?_) (fun c_40 => ?_)
    · exfalso; omega
    ·
      refine wp_aload_n (atd dX12_steps 23 rfl) rfl rfl ?_
      refine wp_get fX12_7 (atd dX12_steps 24 rfl) hM.1.1 rfl ?_
      refine wp_iload (atd dX12_steps 25 rfl) rfl ?_
      refine wp_ialdN (atd dX12_steps 26 rfl) hM.a1 (show _ < 9 from by omega) (Nat.le_of_ble_eq_true rfl) ?_
      rw [hb p (by omega)]
      refine wp_istore (atd dX12_steps 27 rfl) (Nat.le_of_ble_eq_true rfl) ?_
      refine wp_iload (atd dX12_steps 28 rfl) rfl ?_
      refine wp_iload_n (atd dX12_steps 29 rfl) rfl ?_
      refine wp_icmpN_ne (tgt := 72) (atd dX12_steps 30 rfl) (by decide) (by omega) (by omega) (fun c_55 => ?_) (fun c_55 => ?_)
      ·
        refine wp_iload (atd dX12_steps 41 rfl) rfl ?_
        refine wp_iload (atd dX12_steps 42 rfl) rfl ?_
        refine wp_iload (atd dX12_steps 43 rfl) rfl ?_
        refine wp_cSi hdd [_, _] (atd dX12_steps 44 rfl) iX12_isOf lX12_149 rfl rfl (Nat.le_of_ble_eq_true rfl) (eX12_isOf (by omega) (by omega) (by omega)) (fun r_78 s_78 h_78 => ?_)
        obtain ⟨rfl, rfl⟩ := h_78
        refine wp_ifB_eq (tgt := 89) (atd dX12_steps 45 rfl) (by decide) (fun c_81 => ?_) (fun c_81 => ?_)
        ·
          refine wp_iconst (v := nI 0) (atd dX12_steps 48 rfl) (by decide) ?_
          refine wp_iorN (atd dX12_steps 49 rfl) ?_
          refine wp_istore (atd dX12_steps 50 rfl) (Nat.le_of_ble_eq_true rfl) ?_
          refine wp_iincN (c := 1) (atd dX12_steps 51 rfl) rfl ?_
          refine wp_goto (tgt := 34) (atd dX12_steps 52 rfl) (by decide) ?_
          exact ih (p + 1) _ _ (by omega) (by rw [← hv]; simp [fl, nallG, c_81])
        ·
          refine wp_iload (atd dX12_steps 46 rfl) rfl ?_
          refine wp_goto (tgt := 90) (atd dX12_steps 47 rfl) (by decide) ?_
          refine wp_iorN (atd dX12_steps 49 rfl) ?_
          refine wp_istore (atd dX12_steps 50 rfl) (Nat.le_of_ble_eq_true rfl) ?_
          refine wp_iincN (c := 1) (atd dX12_steps 51 rfl) rfl ?_
          refine wp_goto (tgt := 34) (atd dX12_steps 52 rfl) (by decide) ?_
          exact ih (p + 1) _ _ (by omega) (by rw [← hv]; simp [fl, nallG, c_81])
      ·
        refine wp_iload_n (atd dX12_steps 31 rfl) rfl ?_
        refine wp_if_lt (tgt := 72) (atd dX12_steps 32 rfl) (by decide) (fun c_59 => ?_) (fun c_59 => ?_)
        ·
          refine wp_iload (atd dX12_steps 41 rfl) rfl ?_
          refine wp_iload (atd dX12_steps 42 rfl) rfl ?_
          refine wp_iload (atd dX12_steps 43 rfl) rfl ?_
          refine wp_cSi hdd [_, _] (atd dX12_steps 44 rfl) iX12_isOf lX12_149 rfl rfl (Nat.le_of_ble_eq_true rfl) (eX12_isOf (by omega) (by omega) (by omega)) (fun r_78 s_78 h_78 => ?_)
          obtain ⟨rfl, rfl⟩ := h_78
          refine wp_ifB_eq (tgt := 89) (atd dX12_steps 45 rfl) (by decide) (fun c_81 => ?_) (fun c_81 => ?_)
          ·
            refine wp_iconst (v := nI 0) (atd dX12_steps 48 rfl) (by decide) ?_
            refine wp_iorN (atd dX12_steps 49 rfl) ?_
            refine wp_istore (atd dX12_steps 50 rfl) (Nat.le_of_ble_eq_true rfl) ?_
            refine wp_iincN (c := 1) (atd dX12_steps 51 rfl) rfl ?_
            refine wp_goto (tgt := 34) (atd dX12_steps 52 rfl) (by decide) ?_
            exact ih (p + 1) _ _ (by omega) (by rw [← hv]; simp [fl, nallG, c_81])
          ·
            refine wp_iload (atd dX12_steps 46 rfl) rfl ?_
            refine wp_goto (tgt := 90) (atd dX12_steps 47 rfl) (by decide) ?_
            refine wp_iorN (atd dX12_steps 49 rfl) ?_
            refine wp_istore (atd dX12_steps 50 rfl) (Nat.le_of_ble_eq_true rfl) ?_
            refine wp_iincN (c := 1) (atd dX12_steps 51 rfl) rfl ?_
            refine wp_goto (tgt := 34) (atd dX12_steps 52 rfl) (by decide) ?_
            exact ih (p + 1) _ _ (by omega) (by rw [← hv]; simp [fl, nallG, c_81])
        · exact absurd (by decide) c_59
theorem oX12_steps0 {G : Gx} {d : Nat} {σ : Hp} (hd : 1 ≤ d) {m n : Nat} {α : Nat → Int32} {B : Nat → Nat → Int32} {nb : Nat → Nat} (hM : MA σ σ m α B) (hp : α 2 = nI n) (hn : n ≤ 9) (hb : ∀ p, p < n → B 1 p = nI (nb p)) (hw : ∀ p, nb p < 512) {fr to : Nat} {v : Option Nat} (hfr : fr < n) (hto : to < n) : ∀ (k i s : Nat) (e6 e7 e8 : Value), i + k = 10 → s < 512 → stp nb n to k i s = v → Wp G mX12_steps d 8 [.ref m, .int (nI fr), .int (nI to), .int (-1), .int (nI s), .int (nI i), e6, e7, e8] [] σ 0 0 (pI fun r s2 => r = oI v ∧ s2 = σ) := by
  obtain ⟨d0, hdd⟩ : ∃ e, d = e + 1 := ⟨d - 1, by omega⟩
  intro k
  induction k with
  | zero =>
    intro i s e6 e7 e8 h hs hv
    refine wp_iload (atd dX12_steps 6 rfl) rfl ?_
    refine wp_bipush (v := nI 9) (atd dX12_steps 7 rfl) (by decide) ?_
    refine wp_icmpN_gt (tgt := 109) (atd dX12_steps 8 rfl) (by decide) (by omega) (by omega) (fun c_12 => ?_) (fun c_12 => ?_)
    ·
      refine wp_iconst (v := -1) (atd dX12_steps 57 rfl) (by decide) ?_
      refine wp_ireti (atd dX12_steps 58 rfl) rfl ?_
      exact ⟨by rw [← hv]; rfl, rfl⟩
    · exfalso; omega
  | succ k ih =>
    intro i s e6 e7 e8 h hs hv
    refine wp_iload (atd dX12_steps 6 rfl) rfl ?_
    refine wp_bipush (v := nI 9) (atd dX12_steps 7 rfl) (by decide) ?_
    refine wp_icmpN_gt (tgt := 109) (atd dX12_steps 8 rfl) (by decide) (by omega) (by omega) (fun c_12 => ?_) (fun c_12 => ?_)
    · exfalso; omega
    ·
      refine wp_iload (atd dX12_steps 9 rfl) rfl ?_
      refine wp_iload_n (atd dX12_steps 10 rfl) rfl ?_
      refine wp_cSi hdd [_, _] (atd dX12_steps 11 rfl) iX12_isOf lX12_149 rfl rfl (Nat.le_of_ble_eq_true rfl) (eX12_isOf (by omega) (by omega) (by omega)) (fun r_18 s_18 h_18 => ?_)
      obtain ⟨rfl, rfl⟩ := h_18
      refine wp_ifB_eq (tgt := 27) (atd dX12_steps 12 rfl) (by decide) (fun c_21 => ?_) (fun c_21 => ?_)
      ·
        refine wp_iload (atd dX12_steps 15 rfl) rfl ?_
        refine wp_istore (atd dX12_steps 16 rfl) (Nat.le_of_ble_eq_true rfl) ?_
        refine wp_iconst (v := nI 0) (atd dX12_steps 17 rfl) (by decide) ?_
        refine wp_istore (atd dX12_steps 18 rfl) (Nat.le_of_ble_eq_true rfl) ?_
        refine lX12_steps0 (v := nst nb n s) hd hM hp hn hb hw hfr hto hs (fun e7 e8 => ?_) n 0 s _ (by omega) rfl
        refine wp_iload (atd dX12_steps 53 rfl) rfl ?_
        refine wp_istore (atd dX12_steps 54 rfl) (Nat.le_of_ble_eq_true rfl) ?_
        refine wp_iincN (c := 1) (atd dX12_steps 55 rfl) rfl ?_
        refine wp_goto (tgt := 8) (atd dX12_steps 56 rfl) (by decide) ?_
        exact ih (i + 1) _ _ _ _ (by omega) (nst_lt hw n hs) (by rw [← hv]; simp [stp, c_21])
      ·
        refine wp_iload (atd dX12_steps 13 rfl) rfl ?_
        refine wp_ireti (atd dX12_steps 14 rfl) rfl ?_
        exact ⟨by rw [← hv]; simp [stp, oI, c_21], rfl⟩
theorem eX12_steps0 {G : Gx} {d : Nat} {σ : Hp} (hd : 1 ≤ d) {m n : Nat} {α : Nat → Int32} {B : Nat → Nat → Int32} {nb : Nat → Nat} (hM : MA σ σ m α B) (hp : α 2 = nI n) (hn : n ≤ 9) (hb : ∀ p, p < n → B 1 p = nI (nb p)) (hw : ∀ p, nb p < 512) {fr to : Nat} (hfr : fr < n) (hto : to < n) : Cl G mX12_steps d [.ref m, .int (nI fr), .int (nI to), .int (-1)] σ 0 0 (pI fun r s2 => r = oI (stp nb n to 10 0 (2 ^ fr)) ∧ s2 = σ) := by
  obtain ⟨d0, hdd⟩ : ∃ e, d = e + 1 := ⟨d - 1, by omega⟩
  refine cl_of (by decide) (by simp [Value.category]) (Nat.le_of_ble_eq_true rfl) ?_
  show Wp G mX12_steps d 0 [.ref m, .int (nI fr), .int (nI to), .int (-1), .double 0, .double 0, .double 0, .double 0, .double 0] [] σ 0 0 _
  refine wp_iconst (v := nI 1) (atd dX12_steps 0 rfl) (by decide) ?_
  refine wp_iload_n (atd dX12_steps 1 rfl) rfl ?_
  refine wp_ishl1 (atd dX12_steps 2 rfl) (by omega) ?_
  refine wp_istore (atd dX12_steps 3 rfl) (Nat.le_of_ble_eq_true rfl) ?_
  refine wp_iconst (v := nI 0) (atd dX12_steps 4 rfl) (by decide) ?_
  refine wp_istore (atd dX12_steps 5 rfl) (Nat.le_of_ble_eq_true rfl) ?_
  exact oX12_steps0 hd hM hp hn hb hw hfr hto 10 0 _ _ _ _ rfl (pow_lt9 (by omega)) rfl
theorem lX12_steps1 {G : Gx} {d : Nat} {Q : Option Value → Hp → Prop} {σ : Hp} (hd : 1 ≤ d) {m n : Nat} {α : Nat → Int32} {B : Nat → Nat → Int32} {nb : Nat → Nat} (hM : MA σ σ m α B) (hp : α 2 = nI n) (hn : n ≤ 9) (hb : ∀ p, p < n → B 1 p = nI (nb p)) (hw : ∀ p, nb p < 512) {a : Nat} (ha : a < 9) {fr to i s v : Nat} (hfr : fr < n) (hto : to < n) (hs : s < 512) (hk : ∀ e7 e8 : Value, Wp G mX12_steps d 99 [.ref m, .int (nI fr), .int (nI to), .int (nI a), .int (nI s), .int (nI i), .int (nI v), e7, e8] [] σ 0 0 Q) : ∀ (k : Nat) (p w : Nat) (e8 : Value), p + k = n → fl (nallG (nbx nb fr a) s) k p w = v → Wp G mX12_steps d 34 [.ref m, .int (nI fr), .int (nI to), .int (nI a), .int (nI s), .int (nI i), .int (nI w), .int (nI p), e8] [] σ 0 0 Q := by
  obtain ⟨d0, hdd⟩ : ∃ e, d = e + 1 := ⟨d - 1, by omega⟩
  intro k
  induction k with
  | zero =>
    intro p w e8 h hv
    refine wp_iload (atd dX12_steps 19 rfl) rfl ?_
    refine wp_aload_n (atd dX12_steps 20 rfl) rfl rfl ?_
    refine wp_get fX12_78 (atd dX12_steps 21 rfl) hM.1.1 (congrArg (fun z => some (Value.int z)) hp) ?_
    refine wp_icmpN_ge (tgt := 99) (atd dX12_steps 22 rfl) (by decide) (by omega) (by omega) (fun c_40 => ?_) (fun c_40 => ?_)
    ·
      have hv2 : w = v := hv
      subst hv2
      exact hk _ _
    · exfalso; omega
  | succ k ih =>
    intro p w e8 h hv
    refine wp_iload (atd dX12_steps 19 rfl) rfl ?_
    refine wp_aload_n (atd dX12_steps 20 rfl) rfl rfl ?_
    refine wp_get fX12_78 (atd dX12_steps 21 rfl) hM.1.1 (congrArg (fun z => some (Value.int z)) hp) ?_
    refine wp_icmpN_ge (tgt := 99) (atd dX12_steps 22 rfl) (by decide) (by omega) (by omega) (fun c_40 => ?_) (fun c_40 => ?_)
    · exfalso; omega
    ·
      refine wp_aload_n (atd dX12_steps 23 rfl) rfl rfl ?_
      refine wp_get fX12_7 (atd dX12_steps 24 rfl) hM.1.1 rfl ?_
      refine wp_iload (atd dX12_steps 25 rfl) rfl ?_
      refine wp_ialdN (atd dX12_steps 26 rfl) hM.a1 (show _ < 9 from by omega) (Nat.le_of_ble_eq_true rfl) ?_
      rw [hb p (by omega)]
      refine wp_istore (atd dX12_steps 27 rfl) (Nat.le_of_ble_eq_true rfl) ?_
      refine wp_iload (atd dX12_steps 28 rfl) rfl ?_
      refine wp_iload_n (atd dX12_steps 29 rfl) rfl ?_
      refine wp_icmpN_ne (tgt := 72) (atd dX12_steps 30 rfl) (by decide) (by omega) (by omega) (fun c_55 => ?_) (fun c_55 => ?_)
      ·
        refine wp_iload (atd dX12_steps 41 rfl) rfl ?_
        refine wp_iload (atd dX12_steps 42 rfl) rfl ?_
        refine wp_iload (atd dX12_steps 43 rfl) rfl ?_
        refine wp_cSi hdd [_, _] (atd dX12_steps 44 rfl) iX12_isOf lX12_149 rfl rfl (Nat.le_of_ble_eq_true rfl) (eX12_isOf (by omega) (by omega) (by omega)) (fun r_78 s_78 h_78 => ?_)
        obtain ⟨rfl, rfl⟩ := h_78
        refine wp_ifB_eq (tgt := 89) (atd dX12_steps 45 rfl) (by decide) (fun c_81 => ?_) (fun c_81 => ?_)
        ·
          refine wp_iconst (v := nI 0) (atd dX12_steps 48 rfl) (by decide) ?_
          refine wp_iorN (atd dX12_steps 49 rfl) ?_
          refine wp_istore (atd dX12_steps 50 rfl) (Nat.le_of_ble_eq_true rfl) ?_
          refine wp_iincN (c := 1) (atd dX12_steps 51 rfl) rfl ?_
          refine wp_goto (tgt := 34) (atd dX12_steps 52 rfl) (by decide) ?_
          exact ih (p + 1) _ _ (by omega) (by rw [← hv]; first | (subst c_55; simp [fl, nallG, nbx, c_81]; done) | simp [fl, nallG, nbx, c_81, c_55])
        ·
          refine wp_iload (atd dX12_steps 46 rfl) rfl ?_
          refine wp_goto (tgt := 90) (atd dX12_steps 47 rfl) (by decide) ?_
          refine wp_iorN (atd dX12_steps 49 rfl) ?_
          refine wp_istore (atd dX12_steps 50 rfl) (Nat.le_of_ble_eq_true rfl) ?_
          refine wp_iincN (c := 1) (atd dX12_steps 51 rfl) rfl ?_
          refine wp_goto (tgt := 34) (atd dX12_steps 52 rfl) (by decide) ?_
          exact ih (p + 1) _ _ (by omega) (by rw [← hv]; first | (subst c_55; simp [fl, nallG, nbx, c_81]; done) | simp [fl, nallG, nbx, c_81, c_55])
      ·
        refine wp_iload_n (atd dX12_steps 31 rfl) rfl ?_
        refine wp_ifN_lt (tgt := 72) (atd dX12_steps 32 rfl) (by decide) (by omega) ?_
        refine wp_iload (atd dX12_steps 33 rfl) rfl ?_
        refine wp_iconst (v := nI 1) (atd dX12_steps 34 rfl) (by decide) ?_
        refine wp_iload_n (atd dX12_steps 35 rfl) rfl ?_
        refine wp_ishl1 (atd dX12_steps 36 rfl) (by omega) ?_
        refine wp_iconst (v := -1) (atd dX12_steps 37 rfl) (by decide) ?_
        refine wp_ixor (atd dX12_steps 38 rfl) ?_
        refine wp_iandC (atd dX12_steps 39 rfl) ?_
        refine wp_istore (atd dX12_steps 40 rfl) (Nat.le_of_ble_eq_true rfl) ?_
        refine wp_iload (atd dX12_steps 41 rfl) rfl ?_
        refine wp_iload (atd dX12_steps 42 rfl) rfl ?_
        refine wp_iload (atd dX12_steps 43 rfl) rfl ?_
        refine wp_cSi hdd [_, _] (atd dX12_steps 44 rfl) iX12_isOf lX12_149 rfl rfl (Nat.le_of_ble_eq_true rfl) (eX12_isOf (by omega) (by omega) (by omega)) (fun r_78 s_78 h_78 => ?_)
        obtain ⟨rfl, rfl⟩ := h_78
        refine wp_ifB_eq (tgt := 89) (atd dX12_steps 45 rfl) (by decide) (fun c_81 => ?_) (fun c_81 => ?_)
        ·
          refine wp_iconst (v := nI 0) (atd dX12_steps 48 rfl) (by decide) ?_
          refine wp_iorN (atd dX12_steps 49 rfl) ?_
          refine wp_istore (atd dX12_steps 50 rfl) (Nat.le_of_ble_eq_true rfl) ?_
          refine wp_iincN (c := 1) (atd dX12_steps 51 rfl) rfl ?_
          refine wp_goto (tgt := 34) (atd dX12_steps 52 rfl) (by decide) ?_
          exact ih (p + 1) _ _ (by omega) (by rw [← hv]; first | (subst c_55; simp [fl, nallG, nbx, c_81]; done) | simp [fl, nallG, nbx, c_81, c_55])
        ·
          refine wp_iload (atd dX12_steps 46 rfl) rfl ?_
          refine wp_goto (tgt := 90) (atd dX12_steps 47 rfl) (by decide) ?_
          refine wp_iorN (atd dX12_steps 49 rfl) ?_
          refine wp_istore (atd dX12_steps 50 rfl) (Nat.le_of_ble_eq_true rfl) ?_
          refine wp_iincN (c := 1) (atd dX12_steps 51 rfl) rfl ?_
          refine wp_goto (tgt := 34) (atd dX12_steps 52 rfl) (by decide) ?_
          exact ih (p + 1) _ _ (by omega) (by rw [← hv]; first | (subst c_55; simp [fl, nallG, nbx, c_81]; done) | simp [fl, nallG, nbx, c_81, c_55])
theorem oX12_steps1 {G : Gx} {d : Nat} {σ : Hp} (hd : 1 ≤ d) {m n : Nat} {α : Nat → Int32} {B : Nat → Nat → Int32} {nb : Nat → Nat} (hM : MA σ σ m α B) (hp : α 2 = nI n) (hn : n ≤ 9) (hb : ∀ p, p < n → B 1 p = nI (nb p)) (hw : ∀ p, nb p < 512) {a : Nat} (ha : a < 9) {fr to : Nat} {v : Option Nat} (hfr : fr < n) (hto : to < n) : ∀ (k i s : Nat) (e6 e7 e8 : Value), i + k = 10 → s < 512 → stp (nbx nb fr a) n to k i s = v → Wp G mX12_steps d 8 [.ref m, .int (nI fr), .int (nI to), .int (nI a), .int (nI s), .int (nI i), e6, e7, e8] [] σ 0 0 (pI fun r s2 => r = oI v ∧ s2 = σ) := by
  obtain ⟨d0, hdd⟩ : ∃ e, d = e + 1 := ⟨d - 1, by omega⟩
  intro k
  induction k with
  | zero =>
    intro i s e6 e7 e8 h hs hv
    refine wp_iload (atd dX12_steps 6 rfl) rfl ?_
    refine wp_bipush (v := nI 9) (atd dX12_steps 7 rfl) (by decide) ?_
    refine wp_icmpN_gt (tgt := 109) (atd dX12_steps 8 rfl) (by decide) (by omega) (by omega) (fun c_12 => ?_) (fun c_12 => ?_)
    ·
      refine wp_iconst (v := -1) (atd dX12_steps 57 rfl) (by decide) ?_
      refine wp_ireti (atd dX12_steps 58 rfl) rfl ?_
      exact ⟨by rw [← hv]; rfl, rfl⟩
    · exfalso; omega
  | succ k ih =>
    intro i s e6 e7 e8 h hs hv
    refine wp_iload (atd dX12_steps 6 rfl) rfl ?_
    refine wp_bipush (v := nI 9) (atd dX12_steps 7 rfl) (by decide) ?_
    refine wp_icmpN_gt (tgt := 109) (atd dX12_steps 8 rfl) (by decide) (by omega) (by omega) (fun c_12 => ?_) (fun c_12 => ?_)
    · exfalso; omega
    ·
      refine wp_iload (atd dX12_steps 9 rfl) rfl ?_
      refine wp_iload_n (atd dX12_steps 10 rfl) rfl ?_
      refine wp_cSi hdd [_, _] (atd dX12_steps 11 rfl) iX12_isOf lX12_149 rfl rfl (Nat.le_of_ble_eq_true rfl) (eX12_isOf (by omega) (by omega) (by omega)) (fun r_18 s_18 h_18 => ?_)
      obtain ⟨rfl, rfl⟩ := h_18
      refine wp_ifB_eq (tgt := 27) (atd dX12_steps 12 rfl) (by decide) (fun c_21 => ?_) (fun c_21 => ?_)
      ·
        refine wp_iload (atd dX12_steps 15 rfl) rfl ?_
        refine wp_istore (atd dX12_steps 16 rfl) (Nat.le_of_ble_eq_true rfl) ?_
        refine wp_iconst (v := nI 0) (atd dX12_steps 17 rfl) (by decide) ?_
        refine wp_istore (atd dX12_steps 18 rfl) (Nat.le_of_ble_eq_true rfl) ?_
        refine lX12_steps1 (v := nst (nbx nb fr a) n s) hd hM hp hn hb hw ha hfr hto hs (fun e7 e8 => ?_) n 0 s _ (by omega) rfl
        refine wp_iload (atd dX12_steps 53 rfl) rfl ?_
        refine wp_istore (atd dX12_steps 54 rfl) (Nat.le_of_ble_eq_true rfl) ?_
        refine wp_iincN (c := 1) (atd dX12_steps 55 rfl) rfl ?_
        refine wp_goto (tgt := 8) (atd dX12_steps 56 rfl) (by decide) ?_
        exact ih (i + 1) _ _ _ _ (by omega) (nst_lt (nbx_lt hw fr a) n hs) (by rw [← hv]; simp [stp, c_21])
      ·
        refine wp_iload (atd dX12_steps 13 rfl) rfl ?_
        refine wp_ireti (atd dX12_steps 14 rfl) rfl ?_
        exact ⟨by rw [← hv]; simp [stp, oI, c_21], rfl⟩
theorem eX12_steps1 {G : Gx} {d : Nat} {σ : Hp} (hd : 1 ≤ d) {m n : Nat} {α : Nat → Int32} {B : Nat → Nat → Int32} {nb : Nat → Nat} (hM : MA σ σ m α B) (hp : α 2 = nI n) (hn : n ≤ 9) (hb : ∀ p, p < n → B 1 p = nI (nb p)) (hw : ∀ p, nb p < 512) {a : Nat} (ha : a < 9) {fr to : Nat} (hfr : fr < n) (hto : to < n) : Cl G mX12_steps d [.ref m, .int (nI fr), .int (nI to), .int (nI a)] σ 0 0 (pI fun r s2 => r = oI (stp (nbx nb fr a) n to 10 0 (2 ^ fr)) ∧ s2 = σ) := by
  obtain ⟨d0, hdd⟩ : ∃ e, d = e + 1 := ⟨d - 1, by omega⟩
  refine cl_of (by decide) (by simp [Value.category]) (Nat.le_of_ble_eq_true rfl) ?_
  show Wp G mX12_steps d 0 [.ref m, .int (nI fr), .int (nI to), .int (nI a), .double 0, .double 0, .double 0, .double 0, .double 0] [] σ 0 0 _
  refine wp_iconst (v := nI 1) (atd dX12_steps 0 rfl) (by decide) ?_
  refine wp_iload_n (atd dX12_steps 1 rfl) rfl ?_
  refine wp_ishl1 (atd dX12_steps 2 rfl) (by omega) ?_
  refine wp_istore (atd dX12_steps 3 rfl) (Nat.le_of_ble_eq_true rfl) ?_
  refine wp_iconst (v := nI 0) (atd dX12_steps 4 rfl) (by decide) ?_
  refine wp_istore (atd dX12_steps 5 rfl) (Nat.le_of_ble_eq_true rfl) ?_
  exact oX12_steps1 hd hM hp hn hb hw ha hfr hto 10 0 _ _ _ _ rfl (pow_lt9 (by omega)) rfl
theorem fl_nall_bit (nb : Nat → Nat) (s j : Nat) : ∀ (k i w : Nat), (fl (nallG nb s) k i w).testBit j = true ↔ w.testBit j = true ∨ ∃ p, i ≤ p ∧ p < i + k ∧ s.testBit p = true ∧ (nb p).testBit j = true
  | 0, i, w => by
    constructor
    · exact Or.inl
    · rintro (h | ⟨p, h1, h2, -⟩)
      · exact h
      · omega
  | k + 1, i, w => by
    show (fl (nallG nb s) k (i + 1) (nallG nb s i w)).testBit j = true ↔ _
    rw [fl_nall_bit nb s j k (i + 1) (nallG nb s i w)]
    have e : (nallG nb s i w).testBit j = true ↔ w.testBit j = true ∨ (s.testBit i = true ∧ (nb i).testBit j = true) := by
      unfold nallG
      split
      · rename_i h
        rw [Nat.testBit_or, Bool.or_eq_true]
        simp [h]
      · rename_i h
        simp [h]
    rw [e]
    constructor
    · rintro ((h | h) | ⟨p, h1, h2, h3⟩)
      · exact Or.inl h
      · exact Or.inr ⟨i, by omega, by omega, h⟩
      · exact Or.inr ⟨p, by omega, by omega, h3⟩
    · rintro (h | ⟨p, h1, h2, h3⟩)
      · exact Or.inl (Or.inl h)
      · by_cases hp : p = i
        · subst hp; exact Or.inl (Or.inr h3)
        · exact Or.inr ⟨p, by omega, by omega, h3⟩
theorem nall_bit {nb : Nat → Nat} {n s j : Nat} : (nall nb n s).testBit j = true ↔ ∃ p, p < n ∧ s.testBit p = true ∧ (nb p).testBit j = true := by
  rw [nall, fl_nall_bit]
  simp
theorem nst_bit {nb : Nat → Nat} {n s j : Nat} : (nst nb n s).testBit j = true ↔ s.testBit j = true ∨ ∃ p, p < n ∧ s.testBit p = true ∧ (nb p).testBit j = true := by
  rw [nst, fl_nall_bit]
  simp
theorem le_of_bits {a b : Nat} (h : ∀ j, a.testBit j = true → b.testBit j = true) : a ≤ b := by
  have e : a ||| b = b := by
    apply Nat.eq_of_testBit_eq
    intro j
    rw [Nat.testBit_or]
    cases ha : a.testBit j with
    | false => simp
    | true => simp [h j ha]
  rw [← e]; exact Nat.left_le_or
theorem bit_lt {n s j : Nat} (hs : s < 2 ^ n) (h : s.testBit j = true) : j < n := by
  rcases Nat.lt_or_ge j n with q | q
  · exact q
  · rw [Nat.testBit_lt_two_pow (Nat.lt_of_lt_of_le hs (Nat.pow_le_pow_right (by decide) q))] at h; cases h
/-- a net of n places -/
def isNet (n : Nat) (nb : Nat → Nat) : Prop := n ≤ 9 ∧ (∀ p, p < n → nb p < 2 ^ n) ∧ (∀ p, p < n → (nb p).testBit p = true) ∧ ∀ p q, p < n → q < n → (nb p).testBit q = (nb q).testBit p
theorem nall_ge {n : Nat} {nb : Nat → Nat} (hN : isNet n nb) {s : Nat} (hs : s < 2 ^ n) : s ≤ nall nb n s := le_of_bits fun j h => nall_bit.mpr ⟨j, bit_lt hs h, h, hN.2.2.1 j (bit_lt hs h)⟩
theorem lt_of_bits {n a : Nat} (h : ∀ j, a.testBit j = true → j < n) : a < 2 ^ n := Nat.lt_pow_two_of_testBit a (fun j hj => by
  cases hb : a.testBit j with
  | false => rfl
  | true => exact absurd (h j hb) (by omega))
theorem nall_lt2 {n : Nat} {nb : Nat → Nat} (hN : isNet n nb) (s : Nat) : nall nb n s < 2 ^ n := lt_of_bits fun j h => by
  obtain ⟨p, h1, -, h3⟩ := nall_bit.mp h
  exact bit_lt (hN.2.1 p h1) h3
theorem cnt_pos_le : ∀ s, s < 512 → (s ≠ 0 → 1 ≤ cnt s) ∧ cnt s ≤ 9 := by decide +kernel
def lowb (a : Nat) : Nat := a &&& (512 - a)
theorem lowb_eq : ∀ a, a < 512 → nI a &&& -(nI a) = nI (lowb a) := by decide +kernel
theorem lowb_pos : ∀ a, a < 512 → a ≠ 0 → lowb a ≠ 0 := by decide +kernel
def linG (nb : Nat → Nat) (p w : Nat) : Nat := w + (cnt (nb p) - 1)
theorem lX12_lines {G : Gx} {d : Nat} {σ : Hp} (hd : 1 ≤ d) {m n : Nat} {α : Nat → Int32} {B : Nat → Nat → Int32} {nb : Nat → Nat} (hM : MA σ σ m α B) (hp : α 2 = nI n) (hn : n ≤ 9) (hb : ∀ p, p < n → B 1 p = nI (nb p)) (hw : ∀ p, nb p < 512) (hc : ∀ p, p < n → 1 ≤ cnt (nb p)) {v : Nat} : ∀ (k : Nat) (i w : Nat), i + k = n → w ≤ 9 * i → fl (linG nb) k i w = v → Wp G mX12_lines d 4 [.ref m, .int (nI w), .int (nI i)] [] σ 0 0 (pI fun r s' => r = nI (v / 2) ∧ s' = σ) := by
  obtain ⟨d0, hdd⟩ : ∃ e, d = e + 1 := ⟨d - 1, by omega⟩
  intro k
  induction k with
  | zero =>
    intro i w h hw9 hv
    refine wp_iload_n (atd dX12_lines 4 rfl) rfl ?_
    refine wp_aload_n (atd dX12_lines 5 rfl) rfl rfl ?_
    refine wp_get fX12_78 (atd dX12_lines 6 rfl) hM.1.1 (congrArg (fun z => some (Value.int z)) hp) ?_
    refine wp_icmpN_ge (tgt := 32) (atd dX12_lines 7 rfl) (by decide) (by omega) (by omega) (fun c_9 => ?_) (fun c_9 => ?_)
    ·
      refine wp_iload_n (atd dX12_lines 20 rfl) rfl ?_
      refine wp_iconst (v := nI 2) (atd dX12_lines 21 rfl) (by decide) ?_
      refine wp_idivN (atd dX12_lines 22 rfl) (by omega) (by omega) (by omega) ?_
      refine wp_ireti (atd dX12_lines 23 rfl) rfl ?_
      exact ⟨by rw [← hv]; rfl, rfl⟩
    · exfalso; omega
  | succ k ih =>
    intro i w h hw9 hv
    refine wp_iload_n (atd dX12_lines 4 rfl) rfl ?_
    refine wp_aload_n (atd dX12_lines 5 rfl) rfl rfl ?_
    refine wp_get fX12_78 (atd dX12_lines 6 rfl) hM.1.1 (congrArg (fun z => some (Value.int z)) hp) ?_
    refine wp_icmpN_ge (tgt := 32) (atd dX12_lines 7 rfl) (by decide) (by omega) (by omega) (fun c_9 => ?_) (fun c_9 => ?_)
    · exfalso; omega
    ·
      refine wp_iload_n (atd dX12_lines 8 rfl) rfl ?_
      refine wp_aload_n (atd dX12_lines 9 rfl) rfl rfl ?_
      refine wp_get fX12_7 (atd dX12_lines 10 rfl) hM.1.1 rfl ?_
      refine wp_iload_n (atd dX12_lines 11 rfl) rfl ?_
      refine wp_ialdN (atd dX12_lines 12 rfl) hM.a1 (show _ < 9 from by omega) (Nat.le_of_ble_eq_true rfl) ?_
      rw [hb i (by omega)]
      refine wp_cSi hdd [_] (atd dX12_lines 13 rfl) iX12_many lX12_188 rfl rfl (Nat.le_of_ble_eq_true rfl) (eX12_many (by omega) (by have := hw i; omega)) (fun r_19 s_19 h_19 => ?_)
      obtain ⟨rfl, rfl⟩ := h_19
      refine wp_iconst (v := nI 1) (atd dX12_lines 14 rfl) (by decide) ?_
      refine wp_isubN (atd dX12_lines 15 rfl) (hc i (by omega)) ?_
      refine wp_iaddN (atd dX12_lines 16 rfl) ?_
      refine wp_istore_n (atd dX12_lines 17 rfl) (Nat.le_of_ble_eq_true rfl) ?_
      refine wp_iincN (c := 1) (atd dX12_lines 18 rfl) rfl ?_
      refine wp_goto (tgt := 4) (atd dX12_lines 19 rfl) (by decide) ?_
      exact ih (i + 1) _ (by omega) (by have := (cnt_pos_le (nb i) (hw i)).2; omega) (by rw [← hv]; rfl)
theorem eX12_lines {G : Gx} {d : Nat} {σ : Hp} (hd : 1 ≤ d) {m n : Nat} {α : Nat → Int32} {B : Nat → Nat → Int32} {nb : Nat → Nat} (hM : MA σ σ m α B) (hp : α 2 = nI n) (hn : n ≤ 9) (hb : ∀ p, p < n → B 1 p = nI (nb p)) (hw : ∀ p, nb p < 512) (hc : ∀ p, p < n → 1 ≤ cnt (nb p)) : Cl G mX12_lines d [.ref m] σ 0 0 (pI fun r s' => r = nI (fl (linG nb) n 0 0 / 2) ∧ s' = σ) := by
  obtain ⟨d0, hdd⟩ : ∃ e, d = e + 1 := ⟨d - 1, by omega⟩
  refine cl_of (by decide) (by simp [Value.category]) (Nat.le_of_ble_eq_true rfl) ?_
  show Wp G mX12_lines d 0 [.ref m, .double 0, .double 0] [] σ 0 0 _
  refine wp_iconst (v := nI 0) (atd dX12_lines 0 rfl) (by decide) ?_
  refine wp_istore_n (atd dX12_lines 1 rfl) (Nat.le_of_ble_eq_true rfl) ?_
  refine wp_iconst (v := nI 0) (atd dX12_lines 2 rfl) (by decide) ?_
  refine wp_istore_n (atd dX12_lines 3 rfl) (Nat.le_of_ble_eq_true rfl) ?_
  exact lX12_lines (by omega) hM hp hn hb hw hc n 0 0 (by omega) (by omega) rfl
