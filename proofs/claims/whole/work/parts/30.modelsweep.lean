/-! the first of those that have a property -/
noncomputable def ftP (P : Nat → Prop) : Nat → Nat → Nat
  | 0, j => j
  | k + 1, j => @ite _ (P j) (Classical.propDecidable _) j (ftP P k (j + 1))
theorem ftP_eq {P : Nat → Prop} : ∀ {k j x : Nat}, j ≤ x → x < j + k → P x → (∀ y, j ≤ y → y < x → ¬ P y) → ftP P k j = x
  | 0, j, x, h1, h2, _, _ => absurd h2 (by omega)
  | k + 1, j, x, h1, h2, h3, h4 => by
    unfold ftP
    by_cases e : j = x
    · subst e; rw [if_pos h3]
    · rw [if_neg (h4 j (by omega) (by omega))]
      exact ftP_eq (by omega) (by omega) h3 (fun y g1 g2 => h4 y (by omega) g2)
theorem ftP_none {P : Nat → Prop} : ∀ {k j : Nat}, (∀ y, j ≤ y → y < j + k → ¬ P y) → ftP P k j = j + k
  | 0, j, _ => rfl
  | k + 1, j, h => by
    unfold ftP
    rw [if_neg (h j (by omega) (by omega)), ftP_none (fun y g1 g2 => h y (by omega) (by omega))]
    omega
theorem ftP_ex {P : Nat → Prop} : ∀ {k j : Nat}, (∃ x, j ≤ x ∧ x < j + k ∧ P x) → j ≤ ftP P k j ∧ ftP P k j < j + k ∧ P (ftP P k j) ∧ ∀ y, j ≤ y → y < ftP P k j → ¬ P y
  | 0, j, ⟨x, h1, h2, _⟩ => absurd h2 (by omega)
  | k + 1, j, ⟨x, h1, h2, h3⟩ => by
    unfold ftP
    by_cases e : P j
    · rw [if_pos e]; exact ⟨Nat.le_refl _, by omega, e, fun y g1 g2 => absurd g2 (by omega)⟩
    · rw [if_neg e]
      have hx : x ≠ j := fun q => e (by subst q; exact h3)
      obtain ⟨g1, g2, g3, g4⟩ := ftP_ex (P := P) (k := k) (j := j + 1) ⟨x, by omega, by omega, h3⟩
      refine ⟨by omega, by omega, g3, fun y q1 q2 => ?_⟩
      by_cases ey : y = j
      · subst ey; exact e
      · exact g4 y (by omega) q2
def stH (h n i : Nat) : Nat := std h (rowAt (rowsL h n) i)
abbrev cgH (nb : Nat → Nat) (n h : Nat) : Nat → Nat → Bool := cgF nb h 0 (rowsL h n)
abbrev swH (nb : Nat → Nat) (n h : Nat) : Nat → Nat → Nat → Prop := swW nb n (rowsL h n).length (stH h n) (cgH nb n h)
abbrev d0H (n h i : Nat) : Nat := d0S n (stH h n) i
abbrev dkH (nb : Nat → Nat) (n h d j : Nat) : Nat := dkS nb n (stH h n) d j
noncomputable def swN (nb : Nat → Nat) (n h : Nat) : Nat := ftP (fun k => ∃ i, i < (rowsL h n).length ∧ swH nb n h k i (d0H n h i)) 61 0
noncomputable def swK (nb : Nat → Nat) (n h : Nat) : Option Nat := if swN nb n h ≤ 60 then some (swN nb n h) else none
noncomputable def swY (nb : Nat → Nat) (n h k : Nat) : Nat → Nat × Nat
  | 0 => (ftP (fun i => swH nb n h k i (d0H n h i)) (rowsL h n).length 0, d0H n h (ftP (fun i => swH nb n h k i (d0H n h i)) (rowsL h n).length 0))
  | r + 1 => (ftP (fun j => cgH nb n h (swY nb n h k r).1 j = true ∧ swH nb n h (k - (r + 1)) j (dkH nb n h (swY nb n h k r).2 j)) (rowsL h n).length 0, dkH nb n h (swY nb n h k r).2 (ftP (fun j => cgH nb n h (swY nb n h k r).1 j = true ∧ swH nb n h (k - (r + 1)) j (dkH nb n h (swY nb n h k r).2 j)) (rowsL h n).length 0))
theorem swK_some {nb : Nat → Nat} {n h x i : Nat} (hx : x ≤ 60) (hi : i < (rowsL h n).length) (hW : swH nb n h x i (d0H n h i)) (h2 : ∀ k, k < x → ∀ i, i < (rowsL h n).length → ¬ swH nb n h k i (d0H n h i)) : swK nb n h = some x := by
  have e : swN nb n h = x := ftP_eq (by omega) (by omega) ⟨i, hi, hW⟩ (fun y _ hy => by rintro ⟨i, h3, h4⟩; exact h2 y hy i h3 h4)
  unfold swK
  rw [e, if_pos hx]
theorem swK_none {nb : Nat → Nat} {n h : Nat} (h2 : ∀ k, k ≤ 60 → ∀ i, i < (rowsL h n).length → ¬ swH nb n h k i (d0H n h i)) : swK nb n h = none := by
  have e : swN nb n h = 61 := ftP_none (k := 61) (j := 0) (fun y _ hy => by rintro ⟨i, h3, h4⟩; exact h2 y (by omega) i h3 h4)
  unfold swK
  rw [e]
  rfl
def SwOk (α : Nat → Int32) (B : Nat → Nat → Int32) (nb : Nat → Nat) (n : Nat) : Prop := α 21 = nI 0 ∨ ∃ h, 1 ≤ h ∧ h ≤ 2 ∧ α 21 = nI h ∧ α 45 = oI (swK nb n h) ∧ ∀ k, swK nb n h = some k → ∀ r, r ≤ k → B 17 r = nI (swY nb n h k r).1
theorem rowsL_len2 : ∀ n, n < 10 → ∀ h, h < 3 → (rowsL h n).length ≤ 45 := by decide +kernel
theorem stH_lt {h n i : Nat} (hn : n ≤ 9) (hh : h ≤ 3) (hi : i < (rowsL h n).length) : stH h n i < 512 := std_lt hn (rowsL_in hn hh) hi
/-- minimal, and stepping from a minimal one -/
def swM (nb : Nat → Nat) (n h k i d : Nat) : Prop := swH nb n h k i d ∧ ∀ k2, k2 < k → ¬ swH nb n h k2 i d
theorem sw_way {nb : Nat → Nat} {n h T k i d j : Nat} {g : Nat → Nat → Option Nat} (hN : isNet n nb) (hA : swA nb n (rowsL h n).length (stH h n) (cgH nb n h) g T) (hB : swB nb n (rowsL h n).length (stH h n) (cgH nb n h) g (T + 1)) (hk : k ≤ T) (hm : swM nb n h (k + 1) i d) (hj : j < (rowsL h n).length) : (cgH nb n h i j = true ∧ lbv nb n (stH h n) g d j = some (k + 1)) ↔ (cgH nb n h i j = true ∧ swH nb n h k j (dkH nb n h d j)) := by
  have hd9 : dkH nb n h d j < 512 := Nat.lt_of_lt_of_le (dkS_lt hN) (pow9 hN.1)
  constructor
  · rintro ⟨h1, h2⟩
    obtain ⟨z, hz, e⟩ := lbv_some h2
    have : z = k := by omega
    subst this
    exact ⟨h1, (hA j _ z hj hd9 hz).2.1⟩
  · rintro ⟨h1, h2⟩
    refine ⟨h1, ?_⟩
    have h3 := hB j _ k hj hd9 (vS_dk hN) (by omega) h2
    cases hz : g j (dkH nb n h d j) with
    | none => exact absurd hz h3
    | some z =>
      obtain ⟨-, h4, h5⟩ := hA j _ z hj hd9 hz
      have hzk : z = k := by
        rcases Nat.lt_trichotomy z k with hlt | he | hgt
        · exact absurd ⟨j, hj, h1, h4⟩ (hm.2 (z + 1) (by omega))
        · exact he
        · exact absurd h2 (h5 k hgt)
      subst hzk
      unfold lbv
      rw [show g j (dkS nb n (stH h n) d j) = some z from hz]
theorem swM_step {nb : Nat → Nat} {n h k i d j : Nat} (hm : swM nb n h (k + 1) i d) (hj : j < (rowsL h n).length) (hc : cgH nb n h i j = true) (hW : swH nb n h k j (dkH nb n h d j)) : swM nb n h k j (dkH nb n h d j) := ⟨hW, fun k2 hk2 hW2 => hm.2 (k2 + 1) (by omega) ⟨j, hj, hc, hW2⟩⟩
theorem swY_s {nb : Nat → Nat} {n h k r : Nat} (hr : r < k) (hm : swM nb n h (k - r) (swY nb n h k r).1 (swY nb n h k r).2) : (swY nb n h k (r + 1)).1 < (rowsL h n).length ∧ (cgH nb n h (swY nb n h k r).1 (swY nb n h k (r + 1)).1 = true ∧ swH nb n h (k - (r + 1)) (swY nb n h k (r + 1)).1 (dkH nb n h (swY nb n h k r).2 (swY nb n h k (r + 1)).1)) ∧ (∀ y, y < (swY nb n h k (r + 1)).1 → ¬ (cgH nb n h (swY nb n h k r).1 y = true ∧ swH nb n h (k - (r + 1)) y (dkH nb n h (swY nb n h k r).2 y))) ∧ (swY nb n h k (r + 1)).2 = dkH nb n h (swY nb n h k r).2 (swY nb n h k (r + 1)).1 := by
  have h1 := hm.1
  rw [show k - r = (k - (r + 1)) + 1 by omega] at h1
  obtain ⟨j, hj, hc, hW⟩ := h1
  obtain ⟨-, g2, g3, g4⟩ := ftP_ex (P := fun j => cgH nb n h (swY nb n h k r).1 j = true ∧ swH nb n h (k - (r + 1)) j (dkH nb n h (swY nb n h k r).2 j)) (k := (rowsL h n).length) (j := 0) ⟨j, by omega, by omega, hc, hW⟩
  exact ⟨by rw [Nat.zero_add] at g2; exact g2, g3, fun y hy => g4 y (by omega) hy, rfl⟩
theorem lX12_layWayJ {G : Gx} {d : Nat} {Q : Option Value → Hp → Prop} (hd : 4 ≤ d) {σ0 : Hp} {m n h T : Nat} {α : Nat → Int32} {B0 : Nat → Nat → Int32} {nb : Nat → Nat} {g : Nat → Nat → Option Nat} (hp : α 2 = nI n) (hN : isNet n nb) (hb0 : ∀ p, p < n → B0 1 p = nI (nb p)) (hw : ∀ p, nb p < 512) (hh : h ≤ 2) (hR0 : RW B0 (rowsL h n) h) (hCG0 : CG B0 nb h 0 (rowsL h n)) (hL0 : LFA B0 g (rowsL h n).length) (hT : T ≤ 60) (hg0 : ∀ i, i < (rowsL h n).length → g i 0 = some 0) (hA : swA nb n (rowsL h n).length (stH h n) (cgH nb n h) g T) {σ : Hp} {B : Nat → Nat → Int32} {i d1 r k v : Nat} {e1 : Value} (hM : MA σ0 σ m α B) (hfb : frm [17] B0 B) (hi : i < (rowsL h n).length) (hd1 : d1 < 512) (h45 : α 45 = nI k) (hrk : r < k) (hk60 : k ≤ 60) (hv1 : v < (rowsL h n).length) (hv2 : cgH nb n h i v = true ∧ lbv nb n (stH h n) g d1 v = some (k - (r + 1) + 1)) (hv3 : ∀ y, y < v → ¬ (cgH nb n h i y = true ∧ lbv nb n (stH h n) g d1 y = some (k - (r + 1) + 1))) (hk : Wp G mX12_layWay d 79 [.ref m, e1, .int (nI i), .int (nI d1), .int (nI (r + 1)), .int (nI v)] [] σ 0 0 Q) : ∀ (f j : Nat), j + f = v → Wp G mX12_layWay d 38 [.ref m, e1, .int (nI i), .int (nI d1), .int (nI (r + 1)), .int (nI j)] [] σ 0 0 Q := by
  obtain ⟨d0, hdd⟩ : ∃ e, d = e + 1 := ⟨d - 1, by omega⟩
  have hn := hN.1
  have hR45 := rowsL_len2 n (by omega) h (by omega)
  have hb : ∀ p, p < n → B 1 p = nI (nb p) := fun p hpn => by rw [hfb 1 (by decide)]; exact hb0 p hpn
  have hst : ∀ i, i < (rowsL h n).length → B 12 i = nI (stH h n i) := fun i hi => by rw [hfb 12 (by decide)]; exact (hR0 i hi).2
  have hsl : ∀ i, i < (rowsL h n).length → stH h n i < 512 := fun i hi => stH_lt hn (by omega) hi
  have hL : LFA B g (rowsL h n).length := fun i d hi hd => by rw [hfb 16 (by decide)]; exact hL0 i d hi hd
  have hgX : ∀ i d x, i < (rowsL h n).length → d < 512 → g i d = some x → x ≤ T := fun i d x hi hd hx => (hA i d x hi hd hx).1
  have hcg : ∀ x y, x < (rowsL h n).length → y < (rowsL h n).length → B 9 (165 * x + y) = bI (cgH nb n h x y = true) := fun x y hx hy => by rw [hfb 9 (by decide)]; exact hCG0 x y hx hy
  have hvx : ∀ j x, j < (rowsL h n).length → lbv nb n (stH h n) g d1 j = some x → x < 2 ^ 31 := fun j x hj hx => by obtain ⟨z, hz, e⟩ := lbv_some hx; have := hgX j _ z hj (dkS_lt9 hw) hz; omega
  intro f
  induction f with
  | zero =>
    intro j hj
    have e : j = v := by omega
    subst e
    refine wp_aload_n (atd dX12_layWay 25 rfl) rfl rfl ?_
    refine wp_get fX12_41 (atd dX12_layWay 26 rfl) hM.1.1 rfl ?_
    refine wp_sipush (v := nI 165) (atd dX12_layWay 27 rfl) (by decide) ?_
    refine wp_iload_n (atd dX12_layWay 28 rfl) rfl ?_
    refine wp_imulN (atd dX12_layWay 29 rfl) ?_
    refine wp_iload (atd dX12_layWay 30 rfl) rfl ?_
    refine wp_iaddN (atd dX12_layWay 31 rfl) ?_
    refine wp_zaldN (atd dX12_layWay 32 rfl) hM.a9 (show _ < 27225 from by omega) (Nat.le_of_ble_eq_true rfl) ?_
    rw [hcg i j hi (by omega)]
    refine wp_ifB_eq (tgt := 73) (atd dX12_layWay 33 rfl) (by decide) (fun c_51 => ?_) (fun c_51 => ?_)
    · exact absurd hv2.1 c_51
    ·
      refine wp_aload_n (atd dX12_layWay 34 rfl) rfl rfl ?_
      refine wp_iload_n (atd dX12_layWay 35 rfl) rfl ?_
      refine wp_iload (atd dX12_layWay 36 rfl) rfl ?_
      refine wp_cVi hdd [_, _] (atd dX12_layWay 37 rfl) iX12_leftBehind lX12_332 rfl rfl (Nat.le_of_ble_eq_true rfl) hM.1.1 rfl (eX12_leftBehind (X := T) (by omega) hM.self hp hn hb hw hR45 hst hsl hL (by omega) hgX hg0 hd1 (j := j) (by omega)) (fun r_58 s_58 h_58 => ?_)
      obtain ⟨rfl, rfl⟩ := h_58
      refine wp_aload_n (atd dX12_layWay 38 rfl) rfl rfl ?_
      refine wp_get fX12_341 (atd dX12_layWay 39 rfl) hM.1.1 (congrArg (fun z => some (Value.int z)) h45) ?_
      refine wp_iload (atd dX12_layWay 40 rfl) rfl ?_
      refine wp_isubN (atd dX12_layWay 41 rfl) (by omega) ?_
      refine wp_iconst (v := nI 1) (atd dX12_layWay 42 rfl) (by decide) ?_
      refine wp_iaddN (atd dX12_layWay 43 rfl) ?_
      refine wp_icmp_eq (tgt := 79) (atd dX12_layWay 44 rfl) (by decide) (fun c_70 => ?_) (fun c_70 => ?_)
      ·
        exact hk
      · exact absurd (by rw [hv2.2]; rfl) c_70
  | succ f ih =>
    intro j hj
    refine wp_aload_n (atd dX12_layWay 25 rfl) rfl rfl ?_
    refine wp_get fX12_41 (atd dX12_layWay 26 rfl) hM.1.1 rfl ?_
    refine wp_sipush (v := nI 165) (atd dX12_layWay 27 rfl) (by decide) ?_
    refine wp_iload_n (atd dX12_layWay 28 rfl) rfl ?_
    refine wp_imulN (atd dX12_layWay 29 rfl) ?_
    refine wp_iload (atd dX12_layWay 30 rfl) rfl ?_
    refine wp_iaddN (atd dX12_layWay 31 rfl) ?_
    refine wp_zaldN (atd dX12_layWay 32 rfl) hM.a9 (show _ < 27225 from by omega) (Nat.le_of_ble_eq_true rfl) ?_
    rw [hcg i j hi (by omega)]
    refine wp_ifB_eq (tgt := 73) (atd dX12_layWay 33 rfl) (by decide) (fun c_51 => ?_) (fun c_51 => ?_)
    ·
      refine wp_iincN (c := 1) (atd dX12_layWay 45 rfl) rfl ?_
      refine wp_goto (tgt := 38) (atd dX12_layWay 46 rfl) (by decide) ?_
      exact ih (j + 1) (by omega)
    ·
      refine wp_aload_n (atd dX12_layWay 34 rfl) rfl rfl ?_
      refine wp_iload_n (atd dX12_layWay 35 rfl) rfl ?_
      refine wp_iload (atd dX12_layWay 36 rfl) rfl ?_
      refine wp_cVi hdd [_, _] (atd dX12_layWay 37 rfl) iX12_leftBehind lX12_332 rfl rfl (Nat.le_of_ble_eq_true rfl) hM.1.1 rfl (eX12_leftBehind (X := T) (by omega) hM.self hp hn hb hw hR45 hst hsl hL (by omega) hgX hg0 hd1 (j := j) (by omega)) (fun r_58 s_58 h_58 => ?_)
      obtain ⟨rfl, rfl⟩ := h_58
      refine wp_aload_n (atd dX12_layWay 38 rfl) rfl rfl ?_
      refine wp_get fX12_341 (atd dX12_layWay 39 rfl) hM.1.1 (congrArg (fun z => some (Value.int z)) h45) ?_
      refine wp_iload (atd dX12_layWay 40 rfl) rfl ?_
      refine wp_isubN (atd dX12_layWay 41 rfl) (by omega) ?_
      refine wp_iconst (v := nI 1) (atd dX12_layWay 42 rfl) (by decide) ?_
      refine wp_iaddN (atd dX12_layWay 43 rfl) ?_
      refine wp_icmp_eq (tgt := 79) (atd dX12_layWay 44 rfl) (by decide) (fun c_70 => ?_) (fun c_70 => ?_)
      · exact absurd ⟨c_51, oI_inj (fun x hx => hvx j x (by omega) hx) (fun x hx => by cases hx; omega) (b := some (k - (r + 1) + 1)) c_70⟩ (hv3 j (by omega))
      ·
        refine wp_iincN (c := 1) (atd dX12_layWay 45 rfl) rfl ?_
        refine wp_goto (tgt := 38) (atd dX12_layWay 46 rfl) (by decide) ?_
        exact ih (j + 1) (by omega)
theorem lX12_layWay {G : Gx} {d : Nat} (hd : 4 ≤ d) {σ0 : Hp} {m n h T : Nat} {α : Nat → Int32} {B0 : Nat → Nat → Int32} {nb : Nat → Nat} {g : Nat → Nat → Option Nat} (hp : α 2 = nI n) (hN : isNet n nb) (hb0 : ∀ p, p < n → B0 1 p = nI (nb p)) (hw : ∀ p, nb p < 512) (hh : h ≤ 2) (hR0 : RW B0 (rowsL h n) h) (hCG0 : CG B0 nb h 0 (rowsL h n)) (hL0 : LFA B0 g (rowsL h n).length) (hT : T ≤ 60) (hg0 : ∀ i, i < (rowsL h n).length → g i 0 = some 0) (hA : swA nb n (rowsL h n).length (stH h n) (cgH nb n h) g T) (hB : swB nb n (rowsL h n).length (stH h n) (cgH nb n h) g (T + 1)) {k : Nat} {e1 : Value} (h45 : α 45 = nI k) (hkT : k ≤ T) : ∀ (f : Nat) (σ : Hp) (B : Nat → Nat → Int32) (r : Nat) (e5 : Value), MA σ0 σ m α B → frm [17] B0 B → r + f = k → (∀ x, x ≤ r → B 17 x = nI (swY nb n h k x).1) → (swY nb n h k r).1 < (rowsL h n).length → (swY nb n h k r).2 < 512 → swM nb n h (k - r) (swY nb n h k r).1 (swY nb n h k r).2 → Wp G mX12_layWay d 26 [.ref m, e1, .int (nI (swY nb n h k r).1), .int (nI (swY nb n h k r).2), .int (nI (r + 1)), e5] [] σ 0 0 (pV fun s => ∃ B1, MA σ0 s m α B1 ∧ frm [17] B0 B1 ∧ ∀ x, x ≤ k → B1 17 x = nI (swY nb n h k x).1) := by
  obtain ⟨d0, hdd⟩ : ∃ e, d = e + 1 := ⟨d - 1, by omega⟩
  intro f
  induction f with
  | zero =>
    intro σ B r e5 hM hfb hrf hx hi hd1 hm
    refine wp_iload (atd dX12_layWay 19 rfl) rfl ?_
    refine wp_aload_n (atd dX12_layWay 20 rfl) rfl rfl ?_
    refine wp_get fX12_341 (atd dX12_layWay 21 rfl) hM.1.1 (congrArg (fun z => some (Value.int z)) h45) ?_
    refine wp_icmpN_gt (tgt := 104) (atd dX12_layWay 22 rfl) (by decide) (by omega) (by omega) (fun c_32 => ?_) (fun c_32 => ?_)
    ·
      refine wp_vretv (atd dX12_layWay 61 rfl) rfl ?_
      exact ⟨B, hM, hfb, fun x hxk => hx x (by omega)⟩
    · exfalso; omega
  | succ f ih =>
    intro σ B r e5 hM hfb hrf hx hi hd1 hm
    have hn := hN.1
    have hR45 := rowsL_len2 n (by omega) h (by omega)
    have hb : ∀ p, p < n → B 1 p = nI (nb p) := fun p hpn => by rw [hfb 1 (by decide)]; exact hb0 p hpn
    have hst : ∀ i, i < (rowsL h n).length → B 12 i = nI (stH h n i) := fun i hi => by rw [hfb 12 (by decide)]; exact (hR0 i hi).2
    have hsl : ∀ i, i < (rowsL h n).length → stH h n i < 512 := fun i hi => stH_lt hn (by omega) hi
    have hL : LFA B g (rowsL h n).length := fun i d hi hd => by rw [hfb 16 (by decide)]; exact hL0 i d hi hd
    have hgX : ∀ i d x, i < (rowsL h n).length → d < 512 → g i d = some x → x ≤ T := fun i d x hi hd hx => (hA i d x hi hd hx).1
    have hcg : ∀ x y, x < (rowsL h n).length → y < (rowsL h n).length → B 9 (165 * x + y) = bI (cgH nb n h x y = true) := fun x y hx hy => by rw [hfb 9 (by decide)]; exact hCG0 x y hx hy
    obtain ⟨y1, y2, y3, y4⟩ := swY_s (r := r) (k := k) (by omega) hm
    have hm1 := hm
    rw [show k - r = k - (r + 1) + 1 by omega] at hm1
    have key := fun j hj => sw_way (k := k - (r + 1)) (j := j) hN hA hB (by omega) hm1 hj
    have hm2 := swM_step hm1 y1 y2.1 y2.2
    rw [← y4] at hm2
    generalize hi2 : (swY nb n h k (r + 1)).1 = i2 at y1 y2 y3 y4 hm2
    generalize hd2 : (swY nb n h k (r + 1)).2 = d2 at y4 hm2
    refine wp_iload (atd dX12_layWay 19 rfl) rfl ?_
    refine wp_aload_n (atd dX12_layWay 20 rfl) rfl rfl ?_
    refine wp_get fX12_341 (atd dX12_layWay 21 rfl) hM.1.1 (congrArg (fun z => some (Value.int z)) h45) ?_
    refine wp_icmpN_gt (tgt := 104) (atd dX12_layWay 22 rfl) (by decide) (by omega) (by omega) (fun c_32 => ?_) (fun c_32 => ?_)
    · exfalso; omega
    ·
      refine wp_iconst (v := nI 0) (atd dX12_layWay 23 rfl) (by decide) ?_
      refine wp_istore (atd dX12_layWay 24 rfl) (Nat.le_of_ble_eq_true rfl) ?_
      refine lX12_layWayJ hd hp hN hb0 hw hh hR0 hCG0 hL0 hT hg0 hA hM hfb hi hd1 h45 (by omega) (by omega) y1 ((key _ y1).mpr y2) (fun y hy z => y3 y hy ((key y (by omega)).mp z)) ?_ i2 0 (by omega)
      refine wp_aload_n (atd dX12_layWay 47 rfl) rfl rfl ?_
      refine wp_iload_n (atd dX12_layWay 48 rfl) rfl ?_
      refine wp_iload (atd dX12_layWay 49 rfl) rfl ?_
      refine wp_cVi hdd [_, _] (atd dX12_layWay 50 rfl) iX12_darkBehind lX12_329 rfl rfl (Nat.le_of_ble_eq_true rfl) hM.1.1 rfl (eX12_darkBehind (by omega) hM.self hp hn hb hw (by omega) hst hsl hd1 y1) (fun r_83 s_83 h_83 => ?_)
      obtain ⟨rfl, rfl⟩ := h_83
      rw [show dkS nb n (stH h n) (swY nb n h k r).2 i2 = d2 from y4.symm]
      refine wp_istore_n (atd dX12_layWay 51 rfl) (Nat.le_of_ble_eq_true rfl) ?_
      refine wp_iload (atd dX12_layWay 52 rfl) rfl ?_
      refine wp_istore_n (atd dX12_layWay 53 rfl) (Nat.le_of_ble_eq_true rfl) ?_
      refine wp_aload_n (atd dX12_layWay 54 rfl) rfl rfl ?_
      refine wp_get fX12_66 (atd dX12_layWay 55 rfl) hM.1.1 rfl ?_
      refine wp_iload (atd dX12_layWay 56 rfl) rfl ?_
      refine wp_iload_n (atd dX12_layWay 57 rfl) rfl ?_
      refine wp_iastM (j := 17) (atd dX12_layWay 58 rfl) hM (by decide) (by decide) rfl (show _ < 61 from by omega) (fun σ hM => ?_)
      refine wp_iincN (c := 1) (atd dX12_layWay 59 rfl) rfl ?_
      refine wp_goto (tgt := 26) (atd dX12_layWay 60 rfl) (by decide) ?_
      have ih2 := ih _ _ (r + 1) (.int (nI i2)) hM (hfb.va (by decide)) (by omega) (fun x hxr => ?_) (by rw [hi2]; exact y1) (by rw [hd2, y4]; exact dkS_lt9 hw) (by rw [hi2, hd2]; exact hm2)
      · rw [hi2, hd2] at ih2; exact ih2
      · show upd (B 17) (r + 1) (nI i2) x = _
        by_cases e : x = r + 1
        · subst e; rw [hi2]; exact if_pos rfl
        · rw [show upd (B 17) (r + 1) (nI i2) x = B 17 x from if_neg e]
          exact hx x (by omega)
theorem eX12_layWay {G : Gx} {d : Nat} {σ : Hp} (hd : 4 ≤ d) {m n h T : Nat} {α : Nat → Int32} {B : Nat → Nat → Int32} {nb : Nat → Nat} {g : Nat → Nat → Option Nat} (hM : MA σ σ m α B) (hp : α 2 = nI n) (hN : isNet n nb) (hb0 : ∀ p, p < n → B 1 p = nI (nb p)) (hw : ∀ p, nb p < 512) (hh : h ≤ 2) (hR0 : RW B (rowsL h n) h) (hCG0 : CG B nb h 0 (rowsL h n)) (hL0 : LFA B g (rowsL h n).length) (hT : T ≤ 60) (hg0 : ∀ i, i < (rowsL h n).length → g i 0 = some 0) (hA : swA nb n (rowsL h n).length (stH h n) (cgH nb n h) g T) (hB : swB nb n (rowsL h n).length (stH h n) (cgH nb n h) g (T + 1)) {k i : Nat} (h45 : α 45 = nI k) (hkT : k ≤ T) (hi : i < (rowsL h n).length) (hi0 : (swY nb n h k 0).1 = i) (hm : swM nb n h k i (d0H n h i)) : Cl G mX12_layWay d [.ref m, .int (nI i)] σ 0 0 (pV fun s => ∃ B1, MA σ s m α B1 ∧ frm [17] B B1 ∧ ∀ x, x ≤ k → B1 17 x = nI (swY nb n h k x).1) := by
  obtain ⟨d0, hdd⟩ : ∃ e, d = e + 1 := ⟨d - 1, by omega⟩
  refine cl_of (by decide) (by simp [Value.category]) (Nat.le_of_ble_eq_true rfl) ?_
  show Wp G mX12_layWay d 0 [.ref m, .int (nI i), .double 0, .double 0, .double 0, .double 0] [] σ 0 0 _
  have hn := hN.1
  have hR45 := rowsL_len2 n (by omega) h (by omega)
  have hd2 : (swY nb n h k 0).2 = d0H n h i := by rw [← hi0]; rfl
  refine wp_iload_n (atd dX12_layWay 0 rfl) rfl ?_
  refine wp_istore_n (atd dX12_layWay 1 rfl) (Nat.le_of_ble_eq_true rfl) ?_
  refine wp_aload_n (atd dX12_layWay 2 rfl) rfl rfl ?_
  refine wp_cVi hdd [] (atd dX12_layWay 3 rfl) iX12_allPlaces lX12_191 rfl rfl (Nat.le_of_ble_eq_true rfl) hM.1.1 rfl (eX12_allPlaces (by omega) hM.self hp hN.1) (fun r_3 s_3 h_3 => ?_)
  obtain ⟨rfl, rfl⟩ := h_3
  refine wp_aload_n (atd dX12_layWay 4 rfl) rfl rfl ?_
  refine wp_get fX12_51 (atd dX12_layWay 5 rfl) hM.1.1 rfl ?_
  refine wp_iload_n (atd dX12_layWay 6 rfl) rfl ?_
  refine wp_ialdN (atd dX12_layWay 7 rfl) hM.a12 (show _ < 165 from by omega) (Nat.le_of_ble_eq_true rfl) ?_
  rw [show B 12 i = nI (stH h n i) from (hR0 i hi).2]
  refine wp_iconst (v := -1) (atd dX12_layWay 8 rfl) (by decide) ?_
  refine wp_ixor (atd dX12_layWay 9 rfl) ?_
  refine wp_iandC (atd dX12_layWay 10 rfl) ?_
  refine wp_istore_n (atd dX12_layWay 11 rfl) (Nat.le_of_ble_eq_true rfl) ?_
  refine wp_aload_n (atd dX12_layWay 12 rfl) rfl rfl ?_
  refine wp_get fX12_66 (atd dX12_layWay 13 rfl) hM.1.1 rfl ?_
  refine wp_iconst (v := nI 0) (atd dX12_layWay 14 rfl) (by decide) ?_
  refine wp_iload_n (atd dX12_layWay 15 rfl) rfl ?_
  refine wp_iastM (j := 17) (atd dX12_layWay 16 rfl) hM (by decide) (by decide) rfl (show _ < 61 from by omega) (fun σ hM => ?_)
  refine wp_iconst (v := nI 1) (atd dX12_layWay 17 rfl) (by decide) ?_
  refine wp_istore (atd dX12_layWay 18 rfl) (Nat.le_of_ble_eq_true rfl) ?_
  have fin := lX12_layWay (G := G) hd hp hN hb0 hw hh hR0 hCG0 hL0 hT hg0 hA hB (e1 := .int (nI i)) h45 hkT k _ _ 0 (.double 0) hM (frm.rf.va (by decide)) (by omega) (fun x hx => ?_) (by rw [hi0]; exact hi) ?_ (by rw [hi0, hd2]; exact hm)
  · rw [hi0, hd2] at fin; exact fin
  · have e : x = 0 := by omega
    subst e
    rw [hi0]; show upd (B 17) 0 (nI i) 0 = _; exact if_pos rfl
  · rw [hd2]; exact dif_lt (k := 9) (by have := pow9 hn; have := Nat.two_pow_pos n; omega)
def g0S (_ d : Nat) : Option Nat := if d = 0 then some 0 else none
def gPut (g : Nat → Nat → Option Nat) (i d t : Nat) : Nat → Nat → Option Nat := fun x y => if x = i ∧ y = d then some t else g x y
theorem LFA_0 {B : Nat → Nat → Int32} {R : Nat} (h : ∀ x, x < 512 * R → B 16 x = if x % 512 = 0 then nI 0 else -1) : LFA B g0S R := by
  intro i d hi hd
  rw [h _ (by omega)]
  unfold g0S
  by_cases e : d = 0
  · rw [if_pos (by omega), if_pos e]; rfl
  · rw [if_neg (by omega), if_neg e]; rfl
theorem LFA.put {B : Nat → Nat → Int32} {g : Nat → Nat → Option Nat} {R i d t : Nat} (hL : LFA B g R) (hd : d < 512) : LFA (va_up B 16 (upd (B 16) (512 * i + d) (nI t))) (gPut g i d t) R := by
  intro x y hx hy
  show upd (B 16) (512 * i + d) (nI t) (512 * x + y) = _
  unfold gPut
  by_cases e : x = i ∧ y = d
  · obtain ⟨rfl, rfl⟩ := e
    rw [if_pos ⟨rfl, rfl⟩]
    exact if_pos rfl
  · rw [if_neg e, show upd (B 16) (512 * i + d) (nI t) (512 * x + y) = B 16 (512 * x + y) from if_neg (by omega)]
    exact hL x y hx hy
section Sw
variable {nb : Nat → Nat} {n R : Nat} {st : Nat → Nat} {cg : Nat → Nat → Bool} {g : Nat → Nat → Option Nat}
theorem swA_0 : swA nb n R st cg g0S 0 := by
  intro i d k hi hd hk
  unfold g0S at hk
  split at hk
  · rename_i h0
    cases hk
    exact ⟨Nat.le_refl _, h0, fun k2 h2 => absurd h2 (Nat.not_lt_zero k2)⟩
  · cases hk
theorem swB_0 : swB nb n R st cg g0S 1 := by
  intro i d k hi hd hv hk hW
  have e : k = 0 := by omega
  subst e
  have h0 : d = 0 := hW
  unfold g0S
  rw [if_pos h0]
  intro z; cases z
theorem swA.mono {T U : Nat} (h : swA nb n R st cg g T) (hTU : T ≤ U) : swA nb n R st cg g U := fun i d k hi hd hk => ⟨Nat.le_trans (h i d k hi hd hk).1 hTU, (h i d k hi hd hk).2⟩
def swP (nb : Nat → Nat) (n R : Nat) (st : Nat → Nat) (cg : Nat → Nat → Bool) (g : Nat → Nat → Option Nat) (t i d : Nat) : Prop := ∀ x y, x < R → y < 512 → (x < i ∨ (x = i ∧ y < d)) → vS n st x y → swW nb n R st cg t x y → g x y ≠ none
theorem swP.step {t i d : Nat} (h : swP nb n R st cg g t i d) (hz : vS n st i d → swW nb n R st cg t i d → g i d ≠ none) : swP nb n R st cg g t i (d + 1) := by
  intro x y hx hy hxy hv hW
  by_cases e : x = i ∧ y = d
  · obtain ⟨rfl, rfl⟩ := e; exact hz hv hW
  · exact h x y hx hy (by omega) hv hW
theorem gPut_ne {i d t x y : Nat} (h : g x y ≠ none) : gPut g i d t x y ≠ none := by
  unfold gPut
  split
  · intro z; cases z
  · exact h
theorem swP.put {t i d : Nat} (h : swP nb n R st cg g t i d) : swP nb n R st cg (gPut g i d t) t i (d + 1) := by
  intro x y hx hy hxy hv hW
  by_cases e : x = i ∧ y = d
  · unfold gPut; rw [if_pos e]; intro z; cases z
  · exact gPut_ne (h x y hx hy (by omega) hv hW)
theorem swA.put {t i d : Nat} (h : swA nb n R st cg g t) (hW : swW nb n R st cg t i d) (hmin : ∀ k, k < t → ¬ swW nb n R st cg k i d) : swA nb n R st cg (gPut g i d t) t := by
  intro x y k hx hy hk
  unfold gPut at hk
  split at hk
  · rename_i e
    obtain ⟨rfl, rfl⟩ := e
    cases hk
    exact ⟨Nat.le_refl _, hW, hmin⟩
  · exact h x y k hx hy hk
theorem swB.put {t i d u : Nat} (h : swB nb n R st cg g u) : swB nb n R st cg (gPut g i d t) u := fun x y k hx hy hv hk hW => gPut_ne (h x y k hx hy hv hk hW)
theorem swP.row {t i : Nat} (h : swP nb n R st cg g t i 512) (hg0 : ∀ i, i < R → g i 0 = some 0) : swP nb n R st cg g t (i + 1) 1 := by
  intro x y hx hy hxy hv hW
  by_cases e : x = i + 1
  · have : y = 0 := by omega
    subst this
    rw [hg0 x hx]; intro z; cases z
  · exact h x y hx hy (by omega) hv hW
theorem swP.full {t i : Nat} (h : swP nb n R st cg g t i (2 ^ n)) : swP nb n R st cg g t i 512 := by
  intro x y hx hy hxy hv hW
  by_cases e : x < i ∨ (x = i ∧ y < 2 ^ n)
  · exact h x y hx hy e hv hW
  · have := Nat.two_pow_pos n
    rcases hv with rfl | ⟨h1, -⟩
    · omega
    · omega
theorem swB_of {t : Nat} (hB : swB nb n R st cg g (t + 1)) (hP : swP nb n R st cg g (t + 1) R 1) : swB nb n R st cg g (t + 2) := by
  intro i d k hi hd hv hk hW
  by_cases e : k = t + 1
  · subst e; exact hP i d hi hd (by omega) hv hW
  · exact hB i d k hi hd hv (by omega) hW
/-- nothing new in a round: nothing more at all -/
theorem sw_cl {t : Nat} (hN : isNet n nb) (hA : swA nb n R st cg g t) (hP : swP nb n R st cg g (t + 1) R 1) (hB : swB nb n R st cg g (t + 1)) (hg0 : ∀ i, i < R → g i 0 = some 0) : ∀ k i d, i < R → d < 512 → vS n st i d → swW nb n R st cg k i d → g i d ≠ none := by
  intro k
  induction k with
  | zero =>
    intro i d hi hd hv hW
    have h0 : d = 0 := hW
    subst h0
    rw [hg0 i hi]; intro z; cases z
  | succ k ih =>
    intro i d hi hd hv hW
    obtain ⟨j, hj, hc, hW2⟩ := hW
    have hd9 : dkS nb n st d j < 512 := Nat.lt_of_lt_of_le (dkS_lt hN) (pow9 hN.1)
    have h1 := ih j _ hj hd9 (vS_dk hN) hW2
    cases hz : g j (dkS nb n st d j) with
    | none => exact absurd hz h1
    | some z =>
      obtain ⟨h2, h3, -⟩ := hA j _ z hj hd9 hz
      have hW3 : swW nb n R st cg (z + 1) i d := ⟨j, hj, hc, h3⟩
      by_cases e : z = t
      · subst e; exact hP i d hi hd (by omega) hv hW3
      · exact hB i d (z + 1) hi hd hv (by omega) hW3
end Sw
theorem vS_0 {n : Nat} {st : Nat → Nat} {i : Nat} : vS n st i (d0S n st i) := Or.inr ⟨dif_lt (by have := Nat.two_pow_pos n; omega), and_dif _ _⟩
theorem d0S_lt {n : Nat} {st : Nat → Nat} {i : Nat} (hn : n ≤ 9) : d0S n st i < 512 := dif_lt (k := 9) (by have := pow9 hn; have := Nat.two_pow_pos n; omega)
theorem sw_best {nb : Nat → Nat} {n h T : Nat} {g : Nat → Nat → Option Nat} {y : Nat × Nat} (hn : n ≤ 9) (hA : swA nb n (rowsL h n).length (stH h n) (cgH nb n h) g T) (hB : swB nb n (rowsL h n).length (stH h n) (cgH nb n h) g (T + 1)) (hT : T ≤ 60) (hb : bbF (fun i => g i (d0H n h i)) (rowsL h n).length = some y) : y.1 < (rowsL h n).length ∧ y.2 ≤ T ∧ swK nb n h = some y.2 ∧ (swY nb n h y.2 0).1 = y.1 ∧ swM nb n h y.2 y.1 (d0H n h y.1) ∧ g y.1 (d0H n h y.1) = some y.2 := by
  obtain ⟨h1, h2, h3, h4⟩ := bbF_some hb
  obtain ⟨g1, g2, g3⟩ := hA y.1 _ y.2 h1 (d0S_lt hn) h2
  have low : ∀ k, k < y.2 → ∀ i, i < (rowsL h n).length → ¬ swH nb n h k i (d0H n h i) := by
    intro k hk i hi hW
    have hne := hB i _ k hi (d0S_lt hn) vS_0 (by omega) hW
    cases hz : g i (d0H n h i) with
    | none => exact hne hz
    | some z =>
      have h5 := h3 i z hi hz
      exact (hA i _ z hi (d0S_lt hn) hz).2.2 k (by omega) hW
  refine ⟨h1, g1, swK_some (by omega) h1 g2 low, ?_, ⟨g2, g3⟩, h2⟩
  refine ftP_eq (P := fun i => swH nb n h y.2 i (d0H n h i)) (by omega) (by omega) g2 (fun i _ hi hW => ?_)
  have hne := hB i _ y.2 (by omega) (d0S_lt hn) vS_0 (by omega) hW
  cases hz : g i (d0H n h i) with
  | none => exact hne hz
  | some z =>
    have h5 := h4 i z hi hz
    exact (hA i _ z (by omega) (d0S_lt hn) hz).2.2 y.2 h5 hW
theorem lX12_laySweep1 {G : Gx} {d : Nat} {Q : Option Value → Hp → Prop} {σ0 : Hp} {m n h : Nat} {α : Nat → Int32} {B0 : Nat → Nat → Int32} {nb : Nat → Nat} (hd : 5 ≤ d) (hp : α 2 = nI n) (hN : isNet n nb) (hb0 : ∀ p, p < n → B0 1 p = nI (nb p)) (hw : ∀ p, nb p < 512) (hh : h ≤ 2) (h32 : α 32 = nI (rowsL h n).length) (hR0 : RW B0 (rowsL h n) h) (hCG0 : CG B0 nb h 0 (rowsL h n)) (hk : ∀ (σ : Hp) (B : Nat → Nat → Int32) (e2 e3 e4 e5 e6 : Value), MA σ0 σ m α B → frm [16] B0 B → LFA B g0S (rowsL h n).length → Wp G mX12_laySweep d 64 [.ref m, .int (nI h), e2, e3, e4, e5, e6] [] σ 0 0 Q) : ∀ (f : Nat) (σ : Hp) (B : Nat → Nat → Int32) (k : Nat) (e3 e4 e5 e6 : Value), MA σ0 σ m α B → frm [16] B0 B → (∀ x, x < k → B 16 x = if x % 512 = 0 then nI 0 else -1) → k + f = 512 * (rowsL h n).length → Wp G mX12_laySweep d 27 [.ref m, .int (nI h), .int (nI k), e3, e4, e5, e6] [] σ 0 0 Q := by
  have hn := hN.1
  have hR45 := rowsL_len2 n (by omega) h (by omega)
  intro f
  induction f with
  | zero =>
    intro σ B k e3 e4 e5 e6 hM hfb hx hkf
    refine wp_iload_n (atd dX12_laySweep 17 rfl) rfl ?_
    refine wp_sipush (v := nI 512) (atd dX12_laySweep 18 rfl) (by decide) ?_
    refine wp_aload_n (atd dX12_laySweep 19 rfl) rfl rfl ?_
    refine wp_get fX12_234 (atd dX12_laySweep 20 rfl) hM.1.1 (congrArg (fun z => some (Value.int z)) h32) ?_
    refine wp_imulN (atd dX12_laySweep 21 rfl) ?_
    refine wp_icmpN_ge (tgt := 64) (atd dX12_laySweep 22 rfl) (by decide) (by omega) (by omega) (fun c_36 => ?_) (fun c_36 => ?_)
    ·
      exact hk _ B _ _ _ _ _ hM hfb (LFA_0 (fun x hxl => hx x (by omega)))
    · exfalso; omega
  | succ f ih =>
    intro σ B k e3 e4 e5 e6 hM hfb hx hkf
    refine wp_iload_n (atd dX12_laySweep 17 rfl) rfl ?_
    refine wp_sipush (v := nI 512) (atd dX12_laySweep 18 rfl) (by decide) ?_
    refine wp_aload_n (atd dX12_laySweep 19 rfl) rfl rfl ?_
    refine wp_get fX12_234 (atd dX12_laySweep 20 rfl) hM.1.1 (congrArg (fun z => some (Value.int z)) h32) ?_
    refine wp_imulN (atd dX12_laySweep 21 rfl) ?_
    refine wp_icmpN_ge (tgt := 64) (atd dX12_laySweep 22 rfl) (by decide) (by omega) (by omega) (fun c_36 => ?_) (fun c_36 => ?_)
    · exfalso; omega
    ·
      refine wp_aload_n (atd dX12_laySweep 23 rfl) rfl rfl ?_
      refine wp_get fX12_63 (atd dX12_laySweep 24 rfl) hM.1.1 rfl ?_
      refine wp_iload_n (atd dX12_laySweep 25 rfl) rfl ?_
      refine wp_iload_n (atd dX12_laySweep 26 rfl) rfl ?_
      refine wp_sipush (v := nI 512) (atd dX12_laySweep 27 rfl) (by decide) ?_
      refine wp_iremN (atd dX12_laySweep 28 rfl) (by omega) (by omega) (by omega) ?_
      refine wp_ifN_ne (tgt := 56) (atd dX12_laySweep 29 rfl) (by decide) (by omega) (fun c_49 => ?_) (fun c_49 => ?_)
      ·
        refine wp_iconst (v := -1) (atd dX12_laySweep 32 rfl) (by decide) ?_
        refine wp_iastM (j := 16) (atd dX12_laySweep 33 rfl) hM (by decide) (by decide) rfl (show _ < 23040 from by omega) (fun σ hM => ?_)
        refine wp_iincN (c := 1) (atd dX12_laySweep 34 rfl) rfl ?_
        refine wp_goto (tgt := 27) (atd dX12_laySweep 35 rfl) (by decide) ?_
        refine ih _ _ (k + 1) _ _ _ _ hM (hfb.va (by decide)) (fun x hxk => ?_) (by omega)
        show upd (B 16) k (-1) x = _
        by_cases e : x = k
        · subst e; rw [show upd (B 16) x (-1) x = -1 from if_pos rfl, if_neg (by omega)]
        · rw [show upd (B 16) k (-1) x = B 16 x from if_neg e]; exact hx x (by omega)
      ·
        refine wp_iconst (v := nI 0) (atd dX12_laySweep 30 rfl) (by decide) ?_
        refine wp_goto (tgt := 57) (atd dX12_laySweep 31 rfl) (by decide) ?_
        refine wp_iastM (j := 16) (atd dX12_laySweep 33 rfl) hM (by decide) (by decide) rfl (show _ < 23040 from by omega) (fun σ hM => ?_)
        refine wp_iincN (c := 1) (atd dX12_laySweep 34 rfl) rfl ?_
        refine wp_goto (tgt := 27) (atd dX12_laySweep 35 rfl) (by decide) ?_
        refine ih _ _ (k + 1) _ _ _ _ hM (hfb.va (by decide)) (fun x hxk => ?_) (by omega)
        show upd (B 16) k (nI 0) x = _
        by_cases e : x = k
        · subst e; rw [show upd (B 16) x (nI 0) x = nI 0 from if_pos rfl, if_pos (by omega)]
        · rw [show upd (B 16) k (nI 0) x = B 16 x from if_neg e]; exact hx x (by omega)
theorem lX12_laySweep2 {G : Gx} {d : Nat} {Q : Option Value → Hp → Prop} {σ0 : Hp} {m n h : Nat} {α : Nat → Int32} {B0 : Nat → Nat → Int32} {nb : Nat → Nat} (hd : 5 ≤ d) (hp : α 2 = nI n) (hN : isNet n nb) (hb0 : ∀ p, p < n → B0 1 p = nI (nb p)) (hw : ∀ p, nb p < 512) (hh : h ≤ 2) (h32 : α 32 = nI (rowsL h n).length) (hR0 : RW B0 (rowsL h n) h) (hCG0 : CG B0 nb h 0 (rowsL h n)) {t i : Nat} {gs : Nat → Nat → Option Nat} (ht : t < 60) (hi : i < (rowsL h n).length) (hk : ∀ (σ : Hp) (B : Nat → Nat → Int32) (g : Nat → Nat → Option Nat) (mo : Nat) (e6 : Value), MA σ0 σ m α B → frm [16] B0 B → LFA B g (rowsL h n).length → (∀ i, i < (rowsL h n).length → g i 0 = some 0) → swA nb n (rowsL h n).length (stH h n) (cgH nb n h) g (t + 1) → swB nb n (rowsL h n).length (stH h n) (cgH nb n h) g (t + 1) → swP nb n (rowsL h n).length (stH h n) (cgH nb n h) g (t + 1) i (2 ^ n) → mo ≤ 1 → (mo = 0 → g = gs) → Wp G mX12_laySweep d 182 [.ref m, .int (nI h), .int (-1), .int (nI mo), .int (nI (t + 1)), .int (nI i), e6] [] σ 0 0 Q) : ∀ (f : Nat) (σ : Hp) (B : Nat → Nat → Int32) (g : Nat → Nat → Option Nat) (mo : Nat) (d1 : Nat), MA σ0 σ m α B → frm [16] B0 B → LFA B g (rowsL h n).length → (∀ i, i < (rowsL h n).length → g i 0 = some 0) → swA nb n (rowsL h n).length (stH h n) (cgH nb n h) g (t + 1) → swB nb n (rowsL h n).length (stH h n) (cgH nb n h) g (t + 1) → swP nb n (rowsL h n).length (stH h n) (cgH nb n h) g (t + 1) i d1 → mo ≤ 1 → (mo = 0 → g = gs) → 1 ≤ d1 → d1 + f = 2 ^ n → Wp G mX12_laySweep d 106 [.ref m, .int (nI h), .int (-1), .int (nI mo), .int (nI (t + 1)), .int (nI i), .int (nI d1)] [] σ 0 0 Q := by
  obtain ⟨d0, hdd⟩ : ∃ e, d = e + 1 := ⟨d - 1, by omega⟩
  have hn := hN.1
  have hR45 := rowsL_len2 n (by omega) h (by omega)
  have h2n := Nat.two_pow_pos n
  have h2n9 := pow9 hn
  intro f
  induction f with
  | zero =>
    intro σ B g mo d1 hM hfb hL hg0 hA hB hP hmo hgs hd1 hdf
    have e : d1 = 2 ^ n := by omega
    subst e
    refine wp_iload (atd dX12_laySweep 60 rfl) rfl ?_
    refine wp_aload_n (atd dX12_laySweep 61 rfl) rfl rfl ?_
    refine wp_cVi hdd [] (atd dX12_laySweep 62 rfl) iX12_allPlaces lX12_191 rfl rfl (Nat.le_of_ble_eq_true rfl) hM.1.1 rfl (eX12_allPlaces (by omega) hM.self hp hn) (fun r_109 s_109 h_109 => ?_)
    obtain ⟨rfl, rfl⟩ := h_109
    refine wp_icmpN_gt (tgt := 182) (atd dX12_laySweep 63 rfl) (by decide) (by omega) (by omega) (fun c_112 => ?_) (fun c_112 => ?_)
    ·
      exact hk _ B g mo _ hM hfb hL hg0 hA hB hP hmo hgs
    · exfalso; omega
  | succ f ih =>
    intro σ B g mo d1 hM hfb hL hg0 hA hB hP hmo hgs hd1 hdf
    have hb : ∀ p, p < n → B 1 p = nI (nb p) := fun p hpn => by rw [hfb 1 (by decide)]; exact hb0 p hpn
    have hst : ∀ i, i < (rowsL h n).length → B 12 i = nI (stH h n i) := fun i hi => by rw [hfb 12 (by decide)]; exact (hR0 i hi).2
    have hsl : ∀ i, i < (rowsL h n).length → stH h n i < 512 := fun i hi => stH_lt hn (by omega) hi
    have hgX : ∀ i d x, i < (rowsL h n).length → d < 512 → g i d = some x → x ≤ t + 1 := fun i d x hi hd hx => (hA i d x hi hd hx).1
    have hcg : ∀ x y, x < (rowsL h n).length → y < (rowsL h n).length → B 9 (165 * x + y) = bI (cgH nb n h x y = true) := fun x y hx hy => by rw [hfb 9 (by decide)]; exact hCG0 x y hx hy
    have hd5 : d1 < 512 := by omega
    refine wp_iload (atd dX12_laySweep 60 rfl) rfl ?_
    refine wp_aload_n (atd dX12_laySweep 61 rfl) rfl rfl ?_
    refine wp_cVi hdd [] (atd dX12_laySweep 62 rfl) iX12_allPlaces lX12_191 rfl rfl (Nat.le_of_ble_eq_true rfl) hM.1.1 rfl (eX12_allPlaces (by omega) hM.self hp hn) (fun r_109 s_109 h_109 => ?_)
    obtain ⟨rfl, rfl⟩ := h_109
    refine wp_icmpN_gt (tgt := 182) (atd dX12_laySweep 63 rfl) (by decide) (by omega) (by omega) (fun c_112 => ?_) (fun c_112 => ?_)
    · exfalso; omega
    ·
      refine wp_aload_n (atd dX12_laySweep 64 rfl) rfl rfl ?_
      refine wp_get fX12_63 (atd dX12_laySweep 65 rfl) hM.1.1 rfl ?_
      refine wp_sipush (v := nI 512) (atd dX12_laySweep 66 rfl) (by decide) ?_
      refine wp_iload (atd dX12_laySweep 67 rfl) rfl ?_
      refine wp_imulN (atd dX12_laySweep 68 rfl) ?_
      refine wp_iload (atd dX12_laySweep 69 rfl) rfl ?_
      refine wp_iaddN (atd dX12_laySweep 70 rfl) ?_
      refine wp_ialdN (atd dX12_laySweep 71 rfl) hM.a16 (show _ < 23040 from by omega) (Nat.le_of_ble_eq_true rfl) ?_
      rw [hL i d1 hi hd5]
      generalize hx : g i d1 = xx; rcases xx with _ | x
      ·
        refine wp_if_ge (tgt := 176) (atd dX12_laySweep 72 rfl) (by decide) (fun c_129 => ?_) (fun c_129 => ?_)
        · exact absurd c_129 (by decide)
        ·
          refine wp_iload (atd dX12_laySweep 73 rfl) rfl ?_
          refine wp_aload_n (atd dX12_laySweep 74 rfl) rfl rfl ?_
          refine wp_get fX12_51 (atd dX12_laySweep 75 rfl) hM.1.1 rfl ?_
          refine wp_iload (atd dX12_laySweep 76 rfl) rfl ?_
          refine wp_ialdN (atd dX12_laySweep 77 rfl) hM.a12 (show _ < 165 from by omega) (Nat.le_of_ble_eq_true rfl) ?_
          rw [hst i hi]
          refine wp_iandN (atd dX12_laySweep 78 rfl) ?_
          have hand := and_lt9 (b := stH h n i) hd5
          refine wp_ifN_ne (tgt := 176) (atd dX12_laySweep 79 rfl) (by decide) (by omega) (fun c_142 => ?_) (fun c_142 => ?_)
          ·
            refine wp_iincN (c := 1) (atd dX12_laySweep 97 rfl) rfl ?_
            refine wp_goto (tgt := 106) (atd dX12_laySweep 98 rfl) (by decide) ?_
            exact ih _ B g mo (d1 + 1) hM hfb hL hg0 hA hB (hP.step (fun hv hW => hv.elim (fun e => absurd e (by omega)) (fun z => absurd z.2 (by omega)))) hmo hgs (by omega) (by omega)
          ·
            refine wp_aload_n (atd dX12_laySweep 80 rfl) rfl rfl ?_
            refine wp_iload (atd dX12_laySweep 81 rfl) rfl ?_
            refine wp_iload (atd dX12_laySweep 82 rfl) rfl ?_
            refine wp_cVi hdd [_, _] (atd dX12_laySweep 83 rfl) iX12_leastLeft lX12_338 rfl rfl (Nat.le_of_ble_eq_true rfl) hM.1.1 rfl (eX12_leastLeft (X := t + 1) (cg := cgH nb n h) (by omega) hM.self hp hn hb hw hR45 hst hsl hL (by omega) hgX hg0 h32 hi hd5 hcg) (fun r_150 s_150 h_150 => ?_)
            obtain ⟨rfl, rfl⟩ := h_150
            refine wp_iload (atd dX12_laySweep 84 rfl) rfl ?_
            refine wp_icmp_ne (tgt := 176) (atd dX12_laySweep 85 rfl) (by decide) (fun c_155 => ?_) (fun c_155 => ?_)
            ·
              refine wp_iincN (c := 1) (atd dX12_laySweep 97 rfl) rfl ?_
              refine wp_goto (tgt := 106) (atd dX12_laySweep 98 rfl) (by decide) ?_
              have hv : vS n (stH h n) i d1 := Or.inr ⟨by omega, by omega⟩
              exact ih _ B g mo (d1 + 1) hM hfb hL hg0 hA hB (hP.step (fun hv hW => absurd (congrArg oI ((sw_ll hN hn hA hB hi hd5 hv hx).mpr hW)) c_155)) hmo hgs (by omega) (by omega)
            ·
              refine wp_aload_n (atd dX12_laySweep 86 rfl) rfl rfl ?_
              refine wp_get fX12_63 (atd dX12_laySweep 87 rfl) hM.1.1 rfl ?_
              refine wp_sipush (v := nI 512) (atd dX12_laySweep 88 rfl) (by decide) ?_
              refine wp_iload (atd dX12_laySweep 89 rfl) rfl ?_
              refine wp_imulN (atd dX12_laySweep 90 rfl) ?_
              refine wp_iload (atd dX12_laySweep 91 rfl) rfl ?_
              refine wp_iaddN (atd dX12_laySweep 92 rfl) ?_
              refine wp_iload (atd dX12_laySweep 93 rfl) rfl ?_
              refine wp_iastM (j := 16) (atd dX12_laySweep 94 rfl) hM (by decide) (by decide) rfl (show _ < 23040 from by omega) (fun σ hM => ?_)
              refine wp_iconst (v := nI 1) (atd dX12_laySweep 95 rfl) (by decide) ?_
              refine wp_istore_n (atd dX12_laySweep 96 rfl) (Nat.le_of_ble_eq_true rfl) ?_
              refine wp_iincN (c := 1) (atd dX12_laySweep 97 rfl) rfl ?_
              refine wp_goto (tgt := 106) (atd dX12_laySweep 98 rfl) (by decide) ?_
              have hv : vS n (stH h n) i d1 := Or.inr ⟨by omega, by omega⟩
              have hW := (sw_ll hN hn hA hB hi hd5 hv hx).mp (oI_inj (fun x hx => by obtain ⟨j, j1, j2, j3⟩ := lbF_mem hx; obtain ⟨z, hz, e⟩ := lbv_some j3; have := hgX j _ z j1 (dkS_lt9 hw) hz; omega) (b := some (t + 1)) (fun x hx => by cases hx; omega) (Classical.not_not.mp c_155))
              exact ih _ _ (gPut g i d1 (t + 1)) 1 (d1 + 1) hM (hfb.va (by decide)) (hL.put hd5) (fun x hxl => by unfold gPut; rw [if_neg (by omega)]; exact hg0 x hxl) (hA.put hW (fun k hk hWk => hB i d1 k hi hd5 hv hk hWk hx)) hB.put hP.put (by omega) (fun z => by omega) (by omega) (by omega)
      ·
        have hx9 := hgX i d1 x hi hd5 hx
        refine wp_ifN_ge (tgt := 176) (atd dX12_laySweep 72 rfl) (by decide) (by omega) ?_
        refine wp_iincN (c := 1) (atd dX12_laySweep 97 rfl) rfl ?_
        refine wp_goto (tgt := 106) (atd dX12_laySweep 98 rfl) (by decide) ?_
        exact ih _ B g mo (d1 + 1) hM hfb hL hg0 hA hB (hP.step (fun hv hW => by rw [hx]; intro z; cases z)) hmo hgs (by omega) (by omega)
theorem lX12_laySweep3 {G : Gx} {d : Nat} {Q : Option Value → Hp → Prop} {σ0 : Hp} {m n h : Nat} {α : Nat → Int32} {B0 : Nat → Nat → Int32} {nb : Nat → Nat} (hd : 5 ≤ d) (hp : α 2 = nI n) (hN : isNet n nb) (hb0 : ∀ p, p < n → B0 1 p = nI (nb p)) (hw : ∀ p, nb p < 512) (hh : h ≤ 2) (h32 : α 32 = nI (rowsL h n).length) (hR0 : RW B0 (rowsL h n) h) (hCG0 : CG B0 nb h 0 (rowsL h n)) {t : Nat} {gs : Nat → Nat → Option Nat} (ht : t < 60) (hk : ∀ (σ : Hp) (B : Nat → Nat → Int32) (g : Nat → Nat → Option Nat) (mo : Nat) (e5 e6 : Value), MA σ0 σ m α B → frm [16] B0 B → LFA B g (rowsL h n).length → (∀ i, i < (rowsL h n).length → g i 0 = some 0) → swA nb n (rowsL h n).length (stH h n) (cgH nb n h) g (t + 1) → swB nb n (rowsL h n).length (stH h n) (cgH nb n h) g (t + 1) → swP nb n (rowsL h n).length (stH h n) (cgH nb n h) g (t + 1) (rowsL h n).length 1 → mo ≤ 1 → (mo = 0 → g = gs) → Wp G mX12_laySweep d 188 [.ref m, .int (nI h), .int (-1), .int (nI mo), .int (nI (t + 1)), e5, e6] [] σ 0 0 Q) : ∀ (f : Nat) (σ : Hp) (B : Nat → Nat → Int32) (g : Nat → Nat → Option Nat) (mo : Nat) (i : Nat) (e6 : Value), MA σ0 σ m α B → frm [16] B0 B → LFA B g (rowsL h n).length → (∀ i, i < (rowsL h n).length → g i 0 = some 0) → swA nb n (rowsL h n).length (stH h n) (cgH nb n h) g (t + 1) → swB nb n (rowsL h n).length (stH h n) (cgH nb n h) g (t + 1) → swP nb n (rowsL h n).length (stH h n) (cgH nb n h) g (t + 1) i 1 → mo ≤ 1 → (mo = 0 → g = gs) → i + f = (rowsL h n).length → Wp G mX12_laySweep d 94 [.ref m, .int (nI h), .int (-1), .int (nI mo), .int (nI (t + 1)), .int (nI i), e6] [] σ 0 0 Q := by
  have hn := hN.1
  have hR45 := rowsL_len2 n (by omega) h (by omega)
  have h2n := Nat.two_pow_pos n
  have h2n9 := pow9 hn
  intro f
  induction f with
  | zero =>
    intro σ B g mo i e6 hM hfb hL hg0 hA hB hP hmo hgs hif
    have e : i = (rowsL h n).length := by omega
    subst e
    refine wp_iload (atd dX12_laySweep 54 rfl) rfl ?_
    refine wp_aload_n (atd dX12_laySweep 55 rfl) rfl rfl ?_
    refine wp_get fX12_234 (atd dX12_laySweep 56 rfl) hM.1.1 (congrArg (fun z => some (Value.int z)) h32) ?_
    refine wp_icmpN_ge (tgt := 188) (atd dX12_laySweep 57 rfl) (by decide) (by omega) (by omega) (fun c_100 => ?_) (fun c_100 => ?_)
    ·
      exact hk _ B g mo _ _ hM hfb hL hg0 hA hB hP hmo hgs
    · exfalso; omega
  | succ f ih =>
    intro σ B g mo i e6 hM hfb hL hg0 hA hB hP hmo hgs hif
    refine wp_iload (atd dX12_laySweep 54 rfl) rfl ?_
    refine wp_aload_n (atd dX12_laySweep 55 rfl) rfl rfl ?_
    refine wp_get fX12_234 (atd dX12_laySweep 56 rfl) hM.1.1 (congrArg (fun z => some (Value.int z)) h32) ?_
    refine wp_icmpN_ge (tgt := 188) (atd dX12_laySweep 57 rfl) (by decide) (by omega) (by omega) (fun c_100 => ?_) (fun c_100 => ?_)
    · exfalso; omega
    ·
      refine wp_iconst (v := nI 1) (atd dX12_laySweep 58 rfl) (by decide) ?_
      refine wp_istore (atd dX12_laySweep 59 rfl) (Nat.le_of_ble_eq_true rfl) ?_
      refine lX12_laySweep2 hd hp hN hb0 hw hh h32 hR0 hCG0 (t := t) (gs := gs) ht (i := i) (by omega) (fun σ B g mo e6 hM hfb hL hg0 hA hB hP hmo hgs => ?_) (2 ^ n - 1) _ B g mo 1 hM hfb hL hg0 hA hB hP hmo hgs (by omega) (by omega)
      refine wp_iincN (c := 1) (atd dX12_laySweep 99 rfl) rfl ?_
      refine wp_goto (tgt := 94) (atd dX12_laySweep 100 rfl) (by decide) ?_
      exact ih _ B g mo (i + 1) _ hM hfb hL hg0 hA hB (hP.full.row hg0) hmo hgs (by omega)
theorem lX12_laySweep4 {G : Gx} {d : Nat} {σ0 : Hp} {m n h : Nat} {α : Nat → Int32} {B0 : Nat → Nat → Int32} {nb : Nat → Nat} (hd : 5 ≤ d) (hp : α 2 = nI n) (hN : isNet n nb) (hb0 : ∀ p, p < n → B0 1 p = nI (nb p)) (hw : ∀ p, nb p < 512) (hh : h ≤ 2) (h32 : α 32 = nI (rowsL h n).length) (hR0 : RW B0 (rowsL h n) h) (hCG0 : CG B0 nb h 0 (rowsL h n)) {σ : Hp} {B : Nat → Nat → Int32} {g : Nat → Nat → Option Nat} {T : Nat} {e3 e4 e5 e6 : Value} (hM : MA σ0 σ m α B) (hfb : frm [16] B0 B) (hL : LFA B g (rowsL h n).length) (hg0 : ∀ i, i < (rowsL h n).length → g i 0 = some 0) (hT : T ≤ 60) (hA : swA nb n (rowsL h n).length (stH h n) (cgH nb n h) g T) (hB : swB nb n (rowsL h n).length (stH h n) (cgH nb n h) g (T + 1)) (hnone : bbF (fun i => g i (d0H n h i)) (rowsL h n).length = none → swK nb n h = none) : Wp G mX12_laySweep d 199 [.ref m, .int (nI h), .int (oI (o1 (bbF (fun i => g i (d0H n h i)) (rowsL h n).length))), e3, e4, e5, e6] [] σ 0 0 (pV fun s => ∃ α1 B1, MA σ0 s m α1 B1 ∧ frm [45] α α1 ∧ frm [16, 17] B0 B1 ∧ α1 45 = oI (swK nb n h) ∧ ∀ k, swK nb n h = some k → ∀ r, r ≤ k → B1 17 r = nI (swY nb n h k r).1) := by
  obtain ⟨d0, hdd⟩ : ∃ e, d = e + 1 := ⟨d - 1, by omega⟩
  have hn := hN.1
  have hR45 := rowsL_len2 n (by omega) h (by omega)
  have h2n := Nat.two_pow_pos n
  have h2n9 := pow9 hn
  have hb : ∀ p, p < n → B 1 p = nI (nb p) := fun p hpn => by rw [hfb 1 (by decide)]; exact hb0 p hpn
  have hst : ∀ i, i < (rowsL h n).length → B 12 i = nI (stH h n i) := fun i hi => by rw [hfb 12 (by decide)]; exact (hR0 i hi).2
  have hR : RW B (rowsL h n) h := fun i hi => by rw [hfb 7 (by decide), hfb 12 (by decide)]; exact hR0 i hi
  have hCG : CG B nb h 0 (rowsL h n) := fun x y hx hy => by rw [hfb 9 (by decide)]; exact hCG0 x y hx hy
  generalize hbb : bbF (fun i => g i (d0H n h i)) (rowsL h n).length = bb at hnone
  rcases bb with _ | y
  · have hsk := hnone rfl
    rw [show oI (o1 (none : Option (Nat × Nat))) = -1 from rfl]
    refine wp_aload_n (atd dX12_laySweep 106 rfl) rfl rfl ?_
    refine wp_iload_n (atd dX12_laySweep 107 rfl) rfl ?_
    refine wp_if_ge (tgt := 208) (atd dX12_laySweep 108 rfl) (by decide) (fun c_201 => ?_) (fun c_201 => ?_)
    · exact absurd c_201 (by decide)
    ·
      refine wp_iconst (v := -1) (atd dX12_laySweep 109 rfl) (by decide) ?_
      refine wp_goto (tgt := 232) (atd dX12_laySweep 110 rfl) (by decide) ?_
      refine wp_putM fX12_341 (atd dX12_laySweep 127 rfl) hM rfl (fun σ hM => ?_)
      refine wp_iload_n (atd dX12_laySweep 128 rfl) rfl ?_
      refine wp_if_lt (tgt := 244) (atd dX12_laySweep 129 rfl) (by decide) (fun c_236 => ?_) (fun c_236 => ?_)
      ·
        refine wp_vretv (atd dX12_laySweep 133 rfl) rfl ?_
        exact ⟨_, B, hM, frm.rf.up (by decide), hfb.mono (by decide), by rw [hsk]; rfl, fun k hk => by rw [hsk] at hk; cases hk⟩
      · exact absurd (by decide) c_236
  · obtain ⟨b1, b2, b3, b4, b5, b6⟩ := sw_best hn hA hB hT hbb
    have hbd := d0S_lt (n := n) (st := stH h n) (i := y.1) hn
    rw [show oI (o1 (some y)) = nI y.1 from rfl]
    refine wp_aload_n (atd dX12_laySweep 106 rfl) rfl rfl ?_
    refine wp_iload_n (atd dX12_laySweep 107 rfl) rfl ?_
    refine wp_ifN_ge (tgt := 208) (atd dX12_laySweep 108 rfl) (by decide) (by omega) ?_
    refine wp_aload_n (atd dX12_laySweep 111 rfl) rfl rfl ?_
    refine wp_get fX12_63 (atd dX12_laySweep 112 rfl) hM.1.1 rfl ?_
    refine wp_sipush (v := nI 512) (atd dX12_laySweep 113 rfl) (by decide) ?_
    refine wp_iload_n (atd dX12_laySweep 114 rfl) rfl ?_
    refine wp_imulN (atd dX12_laySweep 115 rfl) ?_
    refine wp_aload_n (atd dX12_laySweep 116 rfl) rfl rfl ?_
    refine wp_cVi hdd [] (atd dX12_laySweep 117 rfl) iX12_allPlaces lX12_191 rfl rfl (Nat.le_of_ble_eq_true rfl) hM.1.1 rfl (eX12_allPlaces (by omega) hM.self hp hn) (fun r_218 s_218 h_218 => ?_)
    obtain ⟨rfl, rfl⟩ := h_218
    refine wp_aload_n (atd dX12_laySweep 118 rfl) rfl rfl ?_
    refine wp_get fX12_51 (atd dX12_laySweep 119 rfl) hM.1.1 rfl ?_
    refine wp_iload_n (atd dX12_laySweep 120 rfl) rfl ?_
    refine wp_ialdN (atd dX12_laySweep 121 rfl) hM.a12 (show _ < 165 from by omega) (Nat.le_of_ble_eq_true rfl) ?_
    rw [hst y.1 b1]
    refine wp_iconst (v := -1) (atd dX12_laySweep 122 rfl) (by decide) ?_
    refine wp_ixor (atd dX12_laySweep 123 rfl) ?_
    refine wp_iandC (atd dX12_laySweep 124 rfl) ?_
    refine wp_iaddN (atd dX12_laySweep 125 rfl) ?_
    refine wp_ialdN (atd dX12_laySweep 126 rfl) hM.a16 (show _ < 23040 from (show 512 * y.1 + d0S n (stH h n) y.1 < 23040 by omega)) (Nat.le_of_ble_eq_true rfl) ?_
    rw [show B 16 (512 * y.1 + dif (2 ^ n - 1) (stH h n y.1)) = oI (some y.2) from by rw [← b6]; exact hL y.1 _ b1 hbd]
    refine wp_putM fX12_341 (atd dX12_laySweep 127 rfl) hM rfl (fun σ hM => ?_)
    refine wp_iload_n (atd dX12_laySweep 128 rfl) rfl ?_
    refine wp_ifN_lt (tgt := 244) (atd dX12_laySweep 129 rfl) (by decide) (by omega) ?_
    refine wp_aload_n (atd dX12_laySweep 130 rfl) rfl rfl ?_
    refine wp_iload_n (atd dX12_laySweep 131 rfl) rfl ?_
    refine wp_cVv hdd [_] (atd dX12_laySweep 132 rfl) iX12_layWay lX12_344 rfl rfl (Nat.le_of_ble_eq_true rfl) hM.1.1 rfl (eX12_layWay (k := y.2) (by omega) hM.self hp hN hb hw hh hR hCG hL hT hg0 hA hB rfl b2 b1 b4 b5) (fun s_241 h_241 => ?_)
    obtain ⟨B1, hM1, hfb1, hx1⟩ := h_241
    have hM := hM.trans hM1
    refine wp_vretv (atd dX12_laySweep 133 rfl) rfl ?_
    exact ⟨_, B1, hM, frm.rf.up (by decide), frm_sub hfb hfb1 (by decide) (by decide), by rw [b3]; rfl, fun k hk r hr => by rw [b3] at hk; cases hk; exact hx1 r hr⟩
theorem oX12_laySweep {G : Gx} {d : Nat} {σ0 : Hp} {m n h : Nat} {α : Nat → Int32} {B0 : Nat → Nat → Int32} {nb : Nat → Nat} (hd : 5 ≤ d) (hp : α 2 = nI n) (hN : isNet n nb) (hb0 : ∀ p, p < n → B0 1 p = nI (nb p)) (hw : ∀ p, nb p < 512) (hh : h ≤ 2) (h32 : α 32 = nI (rowsL h n).length) (hR0 : RW B0 (rowsL h n) h) (hCG0 : CG B0 nb h 0 (rowsL h n)) : ∀ (f : Nat) (σ : Hp) (B : Nat → Nat → Int32) (g : Nat → Nat → Option Nat) (mo t : Nat) (e5 e6 : Value), MA σ0 σ m α B → frm [16] B0 B → LFA B g (rowsL h n).length → (∀ i, i < (rowsL h n).length → g i 0 = some 0) → swA nb n (rowsL h n).length (stH h n) (cgH nb n h) g t → swB nb n (rowsL h n).length (stH h n) (cgH nb n h) g (t + 1) → mo ≤ 1 → (mo = 0 → ∀ k i d, i < (rowsL h n).length → d < 512 → vS n (stH h n) i d → swH nb n h k i d → g i d ≠ none) → t + f = 60 → Wp G mX12_laySweep d 74 [.ref m, .int (nI h), .int (oI (o1 (bbF (fun i => g i (d0H n h i)) (rowsL h n).length))), .int (nI mo), .int (nI (t + 1)), e5, e6] [] σ 0 0 (pV fun s => ∃ α1 B1, MA σ0 s m α1 B1 ∧ frm [45] α α1 ∧ frm [16, 17] B0 B1 ∧ α1 45 = oI (swK nb n h) ∧ ∀ k, swK nb n h = some k → ∀ r, r ≤ k → B1 17 r = nI (swY nb n h k r).1) := by
  obtain ⟨d0, hdd⟩ : ∃ e, d = e + 1 := ⟨d - 1, by omega⟩
  have hn := hN.1
  have hR45 := rowsL_len2 n (by omega) h (by omega)
  have h2n := Nat.two_pow_pos n
  have h2n9 := pow9 hn
  intro f
  induction f with
  | zero =>
    intro σ B g mo t e5 e6 hM hfb hL hg0 hA hB hmo hcl htf
    refine wp_iload (atd dX12_laySweep 43 rfl) rfl ?_
    refine wp_bipush (v := nI 60) (atd dX12_laySweep 44 rfl) (by decide) ?_
    refine wp_icmpN_gt (tgt := 199) (atd dX12_laySweep 45 rfl) (by decide) (by omega) (by omega) (fun c_78 => ?_) (fun c_78 => ?_)
    ·
      exact lX12_laySweep4 hd hp hN hb0 hw hh h32 hR0 hCG0 hM hfb hL hg0 (by omega) hA hB (fun hbb => swK_none (fun k hk i hi hW => hB i _ k hi (d0S_lt hn) vS_0 (by omega) hW (bbF_none hbb i hi)))
    · exfalso; omega
  | succ f ih =>
    intro σ B g mo t e5 e6 hM hfb hL hg0 hA hB hmo hcl htf
    refine wp_iload (atd dX12_laySweep 43 rfl) rfl ?_
    refine wp_bipush (v := nI 60) (atd dX12_laySweep 44 rfl) (by decide) ?_
    refine wp_icmpN_gt (tgt := 199) (atd dX12_laySweep 45 rfl) (by decide) (by omega) (by omega) (fun c_78 => ?_) (fun c_78 => ?_)
    · exfalso; omega
    ·
      refine wp_iload_n (atd dX12_laySweep 46 rfl) rfl ?_
      refine wp_ifN_eq (tgt := 199) (atd dX12_laySweep 47 rfl) (by decide) (by omega) (fun c_82 => ?_) (fun c_82 => ?_)
      ·
        exact lX12_laySweep4 hd hp hN hb0 hw hh h32 hR0 hCG0 hM hfb hL hg0 (by omega) hA hB (fun hbb => swK_none (fun k hk i hi hW => hcl (by omega) k i _ hi (d0S_lt hn) vS_0 hW (bbF_none hbb i hi)))
      ·
        generalize hbb : bbF (fun i => g i (d0H n h i)) (rowsL h n).length = bb; rcases bb with _ | y
        ·
          rw [show oI (o1 (none : Option (Nat × Nat))) = -1 from rfl]
          refine wp_iload_n (atd dX12_laySweep 48 rfl) rfl ?_
          refine wp_if_ge (tgt := 199) (atd dX12_laySweep 49 rfl) (by decide) (fun c_86 => ?_) (fun c_86 => ?_)
          · exact absurd c_86 (by decide)
          ·
            refine wp_iconst (v := nI 0) (atd dX12_laySweep 50 rfl) (by decide) ?_
            refine wp_istore_n (atd dX12_laySweep 51 rfl) (Nat.le_of_ble_eq_true rfl) ?_
            refine wp_iconst (v := nI 0) (atd dX12_laySweep 52 rfl) (by decide) ?_
            refine wp_istore (atd dX12_laySweep 53 rfl) (Nat.le_of_ble_eq_true rfl) ?_
            refine lX12_laySweep3 hd hp hN hb0 hw hh h32 hR0 hCG0 (t := t) (gs := g) (by omega) (fun σ B g1 mo e5 e6 hM hfb hL hg0 hA1 hB1 hP hmo hgs => ?_) (rowsL h n).length _ B g 0 0 _ hM hfb hL hg0 (hA.mono (by omega)) hB (fun x y hx hy hxy hv hW => by (have e : y = 0 := by omega); subst e; rw [hg0 x hx]; intro z; cases z) (by omega) (fun _ => rfl) (by omega)
            refine wp_aload_n (atd dX12_laySweep 101 rfl) rfl rfl ?_
            refine wp_cVi hdd [] (atd dX12_laySweep 102 rfl) iX12_bestBegin lX12_335 rfl rfl (Nat.le_of_ble_eq_true rfl) hM.1.1 rfl (eX12_bestBegin (X := t + 1) (st := stH h n) (g := g1) (by omega) hM.self hp hn (fun p hpn => by rw [hfb 1 (by decide)]; exact hb0 p hpn) hw hR45 (fun i hi => by rw [hfb 12 (by decide)]; exact (hR0 i hi).2) (fun i hi => stH_lt hn (by omega) hi) hL (by omega) (fun i d x hi hd hx => (hA1 i d x hi hd hx).1) hg0 h32) (fun r_189 s_189 h_189 => ?_)
            obtain ⟨rfl, rfl⟩ := h_189
            refine wp_istore_n (atd dX12_laySweep 103 rfl) (Nat.le_of_ble_eq_true rfl) ?_
            refine wp_iincN (c := 1) (atd dX12_laySweep 104 rfl) rfl ?_
            refine wp_goto (tgt := 74) (atd dX12_laySweep 105 rfl) (by decide) ?_
            refine ih _ B g1 mo (t + 1) _ _ hM hfb hL hg0 hA1 (swB_of hB1 hP) hmo (fun hz => ?_) (by omega)
            have e := hgs hz
            subst e
            exact sw_cl hN hA hP hB hg0
        ·
          rw [show oI (o1 (some y)) = nI y.1 from rfl]
          have hy9 := (bbF_some hbb).1
          refine wp_iload_n (atd dX12_laySweep 48 rfl) rfl ?_
          refine wp_ifN_ge (tgt := 199) (atd dX12_laySweep 49 rfl) (by decide) (by omega) ?_
          have := lX12_laySweep4 (G := G) (e3 := .int (nI mo)) (e4 := .int (nI (t + 1))) (e5 := e5) (e6 := e6) hd hp hN hb0 hw hh h32 hR0 hCG0 hM hfb hL hg0 (by omega) hA hB (fun z => by rw [hbb] at z; cases z)
          rw [hbb] at this
          exact this
theorem lX12_laySweepH {G : Gx} {d : Nat} {σ : Hp} (hd : 6 ≤ d) {m n : Nat} {α : Nat → Int32} {B : Nat → Nat → Int32} {nb : Nat → Nat} (hM : MA σ σ m α B) (hp : α 2 = nI n) (hn : n ≤ 9) (hb : ∀ p, p < n → B 1 p = nI (nb p)) (hw : ∀ p, nb p < 512) (ho : ∀ j, j < 18 → B 8 j = nI (ordT j)) (hG : GOk α B nb n) (hN : isNet n nb) {h : Nat} (hh1 : 1 ≤ h) (hh : h ≤ 2) : Wp G mX12_laySweep d 9 [.ref m, .int (nI h), .double 0, .double 0, .double 0, .double 0, .double 0] [] σ 0 0 (pV fun s => ∃ α1 B1, MA σ s m α1 B1 ∧ frm [19, 21, 32, 33, 45] α α1 ∧ frm [7, 9, 12, 16, 17] B B1 ∧ SwOk α1 B1 nb n ∧ α1 21 = nI h ∧ GOk α1 B1 nb n) := by
  obtain ⟨d0, hdd⟩ : ∃ e, d = e + 1 := ⟨d - 1, by omega⟩
  have hn := hN.1
  have hR45 := rowsL_len2 n (by omega) h (by omega)
  have h2n := Nat.two_pow_pos n
  have h2n9 := pow9 hn
  refine wp_aload_n (atd dX12_laySweep 5 rfl) rfl rfl ?_
  refine wp_iconst (v := -1) (atd dX12_laySweep 6 rfl) (by decide) ?_
  refine wp_putM fX12_26 (atd dX12_laySweep 7 rfl) hM rfl (fun σ hM => ?_)
  refine wp_aload_n (atd dX12_laySweep 8 rfl) rfl rfl ?_
  refine wp_iconst (v := nI 0) (atd dX12_laySweep 9 rfl) (by decide) ?_
  refine wp_iload_n (atd dX12_laySweep 10 rfl) rfl ?_
  refine wp_cVv hdd [_, _] (atd dX12_laySweep 11 rfl) iX12_layGoing lX12_249 rfl rfl (Nat.le_of_ble_eq_true rfl) hM.1.1 rfl (eX12_layGoing (kd := 0) (by omega) hM.self hp hn hb hw hh1 (by omega) (by decide) ho) (fun s_17 h_17 => ?_)
  obtain ⟨α1, B1, hM1, hfa1, hfb1, g33, g32, gR, gcg⟩ := h_17
  have hM := hM.trans hM1
  refine wp_aload_n (atd dX12_laySweep 12 rfl) rfl rfl ?_
  refine wp_iload_n (atd dX12_laySweep 13 rfl) rfl ?_
  refine wp_putM fX12_178 (atd dX12_laySweep 14 rfl) hM rfl (fun σ hM => ?_)
  refine wp_iconst (v := nI 0) (atd dX12_laySweep 15 rfl) (by decide) ?_
  refine wp_istore_n (atd dX12_laySweep 16 rfl) (Nat.le_of_ble_eq_true rfl) ?_
  refine lX12_laySweep1 (α := (upd α1 21 (nI h))) (B0 := B1) (h := h) (by omega) ((hfa1 2 (by decide)).trans hp) hN (fun p hpn => by rw [hfb1 1 (by decide)]; exact hb p hpn) hw hh g32 gR gcg (fun σ2 B2 e2 e3 e4 e5 e6 hM hfb2 hL => ?_) (512 * (rowsL h n).length) _ B1 0 _ _ _ _ hM frm.rf (fun x hx => absurd hx (Nat.not_lt_zero x)) (by omega)
  refine wp_aload_n (atd dX12_laySweep 36 rfl) rfl rfl ?_
  refine wp_cVi hdd [] (atd dX12_laySweep 37 rfl) iX12_bestBegin lX12_335 rfl rfl (Nat.le_of_ble_eq_true rfl) hM.1.1 rfl (eX12_bestBegin (X := 0) (st := stH h n) (g := g0S) (by omega) hM.self ((hfa1 2 (by decide)).trans hp) hn (fun p hpn => by rw [hfb2 1 (by decide), hfb1 1 (by decide)]; exact hb p hpn) hw hR45 (fun i hi => by rw [hfb2 12 (by decide)]; exact (gR i hi).2) (fun i hi => stH_lt hn (by omega) hi) hL (by omega) (fun i d x hi hd hx => (swA_0 (nb := nb) (n := n) (st := stH h n) (cg := cgH nb n h) i d x hi hd hx).1) (fun i hi => rfl) g32) (fun r_65 s_65 h_65 => ?_)
  obtain ⟨rfl, rfl⟩ := h_65
  refine wp_istore_n (atd dX12_laySweep 38 rfl) (Nat.le_of_ble_eq_true rfl) ?_
  refine wp_iconst (v := nI 1) (atd dX12_laySweep 39 rfl) (by decide) ?_
  refine wp_istore_n (atd dX12_laySweep 40 rfl) (Nat.le_of_ble_eq_true rfl) ?_
  refine wp_iconst (v := nI 1) (atd dX12_laySweep 41 rfl) (by decide) ?_
  refine wp_istore (atd dX12_laySweep 42 rfl) (Nat.le_of_ble_eq_true rfl) ?_
  refine wp_post (oX12_laySweep (α := (upd α1 21 (nI h))) (B0 := B1) (h := h) (by omega) ((hfa1 2 (by decide)).trans hp) hN (fun p hpn => by rw [hfb1 1 (by decide)]; exact hb p hpn) hw hh g32 gR gcg 60 _ B2 g0S 1 0 _ _ hM hfb2 hL (fun i hi => rfl) swA_0 swB_0 (by omega) (fun z => by omega) (by omega)) ?_
  rintro v s ⟨rfl, α3, B3, hM3, hfa3, hfb3, h45, hx3⟩
  refine ⟨rfl, α3, B3, hM3, frm_sub (U := [19, 21, 32, 33, 45]) (frm_sub (U := [19, 21, 32, 33]) (frm_sub (U := [19, 32, 33]) (frm.up (f := α) (frm.rf (S := [19])) (by decide)) hfa1 (by decide) (by decide)) ((frm.rf (S := [21])).up (by decide)) (by decide) (by decide)) hfa3 (by decide) (by decide), frm_sub hfb1 hfb3 (by decide) (by decide), Or.inr ⟨h, hh1, hh, (hfa3 21 (by decide)).trans rfl, h45, hx3⟩, (hfa3 21 (by decide)).trans rfl, Or.inl ?_⟩
  exact (hfa3 19 (by decide)).trans ((hfa1 19 (by decide)).trans rfl)
theorem eX12_laySweep {G : Gx} {d : Nat} {σ : Hp} (hd : 6 ≤ d) {m n : Nat} {α : Nat → Int32} {B : Nat → Nat → Int32} {nb : Nat → Nat} (hM : MA σ σ m α B) (hp : α 2 = nI n) (hn : n ≤ 9) (hb : ∀ p, p < n → B 1 p = nI (nb p)) (hw : ∀ p, nb p < 512) (ho : ∀ j, j < 18 → B 8 j = nI (ordT j)) (hG : GOk α B nb n) (hN : isNet n nb) {h : Nat} (hh1 : 1 ≤ h) (hh : h ≤ 2) (hS : SwOk α B nb n) : Cl G mX12_laySweep d [.ref m, .int (nI h)] σ 0 0 (pV fun s => ∃ α1 B1, MA σ s m α1 B1 ∧ frm [19, 21, 32, 33, 45] α α1 ∧ frm [7, 9, 12, 16, 17] B B1 ∧ SwOk α1 B1 nb n ∧ α1 21 = nI h ∧ GOk α1 B1 nb n) := by
  obtain ⟨d0, hdd⟩ : ∃ e, d = e + 1 := ⟨d - 1, by omega⟩
  refine cl_of (by decide) (by simp [Value.category]) (Nat.le_of_ble_eq_true rfl) ?_
  show Wp G mX12_laySweep d 0 [.ref m, .int (nI h), .double 0, .double 0, .double 0, .double 0, .double 0] [] σ 0 0 _
  rcases hS with h21 | ⟨h2, q1, q2, h21, h45, hx⟩
  ·
    refine wp_aload_n (atd dX12_laySweep 0 rfl) rfl rfl ?_
    refine wp_get fX12_178 (atd dX12_laySweep 1 rfl) hM.1.1 (congrArg (fun z => some (Value.int z)) h21) ?_
    refine wp_iload_n (atd dX12_laySweep 2 rfl) rfl ?_
    refine wp_icmpN_ne (tgt := 9) (atd dX12_laySweep 3 rfl) (by decide) (by omega) (by omega) (fun c_5 => ?_) (fun c_5 => ?_)
    ·
      exact lX12_laySweepH hd hM hp hn hb hw ho hG hN hh1 hh
    · exfalso; omega
  ·
    refine wp_aload_n (atd dX12_laySweep 0 rfl) rfl rfl ?_
    refine wp_get fX12_178 (atd dX12_laySweep 1 rfl) hM.1.1 (congrArg (fun z => some (Value.int z)) h21) ?_
    refine wp_iload_n (atd dX12_laySweep 2 rfl) rfl ?_
    refine wp_icmpN_ne (tgt := 9) (atd dX12_laySweep 3 rfl) (by decide) (by omega) (by omega) (fun c_5 => ?_) (fun c_5 => ?_)
    ·
      exact lX12_laySweepH hd hM hp hn hb hw ho hG hN hh1 hh
    ·
      refine wp_vretv (atd dX12_laySweep 4 rfl) rfl ?_
      subst c_5
      exact ⟨α, B, hM, frm.rf, frm.rf, Or.inr ⟨h2, q1, q2, h21, h45, hx⟩, h21, hG⟩
abbrev isW2 (x : Int32) : Prop := 1 ≤ x.toInt ∧ x.toInt ≤ 2
theorem isW2_of {x : Int32} (h : isW2 x) : ∃ j, 1 ≤ j ∧ j ≤ 2 ∧ x = nI j := by
  obtain ⟨j, h1, rfl⟩ := isP_ofB (n := 3) (p := x) ⟨by omega, by omega⟩
  have := h.1
  rw [nI_toInt (by omega)] at this
  exact ⟨j, by omega, by omega, rfl⟩
theorem isW2_iff {x : Int32} : (¬ x < nI 1 ∧ ¬ nI 2 < x) ↔ isW2 x := by
  rw [Int32.lt_iff_toInt_lt, Int32.lt_iff_toInt_lt, show (nI 1).toInt = 1 from by decide, show (nI 2).toInt = 2 from by decide]
  omega
theorem isW2_nI {h : Nat} (h1 : 1 ≤ h) (h2 : h ≤ 2) : isW2 (nI h) := by
  constructor
  · rw [nI_toInt (by omega)]; omega
  · rw [nI_toInt (by omega)]; omega
noncomputable def swF (nb : Nat → Nat) (n : Nat) (a : Int32) (f : Nat → Nat → Int32) : Int32 := if isW2 a ∧ 0 < n then (match swK nb n a.toNatClampNeg with
  | none => -1
  | some k => f a.toNatClampNeg k) else -1
theorem swF_t {nb : Nat → Nat} {n h k : Nat} {f : Nat → Nat → Int32} (h1 : 1 ≤ h) (h2 : h ≤ 2) (hn : 0 < n) (hk : swK nb n h = some k) : swF nb n (nI h) f = f h k := by
  unfold swF
  rw [if_pos ⟨isW2_nI h1 h2, hn⟩, nI_clamp (by omega), hk]
theorem swF_n {nb : Nat → Nat} {n h : Nat} {f : Nat → Nat → Int32} (h1 : 1 ≤ h) (h2 : h ≤ 2) (hn : 0 < n) (hk : swK nb n h = none) : swF nb n (nI h) f = -1 := by
  unfold swF
  rw [if_pos ⟨isW2_nI h1 h2, hn⟩, nI_clamp (by omega), hk]
theorem swF_f {nb : Nat → Nat} {n : Nat} {a : Int32} {f : Nat → Nat → Int32} (h : ¬ (isW2 a ∧ 0 < n)) : swF nb n a f = -1 := if_neg h
theorem swK_le {nb : Nat → Nat} {n h k : Nat} (hk : swK nb n h = some k) : k ≤ 60 := by
  unfold swK at hk
  split at hk
  · cases hk; assumption
  · cases hk
/-- the state behind an asking for sweeps -/
def SX (S T : List Nat) (σ s : Hp) (m : Nat) (α : Nat → Int32) (B : Nat → Nat → Int32) (nb : Nat → Nat) (n : Nat) (α1 : Nat → Int32) (B1 : Nat → Nat → Int32) : Prop := MA σ s m α1 B1 ∧ frm S α α1 ∧ frm T B B1 ∧ SwOk α1 B1 nb n ∧ GOk α1 B1 nb n
theorem SwOk.at {α : Nat → Int32} {B : Nat → Nat → Int32} {nb : Nat → Nat} {n h : Nat} (hS : SwOk α B nb n) (h1 : 1 ≤ h) (h2 : h ≤ 2) (h21 : α 21 = nI h) : α 45 = oI (swK nb n h) ∧ ∀ k, swK nb n h = some k → ∀ r, r ≤ k → B 17 r = nI (swY nb n h k r).1 := by
  rcases hS with e | ⟨h3, q1, q2, e, h45, hx⟩
  · rw [e] at h21
    have := (nI_eq (by decide) (by omega)).mp h21
    omega
  · rw [e] at h21
    have := (nI_eq (by omega) (by omega)).mp h21
    subst this
    exact ⟨h45, hx⟩
theorem eX12_isSweep {G : Gx} {d : Nat} {σ : Hp} (hd : 7 ≤ d) {m n : Nat} {α : Nat → Int32} {B : Nat → Nat → Int32} {nb : Nat → Nat} (hM : MA σ σ m α B) (hp : α 2 = nI n) (hn : n ≤ 9) (hb : ∀ p, p < n → B 1 p = nI (nb p)) (hw : ∀ p, nb p < 512) (ho : ∀ j, j < 18 → B 8 j = nI (ordT j)) (hG : GOk α B nb n) (hN : isNet n nb) (hS : SwOk α B nb n) {a : Int32} : Cl G mX12_isSweep d [.ref m, .int a] σ 0 0 (pI fun r s => r = bI (isW2 a ∧ 0 < n ∧ swK nb n a.toNatClampNeg ≠ none) ∧ ∃ α1 B1, SX [19, 21, 32, 33, 45] [7, 9, 12, 16, 17] σ s m α B nb n α1 B1 ∧ (isW2 a ∧ 0 < n → α1 21 = a)) := by
  obtain ⟨d0, hdd⟩ : ∃ e, d = e + 1 := ⟨d - 1, by omega⟩
  refine cl_of (by decide) (by simp [Value.category]) (Nat.le_of_ble_eq_true rfl) ?_
  show Wp G mX12_isSweep d 0 [.ref m, .int a] [] σ 0 0 _
  refine wp_iload_n (atd dX12_isSweep 0 rfl) rfl ?_
  refine wp_iconst (v := nI 1) (atd dX12_isSweep 1 rfl) (by decide) ?_
  refine wp_iconst (v := nI 2) (atd dX12_isSweep 2 rfl) (by decide) ?_
  refine wp_cSi hdd [_, _, _] (atd dX12_isSweep 3 rfl) iX12_in lX12_81 rfl rfl (Nat.le_of_ble_eq_true rfl) (eX12_in (by omega)) (fun r_3 s_3 h_3 => ?_)
  obtain ⟨rfl, rfl⟩ := h_3
  rw [bI_c isW2_iff]
  refine wp_ifB_eq (tgt := 16) (atd dX12_isSweep 4 rfl) (by decide) (fun c_6 => ?_) (fun c_6 => ?_)
  ·
    refine wp_iconst (v := nI 0) (atd dX12_isSweep 8 rfl) (by decide) ?_
    refine wp_iretz (atd dX12_isSweep 9 rfl) rfl (by first | rfl | decide) ?_
    exact ⟨(bI_f (fun z => c_6 z.1)).symm, α, B, ⟨hM, frm.rf, frm.rf, hS, hG⟩, fun z => absurd z.1 c_6⟩
  ·
    have hc6 := c_6
    obtain ⟨h, hh1, hh, rfl⟩ := isW2_of c_6
    refine wp_aload_n (atd dX12_isSweep 5 rfl) rfl rfl ?_
    refine wp_get fX12_78 (atd dX12_isSweep 6 rfl) hM.1.1 (congrArg (fun z => some (Value.int z)) hp) ?_
    refine wp_ifN_ne (tgt := 18) (atd dX12_isSweep 7 rfl) (by decide) (by omega) (fun c_13 => ?_) (fun c_13 => ?_)
    ·
      refine wp_aload_n (atd dX12_isSweep 10 rfl) rfl rfl ?_
      refine wp_iload_n (atd dX12_isSweep 11 rfl) rfl ?_
      refine wp_cVv hdd [_] (atd dX12_isSweep 12 rfl) iX12_laySweep lX12_347 rfl rfl (Nat.le_of_ble_eq_true rfl) hM.1.1 rfl (eX12_laySweep (by omega) hM.self hp hn hb hw ho hG hN hh1 hh hS) (fun s_20 h_20 => ?_)
      obtain ⟨α1, B1, hM1, hfa1, hfb1, hS1, h21, hG1⟩ := h_20
      have hM := hM.trans hM1
      have h45 := (hS1.at hh1 hh h21).1
      refine wp_aload_n (atd dX12_isSweep 13 rfl) rfl rfl ?_
      refine wp_get fX12_341 (atd dX12_isSweep 14 rfl) hM.1.1 (congrArg (fun z => some (Value.int z)) h45) ?_
      generalize hx : swK nb n h = xx; rcases xx with _ | x
      ·
        refine wp_if_lt (tgt := 34) (atd dX12_isSweep 15 rfl) (by decide) (fun c_27 => ?_) (fun c_27 => ?_)
        ·
          refine wp_iconst (v := nI 0) (atd dX12_isSweep 18 rfl) (by decide) ?_
          refine wp_iretz (atd dX12_isSweep 19 rfl) rfl (by first | rfl | decide) ?_
          exact ⟨(bI_f (fun z => z.2.2 (by rw [nI_clamp (by omega)]; exact hx))).symm, α1, B1, ⟨hM, hfa1, hfb1, hS1, hG1⟩, fun _ => h21⟩
        · exact absurd (by decide) c_27
      ·
        have hx9 := swK_le hx
        refine wp_ifN_lt (tgt := 34) (atd dX12_isSweep 15 rfl) (by decide) (by omega) ?_
        refine wp_iconst (v := nI 1) (atd dX12_isSweep 16 rfl) (by decide) ?_
        refine wp_goto (tgt := 35) (atd dX12_isSweep 17 rfl) (by decide) ?_
        refine wp_iretz (atd dX12_isSweep 19 rfl) rfl (by first | rfl | decide) ?_
        exact ⟨(bI_t ⟨c_6, c_13, by rw [nI_clamp (by omega), hx]; intro z; cases z⟩).symm, α1, B1, ⟨hM, hfa1, hfb1, hS1, hG1⟩, fun _ => h21⟩
    ·
      refine wp_iconst (v := nI 0) (atd dX12_isSweep 8 rfl) (by decide) ?_
      refine wp_iretz (atd dX12_isSweep 9 rfl) rfl (by first | rfl | decide) ?_
      exact ⟨(bI_f (fun z => by omega)).symm, α, B, ⟨hM, frm.rf, frm.rf, hS, hG⟩, fun z => absurd z.2 (by omega)⟩
theorem eX12_sweep {G : Gx} {d : Nat} {σ : Hp} (hd : 8 ≤ d) {m n : Nat} {α : Nat → Int32} {B : Nat → Nat → Int32} {nb : Nat → Nat} (hM : MA σ σ m α B) (hp : α 2 = nI n) (hn : n ≤ 9) (hb : ∀ p, p < n → B 1 p = nI (nb p)) (hw : ∀ p, nb p < 512) (ho : ∀ j, j < 18 → B 8 j = nI (ordT j)) (hG : GOk α B nb n) (hN : isNet n nb) (hS : SwOk α B nb n) {a : Int32} : Cl G mX12_sweep d [.ref m, .int a] σ 0 0 (pI fun r s => r = swF nb n a (fun _ k => nI k) ∧ ∃ α1 B1, SX [0, 19, 21, 32, 33, 45] [7, 9, 12, 16, 17] σ s m α B nb n α1 B1 ∧ α1 0 = nI 0) := by
  obtain ⟨d0, hdd⟩ : ∃ e, d = e + 1 := ⟨d - 1, by omega⟩
  refine cl_of (by decide) (by simp [Value.category]) (Nat.le_of_ble_eq_true rfl) ?_
  show Wp G mX12_sweep d 0 [.ref m, .int a] [] σ 0 0 _
  refine wp_aload_n (atd dX12_sweep 0 rfl) rfl rfl ?_
  refine wp_iconst (v := nI 0) (atd dX12_sweep 1 rfl) (by decide) ?_
  refine wp_putM fX12_75 (atd dX12_sweep 2 rfl) hM rfl (fun σ hM => ?_)
  refine wp_aload_n (atd dX12_sweep 3 rfl) rfl rfl ?_
  refine wp_iload_n (atd dX12_sweep 4 rfl) rfl ?_
  refine wp_cVi hdd [_] (atd dX12_sweep 5 rfl) iX12_isSweep lX12_350 rfl rfl (Nat.le_of_ble_eq_true rfl) hM.1.1 rfl (eX12_isSweep (by omega) hM.self hp hn hb hw ho hG hN hS) (fun r_7 s_7 h_7 => ?_)
  obtain ⟨rfl, α1, B1, ⟨hM1, hfa1, hfb1, hS1, hG1⟩, h21⟩ := h_7
  have hM := hM.trans hM1
  refine wp_ifB_eq (tgt := 20) (atd dX12_sweep 6 rfl) (by decide) (fun c_10 => ?_) (fun c_10 => ?_)
  ·
    refine wp_iconst (v := -1) (atd dX12_sweep 10 rfl) (by decide) ?_
    refine wp_ireti (atd dX12_sweep 11 rfl) rfl ?_
    refine ⟨?_, α1, B1, ⟨hM, frm_sub (frm.up (f := α) (frm.rf (S := [0])) (by decide)) hfa1 (by decide) (by decide), hfb1, hS1, hG1⟩, (hfa1 0 (by decide)).trans rfl⟩
    unfold swF
    split
    · rename_i hz
      cases hy : swK nb n a.toNatClampNeg with
      | none => rfl
      | some y => exact absurd ⟨hz.1, hz.2, by rw [hy]; intro z; cases z⟩ c_10
    · rfl
  ·
    obtain ⟨c1, hn1, c3⟩ := c_10
    have h21 := h21 ⟨c1, hn1⟩
    obtain ⟨h, hh1, hh, rfl⟩ := isW2_of c1
    rw [nI_clamp (by omega)] at c3
    obtain ⟨h45, h17⟩ := hS1.at hh1 hh h21
    rcases hx : swK nb n h with _ | k
    · exact absurd hx c3
    have hk60 := swK_le hx
    rw [hx] at h45
    have h45 : α1 45 = nI k := h45
    refine wp_aload_n (atd dX12_sweep 7 rfl) rfl rfl ?_
    refine wp_get fX12_341 (atd dX12_sweep 8 rfl) hM.1.1 (congrArg (fun z => some (Value.int z)) h45) ?_
    refine wp_goto (tgt := 21) (atd dX12_sweep 9 rfl) (by decide) ?_
    refine wp_ireti (atd dX12_sweep 11 rfl) rfl ?_
    exact ⟨by rw [swF_t hh1 hh hn1 hx], α1, B1, ⟨hM, frm_sub (frm.up (f := α) (frm.rf (S := [0])) (by decide)) hfa1 (by decide) (by decide), hfb1, hS1, hG1⟩, (hfa1 0 (by decide)).trans rfl⟩
theorem atPk_t {j n : Nat} {f : Nat → Int32} {e : Int32} (hn : n < 2 ^ 30) (hj : j < n) : atP (nI j) n f e = f j := by
  unfold atP
  rw [if_pos ((isP_nI (by omega)).mpr hj), nI_clamp (by omega)]
theorem swY_lt {nb : Nat → Nat} {n h k : Nat} (hN : isNet n nb) (hk : swK nb n h = some k) : ∀ r, r ≤ k → (swY nb n h k r).1 < (rowsL h n).length ∧ swM nb n h (k - r) (swY nb n h k r).1 (swY nb n h k r).2 := by
  have hk0 := hk
  unfold swK at hk
  have hN60 : swN nb n h ≤ 60 ∧ swN nb n h = k := by
    split at hk
    · rename_i hz; cases hk; exact ⟨hz, rfl⟩
    · cases hk
  have h1 : (∃ i, i < (rowsL h n).length ∧ swH nb n h k i (d0H n h i)) ∧ ∀ y, y < k → ¬ (∃ i, i < (rowsL h n).length ∧ swH nb n h y i (d0H n h i)) := by
    by_cases hex : ∃ x, 0 ≤ x ∧ x < 0 + 61 ∧ (∃ i, i < (rowsL h n).length ∧ swH nb n h x i (d0H n h i))
    · obtain ⟨-, -, g3, g4⟩ := ftP_ex hex
      have e : ftP (fun k => ∃ i, i < (rowsL h n).length ∧ swH nb n h k i (d0H n h i)) 61 0 = k := hN60.2
      rw [e] at g3 g4
      exact ⟨g3, fun y hy => g4 y (by omega) hy⟩
    · have e : ftP (fun k => ∃ i, i < (rowsL h n).length ∧ swH nb n h k i (d0H n h i)) 61 0 = 0 + 61 := ftP_none (fun y g1 g2 z => hex ⟨y, g1, g2, z⟩)
      have e2 : swN nb n h = 61 := e
      omega
  intro r
  induction r with
  | zero =>
    intro _
    obtain ⟨⟨i, hi, hW⟩, hlow⟩ := h1
    obtain ⟨-, g2, g3, -⟩ := ftP_ex (P := fun i => swH nb n h k i (d0H n h i)) (k := (rowsL h n).length) (j := 0) ⟨i, by omega, by omega, hW⟩
    rw [Nat.zero_add] at g2
    exact ⟨g2, g3, fun k2 hk2 hW2 => hlow k2 hk2 ⟨_, g2, hW2⟩⟩
  | succ r ih =>
    intro hr
    obtain ⟨-, hm⟩ := ih (by omega)
    obtain ⟨y1, y2, -, y4⟩ := swY_s (r := r) (by omega) hm
    rw [show k - r = k - (r + 1) + 1 by omega] at hm
    have := swM_step hm y1 y2.1 y2.2
    rw [← y4] at this
    exact ⟨y1, this⟩
theorem eX12_swept {G : Gx} {d : Nat} {σ : Hp} (hd : 8 ≤ d) {m n : Nat} {α : Nat → Int32} {B : Nat → Nat → Int32} {nb : Nat → Nat} (hM : MA σ σ m α B) (hp : α 2 = nI n) (hn : n ≤ 9) (hb : ∀ p, p < n → B 1 p = nI (nb p)) (hw : ∀ p, nb p < 512) (ho : ∀ j, j < 18 → B 8 j = nI (ordT j)) (hG : GOk α B nb n) (hN : isNet n nb) (hS : SwOk α B nb n) {a b c : Int32} : Cl G mX12_swept d [.ref m, .int a, .int b, .int c] σ 0 0 (pI fun r s => r = swF nb n a (fun h k => atP b (k + 1) (fun r => atP c h (fun j => nI (rk (rowAt (rowsL h n) (swY nb n h k r).1) j)) (-1)) (-1)) ∧ ∃ α1 B1, SX [0, 19, 21, 32, 33, 45] [7, 9, 12, 16, 17] σ s m α B nb n α1 B1 ∧ α1 0 = nI 0) := by
  obtain ⟨d0, hdd⟩ : ∃ e, d = e + 1 := ⟨d - 1, by omega⟩
  refine cl_of (by decide) (by simp [Value.category]) (Nat.le_of_ble_eq_true rfl) ?_
  show Wp G mX12_swept d 0 [.ref m, .int a, .int b, .int c] [] σ 0 0 _
  refine wp_aload_n (atd dX12_swept 0 rfl) rfl rfl ?_
  refine wp_iconst (v := nI 0) (atd dX12_swept 1 rfl) (by decide) ?_
  refine wp_putM fX12_75 (atd dX12_swept 2 rfl) hM rfl (fun σ hM => ?_)
  refine wp_aload_n (atd dX12_swept 3 rfl) rfl rfl ?_
  refine wp_iload_n (atd dX12_swept 4 rfl) rfl ?_
  refine wp_cVi hdd [_] (atd dX12_swept 5 rfl) iX12_isSweep lX12_350 rfl rfl (Nat.le_of_ble_eq_true rfl) hM.1.1 rfl (eX12_isSweep (by omega) hM.self hp hn hb hw ho hG hN hS) (fun r_7 s_7 h_7 => ?_)
  obtain ⟨rfl, α1, B1, ⟨hM1, hfa1, hfb1, hS1, hG1⟩, h21⟩ := h_7
  have hM := hM.trans hM1
  refine wp_ifB_eq (tgt := 36) (atd dX12_swept 6 rfl) (by decide) (fun c_10 => ?_) (fun c_10 => ?_)
  ·
    refine wp_iconst (v := -1) (atd dX12_swept 20 rfl) (by decide) ?_
    refine wp_ireti (atd dX12_swept 21 rfl) rfl ?_
    refine ⟨?_, α1, B1, ⟨hM, frm_sub (frm.up (f := α) (frm.rf (S := [0])) (by decide)) hfa1 (by decide) (by decide), hfb1, hS1, hG1⟩, (hfa1 0 (by decide)).trans rfl⟩
    unfold swF
    split
    · rename_i hz
      cases hy : swK nb n a.toNatClampNeg with
      | none => rfl
      | some y => exact absurd ⟨hz.1, hz.2, by rw [hy]; intro z; cases z⟩ c_10
    · rfl
  ·
    obtain ⟨c1, hn1, c3⟩ := c_10
    have h21 := h21 ⟨c1, hn1⟩
    obtain ⟨h, hh1, hh, rfl⟩ := isW2_of c1
    rw [nI_clamp (by omega)] at c3
    obtain ⟨h45, h17⟩ := hS1.at hh1 hh h21
    rcases hx : swK nb n h with _ | k
    · exact absurd hx c3
    have hk60 := swK_le hx
    rw [hx] at h45
    have h45 : α1 45 = nI k := h45
    refine wp_iload_n (atd dX12_swept 7 rfl) rfl ?_
    refine wp_iconst (v := nI 0) (atd dX12_swept 8 rfl) (by decide) ?_
    refine wp_aload_n (atd dX12_swept 9 rfl) rfl rfl ?_
    refine wp_get fX12_341 (atd dX12_swept 10 rfl) hM.1.1 (congrArg (fun z => some (Value.int z)) h45) ?_
    refine wp_cSi hdd [_, _, _] (atd dX12_swept 11 rfl) iX12_in lX12_81 rfl rfl (Nat.le_of_ble_eq_true rfl) (eX12_in (by omega)) (fun r_19 s_19 h_19 => ?_)
    obtain ⟨rfl, rfl⟩ := h_19
    rw [bI_c (isP_le (by omega))]
    refine wp_ifB_eq (tgt := 36) (atd dX12_swept 12 rfl) (by decide) (fun c_22 => ?_) (fun c_22 => ?_)
    ·
      refine wp_iconst (v := -1) (atd dX12_swept 20 rfl) (by decide) ?_
      refine wp_ireti (atd dX12_swept 21 rfl) rfl ?_
      exact ⟨by rw [swF_t hh1 hh hn1 hx, atP_f c_22], α1, B1, ⟨hM, frm_sub (frm.up (f := α) (frm.rf (S := [0])) (by decide)) hfa1 (by decide) (by decide), hfb1, hS1, hG1⟩, (hfa1 0 (by decide)).trans rfl⟩
    ·
      obtain ⟨r, hr, rfl⟩ := isP_ofB c_22
      refine wp_iload_n (atd dX12_swept 13 rfl) rfl ?_
      refine wp_iconst (v := nI 0) (atd dX12_swept 14 rfl) (by decide) ?_
      refine wp_iload_n (atd dX12_swept 15 rfl) rfl ?_
      refine wp_iconst (v := nI 1) (atd dX12_swept 16 rfl) (by decide) ?_
      refine wp_isub (atd dX12_swept 17 rfl) ?_
      refine wp_cSi hdd [_, _, _] (atd dX12_swept 18 rfl) iX12_in lX12_81 rfl rfl (Nat.le_of_ble_eq_true rfl) (eX12_in (by omega)) (fun r_30 s_30 h_30 => ?_)
      obtain ⟨rfl, rfl⟩ := h_30
      rw [bI_c (isP_iff (by omega))]
      refine wp_ifB_ne (tgt := 38) (atd dX12_swept 19 rfl) (by decide) (fun c_33 => ?_) (fun c_33 => ?_)
      ·
        obtain ⟨j, hj, rfl⟩ := isP_ofB c_33
        refine wp_aload_n (atd dX12_swept 22 rfl) rfl rfl ?_
        refine wp_iload_n (atd dX12_swept 23 rfl) rfl ?_
        refine wp_cVv hdd [_] (atd dX12_swept 24 rfl) iX12_layRows lX12_240 rfl rfl (Nat.le_of_ble_eq_true rfl) hM.1.1 rfl (eX12_layRows (by omega) hM.self ((hfa1 2 (by decide)).trans hp) hn (h := h) (by omega)) (fun s_40 h_40 => ?_)
        obtain ⟨α2, B2, hM2, hfa2, hfb2, g33, g32, gR⟩ := h_40
        have hM := hM.trans hM2
        have hrow := (swY_lt hN hx r (by omega)).1
        have hrl := rowsL_len2 n (by omega) h (by omega)
        refine wp_aload_n (atd dX12_swept 25 rfl) rfl rfl ?_
        refine wp_iconst (v := -1) (atd dX12_swept 26 rfl) (by decide) ?_
        refine wp_putM fX12_26 (atd dX12_swept 27 rfl) hM rfl (fun σ hM => ?_)
        refine wp_aload_n (atd dX12_swept 28 rfl) rfl rfl ?_
        refine wp_get fX12_35 (atd dX12_swept 29 rfl) hM.1.1 rfl ?_
        refine wp_iconst (v := nI 3) (atd dX12_swept 30 rfl) (by decide) ?_
        refine wp_aload_n (atd dX12_swept 31 rfl) rfl rfl ?_
        refine wp_get fX12_66 (atd dX12_swept 32 rfl) hM.1.1 rfl ?_
        refine wp_iload_n (atd dX12_swept 33 rfl) rfl ?_
        refine wp_ialdN (atd dX12_swept 34 rfl) hM.a17 (show _ < 61 from by omega) (Nat.le_of_ble_eq_true rfl) ?_
        rw [show B2 17 r = nI (swY nb n h k r).1 from by rw [hfb2 17 (by decide)]; exact h17 k hx r (by omega)]
        refine wp_imulN (atd dX12_swept 35 rfl) ?_
        refine wp_iload_n (atd dX12_swept 36 rfl) rfl ?_
        refine wp_iaddN (atd dX12_swept 37 rfl) ?_
        refine wp_ialdN (atd dX12_swept 38 rfl) hM.a7 (show _ < 495 from by omega) (Nat.le_of_ble_eq_true rfl) ?_
        rw [(gR _ hrow).1 j (by omega)]
        refine wp_ireti (atd dX12_swept 39 rfl) rfl ?_
        refine ⟨by rw [swF_t hh1 hh hn1 hx, atPk_t (by omega) hr, atPk_t (by omega) hj], upd α2 19 (-1), B2, ⟨hM, frm_sub (U := [0, 19, 21, 32, 33, 45]) (frm_sub (U := [0, 19, 21, 32, 33, 45]) (frm_sub (U := [0, 19, 21, 32, 33, 45]) (frm.up (f := α) (frm.rf (S := [0])) (by decide)) hfa1 (by decide) (by decide)) hfa2 (by decide) (by decide)) ((frm.rf (S := [19])).up (by decide)) (by decide) (by decide), frm_sub hfb1 hfb2 (by decide) (by decide), ?_, Or.inl rfl⟩, (hfa2 0 (by decide)).trans ((hfa1 0 (by decide)).trans rfl)⟩
        exact Or.inr ⟨h, hh1, hh, (hfa2 21 (by decide)).trans h21, (hfa2 45 (by decide)).trans (h45.trans (by rw [hx]; rfl)), fun k2 hk2 r2 hr2 => by rw [hfb2 17 (by decide)]; exact h17 k2 hk2 r2 hr2⟩
      ·
        refine wp_iconst (v := -1) (atd dX12_swept 20 rfl) (by decide) ?_
        refine wp_ireti (atd dX12_swept 21 rfl) rfl ?_
        exact ⟨by rw [swF_t hh1 hh hn1 hx, atPk_t (by omega) hr, atP_f c_33], α1, B1, ⟨hM, frm_sub (frm.up (f := α) (frm.rf (S := [0])) (by decide)) hfa1 (by decide) (by decide), hfb1, hS1, hG1⟩, (hfa1 0 (by decide)).trans rfl⟩
