/-! what the games are worth: w row place, none for NONE -/
def mxN (y x : Nat) : Nat := if y ≤ x then x else y
theorem greO {y x : Nat} (hy : y < 2 ^ 31) (hx : x < 2 ^ 31) : (if oI (some y) ≤ oI (some x) then oI (some x) else oI (some y)) = nI (mxN y x) := greN hy hx
def rwG (w : Nat → Nat → Option Nat) (i to q : Nat) (its : Option Nat) : Option Nat :=
  if to.testBit q = true then (match its with
    | none => none
    | some y => (match w i q with
      | none => none
      | some x => some (mxN y x))) else its
def rwt (nb : Nat → Nat) (n kd h : Nat) (F : List Row) (w : Nat → Nat → Option Nat) (i p : Nat) : Option Nat :=
  if (std h (rowAt F i)).testBit p = true then some 0 else fl (rwG w i (rns nb n kd (std h (rowAt F i)) p)) n 0 (some 0)
def WT (B : Nat → Nat → Int32) (a : Nat) (w : Nat → Nat → Option Nat) (R n : Nat) : Prop := ∀ i p, i < R → p < n → B a (9 * i + p) = oI (w i p)
def WB (w : Nat → Nat → Option Nat) (R n X : Nat) : Prop := ∀ i p x, i < R → p < n → w i p = some x → x ≤ X
theorem rwG_le {w : Nat → Nat → Option Nat} {R n X i to : Nat} (hW : WB w R n X) (hi : i < R) : ∀ (k q : Nat) (its : Option Nat), q + k ≤ n → (∀ y, its = some y → y ≤ X) → ∀ y, fl (rwG w i to) k q its = some y → y ≤ X
  | 0, _, _, _, h, y, e => h y e
  | k + 1, q, its, hq, h, y, e => by
    refine rwG_le hW hi k (q + 1) (rwG w i to q its) (by omega) (fun z hz => ?_) y e
    unfold rwG at hz
    by_cases hb : to.testBit q = true
    · rw [if_pos hb] at hz
      cases its with
      | none => cases hz
      | some y0 =>
        cases hx0 : w i q with
        | none => rw [hx0] at hz; cases hz
        | some x0 =>
          rw [hx0] at hz
          cases hz
          have h1 := h y0 rfl
          have h2 := hW i q x0 hi (by omega) hx0
          unfold mxN
          split <;> omega
    · rw [if_neg hb] at hz
      exact h z hz
theorem rwt_le {nb : Nat → Nat} {n kd h X : Nat} {F : List Row} {w : Nat → Nat → Option Nat} (hW : WB w F.length n X) : WB (rwt nb n kd h F w) F.length n X := by
  intro i p x hi hp e
  unfold rwt at e
  split at e
  · cases e; omega
  · exact rwG_le hW hi n 0 (some 0) (by omega) (fun y hy => by cases hy; omega) x e
theorem std_lt {h n : Nat} {F : List Row} (hn : n ≤ 9) (hin : RIn F n) {i : Nat} (hi : i < F.length) : std h (rowAt F i) < 512 := by
  have h0 := hin i hi 0 (by decide)
  have h1 := hin i hi 1 (by decide)
  have h2 := hin i hi 2 (by decide)
  have g0 : (2 : Nat) ^ (rowAt F i).1 < 512 := pow_lt9 (by have : rk (rowAt F i) 0 = (rowAt F i).1 := rfl; omega)
  have g1 : (2 : Nat) ^ (rowAt F i).2.1 < 512 := pow_lt9 (by have : rk (rowAt F i) 1 = (rowAt F i).2.1 := rfl; omega)
  have g2 : (2 : Nat) ^ (rowAt F i).2.2 < 512 := pow_lt9 (by have : rk (rowAt F i) 2 = (rowAt F i).2.2 := rfl; omega)
  unfold std
  refine or_lt9 (or_lt9 g0 ?_) ?_
  · split
    · exact g1
    · omega
  · split
    · exact g2
    · omega
theorem rns_lt {nb : Nat → Nat} (hw : ∀ p, nb p < 512) (n kd hs p : Nat) : rns nb n kd hs p < 512 := by
  unfold rns
  split
  · exact or_lt9 (hw p) (nall_lt hw n _)
  · exact hw p
theorem lX12_layRunner1 {G : Gx} {d : Nat} {Q : Option Value → Hp → Prop} {σ : Hp} (hd : 1 ≤ d) {m n kd i p to X : Nat} {α : Nat → Int32} {B : Nat → Nat → Int32} {F : List Row} {w : Nat → Nat → Option Nat} {v : Option Nat} {σ0 : Hp} (hM : MA σ0 σ m α B) (hp : α 2 = nI n) (hn : n ≤ 9) (hF9 : F.length ≤ 165) (hi : i < F.length) (hto : to < 512) (hWT : WT B 10 w F.length n) (hWB : WB w F.length n X) (hX : X < 100000) (hk : ∀ e6 e7 : Value, (∀ y, v = some y → y ≤ X) → Wp G mX12_layRunner d 119 [.ref m, .int (nI kd), .int (nI i), .int (nI p), .int (oI v), .int (nI to), e6, e7] [] σ 0 0 Q) : ∀ (k : Nat) (q : Nat) (its : Option Nat) (e7 : Value), q + k = n → (∀ y, its = some y → y ≤ X) → fl (rwG w i to) k q its = v → Wp G mX12_layRunner d 57 [.ref m, .int (nI kd), .int (nI i), .int (nI p), .int (oI its), .int (nI to), .int (nI q), e7] [] σ 0 0 Q := by
  obtain ⟨d0, hdd⟩ : ∃ e, d = e + 1 := ⟨d - 1, by omega⟩
  intro k
  induction k with
  | zero =>
    intro q its e7 h2 hits hv
    refine wp_iload (atd dX12_layRunner 34 rfl) rfl ?_
    refine wp_aload_n (atd dX12_layRunner 35 rfl) rfl rfl ?_
    refine wp_get fX12_78 (atd dX12_layRunner 36 rfl) hM.1.1 (congrArg (fun z => some (Value.int z)) hp) ?_
    refine wp_icmpN_ge (tgt := 119) (atd dX12_layRunner 37 rfl) (by decide) (by omega) (by omega) (fun c_63 => ?_) (fun c_63 => ?_)
    ·
      have e : its = v := hv
      subst e
      exact hk _ _ hits
    · exfalso; omega
  | succ k ih =>
    intro q its e7 h2 hits hv
    refine wp_iload (atd dX12_layRunner 34 rfl) rfl ?_
    refine wp_aload_n (atd dX12_layRunner 35 rfl) rfl rfl ?_
    refine wp_get fX12_78 (atd dX12_layRunner 36 rfl) hM.1.1 (congrArg (fun z => some (Value.int z)) hp) ?_
    refine wp_icmpN_ge (tgt := 119) (atd dX12_layRunner 37 rfl) (by decide) (by omega) (by omega) (fun c_63 => ?_) (fun c_63 => ?_)
    · exfalso; omega
    ·
      refine wp_iload (atd dX12_layRunner 38 rfl) rfl ?_
      refine wp_iload (atd dX12_layRunner 39 rfl) rfl ?_
      refine wp_cSi hdd [_, _] (atd dX12_layRunner 40 rfl) iX12_isOf lX12_149 rfl rfl (Nat.le_of_ble_eq_true rfl) (eX12_isOf (by omega) (by omega) (by omega)) (fun r_70 s_70 h_70 => ?_)
      obtain ⟨rfl, rfl⟩ := h_70
      refine wp_ifB_eq (tgt := 113) (atd dX12_layRunner 41 rfl) (by decide) (fun c_73 => ?_) (fun c_73 => ?_)
      ·
        refine wp_iincN (c := 1) (atd dX12_layRunner 61 rfl) rfl ?_
        refine wp_goto (tgt := 57) (atd dX12_layRunner 62 rfl) (by decide) ?_
        exact ih (q + 1) its _ (by omega) hits (by rw [← hv]; simp [fl, rwG, c_73])
      ·
        rcases its with _ | y
        ·
          refine wp_iload (atd dX12_layRunner 42 rfl) rfl ?_
          refine wp_if_lt (tgt := 113) (atd dX12_layRunner 43 rfl) (by decide) (fun c_78 => ?_) (fun c_78 => ?_)
          ·
            refine wp_iincN (c := 1) (atd dX12_layRunner 61 rfl) rfl ?_
            refine wp_goto (tgt := 57) (atd dX12_layRunner 62 rfl) (by decide) ?_
            exact ih (q + 1) none _ (by omega) hits (by rw [← hv]; simp [fl, rwG, c_73])
          · exact absurd (by decide) c_78
        ·
          have hy9 := hits y rfl
          refine wp_iload (atd dX12_layRunner 42 rfl) rfl ?_
          refine wp_ifN_lt (tgt := 113) (atd dX12_layRunner 43 rfl) (by decide) (by omega) ?_
          refine wp_aload_n (atd dX12_layRunner 44 rfl) rfl rfl ?_
          refine wp_get fX12_45 (atd dX12_layRunner 45 rfl) hM.1.1 rfl ?_
          refine wp_bipush (v := nI 9) (atd dX12_layRunner 46 rfl) (by decide) ?_
          refine wp_iload_n (atd dX12_layRunner 47 rfl) rfl ?_
          refine wp_imulN (atd dX12_layRunner 48 rfl) ?_
          refine wp_iload (atd dX12_layRunner 49 rfl) rfl ?_
          refine wp_iaddN (atd dX12_layRunner 50 rfl) ?_
          refine wp_ialdN (atd dX12_layRunner 51 rfl) hM.a10 (show _ < 1485 from by omega) (Nat.le_of_ble_eq_true rfl) ?_
          rw [hWT i q hi (by omega)]
          generalize hx : w i q = xx; rcases xx with _ | x
          ·
            refine wp_istore (atd dX12_layRunner 52 rfl) (Nat.le_of_ble_eq_true rfl) ?_
            refine wp_iload (atd dX12_layRunner 53 rfl) rfl ?_
            refine wp_if_ge (tgt := 104) (atd dX12_layRunner 54 rfl) (by decide) (fun c_97 => ?_) (fun c_97 => ?_)
            · exact absurd c_97 (by decide)
            ·
              refine wp_iconst (v := -1) (atd dX12_layRunner 55 rfl) (by decide) ?_
              refine wp_goto (tgt := 111) (atd dX12_layRunner 56 rfl) (by decide) ?_
              refine wp_istore (atd dX12_layRunner 60 rfl) (Nat.le_of_ble_eq_true rfl) ?_
              refine wp_iincN (c := 1) (atd dX12_layRunner 61 rfl) rfl ?_
              refine wp_goto (tgt := 57) (atd dX12_layRunner 62 rfl) (by decide) ?_
              exact ih (q + 1) none _ (by omega) (by intro z hz; cases hz) (by rw [← hv]; simp [fl, rwG, c_73, hx])
          ·
            have hx9 := hWB i q x hi (by omega) hx
            refine wp_istore (atd dX12_layRunner 52 rfl) (Nat.le_of_ble_eq_true rfl) ?_
            refine wp_iload (atd dX12_layRunner 53 rfl) rfl ?_
            refine wp_ifN_ge (tgt := 104) (atd dX12_layRunner 54 rfl) (by decide) (by omega) ?_
            refine wp_iload (atd dX12_layRunner 57 rfl) rfl ?_
            refine wp_iload (atd dX12_layRunner 58 rfl) rfl ?_
            refine wp_cSi hdd [_, _] (atd dX12_layRunner 59 rfl) iX12_greater lX12_213 rfl rfl (Nat.le_of_ble_eq_true rfl) (eX12_greater (by omega)) (fun r_108 s_108 h_108 => ?_)
            obtain ⟨rfl, rfl⟩ := h_108
            rw [greO (by omega) (by omega)]
            refine wp_istore (atd dX12_layRunner 60 rfl) (Nat.le_of_ble_eq_true rfl) ?_
            refine wp_iincN (c := 1) (atd dX12_layRunner 61 rfl) rfl ?_
            refine wp_goto (tgt := 57) (atd dX12_layRunner 62 rfl) (by decide) ?_
            exact ih (q + 1) (some (mxN y x)) _ (by omega) (by intro z hz; cases hz; unfold mxN; split <;> omega) (by rw [← hv]; simp [fl, rwG, c_73, hx])
theorem rwG_zero {w : Nat → Nat → Option Nat} {i : Nat} : ∀ {k q : Nat} {its : Option Nat}, fl (rwG w i 0) k q its = its
  | 0, _, _ => rfl
  | k + 1, q, its => by
    show fl (rwG w i 0) k (q + 1) (rwG w i 0 q its) = its
    rw [show rwG w i 0 q its = its from if_neg (by simp)]
    exact rwG_zero
theorem lX12_layRunner2 {G : Gx} {d : Nat} {Q : Option Value → Hp → Prop} {σ0 : Hp} {m n h kd X : Nat} {α : Nat → Int32} {B0 : Nat → Nat → Int32} {nb : Nat → Nat} {F : List Row} {w : Nat → Nat → Option Nat} (hd : 3 ≤ d) (hp : α 2 = nI n) (hn : n ≤ 9) (hb : ∀ p, p < n → B0 1 p = nI (nb p)) (hw : ∀ p, nb p < 512) (h32 : α 32 = nI F.length) (hh : h ≤ 3) (hkd : kd < 3) (hF9 : F.length ≤ 165) (hR : RW B0 F h) (hin : RIn F n) (hWT : WT B0 10 w F.length n) (hWB : WB w F.length n X) (hX : X < 100000) {i : Nat} (hi : i < F.length) (hk : ∀ (σ : Hp) (B : Nat → Nat → Int32) (e3 e4 e5 e6 e7 : Value), MA σ0 σ m α B → frm [11] B0 B → (∀ x y, x < i + 1 → y < n → B 11 (9 * x + y) = oI (rwt nb n kd h F w x y)) → Wp G mX12_layRunner d 138 [.ref m, .int (nI kd), .int (nI i), e3, e4, e5, e6, e7] [] σ 0 0 Q) : ∀ (k : Nat) (σ : Hp) (B : Nat → Nat → Int32) (p : Nat) (e4 e5 e6 e7 : Value), MA σ0 σ m α B → frm [11] B0 B → (∀ x y, x < i → y < n → B 11 (9 * x + y) = oI (rwt nb n kd h F w x y)) → (∀ y, y < p → B 11 (9 * i + y) = oI (rwt nb n kd h F w i y)) → p + k = n → Wp G mX12_layRunner d 12 [.ref m, .int (nI kd), .int (nI i), .int (nI p), e4, e5, e6, e7] [] σ 0 0 Q := by
  obtain ⟨d0, hdd⟩ : ∃ e, d = e + 1 := ⟨d - 1, by omega⟩
  intro k
  induction k with
  | zero =>
    intro σ B p e4 e5 e6 e7 hM hfb hx hy hjk
    refine wp_iload_n (atd dX12_layRunner 8 rfl) rfl ?_
    refine wp_aload_n (atd dX12_layRunner 9 rfl) rfl rfl ?_
    refine wp_get fX12_78 (atd dX12_layRunner 10 rfl) hM.1.1 (congrArg (fun z => some (Value.int z)) hp) ?_
    refine wp_icmpN_ge (tgt := 138) (atd dX12_layRunner 11 rfl) (by decide) (by omega) (by omega) (fun c_17 => ?_) (fun c_17 => ?_)
    ·
      refine hk _ B _ _ _ _ _ hM hfb (fun x y h1 h2 => ?_)
      by_cases e : x = i
      · subst e; exact hy y (by omega)
      · exact hx x y (by omega) h2
    · exfalso; omega
  | succ k ih =>
    intro σ B p e4 e5 e6 e7 hM hfb hx hy hjk
    have hb1 : ∀ p, p < n → B 1 p = nI (nb p) := fun p hpn => by rw [hfb 1 (by decide)]; exact hb p hpn
    have hR1 : ∀ i, i < F.length → B 12 i = nI (std h (rowAt F i)) := fun i hi => by rw [hfb 12 (by decide)]; exact (hR i hi).2
    have hW1 : WT B 10 w F.length n := fun i p hi hpn => by rw [hfb 10 (by decide)]; exact hWT i p hi hpn
    have hsl := std_lt (h := h) hn hin hi
    refine wp_iload_n (atd dX12_layRunner 8 rfl) rfl ?_
    refine wp_aload_n (atd dX12_layRunner 9 rfl) rfl rfl ?_
    refine wp_get fX12_78 (atd dX12_layRunner 10 rfl) hM.1.1 (congrArg (fun z => some (Value.int z)) hp) ?_
    refine wp_icmpN_ge (tgt := 138) (atd dX12_layRunner 11 rfl) (by decide) (by omega) (by omega) (fun c_17 => ?_) (fun c_17 => ?_)
    · exfalso; omega
    ·
      refine wp_iconst (v := nI 0) (atd dX12_layRunner 12 rfl) (by decide) ?_
      refine wp_istore (atd dX12_layRunner 13 rfl) (Nat.le_of_ble_eq_true rfl) ?_
      refine wp_aload_n (atd dX12_layRunner 14 rfl) rfl rfl ?_
      refine wp_get fX12_51 (atd dX12_layRunner 15 rfl) hM.1.1 rfl ?_
      refine wp_iload_n (atd dX12_layRunner 16 rfl) rfl ?_
      refine wp_ialdN (atd dX12_layRunner 17 rfl) hM.a12 (show _ < 165 from by omega) (Nat.le_of_ble_eq_true rfl) ?_
      rw [hR1 i hi]
      refine wp_iload_n (atd dX12_layRunner 18 rfl) rfl ?_
      refine wp_cSi hdd [_, _] (atd dX12_layRunner 19 rfl) iX12_isOf lX12_149 rfl rfl (Nat.le_of_ble_eq_true rfl) (eX12_isOf (by omega) (by omega) (by omega)) (fun r_30 s_30 h_30 => ?_)
      obtain ⟨rfl, rfl⟩ := h_30
      refine wp_ifB_eq (tgt := 40) (atd dX12_layRunner 20 rfl) (by decide) (fun c_33 => ?_) (fun c_33 => ?_)
      ·
        refine wp_aload_n (atd dX12_layRunner 23 rfl) rfl rfl ?_
        refine wp_iload_n (atd dX12_layRunner 24 rfl) rfl ?_
        refine wp_aload_n (atd dX12_layRunner 25 rfl) rfl rfl ?_
        refine wp_get fX12_51 (atd dX12_layRunner 26 rfl) hM.1.1 rfl ?_
        refine wp_iload_n (atd dX12_layRunner 27 rfl) rfl ?_
        refine wp_ialdN (atd dX12_layRunner 28 rfl) hM.a12 (show _ < 165 from by omega) (Nat.le_of_ble_eq_true rfl) ?_
        rw [hR1 i hi]
        refine wp_iload_n (atd dX12_layRunner 29 rfl) rfl ?_
        refine wp_cVi hdd [_, _, _] (atd dX12_layRunner 30 rfl) iX12_runs lX12_259 rfl rfl (Nat.le_of_ble_eq_true rfl) hM.1.1 rfl (eX12_runs (by omega) hM.self hp hn hb1 hw hkd (p := p) (by omega)) (fun r_49 s_49 h_49 => ?_)
        obtain ⟨rfl, rfl⟩ := h_49
        refine wp_istore (atd dX12_layRunner 31 rfl) (Nat.le_of_ble_eq_true rfl) ?_
        refine wp_iconst (v := nI 0) (atd dX12_layRunner 32 rfl) (by decide) ?_
        refine wp_istore (atd dX12_layRunner 33 rfl) (Nat.le_of_ble_eq_true rfl) ?_
        refine lX12_layRunner1 (v := fl (rwG w i (rns nb n kd (std h (rowAt F i)) p)) n 0 (some 0)) (by omega) hM hp hn hF9 hi (rns_lt hw n kd _ p) hW1 hWB hX (fun e6 e7 hvl => ?_) n 0 (some 0) _ (by omega) (by intro z hz; cases hz; omega) rfl
        have hval : fl (rwG w i (rns nb n kd (std h (rowAt F i)) p)) n 0 (some 0) = rwt nb n kd h F w i p := (if_neg c_33).symm
        rw [hval]
        refine wp_aload_n (atd dX12_layRunner 63 rfl) rfl rfl ?_
        refine wp_get fX12_48 (atd dX12_layRunner 64 rfl) hM.1.1 rfl ?_
        refine wp_bipush (v := nI 9) (atd dX12_layRunner 65 rfl) (by decide) ?_
        refine wp_iload_n (atd dX12_layRunner 66 rfl) rfl ?_
        refine wp_imulN (atd dX12_layRunner 67 rfl) ?_
        refine wp_iload_n (atd dX12_layRunner 68 rfl) rfl ?_
        refine wp_iaddN (atd dX12_layRunner 69 rfl) ?_
        refine wp_iload (atd dX12_layRunner 70 rfl) rfl ?_
        refine wp_iastM (j := 11) (atd dX12_layRunner 71 rfl) hM (by decide) (by decide) rfl (show _ < 1485 from by omega) (fun σ hM => ?_)
        refine wp_iincN (c := 1) (atd dX12_layRunner 72 rfl) rfl ?_
        refine wp_goto (tgt := 12) (atd dX12_layRunner 73 rfl) (by decide) ?_
        refine ih _ _ (p + 1) _ _ _ _ hM (hfb.va (by decide)) (fun x y h1 h2 => ?_) (fun y h1 => ?_) (by omega)
        · show upd (B 11) (9 * i + p) (oI (rwt nb n kd h F w i p)) (9 * x + y) = _
          rw [show upd (B 11) (9 * i + p) (oI (rwt nb n kd h F w i p)) (9 * x + y) = B 11 (9 * x + y) from if_neg (by omega)]
          exact hx x y h1 h2
        · show upd (B 11) (9 * i + p) (oI (rwt nb n kd h F w i p)) (9 * i + y) = _
          by_cases e : y = p
          · subst e; exact if_pos rfl
          · rw [show upd (B 11) (9 * i + p) (oI (rwt nb n kd h F w i p)) (9 * i + y) = B 11 (9 * i + y) from if_neg (by omega)]
            exact hy y (by omega)
      ·
        refine wp_iconst (v := nI 0) (atd dX12_layRunner 21 rfl) (by decide) ?_
        refine wp_goto (tgt := 52) (atd dX12_layRunner 22 rfl) (by decide) ?_
        refine wp_istore (atd dX12_layRunner 31 rfl) (Nat.le_of_ble_eq_true rfl) ?_
        refine wp_iconst (v := nI 0) (atd dX12_layRunner 32 rfl) (by decide) ?_
        refine wp_istore (atd dX12_layRunner 33 rfl) (Nat.le_of_ble_eq_true rfl) ?_
        refine lX12_layRunner1 (v := fl (rwG w i 0) n 0 (some 0)) (by omega) hM hp hn hF9 hi (by decide) hW1 hWB hX (fun e6 e7 hvl => ?_) n 0 (some 0) _ (by omega) (by intro z hz; cases hz; omega) rfl
        have hval : fl (rwG w i 0) n 0 (some 0) = rwt nb n kd h F w i p := by rw [rwG_zero]; exact (if_pos c_33).symm
        rw [hval]
        refine wp_aload_n (atd dX12_layRunner 63 rfl) rfl rfl ?_
        refine wp_get fX12_48 (atd dX12_layRunner 64 rfl) hM.1.1 rfl ?_
        refine wp_bipush (v := nI 9) (atd dX12_layRunner 65 rfl) (by decide) ?_
        refine wp_iload_n (atd dX12_layRunner 66 rfl) rfl ?_
        refine wp_imulN (atd dX12_layRunner 67 rfl) ?_
        refine wp_iload_n (atd dX12_layRunner 68 rfl) rfl ?_
        refine wp_iaddN (atd dX12_layRunner 69 rfl) ?_
        refine wp_iload (atd dX12_layRunner 70 rfl) rfl ?_
        refine wp_iastM (j := 11) (atd dX12_layRunner 71 rfl) hM (by decide) (by decide) rfl (show _ < 1485 from by omega) (fun σ hM => ?_)
        refine wp_iincN (c := 1) (atd dX12_layRunner 72 rfl) rfl ?_
        refine wp_goto (tgt := 12) (atd dX12_layRunner 73 rfl) (by decide) ?_
        refine ih _ _ (p + 1) _ _ _ _ hM (hfb.va (by decide)) (fun x y h1 h2 => ?_) (fun y h1 => ?_) (by omega)
        · show upd (B 11) (9 * i + p) (oI (rwt nb n kd h F w i p)) (9 * x + y) = _
          rw [show upd (B 11) (9 * i + p) (oI (rwt nb n kd h F w i p)) (9 * x + y) = B 11 (9 * x + y) from if_neg (by omega)]
          exact hx x y h1 h2
        · show upd (B 11) (9 * i + p) (oI (rwt nb n kd h F w i p)) (9 * i + y) = _
          by_cases e : y = p
          · subst e; exact if_pos rfl
          · rw [show upd (B 11) (9 * i + p) (oI (rwt nb n kd h F w i p)) (9 * i + y) = B 11 (9 * i + y) from if_neg (by omega)]
            exact hy y (by omega)
theorem oX12_layRunner {G : Gx} {d : Nat} {σ0 : Hp} {m n h kd X : Nat} {α : Nat → Int32} {B0 : Nat → Nat → Int32} {nb : Nat → Nat} {F : List Row} {w : Nat → Nat → Option Nat} (hd : 3 ≤ d) (hp : α 2 = nI n) (hn : n ≤ 9) (hb : ∀ p, p < n → B0 1 p = nI (nb p)) (hw : ∀ p, nb p < 512) (h32 : α 32 = nI F.length) (hh : h ≤ 3) (hkd : kd < 3) (hF9 : F.length ≤ 165) (hR : RW B0 F h) (hin : RIn F n) (hWT : WT B0 10 w F.length n) (hWB : WB w F.length n X) (hX : X < 100000) : ∀ (k : Nat) (σ : Hp) (B : Nat → Nat → Int32) (i : Nat) (e3 e4 e5 e6 e7 : Value), MA σ0 σ m α B → frm [11] B0 B → (∀ x y, x < i → y < n → B 11 (9 * x + y) = oI (rwt nb n kd h F w x y)) → i + k = F.length → Wp G mX12_layRunner d 2 [.ref m, .int (nI kd), .int (nI i), e3, e4, e5, e6, e7] [] σ 0 0 (pV fun s => ∃ B1, MA σ0 s m α B1 ∧ frm [11] B0 B1 ∧ WT B1 11 (rwt nb n kd h F w) F.length n) := by
  intro k
  induction k with
  | zero =>
    intro σ B i e3 e4 e5 e6 e7 hM hfb hx hik
    refine wp_iload_n (atd dX12_layRunner 2 rfl) rfl ?_
    refine wp_aload_n (atd dX12_layRunner 3 rfl) rfl rfl ?_
    refine wp_get fX12_234 (atd dX12_layRunner 4 rfl) hM.1.1 (congrArg (fun z => some (Value.int z)) h32) ?_
    refine wp_icmpN_ge (tgt := 144) (atd dX12_layRunner 5 rfl) (by decide) (by omega) (by omega) (fun c_7 => ?_) (fun c_7 => ?_)
    ·
      refine wp_vretv (atd dX12_layRunner 76 rfl) rfl ?_
      exact ⟨B, hM, hfb, fun x y h1 h2 => hx x y (by omega) h2⟩
    · exfalso; omega
  | succ k ih =>
    intro σ B i e3 e4 e5 e6 e7 hM hfb hx hik
    refine wp_iload_n (atd dX12_layRunner 2 rfl) rfl ?_
    refine wp_aload_n (atd dX12_layRunner 3 rfl) rfl rfl ?_
    refine wp_get fX12_234 (atd dX12_layRunner 4 rfl) hM.1.1 (congrArg (fun z => some (Value.int z)) h32) ?_
    refine wp_icmpN_ge (tgt := 144) (atd dX12_layRunner 5 rfl) (by decide) (by omega) (by omega) (fun c_7 => ?_) (fun c_7 => ?_)
    · exfalso; omega
    ·
      refine wp_iconst (v := nI 0) (atd dX12_layRunner 6 rfl) (by decide) ?_
      refine wp_istore_n (atd dX12_layRunner 7 rfl) (Nat.le_of_ble_eq_true rfl) ?_
      refine lX12_layRunner2 hd hp hn hb hw h32 hh hkd hF9 hR hin hWT hWB hX (i := i) (by omega) (fun σ B e3 e4 e5 e6 e7 hM hfb hx => ?_) n _ B 0 _ _ _ _ hM hfb hx (fun y hy => absurd hy (Nat.not_lt_zero y)) (by omega)
      refine wp_iincN (c := 1) (atd dX12_layRunner 74 rfl) rfl ?_
      refine wp_goto (tgt := 2) (atd dX12_layRunner 75 rfl) (by decide) ?_
      exact ih _ B (i + 1) _ _ _ _ _ hM hfb hx (by omega)
theorem eX12_layRunner {G : Gx} {d : Nat} {σ : Hp} (hd : 3 ≤ d) {m n h kd X : Nat} {α : Nat → Int32} {B : Nat → Nat → Int32} {nb : Nat → Nat} {F : List Row} {w : Nat → Nat → Option Nat} (hM : MA σ σ m α B) (hp : α 2 = nI n) (hn : n ≤ 9) (hb : ∀ p, p < n → B 1 p = nI (nb p)) (hw : ∀ p, nb p < 512) (h32 : α 32 = nI F.length) (hh : h ≤ 3) (hkd : kd < 3) (hF9 : F.length ≤ 165) (hR : RW B F h) (hin : RIn F n) (hWT : WT B 10 w F.length n) (hWB : WB w F.length n X) (hX : X < 100000) : Cl G mX12_layRunner d [.ref m, .int (nI kd)] σ 0 0 (pV fun s => ∃ B1, MA σ s m α B1 ∧ frm [11] B B1 ∧ WT B1 11 (rwt nb n kd h F w) F.length n) := by
  obtain ⟨d0, hdd⟩ : ∃ e, d = e + 1 := ⟨d - 1, by omega⟩
  refine cl_of (by decide) (by simp [Value.category]) (Nat.le_of_ble_eq_true rfl) ?_
  show Wp G mX12_layRunner d 0 [.ref m, .int (nI kd), .double 0, .double 0, .double 0, .double 0, .double 0, .double 0] [] σ 0 0 _
  refine wp_iconst (v := nI 0) (atd dX12_layRunner 0 rfl) (by decide) ?_
  refine wp_istore_n (atd dX12_layRunner 1 rfl) (Nat.le_of_ble_eq_true rfl) ?_
  exact oX12_layRunner hd hp hn hb hw h32 hh hkd hF9 hR hin hWT hWB hX F.length _ B 0 _ _ _ _ _ hM frm.rf (fun x y hx => absurd hx (Nat.not_lt_zero x)) (by omega)
