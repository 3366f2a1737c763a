theorem wp_top {G : Gx} {M : Md} {d pc : Nat} {L st : List Value} {σ : Hp} {mc ms : Nat} {Q : Option Value → Hp → Prop} {x y : Int32} (e : x = y) (k : Wp G M d pc L (.int y :: st) σ mc ms Q) : Wp G M d pc L (.int x :: st) σ mc ms Q := by subst e; exact k
def stW (wo : Nat → Option Nat) (b pl v : Nat) (i : Nat) : Option Nat := if b ≤ i ∧ i < b + 9 ∧ pl.testBit (i - b) = true then some v else wo i
theorem lX1_setWorth {G : Gx} {d : Nat} (hd : 1 ≤ d) {σ0 : Hp} {a kd f f2 wa x pl v b : Nat} {rd op tn rf hp : Int32} {wo : Nat → Option Nat} (hf2 : f2 ≤ 219) (hawa : a ≠ wa) (h1 : f ≤ x) (h2 : x < f2) (hpl : pl < 512) (hb : b = (x - f) * 9) : ∀ (k : Nat) (p : Nat) (σ : Hp) (g : Nat → Option Nat) (y : Value), p + k = 9 → OB σ a 1 (gaF kd f f2 rd (.ref wa) op tn rf hp) → AO σ wa ((f2 - f) * 9) g → fr [wa] σ0 σ → (∀ i, i < (f2 - f) * 9 → g i = if b ≤ i ∧ i < b + p ∧ pl.testBit (i - b) = true then some v else wo i) → Wp G mX1_setWorth d 3 [.ref a, .int (nI x), .int (nI pl), .int (nI v), .int (nI p), y] [] σ 0 0 (pV fun s => fr [wa] σ0 s ∧ AO s wa ((f2 - f) * 9) (stW wo b pl v)) := by
  obtain ⟨d0, hdd⟩ : ∃ e, d = e + 1 := ⟨d - 1, by omega⟩
  intro k
  induction k with
  | zero =>
    intro p σ g y h hGm hWo hF hg
    obtain rfl : p = 9 := by omega
    refine wp_iload (atd dX1_setWorth 2 rfl) rfl ?_
    refine wp_bipush (v := nI 9) (atd dX1_setWorth 3 rfl) (by decide) ?_
    refine wp_icmpN_ge (tgt := 65) (atd dX1_setWorth 4 rfl) (by decide) (by omega) (by omega) (fun c_7 => ?_) (fun c_7 => ?_)
    ·
      refine wp_vretv (atd dX1_setWorth 34 rfl) rfl ?_
      exact ⟨hF, hWo.cg hg⟩
    · exfalso; omega
  | succ k ih =>
    intro p σ g y h hGm hWo hF hg
    refine wp_iload (atd dX1_setWorth 2 rfl) rfl ?_
    refine wp_bipush (v := nI 9) (atd dX1_setWorth 3 rfl) (by decide) ?_
    refine wp_icmpN_ge (tgt := 65) (atd dX1_setWorth 4 rfl) (by decide) (by omega) (by omega) (fun c_7 => ?_) (fun c_7 => ?_)
    · exfalso; omega
    ·
      refine wp_aload_n (atd dX1_setWorth 5 rfl) rfl rfl ?_
      refine wp_iload_n (atd dX1_setWorth 6 rfl) rfl ?_
      refine wp_iload (atd dX1_setWorth 7 rfl) rfl ?_
      refine wp_cVi hdd [_, _] (atd dX1_setWorth 8 rfl) iX1_indexOf lX1_40 rfl rfl (Nat.le_of_ble_eq_true rfl) hGm rfl (eX1_indexOf (by omega) hGm hf2 h1 h2 (by omega)) (fun r_14 s_14 h_14 => ?_)
      obtain ⟨rfl, e_14⟩ := h_14
      obtain rfl := e_14.symm
      refine wp_istore (atd dX1_setWorth 9 rfl) (Nat.le_of_ble_eq_true rfl) ?_
      refine wp_iload_n (atd dX1_setWorth 10 rfl) rfl ?_
      refine wp_iload (atd dX1_setWorth 11 rfl) rfl ?_
      refine wp_ishrN (atd dX1_setWorth 12 rfl) (by omega) (by omega) ?_
      refine wp_iconst (v := nI 1) (atd dX1_setWorth 13 rfl) (by decide) ?_
      refine wp_iandN (atd dX1_setWorth 14 rfl) ?_
      refine wp_iconst (v := nI 1) (atd dX1_setWorth 15 rfl) (by decide) ?_
      refine wp_icmpN_ne (tgt := 59) (atd dX1_setWorth 16 rfl) (by decide) (by have := and1_lt (pl >>> p); omega) (by omega) (fun c_26 => ?_) (fun c_26 => ?_)
      ·
        refine wp_iincN (c := 1) (atd dX1_setWorth 32 rfl) rfl ?_
        refine wp_goto (tgt := 3) (atd dX1_setWorth 33 rfl) (by decide) ?_
        exact ih (p + 1) σ _ _ (by omega) hGm hWo hF (fun i hi => by
        rw [hg i hi]
        have e : (b ≤ i ∧ i < b + p ∧ pl.testBit (i - b) = true) ↔ (b ≤ i ∧ i < b + (p + 1) ∧ pl.testBit (i - b) = true) := ⟨fun z => ⟨z.1, by omega, z.2.2⟩, fun z => ⟨z.1, by
          have : i ≠ b + p := fun e => c_26 ((tb_iff _ _).mpr (by have := z.2.2; rwa [e, Nat.add_sub_cancel_left] at this))
          omega, z.2.2⟩⟩
        simp only [e])
      ·
        refine wp_iload (atd dX1_setWorth 17 rfl) rfl ?_
        refine wp_ifN_lt (tgt := 59) (atd dX1_setWorth 18 rfl) (by decide) (by omega) ?_
        refine wp_aload_n (atd dX1_setWorth 19 rfl) rfl rfl ?_
        refine wp_get fX1_21 (atd dX1_setWorth 20 rfl) hGm rfl ?_
        refine wp_ifnull_r (atd dX1_setWorth 21 rfl) ?_
        refine wp_iload (atd dX1_setWorth 22 rfl) rfl ?_
        refine wp_aload_n (atd dX1_setWorth 23 rfl) rfl rfl ?_
        refine wp_get fX1_21 (atd dX1_setWorth 24 rfl) hGm rfl ?_
        refine wp_lenO (atd dX1_setWorth 25 rfl) hWo ?_
        refine wp_icmpN_ge (tgt := 59) (atd dX1_setWorth 26 rfl) (by decide) (by omega) (by omega) (fun c_48 => ?_) (fun c_48 => ?_)
        · exfalso; omega
        ·
          refine wp_aload_n (atd dX1_setWorth 27 rfl) rfl rfl ?_
          refine wp_get fX1_21 (atd dX1_setWorth 28 rfl) hGm rfl ?_
          refine wp_iload (atd dX1_setWorth 29 rfl) rfl ?_
          refine wp_iload_n (atd dX1_setWorth 30 rfl) rfl ?_
          refine wp_iastO (v := some _) (atd dX1_setWorth 31 rfl) hWo (by omega) (by omega) (fun σ f_58 hWo => ?_)
          have hGm := hGm.fr f_58 (by first | decide | (simp only [List.mem_cons, List.not_mem_nil, or_false]; omega))
          have hF := hF.tr f_58 (by simp)
          refine wp_iincN (c := 1) (atd dX1_setWorth 32 rfl) rfl ?_
          refine wp_goto (tgt := 3) (atd dX1_setWorth 33 rfl) (by decide) ?_
          exact ih (p + 1) σ _ _ (by omega) hGm hWo hF (fun i hi => by
        by_cases e : i = b + p
        · subst e
          have e2 : (x - f) * 9 + p = b + p := by omega
          simp only [va_up, if_pos e2.symm]
          rw [if_pos ⟨by omega, by omega, by rw [Nat.add_sub_cancel_left]; exact (tb_iff _ _).mp c_26⟩]
        · simp only [va_up]
          rw [if_neg (by omega), hg i hi]
          have e2 : (b ≤ i ∧ i < b + p ∧ pl.testBit (i - b) = true) ↔ (b ≤ i ∧ i < b + (p + 1) ∧ pl.testBit (i - b) = true) := ⟨fun z => ⟨z.1, by omega, z.2.2⟩, fun z => ⟨z.1, by omega, z.2.2⟩⟩
          simp only [e2])
theorem eX1_setWorth {G : Gx} {d : Nat} {σ : Hp} (hd : 1 ≤ d) {a kd f f2 wa : Nat} {rd op tn rf hp : Int32} {wo : Nat → Option Nat} (hGm : OB σ a 1 (gaF kd f f2 rd (.ref wa) op tn rf hp)) (hWo : AO σ wa ((f2 - f) * 9) wo) (hf2 : f2 ≤ 219) (hawa : a ≠ wa) {x pl v : Nat} (h1 : f ≤ x) (h2 : x < f2) (hpl : pl < 512) : Cl G mX1_setWorth d [.ref a, .int (nI x), .int (nI pl), .int (nI v)] σ 0 0 (pV fun s => fr [wa] σ s ∧ AO s wa ((f2 - f) * 9) (stW wo ((x - f) * 9) pl v)) := by
  obtain ⟨d0, hdd⟩ : ∃ e, d = e + 1 := ⟨d - 1, by omega⟩
  refine cl_of (by decide) (by simp [Value.category]) (Nat.le_of_ble_eq_true rfl) ?_
  show Wp G mX1_setWorth d 0 [.ref a, .int (nI x), .int (nI pl), .int (nI v), .double 0, .double 0] [] σ 0 0 _
  refine wp_iconst (v := nI 0) (atd dX1_setWorth 0 rfl) (by decide) ?_
  refine wp_istore (atd dX1_setWorth 1 rfl) (Nat.le_of_ble_eq_true rfl) ?_
  exact lX1_setWorth (by omega) hf2 hawa h1 h2 hpl rfl 9 0 σ wo _ (by omega) hGm hWo fr.rf (fun i hi => by rw [if_neg (by omega)])
theorem eX1_clear1 {G : Gx} {d : Nat} {σ : Hp} (hd : 1 ≤ d) {a kd f f2 wa : Nat} {rd op tn rf hp : Int32} (hGm : OB σ a 1 (gaF kd f f2 rd (.ref wa) op tn rf hp)) (hWx : AX σ wa ((f2 - f) * 9)) (hf2 : f2 ≤ 219) (hawa : a ≠ wa) : Cl G mX1_clear d [.ref a] σ 0 0 (pV fun s => fr [a, wa] σ s ∧ OB s a 1 (gaF kd f f2 rd (.ref wa) op tn rf (-2)) ∧ AO s wa ((f2 - f) * 9) (fun _ => none)) := by
  obtain ⟨d0, hdd⟩ : ∃ e, d = e + 1 := ⟨d - 1, by omega⟩
  refine cl_of (by decide) (by simp [Value.category]) (Nat.le_of_ble_eq_true rfl) ?_
  show Wp G mX1_clear d 0 [.ref a] [] σ 0 0 _
  have hF : fr [a, wa] σ σ := fr.rf
  refine wp_aload_n (atd dX1_clear 0 rfl) rfl rfl ?_
  refine wp_get fX1_21 (atd dX1_clear 1 rfl) hGm rfl ?_
  refine wp_ifnonnull_r (tgt := 29) (atd dX1_clear 2 rfl) (by decide) ?_
  refine wp_aload_n (atd dX1_clear 15 rfl) rfl rfl ?_
  refine wp_get fX1_21 (atd dX1_clear 16 rfl) hGm rfl ?_
  refine wp_iconst (v := -1) (atd dX1_clear 17 rfl) (by decide) ?_
  refine wp_cSv hdd [_, _] (atd dX1_clear 18 rfl) iJ7_fill_53178 lX1_31 rfl rfl (Nat.le_of_ble_eq_true rfl) (eJ7_fill (by omega) hWx) (fun s_34 h_34 => ?_)
  obtain ⟨f_34, hWk⟩ := h_34
  have hGm := hGm.fr f_34 (by first | decide | (simp only [List.mem_cons, List.not_mem_nil, or_false]; omega))
  have hF := hF.tr f_34 (by simp)
  refine wp_aload_n (atd dX1_clear 19 rfl) rfl rfl ?_
  refine wp_bipush (v := -2) (atd dX1_clear 20 rfl) (by decide) ?_
  refine wp_putX fX1_37 (atd dX1_clear 21 rfl) hGm rfl (Nat.le_of_ble_eq_true rfl) (fun σ f_40 hGm => ?_)
  have hWk := hWk.O.fr f_40 (by simp; omega)
  have hF := hF.tr f_40 (by simp)
  refine wp_vretv (atd dX1_clear 22 rfl) rfl ?_
  exact ⟨hF, hGm, hWk⟩
theorem eX1_clear0 {G : Gx} {d : Nat} {σ : Hp} (hd : 1 ≤ d) {a kd f f2 : Nat} {rd op tn rf hp : Int32} (hGm : OB σ a 1 (gaF kd f f2 rd .null op tn rf hp)) (hf : f ≤ f2) (hf2 : f2 ≤ 219) (ha : a < σ.1) : Cl G mX1_clear d [.ref a] σ 1 ((f2 - f) * 9) (pV fun s => fA [a] σ s ∧ s.1 = σ.1 + 1 ∧ OB s a 1 (gaF kd f f2 rd (.ref σ.1) op tn rf (-2)) ∧ AO s σ.1 ((f2 - f) * 9) (fun _ => none)) := by
  obtain ⟨d0, hdd⟩ : ∃ e, d = e + 1 := ⟨d - 1, by omega⟩
  refine cl_of (by decide) (by simp [Value.category]) (Nat.le_of_ble_eq_true rfl) ?_
  show Wp G mX1_clear d 0 [.ref a] [] σ 1 ((f2 - f) * 9) _
  refine wp_aload_n (atd dX1_clear 0 rfl) rfl rfl ?_
  refine wp_get fX1_21 (atd dX1_clear 1 rfl) hGm rfl ?_
  refine wp_ifnonnull_n (atd dX1_clear 2 rfl) ?_
  refine wp_aload_n (atd dX1_clear 3 rfl) rfl rfl ?_
  refine wp_iconst (v := nI 0) (atd dX1_clear 4 rfl) (by decide) ?_
  refine wp_aload_n (atd dX1_clear 5 rfl) rfl rfl ?_
  refine wp_get fX1_18 (atd dX1_clear 6 rfl) hGm rfl ?_
  refine wp_aload_n (atd dX1_clear 7 rfl) rfl rfl ?_
  refine wp_get fX1_15 (atd dX1_clear 8 rfl) hGm rfl ?_
  refine wp_isubN (atd dX1_clear 9 rfl) hf ?_
  refine wp_maxN hdd (atd dX1_clear 10 rfl) lX1_25 (by omega) (by omega) (Nat.le_of_ble_eq_true rfl) ?_
  rw [show (if 0 < f2 - f then f2 - f else 0) = f2 - f by split <;> omega]
  refine wp_bipush (v := nI 9) (atd dX1_clear 11 rfl) (by decide) ?_
  refine wp_imulN (atd dX1_clear 12 rfl) ?_
  have e0 : Wp G mX1_clear d 24 [.ref a] [.int (nI ((f2 - f) * 9)), .ref a] σ (0 + 1) (0 + (f2 - f) * 9) (pV fun s => fA [a] σ s ∧ s.1 = σ.1 + 1 ∧ OB s a 1 (gaF kd f f2 rd (.ref σ.1) op tn rf (-2)) ∧ AO s σ.1 ((f2 - f) * 9) (fun _ => none)) := by
    refine wp_newi (N := (f2 - f) * 9) (atd dX1_clear 13 rfl) (nI_pos (by omega)) (nI_clamp (by omega)) (by show (f2 - f) * 9 * 4 ≤ _; omega) ?_
    have hne : a ≠ σ.1 := by omega
    have hGm1 : OB (hnew σ (.inl (0, (f2 - f) * 9, .inl (fun _ => 0)))) a 1 (gaF kd f f2 rd .null op tn rf hp) := by
      show (hnew σ _).2 a = _
      rw [show (hnew σ (.inl (0, (f2 - f) * 9, .inl (fun _ => 0)))).2 a = σ.2 a by simp [hnew, va_up, hne]]
      exact hGm
    have hWx : AX (hnew σ (.inl (0, (f2 - f) * 9, .inl (fun _ => 0)))) σ.1 ((f2 - f) * 9) := ⟨_, hnew_at⟩
    have hA : fA [a] σ (hnew σ (.inl (0, (f2 - f) * 9, .inl (fun _ => 0)))) := fA.new
    have hs1 : (hnew σ (.inl (0, (f2 - f) * 9, .inl (fun _ => 0)))).1 = σ.1 + 1 := rfl
    generalize hnew σ (.inl (0, (f2 - f) * 9, .inl (fun _ => 0))) = s1 at hGm1 hWx hA hs1 ⊢
    refine wp_putX fX1_21 (atd dX1_clear 14 rfl) hGm1 rfl (Nat.le_of_ble_eq_true rfl) (fun s2 f1 hGm => ?_)
    have hWx := hWx.fr f1 (by simp; omega)
    have hA := hA.tr f1.A (by simp)
    have hs2 : s2.1 = σ.1 + 1 := f1.1.trans hs1
    refine wp_aload_n (atd dX1_clear 15 rfl) rfl rfl ?_
    refine wp_get fX1_21 (atd dX1_clear 16 rfl) hGm rfl ?_
    refine wp_iconst (v := -1) (atd dX1_clear 17 rfl) (by decide) ?_
    refine wp_cSv hdd [_, _] (atd dX1_clear 18 rfl) iJ7_fill_53178 lX1_31 rfl rfl (Nat.le_of_ble_eq_true rfl) (eJ7_fill (by omega) hWx) (fun s3 h3 => ?_)
    obtain ⟨f3, hWk⟩ := h3
    have hGm := hGm.fr f3 (by simp; omega)
    have hA := hA.trN f3.A (fun j hj => by simp at hj; omega)
    refine wp_aload_n (atd dX1_clear 19 rfl) rfl rfl ?_
    refine wp_bipush (v := -2) (atd dX1_clear 20 rfl) (by decide) ?_
    refine wp_putX fX1_37 (atd dX1_clear 21 rfl) hGm rfl (Nat.le_of_ble_eq_true rfl) (fun s4 f4 hGm => ?_)
    refine wp_vretv (atd dX1_clear 22 rfl) rfl ?_
    exact ⟨hA.tr f4.A (by simp), by rw [f4.1, f3.1, hs2], hGm, hWk.O.fr f4 (by simp; omega)⟩
  rw [Nat.zero_add, Nat.zero_add] at e0
  exact e0
/-- the step from a row of the class -/
def STP (nb : Nat → Nat) (kd x y : Nat) : Prop := stS nb (kd = 1) (rk (rlA x) 0) (rk (rlA x) 1) (rk (rlA x) 2) y
def gdX (nb : Nat → Nat) (f f2 x : Nat) : Prop := goodS nb (rk (rlA x) 0) (rk (rlA x) 1) (rk (rlA x) 2) f f2
/-- what a row newly holds -/
def frs (nb : Nat → Nat) (n kd : Nat) (w hl : Nat → Nat) (x : Nat) : Nat := if w x = hl x then 0 else dif (hdF nb n kd (sdC x) (w x)) (hl x)
theorem hdF_lt {nb : Nat → Nat} {n kd w : Nat} (hn : n ≤ 9) (st : Nat) (hst : st < 512) : hdF nb n kd st w < 512 := by
  have h : ∀ (k i a : Nat), i + k ≤ 9 → a < 512 → fl (hdG nb kd st w) k i a < 512 := by
    intro k
    induction k with
    | zero => intro i a _ h; exact h
    | succ k ih =>
      intro i a h1 h2
      refine ih _ _ (by omega) ?_
      unfold hdG
      split
      · exact Nat.or_lt_two_pow (n := 9) h2 (pow_lt9 (by omega))
      · exact h2
  exact h n 0 st (by omega) hst
theorem frs_lt {nb : Nat → Nat} {n kd : Nat} {w hl : Nat → Nat} (hn : n ≤ 9) (x : Nat) : frs nb n kd w hl x < 512 := by
  unfold frs
  split
  · decide
  · exact dif_lt9 (hdF_lt hn _ (sdC_lt x))
theorem lX2_spread1 {G : Gx} {d : Nat} {Q : Option Value → Hp → Prop} {σ0 : Hp} {g kn n a kd f f2 : Nat} {nb w : Nat → Nat} {rd op tn rf hp : Int32} {wv : Value} (hn : n ≤ 9) (hw : ∀ p, nb p < 512) (hkd : kd < 3) (hf2 : f2 ≤ 219) (hf3 : f2 ≤ f + 165) (hww : ∀ x, w x < 512) (hap : kn + 1 < g ∨ g + 12 < kn) (haa : a < g ∨ g + 12 < a) {hlc nw0 : Nat → Nat} {l : List Nat} {T fz x : Nat} (hR : rgL l f f2) (hlen : l.length ≤ 165) (hfr : fz < 512) (hk : ∀ (σ : Hp) (nwc : Nat → Nat), OB σ g 2 (ggF g kn) → OB σ kn 3 [.int (nI n), .ref (kn + 1)] → AI σ (kn + 1) 9 nb → OB σ a 1 (gaF kd f f2 rd wv op tn rf hp) → RT σ (g + 1) → LR σ (g + 1) nb → AI σ (g + 10) 219 w → AI σ (g + 11) 219 hlc → FS σ (g + 1) T l → AI σ (g + 12) 219 nwc → fr [g + 1, g + 7, g + 8, g + 11, g + 12] σ0 σ → (∀ y, nwc y < 512) → (∀ y p, y < 219 → ((nwc y).testBit p = true ↔ (nw0 y).testBit p = true ∨ (fz.testBit p = true ∧ y ∈ l))) → Wp G mX2_spreadHeld d 123 [.ref g, .ref a, .int (nI x), .int (nI fz), .int (nI l.length)] [] σ 0 0 Q) : ∀ (k : Nat) (i : Nat) (σ : Hp) (nwc : Nat → Nat), i + k = l.length → OB σ g 2 (ggF g kn) → OB σ kn 3 [.int (nI n), .ref (kn + 1)] → AI σ (kn + 1) 9 nb → OB σ a 1 (gaF kd f f2 rd wv op tn rf hp) → RT σ (g + 1) → LR σ (g + 1) nb → AI σ (g + 10) 219 w → AI σ (g + 11) 219 hlc → FS σ (g + 1) T l → AI σ (g + 12) 219 nwc → fr [g + 1, g + 7, g + 8, g + 11, g + 12] σ0 σ → (∀ y, nwc y < 512) → (∀ y p, y < 219 → ((nwc y).testBit p = true ↔ (nw0 y).testBit p = true ∨ (fz.testBit p = true ∧ ∃ j, j < i ∧ l.getD j 0 = y))) → Wp G mX2_spreadHeld d 86 [.ref g, .ref a, .int (nI x), .int (nI fz), .int (nI i)] [] σ 0 0 Q := by
  intro k
  induction k with
  | zero =>
    intro i σ nwc h hG hN hNA hGm hT hLR hW hH hFS hNw hF hnl hm
    obtain rfl : i = l.length := by omega
    refine wp_iload (atd dX2_spreadHeld 53 rfl) rfl ?_
    refine wp_aload_n (atd dX2_spreadHeld 54 rfl) rfl rfl ?_
    refine wp_get fX2_12 (atd dX2_spreadHeld 55 rfl) hG rfl ?_
    refine wp_get fX2_107 (atd dX2_spreadHeld 56 rfl) hFS.ob rfl ?_
    refine wp_icmpN_ge (tgt := 123) (atd dX2_spreadHeld 57 rfl) (by decide) (by omega) (by omega) (fun c_95 => ?_) (fun c_95 => ?_)
    ·
      exact hk σ nwc hG hN hNA hGm hT hLR hW hH hFS hNw hF hnl (fun y p hy => by rw [hm y p hy]; exact ⟨fun z => z.elim Or.inl (fun ⟨z1, j, z2, z3⟩ => Or.inr ⟨z1, z3 ▸ getD_mem z2⟩), fun z => z.elim Or.inl (fun ⟨z1, z2⟩ => by obtain ⟨j, hj, e⟩ := mem_getD z2; exact Or.inr ⟨z1, j, hj, e⟩)⟩)
    · exfalso; omega
  | succ k ih =>
    intro i σ nwc h hG hN hNA hGm hT hLR hW hH hFS hNw hF hnl hm
    obtain ⟨fo, se, hO, hFo, hSe, h4, h5, h6, h7⟩ := id hFS
    have hl5 : l.length ≤ 165 := hlen
    refine wp_iload (atd dX2_spreadHeld 53 rfl) rfl ?_
    refine wp_aload_n (atd dX2_spreadHeld 54 rfl) rfl rfl ?_
    refine wp_get fX2_12 (atd dX2_spreadHeld 55 rfl) hG rfl ?_
    refine wp_get fX2_107 (atd dX2_spreadHeld 56 rfl) hFS.ob rfl ?_
    refine wp_icmpN_ge (tgt := 123) (atd dX2_spreadHeld 57 rfl) (by decide) (by omega) (by omega) (fun c_95 => ?_) (fun c_95 => ?_)
    · exfalso; omega
    ·
      refine wp_aload_n (atd dX2_spreadHeld 58 rfl) rfl rfl ?_
      refine wp_get fX2_31 (atd dX2_spreadHeld 59 rfl) hG rfl ?_
      refine wp_aload_n (atd dX2_spreadHeld 60 rfl) rfl rfl ?_
      refine wp_get fX2_12 (atd dX2_spreadHeld 61 rfl) hG rfl ?_
      refine wp_get fX2_110 (atd dX2_spreadHeld 62 rfl) hFS.ob rfl ?_
      refine wp_iload (atd dX2_spreadHeld 63 rfl) rfl ?_
      refine wp_ialdA (atd dX2_spreadHeld 64 rfl) hFo (by omega) (Nat.le_of_ble_eq_true rfl) ?_
      have hi : i < l.length := c_95
      rw [h4 i hi]
      have hy := hR _ (getD_mem hi)
      refine wp_dup2 (atd dX2_spreadHeld 65 rfl) rfl rfl ?_
      refine wp_ialdA (atd dX2_spreadHeld 66 rfl) hNw (by omega) (Nat.le_of_ble_eq_true rfl) ?_
      refine wp_iload_n (atd dX2_spreadHeld 67 rfl) rfl ?_
      refine wp_iorN (atd dX2_spreadHeld 68 rfl) ?_
      refine wp_iastA (atd dX2_spreadHeld 69 rfl) hNw (by omega) (Nat.le_of_ble_eq_true rfl) (fun σ f_116 hNw => ?_)
      have hG := hG.fr f_116 (by first | decide | (simp only [List.mem_cons, List.not_mem_nil, or_false]; omega))
      have hN := hN.fr f_116 (by first | decide | (simp only [List.mem_cons, List.not_mem_nil, or_false]; omega))
      have hNA := hNA.fr f_116 (by first | decide | (simp only [List.mem_cons, List.not_mem_nil, or_false]; omega))
      have hGm := hGm.fr f_116 (by first | decide | (simp only [List.mem_cons, List.not_mem_nil, or_false]; omega))
      have hT := hT.fr f_116 ⟨by simp only [List.mem_cons, List.not_mem_nil, or_false]; omega, by simp only [List.mem_cons, List.not_mem_nil, or_false]; omega, by simp only [List.mem_cons, List.not_mem_nil, or_false]; omega⟩
      have hLR := hLR.fr f_116 ⟨by simp only [List.mem_cons, List.not_mem_nil, or_false]; omega, by simp only [List.mem_cons, List.not_mem_nil, or_false]; omega⟩
      have hW := hW.fr f_116 (by first | decide | (simp only [List.mem_cons, List.not_mem_nil, or_false]; omega))
      have hH := hH.fr f_116 (by first | decide | (simp only [List.mem_cons, List.not_mem_nil, or_false]; omega))
      have hFS := hFS.fr f_116 ⟨by simp only [List.mem_cons, List.not_mem_nil, or_false]; omega, by simp only [List.mem_cons, List.not_mem_nil, or_false]; omega, by simp only [List.mem_cons, List.not_mem_nil, or_false]; omega⟩
      have hF := hF.tr f_116 (by simp)
      refine wp_iincN (c := 1) (atd dX2_spreadHeld 70 rfl) rfl ?_
      refine wp_goto (tgt := 86) (atd dX2_spreadHeld 71 rfl) (by decide) ?_
      refine ih (i + 1) _ _ (by omega) hG hN hNA hGm hT hLR hW hH hFS hNw hF (up_lt hnl (Nat.or_lt_two_pow (n := 9) (hnl _) hfr)) (fun y p hy2 => ?_)
      by_cases e : y = l.getD i 0
      · subst e
        simp only [va_up, if_true]
        rw [Nat.testBit_or, Bool.or_eq_true, hm _ p hy2]
        constructor
        · rintro ((z | ⟨z1, j, z2, z3⟩) | z)
          · exact Or.inl z
          · exact Or.inr ⟨z1, j, by omega, z3⟩
          · exact Or.inr ⟨z, i, by omega, rfl⟩
        · rintro (z | ⟨z1, j, z2, z3⟩)
          · exact Or.inl (Or.inl z)
          · exact Or.inr z1
      · simp only [va_up, if_neg e]
        rw [hm y p hy2]
        constructor
        · rintro (z | ⟨z1, j, z2, z3⟩)
          · exact Or.inl z
          · exact Or.inr ⟨z1, j, by omega, z3⟩
        · rintro (z | ⟨z1, j, z2, z3⟩)
          · exact Or.inl z
          · exact Or.inr ⟨z1, j, by have : j ≠ i := fun q => e (q ▸ z3.symm); omega, z3⟩
theorem lX2_spread {G : Gx} {d : Nat} (hd : 3 ≤ d) {σ0 : Hp} {g kn n a kd f f2 : Nat} {nb w hl nw : Nat → Nat} {rd op tn rf hp : Int32} {wv : Value} (hn : n ≤ 9) (hw : ∀ p, nb p < 512) (hkd : kd < 3) (hf2 : f2 ≤ 219) (hf3 : f2 ≤ f + 165) (hww : ∀ x, w x < 512) (hap : kn + 1 < g ∨ g + 12 < kn) (haa : a < g ∨ g + 12 < a) {t : Nat} (ht : t + (f2 - f) + 2 < 2 ^ 31) (hgd : ∀ x, f ≤ x → x < f2 → frs nb n kd w hl x ≠ 0 → gdX nb f f2 x) : ∀ (k : Nat) (x : Nat) (σ : Hp) (hlc nwc : Nat → Nat) (T : Nat) (l : List Nat) (y3 y4 : Value), x + k = f2 → f ≤ x → OB σ g 2 (ggF g kn) → OB σ kn 3 [.int (nI n), .ref (kn + 1)] → AI σ (kn + 1) 9 nb → OB σ a 1 (gaF kd f f2 rd wv op tn rf hp) → RT σ (g + 1) → LR σ (g + 1) nb → AI σ (g + 10) 219 w → AI σ (g + 11) 219 hlc → FS σ (g + 1) T l → AI σ (g + 12) 219 nwc → fr [g + 1, g + 7, g + 8, g + 11, g + 12] σ0 σ → (∀ y, nwc y < 512) → T ≤ t + (x - f) → (∀ y, hlc y < 512) → (∀ y, hlc y = if f ≤ y ∧ y < x then hl y ||| frs nb n kd w hl y else hl y) → (∀ y p, y < 219 → ((nwc y).testBit p = true ↔ (nw y).testBit p = true ∨ ∃ z, f ≤ z ∧ z < x ∧ (frs nb n kd w hl z).testBit p = true ∧ STP nb kd z y)) → Wp G mX2_spreadHeld d 5 [.ref g, .ref a, .int (nI x), y3, y4] [] σ 0 0 (pV fun s => fr [g + 1, g + 7, g + 8, g + 11, g + 12] σ0 s ∧ RT s (g + 1) ∧ LR s (g + 1) nb ∧ (∃ T l, FS s (g + 1) T l ∧ T ≤ t + (f2 - f)) ∧ ∃ hl2 nw2, AI s (g + 11) 219 hl2 ∧ AI s (g + 12) 219 nw2 ∧ (∀ y, hl2 y < 512) ∧ (∀ y, nw2 y < 512) ∧ (∀ y, f ≤ y → y < f2 → hl2 y = hl y ||| frs nb n kd w hl y) ∧ (∀ y p, y < 219 → ((nw2 y).testBit p = true ↔ (nw y).testBit p = true ∨ ∃ z, f ≤ z ∧ z < f2 ∧ (frs nb n kd w hl z).testBit p = true ∧ STP nb kd z y))) := by
  obtain ⟨d0, hdd⟩ : ∃ e, d = e + 1 := ⟨d - 1, by omega⟩
  intro k
  induction k with
  | zero =>
    intro x σ hlc nwc T l y3 y4 h hfx hG hN hNA hGm hT hLR hW hH hFS hNw hF hnl hTt hhl hh2 hm
    obtain rfl : x = f2 := by omega
    refine wp_iload_n (atd dX2_spreadHeld 3 rfl) rfl ?_
    refine wp_aload_n (atd dX2_spreadHeld 4 rfl) rfl rfl ?_
    refine wp_get fX2_71 (atd dX2_spreadHeld 5 rfl) hGm rfl ?_
    refine wp_icmpN_ge (tgt := 129) (atd dX2_spreadHeld 6 rfl) (by decide) (by omega) (by omega) (fun c_10 => ?_) (fun c_10 => ?_)
    ·
      refine wp_vretv (atd dX2_spreadHeld 74 rfl) rfl ?_
      exact ⟨hF, hT, hLR, ⟨T, l, hFS, hTt⟩, hlc, nwc, hH, hNw, hhl, hnl, fun y h1 h2 => by rw [hh2 y, if_pos ⟨h1, h2⟩], hm⟩
    · exfalso; omega
  | succ k ih =>
    intro x σ hlc nwc T l y3 y4 h hfx hG hN hNA hGm hT hLR hW hH hFS hNw hF hnl hTt hhl hh2 hm
    refine wp_iload_n (atd dX2_spreadHeld 3 rfl) rfl ?_
    refine wp_aload_n (atd dX2_spreadHeld 4 rfl) rfl rfl ?_
    refine wp_get fX2_71 (atd dX2_spreadHeld 5 rfl) hGm rfl ?_
    refine wp_icmpN_ge (tgt := 129) (atd dX2_spreadHeld 6 rfl) (by decide) (by omega) (by omega) (fun c_10 => ?_) (fun c_10 => ?_)
    · exfalso; omega
    ·
      refine wp_aload_n (atd dX2_spreadHeld 7 rfl) rfl rfl ?_
      refine wp_get fX2_24 (atd dX2_spreadHeld 8 rfl) hG rfl ?_
      refine wp_iload_n (atd dX2_spreadHeld 9 rfl) rfl ?_
      refine wp_ialdA (atd dX2_spreadHeld 10 rfl) hW (by omega) (Nat.le_of_ble_eq_true rfl) ?_
      refine wp_aload_n (atd dX2_spreadHeld 11 rfl) rfl rfl ?_
      refine wp_get fX2_28 (atd dX2_spreadHeld 12 rfl) hG rfl ?_
      refine wp_iload_n (atd dX2_spreadHeld 13 rfl) rfl ?_
      refine wp_ialdA (atd dX2_spreadHeld 14 rfl) hH (by omega) (Nat.le_of_ble_eq_true rfl) ?_
      refine wp_icmpN_ne (tgt := 32) (atd dX2_spreadHeld 15 rfl) (by decide) (by have := hww x; omega) (by have := hhl x; omega) (fun c_25 => ?_) (fun c_25 => ?_)
      ·
        refine wp_aload_n (atd dX2_spreadHeld 18 rfl) rfl rfl ?_
        refine wp_aload_n (atd dX2_spreadHeld 19 rfl) rfl rfl ?_
        refine wp_iload_n (atd dX2_spreadHeld 20 rfl) rfl ?_
        refine wp_cVi hdd [_, _] (atd dX2_spreadHeld 21 rfl) iX2_holds lX2_96 rfl rfl (Nat.le_of_ble_eq_true rfl) hG rfl (eX2_holds (by omega) hN hNA hn hw hG hGm hFS.ob hT hkd hW hww (by omega)) (fun r_35 s_35 h_35 => ?_)
        obtain ⟨rfl, e_35⟩ := h_35
        obtain rfl := e_35.symm
        refine wp_aload_n (atd dX2_spreadHeld 22 rfl) rfl rfl ?_
        refine wp_get fX2_28 (atd dX2_spreadHeld 23 rfl) hG rfl ?_
        refine wp_iload_n (atd dX2_spreadHeld 24 rfl) rfl ?_
        refine wp_ialdA (atd dX2_spreadHeld 25 rfl) hH (by omega) (Nat.le_of_ble_eq_true rfl) ?_
        refine wp_iconst (v := -1) (atd dX2_spreadHeld 26 rfl) (by decide) ?_
        refine wp_ixor (atd dX2_spreadHeld 27 rfl) ?_
        refine wp_iandC (atd dX2_spreadHeld 28 rfl) ?_
        refine wp_istore_n (atd dX2_spreadHeld 29 rfl) (Nat.le_of_ble_eq_true rfl) ?_
        refine wp_iload_n (atd dX2_spreadHeld 30 rfl) rfl ?_
        refine wp_ifN_eq (tgt := 123) (atd dX2_spreadHeld 31 rfl) (by decide) (by first | omega | (have := dif_lt9 (b := hlc x) (hdF_lt (nb := nb) (kd := kd) (w := w x) hn (sdC x) (sdC_lt x)); omega)) (fun c_49 => ?_) (fun c_49 => ?_)
        ·
          refine wp_iincN (c := 1) (atd dX2_spreadHeld 72 rfl) rfl ?_
          refine wp_goto (tgt := 5) (atd dX2_spreadHeld 73 rfl) (by decide) ?_
          have hlx : hlc x = hl x := by rw [hh2 x, if_neg (by omega)]
          have hz : frs nb n kd w hl x = 0 := by rw [frs, if_neg (by rw [← hlx]; exact c_25), ← hlx]; exact c_49
          exact ih (x + 1) σ hlc nwc T l _ _ (by omega) (by omega) hG hN hNA hGm hT hLR hW hH hFS hNw hF hnl (by omega) hhl (fun y => by
        rw [hh2 y]
        by_cases e : y = x
        · subst e; rw [if_neg (by omega), if_pos ⟨hfx, by omega⟩, hz, Nat.or_zero]
        · have e2 : (f ≤ y ∧ y < x) ↔ (f ≤ y ∧ y < x + 1) := ⟨fun z => ⟨z.1, by omega⟩, fun z => ⟨z.1, by omega⟩⟩
          simp only [e2]) (fun y p hy => by
        rw [hm y p hy]
        constructor
        · rintro (z | ⟨z, z1, z2, z3⟩)
          · exact Or.inl z
          · exact Or.inr ⟨z, z1, by omega, z3⟩
        · rintro (z | ⟨z, z1, z2, z3, z4⟩)
          · exact Or.inl z
          · refine Or.inr ⟨z, z1, ?_, z3, z4⟩
            have : z ≠ x := fun e => by rw [e, hz, Nat.zero_testBit] at z3; cases z3
            omega)
        ·
          refine wp_aload_n (atd dX2_spreadHeld 32 rfl) rfl rfl ?_
          refine wp_get fX2_28 (atd dX2_spreadHeld 33 rfl) hG rfl ?_
          refine wp_iload_n (atd dX2_spreadHeld 34 rfl) rfl ?_
          refine wp_dup2 (atd dX2_spreadHeld 35 rfl) rfl rfl ?_
          refine wp_ialdA (atd dX2_spreadHeld 36 rfl) hH (by omega) (Nat.le_of_ble_eq_true rfl) ?_
          refine wp_iload_n (atd dX2_spreadHeld 37 rfl) rfl ?_
          refine wp_iorN (atd dX2_spreadHeld 38 rfl) ?_
          refine wp_iastA (atd dX2_spreadHeld 39 rfl) hH (by omega) (Nat.le_of_ble_eq_true rfl) (fun σ f_61 hH => ?_)
          have hG := hG.fr f_61 (by first | decide | (simp only [List.mem_cons, List.not_mem_nil, or_false]; omega))
          have hN := hN.fr f_61 (by first | decide | (simp only [List.mem_cons, List.not_mem_nil, or_false]; omega))
          have hNA := hNA.fr f_61 (by first | decide | (simp only [List.mem_cons, List.not_mem_nil, or_false]; omega))
          have hGm := hGm.fr f_61 (by first | decide | (simp only [List.mem_cons, List.not_mem_nil, or_false]; omega))
          have hT := hT.fr f_61 ⟨by simp only [List.mem_cons, List.not_mem_nil, or_false]; omega, by simp only [List.mem_cons, List.not_mem_nil, or_false]; omega, by simp only [List.mem_cons, List.not_mem_nil, or_false]; omega⟩
          have hLR := hLR.fr f_61 ⟨by simp only [List.mem_cons, List.not_mem_nil, or_false]; omega, by simp only [List.mem_cons, List.not_mem_nil, or_false]; omega⟩
          have hW := hW.fr f_61 (by first | decide | (simp only [List.mem_cons, List.not_mem_nil, or_false]; omega))
          have hNw := hNw.fr f_61 (by first | decide | (simp only [List.mem_cons, List.not_mem_nil, or_false]; omega))
          have hFS := hFS.fr f_61 ⟨by simp only [List.mem_cons, List.not_mem_nil, or_false]; omega, by simp only [List.mem_cons, List.not_mem_nil, or_false]; omega, by simp only [List.mem_cons, List.not_mem_nil, or_false]; omega⟩
          have hF := hF.tr f_61 (by simp)
          have hlx : hlc x = hl x := by rw [hh2 x, if_neg (by omega)]
          have hfz : frs nb n kd w hl x = dif (hdF nb n kd (sdC x) (w x)) (hlc x) := by rw [frs, if_neg (by rw [← hlx]; exact c_25), ← hlx]
          have hz0 : frs nb n kd w hl x ≠ 0 := by rw [hfz]; omega
          rw [← hfz] at hH ⊢
          have hfl := frs_lt (nb := nb) (kd := kd) (w := w) (hl := hl) hn x
          refine wp_aload_n (atd dX2_spreadHeld 40 rfl) rfl rfl ?_
          refine wp_get fX2_12 (atd dX2_spreadHeld 41 rfl) hG rfl ?_
          refine wp_iload_n (atd dX2_spreadHeld 42 rfl) rfl ?_
          refine wp_aload_n (atd dX2_spreadHeld 43 rfl) rfl rfl ?_
          refine wp_get fX2_100 (atd dX2_spreadHeld 44 rfl) hGm rfl ?_
          refine wp_iconst (v := nI 1) (atd dX2_spreadHeld 45 rfl) (by decide) ?_
          refine wp_icmpN_ne (tgt := 79) (atd dX2_spreadHeld 46 rfl) (by decide) (by omega) (by omega) (fun c_72 => ?_) (fun c_72 => ?_)
          ·
            refine wp_iconst (v := nI 0) (atd dX2_spreadHeld 49 rfl) (by decide) ?_
            refine wp_top (bI_f (p := kd = 1) c_72).symm ?_
            refine wp_cVv hdd [_, _] (atd dX2_spreadHeld 50 rfl) iX5_stepFrom lX2_103 rfl rfl (Nat.le_of_ble_eq_true rfl) hFS.ob rfl (eX5_stepFrom (by omega) hT hLR hFS (by omega) rfl rfl rfl (hgd x (by omega) (by omega) hz0) hf3 hf2 (by omega)) (fun s_80 h_80 => ?_)
            obtain ⟨f_80, hT, hLR, l2, hFS, hR, hml⟩ := h_80
            have hG := hG.fr f_80 (by first | decide | (simp only [List.mem_cons, List.not_mem_nil, or_false]; omega))
            have hN := hN.fr f_80 (by first | decide | (simp only [List.mem_cons, List.not_mem_nil, or_false]; omega))
            have hNA := hNA.fr f_80 (by first | decide | (simp only [List.mem_cons, List.not_mem_nil, or_false]; omega))
            have hGm := hGm.fr f_80 (by first | decide | (simp only [List.mem_cons, List.not_mem_nil, or_false]; omega))
            have hW := hW.fr f_80 (by first | decide | (simp only [List.mem_cons, List.not_mem_nil, or_false]; omega))
            have hH := hH.fr f_80 (by first | decide | (simp only [List.mem_cons, List.not_mem_nil, or_false]; omega))
            have hNw := hNw.fr f_80 (by first | decide | (simp only [List.mem_cons, List.not_mem_nil, or_false]; omega))
            have hF := hF.tr f_80 (by simp)
            refine wp_iconst (v := nI 0) (atd dX2_spreadHeld 51 rfl) (by decide) ?_
            refine wp_istore (atd dX2_spreadHeld 52 rfl) (Nat.le_of_ble_eq_true rfl) ?_
            have hlen : l2.length ≤ 165 := by have := nodup_len hFS.nd hR; omega
            refine lX2_spread1 (σ0 := σ0) (nw0 := nwc) (hlc := va_up hlc x (hlc x ||| frs nb n kd w hl x)) (T := T + 1) (l := l2) hn hw hkd hf2 hf3 hww hap haa hR hlen hfl (fun σ nwd hG hN hNA hGm hT hLR hW hH hFS hNw hF hnd hmd => ?_) _ 0 _ nwc (Nat.zero_add _) hG hN hNA hGm hT hLR hW hH hFS hNw hF hnl (fun y p hy => ⟨Or.inl, fun z => z.elim id (fun ⟨_, j, hj, _⟩ => absurd hj (Nat.not_lt_zero j))⟩)
            refine wp_iincN (c := 1) (atd dX2_spreadHeld 72 rfl) rfl ?_
            refine wp_goto (tgt := 5) (atd dX2_spreadHeld 73 rfl) (by decide) ?_
            refine ih (x + 1) σ _ nwd (T + 1) l2 _ _ (by omega) (by omega) hG hN hNA hGm hT hLR hW hH hFS hNw hF hnd (by omega) (up_lt hhl (Nat.or_lt_two_pow (n := 9) (hhl x) hfl)) (fun y => ?_) (fun y p hy => ?_)
            · by_cases e : y = x
              · subst e; simp only [va_up, if_true]; rw [if_pos ⟨hfx, by omega⟩, hlx]
              · simp only [va_up, if_neg e]; rw [hh2 y]
                have e2 : (f ≤ y ∧ y < x) ↔ (f ≤ y ∧ y < x + 1) := ⟨fun z => ⟨z.1, by omega⟩, fun z => ⟨z.1, by omega⟩⟩
                simp only [e2]
            · rw [hmd y p hy, hm y p hy]
              constructor
              · rintro ((z | ⟨z, z1, z2, z3⟩) | ⟨z1, z2⟩)
                · exact Or.inl z
                · exact Or.inr ⟨z, z1, by omega, z3⟩
                · exact Or.inr ⟨x, hfx, by omega, z1, (hml y).mp z2⟩
              · rintro (z | ⟨z, z1, z2, z3, z4⟩)
                · exact Or.inl (Or.inl z)
                · by_cases e : z = x
                  · subst e; exact Or.inr ⟨z3, (hml y).mpr z4⟩
                  · exact Or.inl (Or.inr ⟨z, z1, by omega, z3, z4⟩)
          ·
            refine wp_iconst (v := nI 1) (atd dX2_spreadHeld 47 rfl) (by decide) ?_
            refine wp_goto (tgt := 80) (atd dX2_spreadHeld 48 rfl) (by decide) ?_
            refine wp_top (bI_t (p := kd = 1) c_72).symm ?_
            refine wp_cVv hdd [_, _] (atd dX2_spreadHeld 50 rfl) iX5_stepFrom lX2_103 rfl rfl (Nat.le_of_ble_eq_true rfl) hFS.ob rfl (eX5_stepFrom (by omega) hT hLR hFS (by omega) rfl rfl rfl (hgd x (by omega) (by omega) hz0) hf3 hf2 (by omega)) (fun s_80 h_80 => ?_)
            obtain ⟨f_80, hT, hLR, l2, hFS, hR, hml⟩ := h_80
            have hG := hG.fr f_80 (by first | decide | (simp only [List.mem_cons, List.not_mem_nil, or_false]; omega))
            have hN := hN.fr f_80 (by first | decide | (simp only [List.mem_cons, List.not_mem_nil, or_false]; omega))
            have hNA := hNA.fr f_80 (by first | decide | (simp only [List.mem_cons, List.not_mem_nil, or_false]; omega))
            have hGm := hGm.fr f_80 (by first | decide | (simp only [List.mem_cons, List.not_mem_nil, or_false]; omega))
            have hW := hW.fr f_80 (by first | decide | (simp only [List.mem_cons, List.not_mem_nil, or_false]; omega))
            have hH := hH.fr f_80 (by first | decide | (simp only [List.mem_cons, List.not_mem_nil, or_false]; omega))
            have hNw := hNw.fr f_80 (by first | decide | (simp only [List.mem_cons, List.not_mem_nil, or_false]; omega))
            have hF := hF.tr f_80 (by simp)
            refine wp_iconst (v := nI 0) (atd dX2_spreadHeld 51 rfl) (by decide) ?_
            refine wp_istore (atd dX2_spreadHeld 52 rfl) (Nat.le_of_ble_eq_true rfl) ?_
            have hlen : l2.length ≤ 165 := by have := nodup_len hFS.nd hR; omega
            refine lX2_spread1 (σ0 := σ0) (nw0 := nwc) (hlc := va_up hlc x (hlc x ||| frs nb n kd w hl x)) (T := T + 1) (l := l2) hn hw hkd hf2 hf3 hww hap haa hR hlen hfl (fun σ nwd hG hN hNA hGm hT hLR hW hH hFS hNw hF hnd hmd => ?_) _ 0 _ nwc (Nat.zero_add _) hG hN hNA hGm hT hLR hW hH hFS hNw hF hnl (fun y p hy => ⟨Or.inl, fun z => z.elim id (fun ⟨_, j, hj, _⟩ => absurd hj (Nat.not_lt_zero j))⟩)
            refine wp_iincN (c := 1) (atd dX2_spreadHeld 72 rfl) rfl ?_
            refine wp_goto (tgt := 5) (atd dX2_spreadHeld 73 rfl) (by decide) ?_
            refine ih (x + 1) σ _ nwd (T + 1) l2 _ _ (by omega) (by omega) hG hN hNA hGm hT hLR hW hH hFS hNw hF hnd (by omega) (up_lt hhl (Nat.or_lt_two_pow (n := 9) (hhl x) hfl)) (fun y => ?_) (fun y p hy => ?_)
            · by_cases e : y = x
              · subst e; simp only [va_up, if_true]; rw [if_pos ⟨hfx, by omega⟩, hlx]
              · simp only [va_up, if_neg e]; rw [hh2 y]
                have e2 : (f ≤ y ∧ y < x) ↔ (f ≤ y ∧ y < x + 1) := ⟨fun z => ⟨z.1, by omega⟩, fun z => ⟨z.1, by omega⟩⟩
                simp only [e2]
            · rw [hmd y p hy, hm y p hy]
              constructor
              · rintro ((z | ⟨z, z1, z2, z3⟩) | ⟨z1, z2⟩)
                · exact Or.inl z
                · exact Or.inr ⟨z, z1, by omega, z3⟩
                · exact Or.inr ⟨x, hfx, by omega, z1, (hml y).mp z2⟩
              · rintro (z | ⟨z, z1, z2, z3, z4⟩)
                · exact Or.inl (Or.inl z)
                · by_cases e : z = x
                  · subst e; exact Or.inr ⟨z3, (hml y).mpr z4⟩
                  · exact Or.inl (Or.inr ⟨z, z1, by omega, z3, z4⟩)
      ·
        refine wp_iconst (v := nI 0) (atd dX2_spreadHeld 16 rfl) (by decide) ?_
        refine wp_goto (tgt := 47) (atd dX2_spreadHeld 17 rfl) (by decide) ?_
        refine wp_istore_n (atd dX2_spreadHeld 29 rfl) (Nat.le_of_ble_eq_true rfl) ?_
        refine wp_iload_n (atd dX2_spreadHeld 30 rfl) rfl ?_
        refine wp_ifN_eq (tgt := 123) (atd dX2_spreadHeld 31 rfl) (by decide) (by first | omega | (have := dif_lt9 (b := hlc x) (hdF_lt (nb := nb) (kd := kd) (w := w x) hn (sdC x) (sdC_lt x)); omega)) (fun c_49 => ?_) (fun c_49 => ?_)
        ·
          refine wp_iincN (c := 1) (atd dX2_spreadHeld 72 rfl) rfl ?_
          refine wp_goto (tgt := 5) (atd dX2_spreadHeld 73 rfl) (by decide) ?_
          have hlx : hlc x = hl x := by rw [hh2 x, if_neg (by omega)]
          have hz : frs nb n kd w hl x = 0 := by rw [frs, if_pos (by rw [← hlx]; exact c_25)]
          exact ih (x + 1) σ hlc nwc T l _ _ (by omega) (by omega) hG hN hNA hGm hT hLR hW hH hFS hNw hF hnl (by omega) hhl (fun y => by
        rw [hh2 y]
        by_cases e : y = x
        · subst e; rw [if_neg (by omega), if_pos ⟨hfx, by omega⟩, hz, Nat.or_zero]
        · have e2 : (f ≤ y ∧ y < x) ↔ (f ≤ y ∧ y < x + 1) := ⟨fun z => ⟨z.1, by omega⟩, fun z => ⟨z.1, by omega⟩⟩
          simp only [e2]) (fun y p hy => by
        rw [hm y p hy]
        constructor
        · rintro (z | ⟨z, z1, z2, z3⟩)
          · exact Or.inl z
          · exact Or.inr ⟨z, z1, by omega, z3⟩
        · rintro (z | ⟨z, z1, z2, z3, z4⟩)
          · exact Or.inl z
          · refine Or.inr ⟨z, z1, ?_, z3, z4⟩
            have : z ≠ x := fun e => by rw [e, hz, Nat.zero_testBit] at z3; cases z3
            omega)
        · exfalso; omega
theorem eX2_spreadHeld {G : Gx} {d : Nat} {σ : Hp} (hd : 3 ≤ d) {g kn n a kd f f2 : Nat} {nb w hl nw : Nat → Nat} {rd op tn rf hp : Int32} {wv : Value} {t : Nat} {l : List Nat} (hn : n ≤ 9) (hw : ∀ p, nb p < 512) (hkd : kd < 3) (hff : f ≤ f2) (hf2 : f2 ≤ 219) (hf3 : f2 ≤ f + 165) (hww : ∀ x, w x < 512) (hhl : ∀ x, hl x < 512) (hnl : ∀ x, nw x < 512) (hap : kn + 1 < g ∨ g + 12 < kn) (haa : a < g ∨ g + 12 < a) (ht : t + (f2 - f) + 2 < 2 ^ 31) (hgd : ∀ x, f ≤ x → x < f2 → frs nb n kd w hl x ≠ 0 → gdX nb f f2 x) (hG : OB σ g 2 (ggF g kn)) (hN : OB σ kn 3 [.int (nI n), .ref (kn + 1)]) (hNA : AI σ (kn + 1) 9 nb) (hGm : OB σ a 1 (gaF kd f f2 rd wv op tn rf hp)) (hT : RT σ (g + 1)) (hLR : LR σ (g + 1) nb) (hFS : FS σ (g + 1) t l) (hW : AI σ (g + 10) 219 w) (hH : AI σ (g + 11) 219 hl) (hNw : AI σ (g + 12) 219 nw) : Cl G mX2_spreadHeld d [.ref g, .ref a] σ 0 0 (pV fun s => fr [g + 1, g + 7, g + 8, g + 11, g + 12] σ s ∧ RT s (g + 1) ∧ LR s (g + 1) nb ∧ (∃ T l, FS s (g + 1) T l ∧ T ≤ t + (f2 - f)) ∧ ∃ hl2 nw2, AI s (g + 11) 219 hl2 ∧ AI s (g + 12) 219 nw2 ∧ (∀ y, hl2 y < 512) ∧ (∀ y, nw2 y < 512) ∧ (∀ y, f ≤ y → y < f2 → hl2 y = hl y ||| frs nb n kd w hl y) ∧ (∀ y p, y < 219 → ((nw2 y).testBit p = true ↔ (nw y).testBit p = true ∨ ∃ z, f ≤ z ∧ z < f2 ∧ (frs nb n kd w hl z).testBit p = true ∧ STP nb kd z y))) := by
  obtain ⟨d0, hdd⟩ : ∃ e, d = e + 1 := ⟨d - 1, by omega⟩
  refine cl_of (by decide) (by simp [Value.category]) (Nat.le_of_ble_eq_true rfl) ?_
  show Wp G mX2_spreadHeld d 0 [.ref g, .ref a, .double 0, .double 0, .double 0] [] σ 0 0 _
  refine wp_aload_n (atd dX2_spreadHeld 0 rfl) rfl rfl ?_
  refine wp_get fX2_68 (atd dX2_spreadHeld 1 rfl) hGm rfl ?_
  refine wp_istore_n (atd dX2_spreadHeld 2 rfl) (Nat.le_of_ble_eq_true rfl) ?_
  exact lX2_spread (by omega) hn hw hkd hf2 hf3 hww hap haa ht hgd (f2 - f) f σ hl nw t l _ _ (by omega) (Nat.le_refl _) hG hN hNA hGm hT hLR hW hH hFS hNw fr.rf hnl (by omega) hhl (fun y => by rw [if_neg (by omega)]) (fun y p hy => ⟨Or.inl, fun z => z.elim id (fun ⟨z, z1, z2, _⟩ => by omega)⟩)
