/-! sweep, swept -/
theorem GS_rows2 {σ s : Hp} {g kn n T T2 : Nat} {nb : Nat → Nat} {wk : Nat → Option Nat} (h : GS σ g kn nb n wk T) (hk : ∀ j, g ≤ j → j ≤ g + 21 → j ≠ g + 1 → j ≠ g + 7 → j ≠ g + 8 → s.2 j = σ.2 j) (hwk : ∀ i a, wk i = some a → s.2 a = σ.2 a) (hr : RKg s g nb T2) : GS s g kn nb n wk T2 := by
  obtain ⟨a1, a2, -, ⟨w, hl, nw, b1, b2, b3, b4⟩, a5⟩ := h
  refine ⟨a1.kp (hk _ (by omega) (by omega) (by omega) (by omega) (by omega)), a2.kp (hk _ (by omega) (by omega) (by omega) (by omega) (by omega)), hr, ⟨w, hl, nw, b1.kp (hk _ (by omega) (by omega) (by omega) (by omega) (by omega)), b2.kp (hk _ (by omega) (by omega) (by omega) (by omega) (by omega)), b3.kp (hk _ (by omega) (by omega) (by omega) (by omega) (by omega)), b4⟩, fun kd h hk3 h1 h3 => ?_⟩
  have := gix_lt hk3 h1 h3
  exact (a5 kd h hk3 h1 h3).kp (hk _ (by omega) (by omega) (by omega) (by omega) (by omega)) (fun a q => hwk _ a q)
theorem CSt.upSe {S : Ab} {σ s : Hp} {mk mk2 : Nat → Option Nat} {T T2 : Nat} {L : List Nat} (h : CSt S σ mk T) (f : fA L σ s) (hL : ∀ j ∈ L, (39 ≤ j ∧ j ≤ 42) ∨ j = 13 ∨ j = 19 ∨ j = 20 ∨ ∃ i, i ≤ 2 ∧ mk i = some j) (hmk : ∀ i, 2 < i → mk2 i = mk i) (hM : MKO mk2 s.1) (hG2 : MKG mk2 s.1) (hT : T ≤ T2) (hse : cSea S s mk2) (hr : RKg s 12 S.nb T2) : CSt S s mk2 T2 ∧ fK σ s := by
  obtain ⟨⟨a1, a2, a3, a4⟩, ⟨b1, b2, b3, b4⟩, ⟨d1, d2, d3, d4⟩, e1, e2, e3⟩ := h
  have hj : ∀ j, j < 104 → (j < 39 ∨ 42 < j) → j ≠ 13 → j ≠ 19 → j ≠ 20 → s.2 j = σ.2 j := fun j h1 h2 h3 h4 h5 => f.2 j (by omega) (fun z => by
    rcases hL j z with q | q | q | q | ⟨i, -, e⟩
    · omega
    · omega
    · omega
    · omega
    · have := (a2.1 i j e).1
      omega)
  have hk : ∀ a b, b ≤ 103 → (b < 13 ∨ 20 < a) → (b < 39 ∨ 42 < a) → kpR a b σ s := fun a b hb h1 h2 j g1 g2 => hj j (by omega) (by omega) (by omega) (by omega) (by omega)
  have hm : ∀ i0 i1, 2 < i0 → kpM mk i0 i1 σ s := fun i0 i1 hi => kpM.of f a2 (fun j hj => by
    rcases hL j hj with q | q | q | q | ⟨i, h1, e⟩
    · exact Or.inl (by omega)
    · exact Or.inl (by omega)
    · exact Or.inl (by omega)
    · exact Or.inl (by omega)
    · exact Or.inr ⟨i, by omega, e⟩)
  have e12 := hmk 12 (by omega)
  refine ⟨⟨⟨Nat.le_trans a1 f.1, hM, hG2, ?_⟩, ⟨b1.kp (hk _ _ (by omega) (by omega) (by omega)), b2.kp (hk _ _ (by omega) (by omega) (by omega)), b3.kp (hk _ _ (by omega) (by omega) (by omega)), b4.kp (hk _ _ (by omega) (by omega) (by omega))⟩, ⟨?_, d2.kp (hk _ _ (by omega) (by omega) (by omega)), d3.kp (hk _ _ (by omega) (by omega) (by omega)), hse⟩, e1.kp (hk _ _ (by omega) (by omega) (by omega)), e2.kp (hk _ _ (by omega) (by omega) (by omega)), ?_⟩, f.1, hk _ _ (by omega) (by omega) (by omega)⟩
  · have := a4.kp (hj 0 (by omega) (by omega) (by omega) (by omega) (by omega))
    unfold shF at this ⊢
    rw [e12]; exact this
  · have ew : wkG mk2 = wkG mk := funext fun i => by
      unfold wkG
      by_cases hi : i < 9
      · rw [if_pos hi, if_pos hi, hmk _ (by omega)]
      · rw [if_neg hi, if_neg hi]
    show GS s 12 5 S.nb S.n (wkG mk2) T2
    rw [ew]
    refine GS_rows2 d1 (fun j h1 h2 h3 h4 h5 => hj j (by omega) (by omega) h3 h4 h5) (fun i a q => ?_) hr
    have q : wkG mk i = some a := q
    unfold wkG at q
    by_cases hi : i < 9
    · rw [if_pos hi] at q; exact hm 3 11 (by omega) (3 + i) a (by omega) (by omega) q
    · rw [if_neg hi] at q; cases q
  · have q := cTri_T (e3.kp (s := s) (fun g hg => ?_) (hm _ _ (by omega))) hT
    · intro g hg
      rw [e12] at hg
      have ew : wk2 mk2 = wk2 mk := funext fun i => by
        unfold wk2
        by_cases hi : i < 9
        · rw [if_pos hi, if_pos hi, hmk _ (by omega)]
        · rw [if_neg hi, if_neg hi]
      rw [ew]
      exact q g hg
    · have hg1 := (a2.1 _ _ hg).1
      exact kpR.of f (a3.1 g hg).1 (fun j hj => by
        rcases hL j hj with q | q | q | q | ⟨i, h1, e⟩
        · omega
        · omega
        · omega
        · omega
        · exact (a3.1 g hg).2 i j (by omega) e)
/-- what a search leaves behind: the state, and what is known of the asked number -/
def SQ (S : Ab) (a z : Int32) (σ s : Hp) (mk : Nat → Option Nat) (T : Nat) : Prop := z = swF S.nb S.n a (fun _ k => nI k) ∧ fK σ s ∧ CSt S s mk T ∧ ∃ rd rn pa, SSx s S.nb S.n mk rd rn pa ∧ ∀ h, 1 ≤ h → h ≤ 2 → a = nI h → 0 < S.n → rd (h - 1) = true
theorem eX8_roundsC {G : Gx} {d : Nat} {S : Ab} {σ : Hp} {mk : Nat → Option Nat} {T : Nat} (hd : 5 ≤ d) (hV : AbV S) (hS : CSt S σ mk T) (hT0 : T + 23050 < 2 ^ 31) (a : Int32) : Cl G mX8_roundsOf d [.ref 39, .int a] σ 0 0 (pI fun z s => SQ S a z σ s mk (T + 23040)) ∨ (mk 0 = none ∧ Cl G mX8_roundsOf d [.ref 39, .int a] σ 3 46592 (pI fun z s => ∃ mk2, mk2 0 ≠ none ∧ SQ S a z σ s mk2 (T + 23040))) := by
  obtain ⟨hN, hNA⟩ := hS.2.1.2.1
  have hn := hV.1.1.1
  have hw := net_lt hV.1
  have hMK := hS.1.2.1
  have hMG := hS.1.2.2.1
  have hlo := hS.1.1
  obtain ⟨hT, hLR, t, l, hFS, ht⟩ := hS.2.2.1.1.2.2.1
  obtain ⟨rd, rn, pa, hSx⟩ := hS.2.2.1.2.2.2
  rcases hSx.2.2.2.2.1 with ⟨m0, m1, m2⟩ | ⟨ka, kq, kw, m0, m1, m2, -⟩
  · by_cases hnd : ∀ h, 1 ≤ h → h ≤ 2 → a = nI h → 0 < S.n → rd (h - 1) ≠ true → olF S.n (frN (h + 1) - frN h) (frN h) ≠ none
    · refine Or.inl (cl_post (eX8_roundsOf0 hd hV.1 hw hN hNA hT hLR hFS ht hT0 hSx m0 m1 m2 hnd) ?_)
      rintro v s ⟨z, rfl, hz, f, hr, rd2, rn2, pa2, hx, hq⟩
      obtain ⟨q1, q2⟩ := hS.upSe (T2 := T + 23040) (mk2 := mk) f.A (fun j hj => by
        simp only [List.mem_cons, List.not_mem_nil, or_false] at hj
        exact Or.inl (by omega)) (fun _ _ => rfl) (by rw [f.1]; exact hMK) (by rw [f.1]; exact hMG) (by omega) ⟨rd2, rn2, pa2, hx⟩ (by
        obtain ⟨r1, r2, t2, l2, r3, r4⟩ := hr
        exact ⟨r1, r2, t2, l2, r3, by omega⟩)
      exact ⟨z, rfl, hz, q2, q1, rd2, rn2, pa2, hx, hq⟩
    · obtain ⟨h, hh1, hh2, rfl, hn0, hrd, ho⟩ : ∃ h, 1 ≤ h ∧ h ≤ 2 ∧ a = nI h ∧ 0 < S.n ∧ rd (h - 1) ≠ true ∧ olF S.n (frN (h + 1) - frN h) (frN h) = none := Classical.byContradiction fun q => hnd fun h g1 g2 g3 g4 g5 g6 => q ⟨h, g1, g2, g3, g4, g5, g6⟩
      refine Or.inr ⟨m0, cl_post (eX8_roundsOf2 hd hV.1 hw hN hNA hT hLR hFS ht hT0 hSx hlo m0 m1 m2 hh1 hh2 hn0 hrd ho) ?_⟩
      rintro v s ⟨z, rfl, hz, f, hs, hr, rd2, rn2, pa2, hx, hq⟩
      have e3 : ∀ i, 2 < i → mk3 mk σ.1 i = mk i := fun i hi => by
        unfold mk3
        rw [va_up_ne _ _ (by omega), va_up_ne _ _ (by omega), va_up_ne _ _ (by omega)]
      have ea : ∀ i b, i ≤ 2 → mk3 mk σ.1 i = some b → σ.1 ≤ b := fun i b hi e => by
        rcases (show i = 0 ∨ i = 1 ∨ i = 2 by omega) with rfl | rfl | rfl <;> simp [mk3, va_up] at e <;> omega
      obtain ⟨q1, q2⟩ := hS.upSe (T2 := T + 23040) (mk2 := mk3 mk σ.1) f (fun j hj => by
        simp only [List.mem_cons, List.not_mem_nil, or_false] at hj
        omega) e3 (by rw [hs]; exact hMK.mk3 hlo) (by
        have e12 := e3 12 (by omega)
        refine ⟨fun g hg => ?_, fun e i hi => ?_, fun i hi => ?_⟩
        · rw [e12] at hg
          have hg2 := hMG.1 g hg
          refine ⟨by omega, fun i b hi e => ?_⟩
          by_cases q : i ≤ 2
          · have := ea i b q e
            omega
          · rw [e3 i (by omega)] at e
            exact hg2.2 i b hi e
        · rw [e12] at e
          rw [e3 i (by omega)]
          exact hMG.2.1 e i hi
        · rw [e3 i (by omega)]
          exact hMG.2.2 i hi) (by omega) ⟨rd2, rn2, pa2, hx⟩ hr
      exact ⟨z, rfl, mk3 mk σ.1, by simp [mk3, va_up], hz, q2, q1, rd2, rn2, pa2, hx, fun g g1 g2 e _ => by
        have : g = h := (nI_inj9 (by omega) (by omega) e).symm
        subst this; exact hq⟩
  · refine Or.inl (cl_post (eX8_roundsOf1 hd hV.1 hw hN hNA hT hLR hFS ht hT0 hSx m0 m1 m2 hMK) ?_)
    rintro v s ⟨z, rfl, hz, f, hr, rd2, rn2, pa2, hx, hq⟩
    obtain ⟨q1, q2⟩ := hS.upSe (T2 := T + 23040) (mk2 := mk) f.A (fun j hj => by
      simp only [List.mem_cons, List.not_mem_nil, or_false] at hj
      by_cases c1 : j = ka
      · exact Or.inr (Or.inr (Or.inr (Or.inr ⟨0, by omega, by rw [c1]; exact m0⟩)))
      · by_cases c2 : j = kq
        · exact Or.inr (Or.inr (Or.inr (Or.inr ⟨1, by omega, by rw [c2]; exact m1⟩)))
        · by_cases c3 : j = kw
          · exact Or.inr (Or.inr (Or.inr (Or.inr ⟨2, by omega, by rw [c3]; exact m2⟩)))
          · omega) (fun _ _ => rfl) (by rw [f.1]; exact hMK) (by rw [f.1]; exact hMG) (by omega) ⟨rd2, rn2, pa2, hx⟩ hr
    exact ⟨z, rfl, hz, q2, q1, rd2, rn2, pa2, hx, hq⟩
theorem fX11_sweep {G : Gx} {d : Nat} {σ : Hp} (hd : 1 ≤ d) {S : Ab} {mk : Nat → Option Nat} {T : Nat} (hS : CSt S σ mk T) {a : Int32} {mc ms : Nat} {PP : Int32 → Hp → Prop} (hC : Cl G mX8_roundsOf (d - 1) [.ref 39, .int a] σ mc ms (pI PP)) : Cl G mX11_sweep d [.ref 0, .int a] σ mc ms (pI PP) := by
  obtain ⟨d0, hdd⟩ : ∃ e, d = e + 1 := ⟨d - 1, by omega⟩
  refine cl_of (by decide) (by simp [Value.category]) (Nat.le_of_ble_eq_true rfl) ?_
  show Wp G mX11_sweep d 0 [.ref 0, .int a] [] σ mc ms _
  have hH := hS.1.2.2.2
  obtain ⟨rd0, rn0, pa0, ⟨qd0, hSe⟩, -⟩ := hS.2.2.1.2.2.2
  refine wp_aload_n (atd dX11_sweep 0 rfl) rfl rfl ?_
  refine wp_get fX11_65 (atd dX11_sweep 1 rfl) hH rfl ?_
  refine wp_iload_n (atd dX11_sweep 2 rfl) rfl ?_
  refine wp_cViA hdd [_] (atd dX11_sweep 3 rfl) iX8_roundsOf lX11_249 rfl rfl (Nat.le_of_ble_eq_true rfl) hSe rfl (by rw [show d0 = d - 1 by omega]; exact hC) (Nat.add_zero _).symm (Nat.add_zero _).symm (fun r_5 s_5 h_5 => ?_)
  refine wp_ireti (atd dX11_sweep 4 rfl) rfl ?_
  exact h_5
theorem fX8_rowIn {G : Gx} {d : Nat} {σ : Hp} (hd : 1 ≤ d) {n : Nat} {nb : Nat → Nat} {a r : Int32} {mc ms : Nat} {fs : List Value} (hSe : OB σ 39 8 fs) {PP : Int32 → Hp → Prop} (hC : Cl G mX8_roundsOf (d - 1) [.ref 39, .int a] σ mc ms (pI PP)) (hP : ∀ z s, PP z s → z = swF nb n a (fun _ k => nI k) ∧ (∃ v1 v2 v3 qd, OB s 39 8 (seF 39 5 13 v1 v2 v3 qd)) ∧ ∃ rn pa, AI s (39 + 3) 122 pa ∧ ∀ h, 1 ≤ h → h ≤ 2 → a = nI h → 0 < n → K1 nb n h rn pa) : Cl G mX8_rowIn d [.ref 39, .int a, .int r] σ mc ms (pI fun v s => v = rwI nb n a r ∧ ∃ z, PP z s) := by
  obtain ⟨d0, hdd⟩ : ∃ e, d = e + 1 := ⟨d - 1, by omega⟩
  refine cl_of (by decide) (by simp [Value.category]) (Nat.le_of_ble_eq_true rfl) ?_
  show Wp G mX8_rowIn d 0 [.ref 39, .int a, .int r, .double 0] [] σ mc ms _
  refine wp_aload_n (atd dX8_rowIn 0 rfl) rfl rfl ?_
  refine wp_iload_n (atd dX8_rowIn 1 rfl) rfl ?_
  refine wp_cViA hdd [_] (atd dX8_rowIn 2 rfl) iX8_roundsOf lX8_44 rfl rfl (Nat.le_of_ble_eq_true rfl) hSe rfl (by rw [show d0 = d - 1 by omega]; exact hC) (Nat.add_zero _).symm (Nat.add_zero _).symm (fun r_2 s_2 h_2 => ?_)
  obtain ⟨e1, ⟨v1, v2, v3, qd, e2⟩, rn, pa, e3, e4⟩ := hP _ _ h_2
  refine wp_post (bX8_rowIn (n := n) (nb := nb) (rn := rn) (by omega) e2 e3 e1 e4) ?_
  rintro v s ⟨w, rfl, hw, rfl⟩
  exact ⟨w, rfl, hw, _, h_2⟩
noncomputable def swpA (S : Ab) (a b c : Int32) : Int32 := swF S.nb S.n a (fun h k => atP b (k + 1) (fun r => atP c h (fun j => nI (rk (rowAt (rowsL h S.n) (swY S.nb S.n h k r).1) j)) (-1)) (-1))
theorem rwI_cases {S : Ab} (hV : AbV S) (a b c : Int32) : (rwI S.nb S.n a b = -1 ∧ swpA S a b c = -1) ∨ ∃ x, x < 219 ∧ rwI S.nb S.n a b = nI x ∧ swpA S a b c = atP c 3 (fun j => if rk (rlA x) j = 9 then -1 else nI (rk (rlA x) j)) (-1) := by
  unfold rwI swpA
  rcases sw_cases S.nb S.n a with hx | ⟨h, k, h1, h2, rfl, hn0, hk, hk60, hx⟩
  · exact Or.inl ⟨hx _, hx _⟩
  · rw [hx, hx]
    by_cases e : isP b (k + 1)
    · obtain ⟨r, hr, rfl⟩ := isP_ofB e
      have hlt : (swY S.nb S.n h k r).1 < (rowsL h S.n).length := (swY_lt hV.1.1 hk r (by omega)).1
      refine Or.inr ⟨xi h S.n (swY S.nb S.n h k r).1, xi_lt h1 (by omega) hV.1.1.1 hlt, by rw [if_pos e, nI_clamp (by omega)], ?_⟩
      rw [hAt_eq h1 (by omega) hV.1.1.1 hlt]
      unfold atP
      rw [if_pos e, nI_clamp (by omega)]
    · exact Or.inl ⟨if_neg e, if_neg e⟩
theorem fX11_swept {G : Gx} {d : Nat} {σ : Hp} (hd : 2 ≤ d) {S : Ab} {mk : Nat → Option Nat} {T : Nat} (hS : CSt S σ mk T) {a b c : Int32} (hV : AbV S) {mc ms : Nat} {PP : Int32 → Hp → Prop} (hC : Cl G mX8_rowIn (d - 1) [.ref 39, .int a, .int b] σ mc ms (pI fun v s => v = rwI S.nb S.n a b ∧ ∃ z, PP z s)) (hP : ∀ z s, PP z s → ∃ mk T, CSt S s mk T) : Cl G mX11_swept d [.ref 0, .int a, .int b, .int c] σ mc ms (pI fun v s => v = swpA S a b c ∧ ∃ z, PP z s) := by
  obtain ⟨d0, hdd⟩ : ∃ e, d = e + 1 := ⟨d - 1, by omega⟩
  refine cl_of (by decide) (by simp [Value.category]) (Nat.le_of_ble_eq_true rfl) ?_
  show Wp G mX11_swept d 0 [.ref 0, .int a, .int b, .int c, .double 0] [] σ mc ms _
  have hH := hS.1.2.2.2
  obtain ⟨rd0, rn0, pa0, ⟨qd0, hSe⟩, -⟩ := hS.2.2.1.2.2.2
  refine wp_aload_n (atd dX11_swept 0 rfl) rfl rfl ?_
  refine wp_get fX11_65 (atd dX11_swept 1 rfl) hH rfl ?_
  refine wp_iload_n (atd dX11_swept 2 rfl) rfl ?_
  refine wp_iload_n (atd dX11_swept 3 rfl) rfl ?_
  refine wp_cViA hdd [_, _] (atd dX11_swept 4 rfl) iX8_rowIn lX11_252 rfl rfl (Nat.le_of_ble_eq_true rfl) hSe rfl (by rw [show d0 = d - 1 by omega]; exact hC) (Nat.add_zero _).symm (Nat.add_zero _).symm (fun r_6 s_6 h_6 => ?_)
  obtain ⟨rfl, z0, hz0⟩ := h_6
  obtain ⟨mk9, T9, hS⟩ := hP _ _ hz0
  have hH := hS.1.2.2.2
  have hGo := hS.2.2.1.1.1
  obtain ⟨tz, lz, hFS, -⟩ := hS.2.2.1.1.2.2.1.2.2
  have hRo := hFS.ob
  rcases rwI_cases hV a b c with ⟨e1, e2⟩ | ⟨x, hx, e1, e2⟩
  ·
    rw [e1]
    refine wp_istore (atd dX11_swept 5 rfl) (Nat.le_of_ble_eq_true rfl) ?_
    refine wp_iload (atd dX11_swept 6 rfl) rfl ?_
    refine wp_iconst (v := -1) (atd dX11_swept 7 rfl) (by decide) ?_
    refine wp_icmp_ne (tgt := 21) (atd dX11_swept 8 rfl) (by decide) (fun c_14 => ?_) (fun c_14 => ?_)
    · exact absurd rfl c_14
    ·
      refine wp_iconst (v := -1) (atd dX11_swept 9 rfl) (by decide) ?_
      refine wp_goto (tgt := 34) (atd dX11_swept 10 rfl) (by decide) ?_
      refine wp_ireti (atd dX11_swept 17 rfl) rfl ?_
      exact ⟨e2.symm, z0, hz0⟩
  ·
    rw [e1]
    refine wp_istore (atd dX11_swept 5 rfl) (Nat.le_of_ble_eq_true rfl) ?_
    refine wp_iload (atd dX11_swept 6 rfl) rfl ?_
    refine wp_iconst (v := -1) (atd dX11_swept 7 rfl) (by decide) ?_
    refine wp_icmp_ne (tgt := 21) (atd dX11_swept 8 rfl) (by decide) (fun c_14 => ?_) (fun c_14 => ?_)
    ·
      refine wp_aload_n (atd dX11_swept 11 rfl) rfl rfl ?_
      refine wp_get fX11_38 (atd dX11_swept 12 rfl) hH rfl ?_
      refine wp_get fX11_58 (atd dX11_swept 13 rfl) hGo rfl ?_
      refine wp_iload (atd dX11_swept 14 rfl) rfl ?_
      refine wp_iload_n (atd dX11_swept 15 rfl) rfl ?_
      refine wp_cVi hdd [_, _] (atd dX11_swept 16 rfl) iX5_hunterAt lX11_197 rfl rfl (Nat.le_of_ble_eq_true rfl) hRo rfl (eX5_hunterAt (by omega) hRo hS.2.2.1.1.2.2.1.1 hx) (fun r_31 s_31 h_31 => ?_)
      obtain ⟨rfl, e_31⟩ := h_31
      obtain rfl := e_31.symm
      refine wp_ireti (atd dX11_swept 17 rfl) rfl ?_
      exact ⟨e2.symm, z0, hz0⟩
    · exact absurd (fun e => nI_m1 (by omega) e) c_14
theorem SQ_row {S : Ab} {a z : Int32} {σ s : Hp} {mk : Nat → Option Nat} {T : Nat} (h : SQ S a z σ s mk T) : z = swF S.nb S.n a (fun _ k => nI k) ∧ (∃ v1 v2 v3 qd, OB s 39 8 (seF 39 5 13 v1 v2 v3 qd)) ∧ ∃ rn pa, AI s (39 + 3) 122 pa ∧ ∀ h, 1 ≤ h → h ≤ 2 → a = nI h → 0 < S.n → K1 S.nb S.n h rn pa := by
  obtain ⟨h1, -, -, rd, rn, pa, ⟨⟨qd, e1⟩, -, -, e4, -, e6⟩, hq⟩ := h
  exact ⟨h1, ⟨_, _, _, qd, e1⟩, rn, pa, e4, fun h g1 g2 e g0 => e6 h g1 g2 (hq h g1 g2 e g0)⟩
theorem vX11_sweep {G : Gx} {d : Nat} {S : Ab} {σ : Hp} {mk : Nat → Option Nat} {T : Nat} (hd : 6 ≤ d) (hV : AbV S) (hS : CSt S σ mk T) (hT0 : T + 23050 < 2 ^ 31) (a : Int32) : Cl G mX11_sweep d [.ref 0, .int a] σ 0 0 (pI fun r s => r = swF S.nb S.n a (fun _ k => nI k) ∧ fK σ s ∧ CSt S s mk (T + 23040)) ∨ (mk 0 = none ∧ Cl G mX11_sweep d [.ref 0, .int a] σ 3 46592 (pI fun r s => r = swF S.nb S.n a (fun _ k => nI k) ∧ fK σ s ∧ ∃ mk2, mk2 0 ≠ none ∧ CSt S s mk2 (T + 23040))) := by
  rcases eX8_roundsC (G := G) (d := d - 1) (by omega) hV hS hT0 a with h | ⟨h0, h⟩
  · refine Or.inl (cl_post (fX11_sweep (by omega) hS h) ?_)
    rintro v s ⟨r, rfl, h1, h2, h3, -⟩
    exact ⟨r, rfl, h1, h2, h3⟩
  · refine Or.inr ⟨h0, cl_post (fX11_sweep (by omega) hS h) ?_⟩
    rintro v s ⟨r, rfl, mk2, h0, h1, h2, h3, -⟩
    exact ⟨r, rfl, h1, h2, mk2, h0, h3⟩
theorem vX11_swept {G : Gx} {d : Nat} {S : Ab} {σ : Hp} {mk : Nat → Option Nat} {T : Nat} (hd : 7 ≤ d) (hV : AbV S) (hS : CSt S σ mk T) (hT0 : T + 23050 < 2 ^ 31) (a b c : Int32) : Cl G mX11_swept d [.ref 0, .int a, .int b, .int c] σ 0 0 (pI fun r s => r = swpA S a b c ∧ fK σ s ∧ CSt S s mk (T + 23040)) ∨ (mk 0 = none ∧ Cl G mX11_swept d [.ref 0, .int a, .int b, .int c] σ 3 46592 (pI fun r s => r = swpA S a b c ∧ fK σ s ∧ ∃ mk2, mk2 0 ≠ none ∧ CSt S s mk2 (T + 23040))) := by
  obtain ⟨rd0, rn0, pa0, ⟨qd0, hSe⟩, -⟩ := hS.2.2.1.2.2.2
  rcases eX8_roundsC (G := G) (d := d - 1 - 1) (by omega) hV hS hT0 a with h | ⟨h0, h⟩
  · refine Or.inl (cl_post (fX11_swept (by omega) hS hV (fX8_rowIn (by omega) hSe h (fun z s hz => SQ_row hz)) (fun z s hz => ⟨_, _, hz.2.2.1⟩)) ?_)
    rintro v s ⟨r, rfl, h1, z, h2⟩
    exact ⟨r, rfl, h1, h2.2.1, h2.2.2.1⟩
  · refine Or.inr ⟨h0, cl_post (fX11_swept (by omega) hS hV (fX8_rowIn (by omega) hSe h (fun z s ⟨mk2, _, hz⟩ => SQ_row hz)) (fun z s ⟨mk2, _, hz⟩ => ⟨_, _, hz.2.2.1⟩)) ?_⟩
    rintro v s ⟨r, rfl, h1, z, mk2, h0, h2⟩
    exact ⟨r, rfl, h1, h2.2.1, mk2, h0, h2.2.2.1⟩
