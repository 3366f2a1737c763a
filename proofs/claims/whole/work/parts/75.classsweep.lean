/-! sweep, swept -/
theorem GS_rows2 {σ s : Hp} {g kn n T T2 : Nat} {nb : Nat → Nat} {wk : Nat → Option Nat} (h : GS σ g kn nb n wk T) (hk : ∀ j, g ≤ j → j ≤ g + 21 → j ≠ g + 1 → j ≠ g + 7 → j ≠ g + 8 → s.2 j = σ.2 j) (hwk : ∀ i a, wk i = some a → s.2 a = σ.2 a) (hr : RKg s g nb T2) : GS s g kn nb n wk T2 := by
  obtain ⟨a1, a2, -, ⟨w, hl, nw, b1, b2, b3, b4⟩, a5⟩ := h
  refine ⟨a1.kp (hk _ (by omega) (by omega) (by omega) (by omega) (by omega)), a2.kp (hk _ (by omega) (by omega) (by omega) (by omega) (by omega)), hr, ⟨w, hl, nw, b1.kp (hk _ (by omega) (by omega) (by omega) (by omega) (by omega)), b2.kp (hk _ (by omega) (by omega) (by omega) (by omega) (by omega)), b3.kp (hk _ (by omega) (by omega) (by omega) (by omega) (by omega)), b4⟩, fun kd h hk3 h1 h3 => ?_⟩
  have := gix_lt hk3 h1 h3
  exact (a5 kd h hk3 h1 h3).kp (hk _ (by omega) (by omega) (by omega) (by omega) (by omega)) (fun a q => hwk _ a q)
theorem CSt.upSe {S : Ab} {σ s : Hp} {mk mk2 : Nat → Option Nat} {T T2 : Nat} {L : List Nat} (h : CSt S σ mk T) (f : fA L σ s) (hL : ∀ j ∈ L, (39 ≤ j ∧ j ≤ 42) ∨ j = 13 ∨ j = 19 ∨ j = 20 ∨ ∃ i, i ≤ 2 ∧ mk i = some j) (hmk : ∀ i, 2 < i → mk2 i = mk i) (hM : MKO mk2 s.1) (hG2 : MKG mk2 s.1) (hT : T ≤ T2) (hse : cSea S s mk2) (hr : RKg s 12 S.nb T2) : CSt S s mk2 T2 ∧ fK σ s := by
  obtain ⟨⟨a1, a2, a3, a4⟩, ⟨b1, b2, b3, b4⟩, ⟨d1, d2, d3, d4⟩, e1, e2, e3⟩ := h
  have hj : ∀ j, j < 104 → (j < 39 ∨ 42 < j) → j ≠ 13 → j ≠ 19 → j ≠ 20 → s.2 j = σ.2 j := fun j h1 h2 h3 h4 h5 => f.2 j (by omega) (fun z => by
    rcases hL j z with q | q | q | q | ⟨i, -, e⟩
    · omega
    · omega
    · omega
    · omega
    · have := (a2.1 i j e).1
      omega)
  have hk : ∀ a b, b ≤ 103 → (b < 13 ∨ 20 < a) → (b < 39 ∨ 42 < a) → kpR a b σ s := fun a b hb h1 h2 j g1 g2 => hj j (by omega) (by omega) (by omega) (by omega) (by omega)
  have hm : ∀ i0 i1, 2 < i0 → kpM mk i0 i1 σ s := fun i0 i1 hi => kpM.of f a2 (fun j hj => by
    rcases hL j hj with q | q | q | q | ⟨i, h1, e⟩
    · exact Or.inl (by omega)
    · exact Or.inl (by omega)
    · exact Or.inl (by omega)
    · exact Or.inl (by omega)
    · exact Or.inr ⟨i, by omega, e⟩)
  have e12 := hmk 12 (by omega)
  refine ⟨⟨⟨Nat.le_trans a1 f.1, hM, hG2, ?_⟩, ⟨b1.kp (hk _ _ (by omega) (by omega) (by omega)), b2.kp (hk _ _ (by omega) (by omega) (by omega)), b3.kp (hk _ _ (by omega) (by omega) (by omega)), b4.kp (hk _ _ (by omega) (by omega) (by omega))⟩, ⟨?_, d2.kp (hk _ _ (by omega) (by omega) (by omega)), d3.kp (hk _ _ (by omega) (by omega) (by omega)), hse⟩, e1.kp (hk _ _ (by omega) (by omega) (by omega)), e2.kp (hk _ _ (by omega) (by omega) (by omega)), ?_⟩, f.1, hk _ _ (by omega) (by omega) (by omega)⟩
  · have := a4.kp (hj 0 (by omega) (by omega) (by omega) (by omega) (by omega))
    unfold shF at this ⊢
    rw [e12]; exact this
  · have ew : wkG mk2 = wkG mk := funext fun i => by
      unfold wkG
      by_cases hi : i < 9
      · rw [if_pos hi, if_pos hi, hmk _ (by omega)]
      · rw [if_neg hi, if_neg hi]
    show GS s 12 5 S.nb S.n (wkG mk2) T2
    rw [ew]
    refine GS_rows2 d1 (fun j h1 h2 h3 h4 h5 => hj j (by omega) (by omega) h3 h4 h5) (fun i a q => ?_) hr
    have q : wkG mk i = some a := q
    unfold wkG at q
    by_cases hi : i < 9
    · rw [if_pos hi] at q; exact hm 3 11 (by omega) (3 + i) a (by omega) (by omega) q
    · rw [if_neg hi] at q; cases q
  · have q := cTri_T (e3.kp (s := s) (fun g hg => ?_) (hm _ _ (by omega))) hT
    · intro g hg
      rw [e12] at hg
      have ew : wk2 mk2 = wk2 mk := funext fun i => by
        unfold wk2
        by_cases hi : i < 9
        · rw [if_pos hi, if_pos hi, hmk _ (by omega)]
        · rw [if_neg hi, if_neg hi]
      rw [ew]
      exact q g hg
    · have hg1 := (a2.1 _ _ hg).1
      exact kpR.of f (a3.1 g hg).1 (fun j hj => by
        rcases hL j hj with q | q | q | q | ⟨i, h1, e⟩
        · omega
        · omega
        · omega
        · omega
        · exact (a3.1 g hg).2 i j (by omega) e)
/-- what a search leaves behind: the state, and what is known of the asked number -/
def SQ (S : Ab) (a z : Int32) (σ s : Hp) (mk : Nat → Option Nat) (T : Nat) : Prop := z = swF S.nb S.n a (fun _ k => nI k) ∧ fK σ s ∧ CSt S s mk T ∧ ∃ rd rn pa, SSx s S.nb S.n mk rd rn pa ∧ ∀ h, 1 ≤ h → h ≤ 2 → a = nI h → 0 < S.n → rd (h - 1) = true
theorem eX8_roundsC {G : Gx} {d : Nat} {S : Ab} {σ : Hp} {mk : Nat → Option Nat} {T : Nat} (hd : 5 ≤ d) (hV : AbV S) (hS : CSt S σ mk T) (hT0 : T + 23050 < 2 ^ 31) (a : Int32) : Cl G mX8_roundsOf d [.ref 39, .int a] σ 0 0 (pI fun z s => SQ S a z σ s mk (T + 23040)) ∨ (mk 0 = none ∧ Cl G mX8_roundsOf d [.ref 39, .int a] σ 3 46592 (pI fun z s => ∃ mk2, mk2 0 ≠ none ∧ SQ S a z σ s mk2 (T + 23040))) := by
  obtain ⟨hN, hNA⟩ := hS.2.1.2.1
  have hn := hV.1.1.1
  have hw := net_lt hV.1
  have hMK := hS.1.2.1
  have hMG := hS.1.2.2.1
  have hlo := hS.1.1
  obtain ⟨hT, hLR, t, l, hFS, ht⟩ := hS.2.2.1.1.2.2.1
  obtain ⟨rd, rn, pa, hSx⟩ := hS.2.2.1.2.2.2
  rcases hSx.2.2.2.2.1 with ⟨m0, m1, m2⟩ | ⟨ka, kq, kw, m0, m1, m2, -⟩
  · by_cases hnd : ∀ h, 1 ≤ h → h ≤ 2 → a = nI h → 0 < S.n → rd (h - 1) ≠ true → olF S.n (frN (h + 1) - frN h) (frN h) ≠ none
    · refine Or.inl (cl_post (eX8_roundsOf0 hd hV.1 hw hN hNA hT hLR hFS ht hT0 hSx m0 m1 m2 hnd) ?_)
      rintro v s ⟨z, rfl, hz, f, hr, rd2, rn2, pa2, hx, hq⟩
      obtain ⟨q1, q2⟩ := hS.upSe (T2 := T + 23040) (mk2 := mk) f.A (fun j hj => by
        simp only [List.mem_cons, List.not_mem_nil, or_false] at hj
        exact Or.inl (by omega)) (fun _ _ => rfl) (by rw [f.1]; exact hMK) (by rw [f.1]; exact hMG) (by omega) ⟨rd2, rn2, pa2, hx⟩ (by
        obtain ⟨r1, r2, t2, l2, r3, r4⟩ := hr
        exact ⟨r1, r2, t2, l2, r3, by omega⟩)
      exact ⟨z, rfl, hz, q2, q1, rd2, rn2, pa2, hx, hq⟩
    · obtain ⟨h, hh1, hh2, rfl, hn0, hrd, ho⟩ : ∃ h, 1 ≤ h ∧ h ≤ 2 ∧ a = nI h ∧ 0 < S.n ∧ rd (h - 1) ≠ true ∧ olF S.n (frN (h + 1) - frN h) (frN h) = none := Classical.byContradiction fun q => hnd fun h g1 g2 g3 g4 g5 g6 => q ⟨h, g1, g2, g3, g4, g5, g6⟩
      refine Or.inr ⟨m0, cl_post (eX8_roundsOf2 hd hV.1 hw hN hNA hT hLR hFS ht hT0 hSx hlo m0 m1 m2 hh1 hh2 hn0 hrd ho) ?_⟩
      rintro v s ⟨z, rfl, hz, f, hs, hr, rd2, rn2, pa2, hx, hq⟩
      have e3 : ∀ i, 2 < i → mk3 mk σ.1 i = mk i := fun i hi => by
        unfold mk3
        rw [va_up_ne _ _ (by omega), va_up_ne _ _ (by omega), va_up_ne _ _ (by omega)]
      have ea : ∀ i b, i ≤ 2 → mk3 mk σ.1 i = some b → σ.1 ≤ b := fun i b hi e => by
        rcases (show i = 0 ∨ i = 1 ∨ i = 2 by omega) with rfl | rfl | rfl <;> simp [mk3, va_up] at e <;> omega
      obtain ⟨q1, q2⟩ := hS.upSe (T2 := T + 23040) (mk2 := mk3 mk σ.1) f (fun j hj => by
        simp only [List.mem_cons, List.not_mem_nil, or_false] at hj
        omega) e3 (by rw [hs]; exact hMK.mk3 hlo) (by
        have e12 := e3 12 (by omega)
        refine ⟨fun g hg => ?_, fun e i hi => ?_, fun i hi => ?_⟩
        · rw [e12] at hg
          have hg2 := hMG.1 g hg
          refine ⟨by omega, fun i b hi e => ?_⟩
          by_cases q : i ≤ 2
          · have := ea i b q e
            omega
          · rw [e3 i (by omega)] at e
            exact hg2.2 i b hi e
        · rw [e12] at e
          rw [e3 i (by omega)]
          exact hMG.2.1 e i hi
        · rw [e3 i (by omega)]
          exact hMG.2.2 i hi) (by omega) ⟨rd2, rn2, pa2, hx⟩ hr
      exact ⟨z, rfl, mk3 mk σ.1, by simp [mk3, va_up], hz, q2, q1, rd2, rn2, pa2, hx, fun g g1 g2 e _ => by
        have : g = h := (nI_inj9 (by omega) (by omega) e).symm
        subst this; exact hq⟩
  · refine Or.inl (cl_post (eX8_roundsOf1 hd hV.1 hw hN hNA hT hLR hFS ht hT0 hSx m0 m1 m2 hMK) ?_)
    rintro v s ⟨z, rfl, hz, f, hr, rd2, rn2, pa2, hx, hq⟩
    obtain ⟨q1, q2⟩ := hS.upSe (T2 := T + 23040) (mk2 := mk) f.A (fun j hj => by
      simp only [List.mem_cons, List.not_mem_nil, or_false] at hj
      by_cases c1 : j = ka
      · exact Or.inr (Or.inr (Or.inr (Or.inr ⟨0, by omega, by rw [c1]; exact m0⟩)))
      · by_cases c2 : j = kq
        · exact Or.inr (Or.inr (Or.inr (Or.inr ⟨1, by omega, by rw [c2]; exact m1⟩)))
        · by_cases c3 : j = kw
          · exact Or.inr (Or.inr (Or.inr (Or.inr ⟨2, by omega, by rw [c3]; exact m2⟩)))
          · omega) (fun _ _ => rfl) (by rw [f.1]; exact hMK) (by rw [f.1]; exact hMG) (by omega) ⟨rd2, rn2, pa2, hx⟩ hr
    exact ⟨z, rfl, hz, q2, q1, rd2, rn2, pa2, hx, hq⟩
