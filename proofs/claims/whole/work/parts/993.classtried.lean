/-! the games of tried nets over the class's state -/
section UpT
variable {S : Ab} {σ s : Hp} {mk mk2 : Nat → Option Nat} {T T2 : Nat}
theorem CSt.upT {L : List Nat} (h : CSt S σ mk T) (f : fA L σ s) (hL : ∀ j ∈ L, j = 0 ∨ (∃ g, mk 12 = some g ∧ g ≤ j ∧ j ≤ g + 21) ∨ ∃ i, 13 ≤ i ∧ mk i = some j) (hmk : ∀ i, i < 12 → mk2 i = mk i) (hM : MKO mk2 s.1) (hG2 : MKG mk2 s.1) (hT : T ≤ T2) (hO : OB s 0 11 (shF mk2)) (ht : cTri s mk2 T2) : CSt S s mk2 T2 ∧ fK σ s := by
  obtain ⟨⟨a1, a2, a3, a4⟩, ⟨b1, b2, b3, b4⟩, ⟨d1, d2, d3, d4⟩, e1, e2, e3⟩ := h
  have hk : ∀ a b, 0 < a → b ≤ 103 → kpR a b σ s := fun a b ha hb => kpR.of f (by omega) (fun j hj => by
    rcases hL j hj with q | ⟨g, q, q1, q2⟩ | ⟨i, q, q1⟩
    · omega
    · have := (a2.1 12 g q).1; omega
    · have := (a2.1 i j q1).1; omega)
  have hm : ∀ i0 i1, i1 < 12 → kpM mk i0 i1 σ s := fun i0 i1 hi i a h1 h2 e => by
    have ha := a2.1 i a e
    refine f.2 a ha.2 (fun z => ?_)
    rcases hL a z with q | ⟨g, q, q1, q2⟩ | ⟨i2, q, q1⟩
    · omega
    · have := (a3.1 g q).2 i a (by omega) e; omega
    · have := a2.2 i i2 a e q1; omega
  refine ⟨⟨⟨Nat.le_trans a1 f.1, hM, hG2, hO⟩, ⟨b1.kp (hk _ _ (by omega) (by omega)), b2.kp (hk _ _ (by omega) (by omega)), b3.kp (hk _ _ (by omega) (by omega)), b4.kp (hk _ _ (by omega) (by omega))⟩, ⟨?_, d2.kp (hk _ _ (by omega) (by omega)), d3.kp (hk _ _ (by omega) (by omega)), ?_⟩, e1.kp (hk _ _ (by omega) (by omega)), e2.kp (hk _ _ (by omega) (by omega)), ht⟩, f.1, hk _ _ (by omega) (by omega)⟩
  · have q := GS.T (d1.kp (s := s) (hk _ _ (by omega) (by omega)) (hm _ _ (by omega))) hT
    unfold cGam
    rw [show (fun i => if i < 9 then mk2 (3 + i) else none) = (fun i => if i < 9 then mk (3 + i) else none) from funext fun i => by
      by_cases hi : i < 9
      · rw [if_pos hi, if_pos hi, hmk _ (by omega)]
      · rw [if_neg hi, if_neg hi]]
    exact q
  · obtain ⟨rd, rn, pa, q⟩ := d4.kp (s := s) (hk _ _ (by omega) (by omega)) (hm _ _ (by omega))
    refine ⟨rd, rn, pa, ?_⟩
    unfold SSx SM at q ⊢
    rw [hmk 0 (by omega), hmk 1 (by omega), hmk 2 (by omega)]
    exact q
theorem wk2_i {i : Nat} (hi : i < 9) : wk2 mk i = mk (13 + i) := by unfold wk2; rw [if_pos hi]
theorem wk2_ok {g : Nat} (hM : MKO mk σ.1) (hG : MKG mk σ.1) (hg : mk 12 = some g) : WKO (wk2 mk) g 7 σ.1 := by
  refine ⟨fun i a e => ?_, fun i j a e1 e2 => ?_⟩
  · by_cases hi : i < 9
    · rw [wk2_i hi] at e
      have h1 := hM.1 _ _ e
      have h2 := (hG.1 g hg).2 (13 + i) a (by omega) e
      exact ⟨h2, by omega, by omega, h1.2⟩
    · unfold wk2 at e; rw [if_neg hi] at e; cases e
  · by_cases hi : i < 9
    · by_cases hj : j < 9
      · rw [wk2_i hi] at e1; rw [wk2_i hj] at e2
        have := hM.2 _ _ _ e1 e2
        omega
      · unfold wk2 at e2; rw [if_neg hj] at e2; cases e2
    · unfold wk2 at e1; rw [if_neg hi] at e1; cases e1
/-- the tried net's games are learned anew -/
theorem eX2_renewT {G : Gx} {d g n : Nat} {nb : Nat → Nat} (hd : 2 ≤ d) (hS : CSt S σ mk T) (hg : mk 12 = some g) (hn : n ≤ 9) (hw : ∀ p, nb p < 512) (hDr : OB σ 7 3 [.int (nI n), .ref (7 + 1)]) (hDA : AI σ (7 + 1) 9 nb) : Cl G mX2_renew d [.ref g] σ 0 0 (pV fun s => fK σ s ∧ CSt S s mk T ∧ OB s 7 3 [.int (nI n), .ref (7 + 1)] ∧ AI s (7 + 1) 9 nb ∧ GS s g 7 nb n (wk2 mk) T) := by
  obtain ⟨n0, nb0, hGS⟩ := hS.2.2.2.2.2 g hg
  have hM := hS.1.2.1
  have hG := hS.1.2.2.1
  have h104 := (hM.1 _ _ hg).1
  refine cl_post (eX2_renew hd hn hw hDr hDA hGS (fun j a e => ((wk2_ok hM hG hg).1 j a e).1) (by omega)) ?_
  rintro v s ⟨rfl, f, hGS2⟩
  have hO : OB s 0 11 (shF mk) := hS.1.2.2.2.fr f (by simp only [List.mem_cons, List.not_mem_nil, or_false]; omega)
  obtain ⟨q1, q2⟩ := hS.upT (mk2 := mk) (T2 := T) f.A (fun j hj => Or.inr (Or.inl ⟨g, hg, by simp only [List.mem_cons, List.not_mem_nil, or_false] at hj; omega, by simp only [List.mem_cons, List.not_mem_nil, or_false] at hj; omega⟩)) (fun _ _ => rfl) (by rw [f.1]; exact hM) (by rw [f.1]; exact hG) (Nat.le_refl _) hO (fun g2 hg2 => by
    rw [hg] at hg2; injection hg2 with e; subst e
    exact ⟨n, nb, hGS2⟩)
  exact ⟨rfl, q2, q1, hDr.fr f (by simp only [List.mem_cons, List.not_mem_nil, or_false]; omega), hDA.fr f (by simp only [List.mem_cons, List.not_mem_nil, or_false]; omega), hGS2⟩
theorem frN_45 {h : Nat} (h1 : 1 ≤ h) (h2 : h ≤ 2) : frN (h + 1) - frN h ≤ 45 := by
  rcases (by omega : h = 1 ∨ h = 2) with rfl | rfl <;> decide
/-- a game of the tried net, its worths being there -/
theorem eX2_solvedT1 {G : Gx} {d g n kd h wa : Nat} {nb : Nat → Nat} (hd : 6 ≤ d) (hS : CSt S σ mk T) (hT0 : T + 245390 < 2 ^ 31) (hg : mk 12 = some g) (hNZ : isNetZ n nb) (hn1 : 1 ≤ n) (hDr : OB σ 7 3 [.int (nI n), .ref (7 + 1)]) (hDA : AI σ (7 + 1) 9 nb) (hGS : GS σ g 7 nb n (wk2 mk) T) (hkd : kd < 3) (hh1 : 1 ≤ h) (hh2 : h ≤ 2) (hwa : mk (13 + gix kd h) = some wa) : Cl G mX2_solved d [.ref g, .int (nI kd), .int (nI h)] σ 0 0 (pR fun r s => r = .ref (g + 13 + gix kd h) ∧ fK σ s ∧ CSt S s mk (T + 66870) ∧ OB s 7 3 [.int (nI n), .ref (7 + 1)] ∧ AI s (7 + 1) 9 nb ∧ (∃ F, OB s g 2 F) ∧ ∃ op tn rf hp, GMx s g nb n (wk2 mk) kd h true op tn rf hp) := by
  have hM := hS.1.2.1
  have hG := hS.1.2.2.1
  have h104 := (hM.1 _ _ hg).1
  have hlt := (hG.1 g hg).1
  have hix := gix_lt hkd hh1 (show h ≤ 3 by omega)
  have ha1 := hM.1 _ _ hwa
  have h45 := frN_45 hh1 hh2
  have h104s := hS.1.1
  have hwp := wX2_solved1 (G := G) (d := d) hd hNZ (net_lt hNZ) hn1 hDr hDA hGS (wk2_ok hM hG hg) hlt (by omega) (by omega) hT0 hkd hh1 (by omega) (wa := wa) (by rw [wk2_i hix]; exact hwa)
  refine cl_of (by decide) (by simp [Value.category]) (Nat.le_of_ble_eq_true rfl) (wp_post hwp ?_)
  rintro v s ⟨r, rfl, rfl, f, hGS2, hGx⟩
  have hO : OB s 0 11 (shF mk) := hS.1.2.2.2.fr f (by simp only [List.mem_cons, List.not_mem_nil, or_false]; omega)
  have hGS3 := GS.T (T2 := T + 66870) hGS2 (by omega)
  obtain ⟨q1, q2⟩ := hS.upT (mk2 := mk) (T2 := T + 66870) f.A (fun j hj => by
    simp only [List.mem_cons, List.not_mem_nil, or_false] at hj
    by_cases e : j = wa
    · exact Or.inr (Or.inr ⟨13 + gix kd h, by omega, by rw [e]; exact hwa⟩)
    · exact Or.inr (Or.inl ⟨g, hg, by omega, by omega⟩)) (fun _ _ => rfl) (by rw [f.1]; exact hM) (by rw [f.1]; exact hG) (by omega) hO (fun g2 hg2 => by
    rw [hg] at hg2; injection hg2 with e; subst e
    exact ⟨n, nb, hGS3⟩)
  exact ⟨_, rfl, rfl, q2, q1, hDr.fr f (by simp only [List.mem_cons, List.not_mem_nil, or_false]; omega), hDA.fr f (by simp only [List.mem_cons, List.not_mem_nil, or_false]; omega), ⟨_, hGS3.1⟩, hGx⟩
/-- a game of the tried net, its worths being made -/
theorem eX2_solvedT0 {G : Gx} {d g n kd h : Nat} {nb : Nat → Nat} (hd : 6 ≤ d) (hS : CSt S σ mk T) (hT0 : T + 245390 < 2 ^ 31) (hg : mk 12 = some g) (hNZ : isNetZ n nb) (hn1 : 1 ≤ n) (hDr : OB σ 7 3 [.int (nI n), .ref (7 + 1)]) (hDA : AI σ (7 + 1) 9 nb) (hGS : GS σ g 7 nb n (wk2 mk) T) (hkd : kd < 3) (hh1 : 1 ≤ h) (hh2 : h ≤ 2) (hwa : mk (13 + gix kd h) = none) : Cl G mX2_solved d [.ref g, .int (nI kd), .int (nI h)] σ 1 405 (pR fun r s => r = .ref (g + 13 + gix kd h) ∧ fK σ s ∧ ∃ mk2 wa, mk2 12 = some g ∧ mk2 (13 + gix kd h) = some wa ∧ (∀ i, i < 12 → mk2 i = mk i) ∧ CSt S s mk2 (T + 66870) ∧ OB s 7 3 [.int (nI n), .ref (7 + 1)] ∧ AI s (7 + 1) 9 nb ∧ (∃ F, OB s g 2 F) ∧ ∃ op tn rf hp, GMx s g nb n (wk2 mk2) kd h true op tn rf hp) := by
  have hM := hS.1.2.1
  have hG := hS.1.2.2.1
  have h104 := (hM.1 _ _ hg).1
  have hlt := (hG.1 g hg).1
  have hix := gix_lt hkd hh1 (show h ≤ 3 by omega)
  have h45 := frN_45 hh1 hh2
  have h104s := hS.1.1
  have hwp := wX2_solved0 (G := G) (d := d) hd hNZ (net_lt hNZ) hn1 hDr hDA hGS (wk2_ok hM hG hg) hlt (by omega) (by omega) hT0 hkd hh1 (by omega) (by rw [wk2_i hix]; exact hwa)
  refine cl_of (by decide) (by simp [Value.category]) (Nat.le_of_ble_eq_true rfl) (wp_le (Nat.le_refl _) (by omega) (wp_post hwp ?_))
  rintro v s ⟨r, rfl, rfl, f, hs1, hGS2, op, tn, rf, hp, hGx⟩
  have hO : OB s 0 11 (shF mk) := hS.1.2.2.2.fA f (by omega) (by simp only [List.mem_cons, List.not_mem_nil, or_false]; omega)
  have ew : wk2 (va_up mk (13 + gix kd h) (some σ.1)) = va_up (wk2 mk) (gix kd h) (some σ.1) := funext fun i => by
    unfold wk2 va_up
    by_cases hi : i < 9
    · rw [if_pos hi]
      by_cases e : i = gix kd h
      · rw [if_pos e, if_pos (by omega)]
      · rw [if_neg e, if_neg (by omega)]; exact (if_pos hi).symm
    · rw [if_neg hi, if_neg (by omega)]; exact (if_neg hi).symm
  have e12 : va_up mk (13 + gix kd h) (some σ.1) 12 = some g := by unfold va_up; rw [if_neg (by omega)]; exact hg
  have hGS3 : GS s g 7 nb n (wk2 (va_up mk (13 + gix kd h) (some σ.1))) (T + 66870) := by rw [ew]; exact GS.T hGS2 (by omega)
  have hM2 : MKO (va_up mk (13 + gix kd h) (some σ.1)) s.1 := by rw [hs1]; exact hM.add h104s
  have hG2 : MKG (va_up mk (13 + gix kd h) (some σ.1)) s.1 := by
    refine ⟨fun g2 hg2 => ?_, fun z => absurd (e12.symm.trans z) (by simp), fun i hi => ?_⟩
    · rw [e12] at hg2; injection hg2 with e; subst e
      refine ⟨by omega, fun i a hi ha => ?_⟩
      unfold va_up at ha
      by_cases e : i = 13 + gix kd h
      · rw [if_pos e] at ha; injection ha with ha; omega
      · rw [if_neg e] at ha; exact (hG.1 g hg).2 i a hi ha
    · unfold va_up; rw [if_neg (by omega)]; exact hG.2.2 i hi
  have hO2 : OB s 0 11 (shF (va_up mk (13 + gix kd h) (some σ.1))) := by
    unfold shF at hO ⊢
    rw [e12]; rw [hg] at hO; exact hO
  obtain ⟨q1, q2⟩ := hS.upT (mk2 := va_up mk (13 + gix kd h) (some σ.1)) (T2 := T + 66870) f (fun j hj => by
    simp only [List.mem_cons, List.not_mem_nil, or_false] at hj
    exact Or.inr (Or.inl ⟨g, hg, by omega, by omega⟩)) (fun i hi => by unfold va_up; rw [if_neg (by omega)]) hM2 hG2 (by omega) hO2 (fun g2 hg2 => by
    rw [e12] at hg2; injection hg2 with e; subst e
    exact ⟨n, nb, hGS3⟩)
  refine ⟨_, rfl, rfl, q2, va_up mk (13 + gix kd h) (some σ.1), σ.1, e12, by unfold va_up; rw [if_pos rfl], fun i hi => by unfold va_up; rw [if_neg (by omega)], q1, hDr.fA f (by omega) (by simp only [List.mem_cons, List.not_mem_nil, or_false]; omega), hDA.fA f (by omega) (by simp only [List.mem_cons, List.not_mem_nil, or_false]; omega), ⟨_, hGS3.1⟩, op, tn, rf, hp, ?_⟩
  rw [ew]; exact hGx
/-- the tried games are made -/
theorem CSt.mkT (h : CSt S σ mk T) {g : Nat} (hg0 : mk 12 = none) (hgσ : σ.1 = g) (hs1 : s.1 = g + 22) (f : fA [0] σ s) (hGS : GS s g 7 (fun _ => 0) 0 (fun _ => none) 0) (hO : OB s 0 11 (shF (va_up mk 12 (some g)))) : CSt S s (va_up mk 12 (some g)) T ∧ fK σ s := by
  have hM := h.1.2.1
  have hG := h.1.2.2.1
  have h104 := h.1.1
  have e12 : va_up mk 12 (some g) 12 = some g := by unfold va_up; rw [if_pos rfl]
  have hne : ∀ i, i ≠ 12 → va_up mk 12 (some g) i = mk i := fun i hi => by unfold va_up; rw [if_neg hi]
  have hw : wk2 (va_up mk 12 (some g)) = fun _ => none := funext fun i => by
    unfold wk2
    by_cases hi : i < 9
    · rw [if_pos hi, hne _ (by omega)]; exact hG.2.1 hg0 _ (by omega)
    · rw [if_neg hi]
  refine h.upT f (fun j hj => by simp only [List.mem_cons, List.not_mem_nil, or_false] at hj; exact Or.inl hj) (fun i hi => hne i (by omega)) ?_ ?_ (Nat.le_refl _) hO (fun g2 hg2 => ?_)
  · have := hM.add (j := 12) h104
    rw [hgσ] at this
    exact this.le (by omega)
  · refine ⟨fun g2 hg2 => ?_, fun z => absurd (e12.symm.trans z) (by simp), fun i hi => by rw [hne i (by omega)]; exact hG.2.2 i hi⟩
    rw [e12] at hg2; injection hg2 with e; subst e
    refine ⟨by omega, fun i a hi ha => ?_⟩
    rw [hne i hi] at ha
    have := (hM.1 i a ha).2
    omega
  · rw [e12] at hg2; injection hg2 with e; subst e
    exact ⟨0, fun _ => 0, by rw [hw]; exact GS.T hGS (Nat.zero_le _)⟩
end UpT
