/-! a game asked for, over the class's state -/
def wkG (mk : Nat → Option Nat) : Nat → Option Nat := fun i => if i < 9 then mk (3 + i) else none
section UpG
variable {S : Ab} {σ s : Hp} {mk mk2 : Nat → Option Nat} {T T2 : Nat}
theorem cTri_T (h : cTri σ mk T) (hT : T ≤ T2) : cTri σ mk T2 := fun g hg => by
  obtain ⟨n0, nb0, q⟩ := h g hg
  exact ⟨n0, nb0, q.T hT⟩
theorem CSt.upG {L : List Nat} (h : CSt S σ mk T) (f : fA L σ s) (hL : ∀ j ∈ L, (12 ≤ j ∧ j ≤ 33) ∨ ∃ i, 3 ≤ i ∧ i ≤ 11 ∧ mk i = some j) (hmk : ∀ i, (i < 3 ∨ 11 < i) → mk2 i = mk i) (hM : MKO mk2 s.1) (hG2 : MKG mk2 s.1) (hT : T ≤ T2) (hg : cGam S s mk2 T2) : CSt S s mk2 T2 ∧ fK σ s := by
  obtain ⟨⟨a1, a2, a3, a4⟩, ⟨b1, b2, b3, b4⟩, ⟨d1, d2, d3, d4⟩, e1, e2, e3⟩ := h
  have hk : ∀ a b, b ≤ 103 → (b < 12 ∨ 33 < a) → kpR a b σ s := fun a b hb hab => kpR.of f (by omega) (fun j hj => by
    rcases hL j hj with q | ⟨i, -, -, e⟩
    · omega
    · have := (a2.1 i j e).1
      omega)
  have hm : ∀ i0 i1, (i1 < 3 ∨ 11 < i0) → kpM mk i0 i1 σ s := fun i0 i1 hi => kpM.of f a2 (fun j hj => by
    rcases hL j hj with q | ⟨i, i1, i2, e⟩
    · exact Or.inl (by omega)
    · exact Or.inr ⟨i, by omega, e⟩)
  have e12 := hmk 12 (by omega)
  refine ⟨⟨⟨Nat.le_trans a1 f.1, hM, hG2, ?_⟩, ⟨b1.kp (hk _ _ (by omega) (by omega)), b2.kp (hk _ _ (by omega) (by omega)), b3.kp (hk _ _ (by omega) (by omega)), b4.kp (hk _ _ (by omega) (by omega))⟩, ⟨hg, d2.kp (hk _ _ (by omega) (by omega)), d3.kp (hk _ _ (by omega) (by omega)), ?_⟩, e1.kp (hk _ _ (by omega) (by omega)), e2.kp (hk _ _ (by omega) (by omega)), ?_⟩, f.1, hk _ _ (by omega) (by omega)⟩
  · have := a4.kp (hk 0 0 (by omega) (by omega) 0 (by omega) (by omega))
    unfold shF at this ⊢
    rw [e12]; exact this
  · obtain ⟨rd, rn, pa, q⟩ := d4.kp (s := s) (hk _ _ (by omega) (by omega)) (hm _ _ (by omega))
    refine ⟨rd, rn, pa, ?_⟩
    unfold SSx SM at q ⊢
    rw [hmk 0 (by omega), hmk 1 (by omega), hmk 2 (by omega)]
    exact q
  · have q := cTri_T (e3.kp (s := s) (fun g hg => ?_) (hm _ _ (by omega))) hT
    · intro g hg
      rw [e12] at hg
      have ew : wk2 mk2 = wk2 mk := funext fun i => by
        unfold wk2
        by_cases hi : i < 9
        · rw [if_pos hi, if_pos hi, hmk _ (by omega)]
        · rw [if_neg hi, if_neg hi]
      rw [ew]
      exact q g hg
    · have hg1 := (a2.1 _ _ hg).1
      exact kpR.of f (a3.1 g hg).1 (fun j hj => by
        rcases hL j hj with q | ⟨i, i1, i2, e⟩
        · omega
        · exact (a3.1 g hg).2 i j (by omega) e)
theorem wkG_ok (h : MKO mk σ.1) : WKO (wkG mk) 12 5 σ.1 := by
  have hx : ∀ i a, wkG mk i = some a → i < 9 ∧ mk (3 + i) = some a := fun i a e => by
    unfold wkG at e
    by_cases hi : i < 9
    · rw [if_pos hi] at e; exact ⟨hi, e⟩
    · rw [if_neg hi] at e; cases e
  refine ⟨fun i a e => ?_, fun i j a e e2 => ?_⟩
  · have := h.1 _ a (hx i a e).2
    exact ⟨by omega, by omega, by omega, by omega⟩
  · have := h.2 _ _ a (hx i a e).2 (hx j a e2).2
    omega
/-- what asking for a game comes to -/
def GAns (S : Ab) (a b : Int32) (r : Value) (s : Hp) (mk : Nat → Option Nat) : Prop := (¬ isG a b S.n ∧ r = .null) ∨ ∃ kd h, a = nI kd ∧ b = nI h ∧ kd < 3 ∧ 1 ≤ h ∧ h ≤ 3 ∧ 0 < S.n ∧ r = .ref (12 + 13 + gix kd h) ∧ ∃ op tn rf hp, GMx s 12 S.nb S.n (wkG mk) kd h true op tn rf hp
theorem eX2_solvedC {G : Gx} {d : Nat} (hd : 6 ≤ d) (hV : AbV S) (hS : CSt S σ mk T) (hT0 : T + 245390 < 2 ^ 31) {a b : Int32} : Cl G mX2_solved d [.ref 12, .int a, .int b] σ 1 1485 (pR fun r s => fK σ s ∧ ∃ mk2, mk2 0 = mk 0 ∧ CSt S s mk2 (T + 245190) ∧ GAns S a b r s mk2) := by
  refine cl_of (by decide) (by simp [Value.category]) (Nat.le_of_ble_eq_true rfl) ?_
  show Wp G mX2_solved d 0 [.ref 12, .int a, .int b, .double 0, .double 0] [] σ 1 1485 _
  obtain ⟨hN, hNA⟩ := hS.2.1.2.1
  have hn := hV.1.1.1
  have hw := net_lt hV.1
  have hGS : GS σ 12 5 S.nb S.n (wkG mk) T := hS.2.2.1.1
  have hMK := hS.1.2.1
  have hMG := hS.1.2.2.1
  have hlo := hS.1.1
  by_cases hG : isG a b S.n
  · obtain ⟨kd, hkd, rfl⟩ := isP_ofB hG.1
    obtain ⟨h, hh1, hh3, rfl⟩ := isH_of hG.2.1
    have hn0 := hG.2.2
    have hix := gix_lt hkd hh1 hh3
    have ex : wkG mk (gix kd h) = mk (3 + gix kd h) := if_pos hix
    have h165 : frN (h + 1) - frN h ≤ 165 := by rcases (show h = 1 ∨ h = 2 ∨ h = 3 by omega) with rfl | rfl | rfl <;> decide
    cases hwa : wkG mk (gix kd h) with
    | some wa =>
      refine wp_le (Nat.zero_le _) (Nat.zero_le _) (wp_post (wX2_solved1 hd hV.1 hw hn0 hN hNA hGS (wkG_ok hMK) (by omega) (by omega) (by omega) hT0 hkd hh1 hh3 hwa) ?_)
      rintro v s ⟨r, rfl, hr, f, hg, hm⟩
      obtain ⟨q1, q2⟩ := hS.upG (T2 := T + 245190) (mk2 := mk) f.A (fun j hj => by
        simp only [List.mem_cons, List.not_mem_nil, or_false] at hj
        by_cases e : j = wa
        · exact Or.inr ⟨3 + gix kd h, by omega, by omega, by rw [e, ← ex, hwa]⟩
        · exact Or.inl (by omega)) (fun _ _ => rfl) (by rw [f.1]; exact hMK) (by rw [f.1]; exact hMG) (by omega) (hg.T (by omega))
      exact ⟨r, rfl, q2, mk, rfl, q1, Or.inr ⟨kd, h, rfl, rfl, hkd, hh1, hh3, hn0, hr, hm⟩⟩
    | none =>
      refine wp_le (Nat.le_refl _) (by omega) (wp_post (wX2_solved0 hd hV.1 hw hn0 hN hNA hGS (wkG_ok hMK) (by omega) (by omega) (by omega) hT0 hkd hh1 hh3 hwa) ?_)
      rintro v s ⟨r, rfl, hr, f, hs, hg, hm⟩
      have ew : va_up (wkG mk) (gix kd h) (some σ.1) = wkG (va_up mk (3 + gix kd h) (some σ.1)) := funext fun i => by
        unfold wkG
        by_cases e : i = gix kd h
        · subst e; simp [va_up, hix]
        · have : 3 + i ≠ 3 + gix kd h := by omega
          simp only [va_up, if_neg e, if_neg this]
      rw [ew] at hg hm
      obtain ⟨q1, q2⟩ := hS.upG (T2 := T + 245190) (mk2 := va_up mk (3 + gix kd h) (some σ.1)) f (fun j hj => by
        simp only [List.mem_cons, List.not_mem_nil, or_false] at hj
        exact Or.inl (by omega)) (fun i hi => va_up_ne mk _ (by omega)) (by rw [hs]; exact hMK.add hlo) (by
        have e12 : va_up mk (3 + gix kd h) (some σ.1) 12 = mk 12 := va_up_ne mk _ (by omega)
        refine ⟨fun g hg => ?_, fun e i hi => ?_, fun i hi => ?_⟩
        · rw [e12] at hg
          refine ⟨by have := (hMG.1 g hg).1; omega, fun i a hi e => ?_⟩
          by_cases q : i = 3 + gix kd h
          · subst q
            simp [va_up] at e
            have := (hMG.1 g hg).1
            omega
          · rw [va_up_ne mk _ q] at e
            exact (hMG.1 g hg).2 i a hi e
        · rw [e12] at e
          rw [va_up_ne mk _ (by omega)]
          exact hMG.2.1 e i hi
        · rw [va_up_ne mk _ (by omega)]
          exact hMG.2.2 i hi) (by omega) (hg.T (by omega))
      exact ⟨r, rfl, q2, _, va_up_ne mk _ (by omega), q1, Or.inr ⟨kd, h, rfl, rfl, hkd, hh1, hh3, hn0, hr, hm⟩⟩
  · refine wp_le (Nat.zero_le _) (Nat.zero_le _) (wp_post (wX2_solvedN (by omega) hn hGS.1 hN hG) ?_)
    rintro v s ⟨r, rfl, hr, rfl⟩
    have : CSt S s mk (T + 245190) := by
      obtain ⟨a, b, ⟨c1, c2⟩, d1, d2, d3⟩ := hS
      exact ⟨a, b, ⟨GS.T c1 (by omega), c2⟩, d1, d2, cTri_T d3 (by omega)⟩
    exact ⟨r, rfl, fK.rf, mk, rfl, this, Or.inl ⟨hG, hr⟩⟩
end UpG
