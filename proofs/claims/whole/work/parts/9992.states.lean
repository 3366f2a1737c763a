/-! the states after acts are states -/
section Vs
variable {S : Ab}
theorem end_V (hV : AbV S) (w : Int32) : AbV (S.endF w) := by
  unfold Ab.endF
  by_cases h : isP w (S.td + 1)
  · rw [if_pos h]
    obtain ⟨j, hj, rfl⟩ := isP_ofB h
    have := hV.2.2.1
    exact ⟨hV.1, hV.2.1, by show (nI j).toNatClampNeg ≤ 600; rw [nI_clamp (by omega)]; omega, hV.2.2.2⟩
  · rw [if_neg h]; exact hV
theorem begin_V (hV : AbV S) (k a b c r : Int32) : AbV (S.beginF k a b c r) := by
  have hn := hV.1.1.1
  unfold Ab.beginF
  cases hx : bgn S.n k a b c r with
  | none => exact hV
  | some x =>
    refine act_V hV ?_
    unfold bgn at hx
    by_cases hk : isP k 3
    · rw [if_pos hk] at hx
      cases ht : tlF S.n a b c with
      | none => rw [ht] at hx; cases hx
      | some y =>
        rw [ht] at hx
        have hx : (if isP r S.n then some (k.toNatClampNeg, y.1, y.2, r.toNatClampNeg) else none) = some x := hx
        by_cases hr : isP r S.n
        · rw [if_pos hr] at hx
          cases hx
          obtain ⟨t1, t2, t3, t4⟩ := tl_ok (h := y.1) (ρ := y.2) hn ht
          obtain ⟨j, hj, rfl⟩ := isP_ofB hk
          obtain ⟨q, hq, rfl⟩ := isP_of hn hr
          refine ⟨?_, t1, t2, t4, ?_, Nat.zero_le 1⟩
          · show (nI j).toNatClampNeg < 3; rw [nI_clamp (by omega)]; exact hj
          · show (nI q).toNatClampNeg < S.n; rw [nI_clamp (by omega)]; exact hq
        · rw [if_neg hr] at hx; cases hx
    · rw [if_neg hk] at hx; cases hx
theorem run_V (hV : AbV S) (u : Int32) : AbV (S.runF u) := by
  have hn := hV.1.1.1
  unfold Ab.runF
  cases hs : S.sc with
  | none => exact hV
  | some s =>
    have hsv := hV.2.1
    rw [hs] at hsv
    show AbV (@ite _ (rnOk S.nb S.n s.kd s.h s.ρ s.p s.t u) (Classical.propDecidable _) (S.act (some (Scn.mk s.kd s.h s.ρ u.toNatClampNeg 0 s.b))) S)
    by_cases h : rnOk S.nb S.n s.kd s.h s.ρ s.p s.t u
    · rw [if_pos h]
      obtain ⟨q, hq, rfl⟩ := isP_of hn h.2.2.1
      refine act_V hV ⟨hsv.1, hsv.2.1, hsv.2.2.1, hsv.2.2.2.1, ?_, Nat.zero_le 1⟩
      show (nI q).toNatClampNeg < S.n
      rw [nI_clamp (by omega)]; exact hq
    · rw [if_neg h]; exact hV
theorem hunt_V (hV : AbV S) (x y z : Int32) : AbV (S.huntF x y z) := by
  have hn := hV.1.1.1
  unfold Ab.huntF
  cases hs : S.sc with
  | none => exact hV
  | some s =>
    have hsv := hV.2.1
    rw [hs] at hsv
    show AbV (match htR S.nb S.n s.kd s.h s.ρ s.p s.t x y z with
    | none => S
    | some ρ2 => S.act (some (Scn.mk s.kd s.h ρ2 s.p 1 (s.b + nI 1))))
    cases hx : htR S.nb S.n s.kd s.h s.ρ s.p s.t x y z with
    | none => exact hV
    | some ρ2 =>
      refine act_V hV ⟨hsv.1, hsv.2.1, hsv.2.2.1, ?_, hsv.2.2.2.2.1, Nat.le_refl 1⟩
      unfold htR at hx
      by_cases c : (std s.h s.ρ).testBit s.p = true ∨ s.t = 1
      · rw [if_pos c] at hx; cases hx
      · rw [if_neg c] at hx
        cases ht : tlF S.n x y z with
        | none => rw [ht] at hx; cases hx
        | some w =>
          rw [ht] at hx
          have hx : (if w.1 = s.h ∧ cms S.nb s.h s.kd s.ρ w.2 = true then some w.2 else none) = some ρ2 := hx
          by_cases c2 : w.1 = s.h ∧ cms S.nb s.h s.kd s.ρ w.2 = true
          · rw [if_pos c2] at hx
            cases hx
            obtain ⟨t1, t2, t3, t4⟩ := tl_ok (h := w.1) (ρ := w.2) hn ht
            rw [c2.1] at t4
            exact t4
          · rw [if_neg c2] at hx; cases hx
theorem plS_V {nb : Nat → Nat} {n kd h : Nat} (hN : isNet n nb) (h3 : h ≤ 3) : ∀ (f : Nat) (s : Pos) (k : Nat), PosV n h s → PosV n h (plS nb n kd h f s k).1
  | 0, s, k, hs => hs
  | f + 1, s, k, hs => by
    have hn := hN.1
    show PosV n h (if (std h s.1).testBit s.2.1 = true then (s, k) else plS nb n kd h f (plT nb n kd h s) (k + 1)).1
    by_cases c : (std h s.1).testBit s.2.1 = true
    · rw [if_pos c]; exact hs
    · rw [if_neg c]
      refine plS_V hN h3 f _ _ ?_
      unfold plT
      by_cases ht : s.2.2.1 = 0
      · rw [if_pos ht]
        have hix := rwi_lt hs.1
        have hex : ∃ x, x < (rowsL h n).length ∧ cgF nb h kd (rowsL h n) (rwi (rowsL h n) s.1) x = true := ⟨_, hix, cms_rf h3 hN.2.2.1 (rowsL_in hn h3 _ hix)⟩
        exact ⟨rowAt_mem (brF_lt hex), hs.2.1, Nat.le_refl 1⟩
      · rw [if_neg ht]
        obtain ⟨x, hx1, hx2, hx3⟩ := bpF_ex (w := slvF nb n h kd (rwi (rowsL h n) s.1)) (n := n) hs.2.1 (rns_self hN (kd := kd) (hs := std h s.1) hs.2.1)
        refine ⟨hs.1, ?_, Nat.zero_le 1⟩
        show (bpF (slvF nb n h kd (rwi (rowsL h n) s.1)) (rns nb n kd (std h s.1) s.2.1) n).getD 0 < n
        rw [hx1]; exact hx2
theorem play_V (hV : AbV S) (u : Int32) : AbV (S.playF u) := by
  unfold Ab.playF
  cases hs : S.sc with
  | none => exact hV
  | some s =>
    have hsv := hV.2.1
    rw [hs] at hsv
    show AbV (@ite _ (plOk s u) (Classical.propDecidable _) (S.act (some (Scn.mk s.kd s.h (plE S s u).1.1 (plE S s u).1.2.1 (plE S s u).1.2.2.1 (plE S s u).1.2.2.2))) S)
    by_cases h : plOk s u
    · rw [if_pos h]
      have hp := plS_V (kd := s.kd) hV.1.1 hsv.2.2.1 u.toNatClampNeg (s.ρ, s.p, s.t, s.b) 0 ⟨hsv.2.2.2.1, hsv.2.2.2.2.1, hsv.2.2.2.2.2⟩
      exact act_V hV ⟨hsv.1, hsv.2.1, hsv.2.2.1, hp.1, hp.2.1, hp.2.2⟩
    · rw [if_neg h]; exact hV
theorem tog_V (hV : AbV S) (a b : Int32) : AbV (S.togF a b) := by
  have hn := hV.1.1.1
  unfold Ab.togF
  by_cases h : tgOk S.n a b
  · rw [if_pos h]
    obtain ⟨h1, h2, h3⟩ := h
    obtain ⟨j, hj, rfl⟩ := isP_of hn h1
    obtain ⟨k, hk, rfl⟩ := isP_of hn h2
    rw [nI_clamp (by omega), nI_clamp (by omega)]
    exact nnet_V hV (nbt_netZ hV.1 hj hk (fun e => h3 (by rw [e])))
  · rw [if_neg h]; exact hV
end Vs
