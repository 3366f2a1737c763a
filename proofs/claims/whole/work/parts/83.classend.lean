/-! the script's acts: the parts of the state that don't speak of it stay -/
theorem CSt.scr {S S2 : Ab} {σ s : Hp} {mk : Nat → Option Nat} {T : Nat} (h : CSt S σ mk T) (f : fA [1, 2, 3, 4] σ s) (c : cScr S2 s) (e1 : S2.n = S.n) (e2 : S2.nb = S.nb) (e3 : S2.sc = S.sc) (e4 : S2.ps = S.ps) : CSt S2 s mk T ∧ fK σ s := by
  obtain ⟨⟨a1, a2, a3, a4⟩, ⟨b1, b2, b3, b4⟩, ⟨d1, d2, d3, d4⟩, g1, g2, g3⟩ := h
  have hm : ∀ i0 i1, kpM mk i0 i1 σ s := fun i0 i1 => kpM.of f a2 (fun j hj => Or.inl (by simp only [List.mem_cons, List.not_mem_nil, or_false] at hj; omega))
  have hk : ∀ a b, 4 < a → b ≤ 103 → kpR a b σ s := fun a b ha hb => kpR.of f (by omega) (fun j hj => by simp only [List.mem_cons, List.not_mem_nil, or_false] at hj; omega)
  have b2 := b2.kp (s := s) (hk 5 6 (by omega) (by omega))
  have b4 := b4.kp (s := s) (hk 9 11 (by omega) (by omega))
  have d1 := d1.kp (s := s) (hk 12 33 (by omega) (by omega)) (hm _ _)
  have d4 := d4.kp (s := s) (hk 39 42 (by omega) (by omega)) (hm _ _)
  have g1 := g1.kp (s := s) (hk 43 43 (by omega) (by omega))
  have g2 := g2.kp (s := s) (hk 44 82 (by omega) (by omega))
  unfold cNet at b2
  unfold cDis at b4
  unfold cGam at d1
  unfold cSea at d4
  unfold cSce at g1
  unfold cPas at g2
  rw [← e1, ← e2] at b2 b4 d1 d4
  rw [← e1, ← e3] at g1
  rw [← e4] at g2
  exact ⟨⟨⟨Nat.le_trans a1 f.1, a2.le f.1, ⟨fun g hg => ⟨Nat.lt_of_lt_of_le (a3.1 g hg).1 f.1, (a3.1 g hg).2⟩, a3.2⟩, a4.kp (f.2 0 (by omega) (by decide))⟩, ⟨c, b2, b3.kp (hk _ _ (by omega) (by omega)), b4⟩, ⟨d1, d2.kp (hk _ _ (by omega) (by omega)), d3.kp (hk _ _ (by omega) (by omega)), d4⟩, g1, g2, g3.kp (fun g hg => kpR.of f (a3.1 g hg).1 (fun j hj => Or.inl (by have := (a2.1 _ _ hg).1; simp only [List.mem_cons, List.not_mem_nil, or_false] at hj; omega))) (hm _ _)⟩, f.1, hk _ _ (by omega) (by omega)⟩
def Ab.cut (S : Ab) (k : Nat) : Ab := Ab.mk S.n S.nb S.sc k S.tp S.fk S.fp S.ps
noncomputable def Ab.endF (S : Ab) (w : Int32) : Ab := @ite _ (isP w (S.td + 1)) (Classical.propDecidable _) (S.cut w.toNatClampNeg) S
theorem vX11_end {G : Gx} {d : Nat} {σ : Hp} (hd : 0 ≤ d) {S : Ab} {mk : Nat → Option Nat} {T : Nat} (hV : AbV S) (hS : CSt S σ mk T) {w : Int32} : Cl G mX11_end d [.ref 0, .int w] σ 0 0 (pI fun r s => r = atP w (S.td + 1) (fun j => nI j) (-1) ∧ fK σ s ∧ CSt (S.endF w) s mk T) := by
  refine cl_of (by decide) (by simp [Value.category]) (Nat.le_of_ble_eq_true rfl) ?_
  show Wp G mX11_end d 0 [.ref 0, .int w] [] σ 0 0 _
  have hH := hS.1.2.2.2
  have htd := hV.2.2.1
  obtain ⟨⟨tk, fm, bh, hSc⟩, ⟨bs, hB, hb⟩, hX1, hX2⟩ := id hS.2.1.1
  refine wp_iload_n (atd dX11_end 0 rfl) rfl ?_
  refine wp_if_lt (tgt := 15) (atd dX11_end 1 rfl) (by decide) (fun c_1 => ?_) (fun c_1 => ?_)
  ·
    refine wp_iconst (v := -1) (atd dX11_end 7 rfl) (by decide) ?_
    refine wp_ireti (atd dX11_end 8 rfl) rfl ?_
    have hno : ¬ isP w (S.td + 1) := isP_lt0 c_1
    refine ⟨by unfold atP; rw [if_neg hno], fK.rf, ?_⟩
    rw [show S.endF w = S from if_neg hno]
    exact hS
  ·
    refine wp_iload_n (atd dX11_end 2 rfl) rfl ?_
    refine wp_aload_n (atd dX11_end 3 rfl) rfl rfl ?_
    refine wp_get fX11_10 (atd dX11_end 4 rfl) hH rfl ?_
    refine wp_get fX11_86 (atd dX11_end 5 rfl) hSc rfl ?_
    refine wp_icmp_le (tgt := 17) (atd dX11_end 6 rfl) (by decide) (fun c_12 => ?_) (fun c_12 => ?_)
    ·
      obtain ⟨j, hj, rfl⟩ : ∃ j, j < S.td + 1 ∧ w = nI j := by
        have h1 := c_1
        have h2 := c_12
        rw [Int32.lt_iff_toInt_lt, show (0 : Int32).toInt = 0 from by decide] at h1
        rw [Int32.le_iff_toInt_le, nI_toInt (by omega)] at h2
        exact isP_ofB ⟨by omega, by omega⟩
      refine wp_aload_n (atd dX11_end 9 rfl) rfl rfl ?_
      refine wp_get fX11_10 (atd dX11_end 10 rfl) hH rfl ?_
      refine wp_iload_n (atd dX11_end 11 rfl) rfl ?_
      refine wp_putX fX11_86 (atd dX11_end 12 rfl) hSc rfl (Nat.le_of_ble_eq_true rfl) (fun σ f_22 hSc => ?_)
      have hB := hB.fr f_22 (by first | decide | (simp only [List.mem_cons, List.not_mem_nil, or_false]; omega))
      have hX1 := hX1.fr f_22 (by first | decide | (simp only [List.mem_cons, List.not_mem_nil, or_false]; omega))
      have hX2 := hX2.fr f_22 (by first | decide | (simp only [List.mem_cons, List.not_mem_nil, or_false]; omega))
      refine wp_iload_n (atd dX11_end 13 rfl) rfl ?_
      refine wp_ireti (atd dX11_end 14 rfl) rfl ?_
      have hyes : isP (nI j) (S.td + 1) := (isP_nI (by omega)).mpr hj
      rw [show S.endF (nI j) = S.cut j from by unfold Ab.endF; rw [if_pos hyes, nI_clamp (by omega)]]
      obtain ⟨q1, q2⟩ := CSt.scr (S2 := S.cut j) hS (f_22.A.mono (by simp)) ⟨⟨tk, fm, bh, hSc⟩, ⟨bs, hB, fun k hk => hb k (by have hk : k < j := hk; omega)⟩, hX1, hX2⟩ rfl rfl rfl rfl
      exact ⟨by unfold atP; rw [if_pos hyes, nI_clamp (by omega)], q2, q1⟩
    ·
      refine wp_iconst (v := -1) (atd dX11_end 7 rfl) (by decide) ?_
      refine wp_ireti (atd dX11_end 8 rfl) rfl ?_
      have hno : ¬ isP w (S.td + 1) := fun z => c_12 (by rw [Int32.le_iff_toInt_le, nI_toInt (by omega)]; have := z.2; omega)
      refine ⟨by unfold atP; rw [if_neg hno], fK.rf, ?_⟩
      rw [show S.endF w = S from if_neg hno]
      exact hS
