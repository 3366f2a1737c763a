/-! the script's acts: the parts of the state that don't speak of it stay -/
theorem CSt.scr {S S2 : Ab} {σ s : Hp} {mk : Nat → Option Nat} {T : Nat} (h : CSt S σ mk T) (f : fA [1, 2, 3, 4] σ s) (c : cScr S2 s) (e1 : S2.n = S.n) (e2 : S2.nb = S.nb) (e3 : S2.sc = S.sc) (e4 : S2.ps = S.ps) : CSt S2 s mk T ∧ fK σ s := by
  obtain ⟨⟨a1, a2, a3, a4⟩, ⟨b1, b2, b3, b4⟩, ⟨d1, d2, d3, d4⟩, g1, g2, g3⟩ := h
  have hm : ∀ i0 i1, kpM mk i0 i1 σ s := fun i0 i1 => kpM.of f a2 (fun j hj => Or.inl (by simp only [List.mem_cons, List.not_mem_nil, or_false] at hj; omega))
  have hk : ∀ a b, 4 < a → b ≤ 103 → kpR a b σ s := fun a b ha hb => kpR.of f (by omega) (fun j hj => by simp only [List.mem_cons, List.not_mem_nil, or_false] at hj; omega)
  have b2 := b2.kp (s := s) (hk 5 6 (by omega) (by omega))
  have b4 := b4.kp (s := s) (hk 9 11 (by omega) (by omega))
  have d1 := d1.kp (s := s) (hk 12 33 (by omega) (by omega)) (hm _ _)
  have d4 := d4.kp (s := s) (hk 39 42 (by omega) (by omega)) (hm _ _)
  have g1 := g1.kp (s := s) (hk 43 43 (by omega) (by omega))
  have g2 := g2.kp (s := s) (hk 44 82 (by omega) (by omega))
  unfold cNet at b2
  unfold cDis at b4
  unfold cGam at d1
  unfold cSea at d4
  unfold cSce at g1
  unfold cPas at g2
  rw [← e1, ← e2] at b2 b4 d1 d4
  rw [← e1, ← e3] at g1
  rw [← e4] at g2
  exact ⟨⟨⟨Nat.le_trans a1 f.1, a2.le f.1, ⟨fun g hg => ⟨Nat.lt_of_lt_of_le (a3.1 g hg).1 f.1, (a3.1 g hg).2⟩, a3.2⟩, a4.kp (f.2 0 (by omega) (by decide))⟩, ⟨c, b2, b3.kp (hk _ _ (by omega) (by omega)), b4⟩, ⟨d1, d2.kp (hk _ _ (by omega) (by omega)), d3.kp (hk _ _ (by omega) (by omega)), d4⟩, g1, g2, g3.kp (fun g hg => kpR.of f (a3.1 g hg).1 (fun j hj => Or.inl (by have := (a2.1 _ _ hg).1; simp only [List.mem_cons, List.not_mem_nil, or_false] at hj; omega))) (hm _ _)⟩, f.1, hk _ _ (by omega) (by omega)⟩
def Ab.cut (S : Ab) (k : Nat) : Ab := Ab.mk S.n S.nb S.sc k S.tp S.fk S.fp S.ps
noncomputable def Ab.endF (S : Ab) (w : Int32) : Ab := @ite _ (isP w (S.td + 1)) (Classical.propDecidable _) (S.cut w.toNatClampNeg) S
