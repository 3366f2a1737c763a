/-! steps of the class's state -/
theorem wp_le {G : Gx} {M : Md} {d pc : Nat} {L st : List Value} {σ : Hp} {mc ms mc2 ms2 : Nat} {Q : Option Value → Hp → Prop} (h1 : mc ≤ mc2) (h2 : ms ≤ ms2) (h : Wp G M d pc L st σ mc ms Q) : Wp G M d pc L st σ mc2 ms2 Q := by
  intro p l e R s m args below meth c A ad0 cm sm QQ a1 a2 a3 a4 ad ws ls cst H locs cells slots b1 b2 b3
  exact h p l e R s m args below meth c A ad0 cm sm QQ a1 a2 a3 a4 ad ws ls cst H locs cells slots b1 (by omega) (by omega)
/-- the reference's cells, and the law's own, are left alone -/
def fK (σ s : Hp) : Prop := σ.1 ≤ s.1 ∧ kpR 83 103 σ s
theorem fK.rf {σ : Hp} : fK σ σ := ⟨Nat.le_refl _, fun _ _ _ => rfl⟩
theorem fK.tr {σ s t : Hp} (a : fK σ s) (b : fK s t) : fK σ t := ⟨Nat.le_trans a.1 b.1, fun j h1 h2 => (b.2 j h1 h2).trans (a.2 j h1 h2)⟩
theorem fK.of {S : List Nat} {σ s : Hp} (f : fA S σ s) (h : 104 ≤ σ.1) (hS : ∀ j ∈ S, j < 83 ∨ 103 < j) : fK σ s := ⟨f.1, kpR.of f (by omega) hS⟩
section UpS
variable {S : Ab} {σ s : Hp} {mk : Nat → Option Nat} {T : Nat}
theorem CSt.upS {L : List Nat} (h : CSt S σ mk T) (f : fA L σ s) (hL : ∀ j ∈ L, 0 < j ∧ j < 83 := by decide)
    (c1 : upP L 1 4 (cScr S s) := by first | exact Or.inl (by decide) | exact Or.inr (by assumption))
    (c2 : upP L 5 6 (cNet S s) := by first | exact Or.inl (by decide) | exact Or.inr (by assumption))
    (c3 : upP L 7 8 (cDra s) := by first | exact Or.inl (by decide) | exact Or.inr (by assumption))
    (c4 : upP L 9 11 (cDis S s) := by first | exact Or.inl (by decide) | exact Or.inr (by assumption))
    (c5 : upP L 12 33 (cGam S s mk T) := by first | exact Or.inl (by decide) | exact Or.inr (by assumption))
    (c6 : upP L 34 36 (cSym s) := by first | exact Or.inl (by decide) | exact Or.inr (by assumption))
    (c7 : upP L 37 38 (cWat s) := by first | exact Or.inl (by decide) | exact Or.inr (by assumption))
    (c8 : upP L 39 42 (cSea S s mk) := by first | exact Or.inl (by decide) | exact Or.inr (by assumption))
    (c9 : upP L 43 43 (cSce S s) := by first | exact Or.inl (by decide) | exact Or.inr (by assumption))
    (c10 : upP L 44 82 (cPas S s) := by first | exact Or.inl (by decide) | exact Or.inr (by assumption)) : CSt S s mk T ∧ fK σ s := by
  obtain ⟨⟨a1, a2, a3, a4⟩, ⟨b1, b2, b3, b4⟩, ⟨d1, d2, d3, d4⟩, e1, e2, e3⟩ := h
  have hm : ∀ i0 i1, kpM mk i0 i1 σ s := fun i0 i1 => kpM.of f a2 (fun j hj => Or.inl (by have := hL j hj; omega))
  refine ⟨⟨⟨Nat.le_trans a1 f.1, a2.le f.1, ⟨fun g hg => ⟨Nat.lt_of_lt_of_le (a3.1 g hg).1 f.1, (a3.1 g hg).2⟩, a3.2⟩, a4.kp (f.2 0 (by omega) (fun z => by have := hL 0 z; omega))⟩, ⟨c1.elim (fun z => b1.kp (kpR.of f (by omega) z)) id, c2.elim (fun z => b2.kp (kpR.of f (by omega) z)) id, c3.elim (fun z => b3.kp (kpR.of f (by omega) z)) id, c4.elim (fun z => b4.kp (kpR.of f (by omega) z)) id⟩, ⟨c5.elim (fun z => d1.kp (kpR.of f (by omega) z) (hm _ _)) id, c6.elim (fun z => d2.kp (kpR.of f (by omega) z)) id, c7.elim (fun z => d3.kp (kpR.of f (by omega) z)) id, c8.elim (fun z => d4.kp (kpR.of f (by omega) z) (hm _ _)) id⟩, c9.elim (fun z => e1.kp (kpR.of f (by omega) z)) id, c10.elim (fun z => e2.kp (kpR.of f (by omega) z)) id, e3.kp (fun g hg => kpR.of f (a3.1 g hg).1 (fun j hj => Or.inl (by have := hL j hj; have := (a2.1 _ _ hg).1; omega))) (hm _ _)⟩, fK.of f a1 (fun j hj => Or.inl (hL j hj).2)⟩
/-- the net's going away, asked for -/
theorem eX0_settleC {G : Gx} {d : Nat} (hd : 3 ≤ d) (hV : AbV S) (hS : CSt S σ mk T) : Cl G mX0_settle d [.ref 9, .ref 5] σ 0 0 (pV fun s => CSt S s mk T ∧ fK σ s ∧ DC s 9 (nI 1) S.n (dis0 S.nb S.n)) := by
  obtain ⟨hNt, hNA⟩ := hS.2.1.2.1
  rcases hS.2.1.2.2.2 with h | ⟨D, t, c, h1, h2, h3⟩
  · refine cl_post (eX0_settle1 h) ?_
    rintro v s ⟨rfl, rfl⟩
    exact ⟨rfl, hS, fK.rf, h⟩
  · refine cl_post (eX0_settle0 hd hNt hNA hV.1.1.1 (net_lt hV.1) h1 h2 h3 (by omega)) ?_
    rintro v s ⟨rfl, f, h4⟩
    have h5 : cDis S s := Or.inl h4
    obtain ⟨q1, q2⟩ := hS.upS f.A
    exact ⟨rfl, q1, q2, h4⟩
end UpS
