/-! THE CLASS'S STATE for an abstract state -/
section Kp
variable {σ s : Hp} {k L : Nat}
theorem OB.kp {ci : Nat} {fs : List Value} (h : OB σ k ci fs) (e : s.2 k = σ.2 k) : OB s k ci fs := e.trans h
theorem AI.kp {g : Nat → Nat} (h : AI σ k L g) (e : s.2 k = σ.2 k) : AI s k L g := by obtain ⟨f, h1, h2⟩ := h; exact ⟨f, e.trans h1, h2⟩
theorem AO.kp {g : Nat → Option Nat} (h : AO σ k L g) (e : s.2 k = σ.2 k) : AO s k L g := by obtain ⟨f, h1, h2⟩ := h; exact ⟨f, e.trans h1, h2⟩
theorem AB.kp {g : Nat → Bool} (h : AB σ k L g) (e : s.2 k = σ.2 k) : AB s k L g := by obtain ⟨f, h1, h2⟩ := h; exact ⟨f, e.trans h1, h2⟩
theorem AX.kp (h : AX σ k L) (e : s.2 k = σ.2 k) : AX s k L := by obtain ⟨f, h1⟩ := h; exact ⟨f, e.trans h1⟩
theorem AR.kp {t : Nat} {g : Nat → Nat} (h : AR σ k t L g) (e : s.2 k = σ.2 k) : AR s k t L g := by obtain ⟨f, h1, h2⟩ := h; exact ⟨f, e.trans h1, h2⟩
end Kp
/-- nothing is changed from a to b -/
def kpR (a b : Nat) (σ s : Hp) : Prop := ∀ j, a ≤ j → j ≤ b → s.2 j = σ.2 j
theorem kpR.of {a b : Nat} {S : List Nat} {σ s : Hp} (f : fA S σ s) (hb : b < σ.1) (hS : ∀ j ∈ S, j < a ∨ b < j) : kpR a b σ s := fun j h1 h2 => f.2 j (by omega) (fun z => by have := hS j z; omega)
theorem kpR.sub {a b a2 b2 : Nat} {σ s : Hp} (h : kpR a b σ s) (h1 : a ≤ a2) (h2 : b2 ≤ b) : kpR a2 b2 σ s := fun j h3 h4 => h j (by omega) (by omega)
def kpM (mk : Nat → Option Nat) (i0 i1 : Nat) (σ s : Hp) : Prop := ∀ i a, i0 ≤ i → i ≤ i1 → mk i = some a → s.2 a = σ.2 a
theorem kpM.of {mk : Nat → Option Nat} {i0 i1 : Nat} {S : List Nat} {σ s : Hp} (f : fA S σ s) (hM : MKO mk σ.1) (hS : ∀ j ∈ S, j < 104 ∨ ∃ i, (i < i0 ∨ i1 < i) ∧ mk i = some j) : kpM mk i0 i1 σ s := fun i a h1 h2 e => by
  have := hM.1 i a e
  refine f.2 a this.2 (fun z => ?_)
  rcases hS a z with q | ⟨i2, q, e2⟩
  · omega
  · have := hM.2 i i2 a e e2
    omega
def shF (mk : Nat → Option Nat) : List Value := [.ref 1, .ref 5, .ref 7, .ref 9, .ref 12, .ref 34, .ref 37, .ref 39, .ref 43, .ref 44, rv (mk 12)]
def cScr (S : Ab) (σ : Hp) : Prop := (∃ tk fm bh : Int32, OB σ 1 7 [.ref 2, .int (nI S.td), .int (nI S.fk), .int (oI S.fp), .int tk, .int fm, .int bh, .ref 3, .ref 4]) ∧ (∃ bs, AI σ 2 600 bs ∧ ∀ k, k < S.td → bs k = S.tp k) ∧ AX σ 3 9 ∧ AX σ 4 9
def cNet (S : Ab) (σ : Hp) : Prop := OB σ 5 3 [.int (nI S.n), .ref (5 + 1)] ∧ AI σ (5 + 1) 9 S.nb
def cDra (σ : Hp) : Prop := ∃ n nb, n ≤ 9 ∧ (∀ p, nb p < 512) ∧ OB σ 7 3 [.int (nI n), .ref (7 + 1)] ∧ AI σ (7 + 1) 9 nb
def cDis (S : Ab) (σ : Hp) : Prop := DC σ 9 (nI 1) S.n (dis0 S.nb S.n) ∨ ∃ D t c, OB σ 9 0 (diF 9 (nI 0) D) ∧ AI σ (9 + 1) 9 t ∧ AI σ (9 + 2) 9 c
def cGam (S : Ab) (σ : Hp) (mk : Nat → Option Nat) (T : Nat) : Prop := GS σ 12 5 S.nb S.n (fun i => if i < 9 then mk (3 + i) else none) T
def cSym (σ : Hp) : Prop := OB σ 34 9 [.ref (34 + 1), .ref (34 + 2)] ∧ ∃ od nu, AI σ (34 + 1) 9 od ∧ AI σ (34 + 2) 9 nu ∧ (∀ j, od j < 9) ∧ ∀ j, nu j < 9
def cWat (σ : Hp) : Prop := OB σ 37 10 [.ref (37 + 1)] ∧ ∃ kp, AI σ (37 + 1) 9 kp
def cSea (S : Ab) (σ : Hp) (mk : Nat → Option Nat) : Prop := ∃ rd rn pa, SSx σ S.nb S.n mk rd rn pa
/-- a scene in the class's cells: on, kind, row, runner, whose turn, rounds -/
def ScC (n : Nat) (c : Nat → Int32) : Option Scn → Prop
  | none => c 0 = nI 0
  | some s => c 0 = nI 1 ∧ c 1 = nI s.kd ∧ c 2 = nI (xi s.h n (rwi (rowsL s.h n) s.ρ)) ∧ c 3 = nI s.p ∧ c 4 = nI s.t ∧ c 5 = s.b
def cSce (S : Ab) (σ : Hp) : Prop := ∃ c, OB σ 43 6 (scF c) ∧ scZ c ∧ ScC S.n c S.sc
def cPas (S : Ab) (σ : Hp) : Prop := ∃ nx N NB C, nx < 12 ∧ OB σ 44 4 (paF 44 S.ps.length nx) ∧ AR σ (44 + 1) 3 12 (fun i => 44 + 3 + 3 * i) ∧ AR σ (44 + 2) 4 12 (fun i => 44 + 3 + 3 * i + 2) ∧ PaS σ 44 N NB C ∧ (∀ i, i < 12 → scZ (C i)) ∧ ∀ i r, S.ps[i]? = some r → N ((nx + 12 - S.ps.length + i) % 12) = r.n ∧ (∀ p, p < 9 → NB ((nx + 12 - S.ps.length + i) % 12) p = r.nb p) ∧ ScC r.n (C ((nx + 12 - S.ps.length + i) % 12)) r.sc
def wk2 (mk : Nat → Option Nat) : Nat → Option Nat := fun i => if i < 9 then mk (13 + i) else none
def cTri (σ : Hp) (mk : Nat → Option Nat) (T : Nat) : Prop := ∀ g, mk 12 = some g → ∃ n0 nb0, GS σ g 7 nb0 n0 (wk2 mk) T
/-- games of tried nets have cells of their own -/
def MKG (mk : Nat → Option Nat) (m : Nat) : Prop := (∀ g, mk 12 = some g → g + 21 < m ∧ ∀ i a, i ≠ 12 → mk i = some a → a < g ∨ g + 21 < a) ∧ (mk 12 = none → ∀ i, 13 ≤ i → mk i = none) ∧ ∀ i, 22 ≤ i → mk i = none
def CSt (S : Ab) (σ : Hp) (mk : Nat → Option Nat) (T : Nat) : Prop := (104 ≤ σ.1 ∧ MKO mk σ.1 ∧ MKG mk σ.1 ∧ OB σ 0 11 (shF mk)) ∧ (cScr S σ ∧ cNet S σ ∧ cDra σ ∧ cDis S σ) ∧ (cGam S σ mk T ∧ cSym σ ∧ cWat σ ∧ cSea S σ mk) ∧ cSce S σ ∧ cPas S σ ∧ cTri σ mk T
section KpC
variable {S : Ab} {σ s : Hp} {mk : Nat → Option Nat} {T : Nat}
theorem cScr.kp (h : cScr S σ) (e : kpR 1 4 σ s) : cScr S s := by
  obtain ⟨⟨a, b, c, h1⟩, ⟨bs, h2, h3⟩, h4, h5⟩ := h
  exact ⟨⟨a, b, c, h1.kp (e 1 (by omega) (by omega))⟩, ⟨bs, h2.kp (e 2 (by omega) (by omega)), h3⟩, h4.kp (e 3 (by omega) (by omega)), h5.kp (e 4 (by omega) (by omega))⟩
theorem cNet.kp (h : cNet S σ) (e : kpR 5 6 σ s) : cNet S s := ⟨h.1.kp (e 5 (by omega) (by omega)), h.2.kp (e 6 (by omega) (by omega))⟩
theorem cDra.kp (h : cDra σ) (e : kpR 7 8 σ s) : cDra s := by
  obtain ⟨n, nb, h1, h2, h3, h4⟩ := h
  exact ⟨n, nb, h1, h2, h3.kp (e 7 (by omega) (by omega)), h4.kp (e 8 (by omega) (by omega))⟩
theorem cDis.kp (h : cDis S σ) (e : kpR 9 11 σ s) : cDis S s := by
  rcases h with ⟨t, c, h1, h2, h3, h4⟩ | ⟨D, t, c, h1, h2, h3⟩
  · exact Or.inl ⟨t, c, h1.kp (e 9 (by omega) (by omega)), h2.kp (e 10 (by omega) (by omega)), h3.kp (e 11 (by omega) (by omega)), h4⟩
  · exact Or.inr ⟨D, t, c, h1.kp (e 9 (by omega) (by omega)), h2.kp (e 10 (by omega) (by omega)), h3.kp (e 11 (by omega) (by omega))⟩
theorem RKg.kp {g : Nat} {nb : Nat → Nat} (h : RKg σ g nb T) (e : kpR (g + 1) (g + 8) σ s) : RKg s g nb T := by
  obtain ⟨⟨a1, a2, a3⟩, ⟨ns, nc, b1, b2, b3⟩, t, l, ⟨fo, se, c1, c2, c3, c4⟩, ht⟩ := h
  exact ⟨⟨a1.kp (e _ (by omega) (by omega)), a2.kp (e _ (by omega) (by omega)), a3.kp (e _ (by omega) (by omega))⟩, ⟨ns, nc, b1.kp (e _ (by omega) (by omega)), b2.kp (e _ (by omega) (by omega)), b3⟩, t, l, ⟨fo, se, c1.kp (e _ (by omega) (by omega)), c2.kp (e _ (by omega) (by omega)), c3.kp (e _ (by omega) (by omega)), c4⟩, ht⟩
theorem GM.kp {g n kd h : Nat} {nb : Nat → Nat} {wk : Nat → Option Nat} (hm : GM σ g nb n wk kd h) (e : s.2 (g + 13 + gix kd h) = σ.2 (g + 13 + gix kd h)) (ew : ∀ a, wk (gix kd h) = some a → s.2 a = σ.2 a) : GM s g nb n wk kd h := by
  obtain ⟨rd, op, tn, rf, hp, a1, a2, a3⟩ := hm
  refine ⟨rd, op, tn, rf, hp, a1.kp e, fun a h => (a2 a h).kp (ew a h), fun z => ?_⟩
  obtain ⟨wa, wo, b1, b2, b3⟩ := a3 z
  exact ⟨wa, wo, b1, b2.kp (ew wa b1), b3⟩
theorem GS.kp {g kn n : Nat} {nb : Nat → Nat} {wk : Nat → Option Nat} (h : GS σ g kn nb n wk T) (e : kpR g (g + 21) σ s) (ew : ∀ i a, wk i = some a → s.2 a = σ.2 a) : GS s g kn nb n wk T := by
  obtain ⟨a1, a2, a3, ⟨w, hl, nw, b1, b2, b3, b4⟩, a5⟩ := h
  exact ⟨a1.kp (e _ (by omega) (by omega)), a2.kp (e _ (by omega) (by omega)), a3.kp (e.sub (by omega) (by omega)), ⟨w, hl, nw, b1.kp (e _ (by omega) (by omega)), b2.kp (e _ (by omega) (by omega)), b3.kp (e _ (by omega) (by omega)), b4⟩, fun kd h hk h1 h3 => by
    have := gix_lt hk h1 h3
    exact (a5 kd h hk h1 h3).kp (e _ (by omega) (by omega)) (fun a q => ew _ a q)⟩
theorem cGam.kp (h : cGam S σ mk T) (e : kpR 12 33 σ s) (em : kpM mk 3 11 σ s) : cGam S s mk T := GS.kp h e (fun i a q => by
  by_cases hi : i < 9
  · rw [if_pos hi] at q; exact em (3 + i) a (by omega) (by omega) q
  · rw [if_neg hi] at q; cases q)
theorem cSym.kp (h : cSym σ) (e : kpR 34 36 σ s) : cSym s := by
  obtain ⟨h1, od, nu, h2, h3, h4⟩ := h
  exact ⟨h1.kp (e _ (by omega) (by omega)), od, nu, h2.kp (e _ (by omega) (by omega)), h3.kp (e _ (by omega) (by omega)), h4⟩
theorem cWat.kp (h : cWat σ) (e : kpR 37 38 σ s) : cWat s := by
  obtain ⟨h1, k, h2⟩ := h
  exact ⟨h1.kp (e _ (by omega) (by omega)), k, h2.kp (e _ (by omega) (by omega))⟩
theorem cSea.kp (h : cSea S σ mk) (e : kpR 39 42 σ s) (em : kpM mk 0 2 σ s) : cSea S s mk := by
  obtain ⟨rd, rn, pa, ⟨qd, h1⟩, h2, h3, h4, h5, h6⟩ := h
  refine ⟨rd, rn, pa, ⟨qd, h1.kp (e _ (by omega) (by omega))⟩, h2.kp (e _ (by omega) (by omega)), h3.kp (e _ (by omega) (by omega)), h4.kp (e _ (by omega) (by omega)), ?_, h6⟩
  rcases h5 with h5 | ⟨ka, kq, kw, e1, e2, e3, x1, x2, x3⟩
  · exact Or.inl h5
  · exact Or.inr ⟨ka, kq, kw, e1, e2, e3, x1.kp (em 0 _ (by omega) (by omega) e1), x2.kp (em 1 _ (by omega) (by omega) e2), x3.kp (em 2 _ (by omega) (by omega) e3)⟩
theorem cSce.kp (h : cSce S σ) (e : kpR 43 43 σ s) : cSce S s := by
  obtain ⟨c, h1, h2⟩ := h
  exact ⟨c, h1.kp (e _ (by omega) (by omega)), h2⟩
theorem cPas.kp (h : cPas S σ) (e : kpR 44 82 σ s) : cPas S s := by
  obtain ⟨nx, N, NB, C, h0, h1, h2, h3, h4, h5⟩ := h
  exact ⟨nx, N, NB, C, h0, h1.kp (e _ (by omega) (by omega)), h2.kp (e _ (by omega) (by omega)), h3.kp (e _ (by omega) (by omega)), fun i hi => ⟨(h4 i hi).1.kp (e _ (by omega) (by omega)), (h4 i hi).2.1.kp (e _ (by omega) (by omega)), (h4 i hi).2.2.kp (e _ (by omega) (by omega))⟩, h5⟩
theorem cTri.kp (h : cTri σ mk T) (e : ∀ g, mk 12 = some g → kpR g (g + 21) σ s) (em : kpM mk 13 21 σ s) : cTri s mk T := fun g hg => by
  obtain ⟨n0, nb0, h1⟩ := h g hg
  exact ⟨n0, nb0, h1.kp (e g hg) (fun i a q => by
    unfold wk2 at q
    by_cases hi : i < 9
    · rw [if_pos hi] at q; exact em (13 + i) a (by omega) (by omega) q
    · rw [if_neg hi] at q; cases q)⟩
/-- one part is new, and lies below the cells made later -/
def upP (L : List Nat) (a b : Nat) (P : Prop) : Prop := (∀ j ∈ L, j < a ∨ b < j) ∨ P
theorem CSt.up {L : List Nat} {S2 : Ab} (h : CSt S σ mk T) (f : fA L σ s) (hL : ∀ j ∈ L, 0 < j ∧ j < 104) (en : S2.n = S.n) (eb : S2.nb = S.nb)
    (c1 : cScr S σ → kpR 1 4 σ s ∨ True → cScr S2 s) (c3 : upP L 7 8 (cDra s)) (c4 : upP L 9 11 (cDis S2 s)) (hnet : ∀ j ∈ L, j < 5 ∨ 6 < j) (c5 : upP L 12 33 (cGam S2 s mk T)) (c6 : upP L 34 36 (cSym s)) (c7 : upP L 37 38 (cWat s)) (c8 : upP L 39 42 (cSea S2 s mk)) (c9 : cSce S2 s) (c10 : cPas S2 s) : CSt S2 s mk T := by
  obtain ⟨⟨a1, a2, a3, a4⟩, ⟨b1, b2, b3, b4⟩, ⟨d1, d2, d3, d4⟩, e1, e2, e3⟩ := h
  have hm : ∀ i0 i1, kpM mk i0 i1 σ s := fun i0 i1 => kpM.of f a2 (fun j hj => Or.inl (hL j hj).2)
  have hn2 : cNet S2 s := by
    have := b2.kp (s := s) (kpR.of f (by omega) hnet)
    unfold cNet at this ⊢
    rw [en, eb]; exact this
  refine ⟨⟨Nat.le_trans a1 f.1, a2.le f.1, ⟨fun g hg => ⟨Nat.lt_of_lt_of_le (a3.1 g hg).1 f.1, (a3.1 g hg).2⟩, a3.2⟩, a4.kp (f.2 0 (by omega) (fun z => by have := hL 0 z; omega))⟩, ⟨c1 b1 (Or.inr trivial), hn2, ?_, ?_⟩, ⟨?_, ?_, ?_, ?_⟩, c9, c10, e3.kp (fun g hg => kpR.of f (a3.1 g hg).1 (fun j hj => Or.inl (by have := hL j hj; have := (a2.1 _ _ hg).1; omega))) (hm _ _)⟩
  · exact c3.elim (fun z => b3.kp (kpR.of f (by omega) z)) id
  · refine c4.elim (fun z => ?_) id
    have := b4.kp (s := s) (kpR.of f (by omega) z)
    unfold cDis at this ⊢
    rw [en, eb]; exact this
  · refine c5.elim (fun z => ?_) id
    have := d1.kp (s := s) (kpR.of f (by omega) z) (hm _ _)
    unfold cGam at this ⊢
    rw [en, eb]; exact this
  · exact c6.elim (fun z => d2.kp (kpR.of f (by omega) z)) id
  · exact c7.elim (fun z => d3.kp (kpR.of f (by omega) z)) id
  · refine c8.elim (fun z => ?_) id
    have := d4.kp (s := s) (kpR.of f (by omega) z) (hm _ _)
    unfold cSea at this ⊢
    rw [en, eb]; exact this
end KpC
