/-! THE STATE on which both sides agree -/
def Scn : Type := Nat × Nat × Row × Nat × Nat × Int32
def Scn.mk (kd h : Nat) (ρ : Row) (p t : Nat) (b : Int32) : Scn := (kd, h, ρ, p, t, b)
def Scn.kd (s : Scn) : Nat := s.1
def Scn.h (s : Scn) : Nat := s.2.1
def Scn.ρ (s : Scn) : Row := s.2.2.1
def Scn.p (s : Scn) : Nat := s.2.2.2.1
def Scn.t (s : Scn) : Nat := s.2.2.2.2.1
def Scn.b (s : Scn) : Int32 := s.2.2.2.2.2
def Rec : Type := Nat × (Nat → Nat) × Option Scn
def Rec.mk (n : Nat) (nb : Nat → Nat) (sc : Option Scn) : Rec := (n, nb, sc)
def Rec.n (s : Rec) : Nat := s.1
def Rec.nb (s : Rec) : Nat → Nat := s.2.1
def Rec.sc (s : Rec) : Option Scn := s.2.2
def Ab : Type := Nat × (Nat → Nat) × Option Scn × Nat × (Nat → Nat) × Nat × Option Nat × List Rec
def Ab.mk (n : Nat) (nb : Nat → Nat) (sc : Option Scn) (td : Nat) (tp : Nat → Nat) (fk : Nat) (fp : Option Nat) (ps : List Rec) : Ab := (n, nb, sc, td, tp, fk, fp, ps)
def Ab.n (s : Ab) : Nat := s.1
def Ab.nb (s : Ab) : Nat → Nat := s.2.1
def Ab.sc (s : Ab) : Option Scn := s.2.2.1
def Ab.td (s : Ab) : Nat := s.2.2.2.1
def Ab.tp (s : Ab) : Nat → Nat := s.2.2.2.2.1
def Ab.fk (s : Ab) : Nat := s.2.2.2.2.2.1
def Ab.fp (s : Ab) : Option Nat := s.2.2.2.2.2.2.1
def Ab.ps (s : Ab) : List Rec := s.2.2.2.2.2.2.2
def ScV (n : Nat) : Option Scn → Prop
  | none => True
  | some s => s.kd < 3 ∧ 1 ≤ s.h ∧ s.h ≤ 3 ∧ s.ρ ∈ rowsL s.h n ∧ s.p < n ∧ s.t ≤ 1
def ScR (R : Nat → Int32) : Option Scn → Prop
  | none => R 10 = nI 0
  | some s => R 10 = nI 1 ∧ (R 11 = nI s.kd ∧ R 12 = nI s.h ∧ R 13 = nI s.ρ.1 ∧ R 14 = nI s.ρ.2.1 ∧ R 15 = nI s.ρ.2.2 ∧ R 16 = nI s.p ∧ R 17 = nI s.t) ∧ R 18 = s.b
/-- a net in its one form: nothing beyond its places -/
def isNetZ (n : Nat) (nb : Nat → Nat) : Prop := isNet n nb ∧ ∀ p, n ≤ p → nb p = 0
def RcA (R : Nat → Int32) (r : Rec) : Prop := R 0 = nI r.n ∧ (∀ p, p < r.n → R (1 + p) = nI (r.nb p)) ∧ ScR R r.sc
def RcV (r : Rec) : Prop := isNetZ r.n r.nb ∧ ScV r.n r.sc
def KL (B : Nat → Nat → Int32) (ps : List Rec) : Prop := ∀ i r, ps[i]? = some r → RcA (fun j => B 18 (20 * i + j)) r
def AbV (S : Ab) : Prop := isNetZ S.n S.nb ∧ ScV S.n S.sc ∧ S.td ≤ 600 ∧ (∀ k, S.tp k < 256) ∧ S.ps.length ≤ 12 ∧ ∀ r ∈ S.ps, RcV r
def qT (S : Ab) (α : Nat → Int32) (B : Nat → Nat → Int32) : Prop := α 6 = nI S.td ∧ ∀ k, k < S.td → B 2 k = nI (S.tp k)
def qF (S : Ab) (α : Nat → Int32) : Prop := α 12 = nI S.fk ∧ α 13 = oI S.fp
def qW (α : Nat → Int32) : Prop := ∃ wa, α 15 = nI wa
def qS (S : Ab) (α : Nat → Int32) : Prop := ScR (fun j => α (36 + j)) S.sc
def qP (S : Ab) (α : Nat → Int32) (B : Nat → Nat → Int32) : Prop := α 57 = nI S.ps.length ∧ KL B S.ps
/-- the reference holds a state -/
def MQr (S : Ab) (α : Nat → Int32) (B : Nat → Nat → Int32) : Prop := α 2 = nI S.n ∧ (∀ p, p < S.n → B 1 p = nI (S.nb p)) ∧ (∀ j, j < 18 → B 8 j = nI (ordT j)) ∧ GOk α B S.nb S.n ∧ DisOk α B S.nb S.n ∧ SyOk α B S.nb S.n ∧ SwOk α B S.nb S.n ∧ qT S α B ∧ qF S α ∧ qW α ∧ qS S α ∧ qP S α B
def MSt (S : Ab) (σ s : Hp) (m : Nat) : Prop := ∃ α B, MA σ s m α B ∧ MQr S α B
section Cg
variable {α α1 : Nat → Int32} {B B1 : Nat → Nat → Int32} {nb : Nat → Nat} {n : Nat} {S T : List Nat} {A : Ab}
theorem cgN (h : α 2 = nI n) (f : frm S α α1) (hS : 2 ∉ S) : α1 2 = nI n := (f 2 hS).trans h
theorem cgB (h : ∀ p, p < n → B 1 p = nI (nb p)) (f : frm T B B1) (hT : 1 ∉ T) : ∀ p, p < n → B1 1 p = nI (nb p) := fun p hp => by rw [f 1 hT]; exact h p hp
theorem cgO (h : ∀ j, j < 18 → B 8 j = nI (ordT j)) (f : frm T B B1) (hT : 8 ∉ T) : ∀ j, j < 18 → B1 8 j = nI (ordT j) := fun p hp => by rw [f 8 hT]; exact h p hp
theorem cgG (h : GOk α B nb n) (f : frm S α α1) (g : frm T B B1) (hS : ∀ k ∈ [19, 20, 32, 33], k ∉ S) (hT : ∀ k ∈ [7, 9, 10, 11, 12], k ∉ T) : GOk α1 B1 nb n := h.cg2 (f 19 (hS 19 (by decide))) (f 20 (hS 20 (by decide))) (f 32 (hS 32 (by decide))) (f 33 (hS 33 (by decide))) (g 7 (hT 7 (by decide))) (g 9 (hT 9 (by decide))) (g 10 (hT 10 (by decide))) (g 11 (hT 11 (by decide))) (g 12 (hT 12 (by decide)))
theorem cgD (h : DisOk α B nb n) (f : frm S α α1) (g : frm T B B1) (hS : ∀ k ∈ [17, 24, 25], k ∉ S) (hT : ∀ k ∈ [5, 6], k ∉ T) : DisOk α1 B1 nb n := by
  unfold DisOk DR at h ⊢
  rw [f 17 (hS 17 (by decide)), f 24 (hS 24 (by decide)), f 25 (hS 25 (by decide)), g 5 (hT 5 (by decide)), g 6 (hT 6 (by decide))]
  exact h
theorem cgY (h : SyOk α B nb n) (f : frm S α α1) (g : frm T B B1) (hS : ∀ k ∈ [18, 41], k ∉ S) (hT : ∀ k ∈ [14], k ∉ T) : SyOk α1 B1 nb n := by
  unfold SyOk at h ⊢
  rw [f 18 (hS 18 (by decide)), f 41 (hS 41 (by decide)), g 14 (hT 14 (by decide))]
  exact h
theorem cgSw (h : SwOk α B nb n) (f : frm S α α1) (g : frm T B B1) (hS : ∀ k ∈ [21, 45], k ∉ S) (hT : ∀ k ∈ [17], k ∉ T) : SwOk α1 B1 nb n := by
  unfold SwOk at h ⊢
  rw [f 21 (hS 21 (by decide)), f 45 (hS 45 (by decide)), g 17 (hT 17 (by decide))]
  exact h
theorem cgT (h : qT A α B) (f : frm S α α1) (g : frm T B B1) (hS : 6 ∉ S) (hT : 2 ∉ T) : qT A α1 B1 := ⟨(f 6 hS).trans h.1, fun k hk => by rw [g 2 hT]; exact h.2 k hk⟩
theorem cgFf (h : qF A α) (f : frm S α α1) (hS : ∀ k ∈ [12, 13], k ∉ S) : qF A α1 := ⟨(f 12 (hS 12 (by decide))).trans h.1, (f 13 (hS 13 (by decide))).trans h.2⟩
theorem cgW (h : qW α) (f : frm S α α1) (hS : 15 ∉ S) : qW α1 := by obtain ⟨wa, e⟩ := h; exact ⟨wa, (f 15 hS).trans e⟩
theorem ScR.cg {R R1 : Nat → Int32} {sc : Option Scn} (h : ScR R sc) (e : ∀ j, 10 ≤ j → j < 19 → R1 j = R j) : ScR R1 sc := by
  cases sc with
  | none => exact (e 10 (by decide) (by decide)).trans h
  | some s =>
    obtain ⟨h0, ⟨h1, h2, h3, h4, h5, h6, h7⟩, h8⟩ := h
    exact ⟨(e 10 (by decide) (by decide)).trans h0, ⟨(e 11 (by decide) (by decide)).trans h1, (e 12 (by decide) (by decide)).trans h2, (e 13 (by decide) (by decide)).trans h3, (e 14 (by decide) (by decide)).trans h4, (e 15 (by decide) (by decide)).trans h5, (e 16 (by decide) (by decide)).trans h6, (e 17 (by decide) (by decide)).trans h7⟩, (e 18 (by decide) (by decide)).trans h8⟩
theorem RcA.cg {R R1 : Nat → Int32} {r : Rec} (h : RcA R r) (hn : r.n ≤ 9) (e : ∀ j, j < 19 → R1 j = R j) : RcA R1 r := ⟨(e 0 (by decide)).trans h.1, fun p hp => (e (1 + p) (by omega)).trans (h.2.1 p hp), h.2.2.cg (fun j _ hj => e j hj)⟩
theorem cgS (h : qS A α) (f : frm S α α1) (hS : ∀ k ∈ [46, 47, 48, 49, 50, 51, 52, 53, 54], k ∉ S) : qS A α1 := ScR.cg h (fun j h1 h2 => f _ (hS _ (by simp only [List.mem_cons, List.not_mem_nil, or_false]; omega)))
theorem cgP (h : qP A α B) (f : frm S α α1) (g : frm T B B1) (hS : 57 ∉ S) (hT : 18 ∉ T) : qP A α1 B1 := ⟨(f 57 hS).trans h.1, by unfold KL; rw [g 18 hT]; exact h.2⟩
end Cg
theorem net_lt {n : Nat} {nb : Nat → Nat} (h : isNetZ n nb) (p : Nat) : nb p < 512 := by
  by_cases hp : p < n
  · exact Nat.lt_of_lt_of_le (h.1.2.1 p hp) (pow9 h.1.1)
  · rw [h.2 p (by omega)]; decide
theorem zX12_fault {G : Gx} {d : Nat} {σ : Hp} {S : Ab} {m : Nat} (hd : 0 ≤ d) (hV : AbV S) (hS : MSt S σ σ m) {w : Int32} : Cl G mX12_fault d [.ref m, .int w] σ 0 0 (pI fun r s => r = fltF w (nI S.fk) (oI S.fp) ∧ MSt S σ s m) := by
  obtain ⟨α, B, hM, q1, q2, q3, q4, q5, q6, q7, q8, q9, q10, q11, q12⟩ := hS
  have hn := hV.1.1.1
  have hw := net_lt hV.1
  have hN := hV.1.1
  refine cl_post (by have := eX12_fault (G := G) (w := w) hd hM; rw [q9.1, q9.2] at this; exact this) ?_
  rintro v s ⟨r, rfl, hr, hM1⟩
  have hf : frm [0] α (upd α 0 (nI 0)) := frm.rf.up (by decide)
  have hg : frm [] B B := frm.rf
  exact ⟨r, rfl, hr, _, _, hM1, ⟨(cgN q1 hf (by decide)), (cgB q2 hg (by decide)), (cgO q3 hg (by decide)), (cgG q4 hf hg (by decide) (by decide)), (cgD q5 hf hg (by decide) (by decide)), (cgY q6 hf hg (by decide) (by decide)), (cgSw q7 hf hg (by decide) (by decide)), (cgT q8 hf hg (by decide) (by decide)), (cgFf q9 hf (by decide)), (cgW q10 hf (by decide)), (cgS q11 hf (by decide)), (cgP q12 hf hg (by decide) (by decide))⟩⟩
theorem zX12_near {G : Gx} {d : Nat} {σ : Hp} {S : Ab} {m : Nat} (hd : 2 ≤ d) (hV : AbV S) (hS : MSt S σ σ m) {p : Int32} : Cl G mX12_near d [.ref m, .int p] σ 0 0 (pI fun r s => r = atP p S.n (fun j => nI (S.nb j)) (-1) ∧ MSt S σ s m) := by
  obtain ⟨α, B, hM, q1, q2, q3, q4, q5, q6, q7, q8, q9, q10, q11, q12⟩ := hS
  have hn := hV.1.1.1
  have hw := net_lt hV.1
  have hN := hV.1.1
  refine cl_post (eX12_near hd hM q1 hn q2 hw) ?_
  rintro v s ⟨r, rfl, hr, hM1⟩
  have hf : frm [0] α (upd α 0 (nI 0)) := frm.rf.up (by decide)
  have hg : frm [] B B := frm.rf
  exact ⟨r, rfl, hr, _, _, hM1, ⟨(cgN q1 hf (by decide)), (cgB q2 hg (by decide)), (cgO q3 hg (by decide)), (cgG q4 hf hg (by decide) (by decide)), (cgD q5 hf hg (by decide) (by decide)), (cgY q6 hf hg (by decide) (by decide)), (cgSw q7 hf hg (by decide) (by decide)), (cgT q8 hf hg (by decide) (by decide)), (cgFf q9 hf (by decide)), (cgW q10 hf (by decide)), (cgS q11 hf (by decide)), (cgP q12 hf hg (by decide) (by decide))⟩⟩
theorem zX12_distance {G : Gx} {d : Nat} {σ : Hp} {S : Ab} {m : Nat} (hd : 2 ≤ d) (hV : AbV S) (hS : MSt S σ σ m) {f u : Int32} : Cl G mX12_distance d [.ref m, .int f, .int u] σ 0 0 (pI fun r s => r = atP f S.n (fun j => atP u S.n (fun k => oI (stp S.nb S.n k 10 0 (2 ^ j))) (nI 0)) (nI 0) ∧ ∃ α B, MA σ s m α B ∧ MQr S α B ∧ α 0 = bI (¬ (isP f S.n ∧ isP u S.n))) := by
  obtain ⟨α, B, hM, q1, q2, q3, q4, q5, q6, q7, q8, q9, q10, q11, q12⟩ := hS
  have hn := hV.1.1.1
  have hw := net_lt hV.1
  refine cl_post (eX12_distance hd hM q1 hn q2 hw) ?_
  rintro v s ⟨r, rfl, hM1, hr⟩
  have hf : frm [0] α (upd α 0 (bI (¬ (isP f S.n ∧ isP u S.n)))) := frm.rf.up (by decide)
  have hg : frm [] B B := frm.rf
  exact ⟨r, rfl, hr, _, _, hM1, ⟨(cgN q1 hf (by decide)), (cgB q2 hg (by decide)), (cgO q3 hg (by decide)), (cgG q4 hf hg (by decide) (by decide)), (cgD q5 hf hg (by decide) (by decide)), (cgY q6 hf hg (by decide) (by decide)), (cgSw q7 hf hg (by decide) (by decide)), (cgT q8 hf hg (by decide) (by decide)), (cgFf q9 hf (by decide)), (cgW q10 hf (by decide)), (cgS q11 hf (by decide)), (cgP q12 hf hg (by decide) (by decide))⟩, rfl⟩
theorem zX12_corner {G : Gx} {d : Nat} {σ : Hp} {S : Ab} {m : Nat} (hd : 2 ≤ d) (hV : AbV S) (hS : MSt S σ σ m) {f : Int32} : Cl G mX12_corner d [.ref m, .int f] σ 0 0 (pI fun r s => r = atP f S.n (fun j => oI (crn S.nb S.n j (2 ^ S.n - 1) S.n 0)) (nI 0) ∧ ∃ α B, MA σ s m α B ∧ MQr S α B ∧ α 0 = bI (¬ isP f S.n)) := by
  obtain ⟨α, B, hM, q1, q2, q3, q4, q5, q6, q7, q8, q9, q10, q11, q12⟩ := hS
  have hn := hV.1.1.1
  have hw := net_lt hV.1
  refine cl_post (eX12_corner hd hM q1 hn q2 hw) ?_
  rintro v s ⟨r, rfl, hM1, hr⟩
  have hf : frm [0] α (upd α 0 (bI (¬ isP f S.n))) := frm.rf.up (by decide)
  have hg : frm [] B B := frm.rf
  exact ⟨r, rfl, hr, _, _, hM1, ⟨(cgN q1 hf (by decide)), (cgB q2 hg (by decide)), (cgO q3 hg (by decide)), (cgG q4 hf hg (by decide) (by decide)), (cgD q5 hf hg (by decide) (by decide)), (cgY q6 hf hg (by decide) (by decide)), (cgSw q7 hf hg (by decide) (by decide)), (cgT q8 hf hg (by decide) (by decide)), (cgFf q9 hf (by decide)), (cgW q10 hf (by decide)), (cgS q11 hf (by decide)), (cgP q12 hf hg (by decide) (by decide))⟩, rfl⟩
theorem zX12_goes {G : Gx} {d : Nat} {σ : Hp} {S : Ab} {m : Nat} (hd : 3 ≤ d) (hV : AbV S) (hS : MSt S σ σ m) {i : Int32} : Cl G mX12_goes d [.ref m, .int i] σ 0 0 (pI fun r s => r = goesF (dis0 S.nb S.n) i ∧ MSt S σ s m) := by
  obtain ⟨α, B, hM, q1, q2, q3, q4, q5, q6, q7, q8, q9, q10, q11, q12⟩ := hS
  have hn := hV.1.1.1
  have hw := net_lt hV.1
  have hN := hV.1.1
  refine cl_post (eX12_goes hd hM q1 hn q2 hw q5) ?_
  rintro v s ⟨r, rfl, hr, α1, B1, hM1, hf, hg, -, h17, hdr⟩
  exact ⟨r, rfl, hr, _, _, hM1, ⟨(cgN q1 hf (by decide)), (cgB q2 hg (by decide)), (cgO q3 hg (by decide)), (cgG q4 hf hg (by decide) (by decide)), Or.inr ⟨h17, hdr⟩, (cgY q6 hf hg (by decide) (by decide)), (cgSw q7 hf hg (by decide) (by decide)), (cgT q8 hf hg (by decide) (by decide)), (cgFf q9 hf (by decide)), (cgW q10 hf (by decide)), (cgS q11 hf (by decide)), (cgP q12 hf hg (by decide) (by decide))⟩⟩
theorem zX12_left {G : Gx} {d : Nat} {σ : Hp} {S : Ab} {m : Nat} (hd : 3 ≤ d) (hV : AbV S) (hS : MSt S σ σ m) : Cl G mX12_left d [.ref m] σ 0 0 (pI fun r s => r = nI (dis0 S.nb S.n).1 ∧ MSt S σ s m) := by
  obtain ⟨α, B, hM, q1, q2, q3, q4, q5, q6, q7, q8, q9, q10, q11, q12⟩ := hS
  have hn := hV.1.1.1
  have hw := net_lt hV.1
  have hN := hV.1.1
  refine cl_post (eX12_left hd hM q1 hn q2 hw q5) ?_
  rintro v s ⟨r, rfl, hr, α1, B1, hM1, hf, hg, -, h17, hdr⟩
  exact ⟨r, rfl, hr, _, _, hM1, ⟨(cgN q1 hf (by decide)), (cgB q2 hg (by decide)), (cgO q3 hg (by decide)), (cgG q4 hf hg (by decide) (by decide)), Or.inr ⟨h17, hdr⟩, (cgY q6 hf hg (by decide) (by decide)), (cgSw q7 hf hg (by decide) (by decide)), (cgT q8 hf hg (by decide) (by decide)), (cgFf q9 hf (by decide)), (cgW q10 hf (by decide)), (cgS q11 hf (by decide)), (cgP q12 hf hg (by decide) (by decide))⟩⟩
theorem zX12_image {G : Gx} {d : Nat} {σ : Hp} {S : Ab} {m : Nat} (hd : 3 ≤ d) (hV : AbV S) (hS : MSt S σ σ m) {w : Int32} : Cl G mX12_image d [.ref m, .int w] σ 0 0 (pI fun r s => r = atP w S.n (fun p => nI (img (dis0 S.nb S.n) 11 p)) (-1) ∧ MSt S σ s m) := by
  obtain ⟨α, B, hM, q1, q2, q3, q4, q5, q6, q7, q8, q9, q10, q11, q12⟩ := hS
  have hn := hV.1.1.1
  have hw := net_lt hV.1
  have hN := hV.1.1
  refine cl_post (eX12_image hd hM q1 hn q2 hw q5) ?_
  rintro v s ⟨r, rfl, hr, ⟨-, hM1⟩ | ⟨α1, B1, hM1, hf, hg, -, h17, hdr⟩⟩
  · have hf : frm [0] α (upd α 0 (nI 0)) := frm.rf.up (by decide)
    have hg : frm [] B B := frm.rf
    exact ⟨r, rfl, hr, _, _, hM1, ⟨(cgN q1 hf (by decide)), (cgB q2 hg (by decide)), (cgO q3 hg (by decide)), (cgG q4 hf hg (by decide) (by decide)), (cgD q5 hf hg (by decide) (by decide)), (cgY q6 hf hg (by decide) (by decide)), (cgSw q7 hf hg (by decide) (by decide)), (cgT q8 hf hg (by decide) (by decide)), (cgFf q9 hf (by decide)), (cgW q10 hf (by decide)), (cgS q11 hf (by decide)), (cgP q12 hf hg (by decide) (by decide))⟩⟩
  · exact ⟨r, rfl, hr, _, _, hM1, ⟨(cgN q1 hf (by decide)), (cgB q2 hg (by decide)), (cgO q3 hg (by decide)), (cgG q4 hf hg (by decide) (by decide)), Or.inr ⟨h17, hdr⟩, (cgY q6 hf hg (by decide) (by decide)), (cgSw q7 hf hg (by decide) (by decide)), (cgT q8 hf hg (by decide) (by decide)), (cgFf q9 hf (by decide)), (cgW q10 hf (by decide)), (cgS q11 hf (by decide)), (cgP q12 hf hg (by decide) (by decide))⟩⟩
theorem zX12_about {G : Gx} {d : Nat} {σ : Hp} {S : Ab} {m : Nat} (hd : 4 ≤ d) (hV : AbV S) (hS : MSt S σ σ m) {w : Int32} : Cl G mX12_about d [.ref m, .int w] σ 0 0 (pI fun r s => r = atP w 9 (abF S.nb S.n (nI S.ps.length) (nI S.td)) (-1) ∧ MSt S σ s m) := by
  obtain ⟨α, B, hM, q1, q2, q3, q4, q5, q6, q7, q8, q9, q10, q11, q12⟩ := hS
  have hn := hV.1.1.1
  have hw := net_lt hV.1
  have hN := hV.1.1
  refine cl_post (eX12_about hd hM q1 hn q2 hw hN (fun p hp => (cnt_pos_le _ (hw p)).1 (fun e => by have := hN.2.2.1 p hp; rw [e, Nat.zero_testBit] at this; cases this)) q5) ?_
  rintro v s ⟨r, rfl, hr, α1, B1, hM1, hf, hg, -, hds⟩
  rw [q12.1, q8.1] at hr
  exact ⟨r, rfl, hr, _, _, hM1, ⟨(cgN q1 hf (by decide)), (cgB q2 hg (by decide)), (cgO q3 hg (by decide)), (cgG q4 hf hg (by decide) (by decide)), hds, (cgY q6 hf hg (by decide) (by decide)), (cgSw q7 hf hg (by decide) (by decide)), (cgT q8 hf hg (by decide) (by decide)), (cgFf q9 hf (by decide)), (cgW q10 hf (by decide)), (cgS q11 hf (by decide)), (cgP q12 hf hg (by decide) (by decide))⟩⟩
theorem zX12_time {G : Gx} {d : Nat} {σ : Hp} {S : Ab} {m : Nat} (hd : 7 ≤ d) (hV : AbV S) (hS : MSt S σ σ m) {a b : Int32} : Cl G mX12_time d [.ref m, .int a, .int b] σ 0 0 (pI fun r s => r = gmF a b S.n (fun kd h => oI (tmF S.nb S.n h kd)) (-1) ∧ MSt S σ s m) := by
  obtain ⟨α, B, hM, q1, q2, q3, q4, q5, q6, q7, q8, q9, q10, q11, q12⟩ := hS
  have hn := hV.1.1.1
  have hw := net_lt hV.1
  have hN := hV.1.1
  refine cl_post (eX12_time hd hM q1 hn q2 hw q3 q4) ?_
  rintro v s ⟨r, rfl, hr, α1, B1, hM1, hf, hg, -, hG⟩
  exact ⟨r, rfl, hr, _, _, hM1, ⟨(cgN q1 hf (by decide)), (cgB q2 hg (by decide)), (cgO q3 hg (by decide)), hG, (cgD q5 hf hg (by decide) (by decide)), (cgY q6 hf hg (by decide) (by decide)), (cgSw q7 hf hg (by decide) (by decide)), (cgT q8 hf hg (by decide) (by decide)), (cgFf q9 hf (by decide)), (cgW q10 hf (by decide)), (cgS q11 hf (by decide)), (cgP q12 hf hg (by decide) (by decide))⟩⟩
theorem zX12_start {G : Gx} {d : Nat} {σ : Hp} {S : Ab} {m : Nat} (hd : 7 ≤ d) (hV : AbV S) (hS : MSt S σ σ m) {a b c : Int32} : Cl G mX12_start d [.ref m, .int a, .int b, .int c] σ 0 0 (pI fun r s => r = gmF a b S.n (fun kd h => atP c h (fun j => nI (rk (rowAt (rowsL h S.n) (stF S.nb S.n h kd)) j)) (-1)) (-1) ∧ MSt S σ s m) := by
  obtain ⟨α, B, hM, q1, q2, q3, q4, q5, q6, q7, q8, q9, q10, q11, q12⟩ := hS
  have hn := hV.1.1.1
  have hw := net_lt hV.1
  have hN := hV.1.1
  refine cl_post (eX12_start hd hM q1 hn q2 hw q3 q4) ?_
  rintro v s ⟨r, rfl, hr, α1, B1, hM1, hf, hg, -, hG⟩
  exact ⟨r, rfl, hr, _, _, hM1, ⟨(cgN q1 hf (by decide)), (cgB q2 hg (by decide)), (cgO q3 hg (by decide)), hG, (cgD q5 hf hg (by decide) (by decide)), (cgY q6 hf hg (by decide) (by decide)), (cgSw q7 hf hg (by decide) (by decide)), (cgT q8 hf hg (by decide) (by decide)), (cgFf q9 hf (by decide)), (cgW q10 hf (by decide)), (cgS q11 hf (by decide)), (cgP q12 hf hg (by decide) (by decide))⟩⟩
theorem zX12_fewest {G : Gx} {d : Nat} {σ : Hp} {S : Ab} {m : Nat} (hd : 7 ≤ d) (hV : AbV S) (hS : MSt S σ σ m) {a : Int32} : Cl G mX12_fewest d [.ref m, .int a] σ 0 0 (pI fun r s => r = (if 0 < S.n then atP a 3 (fun kd => fwF S.nb S.n kd 3 1) (-1) else -1) ∧ MSt S σ s m) := by
  obtain ⟨α, B, hM, q1, q2, q3, q4, q5, q6, q7, q8, q9, q10, q11, q12⟩ := hS
  have hn := hV.1.1.1
  have hw := net_lt hV.1
  have hN := hV.1.1
  refine cl_post (eX12_fewest hd hM q1 hn q2 hw q3 q4) ?_
  rintro v s ⟨r, rfl, hr, α1, B1, hM1, hf, hg, -, hG⟩
  exact ⟨r, rfl, hr, _, _, hM1, ⟨(cgN q1 hf (by decide)), (cgB q2 hg (by decide)), (cgO q3 hg (by decide)), hG, (cgD q5 hf hg (by decide) (by decide)), (cgY q6 hf hg (by decide) (by decide)), (cgSw q7 hf hg (by decide) (by decide)), (cgT q8 hf hg (by decide) (by decide)), (cgFf q9 hf (by decide)), (cgW q10 hf (by decide)), (cgS q11 hf (by decide)), (cgP q12 hf hg (by decide) (by decide))⟩⟩
theorem zX12_refusals {G : Gx} {d : Nat} {σ : Hp} {S : Ab} {m : Nat} (hd : 6 ≤ d) (hV : AbV S) (hS : MSt S σ σ m) {a b : Int32} : Cl G mX12_refusals d [.ref m, .int a, .int b] σ 0 0 (pI fun r s => r = gmF a b S.n (fun kd h => nI (nc (slvF S.nb S.n h kd) S.n (rowsL h S.n).length)) (-1) ∧ MSt S σ s m) := by
  obtain ⟨α, B, hM, q1, q2, q3, q4, q5, q6, q7, q8, q9, q10, q11, q12⟩ := hS
  have hn := hV.1.1.1
  have hw := net_lt hV.1
  have hN := hV.1.1
  refine cl_post (eX12_refusals hd hM q1 hn q2 hw q3 q4) ?_
  rintro v s ⟨r, rfl, hr, α1, B1, hM1, hf, hg, -, hG⟩
  exact ⟨r, rfl, hr, _, _, hM1, ⟨(cgN q1 hf (by decide)), (cgB q2 hg (by decide)), (cgO q3 hg (by decide)), hG, (cgD q5 hf hg (by decide) (by decide)), (cgY q6 hf hg (by decide) (by decide)), (cgSw q7 hf hg (by decide) (by decide)), (cgT q8 hf hg (by decide) (by decide)), (cgFf q9 hf (by decide)), (cgW q10 hf (by decide)), (cgS q11 hf (by decide)), (cgP q12 hf hg (by decide) (by decide))⟩⟩
theorem zX12_refusal {G : Gx} {d : Nat} {σ : Hp} {S : Ab} {m : Nat} (hd : 6 ≤ d) (hV : AbV S) (hS : MSt S σ σ m) {a b c e : Int32} : Cl G mX12_refusal d [.ref m, .int a, .int b, .int c, .int e] σ 0 0 (pI fun r s => r = gmF a b S.n (fun kd h => if c < 0 then -1 else atP e (h + 1) (refF S.nb S.n kd h c) (-1)) (-1) ∧ MSt S σ s m) := by
  obtain ⟨α, B, hM, q1, q2, q3, q4, q5, q6, q7, q8, q9, q10, q11, q12⟩ := hS
  have hn := hV.1.1.1
  have hw := net_lt hV.1
  have hN := hV.1.1
  refine cl_post (eX12_refusal hd hM q1 hn q2 hw q3 q4) ?_
  rintro v s ⟨r, rfl, hr, α1, B1, hM1, hf, hg, -, hG⟩
  exact ⟨r, rfl, hr, _, _, hM1, ⟨(cgN q1 hf (by decide)), (cgB q2 hg (by decide)), (cgO q3 hg (by decide)), hG, (cgD q5 hf hg (by decide) (by decide)), (cgY q6 hf hg (by decide) (by decide)), (cgSw q7 hf hg (by decide) (by decide)), (cgT q8 hf hg (by decide) (by decide)), (cgFf q9 hf (by decide)), (cgW q10 hf (by decide)), (cgS q11 hf (by decide)), (cgP q12 hf hg (by decide) (by decide))⟩⟩
theorem zX12_sure {G : Gx} {d : Nat} {σ : Hp} {S : Ab} {m : Nat} (hd : 7 ≤ d) (hV : AbV S) (hS : MSt S σ σ m) {k a b c : Int32} : Cl G mX12_sure d [.ref m, .int k, .int a, .int b, .int c] σ 0 0 (pI fun r s => r = atP k 3 (fun kd => surF S.nb S.n kd (tlF S.n a b c)) (-1) ∧ MSt S σ s m) := by
  obtain ⟨α, B, hM, q1, q2, q3, q4, q5, q6, q7, q8, q9, q10, q11, q12⟩ := hS
  have hn := hV.1.1.1
  have hw := net_lt hV.1
  have hN := hV.1.1
  refine cl_post (eX12_sure hd hM q1 hn q2 hw q3 q4) ?_
  rintro v s ⟨r, rfl, hr, α1, B1, hM1, hf, hg, -, hG⟩
  exact ⟨r, rfl, hr, _, _, hM1, ⟨(cgN q1 hf (by decide)), (cgB q2 hg (by decide)), (cgO q3 hg (by decide)), hG, (cgD q5 hf hg (by decide) (by decide)), (cgY q6 hf hg (by decide) (by decide)), (cgSw q7 hf hg (by decide) (by decide)), (cgT q8 hf hg (by decide) (by decide)), (cgFf q9 hf (by decide)), (cgW q10 hf (by decide)), (cgS q11 hf (by decide)), (cgP q12 hf hg (by decide) (by decide))⟩⟩
theorem zX12_trial {G : Gx} {d : Nat} {σ : Hp} {S : Ab} {m : Nat} (hd : 7 ≤ d) (hV : AbV S) (hS : MSt S σ σ m) {a b c : Int32} : Cl G mX12_trial d [.ref m, .int a, .int b, .int c] σ 0 0 (pI fun r s => r = gmF a b S.n (fun kd h => trF S.nb S.n kd h c) (-1) ∧ MSt S σ s m) := by
  obtain ⟨α, B, hM, q1, q2, q3, q4, q5, q6, q7, q8, q9, q10, q11, q12⟩ := hS
  have hn := hV.1.1.1
  have hw := net_lt hV.1
  have hN := hV.1.1
  refine cl_post (eX12_trial hd hM q1 hn q2 hw q3 q4 hN) ?_
  rintro v s ⟨r, rfl, hr, α1, B1, hM1, hf, hg, -, hG⟩
  exact ⟨r, rfl, hr, _, _, hM1, ⟨(cgN q1 hf (by decide)), (cgB q2 hg (by decide)), (cgO q3 hg (by decide)), hG, (cgD q5 hf hg (by decide) (by decide)), (cgY q6 hf hg (by decide) (by decide)), (cgSw q7 hf hg (by decide) (by decide)), (cgT q8 hf hg (by decide) (by decide)), (cgFf q9 hf (by decide)), (cgW q10 hf (by decide)), (cgS q11 hf (by decide)), (cgP q12 hf hg (by decide) (by decide))⟩⟩
theorem zX12_helps {G : Gx} {d : Nat} {σ : Hp} {S : Ab} {m : Nat} (hd : 7 ≤ d) (hV : AbV S) (hS : MSt S σ σ m) {a b : Int32} : Cl G mX12_helps d [.ref m, .int a, .int b] σ 0 0 (pI fun r s => r = gmF a b S.n (fun kd h => hlF S.nb S.n kd h) (-1) ∧ MSt S σ s m) := by
  obtain ⟨α, B, hM, q1, q2, q3, q4, q5, q6, q7, q8, q9, q10, q11, q12⟩ := hS
  have hn := hV.1.1.1
  have hw := net_lt hV.1
  have hN := hV.1.1
  refine cl_post (eX12_helps hd hM q1 hn q2 hw q3 q4) ?_
  rintro v s ⟨r, rfl, hr, α1, B1, hM1, hf, hg, -, hb, hG⟩
  exact ⟨r, rfl, hr, _, _, hM1, ⟨(cgN q1 hf (by decide)), hb, (cgO q3 hg (by decide)), hG, (cgD q5 hf hg (by decide) (by decide)), (cgY q6 hf hg (by decide) (by decide)), (cgSw q7 hf hg (by decide) (by decide)), (cgT q8 hf hg (by decide) (by decide)), (cgFf q9 hf (by decide)), (cgW q10 hf (by decide)), (cgS q11 hf (by decide)), (cgP q12 hf hg (by decide) (by decide))⟩⟩
theorem zX12_symmetries {G : Gx} {d : Nat} {σ : Hp} {S : Ab} {m : Nat} (hd : 3 ≤ d) (hV : AbV S) (hS : MSt S σ σ m) : Cl G mX12_symmetries d [.ref m] σ 0 0 (pI fun r s => r = nI (syF S.nb S.n).1 ∧ MSt S σ s m) := by
  obtain ⟨α, B, hM, q1, q2, q3, q4, q5, q6, q7, q8, q9, q10, q11, q12⟩ := hS
  have hn := hV.1.1.1
  have hw := net_lt hV.1
  have hN := hV.1.1
  refine cl_post (eX12_symmetries hd hM q1 hn q2 hw q6) ?_
  rintro v s ⟨r, rfl, hr, α1, B1, hM1, hf, hg, -, hY⟩
  exact ⟨r, rfl, hr, _, _, hM1, ⟨(cgN q1 hf (by decide)), (cgB q2 hg (by decide)), (cgO q3 hg (by decide)), (cgG q4 hf hg (by decide) (by decide)), (cgD q5 hf hg (by decide) (by decide)), hY, (cgSw q7 hf hg (by decide) (by decide)), (cgT q8 hf hg (by decide) (by decide)), (cgFf q9 hf (by decide)), (cgW q10 hf (by decide)), (cgS q11 hf (by decide)), (cgP q12 hf hg (by decide) (by decide))⟩⟩
theorem zX12_alike {G : Gx} {d : Nat} {σ : Hp} {S : Ab} {m : Nat} (hd : 3 ≤ d) (hV : AbV S) (hS : MSt S σ σ m) {u : Int32} : Cl G mX12_alike d [.ref m, .int u] σ 0 0 (pI fun r s => r = atP u S.n (fun p => nI (lsB ((syF S.nb S.n).2 p) 9 0)) (-1) ∧ MSt S σ s m) := by
  obtain ⟨α, B, hM, q1, q2, q3, q4, q5, q6, q7, q8, q9, q10, q11, q12⟩ := hS
  have hn := hV.1.1.1
  have hw := net_lt hV.1
  have hN := hV.1.1
  refine cl_post (eX12_alike hd hM q1 hn q2 hw q6) ?_
  rintro v s ⟨r, rfl, hr, α1, B1, hM1, hf, hg, -, hY⟩
  exact ⟨r, rfl, hr, _, _, hM1, ⟨(cgN q1 hf (by decide)), (cgB q2 hg (by decide)), (cgO q3 hg (by decide)), (cgG q4 hf hg (by decide) (by decide)), (cgD q5 hf hg (by decide) (by decide)), hY, (cgSw q7 hf hg (by decide) (by decide)), (cgT q8 hf hg (by decide) (by decide)), (cgFf q9 hf (by decide)), (cgW q10 hf (by decide)), (cgS q11 hf (by decide)), (cgP q12 hf hg (by decide) (by decide))⟩⟩
theorem zX12_guard {G : Gx} {d : Nat} {σ : Hp} {S : Ab} {m : Nat} (hd : 3 ≤ d) (hV : AbV S) (hS : MSt S σ σ m) {x : Int32} : Cl G mX12_guard d [.ref m, .int x] σ 0 0 (pI fun r s => r = atS x S.n (fun z => nI (nc (cW (gdB S.nb S.n z)) S.n S.n)) (-1) ∧ MSt S σ s m) := by
  obtain ⟨α, B, hM, q1, q2, q3, q4, q5, q6, q7, q8, q9, q10, q11, q12⟩ := hS
  have hn := hV.1.1.1
  have hw := net_lt hV.1
  have hN := hV.1.1
  refine cl_post (eX12_guard hd hM q1 hn q2 hw) ?_
  rintro v s ⟨r, rfl, hr, B1, hM1, hg⟩
  have hf : frm [0] α (upd α 0 (nI 0)) := frm.rf.up (by decide)
  exact ⟨r, rfl, hr, _, _, hM1, ⟨(cgN q1 hf (by decide)), (cgB q2 hg (by decide)), (cgO q3 hg (by decide)), (cgG q4 hf hg (by decide) (by decide)), (cgD q5 hf hg (by decide) (by decide)), (cgY q6 hf hg (by decide) (by decide)), (cgSw q7 hf hg (by decide) (by decide)), (cgT q8 hf hg (by decide) (by decide)), (cgFf q9 hf (by decide)), (cgW q10 hf (by decide)), (cgS q11 hf (by decide)), (cgP q12 hf hg (by decide) (by decide))⟩⟩
theorem zX12_guards {G : Gx} {d : Nat} {σ : Hp} {S : Ab} {m : Nat} (hd : 3 ≤ d) (hV : AbV S) (hS : MSt S σ σ m) {x a b : Int32} : Cl G mX12_guards d [.ref m, .int x, .int a, .int b] σ 0 0 (pI fun r s => r = atS x S.n (fun z => atP a S.n (fun h => atP b S.n (fun y => bI (gdB S.nb S.n z h y = true)) (-1)) (-1)) (-1) ∧ MSt S σ s m) := by
  obtain ⟨α, B, hM, q1, q2, q3, q4, q5, q6, q7, q8, q9, q10, q11, q12⟩ := hS
  have hn := hV.1.1.1
  have hw := net_lt hV.1
  have hN := hV.1.1
  refine cl_post (eX12_guards hd hM q1 hn q2 hw) ?_
  rintro v s ⟨r, rfl, hr, B1, hM1, hg⟩
  have hf : frm [0] α (upd α 0 (nI 0)) := frm.rf.up (by decide)
  exact ⟨r, rfl, hr, _, _, hM1, ⟨(cgN q1 hf (by decide)), (cgB q2 hg (by decide)), (cgO q3 hg (by decide)), (cgG q4 hf hg (by decide) (by decide)), (cgD q5 hf hg (by decide) (by decide)), (cgY q6 hf hg (by decide) (by decide)), (cgSw q7 hf hg (by decide) (by decide)), (cgT q8 hf hg (by decide) (by decide)), (cgFf q9 hf (by decide)), (cgW q10 hf (by decide)), (cgS q11 hf (by decide)), (cgP q12 hf hg (by decide) (by decide))⟩⟩
theorem zX12_sweep {G : Gx} {d : Nat} {σ : Hp} {S : Ab} {m : Nat} (hd : 8 ≤ d) (hV : AbV S) (hS : MSt S σ σ m) {a : Int32} : Cl G mX12_sweep d [.ref m, .int a] σ 0 0 (pI fun r s => r = swF S.nb S.n a (fun _ k => nI k) ∧ MSt S σ s m) := by
  obtain ⟨α, B, hM, q1, q2, q3, q4, q5, q6, q7, q8, q9, q10, q11, q12⟩ := hS
  have hn := hV.1.1.1
  have hw := net_lt hV.1
  have hN := hV.1.1
  refine cl_post (eX12_sweep hd hM q1 hn q2 hw q3 q4 hN q7) ?_
  rintro v s ⟨r, rfl, hr, α1, B1, ⟨hM1, hf, hg, hSw, hG⟩, -⟩
  exact ⟨r, rfl, hr, _, _, hM1, ⟨(cgN q1 hf (by decide)), (cgB q2 hg (by decide)), (cgO q3 hg (by decide)), hG, (cgD q5 hf hg (by decide) (by decide)), (cgY q6 hf hg (by decide) (by decide)), hSw, (cgT q8 hf hg (by decide) (by decide)), (cgFf q9 hf (by decide)), (cgW q10 hf (by decide)), (cgS q11 hf (by decide)), (cgP q12 hf hg (by decide) (by decide))⟩⟩
theorem zX12_swept {G : Gx} {d : Nat} {σ : Hp} {S : Ab} {m : Nat} (hd : 8 ≤ d) (hV : AbV S) (hS : MSt S σ σ m) {a b c : Int32} : Cl G mX12_swept d [.ref m, .int a, .int b, .int c] σ 0 0 (pI fun r s => r = swF S.nb S.n a (fun h k => atP b (k + 1) (fun r => atP c h (fun j => nI (rk (rowAt (rowsL h S.n) (swY S.nb S.n h k r).1) j)) (-1)) (-1)) ∧ MSt S σ s m) := by
  obtain ⟨α, B, hM, q1, q2, q3, q4, q5, q6, q7, q8, q9, q10, q11, q12⟩ := hS
  have hn := hV.1.1.1
  have hw := net_lt hV.1
  have hN := hV.1.1
  refine cl_post (eX12_swept hd hM q1 hn q2 hw q3 q4 hN q7) ?_
  rintro v s ⟨r, rfl, hr, α1, B1, ⟨hM1, hf, hg, hSw, hG⟩, -⟩
  exact ⟨r, rfl, hr, _, _, hM1, ⟨(cgN q1 hf (by decide)), (cgB q2 hg (by decide)), (cgO q3 hg (by decide)), hG, (cgD q5 hf hg (by decide) (by decide)), (cgY q6 hf hg (by decide) (by decide)), hSw, (cgT q8 hf hg (by decide) (by decide)), (cgFf q9 hf (by decide)), (cgW q10 hf (by decide)), (cgS q11 hf (by decide)), (cgP q12 hf hg (by decide) (by decide))⟩⟩
noncomputable def aScene (S : Ab) (w : Int32) : Int32 := match S.sc with
  | none => -2
  | some s => snF S.nb S.n s.kd s.h s.ρ s.p s.t s.b w
noncomputable def aBest (S : Ab) (w : Int32) : Int32 := match S.sc with
  | none => -1
  | some s => bsF S.nb S.n s.kd s.h s.ρ s.p s.t w
noncomputable def aSafe (S : Ab) : Int32 := match S.sc with
  | none => -1
  | some s => sfF S.nb S.n s.kd s.h s.ρ s.p s.t
theorem zX12_scene {G : Gx} {d : Nat} {σ : Hp} {S : Ab} {m : Nat} (hd : 8 ≤ d) (hV : AbV S) (hS : MSt S σ σ m) {w : Int32} : Cl G mX12_scene d [.ref m, .int w] σ 0 0 (pI fun r s => r = aScene S w ∧ MSt S σ s m) := by
  obtain ⟨α, B, hM, q1, q2, q3, q4, q5, q6, q7, q8, q9, q10, q11, q12⟩ := hS
  have hn := hV.1.1.1
  have hw := net_lt hV.1
  have hN := hV.1.1
  cases hsc : S.sc with
  | none =>
    have h46 : α 46 = nI 0 := by have := q11; unfold qS at this; rw [hsc] at this; exact this
    refine cl_post (eX12_scene0 (by omega) hM h46) ?_
    rintro v s ⟨r, rfl, hr, hM1⟩
    have hf : frm [0] α (upd α 0 (nI 0)) := frm.rf.up (by decide)
    have hg : frm [] B B := frm.rf
    exact ⟨r, rfl, by unfold aScene; rw [hsc]; exact hr, _, _, hM1, ⟨(cgN q1 hf (by decide)), (cgB q2 hg (by decide)), (cgO q3 hg (by decide)), (cgG q4 hf hg (by decide) (by decide)), (cgD q5 hf hg (by decide) (by decide)), (cgY q6 hf hg (by decide) (by decide)), (cgSw q7 hf hg (by decide) (by decide)), (cgT q8 hf hg (by decide) (by decide)), (cgFf q9 hf (by decide)), (cgW q10 hf (by decide)), (cgS q11 hf (by decide)), (cgP q12 hf hg (by decide) (by decide))⟩⟩
  | some s =>
    obtain ⟨v1, v2, v3, v4, v5, v6⟩ : s.kd < 3 ∧ 1 ≤ s.h ∧ s.h ≤ 3 ∧ s.ρ ∈ rowsL s.h S.n ∧ s.p < S.n ∧ s.t ≤ 1 := by have := hV.2.1; rw [hsc] at this; exact this
    have q11b := q11
    unfold qS at q11b
    rw [hsc] at q11b
    obtain ⟨h46, hscn, h54⟩ := q11b
    have hscn : SCN α s.kd s.h s.ρ s.p s.t := hscn
    refine cl_post (eX12_scene hd hM q1 hn q2 hw q3 q4 hscn v1 v2 v3 v4 v5 v6 h46 h54) ?_
    rintro v s2 ⟨r, rfl, hr, α1, B1, hM1, hf, hg, -, hG⟩
    exact ⟨r, rfl, by unfold aScene; rw [hsc]; exact hr, _, _, hM1, ⟨(cgN q1 hf (by decide)), (cgB q2 hg (by decide)), (cgO q3 hg (by decide)), hG, (cgD q5 hf hg (by decide) (by decide)), (cgY q6 hf hg (by decide) (by decide)), (cgSw q7 hf hg (by decide) (by decide)), (cgT q8 hf hg (by decide) (by decide)), (cgFf q9 hf (by decide)), (cgW q10 hf (by decide)), (cgS q11 hf (by decide)), (cgP q12 hf hg (by decide) (by decide))⟩⟩
theorem zX12_best {G : Gx} {d : Nat} {σ : Hp} {S : Ab} {m : Nat} (hd : 7 ≤ d) (hV : AbV S) (hS : MSt S σ σ m) {w : Int32} : Cl G mX12_best d [.ref m, .int w] σ 0 0 (pI fun r s => r = aBest S w ∧ MSt S σ s m) := by
  obtain ⟨α, B, hM, q1, q2, q3, q4, q5, q6, q7, q8, q9, q10, q11, q12⟩ := hS
  have hn := hV.1.1.1
  have hw := net_lt hV.1
  have hN := hV.1.1
  cases hsc : S.sc with
  | none =>
    have h46 : α 46 = nI 0 := by have := q11; unfold qS at this; rw [hsc] at this; exact this
    refine cl_post (eX12_best0 (by omega) hM h46) ?_
    rintro v s ⟨r, rfl, hr, hM1⟩
    have hf : frm [0] α (upd α 0 (nI 0)) := frm.rf.up (by decide)
    have hg : frm [] B B := frm.rf
    exact ⟨r, rfl, by unfold aBest; rw [hsc]; exact hr, _, _, hM1, ⟨(cgN q1 hf (by decide)), (cgB q2 hg (by decide)), (cgO q3 hg (by decide)), (cgG q4 hf hg (by decide) (by decide)), (cgD q5 hf hg (by decide) (by decide)), (cgY q6 hf hg (by decide) (by decide)), (cgSw q7 hf hg (by decide) (by decide)), (cgT q8 hf hg (by decide) (by decide)), (cgFf q9 hf (by decide)), (cgW q10 hf (by decide)), (cgS q11 hf (by decide)), (cgP q12 hf hg (by decide) (by decide))⟩⟩
  | some s =>
    obtain ⟨v1, v2, v3, v4, v5, v6⟩ : s.kd < 3 ∧ 1 ≤ s.h ∧ s.h ≤ 3 ∧ s.ρ ∈ rowsL s.h S.n ∧ s.p < S.n ∧ s.t ≤ 1 := by have := hV.2.1; rw [hsc] at this; exact this
    have q11b := q11
    unfold qS at q11b
    rw [hsc] at q11b
    obtain ⟨h46, hscn, h54⟩ := q11b
    have hscn : SCN α s.kd s.h s.ρ s.p s.t := hscn
    refine cl_post (eX12_best hd hM q1 hn q2 hw q3 q4 hN hscn v1 v2 v3 v4 v5 v6 h46) ?_
    rintro v s2 ⟨r, rfl, hr, α1, B1, hM1, hf, hg, -, hG⟩
    exact ⟨r, rfl, by unfold aBest; rw [hsc]; exact hr, _, _, hM1, ⟨(cgN q1 hf (by decide)), (cgB q2 hg (by decide)), (cgO q3 hg (by decide)), hG, (cgD q5 hf hg (by decide) (by decide)), (cgY q6 hf hg (by decide) (by decide)), (cgSw q7 hf hg (by decide) (by decide)), (cgT q8 hf hg (by decide) (by decide)), (cgFf q9 hf (by decide)), (cgW q10 hf (by decide)), (cgS q11 hf (by decide)), (cgP q12 hf hg (by decide) (by decide))⟩⟩
theorem zX12_safe {G : Gx} {d : Nat} {σ : Hp} {S : Ab} {m : Nat} (hd : 7 ≤ d) (hV : AbV S) (hS : MSt S σ σ m) : Cl G mX12_safe d [.ref m] σ 0 0 (pI fun r s => r = aSafe S ∧ MSt S σ s m) := by
  obtain ⟨α, B, hM, q1, q2, q3, q4, q5, q6, q7, q8, q9, q10, q11, q12⟩ := hS
  have hn := hV.1.1.1
  have hw := net_lt hV.1
  have hN := hV.1.1
  cases hsc : S.sc with
  | none =>
    have h46 : α 46 = nI 0 := by have := q11; unfold qS at this; rw [hsc] at this; exact this
    refine cl_post (eX12_safe0 (by omega) hM h46) ?_
    rintro v s ⟨r, rfl, hr, hM1⟩
    have hf : frm [0] α (upd α 0 (nI 0)) := frm.rf.up (by decide)
    have hg : frm [] B B := frm.rf
    exact ⟨r, rfl, by unfold aSafe; rw [hsc]; exact hr, _, _, hM1, ⟨(cgN q1 hf (by decide)), (cgB q2 hg (by decide)), (cgO q3 hg (by decide)), (cgG q4 hf hg (by decide) (by decide)), (cgD q5 hf hg (by decide) (by decide)), (cgY q6 hf hg (by decide) (by decide)), (cgSw q7 hf hg (by decide) (by decide)), (cgT q8 hf hg (by decide) (by decide)), (cgFf q9 hf (by decide)), (cgW q10 hf (by decide)), (cgS q11 hf (by decide)), (cgP q12 hf hg (by decide) (by decide))⟩⟩
  | some s =>
    obtain ⟨v1, v2, v3, v4, v5, v6⟩ : s.kd < 3 ∧ 1 ≤ s.h ∧ s.h ≤ 3 ∧ s.ρ ∈ rowsL s.h S.n ∧ s.p < S.n ∧ s.t ≤ 1 := by have := hV.2.1; rw [hsc] at this; exact this
    have q11b := q11
    unfold qS at q11b
    rw [hsc] at q11b
    obtain ⟨h46, hscn, h54⟩ := q11b
    have hscn : SCN α s.kd s.h s.ρ s.p s.t := hscn
    refine cl_post (eX12_safe hd hM q1 hn q2 hw q3 q4 hscn v1 v2 v3 v4 v5 v6 h46) ?_
    rintro v s2 ⟨r, rfl, hr, α1, B1, hM1, hf, hg, -, hG⟩
    exact ⟨r, rfl, by unfold aSafe; rw [hsc]; exact hr, _, _, hM1, ⟨(cgN q1 hf (by decide)), (cgB q2 hg (by decide)), (cgO q3 hg (by decide)), hG, (cgD q5 hf hg (by decide) (by decide)), (cgY q6 hf hg (by decide) (by decide)), (cgSw q7 hf hg (by decide) (by decide)), (cgT q8 hf hg (by decide) (by decide)), (cgFf q9 hf (by decide)), (cgW q10 hf (by decide)), (cgS q11 hf (by decide)), (cgP q12 hf hg (by decide) (by decide))⟩⟩
