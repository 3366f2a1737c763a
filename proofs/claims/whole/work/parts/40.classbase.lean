/-! THE CLASS: views of cells, frames -/
/-- nothing but the cells of S has changed, nothing is new -/
def fr (S : List Nat) (σ s : Hp) : Prop := s.1 = σ.1 ∧ ∀ k, k ∉ S → s.2 k = σ.2 k
theorem fr.rf {S : List Nat} {σ : Hp} : fr S σ σ := ⟨rfl, fun _ _ => rfl⟩
theorem fr.tr {S T : List Nat} {σ s t : Hp} (a : fr S σ s) (b : fr T s t) (h : ∀ j ∈ T, j ∈ S) : fr S σ t := ⟨b.1.trans a.1, fun k hk => (b.2 k (fun q => hk (h k q))).trans (a.2 k hk)⟩
theorem fr.mono {S T : List Nat} {σ s : Hp} (a : fr S σ s) (h : ∀ j ∈ S, j ∈ T) : fr T σ s := ⟨a.1, fun k hk => a.2 k (fun q => hk (h k q))⟩
/-- the same, and cells may be new -/
def fA (S : List Nat) (σ s : Hp) : Prop := σ.1 ≤ s.1 ∧ ∀ k, k < σ.1 → k ∉ S → s.2 k = σ.2 k
theorem fr.A {S : List Nat} {σ s : Hp} (a : fr S σ s) : fA S σ s := ⟨by rw [a.1]; exact Nat.le_refl _, fun k _ hk => a.2 k hk⟩
theorem fA.rf {S : List Nat} {σ : Hp} : fA S σ σ := ⟨Nat.le_refl _, fun _ _ _ => rfl⟩
theorem fA.tr {S T : List Nat} {σ s t : Hp} (a : fA S σ s) (b : fA T s t) (h : ∀ j ∈ T, j ∈ S) : fA S σ t := ⟨Nat.le_trans a.1 b.1, fun k h1 hk => (b.2 k (Nat.lt_of_lt_of_le h1 a.1) (fun q => hk (h k q))).trans (a.2 k h1 hk)⟩
/-- what is written of the new cells doesn't matter -/
theorem fA.trN {S T : List Nat} {σ s t : Hp} (a : fA S σ s) (b : fA T s t) (h : ∀ j ∈ T, j ∈ S ∨ σ.1 ≤ j) : fA S σ t := by
  refine ⟨Nat.le_trans a.1 b.1, fun k h1 hk => ?_⟩
  have hT : k ∉ T := fun q => by
    rcases h k q with z | z
    · exact hk z
    · omega
  exact (b.2 k (Nat.lt_of_lt_of_le h1 a.1) hT).trans (a.2 k h1 hk)
theorem fA.mono {S T : List Nat} {σ s : Hp} (a : fA S σ s) (h : ∀ j ∈ S, j ∈ T) : fA T σ s := ⟨a.1, fun k h1 hk => a.2 k h1 (fun q => hk (h k q))⟩
theorem fA.new {S : List Nat} {σ : Hp} {e : va_E} : fA S σ (hnew σ e) := ⟨Nat.le_succ _, fun k hk _ => by
  have : k ≠ σ.1 := by omega
  simp [hnew, va_up, this]⟩
theorem hnew_at {σ : Hp} {e : va_E} : (hnew σ e).2 σ.1 = e := by simp [hnew, va_up]
theorem fr.set {S : List Nat} {σ : Hp} {k : Nat} {e : va_E} (h : k ∈ S) : fr S σ (hset σ k e) := ⟨rfl, fun j hj => hset_ne (fun q => hj (q ▸ h))⟩
/-- an object -/
def OB (σ : Hp) (k ci : Nat) (fs : List Value) : Prop := σ.2 k = .inr (ci, fs)
/-- an array of naturals, of places or -1, of yes or no, of numbers -/
def AI (σ : Hp) (k L : Nat) (g : Nat → Nat) : Prop := ∃ f, σ.2 k = .inl (0, L, .inl f) ∧ ∀ i, i < L → f i = nI (g i)
def AO (σ : Hp) (k L : Nat) (g : Nat → Option Nat) : Prop := ∃ f, σ.2 k = .inl (0, L, .inl f) ∧ ∀ i, i < L → f i = oI (g i)
def AB (σ : Hp) (k L : Nat) (g : Nat → Bool) : Prop := ∃ f, σ.2 k = .inl (1, L, .inl f) ∧ ∀ i, i < L → f i = bI (g i = true)
def AR (σ : Hp) (k t L : Nat) (g : Nat → Nat) : Prop := ∃ f, σ.2 k = .inl (t, L, .inr (.inr (.inr (.inr f)))) ∧ ∀ i, i < L → f i = some (g i)
theorem OB.fr {σ s : Hp} {S : List Nat} {k ci : Nat} {fs : List Value} (h : OB σ k ci fs) (f : fr S σ s) (hk : k ∉ S) : OB s k ci fs := (f.2 k hk).trans h
theorem AI.fr {σ s : Hp} {S : List Nat} {k L : Nat} {g : Nat → Nat} (h : AI σ k L g) (f : fr S σ s) (hk : k ∉ S) : AI s k L g := by obtain ⟨a, h1, h2⟩ := h; exact ⟨a, (f.2 k hk).trans h1, h2⟩
theorem AO.fr {σ s : Hp} {S : List Nat} {k L : Nat} {g : Nat → Option Nat} (h : AO σ k L g) (f : fr S σ s) (hk : k ∉ S) : AO s k L g := by obtain ⟨a, h1, h2⟩ := h; exact ⟨a, (f.2 k hk).trans h1, h2⟩
theorem AB.fr {σ s : Hp} {S : List Nat} {k L : Nat} {g : Nat → Bool} (h : AB σ k L g) (f : fr S σ s) (hk : k ∉ S) : AB s k L g := by obtain ⟨a, h1, h2⟩ := h; exact ⟨a, (f.2 k hk).trans h1, h2⟩
theorem AR.fr {σ s : Hp} {S : List Nat} {k t L : Nat} {g : Nat → Nat} (h : AR σ k t L g) (f : fr S σ s) (hk : k ∉ S) : AR s k t L g := by obtain ⟨a, h1, h2⟩ := h; exact ⟨a, (f.2 k hk).trans h1, h2⟩
theorem OB.fA {σ s : Hp} {S : List Nat} {k ci : Nat} {fs : List Value} (h : OB σ k ci fs) (f : fA S σ s) (hl : k < σ.1) (hk : k ∉ S) : OB s k ci fs := (f.2 k hl hk).trans h
theorem AI.fA {σ s : Hp} {S : List Nat} {k L : Nat} {g : Nat → Nat} (h : AI σ k L g) (f : fA S σ s) (hl : k < σ.1) (hk : k ∉ S) : AI s k L g := by obtain ⟨a, h1, h2⟩ := h; exact ⟨a, (f.2 k hl hk).trans h1, h2⟩
theorem AO.fA {σ s : Hp} {S : List Nat} {k L : Nat} {g : Nat → Option Nat} (h : AO σ k L g) (f : fA S σ s) (hl : k < σ.1) (hk : k ∉ S) : AO s k L g := by obtain ⟨a, h1, h2⟩ := h; exact ⟨a, (f.2 k hl hk).trans h1, h2⟩
theorem AB.fA {σ s : Hp} {S : List Nat} {k L : Nat} {g : Nat → Bool} (h : AB σ k L g) (f : fA S σ s) (hl : k < σ.1) (hk : k ∉ S) : AB s k L g := by obtain ⟨a, h1, h2⟩ := h; exact ⟨a, (f.2 k hl hk).trans h1, h2⟩
theorem AR.fA {σ s : Hp} {S : List Nat} {k t L : Nat} {g : Nat → Nat} (h : AR σ k t L g) (f : fA S σ s) (hl : k < σ.1) (hk : k ∉ S) : AR s k t L g := by obtain ⟨a, h1, h2⟩ := h; exact ⟨a, (f.2 k hl hk).trans h1, h2⟩
theorem AI.cg {σ : Hp} {k L : Nat} {g g2 : Nat → Nat} (h : AI σ k L g) (e : ∀ i, i < L → g i = g2 i) : AI σ k L g2 := by obtain ⟨a, h1, h2⟩ := h; exact ⟨a, h1, fun i hi => by rw [h2 i hi, e i hi]⟩
theorem AO.cg {σ : Hp} {k L : Nat} {g g2 : Nat → Option Nat} (h : AO σ k L g) (e : ∀ i, i < L → g i = g2 i) : AO σ k L g2 := by obtain ⟨a, h1, h2⟩ := h; exact ⟨a, h1, fun i hi => by rw [h2 i hi, e i hi]⟩
theorem AB.cg {σ : Hp} {k L : Nat} {g g2 : Nat → Bool} (h : AB σ k L g) (e : ∀ i, i < L → g i = g2 i) : AB σ k L g2 := by obtain ⟨a, h1, h2⟩ := h; exact ⟨a, h1, fun i hi => by rw [h2 i hi, e i hi]⟩
theorem AI.O {σ : Hp} {k L : Nat} {g : Nat → Nat} (h : AI σ k L g) : AO σ k L (fun i => some (g i)) := by obtain ⟨a, h1, h2⟩ := h; exact ⟨a, h1, h2⟩
theorem bI_01 {p : Prop} [Decidable p] : vp_nar .boolean (bI p) = bI p := by unfold bI; split <;> decide
theorem bI_okv {p : Prop} [Decidable p] : okV .boolean (.int (bI p)) = true := by unfold bI; split <;> decide
section XRules
variable {G : Gx} {M M2 : Md} {d d0 pc i n k ci : Nat} {L st st0 fs : List Value} {σ : Hp} {mc ms mc1 ms1 mc2 ms2 : Nat} {Q : Option Value → Hp → Prop}
theorem wp_putX {j : Nat} {v : Value} {tj : FieldType} (F : FL M.1.cls i ci j tj false) (hd : decode M.2.1 pc = .ok (.putfield i, 3)) (hh : OB σ k ci fs) (hv : okV tj v = true) (hl : j < fs.length)
    (kk : ∀ s, fr [k] σ s → OB s k ci (fs.set j v) → Wp G M d (pc + 3) L st s mc ms Q) : Wp G M d pc L (v :: .ref k :: st) σ mc ms Q :=
  wp_put F hd hh hv hl (kk _ (fr.set (by simp)) hset_eq)
theorem wp_putFX {j : Nat} {v : Value} {tj : FieldType} (F : FF M.1.cls i ci j tj) (hd : decode M.2.1 pc = .ok (.putfield i, 3)) (hm : M.1.name = "<init>") (hh : OB σ k ci fs) (hv : okV tj v = true) (hl : j < fs.length)
    (kk : ∀ s, fr [k] σ s → OB s k ci (fs.set j v) → Wp G M d (pc + 3) L st s mc ms Q) : Wp G M d pc L (v :: .ref k :: st) σ mc ms Q :=
  wp_putF F hd hm hh hv hl (kk _ (fr.set (by simp)) hset_eq)
theorem wp_ialdA {N j : Nat} {g : Nat → Nat} (hd : decode M.2.1 pc = .ok (.iaload, 1)) (hh : AI σ k N g) (hj : j < N) (hn : N < 2 ^ 31)
    (kk : Wp G M d (pc + 1) L (.int (nI (g j)) :: st) σ mc ms Q) : Wp G M d pc L (.int (nI j) :: .ref k :: st) σ mc ms Q := by
  obtain ⟨f, h1, h2⟩ := hh
  exact wp_ialdN hd h1 hj hn (by rw [h2 j hj]; exact kk)
theorem wp_ialdO {N j : Nat} {g : Nat → Option Nat} (hd : decode M.2.1 pc = .ok (.iaload, 1)) (hh : AO σ k N g) (hj : j < N) (hn : N < 2 ^ 31)
    (kk : Wp G M d (pc + 1) L (.int (oI (g j)) :: st) σ mc ms Q) : Wp G M d pc L (.int (nI j) :: .ref k :: st) σ mc ms Q := by
  obtain ⟨f, h1, h2⟩ := hh
  exact wp_ialdN hd h1 hj hn (by rw [h2 j hj]; exact kk)
theorem wp_zaldB {N j : Nat} {g : Nat → Bool} (hd : decode M.2.1 pc = .ok (.baload, 1)) (hh : AB σ k N g) (hj : j < N) (hn : N < 2 ^ 31)
    (kk : Wp G M d (pc + 1) L (.int (bI (g j = true)) :: st) σ mc ms Q) : Wp G M d pc L (.int (nI j) :: .ref k :: st) σ mc ms Q := by
  obtain ⟨f, h1, h2⟩ := hh
  exact wp_zaldN hd h1 hj hn (by rw [h2 j hj]; exact kk)
theorem wp_aaldR {N j t : Nat} {Cn : String} {g : Nat → Nat} (hd : decode M.2.1 pc = .ok (.aaload, 1)) (hh : AR σ k t N g) (ht : t < 6) (hty : tyT t = .object Cn) (hj : j < N) (hn : N < 2 ^ 31)
    (kk : Wp G M d (pc + 1) L (.ref (g j) :: st) σ mc ms Q) : Wp G M d pc L (.int (nI j) :: .ref k :: st) σ mc ms Q := by
  obtain ⟨f, h1, h2⟩ := hh
  exact wp_aaldN hd h1 ht hty hj hn (h2 j hj) kk
theorem wp_iastA {N j v : Nat} {g : Nat → Nat} (hd : decode M.2.1 pc = .ok (.iastore, 1)) (hh : AI σ k N g) (hj : j < N) (hn : N < 2 ^ 31)
    (kk : ∀ s, fr [k] σ s → AI s k N (va_up g j v) → Wp G M d (pc + 1) L st s mc ms Q) : Wp G M d pc L (.int (nI v) :: .int (nI j) :: .ref k :: st) σ mc ms Q := by
  obtain ⟨f, h1, h2⟩ := hh
  refine wp_iastN hd h1 hj hn (kk _ (fr.set (by simp)) ⟨_, hset_eq, fun i hi => ?_⟩)
  by_cases e : i = j
  · simp [upd, va_up, e]
  · simp [upd, va_up, e, h2 i hi]
theorem wp_iastO {N j : Nat} {v : Option Nat} {g : Nat → Option Nat} (hd : decode M.2.1 pc = .ok (.iastore, 1)) (hh : AO σ k N g) (hj : j < N) (hn : N < 2 ^ 31)
    (kk : ∀ s, fr [k] σ s → AO s k N (va_up g j v) → Wp G M d (pc + 1) L st s mc ms Q) : Wp G M d pc L (.int (oI v) :: .int (nI j) :: .ref k :: st) σ mc ms Q := by
  obtain ⟨f, h1, h2⟩ := hh
  refine wp_iastN hd h1 hj hn (kk _ (fr.set (by simp)) ⟨_, hset_eq, fun i hi => ?_⟩)
  by_cases e : i = j
  · simp [upd, va_up, e]
  · simp [upd, va_up, e, h2 i hi]
theorem wp_zastB {N j : Nat} {v : Bool} {g : Nat → Bool} (hd : decode M.2.1 pc = .ok (.bastore, 1)) (hh : AB σ k N g) (hj : j < N) (hn : N < 2 ^ 31)
    (kk : ∀ s, fr [k] σ s → AB s k N (va_up g j v) → Wp G M d (pc + 1) L st s mc ms Q) : Wp G M d pc L (.int (bI (v = true)) :: .int (nI j) :: .ref k :: st) σ mc ms Q := by
  obtain ⟨f, h1, h2⟩ := hh
  refine wp_zastN hd h1 hj hn (kk _ (fr.set (by simp)) ⟨_, hset_eq, fun i hi => ?_⟩)
  by_cases e : i = j
  · simp [upd, va_up, e, bI_01]
  · simp [upd, va_up, e, h2 i hi]
theorem wp_cVr {P : Value → Hp → Prop} (hdd : d = d0 + 1) (as : List Value) (hd : decode M.2.1 pc = .ok (.invokevirtual i, 3)) (hm : MV M2 n) (hl : mLk M.1.cls i M2.1) (hst : st0 = as.reverse ++ .ref k :: st) (hn : as.length = n) (hcat : (st.map fun v => v.category).sum ≤ 8) (hk : OB σ k ci fs) (hcl : (clX[ci]?.map fun q => q.1) = some M2.1.cls) (hC : Cl G M2 d0 (.ref k :: as) σ mc1 ms1 (pR P)) (hmc : mc = mc1 + mc2) (hms : ms = ms1 + ms2)
    (kk : ∀ r s2, P r s2 → Wp G M d (pc + 3) L (r :: st) s2 mc2 ms2 Q) : Wp G M d pc L st0 σ mc ms Q := by
  subst hdd hmc hms
  exact wp_callV as hd hm hl hst hn hcat hk hcl hC (fun v σ2 hq => by obtain ⟨r, rfl, hp⟩ := hq; exact kk r σ2 hp)
theorem wp_cViA {P : Int32 → Hp → Prop} (hdd : d = d0 + 1) (as : List Value) (hd : decode M.2.1 pc = .ok (.invokevirtual i, 3)) (hm : MV M2 n) (hl : mLk M.1.cls i M2.1) (hst : st0 = as.reverse ++ .ref k :: st) (hn : as.length = n) (hcat : (st.map fun v => v.category).sum ≤ 8) (hk : OB σ k ci fs) (hcl : (clX[ci]?.map fun q => q.1) = some M2.1.cls) (hC : Cl G M2 d0 (.ref k :: as) σ mc1 ms1 (pI P)) (hmc : mc = mc1 + mc2) (hms : ms = ms1 + ms2)
    (kk : ∀ r s2, P r s2 → Wp G M d (pc + 3) L (.int r :: st) s2 mc2 ms2 Q) : Wp G M d pc L st0 σ mc ms Q := by
  subst hdd hmc hms
  exact wp_callV as hd hm hl hst hn hcat hk hcl hC (fun v σ2 hq => by obtain ⟨r, rfl, hp⟩ := hq; exact kk r σ2 hp)
theorem wp_cVvA {P : Hp → Prop} (hdd : d = d0 + 1) (as : List Value) (hd : decode M.2.1 pc = .ok (.invokevirtual i, 3)) (hm : MV M2 n) (hl : mLk M.1.cls i M2.1) (hst : st0 = as.reverse ++ .ref k :: st) (hn : as.length = n) (hcat : (st.map fun v => v.category).sum ≤ 8) (hk : OB σ k ci fs) (hcl : (clX[ci]?.map fun q => q.1) = some M2.1.cls) (hC : Cl G M2 d0 (.ref k :: as) σ mc1 ms1 (pV P)) (hmc : mc = mc1 + mc2) (hms : ms = ms1 + ms2)
    (kk : ∀ s2, P s2 → Wp G M d (pc + 3) L st s2 mc2 ms2 Q) : Wp G M d pc L st0 σ mc ms Q := by
  subst hdd hmc hms
  exact wp_callV as hd hm hl hst hn hcat hk hcl hC (fun v σ2 hq => by obtain ⟨rfl, hp⟩ := hq; exact kk σ2 hp)
theorem wp_cIv {P : Hp → Prop} (hdd : d = d0 + 1) (as : List Value) (hd : decode M.2.1 pc = .ok (.invokespecial i, 3)) (hm : MI M2 n) (hl : mLk M.1.cls i M2.1) (hst : st0 = as.reverse ++ .ref k :: st) (hn : as.length = n) (hcat : (st.map fun v => v.category).sum ≤ 8) (hC : Cl G M2 d0 (.ref k :: as) σ mc1 ms1 (pV P)) (hmc : mc = mc1 + mc2) (hms : ms = ms1 + ms2)
    (kk : ∀ s2, P s2 → Wp G M d (pc + 3) L st s2 mc2 ms2 Q) : Wp G M d pc L st0 σ mc ms Q := by
  subst hdd hmc hms
  exact wp_callI as hd hm hl hst hn hcat hC (fun v σ2 hq => by obtain ⟨rfl, hp⟩ := hq; exact kk σ2 hp)
theorem wp_aretr {v : Value} {nm : String} {P : Value → Hp → Prop} (hd : decode M.2.1 pc = .ok (.areturn, 1)) (hr : M.2.2.2 = some (.object nm)) (hv : v = .null ∨ ∃ k, v = .ref k) (hq : P v σ) : Wp G M d pc L [v] σ mc ms (pR P) := wp_aret hd hr hv ⟨v, rfl, hq⟩
end XRules
section XRules2
variable {G : Gx} {M M2 : Md} {d d0 pc i n k ci : Nat} {L st st0 fs : List Value} {σ : Hp} {mc ms mc1 ms1 mc2 ms2 : Nat} {Q : Option Value → Hp → Prop}
theorem wp_maxN {a b : Nat} (hdd : d = d0 + 1) (hd : decode M.2.1 pc = .ok (.invokestatic i, 3)) (hl : Cond.methodLink M.1.cls i Lib.Math.max.name ∈ lw_ok) (ha : a < 2 ^ 31) (hb : b < 2 ^ 31) (hcat : (st.map fun v => v.category).sum ≤ 8)
    (kk : Wp G M d (pc + 3) L (.int (nI (if a < b then b else a)) :: st) σ mc ms Q) : Wp G M d pc L (.int (nI b) :: .int (nI a) :: st) σ mc ms Q := wp_max hd hl (by omega) hcat (by
  have e : (if nI a < nI b then nI b else nI a) = nI (if a < b then b else a) := by
    by_cases h : a < b
    · rw [if_pos h, if_pos ((nI_ltI ha hb).mpr h)]
    · rw [if_neg h, if_neg (fun q => h ((nI_ltI ha hb).mp q))]
  rw [e]; exact kk)
theorem wp_minN {a b : Nat} (hdd : d = d0 + 1) (hd : decode M.2.1 pc = .ok (.invokestatic i, 3)) (hl : Cond.methodLink M.1.cls i Lib.Math.min.name ∈ lw_ok) (ha : a < 2 ^ 31) (hb : b < 2 ^ 31) (hcat : (st.map fun v => v.category).sum ≤ 8)
    (kk : Wp G M d (pc + 3) L (.int (nI (if b < a then b else a)) :: st) σ mc ms Q) : Wp G M d pc L (.int (nI b) :: .int (nI a) :: st) σ mc ms Q := wp_min hd hl (by omega) hcat (by
  have e : (if nI b < nI a then nI b else nI a) = nI (if b < a then b else a) := by
    by_cases h : b < a
    · rw [if_pos h, if_pos ((nI_ltI hb ha).mpr h)]
    · rw [if_neg h, if_neg (fun q => h ((nI_ltI hb ha).mp q))]
  rw [e]; exact kk)
theorem wp_lenA {N : Nat} {g : Nat → Nat} (hd : decode M.2.1 pc = .ok (.arraylength, 1)) (hh : AI σ k N g)
    (kk : Wp G M d (pc + 1) L (.int (nI N) :: st) σ mc ms Q) : Wp G M d pc L (.ref k :: st) σ mc ms Q := by
  obtain ⟨f, h1, h2⟩ := hh
  exact wp_alen hd h1 (by decide) kk
theorem wp_lenO {N : Nat} {g : Nat → Option Nat} (hd : decode M.2.1 pc = .ok (.arraylength, 1)) (hh : AO σ k N g)
    (kk : Wp G M d (pc + 1) L (.int (nI N) :: st) σ mc ms Q) : Wp G M d pc L (.ref k :: st) σ mc ms Q := by
  obtain ⟨f, h1, h2⟩ := hh
  exact wp_alen hd h1 (by decide) kk
theorem wp_lenR {N t : Nat} {g : Nat → Nat} (hd : decode M.2.1 pc = .ok (.arraylength, 1)) (hh : AR σ k t N g) (ht : t < 6)
    (kk : Wp G M d (pc + 1) L (.int (nI N) :: st) σ mc ms Q) : Wp G M d pc L (.ref k :: st) σ mc ms Q := by
  obtain ⟨f, h1, h2⟩ := hh
  exact wp_alen hd h1 ht kk
end XRules2
theorem eJ6_bitCount {G : Gx} {d : Nat} {σ : Hp} (hd : 0 ≤ d) {a : Nat} (ha : a < 512) : Cl G mJ6_bitCount_0f7a4 d [.int (nI a)] σ 0 0 (pI fun r s => r = nI (cnt a) ∧ s = σ) := by
  refine cl_of (by decide) (by simp [Value.category]) (Nat.le_of_ble_eq_true rfl) ?_
  show Wp G mJ6_bitCount_0f7a4 d 0 [.int (nI a)] [] σ 0 0 _
  refine wp_iload_n (atd dJ6_bitCount_0f7a4 0 rfl) rfl ?_
  refine wp_iload_n (atd dJ6_bitCount_0f7a4 1 rfl) rfl ?_
  refine wp_iconst (v := nI 1) (atd dJ6_bitCount_0f7a4 2 rfl) (by decide) ?_
  refine wp_iushr (atd dJ6_bitCount_0f7a4 3 rfl) ?_
  refine wp_ldcw (atd dJ6_bitCount_0f7a4 4 rfl) qJ6_265 ?_
  refine wp_iand (atd dJ6_bitCount_0f7a4 5 rfl) ?_
  refine wp_isub (atd dJ6_bitCount_0f7a4 6 rfl) ?_
  refine wp_istore_n (atd dJ6_bitCount_0f7a4 7 rfl) (Nat.le_of_ble_eq_true rfl) ?_
  refine wp_iload_n (atd dJ6_bitCount_0f7a4 8 rfl) rfl ?_
  refine wp_ldcw (atd dJ6_bitCount_0f7a4 9 rfl) qJ6_266 ?_
  refine wp_iand (atd dJ6_bitCount_0f7a4 10 rfl) ?_
  refine wp_iload_n (atd dJ6_bitCount_0f7a4 11 rfl) rfl ?_
  refine wp_iconst (v := nI 2) (atd dJ6_bitCount_0f7a4 12 rfl) (by decide) ?_
  refine wp_iushr (atd dJ6_bitCount_0f7a4 13 rfl) ?_
  refine wp_ldcw (atd dJ6_bitCount_0f7a4 14 rfl) qJ6_266 ?_
  refine wp_iand (atd dJ6_bitCount_0f7a4 15 rfl) ?_
  refine wp_iadd (atd dJ6_bitCount_0f7a4 16 rfl) ?_
  refine wp_istore_n (atd dJ6_bitCount_0f7a4 17 rfl) (Nat.le_of_ble_eq_true rfl) ?_
  refine wp_iload_n (atd dJ6_bitCount_0f7a4 18 rfl) rfl ?_
  refine wp_iload_n (atd dJ6_bitCount_0f7a4 19 rfl) rfl ?_
  refine wp_iconst (v := nI 4) (atd dJ6_bitCount_0f7a4 20 rfl) (by decide) ?_
  refine wp_iushr (atd dJ6_bitCount_0f7a4 21 rfl) ?_
  refine wp_iadd (atd dJ6_bitCount_0f7a4 22 rfl) ?_
  refine wp_ldcw (atd dJ6_bitCount_0f7a4 23 rfl) qJ6_267 ?_
  refine wp_iand (atd dJ6_bitCount_0f7a4 24 rfl) ?_
  refine wp_istore_n (atd dJ6_bitCount_0f7a4 25 rfl) (Nat.le_of_ble_eq_true rfl) ?_
  refine wp_iload_n (atd dJ6_bitCount_0f7a4 26 rfl) rfl ?_
  refine wp_iload_n (atd dJ6_bitCount_0f7a4 27 rfl) rfl ?_
  refine wp_bipush (v := nI 8) (atd dJ6_bitCount_0f7a4 28 rfl) (by decide) ?_
  refine wp_iushr (atd dJ6_bitCount_0f7a4 29 rfl) ?_
  refine wp_iadd (atd dJ6_bitCount_0f7a4 30 rfl) ?_
  refine wp_istore_n (atd dJ6_bitCount_0f7a4 31 rfl) (Nat.le_of_ble_eq_true rfl) ?_
  refine wp_iload_n (atd dJ6_bitCount_0f7a4 32 rfl) rfl ?_
  refine wp_iload_n (atd dJ6_bitCount_0f7a4 33 rfl) rfl ?_
  refine wp_bipush (v := nI 16) (atd dJ6_bitCount_0f7a4 34 rfl) (by decide) ?_
  refine wp_iushr (atd dJ6_bitCount_0f7a4 35 rfl) ?_
  refine wp_iadd (atd dJ6_bitCount_0f7a4 36 rfl) ?_
  refine wp_istore_n (atd dJ6_bitCount_0f7a4 37 rfl) (Nat.le_of_ble_eq_true rfl) ?_
  refine wp_iload_n (atd dJ6_bitCount_0f7a4 38 rfl) rfl ?_
  refine wp_bipush (v := nI 63) (atd dJ6_bitCount_0f7a4 39 rfl) (by decide) ?_
  refine wp_iand (atd dJ6_bitCount_0f7a4 40 rfl) ?_
  refine wp_ireti (atd dJ6_bitCount_0f7a4 41 rfl) rfl ?_
  refine ⟨?_, rfl⟩
  clear hd
  revert a
  decide +kernel
/-- an array of ints whose numbers don't matter -/
def AX (σ : Hp) (k L : Nat) : Prop := ∃ f, σ.2 k = .inl (0, L, .inl f)
theorem AX.fr {σ s : Hp} {S : List Nat} {k L : Nat} (h : AX σ k L) (f : fr S σ s) (hk : k ∉ S) : AX s k L := by obtain ⟨a, h1⟩ := h; exact ⟨a, (f.2 k hk).trans h1⟩
theorem AX.fA {σ s : Hp} {S : List Nat} {k L : Nat} (h : AX σ k L) (f : fA S σ s) (hl : k < σ.1) (hk : k ∉ S) : AX s k L := by obtain ⟨a, h1⟩ := h; exact ⟨a, (f.2 k hl hk).trans h1⟩
theorem AI.X {σ : Hp} {k L : Nat} {g : Nat → Nat} (h : AI σ k L g) : AX σ k L := by obtain ⟨a, h1, -⟩ := h; exact ⟨a, h1⟩
theorem AO.X {σ : Hp} {k L : Nat} {g : Nat → Option Nat} (h : AO σ k L g) : AX σ k L := by obtain ⟨a, h1, -⟩ := h; exact ⟨a, h1⟩
def AK (σ : Hp) (k L : Nat) (x : Int32) : Prop := ∃ f, σ.2 k = .inl (0, L, .inl f) ∧ ∀ i, i < L → f i = x
theorem AK.I {σ : Hp} {k L x : Nat} (h : AK σ k L (nI x)) : AI σ k L (fun _ => x) := h
theorem AK.O {σ : Hp} {k L : Nat} (h : AK σ k L (-1)) : AO σ k L (fun _ => none) := h
theorem lJ7_fill {G : Gx} {d : Nat} {σ0 : Hp} {k L : Nat} {x : Int32} (hL : L < 2 ^ 31) : ∀ (n i : Nat) (σ : Hp) (f : Nat → Int32), i + n = L → σ.2 k = .inl (0, L, .inl f) → (∀ j, j < i → f j = x) → fr [k] σ0 σ → Wp G mJ7_fill_53178 d 5 [.ref k, .int x, .int (nI i), .int (nI L)] [] σ 0 0 (pV fun s => fr [k] σ0 s ∧ AK s k L x) := by
  intro n
  induction n with
  | zero =>
    intro i σ f hi hh hg hF
    refine wp_iload_n (atd dJ7_fill_53178 5 rfl) rfl ?_
    refine wp_iload_n (atd dJ7_fill_53178 6 rfl) rfl ?_
    refine wp_icmpN_ge (tgt := 20) (atd dJ7_fill_53178 7 rfl) (by decide) (by omega) (by omega) (fun c => ?_) (fun c => ?_)
    · refine wp_vretv (atd dJ7_fill_53178 14 rfl) rfl ?_
      exact ⟨hF, f, hh, fun j hj => hg j (by omega)⟩
    · exfalso; omega
  | succ n ih =>
    intro i σ f hi hh hg hF
    refine wp_iload_n (atd dJ7_fill_53178 5 rfl) rfl ?_
    refine wp_iload_n (atd dJ7_fill_53178 6 rfl) rfl ?_
    refine wp_icmpN_ge (tgt := 20) (atd dJ7_fill_53178 7 rfl) (by decide) (by omega) (by omega) (fun c => ?_) (fun c => ?_)
    · exfalso; omega
    · refine wp_aload_n (atd dJ7_fill_53178 8 rfl) rfl rfl ?_
      refine wp_iload_n (atd dJ7_fill_53178 9 rfl) rfl ?_
      refine wp_iload_n (atd dJ7_fill_53178 10 rfl) rfl ?_
      refine wp_iastN (atd dJ7_fill_53178 11 rfl) hh (by omega) hL ?_
      refine wp_iincN (c := 1) (atd dJ7_fill_53178 12 rfl) rfl ?_
      refine wp_goto (tgt := 5) (atd dJ7_fill_53178 13 rfl) (by decide) ?_
      exact ih (i + 1) _ _ (by omega) hset_eq (fun j hj => by
        by_cases e : j = i
        · simp [upd, e]
        · simp only [upd, if_neg e]; exact hg j (by omega)) (hF.tr (fr.set (S := [k]) (by simp)) (by simp))
theorem eJ7_fill {G : Gx} {d : Nat} {σ : Hp} {k L : Nat} {x : Int32} (hL : L < 2 ^ 31) (h : AX σ k L) : Cl G mJ7_fill_53178 d [.ref k, .int x] σ 0 0 (pV fun s => fr [k] σ s ∧ AK s k L x) := by
  obtain ⟨f, hh⟩ := h
  refine cl_of (by decide) (by simp [Value.category]) (Nat.le_of_ble_eq_true rfl) ?_
  show Wp G mJ7_fill_53178 d 0 [.ref k, .int x, .double 0, .double 0] [] σ 0 0 _
  refine wp_iconst (v := nI 0) (atd dJ7_fill_53178 0 rfl) (by decide) ?_
  refine wp_istore_n (atd dJ7_fill_53178 1 rfl) (Nat.le_of_ble_eq_true rfl) ?_
  refine wp_aload_n (atd dJ7_fill_53178 2 rfl) rfl rfl ?_
  refine wp_alen (atd dJ7_fill_53178 3 rfl) hh (by decide) ?_
  refine wp_istore_n (atd dJ7_fill_53178 4 rfl) (Nat.le_of_ble_eq_true rfl) ?_
  exact lJ7_fill hL L 0 σ f (by omega) hh (fun j hj => absurd hj (Nat.not_lt_zero j)) fr.rf
