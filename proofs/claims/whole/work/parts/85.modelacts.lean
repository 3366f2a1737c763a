/-! acts over the abstract state, and the reference's -/
def Ab.psK (S : Ab) : List Rec := (if S.ps.length = 12 then S.ps.tail else S.ps) ++ [Rec.mk S.n S.nb S.sc]
def Ab.act (S : Ab) (sc : Option Scn) : Ab := Ab.mk S.n S.nb sc S.td S.tp S.fk S.fp S.psK
def Ab.nnet (S : Ab) (n : Nat) (nb : Nat → Nat) : Ab := Ab.mk n nb none S.td S.tp S.fk S.fp S.psK
theorem psK_len {S : Ab} : S.psK.length = ka S.ps.length := by
  unfold Ab.psK ka
  by_cases h12 : S.ps.length = 12
  · rw [if_pos h12, if_pos h12, List.length_append, List.length_tail]; simp [h12]
  · rw [if_neg h12, if_neg h12, List.length_append]; rfl
theorem psK_get {S : Ab} {i : Nat} {r : Rec} (hr : S.psK[i]? = some r) : (i + 1 = ka S.ps.length ∧ r = Rec.mk S.n S.nb S.sc) ∨ (i + 1 < ka S.ps.length ∧ S.ps[i + (if S.ps.length = 12 then 1 else 0)]? = some r) := by
  unfold Ab.psK at hr
  unfold ka
  by_cases h12 : S.ps.length = 12
  · rw [if_pos h12] at hr
    rw [if_pos h12, if_pos h12]
    have hl : S.ps.tail.length = 11 := by simp [h12]
    rw [List.getElem?_append] at hr
    by_cases hi : i < S.ps.tail.length
    · rw [if_pos hi, List.getElem?_tail] at hr
      exact Or.inr ⟨by omega, hr⟩
    · rw [if_neg hi, List.getElem?_singleton] at hr
      by_cases h0 : i - S.ps.tail.length = 0
      · rw [if_pos h0] at hr; injection hr with hr; exact Or.inl ⟨by omega, hr.symm⟩
      · rw [if_neg h0] at hr; cases hr
  · rw [if_neg h12] at hr
    rw [if_neg h12, if_neg h12]
    rw [List.getElem?_append] at hr
    by_cases hi : i < S.ps.length
    · rw [if_pos hi] at hr
      exact Or.inr ⟨by omega, hr⟩
    · rw [if_neg hi, List.getElem?_singleton] at hr
      by_cases h0 : i - S.ps.length = 0
      · rw [if_pos h0] at hr; injection hr with hr; exact Or.inl ⟨by omega, hr.symm⟩
      · rw [if_neg h0] at hr; cases hr
theorem psK_V {S : Ab} (hV : AbV S) : S.psK.length ≤ 12 ∧ ∀ r ∈ S.psK, RcV r := by
  obtain ⟨h1, h2, h3, h4, h5, h6⟩ := hV
  refine ⟨?_, fun r hr => ?_⟩
  · rw [psK_len]; unfold ka; split <;> omega
  · unfold Ab.psK at hr
    rcases List.mem_append.mp hr with h | h
    · by_cases h12 : S.ps.length = 12
      · rw [if_pos h12] at h; exact h6 r (List.mem_of_mem_tail h)
      · rw [if_neg h12] at h; exact h6 r h
    · rw [List.mem_singleton] at h; subst h; exact ⟨h1, h2⟩
theorem act_V {S : Ab} (hV : AbV S) {sc : Option Scn} (h : ScV S.n sc) : AbV (S.act sc) := ⟨hV.1, h, hV.2.2.1, hV.2.2.2.1, psK_V hV⟩
theorem nnet_V {S : Ab} (hV : AbV S) {n : Nat} {nb : Nat → Nat} (h : isNetZ n nb) : AbV (S.nnet n nb) := ⟨h, trivial, hV.2.2.1, hV.2.2.2.1, psK_V hV⟩
section MQ
variable {S : Ab} {α α1 : Nat → Int32} {B B1 : Nat → Nat → Int32} {F T : List Nat}
theorem keep_P (hV : AbV S) (q1 : α 2 = nI S.n) (q2 : ∀ p, p < S.n → B 1 p = nI (S.nb p)) (q11 : qS S α) (q12 : qP S α B) (h57 : α1 57 = nI (ka S.ps.length)) (hK : KP B S.ps.length (rcd α B) B1) : α1 57 = nI S.psK.length ∧ KL B1 S.psK := by
  refine ⟨by rw [psK_len]; exact h57, fun i r hr => ?_⟩
  have hn := hV.1.1.1
  rcases psK_get hr with ⟨hi, rfl⟩ | ⟨hi, hr⟩
  · have ei : i = (if S.ps.length = 12 then 11 else S.ps.length) := by unfold ka at hi; omega
    have hrc : RcA (rcd α B) (Rec.mk S.n S.nb S.sc) := by
      refine ⟨q1, fun p hp => ?_, ?_⟩
      · have hp : p < S.n := hp
        unfold rcd; rw [if_neg (by omega), if_pos (by omega)]; rw [show 1 + p - 1 = p from by omega]; exact q2 p hp
      · exact ScR.cg (sc := S.sc) q11 (fun j h1 h2 => by unfold rcd; rw [if_neg (by omega), if_neg (by omega)])
    refine hrc.cg hn (fun j hj => ?_)
    rw [ei]
    exact hK.1 j hj
  · have hl : i < (if S.ps.length = 12 then 11 else S.ps.length) := by unfold ka at hi; omega
    refine (q12.2 _ r hr).cg (hV.2.2.2.2.2 r (List.mem_of_getElem? hr)).1.1.1 (fun j hj => ?_)
    refine (hK.2 (20 * i + j) (by omega)).trans ?_
    by_cases h12 : S.ps.length = 12
    · rw [if_pos h12]; refine (if_pos h12).trans ?_; congr 1; omega
    · rw [if_neg h12]; exact (if_neg h12).trans rfl
theorem MQ_same (h : MQr S α B) (f : frm F α α1) (g : frm T B B1) (hG : GOk α1 B1 S.nb S.n) (hF : ∀ k ∈ [2, 17, 24, 25, 18, 41, 21, 45, 6, 12, 13, 15, 46, 47, 48, 49, 50, 51, 52, 53, 54, 57], k ∉ F := by decide) (hT : ∀ k ∈ [1, 8, 5, 6, 14, 17, 2, 18], k ∉ T := by decide) : MQr S α1 B1 := by
  obtain ⟨q1, q2, q3, q4, q5, q6, q7, q8, q9, q10, q11, q12⟩ := h
  have sF : ∀ {L : List Nat}, (∀ k ∈ L, k ∈ [2, 17, 24, 25, 18, 41, 21, 45, 6, 12, 13, 15, 46, 47, 48, 49, 50, 51, 52, 53, 54, 57]) → ∀ k ∈ L, k ∉ F := fun h k hk => hF k (h k hk)
  have sT : ∀ {L : List Nat}, (∀ k ∈ L, k ∈ [1, 8, 5, 6, 14, 17, 2, 18]) → ∀ k ∈ L, k ∉ T := fun h k hk => hT k (h k hk)
  exact ⟨cgN q1 f (hF _ (by decide)), cgB q2 g (hT _ (by decide)), cgO q3 g (hT _ (by decide)), hG, cgD q5 f g (sF (by decide)) (sT (by decide)), cgY q6 f g (sF (by decide)) (sT (by decide)), cgSw q7 f g (sF (by decide)) (sT (by decide)), cgT q8 f g (hF _ (by decide)) (hT _ (by decide)), cgFf q9 f (sF (by decide)), cgW q10 f (hF _ (by decide)), cgS q11 f (sF (by decide)), cgP q12 f g (hF _ (by decide)) (hT _ (by decide))⟩
theorem MQ_act (hV : AbV S) (h : MQr S α B) (f : frm F α α1) (g : frm T B B1) (hG : GOk α1 B1 S.nb S.n) {sc : Option Scn} (hsc : ScR (fun j => α1 (36 + j)) sc) (h57 : α1 57 = nI (ka S.ps.length)) (hK : KP B S.ps.length (rcd α B) B1) (hF : ∀ k ∈ [2, 17, 24, 25, 18, 41, 21, 45, 6, 12, 13, 15], k ∉ F := by decide) (hT : ∀ k ∈ [1, 8, 5, 6, 14, 17, 2], k ∉ T := by decide) : MQr (S.act sc) α1 B1 := by
  obtain ⟨q1, q2, q3, q4, q5, q6, q7, q8, q9, q10, q11, q12⟩ := h
  have sF : ∀ {L : List Nat}, (∀ k ∈ L, k ∈ [2, 17, 24, 25, 18, 41, 21, 45, 6, 12, 13, 15]) → ∀ k ∈ L, k ∉ F := fun h k hk => hF k (h k hk)
  have sT : ∀ {L : List Nat}, (∀ k ∈ L, k ∈ [1, 8, 5, 6, 14, 17, 2]) → ∀ k ∈ L, k ∉ T := fun h k hk => hT k (h k hk)
  exact ⟨cgN q1 f (hF _ (by decide)), cgB q2 g (hT _ (by decide)), cgO q3 g (hT _ (by decide)), hG, cgD q5 f g (sF (by decide)) (sT (by decide)), cgY q6 f g (sF (by decide)) (sT (by decide)), cgSw q7 f g (sF (by decide)) (sT (by decide)), cgT (A := S) q8 f g (hF _ (by decide)) (hT _ (by decide)), cgFf (A := S) q9 f (sF (by decide)), cgW q10 f (hF _ (by decide)), hsc, keep_P hV q1 q2 q11 q12 h57 hK⟩
theorem MQ_nnet (hV : AbV S) (h : MQr S α B) (f : frm F α α1) (g : frm T B B1) {n : Nat} {nb : Nat → Nat} (h2 : α1 2 = nI n) (hb : ∀ p, p < n → B1 1 p = nI (nb p)) (h17 : α1 17 = nI 0) (h18 : α1 18 = nI 0) (h19 : α1 19 = -1) (h21 : α1 21 = nI 0) (h46 : α1 46 = nI 0) (h57 : α1 57 = nI (ka S.ps.length)) (hK : KP B S.ps.length (rcd α B) B1) (hF : ∀ k ∈ [6, 12, 13, 15], k ∉ F := by decide) (hT : ∀ k ∈ [8, 2], k ∉ T := by decide) : MQr (S.nnet n nb) α1 B1 := by
  obtain ⟨q1, q2, q3, q4, q5, q6, q7, q8, q9, q10, q11, q12⟩ := h
  have sF : ∀ {L : List Nat}, (∀ k ∈ L, k ∈ [6, 12, 13, 15]) → ∀ k ∈ L, k ∉ F := fun h k hk => hF k (h k hk)
  exact ⟨h2, hb, cgO q3 g (hT _ (by decide)), Or.inl h19, Or.inl h17, Or.inl h18, Or.inl h21, cgT (A := S) q8 f g (hF _ (by decide)) (hT _ (by decide)), cgFf (A := S) q9 f (sF (by decide)), cgW q10 f (hF _ (by decide)), h46, keep_P hV q1 q2 q11 q12 h57 hK⟩
theorem qS_on (h : qS S α) : ∃ on, α 46 = nI on ∧ on ≤ 1 := by
  unfold qS at h
  cases hs : S.sc with
  | none => rw [hs] at h; exact ⟨0, h, by decide⟩
  | some s => rw [hs] at h; exact ⟨1, h.1, by decide⟩
end MQ
def Ab.beginF (S : Ab) (k a b c r : Int32) : Ab := match bgn S.n k a b c r with
  | none => S
  | some x => S.act (some (Scn.mk x.1 x.2.1 x.2.2.1 x.2.2.2 0 (nI 0)))
theorem zX12_begin {G : Gx} {d : Nat} {σ : Hp} {S : Ab} {m : Nat} (hd : 3 ≤ d) (hV : AbV S) (hS : MSt S σ σ m) {k a b c r : Int32} : Cl G mX12_begin d [.ref m, .int k, .int a, .int b, .int c, .int r] σ 0 0 (pI fun z s => z = bgA S.n k a b c r ∧ MSt (S.beginF k a b c r) σ s m) := by
  obtain ⟨α, B, hM, hQ⟩ := hS
  obtain ⟨q1, q2, q3, q4, q5, q6, q7, q8, q9, q10, q11, q12⟩ := id hQ
  have hn := hV.1.1.1
  obtain ⟨on, h46, hon⟩ := qS_on q11
  refine cl_post (eX12_begin hd hM q1 hn hV.2.2.2.2.1 q12.1 h46 hon) ?_
  rintro v s ⟨z, rfl, hz, ⟨hno, α1, hM1, hf, -⟩ | ⟨x, hx, α1, B1, hM1, hf, hg, -, h46b, hsc, h54, h57, hK⟩⟩
  · have hg : frm [] B B := frm.rf
    refine ⟨z, rfl, hz, ?_⟩
    rw [show S.beginF k a b c r = S from by unfold Ab.beginF; rw [hno]]
    exact ⟨_, _, hM1, MQ_same hQ hf hg (cgG q4 hf hg (by decide) (by decide))⟩
  · refine ⟨z, rfl, hz, ?_⟩
    rw [show S.beginF k a b c r = S.act (some (Scn.mk x.1 x.2.1 x.2.2.1 x.2.2.2 0 (nI 0))) from by unfold Ab.beginF; rw [hx]]
    exact ⟨_, _, hM1, MQ_act hV hQ hf hg (cgG q4 hf hg (by decide) (by decide)) ⟨h46b, hsc, h54⟩ h57 hK⟩
def aRun (S : Ab) (u : Int32) : Int32 := match S.sc with
  | none => nI 0
  | some s => bI (rnOk S.nb S.n s.kd s.h s.ρ s.p s.t u)
noncomputable def Ab.runF (S : Ab) (u : Int32) : Ab := match S.sc with
  | none => S
  | some s => @ite _ (rnOk S.nb S.n s.kd s.h s.ρ s.p s.t u) (Classical.propDecidable _) (S.act (some (Scn.mk s.kd s.h s.ρ u.toNatClampNeg 0 s.b))) S
def aHunt (S : Ab) (x y z : Int32) : Int32 := match S.sc with
  | none => nI 0
  | some s => bI (htR S.nb S.n s.kd s.h s.ρ s.p s.t x y z ≠ none)
def Ab.huntF (S : Ab) (x y z : Int32) : Ab := match S.sc with
  | none => S
  | some s => (match htR S.nb S.n s.kd s.h s.ρ s.p s.t x y z with
    | none => S
    | some ρ2 => S.act (some (Scn.mk s.kd s.h ρ2 s.p 1 (s.b + nI 1))))
noncomputable def plE (S : Ab) (s : Scn) (u : Int32) : Pos × Nat := plS S.nb S.n s.kd s.h u.toNatClampNeg (s.ρ, s.p, s.t, s.b) 0
abbrev plOk (s : Scn) (u : Int32) : Prop := (std s.h s.ρ).testBit s.p = false ∧ isN100 u
noncomputable def aPlay (S : Ab) (u : Int32) : Int32 := match S.sc with
  | none => -1
  | some s => @ite _ (plOk s u) (Classical.propDecidable _) (nI (plE S s u).2) (-1)
noncomputable def Ab.playF (S : Ab) (u : Int32) : Ab := match S.sc with
  | none => S
  | some s => @ite _ (plOk s u) (Classical.propDecidable _) (S.act (some (Scn.mk s.kd s.h (plE S s u).1.1 (plE S s u).1.2.1 (plE S s u).1.2.2.1 (plE S s u).1.2.2.2))) S
section Acts
variable {G : Gx} {d : Nat} {σ : Hp} {S : Ab} {m : Nat}
theorem zX12_run (hd : 7 ≤ d) (hV : AbV S) (hS : MSt S σ σ m) {u : Int32} : Cl G mX12_run d [.ref m, .int u] σ 0 0 (pI fun z s => z = aRun S u ∧ MSt (S.runF u) σ s m) := by
  obtain ⟨α, B, hM, hQ⟩ := hS
  obtain ⟨q1, q2, q3, q4, q5, q6, q7, q8, q9, q10, q11, q12⟩ := id hQ
  have hn := hV.1.1.1
  have hw := net_lt hV.1
  cases hsc : S.sc with
  | none =>
    have h46 : α 46 = nI 0 := by have := q11; unfold qS at this; rw [hsc] at this; exact this
    refine cl_post (eX12_run0 (by omega) hM h46) ?_
    rintro v s ⟨r, rfl, hr, hM1⟩
    have hf : frm [0] α (upd α 0 (nI 0)) := frm.rf.up (by decide)
    have hg : frm [] B B := frm.rf
    refine ⟨r, rfl, by unfold aRun; rw [hsc]; exact hr, ?_⟩
    rw [show S.runF u = S from by unfold Ab.runF; rw [hsc]]
    exact ⟨_, _, hM1, MQ_same hQ hf hg (cgG q4 hf hg (by decide) (by decide))⟩
  | some s =>
    obtain ⟨v1, v2, v3, v4, v5, v6⟩ : s.kd < 3 ∧ 1 ≤ s.h ∧ s.h ≤ 3 ∧ s.ρ ∈ rowsL s.h S.n ∧ s.p < S.n ∧ s.t ≤ 1 := by have := hV.2.1; rw [hsc] at this; exact this
    have q11b := q11
    unfold qS at q11b
    rw [hsc] at q11b
    obtain ⟨h46, hscn, h54⟩ := q11b
    have hscn : SCN α s.kd s.h s.ρ s.p s.t := hscn
    refine cl_post (eX12_run hd hM q1 hn q2 hw q3 q4 hscn v1 v2 v3 v4 v5 v6 hV.2.2.2.2.1 q12.1 h46 h54) ?_
    rintro v s2 ⟨z, rfl, hz, ⟨hno, α1, B1, hM1, hf, hg, -, hG⟩ | ⟨hyes, α1, B1, hM1, hf, hg, -, hG, hsc1, h54b, h57, hK⟩⟩
    · refine ⟨z, rfl, by unfold aRun; rw [hsc]; exact hz, ?_⟩
      rw [show S.runF u = S from by unfold Ab.runF; rw [hsc]; exact if_neg hno]
      exact ⟨_, _, hM1, MQ_same hQ hf hg hG⟩
    · refine ⟨z, rfl, by unfold aRun; rw [hsc]; exact hz, ?_⟩
      rw [show S.runF u = S.act (some (Scn.mk s.kd s.h s.ρ u.toNatClampNeg 0 s.b)) from by unfold Ab.runF; rw [hsc]; exact if_pos hyes]
      exact ⟨_, _, hM1, MQ_act hV hQ hf hg hG ⟨(hf 46 (by decide)).trans h46, hsc1, h54b⟩ h57 hK⟩
theorem zX12_hunt (hd : 7 ≤ d) (hV : AbV S) (hS : MSt S σ σ m) {x y z : Int32} : Cl G mX12_hunt d [.ref m, .int x, .int y, .int z] σ 0 0 (pI fun r s => r = aHunt S x y z ∧ MSt (S.huntF x y z) σ s m) := by
  obtain ⟨α, B, hM, hQ⟩ := hS
  obtain ⟨q1, q2, q3, q4, q5, q6, q7, q8, q9, q10, q11, q12⟩ := id hQ
  have hn := hV.1.1.1
  have hw := net_lt hV.1
  cases hsc : S.sc with
  | none =>
    have h46 : α 46 = nI 0 := by have := q11; unfold qS at this; rw [hsc] at this; exact this
    refine cl_post (eX12_hunt0 (by omega) hM h46) ?_
    rintro v s ⟨r, rfl, hr, hM1⟩
    have hf : frm [0] α (upd α 0 (nI 0)) := frm.rf.up (by decide)
    have hg : frm [] B B := frm.rf
    refine ⟨r, rfl, by unfold aHunt; rw [hsc]; exact hr, ?_⟩
    rw [show S.huntF x y z = S from by unfold Ab.huntF; rw [hsc]]
    exact ⟨_, _, hM1, MQ_same hQ hf hg (cgG q4 hf hg (by decide) (by decide))⟩
  | some s =>
    obtain ⟨v1, v2, v3, v4, v5, v6⟩ : s.kd < 3 ∧ 1 ≤ s.h ∧ s.h ≤ 3 ∧ s.ρ ∈ rowsL s.h S.n ∧ s.p < S.n ∧ s.t ≤ 1 := by have := hV.2.1; rw [hsc] at this; exact this
    have q11b := q11
    unfold qS at q11b
    rw [hsc] at q11b
    obtain ⟨h46, hscn, h54⟩ := q11b
    have hscn : SCN α s.kd s.h s.ρ s.p s.t := hscn
    refine cl_post (eX12_hunt hd hM q1 hn q2 hw q3 q4 hscn v1 v2 v3 v4 v5 v6 hV.2.2.2.2.1 q12.1 h46 h54) ?_
    rintro v s2 ⟨r, rfl, hz, ⟨hno, α1, B1, hM1, hf, hg, -, hG⟩ | ⟨ρ2, hyes, α1, B1, hM1, hf, hg, -, hG, hsc1, h54b, h57, hK⟩⟩
    · refine ⟨r, rfl, by unfold aHunt; rw [hsc]; exact hz, ?_⟩
      rw [show S.huntF x y z = S from by unfold Ab.huntF; rw [hsc]; simp only [hno]]
      exact ⟨_, _, hM1, MQ_same hQ hf hg hG⟩
    · refine ⟨r, rfl, by unfold aHunt; rw [hsc]; exact hz, ?_⟩
      rw [show S.huntF x y z = S.act (some (Scn.mk s.kd s.h ρ2 s.p 1 (s.b + nI 1))) from by unfold Ab.huntF; rw [hsc]; simp only [hyes]]
      exact ⟨_, _, hM1, MQ_act hV hQ hf hg hG ⟨(hf 46 (by decide)).trans h46, hsc1, h54b⟩ h57 hK⟩
theorem zX12_play (hd : 8 ≤ d) (hV : AbV S) (hS : MSt S σ σ m) {u : Int32} : Cl G mX12_play d [.ref m, .int u] σ 0 0 (pI fun r s => r = aPlay S u ∧ MSt (S.playF u) σ s m) := by
  obtain ⟨α, B, hM, hQ⟩ := hS
  obtain ⟨q1, q2, q3, q4, q5, q6, q7, q8, q9, q10, q11, q12⟩ := id hQ
  have hn := hV.1.1.1
  have hw := net_lt hV.1
  cases hsc : S.sc with
  | none =>
    have h46 : α 46 = nI 0 := by have := q11; unfold qS at this; rw [hsc] at this; exact this
    refine cl_post (eX12_play0 (by omega) hM h46) ?_
    rintro v s ⟨r, rfl, hr, hM1⟩
    have hf : frm [0] α (upd α 0 (nI 0)) := frm.rf.up (by decide)
    have hg : frm [] B B := frm.rf
    refine ⟨r, rfl, by unfold aPlay; rw [hsc]; exact hr, ?_⟩
    rw [show S.playF u = S from by unfold Ab.playF; rw [hsc]]
    exact ⟨_, _, hM1, MQ_same hQ hf hg (cgG q4 hf hg (by decide) (by decide))⟩
  | some s =>
    obtain ⟨v1, v2, v3, v4, v5, v6⟩ : s.kd < 3 ∧ 1 ≤ s.h ∧ s.h ≤ 3 ∧ s.ρ ∈ rowsL s.h S.n ∧ s.p < S.n ∧ s.t ≤ 1 := by have := hV.2.1; rw [hsc] at this; exact this
    have q11b := q11
    unfold qS at q11b
    rw [hsc] at q11b
    obtain ⟨h46, hscn, h54⟩ := q11b
    have hscn : SCN α s.kd s.h s.ρ s.p s.t := hscn
    refine cl_post (eX12_play hd hM q1 hn q2 hw q3 q4 hV.1.1 hscn v1 v2 v3 v4 v5 v6 hV.2.2.2.2.1 q12.1 h46 h54) ?_
    rintro v s2 ⟨r, rfl, ⟨hno, hz, α1, B1, hM1, hf, hg, -, hG⟩ | ⟨hy1, hy2, hz, hpv, α1, B1, hM1, hf, hg, -, hG, hsc1, h54b, h57, hK⟩⟩
    · have hno : ¬ plOk s u := fun z => by rcases hno with h | h; · rw [z.1] at h; cases h
                                           · exact h z.2
      refine ⟨r, rfl, by unfold aPlay; rw [hsc]; exact hz.trans (if_neg hno).symm, ?_⟩
      rw [show S.playF u = S from by unfold Ab.playF; rw [hsc]; exact if_neg hno]
      exact ⟨_, _, hM1, MQ_same hQ hf hg hG⟩
    · have hyes : plOk s u := ⟨hy1, hy2⟩
      refine ⟨r, rfl, by unfold aPlay; rw [hsc]; exact hz.trans (if_pos hyes).symm, ?_⟩
      rw [show S.playF u = S.act (some (Scn.mk s.kd s.h (plE S s u).1.1 (plE S s u).1.2.1 (plE S s u).1.2.2.1 (plE S s u).1.2.2.2)) from by unfold Ab.playF; rw [hsc]; exact if_pos hyes]
      exact ⟨_, _, hM1, MQ_act hV hQ hf hg hG ⟨(hf 46 (by decide)).trans h46, hsc1, h54b⟩ h57 hK⟩
end Acts
