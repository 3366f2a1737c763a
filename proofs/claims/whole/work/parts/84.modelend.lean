/-! the reference's acts over the abstract state -/
theorem zX12_end {G : Gx} {d : Nat} {σ : Hp} {S : Ab} {m : Nat} (hd : 1 ≤ d) (hV : AbV S) (hS : MSt S σ σ m) {w : Int32} : Cl G mX12_end d [.ref m, .int w] σ 0 0 (pI fun r s => r = atP w (S.td + 1) (fun j => nI j) (-1) ∧ MSt (S.endF w) σ s m) := by
  obtain ⟨α, B, hM, q1, q2, q3, q4, q5, q6, q7, q8, q9, q10, q11, q12⟩ := hS
  have htd := hV.2.2.1
  refine cl_post (eX12_end hd hM q8.1 htd) ?_
  rintro v s ⟨r, rfl, ⟨hno, hr, hM1⟩ | ⟨hyes, hr, hM1⟩⟩
  · have hf : frm [0] α (upd α 0 (nI 0)) := frm.rf.up (by decide)
    have hg : frm [] B B := frm.rf
    refine ⟨r, rfl, by unfold atP; rw [if_neg hno]; exact hr, ?_⟩
    rw [show S.endF w = S from if_neg hno]
    exact ⟨_, _, hM1, ⟨(cgN q1 hf (by decide)), (cgB q2 hg (by decide)), (cgO q3 hg (by decide)), (cgG q4 hf hg (by decide) (by decide)), (cgD q5 hf hg (by decide) (by decide)), (cgY q6 hf hg (by decide) (by decide)), (cgSw q7 hf hg (by decide) (by decide)), (cgT q8 hf hg (by decide) (by decide)), (cgFf q9 hf (by decide)), (cgW q10 hf (by decide)), (cgS q11 hf (by decide)), (cgP q12 hf hg (by decide) (by decide))⟩⟩
  · obtain ⟨j, hj, rfl⟩ := isP_ofB hyes
    have hf : frm [0, 6] α (upd (upd α 0 (nI 0)) 6 (nI j)) := (frm.rf.up (by decide)).up (by decide)
    have hg : frm [] B B := frm.rf
    refine ⟨r, rfl, by unfold atP; rw [if_pos hyes, nI_clamp (by omega)]; exact hr, ?_⟩
    rw [show S.endF (nI j) = S.cut j from by unfold Ab.endF; rw [if_pos hyes, nI_clamp (by omega)]]
    have hq : qT (S.cut j) (upd (upd α 0 (nI 0)) 6 (nI j)) B := ⟨by simp [upd]; rfl, fun k hk => q8.2 k (by have hk : k < j := hk; omega)⟩
    exact ⟨_, _, hM1, ⟨(cgN q1 hf (by decide)), (cgB q2 hg (by decide)), (cgO q3 hg (by decide)), (cgG q4 hf hg (by decide) (by decide)), (cgD q5 hf hg (by decide) (by decide)), (cgY q6 hf hg (by decide) (by decide)), (cgSw q7 hf hg (by decide) (by decide)), hq, (cgFf (A := S) q9 hf (by decide)), (cgW q10 hf (by decide)), (cgS (A := S) q11 hf (by decide)), (cgP (A := S) q12 hf hg (by decide) (by decide))⟩⟩
