/-! ends and calls in the form that walks use; numbers that are naturals -/
def pI (P : Int32 → Hp → Prop) : Option Value → Hp → Prop := fun v s => ∃ r, v = some (.int r) ∧ P r s
def pV (P : Hp → Prop) : Option Value → Hp → Prop := fun v s => v = none ∧ P s
def pR (P : Value → Hp → Prop) : Option Value → Hp → Prop := fun v s => ∃ r, v = some r ∧ P r s
section Calls0
variable {G : Gx} {M M2 : Md} {d d0 pc i n k ci : Nat} {L st st0 fs : List Value} {σ : Hp} {mc ms : Nat} {Q : Option Value → Hp → Prop}
theorem wp_ireti {x : Int32} {P : Int32 → Hp → Prop} (hd : decode M.2.1 pc = .ok (.ireturn, 1)) (hr : M.2.2.2 = some .int) (hq : P x σ) : Wp G M d pc L [.int x] σ mc ms (pI P) := wp_iret hd hr rfl ⟨x, rfl, hq⟩
theorem wp_iretz {x : Int32} {P : Int32 → Hp → Prop} (hd : decode M.2.1 pc = .ok (.ireturn, 1)) (hr : M.2.2.2 = some .boolean) (hx : x &&& 1 = x) (hq : P x σ) : Wp G M d pc L [.int x] σ mc ms (pI P) := wp_iret hd hr (by show Value.int (x &&& 1) = Value.int x; rw [hx]) ⟨x, rfl, hq⟩
theorem wp_vretv {P : Hp → Prop} (hd : decode M.2.1 pc = .ok (.return_, 1)) (hr : M.2.2.2 = none) (hq : P σ) : Wp G M d pc L [] σ mc ms (pV P) := wp_vret hd hr ⟨rfl, hq⟩
theorem wp_cVi {P : Int32 → Hp → Prop} (hdd : d = d0 + 1) (as : List Value) (hd : decode M.2.1 pc = .ok (.invokevirtual i, 3)) (hm : MV M2 n) (hl : mLk M.1.cls i M2.1) (hst : st0 = as.reverse ++ .ref k :: st) (hn : as.length = n) (hcat : (st.map fun v => v.category).sum ≤ 8) (hk : σ.2 k = .inr (ci, fs)) (hcl : (clX[ci]?.map fun q => q.1) = some M2.1.cls) (hC : Cl G M2 d0 (.ref k :: as) σ 0 0 (pI P))
    (kk : ∀ r s2, P r s2 → Wp G M d (pc + 3) L (.int r :: st) s2 mc ms Q) : Wp G M d pc L st0 σ mc ms Q := by
  subst hdd
  have := wp_callV (mc1 := 0) (ms1 := 0) (mc2 := mc) (ms2 := ms) as hd hm hl hst hn hcat hk hcl hC (fun v σ2 hq => by obtain ⟨r, rfl, hp⟩ := hq; exact kk r σ2 hp)
  rwa [Nat.zero_add, Nat.zero_add] at this
theorem wp_cVv {P : Hp → Prop} (hdd : d = d0 + 1) (as : List Value) (hd : decode M.2.1 pc = .ok (.invokevirtual i, 3)) (hm : MV M2 n) (hl : mLk M.1.cls i M2.1) (hst : st0 = as.reverse ++ .ref k :: st) (hn : as.length = n) (hcat : (st.map fun v => v.category).sum ≤ 8) (hk : σ.2 k = .inr (ci, fs)) (hcl : (clX[ci]?.map fun q => q.1) = some M2.1.cls) (hC : Cl G M2 d0 (.ref k :: as) σ 0 0 (pV P))
    (kk : ∀ s2, P s2 → Wp G M d (pc + 3) L st s2 mc ms Q) : Wp G M d pc L st0 σ mc ms Q := by
  subst hdd
  have := wp_callV (mc1 := 0) (ms1 := 0) (mc2 := mc) (ms2 := ms) as hd hm hl hst hn hcat hk hcl hC (fun v σ2 hq => by obtain ⟨rfl, hp⟩ := hq; exact kk σ2 hp)
  rwa [Nat.zero_add, Nat.zero_add] at this
theorem wp_cSi {P : Int32 → Hp → Prop} (hdd : d = d0 + 1) (as : List Value) (hd : decode M.2.1 pc = .ok (.invokestatic i, 3)) (hm : MS M2 n) (hl : mLk M.1.cls i M2.1) (hst : st0 = as.reverse ++ st) (hn : as.length = n) (hcat : (st.map fun v => v.category).sum ≤ 8) (hC : Cl G M2 d0 as σ 0 0 (pI P))
    (kk : ∀ r s2, P r s2 → Wp G M d (pc + 3) L (.int r :: st) s2 mc ms Q) : Wp G M d pc L st0 σ mc ms Q := by
  subst hdd
  have := wp_callS (mc1 := 0) (ms1 := 0) (mc2 := mc) (ms2 := ms) as hd hm hl hst hn hcat hC (fun v σ2 hq => by obtain ⟨r, rfl, hp⟩ := hq; exact kk r σ2 hp)
  rwa [Nat.zero_add, Nat.zero_add] at this
theorem wp_cSv {P : Hp → Prop} (hdd : d = d0 + 1) (as : List Value) (hd : decode M.2.1 pc = .ok (.invokestatic i, 3)) (hm : MS M2 n) (hl : mLk M.1.cls i M2.1) (hst : st0 = as.reverse ++ st) (hn : as.length = n) (hcat : (st.map fun v => v.category).sum ≤ 8) (hC : Cl G M2 d0 as σ 0 0 (pV P))
    (kk : ∀ s2, P s2 → Wp G M d (pc + 3) L st s2 mc ms Q) : Wp G M d pc L st0 σ mc ms Q := by
  subst hdd
  have := wp_callS (mc1 := 0) (ms1 := 0) (mc2 := mc) (ms2 := ms) as hd hm hl hst hn hcat hC (fun v σ2 hq => by obtain ⟨rfl, hp⟩ := hq; exact kk σ2 hp)
  rwa [Nat.zero_add, Nat.zero_add] at this
end Calls0
theorem hset_eq {σ : Hp} {k : Nat} {e : va_E} : (hset σ k e).2 k = e := by simp [hset, va_up]
theorem hset_ne {σ : Hp} {k j : Nat} {e : va_E} (h : j ≠ k) : (hset σ k e).2 j = σ.2 j := by simp [hset, va_up, h]
theorem hset_1 {σ : Hp} {k : Nat} {e : va_E} : (hset σ k e).1 = σ.1 := rfl
theorem hset_hset {σ : Hp} {k : Nat} {e e2 : va_E} : hset (hset σ k e) k e2 = hset σ k e2 := by
  simp only [hset, Prod.mk.injEq, true_and]
  exact bx_uu _ _ _ _
theorem hset_id {σ : Hp} {k : Nat} {e : va_E} (h : σ.2 k = e) : hset σ k e = σ := by
  obtain ⟨n, f⟩ := σ
  simp only [hset, Prod.mk.injEq, true_and]
  funext j
  by_cases hj : j = k
  · subst hj; simp [va_up]; exact h.symm
  · simp [va_up, hj]
section NatRules
variable {G : Gx} {M : Md} {d pc : Nat} {L st : List Value} {σ : Hp} {mc ms : Nat} {Q : Option Value → Hp → Prop}
theorem wp_iaddN {a b : Nat} (hd : decode M.2.1 pc = .ok (.iadd, 1)) (k : Wp G M d (pc + 1) L (.int (nI (a + b)) :: st) σ mc ms Q) : Wp G M d pc L (.int (nI b) :: .int (nI a) :: st) σ mc ms Q := wp_iadd hd (by rw [nI_add]; exact k)
theorem wp_isubN {a b : Nat} (hd : decode M.2.1 pc = .ok (.isub, 1)) (h : b ≤ a) (k : Wp G M d (pc + 1) L (.int (nI (a - b)) :: st) σ mc ms Q) : Wp G M d pc L (.int (nI b) :: .int (nI a) :: st) σ mc ms Q := wp_isub hd (by rw [pk_sub h]; exact k)
theorem wp_imulN {a b : Nat} (hd : decode M.2.1 pc = .ok (.imul, 1)) (k : Wp G M d (pc + 1) L (.int (nI (a * b)) :: st) σ mc ms Q) : Wp G M d pc L (.int (nI b) :: .int (nI a) :: st) σ mc ms Q := wp_imul hd (by rw [pk_mul]; exact k)
theorem wp_idivN {a b : Nat} (hd : decode M.2.1 pc = .ok (.idiv, 1)) (ha : a < 2 ^ 31) (h0 : 0 < b) (hb : b < 2 ^ 31) (k : Wp G M d (pc + 1) L (.int (nI (a / b)) :: st) σ mc ms Q) : Wp G M d pc L (.int (nI b) :: .int (nI a) :: st) σ mc ms Q := wp_idiv hd (nI_ne0 h0 hb) (by rw [pk_div ha h0 hb]; exact k)
theorem wp_iremN {a b : Nat} (hd : decode M.2.1 pc = .ok (.irem, 1)) (ha : a < 2 ^ 31) (h0 : 0 < b) (hb : b < 2 ^ 31) (k : Wp G M d (pc + 1) L (.int (nI (a % b)) :: st) σ mc ms Q) : Wp G M d pc L (.int (nI b) :: .int (nI a) :: st) σ mc ms Q := wp_irem hd (nI_ne0 h0 hb) (by rw [pk_rem ha h0 hb]; exact k)
theorem ofInt_nat (c : Nat) : Int32.ofInt (c : Int) = nI c := by
  apply Int32.toBitVec_inj.1
  show BitVec.ofInt 32 (c : Int) = BitVec.ofNat 32 c
  simp
theorem nI_z {a : Nat} (ha : a < 2 ^ 31) : nI a = 0 ↔ a = 0 := by rw [← nI_0]; exact nI_eq ha (by decide)
theorem nI_p {a : Nat} (ha : a < 2 ^ 31) : 0 < nI a ↔ 0 < a := by
  have := nI_ltI (a := 0) (b := a) (by decide) ha
  rwa [nI_0] at this
theorem nI_l0 {a : Nat} (ha : a < 2 ^ 31) : nI a ≤ 0 ↔ a = 0 := by
  have := nI_leI (a := a) (b := 0) ha (by decide)
  rw [nI_0] at this
  rw [this]; omega
theorem wp_iincN {i a c : Nat} (hd : decode M.2.1 pc = .ok (.iinc i (c : Int), 3)) (hL : L[i]? = some (.int (nI a))) (k : Wp G M d (pc + 3) (L.set i (.int (nI (a + c)))) st σ mc ms Q) : Wp G M d pc L st σ mc ms Q := wp_iinc hd hL (by rw [ofInt_nat, nI_add]) k
theorem wp_ialdN {k n j : Nat} {f : Nat → Int32} (hd : decode M.2.1 pc = .ok (.iaload, 1)) (hh : σ.2 k = .inl (0, n, .inl f)) (hj : j < n) (hn : n < 2 ^ 31)
    (kk : Wp G M d (pc + 1) L (.int (f j) :: st) σ mc ms Q) : Wp G M d pc L (.int (nI j) :: .ref k :: st) σ mc ms Q := wp_iald hd hh (vp_in_nI hj hn) (by rw [nI_clamp (by omega)]; exact kk)
theorem wp_zaldN {k n j : Nat} {f : Nat → Int32} (hd : decode M.2.1 pc = .ok (.baload, 1)) (hh : σ.2 k = .inl (1, n, .inl f)) (hj : j < n) (hn : n < 2 ^ 31)
    (kk : Wp G M d (pc + 1) L (.int (f j) :: st) σ mc ms Q) : Wp G M d pc L (.int (nI j) :: .ref k :: st) σ mc ms Q := wp_zald hd hh (vp_in_nI hj hn) (by rw [nI_clamp (by omega)]; exact kk)
theorem wp_iastN {k n j : Nat} {f : Nat → Int32} {x : Int32} (hd : decode M.2.1 pc = .ok (.iastore, 1)) (hh : σ.2 k = .inl (0, n, .inl f)) (hj : j < n) (hn : n < 2 ^ 31)
    (kk : Wp G M d (pc + 1) L st (hset σ k (.inl (0, n, .inl (upd f j x)))) mc ms Q) : Wp G M d pc L (.int x :: .int (nI j) :: .ref k :: st) σ mc ms Q := wp_iast hd hh (vp_in_nI hj hn) (by rw [nI_clamp (by omega)]; exact kk)
theorem wp_zastN {k n j : Nat} {f : Nat → Int32} {x : Int32} (hd : decode M.2.1 pc = .ok (.bastore, 1)) (hh : σ.2 k = .inl (1, n, .inl f)) (hj : j < n) (hn : n < 2 ^ 31)
    (kk : Wp G M d (pc + 1) L st (hset σ k (.inl (1, n, .inl (upd f j (vp_nar .boolean x))))) mc ms Q) : Wp G M d pc L (.int x :: .int (nI j) :: .ref k :: st) σ mc ms Q := wp_zast hd hh (vp_in_nI hj hn) (by rw [nI_clamp (by omega)]; exact kk)
theorem wp_faldN {j : Nat} (hd : decode M.2.1 pc = .ok (.iaload, 1)) (hj : j < 5)
    (kk : Wp G M d (pc + 1) L (.int (frow j) :: st) σ mc ms Q) : Wp G M d pc L (.int (nI j) :: .float 0 :: st) σ mc ms Q := wp_fald hd (vp_in_nI hj (by decide)) (by rw [nI_clamp (by omega)]; exact kk)
theorem wp_aaldN {k n t j r : Nat} {f : Nat → Option Nat} {Cn : String} (hd : decode M.2.1 pc = .ok (.aaload, 1)) (hh : σ.2 k = .inl (t, n, .inr (.inr (.inr (.inr f))))) (ht : t < 6) (hty : tyT t = .object Cn) (hj : j < n) (hn : n < 2 ^ 31) (hr : f j = some r)
    (kk : Wp G M d (pc + 1) L (.ref r :: st) σ mc ms Q) : Wp G M d pc L (.int (nI j) :: .ref k :: st) σ mc ms Q := wp_aald hd hh ht hty (vp_in_nI hj hn) (by rw [nI_clamp (by omega)]; exact hr) kk
theorem wp_icmpN_eq {a b : Nat} {off : Int} {tgt : Nat} (hd : decode M.2.1 pc = .ok (.if_icmp .eq off, 3)) (ht : (pc : Int) + off = (tgt : Int)) (ha : a < 2 ^ 31) (hb : b < 2 ^ 31)
    (kt : a = b → Wp G M d tgt L st σ mc ms Q) (kf : a ≠ b → Wp G M d (pc + 3) L st σ mc ms Q) : Wp G M d pc L (.int (nI b) :: .int (nI a) :: st) σ mc ms Q := wp_icmp_eq hd ht (fun q => kt ((nI_eq ha hb).mp q)) (fun q => kf (fun e => q ((nI_eq ha hb).mpr e)))
theorem wp_icmpN_ne {a b : Nat} {off : Int} {tgt : Nat} (hd : decode M.2.1 pc = .ok (.if_icmp .ne off, 3)) (ht : (pc : Int) + off = (tgt : Int)) (ha : a < 2 ^ 31) (hb : b < 2 ^ 31)
    (kt : a ≠ b → Wp G M d tgt L st σ mc ms Q) (kf : a = b → Wp G M d (pc + 3) L st σ mc ms Q) : Wp G M d pc L (.int (nI b) :: .int (nI a) :: st) σ mc ms Q := wp_icmp_ne hd ht (fun q => kt (fun e => q ((nI_eq ha hb).mpr e))) (fun q => kf (Classical.byContradiction fun e => q (fun z => e ((nI_eq ha hb).mp z))))
theorem wp_icmpN_lt {a b : Nat} {off : Int} {tgt : Nat} (hd : decode M.2.1 pc = .ok (.if_icmp .lt off, 3)) (ht : (pc : Int) + off = (tgt : Int)) (ha : a < 2 ^ 31) (hb : b < 2 ^ 31)
    (kt : a < b → Wp G M d tgt L st σ mc ms Q) (kf : b ≤ a → Wp G M d (pc + 3) L st σ mc ms Q) : Wp G M d pc L (.int (nI b) :: .int (nI a) :: st) σ mc ms Q := wp_icmp_lt hd ht (fun q => kt ((nI_ltI ha hb).mp q)) (fun q => kf (by have := mt (nI_ltI ha hb).mpr q; omega))
theorem wp_icmpN_ge {a b : Nat} {off : Int} {tgt : Nat} (hd : decode M.2.1 pc = .ok (.if_icmp .ge off, 3)) (ht : (pc : Int) + off = (tgt : Int)) (ha : a < 2 ^ 31) (hb : b < 2 ^ 31)
    (kt : b ≤ a → Wp G M d tgt L st σ mc ms Q) (kf : a < b → Wp G M d (pc + 3) L st σ mc ms Q) : Wp G M d pc L (.int (nI b) :: .int (nI a) :: st) σ mc ms Q := wp_icmp_ge hd ht (fun q => kt ((nI_leI hb ha).mp q)) (fun q => kf (by have := mt (nI_leI hb ha).mpr q; omega))
theorem wp_icmpN_gt {a b : Nat} {off : Int} {tgt : Nat} (hd : decode M.2.1 pc = .ok (.if_icmp .gt off, 3)) (ht : (pc : Int) + off = (tgt : Int)) (ha : a < 2 ^ 31) (hb : b < 2 ^ 31)
    (kt : b < a → Wp G M d tgt L st σ mc ms Q) (kf : a ≤ b → Wp G M d (pc + 3) L st σ mc ms Q) : Wp G M d pc L (.int (nI b) :: .int (nI a) :: st) σ mc ms Q := wp_icmp_gt hd ht (fun q => kt ((nI_ltI hb ha).mp q)) (fun q => kf (by have := mt (nI_ltI hb ha).mpr q; omega))
theorem wp_icmpN_le {a b : Nat} {off : Int} {tgt : Nat} (hd : decode M.2.1 pc = .ok (.if_icmp .le off, 3)) (ht : (pc : Int) + off = (tgt : Int)) (ha : a < 2 ^ 31) (hb : b < 2 ^ 31)
    (kt : a ≤ b → Wp G M d tgt L st σ mc ms Q) (kf : b < a → Wp G M d (pc + 3) L st σ mc ms Q) : Wp G M d pc L (.int (nI b) :: .int (nI a) :: st) σ mc ms Q := wp_icmp_le hd ht (fun q => kt ((nI_leI ha hb).mp q)) (fun q => kf (by have := mt (nI_leI ha hb).mpr q; omega))
theorem wp_ifN_eq {a : Nat} {off : Int} {tgt : Nat} (hd : decode M.2.1 pc = .ok (.ifCond .eq off, 3)) (ht : (pc : Int) + off = (tgt : Int)) (ha : a < 2 ^ 31)
    (kt : a = 0 → Wp G M d tgt L st σ mc ms Q) (kf : 0 < a → Wp G M d (pc + 3) L st σ mc ms Q) : Wp G M d pc L (.int (nI a) :: st) σ mc ms Q := wp_if_eq hd ht (fun q => kt ((nI_z ha).mp q)) (fun q => kf (by have := mt (nI_z ha).mpr q; omega))
theorem wp_ifN_ne {a : Nat} {off : Int} {tgt : Nat} (hd : decode M.2.1 pc = .ok (.ifCond .ne off, 3)) (ht : (pc : Int) + off = (tgt : Int)) (ha : a < 2 ^ 31)
    (kt : 0 < a → Wp G M d tgt L st σ mc ms Q) (kf : a = 0 → Wp G M d (pc + 3) L st σ mc ms Q) : Wp G M d pc L (.int (nI a) :: st) σ mc ms Q := wp_if_ne hd ht (fun q => kt (Nat.pos_of_ne_zero (fun z => q ((nI_z ha).mpr z)))) (fun q => kf (Classical.byContradiction fun z => q (fun y => z ((nI_z ha).mp y))))
theorem wp_ifN_gt {a : Nat} {off : Int} {tgt : Nat} (hd : decode M.2.1 pc = .ok (.ifCond .gt off, 3)) (ht : (pc : Int) + off = (tgt : Int)) (ha : a < 2 ^ 31)
    (kt : 0 < a → Wp G M d tgt L st σ mc ms Q) (kf : a = 0 → Wp G M d (pc + 3) L st σ mc ms Q) : Wp G M d pc L (.int (nI a) :: st) σ mc ms Q := wp_if_gt hd ht (fun q => kt ((nI_p ha).mp q)) (fun q => kf (by have := mt (nI_p ha).mpr q; omega))
theorem wp_ifN_le {a : Nat} {off : Int} {tgt : Nat} (hd : decode M.2.1 pc = .ok (.ifCond .le off, 3)) (ht : (pc : Int) + off = (tgt : Int)) (ha : a < 2 ^ 31)
    (kt : a = 0 → Wp G M d tgt L st σ mc ms Q) (kf : 0 < a → Wp G M d (pc + 3) L st σ mc ms Q) : Wp G M d pc L (.int (nI a) :: st) σ mc ms Q := wp_if_le hd ht (fun q => kt ((nI_l0 ha).mp q)) (fun q => kf (by have := mt (nI_l0 ha).mpr q; omega))
theorem wp_ifN_lt {a : Nat} {off : Int} {tgt : Nat} (hd : decode M.2.1 pc = .ok (.ifCond .lt off, 3)) (ht : (pc : Int) + off = (tgt : Int)) (ha : a < 2 ^ 31)
    (kf : Wp G M d (pc + 3) L st σ mc ms Q) : Wp G M d pc L (.int (nI a) :: st) σ mc ms Q := wp_if_lt hd ht (fun q => absurd q (nI_pos ha)) (fun _ => kf)
theorem wp_ifN_ge {a : Nat} {off : Int} {tgt : Nat} (hd : decode M.2.1 pc = .ok (.ifCond .ge off, 3)) (ht : (pc : Int) + off = (tgt : Int)) (ha : a < 2 ^ 31)
    (kt : Wp G M d tgt L st σ mc ms Q) : Wp G M d pc L (.int (nI a) :: st) σ mc ms Q := wp_if_ge hd ht (fun _ => kt) (fun q => absurd (nI_pos' ha) q)
end NatRules
/-- a loop of n turns from i on -/
def fl {α : Type} (g : Nat → α → α) : Nat → Nat → α → α
  | 0, _, a => a
  | n + 1, i, a => fl g n (i + 1) (g i a)

theorem nx_and (a b : Nat) : nI a &&& nI b = nI (a &&& b) := by
  apply Int32.toBitVec_inj.1
  show BitVec.ofNat 32 a &&& BitVec.ofNat 32 b = BitVec.ofNat 32 (a &&& b)
  apply BitVec.eq_of_getLsbD_eq
  intro i hi
  simp [hi]
theorem nx_or (a b : Nat) : nI a ||| nI b = nI (a ||| b) := by
  apply Int32.toBitVec_inj.1
  show BitVec.ofNat 32 a ||| BitVec.ofNat 32 b = BitVec.ofNat 32 (a ||| b)
  apply BitVec.eq_of_getLsbD_eq
  intro i hi
  simp [hi]
theorem nx_xor (a b : Nat) : nI a ^^^ nI b = nI (a ^^^ b) := by
  apply Int32.toBitVec_inj.1
  show BitVec.ofNat 32 a ^^^ BitVec.ofNat 32 b = BitVec.ofNat 32 (a ^^^ b)
  apply BitVec.eq_of_getLsbD_eq
  intro i hi
  simp [hi]
theorem s_l : ∀ n, n < 32 → ((nI n &&& 31).toBitVec.smod 32).toNat = n := by decide +kernel
theorem nx_shr {a j : Nat} (ha : a < 2 ^ 31) (hj : j < 32) : nI a >>> (nI j &&& 31) = nI (a >>> j) := by rw [pk_shrN ha _ j (s_l j hj), Nat.shiftRight_eq_div_pow]
theorem nx_shl {a j : Nat} (hj : j < 32) (h : a * 2 ^ j < 2 ^ 32) : nI a <<< (nI j &&& 31) = nI (a * 2 ^ j) := pk_shlN _ j (s_l j hj) h
/-- the places of a that are not in b -/
def dif (a b : Nat) : Nat := a ^^^ (a &&& b)
theorem dif_bit (a b i : Nat) : (dif a b).testBit i = (a.testBit i && !b.testBit i) := by
  rw [dif, Nat.testBit_xor, Nat.testBit_and]
  cases a.testBit i <;> cases b.testBit i <;> rfl
theorem nx_dif (a b : Nat) : nI a &&& (nI b ^^^ (-1)) = nI (dif a b) := by
  apply Int32.toBitVec_inj.1
  show BitVec.ofNat 32 a &&& (BitVec.ofNat 32 b ^^^ (-1#32)) = BitVec.ofNat 32 (dif a b)
  apply BitVec.eq_of_getLsbD_eq
  intro i hi
  have h1 : (-1#32 : BitVec 32).getLsbD i = true := (by decide : ∀ i, i < 32 → (-1#32 : BitVec 32).getLsbD i = true) i hi
  rw [BitVec.getLsbD_and, BitVec.getLsbD_xor, h1, BitVec.getLsbD_ofNat, BitVec.getLsbD_ofNat, BitVec.getLsbD_ofNat, dif_bit]
  simp [hi]
/-- an answer of yes or no -/
def bI (p : Prop) [Decidable p] : Int32 := if p then nI 1 else nI 0
theorem bI_t {p : Prop} [Decidable p] (h : p) : bI p = nI 1 := if_pos h
theorem bI_f {p : Prop} [Decidable p] (h : ¬ p) : bI p = nI 0 := if_neg h
theorem bI_and {p : Prop} [Decidable p] : bI p &&& 1 = bI p := by unfold bI; split <;> decide
theorem bI_c {p q : Prop} [Decidable p] [Decidable q] (h : p ↔ q) : bI p = bI q := by unfold bI; simp [h]
section BitRules
variable {G : Gx} {M : Md} {d pc : Nat} {L st : List Value} {σ : Hp} {mc ms : Nat} {Q : Option Value → Hp → Prop}
theorem wp_iandN {a b : Nat} (hd : decode M.2.1 pc = .ok (.iand, 1)) (k : Wp G M d (pc + 1) L (.int (nI (a &&& b)) :: st) σ mc ms Q) : Wp G M d pc L (.int (nI b) :: .int (nI a) :: st) σ mc ms Q := wp_iand hd (by rw [nx_and]; exact k)
theorem wp_iorN {a b : Nat} (hd : decode M.2.1 pc = .ok (.ior, 1)) (k : Wp G M d (pc + 1) L (.int (nI (a ||| b)) :: st) σ mc ms Q) : Wp G M d pc L (.int (nI b) :: .int (nI a) :: st) σ mc ms Q := wp_ior hd (by rw [nx_or]; exact k)
theorem wp_ixorN {a b : Nat} (hd : decode M.2.1 pc = .ok (.ixor, 1)) (k : Wp G M d (pc + 1) L (.int (nI (a ^^^ b)) :: st) σ mc ms Q) : Wp G M d pc L (.int (nI b) :: .int (nI a) :: st) σ mc ms Q := wp_ixor hd (by rw [nx_xor]; exact k)
theorem wp_iandC {a b : Nat} (hd : decode M.2.1 pc = .ok (.iand, 1)) (k : Wp G M d (pc + 1) L (.int (nI (dif a b)) :: st) σ mc ms Q) : Wp G M d pc L (.int (nI b ^^^ (-1)) :: .int (nI a) :: st) σ mc ms Q := wp_iand hd (by rw [nx_dif]; exact k)
theorem wp_ishrN {a j : Nat} (hd : decode M.2.1 pc = .ok (.ishr, 1)) (ha : a < 2 ^ 31) (hj : j < 32) (k : Wp G M d (pc + 1) L (.int (nI (a >>> j)) :: st) σ mc ms Q) : Wp G M d pc L (.int (nI j) :: .int (nI a) :: st) σ mc ms Q := wp_ishr hd (by rw [nx_shr ha hj]; exact k)
theorem wp_ishl1 {j : Nat} (hd : decode M.2.1 pc = .ok (.ishl, 1)) (hj : j < 32) (k : Wp G M d (pc + 1) L (.int (nI (2 ^ j)) :: st) σ mc ms Q) : Wp G M d pc L (.int (nI j) :: .int (nI 1) :: st) σ mc ms Q := wp_ishl hd (by
  rw [nx_shl hj (by rw [Nat.one_mul]; exact Nat.pow_lt_pow_right (by decide) hj), Nat.one_mul]; exact k)
theorem wp_ifB_eq {p : Prop} [Decidable p] {off : Int} {tgt : Nat} (hd : decode M.2.1 pc = .ok (.ifCond .eq off, 3)) (ht : (pc : Int) + off = (tgt : Int))
    (kt : ¬ p → Wp G M d tgt L st σ mc ms Q) (kf : p → Wp G M d (pc + 3) L st σ mc ms Q) : Wp G M d pc L (.int (bI p) :: st) σ mc ms Q :=
  wp_if_eq hd ht (fun q => kt (fun h => by rw [bI_t h] at q; exact absurd q (by decide))) (fun q => kf (Classical.byContradiction fun h => q (by rw [bI_f h]; decide)))
theorem wp_ifB_ne {p : Prop} [Decidable p] {off : Int} {tgt : Nat} (hd : decode M.2.1 pc = .ok (.ifCond .ne off, 3)) (ht : (pc : Int) + off = (tgt : Int))
    (kt : p → Wp G M d tgt L st σ mc ms Q) (kf : ¬ p → Wp G M d (pc + 3) L st σ mc ms Q) : Wp G M d pc L (.int (bI p) :: st) σ mc ms Q :=
  wp_if_ne hd ht (fun q => kt (Classical.byContradiction fun h => q (by rw [bI_f h]; decide))) (fun q => kf (fun h => q (fun e => by rw [bI_t h] at e; exact absurd e (by decide))))
end BitRules
