/-! the law's loop: what it keeps -/
theorem CSt.ref {S : Ab} {σ s : Hp} {mk : Nat → Option Nat} {T : Nat} (h : CSt S σ mk T) (h1 : s.1 = σ.1) (hk : ∀ k, k < 83 ∨ 103 < k → s.2 k = σ.2 k) : CSt S s mk T := by
  obtain ⟨⟨a1, a2, a3, a4⟩, ⟨b1, b2, b3, b4⟩, ⟨d1, d2, d3, d4⟩, e1, e2, e3⟩ := h
  have hR : ∀ a b, b < 83 → kpR a b σ s := fun a b hb j _ h2 => hk j (Or.inl (by omega))
  have hm : ∀ i0 i1, kpM mk i0 i1 σ s := fun i0 i1 i a _ _ e => hk a (Or.inr (by have := (a2.1 i a e).1; omega))
  exact ⟨⟨by omega, by rw [h1]; exact a2, by rw [h1]; exact a3, a4.kp (hk 0 (Or.inl (by decide)))⟩, ⟨b1.kp (hR _ _ (by decide)), b2.kp (hR _ _ (by decide)), b3.kp (hR _ _ (by decide)), b4.kp (hR _ _ (by decide))⟩, ⟨d1.kp (hR _ _ (by decide)) (hm _ _), d2.kp (hR _ _ (by decide)), d3.kp (hR _ _ (by decide)), d4.kp (hR _ _ (by decide)) (hm _ _)⟩, e1.kp (hR _ _ (by decide)), e2.kp (hR _ _ (by decide)), e3.kp (fun g hg j h3 _ => hk j (Or.inr (by have := (a2.1 _ _ hg).1; omega))) (hm _ _)⟩
theorem MSt.self {S : Ab} {σ s : Hp} {m : Nat} (h : MSt S σ s m) : MSt S s s m := by
  obtain ⟨α, B, hM, hQ⟩ := h
  exact ⟨α, B, ⟨hM.1, rfl, fun _ _ => rfl⟩, hQ⟩
theorem MSt.fK {S : Ab} {σ s : Hp} (h : MSt S σ σ 83) (f : fK σ s) : MSt S s s 83 := by
  obtain ⟨α, B, hM, hQ⟩ := h
  refine ⟨α, B, ⟨⟨(f.2 83 (by decide) (by decide)).trans hM.1.1, fun j h1 h2 => (f.2 (83 + j) (by omega) (by omega)).trans (hM.1.2 j h1 h2)⟩, rfl, fun _ _ => rfl⟩, hQ⟩
theorem MA.out {σ s : Hp} {α : Nat → Int32} {B : Nat → Nat → Int32} (h : MA σ s 83 α B) : s.1 = σ.1 ∧ ∀ k, k < 83 ∨ 102 < k → s.2 k = σ.2 k := ⟨h.2.1, fun k hk => h.2.2 k (by omega)⟩
theorem MSt.out {S : Ab} {σ s : Hp} (h : MSt S σ s 83) : s.1 = σ.1 ∧ ∀ k, k < 83 ∨ 102 < k → s.2 k = σ.2 k := by
  obtain ⟨α, B, hM, -⟩ := h
  exact hM.out
theorem MSt_0 {s : Hp} {m : Nat} (h : MA s s m αI BI) : MSt AbI s s m := by
  refine ⟨αI, BI, h, rfl, fun p hp => absurd hp (Nat.not_lt_zero p), ?_, Or.inl rfl, Or.inl rfl, Or.inl rfl, Or.inl rfl, ⟨rfl, fun k hk => absurd hk (Nat.not_lt_zero k)⟩, ⟨rfl, rfl⟩, ⟨0, rfl⟩, rfl, rfl, fun i r hr => by cases hr⟩
  decide
/-- what Search's arrays still cost -/
def scC : Option Nat → Nat
  | none => 3
  | some _ => 0
def scS : Option Nat → Nat
  | none => 46592
  | some _ => 0
def LI (S : Ab) (σ : Hp) (mk : Nat → Option Nat) (T : Nat) : Prop := AbV S ∧ CSt S σ mk T ∧ MSt S σ σ 83 ∧ ∃ g : Nat → Int64, σ.2 103 = .inl (2, 1, .inr (.inl g))
def lwL (i : Nat) (v5 v6 : Value) : List Value := [.float 1, .ref 0, .ref 83, .ref 103, .int (nI i), v5, v6]
abbrev lwQ : Option Value → Hp → Prop := fun v _ => v = some (.int 1)
def LawOK (G : Gx) (N i : Nat) : Prop := ∀ (σ : Hp) (S : Ab) (mk : Nat → Option Nat) (T : Nat) (v5 v6 : Value), LI S σ mk T → T + N * 2652510 + 2900000 < 2 ^ 31 → Wp G mL_law 100 23 (lwL i v5 v6) [] σ (N * 24 + scC (mk 0)) (N * 5022 + scS (mk 0)) lwQ
/-- a call of the class, as the law sees it -/
def VC (G : Gx) (M1 : Md) (as : List Value) (σ : Hp) (S2 : Ab) (mk : Nat → Option Nat) (T : Nat) (A : Int32) : Prop :=
  ∃ c e, c ≤ 24 + scC (mk 0) ∧ e ≤ 5022 + scS (mk 0) ∧ Cl G M1 99 (.ref 0 :: as) σ c e (pI fun r s => r = A ∧ fK σ s ∧ ∃ mk2 T2, c + scC (mk2 0) ≤ 24 + scC (mk 0) ∧ e + scS (mk2 0) ≤ 5022 + scS (mk 0) ∧ T2 ≤ T + 2652510 ∧ CSt S2 s mk2 T2 ∧ AbV S2)
def ZC (G : Gx) (M2 : Md) (as : List Value) (S S2 : Ab) (A : Int32) : Prop := ∀ σ, MSt S σ σ 83 → Cl G M2 99 (.ref 83 :: as) σ 0 0 (pI fun r s => r = A ∧ MSt S2 σ s 83)
theorem VC.z {G : Gx} {M1 : Md} {as : List Value} {σ : Hp} {S2 : Ab} {mk : Nat → Option Nat} {T T2 : Nat} {A : Int32} (hV : AbV S2) (hT : T2 ≤ T + 2652510) (h : Cl G M1 99 (.ref 0 :: as) σ 0 0 (pI fun r s => r = A ∧ fK σ s ∧ CSt S2 s mk T2)) : VC G M1 as σ S2 mk T A := by
  refine ⟨0, 0, Nat.zero_le _, Nat.zero_le _, cl_post h ?_⟩
  rintro v s ⟨r, rfl, h1, h2, h3⟩
  exact ⟨r, rfl, h1, h2, mk, T2, by omega, by omega, hT, h3, hV⟩
theorem VC.e {G : Gx} {M1 : Md} {as : List Value} {σ : Hp} {S2 : Ab} {mk : Nat → Option Nat} {T T2 c e : Nat} {A : Int32} (hV : AbV S2) (hT : T2 ≤ T + 2652510) (hc : c ≤ 24) (he : e ≤ 5022) (h : Cl G M1 99 (.ref 0 :: as) σ c e (pI fun r s => r = A ∧ fK σ s ∧ ∃ mk2, mk2 0 = mk 0 ∧ CSt S2 s mk2 T2)) : VC G M1 as σ S2 mk T A := by
  refine ⟨c, e, by omega, by omega, cl_post h ?_⟩
  rintro v s ⟨r, rfl, h1, h2, mk2, hm, h3⟩
  exact ⟨r, rfl, h1, h2, mk2, T2, by rw [hm]; omega, by rw [hm]; omega, hT, h3, hV⟩
theorem VC.s {G : Gx} {M1 : Md} {as : List Value} {σ : Hp} {S2 : Ab} {mk : Nat → Option Nat} {T T2 : Nat} {A : Int32} (hV : AbV S2) (hT : T2 ≤ T + 2652510) (h : Cl G M1 99 (.ref 0 :: as) σ 0 0 (pI fun r s => r = A ∧ fK σ s ∧ CSt S2 s mk T2) ∨ (mk 0 = none ∧ Cl G M1 99 (.ref 0 :: as) σ 3 46592 (pI fun r s => r = A ∧ fK σ s ∧ ∃ mk2, mk2 0 ≠ none ∧ CSt S2 s mk2 T2))) : VC G M1 as σ S2 mk T A := by
  rcases h with h | ⟨hm, h⟩
  · exact VC.z hV hT h
  · have e1 : scC (mk 0) = 3 := by rw [hm]; rfl
    have e2 : scS (mk 0) = 46592 := by rw [hm]; rfl
    refine ⟨3, 46592, by omega, by omega, cl_post h ?_⟩
    rintro v s ⟨r, rfl, h1, h2, mk2, hm2, h3⟩
    have e3 : scC (mk2 0) = 0 := by
      cases hq : mk2 0 with
      | none => exact absurd hq hm2
      | some a => rfl
    have e4 : scS (mk2 0) = 0 := by
      cases hq : mk2 0 with
      | none => exact absurd hq hm2
      | some a => rfl
    exact ⟨r, rfl, h1, h2, mk2, T2, by omega, by omega, hT, h3, hV⟩
theorem VC.n {G : Gx} {M1 : Md} {as : List Value} {σ : Hp} {S2 : Ab} {mk : Nat → Option Nat} {T T2 : Nat} {A : Int32} (hT : T2 ≤ T + 2652510) (h : Cl G M1 99 (.ref 0 :: as) σ 0 0 (pI fun r s => r = A ∧ fK σ s ∧ CSt S2 s mk T2 ∧ AbV S2)) : VC G M1 as σ S2 mk T A := by
  refine ⟨0, 0, Nat.zero_le _, Nat.zero_le _, cl_post h ?_⟩
  rintro v s ⟨r, rfl, h1, h2, h3, hV⟩
  exact ⟨r, rfl, h1, h2, mk, T2, by omega, by omega, hT, h3, hV⟩
section LawR
variable {G : Gx} {d pc : Nat} {st : List Value} {σ : Hp} {mc ms : Nat} {Q : Option Value → Hp → Prop} {i : Nat} {v5 v6 : Value}
/-- script[i + j] -/
theorem law_ld {j n : Nat} (hj : Int32.ofInt (n : Int) = nI j) (h0 : decode code pc = .ok (.aload_n 0, 1)) (h1 : decode code (pc + 1) = .ok (.iload 4, 2)) (h3 : decode code (pc + 3) = .ok (.iconst n, 1)) (h4 : decode code (pc + 4) = .ok (.iadd, 1)) (h5 : decode code (pc + 5) = .ok (.iaload, 1)) (hL : G.2.2.2.1 ≤ 3072) (hi : i + j < G.2.2.2.1)
    (k : Wp G mL_law d (pc + 6) (lwL i v5 v6) (.int (G.2.2.2.2 (i + j)) :: st) σ mc ms Q) : Wp G mL_law d pc (lwL i v5 v6) st σ mc ms Q := by
  refine wp_aload_n h0 rfl rfl ?_
  refine wp_iload h1 rfl ?_
  refine wp_iconst (v := nI j) h3 hj ?_
  refine wp_iaddN h4 ?_
  refine wp_sald h5 (vp_in_nI hi (by omega)) ?_
  rw [nI_clamp (by omega)]
  exact k
theorem law_nx {N : Nat} (ih : LawOK G N (i + 6)) {S : Ab} {mk : Nat → Option Nat} {T : Nat} (hI : LI S σ mk T) (hT : T + N * 2652510 + 2900000 < 2 ^ 31) (hc : N * 24 + scC (mk 0) ≤ mc) (hs : N * 5022 + scS (mk 0) ≤ ms) : Wp G mL_law 100 1421 (lwL i v5 v6) [] σ mc ms lwQ := by
  refine wp_iincN (c := 6) (atd dLw37 0 rfl) rfl ?_
  refine wp_goto (tgt := 23) (atd dLw37 1 rfl) (by decide) ?_
  exact wp_le hc hs (ih σ S mk T v5 v6 hI hT)
/-- the class's call -/
theorem law_cv {M1 : Md} {n ix : Nat} {st0 : List Value} (as : List Value) (hd : decode code pc = .ok (.invokevirtual ix, 3)) (hm : MV M1 n) (hl : mLk RL ix M1.1) (hst : st0 = as.reverse ++ [.ref 0]) (hn : as.length = n) (hcl : M1.1.cls = RX11) {S2 : Ab} {mk : Nat → Option Nat} {T N : Nat} {A : Int32} (hH : OB σ 0 11 (shF mk)) (hC : VC G M1 as σ S2 mk T A)
    (kk : ∀ (s2 : Hp) (mk2 : Nat → Option Nat) (T2 mc2 ms2 : Nat), fK σ s2 → T2 ≤ T + 2652510 → CSt S2 s2 mk2 T2 → AbV S2 → N * 24 + scC (mk2 0) ≤ mc2 → N * 5022 + scS (mk2 0) ≤ ms2 → Wp G mL_law 100 (pc + 3) (lwL i v5 v6) [.int A] s2 mc2 ms2 lwQ) : Wp G mL_law 100 pc (lwL i v5 v6) st0 σ ((N + 1) * 24 + scC (mk 0)) ((N + 1) * 5022 + scS (mk 0)) lwQ := by
  obtain ⟨c, e, hc, he, hC⟩ := hC
  have h1 : (N + 1) * 24 + scC (mk 0) = c + ((N + 1) * 24 + scC (mk 0) - c) := by omega
  have h2 : (N + 1) * 5022 + scS (mk 0) = e + ((N + 1) * 5022 + scS (mk 0) - e) := by omega
  rw [h1, h2]
  refine wp_callV (M := mL_law) (d := 99) as hd hm hl hst hn (by decide) hH (by rw [hcl]; rfl) hC ?_
  rintro v s2 ⟨r, rfl, rfl, h3, mk2, T2, k1, k2, k3, k4, k5⟩
  exact kk s2 mk2 T2 _ _ h3 k3 k4 k5 (by omega) (by omega)
/-- the reference's call -/
theorem law_cz {M2 : Md} {n ix : Nat} {st0 : List Value} {A0 : Int32} (as : List Value) (hd : decode code pc = .ok (.invokevirtual ix, 3)) (hm : MV M2 n) (hl : mLk RL ix M2.1) (hst : st0 = as.reverse ++ [.ref 83, .int A0]) (hn : as.length = n) (hcl : M2.1.cls = RX12) {S S2 : Ab} {A : Int32} (hM : MSt S σ σ 83) (hC : ZC G M2 as S S2 A)
    (kk : ∀ s2 : Hp, MSt S2 σ s2 83 → Wp G mL_law 100 (pc + 3) (lwL i v5 v6) [.int A, .int A0] s2 mc ms lwQ) : Wp G mL_law 100 pc (lwL i v5 v6) st0 σ mc ms lwQ := by
  obtain ⟨α, B, hMA, -⟩ := id hM
  have := wp_callV (M := mL_law) (d := 99) (mc1 := 0) (ms1 := 0) (mc2 := mc) (ms2 := ms) (Q := lwQ) (L := lwL i v5 v6) as hd hm hl hst hn (Nat.le_of_ble_eq_true rfl) hMA.1.1 (by rw [hcl]; rfl) (hC σ hM) (fun v s2 hq => by obtain ⟨r, rfl, rfl, h2⟩ := hq; exact kk s2 h2)
  rwa [Nat.zero_add, Nat.zero_add] at this
/-- both calls done: the answers are the same -/
theorem law_eq {N : Nat} {off : Int} {A : Int32} (hd : decode code pc = .ok (.if_icmp .eq off, 3)) (ht : (pc : Int) + off = ((1421 : Nat) : Int)) (ih : LawOK G N (i + 6)) {S2 : Ab} {s1 : Hp} {mk : Nat → Option Nat} {T : Nat} (hV : AbV S2) (hS : CSt S2 s1 mk T) (hM : MSt S2 s1 σ 83) (hg : ∃ g : Nat → Int64, s1.2 103 = .inl (2, 1, .inr (.inl g))) (hT : T + N * 2652510 + 2900000 < 2 ^ 31) (hc : N * 24 + scC (mk 0) ≤ mc) (hs : N * 5022 + scS (mk 0) ≤ ms) : Wp G mL_law 100 pc (lwL i v5 v6) [.int A, .int A] σ mc ms lwQ := by
  refine wp_icmp_eq (tgt := 1421) hd ht (fun _ => ?_) (fun c => absurd rfl c)
  obtain ⟨o1, o2⟩ := hM.out
  obtain ⟨g, hg⟩ := hg
  exact law_nx ih ⟨hV, hS.ref o1 (fun k hk => o2 k (by omega)), hM.self, g, (o2 103 (by decide)).trans hg⟩ hT hc hs
end LawR
