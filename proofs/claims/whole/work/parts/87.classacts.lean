/-! the class's state while the net changes: what was found out may be of another net -/
def CS2 (S S0 : Ab) (σ : Hp) (mk : Nat → Option Nat) (T : Nat) : Prop := (104 ≤ σ.1 ∧ MKO mk σ.1 ∧ MKG mk σ.1 ∧ OB σ 0 11 (shF mk)) ∧ (cScr S σ ∧ cNet S σ ∧ cDra σ ∧ cDis S0 σ) ∧ (cGam S0 σ mk T ∧ cSym σ ∧ cWat σ ∧ cSea S0 σ mk) ∧ cSce S σ ∧ cPas S σ ∧ cTri σ mk T
/-- a part stays and says the same of the new state, or is given -/
def upQ (L : List Nat) (a b : Nat) (P Q : Prop) : Prop := ((∀ j ∈ L, j < a ∨ b < j) ∧ P) ∨ Q
section Up2
variable {S S0 S2 S3 : Ab} {σ s : Hp} {mk : Nat → Option Nat} {T : Nat}
theorem CS2.up {L : List Nat} (h : CS2 S S0 σ mk T) (f : fA L σ s) (hL : ∀ j ∈ L, 0 < j ∧ j < 83 := by decide)
    (c1 : upQ L 1 4 (cScr S σ → cScr S2 σ) (cScr S2 s) := by first | exact Or.inl ⟨by decide, id⟩ | exact Or.inr (by assumption))
    (c2 : upQ L 5 6 (cNet S σ → cNet S2 σ) (cNet S2 s) := by first | exact Or.inl ⟨by decide, id⟩ | exact Or.inr (by assumption))
    (c3 : upP L 7 8 (cDra s) := by first | exact Or.inl (by decide) | exact Or.inr (by assumption))
    (c4 : upQ L 9 11 (cDis S0 σ → cDis S3 σ) (cDis S3 s) := by first | exact Or.inl ⟨by decide, id⟩ | exact Or.inr (by assumption))
    (c5 : upQ L 12 33 (cGam S0 σ mk T → cGam S3 σ mk T) (cGam S3 s mk T) := by first | exact Or.inl ⟨by decide, id⟩ | exact Or.inr (by assumption))
    (c6 : upP L 34 36 (cSym s) := by first | exact Or.inl (by decide) | exact Or.inr (by assumption))
    (c7 : upP L 37 38 (cWat s) := by first | exact Or.inl (by decide) | exact Or.inr (by assumption))
    (c8 : upQ L 39 42 (cSea S0 σ mk → cSea S3 σ mk) (cSea S3 s mk) := by first | exact Or.inl ⟨by decide, id⟩ | exact Or.inr (by assumption))
    (c9 : upQ L 43 43 (cSce S σ → cSce S2 σ) (cSce S2 s) := by first | exact Or.inl ⟨by decide, id⟩ | exact Or.inr (by assumption))
    (c10 : upQ L 44 82 (cPas S σ → cPas S2 σ) (cPas S2 s) := by first | exact Or.inl ⟨by decide, id⟩ | exact Or.inr (by assumption)) : CS2 S2 S3 s mk T ∧ fK σ s := by
  obtain ⟨⟨a1, a2, a3, a4⟩, ⟨b1, b2, b3, b4⟩, ⟨d1, d2, d3, d4⟩, e1, e2, e3⟩ := h
  have hm : ∀ i0 i1, kpM mk i0 i1 σ s := fun i0 i1 => kpM.of f a2 (fun j hj => Or.inl (by have := hL j hj; omega))
  refine ⟨⟨⟨Nat.le_trans a1 f.1, a2.le f.1, ⟨fun g hg => ⟨Nat.lt_of_lt_of_le (a3.1 g hg).1 f.1, (a3.1 g hg).2⟩, a3.2⟩, a4.kp (f.2 0 (by omega) (fun z => by have := hL 0 z; omega))⟩, ⟨c1.elim (fun z => (z.2 b1).kp (kpR.of f (by omega) z.1)) id, c2.elim (fun z => (z.2 b2).kp (kpR.of f (by omega) z.1)) id, c3.elim (fun z => b3.kp (kpR.of f (by omega) z)) id, c4.elim (fun z => (z.2 b4).kp (kpR.of f (by omega) z.1)) id⟩, ⟨c5.elim (fun z => (z.2 d1).kp (kpR.of f (by omega) z.1) (hm _ _)) id, c6.elim (fun z => d2.kp (kpR.of f (by omega) z)) id, c7.elim (fun z => d3.kp (kpR.of f (by omega) z)) id, c8.elim (fun z => (z.2 d4).kp (kpR.of f (by omega) z.1) (hm _ _)) id⟩, c9.elim (fun z => (z.2 e1).kp (kpR.of f (by omega) z.1)) id, c10.elim (fun z => (z.2 e2).kp (kpR.of f (by omega) z.1)) id, e3.kp (fun g hg => kpR.of f (a3.1 g hg).1 (fun j hj => Or.inl (by have := hL j hj; have := (a2.1 _ _ hg).1; omega))) (hm _ _)⟩, fK.of f a1 (fun j hj => Or.inl (hL j hj).2)⟩
theorem CSt.to2 (h : CSt S σ mk T) : CS2 S S σ mk T := h
theorem CS2.toC (h : CS2 S S σ mk T) : CSt S σ mk T := h
end Up2
def paL : List Nat := List.range' 44 39
theorem paL_mem {nx : Nat} (hnx : nx < 12) : ∀ j ∈ [44, 44 + 3 + 3 * nx, 44 + 3 + 3 * nx + 1, 44 + 3 + 3 * nx + 2], j ∈ paL := by
  intro j hj
  simp only [List.mem_cons, List.not_mem_nil, or_false] at hj
  unfold paL
  rw [List.mem_range'_1]
  omega
theorem keep_ix {len nx i : Nat} (h : len ≤ 12) (hnx : nx < 12) (hi : i + 1 < ka len) : ((nx + 1) % 12 + 12 - ka len + i) % 12 = (nx + 12 - len + (i + (if len = 12 then 1 else 0))) % 12 ∧ (nx + 12 - len + (i + (if len = 12 then 1 else 0))) % 12 ≠ nx := by
  unfold ka at hi ⊢
  by_cases h12 : len = 12
  · rw [if_pos h12] at hi ⊢; rw [if_pos h12]; omega
  · rw [if_neg h12] at hi ⊢; rw [if_neg h12]; omega
theorem keep_ix2 {len nx i : Nat} (h : len ≤ 12) (hnx : nx < 12) (hi : i + 1 = ka len) : ((nx + 1) % 12 + 12 - ka len + i) % 12 = nx := by
  unfold ka at hi ⊢
  by_cases h12 : len = 12
  · rw [if_pos h12] at hi ⊢; omega
  · rw [if_neg h12] at hi ⊢; omega
/-- the past keeps the net and the scene -/
theorem eX4_keepC {G : Gx} {d : Nat} {σ : Hp} {S : Ab} {mk : Nat → Option Nat} {T : Nat} (hd : 1 ≤ d) (hV : AbV S) (hS : CSt S σ mk T) : Cl G mX4_keep d [.ref 44, .ref 5, .ref 43] σ 0 0 (pV fun s => fr paL σ s ∧ CSt (S.act S.sc) s mk T ∧ fK σ s) := by
  obtain ⟨hN, hNA⟩ := hS.2.1.2.1
  obtain ⟨c, hK, hz, hc⟩ := hS.2.2.2.1
  obtain ⟨nx, N, NB, C, hnx, hPa, hR1, hR2, hPS, hzC, hrec⟩ := hS.2.2.2.2.1
  have hlen := hV.2.2.2.2.1
  refine cl_post (eX4_keep hd hPa hR1 hR2 hPS hlen hnx hN hNA hK hz (by omega) (by omega) (by omega)) ?_
  rintro v s ⟨rfl, f, h1, h2⟩
  have f2 := f.mono (paL_mem hnx)
  have g1 : cPas (S.act S.sc) s := by
    refine ⟨(nx + 1) % 12, va_up N nx S.n, va_up NB nx S.nb, va_up C nx c, Nat.mod_lt _ (by decide), ?_, hR1.fr f (by simp only [List.mem_cons, List.not_mem_nil, or_false]; omega), hR2.fr f (by simp only [List.mem_cons, List.not_mem_nil, or_false]; omega), h2, fun i hi => ?_, fun i r hr => ?_⟩
    · have e : S.psK.length = (if 12 < S.ps.length + 1 then 12 else S.ps.length + 1) := by rw [psK_len]; unfold ka; split <;> split <;> omega
      show OB s 44 4 (paF 44 S.psK.length _)
      rw [e]; exact h1
    · unfold va_up
      by_cases e : i = nx
      · rw [if_pos e]; exact hz
      · rw [if_neg e]; exact hzC i hi
    · have hr : S.psK[i]? = some r := hr
      show va_up N nx S.n (((nx + 1) % 12 + 12 - S.psK.length + i) % 12) = r.n ∧ (∀ p, p < 9 → va_up NB nx S.nb (((nx + 1) % 12 + 12 - S.psK.length + i) % 12) p = r.nb p) ∧ ScC r.n (va_up C nx c (((nx + 1) % 12 + 12 - S.psK.length + i) % 12)) r.sc
      rw [psK_len]
      rcases psK_get hr with ⟨hi, rfl⟩ | ⟨hi, hr2⟩
      · rw [keep_ix2 hlen hnx hi]
        unfold va_up
        rw [if_pos rfl, if_pos rfl, if_pos rfl]
        exact ⟨rfl, fun p _ => rfl, hc⟩
      · obtain ⟨x1, x2⟩ := keep_ix hlen hnx hi
        rw [x1]
        unfold va_up
        rw [if_neg x2, if_neg x2, if_neg x2]
        exact hrec _ r hr2
  obtain ⟨q1, q2⟩ := CS2.up (S2 := S.act S.sc) (S3 := S.act S.sc) hS.to2 f2.A
  exact ⟨rfl, f2, q1, q2⟩
/-- all that was found out holds no more -/
theorem MKO_wk {mk : Nat → Option Nat} {m : Nat} (h : MKO mk m) : ∀ j a, (fun i => if i < 9 then mk (3 + i) else none) j = some a → (a < 12 ∨ 12 + 21 < a) := fun j a e => by
  by_cases hj : j < 9
  · have e : (if j < 9 then mk (3 + j) else none) = some a := e
    rw [if_pos hj] at e; have := h.1 _ _ e; omega
  · have e : (if j < 9 then mk (3 + j) else none) = some a := e
    rw [if_neg hj] at e; cases e
/-- parts of different nets: the dismantling's, the games', the search's -/
def CS3 (S Sd Sg Ss : Ab) (σ : Hp) (mk : Nat → Option Nat) (T : Nat) : Prop := (104 ≤ σ.1 ∧ MKO mk σ.1 ∧ MKG mk σ.1 ∧ OB σ 0 11 (shF mk)) ∧ (cScr S σ ∧ cNet S σ ∧ cDra σ ∧ cDis Sd σ) ∧ (cGam Sg σ mk T ∧ cSym σ ∧ cWat σ ∧ cSea Ss σ mk) ∧ cSce S σ ∧ cPas S σ ∧ cTri σ mk T
theorem CS3.up {S Sd Sg Ss Sd2 Sg2 Ss2 : Ab} {σ s : Hp} {mk : Nat → Option Nat} {T : Nat} {L : List Nat} (h : CS3 S Sd Sg Ss σ mk T) (f : fA L σ s) (hL : ∀ j ∈ L, 8 < j ∧ j < 43 ∧ (j < 34 ∨ 38 < j))
    (c4 : upQ L 9 11 (cDis Sd σ → cDis Sd2 σ) (cDis Sd2 s)) (c5 : upQ L 12 33 (cGam Sg σ mk T → cGam Sg2 σ mk T) (cGam Sg2 s mk T)) (c8 : upQ L 39 42 (cSea Ss σ mk → cSea Ss2 σ mk) (cSea Ss2 s mk)) : CS3 S Sd2 Sg2 Ss2 s mk T ∧ fK σ s := by
  obtain ⟨⟨a1, a2, a3, a4⟩, ⟨b1, b2, b3, b4⟩, ⟨d1, d2, d3, d4⟩, e1, e2, e3⟩ := h
  have hm : ∀ i0 i1, kpM mk i0 i1 σ s := fun i0 i1 => kpM.of f a2 (fun j hj => Or.inl (by have := hL j hj; omega))
  exact ⟨⟨⟨Nat.le_trans a1 f.1, a2.le f.1, ⟨fun g hg => ⟨Nat.lt_of_lt_of_le (a3.1 g hg).1 f.1, (a3.1 g hg).2⟩, a3.2⟩, a4.kp (f.2 0 (by omega) (fun z => by have := hL 0 z; omega))⟩, ⟨b1.kp (kpR.of f (by omega) (fun j hj => by have := hL j hj; omega)), b2.kp (kpR.of f (by omega) (fun j hj => by have := hL j hj; omega)), b3.kp (kpR.of f (by omega) (fun j hj => by have := hL j hj; omega)), c4.elim (fun z => (z.2 b4).kp (kpR.of f (by omega) z.1)) id⟩, ⟨c5.elim (fun z => (z.2 d1).kp (kpR.of f (by omega) z.1) (hm _ _)) id, d2.kp (kpR.of f (by omega) (fun j hj => by have := hL j hj; omega)), d3.kp (kpR.of f (by omega) (fun j hj => by have := hL j hj; omega)), c8.elim (fun z => (z.2 d4).kp (kpR.of f (by omega) z.1) (hm _ _)) id⟩, e1.kp (kpR.of f (by omega) (fun j hj => by have := hL j hj; omega)), e2.kp (kpR.of f (by omega) (fun j hj => by have := hL j hj; omega)), e3.kp (fun g hg => kpR.of f (a3.1 g hg).1 (fun j hj => Or.inl (by have := hL j hj; have := (a2.1 _ _ hg).1; omega))) (hm _ _)⟩, fK.of f a1 (fun j hj => Or.inl (by have := hL j hj; omega))⟩
theorem eX11_renew {G : Gx} {d : Nat} {σ : Hp} (hd : 3 ≤ d) {S S0 : Ab} {mk : Nat → Option Nat} {T : Nat} (hV : AbV S) (hS : CS2 S S0 σ mk T) : Cl G mX11_renew d [.ref 0] σ 0 0 (pV fun s => CSt S s mk T ∧ fK σ s) := by
  obtain ⟨d0, hdd⟩ : ∃ e, d = e + 1 := ⟨d - 1, by omega⟩
  refine cl_of (by decide) (by simp [Value.category]) (Nat.le_of_ble_eq_true rfl) ?_
  show Wp G mX11_renew d 0 [.ref 0] [] σ 0 0 _
  have hS : CS3 S S0 S0 S0 σ mk T := hS
  have hH := hS.1.2.2.2
  have hn := hV.1.1.1
  obtain ⟨ds, dD, dt, dc, hDi, hD1, hD2⟩ : ∃ ds D t c, OB σ 9 0 (diF 9 ds D) ∧ AI σ (9 + 1) 9 t ∧ AI σ (9 + 2) 9 c := by
    rcases hS.2.1.2.2.2 with ⟨t, c, h1, h2, h3, h4⟩ | ⟨D, t, c, h1, h2, h3⟩
    · exact ⟨_, _, t, c, h1, h2, h3⟩
    · exact ⟨_, D, t, c, h1, h2, h3⟩
  refine wp_aload_n (atd dX11_renew 0 rfl) rfl rfl ?_
  refine wp_get fX11_29 (atd dX11_renew 1 rfl) hH rfl ?_
  refine wp_iconst (v := nI 0) (atd dX11_renew 2 rfl) (by decide) ?_
  refine wp_putX fX11_343 (atd dX11_renew 3 rfl) hDi (by decide) (Nat.le_of_ble_eq_true rfl) (fun σ f_5 hDi => ?_)
  have hD1 := hD1.fr f_5 (by decide)
  have hD2 := hD2.fr f_5 (by decide)
  obtain ⟨hS, hk1⟩ := CS3.up (Sd2 := S) (Sg2 := S0) (Ss2 := S0) hS f_5.A (by decide) (Or.inr (Or.inr ⟨dD, dt, dc, hDi, hD1, hD2⟩)) (Or.inl ⟨by decide, id⟩) (Or.inl ⟨by decide, id⟩)
  obtain ⟨hN, hNA⟩ := hS.2.1.2.1
  have hH := hS.1.2.2.2
  have hGo := hS.2.2.1.1.1
  refine wp_aload_n (atd dX11_renew 4 rfl) rfl rfl ?_
  refine wp_get fX11_38 (atd dX11_renew 5 rfl) hH rfl ?_
  refine wp_cVv hdd [] (atd dX11_renew 6 rfl) iX2_renew lX11_346 rfl rfl (Nat.le_of_ble_eq_true rfl) hGo rfl (eX2_renew (by omega) hn (net_lt hV.1) hN hNA hS.2.2.1.1 (MKO_wk hS.1.2.1) (by omega)) (fun s_12 h_12 => ?_)
  obtain ⟨f_12, hGS⟩ := h_12
  obtain ⟨hS, hk2⟩ := CS3.up (Sd2 := S) (Sg2 := S) (Ss2 := S0) hS f_12.A (by decide) (Or.inl ⟨by decide, id⟩) (Or.inr hGS) (Or.inl ⟨by decide, id⟩)
  have hH := hS.1.2.2.2
  obtain ⟨rd, rn, pa, hSx⟩ := id hS.2.2.1.2.2.2
  obtain ⟨qd, hSe⟩ := hSx.1
  refine wp_aload_n (atd dX11_renew 7 rfl) rfl rfl ?_
  refine wp_get fX11_65 (atd dX11_renew 8 rfl) hH rfl ?_
  refine wp_cVv hdd [] (atd dX11_renew 9 rfl) iX8_renew lX11_347 rfl rfl (Nat.le_of_ble_eq_true rfl) hSe rfl (eX8_renew (nb := S.nb) (n := S.n) (by omega) hSx hS.1.2.1) (fun s_19 h_19 => ?_)
  obtain ⟨f_19, rd2, hSx2⟩ := h_19
  obtain ⟨hS, hk3⟩ := CS3.up (Sd2 := S) (Sg2 := S) (Ss2 := S) hS f_19.A (by decide) (Or.inl ⟨by decide, id⟩) (Or.inl ⟨by decide, id⟩) (Or.inr ⟨rd2, rn, pa, hSx2⟩)
  refine wp_vretv (atd dX11_renew 10 rfl) rfl ?_
  exact ⟨hS, hk1.tr (hk2.tr hk3)⟩
theorem fA.tr2 {S T : List Nat} {σ s t : Hp} (a : fA S σ s) (b : fA T s t) : fA (S ++ T) σ t := (a.mono (fun j h => List.mem_append_left _ h)).tr b (fun j h => List.mem_append_right _ h)
theorem eX11_takeDraft {G : Gx} {d : Nat} {σ : Hp} (hd : 4 ≤ d) {S : Ab} {mk : Nat → Option Nat} {T : Nat} (hV : AbV S) (hS : CSt S σ mk T) {n2 : Nat} {nb2 : Nat → Nat} (hDr : OB σ 7 3 [.int (nI n2), .ref (7 + 1)]) (hDA : AI σ (7 + 1) 9 nb2) (hNZ : isNetZ n2 nb2) : Cl G mX11_takeDraft d [.ref 0] σ 0 0 (pV fun s => CSt (S.nnet n2 nb2) s mk T ∧ fK σ s) := by
  obtain ⟨d0, hdd⟩ : ∃ e, d = e + 1 := ⟨d - 1, by omega⟩
  refine cl_of (by decide) (by simp [Value.category]) (Nat.le_of_ble_eq_true rfl) ?_
  show Wp G mX11_takeDraft d 0 [.ref 0] [] σ 0 0 _
  have hH := hS.1.2.2.2
  obtain ⟨nx, N, NB, C, hnx, hPa, hPr⟩ := id hS.2.2.2.2.1
  refine wp_aload_n (atd dX11_takeDraft 0 rfl) rfl rfl ?_
  refine wp_get fX11_79 (atd dX11_takeDraft 1 rfl) hH rfl ?_
  refine wp_aload_n (atd dX11_takeDraft 2 rfl) rfl rfl ?_
  refine wp_get fX11_19 (atd dX11_takeDraft 3 rfl) hH rfl ?_
  refine wp_aload_n (atd dX11_takeDraft 4 rfl) rfl rfl ?_
  refine wp_get fX11_72 (atd dX11_takeDraft 5 rfl) hH rfl ?_
  refine wp_cVv hdd [_, _] (atd dX11_takeDraft 6 rfl) iX4_keep lX11_255 rfl rfl (Nat.le_of_ble_eq_true rfl) hPa rfl (eX4_keepC (by omega) hV hS) (fun s_12 h_12 => ?_)
  obtain ⟨f_12, hS, hk1⟩ := h_12
  have hH := hS.1.2.2.2
  obtain ⟨hN, hNA⟩ := hS.2.1.2.1
  have hDr := hDr.fr f_12 (by decide)
  have hDA := hDA.fr f_12 (by decide)
  refine wp_aload_n (atd dX11_takeDraft 7 rfl) rfl rfl ?_
  refine wp_get fX11_19 (atd dX11_takeDraft 8 rfl) hH rfl ?_
  refine wp_aload_n (atd dX11_takeDraft 9 rfl) rfl rfl ?_
  refine wp_get fX11_23 (atd dX11_takeDraft 10 rfl) hH rfl ?_
  refine wp_cVv hdd [_] (atd dX11_takeDraft 11 rfl) iX3_copyFrom lX11_100 rfl rfl (Nat.le_of_ble_eq_true rfl) hN rfl (eX3_copyFrom (by omega) hN hNA hDr hDA (by omega)) (fun s_23 h_23 => ?_)
  obtain ⟨f_23, hN, hNA⟩ := h_23
  have c2 : cNet (S.nnet n2 nb2) s_23 := ⟨hN, hNA⟩
  have hH := hH.fr f_23 (by decide)
  obtain ⟨c, hSt, hcz, hcs⟩ := id hS.2.2.2.1
  have hSt := hSt.fr f_23 (by decide)
  refine wp_aload_n (atd dX11_takeDraft 12 rfl) rfl rfl ?_
  refine wp_get fX11_72 (atd dX11_takeDraft 13 rfl) hH rfl ?_
  refine wp_iconst (v := nI 0) (atd dX11_takeDraft 14 rfl) (by decide) ?_
  refine wp_putX fX11_103 (atd dX11_takeDraft 15 rfl) hSt (by decide) (Nat.le_of_ble_eq_true rfl) (fun σ f_31 hSt => ?_)
  obtain ⟨hS, hk2⟩ := CS2.up (S2 := S.nnet n2 nb2) (S3 := S) (s := σ) hS.to2 (f_23.A.tr2 f_31.A) (c2 := Or.inr (c2.kp (fun j h1 h2 => f_31.2 j (by simp only [List.mem_cons, List.not_mem_nil, or_false]; omega)))) (c9 := Or.inr ⟨fun i => if i = 0 then nI 0 else c i, hSt, ⟨(by decide : okV .boolean (.int (nI 0)) = true), hcz.2⟩, rfl⟩)
  have hH := hS.1.2.2.2
  refine wp_aload_n (atd dX11_takeDraft 16 rfl) rfl rfl ?_
  refine wp_cVv hdd [] (atd dX11_takeDraft 17 rfl) iX11_renew lX11_110 rfl rfl (Nat.le_of_ble_eq_true rfl) hH rfl (eX11_renew (by omega) (nnet_V hV hNZ) hS) (fun s_35 h_35 => ?_)
  obtain ⟨hS, hk3⟩ := h_35
  refine wp_vretv (atd dX11_takeDraft 18 rfl) rfl ?_
  exact ⟨hS, hk1.tr (hk2.tr hk3)⟩
