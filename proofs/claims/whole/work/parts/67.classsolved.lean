/-! the games of a net, solved when they are asked for -/
def gix (kd h : Nat) : Nat := kd * 3 + h - 1
def gLn (h : Nat) : Nat := (frN (h + 1) - frN h) * 9
noncomputable def RdI (nb : Nat → Nat) (n kd h : Nat) (wo : Nat → Option Nat) (op tn rf : Int32) : Prop := (∃ w, FinI nb n kd h w wo) ∧ (∀ i v, wo i = some v → v < 1000000) ∧ op = nI (xi h n (stF nb n h kd)) ∧ tn = oI (tmF nb n h kd) ∧ rf = nI (nc (slvF nb n h kd) n (rowsL h n).length)
def GMx (σ : Hp) (g : Nat) (nb : Nat → Nat) (n : Nat) (wk : Nat → Option Nat) (kd h : Nat) (rd : Bool) (op tn rf hp : Int32) : Prop := OB σ (g + 13 + gix kd h) 1 (gaF kd (frN h) (frN (h + 1)) (bI (rd = true)) (rv (wk (gix kd h))) op tn rf hp) ∧ (∀ wa, wk (gix kd h) = some wa → AX σ wa (gLn h)) ∧ (rd = true → ∃ wa wo, wk (gix kd h) = some wa ∧ AO σ wa (gLn h) wo ∧ RdI nb n kd h wo op tn rf ∧ (hp = -2 ∨ hp = oI (hlP nb n kd h n 0)))
def GM (σ : Hp) (g : Nat) (nb : Nat → Nat) (n : Nat) (wk : Nat → Option Nat) (kd h : Nat) : Prop := ∃ rd op tn rf hp, GMx σ g nb n wk kd h rd op tn rf hp
def RKg (σ : Hp) (g : Nat) (nb : Nat → Nat) (T : Nat) : Prop := RT σ (g + 1) ∧ LR σ (g + 1) nb ∧ ∃ t l, FS σ (g + 1) t l ∧ t ≤ T
def WHN (σ : Hp) (g : Nat) : Prop := ∃ w hl nw, AI σ (g + 10) 219 w ∧ AI σ (g + 11) 219 hl ∧ AI σ (g + 12) 219 nw ∧ (∀ y, w y < 512) ∧ (∀ y, hl y < 512) ∧ ∀ y, nw y < 512
def GS (σ : Hp) (g kn : Nat) (nb : Nat → Nat) (n : Nat) (wk : Nat → Option Nat) (T : Nat) : Prop := OB σ g 2 (ggF g kn) ∧ AR σ (g + 9) 5 9 (fun i => g + 13 + i) ∧ RKg σ g nb T ∧ WHN σ g ∧ ∀ kd h, kd < 3 → 1 ≤ h → h ≤ 3 → GM σ g nb n wk kd h
def WKO (wk : Nat → Option Nat) (g kn m : Nat) : Prop := (∀ i a, wk i = some a → (a < g ∨ g + 21 < a) ∧ a ≠ kn ∧ a ≠ kn + 1 ∧ a < m) ∧ ∀ i j a, wk i = some a → wk j = some a → i = j
theorem GMx.fA {σ s : Hp} {S : List Nat} {g n kd h : Nat} {nb : Nat → Nat} {wk : Nat → Option Nat} {rd : Bool} {op tn rf hp : Int32} (hm : GMx σ g nb n wk kd h rd op tn rf hp) (f : fA S σ s) (hl : g + 13 + gix kd h < σ.1) (hk : g + 13 + gix kd h ∉ S) (hw : ∀ wa, wk (gix kd h) = some wa → wa < σ.1 ∧ wa ∉ S) : GMx s g nb n wk kd h rd op tn rf hp := by
  obtain ⟨h1, h2, h3⟩ := hm
  refine ⟨h1.fA f hl hk, fun wa e => (h2 wa e).fA f (hw wa e).1 (hw wa e).2, fun e => ?_⟩
  obtain ⟨wa, wo, e1, e2, e3⟩ := h3 e
  exact ⟨wa, wo, e1, e2.fA f (hw wa e1).1 (hw wa e1).2, e3⟩
theorem GMx.wk {σ : Hp} {g n kd h : Nat} {nb : Nat → Nat} {wk wk2 : Nat → Option Nat} {rd : Bool} {op tn rf hp : Int32} (hm : GMx σ g nb n wk kd h rd op tn rf hp) (e : wk2 (gix kd h) = wk (gix kd h)) : GMx σ g nb n wk2 kd h rd op tn rf hp := by unfold GMx; rw [e]; exact hm
theorem gix_inj {kd h kd2 h2 : Nat} (h1 : 1 ≤ h) (h3 : h ≤ 3) (g1 : 1 ≤ h2) (g3 : h2 ≤ 3) (e : gix kd h = gix kd2 h2) : kd = kd2 ∧ h = h2 := by unfold gix at e; omega
theorem gix_lt {kd h : Nat} (hk : kd < 3) (h1 : 1 ≤ h) (h3 : h ≤ 3) : gix kd h < 9 := by unfold gix; omega
/-- behind the last of the table there's nothing -/
def cutW (L : Nat) (wo : Nat → Option Nat) : Nat → Option Nat := fun i => if i < L then wo i else none
theorem AO.cut {σ : Hp} {k L : Nat} {wo : Nat → Option Nat} (h : AO σ k L wo) : AO σ k L (cutW L wo) := by
  obtain ⟨f, h1, h2⟩ := h
  refine ⟨f, h1, fun i hi => ?_⟩
  rw [h2 i hi]
  unfold cutW
  rw [if_pos hi]
theorem Fin_cut {nb : Nat → Nat} {n kd h : Nat} {w : Nat → Nat} {wo : Nat → Option Nat} (hn : n ≤ 9) (hF : FinI nb n kd h w wo) : FinI nb n kd h w (cutW (gLn h) wo) ∧ ∀ i v, cutW (gLn h) wo i = some v → v < 1000000 := by
  have hlt : ∀ x p, frN h ≤ x → x < frN (h + 1) → p < 9 → (x - frN h) * 9 + p < gLn h := fun x p h1 h2 hp => by unfold gLn; omega
  constructor
  · intro x h1 h2
    obtain ⟨a, b⟩ := hF x h1 h2
    refine ⟨fun hon => ⟨(a hon).1, fun p hp v => ?_⟩, fun p hp v e => ?_⟩
    · unfold cutW
      rw [if_pos (hlt x p h1 h2 (by omega))]
      exact (a hon).2 p hp v
    · unfold cutW at e
      rw [if_pos (hlt x p h1 h2 hp)] at e
      exact b p hp v e
  · intro i v e
    unfold cutW at e
    split at e
    · rename_i hi
      unfold gLn at hi
      have hd : i / 9 < frN (h + 1) - frN h := by omega
      have := (hF (frN h + i / 9) (by omega) (by omega)).2 (i % 9) (by omega) v (by rw [show (frN h + i / 9 - frN h) * 9 + i % 9 = i by omega]; exact e)
      omega
    · cases e
theorem Fin_cnt {nb : Nat → Nat} {n kd h : Nat} {w : Nat → Nat} {wo : Nat → Option Nat} (hn : n ≤ 9) (hF : FinI nb n kd h w wo) : ∀ x, frN h ≤ x → x < frN (h + 1) → dif (sdC x) (2 ^ n - 1) = 0 → cnt (w x) ≤ n := fun x h1 h2 h3 => by
  have hf := (hF x h1 h2).1 h3
  have hwl : w x < 2 ^ n := Nat.lt_pow_two_of_testBit _ (fun p hp => Classical.byContradiction fun z => by
    have := (hf.1 p).mp (by revert z; cases (w x).testBit p <;> simp)
    omega)
  have := cnt_nc (s := w x) (n := n) (u := fun p => if (w x).testBit p = true then some 0 else none) hwl hn (fun p hp => by
    by_cases e : (w x).testBit p = true
    · simp [e]
    · simp [e])
  omega
theorem GM.fA {σ s : Hp} {S : List Nat} {g n kd h : Nat} {nb : Nat → Nat} {wk : Nat → Option Nat} (hm : GM σ g nb n wk kd h) (f : fA S σ s) (hl : g + 13 + gix kd h < σ.1) (hk : g + 13 + gix kd h ∉ S) (hw : ∀ wa, wk (gix kd h) = some wa → wa < σ.1 ∧ wa ∉ S) : GM s g nb n wk kd h := by
  obtain ⟨rd, op, tn, rf, hp, z⟩ := hm
  exact ⟨rd, op, tn, rf, hp, z.fA f hl hk hw⟩
/-- when a game is solved the others stay -/
theorem GS_up {σ s : Hp} {S : List Nat} {g kn n kd h T T2 : Nat} {nb : Nat → Nat} {wk wk2 : Nat → Option Nat} (hS : GS σ g kn nb n wk T) (f : fA S σ s) (hg : g + 21 < σ.1) (hW : WKO wk g kn σ.1) (h1 : 1 ≤ h) (h3 : h ≤ 3)
    (hs1 : g ∉ S) (hs2 : g + 9 ∉ S) (hs3 : ∀ j, j < 9 → j ≠ gix kd h → g + 13 + j ∉ S) (hs4 : ∀ j a, j ≠ gix kd h → wk j = some a → a ∉ S) (hwk : ∀ j, j ≠ gix kd h → wk2 j = wk j) (hr : RKg s g nb T2) (hwh : WHN s g) (hm : GM s g nb n wk2 kd h) : GS s g kn nb n wk2 T2 := by
  obtain ⟨a1, a2, -, -, a5⟩ := hS
  refine ⟨a1.fA f (by omega) hs1, a2.fA f (by omega) hs2, hr, hwh, fun kd2 h2 k3 g1 g3 => ?_⟩
  by_cases e : gix kd2 h2 = gix kd h
  · obtain ⟨rfl, rfl⟩ := gix_inj g1 g3 h1 h3 e
    exact hm
  · have hi := gix_lt k3 g1 g3
    obtain ⟨rd, op, tn, rf, hp, z⟩ := a5 kd2 h2 k3 g1 g3
    exact ⟨rd, op, tn, rf, hp, (z.fA f (by omega) (hs3 _ hi e) (fun wa ew => ⟨(hW.1 _ _ ew).2.2.2, hs4 _ wa e ew⟩)).wk (hwk _ e)⟩
theorem GS.T {σ : Hp} {g kn n T T2 : Nat} {nb : Nat → Nat} {wk : Nat → Option Nat} (h : GS σ g kn nb n wk T) (hT : T ≤ T2) : GS σ g kn nb n wk T2 := by
  obtain ⟨a1, a2, ⟨b1, b2, t, l, b3, b4⟩, a4, a5⟩ := h
  exact ⟨a1, a2, ⟨b1, b2, t, l, b3, by omega⟩, a4, a5⟩
theorem wX2_solved1 {G : Gx} {d : Nat} {σ : Hp} (hd : 6 ≤ d) {g kn n kd h T0 : Nat} {nb : Nat → Nat} {wk : Nat → Option Nat} (hNt : isNetZ n nb) (hw : ∀ p, nb p < 512) (hn0 : 1 ≤ n) (hN : OB σ kn 3 [.int (nI n), .ref (kn + 1)]) (hNA : AI σ (kn + 1) 9 nb) (hS : GS σ g kn nb n wk T0) (hWK : WKO wk g kn σ.1) (hg : g + 21 < σ.1) (hkn : kn + 1 < σ.1) (hap : kn + 1 < g ∨ g + 21 < kn) (hT0 : T0 + 245390 < 2 ^ 31) (hkd : kd < 3) (hh1 : 1 ≤ h) (hh3 : h ≤ 3) {wa : Nat} (hwa : wk (gix kd h) = some wa) : Wp G mX2_solved d 0 [.ref g, .int (nI kd), .int (nI h), .double 0, .double 0] [] σ 0 0 (pR fun r s => r = .ref (g + 13 + gix kd h) ∧ fr [g + 1, g + 7, g + 8, g + 10, g + 11, g + 12, wa, g + 13 + gix kd h] σ s ∧ GS s g kn nb n wk (T0 + 1486 * (frN (h + 1) - frN h)) ∧ ∃ op tn rf hp, GMx s g nb n wk kd h true op tn rf hp) := by
  obtain ⟨d0, hdd⟩ : ∃ e, d = e + 1 := ⟨d - 1, by omega⟩
  have hF : fr [g + 1, g + 7, g + 8, g + 10, g + 11, g + 12, wa, g + 13 + gix kd h] σ σ := fr.rf
  have hn := hNt.1.1
  have hfl := frN_le h hh1 hh3
  have h165 : frN (h + 1) ≤ frN h + 165 := by rcases (show h = 1 ∨ h = 2 ∨ h = 3 by omega) with rfl | rfl | rfl <;> decide
  have hix := gix_lt hkd hh1 hh3
  have hR := rowsL_pos n (by omega) hn0 h (by omega) hh1
  obtain ⟨hG, hTb, ⟨hT, hLR, t, l, hFS, ht⟩, ⟨w, hl, nw, hW, hH, hNw, b1, b2, b3⟩, hgs⟩ := id hS
  obtain ⟨rd, op, tn, rf, hp, hGx⟩ := hgs kd h hkd hh1 hh3
  obtain ⟨hGm, hX, hRd⟩ := id hGx
  rw [hwa] at hGm
  have hak : g + 13 + gix kd h ≠ kn ∧ g + 13 + gix kd h ≠ kn + 1 := ⟨by omega, by omega⟩
  have hGm : OB σ (g + 13 + gix kd h) 1 (gaF kd (frN h) (frN (h + 1)) (bI (rd = true)) (.ref wa) op tn rf hp) := hGm
  have hWx : AX σ wa ((frN (h + 1) - frN h) * 9) := hX wa hwa
  have hw1 := hWK.1 _ _ hwa
  have hwa2 : (wa < g ∨ g + 12 < wa) ∧ wa ≠ g + 13 + gix kd h ∧ wa ≠ kn ∧ wa ≠ kn + 1 := ⟨by omega, by omega, by omega, by omega⟩
  refine wp_iload_n (atd dX2_solved 0 rfl) rfl ?_
  refine wp_ifN_lt (tgt := 23) (atd dX2_solved 1 rfl) (by decide) (by omega) ?_
  refine wp_iload_n (atd dX2_solved 2 rfl) rfl ?_
  refine wp_iconst (v := nI 3) (atd dX2_solved 3 rfl) (by decide) ?_
  refine wp_icmpN_ge (tgt := 23) (atd dX2_solved 4 rfl) (by decide) (by omega) (by omega) (fun c_6 => ?_) (fun c_6 => ?_)
  · exfalso; omega
  ·
    refine wp_iload_n (atd dX2_solved 5 rfl) rfl ?_
    refine wp_iconst (v := nI 1) (atd dX2_solved 6 rfl) (by decide) ?_
    refine wp_icmpN_lt (tgt := 23) (atd dX2_solved 7 rfl) (by decide) (by omega) (by omega) (fun c_11 => ?_) (fun c_11 => ?_)
    · exfalso; omega
    ·
      refine wp_iload_n (atd dX2_solved 8 rfl) rfl ?_
      refine wp_iconst (v := nI 3) (atd dX2_solved 9 rfl) (by decide) ?_
      refine wp_icmpN_gt (tgt := 23) (atd dX2_solved 10 rfl) (by decide) (by omega) (by omega) (fun c_16 => ?_) (fun c_16 => ?_)
      · exfalso; omega
      ·
        refine wp_iconst (v := nI 1) (atd dX2_solved 11 rfl) (by decide) ?_
        refine wp_goto (tgt := 24) (atd dX2_solved 12 rfl) (by decide) ?_
        refine wp_istore_n (atd dX2_solved 14 rfl) (Nat.le_of_ble_eq_true rfl) ?_
        refine wp_iload_n (atd dX2_solved 15 rfl) rfl ?_
        refine wp_ifN_eq (tgt := 39) (atd dX2_solved 16 rfl) (by decide) (by omega) (fun c_26 => ?_) (fun c_26 => ?_)
        · exact absurd c_26 (by decide)
        ·
          refine wp_aload_n (atd dX2_solved 17 rfl) rfl rfl ?_
          refine wp_get fX2_34 (atd dX2_solved 18 rfl) hG rfl ?_
          refine wp_get fX2_52 (atd dX2_solved 19 rfl) hN rfl ?_
          refine wp_ifN_ne (tgt := 41) (atd dX2_solved 20 rfl) (by decide) (by omega) (fun c_36 => ?_) (fun c_36 => ?_)
          ·
            refine wp_aload_n (atd dX2_solved 23 rfl) rfl rfl ?_
            refine wp_get fX2_20 (atd dX2_solved 24 rfl) hG rfl ?_
            refine wp_iload_n (atd dX2_solved 25 rfl) rfl ?_
            refine wp_iconst (v := nI 3) (atd dX2_solved 26 rfl) (by decide) ?_
            refine wp_imulN (atd dX2_solved 27 rfl) ?_
            refine wp_iload_n (atd dX2_solved 28 rfl) rfl ?_
            refine wp_iaddN (atd dX2_solved 29 rfl) ?_
            refine wp_iconst (v := nI 1) (atd dX2_solved 30 rfl) (by decide) ?_
            refine wp_isubN (atd dX2_solved 31 rfl) (by omega) ?_
            refine wp_aaldR (atd dX2_solved 32 rfl) hTb (by decide) rfl (by omega) (Nat.le_of_ble_eq_true rfl) ?_
            show Wp G mX2_solved d 53 _ (.ref (g + 13 + gix kd h) :: _) _ _ _ _
            refine wp_astore (atd dX2_solved 33 rfl) (Nat.le_of_ble_eq_true rfl) rfl ?_
            refine wp_aload (atd dX2_solved 34 rfl) rfl rfl ?_
            refine wp_get fX2_48 (atd dX2_solved 35 rfl) hGm rfl ?_
            refine wp_ifB_ne (tgt := 81) (atd dX2_solved 36 rfl) (by decide) (fun c_60 => ?_) (fun c_60 => ?_)
            ·
              refine wp_aload (atd dX2_solved 46 rfl) rfl rfl ?_
              refine wp_aretr (atd dX2_solved 47 rfl) rfl (Or.inr ⟨_, rfl⟩) ?_
              subst c_60
              exact ⟨rfl, fr.rf, hS.T (by omega), op, tn, rf, hp, hGx⟩
            ·
              refine wp_aload_n (atd dX2_solved 37 rfl) rfl rfl ?_
              refine wp_aload (atd dX2_solved 38 rfl) rfl rfl ?_
              refine wp_cVv hdd [_] (atd dX2_solved 39 rfl) iX2_solve lX2_58 rfl rfl (Nat.le_of_ble_eq_true rfl) hG rfl (eX2_solve1 (I := SolI nb n kd h) (Fin := FinI nb n kd h) (wa := wa) (by omega) hn hw (by omega) (by omega) (by omega) hwa2 hak b1 b2 b3 hkd (by omega) (by omega) (by omega) (SolI_step hNt hh1 hh3) (SolI_end hNt hh1 hh3) (SolI_cap hNt hh1 hh3) (SolI_gd hNt hh1 hh3) (SolI_0 hNt) hG hN hNA hT hLR hFS hW hH hNw hGm hWx) (fun s_66 h_66 => ?_)
              obtain ⟨f_66, hT, hLR, ⟨T1, l1, hFS, hT1⟩, w1, hl1, nw1, wo, hW, hH, hNw, hWo, b1, b2, b3, hFin, hGm⟩ := h_66
              have hWo : AO s_66 wa (gLn h) (cutW (gLn h) wo) := hWo.cut
              obtain ⟨hFin, hwb⟩ := Fin_cut hn hFin
              have hcn := Fin_cnt hn hFin
              have hG := hG.fr f_66 (by first | decide | (simp only [List.mem_cons, List.not_mem_nil, or_false]; omega))
              have hN := hN.fr f_66 (by first | decide | (simp only [List.mem_cons, List.not_mem_nil, or_false]; omega))
              have hNA := hNA.fr f_66 (by first | decide | (simp only [List.mem_cons, List.not_mem_nil, or_false]; omega))
              have hTb := hTb.fr f_66 (by first | decide | (simp only [List.mem_cons, List.not_mem_nil, or_false]; omega))
              have hF := hF.tr f_66 (by simp)
              refine wp_aload_n (atd dX2_solved 40 rfl) rfl rfl ?_
              refine wp_aload (atd dX2_solved 41 rfl) rfl rfl ?_
              refine wp_cVv hdd [_] (atd dX2_solved 42 rfl) iX2_findOpening lX2_62 rfl rfl (Nat.le_of_ble_eq_true rfl) hG rfl (eX2_findOpening (by omega) hn hw (by omega) b1 hcn hwb (by omega) (by omega) hwa2 hak (by omega) hG hN hNA hGm hT hLR hFS hW hWo) (fun s_72 h_72 => ?_)
              obtain ⟨f_72, hGm⟩ := h_72
              rw [foF_eq hNt hh1 hh3 hn0 hFin] at hGm
              have hGm : OB s_72 (g + 13 + gix kd h) 1 (gaF kd (frN h) (frN (h + 1)) _ (.ref wa) (nI (xi h n (stF nb n h kd))) (oI (wkO (rkO (tmF nb n h kd)))) (nI (nc (slvF nb n h kd) n (rowsL h n).length)) (-2)) := hGm
              rw [wk_rk (v := tmF nb n h kd) (gtF_lt hNt hh1 hh3 hFin (srF_lt hR))] at hGm
              have hG := hG.fr f_72 (by first | decide | (simp only [List.mem_cons, List.not_mem_nil, or_false]; omega))
              have hN := hN.fr f_72 (by first | decide | (simp only [List.mem_cons, List.not_mem_nil, or_false]; omega))
              have hNA := hNA.fr f_72 (by first | decide | (simp only [List.mem_cons, List.not_mem_nil, or_false]; omega))
              have hTb := hTb.fr f_72 (by first | decide | (simp only [List.mem_cons, List.not_mem_nil, or_false]; omega))
              have hT := hT.fr f_72 ⟨by simp only [List.mem_cons, List.not_mem_nil, or_false]; omega, by simp only [List.mem_cons, List.not_mem_nil, or_false]; omega, by simp only [List.mem_cons, List.not_mem_nil, or_false]; omega⟩
              have hLR := hLR.fr f_72 ⟨by simp only [List.mem_cons, List.not_mem_nil, or_false]; omega, by simp only [List.mem_cons, List.not_mem_nil, or_false]; omega⟩
              have hFS := hFS.fr f_72 ⟨by simp only [List.mem_cons, List.not_mem_nil, or_false]; omega, by simp only [List.mem_cons, List.not_mem_nil, or_false]; omega, by simp only [List.mem_cons, List.not_mem_nil, or_false]; omega⟩
              have hW := hW.fr f_72 (by first | decide | (simp only [List.mem_cons, List.not_mem_nil, or_false]; omega))
              have hH := hH.fr f_72 (by first | decide | (simp only [List.mem_cons, List.not_mem_nil, or_false]; omega))
              have hNw := hNw.fr f_72 (by first | decide | (simp only [List.mem_cons, List.not_mem_nil, or_false]; omega))
              have hWo := hWo.fr f_72 (by first | decide | (simp only [List.mem_cons, List.not_mem_nil, or_false]; omega))
              have hF := hF.tr f_72 (by simp)
              refine wp_aload (atd dX2_solved 43 rfl) rfl rfl ?_
              refine wp_iconst (v := nI 1) (atd dX2_solved 44 rfl) (by decide) ?_
              refine wp_putX fX2_48 (atd dX2_solved 45 rfl) hGm (by decide) (Nat.le_of_ble_eq_true rfl) (fun σ f_78 hGm => ?_)
              have hG := hG.fr f_78 (by first | decide | (simp only [List.mem_cons, List.not_mem_nil, or_false]; omega))
              have hN := hN.fr f_78 (by first | decide | (simp only [List.mem_cons, List.not_mem_nil, or_false]; omega))
              have hNA := hNA.fr f_78 (by first | decide | (simp only [List.mem_cons, List.not_mem_nil, or_false]; omega))
              have hTb := hTb.fr f_78 (by first | decide | (simp only [List.mem_cons, List.not_mem_nil, or_false]; omega))
              have hT := hT.fr f_78 ⟨by simp only [List.mem_cons, List.not_mem_nil, or_false]; omega, by simp only [List.mem_cons, List.not_mem_nil, or_false]; omega, by simp only [List.mem_cons, List.not_mem_nil, or_false]; omega⟩
              have hLR := hLR.fr f_78 ⟨by simp only [List.mem_cons, List.not_mem_nil, or_false]; omega, by simp only [List.mem_cons, List.not_mem_nil, or_false]; omega⟩
              have hFS := hFS.fr f_78 ⟨by simp only [List.mem_cons, List.not_mem_nil, or_false]; omega, by simp only [List.mem_cons, List.not_mem_nil, or_false]; omega, by simp only [List.mem_cons, List.not_mem_nil, or_false]; omega⟩
              have hW := hW.fr f_78 (by first | decide | (simp only [List.mem_cons, List.not_mem_nil, or_false]; omega))
              have hH := hH.fr f_78 (by first | decide | (simp only [List.mem_cons, List.not_mem_nil, or_false]; omega))
              have hNw := hNw.fr f_78 (by first | decide | (simp only [List.mem_cons, List.not_mem_nil, or_false]; omega))
              have hWo := hWo.fr f_78 (by first | decide | (simp only [List.mem_cons, List.not_mem_nil, or_false]; omega))
              have hF := hF.tr f_78 (by simp)
              refine wp_aload (atd dX2_solved 46 rfl) rfl rfl ?_
              refine wp_aretr (atd dX2_solved 47 rfl) rfl (Or.inr ⟨_, rfl⟩) ?_
              have hGX : GMx σ g nb n wk kd h true _ _ _ _ := ⟨by rw [hwa]; exact hGm, fun wa2 e => (by rw [hwa] at e; cases e; obtain ⟨f, hf, -⟩ := hWo; exact ⟨f, hf⟩), fun _ => ⟨wa, _, hwa, hWo, ⟨⟨w1, hFin⟩, hwb, rfl, rfl, rfl⟩, Or.inl rfl⟩⟩
              refine ⟨rfl, hF, GS_up hS hF.A hg hWK hh1 hh3 (by simp only [List.mem_cons, List.not_mem_nil, or_false]; omega) (by simp only [List.mem_cons, List.not_mem_nil, or_false]; omega) (fun j hj hj2 => by simp only [List.mem_cons, List.not_mem_nil, or_false]; omega) (fun j a hj e => ?_) (fun _ _ => rfl) ⟨hT, hLR, T1, l1, hFS, by omega⟩ ⟨w1, hl1, nw1, hW, hH, hNw, b1, b2, b3⟩ ⟨true, _, _, _, _, hGX⟩, _, _, _, _, hGX⟩
              have := hWK.1 j a e
              have h2 : a ≠ wa := fun q => hj (hWK.2 j _ a e (by rw [q]; exact hwa))
              simp only [List.mem_cons, List.not_mem_nil, or_false]
              omega
          · exfalso; omega
theorem wX2_solved0 {G : Gx} {d : Nat} {σ : Hp} (hd : 6 ≤ d) {g kn n kd h T0 : Nat} {nb : Nat → Nat} {wk : Nat → Option Nat} (hNt : isNetZ n nb) (hw : ∀ p, nb p < 512) (hn0 : 1 ≤ n) (hN : OB σ kn 3 [.int (nI n), .ref (kn + 1)]) (hNA : AI σ (kn + 1) 9 nb) (hS : GS σ g kn nb n wk T0) (hWK : WKO wk g kn σ.1) (hg : g + 21 < σ.1) (hkn : kn + 1 < σ.1) (hap : kn + 1 < g ∨ g + 21 < kn) (hT0 : T0 + 245390 < 2 ^ 31) (hkd : kd < 3) (hh1 : 1 ≤ h) (hh3 : h ≤ 3) (hwa : wk (gix kd h) = none) : Wp G mX2_solved d 0 [.ref g, .int (nI kd), .int (nI h), .double 0, .double 0] [] σ 1 ((frN (h + 1) - frN h) * 9) (pR fun r s => r = .ref (g + 13 + gix kd h) ∧ fA [g + 1, g + 7, g + 8, g + 10, g + 11, g + 12, g + 13 + gix kd h] σ s ∧ s.1 = σ.1 + 1 ∧ GS s g kn nb n (va_up wk (gix kd h) (some σ.1)) (T0 + 1486 * (frN (h + 1) - frN h)) ∧ ∃ op tn rf hp, GMx s g nb n (va_up wk (gix kd h) (some σ.1)) kd h true op tn rf hp) := by
  obtain ⟨d0, hdd⟩ : ∃ e, d = e + 1 := ⟨d - 1, by omega⟩
  have hF : fr [g + 1, g + 7, g + 8, g + 10, g + 11, g + 12, g + 13 + gix kd h] σ σ := fr.rf
  have hn := hNt.1.1
  have hfl := frN_le h hh1 hh3
  have h165 : frN (h + 1) ≤ frN h + 165 := by rcases (show h = 1 ∨ h = 2 ∨ h = 3 by omega) with rfl | rfl | rfl <;> decide
  have hix := gix_lt hkd hh1 hh3
  have hR := rowsL_pos n (by omega) hn0 h (by omega) hh1
  obtain ⟨hG, hTb, ⟨hT, hLR, t, l, hFS, ht⟩, ⟨w, hl, nw, hW, hH, hNw, b1, b2, b3⟩, hgs⟩ := id hS
  obtain ⟨rd, op, tn, rf, hp, hGx⟩ := hgs kd h hkd hh1 hh3
  obtain ⟨hGm, hX, hRd⟩ := id hGx
  rw [hwa] at hGm
  have hak : g + 13 + gix kd h ≠ kn ∧ g + 13 + gix kd h ≠ kn + 1 := ⟨by omega, by omega⟩
  have hGm : OB σ (g + 13 + gix kd h) 1 (gaF kd (frN h) (frN (h + 1)) (bI (rd = true)) .null op tn rf hp) := hGm
  obtain ⟨L0, hL0⟩ : ∃ L, L = σ.1 := ⟨_, rfl⟩
  rw [← hL0]
  refine wp_iload_n (atd dX2_solved 0 rfl) rfl ?_
  refine wp_ifN_lt (tgt := 23) (atd dX2_solved 1 rfl) (by decide) (by omega) ?_
  refine wp_iload_n (atd dX2_solved 2 rfl) rfl ?_
  refine wp_iconst (v := nI 3) (atd dX2_solved 3 rfl) (by decide) ?_
  refine wp_icmpN_ge (tgt := 23) (atd dX2_solved 4 rfl) (by decide) (by omega) (by omega) (fun c_6 => ?_) (fun c_6 => ?_)
  · exfalso; omega
  ·
    refine wp_iload_n (atd dX2_solved 5 rfl) rfl ?_
    refine wp_iconst (v := nI 1) (atd dX2_solved 6 rfl) (by decide) ?_
    refine wp_icmpN_lt (tgt := 23) (atd dX2_solved 7 rfl) (by decide) (by omega) (by omega) (fun c_11 => ?_) (fun c_11 => ?_)
    · exfalso; omega
    ·
      refine wp_iload_n (atd dX2_solved 8 rfl) rfl ?_
      refine wp_iconst (v := nI 3) (atd dX2_solved 9 rfl) (by decide) ?_
      refine wp_icmpN_gt (tgt := 23) (atd dX2_solved 10 rfl) (by decide) (by omega) (by omega) (fun c_16 => ?_) (fun c_16 => ?_)
      · exfalso; omega
      ·
        refine wp_iconst (v := nI 1) (atd dX2_solved 11 rfl) (by decide) ?_
        refine wp_goto (tgt := 24) (atd dX2_solved 12 rfl) (by decide) ?_
        refine wp_istore_n (atd dX2_solved 14 rfl) (Nat.le_of_ble_eq_true rfl) ?_
        refine wp_iload_n (atd dX2_solved 15 rfl) rfl ?_
        refine wp_ifN_eq (tgt := 39) (atd dX2_solved 16 rfl) (by decide) (by omega) (fun c_26 => ?_) (fun c_26 => ?_)
        · exact absurd c_26 (by decide)
        ·
          refine wp_aload_n (atd dX2_solved 17 rfl) rfl rfl ?_
          refine wp_get fX2_34 (atd dX2_solved 18 rfl) hG rfl ?_
          refine wp_get fX2_52 (atd dX2_solved 19 rfl) hN rfl ?_
          refine wp_ifN_ne (tgt := 41) (atd dX2_solved 20 rfl) (by decide) (by omega) (fun c_36 => ?_) (fun c_36 => ?_)
          ·
            refine wp_aload_n (atd dX2_solved 23 rfl) rfl rfl ?_
            refine wp_get fX2_20 (atd dX2_solved 24 rfl) hG rfl ?_
            refine wp_iload_n (atd dX2_solved 25 rfl) rfl ?_
            refine wp_iconst (v := nI 3) (atd dX2_solved 26 rfl) (by decide) ?_
            refine wp_imulN (atd dX2_solved 27 rfl) ?_
            refine wp_iload_n (atd dX2_solved 28 rfl) rfl ?_
            refine wp_iaddN (atd dX2_solved 29 rfl) ?_
            refine wp_iconst (v := nI 1) (atd dX2_solved 30 rfl) (by decide) ?_
            refine wp_isubN (atd dX2_solved 31 rfl) (by omega) ?_
            refine wp_aaldR (atd dX2_solved 32 rfl) hTb (by decide) rfl (by omega) (Nat.le_of_ble_eq_true rfl) ?_
            show Wp G mX2_solved d 53 _ (.ref (g + 13 + gix kd h) :: _) _ _ _ _
            refine wp_astore (atd dX2_solved 33 rfl) (Nat.le_of_ble_eq_true rfl) rfl ?_
            refine wp_aload (atd dX2_solved 34 rfl) rfl rfl ?_
            refine wp_get fX2_48 (atd dX2_solved 35 rfl) hGm rfl ?_
            refine wp_ifB_ne (tgt := 81) (atd dX2_solved 36 rfl) (by decide) (fun c_60 => ?_) (fun c_60 => ?_)
            · obtain ⟨z, -, e, -⟩ := hRd c_60; rw [hwa] at e; cases e
            ·
              refine wp_aload_n (atd dX2_solved 37 rfl) rfl rfl ?_
              refine wp_aload (atd dX2_solved 38 rfl) rfl rfl ?_
              refine wp_cVvA hdd [_] (atd dX2_solved 39 rfl) iX2_solve lX2_58 rfl rfl (Nat.le_of_ble_eq_true rfl) hG rfl (eX2_solve0 (I := SolI nb n kd h) (Fin := FinI nb n kd h) (by omega) hn hw (by omega) (by omega) (by omega) hak b1 b2 b3 hkd (by omega) (by omega) (by omega) (SolI_step hNt hh1 hh3) (SolI_end hNt hh1 hh3) (SolI_cap hNt hh1 hh3) (SolI_gd hNt hh1 hh3) (SolI_0 hNt) hG hN hNA hT hLR hFS hW hH hNw hGm (by omega) (by omega) (by omega)) (show 1 = 1 + 0 from rfl) (Nat.add_zero _).symm (fun s_66 h_66 => ?_)
              obtain ⟨f_66, hs1, hT, hLR, ⟨T1, l1, hFS, hT1⟩, w1, hl1, nw1, wo, hW, hH, hNw, hWo, b1, b2, b3, hFin, hGm⟩ := h_66
              rw [← hL0] at hWo hGm hs1
              have hG := hG.fA f_66 (by omega) (by simp only [List.mem_cons, List.not_mem_nil, or_false]; omega)
              have hN := hN.fA f_66 (by omega) (by simp only [List.mem_cons, List.not_mem_nil, or_false]; omega)
              have hNA := hNA.fA f_66 (by omega) (by simp only [List.mem_cons, List.not_mem_nil, or_false]; omega)
              have hTb := hTb.fA f_66 (by omega) (by simp only [List.mem_cons, List.not_mem_nil, or_false]; omega)
              have hWo : AO s_66 L0 (gLn h) (cutW (gLn h) wo) := hWo.cut
              obtain ⟨hFin, hwb⟩ := Fin_cut hn hFin
              have hcn := Fin_cnt hn hFin
              have hF : fr [g + 13 + gix kd h] s_66 s_66 := fr.rf
              have hwa2 : (L0 < g ∨ g + 12 < L0) ∧ L0 ≠ g + 13 + gix kd h ∧ L0 ≠ kn ∧ L0 ≠ kn + 1 := ⟨by omega, by omega, by omega, by omega⟩
              refine wp_aload_n (atd dX2_solved 40 rfl) rfl rfl ?_
              refine wp_aload (atd dX2_solved 41 rfl) rfl rfl ?_
              refine wp_cVv hdd [_] (atd dX2_solved 42 rfl) iX2_findOpening lX2_62 rfl rfl (Nat.le_of_ble_eq_true rfl) hG rfl (eX2_findOpening (by omega) hn hw (by omega) b1 hcn hwb (by omega) (by omega) hwa2 hak (by omega) hG hN hNA hGm hT hLR hFS hW hWo) (fun s_72 h_72 => ?_)
              obtain ⟨f_72, hGm⟩ := h_72
              rw [foF_eq hNt hh1 hh3 hn0 hFin] at hGm
              have hGm : OB s_72 (g + 13 + gix kd h) 1 (gaF kd (frN h) (frN (h + 1)) _ (.ref L0) (nI (xi h n (stF nb n h kd))) (oI (wkO (rkO (tmF nb n h kd)))) (nI (nc (slvF nb n h kd) n (rowsL h n).length)) (-2)) := hGm
              rw [wk_rk (v := tmF nb n h kd) (gtF_lt hNt hh1 hh3 hFin (srF_lt hR))] at hGm
              have hG := hG.fr f_72 (by first | decide | (simp only [List.mem_cons, List.not_mem_nil, or_false]; omega))
              have hN := hN.fr f_72 (by first | decide | (simp only [List.mem_cons, List.not_mem_nil, or_false]; omega))
              have hNA := hNA.fr f_72 (by first | decide | (simp only [List.mem_cons, List.not_mem_nil, or_false]; omega))
              have hTb := hTb.fr f_72 (by first | decide | (simp only [List.mem_cons, List.not_mem_nil, or_false]; omega))
              have hT := hT.fr f_72 ⟨by simp only [List.mem_cons, List.not_mem_nil, or_false]; omega, by simp only [List.mem_cons, List.not_mem_nil, or_false]; omega, by simp only [List.mem_cons, List.not_mem_nil, or_false]; omega⟩
              have hLR := hLR.fr f_72 ⟨by simp only [List.mem_cons, List.not_mem_nil, or_false]; omega, by simp only [List.mem_cons, List.not_mem_nil, or_false]; omega⟩
              have hFS := hFS.fr f_72 ⟨by simp only [List.mem_cons, List.not_mem_nil, or_false]; omega, by simp only [List.mem_cons, List.not_mem_nil, or_false]; omega, by simp only [List.mem_cons, List.not_mem_nil, or_false]; omega⟩
              have hW := hW.fr f_72 (by first | decide | (simp only [List.mem_cons, List.not_mem_nil, or_false]; omega))
              have hH := hH.fr f_72 (by first | decide | (simp only [List.mem_cons, List.not_mem_nil, or_false]; omega))
              have hNw := hNw.fr f_72 (by first | decide | (simp only [List.mem_cons, List.not_mem_nil, or_false]; omega))
              have hWo := hWo.fr f_72 (by first | decide | (simp only [List.mem_cons, List.not_mem_nil, or_false]; omega))
              have hF := hF.tr f_72 (by simp)
              refine wp_aload (atd dX2_solved 43 rfl) rfl rfl ?_
              refine wp_iconst (v := nI 1) (atd dX2_solved 44 rfl) (by decide) ?_
              refine wp_putX fX2_48 (atd dX2_solved 45 rfl) hGm (by decide) (Nat.le_of_ble_eq_true rfl) (fun σ f_78 hGm => ?_)
              have hG := hG.fr f_78 (by first | decide | (simp only [List.mem_cons, List.not_mem_nil, or_false]; omega))
              have hN := hN.fr f_78 (by first | decide | (simp only [List.mem_cons, List.not_mem_nil, or_false]; omega))
              have hNA := hNA.fr f_78 (by first | decide | (simp only [List.mem_cons, List.not_mem_nil, or_false]; omega))
              have hTb := hTb.fr f_78 (by first | decide | (simp only [List.mem_cons, List.not_mem_nil, or_false]; omega))
              have hT := hT.fr f_78 ⟨by simp only [List.mem_cons, List.not_mem_nil, or_false]; omega, by simp only [List.mem_cons, List.not_mem_nil, or_false]; omega, by simp only [List.mem_cons, List.not_mem_nil, or_false]; omega⟩
              have hLR := hLR.fr f_78 ⟨by simp only [List.mem_cons, List.not_mem_nil, or_false]; omega, by simp only [List.mem_cons, List.not_mem_nil, or_false]; omega⟩
              have hFS := hFS.fr f_78 ⟨by simp only [List.mem_cons, List.not_mem_nil, or_false]; omega, by simp only [List.mem_cons, List.not_mem_nil, or_false]; omega, by simp only [List.mem_cons, List.not_mem_nil, or_false]; omega⟩
              have hW := hW.fr f_78 (by first | decide | (simp only [List.mem_cons, List.not_mem_nil, or_false]; omega))
              have hH := hH.fr f_78 (by first | decide | (simp only [List.mem_cons, List.not_mem_nil, or_false]; omega))
              have hNw := hNw.fr f_78 (by first | decide | (simp only [List.mem_cons, List.not_mem_nil, or_false]; omega))
              have hWo := hWo.fr f_78 (by first | decide | (simp only [List.mem_cons, List.not_mem_nil, or_false]; omega))
              have hF := hF.tr f_78 (by simp)
              refine wp_aload (atd dX2_solved 46 rfl) rfl rfl ?_
              refine wp_aretr (atd dX2_solved 47 rfl) rfl (Or.inr ⟨_, rfl⟩) ?_
              have hwn : va_up wk (gix kd h) (some L0) (gix kd h) = some L0 := by simp [va_up]
              have hGX : GMx σ g nb n (va_up wk (gix kd h) (some L0)) kd h true _ _ _ _ := ⟨by rw [hwn]; exact hGm, fun wa2 e => (by rw [hwn] at e; cases e; obtain ⟨f, hf, -⟩ := hWo; exact ⟨f, hf⟩), fun _ => ⟨L0, _, hwn, hWo, ⟨⟨w1, hFin⟩, hwb, rfl, rfl, rfl⟩, Or.inl rfl⟩⟩
              have hA := f_66.tr hF.A (by simp)
              refine ⟨rfl, hA, by rw [hF.1, hs1], GS_up hS hA hg hWK hh1 hh3 (by simp only [List.mem_cons, List.not_mem_nil, or_false]; omega) (by simp only [List.mem_cons, List.not_mem_nil, or_false]; omega) (fun j hj hj2 => by simp only [List.mem_cons, List.not_mem_nil, or_false]; omega) (fun j a hj e => ?_) (fun j hj => va_up_ne wk _ hj) ⟨hT, hLR, T1, l1, hFS, by omega⟩ ⟨w1, hl1, nw1, hW, hH, hNw, b1, b2, b3⟩ ⟨true, _, _, _, _, hGX⟩, _, _, _, _, hGX⟩
              have := hWK.1 j a e
              simp only [List.mem_cons, List.not_mem_nil, or_false]
              omega
          · exfalso; omega
