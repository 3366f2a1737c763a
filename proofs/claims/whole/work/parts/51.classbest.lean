/-- the best row behind one: least worth, then first -/
def isB (nb : Nat → Nat) (n kd f : Nat) (wo : Nat → Option Nat) (x p y : Nat) : Prop := (y = x ∨ STP nb kd x y) ∧ ∀ z, (z = x ∨ STP nb kd x z) → rrF nb n kd f wo y p < rrF nb n kd f wo z p ∨ (rrF nb n kd f wo y p = rrF nb n kd f wo z p ∧ y ≤ z)
theorem isB_u {nb : Nat → Nat} {n kd f : Nat} {wo : Nat → Option Nat} {x p y y2 : Nat} (h : isB nb n kd f wo x p y) (h2 : isB nb n kd f wo x p y2) : y = y2 := by
  have a := h.2 y2 h2.1
  have b := h2.2 y h.1
  omega
noncomputable def bsC (nb : Nat → Nat) (n kd f : Nat) (wo : Nat → Option Nat) (x p : Nat) : Nat := @dite _ (∃ y, isB nb n kd f wo x p y) (Classical.propDecidable _) Classical.choose (fun _ => 0)
theorem bsC_eq {nb : Nat → Nat} {n kd f : Nat} {wo : Nat → Option Nat} {x p y : Nat} (h : isB nb n kd f wo x p y) : bsC nb n kd f wo x p = y := by
  unfold bsC
  rw [_root_.dif_pos ⟨y, h⟩]
  exact isB_u (Classical.choose_spec (⟨y, h⟩ : ∃ y, isB nb n kd f wo x p y)) h
theorem lX2_bestRow {G : Gx} {d : Nat} {σ : Hp} (hd : 4 ≤ d) {g kn n a kd f f2 wa t : Nat} {nb : Nat → Nat} {wo : Nat → Option Nat} {rd op tn rf hp : Int32} {l : List Nat} (hn : n ≤ 9) (hw : ∀ p, nb p < 512) (hkd : kd < 3) (hf2 : f2 ≤ 219) (hf3 : f2 ≤ f + 165) (hwb : ∀ i v, wo i = some v → v < 1000000) (hap : kn + 1 < g ∨ g + 12 < kn) (haa : a < g ∨ g + 12 < a) (hwa : (wa < g ∨ g + 12 < wa) ∧ wa ≠ a ∧ wa ≠ kn ∧ wa ≠ kn + 1) (hG : OB σ g 2 (ggF g kn)) (hN : OB σ kn 3 [.int (nI n), .ref (kn + 1)]) (hNA : AI σ (kn + 1) 9 nb) (hGm : OB σ a 1 (gaF kd f f2 rd (.ref wa) op tn rf hp)) (hWo : AO σ wa ((f2 - f) * 9) wo) (hT : RT σ (g + 1)) (hLR : LR σ (g + 1) nb) (hFS : FS σ (g + 1) t l) {x p : Nat} (hp : p < 9) (h1 : f ≤ x) (h2 : x < f2) (hR : rgL l f f2) (hlen : l.length ≤ 165) : ∀ (k : Nat) (i b : Nat) (y7 y8 : Value), i + k = l.length → (b = x ∨ b ∈ l) → (f ≤ b ∧ b < f2) → (∀ z, (z = x ∨ ∃ j, j < i ∧ l.getD j 0 = z) → rrF nb n kd f wo b p < rrF nb n kd f wo z p ∨ (rrF nb n kd f wo b p = rrF nb n kd f wo z p ∧ b ≤ z)) → Wp G mX2_bestRow d 36 [.ref g, .ref a, .int (nI x), .int (nI p), .int (nI b), .int (nI (rrF nb n kd f wo b p)), .int (nI i), y7, y8] [] σ 0 0 (pI fun r s => (∃ y, r = nI y ∧ (y = x ∨ y ∈ l) ∧ ∀ z, (z = x ∨ z ∈ l) → rrF nb n kd f wo y p < rrF nb n kd f wo z p ∨ (rrF nb n kd f wo y p = rrF nb n kd f wo z p ∧ y ≤ z)) ∧ s = σ) := by
  obtain ⟨d0, hdd⟩ : ∃ e, d = e + 1 := ⟨d - 1, by omega⟩
  intro k
  induction k with
  | zero =>
    intro i b y7 y8 h hb hbr hm
    have hrb := rrF_le (nb := nb) (n := n) (kd := kd) (f := f) hwb b p
    obtain ⟨fo, se, hO, hFo, hSe, h4, h5, h6, h7⟩ := id hFS
    refine wp_iload (atd dX2_bestRow 21 rfl) rfl ?_
    refine wp_aload_n (atd dX2_bestRow 22 rfl) rfl rfl ?_
    refine wp_get fX2_12 (atd dX2_bestRow 23 rfl) hG rfl ?_
    refine wp_get fX2_107 (atd dX2_bestRow 24 rfl) hFS.ob rfl ?_
    refine wp_icmpN_ge (tgt := 105) (atd dX2_bestRow 25 rfl) (by decide) (by omega) (by omega) (fun c_45 => ?_) (fun c_45 => ?_)
    ·
      refine wp_iload (atd dX2_bestRow 53 rfl) rfl ?_
      refine wp_ireti (atd dX2_bestRow 54 rfl) rfl ?_
      exact ⟨⟨b, rfl, hb, fun z hz => hm z (hz.elim Or.inl (fun q => by obtain ⟨j, hj, e⟩ := mem_getD q; exact Or.inr ⟨j, by omega, e⟩))⟩, rfl⟩
    · exfalso; omega
  | succ k ih =>
    intro i b y7 y8 h hb hbr hm
    have hrb := rrF_le (nb := nb) (n := n) (kd := kd) (f := f) hwb b p
    obtain ⟨fo, se, hO, hFo, hSe, h4, h5, h6, h7⟩ := id hFS
    refine wp_iload (atd dX2_bestRow 21 rfl) rfl ?_
    refine wp_aload_n (atd dX2_bestRow 22 rfl) rfl rfl ?_
    refine wp_get fX2_12 (atd dX2_bestRow 23 rfl) hG rfl ?_
    refine wp_get fX2_107 (atd dX2_bestRow 24 rfl) hFS.ob rfl ?_
    refine wp_icmpN_ge (tgt := 105) (atd dX2_bestRow 25 rfl) (by decide) (by omega) (by omega) (fun c_45 => ?_) (fun c_45 => ?_)
    · exfalso; omega
    ·
      refine wp_aload_n (atd dX2_bestRow 26 rfl) rfl rfl ?_
      refine wp_get fX2_12 (atd dX2_bestRow 27 rfl) hG rfl ?_
      refine wp_get fX2_110 (atd dX2_bestRow 28 rfl) hFS.ob rfl ?_
      refine wp_iload (atd dX2_bestRow 29 rfl) rfl ?_
      refine wp_ialdA (atd dX2_bestRow 30 rfl) hFo (by omega) (Nat.le_of_ble_eq_true rfl) ?_
      have hi : i < l.length := c_45
      rw [h4 i hi]
      have hy := hR _ (getD_mem hi)
      have hry := rrF_le (nb := nb) (n := n) (kd := kd) (f := f) hwb (l.getD i 0) p
      refine wp_istore (atd dX2_bestRow 31 rfl) (Nat.le_of_ble_eq_true rfl) ?_
      refine wp_aload_n (atd dX2_bestRow 32 rfl) rfl rfl ?_
      refine wp_aload_n (atd dX2_bestRow 33 rfl) rfl rfl ?_
      refine wp_iload (atd dX2_bestRow 34 rfl) rfl ?_
      refine wp_iload_n (atd dX2_bestRow 35 rfl) rfl ?_
      refine wp_cVi hdd [_, _, _] (atd dX2_bestRow 36 rfl) iX2_runnersRank lX2_161 rfl rfl (Nat.le_of_ble_eq_true rfl) hG rfl (eX2_runnersRank (by omega) hN hNA hn hw hG hGm hWo hf2 hwb hFS.ob hT hkd (by omega) (by omega) (by omega)) (fun r_65 s_65 h_65 => ?_)
      obtain ⟨rfl, e_65⟩ := h_65
      obtain rfl := e_65.symm
      refine wp_istore (atd dX2_bestRow 37 rfl) (Nat.le_of_ble_eq_true rfl) ?_
      refine wp_iload (atd dX2_bestRow 38 rfl) rfl ?_
      refine wp_iload (atd dX2_bestRow 39 rfl) rfl ?_
      refine wp_icmpN_lt (tgt := 91) (atd dX2_bestRow 40 rfl) (by decide) (by omega) (by omega) (fun c_74 => ?_) (fun c_74 => ?_)
      ·
        refine wp_iload (atd dX2_bestRow 47 rfl) rfl ?_
        refine wp_istore (atd dX2_bestRow 48 rfl) (Nat.le_of_ble_eq_true rfl) ?_
        refine wp_iload (atd dX2_bestRow 49 rfl) rfl ?_
        refine wp_istore (atd dX2_bestRow 50 rfl) (Nat.le_of_ble_eq_true rfl) ?_
        refine wp_iincN (c := 1) (atd dX2_bestRow 51 rfl) rfl ?_
        refine wp_goto (tgt := 36) (atd dX2_bestRow 52 rfl) (by decide) ?_
        refine ih (i + 1) (l.getD i 0) _ _ (by omega) (Or.inr (getD_mem hi)) (hR _ (getD_mem hi)) (fun z hz => ?_)
        have hz2 : (z = x ∨ ∃ j, j < i ∧ l.getD j 0 = z) ∨ l.getD i 0 = z := by
          rcases hz with q | ⟨j, q1, q2⟩
          · exact Or.inl (Or.inl q)
          · by_cases e : j = i
            · exact Or.inr (e ▸ q2)
            · exact Or.inl (Or.inr ⟨j, by omega, q2⟩)
        rcases hz2 with q | q
        · have := hm z q
          omega
        · subst q
          omega
      ·
        refine wp_iload (atd dX2_bestRow 41 rfl) rfl ?_
        refine wp_iload (atd dX2_bestRow 42 rfl) rfl ?_
        refine wp_icmpN_ne (tgt := 99) (atd dX2_bestRow 43 rfl) (by decide) (by omega) (by omega) (fun c_81 => ?_) (fun c_81 => ?_)
        ·
          refine wp_iincN (c := 1) (atd dX2_bestRow 51 rfl) rfl ?_
          refine wp_goto (tgt := 36) (atd dX2_bestRow 52 rfl) (by decide) ?_
          refine ih (i + 1) (b) _ _ (by omega) hb hbr (fun z hz => ?_)
          have hz2 : (z = x ∨ ∃ j, j < i ∧ l.getD j 0 = z) ∨ l.getD i 0 = z := by
            rcases hz with q | ⟨j, q1, q2⟩
            · exact Or.inl (Or.inl q)
            · by_cases e : j = i
              · exact Or.inr (e ▸ q2)
              · exact Or.inl (Or.inr ⟨j, by omega, q2⟩)
          rcases hz2 with q | q
          · have := hm z q
            omega
          · subst q
            omega
        ·
          refine wp_iload (atd dX2_bestRow 44 rfl) rfl ?_
          refine wp_iload (atd dX2_bestRow 45 rfl) rfl ?_
          refine wp_icmpN_ge (tgt := 99) (atd dX2_bestRow 46 rfl) (by decide) (by omega) (by omega) (fun c_88 => ?_) (fun c_88 => ?_)
          ·
            refine wp_iincN (c := 1) (atd dX2_bestRow 51 rfl) rfl ?_
            refine wp_goto (tgt := 36) (atd dX2_bestRow 52 rfl) (by decide) ?_
            refine ih (i + 1) (b) _ _ (by omega) hb hbr (fun z hz => ?_)
            have hz2 : (z = x ∨ ∃ j, j < i ∧ l.getD j 0 = z) ∨ l.getD i 0 = z := by
              rcases hz with q | ⟨j, q1, q2⟩
              · exact Or.inl (Or.inl q)
              · by_cases e : j = i
                · exact Or.inr (e ▸ q2)
                · exact Or.inl (Or.inr ⟨j, by omega, q2⟩)
            rcases hz2 with q | q
            · have := hm z q
              omega
            · subst q
              omega
          ·
            refine wp_iload (atd dX2_bestRow 47 rfl) rfl ?_
            refine wp_istore (atd dX2_bestRow 48 rfl) (Nat.le_of_ble_eq_true rfl) ?_
            refine wp_iload (atd dX2_bestRow 49 rfl) rfl ?_
            refine wp_istore (atd dX2_bestRow 50 rfl) (Nat.le_of_ble_eq_true rfl) ?_
            refine wp_iincN (c := 1) (atd dX2_bestRow 51 rfl) rfl ?_
            refine wp_goto (tgt := 36) (atd dX2_bestRow 52 rfl) (by decide) ?_
            refine ih (i + 1) (l.getD i 0) _ _ (by omega) (Or.inr (getD_mem hi)) (hR _ (getD_mem hi)) (fun z hz => ?_)
            have hz2 : (z = x ∨ ∃ j, j < i ∧ l.getD j 0 = z) ∨ l.getD i 0 = z := by
              rcases hz with q | ⟨j, q1, q2⟩
              · exact Or.inl (Or.inl q)
              · by_cases e : j = i
                · exact Or.inr (e ▸ q2)
                · exact Or.inl (Or.inr ⟨j, by omega, q2⟩)
            rcases hz2 with q | q
            · have := hm z q
              omega
            · subst q
              omega
theorem eX2_bestRow {G : Gx} {d : Nat} {σ : Hp} (hd : 5 ≤ d) {g kn n a kd f f2 wa t : Nat} {nb : Nat → Nat} {wo : Nat → Option Nat} {rd op tn rf hp : Int32} {l : List Nat} (hn : n ≤ 9) (hw : ∀ p, nb p < 512) (hkd : kd < 3) (hf2 : f2 ≤ 219) (hf3 : f2 ≤ f + 165) (hwb : ∀ i v, wo i = some v → v < 1000000) (hap : kn + 1 < g ∨ g + 12 < kn) (haa : a < g ∨ g + 12 < a) (hwa : (wa < g ∨ g + 12 < wa) ∧ wa ≠ a ∧ wa ≠ kn ∧ wa ≠ kn + 1) (hG : OB σ g 2 (ggF g kn)) (hN : OB σ kn 3 [.int (nI n), .ref (kn + 1)]) (hNA : AI σ (kn + 1) 9 nb) (hGm : OB σ a 1 (gaF kd f f2 rd (.ref wa) op tn rf hp)) (hWo : AO σ wa ((f2 - f) * 9) wo) (hT : RT σ (g + 1)) (hLR : LR σ (g + 1) nb) (hFS : FS σ (g + 1) t l) {x p : Nat} (hp : p < 9) (h1 : f ≤ x) (h2 : x < f2) (ht : t + 1 < 2 ^ 31) (hgd : gdX nb f f2 x) : Cl G mX2_bestRow d [.ref g, .ref a, .int (nI x), .int (nI p)] σ 0 0 (pI fun r s => r = nI (bsC nb n kd f wo x p) ∧ isB nb n kd f wo x p (bsC nb n kd f wo x p) ∧ fr [g + 1, g + 7, g + 8] σ s ∧ RT s (g + 1) ∧ LR s (g + 1) nb ∧ ∃ l2, FS s (g + 1) (t + 1) l2) := by
  obtain ⟨d0, hdd⟩ : ∃ e, d = e + 1 := ⟨d - 1, by omega⟩
  refine cl_of (by decide) (by simp [Value.category]) (Nat.le_of_ble_eq_true rfl) ?_
  show Wp G mX2_bestRow d 0 [.ref g, .ref a, .int (nI x), .int (nI p), .double 0, .double 0, .double 0, .double 0, .double 0] [] σ 0 0 _
  have hF : fr [g + 1, g + 7, g + 8] σ σ := fr.rf
  refine wp_aload_n (atd dX2_bestRow 0 rfl) rfl rfl ?_
  refine wp_get fX2_12 (atd dX2_bestRow 1 rfl) hG rfl ?_
  refine wp_iload_n (atd dX2_bestRow 2 rfl) rfl ?_
  refine wp_aload_n (atd dX2_bestRow 3 rfl) rfl rfl ?_
  refine wp_get fX2_100 (atd dX2_bestRow 4 rfl) hGm rfl ?_
  refine wp_iconst (v := nI 1) (atd dX2_bestRow 5 rfl) (by decide) ?_
  refine wp_icmpN_ne (tgt := 17) (atd dX2_bestRow 6 rfl) (by decide) (by omega) (by omega) (fun c_10 => ?_) (fun c_10 => ?_)
  ·
    refine wp_iconst (v := nI 0) (atd dX2_bestRow 9 rfl) (by decide) ?_
    refine wp_top (bI_f (p := kd = 1) c_10).symm ?_
    refine wp_cVv hdd [_, _] (atd dX2_bestRow 10 rfl) iX5_stepFrom lX2_103 rfl rfl (Nat.le_of_ble_eq_true rfl) hFS.ob rfl (eX5_stepFrom (by omega) hT hLR hFS (by omega) rfl rfl rfl hgd hf3 hf2 (by omega)) (fun s_18 h_18 => ?_)
    obtain ⟨f_18, hT, hLR, l2, hFS, hR, hml⟩ := h_18
    have hG := hG.fr f_18 (by first | decide | (simp only [List.mem_cons, List.not_mem_nil, or_false]; omega))
    have hN := hN.fr f_18 (by first | decide | (simp only [List.mem_cons, List.not_mem_nil, or_false]; omega))
    have hNA := hNA.fr f_18 (by first | decide | (simp only [List.mem_cons, List.not_mem_nil, or_false]; omega))
    have hGm := hGm.fr f_18 (by first | decide | (simp only [List.mem_cons, List.not_mem_nil, or_false]; omega))
    have hWo := hWo.fr f_18 (by first | decide | (simp only [List.mem_cons, List.not_mem_nil, or_false]; omega))
    have hF := hF.tr f_18 (by simp)
    refine wp_iload_n (atd dX2_bestRow 11 rfl) rfl ?_
    refine wp_istore (atd dX2_bestRow 12 rfl) (Nat.le_of_ble_eq_true rfl) ?_
    refine wp_aload_n (atd dX2_bestRow 13 rfl) rfl rfl ?_
    refine wp_aload_n (atd dX2_bestRow 14 rfl) rfl rfl ?_
    refine wp_iload_n (atd dX2_bestRow 15 rfl) rfl ?_
    refine wp_iload_n (atd dX2_bestRow 16 rfl) rfl ?_
    refine wp_cVi hdd [_, _, _] (atd dX2_bestRow 17 rfl) iX2_runnersRank lX2_161 rfl rfl (Nat.le_of_ble_eq_true rfl) hG rfl (eX2_runnersRank (by omega) hN hNA hn hw hG hGm hWo hf2 hwb hFS.ob hT hkd (by omega) (by omega) (by omega)) (fun r_28 s_28 h_28 => ?_)
    obtain ⟨rfl, e_28⟩ := h_28
    obtain rfl := e_28.symm
    refine wp_istore (atd dX2_bestRow 18 rfl) (Nat.le_of_ble_eq_true rfl) ?_
    refine wp_iconst (v := nI 0) (atd dX2_bestRow 19 rfl) (by decide) ?_
    refine wp_istore (atd dX2_bestRow 20 rfl) (Nat.le_of_ble_eq_true rfl) ?_
    have hlen : l2.length ≤ 165 := by have := nodup_len hFS.nd hR; omega
    refine wp_post (lX2_bestRow (by omega) hn hw hkd hf2 hf3 hwb hap haa hwa hG hN hNA hGm hWo hT hLR hFS hp h1 h2 hR hlen _ 0 x _ _ (Nat.zero_add _) (Or.inl rfl) ⟨h1, h2⟩ (fun z hz => hz.elim (fun e => by subst e; exact Or.inr ⟨rfl, Nat.le_refl _⟩) (fun ⟨j, hj, _⟩ => absurd hj (Nat.not_lt_zero j)))) ?_
    rintro v s ⟨r, rfl, ⟨y, rfl, z1, z2⟩, rfl⟩
    have hB : isB nb n kd f wo x p y := ⟨z1.imp id (fun q => (hml y).mp q), fun z hz => z2 z (hz.imp id (fun q => (hml z).mpr q))⟩
    have he := bsC_eq hB
    exact ⟨_, rfl, by rw [he], by rw [he]; exact hB, hF, hT, hLR, l2, hFS⟩
  ·
    refine wp_iconst (v := nI 1) (atd dX2_bestRow 7 rfl) (by decide) ?_
    refine wp_goto (tgt := 18) (atd dX2_bestRow 8 rfl) (by decide) ?_
    refine wp_top (bI_t (p := kd = 1) c_10).symm ?_
    refine wp_cVv hdd [_, _] (atd dX2_bestRow 10 rfl) iX5_stepFrom lX2_103 rfl rfl (Nat.le_of_ble_eq_true rfl) hFS.ob rfl (eX5_stepFrom (by omega) hT hLR hFS (by omega) rfl rfl rfl hgd hf3 hf2 (by omega)) (fun s_18 h_18 => ?_)
    obtain ⟨f_18, hT, hLR, l2, hFS, hR, hml⟩ := h_18
    have hG := hG.fr f_18 (by first | decide | (simp only [List.mem_cons, List.not_mem_nil, or_false]; omega))
    have hN := hN.fr f_18 (by first | decide | (simp only [List.mem_cons, List.not_mem_nil, or_false]; omega))
    have hNA := hNA.fr f_18 (by first | decide | (simp only [List.mem_cons, List.not_mem_nil, or_false]; omega))
    have hGm := hGm.fr f_18 (by first | decide | (simp only [List.mem_cons, List.not_mem_nil, or_false]; omega))
    have hWo := hWo.fr f_18 (by first | decide | (simp only [List.mem_cons, List.not_mem_nil, or_false]; omega))
    have hF := hF.tr f_18 (by simp)
    refine wp_iload_n (atd dX2_bestRow 11 rfl) rfl ?_
    refine wp_istore (atd dX2_bestRow 12 rfl) (Nat.le_of_ble_eq_true rfl) ?_
    refine wp_aload_n (atd dX2_bestRow 13 rfl) rfl rfl ?_
    refine wp_aload_n (atd dX2_bestRow 14 rfl) rfl rfl ?_
    refine wp_iload_n (atd dX2_bestRow 15 rfl) rfl ?_
    refine wp_iload_n (atd dX2_bestRow 16 rfl) rfl ?_
    refine wp_cVi hdd [_, _, _] (atd dX2_bestRow 17 rfl) iX2_runnersRank lX2_161 rfl rfl (Nat.le_of_ble_eq_true rfl) hG rfl (eX2_runnersRank (by omega) hN hNA hn hw hG hGm hWo hf2 hwb hFS.ob hT hkd (by omega) (by omega) (by omega)) (fun r_28 s_28 h_28 => ?_)
    obtain ⟨rfl, e_28⟩ := h_28
    obtain rfl := e_28.symm
    refine wp_istore (atd dX2_bestRow 18 rfl) (Nat.le_of_ble_eq_true rfl) ?_
    refine wp_iconst (v := nI 0) (atd dX2_bestRow 19 rfl) (by decide) ?_
    refine wp_istore (atd dX2_bestRow 20 rfl) (Nat.le_of_ble_eq_true rfl) ?_
    have hlen : l2.length ≤ 165 := by have := nodup_len hFS.nd hR; omega
    refine wp_post (lX2_bestRow (by omega) hn hw hkd hf2 hf3 hwb hap haa hwa hG hN hNA hGm hWo hT hLR hFS hp h1 h2 hR hlen _ 0 x _ _ (Nat.zero_add _) (Or.inl rfl) ⟨h1, h2⟩ (fun z hz => hz.elim (fun e => by subst e; exact Or.inr ⟨rfl, Nat.le_refl _⟩) (fun ⟨j, hj, _⟩ => absurd hj (Nat.not_lt_zero j)))) ?_
    rintro v s ⟨r, rfl, ⟨y, rfl, z1, z2⟩, rfl⟩
    have hB : isB nb n kd f wo x p y := ⟨z1.imp id (fun q => (hml y).mp q), fun z hz => z2 z (hz.imp id (fun q => (hml z).mpr q))⟩
    have he := bsC_eq hB
    exact ⟨_, rfl, by rw [he], by rw [he]; exact hB, hF, hT, hLR, l2, hFS⟩
noncomputable def toC (nb : Nat → Nat) (n kd f : Nat) (wo : Nat → Option Nat) : Nat → Nat → Nat → Int32 → Nat → Int32
  | 0, _, _, _, _ => -2
  | k + 1, x, p, s, t => if (sdC (bsC nb n kd f wo x p)).testBit p = true then nI t else
      if (sdC (bsC nb n kd f wo x p)).testBit (kth (rch nb kd (sdC (bsC nb n kd f wo x p)) p) 9 0 (drN (nxS s) (cnt (rch nb kd (sdC (bsC nb n kd f wo x p)) p)))) = true then nI t
      else toC nb n kd f wo k (bsC nb n kd f wo x p) (kth (rch nb kd (sdC (bsC nb n kd f wo x p)) p) 9 0 (drN (nxS s) (cnt (rch nb kd (sdC (bsC nb n kd f wo x p)) p)))) (nxS s) (t + 1)
theorem rch_net {n : Nat} {nb : Nat → Nat} (hN : isNetZ n nb) {kd st p : Nat} (hp : p < n) : (rch nb kd st p).testBit p = true ∧ rch nb kd st p < 2 ^ n := by
  have h1 := hN.1.2.2.1 p hp
  have h2 := hN.1.2.1 p hp
  have hn := hN.1.1
  unfold rch
  split
  · refine ⟨by rw [Nat.testBit_or, h1]; rfl, Nat.or_lt_two_pow h2 (lt_of_bits fun j hj => ?_)⟩
    obtain ⟨q, hq, -, z⟩ := nall_bit.mp hj
    by_cases e : q < n
    · exact bit_lt (hN.1.2.1 q e) z
    · rw [hN.2 q (by omega), Nat.zero_testBit] at z; cases z
  · exact ⟨h1, h2⟩
theorem cnt_pos {s p : Nat} (hs : s < 512) (h : s.testBit p = true) : 0 < cnt s := (cnt_pos_le s hs).1 (fun e => by rw [e, Nat.zero_testBit] at h; cases h)
theorem kth_n {n s k : Nat} (hs : s < 2 ^ n) (hk : k < cnt s) : kth s 9 0 k < n := bit_lt hs (kth_bit s 9 0 k hk).1
theorem lX2_tryOut {G : Gx} {d : Nat} (hd : 6 ≤ d) {σ0 : Hp} {g kn n a kd f f2 wa h : Nat} {nb : Nat → Nat} {wo : Nat → Option Nat} {rd op tn rf hp : Int32} (hNt : isNetZ n nb) (hw : ∀ p, nb p < 512) (hkd : kd < 3) (hh1 : 1 ≤ h) (hh3 : h ≤ 3) (ef : f = frN h) (ef2 : f2 = frN (h + 1)) (hwb : ∀ i v, wo i = some v → v < 1000000) (hap : kn + 1 < g ∨ g + 12 < kn) (haa : a < g ∨ g + 12 < a) (hwa : (wa < g ∨ g + 12 < wa) ∧ wa ≠ a ∧ wa ≠ kn ∧ wa ≠ kn + 1) {T0 : Nat} (hT0 : T0 + 200 < 2 ^ 31) {v : Int32} {y2 : Value} : ∀ (k : Nat) (c x p : Nat) (s0 : Int32) (σ : Hp) (t : Nat) (l : List Nat), c + k = 100 → f ≤ x → x < f2 → ON n x → p < n → OB σ g 2 (ggF g kn) → OB σ kn 3 [.int (nI n), .ref (kn + 1)] → AI σ (kn + 1) 9 nb → OB σ a 1 (gaF kd f f2 rd (.ref wa) op tn rf hp) → AO σ wa ((f2 - f) * 9) wo → RT σ (g + 1) → LR σ (g + 1) nb → FS σ (g + 1) t l → fr [g + 1, g + 7, g + 8] σ0 σ → t ≤ T0 + c → toC nb n kd f wo k x p s0 (c + 1) = v → Wp G mX2_tryOut d 43 [.ref g, .ref a, y2, .int s0, .int (nI x), .int (nI p), .int (nI (c + 1))] [] σ 0 0 (pI fun r s => r = v ∧ fr [g + 1, g + 7, g + 8] σ0 s ∧ RT s (g + 1) ∧ LR s (g + 1) nb ∧ ∃ T l2, FS s (g + 1) T l2 ∧ T ≤ T0 + 100) := by
  obtain ⟨d0, hdd⟩ : ∃ e, d = e + 1 := ⟨d - 1, by omega⟩
  intro k
  induction k with
  | zero =>
    have hn := hNt.1.1
    have hfl := frN_le h hh1 hh3
    rw [← ef, ← ef2] at hfl
    have hf2 : f2 ≤ 219 := hfl.1
    have hf3 : f2 ≤ f + 165 := hfl.2.1
    intro c x p s0 σ t l hi hx1 hx2 hon hp hG hN hNA hGm hWo hT hLR hFS hF hTt hv
    obtain rfl : c = 100 := by omega
    refine wp_iload (atd dX2_tryOut 22 rfl) rfl ?_
    refine wp_bipush (v := nI 100) (atd dX2_tryOut 23 rfl) (by decide) ?_
    refine wp_icmpN_gt (tgt := 124) (atd dX2_tryOut 24 rfl) (by decide) (by omega) (by omega) (fun c_47 => ?_) (fun c_47 => ?_)
    ·
      refine wp_bipush (v := -2) (atd dX2_tryOut 61 rfl) (by decide) ?_
      refine wp_ireti (atd dX2_tryOut 62 rfl) rfl ?_
      exact ⟨by rw [← hv]; rfl, hF, hT, hLR, t, l, hFS, by omega⟩
    · exfalso; omega
  | succ k ih =>
    have hn := hNt.1.1
    have hfl := frN_le h hh1 hh3
    rw [← ef, ← ef2] at hfl
    have hf2 : f2 ≤ 219 := hfl.1
    have hf3 : f2 ≤ f + 165 := hfl.2.1
    intro c x p s0 σ t l hi hx1 hx2 hon hp hG hN hNA hGm hWo hT hLR hFS hF hTt hv
    have hgd : gdX nb f f2 x := by rw [ef, ef2]; exact gdX_on hNt.1 hh1 hh3 (ef ▸ hx1) (ef2 ▸ hx2) hon
    refine wp_iload (atd dX2_tryOut 22 rfl) rfl ?_
    refine wp_bipush (v := nI 100) (atd dX2_tryOut 23 rfl) (by decide) ?_
    refine wp_icmpN_gt (tgt := 124) (atd dX2_tryOut 24 rfl) (by decide) (by omega) (by omega) (fun c_47 => ?_) (fun c_47 => ?_)
    · exfalso; omega
    ·
      refine wp_aload_n (atd dX2_tryOut 25 rfl) rfl rfl ?_
      refine wp_aload_n (atd dX2_tryOut 26 rfl) rfl rfl ?_
      refine wp_iload (atd dX2_tryOut 27 rfl) rfl ?_
      refine wp_iload (atd dX2_tryOut 28 rfl) rfl ?_
      refine wp_cVi hdd [_, _, _] (atd dX2_tryOut 29 rfl) iX2_bestRow lX2_173 rfl rfl (Nat.le_of_ble_eq_true rfl) hG rfl (eX2_bestRow (by omega) hn hw hkd hf2 hf3 hwb hap haa hwa hG hN hNA hGm hWo hT hLR hFS (by omega) hx1 hx2 (by omega) hgd) (fun r_56 s_56 h_56 => ?_)
      obtain ⟨rfl, hB, f_56, hT, hLR, l2, hFS⟩ := h_56
      have hG := hG.fr f_56 (by first | decide | (simp only [List.mem_cons, List.not_mem_nil, or_false]; omega))
      have hN := hN.fr f_56 (by first | decide | (simp only [List.mem_cons, List.not_mem_nil, or_false]; omega))
      have hNA := hNA.fr f_56 (by first | decide | (simp only [List.mem_cons, List.not_mem_nil, or_false]; omega))
      have hGm := hGm.fr f_56 (by first | decide | (simp only [List.mem_cons, List.not_mem_nil, or_false]; omega))
      have hWo := hWo.fr f_56 (by first | decide | (simp only [List.mem_cons, List.not_mem_nil, or_false]; omega))
      have hF := hF.tr f_56 (by simp)
      have hy : f ≤ bsC nb n kd f wo x p ∧ bsC nb n kd f wo x p < f2 ∧ ON n (bsC nb n kd f wo x p) := by
        rcases hB.1 with e | e
        · rw [e]; exact ⟨hx1, hx2, hon⟩
        · rw [ef, ef2]; rw [ef] at hx1 e; rw [ef2] at hx2; exact STP_on hNt.1 hh1 hh3 hx1 hx2 hon e
      obtain ⟨hy1, hy2, hyon⟩ := hy
      have hrn := rch_net hNt (kd := kd) (st := sdC (bsC nb n kd f wo x p)) hp
      have hc0 := cnt_pos (Nat.lt_of_lt_of_le hrn.2 (pow_le9 hn)) hrn.1
      have hkn := kth_n hrn.2 (Nat.mod_lt ((nxS s0).toUInt32.toNat / 65536) hc0)
      refine wp_istore (atd dX2_tryOut 30 rfl) (Nat.le_of_ble_eq_true rfl) ?_
      refine wp_aload_n (atd dX2_tryOut 31 rfl) rfl rfl ?_
      refine wp_get fX2_12 (atd dX2_tryOut 32 rfl) hG rfl ?_
      refine wp_iload (atd dX2_tryOut 33 rfl) rfl ?_
      refine wp_iload (atd dX2_tryOut 34 rfl) rfl ?_
      refine wp_cVi hdd [_, _] (atd dX2_tryOut 35 rfl) iX5_standsAt lX2_157 rfl rfl (Nat.le_of_ble_eq_true rfl) hFS.ob rfl (eX5_standsAt (by omega) hFS.ob hT (by omega) (by omega)) (fun r_69 s_69 h_69 => ?_)
      obtain ⟨rfl, e_69⟩ := h_69
      obtain rfl := e_69.symm
      refine wp_ifB_eq (tgt := 78) (atd dX2_tryOut 36 rfl) (by decide) (fun c_72 => ?_) (fun c_72 => ?_)
      ·
        refine wp_iload_n (atd dX2_tryOut 39 rfl) rfl ?_
        refine wp_cSi hdd [_] (atd dX2_tryOut 40 rfl) iX2_nextSeed lX2_167 rfl rfl (Nat.le_of_ble_eq_true rfl) (eX2_nextSeed (by omega)) (fun r_79 s_79 h_79 => ?_)
        obtain ⟨rfl, e_79⟩ := h_79
        obtain rfl := e_79.symm
        refine wp_istore_n (atd dX2_tryOut 41 rfl) (Nat.le_of_ble_eq_true rfl) ?_
        refine wp_aload_n (atd dX2_tryOut 42 rfl) rfl rfl ?_
        refine wp_aload_n (atd dX2_tryOut 43 rfl) rfl rfl ?_
        refine wp_get fX2_100 (atd dX2_tryOut 44 rfl) hGm rfl ?_
        refine wp_iload (atd dX2_tryOut 45 rfl) rfl ?_
        refine wp_iload (atd dX2_tryOut 46 rfl) rfl ?_
        refine wp_cVi hdd [_, _, _] (atd dX2_tryOut 47 rfl) iX2_reach lX2_113 rfl rfl (Nat.le_of_ble_eq_true rfl) hG rfl (eX2_reach (by omega) hN hNA hn hw hG hFS.ob hT hkd (by omega) (by omega)) (fun r_92 s_92 h_92 => ?_)
        obtain ⟨rfl, e_92⟩ := h_92
        obtain rfl := e_92.symm
        refine wp_iload_n (atd dX2_tryOut 48 rfl) rfl ?_
        refine wp_cSi hdd [_, _] (atd dX2_tryOut 49 rfl) iX2_drawn lX2_170 rfl rfl (Nat.le_of_ble_eq_true rfl) (eX2_drawn (by omega) (rch_lt hw _ _ _) hc0) (fun r_96 s_96 h_96 => ?_)
        obtain ⟨rfl, e_96⟩ := h_96
        obtain rfl := e_96.symm
        refine wp_istore (atd dX2_tryOut 50 rfl) (Nat.le_of_ble_eq_true rfl) ?_
        refine wp_aload_n (atd dX2_tryOut 51 rfl) rfl rfl ?_
        refine wp_get fX2_12 (atd dX2_tryOut 52 rfl) hG rfl ?_
        refine wp_iload (atd dX2_tryOut 53 rfl) rfl ?_
        refine wp_iload (atd dX2_tryOut 54 rfl) rfl ?_
        refine wp_cVi hdd [_, _] (atd dX2_tryOut 55 rfl) iX5_standsAt lX2_157 rfl rfl (Nat.le_of_ble_eq_true rfl) hFS.ob rfl (eX5_standsAt (by omega) hFS.ob hT (by omega) (by have : kth (rch nb kd (sdC (bsC nb n kd f wo x p)) p) 9 0 (drN (nxS s0) (cnt (rch nb kd (sdC (bsC nb n kd f wo x p)) p))) < n := hkn; omega)) (fun r_109 s_109 h_109 => ?_)
        obtain ⟨rfl, e_109⟩ := h_109
        obtain rfl := e_109.symm
        refine wp_ifB_eq (tgt := 118) (atd dX2_tryOut 56 rfl) (by decide) (fun c_112 => ?_) (fun c_112 => ?_)
        ·
          refine wp_iincN (c := 1) (atd dX2_tryOut 59 rfl) rfl ?_
          refine wp_goto (tgt := 43) (atd dX2_tryOut 60 rfl) (by decide) ?_
          exact ih (c + 1) _ _ (nxS s0) _ (t + 1) l2 (by omega) hy1 hy2 hyon hkn hG hN hNA hGm hWo hT hLR hFS hF (by omega) (by rw [← hv]; rw [show toC nb n kd f wo (k + 1) x p s0 (c + 1) = if (sdC (bsC nb n kd f wo x p)).testBit p = true then nI (c + 1) else if (sdC (bsC nb n kd f wo x p)).testBit (kth (rch nb kd (sdC (bsC nb n kd f wo x p)) p) 9 0 (drN (nxS s0) (cnt (rch nb kd (sdC (bsC nb n kd f wo x p)) p)))) = true then nI (c + 1) else toC nb n kd f wo k (bsC nb n kd f wo x p) (kth (rch nb kd (sdC (bsC nb n kd f wo x p)) p) 9 0 (drN (nxS s0) (cnt (rch nb kd (sdC (bsC nb n kd f wo x p)) p)))) (nxS s0) (c + 1 + 1) from rfl, if_neg c_72, if_neg c_112])
        ·
          refine wp_iload (atd dX2_tryOut 57 rfl) rfl ?_
          refine wp_ireti (atd dX2_tryOut 58 rfl) rfl ?_
          exact ⟨by rw [← hv]; rw [show toC nb n kd f wo (k + 1) x p s0 (c + 1) = if (sdC (bsC nb n kd f wo x p)).testBit p = true then nI (c + 1) else if (sdC (bsC nb n kd f wo x p)).testBit (kth (rch nb kd (sdC (bsC nb n kd f wo x p)) p) 9 0 (drN (nxS s0) (cnt (rch nb kd (sdC (bsC nb n kd f wo x p)) p)))) = true then nI (c + 1) else toC nb n kd f wo k (bsC nb n kd f wo x p) (kth (rch nb kd (sdC (bsC nb n kd f wo x p)) p) 9 0 (drN (nxS s0) (cnt (rch nb kd (sdC (bsC nb n kd f wo x p)) p)))) (nxS s0) (c + 1 + 1) from rfl, if_neg c_72, if_pos c_112], hF, hT, hLR, t + 1, l2, hFS, by omega⟩
      ·
        refine wp_iload (atd dX2_tryOut 37 rfl) rfl ?_
        refine wp_ireti (atd dX2_tryOut 38 rfl) rfl ?_
        exact ⟨by rw [← hv]; rw [show toC nb n kd f wo (k + 1) x p s0 (c + 1) = if (sdC (bsC nb n kd f wo x p)).testBit p = true then nI (c + 1) else if (sdC (bsC nb n kd f wo x p)).testBit (kth (rch nb kd (sdC (bsC nb n kd f wo x p)) p) 9 0 (drN (nxS s0) (cnt (rch nb kd (sdC (bsC nb n kd f wo x p)) p)))) = true then nI (c + 1) else toC nb n kd f wo k (bsC nb n kd f wo x p) (kth (rch nb kd (sdC (bsC nb n kd f wo x p)) p) 9 0 (drN (nxS s0) (cnt (rch nb kd (sdC (bsC nb n kd f wo x p)) p)))) (nxS s0) (c + 1 + 1) from rfl, if_pos c_72], hF, hT, hLR, t + 1, l2, hFS, by omega⟩
/-- a trial, by the class -/
noncomputable def toF (nb : Nat → Nat) (n kd f : Nat) (wo : Nat → Option Nat) (x : Nat) (s : Int32) : Int32 := if (sdC x).testBit (kth (2 ^ n - 1) 9 0 (drN (nxS s) (cnt (2 ^ n - 1)))) = true then nI 0 else toC nb n kd f wo 100 x (kth (2 ^ n - 1) 9 0 (drN (nxS s) (cnt (2 ^ n - 1)))) (nxS s) 1
theorem eX2_tryOut {G : Gx} {d : Nat} {σ : Hp} (hd : 6 ≤ d) {g kn n a kd f f2 wa h : Nat} {nb : Nat → Nat} {wo : Nat → Option Nat} {rd tn rf hp : Int32} (hNt : isNetZ n nb) (hw : ∀ p, nb p < 512) (hkd : kd < 3) (hh1 : 1 ≤ h) (hh3 : h ≤ 3) (ef : f = frN h) (ef2 : f2 = frN (h + 1)) (hwb : ∀ i v, wo i = some v → v < 1000000) (hap : kn + 1 < g ∨ g + 12 < kn) (haa : a < g ∨ g + 12 < a) (hwa : (wa < g ∨ g + 12 < wa) ∧ wa ≠ a ∧ wa ≠ kn ∧ wa ≠ kn + 1) {T0 x : Nat} {l : List Nat} {s0 : Int32} (hT0 : T0 + 200 < 2 ^ 31) (hn1 : 1 ≤ n) (hx1 : f ≤ x) (hx2 : x < f2) (hon : ON n x) (hG : OB σ g 2 (ggF g kn)) (hN : OB σ kn 3 [.int (nI n), .ref (kn + 1)]) (hNA : AI σ (kn + 1) 9 nb) (hGm : OB σ a 1 (gaF kd f f2 rd (.ref wa) (nI x) tn rf hp)) (hWo : AO σ wa ((f2 - f) * 9) wo) (hT : RT σ (g + 1)) (hLR : LR σ (g + 1) nb) (hFS : FS σ (g + 1) T0 l) : Cl G mX2_tryOut d [.ref g, .ref a, .int s0] σ 0 0 (pI fun r s => r = toF nb n kd f wo x s0 ∧ fr [g + 1, g + 7, g + 8] σ s ∧ RT s (g + 1) ∧ LR s (g + 1) nb ∧ ∃ T l2, FS s (g + 1) T l2 ∧ T ≤ T0 + 100) := by
  obtain ⟨d0, hdd⟩ : ∃ e, d = e + 1 := ⟨d - 1, by omega⟩
  refine cl_of (by decide) (by simp [Value.category]) (Nat.le_of_ble_eq_true rfl) ?_
  show Wp G mX2_tryOut d 0 [.ref g, .ref a, .int s0, .double 0, .double 0, .double 0, .double 0] [] σ 0 0 _
  have hn := hNt.1.1
  have hfl := frN_le h hh1 hh3
  rw [← ef, ← ef2] at hfl
  have hf2 : f2 ≤ 219 := hfl.1
  have hf3 : f2 ≤ f + 165 := hfl.2.1
  have h9 := pow_le9 hn
  have hc0 : 0 < cnt (2 ^ n - 1) := by rw [cnt_all n hn]; exact hn1
  have hkn := kth_n (n := n) (s := 2 ^ n - 1) (by have := pow_pos9 n; omega) (Nat.mod_lt ((nxS s0).toUInt32.toNat / 65536) hc0)
  refine wp_iload_n (atd dX2_tryOut 0 rfl) rfl ?_
  refine wp_cSi hdd [_] (atd dX2_tryOut 1 rfl) iX2_nextSeed lX2_167 rfl rfl (Nat.le_of_ble_eq_true rfl) (eX2_nextSeed (by omega)) (fun r_1 s_1 h_1 => ?_)
  obtain ⟨rfl, e_1⟩ := h_1
  obtain rfl := e_1.symm
  refine wp_istore_n (atd dX2_tryOut 2 rfl) (Nat.le_of_ble_eq_true rfl) ?_
  refine wp_aload_n (atd dX2_tryOut 3 rfl) rfl rfl ?_
  refine wp_get fX2_117 (atd dX2_tryOut 4 rfl) hGm rfl ?_
  refine wp_istore (atd dX2_tryOut 5 rfl) (Nat.le_of_ble_eq_true rfl) ?_
  refine wp_aload_n (atd dX2_tryOut 6 rfl) rfl rfl ?_
  refine wp_get fX2_34 (atd dX2_tryOut 7 rfl) hG rfl ?_
  refine wp_cVi hdd [] (atd dX2_tryOut 8 rfl) iX3_all lX2_92 rfl rfl (Nat.le_of_ble_eq_true rfl) hN rfl (eX3_all (by omega) hN hn) (fun r_15 s_15 h_15 => ?_)
  obtain ⟨rfl, e_15⟩ := h_15
  obtain rfl := e_15.symm
  refine wp_iload_n (atd dX2_tryOut 9 rfl) rfl ?_
  refine wp_cSi hdd [_, _] (atd dX2_tryOut 10 rfl) iX2_drawn lX2_170 rfl rfl (Nat.le_of_ble_eq_true rfl) (eX2_drawn (by omega) (by omega) hc0) (fun r_19 s_19 h_19 => ?_)
  obtain ⟨rfl, e_19⟩ := h_19
  obtain rfl := e_19.symm
  refine wp_istore (atd dX2_tryOut 11 rfl) (Nat.le_of_ble_eq_true rfl) ?_
  refine wp_aload_n (atd dX2_tryOut 12 rfl) rfl rfl ?_
  refine wp_get fX2_12 (atd dX2_tryOut 13 rfl) hG rfl ?_
  refine wp_iload (atd dX2_tryOut 14 rfl) rfl ?_
  refine wp_iload (atd dX2_tryOut 15 rfl) rfl ?_
  refine wp_cVi hdd [_, _] (atd dX2_tryOut 16 rfl) iX5_standsAt lX2_157 rfl rfl (Nat.le_of_ble_eq_true rfl) hFS.ob rfl (eX5_standsAt (by omega) hFS.ob hT (by omega) (by have : kth (2 ^ n - 1) 9 0 (drN (nxS s0) (cnt (2 ^ n - 1))) < n := hkn; omega)) (fun r_32 s_32 h_32 => ?_)
  obtain ⟨rfl, e_32⟩ := h_32
  obtain rfl := e_32.symm
  refine wp_ifB_eq (tgt := 40) (atd dX2_tryOut 17 rfl) (by decide) (fun c_35 => ?_) (fun c_35 => ?_)
  ·
    refine wp_iconst (v := nI 1) (atd dX2_tryOut 20 rfl) (by decide) ?_
    refine wp_istore (atd dX2_tryOut 21 rfl) (Nat.le_of_ble_eq_true rfl) ?_
    rw [toF, if_neg c_35]
    exact lX2_tryOut (by omega) hNt hw hkd hh1 hh3 ef ef2 hwb hap haa hwa hT0 100 0 x _ _ σ T0 l (by omega) hx1 hx2 hon hkn hG hN hNA hGm hWo hT hLR hFS fr.rf (by omega) rfl
  ·
    refine wp_iconst (v := nI 0) (atd dX2_tryOut 18 rfl) (by decide) ?_
    refine wp_ireti (atd dX2_tryOut 19 rfl) rfl ?_
    exact ⟨by rw [toF, if_pos c_35], fr.rf, hT, hLR, T0, l, hFS, by omega⟩
