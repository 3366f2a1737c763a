theorem RT.fA {σ s : Hp} {S : List Nat} {r : Nat} (h : RT σ r) (f : fA S σ s) (hl : r + 3 < σ.1) (hk : ∀ j, r + 1 ≤ j → j ≤ r + 3 → j ∉ S) : RT s r := ⟨h.1.fA f (by omega) (hk _ (by omega) (by omega)), h.2.1.fA f (by omega) (hk _ (by omega) (by omega)), h.2.2.fA f (by omega) (hk _ (by omega) (by omega))⟩
theorem LR.fA {σ s : Hp} {S : List Nat} {r : Nat} {nb : Nat → Nat} (h : LR σ r nb) (f : fA S σ s) (hl : r + 5 < σ.1) (hk : ∀ j, r + 4 ≤ j → j ≤ r + 5 → j ∉ S) : LR s r nb := by
  obtain ⟨ns, nc, h1, h2, h3⟩ := h
  exact ⟨ns, nc, h1.fA f (by omega) (hk _ (by omega) (by omega)), h2.fA f (by omega) (hk _ (by omega) (by omega)), h3⟩
theorem FS.fA {σ s : Hp} {S : List Nat} {r t : Nat} {l : List Nat} (h : FS σ r t l) (f : fA S σ s) (hl : r + 7 < σ.1) (hk : ∀ j, (j = r ∨ j = r + 6 ∨ j = r + 7) → True → j ∉ S) : FS s r t l := by
  obtain ⟨fo, se, h1, h2, h3, h4⟩ := h
  exact ⟨fo, se, h1.fA f (by omega) (hk _ (by simp) trivial), h2.fA f (by omega) (hk _ (by simp) trivial), h3.fA f (by omega) (hk _ (by simp) trivial), h4⟩
abbrev FoT : Type := Option Nat × Nat × Nat
def foG (wo : Nat → Option Nat) (w : Nat → Nat) (n f x : Nat) (s : FoT) : FoT := if dif (sdC x) (2 ^ n - 1) = 0 then
  (if s.1 = none ∨ grF (fun p => wo ((x - f) * 9 + p)) (2 ^ n - 1) n < s.2.2 then (some x, s.2.1 + (n - cnt (w x)), grF (fun p => wo ((x - f) * 9 + p)) (2 ^ n - 1) n) else (s.1, s.2.1 + (n - cnt (w x)), s.2.2)) else s
def foF (wo : Nat → Option Nat) (w : Nat → Nat) (n f f2 : Nat) : FoT := fl (foG wo w n f) (f2 - f) f (none, 0, 1000000)
theorem lX2_findOpening {G : Gx} {d : Nat} (hd : 3 ≤ d) {σ0 : Hp} {g kn n a kd f f2 wa T : Nat} {nb w : Nat → Nat} {wo : Nat → Option Nat} {rd tn hp : Int32} {l : List Nat} (hn : n ≤ 9) (hw : ∀ p, nb p < 512) (hf2 : f2 ≤ 219) (hww : ∀ x, w x < 512) (hwn : ∀ x, f ≤ x → x < f2 → dif (sdC x) (2 ^ n - 1) = 0 → cnt (w x) ≤ n) (hwb : ∀ i v, wo i = some v → v < 1000000) (hap : kn + 1 < g ∨ g + 12 < kn) (haa : a < g ∨ g + 12 < a) (hwa : (wa < g ∨ g + 12 < wa) ∧ wa ≠ a ∧ wa ≠ kn ∧ wa ≠ kn + 1) (hak : a ≠ kn ∧ a ≠ kn + 1) {v : FoT} : ∀ (k : Nat) (x : Nat) (σ : Hp) (s : FoT) (y4 : Value), x + k = f2 → f ≤ x → OB σ g 2 (ggF g kn) → OB σ kn 3 [.int (nI n), .ref (kn + 1)] → AI σ (kn + 1) 9 nb → OB σ a 1 (gaF kd f f2 rd (.ref wa) (oI s.1) tn (nI s.2.1) hp) → RT σ (g + 1) → LR σ (g + 1) nb → FS σ (g + 1) T l → AI σ (g + 10) 219 w → AO σ wa ((f2 - f) * 9) wo → fr [a] σ0 σ → fl (foG wo w n f) k x s = v → s.2.2 ≤ 1000000 → (∀ y, s.1 = some y → y < 219) → s.2.1 ≤ 9 * (x - f) → Wp G mX2_findOpening d 18 [.ref g, .ref a, .int (nI s.2.2), .int (nI x), y4] [] σ 0 0 (pV fun s => fr [a] σ0 s ∧ OB s a 1 (gaF kd f f2 rd (.ref wa) (oI v.1) (oI (wkO v.2.2)) (nI v.2.1) hp)) := by
  obtain ⟨d0, hdd⟩ : ∃ e, d = e + 1 := ⟨d - 1, by omega⟩
  intro k
  induction k with
  | zero =>
    intro x σ s y4 h hfx hG hN hNA hGm hT hLR hFS hW hWo hF hv hle hop hrf
    obtain rfl : x = f2 := by omega
    refine wp_iload_n (atd dX2_findOpening 11 rfl) rfl ?_
    refine wp_aload_n (atd dX2_findOpening 12 rfl) rfl rfl ?_
    refine wp_get fX2_71 (atd dX2_findOpening 13 rfl) hGm rfl ?_
    refine wp_icmpN_ge (tgt := 103) (atd dX2_findOpening 14 rfl) (by decide) (by omega) (by omega) (fun c_23 => ?_) (fun c_23 => ?_)
    ·
      refine wp_aload_n (atd dX2_findOpening 55 rfl) rfl rfl ?_
      refine wp_iload_n (atd dX2_findOpening 56 rfl) rfl ?_
      refine wp_cSi hdd [_] (atd dX2_findOpening 57 rfl) iX2_worthOf lX2_133 rfl rfl (Nat.le_of_ble_eq_true rfl) (eX2_worthOf (by omega) (by omega)) (fun r_105 s_105 h_105 => ?_)
      obtain ⟨rfl, e_105⟩ := h_105
      obtain rfl := e_105.symm
      refine wp_putX fX2_136 (atd dX2_findOpening 58 rfl) hGm rfl (Nat.le_of_ble_eq_true rfl) (fun σ f_108 hGm => ?_)
      have hG := hG.fr f_108 (by first | decide | (simp only [List.mem_cons, List.not_mem_nil, or_false]; omega))
      have hN := hN.fr f_108 (by first | decide | (simp only [List.mem_cons, List.not_mem_nil, or_false]; omega))
      have hNA := hNA.fr f_108 (by first | decide | (simp only [List.mem_cons, List.not_mem_nil, or_false]; omega))
      have hT := hT.fr f_108 ⟨by simp only [List.mem_cons, List.not_mem_nil, or_false]; omega, by simp only [List.mem_cons, List.not_mem_nil, or_false]; omega, by simp only [List.mem_cons, List.not_mem_nil, or_false]; omega⟩
      have hLR := hLR.fr f_108 ⟨by simp only [List.mem_cons, List.not_mem_nil, or_false]; omega, by simp only [List.mem_cons, List.not_mem_nil, or_false]; omega⟩
      have hFS := hFS.fr f_108 ⟨by simp only [List.mem_cons, List.not_mem_nil, or_false]; omega, by simp only [List.mem_cons, List.not_mem_nil, or_false]; omega, by simp only [List.mem_cons, List.not_mem_nil, or_false]; omega⟩
      have hW := hW.fr f_108 (by first | decide | (simp only [List.mem_cons, List.not_mem_nil, or_false]; omega))
      have hWo := hWo.fr f_108 (by first | decide | (simp only [List.mem_cons, List.not_mem_nil, or_false]; omega))
      have hF := hF.tr f_108 (by simp)
      refine wp_vretv (atd dX2_findOpening 59 rfl) rfl ?_
      rw [← hv]
      exact ⟨hF, hGm⟩
    · exfalso; omega
  | succ k ih =>
    intro x σ s y4 h hfx hG hN hNA hGm hT hLR hFS hW hWo hF hv hle hop hrf
    refine wp_iload_n (atd dX2_findOpening 11 rfl) rfl ?_
    refine wp_aload_n (atd dX2_findOpening 12 rfl) rfl rfl ?_
    refine wp_get fX2_71 (atd dX2_findOpening 13 rfl) hGm rfl ?_
    refine wp_icmpN_ge (tgt := 103) (atd dX2_findOpening 14 rfl) (by decide) (by omega) (by omega) (fun c_23 => ?_) (fun c_23 => ?_)
    · exfalso; omega
    ·
      refine wp_aload_n (atd dX2_findOpening 15 rfl) rfl rfl ?_
      refine wp_iload_n (atd dX2_findOpening 16 rfl) rfl ?_
      refine wp_cVi hdd [_] (atd dX2_findOpening 17 rfl) iX2_isOnNet lX2_74 rfl rfl (Nat.le_of_ble_eq_true rfl) hG rfl (eX2_isOnNet (by omega) hN hNA hn hw hG hFS.ob hT (by omega)) (fun r_28 s_28 h_28 => ?_)
      obtain ⟨rfl, e_28⟩ := h_28
      obtain rfl := e_28.symm
      refine wp_ifB_eq (tgt := 97) (atd dX2_findOpening 18 rfl) (by decide) (fun c_31 => ?_) (fun c_31 => ?_)
      ·
        refine wp_iincN (c := 1) (atd dX2_findOpening 53 rfl) rfl ?_
        refine wp_goto (tgt := 18) (atd dX2_findOpening 54 rfl) (by decide) ?_
        exact ih (x + 1) _ s _ (by omega) (by omega) hG hN hNA hGm hT hLR hFS hW hWo hF (by rw [← hv]; show _ = fl (foG wo w n f) _ _ (foG wo w n f x s); rw [foG, if_neg c_31]) hle hop (by omega)
      ·
        refine wp_aload_n (atd dX2_findOpening 19 rfl) rfl rfl ?_
        refine wp_aload_n (atd dX2_findOpening 20 rfl) rfl rfl ?_
        refine wp_iload_n (atd dX2_findOpening 21 rfl) rfl ?_
        refine wp_aload_n (atd dX2_findOpening 22 rfl) rfl rfl ?_
        refine wp_get fX2_34 (atd dX2_findOpening 23 rfl) hG rfl ?_
        refine wp_cVi hdd [] (atd dX2_findOpening 24 rfl) iX3_all lX2_92 rfl rfl (Nat.le_of_ble_eq_true rfl) hN rfl (eX3_all (by omega) hN hn) (fun r_41 s_41 h_41 => ?_)
        obtain ⟨rfl, e_41⟩ := h_41
        obtain rfl := e_41.symm
        refine wp_cVi hdd [_, _, _] (atd dX2_findOpening 25 rfl) iX2_greatestRank lX2_124 rfl rfl (Nat.le_of_ble_eq_true rfl) hG rfl (eX2_greatestRank (by omega) hN hNA hn hw hG hGm hWo hf2 hwb hfx (by omega) (by have := pow_le9 hn; omega)) (fun r_44 s_44 h_44 => ?_)
        obtain ⟨rfl, e_44⟩ := h_44
        obtain rfl := e_44.symm
        have hrk := grF_le (u := fun p => wo ((x - f) * 9 + p)) (fun i v hv => hwb _ _ hv) (2 ^ n - 1) n
        refine wp_istore (atd dX2_findOpening 26 rfl) (Nat.le_of_ble_eq_true rfl) ?_
        refine wp_aload_n (atd dX2_findOpening 27 rfl) rfl rfl ?_
        refine wp_dup (atd dX2_findOpening 28 rfl) rfl ?_
        refine wp_get fX2_120 (atd dX2_findOpening 29 rfl) hGm rfl ?_
        refine wp_aload_n (atd dX2_findOpening 30 rfl) rfl rfl ?_
        refine wp_get fX2_34 (atd dX2_findOpening 31 rfl) hG rfl ?_
        refine wp_get fX2_52 (atd dX2_findOpening 32 rfl) hN rfl ?_
        refine wp_aload_n (atd dX2_findOpening 33 rfl) rfl rfl ?_
        refine wp_get fX2_24 (atd dX2_findOpening 34 rfl) hG rfl ?_
        refine wp_iload_n (atd dX2_findOpening 35 rfl) rfl ?_
        refine wp_ialdA (atd dX2_findOpening 36 rfl) hW (by omega) (Nat.le_of_ble_eq_true rfl) ?_
        refine wp_cSi hdd [_] (atd dX2_findOpening 37 rfl) iJ6_bitCount_0f7a4 lX2_128 rfl rfl (Nat.le_of_ble_eq_true rfl) (eJ6_bitCount (by omega) (hww x)) (fun r_67 s_67 h_67 => ?_)
        obtain ⟨rfl, e_67⟩ := h_67
        obtain rfl := e_67.symm
        refine wp_isubN (atd dX2_findOpening 38 rfl) (hwn x hfx (by omega) c_31) ?_
        refine wp_iaddN (atd dX2_findOpening 39 rfl) ?_
        refine wp_putX fX2_120 (atd dX2_findOpening 40 rfl) hGm rfl (Nat.le_of_ble_eq_true rfl) (fun σ f_72 hGm => ?_)
        have hG := hG.fr f_72 (by first | decide | (simp only [List.mem_cons, List.not_mem_nil, or_false]; omega))
        have hN := hN.fr f_72 (by first | decide | (simp only [List.mem_cons, List.not_mem_nil, or_false]; omega))
        have hNA := hNA.fr f_72 (by first | decide | (simp only [List.mem_cons, List.not_mem_nil, or_false]; omega))
        have hT := hT.fr f_72 ⟨by simp only [List.mem_cons, List.not_mem_nil, or_false]; omega, by simp only [List.mem_cons, List.not_mem_nil, or_false]; omega, by simp only [List.mem_cons, List.not_mem_nil, or_false]; omega⟩
        have hLR := hLR.fr f_72 ⟨by simp only [List.mem_cons, List.not_mem_nil, or_false]; omega, by simp only [List.mem_cons, List.not_mem_nil, or_false]; omega⟩
        have hFS := hFS.fr f_72 ⟨by simp only [List.mem_cons, List.not_mem_nil, or_false]; omega, by simp only [List.mem_cons, List.not_mem_nil, or_false]; omega, by simp only [List.mem_cons, List.not_mem_nil, or_false]; omega⟩
        have hW := hW.fr f_72 (by first | decide | (simp only [List.mem_cons, List.not_mem_nil, or_false]; omega))
        have hWo := hWo.fr f_72 (by first | decide | (simp only [List.mem_cons, List.not_mem_nil, or_false]; omega))
        have hF := hF.tr f_72 (by simp)
        rcases hs1 : s.1 with _ | o1
        ·
          rw [hs1, show oI none = -1 from rfl] at hGm
          refine wp_aload_n (atd dX2_findOpening 41 rfl) rfl rfl ?_
          refine wp_get fX2_117 (atd dX2_findOpening 42 rfl) hGm rfl ?_
          refine wp_iconst (v := -1) (atd dX2_findOpening 43 rfl) (by decide) ?_
          refine wp_icmp_eq (tgt := 89) (atd dX2_findOpening 44 rfl) (by decide) (fun c_80 => ?_) (fun c_80 => ?_)
          ·
            refine wp_aload_n (atd dX2_findOpening 48 rfl) rfl rfl ?_
            refine wp_iload_n (atd dX2_findOpening 49 rfl) rfl ?_
            refine wp_putX fX2_117 (atd dX2_findOpening 50 rfl) hGm rfl (Nat.le_of_ble_eq_true rfl) (fun σ f_91 hGm => ?_)
            have hG := hG.fr f_91 (by first | decide | (simp only [List.mem_cons, List.not_mem_nil, or_false]; omega))
            have hN := hN.fr f_91 (by first | decide | (simp only [List.mem_cons, List.not_mem_nil, or_false]; omega))
            have hNA := hNA.fr f_91 (by first | decide | (simp only [List.mem_cons, List.not_mem_nil, or_false]; omega))
            have hT := hT.fr f_91 ⟨by simp only [List.mem_cons, List.not_mem_nil, or_false]; omega, by simp only [List.mem_cons, List.not_mem_nil, or_false]; omega, by simp only [List.mem_cons, List.not_mem_nil, or_false]; omega⟩
            have hLR := hLR.fr f_91 ⟨by simp only [List.mem_cons, List.not_mem_nil, or_false]; omega, by simp only [List.mem_cons, List.not_mem_nil, or_false]; omega⟩
            have hFS := hFS.fr f_91 ⟨by simp only [List.mem_cons, List.not_mem_nil, or_false]; omega, by simp only [List.mem_cons, List.not_mem_nil, or_false]; omega, by simp only [List.mem_cons, List.not_mem_nil, or_false]; omega⟩
            have hW := hW.fr f_91 (by first | decide | (simp only [List.mem_cons, List.not_mem_nil, or_false]; omega))
            have hWo := hWo.fr f_91 (by first | decide | (simp only [List.mem_cons, List.not_mem_nil, or_false]; omega))
            have hF := hF.tr f_91 (by simp)
            refine wp_iload (atd dX2_findOpening 51 rfl) rfl ?_
            refine wp_istore_n (atd dX2_findOpening 52 rfl) (Nat.le_of_ble_eq_true rfl) ?_
            refine wp_iincN (c := 1) (atd dX2_findOpening 53 rfl) rfl ?_
            refine wp_goto (tgt := 18) (atd dX2_findOpening 54 rfl) (by decide) ?_
            refine ih (x + 1) _ (some x, s.2.1 + (n - cnt (w x)), grF (fun p => wo ((x - f) * 9 + p)) (2 ^ n - 1) n) _ (by omega) (by omega) hG hN hNA hGm hT hLR hFS hW hWo hF (by rw [← hv]; show _ = fl (foG wo w n f) _ _ (foG wo w n f x s); rw [foG, if_pos c_31, if_pos (Or.inl hs1)]) hrk (fun y hy => by cases hy; omega) ?_
            show s.2.1 + (n - cnt (w x)) ≤ 9 * (x + 1 - f)
            omega
          · exact absurd rfl c_80
        ·
          rw [hs1, show oI (some o1) = nI o1 from rfl] at hGm
          have ho1 := hop o1 hs1
          refine wp_aload_n (atd dX2_findOpening 41 rfl) rfl rfl ?_
          refine wp_get fX2_117 (atd dX2_findOpening 42 rfl) hGm rfl ?_
          refine wp_iconst (v := -1) (atd dX2_findOpening 43 rfl) (by decide) ?_
          refine wp_icmp_eq (tgt := 89) (atd dX2_findOpening 44 rfl) (by decide) (fun c_80 => ?_) (fun c_80 => ?_)
          · exact absurd c_80 (nI_m1 (by omega))
          ·
            refine wp_iload (atd dX2_findOpening 45 rfl) rfl ?_
            refine wp_iload_n (atd dX2_findOpening 46 rfl) rfl ?_
            refine wp_icmpN_ge (tgt := 97) (atd dX2_findOpening 47 rfl) (by decide) (by omega) (by omega) (fun c_86 => ?_) (fun c_86 => ?_)
            ·
              refine wp_iincN (c := 1) (atd dX2_findOpening 53 rfl) rfl ?_
              refine wp_goto (tgt := 18) (atd dX2_findOpening 54 rfl) (by decide) ?_
              refine ih (x + 1) _ (some o1, s.2.1 + (n - cnt (w x)), s.2.2) _ (by omega) (by omega) hG hN hNA hGm hT hLR hFS hW hWo hF (by rw [← hv]; show _ = fl (foG wo w n f) _ _ (foG wo w n f x s); rw [foG, if_pos c_31, if_neg (fun h => h.elim (fun e => by rw [hs1] at e; cases e) (fun e => by omega)), hs1]) hle (fun y hy => by cases hy; exact ho1) ?_
              show s.2.1 + (n - cnt (w x)) ≤ 9 * (x + 1 - f)
              omega
            ·
              refine wp_aload_n (atd dX2_findOpening 48 rfl) rfl rfl ?_
              refine wp_iload_n (atd dX2_findOpening 49 rfl) rfl ?_
              refine wp_putX fX2_117 (atd dX2_findOpening 50 rfl) hGm rfl (Nat.le_of_ble_eq_true rfl) (fun σ f_91 hGm => ?_)
              have hG := hG.fr f_91 (by first | decide | (simp only [List.mem_cons, List.not_mem_nil, or_false]; omega))
              have hN := hN.fr f_91 (by first | decide | (simp only [List.mem_cons, List.not_mem_nil, or_false]; omega))
              have hNA := hNA.fr f_91 (by first | decide | (simp only [List.mem_cons, List.not_mem_nil, or_false]; omega))
              have hT := hT.fr f_91 ⟨by simp only [List.mem_cons, List.not_mem_nil, or_false]; omega, by simp only [List.mem_cons, List.not_mem_nil, or_false]; omega, by simp only [List.mem_cons, List.not_mem_nil, or_false]; omega⟩
              have hLR := hLR.fr f_91 ⟨by simp only [List.mem_cons, List.not_mem_nil, or_false]; omega, by simp only [List.mem_cons, List.not_mem_nil, or_false]; omega⟩
              have hFS := hFS.fr f_91 ⟨by simp only [List.mem_cons, List.not_mem_nil, or_false]; omega, by simp only [List.mem_cons, List.not_mem_nil, or_false]; omega, by simp only [List.mem_cons, List.not_mem_nil, or_false]; omega⟩
              have hW := hW.fr f_91 (by first | decide | (simp only [List.mem_cons, List.not_mem_nil, or_false]; omega))
              have hWo := hWo.fr f_91 (by first | decide | (simp only [List.mem_cons, List.not_mem_nil, or_false]; omega))
              have hF := hF.tr f_91 (by simp)
              refine wp_iload (atd dX2_findOpening 51 rfl) rfl ?_
              refine wp_istore_n (atd dX2_findOpening 52 rfl) (Nat.le_of_ble_eq_true rfl) ?_
              refine wp_iincN (c := 1) (atd dX2_findOpening 53 rfl) rfl ?_
              refine wp_goto (tgt := 18) (atd dX2_findOpening 54 rfl) (by decide) ?_
              refine ih (x + 1) _ (some x, s.2.1 + (n - cnt (w x)), grF (fun p => wo ((x - f) * 9 + p)) (2 ^ n - 1) n) _ (by omega) (by omega) hG hN hNA hGm hT hLR hFS hW hWo hF (by rw [← hv]; show _ = fl (foG wo w n f) _ _ (foG wo w n f x s); rw [foG, if_pos c_31, if_pos (Or.inr c_86)]) hrk (fun y hy => by cases hy; omega) ?_
              show s.2.1 + (n - cnt (w x)) ≤ 9 * (x + 1 - f)
              omega
theorem eX2_findOpening {G : Gx} {d : Nat} {σ : Hp} (hd : 3 ≤ d) {g kn n a kd f f2 wa T : Nat} {nb w : Nat → Nat} {wo : Nat → Option Nat} {rd op tn rf hp : Int32} {l : List Nat} (hn : n ≤ 9) (hw : ∀ p, nb p < 512) (hf2 : f2 ≤ 219) (hww : ∀ x, w x < 512) (hwn : ∀ x, f ≤ x → x < f2 → dif (sdC x) (2 ^ n - 1) = 0 → cnt (w x) ≤ n) (hwb : ∀ i v, wo i = some v → v < 1000000) (hap : kn + 1 < g ∨ g + 12 < kn) (haa : a < g ∨ g + 12 < a) (hwa : (wa < g ∨ g + 12 < wa) ∧ wa ≠ a ∧ wa ≠ kn ∧ wa ≠ kn + 1) (hak : a ≠ kn ∧ a ≠ kn + 1) (hff : f ≤ f2) (hG : OB σ g 2 (ggF g kn)) (hN : OB σ kn 3 [.int (nI n), .ref (kn + 1)]) (hNA : AI σ (kn + 1) 9 nb) (hGm : OB σ a 1 (gaF kd f f2 rd (.ref wa) op tn rf hp)) (hT : RT σ (g + 1)) (hLR : LR σ (g + 1) nb) (hFS : FS σ (g + 1) T l) (hW : AI σ (g + 10) 219 w) (hWo : AO σ wa ((f2 - f) * 9) wo) : Cl G mX2_findOpening d [.ref g, .ref a] σ 0 0 (pV fun s => fr [a] σ s ∧ OB s a 1 (gaF kd f f2 rd (.ref wa) (oI (foF wo w n f f2).1) (oI (wkO (foF wo w n f f2).2.2)) (nI (foF wo w n f f2).2.1) hp)) := by
  obtain ⟨d0, hdd⟩ : ∃ e, d = e + 1 := ⟨d - 1, by omega⟩
  refine cl_of (by decide) (by simp [Value.category]) (Nat.le_of_ble_eq_true rfl) ?_
  show Wp G mX2_findOpening d 0 [.ref g, .ref a, .double 0, .double 0, .double 0] [] σ 0 0 _
  have hF : fr [a] σ σ := fr.rf
  refine wp_aload_n (atd dX2_findOpening 0 rfl) rfl rfl ?_
  refine wp_iconst (v := -1) (atd dX2_findOpening 1 rfl) (by decide) ?_
  refine wp_putX fX2_117 (atd dX2_findOpening 2 rfl) hGm rfl (Nat.le_of_ble_eq_true rfl) (fun σ f_2 hGm => ?_)
  have hG := hG.fr f_2 (by first | decide | (simp only [List.mem_cons, List.not_mem_nil, or_false]; omega))
  have hN := hN.fr f_2 (by first | decide | (simp only [List.mem_cons, List.not_mem_nil, or_false]; omega))
  have hNA := hNA.fr f_2 (by first | decide | (simp only [List.mem_cons, List.not_mem_nil, or_false]; omega))
  have hT := hT.fr f_2 ⟨by simp only [List.mem_cons, List.not_mem_nil, or_false]; omega, by simp only [List.mem_cons, List.not_mem_nil, or_false]; omega, by simp only [List.mem_cons, List.not_mem_nil, or_false]; omega⟩
  have hLR := hLR.fr f_2 ⟨by simp only [List.mem_cons, List.not_mem_nil, or_false]; omega, by simp only [List.mem_cons, List.not_mem_nil, or_false]; omega⟩
  have hFS := hFS.fr f_2 ⟨by simp only [List.mem_cons, List.not_mem_nil, or_false]; omega, by simp only [List.mem_cons, List.not_mem_nil, or_false]; omega, by simp only [List.mem_cons, List.not_mem_nil, or_false]; omega⟩
  have hW := hW.fr f_2 (by first | decide | (simp only [List.mem_cons, List.not_mem_nil, or_false]; omega))
  have hWo := hWo.fr f_2 (by first | decide | (simp only [List.mem_cons, List.not_mem_nil, or_false]; omega))
  have hF := hF.tr f_2 (by simp)
  refine wp_aload_n (atd dX2_findOpening 3 rfl) rfl rfl ?_
  refine wp_iconst (v := nI 0) (atd dX2_findOpening 4 rfl) (by decide) ?_
  refine wp_putX fX2_120 (atd dX2_findOpening 5 rfl) hGm rfl (Nat.le_of_ble_eq_true rfl) (fun σ f_7 hGm => ?_)
  have hG := hG.fr f_7 (by first | decide | (simp only [List.mem_cons, List.not_mem_nil, or_false]; omega))
  have hN := hN.fr f_7 (by first | decide | (simp only [List.mem_cons, List.not_mem_nil, or_false]; omega))
  have hNA := hNA.fr f_7 (by first | decide | (simp only [List.mem_cons, List.not_mem_nil, or_false]; omega))
  have hT := hT.fr f_7 ⟨by simp only [List.mem_cons, List.not_mem_nil, or_false]; omega, by simp only [List.mem_cons, List.not_mem_nil, or_false]; omega, by simp only [List.mem_cons, List.not_mem_nil, or_false]; omega⟩
  have hLR := hLR.fr f_7 ⟨by simp only [List.mem_cons, List.not_mem_nil, or_false]; omega, by simp only [List.mem_cons, List.not_mem_nil, or_false]; omega⟩
  have hFS := hFS.fr f_7 ⟨by simp only [List.mem_cons, List.not_mem_nil, or_false]; omega, by simp only [List.mem_cons, List.not_mem_nil, or_false]; omega, by simp only [List.mem_cons, List.not_mem_nil, or_false]; omega⟩
  have hW := hW.fr f_7 (by first | decide | (simp only [List.mem_cons, List.not_mem_nil, or_false]; omega))
  have hWo := hWo.fr f_7 (by first | decide | (simp only [List.mem_cons, List.not_mem_nil, or_false]; omega))
  have hF := hF.tr f_7 (by simp)
  refine wp_ldc (v := nI 1000000) (atd dX2_findOpening 6 rfl) qX2_123 ?_
  refine wp_istore_n (atd dX2_findOpening 7 rfl) (Nat.le_of_ble_eq_true rfl) ?_
  refine wp_aload_n (atd dX2_findOpening 8 rfl) rfl rfl ?_
  refine wp_get fX2_68 (atd dX2_findOpening 9 rfl) hGm rfl ?_
  refine wp_istore_n (atd dX2_findOpening 10 rfl) (Nat.le_of_ble_eq_true rfl) ?_
  exact lX2_findOpening (by omega) hn hw hf2 hww hwn hwb hap haa hwa hak (f2 - f) f _ (none, 0, 1000000) _ (by omega) (Nat.le_refl _) hG hN hNA hGm hT hLR hFS hW hWo hF rfl (by decide) (fun y hy => by cases hy) (by show 0 ≤ _; omega)
def w00 (n x : Nat) : Nat := if dif (sdC x) (2 ^ n - 1) = 0 then sdC x else 0
theorem w00_lt (n x : Nat) : w00 n x < 512 := by
  unfold w00
  split
  · exact sdC_lt x
  · decide
theorem lX2_solve1 {G : Gx} {d : Nat} {Q : Option Value → Hp → Prop} (hd : 2 ≤ d) {σ0 : Hp} {g kn n a kd f f2 wa : Nat} {nb : Nat → Nat} {rd op tn rf hp : Int32} (hn : n ≤ 9) (hw : ∀ p, nb p < 512) (hf2 : f2 ≤ 219) (hap : kn + 1 < g ∨ g + 12 < kn) (haa : a < g ∨ g + 12 < a) (hwa : (wa < g ∨ g + 12 < wa) ∧ wa ≠ a ∧ wa ≠ kn ∧ wa ≠ kn + 1) (hak : a ≠ kn ∧ a ≠ kn + 1) {y3 : Value} {T : Nat} {l : List Nat} (hk : ∀ (σ : Hp) (w hl nw : Nat → Nat) (wo : Nat → Option Nat), OB σ g 2 (ggF g kn) → OB σ kn 3 [.int (nI n), .ref (kn + 1)] → AI σ (kn + 1) 9 nb → OB σ a 1 (gaF kd f f2 rd (.ref wa) op tn rf hp) → RT σ (g + 1) → LR σ (g + 1) nb → FS σ (g + 1) T l → AI σ (g + 10) 219 w → AI σ (g + 11) 219 hl → AI σ (g + 12) 219 nw → AO σ wa ((f2 - f) * 9) wo → fr [g + 1, g + 7, g + 8, g + 10, g + 11, g + 12, wa] σ0 σ → (∀ y, w y < 512) → (∀ y, hl y < 512) → (∀ y, nw y < 512) → (∀ y, f ≤ y → y < f2 → w y = w00 n y ∧ hl y = 0 ∧ nw y = 0) → (∀ y p, f ≤ y → y < f2 → p < 9 → wo ((y - f) * 9 + p) = if (w00 n y).testBit p = true then some 0 else none) → Wp G mX2_solve d 75 [.ref g, .ref a, .int (nI f2), y3] [] σ 0 0 Q) : ∀ (k : Nat) (x : Nat) (σ : Hp) (w hl nw : Nat → Nat) (wo : Nat → Option Nat), x + k = f2 → f ≤ x → OB σ g 2 (ggF g kn) → OB σ kn 3 [.int (nI n), .ref (kn + 1)] → AI σ (kn + 1) 9 nb → OB σ a 1 (gaF kd f f2 rd (.ref wa) op tn rf hp) → RT σ (g + 1) → LR σ (g + 1) nb → FS σ (g + 1) T l → AI σ (g + 10) 219 w → AI σ (g + 11) 219 hl → AI σ (g + 12) 219 nw → AO σ wa ((f2 - f) * 9) wo → fr [g + 1, g + 7, g + 8, g + 10, g + 11, g + 12, wa] σ0 σ → (∀ y, w y < 512) → (∀ y, hl y < 512) → (∀ y, nw y < 512) → (∀ y, f ≤ y → y < x → w y = w00 n y ∧ hl y = 0 ∧ nw y = 0) → (∀ y p, f ≤ y → y < f2 → p < 9 → wo ((y - f) * 9 + p) = if y < x ∧ (w00 n y).testBit p = true then some 0 else none) → Wp G mX2_solve d 9 [.ref g, .ref a, .int (nI x), y3] [] σ 0 0 Q := by
  obtain ⟨d0, hdd⟩ : ∃ e, d = e + 1 := ⟨d - 1, by omega⟩
  intro k
  induction k with
  | zero =>
    intro x σ w hl nw wo h hfx hG hN hNA hGm hT hLR hFS hW hH hNw hWo hF b1 b2 b3 i1 i2
    obtain rfl : x = f2 := by omega
    refine wp_iload_n (atd dX2_solve 5 rfl) rfl ?_
    refine wp_aload_n (atd dX2_solve 6 rfl) rfl rfl ?_
    refine wp_get fX2_71 (atd dX2_solve 7 rfl) hGm rfl ?_
    refine wp_icmpN_ge (tgt := 75) (atd dX2_solve 8 rfl) (by decide) (by omega) (by omega) (fun c_14 => ?_) (fun c_14 => ?_)
    ·
      exact hk σ w hl nw wo hG hN hNA hGm hT hLR hFS hW hH hNw hWo hF b1 b2 b3 i1 (fun y p h1 h2 hp => by rw [i2 y p h1 h2 hp]; simp only [h2, true_and])
    · exfalso; omega
  | succ k ih =>
    intro x σ w hl nw wo h hfx hG hN hNA hGm hT hLR hFS hW hH hNw hWo hF b1 b2 b3 i1 i2
    refine wp_iload_n (atd dX2_solve 5 rfl) rfl ?_
    refine wp_aload_n (atd dX2_solve 6 rfl) rfl rfl ?_
    refine wp_get fX2_71 (atd dX2_solve 7 rfl) hGm rfl ?_
    refine wp_icmpN_ge (tgt := 75) (atd dX2_solve 8 rfl) (by decide) (by omega) (by omega) (fun c_14 => ?_) (fun c_14 => ?_)
    · exfalso; omega
    ·
      refine wp_aload_n (atd dX2_solve 9 rfl) rfl rfl ?_
      refine wp_get fX2_24 (atd dX2_solve 10 rfl) hG rfl ?_
      refine wp_iload_n (atd dX2_solve 11 rfl) rfl ?_
      refine wp_aload_n (atd dX2_solve 12 rfl) rfl rfl ?_
      refine wp_iload_n (atd dX2_solve 13 rfl) rfl ?_
      refine wp_cVi hdd [_] (atd dX2_solve 14 rfl) iX2_isOnNet lX2_74 rfl rfl (Nat.le_of_ble_eq_true rfl) hG rfl (eX2_isOnNet (by omega) hN hNA hn hw hG hFS.ob hT (by omega)) (fun r_24 s_24 h_24 => ?_)
      obtain ⟨rfl, e_24⟩ := h_24
      obtain rfl := e_24.symm
      refine wp_ifB_eq (tgt := 41) (atd dX2_solve 15 rfl) (by decide) (fun c_27 => ?_) (fun c_27 => ?_)
      ·
        refine wp_iconst (v := nI 0) (atd dX2_solve 21 rfl) (by decide) ?_
        refine wp_iastA (atd dX2_solve 22 rfl) hW (by omega) (Nat.le_of_ble_eq_true rfl) (fun σ f_42 hW => ?_)
        have hG := hG.fr f_42 (by first | decide | (simp only [List.mem_cons, List.not_mem_nil, or_false]; omega))
        have hN := hN.fr f_42 (by first | decide | (simp only [List.mem_cons, List.not_mem_nil, or_false]; omega))
        have hNA := hNA.fr f_42 (by first | decide | (simp only [List.mem_cons, List.not_mem_nil, or_false]; omega))
        have hGm := hGm.fr f_42 (by first | decide | (simp only [List.mem_cons, List.not_mem_nil, or_false]; omega))
        have hT := hT.fr f_42 ⟨by simp only [List.mem_cons, List.not_mem_nil, or_false]; omega, by simp only [List.mem_cons, List.not_mem_nil, or_false]; omega, by simp only [List.mem_cons, List.not_mem_nil, or_false]; omega⟩
        have hLR := hLR.fr f_42 ⟨by simp only [List.mem_cons, List.not_mem_nil, or_false]; omega, by simp only [List.mem_cons, List.not_mem_nil, or_false]; omega⟩
        have hFS := hFS.fr f_42 ⟨by simp only [List.mem_cons, List.not_mem_nil, or_false]; omega, by simp only [List.mem_cons, List.not_mem_nil, or_false]; omega, by simp only [List.mem_cons, List.not_mem_nil, or_false]; omega⟩
        have hH := hH.fr f_42 (by first | decide | (simp only [List.mem_cons, List.not_mem_nil, or_false]; omega))
        have hNw := hNw.fr f_42 (by first | decide | (simp only [List.mem_cons, List.not_mem_nil, or_false]; omega))
        have hWo := hWo.fr f_42 (by first | decide | (simp only [List.mem_cons, List.not_mem_nil, or_false]; omega))
        have hF := hF.tr f_42 (by simp)
        refine wp_aload_n (atd dX2_solve 23 rfl) rfl rfl ?_
        refine wp_get fX2_28 (atd dX2_solve 24 rfl) hG rfl ?_
        refine wp_iload_n (atd dX2_solve 25 rfl) rfl ?_
        refine wp_iconst (v := nI 0) (atd dX2_solve 26 rfl) (by decide) ?_
        refine wp_iastA (atd dX2_solve 27 rfl) hH (by omega) (Nat.le_of_ble_eq_true rfl) (fun σ f_49 hH => ?_)
        have hG := hG.fr f_49 (by first | decide | (simp only [List.mem_cons, List.not_mem_nil, or_false]; omega))
        have hN := hN.fr f_49 (by first | decide | (simp only [List.mem_cons, List.not_mem_nil, or_false]; omega))
        have hNA := hNA.fr f_49 (by first | decide | (simp only [List.mem_cons, List.not_mem_nil, or_false]; omega))
        have hGm := hGm.fr f_49 (by first | decide | (simp only [List.mem_cons, List.not_mem_nil, or_false]; omega))
        have hT := hT.fr f_49 ⟨by simp only [List.mem_cons, List.not_mem_nil, or_false]; omega, by simp only [List.mem_cons, List.not_mem_nil, or_false]; omega, by simp only [List.mem_cons, List.not_mem_nil, or_false]; omega⟩
        have hLR := hLR.fr f_49 ⟨by simp only [List.mem_cons, List.not_mem_nil, or_false]; omega, by simp only [List.mem_cons, List.not_mem_nil, or_false]; omega⟩
        have hFS := hFS.fr f_49 ⟨by simp only [List.mem_cons, List.not_mem_nil, or_false]; omega, by simp only [List.mem_cons, List.not_mem_nil, or_false]; omega, by simp only [List.mem_cons, List.not_mem_nil, or_false]; omega⟩
        have hW := hW.fr f_49 (by first | decide | (simp only [List.mem_cons, List.not_mem_nil, or_false]; omega))
        have hNw := hNw.fr f_49 (by first | decide | (simp only [List.mem_cons, List.not_mem_nil, or_false]; omega))
        have hWo := hWo.fr f_49 (by first | decide | (simp only [List.mem_cons, List.not_mem_nil, or_false]; omega))
        have hF := hF.tr f_49 (by simp)
        refine wp_aload_n (atd dX2_solve 28 rfl) rfl rfl ?_
        refine wp_get fX2_31 (atd dX2_solve 29 rfl) hG rfl ?_
        refine wp_iload_n (atd dX2_solve 30 rfl) rfl ?_
        refine wp_iconst (v := nI 0) (atd dX2_solve 31 rfl) (by decide) ?_
        refine wp_iastA (atd dX2_solve 32 rfl) hNw (by omega) (Nat.le_of_ble_eq_true rfl) (fun σ f_56 hNw => ?_)
        have hG := hG.fr f_56 (by first | decide | (simp only [List.mem_cons, List.not_mem_nil, or_false]; omega))
        have hN := hN.fr f_56 (by first | decide | (simp only [List.mem_cons, List.not_mem_nil, or_false]; omega))
        have hNA := hNA.fr f_56 (by first | decide | (simp only [List.mem_cons, List.not_mem_nil, or_false]; omega))
        have hGm := hGm.fr f_56 (by first | decide | (simp only [List.mem_cons, List.not_mem_nil, or_false]; omega))
        have hT := hT.fr f_56 ⟨by simp only [List.mem_cons, List.not_mem_nil, or_false]; omega, by simp only [List.mem_cons, List.not_mem_nil, or_false]; omega, by simp only [List.mem_cons, List.not_mem_nil, or_false]; omega⟩
        have hLR := hLR.fr f_56 ⟨by simp only [List.mem_cons, List.not_mem_nil, or_false]; omega, by simp only [List.mem_cons, List.not_mem_nil, or_false]; omega⟩
        have hFS := hFS.fr f_56 ⟨by simp only [List.mem_cons, List.not_mem_nil, or_false]; omega, by simp only [List.mem_cons, List.not_mem_nil, or_false]; omega, by simp only [List.mem_cons, List.not_mem_nil, or_false]; omega⟩
        have hW := hW.fr f_56 (by first | decide | (simp only [List.mem_cons, List.not_mem_nil, or_false]; omega))
        have hH := hH.fr f_56 (by first | decide | (simp only [List.mem_cons, List.not_mem_nil, or_false]; omega))
        have hWo := hWo.fr f_56 (by first | decide | (simp only [List.mem_cons, List.not_mem_nil, or_false]; omega))
        have hF := hF.tr f_56 (by simp)
        refine wp_aload_n (atd dX2_solve 33 rfl) rfl rfl ?_
        refine wp_iload_n (atd dX2_solve 34 rfl) rfl ?_
        refine wp_aload_n (atd dX2_solve 35 rfl) rfl rfl ?_
        refine wp_get fX2_24 (atd dX2_solve 36 rfl) hG rfl ?_
        refine wp_iload_n (atd dX2_solve 37 rfl) rfl ?_
        refine wp_ialdA (atd dX2_solve 38 rfl) hW (by omega) (Nat.le_of_ble_eq_true rfl) ?_
        refine wp_iconst (v := nI 0) (atd dX2_solve 39 rfl) (by decide) ?_
        refine wp_cVv hdd [_, _, _] (atd dX2_solve 40 rfl) iX1_setWorth lX2_82 rfl rfl (Nat.le_of_ble_eq_true rfl) hGm rfl (eX1_setWorth (by omega) hGm hWo hf2 (fun e => hwa.2.1 e.symm) hfx (by omega) (by simp only [va_up, if_true]; decide)) (fun s_66 h_66 => ?_)
        obtain ⟨f_66, hWo⟩ := h_66
        have hG := hG.fr f_66 (by first | decide | (simp only [List.mem_cons, List.not_mem_nil, or_false]; omega))
        have hN := hN.fr f_66 (by first | decide | (simp only [List.mem_cons, List.not_mem_nil, or_false]; omega))
        have hNA := hNA.fr f_66 (by first | decide | (simp only [List.mem_cons, List.not_mem_nil, or_false]; omega))
        have hGm := hGm.fr f_66 (by first | decide | (simp only [List.mem_cons, List.not_mem_nil, or_false]; omega))
        have hT := hT.fr f_66 ⟨by simp only [List.mem_cons, List.not_mem_nil, or_false]; omega, by simp only [List.mem_cons, List.not_mem_nil, or_false]; omega, by simp only [List.mem_cons, List.not_mem_nil, or_false]; omega⟩
        have hLR := hLR.fr f_66 ⟨by simp only [List.mem_cons, List.not_mem_nil, or_false]; omega, by simp only [List.mem_cons, List.not_mem_nil, or_false]; omega⟩
        have hFS := hFS.fr f_66 ⟨by simp only [List.mem_cons, List.not_mem_nil, or_false]; omega, by simp only [List.mem_cons, List.not_mem_nil, or_false]; omega, by simp only [List.mem_cons, List.not_mem_nil, or_false]; omega⟩
        have hW := hW.fr f_66 (by first | decide | (simp only [List.mem_cons, List.not_mem_nil, or_false]; omega))
        have hH := hH.fr f_66 (by first | decide | (simp only [List.mem_cons, List.not_mem_nil, or_false]; omega))
        have hNw := hNw.fr f_66 (by first | decide | (simp only [List.mem_cons, List.not_mem_nil, or_false]; omega))
        have hF := hF.tr f_66 (by simp)
        refine wp_iincN (c := 1) (atd dX2_solve 41 rfl) rfl ?_
        refine wp_goto (tgt := 9) (atd dX2_solve 42 rfl) (by decide) ?_
        have hwx : w00 n x = 0 := by rw [w00, if_neg c_27]
        refine ih (x + 1) _ _ _ _ _ (by omega) (by omega) hG hN hNA hGm hT hLR hFS hW hH hNw hWo hF (up_lt b1 (by decide)) (up_lt b2 (by decide)) (up_lt b3 (by decide)) (fun y h1 h2 => ?_) (fun y p h1 h2 hp => ?_)
        · by_cases e : y = x
          · subst e; simp only [va_up, if_true]; exact ⟨hwx.symm, trivial, trivial⟩
          · simp only [va_up, if_neg e]; exact i1 y h1 (by omega)
        · show stW wo _ _ _ _ = _
          unfold stW
          by_cases e : y = x
          · subst e
            by_cases hb : (w00 n y).testBit p = true
            · rw [if_pos ⟨by omega, by omega, by rw [Nat.add_sub_cancel_left]; simp only [va_up, if_true]; rw [← hwx]; exact hb⟩, if_pos ⟨by omega, hb⟩]
            · rw [if_neg (fun z => hb (by have z := z.2.2; rw [Nat.add_sub_cancel_left] at z; simp only [va_up, if_true] at z; rw [hwx]; exact z)), if_neg (fun z => hb z.2), i2 y p h1 h2 hp, if_neg (fun z => by omega)]
          · rw [if_neg (fun z => idx_ne hp hp hfx h1 (fun q => e q.symm) ⟨z.1, z.2.1⟩), i2 y p h1 h2 hp]
            have : (y < x ↔ y < x + 1) := by omega
            simp only [this]
      ·
        refine wp_aload_n (atd dX2_solve 16 rfl) rfl rfl ?_
        refine wp_get fX2_12 (atd dX2_solve 17 rfl) hG rfl ?_
        refine wp_iload_n (atd dX2_solve 18 rfl) rfl ?_
        refine wp_cVi hdd [_] (atd dX2_solve 19 rfl) iX5_standBits lX2_78 rfl rfl (Nat.le_of_ble_eq_true rfl) hFS.ob rfl (eX5_standBits (by omega) hFS.ob hT (by omega)) (fun r_35 s_35 h_35 => ?_)
        obtain ⟨rfl, e_35⟩ := h_35
        obtain rfl := e_35.symm
        refine wp_goto (tgt := 42) (atd dX2_solve 20 rfl) (by decide) ?_
        refine wp_iastA (atd dX2_solve 22 rfl) hW (by omega) (Nat.le_of_ble_eq_true rfl) (fun σ f_42 hW => ?_)
        have hG := hG.fr f_42 (by first | decide | (simp only [List.mem_cons, List.not_mem_nil, or_false]; omega))
        have hN := hN.fr f_42 (by first | decide | (simp only [List.mem_cons, List.not_mem_nil, or_false]; omega))
        have hNA := hNA.fr f_42 (by first | decide | (simp only [List.mem_cons, List.not_mem_nil, or_false]; omega))
        have hGm := hGm.fr f_42 (by first | decide | (simp only [List.mem_cons, List.not_mem_nil, or_false]; omega))
        have hT := hT.fr f_42 ⟨by simp only [List.mem_cons, List.not_mem_nil, or_false]; omega, by simp only [List.mem_cons, List.not_mem_nil, or_false]; omega, by simp only [List.mem_cons, List.not_mem_nil, or_false]; omega⟩
        have hLR := hLR.fr f_42 ⟨by simp only [List.mem_cons, List.not_mem_nil, or_false]; omega, by simp only [List.mem_cons, List.not_mem_nil, or_false]; omega⟩
        have hFS := hFS.fr f_42 ⟨by simp only [List.mem_cons, List.not_mem_nil, or_false]; omega, by simp only [List.mem_cons, List.not_mem_nil, or_false]; omega, by simp only [List.mem_cons, List.not_mem_nil, or_false]; omega⟩
        have hH := hH.fr f_42 (by first | decide | (simp only [List.mem_cons, List.not_mem_nil, or_false]; omega))
        have hNw := hNw.fr f_42 (by first | decide | (simp only [List.mem_cons, List.not_mem_nil, or_false]; omega))
        have hWo := hWo.fr f_42 (by first | decide | (simp only [List.mem_cons, List.not_mem_nil, or_false]; omega))
        have hF := hF.tr f_42 (by simp)
        refine wp_aload_n (atd dX2_solve 23 rfl) rfl rfl ?_
        refine wp_get fX2_28 (atd dX2_solve 24 rfl) hG rfl ?_
        refine wp_iload_n (atd dX2_solve 25 rfl) rfl ?_
        refine wp_iconst (v := nI 0) (atd dX2_solve 26 rfl) (by decide) ?_
        refine wp_iastA (atd dX2_solve 27 rfl) hH (by omega) (Nat.le_of_ble_eq_true rfl) (fun σ f_49 hH => ?_)
        have hG := hG.fr f_49 (by first | decide | (simp only [List.mem_cons, List.not_mem_nil, or_false]; omega))
        have hN := hN.fr f_49 (by first | decide | (simp only [List.mem_cons, List.not_mem_nil, or_false]; omega))
        have hNA := hNA.fr f_49 (by first | decide | (simp only [List.mem_cons, List.not_mem_nil, or_false]; omega))
        have hGm := hGm.fr f_49 (by first | decide | (simp only [List.mem_cons, List.not_mem_nil, or_false]; omega))
        have hT := hT.fr f_49 ⟨by simp only [List.mem_cons, List.not_mem_nil, or_false]; omega, by simp only [List.mem_cons, List.not_mem_nil, or_false]; omega, by simp only [List.mem_cons, List.not_mem_nil, or_false]; omega⟩
        have hLR := hLR.fr f_49 ⟨by simp only [List.mem_cons, List.not_mem_nil, or_false]; omega, by simp only [List.mem_cons, List.not_mem_nil, or_false]; omega⟩
        have hFS := hFS.fr f_49 ⟨by simp only [List.mem_cons, List.not_mem_nil, or_false]; omega, by simp only [List.mem_cons, List.not_mem_nil, or_false]; omega, by simp only [List.mem_cons, List.not_mem_nil, or_false]; omega⟩
        have hW := hW.fr f_49 (by first | decide | (simp only [List.mem_cons, List.not_mem_nil, or_false]; omega))
        have hNw := hNw.fr f_49 (by first | decide | (simp only [List.mem_cons, List.not_mem_nil, or_false]; omega))
        have hWo := hWo.fr f_49 (by first | decide | (simp only [List.mem_cons, List.not_mem_nil, or_false]; omega))
        have hF := hF.tr f_49 (by simp)
        refine wp_aload_n (atd dX2_solve 28 rfl) rfl rfl ?_
        refine wp_get fX2_31 (atd dX2_solve 29 rfl) hG rfl ?_
        refine wp_iload_n (atd dX2_solve 30 rfl) rfl ?_
        refine wp_iconst (v := nI 0) (atd dX2_solve 31 rfl) (by decide) ?_
        refine wp_iastA (atd dX2_solve 32 rfl) hNw (by omega) (Nat.le_of_ble_eq_true rfl) (fun σ f_56 hNw => ?_)
        have hG := hG.fr f_56 (by first | decide | (simp only [List.mem_cons, List.not_mem_nil, or_false]; omega))
        have hN := hN.fr f_56 (by first | decide | (simp only [List.mem_cons, List.not_mem_nil, or_false]; omega))
        have hNA := hNA.fr f_56 (by first | decide | (simp only [List.mem_cons, List.not_mem_nil, or_false]; omega))
        have hGm := hGm.fr f_56 (by first | decide | (simp only [List.mem_cons, List.not_mem_nil, or_false]; omega))
        have hT := hT.fr f_56 ⟨by simp only [List.mem_cons, List.not_mem_nil, or_false]; omega, by simp only [List.mem_cons, List.not_mem_nil, or_false]; omega, by simp only [List.mem_cons, List.not_mem_nil, or_false]; omega⟩
        have hLR := hLR.fr f_56 ⟨by simp only [List.mem_cons, List.not_mem_nil, or_false]; omega, by simp only [List.mem_cons, List.not_mem_nil, or_false]; omega⟩
        have hFS := hFS.fr f_56 ⟨by simp only [List.mem_cons, List.not_mem_nil, or_false]; omega, by simp only [List.mem_cons, List.not_mem_nil, or_false]; omega, by simp only [List.mem_cons, List.not_mem_nil, or_false]; omega⟩
        have hW := hW.fr f_56 (by first | decide | (simp only [List.mem_cons, List.not_mem_nil, or_false]; omega))
        have hH := hH.fr f_56 (by first | decide | (simp only [List.mem_cons, List.not_mem_nil, or_false]; omega))
        have hWo := hWo.fr f_56 (by first | decide | (simp only [List.mem_cons, List.not_mem_nil, or_false]; omega))
        have hF := hF.tr f_56 (by simp)
        refine wp_aload_n (atd dX2_solve 33 rfl) rfl rfl ?_
        refine wp_iload_n (atd dX2_solve 34 rfl) rfl ?_
        refine wp_aload_n (atd dX2_solve 35 rfl) rfl rfl ?_
        refine wp_get fX2_24 (atd dX2_solve 36 rfl) hG rfl ?_
        refine wp_iload_n (atd dX2_solve 37 rfl) rfl ?_
        refine wp_ialdA (atd dX2_solve 38 rfl) hW (by omega) (Nat.le_of_ble_eq_true rfl) ?_
        refine wp_iconst (v := nI 0) (atd dX2_solve 39 rfl) (by decide) ?_
        refine wp_cVv hdd [_, _, _] (atd dX2_solve 40 rfl) iX1_setWorth lX2_82 rfl rfl (Nat.le_of_ble_eq_true rfl) hGm rfl (eX1_setWorth (by omega) hGm hWo hf2 (fun e => hwa.2.1 e.symm) hfx (by omega) (by simp only [va_up, if_true]; exact sdC_lt x)) (fun s_66 h_66 => ?_)
        obtain ⟨f_66, hWo⟩ := h_66
        have hG := hG.fr f_66 (by first | decide | (simp only [List.mem_cons, List.not_mem_nil, or_false]; omega))
        have hN := hN.fr f_66 (by first | decide | (simp only [List.mem_cons, List.not_mem_nil, or_false]; omega))
        have hNA := hNA.fr f_66 (by first | decide | (simp only [List.mem_cons, List.not_mem_nil, or_false]; omega))
        have hGm := hGm.fr f_66 (by first | decide | (simp only [List.mem_cons, List.not_mem_nil, or_false]; omega))
        have hT := hT.fr f_66 ⟨by simp only [List.mem_cons, List.not_mem_nil, or_false]; omega, by simp only [List.mem_cons, List.not_mem_nil, or_false]; omega, by simp only [List.mem_cons, List.not_mem_nil, or_false]; omega⟩
        have hLR := hLR.fr f_66 ⟨by simp only [List.mem_cons, List.not_mem_nil, or_false]; omega, by simp only [List.mem_cons, List.not_mem_nil, or_false]; omega⟩
        have hFS := hFS.fr f_66 ⟨by simp only [List.mem_cons, List.not_mem_nil, or_false]; omega, by simp only [List.mem_cons, List.not_mem_nil, or_false]; omega, by simp only [List.mem_cons, List.not_mem_nil, or_false]; omega⟩
        have hW := hW.fr f_66 (by first | decide | (simp only [List.mem_cons, List.not_mem_nil, or_false]; omega))
        have hH := hH.fr f_66 (by first | decide | (simp only [List.mem_cons, List.not_mem_nil, or_false]; omega))
        have hNw := hNw.fr f_66 (by first | decide | (simp only [List.mem_cons, List.not_mem_nil, or_false]; omega))
        have hF := hF.tr f_66 (by simp)
        refine wp_iincN (c := 1) (atd dX2_solve 41 rfl) rfl ?_
        refine wp_goto (tgt := 9) (atd dX2_solve 42 rfl) (by decide) ?_
        have hwx : w00 n x = sdC x := by rw [w00, if_pos c_27]
        refine ih (x + 1) _ _ _ _ _ (by omega) (by omega) hG hN hNA hGm hT hLR hFS hW hH hNw hWo hF (up_lt b1 (sdC_lt x)) (up_lt b2 (by decide)) (up_lt b3 (by decide)) (fun y h1 h2 => ?_) (fun y p h1 h2 hp => ?_)
        · by_cases e : y = x
          · subst e; simp only [va_up, if_true]; exact ⟨hwx.symm, trivial, trivial⟩
          · simp only [va_up, if_neg e]; exact i1 y h1 (by omega)
        · show stW wo _ _ _ _ = _
          unfold stW
          by_cases e : y = x
          · subst e
            by_cases hb : (w00 n y).testBit p = true
            · rw [if_pos ⟨by omega, by omega, by rw [Nat.add_sub_cancel_left]; simp only [va_up, if_true]; rw [← hwx]; exact hb⟩, if_pos ⟨by omega, hb⟩]
            · rw [if_neg (fun z => hb (by have z := z.2.2; rw [Nat.add_sub_cancel_left] at z; simp only [va_up, if_true] at z; rw [hwx]; exact z)), if_neg (fun z => hb z.2), i2 y p h1 h2 hp, if_neg (fun z => by omega)]
          · rw [if_neg (fun z => idx_ne hp hp hfx h1 (fun q => e q.symm) ⟨z.1, z.2.1⟩), i2 y p h1 h2 hp]
            have : (y < x ↔ y < x + 1) := by omega
            simp only [this]
/-- what a round of solving does to the numbers -/
def rndS (nb : Nat → Nat) (n kd f f2 t : Nat) (w hl nw : Nat → Nat) (wo : Nat → Option Nat) (w2 hl2 nw1 : Nat → Nat) (wo2 : Nat → Option Nat) : Prop := (∀ y, f ≤ y → y < f2 → hl2 y = hl y ||| frs nb n kd w hl y) ∧ (∀ y p, y < 219 → ((nw1 y).testBit p = true ↔ (nw y).testBit p = true ∨ ∃ z, f ≤ z ∧ z < f2 ∧ (frs nb n kd w hl z).testBit p = true ∧ STP nb kd z y)) ∧ (∀ y, f ≤ y → y < f2 → w2 y = w y ||| nwf w nw1 y) ∧ (∀ y p, f ≤ y → y < f2 → p < 9 → wo2 ((y - f) * 9 + p) = if (nwf w nw1 y).testBit p = true then some (t + 1) else wo ((y - f) * 9 + p))
abbrev SvI : Type := Nat → (Nat → Nat) → (Nat → Nat) → (Nat → Option Nat) → Prop
def stpI (nb : Nat → Nat) (n kd f f2 : Nat) (I : SvI) : Prop := ∀ t w hl nw wo w2 hl2 nw1 wo2, I t w hl wo → (∀ y, f ≤ y → y < f2 → nw y = 0) → rndS nb n kd f f2 t w hl nw wo w2 hl2 nw1 wo2 → I (t + 1) w2 hl2 wo2
def endI (nb : Nat → Nat) (n kd f f2 : Nat) (I : SvI) (Fin : (Nat → Nat) → (Nat → Option Nat) → Prop) : Prop := ∀ t w hl nw wo w2 hl2 nw1 wo2, I t w hl wo → (∀ y, f ≤ y → y < f2 → nw y = 0) → rndS nb n kd f f2 t w hl nw wo w2 hl2 nw1 wo2 → ¬ ((∃ y, f ≤ y ∧ y < f2 ∧ nwf w nw1 y ≠ 0) ∧ ∃ y, f ≤ y ∧ y < f2 ∧ ON n y ∧ w y ||| nwf w nw1 y ≠ 2 ^ n - 1) → Fin w2 wo2
def capI (I : SvI) (Fin : (Nat → Nat) → (Nat → Option Nat) → Prop) : Prop := ∀ w hl wo, I 1486 w hl wo → Fin w wo
def gdI (nb : Nat → Nat) (n kd f f2 : Nat) (I : SvI) : Prop := ∀ t w hl wo, I t w hl wo → ∀ x, f ≤ x → x < f2 → frs nb n kd w hl x ≠ 0 → gdX nb f f2 x
theorem lX2_solve2 {G : Gx} {d : Nat} (hd : 4 ≤ d) {σ0 : Hp} {g kn n a kd f f2 wa : Nat} {nb : Nat → Nat} {rd op tn rf hp : Int32} (hn : n ≤ 9) (hw : ∀ p, nb p < 512) (hf2 : f2 ≤ 219) (hap : kn + 1 < g ∨ g + 12 < kn) (haa : a < g ∨ g + 12 < a) (hwa : (wa < g ∨ g + 12 < wa) ∧ wa ≠ a ∧ wa ≠ kn ∧ wa ≠ kn + 1) (hak : a ≠ kn ∧ a ≠ kn + 1) {I : SvI} {Fin : (Nat → Nat) → (Nat → Option Nat) → Prop} {T0 : Nat} (hkd : kd < 3) (hff : f ≤ f2) (hf3 : f2 ≤ f + 165) (hT0 : T0 + 1486 * (f2 - f) + 200 < 2 ^ 31) (hst : stpI nb n kd f f2 I) (hen : endI nb n kd f f2 I Fin) (hcap : capI I Fin) (hgd : gdI nb n kd f f2 I) : ∀ (k : Nat) (t : Nat) (σ : Hp) (w hl nw : Nat → Nat) (wo : Nat → Option Nat) (T : Nat) (l : List Nat) (b : Nat), t + k = 1486 → OB σ g 2 (ggF g kn) → OB σ kn 3 [.int (nI n), .ref (kn + 1)] → AI σ (kn + 1) 9 nb → OB σ a 1 (gaF kd f f2 rd (.ref wa) op tn rf hp) → RT σ (g + 1) → LR σ (g + 1) nb → FS σ (g + 1) T l → AI σ (g + 10) 219 w → AI σ (g + 11) 219 hl → AI σ (g + 12) 219 nw → AO σ wa ((f2 - f) * 9) wo → fr [g + 1, g + 7, g + 8, g + 10, g + 11, g + 12, wa] σ0 σ → (∀ y, w y < 512) → (∀ y, hl y < 512) → (∀ y, nw y < 512) → (∀ y, f ≤ y → y < f2 → nw y = 0) → T ≤ T0 + t * (f2 - f) → ((b = 1 ∧ I t w hl wo) ∨ (b = 0 ∧ Fin w wo)) → Wp G mX2_solve d 79 [.ref g, .ref a, .int (nI b), .int (nI (t + 1))] [] σ 0 0 (pV fun s => fr [g + 1, g + 7, g + 8, g + 10, g + 11, g + 12, wa] σ0 s ∧ RT s (g + 1) ∧ LR s (g + 1) nb ∧ (∃ T l, FS s (g + 1) T l ∧ T ≤ T0 + 1486 * (f2 - f)) ∧ ∃ w hl nw wo, AI s (g + 10) 219 w ∧ AI s (g + 11) 219 hl ∧ AI s (g + 12) 219 nw ∧ AO s wa ((f2 - f) * 9) wo ∧ (∀ y, w y < 512) ∧ (∀ y, hl y < 512) ∧ (∀ y, nw y < 512) ∧ Fin w wo) := by
  obtain ⟨d0, hdd⟩ : ∃ e, d = e + 1 := ⟨d - 1, by omega⟩
  intro k
  induction k with
  | zero =>
    intro t σ w hl nw wo T l b h hG hN hNA hGm hT hLR hFS hW hH hNw hWo hF b1 b2 b3 hz hTt hI
    have hmm : t * (f2 - f) ≤ 1486 * (f2 - f) := Nat.mul_le_mul_right _ (by omega)
    obtain rfl : t = 1486 := by omega
    refine wp_iload_n (atd dX2_solve 47 rfl) rfl ?_
    refine wp_sipush (v := nI 1486) (atd dX2_solve 48 rfl) (by decide) ?_
    refine wp_icmpN_gt (tgt := 108) (atd dX2_solve 49 rfl) (by decide) (by omega) (by omega) (fun c_83 => ?_) (fun c_83 => ?_)
    ·
      refine wp_vretv (atd dX2_solve 62 rfl) rfl ?_
      rcases hI with ⟨-, hI⟩ | ⟨-, hI⟩
      · exact ⟨hF, hT, hLR, ⟨T, l, hFS, by omega⟩, w, hl, nw, wo, hW, hH, hNw, hWo, b1, b2, b3, hcap w hl wo hI⟩
      · exact ⟨hF, hT, hLR, ⟨T, l, hFS, by omega⟩, w, hl, nw, wo, hW, hH, hNw, hWo, b1, b2, b3, hI⟩
    · exfalso; omega
  | succ k ih =>
    intro t σ w hl nw wo T l b h hG hN hNA hGm hT hLR hFS hW hH hNw hWo hF b1 b2 b3 hz hTt hI
    have hmm : t * (f2 - f) ≤ 1486 * (f2 - f) := Nat.mul_le_mul_right _ (by omega)
    refine wp_iload_n (atd dX2_solve 47 rfl) rfl ?_
    refine wp_sipush (v := nI 1486) (atd dX2_solve 48 rfl) (by decide) ?_
    refine wp_icmpN_gt (tgt := 108) (atd dX2_solve 49 rfl) (by decide) (by omega) (by omega) (fun c_83 => ?_) (fun c_83 => ?_)
    · exfalso; omega
    ·
      refine wp_iload_n (atd dX2_solve 50 rfl) rfl ?_
      refine wp_ifN_eq (tgt := 108) (atd dX2_solve 51 rfl) (by decide) (by rcases hI with z | z <;> omega) (fun c_87 => ?_) (fun c_87 => ?_)
      ·
        refine wp_vretv (atd dX2_solve 62 rfl) rfl ?_
        rcases hI with ⟨z, -⟩ | ⟨-, hI⟩
        · omega
        · exact ⟨hF, hT, hLR, ⟨T, l, hFS, by omega⟩, w, hl, nw, wo, hW, hH, hNw, hWo, b1, b2, b3, hI⟩
      ·
        have hI : I t w hl wo := hI.elim (fun z => z.2) (fun z => by omega)
        refine wp_aload_n (atd dX2_solve 52 rfl) rfl rfl ?_
        refine wp_aload_n (atd dX2_solve 53 rfl) rfl rfl ?_
        refine wp_cVv hdd [_] (atd dX2_solve 54 rfl) iX2_spreadHeld lX2_85 rfl rfl (Nat.le_of_ble_eq_true rfl) hG rfl (eX2_spreadHeld (by omega) hn hw hkd hff hf2 hf3 b1 b2 b3 hap haa (by omega) (hgd t w hl wo hI) hG hN hNA hGm hT hLR hFS hW hH hNw) (fun s_92 h_92 => ?_)
        obtain ⟨f_92, hT, hLR, ⟨T1, l1, hFS, hT1⟩, hl2, nw1, hH, hNw, b22, b23, s1, s2⟩ := h_92
        have hG := hG.fr f_92 (by first | decide | (simp only [List.mem_cons, List.not_mem_nil, or_false]; omega))
        have hN := hN.fr f_92 (by first | decide | (simp only [List.mem_cons, List.not_mem_nil, or_false]; omega))
        have hNA := hNA.fr f_92 (by first | decide | (simp only [List.mem_cons, List.not_mem_nil, or_false]; omega))
        have hGm := hGm.fr f_92 (by first | decide | (simp only [List.mem_cons, List.not_mem_nil, or_false]; omega))
        have hW := hW.fr f_92 (by first | decide | (simp only [List.mem_cons, List.not_mem_nil, or_false]; omega))
        have hWo := hWo.fr f_92 (by first | decide | (simp only [List.mem_cons, List.not_mem_nil, or_false]; omega))
        have hF := hF.tr f_92 (by simp)
        refine wp_aload_n (atd dX2_solve 55 rfl) rfl rfl ?_
        refine wp_aload_n (atd dX2_solve 56 rfl) rfl rfl ?_
        refine wp_iload_n (atd dX2_solve 57 rfl) rfl ?_
        refine wp_cVi hdd [_, _] (atd dX2_solve 58 rfl) iX2_takeNews lX2_88 rfl rfl (Nat.le_of_ble_eq_true rfl) hG rfl (eX2_takeNews (by omega) hn hw hff hf2 b1 b23 hap haa hwa hG hN hNA hGm hT hLR hFS hW hNw hWo (by omega)) (fun r_98 s_98 h_98 => ?_)
        obtain ⟨bb, rfl, hbb, f_98, w2, nw2, wo2, hW, hNw, hWo, s3, b21, b24, s4, s5⟩ := h_98
        have hG := hG.fr f_98 (by first | decide | (simp only [List.mem_cons, List.not_mem_nil, or_false]; omega))
        have hN := hN.fr f_98 (by first | decide | (simp only [List.mem_cons, List.not_mem_nil, or_false]; omega))
        have hNA := hNA.fr f_98 (by first | decide | (simp only [List.mem_cons, List.not_mem_nil, or_false]; omega))
        have hGm := hGm.fr f_98 (by first | decide | (simp only [List.mem_cons, List.not_mem_nil, or_false]; omega))
        have hT := hT.fr f_98 ⟨by simp only [List.mem_cons, List.not_mem_nil, or_false]; omega, by simp only [List.mem_cons, List.not_mem_nil, or_false]; omega, by simp only [List.mem_cons, List.not_mem_nil, or_false]; omega⟩
        have hLR := hLR.fr f_98 ⟨by simp only [List.mem_cons, List.not_mem_nil, or_false]; omega, by simp only [List.mem_cons, List.not_mem_nil, or_false]; omega⟩
        have hFS := hFS.fr f_98 ⟨by simp only [List.mem_cons, List.not_mem_nil, or_false]; omega, by simp only [List.mem_cons, List.not_mem_nil, or_false]; omega, by simp only [List.mem_cons, List.not_mem_nil, or_false]; omega⟩
        have hH := hH.fr f_98 (by first | decide | (simp only [List.mem_cons, List.not_mem_nil, or_false]; omega))
        have hF := hF.tr f_98 (by simp)
        refine wp_istore_n (atd dX2_solve 59 rfl) (Nat.le_of_ble_eq_true rfl) ?_
        refine wp_iincN (c := 1) (atd dX2_solve 60 rfl) rfl ?_
        refine wp_goto (tgt := 79) (atd dX2_solve 61 rfl) (by decide) ?_
        have hr : rndS nb n kd f f2 t w hl nw wo w2 hl2 nw1 wo2 := ⟨s1, s2, s3, s5⟩
        have hm2 : (t + 1) * (f2 - f) = t * (f2 - f) + (f2 - f) := by rw [Nat.add_mul, Nat.one_mul]
        refine ih (t + 1) _ w2 hl2 nw2 wo2 T1 l1 bb (by omega) hG hN hNA hGm hT hLR hFS hW hH hNw hWo hF b21 b22 b24 s4 (by omega) ?_
        by_cases e : bb = 1
        · exact Or.inl ⟨e, hst t w hl nw wo w2 hl2 nw1 wo2 hI hz hr⟩
        · exact Or.inr ⟨by have := hbb.1; omega, hen t w hl nw wo w2 hl2 nw1 wo2 hI hz hr (fun z => e (hbb.2.mpr z))⟩
theorem bX2_solve {G : Gx} {d : Nat} {σ : Hp} (hd : 4 ≤ d) {g kn n a kd f f2 wa : Nat} {nb : Nat → Nat} {rd op tn rf hp : Int32} (hn : n ≤ 9) (hw : ∀ p, nb p < 512) (hf2 : f2 ≤ 219) (hap : kn + 1 < g ∨ g + 12 < kn) (haa : a < g ∨ g + 12 < a) (hwa : (wa < g ∨ g + 12 < wa) ∧ wa ≠ a ∧ wa ≠ kn ∧ wa ≠ kn + 1) (hak : a ≠ kn ∧ a ≠ kn + 1) {y2 y3 : Value} {w hl nw : Nat → Nat} {T0 : Nat} {l : List Nat} {I : SvI} {Fin : (Nat → Nat) → (Nat → Option Nat) → Prop} (b1 : ∀ y, w y < 512) (b2 : ∀ y, hl y < 512) (b3 : ∀ y, nw y < 512) (hkd : kd < 3) (hff : f ≤ f2) (hf3 : f2 ≤ f + 165) (hT0 : T0 + 1486 * (f2 - f) + 200 < 2 ^ 31) (hst : stpI nb n kd f f2 I) (hen : endI nb n kd f f2 I Fin) (hcap : capI I Fin) (hgd : gdI nb n kd f f2 I) (h0 : ∀ w hl wo, (∀ y, f ≤ y → y < f2 → w y = w00 n y ∧ hl y = 0) → (∀ y p, f ≤ y → y < f2 → p < 9 → wo ((y - f) * 9 + p) = if (w00 n y).testBit p = true then some 0 else none) → I 0 w hl wo) (hG : OB σ g 2 (ggF g kn)) (hN : OB σ kn 3 [.int (nI n), .ref (kn + 1)]) (hNA : AI σ (kn + 1) 9 nb) (hT : RT σ (g + 1)) (hLR : LR σ (g + 1) nb) (hFS : FS σ (g + 1) T0 l) (hW : AI σ (g + 10) 219 w) (hH : AI σ (g + 11) 219 hl) (hNw : AI σ (g + 12) 219 nw) (hGm : OB σ a 1 (gaF kd f f2 rd (.ref wa) op tn rf hp)) (hWo : AO σ wa ((f2 - f) * 9) (fun _ => none)) : Wp G mX2_solve d 4 [.ref g, .ref a, y2, y3] [] σ 0 0 (pV fun s => fr [g + 1, g + 7, g + 8, g + 10, g + 11, g + 12, wa] σ s ∧ RT s (g + 1) ∧ LR s (g + 1) nb ∧ (∃ T l, FS s (g + 1) T l ∧ T ≤ T0 + 1486 * (f2 - f)) ∧ ∃ w hl nw wo, AI s (g + 10) 219 w ∧ AI s (g + 11) 219 hl ∧ AI s (g + 12) 219 nw ∧ AO s wa ((f2 - f) * 9) wo ∧ (∀ y, w y < 512) ∧ (∀ y, hl y < 512) ∧ (∀ y, nw y < 512) ∧ Fin w wo) := by
  obtain ⟨d0, hdd⟩ : ∃ e, d = e + 1 := ⟨d - 1, by omega⟩
  refine wp_aload_n (atd dX2_solve 2 rfl) rfl rfl ?_
  refine wp_get fX2_68 (atd dX2_solve 3 rfl) hGm rfl ?_
  refine wp_istore_n (atd dX2_solve 4 rfl) (Nat.le_of_ble_eq_true rfl) ?_
  refine lX2_solve1 (σ0 := σ) (T := T0) (l := l) (by omega) hn hw hf2 hap haa hwa hak (fun s1 w1 hl1 nw1 wo1 hG hN hNA hGm hT hLR hFS hW hH hNw hWo hF c1 c2 c3 i1 i2 => ?_) (f2 - f) f σ w hl nw _ (by omega) (Nat.le_refl _) hG hN hNA hGm hT hLR hFS hW hH hNw hWo fr.rf b1 b2 b3 (fun y h1 h2 => by omega) (fun y p h1 h2 hp => by rw [if_neg (fun z => by omega)])
  refine wp_iconst (v := nI 1) (atd dX2_solve 43 rfl) (by decide) ?_
  refine wp_istore_n (atd dX2_solve 44 rfl) (Nat.le_of_ble_eq_true rfl) ?_
  refine wp_iconst (v := nI 1) (atd dX2_solve 45 rfl) (by decide) ?_
  refine wp_istore_n (atd dX2_solve 46 rfl) (Nat.le_of_ble_eq_true rfl) ?_
  exact lX2_solve2 (by omega) hn hw hf2 hap haa hwa hak hkd hff hf3 hT0 hst hen hcap hgd 1486 0 s1 w1 hl1 nw1 wo1 T0 l 1 (by omega) hG hN hNA hGm hT hLR hFS hW hH hNw hWo hF c1 c2 c3 (fun y h1 h2 => (i1 y h1 h2).2.2) (by omega) (Or.inl ⟨rfl, h0 w1 hl1 wo1 (fun y h1 h2 => ⟨(i1 y h1 h2).1, (i1 y h1 h2).2.1⟩) i2⟩)
theorem eX2_solve1 {G : Gx} {d : Nat} {σ : Hp} (hd : 5 ≤ d) {g kn n a kd f f2 wa : Nat} {nb : Nat → Nat} {rd op tn rf hp : Int32} (hn : n ≤ 9) (hw : ∀ p, nb p < 512) (hf2 : f2 ≤ 219) (hap : kn + 1 < g ∨ g + 12 < kn) (haa : a < g ∨ g + 12 < a) (hwa : (wa < g ∨ g + 12 < wa) ∧ wa ≠ a ∧ wa ≠ kn ∧ wa ≠ kn + 1) (hak : a ≠ kn ∧ a ≠ kn + 1) {w hl nw : Nat → Nat} {T0 : Nat} {l : List Nat} {I : SvI} {Fin : (Nat → Nat) → (Nat → Option Nat) → Prop} (b1 : ∀ y, w y < 512) (b2 : ∀ y, hl y < 512) (b3 : ∀ y, nw y < 512) (hkd : kd < 3) (hff : f ≤ f2) (hf3 : f2 ≤ f + 165) (hT0 : T0 + 1486 * (f2 - f) + 200 < 2 ^ 31) (hst : stpI nb n kd f f2 I) (hen : endI nb n kd f f2 I Fin) (hcap : capI I Fin) (hgd : gdI nb n kd f f2 I) (h0 : ∀ w hl wo, (∀ y, f ≤ y → y < f2 → w y = w00 n y ∧ hl y = 0) → (∀ y p, f ≤ y → y < f2 → p < 9 → wo ((y - f) * 9 + p) = if (w00 n y).testBit p = true then some 0 else none) → I 0 w hl wo) (hG : OB σ g 2 (ggF g kn)) (hN : OB σ kn 3 [.int (nI n), .ref (kn + 1)]) (hNA : AI σ (kn + 1) 9 nb) (hT : RT σ (g + 1)) (hLR : LR σ (g + 1) nb) (hFS : FS σ (g + 1) T0 l) (hW : AI σ (g + 10) 219 w) (hH : AI σ (g + 11) 219 hl) (hNw : AI σ (g + 12) 219 nw) (hGm : OB σ a 1 (gaF kd f f2 rd (.ref wa) op tn rf hp)) (hWx : AX σ wa ((f2 - f) * 9)) : Cl G mX2_solve d [.ref g, .ref a] σ 0 0 (pV fun s => fr [g + 1, g + 7, g + 8, g + 10, g + 11, g + 12, wa, a] σ s ∧ RT s (g + 1) ∧ LR s (g + 1) nb ∧ (∃ T l, FS s (g + 1) T l ∧ T ≤ T0 + 1486 * (f2 - f)) ∧ ∃ w hl nw wo, AI s (g + 10) 219 w ∧ AI s (g + 11) 219 hl ∧ AI s (g + 12) 219 nw ∧ AO s wa ((f2 - f) * 9) wo ∧ (∀ y, w y < 512) ∧ (∀ y, hl y < 512) ∧ (∀ y, nw y < 512) ∧ Fin w wo ∧ OB s a 1 (gaF kd f f2 rd (.ref wa) op tn rf (-2))) := by
  obtain ⟨d0, hdd⟩ : ∃ e, d = e + 1 := ⟨d - 1, by omega⟩
  refine cl_of (by decide) (by simp [Value.category]) (Nat.le_of_ble_eq_true rfl) ?_
  show Wp G mX2_solve d 0 [.ref g, .ref a, .double 0, .double 0] [] σ 0 0 _
  have hF : fr [g + 1, g + 7, g + 8, g + 10, g + 11, g + 12, wa, a] σ σ := fr.rf
  refine wp_aload_n (atd dX2_solve 0 rfl) rfl rfl ?_
  refine wp_cVv hdd [] (atd dX2_solve 1 rfl) iX1_clear lX2_65 rfl rfl (Nat.le_of_ble_eq_true rfl) hGm rfl (eX1_clear1 (by omega) hGm hWx hf2 (fun e => hwa.2.1 e.symm)) (fun s_1 h_1 => ?_)
  obtain ⟨f_1, hGm, hWo⟩ := h_1
  have hG := hG.fr f_1 (by first | decide | (simp only [List.mem_cons, List.not_mem_nil, or_false]; omega))
  have hN := hN.fr f_1 (by first | decide | (simp only [List.mem_cons, List.not_mem_nil, or_false]; omega))
  have hNA := hNA.fr f_1 (by first | decide | (simp only [List.mem_cons, List.not_mem_nil, or_false]; omega))
  have hT := hT.fr f_1 ⟨by simp only [List.mem_cons, List.not_mem_nil, or_false]; omega, by simp only [List.mem_cons, List.not_mem_nil, or_false]; omega, by simp only [List.mem_cons, List.not_mem_nil, or_false]; omega⟩
  have hLR := hLR.fr f_1 ⟨by simp only [List.mem_cons, List.not_mem_nil, or_false]; omega, by simp only [List.mem_cons, List.not_mem_nil, or_false]; omega⟩
  have hFS := hFS.fr f_1 ⟨by simp only [List.mem_cons, List.not_mem_nil, or_false]; omega, by simp only [List.mem_cons, List.not_mem_nil, or_false]; omega, by simp only [List.mem_cons, List.not_mem_nil, or_false]; omega⟩
  have hW := hW.fr f_1 (by first | decide | (simp only [List.mem_cons, List.not_mem_nil, or_false]; omega))
  have hH := hH.fr f_1 (by first | decide | (simp only [List.mem_cons, List.not_mem_nil, or_false]; omega))
  have hNw := hNw.fr f_1 (by first | decide | (simp only [List.mem_cons, List.not_mem_nil, or_false]; omega))
  have hF := hF.tr f_1 (by simp)
  refine wp_post (bX2_solve (by omega) hn hw hf2 hap haa hwa hak b1 b2 b3 hkd hff hf3 hT0 hst hen hcap hgd h0 hG hN hNA hT hLR hFS hW hH hNw hGm hWo) ?_
  rintro v s ⟨rfl, f2_, hT, hLR, hFS, w, hl, nw, wo, h1, h2, h3, h4, h5, h6, h7, h8⟩
  exact ⟨rfl, hF.tr f2_ (by simp), hT, hLR, hFS, w, hl, nw, wo, h1, h2, h3, h4, h5, h6, h7, h8, hGm.fr f2_ (by simp only [List.mem_cons, List.not_mem_nil, or_false]; omega)⟩
theorem eX2_solve0 {G : Gx} {d : Nat} {σ : Hp} (hd : 5 ≤ d) {g kn n a kd f f2 : Nat} {nb : Nat → Nat} {rd op tn rf hp : Int32} (hn : n ≤ 9) (hw : ∀ p, nb p < 512) (hf2 : f2 ≤ 219) (hap : kn + 1 < g ∨ g + 12 < kn) (haa : a < g ∨ g + 12 < a) (hak : a ≠ kn ∧ a ≠ kn + 1) {w hl nw : Nat → Nat} {T0 : Nat} {l : List Nat} {I : SvI} {Fin : (Nat → Nat) → (Nat → Option Nat) → Prop} (b1 : ∀ y, w y < 512) (b2 : ∀ y, hl y < 512) (b3 : ∀ y, nw y < 512) (hkd : kd < 3) (hff : f ≤ f2) (hf3 : f2 ≤ f + 165) (hT0 : T0 + 1486 * (f2 - f) + 200 < 2 ^ 31) (hst : stpI nb n kd f f2 I) (hen : endI nb n kd f f2 I Fin) (hcap : capI I Fin) (hgd : gdI nb n kd f f2 I) (h0 : ∀ w hl wo, (∀ y, f ≤ y → y < f2 → w y = w00 n y ∧ hl y = 0) → (∀ y p, f ≤ y → y < f2 → p < 9 → wo ((y - f) * 9 + p) = if (w00 n y).testBit p = true then some 0 else none) → I 0 w hl wo) (hG : OB σ g 2 (ggF g kn)) (hN : OB σ kn 3 [.int (nI n), .ref (kn + 1)]) (hNA : AI σ (kn + 1) 9 nb) (hT : RT σ (g + 1)) (hLR : LR σ (g + 1) nb) (hFS : FS σ (g + 1) T0 l) (hW : AI σ (g + 10) 219 w) (hH : AI σ (g + 11) 219 hl) (hNw : AI σ (g + 12) 219 nw) (hGm : OB σ a 1 (gaF kd f f2 rd .null op tn rf hp)) (hl1 : g + 12 < σ.1) (hl2 : a < σ.1) (hl3 : kn + 1 < σ.1) : Cl G mX2_solve d [.ref g, .ref a] σ 1 ((f2 - f) * 9) (pV fun s => fA [g + 1, g + 7, g + 8, g + 10, g + 11, g + 12, a] σ s ∧ s.1 = σ.1 + 1 ∧ RT s (g + 1) ∧ LR s (g + 1) nb ∧ (∃ T l, FS s (g + 1) T l ∧ T ≤ T0 + 1486 * (f2 - f)) ∧ ∃ w hl nw wo, AI s (g + 10) 219 w ∧ AI s (g + 11) 219 hl ∧ AI s (g + 12) 219 nw ∧ AO s σ.1 ((f2 - f) * 9) wo ∧ (∀ y, w y < 512) ∧ (∀ y, hl y < 512) ∧ (∀ y, nw y < 512) ∧ Fin w wo ∧ OB s a 1 (gaF kd f f2 rd (.ref σ.1) op tn rf (-2))) := by
  obtain ⟨d0, hdd⟩ : ∃ e, d = e + 1 := ⟨d - 1, by omega⟩
  refine cl_of (by decide) (by simp [Value.category]) (Nat.le_of_ble_eq_true rfl) ?_
  show Wp G mX2_solve d 0 [.ref g, .ref a, .double 0, .double 0] [] σ 1 ((f2 - f) * 9) _
  refine wp_aload_n (atd dX2_solve 0 rfl) rfl rfl ?_
  refine wp_cVvA hdd [] (atd dX2_solve 1 rfl) iX1_clear lX2_65 rfl rfl (Nat.le_of_ble_eq_true rfl) hGm rfl (eX1_clear0 (by omega) hGm hff hf2 hl2) (mc2 := 0) (ms2 := 0) rfl rfl (fun s1 h1 => ?_)
  obtain ⟨hA, hs1, hGm, hWo⟩ := h1
  have hG := hG.fA hA (by omega) (by simp only [List.mem_cons, List.not_mem_nil, or_false]; omega)
  have hN := hN.fA hA (by omega) (by simp only [List.mem_cons, List.not_mem_nil, or_false]; omega)
  have hNA := hNA.fA hA (by omega) (by simp only [List.mem_cons, List.not_mem_nil, or_false]; omega)
  have hW := hW.fA hA (by omega) (by simp only [List.mem_cons, List.not_mem_nil, or_false]; omega)
  have hH := hH.fA hA (by omega) (by simp only [List.mem_cons, List.not_mem_nil, or_false]; omega)
  have hNw := hNw.fA hA (by omega) (by simp only [List.mem_cons, List.not_mem_nil, or_false]; omega)
  have hT := hT.fA hA (by omega) (fun j h1 h2 => by simp only [List.mem_cons, List.not_mem_nil, or_false]; omega)
  have hLR := hLR.fA hA (by omega) (fun j h1 h2 => by simp only [List.mem_cons, List.not_mem_nil, or_false]; omega)
  have hFS := hFS.fA hA (by omega) (fun j h1 h2 => by simp only [List.mem_cons, List.not_mem_nil, or_false]; omega)
  refine wp_post (bX2_solve (wa := σ.1) (by omega) hn hw hf2 hap haa (by omega) hak b1 b2 b3 hkd hff hf3 hT0 hst hen hcap hgd h0 hG hN hNA hT hLR hFS hW hH hNw hGm hWo) ?_
  rintro v s ⟨rfl, f2_, hT, hLR, hFS, w, hl, nw, wo, h1, h2, h3, h4, h5, h6, h7, h8⟩
  refine ⟨rfl, (hA.mono (fun j hj => by simp at hj; simp [hj])).trN f2_.A (fun j hj => ?_), by rw [f2_.1, hs1], hT, hLR, hFS, w, hl, nw, wo, h1, h2, h3, h4, h5, h6, h7, h8, hGm.fr f2_ (by simp only [List.mem_cons, List.not_mem_nil, or_false]; omega)⟩
  simp only [List.mem_cons, List.not_mem_nil, or_false] at hj ⊢
  omega
