def stpN0 (tp : Nat → Nat) (sz : Nat) (s : PS) : PS := if s.1.2.2.1 = 1 ∧ s.1.2.2.2 = 17171557 then rdP tp sz s else if s.1.2.2.1 = 1 ∧ s.1.2.2.2 = 402885 then rdL tp sz s else fai 2 s
def stpN1 (tp : Nat → Nat) (sz : Nat) (s : PS) : PS := if s.2.1 = 0 then (if s.1.2.2.1 = 2 then nxt tp sz s else fai 2 s) else s
def prs (tp : Nat → Nat) (sz : Nat) : Nat → PS → PS
  | 0, s => s
  | k + 1, s => if s.2.1 = 0 ∧ s.1.2.2.1 ≠ 0 then prs tp sz k (stpN1 tp sz (stpN0 tp sz s)) else s
theorem tokM_ge {tp : Nat → Nat} {sz b : Nat} (hb : b ≤ sz) : b ≤ (tokM tp sz b).2.1 ∧ ((tokM tp sz b).2.2.1 ≠ 0 → b < (tokM tp sz b).2.1) := by
  have hs := skp_le (tp := tp) (f := 600) hb
  unfold tokM
  generalize skp tp sz 600 b = a at hs ⊢
  split
  · rename_i ha
    split
    · rename_i hl
      have hw := wrd_le (tp := tp) (sz := sz) (a := a) (f := 599) (b := a + 1) (v := if a - a < 6 then nI 0 * nI 32 + nI (tp a) - nI 96 else -1) (by omega)
      have e : wrd tp sz a 600 a (nI 0) = wrd tp sz a 599 (a + 1) (if a - a < 6 then nI 0 * nI 32 + nI (tp a) - nI 96 else -1) := if_pos ⟨ha, hl⟩
      rw [e]
      exact ⟨by show b ≤ (wrd tp sz a 599 (a + 1) _).1; omega, fun _ => by show b < (wrd tp sz a 599 (a + 1) _).1; omega⟩
    · exact ⟨by show b ≤ a + 1; omega, fun _ => by show b < a + 1; omega⟩
  · exact ⟨hs.1, fun h => absurd rfl h⟩
theorem mbn_good {s : PS} (h : (mbn s).2.1 = 0) : mbn s = s ∧ s.1.2.2.1 = 1 := by
  unfold mbn at h ⊢
  split at h
  · rename_i hc
    exact ⟨if_pos hc, hc.1⟩
  · exact absurd h (fai_ne (by decide))
theorem fai_T {k : Nat} {s : PS} : (fai k s).1 = s.1 := by unfold fai; split <;> rfl
theorem rdP_gt {tp : Nat → Nat} {sz : Nat} {s : PS} (hO : POk sz s) (h : (rdP tp sz s).2.1 = 0) : s.1.2.1 < (rdP tp sz s).1.2.1 := by
  unfold rdP at h ⊢
  split at h
  · exact absurd h (fai_ne (by decide))
  · rename_i h9
    rw [if_neg h9]
    split at h
    · rename_i hg
      rw [if_pos hg]
      obtain ⟨e, e1⟩ := mbn_good hg
      have g1 := (tokM_ge (tp := tp) hO.2.1).2 (by show (nxt tp sz s).1.2.2.1 ≠ 0; omega)
      have hO1 := hO.nxt (tp := tp)
      rw [e] at h ⊢
      cases hq : cld (nxt tp sz s) with
      | some q => rw [hq] at h; exact absurd h (fai_ne (by decide))
      | none =>
        have g2 := (tokM_ge (tp := tp) hO1.2.1).1
        show s.1.2.1 < (tokM tp sz (nxt tp sz s).1.2.1).2.1
        exact Nat.lt_of_lt_of_le g1 g2
    · rename_i hg
      exact absurd h hg
theorem rdL_gt {tp : Nat → Nat} {sz : Nat} {s : PS} (hO : POk sz s) (h : (rdL tp sz s).2.1 = 0) : s.1.2.1 < (rdL tp sz s).1.2.1 := by
  unfold rdL at h ⊢
  split at h
  · rename_i hg
    rw [if_pos hg]
    obtain ⟨e, e1⟩ := mbn_good hg
    have g1 := (tokM_ge (tp := tp) hO.2.1).2 (by show (nxt tp sz s).1.2.2.1 ≠ 0; omega)
    have hO1 := hO.nxt (tp := tp)
    rw [e] at h ⊢
    cases hq : cld (nxt tp sz s) with
    | none => rw [hq] at h; exact absurd h (fai_ne (by decide))
    | some p =>
      rw [hq] at h
      have h' : (rdL2 tp sz p (mbn (nxt tp sz (nxt tp sz s)))).2.1 = 0 := h
      show s.1.2.1 < (rdL2 tp sz p (mbn (nxt tp sz (nxt tp sz s)))).1.2.1
      unfold rdL2 at h' ⊢
      split at h'
      · rename_i hg4
        rw [if_pos hg4]
        obtain ⟨e4, e5⟩ := mbn_good hg4
        rw [e4] at h' ⊢
        have g2 := (tokM_ge (tp := tp) hO1.2.1).1
        have g3 := (tokM_ge (tp := tp) (hO1.nxt (tp := tp)).2.1).1
        cases hy : cld (nxt tp sz (nxt tp sz s)) with
        | none => rw [hy] at h'; exact absurd h' (fai_ne (by decide))
        | some q =>
          rw [hy] at h'
          dsimp only at h' ⊢
          split at h'
          · exact absurd h' (fai_ne (by decide))
          · rename_i hqp
            rw [if_neg hqp]
            split at h'
            · exact absurd h' (fai_ne (by decide))
            · rename_i hb
              rw [if_neg hb]
              exact Nat.lt_of_lt_of_le g1 (Nat.le_trans g2 g3)
      · rename_i hg4
        exact absurd h' hg4
  · rename_i hg
    exact absurd h hg
theorem stp_gt {tp : Nat → Nat} {sz : Nat} {s : PS} (hO : POk sz s) (h0 : POk sz (stpN0 tp sz s)) (h : (stpN1 tp sz (stpN0 tp sz s)).2.1 = 0) : s.1.2.1 < (stpN1 tp sz (stpN0 tp sz s)).1.2.1 := by
  have hz : (stpN0 tp sz s).2.1 = 0 := by
    unfold stpN1 at h
    split at h
    · assumption
    · assumption
  have h1 : s.1.2.1 < (stpN0 tp sz s).1.2.1 := by
    unfold stpN0 at hz ⊢
    split
    · rename_i hc; rw [if_pos hc] at hz; exact rdP_gt hO hz
    · rename_i hc
      rw [if_neg hc] at hz
      split
      · rename_i hc2; rw [if_pos hc2] at hz; exact rdL_gt hO hz
      · rename_i hc2; rw [if_neg hc2] at hz; exact absurd hz (fai_ne (by decide))
  unfold stpN1 at h ⊢
  rw [if_pos hz] at h ⊢
  split
  · have g := (tokM_ge (tp := tp) h0.2.1).1
    exact Nat.lt_of_lt_of_le h1 g
  · rename_i hc
    rw [if_neg hc] at h
    exact absurd h (fai_ne (by decide))
theorem lX12_net {G : Gx} {d : Nat} {Q : Option Value → Hp → Prop} (hd : 5 ≤ d) {σ0 : Hp} {m sz : Nat} {tp : Nat → Nat} (hsz : sz ≤ 600) (ht : ∀ k, tp k < 256) {α0 : Nat → Int32} {B0 : Nat → Nat → Int32} (h70 : α0 7 = nI sz) (hB0 : ∀ j, j < sz → B0 2 j = nI (tp j)) {v : PS} {e1 : Value} (hk : ∀ σ : Hp, PX σ0 σ m α0 B0 sz v → Wp G mX12_net d 115 [.ref m, e1] [] σ 0 0 Q) : ∀ (k : Nat) (σ : Hp) (s : PS), PX σ0 σ m α0 B0 sz s → (s.2.1 ≠ 0 ∨ sz < s.1.2.1 + k) → prs tp sz k s = v → Wp G mX12_net d 37 [.ref m, e1] [] σ 0 0 Q := by
  obtain ⟨d0, hdd⟩ : ∃ e, d = e + 1 := ⟨d - 1, by omega⟩
  intro k
  induction k with
  | zero =>
    intro σ s hX hc hv
    have hw0 : s.2.1 ≠ 0 := by
      rcases hc with h | h
      · exact h
      · have := hX.choose_spec.choose_spec.2.2.2.2.2.1; omega
    refine wp_aload_n (atd dX12_net 21 rfl) rfl rfl ?_
    refine wp_cVi hdd [] (atd dX12_net 22 rfl) iX12_isGood lX12_121 rfl rfl (Nat.le_of_ble_eq_true rfl) hX.choose_spec.choose_spec.1.1.1 rfl (eX12_isGood (by omega) hX) (fun r_38 s_38 h_38 => ?_)
    obtain ⟨rfl, rfl⟩ := h_38
    refine wp_ifB_eq (tgt := 115) (atd dX12_net 23 rfl) (by decide) (fun c_41 => ?_) (fun c_41 => ?_)
    ·
      subst hv
      exact hk _ hX
    · exact absurd c_41 hw0
  | succ k ih =>
    intro σ s hX hc hv
    have hOs : POk sz s := hX.choose_spec.choose_spec.2.2.2.2
    refine wp_aload_n (atd dX12_net 21 rfl) rfl rfl ?_
    refine wp_cVi hdd [] (atd dX12_net 22 rfl) iX12_isGood lX12_121 rfl rfl (Nat.le_of_ble_eq_true rfl) hX.choose_spec.choose_spec.1.1.1 rfl (eX12_isGood (by omega) hX) (fun r_38 s_38 h_38 => ?_)
    obtain ⟨rfl, rfl⟩ := h_38
    refine wp_ifB_eq (tgt := 115) (atd dX12_net 23 rfl) (by decide) (fun c_41 => ?_) (fun c_41 => ?_)
    ·
      have e : prs tp sz (k + 1) s = s := if_neg (fun z => c_41 z.1)
      rw [e] at hv
      subst hv
      exact hk _ hX
    ·
      obtain ⟨α, B, hM, hfa, hfb, hP, hO⟩ := id hX
      obtain ⟨o1, o2, o3, o4, o5, o6⟩ := id hO
      refine wp_aload_n (atd dX12_net 24 rfl) rfl rfl ?_
      refine wp_get fX12_108 (atd dX12_net 25 rfl) hM.1.1 (congrArg (fun z => some (Value.int z)) hP.1.2.2.1) ?_
      refine wp_ifN_eq (tgt := 115) (atd dX12_net 26 rfl) (by decide) (by omega) (fun c_48 => ?_) (fun c_48 => ?_)
      ·
        have e : prs tp sz (k + 1) s = s := if_neg (fun z => z.2 c_48)
        rw [e] at hv
        subst hv
        exact hk _ hX
      ·
        refine wp_aload_n (atd dX12_net 27 rfl) rfl rfl ?_
        refine wp_ldc (atd dX12_net 28 rfl) qX12_131 ?_
        refine wp_cVi hdd [_] (atd dX12_net 29 rfl) iX12_isWord lX12_132 rfl rfl (Nat.le_of_ble_eq_true rfl) hX.choose_spec.choose_spec.1.1.1 rfl (eX12_isWord (by omega) hX) (fun r_54 s_54 h_54 => ?_)
        obtain ⟨rfl, rfl⟩ := h_54
        refine wp_ifB_eq (tgt := 67) (atd dX12_net 30 rfl) (by decide) (fun c_57 => ?_) (fun c_57 => ?_)
        ·
          refine wp_aload_n (atd dX12_net 34 rfl) rfl rfl ?_
          refine wp_ldc (atd dX12_net 35 rfl) qX12_135 ?_
          refine wp_cVi hdd [_] (atd dX12_net 36 rfl) iX12_isWord lX12_132 rfl rfl (Nat.le_of_ble_eq_true rfl) hX.choose_spec.choose_spec.1.1.1 rfl (eX12_isWord (by omega) hX) (fun r_70 s_70 h_70 => ?_)
          obtain ⟨rfl, rfl⟩ := h_70
          refine wp_ifB_eq (tgt := 83) (atd dX12_net 37 rfl) (by decide) (fun c_73 => ?_) (fun c_73 => ?_)
          ·
            refine wp_aload_n (atd dX12_net 41 rfl) rfl rfl ?_
            refine wp_iconst (v := nI 2) (atd dX12_net 42 rfl) (by decide) ?_
            refine wp_cVv hdd [_] (atd dX12_net 43 rfl) iX12_fails lX12_136 rfl rfl (Nat.le_of_ble_eq_true rfl) hX.choose_spec.choose_spec.1.1.1 rfl (eX12_fails (by omega) hX (k := 2) (by omega)) (fun s_85 h_85 => ?_)
            have hX := h_85
            have hs0 : stpN0 tp sz s = fai 2 s := (if_neg c_57).trans (if_neg c_73)
            rw [← hs0] at hX
            generalize hs1 : stpN0 tp sz s = s1 at hX
            have hO1 : POk sz s1 := hX.choose_spec.choose_spec.2.2.2.2
            refine wp_aload_n (atd dX12_net 44 rfl) rfl rfl ?_
            refine wp_cVi hdd [] (atd dX12_net 45 rfl) iX12_isGood lX12_121 rfl rfl (Nat.le_of_ble_eq_true rfl) hX.choose_spec.choose_spec.1.1.1 rfl (eX12_isGood (by omega) hX) (fun r_89 s_89 h_89 => ?_)
            obtain ⟨rfl, rfl⟩ := h_89
            refine wp_ifB_eq (tgt := 108) (atd dX12_net 46 rfl) (by decide) (fun c_92 => ?_) (fun c_92 => ?_)
            ·
              refine wp_aload_n (atd dX12_net 54 rfl) rfl rfl ?_
              refine wp_cVv hdd [] (atd dX12_net 55 rfl) iX12_goOn lX12_146 rfl rfl (Nat.le_of_ble_eq_true rfl) hX.choose_spec.choose_spec.1.1.1 rfl (eX12_goOn (by omega) hsz ht h70 hB0 hX) (fun s_109 h_109 => ?_)
              have hX := h_109
              rw [if_neg c_92] at hX
              have hz1 : stpN1 tp sz s1 = s1 := if_neg c_92
              rw [← hz1] at hX
              refine wp_goto (tgt := 37) (atd dX12_net 56 rfl) (by decide) ?_
              refine ih _ _ hX ?_ (by rw [← hv, show prs tp sz (k + 1) s = prs tp sz k (stpN1 tp sz (stpN0 tp sz s)) from if_pos ⟨c_41, by omega⟩, hs1])
              by_cases hw0 : (stpN1 tp sz s1).2.1 = 0
              · refine Or.inr ?_
                have := stp_gt (tp := tp) hOs (by rw [hs1]; exact hO1) (by rw [hs1]; exact hw0)
                rw [hs1] at this
                omega
              · exact Or.inl hw0
            ·
              obtain ⟨α, B, hM, hfa, hfb, hP, hO⟩ := id hX
              obtain ⟨o1, o2, o3, o4, o5, o6⟩ := id hO
              refine wp_aload_n (atd dX12_net 47 rfl) rfl rfl ?_
              refine wp_get fX12_108 (atd dX12_net 48 rfl) hM.1.1 (congrArg (fun z => some (Value.int z)) hP.1.2.2.1) ?_
              refine wp_iconst (v := nI 2) (atd dX12_net 49 rfl) (by decide) ?_
              refine wp_icmpN_eq (tgt := 108) (atd dX12_net 50 rfl) (by decide) (by omega) (by omega) (fun c_100 => ?_) (fun c_100 => ?_)
              ·
                refine wp_aload_n (atd dX12_net 54 rfl) rfl rfl ?_
                refine wp_cVv hdd [] (atd dX12_net 55 rfl) iX12_goOn lX12_146 rfl rfl (Nat.le_of_ble_eq_true rfl) hX.choose_spec.choose_spec.1.1.1 rfl (eX12_goOn (by omega) hsz ht h70 hB0 hX) (fun s_109 h_109 => ?_)
                have hX := h_109
                rw [if_pos c_92] at hX
                have hz1 : stpN1 tp sz s1 = nxt tp sz s1 := (if_pos c_92).trans (if_pos c_100)
                rw [← hz1] at hX
                refine wp_goto (tgt := 37) (atd dX12_net 56 rfl) (by decide) ?_
                refine ih _ _ hX ?_ (by rw [← hv, show prs tp sz (k + 1) s = prs tp sz k (stpN1 tp sz (stpN0 tp sz s)) from if_pos ⟨c_41, by omega⟩, hs1])
                by_cases hw0 : (stpN1 tp sz s1).2.1 = 0
                · refine Or.inr ?_
                  have := stp_gt (tp := tp) hOs (by rw [hs1]; exact hO1) (by rw [hs1]; exact hw0)
                  rw [hs1] at this
                  omega
                · exact Or.inl hw0
              ·
                refine wp_aload_n (atd dX12_net 51 rfl) rfl rfl ?_
                refine wp_iconst (v := nI 2) (atd dX12_net 52 rfl) (by decide) ?_
                refine wp_cVv hdd [_] (atd dX12_net 53 rfl) iX12_fails lX12_136 rfl rfl (Nat.le_of_ble_eq_true rfl) hX.choose_spec.choose_spec.1.1.1 rfl (eX12_fails (by omega) hX (k := 2) (by omega)) (fun s_105 h_105 => ?_)
                have hX := h_105
                refine wp_aload_n (atd dX12_net 54 rfl) rfl rfl ?_
                refine wp_cVv hdd [] (atd dX12_net 55 rfl) iX12_goOn lX12_146 rfl rfl (Nat.le_of_ble_eq_true rfl) hX.choose_spec.choose_spec.1.1.1 rfl (eX12_goOn (by omega) hsz ht h70 hB0 hX) (fun s_109 h_109 => ?_)
                have hX := h_109
                rw [if_neg (fai_ne (by decide))] at hX
                have hz1 : stpN1 tp sz s1 = fai 2 s1 := (if_pos c_92).trans (if_neg c_100)
                rw [← hz1] at hX
                refine wp_goto (tgt := 37) (atd dX12_net 56 rfl) (by decide) ?_
                refine ih _ _ hX ?_ (by rw [← hv, show prs tp sz (k + 1) s = prs tp sz k (stpN1 tp sz (stpN0 tp sz s)) from if_pos ⟨c_41, by omega⟩, hs1])
                by_cases hw0 : (stpN1 tp sz s1).2.1 = 0
                · refine Or.inr ?_
                  have := stp_gt (tp := tp) hOs (by rw [hs1]; exact hO1) (by rw [hs1]; exact hw0)
                  rw [hs1] at this
                  omega
                · exact Or.inl hw0
          ·
            refine wp_aload_n (atd dX12_net 38 rfl) rfl rfl ?_
            refine wp_cVv hdd [] (atd dX12_net 39 rfl) iX12_readLine lX12_156 rfl rfl (Nat.le_of_ble_eq_true rfl) hX.choose_spec.choose_spec.1.1.1 rfl (eX12_readLine (by omega) hsz ht h70 hB0 hX) (fun s_77 h_77 => ?_)
            have hX := h_77
            have hs0 : stpN0 tp sz s = rdL tp sz s := (if_neg c_57).trans (if_pos c_73)
            rw [← hs0] at hX
            generalize hs1 : stpN0 tp sz s = s1 at hX
            refine wp_goto (tgt := 88) (atd dX12_net 40 rfl) (by decide) ?_
            have hO1 : POk sz s1 := hX.choose_spec.choose_spec.2.2.2.2
            refine wp_aload_n (atd dX12_net 44 rfl) rfl rfl ?_
            refine wp_cVi hdd [] (atd dX12_net 45 rfl) iX12_isGood lX12_121 rfl rfl (Nat.le_of_ble_eq_true rfl) hX.choose_spec.choose_spec.1.1.1 rfl (eX12_isGood (by omega) hX) (fun r_89 s_89 h_89 => ?_)
            obtain ⟨rfl, rfl⟩ := h_89
            refine wp_ifB_eq (tgt := 108) (atd dX12_net 46 rfl) (by decide) (fun c_92 => ?_) (fun c_92 => ?_)
            ·
              refine wp_aload_n (atd dX12_net 54 rfl) rfl rfl ?_
              refine wp_cVv hdd [] (atd dX12_net 55 rfl) iX12_goOn lX12_146 rfl rfl (Nat.le_of_ble_eq_true rfl) hX.choose_spec.choose_spec.1.1.1 rfl (eX12_goOn (by omega) hsz ht h70 hB0 hX) (fun s_109 h_109 => ?_)
              have hX := h_109
              rw [if_neg c_92] at hX
              have hz1 : stpN1 tp sz s1 = s1 := if_neg c_92
              rw [← hz1] at hX
              refine wp_goto (tgt := 37) (atd dX12_net 56 rfl) (by decide) ?_
              refine ih _ _ hX ?_ (by rw [← hv, show prs tp sz (k + 1) s = prs tp sz k (stpN1 tp sz (stpN0 tp sz s)) from if_pos ⟨c_41, by omega⟩, hs1])
              by_cases hw0 : (stpN1 tp sz s1).2.1 = 0
              · refine Or.inr ?_
                have := stp_gt (tp := tp) hOs (by rw [hs1]; exact hO1) (by rw [hs1]; exact hw0)
                rw [hs1] at this
                omega
              · exact Or.inl hw0
            ·
              obtain ⟨α, B, hM, hfa, hfb, hP, hO⟩ := id hX
              obtain ⟨o1, o2, o3, o4, o5, o6⟩ := id hO
              refine wp_aload_n (atd dX12_net 47 rfl) rfl rfl ?_
              refine wp_get fX12_108 (atd dX12_net 48 rfl) hM.1.1 (congrArg (fun z => some (Value.int z)) hP.1.2.2.1) ?_
              refine wp_iconst (v := nI 2) (atd dX12_net 49 rfl) (by decide) ?_
              refine wp_icmpN_eq (tgt := 108) (atd dX12_net 50 rfl) (by decide) (by omega) (by omega) (fun c_100 => ?_) (fun c_100 => ?_)
              ·
                refine wp_aload_n (atd dX12_net 54 rfl) rfl rfl ?_
                refine wp_cVv hdd [] (atd dX12_net 55 rfl) iX12_goOn lX12_146 rfl rfl (Nat.le_of_ble_eq_true rfl) hX.choose_spec.choose_spec.1.1.1 rfl (eX12_goOn (by omega) hsz ht h70 hB0 hX) (fun s_109 h_109 => ?_)
                have hX := h_109
                rw [if_pos c_92] at hX
                have hz1 : stpN1 tp sz s1 = nxt tp sz s1 := (if_pos c_92).trans (if_pos c_100)
                rw [← hz1] at hX
                refine wp_goto (tgt := 37) (atd dX12_net 56 rfl) (by decide) ?_
                refine ih _ _ hX ?_ (by rw [← hv, show prs tp sz (k + 1) s = prs tp sz k (stpN1 tp sz (stpN0 tp sz s)) from if_pos ⟨c_41, by omega⟩, hs1])
                by_cases hw0 : (stpN1 tp sz s1).2.1 = 0
                · refine Or.inr ?_
                  have := stp_gt (tp := tp) hOs (by rw [hs1]; exact hO1) (by rw [hs1]; exact hw0)
                  rw [hs1] at this
                  omega
                · exact Or.inl hw0
              ·
                refine wp_aload_n (atd dX12_net 51 rfl) rfl rfl ?_
                refine wp_iconst (v := nI 2) (atd dX12_net 52 rfl) (by decide) ?_
                refine wp_cVv hdd [_] (atd dX12_net 53 rfl) iX12_fails lX12_136 rfl rfl (Nat.le_of_ble_eq_true rfl) hX.choose_spec.choose_spec.1.1.1 rfl (eX12_fails (by omega) hX (k := 2) (by omega)) (fun s_105 h_105 => ?_)
                have hX := h_105
                refine wp_aload_n (atd dX12_net 54 rfl) rfl rfl ?_
                refine wp_cVv hdd [] (atd dX12_net 55 rfl) iX12_goOn lX12_146 rfl rfl (Nat.le_of_ble_eq_true rfl) hX.choose_spec.choose_spec.1.1.1 rfl (eX12_goOn (by omega) hsz ht h70 hB0 hX) (fun s_109 h_109 => ?_)
                have hX := h_109
                rw [if_neg (fai_ne (by decide))] at hX
                have hz1 : stpN1 tp sz s1 = fai 2 s1 := (if_pos c_92).trans (if_neg c_100)
                rw [← hz1] at hX
                refine wp_goto (tgt := 37) (atd dX12_net 56 rfl) (by decide) ?_
                refine ih _ _ hX ?_ (by rw [← hv, show prs tp sz (k + 1) s = prs tp sz k (stpN1 tp sz (stpN0 tp sz s)) from if_pos ⟨c_41, by omega⟩, hs1])
                by_cases hw0 : (stpN1 tp sz s1).2.1 = 0
                · refine Or.inr ?_
                  have := stp_gt (tp := tp) hOs (by rw [hs1]; exact hO1) (by rw [hs1]; exact hw0)
                  rw [hs1] at this
                  omega
                · exact Or.inl hw0
        ·
          refine wp_aload_n (atd dX12_net 31 rfl) rfl rfl ?_
          refine wp_cVv hdd [] (atd dX12_net 32 rfl) iX12_readPlace lX12_153 rfl rfl (Nat.le_of_ble_eq_true rfl) hX.choose_spec.choose_spec.1.1.1 rfl (eX12_readPlace (by omega) hsz ht h70 hB0 hX) (fun s_61 h_61 => ?_)
          have hX := h_61
          have hs0 : stpN0 tp sz s = rdP tp sz s := if_pos c_57
          rw [← hs0] at hX
          generalize hs1 : stpN0 tp sz s = s1 at hX
          refine wp_goto (tgt := 88) (atd dX12_net 33 rfl) (by decide) ?_
          have hO1 : POk sz s1 := hX.choose_spec.choose_spec.2.2.2.2
          refine wp_aload_n (atd dX12_net 44 rfl) rfl rfl ?_
          refine wp_cVi hdd [] (atd dX12_net 45 rfl) iX12_isGood lX12_121 rfl rfl (Nat.le_of_ble_eq_true rfl) hX.choose_spec.choose_spec.1.1.1 rfl (eX12_isGood (by omega) hX) (fun r_89 s_89 h_89 => ?_)
          obtain ⟨rfl, rfl⟩ := h_89
          refine wp_ifB_eq (tgt := 108) (atd dX12_net 46 rfl) (by decide) (fun c_92 => ?_) (fun c_92 => ?_)
          ·
            refine wp_aload_n (atd dX12_net 54 rfl) rfl rfl ?_
            refine wp_cVv hdd [] (atd dX12_net 55 rfl) iX12_goOn lX12_146 rfl rfl (Nat.le_of_ble_eq_true rfl) hX.choose_spec.choose_spec.1.1.1 rfl (eX12_goOn (by omega) hsz ht h70 hB0 hX) (fun s_109 h_109 => ?_)
            have hX := h_109
            rw [if_neg c_92] at hX
            have hz1 : stpN1 tp sz s1 = s1 := if_neg c_92
            rw [← hz1] at hX
            refine wp_goto (tgt := 37) (atd dX12_net 56 rfl) (by decide) ?_
            refine ih _ _ hX ?_ (by rw [← hv, show prs tp sz (k + 1) s = prs tp sz k (stpN1 tp sz (stpN0 tp sz s)) from if_pos ⟨c_41, by omega⟩, hs1])
            by_cases hw0 : (stpN1 tp sz s1).2.1 = 0
            · refine Or.inr ?_
              have := stp_gt (tp := tp) hOs (by rw [hs1]; exact hO1) (by rw [hs1]; exact hw0)
              rw [hs1] at this
              omega
            · exact Or.inl hw0
          ·
            obtain ⟨α, B, hM, hfa, hfb, hP, hO⟩ := id hX
            obtain ⟨o1, o2, o3, o4, o5, o6⟩ := id hO
            refine wp_aload_n (atd dX12_net 47 rfl) rfl rfl ?_
            refine wp_get fX12_108 (atd dX12_net 48 rfl) hM.1.1 (congrArg (fun z => some (Value.int z)) hP.1.2.2.1) ?_
            refine wp_iconst (v := nI 2) (atd dX12_net 49 rfl) (by decide) ?_
            refine wp_icmpN_eq (tgt := 108) (atd dX12_net 50 rfl) (by decide) (by omega) (by omega) (fun c_100 => ?_) (fun c_100 => ?_)
            ·
              refine wp_aload_n (atd dX12_net 54 rfl) rfl rfl ?_
              refine wp_cVv hdd [] (atd dX12_net 55 rfl) iX12_goOn lX12_146 rfl rfl (Nat.le_of_ble_eq_true rfl) hX.choose_spec.choose_spec.1.1.1 rfl (eX12_goOn (by omega) hsz ht h70 hB0 hX) (fun s_109 h_109 => ?_)
              have hX := h_109
              rw [if_pos c_92] at hX
              have hz1 : stpN1 tp sz s1 = nxt tp sz s1 := (if_pos c_92).trans (if_pos c_100)
              rw [← hz1] at hX
              refine wp_goto (tgt := 37) (atd dX12_net 56 rfl) (by decide) ?_
              refine ih _ _ hX ?_ (by rw [← hv, show prs tp sz (k + 1) s = prs tp sz k (stpN1 tp sz (stpN0 tp sz s)) from if_pos ⟨c_41, by omega⟩, hs1])
              by_cases hw0 : (stpN1 tp sz s1).2.1 = 0
              · refine Or.inr ?_
                have := stp_gt (tp := tp) hOs (by rw [hs1]; exact hO1) (by rw [hs1]; exact hw0)
                rw [hs1] at this
                omega
              · exact Or.inl hw0
            ·
              refine wp_aload_n (atd dX12_net 51 rfl) rfl rfl ?_
              refine wp_iconst (v := nI 2) (atd dX12_net 52 rfl) (by decide) ?_
              refine wp_cVv hdd [_] (atd dX12_net 53 rfl) iX12_fails lX12_136 rfl rfl (Nat.le_of_ble_eq_true rfl) hX.choose_spec.choose_spec.1.1.1 rfl (eX12_fails (by omega) hX (k := 2) (by omega)) (fun s_105 h_105 => ?_)
              have hX := h_105
              refine wp_aload_n (atd dX12_net 54 rfl) rfl rfl ?_
              refine wp_cVv hdd [] (atd dX12_net 55 rfl) iX12_goOn lX12_146 rfl rfl (Nat.le_of_ble_eq_true rfl) hX.choose_spec.choose_spec.1.1.1 rfl (eX12_goOn (by omega) hsz ht h70 hB0 hX) (fun s_109 h_109 => ?_)
              have hX := h_109
              rw [if_neg (fai_ne (by decide))] at hX
              have hz1 : stpN1 tp sz s1 = fai 2 s1 := (if_pos c_92).trans (if_neg c_100)
              rw [← hz1] at hX
              refine wp_goto (tgt := 37) (atd dX12_net 56 rfl) (by decide) ?_
              refine ih _ _ hX ?_ (by rw [← hv, show prs tp sz (k + 1) s = prs tp sz k (stpN1 tp sz (stpN0 tp sz s)) from if_pos ⟨c_41, by omega⟩, hs1])
              by_cases hw0 : (stpN1 tp sz s1).2.1 = 0
              · refine Or.inr ?_
                have := stp_gt (tp := tp) hOs (by rw [hs1]; exact hO1) (by rw [hs1]; exact hw0)
                rw [hs1] at this
                omega
              · exact Or.inl hw0
theorem frm.upd2 {S : List Nat} {f g : Nat → Int32} (h : frm S f g) {k : Nat} {x : Int32} : frm S (upd f k x) (upd g k x) := fun j hj => by
  by_cases e : j = k
  · simp [upd, e]
  · simp [upd, e, h j hj]
theorem PX.put {σ0 σ' : Hp} {m : Nat} {α0 α : Nat → Int32} {B0 B : Nat → Nat → Int32} {sz k : Nat} {x : Int32} {s : PS} (hM : MA σ0 σ' m (upd α k x) B) (hfa : frm [8, 9, 10, 11, 14, 15, 16] α0 α) (hfb : frm [3, 4] B0 B) (hP : PSt (upd α k x) B s) (hO : POk sz s) : PX σ0 σ' m (upd α0 k x) B0 sz s := ⟨_, B, hM, hfa.upd2, hfb, hP, hO⟩
theorem eX12_another {G : Gx} {d : Nat} {σ : Hp} (hd : 0 ≤ d) {m : Nat} {α : Nat → Int32} {B : Nat → Nat → Int32} (hM : MA σ σ m α B) : Cl G mX12_another d [.ref m] σ 0 0 (pV fun s => MA σ s m (upd (upd (upd (upd α 17 (nI 0)) 18 (nI 0)) 19 (-1)) 21 (nI 0)) B) := by
  refine cl_of (by decide) (by simp [Value.category]) (Nat.le_of_ble_eq_true rfl) ?_
  show Wp G mX12_another d 0 [.ref m] [] σ 0 0 _
  refine wp_aload_n (atd dX12_another 0 rfl) rfl rfl ?_
  refine wp_iconst (v := nI 0) (atd dX12_another 1 rfl) (by decide) ?_
  refine wp_putMz fX12_172 (atd dX12_another 2 rfl) hM rfl (by decide) (fun σ hM => ?_)
  refine wp_aload_n (atd dX12_another 3 rfl) rfl rfl ?_
  refine wp_iconst (v := nI 0) (atd dX12_another 4 rfl) (by decide) ?_
  refine wp_putMz fX12_175 (atd dX12_another 5 rfl) hM rfl (by decide) (fun σ hM => ?_)
  refine wp_aload_n (atd dX12_another 6 rfl) rfl rfl ?_
  refine wp_iconst (v := -1) (atd dX12_another 7 rfl) (by decide) ?_
  refine wp_putM fX12_26 (atd dX12_another 8 rfl) hM rfl (fun σ hM => ?_)
  refine wp_aload_n (atd dX12_another 9 rfl) rfl rfl ?_
  refine wp_iconst (v := nI 0) (atd dX12_another 10 rfl) (by decide) ?_
  refine wp_putM fX12_178 (atd dX12_another 11 rfl) hM rfl (fun σ hM => ?_)
  refine wp_vretv (atd dX12_another 12 rfl) rfl ?_
  exact hM
theorem cX12_netcopy {G : Gx} {d : Nat} {Q : Option Value → Hp → Prop} {σ0 : Hp} {m n : Nat} {α : Nat → Int32} {B0 : Nat → Nat → Int32} {nr : Nat → Nat} (hn : n ≤ 9) (hp : α 2 = nI n) (h4 : ∀ i, i < n → B0 4 i = nI (nr i)) (hk : ∀ (σ : Hp) (B : Nat → Nat → Int32) (e1 : Value), MA σ0 σ m α B → frm [1] B0 B → (∀ p, p < n → B 1 p = nI (nr p)) → Wp G mX12_net d 187 [.ref m, e1] [] σ 0 0 Q) : ∀ (k : Nat) (σ : Hp) (B : Nat → Nat → Int32) (p : Nat), MA σ0 σ m α B → frm [1] B0 B → (∀ q, q < p → B 1 q = nI (nr q)) → p + k = n → Wp G mX12_net d 161 [.ref m, .int (nI p)] [] σ 0 0 Q := by
  intro k
  induction k with
  | zero =>
    intro σ B p hM hfb hcp h
    refine wp_iload_n (atd dX12_net 81 rfl) rfl ?_
    refine wp_aload_n (atd dX12_net 82 rfl) rfl rfl ?_
    refine wp_get fX12_78 (atd dX12_net 83 rfl) hM.1.1 (congrArg (fun z => some (Value.int z)) hp) ?_
    refine wp_icmpN_ge (tgt := 187) (atd dX12_net 84 rfl) (by decide) (by omega) (by omega) (fun c_166 => ?_) (fun c_166 => ?_)
    ·
      exact hk σ B _ hM hfb (fun q hq => hcp q (by omega))
    · exfalso; omega
  | succ k ih =>
    intro σ B p hM hfb hcp h
    refine wp_iload_n (atd dX12_net 81 rfl) rfl ?_
    refine wp_aload_n (atd dX12_net 82 rfl) rfl rfl ?_
    refine wp_get fX12_78 (atd dX12_net 83 rfl) hM.1.1 (congrArg (fun z => some (Value.int z)) hp) ?_
    refine wp_icmpN_ge (tgt := 187) (atd dX12_net 84 rfl) (by decide) (by omega) (by omega) (fun c_166 => ?_) (fun c_166 => ?_)
    · exfalso; omega
    ·
      refine wp_aload_n (atd dX12_net 85 rfl) rfl rfl ?_
      refine wp_get fX12_7 (atd dX12_net 86 rfl) hM.1.1 rfl ?_
      refine wp_iload_n (atd dX12_net 87 rfl) rfl ?_
      refine wp_aload_n (atd dX12_net 88 rfl) rfl rfl ?_
      refine wp_get fX12_19 (atd dX12_net 89 rfl) hM.1.1 rfl ?_
      refine wp_iload_n (atd dX12_net 90 rfl) rfl ?_
      refine wp_ialdN (atd dX12_net 91 rfl) hM.a4 (show _ < 9 from by omega) (Nat.le_of_ble_eq_true rfl) ?_
      rw [show B 4 p = nI (nr p) by rw [hfb 4 (by decide)]; exact h4 p (by omega)]
      refine wp_iastM (j := 1) (atd dX12_net 92 rfl) hM (by decide) (by decide) rfl (show _ < 9 from by omega) (fun σ hM => ?_)
      refine wp_iincN (c := 1) (atd dX12_net 93 rfl) rfl ?_
      refine wp_goto (tgt := 161) (atd dX12_net 94 rfl) (by decide) ?_
      refine ih _ _ (p + 1) hM (hfb.va (by decide)) (fun q hq => ?_) (by omega)
      show upd (B 1) p (nI (nr p)) q = nI (nr q)
      by_cases e : q = p
      · simp [upd, e]
      · simp [upd, e, hcp q (by omega)]
def netV (tp : Nat → Nat) (sz wa : Nat) (nm : Nat → Int32) (nr : Nat → Nat) : PS := prs tp sz 601 (tokM tp sz 0, 0, wa, 0, nm, nr)
theorem eX12_net {G : Gx} {d : Nat} {σ : Hp} (hd : 5 ≤ d) {m sz wa : Nat} {tp : Nat → Nat} {α : Nat → Int32} {B : Nat → Nat → Int32} {V : PS} (hsz : sz ≤ 600) (ht : ∀ k, tp k < 256) (hM : MA σ σ m α B) (h6 : α 6 = nI sz) (hB : ∀ j, j < sz → B 2 j = nI (tp j)) (h15 : α 15 = nI wa) (hV : netV tp sz wa (fun _ => 0) (fun _ => 0) = V) : Cl G mX12_net d [.ref m] σ 0 0 (pI fun r s => ∃ α1 B1, MA σ s m α1 B1 ∧ α1 0 = nI 0 ∧ α1 6 = nI 0 ∧ (∃ wa, α1 15 = nI wa) ∧ ((V.2.1 ≠ 0 ∧ r = -1 ∧ α1 12 = nI V.2.1 ∧ α1 13 = nI V.2.2.1 ∧ frm [0, 6, 7, 8, 9, 10, 11, 12, 13, 14, 15, 16] α α1 ∧ frm [3, 4] B B1) ∨ (V.2.1 = 0 ∧ r = nI V.2.2.2.1 ∧ α1 12 = nI 0 ∧ α1 13 = -1 ∧ α1 2 = nI V.2.2.2.1 ∧ (∀ p, p < V.2.2.2.1 → B1 1 p = nI (V.2.2.2.2.2 p)) ∧ α1 57 = nI 0 ∧ α1 46 = nI 0 ∧ α1 17 = nI 0 ∧ α1 18 = nI 0 ∧ α1 19 = -1 ∧ α1 21 = nI 0 ∧ frm [0, 2, 6, 7, 8, 9, 10, 11, 12, 13, 14, 15, 16, 17, 18, 19, 21, 46, 57] α α1 ∧ frm [1, 3, 4] B B1))) := by
  obtain ⟨d0, hdd⟩ : ∃ e, d = e + 1 := ⟨d - 1, by omega⟩
  refine cl_of (by decide) (by simp [Value.category]) (Nat.le_of_ble_eq_true rfl) ?_
  show Wp G mX12_net d 0 [.ref m, .double 0] [] σ 0 0 _
  refine wp_aload_n (atd dX12_net 0 rfl) rfl rfl ?_
  refine wp_iconst (v := nI 0) (atd dX12_net 1 rfl) (by decide) ?_
  refine wp_putM fX12_75 (atd dX12_net 2 rfl) hM rfl (fun σ hM => ?_)
  refine wp_aload_n (atd dX12_net 3 rfl) rfl rfl ?_
  refine wp_aload_n (atd dX12_net 4 rfl) rfl rfl ?_
  refine wp_get fX12_85 (atd dX12_net 5 rfl) hM.1.1 (congrArg (fun z => some (Value.int z)) h6) ?_
  refine wp_putM fX12_92 (atd dX12_net 6 rfl) hM rfl (fun σ hM => ?_)
  refine wp_aload_n (atd dX12_net 7 rfl) rfl rfl ?_
  refine wp_iconst (v := nI 0) (atd dX12_net 8 rfl) (by decide) ?_
  refine wp_putM fX12_85 (atd dX12_net 9 rfl) hM rfl (fun σ hM => ?_)
  refine wp_aload_n (atd dX12_net 10 rfl) rfl rfl ?_
  refine wp_iconst (v := nI 0) (atd dX12_net 11 rfl) (by decide) ?_
  refine wp_putM fX12_95 (atd dX12_net 12 rfl) hM rfl (fun σ hM => ?_)
  refine wp_aload_n (atd dX12_net 13 rfl) rfl rfl ?_
  refine wp_iconst (v := nI 0) (atd dX12_net 14 rfl) (by decide) ?_
  refine wp_putM fX12_115 (atd dX12_net 15 rfl) hM rfl (fun σ hM => ?_)
  refine wp_aload_n (atd dX12_net 16 rfl) rfl rfl ?_
  refine wp_iconst (v := nI 0) (atd dX12_net 17 rfl) (by decide) ?_
  refine wp_putM fX12_128 (atd dX12_net 18 rfl) hM rfl (fun σ hM => ?_)
  refine wp_aload_n (atd dX12_net 19 rfl) rfl rfl ?_
  refine wp_cVv hdd [] (atd dX12_net 20 rfl) iX12_next lX12_125 rfl rfl (Nat.le_of_ble_eq_true rfl) hM.1.1 rfl (eX12_next (by omega) hsz ht hM.self (sz := sz) (b := 0) hB rfl rfl (Nat.zero_le _)) (fun s_34 h_34 => ?_)
  have hM := hM.trans h_34
  have hX : PX _ _ m (upd (upd (upd (upd (upd (upd α 0 (nI 0)) 7 (nI sz)) 6 (nI 0)) 9 (nI 0)) 14 (nI 0)) 16 (nI 0)) B sz (tokM tp sz 0, 0, wa, 0, fun _ => 0, fun _ => 0) := ⟨_, B, hM, (((frm.rf.up (by decide)).up (by decide)).up (by decide)).up (by decide), frm.rf, ⟨⟨rfl, rfl, rfl, rfl⟩, rfl, h15, rfl, fun i hi => absurd hi (Nat.not_lt_zero i), fun i hi => absurd hi (Nat.not_lt_zero i)⟩, (tokM_ok (Nat.zero_le _)).1, (tokM_ok (Nat.zero_le _)).2.1, (tokM_ok (Nat.zero_le _)).2.2, Nat.zero_le _, Nat.zero_le _, fun _ => show 0 < 512 by decide⟩
  refine lX12_net hd hsz ht (α0 := upd (upd (upd (upd (upd (upd α 0 (nI 0)) 7 (nI sz)) 6 (nI 0)) 9 (nI 0)) 14 (nI 0)) 16 (nI 0)) rfl hB (v := V) (fun σ1 hX => ?_) 601 _ _ hX (Or.inr (by omega)) hV
  obtain ⟨α, B, hM, hfa, hfb, hP, hO⟩ := id hX
  obtain ⟨o1, o2, o3, o4, o5, o6⟩ := id hO
  refine wp_aload_n (atd dX12_net 57 rfl) rfl rfl ?_
  refine wp_aload_n (atd dX12_net 58 rfl) rfl rfl ?_
  refine wp_get fX12_115 (atd dX12_net 59 rfl) hM.1.1 (congrArg (fun z => some (Value.int z)) hP.2.1) ?_
  refine wp_putM fX12_159 (atd dX12_net 60 rfl) hM rfl (fun σ hM => ?_)
  have hX := PX.put hM hfa hfb hP hO
  refine wp_aload_n (atd dX12_net 61 rfl) rfl rfl ?_
  refine wp_aload_n (atd dX12_net 62 rfl) rfl rfl ?_
  refine wp_cVi hdd [] (atd dX12_net 63 rfl) iX12_isGood lX12_121 rfl rfl (Nat.le_of_ble_eq_true rfl) hX.choose_spec.choose_spec.1.1.1 rfl (eX12_isGood (by omega) hX) (fun r_125 s_125 h_125 => ?_)
  obtain ⟨rfl, rfl⟩ := h_125
  refine wp_ifB_eq (tgt := 135) (atd dX12_net 64 rfl) (by decide) (fun c_128 => ?_) (fun c_128 => ?_)
  ·
    refine wp_aload_n (atd dX12_net 67 rfl) rfl rfl ?_
    refine wp_get fX12_118 (atd dX12_net 68 rfl) hM.1.1 (congrArg (fun z => some (Value.int z)) hP.2.2.1) ?_
    refine wp_putM fX12_22 (atd dX12_net 69 rfl) hM rfl (fun σ hM => ?_)
    have hX := PX.put hM hfa.upd2 hfb hP hO
    refine wp_aload_n (atd dX12_net 70 rfl) rfl rfl ?_
    refine wp_cVi hdd [] (atd dX12_net 71 rfl) iX12_isGood lX12_121 rfl rfl (Nat.le_of_ble_eq_true rfl) hX.choose_spec.choose_spec.1.1.1 rfl (eX12_isGood (by omega) hX) (fun r_143 s_143 h_143 => ?_)
    obtain ⟨rfl, rfl⟩ := h_143
    refine wp_ifB_ne (tgt := 151) (atd dX12_net 72 rfl) (by decide) (fun c_146 => ?_) (fun c_146 => ?_)
    · exact absurd c_146 c_128
    ·
      refine wp_iconst (v := -1) (atd dX12_net 73 rfl) (by decide) ?_
      refine wp_ireti (atd dX12_net 74 rfl) rfl ?_
      refine ⟨_, B, hM, ?_, ?_, ⟨_, hP.2.2.1⟩, Or.inl ⟨c_128, rfl, rfl, rfl, ?_, hfb⟩⟩
      · exact (hfa 0 (by decide)).trans rfl
      · exact (hfa 6 (by decide)).trans rfl
      · intro j hj; simp only [List.mem_cons, List.not_mem_nil, not_or, or_false] at hj; have e := hfa j (by simp [hj]); simp [upd, hj] at e ⊢; exact e
  ·
    refine wp_iconst (v := -1) (atd dX12_net 65 rfl) (by decide) ?_
    refine wp_goto (tgt := 139) (atd dX12_net 66 rfl) (by decide) ?_
    refine wp_putM fX12_22 (atd dX12_net 69 rfl) hM rfl (fun σ hM => ?_)
    have hX := PX.put hM hfa.upd2 hfb hP hO
    refine wp_aload_n (atd dX12_net 70 rfl) rfl rfl ?_
    refine wp_cVi hdd [] (atd dX12_net 71 rfl) iX12_isGood lX12_121 rfl rfl (Nat.le_of_ble_eq_true rfl) hX.choose_spec.choose_spec.1.1.1 rfl (eX12_isGood (by omega) hX) (fun r_143 s_143 h_143 => ?_)
    obtain ⟨rfl, rfl⟩ := h_143
    refine wp_ifB_ne (tgt := 151) (atd dX12_net 72 rfl) (by decide) (fun c_146 => ?_) (fun c_146 => ?_)
    ·
      refine wp_aload_n (atd dX12_net 75 rfl) rfl rfl ?_
      refine wp_aload_n (atd dX12_net 76 rfl) rfl rfl ?_
      refine wp_get fX12_128 (atd dX12_net 77 rfl) hM.1.1 (congrArg (fun z => some (Value.int z)) hP.2.2.2.1) ?_
      refine wp_putM fX12_78 (atd dX12_net 78 rfl) hM rfl (fun σ hM => ?_)
      refine wp_iconst (v := nI 0) (atd dX12_net 79 rfl) (by decide) ?_
      refine wp_istore_n (atd dX12_net 80 rfl) (Nat.le_of_ble_eq_true rfl) ?_
      refine cX12_netcopy (n := V.2.2.2.1) (nr := V.2.2.2.2.2) (by omega) rfl hP.2.2.2.2.2 (fun σ B1 e1 hM hf1 hcp => ?_) V.2.2.2.1 _ _ 0 hM frm.rf (fun q hq => absurd hq (Nat.not_lt_zero q)) (by omega)
      refine wp_aload_n (atd dX12_net 95 rfl) rfl rfl ?_
      refine wp_iconst (v := nI 0) (atd dX12_net 96 rfl) (by decide) ?_
      refine wp_putM fX12_162 (atd dX12_net 97 rfl) hM rfl (fun σ hM => ?_)
      refine wp_aload_n (atd dX12_net 98 rfl) rfl rfl ?_
      refine wp_iconst (v := nI 0) (atd dX12_net 99 rfl) (by decide) ?_
      refine wp_putMz fX12_165 (atd dX12_net 100 rfl) hM rfl (by decide) (fun σ hM => ?_)
      refine wp_aload_n (atd dX12_net 101 rfl) rfl rfl ?_
      refine wp_cVv hdd [] (atd dX12_net 102 rfl) iX12_another lX12_169 rfl rfl (Nat.le_of_ble_eq_true rfl) hM.1.1 rfl (eX12_another (by omega) hM.self) (fun s_198 h_198 => ?_)
      have hM := hM.trans h_198
      refine wp_aload_n (atd dX12_net 103 rfl) rfl rfl ?_
      refine wp_get fX12_78 (atd dX12_net 104 rfl) hM.1.1 rfl ?_
      refine wp_ireti (atd dX12_net 105 rfl) rfl ?_
      refine ⟨_, B1, hM, ?_, ?_, ⟨_, hP.2.2.1⟩, Or.inr ⟨c_128, rfl, congrArg nI c_128, rfl, rfl, hcp, rfl, rfl, rfl, rfl, rfl, rfl, ?_, ?_⟩⟩
      · exact (hfa 0 (by decide)).trans rfl
      · exact (hfa 6 (by decide)).trans rfl
      · intro j hj; simp only [List.mem_cons, List.not_mem_nil, not_or, or_false] at hj; have e := hfa j (by simp [hj]); simp [upd, hj] at e ⊢; exact e
      · exact (hfb.mono (by decide)).tr (hf1.mono (by decide))
    · exact absurd c_128 c_146
