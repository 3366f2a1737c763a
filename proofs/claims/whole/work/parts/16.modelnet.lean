def stpN0 (tp : Nat → Nat) (sz : Nat) (s : PS) : PS := if s.1.2.2.1 = 1 ∧ s.1.2.2.2 = 17171557 then rdP tp sz s else if s.1.2.2.1 = 1 ∧ s.1.2.2.2 = 402885 then rdL tp sz s else fai 2 s
def stpN1 (tp : Nat → Nat) (sz : Nat) (s : PS) : PS := if s.2.1 = 0 then (if s.1.2.2.1 = 2 then nxt tp sz s else fai 2 s) else s
def prs (tp : Nat → Nat) (sz : Nat) : Nat → PS → PS
  | 0, s => s
  | k + 1, s => if s.2.1 = 0 ∧ s.1.2.2.1 ≠ 0 then prs tp sz k (stpN1 tp sz (stpN0 tp sz s)) else s
theorem tokM_ge {tp : Nat → Nat} {sz b : Nat} (hb : b ≤ sz) : b ≤ (tokM tp sz b).2.1 ∧ ((tokM tp sz b).2.2.1 ≠ 0 → b < (tokM tp sz b).2.1) := by
  have hs := skp_le (tp := tp) (f := 600) hb
  unfold tokM
  generalize skp tp sz 600 b = a at hs ⊢
  split
  · rename_i ha
    split
    · rename_i hl
      have hw := wrd_le (tp := tp) (sz := sz) (a := a) (f := 599) (b := a + 1) (v := if a - a < 6 then nI 0 * nI 32 + nI (tp a) - nI 96 else -1) (by omega)
      have e : wrd tp sz a 600 a (nI 0) = wrd tp sz a 599 (a + 1) (if a - a < 6 then nI 0 * nI 32 + nI (tp a) - nI 96 else -1) := if_pos ⟨ha, hl⟩
      rw [e]
      exact ⟨by show b ≤ (wrd tp sz a 599 (a + 1) _).1; omega, fun _ => by show b < (wrd tp sz a 599 (a + 1) _).1; omega⟩
    · exact ⟨by show b ≤ a + 1; omega, fun _ => by show b < a + 1; omega⟩
  · exact ⟨hs.1, fun h => absurd rfl h⟩
theorem mbn_good {s : PS} (h : (mbn s).2.1 = 0) : mbn s = s ∧ s.1.2.2.1 = 1 := by
  unfold mbn at h ⊢
  split at h
  · rename_i hc
    exact ⟨if_pos hc, hc.1⟩
  · exact absurd h (fai_ne (by decide))
theorem fai_T {k : Nat} {s : PS} : (fai k s).1 = s.1 := by unfold fai; split <;> rfl
theorem rdP_gt {tp : Nat → Nat} {sz : Nat} {s : PS} (hO : POk sz s) (h : (rdP tp sz s).2.1 = 0) : s.1.2.1 < (rdP tp sz s).1.2.1 := by
  unfold rdP at h ⊢
  split at h
  · exact absurd h (fai_ne (by decide))
  · rename_i h9
    rw [if_neg h9]
    split at h
    · rename_i hg
      rw [if_pos hg]
      obtain ⟨e, e1⟩ := mbn_good hg
      have g1 := (tokM_ge (tp := tp) hO.2.1).2 (by show (nxt tp sz s).1.2.2.1 ≠ 0; omega)
      have hO1 := hO.nxt (tp := tp)
      rw [e] at h ⊢
      cases hq : cld (nxt tp sz s) with
      | some q => rw [hq] at h; exact absurd h (fai_ne (by decide))
      | none =>
        have g2 := (tokM_ge (tp := tp) hO1.2.1).1
        show s.1.2.1 < (tokM tp sz (nxt tp sz s).1.2.1).2.1
        exact Nat.lt_of_lt_of_le g1 g2
    · rename_i hg
      exact absurd h hg
theorem rdL_gt {tp : Nat → Nat} {sz : Nat} {s : PS} (hO : POk sz s) (h : (rdL tp sz s).2.1 = 0) : s.1.2.1 < (rdL tp sz s).1.2.1 := by
  unfold rdL at h ⊢
  split at h
  · rename_i hg
    rw [if_pos hg]
    obtain ⟨e, e1⟩ := mbn_good hg
    have g1 := (tokM_ge (tp := tp) hO.2.1).2 (by show (nxt tp sz s).1.2.2.1 ≠ 0; omega)
    have hO1 := hO.nxt (tp := tp)
    rw [e] at h ⊢
    cases hq : cld (nxt tp sz s) with
    | none => rw [hq] at h; exact absurd h (fai_ne (by decide))
    | some p =>
      rw [hq] at h
      have h' : (rdL2 tp sz p (mbn (nxt tp sz (nxt tp sz s)))).2.1 = 0 := h
      show s.1.2.1 < (rdL2 tp sz p (mbn (nxt tp sz (nxt tp sz s)))).1.2.1
      unfold rdL2 at h' ⊢
      split at h'
      · rename_i hg4
        rw [if_pos hg4]
        obtain ⟨e4, e5⟩ := mbn_good hg4
        rw [e4] at h' ⊢
        have g2 := (tokM_ge (tp := tp) hO1.2.1).1
        have g3 := (tokM_ge (tp := tp) (hO1.nxt (tp := tp)).2.1).1
        cases hy : cld (nxt tp sz (nxt tp sz s)) with
        | none => rw [hy] at h'; exact absurd h' (fai_ne (by decide))
        | some q =>
          rw [hy] at h'
          dsimp only at h' ⊢
          split at h'
          · exact absurd h' (fai_ne (by decide))
          · rename_i hqp
            rw [if_neg hqp]
            split at h'
            · exact absurd h' (fai_ne (by decide))
            · rename_i hb
              rw [if_neg hb]
              exact Nat.lt_of_lt_of_le g1 (Nat.le_trans g2 g3)
      · rename_i hg4
        exact absurd h' hg4
  · rename_i hg
    exact absurd h hg
theorem stp_gt {tp : Nat → Nat} {sz : Nat} {s : PS} (hO : POk sz s) (h0 : POk sz (stpN0 tp sz s)) (h : (stpN1 tp sz (stpN0 tp sz s)).2.1 = 0) : s.1.2.1 < (stpN1 tp sz (stpN0 tp sz s)).1.2.1 := by
  have hz : (stpN0 tp sz s).2.1 = 0 := by
    unfold stpN1 at h
    split at h
    · assumption
    · assumption
  have h1 : s.1.2.1 < (stpN0 tp sz s).1.2.1 := by
    unfold stpN0 at hz ⊢
    split
    · rename_i hc; rw [if_pos hc] at hz; exact rdP_gt hO hz
    · rename_i hc
      rw [if_neg hc] at hz
      split
      · rename_i hc2; rw [if_pos hc2] at hz; exact rdL_gt hO hz
      · rename_i hc2; rw [if_neg hc2] at hz; exact absurd hz (fai_ne (by decide))
  unfold stpN1 at h ⊢
  rw [if_pos hz] at h ⊢
  split
  · have g := (tokM_ge (tp := tp) h0.2.1).1
    exact Nat.lt_of_lt_of_le h1 g
  · rename_i hc
    rw [if_neg hc] at h
    exact absurd h (fai_ne (by decide))
theorem lX12_net {G : Gx} {d : Nat} {Q : Option Value → Hp → Prop} (hd : 5 ≤ d) {σ0 : Hp} {m sz : Nat} {tp : Nat → Nat} (hsz : sz ≤ 600) (ht : ∀ k, tp k < 256) {α0 : Nat → Int32} {B0 : Nat → Nat → Int32} (h70 : α0 7 = nI sz) (hB0 : ∀ j, j < sz → B0 2 j = nI (tp j)) {v : PS} {e1 : Value} (hk : ∀ σ : Hp, PX σ0 σ m α0 B0 sz v → Wp G mX12_net d 115 [.ref m, e1] [] σ 0 0 Q) : ∀ (k : Nat) (σ : Hp) (s : PS), PX σ0 σ m α0 B0 sz s → (s.2.1 ≠ 0 ∨ sz < s.1.2.1 + k) → prs tp sz k s = v → Wp G mX12_net d 37 [.ref m, e1] [] σ 0 0 Q := by
  obtain ⟨d0, hdd⟩ : ∃ e, d = e + 1 := ⟨d - 1, by omega⟩
  intro k
  induction k with
  | zero =>
    intro σ s hX hc hv
    have hw0 : s.2.1 ≠ 0 := by
      rcases hc with h | h
      · exact h
      · have := hX.choose_spec.choose_spec.2.2.2.2.2.1; omega
    refine wp_aload_n (atd dX12_net 21 rfl) rfl rfl ?_
    refine wp_cVi hdd [] (atd dX12_net 22 rfl) iX12_isGood lX12_121 rfl rfl (Nat.le_of_ble_eq_true rfl) hX.choose_spec.choose_spec.1.1.1 rfl (eX12_isGood (by omega) hX) (fun r_38 s_38 h_38 => ?_)
    obtain ⟨rfl, rfl⟩ := h_38
    refine wp_ifB_eq (tgt := 115) (atd dX12_net 23 rfl) (by decide) (fun c_41 => ?_) (fun c_41 => ?_)
    ·
      subst hv
      exact hk _ hX
    · exact absurd c_41 hw0
  | succ k ih =>
    intro σ s hX hc hv
    have hOs : POk sz s := hX.choose_spec.choose_spec.2.2.2.2
    refine wp_aload_n (atd dX12_net 21 rfl) rfl rfl ?_
    refine wp_cVi hdd [] (atd dX12_net 22 rfl) iX12_isGood lX12_121 rfl rfl (Nat.le_of_ble_eq_true rfl) hX.choose_spec.choose_spec.1.1.1 rfl (eX12_isGood (by omega) hX) (fun r_38 s_38 h_38 => ?_)
    obtain ⟨rfl, rfl⟩ := h_38
    refine wp_ifB_eq (tgt := 115) (atd dX12_net 23 rfl) (by decide) (fun c_41 => ?_) (fun c_41 => ?_)
    ·
      have e : prs tp sz (k + 1) s = s := if_neg (fun z => c_41 z.1)
      rw [e] at hv
      subst hv
      exact hk _ hX
    ·
      obtain ⟨α, B, hM, hfa, hfb, hP, hO⟩ := id hX
      obtain ⟨o1, o2, o3, o4, o5, o6⟩ := id hO
      refine wp_aload_n (atd dX12_net 24 rfl) rfl rfl ?_
      refine wp_get fX12_108 (atd dX12_net 25 rfl) hM.1.1 (congrArg (fun z => some (Value.int z)) hP.1.2.2.1) ?_
      refine wp_ifN_eq (tgt := 115) (atd dX12_net 26 rfl) (by decide) (by omega) (fun c_48 => ?_) (fun c_48 => ?_)
      ·
        have e : prs tp sz (k + 1) s = s := if_neg (fun z => z.2 c_48)
        rw [e] at hv
        subst hv
        exact hk _ hX
      ·
        refine wp_aload_n (atd dX12_net 27 rfl) rfl rfl ?_
        refine wp_ldc (atd dX12_net 28 rfl) qX12_131 ?_
        refine wp_cVi hdd [_] (atd dX12_net 29 rfl) iX12_isWord lX12_132 rfl rfl (Nat.le_of_ble_eq_true rfl) hX.choose_spec.choose_spec.1.1.1 rfl (eX12_isWord (by omega) hX) (fun r_54 s_54 h_54 => ?_)
        obtain ⟨rfl, rfl⟩ := h_54
        refine wp_ifB_eq (tgt := 67) (atd dX12_net 30 rfl) (by decide) (fun c_57 => ?_) (fun c_57 => ?_)
        ·
          refine wp_aload_n (atd dX12_net 34 rfl) rfl rfl ?_
          refine wp_ldc (atd dX12_net 35 rfl) qX12_135 ?_
          refine wp_cVi hdd [_] (atd dX12_net 36 rfl) iX12_isWord lX12_132 rfl rfl (Nat.le_of_ble_eq_true rfl) hX.choose_spec.choose_spec.1.1.1 rfl (eX12_isWord (by omega) hX) (fun r_70 s_70 h_70 => ?_)
          obtain ⟨rfl, rfl⟩ := h_70
          refine wp_ifB_eq (tgt := 83) (atd dX12_net 37 rfl) (by decide) (fun c_73 => ?_) (fun c_73 => ?_)
          ·
            refine wp_aload_n (atd dX12_net 41 rfl) rfl rfl ?_
            refine wp_iconst (v := nI 2) (atd dX12_net 42 rfl) (by decide) ?_
            refine wp_cVv hdd [_] (atd dX12_net 43 rfl) iX12_fails lX12_136 rfl rfl (Nat.le_of_ble_eq_true rfl) hX.choose_spec.choose_spec.1.1.1 rfl (eX12_fails (by omega) hX (k := 2) (by omega)) (fun s_85 h_85 => ?_)
            have hX := h_85
            have hs0 : stpN0 tp sz s = fai 2 s := (if_neg c_57).trans (if_neg c_73)
            rw [← hs0] at hX
            generalize hs1 : stpN0 tp sz s = s1 at hX
            have hO1 : POk sz s1 := hX.choose_spec.choose_spec.2.2.2.2
            refine wp_aload_n (atd dX12_net 44 rfl) rfl rfl ?_
            refine wp_cVi hdd [] (atd dX12_net 45 rfl) iX12_isGood lX12_121 rfl rfl (Nat.le_of_ble_eq_true rfl) hX.choose_spec.choose_spec.1.1.1 rfl (eX12_isGood (by omega) hX) (fun r_89 s_89 h_89 => ?_)
            obtain ⟨rfl, rfl⟩ := h_89
            refine wp_ifB_eq (tgt := 108) (atd dX12_net 46 rfl) (by decide) (fun c_92 => ?_) (fun c_92 => ?_)
            ·
              refine wp_aload_n (atd dX12_net 54 rfl) rfl rfl ?_
              refine wp_cVv hdd [] (atd dX12_net 55 rfl) iX12_goOn lX12_146 rfl rfl (Nat.le_of_ble_eq_true rfl) hX.choose_spec.choose_spec.1.1.1 rfl (eX12_goOn (by omega) hsz ht h70 hB0 hX) (fun s_109 h_109 => ?_)
              have hX := h_109
              rw [if_neg c_92] at hX
              have hz1 : stpN1 tp sz s1 = s1 := if_neg c_92
              rw [← hz1] at hX
              refine wp_goto (tgt := 37) (atd dX12_net 56 rfl) (by decide) ?_
              refine ih _ _ hX ?_ (by rw [← hv, show prs tp sz (k + 1) s = prs tp sz k (stpN1 tp sz (stpN0 tp sz s)) from if_pos ⟨c_41, by omega⟩, hs1])
              by_cases hw0 : (stpN1 tp sz s1).2.1 = 0
              · refine Or.inr ?_
                have := stp_gt (tp := tp) hOs (by rw [hs1]; exact hO1) (by rw [hs1]; exact hw0)
                rw [hs1] at this
                omega
              · exact Or.inl hw0
            ·
              obtain ⟨α, B, hM, hfa, hfb, hP, hO⟩ := id hX
              obtain ⟨o1, o2, o3, o4, o5, o6⟩ := id hO
              refine wp_aload_n (atd dX12_net 47 rfl) rfl rfl ?_
              refine wp_get fX12_108 (atd dX12_net 48 rfl) hM.1.1 (congrArg (fun z => some (Value.int z)) hP.1.2.2.1) ?_
              refine wp_iconst (v := nI 2) (atd dX12_net 49 rfl) (by decide) ?_
              refine wp_icmpN_eq (tgt := 108) (atd dX12_net 50 rfl) (by decide) (by omega) (by omega) (fun c_100 => ?_) (fun c_100 => ?_)
              ·
                refine wp_aload_n (atd dX12_net 54 rfl) rfl rfl ?_
                refine wp_cVv hdd [] (atd dX12_net 55 rfl) iX12_goOn lX12_146 rfl rfl (Nat.le_of_ble_eq_true rfl) hX.choose_spec.choose_spec.1.1.1 rfl (eX12_goOn (by omega) hsz ht h70 hB0 hX) (fun s_109 h_109 => ?_)
                have hX := h_109
                rw [if_pos c_92] at hX
                have hz1 : stpN1 tp sz s1 = nxt tp sz s1 := (if_pos c_92).trans (if_pos c_100)
                rw [← hz1] at hX
                refine wp_goto (tgt := 37) (atd dX12_net 56 rfl) (by decide) ?_
                refine ih _ _ hX ?_ (by rw [← hv, show prs tp sz (k + 1) s = prs tp sz k (stpN1 tp sz (stpN0 tp sz s)) from if_pos ⟨c_41, by omega⟩, hs1])
                by_cases hw0 : (stpN1 tp sz s1).2.1 = 0
                · refine Or.inr ?_
                  have := stp_gt (tp := tp) hOs (by rw [hs1]; exact hO1) (by rw [hs1]; exact hw0)
                  rw [hs1] at this
                  omega
                · exact Or.inl hw0
              ·
                refine wp_aload_n (atd dX12_net 51 rfl) rfl rfl ?_
                refine wp_iconst (v := nI 2) (atd dX12_net 52 rfl) (by decide) ?_
                refine wp_cVv hdd [_] (atd dX12_net 53 rfl) iX12_fails lX12_136 rfl rfl (Nat.le_of_ble_eq_true rfl) hX.choose_spec.choose_spec.1.1.1 rfl (eX12_fails (by omega) hX (k := 2) (by omega)) (fun s_105 h_105 => ?_)
                have hX := h_105
                refine wp_aload_n (atd dX12_net 54 rfl) rfl rfl ?_
                refine wp_cVv hdd [] (atd dX12_net 55 rfl) iX12_goOn lX12_146 rfl rfl (Nat.le_of_ble_eq_true rfl) hX.choose_spec.choose_spec.1.1.1 rfl (eX12_goOn (by omega) hsz ht h70 hB0 hX) (fun s_109 h_109 => ?_)
                have hX := h_109
                rw [if_neg (fai_ne (by decide))] at hX
                have hz1 : stpN1 tp sz s1 = fai 2 s1 := (if_pos c_92).trans (if_neg c_100)
                rw [← hz1] at hX
                refine wp_goto (tgt := 37) (atd dX12_net 56 rfl) (by decide) ?_
                refine ih _ _ hX ?_ (by rw [← hv, show prs tp sz (k + 1) s = prs tp sz k (stpN1 tp sz (stpN0 tp sz s)) from if_pos ⟨c_41, by omega⟩, hs1])
                by_cases hw0 : (stpN1 tp sz s1).2.1 = 0
                · refine Or.inr ?_
                  have := stp_gt (tp := tp) hOs (by rw [hs1]; exact hO1) (by rw [hs1]; exact hw0)
                  rw [hs1] at this
                  omega
                · exact Or.inl hw0
          ·
            refine wp_aload_n (atd dX12_net 38 rfl) rfl rfl ?_
            refine wp_cVv hdd [] (atd dX12_net 39 rfl) iX12_readLine lX12_156 rfl rfl (Nat.le_of_ble_eq_true rfl) hX.choose_spec.choose_spec.1.1.1 rfl (eX12_readLine (by omega) hsz ht h70 hB0 hX) (fun s_77 h_77 => ?_)
            have hX := h_77
            have hs0 : stpN0 tp sz s = rdL tp sz s := (if_neg c_57).trans (if_pos c_73)
            rw [← hs0] at hX
            generalize hs1 : stpN0 tp sz s = s1 at hX
            refine wp_goto (tgt := 88) (atd dX12_net 40 rfl) (by decide) ?_
            have hO1 : POk sz s1 := hX.choose_spec.choose_spec.2.2.2.2
            refine wp_aload_n (atd dX12_net 44 rfl) rfl rfl ?_
            refine wp_cVi hdd [] (atd dX12_net 45 rfl) iX12_isGood lX12_121 rfl rfl (Nat.le_of_ble_eq_true rfl) hX.choose_spec.choose_spec.1.1.1 rfl (eX12_isGood (by omega) hX) (fun r_89 s_89 h_89 => ?_)
            obtain ⟨rfl, rfl⟩ := h_89
            refine wp_ifB_eq (tgt := 108) (atd dX12_net 46 rfl) (by decide) (fun c_92 => ?_) (fun c_92 => ?_)
            ·
              refine wp_aload_n (atd dX12_net 54 rfl) rfl rfl ?_
              refine wp_cVv hdd [] (atd dX12_net 55 rfl) iX12_goOn lX12_146 rfl rfl (Nat.le_of_ble_eq_true rfl) hX.choose_spec.choose_spec.1.1.1 rfl (eX12_goOn (by omega) hsz ht h70 hB0 hX) (fun s_109 h_109 => ?_)
              have hX := h_109
              rw [if_neg c_92] at hX
              have hz1 : stpN1 tp sz s1 = s1 := if_neg c_92
              rw [← hz1] at hX
              refine wp_goto (tgt := 37) (atd dX12_net 56 rfl) (by decide) ?_
              refine ih _ _ hX ?_ (by rw [← hv, show prs tp sz (k + 1) s = prs tp sz k (stpN1 tp sz (stpN0 tp sz s)) from if_pos ⟨c_41, by omega⟩, hs1])
              by_cases hw0 : (stpN1 tp sz s1).2.1 = 0
              · refine Or.inr ?_
                have := stp_gt (tp := tp) hOs (by rw [hs1]; exact hO1) (by rw [hs1]; exact hw0)
                rw [hs1] at this
                omega
              · exact Or.inl hw0
            ·
              obtain ⟨α, B, hM, hfa, hfb, hP, hO⟩ := id hX
              obtain ⟨o1, o2, o3, o4, o5, o6⟩ := id hO
              refine wp_aload_n (atd dX12_net 47 rfl) rfl rfl ?_
              refine wp_get fX12_108 (atd dX12_net 48 rfl) hM.1.1 (congrArg (fun z => some (Value.int z)) hP.1.2.2.1) ?_
              refine wp_iconst (v := nI 2) (atd dX12_net 49 rfl) (by decide) ?_
              refine wp_icmpN_eq (tgt := 108) (atd dX12_net 50 rfl) (by decide) (by omega) (by omega) (fun c_100 => ?_) (fun c_100 => ?_)
              ·
                refine wp_aload_n (atd dX12_net 54 rfl) rfl rfl ?_
                refine wp_cVv hdd [] (atd dX12_net 55 rfl) iX12_goOn lX12_146 rfl rfl (Nat.le_of_ble_eq_true rfl) hX.choose_spec.choose_spec.1.1.1 rfl (eX12_goOn (by omega) hsz ht h70 hB0 hX) (fun s_109 h_109 => ?_)
                have hX := h_109
                rw [if_pos c_92] at hX
                have hz1 : stpN1 tp sz s1 = nxt tp sz s1 := (if_pos c_92).trans (if_pos c_100)
                rw [← hz1] at hX
                refine wp_goto (tgt := 37) (atd dX12_net 56 rfl) (by decide) ?_
                refine ih _ _ hX ?_ (by rw [← hv, show prs tp sz (k + 1) s = prs tp sz k (stpN1 tp sz (stpN0 tp sz s)) from if_pos ⟨c_41, by omega⟩, hs1])
                by_cases hw0 : (stpN1 tp sz s1).2.1 = 0
                · refine Or.inr ?_
                  have := stp_gt (tp := tp) hOs (by rw [hs1]; exact hO1) (by rw [hs1]; exact hw0)
                  rw [hs1] at this
                  omega
                · exact Or.inl hw0
              ·
                refine wp_aload_n (atd dX12_net 51 rfl) rfl rfl ?_
                refine wp_iconst (v := nI 2) (atd dX12_net 52 rfl) (by decide) ?_
                refine wp_cVv hdd [_] (atd dX12_net 53 rfl) iX12_fails lX12_136 rfl rfl (Nat.le_of_ble_eq_true rfl) hX.choose_spec.choose_spec.1.1.1 rfl (eX12_fails (by omega) hX (k := 2) (by omega)) (fun s_105 h_105 => ?_)
                have hX := h_105
                refine wp_aload_n (atd dX12_net 54 rfl) rfl rfl ?_
                refine wp_cVv hdd [] (atd dX12_net 55 rfl) iX12_goOn lX12_146 rfl rfl (Nat.le_of_ble_eq_true rfl) hX.choose_spec.choose_spec.1.1.1 rfl (eX12_goOn (by omega) hsz ht h70 hB0 hX) (fun s_109 h_109 => ?_)
                have hX := h_109
                rw [if_neg (fai_ne (by decide))] at hX
                have hz1 : stpN1 tp sz s1 = fai 2 s1 := (if_pos c_92).trans (if_neg c_100)
                rw [← hz1] at hX
                refine wp_goto (tgt := 37) (atd dX12_net 56 rfl) (by decide) ?_
                refine ih _ _ hX ?_ (by rw [← hv, show prs tp sz (k + 1) s = prs tp sz k (stpN1 tp sz (stpN0 tp sz s)) from if_pos ⟨c_41, by omega⟩, hs1])
                by_cases hw0 : (stpN1 tp sz s1).2.1 = 0
                · refine Or.inr ?_
                  have := stp_gt (tp := tp) hOs (by rw [hs1]; exact hO1) (by rw [hs1]; exact hw0)
                  rw [hs1] at this
                  omega
                · exact Or.inl hw0
        ·
          refine wp_aload_n (atd dX12_net 31 rfl) rfl rfl ?_
          refine wp_cVv hdd [] (atd dX12_net 32 rfl) iX12_readPlace lX12_153 rfl rfl (Nat.le_of_ble_eq_true rfl) hX.choose_spec.choose_spec.1.1.1 rfl (eX12_readPlace (by omega) hsz ht h70 hB0 hX) (fun s_61 h_61 => ?_)
          have hX := h_61
          have hs0 : stpN0 tp sz s = rdP tp sz s := if_pos c_57
          rw [← hs0] at hX
          generalize hs1 : stpN0 tp sz s = s1 at hX
          refine wp_goto (tgt := 88) (atd dX12_net 33 rfl) (by decide) ?_
          have hO1 : POk sz s1 := hX.choose_spec.choose_spec.2.2.2.2
          refine wp_aload_n (atd dX12_net 44 rfl) rfl rfl ?_
          refine wp_cVi hdd [] (atd dX12_net 45 rfl) iX12_isGood lX12_121 rfl rfl (Nat.le_of_ble_eq_true rfl) hX.choose_spec.choose_spec.1.1.1 rfl (eX12_isGood (by omega) hX) (fun r_89 s_89 h_89 => ?_)
          obtain ⟨rfl, rfl⟩ := h_89
          refine wp_ifB_eq (tgt := 108) (atd dX12_net 46 rfl) (by decide) (fun c_92 => ?_) (fun c_92 => ?_)
          ·
            refine wp_aload_n (atd dX12_net 54 rfl) rfl rfl ?_
            refine wp_cVv hdd [] (atd dX12_net 55 rfl) iX12_goOn lX12_146 rfl rfl (Nat.le_of_ble_eq_true rfl) hX.choose_spec.choose_spec.1.1.1 rfl (eX12_goOn (by omega) hsz ht h70 hB0 hX) (fun s_109 h_109 => ?_)
            have hX := h_109
            rw [if_neg c_92] at hX
            have hz1 : stpN1 tp sz s1 = s1 := if_neg c_92
            rw [← hz1] at hX
            refine wp_goto (tgt := 37) (atd dX12_net 56 rfl) (by decide) ?_
            refine ih _ _ hX ?_ (by rw [← hv, show prs tp sz (k + 1) s = prs tp sz k (stpN1 tp sz (stpN0 tp sz s)) from if_pos ⟨c_41, by omega⟩, hs1])
            by_cases hw0 : (stpN1 tp sz s1).2.1 = 0
            · refine Or.inr ?_
              have := stp_gt (tp := tp) hOs (by rw [hs1]; exact hO1) (by rw [hs1]; exact hw0)
              rw [hs1] at this
              omega
            · exact Or.inl hw0
          ·
            obtain ⟨α, B, hM, hfa, hfb, hP, hO⟩ := id hX
            obtain ⟨o1, o2, o3, o4, o5, o6⟩ := id hO
            refine wp_aload_n (atd dX12_net 47 rfl) rfl rfl ?_
            refine wp_get fX12_108 (atd dX12_net 48 rfl) hM.1.1 (congrArg (fun z => some (Value.int z)) hP.1.2.2.1) ?_
            refine wp_iconst (v := nI 2) (atd dX12_net 49 rfl) (by decide) ?_
            refine wp_icmpN_eq (tgt := 108) (atd dX12_net 50 rfl) (by decide) (by omega) (by omega) (fun c_100 => ?_) (fun c_100 => ?_)
            ·
              refine wp_aload_n (atd dX12_net 54 rfl) rfl rfl ?_
              refine wp_cVv hdd [] (atd dX12_net 55 rfl) iX12_goOn lX12_146 rfl rfl (Nat.le_of_ble_eq_true rfl) hX.choose_spec.choose_spec.1.1.1 rfl (eX12_goOn (by omega) hsz ht h70 hB0 hX) (fun s_109 h_109 => ?_)
              have hX := h_109
              rw [if_pos c_92] at hX
              have hz1 : stpN1 tp sz s1 = nxt tp sz s1 := (if_pos c_92).trans (if_pos c_100)
              rw [← hz1] at hX
              refine wp_goto (tgt := 37) (atd dX12_net 56 rfl) (by decide) ?_
              refine ih _ _ hX ?_ (by rw [← hv, show prs tp sz (k + 1) s = prs tp sz k (stpN1 tp sz (stpN0 tp sz s)) from if_pos ⟨c_41, by omega⟩, hs1])
              by_cases hw0 : (stpN1 tp sz s1).2.1 = 0
              · refine Or.inr ?_
                have := stp_gt (tp := tp) hOs (by rw [hs1]; exact hO1) (by rw [hs1]; exact hw0)
                rw [hs1] at this
                omega
              · exact Or.inl hw0
            ·
              refine wp_aload_n (atd dX12_net 51 rfl) rfl rfl ?_
              refine wp_iconst (v := nI 2) (atd dX12_net 52 rfl) (by decide) ?_
              refine wp_cVv hdd [_] (atd dX12_net 53 rfl) iX12_fails lX12_136 rfl rfl (Nat.le_of_ble_eq_true rfl) hX.choose_spec.choose_spec.1.1.1 rfl (eX12_fails (by omega) hX (k := 2) (by omega)) (fun s_105 h_105 => ?_)
              have hX := h_105
              refine wp_aload_n (atd dX12_net 54 rfl) rfl rfl ?_
              refine wp_cVv hdd [] (atd dX12_net 55 rfl) iX12_goOn lX12_146 rfl rfl (Nat.le_of_ble_eq_true rfl) hX.choose_spec.choose_spec.1.1.1 rfl (eX12_goOn (by omega) hsz ht h70 hB0 hX) (fun s_109 h_109 => ?_)
              have hX := h_109
              rw [if_neg (fai_ne (by decide))] at hX
              have hz1 : stpN1 tp sz s1 = fai 2 s1 := (if_pos c_92).trans (if_neg c_100)
              rw [← hz1] at hX
              refine wp_goto (tgt := 37) (atd dX12_net 56 rfl) (by decide) ?_
              refine ih _ _ hX ?_ (by rw [← hv, show prs tp sz (k + 1) s = prs tp sz k (stpN1 tp sz (stpN0 tp sz s)) from if_pos ⟨c_41, by omega⟩, hs1])
              by_cases hw0 : (stpN1 tp sz s1).2.1 = 0
              · refine Or.inr ?_
                have := stp_gt (tp := tp) hOs (by rw [hs1]; exact hO1) (by rw [hs1]; exact hw0)
                rw [hs1] at this
                omega
              · exact Or.inl hw0
