theorem PSt.linM {α : Nat → Int32} {B : Nat → Nat → Int32} {s : PS} {p q : Nat} (h : PSt α B s) (hpq : q ≠ p) : PSt α (va_up (va_up B 4 (upd (B 4) p (nI (s.2.2.2.2.2 p ||| 2 ^ q)))) 4 (upd (va_up B 4 (upd (B 4) p (nI (s.2.2.2.2.2 p ||| 2 ^ q))) 4) q (nI (s.2.2.2.2.2 q ||| 2 ^ p)))) (linM s p q) := by
  refine ⟨h.1, h.2.1, h.2.2.1, h.2.2.2.1, h.2.2.2.2.1, fun i hi => ?_⟩
  have hi' : i < s.2.2.2.1 := hi
  show upd (upd (B 4) p (nI (s.2.2.2.2.2 p ||| 2 ^ q))) q (nI (s.2.2.2.2.2 q ||| 2 ^ p)) i = nI (va_up (va_up s.2.2.2.2.2 p (s.2.2.2.2.2 p ||| 2 ^ q)) q (s.2.2.2.2.2 q ||| 2 ^ p) i)
  by_cases e : i = q
  · simp [upd, va_up, e]
  · by_cases e2 : i = p
    · simp [upd, va_up, e, e2]
      rw [if_neg (fun z => hpq z.symm), if_neg (fun z => hpq z.symm)]
    · simp [upd, va_up, e, e2, h.2.2.2.2.2 i hi']
theorem POk.linM {sz : Nat} {s : PS} {p q : Nat} (h : POk sz s) (hp : p < 9) (hq : q < 9) : POk sz (linM s p q) := by
  refine ⟨h.1, h.2.1, h.2.2.1, h.2.2.2.1, h.2.2.2.2.1, fun i => ?_⟩
  show va_up (va_up s.2.2.2.2.2 p (s.2.2.2.2.2 p ||| 2 ^ q)) q (s.2.2.2.2.2 q ||| 2 ^ p) i < 512
  have ho := h.2.2.2.2.2
  unfold va_up
  split
  · exact or_lt9 (ho q) (pow_lt9 hp)
  · split
    · exact or_lt9 (ho p) (pow_lt9 hq)
    · exact ho i
theorem eX12_readLine {G : Gx} {d : Nat} {σ : Hp} (hd : 4 ≤ d) {σ0 : Hp} {m sz : Nat} {tp : Nat → Nat} (hsz : sz ≤ 600) (ht : ∀ k, tp k < 256) {α0 : Nat → Int32} {B0 : Nat → Nat → Int32} (h70 : α0 7 = nI sz) (hB0 : ∀ j, j < sz → B0 2 j = nI (tp j)) {s : PS} (hX : PX σ0 σ m α0 B0 sz s) : Cl G mX12_readLine d [.ref m] σ 0 0 (pV fun s2 => PX σ0 s2 m α0 B0 sz (rdL tp sz s)) := by
  obtain ⟨d0, hdd⟩ : ∃ e, d = e + 1 := ⟨d - 1, by omega⟩
  refine cl_of (by decide) (by simp [Value.category]) (Nat.le_of_ble_eq_true rfl) ?_
  show Wp G mX12_readLine d 0 [.ref m, .double 0, .double 0] [] σ 0 0 _
  refine wp_aload_n (atd dX12_readLine 0 rfl) rfl rfl ?_
  refine wp_cVv hdd [] (atd dX12_readLine 1 rfl) iX12_next lX12_125 rfl rfl (Nat.le_of_ble_eq_true rfl) hX.choose_spec.choose_spec.1.1.1 rfl (eX12_nx (by omega) hsz ht h70 hB0 hX) (fun s_1 h_1 => ?_)
  have hX := h_1
  refine wp_aload_n (atd dX12_readLine 2 rfl) rfl rfl ?_
  refine wp_cVv hdd [] (atd dX12_readLine 3 rfl) iX12_mustBeName lX12_139 rfl rfl (Nat.le_of_ble_eq_true rfl) hX.choose_spec.choose_spec.1.1.1 rfl (eX12_mustBeName (by omega) hX) (fun s_5 h_5 => ?_)
  have hX := h_5
  generalize hs1 : mbn (nxt tp sz s) = s1 at hX
  refine wp_aload_n (atd dX12_readLine 4 rfl) rfl rfl ?_
  refine wp_cVi hdd [] (atd dX12_readLine 5 rfl) iX12_isGood lX12_121 rfl rfl (Nat.le_of_ble_eq_true rfl) hX.choose_spec.choose_spec.1.1.1 rfl (eX12_isGood (by omega) hX) (fun r_9 s_9 h_9 => ?_)
  obtain ⟨rfl, rfl⟩ := h_9
  refine wp_ifB_eq (tgt := 22) (atd dX12_readLine 6 rfl) (by decide) (fun c_12 => ?_) (fun c_12 => ?_)
  ·
    refine wp_iconst (v := nI 0) (atd dX12_readLine 10 rfl) (by decide) ?_
    refine wp_istore_n (atd dX12_readLine 11 rfl) (Nat.le_of_ble_eq_true rfl) ?_
    obtain ⟨α, B, hM, hfa, hfb, hP, hO⟩ := id hX
    obtain ⟨o1, o2, o3, o4, o5, o6⟩ := id hO
    refine wp_iload_n (atd dX12_readLine 12 rfl) rfl ?_
    refine wp_ifN_ge (tgt := 33) (atd dX12_readLine 13 rfl) (by decide) (by omega) ?_
    refine wp_aload_n (atd dX12_readLine 17 rfl) rfl rfl ?_
    refine wp_cVv hdd [] (atd dX12_readLine 18 rfl) iX12_goOn lX12_146 rfl rfl (Nat.le_of_ble_eq_true rfl) hX.choose_spec.choose_spec.1.1.1 rfl (eX12_goOn (by omega) hsz ht h70 hB0 hX) (fun s_34 h_34 => ?_)
    have hX := h_34
    rw [if_neg c_12] at hX
    refine wp_aload_n (atd dX12_readLine 19 rfl) rfl rfl ?_
    refine wp_cVv hdd [] (atd dX12_readLine 20 rfl) iX12_mustBeName lX12_139 rfl rfl (Nat.le_of_ble_eq_true rfl) hX.choose_spec.choose_spec.1.1.1 rfl (eX12_mustBeName (by omega) hX) (fun s_38 h_38 => ?_)
    have hX := h_38
    rw [mbn_bad c_12] at hX
    refine wp_aload_n (atd dX12_readLine 21 rfl) rfl rfl ?_
    refine wp_cVi hdd [] (atd dX12_readLine 22 rfl) iX12_isGood lX12_121 rfl rfl (Nat.le_of_ble_eq_true rfl) hX.choose_spec.choose_spec.1.1.1 rfl (eX12_isGood (by omega) hX) (fun r_42 s_42 h_42 => ?_)
    obtain ⟨rfl, rfl⟩ := h_42
    refine wp_ifB_eq (tgt := 55) (atd dX12_readLine 23 rfl) (by decide) (fun c_45 => ?_) (fun c_45 => ?_)
    ·
      refine wp_iconst (v := nI 0) (atd dX12_readLine 27 rfl) (by decide) ?_
      refine wp_istore_n (atd dX12_readLine 28 rfl) (Nat.le_of_ble_eq_true rfl) ?_
      refine wp_aload_n (atd dX12_readLine 29 rfl) rfl rfl ?_
      refine wp_cVi hdd [] (atd dX12_readLine 30 rfl) iX12_isGood lX12_121 rfl rfl (Nat.le_of_ble_eq_true rfl) hX.choose_spec.choose_spec.1.1.1 rfl (eX12_isGood (by omega) hX) (fun r_58 s_58 h_58 => ?_)
      obtain ⟨rfl, rfl⟩ := h_58
      refine wp_ifB_eq (tgt := 78) (atd dX12_readLine 31 rfl) (by decide) (fun c_61 => ?_) (fun c_61 => ?_)
      ·
        refine wp_aload_n (atd dX12_readLine 40 rfl) rfl rfl ?_
        refine wp_cVi hdd [] (atd dX12_readLine 41 rfl) iX12_isGood lX12_121 rfl rfl (Nat.le_of_ble_eq_true rfl) hX.choose_spec.choose_spec.1.1.1 rfl (eX12_isGood (by omega) hX) (fun r_79 s_79 h_79 => ?_)
        obtain ⟨rfl, rfl⟩ := h_79
        refine wp_ifB_eq (tgt := 103) (atd dX12_readLine 42 rfl) (by decide) (fun c_82 => ?_) (fun c_82 => ?_)
        ·
          refine wp_aload_n (atd dX12_readLine 53 rfl) rfl rfl ?_
          refine wp_cVi hdd [] (atd dX12_readLine 54 rfl) iX12_isGood lX12_121 rfl rfl (Nat.le_of_ble_eq_true rfl) hX.choose_spec.choose_spec.1.1.1 rfl (eX12_isGood (by omega) hX) (fun r_104 s_104 h_104 => ?_)
          obtain ⟨rfl, rfl⟩ := h_104
          refine wp_ifB_eq (tgt := 134) (atd dX12_readLine 55 rfl) (by decide) (fun c_107 => ?_) (fun c_107 => ?_)
          ·
            refine wp_aload_n (atd dX12_readLine 76 rfl) rfl rfl ?_
            refine wp_cVv hdd [] (atd dX12_readLine 77 rfl) iX12_goOn lX12_146 rfl rfl (Nat.le_of_ble_eq_true rfl) hX.choose_spec.choose_spec.1.1.1 rfl (eX12_goOn (by omega) hsz ht h70 hB0 hX) (fun s_135 h_135 => ?_)
            have hX := h_135
            rw [if_neg c_12] at hX
            refine wp_vretv (atd dX12_readLine 78 rfl) rfl ?_
            unfold rdL; rw [hs1, if_neg c_12]; exact hX
          · exact absurd c_107 c_12
        · exact absurd c_82 c_12
      · exact absurd c_61 c_12
    · exact absurd c_45 c_12
  ·
    refine wp_aload_n (atd dX12_readLine 7 rfl) rfl rfl ?_
    refine wp_cVi hdd [] (atd dX12_readLine 8 rfl) iX12_called lX12_142 rfl rfl (Nat.le_of_ble_eq_true rfl) hX.choose_spec.choose_spec.1.1.1 rfl (eX12_called (by omega) hX) (fun r_16 s_16 h_16 => ?_)
    obtain ⟨rfl, rfl⟩ := h_16
    generalize hx : cld s1 = xx; rcases xx with _ | p
    ·
      refine wp_goto (tgt := 23) (atd dX12_readLine 9 rfl) (by decide) ?_
      refine wp_istore_n (atd dX12_readLine 11 rfl) (Nat.le_of_ble_eq_true rfl) ?_
      obtain ⟨α, B, hM, hfa, hfb, hP, hO⟩ := id hX
      obtain ⟨o1, o2, o3, o4, o5, o6⟩ := id hO
      refine wp_iload_n (atd dX12_readLine 12 rfl) rfl ?_
      refine wp_if_ge (tgt := 33) (atd dX12_readLine 13 rfl) (by decide) (fun c_25 => ?_) (fun c_25 => ?_)
      · exact absurd c_25 (by decide)
      ·
        refine wp_aload_n (atd dX12_readLine 14 rfl) rfl rfl ?_
        refine wp_iconst (v := nI 3) (atd dX12_readLine 15 rfl) (by decide) ?_
        refine wp_cVv hdd [_] (atd dX12_readLine 16 rfl) iX12_fails lX12_136 rfl rfl (Nat.le_of_ble_eq_true rfl) hX.choose_spec.choose_spec.1.1.1 rfl (eX12_fails (by omega) hX (k := 3) (by omega)) (fun s_30 h_30 => ?_)
        have hX := h_30
        refine wp_aload_n (atd dX12_readLine 17 rfl) rfl rfl ?_
        refine wp_cVv hdd [] (atd dX12_readLine 18 rfl) iX12_goOn lX12_146 rfl rfl (Nat.le_of_ble_eq_true rfl) hX.choose_spec.choose_spec.1.1.1 rfl (eX12_goOn (by omega) hsz ht h70 hB0 hX) (fun s_34 h_34 => ?_)
        have hX := h_34
        rw [if_neg (fai_ne (by decide))] at hX
        refine wp_aload_n (atd dX12_readLine 19 rfl) rfl rfl ?_
        refine wp_cVv hdd [] (atd dX12_readLine 20 rfl) iX12_mustBeName lX12_139 rfl rfl (Nat.le_of_ble_eq_true rfl) hX.choose_spec.choose_spec.1.1.1 rfl (eX12_mustBeName (by omega) hX) (fun s_38 h_38 => ?_)
        have hX := h_38
        rw [mbn_bad (fai_ne (by decide))] at hX
        refine wp_aload_n (atd dX12_readLine 21 rfl) rfl rfl ?_
        refine wp_cVi hdd [] (atd dX12_readLine 22 rfl) iX12_isGood lX12_121 rfl rfl (Nat.le_of_ble_eq_true rfl) hX.choose_spec.choose_spec.1.1.1 rfl (eX12_isGood (by omega) hX) (fun r_42 s_42 h_42 => ?_)
        obtain ⟨rfl, rfl⟩ := h_42
        refine wp_ifB_eq (tgt := 55) (atd dX12_readLine 23 rfl) (by decide) (fun c_45 => ?_) (fun c_45 => ?_)
        ·
          refine wp_iconst (v := nI 0) (atd dX12_readLine 27 rfl) (by decide) ?_
          refine wp_istore_n (atd dX12_readLine 28 rfl) (Nat.le_of_ble_eq_true rfl) ?_
          refine wp_aload_n (atd dX12_readLine 29 rfl) rfl rfl ?_
          refine wp_cVi hdd [] (atd dX12_readLine 30 rfl) iX12_isGood lX12_121 rfl rfl (Nat.le_of_ble_eq_true rfl) hX.choose_spec.choose_spec.1.1.1 rfl (eX12_isGood (by omega) hX) (fun r_58 s_58 h_58 => ?_)
          obtain ⟨rfl, rfl⟩ := h_58
          refine wp_ifB_eq (tgt := 78) (atd dX12_readLine 31 rfl) (by decide) (fun c_61 => ?_) (fun c_61 => ?_)
          ·
            refine wp_aload_n (atd dX12_readLine 40 rfl) rfl rfl ?_
            refine wp_cVi hdd [] (atd dX12_readLine 41 rfl) iX12_isGood lX12_121 rfl rfl (Nat.le_of_ble_eq_true rfl) hX.choose_spec.choose_spec.1.1.1 rfl (eX12_isGood (by omega) hX) (fun r_79 s_79 h_79 => ?_)
            obtain ⟨rfl, rfl⟩ := h_79
            refine wp_ifB_eq (tgt := 103) (atd dX12_readLine 42 rfl) (by decide) (fun c_82 => ?_) (fun c_82 => ?_)
            ·
              refine wp_aload_n (atd dX12_readLine 53 rfl) rfl rfl ?_
              refine wp_cVi hdd [] (atd dX12_readLine 54 rfl) iX12_isGood lX12_121 rfl rfl (Nat.le_of_ble_eq_true rfl) hX.choose_spec.choose_spec.1.1.1 rfl (eX12_isGood (by omega) hX) (fun r_104 s_104 h_104 => ?_)
              obtain ⟨rfl, rfl⟩ := h_104
              refine wp_ifB_eq (tgt := 134) (atd dX12_readLine 55 rfl) (by decide) (fun c_107 => ?_) (fun c_107 => ?_)
              ·
                refine wp_aload_n (atd dX12_readLine 76 rfl) rfl rfl ?_
                refine wp_cVv hdd [] (atd dX12_readLine 77 rfl) iX12_goOn lX12_146 rfl rfl (Nat.le_of_ble_eq_true rfl) hX.choose_spec.choose_spec.1.1.1 rfl (eX12_goOn (by omega) hsz ht h70 hB0 hX) (fun s_135 h_135 => ?_)
                have hX := h_135
                rw [if_neg (fai_ne (by decide))] at hX
                refine wp_vretv (atd dX12_readLine 78 rfl) rfl ?_
                unfold rdL; rw [hs1, if_pos c_12, hx]; exact hX
              · exact absurd c_107 (fai_ne (by decide))
            · exact absurd c_82 (fai_ne (by decide))
          · exact absurd c_61 (fai_ne (by decide))
        · exact absurd c_45 (fai_ne (by decide))
    ·
      have hp9 := cld_lt hx
      refine wp_goto (tgt := 23) (atd dX12_readLine 9 rfl) (by decide) ?_
      refine wp_istore_n (atd dX12_readLine 11 rfl) (Nat.le_of_ble_eq_true rfl) ?_
      obtain ⟨α, B, hM, hfa, hfb, hP, hO⟩ := id hX
      obtain ⟨o1, o2, o3, o4, o5, o6⟩ := id hO
      refine wp_iload_n (atd dX12_readLine 12 rfl) rfl ?_
      refine wp_ifN_ge (tgt := 33) (atd dX12_readLine 13 rfl) (by decide) (by omega) ?_
      refine wp_aload_n (atd dX12_readLine 17 rfl) rfl rfl ?_
      refine wp_cVv hdd [] (atd dX12_readLine 18 rfl) iX12_goOn lX12_146 rfl rfl (Nat.le_of_ble_eq_true rfl) hX.choose_spec.choose_spec.1.1.1 rfl (eX12_goOn (by omega) hsz ht h70 hB0 hX) (fun s_34 h_34 => ?_)
      have hX := h_34
      rw [if_pos c_12] at hX
      refine wp_aload_n (atd dX12_readLine 19 rfl) rfl rfl ?_
      refine wp_cVv hdd [] (atd dX12_readLine 20 rfl) iX12_mustBeName lX12_139 rfl rfl (Nat.le_of_ble_eq_true rfl) hX.choose_spec.choose_spec.1.1.1 rfl (eX12_mustBeName (by omega) hX) (fun s_38 h_38 => ?_)
      have hX := h_38
      generalize hs4 : mbn (nxt tp sz s1) = s4 at hX
      have hrd4 : s4.2.2.2.1 = s1.2.2.2.1 := by rw [← hs4, mbn_rd]; rfl
      refine wp_aload_n (atd dX12_readLine 21 rfl) rfl rfl ?_
      refine wp_cVi hdd [] (atd dX12_readLine 22 rfl) iX12_isGood lX12_121 rfl rfl (Nat.le_of_ble_eq_true rfl) hX.choose_spec.choose_spec.1.1.1 rfl (eX12_isGood (by omega) hX) (fun r_42 s_42 h_42 => ?_)
      obtain ⟨rfl, rfl⟩ := h_42
      refine wp_ifB_eq (tgt := 55) (atd dX12_readLine 23 rfl) (by decide) (fun c_45 => ?_) (fun c_45 => ?_)
      ·
        refine wp_iconst (v := nI 0) (atd dX12_readLine 27 rfl) (by decide) ?_
        refine wp_istore_n (atd dX12_readLine 28 rfl) (Nat.le_of_ble_eq_true rfl) ?_
        refine wp_aload_n (atd dX12_readLine 29 rfl) rfl rfl ?_
        refine wp_cVi hdd [] (atd dX12_readLine 30 rfl) iX12_isGood lX12_121 rfl rfl (Nat.le_of_ble_eq_true rfl) hX.choose_spec.choose_spec.1.1.1 rfl (eX12_isGood (by omega) hX) (fun r_58 s_58 h_58 => ?_)
        obtain ⟨rfl, rfl⟩ := h_58
        refine wp_ifB_eq (tgt := 78) (atd dX12_readLine 31 rfl) (by decide) (fun c_61 => ?_) (fun c_61 => ?_)
        ·
          refine wp_aload_n (atd dX12_readLine 40 rfl) rfl rfl ?_
          refine wp_cVi hdd [] (atd dX12_readLine 41 rfl) iX12_isGood lX12_121 rfl rfl (Nat.le_of_ble_eq_true rfl) hX.choose_spec.choose_spec.1.1.1 rfl (eX12_isGood (by omega) hX) (fun r_79 s_79 h_79 => ?_)
          obtain ⟨rfl, rfl⟩ := h_79
          refine wp_ifB_eq (tgt := 103) (atd dX12_readLine 42 rfl) (by decide) (fun c_82 => ?_) (fun c_82 => ?_)
          ·
            refine wp_aload_n (atd dX12_readLine 53 rfl) rfl rfl ?_
            refine wp_cVi hdd [] (atd dX12_readLine 54 rfl) iX12_isGood lX12_121 rfl rfl (Nat.le_of_ble_eq_true rfl) hX.choose_spec.choose_spec.1.1.1 rfl (eX12_isGood (by omega) hX) (fun r_104 s_104 h_104 => ?_)
            obtain ⟨rfl, rfl⟩ := h_104
            refine wp_ifB_eq (tgt := 134) (atd dX12_readLine 55 rfl) (by decide) (fun c_107 => ?_) (fun c_107 => ?_)
            ·
              refine wp_aload_n (atd dX12_readLine 76 rfl) rfl rfl ?_
              refine wp_cVv hdd [] (atd dX12_readLine 77 rfl) iX12_goOn lX12_146 rfl rfl (Nat.le_of_ble_eq_true rfl) hX.choose_spec.choose_spec.1.1.1 rfl (eX12_goOn (by omega) hsz ht h70 hB0 hX) (fun s_135 h_135 => ?_)
              have hX := h_135
              rw [if_neg c_45] at hX
              refine wp_vretv (atd dX12_readLine 78 rfl) rfl ?_
              unfold rdL; rw [hs1, if_pos c_12, hx]; show PX σ0 _ m α0 B0 sz (rdL2 tp sz p (mbn (nxt tp sz s1))); rw [hs4]; unfold rdL2; rw [if_neg c_45]; exact hX
            · exact absurd c_107 c_45
          · exact absurd c_82 c_45
        · exact absurd c_61 c_45
      ·
        refine wp_aload_n (atd dX12_readLine 24 rfl) rfl rfl ?_
        refine wp_cVi hdd [] (atd dX12_readLine 25 rfl) iX12_called lX12_142 rfl rfl (Nat.le_of_ble_eq_true rfl) hX.choose_spec.choose_spec.1.1.1 rfl (eX12_called (by omega) hX) (fun r_49 s_49 h_49 => ?_)
        obtain ⟨rfl, rfl⟩ := h_49
        generalize hy : cld s4 = yy; rcases yy with _ | q
        ·
          refine wp_goto (tgt := 56) (atd dX12_readLine 26 rfl) (by decide) ?_
          refine wp_istore_n (atd dX12_readLine 28 rfl) (Nat.le_of_ble_eq_true rfl) ?_
          refine wp_aload_n (atd dX12_readLine 29 rfl) rfl rfl ?_
          refine wp_cVi hdd [] (atd dX12_readLine 30 rfl) iX12_isGood lX12_121 rfl rfl (Nat.le_of_ble_eq_true rfl) hX.choose_spec.choose_spec.1.1.1 rfl (eX12_isGood (by omega) hX) (fun r_58 s_58 h_58 => ?_)
          obtain ⟨rfl, rfl⟩ := h_58
          refine wp_ifB_eq (tgt := 78) (atd dX12_readLine 31 rfl) (by decide) (fun c_61 => ?_) (fun c_61 => ?_)
          · exact absurd c_45 c_61
          ·
            obtain ⟨α, B, hM, hfa, hfb, hP, hO⟩ := id hX
            obtain ⟨o1, o2, o3, o4, o5, o6⟩ := id hO
            refine wp_iload_n (atd dX12_readLine 32 rfl) rfl ?_
            refine wp_if_lt (tgt := 73) (atd dX12_readLine 33 rfl) (by decide) (fun c_65 => ?_) (fun c_65 => ?_)
            ·
              refine wp_aload_n (atd dX12_readLine 37 rfl) rfl rfl ?_
              refine wp_iconst (v := nI 3) (atd dX12_readLine 38 rfl) (by decide) ?_
              refine wp_cVv hdd [_] (atd dX12_readLine 39 rfl) iX12_fails lX12_136 rfl rfl (Nat.le_of_ble_eq_true rfl) hX.choose_spec.choose_spec.1.1.1 rfl (eX12_fails (by omega) hX (k := 3) (by omega)) (fun s_75 h_75 => ?_)
              have hX := h_75
              refine wp_aload_n (atd dX12_readLine 40 rfl) rfl rfl ?_
              refine wp_cVi hdd [] (atd dX12_readLine 41 rfl) iX12_isGood lX12_121 rfl rfl (Nat.le_of_ble_eq_true rfl) hX.choose_spec.choose_spec.1.1.1 rfl (eX12_isGood (by omega) hX) (fun r_79 s_79 h_79 => ?_)
              obtain ⟨rfl, rfl⟩ := h_79
              refine wp_ifB_eq (tgt := 103) (atd dX12_readLine 42 rfl) (by decide) (fun c_82 => ?_) (fun c_82 => ?_)
              ·
                refine wp_aload_n (atd dX12_readLine 53 rfl) rfl rfl ?_
                refine wp_cVi hdd [] (atd dX12_readLine 54 rfl) iX12_isGood lX12_121 rfl rfl (Nat.le_of_ble_eq_true rfl) hX.choose_spec.choose_spec.1.1.1 rfl (eX12_isGood (by omega) hX) (fun r_104 s_104 h_104 => ?_)
                obtain ⟨rfl, rfl⟩ := h_104
                refine wp_ifB_eq (tgt := 134) (atd dX12_readLine 55 rfl) (by decide) (fun c_107 => ?_) (fun c_107 => ?_)
                ·
                  refine wp_aload_n (atd dX12_readLine 76 rfl) rfl rfl ?_
                  refine wp_cVv hdd [] (atd dX12_readLine 77 rfl) iX12_goOn lX12_146 rfl rfl (Nat.le_of_ble_eq_true rfl) hX.choose_spec.choose_spec.1.1.1 rfl (eX12_goOn (by omega) hsz ht h70 hB0 hX) (fun s_135 h_135 => ?_)
                  have hX := h_135
                  rw [if_neg (fai_ne (by decide))] at hX
                  refine wp_vretv (atd dX12_readLine 78 rfl) rfl ?_
                  unfold rdL; rw [hs1, if_pos c_12, hx]; show PX σ0 _ m α0 B0 sz (rdL2 tp sz p (mbn (nxt tp sz s1))); rw [hs4]; unfold rdL2; rw [if_pos c_45, hy]; exact hX
                · exact absurd c_107 (fai_ne (by decide))
              · exact absurd c_82 (fai_ne (by decide))
            · exact absurd (by decide) c_65
        ·
          have hq9 := cld_lt hy
          obtain ⟨α, B, hM, hfa, hfb, hP, hO⟩ := id hX
          obtain ⟨o1, o2, o3, o4, o5, o6⟩ := id hO
          refine wp_goto (tgt := 56) (atd dX12_readLine 26 rfl) (by decide) ?_
          refine wp_istore_n (atd dX12_readLine 28 rfl) (Nat.le_of_ble_eq_true rfl) ?_
          refine wp_aload_n (atd dX12_readLine 29 rfl) rfl rfl ?_
          refine wp_cVi hdd [] (atd dX12_readLine 30 rfl) iX12_isGood lX12_121 rfl rfl (Nat.le_of_ble_eq_true rfl) hX.choose_spec.choose_spec.1.1.1 rfl (eX12_isGood (by omega) hX) (fun r_58 s_58 h_58 => ?_)
          obtain ⟨rfl, rfl⟩ := h_58
          refine wp_ifB_eq (tgt := 78) (atd dX12_readLine 31 rfl) (by decide) (fun c_61 => ?_) (fun c_61 => ?_)
          · exact absurd c_45 c_61
          ·
            obtain ⟨α, B, hM, hfa, hfb, hP, hO⟩ := id hX
            obtain ⟨o1, o2, o3, o4, o5, o6⟩ := id hO
            refine wp_iload_n (atd dX12_readLine 32 rfl) rfl ?_
            refine wp_ifN_lt (tgt := 73) (atd dX12_readLine 33 rfl) (by decide) (by omega) ?_
            obtain ⟨α, B, hM, hfa, hfb, hP, hO⟩ := id hX
            obtain ⟨o1, o2, o3, o4, o5, o6⟩ := id hO
            refine wp_iload_n (atd dX12_readLine 34 rfl) rfl ?_
            refine wp_iload_n (atd dX12_readLine 35 rfl) rfl ?_
            refine wp_icmpN_ne (tgt := 78) (atd dX12_readLine 36 rfl) (by decide) (by omega) (by omega) (fun c_70 => ?_) (fun c_70 => ?_)
            ·
              refine wp_aload_n (atd dX12_readLine 40 rfl) rfl rfl ?_
              refine wp_cVi hdd [] (atd dX12_readLine 41 rfl) iX12_isGood lX12_121 rfl rfl (Nat.le_of_ble_eq_true rfl) hX.choose_spec.choose_spec.1.1.1 rfl (eX12_isGood (by omega) hX) (fun r_79 s_79 h_79 => ?_)
              obtain ⟨rfl, rfl⟩ := h_79
              refine wp_ifB_eq (tgt := 103) (atd dX12_readLine 42 rfl) (by decide) (fun c_82 => ?_) (fun c_82 => ?_)
              · exact absurd c_45 c_82
              ·
                obtain ⟨α, B, hM, hfa, hfb, hP, hO⟩ := id hX
                obtain ⟨o1, o2, o3, o4, o5, o6⟩ := id hO
                refine wp_aload_n (atd dX12_readLine 43 rfl) rfl rfl ?_
                refine wp_get fX12_19 (atd dX12_readLine 44 rfl) hM.1.1 rfl ?_
                refine wp_iload_n (atd dX12_readLine 45 rfl) rfl ?_
                refine wp_ialdN (atd dX12_readLine 46 rfl) hM.a4 (show _ < 9 from by omega) (Nat.le_of_ble_eq_true rfl) ?_
                rw [hP.2.2.2.2.2 p (by omega)]
                refine wp_iload_n (atd dX12_readLine 47 rfl) rfl ?_
                refine wp_cSi hdd [_, _] (atd dX12_readLine 48 rfl) iX12_isOf lX12_149 rfl rfl (Nat.le_of_ble_eq_true rfl) (eX12_isOf (by omega) (by have := o6 p; omega) (by omega)) (fun r_92 s_92 h_92 => ?_)
                obtain ⟨rfl, rfl⟩ := h_92
                refine wp_ifB_eq (tgt := 103) (atd dX12_readLine 49 rfl) (by decide) (fun c_95 => ?_) (fun c_95 => ?_)
                ·
                  refine wp_aload_n (atd dX12_readLine 53 rfl) rfl rfl ?_
                  refine wp_cVi hdd [] (atd dX12_readLine 54 rfl) iX12_isGood lX12_121 rfl rfl (Nat.le_of_ble_eq_true rfl) hX.choose_spec.choose_spec.1.1.1 rfl (eX12_isGood (by omega) hX) (fun r_104 s_104 h_104 => ?_)
                  obtain ⟨rfl, rfl⟩ := h_104
                  refine wp_ifB_eq (tgt := 134) (atd dX12_readLine 55 rfl) (by decide) (fun c_107 => ?_) (fun c_107 => ?_)
                  · exact absurd c_45 c_107
                  ·
                    obtain ⟨α, B, hM, hfa, hfb, hP, hO⟩ := id hX
                    obtain ⟨o1, o2, o3, o4, o5, o6⟩ := id hO
                    refine wp_aload_n (atd dX12_readLine 56 rfl) rfl rfl ?_
                    refine wp_get fX12_19 (atd dX12_readLine 57 rfl) hM.1.1 rfl ?_
                    refine wp_iload_n (atd dX12_readLine 58 rfl) rfl ?_
                    refine wp_dup2 (atd dX12_readLine 59 rfl) rfl rfl ?_
                    refine wp_ialdN (atd dX12_readLine 60 rfl) hM.a4 (show _ < 9 from by omega) (Nat.le_of_ble_eq_true rfl) ?_
                    rw [hP.2.2.2.2.2 p (by omega)]
                    refine wp_iconst (v := nI 1) (atd dX12_readLine 61 rfl) (by decide) ?_
                    refine wp_iload_n (atd dX12_readLine 62 rfl) rfl ?_
                    refine wp_ishl1 (atd dX12_readLine 63 rfl) (by omega) ?_
                    refine wp_iorN (atd dX12_readLine 64 rfl) ?_
                    refine wp_iastM (j := 4) (atd dX12_readLine 65 rfl) hM (by decide) (by decide) rfl (show _ < 9 from by omega) (fun σ hM => ?_)
                    refine wp_aload_n (atd dX12_readLine 66 rfl) rfl rfl ?_
                    refine wp_get fX12_19 (atd dX12_readLine 67 rfl) hM.1.1 rfl ?_
                    refine wp_iload_n (atd dX12_readLine 68 rfl) rfl ?_
                    refine wp_dup2 (atd dX12_readLine 69 rfl) rfl rfl ?_
                    refine wp_ialdN (atd dX12_readLine 70 rfl) hM.a4 (show _ < 9 from by omega) (Nat.le_of_ble_eq_true rfl) ?_
                    rw [show va_up B 4 (upd (B 4) p (nI (s4.2.2.2.2.2 p ||| 2 ^ q))) 4 q = nI (s4.2.2.2.2.2 q) by simp only [va_up, if_true, upd, if_neg c_70]; exact hP.2.2.2.2.2 q (by omega)]
                    refine wp_iconst (v := nI 1) (atd dX12_readLine 71 rfl) (by decide) ?_
                    refine wp_iload_n (atd dX12_readLine 72 rfl) rfl ?_
                    refine wp_ishl1 (atd dX12_readLine 73 rfl) (by omega) ?_
                    refine wp_iorN (atd dX12_readLine 74 rfl) ?_
                    refine wp_iastM (j := 4) (atd dX12_readLine 75 rfl) hM (by decide) (by decide) rfl (show _ < 9 from by omega) (fun σ hM => ?_)
                    have hX : PX σ0 _ m α0 B0 sz (linM s4 p q) := ⟨_, _, hM, hfa, (hfb.va (by decide)).va (by decide), hP.linM c_70, hO.linM (by omega) (by omega)⟩
                    refine wp_aload_n (atd dX12_readLine 76 rfl) rfl rfl ?_
                    refine wp_cVv hdd [] (atd dX12_readLine 77 rfl) iX12_goOn lX12_146 rfl rfl (Nat.le_of_ble_eq_true rfl) hX.choose_spec.choose_spec.1.1.1 rfl (eX12_goOn (by omega) hsz ht h70 hB0 hX) (fun s_135 h_135 => ?_)
                    have hX := h_135
                    rw [if_pos (show (linM s4 p q).2.1 = 0 from c_45)] at hX
                    refine wp_vretv (atd dX12_readLine 78 rfl) rfl ?_
                    unfold rdL; rw [hs1, if_pos c_12, hx]; show PX σ0 _ m α0 B0 sz (rdL2 tp sz p (mbn (nxt tp sz s1))); rw [hs4]; unfold rdL2; rw [if_pos c_45, hy]; show PX σ0 _ m α0 B0 sz (if q = p then fai 3 s4 else if (s4.2.2.2.2.2 p).testBit q = true then fai 4 s4 else nxt tp sz (linM s4 p q)); rw [if_neg c_70, if_neg c_95]; exact hX
                ·
                  refine wp_aload_n (atd dX12_readLine 50 rfl) rfl rfl ?_
                  refine wp_iconst (v := nI 4) (atd dX12_readLine 51 rfl) (by decide) ?_
                  refine wp_cVv hdd [_] (atd dX12_readLine 52 rfl) iX12_fails lX12_136 rfl rfl (Nat.le_of_ble_eq_true rfl) hX.choose_spec.choose_spec.1.1.1 rfl (eX12_fails (by omega) hX (k := 4) (by omega)) (fun s_100 h_100 => ?_)
                  have hX := h_100
                  refine wp_aload_n (atd dX12_readLine 53 rfl) rfl rfl ?_
                  refine wp_cVi hdd [] (atd dX12_readLine 54 rfl) iX12_isGood lX12_121 rfl rfl (Nat.le_of_ble_eq_true rfl) hX.choose_spec.choose_spec.1.1.1 rfl (eX12_isGood (by omega) hX) (fun r_104 s_104 h_104 => ?_)
                  obtain ⟨rfl, rfl⟩ := h_104
                  refine wp_ifB_eq (tgt := 134) (atd dX12_readLine 55 rfl) (by decide) (fun c_107 => ?_) (fun c_107 => ?_)
                  ·
                    refine wp_aload_n (atd dX12_readLine 76 rfl) rfl rfl ?_
                    refine wp_cVv hdd [] (atd dX12_readLine 77 rfl) iX12_goOn lX12_146 rfl rfl (Nat.le_of_ble_eq_true rfl) hX.choose_spec.choose_spec.1.1.1 rfl (eX12_goOn (by omega) hsz ht h70 hB0 hX) (fun s_135 h_135 => ?_)
                    have hX := h_135
                    rw [if_neg (fai_ne (by decide))] at hX
                    refine wp_vretv (atd dX12_readLine 78 rfl) rfl ?_
                    unfold rdL; rw [hs1, if_pos c_12, hx]; show PX σ0 _ m α0 B0 sz (rdL2 tp sz p (mbn (nxt tp sz s1))); rw [hs4]; unfold rdL2; rw [if_pos c_45, hy]; show PX σ0 _ m α0 B0 sz (if q = p then fai 3 s4 else if (s4.2.2.2.2.2 p).testBit q = true then fai 4 s4 else nxt tp sz (linM s4 p q)); rw [if_neg c_70, if_pos c_95]; exact hX
                  · exact absurd c_107 (fai_ne (by decide))
            ·
              refine wp_aload_n (atd dX12_readLine 37 rfl) rfl rfl ?_
              refine wp_iconst (v := nI 3) (atd dX12_readLine 38 rfl) (by decide) ?_
              refine wp_cVv hdd [_] (atd dX12_readLine 39 rfl) iX12_fails lX12_136 rfl rfl (Nat.le_of_ble_eq_true rfl) hX.choose_spec.choose_spec.1.1.1 rfl (eX12_fails (by omega) hX (k := 3) (by omega)) (fun s_75 h_75 => ?_)
              have hX := h_75
              refine wp_aload_n (atd dX12_readLine 40 rfl) rfl rfl ?_
              refine wp_cVi hdd [] (atd dX12_readLine 41 rfl) iX12_isGood lX12_121 rfl rfl (Nat.le_of_ble_eq_true rfl) hX.choose_spec.choose_spec.1.1.1 rfl (eX12_isGood (by omega) hX) (fun r_79 s_79 h_79 => ?_)
              obtain ⟨rfl, rfl⟩ := h_79
              refine wp_ifB_eq (tgt := 103) (atd dX12_readLine 42 rfl) (by decide) (fun c_82 => ?_) (fun c_82 => ?_)
              ·
                refine wp_aload_n (atd dX12_readLine 53 rfl) rfl rfl ?_
                refine wp_cVi hdd [] (atd dX12_readLine 54 rfl) iX12_isGood lX12_121 rfl rfl (Nat.le_of_ble_eq_true rfl) hX.choose_spec.choose_spec.1.1.1 rfl (eX12_isGood (by omega) hX) (fun r_104 s_104 h_104 => ?_)
                obtain ⟨rfl, rfl⟩ := h_104
                refine wp_ifB_eq (tgt := 134) (atd dX12_readLine 55 rfl) (by decide) (fun c_107 => ?_) (fun c_107 => ?_)
                ·
                  refine wp_aload_n (atd dX12_readLine 76 rfl) rfl rfl ?_
                  refine wp_cVv hdd [] (atd dX12_readLine 77 rfl) iX12_goOn lX12_146 rfl rfl (Nat.le_of_ble_eq_true rfl) hX.choose_spec.choose_spec.1.1.1 rfl (eX12_goOn (by omega) hsz ht h70 hB0 hX) (fun s_135 h_135 => ?_)
                  have hX := h_135
                  rw [if_neg (fai_ne (by decide))] at hX
                  refine wp_vretv (atd dX12_readLine 78 rfl) rfl ?_
                  unfold rdL; rw [hs1, if_pos c_12, hx]; show PX σ0 _ m α0 B0 sz (rdL2 tp sz p (mbn (nxt tp sz s1))); rw [hs4]; unfold rdL2; rw [if_pos c_45, hy]; show PX σ0 _ m α0 B0 sz (if q = p then fai 3 s4 else if (s4.2.2.2.2.2 p).testBit q = true then fai 4 s4 else nxt tp sz (linM s4 p q)); rw [if_pos c_70]; exact hX
                · exact absurd c_107 (fai_ne (by decide))
              · exact absurd c_82 (fai_ne (by decide))
