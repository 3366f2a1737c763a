/-! places and lines told -/
section Rd2
variable {G : Gx} {d : Nat} {σ : Hp} {tp bs : Nat → Nat} {sz : Nat} {s : PS}
theorem stpN1_bad (h : s.2.1 ≠ 0) : stpN1 tp sz s = s := if_neg h
theorem nz_plc (hr : s.2.2.2.1 < 9) : ∀ x, x < 9 → va_up (nzF s) s.2.2.2.1 (2 ^ s.2.2.2.1) x = nzF (plc s) x := fun x _ => by
  show _ = (if x < s.2.2.2.1 + 1 then va_up s.2.2.2.2.2 s.2.2.2.1 (2 ^ s.2.2.2.1) x else 0)
  unfold va_up nzF
  by_cases e : x = s.2.2.2.1
  · rw [if_pos e, if_pos (by omega), if_pos e]
  · rw [if_neg e]
    by_cases h : x < s.2.2.2.1
    · rw [if_pos h, if_pos (by omega), if_neg e]
    · rw [if_neg h, if_neg (by omega)]
theorem nz_plcZ (hr : s.2.2.2.1 < 9) (hN : isNetZ s.2.2.2.1 (nzF s)) : isNetZ (plc s).2.2.2.1 (nzF (plc s)) := by
  have hv : ∀ x, nzF (plc s) x = if x = s.2.2.2.1 then 2 ^ s.2.2.2.1 else nzF s x := fun x => by
    show (if x < s.2.2.2.1 + 1 then va_up s.2.2.2.2.2 s.2.2.2.1 (2 ^ s.2.2.2.1) x else 0) = _
    unfold va_up nzF
    by_cases e : x = s.2.2.2.1
    · rw [if_pos e, if_pos (by omega), if_pos e]
    · rw [if_neg e]
      by_cases h : x < s.2.2.2.1
      · rw [if_pos h, if_pos (by omega), if_neg e]
      · rw [if_neg h, if_neg (by omega), if_neg e]
  have hlt : ∀ x, x < s.2.2.2.1 → (nzF s x).testBit s.2.2.2.1 = false := fun x hx => Nat.testBit_lt_two_pow (hN.1.2.1 x hx)
  show isNetZ (s.2.2.2.1 + 1) (nzF (plc s))
  refine ⟨⟨by omega, fun x hx => ?_, fun x hx => ?_, fun x y hx hy => ?_⟩, fun x hx => ?_⟩
  · rw [hv x]
    by_cases e : x = s.2.2.2.1
    · rw [if_pos e]; exact Nat.pow_lt_pow_right (by decide) (by omega)
    · rw [if_neg e]; exact Nat.lt_of_lt_of_le (hN.1.2.1 x (by omega)) (Nat.pow_le_pow_right (by decide) (by omega))
  · rw [hv x]
    by_cases e : x = s.2.2.2.1
    · rw [if_pos e, e, Nat.testBit_two_pow]; simp
    · rw [if_neg e]; exact hN.1.2.2.1 x (by omega)
  · rw [hv x, hv y]
    by_cases e : x = s.2.2.2.1
    · by_cases e2 : y = s.2.2.2.1
      · rw [if_pos e, if_pos e2, e, e2]
      · rw [if_pos e, if_neg e2, e, hlt y (by omega), Nat.testBit_two_pow]; exact decide_eq_false (by omega)
    · by_cases e2 : y = s.2.2.2.1
      · rw [if_neg e, if_pos e2, e2, hlt x (by omega), Nat.testBit_two_pow]; exact (decide_eq_false (by omega)).symm
      · rw [if_neg e, if_neg e2]; exact hN.1.2.2.2 x y (by omega) (by omega)
  · rw [hv x, if_neg (by omega)]; exact hN.2 x (by omega)
theorem nm_plc {nf nl : Nat → Nat} (hT : TKw tp sz s.1) (h1 : s.1.2.2.1 = 1) (hN : NMr tp sz s nf nl) : NMr tp sz (plc s) (va_up nf s.2.2.2.1 s.1.1) (va_up nl s.2.2.2.1 (s.1.2.1 - s.1.1)) := fun p hp => by
  have hp : p < s.2.2.2.1 + 1 := hp
  obtain ⟨b1, b2, b3, b4, b5⟩ := hT h1
  show va_up nl s.2.2.2.1 (s.1.2.1 - s.1.1) p ≤ 6 ∧ va_up nf s.2.2.2.1 s.1.1 p + va_up nl s.2.2.2.1 (s.1.2.1 - s.1.1) p ≤ sz ∧ (∀ i, i < va_up nl s.2.2.2.1 (s.1.2.1 - s.1.1) p → isL (tp (va_up nf s.2.2.2.1 s.1.1 p + i))) ∧ upd s.2.2.2.2.1 s.2.2.2.1 s.1.2.2.2 p = nI (wcd tp (va_up nf s.2.2.2.1 s.1.1 p) (va_up nl s.2.2.2.1 (s.1.2.1 - s.1.1) p))
  unfold va_up upd
  by_cases e : p = s.2.2.2.1
  · rw [if_pos e, if_pos e, if_pos e]; exact ⟨by omega, by omega, b4, b5⟩
  · rw [if_neg e, if_neg e, if_neg e]; exact hN p (by omega)
theorem or_xor {a q : Nat} (h : a.testBit q = false) : a ^^^ 2 ^ q = a ||| 2 ^ q := Nat.eq_of_testBit_eq fun i => by
  rw [Nat.testBit_xor, Nat.testBit_or, Nat.testBit_two_pow]
  by_cases e : q = i
  · subst e; rw [h, decide_eq_true rfl]; rfl
  · rw [decide_eq_false e]; cases a.testBit i <;> rfl
theorem nz_lin {p q : Nat} (hN : isNetZ s.2.2.2.1 (nzF s)) (hp : p < s.2.2.2.1) (hq : q < s.2.2.2.1) (hpq : p ≠ q) (hj : (s.2.2.2.2.2 p).testBit q = false) : nbt (nzF s) p q = nzF (linM s p q) := by
  have ep : nzF s p = s.2.2.2.2.2 p := if_pos hp
  have eq' : nzF s q = s.2.2.2.2.2 q := if_pos hq
  have hj2 : (s.2.2.2.2.2 q).testBit p = false := by rw [← eq', ← hN.1.2.2.2 p q hp hq, ep]; exact hj
  funext x
  show _ = (if x < s.2.2.2.1 then va_up (va_up s.2.2.2.2.2 p (s.2.2.2.2.2 p ||| 2 ^ q)) q (s.2.2.2.2.2 q ||| 2 ^ p) x else 0)
  unfold nbt va_up
  rw [ep, eq', or_xor hj, or_xor hj2]
  by_cases e1 : x = q
  · rw [if_pos e1, if_pos (by omega), if_pos e1]
  · rw [if_neg e1]
    by_cases e2 : x = p
    · rw [if_pos e2, if_pos (by omega), if_neg e1, if_pos e2]
    · rw [if_neg e2]
      unfold nzF
      by_cases h : x < s.2.2.2.1
      · rw [if_pos h, if_pos h, if_neg e1, if_neg e2]
      · rw [if_neg h, if_neg h]
theorem rdP_9 (h : s.2.2.2.1 = 9) : rdP tp sz s = fai 5 s := if_pos h
theorem rdP_n (h : s.2.2.2.1 ≠ 9) (h0 : s.2.1 = 0) (hm : mbn (nxt tp sz s) = fai 2 (nxt tp sz s)) : rdP tp sz s = fai 2 (nxt tp sz s) := by
  unfold rdP
  rw [if_neg h, hm, if_neg (fai_ne (by decide))]
theorem rdP_c {q : Nat} (h : s.2.2.2.1 ≠ 9) (h0 : s.2.1 = 0) (hm : mbn (nxt tp sz s) = nxt tp sz s) (hc : cld (nxt tp sz s) = some q) : rdP tp sz s = fai 3 (nxt tp sz s) := by
  unfold rdP
  rw [if_neg h, hm, if_pos (show (nxt tp sz s).2.1 = 0 from h0), hc]
theorem rdP_y (h : s.2.2.2.1 ≠ 9) (h0 : s.2.1 = 0) (hm : mbn (nxt tp sz s) = nxt tp sz s) (hc : cld (nxt tp sz s) = none) : rdP tp sz s = nxt tp sz (plc (nxt tp sz s)) := by
  unfold rdP
  rw [if_neg h, hm, if_pos (show (nxt tp sz s).2.1 = 0 from h0), hc]
theorem eX7_parsePlace (hd : 8 ≤ d) (hsz : sz ≤ 600) (ht : ∀ k, tp k < 256) (hb : ∀ k, k < sz → bs k = tp k) (h0 : s.2.1 = 0) (h1 : s.1.2.2.1 = 1) (hX : CX σ tp bs sz s) : Cl G mX7_parsePlace d [.ref 1, .ref 7] σ 0 0 (pV fun s2 => fr [1, 3, 4, 7, 8] σ s2 ∧ CX s2 tp bs sz (stpN1 tp sz (rdP tp sz s))) := by
  obtain ⟨d0, hdd⟩ : ∃ e, d = e + 1 := ⟨d - 1, by omega⟩
  refine cl_of (by decide) (by simp [Value.category]) (Nat.le_of_ble_eq_true rfl) ?_
  show Wp G mX7_parsePlace d 0 [.ref 1, .ref 7] [] σ 0 0 _
  obtain ⟨nf, nl, hSc, h2, h3, h4, h5, h6, h7, h8, h9, h10⟩ := id hX
  have hF : fr [1, 3, 4, 7, 8] σ σ := fr.rf
  refine wp_aload_n (atd dX7_parsePlace 0 rfl) rfl rfl ?_
  refine wp_get fX7_55 (atd dX7_parsePlace 1 rfl) h6 rfl ?_
  refine wp_bipush (v := nI 9) (atd dX7_parsePlace 2 rfl) (by decide) ?_
  refine wp_icmpN_lt (tgt := 15) (atd dX7_parsePlace 3 rfl) (by decide) (by have := h9.2.2.2.2.1; omega) (by omega) (fun c_6 => ?_) (fun c_6 => ?_)
  ·
    refine wp_aload_n (atd dX7_parsePlace 8 rfl) rfl rfl ?_
    refine wp_cVv hdd [] (atd dX7_parsePlace 9 rfl) iX7_advance lX7_39 rfl rfl (Nat.le_of_ble_eq_true rfl) hSc rfl (eX7_advX (by omega) hsz ht hb hX) (fun s_16 h_16 => ?_)
    obtain ⟨f_16, hX⟩ := h_16
    obtain ⟨nf, nl, hSc, h2, h3, h4, h5, h6, h7, h8, h9, h10⟩ := id hX
    have hF := hF.tr f_16 (by simp)
    have hT3 := h9.2.2.1
    refine wp_aload_n (atd dX7_parsePlace 10 rfl) rfl rfl ?_
    refine wp_get fX7_42 (atd dX7_parsePlace 11 rfl) hSc rfl ?_
    refine wp_iconst (v := nI 5) (atd dX7_parsePlace 12 rfl) (by decide) ?_
    refine wp_icmpN_eq (tgt := 34) (atd dX7_parsePlace 13 rfl) (by decide) (by have := ctk_lt (nxt tp sz s).1; omega) (by omega) (fun c_24 => ?_) (fun c_24 => ?_)
    ·
      refine wp_aload_n (atd dX7_parsePlace 17 rfl) rfl rfl ?_
      refine wp_aload_n (atd dX7_parsePlace 18 rfl) rfl rfl ?_
      refine wp_cVi hdd [_] (atd dX7_parsePlace 19 rfl) iX7_placeNamed lX7_62 rfl rfl (Nat.le_of_ble_eq_true rfl) hSc rfl (eX7_placeNamed (by omega) hsz ht hSc h2 hb h3 h4 h8.2 h9.2.1 h9.2.2.2.2.1 h6 (nm_all h5 h8.1 ((ctk_5 hT3).mp c_24).1)) (fun r_36 s_36 h_36 => ?_)
      obtain ⟨rfl, e_36⟩ := h_36
      obtain rfl := e_36.symm
      have hm := mbn_y c_24 hT3
      cases hc : cldG (nxt tp sz s).2.2.2.2.1 (nxt tp sz s).1.2.2.2 (nxt tp sz s).2.2.2.1 0 with
      | none =>
        have hr9 : (nxt tp sz s).2.2.2.1 < 9 := by show s.2.2.2.1 < 9; omega
        show Wp G mX7_parsePlace d 39 _ (.int (-1) :: _) _ _ _ _
        refine wp_iconst (v := -1) (atd dX7_parsePlace 20 rfl) (by decide) ?_
        refine wp_icmp_eq (tgt := 51) (atd dX7_parsePlace 21 rfl) (by decide) (fun c_40 => ?_) (fun c_40 => ?_)
        ·
          refine wp_aload_n (atd dX7_parsePlace 26 rfl) rfl rfl ?_
          refine wp_get fX7_19 (atd dX7_parsePlace 27 rfl) hSc rfl ?_
          refine wp_aload_n (atd dX7_parsePlace 28 rfl) rfl rfl ?_
          refine wp_get fX7_55 (atd dX7_parsePlace 29 rfl) h6 rfl ?_
          refine wp_aload_n (atd dX7_parsePlace 30 rfl) rfl rfl ?_
          refine wp_get fX7_66 (atd dX7_parsePlace 31 rfl) hSc rfl ?_
          refine wp_iastA (atd dX7_parsePlace 32 rfl) h3 (by omega) (Nat.le_of_ble_eq_true rfl) (fun σ f_63 h3 => ?_)
          have hSc := hSc.fr f_63 (by first | decide | (simp only [List.mem_cons, List.not_mem_nil, or_false]; omega))
          have h2 := h2.fr f_63 (by first | decide | (simp only [List.mem_cons, List.not_mem_nil, or_false]; omega))
          have h4 := h4.fr f_63 (by first | decide | (simp only [List.mem_cons, List.not_mem_nil, or_false]; omega))
          have h6 := h6.fr f_63 (by first | decide | (simp only [List.mem_cons, List.not_mem_nil, or_false]; omega))
          have h7 := h7.fr f_63 (by first | decide | (simp only [List.mem_cons, List.not_mem_nil, or_false]; omega))
          have hF := hF.tr f_63 (by simp)
          refine wp_aload_n (atd dX7_parsePlace 33 rfl) rfl rfl ?_
          refine wp_get fX7_22 (atd dX7_parsePlace 34 rfl) hSc rfl ?_
          refine wp_aload_n (atd dX7_parsePlace 35 rfl) rfl rfl ?_
          refine wp_get fX7_55 (atd dX7_parsePlace 36 rfl) h6 rfl ?_
          refine wp_aload_n (atd dX7_parsePlace 37 rfl) rfl rfl ?_
          refine wp_get fX7_36 (atd dX7_parsePlace 38 rfl) hSc rfl ?_
          refine wp_aload_n (atd dX7_parsePlace 39 rfl) rfl rfl ?_
          refine wp_get fX7_66 (atd dX7_parsePlace 40 rfl) hSc rfl ?_
          refine wp_isubN (atd dX7_parsePlace 41 rfl) h8.2 ?_
          refine wp_iastA (atd dX7_parsePlace 42 rfl) h4 (by omega) (Nat.le_of_ble_eq_true rfl) (fun σ f_81 h4 => ?_)
          have hSc := hSc.fr f_81 (by first | decide | (simp only [List.mem_cons, List.not_mem_nil, or_false]; omega))
          have h2 := h2.fr f_81 (by first | decide | (simp only [List.mem_cons, List.not_mem_nil, or_false]; omega))
          have h3 := h3.fr f_81 (by first | decide | (simp only [List.mem_cons, List.not_mem_nil, or_false]; omega))
          have h6 := h6.fr f_81 (by first | decide | (simp only [List.mem_cons, List.not_mem_nil, or_false]; omega))
          have h7 := h7.fr f_81 (by first | decide | (simp only [List.mem_cons, List.not_mem_nil, or_false]; omega))
          have hF := hF.tr f_81 (by simp)
          refine wp_aload_n (atd dX7_parsePlace 43 rfl) rfl rfl ?_
          refine wp_cVv hdd [] (atd dX7_parsePlace 44 rfl) iX3_addPlace lX7_69 rfl rfl (Nat.le_of_ble_eq_true rfl) h6 rfl (eX3_addPlace (by omega) h6 h7 hr9) (fun s_83 h_83 => ?_)
          obtain ⟨f_83, h6, h7⟩ := h_83
          have hF := hF.tr f_83 (by simp)
          have hSc := hSc.fr f_83 (by decide)
          have h2 := h2.fr f_83 (by decide)
          have h3 := h3.fr f_83 (by decide)
          have h4 := h4.fr f_83 (by decide)
          have hX : CX s_83 tp bs sz (plc (nxt tp sz s)) := ⟨_, _, hSc, h2, h3, h4, nm_plc h8.1 ((ctk_5 hT3).mp c_24).1 h5, h6, h7.cg (nz_plc hr9), h8, h9.plc hr9, nz_plcZ hr9 h10⟩
          refine wp_aload_n (atd dX7_parsePlace 45 rfl) rfl rfl ?_
          refine wp_cVv hdd [] (atd dX7_parsePlace 46 rfl) iX7_passSign lX7_72 rfl rfl (Nat.le_of_ble_eq_true rfl) hSc rfl (eX7_passSign (by omega) hsz ht hb (s := plc (nxt tp sz s)) h0 hX) (fun s_87 h_87 => ?_)
          obtain ⟨f_87, hX⟩ := h_87
          have hF := hF.tr f_87 (by simp)
          refine wp_vretv (atd dX7_parsePlace 47 rfl) rfl ?_
          rw [rdP_y (by omega) h0 hm hc]
          exact ⟨hF, hX⟩
        · exact absurd rfl c_40
      | some q =>
        have hq9 := cld_lt (s := nxt tp sz s) hc
        have hr9 := h9.2.2.2.2.1
        show Wp G mX7_parsePlace d 39 _ (.int (nI q) :: _) _ _ _ _
        refine wp_iconst (v := -1) (atd dX7_parsePlace 20 rfl) (by decide) ?_
        refine wp_icmp_eq (tgt := 51) (atd dX7_parsePlace 21 rfl) (by decide) (fun c_40 => ?_) (fun c_40 => ?_)
        · exact absurd c_40 (nI_m1 (by omega))
        ·
          refine wp_aload_n (atd dX7_parsePlace 22 rfl) rfl rfl ?_
          refine wp_iconst (v := nI 3) (atd dX7_parsePlace 23 rfl) (by decide) ?_
          refine wp_cVv hdd [_] (atd dX7_parsePlace 24 rfl) iX7_refuse lX7_58 rfl rfl (Nat.le_of_ble_eq_true rfl) hSc rfl (eX7_refX (k := 3) (by omega) (by omega) (by omega) (show (nxt tp sz s).2.1 = 0 from h0) (by have := ((ctk_5 hT3).mp c_24).1; omega) hX) (fun s_45 h_45 => ?_)
          obtain ⟨f_45, hX⟩ := h_45
          have hF := hF.tr f_45 (by simp)
          refine wp_goto (tgt := 90) (atd dX7_parsePlace 25 rfl) (by decide) ?_
          refine wp_vretv (atd dX7_parsePlace 47 rfl) rfl ?_
          rw [rdP_c (by omega) h0 hm hc, stpN1_bad (fai_ne (by decide))]
          exact ⟨hF, hX⟩
    ·
      refine wp_aload_n (atd dX7_parsePlace 14 rfl) rfl rfl ?_
      refine wp_cVv hdd [] (atd dX7_parsePlace 15 rfl) iX7_refuseToken lX7_52 rfl rfl (Nat.le_of_ble_eq_true rfl) hSc rfl (eX7_refuseToken (by omega) (show (nxt tp sz s).2.1 = 0 from h0) hX) (fun s_28 h_28 => ?_)
      obtain ⟨f_28, hX⟩ := h_28
      have hF := hF.tr f_28 (by simp)
      refine wp_goto (tgt := 90) (atd dX7_parsePlace 16 rfl) (by decide) ?_
      refine wp_vretv (atd dX7_parsePlace 47 rfl) rfl ?_
      rw [rdP_n (by omega) h0 (mbn_n c_24 hT3), stpN1_bad (fai_ne (by decide))]
      exact ⟨hF, hX⟩
  ·
    refine wp_aload_n (atd dX7_parsePlace 4 rfl) rfl rfl ?_
    refine wp_iconst (v := nI 5) (atd dX7_parsePlace 5 rfl) (by decide) ?_
    refine wp_cVv hdd [_] (atd dX7_parsePlace 6 rfl) iX7_refuse lX7_58 rfl rfl (Nat.le_of_ble_eq_true rfl) hSc rfl (eX7_refX (k := 5) (by omega) (by omega) (by omega) h0 (by omega) hX) (fun s_11 h_11 => ?_)
    obtain ⟨f_11, hX⟩ := h_11
    have hF := hF.tr f_11 (by simp)
    refine wp_vretv (atd dX7_parsePlace 7 rfl) rfl ?_
    rw [rdP_9 (by have := h9.2.2.2.2.1; omega), stpN1_bad (fai_ne (by decide))]
    exact ⟨hF, hX⟩
theorem rdL_n (hm : mbn (nxt tp sz s) = fai 2 (nxt tp sz s)) : rdL tp sz s = fai 2 (nxt tp sz s) := by
  unfold rdL
  rw [hm, if_neg (fai_ne (by decide))]
theorem rdL_c (h0 : s.2.1 = 0) (hm : mbn (nxt tp sz s) = nxt tp sz s) (hc : cld (nxt tp sz s) = none) : rdL tp sz s = fai 3 (nxt tp sz s) := by
  unfold rdL
  rw [hm, if_pos (show (nxt tp sz s).2.1 = 0 from h0), hc]
theorem rdL_y {p : Nat} (h0 : s.2.1 = 0) (hm : mbn (nxt tp sz s) = nxt tp sz s) (hc : cld (nxt tp sz s) = some p) : rdL tp sz s = rdL2 tp sz p (mbn (nxt tp sz (nxt tp sz s))) := by
  unfold rdL
  rw [hm, if_pos (show (nxt tp sz s).2.1 = 0 from h0), hc]
theorem rdL2_b {p : Nat} (h : s.2.1 ≠ 0) : rdL2 tp sz p s = s := if_neg h
theorem rdL2_n {p : Nat} (h : s.2.1 = 0) (hc : cld s = none) : rdL2 tp sz p s = fai 3 s := by unfold rdL2; rw [if_pos h, hc]
theorem rdL2_s {p q : Nat} (h : s.2.1 = 0) (hc : cld s = some q) : rdL2 tp sz p s = if q = p then fai 3 s else if (s.2.2.2.2.2 p).testBit q = true then fai 4 s else nxt tp sz (linM s p q) := by unfold rdL2; rw [if_pos h, hc]
theorem eX7_parseLine (hd : 8 ≤ d) (hsz : sz ≤ 600) (ht : ∀ k, tp k < 256) (hb : ∀ k, k < sz → bs k = tp k) (h0 : s.2.1 = 0) (hX : CX σ tp bs sz s) : Cl G mX7_parseLine d [.ref 1, .ref 7] σ 0 0 (pV fun s2 => fr [1, 3, 4, 7, 8] σ s2 ∧ CX s2 tp bs sz (stpN1 tp sz (rdL tp sz s))) := by
  obtain ⟨d0, hdd⟩ : ∃ e, d = e + 1 := ⟨d - 1, by omega⟩
  refine cl_of (by decide) (by simp [Value.category]) (Nat.le_of_ble_eq_true rfl) ?_
  show Wp G mX7_parseLine d 0 [.ref 1, .ref 7, .double 0, .double 0] [] σ 0 0 _
  obtain ⟨nf, nl, hSc, h2, h3, h4, h5, h6, h7, h8, h9, h10⟩ := id hX
  have hF : fr [1, 3, 4, 7, 8] σ σ := fr.rf
  refine wp_aload_n (atd dX7_parseLine 0 rfl) rfl rfl ?_
  refine wp_cVv hdd [] (atd dX7_parseLine 1 rfl) iX7_advance lX7_39 rfl rfl (Nat.le_of_ble_eq_true rfl) hSc rfl (eX7_advX (by omega) hsz ht hb hX) (fun s_1 h_1 => ?_)
  obtain ⟨f_1, hX⟩ := h_1
  obtain ⟨nf, nl, hSc, h2, h3, h4, h5, h6, h7, h8, h9, h10⟩ := id hX
  have hF := hF.tr f_1 (by simp)
  have hT3 := h9.2.2.1
  refine wp_aload_n (atd dX7_parseLine 2 rfl) rfl rfl ?_
  refine wp_aload_n (atd dX7_parseLine 3 rfl) rfl rfl ?_
  refine wp_cVi hdd [_] (atd dX7_parseLine 4 rfl) iX7_parseEnd lX7_75 rfl rfl (Nat.le_of_ble_eq_true rfl) hSc rfl (eX7_parseEnd (by omega) hsz ht hb (s := (nxt tp sz s)) h0 hX) (fun r_6 s_6 h_6 => ?_)
  obtain ⟨f_6, hA6⟩ := h_6
  have hF := hF.tr f_6 (by simp)
  rcases hA6 with ⟨hc5, hX⟩ | ⟨hc5, hcl, hX⟩ | ⟨hc5, p, hcl, rfl, hX⟩
  ·
    have hbad : (fai 2 (nxt tp sz s)).2.1 ≠ 0 := fai_ne (by decide)
    obtain ⟨nf, nl, hSc, h2, h3, h4, h5, h6, h7, h8, h9, h10⟩ := id hX
    have h5z := h9.2.2.2.1
    refine wp_istore_n (atd dX7_parseLine 5 rfl) (Nat.le_of_ble_eq_true rfl) ?_
    refine wp_aload_n (atd dX7_parseLine 6 rfl) rfl rfl ?_
    refine wp_get fX7_33 (atd dX7_parseLine 7 rfl) hSc rfl ?_
    refine wp_ifN_eq (tgt := 18) (atd dX7_parseLine 8 rfl) (by decide) (by omega) (fun c_14 => ?_) (fun c_14 => ?_)
    · exact absurd c_14 hbad
    ·
      refine wp_vretv (atd dX7_parseLine 9 rfl) rfl ?_
      rw [rdL_n (mbn_n hc5 hT3), stpN1_bad hbad]
      exact ⟨hF, hX⟩
  ·
    have hbad : (fai 3 (nxt tp sz s)).2.1 ≠ 0 := fai_ne (by decide)
    obtain ⟨nf, nl, hSc, h2, h3, h4, h5, h6, h7, h8, h9, h10⟩ := id hX
    have h5z := h9.2.2.2.1
    refine wp_istore_n (atd dX7_parseLine 5 rfl) (Nat.le_of_ble_eq_true rfl) ?_
    refine wp_aload_n (atd dX7_parseLine 6 rfl) rfl rfl ?_
    refine wp_get fX7_33 (atd dX7_parseLine 7 rfl) hSc rfl ?_
    refine wp_ifN_eq (tgt := 18) (atd dX7_parseLine 8 rfl) (by decide) (by omega) (fun c_14 => ?_) (fun c_14 => ?_)
    · exact absurd c_14 hbad
    ·
      refine wp_vretv (atd dX7_parseLine 9 rfl) rfl ?_
      rw [rdL_c h0 (mbn_y hc5 hT3) hcl, stpN1_bad hbad]
      exact ⟨hF, hX⟩
  ·
    obtain ⟨nf, nl, hSc, h2, h3, h4, h5, h6, h7, h8, h9, h10⟩ := id hX
    have hp9 := cld_lt hcl
    have h00 : (nxt tp sz s).2.1 = 0 := h0
    have hr1 := h9.2.2.2.2.1
    have h5z := h9.2.2.2.1
    have hm1 := mbn_y hc5 hT3
    have hz2 : (nxt tp sz (nxt tp sz s)).2.1 = 0 := h0
    refine wp_istore_n (atd dX7_parseLine 5 rfl) (Nat.le_of_ble_eq_true rfl) ?_
    refine wp_aload_n (atd dX7_parseLine 6 rfl) rfl rfl ?_
    refine wp_get fX7_33 (atd dX7_parseLine 7 rfl) hSc rfl ?_
    refine wp_ifN_eq (tgt := 18) (atd dX7_parseLine 8 rfl) (by decide) (by omega) (fun c_14 => ?_) (fun c_14 => ?_)
    ·
      refine wp_aload_n (atd dX7_parseLine 10 rfl) rfl rfl ?_
      refine wp_cVv hdd [] (atd dX7_parseLine 11 rfl) iX7_advance lX7_39 rfl rfl (Nat.le_of_ble_eq_true rfl) hSc rfl (eX7_advX (by omega) hsz ht hb hX) (fun s_19 h_19 => ?_)
      obtain ⟨f_19, hX⟩ := h_19
      obtain ⟨nf, nl, hSc, h2, h3, h4, h5, h6, h7, h8, h9, h10⟩ := id hX
      have hF := hF.tr f_19 (by simp)
      have hT3 := h9.2.2.1
      refine wp_aload_n (atd dX7_parseLine 12 rfl) rfl rfl ?_
      refine wp_aload_n (atd dX7_parseLine 13 rfl) rfl rfl ?_
      refine wp_cVi hdd [_] (atd dX7_parseLine 14 rfl) iX7_parseEnd lX7_75 rfl rfl (Nat.le_of_ble_eq_true rfl) hSc rfl (eX7_parseEnd (by omega) hsz ht hb (s := (nxt tp sz (nxt tp sz s))) hz2 hX) (fun r_24 s_24 h_24 => ?_)
      obtain ⟨f_24, hA24⟩ := h_24
      have hF := hF.tr f_24 (by simp)
      rcases hA24 with ⟨hd5, hX⟩ | ⟨hd5, hdl, hX⟩ | ⟨hd5, q, hdl, rfl, hX⟩
      ·
        have hbad : (fai 2 (nxt tp sz (nxt tp sz s))).2.1 ≠ 0 := fai_ne (by decide)
        obtain ⟨nf, nl, hSc, h2, h3, h4, h5, h6, h7, h8, h9, h10⟩ := id hX
        have h5z := h9.2.2.2.1
        refine wp_istore_n (atd dX7_parseLine 15 rfl) (Nat.le_of_ble_eq_true rfl) ?_
        refine wp_aload_n (atd dX7_parseLine 16 rfl) rfl rfl ?_
        refine wp_get fX7_33 (atd dX7_parseLine 17 rfl) hSc rfl ?_
        refine wp_ifN_eq (tgt := 36) (atd dX7_parseLine 18 rfl) (by decide) (by omega) (fun c_32 => ?_) (fun c_32 => ?_)
        · exact absurd c_32 hbad
        ·
          refine wp_vretv (atd dX7_parseLine 19 rfl) rfl ?_
          rw [rdL_y h0 hm1 hcl, mbn_n hd5 hT3, rdL2_b hbad, stpN1_bad hbad]
          exact ⟨hF, hX⟩
      ·
        have hbad : (fai 3 (nxt tp sz (nxt tp sz s))).2.1 ≠ 0 := fai_ne (by decide)
        obtain ⟨nf, nl, hSc, h2, h3, h4, h5, h6, h7, h8, h9, h10⟩ := id hX
        have h5z := h9.2.2.2.1
        refine wp_istore_n (atd dX7_parseLine 15 rfl) (Nat.le_of_ble_eq_true rfl) ?_
        refine wp_aload_n (atd dX7_parseLine 16 rfl) rfl rfl ?_
        refine wp_get fX7_33 (atd dX7_parseLine 17 rfl) hSc rfl ?_
        refine wp_ifN_eq (tgt := 36) (atd dX7_parseLine 18 rfl) (by decide) (by omega) (fun c_32 => ?_) (fun c_32 => ?_)
        · exact absurd c_32 hbad
        ·
          refine wp_vretv (atd dX7_parseLine 19 rfl) rfl ?_
          rw [rdL_y h0 hm1 hcl, mbn_y hd5 hT3, rdL2_n hz2 hdl, stpN1_bad hbad]
          exact ⟨hF, hX⟩
      ·
        obtain ⟨nf, nl, hSc, h2, h3, h4, h5, h6, h7, h8, h9, h10⟩ := id hX
        have hq9 := cld_lt hdl
        have h5z := h9.2.2.2.1
        have hp9 : p < (nxt tp sz (nxt tp sz s)).2.2.2.1 := hp9
        have hr1 : (nxt tp sz (nxt tp sz s)).2.2.2.1 ≤ 9 := hr1
        have hm2 := mbn_y hd5 hT3
        have ht1 := ((ctk_5 hT3).mp hd5).1
        have hz : nzF (nxt tp sz (nxt tp sz s)) p = (nxt tp sz (nxt tp sz s)).2.2.2.2.2 p := if_pos hp9
        refine wp_istore_n (atd dX7_parseLine 15 rfl) (Nat.le_of_ble_eq_true rfl) ?_
        refine wp_aload_n (atd dX7_parseLine 16 rfl) rfl rfl ?_
        refine wp_get fX7_33 (atd dX7_parseLine 17 rfl) hSc rfl ?_
        refine wp_ifN_eq (tgt := 36) (atd dX7_parseLine 18 rfl) (by decide) (by omega) (fun c_32 => ?_) (fun c_32 => ?_)
        ·
          refine wp_iload_n (atd dX7_parseLine 20 rfl) rfl ?_
          refine wp_iload_n (atd dX7_parseLine 21 rfl) rfl ?_
          refine wp_icmpN_ne (tgt := 49) (atd dX7_parseLine 22 rfl) (by decide) (by omega) (by omega) (fun c_38 => ?_) (fun c_38 => ?_)
          ·
            refine wp_aload_n (atd dX7_parseLine 27 rfl) rfl rfl ?_
            refine wp_iload_n (atd dX7_parseLine 28 rfl) rfl ?_
            refine wp_iload_n (atd dX7_parseLine 29 rfl) rfl ?_
            refine wp_cVi hdd [_, _] (atd dX7_parseLine 30 rfl) iX3_joined lX7_78 rfl rfl (Nat.le_of_ble_eq_true rfl) h6 rfl (eX3_joined (by omega) h6 h7 hr1 (net_lt h10) (by omega) (by omega)) (fun r_52 s_52 h_52 => ?_)
            obtain ⟨rfl, e_52⟩ := h_52
            obtain rfl := e_52.symm
            refine wp_ifB_eq (tgt := 66) (atd dX7_parseLine 31 rfl) (by decide) (fun c_55 => ?_) (fun c_55 => ?_)
            ·
              refine wp_aload_n (atd dX7_parseLine 36 rfl) rfl rfl ?_
              refine wp_iload_n (atd dX7_parseLine 37 rfl) rfl ?_
              refine wp_iload_n (atd dX7_parseLine 38 rfl) rfl ?_
              refine wp_cVv hdd [_, _] (atd dX7_parseLine 39 rfl) iX3_flip lX7_82 rfl rfl (Nat.le_of_ble_eq_true rfl) h6 rfl (eX3_flip (by omega) h6 h7 hr1 (net_lt h10) (by omega) (by omega)) (fun s_69 h_69 => ?_)
              obtain ⟨f_69, h7⟩ := h_69
              have hSc := hSc.fr f_69 (by decide)
              have hbit : ((nxt tp sz (nxt tp sz s)).2.2.2.2.2 p).testBit q = false := by cases hbb : ((nxt tp sz (nxt tp sz s)).2.2.2.2.2 p).testBit q with | false => rfl | true => exact absurd ⟨c_38, hq9, by rw [hz]; exact hbb⟩ c_55
              rw [flp_t c_38 hp9 hq9] at h7
              have h10n := nbt_netZ h10 hp9 hq9 c_38
              rw [nz_lin h10 hp9 hq9 c_38 hbit] at h7 h10n
              have hF := hF.tr f_69 (by simp)
              have hX : CX s_69 tp bs sz (linM (nxt tp sz (nxt tp sz s)) p q) := ⟨nf, nl, hSc, h2.fr f_69 (by decide), h3.fr f_69 (by decide), h4.fr f_69 (by decide), h5, h6.fr f_69 (by decide), h7, h8, h9.linM (by omega) (by omega), h10n⟩
              refine wp_aload_n (atd dX7_parseLine 40 rfl) rfl rfl ?_
              refine wp_cVv hdd [] (atd dX7_parseLine 41 rfl) iX7_passSign lX7_72 rfl rfl (Nat.le_of_ble_eq_true rfl) hSc rfl (eX7_passSign (by omega) hsz ht hb (s := linM (nxt tp sz (nxt tp sz s)) p q) hz2 hX) (fun s_73 h_73 => ?_)
              obtain ⟨f_73, hX⟩ := h_73
              have hF := hF.tr f_73 (by simp)
              refine wp_vretv (atd dX7_parseLine 42 rfl) rfl ?_
              rw [rdL_y h0 hm1 hcl, hm2, rdL2_s hz2 hdl, if_neg (fun z => c_38 z.symm), if_neg (by rw [hbit]; decide)]
              exact ⟨hF, hX⟩
            ·
              refine wp_aload_n (atd dX7_parseLine 32 rfl) rfl rfl ?_
              refine wp_iconst (v := nI 4) (atd dX7_parseLine 33 rfl) (by decide) ?_
              refine wp_cVv hdd [_] (atd dX7_parseLine 34 rfl) iX7_refuse lX7_58 rfl rfl (Nat.le_of_ble_eq_true rfl) hSc rfl (eX7_refX (k := 4) (by omega) (by omega) (by omega) hz2 (by omega) hX) (fun s_60 h_60 => ?_)
              obtain ⟨f_60, hX⟩ := h_60
              have hF := hF.tr f_60 (by simp)
              refine wp_goto (tgt := 76) (atd dX7_parseLine 35 rfl) (by decide) ?_
              refine wp_vretv (atd dX7_parseLine 42 rfl) rfl ?_
              rw [rdL_y h0 hm1 hcl, hm2, rdL2_s hz2 hdl, if_neg (fun z => c_38 z.symm), if_pos (by rw [← hz]; exact c_55.2.2), stpN1_bad (fai_ne (by decide))]
              exact ⟨hF, hX⟩
          ·
            refine wp_aload_n (atd dX7_parseLine 23 rfl) rfl rfl ?_
            refine wp_iconst (v := nI 3) (atd dX7_parseLine 24 rfl) (by decide) ?_
            refine wp_cVv hdd [_] (atd dX7_parseLine 25 rfl) iX7_refuse lX7_58 rfl rfl (Nat.le_of_ble_eq_true rfl) hSc rfl (eX7_refX (k := 3) (by omega) (by omega) (by omega) hz2 (by omega) hX) (fun s_43 h_43 => ?_)
            obtain ⟨f_43, hX⟩ := h_43
            have hF := hF.tr f_43 (by simp)
            refine wp_goto (tgt := 76) (atd dX7_parseLine 26 rfl) (by decide) ?_
            refine wp_vretv (atd dX7_parseLine 42 rfl) rfl ?_
            rw [rdL_y h0 hm1 hcl, hm2, rdL2_s hz2 hdl, if_pos c_38.symm, stpN1_bad (fai_ne (by decide))]
            exact ⟨hF, hX⟩
        · exact absurd hz2 (by omega)
    · exact absurd h00 (by omega)
theorem lX7_parse (hd : 9 ≤ d) {σ0 : Hp} {V : PS} (hsz : sz ≤ 600) (ht : ∀ k, tp k < 256) (hb : ∀ k, k < sz → bs k = tp k) : ∀ (x : Nat) (i : Nat) (σ : Hp) (s : PS), i + x = 601 → CX σ tp bs sz s → fr [1, 3, 4, 7, 8] σ0 σ → prs tp sz x s = V → Wp G mX7_parse d 25 [.ref 1, .ref 7, .int (nI i)] [] σ 0 0 (pV fun s2 => fr [1, 3, 4, 7, 8] σ0 s2 ∧ CX s2 tp bs sz V) := by
  obtain ⟨d0, hdd⟩ : ∃ e, d = e + 1 := ⟨d - 1, by omega⟩
  intro x
  induction x with
  | zero =>
    intro i σ s h hX hF hv
    obtain ⟨nf, nl, hSc, h2, h3, h4, h5, h6, h7, h8, h9, h10⟩ := id hX
    obtain rfl : i = 601 := by omega
    refine wp_iload_n (atd dX7_parse 15 rfl) rfl ?_
    refine wp_sipush (v := nI 600) (atd dX7_parse 16 rfl) (by decide) ?_
    refine wp_icmpN_gt (tgt := 88) (atd dX7_parse 17 rfl) (by decide) (by omega) (by omega) (fun c_29 => ?_) (fun c_29 => ?_)
    ·
      refine wp_vretv (atd dX7_parse 44 rfl) rfl ?_
      subst hv
      exact ⟨hF, hX⟩
    · exfalso; omega
  | succ x ih =>
    intro i σ s h hX hF hv
    obtain ⟨nf, nl, hSc, h2, h3, h4, h5, h6, h7, h8, h9, h10⟩ := id hX
    have hT3 := h9.2.2.1
    have h5z := h9.2.2.2.1
    have hct := ctk_lt s.1
    refine wp_iload_n (atd dX7_parse 15 rfl) rfl ?_
    refine wp_sipush (v := nI 600) (atd dX7_parse 16 rfl) (by decide) ?_
    refine wp_icmpN_gt (tgt := 88) (atd dX7_parse 17 rfl) (by decide) (by omega) (by omega) (fun c_29 => ?_) (fun c_29 => ?_)
    · exfalso; omega
    ·
      refine wp_aload_n (atd dX7_parse 18 rfl) rfl rfl ?_
      refine wp_get fX7_33 (atd dX7_parse 19 rfl) hSc rfl ?_
      refine wp_ifN_ne (tgt := 88) (atd dX7_parse 20 rfl) (by decide) (by omega) (fun c_36 => ?_) (fun c_36 => ?_)
      ·
        refine wp_vretv (atd dX7_parse 44 rfl) rfl ?_
        rw [prs, if_neg (fun z => by have := z.1; omega)] at hv
        subst hv
        exact ⟨hF, hX⟩
      ·
        have h00 : s.2.1 = 0 := by omega
        refine wp_aload_n (atd dX7_parse 21 rfl) rfl rfl ?_
        refine wp_get fX7_42 (atd dX7_parse 22 rfl) hSc rfl ?_
        refine wp_ifN_eq (tgt := 88) (atd dX7_parse 23 rfl) (by decide) (by omega) (fun c_43 => ?_) (fun c_43 => ?_)
        ·
          refine wp_vretv (atd dX7_parse 44 rfl) rfl ?_
          rw [prs, if_neg (fun z => z.2 (ctk_0.mp c_43))] at hv
          subst hv
          exact ⟨hF, hX⟩
        ·
          refine wp_aload_n (atd dX7_parse 24 rfl) rfl rfl ?_
          refine wp_get fX7_42 (atd dX7_parse 25 rfl) hSc rfl ?_
          refine wp_iconst (v := nI 3) (atd dX7_parse 26 rfl) (by decide) ?_
          refine wp_icmpN_ne (tgt := 62) (atd dX7_parse 27 rfl) (by decide) (by omega) (by omega) (fun c_51 => ?_) (fun c_51 => ?_)
          ·
            refine wp_aload_n (atd dX7_parse 32 rfl) rfl rfl ?_
            refine wp_get fX7_42 (atd dX7_parse 33 rfl) hSc rfl ?_
            refine wp_iconst (v := nI 4) (atd dX7_parse 34 rfl) (by decide) ?_
            refine wp_icmpN_ne (tgt := 78) (atd dX7_parse 35 rfl) (by decide) (by omega) (by omega) (fun c_67 => ?_) (fun c_67 => ?_)
            ·
              refine wp_aload_n (atd dX7_parse 40 rfl) rfl rfl ?_
              refine wp_cVv hdd [] (atd dX7_parse 41 rfl) iX7_refuseToken lX7_52 rfl rfl (Nat.le_of_ble_eq_true rfl) hSc rfl (eX7_refuseToken (by omega) h00 hX) (fun s_79 h_79 => ?_)
              obtain ⟨f_79, hX⟩ := h_79
              have hF := hF.tr f_79 (by simp)
              refine wp_iincN (c := 1) (atd dX7_parse 42 rfl) rfl ?_
              refine wp_goto (tgt := 25) (atd dX7_parse 43 rfl) (by decide) ?_
              have hne : s.1.2.2.1 ≠ 0 := fun z => by have := ctk_0.mpr z; omega
              rw [prs, if_pos ⟨h00, hne⟩] at hv
              rw [show stpN0 tp sz s = fai 2 s from by unfold stpN0; rw [if_neg (fun z => c_51 ((ctk_3 hT3).mpr z)), if_neg (fun z => c_67 ((ctk_4 hT3).mpr z))], stpN1_bad (fai_ne (by decide))] at hv
              exact ih (i + 1) _ _ (by omega) hX hF hv
            ·
              refine wp_aload_n (atd dX7_parse 36 rfl) rfl rfl ?_
              refine wp_aload_n (atd dX7_parse 37 rfl) rfl rfl ?_
              refine wp_cVv hdd [_] (atd dX7_parse 38 rfl) iX7_parseLine lX7_49 rfl rfl (Nat.le_of_ble_eq_true rfl) hSc rfl (eX7_parseLine (by omega) hsz ht hb h00 hX) (fun s_72 h_72 => ?_)
              obtain ⟨f_72, hX⟩ := h_72
              have hF := hF.tr f_72 (by simp)
              refine wp_goto (tgt := 82) (atd dX7_parse 39 rfl) (by decide) ?_
              refine wp_iincN (c := 1) (atd dX7_parse 42 rfl) rfl ?_
              refine wp_goto (tgt := 25) (atd dX7_parse 43 rfl) (by decide) ?_
              have hne : s.1.2.2.1 ≠ 0 := fun z => by have := ctk_0.mpr z; omega
              rw [prs, if_pos ⟨h00, hne⟩] at hv
              rw [show stpN0 tp sz s = rdL tp sz s from by unfold stpN0; rw [if_neg (fun z => c_51 ((ctk_3 hT3).mpr z)), if_pos ((ctk_4 hT3).mp c_67)]] at hv
              exact ih (i + 1) _ _ (by omega) hX hF hv
          ·
            refine wp_aload_n (atd dX7_parse 28 rfl) rfl rfl ?_
            refine wp_aload_n (atd dX7_parse 29 rfl) rfl rfl ?_
            refine wp_cVv hdd [_] (atd dX7_parse 30 rfl) iX7_parsePlace lX7_45 rfl rfl (Nat.le_of_ble_eq_true rfl) hSc rfl (eX7_parsePlace (by omega) hsz ht hb h00 ((ctk_3 hT3).mp c_51).1 hX) (fun s_56 h_56 => ?_)
            obtain ⟨f_56, hX⟩ := h_56
            have hF := hF.tr f_56 (by simp)
            refine wp_goto (tgt := 82) (atd dX7_parse 31 rfl) (by decide) ?_
            refine wp_iincN (c := 1) (atd dX7_parse 42 rfl) rfl ?_
            refine wp_goto (tgt := 25) (atd dX7_parse 43 rfl) (by decide) ?_
            have hne : s.1.2.2.1 ≠ 0 := fun z => by have := ctk_0.mpr z; omega
            rw [prs, if_pos ⟨h00, hne⟩] at hv
            rw [show stpN0 tp sz s = rdP tp sz s from if_pos ((ctk_3 hT3).mp c_51)] at hv
            exact ih (i + 1) _ _ (by omega) hX hF hv
theorem eX7_parse (hd : 10 ≤ d) {fk dn wa : Nat} {fp tk fm bh : Int32} {nf nl dnb : Nat → Nat} (hsz : sz ≤ 600) (ht : ∀ k, tp k < 256) (hb : ∀ k, k < sz → bs k = tp k) (hSc : OB σ 1 7 (scL sz fk fp tk fm bh)) (h2 : AI σ 2 600 bs) (h3 : AI σ 3 9 nf) (h4 : AI σ 4 9 nl) (h6 : OB σ 7 3 [.int (nI dn), .ref (7 + 1)]) (h7 : AI σ (7 + 1) 9 dnb) : Cl G mX7_parse d [.ref 1, .ref 7] σ 0 0 (pV fun s2 => fr [1, 3, 4, 7, 8] σ s2 ∧ CX s2 tp bs sz (netV tp sz wa (fun _ => 0) (fun _ => 0))) := by
  obtain ⟨d0, hdd⟩ : ∃ e, d = e + 1 := ⟨d - 1, by omega⟩
  refine cl_of (by decide) (by simp [Value.category]) (Nat.le_of_ble_eq_true rfl) ?_
  show Wp G mX7_parse d 0 [.ref 1, .ref 7, .double 0] [] σ 0 0 _
  have hF : fr [1, 3, 4, 7, 8] σ σ := fr.rf
  refine wp_aload_n (atd dX7_parse 0 rfl) rfl rfl ?_
  refine wp_cVv hdd [] (atd dX7_parse 1 rfl) iX3_clear lX7_28 rfl rfl (Nat.le_of_ble_eq_true rfl) h6 rfl (eX3_clear (by omega) h6 h7) (fun s_1 h_1 => ?_)
  obtain ⟨f_1, h6, h7⟩ := h_1
  have hF := hF.tr f_1 (by simp)
  have hSc := hSc.fr f_1 (by decide)
  have h2 := h2.fr f_1 (by decide)
  have h3 := h3.fr f_1 (by decide)
  have h4 := h4.fr f_1 (by decide)
  refine wp_aload_n (atd dX7_parse 2 rfl) rfl rfl ?_
  refine wp_iconst (v := nI 0) (atd dX7_parse 3 rfl) (by decide) ?_
  refine wp_putX fX7_33 (atd dX7_parse 4 rfl) hSc rfl (Nat.le_of_ble_eq_true rfl) (fun σ f_6 hSc => ?_)
  have h2 := h2.fr f_6 (by first | decide | (simp only [List.mem_cons, List.not_mem_nil, or_false]; omega))
  have h3 := h3.fr f_6 (by first | decide | (simp only [List.mem_cons, List.not_mem_nil, or_false]; omega))
  have h4 := h4.fr f_6 (by first | decide | (simp only [List.mem_cons, List.not_mem_nil, or_false]; omega))
  have h6 := h6.fr f_6 (by first | decide | (simp only [List.mem_cons, List.not_mem_nil, or_false]; omega))
  have h7 := h7.fr f_6 (by first | decide | (simp only [List.mem_cons, List.not_mem_nil, or_false]; omega))
  have hF := hF.tr f_6 (by simp)
  refine wp_aload_n (atd dX7_parse 5 rfl) rfl rfl ?_
  refine wp_iconst (v := -1) (atd dX7_parse 6 rfl) (by decide) ?_
  refine wp_putX fX7_15 (atd dX7_parse 7 rfl) hSc rfl (Nat.le_of_ble_eq_true rfl) (fun σ f_11 hSc => ?_)
  have h2 := h2.fr f_11 (by first | decide | (simp only [List.mem_cons, List.not_mem_nil, or_false]; omega))
  have h3 := h3.fr f_11 (by first | decide | (simp only [List.mem_cons, List.not_mem_nil, or_false]; omega))
  have h4 := h4.fr f_11 (by first | decide | (simp only [List.mem_cons, List.not_mem_nil, or_false]; omega))
  have h6 := h6.fr f_11 (by first | decide | (simp only [List.mem_cons, List.not_mem_nil, or_false]; omega))
  have h7 := h7.fr f_11 (by first | decide | (simp only [List.mem_cons, List.not_mem_nil, or_false]; omega))
  have hF := hF.tr f_11 (by simp)
  refine wp_aload_n (atd dX7_parse 8 rfl) rfl rfl ?_
  refine wp_iconst (v := nI 0) (atd dX7_parse 9 rfl) (by decide) ?_
  refine wp_putX fX7_36 (atd dX7_parse 10 rfl) hSc rfl (Nat.le_of_ble_eq_true rfl) (fun σ f_16 hSc => ?_)
  have h2 := h2.fr f_16 (by first | decide | (simp only [List.mem_cons, List.not_mem_nil, or_false]; omega))
  have h3 := h3.fr f_16 (by first | decide | (simp only [List.mem_cons, List.not_mem_nil, or_false]; omega))
  have h4 := h4.fr f_16 (by first | decide | (simp only [List.mem_cons, List.not_mem_nil, or_false]; omega))
  have h6 := h6.fr f_16 (by first | decide | (simp only [List.mem_cons, List.not_mem_nil, or_false]; omega))
  have h7 := h7.fr f_16 (by first | decide | (simp only [List.mem_cons, List.not_mem_nil, or_false]; omega))
  have hF := hF.tr f_16 (by simp)
  refine wp_aload_n (atd dX7_parse 11 rfl) rfl rfl ?_
  refine wp_cVv hdd [] (atd dX7_parse 12 rfl) iX7_advance lX7_39 rfl rfl (Nat.le_of_ble_eq_true rfl) hSc rfl (eX7_advance (by omega) hsz ht hSc h2 hb (Nat.zero_le _)) (fun s_20 h_20 => ?_)
  obtain ⟨f_20, hSc⟩ := h_20
  have hF := hF.tr f_20 (by simp)
  have hX : CX s_20 tp bs sz (tokM tp sz 0, 0, wa, 0, fun _ => 0, fun _ => 0) := ⟨_, _, hSc, h2.fr f_20 (by decide), h3.fr f_20 (by decide), h4.fr f_20 (by decide), fun p hp => absurd hp (Nat.not_lt_zero p), h6.fr f_20 (by decide), (h7.fr f_20 (by decide)).cg (fun x _ => (if_neg (Nat.not_lt_zero x)).symm), ⟨tokM_w (Nat.zero_le _), tokM_ab⟩, ⟨(tokM_ok (Nat.zero_le _)).1, (tokM_ok (Nat.zero_le _)).2.1, (tokM_ok (Nat.zero_le _)).2.2, Nat.zero_le _, Nat.zero_le _, fun _ => (by decide : (0 : Nat) < 512)⟩, ⟨⟨Nat.zero_le _, fun p hp => absurd hp (Nat.not_lt_zero p), fun p hp => absurd hp (Nat.not_lt_zero p), fun p q hp => absurd hp (Nat.not_lt_zero p)⟩, fun x _ => if_neg (Nat.not_lt_zero x)⟩⟩
  refine wp_iconst (v := nI 0) (atd dX7_parse 13 rfl) (by decide) ?_
  refine wp_istore_n (atd dX7_parse 14 rfl) (Nat.le_of_ble_eq_true rfl) ?_
  exact lX7_parse (by omega) hsz ht hb 601 0 _ _ (by omega) hX hF rfl
end Rd2
