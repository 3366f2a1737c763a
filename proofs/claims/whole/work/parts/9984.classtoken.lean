/-! the next token -/
theorem wrE_more {tp : Nat → Nat} {sz : Nat} : ∀ (f b : Nat), sz ≤ b + f → wrE tp sz (f + 1) b = wrE tp sz f b
  | 0, b, h => by
    unfold wrE
    rw [if_neg (by omega)]
  | f + 1, b, h => by
    show (if b < sz ∧ 97 ≤ tp b ∧ tp b ≤ 122 then wrE tp sz (f + 1) (b + 1) else b) = (if b < sz ∧ 97 ≤ tp b ∧ tp b ≤ 122 then wrE tp sz f (b + 1) else b)
    by_cases q : b < sz ∧ 97 ≤ tp b ∧ tp b ≤ 122
    · rw [if_pos q, if_pos q]; exact wrE_more f (b + 1) (by omega)
    · rw [if_neg q, if_neg q]
section Tok
variable {tp : Nat → Nat} {sz b : Nat}
theorem tokM_e (ha : ¬ skp tp sz 600 b < sz) : tokM tp sz b = (skp tp sz 600 b, skp tp sz 600 b, 0, nI 0) := if_neg ha
theorem tokM_s (ha : skp tp sz 600 b < sz) (hl : ¬ (97 ≤ tp (skp tp sz 600 b) ∧ tp (skp tp sz 600 b) ≤ 122)) : tokM tp sz b = (skp tp sz 600 b, skp tp sz 600 b + 1, (if tp (skp tp sz 600 b) = 59 then 2 else 3), nI 0) := by
  unfold tokM
  rw [if_pos ha, if_neg hl]
theorem tokM_l (hsz : sz ≤ 600) (ha : skp tp sz 600 b < sz) (hl : 97 ≤ tp (skp tp sz 600 b) ∧ tp (skp tp sz 600 b) ≤ 122) : (tokM tp sz b).1 = skp tp sz 600 b ∧ (tokM tp sz b).2.1 = wrE tp sz 600 (skp tp sz 600 b + 1) ∧ (tokM tp sz b).2.2.1 = (if wrE tp sz 600 (skp tp sz 600 b + 1) ≤ skp tp sz 600 b + 6 then 1 else 3) := by
  unfold tokM
  rw [if_pos ha, if_pos hl]
  generalize skp tp sz 600 b = a at ha hl ⊢
  have e : (wrd tp sz a 600 a (nI 0)).1 = wrE tp sz 600 (a + 1) := by
    rw [wrE_1, wrE_more 599 (a + 1) (by omega), wrE, if_pos ⟨ha, hl⟩]
  rw [e]
  exact ⟨rfl, rfl, rfl⟩
theorem ctk_wtk (hsz : sz ≤ 600) (hb : b ≤ sz) (ha : skp tp sz 600 b < sz) (hl : 97 ≤ tp (skp tp sz 600 b) ∧ tp (skp tp sz 600 b) ≤ 122) : ctk (tokM tp sz b) = wtk tp (tokM tp sz b).1 (tokM tp sz b).2.1 := by
  obtain ⟨e1, e2, e3⟩ := tokM_l hsz ha hl
  have hT := tokM_w (tp := tp) hb
  have hle := (tokM_ok (tp := tp) hb).2.2
  rw [← e2, ← e1] at e3
  unfold wtk
  by_cases h6 : 6 < (tokM tp sz b).2.1 - (tokM tp sz b).1
  · rw [if_pos h6, ctk_1 hle, e3, if_neg (by omega)]
  · have h1 : (tokM tp sz b).2.2.1 = 1 := by rw [e3, if_pos (by omega)]
    have hp := pl_iff hT h1
    have hn := ln_iff hT h1
    rw [if_neg h6]
    by_cases w0 : isWd tp (tokM tp sz b).1 (tokM tp sz b).2.1 0
    · rw [if_pos w0, ctk_3 hle]; exact ⟨h1, hp.mpr w0⟩
    · rw [if_neg w0]
      by_cases w1 : isWd tp (tokM tp sz b).1 (tokM tp sz b).2.1 1
      · rw [if_pos w1, ctk_4 hle]; exact ⟨h1, hn.mpr w1⟩
      · rw [if_neg w1, ctk_5 hle]; exact ⟨h1, fun z => w0 (hp.mp z), fun z => w1 (hn.mp z)⟩
end Tok
theorem lX7_adv1 {G : Gx} {d : Nat} {Q : Option Value → Hp → Prop} (hd : 1 ≤ d) {σ0 : Hp} {sz fk b0 : Nat} {fp tk : Int32} {tp bs : Nat → Nat} (hsz : sz ≤ 600) (ht : ∀ k, tp k < 256) (hb : ∀ k, k < sz → bs k = tp k) {a : Nat} {y2 : Value} (hk : ∀ (σ : Hp) (y1 : Value), OB σ 1 7 (scL sz fk fp tk (nI a) (nI b0)) → AI σ 2 600 bs → fr [1] σ0 σ → a ≤ sz → Wp G mX7_advance d 47 [.ref 1, y1, y2] [] σ 0 0 Q) : ∀ (f : Nat) (i : Nat) (σ : Hp) (c : Nat), i + f = 600 → c ≤ sz → OB σ 1 7 (scL sz fk fp tk (nI c) (nI b0)) → AI σ 2 600 bs → fr [1] σ0 σ → skp tp sz f c = a → Wp G mX7_advance d 10 [.ref 1, .int (nI i), y2] [] σ 0 0 Q := by
  obtain ⟨d0, hdd⟩ : ∃ e, d = e + 1 := ⟨d - 1, by omega⟩
  intro f
  induction f with
  | zero =>
    intro i σ c h hc hSc hB hF hv
    obtain rfl : i = 600 := by omega
    refine wp_iload_n (atd dX7_advance 6 rfl) rfl ?_
    refine wp_sipush (v := nI 600) (atd dX7_advance 7 rfl) (by decide) ?_
    refine wp_icmpN_ge (tgt := 47) (atd dX7_advance 8 rfl) (by decide) (by omega) (by omega) (fun c_14 => ?_) (fun c_14 => ?_)
    ·
      obtain rfl : c = a := hv
      exact hk σ _ hSc hB hF hc
    · exfalso; omega
  | succ f ih =>
    intro i σ c h hc hSc hB hF hv
    refine wp_iload_n (atd dX7_advance 6 rfl) rfl ?_
    refine wp_sipush (v := nI 600) (atd dX7_advance 7 rfl) (by decide) ?_
    refine wp_icmpN_ge (tgt := 47) (atd dX7_advance 8 rfl) (by decide) (by omega) (by omega) (fun c_14 => ?_) (fun c_14 => ?_)
    · exfalso; omega
    ·
      refine wp_aload_n (atd dX7_advance 9 rfl) rfl rfl ?_
      refine wp_aload_n (atd dX7_advance 10 rfl) rfl rfl ?_
      refine wp_get fX7_66 (atd dX7_advance 11 rfl) hSc rfl ?_
      refine wp_cVi hdd [_] (atd dX7_advance 12 rfl) iX7_byteAt lX7_86 rfl rfl (Nat.le_of_ble_eq_true rfl) hSc rfl (eX7_byteAt (by omega) hsz ht hSc hB hb (by omega)) (fun r_22 s_22 h_22 => ?_)
      obtain ⟨rfl, e_22⟩ := h_22
      obtain rfl := e_22.symm
      refine wp_cSi hdd [_] (atd dX7_advance 13 rfl) iX7_isBlank lX7_90 rfl rfl (Nat.le_of_ble_eq_true rfl) (eX7_isBlank (by omega)) (fun r_25 s_25 h_25 => ?_)
      obtain ⟨rfl, e_25⟩ := h_25
      obtain rfl := e_25.symm
      refine wp_ifB_eq (tgt := 47) (atd dX7_advance 14 rfl) (by decide) (fun c_28 => ?_) (fun c_28 => ?_)
      ·
        obtain rfl : c = a := by rw [← hv]; unfold skp; rw [if_neg (fun z => c_28 ((blank_A ht).mpr z))]
        exact hk σ _ hSc hB hF hc
      ·
        refine wp_aload_n (atd dX7_advance 15 rfl) rfl rfl ?_
        refine wp_dup (atd dX7_advance 16 rfl) rfl ?_
        refine wp_get fX7_66 (atd dX7_advance 17 rfl) hSc rfl ?_
        refine wp_iconst (v := nI 1) (atd dX7_advance 18 rfl) (by decide) ?_
        refine wp_iaddN (atd dX7_advance 19 rfl) ?_
        refine wp_putX fX7_66 (atd dX7_advance 20 rfl) hSc rfl (Nat.le_of_ble_eq_true rfl) (fun σ f_38 hSc => ?_)
        have hB := hB.fr f_38 (by first | decide | (simp only [List.mem_cons, List.not_mem_nil, or_false]; omega))
        have hF := hF.tr f_38 (by simp)
        refine wp_iincN (c := 1) (atd dX7_advance 21 rfl) rfl ?_
        refine wp_goto (tgt := 10) (atd dX7_advance 22 rfl) (by decide) ?_
        have hbl := (blank_A ht).mp c_28
        exact ih (i + 1) _ (c + 1) (by omega) (by omega) hSc hB hF (by rw [← hv, skp, if_pos hbl])
theorem lX7_adv2 {G : Gx} {d : Nat} {Q : Option Value → Hp → Prop} (hd : 1 ≤ d) {σ0 : Hp} {sz fk b0 : Nat} {fp tk : Int32} {tp bs : Nat → Nat} (hsz : sz ≤ 600) (ht : ∀ k, tp k < 256) (hb : ∀ k, k < sz → bs k = tp k) {a z : Nat} {y1 : Value} (hk : ∀ (σ : Hp) (y2 : Value), OB σ 1 7 (scL sz fk fp tk (nI a) (nI z)) → AI σ 2 600 bs → fr [1] σ0 σ → z ≤ sz → Wp G mX7_advance d 147 [.ref 1, y1, y2] [] σ 0 0 Q) : ∀ (f : Nat) (i : Nat) (σ : Hp) (c : Nat), i + f = 600 → c ≤ sz → OB σ 1 7 (scL sz fk fp tk (nI a) (nI c)) → AI σ 2 600 bs → fr [1] σ0 σ → wrE tp sz f c = z → Wp G mX7_advance d 110 [.ref 1, y1, .int (nI i)] [] σ 0 0 Q := by
  obtain ⟨d0, hdd⟩ : ∃ e, d = e + 1 := ⟨d - 1, by omega⟩
  intro f
  induction f with
  | zero =>
    intro i σ c h hc hSc hB hF hv
    obtain rfl : i = 600 := by omega
    refine wp_iload_n (atd dX7_advance 57 rfl) rfl ?_
    refine wp_sipush (v := nI 600) (atd dX7_advance 58 rfl) (by decide) ?_
    refine wp_icmpN_ge (tgt := 147) (atd dX7_advance 59 rfl) (by decide) (by omega) (by omega) (fun c_114 => ?_) (fun c_114 => ?_)
    ·
      obtain rfl : c = z := hv
      exact hk σ _ hSc hB hF hc
    · exfalso; omega
  | succ f ih =>
    intro i σ c h hc hSc hB hF hv
    refine wp_iload_n (atd dX7_advance 57 rfl) rfl ?_
    refine wp_sipush (v := nI 600) (atd dX7_advance 58 rfl) (by decide) ?_
    refine wp_icmpN_ge (tgt := 147) (atd dX7_advance 59 rfl) (by decide) (by omega) (by omega) (fun c_114 => ?_) (fun c_114 => ?_)
    · exfalso; omega
    ·
      refine wp_aload_n (atd dX7_advance 60 rfl) rfl rfl ?_
      refine wp_aload_n (atd dX7_advance 61 rfl) rfl rfl ?_
      refine wp_get fX7_36 (atd dX7_advance 62 rfl) hSc rfl ?_
      refine wp_cVi hdd [_] (atd dX7_advance 63 rfl) iX7_byteAt lX7_86 rfl rfl (Nat.le_of_ble_eq_true rfl) hSc rfl (eX7_byteAt (by omega) hsz ht hSc hB hb (by omega)) (fun r_122 s_122 h_122 => ?_)
      obtain ⟨rfl, e_122⟩ := h_122
      obtain rfl := e_122.symm
      refine wp_cSi hdd [_] (atd dX7_advance 64 rfl) iX7_isLetter lX7_94 rfl rfl (Nat.le_of_ble_eq_true rfl) (eX7_isLetter (by omega)) (fun r_125 s_125 h_125 => ?_)
      obtain ⟨rfl, e_125⟩ := h_125
      obtain rfl := e_125.symm
      refine wp_ifB_eq (tgt := 147) (atd dX7_advance 65 rfl) (by decide) (fun c_128 => ?_) (fun c_128 => ?_)
      ·
        obtain rfl : c = z := by rw [← hv]; unfold wrE; rw [if_neg (fun z => c_128 ((letter_A ht).mpr z))]
        exact hk σ _ hSc hB hF hc
      ·
        refine wp_aload_n (atd dX7_advance 66 rfl) rfl rfl ?_
        refine wp_dup (atd dX7_advance 67 rfl) rfl ?_
        refine wp_get fX7_36 (atd dX7_advance 68 rfl) hSc rfl ?_
        refine wp_iconst (v := nI 1) (atd dX7_advance 69 rfl) (by decide) ?_
        refine wp_iaddN (atd dX7_advance 70 rfl) ?_
        refine wp_putX fX7_36 (atd dX7_advance 71 rfl) hSc rfl (Nat.le_of_ble_eq_true rfl) (fun σ f_138 hSc => ?_)
        have hB := hB.fr f_138 (by first | decide | (simp only [List.mem_cons, List.not_mem_nil, or_false]; omega))
        have hF := hF.tr f_138 (by simp)
        refine wp_iincN (c := 1) (atd dX7_advance 72 rfl) rfl ?_
        refine wp_goto (tgt := 110) (atd dX7_advance 73 rfl) (by decide) ?_
        have hbl := (letter_A ht).mp c_128
        exact ih (i + 1) _ (c + 1) (by omega) (by omega) hSc hB hF (by rw [← hv, wrE, if_pos hbl])
theorem eX7_advance {G : Gx} {d : Nat} {σ : Hp} (hd : 6 ≤ d) {sz fk b0 : Nat} {fp tk fm : Int32} {tp bs : Nat → Nat} (hsz : sz ≤ 600) (ht : ∀ k, tp k < 256) (hSc : OB σ 1 7 (scL sz fk fp tk fm (nI b0))) (hB : AI σ 2 600 bs) (hb : ∀ k, k < sz → bs k = tp k) (hb0 : b0 ≤ sz) : Cl G mX7_advance d [.ref 1] σ 0 0 (pV fun s => fr [1] σ s ∧ OB s 1 7 (scL sz fk fp (nI (ctk (tokM tp sz b0))) (nI (tokM tp sz b0).1) (nI (tokM tp sz b0).2.1))) := by
  obtain ⟨d0, hdd⟩ : ∃ e, d = e + 1 := ⟨d - 1, by omega⟩
  refine cl_of (by decide) (by simp [Value.category]) (Nat.le_of_ble_eq_true rfl) ?_
  show Wp G mX7_advance d 0 [.ref 1, .double 0, .double 0] [] σ 0 0 _
  have hF : fr [1] σ σ := fr.rf
  refine wp_aload_n (atd dX7_advance 0 rfl) rfl rfl ?_
  refine wp_aload_n (atd dX7_advance 1 rfl) rfl rfl ?_
  refine wp_get fX7_36 (atd dX7_advance 2 rfl) hSc rfl ?_
  refine wp_putX fX7_66 (atd dX7_advance 3 rfl) hSc rfl (Nat.le_of_ble_eq_true rfl) (fun σ f_5 hSc => ?_)
  have hB := hB.fr f_5 (by first | decide | (simp only [List.mem_cons, List.not_mem_nil, or_false]; omega))
  have hF := hF.tr f_5 (by simp)
  refine wp_iconst (v := nI 0) (atd dX7_advance 4 rfl) (by decide) ?_
  refine wp_istore_n (atd dX7_advance 5 rfl) (Nat.le_of_ble_eq_true rfl) ?_
  refine lX7_adv1 (b0 := b0) (by omega) hsz ht hb (fun σ y1 hSc hB hF ha => ?_) 600 0 _ b0 (by omega) hb0 hSc hB hF rfl
  refine wp_aload_n (atd dX7_advance 23 rfl) rfl rfl ?_
  refine wp_aload_n (atd dX7_advance 24 rfl) rfl rfl ?_
  refine wp_get fX7_66 (atd dX7_advance 25 rfl) hSc rfl ?_
  refine wp_cVi hdd [_] (atd dX7_advance 26 rfl) iX7_byteAt lX7_86 rfl rfl (Nat.le_of_ble_eq_true rfl) hSc rfl (eX7_byteAt (by omega) hsz ht hSc hB hb (by omega)) (fun r_52 s_52 h_52 => ?_)
  obtain ⟨rfl, e_52⟩ := h_52
  obtain rfl := e_52.symm
  by_cases hlt : skp tp sz 600 b0 < sz
  · rw [bA_t hlt]
    refine wp_istore_n (atd dX7_advance 27 rfl) (Nat.le_of_ble_eq_true rfl) ?_
    refine wp_aload_n (atd dX7_advance 28 rfl) rfl rfl ?_
    refine wp_aload_n (atd dX7_advance 29 rfl) rfl rfl ?_
    refine wp_get fX7_66 (atd dX7_advance 30 rfl) hSc rfl ?_
    refine wp_iconst (v := nI 1) (atd dX7_advance 31 rfl) (by decide) ?_
    refine wp_iaddN (atd dX7_advance 32 rfl) ?_
    refine wp_putX fX7_36 (atd dX7_advance 33 rfl) hSc rfl (Nat.le_of_ble_eq_true rfl) (fun σ f_63 hSc => ?_)
    have hB := hB.fr f_63 (by first | decide | (simp only [List.mem_cons, List.not_mem_nil, or_false]; omega))
    have hF := hF.tr f_63 (by simp)
    refine wp_iload_n (atd dX7_advance 34 rfl) rfl ?_
    refine wp_iconst (v := -1) (atd dX7_advance 35 rfl) (by decide) ?_
    refine wp_icmp_ne (tgt := 87) (atd dX7_advance 36 rfl) (by decide) (fun c_68 => ?_) (fun c_68 => ?_)
    ·
      refine wp_iload_n (atd dX7_advance 45 rfl) rfl ?_
      refine wp_bipush (v := nI 59) (atd dX7_advance 46 rfl) (by decide) ?_
      refine wp_icmpN_ne (tgt := 101) (atd dX7_advance 47 rfl) (by decide) (by have := ht (skp tp sz 600 b0); omega) (by omega) (fun c_90 => ?_) (fun c_90 => ?_)
      ·
        refine wp_iload_n (atd dX7_advance 52 rfl) rfl ?_
        refine wp_cSi hdd [_] (atd dX7_advance 53 rfl) iX7_isLetter lX7_94 rfl rfl (Nat.le_of_ble_eq_true rfl) (eX7_isLetter (by omega)) (fun r_102 s_102 h_102 => ?_)
        obtain ⟨rfl, e_102⟩ := h_102
        obtain rfl := e_102.symm
        refine wp_ifB_eq (tgt := 158) (atd dX7_advance 54 rfl) (by decide) (fun c_105 => ?_) (fun c_105 => ?_)
        ·
          refine wp_aload_n (atd dX7_advance 79 rfl) rfl rfl ?_
          refine wp_iconst (v := nI 1) (atd dX7_advance 80 rfl) (by decide) ?_
          refine wp_putX fX7_42 (atd dX7_advance 81 rfl) hSc rfl (Nat.le_of_ble_eq_true rfl) (fun σ f_160 hSc => ?_)
          have hB := hB.fr f_160 (by first | decide | (simp only [List.mem_cons, List.not_mem_nil, or_false]; omega))
          have hF := hF.tr f_160 (by simp)
          refine wp_vretv (atd dX7_advance 82 rfl) rfl ?_
          have hnl : ¬ (97 ≤ tp (skp tp sz 600 b0) ∧ tp (skp tp sz 600 b0) ≤ 122) := fun z => c_105 ((small_N (ht _)).mpr z)
          rw [tokM_s hlt hnl, if_neg c_90]
          exact ⟨hF, hSc⟩
        ·
          refine wp_iconst (v := nI 0) (atd dX7_advance 55 rfl) (by decide) ?_
          refine wp_istore_n (atd dX7_advance 56 rfl) (Nat.le_of_ble_eq_true rfl) ?_
          have hll := (small_N (ht _)).mp c_105
          refine lX7_adv2 (b0 := b0) (by omega) hsz ht hb (fun σ y2 hSc hB hF hz => ?_) 600 0 _ (skp tp sz 600 b0 + 1) (by omega) (by omega) hSc hB hF rfl
          have hge := (wrE_l (tp := tp) (sz := sz) 600 (skp tp sz 600 b0 + 1)).1
          obtain ⟨e1, e2, e3⟩ := tokM_l hsz hlt hll
          have ew := ctk_wtk hsz hb0 hlt hll
          rw [e1, e2] at ew
          refine wp_aload_n (atd dX7_advance 74 rfl) rfl rfl ?_
          refine wp_aload_n (atd dX7_advance 75 rfl) rfl rfl ?_
          refine wp_cVi hdd [] (atd dX7_advance 76 rfl) iX7_wordToken lX7_97 rfl rfl (Nat.le_of_ble_eq_true rfl) hSc rfl (eX7_wordToken (by omega) hsz ht hSc hB hb (by omega) hz) (fun r_149 s_149 h_149 => ?_)
          obtain ⟨rfl, e_149⟩ := h_149
          obtain rfl := e_149.symm
          refine wp_putX fX7_42 (atd dX7_advance 77 rfl) hSc rfl (Nat.le_of_ble_eq_true rfl) (fun σ f_152 hSc => ?_)
          have hB := hB.fr f_152 (by first | decide | (simp only [List.mem_cons, List.not_mem_nil, or_false]; omega))
          have hF := hF.tr f_152 (by simp)
          refine wp_goto (tgt := 163) (atd dX7_advance 78 rfl) (by decide) ?_
          refine wp_vretv (atd dX7_advance 82 rfl) rfl ?_
          rw [e1, e2, ew]
          exact ⟨hF, hSc⟩
      ·
        refine wp_aload_n (atd dX7_advance 48 rfl) rfl rfl ?_
        refine wp_iconst (v := nI 2) (atd dX7_advance 49 rfl) (by decide) ?_
        refine wp_putX fX7_42 (atd dX7_advance 50 rfl) hSc rfl (Nat.le_of_ble_eq_true rfl) (fun σ f_95 hSc => ?_)
        have hB := hB.fr f_95 (by first | decide | (simp only [List.mem_cons, List.not_mem_nil, or_false]; omega))
        have hF := hF.tr f_95 (by simp)
        refine wp_goto (tgt := 163) (atd dX7_advance 51 rfl) (by decide) ?_
        refine wp_vretv (atd dX7_advance 82 rfl) rfl ?_
        rw [tokM_s hlt (by omega), if_pos c_90]
        exact ⟨hF, hSc⟩
    · exact absurd (fun e => nI_m1 (by have := ht (skp tp sz 600 b0); omega) e) c_68
  · rw [bA_f hlt]
    refine wp_istore_n (atd dX7_advance 27 rfl) (Nat.le_of_ble_eq_true rfl) ?_
    refine wp_aload_n (atd dX7_advance 28 rfl) rfl rfl ?_
    refine wp_aload_n (atd dX7_advance 29 rfl) rfl rfl ?_
    refine wp_get fX7_66 (atd dX7_advance 30 rfl) hSc rfl ?_
    refine wp_iconst (v := nI 1) (atd dX7_advance 31 rfl) (by decide) ?_
    refine wp_iaddN (atd dX7_advance 32 rfl) ?_
    refine wp_putX fX7_36 (atd dX7_advance 33 rfl) hSc rfl (Nat.le_of_ble_eq_true rfl) (fun σ f_63 hSc => ?_)
    have hB := hB.fr f_63 (by first | decide | (simp only [List.mem_cons, List.not_mem_nil, or_false]; omega))
    have hF := hF.tr f_63 (by simp)
    refine wp_iload_n (atd dX7_advance 34 rfl) rfl ?_
    refine wp_iconst (v := -1) (atd dX7_advance 35 rfl) (by decide) ?_
    refine wp_icmp_ne (tgt := 87) (atd dX7_advance 36 rfl) (by decide) (fun c_68 => ?_) (fun c_68 => ?_)
    · exact absurd rfl c_68
    ·
      refine wp_aload_n (atd dX7_advance 37 rfl) rfl rfl ?_
      refine wp_aload_n (atd dX7_advance 38 rfl) rfl rfl ?_
      refine wp_get fX7_66 (atd dX7_advance 39 rfl) hSc rfl ?_
      refine wp_putX fX7_36 (atd dX7_advance 40 rfl) hSc rfl (Nat.le_of_ble_eq_true rfl) (fun σ f_76 hSc => ?_)
      have hB := hB.fr f_76 (by first | decide | (simp only [List.mem_cons, List.not_mem_nil, or_false]; omega))
      have hF := hF.tr f_76 (by simp)
      refine wp_aload_n (atd dX7_advance 41 rfl) rfl rfl ?_
      refine wp_iconst (v := nI 0) (atd dX7_advance 42 rfl) (by decide) ?_
      refine wp_putX fX7_42 (atd dX7_advance 43 rfl) hSc rfl (Nat.le_of_ble_eq_true rfl) (fun σ f_81 hSc => ?_)
      have hB := hB.fr f_81 (by first | decide | (simp only [List.mem_cons, List.not_mem_nil, or_false]; omega))
      have hF := hF.tr f_81 (by simp)
      refine wp_goto (tgt := 163) (atd dX7_advance 44 rfl) (by decide) ?_
      refine wp_vretv (atd dX7_advance 82 rfl) rfl ?_
      rw [tokM_e hlt]
      exact ⟨hF, hSc⟩
