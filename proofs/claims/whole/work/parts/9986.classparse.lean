/-! the class's reader, in the reference's terms -/
def fpF (s : PS) : Int32 := if s.2.1 = 0 then -1 else nI s.2.2.1
def nzF (s : PS) (x : Nat) : Nat := if x < s.2.2.2.1 then s.2.2.2.2.2 x else 0
def CX (σ : Hp) (tp bs : Nat → Nat) (sz : Nat) (s : PS) : Prop := ∃ nf nl, OB σ 1 7 (scL sz s.2.1 (fpF s) (nI (ctk s.1)) (nI s.1.1) (nI s.1.2.1)) ∧ AI σ 2 600 bs ∧ AI σ 3 9 nf ∧ AI σ 4 9 nl ∧ NMr tp sz s nf nl ∧ OB σ 7 3 [.int (nI s.2.2.2.1), .ref (7 + 1)] ∧ AI σ (7 + 1) 9 (nzF s) ∧ (TKw tp sz s.1 ∧ s.1.1 ≤ s.1.2.1) ∧ POk sz s ∧ isNetZ s.2.2.2.1 (nzF s)
theorem tokM_ab {tp : Nat → Nat} {sz b : Nat} : (tokM tp sz b).1 ≤ (tokM tp sz b).2.1 := by
  unfold tokM
  generalize skp tp sz 600 b = a
  split
  · split
    · show a ≤ (wrd tp sz a 600 a (nI 0)).1
      rw [wrE_1]; exact (wrE_l 600 a).1
    · exact Nat.le_succ a
  · exact Nat.le_refl a
theorem fai_eq {k : Nat} {s : PS} (h : s.2.1 = 0) (h3 : s.1.2.2.1 ≠ 3) : fai k s = (s.1, k, s.1.1, s.2.2.2) := by unfold fai; rw [if_pos h, if_neg h3]
theorem fai_eq3 {k : Nat} {s : PS} (h : s.2.1 = 0) (h3 : s.1.2.2.1 = 3) : fai k s = (s.1, 1, s.1.1, s.2.2.2) := by unfold fai; rw [if_pos h, if_pos h3]
section Rd
variable {G : Gx} {d : Nat} {σ : Hp} {tp bs : Nat → Nat} {sz : Nat} {s : PS}
theorem eX7_advX (hd : 6 ≤ d) (hsz : sz ≤ 600) (ht : ∀ k, tp k < 256) (hb : ∀ k, k < sz → bs k = tp k) (hX : CX σ tp bs sz s) : Cl G mX7_advance d [.ref 1] σ 0 0 (pV fun s2 => fr [1] σ s2 ∧ CX s2 tp bs sz (nxt tp sz s)) := by
  obtain ⟨nf, nl, h1, h2, h3, h4, h5, h6, h7, h8, h9, h10⟩ := hX
  refine cl_post (eX7_advance hd hsz ht h1 h2 hb h9.2.1) ?_
  rintro v s2 ⟨rfl, f, q⟩
  exact ⟨rfl, f, nf, nl, q, h2.fr f (by decide), h3.fr f (by decide), h4.fr f (by decide), h5, h6.fr f (by decide), h7.fr f (by decide), ⟨tokM_w h9.2.1, tokM_ab⟩, h9.nxt, h10⟩
theorem eX7_refuse (hd : 0 ≤ d) {fk k a : Nat} {fp tk bh : Int32} (hSc : OB σ 1 7 (scL sz fk fp tk (nI a) bh)) : Cl G mX7_refuse d [.ref 1, .int (nI k)] σ 0 0 (pV fun s2 => fr [1] σ s2 ∧ OB s2 1 7 (scL sz k (nI a) tk (nI a) bh)) := by
  refine cl_of (by decide) (by simp [Value.category]) (Nat.le_of_ble_eq_true rfl) ?_
  show Wp G mX7_refuse d 0 [.ref 1, .int (nI k)] [] σ 0 0 _
  have hF : fr [1] σ σ := fr.rf
  refine wp_aload_n (atd dX7_refuse 0 rfl) rfl rfl ?_
  refine wp_iload_n (atd dX7_refuse 1 rfl) rfl ?_
  refine wp_putX fX7_33 (atd dX7_refuse 2 rfl) hSc rfl (Nat.le_of_ble_eq_true rfl) (fun σ f_2 hSc => ?_)
  have hF := hF.tr f_2 (by simp)
  refine wp_aload_n (atd dX7_refuse 3 rfl) rfl rfl ?_
  refine wp_aload_n (atd dX7_refuse 4 rfl) rfl rfl ?_
  refine wp_get fX7_66 (atd dX7_refuse 5 rfl) hSc rfl ?_
  refine wp_putX fX7_15 (atd dX7_refuse 6 rfl) hSc rfl (Nat.le_of_ble_eq_true rfl) (fun σ f_10 hSc => ?_)
  have hF := hF.tr f_10 (by simp)
  refine wp_vretv (atd dX7_refuse 7 rfl) rfl ?_
  exact ⟨hF, hSc⟩
theorem CX_fai {σ2 : Hp} {k : Nat} (hk : 1 ≤ k) (hk5 : k ≤ 5) (h0 : s.2.1 = 0) (hX : CX σ tp bs sz s) (f : fr [1] σ σ2) (hq : OB σ2 1 7 (scL sz (if s.1.2.2.1 = 3 then 1 else k) (nI s.1.1) (nI (ctk s.1)) (nI s.1.1) (nI s.1.2.1))) : CX σ2 tp bs sz (fai k s) := by
  obtain ⟨nf, nl, h1, h2, h3, h4, h5, h6, h7, h8, h9, h10⟩ := hX
  have e : fai k s = (s.1, (if s.1.2.2.1 = 3 then 1 else k), s.1.1, s.2.2.2) := if_pos h0
  have hne : ((if s.1.2.2.1 = 3 then 1 else k) : Nat) ≠ 0 := by split <;> omega
  have hO := h9.fai (k := k) hk5
  rw [e] at hO ⊢
  refine ⟨nf, nl, ?_, h2.fr f (by decide), h3.fr f (by decide), h4.fr f (by decide), h5, h6.fr f (by decide), h7.fr f (by decide), h8, hO, h10⟩
  show OB σ2 1 7 (scL sz (if s.1.2.2.1 = 3 then 1 else k) (if ((if s.1.2.2.1 = 3 then 1 else k) : Nat) = 0 then -1 else nI s.1.1) (nI (ctk s.1)) (nI s.1.1) (nI s.1.2.1))
  rw [if_neg hne]; exact hq
theorem eX7_refX (hd : 0 ≤ d) {k : Nat} (hk : 1 ≤ k) (hk5 : k ≤ 5) (h0 : s.2.1 = 0) (h3 : s.1.2.2.1 ≠ 3) (hX : CX σ tp bs sz s) : Cl G mX7_refuse d [.ref 1, .int (nI k)] σ 0 0 (pV fun s2 => fr [1] σ s2 ∧ CX s2 tp bs sz (fai k s)) := by
  have hX2 := hX
  obtain ⟨nf, nl, h1, -⟩ := hX
  refine cl_post (eX7_refuse hd h1) ?_
  rintro v s2 ⟨rfl, f, q⟩
  exact ⟨rfl, f, CX_fai hk hk5 h0 hX2 f (by rw [if_neg h3]; exact q)⟩
theorem eX7_refuseToken (hd : 1 ≤ d) (h0 : s.2.1 = 0) (hX : CX σ tp bs sz s) : Cl G mX7_refuseToken d [.ref 1] σ 0 0 (pV fun s2 => fr [1] σ s2 ∧ CX s2 tp bs sz (fai 2 s)) := by
  obtain ⟨d0, hdd⟩ : ∃ e, d = e + 1 := ⟨d - 1, by omega⟩
  refine cl_of (by decide) (by simp [Value.category]) (Nat.le_of_ble_eq_true rfl) ?_
  show Wp G mX7_refuseToken d 0 [.ref 1] [] σ 0 0 _
  have hX2 := hX
  obtain ⟨nf, nl, hSc, h2, h3, h4, h5, h6, h7, h8, h9, h10⟩ := hX
  refine wp_aload_n (atd dX7_refuseToken 0 rfl) rfl rfl ?_
  refine wp_aload_n (atd dX7_refuseToken 1 rfl) rfl rfl ?_
  refine wp_get fX7_42 (atd dX7_refuseToken 2 rfl) hSc rfl ?_
  refine wp_iconst (v := nI 1) (atd dX7_refuseToken 3 rfl) (by decide) ?_
  refine wp_icmpN_ne (tgt := 13) (atd dX7_refuseToken 4 rfl) (by decide) (by have := ctk_lt s.1; omega) (by omega) (fun c_6 => ?_) (fun c_6 => ?_)
  ·
    refine wp_iconst (v := nI 2) (atd dX7_refuseToken 7 rfl) (by decide) ?_
    refine wp_cVv hdd [_] (atd dX7_refuseToken 8 rfl) iX7_refuse lX7_58 rfl rfl (Nat.le_of_ble_eq_true rfl) hSc rfl (eX7_refuse (by omega) hSc) (fun s_14 h_14 => ?_)
    obtain ⟨f_14, hSc⟩ := h_14
    refine wp_vretv (atd dX7_refuseToken 9 rfl) rfl ?_
    exact ⟨f_14, CX_fai (by omega) (by omega) h0 hX2 f_14 (by rw [if_neg (fun z => c_6 ((ctk_1 h9.2.2.1).mpr z))]; exact hSc)⟩
  ·
    refine wp_iconst (v := nI 1) (atd dX7_refuseToken 5 rfl) (by decide) ?_
    refine wp_goto (tgt := 14) (atd dX7_refuseToken 6 rfl) (by decide) ?_
    refine wp_cVv hdd [_] (atd dX7_refuseToken 8 rfl) iX7_refuse lX7_58 rfl rfl (Nat.le_of_ble_eq_true rfl) hSc rfl (eX7_refuse (by omega) hSc) (fun s_14 h_14 => ?_)
    obtain ⟨f_14, hSc⟩ := h_14
    refine wp_vretv (atd dX7_refuseToken 9 rfl) rfl ?_
    exact ⟨f_14, CX_fai (by omega) (by omega) h0 hX2 f_14 (by rw [if_pos ((ctk_1 h9.2.2.1).mp c_6)]; exact hSc)⟩
theorem eX7_passSign (hd : 7 ≤ d) (hsz : sz ≤ 600) (ht : ∀ k, tp k < 256) (hb : ∀ k, k < sz → bs k = tp k) (h0 : s.2.1 = 0) (hX : CX σ tp bs sz s) : Cl G mX7_passSign d [.ref 1] σ 0 0 (pV fun s2 => fr [1] σ s2 ∧ CX s2 tp bs sz (stpN1 tp sz (nxt tp sz s))) := by
  obtain ⟨d0, hdd⟩ : ∃ e, d = e + 1 := ⟨d - 1, by omega⟩
  refine cl_of (by decide) (by simp [Value.category]) (Nat.le_of_ble_eq_true rfl) ?_
  show Wp G mX7_passSign d 0 [.ref 1] [] σ 0 0 _
  obtain ⟨nf, nl, hSc, h2, h3, h4, h5, h6, h7, h8, h9, h10⟩ := id hX
  refine wp_aload_n (atd dX7_passSign 0 rfl) rfl rfl ?_
  refine wp_cVv hdd [] (atd dX7_passSign 1 rfl) iX7_advance lX7_39 rfl rfl (Nat.le_of_ble_eq_true rfl) hSc rfl (eX7_advX (by omega) hsz ht hb hX) (fun s_1 h_1 => ?_)
  obtain ⟨f_1, hX⟩ := h_1
  obtain ⟨nf, nl, hSc, h2, h3, h4, h5, h6, h7, h8, h9, h10⟩ := id hX
  have hT3 := h9.2.2.1
  have h0 : (nxt tp sz s).2.1 = 0 := h0
  refine wp_aload_n (atd dX7_passSign 2 rfl) rfl rfl ?_
  refine wp_get fX7_42 (atd dX7_passSign 3 rfl) hSc rfl ?_
  refine wp_iconst (v := nI 2) (atd dX7_passSign 4 rfl) (by decide) ?_
  refine wp_icmpN_ne (tgt := 19) (atd dX7_passSign 5 rfl) (by decide) (by have := ctk_lt (nxt tp sz s).1; omega) (by omega) (fun c_9 => ?_) (fun c_9 => ?_)
  ·
    refine wp_aload_n (atd dX7_passSign 9 rfl) rfl rfl ?_
    refine wp_cVv hdd [] (atd dX7_passSign 10 rfl) iX7_refuseToken lX7_52 rfl rfl (Nat.le_of_ble_eq_true rfl) hSc rfl (eX7_refuseToken (by omega) h0 hX) (fun s_20 h_20 => ?_)
    obtain ⟨f_20, hX⟩ := h_20
    refine wp_vretv (atd dX7_passSign 11 rfl) rfl ?_
    exact ⟨f_1.tr f_20 (by simp), by unfold stpN1; rw [if_pos (show (nxt tp sz s).2.1 = 0 from h0), if_neg (fun z => c_9 ((ctk_2 hT3).mpr z))]; exact hX⟩
  ·
    refine wp_aload_n (atd dX7_passSign 6 rfl) rfl rfl ?_
    refine wp_cVv hdd [] (atd dX7_passSign 7 rfl) iX7_advance lX7_39 rfl rfl (Nat.le_of_ble_eq_true rfl) hSc rfl (eX7_advX (by omega) hsz ht hb hX) (fun s_13 h_13 => ?_)
    obtain ⟨f_13, hX⟩ := h_13
    refine wp_goto (tgt := 23) (atd dX7_passSign 8 rfl) (by decide) ?_
    refine wp_vretv (atd dX7_passSign 11 rfl) rfl ?_
    exact ⟨f_1.tr f_13 (by simp), by unfold stpN1; rw [if_pos (show (nxt tp sz s).2.1 = 0 from h0), if_pos ((ctk_2 hT3).mp c_9)]; exact hX⟩
theorem nm_all {nf nl : Nat → Nat} (hN : NMr tp sz s nf nl) (hT : TKw tp sz s.1) (h1 : s.1.2.2.1 = 1) : ∀ p, p < s.2.2.2.1 → (nl p ≤ 6 ∧ nf p + nl p ≤ sz) ∧ (s.2.2.2.2.1 p = s.1.2.2.2 ↔ isNm tp (nf p) (nl p) s.1.1 (s.1.2.1 - s.1.1)) := fun p hp => ⟨⟨(hN p hp).1, (hN p hp).2.1⟩, nm_iff hN hT h1 hp⟩
theorem mbn_y (h : ctk s.1 = 5) (hT : s.1.2.2.1 ≤ 3) : mbn s = s := if_pos ((ctk_5 hT).mp h)
theorem mbn_n (h : ctk s.1 ≠ 5) (hT : s.1.2.2.1 ≤ 3) : mbn s = fai 2 s := if_neg (fun z => h ((ctk_5 hT).mpr z))
theorem eX7_parseEnd (hd : 3 ≤ d) (hsz : sz ≤ 600) (ht : ∀ k, tp k < 256) (hb : ∀ k, k < sz → bs k = tp k) (h0 : s.2.1 = 0) (hX : CX σ tp bs sz s) : Cl G mX7_parseEnd d [.ref 1, .ref 7] σ 0 0 (pI fun r s2 => fr [1] σ s2 ∧ ((ctk s.1 ≠ 5 ∧ CX s2 tp bs sz (fai 2 s)) ∨ (ctk s.1 = 5 ∧ cld s = none ∧ CX s2 tp bs sz (fai 3 s)) ∨ (ctk s.1 = 5 ∧ ∃ q, cld s = some q ∧ r = nI q ∧ CX s2 tp bs sz s))) := by
  obtain ⟨d0, hdd⟩ : ∃ e, d = e + 1 := ⟨d - 1, by omega⟩
  refine cl_of (by decide) (by simp [Value.category]) (Nat.le_of_ble_eq_true rfl) ?_
  show Wp G mX7_parseEnd d 0 [.ref 1, .ref 7, .double 0] [] σ 0 0 _
  obtain ⟨nf, nl, hSc, h2, h3, h4, h5, h6, h7, h8, h9, h10⟩ := id hX
  have hT3 := h9.2.2.1
  refine wp_aload_n (atd dX7_parseEnd 0 rfl) rfl rfl ?_
  refine wp_get fX7_42 (atd dX7_parseEnd 1 rfl) hSc rfl ?_
  refine wp_iconst (v := nI 5) (atd dX7_parseEnd 2 rfl) (by decide) ?_
  refine wp_icmpN_eq (tgt := 14) (atd dX7_parseEnd 3 rfl) (by decide) (by have := ctk_lt s.1; omega) (by omega) (fun c_5 => ?_) (fun c_5 => ?_)
  ·
    refine wp_aload_n (atd dX7_parseEnd 8 rfl) rfl rfl ?_
    refine wp_aload_n (atd dX7_parseEnd 9 rfl) rfl rfl ?_
    refine wp_cVi hdd [_] (atd dX7_parseEnd 10 rfl) iX7_placeNamed lX7_62 rfl rfl (Nat.le_of_ble_eq_true rfl) hSc rfl (eX7_placeNamed (by omega) hsz ht hSc h2 hb h3 h4 h8.2 h9.2.1 h9.2.2.2.2.1 h6 (nm_all h5 h8.1 ((ctk_5 hT3).mp c_5).1)) (fun r_16 s_16 h_16 => ?_)
    obtain ⟨rfl, e_16⟩ := h_16
    obtain rfl := e_16.symm
    cases hc : cldG s.2.2.2.2.1 s.1.2.2.2 s.2.2.2.1 0 with
    | none =>
      show Wp G mX7_parseEnd d 19 _ (.int (-1) :: _) _ _ _ _
      refine wp_istore_n (atd dX7_parseEnd 11 rfl) (Nat.le_of_ble_eq_true rfl) ?_
      refine wp_iload_n (atd dX7_parseEnd 12 rfl) rfl ?_
      refine wp_iconst (v := -1) (atd dX7_parseEnd 13 rfl) (by decide) ?_
      refine wp_icmp_ne (tgt := 30) (atd dX7_parseEnd 14 rfl) (by decide) (fun c_22 => ?_) (fun c_22 => ?_)
      · exact absurd rfl c_22
      ·
        refine wp_aload_n (atd dX7_parseEnd 15 rfl) rfl rfl ?_
        refine wp_iconst (v := nI 3) (atd dX7_parseEnd 16 rfl) (by decide) ?_
        refine wp_cVv hdd [_] (atd dX7_parseEnd 17 rfl) iX7_refuse lX7_58 rfl rfl (Nat.le_of_ble_eq_true rfl) hSc rfl (eX7_refX (k := 3) (by omega) (by omega) (by omega) h0 (by have := ((ctk_5 hT3).mp c_5).1; omega) hX) (fun s_27 h_27 => ?_)
        obtain ⟨f_27, hX⟩ := h_27
        refine wp_iload_n (atd dX7_parseEnd 18 rfl) rfl ?_
        refine wp_ireti (atd dX7_parseEnd 19 rfl) rfl ?_
        exact ⟨f_27, Or.inr (Or.inl ⟨c_5, hc, hX⟩)⟩
    | some q =>
      have hq9 := cld_lt (s := s) hc
      have hr9 := h9.2.2.2.2.1
      show Wp G mX7_parseEnd d 19 _ (.int (nI q) :: _) _ _ _ _
      refine wp_istore_n (atd dX7_parseEnd 11 rfl) (Nat.le_of_ble_eq_true rfl) ?_
      refine wp_iload_n (atd dX7_parseEnd 12 rfl) rfl ?_
      refine wp_iconst (v := -1) (atd dX7_parseEnd 13 rfl) (by decide) ?_
      refine wp_icmp_ne (tgt := 30) (atd dX7_parseEnd 14 rfl) (by decide) (fun c_22 => ?_) (fun c_22 => ?_)
      ·
        refine wp_iload_n (atd dX7_parseEnd 18 rfl) rfl ?_
        refine wp_ireti (atd dX7_parseEnd 19 rfl) rfl ?_
        exact ⟨fr.rf, Or.inr (Or.inr ⟨c_5, q, hc, rfl, hX⟩)⟩
      · exact absurd (fun e => nI_m1 (by omega) e) c_22
  ·
    refine wp_aload_n (atd dX7_parseEnd 4 rfl) rfl rfl ?_
    refine wp_cVv hdd [] (atd dX7_parseEnd 5 rfl) iX7_refuseToken lX7_52 rfl rfl (Nat.le_of_ble_eq_true rfl) hSc rfl (eX7_refuseToken (by omega) h0 hX) (fun s_9 h_9 => ?_)
    obtain ⟨f_9, hX⟩ := h_9
    refine wp_iconst (v := -1) (atd dX7_parseEnd 6 rfl) (by decide) ?_
    refine wp_ireti (atd dX7_parseEnd 7 rfl) rfl ?_
    exact ⟨f_9, Or.inl ⟨c_5, hX⟩⟩
end Rd
