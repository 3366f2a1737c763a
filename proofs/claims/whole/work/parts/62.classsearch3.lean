theorem AX.I {σ : Hp} {k L : Nat} (h : AX σ k L) : ∃ g, AI σ k L g := by
  obtain ⟨f, hf⟩ := h
  exact ⟨fun i => (f i).toBitVec.toNat, f, hf, fun i _ => nI_self (f i)⟩
theorem AH.X {σ : Hp} {k L : Nat} {g : Nat → Option (Option Nat)} (h : AH σ k L g) : AX σ k L := by obtain ⟨f, hf, -⟩ := h; exact ⟨f, hf⟩
theorem QS.X {σ : Hp} {ka kq : Nat} {Q : BQ} (h : QS σ ka kq Q) : AX σ ka 23040 ∧ AX σ kq 23040 := by obtain ⟨h1, q, h2, -⟩ := h; exact ⟨h1.X, h2.X⟩
def Q0 : BQ := ([], fun _ => none)
theorem Q0_ok : QOk Q0 := ⟨fun s => ⟨fun z => (by cases z), fun z => absurd rfl z.2⟩, List.nodup_nil, fun s s2 z => (by cases z)⟩
theorem lX8_prepare {G : Gx} {d : Nat} (hd : 1 ≤ d) {σ0 : Hp} {n ka kq kw : Nat} {nb : Nat → Nat} (hn : n ≤ 9) (hw : ∀ p, nb p < 512) (hka : 104 ≤ ka) (hkq : 104 ≤ kq) (hkw : 104 ≤ kw) (hka2 : ka ≠ kq ∧ ka ≠ kw ∧ kq ≠ kw) : ∀ (y : Nat) (i : Nat) (σ : Hp) (wd : Nat → Nat), i + y = 2 ^ n → OB σ 39 8 (seF 39 5 13 (.ref ka) (.ref kq) (.ref kw) 0) → OB σ 5 3 [.int (nI n), .ref (5 + 1)] → AI σ (5 + 1) 9 nb → QS σ ka kq Q0 → AI σ kw 512 wd → fr [39, ka, kw] σ0 σ → (∀ x, x < i → wd x = nall nb 9 x) → Wp G mX8_prepare d 63 [.ref 39, .int (nI i)] [] σ 0 0 (pV fun s => fr [39, ka, kw] σ0 s ∧ OB s 39 8 (seF 39 5 13 (.ref ka) (.ref kq) (.ref kw) 0) ∧ QS s ka kq Q0 ∧ ∃ wd, AI s kw 512 wd ∧ ∀ x, x < 2 ^ n → wd x = nall nb 9 x) := by
  obtain ⟨d0, hdd⟩ : ∃ e, d = e + 1 := ⟨d - 1, by omega⟩
  intro y
  induction y with
  | zero =>
    have h9 := pow_le9 hn
    intro i σ wd hi hO hN hNA hQS hWd hF hg
    refine wp_iload_n (atd dX8_prepare 30 rfl) rfl ?_
    refine wp_aload_n (atd dX8_prepare 31 rfl) rfl rfl ?_
    refine wp_get fX8_22 (atd dX8_prepare 32 rfl) hO rfl ?_
    refine wp_cVi hdd [] (atd dX8_prepare 33 rfl) iX3_all lX8_57 rfl rfl (Nat.le_of_ble_eq_true rfl) hN rfl (eX3_all (by omega) hN hn) (fun r_68 s_68 h_68 => ?_)
    obtain ⟨rfl, e_68⟩ := h_68
    obtain rfl := e_68.symm
    refine wp_icmpN_gt (tgt := 101) (atd dX8_prepare 34 rfl) (by decide) (by omega) (by omega) (fun c_71 => ?_) (fun c_71 => ?_)
    ·
      refine wp_vretv (atd dX8_prepare 48 rfl) rfl ?_
      exact ⟨hF, hO, hQS, wd, hWd, fun x hx => hg x (by omega)⟩
    · exfalso; have := pow_pos9 n; omega
  | succ y ih =>
    have h9 := pow_le9 hn
    intro i σ wd hi hO hN hNA hQS hWd hF hg
    refine wp_iload_n (atd dX8_prepare 30 rfl) rfl ?_
    refine wp_aload_n (atd dX8_prepare 31 rfl) rfl rfl ?_
    refine wp_get fX8_22 (atd dX8_prepare 32 rfl) hO rfl ?_
    refine wp_cVi hdd [] (atd dX8_prepare 33 rfl) iX3_all lX8_57 rfl rfl (Nat.le_of_ble_eq_true rfl) hN rfl (eX3_all (by omega) hN hn) (fun r_68 s_68 h_68 => ?_)
    obtain ⟨rfl, e_68⟩ := h_68
    obtain rfl := e_68.symm
    refine wp_icmpN_gt (tgt := 101) (atd dX8_prepare 34 rfl) (by decide) (by omega) (by omega) (fun c_71 => ?_) (fun c_71 => ?_)
    · exfalso; omega
    ·
      refine wp_iload_n (atd dX8_prepare 35 rfl) rfl ?_
      refine wp_sipush (v := nI 512) (atd dX8_prepare 36 rfl) (by decide) ?_
      refine wp_icmpN_ge (tgt := 101) (atd dX8_prepare 37 rfl) (by decide) (by omega) (by omega) (fun c_78 => ?_) (fun c_78 => ?_)
      · exfalso; omega
      ·
        refine wp_aload_n (atd dX8_prepare 38 rfl) rfl rfl ?_
        refine wp_get fX8_87 (atd dX8_prepare 39 rfl) hO rfl ?_
        refine wp_iload_n (atd dX8_prepare 40 rfl) rfl ?_
        refine wp_aload_n (atd dX8_prepare 41 rfl) rfl rfl ?_
        refine wp_get fX8_22 (atd dX8_prepare 42 rfl) hO rfl ?_
        refine wp_iload_n (atd dX8_prepare 43 rfl) rfl ?_
        refine wp_cVi hdd [_] (atd dX8_prepare 44 rfl) iX3_widen lX8_96 rfl rfl (Nat.le_of_ble_eq_true rfl) hN rfl (eX3_widen (by omega) hN hNA hn hw (by omega)) (fun r_91 s_91 h_91 => ?_)
        obtain ⟨rfl, e_91⟩ := h_91
        obtain rfl := e_91.symm
        refine wp_iastA (atd dX8_prepare 45 rfl) hWd (by omega) (Nat.le_of_ble_eq_true rfl) (fun σ f_94 hWd => ?_)
        have hO := hO.fr f_94 (by first | decide | (simp only [List.mem_cons, List.not_mem_nil, or_false]; omega))
        have hN := hN.fr f_94 (by first | decide | (simp only [List.mem_cons, List.not_mem_nil, or_false]; omega))
        have hNA := hNA.fr f_94 (by first | decide | (simp only [List.mem_cons, List.not_mem_nil, or_false]; omega))
        have hQS := hQS.fr f_94 ⟨by simp only [List.mem_cons, List.not_mem_nil, or_false]; omega, by simp only [List.mem_cons, List.not_mem_nil, or_false]; omega⟩
        have hF := hF.tr f_94 (by simp)
        refine wp_iincN (c := 1) (atd dX8_prepare 46 rfl) rfl ?_
        refine wp_goto (tgt := 63) (atd dX8_prepare 47 rfl) (by decide) ?_
        refine ih (i + 1) σ _ (by omega) hO hN hNA hQS hWd hF (fun x hx => ?_)
        by_cases e : x = i
        · subst e; simp [va_up]
        · simp only [va_up, if_neg e]; exact hg x (by omega)
theorem bX8_prepare {G : Gx} {d : Nat} {σ : Hp} (hd : 1 ≤ d) {n ka kq kw qd : Nat} {nb : Nat → Nat} (hn : n ≤ 9) (hw : ∀ p, nb p < 512) (hka : 104 ≤ ka) (hkq : 104 ≤ kq) (hkw : 104 ≤ kw) (hka2 : ka ≠ kq ∧ ka ≠ kw ∧ kq ≠ kw) {y1 : Value} (hO : OB σ 39 8 (seF 39 5 13 (.ref ka) (.ref kq) (.ref kw) qd)) (hN : OB σ 5 3 [.int (nI n), .ref (5 + 1)]) (hNA : AI σ (5 + 1) 9 nb) (hXa : AX σ ka 23040) (hXq : AX σ kq 23040) (hXw : AX σ kw 512) : Wp G mX8_prepare d 48 [.ref 39, y1] [] σ 0 0 (pV fun s => fr [39, ka, kw] σ s ∧ OB s 39 8 (seF 39 5 13 (.ref ka) (.ref kq) (.ref kw) 0) ∧ QS s ka kq Q0 ∧ ∃ wd, AI s kw 512 wd ∧ ∀ x, x < 2 ^ n → wd x = nall nb 9 x) := by
  obtain ⟨d0, hdd⟩ : ∃ e, d = e + 1 := ⟨d - 1, by omega⟩
  have hF : fr [39, ka, kw] σ σ := fr.rf
  refine wp_aload_n (atd dX8_prepare 21 rfl) rfl rfl ?_
  refine wp_get fX8_84 (atd dX8_prepare 22 rfl) hO rfl ?_
  refine wp_iconst (v := -1) (atd dX8_prepare 23 rfl) (by decide) ?_
  refine wp_cSv hdd [_, _] (atd dX8_prepare 24 rfl) iJ7_fill_53178 lX8_90 rfl rfl (Nat.le_of_ble_eq_true rfl) (eJ7_fill (by decide) hXa) (fun s_53 h_53 => ?_)
  obtain ⟨f_53, hAk⟩ := h_53
  have hAh := hAk.H
  have hO := hO.fr f_53 (by first | decide | (simp only [List.mem_cons, List.not_mem_nil, or_false]; omega))
  have hN := hN.fr f_53 (by first | decide | (simp only [List.mem_cons, List.not_mem_nil, or_false]; omega))
  have hNA := hNA.fr f_53 (by first | decide | (simp only [List.mem_cons, List.not_mem_nil, or_false]; omega))
  have hXq := hXq.fr f_53 (by first | decide | (simp only [List.mem_cons, List.not_mem_nil, or_false]; omega))
  have hXw := hXw.fr f_53 (by first | decide | (simp only [List.mem_cons, List.not_mem_nil, or_false]; omega))
  have hF := hF.tr f_53 (by simp)
  refine wp_aload_n (atd dX8_prepare 25 rfl) rfl rfl ?_
  refine wp_iconst (v := nI 0) (atd dX8_prepare 26 rfl) (by decide) ?_
  refine wp_putX fX8_74 (atd dX8_prepare 27 rfl) hO rfl (Nat.le_of_ble_eq_true rfl) (fun σ f_58 hO => ?_)
  have hAh := hAh.fr f_58 (by simp only [List.mem_cons, List.not_mem_nil, or_false]; omega)
  have hN := hN.fr f_58 (by first | decide | (simp only [List.mem_cons, List.not_mem_nil, or_false]; omega))
  have hNA := hNA.fr f_58 (by first | decide | (simp only [List.mem_cons, List.not_mem_nil, or_false]; omega))
  have hXq := hXq.fr f_58 (by first | decide | (simp only [List.mem_cons, List.not_mem_nil, or_false]; omega))
  have hXw := hXw.fr f_58 (by first | decide | (simp only [List.mem_cons, List.not_mem_nil, or_false]; omega))
  have hF := hF.tr f_58 (by simp)
  refine wp_iconst (v := nI 0) (atd dX8_prepare 28 rfl) (by decide) ?_
  refine wp_istore_n (atd dX8_prepare 29 rfl) (Nat.le_of_ble_eq_true rfl) ?_
  obtain ⟨qf, hQu⟩ := hXq.I
  obtain ⟨wd, hWd⟩ := hXw.I
  exact lX8_prepare (by omega) hn hw hka hkq hkw hka2 (2 ^ n) 0 _ wd (by omega) hO hN hNA ⟨hAh, qf, hQu, fun i hi => absurd hi (Nat.not_lt_zero i)⟩ hWd hF (fun x hx => absurd hx (Nat.not_lt_zero x))
theorem eX8_prepare1 {G : Gx} {d : Nat} {σ : Hp} (hd : 1 ≤ d) {n ka kq kw qd : Nat} {nb : Nat → Nat} (hn : n ≤ 9) (hw : ∀ p, nb p < 512) (hka : 104 ≤ ka) (hkq : 104 ≤ kq) (hkw : 104 ≤ kw) (hka2 : ka ≠ kq ∧ ka ≠ kw ∧ kq ≠ kw) (hO : OB σ 39 8 (seF 39 5 13 (.ref ka) (.ref kq) (.ref kw) qd)) (hN : OB σ 5 3 [.int (nI n), .ref (5 + 1)]) (hNA : AI σ (5 + 1) 9 nb) (hXa : AX σ ka 23040) (hXq : AX σ kq 23040) (hXw : AX σ kw 512) : Cl G mX8_prepare d [.ref 39] σ 0 0 (pV fun s => fr [39, ka, kw] σ s ∧ OB s 39 8 (seF 39 5 13 (.ref ka) (.ref kq) (.ref kw) 0) ∧ QS s ka kq Q0 ∧ ∃ wd, AI s kw 512 wd ∧ ∀ x, x < 2 ^ n → wd x = nall nb 9 x) := by
  refine cl_of (by decide) (by simp [Value.category]) (Nat.le_of_ble_eq_true rfl) ?_
  show Wp G mX8_prepare d 0 [.ref 39, .double 0] [] σ 0 0 _
  refine wp_aload_n (atd dX8_prepare 0 rfl) rfl rfl ?_
  refine wp_get fX8_84 (atd dX8_prepare 1 rfl) hO rfl ?_
  refine wp_ifnull_r (atd dX8_prepare 2 rfl) ?_
  refine wp_aload_n (atd dX8_prepare 3 rfl) rfl rfl ?_
  refine wp_get fX8_77 (atd dX8_prepare 4 rfl) hO rfl ?_
  refine wp_ifnull_r (atd dX8_prepare 5 rfl) ?_
  refine wp_aload_n (atd dX8_prepare 6 rfl) rfl rfl ?_
  refine wp_get fX8_87 (atd dX8_prepare 7 rfl) hO rfl ?_
  refine wp_ifnonnull_r (tgt := 48) (atd dX8_prepare 8 rfl) (by decide) ?_
  exact bX8_prepare hd hn hw hka hkq hkw hka2 hO hN hNA hXa hXq hXw
theorem AX.new {σ : Hp} {L : Nat} : AX (hnew σ (.inl (0, L, .inl (fun _ => 0)))) σ.1 L := ⟨_, hnew_at⟩
theorem eX8_prepare0 {G : Gx} {d : Nat} {σ : Hp} (hd : 1 ≤ d) {n qd : Nat} {nb : Nat → Nat} (hn : n ≤ 9) (hw : ∀ p, nb p < 512) (hl : 104 ≤ σ.1) (hO : OB σ 39 8 (seF 39 5 13 .null .null .null qd)) (hN : OB σ 5 3 [.int (nI n), .ref (5 + 1)]) (hNA : AI σ (5 + 1) 9 nb) : Cl G mX8_prepare d [.ref 39] σ 3 46592 (pV fun s => fA [39] σ s ∧ s.1 = σ.1 + 3 ∧ OB s 39 8 (seF 39 5 13 (.ref σ.1) (.ref (σ.1 + 1)) (.ref (σ.1 + 2)) 0) ∧ QS s σ.1 (σ.1 + 1) Q0 ∧ ∃ wd, AI s (σ.1 + 2) 512 wd ∧ ∀ x, x < 2 ^ n → wd x = nall nb 9 x) := by
  refine cl_of (by decide) (by simp [Value.category]) (Nat.le_of_ble_eq_true rfl) ?_
  show Wp G mX8_prepare d 0 [.ref 39, .double 0] [] σ 3 46592 _
  refine wp_aload_n (atd dX8_prepare 0 rfl) rfl rfl ?_
  refine wp_get fX8_84 (atd dX8_prepare 1 rfl) hO rfl ?_
  refine wp_ifnull_n (tgt := 21) (atd dX8_prepare 2 rfl) (by decide) ?_
  refine wp_aload_n (atd dX8_prepare 9 rfl) rfl rfl ?_
  refine wp_sipush (v := nI 23040) (atd dX8_prepare 10 rfl) (by decide) ?_
  refine wp_newi (mc := 2) (ms := 23552) (N := 23040) (atd dX8_prepare 11 rfl) (by decide) (by decide) (by decide) ?_
  have hA : fA [39] σ (hnew σ (.inl (0, 23040, .inl (fun _ => 0)))) := fA.new
  have hXa := AX.new (σ := σ) (L := 23040)
  have hs : (hnew σ (.inl (0, 23040, .inl (fun _ => 0)))).1 = σ.1 + 1 := rfl
  have hO := hO.fA (fA.new (S := []) (e := .inl (0, 23040, .inl (fun _ => 0)))) (by omega) (by simp)
  generalize hnew σ (.inl (0, 23040, .inl (fun _ => 0))) = s1 at hA hXa hs hO ⊢
  refine wp_putX fX8_84 (atd dX8_prepare 12 rfl) hO rfl (Nat.le_of_ble_eq_true rfl) (fun s2 f2 hO => ?_)
  have hA := hA.tr f2.A (by simp)
  have hXa := hXa.fr f2 (by simp; omega)
  have hs2 : s2.1 = σ.1 + 1 := f2.1.trans hs
  refine wp_aload_n (atd dX8_prepare 13 rfl) rfl rfl ?_
  refine wp_sipush (v := nI 23040) (atd dX8_prepare 14 rfl) (by decide) ?_
  refine wp_newi (mc := 1) (ms := 512) (N := 23040) (atd dX8_prepare 15 rfl) (by decide) (by decide) (by decide) ?_
  have hA := hA.tr (fA.new (σ := s2) (S := []) (e := .inl (0, 23040, .inl (fun _ => 0)))) (by simp)
  have hXa := hXa.fA (fA.new (σ := s2) (S := []) (e := .inl (0, 23040, .inl (fun _ => 0)))) (by omega) (by simp)
  have hXq := AX.new (σ := s2) (L := 23040)
  have hs3 : (hnew s2 (.inl (0, 23040, .inl (fun _ => 0)))).1 = σ.1 + 2 := by show s2.1 + 1 = _; omega
  have hO := hO.fA (fA.new (σ := s2) (S := []) (e := .inl (0, 23040, .inl (fun _ => 0)))) (by omega) (by simp)
  rw [hs2] at hXq ⊢
  generalize hnew s2 (.inl (0, 23040, .inl (fun _ => 0))) = s3 at hA hXa hXq hs3 hO ⊢
  refine wp_putX fX8_77 (atd dX8_prepare 16 rfl) hO rfl (Nat.le_of_ble_eq_true rfl) (fun s4 f4 hO => ?_)
  have hA := hA.tr f4.A (by simp)
  have hXa := hXa.fr f4 (by simp; omega)
  have hXq := hXq.fr f4 (by simp; omega)
  have hs4 : s4.1 = σ.1 + 2 := f4.1.trans hs3
  refine wp_aload_n (atd dX8_prepare 17 rfl) rfl rfl ?_
  refine wp_sipush (v := nI 512) (atd dX8_prepare 18 rfl) (by decide) ?_
  refine wp_newi (mc := 0) (ms := 0) (N := 512) (atd dX8_prepare 19 rfl) (by decide) (by decide) (by decide) ?_
  have hA := hA.tr (fA.new (σ := s4) (S := []) (e := .inl (0, 512, .inl (fun _ => 0)))) (by simp)
  have hXa := hXa.fA (fA.new (σ := s4) (S := []) (e := .inl (0, 512, .inl (fun _ => 0)))) (by omega) (by simp)
  have hXq := hXq.fA (fA.new (σ := s4) (S := []) (e := .inl (0, 512, .inl (fun _ => 0)))) (by omega) (by simp)
  have hXw := AX.new (σ := s4) (L := 512)
  have hs5 : (hnew s4 (.inl (0, 512, .inl (fun _ => 0)))).1 = σ.1 + 3 := by show s4.1 + 1 = _; omega
  have hO := hO.fA (fA.new (σ := s4) (S := []) (e := .inl (0, 512, .inl (fun _ => 0)))) (by omega) (by simp)
  rw [hs4] at hXw ⊢
  generalize hnew s4 (.inl (0, 512, .inl (fun _ => 0))) = s5 at hA hXa hXq hXw hs5 hO ⊢
  refine wp_putX fX8_87 (atd dX8_prepare 20 rfl) hO rfl (Nat.le_of_ble_eq_true rfl) (fun s6 f6 hO => ?_)
  have hA := hA.tr f6.A (by simp)
  have hXa := hXa.fr f6 (by simp; omega)
  have hXq := hXq.fr f6 (by simp; omega)
  have hXw := hXw.fr f6 (by simp; omega)
  have hs6 : s6.1 = σ.1 + 3 := f6.1.trans hs5
  have hN := hN.fA hA (by omega) (by simp)
  have hNA := hNA.fA hA (by omega) (by simp)
  refine wp_post (bX8_prepare (ka := σ.1) (kq := σ.1 + 1) (kw := σ.1 + 2) hd hn hw (by omega) (by omega) (by omega) (by omega) hO hN hNA hXa hXq hXw) ?_
  rintro v s ⟨rfl, hF, hO, hQ, hW⟩
  exact ⟨rfl, hA.trN hF.A (fun j hj => by simp only [List.mem_cons, List.not_mem_nil, or_false] at hj ⊢; omega), by rw [hF.1, hs6], hO, hQ, hW⟩
noncomputable def iniG (n f x : Nat) (Q : BQ) : BQ := if dif (sdC x) (2 ^ n - 1) = 0 then enqF Q ((x - f) * 512 + dif (2 ^ n - 1) (sdC x)) none else Q
noncomputable def iniQ (n f f2 : Nat) : BQ := fl (iniG n f) (f2 - f) f Q0
abbrev SJ : Type := Nat → Nat → Nat → BQ → Prop
def sjS (nb : Nat → Nat) (f f2 : Nat) (J : SJ) : Prop := ∀ r nx e Q, 1 ≤ r → r ≤ 60 → J r nx e Q → nx < e → (stlG nb f (Q.1.getD nx 0) (f2 - f) f Q).1 = none → J r (nx + 1) e (stlG nb f (Q.1.getD nx 0) (f2 - f) f Q).2
def sjR (J : SJ) : Prop := ∀ r e Q, 1 ≤ r → r ≤ 60 → J r e e Q → J (r + 1) e Q.1.length Q
def sjG (n f f2 : Nat) (J : SJ) : Prop := ∀ r nx e Q, 1 ≤ r → r ≤ 60 → J r nx e Q → nx ≤ e ∧ e ≤ Q.1.length ∧ (nx < e → f + Q.1.getD nx 0 / 512 < f2 ∧ ON n (f + Q.1.getD nx 0 / 512) ∧ Q.1.getD nx 0 % 512 < 2 ^ n ∧ ∃ c, chn Q.2 (r - 1) (Q.1.getD nx 0) c)
def sjF (nb : Nat → Nat) (f f2 : Nat) (J : SJ) (Fd : Nat → Nat → (Nat → Nat) → Prop) : Prop := ∀ r nx e Q y c, 1 ≤ r → r ≤ 60 → J r nx e Q → nx < e → (stlG nb f (Q.1.getD nx 0) (f2 - f) f Q).1 = some y → chn Q.2 (r - 1) (Q.1.getD nx 0) c → Fd r y c
def sjE (J : SJ) (NoF : Prop) : Prop := ∀ nx e Q, J 61 nx e Q → NoF
theorem lX8_explore0 {G : Gx} {d : Nat} {QQ : Option Value → Hp → Prop} (hd : 2 ≤ d) {σ0 : Hp} {ka kq kw n h : Nat} {nb wd : Nat → Nat} (hNt : isNetZ n nb) (hw : ∀ p, nb p < 512) (hh1 : 1 ≤ h) (hh2 : h ≤ 2) (hwd : ∀ s, s < 2 ^ n → wd s = nall nb 9 s) (hka : 104 ≤ ka) (hkq : 104 ≤ kq) (hkw : 104 ≤ kw) (hka2 : ka ≠ kq ∧ ka ≠ kw ∧ kq ≠ kw) {rn : Nat → Option Nat} {pa : Nat → Nat} {t : Nat} {l : List Nat} {y3 y4 : Value} {v : BQ} (hk : ∀ (σ : Hp), OB σ 39 8 (seF 39 5 13 (.ref ka) (.ref kq) (.ref kw) v.1.length) → OB σ 5 3 [.int (nI n), .ref (5 + 1)] → AI σ (5 + 1) 9 nb → RT σ 13 → LR σ 13 nb → FS σ 13 t l → QS σ ka kq v → AI σ kw 512 wd → AO σ (39 + 2) 2 rn → AI σ (39 + 3) 122 pa → fr [39, ka, kq, 39 + 2, 39 + 3, 13, 13 + 6, 13 + 7] σ0 σ → QOk v → Wp G mX8_explore d 71 [.ref 39, .int (nI h), .int (nI (frN (h + 1))), y3, y4] [] σ 0 0 QQ) : ∀ (y : Nat) (x : Nat) (σ : Hp) (Q : BQ), x + y = frN (h + 1) → frN h ≤ x → OB σ 39 8 (seF 39 5 13 (.ref ka) (.ref kq) (.ref kw) Q.1.length) → OB σ 5 3 [.int (nI n), .ref (5 + 1)] → AI σ (5 + 1) 9 nb → RT σ 13 → LR σ 13 nb → FS σ 13 t l → QS σ ka kq Q → AI σ kw 512 wd → AO σ (39 + 2) 2 rn → AI σ (39 + 3) 122 pa → fr [39, ka, kq, 39 + 2, 39 + 3, 13, 13 + 6, 13 + 7] σ0 σ → QOk Q → fl (iniG n (frN h)) y x Q = v → Wp G mX8_explore d 10 [.ref 39, .int (nI h), .int (nI x), y3, y4] [] σ 0 0 QQ := by
  obtain ⟨d0, hdd⟩ : ∃ e, d = e + 1 := ⟨d - 1, by omega⟩
  intro y
  induction y with
  | zero =>
    have hn := hNt.1.1
    have hfl := frN_le h hh1 (by omega)
    have h45 : frN (h + 1) ≤ frN h + 45 := by rcases (show h = 1 ∨ h = 2 by omega) with rfl | rfl <;> decide
    have h9 := pow_le9 hn
    intro x σ Q hi hx hO hN hNA hT hLR hFS hQS hWd hRn hPa hF hQ hv
    refine wp_iload_n (atd dX8_explore 6 rfl) rfl ?_
    refine wp_frow fX8_61 (atd dX8_explore 7 rfl) ?_
    refine wp_iload_n (atd dX8_explore 8 rfl) rfl ?_
    refine wp_iconst (v := nI 1) (atd dX8_explore 9 rfl) (by decide) ?_
    refine wp_iaddN (atd dX8_explore 10 rfl) ?_
    refine wp_faldN (atd dX8_explore 11 rfl) (by omega) ?_
    rw [frow_N]
    refine wp_icmpN_ge (tgt := 71) (atd dX8_explore 12 rfl) (by decide) (by omega) (by omega) (fun c_18 => ?_) (fun c_18 => ?_)
    ·
      obtain rfl : x = frN (h + 1) := by omega
      subst hv
      exact hk σ hO hN hNA hT hLR hFS hQS hWd hRn hPa hF hQ
    · exfalso; omega
  | succ y ih =>
    have hn := hNt.1.1
    have hfl := frN_le h hh1 (by omega)
    have h45 : frN (h + 1) ≤ frN h + 45 := by rcases (show h = 1 ∨ h = 2 by omega) with rfl | rfl <;> decide
    have h9 := pow_le9 hn
    intro x σ Q hi hx hO hN hNA hT hLR hFS hQS hWd hRn hPa hF hQ hv
    refine wp_iload_n (atd dX8_explore 6 rfl) rfl ?_
    refine wp_frow fX8_61 (atd dX8_explore 7 rfl) ?_
    refine wp_iload_n (atd dX8_explore 8 rfl) rfl ?_
    refine wp_iconst (v := nI 1) (atd dX8_explore 9 rfl) (by decide) ?_
    refine wp_iaddN (atd dX8_explore 10 rfl) ?_
    refine wp_faldN (atd dX8_explore 11 rfl) (by omega) ?_
    rw [frow_N]
    refine wp_icmpN_ge (tgt := 71) (atd dX8_explore 12 rfl) (by decide) (by omega) (by omega) (fun c_18 => ?_) (fun c_18 => ?_)
    · exfalso; omega
    ·
      refine wp_aload_n (atd dX8_explore 13 rfl) rfl rfl ?_
      refine wp_iload_n (atd dX8_explore 14 rfl) rfl ?_
      refine wp_cVi hdd [_] (atd dX8_explore 15 rfl) iX8_isOnNet lX8_67 rfl rfl (Nat.le_of_ble_eq_true rfl) hO rfl (eX8_isOnNet (by omega) hN hNA hn hw hO hFS hT (by omega)) (fun r_23 s_23 h_23 => ?_)
      obtain ⟨rfl, e_23⟩ := h_23
      obtain rfl := e_23.symm
      refine wp_ifB_eq (tgt := 65) (atd dX8_explore 16 rfl) (by decide) (fun c_26 => ?_) (fun c_26 => ?_)
      ·
        refine wp_iincN (c := 1) (atd dX8_explore 38 rfl) rfl ?_
        refine wp_goto (tgt := 10) (atd dX8_explore 39 rfl) (by decide) ?_
        exact ih (x + 1) σ Q (by omega) (by omega) hO hN hNA hT hLR hFS hQS hWd hRn hPa hF hQ (by rw [← hv]; show _ = fl _ _ _ (iniG n (frN h) x Q); rw [iniG, if_neg c_26])
      ·
        refine wp_aload_n (atd dX8_explore 17 rfl) rfl rfl ?_
        refine wp_iload_n (atd dX8_explore 18 rfl) rfl ?_
        refine wp_frow fX8_61 (atd dX8_explore 19 rfl) ?_
        refine wp_iload_n (atd dX8_explore 20 rfl) rfl ?_
        refine wp_faldN (atd dX8_explore 21 rfl) (by omega) ?_
        rw [frow_N]
        refine wp_isubN (atd dX8_explore 22 rfl) (by omega) ?_
        refine wp_sipush (v := nI 512) (atd dX8_explore 23 rfl) (by decide) ?_
        refine wp_imulN (atd dX8_explore 24 rfl) ?_
        refine wp_aload_n (atd dX8_explore 25 rfl) rfl rfl ?_
        refine wp_get fX8_22 (atd dX8_explore 26 rfl) hO rfl ?_
        refine wp_cVi hdd [] (atd dX8_explore 27 rfl) iX3_all lX8_57 rfl rfl (Nat.le_of_ble_eq_true rfl) hN rfl (eX3_all (by omega) hN hn) (fun r_45 s_45 h_45 => ?_)
        obtain ⟨rfl, e_45⟩ := h_45
        obtain rfl := e_45.symm
        refine wp_aload_n (atd dX8_explore 28 rfl) rfl rfl ?_
        refine wp_get fX8_26 (atd dX8_explore 29 rfl) hO rfl ?_
        refine wp_iload_n (atd dX8_explore 30 rfl) rfl ?_
        refine wp_cVi hdd [_] (atd dX8_explore 31 rfl) iX5_standBits lX8_52 rfl rfl (Nat.le_of_ble_eq_true rfl) hFS.ob rfl (eX5_standBits (by omega) hFS.ob hT (by omega)) (fun r_53 s_53 h_53 => ?_)
        obtain ⟨rfl, e_53⟩ := h_53
        obtain rfl := e_53.symm
        refine wp_iconst (v := -1) (atd dX8_explore 32 rfl) (by decide) ?_
        refine wp_ixor (atd dX8_explore 33 rfl) ?_
        refine wp_iandC (atd dX8_explore 34 rfl) ?_
        refine wp_iaddN (atd dX8_explore 35 rfl) ?_
        have hst : (x - frN h) * 512 + dif (2 ^ n - 1) (sdC x) < 23040 := dif_or_lt (by omega) (dif_lt9 (by omega))
        refine wp_bipush (v := -2) (atd dX8_explore 36 rfl) (by decide) ?_
        refine wp_cVv hdd [_, _] (atd dX8_explore 37 rfl) iX8_enqueue lX8_70 rfl rfl (Nat.le_of_ble_eq_true rfl) hO rfl (eX8_enqueue (v := none) (by omega) hO hQS hQ hst (by omega)) (fun s_62 h_62 => ?_)
        obtain ⟨f_62, hO, hQS⟩ := h_62
        have hN := hN.fr f_62 (by first | decide | (simp only [List.mem_cons, List.not_mem_nil, or_false]; omega))
        have hNA := hNA.fr f_62 (by first | decide | (simp only [List.mem_cons, List.not_mem_nil, or_false]; omega))
        have hT := hT.fr f_62 ⟨by simp only [List.mem_cons, List.not_mem_nil, or_false]; omega, by simp only [List.mem_cons, List.not_mem_nil, or_false]; omega, by simp only [List.mem_cons, List.not_mem_nil, or_false]; omega⟩
        have hLR := hLR.fr f_62 ⟨by simp only [List.mem_cons, List.not_mem_nil, or_false]; omega, by simp only [List.mem_cons, List.not_mem_nil, or_false]; omega⟩
        have hFS := hFS.fr f_62 ⟨by simp only [List.mem_cons, List.not_mem_nil, or_false]; omega, by simp only [List.mem_cons, List.not_mem_nil, or_false]; omega, by simp only [List.mem_cons, List.not_mem_nil, or_false]; omega⟩
        have hWd := hWd.fr f_62 (by first | decide | (simp only [List.mem_cons, List.not_mem_nil, or_false]; omega))
        have hRn := hRn.fr f_62 (by first | decide | (simp only [List.mem_cons, List.not_mem_nil, or_false]; omega))
        have hPa := hPa.fr f_62 (by first | decide | (simp only [List.mem_cons, List.not_mem_nil, or_false]; omega))
        have hF := hF.tr f_62 (by simp)
        refine wp_iincN (c := 1) (atd dX8_explore 38 rfl) rfl ?_
        refine wp_goto (tgt := 10) (atd dX8_explore 39 rfl) (by decide) ?_
        exact ih (x + 1) _ _ (by omega) (by omega) hO hN hNA hT hLR hFS hQS hWd hRn hPa hF (hQ.enq hst (fun y hy => by cases hy)) (by rw [← hv]; show _ = fl _ _ _ (iniG n (frN h) x Q); rw [iniG, if_pos c_26])
theorem lX8_explore1 {G : Gx} {d : Nat} (hd : 4 ≤ d) {σ0 : Hp} {ka kq kw n h : Nat} {nb wd : Nat → Nat} (hNt : isNetZ n nb) (hw : ∀ p, nb p < 512) (hh1 : 1 ≤ h) (hh2 : h ≤ 2) (hwd : ∀ s, s < 2 ^ n → wd s = nall nb 9 s) (hka : 104 ≤ ka) (hkq : 104 ≤ kq) (hkw : 104 ≤ kw) (hka2 : ka ≠ kq ∧ ka ≠ kw ∧ kq ≠ kw) {rn : Nat → Option Nat} {pa : Nat → Nat} {J : SJ} {Fd : Nat → Nat → (Nat → Nat) → Prop} {NoF : Prop} (j1 : sjS nb (frN h) (frN (h + 1)) J) (j2 : sjR J) (j3 : sjG n (frN h) (frN (h + 1)) J) (j4 : sjF nb (frN h) (frN (h + 1)) J Fd) (j5 : sjE J NoF) {ro e T0 : Nat} (hro : 1 ≤ ro) (hro2 : ro ≤ 60) (hT0 : T0 + 23050 < 2 ^ 31) (hk : ∀ (σ : Hp) (Q : BQ) (t : Nat) (l : List Nat), J ro e e Q → OB σ 39 8 (seF 39 5 13 (.ref ka) (.ref kq) (.ref kw) Q.1.length) → OB σ 5 3 [.int (nI n), .ref (5 + 1)] → AI σ (5 + 1) 9 nb → RT σ 13 → LR σ 13 nb → FS σ 13 t l → QS σ ka kq Q → AI σ kw 512 wd → AO σ (39 + 2) 2 rn → AI σ (39 + 3) 122 pa → fr [39, ka, kq, 39 + 2, 39 + 3, 13, 13 + 6, 13 + 7] σ0 σ → QOk Q → t ≤ T0 + e → Wp G mX8_explore d 122 [.ref 39, .int (nI h), .int (nI e), .int (nI ro), .int (nI e)] [] σ 0 0 (pV fun s2 => fr [39, ka, kq, 39 + 2, 39 + 3, 13, 13 + 6, 13 + 7] σ0 s2 ∧ (∃ qd, OB s2 39 8 (seF 39 5 13 (.ref ka) (.ref kq) (.ref kw) qd)) ∧ RT s2 13 ∧ LR s2 13 nb ∧ (∃ T l, FS s2 13 T l ∧ T ≤ T0 + 23040) ∧ AX s2 ka 23040 ∧ AX s2 kq 23040 ∧ AX s2 kw 512 ∧ ((NoF ∧ AO s2 (39 + 2) 2 rn ∧ AI s2 (39 + 3) 122 pa) ∨ ∃ ro y c, (1 ≤ ro ∧ ro ≤ 60) ∧ Fd ro y c ∧ AO s2 (39 + 2) 2 (va_up rn (h - 1) (some ro)) ∧ ∃ pa2, AI s2 (39 + 3) 122 pa2 ∧ (∀ i, i < ro → pa2 ((h - 1) * 61 + i) = frN h + c i / 512) ∧ pa2 ((h - 1) * 61 + ro) = y ∧ ∀ i, i < 122 → (i < (h - 1) * 61 ∨ (h - 1) * 61 + ro < i) → pa2 i = pa i))) : ∀ (y : Nat) (nx : Nat) (σ : Hp) (Q : BQ) (t : Nat) (l : List Nat), nx + y = e → J ro nx e Q → OB σ 39 8 (seF 39 5 13 (.ref ka) (.ref kq) (.ref kw) Q.1.length) → OB σ 5 3 [.int (nI n), .ref (5 + 1)] → AI σ (5 + 1) 9 nb → RT σ 13 → LR σ 13 nb → FS σ 13 t l → QS σ ka kq Q → AI σ kw 512 wd → AO σ (39 + 2) 2 rn → AI σ (39 + 3) 122 pa → fr [39, ka, kq, 39 + 2, 39 + 3, 13, 13 + 6, 13 + 7] σ0 σ → QOk Q → t ≤ T0 + nx → Wp G mX8_explore d 87 [.ref 39, .int (nI h), .int (nI nx), .int (nI ro), .int (nI e)] [] σ 0 0 (pV fun s2 => fr [39, ka, kq, 39 + 2, 39 + 3, 13, 13 + 6, 13 + 7] σ0 s2 ∧ (∃ qd, OB s2 39 8 (seF 39 5 13 (.ref ka) (.ref kq) (.ref kw) qd)) ∧ RT s2 13 ∧ LR s2 13 nb ∧ (∃ T l, FS s2 13 T l ∧ T ≤ T0 + 23040) ∧ AX s2 ka 23040 ∧ AX s2 kq 23040 ∧ AX s2 kw 512 ∧ ((NoF ∧ AO s2 (39 + 2) 2 rn ∧ AI s2 (39 + 3) 122 pa) ∨ ∃ ro y c, (1 ≤ ro ∧ ro ≤ 60) ∧ Fd ro y c ∧ AO s2 (39 + 2) 2 (va_up rn (h - 1) (some ro)) ∧ ∃ pa2, AI s2 (39 + 3) 122 pa2 ∧ (∀ i, i < ro → pa2 ((h - 1) * 61 + i) = frN h + c i / 512) ∧ pa2 ((h - 1) * 61 + ro) = y ∧ ∀ i, i < 122 → (i < (h - 1) * 61 ∨ (h - 1) * 61 + ro < i) → pa2 i = pa i)) := by
  obtain ⟨d0, hdd⟩ : ∃ e, d = e + 1 := ⟨d - 1, by omega⟩
  intro y
  induction y with
  | zero =>
    have hn := hNt.1.1
    have hfl := frN_le h hh1 (by omega)
    have h45 : frN (h + 1) ≤ frN h + 45 := by rcases (show h = 1 ∨ h = 2 by omega) with rfl | rfl <;> decide
    have h9 := pow_le9 hn
    intro nx σ Q t l hi hJ hO hN hNA hT hLR hFS hQS hWd hRn hPa hF hQ hTt
    obtain ⟨g1, g2, g3⟩ := j3 ro nx e Q hro hro2 hJ
    have hql := hQ.le
    obtain rfl : nx = e := by omega
    refine wp_iload_n (atd dX8_explore 50 rfl) rfl ?_
    refine wp_iload (atd dX8_explore 51 rfl) rfl ?_
    refine wp_icmpN_ge (tgt := 122) (atd dX8_explore 52 rfl) (by decide) (by omega) (by omega) (fun c_90 => ?_) (fun c_90 => ?_)
    ·
      exact hk σ Q t l hJ hO hN hNA hT hLR hFS hQS hWd hRn hPa hF hQ hTt
    · exfalso; omega
  | succ y ih =>
    have hn := hNt.1.1
    have hfl := frN_le h hh1 (by omega)
    have h45 : frN (h + 1) ≤ frN h + 45 := by rcases (show h = 1 ∨ h = 2 by omega) with rfl | rfl <;> decide
    have h9 := pow_le9 hn
    intro nx σ Q t l hi hJ hO hN hNA hT hLR hFS hQS hWd hRn hPa hF hQ hTt
    obtain ⟨g1, g2, g3⟩ := j3 ro nx e Q hro hro2 hJ
    have hql := hQ.le
    obtain ⟨q1, q2, q3, c, hc⟩ := g3 (by omega)
    have hsl : Q.1.getD nx 0 < 23040 := ((hQ.1 _).mp (getD_mem (by omega))).1
    obtain ⟨hAh, qf, hQu, hqf⟩ := id hQS
    refine wp_iload_n (atd dX8_explore 50 rfl) rfl ?_
    refine wp_iload (atd dX8_explore 51 rfl) rfl ?_
    refine wp_icmpN_ge (tgt := 122) (atd dX8_explore 52 rfl) (by decide) (by omega) (by omega) (fun c_90 => ?_) (fun c_90 => ?_)
    · exfalso; omega
    ·
      refine wp_iload_n (atd dX8_explore 53 rfl) rfl ?_
      refine wp_sipush (v := nI 23040) (atd dX8_explore 54 rfl) (by decide) ?_
      refine wp_icmpN_ge (tgt := 122) (atd dX8_explore 55 rfl) (by decide) (by omega) (by omega) (fun c_97 => ?_) (fun c_97 => ?_)
      · exfalso; omega
      ·
        refine wp_aload_n (atd dX8_explore 56 rfl) rfl rfl ?_
        refine wp_iload_n (atd dX8_explore 57 rfl) rfl ?_
        refine wp_aload_n (atd dX8_explore 58 rfl) rfl rfl ?_
        refine wp_get fX8_77 (atd dX8_explore 59 rfl) hO rfl ?_
        refine wp_iload_n (atd dX8_explore 60 rfl) rfl ?_
        refine wp_ialdA (atd dX8_explore 61 rfl) hQu (by omega) (Nat.le_of_ble_eq_true rfl) ?_
        rw [hqf nx (by omega)]
        refine wp_iload_n (atd dX8_explore 62 rfl) rfl ?_
        refine wp_cVi hdd [_, _, _] (atd dX8_explore 63 rfl) iX8_stepsToLight lX8_80 rfl rfl (Nat.le_of_ble_eq_true rfl) hO rfl (eX8_stepsToLight (by omega) hNt hw hh1 hh2 hwd hka hkq hkw hka2 hsl q3 q1 q2 hro hro2 (by omega) hc hQ hO hN hNA hT hLR hFS hQS hWd hRn hPa) (fun r_109 s_109 h_109 => ?_)
        obtain ⟨rfl, f_109, hO, hT, hLR, ⟨l2, hFS⟩, hQS, hQ2, hres⟩ := h_109
        have hN := hN.fr f_109 (by simp only [List.mem_cons, List.not_mem_nil, or_false]; omega)
        have hNA := hNA.fr f_109 (by simp only [List.mem_cons, List.not_mem_nil, or_false]; omega)
        have hWd := hWd.fr f_109 (by simp only [List.mem_cons, List.not_mem_nil, or_false]; omega)
        have hF := hF.tr f_109 (by simp)
        refine wp_ifB_eq (tgt := 116) (atd dX8_explore 64 rfl) (by decide) (fun c_112 => ?_) (fun c_112 => ?_)
        ·
          refine wp_iincN (c := 1) (atd dX8_explore 66 rfl) rfl ?_
          refine wp_goto (tgt := 87) (atd dX8_explore 67 rfl) (by decide) ?_
          have en : (stlG nb (frN h) (Q.1.getD nx 0) (frN (h + 1) - frN h) (frN h) Q).1 = none := Classical.not_not.mp c_112
          rcases hres with ⟨-, hRn, hPa⟩ | ⟨y, ey, -⟩
          · exact ih (nx + 1) _ _ (t + 1) l2 (by omega) (j1 ro nx e Q hro hro2 hJ (by omega) en) hO hN hNA hT hLR hFS hQS hWd hRn hPa hF hQ2 (by omega)
          · rw [en] at ey; cases ey
        ·
          refine wp_vretv (atd dX8_explore 65 rfl) rfl ?_
          rcases hres with ⟨z, -⟩ | ⟨y, ey, hRn, pa2, hPa, p1, p2, p3⟩
          · exact absurd z c_112
          · exact ⟨hF, ⟨_, hO⟩, hT, hLR, ⟨t + 1, l2, hFS, by omega⟩, hQS.X.1, hQS.X.2, hWd.X, Or.inr ⟨ro, y, c, ⟨hro, hro2⟩, j4 ro nx e Q y c hro hro2 hJ (by omega) ey hc, hRn, pa2, hPa, p1, p2, p3⟩⟩
theorem lX8_explore2 {G : Gx} {d : Nat} (hd : 4 ≤ d) {σ0 : Hp} {ka kq kw n h : Nat} {nb wd : Nat → Nat} (hNt : isNetZ n nb) (hw : ∀ p, nb p < 512) (hh1 : 1 ≤ h) (hh2 : h ≤ 2) (hwd : ∀ s, s < 2 ^ n → wd s = nall nb 9 s) (hka : 104 ≤ ka) (hkq : 104 ≤ kq) (hkw : 104 ≤ kw) (hka2 : ka ≠ kq ∧ ka ≠ kw ∧ kq ≠ kw) {rn : Nat → Option Nat} {pa : Nat → Nat} {J : SJ} {Fd : Nat → Nat → (Nat → Nat) → Prop} {NoF : Prop} (j1 : sjS nb (frN h) (frN (h + 1)) J) (j2 : sjR J) (j3 : sjG n (frN h) (frN (h + 1)) J) (j4 : sjF nb (frN h) (frN (h + 1)) J Fd) (j5 : sjE J NoF) {T0 : Nat} (hT0 : T0 + 23050 < 2 ^ 31) : ∀ (y : Nat) (ro nx : Nat) (σ : Hp) (Q : BQ) (t : Nat) (l : List Nat) (y4 : Value), ro + y = 61 → 1 ≤ ro → J ro nx Q.1.length Q → OB σ 39 8 (seF 39 5 13 (.ref ka) (.ref kq) (.ref kw) Q.1.length) → OB σ 5 3 [.int (nI n), .ref (5 + 1)] → AI σ (5 + 1) 9 nb → RT σ 13 → LR σ 13 nb → FS σ 13 t l → QS σ ka kq Q → AI σ kw 512 wd → AO σ (39 + 2) 2 rn → AI σ (39 + 3) 122 pa → fr [39, ka, kq, 39 + 2, 39 + 3, 13, 13 + 6, 13 + 7] σ0 σ → QOk Q → (t ≤ T0 + nx ∧ nx ≤ 23040) → Wp G mX8_explore d 75 [.ref 39, .int (nI h), .int (nI nx), .int (nI ro), y4] [] σ 0 0 (pV fun s2 => fr [39, ka, kq, 39 + 2, 39 + 3, 13, 13 + 6, 13 + 7] σ0 s2 ∧ (∃ qd, OB s2 39 8 (seF 39 5 13 (.ref ka) (.ref kq) (.ref kw) qd)) ∧ RT s2 13 ∧ LR s2 13 nb ∧ (∃ T l, FS s2 13 T l ∧ T ≤ T0 + 23040) ∧ AX s2 ka 23040 ∧ AX s2 kq 23040 ∧ AX s2 kw 512 ∧ ((NoF ∧ AO s2 (39 + 2) 2 rn ∧ AI s2 (39 + 3) 122 pa) ∨ ∃ ro y c, (1 ≤ ro ∧ ro ≤ 60) ∧ Fd ro y c ∧ AO s2 (39 + 2) 2 (va_up rn (h - 1) (some ro)) ∧ ∃ pa2, AI s2 (39 + 3) 122 pa2 ∧ (∀ i, i < ro → pa2 ((h - 1) * 61 + i) = frN h + c i / 512) ∧ pa2 ((h - 1) * 61 + ro) = y ∧ ∀ i, i < 122 → (i < (h - 1) * 61 ∨ (h - 1) * 61 + ro < i) → pa2 i = pa i)) := by
  obtain ⟨d0, hdd⟩ : ∃ e, d = e + 1 := ⟨d - 1, by omega⟩
  intro y
  induction y with
  | zero =>
    have hn := hNt.1.1
    have hfl := frN_le h hh1 (by omega)
    have h45 : frN (h + 1) ≤ frN h + 45 := by rcases (show h = 1 ∨ h = 2 by omega) with rfl | rfl <;> decide
    have h9 := pow_le9 hn
    intro ro nx σ Q t l y4 hi hr1 hJ hO hN hNA hT hLR hFS hQS hWd hRn hPa hF hQ hTt
    have hql := hQ.le
    obtain rfl : ro = 61 := by omega
    refine wp_iload_n (atd dX8_explore 44 rfl) rfl ?_
    refine wp_bipush (v := nI 60) (atd dX8_explore 45 rfl) (by decide) ?_
    refine wp_icmpN_gt (tgt := 128) (atd dX8_explore 46 rfl) (by decide) (by omega) (by omega) (fun c_78 => ?_) (fun c_78 => ?_)
    ·
      refine wp_vretv (atd dX8_explore 70 rfl) rfl ?_
      exact ⟨hF, ⟨_, hO⟩, hT, hLR, ⟨t, l, hFS, by omega⟩, hQS.X.1, hQS.X.2, hWd.X, Or.inl ⟨j5 _ _ _ hJ, hRn, hPa⟩⟩
    · exfalso; omega
  | succ y ih =>
    have hn := hNt.1.1
    have hfl := frN_le h hh1 (by omega)
    have h45 : frN (h + 1) ≤ frN h + 45 := by rcases (show h = 1 ∨ h = 2 by omega) with rfl | rfl <;> decide
    have h9 := pow_le9 hn
    intro ro nx σ Q t l y4 hi hr1 hJ hO hN hNA hT hLR hFS hQS hWd hRn hPa hF hQ hTt
    have hql := hQ.le
    obtain ⟨g1, g2, -⟩ := j3 ro nx Q.1.length Q hr1 (by omega) hJ
    refine wp_iload_n (atd dX8_explore 44 rfl) rfl ?_
    refine wp_bipush (v := nI 60) (atd dX8_explore 45 rfl) (by decide) ?_
    refine wp_icmpN_gt (tgt := 128) (atd dX8_explore 46 rfl) (by decide) (by omega) (by omega) (fun c_78 => ?_) (fun c_78 => ?_)
    · exfalso; omega
    ·
      refine wp_aload_n (atd dX8_explore 47 rfl) rfl rfl ?_
      refine wp_get fX8_74 (atd dX8_explore 48 rfl) hO rfl ?_
      refine wp_istore (atd dX8_explore 49 rfl) (Nat.le_of_ble_eq_true rfl) ?_
      refine lX8_explore1 (σ0 := σ0) (e := Q.1.length) (T0 := T0) (by omega) hNt hw hh1 hh2 hwd hka hkq hkw hka2 j1 j2 j3 j4 j5 hr1 (by omega) hT0 (fun σ Q2 t l hJ2 hO hN hNA hT hLR hFS hQS hWd hRn hPa hF hQ hTt => ?_) (Q.1.length - nx) nx σ Q t l (by omega) hJ hO hN hNA hT hLR hFS hQS hWd hRn hPa hF hQ hTt.1
      have hql2 := hQ.le
      refine wp_iincN (c := 1) (atd dX8_explore 68 rfl) rfl ?_
      refine wp_goto (tgt := 75) (atd dX8_explore 69 rfl) (by decide) ?_
      exact ih (ro + 1) _ σ Q2 t l _ (by omega) (by omega) (j2 ro _ Q2 hr1 (by omega) hJ2) hO hN hNA hT hLR hFS hQS hWd hRn hPa hF hQ ⟨hTt, by omega⟩
theorem bX8_explore {G : Gx} {d : Nat} {σ : Hp} (hd : 4 ≤ d) {ka kq kw n h : Nat} {nb wd : Nat → Nat} (hNt : isNetZ n nb) (hw : ∀ p, nb p < 512) (hh1 : 1 ≤ h) (hh2 : h ≤ 2) (hwd : ∀ s, s < 2 ^ n → wd s = nall nb 9 s) (hka : 104 ≤ ka) (hkq : 104 ≤ kq) (hkw : 104 ≤ kw) (hka2 : ka ≠ kq ∧ ka ≠ kw ∧ kq ≠ kw) {rn : Nat → Option Nat} {pa : Nat → Nat} {J : SJ} {Fd : Nat → Nat → (Nat → Nat) → Prop} {NoF : Prop} (j1 : sjS nb (frN h) (frN (h + 1)) J) (j2 : sjR J) (j3 : sjG n (frN h) (frN (h + 1)) J) (j4 : sjF nb (frN h) (frN (h + 1)) J Fd) (j5 : sjE J NoF) {T0 : Nat} {l : List Nat} {y2 y3 y4 : Value} (hT0 : T0 + 23050 < 2 ^ 31) (j0 : J 1 0 (iniQ n (frN h) (frN (h + 1))).1.length (iniQ n (frN h) (frN (h + 1)))) (hO : OB σ 39 8 (seF 39 5 13 (.ref ka) (.ref kq) (.ref kw) 0)) (hN : OB σ 5 3 [.int (nI n), .ref (5 + 1)]) (hNA : AI σ (5 + 1) 9 nb) (hT : RT σ 13) (hLR : LR σ 13 nb) (hFS : FS σ 13 T0 l) (hQS : QS σ ka kq Q0) (hWd : AI σ kw 512 wd) (hRn : AO σ (39 + 2) 2 rn) (hPa : AI σ (39 + 3) 122 pa) : Wp G mX8_explore d 4 [.ref 39, .int (nI h), y2, y3, y4] [] σ 0 0 (pV fun s2 => fr [39, ka, kq, 39 + 2, 39 + 3, 13, 13 + 6, 13 + 7] σ s2 ∧ (∃ qd, OB s2 39 8 (seF 39 5 13 (.ref ka) (.ref kq) (.ref kw) qd)) ∧ RT s2 13 ∧ LR s2 13 nb ∧ (∃ T l, FS s2 13 T l ∧ T ≤ T0 + 23040) ∧ AX s2 ka 23040 ∧ AX s2 kq 23040 ∧ AX s2 kw 512 ∧ ((NoF ∧ AO s2 (39 + 2) 2 rn ∧ AI s2 (39 + 3) 122 pa) ∨ ∃ ro y c, (1 ≤ ro ∧ ro ≤ 60) ∧ Fd ro y c ∧ AO s2 (39 + 2) 2 (va_up rn (h - 1) (some ro)) ∧ ∃ pa2, AI s2 (39 + 3) 122 pa2 ∧ (∀ i, i < ro → pa2 ((h - 1) * 61 + i) = frN h + c i / 512) ∧ pa2 ((h - 1) * 61 + ro) = y ∧ ∀ i, i < 122 → (i < (h - 1) * 61 ∨ (h - 1) * 61 + ro < i) → pa2 i = pa i)) := by
  obtain ⟨d0, hdd⟩ : ∃ e, d = e + 1 := ⟨d - 1, by omega⟩
  have hn := hNt.1.1
  have hfl := frN_le h hh1 (by omega)
  have h45 : frN (h + 1) ≤ frN h + 45 := by rcases (show h = 1 ∨ h = 2 by omega) with rfl | rfl <;> decide
  have h9 := pow_le9 hn
  refine wp_frow fX8_61 (atd dX8_explore 2 rfl) ?_
  refine wp_iload_n (atd dX8_explore 3 rfl) rfl ?_
  refine wp_faldN (atd dX8_explore 4 rfl) (by omega) ?_
  rw [frow_N]
  refine wp_istore_n (atd dX8_explore 5 rfl) (Nat.le_of_ble_eq_true rfl) ?_
  refine lX8_explore0 (σ0 := σ) (v := iniQ n (frN h) (frN (h + 1))) (by omega) hNt hw hh1 hh2 hwd hka hkq hkw hka2 (fun s1 hO hN hNA hT hLR hFS hQS hWd hRn hPa hF hQ => ?_) (frN (h + 1) - frN h) (frN h) σ Q0 (by omega) (Nat.le_refl _) hO hN hNA hT hLR hFS hQS hWd hRn hPa fr.rf Q0_ok rfl
  refine wp_iconst (v := nI 0) (atd dX8_explore 40 rfl) (by decide) ?_
  refine wp_istore_n (atd dX8_explore 41 rfl) (Nat.le_of_ble_eq_true rfl) ?_
  refine wp_iconst (v := nI 1) (atd dX8_explore 42 rfl) (by decide) ?_
  refine wp_istore_n (atd dX8_explore 43 rfl) (Nat.le_of_ble_eq_true rfl) ?_
  exact lX8_explore2 (by omega) hNt hw hh1 hh2 hwd hka hkq hkw hka2 j1 j2 j3 j4 j5 hT0 60 1 0 s1 _ T0 l _ (by omega) (by omega) j0 hO hN hNA hT hLR hFS hQS hWd hRn hPa hF hQ ⟨by omega, by omega⟩
