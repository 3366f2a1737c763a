def scF (c : Nat → Int32) : List Value := [.int (c 0), .int (c 1), .int (c 2), .int (c 3), .int (c 4), .int (c 5)]
def scZ (c : Nat → Int32) : Prop := okV .boolean (.int (c 0)) = true ∧ okV .boolean (.int (c 4)) = true
theorem eX6_copyFrom {G : Gx} {d : Nat} {σ : Hp} (hd : 0 ≤ d) {k k2 : Nat} {c c2 : Nat → Int32} (hO : OB σ k 6 (scF c)) (hO2 : OB σ k2 6 (scF c2)) (hz : scZ c2) (hne : k ≠ k2) : Cl G mX6_copyFrom d [.ref k, .ref k2] σ 0 0 (pV fun s => fr [k] σ s ∧ OB s k 6 (scF c2)) := by
  refine cl_of (by decide) (by simp [Value.category]) (Nat.le_of_ble_eq_true rfl) ?_
  show Wp G mX6_copyFrom d 0 [.ref k, .ref k2] [] σ 0 0 _
  have hF : fr [k] σ σ := fr.rf
  refine wp_aload_n (atd dX6_copyFrom 0 rfl) rfl rfl ?_
  refine wp_aload_n (atd dX6_copyFrom 1 rfl) rfl rfl ?_
  refine wp_get fX6_7 (atd dX6_copyFrom 2 rfl) hO2 rfl ?_
  refine wp_putX fX6_7 (atd dX6_copyFrom 3 rfl) hO hz.1 (Nat.le_of_ble_eq_true rfl) (fun σ f_5 hO => ?_)
  have hO2 := hO2.fr f_5 (by first | decide | (simp only [List.mem_cons, List.not_mem_nil, or_false]; omega))
  have hF := hF.tr f_5 (by simp)
  refine wp_aload_n (atd dX6_copyFrom 4 rfl) rfl rfl ?_
  refine wp_aload_n (atd dX6_copyFrom 5 rfl) rfl rfl ?_
  refine wp_get fX6_13 (atd dX6_copyFrom 6 rfl) hO2 rfl ?_
  refine wp_putX fX6_13 (atd dX6_copyFrom 7 rfl) hO rfl (Nat.le_of_ble_eq_true rfl) (fun σ f_13 hO => ?_)
  have hO2 := hO2.fr f_13 (by first | decide | (simp only [List.mem_cons, List.not_mem_nil, or_false]; omega))
  have hF := hF.tr f_13 (by simp)
  refine wp_aload_n (atd dX6_copyFrom 8 rfl) rfl rfl ?_
  refine wp_aload_n (atd dX6_copyFrom 9 rfl) rfl rfl ?_
  refine wp_get fX6_17 (atd dX6_copyFrom 10 rfl) hO2 rfl ?_
  refine wp_putX fX6_17 (atd dX6_copyFrom 11 rfl) hO rfl (Nat.le_of_ble_eq_true rfl) (fun σ f_21 hO => ?_)
  have hO2 := hO2.fr f_21 (by first | decide | (simp only [List.mem_cons, List.not_mem_nil, or_false]; omega))
  have hF := hF.tr f_21 (by simp)
  refine wp_aload_n (atd dX6_copyFrom 12 rfl) rfl rfl ?_
  refine wp_aload_n (atd dX6_copyFrom 13 rfl) rfl rfl ?_
  refine wp_get fX6_20 (atd dX6_copyFrom 14 rfl) hO2 rfl ?_
  refine wp_putX fX6_20 (atd dX6_copyFrom 15 rfl) hO rfl (Nat.le_of_ble_eq_true rfl) (fun σ f_29 hO => ?_)
  have hO2 := hO2.fr f_29 (by first | decide | (simp only [List.mem_cons, List.not_mem_nil, or_false]; omega))
  have hF := hF.tr f_29 (by simp)
  refine wp_aload_n (atd dX6_copyFrom 16 rfl) rfl rfl ?_
  refine wp_aload_n (atd dX6_copyFrom 17 rfl) rfl rfl ?_
  refine wp_get fX6_23 (atd dX6_copyFrom 18 rfl) hO2 rfl ?_
  refine wp_putX fX6_23 (atd dX6_copyFrom 19 rfl) hO hz.2 (Nat.le_of_ble_eq_true rfl) (fun σ f_37 hO => ?_)
  have hO2 := hO2.fr f_37 (by first | decide | (simp only [List.mem_cons, List.not_mem_nil, or_false]; omega))
  have hF := hF.tr f_37 (by simp)
  refine wp_aload_n (atd dX6_copyFrom 20 rfl) rfl rfl ?_
  refine wp_aload_n (atd dX6_copyFrom 21 rfl) rfl rfl ?_
  refine wp_get fX6_26 (atd dX6_copyFrom 22 rfl) hO2 rfl ?_
  refine wp_putX fX6_26 (atd dX6_copyFrom 23 rfl) hO rfl (Nat.le_of_ble_eq_true rfl) (fun σ f_45 hO => ?_)
  have hO2 := hO2.fr f_45 (by first | decide | (simp only [List.mem_cons, List.not_mem_nil, or_false]; omega))
  have hF := hF.tr f_45 (by simp)
  refine wp_vretv (atd dX6_copyFrom 24 rfl) rfl ?_
  exact ⟨hF, hO⟩
theorem eX6_open {G : Gx} {d : Nat} {σ : Hp} (hd : 0 ≤ d) {k : Nat} {c : Nat → Int32} {a b e : Int32} (hO : OB σ k 6 (scF c)) : Cl G mX6_open d [.ref k, .int a, .int b, .int e] σ 0 0 (pV fun s => fr [k] σ s ∧ OB s k 6 [.int (nI 1), .int a, .int b, .int e, .int (nI 0), .int (nI 0)]) := by
  refine cl_of (by decide) (by simp [Value.category]) (Nat.le_of_ble_eq_true rfl) ?_
  show Wp G mX6_open d 0 [.ref k, .int a, .int b, .int e] [] σ 0 0 _
  have hF : fr [k] σ σ := fr.rf
  refine wp_aload_n (atd dX6_open 0 rfl) rfl rfl ?_
  refine wp_iconst (v := nI 1) (atd dX6_open 1 rfl) (by decide) ?_
  refine wp_putX fX6_7 (atd dX6_open 2 rfl) hO (by decide) (Nat.le_of_ble_eq_true rfl) (fun σ f_2 hO => ?_)
  have hF := hF.tr f_2 (by simp)
  refine wp_aload_n (atd dX6_open 3 rfl) rfl rfl ?_
  refine wp_iload_n (atd dX6_open 4 rfl) rfl ?_
  refine wp_putX fX6_13 (atd dX6_open 5 rfl) hO rfl (Nat.le_of_ble_eq_true rfl) (fun σ f_7 hO => ?_)
  have hF := hF.tr f_7 (by simp)
  refine wp_aload_n (atd dX6_open 6 rfl) rfl rfl ?_
  refine wp_iload_n (atd dX6_open 7 rfl) rfl ?_
  refine wp_putX fX6_17 (atd dX6_open 8 rfl) hO rfl (Nat.le_of_ble_eq_true rfl) (fun σ f_12 hO => ?_)
  have hF := hF.tr f_12 (by simp)
  refine wp_aload_n (atd dX6_open 9 rfl) rfl rfl ?_
  refine wp_iload_n (atd dX6_open 10 rfl) rfl ?_
  refine wp_putX fX6_20 (atd dX6_open 11 rfl) hO rfl (Nat.le_of_ble_eq_true rfl) (fun σ f_17 hO => ?_)
  have hF := hF.tr f_17 (by simp)
  refine wp_aload_n (atd dX6_open 12 rfl) rfl rfl ?_
  refine wp_iconst (v := nI 0) (atd dX6_open 13 rfl) (by decide) ?_
  refine wp_putX fX6_23 (atd dX6_open 14 rfl) hO (by decide) (Nat.le_of_ble_eq_true rfl) (fun σ f_22 hO => ?_)
  have hF := hF.tr f_22 (by simp)
  refine wp_aload_n (atd dX6_open 15 rfl) rfl rfl ?_
  refine wp_iconst (v := nI 0) (atd dX6_open 16 rfl) (by decide) ?_
  refine wp_putX fX6_26 (atd dX6_open 17 rfl) hO rfl (Nat.le_of_ble_eq_true rfl) (fun σ f_27 hO => ?_)
  have hF := hF.tr f_27 (by simp)
  refine wp_vretv (atd dX6_open 18 rfl) rfl ?_
  exact ⟨hF, hO⟩
theorem eX6_huntersGo {G : Gx} {d : Nat} {σ : Hp} (hd : 0 ≤ d) {k : Nat} {c : Nat → Int32} {a : Int32} (hO : OB σ k 6 (scF c)) : Cl G mX6_huntersGo d [.ref k, .int a] σ 0 0 (pV fun s => fr [k] σ s ∧ OB s k 6 [.int (c 0), .int (c 1), .int a, .int (c 3), .int (nI 1), .int (c 5 + nI 1)]) := by
  refine cl_of (by decide) (by simp [Value.category]) (Nat.le_of_ble_eq_true rfl) ?_
  show Wp G mX6_huntersGo d 0 [.ref k, .int a] [] σ 0 0 _
  have hF : fr [k] σ σ := fr.rf
  refine wp_aload_n (atd dX6_huntersGo 0 rfl) rfl rfl ?_
  refine wp_iload_n (atd dX6_huntersGo 1 rfl) rfl ?_
  refine wp_putX fX6_17 (atd dX6_huntersGo 2 rfl) hO rfl (Nat.le_of_ble_eq_true rfl) (fun σ f_2 hO => ?_)
  have hF := hF.tr f_2 (by simp)
  refine wp_aload_n (atd dX6_huntersGo 3 rfl) rfl rfl ?_
  refine wp_iconst (v := nI 1) (atd dX6_huntersGo 4 rfl) (by decide) ?_
  refine wp_putX fX6_23 (atd dX6_huntersGo 5 rfl) hO (by decide) (Nat.le_of_ble_eq_true rfl) (fun σ f_7 hO => ?_)
  have hF := hF.tr f_7 (by simp)
  refine wp_aload_n (atd dX6_huntersGo 6 rfl) rfl rfl ?_
  refine wp_dup (atd dX6_huntersGo 7 rfl) rfl ?_
  refine wp_get fX6_26 (atd dX6_huntersGo 8 rfl) hO rfl ?_
  refine wp_iconst (v := nI 1) (atd dX6_huntersGo 9 rfl) (by decide) ?_
  refine wp_iadd (atd dX6_huntersGo 10 rfl) ?_
  refine wp_putX fX6_26 (atd dX6_huntersGo 11 rfl) hO rfl (Nat.le_of_ble_eq_true rfl) (fun σ f_17 hO => ?_)
  have hF := hF.tr f_17 (by simp)
  refine wp_vretv (atd dX6_huntersGo 12 rfl) rfl ?_
  exact ⟨hF, hO⟩
theorem eX6_runnerGoes {G : Gx} {d : Nat} {σ : Hp} (hd : 0 ≤ d) {k : Nat} {c : Nat → Int32} {a : Int32} (hO : OB σ k 6 (scF c)) : Cl G mX6_runnerGoes d [.ref k, .int a] σ 0 0 (pV fun s => fr [k] σ s ∧ OB s k 6 [.int (c 0), .int (c 1), .int (c 2), .int a, .int (nI 0), .int (c 5)]) := by
  refine cl_of (by decide) (by simp [Value.category]) (Nat.le_of_ble_eq_true rfl) ?_
  show Wp G mX6_runnerGoes d 0 [.ref k, .int a] [] σ 0 0 _
  have hF : fr [k] σ σ := fr.rf
  refine wp_aload_n (atd dX6_runnerGoes 0 rfl) rfl rfl ?_
  refine wp_iload_n (atd dX6_runnerGoes 1 rfl) rfl ?_
  refine wp_putX fX6_20 (atd dX6_runnerGoes 2 rfl) hO rfl (Nat.le_of_ble_eq_true rfl) (fun σ f_2 hO => ?_)
  have hF := hF.tr f_2 (by simp)
  refine wp_aload_n (atd dX6_runnerGoes 3 rfl) rfl rfl ?_
  refine wp_iconst (v := nI 0) (atd dX6_runnerGoes 4 rfl) (by decide) ?_
  refine wp_putX fX6_23 (atd dX6_runnerGoes 5 rfl) hO (by decide) (Nat.le_of_ble_eq_true rfl) (fun σ f_7 hO => ?_)
  have hF := hF.tr f_7 (by simp)
  refine wp_vretv (atd dX6_runnerGoes 6 rfl) rfl ?_
  exact ⟨hF, hO⟩
def PaS (σ : Hp) (k : Nat) (N : Nat → Nat) (NB : Nat → Nat → Nat) (C : Nat → Nat → Int32) : Prop := ∀ i, i < 12 → OB σ (k + 3 + 3 * i) 3 [.int (nI (N i)), .ref (k + 3 + 3 * i + 1)] ∧ AI σ (k + 3 + 3 * i + 1) 9 (NB i) ∧ OB σ (k + 3 + 3 * i + 2) 6 (scF (C i))
theorem PaS.fr {σ s : Hp} {S : List Nat} {k : Nat} {N : Nat → Nat} {NB : Nat → Nat → Nat} {C : Nat → Nat → Int32} (h : PaS σ k N NB C) (f : fr S σ s) (hk : ∀ j, k + 3 ≤ j → j < k + 39 → j ∉ S) : PaS s k N NB C := fun i hi => ⟨(h i hi).1.fr f (hk _ (by omega) (by omega)), (h i hi).2.1.fr f (hk _ (by omega) (by omega)), (h i hi).2.2.fr f (hk _ (by omega) (by omega))⟩
def paF (k kp nx : Nat) : List Value := [.ref (k + 1), .ref (k + 2), .int (nI kp), .int (nI nx)]
theorem eX4_forget {G : Gx} {d : Nat} {σ : Hp} (hd : 0 ≤ d) {k kp nx : Nat} (hO : OB σ k 4 (paF k kp nx)) : Cl G mX4_forget d [.ref k] σ 0 0 (pV fun s => fr [k] σ s ∧ OB s k 4 (paF k 0 0)) := by
  refine cl_of (by decide) (by simp [Value.category]) (Nat.le_of_ble_eq_true rfl) ?_
  show Wp G mX4_forget d 0 [.ref k] [] σ 0 0 _
  have hF : fr [k] σ σ := fr.rf
  refine wp_aload_n (atd dX4_forget 0 rfl) rfl rfl ?_
  refine wp_iconst (v := nI 0) (atd dX4_forget 1 rfl) (by decide) ?_
  refine wp_putX fX4_23 (atd dX4_forget 2 rfl) hO rfl (Nat.le_of_ble_eq_true rfl) (fun σ f_2 hO => ?_)
  have hF := hF.tr f_2 (by simp)
  refine wp_aload_n (atd dX4_forget 3 rfl) rfl rfl ?_
  refine wp_iconst (v := nI 0) (atd dX4_forget 4 rfl) (by decide) ?_
  refine wp_putX fX4_27 (atd dX4_forget 5 rfl) hO rfl (Nat.le_of_ble_eq_true rfl) (fun σ f_7 hO => ?_)
  have hF := hF.tr f_7 (by simp)
  refine wp_vretv (atd dX4_forget 6 rfl) rfl ?_
  exact ⟨hF, hO⟩
theorem eX4_keep {G : Gx} {d : Nat} {σ : Hp} (hd : 1 ≤ d) {k kp nx : Nat} {N : Nat → Nat} {NB : Nat → Nat → Nat} {C : Nat → Nat → Int32} (hO : OB σ k 4 (paF k kp nx)) (hR : AR σ (k + 1) 3 12 (fun i => k + 3 + 3 * i)) (hR2 : AR σ (k + 2) 4 12 (fun i => k + 3 + 3 * i + 2)) (hS : PaS σ k N NB C) (hkp : kp ≤ 12) (hnx : nx < 12) {kn ks n : Nat} {nb : Nat → Nat} {c : Nat → Int32} (hN : OB σ kn 3 [.int (nI n), .ref (kn + 1)]) (hNA : AI σ (kn + 1) 9 nb) (hK : OB σ ks 6 (scF c)) (hz : scZ c) (ap1 : kn + 1 < k ∨ k + 38 < kn) (ap2 : ks < k ∨ k + 38 < ks) (ap3 : ks ≠ kn ∧ ks ≠ kn + 1) : Cl G mX4_keep d [.ref k, .ref kn, .ref ks] σ 0 0 (pV fun s => fr [k, k + 3 + 3 * nx, k + 3 + 3 * nx + 1, k + 3 + 3 * nx + 2] σ s ∧ OB s k 4 (paF k (if 12 < kp + 1 then 12 else kp + 1) ((nx + 1) % 12)) ∧ PaS s k (va_up N nx n) (va_up NB nx nb) (va_up C nx c)) := by
  obtain ⟨d0, hdd⟩ : ∃ e, d = e + 1 := ⟨d - 1, by omega⟩
  refine cl_of (by decide) (by simp [Value.category]) (Nat.le_of_ble_eq_true rfl) ?_
  show Wp G mX4_keep d 0 [.ref k, .ref kn, .ref ks] [] σ 0 0 _
  have hF : fr [k, k + 3 + 3 * nx, k + 3 + 3 * nx + 1, k + 3 + 3 * nx + 2] σ σ := fr.rf
  obtain ⟨hs1, hs2, hs3⟩ := hS nx hnx
  refine wp_aload_n (atd dX4_keep 0 rfl) rfl rfl ?_
  refine wp_get fX4_11 (atd dX4_keep 1 rfl) hO rfl ?_
  refine wp_aload_n (atd dX4_keep 2 rfl) rfl rfl ?_
  refine wp_get fX4_27 (atd dX4_keep 3 rfl) hO rfl ?_
  refine wp_aaldR (atd dX4_keep 4 rfl) hR (by decide) rfl (by omega) (Nat.le_of_ble_eq_true rfl) ?_
  show Wp _ _ _ _ _ (.ref (k + 3 + 3 * nx) :: _) _ _ _ _
  refine wp_aload_n (atd dX4_keep 5 rfl) rfl rfl ?_
  refine wp_cVv hdd [_] (atd dX4_keep 6 rfl) iX3_copyFrom lX4_30 rfl rfl (Nat.le_of_ble_eq_true rfl) hs1 rfl (eX3_copyFrom (by omega) hs1 hs2 hN hNA (by omega)) (fun s_10 h_10 => ?_)
  obtain ⟨f_10, hs1, hs2⟩ := h_10
  have hO := hO.fr f_10 (by first | decide | (simp only [List.mem_cons, List.not_mem_nil, or_false]; omega))
  have hR := hR.fr f_10 (by first | decide | (simp only [List.mem_cons, List.not_mem_nil, or_false]; omega))
  have hR2 := hR2.fr f_10 (by first | decide | (simp only [List.mem_cons, List.not_mem_nil, or_false]; omega))
  have hN := hN.fr f_10 (by first | decide | (simp only [List.mem_cons, List.not_mem_nil, or_false]; omega))
  have hNA := hNA.fr f_10 (by first | decide | (simp only [List.mem_cons, List.not_mem_nil, or_false]; omega))
  have hK := hK.fr f_10 (by first | decide | (simp only [List.mem_cons, List.not_mem_nil, or_false]; omega))
  have hs3 := hs3.fr f_10 (by first | decide | (simp only [List.mem_cons, List.not_mem_nil, or_false]; omega))
  have hF := hF.tr f_10 (by simp)
  refine wp_aload_n (atd dX4_keep 7 rfl) rfl rfl ?_
  refine wp_get fX4_17 (atd dX4_keep 8 rfl) hO rfl ?_
  refine wp_aload_n (atd dX4_keep 9 rfl) rfl rfl ?_
  refine wp_get fX4_27 (atd dX4_keep 10 rfl) hO rfl ?_
  refine wp_aaldR (atd dX4_keep 11 rfl) hR2 (by decide) rfl (by omega) (Nat.le_of_ble_eq_true rfl) ?_
  show Wp _ _ _ _ _ (.ref (k + 3 + 3 * nx + 2) :: _) _ _ _ _
  refine wp_aload_n (atd dX4_keep 12 rfl) rfl rfl ?_
  refine wp_cVv hdd [_] (atd dX4_keep 13 rfl) iX6_copyFrom lX4_34 rfl rfl (Nat.le_of_ble_eq_true rfl) hs3 rfl (eX6_copyFrom (by omega) hs3 hK hz (by omega)) (fun s_23 h_23 => ?_)
  obtain ⟨f_23, hs3⟩ := h_23
  have hO := hO.fr f_23 (by first | decide | (simp only [List.mem_cons, List.not_mem_nil, or_false]; omega))
  have hR := hR.fr f_23 (by first | decide | (simp only [List.mem_cons, List.not_mem_nil, or_false]; omega))
  have hR2 := hR2.fr f_23 (by first | decide | (simp only [List.mem_cons, List.not_mem_nil, or_false]; omega))
  have hN := hN.fr f_23 (by first | decide | (simp only [List.mem_cons, List.not_mem_nil, or_false]; omega))
  have hNA := hNA.fr f_23 (by first | decide | (simp only [List.mem_cons, List.not_mem_nil, or_false]; omega))
  have hK := hK.fr f_23 (by first | decide | (simp only [List.mem_cons, List.not_mem_nil, or_false]; omega))
  have hs1 := hs1.fr f_23 (by first | decide | (simp only [List.mem_cons, List.not_mem_nil, or_false]; omega))
  have hs2 := hs2.fr f_23 (by first | decide | (simp only [List.mem_cons, List.not_mem_nil, or_false]; omega))
  have hF := hF.tr f_23 (by simp)
  refine wp_aload_n (atd dX4_keep 14 rfl) rfl rfl ?_
  refine wp_aload_n (atd dX4_keep 15 rfl) rfl rfl ?_
  refine wp_get fX4_27 (atd dX4_keep 16 rfl) hO rfl ?_
  refine wp_iconst (v := nI 1) (atd dX4_keep 17 rfl) (by decide) ?_
  refine wp_iaddN (atd dX4_keep 18 rfl) ?_
  refine wp_bipush (v := nI 12) (atd dX4_keep 19 rfl) (by decide) ?_
  refine wp_iremN (atd dX4_keep 20 rfl) (by omega) (by omega) (by omega) ?_
  refine wp_putX fX4_27 (atd dX4_keep 21 rfl) hO rfl (Nat.le_of_ble_eq_true rfl) (fun σ f_36 hO => ?_)
  have hR := hR.fr f_36 (by first | decide | (simp only [List.mem_cons, List.not_mem_nil, or_false]; omega))
  have hR2 := hR2.fr f_36 (by first | decide | (simp only [List.mem_cons, List.not_mem_nil, or_false]; omega))
  have hN := hN.fr f_36 (by first | decide | (simp only [List.mem_cons, List.not_mem_nil, or_false]; omega))
  have hNA := hNA.fr f_36 (by first | decide | (simp only [List.mem_cons, List.not_mem_nil, or_false]; omega))
  have hK := hK.fr f_36 (by first | decide | (simp only [List.mem_cons, List.not_mem_nil, or_false]; omega))
  have hs1 := hs1.fr f_36 (by first | decide | (simp only [List.mem_cons, List.not_mem_nil, or_false]; omega))
  have hs2 := hs2.fr f_36 (by first | decide | (simp only [List.mem_cons, List.not_mem_nil, or_false]; omega))
  have hs3 := hs3.fr f_36 (by first | decide | (simp only [List.mem_cons, List.not_mem_nil, or_false]; omega))
  have hF := hF.tr f_36 (by simp)
  refine wp_aload_n (atd dX4_keep 22 rfl) rfl rfl ?_
  refine wp_aload_n (atd dX4_keep 23 rfl) rfl rfl ?_
  refine wp_get fX4_23 (atd dX4_keep 24 rfl) hO rfl ?_
  refine wp_iconst (v := nI 1) (atd dX4_keep 25 rfl) (by decide) ?_
  refine wp_iaddN (atd dX4_keep 26 rfl) ?_
  refine wp_bipush (v := nI 12) (atd dX4_keep 27 rfl) (by decide) ?_
  refine wp_minN hdd (atd dX4_keep 28 rfl) lX4_37 (by omega) (by omega) (Nat.le_of_ble_eq_true rfl) ?_
  refine wp_putX fX4_23 (atd dX4_keep 29 rfl) hO rfl (Nat.le_of_ble_eq_true rfl) (fun σ f_51 hO => ?_)
  have hR := hR.fr f_51 (by first | decide | (simp only [List.mem_cons, List.not_mem_nil, or_false]; omega))
  have hR2 := hR2.fr f_51 (by first | decide | (simp only [List.mem_cons, List.not_mem_nil, or_false]; omega))
  have hN := hN.fr f_51 (by first | decide | (simp only [List.mem_cons, List.not_mem_nil, or_false]; omega))
  have hNA := hNA.fr f_51 (by first | decide | (simp only [List.mem_cons, List.not_mem_nil, or_false]; omega))
  have hK := hK.fr f_51 (by first | decide | (simp only [List.mem_cons, List.not_mem_nil, or_false]; omega))
  have hs1 := hs1.fr f_51 (by first | decide | (simp only [List.mem_cons, List.not_mem_nil, or_false]; omega))
  have hs2 := hs2.fr f_51 (by first | decide | (simp only [List.mem_cons, List.not_mem_nil, or_false]; omega))
  have hs3 := hs3.fr f_51 (by first | decide | (simp only [List.mem_cons, List.not_mem_nil, or_false]; omega))
  have hF := hF.tr f_51 (by simp)
  refine wp_vretv (atd dX4_keep 30 rfl) rfl ?_
  refine ⟨hF, hO, fun i hi => ?_⟩
  by_cases e : i = nx
  · subst e; simp only [va_up, if_true]; exact ⟨hs1, hs2, hs3⟩
  · simp only [va_up, if_neg e]; exact ⟨(hS i hi).1.fr hF (by simp only [List.mem_cons, List.not_mem_nil, or_false]; omega), (hS i hi).2.1.fr hF (by simp only [List.mem_cons, List.not_mem_nil, or_false]; omega), (hS i hi).2.2.fr hF (by simp only [List.mem_cons, List.not_mem_nil, or_false]; omega)⟩
theorem eX4_takeBack {G : Gx} {d : Nat} {σ : Hp} (hd : 1 ≤ d) {k kp nx : Nat} {N : Nat → Nat} {NB : Nat → Nat → Nat} {C : Nat → Nat → Int32} (hO : OB σ k 4 (paF k kp nx)) (hR : AR σ (k + 1) 3 12 (fun i => k + 3 + 3 * i)) (hR2 : AR σ (k + 2) 4 12 (fun i => k + 3 + 3 * i + 2)) (hS : PaS σ k N NB C) (hkp : kp ≤ 12) (hnx : nx < 12) {kn ks n : Nat} {nb : Nat → Nat} {c : Nat → Int32} (hN : OB σ kn 3 [.int (nI n), .ref (kn + 1)]) (hNA : AI σ (kn + 1) 9 nb) (hK : OB σ ks 6 (scF c)) (ap1 : kn + 1 < k ∨ k + 38 < kn) (ap2 : ks < k ∨ k + 38 < ks) (ap3 : ks ≠ kn ∧ ks ≠ kn + 1) (hzC : ∀ i, i < 12 → scZ (C i)) : Cl G mX4_takeBack d [.ref k, .ref kn, .ref ks] σ 0 0 (pI fun r s => (kp = 0 ∧ r = nI 0 ∧ s = σ) ∨ (0 < kp ∧ r = nI 1 ∧ fr [k, kn, kn + 1, ks] σ s ∧ OB s k 4 (paF k (kp - 1) ((nx + 12 - 1) % 12)) ∧ OB s kn 3 [.int (nI (N ((nx + 12 - 1) % 12))), .ref (kn + 1)] ∧ AI s (kn + 1) 9 (NB ((nx + 12 - 1) % 12)) ∧ OB s ks 6 (scF (C ((nx + 12 - 1) % 12))))) := by
  obtain ⟨d0, hdd⟩ : ∃ e, d = e + 1 := ⟨d - 1, by omega⟩
  refine cl_of (by decide) (by simp [Value.category]) (Nat.le_of_ble_eq_true rfl) ?_
  show Wp G mX4_takeBack d 0 [.ref k, .ref kn, .ref ks] [] σ 0 0 _
  have hF : fr [k, kn, kn + 1, ks] σ σ := fr.rf
  have hj : (nx + 12 - 1) % 12 < 12 := Nat.mod_lt _ (by decide)
  obtain ⟨hs1, hs2, hs3⟩ := hS _ hj
  refine wp_aload_n (atd dX4_takeBack 0 rfl) rfl rfl ?_
  refine wp_get fX4_23 (atd dX4_takeBack 1 rfl) hO rfl ?_
  refine wp_ifN_ne (tgt := 9) (atd dX4_takeBack 2 rfl) (by decide) (by omega) (fun c_4 => ?_) (fun c_4 => ?_)
  ·
    refine wp_aload_n (atd dX4_takeBack 5 rfl) rfl rfl ?_
    refine wp_aload_n (atd dX4_takeBack 6 rfl) rfl rfl ?_
    refine wp_get fX4_27 (atd dX4_takeBack 7 rfl) hO rfl ?_
    refine wp_bipush (v := nI 12) (atd dX4_takeBack 8 rfl) (by decide) ?_
    refine wp_iaddN (atd dX4_takeBack 9 rfl) ?_
    refine wp_iconst (v := nI 1) (atd dX4_takeBack 10 rfl) (by decide) ?_
    refine wp_isubN (atd dX4_takeBack 11 rfl) (by omega) ?_
    refine wp_bipush (v := nI 12) (atd dX4_takeBack 12 rfl) (by decide) ?_
    refine wp_iremN (atd dX4_takeBack 13 rfl) (by omega) (by omega) (by omega) ?_
    refine wp_putX fX4_27 (atd dX4_takeBack 14 rfl) hO rfl (Nat.le_of_ble_eq_true rfl) (fun σ f_22 hO => ?_)
    have hR := hR.fr f_22 (by first | decide | (simp only [List.mem_cons, List.not_mem_nil, or_false]; omega))
    have hR2 := hR2.fr f_22 (by first | decide | (simp only [List.mem_cons, List.not_mem_nil, or_false]; omega))
    have hN := hN.fr f_22 (by first | decide | (simp only [List.mem_cons, List.not_mem_nil, or_false]; omega))
    have hNA := hNA.fr f_22 (by first | decide | (simp only [List.mem_cons, List.not_mem_nil, or_false]; omega))
    have hK := hK.fr f_22 (by first | decide | (simp only [List.mem_cons, List.not_mem_nil, or_false]; omega))
    have hs1 := hs1.fr f_22 (by first | decide | (simp only [List.mem_cons, List.not_mem_nil, or_false]; omega))
    have hs2 := hs2.fr f_22 (by first | decide | (simp only [List.mem_cons, List.not_mem_nil, or_false]; omega))
    have hs3 := hs3.fr f_22 (by first | decide | (simp only [List.mem_cons, List.not_mem_nil, or_false]; omega))
    have hF := hF.tr f_22 (by simp)
    refine wp_aload_n (atd dX4_takeBack 15 rfl) rfl rfl ?_
    refine wp_dup (atd dX4_takeBack 16 rfl) rfl ?_
    refine wp_get fX4_23 (atd dX4_takeBack 17 rfl) hO rfl ?_
    refine wp_iconst (v := nI 1) (atd dX4_takeBack 18 rfl) (by decide) ?_
    refine wp_isubN (atd dX4_takeBack 19 rfl) (by omega) ?_
    refine wp_putX fX4_23 (atd dX4_takeBack 20 rfl) hO rfl (Nat.le_of_ble_eq_true rfl) (fun σ f_32 hO => ?_)
    have hR := hR.fr f_32 (by first | decide | (simp only [List.mem_cons, List.not_mem_nil, or_false]; omega))
    have hR2 := hR2.fr f_32 (by first | decide | (simp only [List.mem_cons, List.not_mem_nil, or_false]; omega))
    have hN := hN.fr f_32 (by first | decide | (simp only [List.mem_cons, List.not_mem_nil, or_false]; omega))
    have hNA := hNA.fr f_32 (by first | decide | (simp only [List.mem_cons, List.not_mem_nil, or_false]; omega))
    have hK := hK.fr f_32 (by first | decide | (simp only [List.mem_cons, List.not_mem_nil, or_false]; omega))
    have hs1 := hs1.fr f_32 (by first | decide | (simp only [List.mem_cons, List.not_mem_nil, or_false]; omega))
    have hs2 := hs2.fr f_32 (by first | decide | (simp only [List.mem_cons, List.not_mem_nil, or_false]; omega))
    have hs3 := hs3.fr f_32 (by first | decide | (simp only [List.mem_cons, List.not_mem_nil, or_false]; omega))
    have hF := hF.tr f_32 (by simp)
    refine wp_aload_n (atd dX4_takeBack 21 rfl) rfl rfl ?_
    refine wp_aload_n (atd dX4_takeBack 22 rfl) rfl rfl ?_
    refine wp_get fX4_11 (atd dX4_takeBack 23 rfl) hO rfl ?_
    refine wp_aload_n (atd dX4_takeBack 24 rfl) rfl rfl ?_
    refine wp_get fX4_27 (atd dX4_takeBack 25 rfl) hO rfl ?_
    refine wp_aaldR (atd dX4_takeBack 26 rfl) hR (by decide) rfl (by omega) (Nat.le_of_ble_eq_true rfl) ?_
    show Wp _ _ _ _ _ (.ref (k + 3 + 3 * ((nx + 12 - 1) % 12)) :: _) _ _ _ _
    refine wp_cVv hdd [_] (atd dX4_takeBack 27 rfl) iX3_copyFrom lX4_30 rfl rfl (Nat.le_of_ble_eq_true rfl) hN rfl (eX3_copyFrom (by omega) hN hNA hs1 hs2 (by omega)) (fun s_45 h_45 => ?_)
    obtain ⟨f_45, hN, hNA⟩ := h_45
    have hO := hO.fr f_45 (by first | decide | (simp only [List.mem_cons, List.not_mem_nil, or_false]; omega))
    have hR := hR.fr f_45 (by first | decide | (simp only [List.mem_cons, List.not_mem_nil, or_false]; omega))
    have hR2 := hR2.fr f_45 (by first | decide | (simp only [List.mem_cons, List.not_mem_nil, or_false]; omega))
    have hK := hK.fr f_45 (by first | decide | (simp only [List.mem_cons, List.not_mem_nil, or_false]; omega))
    have hs1 := hs1.fr f_45 (by first | decide | (simp only [List.mem_cons, List.not_mem_nil, or_false]; omega))
    have hs2 := hs2.fr f_45 (by first | decide | (simp only [List.mem_cons, List.not_mem_nil, or_false]; omega))
    have hs3 := hs3.fr f_45 (by first | decide | (simp only [List.mem_cons, List.not_mem_nil, or_false]; omega))
    have hF := hF.tr f_45 (by simp)
    refine wp_aload_n (atd dX4_takeBack 28 rfl) rfl rfl ?_
    refine wp_aload_n (atd dX4_takeBack 29 rfl) rfl rfl ?_
    refine wp_get fX4_17 (atd dX4_takeBack 30 rfl) hO rfl ?_
    refine wp_aload_n (atd dX4_takeBack 31 rfl) rfl rfl ?_
    refine wp_get fX4_27 (atd dX4_takeBack 32 rfl) hO rfl ?_
    refine wp_aaldR (atd dX4_takeBack 33 rfl) hR2 (by decide) rfl (by omega) (Nat.le_of_ble_eq_true rfl) ?_
    show Wp _ _ _ _ _ (.ref (k + 3 + 3 * ((nx + 12 - 1) % 12) + 2) :: _) _ _ _ _
    refine wp_cVv hdd [_] (atd dX4_takeBack 34 rfl) iX6_copyFrom lX4_34 rfl rfl (Nat.le_of_ble_eq_true rfl) hK rfl (eX6_copyFrom (by omega) hK hs3 (hzC _ hj) (by omega)) (fun s_58 h_58 => ?_)
    obtain ⟨f_58, hK⟩ := h_58
    have hO := hO.fr f_58 (by first | decide | (simp only [List.mem_cons, List.not_mem_nil, or_false]; omega))
    have hR := hR.fr f_58 (by first | decide | (simp only [List.mem_cons, List.not_mem_nil, or_false]; omega))
    have hR2 := hR2.fr f_58 (by first | decide | (simp only [List.mem_cons, List.not_mem_nil, or_false]; omega))
    have hN := hN.fr f_58 (by first | decide | (simp only [List.mem_cons, List.not_mem_nil, or_false]; omega))
    have hNA := hNA.fr f_58 (by first | decide | (simp only [List.mem_cons, List.not_mem_nil, or_false]; omega))
    have hs1 := hs1.fr f_58 (by first | decide | (simp only [List.mem_cons, List.not_mem_nil, or_false]; omega))
    have hs2 := hs2.fr f_58 (by first | decide | (simp only [List.mem_cons, List.not_mem_nil, or_false]; omega))
    have hs3 := hs3.fr f_58 (by first | decide | (simp only [List.mem_cons, List.not_mem_nil, or_false]; omega))
    have hF := hF.tr f_58 (by simp)
    refine wp_iconst (v := nI 1) (atd dX4_takeBack 35 rfl) (by decide) ?_
    refine wp_iretz (atd dX4_takeBack 36 rfl) rfl (by first | rfl | decide) ?_
    exact Or.inr ⟨c_4, rfl, hF, hO, hN, hNA, hK⟩
  ·
    refine wp_iconst (v := nI 0) (atd dX4_takeBack 3 rfl) (by decide) ?_
    refine wp_iretz (atd dX4_takeBack 4 rfl) rfl (by first | rfl | decide) ?_
    exact Or.inl ⟨c_4, rfl, rfl⟩
theorem lX0_cornerBy {G : Gx} {d : Nat} {σ : Hp} (hd : 1 ≤ d) {kn n p a : Nat} {nb : Nat → Nat} {v : Option Nat} (hN : OB σ kn 3 [.int (nI n), .ref (kn + 1)]) (hNA : AI σ (kn + 1) 9 nb) (hn : n ≤ 9) (hw : ∀ p, nb p < 512) (hp : p < 9) (ha : a < 512) : ∀ (t : Nat) (i : Nat), i + t = n → crn nb n p a t i = v → Wp G mX0_cornerBy d 11 [.ref kn, .int (nI a), .int (nI p), .int (nI (nb p &&& a)), .int (nI i)] [] σ 0 0 (pI fun r s => r = oI v ∧ s = σ) := by
  obtain ⟨d0, hdd⟩ : ∃ e, d = e + 1 := ⟨d - 1, by omega⟩
  intro t
  induction t with
  | zero =>
    intro i h hv
    refine wp_iload (atd dX0_cornerBy 8 rfl) rfl ?_
    refine wp_aload_n (atd dX0_cornerBy 9 rfl) rfl rfl ?_
    refine wp_get fX0_39 (atd dX0_cornerBy 10 rfl) hN rfl ?_
    refine wp_icmpN_ge (tgt := 58) (atd dX0_cornerBy 11 rfl) (by decide) (by omega) (by omega) (fun c_17 => ?_) (fun c_17 => ?_)
    ·
      refine wp_iconst (v := -1) (atd dX0_cornerBy 34 rfl) (by decide) ?_
      refine wp_ireti (atd dX0_cornerBy 35 rfl) rfl ?_
      exact ⟨by rw [← hv]; rfl, rfl⟩
    · exfalso; omega
  | succ t ih =>
    intro i h hv
    refine wp_iload (atd dX0_cornerBy 8 rfl) rfl ?_
    refine wp_aload_n (atd dX0_cornerBy 9 rfl) rfl rfl ?_
    refine wp_get fX0_39 (atd dX0_cornerBy 10 rfl) hN rfl ?_
    refine wp_icmpN_ge (tgt := 58) (atd dX0_cornerBy 11 rfl) (by decide) (by omega) (by omega) (fun c_17 => ?_) (fun c_17 => ?_)
    · exfalso; omega
    ·
      refine wp_iload (atd dX0_cornerBy 12 rfl) rfl ?_
      refine wp_iload_n (atd dX0_cornerBy 13 rfl) rfl ?_
      refine wp_icmpN_eq (tgt := 52) (atd dX0_cornerBy 14 rfl) (by decide) (by omega) (by omega) (fun c_23 => ?_) (fun c_23 => ?_)
      ·
        refine wp_iincN (c := 1) (atd dX0_cornerBy 32 rfl) rfl ?_
        refine wp_goto (tgt := 11) (atd dX0_cornerBy 33 rfl) (by decide) ?_
        exact ih (i + 1) (by omega) (by rw [← hv]; show _ = crn nb n p a (t + 1) i; rw [show crn nb n p a (t + 1) i = if i ≠ p ∧ a.testBit i = true ∧ dif (nb p &&& a) (nb i) = 0 then some i else crn nb n p a t (i + 1) from rfl]; rw [if_neg (fun h => h.1 c_23)])
      ·
        refine wp_iload_n (atd dX0_cornerBy 15 rfl) rfl ?_
        refine wp_iload (atd dX0_cornerBy 16 rfl) rfl ?_
        refine wp_ishrN (atd dX0_cornerBy 17 rfl) (by omega) (by omega) ?_
        refine wp_iconst (v := nI 1) (atd dX0_cornerBy 18 rfl) (by decide) ?_
        refine wp_iandN (atd dX0_cornerBy 19 rfl) ?_
        refine wp_iconst (v := nI 1) (atd dX0_cornerBy 20 rfl) (by decide) ?_
        refine wp_icmpN_ne (tgt := 52) (atd dX0_cornerBy 21 rfl) (by decide) (by have := and1_lt (a >>> i); omega) (by omega) (fun c_33 => ?_) (fun c_33 => ?_)
        ·
          refine wp_iincN (c := 1) (atd dX0_cornerBy 32 rfl) rfl ?_
          refine wp_goto (tgt := 11) (atd dX0_cornerBy 33 rfl) (by decide) ?_
          exact ih (i + 1) (by omega) (by rw [← hv]; show _ = crn nb n p a (t + 1) i; rw [show crn nb n p a (t + 1) i = if i ≠ p ∧ a.testBit i = true ∧ dif (nb p &&& a) (nb i) = 0 then some i else crn nb n p a t (i + 1) from rfl]; rw [if_neg (fun h => c_33 ((tb_iff _ _).mpr h.2.1))])
        ·
          refine wp_iload_n (atd dX0_cornerBy 22 rfl) rfl ?_
          refine wp_aload_n (atd dX0_cornerBy 23 rfl) rfl rfl ?_
          refine wp_iload (atd dX0_cornerBy 24 rfl) rfl ?_
          refine wp_cVi hdd [_] (atd dX0_cornerBy 25 rfl) iX3_around lX0_46 rfl rfl (Nat.le_of_ble_eq_true rfl) hN rfl (eX3_around (by omega) hN hNA hn hw (by omega)) (fun r_40 s_40 h_40 => ?_)
          obtain ⟨rfl, e_40⟩ := h_40
          obtain rfl := e_40.symm
          refine wp_iconst (v := -1) (atd dX0_cornerBy 26 rfl) (by decide) ?_
          refine wp_ixor (atd dX0_cornerBy 27 rfl) ?_
          refine wp_iandC (atd dX0_cornerBy 28 rfl) ?_
          refine wp_ifN_ne (tgt := 52) (atd dX0_cornerBy 29 rfl) (by decide) (by have := dif_lt9 (b := nb i) (and_lt9 (b := a) (hw p)); omega) (fun c_46 => ?_) (fun c_46 => ?_)
          ·
            refine wp_iincN (c := 1) (atd dX0_cornerBy 32 rfl) rfl ?_
            refine wp_goto (tgt := 11) (atd dX0_cornerBy 33 rfl) (by decide) ?_
            exact ih (i + 1) (by omega) (by rw [← hv]; show _ = crn nb n p a (t + 1) i; rw [show crn nb n p a (t + 1) i = if i ≠ p ∧ a.testBit i = true ∧ dif (nb p &&& a) (nb i) = 0 then some i else crn nb n p a t (i + 1) from rfl]; rw [if_neg (fun h => (by omega : ¬ dif (nb p &&& a) (nb i) = 0) h.2.2)])
          ·
            refine wp_iload (atd dX0_cornerBy 30 rfl) rfl ?_
            refine wp_ireti (atd dX0_cornerBy 31 rfl) rfl ?_
            exact ⟨by rw [← hv]; rw [show crn nb n p a (t + 1) i = if i ≠ p ∧ a.testBit i = true ∧ dif (nb p &&& a) (nb i) = 0 then some i else crn nb n p a t (i + 1) from rfl]; rw [if_pos ⟨c_23, (tb_iff _ _).mp c_33, c_46⟩]; rfl, rfl⟩
theorem eX0_cornerBy {G : Gx} {d : Nat} {σ : Hp} (hd : 1 ≤ d) {kn n p a : Nat} {nb : Nat → Nat} (hN : OB σ kn 3 [.int (nI n), .ref (kn + 1)]) (hNA : AI σ (kn + 1) 9 nb) (hn : n ≤ 9) (hw : ∀ p, nb p < 512) (hp : p < 9) (ha : a < 512) : Cl G mX0_cornerBy d [.ref kn, .int (nI a), .int (nI p)] σ 0 0 (pI fun r s => r = oI (crn nb n p a n 0) ∧ s = σ) := by
  obtain ⟨d0, hdd⟩ : ∃ e, d = e + 1 := ⟨d - 1, by omega⟩
  refine cl_of (by decide) (by simp [Value.category]) (Nat.le_of_ble_eq_true rfl) ?_
  show Wp G mX0_cornerBy d 0 [.ref kn, .int (nI a), .int (nI p), .double 0, .double 0] [] σ 0 0 _
  refine wp_aload_n (atd dX0_cornerBy 0 rfl) rfl rfl ?_
  refine wp_iload_n (atd dX0_cornerBy 1 rfl) rfl ?_
  refine wp_cVi hdd [_] (atd dX0_cornerBy 2 rfl) iX3_around lX0_46 rfl rfl (Nat.le_of_ble_eq_true rfl) hN rfl (eX3_around (by omega) hN hNA hn hw (by omega)) (fun r_2 s_2 h_2 => ?_)
  obtain ⟨rfl, e_2⟩ := h_2
  obtain rfl := e_2.symm
  refine wp_iload_n (atd dX0_cornerBy 3 rfl) rfl ?_
  refine wp_iandN (atd dX0_cornerBy 4 rfl) ?_
  refine wp_istore_n (atd dX0_cornerBy 5 rfl) (Nat.le_of_ble_eq_true rfl) ?_
  refine wp_iconst (v := nI 0) (atd dX0_cornerBy 6 rfl) (by decide) ?_
  refine wp_istore (atd dX0_cornerBy 7 rfl) (Nat.le_of_ble_eq_true rfl) ?_
  exact lX0_cornerBy (by omega) hN hNA hn hw hp ha n 0 (by omega) rfl
/-- one corner is taken away -/
def dS (D : DisT) (v : Option (Nat × Nat)) : DisT := match v with
  | none => D
  | some (p, q) => (dif D.1 (2 ^ p), D.2.1 + 1, va_up D.2.2.1 D.2.1 p, va_up D.2.2.2 p q)
def itS (nb : Nat → Nat) (n : Nat) : Nat → DisT → DisT
  | 0, D => D
  | k + 1, D => itS nb n k (dS D (lcr nb n D.1 n 0))
theorem itS_dis (nb : Nat → Nat) (n : Nat) : ∀ (k : Nat) (D : DisT), itS nb n k D = dis nb n k D
  | 0, _ => rfl
  | k + 1, D => by
    rw [itS, itS_dis nb n k]
    cases h : lcr nb n D.1 n 0 with
    | some v => rw [show dis nb n (k + 1) D = match lcr nb n D.1 n 0 with | none => D | some (p, q) => dis nb n k (dif D.1 (2 ^ p), D.2.1 + 1, va_up D.2.2.1 D.2.1 p, va_up D.2.2.2 p q) from rfl, h]; rfl
    | none =>
      rw [show dis nb n (k + 1) D = match lcr nb n D.1 n 0 with | none => D | some (p, q) => dis nb n k (dif D.1 (2 ^ p), D.2.1 + 1, va_up D.2.2.1 D.2.1 p, va_up D.2.2.2 p q) from rfl, h]
      show dis nb n k D = D
      cases k with
      | zero => rfl
      | succ k => rw [show dis nb n (k + 1) D = match lcr nb n D.1 n 0 with | none => D | some (p, q) => dis nb n k (dif D.1 (2 ^ p), D.2.1 + 1, va_up D.2.2.1 D.2.1 p, va_up D.2.2.2 p q) from rfl, h]
theorem dis_st {nb : Nat → Nat} {n : Nat} (hn : n ≤ 9) : ∀ (k : Nat) (D : DisT), D.1 < 2 ^ n → cnt D.1 ≤ k → dis nb n (k + 1) D = dis nb n k D := by
  intro k
  induction k with
  | zero =>
    intro D hD hc
    have h9 := pow_le9 hn
    have h0 : D.1 = 0 := Classical.byContradiction fun h => by have := (cnt_pos_le D.1 (by omega)).1 h; omega
    rw [show dis nb n 1 D = match lcr nb n D.1 n 0 with | none => D | some (p, q) => dis nb n 0 (dif D.1 (2 ^ p), D.2.1 + 1, va_up D.2.2.1 D.2.1 p, va_up D.2.2.2 p q) from rfl]
    cases h : lcr nb n D.1 n 0 with
    | none => rfl
    | some v =>
      obtain ⟨p, q⟩ := v
      have := (lcr_spec h).2.2.1
      rw [h0, Nat.zero_testBit] at this
      cases this
  | succ k ih =>
    intro D hD hc
    have h9 := pow_le9 hn
    rw [show dis nb n (k + 1 + 1) D = match lcr nb n D.1 n 0 with | none => D | some (p, q) => dis nb n (k + 1) (dif D.1 (2 ^ p), D.2.1 + 1, va_up D.2.2.1 D.2.1 p, va_up D.2.2.2 p q) from rfl, show dis nb n (k + 1) D = match lcr nb n D.1 n 0 with | none => D | some (p, q) => dis nb n k (dif D.1 (2 ^ p), D.2.1 + 1, va_up D.2.2.1 D.2.1 p, va_up D.2.2.2 p q) from rfl]
    cases h : lcr nb n D.1 n 0 with
    | none => rfl
    | some v =>
      obtain ⟨p, q⟩ := v
      obtain ⟨-, h2, h3, -⟩ := lcr_spec h
      have := cnt_dif p (by omega) D.1 (by omega) h3
      exact ih _ (dif_lt2 hD) (by show cnt (dif D.1 (2 ^ p)) ≤ k; omega)
theorem dis0_9 (nb : Nat → Nat) {n : Nat} (hn : n ≤ 9) : itS nb n 9 (2 ^ n - 1, 0, fun _ => 0, fun _ => 0) = dis0 nb n := by
  rw [itS_dis, dis0]
  exact (dis_st hn 9 _ (by show 2 ^ n - 1 < 2 ^ n; have := pow_pos9 n; omega) (by show cnt (2 ^ n - 1) ≤ 9; exact cnt_le _)).symm
def diF (k : Nat) (z : Int32) (D : DisT) : List Value := [.int z, .int (nI D.1), .int (nI D.2.1), .ref (k + 1), .ref (k + 2)]
/-- the class holds a dismantling -/
def DC (σ : Hp) (k : Nat) (z : Int32) (n : Nat) (D : DisT) : Prop := ∃ t c, OB σ k 0 (diF k z D) ∧ AI σ (k + 1) 9 t ∧ AI σ (k + 2) 9 c ∧ (∀ i, i < D.2.1 → t i = D.2.2.1 i) ∧ ∀ p, p < n → D.1.testBit p = false → c p = D.2.2.2 p
theorem DC.fr {σ s : Hp} {S : List Nat} {k n : Nat} {z : Int32} {D : DisT} (h : DC σ k z n D) (f : fr S σ s) (hk : k ∉ S ∧ k + 1 ∉ S ∧ k + 2 ∉ S) : DC s k z n D := by
  obtain ⟨t, c, h1, h2, h3, h4⟩ := h
  exact ⟨t, c, h1.fr f hk.1, h2.fr f hk.2.1, h3.fr f hk.2.2, h4⟩
theorem lX0_takeLeastCorner {G : Gx} {d : Nat} {σ : Hp} (hd : 2 ≤ d) {kn n k : Nat} {nb : Nat → Nat} {z : Int32} {D : DisT} {t c : Nat → Nat} (hN : OB σ kn 3 [.int (nI n), .ref (kn + 1)]) (hNA : AI σ (kn + 1) 9 nb) (hn : n ≤ 9) (hw : ∀ p, nb p < 512) (hO : OB σ k 0 (diF k z D)) (hT : AI σ (k + 1) 9 t) (hC : AI σ (k + 2) 9 c) (ht : ∀ i, i < D.2.1 → t i = D.2.2.1 i) (hc : ∀ p, p < n → D.1.testBit p = false → c p = D.2.2.2 p) (hD : D.1 < 512) (hg : D.2.1 < 9) (hap : kn + 1 < k ∨ k + 2 < kn) (hF : fr [k, k + 1, k + 2] σ σ) {v : Option (Nat × Nat)} : ∀ (x : Nat) (p : Nat) (y : Value), p + x = n → lcr nb n D.1 x p = v → Wp G mX0_takeLeastCorner d 2 [.ref k, .ref kn, .int (nI p), y] [] σ 0 0 (pV fun s => fr [k, k + 1, k + 2] σ s ∧ DC s k z n (dS D v)) := by
  obtain ⟨d0, hdd⟩ : ∃ e, d = e + 1 := ⟨d - 1, by omega⟩
  intro x
  induction x with
  | zero =>
    intro p y h hv
    refine wp_iload_n (atd dX0_takeLeastCorner 2 rfl) rfl ?_
    refine wp_aload_n (atd dX0_takeLeastCorner 3 rfl) rfl rfl ?_
    refine wp_get fX0_39 (atd dX0_takeLeastCorner 4 rfl) hN rfl ?_
    refine wp_icmpN_ge (tgt := 104) (atd dX0_takeLeastCorner 5 rfl) (by decide) (by omega) (by omega) (fun c_7 => ?_) (fun c_7 => ?_)
    ·
      refine wp_vretv (atd dX0_takeLeastCorner 62 rfl) rfl ?_
      exact ⟨hF, by rw [← hv]; exact ⟨t, c, hO, hT, hC, ht, hc⟩⟩
    · exfalso; omega
  | succ x ih =>
    intro p y h hv
    refine wp_iload_n (atd dX0_takeLeastCorner 2 rfl) rfl ?_
    refine wp_aload_n (atd dX0_takeLeastCorner 3 rfl) rfl rfl ?_
    refine wp_get fX0_39 (atd dX0_takeLeastCorner 4 rfl) hN rfl ?_
    refine wp_icmpN_ge (tgt := 104) (atd dX0_takeLeastCorner 5 rfl) (by decide) (by omega) (by omega) (fun c_7 => ?_) (fun c_7 => ?_)
    · exfalso; omega
    ·
      refine wp_iload_n (atd dX0_takeLeastCorner 6 rfl) rfl ?_
      refine wp_bipush (v := nI 9) (atd dX0_takeLeastCorner 7 rfl) (by decide) ?_
      refine wp_icmpN_ge (tgt := 104) (atd dX0_takeLeastCorner 8 rfl) (by decide) (by omega) (by omega) (fun c_13 => ?_) (fun c_13 => ?_)
      · exfalso; omega
      ·
        refine wp_aload_n (atd dX0_takeLeastCorner 9 rfl) rfl rfl ?_
        refine wp_get fX0_28 (atd dX0_takeLeastCorner 10 rfl) hO rfl ?_
        refine wp_iload_n (atd dX0_takeLeastCorner 11 rfl) rfl ?_
        refine wp_ishrN (atd dX0_takeLeastCorner 12 rfl) (by omega) (by omega) ?_
        refine wp_iconst (v := nI 1) (atd dX0_takeLeastCorner 13 rfl) (by decide) ?_
        refine wp_iandN (atd dX0_takeLeastCorner 14 rfl) ?_
        refine wp_iconst (v := nI 1) (atd dX0_takeLeastCorner 15 rfl) (by decide) ?_
        refine wp_icmpN_ne (tgt := 40) (atd dX0_takeLeastCorner 16 rfl) (by decide) (by have := and1_lt (D.1 >>> p); omega) (by omega) (fun c_25 => ?_) (fun c_25 => ?_)
        ·
          refine wp_iconst (v := -1) (atd dX0_takeLeastCorner 23 rfl) (by decide) ?_
          refine wp_istore_n (atd dX0_takeLeastCorner 24 rfl) (Nat.le_of_ble_eq_true rfl) ?_
          refine wp_iload_n (atd dX0_takeLeastCorner 25 rfl) rfl ?_
          refine wp_iconst (v := -1) (atd dX0_takeLeastCorner 26 rfl) (by decide) ?_
          refine wp_icmp_eq (tgt := 98) (atd dX0_takeLeastCorner 27 rfl) (by decide) (fun c_44 => ?_) (fun c_44 => ?_)
          ·
            refine wp_iincN (c := 1) (atd dX0_takeLeastCorner 60 rfl) rfl ?_
            refine wp_goto (tgt := 2) (atd dX0_takeLeastCorner 61 rfl) (by decide) ?_
            exact ih (p + 1) _ (by omega) (by rw [← hv]; show _ = lcr nb n D.1 (x + 1) p; rw [show lcr nb n D.1 (x + 1) p = if D.1.testBit p = true then (match crn nb n p D.1 n 0 with | some q => some (p, q) | none => lcr nb n D.1 x (p + 1)) else lcr nb n D.1 x (p + 1) from rfl]; rw [if_neg (fun h => c_25 ((tb_iff _ _).mpr h))])
          · exact absurd rfl c_44
        ·
          refine wp_aload_n (atd dX0_takeLeastCorner 17 rfl) rfl rfl ?_
          refine wp_aload_n (atd dX0_takeLeastCorner 18 rfl) rfl rfl ?_
          refine wp_get fX0_28 (atd dX0_takeLeastCorner 19 rfl) hO rfl ?_
          refine wp_iload_n (atd dX0_takeLeastCorner 20 rfl) rfl ?_
          refine wp_cSi hdd [_, _, _] (atd dX0_takeLeastCorner 21 rfl) iX0_cornerBy lX0_42 rfl rfl (Nat.le_of_ble_eq_true rfl) (eX0_cornerBy (by omega) hN hNA hn hw (by omega) hD) (fun r_34 s_34 h_34 => ?_)
          obtain ⟨rfl, e_34⟩ := h_34
          obtain rfl := e_34.symm
          rcases hcr : crn nb n p D.1 n 0 with _ | q
          ·
            rw [show oI none = -1 from rfl]
            refine wp_goto (tgt := 41) (atd dX0_takeLeastCorner 22 rfl) (by decide) ?_
            refine wp_istore_n (atd dX0_takeLeastCorner 24 rfl) (Nat.le_of_ble_eq_true rfl) ?_
            refine wp_iload_n (atd dX0_takeLeastCorner 25 rfl) rfl ?_
            refine wp_iconst (v := -1) (atd dX0_takeLeastCorner 26 rfl) (by decide) ?_
            refine wp_icmp_eq (tgt := 98) (atd dX0_takeLeastCorner 27 rfl) (by decide) (fun c_44 => ?_) (fun c_44 => ?_)
            ·
              refine wp_iincN (c := 1) (atd dX0_takeLeastCorner 60 rfl) rfl ?_
              refine wp_goto (tgt := 2) (atd dX0_takeLeastCorner 61 rfl) (by decide) ?_
              exact ih (p + 1) _ (by omega) (by rw [← hv]; show _ = lcr nb n D.1 (x + 1) p; rw [show lcr nb n D.1 (x + 1) p = if D.1.testBit p = true then (match crn nb n p D.1 n 0 with | some q => some (p, q) | none => lcr nb n D.1 x (p + 1)) else lcr nb n D.1 x (p + 1) from rfl]; rw [if_pos ((tb_iff _ _).mp c_25), hcr])
            · exact absurd rfl c_44
          ·
            rw [show oI (some q) = nI q from rfl]
            have hq := (crn_lt hcr).1
            refine wp_goto (tgt := 41) (atd dX0_takeLeastCorner 22 rfl) (by decide) ?_
            refine wp_istore_n (atd dX0_takeLeastCorner 24 rfl) (Nat.le_of_ble_eq_true rfl) ?_
            refine wp_iload_n (atd dX0_takeLeastCorner 25 rfl) rfl ?_
            refine wp_iconst (v := -1) (atd dX0_takeLeastCorner 26 rfl) (by decide) ?_
            refine wp_icmp_eq (tgt := 98) (atd dX0_takeLeastCorner 27 rfl) (by decide) (fun c_44 => ?_) (fun c_44 => ?_)
            · exact absurd c_44 (nI_m1 (by omega))
            ·
              refine wp_aload_n (atd dX0_takeLeastCorner 28 rfl) rfl rfl ?_
              refine wp_get fX0_32 (atd dX0_takeLeastCorner 29 rfl) hO rfl ?_
              refine wp_bipush (v := nI 9) (atd dX0_takeLeastCorner 30 rfl) (by decide) ?_
              refine wp_icmpN_ge (tgt := 98) (atd dX0_takeLeastCorner 31 rfl) (by decide) (by omega) (by omega) (fun c_53 => ?_) (fun c_53 => ?_)
              · exfalso; omega
              ·
                refine wp_aload_n (atd dX0_takeLeastCorner 32 rfl) rfl rfl ?_
                refine wp_get fX0_9 (atd dX0_takeLeastCorner 33 rfl) hO rfl ?_
                refine wp_aload_n (atd dX0_takeLeastCorner 34 rfl) rfl rfl ?_
                refine wp_get fX0_32 (atd dX0_takeLeastCorner 35 rfl) hO rfl ?_
                refine wp_iload_n (atd dX0_takeLeastCorner 36 rfl) rfl ?_
                refine wp_iastA (atd dX0_takeLeastCorner 37 rfl) hT (by omega) (Nat.le_of_ble_eq_true rfl) (fun σ f_65 hT => ?_)
                have hN := hN.fr f_65 (by first | decide | (simp only [List.mem_cons, List.not_mem_nil, or_false]; omega))
                have hNA := hNA.fr f_65 (by first | decide | (simp only [List.mem_cons, List.not_mem_nil, or_false]; omega))
                have hO := hO.fr f_65 (by first | decide | (simp only [List.mem_cons, List.not_mem_nil, or_false]; omega))
                have hC := hC.fr f_65 (by first | decide | (simp only [List.mem_cons, List.not_mem_nil, or_false]; omega))
                have hF := hF.tr f_65 (by simp)
                refine wp_aload_n (atd dX0_takeLeastCorner 38 rfl) rfl rfl ?_
                refine wp_dup (atd dX0_takeLeastCorner 39 rfl) rfl ?_
                refine wp_get fX0_32 (atd dX0_takeLeastCorner 40 rfl) hO rfl ?_
                refine wp_iconst (v := nI 1) (atd dX0_takeLeastCorner 41 rfl) (by decide) ?_
                refine wp_iaddN (atd dX0_takeLeastCorner 42 rfl) ?_
                refine wp_putX fX0_32 (atd dX0_takeLeastCorner 43 rfl) hO rfl (Nat.le_of_ble_eq_true rfl) (fun σ f_73 hO => ?_)
                have hN := hN.fr f_73 (by first | decide | (simp only [List.mem_cons, List.not_mem_nil, or_false]; omega))
                have hNA := hNA.fr f_73 (by first | decide | (simp only [List.mem_cons, List.not_mem_nil, or_false]; omega))
                have hT := hT.fr f_73 (by first | decide | (simp only [List.mem_cons, List.not_mem_nil, or_false]; omega))
                have hC := hC.fr f_73 (by first | decide | (simp only [List.mem_cons, List.not_mem_nil, or_false]; omega))
                have hF := hF.tr f_73 (by simp)
                refine wp_aload_n (atd dX0_takeLeastCorner 44 rfl) rfl rfl ?_
                refine wp_get fX0_15 (atd dX0_takeLeastCorner 45 rfl) hO rfl ?_
                refine wp_iload_n (atd dX0_takeLeastCorner 46 rfl) rfl ?_
                refine wp_iload_n (atd dX0_takeLeastCorner 47 rfl) rfl ?_
                refine wp_iastA (atd dX0_takeLeastCorner 48 rfl) hC (by omega) (Nat.le_of_ble_eq_true rfl) (fun σ f_82 hC => ?_)
                have hN := hN.fr f_82 (by first | decide | (simp only [List.mem_cons, List.not_mem_nil, or_false]; omega))
                have hNA := hNA.fr f_82 (by first | decide | (simp only [List.mem_cons, List.not_mem_nil, or_false]; omega))
                have hO := hO.fr f_82 (by first | decide | (simp only [List.mem_cons, List.not_mem_nil, or_false]; omega))
                have hT := hT.fr f_82 (by first | decide | (simp only [List.mem_cons, List.not_mem_nil, or_false]; omega))
                have hF := hF.tr f_82 (by simp)
                refine wp_aload_n (atd dX0_takeLeastCorner 49 rfl) rfl rfl ?_
                refine wp_dup (atd dX0_takeLeastCorner 50 rfl) rfl ?_
                refine wp_get fX0_28 (atd dX0_takeLeastCorner 51 rfl) hO rfl ?_
                refine wp_iconst (v := nI 1) (atd dX0_takeLeastCorner 52 rfl) (by decide) ?_
                refine wp_iload_n (atd dX0_takeLeastCorner 53 rfl) rfl ?_
                refine wp_ishl1 (atd dX0_takeLeastCorner 54 rfl) (by omega) ?_
                refine wp_iconst (v := -1) (atd dX0_takeLeastCorner 55 rfl) (by decide) ?_
                refine wp_ixor (atd dX0_takeLeastCorner 56 rfl) ?_
                refine wp_iandC (atd dX0_takeLeastCorner 57 rfl) ?_
                refine wp_putX fX0_28 (atd dX0_takeLeastCorner 58 rfl) hO rfl (Nat.le_of_ble_eq_true rfl) (fun σ f_94 hO => ?_)
                have hN := hN.fr f_94 (by first | decide | (simp only [List.mem_cons, List.not_mem_nil, or_false]; omega))
                have hNA := hNA.fr f_94 (by first | decide | (simp only [List.mem_cons, List.not_mem_nil, or_false]; omega))
                have hT := hT.fr f_94 (by first | decide | (simp only [List.mem_cons, List.not_mem_nil, or_false]; omega))
                have hC := hC.fr f_94 (by first | decide | (simp only [List.mem_cons, List.not_mem_nil, or_false]; omega))
                have hF := hF.tr f_94 (by simp)
                refine wp_vretv (atd dX0_takeLeastCorner 59 rfl) rfl ?_
                refine ⟨hF, ?_⟩
                rw [← hv]
                rw [show lcr nb n D.1 (x + 1) p = if D.1.testBit p = true then (match crn nb n p D.1 n 0 with | some q => some (p, q) | none => lcr nb n D.1 x (p + 1)) else lcr nb n D.1 x (p + 1) from rfl, if_pos ((tb_iff _ _).mp c_25), hcr]
                refine ⟨_, _, hO, hT, hC, fun i hi => ?_, fun j hj hb => ?_⟩
                · show va_up t D.2.1 p i = va_up D.2.2.1 D.2.1 p i
                  by_cases e : i = D.2.1
                  · simp [va_up, e]
                  · simp only [va_up, if_neg e]; exact ht i (by have : i < D.2.1 + 1 := hi; omega)
                · show va_up c p q j = va_up D.2.2.2 p q j
                  by_cases e : j = p
                  · simp [va_up, e]
                  · simp only [va_up, if_neg e]; refine hc j hj ?_; have hb : (dif D.1 (2 ^ p)).testBit j = false := hb; rw [dif_bit, Nat.testBit_two_pow, decide_eq_false (fun z => e z.symm)] at hb; simpa using hb
theorem eX0_takeLeastCorner {G : Gx} {d : Nat} {σ : Hp} (hd : 2 ≤ d) {kn n k : Nat} {nb : Nat → Nat} {z : Int32} {D : DisT} (hN : OB σ kn 3 [.int (nI n), .ref (kn + 1)]) (hNA : AI σ (kn + 1) 9 nb) (hn : n ≤ 9) (hw : ∀ p, nb p < 512) (hDC : DC σ k z n D) (hD : D.1 < 512) (hg : D.2.1 < 9) (hap : kn + 1 < k ∨ k + 2 < kn) : Cl G mX0_takeLeastCorner d [.ref k, .ref kn] σ 0 0 (pV fun s => fr [k, k + 1, k + 2] σ s ∧ DC s k z n (dS D (lcr nb n D.1 n 0))) := by
  obtain ⟨d0, hdd⟩ : ∃ e, d = e + 1 := ⟨d - 1, by omega⟩
  refine cl_of (by decide) (by simp [Value.category]) (Nat.le_of_ble_eq_true rfl) ?_
  show Wp G mX0_takeLeastCorner d 0 [.ref k, .ref kn, .double 0, .double 0] [] σ 0 0 _
  refine wp_iconst (v := nI 0) (atd dX0_takeLeastCorner 0 rfl) (by decide) ?_
  refine wp_istore_n (atd dX0_takeLeastCorner 1 rfl) (Nat.le_of_ble_eq_true rfl) ?_
  obtain ⟨t, c, hO, hT, hC, ht, hc⟩ := hDC
  exact lX0_takeLeastCorner (by omega) hN hNA hn hw hO hT hC ht hc hD hg hap fr.rf n 0 _ (by omega) rfl
theorem dS_g (D : DisT) (v : Option (Nat × Nat)) : (dS D v).2.1 ≤ D.2.1 + 1 := by
  unfold dS
  split
  · omega
  · exact Nat.le_refl _
theorem dS_lt {D : DisT} (h : D.1 < 512) (v : Option (Nat × Nat)) : (dS D v).1 < 512 := by
  unfold dS
  split
  · exact h
  · exact dif_lt9 h
theorem DC.ob {σ : Hp} {k n : Nat} {z : Int32} {D : DisT} (h : DC σ k z n D) : OB σ k 0 (diF k z D) := by obtain ⟨t, c, h1, -⟩ := h; exact h1
theorem lX0_settle {G : Gx} {d : Nat} {σ0 : Hp} (hd : 3 ≤ d) {kn n k : Nat} {nb : Nat → Nat} {v : DisT} (hn : n ≤ 9) (hw : ∀ p, nb p < 512) (hap : kn + 1 < k ∨ k + 2 < kn) : ∀ (x : Nat) (i : Nat) (σ : Hp) (D : DisT), i + x = 9 → OB σ kn 3 [.int (nI n), .ref (kn + 1)] → AI σ (kn + 1) 9 nb → DC σ k (nI 0) n D → D.1 < 512 → D.2.1 ≤ i → fr [k, k + 1, k + 2] σ0 σ → itS nb n x D = v → Wp G mX0_settle d 23 [.ref k, .ref kn, .int (nI i)] [] σ 0 0 (pV fun s => fr [k, k + 1, k + 2] σ0 s ∧ DC s k (nI 1) n v) := by
  obtain ⟨d0, hdd⟩ : ∃ e, d = e + 1 := ⟨d - 1, by omega⟩
  intro x
  induction x with
  | zero =>
    intro i σ D h hN hNA hDC hD hg hF hv
    obtain ⟨t, c, hO, hT, hC, ht, hc⟩ := hDC
    refine wp_iload_n (atd dX0_settle 13 rfl) rfl ?_
    refine wp_bipush (v := nI 9) (atd dX0_settle 14 rfl) (by decide) ?_
    refine wp_icmpN_ge (tgt := 40) (atd dX0_settle 15 rfl) (by decide) (by omega) (by omega) (fun c_26 => ?_) (fun c_26 => ?_)
    ·
      refine wp_aload_n (atd dX0_settle 21 rfl) rfl rfl ?_
      refine wp_iconst (v := nI 1) (atd dX0_settle 22 rfl) (by decide) ?_
      refine wp_putX fX0_18 (atd dX0_settle 23 rfl) hO (by decide) (Nat.le_of_ble_eq_true rfl) (fun σ f_42 hO => ?_)
      have hN := hN.fr f_42 (by first | decide | (simp only [List.mem_cons, List.not_mem_nil, or_false]; omega))
      have hNA := hNA.fr f_42 (by first | decide | (simp only [List.mem_cons, List.not_mem_nil, or_false]; omega))
      have hT := hT.fr f_42 (by first | decide | (simp only [List.mem_cons, List.not_mem_nil, or_false]; omega))
      have hC := hC.fr f_42 (by first | decide | (simp only [List.mem_cons, List.not_mem_nil, or_false]; omega))
      have hF := hF.tr f_42 (by simp)
      refine wp_vretv (atd dX0_settle 24 rfl) rfl ?_
      exact ⟨hF, by rw [← hv]; exact ⟨t, c, hO, hT, hC, ht, hc⟩⟩
    · exfalso; omega
  | succ x ih =>
    intro i σ D h hN hNA hDC hD hg hF hv
    refine wp_iload_n (atd dX0_settle 13 rfl) rfl ?_
    refine wp_bipush (v := nI 9) (atd dX0_settle 14 rfl) (by decide) ?_
    refine wp_icmpN_ge (tgt := 40) (atd dX0_settle 15 rfl) (by decide) (by omega) (by omega) (fun c_26 => ?_) (fun c_26 => ?_)
    · exfalso; omega
    ·
      refine wp_aload_n (atd dX0_settle 16 rfl) rfl rfl ?_
      refine wp_aload_n (atd dX0_settle 17 rfl) rfl rfl ?_
      refine wp_cVv hdd [_] (atd dX0_settle 18 rfl) iX0_takeLeastCorner lX0_35 rfl rfl (Nat.le_of_ble_eq_true rfl) hDC.ob rfl (eX0_takeLeastCorner (by omega) hN hNA hn hw hDC hD (by omega) hap) (fun s_31 h_31 => ?_)
      obtain ⟨f_31, hDC⟩ := h_31
      have hN := hN.fr f_31 (by first | decide | (simp only [List.mem_cons, List.not_mem_nil, or_false]; omega))
      have hNA := hNA.fr f_31 (by first | decide | (simp only [List.mem_cons, List.not_mem_nil, or_false]; omega))
      have hF := hF.tr f_31 (by simp)
      refine wp_iincN (c := 1) (atd dX0_settle 19 rfl) rfl ?_
      refine wp_goto (tgt := 23) (atd dX0_settle 20 rfl) (by decide) ?_
      exact ih (i + 1) _ _ (by omega) hN hNA hDC (dS_lt hD _) (by have := dS_g D (lcr nb n D.1 n 0); omega) hF (by rw [← hv]; rfl)
theorem eX0_settle1 {G : Gx} {d : Nat} {σ : Hp} {kn n k : Nat} {D : DisT} (hDC : DC σ k (nI 1) n D) : Cl G mX0_settle d [.ref k, .ref kn] σ 0 0 (pV fun s => s = σ) := by
  refine cl_of (by decide) (by simp [Value.category]) (Nat.le_of_ble_eq_true rfl) ?_
  show Wp G mX0_settle d 0 [.ref k, .ref kn, .double 0] [] σ 0 0 _
  refine wp_aload_n (atd dX0_settle 0 rfl) rfl rfl ?_
  refine wp_get fX0_18 (atd dX0_settle 1 rfl) hDC.ob rfl ?_
  refine wp_ifN_eq (tgt := 8) (atd dX0_settle 2 rfl) (by decide) (by decide) (fun c => ?_) (fun c => ?_)
  · exact absurd c (by decide)
  · refine wp_vretv (atd dX0_settle 3 rfl) rfl ?_
    rfl
theorem eX0_settle0 {G : Gx} {d : Nat} {σ : Hp} (hd : 3 ≤ d) {kn n k : Nat} {nb : Nat → Nat} {D : DisT} {t c : Nat → Nat} (hN : OB σ kn 3 [.int (nI n), .ref (kn + 1)]) (hNA : AI σ (kn + 1) 9 nb) (hn : n ≤ 9) (hw : ∀ p, nb p < 512) (hO : OB σ k 0 (diF k (nI 0) D)) (hT : AI σ (k + 1) 9 t) (hC : AI σ (k + 2) 9 c) (hap : kn + 1 < k ∨ k + 2 < kn) : Cl G mX0_settle d [.ref k, .ref kn] σ 0 0 (pV fun s => fr [k, k + 1, k + 2] σ s ∧ DC s k (nI 1) n (dis0 nb n)) := by
  obtain ⟨d0, hdd⟩ : ∃ e, d = e + 1 := ⟨d - 1, by omega⟩
  refine cl_of (by decide) (by simp [Value.category]) (Nat.le_of_ble_eq_true rfl) ?_
  show Wp G mX0_settle d 0 [.ref k, .ref kn, .double 0] [] σ 0 0 _
  have hF : fr [k, k + 1, k + 2] σ σ := fr.rf
  refine wp_aload_n (atd dX0_settle 0 rfl) rfl rfl ?_
  refine wp_get fX0_18 (atd dX0_settle 1 rfl) hO rfl ?_
  refine wp_ifN_eq (tgt := 8) (atd dX0_settle 2 rfl) (by decide) (by omega) (fun c_4 => ?_) (fun c_4 => ?_)
  ·
    refine wp_aload_n (atd dX0_settle 4 rfl) rfl rfl ?_
    refine wp_aload_n (atd dX0_settle 5 rfl) rfl rfl ?_
    refine wp_cVi hdd [] (atd dX0_settle 6 rfl) iX3_all lX0_22 rfl rfl (Nat.le_of_ble_eq_true rfl) hN rfl (eX3_all (by omega) hN hn) (fun r_10 s_10 h_10 => ?_)
    obtain ⟨rfl, e_10⟩ := h_10
    obtain rfl := e_10.symm
    refine wp_putX fX0_28 (atd dX0_settle 7 rfl) hO rfl (Nat.le_of_ble_eq_true rfl) (fun σ f_13 hO => ?_)
    have hN := hN.fr f_13 (by first | decide | (simp only [List.mem_cons, List.not_mem_nil, or_false]; omega))
    have hNA := hNA.fr f_13 (by first | decide | (simp only [List.mem_cons, List.not_mem_nil, or_false]; omega))
    have hT := hT.fr f_13 (by first | decide | (simp only [List.mem_cons, List.not_mem_nil, or_false]; omega))
    have hC := hC.fr f_13 (by first | decide | (simp only [List.mem_cons, List.not_mem_nil, or_false]; omega))
    have hF := hF.tr f_13 (by simp)
    refine wp_aload_n (atd dX0_settle 8 rfl) rfl rfl ?_
    refine wp_iconst (v := nI 0) (atd dX0_settle 9 rfl) (by decide) ?_
    refine wp_putX fX0_32 (atd dX0_settle 10 rfl) hO rfl (Nat.le_of_ble_eq_true rfl) (fun σ f_18 hO => ?_)
    have hN := hN.fr f_18 (by first | decide | (simp only [List.mem_cons, List.not_mem_nil, or_false]; omega))
    have hNA := hNA.fr f_18 (by first | decide | (simp only [List.mem_cons, List.not_mem_nil, or_false]; omega))
    have hT := hT.fr f_18 (by first | decide | (simp only [List.mem_cons, List.not_mem_nil, or_false]; omega))
    have hC := hC.fr f_18 (by first | decide | (simp only [List.mem_cons, List.not_mem_nil, or_false]; omega))
    have hF := hF.tr f_18 (by simp)
    refine wp_iconst (v := nI 0) (atd dX0_settle 11 rfl) (by decide) ?_
    refine wp_istore_n (atd dX0_settle 12 rfl) (Nat.le_of_ble_eq_true rfl) ?_
    rw [← dis0_9 nb hn]
    exact lX0_settle (by omega) hn hw hap 9 0 _ (2 ^ n - 1, 0, fun _ => 0, fun _ => 0) (by omega) hN hNA ⟨t, c, hO, hT, hC, fun i hi => absurd hi (Nat.not_lt_zero i), fun p hp hb => by have hb : (2 ^ n - 1).testBit p = false := hb; rw [Nat.testBit_two_pow_sub_one, decide_eq_true hp] at hb; cases hb⟩ (by show 2 ^ n - 1 < 512; have := pow_le9 hn; omega) (by show 0 ≤ 0; omega) hF rfl
  · exact absurd c_4 (by decide)
theorem img_st {n : Nat} {D : DisT} (hW : DisW n D) (hV : DisV D) : ∀ (k p : Nat), p < n → (D.1.testBit p = true ∨ ∃ i, i < D.2.1 ∧ D.2.2.1 i = p ∧ D.2.1 ≤ i + k) → img D (k + 1) p = img D k p := by
  intro k
  induction k with
  | zero =>
    intro p hp h
    rcases h with h | ⟨i, h1, h2, h3⟩
    · exact if_pos h
    · omega
  | succ k ih =>
    intro p hp h
    by_cases hb : D.1.testBit p = true
    · rw [show img D (k + 1 + 1) p = p from if_pos hb, show img D (k + 1) p = p from if_pos hb]
    · rcases h with h | ⟨i, h1, h2, h3⟩
      · exact absurd h hb
      · rw [show img D (k + 1 + 1) p = img D (k + 1) (D.2.2.2 p) from if_neg hb, show img D (k + 1) p = img D k (D.2.2.2 p) from if_neg hb]
        obtain ⟨i2, w1, w2, w3, w4⟩ := hW p hp (by cases e : D.1.testBit p with | true => exact absurd e hb | false => rfl)
        have : i = i2 := hV.2 i i2 h1 w1 (h2.trans w2.symm)
        subst this
        refine ih _ w3 ?_
        rcases w4 with w4 | ⟨j, j1, j2, j3⟩
        · exact Or.inl w4
        · exact Or.inr ⟨j, j2, j3, by omega⟩
theorem img_9 {nb : Nat → Nat} {n : Nat} (hn : n ≤ 9) {p : Nat} (hp : p < n) : img (dis0 nb n) 9 p = img (dis0 nb n) 11 p := by
  have hW := dis0_W nb (n := n)
  have hV := dis0_V nb n
  have hg := (dis0_lt nb hn).2
  have h : ∀ k, 9 ≤ k → img (dis0 nb n) (k + 1) p = img (dis0 nb n) k p := fun k hk => img_st hW hV k p hp (by
    by_cases hb : (dis0 nb n).1.testBit p = true
    · exact Or.inl hb
    · obtain ⟨i, w1, w2, -⟩ := hW p hp (by cases e : (dis0 nb n).1.testBit p with | true => exact absurd e hb | false => rfl)
      exact Or.inr ⟨i, w1, w2, by omega⟩)
  rw [h 10 (by omega), h 9 (by omega)]
theorem lX0_comesAtLast {G : Gx} {d : Nat} {σ : Hp} {k n : Nat} {z : Int32} {D : DisT} {t c : Nat → Nat} (hn : n ≤ 9) (hO : OB σ k 0 (diF k z D)) (hT : AI σ (k + 1) 9 t) (hC : AI σ (k + 2) 9 c) (hc : ∀ p, p < n → D.1.testBit p = false → c p = D.2.2.2 p) (hD : D.1 < 512) (hl : ∀ p, p < n → D.1.testBit p = false → D.2.2.2 p < n) {v : Nat} {y : Value} : ∀ (x : Nat) (i p : Nat), i + x = 9 → p < n → img D x p = v → Wp G mX0_comesAtLast d 4 [.ref k, y, .int (nI p), .int (nI i)] [] σ 0 0 (pI fun r s => r = nI v ∧ s = σ) := by
  intro x
  induction x with
  | zero =>
    intro i p h hp hv
    refine wp_iload_n (atd dX0_comesAtLast 4 rfl) rfl ?_
    refine wp_bipush (v := nI 9) (atd dX0_comesAtLast 5 rfl) (by decide) ?_
    refine wp_icmpN_ge (tgt := 44) (atd dX0_comesAtLast 6 rfl) (by decide) (by omega) (by omega) (fun c_7 => ?_) (fun c_7 => ?_)
    ·
      refine wp_iload_n (atd dX0_comesAtLast 26 rfl) rfl ?_
      refine wp_ireti (atd dX0_comesAtLast 27 rfl) rfl ?_
      exact ⟨by rw [← hv]; rfl, rfl⟩
    · exfalso; omega
  | succ x ih =>
    intro i p h hp hv
    refine wp_iload_n (atd dX0_comesAtLast 4 rfl) rfl ?_
    refine wp_bipush (v := nI 9) (atd dX0_comesAtLast 5 rfl) (by decide) ?_
    refine wp_icmpN_ge (tgt := 44) (atd dX0_comesAtLast 6 rfl) (by decide) (by omega) (by omega) (fun c_7 => ?_) (fun c_7 => ?_)
    · exfalso; omega
    ·
      refine wp_iload_n (atd dX0_comesAtLast 7 rfl) rfl ?_
      refine wp_ifN_lt (tgt := 38) (atd dX0_comesAtLast 8 rfl) (by decide) (by omega) ?_
      refine wp_iload_n (atd dX0_comesAtLast 9 rfl) rfl ?_
      refine wp_bipush (v := nI 9) (atd dX0_comesAtLast 10 rfl) (by decide) ?_
      refine wp_icmpN_ge (tgt := 38) (atd dX0_comesAtLast 11 rfl) (by decide) (by omega) (by omega) (fun c_17 => ?_) (fun c_17 => ?_)
      · exfalso; omega
      ·
        refine wp_aload_n (atd dX0_comesAtLast 12 rfl) rfl rfl ?_
        refine wp_get fX0_28 (atd dX0_comesAtLast 13 rfl) hO rfl ?_
        refine wp_iload_n (atd dX0_comesAtLast 14 rfl) rfl ?_
        refine wp_ishrN (atd dX0_comesAtLast 15 rfl) (by omega) (by omega) ?_
        refine wp_iconst (v := nI 1) (atd dX0_comesAtLast 16 rfl) (by decide) ?_
        refine wp_iandN (atd dX0_comesAtLast 17 rfl) ?_
        refine wp_ifN_ne (tgt := 38) (atd dX0_comesAtLast 18 rfl) (by decide) (by have := and1_lt (D.1 >>> p); omega) (fun c_28 => ?_) (fun c_28 => ?_)
        ·
          refine wp_iincN (c := 1) (atd dX0_comesAtLast 24 rfl) rfl ?_
          refine wp_goto (tgt := 4) (atd dX0_comesAtLast 25 rfl) (by decide) ?_
          have hbt : D.1.testBit p = true := by cases e : D.1.testBit p with | true => rfl | false => have := (tb_z D.1 p).mpr e; omega
          refine ih (i + 1) _ (by omega) hp ?_
          rw [← hv, show img D (x + 1) p = p from if_pos hbt]
          cases x with
          | zero => rfl
          | succ x => exact if_pos hbt
        ·
          refine wp_aload_n (atd dX0_comesAtLast 19 rfl) rfl rfl ?_
          refine wp_get fX0_15 (atd dX0_comesAtLast 20 rfl) hO rfl ?_
          refine wp_iload_n (atd dX0_comesAtLast 21 rfl) rfl ?_
          refine wp_ialdA (atd dX0_comesAtLast 22 rfl) hC (by omega) (Nat.le_of_ble_eq_true rfl) ?_
          rw [hc p hp ((tb_z _ _).mp c_28)]
          refine wp_istore_n (atd dX0_comesAtLast 23 rfl) (Nat.le_of_ble_eq_true rfl) ?_
          refine wp_iincN (c := 1) (atd dX0_comesAtLast 24 rfl) rfl ?_
          refine wp_goto (tgt := 4) (atd dX0_comesAtLast 25 rfl) (by decide) ?_
          have hbf := (tb_z _ _).mp c_28
          exact ih (i + 1) _ (by omega) (hl p hp hbf) (by rw [← hv, show img D (x + 1) p = img D x (D.2.2.2 p) from if_neg (by rw [hbf]; decide)])
theorem eX0_comesAtLast {G : Gx} {d : Nat} {σ : Hp} (hd : 0 ≤ d) {k n : Nat} {z : Int32} {D : DisT} (hn : n ≤ 9) (hDC : DC σ k z n D) (hD : D.1 < 512) (hl : ∀ p, p < n → D.1.testBit p = false → D.2.2.2 p < n) {p : Nat} (hp : p < n) : Cl G mX0_comesAtLast d [.ref k, .int (nI p)] σ 0 0 (pI fun r s => r = nI (img D 9 p) ∧ s = σ) := by
  refine cl_of (by decide) (by simp [Value.category]) (Nat.le_of_ble_eq_true rfl) ?_
  show Wp G mX0_comesAtLast d 0 [.ref k, .int (nI p), .double 0, .double 0] [] σ 0 0 _
  refine wp_iload_n (atd dX0_comesAtLast 0 rfl) rfl ?_
  refine wp_istore_n (atd dX0_comesAtLast 1 rfl) (Nat.le_of_ble_eq_true rfl) ?_
  refine wp_iconst (v := nI 0) (atd dX0_comesAtLast 2 rfl) (by decide) ?_
  refine wp_istore_n (atd dX0_comesAtLast 3 rfl) (Nat.le_of_ble_eq_true rfl) ?_
  obtain ⟨t, c, hO, hT, hC, ht, hc⟩ := hDC
  exact lX0_comesAtLast hn hO hT hC hc hD hl 9 0 p (by omega) hp rfl
