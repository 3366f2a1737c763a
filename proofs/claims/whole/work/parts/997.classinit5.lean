/-! the constructor of SureHunters -/
def AbI : Ab := Ab.mk 0 (fun _ => 0) none 0 (fun _ => 0) 0 none []
theorem AbI_V : AbV AbI := ⟨⟨⟨by decide, fun p hp => absurd hp (Nat.not_lt_zero p), fun p hp => absurd hp (Nat.not_lt_zero p), fun p q hp => absurd hp (Nat.not_lt_zero p)⟩, fun _ _ => rfl⟩, trivial, Nat.zero_le _, fun _ => (by decide : (0 : Nat) < 256), Nat.zero_le _, fun r hr => by cases hr⟩
def mkN (_ : Nat) : Option Nat := none
theorem mkN_wk : (fun i => if i < 9 then mkN (3 + i) else none) = fun _ => none := funext fun i => by split <;> rfl
theorem kpM_N {a b : Nat} {σ s : Hp} : kpM mkN a b σ s := fun i x _ _ e => by cases e
/-- the object as it is made -/
def CI (σ : Hp) : Prop := OB σ 0 11 (shF mkN) ∧ (cScr AbI σ ∧ cNet AbI σ ∧ cDra σ ∧ cDis AbI σ) ∧ (cGam AbI σ mkN 0 ∧ cSym σ ∧ cWat σ ∧ cSea AbI σ mkN) ∧ cSce AbI σ ∧ cPas AbI σ
theorem CI.st {σ s : Hp} (h : CI σ) (hk : kpR 0 82 σ s) (h1 : 104 ≤ s.1) : CSt AbI s mkN 0 := by
  obtain ⟨a, ⟨b1, b2, b3, b4⟩, ⟨d1, d2, d3, d4⟩, e1, e2⟩ := h
  exact ⟨⟨h1, ⟨fun i x e => (by cases e), fun i j x e => (by cases e)⟩, ⟨fun g e => (by cases e), fun _ _ _ => rfl, fun _ _ => rfl⟩, a.kp (hk 0 (by omega) (by omega))⟩, ⟨b1.kp (hk.sub (by omega) (by omega)), b2.kp (hk.sub (by omega) (by omega)), b3.kp (hk.sub (by omega) (by omega)), b4.kp (hk.sub (by omega) (by omega))⟩, ⟨d1.kp (hk.sub (by omega) (by omega)) kpM_N, d2.kp (hk.sub (by omega) (by omega)), d3.kp (hk.sub (by omega) (by omega)), d4.kp (hk.sub (by omega) (by omega)) kpM_N⟩, e1.kp (hk.sub (by omega) (by omega)), e2.kp (hk.sub (by omega) (by omega)), fun g e => by cases e⟩
theorem kp_new {a b : Nat} {σ s : Hp} (f : fA [] σ s) (h : b < σ.1) : kpR a b σ s := kpR.of f h (fun j hj => by cases hj)
theorem kp_own {a b k : Nat} {σ s : Hp} (f : fA [k] σ s) (h : b < σ.1) (hk : b < k) : kpR a b σ s := kpR.of f h (fun j hj => by simp only [List.mem_cons, List.not_mem_nil, or_false] at hj; omega)
theorem kp_put {a b : Nat} {σ s : Hp} (f : fr [0] σ s) (h : 0 < a) : kpR a b σ s := fun j h1 h2 => f.2 j (by simp only [List.mem_cons, List.not_mem_nil, or_false]; omega)
theorem scZ_0 : scZ scZero := ⟨by decide, by decide⟩
theorem AI_AO {σ : Hp} {k L : Nat} (h : AI σ k L (fun _ => 0)) : AO σ k L (fun _ => some 0) := h
theorem SK_0 : SK (fun _ => 0) 0 (fun _ => false) (fun _ => some 0) (fun _ => 0) := fun h _ _ z => by cases z
theorem eX11_init {G : Gx} {d : Nat} {σ : Hp} (hd : 5 ≤ d) (hs : σ.1 = 1) (hH : OB σ 0 11 [.null, .null, .null, .null, .null, .null, .null, .null, .null, .null, .null]) : Cl G mX11_init d [.ref 0] σ 82 4207 (pV fun s => s.1 = 83 ∧ CI s) := by
  obtain ⟨d0, hdd⟩ : ∃ e, d = e + 1 := ⟨d - 1, by omega⟩
  refine cl_of (by decide) (by simp [Value.category]) (Nat.le_of_ble_eq_true rfl) ?_
  show Wp G mX11_init d 0 [.ref 0] [] σ 82 4207 _
  refine wp_aload_n (atd dX11_init 0 rfl) rfl rfl ?_
  refine wp_objInit (atd dX11_init 1 rfl) lX11_1 (by omega) (Nat.le_of_ble_eq_true rfl) ?_
  refine wp_aload_n (atd dX11_init 2 rfl) rfl rfl ?_
  refine wp_newOb (mc := 81) (ms := 4198) (fs := [.null, .int 0, .int 0, .int 0, .int 0, .int 0, .int 0, .null, .null]) kcX7 (atd dX11_init 3 rfl) kX11_7 nX7 oX7 (by decide) (by decide) (fun σ f_5 hz hTr => ?_)
  rw [hs] at hTr ⊢
  have hs : σ.1 = 2 := by omega
  have hH := hH.fA f_5 (by omega) List.not_mem_nil
  refine wp_dup (atd dX11_init 4 rfl) rfl ?_
  refine wp_cIv hdd [] (atd dX11_init 5 rfl) iX7_init lX11_9 rfl rfl (Nat.le_of_ble_eq_true rfl) (eX7_init (by omega) hs hTr) (show 81 = 3 + 78 from rfl) (show 4198 = 618 + 3580 from rfl) (fun s_9 h_9 => ?_)
  obtain ⟨hs, f_9, hb, hA0, hA1, hA2⟩ := h_9
  have hH := hH.fA f_9 (by omega) (by decide)
  have c1 : cScr AbI s_9 := ⟨⟨0, 0, 0, hb⟩, ⟨_, hA0, fun k hk => absurd hk (Nat.not_lt_zero k)⟩, hA1.X, hA2.X⟩
  refine wp_putFX FfX11_10 (atd dX11_init 6 rfl) rfl hH rfl (Nat.le_of_ble_eq_true rfl) (fun σ f_12 hH => ?_)
  have c1 := c1.kp (kp_put f_12 (by decide))
  have hs : σ.1 = 5 := by rw [f_12.1]; exact hs
  refine wp_aload_n (atd dX11_init 7 rfl) rfl rfl ?_
  refine wp_newOb (mc := 77) (ms := 3578) (fs := [.int 0, .null]) kcX3 (atd dX11_init 8 rfl) kX11_16 nX3 oX3 (by decide) (by decide) (fun σ f_16 hz hTr => ?_)
  rw [hs] at hTr ⊢
  have hs : σ.1 = 6 := by omega
  have hH := hH.fA f_16 (by omega) List.not_mem_nil
  have c1 := c1.kp (kp_new f_16 (by omega))
  refine wp_dup (atd dX11_init 9 rfl) rfl ?_
  refine wp_cIv hdd [] (atd dX11_init 10 rfl) iX3_init lX11_18 rfl rfl (Nat.le_of_ble_eq_true rfl) (eX3_init (by omega) hs hTr) (show 77 = 1 + 76 from rfl) (show 3578 = 9 + 3569 from rfl) (fun s_20 h_20 => ?_)
  obtain ⟨hs, f_20, hb, hA0⟩ := h_20
  have hH := hH.fA f_20 (by omega) (by decide)
  have c1 := c1.kp (kp_own f_20 (by omega) (by decide))
  have c2 : cNet AbI s_20 := ⟨hb, hA0⟩
  refine wp_putFX FfX11_19 (atd dX11_init 11 rfl) rfl hH rfl (Nat.le_of_ble_eq_true rfl) (fun σ f_23 hH => ?_)
  have c1 := c1.kp (kp_put f_23 (by decide))
  have c2 := c2.kp (kp_put f_23 (by decide))
  have hs : σ.1 = 7 := by rw [f_23.1]; exact hs
  refine wp_aload_n (atd dX11_init 12 rfl) rfl rfl ?_
  refine wp_newOb (mc := 75) (ms := 3567) (fs := [.int 0, .null]) kcX3 (atd dX11_init 13 rfl) kX11_16 nX3 oX3 (by decide) (by decide) (fun σ f_27 hz hTr => ?_)
  rw [hs] at hTr ⊢
  have hs : σ.1 = 8 := by omega
  have hH := hH.fA f_27 (by omega) List.not_mem_nil
  have c1 := c1.kp (kp_new f_27 (by omega))
  have c2 := c2.kp (kp_new f_27 (by omega))
  refine wp_dup (atd dX11_init 14 rfl) rfl ?_
  refine wp_cIv hdd [] (atd dX11_init 15 rfl) iX3_init lX11_18 rfl rfl (Nat.le_of_ble_eq_true rfl) (eX3_init (by omega) hs hTr) (show 75 = 1 + 74 from rfl) (show 3567 = 9 + 3558 from rfl) (fun s_31 h_31 => ?_)
  obtain ⟨hs, f_31, hb, hA0⟩ := h_31
  have hH := hH.fA f_31 (by omega) (by decide)
  have c1 := c1.kp (kp_own f_31 (by omega) (by decide))
  have c2 := c2.kp (kp_own f_31 (by omega) (by decide))
  have c3 : cDra s_31 := ⟨0, fun _ => 0, by decide, fun _ => (by decide : (0 : Nat) < 512), hb, hA0⟩
  refine wp_putFX FfX11_23 (atd dX11_init 16 rfl) rfl hH rfl (Nat.le_of_ble_eq_true rfl) (fun σ f_34 hH => ?_)
  have c1 := c1.kp (kp_put f_34 (by decide))
  have c2 := c2.kp (kp_put f_34 (by decide))
  have c3 := c3.kp (kp_put f_34 (by decide))
  have hs : σ.1 = 9 := by rw [f_34.1]; exact hs
  refine wp_aload_n (atd dX11_init 17 rfl) rfl rfl ?_
  refine wp_newOb (mc := 73) (ms := 3553) (fs := [.int 0, .int 0, .int 0, .null, .null]) kcX0 (atd dX11_init 18 rfl) kX11_26 nX0 oX0 (by decide) (by decide) (fun σ f_38 hz hTr => ?_)
  rw [hs] at hTr ⊢
  have hs : σ.1 = 10 := by omega
  have hH := hH.fA f_38 (by omega) List.not_mem_nil
  have c1 := c1.kp (kp_new f_38 (by omega))
  have c2 := c2.kp (kp_new f_38 (by omega))
  have c3 := c3.kp (kp_new f_38 (by omega))
  refine wp_dup (atd dX11_init 19 rfl) rfl ?_
  refine wp_cIv hdd [] (atd dX11_init 20 rfl) iX0_init lX11_28 rfl rfl (Nat.le_of_ble_eq_true rfl) (eX0_init (by omega) hs hTr) (show 73 = 2 + 71 from rfl) (show 3553 = 18 + 3535 from rfl) (fun s_42 h_42 => ?_)
  obtain ⟨hs, f_42, hb, hA0, hA1⟩ := h_42
  have hH := hH.fA f_42 (by omega) (by decide)
  have c1 := c1.kp (kp_own f_42 (by omega) (by decide))
  have c2 := c2.kp (kp_own f_42 (by omega) (by decide))
  have c3 := c3.kp (kp_own f_42 (by omega) (by decide))
  have c4 : cDis AbI s_42 := Or.inr ⟨_, _, _, hb, hA0, hA1⟩
  refine wp_putFX FfX11_29 (atd dX11_init 21 rfl) rfl hH rfl (Nat.le_of_ble_eq_true rfl) (fun σ f_45 hH => ?_)
  have c1 := c1.kp (kp_put f_45 (by decide))
  have c2 := c2.kp (kp_put f_45 (by decide))
  have c3 := c3.kp (kp_put f_45 (by decide))
  have c4 := c4.kp (kp_put f_45 (by decide))
  have hs : σ.1 = 12 := by rw [f_45.1]; exact hs
  refine wp_aload_n (atd dX11_init 22 rfl) rfl rfl ?_
  refine wp_newOb (mc := 70) (ms := 3529) (fs := [.null, .null, .null, .null, .null, .null]) kcX2 (atd dX11_init 23 rfl) kX11_33 nX2 oX2 (by decide) (by decide) (fun σ f_49 hz hTr => ?_)
  rw [hs] at hTr ⊢
  have hs : σ.1 = 13 := by omega
  have hH := hH.fA f_49 (by omega) List.not_mem_nil
  have c1 := c1.kp (kp_new f_49 (by omega))
  have c2 := c2.kp (kp_new f_49 (by omega))
  have c3 := c3.kp (kp_new f_49 (by omega))
  have c4 := c4.kp (kp_new f_49 (by omega))
  refine wp_dup (atd dX11_init 24 rfl) rfl ?_
  refine wp_aload_n (atd dX11_init 25 rfl) rfl rfl ?_
  refine wp_get fX11_19 (atd dX11_init 26 rfl) hH rfl ?_
  refine wp_cIv hdd [_] (atd dX11_init 27 rfl) iX2_init lX11_35 rfl rfl (Nat.le_of_ble_eq_true rfl) (eX2_init (by omega) hs hTr) (show 70 = 21 + 49 from rfl) (show 3529 = 3126 + 403 from rfl) (fun s_57 h_57 => ?_)
  obtain ⟨hs, f_57, hGS⟩ := h_57
  have hH := hH.fA f_57 (by omega) (by decide)
  have c1 := c1.kp (kp_own f_57 (by omega) (by decide))
  have c2 := c2.kp (kp_own f_57 (by omega) (by decide))
  have c3 := c3.kp (kp_own f_57 (by omega) (by decide))
  have c4 := c4.kp (kp_own f_57 (by omega) (by decide))
  have c5 : cGam AbI s_57 mkN 0 := (by unfold cGam; rw [mkN_wk]; exact hGS)
  refine wp_putFX FfX11_38 (atd dX11_init 28 rfl) rfl hH rfl (Nat.le_of_ble_eq_true rfl) (fun σ f_60 hH => ?_)
  have c1 := c1.kp (kp_put f_60 (by decide))
  have c2 := c2.kp (kp_put f_60 (by decide))
  have c3 := c3.kp (kp_put f_60 (by decide))
  have c4 := c4.kp (kp_put f_60 (by decide))
  have c5 := c5.kp (kp_put f_60 (by decide)) kpM_N
  have hs : σ.1 = 34 := by rw [f_60.1]; exact hs
  have hGo := c5.1
  refine wp_aload_n (atd dX11_init 29 rfl) rfl rfl ?_
  refine wp_newOb (mc := 48) (ms := 401) (fs := [.null, .null]) kcX9 (atd dX11_init 30 rfl) kX11_42 nX9 oX9 (by decide) (by decide) (fun σ f_64 hz hTr => ?_)
  rw [hs] at hTr ⊢
  have hs : σ.1 = 35 := by omega
  have hH := hH.fA f_64 (by omega) List.not_mem_nil
  have c1 := c1.kp (kp_new f_64 (by omega))
  have c2 := c2.kp (kp_new f_64 (by omega))
  have c3 := c3.kp (kp_new f_64 (by omega))
  have c4 := c4.kp (kp_new f_64 (by omega))
  have c5 := c5.kp (kp_new f_64 (by omega)) kpM_N
  refine wp_dup (atd dX11_init 31 rfl) rfl ?_
  refine wp_cIv hdd [] (atd dX11_init 32 rfl) iX9_init lX11_44 rfl rfl (Nat.le_of_ble_eq_true rfl) (eX9_init (by omega) hs hTr) (show 48 = 2 + 46 from rfl) (show 401 = 18 + 383 from rfl) (fun s_68 h_68 => ?_)
  obtain ⟨hs, f_68, hb, hA0, hA1⟩ := h_68
  have hH := hH.fA f_68 (by omega) (by decide)
  have c1 := c1.kp (kp_own f_68 (by omega) (by decide))
  have c2 := c2.kp (kp_own f_68 (by omega) (by decide))
  have c3 := c3.kp (kp_own f_68 (by omega) (by decide))
  have c4 := c4.kp (kp_own f_68 (by omega) (by decide))
  have c5 := c5.kp (kp_own f_68 (by omega) (by decide)) kpM_N
  have c6 : cSym s_68 := ⟨hb, _, _, hA0, hA1, fun _ => by decide, fun _ => by decide⟩
  refine wp_putFX FfX11_45 (atd dX11_init 33 rfl) rfl hH rfl (Nat.le_of_ble_eq_true rfl) (fun σ f_71 hH => ?_)
  have c1 := c1.kp (kp_put f_71 (by decide))
  have c2 := c2.kp (kp_put f_71 (by decide))
  have c3 := c3.kp (kp_put f_71 (by decide))
  have c4 := c4.kp (kp_put f_71 (by decide))
  have c5 := c5.kp (kp_put f_71 (by decide)) kpM_N
  have c6 := c6.kp (kp_put f_71 (by decide))
  have hs : σ.1 = 37 := by rw [f_71.1]; exact hs
  have hGo := c5.1
  refine wp_aload_n (atd dX11_init 34 rfl) rfl rfl ?_
  refine wp_newOb (mc := 45) (ms := 382) (fs := [.null]) kcX10 (atd dX11_init 35 rfl) kX11_49 nX10 oX10 (by decide) (by decide) (fun σ f_75 hz hTr => ?_)
  rw [hs] at hTr ⊢
  have hs : σ.1 = 38 := by omega
  have hH := hH.fA f_75 (by omega) List.not_mem_nil
  have c1 := c1.kp (kp_new f_75 (by omega))
  have c2 := c2.kp (kp_new f_75 (by omega))
  have c3 := c3.kp (kp_new f_75 (by omega))
  have c4 := c4.kp (kp_new f_75 (by omega))
  have c5 := c5.kp (kp_new f_75 (by omega)) kpM_N
  have c6 := c6.kp (kp_new f_75 (by omega))
  refine wp_dup (atd dX11_init 36 rfl) rfl ?_
  refine wp_cIv hdd [] (atd dX11_init 37 rfl) iX10_init lX11_51 rfl rfl (Nat.le_of_ble_eq_true rfl) (eX10_init (by omega) hs hTr) (show 45 = 1 + 44 from rfl) (show 382 = 9 + 373 from rfl) (fun s_79 h_79 => ?_)
  obtain ⟨hs, f_79, hb, hA0⟩ := h_79
  have hH := hH.fA f_79 (by omega) (by decide)
  have c1 := c1.kp (kp_own f_79 (by omega) (by decide))
  have c2 := c2.kp (kp_own f_79 (by omega) (by decide))
  have c3 := c3.kp (kp_own f_79 (by omega) (by decide))
  have c4 := c4.kp (kp_own f_79 (by omega) (by decide))
  have c5 := c5.kp (kp_own f_79 (by omega) (by decide)) kpM_N
  have c6 := c6.kp (kp_own f_79 (by omega) (by decide))
  have c7 : cWat s_79 := ⟨hb, _, hA0⟩
  refine wp_putFX FfX11_52 (atd dX11_init 38 rfl) rfl hH rfl (Nat.le_of_ble_eq_true rfl) (fun σ f_82 hH => ?_)
  have c1 := c1.kp (kp_put f_82 (by decide))
  have c2 := c2.kp (kp_put f_82 (by decide))
  have c3 := c3.kp (kp_put f_82 (by decide))
  have c4 := c4.kp (kp_put f_82 (by decide))
  have c5 := c5.kp (kp_put f_82 (by decide)) kpM_N
  have c6 := c6.kp (kp_put f_82 (by decide))
  have c7 := c7.kp (kp_put f_82 (by decide))
  have hs : σ.1 = 39 := by rw [f_82.1]; exact hs
  have hGo := c5.1
  refine wp_aload_n (atd dX11_init 39 rfl) rfl rfl ?_
  refine wp_newOb (mc := 43) (ms := 364) (fs := [.null, .null, .null, .null, .null, .null, .null, .null, .int 0]) kcX8 (atd dX11_init 40 rfl) kX11_56 nX8 oX8 (by decide) (by decide) (fun σ f_86 hz hTr => ?_)
  rw [hs] at hTr ⊢
  have hs : σ.1 = 40 := by omega
  have hH := hH.fA f_86 (by omega) List.not_mem_nil
  have c1 := c1.kp (kp_new f_86 (by omega))
  have c2 := c2.kp (kp_new f_86 (by omega))
  have c3 := c3.kp (kp_new f_86 (by omega))
  have c4 := c4.kp (kp_new f_86 (by omega))
  have c5 := c5.kp (kp_new f_86 (by omega)) kpM_N
  have c6 := c6.kp (kp_new f_86 (by omega))
  have c7 := c7.kp (kp_new f_86 (by omega))
  refine wp_dup (atd dX11_init 41 rfl) rfl ?_
  refine wp_aload_n (atd dX11_init 42 rfl) rfl rfl ?_
  refine wp_get fX11_19 (atd dX11_init 43 rfl) hH rfl ?_
  refine wp_aload_n (atd dX11_init 44 rfl) rfl rfl ?_
  refine wp_get fX11_38 (atd dX11_init 45 rfl) hH rfl ?_
  refine wp_get fX11_58 (atd dX11_init 46 rfl) c5.1 rfl ?_
  refine wp_cIv hdd [_, _] (atd dX11_init 47 rfl) iX8_init lX11_62 rfl rfl (Nat.le_of_ble_eq_true rfl) (eX8_init (by omega) hs hTr) (show 43 = 3 + 40 from rfl) (show 364 = 126 + 238 from rfl) (fun s_101 h_101 => ?_)
  obtain ⟨hs, f_101, hb, hA0, hA1, hA2⟩ := h_101
  have hH := hH.fA f_101 (by omega) (by decide)
  have c1 := c1.kp (kp_own f_101 (by omega) (by decide))
  have c2 := c2.kp (kp_own f_101 (by omega) (by decide))
  have c3 := c3.kp (kp_own f_101 (by omega) (by decide))
  have c4 := c4.kp (kp_own f_101 (by omega) (by decide))
  have c5 := c5.kp (kp_own f_101 (by omega) (by decide)) kpM_N
  have c6 := c6.kp (kp_own f_101 (by omega) (by decide))
  have c7 := c7.kp (kp_own f_101 (by omega) (by decide))
  have c8 : cSea AbI s_101 mkN := ⟨fun _ => false, fun _ => some 0, fun _ => 0, ⟨0, hb⟩, hA0, AI_AO hA1, hA2, Or.inl ⟨rfl, rfl, rfl⟩, SK_0⟩
  refine wp_putFX FfX11_65 (atd dX11_init 48 rfl) rfl hH rfl (Nat.le_of_ble_eq_true rfl) (fun σ f_104 hH => ?_)
  have c1 := c1.kp (kp_put f_104 (by decide))
  have c2 := c2.kp (kp_put f_104 (by decide))
  have c3 := c3.kp (kp_put f_104 (by decide))
  have c4 := c4.kp (kp_put f_104 (by decide))
  have c5 := c5.kp (kp_put f_104 (by decide)) kpM_N
  have c6 := c6.kp (kp_put f_104 (by decide))
  have c7 := c7.kp (kp_put f_104 (by decide))
  have c8 := c8.kp (kp_put f_104 (by decide)) kpM_N
  have hs : σ.1 = 43 := by rw [f_104.1]; exact hs
  refine wp_aload_n (atd dX11_init 49 rfl) rfl rfl ?_
  refine wp_newOb (mc := 39) (ms := 232) (fs := [.int 0, .int 0, .int 0, .int 0, .int 0, .int 0]) kcX6 (atd dX11_init 50 rfl) kX11_69 nX6 oX6 (by decide) (by decide) (fun σ f_108 hz hTr => ?_)
  rw [hs] at hTr ⊢
  have hs : σ.1 = 44 := by omega
  have hH := hH.fA f_108 (by omega) List.not_mem_nil
  have c1 := c1.kp (kp_new f_108 (by omega))
  have c2 := c2.kp (kp_new f_108 (by omega))
  have c3 := c3.kp (kp_new f_108 (by omega))
  have c4 := c4.kp (kp_new f_108 (by omega))
  have c5 := c5.kp (kp_new f_108 (by omega)) kpM_N
  have c6 := c6.kp (kp_new f_108 (by omega))
  have c7 := c7.kp (kp_new f_108 (by omega))
  have c8 := c8.kp (kp_new f_108 (by omega)) kpM_N
  refine wp_dup (atd dX11_init 51 rfl) rfl ?_
  refine wp_cIv hdd [] (atd dX11_init 52 rfl) iX6_init lX11_71 rfl rfl (Nat.le_of_ble_eq_true rfl) (eX6_init (by omega)) (Nat.zero_add _).symm (Nat.zero_add _).symm (fun s_112 h_112 => ?_)
  obtain rfl : s_112 = σ := h_112
  have c9 : cSce AbI s_112 := ⟨scZero, hTr, scZ_0, rfl⟩
  refine wp_putFX FfX11_72 (atd dX11_init 53 rfl) rfl hH rfl (Nat.le_of_ble_eq_true rfl) (fun σ f_115 hH => ?_)
  have c1 := c1.kp (kp_put f_115 (by decide))
  have c2 := c2.kp (kp_put f_115 (by decide))
  have c3 := c3.kp (kp_put f_115 (by decide))
  have c4 := c4.kp (kp_put f_115 (by decide))
  have c5 := c5.kp (kp_put f_115 (by decide)) kpM_N
  have c6 := c6.kp (kp_put f_115 (by decide))
  have c7 := c7.kp (kp_put f_115 (by decide))
  have c8 := c8.kp (kp_put f_115 (by decide)) kpM_N
  have c9 := c9.kp (kp_put f_115 (by decide))
  have hs : σ.1 = 44 := by rw [f_115.1]; exact hs
  refine wp_aload_n (atd dX11_init 54 rfl) rfl rfl ?_
  refine wp_newOb (mc := 38) (ms := 228) (fs := [.null, .null, .int 0, .int 0]) kcX4 (atd dX11_init 55 rfl) kX11_76 nX4 oX4 (by decide) (by decide) (fun σ f_119 hz hTr => ?_)
  rw [hs] at hTr ⊢
  have hs : σ.1 = 45 := by omega
  have hH := hH.fA f_119 (by omega) List.not_mem_nil
  have c1 := c1.kp (kp_new f_119 (by omega))
  have c2 := c2.kp (kp_new f_119 (by omega))
  have c3 := c3.kp (kp_new f_119 (by omega))
  have c4 := c4.kp (kp_new f_119 (by omega))
  have c5 := c5.kp (kp_new f_119 (by omega)) kpM_N
  have c6 := c6.kp (kp_new f_119 (by omega))
  have c7 := c7.kp (kp_new f_119 (by omega))
  have c8 := c8.kp (kp_new f_119 (by omega)) kpM_N
  have c9 := c9.kp (kp_new f_119 (by omega))
  refine wp_dup (atd dX11_init 56 rfl) rfl ?_
  refine wp_cIv hdd [] (atd dX11_init 57 rfl) iX4_init lX11_78 rfl rfl (Nat.le_of_ble_eq_true rfl) (eX4_init (by omega) hs hTr) (show 38 = 38 + 0 from rfl) (show 228 = 228 + 0 from rfl) (fun s_123 h_123 => ?_)
  obtain ⟨hs, f_123, hb, hA0, hA1, hM⟩ := h_123
  have hH := hH.fA f_123 (by omega) (by decide)
  have c1 := c1.kp (kp_own f_123 (by omega) (by decide))
  have c2 := c2.kp (kp_own f_123 (by omega) (by decide))
  have c3 := c3.kp (kp_own f_123 (by omega) (by decide))
  have c4 := c4.kp (kp_own f_123 (by omega) (by decide))
  have c5 := c5.kp (kp_own f_123 (by omega) (by decide)) kpM_N
  have c6 := c6.kp (kp_own f_123 (by omega) (by decide))
  have c7 := c7.kp (kp_own f_123 (by omega) (by decide))
  have c8 := c8.kp (kp_own f_123 (by omega) (by decide)) kpM_N
  have c9 := c9.kp (kp_own f_123 (by omega) (by decide))
  have c10 : cPas AbI s_123 := ⟨0, fun _ => 0, fun _ _ => 0, fun _ => scZero, by decide, hb, hA0, hA1, fun i hi => hM i hi, fun i _ => scZ_0, fun i r hr => by cases hr⟩
  refine wp_putFX FfX11_79 (atd dX11_init 58 rfl) rfl hH rfl (Nat.le_of_ble_eq_true rfl) (fun σ f_126 hH => ?_)
  have c1 := c1.kp (kp_put f_126 (by decide))
  have c2 := c2.kp (kp_put f_126 (by decide))
  have c3 := c3.kp (kp_put f_126 (by decide))
  have c4 := c4.kp (kp_put f_126 (by decide))
  have c5 := c5.kp (kp_put f_126 (by decide)) kpM_N
  have c6 := c6.kp (kp_put f_126 (by decide))
  have c7 := c7.kp (kp_put f_126 (by decide))
  have c8 := c8.kp (kp_put f_126 (by decide)) kpM_N
  have c9 := c9.kp (kp_put f_126 (by decide))
  have c10 := c10.kp (kp_put f_126 (by decide))
  have hs : σ.1 = 83 := by rw [f_126.1]; exact hs
  refine wp_aload_n (atd dX11_init 59 rfl) rfl rfl ?_
  refine wp_null (atd dX11_init 60 rfl) ?_
  refine wp_putX fX11_83 (atd dX11_init 61 rfl) hH rfl (Nat.le_of_ble_eq_true rfl) (fun σ f_131 hH => ?_)
  have c1 := c1.kp (kp_put f_131 (by decide))
  have c2 := c2.kp (kp_put f_131 (by decide))
  have c3 := c3.kp (kp_put f_131 (by decide))
  have c4 := c4.kp (kp_put f_131 (by decide))
  have c5 := c5.kp (kp_put f_131 (by decide)) kpM_N
  have c6 := c6.kp (kp_put f_131 (by decide))
  have c7 := c7.kp (kp_put f_131 (by decide))
  have c8 := c8.kp (kp_put f_131 (by decide)) kpM_N
  have c9 := c9.kp (kp_put f_131 (by decide))
  have c10 := c10.kp (kp_put f_131 (by decide))
  have hs : σ.1 = 83 := by rw [f_131.1]; exact hs
  refine wp_vretv (atd dX11_init 62 rfl) rfl ?_
  exact ⟨hs, hH, ⟨c1, c2, c3, c4⟩, ⟨c5, c6, c7, c8⟩, c9, c10⟩
