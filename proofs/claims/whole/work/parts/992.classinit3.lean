/-! the constructors of Game and Games -/
theorem wp_lenP {G : Gx} {M : Md} {d pc : Nat} {L st : List Value} {σ : Hp} {mc ms : Nat} {Q : Option Value → Hp → Prop} {k N t m : Nat} {g : Nat → Nat} (hd : decode M.2.1 pc = .ok (.arraylength, 1)) (hh : ARP σ k t N m g) (ht : t < 6)
    (kk : Wp G M d (pc + 1) L (.int (nI N) :: st) σ mc ms Q) : Wp G M d pc L (.ref k :: st) σ mc ms Q := by
  obtain ⟨f, h1, -⟩ := hh
  exact wp_alen hd h1 ht kk
def gA0 : List Value := [.int 0, .int 0, .int 0, .int 0, .null, .int 0, .int 0, .int 0, .int 0]
/-- the games made so far -/
def GMa (σ : Hp) (g m : Nat) : Prop := ∀ j, j < m → OB σ (g + 13 + j) 1 (gaF (j / 3) (frN (j % 3 + 1)) (frN (j % 3 + 2)) (nI 0) .null (nI 0) (nI 0) (nI 0) (nI 0))
theorem frow_N2 : ∀ h, h < 3 → frow (h + 1) = nI (frN (h + 1)) ∧ frow (h + 1 + 1) = nI (frN (h + 2)) := by decide
theorem eX1_init {G : Gx} {d : Nat} {σ : Hp} (hd : 1 ≤ d) {a kd f f2 : Nat} (hO : OB σ a 1 gA0) : Cl G mX1_init d [.ref a, .int (nI kd), .int (nI f), .int (nI f2)] σ 0 0 (pV fun s => fr [a] σ s ∧ OB s a 1 (gaF kd f f2 (nI 0) .null (nI 0) (nI 0) (nI 0) (nI 0))) := by
  obtain ⟨d0, hdd⟩ : ∃ e, d = e + 1 := ⟨d - 1, by omega⟩
  refine cl_of (by decide) (by simp [Value.category]) (Nat.le_of_ble_eq_true rfl) ?_
  show Wp G mX1_init d 0 [.ref a, .int (nI kd), .int (nI f), .int (nI f2)] [] σ 0 0 _
  have hF : fr [a] σ σ := fr.rf
  refine wp_aload_n (atd dX1_init 0 rfl) rfl rfl ?_
  refine wp_objInit (atd dX1_init 1 rfl) lX1_3 (by omega) (Nat.le_of_ble_eq_true rfl) ?_
  refine wp_aload_n (atd dX1_init 2 rfl) rfl rfl ?_
  refine wp_iload_n (atd dX1_init 3 rfl) rfl ?_
  refine wp_putFX FfX1_9 (atd dX1_init 4 rfl) rfl hO rfl (Nat.le_of_ble_eq_true rfl) (fun σ f_6 hO => ?_)
  have hF := hF.tr f_6 (by simp)
  refine wp_aload_n (atd dX1_init 5 rfl) rfl rfl ?_
  refine wp_iload_n (atd dX1_init 6 rfl) rfl ?_
  refine wp_putFX FfX1_15 (atd dX1_init 7 rfl) rfl hO rfl (Nat.le_of_ble_eq_true rfl) (fun σ f_11 hO => ?_)
  have hF := hF.tr f_11 (by simp)
  refine wp_aload_n (atd dX1_init 8 rfl) rfl rfl ?_
  refine wp_iload_n (atd dX1_init 9 rfl) rfl ?_
  refine wp_putFX FfX1_18 (atd dX1_init 10 rfl) rfl hO rfl (Nat.le_of_ble_eq_true rfl) (fun σ f_16 hO => ?_)
  have hF := hF.tr f_16 (by simp)
  refine wp_vretv (atd dX1_init 11 rfl) rfl ?_
  exact ⟨hF, hO⟩
theorem lX2_init {G : Gx} {d : Nat} (hd : 2 ≤ d) {σ0 : Hp} {g kn : Nat} (hσ0 : σ0.1 = g + 13) : ∀ (x : Nat) (i : Nat) (σ : Hp) (y3 : Value), i + x = 9 → σ.1 = g + 13 + i → OB σ g 2 (ggF g kn) → ARP σ (g + 9) 5 9 i (fun i => g + 13 + i) → GMa σ g i → fA [g + 9] σ0 σ → Wp G mX2_init d 58 [.ref g, .ref kn, .int (nI i), y3] [] σ x (9 * x) (pV fun s => s.1 = g + 22 ∧ fA [g + 9] σ0 s ∧ OB s g 2 (ggF g kn) ∧ AR s (g + 9) 5 9 (fun i => g + 13 + i) ∧ GMa s g 9) := by
  obtain ⟨d0, hdd⟩ : ∃ e, d = e + 1 := ⟨d - 1, by omega⟩
  intro x
  induction x with
  | zero =>
    intro i σ y3 h hs hG hTb hMa hF
    obtain rfl : i = 9 := by omega
    refine wp_iload_n (atd dX2_init 28 rfl) rfl ?_
    refine wp_aload_n (atd dX2_init 29 rfl) rfl rfl ?_
    refine wp_get fX2_20 (atd dX2_init 30 rfl) hG rfl ?_
    refine wp_lenP (atd dX2_init 31 rfl) hTb (by decide) ?_
    refine wp_icmpN_ge (tgt := 107) (atd dX2_init 32 rfl) (by decide) (by omega) (by omega) (fun c_64 => ?_) (fun c_64 => ?_)
    ·
      refine wp_vretv (atd dX2_init 59 rfl) rfl ?_
      exact ⟨hs, hF, hG, hTb.all, hMa⟩
    · exfalso; omega
  | succ x ih =>
    intro i σ y3 h hs hG hTb hMa hF
    refine wp_iload_n (atd dX2_init 28 rfl) rfl ?_
    refine wp_aload_n (atd dX2_init 29 rfl) rfl rfl ?_
    refine wp_get fX2_20 (atd dX2_init 30 rfl) hG rfl ?_
    refine wp_lenP (atd dX2_init 31 rfl) hTb (by decide) ?_
    refine wp_icmpN_ge (tgt := 107) (atd dX2_init 32 rfl) (by decide) (by omega) (by omega) (fun c_64 => ?_) (fun c_64 => ?_)
    · exfalso; omega
    ·
      refine wp_iload_n (atd dX2_init 33 rfl) rfl ?_
      refine wp_iconst (v := nI 3) (atd dX2_init 34 rfl) (by decide) ?_
      refine wp_iremN (atd dX2_init 35 rfl) (by omega) (by omega) (by omega) ?_
      refine wp_iconst (v := nI 1) (atd dX2_init 36 rfl) (by decide) ?_
      refine wp_iaddN (atd dX2_init 37 rfl) ?_
      refine wp_istore_n (atd dX2_init 38 rfl) (Nat.le_of_ble_eq_true rfl) ?_
      refine wp_aload_n (atd dX2_init 39 rfl) rfl rfl ?_
      refine wp_get fX2_20 (atd dX2_init 40 rfl) hG rfl ?_
      refine wp_iload_n (atd dX2_init 41 rfl) rfl ?_
      refine wp_newOb (mc := x) (ms := 9 * x) (fs := gA0) kcX1 (atd dX2_init 42 rfl) kX2_18 nX1 oX1 (by decide) (by decide) (fun σ f_78 hz hGm => ?_)
      rw [hs] at hGm ⊢
      have hs : σ.1 = g + 13 + i + 1 := by omega
      have hG := hG.fA f_78 (by omega) List.not_mem_nil
      have hTb := hTb.fA f_78 (by omega) List.not_mem_nil
      have hF := hF.tr f_78 (by simp)
      have hMa : GMa σ g i := fun j hj => (hMa j hj).fA f_78 (by omega) List.not_mem_nil
      refine wp_dup (atd dX2_init 43 rfl) rfl ?_
      refine wp_iload_n (atd dX2_init 44 rfl) rfl ?_
      refine wp_iconst (v := nI 3) (atd dX2_init 45 rfl) (by decide) ?_
      refine wp_idivN (atd dX2_init 46 rfl) (by omega) (by omega) (by omega) ?_
      refine wp_frow fX2_38 (atd dX2_init 47 rfl) ?_
      refine wp_iload_n (atd dX2_init 48 rfl) rfl ?_
      refine wp_faldN (atd dX2_init 49 rfl) (by omega) ?_
      rw [(frow_N2 (i % 3) (by omega)).1]
      refine wp_frow fX2_38 (atd dX2_init 50 rfl) ?_
      refine wp_iload_n (atd dX2_init 51 rfl) rfl ?_
      refine wp_iconst (v := nI 1) (atd dX2_init 52 rfl) (by decide) ?_
      refine wp_iaddN (atd dX2_init 53 rfl) ?_
      refine wp_faldN (atd dX2_init 54 rfl) (by omega) ?_
      rw [(frow_N2 (i % 3) (by omega)).2]
      refine wp_cIv hdd [_, _, _] (atd dX2_init 55 rfl) iX1_init lX2_41 rfl rfl (Nat.le_of_ble_eq_true rfl) (eX1_init (by omega) hGm) (Nat.zero_add _).symm (Nat.zero_add _).symm (fun s_97 h_97 => ?_)
      obtain ⟨f_97, hGm⟩ := h_97
      have hG := hG.fr f_97 (by simp only [List.mem_cons, List.not_mem_nil, or_false]; omega)
      have hTb := hTb.fr f_97 (by simp only [List.mem_cons, List.not_mem_nil, or_false]; omega)
      have hMa : GMa s_97 g i := fun j hj => (hMa j hj).fr f_97 (by simp only [List.mem_cons, List.not_mem_nil, or_false]; omega)
      have hF := hF.trN f_97.A (fun j hj => by simp only [List.mem_cons, List.not_mem_nil, or_false] at hj ⊢; omega)
      have hs : s_97.1 = g + 13 + i + 1 := by rw [f_97.1]; exact hs
      refine wp_aastP kcX1 (atd dX2_init 56 rfl) hTb (by decide) rfl (by omega) (by decide) hGm rfl (fun σ f_100 hTb => ?_)
      have hG := hG.fr f_100 (by first | decide | (simp only [List.mem_cons, List.not_mem_nil, or_false]; omega))
      have hF := hF.trN f_100.A (fun j hj => by simp only [List.mem_cons, List.not_mem_nil, or_false] at hj ⊢; omega)
      have hGm := hGm.fr f_100 (by simp only [List.mem_cons, List.not_mem_nil, or_false]; omega)
      have hMa : GMa σ g (i + 1) := fun j hj => by
        by_cases e : j = i
        · subst e; exact hGm
        · exact (hMa j (by omega)).fr f_100 (by simp only [List.mem_cons, List.not_mem_nil, or_false]; omega)
      have hs : σ.1 = g + 13 + i + 1 := by rw [f_100.1]; exact hs
      refine wp_iincN (c := 1) (atd dX2_init 57 rfl) rfl ?_
      refine wp_goto (tgt := 58) (atd dX2_init 58 rfl) (by decide) ?_
      have hs : σ.1 = g + 13 + (i + 1) := by omega
      exact ih (i + 1) σ _ (by omega) hs hG hTb hMa hF
theorem eX2_init {G : Gx} {d : Nat} {σ : Hp} (hd : 4 ≤ d) {g kn : Nat} (hs : σ.1 = g + 1) (hG : OB σ g 2 [.null, .null, .null, .null, .null, .null]) : Cl G mX2_init d [.ref g, .ref kn] σ 21 3126 (pV fun s => s.1 = g + 22 ∧ fA [g] σ s ∧ GS s g kn (fun _ => 0) 0 (fun _ => none) 0) := by
  obtain ⟨d0, hdd⟩ : ∃ e, d = e + 1 := ⟨d - 1, by omega⟩
  refine cl_of (by decide) (by simp [Value.category]) (Nat.le_of_ble_eq_true rfl) ?_
  show Wp G mX2_init d 0 [.ref g, .ref kn, .double 0, .double 0] [] σ 21 3126 _
  have hF : fA [g] σ σ := fA.rf
  have hz := hs
  refine wp_aload_n (atd dX2_init 0 rfl) rfl rfl ?_
  refine wp_objInit (atd dX2_init 1 rfl) lX2_3 (by omega) (Nat.le_of_ble_eq_true rfl) ?_
  refine wp_aload_n (atd dX2_init 2 rfl) rfl rfl ?_
  refine wp_newOb (mc := 20) (ms := 3117) (fs := [.null, .null, .null, .null, .null, .null, .int 0, .null, .int 0]) kcX5 (atd dX2_init 3 rfl) kX2_9 nX5 oX5 (by decide) (by decide) (fun σ f_5 hz hO => ?_)
  rw [hs] at hO ⊢
  have hs : σ.1 = g + 2 := by omega
  have hG := hG.fA f_5 (by omega) List.not_mem_nil
  have hF := hF.tr f_5 (by simp)
  refine wp_dup (atd dX2_init 4 rfl) rfl ?_
  refine wp_cIv hdd [] (atd dX2_init 5 rfl) iX5_init lX2_11 rfl rfl (Nat.le_of_ble_eq_true rfl) (eX5_init (by omega) hs hO) (show 20 = 7 + 13 from rfl) (show 3117 = 2370 + 747 from rfl) (fun s_9 h_9 => ?_)
  obtain ⟨hs, f_9, hRT, hLR, hFS⟩ := h_9
  have hG := hG.fA f_9 (by omega) (by simp only [List.mem_cons, List.not_mem_nil, or_false]; omega)
  have hF := hF.trN f_9 (fun j hj => by simp only [List.mem_cons, List.not_mem_nil, or_false] at hj ⊢; omega)
  have hz0 := hs
  have hFr : fA [g] s_9 s_9 := fA.rf
  refine wp_putFX FfX2_12 (atd dX2_init 6 rfl) rfl hG rfl (Nat.le_of_ble_eq_true rfl) (fun σ f_12 hG => ?_)
  have hF := hF.trN f_12.A (fun j hj => by simp only [List.mem_cons, List.not_mem_nil, or_false] at hj ⊢; omega)
  have hs : σ.1 = g + 9 := by rw [f_12.1]; exact hs
  have hFr := hFr.trN f_12.A (fun j hj => Or.inl hj)
  refine wp_aload_n (atd dX2_init 7 rfl) rfl rfl ?_
  refine wp_bipush (v := nI 9) (atd dX2_init 8 rfl) (by decide) ?_
  refine wp_newqA (mc := 12) (ms := 738) (t := 5) (g := (fun i => g + 13 + i)) (atd dX2_init 9 rfl) kX2_18 (by decide) rfl (by decide) (by decide) (fun σ f_18 hz hTb => ?_)
  rw [hs] at hTb ⊢
  have hs : σ.1 = g + 10 := by omega
  have hG := hG.fA f_18 (by omega) List.not_mem_nil
  have hF := hF.tr f_18 (by simp)
  have hFr := hFr.tr f_18 (by simp)
  refine wp_putFX FfX2_20 (atd dX2_init 10 rfl) rfl hG rfl (Nat.le_of_ble_eq_true rfl) (fun σ f_21 hG => ?_)
  have hF := hF.trN f_21.A (fun j hj => by simp only [List.mem_cons, List.not_mem_nil, or_false] at hj ⊢; omega)
  have hTb := hTb.fr f_21 (by simp only [List.mem_cons, List.not_mem_nil, or_false]; omega)
  have hs : σ.1 = g + 10 := by rw [f_21.1]; exact hs
  have hFr := hFr.trN f_21.A (fun j hj => Or.inl hj)
  refine wp_aload_n (atd dX2_init 11 rfl) rfl rfl ?_
  refine wp_sipush (v := nI 219) (atd dX2_init 12 rfl) (by decide) ?_
  refine wp_newiA (mc := 11) (ms := 519) (atd dX2_init 13 rfl) (by decide) (fun σ f_28 hz hW => ?_)
  rw [hs] at hW ⊢
  have hs : σ.1 = g + 11 := by omega
  have hG := hG.fA f_28 (by omega) List.not_mem_nil
  have hTb := hTb.fA f_28 (by omega) List.not_mem_nil
  have hF := hF.tr f_28 (by simp)
  have hFr := hFr.tr f_28 (by simp)
  refine wp_putFX FfX2_24 (atd dX2_init 14 rfl) rfl hG rfl (Nat.le_of_ble_eq_true rfl) (fun σ f_30 hG => ?_)
  have hF := hF.trN f_30.A (fun j hj => by simp only [List.mem_cons, List.not_mem_nil, or_false] at hj ⊢; omega)
  have hTb := hTb.fr f_30 (by simp only [List.mem_cons, List.not_mem_nil, or_false]; omega)
  have hW := hW.fr f_30 (by simp only [List.mem_cons, List.not_mem_nil, or_false]; omega)
  have hs : σ.1 = g + 11 := by rw [f_30.1]; exact hs
  have hFr := hFr.trN f_30.A (fun j hj => Or.inl hj)
  refine wp_aload_n (atd dX2_init 15 rfl) rfl rfl ?_
  refine wp_sipush (v := nI 219) (atd dX2_init 16 rfl) (by decide) ?_
  refine wp_newiA (mc := 10) (ms := 300) (atd dX2_init 17 rfl) (by decide) (fun σ f_37 hz hHl => ?_)
  rw [hs] at hHl ⊢
  have hs : σ.1 = g + 12 := by omega
  have hG := hG.fA f_37 (by omega) List.not_mem_nil
  have hTb := hTb.fA f_37 (by omega) List.not_mem_nil
  have hW := hW.fA f_37 (by omega) List.not_mem_nil
  have hF := hF.tr f_37 (by simp)
  have hFr := hFr.tr f_37 (by simp)
  refine wp_putFX FfX2_28 (atd dX2_init 18 rfl) rfl hG rfl (Nat.le_of_ble_eq_true rfl) (fun σ f_39 hG => ?_)
  have hF := hF.trN f_39.A (fun j hj => by simp only [List.mem_cons, List.not_mem_nil, or_false] at hj ⊢; omega)
  have hTb := hTb.fr f_39 (by simp only [List.mem_cons, List.not_mem_nil, or_false]; omega)
  have hW := hW.fr f_39 (by simp only [List.mem_cons, List.not_mem_nil, or_false]; omega)
  have hHl := hHl.fr f_39 (by simp only [List.mem_cons, List.not_mem_nil, or_false]; omega)
  have hs : σ.1 = g + 12 := by rw [f_39.1]; exact hs
  have hFr := hFr.trN f_39.A (fun j hj => Or.inl hj)
  refine wp_aload_n (atd dX2_init 19 rfl) rfl rfl ?_
  refine wp_sipush (v := nI 219) (atd dX2_init 20 rfl) (by decide) ?_
  refine wp_newiA (mc := 9) (ms := 81) (atd dX2_init 21 rfl) (by decide) (fun σ f_46 hz hNw => ?_)
  rw [hs] at hNw ⊢
  have hs : σ.1 = g + 13 := by omega
  have hG := hG.fA f_46 (by omega) List.not_mem_nil
  have hTb := hTb.fA f_46 (by omega) List.not_mem_nil
  have hW := hW.fA f_46 (by omega) List.not_mem_nil
  have hHl := hHl.fA f_46 (by omega) List.not_mem_nil
  have hF := hF.tr f_46 (by simp)
  have hFr := hFr.tr f_46 (by simp)
  refine wp_putFX FfX2_31 (atd dX2_init 22 rfl) rfl hG rfl (Nat.le_of_ble_eq_true rfl) (fun σ f_48 hG => ?_)
  have hF := hF.trN f_48.A (fun j hj => by simp only [List.mem_cons, List.not_mem_nil, or_false] at hj ⊢; omega)
  have hTb := hTb.fr f_48 (by simp only [List.mem_cons, List.not_mem_nil, or_false]; omega)
  have hW := hW.fr f_48 (by simp only [List.mem_cons, List.not_mem_nil, or_false]; omega)
  have hHl := hHl.fr f_48 (by simp only [List.mem_cons, List.not_mem_nil, or_false]; omega)
  have hNw := hNw.fr f_48 (by simp only [List.mem_cons, List.not_mem_nil, or_false]; omega)
  have hs : σ.1 = g + 13 := by rw [f_48.1]; exact hs
  have hFr := hFr.trN f_48.A (fun j hj => Or.inl hj)
  refine wp_aload_n (atd dX2_init 23 rfl) rfl rfl ?_
  refine wp_aload_n (atd dX2_init 24 rfl) rfl rfl ?_
  refine wp_putFX FfX2_34 (atd dX2_init 25 rfl) rfl hG rfl (Nat.le_of_ble_eq_true rfl) (fun σ f_53 hG => ?_)
  have hF := hF.trN f_53.A (fun j hj => by simp only [List.mem_cons, List.not_mem_nil, or_false] at hj ⊢; omega)
  have hTb := hTb.fr f_53 (by simp only [List.mem_cons, List.not_mem_nil, or_false]; omega)
  have hW := hW.fr f_53 (by simp only [List.mem_cons, List.not_mem_nil, or_false]; omega)
  have hHl := hHl.fr f_53 (by simp only [List.mem_cons, List.not_mem_nil, or_false]; omega)
  have hNw := hNw.fr f_53 (by simp only [List.mem_cons, List.not_mem_nil, or_false]; omega)
  have hs : σ.1 = g + 13 := by rw [f_53.1]; exact hs
  have hFr := hFr.trN f_53.A (fun j hj => Or.inl hj)
  refine wp_iconst (v := nI 0) (atd dX2_init 26 rfl) (by decide) ?_
  refine wp_istore_n (atd dX2_init 27 rfl) (Nat.le_of_ble_eq_true rfl) ?_
  have hG : OB σ g 2 (ggF g kn) := hG
  refine wp_post (lX2_init (σ0 := σ) (by omega) hs 9 0 σ _ (by omega) hs hG hTb (fun j hj => absurd hj (Nat.not_lt_zero j)) fA.rf) ?_
  rintro v s ⟨rfl, q1, q2, q3, q4, q5⟩
  refine ⟨rfl, q1, hF.trN q2 (fun j hj => by simp only [List.mem_cons, List.not_mem_nil, or_false] at hj ⊢; omega), q3, q4, ?_, ?_, fun kd h hk h1 h3 => ?_⟩
  · have hR : RKg s_9 g (fun _ => 0) 0 := ⟨hRT, hLR, 0, [], hFS, Nat.le_refl _⟩
    exact hR.kp (kpR.of (hFr.tr2 q2) (by omega) (fun j hj => by simp only [List.mem_append, List.mem_cons, List.not_mem_nil, or_false] at hj; omega))
  · exact ⟨_, _, _, hW.fA q2 (by omega) (by simp only [List.mem_cons, List.not_mem_nil, or_false]; omega), hHl.fA q2 (by omega) (by simp only [List.mem_cons, List.not_mem_nil, or_false]; omega), hNw.fA q2 (by omega) (by simp only [List.mem_cons, List.not_mem_nil, or_false]; omega), fun _ => by decide, fun _ => by decide, fun _ => by decide⟩
  · have q := q5 (gix kd h) (gix_lt hk h1 h3)
    have e1 : gix kd h / 3 = kd := by unfold gix; omega
    have e2 : gix kd h % 3 + 1 = h := by unfold gix; omega
    rw [show gix kd h % 3 + 2 = h + 1 from by omega, e1, e2] at q
    exact ⟨false, nI 0, nI 0, nI 0, nI 0, q, fun wa hw => (by cases hw), fun z => by cases z⟩
