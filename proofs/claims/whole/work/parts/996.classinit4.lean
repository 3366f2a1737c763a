/-! the other constructors -/
theorem eX0_init {G : Gx} {d : Nat} {σ : Hp} (hd : 1 ≤ d) {k : Nat} (hs : σ.1 = k + 1) (hO : OB σ k 0 [.int 0, .int 0, .int 0, .null, .null]) : Cl G mX0_init d [.ref k] σ 2 18 (pV fun s => s.1 = k + 3 ∧ fA [k] σ s ∧ OB s k 0 (diF k (nI 0) (0, 0, fun _ => 0, fun _ => 0)) ∧ AI s (k + 1) 9 (fun _ => 0) ∧ AI s (k + 2) 9 (fun _ => 0)) := by
  obtain ⟨d0, hdd⟩ : ∃ e, d = e + 1 := ⟨d - 1, by omega⟩
  refine cl_of (by decide) (by simp [Value.category]) (Nat.le_of_ble_eq_true rfl) ?_
  show Wp G mX0_init d 0 [.ref k] [] σ 2 18 _
  have hF : fA [k] σ σ := fA.rf
  refine wp_aload_n (atd dX0_init 0 rfl) rfl rfl ?_
  refine wp_objInit (atd dX0_init 1 rfl) lX0_3 (by omega) (Nat.le_of_ble_eq_true rfl) ?_
  refine wp_aload_n (atd dX0_init 2 rfl) rfl rfl ?_
  refine wp_bipush (v := nI 9) (atd dX0_init 3 rfl) (by decide) ?_
  refine wp_newiA (mc := 1) (ms := 9) (atd dX0_init 4 rfl) (by decide) (fun σ f_7 hz hA0 => ?_)
  rw [hs] at hA0 ⊢
  have hs : σ.1 = k + 2 := by omega
  have hO := hO.fA f_7 (by omega) List.not_mem_nil
  have hF := hF.tr f_7 (by simp)
  refine wp_putFX FfX0_9 (atd dX0_init 5 rfl) rfl hO rfl (Nat.le_of_ble_eq_true rfl) (fun σ f_9 hO => ?_)
  have hF := hF.trN f_9.A (fun j hj => by simp only [List.mem_cons, List.not_mem_nil, or_false] at hj ⊢; omega)
  have hA0 := hA0.fr f_9 (by simp only [List.mem_cons, List.not_mem_nil, or_false]; omega)
  have hs : σ.1 = k + 2 := by rw [f_9.1]; exact hs
  refine wp_aload_n (atd dX0_init 6 rfl) rfl rfl ?_
  refine wp_bipush (v := nI 9) (atd dX0_init 7 rfl) (by decide) ?_
  refine wp_newiA (mc := 0) (ms := 0) (atd dX0_init 8 rfl) (by decide) (fun σ f_15 hz hA1 => ?_)
  rw [hs] at hA1 ⊢
  have hs : σ.1 = k + 3 := by omega
  have hO := hO.fA f_15 (by omega) List.not_mem_nil
  have hA0 := hA0.fA f_15 (by omega) List.not_mem_nil
  have hF := hF.tr f_15 (by simp)
  refine wp_putFX FfX0_15 (atd dX0_init 9 rfl) rfl hO rfl (Nat.le_of_ble_eq_true rfl) (fun σ f_17 hO => ?_)
  have hF := hF.trN f_17.A (fun j hj => by simp only [List.mem_cons, List.not_mem_nil, or_false] at hj ⊢; omega)
  have hA0 := hA0.fr f_17 (by simp only [List.mem_cons, List.not_mem_nil, or_false]; omega)
  have hA1 := hA1.fr f_17 (by simp only [List.mem_cons, List.not_mem_nil, or_false]; omega)
  have hs : σ.1 = k + 3 := by rw [f_17.1]; exact hs
  refine wp_vretv (atd dX0_init 10 rfl) rfl ?_
  exact ⟨hs, hF, hO, hA0, hA1⟩
theorem eX3_init {G : Gx} {d : Nat} {σ : Hp} (hd : 1 ≤ d) {k : Nat} (hs : σ.1 = k + 1) (hO : OB σ k 3 [.int 0, .null]) : Cl G mX3_init d [.ref k] σ 1 9 (pV fun s => s.1 = k + 2 ∧ fA [k] σ s ∧ OB s k 3 [.int (nI 0), .ref (k + 1)] ∧ AI s (k + 1) 9 (fun _ => 0)) := by
  obtain ⟨d0, hdd⟩ : ∃ e, d = e + 1 := ⟨d - 1, by omega⟩
  refine cl_of (by decide) (by simp [Value.category]) (Nat.le_of_ble_eq_true rfl) ?_
  show Wp G mX3_init d 0 [.ref k] [] σ 1 9 _
  have hF : fA [k] σ σ := fA.rf
  refine wp_aload_n (atd dX3_init 0 rfl) rfl rfl ?_
  refine wp_objInit (atd dX3_init 1 rfl) lX3_3 (by omega) (Nat.le_of_ble_eq_true rfl) ?_
  refine wp_aload_n (atd dX3_init 2 rfl) rfl rfl ?_
  refine wp_bipush (v := nI 9) (atd dX3_init 3 rfl) (by decide) ?_
  refine wp_newiA (mc := 0) (ms := 0) (atd dX3_init 4 rfl) (by decide) (fun σ f_7 hz hA0 => ?_)
  rw [hs] at hA0 ⊢
  have hs : σ.1 = k + 2 := by omega
  have hO := hO.fA f_7 (by omega) List.not_mem_nil
  have hF := hF.tr f_7 (by simp)
  refine wp_putFX FfX3_9 (atd dX3_init 5 rfl) rfl hO rfl (Nat.le_of_ble_eq_true rfl) (fun σ f_9 hO => ?_)
  have hF := hF.trN f_9.A (fun j hj => by simp only [List.mem_cons, List.not_mem_nil, or_false] at hj ⊢; omega)
  have hA0 := hA0.fr f_9 (by simp only [List.mem_cons, List.not_mem_nil, or_false]; omega)
  have hs : σ.1 = k + 2 := by rw [f_9.1]; exact hs
  refine wp_vretv (atd dX3_init 6 rfl) rfl ?_
  exact ⟨hs, hF, hO, hA0⟩
theorem eX7_init {G : Gx} {d : Nat} {σ : Hp} (hd : 1 ≤ d) {k : Nat} (hs : σ.1 = k + 1) (hO : OB σ k 7 [.null, .int 0, .int 0, .int 0, .int 0, .int 0, .int 0, .null, .null]) : Cl G mX7_init d [.ref k] σ 3 618 (pV fun s => s.1 = k + 4 ∧ fA [k] σ s ∧ OB s k 7 [.ref (k + 1), .int (nI 0), .int (nI 0), .int (-1), .int 0, .int 0, .int 0, .ref (k + 2), .ref (k + 3)] ∧ AI s (k + 1) 600 (fun _ => 0) ∧ AI s (k + 2) 9 (fun _ => 0) ∧ AI s (k + 3) 9 (fun _ => 0)) := by
  obtain ⟨d0, hdd⟩ : ∃ e, d = e + 1 := ⟨d - 1, by omega⟩
  refine cl_of (by decide) (by simp [Value.category]) (Nat.le_of_ble_eq_true rfl) ?_
  show Wp G mX7_init d 0 [.ref k] [] σ 3 618 _
  have hF : fA [k] σ σ := fA.rf
  refine wp_aload_n (atd dX7_init 0 rfl) rfl rfl ?_
  refine wp_objInit (atd dX7_init 1 rfl) lX7_3 (by omega) (Nat.le_of_ble_eq_true rfl) ?_
  refine wp_aload_n (atd dX7_init 2 rfl) rfl rfl ?_
  refine wp_sipush (v := nI 600) (atd dX7_init 3 rfl) (by decide) ?_
  refine wp_newiA (mc := 2) (ms := 18) (atd dX7_init 4 rfl) (by decide) (fun σ f_8 hz hA0 => ?_)
  rw [hs] at hA0 ⊢
  have hs : σ.1 = k + 2 := by omega
  have hO := hO.fA f_8 (by omega) List.not_mem_nil
  have hF := hF.tr f_8 (by simp)
  refine wp_putFX FfX7_9 (atd dX7_init 5 rfl) rfl hO rfl (Nat.le_of_ble_eq_true rfl) (fun σ f_10 hO => ?_)
  have hF := hF.trN f_10.A (fun j hj => by simp only [List.mem_cons, List.not_mem_nil, or_false] at hj ⊢; omega)
  have hA0 := hA0.fr f_10 (by simp only [List.mem_cons, List.not_mem_nil, or_false]; omega)
  have hs : σ.1 = k + 2 := by rw [f_10.1]; exact hs
  refine wp_aload_n (atd dX7_init 6 rfl) rfl rfl ?_
  refine wp_iconst (v := -1) (atd dX7_init 7 rfl) (by decide) ?_
  refine wp_putX fX7_15 (atd dX7_init 8 rfl) hO rfl (Nat.le_of_ble_eq_true rfl) (fun σ f_15 hO => ?_)
  have hF := hF.trN f_15.A (fun j hj => by simp only [List.mem_cons, List.not_mem_nil, or_false] at hj ⊢; omega)
  have hA0 := hA0.fr f_15 (by simp only [List.mem_cons, List.not_mem_nil, or_false]; omega)
  have hs : σ.1 = k + 2 := by rw [f_15.1]; exact hs
  refine wp_aload_n (atd dX7_init 9 rfl) rfl rfl ?_
  refine wp_bipush (v := nI 9) (atd dX7_init 10 rfl) (by decide) ?_
  refine wp_newiA (mc := 1) (ms := 9) (atd dX7_init 11 rfl) (by decide) (fun σ f_21 hz hA1 => ?_)
  rw [hs] at hA1 ⊢
  have hs : σ.1 = k + 3 := by omega
  have hO := hO.fA f_21 (by omega) List.not_mem_nil
  have hA0 := hA0.fA f_21 (by omega) List.not_mem_nil
  have hF := hF.tr f_21 (by simp)
  refine wp_putFX FfX7_19 (atd dX7_init 12 rfl) rfl hO rfl (Nat.le_of_ble_eq_true rfl) (fun σ f_23 hO => ?_)
  have hF := hF.trN f_23.A (fun j hj => by simp only [List.mem_cons, List.not_mem_nil, or_false] at hj ⊢; omega)
  have hA0 := hA0.fr f_23 (by simp only [List.mem_cons, List.not_mem_nil, or_false]; omega)
  have hA1 := hA1.fr f_23 (by simp only [List.mem_cons, List.not_mem_nil, or_false]; omega)
  have hs : σ.1 = k + 3 := by rw [f_23.1]; exact hs
  refine wp_aload_n (atd dX7_init 13 rfl) rfl rfl ?_
  refine wp_bipush (v := nI 9) (atd dX7_init 14 rfl) (by decide) ?_
  refine wp_newiA (mc := 0) (ms := 0) (atd dX7_init 15 rfl) (by decide) (fun σ f_29 hz hA2 => ?_)
  rw [hs] at hA2 ⊢
  have hs : σ.1 = k + 4 := by omega
  have hO := hO.fA f_29 (by omega) List.not_mem_nil
  have hA0 := hA0.fA f_29 (by omega) List.not_mem_nil
  have hA1 := hA1.fA f_29 (by omega) List.not_mem_nil
  have hF := hF.tr f_29 (by simp)
  refine wp_putFX FfX7_22 (atd dX7_init 16 rfl) rfl hO rfl (Nat.le_of_ble_eq_true rfl) (fun σ f_31 hO => ?_)
  have hF := hF.trN f_31.A (fun j hj => by simp only [List.mem_cons, List.not_mem_nil, or_false] at hj ⊢; omega)
  have hA0 := hA0.fr f_31 (by simp only [List.mem_cons, List.not_mem_nil, or_false]; omega)
  have hA1 := hA1.fr f_31 (by simp only [List.mem_cons, List.not_mem_nil, or_false]; omega)
  have hA2 := hA2.fr f_31 (by simp only [List.mem_cons, List.not_mem_nil, or_false]; omega)
  have hs : σ.1 = k + 4 := by rw [f_31.1]; exact hs
  refine wp_vretv (atd dX7_init 17 rfl) rfl ?_
  exact ⟨hs, hF, hO, hA0, hA1, hA2⟩
theorem eX8_init {G : Gx} {d : Nat} {σ : Hp} (hd : 1 ≤ d) {k : Nat} {a b : Nat} (hs : σ.1 = k + 1) (hO : OB σ k 8 [.null, .null, .null, .null, .null, .null, .null, .null, .int 0]) : Cl G mX8_init d [.ref k, .ref a, .ref b] σ 3 126 (pV fun s => s.1 = k + 4 ∧ fA [k] σ s ∧ OB s k 8 (seF k a b .null .null .null 0) ∧ AB s (k + 1) 2 (fun _ => false) ∧ AI s (k + 2) 2 (fun _ => 0) ∧ AI s (k + 3) 122 (fun _ => 0)) := by
  obtain ⟨d0, hdd⟩ : ∃ e, d = e + 1 := ⟨d - 1, by omega⟩
  refine cl_of (by decide) (by simp [Value.category]) (Nat.le_of_ble_eq_true rfl) ?_
  show Wp G mX8_init d 0 [.ref k, .ref a, .ref b] [] σ 3 126 _
  have hF : fA [k] σ σ := fA.rf
  refine wp_aload_n (atd dX8_init 0 rfl) rfl rfl ?_
  refine wp_objInit (atd dX8_init 1 rfl) lX8_5 (by omega) (Nat.le_of_ble_eq_true rfl) ?_
  refine wp_aload_n (atd dX8_init 2 rfl) rfl rfl ?_
  refine wp_iconst (v := nI 2) (atd dX8_init 3 rfl) (by decide) ?_
  refine wp_newzA (mc := 2) (ms := 124) (atd dX8_init 4 rfl) (by decide) (fun σ f_6 hz hA0 => ?_)
  rw [hs] at hA0 ⊢
  have hs : σ.1 = k + 2 := by omega
  have hO := hO.fA f_6 (by omega) List.not_mem_nil
  have hF := hF.tr f_6 (by simp)
  refine wp_putFX FfX8_11 (atd dX8_init 5 rfl) rfl hO rfl (Nat.le_of_ble_eq_true rfl) (fun σ f_8 hO => ?_)
  have hF := hF.trN f_8.A (fun j hj => by simp only [List.mem_cons, List.not_mem_nil, or_false] at hj ⊢; omega)
  have hA0 := hA0.fr f_8 (by simp only [List.mem_cons, List.not_mem_nil, or_false]; omega)
  have hs : σ.1 = k + 2 := by rw [f_8.1]; exact hs
  refine wp_aload_n (atd dX8_init 6 rfl) rfl rfl ?_
  refine wp_iconst (v := nI 2) (atd dX8_init 7 rfl) (by decide) ?_
  refine wp_newiA (mc := 1) (ms := 122) (atd dX8_init 8 rfl) (by decide) (fun σ f_13 hz hA1 => ?_)
  rw [hs] at hA1 ⊢
  have hs : σ.1 = k + 3 := by omega
  have hO := hO.fA f_13 (by omega) List.not_mem_nil
  have hA0 := hA0.fA f_13 (by omega) List.not_mem_nil
  have hF := hF.tr f_13 (by simp)
  refine wp_putFX FfX8_15 (atd dX8_init 9 rfl) rfl hO rfl (Nat.le_of_ble_eq_true rfl) (fun σ f_15 hO => ?_)
  have hF := hF.trN f_15.A (fun j hj => by simp only [List.mem_cons, List.not_mem_nil, or_false] at hj ⊢; omega)
  have hA0 := hA0.fr f_15 (by simp only [List.mem_cons, List.not_mem_nil, or_false]; omega)
  have hA1 := hA1.fr f_15 (by simp only [List.mem_cons, List.not_mem_nil, or_false]; omega)
  have hs : σ.1 = k + 3 := by rw [f_15.1]; exact hs
  refine wp_aload_n (atd dX8_init 10 rfl) rfl rfl ?_
  refine wp_bipush (v := nI 122) (atd dX8_init 11 rfl) (by decide) ?_
  refine wp_newiA (mc := 0) (ms := 0) (atd dX8_init 12 rfl) (by decide) (fun σ f_21 hz hA2 => ?_)
  rw [hs] at hA2 ⊢
  have hs : σ.1 = k + 4 := by omega
  have hO := hO.fA f_21 (by omega) List.not_mem_nil
  have hA0 := hA0.fA f_21 (by omega) List.not_mem_nil
  have hA1 := hA1.fA f_21 (by omega) List.not_mem_nil
  have hF := hF.tr f_21 (by simp)
  refine wp_putFX FfX8_19 (atd dX8_init 13 rfl) rfl hO rfl (Nat.le_of_ble_eq_true rfl) (fun σ f_23 hO => ?_)
  have hF := hF.trN f_23.A (fun j hj => by simp only [List.mem_cons, List.not_mem_nil, or_false] at hj ⊢; omega)
  have hA0 := hA0.fr f_23 (by simp only [List.mem_cons, List.not_mem_nil, or_false]; omega)
  have hA1 := hA1.fr f_23 (by simp only [List.mem_cons, List.not_mem_nil, or_false]; omega)
  have hA2 := hA2.fr f_23 (by simp only [List.mem_cons, List.not_mem_nil, or_false]; omega)
  have hs : σ.1 = k + 4 := by rw [f_23.1]; exact hs
  refine wp_aload_n (atd dX8_init 14 rfl) rfl rfl ?_
  refine wp_aload_n (atd dX8_init 15 rfl) rfl rfl ?_
  refine wp_putFX FfX8_22 (atd dX8_init 16 rfl) rfl hO rfl (Nat.le_of_ble_eq_true rfl) (fun σ f_28 hO => ?_)
  have hF := hF.trN f_28.A (fun j hj => by simp only [List.mem_cons, List.not_mem_nil, or_false] at hj ⊢; omega)
  have hA0 := hA0.fr f_28 (by simp only [List.mem_cons, List.not_mem_nil, or_false]; omega)
  have hA1 := hA1.fr f_28 (by simp only [List.mem_cons, List.not_mem_nil, or_false]; omega)
  have hA2 := hA2.fr f_28 (by simp only [List.mem_cons, List.not_mem_nil, or_false]; omega)
  have hs : σ.1 = k + 4 := by rw [f_28.1]; exact hs
  refine wp_aload_n (atd dX8_init 17 rfl) rfl rfl ?_
  refine wp_aload_n (atd dX8_init 18 rfl) rfl rfl ?_
  refine wp_putFX FfX8_26 (atd dX8_init 19 rfl) rfl hO rfl (Nat.le_of_ble_eq_true rfl) (fun σ f_33 hO => ?_)
  have hF := hF.trN f_33.A (fun j hj => by simp only [List.mem_cons, List.not_mem_nil, or_false] at hj ⊢; omega)
  have hA0 := hA0.fr f_33 (by simp only [List.mem_cons, List.not_mem_nil, or_false]; omega)
  have hA1 := hA1.fr f_33 (by simp only [List.mem_cons, List.not_mem_nil, or_false]; omega)
  have hA2 := hA2.fr f_33 (by simp only [List.mem_cons, List.not_mem_nil, or_false]; omega)
  have hs : σ.1 = k + 4 := by rw [f_33.1]; exact hs
  refine wp_vretv (atd dX8_init 20 rfl) rfl ?_
  exact ⟨hs, hF, hO, hA0, hA1, hA2⟩
theorem eX9_init {G : Gx} {d : Nat} {σ : Hp} (hd : 1 ≤ d) {k : Nat} (hs : σ.1 = k + 1) (hO : OB σ k 9 [.null, .null]) : Cl G mX9_init d [.ref k] σ 2 18 (pV fun s => s.1 = k + 3 ∧ fA [k] σ s ∧ OB s k 9 [.ref (k + 1), .ref (k + 2)] ∧ AI s (k + 1) 9 (fun _ => 0) ∧ AI s (k + 2) 9 (fun _ => 0)) := by
  obtain ⟨d0, hdd⟩ : ∃ e, d = e + 1 := ⟨d - 1, by omega⟩
  refine cl_of (by decide) (by simp [Value.category]) (Nat.le_of_ble_eq_true rfl) ?_
  show Wp G mX9_init d 0 [.ref k] [] σ 2 18 _
  have hF : fA [k] σ σ := fA.rf
  refine wp_aload_n (atd dX9_init 0 rfl) rfl rfl ?_
  refine wp_objInit (atd dX9_init 1 rfl) lX9_3 (by omega) (Nat.le_of_ble_eq_true rfl) ?_
  refine wp_aload_n (atd dX9_init 2 rfl) rfl rfl ?_
  refine wp_bipush (v := nI 9) (atd dX9_init 3 rfl) (by decide) ?_
  refine wp_newiA (mc := 1) (ms := 9) (atd dX9_init 4 rfl) (by decide) (fun σ f_7 hz hA0 => ?_)
  rw [hs] at hA0 ⊢
  have hs : σ.1 = k + 2 := by omega
  have hO := hO.fA f_7 (by omega) List.not_mem_nil
  have hF := hF.tr f_7 (by simp)
  refine wp_putFX FfX9_9 (atd dX9_init 5 rfl) rfl hO rfl (Nat.le_of_ble_eq_true rfl) (fun σ f_9 hO => ?_)
  have hF := hF.trN f_9.A (fun j hj => by simp only [List.mem_cons, List.not_mem_nil, or_false] at hj ⊢; omega)
  have hA0 := hA0.fr f_9 (by simp only [List.mem_cons, List.not_mem_nil, or_false]; omega)
  have hs : σ.1 = k + 2 := by rw [f_9.1]; exact hs
  refine wp_aload_n (atd dX9_init 6 rfl) rfl rfl ?_
  refine wp_bipush (v := nI 9) (atd dX9_init 7 rfl) (by decide) ?_
  refine wp_newiA (mc := 0) (ms := 0) (atd dX9_init 8 rfl) (by decide) (fun σ f_15 hz hA1 => ?_)
  rw [hs] at hA1 ⊢
  have hs : σ.1 = k + 3 := by omega
  have hO := hO.fA f_15 (by omega) List.not_mem_nil
  have hA0 := hA0.fA f_15 (by omega) List.not_mem_nil
  have hF := hF.tr f_15 (by simp)
  refine wp_putFX FfX9_15 (atd dX9_init 9 rfl) rfl hO rfl (Nat.le_of_ble_eq_true rfl) (fun σ f_17 hO => ?_)
  have hF := hF.trN f_17.A (fun j hj => by simp only [List.mem_cons, List.not_mem_nil, or_false] at hj ⊢; omega)
  have hA0 := hA0.fr f_17 (by simp only [List.mem_cons, List.not_mem_nil, or_false]; omega)
  have hA1 := hA1.fr f_17 (by simp only [List.mem_cons, List.not_mem_nil, or_false]; omega)
  have hs : σ.1 = k + 3 := by rw [f_17.1]; exact hs
  refine wp_vretv (atd dX9_init 10 rfl) rfl ?_
  exact ⟨hs, hF, hO, hA0, hA1⟩
theorem eX10_init {G : Gx} {d : Nat} {σ : Hp} (hd : 1 ≤ d) {k : Nat} (hs : σ.1 = k + 1) (hO : OB σ k 10 [.null]) : Cl G mX10_init d [.ref k] σ 1 9 (pV fun s => s.1 = k + 2 ∧ fA [k] σ s ∧ OB s k 10 [.ref (k + 1)] ∧ AI s (k + 1) 9 (fun _ => 0)) := by
  obtain ⟨d0, hdd⟩ : ∃ e, d = e + 1 := ⟨d - 1, by omega⟩
  refine cl_of (by decide) (by simp [Value.category]) (Nat.le_of_ble_eq_true rfl) ?_
  show Wp G mX10_init d 0 [.ref k] [] σ 1 9 _
  have hF : fA [k] σ σ := fA.rf
  refine wp_aload_n (atd dX10_init 0 rfl) rfl rfl ?_
  refine wp_objInit (atd dX10_init 1 rfl) lX10_3 (by omega) (Nat.le_of_ble_eq_true rfl) ?_
  refine wp_aload_n (atd dX10_init 2 rfl) rfl rfl ?_
  refine wp_bipush (v := nI 9) (atd dX10_init 3 rfl) (by decide) ?_
  refine wp_newiA (mc := 0) (ms := 0) (atd dX10_init 4 rfl) (by decide) (fun σ f_7 hz hA0 => ?_)
  rw [hs] at hA0 ⊢
  have hs : σ.1 = k + 2 := by omega
  have hO := hO.fA f_7 (by omega) List.not_mem_nil
  have hF := hF.tr f_7 (by simp)
  refine wp_putFX FfX10_9 (atd dX10_init 5 rfl) rfl hO rfl (Nat.le_of_ble_eq_true rfl) (fun σ f_9 hO => ?_)
  have hF := hF.trN f_9.A (fun j hj => by simp only [List.mem_cons, List.not_mem_nil, or_false] at hj ⊢; omega)
  have hA0 := hA0.fr f_9 (by simp only [List.mem_cons, List.not_mem_nil, or_false]; omega)
  have hs : σ.1 = k + 2 := by rw [f_9.1]; exact hs
  refine wp_vretv (atd dX10_init 6 rfl) rfl ?_
  exact ⟨hs, hF, hO, hA0⟩
theorem eX6_init {G : Gx} {d : Nat} {σ : Hp} (hd : 1 ≤ d) {k : Nat} : Cl G mX6_init d [.ref k] σ 0 0 (pV fun s => s = σ) := by
  obtain ⟨d0, hdd⟩ : ∃ e, d = e + 1 := ⟨d - 1, by omega⟩
  refine cl_of (by decide) (by simp [Value.category]) (Nat.le_of_ble_eq_true rfl) ?_
  show Wp G mX6_init d 0 [.ref k] [] σ 0 0 _
  refine wp_aload_n (atd dX6_init 0 rfl) rfl rfl ?_
  refine wp_objInit (atd dX6_init 1 rfl) lX6_1 (by omega) (Nat.le_of_ble_eq_true rfl) ?_
  refine wp_vretv (atd dX6_init 2 rfl) rfl ?_
  exact rfl
def scZero (i : Nat) : Int32 := 0
/-- the slots made so far -/
def PSm (σ : Hp) (k m : Nat) : Prop := ∀ j, j < m → OB σ (k + 3 + 3 * j) 3 [.int (nI 0), .ref (k + 3 + 3 * j + 1)] ∧ AI σ (k + 3 + 3 * j + 1) 9 (fun _ => 0) ∧ OB σ (k + 3 + 3 * j + 2) 6 (scF scZero)
theorem PSm.fr {σ s : Hp} {S : List Nat} {k m : Nat} (h : PSm σ k m) (f : fr S σ s) (hk : ∀ j, j < m → k + 3 + 3 * j ∉ S ∧ k + 3 + 3 * j + 1 ∉ S ∧ k + 3 + 3 * j + 2 ∉ S) : PSm s k m := fun j hj => ⟨(h j hj).1.fr f (hk j hj).1, (h j hj).2.1.fr f (hk j hj).2.1, (h j hj).2.2.fr f (hk j hj).2.2⟩
theorem PSm.fA {σ s : Hp} {S : List Nat} {k m : Nat} (h : PSm σ k m) (f : fA S σ s) (hl : k + 3 + 3 * m ≤ σ.1) (hk : ∀ j, j < m → k + 3 + 3 * j ∉ S ∧ k + 3 + 3 * j + 1 ∉ S ∧ k + 3 + 3 * j + 2 ∉ S) : PSm s k m := fun j hj => ⟨(h j hj).1.fA f (by omega) (hk j hj).1, (h j hj).2.1.fA f (by omega) (hk j hj).2.1, (h j hj).2.2.fA f (by omega) (hk j hj).2.2⟩
theorem lX4_init {G : Gx} {d : Nat} (hd : 2 ≤ d) {σ0 : Hp} {k : Nat} (hσ0 : σ0.1 = k + 1) : ∀ (x : Nat) (i : Nat) (σ : Hp), i + x = 12 → σ.1 = k + 3 + 3 * i → OB σ k 4 (paF k 0 0) → ARP σ (k + 1) 3 12 i (fun i => k + 3 + 3 * i) → ARP σ (k + 2) 4 12 i (fun i => k + 3 + 3 * i + 2) → PSm σ k i → fA [k] σ0 σ → Wp G mX4_init d 24 [.ref k, .int (nI i)] [] σ (3 * x) (17 * x) (pV fun s => s.1 = k + 39 ∧ fA [k] σ0 s ∧ OB s k 4 (paF k 0 0) ∧ AR s (k + 1) 3 12 (fun i => k + 3 + 3 * i) ∧ AR s (k + 2) 4 12 (fun i => k + 3 + 3 * i + 2) ∧ PSm s k 12) := by
  obtain ⟨d0, hdd⟩ : ∃ e, d = e + 1 := ⟨d - 1, by omega⟩
  intro x
  induction x with
  | zero =>
    intro i σ h hs hO hR1 hR2 hM hF
    obtain rfl : i = 12 := by omega
    refine wp_iload_n (atd dX4_init 12 rfl) rfl ?_
    refine wp_bipush (v := nI 12) (atd dX4_init 13 rfl) (by decide) ?_
    refine wp_icmpN_ge (tgt := 62) (atd dX4_init 14 rfl) (by decide) (by omega) (by omega) (fun c_27 => ?_) (fun c_27 => ?_)
    ·
      refine wp_vretv (atd dX4_init 31 rfl) rfl ?_
      exact ⟨hs, hF, hO, hR1.all, hR2.all, hM⟩
    · exfalso; omega
  | succ x ih =>
    intro i σ h hs hO hR1 hR2 hM hF
    refine wp_iload_n (atd dX4_init 12 rfl) rfl ?_
    refine wp_bipush (v := nI 12) (atd dX4_init 13 rfl) (by decide) ?_
    refine wp_icmpN_ge (tgt := 62) (atd dX4_init 14 rfl) (by decide) (by omega) (by omega) (fun c_27 => ?_) (fun c_27 => ?_)
    · exfalso; omega
    ·
      refine wp_aload_n (atd dX4_init 15 rfl) rfl rfl ?_
      refine wp_get fX4_11 (atd dX4_init 16 rfl) hO rfl ?_
      refine wp_iload_n (atd dX4_init 17 rfl) rfl ?_
      refine wp_newOb (mc := 3 * x + 2) (ms := 17 * x + 15) (fs := [.int 0, .null]) kcX3 (atd dX4_init 18 rfl) kX4_9 nX3 oX3 (by decide) (by decide) (fun σ f_35 hz hNe => ?_)
      rw [hs] at hNe ⊢
      have hs : σ.1 = k + 3 + 3 * i + 1 := by omega
      have hO := hO.fA f_35 (by omega) List.not_mem_nil
      have hR1 := hR1.fA f_35 (by omega) List.not_mem_nil
      have hR2 := hR2.fA f_35 (by omega) List.not_mem_nil
      have hF := hF.tr f_35 (by simp)
      have hM := hM.fA f_35 (by omega) (fun j hj => ⟨List.not_mem_nil, List.not_mem_nil, List.not_mem_nil⟩)
      refine wp_dup (atd dX4_init 19 rfl) rfl ?_
      refine wp_cIv hdd [] (atd dX4_init 20 rfl) iX3_init lX4_21 rfl rfl (Nat.le_of_ble_eq_true rfl) (eX3_init (by omega) hs hNe) (show 3 * x + 2 = 1 + (3 * x + 1) by omega) (show 17 * x + 15 = 9 + (17 * x + 6) by omega) (fun s_39 h_39 => ?_)
      obtain ⟨hs, f_39, hNe, hNa⟩ := h_39
      have hO := hO.fA f_39 (by omega) (by simp only [List.mem_cons, List.not_mem_nil, or_false]; omega)
      have hR1 := hR1.fA f_39 (by omega) (by simp only [List.mem_cons, List.not_mem_nil, or_false]; omega)
      have hR2 := hR2.fA f_39 (by omega) (by simp only [List.mem_cons, List.not_mem_nil, or_false]; omega)
      have hM := hM.fA f_39 (by omega) (fun j hj => ⟨by simp only [List.mem_cons, List.not_mem_nil, or_false]; omega, by simp only [List.mem_cons, List.not_mem_nil, or_false]; omega, by simp only [List.mem_cons, List.not_mem_nil, or_false]; omega⟩)
      have hF := hF.trN f_39 (fun j hj => by simp only [List.mem_cons, List.not_mem_nil, or_false] at hj ⊢; omega)
      have hs : s_39.1 = k + 3 + 3 * i + 2 := by omega
      refine wp_aastP kcX3 (atd dX4_init 21 rfl) hR1 (by decide) rfl (by omega) (by decide) hNe rfl (fun σ f_42 hR1 => ?_)
      have hO := hO.fr f_42 (by first | decide | (simp only [List.mem_cons, List.not_mem_nil, or_false]; omega))
      have hF := hF.trN f_42.A (fun j hj => by simp only [List.mem_cons, List.not_mem_nil, or_false] at hj ⊢; omega)
      have hR2 := hR2.fr f_42 (by simp only [List.mem_cons, List.not_mem_nil, or_false]; omega)
      have hNe := hNe.fr f_42 (by simp only [List.mem_cons, List.not_mem_nil, or_false]; omega)
      have hNa := hNa.fr f_42 (by simp only [List.mem_cons, List.not_mem_nil, or_false]; omega)
      have hM := hM.fr f_42 (fun j hj => ⟨by simp only [List.mem_cons, List.not_mem_nil, or_false]; omega, by simp only [List.mem_cons, List.not_mem_nil, or_false]; omega, by simp only [List.mem_cons, List.not_mem_nil, or_false]; omega⟩)
      have hs : σ.1 = k + 3 + 3 * i + 2 := by rw [f_42.1]; exact hs
      refine wp_aload_n (atd dX4_init 22 rfl) rfl rfl ?_
      refine wp_get fX4_17 (atd dX4_init 23 rfl) hO rfl ?_
      refine wp_iload_n (atd dX4_init 24 rfl) rfl ?_
      refine wp_newOb (mc := 3 * x) (ms := 17 * x) (fs := [.int 0, .int 0, .int 0, .int 0, .int 0, .int 0]) kcX6 (atd dX4_init 25 rfl) kX4_15 nX6 oX6 (by decide) (by decide) (fun σ f_48 hz hSe => ?_)
      rw [hs] at hSe ⊢
      have hs : σ.1 = k + 3 + 3 * i + 3 := by omega
      have hO := hO.fA f_48 (by omega) List.not_mem_nil
      have hR1 := hR1.fA f_48 (by omega) List.not_mem_nil
      have hR2 := hR2.fA f_48 (by omega) List.not_mem_nil
      have hNe := hNe.fA f_48 (by omega) List.not_mem_nil
      have hNa := hNa.fA f_48 (by omega) List.not_mem_nil
      have hF := hF.tr f_48 (by simp)
      have hM := hM.fA f_48 (by omega) (fun j hj => ⟨List.not_mem_nil, List.not_mem_nil, List.not_mem_nil⟩)
      refine wp_dup (atd dX4_init 26 rfl) rfl ?_
      refine wp_cIv hdd [] (atd dX4_init 27 rfl) iX6_init lX4_22 rfl rfl (Nat.le_of_ble_eq_true rfl) (eX6_init (by omega)) (Nat.zero_add _).symm (Nat.zero_add _).symm (fun s_52 h_52 => ?_)
      obtain rfl : s_52 = σ := h_52
      refine wp_aastP kcX6 (atd dX4_init 28 rfl) hR2 (by decide) rfl (by omega) (by decide) hSe rfl (fun σ f_55 hR2 => ?_)
      have hO := hO.fr f_55 (by first | decide | (simp only [List.mem_cons, List.not_mem_nil, or_false]; omega))
      have hF := hF.trN f_55.A (fun j hj => by simp only [List.mem_cons, List.not_mem_nil, or_false] at hj ⊢; omega)
      have hR1 := hR1.fr f_55 (by simp only [List.mem_cons, List.not_mem_nil, or_false]; omega)
      have hNe := hNe.fr f_55 (by simp only [List.mem_cons, List.not_mem_nil, or_false]; omega)
      have hNa := hNa.fr f_55 (by simp only [List.mem_cons, List.not_mem_nil, or_false]; omega)
      have hSe := hSe.fr f_55 (by simp only [List.mem_cons, List.not_mem_nil, or_false]; omega)
      have hM := hM.fr f_55 (fun j hj => ⟨by simp only [List.mem_cons, List.not_mem_nil, or_false]; omega, by simp only [List.mem_cons, List.not_mem_nil, or_false]; omega, by simp only [List.mem_cons, List.not_mem_nil, or_false]; omega⟩)
      have hM : PSm σ k (i + 1) := fun j hj => by
        by_cases e : j = i
        · subst e; exact ⟨hNe, hNa, hSe⟩
        · exact hM j (by omega)
      have hs : σ.1 = k + 3 + 3 * (i + 1) := by rw [f_55.1, hs]; omega
      refine wp_iincN (c := 1) (atd dX4_init 29 rfl) rfl ?_
      refine wp_goto (tgt := 24) (atd dX4_init 30 rfl) (by decide) ?_
      exact ih (i + 1) _ (by omega) hs hO hR1 hR2 hM hF
theorem eX4_init {G : Gx} {d : Nat} {σ : Hp} (hd : 3 ≤ d) {k : Nat} (hs : σ.1 = k + 1) (hO : OB σ k 4 [.null, .null, .int 0, .int 0]) : Cl G mX4_init d [.ref k] σ 38 228 (pV fun s => s.1 = k + 39 ∧ fA [k] σ s ∧ OB s k 4 (paF k 0 0) ∧ AR s (k + 1) 3 12 (fun i => k + 3 + 3 * i) ∧ AR s (k + 2) 4 12 (fun i => k + 3 + 3 * i + 2) ∧ PSm s k 12) := by
  obtain ⟨d0, hdd⟩ : ∃ e, d = e + 1 := ⟨d - 1, by omega⟩
  refine cl_of (by decide) (by simp [Value.category]) (Nat.le_of_ble_eq_true rfl) ?_
  show Wp G mX4_init d 0 [.ref k, .double 0] [] σ 38 228 _
  have hF : fA [k] σ σ := fA.rf
  refine wp_aload_n (atd dX4_init 0 rfl) rfl rfl ?_
  refine wp_objInit (atd dX4_init 1 rfl) lX4_1 (by omega) (Nat.le_of_ble_eq_true rfl) ?_
  refine wp_aload_n (atd dX4_init 2 rfl) rfl rfl ?_
  refine wp_bipush (v := nI 12) (atd dX4_init 3 rfl) (by decide) ?_
  refine wp_newqA (mc := 37) (ms := 216) (t := 3) (g := (fun i => k + 3 + 3 * i)) (atd dX4_init 4 rfl) kX4_9 (by decide) rfl (by decide) (by decide) (fun σ f_7 hz hR1 => ?_)
  rw [hs] at hR1 ⊢
  have hs : σ.1 = k + 2 := by omega
  have hO := hO.fA f_7 (by omega) List.not_mem_nil
  have hF := hF.tr f_7 (by simp)
  refine wp_putFX FfX4_11 (atd dX4_init 5 rfl) rfl hO rfl (Nat.le_of_ble_eq_true rfl) (fun σ f_10 hO => ?_)
  have hF := hF.trN f_10.A (fun j hj => by simp only [List.mem_cons, List.not_mem_nil, or_false] at hj ⊢; omega)
  have hR1 := hR1.fr f_10 (by simp only [List.mem_cons, List.not_mem_nil, or_false]; omega)
  have hs : σ.1 = k + 2 := by rw [f_10.1]; exact hs
  refine wp_aload_n (atd dX4_init 6 rfl) rfl rfl ?_
  refine wp_bipush (v := nI 12) (atd dX4_init 7 rfl) (by decide) ?_
  refine wp_newqA (mc := 36) (ms := 204) (t := 4) (g := (fun i => k + 3 + 3 * i + 2)) (atd dX4_init 8 rfl) kX4_15 (by decide) rfl (by decide) (by decide) (fun σ f_16 hz hR2 => ?_)
  rw [hs] at hR2 ⊢
  have hs : σ.1 = k + 3 := by omega
  have hO := hO.fA f_16 (by omega) List.not_mem_nil
  have hR1 := hR1.fA f_16 (by omega) List.not_mem_nil
  have hF := hF.tr f_16 (by simp)
  refine wp_putFX FfX4_17 (atd dX4_init 9 rfl) rfl hO rfl (Nat.le_of_ble_eq_true rfl) (fun σ f_19 hO => ?_)
  have hF := hF.trN f_19.A (fun j hj => by simp only [List.mem_cons, List.not_mem_nil, or_false] at hj ⊢; omega)
  have hR1 := hR1.fr f_19 (by simp only [List.mem_cons, List.not_mem_nil, or_false]; omega)
  have hR2 := hR2.fr f_19 (by simp only [List.mem_cons, List.not_mem_nil, or_false]; omega)
  have hs : σ.1 = k + 3 := by rw [f_19.1]; exact hs
  refine wp_iconst (v := nI 0) (atd dX4_init 10 rfl) (by decide) ?_
  refine wp_istore_n (atd dX4_init 11 rfl) (Nat.le_of_ble_eq_true rfl) ?_
  exact lX4_init (by omega) (by assumption) 12 0 σ (by omega) (by omega) hO hR1 hR2 (fun j hj => absurd hj (Nat.not_lt_zero j)) hF
