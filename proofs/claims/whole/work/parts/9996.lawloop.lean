/-! distance and corner in the law; the loop; the start -/
theorem MSt.kp {S : Ab} {σ s : Hp} (h : MSt S σ σ 83) (f : kpR 83 102 σ s) : MSt S s s 83 := by
  obtain ⟨α, B, hM, hQ⟩ := h
  refine ⟨α, B, ⟨⟨(f 83 (by decide) (by decide)).trans hM.1.1, fun j h1 h2 => (f (83 + j) (by omega) (by omega)).trans (hM.1.2 j h1 h2)⟩, rfl, fun _ _ => rfl⟩, hQ⟩
theorem lw_T {T N : Nat} (h : T + (N + 1) * 2652510 + 2900000 < 2 ^ 31) : T + N * 2652510 + 2900000 < 2 ^ 31 := Nat.lt_of_le_of_lt (Nat.add_le_add_right (Nat.add_le_add_left (Nat.mul_le_mul_right _ (Nat.le_succ N)) _) _) h
theorem lg_cmp_self (x : Int64) : lg_cmp x x = nI 0 := by
  unfold lg_cmp
  simp
  rfl
section LawD
variable {G : Gx} {i N : Nat} {σ : Hp} {S : Ab} {mk : Nat → Option Nat} {T : Nat} {v5 v6 : Value}
theorem lw_distance (hL : G.2.2.2.1 ≤ 3072) (hi : i + 6 ≤ G.2.2.2.1) (ih : LawOK G N (i + 6)) (hI : LI S σ mk T) (hT : T + (N + 1) * 2652510 + 2900000 < 2 ^ 31) : Wp G mL_law 100 382 (lwL i v5 v6) [] σ ((N + 1) * 24 + scC (mk 0)) ((N + 1) * 5022 + scS (mk 0)) lwQ := by
  obtain ⟨hV, hS, hM, g, hg⟩ := hI
  refine wp_aload_n (atd dLw8 0 rfl) rfl rfl ?_
  refine law_ld (j := 1) (n := 1) (by decide) (atd dLw8 1 rfl) (atd dLw8 2 rfl) (atd dLw8 3 rfl) (atd dLw8 4 rfl) (atd dLw8 5 rfl) hL (by omega) ?_
  refine law_ld (j := 2) (n := 2) (by decide) (atd dLw8 6 rfl) (atd dLw8 7 rfl) (atd dLw8 8 rfl) (atd dLw8 9 rfl) (atd dLw8 10 rfl) hL (by omega) ?_
  refine wp_aload_n (atd dLw8 11 rfl) rfl rfl ?_
  rw [show (N + 1) * 24 + scC (mk 0) = 1 + ((N + 1) * 24 + scC (mk 0) - 1) by omega, show (N + 1) * 5022 + scS (mk 0) = 6 + ((N + 1) * 5022 + scS (mk 0) - 6) by omega]
  refine wp_callSH (M := mL_law) (d := 99) [_, _, _, _] (atd dLw8 12 rfl) iL_distance lkL_49 rfl rfl (by decide) (eL_distance (by decide) hV hS hg) ?_
  rintro v s1 ⟨r1, rfl, rfl, g2, rfl, hg2⟩
  refine wp_istore (atd dLw8 13 rfl) (Nat.le_of_ble_eq_true rfl) ?_
  show Wp G mL_law 100 401 (lwL i (.int (bI (¬ (isP (G.2.2.2.2 (i + 1)) S.n ∧ isP (G.2.2.2.2 (i + 2)) S.n)))) v6) [] _ _ _ lwQ
  have hS1 : CSt S (hset σ 103 (.inl (2, 1, .inr (.inl g2)))) mk T := hS.ref rfl (fun k hk => hset_ne (by omega))
  have hM1 : MSt S (hset σ 103 (.inl (2, 1, .inr (.inl g2)))) (hset σ 103 (.inl (2, 1, .inr (.inl g2)))) 83 := hM.kp (fun j h1 h2 => hset_ne (by omega))
  have hG1 : (hset σ 103 (.inl (2, 1, .inr (.inl g2)))).2 103 = .inl (2, 1, .inr (.inl g2)) := hset_eq
  generalize hset σ 103 (.inl (2, 1, .inr (.inl g2))) = s1 at hS1 hM1 hG1
  refine wp_aload_n (atd dLw8 14 rfl) rfl rfl ?_
  refine law_ld (j := 1) (n := 1) (by decide) (atd dLw8 15 rfl) (atd dLw8 16 rfl) (atd dLw8 17 rfl) (atd dLw8 18 rfl) (atd dLw8 19 rfl) hL (by omega) ?_
  refine law_ld (j := 2) (n := 2) (by decide) (atd dLw8 20 rfl) (atd dLw8 21 rfl) (atd dLw8 22 rfl) (atd dLw8 23 rfl) (atd dLw8 24 rfl) hL (by omega) ?_
  obtain ⟨α0, B0, hMA0, -⟩ := id hM1
  refine wp_cVi (d := 100) (d0 := 99) rfl [_, _] (atd dLw8 25 rfl) iX12_distance lL_54 rfl rfl (by decide) hMA0.1.1 rfl (zX12_distance (by decide) hV hM1) ?_
  rintro r2 s2 ⟨rfl, α, B, hMA, hQ, hα⟩
  refine wp_istore (atd dLw8 26 rfl) (Nat.le_of_ble_eq_true rfl) ?_
  show Wp G mL_law 100 419 (lwL i (.int (bI (¬ (isP (G.2.2.2.2 (i + 1)) S.n ∧ isP (G.2.2.2.2 (i + 2)) S.n)))) (.int (dsA S (G.2.2.2.2 (i + 1)) (G.2.2.2.2 (i + 2))))) [] _ _ _ lwQ
  have hMs : MA s2 s2 83 α B := ⟨hMA.1, rfl, fun _ _ => rfl⟩
  refine wp_aload_n (atd dLw8 27 rfl) rfl rfl ?_
  refine wp_cVi (d := 100) (d0 := 99) rfl [] (atd dLw8 28 rfl) iX12_thrown lL_55 rfl rfl (by decide) hMs.1.1 rfl (eX12_thrown (by decide) hMs) ?_
  rintro r3 s3 ⟨rfl, rfl⟩
  obtain ⟨o1, o2⟩ := hMA.out
  refine wp_iload (atd dLw8 29 rfl) rfl ?_
  rw [hα]
  refine wp_icmp_eq (tgt := 430) (atd dLw8 30 rfl) (by decide) (fun _ => ?_) (fun z => absurd rfl z)
  have fin : Wp G mL_law 100 447 (lwL i (.int (bI (¬ (isP (G.2.2.2.2 (i + 1)) S.n ∧ isP (G.2.2.2.2 (i + 2)) S.n)))) (.int (dsA S (G.2.2.2.2 (i + 1)) (G.2.2.2.2 (i + 2))))) [] s3 ((N + 1) * 24 + scC (mk 0) - 1) ((N + 1) * 5022 + scS (mk 0) - 6) lwQ := by
    refine wp_goto (tgt := 1421) (atd dLw8 44 rfl) (by decide) ?_
    exact law_nx ih ⟨hV, hS1.ref o1 (fun k hk => o2 k (by omega)), ⟨α, B, hMs, hQ⟩, g2, (o2 103 (by decide)).trans hG1⟩ (lw_T hT) (by omega) (by omega)
  refine wp_iload (atd dLw8 33 rfl) rfl ?_
  refine wp_ifB_ne (tgt := 447) (atd dLw8 34 rfl) (by decide) (fun _ => fin) (fun z => ?_)
  have hab := Classical.not_not.mp z
  refine wp_aload_n (atd dLw8 35 rfl) rfl rfl ?_
  refine wp_iconst (v := nI 0) (atd dLw8 36 rfl) (by decide) ?_
  refine wp_lald (atd dLw8 37 rfl) ((o2 103 (by decide)).trans hG1) (vp_in_nI (by decide) (by decide)) ?_
  rw [nI_clamp (by decide), hg2 hab]
  refine wp_iload (atd dLw8 38 rfl) rfl ?_
  refine wp_i2l (atd dLw8 39 rfl) ?_
  refine wp_lcmp (atd dLw8 40 rfl) ?_
  rw [lg_cmp_self]
  exact wp_ifN_eq (tgt := 447) (atd dLw8 41 rfl) (by decide) (by decide) (fun _ => fin) (fun z => absurd z (by decide))
theorem lw_corner (hL : G.2.2.2.1 ≤ 3072) (hi : i + 6 ≤ G.2.2.2.1) (ih : LawOK G N (i + 6)) (hI : LI S σ mk T) (hT : T + (N + 1) * 2652510 + 2900000 < 2 ^ 31) : Wp G mL_law 100 450 (lwL i v5 v6) [] σ ((N + 1) * 24 + scC (mk 0)) ((N + 1) * 5022 + scS (mk 0)) lwQ := by
  obtain ⟨hV, hS, hM, g, hg⟩ := hI
  refine wp_aload_n (atd dLw9 0 rfl) rfl rfl ?_
  refine law_ld (j := 1) (n := 1) (by decide) (atd dLw9 1 rfl) (atd dLw9 2 rfl) (atd dLw9 3 rfl) (atd dLw9 4 rfl) (atd dLw9 5 rfl) hL (by omega) ?_
  refine wp_aload_n (atd dLw9 6 rfl) rfl rfl ?_
  rw [show (N + 1) * 24 + scC (mk 0) = 1 + ((N + 1) * 24 + scC (mk 0) - 1) by omega, show (N + 1) * 5022 + scS (mk 0) = 6 + ((N + 1) * 5022 + scS (mk 0) - 6) by omega]
  refine wp_callSH (M := mL_law) (d := 99) [_, _, _] (atd dLw9 7 rfl) iL_corner lkL_58 rfl rfl (by decide) (eL_corner (by decide) hV hS hg) ?_
  rintro v s1 ⟨r1, rfl, rfl, g2, rfl, hg2⟩
  refine wp_istore (atd dLw9 8 rfl) (Nat.le_of_ble_eq_true rfl) ?_
  show Wp G mL_law 100 463 (lwL i (.int (bI (¬ (isP (G.2.2.2.2 (i + 1)) S.n)))) v6) [] _ _ _ lwQ
  have hS1 : CSt S (hset σ 103 (.inl (2, 1, .inr (.inl g2)))) mk T := hS.ref rfl (fun k hk => hset_ne (by omega))
  have hM1 : MSt S (hset σ 103 (.inl (2, 1, .inr (.inl g2)))) (hset σ 103 (.inl (2, 1, .inr (.inl g2)))) 83 := hM.kp (fun j h1 h2 => hset_ne (by omega))
  have hG1 : (hset σ 103 (.inl (2, 1, .inr (.inl g2)))).2 103 = .inl (2, 1, .inr (.inl g2)) := hset_eq
  generalize hset σ 103 (.inl (2, 1, .inr (.inl g2))) = s1 at hS1 hM1 hG1
  refine wp_aload_n (atd dLw9 9 rfl) rfl rfl ?_
  refine law_ld (j := 1) (n := 1) (by decide) (atd dLw9 10 rfl) (atd dLw9 11 rfl) (atd dLw9 12 rfl) (atd dLw9 13 rfl) (atd dLw9 14 rfl) hL (by omega) ?_
  obtain ⟨α0, B0, hMA0, -⟩ := id hM1
  refine wp_cVi (d := 100) (d0 := 99) rfl [_] (atd dLw9 15 rfl) iX12_corner lL_61 rfl rfl (by decide) hMA0.1.1 rfl (zX12_corner (by decide) hV hM1) ?_
  rintro r2 s2 ⟨rfl, α, B, hMA, hQ, hα⟩
  refine wp_istore (atd dLw9 16 rfl) (Nat.le_of_ble_eq_true rfl) ?_
  show Wp G mL_law 100 475 (lwL i (.int (bI (¬ (isP (G.2.2.2.2 (i + 1)) S.n)))) (.int (coA S (G.2.2.2.2 (i + 1))))) [] _ _ _ lwQ
  have hMs : MA s2 s2 83 α B := ⟨hMA.1, rfl, fun _ _ => rfl⟩
  refine wp_aload_n (atd dLw9 17 rfl) rfl rfl ?_
  refine wp_cVi (d := 100) (d0 := 99) rfl [] (atd dLw9 18 rfl) iX12_thrown lL_55 rfl rfl (by decide) hMs.1.1 rfl (eX12_thrown (by decide) hMs) ?_
  rintro r3 s3 ⟨rfl, rfl⟩
  obtain ⟨o1, o2⟩ := hMA.out
  refine wp_iload (atd dLw9 19 rfl) rfl ?_
  rw [hα]
  refine wp_icmp_eq (tgt := 486) (atd dLw9 20 rfl) (by decide) (fun _ => ?_) (fun z => absurd rfl z)
  have fin : Wp G mL_law 100 503 (lwL i (.int (bI (¬ (isP (G.2.2.2.2 (i + 1)) S.n)))) (.int (coA S (G.2.2.2.2 (i + 1))))) [] s3 ((N + 1) * 24 + scC (mk 0) - 1) ((N + 1) * 5022 + scS (mk 0) - 6) lwQ := by
    refine wp_goto (tgt := 1421) (atd dLw9 34 rfl) (by decide) ?_
    exact law_nx ih ⟨hV, hS1.ref o1 (fun k hk => o2 k (by omega)), ⟨α, B, hMs, hQ⟩, g2, (o2 103 (by decide)).trans hG1⟩ (lw_T hT) (by omega) (by omega)
  refine wp_iload (atd dLw9 23 rfl) rfl ?_
  refine wp_ifB_ne (tgt := 503) (atd dLw9 24 rfl) (by decide) (fun _ => fin) (fun z => ?_)
  have hab := Classical.not_not.mp z
  refine wp_aload_n (atd dLw9 25 rfl) rfl rfl ?_
  refine wp_iconst (v := nI 0) (atd dLw9 26 rfl) (by decide) ?_
  refine wp_lald (atd dLw9 27 rfl) ((o2 103 (by decide)).trans hG1) (vp_in_nI (by decide) (by decide)) ?_
  rw [nI_clamp (by decide), hg2 hab]
  refine wp_iload (atd dLw9 28 rfl) rfl ?_
  refine wp_i2l (atd dLw9 29 rfl) ?_
  refine wp_lcmp (atd dLw9 30 rfl) ?_
  rw [lg_cmp_self]
  exact wp_ifN_eq (tgt := 503) (atd dLw9 31 rfl) (by decide) (by decide) (fun _ => fin) (fun z => absurd z (by decide))
end LawD
theorem and63 (x : Int32) : ∃ j, j < 64 ∧ x &&& nI 63 = nI j := by
  refine ⟨(x &&& nI 63).toBitVec.toNat, ?_, ?_⟩
  · show (x.toBitVec &&& 63#32).toNat < 64
    rw [BitVec.toNat_and]
    exact Nat.lt_of_le_of_lt Nat.and_le_right (by decide)
  · apply Int32.toBitVec_inj.1
    show (x &&& nI 63).toBitVec = BitVec.ofNat 32 (x &&& nI 63).toBitVec.toNat
    simp
theorem lw_gt {L i : Nat} (hL : L ≤ 3072) (hi : i ≤ 3072) : nI L - nI 6 < nI i ↔ L < i + 6 := by
  rw [Int32.lt_iff_toInt_lt, nI_toInt (by omega), Int32.toInt_sub, nI_toInt (by omega), nI_toInt (by decide)]
  rw [Int.bmod_eq_of_le (by omega) (by omega)]
  omega
theorem law_loop {G : Gx} (hL : G.2.2.2.1 ≤ 3072) : ∀ (N i : Nat), i ≤ 3072 → G.2.2.2.1 < i + 6 * N + 6 → LawOK G N i
  | 0, i, hi, hN => by
    intro σ S mk T v5 v6 hI hT
    refine wp_iload (atd dLw1 0 rfl) rfl ?_
    refine wp_aload_n (atd dLw1 1 rfl) rfl rfl ?_
    refine wp_slen (atd dLw1 2 rfl) ?_
    refine wp_bipush (v := nI 6) (atd dLw1 3 rfl) (by decide) ?_
    refine wp_isub (atd dLw1 4 rfl) ?_
    refine wp_icmp_gt (tgt := 1427) (atd dLw1 5 rfl) (by decide) (fun _ => ?_) (fun z => absurd ((lw_gt hL hi).mpr (by omega)) z)
    refine wp_iconst (v := nI 1) (atd dLw37 2 rfl) (by decide) ?_
    exact wp_iret (atd dLw37 3 rfl) rfl rfl rfl
  | N + 1, i, hi, hN => by
    intro σ S mk T v5 v6 hI hT
    refine wp_iload (atd dLw1 0 rfl) rfl ?_
    refine wp_aload_n (atd dLw1 1 rfl) rfl rfl ?_
    refine wp_slen (atd dLw1 2 rfl) ?_
    refine wp_bipush (v := nI 6) (atd dLw1 3 rfl) (by decide) ?_
    refine wp_isub (atd dLw1 4 rfl) ?_
    refine wp_icmp_gt (tgt := 1427) (atd dLw1 5 rfl) (by decide) (fun _ => ?_) (fun z => ?_)
    · refine wp_iconst (v := nI 1) (atd dLw37 2 rfl) (by decide) ?_
      exact wp_iret (atd dLw37 3 rfl) rfl rfl rfl
    · have h6 : i + 6 ≤ G.2.2.2.1 := Classical.byContradiction fun h => z ((lw_gt hL hi).mpr (by omega))
      have ih : LawOK G N (i + 6) := law_loop hL N (i + 6) (by omega) (by omega)
      refine wp_aload_n (atd dLw1 6 rfl) rfl rfl ?_
      refine wp_iload (atd dLw1 7 rfl) rfl ?_
      refine wp_sald (atd dLw1 8 rfl) (vp_in_nI (by omega) (by omega)) ?_
      refine wp_bipush (v := nI 63) (atd dLw1 9 rfl) (by decide) ?_
      refine wp_iand (atd dLw1 10 rfl) ?_
      obtain ⟨j, hj, ej⟩ := and63 (G.2.2.2.2 (nI i).toNatClampNeg)
      rw [ej]
      by_cases h35 : j < 35
      · rcases (show j = 0 ∨ j = 1 ∨ j = 2 ∨ j = 3 ∨ j = 4 ∨ j = 5 ∨ j = 6 ∨ j = 7 ∨ j = 8 ∨ j = 9 ∨ j = 10 ∨ j = 11 ∨ j = 12 ∨ j = 13 ∨ j = 14 ∨ j = 15 ∨ j = 16 ∨ j = 17 ∨ j = 18 ∨ j = 19 ∨ j = 20 ∨ j = 21 ∨ j = 22 ∨ j = 23 ∨ j = 24 ∨ j = 25 ∨ j = 26 ∨ j = 27 ∨ j = 28 ∨ j = 29 ∨ j = 30 ∨ j = 31 ∨ j = 32 ∨ j = 33 ∨ j = 34 by omega) with rfl | rfl | rfl | rfl | rfl | rfl | rfl | rfl | rfl | rfl | rfl | rfl | rfl | rfl | rfl | rfl | rfl | rfl | rfl | rfl | rfl | rfl | rfl | rfl | rfl | rfl | rfl | rfl | rfl | rfl | rfl | rfl | rfl | rfl | rfl
        · exact wp_tblIn (off := 156) (tgt := 196) (atd dLw1 11 rfl) (by decide) (by decide) (by decide) (by decide) (lw_feed hL h6 ih hI hT)
        · exact wp_tblIn (off := 229) (tgt := 269) (atd dLw1 11 rfl) (by decide) (by decide) (by decide) (by decide) (lw_end hL h6 ih hI hT)
        · exact wp_tblIn (off := 254) (tgt := 294) (atd dLw1 11 rfl) (by decide) (by decide) (by decide) (by decide) (lw_net hL h6 ih hI hT)
        · exact wp_tblIn (off := 267) (tgt := 307) (atd dLw1 11 rfl) (by decide) (by decide) (by decide) (by decide) (lw_fault hL h6 ih hI hT)
        · exact wp_tblIn (off := 292) (tgt := 332) (atd dLw1 11 rfl) (by decide) (by decide) (by decide) (by decide) (lw_about hL h6 ih hI hT)
        · exact wp_tblIn (off := 317) (tgt := 357) (atd dLw1 11 rfl) (by decide) (by decide) (by decide) (by decide) (lw_near hL h6 ih hI hT)
        · exact wp_tblIn (off := 342) (tgt := 382) (atd dLw1 11 rfl) (by decide) (by decide) (by decide) (by decide) (lw_distance hL h6 ih hI hT)
        · exact wp_tblIn (off := 410) (tgt := 450) (atd dLw1 11 rfl) (by decide) (by decide) (by decide) (by decide) (lw_corner hL h6 ih hI hT)
        · exact wp_tblIn (off := 466) (tgt := 506) (atd dLw1 11 rfl) (by decide) (by decide) (by decide) (by decide) (lw_goes hL h6 ih hI hT)
        · exact wp_tblIn (off := 491) (tgt := 531) (atd dLw1 11 rfl) (by decide) (by decide) (by decide) (by decide) (lw_left hL h6 ih hI hT)
        · exact wp_tblIn (off := 504) (tgt := 544) (atd dLw1 11 rfl) (by decide) (by decide) (by decide) (by decide) (lw_image hL h6 ih hI hT)
        · exact wp_tblIn (off := 529) (tgt := 569) (atd dLw1 11 rfl) (by decide) (by decide) (by decide) (by decide) (lw_fewest hL h6 ih hI hT)
        · exact wp_tblIn (off := 554) (tgt := 594) (atd dLw1 11 rfl) (by decide) (by decide) (by decide) (by decide) (lw_time hL h6 ih hI hT)
        · exact wp_tblIn (off := 591) (tgt := 631) (atd dLw1 11 rfl) (by decide) (by decide) (by decide) (by decide) (lw_start hL h6 ih hI hT)
        · exact wp_tblIn (off := 640) (tgt := 680) (atd dLw1 11 rfl) (by decide) (by decide) (by decide) (by decide) (lw_sure hL h6 ih hI hT)
        · exact wp_tblIn (off := 701) (tgt := 741) (atd dLw1 11 rfl) (by decide) (by decide) (by decide) (by decide) (lw_refusals hL h6 ih hI hT)
        · exact wp_tblIn (off := 738) (tgt := 778) (atd dLw1 11 rfl) (by decide) (by decide) (by decide) (by decide) (lw_refusal hL h6 ih hI hT)
        · exact wp_tblIn (off := 799) (tgt := 839) (atd dLw1 11 rfl) (by decide) (by decide) (by decide) (by decide) (lw_trial hL h6 ih hI hT)
        · exact wp_tblIn (off := 848) (tgt := 888) (atd dLw1 11 rfl) (by decide) (by decide) (by decide) (by decide) (lw_helps hL h6 ih hI hT)
        · exact wp_tblIn (off := 885) (tgt := 925) (atd dLw1 11 rfl) (by decide) (by decide) (by decide) (by decide) (lw_symmetries hL h6 ih hI hT)
        · exact wp_tblIn (off := 898) (tgt := 938) (atd dLw1 11 rfl) (by decide) (by decide) (by decide) (by decide) (lw_alike hL h6 ih hI hT)
        · exact wp_tblIn (off := 923) (tgt := 963) (atd dLw1 11 rfl) (by decide) (by decide) (by decide) (by decide) (lw_guard hL h6 ih hI hT)
        · exact wp_tblIn (off := 948) (tgt := 988) (atd dLw1 11 rfl) (by decide) (by decide) (by decide) (by decide) (lw_guards hL h6 ih hI hT)
        · exact wp_tblIn (off := 997) (tgt := 1037) (atd dLw1 11 rfl) (by decide) (by decide) (by decide) (by decide) (lw_sweep hL h6 ih hI hT)
        · exact wp_tblIn (off := 1022) (tgt := 1062) (atd dLw1 11 rfl) (by decide) (by decide) (by decide) (by decide) (lw_swept hL h6 ih hI hT)
        · exact wp_tblIn (off := 1071) (tgt := 1111) (atd dLw1 11 rfl) (by decide) (by decide) (by decide) (by decide) (lw_begin hL h6 ih hI hT)
        · exact wp_tblIn (off := 1144) (tgt := 1184) (atd dLw1 11 rfl) (by decide) (by decide) (by decide) (by decide) (lw_scene hL h6 ih hI hT)
        · exact wp_tblIn (off := 1169) (tgt := 1209) (atd dLw1 11 rfl) (by decide) (by decide) (by decide) (by decide) (lw_best hL h6 ih hI hT)
        · exact wp_tblIn (off := 1194) (tgt := 1234) (atd dLw1 11 rfl) (by decide) (by decide) (by decide) (by decide) (lw_safe hL h6 ih hI hT)
        · exact wp_tblIn (off := 1207) (tgt := 1247) (atd dLw1 11 rfl) (by decide) (by decide) (by decide) (by decide) (lw_hunt hL h6 ih hI hT)
        · exact wp_tblIn (off := 1256) (tgt := 1296) (atd dLw1 11 rfl) (by decide) (by decide) (by decide) (by decide) (lw_run hL h6 ih hI hT)
        · exact wp_tblIn (off := 1281) (tgt := 1321) (atd dLw1 11 rfl) (by decide) (by decide) (by decide) (by decide) (lw_play hL h6 ih hI hT)
        · exact wp_tblIn (off := 1306) (tgt := 1346) (atd dLw1 11 rfl) (by decide) (by decide) (by decide) (by decide) (lw_toggle hL h6 ih hI hT)
        · exact wp_tblIn (off := 1343) (tgt := 1383) (atd dLw1 11 rfl) (by decide) (by decide) (by decide) (by decide) (lw_become hL h6 ih hI hT)
        · exact wp_tblIn (off := 1368) (tgt := 1408) (atd dLw1 11 rfl) (by decide) (by decide) (by decide) (by decide) (lw_undo hL h6 ih hI hT)
      · refine wp_tblOut (tgt := 1421) (atd dLw1 11 rfl) (Or.inr ?_) (by decide) ?_
        · rw [nI_toInt (by omega)]; omega
        · exact law_nx ih hI (lw_T hT) (by omega) (by omega)
theorem law_main {G : Gx} (hL : G.2.2.2.1 ≤ 3072) : Wp G mL_law 100 0 [.float 1, .double 0, .double 0, .double 0, .double 0, .double 0, .double 0] [] (0, fun _ => .inr (0, [])) 601024 7293034 (fun v _ => v = some (.int 1)) := by
  refine wp_newOb (mc := 601023) (ms := 7293023) (fs := [.null, .null, .null, .null, .null, .null, .null, .null, .null, .null, .null]) kcX11 (atd dLw0 0 rfl) kL_8 nX11 oX11 (by decide) (by decide) (fun s1 f1 hz1 hO1 => ?_)
  refine wp_dup (atd dLw0 1 rfl) rfl ?_
  refine wp_cIv (M := mL_law) (d0 := 99) rfl [] (atd dLw0 2 rfl) iX11_init lL_19 rfl rfl (by decide) (eX11_init (by decide) hz1 hO1) (show 601023 = 82 + 600941 from rfl) (show 7293023 = 4207 + 7288816 from rfl) (fun s2 h2 => ?_)
  obtain ⟨hz2, hC2⟩ := h2
  refine wp_astore_n (atd dLw0 3 rfl) (Nat.le_of_ble_eq_true rfl) rfl ?_
  refine wp_newOb (mc := 600940) (ms := 7288758) (fs := mF0) kcX12 (atd dLw0 4 rfl) kL_20 nX12 oX12 (by decide) (by decide) (fun s3 f3 hz3 hO3 => ?_)
  rw [hz2] at hO3 hz3 ⊢
  refine wp_dup (atd dLw0 5 rfl) rfl ?_
  refine wp_cIv (M := mL_law) (d0 := 99) rfl [] (atd dLw0 6 rfl) iX12_init lL_22 rfl rfl (by decide) (eX12_init (by decide) hz3 hO3) (show 600940 = 19 + 600921 from rfl) (show 7288758 = 54967 + 7233791 from rfl) (fun s4 h4 => ?_)
  obtain ⟨hMA, hz4, hk4⟩ := h4
  refine wp_astore_n (atd dLw0 7 rfl) (Nat.le_of_ble_eq_true rfl) rfl ?_
  refine wp_iconst (v := nI 1) (atd dLw0 8 rfl) (by decide) ?_
  refine wp_newl (mc := 600920) (ms := 7233790) (N := 1) (atd dLw0 9 rfl) (by decide) (by decide) (by decide) ?_
  have f5 : fA [] s4 (hnew s4 (.inl (2, 1, .inr (.inl fun _ => 0)))) := fA.new
  have hG5 : (hnew s4 (.inl (2, 1, .inr (.inl fun _ => 0)))).2 s4.1 = .inl (2, 1, .inr (.inl fun _ => 0)) := hnew_at
  have hz5 : (hnew s4 (.inl (2, 1, .inr (.inl fun _ => 0)))).1 = s4.1 + 1 := rfl
  generalize hnew s4 (.inl (2, 1, .inr (.inl fun _ => 0))) = s5 at f5 hG5 hz5 ⊢
  rw [hz4] at hG5 hz5 ⊢
  refine wp_astore_n (atd dLw0 10 rfl) (Nat.le_of_ble_eq_true rfl) rfl ?_
  refine wp_iconst (v := nI 0) (atd dLw0 11 rfl) (by decide) ?_
  refine wp_istore (atd dLw0 12 rfl) (Nat.le_of_ble_eq_true rfl) ?_
  show Wp G mL_law 100 23 (lwL 0 (.double 0) (.double 0)) [] s5 600920 7233790 _
  have hk : kpR 0 82 s2 s5 := fun j _ h2 => (f5.2 j (by omega) (fun z => by cases z)).trans ((hk4 j (Or.inl (by omega))).trans (f3.2 j (by omega) (fun z => by cases z)))
  have hS : CSt AbI s5 mkN 0 := hC2.st hk (by omega)
  have hM : MSt AbI s5 s5 83 := MSt_0 ⟨⟨(f5.2 83 (by omega) (fun z => by cases z)).trans hMA.1.1, fun j h1 h2 => (f5.2 (83 + j) (by omega) (fun z => by cases z)).trans (hMA.1.2 j h1 h2)⟩, rfl, fun _ _ => rfl⟩
  exact wp_le (by decide) (by decide) (law_loop hL 512 0 (by omega) (by omega) s5 AbI mkN 0 (.double 0) (.double 0) ⟨AbI_V, hS, hM, _, hG5⟩ (by decide))
