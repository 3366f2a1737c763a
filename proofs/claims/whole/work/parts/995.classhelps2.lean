/-! helps -/
theorem GS_one {σ s : Hp} {g kn n T kd h : Nat} {nb : Nat → Nat} {wk : Nat → Option Nat} (hS : GS σ g kn nb n wk T) (hk : kd < 3) (h1 : 1 ≤ h) (h3 : h ≤ 3) (f : fr [g + 13 + gix kd h] σ s) (hwk : ∀ i a, wk i = some a → a ≠ g + 13 + gix kd h) (hm : GM s g nb n wk kd h) : GS s g kn nb n wk T := by
  obtain ⟨a1, a2, a3, ⟨w, hl, nw, b1, b2, b3, b4⟩, a5⟩ := hS
  have hx := gix_lt hk h1 h3
  have hf : ∀ j, j ≠ g + 13 + gix kd h → s.2 j = σ.2 j := fun j hj => f.2 j (by simp only [List.mem_cons, List.not_mem_nil, or_false]; exact hj)
  refine ⟨a1.kp (hf _ (by omega)), a2.kp (hf _ (by omega)), a3.kp (fun j h4 h5 => hf j (by omega)), ⟨w, hl, nw, b1.kp (hf _ (by omega)), b2.kp (hf _ (by omega)), b3.kp (hf _ (by omega)), b4⟩, fun kd2 h2 hk2 h12 h32 => ?_⟩
  by_cases e : gix kd2 h2 = gix kd h
  · have e1 : kd2 = kd := by unfold gix at e; omega
    have e2 : h2 = h := by unfold gix at e; omega
    subst e1; subst e2; exact hm
  · exact (a5 kd2 h2 hk2 h12 h32).kp (hf _ (by omega)) (fun a ha => hf a (hwk _ a ha))
theorem isH3 {b : Int32} (h : nI 3 ≤ b) (hb : isH b) : b = nI 3 := by
  have h1 := hb.2
  rw [Int32.le_iff_toInt_le, show (nI 3).toInt = 3 from by decide] at h
  exact Int32.toInt_inj.mp (by rw [show (nI 3).toInt = 3 from by decide]; omega)
theorem vX11_helps {G : Gx} {d : Nat} {σ : Hp} (hd : 8 ≤ d) {S : Ab} {mk : Nat → Option Nat} {T : Nat} (hV : AbV S) (hS : CSt S σ mk T) (hT0 : T + 2900000 < 2 ^ 31) {a b : Int32} : Cl G mX11_helps d [.ref 0, .int a, .int b] σ 24 5022 (pI fun r s => r = gmF a b S.n (fun kd h => hlF S.nb S.n kd h) (-1) ∧ fK σ s ∧ ∃ mk2, mk2 0 = mk 0 ∧ CSt S s mk2 (T + 2652510)) := by
  obtain ⟨d0, hdd⟩ : ∃ e, d = e + 1 := ⟨d - 1, by omega⟩
  refine cl_of (by decide) (by simp [Value.category]) (Nat.le_of_ble_eq_true rfl) ?_
  show Wp G mX11_helps d 0 [.ref 0, .int a, .int b, .double 0] [] σ 24 5022 _
  have hH := hS.1.2.2.2
  have hn := hV.1.1.1
  have hGo := hS.2.2.1.1.1
  refine wp_iload_n (atd dX11_helps 0 rfl) rfl ?_
  refine wp_iconst (v := nI 3) (atd dX11_helps 1 rfl) (by decide) ?_
  refine wp_icmp_ge (tgt := 17) (atd dX11_helps 2 rfl) (by decide) (fun c_2 => ?_) (fun c_2 => ?_)
  ·
    refine wp_null (atd dX11_helps 9 rfl) ?_
    refine wp_astore_n (atd dX11_helps 10 rfl) (Nat.le_of_ble_eq_true rfl) rfl ?_
    refine wp_aload_n (atd dX11_helps 11 rfl) rfl rfl ?_
    refine wp_ifnonnull_n (atd dX11_helps 12 rfl) ?_
    refine wp_iconst (v := -1) (atd dX11_helps 13 rfl) (by decide) ?_
    refine wp_ireti (atd dX11_helps 14 rfl) rfl ?_
    refine ⟨?_, fK.rf, mk, rfl, CSt_T hS (by omega)⟩
    by_cases hG : isG a b S.n
    · unfold gmF; rw [if_pos hG, isH3 c_2 hG.2.1, nI_clamp (by decide)]; exact (if_pos rfl).symm
    · exact (gmF_f hG).symm
  ·
    refine wp_aload_n (atd dX11_helps 3 rfl) rfl rfl ?_
    refine wp_get fX11_38 (atd dX11_helps 4 rfl) hH rfl ?_
    refine wp_iload_n (atd dX11_helps 5 rfl) rfl ?_
    refine wp_iload_n (atd dX11_helps 6 rfl) rfl ?_
    refine wp_cVr hdd [_, _] (atd dX11_helps 7 rfl) iX2_solved lX11_185 rfl rfl (Nat.le_of_ble_eq_true rfl) hGo rfl (eX2_solvedC (by omega) hV hS (by omega)) (show 24 = 1 + 23 from rfl) (show 5022 = 1485 + 3537 from rfl) (fun r_11 s_11 h_11 => ?_)
    obtain ⟨hK, mk2, hm0, hS, hA⟩ := h_11
    have hH := hS.1.2.2.2
    have hGo := hS.2.2.1.1.1
    rcases hA with ⟨hG, rfl⟩ | ⟨kd, h, rfl, rfl, hkd, hh1, hh3, hn0, rfl, op, tn, rf, hp, hGx⟩
    ·
      refine wp_goto (tgt := 18) (atd dX11_helps 8 rfl) (by decide) ?_
      refine wp_astore_n (atd dX11_helps 10 rfl) (Nat.le_of_ble_eq_true rfl) rfl ?_
      refine wp_aload_n (atd dX11_helps 11 rfl) rfl rfl ?_
      refine wp_ifnonnull_n (atd dX11_helps 12 rfl) ?_
      refine wp_iconst (v := -1) (atd dX11_helps 13 rfl) (by decide) ?_
      refine wp_ireti (atd dX11_helps 14 rfl) rfl ?_
      exact ⟨(gmF_f hG).symm, hK, mk2, hm0, CSt_T hS (by omega)⟩
    ·
      obtain ⟨hGm, hX, hRd⟩ := id hGx
      obtain ⟨wa, wo, ew, hWo, ⟨⟨w, hFin⟩, hwb, rfl, rfl, rfl⟩, hhp⟩ := hRd rfl
      have hR := rowsL_pos S.n (by omega) hn0 h (by omega) hh1
      have hst : stF S.nb S.n h kd < (rowsL h S.n).length := srF_lt hR
      have htm := oI_m9 (v := tmF S.nb S.n h kd) (gtF_lt hV.1 hh1 hh3 hFin hst)
      have hh2 : h ≤ 2 := by
        have := c_2
        rw [nI_leI (by omega) (by omega)] at this
        omega
      have hix := gix_lt hkd hh1 hh3
      refine wp_goto (tgt := 18) (atd dX11_helps 8 rfl) (by decide) ?_
      refine wp_astore_n (atd dX11_helps 10 rfl) (Nat.le_of_ble_eq_true rfl) rfl ?_
      refine wp_aload_n (atd dX11_helps 11 rfl) rfl rfl ?_
      refine wp_ifnonnull_r (tgt := 25) (atd dX11_helps 12 rfl) (by decide) ?_
      refine wp_aload_n (atd dX11_helps 15 rfl) rfl rfl ?_
      refine wp_get fX11_189 (atd dX11_helps 16 rfl) hGm rfl ?_
      refine wp_iconst (v := -1) (atd dX11_helps 17 rfl) (by decide) ?_
      refine wp_icmp_eq (tgt := 36) (atd dX11_helps 18 rfl) (by decide) (fun c_30 => ?_) (fun c_30 => ?_)
      ·
        refine wp_aload_n (atd dX11_helps 21 rfl) rfl rfl ?_
        refine wp_get fX11_222 (atd dX11_helps 22 rfl) hGm rfl ?_
        refine wp_bipush (v := -2) (atd dX11_helps 23 rfl) (by decide) ?_
        refine wp_icmp_ne (tgt := 55) (atd dX11_helps 24 rfl) (by decide) (fun c_42 => ?_) (fun c_42 => ?_)
        ·
          refine wp_aload_n (atd dX11_helps 31 rfl) rfl rfl ?_
          refine wp_get fX11_222 (atd dX11_helps 32 rfl) hGm rfl ?_
          refine wp_ireti (atd dX11_helps 33 rfl) rfl ?_
          refine ⟨?_, hK, mk2, hm0, CSt_T hS (by omega)⟩
          rw [gmF_t hkd hh1 hh3 hn0]
          unfold hlF
          rw [if_neg (by omega), if_pos (htm.mp c_30)]
          exact hhp.elim (fun z => absurd z c_42) id
        ·
          refine wp_aload_n (atd dX11_helps 25 rfl) rfl rfl ?_
          refine wp_aload_n (atd dX11_helps 26 rfl) rfl rfl ?_
          refine wp_iload_n (atd dX11_helps 27 rfl) rfl ?_
          refine wp_iload_n (atd dX11_helps 28 rfl) rfl ?_
          refine wp_cViA hdd [_, _] (atd dX11_helps 29 rfl) iX11_helpingLine lX11_225 rfl rfl (Nat.le_of_ble_eq_true rfl) hH rfl (eX11_helpingLine (by omega) hV hS hkd hh1 hh2 hn0 (by omega)) (show 23 = 23 + 0 from rfl) (show 3537 = 3537 + 0 from rfl) (fun r_49 s_49 h_49 => ?_)
          obtain ⟨rfl, hK2, mk3, hmm, hS⟩ := h_49
          obtain ⟨rd3, op3, tn3, rf3, hp3, hGm, hX3, hRd3⟩ := hS.2.2.1.1.2.2.2.2 kd h hkd hh1 hh3
          refine wp_putX fX11_222 (atd dX11_helps 30 rfl) hGm rfl (Nat.le_of_ble_eq_true rfl) (fun σ f_52 hGm => ?_)
          have hwk : ∀ i a, (fun i => if i < 9 then mk3 (3 + i) else none) i = some a → a ≠ 12 + 13 + gix kd h := fun i a e => by
            have := MKO_wk hS.1.2.1 i a e
            omega
          have hX3 : ∀ wa, (fun i => if i < 9 then mk3 (3 + i) else none) (gix kd h) = some wa → AX σ wa (gLn h) := fun wa e => (hX3 wa e).kp (f_52.2 wa (by simp only [List.mem_cons, List.not_mem_nil, or_false]; exact hwk _ wa e))
          have hgm : GM σ 12 S.nb S.n (fun i => if i < 9 then mk3 (3 + i) else none) kd h := ⟨rd3, op3, tn3, rf3, oI (hlP S.nb S.n kd h S.n 0), hGm, hX3, fun z => by
            obtain ⟨wa, wo, b1, b2, b3, b4⟩ := hRd3 z
            exact ⟨wa, wo, b1, b2.kp (f_52.2 wa (by simp only [List.mem_cons, List.not_mem_nil, or_false]; exact hwk _ wa b1)), b3, Or.inr rfl⟩⟩
          have hGS := GS_one hS.2.2.1.1 hkd hh1 hh3 f_52 hwk hgm
          obtain ⟨hS, hK3⟩ := hS.upG (s := σ) (mk2 := mk3) (T2 := T + 245190 + 2407320) f_52.A (fun j hj => Or.inl (by simp only [List.mem_cons, List.not_mem_nil, or_false] at hj; omega)) (fun _ _ => rfl) (by rw [f_52.1]; exact hS.1.2.1) (by rw [f_52.1]; exact hS.1.2.2.1) (Nat.le_refl _) hGS
          refine wp_aload_n (atd dX11_helps 31 rfl) rfl rfl ?_
          refine wp_get fX11_222 (atd dX11_helps 32 rfl) hGm rfl ?_
          refine wp_ireti (atd dX11_helps 33 rfl) rfl ?_
          refine ⟨?_, hK.tr (hK2.tr hK3), mk3, (hmm 0 (by decide)).trans hm0, CSt_T hS (by omega)⟩
          rw [gmF_t hkd hh1 hh3 hn0]
          unfold hlF
          rw [if_neg (by omega), if_pos (htm.mp c_30)]
      ·
        refine wp_bipush (v := -2) (atd dX11_helps 19 rfl) (by decide) ?_
        refine wp_ireti (atd dX11_helps 20 rfl) rfl ?_
        refine ⟨?_, hK, mk2, hm0, CSt_T hS (by omega)⟩
        rw [gmF_t hkd hh1 hh3 hn0]
        unfold hlF
        rw [if_neg (by omega), if_neg (fun z => c_30 (htm.mpr z))]
