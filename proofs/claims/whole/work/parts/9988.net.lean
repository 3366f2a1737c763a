/-! net: where a fault was before doesn't matter -/
def sw (a : PS) (w : Nat) : PS := (a.1, a.2.1, w, a.2.2.2)
def RWa (x y : PS) : Prop := (x.2.1 ≠ 0 ∧ y = x) ∨ (x.2.1 = 0 ∧ ∃ w, y = sw x w)
section Wa
variable {tp : Nat → Nat} {sz : Nat} {a : PS} {w : Nat}
theorem fai_sw {k : Nat} (h : a.2.1 = 0) : fai k (sw a w) = fai k a := by
  unfold fai
  rw [if_pos h, if_pos (show (sw a w).2.1 = 0 from h)]
  rfl
theorem RWa_fai {k : Nat} (hk : k ≠ 0) (h : a.2.1 = 0) : RWa (fai k a) (fai k (sw a w)) := Or.inl ⟨fai_ne hk, fai_sw h⟩
theorem mbn_sw (h : a.2.1 = 0) : (mbn a = a ∧ mbn (sw a w) = sw a w) ∨ (mbn a = fai 2 a ∧ mbn (sw a w) = fai 2 a) := by
  by_cases c : a.1.2.2.1 = 1 ∧ a.1.2.2.2 ≠ 17171557 ∧ a.1.2.2.2 ≠ 402885
  · exact Or.inl ⟨if_pos c, if_pos c⟩
  · exact Or.inr ⟨if_neg c, (if_neg c).trans (fai_sw h)⟩
theorem RWa_rdP (h : a.2.1 = 0) : RWa (rdP tp sz a) (rdP tp sz (sw a w)) := by
  by_cases h9 : a.2.2.2.1 = 9
  · rw [rdP_9 h9, rdP_9 (s := sw a w) h9]; exact RWa_fai (by decide) h
  · have hn : (nxt tp sz a).2.1 = 0 := h
    have e : nxt tp sz (sw a w) = sw (nxt tp sz a) w := rfl
    rcases mbn_sw (w := w) hn with ⟨m1, m2⟩ | ⟨m1, m2⟩
    · cases hc : cld (nxt tp sz a) with
      | none =>
        rw [rdP_y h9 h m1 hc, rdP_y (s := sw a w) h9 h (by rw [e]; exact m2) hc]
        exact Or.inr ⟨h, w, rfl⟩
      | some q =>
        rw [rdP_c h9 h m1 hc, rdP_c (s := sw a w) h9 h (by rw [e]; exact m2) hc, e]
        exact RWa_fai (by decide) hn
    · rw [rdP_n h9 h m1, rdP_n (s := sw a w) h9 h (by rw [e, m2]; exact (fai_sw hn).symm), e]
      exact RWa_fai (by decide) hn
theorem RWa_rdL2 {p : Nat} (h : a.2.1 = 0) : RWa (rdL2 tp sz p a) (rdL2 tp sz p (sw a w)) := by
  cases hc : cld a with
  | none => rw [rdL2_n h hc, rdL2_n (s := sw a w) h hc]; exact RWa_fai (by decide) h
  | some q =>
    rw [rdL2_s h hc, rdL2_s (s := sw a w) h hc]
    by_cases e : q = p
    · rw [if_pos e, if_pos e]; exact RWa_fai (by decide) h
    · rw [if_neg e, if_neg e]
      by_cases b : (a.2.2.2.2.2 p).testBit q = true
      · rw [if_pos b, if_pos (show ((sw a w).2.2.2.2.2 p).testBit q = true from b)]; exact RWa_fai (by decide) h
      · rw [if_neg b, if_neg (show ¬ ((sw a w).2.2.2.2.2 p).testBit q = true from b)]; exact Or.inr ⟨h, w, rfl⟩
theorem RWa_rdL (h : a.2.1 = 0) : RWa (rdL tp sz a) (rdL tp sz (sw a w)) := by
  have hn : (nxt tp sz a).2.1 = 0 := h
  have e : nxt tp sz (sw a w) = sw (nxt tp sz a) w := rfl
  rcases mbn_sw (w := w) hn with ⟨m1, m2⟩ | ⟨m1, m2⟩
  · cases hc : cld (nxt tp sz a) with
    | none =>
      rw [rdL_c h m1 hc, rdL_c (s := sw a w) h (by rw [e]; exact m2) hc, e]
      exact RWa_fai (by decide) hn
    | some p =>
      rw [rdL_y h m1 hc, rdL_y (s := sw a w) h (by rw [e]; exact m2) hc]
      have hn2 : (nxt tp sz (nxt tp sz a)).2.1 = 0 := h
      have e2 : nxt tp sz (nxt tp sz (sw a w)) = sw (nxt tp sz (nxt tp sz a)) w := rfl
      rw [e2]
      rcases mbn_sw (w := w) hn2 with ⟨k1, k2⟩ | ⟨k1, k2⟩
      · rw [k1, k2]; exact RWa_rdL2 hn2
      · rw [k1, k2, rdL2_b (fai_ne (by decide))]; exact Or.inl ⟨fai_ne (by decide), rfl⟩
  · rw [rdL_n m1, rdL_n (s := sw a w) (by rw [e, m2]; exact (fai_sw hn).symm), e]
    exact RWa_fai (by decide) hn
theorem RWa_st (h : a.2.1 = 0) : RWa (stpN1 tp sz (stpN0 tp sz a)) (stpN1 tp sz (stpN0 tp sz (sw a w))) := by
  have key : RWa (stpN0 tp sz a) (stpN0 tp sz (sw a w)) := by
    unfold stpN0
    by_cases c1 : a.1.2.2.1 = 1 ∧ a.1.2.2.2 = 17171557
    · rw [if_pos c1, if_pos (show (sw a w).1.2.2.1 = 1 ∧ (sw a w).1.2.2.2 = 17171557 from c1)]; exact RWa_rdP h
    · rw [if_neg c1, if_neg (show ¬ ((sw a w).1.2.2.1 = 1 ∧ (sw a w).1.2.2.2 = 17171557) from c1)]
      by_cases c2 : a.1.2.2.1 = 1 ∧ a.1.2.2.2 = 402885
      · rw [if_pos c2, if_pos (show (sw a w).1.2.2.1 = 1 ∧ (sw a w).1.2.2.2 = 402885 from c2)]; exact RWa_rdL h
      · rw [if_neg c2, if_neg (show ¬ ((sw a w).1.2.2.1 = 1 ∧ (sw a w).1.2.2.2 = 402885) from c2)]; exact RWa_fai (by decide) h
  rcases key with ⟨k1, k2⟩ | ⟨k1, w2, k2⟩
  · rw [k2, stpN1_bad k1]; exact Or.inl ⟨k1, rfl⟩
  · rw [k2]
    generalize stpN0 tp sz a = b at k1
    unfold stpN1
    rw [if_pos k1, if_pos (show (sw b w2).2.1 = 0 from k1)]
    by_cases c : b.1.2.2.1 = 2
    · rw [if_pos c, if_pos (show (sw b w2).1.2.2.1 = 2 from c)]; exact Or.inr ⟨k1, w2, rfl⟩
    · rw [if_neg c, if_neg (show ¬ (sw b w2).1.2.2.1 = 2 from c)]; exact RWa_fai (by decide) k1
theorem RWa_prs : ∀ (k : Nat) (a b : PS), RWa a b → RWa (prs tp sz k a) (prs tp sz k b)
  | 0, _, _, h => h
  | k + 1, a, b, h => by
    rcases h with ⟨h1, rfl⟩ | ⟨h1, w, rfl⟩
    · unfold prs
      rw [if_neg (fun z => h1 z.1)]
      exact Or.inl ⟨h1, rfl⟩
    · unfold prs
      by_cases c : a.1.2.2.1 ≠ 0
      · rw [if_pos ⟨h1, c⟩, if_pos (show (sw a w).2.1 = 0 ∧ (sw a w).1.2.2.1 ≠ 0 from ⟨h1, c⟩)]
        exact RWa_prs k _ _ (RWa_st h1)
      · rw [if_neg (fun z => c z.2), if_neg (fun z : (sw a w).2.1 = 0 ∧ (sw a w).1.2.2.1 ≠ 0 => c z.2)]
        exact Or.inr ⟨h1, w, rfl⟩
theorem netV_wa (wa : Nat) : RWa (netV tp sz 0 (fun _ => 0) (fun _ => 0)) (netV tp sz wa (fun _ => 0) (fun _ => 0)) := RWa_prs 601 _ _ (Or.inr ⟨rfl, wa, rfl⟩)
end Wa
def netW (S : Ab) : PS := netV S.tp S.td 0 (fun _ => 0) (fun _ => 0)
def Ab.badF (S : Ab) : Ab := Ab.mk S.n S.nb S.sc 0 S.tp (netW S).2.1 (some (netW S).2.2.1) S.ps
def Ab.goodF (S : Ab) : Ab := Ab.mk (netW S).2.2.2.1 (nzF (netW S)) none 0 S.tp 0 none []
def Ab.netF (S : Ab) : Ab := if (netW S).2.1 = 0 then S.goodF else S.badF
def aNet (S : Ab) : Int32 := if (netW S).2.1 = 0 then nI (netW S).2.2.2.1 else -1
theorem zX12_net {G : Gx} {d : Nat} {σ : Hp} {S : Ab} {m : Nat} (hd : 5 ≤ d) (hV : AbV S) (hS : MSt S σ σ m) : Cl G mX12_net d [.ref m] σ 0 0 (pI fun z s => z = aNet S ∧ MSt S.netF σ s m) := by
  obtain ⟨α, B, hM, hQ⟩ := hS
  obtain ⟨q1, q2, q3, q4, q5, q6, q7, q8, q9, q10, q11, q12⟩ := id hQ
  obtain ⟨wa, h15⟩ := q10
  refine cl_post (eX12_net hd hV.2.2.1 hV.2.2.2.1 hM q8.1 q8.2 h15 rfl) ?_
  have hR : RWa (netW S) (netV S.tp S.td wa (fun _ => 0) (fun _ => 0)) := netV_wa wa
  generalize netV S.tp S.td wa (fun _ => 0) (fun _ => 0) = V at hR
  rintro v s ⟨z, rfl, α1, B1, hM1, -, h6, hw, ⟨hno, hz, h12, h13, hf, hg⟩ | ⟨hyes, hz, h12, h13, h2, hb, h57, h46, h17, h18, h19, h21, hf, hg⟩⟩
  · rcases hR with ⟨r1, rfl⟩ | ⟨r1, w, rfl⟩
    · refine ⟨z, rfl, hz.trans (if_neg r1).symm, ?_⟩
      rw [show S.netF = S.badF from if_neg r1]
      exact ⟨_, _, hM1, cgN q1 hf (by decide), cgB q2 hg (by decide), cgO q3 hg (by decide), cgG q4 hf hg (by decide) (by decide), cgD q5 hf hg (by decide) (by decide), cgY q6 hf hg (by decide) (by decide), cgSw q7 hf hg (by decide) (by decide), ⟨h6, fun k hk => absurd hk (Nat.not_lt_zero k)⟩, ⟨h12, h13⟩, hw, cgS (A := S) q11 hf (by decide), cgP (A := S) q12 hf hg (by decide) (by decide)⟩
    · exact absurd r1 hno
  · rcases hR with ⟨r1, rfl⟩ | ⟨r1, w, rfl⟩
    · exact absurd hyes r1
    · refine ⟨z, rfl, hz.trans (if_pos r1).symm, ?_⟩
      rw [show S.netF = S.goodF from if_pos r1]
      exact ⟨_, _, hM1, h2, fun p hp => (hb p hp).trans (by show nI ((netW S).2.2.2.2.2 p) = nI (nzF (netW S) p); unfold nzF; rw [if_pos (show p < (netW S).2.2.2.1 from hp)]), cgO q3 hg (by decide), Or.inl h19, Or.inl h17, Or.inl h18, Or.inl h21, ⟨h6, fun k hk => absurd hk (Nat.not_lt_zero k)⟩, ⟨h12, h13⟩, hw, h46, h57, fun i r hr => by cases hr⟩
theorem CS2.scr {S S2 : Ab} {σ s : Hp} {mk : Nat → Option Nat} {T : Nat} (h : CSt S σ mk T) (f : fr [1, 3, 4, 7, 8] σ s) (c1 : cScr S2 s) (c3 : cDra s) (e1 : cNet S σ → cNet S2 σ) (e4 : cDis S σ → cDis S2 σ) (e5 : cGam S σ mk T → cGam S2 σ mk T) (e8 : cSea S σ mk → cSea S2 σ mk) (e9 : cSce S σ → cSce S2 σ) (e10 : cPas S σ → cPas S2 σ) : CSt S2 s mk T ∧ fK σ s :=
  CS2.up (S2 := S2) (S3 := S2) h.to2 f.A (c1 := Or.inr c1) (c2 := Or.inl ⟨by decide, e1⟩) (c3 := Or.inr c3) (c4 := Or.inl ⟨by decide, e4⟩) (c5 := Or.inl ⟨by decide, e5⟩) (c8 := Or.inl ⟨by decide, e8⟩) (c9 := Or.inl ⟨by decide, e9⟩) (c10 := Or.inl ⟨by decide, e10⟩)
theorem AI_of_AX {σ : Hp} {k L : Nat} (h : AX σ k L) : ∃ f : Nat → Int32, σ.2 k = .inl (0, L, .inl f) := h
theorem AX_AI {σ : Hp} {k L : Nat} (h : AX σ k L) : ∃ g, AI σ k L g := by
  obtain ⟨f, h1⟩ := h
  refine ⟨fun i => (f i).toBitVec.toNat, f, h1, fun i _ => ?_⟩
  apply Int32.toBitVec_inj.mp
  show (f i).toBitVec = BitVec.ofNat 32 (f i).toBitVec.toNat
  rw [BitVec.ofNat_toNat]
  simp
theorem net_V {S : Ab} (hV : AbV S) (hZ : isNetZ (netW S).2.2.2.1 (nzF (netW S))) : AbV S.netF := by
  unfold Ab.netF
  by_cases h : (netW S).2.1 = 0
  · rw [if_pos h]; exact ⟨hZ, trivial, Nat.zero_le _, hV.2.2.2.1, Nat.zero_le _, fun r hr => by cases hr⟩
  · rw [if_neg h]; exact ⟨hV.1, hV.2.1, Nat.zero_le _, hV.2.2.2.1, hV.2.2.2.2⟩
theorem vX11_net {G : Gx} {d : Nat} {σ : Hp} (hd : 11 ≤ d) {S : Ab} {mk : Nat → Option Nat} {T : Nat} (hV : AbV S) (hS : CSt S σ mk T) : Cl G mX11_net d [.ref 0] σ 0 0 (pI fun r s => r = aNet S ∧ fK σ s ∧ CSt S.netF s mk T ∧ AbV S.netF) := by
  obtain ⟨d0, hdd⟩ : ∃ e, d = e + 1 := ⟨d - 1, by omega⟩
  refine cl_of (by decide) (by simp [Value.category]) (Nat.le_of_ble_eq_true rfl) ?_
  show Wp G mX11_net d 0 [.ref 0] [] σ 0 0 _
  have hH := hS.1.2.2.2
  have hn := hV.1.1.1
  obtain ⟨hN, hNA⟩ := hS.2.1.2.1
  obtain ⟨dn, dnb, hdn, hdw, hDr, hDA⟩ := id hS.2.1.2.2.1
  obtain ⟨nx, N, NB, C, hnx, hPa, hR1, hR2, hPS, hzC, hrec⟩ := id hS.2.2.2.2.1
  obtain ⟨c, hSt, hcz, hcs⟩ := id hS.2.2.2.1
  obtain ⟨⟨tk, fm, bh, hSc⟩, ⟨bs, hB, hb⟩, hX1, hX2⟩ := id hS.2.1.1
  have hSc : OB σ 1 7 (scL S.td S.fk (oI S.fp) tk fm bh) := hSc
  obtain ⟨nf, hNf⟩ := AX_AI hX1
  obtain ⟨nl, hNl⟩ := AX_AI hX2
  refine wp_aload_n (atd dX11_net 0 rfl) rfl rfl ?_
  refine wp_get fX11_10 (atd dX11_net 1 rfl) hH rfl ?_
  refine wp_aload_n (atd dX11_net 2 rfl) rfl rfl ?_
  refine wp_get fX11_23 (atd dX11_net 3 rfl) hH rfl ?_
  refine wp_cVv hdd [_] (atd dX11_net 4 rfl) iX7_parse lX11_94 rfl rfl (Nat.le_of_ble_eq_true rfl) hSc rfl (eX7_parse (wa := 0) (by omega) hV.2.2.1 hV.2.2.2.1 hb hSc hB hNf hNl hDr hDA) (fun s_8 h_8 => ?_)
  obtain ⟨f_8, nf2, nl2, hSc, h2, h3, h4, h5, hDr, hDA, h8, h9, h10⟩ := h_8
  have hVV := net_V hV h10
  have hf5 := h9.2.2.2.1
  have hH := hH.fr f_8 (by decide)
  have hN := hN.fr f_8 (by decide)
  have hNA := hNA.fr f_8 (by decide)
  have hSt := hSt.fr f_8 (by decide)
  have hPa := hPa.fr f_8 (by decide)
  refine wp_aload_n (atd dX11_net 5 rfl) rfl rfl ?_
  refine wp_get fX11_10 (atd dX11_net 6 rfl) hH rfl ?_
  refine wp_iconst (v := nI 0) (atd dX11_net 7 rfl) (by decide) ?_
  refine wp_putX fX11_86 (atd dX11_net 8 rfl) hSc rfl (Nat.le_of_ble_eq_true rfl) (fun σ f_16 hSc => ?_)
  have hfr := f_8.tr f_16 (by decide)
  have hH := hH.fr f_16 (by decide)
  have h2 := h2.fr f_16 (by decide)
  have h3 := h3.fr f_16 (by decide)
  have h4 := h4.fr f_16 (by decide)
  have hDr := hDr.fr f_16 (by decide)
  have hDA := hDA.fr f_16 (by decide)
  have c3 : cDra σ := ⟨_, _, h10.1.1, net_lt h10, hDr, hDA⟩
  have hN := hN.fr f_16 (by decide)
  have hNA := hNA.fr f_16 (by decide)
  have hSt := hSt.fr f_16 (by decide)
  have hPa := hPa.fr f_16 (by decide)
  refine wp_aload_n (atd dX11_net 9 rfl) rfl rfl ?_
  refine wp_get fX11_10 (atd dX11_net 10 rfl) hH rfl ?_
  refine wp_get fX11_97 (atd dX11_net 11 rfl) hSc rfl ?_
  refine wp_ifN_eq (tgt := 31) (atd dX11_net 12 rfl) (by decide) (by omega) (fun c_26 => ?_) (fun c_26 => ?_)
  ·
    refine wp_aload_n (atd dX11_net 15 rfl) rfl rfl ?_
    refine wp_get fX11_19 (atd dX11_net 16 rfl) hH rfl ?_
    refine wp_aload_n (atd dX11_net 17 rfl) rfl rfl ?_
    refine wp_get fX11_23 (atd dX11_net 18 rfl) hH rfl ?_
    refine wp_cVv hdd [_] (atd dX11_net 19 rfl) iX3_copyFrom lX11_100 rfl rfl (Nat.le_of_ble_eq_true rfl) hN rfl (eX3_copyFrom (by omega) hN hNA hDr hDA (by omega)) (fun s_39 h_39 => ?_)
    obtain ⟨f_39, hN, hNA⟩ := h_39
    have hH := hH.fr f_39 (by decide)
    have hSt := hSt.fr f_39 (by decide)
    have hPa := hPa.fr f_39 (by decide)
    refine wp_aload_n (atd dX11_net 20 rfl) rfl rfl ?_
    refine wp_get fX11_72 (atd dX11_net 21 rfl) hH rfl ?_
    refine wp_iconst (v := nI 0) (atd dX11_net 22 rfl) (by decide) ?_
    refine wp_putX fX11_103 (atd dX11_net 23 rfl) hSt (by decide) (Nat.le_of_ble_eq_true rfl) (fun σ f_47 hSt => ?_)
    have hPa := hPa.fr f_47 (by decide)
    have hH := hH.fr f_47 (by decide)
    refine wp_aload_n (atd dX11_net 24 rfl) rfl rfl ?_
    refine wp_get fX11_79 (atd dX11_net 25 rfl) hH rfl ?_
    refine wp_cVv hdd [] (atd dX11_net 26 rfl) iX4_forget lX11_107 rfl rfl (Nat.le_of_ble_eq_true rfl) hPa rfl (eX4_forget (by omega) hPa) (fun s_54 h_54 => ?_)
    obtain ⟨f_54, hPa⟩ := h_54
    have hfa := ((hfr.A.tr2 f_39.A).tr2 f_47.A).tr2 f_54.A
    have hkp : kpR 45 82 _ s_54 := kpR.of hfa (by have := hS.1.1; omega) (by decide)
    have c10 : cPas S.goodF s_54 := ⟨0, N, NB, C, by decide, hPa, hR1.kp (hkp _ (by decide) (by decide)), hR2.kp (hkp _ (by decide) (by decide)), fun i hi => ⟨(hPS i hi).1.kp (hkp _ (by omega) (by omega)), (hPS i hi).2.1.kp (hkp _ (by omega) (by omega)), (hPS i hi).2.2.kp (hkp _ (by omega) (by omega))⟩, hzC, fun i r hr => by cases hr⟩
    have hSt := hSt.fr f_54 (by decide)
    have c9 : cSce S.goodF s_54 := ⟨fun i => if i = 0 then nI 0 else c i, hSt, ⟨(by decide : okV .boolean (.int (nI 0)) = true), hcz.2⟩, rfl⟩
    have c2 : cNet S.goodF s_54 := ⟨(hN.fr f_47 (by decide)).fr f_54 (by decide), (hNA.fr f_47 (by decide)).fr f_54 (by decide)⟩
    have hSc := ((hSc.fr f_39 (by decide)).fr f_47 (by decide)).fr f_54 (by decide)
    have h2 := ((h2.fr f_39 (by decide)).fr f_47 (by decide)).fr f_54 (by decide)
    have h3 := ((h3.fr f_39 (by decide)).fr f_47 (by decide)).fr f_54 (by decide)
    have h4 := ((h4.fr f_39 (by decide)).fr f_47 (by decide)).fr f_54 (by decide)
    have hDr := ((hDr.fr f_39 (by decide)).fr f_47 (by decide)).fr f_54 (by decide)
    have hDA := ((hDA.fr f_39 (by decide)).fr f_47 (by decide)).fr f_54 (by decide)
    have c3 : cDra s_54 := ⟨_, _, h10.1.1, net_lt h10, hDr, hDA⟩
    have c1 : cScr S.goodF s_54 := ⟨⟨_, _, _, by have q := hSc; rw [show (netV S.tp S.td 0 (fun _ => 0) (fun _ => 0)).2.1 = 0 from c_26] at q; unfold fpF at q; rw [if_pos c_26] at q; exact q⟩, ⟨bs, h2, fun k hk => absurd hk (Nat.not_lt_zero k)⟩, h3.X, h4.X⟩
    obtain ⟨hS2, hk1⟩ := CS2.up (S2 := S.goodF) (S3 := S) hS.to2 hfa (c1 := Or.inr c1) (c2 := Or.inr c2) (c3 := Or.inr c3) (c9 := Or.inr c9) (c10 := Or.inr c10)
    have hH := hS2.1.2.2.2
    have hVg : AbV S.goodF := by rw [← show S.netF = S.goodF from if_pos c_26]; exact hVV
    refine wp_aload_n (atd dX11_net 27 rfl) rfl rfl ?_
    refine wp_cVv hdd [] (atd dX11_net 28 rfl) iX11_renew lX11_110 rfl rfl (Nat.le_of_ble_eq_true rfl) hH rfl (eX11_renew (by omega) hVg hS2) (fun s_58 h_58 => ?_)
    obtain ⟨hS3, hk3⟩ := h_58
    have hH := hS3.1.2.2.2
    obtain ⟨hN, hNA⟩ := hS3.2.1.2.1
    refine wp_aload_n (atd dX11_net 29 rfl) rfl rfl ?_
    refine wp_get fX11_19 (atd dX11_net 30 rfl) hH rfl ?_
    refine wp_get fX11_113 (atd dX11_net 31 rfl) hN rfl ?_
    refine wp_ireti (atd dX11_net 32 rfl) rfl ?_
    rw [show S.netF = S.goodF from if_pos c_26, show aNet S = nI (netW S).2.2.2.1 from if_pos c_26]
    exact ⟨rfl, hk1.tr hk3, hS3, hVg⟩
  ·
    refine wp_iconst (v := -1) (atd dX11_net 13 rfl) (by decide) ?_
    refine wp_ireti (atd dX11_net 14 rfl) rfl ?_
    have hne : (netW S).2.1 ≠ 0 := by show (netV S.tp S.td 0 (fun _ => 0) (fun _ => 0)).2.1 ≠ 0; omega
    have c1 : cScr S.badF σ := ⟨⟨_, _, _, by have q := hSc; unfold fpF at q; rw [if_neg (show ¬ (netV S.tp S.td 0 (fun _ => 0) (fun _ => 0)).2.1 = 0 from hne)] at q; exact q⟩, ⟨bs, h2, fun k hk => absurd hk (Nat.not_lt_zero k)⟩, h3.X, h4.X⟩
    obtain ⟨q1, q2⟩ := CS2.scr (S2 := S.badF) hS hfr c1 c3 id id id id id id
    rw [show S.netF = S.badF from if_neg hne, show aNet S = -1 from if_neg hne]
    exact ⟨rfl, q2, q1, by rw [← show S.netF = S.badF from if_neg hne]; exact hVV⟩
