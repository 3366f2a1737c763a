/-! a scene that plays by itself -/
def scO (kd h : Nat) (s : Pos) : Scn := Scn.mk kd h s.1 s.2.1 s.2.2.1 s.2.2.2
def poO (e : Scn) : Pos := (e.ρ, e.p, e.t, e.b)
noncomputable def plN (nb : Nat → Nat) (n : Nat) (e : Scn) : Scn := scO e.kd e.h (plT nb n e.kd e.h (poO e))
theorem plN_V {S : Ab} {e : Scn} (hV : AbV S) (he : S.sc = some e) {w : Nat → Nat} {wo : Nat → Option Nat} (hF : FinI S.nb S.n e.kd e.h w wo) : ScV S.n (some (plN S.nb S.n e)) := by
  obtain ⟨⟨hkd, hh1, hh3, hm, hp, ht⟩, hi, -, -, hsd⟩ := xS_ok hV he
  unfold plN scO plT poO
  by_cases h0 : e.t = 0
  · rw [show ((e.ρ, e.p, e.t, e.b) : Pos).2.2.1 = e.t from rfl, if_pos h0]
    exact ⟨hkd, hh1, hh3, rowAt_mem (brT_isB hV.1 hh1 hh3 hF hi).1, hp, Nat.le_refl _⟩
  · rw [show ((e.ρ, e.p, e.t, e.b) : Pos).2.2.1 = e.t from rfl, if_neg h0]
    refine ⟨hkd, hh1, hh3, hm, ?_, Nat.zero_le _⟩
    have hb : (rns S.nb S.n e.kd (std e.h e.ρ) e.p).testBit e.p = true := by rw [← rch_rns hV.1]; exact (rch_net hV.1 hp).1
    obtain ⟨x, hx, hx2, -⟩ := bpF_ex (w := slvF S.nb S.n e.h e.kd (rwi (rowsL e.h S.n) e.ρ)) hp hb
    show (bpF (slvF S.nb S.n e.h e.kd (rwi (rowsL e.h S.n) e.ρ)) (rns S.nb S.n e.kd (std e.h e.ρ) e.p) S.n).getD 0 < S.n
    rw [hx]
    exact hx2
theorem GMx_kp {σ s : Hp} {g n kd h : Nat} {nb : Nat → Nat} {wk : Nat → Option Nat} {rd : Bool} {op tn rf hp : Int32} (hm : GMx σ g nb n wk kd h rd op tn rf hp) (e : s.2 (g + 13 + gix kd h) = σ.2 (g + 13 + gix kd h)) (ew : ∀ a, wk (gix kd h) = some a → s.2 a = σ.2 a) : GMx s g nb n wk kd h rd op tn rf hp := by
  obtain ⟨a1, a2, a3⟩ := hm
  refine ⟨a1.kp e, fun a h => (a2 a h).kp (ew a h), fun z => ?_⟩
  obtain ⟨wa, wo, b1, b2, b3⟩ := a3 z
  exact ⟨wa, wo, b1, b2.kp (ew wa b1), b3⟩
theorem wkG_104 {mk : Nat → Option Nat} {m i a : Nat} (h : MKO mk m) (e : wkG mk i = some a) : 104 ≤ a := by
  unfold wkG at e
  by_cases hi : i < 9
  · rw [if_pos hi] at e; exact (h.1 _ _ e).1
  · rw [if_neg hi] at e; cases e
theorem GMx_fr {S : Ab} {σ s : Hp} {mk : Nat → Option Nat} {T kd h : Nat} {rd : Bool} {op tn rf hp : Int32} {L : List Nat} (hS : CSt S σ mk T) (hk : kd < 3) (h1 : 1 ≤ h) (h3 : h ≤ 3) (hm : GMx σ 12 S.nb S.n (wkG mk) kd h rd op tn rf hp) (f : fr L σ s) (hL : ∀ j ∈ L, j < 25 ∨ (33 < j ∧ j < 104)) : GMx s 12 S.nb S.n (wkG mk) kd h rd op tn rf hp := by
  have hx := gix_lt hk h1 h3
  refine GMx_kp hm (f.2 _ (fun z => by have := hL _ z; omega)) (fun a ha => f.2 a (fun z => by
    have := hL _ z
    have := wkG_104 hS.1.2.1 ha
    omega))
theorem eX11_playTurn {G : Gx} {d : Nat} {σ : Hp} (hd : 6 ≤ d) {S : Ab} {mk : Nat → Option Nat} {T : Nat} {e : Scn} (hV : AbV S) (hS : CSt S σ mk T) (he : S.sc = some e) (hT0 : T + 2 < 2 ^ 31) {op tn rf hpp : Int32} (hGx : GMx σ 12 S.nb S.n (wkG mk) e.kd e.h true op tn rf hpp) : Cl G mX11_playTurn d [.ref 0, .ref (12 + 13 + gix e.kd e.h)] σ 0 0 (pV fun s => fK σ s ∧ CSt (S.withSc (some (plN S.nb S.n e))) s mk (T + 1) ∧ GMx s 12 S.nb S.n (wkG mk) e.kd e.h true op tn rf hpp ∧ AbV (S.withSc (some (plN S.nb S.n e)))) := by
  obtain ⟨d0, hdd⟩ : ∃ e, d = e + 1 := ⟨d - 1, by omega⟩
  refine cl_of (by decide) (by simp [Value.category]) (Nat.le_of_ble_eq_true rfl) ?_
  show Wp G mX11_playTurn d 0 [.ref 0, .ref (12 + 13 + gix e.kd e.h)] [] σ 0 0 _
  have hH := hS.1.2.2.2
  have hn := hV.1.1.1
  have hGo := hS.2.2.1.1.1
  obtain ⟨hN, hNA⟩ := hS.2.1.2.1
  obtain ⟨hTz, hLz, tz, lz, hFS, htz⟩ := hS.2.2.1.1.2.2.1
  have hRo := hFS.ob
  have hSt := st_on hS he
  obtain ⟨⟨hkd, hh1, hh3, hm, hp, ht⟩, hi, hx9, hho, hsd⟩ := xS_ok hV he
  obtain ⟨hm1, hm2, hm3⟩ := xi_mem hh1 hh3 hn hi
  obtain ⟨hGm, hX, hRd⟩ := id hGx
  obtain ⟨wa, wo, ew, hWo, ⟨⟨w, hFin⟩, hwb, -, -, -⟩, hhp⟩ := hRd rfl
  have hfl := frN_le e.h hh1 hh3
  rw [ew] at hGm
  have hGm : OB σ (12 + 13 + gix e.kd e.h) 1 (gaF e.kd (frN e.h) (frN (e.h + 1)) _ (.ref wa) _ _ _ hpp) := hGm
  have hix := gix_lt hkd hh1 hh3
  have hw1 := (wkG_ok hS.1.2.1).1 _ _ ew
  have hwa2 : (wa < 12 ∨ 12 + 12 < wa) ∧ wa ≠ 12 + 13 + gix e.kd e.h ∧ wa ≠ 5 ∧ wa ≠ 5 + 1 := ⟨by omega, by omega, by omega, by omega⟩
  have hVV : AbV (S.withSc (some (plN S.nb S.n e))) := ⟨hV.1, plN_V (S := S) hV he hFin, hV.2.2⟩
  refine wp_aload_n (atd dX11_playTurn 0 rfl) rfl rfl ?_
  refine wp_get fX11_72 (atd dX11_playTurn 1 rfl) hH rfl ?_
  refine wp_get fX11_272 (atd dX11_playTurn 2 rfl) hSt rfl ?_
  refine wp_ifN_eq (tgt := 42) (atd dX11_playTurn 3 rfl) (by decide) (by omega) (fun c_7 => ?_) (fun c_7 => ?_)
  ·
    refine wp_aload_n (atd dX11_playTurn 18 rfl) rfl rfl ?_
    refine wp_get fX11_72 (atd dX11_playTurn 19 rfl) hH rfl ?_
    refine wp_aload_n (atd dX11_playTurn 20 rfl) rfl rfl ?_
    refine wp_get fX11_38 (atd dX11_playTurn 21 rfl) hH rfl ?_
    refine wp_aload_n (atd dX11_playTurn 22 rfl) rfl rfl ?_
    refine wp_aload_n (atd dX11_playTurn 23 rfl) rfl rfl ?_
    refine wp_get fX11_72 (atd dX11_playTurn 24 rfl) hH rfl ?_
    refine wp_get fX11_266 (atd dX11_playTurn 25 rfl) hSt rfl ?_
    refine wp_aload_n (atd dX11_playTurn 26 rfl) rfl rfl ?_
    refine wp_get fX11_72 (atd dX11_playTurn 27 rfl) hH rfl ?_
    refine wp_get fX11_269 (atd dX11_playTurn 28 rfl) hSt rfl ?_
    refine wp_cVi hdd [_, _, _] (atd dX11_playTurn 29 rfl) iX2_bestRow lX11_293 rfl rfl (Nat.le_of_ble_eq_true rfl) hGo rfl (eX2_bestRow (by omega) hn (net_lt hV.1) hkd (by omega) hfl.2.1 hwb (by omega) (by omega) hwa2 hGo hN hNA hGm hWo hTz hLz hFS (by omega) hm1 hm2 (by omega) (gdX_on hV.1.1 hh1 hh3 hm1 hm2 hm3)) (fun r_65 s_65 h_65 => ?_)
    obtain ⟨rfl, -, f_65, hTz, hLz, l9, hFS⟩ := h_65
    rw [show bsC S.nb S.n e.kd (frN e.h) wo (xS S.n e) e.p = _ from bs_br hV.1 hh1 hh3 hFin hi]
    have hbl := (brT_isB hV.1 hh1 hh3 hFin (p := e.p) hi).1
    have hGx := GMx_fr hS hkd hh1 hh3 hGx f_65 (by decide)
    obtain ⟨hS, hK1⟩ := CSt_rows (T2 := T + 1) hS f_65 (by omega) ⟨hTz, hLz, tz + 1, l9, hFS, by omega⟩
    have hSt := st_on hS he
    refine wp_cVv hdd [_] (atd dX11_playTurn 30 rfl) iX6_huntersGo lX11_303 rfl rfl (Nat.le_of_ble_eq_true rfl) hSt rfl (eX6_huntersGo (c := (sc6 (nI 1) (nI e.kd) (nI (xS S.n e)) (nI e.p) (nI e.t) e.b)) (by omega) hSt) (fun s_68 h_68 => ?_)
    obtain ⟨f_68, hSt⟩ := h_68
    have hGx := GMx_fr hS hkd hh1 hh3 hGx f_68 (by decide)
    have hpl : plN S.nb S.n e = Scn.mk e.kd e.h (rowAt (rowsL e.h S.n) (brT S.nb S.n e.kd e.h (slvF S.nb S.n e.h e.kd) (rwi (rowsL e.h S.n) e.ρ) e.p)) e.p 1 (e.b + nI 1) := by
      unfold plN scO plT poO
      rw [show ((e.ρ, e.p, e.t, e.b) : Pos).2.2.1 = e.t from rfl, if_pos (by omega)]
    have hSt : OB s_68 43 6 [.int (nI 1), .int (nI (plN S.nb S.n e).kd), .int (nI (xS S.n (plN S.nb S.n e))), .int (nI (plN S.nb S.n e).p), .int (nI (plN S.nb S.n e).t), .int (plN S.nb S.n e).b] := by
      rw [hpl]
      show OB s_68 43 6 [_, _, .int (nI (xi e.h S.n (rwi (rowsL e.h S.n) (rowAt (rowsL e.h S.n) _)))), _, _, _]
      rw [rwi_row hh1 hh3 hn hbl]
      exact hSt
    obtain ⟨hS, hK2⟩ := CSt.scn (sc := some (plN S.nb S.n e)) hS f_68 (cSce_of (S := S) hSt (by rw [hpl]; exact Nat.le_refl _))
    refine wp_vretv (atd dX11_playTurn 31 rfl) rfl ?_
    exact ⟨hK1.tr hK2, hS, hGx, hVV⟩
  ·
    refine wp_aload_n (atd dX11_playTurn 4 rfl) rfl rfl ?_
    refine wp_get fX11_72 (atd dX11_playTurn 5 rfl) hH rfl ?_
    refine wp_aload_n (atd dX11_playTurn 6 rfl) rfl rfl ?_
    refine wp_get fX11_38 (atd dX11_playTurn 7 rfl) hH rfl ?_
    refine wp_aload_n (atd dX11_playTurn 8 rfl) rfl rfl ?_
    refine wp_aload_n (atd dX11_playTurn 9 rfl) rfl rfl ?_
    refine wp_get fX11_72 (atd dX11_playTurn 10 rfl) hH rfl ?_
    refine wp_get fX11_266 (atd dX11_playTurn 11 rfl) hSt rfl ?_
    refine wp_aload_n (atd dX11_playTurn 12 rfl) rfl rfl ?_
    refine wp_get fX11_72 (atd dX11_playTurn 13 rfl) hH rfl ?_
    refine wp_get fX11_269 (atd dX11_playTurn 14 rfl) hSt rfl ?_
    refine wp_cVi hdd [_, _, _] (atd dX11_playTurn 15 rfl) iX2_bestPlace lX11_289 rfl rfl (Nat.le_of_ble_eq_true rfl) hGo rfl (eX2_bestPlace (by omega) hN hNA hn (net_lt hV.1) hGo hGm hWo (by omega) hwb hRo hTz hkd hm1 hm2 (by omega)) (fun r_33 s_33 h_33 => ?_)
    obtain ⟨rfl, e_33⟩ := h_33
    obtain rfl := e_33.symm
    refine wp_cVv hdd [_] (atd dX11_playTurn 16 rfl) iX6_runnerGoes lX11_309 rfl rfl (Nat.le_of_ble_eq_true rfl) hSt rfl (eX6_runnerGoes (c := (sc6 (nI 1) (nI e.kd) (nI (xS S.n e)) (nI e.p) (nI e.t) e.b)) (by omega) hSt) (fun s_36 h_36 => ?_)
    obtain ⟨f_36, hSt⟩ := h_36
    have hGx := GMx_fr hS hkd hh1 hh3 hGx f_36 (by decide)
    have hq := bp_at (to := rch S.nb e.kd (sdC (xS S.n e)) e.p) (fun q hq => Fin_slv hV.1 hh1 hh3 hFin hi hq) (fun q hq v ev => slv_le hV.1 hh1 hh3 hFin hi hq (by rw [← Fin_slv hV.1 hh1 hh3 hFin hi hq]; exact ev)) (rch_net hV.1 hp).1 hp
    have hb : (rns S.nb S.n e.kd (std e.h e.ρ) e.p).testBit e.p = true := by rw [← rch_rns hV.1]; exact (rch_net hV.1 hp).1
    obtain ⟨q, hq1, hq2, -⟩ := bpF_ex (w := slvF S.nb S.n e.h e.kd (rwi (rowsL e.h S.n) e.ρ)) hp hb
    rw [hsd, rch_rns hV.1, hq1] at hq
    have hpl : plN S.nb S.n e = Scn.mk e.kd e.h e.ρ q 0 e.b := by
      unfold plN scO plT poO
      rw [show ((e.ρ, e.p, e.t, e.b) : Pos).2.2.1 = e.t from rfl, if_neg (by omega)]
      show Scn.mk _ _ _ ((bpF (slvF S.nb S.n e.h e.kd (rwi (rowsL e.h S.n) e.ρ)) (rns S.nb S.n e.kd (std e.h e.ρ) e.p) S.n).getD 0) _ _ = _
      rw [hq1]; rfl
    have hSt : OB s_36 43 6 [.int (nI 1), .int (nI (plN S.nb S.n e).kd), .int (nI (xS S.n (plN S.nb S.n e))), .int (nI (plN S.nb S.n e).p), .int (nI (plN S.nb S.n e).t), .int (plN S.nb S.n e).b] := by
      rw [hpl]
      show OB s_36 43 6 [_, _, _, .int (oI (some q)), _, _]
      rw [← hq, ← rch_rns hV.1, ← hsd]
      exact hSt
    obtain ⟨hS, hK2⟩ := CSt.scn (sc := some (plN S.nb S.n e)) hS f_36 (cSce_of (S := S) hSt (by rw [hpl]; exact Nat.zero_le _))
    refine wp_goto (tgt := 71) (atd dX11_playTurn 17 rfl) (by decide) ?_
    refine wp_vretv (atd dX11_playTurn 31 rfl) rfl ?_
    exact ⟨hK2, CSt_T hS (by omega), hGx, hVV⟩
theorem plS_s {nb : Nat → Nat} {n kd h f : Nat} {s : Pos} {k : Nat} (hc : ¬ (std h s.1).testBit s.2.1 = true) : plS nb n kd h (f + 1) s k = plS nb n kd h f (plT nb n kd h s) (k + 1) := if_neg hc
theorem plS_c {nb : Nat → Nat} {n kd h f : Nat} {s : Pos} {k : Nat} (hc : (std h s.1).testBit s.2.1 = true) : plS nb n kd h (f + 1) s k = (s, k) := if_pos hc
theorem lX11_play {G : Gx} {d : Nat} (hd : 7 ≤ d) {S : Ab} {mk : Nat → Option Nat} {kd h N T2 : Nat} {σ0 : Hp} {op tn rf hpp : Int32} {v : Pos × Nat} (hN : N ≤ 100) (hT2 : T2 < 2 ^ 31) : ∀ (f : Nat) (i : Nat) (σ : Hp) (s : Pos) (T : Nat), i + f = N → T + f + 2 ≤ T2 → AbV (S.withSc (some (scO kd h s))) → CSt (S.withSc (some (scO kd h s))) σ mk T → GMx σ 12 S.nb S.n (wkG mk) kd h true op tn rf hpp → fK σ0 σ → plS S.nb S.n kd h f s i = v → Wp G mX11_play d 63 [.ref 0, .int (nI N), .ref (12 + 13 + gix kd h), .int (nI i), .int (nI i)] [] σ 0 0 (pI fun r s => r = nI v.2 ∧ fK σ0 s ∧ CSt (S.withSc (some (scO kd h v.1))) s mk T2) := by
  obtain ⟨d0, hdd⟩ : ∃ e, d = e + 1 := ⟨d - 1, by omega⟩
  intro f
  induction f with
  | zero =>
    intro i σ s T hi hT0 hV hS hGx hF hv
    have hH := hS.1.2.2.2
    refine wp_iload (atd dX11_play 33 rfl) rfl ?_
    refine wp_iload_n (atd dX11_play 34 rfl) rfl ?_
    refine wp_icmpN_ge (tgt := 90) (atd dX11_play 35 rfl) (by decide) (by omega) (by omega) (fun c_66 => ?_) (fun c_66 => ?_)
    ·
      refine wp_iload_n (atd dX11_play 45 rfl) rfl ?_
      refine wp_ireti (atd dX11_play 46 rfl) rfl ?_
      subst hv
      exact ⟨rfl, hF, CSt_T hS (by omega)⟩
    · exfalso; omega
  | succ f ih =>
    intro i σ s T hi hT0 hV hS hGx hF hv
    have hH := hS.1.2.2.2
    refine wp_iload (atd dX11_play 33 rfl) rfl ?_
    refine wp_iload_n (atd dX11_play 34 rfl) rfl ?_
    refine wp_icmpN_ge (tgt := 90) (atd dX11_play 35 rfl) (by decide) (by omega) (by omega) (fun c_66 => ?_) (fun c_66 => ?_)
    · exfalso; omega
    ·
      refine wp_aload_n (atd dX11_play 36 rfl) rfl rfl ?_
      refine wp_cVi hdd [] (atd dX11_play 37 rfl) iX11_isCaught lX11_278 rfl rfl (Nat.le_of_ble_eq_true rfl) hH rfl (eX11_isCaught (by omega) hV hS rfl) (fun r_70 s_70 h_70 => ?_)
      obtain ⟨rfl, e_70⟩ := h_70
      obtain rfl := e_70.symm
      refine wp_ifB_ne (tgt := 90) (atd dX11_play 38 rfl) (by decide) (fun c_73 => ?_) (fun c_73 => ?_)
      ·
        refine wp_iload_n (atd dX11_play 45 rfl) rfl ?_
        refine wp_ireti (atd dX11_play 46 rfl) rfl ?_
        rw [plS_c (s := s) (h := h) c_73] at hv
        subst hv
        exact ⟨rfl, hF, CSt_T hS (by omega)⟩
      ·
        refine wp_aload_n (atd dX11_play 39 rfl) rfl rfl ?_
        refine wp_aload_n (atd dX11_play 40 rfl) rfl rfl ?_
        refine wp_cVv hdd [_] (atd dX11_play 41 rfl) iX11_playTurn lX11_312 rfl rfl (Nat.le_of_ble_eq_true rfl) hH rfl (eX11_playTurn (by omega) hV hS rfl (by omega) hGx) (fun s_78 h_78 => ?_)
        obtain ⟨hK1, hS, hGx, hV⟩ := h_78
        have hH := hS.1.2.2.2
        rw [plS_s (s := s) (h := h) c_73] at hv
        refine wp_iincN (c := 1) (atd dX11_play 42 rfl) rfl ?_
        refine wp_iincN (c := 1) (atd dX11_play 43 rfl) rfl ?_
        refine wp_goto (tgt := 63) (atd dX11_play 44 rfl) (by decide) ?_
        exact ih (i + 1) _ (plT S.nb S.n kd h s) (T + 1) (by omega) (by omega) hV hS hGx (hF.tr hK1) hv
theorem vX11_play {G : Gx} {d : Nat} {σ : Hp} (hd : 8 ≤ d) {S : Ab} {mk : Nat → Option Nat} {T : Nat} (hV : AbV S) (hS : CSt S σ mk T) (hT0 : T + 245490 < 2 ^ 31) {w : Int32} : Cl G mX11_play d [.ref 0, .int w] σ 1 1485 (pI fun r s => r = aPlay S w ∧ fK σ s ∧ ∃ mk2, mk2 0 = mk 0 ∧ CSt (S.playF w) s mk2 (T + 245390)) := by
  obtain ⟨d0, hdd⟩ : ∃ e, d = e + 1 := ⟨d - 1, by omega⟩
  refine cl_of (by decide) (by simp [Value.category]) (Nat.le_of_ble_eq_true rfl) ?_
  show Wp G mX11_play d 0 [.ref 0, .int w, .double 0, .double 0, .double 0] [] σ 1 1485 _
  have hH := hS.1.2.2.2
  have hn := hV.1.1.1
  cases he : S.sc with
  | none =>
    obtain ⟨c, hSt, -, h3⟩ := hS.2.2.2.1
    rw [he] at h3
    have h3 : c 0 = nI 0 := h3
    unfold scF at hSt
    rw [h3] at hSt
    refine wp_iload_n (atd dX11_play 0 rfl) rfl ?_
    refine wp_iconst (v := nI 1) (atd dX11_play 1 rfl) (by decide) ?_
    refine wp_icmp_lt (tgt := 35) (atd dX11_play 2 rfl) (by decide) (fun c_2 => ?_) (fun c_2 => ?_)
    ·
      refine wp_null (atd dX11_play 16 rfl) ?_
      refine wp_astore_n (atd dX11_play 17 rfl) (Nat.le_of_ble_eq_true rfl) rfl ?_
      refine wp_aload_n (atd dX11_play 18 rfl) rfl rfl ?_
      refine wp_ifnonnull_n (atd dX11_play 19 rfl) ?_
      refine wp_iconst (v := -1) (atd dX11_play 20 rfl) (by decide) ?_
      refine wp_ireti (atd dX11_play 21 rfl) rfl ?_
      refine ⟨by unfold aPlay; rw [he], fK.rf, mk, rfl, ?_⟩
      rw [show S.playF w = S from by unfold Ab.playF; rw [he]]
      exact CSt_T hS (by omega)
    ·
      refine wp_iload_n (atd dX11_play 3 rfl) rfl ?_
      refine wp_bipush (v := nI 100) (atd dX11_play 4 rfl) (by decide) ?_
      refine wp_icmp_gt (tgt := 35) (atd dX11_play 5 rfl) (by decide) (fun c_8 => ?_) (fun c_8 => ?_)
      ·
        refine wp_null (atd dX11_play 16 rfl) ?_
        refine wp_astore_n (atd dX11_play 17 rfl) (Nat.le_of_ble_eq_true rfl) rfl ?_
        refine wp_aload_n (atd dX11_play 18 rfl) rfl rfl ?_
        refine wp_ifnonnull_n (atd dX11_play 19 rfl) ?_
        refine wp_iconst (v := -1) (atd dX11_play 20 rfl) (by decide) ?_
        refine wp_ireti (atd dX11_play 21 rfl) rfl ?_
        refine ⟨by unfold aPlay; rw [he], fK.rf, mk, rfl, ?_⟩
        rw [show S.playF w = S from by unfold Ab.playF; rw [he]]
        exact CSt_T hS (by omega)
      ·
        refine wp_aload_n (atd dX11_play 6 rfl) rfl rfl ?_
        refine wp_get fX11_72 (atd dX11_play 7 rfl) hH rfl ?_
        refine wp_get fX11_103 (atd dX11_play 8 rfl) hSt rfl ?_
        refine wp_ifN_eq (tgt := 35) (atd dX11_play 9 rfl) (by decide) (by omega) (fun c_18 => ?_) (fun c_18 => ?_)
        ·
          refine wp_null (atd dX11_play 16 rfl) ?_
          refine wp_astore_n (atd dX11_play 17 rfl) (Nat.le_of_ble_eq_true rfl) rfl ?_
          refine wp_aload_n (atd dX11_play 18 rfl) rfl rfl ?_
          refine wp_ifnonnull_n (atd dX11_play 19 rfl) ?_
          refine wp_iconst (v := -1) (atd dX11_play 20 rfl) (by decide) ?_
          refine wp_ireti (atd dX11_play 21 rfl) rfl ?_
          refine ⟨by unfold aPlay; rw [he], fK.rf, mk, rfl, ?_⟩
          rw [show S.playF w = S from by unfold Ab.playF; rw [he]]
          exact CSt_T hS (by omega)
        · exact absurd c_18 (by decide)
  | some e =>
    have hSt := st_on hS he
    obtain ⟨⟨hkd, hh1, hh3, hm, hp, ht⟩, hi, hx9, hho, hsd⟩ := xS_ok hV he
    obtain ⟨nx, N, NB, C, hnx, hPa, hPr⟩ := id hS.2.2.2.2.1
    refine wp_iload_n (atd dX11_play 0 rfl) rfl ?_
    refine wp_iconst (v := nI 1) (atd dX11_play 1 rfl) (by decide) ?_
    refine wp_icmp_lt (tgt := 35) (atd dX11_play 2 rfl) (by decide) (fun c_2 => ?_) (fun c_2 => ?_)
    ·
      refine wp_null (atd dX11_play 16 rfl) ?_
      refine wp_astore_n (atd dX11_play 17 rfl) (Nat.le_of_ble_eq_true rfl) rfl ?_
      refine wp_aload_n (atd dX11_play 18 rfl) rfl rfl ?_
      refine wp_ifnonnull_n (atd dX11_play 19 rfl) ?_
      refine wp_iconst (v := -1) (atd dX11_play 20 rfl) (by decide) ?_
      refine wp_ireti (atd dX11_play 21 rfl) rfl ?_
      have hno : ¬ plOk e w := fun z => (isN_iff.mpr z.2).1 c_2
      refine ⟨by unfold aPlay; rw [he]; exact (if_neg hno).symm, fK.rf, mk, rfl, ?_⟩
      rw [show S.playF w = S from by unfold Ab.playF; rw [he]; exact if_neg hno]
      exact CSt_T hS (by omega)
    ·
      refine wp_iload_n (atd dX11_play 3 rfl) rfl ?_
      refine wp_bipush (v := nI 100) (atd dX11_play 4 rfl) (by decide) ?_
      refine wp_icmp_gt (tgt := 35) (atd dX11_play 5 rfl) (by decide) (fun c_8 => ?_) (fun c_8 => ?_)
      ·
        refine wp_null (atd dX11_play 16 rfl) ?_
        refine wp_astore_n (atd dX11_play 17 rfl) (Nat.le_of_ble_eq_true rfl) rfl ?_
        refine wp_aload_n (atd dX11_play 18 rfl) rfl rfl ?_
        refine wp_ifnonnull_n (atd dX11_play 19 rfl) ?_
        refine wp_iconst (v := -1) (atd dX11_play 20 rfl) (by decide) ?_
        refine wp_ireti (atd dX11_play 21 rfl) rfl ?_
        have hno : ¬ plOk e w := fun z => (isN_iff.mpr z.2).2 c_8
        refine ⟨by unfold aPlay; rw [he]; exact (if_neg hno).symm, fK.rf, mk, rfl, ?_⟩
        rw [show S.playF w = S from by unfold Ab.playF; rw [he]; exact if_neg hno]
        exact CSt_T hS (by omega)
      ·
        refine wp_aload_n (atd dX11_play 6 rfl) rfl rfl ?_
        refine wp_get fX11_72 (atd dX11_play 7 rfl) hH rfl ?_
        refine wp_get fX11_103 (atd dX11_play 8 rfl) hSt rfl ?_
        refine wp_ifN_eq (tgt := 35) (atd dX11_play 9 rfl) (by decide) (by omega) (fun c_18 => ?_) (fun c_18 => ?_)
        · exact absurd c_18 (by decide)
        ·
          refine wp_aload_n (atd dX11_play 10 rfl) rfl rfl ?_
          refine wp_cVi hdd [] (atd dX11_play 11 rfl) iX11_isCaught lX11_278 rfl rfl (Nat.le_of_ble_eq_true rfl) hH rfl (eX11_isCaught (by omega) hV hS he) (fun r_22 s_22 h_22 => ?_)
          obtain ⟨rfl, e_22⟩ := h_22
          obtain rfl := e_22.symm
          refine wp_ifB_ne (tgt := 35) (atd dX11_play 12 rfl) (by decide) (fun c_25 => ?_) (fun c_25 => ?_)
          ·
            refine wp_null (atd dX11_play 16 rfl) ?_
            refine wp_astore_n (atd dX11_play 17 rfl) (Nat.le_of_ble_eq_true rfl) rfl ?_
            refine wp_aload_n (atd dX11_play 18 rfl) rfl rfl ?_
            refine wp_ifnonnull_n (atd dX11_play 19 rfl) ?_
            refine wp_iconst (v := -1) (atd dX11_play 20 rfl) (by decide) ?_
            refine wp_ireti (atd dX11_play 21 rfl) rfl ?_
            have hno : ¬ plOk e w := fun z => by have := z.1; rw [c_25] at this; cases this
            refine ⟨by unfold aPlay; rw [he]; exact (if_neg hno).symm, fK.rf, mk, rfl, ?_⟩
            rw [show S.playF w = S from by unfold Ab.playF; rw [he]; exact if_neg hno]
            exact CSt_T hS (by omega)
          ·
            refine wp_aload_n (atd dX11_play 13 rfl) rfl rfl ?_
            refine wp_cVr hdd [] (atd dX11_play 14 rfl) iX11_stageGame lX11_285 rfl rfl (Nat.le_of_ble_eq_true rfl) hH rfl (eX11_stageGame (by omega) hV hS he (by omega)) (show 1 = 1 + 0 from rfl) (show 1485 = 1485 + 0 from rfl) (fun r_29 s_29 h_29 => ?_)
            obtain ⟨rfl, hK, mk2, hm0, hS, op, tn, rf, hpp, hGx⟩ := h_29
            have hH := hS.1.2.2.2
            obtain ⟨nx, N, NB, C, hnx, hPa, hPr⟩ := id hS.2.2.2.2.1
            obtain ⟨j, hj1, hj2, rfl⟩ := isN_of (isN_iff.mp ⟨c_2, c_8⟩)
            refine wp_goto (tgt := 36) (atd dX11_play 15 rfl) (by decide) ?_
            refine wp_astore_n (atd dX11_play 17 rfl) (Nat.le_of_ble_eq_true rfl) rfl ?_
            refine wp_aload_n (atd dX11_play 18 rfl) rfl rfl ?_
            refine wp_ifnonnull_r (tgt := 43) (atd dX11_play 19 rfl) (by decide) ?_
            refine wp_aload_n (atd dX11_play 22 rfl) rfl rfl ?_
            refine wp_get fX11_79 (atd dX11_play 23 rfl) hH rfl ?_
            refine wp_aload_n (atd dX11_play 24 rfl) rfl rfl ?_
            refine wp_get fX11_19 (atd dX11_play 25 rfl) hH rfl ?_
            refine wp_aload_n (atd dX11_play 26 rfl) rfl rfl ?_
            refine wp_get fX11_72 (atd dX11_play 27 rfl) hH rfl ?_
            refine wp_cVv hdd [_, _] (atd dX11_play 28 rfl) iX4_keep lX11_255 rfl rfl (Nat.le_of_ble_eq_true rfl) hPa rfl (eX4_keepC (by omega) hV hS) (fun s_55 h_55 => ?_)
            obtain ⟨f_55, hS1, hk1⟩ := h_55
            have hGx := GMx_fr hS hkd hh1 hh3 hGx f_55 (by decide)
            refine wp_iconst (v := nI 0) (atd dX11_play 29 rfl) (by decide) ?_
            refine wp_istore_n (atd dX11_play 30 rfl) (Nat.le_of_ble_eq_true rfl) ?_
            refine wp_iconst (v := nI 0) (atd dX11_play 31 rfl) (by decide) ?_
            refine wp_istore (atd dX11_play 32 rfl) (Nat.le_of_ble_eq_true rfl) ?_
            have hyes : plOk e (nI j) := ⟨by cases hb : (std e.h e.ρ).testBit e.p with | false => rfl | true => exact absurd hb c_25, isN_iff.mp ⟨c_2, c_8⟩⟩
            have hsa : S.act S.sc = (S.act S.sc).withSc (some (scO e.kd e.h (poO e))) := by unfold Ab.withSc Ab.act; rw [he]; rfl
            rw [hsa] at hS1
            refine wp_post (lX11_play (S := S.act S.sc) (mk := mk2) (kd := e.kd) (h := e.h) (N := j) (T2 := T + 245390) (σ0 := σ) (by omega) (by omega) (by omega) j 0 _ (poO e) (T + 245190) (by omega) (by omega) ?_ hS1 hGx (hK.tr hk1) rfl) ?_
            · rw [← hsa]; exact act_V hV hV.2.1
            · rintro v s2 ⟨r, rfl, h1, h2, h3⟩
              have ej : (nI j).toNatClampNeg = j := nI_clamp (by omega)
              refine ⟨r, rfl, ?_, h2, mk2, hm0, ?_⟩
              · rw [h1]; unfold aPlay; rw [he]; refine Eq.trans ?_ (if_pos hyes).symm; unfold plE; rw [ej]; rfl
              · rw [show S.playF (nI j) = S.act (some (Scn.mk e.kd e.h (plE S e (nI j)).1.1 (plE S e (nI j)).1.2.1 (plE S e (nI j)).1.2.2.1 (plE S e (nI j)).1.2.2.2)) from by unfold Ab.playF; rw [he]; exact if_pos hyes]
                unfold plE; rw [ej]; exact h3
/-! lines that come and go -/
theorem aTog_yes {S : Ab} {p q : Nat} (hp : p < S.n) (hq : q < S.n) (hpq : p ≠ q) (hn : S.n ≤ 9) : aTog S (nI p) (nI q) = bI ((nbt S.nb p q p).testBit q = true) := by
  unfold aTog atP
  rw [if_pos ((isP_nI (by omega)).mpr hp), nI_clamp (by omega)]
  dsimp only
  rw [if_pos ((isP_nI (by omega)).mpr hq), nI_clamp (by omega), if_neg hpq]
theorem aTog_no {S : Ab} {a b : Int32} (h : ¬ tgOk S.n a b) : (-1 : Int32) = aTog S a b := by
  unfold aTog atP
  by_cases ha : isP a S.n
  · rw [if_pos ha]
    dsimp only
    by_cases hb : isP b S.n
    · rw [if_pos hb, if_pos]
      have : a = b := Classical.byContradiction fun z => h ⟨ha, hb, z⟩
      rw [this]
    · rw [if_neg hb]
  · rw [if_neg ha]
theorem vX11_toggle {G : Gx} {d : Nat} {σ : Hp} (hd : 5 ≤ d) {S : Ab} {mk : Nat → Option Nat} {T : Nat} (hV : AbV S) (hS : CSt S σ mk T) {a1 a2 : Int32} : Cl G mX11_toggle d [.ref 0, .int a1, .int a2] σ 0 0 (pI fun r s => r = aTog S a1 a2 ∧ fK σ s ∧ CSt (S.togF a1 a2) s mk T) := by
  obtain ⟨d0, hdd⟩ : ∃ e, d = e + 1 := ⟨d - 1, by omega⟩
  refine cl_of (by decide) (by simp [Value.category]) (Nat.le_of_ble_eq_true rfl) ?_
  show Wp G mX11_toggle d 0 [.ref 0, .int a1, .int a2] [] σ 0 0 _
  have hH := hS.1.2.2.2
  have hn := hV.1.1.1
  obtain ⟨hN, hNA⟩ := hS.2.1.2.1
  obtain ⟨dn, dnb, hdn, hdw, hDr, hDA⟩ := id hS.2.1.2.2.1
  refine wp_aload_n (atd dX11_toggle 0 rfl) rfl rfl ?_
  refine wp_get fX11_19 (atd dX11_toggle 1 rfl) hH rfl ?_
  refine wp_iload_n (atd dX11_toggle 2 rfl) rfl ?_
  refine wp_cVi hdd [_] (atd dX11_toggle 3 rfl) iX3_has lX11_144 rfl rfl (Nat.le_of_ble_eq_true rfl) hN rfl (eX3_has (by omega) hN hn) (fun r_5 s_5 h_5 => ?_)
  obtain ⟨rfl, e_5⟩ := h_5
  obtain rfl := e_5.symm
  refine wp_ifB_eq (tgt := 27) (atd dX11_toggle 4 rfl) (by decide) (fun c_8 => ?_) (fun c_8 => ?_)
  ·
    refine wp_iconst (v := -1) (atd dX11_toggle 13 rfl) (by decide) ?_
    refine wp_ireti (atd dX11_toggle 14 rfl) rfl ?_
    have hno : ¬ tgOk S.n a1 a2 := fun z => c_8 z.1
    refine ⟨?_, fK.rf, ?_⟩
    · exact aTog_no hno
    · rw [show S.togF _ _ = S from if_neg hno]; exact hS
  ·
    obtain ⟨p, hp, rfl⟩ := isP_ofB c_8
    refine wp_aload_n (atd dX11_toggle 5 rfl) rfl rfl ?_
    refine wp_get fX11_19 (atd dX11_toggle 6 rfl) hH rfl ?_
    refine wp_iload_n (atd dX11_toggle 7 rfl) rfl ?_
    refine wp_cVi hdd [_] (atd dX11_toggle 8 rfl) iX3_has lX11_144 rfl rfl (Nat.le_of_ble_eq_true rfl) hN rfl (eX3_has (by omega) hN hn) (fun r_16 s_16 h_16 => ?_)
    obtain ⟨rfl, e_16⟩ := h_16
    obtain rfl := e_16.symm
    refine wp_ifB_eq (tgt := 27) (atd dX11_toggle 9 rfl) (by decide) (fun c_19 => ?_) (fun c_19 => ?_)
    ·
      refine wp_iconst (v := -1) (atd dX11_toggle 13 rfl) (by decide) ?_
      refine wp_ireti (atd dX11_toggle 14 rfl) rfl ?_
      have hno : ¬ tgOk S.n (nI p) a2 := fun z => c_19 z.2.1
      refine ⟨?_, fK.rf, ?_⟩
      · exact aTog_no hno
      · rw [show S.togF _ _ = S from if_neg hno]; exact hS
    ·
      obtain ⟨q, hq, rfl⟩ := isP_ofB c_19
      refine wp_iload_n (atd dX11_toggle 10 rfl) rfl ?_
      refine wp_iload_n (atd dX11_toggle 11 rfl) rfl ?_
      refine wp_icmpN_ne (tgt := 29) (atd dX11_toggle 12 rfl) (by decide) (by omega) (by omega) (fun c_24 => ?_) (fun c_24 => ?_)
      ·
        refine wp_aload_n (atd dX11_toggle 15 rfl) rfl rfl ?_
        refine wp_get fX11_23 (atd dX11_toggle 16 rfl) hH rfl ?_
        refine wp_aload_n (atd dX11_toggle 17 rfl) rfl rfl ?_
        refine wp_get fX11_19 (atd dX11_toggle 18 rfl) hH rfl ?_
        refine wp_cVv hdd [_] (atd dX11_toggle 19 rfl) iX3_copyFrom lX11_100 rfl rfl (Nat.le_of_ble_eq_true rfl) hDr rfl (eX3_copyFrom (by omega) hDr hDA hN hNA (by omega)) (fun s_37 h_37 => ?_)
        obtain ⟨f_37, hDr, hDA⟩ := h_37
        have c3 : cDra s_37 := ⟨S.n, S.nb, hn, net_lt hV.1, hDr, hDA⟩
        obtain ⟨hS, hk1⟩ := CSt.upS hS f_37.A
        have hH := hS.1.2.2.2
        refine wp_aload_n (atd dX11_toggle 20 rfl) rfl rfl ?_
        refine wp_get fX11_23 (atd dX11_toggle 21 rfl) hH rfl ?_
        refine wp_iload_n (atd dX11_toggle 22 rfl) rfl ?_
        refine wp_iload_n (atd dX11_toggle 23 rfl) rfl ?_
        refine wp_cVv hdd [_, _] (atd dX11_toggle 24 rfl) iX3_flip lX11_316 rfl rfl (Nat.le_of_ble_eq_true rfl) hDr rfl (eX3_flip (by omega) hDr hDA hn (net_lt hV.1) (by omega) (by omega)) (fun s_46 h_46 => ?_)
        obtain ⟨f_46, hDA⟩ := h_46
        rw [flp_t c_24 hp hq] at hDA
        have hDr := hDr.fr f_46 (by decide)
        have hNZ := nbt_netZ hV.1 hp hq c_24
        have c3 : cDra s_46 := ⟨S.n, _, hn, net_lt hNZ, hDr, hDA⟩
        obtain ⟨hS, hk2⟩ := CSt.upS hS f_46.A
        have hH := hS.1.2.2.2
        refine wp_aload_n (atd dX11_toggle 25 rfl) rfl rfl ?_
        refine wp_cVv hdd [] (atd dX11_toggle 26 rfl) iX11_takeDraft lX11_320 rfl rfl (Nat.le_of_ble_eq_true rfl) hH rfl (eX11_takeDraft (by omega) hV hS hDr hDA hNZ) (fun s_50 h_50 => ?_)
        obtain ⟨hS, hk3⟩ := h_50
        have hH := hS.1.2.2.2
        obtain ⟨hN, hNA⟩ := hS.2.1.2.1
        refine wp_aload_n (atd dX11_toggle 27 rfl) rfl rfl ?_
        refine wp_get fX11_19 (atd dX11_toggle 28 rfl) hH rfl ?_
        refine wp_iload_n (atd dX11_toggle 29 rfl) rfl ?_
        refine wp_iload_n (atd dX11_toggle 30 rfl) rfl ?_
        refine wp_cVi hdd [_, _] (atd dX11_toggle 31 rfl) iX3_joined lX11_323 rfl rfl (Nat.le_of_ble_eq_true rfl) hN rfl (eX3_joined (by omega) hN hNA hn (net_lt hNZ) (by omega) (by omega)) (fun r_59 s_59 h_59 => ?_)
        obtain ⟨rfl, e_59⟩ := h_59
        obtain rfl := e_59.symm
        refine wp_ifB_eq (tgt := 69) (atd dX11_toggle 32 rfl) (by decide) (fun c_62 => ?_) (fun c_62 => ?_)
        ·
          refine wp_iconst (v := nI 0) (atd dX11_toggle 35 rfl) (by decide) ?_
          refine wp_ireti (atd dX11_toggle 36 rfl) rfl ?_
          have hyes : tgOk S.n (nI p) (nI q) := ⟨(isP_nI (by omega)).mpr hp, (isP_nI (by omega)).mpr hq, fun z => c_24 ((nI_eq (by omega) (by omega)).mp z)⟩
          refine ⟨?_, hk1.tr (hk2.tr hk3), ?_⟩
          · rw [aTog_yes hp hq c_24 hn]
            exact (bI_f (fun z => c_62 ⟨c_24, hq, z⟩)).symm
          · rw [show S.togF (nI p) (nI q) = S.nnet S.n (nbt S.nb p q) from by refine (if_pos hyes).trans ?_; rw [nI_clamp (by omega), nI_clamp (by omega)]]
            exact hS
        ·
          refine wp_iconst (v := nI 1) (atd dX11_toggle 33 rfl) (by decide) ?_
          refine wp_goto (tgt := 70) (atd dX11_toggle 34 rfl) (by decide) ?_
          refine wp_ireti (atd dX11_toggle 36 rfl) rfl ?_
          have hyes : tgOk S.n (nI p) (nI q) := ⟨(isP_nI (by omega)).mpr hp, (isP_nI (by omega)).mpr hq, fun z => c_24 ((nI_eq (by omega) (by omega)).mp z)⟩
          refine ⟨?_, hk1.tr (hk2.tr hk3), ?_⟩
          · rw [aTog_yes hp hq c_24 hn]
            exact (bI_t c_62.2.2).symm
          · rw [show S.togF (nI p) (nI q) = S.nnet S.n (nbt S.nb p q) from by refine (if_pos hyes).trans ?_; rw [nI_clamp (by omega), nI_clamp (by omega)]]
            exact hS
      ·
        refine wp_iconst (v := -1) (atd dX11_toggle 13 rfl) (by decide) ?_
        refine wp_ireti (atd dX11_toggle 14 rfl) rfl ?_
        have hno : ¬ tgOk S.n (nI p) (nI q) := fun z => z.2.2 (by rw [c_24])
        refine ⟨?_, fK.rf, ?_⟩
        · exact aTog_no hno
        · rw [show S.togF _ _ = S from if_neg hno]; exact hS
