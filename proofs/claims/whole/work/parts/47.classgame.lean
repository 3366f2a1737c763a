def gaF (kd f f2 : Nat) (rd : Int32) (wv : Value) (op tn rf hp : Int32) : List Value := [.int (nI kd), .int (nI f), .int (nI f2), .int rd, wv, .int op, .int tn, .int rf, .int hp]
def ggF (g kn : Nat) : List Value := [.ref kn, .ref (g + 1), .ref (g + 9), .ref (g + 10), .ref (g + 11), .ref (g + 12)]
theorem nI_dec {c : Nat} (h : 0 < c) : nI c + Int32.ofInt (-1) = nI (c - 1) := by
  obtain ⟨m, rfl⟩ : ∃ m, c = m + 1 := ⟨c - 1, by omega⟩
  exact pk_m1 m
def rkO (v : Option Nat) : Nat := match v with
  | none => 1000000
  | some x => x
def wkO (x : Nat) : Option Nat := if x = 1000000 then none else some x
theorem eX1_indexOf {G : Gx} {d : Nat} {σ : Hp} (hd : 0 ≤ d) {a kd f f2 : Nat} {rd op tn rf hp : Int32} {wv : Value} (hGm : OB σ a 1 (gaF kd f f2 rd wv op tn rf hp)) (hf2 : f2 ≤ 219) {x p : Nat} (h1 : f ≤ x) (h2 : x < f2) (hp9 : p < 9) : Cl G mX1_indexOf d [.ref a, .int (nI x), .int (nI p)] σ 0 0 (pI fun z s => z = nI ((x - f) * 9 + p) ∧ s = σ) := by
  refine cl_of (by decide) (by simp [Value.category]) (Nat.le_of_ble_eq_true rfl) ?_
  show Wp G mX1_indexOf d 0 [.ref a, .int (nI x), .int (nI p), .double 0] [] σ 0 0 _
  refine wp_iload_n (atd dX1_indexOf 0 rfl) rfl ?_
  refine wp_aload_n (atd dX1_indexOf 1 rfl) rfl rfl ?_
  refine wp_get fX1_15 (atd dX1_indexOf 2 rfl) hGm rfl ?_
  refine wp_icmpN_lt (tgt := 30) (atd dX1_indexOf 3 rfl) (by decide) (by omega) (by omega) (fun c_5 => ?_) (fun c_5 => ?_)
  · exfalso; omega
  ·
    refine wp_iload_n (atd dX1_indexOf 4 rfl) rfl ?_
    refine wp_aload_n (atd dX1_indexOf 5 rfl) rfl rfl ?_
    refine wp_get fX1_18 (atd dX1_indexOf 6 rfl) hGm rfl ?_
    refine wp_icmpN_ge (tgt := 30) (atd dX1_indexOf 7 rfl) (by decide) (by omega) (by omega) (fun c_13 => ?_) (fun c_13 => ?_)
    · exfalso; omega
    ·
      refine wp_iload_n (atd dX1_indexOf 8 rfl) rfl ?_
      refine wp_ifN_lt (tgt := 30) (atd dX1_indexOf 9 rfl) (by decide) (by omega) ?_
      refine wp_iload_n (atd dX1_indexOf 10 rfl) rfl ?_
      refine wp_bipush (v := nI 9) (atd dX1_indexOf 11 rfl) (by decide) ?_
      refine wp_icmpN_ge (tgt := 30) (atd dX1_indexOf 12 rfl) (by decide) (by omega) (by omega) (fun c_23 => ?_) (fun c_23 => ?_)
      · exfalso; omega
      ·
        refine wp_iconst (v := nI 1) (atd dX1_indexOf 13 rfl) (by decide) ?_
        refine wp_goto (tgt := 31) (atd dX1_indexOf 14 rfl) (by decide) ?_
        refine wp_istore_n (atd dX1_indexOf 16 rfl) (Nat.le_of_ble_eq_true rfl) ?_
        refine wp_iload_n (atd dX1_indexOf 17 rfl) rfl ?_
        refine wp_ifN_eq (tgt := 50) (atd dX1_indexOf 18 rfl) (by decide) (by omega) (fun c_33 => ?_) (fun c_33 => ?_)
        · exact absurd c_33 (by decide)
        ·
          refine wp_iload_n (atd dX1_indexOf 19 rfl) rfl ?_
          refine wp_aload_n (atd dX1_indexOf 20 rfl) rfl rfl ?_
          refine wp_get fX1_15 (atd dX1_indexOf 21 rfl) hGm rfl ?_
          refine wp_isubN (atd dX1_indexOf 22 rfl) (by omega) ?_
          refine wp_bipush (v := nI 9) (atd dX1_indexOf 23 rfl) (by decide) ?_
          refine wp_imulN (atd dX1_indexOf 24 rfl) ?_
          refine wp_iload_n (atd dX1_indexOf 25 rfl) rfl ?_
          refine wp_iaddN (atd dX1_indexOf 26 rfl) ?_
          refine wp_goto (tgt := 51) (atd dX1_indexOf 27 rfl) (by decide) ?_
          refine wp_ireti (atd dX1_indexOf 29 rfl) rfl ?_
          exact ⟨rfl, rfl⟩
theorem eX1_worthAt {G : Gx} {d : Nat} {σ : Hp} (hd : 1 ≤ d) {a kd f f2 wa : Nat} {rd op tn rf hp : Int32} {wo : Nat → Option Nat} (hGm : OB σ a 1 (gaF kd f f2 rd (.ref wa) op tn rf hp)) (hWo : AO σ wa ((f2 - f) * 9) wo) (hf2 : f2 ≤ 219) {x p : Nat} (h1 : f ≤ x) (h2 : x < f2) (hp9 : p < 9) : Cl G mX1_worthAt d [.ref a, .int (nI x), .int (nI p)] σ 0 0 (pI fun z s => z = oI (wo ((x - f) * 9 + p)) ∧ s = σ) := by
  obtain ⟨d0, hdd⟩ : ∃ e, d = e + 1 := ⟨d - 1, by omega⟩
  refine cl_of (by decide) (by simp [Value.category]) (Nat.le_of_ble_eq_true rfl) ?_
  show Wp G mX1_worthAt d 0 [.ref a, .int (nI x), .int (nI p), .double 0] [] σ 0 0 _
  refine wp_aload_n (atd dX1_worthAt 0 rfl) rfl rfl ?_
  refine wp_iload_n (atd dX1_worthAt 1 rfl) rfl ?_
  refine wp_iload_n (atd dX1_worthAt 2 rfl) rfl ?_
  refine wp_cVi hdd [_, _] (atd dX1_worthAt 3 rfl) iX1_indexOf lX1_40 rfl rfl (Nat.le_of_ble_eq_true rfl) hGm rfl (eX1_indexOf (by omega) hGm hf2 h1 h2 (by omega)) (fun r_3 s_3 h_3 => ?_)
  obtain ⟨rfl, e_3⟩ := h_3
  obtain rfl := e_3.symm
  refine wp_istore_n (atd dX1_worthAt 4 rfl) (Nat.le_of_ble_eq_true rfl) ?_
  refine wp_iload_n (atd dX1_worthAt 5 rfl) rfl ?_
  refine wp_ifN_lt (tgt := 36) (atd dX1_worthAt 6 rfl) (by decide) (by omega) ?_
  refine wp_aload_n (atd dX1_worthAt 7 rfl) rfl rfl ?_
  refine wp_get fX1_21 (atd dX1_worthAt 8 rfl) hGm rfl ?_
  refine wp_ifnull_r (atd dX1_worthAt 9 rfl) ?_
  refine wp_iload_n (atd dX1_worthAt 10 rfl) rfl ?_
  refine wp_aload_n (atd dX1_worthAt 11 rfl) rfl rfl ?_
  refine wp_get fX1_21 (atd dX1_worthAt 12 rfl) hGm rfl ?_
  refine wp_lenO (atd dX1_worthAt 13 rfl) hWo ?_
  refine wp_icmpN_ge (tgt := 36) (atd dX1_worthAt 14 rfl) (by decide) (by omega) (by omega) (fun c_24 => ?_) (fun c_24 => ?_)
  · exfalso; omega
  ·
    refine wp_aload_n (atd dX1_worthAt 15 rfl) rfl rfl ?_
    refine wp_get fX1_21 (atd dX1_worthAt 16 rfl) hGm rfl ?_
    refine wp_iload_n (atd dX1_worthAt 17 rfl) rfl ?_
    refine wp_ialdO (atd dX1_worthAt 18 rfl) hWo (by omega) (by omega) ?_
    refine wp_goto (tgt := 37) (atd dX1_worthAt 19 rfl) (by decide) ?_
    refine wp_ireti (atd dX1_worthAt 21 rfl) rfl ?_
    exact ⟨rfl, rfl⟩
theorem lX1_sureBits {G : Gx} {d : Nat} {σ : Hp} (hd : 2 ≤ d) {a kd f f2 wa : Nat} {rd op tn rf hp : Int32} {wo : Nat → Option Nat} (hGm : OB σ a 1 (gaF kd f f2 rd (.ref wa) op tn rf hp)) (hWo : AO σ wa ((f2 - f) * 9) wo) (hf2 : f2 ≤ 219) (hwb : ∀ i v, wo i = some v → v < 1000000) {x n v : Nat} (h1 : f ≤ x) (h2 : x < f2) (hn : n ≤ 9) : ∀ (y : Nat) (p b : Nat), p + y = n → fl (suG (fun p => wo ((x - f) * 9 + p))) y p b = v → Wp G mX1_sureBits d 5 [.ref a, .int (nI x), .int (nI n), .int (nI b), .int (nI p)] [] σ 0 0 (pI fun z s => z = nI v ∧ s = σ) := by
  obtain ⟨d0, hdd⟩ : ∃ e, d = e + 1 := ⟨d - 1, by omega⟩
  intro y
  induction y with
  | zero =>
    intro p b h hv
    refine wp_iload (atd dX1_sureBits 4 rfl) rfl ?_
    refine wp_iload_n (atd dX1_sureBits 5 rfl) rfl ?_
    refine wp_icmpN_ge (tgt := 35) (atd dX1_sureBits 6 rfl) (by decide) (by omega) (by omega) (fun c_8 => ?_) (fun c_8 => ?_)
    ·
      refine wp_iload_n (atd dX1_sureBits 21 rfl) rfl ?_
      refine wp_ireti (atd dX1_sureBits 22 rfl) rfl ?_
      exact ⟨by rw [← hv]; rfl, rfl⟩
    · exfalso; omega
  | succ y ih =>
    intro p b h hv
    refine wp_iload (atd dX1_sureBits 4 rfl) rfl ?_
    refine wp_iload_n (atd dX1_sureBits 5 rfl) rfl ?_
    refine wp_icmpN_ge (tgt := 35) (atd dX1_sureBits 6 rfl) (by decide) (by omega) (by omega) (fun c_8 => ?_) (fun c_8 => ?_)
    · exfalso; omega
    ·
      refine wp_aload_n (atd dX1_sureBits 7 rfl) rfl rfl ?_
      refine wp_iload_n (atd dX1_sureBits 8 rfl) rfl ?_
      refine wp_iload (atd dX1_sureBits 9 rfl) rfl ?_
      refine wp_cVi hdd [_, _] (atd dX1_sureBits 10 rfl) iX1_worthAt lX1_43 rfl rfl (Nat.le_of_ble_eq_true rfl) hGm rfl (eX1_worthAt (by omega) hGm hWo hf2 h1 h2 (by omega)) (fun r_15 s_15 h_15 => ?_)
      obtain ⟨rfl, e_15⟩ := h_15
      obtain rfl := e_15.symm
      rcases hwo : wo ((x - f) * 9 + p) with _ | v
      ·
        rw [show oI none = -1 from rfl]
        refine wp_iconst (v := -1) (atd dX1_sureBits 11 rfl) (by decide) ?_
        refine wp_icmp_eq (tgt := 29) (atd dX1_sureBits 12 rfl) (by decide) (fun c_19 => ?_) (fun c_19 => ?_)
        ·
          refine wp_iincN (c := 1) (atd dX1_sureBits 19 rfl) rfl ?_
          refine wp_goto (tgt := 5) (atd dX1_sureBits 20 rfl) (by decide) ?_
          exact ih (p + 1) _ (by omega) (by rw [← hv]; show _ = fl _ _ _ (b ||| (if wo ((x - f) * 9 + p) = none then 0 else 2 ^ p)); rw [hwo]; rw [if_pos rfl, Nat.or_zero])
        · exact absurd rfl c_19
      ·
        rw [show oI (some v) = nI v from rfl]
        refine wp_iconst (v := -1) (atd dX1_sureBits 11 rfl) (by decide) ?_
        refine wp_icmp_eq (tgt := 29) (atd dX1_sureBits 12 rfl) (by decide) (fun c_19 => ?_) (fun c_19 => ?_)
        · exact absurd c_19 (nI_m1 (by have := hwb _ _ hwo; omega))
        ·
          refine wp_iload_n (atd dX1_sureBits 13 rfl) rfl ?_
          refine wp_iconst (v := nI 1) (atd dX1_sureBits 14 rfl) (by decide) ?_
          refine wp_iload (atd dX1_sureBits 15 rfl) rfl ?_
          refine wp_ishl1 (atd dX1_sureBits 16 rfl) (by omega) ?_
          refine wp_iorN (atd dX1_sureBits 17 rfl) ?_
          refine wp_istore_n (atd dX1_sureBits 18 rfl) (Nat.le_of_ble_eq_true rfl) ?_
          refine wp_iincN (c := 1) (atd dX1_sureBits 19 rfl) rfl ?_
          refine wp_goto (tgt := 5) (atd dX1_sureBits 20 rfl) (by decide) ?_
          exact ih (p + 1) _ (by omega) (by rw [← hv]; show _ = fl _ _ _ (b ||| (if wo ((x - f) * 9 + p) = none then 0 else 2 ^ p)); rw [hwo]; rw [if_neg (by intro e; cases e)])
theorem eX1_sureBits {G : Gx} {d : Nat} {σ : Hp} (hd : 2 ≤ d) {a kd f f2 wa : Nat} {rd op tn rf hp : Int32} {wo : Nat → Option Nat} (hGm : OB σ a 1 (gaF kd f f2 rd (.ref wa) op tn rf hp)) (hWo : AO σ wa ((f2 - f) * 9) wo) (hf2 : f2 ≤ 219) (hwb : ∀ i v, wo i = some v → v < 1000000) {x n : Nat} (h1 : f ≤ x) (h2 : x < f2) (hn : n ≤ 9) : Cl G mX1_sureBits d [.ref a, .int (nI x), .int (nI n)] σ 0 0 (pI fun z s => z = nI (fl (suG (fun p => wo ((x - f) * 9 + p))) n 0 0) ∧ s = σ) := by
  obtain ⟨d0, hdd⟩ : ∃ e, d = e + 1 := ⟨d - 1, by omega⟩
  refine cl_of (by decide) (by simp [Value.category]) (Nat.le_of_ble_eq_true rfl) ?_
  show Wp G mX1_sureBits d 0 [.ref a, .int (nI x), .int (nI n), .double 0, .double 0] [] σ 0 0 _
  refine wp_iconst (v := nI 0) (atd dX1_sureBits 0 rfl) (by decide) ?_
  refine wp_istore_n (atd dX1_sureBits 1 rfl) (Nat.le_of_ble_eq_true rfl) ?_
  refine wp_iconst (v := nI 0) (atd dX1_sureBits 2 rfl) (by decide) ?_
  refine wp_istore (atd dX1_sureBits 3 rfl) (Nat.le_of_ble_eq_true rfl) ?_
  exact lX1_sureBits (by omega) hGm hWo hf2 hwb h1 h2 hn n 0 0 (by omega) rfl
theorem eX2_isOnNet {G : Gx} {d : Nat} {σ : Hp} (hd : 1 ≤ d) {kn n : Nat} {nb : Nat → Nat} (hN : OB σ kn 3 [.int (nI n), .ref (kn + 1)]) (hNA : AI σ (kn + 1) 9 nb) (hn : n ≤ 9) (hw : ∀ p, nb p < 512) {g fc t : Nat} (hG : OB σ g 2 (ggF g kn)) (hO : OB σ (g + 1) 5 (roF (g + 1) fc t)) (hT : RT σ (g + 1)) {x : Nat} (hx : x < 219) : Cl G mX2_isOnNet d [.ref g, .int (nI x)] σ 0 0 (pI fun z s => z = bI (dif (sdC x) (2 ^ n - 1) = 0) ∧ s = σ) := by
  obtain ⟨d0, hdd⟩ : ∃ e, d = e + 1 := ⟨d - 1, by omega⟩
  refine cl_of (by decide) (by simp [Value.category]) (Nat.le_of_ble_eq_true rfl) ?_
  show Wp G mX2_isOnNet d 0 [.ref g, .int (nI x)] [] σ 0 0 _
  refine wp_aload_n (atd dX2_isOnNet 0 rfl) rfl rfl ?_
  refine wp_get fX2_12 (atd dX2_isOnNet 1 rfl) hG rfl ?_
  refine wp_iload_n (atd dX2_isOnNet 2 rfl) rfl ?_
  refine wp_cVi hdd [_] (atd dX2_isOnNet 3 rfl) iX5_standBits lX2_78 rfl rfl (Nat.le_of_ble_eq_true rfl) hO rfl (eX5_standBits (by omega) hO hT (by omega)) (fun r_5 s_5 h_5 => ?_)
  obtain ⟨rfl, e_5⟩ := h_5
  obtain rfl := e_5.symm
  refine wp_aload_n (atd dX2_isOnNet 4 rfl) rfl rfl ?_
  refine wp_get fX2_34 (atd dX2_isOnNet 5 rfl) hG rfl ?_
  refine wp_cVi hdd [] (atd dX2_isOnNet 6 rfl) iX3_all lX2_92 rfl rfl (Nat.le_of_ble_eq_true rfl) hN rfl (eX3_all (by omega) hN hn) (fun r_12 s_12 h_12 => ?_)
  obtain ⟨rfl, e_12⟩ := h_12
  obtain rfl := e_12.symm
  refine wp_iconst (v := -1) (atd dX2_isOnNet 7 rfl) (by decide) ?_
  refine wp_ixor (atd dX2_isOnNet 8 rfl) ?_
  refine wp_iandC (atd dX2_isOnNet 9 rfl) ?_
  refine wp_ifN_ne (tgt := 25) (atd dX2_isOnNet 10 rfl) (by decide) (by have := dif_lt9 (b := 2 ^ n - 1) (sdC_lt x); omega) (fun c_18 => ?_) (fun c_18 => ?_)
  ·
    refine wp_iconst (v := nI 0) (atd dX2_isOnNet 13 rfl) (by decide) ?_
    refine wp_iretz (atd dX2_isOnNet 14 rfl) rfl (by first | rfl | decide) ?_
    exact ⟨(bI_f (by omega)).symm, rfl⟩
  ·
    refine wp_iconst (v := nI 1) (atd dX2_isOnNet 11 rfl) (by decide) ?_
    refine wp_goto (tgt := 26) (atd dX2_isOnNet 12 rfl) (by decide) ?_
    refine wp_iretz (atd dX2_isOnNet 14 rfl) rfl (by first | rfl | decide) ?_
    exact ⟨(bI_t c_18).symm, rfl⟩
def rch (nb : Nat → Nat) (kd st p : Nat) : Nat := if kd = 2 then nb p ||| nall nb 9 (dif (nb p) st) else nb p
theorem rch_lt {nb : Nat → Nat} (hw : ∀ p, nb p < 512) (kd st p : Nat) : rch nb kd st p < 512 := by
  unfold rch
  split
  · exact Nat.or_lt_two_pow (n := 9) (hw p) (nall9_lt hw _)
  · exact hw p
theorem eX2_reach {G : Gx} {d : Nat} {σ : Hp} (hd : 1 ≤ d) {kn n : Nat} {nb : Nat → Nat} (hN : OB σ kn 3 [.int (nI n), .ref (kn + 1)]) (hNA : AI σ (kn + 1) 9 nb) (hn : n ≤ 9) (hw : ∀ p, nb p < 512) {g fc t : Nat} (hG : OB σ g 2 (ggF g kn)) (hO : OB σ (g + 1) 5 (roF (g + 1) fc t)) (hT : RT σ (g + 1)) {kd x p : Nat} (hkd : kd < 3) (hx : x < 219) (hp : p < 9) : Cl G mX2_reach d [.ref g, .int (nI kd), .int (nI x), .int (nI p)] σ 0 0 (pI fun z s => z = nI (rch nb kd (sdC x) p) ∧ s = σ) := by
  obtain ⟨d0, hdd⟩ : ∃ e, d = e + 1 := ⟨d - 1, by omega⟩
  refine cl_of (by decide) (by simp [Value.category]) (Nat.le_of_ble_eq_true rfl) ?_
  show Wp G mX2_reach d 0 [.ref g, .int (nI kd), .int (nI x), .int (nI p), .double 0] [] σ 0 0 _
  refine wp_aload_n (atd dX2_reach 0 rfl) rfl rfl ?_
  refine wp_get fX2_34 (atd dX2_reach 1 rfl) hG rfl ?_
  refine wp_iload_n (atd dX2_reach 2 rfl) rfl ?_
  refine wp_cVi hdd [_] (atd dX2_reach 3 rfl) iX3_around lX2_151 rfl rfl (Nat.le_of_ble_eq_true rfl) hN rfl (eX3_around (by omega) hN hNA hn hw (by omega)) (fun r_5 s_5 h_5 => ?_)
  obtain ⟨rfl, e_5⟩ := h_5
  obtain rfl := e_5.symm
  refine wp_istore (atd dX2_reach 4 rfl) (Nat.le_of_ble_eq_true rfl) ?_
  refine wp_iload_n (atd dX2_reach 5 rfl) rfl ?_
  refine wp_iconst (v := nI 2) (atd dX2_reach 6 rfl) (by decide) ?_
  refine wp_icmpN_ne (tgt := 41) (atd dX2_reach 7 rfl) (by decide) (by omega) (by omega) (fun c_12 => ?_) (fun c_12 => ?_)
  ·
    refine wp_iload (atd dX2_reach 22 rfl) rfl ?_
    refine wp_ireti (atd dX2_reach 23 rfl) rfl ?_
    exact ⟨by rw [rch, if_neg c_12], rfl⟩
  ·
    refine wp_iload (atd dX2_reach 8 rfl) rfl ?_
    refine wp_aload_n (atd dX2_reach 9 rfl) rfl rfl ?_
    refine wp_get fX2_34 (atd dX2_reach 10 rfl) hG rfl ?_
    refine wp_iload (atd dX2_reach 11 rfl) rfl ?_
    refine wp_aload_n (atd dX2_reach 12 rfl) rfl rfl ?_
    refine wp_get fX2_12 (atd dX2_reach 13 rfl) hG rfl ?_
    refine wp_iload_n (atd dX2_reach 14 rfl) rfl ?_
    refine wp_cVi hdd [_] (atd dX2_reach 15 rfl) iX5_standBits lX2_78 rfl rfl (Nat.le_of_ble_eq_true rfl) hO rfl (eX5_standBits (by omega) hO hT (by omega)) (fun r_28 s_28 h_28 => ?_)
    obtain ⟨rfl, e_28⟩ := h_28
    obtain rfl := e_28.symm
    refine wp_iconst (v := -1) (atd dX2_reach 16 rfl) (by decide) ?_
    refine wp_ixor (atd dX2_reach 17 rfl) ?_
    refine wp_iandC (atd dX2_reach 18 rfl) ?_
    refine wp_cVi hdd [_] (atd dX2_reach 19 rfl) iX3_widen lX2_154 rfl rfl (Nat.le_of_ble_eq_true rfl) hN rfl (eX3_widen (by omega) hN hNA hn hw (by have := dif_lt9 (b := sdC x) (hw p); omega)) (fun r_34 s_34 h_34 => ?_)
    obtain ⟨rfl, e_34⟩ := h_34
    obtain rfl := e_34.symm
    refine wp_iorN (atd dX2_reach 20 rfl) ?_
    refine wp_goto (tgt := 43) (atd dX2_reach 21 rfl) (by decide) ?_
    refine wp_ireti (atd dX2_reach 23 rfl) rfl ?_
    exact ⟨by rw [rch, if_pos c_12], rfl⟩
theorem oI_rk {v : Option Nat} (hb : ∀ x, v = some x → x < 1000000) : (v = none ∧ oI v = -1) ∨ ∃ x, v = some x ∧ oI v = nI x ∧ x < 1000000 := by
  cases v with
  | none => exact Or.inl ⟨rfl, rfl⟩
  | some x => exact Or.inr ⟨x, rfl, rfl, hb x rfl⟩
theorem eX2_rankOf {G : Gx} {d : Nat} {σ : Hp} (hd : 0 ≤ d) {v : Option Nat} (hb : ∀ x, v = some x → x < 1000000) : Cl G mX2_rankOf d [.int (oI v)] σ 0 0 (pI fun z s => z = nI (rkO v) ∧ s = σ) := by
  refine cl_of (by decide) (by simp [Value.category]) (Nat.le_of_ble_eq_true rfl) ?_
  show Wp G mX2_rankOf d 0 [.int (oI v)] [] σ 0 0 _
  rcases v with _ | x
  ·
    show Wp _ _ _ _ [.int (-1)] _ _ _ _ _
    refine wp_iload_n (atd dX2_rankOf 0 rfl) rfl ?_
    refine wp_iconst (v := -1) (atd dX2_rankOf 1 rfl) (by decide) ?_
    refine wp_icmp_ne (tgt := 10) (atd dX2_rankOf 2 rfl) (by decide) (fun c_2 => ?_) (fun c_2 => ?_)
    · exact absurd rfl c_2
    ·
      refine wp_ldc (v := nI 1000000) (atd dX2_rankOf 3 rfl) qX2_123 ?_
      refine wp_goto (tgt := 11) (atd dX2_rankOf 4 rfl) (by decide) ?_
      refine wp_ireti (atd dX2_rankOf 6 rfl) rfl ?_
      exact ⟨rfl, rfl⟩
  ·
    show Wp _ _ _ _ [.int (nI x)] _ _ _ _ _
    have := hb x rfl
    refine wp_iload_n (atd dX2_rankOf 0 rfl) rfl ?_
    refine wp_iconst (v := -1) (atd dX2_rankOf 1 rfl) (by decide) ?_
    refine wp_icmp_ne (tgt := 10) (atd dX2_rankOf 2 rfl) (by decide) (fun c_2 => ?_) (fun c_2 => ?_)
    ·
      refine wp_iload_n (atd dX2_rankOf 5 rfl) rfl ?_
      refine wp_ireti (atd dX2_rankOf 6 rfl) rfl ?_
      exact ⟨rfl, rfl⟩
    · exact absurd (fun e => nI_m1 (by omega) e) c_2
theorem eX2_worthOf {G : Gx} {d : Nat} {σ : Hp} (hd : 0 ≤ d) {x : Nat} (hx : x < 2 ^ 31) : Cl G mX2_worthOf d [.int (nI x)] σ 0 0 (pI fun z s => z = oI (wkO x) ∧ s = σ) := by
  refine cl_of (by decide) (by simp [Value.category]) (Nat.le_of_ble_eq_true rfl) ?_
  show Wp G mX2_worthOf d 0 [.int (nI x)] [] σ 0 0 _
  refine wp_iload_n (atd dX2_worthOf 0 rfl) rfl ?_
  refine wp_ldc (v := nI 1000000) (atd dX2_worthOf 1 rfl) qX2_123 ?_
  refine wp_icmpN_ne (tgt := 10) (atd dX2_worthOf 2 rfl) (by decide) (by omega) (by omega) (fun c_3 => ?_) (fun c_3 => ?_)
  ·
    refine wp_iload_n (atd dX2_worthOf 5 rfl) rfl ?_
    refine wp_ireti (atd dX2_worthOf 6 rfl) rfl ?_
    exact ⟨by rw [wkO, if_neg c_3]; rfl, rfl⟩
  ·
    refine wp_iconst (v := -1) (atd dX2_worthOf 3 rfl) (by decide) ?_
    refine wp_goto (tgt := 11) (atd dX2_worthOf 4 rfl) (by decide) ?_
    refine wp_ireti (atd dX2_worthOf 6 rfl) rfl ?_
    exact ⟨by rw [wkO, if_pos c_3]; rfl, rfl⟩
def grG (u : Nat → Option Nat) (pl p m : Nat) : Nat := if pl.testBit p = true then (if m < rkO (u p) then rkO (u p) else m) else m
def grF (u : Nat → Option Nat) (pl n : Nat) : Nat := fl (grG u pl) n 0 0
theorem rkO_le {v : Option Nat} (hb : ∀ x, v = some x → x < 1000000) : rkO v ≤ 1000000 := by
  cases v with
  | none => exact Nat.le_refl _
  | some x => exact Nat.le_of_lt (hb x rfl)
theorem grG_le {u : Nat → Option Nat} (hb : ∀ i x, u i = some x → x < 1000000) {pl p m : Nat} (hm : m ≤ 1000000) : grG u pl p m ≤ 1000000 := by
  unfold grG
  split
  · split
    · exact rkO_le (hb p)
    · exact hm
  · exact hm
theorem grF_le {u : Nat → Option Nat} (hb : ∀ i x, u i = some x → x < 1000000) (pl n : Nat) : grF u pl n ≤ 1000000 := by
  have h : ∀ (k i a : Nat), a ≤ 1000000 → fl (grG u pl) k i a ≤ 1000000 := by
    intro k
    induction k with
    | zero => intro i a h; exact h
    | succ k ih => intro i a h; exact ih _ _ (grG_le hb h)
  exact h n 0 0 (by decide)
theorem lX2_greatestRank {G : Gx} {d : Nat} {σ : Hp} (hd : 2 ≤ d) {g : Nat} {kn n : Nat} {nb : Nat → Nat} (hN : OB σ kn 3 [.int (nI n), .ref (kn + 1)]) (hNA : AI σ (kn + 1) 9 nb) (hn : n ≤ 9) (hw : ∀ p, nb p < 512) (hG : OB σ g 2 (ggF g kn)) {a kd f f2 wa : Nat} {rd op tn rf hp : Int32} {wo : Nat → Option Nat} (hGm : OB σ a 1 (gaF kd f f2 rd (.ref wa) op tn rf hp)) (hWo : AO σ wa ((f2 - f) * 9) wo) (hf2 : f2 ≤ 219) (hwb : ∀ i v, wo i = some v → v < 1000000) {x pl v : Nat} (h1 : f ≤ x) (h2 : x < f2) (hpl : pl < 512) : ∀ (y : Nat) (p m : Nat), p + y = n → fl (grG (fun p => wo ((x - f) * 9 + p)) pl) y p m = v → m ≤ 1000000 → Wp G mX2_greatestRank d 6 [.ref g, .ref a, .int (nI x), .int (nI pl), .int (nI m), .int (nI p)] [] σ 0 0 (pI fun z s => z = nI v ∧ s = σ) := by
  obtain ⟨d0, hdd⟩ : ∃ e, d = e + 1 := ⟨d - 1, by omega⟩
  intro y
  induction y with
  | zero =>
    intro p m h hv hm
    refine wp_iload (atd dX2_greatestRank 4 rfl) rfl ?_
    refine wp_aload_n (atd dX2_greatestRank 5 rfl) rfl rfl ?_
    refine wp_get fX2_34 (atd dX2_greatestRank 6 rfl) hG rfl ?_
    refine wp_get fX2_52 (atd dX2_greatestRank 7 rfl) hN rfl ?_
    refine wp_icmpN_ge (tgt := 51) (atd dX2_greatestRank 8 rfl) (by decide) (by omega) (by omega) (fun c_15 => ?_) (fun c_15 => ?_)
    ·
      refine wp_iload (atd dX2_greatestRank 26 rfl) rfl ?_
      refine wp_ireti (atd dX2_greatestRank 27 rfl) rfl ?_
      exact ⟨by rw [← hv]; rfl, rfl⟩
    · exfalso; omega
  | succ y ih =>
    intro p m h hv hm
    refine wp_iload (atd dX2_greatestRank 4 rfl) rfl ?_
    refine wp_aload_n (atd dX2_greatestRank 5 rfl) rfl rfl ?_
    refine wp_get fX2_34 (atd dX2_greatestRank 6 rfl) hG rfl ?_
    refine wp_get fX2_52 (atd dX2_greatestRank 7 rfl) hN rfl ?_
    refine wp_icmpN_ge (tgt := 51) (atd dX2_greatestRank 8 rfl) (by decide) (by omega) (by omega) (fun c_15 => ?_) (fun c_15 => ?_)
    · exfalso; omega
    ·
      refine wp_iload_n (atd dX2_greatestRank 9 rfl) rfl ?_
      refine wp_iload (atd dX2_greatestRank 10 rfl) rfl ?_
      refine wp_ishrN (atd dX2_greatestRank 11 rfl) (by omega) (by omega) ?_
      refine wp_iconst (v := nI 1) (atd dX2_greatestRank 12 rfl) (by decide) ?_
      refine wp_iandN (atd dX2_greatestRank 13 rfl) ?_
      refine wp_iconst (v := nI 1) (atd dX2_greatestRank 14 rfl) (by decide) ?_
      refine wp_icmpN_ne (tgt := 45) (atd dX2_greatestRank 15 rfl) (by decide) (by have := and1_lt (pl >>> p); omega) (by omega) (fun c_25 => ?_) (fun c_25 => ?_)
      ·
        refine wp_iincN (c := 1) (atd dX2_greatestRank 24 rfl) rfl ?_
        refine wp_goto (tgt := 6) (atd dX2_greatestRank 25 rfl) (by decide) ?_
        exact ih (p + 1) _ (by omega) (by rw [← hv]; show _ = fl _ _ _ (grG (fun p => wo ((x - f) * 9 + p)) pl p m); rw [grG, if_neg (fun h => c_25 ((tb_iff _ _).mpr h))]) hm
      ·
        refine wp_iload (atd dX2_greatestRank 16 rfl) rfl ?_
        refine wp_aload_n (atd dX2_greatestRank 17 rfl) rfl rfl ?_
        refine wp_iload_n (atd dX2_greatestRank 18 rfl) rfl ?_
        refine wp_iload (atd dX2_greatestRank 19 rfl) rfl ?_
        refine wp_cVi hdd [_, _] (atd dX2_greatestRank 20 rfl) iX1_worthAt lX2_139 rfl rfl (Nat.le_of_ble_eq_true rfl) hGm rfl (eX1_worthAt (by omega) hGm hWo hf2 h1 h2 (by omega)) (fun r_34 s_34 h_34 => ?_)
        obtain ⟨rfl, e_34⟩ := h_34
        obtain rfl := e_34.symm
        refine wp_cSi hdd [_] (atd dX2_greatestRank 21 rfl) iX2_rankOf lX2_143 rfl rfl (Nat.le_of_ble_eq_true rfl) (eX2_rankOf (by omega) (fun x hx => hwb _ _ hx)) (fun r_37 s_37 h_37 => ?_)
        obtain ⟨rfl, e_37⟩ := h_37
        obtain rfl := e_37.symm
        refine wp_maxN hdd (atd dX2_greatestRank 22 rfl) lX2_146 (by omega) (by have := rkO_le (hwb ((x - f) * 9 + p)); omega) (Nat.le_of_ble_eq_true rfl) ?_
        refine wp_istore (atd dX2_greatestRank 23 rfl) (Nat.le_of_ble_eq_true rfl) ?_
        refine wp_iincN (c := 1) (atd dX2_greatestRank 24 rfl) rfl ?_
        refine wp_goto (tgt := 6) (atd dX2_greatestRank 25 rfl) (by decide) ?_
        exact ih (p + 1) _ (by omega) (by rw [← hv]; show _ = fl _ _ _ (grG (fun p => wo ((x - f) * 9 + p)) pl p m); rw [grG, if_pos ((tb_iff _ _).mp c_25)]) (by have := rkO_le (hwb ((x - f) * 9 + p)); split <;> omega)
theorem eX2_greatestRank {G : Gx} {d : Nat} {σ : Hp} (hd : 2 ≤ d) {g : Nat} {kn n : Nat} {nb : Nat → Nat} (hN : OB σ kn 3 [.int (nI n), .ref (kn + 1)]) (hNA : AI σ (kn + 1) 9 nb) (hn : n ≤ 9) (hw : ∀ p, nb p < 512) (hG : OB σ g 2 (ggF g kn)) {a kd f f2 wa : Nat} {rd op tn rf hp : Int32} {wo : Nat → Option Nat} (hGm : OB σ a 1 (gaF kd f f2 rd (.ref wa) op tn rf hp)) (hWo : AO σ wa ((f2 - f) * 9) wo) (hf2 : f2 ≤ 219) (hwb : ∀ i v, wo i = some v → v < 1000000) {x pl : Nat} (h1 : f ≤ x) (h2 : x < f2) (hpl : pl < 512) : Cl G mX2_greatestRank d [.ref g, .ref a, .int (nI x), .int (nI pl)] σ 0 0 (pI fun z s => z = nI (grF (fun p => wo ((x - f) * 9 + p)) pl n) ∧ s = σ) := by
  obtain ⟨d0, hdd⟩ : ∃ e, d = e + 1 := ⟨d - 1, by omega⟩
  refine cl_of (by decide) (by simp [Value.category]) (Nat.le_of_ble_eq_true rfl) ?_
  show Wp G mX2_greatestRank d 0 [.ref g, .ref a, .int (nI x), .int (nI pl), .double 0, .double 0] [] σ 0 0 _
  refine wp_iconst (v := nI 0) (atd dX2_greatestRank 0 rfl) (by decide) ?_
  refine wp_istore (atd dX2_greatestRank 1 rfl) (Nat.le_of_ble_eq_true rfl) ?_
  refine wp_iconst (v := nI 0) (atd dX2_greatestRank 2 rfl) (by decide) ?_
  refine wp_istore (atd dX2_greatestRank 3 rfl) (Nat.le_of_ble_eq_true rfl) ?_
  exact lX2_greatestRank (by omega) hN hNA hn hw hG hGm hWo hf2 hwb h1 h2 hpl n 0 0 (by omega) rfl (by omega)
/-- what the runner's turn is worth, as a rank -/
def rrF (nb : Nat → Nat) (n kd f : Nat) (wo : Nat → Option Nat) (x p : Nat) : Nat := if (sdC x).testBit p = true then 0 else grF (fun p => wo ((x - f) * 9 + p)) (rch nb kd (sdC x) p) n
theorem rrF_le {nb : Nat → Nat} {n kd f : Nat} {wo : Nat → Option Nat} (hwb : ∀ i v, wo i = some v → v < 1000000) (x p : Nat) : rrF nb n kd f wo x p ≤ 1000000 := by
  unfold rrF
  split
  · omega
  · exact grF_le (fun i x hx => hwb _ _ hx) _ _
theorem eX2_runnersRank {G : Gx} {d : Nat} {σ : Hp} (hd : 3 ≤ d) {g fc t : Nat} {kn n : Nat} {nb : Nat → Nat} (hN : OB σ kn 3 [.int (nI n), .ref (kn + 1)]) (hNA : AI σ (kn + 1) 9 nb) (hn : n ≤ 9) (hw : ∀ p, nb p < 512) (hG : OB σ g 2 (ggF g kn)) {a kd f f2 wa : Nat} {rd op tn rf hp : Int32} {wo : Nat → Option Nat} (hGm : OB σ a 1 (gaF kd f f2 rd (.ref wa) op tn rf hp)) (hWo : AO σ wa ((f2 - f) * 9) wo) (hf2 : f2 ≤ 219) (hwb : ∀ i v, wo i = some v → v < 1000000) (hO : OB σ (g + 1) 5 (roF (g + 1) fc t)) (hT : RT σ (g + 1)) (hkd : kd < 3) {x p : Nat} (h1 : f ≤ x) (h2 : x < f2) (hp : p < 9) : Cl G mX2_runnersRank d [.ref g, .ref a, .int (nI x), .int (nI p)] σ 0 0 (pI fun z s => z = nI (rrF nb n kd f wo x p) ∧ s = σ) := by
  obtain ⟨d0, hdd⟩ : ∃ e, d = e + 1 := ⟨d - 1, by omega⟩
  refine cl_of (by decide) (by simp [Value.category]) (Nat.le_of_ble_eq_true rfl) ?_
  show Wp G mX2_runnersRank d 0 [.ref g, .ref a, .int (nI x), .int (nI p)] [] σ 0 0 _
  refine wp_aload_n (atd dX2_runnersRank 0 rfl) rfl rfl ?_
  refine wp_get fX2_12 (atd dX2_runnersRank 1 rfl) hG rfl ?_
  refine wp_iload_n (atd dX2_runnersRank 2 rfl) rfl ?_
  refine wp_iload_n (atd dX2_runnersRank 3 rfl) rfl ?_
  refine wp_cVi hdd [_, _] (atd dX2_runnersRank 4 rfl) iX5_standsAt lX2_157 rfl rfl (Nat.le_of_ble_eq_true rfl) hO rfl (eX5_standsAt (by omega) hO hT (by omega) (by omega)) (fun r_6 s_6 h_6 => ?_)
  obtain ⟨rfl, e_6⟩ := h_6
  obtain rfl := e_6.symm
  refine wp_ifB_eq (tgt := 14) (atd dX2_runnersRank 5 rfl) (by decide) (fun c_9 => ?_) (fun c_9 => ?_)
  ·
    refine wp_aload_n (atd dX2_runnersRank 8 rfl) rfl rfl ?_
    refine wp_aload_n (atd dX2_runnersRank 9 rfl) rfl rfl ?_
    refine wp_iload_n (atd dX2_runnersRank 10 rfl) rfl ?_
    refine wp_aload_n (atd dX2_runnersRank 11 rfl) rfl rfl ?_
    refine wp_aload_n (atd dX2_runnersRank 12 rfl) rfl rfl ?_
    refine wp_get fX2_100 (atd dX2_runnersRank 13 rfl) hGm rfl ?_
    refine wp_iload_n (atd dX2_runnersRank 14 rfl) rfl ?_
    refine wp_iload_n (atd dX2_runnersRank 15 rfl) rfl ?_
    refine wp_cVi hdd [_, _, _] (atd dX2_runnersRank 16 rfl) iX2_reach lX2_113 rfl rfl (Nat.le_of_ble_eq_true rfl) hG rfl (eX2_reach (by omega) hN hNA hn hw hG hO hT hkd (by omega) (by omega)) (fun r_24 s_24 h_24 => ?_)
    obtain ⟨rfl, e_24⟩ := h_24
    obtain rfl := e_24.symm
    refine wp_cVi hdd [_, _, _] (atd dX2_runnersRank 17 rfl) iX2_greatestRank lX2_124 rfl rfl (Nat.le_of_ble_eq_true rfl) hG rfl (eX2_greatestRank (by omega) hN hNA hn hw hG hGm hWo hf2 hwb h1 h2 (rch_lt hw _ _ _)) (fun r_27 s_27 h_27 => ?_)
    obtain ⟨rfl, e_27⟩ := h_27
    obtain rfl := e_27.symm
    refine wp_ireti (atd dX2_runnersRank 18 rfl) rfl ?_
    exact ⟨by rw [rrF, if_neg c_9], rfl⟩
  ·
    refine wp_iconst (v := nI 0) (atd dX2_runnersRank 6 rfl) (by decide) ?_
    refine wp_ireti (atd dX2_runnersRank 7 rfl) rfl ?_
    exact ⟨by rw [rrF, if_pos c_9], rfl⟩
theorem eX2_runnersWorth {G : Gx} {d : Nat} {σ : Hp} (hd : 4 ≤ d) {g fc t : Nat} {kn n : Nat} {nb : Nat → Nat} (hN : OB σ kn 3 [.int (nI n), .ref (kn + 1)]) (hNA : AI σ (kn + 1) 9 nb) (hn : n ≤ 9) (hw : ∀ p, nb p < 512) (hG : OB σ g 2 (ggF g kn)) {a kd f f2 wa : Nat} {rd op tn rf hp : Int32} {wo : Nat → Option Nat} (hGm : OB σ a 1 (gaF kd f f2 rd (.ref wa) op tn rf hp)) (hWo : AO σ wa ((f2 - f) * 9) wo) (hf2 : f2 ≤ 219) (hwb : ∀ i v, wo i = some v → v < 1000000) (hO : OB σ (g + 1) 5 (roF (g + 1) fc t)) (hT : RT σ (g + 1)) (hkd : kd < 3) {x p : Nat} (h1 : f ≤ x) (h2 : x < f2) (hp : p < 9) : Cl G mX2_runnersWorth d [.ref g, .ref a, .int (nI x), .int (nI p)] σ 0 0 (pI fun z s => z = oI (wkO (rrF nb n kd f wo x p)) ∧ s = σ) := by
  obtain ⟨d0, hdd⟩ : ∃ e, d = e + 1 := ⟨d - 1, by omega⟩
  refine cl_of (by decide) (by simp [Value.category]) (Nat.le_of_ble_eq_true rfl) ?_
  show Wp G mX2_runnersWorth d 0 [.ref g, .ref a, .int (nI x), .int (nI p)] [] σ 0 0 _
  refine wp_aload_n (atd dX2_runnersWorth 0 rfl) rfl rfl ?_
  refine wp_aload_n (atd dX2_runnersWorth 1 rfl) rfl rfl ?_
  refine wp_iload_n (atd dX2_runnersWorth 2 rfl) rfl ?_
  refine wp_iload_n (atd dX2_runnersWorth 3 rfl) rfl ?_
  refine wp_cVi hdd [_, _, _] (atd dX2_runnersWorth 4 rfl) iX2_runnersRank lX2_161 rfl rfl (Nat.le_of_ble_eq_true rfl) hG rfl (eX2_runnersRank (by omega) hN hNA hn hw hG hGm hWo hf2 hwb hO hT hkd (by omega) (by omega) (by omega)) (fun r_4 s_4 h_4 => ?_)
  obtain ⟨rfl, e_4⟩ := h_4
  obtain rfl := e_4.symm
  refine wp_cSi hdd [_] (atd dX2_runnersWorth 5 rfl) iX2_worthOf lX2_133 rfl rfl (Nat.le_of_ble_eq_true rfl) (eX2_worthOf (by omega) (by have := @rrF_le nb n kd f wo hwb x p; omega)) (fun r_7 s_7 h_7 => ?_)
  obtain ⟨rfl, e_7⟩ := h_7
  obtain rfl := e_7.symm
  refine wp_ireti (atd dX2_runnersWorth 6 rfl) rfl ?_
  exact ⟨rfl, rfl⟩
def ltO : Option Nat → Nat → Bool
  | none, _ => true
  | some m, r => decide (m < r)
def bcG (u : Nat → Option Nat) (bits p : Nat) (b : Nat × Option Nat) : Nat × Option Nat := if bits.testBit p = true ∧ ltO b.2 (rkO (u p)) = true then (p, some (rkO (u p))) else b
theorem le_m1 {a : Nat} (h : a < 2 ^ 31) : ¬ nI a ≤ -1 := fun e => by
  rw [Int32.le_iff_toInt_le, nI_toInt h] at e
  have : (-1 : Int32).toInt = -1 := by decide
  omega
theorem lX2_bestPlace {G : Gx} {d : Nat} {σ : Hp} (hd : 2 ≤ d) {g : Nat} {kn n : Nat} {nb : Nat → Nat} (hN : OB σ kn 3 [.int (nI n), .ref (kn + 1)]) (hNA : AI σ (kn + 1) 9 nb) (hn : n ≤ 9) (hw : ∀ p, nb p < 512) (hG : OB σ g 2 (ggF g kn)) {a kd f f2 wa : Nat} {rd op tn rf hp : Int32} {wo : Nat → Option Nat} (hGm : OB σ a 1 (gaF kd f f2 rd (.ref wa) op tn rf hp)) (hWo : AO σ wa ((f2 - f) * 9) wo) (hf2 : f2 ≤ 219) (hwb : ∀ i v, wo i = some v → v < 1000000) {x bits v p0 : Nat} (h1 : f ≤ x) (h2 : x < f2) (hpl : bits < 512) : ∀ (k : Nat) (p b : Nat) (m : Option Nat) (y : Value), p + k = n → (fl (bcG (fun p => wo ((x - f) * 9 + p)) bits) k p (b, m)).1 = v → (∀ z, m = some z → z ≤ 1000000) → Wp G mX2_bestPlace d 21 [.ref g, .ref a, .int (nI x), .int (nI p0), .int (nI bits), .int (nI b), .int (oI m), .int (nI p), y] [] σ 0 0 (pI fun z s => z = nI v ∧ s = σ) := by
  obtain ⟨d0, hdd⟩ : ∃ e, d = e + 1 := ⟨d - 1, by omega⟩
  intro k
  induction k with
  | zero =>
    intro p b m y h hv hb
    refine wp_iload (atd dX2_bestPlace 13 rfl) rfl ?_
    refine wp_aload_n (atd dX2_bestPlace 14 rfl) rfl rfl ?_
    refine wp_get fX2_34 (atd dX2_bestPlace 15 rfl) hG rfl ?_
    refine wp_get fX2_52 (atd dX2_bestPlace 16 rfl) hN rfl ?_
    refine wp_icmpN_ge (tgt := 77) (atd dX2_bestPlace 17 rfl) (by decide) (by omega) (by omega) (fun c_30 => ?_) (fun c_30 => ?_)
    ·
      refine wp_iload (atd dX2_bestPlace 40 rfl) rfl ?_
      refine wp_ireti (atd dX2_bestPlace 41 rfl) rfl ?_
      exact ⟨by rw [← hv]; rfl, rfl⟩
    · exfalso; omega
  | succ k ih =>
    intro p b m y h hv hb
    refine wp_iload (atd dX2_bestPlace 13 rfl) rfl ?_
    refine wp_aload_n (atd dX2_bestPlace 14 rfl) rfl rfl ?_
    refine wp_get fX2_34 (atd dX2_bestPlace 15 rfl) hG rfl ?_
    refine wp_get fX2_52 (atd dX2_bestPlace 16 rfl) hN rfl ?_
    refine wp_icmpN_ge (tgt := 77) (atd dX2_bestPlace 17 rfl) (by decide) (by omega) (by omega) (fun c_30 => ?_) (fun c_30 => ?_)
    · exfalso; omega
    ·
      refine wp_aload_n (atd dX2_bestPlace 18 rfl) rfl rfl ?_
      refine wp_iload_n (atd dX2_bestPlace 19 rfl) rfl ?_
      refine wp_iload (atd dX2_bestPlace 20 rfl) rfl ?_
      refine wp_cVi hdd [_, _] (atd dX2_bestPlace 21 rfl) iX1_worthAt lX2_139 rfl rfl (Nat.le_of_ble_eq_true rfl) hGm rfl (eX1_worthAt (by omega) hGm hWo hf2 h1 h2 (by omega)) (fun r_37 s_37 h_37 => ?_)
      obtain ⟨rfl, e_37⟩ := h_37
      obtain rfl := e_37.symm
      refine wp_cSi hdd [_] (atd dX2_bestPlace 22 rfl) iX2_rankOf lX2_143 rfl rfl (Nat.le_of_ble_eq_true rfl) (eX2_rankOf (by omega) (fun x hx => hwb _ _ hx)) (fun r_40 s_40 h_40 => ?_)
      obtain ⟨rfl, e_40⟩ := h_40
      obtain rfl := e_40.symm
      refine wp_istore (atd dX2_bestPlace 23 rfl) (Nat.le_of_ble_eq_true rfl) ?_
      refine wp_iload (atd dX2_bestPlace 24 rfl) rfl ?_
      refine wp_iload (atd dX2_bestPlace 25 rfl) rfl ?_
      refine wp_ishrN (atd dX2_bestPlace 26 rfl) (by omega) (by omega) ?_
      refine wp_iconst (v := nI 1) (atd dX2_bestPlace 27 rfl) (by decide) ?_
      refine wp_iandN (atd dX2_bestPlace 28 rfl) ?_
      refine wp_iconst (v := nI 1) (atd dX2_bestPlace 29 rfl) (by decide) ?_
      refine wp_icmpN_ne (tgt := 71) (atd dX2_bestPlace 30 rfl) (by decide) (by have := and1_lt (bits >>> p); omega) (by omega) (fun c_53 => ?_) (fun c_53 => ?_)
      ·
        refine wp_iincN (c := 1) (atd dX2_bestPlace 38 rfl) rfl ?_
        refine wp_goto (tgt := 21) (atd dX2_bestPlace 39 rfl) (by decide) ?_
        exact ih (p + 1) b m _ (by omega) (by rw [← hv]; show _ = (fl _ _ _ (bcG (fun p => wo ((x - f) * 9 + p)) bits p (b, m))).1; rw [bcG, if_neg (fun h => c_53 ((tb_iff _ _).mpr h.1))]) hb
      ·
        rcases m with _ | m
        ·
          rw [show oI none = -1 from rfl]
          refine wp_iload (atd dX2_bestPlace 31 rfl) rfl ?_
          refine wp_iload (atd dX2_bestPlace 32 rfl) rfl ?_
          refine wp_icmp_le (tgt := 71) (atd dX2_bestPlace 33 rfl) (by decide) (fun c_60 => ?_) (fun c_60 => ?_)
          · exact absurd c_60 (le_m1 (by have := rkO_le (hwb ((x - f) * 9 + p)); omega))
          ·
            refine wp_iload (atd dX2_bestPlace 34 rfl) rfl ?_
            refine wp_istore (atd dX2_bestPlace 35 rfl) (Nat.le_of_ble_eq_true rfl) ?_
            refine wp_iload (atd dX2_bestPlace 36 rfl) rfl ?_
            refine wp_istore (atd dX2_bestPlace 37 rfl) (Nat.le_of_ble_eq_true rfl) ?_
            refine wp_iincN (c := 1) (atd dX2_bestPlace 38 rfl) rfl ?_
            refine wp_goto (tgt := 21) (atd dX2_bestPlace 39 rfl) (by decide) ?_
            exact ih (p + 1) p (some _) _ (by omega) (by rw [← hv]; show _ = (fl _ _ _ (bcG (fun p => wo ((x - f) * 9 + p)) bits p (b, none))).1; rw [bcG, if_pos ⟨(tb_iff _ _).mp c_53, rfl⟩]) (fun z hz => by cases hz; exact rkO_le (hwb ((x - f) * 9 + p)))
        ·
          rw [show oI (some m) = nI m from rfl]
          refine wp_iload (atd dX2_bestPlace 31 rfl) rfl ?_
          refine wp_iload (atd dX2_bestPlace 32 rfl) rfl ?_
          refine wp_icmpN_le (tgt := 71) (atd dX2_bestPlace 33 rfl) (by decide) (by have := rkO_le (hwb ((x - f) * 9 + p)); omega) (by have := hb m rfl; omega) (fun c_60 => ?_) (fun c_60 => ?_)
          ·
            refine wp_iincN (c := 1) (atd dX2_bestPlace 38 rfl) rfl ?_
            refine wp_goto (tgt := 21) (atd dX2_bestPlace 39 rfl) (by decide) ?_
            exact ih (p + 1) b (some m) _ (by omega) (by rw [← hv]; show _ = (fl _ _ _ (bcG (fun p => wo ((x - f) * 9 + p)) bits p (b, some m))).1; rw [bcG, if_neg (fun h => absurd (of_decide_eq_true h.2) (Nat.not_lt.mpr c_60))]) hb
          ·
            refine wp_iload (atd dX2_bestPlace 34 rfl) rfl ?_
            refine wp_istore (atd dX2_bestPlace 35 rfl) (Nat.le_of_ble_eq_true rfl) ?_
            refine wp_iload (atd dX2_bestPlace 36 rfl) rfl ?_
            refine wp_istore (atd dX2_bestPlace 37 rfl) (Nat.le_of_ble_eq_true rfl) ?_
            refine wp_iincN (c := 1) (atd dX2_bestPlace 38 rfl) rfl ?_
            refine wp_goto (tgt := 21) (atd dX2_bestPlace 39 rfl) (by decide) ?_
            exact ih (p + 1) p (some _) _ (by omega) (by rw [← hv]; show _ = (fl _ _ _ (bcG (fun p => wo ((x - f) * 9 + p)) bits p (b, some m))).1; rw [bcG, if_pos ⟨(tb_iff _ _).mp c_53, decide_eq_true c_60⟩]) (fun z hz => by cases hz; exact rkO_le (hwb ((x - f) * 9 + p)))
theorem eX2_bestPlace {G : Gx} {d : Nat} {σ : Hp} (hd : 2 ≤ d) {g fc t : Nat} {kn n : Nat} {nb : Nat → Nat} (hN : OB σ kn 3 [.int (nI n), .ref (kn + 1)]) (hNA : AI σ (kn + 1) 9 nb) (hn : n ≤ 9) (hw : ∀ p, nb p < 512) (hG : OB σ g 2 (ggF g kn)) {a kd f f2 wa : Nat} {rd op tn rf hp : Int32} {wo : Nat → Option Nat} (hGm : OB σ a 1 (gaF kd f f2 rd (.ref wa) op tn rf hp)) (hWo : AO σ wa ((f2 - f) * 9) wo) (hf2 : f2 ≤ 219) (hwb : ∀ i v, wo i = some v → v < 1000000) (hO : OB σ (g + 1) 5 (roF (g + 1) fc t)) (hT : RT σ (g + 1)) (hkd : kd < 3) {x p : Nat} (h1 : f ≤ x) (h2 : x < f2) (hp : p < 9) : Cl G mX2_bestPlace d [.ref g, .ref a, .int (nI x), .int (nI p)] σ 0 0 (pI fun z s => z = nI (fl (bcG (fun p => wo ((x - f) * 9 + p)) (rch nb kd (sdC x) p)) n 0 (p, none)).1 ∧ s = σ) := by
  obtain ⟨d0, hdd⟩ : ∃ e, d = e + 1 := ⟨d - 1, by omega⟩
  refine cl_of (by decide) (by simp [Value.category]) (Nat.le_of_ble_eq_true rfl) ?_
  show Wp G mX2_bestPlace d 0 [.ref g, .ref a, .int (nI x), .int (nI p), .double 0, .double 0, .double 0, .double 0, .double 0] [] σ 0 0 _
  refine wp_aload_n (atd dX2_bestPlace 0 rfl) rfl rfl ?_
  refine wp_aload_n (atd dX2_bestPlace 1 rfl) rfl rfl ?_
  refine wp_get fX2_100 (atd dX2_bestPlace 2 rfl) hGm rfl ?_
  refine wp_iload_n (atd dX2_bestPlace 3 rfl) rfl ?_
  refine wp_iload_n (atd dX2_bestPlace 4 rfl) rfl ?_
  refine wp_cVi hdd [_, _, _] (atd dX2_bestPlace 5 rfl) iX2_reach lX2_113 rfl rfl (Nat.le_of_ble_eq_true rfl) hG rfl (eX2_reach (by omega) hN hNA hn hw hG hO hT hkd (by omega) (by omega)) (fun r_7 s_7 h_7 => ?_)
  obtain ⟨rfl, e_7⟩ := h_7
  obtain rfl := e_7.symm
  refine wp_istore (atd dX2_bestPlace 6 rfl) (Nat.le_of_ble_eq_true rfl) ?_
  refine wp_iload_n (atd dX2_bestPlace 7 rfl) rfl ?_
  refine wp_istore (atd dX2_bestPlace 8 rfl) (Nat.le_of_ble_eq_true rfl) ?_
  refine wp_iconst (v := -1) (atd dX2_bestPlace 9 rfl) (by decide) ?_
  refine wp_istore (atd dX2_bestPlace 10 rfl) (Nat.le_of_ble_eq_true rfl) ?_
  refine wp_iconst (v := nI 0) (atd dX2_bestPlace 11 rfl) (by decide) ?_
  refine wp_istore (atd dX2_bestPlace 12 rfl) (Nat.le_of_ble_eq_true rfl) ?_
  exact lX2_bestPlace (by omega) hN hNA hn hw hG hGm hWo hf2 hwb h1 h2 (rch_lt hw _ _ _) n 0 p none _ (by omega) rfl (fun z hz => by cases hz)
theorem eX2_safeBits {G : Gx} {d : Nat} {σ : Hp} (hd : 3 ≤ d) {g fc t : Nat} {kn n : Nat} {nb : Nat → Nat} (hN : OB σ kn 3 [.int (nI n), .ref (kn + 1)]) (hNA : AI σ (kn + 1) 9 nb) (hn : n ≤ 9) (hw : ∀ p, nb p < 512) (hG : OB σ g 2 (ggF g kn)) {a kd f f2 wa : Nat} {rd op tn rf hp : Int32} {wo : Nat → Option Nat} (hGm : OB σ a 1 (gaF kd f f2 rd (.ref wa) op tn rf hp)) (hWo : AO σ wa ((f2 - f) * 9) wo) (hf2 : f2 ≤ 219) (hwb : ∀ i v, wo i = some v → v < 1000000) (hO : OB σ (g + 1) 5 (roF (g + 1) fc t)) (hT : RT σ (g + 1)) (hkd : kd < 3) {x p : Nat} (h1 : f ≤ x) (h2 : x < f2) (hp : p < 9) : Cl G mX2_safeBits d [.ref g, .ref a, .int (nI x), .int (nI p)] σ 0 0 (pI fun z s => z = nI (dif (rch nb kd (sdC x) p) (fl (suG (fun p => wo ((x - f) * 9 + p))) n 0 0)) ∧ s = σ) := by
  obtain ⟨d0, hdd⟩ : ∃ e, d = e + 1 := ⟨d - 1, by omega⟩
  refine cl_of (by decide) (by simp [Value.category]) (Nat.le_of_ble_eq_true rfl) ?_
  show Wp G mX2_safeBits d 0 [.ref g, .ref a, .int (nI x), .int (nI p)] [] σ 0 0 _
  refine wp_aload_n (atd dX2_safeBits 0 rfl) rfl rfl ?_
  refine wp_aload_n (atd dX2_safeBits 1 rfl) rfl rfl ?_
  refine wp_get fX2_100 (atd dX2_safeBits 2 rfl) hGm rfl ?_
  refine wp_iload_n (atd dX2_safeBits 3 rfl) rfl ?_
  refine wp_iload_n (atd dX2_safeBits 4 rfl) rfl ?_
  refine wp_cVi hdd [_, _, _] (atd dX2_safeBits 5 rfl) iX2_reach lX2_113 rfl rfl (Nat.le_of_ble_eq_true rfl) hG rfl (eX2_reach (by omega) hN hNA hn hw hG hO hT hkd (by omega) (by omega)) (fun r_7 s_7 h_7 => ?_)
  obtain ⟨rfl, e_7⟩ := h_7
  obtain rfl := e_7.symm
  refine wp_aload_n (atd dX2_safeBits 6 rfl) rfl rfl ?_
  refine wp_iload_n (atd dX2_safeBits 7 rfl) rfl ?_
  refine wp_aload_n (atd dX2_safeBits 8 rfl) rfl rfl ?_
  refine wp_get fX2_34 (atd dX2_safeBits 9 rfl) hG rfl ?_
  refine wp_get fX2_52 (atd dX2_safeBits 10 rfl) hN rfl ?_
  refine wp_cVi hdd [_, _] (atd dX2_safeBits 11 rfl) iX1_sureBits lX2_164 rfl rfl (Nat.le_of_ble_eq_true rfl) hGm rfl (eX1_sureBits (by omega) hGm hWo hf2 hwb h1 h2 hn) (fun r_19 s_19 h_19 => ?_)
  obtain ⟨rfl, e_19⟩ := h_19
  obtain rfl := e_19.symm
  refine wp_iconst (v := -1) (atd dX2_safeBits 12 rfl) (by decide) ?_
  refine wp_ixor (atd dX2_safeBits 13 rfl) ?_
  refine wp_iandC (atd dX2_safeBits 14 rfl) ?_
  refine wp_ireti (atd dX2_safeBits 15 rfl) rfl ?_
  exact ⟨rfl, rfl⟩
def cdP (u : Nat → Option Nat) (bs : Nat) : Nat → Nat → Nat → Option Nat × Nat
  | 0, _, c => (none, c)
  | k + 1, p, c => if u p = none then (if c = 0 then (some (bs + p), c) else cdP u bs k (p + 1) (c - 1)) else cdP u bs k (p + 1) c
def cdR (wo : Nat → Option Nat) (n f : Nat) : Nat → Nat → Nat → Option Nat
  | 0, _, _ => none
  | k + 1, x, c => if dif (sdC x) (2 ^ n - 1) = 0 then (match cdP (fun p => wo ((x - f) * 9 + p)) (9 * x) n 0 c with
    | (some y, _) => some y
    | (none, c2) => cdR wo n f k (x + 1) c2) else cdR wo n f k (x + 1) c
theorem lX2_refused1 {G : Gx} {d : Nat} {Q : Option Value → Hp → Prop} (hd : 3 ≤ d) {σ : Hp} {g fc t : Nat} {kn n : Nat} {nb : Nat → Nat} (hN : OB σ kn 3 [.int (nI n), .ref (kn + 1)]) (hNA : AI σ (kn + 1) 9 nb) (hn : n ≤ 9) (hw : ∀ p, nb p < 512) (hG : OB σ g 2 (ggF g kn)) {a kd f f2 wa : Nat} {rd op tn rf hp : Int32} {wo : Nat → Option Nat} (hGm : OB σ a 1 (gaF kd f f2 rd (.ref wa) op tn rf hp)) (hWo : AO σ wa ((f2 - f) * 9) wo) (hf2 : f2 ≤ 219) (hwb : ∀ i v, wo i = some v → v < 1000000) (hO : OB σ (g + 1) 5 (roF (g + 1) fc t)) (hT : RT σ (g + 1)) (hkd : kd < 3) {x : Nat} {y0 : Value} {v : Option Nat × Nat} (h1 : f ≤ x) (h2 : x < f2) (hon : dif (sdC x) (2 ^ n - 1) = 0) (hr : ∀ y c, (some y, c) = v → Q (some (.int (nI y))) σ) (hk : ∀ c, c < 2 ^ 31 → (none, c) = v → Wp G mX2_refusedCouple d 75 [.ref g, .ref a, y0, .int (nI c), .int (nI x), .int (nI n)] [] σ 0 0 Q) : ∀ (k : Nat) (p c : Nat), p + k = n → cdP (fun p => wo ((x - f) * 9 + p)) (9 * x) k p c = v → c < 2 ^ 31 → Wp G mX2_refusedCouple d 20 [.ref g, .ref a, y0, .int (nI c), .int (nI x), .int (nI p)] [] σ 0 0 Q := by
  obtain ⟨d0, hdd⟩ : ∃ e, d = e + 1 := ⟨d - 1, by omega⟩
  intro k
  induction k with
  | zero =>
    intro p c h hv hc
    refine wp_iload (atd dX2_refusedCouple 11 rfl) rfl ?_
    refine wp_aload_n (atd dX2_refusedCouple 12 rfl) rfl rfl ?_
    refine wp_get fX2_34 (atd dX2_refusedCouple 13 rfl) hG rfl ?_
    refine wp_get fX2_52 (atd dX2_refusedCouple 14 rfl) hN rfl ?_
    refine wp_icmpN_ge (tgt := 75) (atd dX2_refusedCouple 15 rfl) (by decide) (by omega) (by omega) (fun c_29 => ?_) (fun c_29 => ?_)
    ·
      obtain rfl : p = n := by omega
      have e1 : (none, c) = v := hv
      subst e1
      exact hk c hc rfl
    · exfalso; omega
  | succ k ih =>
    intro p c h hv hc
    refine wp_iload (atd dX2_refusedCouple 11 rfl) rfl ?_
    refine wp_aload_n (atd dX2_refusedCouple 12 rfl) rfl rfl ?_
    refine wp_get fX2_34 (atd dX2_refusedCouple 13 rfl) hG rfl ?_
    refine wp_get fX2_52 (atd dX2_refusedCouple 14 rfl) hN rfl ?_
    refine wp_icmpN_ge (tgt := 75) (atd dX2_refusedCouple 15 rfl) (by decide) (by omega) (by omega) (fun c_29 => ?_) (fun c_29 => ?_)
    · exfalso; omega
    ·
      refine wp_aload_n (atd dX2_refusedCouple 16 rfl) rfl rfl ?_
      refine wp_iload (atd dX2_refusedCouple 17 rfl) rfl ?_
      refine wp_cVi hdd [_] (atd dX2_refusedCouple 18 rfl) iX2_isOnNet lX2_74 rfl rfl (Nat.le_of_ble_eq_true rfl) hG rfl (eX2_isOnNet (by omega) hN hNA hn hw hG hO hT (by omega)) (fun r_35 s_35 h_35 => ?_)
      obtain ⟨rfl, e_35⟩ := h_35
      obtain rfl := e_35.symm
      refine wp_ifB_eq (tgt := 75) (atd dX2_refusedCouple 19 rfl) (by decide) (fun c_38 => ?_) (fun c_38 => ?_)
      · exact absurd hon c_38
      ·
        refine wp_aload_n (atd dX2_refusedCouple 20 rfl) rfl rfl ?_
        refine wp_iload (atd dX2_refusedCouple 21 rfl) rfl ?_
        refine wp_iload (atd dX2_refusedCouple 22 rfl) rfl ?_
        refine wp_cVi hdd [_, _] (atd dX2_refusedCouple 23 rfl) iX1_worthAt lX2_139 rfl rfl (Nat.le_of_ble_eq_true rfl) hGm rfl (eX1_worthAt (by omega) hGm hWo hf2 h1 h2 (by omega)) (fun r_46 s_46 h_46 => ?_)
        obtain ⟨rfl, e_46⟩ := h_46
        obtain rfl := e_46.symm
        rcases hwo : wo ((x - f) * 9 + p) with _ | w
        ·
          rw [show oI none = -1 from rfl]
          refine wp_iconst (v := -1) (atd dX2_refusedCouple 24 rfl) (by decide) ?_
          refine wp_icmp_ne (tgt := 69) (atd dX2_refusedCouple 25 rfl) (by decide) (fun c_50 => ?_) (fun c_50 => ?_)
          · exact absurd rfl c_50
          ·
            refine wp_iload_n (atd dX2_refusedCouple 26 rfl) rfl ?_
            refine wp_ifN_ne (tgt := 66) (atd dX2_refusedCouple 27 rfl) (by decide) (by omega) (fun c_54 => ?_) (fun c_54 => ?_)
            ·
              refine wp_iinc (atd dX2_refusedCouple 34 rfl) rfl (nI_dec c_54) ?_
              refine wp_iincN (c := 1) (atd dX2_refusedCouple 35 rfl) rfl ?_
              refine wp_goto (tgt := 20) (atd dX2_refusedCouple 36 rfl) (by decide) ?_
              exact ih (p + 1) (c - 1) (by omega) (by rw [← hv]; rw [show cdP (fun p => wo ((x - f) * 9 + p)) (9 * x) (k + 1) p c = if (fun p => wo ((x - f) * 9 + p)) p = none then (if c = 0 then (some (9 * x + p), c) else cdP (fun p => wo ((x - f) * 9 + p)) (9 * x) k (p + 1) (c - 1)) else cdP (fun p => wo ((x - f) * 9 + p)) (9 * x) k (p + 1) c from rfl]; rw [if_pos (by show wo _ = none; exact hwo), if_neg (by omega)]) (by omega)
            ·
              refine wp_bipush (v := nI 9) (atd dX2_refusedCouple 28 rfl) (by decide) ?_
              refine wp_iload (atd dX2_refusedCouple 29 rfl) rfl ?_
              refine wp_imulN (atd dX2_refusedCouple 30 rfl) ?_
              refine wp_iload (atd dX2_refusedCouple 31 rfl) rfl ?_
              refine wp_iaddN (atd dX2_refusedCouple 32 rfl) ?_
              refine wp_iret (atd dX2_refusedCouple 33 rfl) rfl rfl ?_
              exact hr (9 * x + p) c (by rw [← hv]; rw [show cdP (fun p => wo ((x - f) * 9 + p)) (9 * x) (k + 1) p c = if (fun p => wo ((x - f) * 9 + p)) p = none then (if c = 0 then (some (9 * x + p), c) else cdP (fun p => wo ((x - f) * 9 + p)) (9 * x) k (p + 1) (c - 1)) else cdP (fun p => wo ((x - f) * 9 + p)) (9 * x) k (p + 1) c from rfl]; rw [if_pos (by show wo _ = none; exact hwo), if_pos c_54])
        ·
          rw [show oI (some w) = nI w from rfl]
          refine wp_iconst (v := -1) (atd dX2_refusedCouple 24 rfl) (by decide) ?_
          refine wp_icmp_ne (tgt := 69) (atd dX2_refusedCouple 25 rfl) (by decide) (fun c_50 => ?_) (fun c_50 => ?_)
          ·
            refine wp_iincN (c := 1) (atd dX2_refusedCouple 35 rfl) rfl ?_
            refine wp_goto (tgt := 20) (atd dX2_refusedCouple 36 rfl) (by decide) ?_
            exact ih (p + 1) c (by omega) (by rw [← hv]; rw [show cdP (fun p => wo ((x - f) * 9 + p)) (9 * x) (k + 1) p c = if (fun p => wo ((x - f) * 9 + p)) p = none then (if c = 0 then (some (9 * x + p), c) else cdP (fun p => wo ((x - f) * 9 + p)) (9 * x) k (p + 1) (c - 1)) else cdP (fun p => wo ((x - f) * 9 + p)) (9 * x) k (p + 1) c from rfl]; rw [if_neg (by show ¬ wo _ = none; rw [hwo]; intro e; cases e)]) hc
          · exact absurd (fun e => nI_m1 (by have := hwb _ _ hwo; omega) e) c_50
theorem lX2_refused {G : Gx} {d : Nat} {σ : Hp} (hd : 3 ≤ d) {g fc t : Nat} {kn n : Nat} {nb : Nat → Nat} (hN : OB σ kn 3 [.int (nI n), .ref (kn + 1)]) (hNA : AI σ (kn + 1) 9 nb) (hn : n ≤ 9) (hw : ∀ p, nb p < 512) (hG : OB σ g 2 (ggF g kn)) {a kd f f2 wa : Nat} {rd op tn rf hp : Int32} {wo : Nat → Option Nat} (hGm : OB σ a 1 (gaF kd f f2 rd (.ref wa) op tn rf hp)) (hWo : AO σ wa ((f2 - f) * 9) wo) (hf2 : f2 ≤ 219) (hwb : ∀ i v, wo i = some v → v < 1000000) (hO : OB σ (g + 1) 5 (roF (g + 1) fc t)) (hT : RT σ (g + 1)) (hkd : kd < 3) {y0 : Value} {v : Option Nat} : ∀ (k : Nat) (x c : Nat) (y : Value), x + k = f2 → f ≤ x → cdR wo n f k x c = v → c < 2 ^ 31 → Wp G mX2_refusedCouple d 8 [.ref g, .ref a, y0, .int (nI c), .int (nI x), y] [] σ 0 0 (pI fun z s => z = oI v ∧ s = σ) := by
  obtain ⟨d0, hdd⟩ : ∃ e, d = e + 1 := ⟨d - 1, by omega⟩
  intro k
  induction k with
  | zero =>
    intro x c y h hx hv hc
    refine wp_iload (atd dX2_refusedCouple 5 rfl) rfl ?_
    refine wp_aload_n (atd dX2_refusedCouple 6 rfl) rfl rfl ?_
    refine wp_get fX2_71 (atd dX2_refusedCouple 7 rfl) hGm rfl ?_
    refine wp_icmpN_ge (tgt := 81) (atd dX2_refusedCouple 8 rfl) (by decide) (by omega) (by omega) (fun c_14 => ?_) (fun c_14 => ?_)
    ·
      refine wp_iconst (v := -1) (atd dX2_refusedCouple 39 rfl) (by decide) ?_
      refine wp_ireti (atd dX2_refusedCouple 40 rfl) rfl ?_
      exact ⟨by rw [← hv]; rfl, rfl⟩
    · exfalso; omega
  | succ k ih =>
    intro x c y h hx hv hc
    have hn1 := hn
    refine wp_iload (atd dX2_refusedCouple 5 rfl) rfl ?_
    refine wp_aload_n (atd dX2_refusedCouple 6 rfl) rfl rfl ?_
    refine wp_get fX2_71 (atd dX2_refusedCouple 7 rfl) hGm rfl ?_
    refine wp_icmpN_ge (tgt := 81) (atd dX2_refusedCouple 8 rfl) (by decide) (by omega) (by omega) (fun c_14 => ?_) (fun c_14 => ?_)
    · exfalso; omega
    ·
      refine wp_iconst (v := nI 0) (atd dX2_refusedCouple 9 rfl) (by decide) ?_
      refine wp_istore (atd dX2_refusedCouple 10 rfl) (Nat.le_of_ble_eq_true rfl) ?_
      by_cases hon : dif (sdC x) (2 ^ n - 1) = 0
      ·
        refine lX2_refused1 (v := cdP (fun p => wo ((x - f) * 9 + p)) (9 * x) n 0 c) (by omega) hN hNA hn hw hG hGm hWo hf2 hwb hO hT hkd hx (by omega) hon (fun y c2 he => ?_) (fun c2 hc2 he => ?_) n 0 c (by omega) rfl hc
        · exact ⟨_, rfl, by rw [← hv]; rw [show cdR wo n f (k + 1) x c = if dif (sdC x) (2 ^ n - 1) = 0 then (match cdP (fun p => wo ((x - f) * 9 + p)) (9 * x) n 0 c with | (some y, _) => some y | (none, c2) => cdR wo n f k (x + 1) c2) else cdR wo n f k (x + 1) c from rfl, if_pos hon, ← he]; rfl, rfl⟩
        ·
          refine wp_iincN (c := 1) (atd dX2_refusedCouple 37 rfl) rfl ?_
          refine wp_goto (tgt := 8) (atd dX2_refusedCouple 38 rfl) (by decide) ?_
          exact ih (x + 1) c2 _ (by omega) (by omega) (by rw [← hv]; rw [show cdR wo n f (k + 1) x c = if dif (sdC x) (2 ^ n - 1) = 0 then (match cdP (fun p => wo ((x - f) * 9 + p)) (9 * x) n 0 c with | (some y, _) => some y | (none, c2) => cdR wo n f k (x + 1) c2) else cdR wo n f k (x + 1) c from rfl, if_pos hon, ← he]) hc2
      ·
        refine wp_iload (atd dX2_refusedCouple 11 rfl) rfl ?_
        refine wp_aload_n (atd dX2_refusedCouple 12 rfl) rfl rfl ?_
        refine wp_get fX2_34 (atd dX2_refusedCouple 13 rfl) hG rfl ?_
        refine wp_get fX2_52 (atd dX2_refusedCouple 14 rfl) hN rfl ?_
        refine wp_icmpN_ge (tgt := 75) (atd dX2_refusedCouple 15 rfl) (by decide) (by omega) (by omega) (fun c_29 => ?_) (fun c_29 => ?_)
        ·
          refine wp_iincN (c := 1) (atd dX2_refusedCouple 37 rfl) rfl ?_
          refine wp_goto (tgt := 8) (atd dX2_refusedCouple 38 rfl) (by decide) ?_
          exact ih (x + 1) c _ (by omega) (by omega) (by rw [← hv]; rw [show cdR wo n f (k + 1) x c = if dif (sdC x) (2 ^ n - 1) = 0 then (match cdP (fun p => wo ((x - f) * 9 + p)) (9 * x) n 0 c with | (some y, _) => some y | (none, c2) => cdR wo n f k (x + 1) c2) else cdR wo n f k (x + 1) c from rfl, if_neg hon]) hc
        ·
          refine wp_aload_n (atd dX2_refusedCouple 16 rfl) rfl rfl ?_
          refine wp_iload (atd dX2_refusedCouple 17 rfl) rfl ?_
          refine wp_cVi hdd [_] (atd dX2_refusedCouple 18 rfl) iX2_isOnNet lX2_74 rfl rfl (Nat.le_of_ble_eq_true rfl) hG rfl (eX2_isOnNet (by omega) hN hNA hn hw hG hO hT (by omega)) (fun r_35 s_35 h_35 => ?_)
          obtain ⟨rfl, e_35⟩ := h_35
          obtain rfl := e_35.symm
          refine wp_ifB_eq (tgt := 75) (atd dX2_refusedCouple 19 rfl) (by decide) (fun c_38 => ?_) (fun c_38 => ?_)
          ·
            refine wp_iincN (c := 1) (atd dX2_refusedCouple 37 rfl) rfl ?_
            refine wp_goto (tgt := 8) (atd dX2_refusedCouple 38 rfl) (by decide) ?_
            exact ih (x + 1) c _ (by omega) (by omega) (by rw [← hv]; rw [show cdR wo n f (k + 1) x c = if dif (sdC x) (2 ^ n - 1) = 0 then (match cdP (fun p => wo ((x - f) * 9 + p)) (9 * x) n 0 c with | (some y, _) => some y | (none, c2) => cdR wo n f k (x + 1) c2) else cdR wo n f k (x + 1) c from rfl, if_neg hon]) hc
          · exact absurd c_38 hon
theorem eX2_refusedCouple {G : Gx} {d : Nat} {σ : Hp} (hd : 3 ≤ d) {g fc t : Nat} {kn n : Nat} {nb : Nat → Nat} (hN : OB σ kn 3 [.int (nI n), .ref (kn + 1)]) (hNA : AI σ (kn + 1) 9 nb) (hn : n ≤ 9) (hw : ∀ p, nb p < 512) (hG : OB σ g 2 (ggF g kn)) {a kd f f2 wa : Nat} {rd op tn rf hp : Int32} {wo : Nat → Option Nat} (hGm : OB σ a 1 (gaF kd f f2 rd (.ref wa) op tn rf hp)) (hWo : AO σ wa ((f2 - f) * 9) wo) (hf2 : f2 ≤ 219) (hwb : ∀ i v, wo i = some v → v < 1000000) (hO : OB σ (g + 1) 5 (roF (g + 1) fc t)) (hT : RT σ (g + 1)) (hkd : kd < 3) {i : Nat} (hi : i < 2 ^ 31) (hf : f ≤ f2) : Cl G mX2_refusedCouple d [.ref g, .ref a, .int (nI i)] σ 0 0 (pI fun z s => z = oI (cdR wo n f (f2 - f) f i) ∧ s = σ) := by
  obtain ⟨d0, hdd⟩ : ∃ e, d = e + 1 := ⟨d - 1, by omega⟩
  refine cl_of (by decide) (by simp [Value.category]) (Nat.le_of_ble_eq_true rfl) ?_
  show Wp G mX2_refusedCouple d 0 [.ref g, .ref a, .int (nI i), .double 0, .double 0, .double 0] [] σ 0 0 _
  refine wp_iload_n (atd dX2_refusedCouple 0 rfl) rfl ?_
  refine wp_istore_n (atd dX2_refusedCouple 1 rfl) (Nat.le_of_ble_eq_true rfl) ?_
  refine wp_aload_n (atd dX2_refusedCouple 2 rfl) rfl rfl ?_
  refine wp_get fX2_68 (atd dX2_refusedCouple 3 rfl) hGm rfl ?_
  refine wp_istore (atd dX2_refusedCouple 4 rfl) (Nat.le_of_ble_eq_true rfl) ?_
  exact lX2_refused (by omega) hN hNA hn hw hG hGm hWo hf2 hwb hO hT hkd (f2 - f) f i _ (by omega) (Nat.le_refl _) rfl hi
theorem eX2_nextSeed {G : Gx} {d : Nat} {σ : Hp} (hd : 0 ≤ d) {s0 : Int32} : Cl G mX2_nextSeed d [.int s0] σ 0 0 (pI fun z s => z = nxS s0 ∧ s = σ) := by
  refine cl_of (by decide) (by simp [Value.category]) (Nat.le_of_ble_eq_true rfl) ?_
  show Wp G mX2_nextSeed d 0 [.int s0] [] σ 0 0 _
  refine wp_iload_n (atd dX2_nextSeed 0 rfl) rfl ?_
  refine wp_ldc (atd dX2_nextSeed 1 rfl) qX2_176 ?_
  refine wp_imul (atd dX2_nextSeed 2 rfl) ?_
  refine wp_sipush (v := nI 12345) (atd dX2_nextSeed 3 rfl) (by decide) ?_
  refine wp_iadd (atd dX2_nextSeed 4 rfl) ?_
  refine wp_ireti (atd dX2_nextSeed 5 rfl) rfl ?_
  exact ⟨rfl, rfl⟩
theorem kth_s (to f p k : Nat) : kth to (f + 1) p k = if to.testBit p = true ∧ k = 0 then p else kth to f (p + 1) (if to.testBit p = true then k - 1 else k) := rfl
theorem cnF_le (to : Nat) : ∀ (f p : Nat), cnF to f p ≤ f
  | 0, _ => Nat.le_refl _
  | f + 1, p => by
    rw [cnF_s]
    have := cnF_le to f (p + 1)
    split <;> omega
theorem cnF_9 (to : Nat) : cnF to 9 0 = cnt to := rfl
theorem lX2_drawn {G : Gx} {d : Nat} {σ : Hp} {to v : Nat} {y z : Value} (hto : to < 512) : ∀ (k : Nat) (p c : Nat), p + k = 9 → kth to k p c = v → c < cnF to k p → Wp G mX2_drawn d 23 [.int (nI to), y, z, .int (nI c), .int (nI p)] [] σ 0 0 (pI fun z s => z = nI v ∧ s = σ) := by
  intro k
  induction k with
  | zero =>
    intro p c h hv hc
    refine wp_iload (atd dX2_drawn 15 rfl) rfl ?_
    refine wp_bipush (v := nI 9) (atd dX2_drawn 16 rfl) (by decide) ?_
    refine wp_icmpN_ge (tgt := 56) (atd dX2_drawn 17 rfl) (by decide) (by omega) (by omega) (fun c_27 => ?_) (fun c_27 => ?_)
    ·
      refine wp_iconst (v := -1) (atd dX2_drawn 32 rfl) (by decide) ?_
      refine wp_ireti (atd dX2_drawn 33 rfl) rfl ?_
      exfalso
      exact Nat.not_lt_zero c hc
    · exfalso; omega
  | succ k ih =>
    intro p c h hv hc
    refine wp_iload (atd dX2_drawn 15 rfl) rfl ?_
    refine wp_bipush (v := nI 9) (atd dX2_drawn 16 rfl) (by decide) ?_
    refine wp_icmpN_ge (tgt := 56) (atd dX2_drawn 17 rfl) (by decide) (by omega) (by omega) (fun c_27 => ?_) (fun c_27 => ?_)
    · exfalso; omega
    ·
      refine wp_iload_n (atd dX2_drawn 18 rfl) rfl ?_
      refine wp_iload (atd dX2_drawn 19 rfl) rfl ?_
      refine wp_ishrN (atd dX2_drawn 20 rfl) (by omega) (by omega) ?_
      refine wp_iconst (v := nI 1) (atd dX2_drawn 21 rfl) (by decide) ?_
      refine wp_iandN (atd dX2_drawn 22 rfl) ?_
      refine wp_iconst (v := nI 1) (atd dX2_drawn 23 rfl) (by decide) ?_
      refine wp_icmpN_ne (tgt := 50) (atd dX2_drawn 24 rfl) (by decide) (by have := and1_lt (to >>> p); omega) (by omega) (fun c_37 => ?_) (fun c_37 => ?_)
      ·
        refine wp_iincN (c := 1) (atd dX2_drawn 30 rfl) rfl ?_
        refine wp_goto (tgt := 23) (atd dX2_drawn 31 rfl) (by decide) ?_
        have hb : ¬ to.testBit p = true := fun h => c_37 ((tb_iff _ _).mpr h)
        exact ih (p + 1) c (by omega) (by rw [← hv, kth_s, if_neg (fun h => hb h.1), if_neg hb]) (by rw [cnF_s, if_neg hb] at hc; omega)
      ·
        refine wp_iload_n (atd dX2_drawn 25 rfl) rfl ?_
        refine wp_ifN_ne (tgt := 47) (atd dX2_drawn 26 rfl) (by decide) (by have := cnF_le to (k + 1) p; omega) (fun c_41 => ?_) (fun c_41 => ?_)
        ·
          refine wp_iinc (atd dX2_drawn 29 rfl) rfl (nI_dec c_41) ?_
          refine wp_iincN (c := 1) (atd dX2_drawn 30 rfl) rfl ?_
          refine wp_goto (tgt := 23) (atd dX2_drawn 31 rfl) (by decide) ?_
          have hb : to.testBit p = true := (tb_iff _ _).mp c_37
          exact ih (p + 1) (c - 1) (by omega) (by rw [← hv, kth_s, if_neg (fun h => by omega), if_pos hb]) (by rw [cnF_s, if_pos hb] at hc; omega)
        ·
          refine wp_iload (atd dX2_drawn 27 rfl) rfl ?_
          refine wp_ireti (atd dX2_drawn 28 rfl) rfl ?_
          exact ⟨by rw [← hv, kth_s, if_pos ⟨(tb_iff _ _).mp c_37, c_41⟩], rfl⟩
theorem eX2_drawn {G : Gx} {d : Nat} {σ : Hp} (hd : 1 ≤ d) {to : Nat} {s0 : Int32} (hto : to < 512) (h0 : 0 < cnt to) : Cl G mX2_drawn d [.int (nI to), .int s0] σ 0 0 (pI fun z s => z = nI (kth to 9 0 (drN s0 (cnt to))) ∧ s = σ) := by
  obtain ⟨d0, hdd⟩ : ∃ e, d = e + 1 := ⟨d - 1, by omega⟩
  refine cl_of (by decide) (by simp [Value.category]) (Nat.le_of_ble_eq_true rfl) ?_
  show Wp G mX2_drawn d 0 [.int (nI to), .int s0, .double 0, .double 0, .double 0] [] σ 0 0 _
  refine wp_iload_n (atd dX2_drawn 0 rfl) rfl ?_
  refine wp_cSi hdd [_] (atd dX2_drawn 1 rfl) iJ6_bitCount_0f7a4 lX2_128 rfl rfl (Nat.le_of_ble_eq_true rfl) (eJ6_bitCount (by omega) hto) (fun r_1 s_1 h_1 => ?_)
  obtain ⟨rfl, e_1⟩ := h_1
  obtain rfl := e_1.symm
  refine wp_istore_n (atd dX2_drawn 2 rfl) (Nat.le_of_ble_eq_true rfl) ?_
  refine wp_iload_n (atd dX2_drawn 3 rfl) rfl ?_
  refine wp_ifN_ne (tgt := 13) (atd dX2_drawn 4 rfl) (by decide) (by have := cnt_le to; omega) (fun c_6 => ?_) (fun c_6 => ?_)
  ·
    refine wp_iload_n (atd dX2_drawn 7 rfl) rfl ?_
    refine wp_bipush (v := nI 16) (atd dX2_drawn 8 rfl) (by decide) ?_
    refine wp_iushr (atd dX2_drawn 9 rfl) ?_
    rw [ush16]
    have hu := ush_lt s0
    have hc9 := cnt_le to
    refine wp_iload_n (atd dX2_drawn 10 rfl) rfl ?_
    refine wp_iremN (atd dX2_drawn 11 rfl) (by omega) (by omega) (by omega) ?_
    refine wp_istore_n (atd dX2_drawn 12 rfl) (Nat.le_of_ble_eq_true rfl) ?_
    refine wp_iconst (v := nI 0) (atd dX2_drawn 13 rfl) (by decide) ?_
    refine wp_istore (atd dX2_drawn 14 rfl) (Nat.le_of_ble_eq_true rfl) ?_
    exact lX2_drawn hto 9 0 _ (by omega) rfl (by rw [cnF_9]; exact Nat.mod_lt _ h0)
  · exfalso; omega
def hdG (nb : Nat → Nat) (kd st w p b : Nat) : Nat := if w.testBit p = true ∧ dif (rch nb kd st p) w = 0 then b ||| 2 ^ p else b
def hdF (nb : Nat → Nat) (n kd st w : Nat) : Nat := fl (hdG nb kd st w) n 0 st
theorem lX2_holds {G : Gx} {d : Nat} {σ : Hp} (hd : 2 ≤ d) {g fc t : Nat} {kn n : Nat} {nb : Nat → Nat} (hN : OB σ kn 3 [.int (nI n), .ref (kn + 1)]) (hNA : AI σ (kn + 1) 9 nb) (hn : n ≤ 9) (hw : ∀ p, nb p < 512) (hG : OB σ g 2 (ggF g kn)) {a kd f f2 : Nat} {rd op tn rf hp : Int32} {wv : Value} (hGm : OB σ a 1 (gaF kd f f2 rd wv op tn rf hp)) (hO : OB σ (g + 1) 5 (roF (g + 1) fc t)) (hT : RT σ (g + 1)) (hkd : kd < 3) {w : Nat → Nat} (hW : AI σ (g + 10) 219 w) (hww : ∀ x, w x < 512) {x : Nat} (hx : x < 219) {v : Nat} : ∀ (k : Nat) (p b : Nat), p + k = n → fl (hdG nb kd (sdC x) (w x)) k p b = v → b < 512 → Wp G mX2_holds d 12 [.ref g, .ref a, .int (nI x), .int (nI b), .int (nI p)] [] σ 0 0 (pI fun z s => z = nI v ∧ s = σ) := by
  obtain ⟨d0, hdd⟩ : ∃ e, d = e + 1 := ⟨d - 1, by omega⟩
  intro k
  induction k with
  | zero =>
    intro p b h hv hb
    refine wp_iload (atd dX2_holds 7 rfl) rfl ?_
    refine wp_aload_n (atd dX2_holds 8 rfl) rfl rfl ?_
    refine wp_get fX2_34 (atd dX2_holds 9 rfl) hG rfl ?_
    refine wp_get fX2_52 (atd dX2_holds 10 rfl) hN rfl ?_
    refine wp_icmpN_ge (tgt := 75) (atd dX2_holds 11 rfl) (by decide) (by omega) (by omega) (fun c_21 => ?_) (fun c_21 => ?_)
    ·
      refine wp_iload_n (atd dX2_holds 44 rfl) rfl ?_
      refine wp_ireti (atd dX2_holds 45 rfl) rfl ?_
      exact ⟨by rw [← hv]; rfl, rfl⟩
    · exfalso; omega
  | succ k ih =>
    intro p b h hv hb
    refine wp_iload (atd dX2_holds 7 rfl) rfl ?_
    refine wp_aload_n (atd dX2_holds 8 rfl) rfl rfl ?_
    refine wp_get fX2_34 (atd dX2_holds 9 rfl) hG rfl ?_
    refine wp_get fX2_52 (atd dX2_holds 10 rfl) hN rfl ?_
    refine wp_icmpN_ge (tgt := 75) (atd dX2_holds 11 rfl) (by decide) (by omega) (by omega) (fun c_21 => ?_) (fun c_21 => ?_)
    · exfalso; omega
    ·
      refine wp_aload_n (atd dX2_holds 12 rfl) rfl rfl ?_
      refine wp_get fX2_24 (atd dX2_holds 13 rfl) hG rfl ?_
      refine wp_iload_n (atd dX2_holds 14 rfl) rfl ?_
      refine wp_ialdA (atd dX2_holds 15 rfl) hW (by omega) (Nat.le_of_ble_eq_true rfl) ?_
      refine wp_iload (atd dX2_holds 16 rfl) rfl ?_
      refine wp_ishrN (atd dX2_holds 17 rfl) (by have := hww x; omega) (by omega) ?_
      refine wp_iconst (v := nI 1) (atd dX2_holds 18 rfl) (by decide) ?_
      refine wp_iandN (atd dX2_holds 19 rfl) ?_
      refine wp_iconst (v := nI 1) (atd dX2_holds 20 rfl) (by decide) ?_
      refine wp_icmpN_ne (tgt := 69) (atd dX2_holds 21 rfl) (by decide) (by have := and1_lt (w x >>> p); omega) (by omega) (fun c_36 => ?_) (fun c_36 => ?_)
      ·
        refine wp_iincN (c := 1) (atd dX2_holds 42 rfl) rfl ?_
        refine wp_goto (tgt := 12) (atd dX2_holds 43 rfl) (by decide) ?_
        exact ih (p + 1) _ (by omega) (by rw [← hv]; show _ = fl _ _ _ (hdG nb kd (sdC x) (w x) p b); rw [hdG, if_neg (fun h => c_36 ((tb_iff _ _).mpr h.1))]) hb
      ·
        refine wp_aload_n (atd dX2_holds 22 rfl) rfl rfl ?_
        refine wp_aload_n (atd dX2_holds 23 rfl) rfl rfl ?_
        refine wp_get fX2_100 (atd dX2_holds 24 rfl) hGm rfl ?_
        refine wp_iload_n (atd dX2_holds 25 rfl) rfl ?_
        refine wp_iload (atd dX2_holds 26 rfl) rfl ?_
        refine wp_cVi hdd [_, _, _] (atd dX2_holds 27 rfl) iX2_reach lX2_113 rfl rfl (Nat.le_of_ble_eq_true rfl) hG rfl (eX2_reach (by omega) hN hNA hn hw hG hO hT hkd (by omega) (by omega)) (fun r_47 s_47 h_47 => ?_)
        obtain ⟨rfl, e_47⟩ := h_47
        obtain rfl := e_47.symm
        refine wp_aload_n (atd dX2_holds 28 rfl) rfl rfl ?_
        refine wp_get fX2_24 (atd dX2_holds 29 rfl) hG rfl ?_
        refine wp_iload_n (atd dX2_holds 30 rfl) rfl ?_
        refine wp_ialdA (atd dX2_holds 31 rfl) hW (by omega) (Nat.le_of_ble_eq_true rfl) ?_
        refine wp_iconst (v := -1) (atd dX2_holds 32 rfl) (by decide) ?_
        refine wp_ixor (atd dX2_holds 33 rfl) ?_
        refine wp_iandC (atd dX2_holds 34 rfl) ?_
        refine wp_ifN_ne (tgt := 69) (atd dX2_holds 35 rfl) (by decide) (by have := dif_lt9 (b := w x) (rch_lt hw kd (sdC x) p); omega) (fun c_59 => ?_) (fun c_59 => ?_)
        ·
          refine wp_iincN (c := 1) (atd dX2_holds 42 rfl) rfl ?_
          refine wp_goto (tgt := 12) (atd dX2_holds 43 rfl) (by decide) ?_
          exact ih (p + 1) _ (by omega) (by rw [← hv]; show _ = fl _ _ _ (hdG nb kd (sdC x) (w x) p b); rw [hdG, if_neg (fun h => by omega)]) hb
        ·
          refine wp_iload_n (atd dX2_holds 36 rfl) rfl ?_
          refine wp_iconst (v := nI 1) (atd dX2_holds 37 rfl) (by decide) ?_
          refine wp_iload (atd dX2_holds 38 rfl) rfl ?_
          refine wp_ishl1 (atd dX2_holds 39 rfl) (by omega) ?_
          refine wp_iorN (atd dX2_holds 40 rfl) ?_
          refine wp_istore_n (atd dX2_holds 41 rfl) (Nat.le_of_ble_eq_true rfl) ?_
          refine wp_iincN (c := 1) (atd dX2_holds 42 rfl) rfl ?_
          refine wp_goto (tgt := 12) (atd dX2_holds 43 rfl) (by decide) ?_
          exact ih (p + 1) _ (by omega) (by rw [← hv]; show _ = fl _ _ _ (hdG nb kd (sdC x) (w x) p b); rw [hdG, if_pos ⟨(tb_iff _ _).mp c_36, c_59⟩]) (Nat.or_lt_two_pow (n := 9) hb (pow_lt9 (by omega)))
theorem eX2_holds {G : Gx} {d : Nat} {σ : Hp} (hd : 2 ≤ d) {g fc t : Nat} {kn n : Nat} {nb : Nat → Nat} (hN : OB σ kn 3 [.int (nI n), .ref (kn + 1)]) (hNA : AI σ (kn + 1) 9 nb) (hn : n ≤ 9) (hw : ∀ p, nb p < 512) (hG : OB σ g 2 (ggF g kn)) {a kd f f2 : Nat} {rd op tn rf hp : Int32} {wv : Value} (hGm : OB σ a 1 (gaF kd f f2 rd wv op tn rf hp)) (hO : OB σ (g + 1) 5 (roF (g + 1) fc t)) (hT : RT σ (g + 1)) (hkd : kd < 3) {w : Nat → Nat} (hW : AI σ (g + 10) 219 w) (hww : ∀ x, w x < 512) {x : Nat} (hx : x < 219) : Cl G mX2_holds d [.ref g, .ref a, .int (nI x)] σ 0 0 (pI fun z s => z = nI (hdF nb n kd (sdC x) (w x)) ∧ s = σ) := by
  obtain ⟨d0, hdd⟩ : ∃ e, d = e + 1 := ⟨d - 1, by omega⟩
  refine cl_of (by decide) (by simp [Value.category]) (Nat.le_of_ble_eq_true rfl) ?_
  show Wp G mX2_holds d 0 [.ref g, .ref a, .int (nI x), .double 0, .double 0] [] σ 0 0 _
  refine wp_aload_n (atd dX2_holds 0 rfl) rfl rfl ?_
  refine wp_get fX2_12 (atd dX2_holds 1 rfl) hG rfl ?_
  refine wp_iload_n (atd dX2_holds 2 rfl) rfl ?_
  refine wp_cVi hdd [_] (atd dX2_holds 3 rfl) iX5_standBits lX2_78 rfl rfl (Nat.le_of_ble_eq_true rfl) hO rfl (eX5_standBits (by omega) hO hT (by omega)) (fun r_5 s_5 h_5 => ?_)
  obtain ⟨rfl, e_5⟩ := h_5
  obtain rfl := e_5.symm
  refine wp_istore_n (atd dX2_holds 4 rfl) (Nat.le_of_ble_eq_true rfl) ?_
  refine wp_iconst (v := nI 0) (atd dX2_holds 5 rfl) (by decide) ?_
  refine wp_istore (atd dX2_holds 6 rfl) (Nat.le_of_ble_eq_true rfl) ?_
  exact lX2_holds (by omega) hN hNA hn hw hG hGm hO hT hkd hW hww hx n 0 _ (by omega) rfl (sdC_lt x)
