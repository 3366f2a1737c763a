/-! a runner that nobody sees -/
def aI (v : Option (Option Nat)) : Int32 := match v with
  | none => -1
  | some none => -2
  | some (some s) => nI s
def AH (σ : Hp) (k L : Nat) (g : Nat → Option (Option Nat)) : Prop := ∃ f, σ.2 k = .inl (0, L, .inl f) ∧ ∀ i, i < L → f i = aI (g i)
theorem AH.fr {σ s : Hp} {S : List Nat} {k L : Nat} {g : Nat → Option (Option Nat)} (h : AH σ k L g) (f : fr S σ s) (hk : k ∉ S) : AH s k L g := by obtain ⟨a, h1, h2⟩ := h; exact ⟨a, (f.2 k hk).trans h1, h2⟩
theorem AK.H {σ : Hp} {k L : Nat} (h : AK σ k L (-1)) : AH σ k L (fun _ => none) := h
section HRules
variable {G : Gx} {M : Md} {d pc k : Nat} {L st : List Value} {σ : Hp} {mc ms : Nat} {Q : Option Value → Hp → Prop}
theorem wp_ialdH {N j : Nat} {g : Nat → Option (Option Nat)} (hd : decode M.2.1 pc = .ok (.iaload, 1)) (hh : AH σ k N g) (hj : j < N) (hn : N < 2 ^ 31)
    (kk : Wp G M d (pc + 1) L (.int (aI (g j)) :: st) σ mc ms Q) : Wp G M d pc L (.int (nI j) :: .ref k :: st) σ mc ms Q := by
  obtain ⟨f, h1, h2⟩ := hh
  exact wp_ialdN hd h1 hj hn (by rw [h2 j hj]; exact kk)
theorem wp_iastH {N j : Nat} {v : Option (Option Nat)} {g : Nat → Option (Option Nat)} (hd : decode M.2.1 pc = .ok (.iastore, 1)) (hh : AH σ k N g) (hj : j < N) (hn : N < 2 ^ 31)
    (kk : ∀ s, fr [k] σ s → AH s k N (va_up g j v) → Wp G M d (pc + 1) L st s mc ms Q) : Wp G M d pc L (.int (aI v) :: .int (nI j) :: .ref k :: st) σ mc ms Q := by
  obtain ⟨f, h1, h2⟩ := hh
  refine wp_iastN hd h1 hj hn (kk _ (fr.set (by simp)) ⟨_, hset_eq, fun i hi => ?_⟩)
  by_cases e : i = j
  · simp [upd, va_up, e]
  · simp [upd, va_up, e, h2 i hi]
end HRules
abbrev BQ : Type := List Nat × (Nat → Option (Option Nat))
def QOk (Q : BQ) : Prop := (∀ s, s ∈ Q.1 ↔ s < 23040 ∧ Q.2 s ≠ none) ∧ Q.1.Nodup ∧ ∀ s s2, Q.2 s = some (some s2) → s2 < 23040
noncomputable def enqF (Q : BQ) (s : Nat) (v : Option Nat) : BQ := if Q.2 s = none then (Q.1 ++ [s], va_up Q.2 s (some v)) else Q
theorem QOk.len {Q : BQ} (h : QOk Q) {s : Nat} (hs : s < 23040) (hq : Q.2 s = none) : Q.1.length < 23040 := by
  have := nodup_len (l := s :: Q.1) (a := 0) (b := 23040) (List.nodup_cons.mpr ⟨fun z => ((h.1 s).mp z).2 hq, h.2.1⟩) (fun y hy => by
    rcases List.mem_cons.mp hy with rfl | z
    · exact ⟨Nat.zero_le _, hs⟩
    · exact ⟨Nat.zero_le _, ((h.1 y).mp z).1⟩)
  rw [List.length_cons] at this
  omega
theorem QOk.le {Q : BQ} (h : QOk Q) : Q.1.length ≤ 23040 := by
  have := nodup_len (l := Q.1) (a := 0) (b := 23040) h.2.1 (fun y hy => ⟨Nat.zero_le _, ((h.1 y).mp hy).1⟩)
  omega
theorem QOk.enq {Q : BQ} (h : QOk Q) {s : Nat} {v : Option Nat} (hs : s < 23040) (hv : ∀ x, v = some x → x < 23040) : QOk (enqF Q s v) := by
  unfold enqF
  by_cases e : Q.2 s = none
  · rw [if_pos e]
    refine ⟨fun y => ?_, ?_, fun y y2 hy => ?_⟩
    · show y ∈ Q.1 ++ [s] ↔ y < 23040 ∧ va_up Q.2 s (some v) y ≠ none
      rw [List.mem_append, List.mem_singleton, h.1 y]
      by_cases q : y = s
      · subst q; simp [va_up, hs]
      · simp [va_up, q]
    · show (Q.1 ++ [s]).Nodup
      rw [List.nodup_append]
      exact ⟨h.2.1, by simp, fun a ha b hb => by simp at hb; subst hb; exact fun q => ((h.1 a).mp ha).2 (q ▸ e)⟩
    · have hy : va_up Q.2 s (some v) y = some (some y2) := hy
      by_cases q : y = s
      · subst q; simp [va_up] at hy; exact hv y2 hy
      · simp only [va_up, if_neg q] at hy; exact h.2.2 y y2 hy
  · rw [if_neg e]; exact h
theorem aI_m1 {v : Option (Option Nat)} (hv : ∀ s, v = some (some s) → s < 23040) : aI v = -1 ↔ v = none := by
  rcases v with _ | _ | s
  · exact ⟨fun _ => rfl, fun _ => rfl⟩
  · exact ⟨fun z => absurd z (by show ¬ (-2 : Int32) = -1; decide), fun z => (by cases z)⟩
  · exact ⟨fun z => absurd z (nI_m1 (by have := hv s rfl; omega)), fun z => (by cases z)⟩
/-- the queue, in the class's arrays -/
def QS (σ : Hp) (ka kq : Nat) (Q : BQ) : Prop := AH σ ka 23040 Q.2 ∧ ∃ qf, AI σ kq 23040 qf ∧ ∀ i, i < Q.1.length → qf i = Q.1.getD i 0
theorem QS.fr {σ s : Hp} {S : List Nat} {ka kq : Nat} {Q : BQ} (h : QS σ ka kq Q) (f : fr S σ s) (hk : ka ∉ S ∧ kq ∉ S) : QS s ka kq Q := by
  obtain ⟨h1, qf, h2, h3⟩ := h
  exact ⟨h1.fr f hk.1, qf, h2.fr f hk.2, h3⟩
def seF (k kn r : Nat) (av qv wv : Value) (qd : Nat) : List Value := [.ref kn, .ref r, .ref (k + 1), .ref (k + 2), .ref (k + 3), av, qv, wv, .int (nI qd)]
theorem eX8_enqueue {G : Gx} {d : Nat} {σ : Hp} (hd : 0 ≤ d) {k kn r ka kq kw s : Nat} {v : Option Nat} {Q : BQ} (hO : OB σ k 8 (seF k kn r (.ref ka) (.ref kq) (.ref kw) Q.1.length)) (hQS : QS σ ka kq Q) (hQ : QOk Q) (hs : s < 23040) (hk1 : k ≠ ka ∧ k ≠ kq ∧ ka ≠ kq) : Cl G mX8_enqueue d [.ref k, .int (nI s), .int (aI (some v))] σ 0 0 (pV fun z => fr [k, ka, kq] σ z ∧ OB z k 8 (seF k kn r (.ref ka) (.ref kq) (.ref kw) (enqF Q s v).1.length) ∧ QS z ka kq (enqF Q s v)) := by
  refine cl_of (by decide) (by simp [Value.category]) (Nat.le_of_ble_eq_true rfl) ?_
  show Wp G mX8_enqueue d 0 [.ref k, .int (nI s), .int (aI (some v))] [] σ 0 0 _
  have hF : fr [k, ka, kq] σ σ := fr.rf
  obtain ⟨hAh, qf, hQu, hqf⟩ := hQS
  have hle := hQ.le
  refine wp_iload_n (atd dX8_enqueue 0 rfl) rfl ?_
  refine wp_ifN_lt (tgt := 58) (atd dX8_enqueue 1 rfl) (by decide) (by omega) ?_
  refine wp_iload_n (atd dX8_enqueue 2 rfl) rfl ?_
  refine wp_sipush (v := nI 23040) (atd dX8_enqueue 3 rfl) (by decide) ?_
  refine wp_icmpN_ge (tgt := 58) (atd dX8_enqueue 4 rfl) (by decide) (by omega) (by omega) (fun c_8 => ?_) (fun c_8 => ?_)
  · exfalso; omega
  ·
    refine wp_aload_n (atd dX8_enqueue 5 rfl) rfl rfl ?_
    refine wp_get fX8_84 (atd dX8_enqueue 6 rfl) hO rfl ?_
    refine wp_iload_n (atd dX8_enqueue 7 rfl) rfl ?_
    refine wp_ialdH (atd dX8_enqueue 8 rfl) hAh hs (by decide) ?_
    refine wp_iconst (v := -1) (atd dX8_enqueue 9 rfl) (by decide) ?_
    refine wp_icmp_ne (tgt := 58) (atd dX8_enqueue 10 rfl) (by decide) (fun c_18 => ?_) (fun c_18 => ?_)
    ·
      refine wp_vretv (atd dX8_enqueue 32 rfl) rfl ?_
      have e : Q.2 s ≠ none := fun z => c_18 ((aI_m1 (hQ.2.2 s)).mpr z)
      rw [show enqF Q s v = Q from if_neg e]
      exact ⟨hF, hO, hAh, qf, hQu, hqf⟩
    ·
      have e0 : Q.2 s = none := (aI_m1 (hQ.2.2 s)).mp (Classical.not_not.mp c_18)
      have hlen := hQ.len hs e0
      refine wp_aload_n (atd dX8_enqueue 11 rfl) rfl rfl ?_
      refine wp_get fX8_74 (atd dX8_enqueue 12 rfl) hO rfl ?_
      refine wp_sipush (v := nI 23040) (atd dX8_enqueue 13 rfl) (by decide) ?_
      refine wp_icmpN_ge (tgt := 58) (atd dX8_enqueue 14 rfl) (by decide) (by omega) (by omega) (fun c_28 => ?_) (fun c_28 => ?_)
      · exfalso; omega
      ·
        refine wp_aload_n (atd dX8_enqueue 15 rfl) rfl rfl ?_
        refine wp_get fX8_84 (atd dX8_enqueue 16 rfl) hO rfl ?_
        refine wp_iload_n (atd dX8_enqueue 17 rfl) rfl ?_
        refine wp_iload_n (atd dX8_enqueue 18 rfl) rfl ?_
        refine wp_iastH (atd dX8_enqueue 19 rfl) hAh hs (by decide) (fun σ f_37 hAh => ?_)
        have hO := hO.fr f_37 (by simp only [List.mem_cons, List.not_mem_nil, or_false]; omega)
        have hQu := hQu.fr f_37 (by simp only [List.mem_cons, List.not_mem_nil, or_false]; omega)
        have hF := hF.tr f_37 (by simp)
        refine wp_aload_n (atd dX8_enqueue 20 rfl) rfl rfl ?_
        refine wp_get fX8_77 (atd dX8_enqueue 21 rfl) hO rfl ?_
        refine wp_aload_n (atd dX8_enqueue 22 rfl) rfl rfl ?_
        refine wp_get fX8_74 (atd dX8_enqueue 23 rfl) hO rfl ?_
        refine wp_iload_n (atd dX8_enqueue 24 rfl) rfl ?_
        refine wp_iastA (atd dX8_enqueue 25 rfl) hQu hlen (Nat.le_of_ble_eq_true rfl) (fun σ f_47 hQu => ?_)
        have hO := hO.fr f_47 (by first | decide | (simp only [List.mem_cons, List.not_mem_nil, or_false]; omega))
        have hAh := hAh.fr f_47 (by first | decide | (simp only [List.mem_cons, List.not_mem_nil, or_false]; omega))
        have hF := hF.tr f_47 (by simp)
        refine wp_aload_n (atd dX8_enqueue 26 rfl) rfl rfl ?_
        refine wp_dup (atd dX8_enqueue 27 rfl) rfl ?_
        refine wp_get fX8_74 (atd dX8_enqueue 28 rfl) hO rfl ?_
        refine wp_iconst (v := nI 1) (atd dX8_enqueue 29 rfl) (by decide) ?_
        refine wp_iaddN (atd dX8_enqueue 30 rfl) ?_
        refine wp_putX fX8_74 (atd dX8_enqueue 31 rfl) hO rfl (Nat.le_of_ble_eq_true rfl) (fun σ f_55 hO => ?_)
        have hAh := hAh.fr f_55 (by first | decide | (simp only [List.mem_cons, List.not_mem_nil, or_false]; omega))
        have hQu := hQu.fr f_55 (by first | decide | (simp only [List.mem_cons, List.not_mem_nil, or_false]; omega))
        have hF := hF.tr f_55 (by simp)
        refine wp_vretv (atd dX8_enqueue 32 rfl) rfl ?_
        rw [show enqF Q s v = (Q.1 ++ [s], va_up Q.2 s (some v)) from if_pos e0]
        refine ⟨hF, by rw [List.length_append]; exact hO, hAh, _, hQu, fun i hi => ?_⟩
        show va_up qf Q.1.length s i = (Q.1 ++ [s]).getD i 0
        rw [getD_app]
        have hi : i < (Q.1 ++ [s]).length := hi
        rw [List.length_append] at hi
        by_cases e : i = Q.1.length
        · simp [va_up, e]
        · simp only [va_up, if_neg e]; exact hqf i (by simp at hi; omega)
theorem eX8_isOnNet {G : Gx} {d : Nat} {σ : Hp} (hd : 1 ≤ d) {kn n : Nat} {nb : Nat → Nat} (hN : OB σ kn 3 [.int (nI n), .ref (kn + 1)]) (hNA : AI σ (kn + 1) 9 nb) (hn : n ≤ 9) (hw : ∀ p, nb p < 512) {k r t qd : Nat} {av qv wv : Value} {l : List Nat} (hO : OB σ k 8 (seF k kn r av qv wv qd)) (hFS : FS σ r t l) (hT : RT σ r) {x : Nat} (hx : x < 219) : Cl G mX8_isOnNet d [.ref k, .int (nI x)] σ 0 0 (pI fun z s => z = bI (dif (sdC x) (2 ^ n - 1) = 0) ∧ s = σ) := by
  obtain ⟨d0, hdd⟩ : ∃ e, d = e + 1 := ⟨d - 1, by omega⟩
  refine cl_of (by decide) (by simp [Value.category]) (Nat.le_of_ble_eq_true rfl) ?_
  show Wp G mX8_isOnNet d 0 [.ref k, .int (nI x)] [] σ 0 0 _
  refine wp_aload_n (atd dX8_isOnNet 0 rfl) rfl rfl ?_
  refine wp_get fX8_26 (atd dX8_isOnNet 1 rfl) hO rfl ?_
  refine wp_iload_n (atd dX8_isOnNet 2 rfl) rfl ?_
  refine wp_cVi hdd [_] (atd dX8_isOnNet 3 rfl) iX5_standBits lX8_52 rfl rfl (Nat.le_of_ble_eq_true rfl) hFS.ob rfl (eX5_standBits (by omega) hFS.ob hT (by omega)) (fun r_5 s_5 h_5 => ?_)
  obtain ⟨rfl, e_5⟩ := h_5
  obtain rfl := e_5.symm
  refine wp_aload_n (atd dX8_isOnNet 4 rfl) rfl rfl ?_
  refine wp_get fX8_22 (atd dX8_isOnNet 5 rfl) hO rfl ?_
  refine wp_cVi hdd [] (atd dX8_isOnNet 6 rfl) iX3_all lX8_57 rfl rfl (Nat.le_of_ble_eq_true rfl) hN rfl (eX3_all (by omega) hN hn) (fun r_12 s_12 h_12 => ?_)
  obtain ⟨rfl, e_12⟩ := h_12
  obtain rfl := e_12.symm
  refine wp_iconst (v := -1) (atd dX8_isOnNet 7 rfl) (by decide) ?_
  refine wp_ixor (atd dX8_isOnNet 8 rfl) ?_
  refine wp_iandC (atd dX8_isOnNet 9 rfl) ?_
  refine wp_ifN_ne (tgt := 25) (atd dX8_isOnNet 10 rfl) (by decide) (by have := dif_lt9 (b := 2 ^ n - 1) (sdC_lt x); omega) (fun c_18 => ?_) (fun c_18 => ?_)
  ·
    refine wp_iconst (v := nI 0) (atd dX8_isOnNet 13 rfl) (by decide) ?_
    refine wp_iretz (atd dX8_isOnNet 14 rfl) rfl (by first | rfl | decide) ?_
    exact ⟨(bI_f (by omega)).symm, rfl⟩
  ·
    refine wp_iconst (v := nI 1) (atd dX8_isOnNet 11 rfl) (by decide) ?_
    refine wp_goto (tgt := 26) (atd dX8_isOnNet 12 rfl) (by decide) ?_
    refine wp_iretz (atd dX8_isOnNet 14 rfl) rfl (by first | rfl | decide) ?_
    exact ⟨(bI_t c_18).symm, rfl⟩
theorem eX8_pathIndex {G : Gx} {d : Nat} {σ : Hp} (hd : 0 ≤ d) {h i : Nat} (hh : 1 ≤ h) : Cl G mX8_pathIndex d [.int (nI h), .int (nI i)] σ 0 0 (pI fun z s => z = nI ((h - 1) * 61 + i) ∧ s = σ) := by
  refine cl_of (by decide) (by simp [Value.category]) (Nat.le_of_ble_eq_true rfl) ?_
  show Wp G mX8_pathIndex d 0 [.int (nI h), .int (nI i)] [] σ 0 0 _
  refine wp_iload_n (atd dX8_pathIndex 0 rfl) rfl ?_
  refine wp_iconst (v := nI 1) (atd dX8_pathIndex 1 rfl) (by decide) ?_
  refine wp_isubN (atd dX8_pathIndex 2 rfl) (by omega) ?_
  refine wp_bipush (v := nI 61) (atd dX8_pathIndex 3 rfl) (by decide) ?_
  refine wp_imulN (atd dX8_pathIndex 4 rfl) ?_
  refine wp_iload_n (atd dX8_pathIndex 5 rfl) rfl ?_
  refine wp_iaddN (atd dX8_pathIndex 6 rfl) ?_
  refine wp_ireti (atd dX8_pathIndex 7 rfl) rfl ?_
  exact ⟨rfl, rfl⟩
def olF (n : Nat) : Nat → Nat → Option Nat
  | 0, _ => none
  | k + 1, x => if sdC x = 2 ^ n - 1 then some x else olF n k (x + 1)
theorem olF_lt {n : Nat} : ∀ {k x y : Nat}, olF n k x = some y → x ≤ y ∧ y < x + k ∧ sdC y = 2 ^ n - 1
  | 0, _, _, h => by cases h
  | k + 1, x, y, h => by
    unfold olF at h
    split at h
    · cases h; exact ⟨Nat.le_refl _, by omega, by assumption⟩
    · have := olF_lt h; exact ⟨by omega, by omega, this.2.2⟩
theorem lX8_opensLit {G : Gx} {d : Nat} {σ : Hp} (hd : 1 ≤ d) {kn n : Nat} {nb : Nat → Nat} (hN : OB σ kn 3 [.int (nI n), .ref (kn + 1)]) (hNA : AI σ (kn + 1) 9 nb) (hn : n ≤ 9) (hw : ∀ p, nb p < 512) {k r t qd h : Nat} {av qv wv : Value} {l : List Nat} {rn : Nat → Option Nat} {pa : Nat → Nat} (hO : OB σ k 8 (seF k kn r av qv wv qd)) (hFS : FS σ r t l) (hT : RT σ r) (hRn : AO σ (k + 2) 2 rn) (hPa : AI σ (k + 3) 122 pa) (hh1 : 1 ≤ h) (hh2 : h ≤ 2) {v : Option Nat} : ∀ (y : Nat) (x : Nat), x + y = frN (h + 1) → olF n y x = v → Wp G mX8_opensLit d 6 [.ref k, .int (nI h), .int (nI x)] [] σ 0 0 (pI fun z s => z = bI (v ≠ none) ∧ ((v = none ∧ s = σ) ∨ ∃ x, v = some x ∧ fr [k + 2, k + 3] σ s ∧ AO s (k + 2) 2 (va_up rn (h - 1) (some 0)) ∧ AI s (k + 3) 122 (va_up pa ((h - 1) * 61) x))) := by
  obtain ⟨d0, hdd⟩ : ∃ e, d = e + 1 := ⟨d - 1, by omega⟩
  intro y
  induction y with
  | zero =>
    have hfl := frN_le h hh1 (by omega)
    intro x hi hv
    have hF : fr [k + 2, k + 3] σ σ := fr.rf
    refine wp_iload_n (atd dX8_opensLit 4 rfl) rfl ?_
    refine wp_frow fX8_61 (atd dX8_opensLit 5 rfl) ?_
    refine wp_iload_n (atd dX8_opensLit 6 rfl) rfl ?_
    refine wp_iconst (v := nI 1) (atd dX8_opensLit 7 rfl) (by decide) ?_
    refine wp_iaddN (atd dX8_opensLit 8 rfl) ?_
    refine wp_faldN (atd dX8_opensLit 9 rfl) (by omega) ?_
    rw [frow_N]
    refine wp_icmpN_ge (tgt := 63) (atd dX8_opensLit 10 rfl) (by decide) (by omega) (by omega) (fun c_14 => ?_) (fun c_14 => ?_)
    ·
      refine wp_iconst (v := nI 0) (atd dX8_opensLit 37 rfl) (by decide) ?_
      refine wp_iretz (atd dX8_opensLit 38 rfl) rfl (by first | rfl | decide) ?_
      exact ⟨(bI_f (fun z => z hv.symm)).symm, Or.inl ⟨hv.symm, rfl⟩⟩
    · exfalso; omega
  | succ y ih =>
    have hfl := frN_le h hh1 (by omega)
    intro x hi hv
    have hF : fr [k + 2, k + 3] σ σ := fr.rf
    refine wp_iload_n (atd dX8_opensLit 4 rfl) rfl ?_
    refine wp_frow fX8_61 (atd dX8_opensLit 5 rfl) ?_
    refine wp_iload_n (atd dX8_opensLit 6 rfl) rfl ?_
    refine wp_iconst (v := nI 1) (atd dX8_opensLit 7 rfl) (by decide) ?_
    refine wp_iaddN (atd dX8_opensLit 8 rfl) ?_
    refine wp_faldN (atd dX8_opensLit 9 rfl) (by omega) ?_
    rw [frow_N]
    refine wp_icmpN_ge (tgt := 63) (atd dX8_opensLit 10 rfl) (by decide) (by omega) (by omega) (fun c_14 => ?_) (fun c_14 => ?_)
    · exfalso; omega
    ·
      refine wp_aload_n (atd dX8_opensLit 11 rfl) rfl rfl ?_
      refine wp_get fX8_26 (atd dX8_opensLit 12 rfl) hO rfl ?_
      refine wp_iload_n (atd dX8_opensLit 13 rfl) rfl ?_
      refine wp_cVi hdd [_] (atd dX8_opensLit 14 rfl) iX5_standBits lX8_52 rfl rfl (Nat.le_of_ble_eq_true rfl) hFS.ob rfl (eX5_standBits (by omega) hFS.ob hT (by omega)) (fun r_22 s_22 h_22 => ?_)
      obtain ⟨rfl, e_22⟩ := h_22
      obtain rfl := e_22.symm
      refine wp_aload_n (atd dX8_opensLit 15 rfl) rfl rfl ?_
      refine wp_get fX8_22 (atd dX8_opensLit 16 rfl) hO rfl ?_
      refine wp_cVi hdd [] (atd dX8_opensLit 17 rfl) iX3_all lX8_57 rfl rfl (Nat.le_of_ble_eq_true rfl) hN rfl (eX3_all (by omega) hN hn) (fun r_29 s_29 h_29 => ?_)
      obtain ⟨rfl, e_29⟩ := h_29
      obtain rfl := e_29.symm
      refine wp_icmpN_ne (tgt := 57) (atd dX8_opensLit 18 rfl) (by decide) (by have := sdC_lt x; omega) (by have := pow_le9 hn; omega) (fun c_32 => ?_) (fun c_32 => ?_)
      ·
        refine wp_iincN (c := 1) (atd dX8_opensLit 35 rfl) rfl ?_
        refine wp_goto (tgt := 6) (atd dX8_opensLit 36 rfl) (by decide) ?_
        exact ih (x + 1) (by omega) (by rw [← hv]; rw [show olF n (y + 1) x = if sdC x = 2 ^ n - 1 then some x else olF n y (x + 1) from rfl, if_neg c_32])
      ·
        refine wp_aload_n (atd dX8_opensLit 19 rfl) rfl rfl ?_
        refine wp_get fX8_15 (atd dX8_opensLit 20 rfl) hO rfl ?_
        refine wp_iload_n (atd dX8_opensLit 21 rfl) rfl ?_
        refine wp_iconst (v := nI 1) (atd dX8_opensLit 22 rfl) (by decide) ?_
        refine wp_isubN (atd dX8_opensLit 23 rfl) (by omega) ?_
        refine wp_iconst (v := nI 0) (atd dX8_opensLit 24 rfl) (by decide) ?_
        refine wp_iastO (v := some _) (atd dX8_opensLit 25 rfl) hRn (by omega) (Nat.le_of_ble_eq_true rfl) (fun σ f_43 hRn => ?_)
        have hO := hO.fr f_43 (by first | decide | (simp only [List.mem_cons, List.not_mem_nil, or_false]; omega))
        have hPa := hPa.fr f_43 (by first | decide | (simp only [List.mem_cons, List.not_mem_nil, or_false]; omega))
        have hF := hF.tr f_43 (by simp)
        refine wp_aload_n (atd dX8_opensLit 26 rfl) rfl rfl ?_
        refine wp_get fX8_19 (atd dX8_opensLit 27 rfl) hO rfl ?_
        refine wp_iload_n (atd dX8_opensLit 28 rfl) rfl ?_
        refine wp_iconst (v := nI 0) (atd dX8_opensLit 29 rfl) (by decide) ?_
        refine wp_cSi hdd [_, _] (atd dX8_opensLit 30 rfl) iX8_pathIndex lX8_48 rfl rfl (Nat.le_of_ble_eq_true rfl) (eX8_pathIndex (by omega) hh1) (fun r_50 s_50 h_50 => ?_)
        obtain ⟨rfl, e_50⟩ := h_50
        obtain rfl := e_50.symm
        refine wp_iload_n (atd dX8_opensLit 31 rfl) rfl ?_
        refine wp_iastA (atd dX8_opensLit 32 rfl) hPa (by omega) (Nat.le_of_ble_eq_true rfl) (fun σ f_54 hPa => ?_)
        have hO := hO.fr f_54 (by first | decide | (simp only [List.mem_cons, List.not_mem_nil, or_false]; omega))
        have hRn := hRn.fr f_54 (by first | decide | (simp only [List.mem_cons, List.not_mem_nil, or_false]; omega))
        have hF := hF.tr f_54 (by simp)
        refine wp_iconst (v := nI 1) (atd dX8_opensLit 33 rfl) (by decide) ?_
        refine wp_iretz (atd dX8_opensLit 34 rfl) rfl (by first | rfl | decide) ?_
        have e : v = some x := by rw [← hv]; rw [show olF n (y + 1) x = if sdC x = 2 ^ n - 1 then some x else olF n y (x + 1) from rfl, if_pos c_32]
        exact ⟨(bI_t (by rw [e]; intro z; cases z)).symm, Or.inr ⟨x, e, hF, hRn, hPa⟩⟩
theorem eX8_opensLit {G : Gx} {d : Nat} {σ : Hp} (hd : 1 ≤ d) {kn n : Nat} {nb : Nat → Nat} (hN : OB σ kn 3 [.int (nI n), .ref (kn + 1)]) (hNA : AI σ (kn + 1) 9 nb) (hn : n ≤ 9) (hw : ∀ p, nb p < 512) {k r t qd h : Nat} {av qv wv : Value} {l : List Nat} {rn : Nat → Option Nat} {pa : Nat → Nat} (hO : OB σ k 8 (seF k kn r av qv wv qd)) (hFS : FS σ r t l) (hT : RT σ r) (hRn : AO σ (k + 2) 2 rn) (hPa : AI σ (k + 3) 122 pa) (hh1 : 1 ≤ h) (hh2 : h ≤ 2) : Cl G mX8_opensLit d [.ref k, .int (nI h)] σ 0 0 (pI fun z s => z = bI (olF n (frN (h + 1) - frN h) (frN h) ≠ none) ∧ ((olF n (frN (h + 1) - frN h) (frN h) = none ∧ s = σ) ∨ ∃ x, olF n (frN (h + 1) - frN h) (frN h) = some x ∧ fr [k + 2, k + 3] σ s ∧ AO s (k + 2) 2 (va_up rn (h - 1) (some 0)) ∧ AI s (k + 3) 122 (va_up pa ((h - 1) * 61) x))) := by
  obtain ⟨d0, hdd⟩ : ∃ e, d = e + 1 := ⟨d - 1, by omega⟩
  refine cl_of (by decide) (by simp [Value.category]) (Nat.le_of_ble_eq_true rfl) ?_
  show Wp G mX8_opensLit d 0 [.ref k, .int (nI h), .double 0] [] σ 0 0 _
  have hfl := frN_le h hh1 (by omega)
  refine wp_frow fX8_61 (atd dX8_opensLit 0 rfl) ?_
  refine wp_iload_n (atd dX8_opensLit 1 rfl) rfl ?_
  refine wp_faldN (atd dX8_opensLit 2 rfl) (by omega) ?_
  rw [frow_N]
  refine wp_istore_n (atd dX8_opensLit 3 rfl) (Nat.le_of_ble_eq_true rfl) ?_
  exact lX8_opensLit (by omega) hN hNA hn hw hO hFS hT hRn hPa hh1 hh2 (frN (h + 1) - frN h) (frN h) (by omega) rfl
/-- a state and those ahead of it -/
def chn (ah : Nat → Option (Option Nat)) (m s : Nat) (c : Nat → Nat) : Prop := c m = s ∧ (∀ i, i < m → ah (c (i + 1)) = some (some (c i))) ∧ ∀ i, i ≤ m → c i < 23040
theorem lX8_tellPath {G : Gx} {d : Nat} (hd : 1 ≤ d) {σ0 : Hp} {k kn r ka kq kw qd h r0 : Nat} {ah : Nat → Option (Option Nat)} {c : Nat → Nat} (hh1 : 1 ≤ h) (hh2 : h ≤ 2) (hr0 : r0 < 60) (hap : ka ≠ k + 3 ∧ k ≠ ka) {pa0 : Nat → Nat} {y2 y3 : Value} (hc1 : ∀ i, i < r0 → ah (c (i + 1)) = some (some (c i))) (hc2 : ∀ i, i ≤ r0 → c i < 23040) : ∀ (m : Nat) (σ : Hp) (pa : Nat → Nat) (a : Int32), m ≤ r0 + 1 → (∀ i, m = i + 1 → a = nI (c i)) → OB σ k 8 (seF k kn r (.ref ka) (.ref kq) (.ref kw) qd) → AH σ ka 23040 ah → AI σ (k + 3) 122 pa → fr [k + 3] σ0 σ → (∀ i, i < 122 → pa i = if (h - 1) * 61 + m ≤ i ∧ i ≤ (h - 1) * 61 + r0 then frN h + c (i - (h - 1) * 61) / 512 else pa0 i) → Wp G mX8_tellPath d 6 [.ref k, .int (nI h), y2, y3, .int a, .int (nI m - nI 1)] [] σ 0 0 (pV fun s => fr [k + 3] σ0 s ∧ ∃ pa2, AI s (k + 3) 122 pa2 ∧ ∀ i, i < 122 → pa2 i = if (h - 1) * 61 ≤ i ∧ i ≤ (h - 1) * 61 + r0 then frN h + c (i - (h - 1) * 61) / 512 else pa0 i) := by
  obtain ⟨d0, hdd⟩ : ∃ e, d = e + 1 := ⟨d - 1, by omega⟩
  intro m
  induction m with
  | zero =>
    intro σ pa a hm ha hO hAh hPa hF hg
    rw [show nI 0 - nI 1 = (-1 : Int32) from by decide]
    refine wp_iload (atd dX8_tellPath 4 rfl) rfl ?_
    refine wp_if_lt (tgt := 62) (atd dX8_tellPath 5 rfl) (by decide) (fun c_8 => ?_) (fun c_8 => ?_)
    ·
      refine wp_vretv (atd dX8_tellPath 31 rfl) rfl ?_
      exact ⟨hF, pa, hPa, fun i hi => hg i hi⟩
    · exact absurd (by decide) c_8
  | succ m ih =>
    intro σ pa a hm ha hO hAh hPa hF hg
    rw [pk_sub (by omega : 1 ≤ m + 1), Nat.add_sub_cancel]
    obtain rfl := ha m rfl
    have hcm := hc2 m (by omega)
    refine wp_iload (atd dX8_tellPath 4 rfl) rfl ?_
    refine wp_ifN_lt (tgt := 62) (atd dX8_tellPath 5 rfl) (by decide) (by omega) ?_
    refine wp_iload (atd dX8_tellPath 6 rfl) rfl ?_
    refine wp_ifN_lt (tgt := 56) (atd dX8_tellPath 7 rfl) (by decide) (by omega) ?_
    refine wp_iload (atd dX8_tellPath 8 rfl) rfl ?_
    refine wp_sipush (v := nI 23040) (atd dX8_tellPath 9 rfl) (by decide) ?_
    refine wp_icmpN_ge (tgt := 56) (atd dX8_tellPath 10 rfl) (by decide) (by omega) (by omega) (fun c_21 => ?_) (fun c_21 => ?_)
    · exfalso; omega
    ·
      refine wp_aload_n (atd dX8_tellPath 11 rfl) rfl rfl ?_
      refine wp_get fX8_19 (atd dX8_tellPath 12 rfl) hO rfl ?_
      refine wp_iload_n (atd dX8_tellPath 13 rfl) rfl ?_
      refine wp_iload (atd dX8_tellPath 14 rfl) rfl ?_
      refine wp_cSi hdd [_, _] (atd dX8_tellPath 15 rfl) iX8_pathIndex lX8_48 rfl rfl (Nat.le_of_ble_eq_true rfl) (eX8_pathIndex (by omega) hh1) (fun r_31 s_31 h_31 => ?_)
      obtain ⟨rfl, e_31⟩ := h_31
      obtain rfl := e_31.symm
      refine wp_frow fX8_61 (atd dX8_tellPath 16 rfl) ?_
      refine wp_iload_n (atd dX8_tellPath 17 rfl) rfl ?_
      refine wp_faldN (atd dX8_tellPath 18 rfl) (by omega) ?_
      rw [frow_N]
      refine wp_iload (atd dX8_tellPath 19 rfl) rfl ?_
      refine wp_sipush (v := nI 512) (atd dX8_tellPath 20 rfl) (by decide) ?_
      refine wp_idivN (atd dX8_tellPath 21 rfl) (by omega) (by omega) (by omega) ?_
      refine wp_iaddN (atd dX8_tellPath 22 rfl) ?_
      refine wp_iastA (atd dX8_tellPath 23 rfl) hPa (by omega) (Nat.le_of_ble_eq_true rfl) (fun σ f_46 hPa => ?_)
      have hO := hO.fr f_46 (by first | decide | (simp only [List.mem_cons, List.not_mem_nil, or_false]; omega))
      have hAh := hAh.fr f_46 (by first | decide | (simp only [List.mem_cons, List.not_mem_nil, or_false]; omega))
      have hF := hF.tr f_46 (by simp)
      refine wp_aload_n (atd dX8_tellPath 24 rfl) rfl rfl ?_
      refine wp_get fX8_84 (atd dX8_tellPath 25 rfl) hO rfl ?_
      refine wp_iload (atd dX8_tellPath 26 rfl) rfl ?_
      refine wp_ialdH (atd dX8_tellPath 27 rfl) hAh hcm (by decide) ?_
      refine wp_istore (atd dX8_tellPath 28 rfl) (Nat.le_of_ble_eq_true rfl) ?_
      refine wp_iinc (v := nI m - nI 1) (atd dX8_tellPath 29 rfl) rfl (by rw [show Int32.ofInt (-1) = -(nI 1) from by decide, Int32.sub_eq_add_neg]) ?_
      refine wp_goto (tgt := 6) (atd dX8_tellPath 30 rfl) (by decide) ?_
      refine ih σ _ _ (by omega) (fun i hi => ?_) hO hAh hPa hF (fun i hi => ?_)
      · subst hi; rw [hc1 i (by omega)]; rfl
      · by_cases e : i = (h - 1) * 61 + m
        · subst e; simp only [va_up, if_true]; rw [if_pos ⟨Nat.le_refl _, by omega⟩, Nat.add_sub_cancel_left]
        · simp only [va_up, if_neg e]; rw [hg i hi]
          have e2 : ((h - 1) * 61 + (m + 1) ≤ i ∧ i ≤ (h - 1) * 61 + r0) ↔ ((h - 1) * 61 + m ≤ i ∧ i ≤ (h - 1) * 61 + r0) := by omega
          simp only [e2]
theorem eX8_tellPath {G : Gx} {d : Nat} {σ : Hp} (hd : 1 ≤ d) {k kn r ka kq kw qd h r0 : Nat} {ah : Nat → Option (Option Nat)} {c : Nat → Nat} (hh1 : 1 ≤ h) (hh2 : h ≤ 2) (hr0 : r0 < 60) (hap : ka ≠ k + 3 ∧ k ≠ ka) {s : Nat} {pa : Nat → Nat} (hc : chn ah r0 s c) (hO : OB σ k 8 (seF k kn r (.ref ka) (.ref kq) (.ref kw) qd)) (hAh : AH σ ka 23040 ah) (hPa : AI σ (k + 3) 122 pa) : Cl G mX8_tellPath d [.ref k, .int (nI h), .int (nI s), .int (nI r0)] σ 0 0 (pV fun z => fr [k + 3] σ z ∧ ∃ pa2, AI z (k + 3) 122 pa2 ∧ ∀ i, i < 122 → pa2 i = if (h - 1) * 61 ≤ i ∧ i ≤ (h - 1) * 61 + r0 then frN h + c (i - (h - 1) * 61) / 512 else pa i) := by
  obtain ⟨d0, hdd⟩ : ∃ e, d = e + 1 := ⟨d - 1, by omega⟩
  refine cl_of (by decide) (by simp [Value.category]) (Nat.le_of_ble_eq_true rfl) ?_
  show Wp G mX8_tellPath d 0 [.ref k, .int (nI h), .int (nI s), .int (nI r0), .double 0, .double 0] [] σ 0 0 _
  refine wp_iload_n (atd dX8_tellPath 0 rfl) rfl ?_
  refine wp_istore (atd dX8_tellPath 1 rfl) (Nat.le_of_ble_eq_true rfl) ?_
  refine wp_iload_n (atd dX8_tellPath 2 rfl) rfl ?_
  refine wp_istore (atd dX8_tellPath 3 rfl) (Nat.le_of_ble_eq_true rfl) ?_
  have := lX8_tellPath (G := G) (d := d) (y2 := .int (nI s)) (y3 := .int (nI r0)) (pa0 := pa) (by omega) hh1 hh2 hr0 hap hc.2.1 hc.2.2 (r0 + 1) σ pa (nI s) (Nat.le_refl _) (fun i hi => by rw [show i = r0 from by omega, hc.1]) hO hAh hPa fr.rf (fun i hi => by rw [if_neg (by omega)])
  rw [pk_sub (by omega : 1 ≤ r0 + 1), Nat.add_sub_cancel] at this
  exact this
