/-- couples as bits -/
def KB (kp : Nat → Nat) (C : Cpl) (n : Nat) : Prop := (∀ h, kp h < 512) ∧ ∀ h r, h < 9 → (kp h).testBit r = (decide (h < n) && decide (r < n) && C h r)
theorem KB.t {kp : Nat → Nat} {C : Cpl} {n h r : Nat} (H : KB kp C n) (hh : h < 9) (hb : (kp h).testBit r = true) : h < n ∧ r < n ∧ C h r = true := by
  rw [H.2 h r hh, Bool.and_eq_true, Bool.and_eq_true, decide_eq_true_iff, decide_eq_true_iff] at hb
  exact ⟨hb.1.1, hb.1.2, hb.2⟩
theorem KB.f {kp : Nat → Nat} {C : Cpl} {n h r : Nat} (H : KB kp C n) (hh : h < 9) (h1 : h < n) (h2 : r < n) : (kp h).testBit r = C h r := by
  rw [H.2 h r hh, decide_eq_true h1, decide_eq_true h2]; rfl
theorem KB.del {kp : Nat → Nat} {C : Cpl} {n h r : Nat} (H : KB kp C n) (hh : h < 9) : KB (va_up kp h (dif (kp h) (2 ^ r))) (cDel C h r) n := by
  refine ⟨up_lt H.1 (dif_lt9 (H.1 h)), fun x y hx => ?_⟩
  by_cases e : x = h
  · subst e
    simp only [va_up, if_true]
    rw [dif_bit, Nat.testBit_two_pow, H.2 x y hx]
    by_cases e2 : y = r
    · subst e2; simp [cDel]
    · have e3 : ¬ r = y := fun z => e2 z.symm
      simp [cDel, e2, e3]
  · simp only [va_up, if_neg e]
    rw [H.2 x y hx]
    simp [cDel, e]
theorem KB.cg {kp : Nat → Nat} {C C2 : Cpl} {n : Nat} (H : KB kp C n) (e : ∀ h r, h < n → r < n → C h r = C2 h r) : KB kp C2 n := ⟨H.1, fun h r hh => by
  rw [H.2 h r hh]
  by_cases h1 : h < n
  · by_cases h2 : r < n
    · rw [e h r h1 h2]
    · simp [h2]
  · simp [h1]⟩
theorem dif_0 {a b : Nat} : dif a b = 0 ↔ ∀ q, a.testBit q = true → b.testBit q = true := by
  constructor
  · intro h q hq
    have : (dif a b).testBit q = false := by rw [h, Nat.zero_testBit]
    rw [dif_bit, hq, Bool.true_and] at this
    cases e : b.testBit q with
    | true => rfl
    | false => rw [e] at this; cases this
  · intro h
    apply Nat.eq_of_testBit_eq
    intro q
    rw [dif_bit, Nat.zero_testBit]
    cases e : a.testBit q with
    | false => rfl
    | true => rw [h q e]; rfl
def anT (nb : Nat → Nat) (s : Nat) (kp : Nat → Nat) (h r : Nat) : Nat → Nat → Bool
  | 0, _ => false
  | k + 1, to => if (nb h &&& s).testBit to = true ∧ dif (dif (nb r) s) (kp to) = 0 ∧ dif (nb r &&& s) (nb to) = 0 then true else anT nb s kp h r k (to + 1)
theorem anT_iff {nb : Nat → Nat} {s : Nat} {kp : Nat → Nat} {h r : Nat} : ∀ (k to : Nat), anT nb s kp h r k to = true ↔ ∃ t, to ≤ t ∧ t < to + k ∧ (nb h &&& s).testBit t = true ∧ dif (dif (nb r) s) (kp t) = 0 ∧ dif (nb r &&& s) (nb t) = 0
  | 0, to => ⟨fun e => (by cases e), fun ⟨t, h1, h2, _⟩ => (by omega)⟩
  | k + 1, to => by
    rw [anT]
    split
    · rename_i e
      exact ⟨fun _ => ⟨to, Nat.le_refl _, by omega, e⟩, fun _ => rfl⟩
    · rename_i e
      rw [anT_iff k (to + 1)]
      constructor
      · rintro ⟨t, h1, h2, h3⟩
        exact ⟨t, by omega, by omega, h3⟩
      · rintro ⟨t, h1, h2, h3⟩
        have : t ≠ to := fun z => e (z ▸ h3)
        exact ⟨t, by omega, by omega, h3⟩
theorem an_hld {nb : Nat → Nat} {n s : Nat} {kp : Nat → Nat} {C : Cpl} {h r : Nat} (hN : isNet n nb) (H : KB kp C n) (hh : h < n) (hr : r < n) : anT nb s kp h r 9 0 = true ↔ hld nb n s C h r := by
  have hn := hN.1
  rw [anT_iff]
  constructor
  · rintro ⟨t, -, h2, h3, h4, h5⟩
    rw [Nat.testBit_and, Bool.and_eq_true] at h3
    have ht : t < n := bit_lt (hN.2.1 h hh) h3.1
    refine ⟨t, ht, h3.1, h3.2, fun q hq hb => ?_⟩
    by_cases e : s.testBit q = true
    · rw [if_pos e]
      exact dif_0.mp h5 q (by rw [Nat.testBit_and, hb, e]; rfl)
    · rw [if_neg e]
      have := dif_0.mp h4 q (by rw [dif_bit, hb, Bool.true_and]; cases z : s.testBit q with | true => exact absurd z e | false => rfl)
      exact (H.t (by omega) this).2.2
  · rintro ⟨t, ht, h1, h2, h3⟩
    refine ⟨t, by omega, by omega, by rw [Nat.testBit_and, h1, h2]; rfl, dif_0.mpr fun q hq => ?_, dif_0.mpr fun q hq => ?_⟩
    · rw [dif_bit, Bool.and_eq_true] at hq
      have hqn := bit_lt (hN.2.1 r hr) hq.1
      have := h3 q hqn hq.1
      rw [if_neg (by intro z; rw [z] at hq; cases hq.2)] at this
      rw [H.f (by omega) ht hqn, this]
    · rw [Nat.testBit_and, Bool.and_eq_true] at hq
      have := h3 q (bit_lt (hN.2.1 r hr) hq.1) hq.1
      rwa [if_pos hq.2] at this
theorem rdG.step2 {nb : Nat → Nat} {n s t h r : Nat} {C C1 : Cpl} (hg : rdG nb n s C C1 t h r) (hz : h < n → r < n → C1 h r = true → hld nb n s C1 h r) : rdG nb n s C C1 t h (r + 1) := by
  rcases hg with ⟨h1, h2⟩ | ⟨h1, h2, h3⟩
  · exact Or.inl ⟨h1, h2⟩
  · refine Or.inr ⟨h1, h2, fun x y hxy hx hy hc => ?_⟩
    by_cases e : x = h ∧ y = r
    · obtain ⟨rfl, rfl⟩ := e
      subst h2
      exact hz hx hy hc
    · exact h3 x y (by omega) hx hy hc
theorem lX10_answers {G : Gx} {d : Nat} {σ : Hp} (hd : 1 ≤ d) {kn n k s h r : Nat} {nb kp : Nat → Nat} (hN : OB σ kn 3 [.int (nI n), .ref (kn + 1)]) (hNA : AI σ (kn + 1) 9 nb) (hn : n ≤ 9) (hw : ∀ p, nb p < 512) (hO : OB σ k 10 [.ref (k + 1)]) (hA : AI σ (k + 1) 9 kp) (hkw : ∀ x, kp x < 512) (hs : s < 512) (hh : h < 9) (hr : r < 9) {v : Bool} : ∀ (x : Nat) (to : Nat), to + x = 9 → anT nb s kp h r x to = v → Wp G mX10_answers d 20 [.ref k, .ref kn, .int (nI s), .int (nI h), .int (nI r), .int (nI (nb r)), .int (nI (nb h &&& s)), .int (nI to)] [] σ 0 0 (pI fun z s2 => z = bI (v = true) ∧ s2 = σ) := by
  obtain ⟨d0, hdd⟩ : ∃ e, d = e + 1 := ⟨d - 1, by omega⟩
  intro x
  induction x with
  | zero =>
    intro to hi hv
    refine wp_iload (atd dX10_answers 12 rfl) rfl ?_
    refine wp_bipush (v := nI 9) (atd dX10_answers 13 rfl) (by decide) ?_
    refine wp_icmpN_ge (tgt := 81) (atd dX10_answers 14 rfl) (by decide) (by omega) (by omega) (fun c_24 => ?_) (fun c_24 => ?_)
    ·
      refine wp_iconst (v := nI 0) (atd dX10_answers 49 rfl) (by decide) ?_
      refine wp_iretz (atd dX10_answers 50 rfl) rfl (by decide) ?_
      exact ⟨by rw [← hv]; rfl, rfl⟩
    · exfalso; omega
  | succ x ih =>
    intro to hi hv
    refine wp_iload (atd dX10_answers 12 rfl) rfl ?_
    refine wp_bipush (v := nI 9) (atd dX10_answers 13 rfl) (by decide) ?_
    refine wp_icmpN_ge (tgt := 81) (atd dX10_answers 14 rfl) (by decide) (by omega) (by omega) (fun c_24 => ?_) (fun c_24 => ?_)
    · exfalso; omega
    ·
      refine wp_iload (atd dX10_answers 15 rfl) rfl ?_
      refine wp_iload (atd dX10_answers 16 rfl) rfl ?_
      refine wp_ishrN (atd dX10_answers 17 rfl) (by have := and_lt9 (b := s) (hw h); omega) (by omega) ?_
      refine wp_iconst (v := nI 1) (atd dX10_answers 18 rfl) (by decide) ?_
      refine wp_iandN (atd dX10_answers 19 rfl) ?_
      refine wp_iconst (v := nI 1) (atd dX10_answers 20 rfl) (by decide) ?_
      refine wp_icmpN_ne (tgt := 75) (atd dX10_answers 21 rfl) (by decide) (by have := and1_lt ((nb h &&& s) >>> to); omega) (by omega) (fun c_35 => ?_) (fun c_35 => ?_)
      ·
        refine wp_iincN (c := 1) (atd dX10_answers 47 rfl) rfl ?_
        refine wp_goto (tgt := 20) (atd dX10_answers 48 rfl) (by decide) ?_
        exact ih (to + 1) (by omega) (by rw [← hv]; rw [show anT nb s kp h r (x + 1) to = if (nb h &&& s).testBit to = true ∧ dif (dif (nb r) s) (kp to) = 0 ∧ dif (nb r &&& s) (nb to) = 0 then true else anT nb s kp h r x (to + 1) from rfl]; rw [if_neg (fun h => c_35 ((tb_iff _ _).mpr h.1))])
      ·
        refine wp_iload (atd dX10_answers 22 rfl) rfl ?_
        refine wp_iload_n (atd dX10_answers 23 rfl) rfl ?_
        refine wp_iconst (v := -1) (atd dX10_answers 24 rfl) (by decide) ?_
        refine wp_ixor (atd dX10_answers 25 rfl) ?_
        refine wp_iandC (atd dX10_answers 26 rfl) ?_
        refine wp_aload_n (atd dX10_answers 27 rfl) rfl rfl ?_
        refine wp_get fX10_9 (atd dX10_answers 28 rfl) hO rfl ?_
        refine wp_iload (atd dX10_answers 29 rfl) rfl ?_
        refine wp_ialdA (atd dX10_answers 30 rfl) hA (by omega) (Nat.le_of_ble_eq_true rfl) ?_
        refine wp_iconst (v := -1) (atd dX10_answers 31 rfl) (by decide) ?_
        refine wp_ixor (atd dX10_answers 32 rfl) ?_
        refine wp_iandC (atd dX10_answers 33 rfl) ?_
        refine wp_ifN_ne (tgt := 75) (atd dX10_answers 34 rfl) (by decide) (by have := dif_lt9 (b := kp to) (dif_lt9 (b := s) (hw r)); omega) (fun c_54 => ?_) (fun c_54 => ?_)
        ·
          refine wp_iincN (c := 1) (atd dX10_answers 47 rfl) rfl ?_
          refine wp_goto (tgt := 20) (atd dX10_answers 48 rfl) (by decide) ?_
          exact ih (to + 1) (by omega) (by rw [← hv]; rw [show anT nb s kp h r (x + 1) to = if (nb h &&& s).testBit to = true ∧ dif (dif (nb r) s) (kp to) = 0 ∧ dif (nb r &&& s) (nb to) = 0 then true else anT nb s kp h r x (to + 1) from rfl]; rw [if_neg (fun h => (by omega : ¬ dif (dif (nb r) s) (kp to) = 0) h.2.1)])
        ·
          refine wp_iload (atd dX10_answers 35 rfl) rfl ?_
          refine wp_iload_n (atd dX10_answers 36 rfl) rfl ?_
          refine wp_iandN (atd dX10_answers 37 rfl) ?_
          refine wp_aload_n (atd dX10_answers 38 rfl) rfl rfl ?_
          refine wp_iload (atd dX10_answers 39 rfl) rfl ?_
          refine wp_cVi hdd [_] (atd dX10_answers 40 rfl) iX3_around lX10_33 rfl rfl (Nat.le_of_ble_eq_true rfl) hN rfl (eX3_around (by omega) hN hNA hn hw (by omega)) (fun r_64 s_64 h_64 => ?_)
          obtain ⟨rfl, e_64⟩ := h_64
          obtain rfl := e_64.symm
          refine wp_iconst (v := -1) (atd dX10_answers 41 rfl) (by decide) ?_
          refine wp_ixor (atd dX10_answers 42 rfl) ?_
          refine wp_iandC (atd dX10_answers 43 rfl) ?_
          refine wp_ifN_ne (tgt := 75) (atd dX10_answers 44 rfl) (by decide) (by have := dif_lt9 (b := nb to) (and_lt9 (b := s) (hw r)); omega) (fun c_70 => ?_) (fun c_70 => ?_)
          ·
            refine wp_iincN (c := 1) (atd dX10_answers 47 rfl) rfl ?_
            refine wp_goto (tgt := 20) (atd dX10_answers 48 rfl) (by decide) ?_
            exact ih (to + 1) (by omega) (by rw [← hv]; rw [show anT nb s kp h r (x + 1) to = if (nb h &&& s).testBit to = true ∧ dif (dif (nb r) s) (kp to) = 0 ∧ dif (nb r &&& s) (nb to) = 0 then true else anT nb s kp h r x (to + 1) from rfl]; rw [if_neg (fun h => (by omega : ¬ dif (nb r &&& s) (nb to) = 0) h.2.2)])
          ·
            refine wp_iconst (v := nI 1) (atd dX10_answers 45 rfl) (by decide) ?_
            refine wp_iretz (atd dX10_answers 46 rfl) rfl (by first | rfl | decide) ?_
            exact ⟨by rw [← hv]; rw [show anT nb s kp h r (x + 1) to = if (nb h &&& s).testBit to = true ∧ dif (dif (nb r) s) (kp to) = 0 ∧ dif (nb r &&& s) (nb to) = 0 then true else anT nb s kp h r x (to + 1) from rfl]; rw [if_pos ⟨(tb_iff _ _).mp c_35, c_54, c_70⟩]; rfl, rfl⟩
theorem eX10_answers {G : Gx} {d : Nat} {σ : Hp} (hd : 1 ≤ d) {kn n k s h r : Nat} {nb kp : Nat → Nat} (hN : OB σ kn 3 [.int (nI n), .ref (kn + 1)]) (hNA : AI σ (kn + 1) 9 nb) (hn : n ≤ 9) (hw : ∀ p, nb p < 512) (hO : OB σ k 10 [.ref (k + 1)]) (hA : AI σ (k + 1) 9 kp) (hkw : ∀ x, kp x < 512) (hs : s < 512) (hh : h < 9) (hr : r < 9) : Cl G mX10_answers d [.ref k, .ref kn, .int (nI s), .int (nI h), .int (nI r)] σ 0 0 (pI fun z s2 => z = bI (anT nb s kp h r 9 0 = true) ∧ s2 = σ) := by
  obtain ⟨d0, hdd⟩ : ∃ e, d = e + 1 := ⟨d - 1, by omega⟩
  refine cl_of (by decide) (by simp [Value.category]) (Nat.le_of_ble_eq_true rfl) ?_
  show Wp G mX10_answers d 0 [.ref k, .ref kn, .int (nI s), .int (nI h), .int (nI r), .double 0, .double 0, .double 0] [] σ 0 0 _
  refine wp_aload_n (atd dX10_answers 0 rfl) rfl rfl ?_
  refine wp_iload (atd dX10_answers 1 rfl) rfl ?_
  refine wp_cVi hdd [_] (atd dX10_answers 2 rfl) iX3_around lX10_33 rfl rfl (Nat.le_of_ble_eq_true rfl) hN rfl (eX3_around (by omega) hN hNA hn hw (by omega)) (fun r_3 s_3 h_3 => ?_)
  obtain ⟨rfl, e_3⟩ := h_3
  obtain rfl := e_3.symm
  refine wp_istore (atd dX10_answers 3 rfl) (Nat.le_of_ble_eq_true rfl) ?_
  refine wp_aload_n (atd dX10_answers 4 rfl) rfl rfl ?_
  refine wp_iload_n (atd dX10_answers 5 rfl) rfl ?_
  refine wp_cVi hdd [_] (atd dX10_answers 6 rfl) iX3_around lX10_33 rfl rfl (Nat.le_of_ble_eq_true rfl) hN rfl (eX3_around (by omega) hN hNA hn hw (by omega)) (fun r_10 s_10 h_10 => ?_)
  obtain ⟨rfl, e_10⟩ := h_10
  obtain rfl := e_10.symm
  refine wp_iload_n (atd dX10_answers 7 rfl) rfl ?_
  refine wp_iandN (atd dX10_answers 8 rfl) ?_
  refine wp_istore (atd dX10_answers 9 rfl) (Nat.le_of_ble_eq_true rfl) ?_
  refine wp_iconst (v := nI 0) (atd dX10_answers 10 rfl) (by decide) ?_
  refine wp_istore (atd dX10_answers 11 rfl) (Nat.le_of_ble_eq_true rfl) ?_
  exact lX10_answers (by omega) hN hNA hn hw hO hA hkw hs hh hr 9 0 (by omega) rfl
theorem lX10_drop1 {G : Gx} {d : Nat} {Q : Option Value → Hp → Prop} (hd : 2 ≤ d) {σ0 : Hp} {kn n k s : Nat} {nb : Nat → Nat} {C : Cpl} (hNt : isNet n nb) (hw : ∀ p, nb p < 512) (hs : s < 512) (hap : kn + 1 < k ∨ k + 1 < kn) {h : Nat} (hh : h < 9) (hk : ∀ (σ : Hp) (kp : Nat → Nat) (C1 : Cpl) (t : Nat), OB σ kn 3 [.int (nI n), .ref (kn + 1)] → AI σ (kn + 1) 9 nb → OB σ k 10 [.ref (k + 1)] → AI σ (k + 1) 9 kp → fr [k + 1] σ0 σ → KB kp C1 n → UP nb n s C1 → rdG nb n s C C1 t h n → Wp G mX10_dropCouples d 77 [.ref k, .ref kn, .int (nI s), .int (nI t), .int (nI h), .int (nI n)] [] σ 0 0 Q) : ∀ (x : Nat) (r : Nat) (σ : Hp) (kp : Nat → Nat) (C1 : Cpl) (t : Nat), r + x = n → OB σ kn 3 [.int (nI n), .ref (kn + 1)] → AI σ (kn + 1) 9 nb → OB σ k 10 [.ref (k + 1)] → AI σ (k + 1) 9 kp → fr [k + 1] σ0 σ → KB kp C1 n → UP nb n s C1 → rdG nb n s C C1 t h r → Wp G mX10_dropCouples d 15 [.ref k, .ref kn, .int (nI s), .int (nI t), .int (nI h), .int (nI r)] [] σ 0 0 Q := by
  obtain ⟨d0, hdd⟩ : ∃ e, d = e + 1 := ⟨d - 1, by omega⟩
  intro x
  induction x with
  | zero =>
    have hn := hNt.1
    intro r σ kp C1 t hi hN hNA hO hA hF hK hU hg
    obtain rfl : r = n := by omega
    refine wp_iload (atd dX10_dropCouples 9 rfl) rfl ?_
    refine wp_aload_n (atd dX10_dropCouples 10 rfl) rfl rfl ?_
    refine wp_get fX10_25 (atd dX10_dropCouples 11 rfl) hN rfl ?_
    refine wp_icmpN_ge (tgt := 77) (atd dX10_dropCouples 12 rfl) (by decide) (by omega) (by omega) (fun c_21 => ?_) (fun c_21 => ?_)
    ·
      exact hk σ kp C1 t hN hNA hO hA hF hK hU hg
    · exfalso; omega
  | succ x ih =>
    have hn := hNt.1
    intro r σ kp C1 t hi hN hNA hO hA hF hK hU hg
    refine wp_iload (atd dX10_dropCouples 9 rfl) rfl ?_
    refine wp_aload_n (atd dX10_dropCouples 10 rfl) rfl rfl ?_
    refine wp_get fX10_25 (atd dX10_dropCouples 11 rfl) hN rfl ?_
    refine wp_icmpN_ge (tgt := 77) (atd dX10_dropCouples 12 rfl) (by decide) (by omega) (by omega) (fun c_21 => ?_) (fun c_21 => ?_)
    · exfalso; omega
    ·
      refine wp_aload_n (atd dX10_dropCouples 13 rfl) rfl rfl ?_
      refine wp_get fX10_9 (atd dX10_dropCouples 14 rfl) hO rfl ?_
      refine wp_iload (atd dX10_dropCouples 15 rfl) rfl ?_
      refine wp_ialdA (atd dX10_dropCouples 16 rfl) hA (by omega) (Nat.le_of_ble_eq_true rfl) ?_
      refine wp_iload (atd dX10_dropCouples 17 rfl) rfl ?_
      refine wp_ishrN (atd dX10_dropCouples 18 rfl) (by have := hK.1 h; omega) (by omega) ?_
      refine wp_iconst (v := nI 1) (atd dX10_dropCouples 19 rfl) (by decide) ?_
      refine wp_iandN (atd dX10_dropCouples 20 rfl) ?_
      refine wp_iconst (v := nI 1) (atd dX10_dropCouples 21 rfl) (by decide) ?_
      refine wp_icmpN_ne (tgt := 71) (atd dX10_dropCouples 22 rfl) (by decide) (by have := and1_lt (kp h >>> r); omega) (by omega) (fun c_37 => ?_) (fun c_37 => ?_)
      ·
        refine wp_iincN (c := 1) (atd dX10_dropCouples 44 rfl) rfl ?_
        refine wp_goto (tgt := 15) (atd dX10_dropCouples 45 rfl) (by decide) ?_
        exact ih (r + 1) _ _ _ _ (by omega) hN hNA hO hA hF hK hU (hg.step2 (fun h1 h2 hc => absurd ((tb_iff _ _).mpr ((hK.f (by omega) h1 h2).trans hc)) c_37))
      ·
        refine wp_aload_n (atd dX10_dropCouples 23 rfl) rfl rfl ?_
        refine wp_aload_n (atd dX10_dropCouples 24 rfl) rfl rfl ?_
        refine wp_iload_n (atd dX10_dropCouples 25 rfl) rfl ?_
        refine wp_iload (atd dX10_dropCouples 26 rfl) rfl ?_
        refine wp_iload (atd dX10_dropCouples 27 rfl) rfl ?_
        refine wp_cVi hdd [_, _, _, _] (atd dX10_dropCouples 28 rfl) iX10_answers lX10_29 rfl rfl (Nat.le_of_ble_eq_true rfl) hO rfl (eX10_answers (by omega) hN hNA hn hw hO hA hK.1 hs (by omega) (by omega)) (fun r_47 s_47 h_47 => ?_)
        obtain ⟨rfl, e_47⟩ := h_47
        obtain rfl := e_47.symm
        refine wp_ifB_ne (tgt := 71) (atd dX10_dropCouples 29 rfl) (by decide) (fun c_50 => ?_) (fun c_50 => ?_)
        ·
          refine wp_iincN (c := 1) (atd dX10_dropCouples 44 rfl) rfl ?_
          refine wp_goto (tgt := 15) (atd dX10_dropCouples 45 rfl) (by decide) ?_
          exact ih (r + 1) _ _ _ _ (by omega) hN hNA hO hA hF hK hU (hg.step2 (fun h1 h2 hc => (an_hld hNt hK h1 h2).mp c_50))
        ·
          refine wp_aload_n (atd dX10_dropCouples 30 rfl) rfl rfl ?_
          refine wp_get fX10_9 (atd dX10_dropCouples 31 rfl) hO rfl ?_
          refine wp_iload (atd dX10_dropCouples 32 rfl) rfl ?_
          refine wp_dup2 (atd dX10_dropCouples 33 rfl) rfl rfl ?_
          refine wp_ialdA (atd dX10_dropCouples 34 rfl) hA (by omega) (Nat.le_of_ble_eq_true rfl) ?_
          refine wp_iconst (v := nI 1) (atd dX10_dropCouples 35 rfl) (by decide) ?_
          refine wp_iload (atd dX10_dropCouples 36 rfl) rfl ?_
          refine wp_ishl1 (atd dX10_dropCouples 37 rfl) (by omega) ?_
          refine wp_iconst (v := -1) (atd dX10_dropCouples 38 rfl) (by decide) ?_
          refine wp_ixor (atd dX10_dropCouples 39 rfl) ?_
          refine wp_iandC (atd dX10_dropCouples 40 rfl) ?_
          refine wp_iastA (atd dX10_dropCouples 41 rfl) hA (by omega) (Nat.le_of_ble_eq_true rfl) (fun σ f_68 hA => ?_)
          have hN := hN.fr f_68 (by first | decide | (simp only [List.mem_cons, List.not_mem_nil, or_false]; omega))
          have hNA := hNA.fr f_68 (by first | decide | (simp only [List.mem_cons, List.not_mem_nil, or_false]; omega))
          have hO := hO.fr f_68 (by first | decide | (simp only [List.mem_cons, List.not_mem_nil, or_false]; omega))
          have hF := hF.tr f_68 (by simp)
          refine wp_iconst (v := nI 1) (atd dX10_dropCouples 42 rfl) (by decide) ?_
          refine wp_istore_n (atd dX10_dropCouples 43 rfl) (Nat.le_of_ble_eq_true rfl) ?_
          refine wp_iincN (c := 1) (atd dX10_dropCouples 44 rfl) rfl ?_
          refine wp_goto (tgt := 15) (atd dX10_dropCouples 45 rfl) (by decide) ?_
          obtain ⟨z1, z2, z3⟩ := hK.t (by omega) ((tb_iff _ _).mp c_37)
          exact ih (r + 1) _ _ _ _ (by omega) hN hNA hO hA hF (hK.del (by omega)) (hU.del (fun e => c_50 ((an_hld hNt hK z1 z2).mpr e))) (hg.del z1 z2 z3)
theorem lX10_drop {G : Gx} {d : Nat} (hd : 2 ≤ d) {σ0 : Hp} {kn n k s : Nat} {nb : Nat → Nat} {C : Cpl} (hNt : isNet n nb) (hw : ∀ p, nb p < 512) (hs : s < 512) (hap : kn + 1 < k ∨ k + 1 < kn) : ∀ (x : Nat) (h : Nat) (σ : Hp) (kp : Nat → Nat) (C1 : Cpl) (t : Nat) (y : Value), h + x = 9 → OB σ kn 3 [.int (nI n), .ref (kn + 1)] → AI σ (kn + 1) 9 nb → OB σ k 10 [.ref (k + 1)] → AI σ (k + 1) 9 kp → fr [k + 1] σ0 σ → KB kp C1 n → UP nb n s C1 → rdG nb n s C C1 t h 0 → Wp G mX10_dropCouples d 5 [.ref k, .ref kn, .int (nI s), .int (nI t), .int (nI h), y] [] σ 0 0 (pI fun z s2 => ∃ kp1 C1 t, z = nI t ∧ fr [k + 1] σ0 s2 ∧ AI s2 (k + 1) 9 kp1 ∧ KB kp1 C1 n ∧ UP nb n s C1 ∧ rdG nb n s C C1 t 9 0) := by
  obtain ⟨d0, hdd⟩ : ∃ e, d = e + 1 := ⟨d - 1, by omega⟩
  intro x
  induction x with
  | zero =>
    have hn := hNt.1
    intro h σ kp C1 t y hi hN hNA hO hA hF hK hU hg
    obtain rfl : h = 9 := by omega
    refine wp_iload (atd dX10_dropCouples 4 rfl) rfl ?_
    refine wp_bipush (v := nI 9) (atd dX10_dropCouples 5 rfl) (by decide) ?_
    refine wp_icmpN_ge (tgt := 83) (atd dX10_dropCouples 6 rfl) (by decide) (by omega) (by omega) (fun c_9 => ?_) (fun c_9 => ?_)
    ·
      refine wp_iload_n (atd dX10_dropCouples 48 rfl) rfl ?_
      refine wp_iretz (atd dX10_dropCouples 49 rfl) rfl (by rcases hg with z | z <;> (obtain ⟨z, -⟩ := z; subst z; decide)) ?_
      exact ⟨kp, C1, t, rfl, hF, hA, hK, hU, hg⟩
    · exfalso; omega
  | succ x ih =>
    have hn := hNt.1
    intro h σ kp C1 t y hi hN hNA hO hA hF hK hU hg
    refine wp_iload (atd dX10_dropCouples 4 rfl) rfl ?_
    refine wp_bipush (v := nI 9) (atd dX10_dropCouples 5 rfl) (by decide) ?_
    refine wp_icmpN_ge (tgt := 83) (atd dX10_dropCouples 6 rfl) (by decide) (by omega) (by omega) (fun c_9 => ?_) (fun c_9 => ?_)
    · exfalso; omega
    ·
      refine wp_iconst (v := nI 0) (atd dX10_dropCouples 7 rfl) (by decide) ?_
      refine wp_istore (atd dX10_dropCouples 8 rfl) (Nat.le_of_ble_eq_true rfl) ?_
      refine lX10_drop1 (σ0 := σ0) (C := C) (h := h) (by omega) hNt hw hs hap (by omega) (fun σ kp C1 t hN hNA hO hA hF hK hU hg => ?_) n 0 σ kp C1 t (by omega) hN hNA hO hA hF hK hU hg
      refine wp_iincN (c := 1) (atd dX10_dropCouples 46 rfl) rfl ?_
      refine wp_goto (tgt := 5) (atd dX10_dropCouples 47 rfl) (by decide) ?_
      exact ih (h + 1) σ kp C1 t _ (by omega) hN hNA hO hA hF hK hU hg.row
theorem eX10_dropCouples {G : Gx} {d : Nat} {σ : Hp} (hd : 2 ≤ d) {kn n k s : Nat} {nb kp : Nat → Nat} {C : Cpl} (hNt : isNet n nb) (hw : ∀ p, nb p < 512) (hs : s < 512) (hap : kn + 1 < k ∨ k + 1 < kn) (hN : OB σ kn 3 [.int (nI n), .ref (kn + 1)]) (hNA : AI σ (kn + 1) 9 nb) (hO : OB σ k 10 [.ref (k + 1)]) (hA : AI σ (k + 1) 9 kp) (hK : KB kp C n) (hU : UP nb n s C) : Cl G mX10_dropCouples d [.ref k, .ref kn, .int (nI s)] σ 0 0 (pI fun z s2 => ∃ kp1 C1 t, z = nI t ∧ fr [k + 1] σ s2 ∧ AI s2 (k + 1) 9 kp1 ∧ KB kp1 C1 n ∧ UP nb n s C1 ∧ rdG nb n s C C1 t 9 0) := by
  obtain ⟨d0, hdd⟩ : ∃ e, d = e + 1 := ⟨d - 1, by omega⟩
  refine cl_of (by decide) (by simp [Value.category]) (Nat.le_of_ble_eq_true rfl) ?_
  show Wp G mX10_dropCouples d 0 [.ref k, .ref kn, .int (nI s), .double 0, .double 0, .double 0] [] σ 0 0 _
  refine wp_iconst (v := nI 0) (atd dX10_dropCouples 0 rfl) (by decide) ?_
  refine wp_istore_n (atd dX10_dropCouples 1 rfl) (Nat.le_of_ble_eq_true rfl) ?_
  refine wp_iconst (v := nI 0) (atd dX10_dropCouples 2 rfl) (by decide) ?_
  refine wp_istore (atd dX10_dropCouples 3 rfl) (Nat.le_of_ble_eq_true rfl) ?_
  exact lX10_drop (by omega) hNt hw hs hap 9 0 σ kp C 0 _ (by omega) hN hNA hO hA fr.rf hK hU (Or.inr ⟨rfl, rfl, fun x y hxy => by omega⟩)
def kp0 (n s h : Nat) : Nat := if s.testBit h = true then dif (2 ^ n - 1) s else 0
theorem KB0 {n s : Nat} {kp : Nat → Nat} (hn : n ≤ 9) (hs : s < 2 ^ n) : KB (kp0 n s) (C0 s) n := by
  refine ⟨fun h => ?_, fun h r hh => ?_⟩
  · unfold kp0
    split
    · exact dif_lt9 (by have := pow_le9 hn; omega)
    · decide
  · unfold kp0 C0
    by_cases e : s.testBit h = true
    · rw [if_pos e, dif_bit, Nat.testBit_two_pow_sub_one, e, decide_eq_true (bit_lt hs e)]; rfl
    · rw [if_neg e, Nat.zero_testBit]
      cases z : s.testBit h with
      | true => exact absurd z e
      | false => simp
theorem lX10_settle1 {G : Gx} {d : Nat} {Q : Option Value → Hp → Prop} {σ0 : Hp} {kn n k s : Nat} {nb : Nat → Nat} (hNt : isNet n nb) (hw : ∀ p, nb p < 512) (hs : s < 2 ^ n) (hap : kn + 1 < k ∨ k + 1 < kn) {y : Value} (hk : ∀ (σ : Hp), OB σ kn 3 [.int (nI n), .ref (kn + 1)] → AI σ (kn + 1) 9 nb → OB σ k 10 [.ref (k + 1)] → AI σ (k + 1) 9 (kp0 n s) → fr [k + 1] σ0 σ → Wp G mX10_settle d 47 [.ref k, .ref kn, .int (nI s), .int (nI (dif (2 ^ n - 1) s)), .int (nI 9), y] [] σ 0 0 Q) : ∀ (x : Nat) (h : Nat) (σ : Hp) (kp : Nat → Nat), h + x = 9 → OB σ kn 3 [.int (nI n), .ref (kn + 1)] → AI σ (kn + 1) 9 nb → OB σ k 10 [.ref (k + 1)] → AI σ (k + 1) 9 kp → fr [k + 1] σ0 σ → (∀ j, j < h → kp j = kp0 n s j) → Wp G mX10_settle d 12 [.ref k, .ref kn, .int (nI s), .int (nI (dif (2 ^ n - 1) s)), .int (nI h), y] [] σ 0 0 Q := by
  intro x
  induction x with
  | zero =>
    have hn := hNt.1
    have h9 := pow_le9 hn
    intro h σ kp hi hN hNA hO hA hF hg
    obtain rfl : h = 9 := by omega
    refine wp_iload (atd dX10_settle 9 rfl) rfl ?_
    refine wp_bipush (v := nI 9) (atd dX10_settle 10 rfl) (by decide) ?_
    refine wp_icmpN_ge (tgt := 47) (atd dX10_settle 11 rfl) (by decide) (by omega) (by omega) (fun c_16 => ?_) (fun c_16 => ?_)
    ·
      exact hk σ hN hNA hO (hA.cg (fun j hj => hg j hj)) hF
    · exfalso; omega
  | succ x ih =>
    have hn := hNt.1
    have h9 := pow_le9 hn
    intro h σ kp hi hN hNA hO hA hF hg
    refine wp_iload (atd dX10_settle 9 rfl) rfl ?_
    refine wp_bipush (v := nI 9) (atd dX10_settle 10 rfl) (by decide) ?_
    refine wp_icmpN_ge (tgt := 47) (atd dX10_settle 11 rfl) (by decide) (by omega) (by omega) (fun c_16 => ?_) (fun c_16 => ?_)
    · exfalso; omega
    ·
      refine wp_aload_n (atd dX10_settle 12 rfl) rfl rfl ?_
      refine wp_get fX10_9 (atd dX10_settle 13 rfl) hO rfl ?_
      refine wp_iload (atd dX10_settle 14 rfl) rfl ?_
      refine wp_iload_n (atd dX10_settle 15 rfl) rfl ?_
      refine wp_iload (atd dX10_settle 16 rfl) rfl ?_
      refine wp_ishrN (atd dX10_settle 17 rfl) (by omega) (by omega) ?_
      refine wp_iconst (v := nI 1) (atd dX10_settle 18 rfl) (by decide) ?_
      refine wp_iandN (atd dX10_settle 19 rfl) ?_
      refine wp_iconst (v := nI 1) (atd dX10_settle 20 rfl) (by decide) ?_
      refine wp_icmpN_ne (tgt := 39) (atd dX10_settle 21 rfl) (by decide) (by have := and1_lt (s >>> h); omega) (by omega) (fun c_32 => ?_) (fun c_32 => ?_)
      ·
        refine wp_iconst (v := nI 0) (atd dX10_settle 24 rfl) (by decide) ?_
        refine wp_iastA (atd dX10_settle 25 rfl) hA (by omega) (Nat.le_of_ble_eq_true rfl) (fun σ f_40 hA => ?_)
        have hN := hN.fr f_40 (by first | decide | (simp only [List.mem_cons, List.not_mem_nil, or_false]; omega))
        have hNA := hNA.fr f_40 (by first | decide | (simp only [List.mem_cons, List.not_mem_nil, or_false]; omega))
        have hO := hO.fr f_40 (by first | decide | (simp only [List.mem_cons, List.not_mem_nil, or_false]; omega))
        have hF := hF.tr f_40 (by simp)
        refine wp_iincN (c := 1) (atd dX10_settle 26 rfl) rfl ?_
        refine wp_goto (tgt := 12) (atd dX10_settle 27 rfl) (by decide) ?_
        exact ih (h + 1) σ _ (by omega) hN hNA hO hA hF (fun j hj => by
        by_cases e : j = h
        · subst e; simp only [va_up, if_true, kp0]; rw [if_neg (fun z => c_32 ((tb_iff _ _).mpr z))]
        · simp only [va_up, if_neg e]; exact hg j (by omega))
      ·
        refine wp_iload_n (atd dX10_settle 22 rfl) rfl ?_
        refine wp_goto (tgt := 40) (atd dX10_settle 23 rfl) (by decide) ?_
        refine wp_iastA (atd dX10_settle 25 rfl) hA (by omega) (Nat.le_of_ble_eq_true rfl) (fun σ f_40 hA => ?_)
        have hN := hN.fr f_40 (by first | decide | (simp only [List.mem_cons, List.not_mem_nil, or_false]; omega))
        have hNA := hNA.fr f_40 (by first | decide | (simp only [List.mem_cons, List.not_mem_nil, or_false]; omega))
        have hO := hO.fr f_40 (by first | decide | (simp only [List.mem_cons, List.not_mem_nil, or_false]; omega))
        have hF := hF.tr f_40 (by simp)
        refine wp_iincN (c := 1) (atd dX10_settle 26 rfl) rfl ?_
        refine wp_goto (tgt := 12) (atd dX10_settle 27 rfl) (by decide) ?_
        exact ih (h + 1) σ _ (by omega) hN hNA hO hA hF (fun j hj => by
        by_cases e : j = h
        · subst e; simp only [va_up, if_true, kp0]; rw [if_pos ((tb_iff _ _).mp c_32)]
        · simp only [va_up, if_neg e]; exact hg j (by omega))
theorem lX10_settle2 {G : Gx} {d : Nat} (hd : 3 ≤ d) {σ0 : Hp} {kn n k s : Nat} {nb : Nat → Nat} (hNt : isNet n nb) (hw : ∀ p, nb p < 512) (hs : s < 2 ^ n) (hap : kn + 1 < k ∨ k + 1 < kn) {y : Value} : ∀ (x : Nat) (i : Nat) (σ : Hp) (kp : Nat → Nat) (C : Cpl) (t : Nat), i + x = 82 → OB σ kn 3 [.int (nI n), .ref (kn + 1)] → AI σ (kn + 1) 9 nb → OB σ k 10 [.ref (k + 1)] → AI σ (k + 1) 9 kp → fr [k + 1] σ0 σ → KB kp C n → UP nb n s C → ((t = 1 ∧ nc (cW C) n n + i ≤ 81) ∨ (t = 0 ∧ PF nb n s C)) → Wp G mX10_settle d 53 [.ref k, .ref kn, .int (nI s), y, .int (nI t), .int (nI i)] [] σ 0 0 (pV fun s2 => fr [k + 1] σ0 s2 ∧ ∃ kp1, AI s2 (k + 1) 9 kp1 ∧ KB kp1 (gdB nb n s) n) := by
  obtain ⟨d0, hdd⟩ : ∃ e, d = e + 1 := ⟨d - 1, by omega⟩
  intro x
  induction x with
  | zero =>
    have hn := hNt.1
    have h9 := pow_le9 hn
    intro i σ kp C t hi hN hNA hO hA hF hK hU ht
    refine wp_iload (atd dX10_settle 32 rfl) rfl ?_
    refine wp_bipush (v := nI 81) (atd dX10_settle 33 rfl) (by decide) ?_
    refine wp_icmpN_gt (tgt := 79) (atd dX10_settle 34 rfl) (by decide) (by omega) (by omega) (fun c_57 => ?_) (fun c_57 => ?_)
    ·
      refine wp_vretv (atd dX10_settle 44 rfl) rfl ?_
      refine ⟨hF, kp, hA, ?_⟩
      rcases ht with ⟨z1, z2⟩ | ⟨z1, z2⟩
      · omega
      · exact hK.cg (fun h r hh hr => gd_of hU z2 hh hr)
    · exfalso; omega
  | succ x ih =>
    have hn := hNt.1
    have h9 := pow_le9 hn
    intro i σ kp C t hi hN hNA hO hA hF hK hU ht
    refine wp_iload (atd dX10_settle 32 rfl) rfl ?_
    refine wp_bipush (v := nI 81) (atd dX10_settle 33 rfl) (by decide) ?_
    refine wp_icmpN_gt (tgt := 79) (atd dX10_settle 34 rfl) (by decide) (by omega) (by omega) (fun c_57 => ?_) (fun c_57 => ?_)
    · exfalso; omega
    ·
      refine wp_iload (atd dX10_settle 35 rfl) rfl ?_
      refine wp_ifN_eq (tgt := 79) (atd dX10_settle 36 rfl) (by decide) (by omega) (fun c_62 => ?_) (fun c_62 => ?_)
      ·
        refine wp_vretv (atd dX10_settle 44 rfl) rfl ?_
        refine ⟨hF, kp, hA, ?_⟩
        rcases ht with ⟨z1, z2⟩ | ⟨z1, z2⟩
        · omega
        · exact hK.cg (fun h r hh hr => gd_of hU z2 hh hr)
      ·
        refine wp_aload_n (atd dX10_settle 37 rfl) rfl rfl ?_
        refine wp_aload_n (atd dX10_settle 38 rfl) rfl rfl ?_
        refine wp_iload_n (atd dX10_settle 39 rfl) rfl ?_
        refine wp_cVi hdd [_, _] (atd dX10_settle 40 rfl) iX10_dropCouples lX10_21 rfl rfl (Nat.le_of_ble_eq_true rfl) hO rfl (eX10_dropCouples (by omega) hNt hw (by omega) hap hN hNA hO hA hK hU) (fun r_68 s_68 h_68 => ?_)
        obtain ⟨kp1, C1, t1, rfl, f_68, hA, hK1, hU1, hg⟩ := h_68
        have hN := hN.fr f_68 (by first | decide | (simp only [List.mem_cons, List.not_mem_nil, or_false]; omega))
        have hNA := hNA.fr f_68 (by first | decide | (simp only [List.mem_cons, List.not_mem_nil, or_false]; omega))
        have hO := hO.fr f_68 (by first | decide | (simp only [List.mem_cons, List.not_mem_nil, or_false]; omega))
        have hF := hF.tr f_68 (by simp)
        refine wp_istore (atd dX10_settle 41 rfl) (Nat.le_of_ble_eq_true rfl) ?_
        refine wp_iincN (c := 1) (atd dX10_settle 42 rfl) rfl ?_
        refine wp_goto (tgt := 53) (atd dX10_settle 43 rfl) (by decide) ?_
        refine ih (i + 1) _ kp1 C1 t1 (by omega) hN hNA hO hA hF hK1 hU1 ?_
        rcases ht with ⟨z1, z2⟩ | ⟨z1, z2⟩
        · rcases hg with ⟨g1, g2⟩ | ⟨g1, g2, g3⟩
          · exact Or.inl ⟨g1, by omega⟩
          · refine Or.inr ⟨g1, ?_⟩
            subst g2
            exact fun h r hh hr hc => ⟨(hU1.1 h r hh hr hc).1, (hU1.1 h r hh hr hc).2, g3 h r (Or.inl (by omega)) hh hr hc⟩
        · omega
theorem eX10_settle {G : Gx} {d : Nat} {σ : Hp} (hd : 3 ≤ d) {kn n k s : Nat} {nb kp : Nat → Nat} (hNt : isNet n nb) (hw : ∀ p, nb p < 512) (hs : s < 2 ^ n) (hap : kn + 1 < k ∨ k + 1 < kn) (hN : OB σ kn 3 [.int (nI n), .ref (kn + 1)]) (hNA : AI σ (kn + 1) 9 nb) (hO : OB σ k 10 [.ref (k + 1)]) (hA : AI σ (k + 1) 9 kp) : Cl G mX10_settle d [.ref k, .ref kn, .int (nI s)] σ 0 0 (pV fun s2 => fr [k + 1] σ s2 ∧ ∃ kp1, AI s2 (k + 1) 9 kp1 ∧ KB kp1 (gdB nb n s) n) := by
  obtain ⟨d0, hdd⟩ : ∃ e, d = e + 1 := ⟨d - 1, by omega⟩
  refine cl_of (by decide) (by simp [Value.category]) (Nat.le_of_ble_eq_true rfl) ?_
  show Wp G mX10_settle d 0 [.ref k, .ref kn, .int (nI s), .double 0, .double 0, .double 0] [] σ 0 0 _
  refine wp_aload_n (atd dX10_settle 0 rfl) rfl rfl ?_
  refine wp_cVi hdd [] (atd dX10_settle 1 rfl) iX3_all lX10_15 rfl rfl (Nat.le_of_ble_eq_true rfl) hN rfl (eX3_all (by omega) hN hNt.1) (fun r_1 s_1 h_1 => ?_)
  obtain ⟨rfl, e_1⟩ := h_1
  obtain rfl := e_1.symm
  refine wp_iload_n (atd dX10_settle 2 rfl) rfl ?_
  refine wp_iconst (v := -1) (atd dX10_settle 3 rfl) (by decide) ?_
  refine wp_ixor (atd dX10_settle 4 rfl) ?_
  refine wp_iandC (atd dX10_settle 5 rfl) ?_
  refine wp_istore_n (atd dX10_settle 6 rfl) (Nat.le_of_ble_eq_true rfl) ?_
  refine wp_iconst (v := nI 0) (atd dX10_settle 7 rfl) (by decide) ?_
  refine wp_istore (atd dX10_settle 8 rfl) (Nat.le_of_ble_eq_true rfl) ?_
  refine lX10_settle1 (σ0 := σ) hNt hw hs hap (fun s1 hN hNA hO hA hF => ?_) 9 0 σ kp (by omega) hN hNA hO hA fr.rf (fun j hj => absurd hj (Nat.not_lt_zero j))
  refine wp_iconst (v := nI 1) (atd dX10_settle 28 rfl) (by decide) ?_
  refine wp_istore (atd dX10_settle 29 rfl) (Nat.le_of_ble_eq_true rfl) ?_
  refine wp_iconst (v := nI 0) (atd dX10_settle 30 rfl) (by decide) ?_
  refine wp_istore (atd dX10_settle 31 rfl) (Nat.le_of_ble_eq_true rfl) ?_
  exact lX10_settle2 (by omega) hNt hw hs hap 82 0 _ _ (C0 s) 1 (by omega) hN hNA hO hA hF (KB0 (kp := kp) hNt.1 hs) C0_UP (Or.inl ⟨rfl, by have h1 := @nc_bound (cW (C0 s)) n n; have h2 : n * n ≤ 9 * 9 := Nat.mul_le_mul hNt.1 hNt.1; omega⟩)
theorem lX10_couples {G : Gx} {d : Nat} {σ : Hp} (hd : 1 ≤ d) {k v : Nat} {kp : Nat → Nat} (hO : OB σ k 10 [.ref (k + 1)]) (hA : AI σ (k + 1) 9 kp) (hkw : ∀ x, kp x < 512) : ∀ (x : Nat) (h w : Nat), h + x = 9 → fl (fun h a => a + cnt (kp h)) x h w = v → Wp G mX10_couples d 4 [.ref k, .int (nI w), .int (nI h)] [] σ 0 0 (pI fun z s2 => z = nI v ∧ s2 = σ) := by
  obtain ⟨d0, hdd⟩ : ∃ e, d = e + 1 := ⟨d - 1, by omega⟩
  intro x
  induction x with
  | zero =>
    intro h w hi hv
    refine wp_iload_n (atd dX10_couples 4 rfl) rfl ?_
    refine wp_bipush (v := nI 9) (atd dX10_couples 5 rfl) (by decide) ?_
    refine wp_icmpN_ge (tgt := 28) (atd dX10_couples 6 rfl) (by decide) (by omega) (by omega) (fun c_7 => ?_) (fun c_7 => ?_)
    ·
      refine wp_iload_n (atd dX10_couples 17 rfl) rfl ?_
      refine wp_ireti (atd dX10_couples 18 rfl) rfl ?_
      exact ⟨by rw [← hv]; rfl, rfl⟩
    · exfalso; omega
  | succ x ih =>
    intro h w hi hv
    refine wp_iload_n (atd dX10_couples 4 rfl) rfl ?_
    refine wp_bipush (v := nI 9) (atd dX10_couples 5 rfl) (by decide) ?_
    refine wp_icmpN_ge (tgt := 28) (atd dX10_couples 6 rfl) (by decide) (by omega) (by omega) (fun c_7 => ?_) (fun c_7 => ?_)
    · exfalso; omega
    ·
      refine wp_iload_n (atd dX10_couples 7 rfl) rfl ?_
      refine wp_aload_n (atd dX10_couples 8 rfl) rfl rfl ?_
      refine wp_get fX10_9 (atd dX10_couples 9 rfl) hO rfl ?_
      refine wp_iload_n (atd dX10_couples 10 rfl) rfl ?_
      refine wp_ialdA (atd dX10_couples 11 rfl) hA (by omega) (Nat.le_of_ble_eq_true rfl) ?_
      refine wp_cSi hdd [_] (atd dX10_couples 12 rfl) iJ6_bitCount_0f7a4 lX10_37 rfl rfl (Nat.le_of_ble_eq_true rfl) (eJ6_bitCount (by omega) (hkw h)) (fun r_17 s_17 h_17 => ?_)
      obtain ⟨rfl, e_17⟩ := h_17
      obtain rfl := e_17.symm
      refine wp_iaddN (atd dX10_couples 13 rfl) ?_
      refine wp_istore_n (atd dX10_couples 14 rfl) (Nat.le_of_ble_eq_true rfl) ?_
      refine wp_iincN (c := 1) (atd dX10_couples 15 rfl) rfl ?_
      refine wp_goto (tgt := 4) (atd dX10_couples 16 rfl) (by decide) ?_
      exact ih (h + 1) _ (by omega) (by rw [← hv]; rfl)
theorem eX10_couples {G : Gx} {d : Nat} {σ : Hp} (hd : 1 ≤ d) {k : Nat} {kp : Nat → Nat} (hO : OB σ k 10 [.ref (k + 1)]) (hA : AI σ (k + 1) 9 kp) (hkw : ∀ x, kp x < 512) : Cl G mX10_couples d [.ref k] σ 0 0 (pI fun z s2 => z = nI (fl (fun h a => a + cnt (kp h)) 9 0 0) ∧ s2 = σ) := by
  obtain ⟨d0, hdd⟩ : ∃ e, d = e + 1 := ⟨d - 1, by omega⟩
  refine cl_of (by decide) (by simp [Value.category]) (Nat.le_of_ble_eq_true rfl) ?_
  show Wp G mX10_couples d 0 [.ref k, .double 0, .double 0] [] σ 0 0 _
  refine wp_iconst (v := nI 0) (atd dX10_couples 0 rfl) (by decide) ?_
  refine wp_istore_n (atd dX10_couples 1 rfl) (Nat.le_of_ble_eq_true rfl) ?_
  refine wp_iconst (v := nI 0) (atd dX10_couples 2 rfl) (by decide) ?_
  refine wp_istore_n (atd dX10_couples 3 rfl) (Nat.le_of_ble_eq_true rfl) ?_
  exact lX10_couples (by omega) hO hA hkw 9 0 0 (by omega) rfl
theorem eX10_isCouple {G : Gx} {d : Nat} {σ : Hp} (hd : 0 ≤ d) {k h r : Nat} {kp : Nat → Nat} (hO : OB σ k 10 [.ref (k + 1)]) (hA : AI σ (k + 1) 9 kp) (hkw : ∀ x, kp x < 512) (hh : h < 9) (hr : r < 9) : Cl G mX10_isCouple d [.ref k, .int (nI h), .int (nI r)] σ 0 0 (pI fun z s2 => z = bI ((kp h).testBit r = true) ∧ s2 = σ) := by
  refine cl_of (by decide) (by simp [Value.category]) (Nat.le_of_ble_eq_true rfl) ?_
  show Wp G mX10_isCouple d 0 [.ref k, .int (nI h), .int (nI r)] [] σ 0 0 _
  refine wp_iload_n (atd dX10_isCouple 0 rfl) rfl ?_
  refine wp_ifN_lt (tgt := 28) (atd dX10_isCouple 1 rfl) (by decide) (by omega) ?_
  refine wp_iload_n (atd dX10_isCouple 2 rfl) rfl ?_
  refine wp_bipush (v := nI 9) (atd dX10_isCouple 3 rfl) (by decide) ?_
  refine wp_icmpN_ge (tgt := 28) (atd dX10_isCouple 4 rfl) (by decide) (by omega) (by omega) (fun c_7 => ?_) (fun c_7 => ?_)
  · exfalso; omega
  ·
    refine wp_aload_n (atd dX10_isCouple 5 rfl) rfl rfl ?_
    refine wp_get fX10_9 (atd dX10_isCouple 6 rfl) hO rfl ?_
    refine wp_iload_n (atd dX10_isCouple 7 rfl) rfl ?_
    refine wp_ialdA (atd dX10_isCouple 8 rfl) hA (by omega) (Nat.le_of_ble_eq_true rfl) ?_
    refine wp_iload_n (atd dX10_isCouple 9 rfl) rfl ?_
    refine wp_ishrN (atd dX10_isCouple 10 rfl) (by have := hkw h; omega) (by omega) ?_
    refine wp_iconst (v := nI 1) (atd dX10_isCouple 11 rfl) (by decide) ?_
    refine wp_iandN (atd dX10_isCouple 12 rfl) ?_
    refine wp_iconst (v := nI 1) (atd dX10_isCouple 13 rfl) (by decide) ?_
    refine wp_icmpN_ne (tgt := 28) (atd dX10_isCouple 14 rfl) (by decide) (by have := and1_lt (kp h >>> r); omega) (by omega) (fun c_21 => ?_) (fun c_21 => ?_)
    ·
      refine wp_iconst (v := nI 0) (atd dX10_isCouple 17 rfl) (by decide) ?_
      refine wp_iretz (atd dX10_isCouple 18 rfl) rfl (by first | rfl | decide) ?_
      exact ⟨(bI_f (fun h => c_21 ((tb_iff _ _).mpr h))).symm, rfl⟩
    ·
      refine wp_iconst (v := nI 1) (atd dX10_isCouple 15 rfl) (by decide) ?_
      refine wp_goto (tgt := 29) (atd dX10_isCouple 16 rfl) (by decide) ?_
      refine wp_iretz (atd dX10_isCouple 18 rfl) rfl (by first | rfl | decide) ?_
      exact ⟨(bI_t ((tb_iff _ _).mp c_21)).symm, rfl⟩
theorem cnt_bits (s : Nat) : ∀ (k i a : Nat), fl (fun k n => n + (s >>> k &&& 1)) k i a = a + fl (fun j b => b + (if s.testBit j = true then 1 else 0)) k i 0
  | 0, _, _ => rfl
  | k + 1, i, a => by
    show fl _ k (i + 1) (a + (s >>> i &&& 1)) = a + fl _ k (i + 1) (0 + (if s.testBit i = true then 1 else 0))
    rw [cnt_bits s k (i + 1), tb_val]
    have h : ∀ (k i a : Nat), fl (fun j b => b + (if s.testBit j = true then 1 else 0)) k i a = a + fl (fun j b => b + (if s.testBit j = true then 1 else 0)) k i 0 := by
      intro k
      induction k with
      | zero => intro i a; rfl
      | succ k ih =>
        intro i a
        show fl _ k (i + 1) (a + (if s.testBit i = true then 1 else 0)) = a + fl _ k (i + 1) (0 + (if s.testBit i = true then 1 else 0))
        rw [ih, ih (i + 1) (0 + _)]; omega
    rw [h k (i + 1) (0 + _)]; omega
theorem nall_z : ∀ (k i a : Nat) (g : Nat → Nat), (∀ j, i ≤ j → j < i + k → g j = 0) → fl (fun j b => b + g j) k i a = a
  | 0, _, _, _, _ => rfl
  | k + 1, i, a, g, h => by
    show fl _ k (i + 1) (a + g i) = a
    rw [h i (Nat.le_refl _) (by omega), nall_z k (i + 1) (a + 0) g (fun j h1 h2 => h j (by omega) (by omega))]
    rfl
theorem fl_split {α : Type} (g : Nat → α → α) : ∀ (j k i : Nat) (a : α), fl g (j + k) i a = fl g k (i + j) (fl g j i a)
  | 0, k, i, a => by rw [Nat.zero_add, Nat.add_zero]; rfl
  | j + 1, k, i, a => by
    rw [show j + 1 + k = (j + k) + 1 by omega]
    show fl g (j + k) (i + 1) (g i a) = _
    rw [fl_split g j k (i + 1)]
    show fl g k (i + 1 + j) (fl g j (i + 1) (g i a)) = fl g k (i + (j + 1)) (fl g j (i + 1) (g i a))
    rw [show i + 1 + j = i + (j + 1) by omega]
theorem fl_cg {α : Type} {g g2 : Nat → α → α} : ∀ {k i : Nat} {a : α}, (∀ j b, i ≤ j → j < i + k → g j b = g2 j b) → fl g k i a = fl g2 k i a
  | 0, _, _, _ => rfl
  | k + 1, i, a, h => by
    show fl g k (i + 1) (g i a) = fl g2 k (i + 1) (g2 i a)
    rw [h i a (Nat.le_refl _) (by omega)]
    exact fl_cg (fun j b h1 h2 => h j b (by omega) (by omega))
theorem ncR_cnt {kp : Nat → Nat} {C : Cpl} {n h : Nat} (hn : n ≤ 9) (H : KB kp C n) (hh : h < n) (a : Nat) : fl (ncR (cW C h)) n 0 a = a + cnt (kp h) := by
  rw [ncR_add, cnt, cnt_bits, Nat.zero_add]
  congr 1
  rw [show 9 = n + (9 - n) by omega, fl_split, Nat.zero_add]
  rw [nall_z (9 - n) n _ (fun j => if (kp h).testBit j = true then 1 else 0) (fun j h1 h2 => by
    show (if (kp h).testBit j = true then 1 else 0) = 0
    rw [H.2 h j (by omega)]; simp; omega)]
  refine fl_cg (fun j b h1 h2 => ?_)
  unfold ncR cW
  rw [H.f (by omega) hh (by omega)]
  cases C h j <;> simp
theorem couples_eq {kp : Nat → Nat} {C : Cpl} {n : Nat} (hn : n ≤ 9) (H : KB kp C n) : fl (fun h a => a + cnt (kp h)) 9 0 0 = nc (cW C) n n := by
  rw [show 9 = n + (9 - n) by omega, fl_split, Nat.zero_add]
  rw [nall_z (9 - n) n _ (fun h => cnt (kp h)) (fun j h1 h2 => by
    have : kp j = 0 := by
      apply Nat.eq_of_testBit_eq
      intro r
      rw [H.2 j r (by omega), Nat.zero_testBit]
      simp; omega
    rw [this]; decide)]
  unfold nc
  exact (fl_cg (fun j b h1 h2 => ncR_cnt hn H (by omega) b)).symm
