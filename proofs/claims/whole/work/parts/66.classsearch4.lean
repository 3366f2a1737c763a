/-! a runner that nobody sees: the whole search -/
def rv (a : Option Nat) : Value := match a with
  | none => .null
  | some k => .ref k
/-- what is made later has an address of its own -/
def MKO (mk : Nat → Option Nat) (m : Nat) : Prop := (∀ i a, mk i = some a → 104 ≤ a ∧ a < m) ∧ ∀ i j a, mk i = some a → mk j = some a → i = j
theorem MKO.le {mk : Nat → Option Nat} {m m2 : Nat} (h : MKO mk m) (hm : m ≤ m2) : MKO mk m2 := ⟨fun i a e => ⟨(h.1 i a e).1, Nat.lt_of_lt_of_le (h.1 i a e).2 hm⟩, h.2⟩
theorem MKO.add {mk : Nat → Option Nat} {m j : Nat} (h : MKO mk m) (hm : 104 ≤ m) : MKO (va_up mk j (some m)) (m + 1) := by
  refine ⟨fun i a e => ?_, fun i k a e e2 => ?_⟩
  · by_cases q : i = j
    · subst q; simp [va_up] at e; omega
    · simp only [va_up, if_neg q] at e; have := h.1 i a e; omega
  · by_cases q : i = j <;> by_cases q2 : k = j
    · omega
    · subst q; simp [va_up] at e; simp only [va_up, if_neg q2] at e2; have := h.1 k a e2; omega
    · subst q2; simp [va_up] at e2; simp only [va_up, if_neg q] at e; have := h.1 i a e; omega
    · simp only [va_up, if_neg q] at e; simp only [va_up, if_neg q2] at e2; exact h.2 i k a e e2
def K1 (nb : Nat → Nat) (n h : Nat) (rn : Nat → Option Nat) (pa : Nat → Nat) : Prop := rn (h - 1) = swK nb n h ∧ ∀ k, swK nb n h = some k → ∀ r, r ≤ k → pa ((h - 1) * 61 + r) = xi h n (swY nb n h k r).1
def SK (nb : Nat → Nat) (n : Nat) (rd : Nat → Bool) (rn : Nat → Option Nat) (pa : Nat → Nat) : Prop := ∀ h, 1 ≤ h → h ≤ 2 → rd (h - 1) = true → K1 nb n h rn pa
theorem SK.up {nb : Nat → Nat} {n h : Nat} {rd : Nat → Bool} {rn rn2 : Nat → Option Nat} {pa pa2 : Nat → Nat} (hS : SK nb n rd rn pa) (hh1 : 1 ≤ h) (hh2 : h ≤ 2) (hK : K1 nb n h rn2 pa2) (h1 : ∀ i, i ≠ h - 1 → rn2 i = rn i) (h2 : ∀ i, i < 122 → i / 61 ≠ h - 1 → pa2 i = pa i) : SK nb n (va_up rd (h - 1) true) rn2 pa2 := by
  intro g g1 g2 hr
  by_cases e : g = h
  · subst e; exact hK
  · have e1 : g - 1 ≠ h - 1 := by omega
    simp only [va_up, if_neg e1] at hr
    obtain ⟨k1, k2⟩ := hS g g1 g2 hr
    refine ⟨by rw [h1 _ e1]; exact k1, fun k hk r hr => ?_⟩
    have := swK_le hk
    rw [h2 _ (by omega) (by omega)]
    exact k2 k hk r hr
def SM (σ : Hp) (mk : Nat → Option Nat) : Prop := (mk 0 = none ∧ mk 1 = none ∧ mk 2 = none) ∨ ∃ ka kq kw, mk 0 = some ka ∧ mk 1 = some kq ∧ mk 2 = some kw ∧ AX σ ka 23040 ∧ AX σ kq 23040 ∧ AX σ kw 512
def SSx (σ : Hp) (nb : Nat → Nat) (n : Nat) (mk : Nat → Option Nat) (rd : Nat → Bool) (rn : Nat → Option Nat) (pa : Nat → Nat) : Prop := (∃ qd, OB σ 39 8 (seF 39 5 13 (rv (mk 0)) (rv (mk 1)) (rv (mk 2)) qd)) ∧ AB σ (39 + 1) 2 rd ∧ AO σ (39 + 2) 2 rn ∧ AI σ (39 + 3) 122 pa ∧ SM σ mk ∧ SK nb n rd rn pa
/-- the rows of the games, as they stand between two calls -/
def RK (σ : Hp) (nb : Nat → Nat) (T : Nat) : Prop := RT σ 13 ∧ LR σ 13 nb ∧ ∃ t l, FS σ 13 t l ∧ t ≤ T
def EXR (s : Hp) (nb : Nat → Nat) (n h ka kq kw T0 : Nat) (rn : Nat → Option Nat) (pa : Nat → Nat) : Prop := (∃ qd, OB s 39 8 (seF 39 5 13 (.ref ka) (.ref kq) (.ref kw) qd)) ∧ RK s nb (T0 + 23040) ∧ AX s ka 23040 ∧ AX s kq 23040 ∧ AX s kw 512 ∧ ∃ rn2 pa2, AO s (39 + 2) 2 rn2 ∧ AI s (39 + 3) 122 pa2 ∧ K1 nb n h rn2 pa2 ∧ (∀ i, i ≠ h - 1 → rn2 i = rn i) ∧ ∀ i, i < 122 → i / 61 ≠ h - 1 → pa2 i = pa i
theorem K1_found {nb : Nat → Nat} {n h ro y : Nat} {c : Nat → Nat} {rn : Nat → Option Nat} {pa : Nat → Nat} (hN : isNetZ n nb) (h1 : 1 ≤ h) (h2 : h ≤ 2) (hro : ro ≤ 60) (hf : FdS nb n h ro y c) (hr : rn (h - 1) = some ro) (hp1 : ∀ i, i < ro → pa ((h - 1) * 61 + i) = frN h + c i / 512) (hp2 : pa ((h - 1) * 61 + ro) = y) : K1 nb n h rn pa := by
  obtain ⟨f1, q, f2, f3, f4, f5⟩ := hf
  have hk := swK_L1 hN h1 h2 hro f2 f1
  refine ⟨hr.trans hk.symm, fun k hk2 r hr => ?_⟩
  rw [hk] at hk2
  cases hk2
  rw [(swY_L hN h1 h2 f2 f5 r hr).2.1]
  by_cases e : r = ro
  · subst e; rw [hp2, f4]
  · rw [hp1 r (by omega), f3 r (by omega)]
theorem K1_none {nb : Nat → Nat} {n h : Nat} {rn : Nat → Option Nat} {pa : Nat → Nat} (hN : isNetZ n nb) (h1 : 1 ≤ h) (h2 : h ≤ 2) (hf : ∀ m q, m < 61 → ¬ Lit nb n h m q) (hr : rn (h - 1) = none) : K1 nb n h rn pa := by
  have hk := swK_L0 hN h1 h2 hf
  refine ⟨hr.trans hk.symm, fun k hk2 => ?_⟩
  rw [hk] at hk2
  cases hk2
theorem Lit_0 {nb : Nat → Nat} {n h : Nat} {q : Nat → Nat} : Lit nb n h 0 q ↔ (frN h ≤ q 0 ∧ q 0 < frN (h + 1)) ∧ sdC (q 0) = 2 ^ n - 1 := by
  constructor
  · rintro ⟨⟨⟨a1, a2, a3⟩, -⟩, a4⟩
    refine ⟨⟨a1, a2⟩, ?_⟩
    have a4 : dif (2 ^ n - 1) (sdC (q 0)) = 0 := a4
    have a3 : dif (sdC (q 0)) (2 ^ n - 1) = 0 := a3
    apply Nat.eq_of_testBit_eq
    intro j
    cases e : (sdC (q 0)).testBit j with
    | true => exact (dif_0.mp a3 j e).symm
    | false =>
      cases e2 : (2 ^ n - 1).testBit j with
      | false => rfl
      | true => rw [dif_0.mp a4 j e2] at e; cases e
  · rintro ⟨⟨a1, a2⟩, a3⟩
    refine ⟨⟨⟨a1, a2, ?_⟩, fun i hi => by omega⟩, ?_⟩
    · show dif (sdC (q 0)) (2 ^ n - 1) = 0
      rw [a3]; exact dif_0.mpr (fun j hj => hj)
    · show dif (2 ^ n - 1) (sdC (q 0)) = 0
      rw [a3]; exact dif_0.mpr (fun j hj => hj)
theorem olF_none {n : Nat} : ∀ {k x : Nat}, olF n k x = none → ∀ y, x ≤ y → y < x + k → sdC y ≠ 2 ^ n - 1
  | 0, _, _, _, h1, h2 => by omega
  | k + 1, x, h, y, h1, h2 => by
    unfold olF at h
    split at h
    · cases h
    · by_cases e : y = x
      · subst e; assumption
      · exact olF_none h y (by omega) (by omega)
theorem olF_first {n : Nat} : ∀ {k x z : Nat}, olF n k x = some z → ∀ y, x ≤ y → y < z → sdC y ≠ 2 ^ n - 1
  | 0, _, _, h, _, _, _ => by cases h
  | k + 1, x, z, h, y, h1, h2 => by
    unfold olF at h
    split at h
    · cases h; omega
    · by_cases e : y = x
      · subst e; assumption
      · exact olF_first h y (by omega) h2
theorem K1_lit {nb : Nat → Nat} {n h x : Nat} {rn : Nat → Option Nat} {pa : Nat → Nat} (hN : isNetZ n nb) (h1 : 1 ≤ h) (h2 : h ≤ 2) (ho : olF n (frN (h + 1) - frN h) (frN h) = some x) : K1 nb n h (va_up rn (h - 1) (some 0)) (va_up pa ((h - 1) * 61) x) := by
  obtain ⟨x1, x2, x3⟩ := olF_lt ho
  refine K1_found (ro := 0) (y := x) (c := fun _ => 0) hN h1 h2 (by omega) ⟨fun m q hm => by omega, fun _ => x, Lit_0.mpr ⟨⟨x1, by omega⟩, x3⟩, fun i hi => by omega, rfl, fun q2 hq2 => ?_⟩ (by simp [va_up]) (fun i hi => by omega) (by simp [va_up])
  obtain ⟨⟨a1, a2⟩, a3⟩ := Lit_0.mp hq2
  show x ≤ q2 0
  exact Classical.byContradiction fun z => olF_first ho (q2 0) a1 (by omega) a3
theorem noLit_0 {nb : Nat → Nat} {n h : Nat} (ho : olF n (frN (h + 1) - frN h) (frN h) = none) : ∀ q, ¬ Lit nb n h 0 q := fun q hq => by
  obtain ⟨⟨a1, a2⟩, a3⟩ := Lit_0.mp hq
  exact olF_none ho (q 0) a1 (by omega) a3
theorem exp_res {nb : Nat → Nat} {n h T0 : Nat} {s : Hp} {rn : Nat → Option Nat} {pa : Nat → Nat} (hN : isNetZ n nb) (h1 : 1 ≤ h) (h2 : h ≤ 2) (hrn : rn (h - 1) = none) (hr : ((∀ m q, m < 61 → ¬ Lit nb n h m q) ∧ AO s (39 + 2) 2 rn ∧ AI s (39 + 3) 122 pa) ∨ ∃ ro y c, (1 ≤ ro ∧ ro ≤ 60) ∧ FdS nb n h ro y c ∧ AO s (39 + 2) 2 (va_up rn (h - 1) (some ro)) ∧ ∃ pa2, AI s (39 + 3) 122 pa2 ∧ (∀ i, i < ro → pa2 ((h - 1) * 61 + i) = frN h + c i / 512) ∧ pa2 ((h - 1) * 61 + ro) = y ∧ ∀ i, i < 122 → (i < (h - 1) * 61 ∨ (h - 1) * 61 + ro < i) → pa2 i = pa i) : ∃ rn2 pa2, AO s (39 + 2) 2 rn2 ∧ AI s (39 + 3) 122 pa2 ∧ K1 nb n h rn2 pa2 ∧ (∀ i, i ≠ h - 1 → rn2 i = rn i) ∧ ∀ i, i < 122 → i / 61 ≠ h - 1 → pa2 i = pa i := by
  rcases hr with ⟨a, b, c⟩ | ⟨ro, y, c, ⟨-, r2⟩, hf, b, pa2, p0, p1, p2, p3⟩
  · exact ⟨rn, pa, b, c, K1_none hN h1 h2 a hrn, fun _ _ => rfl, fun _ _ _ => rfl⟩
  · exact ⟨_, pa2, b, p0, K1_found hN h1 h2 r2 hf (by simp [va_up]) p1 p2, fun i hi => by simp only [va_up, if_neg hi], fun i hi hi2 => p3 i hi (by omega)⟩
theorem eX8_explore1 {G : Gx} {d : Nat} {σ : Hp} (hd : 4 ≤ d) {n h : Nat} {nb : Nat → Nat} {rn : Nat → Option Nat} {pa : Nat → Nat} (hNt : isNetZ n nb) (hw : ∀ p, nb p < 512) (hh1 : 1 ≤ h) (hh2 : h ≤ 2) {ka kq kw qd : Nat} (hka : 104 ≤ ka) (hkq : 104 ≤ kq) (hkw : 104 ≤ kw) (hka2 : ka ≠ kq ∧ ka ≠ kw ∧ kq ≠ kw) (hO : OB σ 39 8 (seF 39 5 13 (.ref ka) (.ref kq) (.ref kw) qd)) (hN : OB σ 5 3 [.int (nI n), .ref (5 + 1)]) (hNA : AI σ (5 + 1) 9 nb) (hXa : AX σ ka 23040) (hXq : AX σ kq 23040) (hXw : AX σ kw 512) {t T0 : Nat} {l : List Nat} (hT : RT σ 13) (hLR : LR σ 13 nb) (hFS : FS σ 13 t l) (hTt : t ≤ T0) (hT0 : T0 + 23050 < 2 ^ 31) (hRn : AO σ (39 + 2) 2 rn) (hPa : AI σ (39 + 3) 122 pa) (hrn : rn (h - 1) = none) (hl : ∀ q, ¬ Lit nb n h 0 q) : Cl G mX8_explore d [.ref 39, .int (nI h)] σ 0 0 (pV fun s => fr [39, ka, kq, kw, 39 + 2, 39 + 3, 13, 13 + 6, 13 + 7] σ s ∧ EXR s nb n h ka kq kw T0 rn pa) := by
  have hn := hNt.1.1
  obtain ⟨d0, hdd⟩ : ∃ e, d = e + 1 := ⟨d - 1, by omega⟩
  refine cl_of (by decide) (by simp [Value.category]) (Nat.le_of_ble_eq_true rfl) ?_
  show Wp G mX8_explore d 0 [.ref 39, .int (nI h), .double 0, .double 0, .double 0] [] σ 0 0 _
  refine wp_aload_n (atd dX8_explore 0 rfl) rfl rfl ?_
  refine wp_cVvA (mc2 := 0) (ms2 := 0) hdd [] (atd dX8_explore 1 rfl) iX8_prepare lX8_64 rfl rfl (Nat.le_of_ble_eq_true rfl) hO rfl (eX8_prepare1 (by omega) hn hw hka hkq hkw hka2 hO hN hNA hXa hXq hXw) rfl rfl (fun s1 h_1 => ?_)
  obtain ⟨f1, hO, hQS, wd, hWd, hwd⟩ := h_1
  have hN := hN.fr f1 (by simp only [List.mem_cons, List.not_mem_nil, or_false]; omega)
  have hNA := hNA.fr f1 (by simp only [List.mem_cons, List.not_mem_nil, or_false]; omega)
  have hT := hT.fr f1 ⟨by simp only [List.mem_cons, List.not_mem_nil, or_false]; omega, by simp only [List.mem_cons, List.not_mem_nil, or_false]; omega, by simp only [List.mem_cons, List.not_mem_nil, or_false]; omega⟩
  have hLR := hLR.fr f1 ⟨by simp only [List.mem_cons, List.not_mem_nil, or_false]; omega, by simp only [List.mem_cons, List.not_mem_nil, or_false]; omega⟩
  have hFS := hFS.fr f1 ⟨by simp only [List.mem_cons, List.not_mem_nil, or_false]; omega, by simp only [List.mem_cons, List.not_mem_nil, or_false]; omega, by simp only [List.mem_cons, List.not_mem_nil, or_false]; omega⟩
  have hRn := hRn.fr f1 (by simp only [List.mem_cons, List.not_mem_nil, or_false]; omega)
  have hPa := hPa.fr f1 (by simp only [List.mem_cons, List.not_mem_nil, or_false]; omega)
  refine wp_post (bX8_explore (J := JS nb n h) (Fd := FdS nb n h) (by omega) hNt hw hh1 hh2 hwd hka hkq hkw hka2 (JS_step hNt hw hh1 hh2) (JS_round hNt hh1 hh2) (JS_good hNt hh1 hh2) (JS_found hNt hw hh1 hh2) JS_end (by omega) (JS_0 hNt hh1 hh2 hl) hO hN hNA hT hLR hFS hQS hWd hRn hPa) ?_
  rintro v s ⟨rfl, f2, hO, hT, hLR, ⟨T, l2, hFS, hTT⟩, x1, x2, x3, hr⟩
  refine ⟨rfl, (f1.mono (by simp)).tr f2 (by simp), hO, ⟨hT, hLR, T, l2, hFS, by omega⟩, x1, x2, x3, exp_res (T0 := T0) hNt hh1 hh2 hrn hr⟩
theorem eX8_explore0 {G : Gx} {d : Nat} {σ : Hp} (hd : 4 ≤ d) {n h : Nat} {nb : Nat → Nat} {rn : Nat → Option Nat} {pa : Nat → Nat} (hNt : isNetZ n nb) (hw : ∀ p, nb p < 512) (hh1 : 1 ≤ h) (hh2 : h ≤ 2) {qd : Nat} (hlo : 104 ≤ σ.1) (hO : OB σ 39 8 (seF 39 5 13 .null .null .null qd)) (hN : OB σ 5 3 [.int (nI n), .ref (5 + 1)]) (hNA : AI σ (5 + 1) 9 nb) {t T0 : Nat} {l : List Nat} (hT : RT σ 13) (hLR : LR σ 13 nb) (hFS : FS σ 13 t l) (hTt : t ≤ T0) (hT0 : T0 + 23050 < 2 ^ 31) (hRn : AO σ (39 + 2) 2 rn) (hPa : AI σ (39 + 3) 122 pa) (hrn : rn (h - 1) = none) (hl : ∀ q, ¬ Lit nb n h 0 q) : Cl G mX8_explore d [.ref 39, .int (nI h)] σ 3 46592 (pV fun s => fA [39, 39 + 2, 39 + 3, 13, 13 + 6, 13 + 7] σ s ∧ s.1 = σ.1 + 3 ∧ EXR s nb n h σ.1 (σ.1 + 1) (σ.1 + 2) T0 rn pa) := by
  have hn := hNt.1.1
  obtain ⟨d0, hdd⟩ : ∃ e, d = e + 1 := ⟨d - 1, by omega⟩
  refine cl_of (by decide) (by simp [Value.category]) (Nat.le_of_ble_eq_true rfl) ?_
  show Wp G mX8_explore d 0 [.ref 39, .int (nI h), .double 0, .double 0, .double 0] [] σ 3 46592 _
  refine wp_aload_n (atd dX8_explore 0 rfl) rfl rfl ?_
  refine wp_cVvA (mc2 := 0) (ms2 := 0) hdd [] (atd dX8_explore 1 rfl) iX8_prepare lX8_64 rfl rfl (Nat.le_of_ble_eq_true rfl) hO rfl (eX8_prepare0 (by omega) hn hw hlo hO hN hNA) rfl rfl (fun s1 h_1 => ?_)
  obtain ⟨f1, hs1, hO, hQS, wd, hWd, hwd⟩ := h_1
  have hN := hN.fA f1 (by omega) (by simp only [List.mem_cons, List.not_mem_nil, or_false]; omega)
  have hNA := hNA.fA f1 (by omega) (by simp only [List.mem_cons, List.not_mem_nil, or_false]; omega)
  have hT := hT.fA f1 (by omega) (fun j h1 h2 => by simp only [List.mem_cons, List.not_mem_nil, or_false]; omega)
  have hLR := hLR.fA f1 (by omega) (fun j h1 h2 => by simp only [List.mem_cons, List.not_mem_nil, or_false]; omega)
  have hFS := hFS.fA f1 (by omega) (fun j h1 h2 => by simp only [List.mem_cons, List.not_mem_nil, or_false]; omega)
  have hRn := hRn.fA f1 (by omega) (by simp only [List.mem_cons, List.not_mem_nil, or_false]; omega)
  have hPa := hPa.fA f1 (by omega) (by simp only [List.mem_cons, List.not_mem_nil, or_false]; omega)
  refine wp_post (bX8_explore (J := JS nb n h) (Fd := FdS nb n h) (by omega) hNt hw hh1 hh2 hwd (by omega) (by omega) (by omega) ⟨by omega, by omega, by omega⟩ (JS_step hNt hw hh1 hh2) (JS_round hNt hh1 hh2) (JS_good hNt hh1 hh2) (JS_found hNt hw hh1 hh2) JS_end (by omega) (JS_0 hNt hh1 hh2 hl) hO hN hNA hT hLR hFS hQS hWd hRn hPa) ?_
  rintro v s ⟨rfl, f2, hO, hT, hLR, ⟨T, l2, hFS, hTT⟩, x1, x2, x3, hr⟩
  refine ⟨rfl, (f1.mono (by simp)).trN f2.A (fun j hj => by simp only [List.mem_cons, List.not_mem_nil, or_false] at hj ⊢; omega), by rw [f2.1, hs1], hO, ⟨hT, hLR, T, l2, hFS, by omega⟩, x1, x2, x3, exp_res (T0 := T0) hNt hh1 hh2 hrn hr⟩
theorem nI_inj9 {a b : Nat} (ha : a < 2 ^ 31) (hb : b < 2 ^ 31) (e : nI a = nI b) : a = b := by
  have := congrArg Int32.toInt e
  rw [nI_toInt ha, nI_toInt hb] at this
  omega
theorem swF_oI {nb : Nat → Nat} {n h : Nat} (h1 : 1 ≤ h) (h2 : h ≤ 2) (hn : 0 < n) : swF nb n (nI h) (fun _ k => nI k) = oI (swK nb n h) := by
  cases e : swK nb n h with
  | none => exact swF_n h1 h2 hn e
  | some k => exact swF_t h1 h2 hn e
def mk3 (mk : Nat → Option Nat) (a : Nat) : Nat → Option Nat := va_up (va_up (va_up mk 0 (some a)) 1 (some (a + 1))) 2 (some (a + 2))
theorem MKO.mk3 {mk : Nat → Option Nat} {m : Nat} (h : MKO mk m) (hm : 104 ≤ m) : MKO (mk3 mk m) (m + 3) := ((h.add (j := 0) hm).add (j := 1) (by omega)).add (j := 2) (by omega)
theorem eX8_roundsOf1 {G : Gx} {d : Nat} {σ : Hp} (hd : 5 ≤ d) {n t T0 : Nat} {nb : Nat → Nat} {mk : Nat → Option Nat} {rd : Nat → Bool} {rn : Nat → Option Nat} {pa : Nat → Nat} {l : List Nat} (hNt : isNetZ n nb) (hw : ∀ p, nb p < 512) (hN : OB σ 5 3 [.int (nI n), .ref (5 + 1)]) (hNA : AI σ (5 + 1) 9 nb) (hT : RT σ 13) (hLR : LR σ 13 nb) (hFS : FS σ 13 t l) (hTt : t ≤ T0) (hT0 : T0 + 23050 < 2 ^ 31) (hS : SSx σ nb n mk rd rn pa) {a : Int32} {ka kq kw : Nat} (hm0 : mk 0 = some ka) (hm1 : mk 1 = some kq) (hm2 : mk 2 = some kw) (hMK : MKO mk σ.1) : Cl G mX8_roundsOf d [.ref 39, .int a] σ 0 0 (pI fun z s => z = swF nb n a (fun _ k => nI k) ∧ fr [39 + 1, 39, ka, kq, kw, 39 + 2, 39 + 3, 13, 13 + 6, 13 + 7] σ s ∧ RK s nb (T0 + 23040) ∧ ∃ rd rn pa, SSx s nb n mk rd rn pa ∧ ∀ h, 1 ≤ h → h ≤ 2 → a = nI h → 0 < n → rd (h - 1) = true) := by
  obtain ⟨d0, hdd⟩ : ∃ e, d = e + 1 := ⟨d - 1, by omega⟩
  refine cl_of (by decide) (by simp [Value.category]) (Nat.le_of_ble_eq_true rfl) ?_
  show Wp G mX8_roundsOf d 0 [.ref 39, .int a] [] σ 0 0 _
  have hF : fr [39 + 1, 39, ka, kq, kw, 39 + 2, 39 + 3, 13, 13 + 6, 13 + 7] σ σ := fr.rf
  have hn := hNt.1.1
  obtain ⟨⟨qd, hO⟩, hRy, hRn, hPa, hM, hSK⟩ := id hS
  rw [hm0, hm1, hm2] at hO
  have hO : OB σ 39 8 (seF 39 5 13 (.ref ka) (.ref kq) (.ref kw) qd) := hO
  obtain ⟨hXa, hXq, hXw⟩ : AX σ ka 23040 ∧ AX σ kq 23040 ∧ AX σ kw 512 := by
    rcases hM with ⟨e, -⟩ | ⟨a1, a2, a3, e1, e2, e3, x1, x2, x3⟩
    · rw [hm0] at e; cases e
    · rw [hm0] at e1; rw [hm1] at e2; rw [hm2] at e3; cases e1; cases e2; cases e3; exact ⟨x1, x2, x3⟩
  have hka := (hMK.1 _ _ hm0).1
  have hkq := (hMK.1 _ _ hm1).1
  have hkw := (hMK.1 _ _ hm2).1
  have hka2 : ka ≠ kq ∧ ka ≠ kw ∧ kq ≠ kw := ⟨fun e => absurd (hMK.2 0 1 ka hm0 (by rw [e]; exact hm1)) (by decide), fun e => absurd (hMK.2 0 2 ka hm0 (by rw [e]; exact hm2)) (by decide), fun e => absurd (hMK.2 1 2 kq hm1 (by rw [e]; exact hm2)) (by decide)⟩
  refine wp_iload_n (atd dX8_roundsOf 0 rfl) rfl ?_
  refine wp_iconst (v := nI 1) (atd dX8_roundsOf 1 rfl) (by decide) ?_
  refine wp_icmp_lt (tgt := 20) (atd dX8_roundsOf 2 rfl) (by decide) (fun c_2 => ?_) (fun c_2 => ?_)
  ·
    refine wp_iconst (v := -1) (atd dX8_roundsOf 10 rfl) (by decide) ?_
    refine wp_ireti (atd dX8_roundsOf 11 rfl) rfl ?_
    refine ⟨(swF_f (fun z => ?_)).symm, fr.rf, ⟨hT, hLR, t, l, hFS, by omega⟩, rd, rn, pa, hS, fun h g1 g2 e g0 => ?_⟩
    · exact (isW2_iff.mpr z.1).1 c_2
    · exact absurd c_2 (isW2_iff.mpr (by rw [e]; exact isW2_nI g1 g2)).1
  ·
    refine wp_iload_n (atd dX8_roundsOf 3 rfl) rfl ?_
    refine wp_iconst (v := nI 2) (atd dX8_roundsOf 4 rfl) (by decide) ?_
    refine wp_icmp_gt (tgt := 20) (atd dX8_roundsOf 5 rfl) (by decide) (fun c_7 => ?_) (fun c_7 => ?_)
    ·
      refine wp_iconst (v := -1) (atd dX8_roundsOf 10 rfl) (by decide) ?_
      refine wp_ireti (atd dX8_roundsOf 11 rfl) rfl ?_
      refine ⟨(swF_f (fun z => ?_)).symm, fr.rf, ⟨hT, hLR, t, l, hFS, by omega⟩, rd, rn, pa, hS, fun h g1 g2 e g0 => ?_⟩
      · exact (isW2_iff.mpr z.1).2 c_7
      · exact absurd c_7 (isW2_iff.mpr (by rw [e]; exact isW2_nI g1 g2)).2
    ·
      obtain ⟨h, hh1, hh2, rfl⟩ := isW2_of (isW2_iff.mp ⟨c_2, c_7⟩)
      refine wp_aload_n (atd dX8_roundsOf 6 rfl) rfl rfl ?_
      refine wp_get fX8_22 (atd dX8_roundsOf 7 rfl) hO rfl ?_
      refine wp_get fX8_30 (atd dX8_roundsOf 8 rfl) hN rfl ?_
      refine wp_ifN_ne (tgt := 22) (atd dX8_roundsOf 9 rfl) (by decide) (by omega) (fun c_17 => ?_) (fun c_17 => ?_)
      ·
        refine wp_aload_n (atd dX8_roundsOf 12 rfl) rfl rfl ?_
        refine wp_get fX8_11 (atd dX8_roundsOf 13 rfl) hO rfl ?_
        refine wp_iload_n (atd dX8_roundsOf 14 rfl) rfl ?_
        refine wp_iconst (v := nI 1) (atd dX8_roundsOf 15 rfl) (by decide) ?_
        refine wp_isubN (atd dX8_roundsOf 16 rfl) (by omega) ?_
        refine wp_zaldB (atd dX8_roundsOf 17 rfl) hRy (by omega) (Nat.le_of_ble_eq_true rfl) ?_
        refine wp_ifB_ne (tgt := 64) (atd dX8_roundsOf 18 rfl) (by decide) (fun c_30 => ?_) (fun c_30 => ?_)
        ·
          refine wp_aload_n (atd dX8_roundsOf 40 rfl) rfl rfl ?_
          refine wp_get fX8_15 (atd dX8_roundsOf 41 rfl) hO rfl ?_
          refine wp_iload_n (atd dX8_roundsOf 42 rfl) rfl ?_
          refine wp_iconst (v := nI 1) (atd dX8_roundsOf 43 rfl) (by decide) ?_
          refine wp_isubN (atd dX8_roundsOf 44 rfl) (by omega) ?_
          refine wp_ialdO (atd dX8_roundsOf 45 rfl) hRn (by omega) (Nat.le_of_ble_eq_true rfl) ?_
          refine wp_ireti (atd dX8_roundsOf 46 rfl) rfl ?_
          refine ⟨by rw [swF_oI hh1 hh2 (by omega), (hSK h hh1 hh2 c_30).1], fr.rf, ⟨hT, hLR, t, l, hFS, by omega⟩, rd, rn, pa, hS, fun g g1 g2 e g0 => ?_⟩
          have : g = h := (nI_inj9 (by omega) (by omega) e).symm
          subst this
          exact c_30
        ·
          refine wp_aload_n (atd dX8_roundsOf 19 rfl) rfl rfl ?_
          refine wp_get fX8_15 (atd dX8_roundsOf 20 rfl) hO rfl ?_
          refine wp_iload_n (atd dX8_roundsOf 21 rfl) rfl ?_
          refine wp_iconst (v := nI 1) (atd dX8_roundsOf 22 rfl) (by decide) ?_
          refine wp_isubN (atd dX8_roundsOf 23 rfl) (by omega) ?_
          refine wp_iconst (v := -1) (atd dX8_roundsOf 24 rfl) (by decide) ?_
          refine wp_iastO (v := none) (atd dX8_roundsOf 25 rfl) hRn (by omega) (Nat.le_of_ble_eq_true rfl) (fun σ f_41 hRn => ?_)
          have hO := hO.fr f_41 (by first | decide | (simp only [List.mem_cons, List.not_mem_nil, or_false]; omega))
          have hN := hN.fr f_41 (by first | decide | (simp only [List.mem_cons, List.not_mem_nil, or_false]; omega))
          have hNA := hNA.fr f_41 (by first | decide | (simp only [List.mem_cons, List.not_mem_nil, or_false]; omega))
          have hT := hT.fr f_41 ⟨by simp only [List.mem_cons, List.not_mem_nil, or_false]; omega, by simp only [List.mem_cons, List.not_mem_nil, or_false]; omega, by simp only [List.mem_cons, List.not_mem_nil, or_false]; omega⟩
          have hLR := hLR.fr f_41 ⟨by simp only [List.mem_cons, List.not_mem_nil, or_false]; omega, by simp only [List.mem_cons, List.not_mem_nil, or_false]; omega⟩
          have hFS := hFS.fr f_41 ⟨by simp only [List.mem_cons, List.not_mem_nil, or_false]; omega, by simp only [List.mem_cons, List.not_mem_nil, or_false]; omega, by simp only [List.mem_cons, List.not_mem_nil, or_false]; omega⟩
          have hPa := hPa.fr f_41 (by first | decide | (simp only [List.mem_cons, List.not_mem_nil, or_false]; omega))
          have hRy := hRy.fr f_41 (by first | decide | (simp only [List.mem_cons, List.not_mem_nil, or_false]; omega))
          have hXa := hXa.fr f_41 (by first | decide | (simp only [List.mem_cons, List.not_mem_nil, or_false]; omega))
          have hXq := hXq.fr f_41 (by first | decide | (simp only [List.mem_cons, List.not_mem_nil, or_false]; omega))
          have hXw := hXw.fr f_41 (by first | decide | (simp only [List.mem_cons, List.not_mem_nil, or_false]; omega))
          have hF := hF.tr f_41 (by simp)
          refine wp_aload_n (atd dX8_roundsOf 26 rfl) rfl rfl ?_
          refine wp_iload_n (atd dX8_roundsOf 27 rfl) rfl ?_
          refine wp_cVi hdd [_] (atd dX8_roundsOf 28 rfl) iX8_opensLit lX8_36 rfl rfl (Nat.le_of_ble_eq_true rfl) hO rfl (eX8_opensLit (by omega) hN hNA hn hw hO hFS hT hRn hPa hh1 hh2) (fun r_44 s_44 h_44 => ?_)
          obtain ⟨rfl, hol⟩ := h_44
          refine wp_ifB_ne (tgt := 55) (atd dX8_roundsOf 29 rfl) (by decide) (fun c_47 => ?_) (fun c_47 => ?_)
          ·
            obtain ⟨x, ho, f_44, hRn, hPa⟩ : ∃ x, olF n (frN (h + 1) - frN h) (frN h) = some x ∧ fr [39 + 2, 39 + 3] σ s_44 ∧ AO s_44 (39 + 2) 2 (va_up (va_up rn (h - 1) none) (h - 1) (some 0)) ∧ AI s_44 (39 + 3) 122 (va_up pa ((h - 1) * 61) x) := by
              rcases hol with ⟨e, -⟩ | z
              · exact absurd e c_47
              · exact z
            have hK := K1_lit hNt hh1 hh2 ho (rn := va_up rn (h - 1) none) (pa := pa)
            have hr1 : ∀ i, i ≠ h - 1 → va_up (va_up rn (h - 1) none) (h - 1) (some 0) i = va_up rn (h - 1) none i := fun i hi => by simp only [va_up, if_neg hi]
            have hr2 : ∀ i, i < 122 → i / 61 ≠ h - 1 → va_up pa ((h - 1) * 61) x i = pa i := fun i hi hi2 => va_up_ne pa x (by omega)
            have hO := hO.fr f_44 (by simp only [List.mem_cons, List.not_mem_nil, or_false]; omega)
            have hN := hN.fr f_44 (by simp only [List.mem_cons, List.not_mem_nil, or_false]; omega)
            have hNA := hNA.fr f_44 (by simp only [List.mem_cons, List.not_mem_nil, or_false]; omega)
            have hT := hT.fr f_44 ⟨by simp only [List.mem_cons, List.not_mem_nil, or_false]; omega, by simp only [List.mem_cons, List.not_mem_nil, or_false]; omega, by simp only [List.mem_cons, List.not_mem_nil, or_false]; omega⟩
            have hLR := hLR.fr f_44 ⟨by simp only [List.mem_cons, List.not_mem_nil, or_false]; omega, by simp only [List.mem_cons, List.not_mem_nil, or_false]; omega⟩
            have hFS := hFS.fr f_44 ⟨by simp only [List.mem_cons, List.not_mem_nil, or_false]; omega, by simp only [List.mem_cons, List.not_mem_nil, or_false]; omega, by simp only [List.mem_cons, List.not_mem_nil, or_false]; omega⟩
            have hRy := hRy.fr f_44 (by simp only [List.mem_cons, List.not_mem_nil, or_false]; omega)
            have hXa := hXa.fr f_44 (by simp only [List.mem_cons, List.not_mem_nil, or_false]; omega)
            have hXq := hXq.fr f_44 (by simp only [List.mem_cons, List.not_mem_nil, or_false]; omega)
            have hXw := hXw.fr f_44 (by simp only [List.mem_cons, List.not_mem_nil, or_false]; omega)
            have hF := hF.tr f_44 (by simp)
            refine wp_aload_n (atd dX8_roundsOf 33 rfl) rfl rfl ?_
            refine wp_get fX8_11 (atd dX8_roundsOf 34 rfl) hO rfl ?_
            refine wp_iload_n (atd dX8_roundsOf 35 rfl) rfl ?_
            refine wp_iconst (v := nI 1) (atd dX8_roundsOf 36 rfl) (by decide) ?_
            refine wp_isubN (atd dX8_roundsOf 37 rfl) (by omega) ?_
            refine wp_iconst (v := nI 1) (atd dX8_roundsOf 38 rfl) (by decide) ?_
            refine wp_zastB (v := true) (atd dX8_roundsOf 39 rfl) hRy (by omega) (Nat.le_of_ble_eq_true rfl) (fun σ f_63 hRy => ?_)
            have hO := hO.fr f_63 (by first | decide | (simp only [List.mem_cons, List.not_mem_nil, or_false]; omega))
            have hN := hN.fr f_63 (by first | decide | (simp only [List.mem_cons, List.not_mem_nil, or_false]; omega))
            have hNA := hNA.fr f_63 (by first | decide | (simp only [List.mem_cons, List.not_mem_nil, or_false]; omega))
            have hT := hT.fr f_63 ⟨by simp only [List.mem_cons, List.not_mem_nil, or_false]; omega, by simp only [List.mem_cons, List.not_mem_nil, or_false]; omega, by simp only [List.mem_cons, List.not_mem_nil, or_false]; omega⟩
            have hLR := hLR.fr f_63 ⟨by simp only [List.mem_cons, List.not_mem_nil, or_false]; omega, by simp only [List.mem_cons, List.not_mem_nil, or_false]; omega⟩
            have hFS := hFS.fr f_63 ⟨by simp only [List.mem_cons, List.not_mem_nil, or_false]; omega, by simp only [List.mem_cons, List.not_mem_nil, or_false]; omega, by simp only [List.mem_cons, List.not_mem_nil, or_false]; omega⟩
            have hRn := hRn.fr f_63 (by first | decide | (simp only [List.mem_cons, List.not_mem_nil, or_false]; omega))
            have hPa := hPa.fr f_63 (by first | decide | (simp only [List.mem_cons, List.not_mem_nil, or_false]; omega))
            have hXa := hXa.fr f_63 (by first | decide | (simp only [List.mem_cons, List.not_mem_nil, or_false]; omega))
            have hXq := hXq.fr f_63 (by first | decide | (simp only [List.mem_cons, List.not_mem_nil, or_false]; omega))
            have hXw := hXw.fr f_63 (by first | decide | (simp only [List.mem_cons, List.not_mem_nil, or_false]; omega))
            have hF := hF.tr f_63 (by simp)
            refine wp_aload_n (atd dX8_roundsOf 40 rfl) rfl rfl ?_
            refine wp_get fX8_15 (atd dX8_roundsOf 41 rfl) hO rfl ?_
            refine wp_iload_n (atd dX8_roundsOf 42 rfl) rfl ?_
            refine wp_iconst (v := nI 1) (atd dX8_roundsOf 43 rfl) (by decide) ?_
            refine wp_isubN (atd dX8_roundsOf 44 rfl) (by omega) ?_
            refine wp_ialdO (atd dX8_roundsOf 45 rfl) hRn (by omega) (Nat.le_of_ble_eq_true rfl) ?_
            refine wp_ireti (atd dX8_roundsOf 46 rfl) rfl ?_
            have hSK2 := hSK.up hh1 hh2 hK (fun i hi => (hr1 i hi).trans (by simp only [va_up, if_neg hi])) hr2
            have hrd : ∀ g, 1 ≤ g → g ≤ 2 → nI h = nI g → 0 < n → va_up rd (h - 1) true (g - 1) = true := fun g g1 g2 e _ => by
              have : g = h := (nI_inj9 (by omega) (by omega) e).symm
              subst this
              simp [va_up]
            have hz : oI (va_up (va_up rn (h - 1) none) (h - 1) (some 0) (h - 1)) = swF nb n (nI h) (fun _ k => nI k) := by rw [swF_oI hh1 hh2 (by omega), ← hK.1]
            exact ⟨hz, hF, ⟨hT, hLR, t, l, hFS, by omega⟩, _, _, _, ⟨⟨_, by rw [hm0, hm1, hm2]; exact hO⟩, hRy, hRn, hPa, Or.inr ⟨ka, kq, kw, hm0, hm1, hm2, hXa, hXq, hXw⟩, hSK2⟩, hrd⟩
          ·
            obtain ⟨ho, es⟩ : olF n (frN (h + 1) - frN h) (frN h) = none ∧ s_44 = σ := by
              rcases hol with z | ⟨x, e, -⟩
              · exact z
              · exact absurd e (by rw [Classical.not_not.mp c_47]; intro z; cases z)
            subst es
            refine wp_aload_n (atd dX8_roundsOf 30 rfl) rfl rfl ?_
            refine wp_iload_n (atd dX8_roundsOf 31 rfl) rfl ?_
            refine wp_cVvA hdd [_] (atd dX8_roundsOf 32 rfl) iX8_explore lX8_40 rfl rfl (Nat.le_of_ble_eq_true rfl) hO rfl (eX8_explore1 (by omega) hNt hw hh1 hh2 hka hkq hkw hka2 hO hN hNA hXa hXq hXw hT hLR hFS hTt hT0 hRn hPa (by simp [va_up]) (noLit_0 ho)) (show 0 = 0 + 0 from rfl) (show 0 = 0 + 0 from rfl) (fun s_52 h_52 => ?_)
            obtain ⟨f_52, ⟨qd2, hO⟩, ⟨hT, hLR, t2, l2, hFS, hTt2⟩, hXa, hXq, hXw, rn2, pa2, hRn, hPa, hK, hr1, hr2⟩ := h_52
            have hN := hN.fr f_52 (by first | decide | (simp only [List.mem_cons, List.not_mem_nil, or_false]; omega))
            have hNA := hNA.fr f_52 (by first | decide | (simp only [List.mem_cons, List.not_mem_nil, or_false]; omega))
            have hRy := hRy.fr f_52 (by first | decide | (simp only [List.mem_cons, List.not_mem_nil, or_false]; omega))
            have hF := hF.tr f_52 (by simp)
            refine wp_aload_n (atd dX8_roundsOf 33 rfl) rfl rfl ?_
            refine wp_get fX8_11 (atd dX8_roundsOf 34 rfl) hO rfl ?_
            refine wp_iload_n (atd dX8_roundsOf 35 rfl) rfl ?_
            refine wp_iconst (v := nI 1) (atd dX8_roundsOf 36 rfl) (by decide) ?_
            refine wp_isubN (atd dX8_roundsOf 37 rfl) (by omega) ?_
            refine wp_iconst (v := nI 1) (atd dX8_roundsOf 38 rfl) (by decide) ?_
            refine wp_zastB (v := true) (atd dX8_roundsOf 39 rfl) hRy (by omega) (Nat.le_of_ble_eq_true rfl) (fun σ f_63 hRy => ?_)
            have hO := hO.fr f_63 (by first | decide | (simp only [List.mem_cons, List.not_mem_nil, or_false]; omega))
            have hN := hN.fr f_63 (by first | decide | (simp only [List.mem_cons, List.not_mem_nil, or_false]; omega))
            have hNA := hNA.fr f_63 (by first | decide | (simp only [List.mem_cons, List.not_mem_nil, or_false]; omega))
            have hT := hT.fr f_63 ⟨by simp only [List.mem_cons, List.not_mem_nil, or_false]; omega, by simp only [List.mem_cons, List.not_mem_nil, or_false]; omega, by simp only [List.mem_cons, List.not_mem_nil, or_false]; omega⟩
            have hLR := hLR.fr f_63 ⟨by simp only [List.mem_cons, List.not_mem_nil, or_false]; omega, by simp only [List.mem_cons, List.not_mem_nil, or_false]; omega⟩
            have hFS := hFS.fr f_63 ⟨by simp only [List.mem_cons, List.not_mem_nil, or_false]; omega, by simp only [List.mem_cons, List.not_mem_nil, or_false]; omega, by simp only [List.mem_cons, List.not_mem_nil, or_false]; omega⟩
            have hRn := hRn.fr f_63 (by first | decide | (simp only [List.mem_cons, List.not_mem_nil, or_false]; omega))
            have hPa := hPa.fr f_63 (by first | decide | (simp only [List.mem_cons, List.not_mem_nil, or_false]; omega))
            have hXa := hXa.fr f_63 (by first | decide | (simp only [List.mem_cons, List.not_mem_nil, or_false]; omega))
            have hXq := hXq.fr f_63 (by first | decide | (simp only [List.mem_cons, List.not_mem_nil, or_false]; omega))
            have hXw := hXw.fr f_63 (by first | decide | (simp only [List.mem_cons, List.not_mem_nil, or_false]; omega))
            have hF := hF.tr f_63 (by simp)
            refine wp_aload_n (atd dX8_roundsOf 40 rfl) rfl rfl ?_
            refine wp_get fX8_15 (atd dX8_roundsOf 41 rfl) hO rfl ?_
            refine wp_iload_n (atd dX8_roundsOf 42 rfl) rfl ?_
            refine wp_iconst (v := nI 1) (atd dX8_roundsOf 43 rfl) (by decide) ?_
            refine wp_isubN (atd dX8_roundsOf 44 rfl) (by omega) ?_
            refine wp_ialdO (atd dX8_roundsOf 45 rfl) hRn (by omega) (Nat.le_of_ble_eq_true rfl) ?_
            refine wp_ireti (atd dX8_roundsOf 46 rfl) rfl ?_
            have hSK2 := hSK.up hh1 hh2 hK (fun i hi => (hr1 i hi).trans (by simp only [va_up, if_neg hi])) hr2
            have hrd : ∀ g, 1 ≤ g → g ≤ 2 → nI h = nI g → 0 < n → va_up rd (h - 1) true (g - 1) = true := fun g g1 g2 e _ => by
              have : g = h := (nI_inj9 (by omega) (by omega) e).symm
              subst this
              simp [va_up]
            have hz : oI (rn2 (h - 1)) = swF nb n (nI h) (fun _ k => nI k) := by rw [swF_oI hh1 hh2 (by omega), ← hK.1]
            exact ⟨hz, hF, ⟨hT, hLR, t2, l2, hFS, by omega⟩, _, _, _, ⟨⟨_, by rw [hm0, hm1, hm2]; exact hO⟩, hRy, hRn, hPa, Or.inr ⟨ka, kq, kw, hm0, hm1, hm2, hXa, hXq, hXw⟩, hSK2⟩, hrd⟩
      ·
        refine wp_iconst (v := -1) (atd dX8_roundsOf 10 rfl) (by decide) ?_
        refine wp_ireti (atd dX8_roundsOf 11 rfl) rfl ?_
        refine ⟨(swF_f (fun z => ?_)).symm, fr.rf, ⟨hT, hLR, t, l, hFS, by omega⟩, rd, rn, pa, hS, fun h g1 g2 e g0 => ?_⟩
        · omega
        · omega
theorem eX8_roundsOf0 {G : Gx} {d : Nat} {σ : Hp} (hd : 5 ≤ d) {n t T0 : Nat} {nb : Nat → Nat} {mk : Nat → Option Nat} {rd : Nat → Bool} {rn : Nat → Option Nat} {pa : Nat → Nat} {l : List Nat} (hNt : isNetZ n nb) (hw : ∀ p, nb p < 512) (hN : OB σ 5 3 [.int (nI n), .ref (5 + 1)]) (hNA : AI σ (5 + 1) 9 nb) (hT : RT σ 13) (hLR : LR σ 13 nb) (hFS : FS σ 13 t l) (hTt : t ≤ T0) (hT0 : T0 + 23050 < 2 ^ 31) (hS : SSx σ nb n mk rd rn pa) {a : Int32} (hm0 : mk 0 = none) (hm1 : mk 1 = none) (hm2 : mk 2 = none) (hnd : ∀ h, 1 ≤ h → h ≤ 2 → a = nI h → 0 < n → rd (h - 1) ≠ true → olF n (frN (h + 1) - frN h) (frN h) ≠ none) : Cl G mX8_roundsOf d [.ref 39, .int a] σ 0 0 (pI fun z s => z = swF nb n a (fun _ k => nI k) ∧ fr [39 + 1, 39 + 2, 39 + 3] σ s ∧ RK s nb T0 ∧ ∃ rd rn pa, SSx s nb n mk rd rn pa ∧ ∀ h, 1 ≤ h → h ≤ 2 → a = nI h → 0 < n → rd (h - 1) = true) := by
  obtain ⟨d0, hdd⟩ : ∃ e, d = e + 1 := ⟨d - 1, by omega⟩
  refine cl_of (by decide) (by simp [Value.category]) (Nat.le_of_ble_eq_true rfl) ?_
  show Wp G mX8_roundsOf d 0 [.ref 39, .int a] [] σ 0 0 _
  have hF : fr [39 + 1, 39 + 2, 39 + 3] σ σ := fr.rf
  have hn := hNt.1.1
  obtain ⟨⟨qd, hO⟩, hRy, hRn, hPa, hM, hSK⟩ := id hS
  rw [hm0, hm1, hm2] at hO
  have hO : OB σ 39 8 (seF 39 5 13 .null .null .null qd) := hO
  refine wp_iload_n (atd dX8_roundsOf 0 rfl) rfl ?_
  refine wp_iconst (v := nI 1) (atd dX8_roundsOf 1 rfl) (by decide) ?_
  refine wp_icmp_lt (tgt := 20) (atd dX8_roundsOf 2 rfl) (by decide) (fun c_2 => ?_) (fun c_2 => ?_)
  ·
    refine wp_iconst (v := -1) (atd dX8_roundsOf 10 rfl) (by decide) ?_
    refine wp_ireti (atd dX8_roundsOf 11 rfl) rfl ?_
    refine ⟨(swF_f (fun z => ?_)).symm, fr.rf, ⟨hT, hLR, t, l, hFS, by omega⟩, rd, rn, pa, hS, fun h g1 g2 e g0 => ?_⟩
    · exact (isW2_iff.mpr z.1).1 c_2
    · exact absurd c_2 (isW2_iff.mpr (by rw [e]; exact isW2_nI g1 g2)).1
  ·
    refine wp_iload_n (atd dX8_roundsOf 3 rfl) rfl ?_
    refine wp_iconst (v := nI 2) (atd dX8_roundsOf 4 rfl) (by decide) ?_
    refine wp_icmp_gt (tgt := 20) (atd dX8_roundsOf 5 rfl) (by decide) (fun c_7 => ?_) (fun c_7 => ?_)
    ·
      refine wp_iconst (v := -1) (atd dX8_roundsOf 10 rfl) (by decide) ?_
      refine wp_ireti (atd dX8_roundsOf 11 rfl) rfl ?_
      refine ⟨(swF_f (fun z => ?_)).symm, fr.rf, ⟨hT, hLR, t, l, hFS, by omega⟩, rd, rn, pa, hS, fun h g1 g2 e g0 => ?_⟩
      · exact (isW2_iff.mpr z.1).2 c_7
      · exact absurd c_7 (isW2_iff.mpr (by rw [e]; exact isW2_nI g1 g2)).2
    ·
      obtain ⟨h, hh1, hh2, rfl⟩ := isW2_of (isW2_iff.mp ⟨c_2, c_7⟩)
      refine wp_aload_n (atd dX8_roundsOf 6 rfl) rfl rfl ?_
      refine wp_get fX8_22 (atd dX8_roundsOf 7 rfl) hO rfl ?_
      refine wp_get fX8_30 (atd dX8_roundsOf 8 rfl) hN rfl ?_
      refine wp_ifN_ne (tgt := 22) (atd dX8_roundsOf 9 rfl) (by decide) (by omega) (fun c_17 => ?_) (fun c_17 => ?_)
      ·
        refine wp_aload_n (atd dX8_roundsOf 12 rfl) rfl rfl ?_
        refine wp_get fX8_11 (atd dX8_roundsOf 13 rfl) hO rfl ?_
        refine wp_iload_n (atd dX8_roundsOf 14 rfl) rfl ?_
        refine wp_iconst (v := nI 1) (atd dX8_roundsOf 15 rfl) (by decide) ?_
        refine wp_isubN (atd dX8_roundsOf 16 rfl) (by omega) ?_
        refine wp_zaldB (atd dX8_roundsOf 17 rfl) hRy (by omega) (Nat.le_of_ble_eq_true rfl) ?_
        refine wp_ifB_ne (tgt := 64) (atd dX8_roundsOf 18 rfl) (by decide) (fun c_30 => ?_) (fun c_30 => ?_)
        ·
          refine wp_aload_n (atd dX8_roundsOf 40 rfl) rfl rfl ?_
          refine wp_get fX8_15 (atd dX8_roundsOf 41 rfl) hO rfl ?_
          refine wp_iload_n (atd dX8_roundsOf 42 rfl) rfl ?_
          refine wp_iconst (v := nI 1) (atd dX8_roundsOf 43 rfl) (by decide) ?_
          refine wp_isubN (atd dX8_roundsOf 44 rfl) (by omega) ?_
          refine wp_ialdO (atd dX8_roundsOf 45 rfl) hRn (by omega) (Nat.le_of_ble_eq_true rfl) ?_
          refine wp_ireti (atd dX8_roundsOf 46 rfl) rfl ?_
          refine ⟨by rw [swF_oI hh1 hh2 (by omega), (hSK h hh1 hh2 c_30).1], fr.rf, ⟨hT, hLR, t, l, hFS, by omega⟩, rd, rn, pa, hS, fun g g1 g2 e g0 => ?_⟩
          have : g = h := (nI_inj9 (by omega) (by omega) e).symm
          subst this
          exact c_30
        ·
          refine wp_aload_n (atd dX8_roundsOf 19 rfl) rfl rfl ?_
          refine wp_get fX8_15 (atd dX8_roundsOf 20 rfl) hO rfl ?_
          refine wp_iload_n (atd dX8_roundsOf 21 rfl) rfl ?_
          refine wp_iconst (v := nI 1) (atd dX8_roundsOf 22 rfl) (by decide) ?_
          refine wp_isubN (atd dX8_roundsOf 23 rfl) (by omega) ?_
          refine wp_iconst (v := -1) (atd dX8_roundsOf 24 rfl) (by decide) ?_
          refine wp_iastO (v := none) (atd dX8_roundsOf 25 rfl) hRn (by omega) (Nat.le_of_ble_eq_true rfl) (fun σ f_41 hRn => ?_)
          have hO := hO.fr f_41 (by first | decide | (simp only [List.mem_cons, List.not_mem_nil, or_false]; omega))
          have hN := hN.fr f_41 (by first | decide | (simp only [List.mem_cons, List.not_mem_nil, or_false]; omega))
          have hNA := hNA.fr f_41 (by first | decide | (simp only [List.mem_cons, List.not_mem_nil, or_false]; omega))
          have hT := hT.fr f_41 ⟨by simp only [List.mem_cons, List.not_mem_nil, or_false]; omega, by simp only [List.mem_cons, List.not_mem_nil, or_false]; omega, by simp only [List.mem_cons, List.not_mem_nil, or_false]; omega⟩
          have hLR := hLR.fr f_41 ⟨by simp only [List.mem_cons, List.not_mem_nil, or_false]; omega, by simp only [List.mem_cons, List.not_mem_nil, or_false]; omega⟩
          have hFS := hFS.fr f_41 ⟨by simp only [List.mem_cons, List.not_mem_nil, or_false]; omega, by simp only [List.mem_cons, List.not_mem_nil, or_false]; omega, by simp only [List.mem_cons, List.not_mem_nil, or_false]; omega⟩
          have hPa := hPa.fr f_41 (by first | decide | (simp only [List.mem_cons, List.not_mem_nil, or_false]; omega))
          have hRy := hRy.fr f_41 (by first | decide | (simp only [List.mem_cons, List.not_mem_nil, or_false]; omega))
          have hF := hF.tr f_41 (by simp)
          refine wp_aload_n (atd dX8_roundsOf 26 rfl) rfl rfl ?_
          refine wp_iload_n (atd dX8_roundsOf 27 rfl) rfl ?_
          refine wp_cVi hdd [_] (atd dX8_roundsOf 28 rfl) iX8_opensLit lX8_36 rfl rfl (Nat.le_of_ble_eq_true rfl) hO rfl (eX8_opensLit (by omega) hN hNA hn hw hO hFS hT hRn hPa hh1 hh2) (fun r_44 s_44 h_44 => ?_)
          obtain ⟨rfl, hol⟩ := h_44
          refine wp_ifB_ne (tgt := 55) (atd dX8_roundsOf 29 rfl) (by decide) (fun c_47 => ?_) (fun c_47 => ?_)
          ·
            obtain ⟨x, ho, f_44, hRn, hPa⟩ : ∃ x, olF n (frN (h + 1) - frN h) (frN h) = some x ∧ fr [39 + 2, 39 + 3] σ s_44 ∧ AO s_44 (39 + 2) 2 (va_up (va_up rn (h - 1) none) (h - 1) (some 0)) ∧ AI s_44 (39 + 3) 122 (va_up pa ((h - 1) * 61) x) := by
              rcases hol with ⟨e, -⟩ | z
              · exact absurd e c_47
              · exact z
            have hK := K1_lit hNt hh1 hh2 ho (rn := va_up rn (h - 1) none) (pa := pa)
            have hr1 : ∀ i, i ≠ h - 1 → va_up (va_up rn (h - 1) none) (h - 1) (some 0) i = va_up rn (h - 1) none i := fun i hi => by simp only [va_up, if_neg hi]
            have hr2 : ∀ i, i < 122 → i / 61 ≠ h - 1 → va_up pa ((h - 1) * 61) x i = pa i := fun i hi hi2 => va_up_ne pa x (by omega)
            have hO := hO.fr f_44 (by simp only [List.mem_cons, List.not_mem_nil, or_false]; omega)
            have hN := hN.fr f_44 (by simp only [List.mem_cons, List.not_mem_nil, or_false]; omega)
            have hNA := hNA.fr f_44 (by simp only [List.mem_cons, List.not_mem_nil, or_false]; omega)
            have hT := hT.fr f_44 ⟨by simp only [List.mem_cons, List.not_mem_nil, or_false]; omega, by simp only [List.mem_cons, List.not_mem_nil, or_false]; omega, by simp only [List.mem_cons, List.not_mem_nil, or_false]; omega⟩
            have hLR := hLR.fr f_44 ⟨by simp only [List.mem_cons, List.not_mem_nil, or_false]; omega, by simp only [List.mem_cons, List.not_mem_nil, or_false]; omega⟩
            have hFS := hFS.fr f_44 ⟨by simp only [List.mem_cons, List.not_mem_nil, or_false]; omega, by simp only [List.mem_cons, List.not_mem_nil, or_false]; omega, by simp only [List.mem_cons, List.not_mem_nil, or_false]; omega⟩
            have hRy := hRy.fr f_44 (by simp only [List.mem_cons, List.not_mem_nil, or_false]; omega)
            have hF := hF.tr f_44 (by simp)
            refine wp_aload_n (atd dX8_roundsOf 33 rfl) rfl rfl ?_
            refine wp_get fX8_11 (atd dX8_roundsOf 34 rfl) hO rfl ?_
            refine wp_iload_n (atd dX8_roundsOf 35 rfl) rfl ?_
            refine wp_iconst (v := nI 1) (atd dX8_roundsOf 36 rfl) (by decide) ?_
            refine wp_isubN (atd dX8_roundsOf 37 rfl) (by omega) ?_
            refine wp_iconst (v := nI 1) (atd dX8_roundsOf 38 rfl) (by decide) ?_
            refine wp_zastB (v := true) (atd dX8_roundsOf 39 rfl) hRy (by omega) (Nat.le_of_ble_eq_true rfl) (fun σ f_63 hRy => ?_)
            have hO := hO.fr f_63 (by first | decide | (simp only [List.mem_cons, List.not_mem_nil, or_false]; omega))
            have hN := hN.fr f_63 (by first | decide | (simp only [List.mem_cons, List.not_mem_nil, or_false]; omega))
            have hNA := hNA.fr f_63 (by first | decide | (simp only [List.mem_cons, List.not_mem_nil, or_false]; omega))
            have hT := hT.fr f_63 ⟨by simp only [List.mem_cons, List.not_mem_nil, or_false]; omega, by simp only [List.mem_cons, List.not_mem_nil, or_false]; omega, by simp only [List.mem_cons, List.not_mem_nil, or_false]; omega⟩
            have hLR := hLR.fr f_63 ⟨by simp only [List.mem_cons, List.not_mem_nil, or_false]; omega, by simp only [List.mem_cons, List.not_mem_nil, or_false]; omega⟩
            have hFS := hFS.fr f_63 ⟨by simp only [List.mem_cons, List.not_mem_nil, or_false]; omega, by simp only [List.mem_cons, List.not_mem_nil, or_false]; omega, by simp only [List.mem_cons, List.not_mem_nil, or_false]; omega⟩
            have hRn := hRn.fr f_63 (by first | decide | (simp only [List.mem_cons, List.not_mem_nil, or_false]; omega))
            have hPa := hPa.fr f_63 (by first | decide | (simp only [List.mem_cons, List.not_mem_nil, or_false]; omega))
            have hF := hF.tr f_63 (by simp)
            refine wp_aload_n (atd dX8_roundsOf 40 rfl) rfl rfl ?_
            refine wp_get fX8_15 (atd dX8_roundsOf 41 rfl) hO rfl ?_
            refine wp_iload_n (atd dX8_roundsOf 42 rfl) rfl ?_
            refine wp_iconst (v := nI 1) (atd dX8_roundsOf 43 rfl) (by decide) ?_
            refine wp_isubN (atd dX8_roundsOf 44 rfl) (by omega) ?_
            refine wp_ialdO (atd dX8_roundsOf 45 rfl) hRn (by omega) (Nat.le_of_ble_eq_true rfl) ?_
            refine wp_ireti (atd dX8_roundsOf 46 rfl) rfl ?_
            have hSK2 := hSK.up hh1 hh2 hK (fun i hi => (hr1 i hi).trans (by simp only [va_up, if_neg hi])) hr2
            have hrd : ∀ g, 1 ≤ g → g ≤ 2 → nI h = nI g → 0 < n → va_up rd (h - 1) true (g - 1) = true := fun g g1 g2 e _ => by
              have : g = h := (nI_inj9 (by omega) (by omega) e).symm
              subst this
              simp [va_up]
            have hz : oI (va_up (va_up rn (h - 1) none) (h - 1) (some 0) (h - 1)) = swF nb n (nI h) (fun _ k => nI k) := by rw [swF_oI hh1 hh2 (by omega), ← hK.1]
            exact ⟨hz, hF, ⟨hT, hLR, t, l, hFS, by omega⟩, _, _, _, ⟨⟨_, by rw [hm0, hm1, hm2]; exact hO⟩, hRy, hRn, hPa, Or.inl ⟨hm0, hm1, hm2⟩, hSK2⟩, hrd⟩
          · exact absurd (Classical.not_not.mp c_47) (hnd h hh1 hh2 rfl (by omega) c_30)
      ·
        refine wp_iconst (v := -1) (atd dX8_roundsOf 10 rfl) (by decide) ?_
        refine wp_ireti (atd dX8_roundsOf 11 rfl) rfl ?_
        refine ⟨(swF_f (fun z => ?_)).symm, fr.rf, ⟨hT, hLR, t, l, hFS, by omega⟩, rd, rn, pa, hS, fun h g1 g2 e g0 => ?_⟩
        · omega
        · omega
theorem eX8_roundsOf2 {G : Gx} {d : Nat} {σ : Hp} (hd : 5 ≤ d) {n t T0 : Nat} {nb : Nat → Nat} {mk : Nat → Option Nat} {rd : Nat → Bool} {rn : Nat → Option Nat} {pa : Nat → Nat} {l : List Nat} (hNt : isNetZ n nb) (hw : ∀ p, nb p < 512) (hN : OB σ 5 3 [.int (nI n), .ref (5 + 1)]) (hNA : AI σ (5 + 1) 9 nb) (hT : RT σ 13) (hLR : LR σ 13 nb) (hFS : FS σ 13 t l) (hTt : t ≤ T0) (hT0 : T0 + 23050 < 2 ^ 31) (hS : SSx σ nb n mk rd rn pa) {h : Nat} (hlo : 104 ≤ σ.1) (hm0 : mk 0 = none) (hm1 : mk 1 = none) (hm2 : mk 2 = none) (hh1 : 1 ≤ h) (hh2 : h ≤ 2) (hn0 : 0 < n) (hrd0 : rd (h - 1) ≠ true) (ho0 : olF n (frN (h + 1) - frN h) (frN h) = none) : Cl G mX8_roundsOf d [.ref 39, .int (nI h)] σ 3 46592 (pI fun z s => z = swF nb n (nI h) (fun _ k => nI k) ∧ fA [39 + 1, 39, 39 + 2, 39 + 3, 13, 13 + 6, 13 + 7] σ s ∧ s.1 = σ.1 + 3 ∧ RK s nb (T0 + 23040) ∧ ∃ rd rn pa, SSx s nb n (mk3 mk σ.1) rd rn pa ∧ rd (h - 1) = true) := by
  obtain ⟨d0, hdd⟩ : ∃ e, d = e + 1 := ⟨d - 1, by omega⟩
  refine cl_of (by decide) (by simp [Value.category]) (Nat.le_of_ble_eq_true rfl) ?_
  show Wp G mX8_roundsOf d 0 [.ref 39, .int (nI h)] [] σ 3 46592 _
  have hF : fr [39 + 1, 39 + 2, 39 + 3] σ σ := fr.rf
  have hn := hNt.1.1
  obtain ⟨⟨qd, hO⟩, hRy, hRn, hPa, hM, hSK⟩ := id hS
  rw [hm0, hm1, hm2] at hO
  have hO : OB σ 39 8 (seF 39 5 13 .null .null .null qd) := hO
  have hv := isW2_iff.mpr (isW2_nI hh1 hh2)
  obtain ⟨L0, hL0⟩ : ∃ L, L = σ.1 := ⟨_, rfl⟩
  rw [← hL0]
  refine wp_iload_n (atd dX8_roundsOf 0 rfl) rfl ?_
  refine wp_iconst (v := nI 1) (atd dX8_roundsOf 1 rfl) (by decide) ?_
  refine wp_icmpN_lt (tgt := 20) (atd dX8_roundsOf 2 rfl) (by decide) (by omega) (by omega) (fun c_2 => ?_) (fun c_2 => ?_)
  · exfalso; omega
  ·
    refine wp_iload_n (atd dX8_roundsOf 3 rfl) rfl ?_
    refine wp_iconst (v := nI 2) (atd dX8_roundsOf 4 rfl) (by decide) ?_
    refine wp_icmpN_gt (tgt := 20) (atd dX8_roundsOf 5 rfl) (by decide) (by omega) (by omega) (fun c_7 => ?_) (fun c_7 => ?_)
    · exfalso; omega
    ·
      refine wp_aload_n (atd dX8_roundsOf 6 rfl) rfl rfl ?_
      refine wp_get fX8_22 (atd dX8_roundsOf 7 rfl) hO rfl ?_
      refine wp_get fX8_30 (atd dX8_roundsOf 8 rfl) hN rfl ?_
      refine wp_ifN_ne (tgt := 22) (atd dX8_roundsOf 9 rfl) (by decide) (by omega) (fun c_17 => ?_) (fun c_17 => ?_)
      ·
        refine wp_aload_n (atd dX8_roundsOf 12 rfl) rfl rfl ?_
        refine wp_get fX8_11 (atd dX8_roundsOf 13 rfl) hO rfl ?_
        refine wp_iload_n (atd dX8_roundsOf 14 rfl) rfl ?_
        refine wp_iconst (v := nI 1) (atd dX8_roundsOf 15 rfl) (by decide) ?_
        refine wp_isubN (atd dX8_roundsOf 16 rfl) (by omega) ?_
        refine wp_zaldB (atd dX8_roundsOf 17 rfl) hRy (by omega) (Nat.le_of_ble_eq_true rfl) ?_
        refine wp_ifB_ne (tgt := 64) (atd dX8_roundsOf 18 rfl) (by decide) (fun c_30 => ?_) (fun c_30 => ?_)
        · exact absurd c_30 hrd0
        ·
          refine wp_aload_n (atd dX8_roundsOf 19 rfl) rfl rfl ?_
          refine wp_get fX8_15 (atd dX8_roundsOf 20 rfl) hO rfl ?_
          refine wp_iload_n (atd dX8_roundsOf 21 rfl) rfl ?_
          refine wp_iconst (v := nI 1) (atd dX8_roundsOf 22 rfl) (by decide) ?_
          refine wp_isubN (atd dX8_roundsOf 23 rfl) (by omega) ?_
          refine wp_iconst (v := -1) (atd dX8_roundsOf 24 rfl) (by decide) ?_
          refine wp_iastO (v := none) (atd dX8_roundsOf 25 rfl) hRn (by omega) (Nat.le_of_ble_eq_true rfl) (fun σ f_41 hRn => ?_)
          have hO := hO.fr f_41 (by first | decide | (simp only [List.mem_cons, List.not_mem_nil, or_false]; omega))
          have hT := hT.fr f_41 ⟨by simp only [List.mem_cons, List.not_mem_nil, or_false]; omega, by simp only [List.mem_cons, List.not_mem_nil, or_false]; omega, by simp only [List.mem_cons, List.not_mem_nil, or_false]; omega⟩
          have hLR := hLR.fr f_41 ⟨by simp only [List.mem_cons, List.not_mem_nil, or_false]; omega, by simp only [List.mem_cons, List.not_mem_nil, or_false]; omega⟩
          have hFS := hFS.fr f_41 ⟨by simp only [List.mem_cons, List.not_mem_nil, or_false]; omega, by simp only [List.mem_cons, List.not_mem_nil, or_false]; omega, by simp only [List.mem_cons, List.not_mem_nil, or_false]; omega⟩
          have hPa := hPa.fr f_41 (by first | decide | (simp only [List.mem_cons, List.not_mem_nil, or_false]; omega))
          have hRy := hRy.fr f_41 (by first | decide | (simp only [List.mem_cons, List.not_mem_nil, or_false]; omega))
          have hF := hF.tr f_41 (by simp)
          have hN := hN.fr f_41 (by simp only [List.mem_cons, List.not_mem_nil, or_false]; omega)
          have hNA := hNA.fr f_41 (by simp only [List.mem_cons, List.not_mem_nil, or_false]; omega)
          refine wp_aload_n (atd dX8_roundsOf 26 rfl) rfl rfl ?_
          refine wp_iload_n (atd dX8_roundsOf 27 rfl) rfl ?_
          refine wp_cVi hdd [_] (atd dX8_roundsOf 28 rfl) iX8_opensLit lX8_36 rfl rfl (Nat.le_of_ble_eq_true rfl) hO rfl (eX8_opensLit (by omega) hN hNA hn hw hO hFS hT hRn hPa hh1 hh2) (fun r_44 s_44 h_44 => ?_)
          obtain ⟨rfl, hol⟩ := h_44
          refine wp_ifB_ne (tgt := 55) (atd dX8_roundsOf 29 rfl) (by decide) (fun c_47 => ?_) (fun c_47 => ?_)
          · exact absurd ho0 c_47
          ·
            obtain ⟨ho, es⟩ : olF n (frN (h + 1) - frN h) (frN h) = none ∧ s_44 = σ := by
              rcases hol with z | ⟨x, e, -⟩
              · exact z
              · exact absurd e (by rw [Classical.not_not.mp c_47]; intro z; cases z)
            subst es
            have hs1 : s_44.1 = L0 := by rw [hF.1]; exact hL0.symm
            refine wp_aload_n (atd dX8_roundsOf 30 rfl) rfl rfl ?_
            refine wp_iload_n (atd dX8_roundsOf 31 rfl) rfl ?_
            refine wp_cVvA hdd [_] (atd dX8_roundsOf 32 rfl) iX8_explore lX8_40 rfl rfl (Nat.le_of_ble_eq_true rfl) hO rfl (eX8_explore0 (by omega) hNt hw hh1 hh2 (by omega) hO hN hNA hT hLR hFS hTt hT0 hRn hPa (by simp [va_up]) (noLit_0 ho)) (show 3 = 3 + 0 from rfl) (show 46592 = 46592 + 0 from rfl) (fun s_52 h_52 => ?_)
            obtain ⟨f_52, hs2, hex⟩ := h_52
            rw [show s_44.1 = L0 from hs1] at hs2 hex
            obtain ⟨⟨qd2, hO⟩, ⟨hT, hLR, t2, l2, hFS, hTt2⟩, hXa, hXq, hXw, rn2, pa2, hRn, hPa, hK, hr1, hr2⟩ := hex
            have hRy := hRy.fA f_52 (by omega) (by simp only [List.mem_cons, List.not_mem_nil, or_false]; omega)
            have hA := (hF.mono (T := [39 + 1, 39, 39 + 2, 39 + 3, 13, 13 + 6, 13 + 7]) (by simp)).A.tr f_52 (by simp)
            have hF : fr [39 + 1] s_52 s_52 := fr.rf
            refine wp_aload_n (atd dX8_roundsOf 33 rfl) rfl rfl ?_
            refine wp_get fX8_11 (atd dX8_roundsOf 34 rfl) hO rfl ?_
            refine wp_iload_n (atd dX8_roundsOf 35 rfl) rfl ?_
            refine wp_iconst (v := nI 1) (atd dX8_roundsOf 36 rfl) (by decide) ?_
            refine wp_isubN (atd dX8_roundsOf 37 rfl) (by omega) ?_
            refine wp_iconst (v := nI 1) (atd dX8_roundsOf 38 rfl) (by decide) ?_
            refine wp_zastB (v := true) (atd dX8_roundsOf 39 rfl) hRy (by omega) (Nat.le_of_ble_eq_true rfl) (fun σ f_63 hRy => ?_)
            have hO := hO.fr f_63 (by first | decide | (simp only [List.mem_cons, List.not_mem_nil, or_false]; omega))
            have hT := hT.fr f_63 ⟨by simp only [List.mem_cons, List.not_mem_nil, or_false]; omega, by simp only [List.mem_cons, List.not_mem_nil, or_false]; omega, by simp only [List.mem_cons, List.not_mem_nil, or_false]; omega⟩
            have hLR := hLR.fr f_63 ⟨by simp only [List.mem_cons, List.not_mem_nil, or_false]; omega, by simp only [List.mem_cons, List.not_mem_nil, or_false]; omega⟩
            have hFS := hFS.fr f_63 ⟨by simp only [List.mem_cons, List.not_mem_nil, or_false]; omega, by simp only [List.mem_cons, List.not_mem_nil, or_false]; omega, by simp only [List.mem_cons, List.not_mem_nil, or_false]; omega⟩
            have hRn := hRn.fr f_63 (by first | decide | (simp only [List.mem_cons, List.not_mem_nil, or_false]; omega))
            have hPa := hPa.fr f_63 (by first | decide | (simp only [List.mem_cons, List.not_mem_nil, or_false]; omega))
            have hF := hF.tr f_63 (by simp)
            have hXa := hXa.fr f_63 (by simp only [List.mem_cons, List.not_mem_nil, or_false]; omega)
            have hXq := hXq.fr f_63 (by simp only [List.mem_cons, List.not_mem_nil, or_false]; omega)
            have hXw := hXw.fr f_63 (by simp only [List.mem_cons, List.not_mem_nil, or_false]; omega)
            refine wp_aload_n (atd dX8_roundsOf 40 rfl) rfl rfl ?_
            refine wp_get fX8_15 (atd dX8_roundsOf 41 rfl) hO rfl ?_
            refine wp_iload_n (atd dX8_roundsOf 42 rfl) rfl ?_
            refine wp_iconst (v := nI 1) (atd dX8_roundsOf 43 rfl) (by decide) ?_
            refine wp_isubN (atd dX8_roundsOf 44 rfl) (by omega) ?_
            refine wp_ialdO (atd dX8_roundsOf 45 rfl) hRn (by omega) (Nat.le_of_ble_eq_true rfl) ?_
            refine wp_ireti (atd dX8_roundsOf 46 rfl) rfl ?_
            have hSK2 := hSK.up hh1 hh2 hK (fun i hi => (hr1 i hi).trans (by simp only [va_up, if_neg hi])) hr2
            have hrd : ∀ g, 1 ≤ g → g ≤ 2 → nI h = nI g → 0 < n → va_up rd (h - 1) true (g - 1) = true := fun g g1 g2 e _ => by
              have : g = h := (nI_inj9 (by omega) (by omega) e).symm
              subst this
              simp [va_up]
            have hz : oI (rn2 (h - 1)) = swF nb n (nI h) (fun _ k => nI k) := by rw [swF_oI hh1 hh2 (by omega), ← hK.1]
            refine ⟨hz, hA.tr hF.A (by simp), by rw [hF.1, hs2], ⟨hT, hLR, t2, l2, hFS, by omega⟩, _, _, _, ⟨⟨_, hO⟩, hRy, hRn, hPa, Or.inr ⟨L0, L0 + 1, L0 + 2, rfl, rfl, rfl, hXa, hXq, hXw⟩, hSK2⟩, by simp [va_up]⟩
      · exfalso; omega
