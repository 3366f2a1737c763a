/-! symmetries: all of them counted one by one are as many as images of one place behind the other, multiplied -/
theorem perm_of_sub {α : Type} : ∀ (l1 l2 : List α), l1.Nodup → (∀ x ∈ l1, x ∈ l2) → l2.length ≤ l1.length → l1.Perm l2
  | [], l2, _, _, h => by
    have : l2 = [] := List.length_eq_zero_iff.mp (Nat.le_zero.mp h)
    rw [this]
  | a :: l1, l2, hn, hs, hl => by
    obtain ⟨s, t, rfl⟩ := List.append_of_mem (hs a (List.mem_cons_self))
    rw [List.nodup_cons] at hn
    refine (List.Perm.cons a (perm_of_sub l1 (s ++ t) hn.2 (fun x hx => ?_) ?_)).trans List.perm_middle.symm
    · have := hs x (List.mem_cons_of_mem _ hx)
      rw [List.mem_append, List.mem_cons] at this
      rw [List.mem_append]
      rcases this with h | h | h
      · exact Or.inl h
      · subst h; exact absurd hx hn.1
      · exact Or.inr h
    · simp only [List.length_append, List.length_cons] at hl ⊢; omega
theorem nodup_map_in {g : Nat → Nat} : ∀ (l : List Nat), l.Nodup → (∀ x ∈ l, ∀ y ∈ l, g x = g y → x = y) → (l.map g).Nodup
  | [], _, _ => List.nodup_nil
  | a :: l, hn, hi => by
    rw [List.nodup_cons] at hn
    rw [List.map_cons, List.nodup_cons]
    refine ⟨fun z => ?_, nodup_map_in l hn.2 (fun x hx y hy => hi x (List.mem_cons_of_mem _ hx) y (List.mem_cons_of_mem _ hy))⟩
    obtain ⟨b, hb, e⟩ := List.mem_map.mp z
    have := hi b (List.mem_cons_of_mem _ hb) a (List.mem_cons_self) e
    subst this
    exact hn.1 hb
theorem sum_perm {n : Nat} {g F : Nat → Nat} (h1 : ∀ x, x < n → g x < n) (h2 : ∀ x y, x < n → y < n → g x = g y → x = y) : ((List.range n).map (fun v => F (g v))).sum = ((List.range n).map F).sum := by
  have hp : ((List.range n).map g).Perm (List.range n) := perm_of_sub _ _ (nodup_map_in _ List.nodup_range (fun x hx y hy => h2 x y (List.mem_range.mp hx) (List.mem_range.mp hy))) (fun x hx => by
    obtain ⟨y, hy, rfl⟩ := List.mem_map.mp hx
    exact List.mem_range.mpr (h1 y (List.mem_range.mp hy))) (by rw [List.length_map]; exact Nat.le_refl _)
  have := (hp.map F).sum_nat
  rw [List.map_map] at this
  exact this
theorem fl_sum {α : Type} {G : Nat → α → α} {m : α → Nat} {F : Nat → Nat} : ∀ (k i : Nat) (s : α), (∀ v s, i ≤ v → v < i + k → m (G v s) = m s + F v) → m (fl G k i s) = m s + ((List.range' i k).map F).sum
  | 0, i, s, _ => rfl
  | k + 1, i, s, h => by
    show m (fl G k (i + 1) (G i s)) = _
    rw [fl_sum k (i + 1) (G i s) (fun v s h1 h2 => h v s (by omega) (by omega)), h i s (by omega) (by omega), List.range'_succ, List.map_cons, List.sum_cons]
    omega
section Sym
variable {nb : Nat → Nat} {n : Nat}
def cN (nb : Nat → Nat) (n : Nat) : Nat → Nat → (Nat → Nat) → Nat
  | 0, _, _ => 1
  | r + 1, k, f => ((List.range n).map (fun v => if fitB nb k v f = true then cN nb n r (k + 1) (va_up f k v) else 0)).sum
theorem syD_cN : ∀ (r k : Nat) (f : Nat → Nat) (s : Sy), (syD nb n r k f s).1 = s.1 + cN nb n r k f
  | 0, _, _, _ => rfl
  | r + 1, k, f, s => by
    unfold syD cN
    rw [List.range_eq_range']
    refine fl_sum (m := fun s : Sy => s.1) n 0 s (fun v s _ _ => ?_)
    by_cases h : fitB nb k v f = true
    · rw [if_pos h, if_pos h]; exact syD_cN r (k + 1) _ s
    · rw [if_neg h, if_neg h]; rfl
def fitP (nb : Nat → Nat) (k v : Nat) (f : Nat → Nat) : Prop := (∀ i, i < k → f i ≠ v ∧ (nb k).testBit i = (nb v).testBit (f i)) ∧ cnt (nb k) = cnt (nb v)
theorem fitG_iff {k v : Nat} {f : Nat → Nat} : ∀ (g i : Nat), fitG nb k v f g i = true ↔ (∀ x, i ≤ x → x < i + g → f x ≠ v ∧ (nb k).testBit x = (nb v).testBit (f x)) ∧ cnt (nb k) = cnt (nb v)
  | 0, i => by
    show decide _ = true ↔ _
    rw [decide_eq_true_iff]
    exact ⟨fun h => ⟨fun x h1 h2 => by omega, h⟩, fun h => h.2⟩
  | g + 1, i => by
    rw [fitG]
    by_cases h : f i = v ∨ (nb k).testBit i ≠ (nb v).testBit (f i)
    · rw [if_pos h]
      refine ⟨fun z => (by cases z), fun z => ?_⟩
      obtain ⟨a, b⟩ := z.1 i (Nat.le_refl _) (by omega)
      rcases h with q | q
      · exact absurd q a
      · exact absurd b q
    · rw [if_neg h, fitG_iff g (i + 1)]
      have h1 : f i ≠ v := fun z => h (Or.inl z)
      have h2 : (nb k).testBit i = (nb v).testBit (f i) := Classical.byContradiction fun z => h (Or.inr z)
      refine and_congr_left fun _ => ⟨fun z x a b => ?_, fun z x a b => z x (by omega) (by omega)⟩
      by_cases e : x = i
      · subst e; exact ⟨h1, h2⟩
      · exact z x (by omega) (by omega)
theorem fitB_iff {k v : Nat} {f : Nat → Nat} : fitB nb k v f = true ↔ fitP nb k v f := by
  unfold fitB fitP
  rw [fitG_iff]
  refine and_congr_left fun _ => ⟨fun z i hi => z i (Nat.zero_le _) (by omega), fun z i _ hi => z i (by omega)⟩
theorem fitP_cg {k v : Nat} {f g : Nat → Nat} (h : ∀ i, i < k → f i = g i) : fitP nb k v f ↔ fitP nb k v g := by
  unfold fitP
  refine and_congr_left fun _ => ⟨fun z i hi => by rw [← h i hi]; exact z i hi, fun z i hi => by rw [h i hi]; exact z i hi⟩
theorem fitB_cg {k v : Nat} {f g : Nat → Nat} (h : ∀ i, i < k → f i = g i) : fitB nb k v f = fitB nb k v g := Bool.eq_iff_iff.mpr (fitB_iff.trans ((fitP_cg h).trans fitB_iff.symm))
theorem up_cg {f g : Nat → Nat} {k v : Nat} (h : ∀ i, i < k → f i = g i) : ∀ i, i < k + 1 → va_up f k v i = va_up g k v i := fun i hi => by
  unfold va_up
  by_cases e : i = k
  · rw [if_pos e, if_pos e]
  · rw [if_neg e, if_neg e]; exact h i (by omega)
theorem cN_cg : ∀ (r k : Nat) (f g : Nat → Nat), (∀ i, i < k → f i = g i) → cN nb n r k f = cN nb n r k g
  | 0, _, _, _, _ => rfl
  | r + 1, k, f, g, h => by
    unfold cN
    congr 1
    refine List.map_congr_left fun v _ => ?_
    rw [fitB_cg h, cN_cg r (k + 1) (va_up f k v) (va_up g k v) (up_cg h)]
/-- a way of numbering anew that keeps all lines -/
def Aut (nb : Nat → Nat) (n : Nat) (g : Nat → Nat) : Prop := (∀ x, x < n → g x < n) ∧ (∀ x y, x < n → y < n → g x = g y → x = y) ∧ (∀ x y, x < n → y < n → (nb x).testBit y = (nb (g x)).testBit (g y)) ∧ ∀ x, x < n → cnt (nb x) = cnt (nb (g x))
theorem cN_iso {g : Nat → Nat} (hg : Aut nb n g) : ∀ (r k : Nat) (f f2 : Nat → Nat), k + r = n → (∀ i, i < k → f i < n ∧ f2 i = g (f i)) → cN nb n r k f2 = cN nb n r k f
  | 0, _, _, _, _, _ => rfl
  | r + 1, k, f, f2, hk, h => by
    unfold cN
    rw [← sum_perm (F := fun v => if fitB nb k v f2 = true then cN nb n r (k + 1) (va_up f2 k v) else 0) hg.1 hg.2.1]
    congr 1
    refine List.map_congr_left fun v hv => ?_
    have hv := List.mem_range.mp hv
    have e : fitB nb k (g v) f2 = fitB nb k v f := Bool.eq_iff_iff.mpr (by
      rw [fitB_iff, fitB_iff]
      unfold fitP
      rw [hg.2.2.2 v hv]
      refine and_congr_left fun _ => ⟨fun z i hi => ?_, fun z i hi => ?_⟩
      · obtain ⟨a, b⟩ := z i hi
        rw [(h i hi).2] at a b
        refine ⟨fun q => a (by rw [q]), ?_⟩
        rw [b, ← hg.2.2.1 v (f i) hv (h i hi).1]
      · obtain ⟨a, b⟩ := z i hi
        rw [(h i hi).2]
        refine ⟨fun q => a (hg.2.1 _ _ (h i hi).1 hv q), ?_⟩
        rw [b, ← hg.2.2.1 v (f i) hv (h i hi).1])
    show (if fitB nb k (g v) f2 = true then cN nb n r (k + 1) (va_up f2 k (g v)) else 0) = (if fitB nb k v f = true then cN nb n r (k + 1) (va_up f k v) else 0)
    rw [e]
    by_cases hf : fitB nb k v f = true
    · rw [if_pos hf, if_pos hf]
      refine cN_iso hg r (k + 1) (va_up f k v) (va_up f2 k (g v)) (by omega) (fun i hi => ?_)
      unfold va_up
      by_cases q : i = k
      · rw [if_pos q, if_pos q]; exact ⟨hv, rfl⟩
      · rw [if_neg q, if_neg q]; exact h i (by omega)
    · rw [if_neg hf, if_neg hf]
theorem sum_pos : ∀ (l : List Nat), l.sum ≠ 0 ↔ ∃ x ∈ l, x ≠ 0
  | [] => ⟨fun z => absurd rfl z, fun ⟨x, hx, _⟩ => by cases hx⟩
  | a :: l => by
    rw [List.sum_cons]
    have ih := sum_pos l
    constructor
    · intro z
      by_cases ha : a = 0
      · obtain ⟨x, hx, h0⟩ := ih.mp (by omega)
        exact ⟨x, List.mem_cons_of_mem _ hx, h0⟩
      · exact ⟨a, List.mem_cons_self, ha⟩
    · rintro ⟨x, hx, h0⟩
      rcases List.mem_cons.mp hx with rfl | hx
      · omega
      · have := ih.mpr ⟨x, hx, h0⟩; omega
theorem cN_s {r k : Nat} {f : Nat → Nat} : cN nb n (r + 1) k f ≠ 0 ↔ ∃ v, v < n ∧ fitB nb k v f = true ∧ cN nb n r (k + 1) (va_up f k v) ≠ 0 := by
  rw [cN, sum_pos]
  constructor
  · rintro ⟨x, hx, h0⟩
    obtain ⟨v, hv, rfl⟩ := List.mem_map.mp hx
    by_cases h : fitB nb k v f = true
    · rw [if_pos h] at h0; exact ⟨v, List.mem_range.mp hv, h, h0⟩
    · rw [if_neg h] at h0; exact absurd rfl h0
  · rintro ⟨v, hv, h, h0⟩
    exact ⟨_, List.mem_map.mpr ⟨v, List.mem_range.mpr hv, rfl⟩, by rw [if_pos h]; exact h0⟩
/-- an extension that fits everywhere -/
def isX (nb : Nat → Nat) (n k r : Nat) (f g : Nat → Nat) : Prop := (∀ i, i < k → g i = f i) ∧ ∀ x, k ≤ x → x < k + r → g x < n ∧ fitP nb x (g x) g
theorem isX_s {k r : Nat} {f g : Nat → Nat} : isX nb n k (r + 1) f g ↔ ∃ v, v < n ∧ fitP nb k v f ∧ isX nb n (k + 1) r (va_up f k v) g := by
  constructor
  · rintro ⟨h1, h2⟩
    obtain ⟨a, b⟩ := h2 k (Nat.le_refl _) (by omega)
    refine ⟨g k, a, (fitP_cg h1).mp b, fun i hi => ?_, fun x hx hx2 => h2 x (by omega) (by omega)⟩
    unfold va_up
    by_cases e : i = k
    · rw [if_pos e, e]
    · rw [if_neg e]; exact h1 i (by omega)
  · rintro ⟨v, hv, hf, h1, h2⟩
    have hg : ∀ i, i < k → g i = f i := fun i hi => by rw [h1 i (by omega)]; unfold va_up; rw [if_neg (by omega)]
    have hk : g k = v := by rw [h1 k (by omega)]; unfold va_up; rw [if_pos rfl]
    refine ⟨hg, fun x hx hx2 => ?_⟩
    by_cases e : x = k
    · subst e; rw [hk]; exact ⟨hv, (fitP_cg hg).mpr hf⟩
    · exact h2 x (by omega) (by omega)
theorem cN_X : ∀ (r k : Nat) (f : Nat → Nat), cN nb n r k f ≠ 0 ↔ ∃ g, isX nb n k r f g
  | 0, k, f => ⟨fun _ => ⟨f, fun _ _ => rfl, fun x h1 h2 => by omega⟩, fun _ => by show (1 : Nat) ≠ 0; decide⟩
  | r + 1, k, f => by
    rw [cN_s]
    constructor
    · rintro ⟨v, hv, hf, h⟩
      obtain ⟨g, hg⟩ := (cN_X r (k + 1) _).mp h
      exact ⟨g, isX_s.mpr ⟨v, hv, fitB_iff.mp hf, hg⟩⟩
    · rintro ⟨g, hg⟩
      obtain ⟨v, hv, hf, h⟩ := isX_s.mp hg
      exact ⟨v, hv, fitB_iff.mpr hf, (cN_X r (k + 1) _).mpr ⟨g, h⟩⟩
theorem X_aut (hN : isNet n nb) {f g : Nat → Nat} (h : isX nb n 0 n f g) : Aut nb n g := by
  have h2 : ∀ x, x < n → g x < n ∧ fitP nb x (g x) g := fun x hx => h.2 x (Nat.zero_le _) (by omega)
  have hlt : ∀ x y, x < y → y < n → g x ≠ g y ∧ (nb y).testBit x = (nb (g y)).testBit (g x) := fun x y hxy hy => (h2 y hy).2.1 x hxy
  refine ⟨fun x hx => (h2 x hx).1, fun x y hx hy e => ?_, fun x y hx hy => ?_, fun x hx => (h2 x hx).2.2⟩
  · rcases Nat.lt_trichotomy x y with q | q | q
    · exact absurd e (hlt x y q hy).1
    · exact q
    · exact absurd e.symm (hlt y x q hx).1
  · rcases Nat.lt_trichotomy x y with q | q | q
    · rw [hN.2.2.2 x y hx hy, (hlt x y q hy).2, hN.2.2.2 _ _ (h2 y hy).1 (h2 x hx).1]
    · subst q; rw [hN.2.2.1 x hx, hN.2.2.1 _ (h2 x hx).1]
    · exact (hlt y x q hx).2
theorem aut_fit {g : Nat → Nat} (h : Aut nb n g) {x : Nat} (hx : x < n) : fitP nb x (g x) g := ⟨fun i hi => ⟨fun e => by have := h.2.1 i x (by omega) hx e; omega, h.2.2.1 x i hx (by omega)⟩, h.2.2.2 x hx⟩
/-! the class's fits -/
theorem fitC_P (hN : isNet n nb) {od nu : Nat → Nat} {i v : Nat} (hod : ∀ x, x ≤ i → od x < n) (hinj : ∀ x, x < i → od x ≠ od i) (hnu : ∀ x, x < i → nu x < n) (hv : v < n) : fitC nb n od nu i v = true ↔ cnt (nb (od i)) = cnt (nb v) ∧ ∀ x, x < i → nu x ≠ v ∧ (nb (od x)).testBit (od i) = (nb (nu x)).testBit v := by
  have hc : ∀ x, x < n → 1 ≤ cnt (nb x) := fun x hx => cnt_pos (Nat.lt_of_lt_of_le (hN.2.1 x hx) (pow9 hN.1)) (hN.2.2.1 x hx)
  unfold fitC
  rw [Bool.and_eq_true, decide_eq_true_iff, fitL_iff]
  have h1 := hc _ (hod i (Nat.le_refl _))
  have h2 := hc v hv
  refine and_congr ⟨fun z => by omega, fun z => by omega⟩ ⟨fun z x hx => ?_, fun z x _ hx => ?_⟩
  · obtain ⟨a, b⟩ := z x (Nat.zero_le _) (by omega)
    refine ⟨a, Bool.eq_iff_iff.mpr ?_⟩
    have b := Bool.eq_iff_iff.mp b
    unfold jn at b
    rw [decide_eq_true_iff, decide_eq_true_iff] at b
    exact ⟨fun q => (b.mp ⟨hinj x hx, hod i (Nat.le_refl _), q⟩).2.2, fun q => (b.mpr ⟨a, hv, q⟩).2.2⟩
  · obtain ⟨a, b⟩ := z x (by omega)
    refine ⟨a, Bool.eq_iff_iff.mpr ?_⟩
    unfold jn
    rw [decide_eq_true_iff, decide_eq_true_iff, b]
    exact ⟨fun q => ⟨a, hv, q.2.2⟩, fun q => ⟨hinj x (by omega), hod i (Nat.le_refl _), q.2.2⟩⟩
theorem fitC_id (hN : isNet n nb) {nu : Nat → Nat} {i v : Nat} (hi : i < n) (hnu : ∀ x, x < i → nu x < n) (hv : v < n) : fitC nb n id nu i v = fitB nb i v nu := Bool.eq_iff_iff.mpr (by
  rw [fitC_P hN (od := id) (fun x hx => by show x < n; omega) (fun x hx => by show x ≠ i; omega) hnu hv, fitB_iff]
  unfold fitP
  constructor
  · rintro ⟨a, b⟩
    refine ⟨fun x hx => ⟨(b x hx).1, ?_⟩, a⟩
    rw [hN.2.2.2 i x hi (by omega), hN.2.2.2 v _ hv (hnu x hx)]
    exact (b x hx).2
  · rintro ⟨b, a⟩
    refine ⟨a, fun x hx => ⟨(b x hx).1, ?_⟩⟩
    show (nb x).testBit i = _
    rw [hN.2.2.2 x i (by omega) hi, hN.2.2.2 _ v (hnu x hx) hv]
    exact (b x hx).2)
theorem up_ltn {nu : Nat → Nat} {i q : Nat} (hnu : ∀ y, y < i → nu y < n) (hq : q < n) : ∀ y, y < i + 1 → va_up nu i q y < n := fun y hy => by
  unfold va_up
  by_cases e : y = i
  · rw [if_pos e]; exact hq
  · rw [if_neg e]; exact hnu y (by omega)
theorem cpl_cN (hN : isNet n nb) : ∀ (x i : Nat) (nu : Nat → Nat), i + x = n → (∀ y, y < i → nu y < n) → (cpl nb n id x i nu = true ↔ cN nb n x i nu ≠ 0)
  | 0, _, _, _, _ => ⟨fun _ => by show (1 : Nat) ≠ 0; decide, fun _ => rfl⟩
  | x + 1, i, nu, hi, hnu => by
    rw [cpl, anyB_iff, cN_s]
    constructor
    · rintro ⟨q, -, h2, h3⟩
      rw [Bool.and_eq_true, fitC_id hN (by omega) hnu (by omega)] at h3
      exact ⟨q, by omega, h3.1, (cpl_cN hN x (i + 1) _ (by omega) (up_ltn hnu (by omega))).mp h3.2⟩
    · rintro ⟨q, h1, h2, h3⟩
      refine ⟨q, Nat.zero_le _, by omega, ?_⟩
      rw [Bool.and_eq_true, fitC_id hN (by omega) hnu (by omega)]
      exact ⟨h2, (cpl_cN hN x (i + 1) _ (by omega) (up_ltn hnu h1)).mpr h3⟩
theorem cb_id (hN : isNet n nb) {p q : Nat} (hp : p < n) (hq : q < n) : cbB nb n id id p q = true ↔ fitB nb p q id = true ∧ cN nb n (n - (p + 1)) (p + 1) (va_up id p q) ≠ 0 := by
  unfold cbB
  rw [Bool.and_eq_true, fitC_id hN hp (fun x hx => by show x < n; omega) hq, cpl_cN hN (n - (p + 1)) (p + 1) _ (by omega) (fun y hy => by
    unfold va_up
    split
    · omega
    · show y < n; omega)]
theorem id_fit (hN : isNet n nb) {x : Nat} (hx : x < n) : fitP nb x x id := ⟨fun i hi => ⟨by show i ≠ x; omega, rfl⟩, rfl⟩
theorem cN_img (hN : isNet n nb) {p q : Nat} (hp : p < n) (hq : q < n) (h : cbB nb n id id p q = true) : cN nb n (n - (p + 1)) (p + 1) (va_up id p q) = cN nb n (n - (p + 1)) (p + 1) id := by
  obtain ⟨h1, h2⟩ := (cb_id hN hp hq).mp h
  obtain ⟨g, hg⟩ := (cN_X _ _ _).mp h2
  have hX : isX nb n 0 n id g := by
    refine ⟨fun i hi => by omega, fun x _ hx => ?_⟩
    have hgi : ∀ i, i < p → g i = i := fun i hi => by rw [hg.1 i (by omega)]; unfold va_up; rw [if_neg (by omega)]; rfl
    have hgp : g p = q := by rw [hg.1 p (by omega)]; unfold va_up; rw [if_pos rfl]
    by_cases hxp : x < p
    · rw [hgi x hxp]
      exact ⟨by omega, (fitP_cg (f := g) (g := id) (fun i hi => hgi i (by omega))).mpr (id_fit hN (by omega))⟩
    · by_cases hx2 : x = p
      · subst hx2
        rw [hgp]
        exact ⟨hq, (fitP_cg (f := g) (g := id) (fun i hi => hgi i hi)).mpr (fitB_iff.mp h1)⟩
      · exact hg.2 x (by omega) (by omega)
  refine cN_iso (X_aut hN hX) (n - (p + 1)) (p + 1) id _ (by omega) (fun i hi => ⟨by show i < n; omega, ?_⟩)
  exact (hg.1 i hi).symm
theorem im_sum {f : Nat → Bool} (c : Nat) : (fl (imG f) n 0 0) * c = ((List.range n).map (fun q => if f q = true then c else 0)).sum := by
  have h : fl (imG f) n 0 0 = 0 + ((List.range' 0 n).map (fun q => if f q = true then 1 else 0)).sum := fl_sum (m := id) n 0 0 (fun v s _ _ => by
    show imG f v s = s + _
    unfold imG
    split <;> omega)
  rw [h, Nat.zero_add, ← List.range_eq_range']
  generalize List.range n = l
  induction l with
  | nil => exact Nat.zero_mul c
  | cons a l ih =>
    rw [List.map_cons, List.map_cons, List.sum_cons, List.sum_cons, Nat.add_mul, ih]
    congr 1
    split
    · exact Nat.one_mul c
    · exact Nat.zero_mul c
theorem cN_p (hN : isNet n nb) {p : Nat} (hp : p < n) : cN nb n (n - p) p id = fl (imG (cbB nb n id id p)) n 0 0 * cN nb n (n - (p + 1)) (p + 1) id := by
  rw [im_sum, show n - p = n - (p + 1) + 1 from by omega, cN]
  congr 1
  refine List.map_congr_left fun q hq => ?_
  have hq := List.mem_range.mp hq
  by_cases h : cbB nb n id id p q = true
  · rw [if_pos h, if_pos ((cb_id hN hp hq).mp h).1, cN_img hN hp hq h]
  · rw [if_neg h]
    by_cases hf : fitB nb p q id = true
    · rw [if_pos hf]
      exact Classical.byContradiction fun z => h ((cb_id hN hp hq).mpr ⟨hf, z⟩)
    · rw [if_neg hf]
theorem hm_cN (hN : isNet n nb) : ∀ (k p a : Nat), p + k = n → fl (hmG nb n) k p a = a * cN nb n k p id
  | 0, p, a, _ => by show a = a * 1; omega
  | k + 1, p, a, h => by
    show fl (hmG nb n) k (p + 1) (hmG nb n p a) = _
    rw [hm_cN hN k (p + 1) _ (by omega)]
    have e := cN_p hN (p := p) (by omega)
    rw [show n - p = k + 1 from by omega, show n - (p + 1) = k from by omega] at e
    rw [e]
    unfold hmG
    rw [Nat.mul_assoc]
theorem hm_eq (hN : isNet n nb) : fl (hmG nb n) n 0 1 = (syF nb n).1 := by
  rw [hm_cN hN n 0 1 (by omega), Nat.one_mul]
  unfold syF
  rw [syD_cN, show ((0, fun _ => 0) : Sy).1 = 0 from rfl, Nat.zero_add]
  exact cN_cg n 0 _ _ (fun i hi => by omega)
end Sym
