/-! the games' answers: the class's and the reference's -/
section FoldRows
theorem fl_foldl {α : Type} (g : Nat → α → α) : ∀ (k i : Nat) (a : α), fl g k i a = (List.range' i k).foldl (fun a x => g x a) a
  | 0, _, _ => rfl
  | k + 1, i, a => by
    show fl g k (i + 1) (g i a) = _
    rw [fl_foldl g k (i + 1) (g i a), List.range'_succ]
    rfl
theorem foldl_skip {α : Type} (G : Nat → α → α) (P : Nat → Bool) (hs : ∀ x a, P x = false → G x a = a) : ∀ (l : List Nat) (a : α), l.foldl (fun a x => G x a) a = (l.filter P).foldl (fun a x => G x a) a
  | [], _ => rfl
  | x :: l, a => by
    rw [List.foldl_cons]
    cases e : P x with
    | true => rw [List.filter_cons_of_pos e, List.foldl_cons, foldl_skip G P hs l]
    | false => rw [List.filter_cons_of_neg (by rw [e]; simp), hs x a e, foldl_skip G P hs l]
theorem fl_getD {α : Type} (G : Nat → α → α) : ∀ (l pre : List Nat) (a : α), fl (fun i => G ((pre ++ l).getD i 0)) l.length pre.length a = l.foldl (fun a x => G x a) a
  | [], _, _ => rfl
  | x :: l, pre, a => by
    have e1 : pre ++ x :: l = (pre ++ [x]) ++ l := by simp
    have e2 : (pre ++ x :: l).getD pre.length 0 = x := by
      rw [List.getD_eq_getElem?_getD, List.getElem?_append_right (Nat.le_refl _), Nat.sub_self]
      rfl
    show fl (fun i => G ((pre ++ x :: l).getD i 0)) l.length (pre.length + 1) (G ((pre ++ x :: l).getD pre.length 0) a) = _
    rw [e2, List.foldl_cons]
    have := fl_getD G l (pre ++ [x]) (G x a)
    rw [List.length_append, List.length_singleton, ← e1] at this
    exact this
theorem XL_rng1 : ∀ h, h < 4 → 1 ≤ h → (List.range 219).filter (fun x => decide (frN h ≤ x) && decide (x < frN (h + 1))) = List.range' (frN h) (frN (h + 1) - frN h) := by decide +kernel
theorem XL_rng {h n : Nat} (h1 : 1 ≤ h) (h3 : h ≤ 3) : XL h n = (List.range' (frN h) (frN (h + 1) - frN h)).filter (onB n) := by
  rw [← XL_rng1 h (by omega) h1, List.filter_filter]
  unfold XL
  apply List.filter_congr
  intro x _
  cases decide (frN h ≤ x) <;> cases decide (x < frN (h + 1)) <;> cases onB n x <;> rfl
theorem fl_rows {α : Type} {h n : Nat} (h1 : 1 ≤ h) (h3 : h ≤ 3) (hn : n ≤ 9) (G : Nat → α → α) (hs : ∀ x a, ¬ ON n x → G x a = a) (a : α) : fl G (frN (h + 1) - frN h) (frN h) a = fl (fun i => G (xi h n i)) (rowsL h n).length 0 a := by
  rw [fl_foldl, foldl_skip G (onB n) (fun x a e => hs x a (of_decide_eq_false e)), ← XL_rng h1 h3, ← XL_len h1 h3 hn]
  exact (fl_getD G (XL h n) [] a).symm
end FoldRows
theorem wk_rk {v : Option Nat} (h : ∀ x, v = some x → x < 1000000) : wkO (rkO v) = v := by
  cases v with
  | none => rfl
  | some x => have := h x rfl
              show (if x = 1000000 then none else some x) = some x
              rw [if_neg (by omega)]
theorem rk_lt {a b : Option Nat} (ha : ∀ x, a = some x → x < 1000000) (hb : ∀ x, b = some x → x < 1000000) : rkO a < rkO b ↔ ∃ x, a = some x ∧ (b = none ∨ ∃ y, b = some y ∧ x < y) := by
  cases a with
  | none =>
    constructor
    · intro z
      cases b with
      | none => exact absurd z (Nat.lt_irrefl _)
      | some y => have := hb y rfl
                  have z : 1000000 < y := z
                  omega
    · rintro ⟨x, e, -⟩; cases e
  | some x =>
    have := ha x rfl
    cases b with
    | none => exact ⟨fun _ => ⟨x, rfl, Or.inl rfl⟩, fun _ => this⟩
    | some y =>
      constructor
      · exact fun z => ⟨x, rfl, Or.inr ⟨y, rfl, z⟩⟩
      · rintro ⟨x2, e, e2 | ⟨y2, e2, z⟩⟩
        · cases e2
        · cases e; cases e2; exact z
theorem rk_inj {a b : Option Nat} (ha : ∀ x, a = some x → x < 1000000) (hb : ∀ x, b = some x → x < 1000000) (e : rkO a = rkO b) : a = b := by rw [← wk_rk ha, ← wk_rk hb, e]
theorem grF_gt {u : Nat → Option Nat} {n : Nat} (hb : ∀ p, p < n → ∀ v, u p = some v → v ≤ 2000) : grF u (2 ^ n - 1) n = rkO (fl (gtG u) n 0 (some 0)) := by
  have key : ∀ (k p : Nat) (b : Option Nat), p + k ≤ n → (∀ y, b = some y → y ≤ 2000) → fl (grG u (2 ^ n - 1)) k p (rkO b) = rkO (fl (gtG u) k p b) := by
    intro k
    induction k with
    | zero => intro p b _ _; rfl
    | succ k ih =>
      intro p b hp hy
      show fl (grG u (2 ^ n - 1)) k (p + 1) (grG u (2 ^ n - 1) p (rkO b)) = rkO (fl (gtG u) k (p + 1) (gtG u p b))
      have hbit : (2 ^ n - 1).testBit p = true := by rw [Nat.testBit_two_pow_sub_one]; exact decide_eq_true (by omega)
      have e : grG u (2 ^ n - 1) p (rkO b) = rkO (gtG u p b) ∧ ∀ y, gtG u p b = some y → y ≤ 2000 := by
        unfold grG gtG
        rw [if_pos hbit]
        have hv := hb p (by omega)
        cases hu : u p with
        | none =>
          refine ⟨?_, fun y z => (by cases z)⟩
          show (if rkO b < 1000000 then 1000000 else rkO b) = 1000000
          cases b with
          | none => rfl
          | some y => have := hy y rfl
                      show (if y < 1000000 then 1000000 else y) = 1000000
                      rw [if_pos (by omega)]
        | some x =>
          have hx := hv x hu
          cases b with
          | none =>
            refine ⟨?_, fun y z => (by cases z)⟩
            show (if 1000000 < x then x else 1000000) = 1000000
            rw [if_neg (by omega)]
          | some y =>
            have hyy := hy y rfl
            show (if y < x then x else y) = mxN y x ∧ ∀ z, some (mxN y x) = some z → z ≤ 2000
            have : mxN y x = if y < x then x else y := by unfold mxN; split <;> split <;> omega
            rw [this]
            exact ⟨rfl, fun z e => by cases e; split <;> omega⟩
      rw [e.1]
      exact ih (p + 1) _ (by omega) e.2
  exact key n 0 (some 0) (by omega) (fun y e => by cases e; omega)
theorem grF_rw {w : Nat → Nat → Option Nat} {u : Nat → Option Nat} {n i to : Nat} (hu : ∀ p, p < n → u p = w i p) (hb : ∀ p, p < n → ∀ v, u p = some v → v ≤ 2000) : grF u to n = rkO (fl (rwG w i to) n 0 (some 0)) ∧ ∀ y, fl (rwG w i to) n 0 (some 0) = some y → y ≤ 2000 := by
  have key : ∀ (k p : Nat) (b : Option Nat), p + k ≤ n → (∀ y, b = some y → y ≤ 2000) → fl (grG u to) k p (rkO b) = rkO (fl (rwG w i to) k p b) ∧ ∀ y, fl (rwG w i to) k p b = some y → y ≤ 2000 := by
    intro k
    induction k with
    | zero => intro p b _ hy; exact ⟨rfl, hy⟩
    | succ k ih =>
      intro p b hp hy
      show fl (grG u to) k (p + 1) (grG u to p (rkO b)) = rkO (fl (rwG w i to) k (p + 1) (rwG w i to p b)) ∧ ∀ y, fl (rwG w i to) k (p + 1) (rwG w i to p b) = some y → y ≤ 2000
      have e : grG u to p (rkO b) = rkO (rwG w i to p b) ∧ ∀ y, rwG w i to p b = some y → y ≤ 2000 := by
        unfold grG rwG
        by_cases hbit : to.testBit p = true
        · rw [if_pos hbit, if_pos hbit, ← hu p (by omega)]
          have hv := hb p (by omega)
          cases b with
          | none =>
            refine ⟨?_, fun y z => (by cases z)⟩
            show (if 1000000 < rkO (u p) then rkO (u p) else 1000000) = 1000000
            have := rkO_le (v := u p) (fun x e => by have := hv x e; omega)
            rw [if_neg (by omega)]
          | some y =>
            have hyy := hy y rfl
            cases hup : u p with
            | none =>
              refine ⟨?_, fun y z => (by cases z)⟩
              show (if y < 1000000 then 1000000 else y) = 1000000
              rw [if_pos (by omega)]
            | some x =>
              have hx := hv x hup
              show (if y < x then x else y) = mxN y x ∧ ∀ z, some (mxN y x) = some z → z ≤ 2000
              have : mxN y x = if y < x then x else y := by unfold mxN; split <;> split <;> omega
              rw [this]
              exact ⟨rfl, fun z e => by cases e; split <;> omega⟩
        · rw [if_neg hbit, if_neg hbit]
          exact ⟨rfl, hy⟩
      rw [e.1]
      exact ih (p + 1) _ (by omega) e.2
  exact key n 0 (some 0) (by omega) (fun y e => by cases e; omega)
theorem least_ex9 {P : Nat → Prop} : ∀ {t : Nat}, P t → ∃ v, P v ∧ ∀ u, u < v → ¬ P u := fun {t} => by
  induction t using Nat.strongRecOn with
  | _ t ih =>
    intro ht
    by_cases z : ∃ u, u < t ∧ P u
    · obtain ⟨u, h1, h2⟩ := z
      exact ih u h1 h2
    · exact ⟨t, ht, fun u hu q => z ⟨u, hu, q⟩⟩
theorem gtG_cg {u u2 : Nat → Option Nat} {p : Nat} {b : Option Nat} (e : u p = u2 p) : gtG u p b = gtG u2 p b := by unfold gtG; rw [e]
section GameMath
variable {nb : Nat → Nat} {n h kd : Nat}
theorem slv_le {w : Nat → Nat} {wo : Nat → Option Nat} (hN : isNetZ n nb) (h1 : 1 ≤ h) (h3 : h ≤ 3) (hF : FinI nb n kd h w wo) {i p v : Nat} (hi : i < (rowsL h n).length) (hp : p < n) (e : slvF nb n h kd i p = some v) : v ≤ 2000 := by
  obtain ⟨m1, m2, m3⟩ := xi_mem h1 h3 hN.1.1 hi
  rw [← Fin_slv hN h1 h3 hF hi hp] at e
  exact (hF _ m1 m2).2 p (by have := hN.1.1; omega) v e
/-- the runner's turn -/
theorem rrF_rwt {w : Nat → Nat} {wo : Nat → Option Nat} (hN : isNetZ n nb) (h1 : 1 ≤ h) (h3 : h ≤ 3) (hF : FinI nb n kd h w wo) {i p : Nat} (hi : i < (rowsL h n).length) : rrF nb n kd (frN h) wo (xi h n i) p = rkO (rwt nb n kd h (rowsL h n) (slvF nb n h kd) i p) ∧ ∀ y, rwt nb n kd h (rowsL h n) (slvF nb n h kd) i p = some y → y ≤ 2000 := by
  unfold rrF rwt
  rw [xi_std h1 h3 hN.1.1 hi, rch_rns hN]
  by_cases hb : (sdC (xi h n i)).testBit p = true
  · rw [if_pos hb, if_pos hb]
    exact ⟨rfl, fun y e => by cases e; omega⟩
  · rw [if_neg hb, if_neg hb]
    exact grF_rw (fun q hq => Fin_slv hN h1 h3 hF hi hq) (fun q hq v e => slv_le hN h1 h3 hF hi hq (by rw [← Fin_slv hN h1 h3 hF hi hq]; exact e))
/-- the time of a row -/
theorem gtF_gr {w : Nat → Nat} {wo : Nat → Option Nat} (hN : isNetZ n nb) (h1 : 1 ≤ h) (h3 : h ≤ 3) (hF : FinI nb n kd h w wo) {i : Nat} (hi : i < (rowsL h n).length) : grF (fun p => wo ((xi h n i - frN h) * 9 + p)) (2 ^ n - 1) n = rkO (gtF (slvF nb n h kd) n i) := by
  rw [grF_gt (fun p hp v e => slv_le hN h1 h3 hF hi hp (by rw [← Fin_slv hN h1 h3 hF hi hp]; exact e))]
  unfold gtF
  have e : fl (gtG fun p => wo ((xi h n i - frN h) * 9 + p)) n 0 (some 0) = fl (gtG (slvF nb n h kd i)) n 0 (some 0) := fl_cg (fun p b _ hp => gtG_cg (Fin_slv hN h1 h3 hF hi (by omega)))
  rw [e]
theorem gtF_lt {w : Nat → Nat} {wo : Nat → Option Nat} (hN : isNetZ n nb) (h1 : 1 ≤ h) (h3 : h ≤ 3) (hF : FinI nb n kd h w wo) {i : Nat} (hi : i < (rowsL h n).length) : ∀ y, gtF (slvF nb n h kd) n i = some y → y < 1000000 := fun y e => by
  have := gtF_le (R := (rowsL h n).length) (X := 2000) (n := n) (w := slvF nb n h kd) (fun i p x hi hp e => slv_le hN h1 h3 hF hi hp e) hi y e
  omega
theorem cnt_nc {s n : Nat} {u : Nat → Option Nat} (hs : s < 2 ^ n) (hn : n ≤ 9) (hb : ∀ p, p < n → (s.testBit p = true ↔ u p ≠ none)) : cnt s + fl (ncR u) n 0 0 = n := by
  have e1 : cnt s = fl (fun j b => b + (if s.testBit j = true then 1 else 0)) 9 0 0 := by
    unfold cnt; rw [cnt_bits]; omega
  have e2 : ∀ (k i a : Nat), n ≤ i → fl (fun j b => b + (if s.testBit j = true then 1 else 0)) k i a = a := by
    intro k
    induction k with
    | zero => intro i a _; rfl
    | succ k ih =>
      intro i a hi
      show fl _ k (i + 1) (a + (if s.testBit i = true then 1 else 0)) = a
      have : ¬ s.testBit i = true := fun z => absurd (bit_lt hs z) (by omega)
      rw [if_neg this]
      exact ih (i + 1) a (by omega)
  have e3 : ∀ (k i a b : Nat), i + k ≤ n → fl (fun j b => b + (if s.testBit j = true then 1 else 0)) k i a + fl (ncR u) k i b = a + b + k := by
    intro k
    induction k with
    | zero => intro i a b _; rfl
    | succ k ih =>
      intro i a b hi
      show fl _ k (i + 1) (a + (if s.testBit i = true then 1 else 0)) + fl (ncR u) k (i + 1) (b + (if u i = none then 1 else 0)) = _
      rw [ih (i + 1) _ _ (by omega)]
      by_cases z : u i = none
      · rw [if_pos z, if_neg (fun q => (hb i (by omega)).mp q z)]; omega
      · rw [if_neg z, if_pos ((hb i (by omega)).mpr z)]; omega
  rw [e1, show (9 : Nat) = n + (9 - n) by omega, fl_split, e2 _ _ _ (by omega), e3 n 0 0 0 (by omega)]
  omega
/-- the opening, its time, what is refused -/
theorem foF_eq {w : Nat → Nat} {wo : Nat → Option Nat} (hN : isNetZ n nb) (h1 : 1 ≤ h) (h3 : h ≤ 3) (hn0 : 1 ≤ n) (hF : FinI nb n kd h w wo) : foF wo w n (frN h) (frN (h + 1)) = (some (xi h n (stF nb n h kd)), nc (slvF nb n h kd) n (rowsL h n).length, rkO (tmF nb n h kd)) := by
  have hn := hN.1.1
  have hR := rowsL_pos n (by omega) hn0 h (by omega) h1
  have hstep : ∀ i s, i < (rowsL h n).length → foG wo w n (frN h) (xi h n i) s = if s.1 = none ∨ rkO (gtF (slvF nb n h kd) n i) < s.2.2 then (some (xi h n i), fl (ncR (slvF nb n h kd i)) n 0 s.2.1, rkO (gtF (slvF nb n h kd) n i)) else (s.1, fl (ncR (slvF nb n h kd i)) n 0 s.2.1, s.2.2) := fun i s hi => by
    obtain ⟨m1, m2, m3⟩ := xi_mem h1 h3 hn hi
    have hf := (hF _ m1 m2).1 m3
    have hwl : w (xi h n i) < 2 ^ n := Nat.lt_pow_two_of_testBit _ (fun p hp => Classical.byContradiction fun z => by
      have := (hf.1 p).mp (by revert z; cases (w (xi h n i)).testBit p <;> simp)
      omega)
    have hc := cnt_nc (u := slvF nb n h kd i) hwl hn (fun p hp => by
      rw [hf.1 p, ← Fin_slv hN h1 h3 hF hi hp]
      constructor
      · rintro ⟨-, t, ht⟩ z
        obtain ⟨v, hv1, hv2⟩ := least_ex9 (P := fun t => DD nb kd t (xi h n i) p) ht
        have := (hf.2 p hp v).mpr ⟨hv1, hv2⟩
        rw [z] at this; cases this
      · intro z
        cases e : wo ((xi h n i - frN h) * 9 + p) with
        | none => exact absurd e z
        | some v => exact ⟨hp, v, ((hf.2 p hp v).mp e).1⟩)
    unfold foG
    rw [if_pos m3, gtF_gr hN h1 h3 hF hi, ncR_add _ n 0 s.2.1, show n - cnt (w (xi h n i)) = fl (ncR (slvF nb n h kd i)) n 0 0 by omega]
  have hrun : ∀ (k i b cc : Nat), i + k = (rowsL h n).length → b < (rowsL h n).length → fl (fun i => foG wo w n (frN h) (xi h n i)) k i (some (xi h n b), cc, rkO (gtF (slvF nb n h kd) n b)) = (some (xi h n (fl (srG (gtF (slvF nb n h kd) n)) k i b)), fl (fun i a => fl (ncR (slvF nb n h kd i)) n 0 a) k i cc, rkO (gtF (slvF nb n h kd) n (fl (srG (gtF (slvF nb n h kd) n)) k i b))) := by
    intro k
    induction k with
    | zero => intro i b cc _ _; rfl
    | succ k ih =>
      intro i b cc hi hb
      show fl (fun i => foG wo w n (frN h) (xi h n i)) k (i + 1) (foG wo w n (frN h) (xi h n i) (some (xi h n b), cc, rkO (gtF (slvF nb n h kd) n b))) = (some (xi h n (fl (srG (gtF (slvF nb n h kd) n)) k (i + 1) (srG (gtF (slvF nb n h kd) n) i b))), fl (fun i a => fl (ncR (slvF nb n h kd i)) n 0 a) k (i + 1) (fl (ncR (slvF nb n h kd i)) n 0 cc), rkO (gtF (slvF nb n h kd) n (fl (srG (gtF (slvF nb n h kd) n)) k (i + 1) (srG (gtF (slvF nb n h kd) n) i b))))
      have hii : i < (rowsL h n).length := by omega
      rw [hstep i _ hii]
      have hlt := rk_lt (gtF_lt hN h1 h3 hF hii) (gtF_lt hN h1 h3 hF hb)
      by_cases z : rkO (gtF (slvF nb n h kd) n i) < rkO (gtF (slvF nb n h kd) n b)
      · rw [if_pos (Or.inr z)]
        have e : srG (gtF (slvF nb n h kd) n) i b = i := by
          obtain ⟨x, e1, e2⟩ := hlt.mp z
          unfold srG
          rw [e1]
          rcases e2 with e2 | ⟨y, e2, e3⟩
          · rw [e2]
          · rw [e2]; exact if_pos e3
        rw [e]
        exact ih (i + 1) i _ (by omega) hii
      · rw [if_neg (fun q => q.elim (fun q => by cases q) z)]
        have e : srG (gtF (slvF nb n h kd) n) i b = b := by
          unfold srG
          cases e1 : gtF (slvF nb n h kd) n i with
          | none => rfl
          | some x =>
            cases e2 : gtF (slvF nb n h kd) n b with
            | none => exact absurd (hlt.mpr ⟨x, e1, Or.inl e2⟩) z
            | some y =>
              show (if x < y then i else b) = b
              exact if_neg (fun q => z (hlt.mpr ⟨x, e1, Or.inr ⟨y, e2, q⟩⟩))
        rw [e]
        exact ih (i + 1) b _ (by omega) hb
  unfold foF
  rw [fl_rows h1 h3 hn _ (fun x a hx => by unfold foG; rw [if_neg hx])]
  obtain ⟨R1, hR1⟩ : ∃ r, (rowsL h n).length = r + 1 := ⟨(rowsL h n).length - 1, by omega⟩
  have h0 := hstep 0 (none, 0, 1000000) (by omega)
  rw [if_pos (Or.inl rfl)] at h0
  have hr := hrun R1 1 0 (fl (ncR (slvF nb n h kd 0)) n 0 0) (by omega) (by omega)
  unfold tmF stF srF nc
  rw [hR1]
  show fl (fun i => foG wo w n (frN h) (xi h n i)) R1 1 (foG wo w n (frN h) (xi h n 0) (none, 0, 1000000)) = _
  rw [h0]
  exact hr
end GameMath
