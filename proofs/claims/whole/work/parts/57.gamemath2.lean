section GameMath2
variable {nb : Nat → Nat} {n h kd : Nat}
/-- the runner's best place -/
theorem bpG_s {u : Nat → Option Nat} {to q x : Nat} (hbit : to.testBit q = true) (hx : ∀ v, u x = some v → v < 1000000) (hq : ∀ v, u q = some v → v < 1000000) : bpG u to q (some x) = if rkO (u x) < rkO (u q) then some q else some x := by
  unfold bpG
  rw [if_pos hbit]
  show (match u x with
    | none => some x
    | some y => (match u q with
      | none => some q
      | some z => if y < z then some q else some x)) = _
  generalize u x = a at hx
  generalize u q = b at hq
  cases a with
  | none =>
    have := rkO_le hq
    show some x = if 1000000 < rkO b then some q else some x
    rw [if_neg (by omega)]
  | some y =>
    have := hx y rfl
    cases b with
    | none =>
      show some q = if y < 1000000 then some q else some x
      rw [if_pos this]
    | some z => rfl
def bpS (u : Nat → Option Nat) (p0 : Nat) (b : Option Nat) : Nat × Option Nat := match b with
  | none => (p0, none)
  | some x => (x, some (rkO (u x)))
theorem bp_eq {u : Nat → Option Nat} {to n : Nat} (hb : ∀ p, p < n → ∀ v, u p = some v → v ≤ 2000) (p0 : Nat) : fl (bcG u to) n 0 (p0, none) = bpS u p0 (bpF u to n) := by
  have key : ∀ (k q : Nat) (b : Option Nat), q + k ≤ n → (∀ x, b = some x → x < n) → fl (bcG u to) k q (bpS u p0 b) = bpS u p0 (fl (bpG u to) k q b) := by
    intro k
    induction k with
    | zero => intro q b _ _; rfl
    | succ k ih =>
      intro q b hq hbn
      have hn2 : ∀ x, bpG u to q b = some x → x < n := fun x hx => by
        rcases bpG_ok hx with ⟨rfl, -⟩ | z
        · omega
        · exact hbn x z
      have e : bcG u to q (bpS u p0 b) = bpS u p0 (bpG u to q b) := by
        by_cases hbit : to.testBit q = true
        · cases b with
          | none =>
            have e1 : bpG u to q none = some q := if_pos hbit
            rw [e1]
            exact if_pos ⟨hbit, rfl⟩
          | some x =>
            have hx := hbn x rfl
            rw [bpG_s hbit (fun v e => by have := hb x hx v e; omega) (fun v e => by have := hb q (by omega) v e; omega)]
            show (if to.testBit q = true ∧ decide (rkO (u x) < rkO (u q)) = true then (q, some (rkO (u q))) else (x, some (rkO (u x)))) = _
            by_cases c : rkO (u x) < rkO (u q)
            · rw [if_pos ⟨hbit, decide_eq_true c⟩, if_pos c]; rfl
            · rw [if_neg (fun z => c (of_decide_eq_true z.2)), if_neg c]; rfl
        · have e1 : bpG u to q b = b := if_neg hbit
          rw [e1]
          exact if_neg (fun z => hbit z.1)
      show fl (bcG u to) k (q + 1) (bcG u to q (bpS u p0 b)) = bpS u p0 (fl (bpG u to) k (q + 1) (bpG u to q b))
      rw [e]
      exact ih (q + 1) _ (by omega) hn2
  exact key n 0 none (by omega) (fun x e => by cases e)
theorem bpG_cg {u u2 : Nat → Option Nat} {to n : Nat} (hu : ∀ p, p < n → u p = u2 p) : bpF u to n = bpF u2 to n := by
  have key : ∀ (k q : Nat) (b : Option Nat), q + k ≤ n → (∀ x, b = some x → x < n) → fl (bpG u to) k q b = fl (bpG u2 to) k q b := by
    intro k
    induction k with
    | zero => intro q b _ _; rfl
    | succ k ih =>
      intro q b hq hb
      show fl (bpG u to) k (q + 1) (bpG u to q b) = fl (bpG u2 to) k (q + 1) (bpG u2 to q b)
      have e : bpG u to q b = bpG u2 to q b := by
        unfold bpG
        cases b with
        | none => rfl
        | some x => rw [hu q (by omega)]; simp only [hu x (hb x rfl)]
      rw [← e]
      exact ih (q + 1) _ (by omega) (fun x hx => by
        rcases bpG_ok hx with ⟨rfl, -⟩ | z
        · omega
        · exact hb x z)
  exact key n 0 none (by omega) (fun x e => by cases e)
/-- the hunters' best row -/
theorem brK_first {cg : Nat → Bool} {r : Nat → Option Nat} {v : Option Nat} : ∀ (k j y : Nat), j ≤ y → y < brK cg r v k j → ¬ (cg y = true ∧ r y = v)
  | 0, j, y, h1, h2 => by have h2 : y < j := h2
                          omega
  | k + 1, j, y, h1, h2 => by
    unfold brK at h2
    split at h2
    · omega
    · by_cases e : y = j
      · subst e; assumption
      · exact brK_first k (j + 1) y (by omega) h2
theorem STP_rf (hN : isNetZ n nb) (h1 : 1 ≤ h) (h3 : h ≤ 3) {i : Nat} (hi : i < (rowsL h n).length) : cgF nb h kd (rowsL h n) i i = true := cms_rf h3 hN.1.2.2.1 (rowsL_in hN.1.1 h3 i hi)
theorem brT_isB {w : Nat → Nat} {wo : Nat → Option Nat} (hN : isNetZ n nb) (h1 : 1 ≤ h) (h3 : h ≤ 3) (hF : FinI nb n kd h w wo) {i p : Nat} (hi : i < (rowsL h n).length) : brT nb n kd h (slvF nb n h kd) i p < (rowsL h n).length ∧ isB nb n kd (frN h) wo (xi h n i) p (xi h n (brT nb n kd h (slvF nb n h kd) i p)) := by
  have hn := hN.1.1
  have hex : ∃ x, x < (rowsL h n).length ∧ cgF nb h kd (rowsL h n) i x = true := ⟨i, hi, STP_rf hN h1 h3 hi⟩
  obtain ⟨x, hx, hx2, hx3⟩ := lbF_ex (r := fun j => rwt nb n kd h (rowsL h n) (slvF nb n h kd) j p) hex
  have hb := brK_lt (r := fun j => rwt nb n kd h (rowsL h n) (slvF nb n h kd) j p) (rowsL h n).length 0 ⟨x, Nat.zero_le _, by omega, hx2, hx3⟩
  have hfi := @brK_first (cgF nb h kd (rowsL h n) i) (fun j => rwt nb n kd h (rowsL h n) (slvF nb n h kd) j p) (lbF (cgF nb h kd (rowsL h n) i) (fun j => rwt nb n kd h (rowsL h n) (slvF nb n h kd) j p) (rowsL h n).length) (rowsL h n).length 0
  have ebr : brK (cgF nb h kd (rowsL h n) i) (fun j => rwt nb n kd h (rowsL h n) (slvF nb n h kd) j p) (lbF (cgF nb h kd (rowsL h n) i) (fun j => rwt nb n kd h (rowsL h n) (slvF nb n h kd) j p) (rowsL h n).length) (rowsL h n).length 0 = brT nb n kd h (slvF nb n h kd) i p := rfl
  rw [ebr] at hb hfi
  generalize brT nb n kd h (slvF nb n h kd) i p = b at hb hfi
  obtain ⟨hb1, hb2, hb3⟩ := hb
  have hbl : b < (rowsL h n).length := by omega
  refine ⟨hbl, Or.inr ((xi_cg h1 h3 hn hN.1 hi hbl).mp hb2), fun z hz => ?_⟩
  obtain ⟨j, hj, ej, hcj⟩ : ∃ j, j < (rowsL h n).length ∧ xi h n j = z ∧ cgF nb h kd (rowsL h n) i j = true := by
    rcases hz with rfl | hz
    · exact ⟨i, hi, rfl, STP_rf hN h1 h3 hi⟩
    · obtain ⟨m1, m2, m3⟩ := xi_mem h1 h3 hn hi
      obtain ⟨y1, y2, y3⟩ := STP_on hN.1 h1 h3 m1 m2 m3 hz
      obtain ⟨j, hj, ej⟩ := xi_surj h1 h3 hn y1 y2 y3
      exact ⟨j, hj, ej, (xi_cg h1 h3 hn hN.1 hi hj).mpr (by rw [ej]; exact hz)⟩
  subst ej
  obtain ⟨rb1, rb2⟩ := rrF_rwt hN h1 h3 hF (p := p) hbl
  obtain ⟨rj1, rj2⟩ := rrF_rwt hN h1 h3 hF (p := p) hj
  rw [rb1, rj1]
  by_cases e : rwt nb n kd h (rowsL h n) (slvF nb n h kd) b p = rwt nb n kd h (rowsL h n) (slvF nb n h kd) j p
  · refine Or.inr ⟨by rw [e], ?_⟩
    have : b ≤ j := Classical.byContradiction fun q => hfi j (Nat.zero_le _) (by omega) ⟨hcj, by show rwt nb n kd h (rowsL h n) (slvF nb n h kd) j p = _; rw [← e]; exact hb3⟩
    by_cases q : b = j
    · rw [q]; exact Nat.le_refl _
    · exact Nat.le_of_lt (xi_inc h1 h3 hn (by omega) hj)
  · refine Or.inl ((rk_lt (fun x hx => by have := rb2 x hx; omega) (fun x hx => by have := rj2 x hx; omega)).mpr ?_)
    have hb3 : rwt nb n kd h (rowsL h n) (slvF nb n h kd) b p = lbF (cgF nb h kd (rowsL h n) i) (fun j => rwt nb n kd h (rowsL h n) (slvF nb n h kd) j p) (rowsL h n).length := hb3
    cases hv : lbF (cgF nb h kd (rowsL h n) i) (fun j => rwt nb n kd h (rowsL h n) (slvF nb n h kd) j p) (rowsL h n).length with
    | none =>
      have := (lb_none (rowsL h n).length 0 none hv).2 j (Nat.zero_le _) (by omega) hcj
      have this : rwt nb n kd h (rowsL h n) (slvF nb n h kd) j p = none := this
      exact absurd (by rw [hb3, hv, this]) e
    | some v =>
      refine ⟨v, by rw [hb3, hv], ?_⟩
      cases hrj : rwt nb n kd h (rowsL h n) (slvF nb n h kd) j p with
      | none => exact Or.inl rfl
      | some y =>
        have := (lb_le (rowsL h n).length 0 none v hv).2 j y (Nat.zero_le _) (by omega) hcj hrj
        refine Or.inr ⟨y, rfl, ?_⟩
        have : v ≠ y := fun q => e (by rw [hb3, hv, hrj, q])
        omega
theorem bs_br {w : Nat → Nat} {wo : Nat → Option Nat} (hN : isNetZ n nb) (h1 : 1 ≤ h) (h3 : h ≤ 3) (hF : FinI nb n kd h w wo) {i p : Nat} (hi : i < (rowsL h n).length) : bsC nb n kd (frN h) wo (xi h n i) p = xi h n (brT nb n kd h (slvF nb n h kd) i p) := bsC_eq (brT_isB hN h1 h3 hF hi).2
/-- a game tried out -/
theorem to_tr {w : Nat → Nat} {wo : Nat → Option Nat} (hN : isNetZ n nb) (h1 : 1 ≤ h) (h3 : h ≤ 3) (hF : FinI nb n kd h w wo) : ∀ (k i p : Nat) (s : Int32) (t : Nat), i < (rowsL h n).length → stT n h i p ≠ true → trL nb n kd h (slvF nb n h kd) k i p s t = toC nb n kd (frN h) wo k (xi h n i) p s (t + 1) := by
  intro k
  induction k with
  | zero => intro i p s t hi hs; exact if_neg hs
  | succ k ih =>
    intro i p s t hi hs
    have hb := (brT_isB hN h1 h3 hF (p := p) hi).1
    have eb := bs_br hN h1 h3 hF (p := p) hi
    show (if stT n h i p = true then nI t else _) = _
    rw [if_neg hs]
    show _ = (if (sdC (bsC nb n kd (frN h) wo (xi h n i) p)).testBit p = true then nI (t + 1) else _)
    rw [eb]
    generalize brT nb n kd h (slvF nb n h kd) i p = b at hb
    have est : ∀ q, stT n h b q = (sdC (xi h n b)).testBit q := fun q => by unfold stT; rw [xi_std h1 h3 hN.1.1 hb]
    have edr : drT nb n kd h b p (nxS s) = kth (rch nb kd (sdC (xi h n b)) p) 9 0 (drN (nxS s) (cnt (rch nb kd (sdC (xi h n b)) p))) := by unfold drT; rw [xi_std h1 h3 hN.1.1 hb, ← rch_rns hN]
    have hfin : ∀ (f q : Nat) (s2 : Int32), stT n h b q = true → trL nb n kd h (slvF nb n h kd) f b q s2 (t + 1) = nI (t + 1) := fun f q s2 hq => by
      cases f with
      | zero => exact if_pos hq
      | succ f => exact if_pos hq
    rw [← est p, ← edr]
    by_cases c : stT n h b p = true
    · rw [if_pos c, if_pos c]; exact hfin _ _ _ c
    · rw [if_neg c, if_neg c, ← est]
      by_cases c2 : stT n h b (drT nb n kd h b p (nxS s)) = true
      · rw [if_pos c2]; exact hfin _ _ _ c2
      · rw [if_neg c2]
        exact ih b _ (nxS s) (t + 1) hb c2
theorem kth_all : ∀ n, n ≤ 9 → ∀ k, k < n → kth (2 ^ n - 1) 9 0 k = k := by decide +kernel
theorem toF_tr {w : Nat → Nat} {wo : Nat → Option Nat} (hN : isNetZ n nb) (h1 : 1 ≤ h) (h3 : h ≤ 3) (hn0 : 1 ≤ n) (hF : FinI nb n kd h w wo) (s : Int32) : toF nb n kd (frN h) wo (xi h n (stF nb n h kd)) s = trF nb n kd h s := by
  have hn := hN.1.1
  have hR := rowsL_pos n (by omega) hn0 h (by omega) h1
  have hst : stF nb n h kd < (rowsL h n).length := srF_lt hR
  have hd : drN (nxS s) n < n := Nat.mod_lt _ (by omega)
  unfold toF trF
  rw [cnt_all n hn, kth_all n hn _ hd]
  generalize stF nb n h kd = i at hst
  have est : stT n h i (drN (nxS s) n) = (sdC (xi h n i)).testBit (drN (nxS s) n) := by unfold stT; rw [xi_std h1 h3 hn hst]
  rw [← est]
  by_cases c : stT n h i (drN (nxS s) n) = true
  · rw [if_pos c]; exact (if_pos c).symm
  · rw [if_neg c]
    exact (to_tr hN h1 h3 hF 100 i _ (nxS s) 0 hst c).symm
/-- what is refused, one by one -/
def cdL (wo : Nat → Option Nat) (n f : Nat) : List Nat → Nat → Option Nat
  | [], _ => none
  | x :: l, c => match cdP (fun p => wo ((x - f) * 9 + p)) (9 * x) n 0 c with
    | (some y, _) => some y
    | (none, c2) => cdL wo n f l c2
theorem cdR_L (wo : Nat → Option Nat) (n f : Nat) : ∀ (k x c : Nat), cdR wo n f k x c = cdL wo n f ((List.range' x k).filter (onB n)) c
  | 0, _, _ => rfl
  | k + 1, x, c => by
    rw [List.range'_succ]
    unfold cdR
    by_cases e : dif (sdC x) (2 ^ n - 1) = 0
    · rw [if_pos e, List.filter_cons_of_pos (show onB n x = true from decide_eq_true e)]
      unfold cdL
      generalize cdP (fun p => wo ((x - f) * 9 + p)) (9 * x) n 0 c = z
      obtain ⟨z1, z2⟩ := z
      cases z1 with
      | some y => rfl
      | none => exact cdR_L wo n f k (x + 1) z2
    · rw [if_neg e, List.filter_cons_of_neg (show ¬ onB n x = true from fun z => e (of_decide_eq_true z))]
      exact cdR_L wo n f k (x + 1) c
theorem cdP_rf {u u2 : Nat → Option Nat} {n : Nat} (hu : ∀ p, p < n → u p = u2 p) (bs i kk : Nat) : ∀ (k p c : Nat), p + k ≤ n → c ≤ kk → ((rfP u2 i kk k p c).1 = none ∧ cdP u bs k p (kk - c) = (none, kk - (rfP u2 i kk k p c).2) ∧ (rfP u2 i kk k p c).2 ≤ kk) ∨ ∃ q c2 c3, q < n ∧ rfP u2 i kk k p c = (some (9 * i + q), c2) ∧ cdP u bs k p (kk - c) = (some (bs + q), c3)
  | 0, _, c, _, hc => Or.inl ⟨rfl, rfl, hc⟩
  | k + 1, p, c, hp, hc => by
    unfold rfP cdP
    rw [hu p (by omega)]
    by_cases e : u2 p = none
    · rw [if_pos e, if_pos e]
      by_cases e2 : c = kk
      · subst e2
        rw [if_pos rfl, if_pos (Nat.sub_self _)]
        exact Or.inr ⟨p, c, _, by omega, rfl, rfl⟩
      · rw [if_neg e2, if_neg (by omega), show kk - c - 1 = kk - (c + 1) by omega]
        exact cdP_rf hu bs i kk k (p + 1) (c + 1) (by omega) (by omega)
    · rw [if_neg e, if_neg e]
      exact cdP_rf hu bs i kk k (p + 1) c (by omega) hc
theorem cdL_rf {w : Nat → Nat} {wo : Nat → Option Nat} (hN : isNetZ n nb) (h1 : 1 ≤ h) (h3 : h ≤ 3) (hF : FinI nb n kd h w wo) (kk : Nat) : ∀ (l : List Nat) (i c : Nat), i + l.length = (rowsL h n).length → (∀ j, j < l.length → l.getD j 0 = xi h n (i + j)) → c ≤ kk → cdL wo n (frN h) l (kk - c) = (rfR (slvF nb n h kd) n kk l.length i c).map (fun y => 9 * xi h n (y / 9) + y % 9)
  | [], _, _, _, _, _ => rfl
  | x :: l, i, c, hl, hx, hc => by
    have hn := hN.1.1
    rw [List.length_cons] at hl
    have hi : i < (rowsL h n).length := by omega
    have e0 : x = xi h n i := hx 0 (by simp)
    subst e0
    unfold cdL
    show _ = ((match rfP (slvF nb n h kd i) i kk n 0 c with
      | (some x, _) => some x
      | (none, c2) => rfR (slvF nb n h kd) n kk l.length (i + 1) c2) : Option Nat).map _
    rcases cdP_rf (u := fun p => wo ((xi h n i - frN h) * 9 + p)) (u2 := slvF nb n h kd i) (n := n) (fun p hp => Fin_slv hN h1 h3 hF hi hp) (9 * xi h n i) i kk n 0 c (by omega) hc with ⟨a1, a2, a3⟩ | ⟨q, c2, c3, q1, q2, q3⟩
    · generalize rfP (slvF nb n h kd i) i kk n 0 c = z at a1 a2 a3
      obtain ⟨z1, z2⟩ := z
      have a1 : z1 = none := a1
      subst a1
      rw [a2]
      exact cdL_rf hN h1 h3 hF kk l (i + 1) z2 (by omega) (fun j hj => by
        have := hx (j + 1) (by simp; omega)
        rw [show i + 1 + j = i + (j + 1) by omega, ← this]
        rfl) a3
    · rw [q2, q3]
      show some (9 * xi h n i + q) = some (9 * xi h n ((9 * i + q) / 9) + (9 * i + q) % 9)
      rw [show (9 * i + q) / 9 = i by omega, show (9 * i + q) % 9 = q by omega]
theorem cdR_rf {w : Nat → Nat} {wo : Nat → Option Nat} (hN : isNetZ n nb) (h1 : 1 ≤ h) (h3 : h ≤ 3) (hF : FinI nb n kd h w wo) (kk : Nat) : cdR wo n (frN h) (frN (h + 1) - frN h) (frN h) kk = (rfF (slvF nb n h kd) n (rowsL h n).length kk).map (fun y => 9 * xi h n (y / 9) + y % 9) := by
  rw [cdR_L, ← XL_rng h1 h3]
  have := cdL_rf hN h1 h3 hF kk (XL h n) 0 0 (by rw [XL_len h1 h3 hN.1.1]; omega) (fun j _ => by rw [Nat.zero_add]; rfl) (Nat.zero_le _)
  rw [Nat.sub_zero, XL_len h1 h3 hN.1.1] at this
  exact this
theorem su_bit {u : Nat → Option Nat} {j : Nat} : ∀ (k i s : Nat), (fl (suG u) k i s).testBit j = true ↔ s.testBit j = true ∨ (i ≤ j ∧ j < i + k ∧ u j ≠ none)
  | 0, i, s => ⟨Or.inl, fun z => z.elim id (fun q => by omega)⟩
  | k + 1, i, s => by
    show (fl (suG u) k (i + 1) (suG u i s)).testBit j = true ↔ _
    rw [su_bit k (i + 1)]
    unfold suG
    rw [Nat.testBit_or, Bool.or_eq_true]
    have e : (if u i = none then 0 else 2 ^ i : Nat).testBit j = true ↔ i = j ∧ u j ≠ none := by
      by_cases z : u i = none
      · rw [if_pos z, Nat.zero_testBit]
        exact ⟨fun q => (by cases q), fun q => absurd (q.1 ▸ z) q.2⟩
      · rw [if_neg z, Nat.testBit_two_pow, decide_eq_true_iff]
        exact ⟨fun q => ⟨q, q ▸ z⟩, fun q => q.1⟩
    rw [e]
    constructor
    · rintro ((a | ⟨a, b⟩) | ⟨a, b, c⟩)
      · exact Or.inl a
      · exact Or.inr ⟨by omega, by omega, b⟩
      · exact Or.inr ⟨by omega, by omega, c⟩
    · rintro (a | ⟨a, b, c⟩)
      · exact Or.inl (Or.inl a)
      · by_cases q : i = j
        · exact Or.inl (Or.inr ⟨q, c⟩)
        · exact Or.inr ⟨by omega, by omega, c⟩
theorem sf_bit {u : Nat → Option Nat} {to j : Nat} : ∀ (k i s : Nat), (fl (sfG u to) k i s).testBit j = true ↔ s.testBit j = true ∨ (i ≤ j ∧ j < i + k ∧ to.testBit j = true ∧ u j = none)
  | 0, i, s => ⟨Or.inl, fun z => z.elim id (fun q => by omega)⟩
  | k + 1, i, s => by
    show (fl (sfG u to) k (i + 1) (sfG u to i s)).testBit j = true ↔ _
    rw [sf_bit k (i + 1)]
    unfold sfG
    rw [Nat.testBit_or, Bool.or_eq_true]
    have e : (if to.testBit i = true ∧ u i = none then 2 ^ i else 0 : Nat).testBit j = true ↔ i = j ∧ to.testBit j = true ∧ u j = none := by
      by_cases z : to.testBit i = true ∧ u i = none
      · rw [if_pos z, Nat.testBit_two_pow, decide_eq_true_iff]
        exact ⟨fun q => ⟨q, q ▸ z⟩, fun q => q.1⟩
      · rw [if_neg z, Nat.zero_testBit]
        exact ⟨fun q => (by cases q), fun q => absurd (q.1 ▸ q.2) z⟩
    rw [e]
    constructor
    · rintro ((a | ⟨a, b⟩) | ⟨a, b, c⟩)
      · exact Or.inl a
      · exact Or.inr ⟨by omega, by omega, b⟩
      · exact Or.inr ⟨by omega, by omega, c⟩
    · rintro (a | ⟨a, b, c⟩)
      · exact Or.inl (Or.inl a)
      · by_cases q : i = j
        · exact Or.inl (Or.inr ⟨q, c⟩)
        · exact Or.inr ⟨by omega, by omega, c⟩
theorem su_eq {w : Nat → Nat} {wo : Nat → Option Nat} (hN : isNetZ n nb) (h1 : 1 ≤ h) (h3 : h ≤ 3) (hF : FinI nb n kd h w wo) {i : Nat} (hi : i < (rowsL h n).length) : fl (suG (fun p => wo ((xi h n i - frN h) * 9 + p))) n 0 0 = fl (suG (slvF nb n h kd i)) n 0 0 := fl_cg (fun p b _ hp => by
  unfold suG
  have e := Fin_slv hN h1 h3 hF hi (show p < n by omega)
  simp only [e])
theorem sf_eq {w : Nat → Nat} {wo : Nat → Option Nat} (hN : isNetZ n nb) (h1 : 1 ≤ h) (h3 : h ≤ 3) (hF : FinI nb n kd h w wo) {i p : Nat} (hi : i < (rowsL h n).length) (hp : p < n) : dif (rch nb kd (sdC (xi h n i)) p) (fl (suG (fun p => wo ((xi h n i - frN h) * 9 + p))) n 0 0) = fl (sfG (slvF nb n h kd i) (rns nb n kd (sdC (xi h n i)) p)) n 0 0 := by
  rw [su_eq hN h1 h3 hF hi, ← rch_rns hN]
  have hr := (rch_net hN (kd := kd) (st := sdC (xi h n i)) hp).2
  apply Nat.eq_of_testBit_eq
  intro j
  have e : (dif (rch nb kd (sdC (xi h n i)) p) (fl (suG (slvF nb n h kd i)) n 0 0)).testBit j = true ↔ (fl (sfG (slvF nb n h kd i) (rch nb kd (sdC (xi h n i)) p)) n 0 0).testBit j = true := by
    rw [sf_bit, dif_bit, Bool.and_eq_true, Bool.not_eq_true']
    constructor
    · rintro ⟨a, b⟩
      have hj := bit_lt hr a
      refine Or.inr ⟨Nat.zero_le _, by omega, a, ?_⟩
      cases q : slvF nb n h kd i j with
      | none => rfl
      | some v =>
        rw [(su_bit (u := slvF nb n h kd i) n 0 0).mpr (Or.inr ⟨Nat.zero_le _, by omega, by rw [q]; intro z; cases z⟩)] at b
        cases b
    · rintro (a | ⟨-, b, c, d⟩)
      · rw [Nat.zero_testBit] at a; cases a
      · refine ⟨c, ?_⟩
        cases q : (fl (suG (slvF nb n h kd i)) n 0 0).testBit j with
        | false => rfl
        | true =>
          rcases (su_bit n 0 0).mp q with z | z
          · rw [Nat.zero_testBit] at z; cases z
          · exact absurd d z.2.2
  exact bool_eq e
end GameMath2
