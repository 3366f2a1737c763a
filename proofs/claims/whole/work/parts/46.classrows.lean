/-! the rows of the class: 219, by one, two and three hunters; 9 stands for a hunter that is not -/
def rcT (h : Nat) (ρ : Row) : Row := (ρ.1, (if 1 < h then ρ.2.1 else 9), if 2 < h then ρ.2.2 else 9)
def rowsC : List Row := (rowsL 1 9).map (rcT 1) ++ ((rowsL 2 9).map (rcT 2) ++ (rowsL 3 9).map (rcT 3))
def rlA (x : Nat) : Row := rowsC.getD x (0, 0, 0)
def spC (i : Nat) : Nat := rk (rlA (i / 3)) (i % 3)
def sdC (x : Nat) : Nat := ((2 ^ (rlA x).1 ||| 2 ^ (rlA x).2.1) ||| 2 ^ (rlA x).2.2) &&& 511
def ixF (l : List Row) (r : Row) : Nat → Option Nat := fun i => match l with
  | [] => none
  | a :: as => if a = r then some i else ixF as r (i + 1)
def num (a b c : Nat) : Option Nat := ixF rowsC (tl3 a b c) 0
def nmC (i : Nat) : Option Nat := num (i / 100) (i / 10 % 10) (i % 10)
theorem nmC_at {a b c : Nat} (ha : a < 10) (hb : b < 10) (hc : c < 10) : nmC ((a * 10 + b) * 10 + c) = num a b c := by
  unfold nmC
  rw [show ((a * 10 + b) * 10 + c) / 100 = a by omega, show ((a * 10 + b) * 10 + c) / 10 % 10 = b by omega, show ((a * 10 + b) * 10 + c) % 10 = c by omega]
theorem spC_at {x i : Nat} (hi : i < 3) : spC (x * 3 + i) = rk (rlA x) i := by
  unfold spC
  rw [show (x * 3 + i) / 3 = x by omega, show (x * 3 + i) % 3 = i by omega]
def frN (h : Nat) : Nat := match h with
  | 0 => 0
  | 1 => 0
  | 2 => 9
  | 3 => 54
  | _ => 219
theorem frow_N : ∀ h : Nat, frow h = nI (frN h)
  | 0 => rfl
  | 1 => rfl
  | 2 => rfl
  | 3 => rfl
  | _ + 4 => rfl
def hOf (x : Nat) : Nat := if x < 9 then 1 else if x < 54 then 2 else 3
/-- how many hunters there are -/
def hC (a b c : Nat) : Nat := (if a < 9 then 1 else 0) + (if b < 9 then 1 else 0) + (if c < 9 then 1 else 0)
def roF (r fc t : Nat) : List Value := [.ref (r + 1), .ref (r + 2), .ref (r + 3), .ref (r + 4), .ref (r + 5), .ref (r + 6), .int (nI fc), .ref (r + 7), .int (nI t)]
def RT (σ : Hp) (r : Nat) : Prop := AI σ (r + 1) 657 spC ∧ AI σ (r + 2) 219 sdC ∧ AO σ (r + 3) 1000 nmC
theorem RT.fr {σ s : Hp} {S : List Nat} {r : Nat} (h : RT σ r) (f : fr S σ s) (hk : r + 1 ∉ S ∧ r + 2 ∉ S ∧ r + 3 ∉ S) : RT s r := ⟨h.1.fr f hk.1, h.2.1.fr f hk.2.1, h.2.2.fr f hk.2.2⟩
def mems (s : Nat) : List Nat := (List.range 9).filter (fun q => s.testBit q)
def nl (nb : Nat → Nat) (a : Nat) : List Nat := if a = 9 then [9] else mems (nb a)
theorem mems_mem {s q : Nat} : q ∈ mems s ↔ q < 9 ∧ s.testBit q = true := by simp [mems]
theorem nl_lt {nb : Nat → Nat} {a q : Nat} (h : q ∈ nl nb a) : q < 10 := by
  unfold nl at h
  split at h
  · simp at h; omega
  · have := (mems_mem.mp h).1; omega
theorem mems_len (s : Nat) : (mems s).length ≤ 9 := by
  have := List.length_filter_le (fun q => s.testBit q) (List.range 9)
  rwa [List.length_range] at this
theorem nl_len (nb : Nat → Nat) (a : Nat) : (nl nb a).length ≤ 9 := by
  unfold nl
  split
  · decide
  · exact mems_len _
/-- what the class has learned of a net -/
def LRN (nb ns nc : Nat → Nat) : Prop := ∀ a, a < 10 → nc a = (nl nb a).length ∧ ∀ i, i < (nl nb a).length → ns (10 * a + i) = (nl nb a).getD i 0
def LR (σ : Hp) (r : Nat) (nb : Nat → Nat) : Prop := ∃ ns nc, AI σ (r + 4) 100 ns ∧ AI σ (r + 5) 10 nc ∧ LRN nb ns nc
theorem LR.fr {σ s : Hp} {S : List Nat} {r : Nat} {nb : Nat → Nat} (h : LR σ r nb) (f : fr S σ s) (hk : r + 4 ∉ S ∧ r + 5 ∉ S) : LR s r nb := by
  obtain ⟨ns, nc, h1, h2, h3⟩ := h
  exact ⟨ns, nc, h1.fr f hk.1, h2.fr f hk.2, h3⟩
/-- the rows that were found -/
def FS (σ : Hp) (r t : Nat) (l : List Nat) : Prop := ∃ fo se, OB σ r 5 (roF r l.length t) ∧ AI σ (r + 6) 165 fo ∧ AI σ (r + 7) 219 se ∧ (∀ i, i < l.length → fo i = l.getD i 0) ∧ (0 < t → ∀ x, x < 219 → (se x = t ↔ x ∈ l)) ∧ (∀ x, se x ≤ t) ∧ l.Nodup
theorem FS.fr {σ s : Hp} {S : List Nat} {r t : Nat} {l : List Nat} (h : FS σ r t l) (f : fr S σ s) (hk : r ∉ S ∧ r + 6 ∉ S ∧ r + 7 ∉ S) : FS s r t l := by
  obtain ⟨fo, se, h1, h2, h3, h4⟩ := h
  exact ⟨fo, se, h1.fr f hk.1, h2.fr f hk.2.1, h3.fr f hk.2.2, h4⟩
theorem FS.ob {σ : Hp} {r t : Nat} {l : List Nat} (h : FS σ r t l) : OB σ r 5 (roF r l.length t) := by obtain ⟨fo, se, h1, -⟩ := h; exact h1
def addR (l : List Nat) (x : Nat) : List Nat := if x ∈ l then l else l ++ [x]
theorem addR_mem {l : List Nat} {x y : Nat} : y ∈ addR l x ↔ y ∈ l ∨ y = x := by
  unfold addR
  split
  · rename_i h
    constructor
    · exact Or.inl
    · rintro (z | rfl)
      · exact z
      · exact h
  · simp
theorem eX5_isSpot {G : Gx} {d : Nat} {σ : Hp} (hd : 0 ≤ d) {a : Nat} (ha : a < 2 ^ 31) : Cl G mX5_isSpot d [.int (nI a)] σ 0 0 (pI fun z s => z = bI (a < 10) ∧ s = σ) := by
  refine cl_of (by decide) (by simp [Value.category]) (Nat.le_of_ble_eq_true rfl) ?_
  show Wp G mX5_isSpot d 0 [.int (nI a)] [] σ 0 0 _
  refine wp_iload_n (atd dX5_isSpot 0 rfl) rfl ?_
  refine wp_ifN_lt (tgt := 14) (atd dX5_isSpot 1 rfl) (by decide) (by omega) ?_
  refine wp_iload_n (atd dX5_isSpot 2 rfl) rfl ?_
  refine wp_bipush (v := nI 10) (atd dX5_isSpot 3 rfl) (by decide) ?_
  refine wp_icmpN_ge (tgt := 14) (atd dX5_isSpot 4 rfl) (by decide) (by omega) (by omega) (fun c_7 => ?_) (fun c_7 => ?_)
  ·
    refine wp_iconst (v := nI 0) (atd dX5_isSpot 7 rfl) (by decide) ?_
    refine wp_iretz (atd dX5_isSpot 8 rfl) rfl (by first | rfl | decide) ?_
    exact ⟨(bI_f (by omega)).symm, rfl⟩
  ·
    refine wp_iconst (v := nI 1) (atd dX5_isSpot 5 rfl) (by decide) ?_
    refine wp_goto (tgt := 15) (atd dX5_isSpot 6 rfl) (by decide) ?_
    refine wp_iretz (atd dX5_isSpot 8 rfl) rfl (by first | rfl | decide) ?_
    exact ⟨(bI_t c_7).symm, rfl⟩
theorem eX5_numberOf {G : Gx} {d : Nat} {σ : Hp} (hd : 1 ≤ d) {r fc t : Nat} (hO : OB σ r 5 (roF r fc t)) (hT : RT σ r) {a b c : Nat} (ha : a < 10) (hb : b < 10) (hc : c < 10) : Cl G mX5_numberOf d [.ref r, .int (nI a), .int (nI b), .int (nI c)] σ 0 0 (pI fun z s => z = oI (num a b c) ∧ s = σ) := by
  obtain ⟨d0, hdd⟩ : ∃ e, d = e + 1 := ⟨d - 1, by omega⟩
  refine cl_of (by decide) (by simp [Value.category]) (Nat.le_of_ble_eq_true rfl) ?_
  show Wp G mX5_numberOf d 0 [.ref r, .int (nI a), .int (nI b), .int (nI c), .double 0] [] σ 0 0 _
  refine wp_iload_n (atd dX5_numberOf 0 rfl) rfl ?_
  refine wp_cSi hdd [_] (atd dX5_numberOf 1 rfl) iX5_isSpot lX5_46 rfl rfl (Nat.le_of_ble_eq_true rfl) (eX5_isSpot (by omega) (by omega)) (fun r_1 s_1 h_1 => ?_)
  obtain ⟨rfl, e_1⟩ := h_1
  obtain rfl := e_1.symm
  refine wp_ifB_eq (tgt := 25) (atd dX5_numberOf 2 rfl) (by decide) (fun c_4 => ?_) (fun c_4 => ?_)
  · exact absurd ha c_4
  ·
    refine wp_iload_n (atd dX5_numberOf 3 rfl) rfl ?_
    refine wp_cSi hdd [_] (atd dX5_numberOf 4 rfl) iX5_isSpot lX5_46 rfl rfl (Nat.le_of_ble_eq_true rfl) (eX5_isSpot (by omega) (by omega)) (fun r_8 s_8 h_8 => ?_)
    obtain ⟨rfl, e_8⟩ := h_8
    obtain rfl := e_8.symm
    refine wp_ifB_eq (tgt := 25) (atd dX5_numberOf 5 rfl) (by decide) (fun c_11 => ?_) (fun c_11 => ?_)
    · exact absurd hb c_11
    ·
      refine wp_iload_n (atd dX5_numberOf 6 rfl) rfl ?_
      refine wp_cSi hdd [_] (atd dX5_numberOf 7 rfl) iX5_isSpot lX5_46 rfl rfl (Nat.le_of_ble_eq_true rfl) (eX5_isSpot (by omega) (by omega)) (fun r_15 s_15 h_15 => ?_)
      obtain ⟨rfl, e_15⟩ := h_15
      obtain rfl := e_15.symm
      refine wp_ifB_eq (tgt := 25) (atd dX5_numberOf 8 rfl) (by decide) (fun c_18 => ?_) (fun c_18 => ?_)
      · exact absurd hc c_18
      ·
        refine wp_iconst (v := nI 1) (atd dX5_numberOf 9 rfl) (by decide) ?_
        refine wp_goto (tgt := 26) (atd dX5_numberOf 10 rfl) (by decide) ?_
        refine wp_istore (atd dX5_numberOf 12 rfl) (Nat.le_of_ble_eq_true rfl) ?_
        refine wp_iload (atd dX5_numberOf 13 rfl) rfl ?_
        refine wp_ifN_eq (tgt := 52) (atd dX5_numberOf 14 rfl) (by decide) (by omega) (fun c_30 => ?_) (fun c_30 => ?_)
        · exact absurd c_30 (by decide)
        ·
          refine wp_aload_n (atd dX5_numberOf 15 rfl) rfl rfl ?_
          refine wp_get fX5_18 (atd dX5_numberOf 16 rfl) hO rfl ?_
          refine wp_iload_n (atd dX5_numberOf 17 rfl) rfl ?_
          refine wp_bipush (v := nI 10) (atd dX5_numberOf 18 rfl) (by decide) ?_
          refine wp_imulN (atd dX5_numberOf 19 rfl) ?_
          refine wp_iload_n (atd dX5_numberOf 20 rfl) rfl ?_
          refine wp_iaddN (atd dX5_numberOf 21 rfl) ?_
          refine wp_bipush (v := nI 10) (atd dX5_numberOf 22 rfl) (by decide) ?_
          refine wp_imulN (atd dX5_numberOf 23 rfl) ?_
          refine wp_iload_n (atd dX5_numberOf 24 rfl) rfl ?_
          refine wp_iaddN (atd dX5_numberOf 25 rfl) ?_
          refine wp_ialdO (atd dX5_numberOf 26 rfl) hT.2.2 (by omega) (Nat.le_of_ble_eq_true rfl) ?_
          refine wp_goto (tgt := 53) (atd dX5_numberOf 27 rfl) (by decide) ?_
          refine wp_ireti (atd dX5_numberOf 29 rfl) rfl ?_
          exact ⟨by rw [nmC_at ha hb hc], rfl⟩
theorem eX5_huntersOf {G : Gx} {d : Nat} {σ : Hp} (hd : 0 ≤ d) {x : Nat} (hx : x < 219) : Cl G mX5_huntersOf d [.int (nI x)] σ 0 0 (pI fun z s => z = nI (hOf x) ∧ s = σ) := by
  refine cl_of (by decide) (by simp [Value.category]) (Nat.le_of_ble_eq_true rfl) ?_
  show Wp G mX5_huntersOf d 0 [.int (nI x)] [] σ 0 0 _
  refine wp_iload_n (atd dX5_huntersOf 0 rfl) rfl ?_
  refine wp_frow fX5_50 (atd dX5_huntersOf 1 rfl) ?_
  refine wp_iconst (v := nI 2) (atd dX5_huntersOf 2 rfl) (by decide) ?_
  refine wp_faldN (atd dX5_huntersOf 3 rfl) (by decide) ?_
  rw [show frow 2 = nI 9 from rfl]
  refine wp_icmpN_ge (tgt := 11) (atd dX5_huntersOf 4 rfl) (by decide) (by omega) (by omega) (fun c_6 => ?_) (fun c_6 => ?_)
  ·
    refine wp_iload_n (atd dX5_huntersOf 7 rfl) rfl ?_
    refine wp_frow fX5_50 (atd dX5_huntersOf 8 rfl) ?_
    refine wp_iconst (v := nI 3) (atd dX5_huntersOf 9 rfl) (by decide) ?_
    refine wp_faldN (atd dX5_huntersOf 10 rfl) (by decide) ?_
    rw [show frow 3 = nI 54 from rfl]
    refine wp_icmpN_ge (tgt := 24) (atd dX5_huntersOf 11 rfl) (by decide) (by omega) (by omega) (fun c_17 => ?_) (fun c_17 => ?_)
    ·
      refine wp_iconst (v := nI 3) (atd dX5_huntersOf 14 rfl) (by decide) ?_
      refine wp_ireti (atd dX5_huntersOf 15 rfl) rfl ?_
      exact ⟨by unfold hOf; rw [if_neg (by omega), if_neg (by omega)], rfl⟩
    ·
      refine wp_iconst (v := nI 2) (atd dX5_huntersOf 12 rfl) (by decide) ?_
      refine wp_goto (tgt := 25) (atd dX5_huntersOf 13 rfl) (by decide) ?_
      refine wp_ireti (atd dX5_huntersOf 15 rfl) rfl ?_
      exact ⟨by unfold hOf; rw [if_neg (by omega), if_pos (by omega)], rfl⟩
  ·
    refine wp_iconst (v := nI 1) (atd dX5_huntersOf 5 rfl) (by decide) ?_
    refine wp_ireti (atd dX5_huntersOf 6 rfl) rfl ?_
    exact ⟨by unfold hOf; rw [if_pos (by omega)], rfl⟩
theorem eX5_spotAtN {G : Gx} {d : Nat} {σ : Hp} (hd : 0 ≤ d) {r fc t : Nat} (hO : OB σ r 5 (roF r fc t)) (hT : RT σ r) {x i : Nat} (hx : x < 219) (hi : i < 3) : Cl G mX5_spotAt d [.ref r, .int (nI x), .int (nI i)] σ 0 0 (pI fun z s => z = nI (rk (rlA x) i) ∧ s = σ) := by
  refine cl_of (by decide) (by simp [Value.category]) (Nat.le_of_ble_eq_true rfl) ?_
  show Wp G mX5_spotAt d 0 [.ref r, .int (nI x), .int (nI i), .double 0] [] σ 0 0 _
  refine wp_iload_n (atd dX5_spotAt 0 rfl) rfl ?_
  refine wp_ifN_lt (tgt := 24) (atd dX5_spotAt 1 rfl) (by decide) (by omega) ?_
  refine wp_iload_n (atd dX5_spotAt 2 rfl) rfl ?_
  refine wp_sipush (v := nI 219) (atd dX5_spotAt 3 rfl) (by decide) ?_
  refine wp_icmpN_ge (tgt := 24) (atd dX5_spotAt 4 rfl) (by decide) (by omega) (by omega) (fun c_8 => ?_) (fun c_8 => ?_)
  · exfalso; omega
  ·
    refine wp_iload_n (atd dX5_spotAt 5 rfl) rfl ?_
    refine wp_ifN_lt (tgt := 24) (atd dX5_spotAt 6 rfl) (by decide) (by omega) ?_
    refine wp_iload_n (atd dX5_spotAt 7 rfl) rfl ?_
    refine wp_iconst (v := nI 3) (atd dX5_spotAt 8 rfl) (by decide) ?_
    refine wp_icmpN_ge (tgt := 24) (atd dX5_spotAt 9 rfl) (by decide) (by omega) (by omega) (fun c_17 => ?_) (fun c_17 => ?_)
    · exfalso; omega
    ·
      refine wp_iconst (v := nI 1) (atd dX5_spotAt 10 rfl) (by decide) ?_
      refine wp_goto (tgt := 25) (atd dX5_spotAt 11 rfl) (by decide) ?_
      refine wp_istore_n (atd dX5_spotAt 13 rfl) (Nat.le_of_ble_eq_true rfl) ?_
      refine wp_iload_n (atd dX5_spotAt 14 rfl) rfl ?_
      refine wp_ifN_eq (tgt := 43) (atd dX5_spotAt 15 rfl) (by decide) (by omega) (fun c_27 => ?_) (fun c_27 => ?_)
      · exact absurd c_27 (by decide)
      ·
        refine wp_aload_n (atd dX5_spotAt 16 rfl) rfl rfl ?_
        refine wp_get fX5_9 (atd dX5_spotAt 17 rfl) hO rfl ?_
        refine wp_iload_n (atd dX5_spotAt 18 rfl) rfl ?_
        refine wp_iconst (v := nI 3) (atd dX5_spotAt 19 rfl) (by decide) ?_
        refine wp_imulN (atd dX5_spotAt 20 rfl) ?_
        refine wp_iload_n (atd dX5_spotAt 21 rfl) rfl ?_
        refine wp_iaddN (atd dX5_spotAt 22 rfl) ?_
        refine wp_ialdA (atd dX5_spotAt 23 rfl) hT.1 (by omega) (Nat.le_of_ble_eq_true rfl) ?_
        refine wp_goto (tgt := 45) (atd dX5_spotAt 24 rfl) (by decide) ?_
        refine wp_ireti (atd dX5_spotAt 26 rfl) rfl ?_
        exact ⟨by rw [spC_at hi], rfl⟩
theorem eX5_spotAt {G : Gx} {d : Nat} {σ : Hp} (hd : 0 ≤ d) {r fc t : Nat} (hO : OB σ r 5 (roF r fc t)) (hT : RT σ r) {x : Nat} {w : Int32} (hx : x < 219) : Cl G mX5_spotAt d [.ref r, .int (nI x), .int w] σ 0 0 (pI fun z s => z = atP w 3 (fun i => nI (rk (rlA x) i)) (nI 9) ∧ s = σ) := by
  refine cl_of (by decide) (by simp [Value.category]) (Nat.le_of_ble_eq_true rfl) ?_
  show Wp G mX5_spotAt d 0 [.ref r, .int (nI x), .int w, .double 0] [] σ 0 0 _
  refine wp_iload_n (atd dX5_spotAt 0 rfl) rfl ?_
  refine wp_ifN_lt (tgt := 24) (atd dX5_spotAt 1 rfl) (by decide) (by omega) ?_
  refine wp_iload_n (atd dX5_spotAt 2 rfl) rfl ?_
  refine wp_sipush (v := nI 219) (atd dX5_spotAt 3 rfl) (by decide) ?_
  refine wp_icmpN_ge (tgt := 24) (atd dX5_spotAt 4 rfl) (by decide) (by omega) (by omega) (fun c_8 => ?_) (fun c_8 => ?_)
  · exfalso; omega
  ·
    refine wp_iload_n (atd dX5_spotAt 5 rfl) rfl ?_
    refine wp_if_lt (tgt := 24) (atd dX5_spotAt 6 rfl) (by decide) (fun c_12 => ?_) (fun c_12 => ?_)
    ·
      refine wp_iconst (v := nI 0) (atd dX5_spotAt 12 rfl) (by decide) ?_
      refine wp_istore_n (atd dX5_spotAt 13 rfl) (Nat.le_of_ble_eq_true rfl) ?_
      refine wp_iload_n (atd dX5_spotAt 14 rfl) rfl ?_
      refine wp_ifN_eq (tgt := 43) (atd dX5_spotAt 15 rfl) (by decide) (by omega) (fun c_27 => ?_) (fun c_27 => ?_)
      ·
        refine wp_bipush (v := nI 9) (atd dX5_spotAt 25 rfl) (by decide) ?_
        refine wp_ireti (atd dX5_spotAt 26 rfl) rfl ?_
        exact ⟨(atP_f (has_f c_12)).symm, rfl⟩
      · exact absurd c_27 (by decide)
    ·
      refine wp_iload_n (atd dX5_spotAt 7 rfl) rfl ?_
      refine wp_iconst (v := nI 3) (atd dX5_spotAt 8 rfl) (by decide) ?_
      refine wp_icmp_ge (tgt := 24) (atd dX5_spotAt 9 rfl) (by decide) (fun c_17 => ?_) (fun c_17 => ?_)
      ·
        refine wp_iconst (v := nI 0) (atd dX5_spotAt 12 rfl) (by decide) ?_
        refine wp_istore_n (atd dX5_spotAt 13 rfl) (Nat.le_of_ble_eq_true rfl) ?_
        refine wp_iload_n (atd dX5_spotAt 14 rfl) rfl ?_
        refine wp_ifN_eq (tgt := 43) (atd dX5_spotAt 15 rfl) (by decide) (by omega) (fun c_27 => ?_) (fun c_27 => ?_)
        ·
          refine wp_bipush (v := nI 9) (atd dX5_spotAt 25 rfl) (by decide) ?_
          refine wp_ireti (atd dX5_spotAt 26 rfl) rfl ?_
          exact ⟨(atP_f (has_g (Nat.le_refl 3) (by decide) c_17)).symm, rfl⟩
        · exact absurd c_27 (by decide)
      ·
        refine wp_iconst (v := nI 1) (atd dX5_spotAt 10 rfl) (by decide) ?_
        refine wp_goto (tgt := 25) (atd dX5_spotAt 11 rfl) (by decide) ?_
        refine wp_istore_n (atd dX5_spotAt 13 rfl) (Nat.le_of_ble_eq_true rfl) ?_
        refine wp_iload_n (atd dX5_spotAt 14 rfl) rfl ?_
        refine wp_ifN_eq (tgt := 43) (atd dX5_spotAt 15 rfl) (by decide) (by omega) (fun c_27 => ?_) (fun c_27 => ?_)
        · exact absurd c_27 (by decide)
        ·
          refine wp_aload_n (atd dX5_spotAt 16 rfl) rfl rfl ?_
          refine wp_get fX5_9 (atd dX5_spotAt 17 rfl) hO rfl ?_
          refine wp_iload_n (atd dX5_spotAt 18 rfl) rfl ?_
          refine wp_iconst (v := nI 3) (atd dX5_spotAt 19 rfl) (by decide) ?_
          refine wp_imulN (atd dX5_spotAt 20 rfl) ?_
          obtain ⟨i, hi, rfl⟩ := isP_ofB (has_t (n := 3) (by decide) c_12 c_17)
          refine wp_iload_n (atd dX5_spotAt 21 rfl) rfl ?_
          refine wp_iaddN (atd dX5_spotAt 22 rfl) ?_
          refine wp_ialdA (atd dX5_spotAt 23 rfl) hT.1 (by omega) (Nat.le_of_ble_eq_true rfl) ?_
          refine wp_goto (tgt := 45) (atd dX5_spotAt 24 rfl) (by decide) ?_
          refine wp_ireti (atd dX5_spotAt 26 rfl) rfl ?_
          exact ⟨by rw [atP_t (by decide) hi, spC_at hi], rfl⟩
theorem rlA_lt : ∀ x, x < 219 → (rlA x).1 < 9 ∧ (rlA x).2.1 < 10 ∧ (rlA x).2.2 < 10 := by decide +kernel
theorem rkA_lt {x i : Nat} (hx : x < 219) : rk (rlA x) i < 10 := by
  have := rlA_lt x hx
  unfold rk
  split <;> omega
theorem sdC_lt (x : Nat) : sdC x < 512 := Nat.lt_of_le_of_lt Nat.and_le_right (by decide)
theorem eX5_hunterAt {G : Gx} {d : Nat} {σ : Hp} (hd : 1 ≤ d) {r fc t : Nat} (hO : OB σ r 5 (roF r fc t)) (hT : RT σ r) {x : Nat} {w : Int32} (hx : x < 219) : Cl G mX5_hunterAt d [.ref r, .int (nI x), .int w] σ 0 0 (pI fun z s => z = atP w 3 (fun i => if rk (rlA x) i = 9 then -1 else nI (rk (rlA x) i)) (-1) ∧ s = σ) := by
  obtain ⟨d0, hdd⟩ : ∃ e, d = e + 1 := ⟨d - 1, by omega⟩
  refine cl_of (by decide) (by simp [Value.category]) (Nat.le_of_ble_eq_true rfl) ?_
  show Wp G mX5_hunterAt d 0 [.ref r, .int (nI x), .int w, .double 0] [] σ 0 0 _
  refine wp_aload_n (atd dX5_hunterAt 0 rfl) rfl rfl ?_
  refine wp_iload_n (atd dX5_hunterAt 1 rfl) rfl ?_
  refine wp_iload_n (atd dX5_hunterAt 2 rfl) rfl ?_
  refine wp_cVi hdd [_, _] (atd dX5_hunterAt 3 rfl) iX5_spotAt lX5_53 rfl rfl (Nat.le_of_ble_eq_true rfl) hO rfl (eX5_spotAt (by omega) hO hT hx) (fun r_3 s_3 h_3 => ?_)
  obtain ⟨rfl, e_3⟩ := h_3
  obtain rfl := e_3.symm
  refine wp_istore_n (atd dX5_hunterAt 4 rfl) (Nat.le_of_ble_eq_true rfl) ?_
  by_cases hi : isP w 3
  ·
    obtain ⟨i, hi3, rfl⟩ := isP_ofB hi
    rw [atP_t (by decide) hi3]
    refine wp_iload_n (atd dX5_hunterAt 5 rfl) rfl ?_
    refine wp_bipush (v := nI 9) (atd dX5_hunterAt 6 rfl) (by decide) ?_
    refine wp_icmpN_ne (tgt := 17) (atd dX5_hunterAt 7 rfl) (by decide) (by first | omega | exact Nat.lt_trans (rkA_lt hx) (by decide)) (by omega) (fun c_10 => ?_) (fun c_10 => ?_)
    ·
      refine wp_iload_n (atd dX5_hunterAt 10 rfl) rfl ?_
      refine wp_ireti (atd dX5_hunterAt 11 rfl) rfl ?_
      exact ⟨by rw [atP_t (by decide) hi3, if_neg c_10], rfl⟩
    ·
      refine wp_iconst (v := -1) (atd dX5_hunterAt 8 rfl) (by decide) ?_
      refine wp_goto (tgt := 18) (atd dX5_hunterAt 9 rfl) (by decide) ?_
      refine wp_ireti (atd dX5_hunterAt 11 rfl) rfl ?_
      exact ⟨by rw [atP_t (by decide) hi3, if_pos c_10], rfl⟩
  ·
    rw [atP_f hi]
    refine wp_iload_n (atd dX5_hunterAt 5 rfl) rfl ?_
    refine wp_bipush (v := nI 9) (atd dX5_hunterAt 6 rfl) (by decide) ?_
    refine wp_icmpN_ne (tgt := 17) (atd dX5_hunterAt 7 rfl) (by decide) (by first | omega | exact Nat.lt_trans (rkA_lt hx) (by decide)) (by omega) (fun c_10 => ?_) (fun c_10 => ?_)
    · exfalso; omega
    ·
      refine wp_iconst (v := -1) (atd dX5_hunterAt 8 rfl) (by decide) ?_
      refine wp_goto (tgt := 18) (atd dX5_hunterAt 9 rfl) (by decide) ?_
      refine wp_ireti (atd dX5_hunterAt 11 rfl) rfl ?_
      exact ⟨(atP_f hi).symm, rfl⟩
theorem eX5_standBits {G : Gx} {d : Nat} {σ : Hp} (hd : 0 ≤ d) {r fc t : Nat} (hO : OB σ r 5 (roF r fc t)) (hT : RT σ r) {x : Nat} (hx : x < 219) : Cl G mX5_standBits d [.ref r, .int (nI x)] σ 0 0 (pI fun z s => z = nI (sdC x) ∧ s = σ) := by
  refine cl_of (by decide) (by simp [Value.category]) (Nat.le_of_ble_eq_true rfl) ?_
  show Wp G mX5_standBits d 0 [.ref r, .int (nI x)] [] σ 0 0 _
  refine wp_iload_n (atd dX5_standBits 0 rfl) rfl ?_
  refine wp_ifN_lt (tgt := 20) (atd dX5_standBits 1 rfl) (by decide) (by omega) ?_
  refine wp_iload_n (atd dX5_standBits 2 rfl) rfl ?_
  refine wp_sipush (v := nI 219) (atd dX5_standBits 3 rfl) (by decide) ?_
  refine wp_icmpN_ge (tgt := 20) (atd dX5_standBits 4 rfl) (by decide) (by omega) (by omega) (fun c_8 => ?_) (fun c_8 => ?_)
  · exfalso; omega
  ·
    refine wp_aload_n (atd dX5_standBits 5 rfl) rfl rfl ?_
    refine wp_get fX5_15 (atd dX5_standBits 6 rfl) hO rfl ?_
    refine wp_iload_n (atd dX5_standBits 7 rfl) rfl ?_
    refine wp_ialdA (atd dX5_standBits 8 rfl) hT.2.1 (by omega) (Nat.le_of_ble_eq_true rfl) ?_
    refine wp_goto (tgt := 21) (atd dX5_standBits 9 rfl) (by decide) ?_
    refine wp_ireti (atd dX5_standBits 11 rfl) rfl ?_
    exact ⟨rfl, rfl⟩
theorem eX5_standsAt {G : Gx} {d : Nat} {σ : Hp} (hd : 1 ≤ d) {r fc t : Nat} (hO : OB σ r 5 (roF r fc t)) (hT : RT σ r) {x p : Nat} (hx : x < 219) (hp : p < 9) : Cl G mX5_standsAt d [.ref r, .int (nI x), .int (nI p)] σ 0 0 (pI fun z s => z = bI ((sdC x).testBit p = true) ∧ s = σ) := by
  obtain ⟨d0, hdd⟩ : ∃ e, d = e + 1 := ⟨d - 1, by omega⟩
  refine cl_of (by decide) (by simp [Value.category]) (Nat.le_of_ble_eq_true rfl) ?_
  show Wp G mX5_standsAt d 0 [.ref r, .int (nI x), .int (nI p)] [] σ 0 0 _
  refine wp_iload_n (atd dX5_standsAt 0 rfl) rfl ?_
  refine wp_ifN_lt (tgt := 27) (atd dX5_standsAt 1 rfl) (by decide) (by omega) ?_
  refine wp_iload_n (atd dX5_standsAt 2 rfl) rfl ?_
  refine wp_bipush (v := nI 9) (atd dX5_standsAt 3 rfl) (by decide) ?_
  refine wp_icmpN_ge (tgt := 27) (atd dX5_standsAt 4 rfl) (by decide) (by omega) (by omega) (fun c_7 => ?_) (fun c_7 => ?_)
  · exfalso; omega
  ·
    refine wp_aload_n (atd dX5_standsAt 5 rfl) rfl rfl ?_
    refine wp_iload_n (atd dX5_standsAt 6 rfl) rfl ?_
    refine wp_cVi hdd [_] (atd dX5_standsAt 7 rfl) iX5_standBits lX5_57 rfl rfl (Nat.le_of_ble_eq_true rfl) hO rfl (eX5_standBits (by omega) hO hT (by omega)) (fun r_12 s_12 h_12 => ?_)
    obtain ⟨rfl, e_12⟩ := h_12
    obtain rfl := e_12.symm
    refine wp_iload_n (atd dX5_standsAt 8 rfl) rfl ?_
    refine wp_ishrN (atd dX5_standsAt 9 rfl) (by have := sdC_lt x; omega) (by omega) ?_
    refine wp_iconst (v := nI 1) (atd dX5_standsAt 10 rfl) (by decide) ?_
    refine wp_iandN (atd dX5_standsAt 11 rfl) ?_
    refine wp_iconst (v := nI 1) (atd dX5_standsAt 12 rfl) (by decide) ?_
    refine wp_icmpN_ne (tgt := 27) (atd dX5_standsAt 13 rfl) (by decide) (by have := and1_lt (sdC x >>> p); omega) (by omega) (fun c_20 => ?_) (fun c_20 => ?_)
    ·
      refine wp_iconst (v := nI 0) (atd dX5_standsAt 16 rfl) (by decide) ?_
      refine wp_iretz (atd dX5_standsAt 17 rfl) rfl (by first | rfl | decide) ?_
      exact ⟨(bI_f (fun h => c_20 ((tb_iff _ _).mpr h))).symm, rfl⟩
    ·
      refine wp_iconst (v := nI 1) (atd dX5_standsAt 14 rfl) (by decide) ?_
      refine wp_goto (tgt := 28) (atd dX5_standsAt 15 rfl) (by decide) ?_
      refine wp_iretz (atd dX5_standsAt 17 rfl) rfl (by first | rfl | decide) ?_
      exact ⟨(bI_t ((tb_iff _ _).mp c_20)).symm, rfl⟩
theorem mems_step {s : Nat} : ∀ q, q ≤ 9 → ((List.range (q + 1)).filter (fun q => s.testBit q)) = ((List.range q).filter (fun q => s.testBit q)) ++ (if s.testBit q = true then [q] else []) := fun q _ => by
  rw [List.range_succ, List.filter_append]
  congr 1
  simp only [List.filter_cons, List.filter_nil]
def mem1 (s q : Nat) : List Nat := (List.range q).filter (fun q => s.testBit q)
theorem mem1_t {s q : Nat} (hq : q ≤ 9) (h : s.testBit q = true) : mem1 s (q + 1) = mem1 s q ++ [q] := by rw [mem1, mems_step q hq, if_pos h]; rfl
theorem mem1_f {s q : Nat} (hq : q ≤ 9) (h : ¬ s.testBit q = true) : mem1 s (q + 1) = mem1 s q := by rw [mem1, mems_step q hq, if_neg h, List.append_nil]; rfl
theorem mem1_len (s q : Nat) : (mem1 s q).length ≤ q := by
  have := List.length_filter_le (fun q => s.testBit q) (List.range q)
  rwa [List.length_range] at this
theorem getD_app {l : List Nat} {x i : Nat} : (l ++ [x]).getD i 0 = if i = l.length then x else l.getD i 0 := by
  by_cases h : i < l.length
  · rw [if_neg (by omega), List.getD_eq_getElem?_getD, List.getD_eq_getElem?_getD, List.getElem?_append_left h]
  · by_cases e : i = l.length
    · subst e; rw [if_pos rfl]; simp
    · rw [if_neg e, List.getD_eq_getElem?_getD, List.getD_eq_getElem?_getD, List.getElem?_eq_none (by simp; omega), List.getElem?_eq_none (by omega)]
theorem lX5_learn1 {G : Gx} {d : Nat} {Q : Option Value → Hp → Prop} (hd : 1 ≤ d) {σ0 : Hp} {r kn n fc t : Nat} {nb : Nat → Nat} (hn : n ≤ 9) (hw : ∀ p, nb p < 512) (hap : kn + 1 < r ∨ r + 7 < kn) {p : Nat} (hp : p < 9) (hk : ∀ (σ : Hp) (ns nc : Nat → Nat), OB σ r 5 (roF r fc t) → OB σ kn 3 [.int (nI n), .ref (kn + 1)] → AI σ (kn + 1) 9 nb → AI σ (r + 4) 100 ns → AI σ (r + 5) 10 nc → fr [r + 4, r + 5] σ0 σ → (∀ a, (a < p ∨ a = 9) → nc a = (nl nb a).length ∧ ∀ i, i < (nl nb a).length → ns (10 * a + i) = (nl nb a).getD i 0) → nc p = (mem1 (nb p) 9).length → (∀ i, i < (mem1 (nb p) 9).length → ns (10 * p + i) = (mem1 (nb p) 9).getD i 0) → Wp G mX5_learn d 69 [.ref r, .ref kn, .int (nI p), .int (nI 9)] [] σ 0 0 Q) : ∀ (x : Nat) (q : Nat) (σ : Hp) (ns nc : Nat → Nat), q + x = 9 → OB σ r 5 (roF r fc t) → OB σ kn 3 [.int (nI n), .ref (kn + 1)] → AI σ (kn + 1) 9 nb → AI σ (r + 4) 100 ns → AI σ (r + 5) 10 nc → fr [r + 4, r + 5] σ0 σ → (∀ a, (a < p ∨ a = 9) → nc a = (nl nb a).length ∧ ∀ i, i < (nl nb a).length → ns (10 * a + i) = (nl nb a).getD i 0) → nc p = (mem1 (nb p) q).length → (∀ i, i < (mem1 (nb p) q).length → ns (10 * p + i) = (mem1 (nb p) q).getD i 0) → Wp G mX5_learn d 17 [.ref r, .ref kn, .int (nI p), .int (nI q)] [] σ 0 0 Q := by
  obtain ⟨d0, hdd⟩ : ∃ e, d = e + 1 := ⟨d - 1, by omega⟩
  intro x
  induction x with
  | zero =>
    intro q σ ns nc h hO hN hNA hS hNc hF hr hc hm
    have hml := mem1_len (nb p) q
    obtain rfl : q = 9 := by omega
    refine wp_iload_n (atd dX5_learn 12 rfl) rfl ?_
    refine wp_bipush (v := nI 9) (atd dX5_learn 13 rfl) (by decide) ?_
    refine wp_icmpN_ge (tgt := 69) (atd dX5_learn 14 rfl) (by decide) (by omega) (by omega) (fun c_20 => ?_) (fun c_20 => ?_)
    ·
      exact hk σ ns nc hO hN hNA hS hNc hF hr hc hm
    · exfalso; omega
  | succ x ih =>
    intro q σ ns nc h hO hN hNA hS hNc hF hr hc hm
    have hml := mem1_len (nb p) q
    refine wp_iload_n (atd dX5_learn 12 rfl) rfl ?_
    refine wp_bipush (v := nI 9) (atd dX5_learn 13 rfl) (by decide) ?_
    refine wp_icmpN_ge (tgt := 69) (atd dX5_learn 14 rfl) (by decide) (by omega) (by omega) (fun c_20 => ?_) (fun c_20 => ?_)
    · exfalso; omega
    ·
      refine wp_aload_n (atd dX5_learn 15 rfl) rfl rfl ?_
      refine wp_iload_n (atd dX5_learn 16 rfl) rfl ?_
      refine wp_cVi hdd [_] (atd dX5_learn 17 rfl) iX3_around lX5_61 rfl rfl (Nat.le_of_ble_eq_true rfl) hN rfl (eX3_around (by omega) hN hNA hn hw (by omega)) (fun r_25 s_25 h_25 => ?_)
      obtain ⟨rfl, e_25⟩ := h_25
      obtain rfl := e_25.symm
      refine wp_iload_n (atd dX5_learn 18 rfl) rfl ?_
      refine wp_ishrN (atd dX5_learn 19 rfl) (by have := hw p; omega) (by omega) ?_
      refine wp_iconst (v := nI 1) (atd dX5_learn 20 rfl) (by decide) ?_
      refine wp_iandN (atd dX5_learn 21 rfl) ?_
      refine wp_iconst (v := nI 1) (atd dX5_learn 22 rfl) (by decide) ?_
      refine wp_icmpN_ne (tgt := 63) (atd dX5_learn 23 rfl) (by decide) (by have := and1_lt (nb p >>> q); omega) (by omega) (fun c_33 => ?_) (fun c_33 => ?_)
      ·
        refine wp_iincN (c := 1) (atd dX5_learn 44 rfl) rfl ?_
        refine wp_goto (tgt := 17) (atd dX5_learn 45 rfl) (by decide) ?_
        have e := mem1_f (s := nb p) (q := q) (by omega) (fun h => c_33 ((tb_iff _ _).mpr h))
        exact ih (q + 1) σ ns nc (by omega) hO hN hNA hS hNc hF hr (by rw [e]; exact hc) (by rw [e]; exact hm)
      ·
        refine wp_aload_n (atd dX5_learn 24 rfl) rfl rfl ?_
        refine wp_get fX5_21 (atd dX5_learn 25 rfl) hO rfl ?_
        refine wp_iload_n (atd dX5_learn 26 rfl) rfl ?_
        refine wp_bipush (v := nI 10) (atd dX5_learn 27 rfl) (by decide) ?_
        refine wp_imulN (atd dX5_learn 28 rfl) ?_
        refine wp_aload_n (atd dX5_learn 29 rfl) rfl rfl ?_
        refine wp_get fX5_24 (atd dX5_learn 30 rfl) hO rfl ?_
        refine wp_iload_n (atd dX5_learn 31 rfl) rfl ?_
        refine wp_ialdA (atd dX5_learn 32 rfl) hNc (by omega) (Nat.le_of_ble_eq_true rfl) ?_
        refine wp_iaddN (atd dX5_learn 33 rfl) ?_
        refine wp_iload_n (atd dX5_learn 34 rfl) rfl ?_
        refine wp_iastA (atd dX5_learn 35 rfl) hS (by rw [hc]; omega) (Nat.le_of_ble_eq_true rfl) (fun σ f_52 hS => ?_)
        have hO := hO.fr f_52 (by first | decide | (simp only [List.mem_cons, List.not_mem_nil, or_false]; omega))
        have hN := hN.fr f_52 (by first | decide | (simp only [List.mem_cons, List.not_mem_nil, or_false]; omega))
        have hNA := hNA.fr f_52 (by first | decide | (simp only [List.mem_cons, List.not_mem_nil, or_false]; omega))
        have hNc := hNc.fr f_52 (by first | decide | (simp only [List.mem_cons, List.not_mem_nil, or_false]; omega))
        have hF := hF.tr f_52 (by simp)
        refine wp_aload_n (atd dX5_learn 36 rfl) rfl rfl ?_
        refine wp_get fX5_24 (atd dX5_learn 37 rfl) hO rfl ?_
        refine wp_iload_n (atd dX5_learn 38 rfl) rfl ?_
        refine wp_dup2 (atd dX5_learn 39 rfl) rfl rfl ?_
        refine wp_ialdA (atd dX5_learn 40 rfl) hNc (by omega) (Nat.le_of_ble_eq_true rfl) ?_
        refine wp_iconst (v := nI 1) (atd dX5_learn 41 rfl) (by decide) ?_
        refine wp_iaddN (atd dX5_learn 42 rfl) ?_
        refine wp_iastA (atd dX5_learn 43 rfl) hNc (by omega) (Nat.le_of_ble_eq_true rfl) (fun σ f_62 hNc => ?_)
        have hO := hO.fr f_62 (by first | decide | (simp only [List.mem_cons, List.not_mem_nil, or_false]; omega))
        have hN := hN.fr f_62 (by first | decide | (simp only [List.mem_cons, List.not_mem_nil, or_false]; omega))
        have hNA := hNA.fr f_62 (by first | decide | (simp only [List.mem_cons, List.not_mem_nil, or_false]; omega))
        have hS := hS.fr f_62 (by first | decide | (simp only [List.mem_cons, List.not_mem_nil, or_false]; omega))
        have hF := hF.tr f_62 (by simp)
        refine wp_iincN (c := 1) (atd dX5_learn 44 rfl) rfl ?_
        refine wp_goto (tgt := 17) (atd dX5_learn 45 rfl) (by decide) ?_
        have e := mem1_t (s := nb p) (q := q) (by omega) ((tb_iff _ _).mp c_33)
        refine ih (q + 1) σ _ _ (by omega) hO hN hNA hS hNc hF (fun a ha => ?_) (by rw [e]; simp [va_up, hc]) (fun i hi => ?_)
        · have hap : a ≠ p := by omega
          refine ⟨by simp only [va_up, if_neg hap]; exact (hr a ha).1, fun i hi => ?_⟩
          have hl := nl_len nb a
          simp only [va_up, if_neg (by omega : ¬ 10 * a + i = p * 10 + nc p)]
          exact (hr a ha).2 i hi
        · rw [e, getD_app]
          rw [e, List.length_append] at hi
          by_cases ei : i = (mem1 (nb p) q).length
          · rw [if_pos ei]; simp only [va_up]; rw [if_pos (by rw [hc]; omega)]
          · rw [if_neg ei]; simp only [va_up]; rw [if_neg (by rw [hc]; omega)]; exact hm i (by simp at hi; omega)
theorem lX5_learn {G : Gx} {d : Nat} (hd : 1 ≤ d) {σ0 : Hp} {r kn n fc t : Nat} {nb : Nat → Nat} (hn : n ≤ 9) (hw : ∀ p, nb p < 512) (hap : kn + 1 < r ∨ r + 7 < kn) : ∀ (x : Nat) (p : Nat) (σ : Hp) (ns nc : Nat → Nat) (y : Value), p + x = 9 → OB σ r 5 (roF r fc t) → OB σ kn 3 [.int (nI n), .ref (kn + 1)] → AI σ (kn + 1) 9 nb → AI σ (r + 4) 100 ns → AI σ (r + 5) 10 nc → fr [r + 4, r + 5] σ0 σ → (∀ a, (a < p ∨ a = 9) → nc a = (nl nb a).length ∧ ∀ i, i < (nl nb a).length → ns (10 * a + i) = (nl nb a).getD i 0) → Wp G mX5_learn d 2 [.ref r, .ref kn, .int (nI p), y] [] σ 0 0 (pV fun s => fr [r + 4, r + 5] σ0 s ∧ OB s r 5 (roF r fc t) ∧ LR s r nb) := by
  obtain ⟨d0, hdd⟩ : ∃ e, d = e + 1 := ⟨d - 1, by omega⟩
  intro x
  induction x with
  | zero =>
    intro p σ ns nc y h hO hN hNA hS hNc hF hr
    obtain rfl : p = 9 := by omega
    refine wp_iload_n (atd dX5_learn 2 rfl) rfl ?_
    refine wp_bipush (v := nI 9) (atd dX5_learn 3 rfl) (by decide) ?_
    refine wp_icmpN_ge (tgt := 75) (atd dX5_learn 4 rfl) (by decide) (by omega) (by omega) (fun c_5 => ?_) (fun c_5 => ?_)
    ·
      refine wp_vretv (atd dX5_learn 48 rfl) rfl ?_
      exact ⟨hF, hO, ns, nc, hS, hNc, fun a ha => hr a (by omega)⟩
    · exfalso; omega
  | succ x ih =>
    intro p σ ns nc y h hO hN hNA hS hNc hF hr
    refine wp_iload_n (atd dX5_learn 2 rfl) rfl ?_
    refine wp_bipush (v := nI 9) (atd dX5_learn 3 rfl) (by decide) ?_
    refine wp_icmpN_ge (tgt := 75) (atd dX5_learn 4 rfl) (by decide) (by omega) (by omega) (fun c_5 => ?_) (fun c_5 => ?_)
    · exfalso; omega
    ·
      refine wp_aload_n (atd dX5_learn 5 rfl) rfl rfl ?_
      refine wp_get fX5_24 (atd dX5_learn 6 rfl) hO rfl ?_
      refine wp_iload_n (atd dX5_learn 7 rfl) rfl ?_
      refine wp_iconst (v := nI 0) (atd dX5_learn 8 rfl) (by decide) ?_
      refine wp_iastA (atd dX5_learn 9 rfl) hNc (by omega) (Nat.le_of_ble_eq_true rfl) (fun σ f_14 hNc => ?_)
      have hO := hO.fr f_14 (by first | decide | (simp only [List.mem_cons, List.not_mem_nil, or_false]; omega))
      have hN := hN.fr f_14 (by first | decide | (simp only [List.mem_cons, List.not_mem_nil, or_false]; omega))
      have hNA := hNA.fr f_14 (by first | decide | (simp only [List.mem_cons, List.not_mem_nil, or_false]; omega))
      have hS := hS.fr f_14 (by first | decide | (simp only [List.mem_cons, List.not_mem_nil, or_false]; omega))
      have hF := hF.tr f_14 (by simp)
      refine wp_iconst (v := nI 0) (atd dX5_learn 10 rfl) (by decide) ?_
      refine wp_istore_n (atd dX5_learn 11 rfl) (Nat.le_of_ble_eq_true rfl) ?_
      refine lX5_learn1 (σ0 := σ0) (p := p) (by omega) hn hw hap (by omega) (fun σ ns nc hO hN hNA hS hNc hF hr hc hm => ?_) 9 0 σ ns _ (by omega) hO hN hNA hS hNc hF (fun a ha => ?_) (by simp [va_up, mem1]) (fun i hi => by simp [mem1] at hi)
      ·
        refine wp_iincN (c := 1) (atd dX5_learn 46 rfl) rfl ?_
        refine wp_goto (tgt := 2) (atd dX5_learn 47 rfl) (by decide) ?_
        refine ih (p + 1) σ ns nc _ (by omega) hO hN hNA hS hNc hF (fun a ha => ?_)
        by_cases e : a = p
        · subst e
          have en : nl nb a = mem1 (nb a) 9 := if_neg (by omega)
          rw [en]; exact ⟨hc, hm⟩
        · exact hr a (by omega)
      · have hne : a ≠ p := by omega
        simp only [va_up, if_neg hne]
        exact hr a ha
theorem eX5_learn {G : Gx} {d : Nat} {σ : Hp} (hd : 1 ≤ d) {r kn n fc t : Nat} {nb ns nc : Nat → Nat} (hO : OB σ r 5 (roF r fc t)) (hN : OB σ kn 3 [.int (nI n), .ref (kn + 1)]) (hNA : AI σ (kn + 1) 9 nb) (hS : AI σ (r + 4) 100 ns) (hNc : AI σ (r + 5) 10 nc) (h9 : nc 9 = 1 ∧ ns 90 = 9) (hn : n ≤ 9) (hw : ∀ p, nb p < 512) (hap : kn + 1 < r ∨ r + 7 < kn) : Cl G mX5_learn d [.ref r, .ref kn] σ 0 0 (pV fun s => fr [r + 4, r + 5] σ s ∧ OB s r 5 (roF r fc t) ∧ LR s r nb) := by
  obtain ⟨d0, hdd⟩ : ∃ e, d = e + 1 := ⟨d - 1, by omega⟩
  refine cl_of (by decide) (by simp [Value.category]) (Nat.le_of_ble_eq_true rfl) ?_
  show Wp G mX5_learn d 0 [.ref r, .ref kn, .double 0, .double 0] [] σ 0 0 _
  refine wp_iconst (v := nI 0) (atd dX5_learn 0 rfl) (by decide) ?_
  refine wp_istore_n (atd dX5_learn 1 rfl) (Nat.le_of_ble_eq_true rfl) ?_
  refine lX5_learn (by omega) hn hw hap 9 0 σ ns nc _ (by omega) hO hN hNA hS hNc fr.rf (fun a ha => ?_)
  have e : a = 9 := by omega
  subst e
  refine ⟨h9.1, fun i hi => ?_⟩
  have hi : i < 1 := hi
  have e : i = 0 := by omega
  subst e
  exact h9.2
theorem LRN.nine {nb ns nc : Nat → Nat} (h : LRN nb ns nc) : nc 9 = 1 ∧ ns 90 = 9 := ⟨(h 9 (by decide)).1, (h 9 (by decide)).2 0 (by show 0 < 1; decide)⟩
theorem eX5_note {G : Gx} {d : Nat} {σ : Hp} (hd : 0 ≤ d) {r t : Nat} {l : List Nat} {a b c x : Nat} (hT : RT σ r) (hFS : FS σ r t l) (ha : a < 10) (hb : b < 10) (hc : c < 10) (hx : num a b c = some x) (hx2 : x < 219) (hlen : x ∉ l → l.length < 165) (ht : t < 2 ^ 31 ∧ 0 < t) : Cl G mX5_note d [.ref r, .int (nI a), .int (nI b), .int (nI c)] σ 0 0 (pV fun s => fr [r, r + 6, r + 7] σ s ∧ FS s r t (addR l x)) := by
  refine cl_of (by decide) (by simp [Value.category]) (Nat.le_of_ble_eq_true rfl) ?_
  show Wp G mX5_note d 0 [.ref r, .int (nI a), .int (nI b), .int (nI c), .double 0, .double 0] [] σ 0 0 _
  have hF : fr [r, r + 6, r + 7] σ σ := fr.rf
  obtain ⟨fo, se, hO, hFo, hSe, h4, h50, h6, h7⟩ := hFS
  have h5 := h50 ht.2
  refine wp_iload_n (atd dX5_note 0 rfl) rfl ?_
  refine wp_bipush (v := nI 10) (atd dX5_note 1 rfl) (by decide) ?_
  refine wp_imulN (atd dX5_note 2 rfl) ?_
  refine wp_iload_n (atd dX5_note 3 rfl) rfl ?_
  refine wp_iaddN (atd dX5_note 4 rfl) ?_
  refine wp_bipush (v := nI 10) (atd dX5_note 5 rfl) (by decide) ?_
  refine wp_imulN (atd dX5_note 6 rfl) ?_
  refine wp_iload_n (atd dX5_note 7 rfl) rfl ?_
  refine wp_iaddN (atd dX5_note 8 rfl) ?_
  refine wp_istore (atd dX5_note 9 rfl) (Nat.le_of_ble_eq_true rfl) ?_
  refine wp_iload (atd dX5_note 10 rfl) rfl ?_
  refine wp_ifN_lt (tgt := 38) (atd dX5_note 11 rfl) (by decide) (by omega) ?_
  refine wp_iload (atd dX5_note 12 rfl) rfl ?_
  refine wp_aload_n (atd dX5_note 13 rfl) rfl rfl ?_
  refine wp_get fX5_18 (atd dX5_note 14 rfl) hO rfl ?_
  refine wp_lenO (atd dX5_note 15 rfl) hT.2.2 ?_
  refine wp_icmpN_ge (tgt := 38) (atd dX5_note 16 rfl) (by decide) (by omega) (by omega) (fun c_25 => ?_) (fun c_25 => ?_)
  · exfalso; omega
  ·
    refine wp_aload_n (atd dX5_note 17 rfl) rfl rfl ?_
    refine wp_get fX5_18 (atd dX5_note 18 rfl) hO rfl ?_
    refine wp_iload (atd dX5_note 19 rfl) rfl ?_
    refine wp_ialdO (atd dX5_note 20 rfl) hT.2.2 (by omega) (Nat.le_of_ble_eq_true rfl) ?_
    rw [nmC_at ha hb hc, hx, show oI (some x) = nI x from rfl]
    refine wp_goto (tgt := 39) (atd dX5_note 21 rfl) (by decide) ?_
    refine wp_istore (atd dX5_note 23 rfl) (Nat.le_of_ble_eq_true rfl) ?_
    refine wp_iload (atd dX5_note 24 rfl) rfl ?_
    refine wp_ifN_lt (tgt := 110) (atd dX5_note 25 rfl) (by decide) (by omega) ?_
    refine wp_iload (atd dX5_note 26 rfl) rfl ?_
    refine wp_sipush (v := nI 219) (atd dX5_note 27 rfl) (by decide) ?_
    refine wp_icmpN_ge (tgt := 110) (atd dX5_note 28 rfl) (by decide) (by omega) (by omega) (fun c_51 => ?_) (fun c_51 => ?_)
    · exfalso; omega
    ·
      refine wp_aload_n (atd dX5_note 29 rfl) rfl rfl ?_
      refine wp_get fX5_30 (atd dX5_note 30 rfl) hO rfl ?_
      refine wp_iload (atd dX5_note 31 rfl) rfl ?_
      refine wp_ialdA (atd dX5_note 32 rfl) hSe (by omega) (Nat.le_of_ble_eq_true rfl) ?_
      refine wp_aload_n (atd dX5_note 33 rfl) rfl rfl ?_
      refine wp_get fX5_66 (atd dX5_note 34 rfl) hO rfl ?_
      refine wp_icmpN_eq (tgt := 110) (atd dX5_note 35 rfl) (by decide) (by have := h6 x; omega) ht.1 (fun c_65 => ?_) (fun c_65 => ?_)
      ·
        refine wp_vretv (atd dX5_note 58 rfl) rfl ?_
        refine ⟨hF, ?_⟩
        have hm : x ∈ l := (h5 x hx2).mp c_65
        rw [addR, if_pos hm]
        exact ⟨fo, se, hO, hFo, hSe, h4, fun _ => h5, h6, h7⟩
      ·
        refine wp_aload_n (atd dX5_note 36 rfl) rfl rfl ?_
        refine wp_get fX5_70 (atd dX5_note 37 rfl) hO rfl ?_
        refine wp_sipush (v := nI 165) (atd dX5_note 38 rfl) (by decide) ?_
        refine wp_icmpN_ge (tgt := 110) (atd dX5_note 39 rfl) (by decide) (by have := hlen (fun z => c_65 ((h5 x hx2).mpr z)); omega) (by omega) (fun c_75 => ?_) (fun c_75 => ?_)
        · exfalso; have := hlen (fun z => c_65 ((h5 x hx2).mpr z)); omega
        ·
          refine wp_aload_n (atd dX5_note 40 rfl) rfl rfl ?_
          refine wp_get fX5_30 (atd dX5_note 41 rfl) hO rfl ?_
          refine wp_iload (atd dX5_note 42 rfl) rfl ?_
          refine wp_aload_n (atd dX5_note 43 rfl) rfl rfl ?_
          refine wp_get fX5_66 (atd dX5_note 44 rfl) hO rfl ?_
          refine wp_iastA (atd dX5_note 45 rfl) hSe (by omega) (Nat.le_of_ble_eq_true rfl) (fun σ f_88 hSe => ?_)
          have hO := hO.fr f_88 (by first | decide | (simp only [List.mem_cons, List.not_mem_nil, or_false]; omega))
          have hFo := hFo.fr f_88 (by first | decide | (simp only [List.mem_cons, List.not_mem_nil, or_false]; omega))
          have hF := hF.tr f_88 (by simp)
          refine wp_aload_n (atd dX5_note 46 rfl) rfl rfl ?_
          refine wp_get fX5_27 (atd dX5_note 47 rfl) hO rfl ?_
          refine wp_aload_n (atd dX5_note 48 rfl) rfl rfl ?_
          refine wp_get fX5_70 (atd dX5_note 49 rfl) hO rfl ?_
          refine wp_iload (atd dX5_note 50 rfl) rfl ?_
          refine wp_iastA (atd dX5_note 51 rfl) hFo (hlen (fun z => c_65 ((h5 x hx2).mpr z))) (Nat.le_of_ble_eq_true rfl) (fun σ f_99 hFo => ?_)
          have hO := hO.fr f_99 (by first | decide | (simp only [List.mem_cons, List.not_mem_nil, or_false]; omega))
          have hSe := hSe.fr f_99 (by first | decide | (simp only [List.mem_cons, List.not_mem_nil, or_false]; omega))
          have hF := hF.tr f_99 (by simp)
          refine wp_aload_n (atd dX5_note 52 rfl) rfl rfl ?_
          refine wp_dup (atd dX5_note 53 rfl) rfl ?_
          refine wp_get fX5_70 (atd dX5_note 54 rfl) hO rfl ?_
          refine wp_iconst (v := nI 1) (atd dX5_note 55 rfl) (by decide) ?_
          refine wp_iaddN (atd dX5_note 56 rfl) ?_
          refine wp_putX fX5_70 (atd dX5_note 57 rfl) hO rfl (Nat.le_of_ble_eq_true rfl) (fun σ f_107 hO => ?_)
          have hFo := hFo.fr f_107 (by first | decide | (simp only [List.mem_cons, List.not_mem_nil, or_false]; omega))
          have hSe := hSe.fr f_107 (by first | decide | (simp only [List.mem_cons, List.not_mem_nil, or_false]; omega))
          have hF := hF.tr f_107 (by simp)
          refine wp_vretv (atd dX5_note 58 rfl) rfl ?_
          refine ⟨hF, ?_⟩
          have hm : x ∉ l := fun z => c_65 ((h5 x hx2).mpr z)
          rw [addR, if_neg hm]
          refine ⟨_, _, (by rw [List.length_append]; exact hO), hFo, hSe, fun i hi => ?_, fun _ y hy => ?_, fun y => ?_, ?_⟩
          · rw [getD_app]; simp only [va_up]; by_cases e : i = l.length
            · rw [if_pos e, if_pos e]
            · rw [if_neg e, if_neg e]; rw [List.length_append] at hi; exact h4 i (by simp at hi; omega)
          · simp only [va_up, List.mem_append, List.mem_singleton]; by_cases e : y = x
            · rw [if_pos e]; simp [e]
            · rw [if_neg e, h5 y hy]; simp [e]
          · simp only [va_up]; split
            · exact Nat.le_refl _
            · exact h6 y
          · rw [List.nodup_append]; exact ⟨h7, by simp, fun a ha b hb => by simp at hb; subst hb; exact fun e => hm (e ▸ ha)⟩
theorem nodup_len : ∀ {l : List Nat} {a b : Nat}, l.Nodup → (∀ x ∈ l, a ≤ x ∧ x < b) → l.length ≤ b - a
  | [], _, _, _, _ => Nat.zero_le _
  | y :: l, a, b, hn, h => by
    have hm : ∀ (l : List Nat) (c : Nat), l.Nodup → (∀ x ∈ l, x < c) → l.length ≤ c := by
      intro l c
      induction c generalizing l with
      | zero => intro _ h; cases l with
        | nil => exact Nat.le_refl _
        | cons y l => exact absurd (h y (by simp)) (Nat.not_lt_zero y)
      | succ c ih =>
        intro hn h
        by_cases hc : c ∈ l
        · have h1 := ih (l.erase c) (hn.erase c) (fun x hx => by
            have hx2 := (List.Nodup.mem_erase_iff hn).mp hx
            have := h x hx2.2
            have := hx2.1
            omega)
          rw [List.length_erase_of_mem hc] at h1
          omega
        · have := ih l hn (fun x hx => by
            have := h x hx
            have : x ≠ c := fun e => hc (e ▸ hx)
            omega)
          omega
    have h2 := hm ((y :: l).map (fun x => x - a)) (b - a) (by
      refine (List.pairwise_map).mpr ?_
      refine List.Pairwise.imp_of_mem ?_ hn
      intro u v hu hv huv e
      have := h u hu
      have := h v hv
      exact huv (by omega)) (fun x hx => by
      obtain ⟨z, hz, rfl⟩ := List.mem_map.mp hx
      have := h z hz
      omega)
    rwa [List.length_map] at h2
theorem len165 {l : List Nat} {x f f2 : Nat} (hn : l.Nodup) (hr : ∀ y ∈ l, f ≤ y ∧ y < f2) (h1 : f ≤ x) (h2 : x < f2) (hf : f2 ≤ f + 165) (hx : x ∉ l) : l.length < 165 := by
  have := nodup_len (l := x :: l) (a := f) (b := f2) (List.nodup_cons.mpr ⟨hx, hn⟩) (fun y hy => by
    rcases List.mem_cons.mp hy with rfl | z
    · exact ⟨h1, h2⟩
    · exact hr y z)
  rw [List.length_cons] at this
  omega
theorem getD_mem {l : List Nat} {i : Nat} (h : i < l.length) : l.getD i 0 ∈ l := by
  rw [List.getD_eq_getElem?_getD, List.getElem?_eq_getElem h]
  exact List.getElem_mem h
theorem mem_getD {l : List Nat} {y : Nat} (h : y ∈ l) : ∃ i, i < l.length ∧ l.getD i 0 = y := by
  obtain ⟨i, hi, e⟩ := List.getElem_of_mem h
  exact ⟨i, hi, by rw [List.getD_eq_getElem?_getD, List.getElem?_eq_getElem hi]; exact e⟩
theorem FS.nd {σ : Hp} {r t : Nat} {l : List Nat} (h : FS σ r t l) : l.Nodup := by obtain ⟨_, _, _, _, _, _, _, _, h⟩ := h; exact h
def rgL (l : List Nat) (f f2 : Nat) : Prop := ∀ y ∈ l, f ≤ y ∧ y < f2
def goodN (nb : Nat → Nat) (mv o th f f2 : Nat) : Prop := ∀ y ∈ nl nb mv, ∃ x, num y o th = some x ∧ f ≤ x ∧ x < f2
theorem lX5_stepOne {G : Gx} {d : Nat} (hd : 1 ≤ d) {σ0 : Hp} {r t mv o th f f2 : Nat} {nb ns nc : Nat → Nat} (hL : LRN nb ns nc) (hmv : mv < 10) (ho : o < 10) (hth : th < 10) (hg : goodN nb mv o th f f2) (hf : f2 ≤ f + 165) (hf2 : f2 ≤ 219) (ht : t < 2 ^ 31 ∧ 0 < t) {l0 : List Nat} : ∀ (x : Nat) (i : Nat) (σ : Hp) (l : List Nat), i + x = (nl nb mv).length → RT σ r → AI σ (r + 4) 100 ns → AI σ (r + 5) 10 nc → FS σ r t l → rgL l f f2 → fr [r, r + 6, r + 7] σ0 σ → (∀ x, x ∈ l ↔ x ∈ l0 ∨ ∃ j, j < i ∧ num ((nl nb mv).getD j 0) o th = some x) → Wp G mX5_stepOne d 3 [.ref r, .int (nI mv), .int (nI o), .int (nI th), .int (nI i)] [] σ 0 0 (pV fun s => fr [r, r + 6, r + 7] σ0 s ∧ ∃ l, RT s r ∧ AI s (r + 4) 100 ns ∧ AI s (r + 5) 10 nc ∧ FS s r t l ∧ rgL l f f2 ∧ ∀ x, x ∈ l ↔ x ∈ l0 ∨ ∃ y ∈ nl nb mv, num y o th = some x) := by
  obtain ⟨d0, hdd⟩ : ∃ e, d = e + 1 := ⟨d - 1, by omega⟩
  intro x
  induction x with
  | zero =>
    intro i σ l h hT hS hNc hFS hR hF hm
    refine wp_iload (atd dX5_stepOne 2 rfl) rfl ?_
    refine wp_aload_n (atd dX5_stepOne 3 rfl) rfl rfl ?_
    refine wp_get fX5_24 (atd dX5_stepOne 4 rfl) hFS.ob rfl ?_
    refine wp_iload_n (atd dX5_stepOne 5 rfl) rfl ?_
    refine wp_ialdA (atd dX5_stepOne 6 rfl) hNc (by omega) (Nat.le_of_ble_eq_true rfl) ?_
    rw [(hL mv hmv).1]
    refine wp_icmpN_ge (tgt := 38) (atd dX5_stepOne 7 rfl) (by decide) (by have := nl_len nb mv; omega) (by have := nl_len nb mv; omega) (fun c_11 => ?_) (fun c_11 => ?_)
    ·
      refine wp_vretv (atd dX5_stepOne 22 rfl) rfl ?_
      exact ⟨hF, l, hT, hS, hNc, hFS, hR, fun x => by
      rw [hm x]
      constructor
      · rintro (z | ⟨j, hj, z⟩)
        · exact Or.inl z
        · exact Or.inr ⟨_, getD_mem (by omega), z⟩
      · rintro (z | ⟨y, hy, z⟩)
        · exact Or.inl z
        · obtain ⟨j, hj, rfl⟩ := mem_getD hy
          exact Or.inr ⟨j, by omega, z⟩⟩
    · exfalso; omega
  | succ x ih =>
    intro i σ l h hT hS hNc hFS hR hF hm
    refine wp_iload (atd dX5_stepOne 2 rfl) rfl ?_
    refine wp_aload_n (atd dX5_stepOne 3 rfl) rfl rfl ?_
    refine wp_get fX5_24 (atd dX5_stepOne 4 rfl) hFS.ob rfl ?_
    refine wp_iload_n (atd dX5_stepOne 5 rfl) rfl ?_
    refine wp_ialdA (atd dX5_stepOne 6 rfl) hNc (by omega) (Nat.le_of_ble_eq_true rfl) ?_
    rw [(hL mv hmv).1]
    refine wp_icmpN_ge (tgt := 38) (atd dX5_stepOne 7 rfl) (by decide) (by have := nl_len nb mv; omega) (by have := nl_len nb mv; omega) (fun c_11 => ?_) (fun c_11 => ?_)
    · exfalso; omega
    ·
      refine wp_aload_n (atd dX5_stepOne 8 rfl) rfl rfl ?_
      refine wp_aload_n (atd dX5_stepOne 9 rfl) rfl rfl ?_
      refine wp_get fX5_21 (atd dX5_stepOne 10 rfl) hFS.ob rfl ?_
      refine wp_iload_n (atd dX5_stepOne 11 rfl) rfl ?_
      refine wp_bipush (v := nI 10) (atd dX5_stepOne 12 rfl) (by decide) ?_
      refine wp_imulN (atd dX5_stepOne 13 rfl) ?_
      refine wp_iload (atd dX5_stepOne 14 rfl) rfl ?_
      refine wp_iaddN (atd dX5_stepOne 15 rfl) ?_
      refine wp_ialdA (atd dX5_stepOne 16 rfl) hS (by have := nl_len nb mv; omega) (Nat.le_of_ble_eq_true rfl) ?_
      have hi : i < (nl nb mv).length := c_11
      rw [show mv * 10 + i = 10 * mv + i by omega, (hL mv hmv).2 i hi]
      obtain ⟨x, hx, hx1, hx2⟩ := hg _ (getD_mem hi)
      refine wp_iload_n (atd dX5_stepOne 17 rfl) rfl ?_
      refine wp_iload_n (atd dX5_stepOne 18 rfl) rfl ?_
      refine wp_cVv hdd [_, _, _] (atd dX5_stepOne 19 rfl) iX5_note lX5_77 rfl rfl (Nat.le_of_ble_eq_true rfl) hFS.ob rfl (eX5_note (by omega) hT hFS (nl_lt (getD_mem hi)) ho hth hx (by omega) (fun z => len165 hFS.nd hR hx1 hx2 hf z) ht) (fun s_29 h_29 => ?_)
      obtain ⟨f_29, hFS2⟩ := h_29
      have hT := hT.fr f_29 ⟨by simp only [List.mem_cons, List.not_mem_nil, or_false]; omega, by simp only [List.mem_cons, List.not_mem_nil, or_false]; omega, by simp only [List.mem_cons, List.not_mem_nil, or_false]; omega⟩
      have hS := hS.fr f_29 (by simp only [List.mem_cons, List.not_mem_nil, or_false]; omega)
      have hNc := hNc.fr f_29 (by simp only [List.mem_cons, List.not_mem_nil, or_false]; omega)
      have hF := hF.tr f_29 (by simp)
      refine wp_iincN (c := 1) (atd dX5_stepOne 20 rfl) rfl ?_
      refine wp_goto (tgt := 3) (atd dX5_stepOne 21 rfl) (by decide) ?_
      refine ih (i + 1) _ _ (by omega) hT hS hNc hFS2 (fun y hy => ?_) hF (fun y => ?_)
      · rcases addR_mem.mp hy with z | rfl
        · exact hR y z
        · exact ⟨hx1, hx2⟩
      · rw [addR_mem, hm y]
        constructor
        · rintro ((z | ⟨j, hj, z⟩) | rfl)
          · exact Or.inl z
          · exact Or.inr ⟨j, by omega, z⟩
          · exact Or.inr ⟨i, by omega, hx⟩
        · rintro (z | ⟨j, hj, z⟩)
          · exact Or.inl (Or.inl z)
          · by_cases e : j = i
            · subst e; rw [hx] at z; exact Or.inr (Option.some.inj z).symm
            · exact Or.inl (Or.inr ⟨j, by omega, z⟩)
theorem eX5_stepOne {G : Gx} {d : Nat} {σ : Hp} (hd : 1 ≤ d) {r t mv o th f f2 : Nat} {nb ns nc : Nat → Nat} {l : List Nat} (hL : LRN nb ns nc) (hmv : mv < 10) (ho : o < 10) (hth : th < 10) (hg : goodN nb mv o th f f2) (hf : f2 ≤ f + 165) (hf2 : f2 ≤ 219) (ht : t < 2 ^ 31 ∧ 0 < t) (hT : RT σ r) (hS : AI σ (r + 4) 100 ns) (hNc : AI σ (r + 5) 10 nc) (hFS : FS σ r t l) (hR : rgL l f f2) : Cl G mX5_stepOne d [.ref r, .int (nI mv), .int (nI o), .int (nI th)] σ 0 0 (pV fun s => fr [r, r + 6, r + 7] σ s ∧ ∃ l2, RT s r ∧ AI s (r + 4) 100 ns ∧ AI s (r + 5) 10 nc ∧ FS s r t l2 ∧ rgL l2 f f2 ∧ ∀ x, x ∈ l2 ↔ x ∈ l ∨ ∃ y ∈ nl nb mv, num y o th = some x) := by
  obtain ⟨d0, hdd⟩ : ∃ e, d = e + 1 := ⟨d - 1, by omega⟩
  refine cl_of (by decide) (by simp [Value.category]) (Nat.le_of_ble_eq_true rfl) ?_
  show Wp G mX5_stepOne d 0 [.ref r, .int (nI mv), .int (nI o), .int (nI th), .double 0] [] σ 0 0 _
  refine wp_iconst (v := nI 0) (atd dX5_stepOne 0 rfl) (by decide) ?_
  refine wp_istore (atd dX5_stepOne 1 rfl) (Nat.le_of_ble_eq_true rfl) ?_
  exact lX5_stepOne (by omega) hL hmv ho hth hg hf hf2 ht _ 0 σ l (Nat.zero_add _) hT hS hNc hFS hR fr.rf (fun x => ⟨Or.inl, fun z => z.elim id (fun ⟨j, hj, _⟩ => absurd hj (Nat.not_lt_zero j))⟩)
/-- where hunters at a, b, c come: one of them, or all -/
def stS (nb : Nat → Nat) (lz : Prop) (a b c x : Nat) : Prop := (lz ∧ ((∃ y ∈ nl nb a, num y b c = some x) ∨ (∃ y ∈ nl nb b, num y a c = some x) ∨ ∃ y ∈ nl nb c, num y a b = some x)) ∨ (¬ lz ∧ ∃ u ∈ nl nb a, ∃ v ∈ nl nb b, ∃ y ∈ nl nb c, num y u v = some x)
/-- all that can be come to are rows of as many hunters -/
def goodS (nb : Nat → Nat) (a b c f f2 : Nat) : Prop := (∀ u, (u = a ∨ u ∈ nl nb a) → ∀ v, (v = b ∨ v ∈ nl nb b) → ∀ y, (y = c ∨ y ∈ nl nb c) → ∃ x, num u v y = some x ∧ f ≤ x ∧ x < f2)
theorem num_perm {a b c : Nat} (ha : a < 10) (hb : b < 10) (hc : c < 10) : num a b c = num b a c ∧ num a b c = num c a b ∧ num a b c = num b c a := by
  unfold num
  have h1 : tl3 a b c = tl3 b a c := by
    simp only [tl3, Prod.mk.injEq]
    refine ⟨?_, ?_, ?_⟩ <;> (simp only [mn, mx]; (repeat' split) <;> omega)
  have h2 : tl3 a b c = tl3 c a b := by
    simp only [tl3, Prod.mk.injEq]
    refine ⟨?_, ?_, ?_⟩ <;> (simp only [mn, mx]; (repeat' split) <;> omega)
  have h3 : tl3 a b c = tl3 b c a := by
    simp only [tl3, Prod.mk.injEq]
    refine ⟨?_, ?_, ?_⟩ <;> (simp only [mn, mx]; (repeat' split) <;> omega)
  exact ⟨by rw [h1], by rw [h2], by rw [h3]⟩
theorem lX5_stepFrom1 {G : Gx} {d : Nat} {Q : Option Value → Hp → Prop} (hd : 2 ≤ d) {σ0 : Hp} {r t f f2 : Nat} {nb ns nc : Nat → Nat} {lz : Value} {xx : Value} {a b c : Nat} (hL : LRN nb ns nc) (hla : a < 10) (hlb : b < 10) (hlc : c < 10) (hg : goodS nb a b c f f2) (hf : f2 ≤ f + 165) (hf2 : f2 ≤ 219) (ht : t < 2 ^ 31 ∧ 0 < t) {i : Nat} (hi : i < (nl nb a).length) {l0 : List Nat} (hk : ∀ (σ : Hp) (l : List Nat), RT σ r → AI σ (r + 4) 100 ns → AI σ (r + 5) 10 nc → FS σ r t l → rgL l f f2 → fr [r, r + 6, r + 7] σ0 σ → (∀ y, y ∈ l ↔ y ∈ l0 ∨ ∃ v ∈ nl nb b, ∃ u ∈ nl nb c, num u ((nl nb a).getD i 0) v = some y) → Wp G mX5_stepFrom d 136 [.ref r, xx, lz, .int (nI a), .int (nI b), .int (nI c), .int (nI i), .int (nI (nl nb b).length)] [] σ 0 0 Q) : ∀ (z : Nat) (j : Nat) (σ : Hp) (l : List Nat), j + z = (nl nb b).length → RT σ r → AI σ (r + 4) 100 ns → AI σ (r + 5) 10 nc → FS σ r t l → rgL l f f2 → fr [r, r + 6, r + 7] σ0 σ → (∀ y, y ∈ l ↔ y ∈ l0 ∨ ∃ j2, j2 < j ∧ ∃ u ∈ nl nb c, num u ((nl nb a).getD i 0) ((nl nb b).getD j2 0) = some y) → Wp G mX5_stepFrom d 87 [.ref r, xx, lz, .int (nI a), .int (nI b), .int (nI c), .int (nI i), .int (nI j)] [] σ 0 0 Q := by
  obtain ⟨d0, hdd⟩ : ∃ e, d = e + 1 := ⟨d - 1, by omega⟩
  intro z
  induction z with
  | zero =>
    intro j σ l h hT hS hNc hFS hR hF hm
    have hl9 := nl_len nb b
    have hl8 := nl_len nb a
    obtain rfl : j = (nl nb b).length := by omega
    refine wp_iload (atd dX5_stepFrom 52 rfl) rfl ?_
    refine wp_aload_n (atd dX5_stepFrom 53 rfl) rfl rfl ?_
    refine wp_get fX5_24 (atd dX5_stepFrom 54 rfl) hFS.ob rfl ?_
    refine wp_iload (atd dX5_stepFrom 55 rfl) rfl ?_
    refine wp_ialdA (atd dX5_stepFrom 56 rfl) hNc (by omega) (Nat.le_of_ble_eq_true rfl) ?_
    rw [(hL b hlb).1]
    refine wp_icmpN_ge (tgt := 136) (atd dX5_stepFrom 57 rfl) (by decide) (by omega) (by omega) (fun c_96 => ?_) (fun c_96 => ?_)
    ·
      refine hk σ l hT hS hNc hFS hR hF (fun y => ?_)
      rw [hm y]
      constructor
      · rintro (z | ⟨j, hj, u, hu, z⟩)
        · exact Or.inl z
        · exact Or.inr ⟨_, getD_mem hj, u, hu, z⟩
      · rintro (z | ⟨v, hv, u, hu, z⟩)
        · exact Or.inl z
        · obtain ⟨j, hj, rfl⟩ := mem_getD hv
          exact Or.inr ⟨j, hj, u, hu, z⟩
    · exfalso; omega
  | succ z ih =>
    intro j σ l h hT hS hNc hFS hR hF hm
    have hl9 := nl_len nb b
    have hl8 := nl_len nb a
    refine wp_iload (atd dX5_stepFrom 52 rfl) rfl ?_
    refine wp_aload_n (atd dX5_stepFrom 53 rfl) rfl rfl ?_
    refine wp_get fX5_24 (atd dX5_stepFrom 54 rfl) hFS.ob rfl ?_
    refine wp_iload (atd dX5_stepFrom 55 rfl) rfl ?_
    refine wp_ialdA (atd dX5_stepFrom 56 rfl) hNc (by omega) (Nat.le_of_ble_eq_true rfl) ?_
    rw [(hL b hlb).1]
    refine wp_icmpN_ge (tgt := 136) (atd dX5_stepFrom 57 rfl) (by decide) (by omega) (by omega) (fun c_96 => ?_) (fun c_96 => ?_)
    · exfalso; omega
    ·
      refine wp_aload_n (atd dX5_stepFrom 58 rfl) rfl rfl ?_
      refine wp_iload (atd dX5_stepFrom 59 rfl) rfl ?_
      refine wp_aload_n (atd dX5_stepFrom 60 rfl) rfl rfl ?_
      refine wp_get fX5_21 (atd dX5_stepFrom 61 rfl) hFS.ob rfl ?_
      refine wp_iload_n (atd dX5_stepFrom 62 rfl) rfl ?_
      refine wp_bipush (v := nI 10) (atd dX5_stepFrom 63 rfl) (by decide) ?_
      refine wp_imulN (atd dX5_stepFrom 64 rfl) ?_
      refine wp_iload (atd dX5_stepFrom 65 rfl) rfl ?_
      refine wp_iaddN (atd dX5_stepFrom 66 rfl) ?_
      refine wp_ialdA (atd dX5_stepFrom 67 rfl) hS (by omega) (Nat.le_of_ble_eq_true rfl) ?_
      rw [show a * 10 + i = 10 * a + i by omega, (hL a hla).2 i hi]
      refine wp_aload_n (atd dX5_stepFrom 68 rfl) rfl rfl ?_
      refine wp_get fX5_21 (atd dX5_stepFrom 69 rfl) hFS.ob rfl ?_
      refine wp_iload (atd dX5_stepFrom 70 rfl) rfl ?_
      refine wp_bipush (v := nI 10) (atd dX5_stepFrom 71 rfl) (by decide) ?_
      refine wp_imulN (atd dX5_stepFrom 72 rfl) ?_
      refine wp_iload (atd dX5_stepFrom 73 rfl) rfl ?_
      refine wp_iaddN (atd dX5_stepFrom 74 rfl) ?_
      refine wp_ialdA (atd dX5_stepFrom 75 rfl) hS (by omega) (Nat.le_of_ble_eq_true rfl) ?_
      rw [show b * 10 + j = 10 * b + j by omega, (hL b hlb).2 j c_96]
      refine wp_cVv hdd [_, _, _] (atd dX5_stepFrom 76 rfl) iX5_stepOne lX5_73 rfl rfl (Nat.le_of_ble_eq_true rfl) hFS.ob rfl (eX5_stepOne (by omega) hL hlc (nl_lt (getD_mem hi)) (nl_lt (getD_mem c_96)) (fun y hy => by rw [(num_perm (nl_lt hy) (nl_lt (getD_mem hi)) (nl_lt (getD_mem c_96))).2.2]; exact hg _ (Or.inr (getD_mem hi)) _ (Or.inr (getD_mem c_96)) y (Or.inr hy)) hf hf2 ht hT hS hNc hFS hR) (fun s_127 h_127 => ?_)
      obtain ⟨f_127, l2, hT, hS, hNc, hFS, hR, hm2⟩ := h_127
      have hF := hF.tr f_127 (by simp)
      refine wp_iincN (c := 1) (atd dX5_stepFrom 77 rfl) rfl ?_
      refine wp_goto (tgt := 87) (atd dX5_stepFrom 78 rfl) (by decide) ?_
      refine ih (j + 1) _ l2 (by omega) hT hS hNc hFS hR hF (fun y => ?_)
      rw [hm2 y, hm y]
      constructor
      · rintro ((z | ⟨j2, hj, u, hu, z⟩) | ⟨u, hu, z⟩)
        · exact Or.inl z
        · exact Or.inr ⟨j2, by omega, u, hu, z⟩
        · exact Or.inr ⟨j, by omega, u, hu, z⟩
      · rintro (z | ⟨j2, hj, u, hu, z⟩)
        · exact Or.inl (Or.inl z)
        · by_cases e : j2 = j
          · subst e; exact Or.inr ⟨u, hu, z⟩
          · exact Or.inl (Or.inr ⟨j2, by omega, u, hu, z⟩)
theorem lX5_stepFrom {G : Gx} {d : Nat} (hd : 2 ≤ d) {σ0 : Hp} {r t f f2 : Nat} {nb ns nc : Nat → Nat} {lz : Value} {xx : Value} {a b c : Nat} (hL : LRN nb ns nc) (hla : a < 10) (hlb : b < 10) (hlc : c < 10) (hg : goodS nb a b c f f2) (hf : f2 ≤ f + 165) (hf2 : f2 ≤ 219) (ht : t < 2 ^ 31 ∧ 0 < t) : ∀ (z : Nat) (i : Nat) (σ : Hp) (l : List Nat) (y0 : Value), i + z = (nl nb a).length → RT σ r → AI σ (r + 4) 100 ns → AI σ (r + 5) 10 nc → FS σ r t l → rgL l f f2 → fr [r, r + 6, r + 7] σ0 σ → (∀ y, y ∈ l ↔ ∃ i2, i2 < i ∧ ∃ v ∈ nl nb b, ∃ u ∈ nl nb c, num u ((nl nb a).getD i2 0) v = some y) → Wp G mX5_stepFrom d 73 [.ref r, xx, lz, .int (nI a), .int (nI b), .int (nI c), .int (nI i), y0] [] σ 0 0 (pV fun s => fr [r, r + 6, r + 7] σ0 s ∧ RT s r ∧ LR s r nb ∧ ∃ l2, FS s r t l2 ∧ rgL l2 f f2 ∧ ∀ y, y ∈ l2 ↔ ∃ u ∈ nl nb a, ∃ v ∈ nl nb b, ∃ w ∈ nl nb c, num w u v = some y) := by
  obtain ⟨d0, hdd⟩ : ∃ e, d = e + 1 := ⟨d - 1, by omega⟩
  intro z
  induction z with
  | zero =>
    intro i σ l y0 h hT hS hNc hFS hR hF hm
    have hl8 := nl_len nb a
    obtain rfl : i = (nl nb a).length := by omega
    refine wp_iload (atd dX5_stepFrom 44 rfl) rfl ?_
    refine wp_aload_n (atd dX5_stepFrom 45 rfl) rfl rfl ?_
    refine wp_get fX5_24 (atd dX5_stepFrom 46 rfl) hFS.ob rfl ?_
    refine wp_iload_n (atd dX5_stepFrom 47 rfl) rfl ?_
    refine wp_ialdA (atd dX5_stepFrom 48 rfl) hNc (by omega) (Nat.le_of_ble_eq_true rfl) ?_
    rw [(hL a hla).1]
    refine wp_icmpN_ge (tgt := 142) (atd dX5_stepFrom 49 rfl) (by decide) (by omega) (by omega) (fun c_81 => ?_) (fun c_81 => ?_)
    ·
      refine wp_vretv (atd dX5_stepFrom 81 rfl) rfl ?_
      refine ⟨hF, hT, ⟨ns, nc, hS, hNc, hL⟩, l, hFS, hR, fun y => ?_⟩
      rw [hm y]
      constructor
      · rintro ⟨i, hi, v, hv, u, hu, z⟩
        exact ⟨_, getD_mem hi, v, hv, u, hu, z⟩
      · rintro ⟨w, hw, v, hv, u, hu, z⟩
        obtain ⟨i, hi, rfl⟩ := mem_getD hw
        exact ⟨i, hi, v, hv, u, hu, z⟩
    · exfalso; omega
  | succ z ih =>
    intro i σ l y0 h hT hS hNc hFS hR hF hm
    have hl8 := nl_len nb a
    refine wp_iload (atd dX5_stepFrom 44 rfl) rfl ?_
    refine wp_aload_n (atd dX5_stepFrom 45 rfl) rfl rfl ?_
    refine wp_get fX5_24 (atd dX5_stepFrom 46 rfl) hFS.ob rfl ?_
    refine wp_iload_n (atd dX5_stepFrom 47 rfl) rfl ?_
    refine wp_ialdA (atd dX5_stepFrom 48 rfl) hNc (by omega) (Nat.le_of_ble_eq_true rfl) ?_
    rw [(hL a hla).1]
    refine wp_icmpN_ge (tgt := 142) (atd dX5_stepFrom 49 rfl) (by decide) (by omega) (by omega) (fun c_81 => ?_) (fun c_81 => ?_)
    · exfalso; omega
    ·
      refine wp_iconst (v := nI 0) (atd dX5_stepFrom 50 rfl) (by decide) ?_
      refine wp_istore (atd dX5_stepFrom 51 rfl) (Nat.le_of_ble_eq_true rfl) ?_
      refine lX5_stepFrom1 (σ0 := σ0) (l0 := l) (by omega) hL hla hlb hlc hg hf hf2 ht c_81 (fun σ l2 hT hS hNc hFS hR hF hm2 => ?_) (nl nb b).length 0 σ l (by omega) hT hS hNc hFS hR hF (fun y => ⟨Or.inl, fun z => z.elim id (fun ⟨j, hj, _⟩ => absurd hj (Nat.not_lt_zero j))⟩)
      refine wp_iincN (c := 1) (atd dX5_stepFrom 79 rfl) rfl ?_
      refine wp_goto (tgt := 73) (atd dX5_stepFrom 80 rfl) (by decide) ?_
      refine ih (i + 1) σ l2 _ (by omega) hT hS hNc hFS hR hF (fun y => ?_)
      rw [hm2 y, hm y]
      constructor
      · rintro (⟨i2, hi, z⟩ | ⟨v, hv, u, hu, z⟩)
        · exact ⟨i2, by omega, z⟩
        · exact ⟨i, by omega, v, hv, u, hu, z⟩
      · rintro ⟨i2, hi, z⟩
        by_cases e : i2 = i
        · subst e; obtain ⟨v, hv, u, hu, z⟩ := z; exact Or.inr ⟨v, hv, u, hu, z⟩
        · exact Or.inl ⟨i2, by omega, z⟩
theorem eX5_stepFrom {G : Gx} {d : Nat} {σ : Hp} (hd : 2 ≤ d) {r t x f f2 : Nat} {nb : Nat → Nat} {lz : Prop} [Decidable lz] {a b c : Nat} {l : List Nat} (hT : RT σ r) (hLR : LR σ r nb) (hFS : FS σ r t l) (hx : x < 219) (ea : rk (rlA x) 0 = a) (eb : rk (rlA x) 1 = b) (ec : rk (rlA x) 2 = c) (hg : goodS nb a b c f f2) (hf : f2 ≤ f + 165) (hf2 : f2 ≤ 219) (ht : t + 1 < 2 ^ 31) : Cl G mX5_stepFrom d [.ref r, .int (nI x), .int (bI lz)] σ 0 0 (pV fun s => fr [r, r + 6, r + 7] σ s ∧ RT s r ∧ LR s r nb ∧ ∃ l2, FS s r (t + 1) l2 ∧ rgL l2 f f2 ∧ ∀ y, y ∈ l2 ↔ stS nb lz a b c y) := by
  obtain ⟨d0, hdd⟩ : ∃ e, d = e + 1 := ⟨d - 1, by omega⟩
  refine cl_of (by decide) (by simp [Value.category]) (Nat.le_of_ble_eq_true rfl) ?_
  show Wp G mX5_stepFrom d 0 [.ref r, .int (nI x), .int (bI lz), .double 0, .double 0, .double 0, .double 0, .double 0] [] σ 0 0 _
  have hF : fr [r, r + 6, r + 7] σ σ := fr.rf
  have hla : a < 10 := ea ▸ rkA_lt hx
  have hlb : b < 10 := eb ▸ rkA_lt hx
  have hlc : c < 10 := ec ▸ rkA_lt hx
  obtain ⟨fo, se, hO, hFo, hSe, h4, h5, h6, h7⟩ := hFS
  obtain ⟨ns, nc, hS, hNc, hL⟩ := hLR
  have hT0 := hT
  refine wp_aload_n (atd dX5_stepFrom 0 rfl) rfl rfl ?_
  refine wp_dup (atd dX5_stepFrom 1 rfl) rfl ?_
  refine wp_get fX5_66 (atd dX5_stepFrom 2 rfl) hO rfl ?_
  refine wp_iconst (v := nI 1) (atd dX5_stepFrom 3 rfl) (by decide) ?_
  refine wp_iaddN (atd dX5_stepFrom 4 rfl) ?_
  refine wp_putX fX5_66 (atd dX5_stepFrom 5 rfl) hO rfl (Nat.le_of_ble_eq_true rfl) (fun σ f_7 hO => ?_)
  have hFo := hFo.fr f_7 (by first | decide | (simp only [List.mem_cons, List.not_mem_nil, or_false]; omega))
  have hSe := hSe.fr f_7 (by first | decide | (simp only [List.mem_cons, List.not_mem_nil, or_false]; omega))
  have hS := hS.fr f_7 (by first | decide | (simp only [List.mem_cons, List.not_mem_nil, or_false]; omega))
  have hNc := hNc.fr f_7 (by first | decide | (simp only [List.mem_cons, List.not_mem_nil, or_false]; omega))
  have hF := hF.tr f_7 (by simp)
  have hT := hT.fr f_7 ⟨by simp only [List.mem_cons, List.not_mem_nil, or_false]; omega, by simp only [List.mem_cons, List.not_mem_nil, or_false]; omega, by simp only [List.mem_cons, List.not_mem_nil, or_false]; omega⟩
  refine wp_aload_n (atd dX5_stepFrom 6 rfl) rfl rfl ?_
  refine wp_iconst (v := nI 0) (atd dX5_stepFrom 7 rfl) (by decide) ?_
  refine wp_putX fX5_70 (atd dX5_stepFrom 8 rfl) hO rfl (Nat.le_of_ble_eq_true rfl) (fun σ f_12 hO => ?_)
  have hFo := hFo.fr f_12 (by first | decide | (simp only [List.mem_cons, List.not_mem_nil, or_false]; omega))
  have hSe := hSe.fr f_12 (by first | decide | (simp only [List.mem_cons, List.not_mem_nil, or_false]; omega))
  have hS := hS.fr f_12 (by first | decide | (simp only [List.mem_cons, List.not_mem_nil, or_false]; omega))
  have hNc := hNc.fr f_12 (by first | decide | (simp only [List.mem_cons, List.not_mem_nil, or_false]; omega))
  have hF := hF.tr f_12 (by simp)
  have hT := hT.fr f_12 ⟨by simp only [List.mem_cons, List.not_mem_nil, or_false]; omega, by simp only [List.mem_cons, List.not_mem_nil, or_false]; omega, by simp only [List.mem_cons, List.not_mem_nil, or_false]; omega⟩
  refine wp_aload_n (atd dX5_stepFrom 9 rfl) rfl rfl ?_
  refine wp_iload_n (atd dX5_stepFrom 10 rfl) rfl ?_
  refine wp_iconst (v := nI 0) (atd dX5_stepFrom 11 rfl) (by decide) ?_
  refine wp_cVi hdd [_, _] (atd dX5_stepFrom 12 rfl) iX5_spotAt lX5_53 rfl rfl (Nat.le_of_ble_eq_true rfl) hO rfl (eX5_spotAtN (by omega) hO hT hx (by omega)) (fun r_18 s_18 h_18 => ?_)
  obtain ⟨rfl, e_18⟩ := h_18
  obtain rfl := e_18.symm
  refine wp_istore_n (atd dX5_stepFrom 13 rfl) (Nat.le_of_ble_eq_true rfl) ?_
  refine wp_aload_n (atd dX5_stepFrom 14 rfl) rfl rfl ?_
  refine wp_iload_n (atd dX5_stepFrom 15 rfl) rfl ?_
  refine wp_iconst (v := nI 1) (atd dX5_stepFrom 16 rfl) (by decide) ?_
  refine wp_cVi hdd [_, _] (atd dX5_stepFrom 17 rfl) iX5_spotAt lX5_53 rfl rfl (Nat.le_of_ble_eq_true rfl) hO rfl (eX5_spotAtN (by omega) hO hT hx (by omega)) (fun r_25 s_25 h_25 => ?_)
  obtain ⟨rfl, e_25⟩ := h_25
  obtain rfl := e_25.symm
  refine wp_istore (atd dX5_stepFrom 18 rfl) (Nat.le_of_ble_eq_true rfl) ?_
  refine wp_aload_n (atd dX5_stepFrom 19 rfl) rfl rfl ?_
  refine wp_iload_n (atd dX5_stepFrom 20 rfl) rfl ?_
  refine wp_iconst (v := nI 2) (atd dX5_stepFrom 21 rfl) (by decide) ?_
  refine wp_cVi hdd [_, _] (atd dX5_stepFrom 22 rfl) iX5_spotAt lX5_53 rfl rfl (Nat.le_of_ble_eq_true rfl) hO rfl (eX5_spotAtN (by omega) hO hT hx (by omega)) (fun r_33 s_33 h_33 => ?_)
  obtain ⟨rfl, e_33⟩ := h_33
  obtain rfl := e_33.symm
  refine wp_istore (atd dX5_stepFrom 23 rfl) (Nat.le_of_ble_eq_true rfl) ?_
  rw [ea, eb, ec]
  have hFS : FS σ r (t + 1) [] := ⟨fo, se, hO, hFo, hSe, fun i hi => absurd hi (Nat.not_lt_zero i), fun _ y hy => ⟨fun e => (by have := h6 y; omega), fun z => by cases z⟩, fun y => Nat.le_succ_of_le (h6 y), by simp⟩
  have hR : rgL [] f f2 := fun y hy => by cases hy
  refine wp_iload_n (atd dX5_stepFrom 24 rfl) rfl ?_
  refine wp_ifB_eq (tgt := 70) (atd dX5_stepFrom 25 rfl) (by decide) (fun c_39 => ?_) (fun c_39 => ?_)
  ·
    refine wp_iconst (v := nI 0) (atd dX5_stepFrom 42 rfl) (by decide) ?_
    refine wp_istore (atd dX5_stepFrom 43 rfl) (Nat.le_of_ble_eq_true rfl) ?_
    refine wp_post (lX5_stepFrom (by omega) hL hla hlb hlc hg hf hf2 ⟨ht, Nat.succ_pos _⟩ _ 0 _ [] _ (Nat.zero_add _) hT hS hNc hFS hR hF (fun y => ⟨fun z => (by cases z), fun ⟨i2, hi, _⟩ => absurd hi (Nat.not_lt_zero i2)⟩)) ?_
    rintro v s ⟨rfl, hF, hT, hLR, l2, hFS, hR, hm⟩
    refine ⟨rfl, hF, hT, hLR, l2, hFS, hR, fun y => ?_⟩
    rw [hm y]
    unfold stS
    exact ⟨fun z => Or.inr ⟨c_39, z⟩, fun z => z.elim (fun w => absurd w.1 c_39) (fun w => w.2)⟩
  ·
    refine wp_aload_n (atd dX5_stepFrom 26 rfl) rfl rfl ?_
    refine wp_iload_n (atd dX5_stepFrom 27 rfl) rfl ?_
    refine wp_iload (atd dX5_stepFrom 28 rfl) rfl ?_
    refine wp_iload (atd dX5_stepFrom 29 rfl) rfl ?_
    refine wp_cVv hdd [_, _, _] (atd dX5_stepFrom 30 rfl) iX5_stepOne lX5_73 rfl rfl (Nat.le_of_ble_eq_true rfl) hFS.ob rfl (eX5_stepOne (by omega) hL (by omega) (by omega) (by omega) (fun y hy => hg y (Or.inr hy) b (Or.inl rfl) c (Or.inl rfl)) hf hf2 (by omega) hT hS hNc hFS hR) (fun s_48 h_48 => ?_)
    obtain ⟨f_48, l48, hT, hS, hNc, hFS, hR, hm48⟩ := h_48
    have hF := hF.tr f_48 (by simp)
    refine wp_aload_n (atd dX5_stepFrom 31 rfl) rfl rfl ?_
    refine wp_iload (atd dX5_stepFrom 32 rfl) rfl ?_
    refine wp_iload_n (atd dX5_stepFrom 33 rfl) rfl ?_
    refine wp_iload (atd dX5_stepFrom 34 rfl) rfl ?_
    refine wp_cVv hdd [_, _, _] (atd dX5_stepFrom 35 rfl) iX5_stepOne lX5_73 rfl rfl (Nat.le_of_ble_eq_true rfl) hFS.ob rfl (eX5_stepOne (by omega) hL (by omega) (by omega) (by omega) (fun y hy => by rw [(num_perm (nl_lt hy) hla hlc).1]; exact hg a (Or.inl rfl) y (Or.inr hy) c (Or.inl rfl)) hf hf2 (by omega) hT hS hNc hFS hR) (fun s_57 h_57 => ?_)
    obtain ⟨f_57, l57, hT, hS, hNc, hFS, hR, hm57⟩ := h_57
    have hF := hF.tr f_57 (by simp)
    refine wp_aload_n (atd dX5_stepFrom 36 rfl) rfl rfl ?_
    refine wp_iload (atd dX5_stepFrom 37 rfl) rfl ?_
    refine wp_iload_n (atd dX5_stepFrom 38 rfl) rfl ?_
    refine wp_iload (atd dX5_stepFrom 39 rfl) rfl ?_
    refine wp_cVv hdd [_, _, _] (atd dX5_stepFrom 40 rfl) iX5_stepOne lX5_73 rfl rfl (Nat.le_of_ble_eq_true rfl) hFS.ob rfl (eX5_stepOne (by omega) hL (by omega) (by omega) (by omega) (fun y hy => by rw [(num_perm (nl_lt hy) hla hlb).2.2]; exact hg a (Or.inl rfl) b (Or.inl rfl) y (Or.inr hy)) hf hf2 (by omega) hT hS hNc hFS hR) (fun s_66 h_66 => ?_)
    obtain ⟨f_66, l66, hT, hS, hNc, hFS, hR, hm66⟩ := h_66
    have hF := hF.tr f_66 (by simp)
    refine wp_vretv (atd dX5_stepFrom 41 rfl) rfl ?_
    refine ⟨hF, hT, ⟨ns, nc, hS, hNc, hL⟩, l66, hFS, hR, fun y => ?_⟩
    rw [hm66 y, hm57 y, hm48 y]
    unfold stS
    constructor
    · rintro (((z | z) | z) | z)
      · cases z
      · exact Or.inl ⟨c_39, Or.inl z⟩
      · exact Or.inl ⟨c_39, Or.inr (Or.inl z)⟩
      · exact Or.inl ⟨c_39, Or.inr (Or.inr z)⟩
    · rintro (⟨-, z | z | z⟩ | ⟨z, -⟩)
      · exact Or.inl (Or.inl (Or.inr z))
      · exact Or.inl (Or.inr z)
      · exact Or.inr z
      · exact absurd c_39 z
theorem eX5_isFound {G : Gx} {d : Nat} {σ : Hp} (hd : 0 ≤ d) {r t x : Nat} {l : List Nat} (hFS : FS σ r t l) (hx : x < 219) (ht : t < 2 ^ 31 ∧ 0 < t) : Cl G mX5_isFound d [.ref r, .int (nI x)] σ 0 0 (pI fun z s => z = bI (x ∈ l) ∧ s = σ) := by
  refine cl_of (by decide) (by simp [Value.category]) (Nat.le_of_ble_eq_true rfl) ?_
  show Wp G mX5_isFound d 0 [.ref r, .int (nI x)] [] σ 0 0 _
  obtain ⟨fo, se, hO, hFo, hSe, h4, h50, h6, h7⟩ := hFS
  have h5 := h50 ht.2
  refine wp_iload_n (atd dX5_isFound 0 rfl) rfl ?_
  refine wp_ifN_lt (tgt := 28) (atd dX5_isFound 1 rfl) (by decide) (by omega) ?_
  refine wp_iload_n (atd dX5_isFound 2 rfl) rfl ?_
  refine wp_sipush (v := nI 219) (atd dX5_isFound 3 rfl) (by decide) ?_
  refine wp_icmpN_ge (tgt := 28) (atd dX5_isFound 4 rfl) (by decide) (by omega) (by omega) (fun c_8 => ?_) (fun c_8 => ?_)
  · exfalso; omega
  ·
    refine wp_aload_n (atd dX5_isFound 5 rfl) rfl rfl ?_
    refine wp_get fX5_30 (atd dX5_isFound 6 rfl) hO rfl ?_
    refine wp_iload_n (atd dX5_isFound 7 rfl) rfl ?_
    refine wp_ialdA (atd dX5_isFound 8 rfl) hSe (by omega) (Nat.le_of_ble_eq_true rfl) ?_
    refine wp_aload_n (atd dX5_isFound 9 rfl) rfl rfl ?_
    refine wp_get fX5_66 (atd dX5_isFound 10 rfl) hO rfl ?_
    refine wp_icmpN_ne (tgt := 28) (atd dX5_isFound 11 rfl) (by decide) (by have := h6 x; omega) ht.1 (fun c_21 => ?_) (fun c_21 => ?_)
    ·
      refine wp_iconst (v := nI 0) (atd dX5_isFound 14 rfl) (by decide) ?_
      refine wp_iretz (atd dX5_isFound 15 rfl) rfl (by first | rfl | decide) ?_
      exact ⟨(bI_f (fun h => c_21 ((h5 x hx).mpr h))).symm, rfl⟩
    ·
      refine wp_iconst (v := nI 1) (atd dX5_isFound 12 rfl) (by decide) ?_
      refine wp_goto (tgt := 29) (atd dX5_isFound 13 rfl) (by decide) ?_
      refine wp_iretz (atd dX5_isFound 15 rfl) rfl (by first | rfl | decide) ?_
      exact ⟨(bI_t ((h5 x hx).mp c_21)).symm, rfl⟩
theorem eX5_leads {G : Gx} {d : Nat} {σ : Hp} (hd : 3 ≤ d) {r t x f f2 : Nat} {nb : Nat → Nat} {lz : Prop} [Decidable lz] {a b c : Nat} {l : List Nat} (hT : RT σ r) (hLR : LR σ r nb) (hFS : FS σ r t l) (hx : x < 219) (ea : rk (rlA x) 0 = a) (eb : rk (rlA x) 1 = b) (ec : rk (rlA x) 2 = c) (hg : goodS nb a b c f f2) (hf : f2 ≤ f + 165) (hf2 : f2 ≤ 219) (ht : t + 1 < 2 ^ 31) {x2 : Nat} (hx2 : x2 < 219) : Cl G mX5_leads d [.ref r, .int (nI x), .int (nI x2), .int (bI lz)] σ 0 0 (pI fun z s => (∃ (h : Decidable (stS nb lz a b c x2)), z = bI (stS nb lz a b c x2)) ∧ fr [r, r + 6, r + 7] σ s ∧ RT s r ∧ LR s r nb ∧ ∃ l2, FS s r (t + 1) l2) := by
  obtain ⟨d0, hdd⟩ : ∃ e, d = e + 1 := ⟨d - 1, by omega⟩
  refine cl_of (by decide) (by simp [Value.category]) (Nat.le_of_ble_eq_true rfl) ?_
  show Wp G mX5_leads d 0 [.ref r, .int (nI x), .int (nI x2), .int (bI lz)] [] σ 0 0 _
  have hF : fr [r, r + 6, r + 7] σ σ := fr.rf
  refine wp_aload_n (atd dX5_leads 0 rfl) rfl rfl ?_
  refine wp_iload_n (atd dX5_leads 1 rfl) rfl ?_
  refine wp_iload_n (atd dX5_leads 2 rfl) rfl ?_
  refine wp_cVv hdd [_, _] (atd dX5_leads 3 rfl) iX5_stepFrom lX5_80 rfl rfl (Nat.le_of_ble_eq_true rfl) hFS.ob rfl (eX5_stepFrom (by omega) hT hLR hFS hx ea eb ec hg hf hf2 ht) (fun s_3 h_3 => ?_)
  obtain ⟨f_3, hT, hLR, l2, hFS, hR, hm⟩ := h_3
  have hF := hF.tr f_3 (by simp)
  refine wp_aload_n (atd dX5_leads 4 rfl) rfl rfl ?_
  refine wp_iload_n (atd dX5_leads 5 rfl) rfl ?_
  refine wp_cVi hdd [_] (atd dX5_leads 6 rfl) iX5_isFound lX5_84 rfl rfl (Nat.le_of_ble_eq_true rfl) hFS.ob rfl (eX5_isFound (by omega) hFS hx2 (by omega)) (fun r_8 s_8 h_8 => ?_)
  obtain ⟨rfl, e_8⟩ := h_8
  obtain rfl := e_8.symm
  refine wp_iretz (atd dX5_leads 7 rfl) rfl bI_and ?_
  refine ⟨⟨decidable_of_iff _ (hm x2), ?_⟩, hF, hT, hLR, l2, hFS⟩
  exact @bI_c _ _ _ (decidable_of_iff _ (hm x2)) (hm x2)
