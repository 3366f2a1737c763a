/-! NEW CELLS: rules by views -/
/-- an array of references of which the first m stand -/
def ARP (σ : Hp) (k t L m : Nat) (g : Nat → Nat) : Prop := ∃ f, σ.2 k = .inl (t, L, .inr (.inr (.inr (.inr f)))) ∧ ∀ i, i < m → f i = some (g i)
theorem ARP.fr {σ s : Hp} {S : List Nat} {k t L m : Nat} {g : Nat → Nat} (h : ARP σ k t L m g) (f : fr S σ s) (hk : k ∉ S) : ARP s k t L m g := by obtain ⟨a, h1, h2⟩ := h; exact ⟨a, (f.2 k hk).trans h1, h2⟩
theorem ARP.fA {σ s : Hp} {S : List Nat} {k t L m : Nat} {g : Nat → Nat} (h : ARP σ k t L m g) (f : fA S σ s) (hl : k < σ.1) (hk : k ∉ S) : ARP s k t L m g := by obtain ⟨a, h1, h2⟩ := h; exact ⟨a, (f.2 k hl hk).trans h1, h2⟩
theorem ARP.all {σ : Hp} {k t L : Nat} {g : Nat → Nat} (h : ARP σ k t L L g) : AR σ k t L g := h
section New
variable {G : Gx} {M : Md} {d pc : Nat} {L st : List Value} {σ : Hp} {mc ms : Nat} {Q : Option Value → Hp → Prop}
theorem wp_newiA {N : Nat} (hd : decode M.2.1 pc = .ok (.newarray .int, 2)) (hN : N ≤ 100000)
    (kk : ∀ s, fA [] σ s → s.1 = σ.1 + 1 → AI s σ.1 N (fun _ => 0) → Wp G M d (pc + 2) L (.ref σ.1 :: st) s mc ms Q) : Wp G M d pc L (.int (nI N) :: st) σ (mc + 1) (ms + N) Q :=
  wp_newi hd (nI_pos (by omega)) (nI_clamp (by omega)) (by show N * 4 ≤ _; omega) (kk _ fA.new rfl ⟨_, hnew_at, fun i _ => rfl⟩)
theorem wp_newzA {N : Nat} (hd : decode M.2.1 pc = .ok (.newarray .boolean, 2)) (hN : N ≤ 100000)
    (kk : ∀ s, fA [] σ s → s.1 = σ.1 + 1 → AB s σ.1 N (fun _ => false) → Wp G M d (pc + 2) L (.ref σ.1 :: st) s mc ms Q) : Wp G M d pc L (.int (nI N) :: st) σ (mc + 1) (ms + N) Q :=
  wp_newz hd (nI_pos (by omega)) (nI_clamp (by omega)) (by show N * 1 ≤ _; omega) (kk _ fA.new rfl ⟨_, hnew_at, fun i _ => rfl⟩)
theorem wp_newqA {N i t : Nat} {Cn : String} {g : Nat → Nat} (hd : decode M.2.1 pc = .ok (.anewarray i, 3)) (hl : Cond.classLink M.1.cls i Cn ∈ lw_ok) (ht : t < 6) (hty : tyT t = .object Cn) (h3 : 3 ≤ t) (hN : N ≤ 100000)
    (kk : ∀ s, fA [] σ s → s.1 = σ.1 + 1 → ARP s σ.1 t N 0 g → Wp G M d (pc + 3) L (.ref σ.1 :: st) s mc ms Q) : Wp G M d pc L (.int (nI N) :: st) σ (mc + 1) (ms + N) Q :=
  wp_newq hd hl ht hty h3 (nI_pos (by omega)) (nI_clamp (by omega)) (by omega) (kk _ fA.new rfl ⟨_, hnew_at, fun i hi => absurd hi (Nat.not_lt_zero i)⟩)
theorem wp_newOb {i ci N : Nat} {Cn : String} {T : u_T} {ty : Nat → FieldType} {fs : List Value} (K : KC ci Cn T N ty) (hd : decode M.2.1 pc = .ok (.new i, 3)) (hl : Cond.classLink M.1.cls i Cn ∈ lw_ok) (hin : Cond.instantiable Cn N ∈ lw_ok) (hini : Cond.initialized Cn ∈ lw_ok) (hfs : ∀ j, j < N → defaultValue (ty j) = vp_V fs j) (hp : plainV fs = true)
    (kk : ∀ s, fA [] σ s → s.1 = σ.1 + 1 → OB s σ.1 ci fs → Wp G M d (pc + 3) L (.ref σ.1 :: st) s mc ms Q) : Wp G M d pc L st σ (mc + 1) (ms + N) Q :=
  wp_new K hd hl hin hini hfs hp (kk _ fA.new rfl hnew_at)
theorem wp_aastP {k n t ci r m : Nat} {g : Nat → Nat} {fs : List Value} {Cn : String} {T : u_T} {N : Nat} {ty : Nat → FieldType} (K : KC ci Cn T N ty) (hd : decode M.2.1 pc = .ok (.aastore, 1)) (hA : ARP σ k t n m g) (ht : t < 6) (hty : tyT t = .object Cn) (hm : m < n) (hn : n ≤ 100000) (hO : OB σ r ci fs) (hg : g m = r)
    (kk : ∀ s, fr [k] σ s → ARP s k t n (m + 1) g → Wp G M d (pc + 1) L st s mc ms Q) : Wp G M d pc L (.ref r :: .int (nI m) :: .ref k :: st) σ mc ms Q := by
  obtain ⟨f, h1, h2⟩ := hA
  refine wp_aast K hd h1 ht hty (vp_in_nI hm (by omega)) hO (kk _ (fr.set (by simp)) ⟨_, hset_eq, fun i hi => ?_⟩)
  rw [nI_clamp (by omega)]
  unfold va_up
  by_cases e : i = m
  · rw [if_pos e, e, hg]
  · rw [if_neg e]; exact h2 i (by omega)
end New
/-! the tables of rows, told row by row -/
def tSp (k j : Nat) : Nat := if j < 3 * k then spC j else 0
def tSd (k x : Nat) : Nat := if x < k then sdC x else 0
def tNm (k c : Nat) : Option Nat := match nmC c with
  | none => none
  | some x => if x < k then some x else none
theorem rl_le : ∀ k, k < 219 → (rlA k).1 ≤ (rlA k).2.1 ∧ (rlA k).2.1 ≤ (rlA k).2.2 := by decide +kernel
theorem tSp_s {k a b c : Nat} (hr : rlA k = (a, b, c)) : ∀ j, j < 657 → va_up (va_up (va_up (tSp k) (k * 3) a) (k * 3 + 1) b) (k * 3 + 2) c j = tSp (k + 1) j := fun j _ => by
  have e0 : spC (k * 3) = a := by have := spC_at (x := k) (i := 0) (by decide); rw [hr] at this; exact this
  have e1 : spC (k * 3 + 1) = b := by have := spC_at (x := k) (i := 1) (by decide); rw [hr] at this; exact this
  have e2 : spC (k * 3 + 2) = c := by have := spC_at (x := k) (i := 2) (by decide); rw [hr] at this; exact this
  unfold va_up tSp
  by_cases h2 : j = k * 3 + 2
  · rw [if_pos h2, if_pos (by omega), h2, e2]
  · rw [if_neg h2]
    by_cases h1 : j = k * 3 + 1
    · rw [if_pos h1, if_pos (by omega), h1, e1]
    · rw [if_neg h1]
      by_cases h0 : j = k * 3
      · rw [if_pos h0, if_pos (by omega), h0, e0]
      · rw [if_neg h0]
        by_cases h : j < 3 * k
        · rw [if_pos h, if_pos (by omega)]
        · rw [if_neg h, if_neg (by omega)]
theorem tSd_s {k a b c : Nat} (hr : rlA k = (a, b, c)) : ∀ x, x < 219 → va_up (tSd k) k (((2 ^ a ||| 2 ^ b) ||| 2 ^ c) &&& 511) x = tSd (k + 1) x := fun x _ => by
  have e : sdC k = ((2 ^ a ||| 2 ^ b) ||| 2 ^ c) &&& 511 := by unfold sdC; rw [hr]
  unfold va_up tSd
  by_cases h : x = k
  · rw [if_pos h, if_pos (by omega), h, e]
  · rw [if_neg h]
    by_cases h2 : x < k
    · rw [if_pos h2, if_pos (by omega)]
    · rw [if_neg h2, if_neg (by omega)]
def cd3 (a b c : Nat) : Nat := (a * 10 + b) * 10 + c
theorem cd_dig {a b c : Nat} (ha : a < 10) (hb : b < 10) (hc : c < 10) : cd3 a b c / 100 = a ∧ cd3 a b c / 10 % 10 = b ∧ cd3 a b c % 10 = c := by unfold cd3; omega
theorem tl3_p {a b c : Nat} (h1 : a ≤ b) (h2 : b ≤ c) : tl3 a b c = (a, b, c) ∧ tl3 a c b = (a, b, c) ∧ tl3 b a c = (a, b, c) ∧ tl3 b c a = (a, b, c) ∧ tl3 c a b = (a, b, c) ∧ tl3 c b a = (a, b, c) := by
  unfold tl3 mn mx
  refine ⟨?_, ?_, ?_, ?_, ?_, ?_⟩ <;> (refine Prod.ext ?_ (Prod.ext ?_ ?_) <;> (show (_ : Nat) = _) <;> dsimp only <;> (repeat' split) <;> omega)
theorem tl3_inv {x y z a b c : Nat} (h : tl3 x y z = (a, b, c)) : (x = a ∧ y = b ∧ z = c) ∨ (x = a ∧ y = c ∧ z = b) ∨ (x = b ∧ y = a ∧ z = c) ∨ (x = b ∧ y = c ∧ z = a) ∨ (x = c ∧ y = a ∧ z = b) ∨ (x = c ∧ y = b ∧ z = a) := by
  unfold tl3 mn mx at h
  injection h with e1 e2
  injection e2 with e2 e3
  repeat' split at e1
  all_goals (repeat' split at e2)
  all_goals (repeat' split at e3)
  all_goals omega
theorem tNm_n {m j : Nat} (h : nmC j = none) : tNm m j = none := by unfold tNm; rw [h]
theorem tNm_x {m j x : Nat} (h : nmC j = some x) : tNm m j = if x < m then some x else none := by unfold tNm; rw [h]
theorem tNm_s {k a b c : Nat} (hk : k < 219) (hr : rlA k = (a, b, c)) (ha : a < 10) (hb : b < 10) (hc : c < 10) : ∀ j, j < 1000 → va_up (va_up (va_up (va_up (va_up (va_up (tNm k) (cd3 a b c) (some k)) (cd3 a c b) (some k)) (cd3 b a c) (some k)) (cd3 b c a) (some k)) (cd3 c a b) (some k)) (cd3 c b a) (some k) j = tNm (k + 1) j := fun j hj => by
  have hle := rl_le k hk
  rw [hr] at hle
  obtain ⟨p1, p2, p3, p4, p5, p6⟩ := tl3_p hle.1 hle.2
  have key : nmC j = some k ↔ (j = cd3 a b c ∨ j = cd3 a c b ∨ j = cd3 b a c ∨ j = cd3 b c a ∨ j = cd3 c a b ∨ j = cd3 c b a) := by
    unfold nmC
    rw [num_iff hk, hr]
    constructor
    · intro h
      have e : j = cd3 (j / 100) (j / 10 % 10) (j % 10) := by unfold cd3; omega
      rcases tl3_inv h with ⟨u, v, w⟩ | ⟨u, v, w⟩ | ⟨u, v, w⟩ | ⟨u, v, w⟩ | ⟨u, v, w⟩ | ⟨u, v, w⟩ <;> rw [u, v, w] at e
      · exact Or.inl e
      · exact Or.inr (Or.inl e)
      · exact Or.inr (Or.inr (Or.inl e))
      · exact Or.inr (Or.inr (Or.inr (Or.inl e)))
      · exact Or.inr (Or.inr (Or.inr (Or.inr (Or.inl e))))
      · exact Or.inr (Or.inr (Or.inr (Or.inr (Or.inr e))))
    · rintro (rfl | rfl | rfl | rfl | rfl | rfl)
      · obtain ⟨u, v, w⟩ := cd_dig ha hb hc; rw [u, v, w]; exact p1
      · obtain ⟨u, v, w⟩ := cd_dig ha hc hb; rw [u, v, w]; exact p2
      · obtain ⟨u, v, w⟩ := cd_dig hb ha hc; rw [u, v, w]; exact p3
      · obtain ⟨u, v, w⟩ := cd_dig hb hc ha; rw [u, v, w]; exact p4
      · obtain ⟨u, v, w⟩ := cd_dig hc ha hb; rw [u, v, w]; exact p5
      · obtain ⟨u, v, w⟩ := cd_dig hc hb ha; rw [u, v, w]; exact p6
  have hnew : tNm (k + 1) j = if nmC j = some k then some k else tNm k j := by
    cases h : nmC j with
    | none =>
      rw [tNm_n h, tNm_n h, if_neg (by intro z; cases z)]
    | some x =>
      rw [tNm_x h, tNm_x h]
      by_cases e : x = k
      · rw [e, if_pos rfl, if_pos (by omega)]
      · rw [if_neg (fun z : some x = some k => e (Option.some.inj z))]
        by_cases h2 : x < k
        · rw [if_pos h2, if_pos (by omega)]
        · rw [if_neg h2, if_neg (by omega)]
  rw [hnew]
  unfold va_up
  by_cases h6 : j = cd3 c b a
  · rw [if_pos h6, if_pos (key.mpr (by simp only [h6, or_true]))]
  · rw [if_neg h6]
    by_cases h5 : j = cd3 c a b
    · rw [if_pos h5, if_pos (key.mpr (by simp only [h5, or_true, true_or]))]
    · rw [if_neg h5]
      by_cases h4 : j = cd3 b c a
      · rw [if_pos h4, if_pos (key.mpr (by simp only [h4, or_true, true_or]))]
      · rw [if_neg h4]
        by_cases h3 : j = cd3 b a c
        · rw [if_pos h3, if_pos (key.mpr (by simp only [h3, or_true, true_or]))]
        · rw [if_neg h3]
          by_cases h2 : j = cd3 a c b
          · rw [if_pos h2, if_pos (key.mpr (by simp only [h2, or_true, true_or]))]
          · rw [if_neg h2]
            by_cases h1 : j = cd3 a b c
            · rw [if_pos h1, if_pos (key.mpr (by simp only [h1, true_or]))]
            · rw [if_neg h1, if_neg (fun z => by rcases key.mp z with q | q | q | q | q | q <;> contradiction)]
theorem eX5_tellNumber {G : Gx} {d : Nat} {σ : Hp} (hd : 1 ≤ d) {r t fc a b c x : Nat} {nm : Nat → Option Nat} (hO : OB σ r 5 (roF r fc t)) (hNm : AO σ (r + 3) 1000 nm) (ha : a < 10) (hb : b < 10) (hc : c < 10) : Cl G mX5_tellNumber d [.ref r, .int (nI a), .int (nI b), .int (nI c), .int (nI x)] σ 0 0 (pV fun s => fr [r + 3] σ s ∧ AO s (r + 3) 1000 (va_up nm (cd3 a b c) (some x))) := by
  obtain ⟨d0, hdd⟩ : ∃ e, d = e + 1 := ⟨d - 1, by omega⟩
  refine cl_of (by decide) (by simp [Value.category]) (Nat.le_of_ble_eq_true rfl) ?_
  show Wp G mX5_tellNumber d 0 [.ref r, .int (nI a), .int (nI b), .int (nI c), .int (nI x)] [] σ 0 0 _
  refine wp_iload_n (atd dX5_tellNumber 0 rfl) rfl ?_
  refine wp_cSi hdd [_] (atd dX5_tellNumber 1 rfl) iX5_isSpot lX5_46 rfl rfl (Nat.le_of_ble_eq_true rfl) (eX5_isSpot (by omega) (by omega)) (fun r_1 s_1 h_1 => ?_)
  obtain ⟨rfl, e_1⟩ := h_1
  obtain rfl := e_1.symm
  refine wp_ifB_eq (tgt := 39) (atd dX5_tellNumber 2 rfl) (by decide) (fun c_4 => ?_) (fun c_4 => ?_)
  · exact absurd ha c_4
  ·
    refine wp_iload_n (atd dX5_tellNumber 3 rfl) rfl ?_
    refine wp_cSi hdd [_] (atd dX5_tellNumber 4 rfl) iX5_isSpot lX5_46 rfl rfl (Nat.le_of_ble_eq_true rfl) (eX5_isSpot (by omega) (by omega)) (fun r_8 s_8 h_8 => ?_)
    obtain ⟨rfl, e_8⟩ := h_8
    obtain rfl := e_8.symm
    refine wp_ifB_eq (tgt := 39) (atd dX5_tellNumber 5 rfl) (by decide) (fun c_11 => ?_) (fun c_11 => ?_)
    · exact absurd hb c_11
    ·
      refine wp_iload_n (atd dX5_tellNumber 6 rfl) rfl ?_
      refine wp_cSi hdd [_] (atd dX5_tellNumber 7 rfl) iX5_isSpot lX5_46 rfl rfl (Nat.le_of_ble_eq_true rfl) (eX5_isSpot (by omega) (by omega)) (fun r_15 s_15 h_15 => ?_)
      obtain ⟨rfl, e_15⟩ := h_15
      obtain rfl := e_15.symm
      refine wp_ifB_eq (tgt := 39) (atd dX5_tellNumber 8 rfl) (by decide) (fun c_18 => ?_) (fun c_18 => ?_)
      · exact absurd hc c_18
      ·
        refine wp_aload_n (atd dX5_tellNumber 9 rfl) rfl rfl ?_
        refine wp_get fX5_18 (atd dX5_tellNumber 10 rfl) hO rfl ?_
        refine wp_iload_n (atd dX5_tellNumber 11 rfl) rfl ?_
        refine wp_bipush (v := nI 10) (atd dX5_tellNumber 12 rfl) (by decide) ?_
        refine wp_imulN (atd dX5_tellNumber 13 rfl) ?_
        refine wp_iload_n (atd dX5_tellNumber 14 rfl) rfl ?_
        refine wp_iaddN (atd dX5_tellNumber 15 rfl) ?_
        refine wp_bipush (v := nI 10) (atd dX5_tellNumber 16 rfl) (by decide) ?_
        refine wp_imulN (atd dX5_tellNumber 17 rfl) ?_
        refine wp_iload_n (atd dX5_tellNumber 18 rfl) rfl ?_
        refine wp_iaddN (atd dX5_tellNumber 19 rfl) ?_
        refine wp_iload (atd dX5_tellNumber 20 rfl) rfl ?_
        refine wp_iastO (v := some _) (atd dX5_tellNumber 21 rfl) hNm (by omega) (Nat.le_of_ble_eq_true rfl) (fun σ f_38 hNm => ?_)
        refine wp_vretv (atd dX5_tellNumber 22 rfl) rfl ?_
        exact ⟨f_38, hNm⟩
theorem eX5_tell {G : Gx} {d : Nat} {σ : Hp} (hd : 2 ≤ d) {r t fc a b c k : Nat} (hO : OB σ r 5 (roF r fc t)) (hSp : AI σ (r + 1) 657 (tSp k)) (hSd : AI σ (r + 2) 219 (tSd k)) (hNm : AO σ (r + 3) 1000 (tNm k)) (hk : k < 219) (hr : rlA k = (a, b, c)) (ha : a < 10) (hb : b < 10) (hc : c < 10) : Cl G mX5_tell d [.ref r, .int (nI k), .int (nI a), .int (nI b), .int (nI c)] σ 0 0 (pV fun s => fr [r + 1, r + 2, r + 3] σ s ∧ AI s (r + 1) 657 (tSp (k + 1)) ∧ AI s (r + 2) 219 (tSd (k + 1)) ∧ AO s (r + 3) 1000 (tNm (k + 1))) := by
  obtain ⟨d0, hdd⟩ : ∃ e, d = e + 1 := ⟨d - 1, by omega⟩
  refine cl_of (by decide) (by simp [Value.category]) (Nat.le_of_ble_eq_true rfl) ?_
  show Wp G mX5_tell d 0 [.ref r, .int (nI k), .int (nI a), .int (nI b), .int (nI c)] [] σ 0 0 _
  have hF : fr [r + 1, r + 2, r + 3] σ σ := fr.rf
  refine wp_iload_n (atd dX5_tell 0 rfl) rfl ?_
  refine wp_ifN_lt (tgt := 11) (atd dX5_tell 1 rfl) (by decide) (by omega) ?_
  refine wp_iload_n (atd dX5_tell 2 rfl) rfl ?_
  refine wp_sipush (v := nI 219) (atd dX5_tell 3 rfl) (by decide) ?_
  refine wp_icmpN_lt (tgt := 12) (atd dX5_tell 4 rfl) (by decide) (by omega) (by omega) (fun c_8 => ?_) (fun c_8 => ?_)
  ·
    refine wp_aload_n (atd dX5_tell 6 rfl) rfl rfl ?_
    refine wp_get fX5_9 (atd dX5_tell 7 rfl) hO rfl ?_
    refine wp_iload_n (atd dX5_tell 8 rfl) rfl ?_
    refine wp_iconst (v := nI 3) (atd dX5_tell 9 rfl) (by decide) ?_
    refine wp_imulN (atd dX5_tell 10 rfl) ?_
    refine wp_iload_n (atd dX5_tell 11 rfl) rfl ?_
    refine wp_iastA (atd dX5_tell 12 rfl) hSp (by omega) (Nat.le_of_ble_eq_true rfl) (fun σ f_20 hSp => ?_)
    have hO := hO.fr f_20 (by first | decide | (simp only [List.mem_cons, List.not_mem_nil, or_false]; omega))
    have hSd := hSd.fr f_20 (by first | decide | (simp only [List.mem_cons, List.not_mem_nil, or_false]; omega))
    have hNm := hNm.fr f_20 (by first | decide | (simp only [List.mem_cons, List.not_mem_nil, or_false]; omega))
    have hF := hF.tr f_20 (by simp)
    refine wp_aload_n (atd dX5_tell 13 rfl) rfl rfl ?_
    refine wp_get fX5_9 (atd dX5_tell 14 rfl) hO rfl ?_
    refine wp_iload_n (atd dX5_tell 15 rfl) rfl ?_
    refine wp_iconst (v := nI 3) (atd dX5_tell 16 rfl) (by decide) ?_
    refine wp_imulN (atd dX5_tell 17 rfl) ?_
    refine wp_iconst (v := nI 1) (atd dX5_tell 18 rfl) (by decide) ?_
    refine wp_iaddN (atd dX5_tell 19 rfl) ?_
    refine wp_iload_n (atd dX5_tell 20 rfl) rfl ?_
    refine wp_iastA (atd dX5_tell 21 rfl) hSp (by omega) (Nat.le_of_ble_eq_true rfl) (fun σ f_31 hSp => ?_)
    have hO := hO.fr f_31 (by first | decide | (simp only [List.mem_cons, List.not_mem_nil, or_false]; omega))
    have hSd := hSd.fr f_31 (by first | decide | (simp only [List.mem_cons, List.not_mem_nil, or_false]; omega))
    have hNm := hNm.fr f_31 (by first | decide | (simp only [List.mem_cons, List.not_mem_nil, or_false]; omega))
    have hF := hF.tr f_31 (by simp)
    refine wp_aload_n (atd dX5_tell 22 rfl) rfl rfl ?_
    refine wp_get fX5_9 (atd dX5_tell 23 rfl) hO rfl ?_
    refine wp_iload_n (atd dX5_tell 24 rfl) rfl ?_
    refine wp_iconst (v := nI 3) (atd dX5_tell 25 rfl) (by decide) ?_
    refine wp_imulN (atd dX5_tell 26 rfl) ?_
    refine wp_iconst (v := nI 2) (atd dX5_tell 27 rfl) (by decide) ?_
    refine wp_iaddN (atd dX5_tell 28 rfl) ?_
    refine wp_iload (atd dX5_tell 29 rfl) rfl ?_
    refine wp_iastA (atd dX5_tell 30 rfl) hSp (by omega) (Nat.le_of_ble_eq_true rfl) (fun σ f_43 hSp => ?_)
    have hO := hO.fr f_43 (by first | decide | (simp only [List.mem_cons, List.not_mem_nil, or_false]; omega))
    have hSd := hSd.fr f_43 (by first | decide | (simp only [List.mem_cons, List.not_mem_nil, or_false]; omega))
    have hNm := hNm.fr f_43 (by first | decide | (simp only [List.mem_cons, List.not_mem_nil, or_false]; omega))
    have hF := hF.tr f_43 (by simp)
    refine wp_aload_n (atd dX5_tell 31 rfl) rfl rfl ?_
    refine wp_get fX5_15 (atd dX5_tell 32 rfl) hO rfl ?_
    refine wp_iload_n (atd dX5_tell 33 rfl) rfl ?_
    refine wp_iconst (v := nI 1) (atd dX5_tell 34 rfl) (by decide) ?_
    refine wp_iload_n (atd dX5_tell 35 rfl) rfl ?_
    refine wp_ishl1 (atd dX5_tell 36 rfl) (by omega) ?_
    refine wp_iconst (v := nI 1) (atd dX5_tell 37 rfl) (by decide) ?_
    refine wp_iload_n (atd dX5_tell 38 rfl) rfl ?_
    refine wp_ishl1 (atd dX5_tell 39 rfl) (by omega) ?_
    refine wp_iorN (atd dX5_tell 40 rfl) ?_
    refine wp_iconst (v := nI 1) (atd dX5_tell 41 rfl) (by decide) ?_
    refine wp_iload (atd dX5_tell 42 rfl) rfl ?_
    refine wp_ishl1 (atd dX5_tell 43 rfl) (by omega) ?_
    refine wp_iorN (atd dX5_tell 44 rfl) ?_
    refine wp_sipush (v := nI 511) (atd dX5_tell 45 rfl) (by decide) ?_
    refine wp_iandN (atd dX5_tell 46 rfl) ?_
    refine wp_iastA (atd dX5_tell 47 rfl) hSd (by omega) (Nat.le_of_ble_eq_true rfl) (fun σ f_65 hSd => ?_)
    have hO := hO.fr f_65 (by first | decide | (simp only [List.mem_cons, List.not_mem_nil, or_false]; omega))
    have hSp := hSp.fr f_65 (by first | decide | (simp only [List.mem_cons, List.not_mem_nil, or_false]; omega))
    have hNm := hNm.fr f_65 (by first | decide | (simp only [List.mem_cons, List.not_mem_nil, or_false]; omega))
    have hF := hF.tr f_65 (by simp)
    refine wp_aload_n (atd dX5_tell 48 rfl) rfl rfl ?_
    refine wp_iload_n (atd dX5_tell 49 rfl) rfl ?_
    refine wp_iload_n (atd dX5_tell 50 rfl) rfl ?_
    refine wp_iload (atd dX5_tell 51 rfl) rfl ?_
    refine wp_iload_n (atd dX5_tell 52 rfl) rfl ?_
    refine wp_cVv hdd [_, _, _, _] (atd dX5_tell 53 rfl) iX5_tellNumber lX5_43 rfl rfl (Nat.le_of_ble_eq_true rfl) hO rfl (eX5_tellNumber (by omega) hO hNm ha hb hc) (fun s_72 h_72 => ?_)
    obtain ⟨f_72, hNm⟩ := h_72
    have hO := hO.fr f_72 (by first | decide | (simp only [List.mem_cons, List.not_mem_nil, or_false]; omega))
    have hSp := hSp.fr f_72 (by first | decide | (simp only [List.mem_cons, List.not_mem_nil, or_false]; omega))
    have hSd := hSd.fr f_72 (by first | decide | (simp only [List.mem_cons, List.not_mem_nil, or_false]; omega))
    have hF := hF.tr f_72 (by simp)
    refine wp_aload_n (atd dX5_tell 54 rfl) rfl rfl ?_
    refine wp_iload_n (atd dX5_tell 55 rfl) rfl ?_
    refine wp_iload (atd dX5_tell 56 rfl) rfl ?_
    refine wp_iload_n (atd dX5_tell 57 rfl) rfl ?_
    refine wp_iload_n (atd dX5_tell 58 rfl) rfl ?_
    refine wp_cVv hdd [_, _, _, _] (atd dX5_tell 59 rfl) iX5_tellNumber lX5_43 rfl rfl (Nat.le_of_ble_eq_true rfl) hO rfl (eX5_tellNumber (by omega) hO hNm ha hc hb) (fun s_81 h_81 => ?_)
    obtain ⟨f_81, hNm⟩ := h_81
    have hO := hO.fr f_81 (by first | decide | (simp only [List.mem_cons, List.not_mem_nil, or_false]; omega))
    have hSp := hSp.fr f_81 (by first | decide | (simp only [List.mem_cons, List.not_mem_nil, or_false]; omega))
    have hSd := hSd.fr f_81 (by first | decide | (simp only [List.mem_cons, List.not_mem_nil, or_false]; omega))
    have hF := hF.tr f_81 (by simp)
    refine wp_aload_n (atd dX5_tell 60 rfl) rfl rfl ?_
    refine wp_iload_n (atd dX5_tell 61 rfl) rfl ?_
    refine wp_iload_n (atd dX5_tell 62 rfl) rfl ?_
    refine wp_iload (atd dX5_tell 63 rfl) rfl ?_
    refine wp_iload_n (atd dX5_tell 64 rfl) rfl ?_
    refine wp_cVv hdd [_, _, _, _] (atd dX5_tell 65 rfl) iX5_tellNumber lX5_43 rfl rfl (Nat.le_of_ble_eq_true rfl) hO rfl (eX5_tellNumber (by omega) hO hNm hb ha hc) (fun s_90 h_90 => ?_)
    obtain ⟨f_90, hNm⟩ := h_90
    have hO := hO.fr f_90 (by first | decide | (simp only [List.mem_cons, List.not_mem_nil, or_false]; omega))
    have hSp := hSp.fr f_90 (by first | decide | (simp only [List.mem_cons, List.not_mem_nil, or_false]; omega))
    have hSd := hSd.fr f_90 (by first | decide | (simp only [List.mem_cons, List.not_mem_nil, or_false]; omega))
    have hF := hF.tr f_90 (by simp)
    refine wp_aload_n (atd dX5_tell 66 rfl) rfl rfl ?_
    refine wp_iload_n (atd dX5_tell 67 rfl) rfl ?_
    refine wp_iload (atd dX5_tell 68 rfl) rfl ?_
    refine wp_iload_n (atd dX5_tell 69 rfl) rfl ?_
    refine wp_iload_n (atd dX5_tell 70 rfl) rfl ?_
    refine wp_cVv hdd [_, _, _, _] (atd dX5_tell 71 rfl) iX5_tellNumber lX5_43 rfl rfl (Nat.le_of_ble_eq_true rfl) hO rfl (eX5_tellNumber (by omega) hO hNm hb hc ha) (fun s_99 h_99 => ?_)
    obtain ⟨f_99, hNm⟩ := h_99
    have hO := hO.fr f_99 (by first | decide | (simp only [List.mem_cons, List.not_mem_nil, or_false]; omega))
    have hSp := hSp.fr f_99 (by first | decide | (simp only [List.mem_cons, List.not_mem_nil, or_false]; omega))
    have hSd := hSd.fr f_99 (by first | decide | (simp only [List.mem_cons, List.not_mem_nil, or_false]; omega))
    have hF := hF.tr f_99 (by simp)
    refine wp_aload_n (atd dX5_tell 72 rfl) rfl rfl ?_
    refine wp_iload (atd dX5_tell 73 rfl) rfl ?_
    refine wp_iload_n (atd dX5_tell 74 rfl) rfl ?_
    refine wp_iload_n (atd dX5_tell 75 rfl) rfl ?_
    refine wp_iload_n (atd dX5_tell 76 rfl) rfl ?_
    refine wp_cVv hdd [_, _, _, _] (atd dX5_tell 77 rfl) iX5_tellNumber lX5_43 rfl rfl (Nat.le_of_ble_eq_true rfl) hO rfl (eX5_tellNumber (by omega) hO hNm hc ha hb) (fun s_108 h_108 => ?_)
    obtain ⟨f_108, hNm⟩ := h_108
    have hO := hO.fr f_108 (by first | decide | (simp only [List.mem_cons, List.not_mem_nil, or_false]; omega))
    have hSp := hSp.fr f_108 (by first | decide | (simp only [List.mem_cons, List.not_mem_nil, or_false]; omega))
    have hSd := hSd.fr f_108 (by first | decide | (simp only [List.mem_cons, List.not_mem_nil, or_false]; omega))
    have hF := hF.tr f_108 (by simp)
    refine wp_aload_n (atd dX5_tell 78 rfl) rfl rfl ?_
    refine wp_iload (atd dX5_tell 79 rfl) rfl ?_
    refine wp_iload_n (atd dX5_tell 80 rfl) rfl ?_
    refine wp_iload_n (atd dX5_tell 81 rfl) rfl ?_
    refine wp_iload_n (atd dX5_tell 82 rfl) rfl ?_
    refine wp_cVv hdd [_, _, _, _] (atd dX5_tell 83 rfl) iX5_tellNumber lX5_43 rfl rfl (Nat.le_of_ble_eq_true rfl) hO rfl (eX5_tellNumber (by omega) hO hNm hc hb ha) (fun s_117 h_117 => ?_)
    obtain ⟨f_117, hNm⟩ := h_117
    have hO := hO.fr f_117 (by first | decide | (simp only [List.mem_cons, List.not_mem_nil, or_false]; omega))
    have hSp := hSp.fr f_117 (by first | decide | (simp only [List.mem_cons, List.not_mem_nil, or_false]; omega))
    have hSd := hSd.fr f_117 (by first | decide | (simp only [List.mem_cons, List.not_mem_nil, or_false]; omega))
    have hF := hF.tr f_117 (by simp)
    refine wp_vretv (atd dX5_tell 84 rfl) rfl ?_
    exact ⟨hF, hSp.cg (tSp_s hr), hSd.cg (tSd_s hr), hNm.cg (tNm_s hk hr ha hb hc)⟩
  · exfalso; omega
