/-! hunters as told -/
def mn (a b : Nat) : Nat := if b ≤ a then b else a
def mx (a b : Nat) : Nat := if a ≤ b then b else a
def tl3 (a b c : Nat) : Row := (mn (mn a b) c, mx (mn a b) (mn (mx a b) c), mx (mx a b) c)
def tlF (n : Nat) (a b c : Int32) : Option (Nat × Row) :=
  if isP a n then (if b = -1 then (if c = -1 then some (1, (a.toNatClampNeg, a.toNatClampNeg, a.toNatClampNeg)) else none)
    else if isP b n then (if c = -1 then some (2, (mn a.toNatClampNeg b.toNatClampNeg, mx a.toNatClampNeg b.toNatClampNeg, mx a.toNatClampNeg b.toNatClampNeg))
      else if isP c n then some (3, tl3 a.toNatClampNeg b.toNatClampNeg c.toNatClampNeg) else none) else none) else none
def tlH (t : Option (Nat × Row)) : Nat := match t with
  | none => 0
  | some x => x.1
theorem tl_0 {n : Nat} {a b c : Int32} (h : ¬ isP a n) : tlF n a b c = none := if_neg h
theorem isP_m1 {n : Nat} : ¬ isP (-1) n := fun z => absurd z.1 (by decide)
theorem tl_1 {n a : Nat} (hn : n ≤ 9) (ha : a < n) : tlF n (nI a) (-1) (-1) = some (1, (a, a, a)) := by
  unfold tlF
  rw [if_pos ((isP_nI (by omega)).mpr ha), if_pos rfl, if_pos rfl, nI_clamp (by omega)]
theorem tl_1n {n a : Nat} {c : Int32} (hn : n ≤ 9) (ha : a < n) (hc : c ≠ -1) : tlF n (nI a) (-1) c = none := by
  unfold tlF
  rw [if_pos ((isP_nI (by omega)).mpr ha), if_pos rfl, if_neg hc]
theorem tl_2n {n a : Nat} {b c : Int32} (hn : n ≤ 9) (ha : a < n) (hb : b ≠ -1) (hb2 : ¬ isP b n) : tlF n (nI a) b c = none := by
  unfold tlF
  rw [if_pos ((isP_nI (by omega)).mpr ha), if_neg hb, if_neg hb2]
theorem tl_2 {n a b : Nat} (hn : n ≤ 9) (ha : a < n) (hb : b < n) : tlF n (nI a) (nI b) (-1) = some (2, (mn a b, mx a b, mx a b)) := by
  unfold tlF
  rw [if_pos ((isP_nI (by omega)).mpr ha), if_neg (nI_m1 (by omega)), if_pos ((isP_nI (by omega)).mpr hb), if_pos rfl, nI_clamp (by omega), nI_clamp (by omega)]
theorem tl_3n {n a b : Nat} {c : Int32} (hn : n ≤ 9) (ha : a < n) (hb : b < n) (hc : c ≠ -1) (hc2 : ¬ isP c n) : tlF n (nI a) (nI b) c = none := by
  unfold tlF
  rw [if_pos ((isP_nI (by omega)).mpr ha), if_neg (nI_m1 (by omega)), if_pos ((isP_nI (by omega)).mpr hb), if_neg hc, if_neg hc2]
theorem tl_3 {n a b c : Nat} (hn : n ≤ 9) (ha : a < n) (hb : b < n) (hc : c < n) : tlF n (nI a) (nI b) (nI c) = some (3, tl3 a b c) := by
  unfold tlF
  rw [if_pos ((isP_nI (by omega)).mpr ha), if_neg (nI_m1 (by omega)), if_pos ((isP_nI (by omega)).mpr hb), if_neg (nI_m1 (by omega)), if_pos ((isP_nI (by omega)).mpr hc), nI_clamp (by omega), nI_clamp (by omega), nI_clamp (by omega)]
def Tld (α : Nat → Int32) (t : Option (Nat × Row)) : Prop := α 37 = nI (tlH t) ∧ ∀ h ρ, t = some (h, ρ) → α 34 = nI ρ.1 ∧ α 35 = nI ρ.2.1 ∧ α 36 = nI ρ.2.2
theorem lesM {a b : Nat} (ha : a < 2 ^ 31) (hb : b < 2 ^ 31) : (if nI b ≤ nI a then nI b else nI a) = nI (mn a b) := lesN ha hb
theorem greM {a b : Nat} (ha : a < 2 ^ 31) (hb : b < 2 ^ 31) : (if nI a ≤ nI b then nI b else nI a) = nI (mx a b) := greN ha hb
theorem mn_lt {a b n : Nat} (ha : a < n) (hb : b < n) : mn a b < n := by unfold mn; split <;> omega
theorem mx_lt {a b n : Nat} (ha : a < n) (hb : b < n) : mx a b < n := by unfold mx; split <;> omega
theorem eX12_tell0 {G : Gx} {d : Nat} {σ : Hp} (hd : 2 ≤ d) {m n : Nat} {α : Nat → Int32} {B : Nat → Nat → Int32} (hM : MA σ σ m α B) (hp : α 2 = nI n) (hn : n ≤ 9) {a b c : Int32} (ha : ¬ isP a n) : Cl G mX12_tell d [.ref m, .int (a), .int (b), .int (c)] σ 0 0 (pI fun r s => r = nI (tlH (tlF n (a) (b) (c))) ∧ ∃ α1, MA σ s m α1 B ∧ frm [34, 35, 36, 37] α α1 ∧ Tld α1 (tlF n (a) (b) (c))) := by
  obtain ⟨d0, hdd⟩ : ∃ e, d = e + 1 := ⟨d - 1, by omega⟩
  refine cl_of (by decide) (by simp [Value.category]) (Nat.le_of_ble_eq_true rfl) ?_
  show Wp G mX12_tell d 0 [.ref m, .int (a), .int (b), .int (c), .double 0, .double 0, .double 0, .double 0] [] σ 0 0 _
  refine wp_aload_n (atd dX12_tell 0 rfl) rfl rfl ?_
  refine wp_iload_n (atd dX12_tell 1 rfl) rfl ?_
  refine wp_cVi hdd [_] (atd dX12_tell 2 rfl) iX12_isPlace lX12_181 rfl rfl (Nat.le_of_ble_eq_true rfl) hM.1.1 rfl (eX12_isPlace (by omega) hM.self hp hn) (fun r_2 s_2 h_2 => ?_)
  obtain ⟨rfl, rfl⟩ := h_2
  refine wp_ifB_eq (tgt := 43) (atd dX12_tell 3 rfl) (by decide) (fun c_5 => ?_) (fun c_5 => ?_)
  ·
    refine wp_iconst (v := nI 0) (atd dX12_tell 23 rfl) (by decide) ?_
    refine wp_istore (atd dX12_tell 24 rfl) (Nat.le_of_ble_eq_true rfl) ?_
    refine wp_aload_n (atd dX12_tell 25 rfl) rfl rfl ?_
    refine wp_iload (atd dX12_tell 26 rfl) rfl ?_
    refine wp_ifN_ne (tgt := 56) (atd dX12_tell 27 rfl) (by decide) (by omega) (fun c_49 => ?_) (fun c_49 => ?_)
    · exact absurd c_49 (by decide)
    ·
      refine wp_iconst (v := nI 0) (atd dX12_tell 28 rfl) (by decide) ?_
      refine wp_goto (tgt := 75) (atd dX12_tell 29 rfl) (by decide) ?_
      refine wp_putM fX12_277 (atd dX12_tell 41 rfl) hM rfl (fun σ hM => ?_)
      refine wp_aload_n (atd dX12_tell 42 rfl) rfl rfl ?_
      refine wp_iload_n (atd dX12_tell 43 rfl) rfl ?_
      refine wp_putM fX12_280 (atd dX12_tell 44 rfl) hM rfl (fun σ hM => ?_)
      refine wp_aload_n (atd dX12_tell 45 rfl) rfl rfl ?_
      refine wp_aload_n (atd dX12_tell 46 rfl) rfl rfl ?_
      refine wp_get fX12_277 (atd dX12_tell 47 rfl) hM.1.1 (congrArg (fun z => some (Value.int z)) (rfl : _ = nI 0)) ?_
      refine wp_iconst (v := nI 1) (atd dX12_tell 48 rfl) (by decide) ?_
      refine wp_icmpN_le (tgt := 96) (atd dX12_tell 49 rfl) (by decide) (by omega) (by omega) (fun c_89 => ?_) (fun c_89 => ?_)
      ·
        refine wp_iload_n (atd dX12_tell 52 rfl) rfl ?_
        refine wp_putM fX12_283 (atd dX12_tell 53 rfl) hM rfl (fun σ hM => ?_)
        refine wp_aload_n (atd dX12_tell 54 rfl) rfl rfl ?_
        refine wp_aload_n (atd dX12_tell 55 rfl) rfl rfl ?_
        refine wp_get fX12_277 (atd dX12_tell 56 rfl) hM.1.1 (congrArg (fun z => some (Value.int z)) (rfl : _ = nI 0)) ?_
        refine wp_iconst (v := nI 2) (atd dX12_tell 57 rfl) (by decide) ?_
        refine wp_icmpN_le (tgt := 113) (atd dX12_tell 58 rfl) (by decide) (by omega) (by omega) (fun c_106 => ?_) (fun c_106 => ?_)
        ·
          refine wp_aload_n (atd dX12_tell 61 rfl) rfl rfl ?_
          refine wp_get fX12_283 (atd dX12_tell 62 rfl) hM.1.1 rfl ?_
          refine wp_putM fX12_286 (atd dX12_tell 63 rfl) hM rfl (fun σ hM => ?_)
          refine wp_aload_n (atd dX12_tell 64 rfl) rfl rfl ?_
          refine wp_get fX12_277 (atd dX12_tell 65 rfl) hM.1.1 (congrArg (fun z => some (Value.int z)) (rfl : _ = nI 0)) ?_
          refine wp_iconst (v := nI 1) (atd dX12_tell 66 rfl) (by decide) ?_
          refine wp_icmpN_le (tgt := 154) (atd dX12_tell 67 rfl) (by decide) (by omega) (by omega) (fun c_125 => ?_) (fun c_125 => ?_)
          ·
            refine wp_aload_n (atd dX12_tell 82 rfl) rfl rfl ?_
            refine wp_get fX12_277 (atd dX12_tell 83 rfl) hM.1.1 (congrArg (fun z => some (Value.int z)) (rfl : _ = nI 0)) ?_
            refine wp_iconst (v := nI 2) (atd dX12_tell 84 rfl) (by decide) ?_
            refine wp_icmpN_le (tgt := 217) (atd dX12_tell 85 rfl) (by decide) (by omega) (by omega) (fun c_159 => ?_) (fun c_159 => ?_)
            ·
              refine wp_aload_n (atd dX12_tell 113 rfl) rfl rfl ?_
              refine wp_get fX12_277 (atd dX12_tell 114 rfl) hM.1.1 (congrArg (fun z => some (Value.int z)) (rfl : _ = nI 0)) ?_
              refine wp_ireti (atd dX12_tell 115 rfl) rfl ?_
              rw [tl_0 ha]
              exact ⟨rfl, _, hM, ((((frm.rf.up (by decide)).up (by decide)).up (by decide)).up (by decide)), rfl, fun h ρ z => by cases z⟩
            · exfalso; omega
          · exfalso; omega
        · exfalso; omega
      · exfalso; omega
  · exact absurd c_5 ha
theorem eX12_tell1n {G : Gx} {d : Nat} {σ : Hp} (hd : 2 ≤ d) {m n : Nat} {α : Nat → Int32} {B : Nat → Nat → Int32} (hM : MA σ σ m α B) (hp : α 2 = nI n) (hn : n ≤ 9) {a : Nat} {c : Int32} (ha : a < n) (hc : c ≠ -1) : Cl G mX12_tell d [.ref m, .int (nI a), .int (-1), .int (c)] σ 0 0 (pI fun r s => r = nI (tlH (tlF n (nI a) (-1) (c))) ∧ ∃ α1, MA σ s m α1 B ∧ frm [34, 35, 36, 37] α α1 ∧ Tld α1 (tlF n (nI a) (-1) (c))) := by
  obtain ⟨d0, hdd⟩ : ∃ e, d = e + 1 := ⟨d - 1, by omega⟩
  refine cl_of (by decide) (by simp [Value.category]) (Nat.le_of_ble_eq_true rfl) ?_
  show Wp G mX12_tell d 0 [.ref m, .int (nI a), .int (-1), .int (c), .double 0, .double 0, .double 0, .double 0] [] σ 0 0 _
  refine wp_aload_n (atd dX12_tell 0 rfl) rfl rfl ?_
  refine wp_iload_n (atd dX12_tell 1 rfl) rfl ?_
  refine wp_cVi hdd [_] (atd dX12_tell 2 rfl) iX12_isPlace lX12_181 rfl rfl (Nat.le_of_ble_eq_true rfl) hM.1.1 rfl (eX12_isPlace (by omega) hM.self hp hn) (fun r_2 s_2 h_2 => ?_)
  obtain ⟨rfl, rfl⟩ := h_2
  refine wp_ifB_eq (tgt := 43) (atd dX12_tell 3 rfl) (by decide) (fun c_5 => ?_) (fun c_5 => ?_)
  · exact absurd ((isP_nI (by omega)).mpr ha) c_5
  ·
    refine wp_iload_n (atd dX12_tell 4 rfl) rfl ?_
    refine wp_iconst (v := -1) (atd dX12_tell 5 rfl) (by decide) ?_
    refine wp_icmp_eq (tgt := 21) (atd dX12_tell 6 rfl) (by decide) (fun c_10 => ?_) (fun c_10 => ?_)
    ·
      refine wp_iload_n (atd dX12_tell 11 rfl) rfl ?_
      refine wp_iconst (v := -1) (atd dX12_tell 12 rfl) (by decide) ?_
      refine wp_icmp_eq (tgt := 39) (atd dX12_tell 13 rfl) (by decide) (fun c_23 => ?_) (fun c_23 => ?_)
      · exact absurd c_23 hc
      ·
        refine wp_aload_n (atd dX12_tell 14 rfl) rfl rfl ?_
        refine wp_iload_n (atd dX12_tell 15 rfl) rfl ?_
        refine wp_cVi hdd [_] (atd dX12_tell 16 rfl) iX12_isPlace lX12_181 rfl rfl (Nat.le_of_ble_eq_true rfl) hM.1.1 rfl (eX12_isPlace (by omega) hM.self hp hn) (fun r_28 s_28 h_28 => ?_)
        obtain ⟨rfl, rfl⟩ := h_28
        refine wp_ifB_eq (tgt := 43) (atd dX12_tell 17 rfl) (by decide) (fun c_31 => ?_) (fun c_31 => ?_)
        ·
          refine wp_iconst (v := nI 0) (atd dX12_tell 23 rfl) (by decide) ?_
          refine wp_istore (atd dX12_tell 24 rfl) (Nat.le_of_ble_eq_true rfl) ?_
          refine wp_aload_n (atd dX12_tell 25 rfl) rfl rfl ?_
          refine wp_iload (atd dX12_tell 26 rfl) rfl ?_
          refine wp_ifN_ne (tgt := 56) (atd dX12_tell 27 rfl) (by decide) (by omega) (fun c_49 => ?_) (fun c_49 => ?_)
          · exact absurd c_49 (by decide)
          ·
            refine wp_iconst (v := nI 0) (atd dX12_tell 28 rfl) (by decide) ?_
            refine wp_goto (tgt := 75) (atd dX12_tell 29 rfl) (by decide) ?_
            refine wp_putM fX12_277 (atd dX12_tell 41 rfl) hM rfl (fun σ hM => ?_)
            refine wp_aload_n (atd dX12_tell 42 rfl) rfl rfl ?_
            refine wp_iload_n (atd dX12_tell 43 rfl) rfl ?_
            refine wp_putM fX12_280 (atd dX12_tell 44 rfl) hM rfl (fun σ hM => ?_)
            refine wp_aload_n (atd dX12_tell 45 rfl) rfl rfl ?_
            refine wp_aload_n (atd dX12_tell 46 rfl) rfl rfl ?_
            refine wp_get fX12_277 (atd dX12_tell 47 rfl) hM.1.1 (congrArg (fun z => some (Value.int z)) (rfl : _ = nI 0)) ?_
            refine wp_iconst (v := nI 1) (atd dX12_tell 48 rfl) (by decide) ?_
            refine wp_icmpN_le (tgt := 96) (atd dX12_tell 49 rfl) (by decide) (by omega) (by omega) (fun c_89 => ?_) (fun c_89 => ?_)
            ·
              refine wp_iload_n (atd dX12_tell 52 rfl) rfl ?_
              refine wp_putM fX12_283 (atd dX12_tell 53 rfl) hM rfl (fun σ hM => ?_)
              refine wp_aload_n (atd dX12_tell 54 rfl) rfl rfl ?_
              refine wp_aload_n (atd dX12_tell 55 rfl) rfl rfl ?_
              refine wp_get fX12_277 (atd dX12_tell 56 rfl) hM.1.1 (congrArg (fun z => some (Value.int z)) (rfl : _ = nI 0)) ?_
              refine wp_iconst (v := nI 2) (atd dX12_tell 57 rfl) (by decide) ?_
              refine wp_icmpN_le (tgt := 113) (atd dX12_tell 58 rfl) (by decide) (by omega) (by omega) (fun c_106 => ?_) (fun c_106 => ?_)
              ·
                refine wp_aload_n (atd dX12_tell 61 rfl) rfl rfl ?_
                refine wp_get fX12_283 (atd dX12_tell 62 rfl) hM.1.1 rfl ?_
                refine wp_putM fX12_286 (atd dX12_tell 63 rfl) hM rfl (fun σ hM => ?_)
                refine wp_aload_n (atd dX12_tell 64 rfl) rfl rfl ?_
                refine wp_get fX12_277 (atd dX12_tell 65 rfl) hM.1.1 (congrArg (fun z => some (Value.int z)) (rfl : _ = nI 0)) ?_
                refine wp_iconst (v := nI 1) (atd dX12_tell 66 rfl) (by decide) ?_
                refine wp_icmpN_le (tgt := 154) (atd dX12_tell 67 rfl) (by decide) (by omega) (by omega) (fun c_125 => ?_) (fun c_125 => ?_)
                ·
                  refine wp_aload_n (atd dX12_tell 82 rfl) rfl rfl ?_
                  refine wp_get fX12_277 (atd dX12_tell 83 rfl) hM.1.1 (congrArg (fun z => some (Value.int z)) (rfl : _ = nI 0)) ?_
                  refine wp_iconst (v := nI 2) (atd dX12_tell 84 rfl) (by decide) ?_
                  refine wp_icmpN_le (tgt := 217) (atd dX12_tell 85 rfl) (by decide) (by omega) (by omega) (fun c_159 => ?_) (fun c_159 => ?_)
                  ·
                    refine wp_aload_n (atd dX12_tell 113 rfl) rfl rfl ?_
                    refine wp_get fX12_277 (atd dX12_tell 114 rfl) hM.1.1 (congrArg (fun z => some (Value.int z)) (rfl : _ = nI 0)) ?_
                    refine wp_ireti (atd dX12_tell 115 rfl) rfl ?_
                    rw [tl_1n hn ha hc]
                    exact ⟨rfl, _, hM, ((((frm.rf.up (by decide)).up (by decide)).up (by decide)).up (by decide)), rfl, fun h ρ z => by cases z⟩
                  · exfalso; omega
                · exfalso; omega
              · exfalso; omega
            · exfalso; omega
        ·
          refine wp_iload_n (atd dX12_tell 18 rfl) rfl ?_
          refine wp_iconst (v := -1) (atd dX12_tell 19 rfl) (by decide) ?_
          refine wp_icmp_eq (tgt := 43) (atd dX12_tell 20 rfl) (by decide) (fun c_36 => ?_) (fun c_36 => ?_)
          ·
            refine wp_iconst (v := nI 0) (atd dX12_tell 23 rfl) (by decide) ?_
            refine wp_istore (atd dX12_tell 24 rfl) (Nat.le_of_ble_eq_true rfl) ?_
            refine wp_aload_n (atd dX12_tell 25 rfl) rfl rfl ?_
            refine wp_iload (atd dX12_tell 26 rfl) rfl ?_
            refine wp_ifN_ne (tgt := 56) (atd dX12_tell 27 rfl) (by decide) (by omega) (fun c_49 => ?_) (fun c_49 => ?_)
            · exact absurd c_49 (by decide)
            ·
              refine wp_iconst (v := nI 0) (atd dX12_tell 28 rfl) (by decide) ?_
              refine wp_goto (tgt := 75) (atd dX12_tell 29 rfl) (by decide) ?_
              refine wp_putM fX12_277 (atd dX12_tell 41 rfl) hM rfl (fun σ hM => ?_)
              refine wp_aload_n (atd dX12_tell 42 rfl) rfl rfl ?_
              refine wp_iload_n (atd dX12_tell 43 rfl) rfl ?_
              refine wp_putM fX12_280 (atd dX12_tell 44 rfl) hM rfl (fun σ hM => ?_)
              refine wp_aload_n (atd dX12_tell 45 rfl) rfl rfl ?_
              refine wp_aload_n (atd dX12_tell 46 rfl) rfl rfl ?_
              refine wp_get fX12_277 (atd dX12_tell 47 rfl) hM.1.1 (congrArg (fun z => some (Value.int z)) (rfl : _ = nI 0)) ?_
              refine wp_iconst (v := nI 1) (atd dX12_tell 48 rfl) (by decide) ?_
              refine wp_icmpN_le (tgt := 96) (atd dX12_tell 49 rfl) (by decide) (by omega) (by omega) (fun c_89 => ?_) (fun c_89 => ?_)
              ·
                refine wp_iload_n (atd dX12_tell 52 rfl) rfl ?_
                refine wp_putM fX12_283 (atd dX12_tell 53 rfl) hM rfl (fun σ hM => ?_)
                refine wp_aload_n (atd dX12_tell 54 rfl) rfl rfl ?_
                refine wp_aload_n (atd dX12_tell 55 rfl) rfl rfl ?_
                refine wp_get fX12_277 (atd dX12_tell 56 rfl) hM.1.1 (congrArg (fun z => some (Value.int z)) (rfl : _ = nI 0)) ?_
                refine wp_iconst (v := nI 2) (atd dX12_tell 57 rfl) (by decide) ?_
                refine wp_icmpN_le (tgt := 113) (atd dX12_tell 58 rfl) (by decide) (by omega) (by omega) (fun c_106 => ?_) (fun c_106 => ?_)
                ·
                  refine wp_aload_n (atd dX12_tell 61 rfl) rfl rfl ?_
                  refine wp_get fX12_283 (atd dX12_tell 62 rfl) hM.1.1 rfl ?_
                  refine wp_putM fX12_286 (atd dX12_tell 63 rfl) hM rfl (fun σ hM => ?_)
                  refine wp_aload_n (atd dX12_tell 64 rfl) rfl rfl ?_
                  refine wp_get fX12_277 (atd dX12_tell 65 rfl) hM.1.1 (congrArg (fun z => some (Value.int z)) (rfl : _ = nI 0)) ?_
                  refine wp_iconst (v := nI 1) (atd dX12_tell 66 rfl) (by decide) ?_
                  refine wp_icmpN_le (tgt := 154) (atd dX12_tell 67 rfl) (by decide) (by omega) (by omega) (fun c_125 => ?_) (fun c_125 => ?_)
                  ·
                    refine wp_aload_n (atd dX12_tell 82 rfl) rfl rfl ?_
                    refine wp_get fX12_277 (atd dX12_tell 83 rfl) hM.1.1 (congrArg (fun z => some (Value.int z)) (rfl : _ = nI 0)) ?_
                    refine wp_iconst (v := nI 2) (atd dX12_tell 84 rfl) (by decide) ?_
                    refine wp_icmpN_le (tgt := 217) (atd dX12_tell 85 rfl) (by decide) (by omega) (by omega) (fun c_159 => ?_) (fun c_159 => ?_)
                    ·
                      refine wp_aload_n (atd dX12_tell 113 rfl) rfl rfl ?_
                      refine wp_get fX12_277 (atd dX12_tell 114 rfl) hM.1.1 (congrArg (fun z => some (Value.int z)) (rfl : _ = nI 0)) ?_
                      refine wp_ireti (atd dX12_tell 115 rfl) rfl ?_
                      rw [tl_1n hn ha hc]
                      exact ⟨rfl, _, hM, ((((frm.rf.up (by decide)).up (by decide)).up (by decide)).up (by decide)), rfl, fun h ρ z => by cases z⟩
                    · exfalso; omega
                  · exfalso; omega
                · exfalso; omega
              · exfalso; omega
          · exact absurd rfl c_36
    · exact absurd rfl c_10
theorem eX12_tell2n {G : Gx} {d : Nat} {σ : Hp} (hd : 2 ≤ d) {m n : Nat} {α : Nat → Int32} {B : Nat → Nat → Int32} (hM : MA σ σ m α B) (hp : α 2 = nI n) (hn : n ≤ 9) {a : Nat} {b c : Int32} (ha : a < n) (hb : b ≠ -1) (hb2 : ¬ isP b n) : Cl G mX12_tell d [.ref m, .int (nI a), .int (b), .int (c)] σ 0 0 (pI fun r s => r = nI (tlH (tlF n (nI a) (b) (c))) ∧ ∃ α1, MA σ s m α1 B ∧ frm [34, 35, 36, 37] α α1 ∧ Tld α1 (tlF n (nI a) (b) (c))) := by
  obtain ⟨d0, hdd⟩ : ∃ e, d = e + 1 := ⟨d - 1, by omega⟩
  refine cl_of (by decide) (by simp [Value.category]) (Nat.le_of_ble_eq_true rfl) ?_
  show Wp G mX12_tell d 0 [.ref m, .int (nI a), .int (b), .int (c), .double 0, .double 0, .double 0, .double 0] [] σ 0 0 _
  refine wp_aload_n (atd dX12_tell 0 rfl) rfl rfl ?_
  refine wp_iload_n (atd dX12_tell 1 rfl) rfl ?_
  refine wp_cVi hdd [_] (atd dX12_tell 2 rfl) iX12_isPlace lX12_181 rfl rfl (Nat.le_of_ble_eq_true rfl) hM.1.1 rfl (eX12_isPlace (by omega) hM.self hp hn) (fun r_2 s_2 h_2 => ?_)
  obtain ⟨rfl, rfl⟩ := h_2
  refine wp_ifB_eq (tgt := 43) (atd dX12_tell 3 rfl) (by decide) (fun c_5 => ?_) (fun c_5 => ?_)
  · exact absurd ((isP_nI (by omega)).mpr ha) c_5
  ·
    refine wp_iload_n (atd dX12_tell 4 rfl) rfl ?_
    refine wp_iconst (v := -1) (atd dX12_tell 5 rfl) (by decide) ?_
    refine wp_icmp_eq (tgt := 21) (atd dX12_tell 6 rfl) (by decide) (fun c_10 => ?_) (fun c_10 => ?_)
    · exact absurd c_10 hb
    ·
      refine wp_aload_n (atd dX12_tell 7 rfl) rfl rfl ?_
      refine wp_iload_n (atd dX12_tell 8 rfl) rfl ?_
      refine wp_cVi hdd [_] (atd dX12_tell 9 rfl) iX12_isPlace lX12_181 rfl rfl (Nat.le_of_ble_eq_true rfl) hM.1.1 rfl (eX12_isPlace (by omega) hM.self hp hn) (fun r_15 s_15 h_15 => ?_)
      obtain ⟨rfl, rfl⟩ := h_15
      refine wp_ifB_eq (tgt := 43) (atd dX12_tell 10 rfl) (by decide) (fun c_18 => ?_) (fun c_18 => ?_)
      ·
        refine wp_iconst (v := nI 0) (atd dX12_tell 23 rfl) (by decide) ?_
        refine wp_istore (atd dX12_tell 24 rfl) (Nat.le_of_ble_eq_true rfl) ?_
        refine wp_aload_n (atd dX12_tell 25 rfl) rfl rfl ?_
        refine wp_iload (atd dX12_tell 26 rfl) rfl ?_
        refine wp_ifN_ne (tgt := 56) (atd dX12_tell 27 rfl) (by decide) (by omega) (fun c_49 => ?_) (fun c_49 => ?_)
        · exact absurd c_49 (by decide)
        ·
          refine wp_iconst (v := nI 0) (atd dX12_tell 28 rfl) (by decide) ?_
          refine wp_goto (tgt := 75) (atd dX12_tell 29 rfl) (by decide) ?_
          refine wp_putM fX12_277 (atd dX12_tell 41 rfl) hM rfl (fun σ hM => ?_)
          refine wp_aload_n (atd dX12_tell 42 rfl) rfl rfl ?_
          refine wp_iload_n (atd dX12_tell 43 rfl) rfl ?_
          refine wp_putM fX12_280 (atd dX12_tell 44 rfl) hM rfl (fun σ hM => ?_)
          refine wp_aload_n (atd dX12_tell 45 rfl) rfl rfl ?_
          refine wp_aload_n (atd dX12_tell 46 rfl) rfl rfl ?_
          refine wp_get fX12_277 (atd dX12_tell 47 rfl) hM.1.1 (congrArg (fun z => some (Value.int z)) (rfl : _ = nI 0)) ?_
          refine wp_iconst (v := nI 1) (atd dX12_tell 48 rfl) (by decide) ?_
          refine wp_icmpN_le (tgt := 96) (atd dX12_tell 49 rfl) (by decide) (by omega) (by omega) (fun c_89 => ?_) (fun c_89 => ?_)
          ·
            refine wp_iload_n (atd dX12_tell 52 rfl) rfl ?_
            refine wp_putM fX12_283 (atd dX12_tell 53 rfl) hM rfl (fun σ hM => ?_)
            refine wp_aload_n (atd dX12_tell 54 rfl) rfl rfl ?_
            refine wp_aload_n (atd dX12_tell 55 rfl) rfl rfl ?_
            refine wp_get fX12_277 (atd dX12_tell 56 rfl) hM.1.1 (congrArg (fun z => some (Value.int z)) (rfl : _ = nI 0)) ?_
            refine wp_iconst (v := nI 2) (atd dX12_tell 57 rfl) (by decide) ?_
            refine wp_icmpN_le (tgt := 113) (atd dX12_tell 58 rfl) (by decide) (by omega) (by omega) (fun c_106 => ?_) (fun c_106 => ?_)
            ·
              refine wp_aload_n (atd dX12_tell 61 rfl) rfl rfl ?_
              refine wp_get fX12_283 (atd dX12_tell 62 rfl) hM.1.1 rfl ?_
              refine wp_putM fX12_286 (atd dX12_tell 63 rfl) hM rfl (fun σ hM => ?_)
              refine wp_aload_n (atd dX12_tell 64 rfl) rfl rfl ?_
              refine wp_get fX12_277 (atd dX12_tell 65 rfl) hM.1.1 (congrArg (fun z => some (Value.int z)) (rfl : _ = nI 0)) ?_
              refine wp_iconst (v := nI 1) (atd dX12_tell 66 rfl) (by decide) ?_
              refine wp_icmpN_le (tgt := 154) (atd dX12_tell 67 rfl) (by decide) (by omega) (by omega) (fun c_125 => ?_) (fun c_125 => ?_)
              ·
                refine wp_aload_n (atd dX12_tell 82 rfl) rfl rfl ?_
                refine wp_get fX12_277 (atd dX12_tell 83 rfl) hM.1.1 (congrArg (fun z => some (Value.int z)) (rfl : _ = nI 0)) ?_
                refine wp_iconst (v := nI 2) (atd dX12_tell 84 rfl) (by decide) ?_
                refine wp_icmpN_le (tgt := 217) (atd dX12_tell 85 rfl) (by decide) (by omega) (by omega) (fun c_159 => ?_) (fun c_159 => ?_)
                ·
                  refine wp_aload_n (atd dX12_tell 113 rfl) rfl rfl ?_
                  refine wp_get fX12_277 (atd dX12_tell 114 rfl) hM.1.1 (congrArg (fun z => some (Value.int z)) (rfl : _ = nI 0)) ?_
                  refine wp_ireti (atd dX12_tell 115 rfl) rfl ?_
                  rw [tl_2n hn ha hb hb2]
                  exact ⟨rfl, _, hM, ((((frm.rf.up (by decide)).up (by decide)).up (by decide)).up (by decide)), rfl, fun h ρ z => by cases z⟩
                · exfalso; omega
              · exfalso; omega
            · exfalso; omega
          · exfalso; omega
      · exact absurd c_18 hb2
theorem eX12_tell3n {G : Gx} {d : Nat} {σ : Hp} (hd : 2 ≤ d) {m n : Nat} {α : Nat → Int32} {B : Nat → Nat → Int32} (hM : MA σ σ m α B) (hp : α 2 = nI n) (hn : n ≤ 9) {a b : Nat} {c : Int32} (ha : a < n) (hb : b < n) (hc : c ≠ -1) (hc2 : ¬ isP c n) : Cl G mX12_tell d [.ref m, .int (nI a), .int (nI b), .int (c)] σ 0 0 (pI fun r s => r = nI (tlH (tlF n (nI a) (nI b) (c))) ∧ ∃ α1, MA σ s m α1 B ∧ frm [34, 35, 36, 37] α α1 ∧ Tld α1 (tlF n (nI a) (nI b) (c))) := by
  obtain ⟨d0, hdd⟩ : ∃ e, d = e + 1 := ⟨d - 1, by omega⟩
  refine cl_of (by decide) (by simp [Value.category]) (Nat.le_of_ble_eq_true rfl) ?_
  show Wp G mX12_tell d 0 [.ref m, .int (nI a), .int (nI b), .int (c), .double 0, .double 0, .double 0, .double 0] [] σ 0 0 _
  refine wp_aload_n (atd dX12_tell 0 rfl) rfl rfl ?_
  refine wp_iload_n (atd dX12_tell 1 rfl) rfl ?_
  refine wp_cVi hdd [_] (atd dX12_tell 2 rfl) iX12_isPlace lX12_181 rfl rfl (Nat.le_of_ble_eq_true rfl) hM.1.1 rfl (eX12_isPlace (by omega) hM.self hp hn) (fun r_2 s_2 h_2 => ?_)
  obtain ⟨rfl, rfl⟩ := h_2
  refine wp_ifB_eq (tgt := 43) (atd dX12_tell 3 rfl) (by decide) (fun c_5 => ?_) (fun c_5 => ?_)
  · exact absurd ((isP_nI (by omega)).mpr ha) c_5
  ·
    refine wp_iload_n (atd dX12_tell 4 rfl) rfl ?_
    refine wp_iconst (v := -1) (atd dX12_tell 5 rfl) (by decide) ?_
    refine wp_icmp_eq (tgt := 21) (atd dX12_tell 6 rfl) (by decide) (fun c_10 => ?_) (fun c_10 => ?_)
    · exact absurd c_10 (nI_m1 (by omega))
    ·
      refine wp_aload_n (atd dX12_tell 7 rfl) rfl rfl ?_
      refine wp_iload_n (atd dX12_tell 8 rfl) rfl ?_
      refine wp_cVi hdd [_] (atd dX12_tell 9 rfl) iX12_isPlace lX12_181 rfl rfl (Nat.le_of_ble_eq_true rfl) hM.1.1 rfl (eX12_isPlace (by omega) hM.self hp hn) (fun r_15 s_15 h_15 => ?_)
      obtain ⟨rfl, rfl⟩ := h_15
      refine wp_ifB_eq (tgt := 43) (atd dX12_tell 10 rfl) (by decide) (fun c_18 => ?_) (fun c_18 => ?_)
      · exact absurd ((isP_nI (by omega)).mpr hb) c_18
      ·
        refine wp_iload_n (atd dX12_tell 11 rfl) rfl ?_
        refine wp_iconst (v := -1) (atd dX12_tell 12 rfl) (by decide) ?_
        refine wp_icmp_eq (tgt := 39) (atd dX12_tell 13 rfl) (by decide) (fun c_23 => ?_) (fun c_23 => ?_)
        · exact absurd c_23 hc
        ·
          refine wp_aload_n (atd dX12_tell 14 rfl) rfl rfl ?_
          refine wp_iload_n (atd dX12_tell 15 rfl) rfl ?_
          refine wp_cVi hdd [_] (atd dX12_tell 16 rfl) iX12_isPlace lX12_181 rfl rfl (Nat.le_of_ble_eq_true rfl) hM.1.1 rfl (eX12_isPlace (by omega) hM.self hp hn) (fun r_28 s_28 h_28 => ?_)
          obtain ⟨rfl, rfl⟩ := h_28
          refine wp_ifB_eq (tgt := 43) (atd dX12_tell 17 rfl) (by decide) (fun c_31 => ?_) (fun c_31 => ?_)
          ·
            refine wp_iconst (v := nI 0) (atd dX12_tell 23 rfl) (by decide) ?_
            refine wp_istore (atd dX12_tell 24 rfl) (Nat.le_of_ble_eq_true rfl) ?_
            refine wp_aload_n (atd dX12_tell 25 rfl) rfl rfl ?_
            refine wp_iload (atd dX12_tell 26 rfl) rfl ?_
            refine wp_ifN_ne (tgt := 56) (atd dX12_tell 27 rfl) (by decide) (by omega) (fun c_49 => ?_) (fun c_49 => ?_)
            · exact absurd c_49 (by decide)
            ·
              refine wp_iconst (v := nI 0) (atd dX12_tell 28 rfl) (by decide) ?_
              refine wp_goto (tgt := 75) (atd dX12_tell 29 rfl) (by decide) ?_
              refine wp_putM fX12_277 (atd dX12_tell 41 rfl) hM rfl (fun σ hM => ?_)
              refine wp_aload_n (atd dX12_tell 42 rfl) rfl rfl ?_
              refine wp_iload_n (atd dX12_tell 43 rfl) rfl ?_
              refine wp_putM fX12_280 (atd dX12_tell 44 rfl) hM rfl (fun σ hM => ?_)
              refine wp_aload_n (atd dX12_tell 45 rfl) rfl rfl ?_
              refine wp_aload_n (atd dX12_tell 46 rfl) rfl rfl ?_
              refine wp_get fX12_277 (atd dX12_tell 47 rfl) hM.1.1 (congrArg (fun z => some (Value.int z)) (rfl : _ = nI 0)) ?_
              refine wp_iconst (v := nI 1) (atd dX12_tell 48 rfl) (by decide) ?_
              refine wp_icmpN_le (tgt := 96) (atd dX12_tell 49 rfl) (by decide) (by omega) (by omega) (fun c_89 => ?_) (fun c_89 => ?_)
              ·
                refine wp_iload_n (atd dX12_tell 52 rfl) rfl ?_
                refine wp_putM fX12_283 (atd dX12_tell 53 rfl) hM rfl (fun σ hM => ?_)
                refine wp_aload_n (atd dX12_tell 54 rfl) rfl rfl ?_
                refine wp_aload_n (atd dX12_tell 55 rfl) rfl rfl ?_
                refine wp_get fX12_277 (atd dX12_tell 56 rfl) hM.1.1 (congrArg (fun z => some (Value.int z)) (rfl : _ = nI 0)) ?_
                refine wp_iconst (v := nI 2) (atd dX12_tell 57 rfl) (by decide) ?_
                refine wp_icmpN_le (tgt := 113) (atd dX12_tell 58 rfl) (by decide) (by omega) (by omega) (fun c_106 => ?_) (fun c_106 => ?_)
                ·
                  refine wp_aload_n (atd dX12_tell 61 rfl) rfl rfl ?_
                  refine wp_get fX12_283 (atd dX12_tell 62 rfl) hM.1.1 rfl ?_
                  refine wp_putM fX12_286 (atd dX12_tell 63 rfl) hM rfl (fun σ hM => ?_)
                  refine wp_aload_n (atd dX12_tell 64 rfl) rfl rfl ?_
                  refine wp_get fX12_277 (atd dX12_tell 65 rfl) hM.1.1 (congrArg (fun z => some (Value.int z)) (rfl : _ = nI 0)) ?_
                  refine wp_iconst (v := nI 1) (atd dX12_tell 66 rfl) (by decide) ?_
                  refine wp_icmpN_le (tgt := 154) (atd dX12_tell 67 rfl) (by decide) (by omega) (by omega) (fun c_125 => ?_) (fun c_125 => ?_)
                  ·
                    refine wp_aload_n (atd dX12_tell 82 rfl) rfl rfl ?_
                    refine wp_get fX12_277 (atd dX12_tell 83 rfl) hM.1.1 (congrArg (fun z => some (Value.int z)) (rfl : _ = nI 0)) ?_
                    refine wp_iconst (v := nI 2) (atd dX12_tell 84 rfl) (by decide) ?_
                    refine wp_icmpN_le (tgt := 217) (atd dX12_tell 85 rfl) (by decide) (by omega) (by omega) (fun c_159 => ?_) (fun c_159 => ?_)
                    ·
                      refine wp_aload_n (atd dX12_tell 113 rfl) rfl rfl ?_
                      refine wp_get fX12_277 (atd dX12_tell 114 rfl) hM.1.1 (congrArg (fun z => some (Value.int z)) (rfl : _ = nI 0)) ?_
                      refine wp_ireti (atd dX12_tell 115 rfl) rfl ?_
                      rw [tl_3n hn ha hb hc hc2]
                      exact ⟨rfl, _, hM, ((((frm.rf.up (by decide)).up (by decide)).up (by decide)).up (by decide)), rfl, fun h ρ z => by cases z⟩
                    · exfalso; omega
                  · exfalso; omega
                · exfalso; omega
              · exfalso; omega
          · exact absurd c_31 hc2
theorem eX12_tell1 {G : Gx} {d : Nat} {σ : Hp} (hd : 2 ≤ d) {m n : Nat} {α : Nat → Int32} {B : Nat → Nat → Int32} (hM : MA σ σ m α B) (hp : α 2 = nI n) (hn : n ≤ 9) {a : Nat} (ha : a < n) : Cl G mX12_tell d [.ref m, .int (nI a), .int (-1), .int (-1)] σ 0 0 (pI fun r s => r = nI (tlH (tlF n (nI a) (-1) (-1))) ∧ ∃ α1, MA σ s m α1 B ∧ frm [34, 35, 36, 37] α α1 ∧ Tld α1 (tlF n (nI a) (-1) (-1))) := by
  obtain ⟨d0, hdd⟩ : ∃ e, d = e + 1 := ⟨d - 1, by omega⟩
  refine cl_of (by decide) (by simp [Value.category]) (Nat.le_of_ble_eq_true rfl) ?_
  show Wp G mX12_tell d 0 [.ref m, .int (nI a), .int (-1), .int (-1), .double 0, .double 0, .double 0, .double 0] [] σ 0 0 _
  refine wp_aload_n (atd dX12_tell 0 rfl) rfl rfl ?_
  refine wp_iload_n (atd dX12_tell 1 rfl) rfl ?_
  refine wp_cVi hdd [_] (atd dX12_tell 2 rfl) iX12_isPlace lX12_181 rfl rfl (Nat.le_of_ble_eq_true rfl) hM.1.1 rfl (eX12_isPlace (by omega) hM.self hp hn) (fun r_2 s_2 h_2 => ?_)
  obtain ⟨rfl, rfl⟩ := h_2
  refine wp_ifB_eq (tgt := 43) (atd dX12_tell 3 rfl) (by decide) (fun c_5 => ?_) (fun c_5 => ?_)
  · exact absurd ((isP_nI (by omega)).mpr ha) c_5
  ·
    refine wp_iload_n (atd dX12_tell 4 rfl) rfl ?_
    refine wp_iconst (v := -1) (atd dX12_tell 5 rfl) (by decide) ?_
    refine wp_icmp_eq (tgt := 21) (atd dX12_tell 6 rfl) (by decide) (fun c_10 => ?_) (fun c_10 => ?_)
    ·
      refine wp_iload_n (atd dX12_tell 11 rfl) rfl ?_
      refine wp_iconst (v := -1) (atd dX12_tell 12 rfl) (by decide) ?_
      refine wp_icmp_eq (tgt := 39) (atd dX12_tell 13 rfl) (by decide) (fun c_23 => ?_) (fun c_23 => ?_)
      ·
        refine wp_iconst (v := nI 1) (atd dX12_tell 21 rfl) (by decide) ?_
        refine wp_goto (tgt := 44) (atd dX12_tell 22 rfl) (by decide) ?_
        refine wp_istore (atd dX12_tell 24 rfl) (Nat.le_of_ble_eq_true rfl) ?_
        refine wp_aload_n (atd dX12_tell 25 rfl) rfl rfl ?_
        refine wp_iload (atd dX12_tell 26 rfl) rfl ?_
        refine wp_ifN_ne (tgt := 56) (atd dX12_tell 27 rfl) (by decide) (by omega) (fun c_49 => ?_) (fun c_49 => ?_)
        ·
          refine wp_iload_n (atd dX12_tell 30 rfl) rfl ?_
          refine wp_iconst (v := -1) (atd dX12_tell 31 rfl) (by decide) ?_
          refine wp_icmp_ne (tgt := 65) (atd dX12_tell 32 rfl) (by decide) (fun c_58 => ?_) (fun c_58 => ?_)
          · exact absurd rfl c_58
          ·
            refine wp_iconst (v := nI 1) (atd dX12_tell 33 rfl) (by decide) ?_
            refine wp_goto (tgt := 75) (atd dX12_tell 34 rfl) (by decide) ?_
            refine wp_putM fX12_277 (atd dX12_tell 41 rfl) hM rfl (fun σ hM => ?_)
            refine wp_aload_n (atd dX12_tell 42 rfl) rfl rfl ?_
            refine wp_iload_n (atd dX12_tell 43 rfl) rfl ?_
            refine wp_putM fX12_280 (atd dX12_tell 44 rfl) hM rfl (fun σ hM => ?_)
            refine wp_aload_n (atd dX12_tell 45 rfl) rfl rfl ?_
            refine wp_aload_n (atd dX12_tell 46 rfl) rfl rfl ?_
            refine wp_get fX12_277 (atd dX12_tell 47 rfl) hM.1.1 (congrArg (fun z => some (Value.int z)) (rfl : _ = nI 1)) ?_
            refine wp_iconst (v := nI 1) (atd dX12_tell 48 rfl) (by decide) ?_
            refine wp_icmpN_le (tgt := 96) (atd dX12_tell 49 rfl) (by decide) (by omega) (by omega) (fun c_89 => ?_) (fun c_89 => ?_)
            ·
              refine wp_iload_n (atd dX12_tell 52 rfl) rfl ?_
              refine wp_putM fX12_283 (atd dX12_tell 53 rfl) hM rfl (fun σ hM => ?_)
              refine wp_aload_n (atd dX12_tell 54 rfl) rfl rfl ?_
              refine wp_aload_n (atd dX12_tell 55 rfl) rfl rfl ?_
              refine wp_get fX12_277 (atd dX12_tell 56 rfl) hM.1.1 (congrArg (fun z => some (Value.int z)) (rfl : _ = nI 1)) ?_
              refine wp_iconst (v := nI 2) (atd dX12_tell 57 rfl) (by decide) ?_
              refine wp_icmpN_le (tgt := 113) (atd dX12_tell 58 rfl) (by decide) (by omega) (by omega) (fun c_106 => ?_) (fun c_106 => ?_)
              ·
                refine wp_aload_n (atd dX12_tell 61 rfl) rfl rfl ?_
                refine wp_get fX12_283 (atd dX12_tell 62 rfl) hM.1.1 (congrArg (fun z => some (Value.int z)) (rfl : _ = nI a)) ?_
                refine wp_putM fX12_286 (atd dX12_tell 63 rfl) hM rfl (fun σ hM => ?_)
                refine wp_aload_n (atd dX12_tell 64 rfl) rfl rfl ?_
                refine wp_get fX12_277 (atd dX12_tell 65 rfl) hM.1.1 (congrArg (fun z => some (Value.int z)) (rfl : _ = nI 1)) ?_
                refine wp_iconst (v := nI 1) (atd dX12_tell 66 rfl) (by decide) ?_
                refine wp_icmpN_le (tgt := 154) (atd dX12_tell 67 rfl) (by decide) (by omega) (by omega) (fun c_125 => ?_) (fun c_125 => ?_)
                ·
                  refine wp_aload_n (atd dX12_tell 82 rfl) rfl rfl ?_
                  refine wp_get fX12_277 (atd dX12_tell 83 rfl) hM.1.1 (congrArg (fun z => some (Value.int z)) (rfl : _ = nI 1)) ?_
                  refine wp_iconst (v := nI 2) (atd dX12_tell 84 rfl) (by decide) ?_
                  refine wp_icmpN_le (tgt := 217) (atd dX12_tell 85 rfl) (by decide) (by omega) (by omega) (fun c_159 => ?_) (fun c_159 => ?_)
                  ·
                    refine wp_aload_n (atd dX12_tell 113 rfl) rfl rfl ?_
                    refine wp_get fX12_277 (atd dX12_tell 114 rfl) hM.1.1 (congrArg (fun z => some (Value.int z)) (rfl : _ = nI 1)) ?_
                    refine wp_ireti (atd dX12_tell 115 rfl) rfl ?_
                    rw [tl_1 hn ha]
                    exact ⟨rfl, _, hM, ((((frm.rf.up (by decide)).up (by decide)).up (by decide)).up (by decide)), rfl, fun h ρ z => by cases z; exact ⟨rfl, rfl, rfl⟩⟩
                  · exfalso; omega
                · exfalso; omega
              · exfalso; omega
            · exfalso; omega
        · exact absurd c_49 (by decide)
      · exact absurd rfl c_23
    · exact absurd rfl c_10
theorem eX12_tell2 {G : Gx} {d : Nat} {σ : Hp} (hd : 2 ≤ d) {m n : Nat} {α : Nat → Int32} {B : Nat → Nat → Int32} (hM : MA σ σ m α B) (hp : α 2 = nI n) (hn : n ≤ 9) {a b : Nat} (ha : a < n) (hb : b < n) : Cl G mX12_tell d [.ref m, .int (nI a), .int (nI b), .int (-1)] σ 0 0 (pI fun r s => r = nI (tlH (tlF n (nI a) (nI b) (-1))) ∧ ∃ α1, MA σ s m α1 B ∧ frm [34, 35, 36, 37] α α1 ∧ Tld α1 (tlF n (nI a) (nI b) (-1))) := by
  obtain ⟨d0, hdd⟩ : ∃ e, d = e + 1 := ⟨d - 1, by omega⟩
  refine cl_of (by decide) (by simp [Value.category]) (Nat.le_of_ble_eq_true rfl) ?_
  show Wp G mX12_tell d 0 [.ref m, .int (nI a), .int (nI b), .int (-1), .double 0, .double 0, .double 0, .double 0] [] σ 0 0 _
  refine wp_aload_n (atd dX12_tell 0 rfl) rfl rfl ?_
  refine wp_iload_n (atd dX12_tell 1 rfl) rfl ?_
  refine wp_cVi hdd [_] (atd dX12_tell 2 rfl) iX12_isPlace lX12_181 rfl rfl (Nat.le_of_ble_eq_true rfl) hM.1.1 rfl (eX12_isPlace (by omega) hM.self hp hn) (fun r_2 s_2 h_2 => ?_)
  obtain ⟨rfl, rfl⟩ := h_2
  refine wp_ifB_eq (tgt := 43) (atd dX12_tell 3 rfl) (by decide) (fun c_5 => ?_) (fun c_5 => ?_)
  · exact absurd ((isP_nI (by omega)).mpr ha) c_5
  ·
    refine wp_iload_n (atd dX12_tell 4 rfl) rfl ?_
    refine wp_iconst (v := -1) (atd dX12_tell 5 rfl) (by decide) ?_
    refine wp_icmp_eq (tgt := 21) (atd dX12_tell 6 rfl) (by decide) (fun c_10 => ?_) (fun c_10 => ?_)
    · exact absurd c_10 (nI_m1 (by omega))
    ·
      refine wp_aload_n (atd dX12_tell 7 rfl) rfl rfl ?_
      refine wp_iload_n (atd dX12_tell 8 rfl) rfl ?_
      refine wp_cVi hdd [_] (atd dX12_tell 9 rfl) iX12_isPlace lX12_181 rfl rfl (Nat.le_of_ble_eq_true rfl) hM.1.1 rfl (eX12_isPlace (by omega) hM.self hp hn) (fun r_15 s_15 h_15 => ?_)
      obtain ⟨rfl, rfl⟩ := h_15
      refine wp_ifB_eq (tgt := 43) (atd dX12_tell 10 rfl) (by decide) (fun c_18 => ?_) (fun c_18 => ?_)
      · exact absurd ((isP_nI (by omega)).mpr hb) c_18
      ·
        refine wp_iload_n (atd dX12_tell 11 rfl) rfl ?_
        refine wp_iconst (v := -1) (atd dX12_tell 12 rfl) (by decide) ?_
        refine wp_icmp_eq (tgt := 39) (atd dX12_tell 13 rfl) (by decide) (fun c_23 => ?_) (fun c_23 => ?_)
        ·
          refine wp_iconst (v := nI 1) (atd dX12_tell 21 rfl) (by decide) ?_
          refine wp_goto (tgt := 44) (atd dX12_tell 22 rfl) (by decide) ?_
          refine wp_istore (atd dX12_tell 24 rfl) (Nat.le_of_ble_eq_true rfl) ?_
          refine wp_aload_n (atd dX12_tell 25 rfl) rfl rfl ?_
          refine wp_iload (atd dX12_tell 26 rfl) rfl ?_
          refine wp_ifN_ne (tgt := 56) (atd dX12_tell 27 rfl) (by decide) (by omega) (fun c_49 => ?_) (fun c_49 => ?_)
          ·
            refine wp_iload_n (atd dX12_tell 30 rfl) rfl ?_
            refine wp_iconst (v := -1) (atd dX12_tell 31 rfl) (by decide) ?_
            refine wp_icmp_ne (tgt := 65) (atd dX12_tell 32 rfl) (by decide) (fun c_58 => ?_) (fun c_58 => ?_)
            ·
              refine wp_iload_n (atd dX12_tell 35 rfl) rfl ?_
              refine wp_iconst (v := -1) (atd dX12_tell 36 rfl) (by decide) ?_
              refine wp_icmp_ne (tgt := 74) (atd dX12_tell 37 rfl) (by decide) (fun c_67 => ?_) (fun c_67 => ?_)
              · exact absurd rfl c_67
              ·
                refine wp_iconst (v := nI 2) (atd dX12_tell 38 rfl) (by decide) ?_
                refine wp_goto (tgt := 75) (atd dX12_tell 39 rfl) (by decide) ?_
                refine wp_putM fX12_277 (atd dX12_tell 41 rfl) hM rfl (fun σ hM => ?_)
                refine wp_aload_n (atd dX12_tell 42 rfl) rfl rfl ?_
                refine wp_iload_n (atd dX12_tell 43 rfl) rfl ?_
                refine wp_putM fX12_280 (atd dX12_tell 44 rfl) hM rfl (fun σ hM => ?_)
                refine wp_aload_n (atd dX12_tell 45 rfl) rfl rfl ?_
                refine wp_aload_n (atd dX12_tell 46 rfl) rfl rfl ?_
                refine wp_get fX12_277 (atd dX12_tell 47 rfl) hM.1.1 (congrArg (fun z => some (Value.int z)) (rfl : _ = nI 2)) ?_
                refine wp_iconst (v := nI 1) (atd dX12_tell 48 rfl) (by decide) ?_
                refine wp_icmpN_le (tgt := 96) (atd dX12_tell 49 rfl) (by decide) (by omega) (by omega) (fun c_89 => ?_) (fun c_89 => ?_)
                · exfalso; omega
                ·
                  refine wp_iload_n (atd dX12_tell 50 rfl) rfl ?_
                  refine wp_goto (tgt := 97) (atd dX12_tell 51 rfl) (by decide) ?_
                  refine wp_putM fX12_283 (atd dX12_tell 53 rfl) hM rfl (fun σ hM => ?_)
                  refine wp_aload_n (atd dX12_tell 54 rfl) rfl rfl ?_
                  refine wp_aload_n (atd dX12_tell 55 rfl) rfl rfl ?_
                  refine wp_get fX12_277 (atd dX12_tell 56 rfl) hM.1.1 (congrArg (fun z => some (Value.int z)) (rfl : _ = nI 2)) ?_
                  refine wp_iconst (v := nI 2) (atd dX12_tell 57 rfl) (by decide) ?_
                  refine wp_icmpN_le (tgt := 113) (atd dX12_tell 58 rfl) (by decide) (by omega) (by omega) (fun c_106 => ?_) (fun c_106 => ?_)
                  ·
                    refine wp_aload_n (atd dX12_tell 61 rfl) rfl rfl ?_
                    refine wp_get fX12_283 (atd dX12_tell 62 rfl) hM.1.1 (congrArg (fun z => some (Value.int z)) (rfl : _ = nI b)) ?_
                    refine wp_putM fX12_286 (atd dX12_tell 63 rfl) hM rfl (fun σ hM => ?_)
                    refine wp_aload_n (atd dX12_tell 64 rfl) rfl rfl ?_
                    refine wp_get fX12_277 (atd dX12_tell 65 rfl) hM.1.1 (congrArg (fun z => some (Value.int z)) (rfl : _ = nI 2)) ?_
                    refine wp_iconst (v := nI 1) (atd dX12_tell 66 rfl) (by decide) ?_
                    refine wp_icmpN_le (tgt := 154) (atd dX12_tell 67 rfl) (by decide) (by omega) (by omega) (fun c_125 => ?_) (fun c_125 => ?_)
                    · exfalso; omega
                    ·
                      refine wp_aload_n (atd dX12_tell 68 rfl) rfl rfl ?_
                      refine wp_iload_n (atd dX12_tell 69 rfl) rfl ?_
                      refine wp_iload_n (atd dX12_tell 70 rfl) rfl ?_
                      refine wp_cSi hdd [_, _] (atd dX12_tell 71 rfl) iX12_lesser lX12_209 rfl rfl (Nat.le_of_ble_eq_true rfl) (eX12_lesser (by omega)) (fun r_131 s_131 h_131 => ?_)
                      obtain ⟨rfl, rfl⟩ := h_131
                      rw [lesM (by omega) (by omega)]
                      refine wp_putM fX12_280 (atd dX12_tell 72 rfl) hM rfl (fun σ hM => ?_)
                      refine wp_aload_n (atd dX12_tell 73 rfl) rfl rfl ?_
                      refine wp_iload_n (atd dX12_tell 74 rfl) rfl ?_
                      refine wp_iload_n (atd dX12_tell 75 rfl) rfl ?_
                      refine wp_cSi hdd [_, _] (atd dX12_tell 76 rfl) iX12_greater lX12_213 rfl rfl (Nat.le_of_ble_eq_true rfl) (eX12_greater (by omega)) (fun r_140 s_140 h_140 => ?_)
                      obtain ⟨rfl, rfl⟩ := h_140
                      rw [greM (by omega) (by omega)]
                      refine wp_putM fX12_283 (atd dX12_tell 77 rfl) hM rfl (fun σ hM => ?_)
                      refine wp_aload_n (atd dX12_tell 78 rfl) rfl rfl ?_
                      refine wp_aload_n (atd dX12_tell 79 rfl) rfl rfl ?_
                      refine wp_get fX12_283 (atd dX12_tell 80 rfl) hM.1.1 (congrArg (fun z => some (Value.int z)) (rfl : _ = nI (mx a b))) ?_
                      refine wp_putM fX12_286 (atd dX12_tell 81 rfl) hM rfl (fun σ hM => ?_)
                      refine wp_aload_n (atd dX12_tell 82 rfl) rfl rfl ?_
                      refine wp_get fX12_277 (atd dX12_tell 83 rfl) hM.1.1 (congrArg (fun z => some (Value.int z)) (rfl : _ = nI 2)) ?_
                      refine wp_iconst (v := nI 2) (atd dX12_tell 84 rfl) (by decide) ?_
                      refine wp_icmpN_le (tgt := 217) (atd dX12_tell 85 rfl) (by decide) (by omega) (by omega) (fun c_159 => ?_) (fun c_159 => ?_)
                      ·
                        refine wp_aload_n (atd dX12_tell 113 rfl) rfl rfl ?_
                        refine wp_get fX12_277 (atd dX12_tell 114 rfl) hM.1.1 (congrArg (fun z => some (Value.int z)) (rfl : _ = nI 2)) ?_
                        refine wp_ireti (atd dX12_tell 115 rfl) rfl ?_
                        rw [tl_2 hn ha hb]
                        exact ⟨rfl, _, hM, (((((((frm.rf.up (by decide)).up (by decide)).up (by decide)).up (by decide)).up (by decide)).up (by decide)).up (by decide)), rfl, fun h ρ z => by cases z; exact ⟨rfl, rfl, rfl⟩⟩
                      · exfalso; omega
                  · exfalso; omega
            · exact absurd c_58 (by exact fun z => z (nI_m1 (by omega)))
          · exact absurd c_49 (by decide)
        · exact absurd rfl c_23
theorem eX12_tell3 {G : Gx} {d : Nat} {σ : Hp} (hd : 2 ≤ d) {m n : Nat} {α : Nat → Int32} {B : Nat → Nat → Int32} (hM : MA σ σ m α B) (hp : α 2 = nI n) (hn : n ≤ 9) {a b c : Nat} (ha : a < n) (hb : b < n) (hc : c < n) : Cl G mX12_tell d [.ref m, .int (nI a), .int (nI b), .int (nI c)] σ 0 0 (pI fun r s => r = nI (tlH (tlF n (nI a) (nI b) (nI c))) ∧ ∃ α1, MA σ s m α1 B ∧ frm [34, 35, 36, 37] α α1 ∧ Tld α1 (tlF n (nI a) (nI b) (nI c))) := by
  obtain ⟨d0, hdd⟩ : ∃ e, d = e + 1 := ⟨d - 1, by omega⟩
  refine cl_of (by decide) (by simp [Value.category]) (Nat.le_of_ble_eq_true rfl) ?_
  show Wp G mX12_tell d 0 [.ref m, .int (nI a), .int (nI b), .int (nI c), .double 0, .double 0, .double 0, .double 0] [] σ 0 0 _
  refine wp_aload_n (atd dX12_tell 0 rfl) rfl rfl ?_
  refine wp_iload_n (atd dX12_tell 1 rfl) rfl ?_
  refine wp_cVi hdd [_] (atd dX12_tell 2 rfl) iX12_isPlace lX12_181 rfl rfl (Nat.le_of_ble_eq_true rfl) hM.1.1 rfl (eX12_isPlace (by omega) hM.self hp hn) (fun r_2 s_2 h_2 => ?_)
  obtain ⟨rfl, rfl⟩ := h_2
  refine wp_ifB_eq (tgt := 43) (atd dX12_tell 3 rfl) (by decide) (fun c_5 => ?_) (fun c_5 => ?_)
  · exact absurd ((isP_nI (by omega)).mpr ha) c_5
  ·
    refine wp_iload_n (atd dX12_tell 4 rfl) rfl ?_
    refine wp_iconst (v := -1) (atd dX12_tell 5 rfl) (by decide) ?_
    refine wp_icmp_eq (tgt := 21) (atd dX12_tell 6 rfl) (by decide) (fun c_10 => ?_) (fun c_10 => ?_)
    · exact absurd c_10 (nI_m1 (by omega))
    ·
      refine wp_aload_n (atd dX12_tell 7 rfl) rfl rfl ?_
      refine wp_iload_n (atd dX12_tell 8 rfl) rfl ?_
      refine wp_cVi hdd [_] (atd dX12_tell 9 rfl) iX12_isPlace lX12_181 rfl rfl (Nat.le_of_ble_eq_true rfl) hM.1.1 rfl (eX12_isPlace (by omega) hM.self hp hn) (fun r_15 s_15 h_15 => ?_)
      obtain ⟨rfl, rfl⟩ := h_15
      refine wp_ifB_eq (tgt := 43) (atd dX12_tell 10 rfl) (by decide) (fun c_18 => ?_) (fun c_18 => ?_)
      · exact absurd ((isP_nI (by omega)).mpr hb) c_18
      ·
        refine wp_iload_n (atd dX12_tell 11 rfl) rfl ?_
        refine wp_iconst (v := -1) (atd dX12_tell 12 rfl) (by decide) ?_
        refine wp_icmp_eq (tgt := 39) (atd dX12_tell 13 rfl) (by decide) (fun c_23 => ?_) (fun c_23 => ?_)
        · exact absurd c_23 (nI_m1 (by omega))
        ·
          refine wp_aload_n (atd dX12_tell 14 rfl) rfl rfl ?_
          refine wp_iload_n (atd dX12_tell 15 rfl) rfl ?_
          refine wp_cVi hdd [_] (atd dX12_tell 16 rfl) iX12_isPlace lX12_181 rfl rfl (Nat.le_of_ble_eq_true rfl) hM.1.1 rfl (eX12_isPlace (by omega) hM.self hp hn) (fun r_28 s_28 h_28 => ?_)
          obtain ⟨rfl, rfl⟩ := h_28
          refine wp_ifB_eq (tgt := 43) (atd dX12_tell 17 rfl) (by decide) (fun c_31 => ?_) (fun c_31 => ?_)
          · exact absurd ((isP_nI (by omega)).mpr hc) c_31
          ·
            refine wp_iload_n (atd dX12_tell 18 rfl) rfl ?_
            refine wp_iconst (v := -1) (atd dX12_tell 19 rfl) (by decide) ?_
            refine wp_icmp_eq (tgt := 43) (atd dX12_tell 20 rfl) (by decide) (fun c_36 => ?_) (fun c_36 => ?_)
            · exact absurd c_36 (nI_m1 (by omega))
            ·
              refine wp_iconst (v := nI 1) (atd dX12_tell 21 rfl) (by decide) ?_
              refine wp_goto (tgt := 44) (atd dX12_tell 22 rfl) (by decide) ?_
              refine wp_istore (atd dX12_tell 24 rfl) (Nat.le_of_ble_eq_true rfl) ?_
              refine wp_aload_n (atd dX12_tell 25 rfl) rfl rfl ?_
              refine wp_iload (atd dX12_tell 26 rfl) rfl ?_
              refine wp_ifN_ne (tgt := 56) (atd dX12_tell 27 rfl) (by decide) (by omega) (fun c_49 => ?_) (fun c_49 => ?_)
              ·
                refine wp_iload_n (atd dX12_tell 30 rfl) rfl ?_
                refine wp_iconst (v := -1) (atd dX12_tell 31 rfl) (by decide) ?_
                refine wp_icmp_ne (tgt := 65) (atd dX12_tell 32 rfl) (by decide) (fun c_58 => ?_) (fun c_58 => ?_)
                ·
                  refine wp_iload_n (atd dX12_tell 35 rfl) rfl ?_
                  refine wp_iconst (v := -1) (atd dX12_tell 36 rfl) (by decide) ?_
                  refine wp_icmp_ne (tgt := 74) (atd dX12_tell 37 rfl) (by decide) (fun c_67 => ?_) (fun c_67 => ?_)
                  ·
                    refine wp_iconst (v := nI 3) (atd dX12_tell 40 rfl) (by decide) ?_
                    refine wp_putM fX12_277 (atd dX12_tell 41 rfl) hM rfl (fun σ hM => ?_)
                    refine wp_aload_n (atd dX12_tell 42 rfl) rfl rfl ?_
                    refine wp_iload_n (atd dX12_tell 43 rfl) rfl ?_
                    refine wp_putM fX12_280 (atd dX12_tell 44 rfl) hM rfl (fun σ hM => ?_)
                    refine wp_aload_n (atd dX12_tell 45 rfl) rfl rfl ?_
                    refine wp_aload_n (atd dX12_tell 46 rfl) rfl rfl ?_
                    refine wp_get fX12_277 (atd dX12_tell 47 rfl) hM.1.1 (congrArg (fun z => some (Value.int z)) (rfl : _ = nI 3)) ?_
                    refine wp_iconst (v := nI 1) (atd dX12_tell 48 rfl) (by decide) ?_
                    refine wp_icmpN_le (tgt := 96) (atd dX12_tell 49 rfl) (by decide) (by omega) (by omega) (fun c_89 => ?_) (fun c_89 => ?_)
                    · exfalso; omega
                    ·
                      refine wp_iload_n (atd dX12_tell 50 rfl) rfl ?_
                      refine wp_goto (tgt := 97) (atd dX12_tell 51 rfl) (by decide) ?_
                      refine wp_putM fX12_283 (atd dX12_tell 53 rfl) hM rfl (fun σ hM => ?_)
                      refine wp_aload_n (atd dX12_tell 54 rfl) rfl rfl ?_
                      refine wp_aload_n (atd dX12_tell 55 rfl) rfl rfl ?_
                      refine wp_get fX12_277 (atd dX12_tell 56 rfl) hM.1.1 (congrArg (fun z => some (Value.int z)) (rfl : _ = nI 3)) ?_
                      refine wp_iconst (v := nI 2) (atd dX12_tell 57 rfl) (by decide) ?_
                      refine wp_icmpN_le (tgt := 113) (atd dX12_tell 58 rfl) (by decide) (by omega) (by omega) (fun c_106 => ?_) (fun c_106 => ?_)
                      · exfalso; omega
                      ·
                        refine wp_iload_n (atd dX12_tell 59 rfl) rfl ?_
                        refine wp_goto (tgt := 117) (atd dX12_tell 60 rfl) (by decide) ?_
                        refine wp_putM fX12_286 (atd dX12_tell 63 rfl) hM rfl (fun σ hM => ?_)
                        refine wp_aload_n (atd dX12_tell 64 rfl) rfl rfl ?_
                        refine wp_get fX12_277 (atd dX12_tell 65 rfl) hM.1.1 (congrArg (fun z => some (Value.int z)) (rfl : _ = nI 3)) ?_
                        refine wp_iconst (v := nI 1) (atd dX12_tell 66 rfl) (by decide) ?_
                        refine wp_icmpN_le (tgt := 154) (atd dX12_tell 67 rfl) (by decide) (by omega) (by omega) (fun c_125 => ?_) (fun c_125 => ?_)
                        · exfalso; omega
                        ·
                          refine wp_aload_n (atd dX12_tell 68 rfl) rfl rfl ?_
                          refine wp_iload_n (atd dX12_tell 69 rfl) rfl ?_
                          refine wp_iload_n (atd dX12_tell 70 rfl) rfl ?_
                          refine wp_cSi hdd [_, _] (atd dX12_tell 71 rfl) iX12_lesser lX12_209 rfl rfl (Nat.le_of_ble_eq_true rfl) (eX12_lesser (by omega)) (fun r_131 s_131 h_131 => ?_)
                          obtain ⟨rfl, rfl⟩ := h_131
                          rw [lesM (by omega) (by omega)]
                          refine wp_putM fX12_280 (atd dX12_tell 72 rfl) hM rfl (fun σ hM => ?_)
                          refine wp_aload_n (atd dX12_tell 73 rfl) rfl rfl ?_
                          refine wp_iload_n (atd dX12_tell 74 rfl) rfl ?_
                          refine wp_iload_n (atd dX12_tell 75 rfl) rfl ?_
                          refine wp_cSi hdd [_, _] (atd dX12_tell 76 rfl) iX12_greater lX12_213 rfl rfl (Nat.le_of_ble_eq_true rfl) (eX12_greater (by omega)) (fun r_140 s_140 h_140 => ?_)
                          obtain ⟨rfl, rfl⟩ := h_140
                          rw [greM (by omega) (by omega)]
                          refine wp_putM fX12_283 (atd dX12_tell 77 rfl) hM rfl (fun σ hM => ?_)
                          refine wp_aload_n (atd dX12_tell 78 rfl) rfl rfl ?_
                          refine wp_aload_n (atd dX12_tell 79 rfl) rfl rfl ?_
                          refine wp_get fX12_283 (atd dX12_tell 80 rfl) hM.1.1 (congrArg (fun z => some (Value.int z)) (rfl : _ = nI (mx a b))) ?_
                          refine wp_putM fX12_286 (atd dX12_tell 81 rfl) hM rfl (fun σ hM => ?_)
                          refine wp_aload_n (atd dX12_tell 82 rfl) rfl rfl ?_
                          refine wp_get fX12_277 (atd dX12_tell 83 rfl) hM.1.1 (congrArg (fun z => some (Value.int z)) (rfl : _ = nI 3)) ?_
                          refine wp_iconst (v := nI 2) (atd dX12_tell 84 rfl) (by decide) ?_
                          refine wp_icmpN_le (tgt := 217) (atd dX12_tell 85 rfl) (by decide) (by omega) (by omega) (fun c_159 => ?_) (fun c_159 => ?_)
                          · exfalso; omega
                          ·
                            have u1 := mn_lt ha hb
                            have u2 := mx_lt ha hb
                            have u3 := mn_lt u2 hc
                            refine wp_aload_n (atd dX12_tell 86 rfl) rfl rfl ?_
                            refine wp_get fX12_280 (atd dX12_tell 87 rfl) hM.1.1 (congrArg (fun z => some (Value.int z)) (rfl : _ = nI (mn a b))) ?_
                            refine wp_iload_n (atd dX12_tell 88 rfl) rfl ?_
                            refine wp_cSi hdd [_, _] (atd dX12_tell 89 rfl) iX12_lesser lX12_209 rfl rfl (Nat.le_of_ble_eq_true rfl) (eX12_lesser (by omega)) (fun r_167 s_167 h_167 => ?_)
                            obtain ⟨rfl, rfl⟩ := h_167
                            rw [lesM (by omega) (by omega)]
                            refine wp_istore (atd dX12_tell 90 rfl) (Nat.le_of_ble_eq_true rfl) ?_
                            refine wp_aload_n (atd dX12_tell 91 rfl) rfl rfl ?_
                            refine wp_get fX12_280 (atd dX12_tell 92 rfl) hM.1.1 (congrArg (fun z => some (Value.int z)) (rfl : _ = nI (mn a b))) ?_
                            refine wp_aload_n (atd dX12_tell 93 rfl) rfl rfl ?_
                            refine wp_get fX12_283 (atd dX12_tell 94 rfl) hM.1.1 (congrArg (fun z => some (Value.int z)) (rfl : _ = nI (mx a b))) ?_
                            refine wp_iload_n (atd dX12_tell 95 rfl) rfl ?_
                            refine wp_cSi hdd [_, _] (atd dX12_tell 96 rfl) iX12_lesser lX12_209 rfl rfl (Nat.le_of_ble_eq_true rfl) (eX12_lesser (by omega)) (fun r_181 s_181 h_181 => ?_)
                            obtain ⟨rfl, rfl⟩ := h_181
                            rw [lesM (by omega) (by omega)]
                            refine wp_cSi hdd [_, _] (atd dX12_tell 97 rfl) iX12_greater lX12_213 rfl rfl (Nat.le_of_ble_eq_true rfl) (eX12_greater (by omega)) (fun r_184 s_184 h_184 => ?_)
                            obtain ⟨rfl, rfl⟩ := h_184
                            rw [greM (by omega) (by omega)]
                            refine wp_istore (atd dX12_tell 98 rfl) (Nat.le_of_ble_eq_true rfl) ?_
                            refine wp_aload_n (atd dX12_tell 99 rfl) rfl rfl ?_
                            refine wp_get fX12_283 (atd dX12_tell 100 rfl) hM.1.1 (congrArg (fun z => some (Value.int z)) (rfl : _ = nI (mx a b))) ?_
                            refine wp_iload_n (atd dX12_tell 101 rfl) rfl ?_
                            refine wp_cSi hdd [_, _] (atd dX12_tell 102 rfl) iX12_greater lX12_213 rfl rfl (Nat.le_of_ble_eq_true rfl) (eX12_greater (by omega)) (fun r_194 s_194 h_194 => ?_)
                            obtain ⟨rfl, rfl⟩ := h_194
                            rw [greM (by omega) (by omega)]
                            refine wp_istore (atd dX12_tell 103 rfl) (Nat.le_of_ble_eq_true rfl) ?_
                            refine wp_aload_n (atd dX12_tell 104 rfl) rfl rfl ?_
                            refine wp_iload (atd dX12_tell 105 rfl) rfl ?_
                            refine wp_putM fX12_280 (atd dX12_tell 106 rfl) hM rfl (fun σ hM => ?_)
                            refine wp_aload_n (atd dX12_tell 107 rfl) rfl rfl ?_
                            refine wp_iload (atd dX12_tell 108 rfl) rfl ?_
                            refine wp_putM fX12_283 (atd dX12_tell 109 rfl) hM rfl (fun σ hM => ?_)
                            refine wp_aload_n (atd dX12_tell 110 rfl) rfl rfl ?_
                            refine wp_iload (atd dX12_tell 111 rfl) rfl ?_
                            refine wp_putM fX12_286 (atd dX12_tell 112 rfl) hM rfl (fun σ hM => ?_)
                            refine wp_aload_n (atd dX12_tell 113 rfl) rfl rfl ?_
                            refine wp_get fX12_277 (atd dX12_tell 114 rfl) hM.1.1 (congrArg (fun z => some (Value.int z)) (rfl : _ = nI 3)) ?_
                            refine wp_ireti (atd dX12_tell 115 rfl) rfl ?_
                            rw [tl_3 hn ha hb hc]
                            exact ⟨rfl, _, hM, ((((((((((frm.rf.up (by decide)).up (by decide)).up (by decide)).up (by decide)).up (by decide)).up (by decide)).up (by decide)).up (by decide)).up (by decide)).up (by decide)), rfl, fun h ρ z => by cases z; exact ⟨rfl, rfl, rfl⟩⟩
                  · exact absurd c_67 (by exact fun z => z (nI_m1 (by omega)))
                · exact absurd c_58 (by exact fun z => z (nI_m1 (by omega)))
              · exact absurd c_49 (by decide)
theorem eX12_tell {G : Gx} {d : Nat} {σ : Hp} (hd : 2 ≤ d) {m n : Nat} {α : Nat → Int32} {B : Nat → Nat → Int32} (hM : MA σ σ m α B) (hp : α 2 = nI n) (hn : n ≤ 9) {a b c : Int32} : Cl G mX12_tell d [.ref m, .int a, .int b, .int c] σ 0 0 (pI fun r s => r = nI (tlH (tlF n (a) (b) (c))) ∧ ∃ α1, MA σ s m α1 B ∧ frm [34, 35, 36, 37] α α1 ∧ Tld α1 (tlF n (a) (b) (c))) := by
  by_cases ha : isP a n
  · obtain ⟨a', ha', rfl⟩ := isP_of hn ha
    by_cases hb : b = -1
    · subst hb
      by_cases hc : c = -1
      · subst hc; exact eX12_tell1 hd hM hp hn ha'
      · exact eX12_tell1n hd hM hp hn ha' hc
    · by_cases hb2 : isP b n
      · obtain ⟨b', hb', rfl⟩ := isP_of hn hb2
        by_cases hc : c = -1
        · subst hc; exact eX12_tell2 hd hM hp hn ha' hb'
        · by_cases hc2 : isP c n
          · obtain ⟨c', hc', rfl⟩ := isP_of hn hc2
            exact eX12_tell3 hd hM hp hn ha' hb' hc'
          · exact eX12_tell3n hd hM hp hn ha' hb' hc hc2
      · exact eX12_tell2n hd hM hp hn ha' hb hb2
  · exact eX12_tell0 hd hM hp hn ha
/-- the number of a row -/
def rwi (F : List Row) (ρ : Row) : Nat := F.idxOf ρ
theorem mem_rwC {a b : Nat} : ∀ {k c : Nat} {ρ : Row}, ρ.1 = a → ρ.2.1 = b → c ≤ ρ.2.2 → ρ.2.2 < c + k → ρ ∈ rwC a b k c
  | 0, c, ρ, _, _, h1, h2 => absurd h2 (by omega)
  | k + 1, c, (x, y, z), h1, h2, h3, h4 => by
    by_cases e : z = c
    · cases h1; cases h2; subst e; exact List.mem_cons_self
    · exact List.mem_cons_of_mem _ (mem_rwC h1 h2 (by have h3' : c ≤ z := h3; show c + 1 ≤ z; omega) (by have h4' : z < c + (k + 1) := h4; show z < c + 1 + k; omega))
theorem mem_rwB {h n a : Nat} : ∀ {k b : Nat} {ρ : Row}, ρ.1 = a → b ≤ ρ.2.1 → ρ.2.1 < b + k → ρ.2.1 ≤ ρ.2.2 → ρ.2.2 < ceC h n ρ.2.1 → ρ ∈ rwB h n a k b
  | 0, b, ρ, _, h1, h2, _, _ => absurd h2 (by omega)
  | k + 1, b, (x, y, z), h1, h2, h3, h4, h5 => by
    by_cases e : y = b
    · subst e
      exact List.mem_append_left _ (mem_rwC h1 rfl h4 (by have h5' : z < ceC h n y := h5; have h4' : y ≤ z := h4; show z < y + (ceC h n y - y); omega))
    · exact List.mem_append_right _ (mem_rwB h1 (by have h3' : b ≤ y := h2; show b + 1 ≤ y; omega) (by have h4' : y < b + (k + 1) := h3; show y < b + 1 + k; omega) h4 h5)
theorem mem_rwA {h n : Nat} : ∀ {k a : Nat} {ρ : Row}, a ≤ ρ.1 → ρ.1 < a + k → ρ.1 ≤ ρ.2.1 → ρ.2.1 < ceB h n ρ.1 → ρ.2.1 ≤ ρ.2.2 → ρ.2.2 < ceC h n ρ.2.1 → ρ ∈ rwA h n k a
  | 0, a, ρ, h1, h2, _, _, _, _ => absurd h2 (by omega)
  | k + 1, a, (x, y, z), h1, h2, h3, h4, h5, h6 => by
    by_cases e : x = a
    · subst e
      exact List.mem_append_left _ (mem_rwB rfl h3 (by have h4' : y < ceB h n x := h4; have h3' : x ≤ y := h3; show y < x + (ceB h n x - x); omega) h5 h6)
    · exact List.mem_append_right _ (mem_rwA (by have h1' : a ≤ x := h1; show a + 1 ≤ x; omega) (by have h2' : x < a + (k + 1) := h2; show x < a + 1 + k; omega) h3 h4 h5 h6)
theorem mem_rowsL {h n : Nat} {ρ : Row} (h1 : ρ.1 ≤ ρ.2.1) (h2 : ρ.2.1 ≤ ρ.2.2) (h3 : ρ.2.2 < n) (hb : 1 < h ∨ ρ.1 = ρ.2.1) (hc : 2 < h ∨ ρ.2.1 = ρ.2.2) : ρ ∈ rowsL h n := by
  refine mem_rwA (Nat.zero_le _) (by omega) h1 ?_ h2 ?_
  · unfold ceB; split <;> omega
  · unfold ceC; split <;> omega
theorem tl_ok {n h : Nat} {ρ : Row} {a b c : Int32} (hn : n ≤ 9) (e : tlF n a b c = some (h, ρ)) : 1 ≤ h ∧ h ≤ 3 ∧ 1 ≤ n ∧ ρ ∈ rowsL h n := by
  unfold tlF at e
  split at e
  · rename_i ha
    obtain ⟨a, ha', rfl⟩ := isP_of hn ha
    rw [nI_clamp (by omega)] at e
    split at e
    · split at e
      · cases e
        exact ⟨by decide, by decide, by omega, mem_rowsL (Nat.le_refl _) (Nat.le_refl _) ha' (Or.inr rfl) (Or.inr rfl)⟩
      · cases e
    · split at e
      · rename_i hb
        obtain ⟨b, hb', rfl⟩ := isP_of hn hb
        rw [nI_clamp (by omega)] at e
        split at e
        · cases e
          exact ⟨by decide, by decide, by omega, mem_rowsL (show mn a b ≤ mx a b by unfold mn mx; split <;> split <;> omega) (Nat.le_refl _) (mx_lt ha' hb') (Or.inl (by decide)) (Or.inr rfl)⟩
        · split at e
          · rename_i hc
            obtain ⟨c, hc', rfl⟩ := isP_of hn hc
            rw [nI_clamp (by omega)] at e
            cases e
            refine ⟨by decide, by decide, by omega, mem_rowsL ?_ ?_ (mx_lt (mx_lt ha' hb') hc') (Or.inl (by decide)) (Or.inl (by decide))⟩
            · show mn (mn a b) c ≤ mx (mn a b) (mn (mx a b) c)
              unfold mn mx; repeat' split
              all_goals omega
            · show mx (mn a b) (mn (mx a b) c) ≤ mx (mx a b) c
              unfold mn mx; repeat' split
              all_goals omega
          · cases e
      · cases e
  · cases e
theorem rwi_lt {F : List Row} {ρ : Row} (h : ρ ∈ F) : rwi F ρ < F.length := List.idxOf_lt_length_iff.mpr h
theorem rwi_at {F : List Row} {ρ : Row} (h : ρ ∈ F) : rowAt F (rwi F ρ) = ρ := by
  unfold rowAt
  rw [List.getD, List.getElem?_eq_getElem (rwi_lt h)]
  exact List.getElem_idxOf (rwi_lt h)
theorem rwi_ne : ∀ {F : List Row} {ρ : Row} {i : Nat}, i < rwi F ρ → rowAt F i ≠ ρ
  | [], ρ, i, h => absurd h (by simp [rwi])
  | x :: F, ρ, i, h => by
    intro e
    by_cases hx : x = ρ
    · subst hx
      simp [rwi, List.idxOf_cons_self] at h
    · cases i with
      | zero => exact hx e
      | succ i =>
        have h2 : rwi (x :: F) ρ = rwi F ρ + 1 := by have hb : (x == ρ) = false := beq_eq_false_iff_ne.mpr hx; simp [rwi, List.idxOf_cons, hb]
        exact rwi_ne (F := F) (ρ := ρ) (i := i) (by omega) e
theorem lX12_rowTold {G : Gx} {d : Nat} {σ : Hp} {m h n : Nat} {α : Nat → Int32} {B : Nat → Nat → Int32} {ρ : Row} (hM : MA σ σ m α B) (hh : h ≤ 3) (hn : n ≤ 9) (hR : RW B (rowsL h n) h) (hρ : ρ ∈ rowsL h n) (h34 : α 34 = nI ρ.1) (h35 : α 35 = nI ρ.2.1) (h36 : α 36 = nI ρ.2.2) : ∀ (k : Nat) (i : Nat), i + k = rwi (rowsL h n) ρ → Wp G mX12_rowTold d 2 [.ref m, .int (nI i)] [] σ 0 0 (pI fun r s => r = nI (rwi (rowsL h n) ρ) ∧ s = σ) := by
  intro k
  induction k with
  | zero =>
    intro i hi
    have hl := rwi_lt hρ
    have hl9 := rowsL_len n (by omega) h (by omega)
    have hRi := (hR i (by omega)).1
    have hin := rowsL_in hn hh i (by omega)
    have g0 := hin 0 (by decide)
    have g1 := hin 1 (by decide)
    have g2 := hin 2 (by decide)
    have ok := rowsL_ok n (by omega) h (by omega) ρ hρ
    have ei : i = rwi (rowsL h n) ρ := by omega
    have er : rowAt (rowsL h n) i = ρ := by rw [ei]; exact rwi_at hρ
    refine wp_aload_n (atd dX12_rowTold 2 rfl) rfl rfl ?_
    refine wp_get fX12_35 (atd dX12_rowTold 3 rfl) hM.1.1 rfl ?_
    refine wp_iconst (v := nI 3) (atd dX12_rowTold 4 rfl) (by decide) ?_
    refine wp_iload_n (atd dX12_rowTold 5 rfl) rfl ?_
    refine wp_imulN (atd dX12_rowTold 6 rfl) ?_
    refine wp_ialdN (atd dX12_rowTold 7 rfl) hM.a7 (show _ < 495 from by omega) (Nat.le_of_ble_eq_true rfl) ?_
    rw [show B 7 (3 * i) = nI (rk (rowAt (rowsL h n) i) 0) from hRi 0 (by decide)]
    refine wp_aload_n (atd dX12_rowTold 8 rfl) rfl rfl ?_
    refine wp_get fX12_280 (atd dX12_rowTold 9 rfl) hM.1.1 (congrArg (fun z => some (Value.int z)) h34) ?_
    refine wp_icmpN_ne (tgt := 51) (atd dX12_rowTold 10 rfl) (by decide) (by omega) (by omega) (fun c_14 => ?_) (fun c_14 => ?_)
    · exact absurd (show rk (rowAt (rowsL h n) i) 0 = ρ.1 by rw [er]; rfl) c_14
    ·
      refine wp_aload_n (atd dX12_rowTold 11 rfl) rfl rfl ?_
      refine wp_get fX12_35 (atd dX12_rowTold 12 rfl) hM.1.1 rfl ?_
      refine wp_iconst (v := nI 3) (atd dX12_rowTold 13 rfl) (by decide) ?_
      refine wp_iload_n (atd dX12_rowTold 14 rfl) rfl ?_
      refine wp_imulN (atd dX12_rowTold 15 rfl) ?_
      refine wp_iconst (v := nI 1) (atd dX12_rowTold 16 rfl) (by decide) ?_
      refine wp_iaddN (atd dX12_rowTold 17 rfl) ?_
      refine wp_ialdN (atd dX12_rowTold 18 rfl) hM.a7 (show _ < 495 from by omega) (Nat.le_of_ble_eq_true rfl) ?_
      rw [hRi 1 (by decide)]
      refine wp_aload_n (atd dX12_rowTold 19 rfl) rfl rfl ?_
      refine wp_get fX12_283 (atd dX12_rowTold 20 rfl) hM.1.1 (congrArg (fun z => some (Value.int z)) h35) ?_
      refine wp_icmpN_ne (tgt := 51) (atd dX12_rowTold 21 rfl) (by decide) (by omega) (by omega) (fun c_31 => ?_) (fun c_31 => ?_)
      · exact absurd (show rk (rowAt (rowsL h n) i) 1 = ρ.2.1 by rw [er]; rfl) c_31
      ·
        refine wp_aload_n (atd dX12_rowTold 22 rfl) rfl rfl ?_
        refine wp_get fX12_35 (atd dX12_rowTold 23 rfl) hM.1.1 rfl ?_
        refine wp_iconst (v := nI 3) (atd dX12_rowTold 24 rfl) (by decide) ?_
        refine wp_iload_n (atd dX12_rowTold 25 rfl) rfl ?_
        refine wp_imulN (atd dX12_rowTold 26 rfl) ?_
        refine wp_iconst (v := nI 2) (atd dX12_rowTold 27 rfl) (by decide) ?_
        refine wp_iaddN (atd dX12_rowTold 28 rfl) ?_
        refine wp_ialdN (atd dX12_rowTold 29 rfl) hM.a7 (show _ < 495 from by omega) (Nat.le_of_ble_eq_true rfl) ?_
        rw [hRi 2 (by decide)]
        refine wp_aload_n (atd dX12_rowTold 30 rfl) rfl rfl ?_
        refine wp_get fX12_286 (atd dX12_rowTold 31 rfl) hM.1.1 (congrArg (fun z => some (Value.int z)) h36) ?_
        refine wp_icmpN_eq (tgt := 57) (atd dX12_rowTold 32 rfl) (by decide) (by omega) (by omega) (fun c_48 => ?_) (fun c_48 => ?_)
        ·
          refine wp_iload_n (atd dX12_rowTold 35 rfl) rfl ?_
          refine wp_ireti (atd dX12_rowTold 36 rfl) rfl ?_
          exact ⟨by rw [ei], rfl⟩
        · exact absurd (show rk (rowAt (rowsL h n) i) 2 = ρ.2.2 by rw [er]; rfl) c_48
  | succ k ih =>
    intro i hi
    have hl := rwi_lt hρ
    have hl9 := rowsL_len n (by omega) h (by omega)
    have hRi := (hR i (by omega)).1
    have hin := rowsL_in hn hh i (by omega)
    have g0 := hin 0 (by decide)
    have g1 := hin 1 (by decide)
    have g2 := hin 2 (by decide)
    have ok := rowsL_ok n (by omega) h (by omega) ρ hρ
    have er : rowAt (rowsL h n) i ≠ ρ := rwi_ne (by omega)
    refine wp_aload_n (atd dX12_rowTold 2 rfl) rfl rfl ?_
    refine wp_get fX12_35 (atd dX12_rowTold 3 rfl) hM.1.1 rfl ?_
    refine wp_iconst (v := nI 3) (atd dX12_rowTold 4 rfl) (by decide) ?_
    refine wp_iload_n (atd dX12_rowTold 5 rfl) rfl ?_
    refine wp_imulN (atd dX12_rowTold 6 rfl) ?_
    refine wp_ialdN (atd dX12_rowTold 7 rfl) hM.a7 (show _ < 495 from by omega) (Nat.le_of_ble_eq_true rfl) ?_
    rw [show B 7 (3 * i) = nI (rk (rowAt (rowsL h n) i) 0) from hRi 0 (by decide)]
    refine wp_aload_n (atd dX12_rowTold 8 rfl) rfl rfl ?_
    refine wp_get fX12_280 (atd dX12_rowTold 9 rfl) hM.1.1 (congrArg (fun z => some (Value.int z)) h34) ?_
    refine wp_icmpN_ne (tgt := 51) (atd dX12_rowTold 10 rfl) (by decide) (by omega) (by omega) (fun c_14 => ?_) (fun c_14 => ?_)
    ·
      refine wp_iincN (c := 1) (atd dX12_rowTold 33 rfl) rfl ?_
      refine wp_goto (tgt := 2) (atd dX12_rowTold 34 rfl) (by decide) ?_
      exact ih (i + 1) (by omega)
    ·
      refine wp_aload_n (atd dX12_rowTold 11 rfl) rfl rfl ?_
      refine wp_get fX12_35 (atd dX12_rowTold 12 rfl) hM.1.1 rfl ?_
      refine wp_iconst (v := nI 3) (atd dX12_rowTold 13 rfl) (by decide) ?_
      refine wp_iload_n (atd dX12_rowTold 14 rfl) rfl ?_
      refine wp_imulN (atd dX12_rowTold 15 rfl) ?_
      refine wp_iconst (v := nI 1) (atd dX12_rowTold 16 rfl) (by decide) ?_
      refine wp_iaddN (atd dX12_rowTold 17 rfl) ?_
      refine wp_ialdN (atd dX12_rowTold 18 rfl) hM.a7 (show _ < 495 from by omega) (Nat.le_of_ble_eq_true rfl) ?_
      rw [hRi 1 (by decide)]
      refine wp_aload_n (atd dX12_rowTold 19 rfl) rfl rfl ?_
      refine wp_get fX12_283 (atd dX12_rowTold 20 rfl) hM.1.1 (congrArg (fun z => some (Value.int z)) h35) ?_
      refine wp_icmpN_ne (tgt := 51) (atd dX12_rowTold 21 rfl) (by decide) (by omega) (by omega) (fun c_31 => ?_) (fun c_31 => ?_)
      ·
        refine wp_iincN (c := 1) (atd dX12_rowTold 33 rfl) rfl ?_
        refine wp_goto (tgt := 2) (atd dX12_rowTold 34 rfl) (by decide) ?_
        exact ih (i + 1) (by omega)
      ·
        refine wp_aload_n (atd dX12_rowTold 22 rfl) rfl rfl ?_
        refine wp_get fX12_35 (atd dX12_rowTold 23 rfl) hM.1.1 rfl ?_
        refine wp_iconst (v := nI 3) (atd dX12_rowTold 24 rfl) (by decide) ?_
        refine wp_iload_n (atd dX12_rowTold 25 rfl) rfl ?_
        refine wp_imulN (atd dX12_rowTold 26 rfl) ?_
        refine wp_iconst (v := nI 2) (atd dX12_rowTold 27 rfl) (by decide) ?_
        refine wp_iaddN (atd dX12_rowTold 28 rfl) ?_
        refine wp_ialdN (atd dX12_rowTold 29 rfl) hM.a7 (show _ < 495 from by omega) (Nat.le_of_ble_eq_true rfl) ?_
        rw [hRi 2 (by decide)]
        refine wp_aload_n (atd dX12_rowTold 30 rfl) rfl rfl ?_
        refine wp_get fX12_286 (atd dX12_rowTold 31 rfl) hM.1.1 (congrArg (fun z => some (Value.int z)) h36) ?_
        refine wp_icmpN_eq (tgt := 57) (atd dX12_rowTold 32 rfl) (by decide) (by omega) (by omega) (fun c_48 => ?_) (fun c_48 => ?_)
        · exact absurd (Prod.ext c_14 (Prod.ext c_31 c_48)) er
        ·
          refine wp_iincN (c := 1) (atd dX12_rowTold 33 rfl) rfl ?_
          refine wp_goto (tgt := 2) (atd dX12_rowTold 34 rfl) (by decide) ?_
          exact ih (i + 1) (by omega)
theorem eX12_rowTold {G : Gx} {d : Nat} {σ : Hp} (hd : 0 ≤ d) {m h n : Nat} {α : Nat → Int32} {B : Nat → Nat → Int32} {ρ : Row} (hM : MA σ σ m α B) (hh : h ≤ 3) (hn : n ≤ 9) (hR : RW B (rowsL h n) h) (hρ : ρ ∈ rowsL h n) (h34 : α 34 = nI ρ.1) (h35 : α 35 = nI ρ.2.1) (h36 : α 36 = nI ρ.2.2) : Cl G mX12_rowTold d [.ref m] σ 0 0 (pI fun r s => r = nI (rwi (rowsL h n) ρ) ∧ s = σ) := by
  refine cl_of (by decide) (by simp [Value.category]) (Nat.le_of_ble_eq_true rfl) ?_
  show Wp G mX12_rowTold d 0 [.ref m, .double 0] [] σ 0 0 _
  refine wp_iconst (v := nI 0) (atd dX12_rowTold 0 rfl) (by decide) ?_
  refine wp_istore_n (atd dX12_rowTold 1 rfl) (Nat.le_of_ble_eq_true rfl) ?_
  exact lX12_rowTold hM hh hn hR hρ h34 h35 h36 (rwi (rowsL h n) ρ) 0 (by omega)
def suG (w : Nat → Option Nat) (p s : Nat) : Nat := s ||| (if w p = none then 0 else 2 ^ p)
noncomputable def surF (nb : Nat → Nat) (n kd : Nat) (t : Option (Nat × Row)) : Int32 := match t with
  | none => -1
  | some x => nI (fl (suG (slvF nb n x.1 kd (rwi (rowsL x.1 n) x.2))) n 0 0)
theorem GOk.cg {α α1 : Nat → Int32} {B : Nat → Nat → Int32} {nb : Nat → Nat} {n : Nat} (h : GOk α B nb n) (h1 : α1 19 = α 19) (h2 : α1 20 = α 20) (h3 : α1 32 = α 32) (h4 : α1 33 = α 33) : GOk α1 B nb n := by
  unfold GOk GSol at h ⊢
  rw [h1, h2, h3, h4]
  exact h
/-- the state behind an asking of games -/
def GY (σ s : Hp) (m : Nat) (α : Nat → Int32) (B : Nat → Nat → Int32) (nb : Nat → Nat) (n : Nat) : Prop := ∃ α1 B1, MA σ s m α1 B1 ∧ frm [0, 19, 20, 32, 33, 34, 35, 36, 37, 38] α α1 ∧ frm [7, 9, 10, 11, 12] B B1 ∧ α1 0 = nI 0 ∧ GOk α1 B1 nb n
theorem lX12_sure {G : Gx} {d : Nat} {σ : Hp} {m n i R : Nat} {α : Nat → Int32} {B : Nat → Nat → Int32} {w : Wo} {X : Nat} (hM : MA σ σ m α B) (hp : α 2 = nI n) (hn : n ≤ 9) (hR9 : R ≤ 165) (hi : i < R) (hWT : WT B 10 w R n) (hWB : WB w R n X) (hX : X < 100000) {e1 e2 e3 e4 : Value} {v : Nat} : ∀ (k : Nat) (p s : Nat), p + k = n → fl (suG (w i)) k p s = v → Wp G mX12_sure d 48 [.ref m, e1, e2, e3, e4, .int (nI i), .int (nI s), .int (nI p)] [] σ 0 0 (pI fun r s => r = nI v ∧ s = σ) := by
  intro k
  induction k with
  | zero =>
    intro p s h2 hv
    refine wp_iload (atd dX12_sure 28 rfl) rfl ?_
    refine wp_aload_n (atd dX12_sure 29 rfl) rfl rfl ?_
    refine wp_get fX12_78 (atd dX12_sure 30 rfl) hM.1.1 (congrArg (fun z => some (Value.int z)) hp) ?_
    refine wp_icmpN_ge (tgt := 92) (atd dX12_sure 31 rfl) (by decide) (by omega) (by omega) (fun c_54 => ?_) (fun c_54 => ?_)
    ·
      refine wp_iload (atd dX12_sure 51 rfl) rfl ?_
      refine wp_ireti (atd dX12_sure 52 rfl) rfl ?_
      exact ⟨by rw [← hv]; rfl, rfl⟩
    · exfalso; omega
  | succ k ih =>
    intro p s h2 hv
    refine wp_iload (atd dX12_sure 28 rfl) rfl ?_
    refine wp_aload_n (atd dX12_sure 29 rfl) rfl rfl ?_
    refine wp_get fX12_78 (atd dX12_sure 30 rfl) hM.1.1 (congrArg (fun z => some (Value.int z)) hp) ?_
    refine wp_icmpN_ge (tgt := 92) (atd dX12_sure 31 rfl) (by decide) (by omega) (by omega) (fun c_54 => ?_) (fun c_54 => ?_)
    · exfalso; omega
    ·
      refine wp_iload (atd dX12_sure 32 rfl) rfl ?_
      refine wp_aload_n (atd dX12_sure 33 rfl) rfl rfl ?_
      refine wp_get fX12_45 (atd dX12_sure 34 rfl) hM.1.1 rfl ?_
      refine wp_bipush (v := nI 9) (atd dX12_sure 35 rfl) (by decide) ?_
      refine wp_iload (atd dX12_sure 36 rfl) rfl ?_
      refine wp_imulN (atd dX12_sure 37 rfl) ?_
      refine wp_iload (atd dX12_sure 38 rfl) rfl ?_
      refine wp_iaddN (atd dX12_sure 39 rfl) ?_
      refine wp_ialdN (atd dX12_sure 40 rfl) hM.a10 (show _ < 1485 from by omega) (Nat.le_of_ble_eq_true rfl) ?_
      rw [hWT i p hi (by omega)]
      generalize hx : w i p = xx; rcases xx with _ | x
      ·
        refine wp_if_lt (tgt := 82) (atd dX12_sure 41 rfl) (by decide) (fun c_72 => ?_) (fun c_72 => ?_)
        ·
          refine wp_iconst (v := nI 0) (atd dX12_sure 46 rfl) (by decide) ?_
          refine wp_iorN (atd dX12_sure 47 rfl) ?_
          refine wp_istore (atd dX12_sure 48 rfl) (Nat.le_of_ble_eq_true rfl) ?_
          refine wp_iincN (c := 1) (atd dX12_sure 49 rfl) rfl ?_
          refine wp_goto (tgt := 48) (atd dX12_sure 50 rfl) (by decide) ?_
          exact ih (p + 1) _ (by omega) (by rw [← hv]; simp [fl, suG, hx])
        · exact absurd (by decide) c_72
      ·
        have hx9 := hWB i p x hi (by omega) hx
        refine wp_ifN_lt (tgt := 82) (atd dX12_sure 41 rfl) (by decide) (by omega) ?_
        refine wp_iconst (v := nI 1) (atd dX12_sure 42 rfl) (by decide) ?_
        refine wp_iload (atd dX12_sure 43 rfl) rfl ?_
        refine wp_ishl1 (atd dX12_sure 44 rfl) (by omega) ?_
        refine wp_goto (tgt := 83) (atd dX12_sure 45 rfl) (by decide) ?_
        refine wp_iorN (atd dX12_sure 47 rfl) ?_
        refine wp_istore (atd dX12_sure 48 rfl) (Nat.le_of_ble_eq_true rfl) ?_
        refine wp_iincN (c := 1) (atd dX12_sure 49 rfl) rfl ?_
        refine wp_goto (tgt := 48) (atd dX12_sure 50 rfl) (by decide) ?_
        exact ih (p + 1) _ (by omega) (by rw [← hv]; simp [fl, suG, hx])
theorem eX12_sure {G : Gx} {d : Nat} {σ : Hp} (hd : 7 ≤ d) {m n : Nat} {α : Nat → Int32} {B : Nat → Nat → Int32} {nb : Nat → Nat} (hM : MA σ σ m α B) (hp : α 2 = nI n) (hn : n ≤ 9) (hb : ∀ p, p < n → B 1 p = nI (nb p)) (hw : ∀ p, nb p < 512) (ho : ∀ j, j < 18 → B 8 j = nI (ordT j)) (hG : GOk α B nb n) {k a b c : Int32} : Cl G mX12_sure d [.ref m, .int k, .int a, .int b, .int c] σ 0 0 (pI fun r s => r = atP k 3 (fun kd => surF nb n kd (tlF n a b c)) (-1) ∧ GY σ s m α B nb n) := by
  obtain ⟨d0, hdd⟩ : ∃ e, d = e + 1 := ⟨d - 1, by omega⟩
  refine cl_of (by decide) (by simp [Value.category]) (Nat.le_of_ble_eq_true rfl) ?_
  show Wp G mX12_sure d 0 [.ref m, .int k, .int a, .int b, .int c, .double 0, .double 0, .double 0] [] σ 0 0 _
  refine wp_aload_n (atd dX12_sure 0 rfl) rfl rfl ?_
  refine wp_iconst (v := nI 0) (atd dX12_sure 1 rfl) (by decide) ?_
  refine wp_putM fX12_75 (atd dX12_sure 2 rfl) hM rfl (fun σ hM => ?_)
  refine wp_iload_n (atd dX12_sure 3 rfl) rfl ?_
  refine wp_iconst (v := nI 0) (atd dX12_sure 4 rfl) (by decide) ?_
  refine wp_iconst (v := nI 2) (atd dX12_sure 5 rfl) (by decide) ?_
  refine wp_cSi hdd [_, _, _] (atd dX12_sure 6 rfl) iX12_in lX12_81 rfl rfl (Nat.le_of_ble_eq_true rfl) (eX12_in (by omega)) (fun r_8 s_8 h_8 => ?_)
  obtain ⟨rfl, rfl⟩ := h_8
  rw [bI_c (isP_le (by omega))]
  refine wp_ifB_eq (tgt := 25) (atd dX12_sure 7 rfl) (by decide) (fun c_11 => ?_) (fun c_11 => ?_)
  ·
    refine wp_iconst (v := -1) (atd dX12_sure 14 rfl) (by decide) ?_
    refine wp_ireti (atd dX12_sure 15 rfl) rfl ?_
    exact ⟨by rw [atP_f c_11], _, B, hM, frm.rf.up (by decide), frm.rf, rfl, hG⟩
  ·
    obtain ⟨kd, hkd, rfl⟩ := isP_ofB c_11
    refine wp_aload_n (atd dX12_sure 8 rfl) rfl rfl ?_
    refine wp_iload_n (atd dX12_sure 9 rfl) rfl ?_
    refine wp_iload_n (atd dX12_sure 10 rfl) rfl ?_
    refine wp_iload (atd dX12_sure 11 rfl) rfl ?_
    refine wp_cVi hdd [_, _, _] (atd dX12_sure 12 rfl) iX12_tell lX12_289 rfl rfl (Nat.le_of_ble_eq_true rfl) hM.1.1 rfl (eX12_tell (by omega) hM.self hp hn) (fun r_19 s_19 h_19 => ?_)
    obtain ⟨rfl, α1, hM1, hfa1, hT⟩ := h_19
    have hM := hM.trans hM1
    generalize ht : tlF n a b c = t; rcases t with _ | ⟨h, ρ⟩
    ·
      rw [show nI (tlH none) = nI 0 from rfl]
      refine wp_ifN_ne (tgt := 27) (atd dX12_sure 13 rfl) (by decide) (by omega) (fun c_22 => ?_) (fun c_22 => ?_)
      · exact absurd c_22 (by decide)
      ·
        refine wp_iconst (v := -1) (atd dX12_sure 14 rfl) (by decide) ?_
        refine wp_ireti (atd dX12_sure 15 rfl) rfl ?_
        exact ⟨by rw [atP_t (by decide) hkd]; rfl, α1, B, hM, frm_sub (frm.up (f := α) (frm.rf (S := [0])) (by decide)) hfa1 (by decide) (by decide), frm.rf, (hfa1 0 (by decide)).trans rfl, hG.cg (hfa1 19 (by decide)) (hfa1 20 (by decide)) (hfa1 32 (by decide)) (hfa1 33 (by decide))⟩
    ·
      rw [ht] at hT
      have hok := tl_ok hn ht
      obtain ⟨hh1, hh, hn1, hρ⟩ := hok
      obtain ⟨hT1, hT2⟩ := hT
      have hT2 := hT2 h ρ rfl
      rw [show nI (tlH (some (h, ρ))) = nI h from rfl]
      refine wp_ifN_ne (tgt := 27) (atd dX12_sure 13 rfl) (by decide) (by omega) (fun c_22 => ?_) (fun c_22 => ?_)
      ·
        have hp1 : α1 2 = nI n := (hfa1 2 (by decide)).trans hp
        have hG1 : GOk α1 B nb n := hG.cg (hfa1 19 (by decide)) (hfa1 20 (by decide)) (hfa1 32 (by decide)) (hfa1 33 (by decide))
        refine wp_aload_n (atd dX12_sure 16 rfl) rfl rfl ?_
        refine wp_iload_n (atd dX12_sure 17 rfl) rfl ?_
        refine wp_aload_n (atd dX12_sure 18 rfl) rfl rfl ?_
        refine wp_get fX12_277 (atd dX12_sure 19 rfl) hM.1.1 (congrArg (fun z => some (Value.int z)) hT1) ?_
        refine wp_cVv hdd [_, _] (atd dX12_sure 20 rfl) iX12_solve lX12_265 rfl rfl (Nat.le_of_ble_eq_true rfl) hM.1.1 rfl (eX12_solve (by omega) hM.self hp1 hn hb hw ho hG1 hkd hh1 hh) (fun s_33 h_33 => ?_)
        obtain ⟨α2, B1, hM2, hfa2, hfb1, k19, k20, hGS⟩ := h_33
        have hM := hM.trans hM2
        have hR9 := rowsL_len n (by omega) h (by omega)
        have hp2 : α2 2 = nI n := (hfa2 2 (by decide)).trans hp1
        refine wp_aload_n (atd dX12_sure 21 rfl) rfl rfl ?_
        refine wp_cVi hdd [] (atd dX12_sure 22 rfl) iX12_rowTold lX12_292 rfl rfl (Nat.le_of_ble_eq_true rfl) hM.1.1 rfl (eX12_rowTold (by omega) hM.self hh hn hGS.2.2.1 hρ ((hfa2 34 (by decide)).trans hT2.1) ((hfa2 35 (by decide)).trans hT2.2.1) ((hfa2 36 (by decide)).trans hT2.2.2)) (fun r_37 s_37 h_37 => ?_)
        obtain ⟨rfl, rfl⟩ := h_37
        refine wp_istore (atd dX12_sure 23 rfl) (Nat.le_of_ble_eq_true rfl) ?_
        refine wp_iconst (v := nI 0) (atd dX12_sure 24 rfl) (by decide) ?_
        refine wp_istore (atd dX12_sure 25 rfl) (Nat.le_of_ble_eq_true rfl) ?_
        refine wp_iconst (v := nI 0) (atd dX12_sure 26 rfl) (by decide) ?_
        refine wp_istore (atd dX12_sure 27 rfl) (Nat.le_of_ble_eq_true rfl) ?_
        refine wp_post (lX12_sure (v := fl (suG (slvF nb n h kd (rwi (rowsL h n) ρ))) n 0 0) hM.self hp2 hn hR9 (rwi_lt hρ) hGS.2.2.2.2.1 hGS.2.2.2.2.2.2 (by omega) n 0 0 (by omega) rfl) ?_
        rintro v s ⟨r, rfl, rfl, rfl⟩
        exact ⟨_, rfl, by rw [atP_t (by decide) hkd]; rfl, ⟨α2, B1, hM, frm_sub (frm_sub (U := [0, 34, 35, 36, 37]) (frm.up (f := α) (frm.rf (S := [0])) (by decide)) hfa1 (by decide) (by decide)) hfa2 (by decide) (by decide), hfb1, (hfa2 0 (by decide)).trans ((hfa1 0 (by decide)).trans rfl), Or.inr ⟨kd, h, hkd, hh1, hh, k19, k20, hGS⟩⟩⟩
      · exfalso; omega
