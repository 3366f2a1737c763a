/-! rows of hunters -/
abbrev Row : Type := Nat × Nat × Nat
def rwC (a b : Nat) : Nat → Nat → List Row
  | 0, _ => []
  | k + 1, c => (a, b, c) :: rwC a b k (c + 1)
def ceC (h n b : Nat) : Nat := if 2 < h then n else b + 1
def ceB (h n a : Nat) : Nat := if 1 < h then n else a + 1
def rwB (h n a : Nat) : Nat → Nat → List Row
  | 0, _ => []
  | k + 1, b => rwC a b (ceC h n b - b) b ++ rwB h n a k (b + 1)
def rwA (h n : Nat) : Nat → Nat → List Row
  | 0, _ => []
  | k + 1, a => rwB h n a (ceB h n a - a) a ++ rwA h n k (a + 1)
def rowsL (h n : Nat) : List Row := rwA h n n 0
theorem rowsL_len : ∀ n, n < 10 → ∀ h, h < 4 → (rowsL h n).length ≤ 165 := by decide +kernel
theorem rowsL_ok : ∀ n, n < 10 → ∀ h, h < 4 → ∀ r ∈ rowsL h n, r.1 < n ∧ r.2.1 < n ∧ r.2.2 < n ∧ r.1 ≤ r.2.1 ∧ r.2.1 ≤ r.2.2 := by decide +kernel
def rk (r : Row) (k : Nat) : Nat := match k with
  | 0 => r.1
  | 1 => r.2.1
  | _ => r.2.2
def std (h : Nat) (r : Row) : Nat := (2 ^ r.1 ||| (if 1 < h then 2 ^ r.2.1 else 0)) ||| (if 2 < h then 2 ^ r.2.2 else 0)
def rowAt (F : List Row) (i : Nat) : Row := F.getD i (0, 0, 0)
def RW (B : Nat → Nat → Int32) (F : List Row) (h : Nat) : Prop := ∀ i, i < F.length → (∀ k, k < 3 → B 7 (3 * i + k) = nI (rk (rowAt F i) k)) ∧ B 12 i = nI (std h (rowAt F i))
def rowPut (B : Nat → Nat → Int32) (k a b c s : Nat) : Nat → Nat → Int32 := va_up (va_up (va_up (va_up B 7 (upd (B 7) (3 * k) (nI a))) 7 (upd (va_up B 7 (upd (B 7) (3 * k) (nI a)) 7) (3 * k + 1) (nI b))) 7 (upd (va_up (va_up B 7 (upd (B 7) (3 * k) (nI a))) 7 (upd (va_up B 7 (upd (B 7) (3 * k) (nI a)) 7) (3 * k + 1) (nI b)) 7) (3 * k + 2) (nI c))) 12 (upd (B 12) k (nI s))
theorem RW.push {B : Nat → Nat → Int32} {F : List Row} {h a b c : Nat} (hR : RW B F h) : RW (rowPut B F.length a b c (std h (a, b, c))) (F ++ [(a, b, c)]) h := by
  intro i hi
  rw [List.length_append, List.length_singleton] at hi
  by_cases e : i = F.length
  · have er : rowAt (F ++ [(a, b, c)]) i = (a, b, c) := by simp [rowAt, e]
    rw [er]
    refine ⟨fun k hk => ?_, ?_⟩
    · show upd (upd (upd (B 7) (3 * F.length) (nI a)) (3 * F.length + 1) (nI b)) (3 * F.length + 2) (nI c) (3 * i + k) = _
      rcases (show k = 0 ∨ k = 1 ∨ k = 2 by omega) with rfl | rfl | rfl
      · simp [upd, e, rk]
      · simp [upd, e, rk]
      · simp [upd, e, rk]
    · show upd (B 12) F.length (nI (std h (a, b, c))) i = _
      simp [upd, e]
  · have hi' : i < F.length := by omega
    have er : rowAt (F ++ [(a, b, c)]) i = rowAt F i := by simp [rowAt, List.getD, List.getElem?_append_left hi']
    rw [er]
    refine ⟨fun k hk => ?_, ?_⟩
    · show upd (upd (upd (B 7) (3 * F.length) (nI a)) (3 * F.length + 1) (nI b)) (3 * F.length + 2) (nI c) (3 * i + k) = _
      have h0 : 3 * i + k ≠ 3 * F.length := by omega
      have h1 : 3 * i + k ≠ 3 * F.length + 1 := by omega
      have h2 : 3 * i + k ≠ 3 * F.length + 2 := by omega
      simp only [upd, if_neg h0, if_neg h1, if_neg h2]
      exact (hR i hi').1 k hk
    · show upd (B 12) F.length (nI (std h (a, b, c))) i = _
      simp only [upd, if_neg e]
      exact (hR i hi').2
theorem rowPut_frm {B0 B : Nat → Nat → Int32} {k a b c s : Nat} (hf : frm [7, 12] B0 B) : frm [7, 12] B0 (rowPut B k a b c s) := (((hf.va (by decide)).va (by decide)).va (by decide)).va (by decide)
theorem lX12_layRows1 {G : Gx} {d : Nat} {Q : Option Value → Hp → Prop} {σ0 : Hp} {m n h : Nat} {α0 : Nat → Int32} {B0 : Nat → Nat → Int32} (hn : n ≤ 9) (hh : h ≤ 3) (hp0 : α0 2 = nI n) {a b : Nat} {FF : List Row} (ha : a < n) (hb : b < n) (hlen : FF.length ≤ 165) {X : List Row} (hk : ∀ (σ : Hp) (α : Nat → Int32) (B : Nat → Nat → Int32) (F : List Row) (e4 : Value), MA σ0 σ m α B → frm [32, 33] α0 α → frm [7, 12] B0 B → α 33 = nI h → α 32 = nI F.length → RW B F h → F ++ X = FF → Wp G mX12_layRows d 160 [.ref m, .int (nI h), .int (nI a), .int (nI b), e4] [] σ 0 0 Q) : ∀ (k : Nat) (σ : Hp) (α : Nat → Int32) (B : Nat → Nat → Int32) (F : List Row) (c : Nat), MA σ0 σ m α B → frm [32, 33] α0 α → frm [7, 12] B0 B → α 33 = nI h → α 32 = nI F.length → RW B F h → F ++ (rwC a b k c ++ X) = FF → c + k = ceC h n b → b ≤ c → Wp G mX12_layRows d 44 [.ref m, .int (nI h), .int (nI a), .int (nI b), .int (nI c)] [] σ 0 0 Q := by
  intro k
  induction k with
  | zero =>
    intro σ α B F c hM hfa hfb h33 h32 hR hF hc hbc
    have hp : α 2 = nI n := (hfa 2 (by decide)).trans hp0
    refine wp_iload (atd dX12_layRows 27 rfl) rfl ?_
    refine wp_iload_n (atd dX12_layRows 28 rfl) rfl ?_
    refine wp_iconst (v := nI 2) (atd dX12_layRows 29 rfl) (by decide) ?_
    refine wp_icmpN_le (tgt := 58) (atd dX12_layRows 30 rfl) (by decide) (by omega) (by omega) (fun c_48 => ?_) (fun c_48 => ?_)
    ·
      have hce : ceC h n b = b + 1 := if_neg (by omega)
      refine wp_iload_n (atd dX12_layRows 34 rfl) rfl ?_
      refine wp_iconst (v := nI 1) (atd dX12_layRows 35 rfl) (by decide) ?_
      refine wp_iaddN (atd dX12_layRows 36 rfl) ?_
      refine wp_icmpN_ge (tgt := 160) (atd dX12_layRows 37 rfl) (by decide) (by omega) (by omega) (fun c_61 => ?_) (fun c_61 => ?_)
      ·
        exact hk _ _ _ F _ hM hfa hfb h33 h32 hR hF
      · exfalso; omega
    ·
      have hce : ceC h n b = n := if_pos (by omega)
      refine wp_aload_n (atd dX12_layRows 31 rfl) rfl rfl ?_
      refine wp_get fX12_78 (atd dX12_layRows 32 rfl) hM.1.1 (congrArg (fun z => some (Value.int z)) hp) ?_
      refine wp_goto (tgt := 61) (atd dX12_layRows 33 rfl) (by decide) ?_
      refine wp_icmpN_ge (tgt := 160) (atd dX12_layRows 37 rfl) (by decide) (by omega) (by omega) (fun c_61 => ?_) (fun c_61 => ?_)
      ·
        exact hk _ _ _ F _ hM hfa hfb h33 h32 hR hF
      · exfalso; omega
  | succ k ih =>
    intro σ α B F c hM hfa hfb h33 h32 hR hF hc hbc
    have hp : α 2 = nI n := (hfa 2 (by decide)).trans hp0
    have hFl : F.length < 165 := by
      have := congrArg List.length hF
      simp only [List.length_append, rwC, List.length_cons] at this
      omega
    refine wp_iload (atd dX12_layRows 27 rfl) rfl ?_
    refine wp_iload_n (atd dX12_layRows 28 rfl) rfl ?_
    refine wp_iconst (v := nI 2) (atd dX12_layRows 29 rfl) (by decide) ?_
    refine wp_icmpN_le (tgt := 58) (atd dX12_layRows 30 rfl) (by decide) (by omega) (by omega) (fun c_48 => ?_) (fun c_48 => ?_)
    ·
      have hce : ceC h n b = b + 1 := if_neg (by omega)
      refine wp_iload_n (atd dX12_layRows 34 rfl) rfl ?_
      refine wp_iconst (v := nI 1) (atd dX12_layRows 35 rfl) (by decide) ?_
      refine wp_iaddN (atd dX12_layRows 36 rfl) ?_
      refine wp_icmpN_ge (tgt := 160) (atd dX12_layRows 37 rfl) (by decide) (by omega) (by omega) (fun c_61 => ?_) (fun c_61 => ?_)
      · exfalso; omega
      ·
        refine wp_aload_n (atd dX12_layRows 38 rfl) rfl rfl ?_
        refine wp_get fX12_35 (atd dX12_layRows 39 rfl) hM.1.1 rfl ?_
        refine wp_iconst (v := nI 3) (atd dX12_layRows 40 rfl) (by decide) ?_
        refine wp_aload_n (atd dX12_layRows 41 rfl) rfl rfl ?_
        refine wp_get fX12_234 (atd dX12_layRows 42 rfl) hM.1.1 (congrArg (fun z => some (Value.int z)) h32) ?_
        refine wp_imulN (atd dX12_layRows 43 rfl) ?_
        refine wp_iload_n (atd dX12_layRows 44 rfl) rfl ?_
        refine wp_iastM (j := 7) (atd dX12_layRows 45 rfl) hM (by decide) (by decide) rfl (show _ < 495 from by omega) (fun σ hM => ?_)
        refine wp_aload_n (atd dX12_layRows 46 rfl) rfl rfl ?_
        refine wp_get fX12_35 (atd dX12_layRows 47 rfl) hM.1.1 rfl ?_
        refine wp_iconst (v := nI 3) (atd dX12_layRows 48 rfl) (by decide) ?_
        refine wp_aload_n (atd dX12_layRows 49 rfl) rfl rfl ?_
        refine wp_get fX12_234 (atd dX12_layRows 50 rfl) hM.1.1 (congrArg (fun z => some (Value.int z)) h32) ?_
        refine wp_imulN (atd dX12_layRows 51 rfl) ?_
        refine wp_iconst (v := nI 1) (atd dX12_layRows 52 rfl) (by decide) ?_
        refine wp_iaddN (atd dX12_layRows 53 rfl) ?_
        refine wp_iload_n (atd dX12_layRows 54 rfl) rfl ?_
        refine wp_iastM (j := 7) (atd dX12_layRows 55 rfl) hM (by decide) (by decide) rfl (show _ < 495 from by omega) (fun σ hM => ?_)
        refine wp_aload_n (atd dX12_layRows 56 rfl) rfl rfl ?_
        refine wp_get fX12_35 (atd dX12_layRows 57 rfl) hM.1.1 rfl ?_
        refine wp_iconst (v := nI 3) (atd dX12_layRows 58 rfl) (by decide) ?_
        refine wp_aload_n (atd dX12_layRows 59 rfl) rfl rfl ?_
        refine wp_get fX12_234 (atd dX12_layRows 60 rfl) hM.1.1 (congrArg (fun z => some (Value.int z)) h32) ?_
        refine wp_imulN (atd dX12_layRows 61 rfl) ?_
        refine wp_iconst (v := nI 2) (atd dX12_layRows 62 rfl) (by decide) ?_
        refine wp_iaddN (atd dX12_layRows 63 rfl) ?_
        refine wp_iload (atd dX12_layRows 64 rfl) rfl ?_
        refine wp_iastM (j := 7) (atd dX12_layRows 65 rfl) hM (by decide) (by decide) rfl (show _ < 495 from by omega) (fun σ hM => ?_)
        refine wp_aload_n (atd dX12_layRows 66 rfl) rfl rfl ?_
        refine wp_get fX12_51 (atd dX12_layRows 67 rfl) hM.1.1 rfl ?_
        refine wp_aload_n (atd dX12_layRows 68 rfl) rfl rfl ?_
        refine wp_get fX12_234 (atd dX12_layRows 69 rfl) hM.1.1 (congrArg (fun z => some (Value.int z)) h32) ?_
        refine wp_iconst (v := nI 1) (atd dX12_layRows 70 rfl) (by decide) ?_
        refine wp_iload_n (atd dX12_layRows 71 rfl) rfl ?_
        refine wp_ishl1 (atd dX12_layRows 72 rfl) (by omega) ?_
        refine wp_iload_n (atd dX12_layRows 73 rfl) rfl ?_
        refine wp_iconst (v := nI 1) (atd dX12_layRows 74 rfl) (by decide) ?_
        refine wp_icmpN_le (tgt := 127) (atd dX12_layRows 75 rfl) (by decide) (by omega) (by omega) (fun c_118 => ?_) (fun c_118 => ?_)
        ·
          refine wp_iconst (v := nI 0) (atd dX12_layRows 80 rfl) (by decide) ?_
          refine wp_iorN (atd dX12_layRows 81 rfl) ?_
          refine wp_iload_n (atd dX12_layRows 82 rfl) rfl ?_
          refine wp_iconst (v := nI 2) (atd dX12_layRows 83 rfl) (by decide) ?_
          refine wp_icmpN_le (tgt := 141) (atd dX12_layRows 84 rfl) (by decide) (by omega) (by omega) (fun c_131 => ?_) (fun c_131 => ?_)
          ·
            refine wp_iconst (v := nI 0) (atd dX12_layRows 89 rfl) (by decide) ?_
            refine wp_iorN (atd dX12_layRows 90 rfl) ?_
            refine wp_iastM (j := 12) (atd dX12_layRows 91 rfl) hM (by decide) (by decide) rfl (show _ < 165 from by omega) (fun σ hM => ?_)
            refine wp_aload_n (atd dX12_layRows 92 rfl) rfl rfl ?_
            refine wp_dup (atd dX12_layRows 93 rfl) rfl ?_
            refine wp_get fX12_234 (atd dX12_layRows 94 rfl) hM.1.1 (congrArg (fun z => some (Value.int z)) h32) ?_
            refine wp_iconst (v := nI 1) (atd dX12_layRows 95 rfl) (by decide) ?_
            refine wp_iaddN (atd dX12_layRows 96 rfl) ?_
            refine wp_putM fX12_234 (atd dX12_layRows 97 rfl) hM rfl (fun σ hM => ?_)
            refine wp_iincN (c := 1) (atd dX12_layRows 98 rfl) rfl ?_
            refine wp_goto (tgt := 44) (atd dX12_layRows 99 rfl) (by decide) ?_
            refine ih _ _ _ (F ++ [(a, b, c)]) (c + 1) hM (hfa.up (by decide)) (rowPut_frm hfb) h33 (by rw [List.length_append]; rfl) ?_ (by rw [List.append_assoc]; exact hF) (by omega) (by omega)
            have e : std h (a, b, c) = _ := rfl
            have hz := hR.push (a := a) (b := b) (c := c)
            rw [show std h (a, b, c) = (2 ^ a ||| 0) ||| 0 from by simp only [std]; rw [if_neg (by omega), if_neg (by omega)]] at hz
            exact hz
          ·
            refine wp_iconst (v := nI 1) (atd dX12_layRows 85 rfl) (by decide) ?_
            refine wp_iload (atd dX12_layRows 86 rfl) rfl ?_
            refine wp_ishl1 (atd dX12_layRows 87 rfl) (by omega) ?_
            refine wp_goto (tgt := 142) (atd dX12_layRows 88 rfl) (by decide) ?_
            refine wp_iorN (atd dX12_layRows 90 rfl) ?_
            refine wp_iastM (j := 12) (atd dX12_layRows 91 rfl) hM (by decide) (by decide) rfl (show _ < 165 from by omega) (fun σ hM => ?_)
            refine wp_aload_n (atd dX12_layRows 92 rfl) rfl rfl ?_
            refine wp_dup (atd dX12_layRows 93 rfl) rfl ?_
            refine wp_get fX12_234 (atd dX12_layRows 94 rfl) hM.1.1 (congrArg (fun z => some (Value.int z)) h32) ?_
            refine wp_iconst (v := nI 1) (atd dX12_layRows 95 rfl) (by decide) ?_
            refine wp_iaddN (atd dX12_layRows 96 rfl) ?_
            refine wp_putM fX12_234 (atd dX12_layRows 97 rfl) hM rfl (fun σ hM => ?_)
            refine wp_iincN (c := 1) (atd dX12_layRows 98 rfl) rfl ?_
            refine wp_goto (tgt := 44) (atd dX12_layRows 99 rfl) (by decide) ?_
            refine ih _ _ _ (F ++ [(a, b, c)]) (c + 1) hM (hfa.up (by decide)) (rowPut_frm hfb) h33 (by rw [List.length_append]; rfl) ?_ (by rw [List.append_assoc]; exact hF) (by omega) (by omega)
            have e : std h (a, b, c) = _ := rfl
            have hz := hR.push (a := a) (b := b) (c := c)
            rw [show std h (a, b, c) = (2 ^ a ||| 0) ||| 2 ^ c from by simp only [std]; rw [if_neg (by omega), if_pos (by omega)]] at hz
            exact hz
        ·
          refine wp_iconst (v := nI 1) (atd dX12_layRows 76 rfl) (by decide) ?_
          refine wp_iload_n (atd dX12_layRows 77 rfl) rfl ?_
          refine wp_ishl1 (atd dX12_layRows 78 rfl) (by omega) ?_
          refine wp_goto (tgt := 128) (atd dX12_layRows 79 rfl) (by decide) ?_
          refine wp_iorN (atd dX12_layRows 81 rfl) ?_
          refine wp_iload_n (atd dX12_layRows 82 rfl) rfl ?_
          refine wp_iconst (v := nI 2) (atd dX12_layRows 83 rfl) (by decide) ?_
          refine wp_icmpN_le (tgt := 141) (atd dX12_layRows 84 rfl) (by decide) (by omega) (by omega) (fun c_131 => ?_) (fun c_131 => ?_)
          ·
            refine wp_iconst (v := nI 0) (atd dX12_layRows 89 rfl) (by decide) ?_
            refine wp_iorN (atd dX12_layRows 90 rfl) ?_
            refine wp_iastM (j := 12) (atd dX12_layRows 91 rfl) hM (by decide) (by decide) rfl (show _ < 165 from by omega) (fun σ hM => ?_)
            refine wp_aload_n (atd dX12_layRows 92 rfl) rfl rfl ?_
            refine wp_dup (atd dX12_layRows 93 rfl) rfl ?_
            refine wp_get fX12_234 (atd dX12_layRows 94 rfl) hM.1.1 (congrArg (fun z => some (Value.int z)) h32) ?_
            refine wp_iconst (v := nI 1) (atd dX12_layRows 95 rfl) (by decide) ?_
            refine wp_iaddN (atd dX12_layRows 96 rfl) ?_
            refine wp_putM fX12_234 (atd dX12_layRows 97 rfl) hM rfl (fun σ hM => ?_)
            refine wp_iincN (c := 1) (atd dX12_layRows 98 rfl) rfl ?_
            refine wp_goto (tgt := 44) (atd dX12_layRows 99 rfl) (by decide) ?_
            refine ih _ _ _ (F ++ [(a, b, c)]) (c + 1) hM (hfa.up (by decide)) (rowPut_frm hfb) h33 (by rw [List.length_append]; rfl) ?_ (by rw [List.append_assoc]; exact hF) (by omega) (by omega)
            have e : std h (a, b, c) = _ := rfl
            have hz := hR.push (a := a) (b := b) (c := c)
            rw [show std h (a, b, c) = (2 ^ a ||| 2 ^ b) ||| 0 from by simp only [std]; rw [if_pos (by omega), if_neg (by omega)]] at hz
            exact hz
          ·
            refine wp_iconst (v := nI 1) (atd dX12_layRows 85 rfl) (by decide) ?_
            refine wp_iload (atd dX12_layRows 86 rfl) rfl ?_
            refine wp_ishl1 (atd dX12_layRows 87 rfl) (by omega) ?_
            refine wp_goto (tgt := 142) (atd dX12_layRows 88 rfl) (by decide) ?_
            refine wp_iorN (atd dX12_layRows 90 rfl) ?_
            refine wp_iastM (j := 12) (atd dX12_layRows 91 rfl) hM (by decide) (by decide) rfl (show _ < 165 from by omega) (fun σ hM => ?_)
            refine wp_aload_n (atd dX12_layRows 92 rfl) rfl rfl ?_
            refine wp_dup (atd dX12_layRows 93 rfl) rfl ?_
            refine wp_get fX12_234 (atd dX12_layRows 94 rfl) hM.1.1 (congrArg (fun z => some (Value.int z)) h32) ?_
            refine wp_iconst (v := nI 1) (atd dX12_layRows 95 rfl) (by decide) ?_
            refine wp_iaddN (atd dX12_layRows 96 rfl) ?_
            refine wp_putM fX12_234 (atd dX12_layRows 97 rfl) hM rfl (fun σ hM => ?_)
            refine wp_iincN (c := 1) (atd dX12_layRows 98 rfl) rfl ?_
            refine wp_goto (tgt := 44) (atd dX12_layRows 99 rfl) (by decide) ?_
            refine ih _ _ _ (F ++ [(a, b, c)]) (c + 1) hM (hfa.up (by decide)) (rowPut_frm hfb) h33 (by rw [List.length_append]; rfl) ?_ (by rw [List.append_assoc]; exact hF) (by omega) (by omega)
            have e : std h (a, b, c) = _ := rfl
            have hz := hR.push (a := a) (b := b) (c := c)
            rw [show std h (a, b, c) = (2 ^ a ||| 2 ^ b) ||| 2 ^ c from by simp only [std]; rw [if_pos (by omega), if_pos (by omega)]] at hz
            exact hz
    ·
      have hce : ceC h n b = n := if_pos (by omega)
      refine wp_aload_n (atd dX12_layRows 31 rfl) rfl rfl ?_
      refine wp_get fX12_78 (atd dX12_layRows 32 rfl) hM.1.1 (congrArg (fun z => some (Value.int z)) hp) ?_
      refine wp_goto (tgt := 61) (atd dX12_layRows 33 rfl) (by decide) ?_
      refine wp_icmpN_ge (tgt := 160) (atd dX12_layRows 37 rfl) (by decide) (by omega) (by omega) (fun c_61 => ?_) (fun c_61 => ?_)
      · exfalso; omega
      ·
        refine wp_aload_n (atd dX12_layRows 38 rfl) rfl rfl ?_
        refine wp_get fX12_35 (atd dX12_layRows 39 rfl) hM.1.1 rfl ?_
        refine wp_iconst (v := nI 3) (atd dX12_layRows 40 rfl) (by decide) ?_
        refine wp_aload_n (atd dX12_layRows 41 rfl) rfl rfl ?_
        refine wp_get fX12_234 (atd dX12_layRows 42 rfl) hM.1.1 (congrArg (fun z => some (Value.int z)) h32) ?_
        refine wp_imulN (atd dX12_layRows 43 rfl) ?_
        refine wp_iload_n (atd dX12_layRows 44 rfl) rfl ?_
        refine wp_iastM (j := 7) (atd dX12_layRows 45 rfl) hM (by decide) (by decide) rfl (show _ < 495 from by omega) (fun σ hM => ?_)
        refine wp_aload_n (atd dX12_layRows 46 rfl) rfl rfl ?_
        refine wp_get fX12_35 (atd dX12_layRows 47 rfl) hM.1.1 rfl ?_
        refine wp_iconst (v := nI 3) (atd dX12_layRows 48 rfl) (by decide) ?_
        refine wp_aload_n (atd dX12_layRows 49 rfl) rfl rfl ?_
        refine wp_get fX12_234 (atd dX12_layRows 50 rfl) hM.1.1 (congrArg (fun z => some (Value.int z)) h32) ?_
        refine wp_imulN (atd dX12_layRows 51 rfl) ?_
        refine wp_iconst (v := nI 1) (atd dX12_layRows 52 rfl) (by decide) ?_
        refine wp_iaddN (atd dX12_layRows 53 rfl) ?_
        refine wp_iload_n (atd dX12_layRows 54 rfl) rfl ?_
        refine wp_iastM (j := 7) (atd dX12_layRows 55 rfl) hM (by decide) (by decide) rfl (show _ < 495 from by omega) (fun σ hM => ?_)
        refine wp_aload_n (atd dX12_layRows 56 rfl) rfl rfl ?_
        refine wp_get fX12_35 (atd dX12_layRows 57 rfl) hM.1.1 rfl ?_
        refine wp_iconst (v := nI 3) (atd dX12_layRows 58 rfl) (by decide) ?_
        refine wp_aload_n (atd dX12_layRows 59 rfl) rfl rfl ?_
        refine wp_get fX12_234 (atd dX12_layRows 60 rfl) hM.1.1 (congrArg (fun z => some (Value.int z)) h32) ?_
        refine wp_imulN (atd dX12_layRows 61 rfl) ?_
        refine wp_iconst (v := nI 2) (atd dX12_layRows 62 rfl) (by decide) ?_
        refine wp_iaddN (atd dX12_layRows 63 rfl) ?_
        refine wp_iload (atd dX12_layRows 64 rfl) rfl ?_
        refine wp_iastM (j := 7) (atd dX12_layRows 65 rfl) hM (by decide) (by decide) rfl (show _ < 495 from by omega) (fun σ hM => ?_)
        refine wp_aload_n (atd dX12_layRows 66 rfl) rfl rfl ?_
        refine wp_get fX12_51 (atd dX12_layRows 67 rfl) hM.1.1 rfl ?_
        refine wp_aload_n (atd dX12_layRows 68 rfl) rfl rfl ?_
        refine wp_get fX12_234 (atd dX12_layRows 69 rfl) hM.1.1 (congrArg (fun z => some (Value.int z)) h32) ?_
        refine wp_iconst (v := nI 1) (atd dX12_layRows 70 rfl) (by decide) ?_
        refine wp_iload_n (atd dX12_layRows 71 rfl) rfl ?_
        refine wp_ishl1 (atd dX12_layRows 72 rfl) (by omega) ?_
        refine wp_iload_n (atd dX12_layRows 73 rfl) rfl ?_
        refine wp_iconst (v := nI 1) (atd dX12_layRows 74 rfl) (by decide) ?_
        refine wp_icmpN_le (tgt := 127) (atd dX12_layRows 75 rfl) (by decide) (by omega) (by omega) (fun c_118 => ?_) (fun c_118 => ?_)
        ·
          refine wp_iconst (v := nI 0) (atd dX12_layRows 80 rfl) (by decide) ?_
          refine wp_iorN (atd dX12_layRows 81 rfl) ?_
          refine wp_iload_n (atd dX12_layRows 82 rfl) rfl ?_
          refine wp_iconst (v := nI 2) (atd dX12_layRows 83 rfl) (by decide) ?_
          refine wp_icmpN_le (tgt := 141) (atd dX12_layRows 84 rfl) (by decide) (by omega) (by omega) (fun c_131 => ?_) (fun c_131 => ?_)
          ·
            refine wp_iconst (v := nI 0) (atd dX12_layRows 89 rfl) (by decide) ?_
            refine wp_iorN (atd dX12_layRows 90 rfl) ?_
            refine wp_iastM (j := 12) (atd dX12_layRows 91 rfl) hM (by decide) (by decide) rfl (show _ < 165 from by omega) (fun σ hM => ?_)
            refine wp_aload_n (atd dX12_layRows 92 rfl) rfl rfl ?_
            refine wp_dup (atd dX12_layRows 93 rfl) rfl ?_
            refine wp_get fX12_234 (atd dX12_layRows 94 rfl) hM.1.1 (congrArg (fun z => some (Value.int z)) h32) ?_
            refine wp_iconst (v := nI 1) (atd dX12_layRows 95 rfl) (by decide) ?_
            refine wp_iaddN (atd dX12_layRows 96 rfl) ?_
            refine wp_putM fX12_234 (atd dX12_layRows 97 rfl) hM rfl (fun σ hM => ?_)
            refine wp_iincN (c := 1) (atd dX12_layRows 98 rfl) rfl ?_
            refine wp_goto (tgt := 44) (atd dX12_layRows 99 rfl) (by decide) ?_
            refine ih _ _ _ (F ++ [(a, b, c)]) (c + 1) hM (hfa.up (by decide)) (rowPut_frm hfb) h33 (by rw [List.length_append]; rfl) ?_ (by rw [List.append_assoc]; exact hF) (by omega) (by omega)
            have e : std h (a, b, c) = _ := rfl
            have hz := hR.push (a := a) (b := b) (c := c)
            rw [show std h (a, b, c) = (2 ^ a ||| 0) ||| 0 from by simp only [std]; rw [if_neg (by omega), if_neg (by omega)]] at hz
            exact hz
          ·
            refine wp_iconst (v := nI 1) (atd dX12_layRows 85 rfl) (by decide) ?_
            refine wp_iload (atd dX12_layRows 86 rfl) rfl ?_
            refine wp_ishl1 (atd dX12_layRows 87 rfl) (by omega) ?_
            refine wp_goto (tgt := 142) (atd dX12_layRows 88 rfl) (by decide) ?_
            refine wp_iorN (atd dX12_layRows 90 rfl) ?_
            refine wp_iastM (j := 12) (atd dX12_layRows 91 rfl) hM (by decide) (by decide) rfl (show _ < 165 from by omega) (fun σ hM => ?_)
            refine wp_aload_n (atd dX12_layRows 92 rfl) rfl rfl ?_
            refine wp_dup (atd dX12_layRows 93 rfl) rfl ?_
            refine wp_get fX12_234 (atd dX12_layRows 94 rfl) hM.1.1 (congrArg (fun z => some (Value.int z)) h32) ?_
            refine wp_iconst (v := nI 1) (atd dX12_layRows 95 rfl) (by decide) ?_
            refine wp_iaddN (atd dX12_layRows 96 rfl) ?_
            refine wp_putM fX12_234 (atd dX12_layRows 97 rfl) hM rfl (fun σ hM => ?_)
            refine wp_iincN (c := 1) (atd dX12_layRows 98 rfl) rfl ?_
            refine wp_goto (tgt := 44) (atd dX12_layRows 99 rfl) (by decide) ?_
            refine ih _ _ _ (F ++ [(a, b, c)]) (c + 1) hM (hfa.up (by decide)) (rowPut_frm hfb) h33 (by rw [List.length_append]; rfl) ?_ (by rw [List.append_assoc]; exact hF) (by omega) (by omega)
            have e : std h (a, b, c) = _ := rfl
            have hz := hR.push (a := a) (b := b) (c := c)
            rw [show std h (a, b, c) = (2 ^ a ||| 0) ||| 2 ^ c from by simp only [std]; rw [if_neg (by omega), if_pos (by omega)]] at hz
            exact hz
        ·
          refine wp_iconst (v := nI 1) (atd dX12_layRows 76 rfl) (by decide) ?_
          refine wp_iload_n (atd dX12_layRows 77 rfl) rfl ?_
          refine wp_ishl1 (atd dX12_layRows 78 rfl) (by omega) ?_
          refine wp_goto (tgt := 128) (atd dX12_layRows 79 rfl) (by decide) ?_
          refine wp_iorN (atd dX12_layRows 81 rfl) ?_
          refine wp_iload_n (atd dX12_layRows 82 rfl) rfl ?_
          refine wp_iconst (v := nI 2) (atd dX12_layRows 83 rfl) (by decide) ?_
          refine wp_icmpN_le (tgt := 141) (atd dX12_layRows 84 rfl) (by decide) (by omega) (by omega) (fun c_131 => ?_) (fun c_131 => ?_)
          ·
            refine wp_iconst (v := nI 0) (atd dX12_layRows 89 rfl) (by decide) ?_
            refine wp_iorN (atd dX12_layRows 90 rfl) ?_
            refine wp_iastM (j := 12) (atd dX12_layRows 91 rfl) hM (by decide) (by decide) rfl (show _ < 165 from by omega) (fun σ hM => ?_)
            refine wp_aload_n (atd dX12_layRows 92 rfl) rfl rfl ?_
            refine wp_dup (atd dX12_layRows 93 rfl) rfl ?_
            refine wp_get fX12_234 (atd dX12_layRows 94 rfl) hM.1.1 (congrArg (fun z => some (Value.int z)) h32) ?_
            refine wp_iconst (v := nI 1) (atd dX12_layRows 95 rfl) (by decide) ?_
            refine wp_iaddN (atd dX12_layRows 96 rfl) ?_
            refine wp_putM fX12_234 (atd dX12_layRows 97 rfl) hM rfl (fun σ hM => ?_)
            refine wp_iincN (c := 1) (atd dX12_layRows 98 rfl) rfl ?_
            refine wp_goto (tgt := 44) (atd dX12_layRows 99 rfl) (by decide) ?_
            refine ih _ _ _ (F ++ [(a, b, c)]) (c + 1) hM (hfa.up (by decide)) (rowPut_frm hfb) h33 (by rw [List.length_append]; rfl) ?_ (by rw [List.append_assoc]; exact hF) (by omega) (by omega)
            have e : std h (a, b, c) = _ := rfl
            have hz := hR.push (a := a) (b := b) (c := c)
            rw [show std h (a, b, c) = (2 ^ a ||| 2 ^ b) ||| 0 from by simp only [std]; rw [if_pos (by omega), if_neg (by omega)]] at hz
            exact hz
          ·
            refine wp_iconst (v := nI 1) (atd dX12_layRows 85 rfl) (by decide) ?_
            refine wp_iload (atd dX12_layRows 86 rfl) rfl ?_
            refine wp_ishl1 (atd dX12_layRows 87 rfl) (by omega) ?_
            refine wp_goto (tgt := 142) (atd dX12_layRows 88 rfl) (by decide) ?_
            refine wp_iorN (atd dX12_layRows 90 rfl) ?_
            refine wp_iastM (j := 12) (atd dX12_layRows 91 rfl) hM (by decide) (by decide) rfl (show _ < 165 from by omega) (fun σ hM => ?_)
            refine wp_aload_n (atd dX12_layRows 92 rfl) rfl rfl ?_
            refine wp_dup (atd dX12_layRows 93 rfl) rfl ?_
            refine wp_get fX12_234 (atd dX12_layRows 94 rfl) hM.1.1 (congrArg (fun z => some (Value.int z)) h32) ?_
            refine wp_iconst (v := nI 1) (atd dX12_layRows 95 rfl) (by decide) ?_
            refine wp_iaddN (atd dX12_layRows 96 rfl) ?_
            refine wp_putM fX12_234 (atd dX12_layRows 97 rfl) hM rfl (fun σ hM => ?_)
            refine wp_iincN (c := 1) (atd dX12_layRows 98 rfl) rfl ?_
            refine wp_goto (tgt := 44) (atd dX12_layRows 99 rfl) (by decide) ?_
            refine ih _ _ _ (F ++ [(a, b, c)]) (c + 1) hM (hfa.up (by decide)) (rowPut_frm hfb) h33 (by rw [List.length_append]; rfl) ?_ (by rw [List.append_assoc]; exact hF) (by omega) (by omega)
            have e : std h (a, b, c) = _ := rfl
            have hz := hR.push (a := a) (b := b) (c := c)
            rw [show std h (a, b, c) = (2 ^ a ||| 2 ^ b) ||| 2 ^ c from by simp only [std]; rw [if_pos (by omega), if_pos (by omega)]] at hz
            exact hz
theorem lX12_layRows2 {G : Gx} {d : Nat} {Q : Option Value → Hp → Prop} {σ0 : Hp} {m n h : Nat} {α0 : Nat → Int32} {B0 : Nat → Nat → Int32} (hn : n ≤ 9) (hh : h ≤ 3) (hp0 : α0 2 = nI n) {a : Nat} {FF : List Row} (ha : a < n) (hlen : FF.length ≤ 165) {X : List Row} (hk : ∀ (σ : Hp) (α : Nat → Int32) (B : Nat → Nat → Int32) (F : List Row) (e3 e4 : Value), MA σ0 σ m α B → frm [32, 33] α0 α → frm [7, 12] B0 B → α 33 = nI h → α 32 = nI F.length → RW B F h → F ++ X = FF → Wp G mX12_layRows d 166 [.ref m, .int (nI h), .int (nI a), e3, e4] [] σ 0 0 Q) : ∀ (k : Nat) (σ : Hp) (α : Nat → Int32) (B : Nat → Nat → Int32) (F : List Row) (b : Nat) (e4 : Value), MA σ0 σ m α B → frm [32, 33] α0 α → frm [7, 12] B0 B → α 33 = nI h → α 32 = nI F.length → RW B F h → F ++ (rwB h n a k b ++ X) = FF → b + k = ceB h n a → a ≤ b → Wp G mX12_layRows d 22 [.ref m, .int (nI h), .int (nI a), .int (nI b), e4] [] σ 0 0 Q := by
  intro k
  induction k with
  | zero =>
    intro σ α B F b e4 hM hfa hfb h33 h32 hR hF hc hbc
    have hp : α 2 = nI n := (hfa 2 (by decide)).trans hp0
    refine wp_iload_n (atd dX12_layRows 14 rfl) rfl ?_
    refine wp_iload_n (atd dX12_layRows 15 rfl) rfl ?_
    refine wp_iconst (v := nI 1) (atd dX12_layRows 16 rfl) (by decide) ?_
    refine wp_icmpN_le (tgt := 35) (atd dX12_layRows 17 rfl) (by decide) (by omega) (by omega) (fun c_25 => ?_) (fun c_25 => ?_)
    ·
      have hce : ceB h n a = a + 1 := if_neg (by omega)
      refine wp_iload_n (atd dX12_layRows 21 rfl) rfl ?_
      refine wp_iconst (v := nI 1) (atd dX12_layRows 22 rfl) (by decide) ?_
      refine wp_iaddN (atd dX12_layRows 23 rfl) ?_
      refine wp_icmpN_ge (tgt := 166) (atd dX12_layRows 24 rfl) (by decide) (by omega) (by omega) (fun c_38 => ?_) (fun c_38 => ?_)
      ·
        exact hk _ _ _ F _ _ hM hfa hfb h33 h32 hR hF
      · exfalso; omega
    ·
      have hce : ceB h n a = n := if_pos (by omega)
      refine wp_aload_n (atd dX12_layRows 18 rfl) rfl rfl ?_
      refine wp_get fX12_78 (atd dX12_layRows 19 rfl) hM.1.1 (congrArg (fun z => some (Value.int z)) hp) ?_
      refine wp_goto (tgt := 38) (atd dX12_layRows 20 rfl) (by decide) ?_
      refine wp_icmpN_ge (tgt := 166) (atd dX12_layRows 24 rfl) (by decide) (by omega) (by omega) (fun c_38 => ?_) (fun c_38 => ?_)
      ·
        exact hk _ _ _ F _ _ hM hfa hfb h33 h32 hR hF
      · exfalso; omega
  | succ k ih =>
    intro σ α B F b e4 hM hfa hfb h33 h32 hR hF hc hbc
    have hp : α 2 = nI n := (hfa 2 (by decide)).trans hp0
    refine wp_iload_n (atd dX12_layRows 14 rfl) rfl ?_
    refine wp_iload_n (atd dX12_layRows 15 rfl) rfl ?_
    refine wp_iconst (v := nI 1) (atd dX12_layRows 16 rfl) (by decide) ?_
    refine wp_icmpN_le (tgt := 35) (atd dX12_layRows 17 rfl) (by decide) (by omega) (by omega) (fun c_25 => ?_) (fun c_25 => ?_)
    ·
      have hce : ceB h n a = a + 1 := if_neg (by omega)
      refine wp_iload_n (atd dX12_layRows 21 rfl) rfl ?_
      refine wp_iconst (v := nI 1) (atd dX12_layRows 22 rfl) (by decide) ?_
      refine wp_iaddN (atd dX12_layRows 23 rfl) ?_
      refine wp_icmpN_ge (tgt := 166) (atd dX12_layRows 24 rfl) (by decide) (by omega) (by omega) (fun c_38 => ?_) (fun c_38 => ?_)
      · exfalso; omega
      ·
        refine wp_iload_n (atd dX12_layRows 25 rfl) rfl ?_
        refine wp_istore (atd dX12_layRows 26 rfl) (Nat.le_of_ble_eq_true rfl) ?_
        have hbn : b < n := by omega
        have hcc : b ≤ ceC h n b := by unfold ceC; split <;> omega
        refine lX12_layRows1 hn hh hp0 ha hbn hlen (X := rwB h n a k (b + 1) ++ X) (fun σ α B F e4 hM hfa hfb h33 h32 hR hF => ?_) (ceC h n b - b) _ _ _ F b hM hfa hfb h33 h32 hR (by rw [← List.append_assoc]; rw [← List.append_assoc] at hF ⊢; simpa [rwB, List.append_assoc] using hF) (by omega) (Nat.le_refl _)
        refine wp_iincN (c := 1) (atd dX12_layRows 100 rfl) rfl ?_
        refine wp_goto (tgt := 22) (atd dX12_layRows 101 rfl) (by decide) ?_
        exact ih _ _ _ F (b + 1) _ hM hfa hfb h33 h32 hR hF (by omega) (by omega)
    ·
      have hce : ceB h n a = n := if_pos (by omega)
      refine wp_aload_n (atd dX12_layRows 18 rfl) rfl rfl ?_
      refine wp_get fX12_78 (atd dX12_layRows 19 rfl) hM.1.1 (congrArg (fun z => some (Value.int z)) hp) ?_
      refine wp_goto (tgt := 38) (atd dX12_layRows 20 rfl) (by decide) ?_
      refine wp_icmpN_ge (tgt := 166) (atd dX12_layRows 24 rfl) (by decide) (by omega) (by omega) (fun c_38 => ?_) (fun c_38 => ?_)
      · exfalso; omega
      ·
        refine wp_iload_n (atd dX12_layRows 25 rfl) rfl ?_
        refine wp_istore (atd dX12_layRows 26 rfl) (Nat.le_of_ble_eq_true rfl) ?_
        have hbn : b < n := by omega
        have hcc : b ≤ ceC h n b := by unfold ceC; split <;> omega
        refine lX12_layRows1 hn hh hp0 ha hbn hlen (X := rwB h n a k (b + 1) ++ X) (fun σ α B F e4 hM hfa hfb h33 h32 hR hF => ?_) (ceC h n b - b) _ _ _ F b hM hfa hfb h33 h32 hR (by rw [← List.append_assoc]; rw [← List.append_assoc] at hF ⊢; simpa [rwB, List.append_assoc] using hF) (by omega) (Nat.le_refl _)
        refine wp_iincN (c := 1) (atd dX12_layRows 100 rfl) rfl ?_
        refine wp_goto (tgt := 22) (atd dX12_layRows 101 rfl) (by decide) ?_
        exact ih _ _ _ F (b + 1) _ hM hfa hfb h33 h32 hR hF (by omega) (by omega)
theorem lX12_layRows3 {G : Gx} {d : Nat} {σ0 : Hp} {m n h : Nat} {α0 : Nat → Int32} {B0 : Nat → Nat → Int32} (hn : n ≤ 9) (hh : h ≤ 3) (hp0 : α0 2 = nI n) {FF : List Row} (hlen : FF.length ≤ 165) : ∀ (k : Nat) (σ : Hp) (α : Nat → Int32) (B : Nat → Nat → Int32) (F : List Row) (a : Nat) (e3 e4 : Value), MA σ0 σ m α B → frm [32, 33] α0 α → frm [7, 12] B0 B → α 33 = nI h → α 32 = nI F.length → RW B F h → F ++ rwA h n k a = FF → a + k = n → Wp G mX12_layRows d 12 [.ref m, .int (nI h), .int (nI a), e3, e4] [] σ 0 0 (pV fun s => ∃ α1 B1, MA σ0 s m α1 B1 ∧ frm [32, 33] α0 α1 ∧ frm [7, 12] B0 B1 ∧ α1 33 = nI h ∧ α1 32 = nI FF.length ∧ RW B1 FF h) := by
  intro k
  induction k with
  | zero =>
    intro σ α B F a e3 e4 hM hfa hfb h33 h32 hR hF hc
    have hp : α 2 = nI n := (hfa 2 (by decide)).trans hp0
    have e : F = FF := by simpa [rwA] using hF
    subst e
    refine wp_iload_n (atd dX12_layRows 8 rfl) rfl ?_
    refine wp_aload_n (atd dX12_layRows 9 rfl) rfl rfl ?_
    refine wp_get fX12_78 (atd dX12_layRows 10 rfl) hM.1.1 (congrArg (fun z => some (Value.int z)) hp) ?_
    refine wp_icmpN_ge (tgt := 172) (atd dX12_layRows 11 rfl) (by decide) (by omega) (by omega) (fun c_17 => ?_) (fun c_17 => ?_)
    ·
      refine wp_vretv (atd dX12_layRows 104 rfl) rfl ?_
      exact ⟨α, B, hM, hfa, hfb, h33, h32, hR⟩
    · exfalso; omega
  | succ k ih =>
    intro σ α B F a e3 e4 hM hfa hfb h33 h32 hR hF hc
    have hp : α 2 = nI n := (hfa 2 (by decide)).trans hp0
    refine wp_iload_n (atd dX12_layRows 8 rfl) rfl ?_
    refine wp_aload_n (atd dX12_layRows 9 rfl) rfl rfl ?_
    refine wp_get fX12_78 (atd dX12_layRows 10 rfl) hM.1.1 (congrArg (fun z => some (Value.int z)) hp) ?_
    refine wp_icmpN_ge (tgt := 172) (atd dX12_layRows 11 rfl) (by decide) (by omega) (by omega) (fun c_17 => ?_) (fun c_17 => ?_)
    · exfalso; omega
    ·
      refine wp_iload_n (atd dX12_layRows 12 rfl) rfl ?_
      refine wp_istore_n (atd dX12_layRows 13 rfl) (Nat.le_of_ble_eq_true rfl) ?_
      have hcc : a ≤ ceB h n a := by unfold ceB; split <;> omega
      refine lX12_layRows2 hn hh hp0 (a := a) (by omega) hlen (X := rwA h n k (a + 1)) (fun σ α B F e3 e4 hM hfa hfb h33 h32 hR hF => ?_) (ceB h n a - a) _ _ _ F a _ hM hfa hfb h33 h32 hR hF (by omega) (Nat.le_refl _)
      refine wp_iincN (c := 1) (atd dX12_layRows 102 rfl) rfl ?_
      refine wp_goto (tgt := 12) (atd dX12_layRows 103 rfl) (by decide) ?_
      exact ih _ _ _ F (a + 1) _ _ hM hfa hfb h33 h32 hR hF (by omega)
theorem eX12_layRows {G : Gx} {d : Nat} {σ : Hp} (hd : 0 ≤ d) {m n h : Nat} {α : Nat → Int32} {B : Nat → Nat → Int32} (hM : MA σ σ m α B) (hp : α 2 = nI n) (hn : n ≤ 9) (hh : h ≤ 3) : Cl G mX12_layRows d [.ref m, .int (nI h)] σ 0 0 (pV fun s => ∃ α1 B1, MA σ s m α1 B1 ∧ frm [32, 33] α α1 ∧ frm [7, 12] B B1 ∧ α1 33 = nI h ∧ α1 32 = nI (rowsL h n).length ∧ RW B1 (rowsL h n) h) := by
  refine cl_of (by decide) (by simp [Value.category]) (Nat.le_of_ble_eq_true rfl) ?_
  show Wp G mX12_layRows d 0 [.ref m, .int (nI h), .double 0, .double 0, .double 0] [] σ 0 0 _
  refine wp_aload_n (atd dX12_layRows 0 rfl) rfl rfl ?_
  refine wp_iconst (v := nI 0) (atd dX12_layRows 1 rfl) (by decide) ?_
  refine wp_putM fX12_234 (atd dX12_layRows 2 rfl) hM rfl (fun σ hM => ?_)
  refine wp_aload_n (atd dX12_layRows 3 rfl) rfl rfl ?_
  refine wp_iload_n (atd dX12_layRows 4 rfl) rfl ?_
  refine wp_putM fX12_237 (atd dX12_layRows 5 rfl) hM rfl (fun σ hM => ?_)
  refine wp_iconst (v := nI 0) (atd dX12_layRows 6 rfl) (by decide) ?_
  refine wp_istore_n (atd dX12_layRows 7 rfl) (Nat.le_of_ble_eq_true rfl) ?_
  exact lX12_layRows3 hn hh hp (rowsL_len n (by omega) h (by omega)) n _ _ _ [] 0 _ _ hM ((frm.rf.up (by decide)).up (by decide)) frm.rf rfl rfl (fun i hi => absurd hi (Nat.not_lt_zero i)) rfl (by omega)
def rns (nb : Nat → Nat) (n kd hs p : Nat) : Nat := if kd = 2 then nb p ||| nall nb n (dif (nb p) hs) else nb p
theorem eX12_runs {G : Gx} {d : Nat} {σ : Hp} (hd : 2 ≤ d) {m n : Nat} {α : Nat → Int32} {B : Nat → Nat → Int32} {nb : Nat → Nat} (hM : MA σ σ m α B) (hp : α 2 = nI n) (hn : n ≤ 9) (hb : ∀ p, p < n → B 1 p = nI (nb p)) (hw : ∀ p, nb p < 512) {kd hs p : Nat} (hkd : kd < 3) (hpn : p < n) : Cl G mX12_runs d [.ref m, .int (nI kd), .int (nI hs), .int (nI p)] σ 0 0 (pI fun r s => r = nI (rns nb n kd hs p) ∧ s = σ) := by
  obtain ⟨d0, hdd⟩ : ∃ e, d = e + 1 := ⟨d - 1, by omega⟩
  refine cl_of (by decide) (by simp [Value.category]) (Nat.le_of_ble_eq_true rfl) ?_
  show Wp G mX12_runs d 0 [.ref m, .int (nI kd), .int (nI hs), .int (nI p)] [] σ 0 0 _
  refine wp_iload_n (atd dX12_runs 0 rfl) rfl ?_
  refine wp_iconst (v := nI 2) (atd dX12_runs 1 rfl) (by decide) ?_
  refine wp_icmpN_ne (tgt := 29) (atd dX12_runs 2 rfl) (by decide) (by omega) (by omega) (fun c_2 => ?_) (fun c_2 => ?_)
  ·
    refine wp_aload_n (atd dX12_runs 19 rfl) rfl rfl ?_
    refine wp_get fX12_7 (atd dX12_runs 20 rfl) hM.1.1 rfl ?_
    refine wp_iload_n (atd dX12_runs 21 rfl) rfl ?_
    refine wp_ialdN (atd dX12_runs 22 rfl) hM.a1 (show _ < 9 from by omega) (Nat.le_of_ble_eq_true rfl) ?_
    rw [hb p hpn]
    refine wp_ireti (atd dX12_runs 23 rfl) rfl ?_
    exact ⟨by unfold rns; rw [if_neg c_2], rfl⟩
  ·
    refine wp_aload_n (atd dX12_runs 3 rfl) rfl rfl ?_
    refine wp_get fX12_7 (atd dX12_runs 4 rfl) hM.1.1 rfl ?_
    refine wp_iload_n (atd dX12_runs 5 rfl) rfl ?_
    refine wp_ialdN (atd dX12_runs 6 rfl) hM.a1 (show _ < 9 from by omega) (Nat.le_of_ble_eq_true rfl) ?_
    rw [hb p hpn]
    refine wp_aload_n (atd dX12_runs 7 rfl) rfl rfl ?_
    refine wp_aload_n (atd dX12_runs 8 rfl) rfl rfl ?_
    refine wp_get fX12_7 (atd dX12_runs 9 rfl) hM.1.1 rfl ?_
    refine wp_iload_n (atd dX12_runs 10 rfl) rfl ?_
    refine wp_ialdN (atd dX12_runs 11 rfl) hM.a1 (show _ < 9 from by omega) (Nat.le_of_ble_eq_true rfl) ?_
    rw [hb p hpn]
    refine wp_iload_n (atd dX12_runs 12 rfl) rfl ?_
    refine wp_iconst (v := -1) (atd dX12_runs 13 rfl) (by decide) ?_
    refine wp_ixor (atd dX12_runs 14 rfl) ?_
    refine wp_iandC (atd dX12_runs 15 rfl) ?_
    refine wp_cVi hdd [_] (atd dX12_runs 16 rfl) iX12_nearAll lX12_194 rfl rfl (Nat.le_of_ble_eq_true rfl) hM.1.1 rfl (eX12_nearAll (by omega) hM hp hn hb hw (by have := dif_lt9 (b := hs) (hw p); omega)) (fun r_22 s_22 h_22 => ?_)
    obtain ⟨rfl, rfl⟩ := h_22
    refine wp_iorN (atd dX12_runs 17 rfl) ?_
    refine wp_goto (tgt := 35) (atd dX12_runs 18 rfl) (by decide) ?_
    refine wp_ireti (atd dX12_runs 23 rfl) rfl ?_
    exact ⟨by unfold rns; rw [if_pos c_2], rfl⟩
