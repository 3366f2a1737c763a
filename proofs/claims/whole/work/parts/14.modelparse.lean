theorem cl_post {G : Gx} {M : Md} {d : Nat} {as : List Value} {σ : Hp} {mc ms : Nat} {Q Q2 : Option Value → Hp → Prop} (h : Cl G M d as σ mc ms Q) (hq : ∀ v s, Q v s → Q2 v s) : Cl G M d as σ mc ms Q2 := by
  intro l ad ws cas sz hfl hW hA
  refine MetFree.mono (h l ad ws cas sz hfl hW hA) (fun _ _ h => h) (fun _ _ _ _ _ h => h) (fun a st o t _ hz => ?_)
  obtain ⟨⟨⟨v, σ', ad', ws', cv, h1, h2, h3⟩, h4⟩, h5⟩ := hz
  exact ⟨⟨⟨v, σ', ad', ws', cv, h1, hq _ _ h2, h3⟩, h4⟩, h5⟩
/-! a reader's state: token, fault, its place, how many places, their names, what is near -/
abbrev PS : Type := Tok × Nat × Nat × Nat × (Nat → Int32) × (Nat → Nat)
def fai (k : Nat) (s : PS) : PS := if s.2.1 = 0 then (s.1, (if s.1.2.2.1 = 3 then 1 else k), s.1.1, s.2.2.2) else s
def nxt (tp : Nat → Nat) (sz : Nat) (s : PS) : PS := (tokM tp sz s.1.2.1, s.2)
def isW (s : PS) (v : Int32) : Prop := s.1.2.2.1 = 1 ∧ s.1.2.2.2 = v
def cldG (nm : Nat → Int32) (v : Int32) : Nat → Nat → Option Nat
  | 0, _ => none
  | k + 1, p => if nm p = v then some p else cldG nm v k (p + 1)
def cld (s : PS) : Option Nat := cldG s.2.2.2.2.1 s.1.2.2.2 s.2.2.2.1 0
def mbn (s : PS) : PS := if s.1.2.2.1 = 1 ∧ s.1.2.2.2 ≠ 17171557 ∧ s.1.2.2.2 ≠ 402885 then s else fai 2 s
def plc (s : PS) : PS := (s.1, s.2.1, s.2.2.1, s.2.2.2.1 + 1, upd s.2.2.2.2.1 s.2.2.2.1 s.1.2.2.2, va_up s.2.2.2.2.2 s.2.2.2.1 (2 ^ s.2.2.2.1))
def linM (s : PS) (p q : Nat) : PS := (s.1, s.2.1, s.2.2.1, s.2.2.2.1, s.2.2.2.2.1, va_up (va_up s.2.2.2.2.2 p (s.2.2.2.2.2 p ||| 2 ^ q)) q (s.2.2.2.2.2 q ||| 2 ^ p))
def rdP (tp : Nat → Nat) (sz : Nat) (s : PS) : PS := if s.2.2.2.1 = 9 then fai 5 s else
  if (mbn (nxt tp sz s)).2.1 = 0 then (match cld (mbn (nxt tp sz s)) with
    | some _ => fai 3 (mbn (nxt tp sz s))
    | none => nxt tp sz (plc (mbn (nxt tp sz s)))) else mbn (nxt tp sz s)
def rdL2 (tp : Nat → Nat) (sz : Nat) (p : Nat) (s : PS) : PS := if s.2.1 = 0 then (match cld s with
    | none => fai 3 s
    | some q => if q = p then fai 3 s else if (s.2.2.2.2.2 p).testBit q = true then fai 4 s else nxt tp sz (linM s p q)) else s
def rdL (tp : Nat → Nat) (sz : Nat) (s : PS) : PS := if (mbn (nxt tp sz s)).2.1 = 0 then (match cld (mbn (nxt tp sz s)) with
    | none => fai 3 (mbn (nxt tp sz s))
    | some p => rdL2 tp sz p (mbn (nxt tp sz (mbn (nxt tp sz s))))) else mbn (nxt tp sz s)
def PSt (α : Nat → Int32) (B : Nat → Nat → Int32) (s : PS) : Prop := (α 8 = nI s.1.1 ∧ α 9 = nI s.1.2.1 ∧ α 10 = nI s.1.2.2.1 ∧ α 11 = s.1.2.2.2) ∧ α 14 = nI s.2.1 ∧ α 15 = nI s.2.2.1 ∧ α 16 = nI s.2.2.2.1 ∧ (∀ i, i < s.2.2.2.1 → B 3 i = s.2.2.2.2.1 i) ∧ ∀ i, i < s.2.2.2.1 → B 4 i = nI (s.2.2.2.2.2 i)
def POk (sz : Nat) (s : PS) : Prop := s.1.1 ≤ sz ∧ s.1.2.1 ≤ sz ∧ s.1.2.2.1 ≤ 3 ∧ s.2.1 ≤ 5 ∧ s.2.2.2.1 ≤ 9 ∧ ∀ i, s.2.2.2.2.2 i < 512
def PX (σ0 σ : Hp) (m : Nat) (α0 : Nat → Int32) (B0 : Nat → Nat → Int32) (sz : Nat) (s : PS) : Prop := ∃ α B, MA σ0 σ m α B ∧ frm [8, 9, 10, 11, 14, 15, 16] α0 α ∧ frm [3, 4] B0 B ∧ PSt α B s ∧ POk sz s
theorem tokM_ok {tp : Nat → Nat} {sz b : Nat} (hb : b ≤ sz) : (tokM tp sz b).1 ≤ sz ∧ (tokM tp sz b).2.1 ≤ sz ∧ (tokM tp sz b).2.2.1 ≤ 3 := by
  have hs := skp_le (tp := tp) (f := 600) hb
  unfold tokM
  generalize skp tp sz 600 b = a at hs ⊢
  split
  · split
    · have hw := wrd_le (tp := tp) (sz := sz) (a := a) (f := 600) (b := a) (v := nI 0) (by omega)
      refine ⟨by omega, hw.2, ?_⟩
      show (if _ then 1 else 3) ≤ 3
      split <;> omega
    · refine ⟨by omega, by show a + 1 ≤ sz; omega, ?_⟩
      show (if _ then 2 else 3) ≤ 3
      split <;> omega
  · exact ⟨hs.2, hs.2, Nat.zero_le _⟩
theorem fai_bad {k : Nat} {s : PS} (h : s.2.1 ≠ 0) : fai k s = s := if_neg h
theorem mbn_bad {s : PS} (h : s.2.1 ≠ 0) : mbn s = s := by unfold mbn; split; · rfl
                                                           · exact fai_bad h
theorem fai_ne {k : Nat} {s : PS} (hk : k ≠ 0) : (fai k s).2.1 ≠ 0 := by
  unfold fai
  split
  · show (if _ then 1 else k) ≠ 0
    split <;> omega
  · assumption
theorem POk.fai {sz k : Nat} {s : PS} (h : POk sz s) (hk : k ≤ 5) : POk sz (fai k s) := by
  show POk sz (if s.2.1 = 0 then (s.1, (if s.1.2.2.1 = 3 then 1 else k), s.1.1, s.2.2.2) else s)
  split
  · refine ⟨h.1, h.2.1, h.2.2.1, ?_, h.2.2.2.2⟩
    show (if _ then 1 else k) ≤ 5
    split <;> omega
  · exact h
theorem POk.nxt {sz : Nat} {tp : Nat → Nat} {s : PS} (h : POk sz s) : POk sz (nxt tp sz s) := ⟨(tokM_ok h.2.1).1, (tokM_ok h.2.1).2.1, (tokM_ok h.2.1).2.2, h.2.2.2⟩
theorem cldG_lt {nm : Nat → Int32} {v : Int32} : ∀ {k p q : Nat}, cldG nm v k p = some q → q < p + k
  | 0, _, _, h => by cases h
  | k + 1, p, q, h => by
    unfold cldG at h
    split at h
    · cases h; omega
    · have := cldG_lt h; omega
theorem cld_lt {s : PS} {q : Nat} (h : cld s = some q) : q < s.2.2.2.1 := by have := cldG_lt h; omega
theorem eX12_isGood {G : Gx} {d : Nat} {σ : Hp} (hd : 0 ≤ d) {σ0 : Hp} {m sz : Nat} {α0 : Nat → Int32} {B0 : Nat → Nat → Int32} {s : PS} (hX : PX σ0 σ m α0 B0 sz s) : Cl G mX12_isGood d [.ref m] σ 0 0 (pI fun r s2 => r = bI (s.2.1 = 0) ∧ s2 = σ) := by
  refine cl_of (by decide) (by simp [Value.category]) (Nat.le_of_ble_eq_true rfl) ?_
  show Wp G mX12_isGood d 0 [.ref m] [] σ 0 0 _
  obtain ⟨α, B, hM, hfa, hfb, hP, hO⟩ := hX
  obtain ⟨o1, o2, o3, o4, o5, o6⟩ := id hO
  refine wp_aload_n (atd dX12_isGood 0 rfl) rfl rfl ?_
  refine wp_get fX12_115 (atd dX12_isGood 1 rfl) hM.1.1 (congrArg (fun z => some (Value.int z)) hP.2.1) ?_
  refine wp_ifN_ne (tgt := 11) (atd dX12_isGood 2 rfl) (by decide) (by omega) (fun c_4 => ?_) (fun c_4 => ?_)
  ·
    refine wp_iconst (v := nI 0) (atd dX12_isGood 5 rfl) (by decide) ?_
    refine wp_iretz (atd dX12_isGood 6 rfl) rfl (by first | rfl | decide) ?_
    exact ⟨(bI_f (by omega)).symm, rfl⟩
  ·
    refine wp_iconst (v := nI 1) (atd dX12_isGood 3 rfl) (by decide) ?_
    refine wp_goto (tgt := 12) (atd dX12_isGood 4 rfl) (by decide) ?_
    refine wp_iretz (atd dX12_isGood 6 rfl) rfl (by first | rfl | decide) ?_
    exact ⟨(bI_t c_4).symm, rfl⟩
theorem eX12_fails {G : Gx} {d : Nat} {σ : Hp} (hd : 0 ≤ d) {σ0 : Hp} {m sz : Nat} {α0 : Nat → Int32} {B0 : Nat → Nat → Int32} {s : PS} (hX : PX σ0 σ m α0 B0 sz s) {k : Nat} (hk : k ≤ 5) : Cl G mX12_fails d [.ref m, .int (nI k)] σ 0 0 (pV fun s2 => PX σ0 s2 m α0 B0 sz (fai k s)) := by
  refine cl_of (by decide) (by simp [Value.category]) (Nat.le_of_ble_eq_true rfl) ?_
  show Wp G mX12_fails d 0 [.ref m, .int (nI k)] [] σ 0 0 _
  obtain ⟨α, B, hM, hfa, hfb, hP, hO⟩ := hX
  obtain ⟨o1, o2, o3, o4, o5, o6⟩ := id hO
  refine wp_aload_n (atd dX12_fails 0 rfl) rfl rfl ?_
  refine wp_get fX12_115 (atd dX12_fails 1 rfl) hM.1.1 (congrArg (fun z => some (Value.int z)) hP.2.1) ?_
  refine wp_ifN_ne (tgt := 32) (atd dX12_fails 2 rfl) (by decide) (by omega) (fun c_4 => ?_) (fun c_4 => ?_)
  ·
    refine wp_vretv (atd dX12_fails 16 rfl) rfl ?_
    refine ⟨α, B, hM, hfa, hfb, ?_, hO.fai hk⟩
    rw [fai_bad (by omega)]; exact hP
  ·
    refine wp_aload_n (atd dX12_fails 3 rfl) rfl rfl ?_
    refine wp_aload_n (atd dX12_fails 4 rfl) rfl rfl ?_
    refine wp_get fX12_108 (atd dX12_fails 5 rfl) hM.1.1 (congrArg (fun z => some (Value.int z)) hP.1.2.2.1) ?_
    refine wp_iconst (v := nI 3) (atd dX12_fails 6 rfl) (by decide) ?_
    refine wp_icmpN_ne (tgt := 20) (atd dX12_fails 7 rfl) (by decide) (by omega) (by omega) (fun c_13 => ?_) (fun c_13 => ?_)
    ·
      refine wp_iload_n (atd dX12_fails 10 rfl) rfl ?_
      refine wp_putM fX12_115 (atd dX12_fails 11 rfl) hM rfl (fun σ hM => ?_)
      refine wp_aload_n (atd dX12_fails 12 rfl) rfl rfl ?_
      refine wp_aload_n (atd dX12_fails 13 rfl) rfl rfl ?_
      refine wp_get fX12_102 (atd dX12_fails 14 rfl) hM.1.1 (congrArg (fun z => some (Value.int z)) hP.1.1) ?_
      refine wp_putM fX12_118 (atd dX12_fails 15 rfl) hM rfl (fun σ hM => ?_)
      refine wp_vretv (atd dX12_fails 16 rfl) rfl ?_
      refine ⟨_, B, hM, (hfa.up (by decide)).up (by decide), hfb, ?_, hO.fai hk⟩
      rw [show fai k s = (s.1, (if s.1.2.2.1 = 3 then 1 else k), s.1.1, s.2.2.2) from if_pos c_4, if_neg c_13]
      exact ⟨hP.1, rfl, rfl, hP.2.2.2⟩
    ·
      refine wp_iconst (v := nI 1) (atd dX12_fails 8 rfl) (by decide) ?_
      refine wp_goto (tgt := 21) (atd dX12_fails 9 rfl) (by decide) ?_
      refine wp_putM fX12_115 (atd dX12_fails 11 rfl) hM rfl (fun σ hM => ?_)
      refine wp_aload_n (atd dX12_fails 12 rfl) rfl rfl ?_
      refine wp_aload_n (atd dX12_fails 13 rfl) rfl rfl ?_
      refine wp_get fX12_102 (atd dX12_fails 14 rfl) hM.1.1 (congrArg (fun z => some (Value.int z)) hP.1.1) ?_
      refine wp_putM fX12_118 (atd dX12_fails 15 rfl) hM rfl (fun σ hM => ?_)
      refine wp_vretv (atd dX12_fails 16 rfl) rfl ?_
      refine ⟨_, B, hM, (hfa.up (by decide)).up (by decide), hfb, ?_, hO.fai hk⟩
      rw [show fai k s = (s.1, (if s.1.2.2.1 = 3 then 1 else k), s.1.1, s.2.2.2) from if_pos c_4, if_pos c_13]
      exact ⟨hP.1, rfl, rfl, hP.2.2.2⟩
theorem eX12_isWord {G : Gx} {d : Nat} {σ : Hp} (hd : 0 ≤ d) {σ0 : Hp} {m sz : Nat} {α0 : Nat → Int32} {B0 : Nat → Nat → Int32} {s : PS} (hX : PX σ0 σ m α0 B0 sz s) {w : Int32} : Cl G mX12_isWord d [.ref m, .int w] σ 0 0 (pI fun r s2 => r = bI (s.1.2.2.1 = 1 ∧ s.1.2.2.2 = w) ∧ s2 = σ) := by
  refine cl_of (by decide) (by simp [Value.category]) (Nat.le_of_ble_eq_true rfl) ?_
  show Wp G mX12_isWord d 0 [.ref m, .int w] [] σ 0 0 _
  obtain ⟨α, B, hM, hfa, hfb, hP, hO⟩ := hX
  obtain ⟨o1, o2, o3, o4, o5, o6⟩ := id hO
  refine wp_aload_n (atd dX12_isWord 0 rfl) rfl rfl ?_
  refine wp_get fX12_108 (atd dX12_isWord 1 rfl) hM.1.1 (congrArg (fun z => some (Value.int z)) hP.1.2.2.1) ?_
  refine wp_iconst (v := nI 1) (atd dX12_isWord 2 rfl) (by decide) ?_
  refine wp_icmpN_ne (tgt := 20) (atd dX12_isWord 3 rfl) (by decide) (by omega) (by omega) (fun c_5 => ?_) (fun c_5 => ?_)
  ·
    refine wp_iconst (v := nI 0) (atd dX12_isWord 10 rfl) (by decide) ?_
    refine wp_iretz (atd dX12_isWord 11 rfl) rfl (by first | rfl | decide) ?_
    exact ⟨(bI_f (fun z => c_5 z.1)).symm, rfl⟩
  ·
    refine wp_aload_n (atd dX12_isWord 4 rfl) rfl rfl ?_
    refine wp_get fX12_105 (atd dX12_isWord 5 rfl) hM.1.1 (congrArg (fun z => some (Value.int z)) hP.1.2.2.2) ?_
    refine wp_iload_n (atd dX12_isWord 6 rfl) rfl ?_
    refine wp_icmp_ne (tgt := 20) (atd dX12_isWord 7 rfl) (by decide) (fun c_13 => ?_) (fun c_13 => ?_)
    ·
      refine wp_iconst (v := nI 0) (atd dX12_isWord 10 rfl) (by decide) ?_
      refine wp_iretz (atd dX12_isWord 11 rfl) rfl (by first | rfl | decide) ?_
      exact ⟨(bI_f (fun z => c_13 z.2)).symm, rfl⟩
    ·
      refine wp_iconst (v := nI 1) (atd dX12_isWord 8 rfl) (by decide) ?_
      refine wp_goto (tgt := 21) (atd dX12_isWord 9 rfl) (by decide) ?_
      refine wp_iretz (atd dX12_isWord 11 rfl) rfl (by first | rfl | decide) ?_
      exact ⟨(bI_t ⟨c_5, Classical.not_not.mp c_13⟩).symm, rfl⟩
theorem lX12_called {G : Gx} {d : Nat} {σ : Hp} {σ0 : Hp} {m sz : Nat} {α0 : Nat → Int32} {B0 : Nat → Nat → Int32} {s : PS} {v : Option Nat} (hX : PX σ0 σ m α0 B0 sz s) : ∀ (k : Nat) (p : Nat), p + k = s.2.2.2.1 → cldG s.2.2.2.2.1 s.1.2.2.2 k p = v → Wp G mX12_called d 2 [.ref m, .int (nI p)] [] σ 0 0 (pI fun r s2 => r = oI v ∧ s2 = σ) := by
  obtain ⟨α, B, hM, hfa, hfb, hP, hO⟩ := hX
  obtain ⟨o1, o2, o3, o4, o5, o6⟩ := id hO
  intro k
  induction k with
  | zero =>
    intro p h hv
    refine wp_iload_n (atd dX12_called 2 rfl) rfl ?_
    refine wp_aload_n (atd dX12_called 3 rfl) rfl rfl ?_
    refine wp_get fX12_128 (atd dX12_called 4 rfl) hM.1.1 (congrArg (fun z => some (Value.int z)) hP.2.2.2.1) ?_
    refine wp_icmpN_ge (tgt := 31) (atd dX12_called 5 rfl) (by decide) (by omega) (by omega) (fun c_7 => ?_) (fun c_7 => ?_)
    ·
      refine wp_iconst (v := -1) (atd dX12_called 17 rfl) (by decide) ?_
      refine wp_ireti (atd dX12_called 18 rfl) rfl ?_
      exact ⟨by rw [← hv]; rfl, rfl⟩
    · exfalso; omega
  | succ k ih =>
    intro p h hv
    refine wp_iload_n (atd dX12_called 2 rfl) rfl ?_
    refine wp_aload_n (atd dX12_called 3 rfl) rfl rfl ?_
    refine wp_get fX12_128 (atd dX12_called 4 rfl) hM.1.1 (congrArg (fun z => some (Value.int z)) hP.2.2.2.1) ?_
    refine wp_icmpN_ge (tgt := 31) (atd dX12_called 5 rfl) (by decide) (by omega) (by omega) (fun c_7 => ?_) (fun c_7 => ?_)
    · exfalso; omega
    ·
      refine wp_aload_n (atd dX12_called 6 rfl) rfl rfl ?_
      refine wp_get fX12_16 (atd dX12_called 7 rfl) hM.1.1 rfl ?_
      refine wp_iload_n (atd dX12_called 8 rfl) rfl ?_
      refine wp_ialdN (atd dX12_called 9 rfl) hM.a3 (show _ < 9 from by omega) (Nat.le_of_ble_eq_true rfl) ?_
      rw [hP.2.2.2.2.1 p (by omega)]
      refine wp_aload_n (atd dX12_called 10 rfl) rfl rfl ?_
      refine wp_get fX12_105 (atd dX12_called 11 rfl) hM.1.1 (congrArg (fun z => some (Value.int z)) hP.1.2.2.2) ?_
      refine wp_icmp_ne (tgt := 25) (atd dX12_called 12 rfl) (by decide) (fun c_20 => ?_) (fun c_20 => ?_)
      ·
        refine wp_iincN (c := 1) (atd dX12_called 15 rfl) rfl ?_
        refine wp_goto (tgt := 2) (atd dX12_called 16 rfl) (by decide) ?_
        exact ih (p + 1) (by omega) (by rw [← hv]; simp [cldG, c_20])
      ·
        refine wp_iload_n (atd dX12_called 13 rfl) rfl ?_
        refine wp_ireti (atd dX12_called 14 rfl) rfl ?_
        exact ⟨by rw [← hv]; simp [cldG, oI, Classical.not_not.mp c_20], rfl⟩
theorem eX12_called {G : Gx} {d : Nat} {σ : Hp} (hd : 0 ≤ d) {σ0 : Hp} {m sz : Nat} {α0 : Nat → Int32} {B0 : Nat → Nat → Int32} {s : PS} (hX : PX σ0 σ m α0 B0 sz s) : Cl G mX12_called d [.ref m] σ 0 0 (pI fun r s2 => r = oI (cld s) ∧ s2 = σ) := by
  refine cl_of (by decide) (by simp [Value.category]) (Nat.le_of_ble_eq_true rfl) ?_
  show Wp G mX12_called d 0 [.ref m, .double 0] [] σ 0 0 _
  refine wp_iconst (v := nI 0) (atd dX12_called 0 rfl) (by decide) ?_
  refine wp_istore_n (atd dX12_called 1 rfl) (Nat.le_of_ble_eq_true rfl) ?_
  exact lX12_called hX s.2.2.2.1 0 (by omega) rfl
theorem eX12_nx {G : Gx} {d : Nat} {σ : Hp} (hd : 2 ≤ d) {σ0 : Hp} {m sz : Nat} {tp : Nat → Nat} (hsz : sz ≤ 600) (ht : ∀ k, tp k < 256) {α0 : Nat → Int32} {B0 : Nat → Nat → Int32} (h70 : α0 7 = nI sz) (hB0 : ∀ j, j < sz → B0 2 j = nI (tp j)) {s : PS} (hX : PX σ0 σ m α0 B0 sz s) : Cl G mX12_next d [.ref m] σ 0 0 (pV fun s2 => PX σ0 s2 m α0 B0 sz (nxt tp sz s)) := by
  obtain ⟨α, B, hM, hfa, hfb, hP, hO⟩ := hX
  have h7 : α 7 = nI sz := (hfa 7 (by decide)).trans h70
  have hB : ∀ j, j < sz → B 2 j = nI (tp j) := fun j hj => by rw [hfb 2 (by decide)]; exact hB0 j hj
  refine cl_post (eX12_next hd hsz ht hM.self hB h7 hP.1.2.1 hO.2.1) ?_
  rintro v s2 ⟨rfl, hM2⟩
  refine ⟨rfl, _, B, hM.trans hM2, ?_, hfb, ⟨⟨rfl, rfl, rfl, rfl⟩, hP.2⟩, hO.nxt⟩
  exact (((hfa.up (by decide)).up (by decide)).up (by decide)).up (by decide)
theorem eX12_goOn {G : Gx} {d : Nat} {σ : Hp} (hd : 3 ≤ d) {σ0 : Hp} {m sz : Nat} {tp : Nat → Nat} (hsz : sz ≤ 600) (ht : ∀ k, tp k < 256) {α0 : Nat → Int32} {B0 : Nat → Nat → Int32} (h70 : α0 7 = nI sz) (hB0 : ∀ j, j < sz → B0 2 j = nI (tp j)) {s : PS} (hX : PX σ0 σ m α0 B0 sz s) : Cl G mX12_goOn d [.ref m] σ 0 0 (pV fun s2 => PX σ0 s2 m α0 B0 sz (if s.2.1 = 0 then nxt tp sz s else s)) := by
  obtain ⟨d0, hdd⟩ : ∃ e, d = e + 1 := ⟨d - 1, by omega⟩
  refine cl_of (by decide) (by simp [Value.category]) (Nat.le_of_ble_eq_true rfl) ?_
  show Wp G mX12_goOn d 0 [.ref m] [] σ 0 0 _
  obtain ⟨α, B, hM, hfa, hfb, hP, hO⟩ := id hX
  obtain ⟨o1, o2, o3, o4, o5, o6⟩ := id hO
  refine wp_aload_n (atd dX12_goOn 0 rfl) rfl rfl ?_
  refine wp_cVi hdd [] (atd dX12_goOn 1 rfl) iX12_isGood lX12_121 rfl rfl (Nat.le_of_ble_eq_true rfl) hM.1.1 rfl (eX12_isGood (by omega) hX) (fun r_1 s_1 h_1 => ?_)
  obtain ⟨rfl, rfl⟩ := h_1
  refine wp_ifB_eq (tgt := 11) (atd dX12_goOn 2 rfl) (by decide) (fun c_4 => ?_) (fun c_4 => ?_)
  ·
    refine wp_vretv (atd dX12_goOn 5 rfl) rfl ?_
    rw [if_neg c_4]; exact hX
  ·
    refine wp_aload_n (atd dX12_goOn 3 rfl) rfl rfl ?_
    refine wp_cVv hdd [] (atd dX12_goOn 4 rfl) iX12_next lX12_125 rfl rfl (Nat.le_of_ble_eq_true rfl) hM.1.1 rfl (eX12_nx (by omega) hsz ht h70 hB0 hX) (fun s_8 h_8 => ?_)
    have hX := h_8
    refine wp_vretv (atd dX12_goOn 5 rfl) rfl ?_
    rw [if_pos c_4]; exact hX
theorem eX12_mustBeName {G : Gx} {d : Nat} {σ : Hp} (hd : 1 ≤ d) {σ0 : Hp} {m sz : Nat} {α0 : Nat → Int32} {B0 : Nat → Nat → Int32} {s : PS} (hX : PX σ0 σ m α0 B0 sz s) : Cl G mX12_mustBeName d [.ref m] σ 0 0 (pV fun s2 => PX σ0 s2 m α0 B0 sz (mbn s)) := by
  obtain ⟨d0, hdd⟩ : ∃ e, d = e + 1 := ⟨d - 1, by omega⟩
  refine cl_of (by decide) (by simp [Value.category]) (Nat.le_of_ble_eq_true rfl) ?_
  show Wp G mX12_mustBeName d 0 [.ref m] [] σ 0 0 _
  obtain ⟨α, B, hM, hfa, hfb, hP, hO⟩ := id hX
  obtain ⟨o1, o2, o3, o4, o5, o6⟩ := id hO
  refine wp_aload_n (atd dX12_mustBeName 0 rfl) rfl rfl ?_
  refine wp_get fX12_108 (atd dX12_mustBeName 1 rfl) hM.1.1 (congrArg (fun z => some (Value.int z)) hP.1.2.2.1) ?_
  refine wp_iconst (v := nI 1) (atd dX12_mustBeName 2 rfl) (by decide) ?_
  refine wp_icmpN_ne (tgt := 26) (atd dX12_mustBeName 3 rfl) (by decide) (by omega) (by omega) (fun c_5 => ?_) (fun c_5 => ?_)
  ·
    refine wp_aload_n (atd dX12_mustBeName 12 rfl) rfl rfl ?_
    refine wp_iconst (v := nI 2) (atd dX12_mustBeName 13 rfl) (by decide) ?_
    refine wp_cVv hdd [_] (atd dX12_mustBeName 14 rfl) iX12_fails lX12_136 rfl rfl (Nat.le_of_ble_eq_true rfl) hM.1.1 rfl (eX12_fails (by omega) hX (k := 2) (by omega)) (fun s_28 h_28 => ?_)
    have hX := h_28
    refine wp_vretv (atd dX12_mustBeName 15 rfl) rfl ?_
    unfold mbn
    rw [if_neg (fun z => c_5 z.1)]; exact hX
  ·
    refine wp_aload_n (atd dX12_mustBeName 4 rfl) rfl rfl ?_
    refine wp_ldc (atd dX12_mustBeName 5 rfl) qX12_131 ?_
    refine wp_cVi hdd [_] (atd dX12_mustBeName 6 rfl) iX12_isWord lX12_132 rfl rfl (Nat.le_of_ble_eq_true rfl) hM.1.1 rfl (eX12_isWord (by omega) hX) (fun r_11 s_11 h_11 => ?_)
    obtain ⟨rfl, rfl⟩ := h_11
    refine wp_ifB_ne (tgt := 26) (atd dX12_mustBeName 7 rfl) (by decide) (fun c_14 => ?_) (fun c_14 => ?_)
    ·
      refine wp_aload_n (atd dX12_mustBeName 12 rfl) rfl rfl ?_
      refine wp_iconst (v := nI 2) (atd dX12_mustBeName 13 rfl) (by decide) ?_
      refine wp_cVv hdd [_] (atd dX12_mustBeName 14 rfl) iX12_fails lX12_136 rfl rfl (Nat.le_of_ble_eq_true rfl) hM.1.1 rfl (eX12_fails (by omega) hX (k := 2) (by omega)) (fun s_28 h_28 => ?_)
      have hX := h_28
      refine wp_vretv (atd dX12_mustBeName 15 rfl) rfl ?_
      unfold mbn
      rw [if_neg (fun z => z.2.1 c_14.2)]; exact hX
    ·
      refine wp_aload_n (atd dX12_mustBeName 8 rfl) rfl rfl ?_
      refine wp_ldc (atd dX12_mustBeName 9 rfl) qX12_135 ?_
      refine wp_cVi hdd [_] (atd dX12_mustBeName 10 rfl) iX12_isWord lX12_132 rfl rfl (Nat.le_of_ble_eq_true rfl) hM.1.1 rfl (eX12_isWord (by omega) hX) (fun r_20 s_20 h_20 => ?_)
      obtain ⟨rfl, rfl⟩ := h_20
      refine wp_ifB_eq (tgt := 31) (atd dX12_mustBeName 11 rfl) (by decide) (fun c_23 => ?_) (fun c_23 => ?_)
      ·
        refine wp_vretv (atd dX12_mustBeName 15 rfl) rfl ?_
        unfold mbn
        rw [if_pos ⟨c_5, fun e => c_14 ⟨c_5, e⟩, fun e => c_23 ⟨c_5, e⟩⟩]; exact hX
      ·
        refine wp_aload_n (atd dX12_mustBeName 12 rfl) rfl rfl ?_
        refine wp_iconst (v := nI 2) (atd dX12_mustBeName 13 rfl) (by decide) ?_
        refine wp_cVv hdd [_] (atd dX12_mustBeName 14 rfl) iX12_fails lX12_136 rfl rfl (Nat.le_of_ble_eq_true rfl) hM.1.1 rfl (eX12_fails (by omega) hX (k := 2) (by omega)) (fun s_28 h_28 => ?_)
        have hX := h_28
        refine wp_vretv (atd dX12_mustBeName 15 rfl) rfl ?_
        unfold mbn
        rw [if_neg (fun z => z.2.2 c_23.2)]; exact hX
theorem PSt.plc {α : Nat → Int32} {B : Nat → Nat → Int32} {s : PS} (h : PSt α B s) : PSt (upd α 16 (nI (s.2.2.2.1 + 1))) (va_up (va_up B 3 (upd (B 3) s.2.2.2.1 s.1.2.2.2)) 4 (upd (B 4) s.2.2.2.1 (nI (2 ^ s.2.2.2.1)))) (plc s) := by
  refine ⟨h.1, h.2.1, h.2.2.1, rfl, fun i hi => ?_, fun i hi => ?_⟩
  · show upd (B 3) s.2.2.2.1 s.1.2.2.2 i = upd s.2.2.2.2.1 s.2.2.2.1 s.1.2.2.2 i
    have hi' : i < s.2.2.2.1 + 1 := hi
    by_cases e : i = s.2.2.2.1
    · simp [upd, e]
    · simp [upd, e, h.2.2.2.2.1 i (by omega)]
  · show upd (B 4) s.2.2.2.1 (nI (2 ^ s.2.2.2.1)) i = nI (va_up s.2.2.2.2.2 s.2.2.2.1 (2 ^ s.2.2.2.1) i)
    have hi' : i < s.2.2.2.1 + 1 := hi
    by_cases e : i = s.2.2.2.1
    · simp [upd, va_up, e]
    · simp [upd, va_up, e, h.2.2.2.2.2 i (by omega)]
theorem POk.plc {sz : Nat} {s : PS} (h : POk sz s) (hr : s.2.2.2.1 < 9) : POk sz (plc s) := by
  refine ⟨h.1, h.2.1, h.2.2.1, h.2.2.2.1, by show s.2.2.2.1 + 1 ≤ 9; omega, fun i => ?_⟩
  show va_up s.2.2.2.2.2 s.2.2.2.1 (2 ^ s.2.2.2.1) i < 512
  unfold va_up
  split
  · exact pow_lt9 hr
  · exact h.2.2.2.2.2 i
theorem mbn_rd {s : PS} : (mbn s).2.2.2 = s.2.2.2 := by
  unfold mbn
  split
  · rfl
  · unfold fai
    split <;> rfl
theorem eX12_readPlace {G : Gx} {d : Nat} {σ : Hp} (hd : 4 ≤ d) {σ0 : Hp} {m sz : Nat} {tp : Nat → Nat} (hsz : sz ≤ 600) (ht : ∀ k, tp k < 256) {α0 : Nat → Int32} {B0 : Nat → Nat → Int32} (h70 : α0 7 = nI sz) (hB0 : ∀ j, j < sz → B0 2 j = nI (tp j)) {s : PS} (hX : PX σ0 σ m α0 B0 sz s) : Cl G mX12_readPlace d [.ref m] σ 0 0 (pV fun s2 => PX σ0 s2 m α0 B0 sz (rdP tp sz s)) := by
  obtain ⟨d0, hdd⟩ : ∃ e, d = e + 1 := ⟨d - 1, by omega⟩
  refine cl_of (by decide) (by simp [Value.category]) (Nat.le_of_ble_eq_true rfl) ?_
  show Wp G mX12_readPlace d 0 [.ref m] [] σ 0 0 _
  obtain ⟨α, B, hM, hfa, hfb, hP, hO⟩ := id hX
  obtain ⟨o1, o2, o3, o4, o5, o6⟩ := id hO
  refine wp_aload_n (atd dX12_readPlace 0 rfl) rfl rfl ?_
  refine wp_get fX12_128 (atd dX12_readPlace 1 rfl) hM.1.1 (congrArg (fun z => some (Value.int z)) hP.2.2.2.1) ?_
  refine wp_bipush (v := nI 9) (atd dX12_readPlace 2 rfl) (by decide) ?_
  refine wp_icmpN_ne (tgt := 15) (atd dX12_readPlace 3 rfl) (by decide) (by omega) (by omega) (fun c_6 => ?_) (fun c_6 => ?_)
  ·
    refine wp_aload_n (atd dX12_readPlace 8 rfl) rfl rfl ?_
    refine wp_cVv hdd [] (atd dX12_readPlace 9 rfl) iX12_next lX12_125 rfl rfl (Nat.le_of_ble_eq_true rfl) hX.choose_spec.choose_spec.1.1.1 rfl (eX12_nx (by omega) hsz ht h70 hB0 hX) (fun s_16 h_16 => ?_)
    have hX := h_16
    refine wp_aload_n (atd dX12_readPlace 10 rfl) rfl rfl ?_
    refine wp_cVv hdd [] (atd dX12_readPlace 11 rfl) iX12_mustBeName lX12_139 rfl rfl (Nat.le_of_ble_eq_true rfl) hX.choose_spec.choose_spec.1.1.1 rfl (eX12_mustBeName (by omega) hX) (fun s_20 h_20 => ?_)
    have hX := h_20
    generalize hs1 : mbn (nxt tp sz s) = s1 at hX
    have hrd : s1.2.2.2.1 = s.2.2.2.1 := by rw [← hs1, mbn_rd]; rfl
    refine wp_aload_n (atd dX12_readPlace 12 rfl) rfl rfl ?_
    refine wp_cVi hdd [] (atd dX12_readPlace 13 rfl) iX12_isGood lX12_121 rfl rfl (Nat.le_of_ble_eq_true rfl) hX.choose_spec.choose_spec.1.1.1 rfl (eX12_isGood (by omega) hX) (fun r_24 s_24 h_24 => ?_)
    obtain ⟨rfl, rfl⟩ := h_24
    refine wp_ifB_eq (tgt := 42) (atd dX12_readPlace 14 rfl) (by decide) (fun c_27 => ?_) (fun c_27 => ?_)
    ·
      refine wp_aload_n (atd dX12_readPlace 21 rfl) rfl rfl ?_
      refine wp_cVi hdd [] (atd dX12_readPlace 22 rfl) iX12_isGood lX12_121 rfl rfl (Nat.le_of_ble_eq_true rfl) hX.choose_spec.choose_spec.1.1.1 rfl (eX12_isGood (by omega) hX) (fun r_43 s_43 h_43 => ?_)
      obtain ⟨rfl, rfl⟩ := h_43
      refine wp_ifB_eq (tgt := 87) (atd dX12_readPlace 23 rfl) (by decide) (fun c_46 => ?_) (fun c_46 => ?_)
      ·
        refine wp_aload_n (atd dX12_readPlace 46 rfl) rfl rfl ?_
        refine wp_cVv hdd [] (atd dX12_readPlace 47 rfl) iX12_goOn lX12_146 rfl rfl (Nat.le_of_ble_eq_true rfl) hX.choose_spec.choose_spec.1.1.1 rfl (eX12_goOn (by omega) hsz ht h70 hB0 hX) (fun s_88 h_88 => ?_)
        have hX := h_88
        refine wp_vretv (atd dX12_readPlace 48 rfl) rfl ?_
        rw [if_neg c_27] at hX
        unfold rdP; rw [if_neg c_6, hs1, if_neg c_27]; exact hX
      · exact absurd c_46 c_27
    ·
      refine wp_aload_n (atd dX12_readPlace 15 rfl) rfl rfl ?_
      refine wp_cVi hdd [] (atd dX12_readPlace 16 rfl) iX12_called lX12_142 rfl rfl (Nat.le_of_ble_eq_true rfl) hX.choose_spec.choose_spec.1.1.1 rfl (eX12_called (by omega) hX) (fun r_31 s_31 h_31 => ?_)
      obtain ⟨rfl, rfl⟩ := h_31
      generalize hx : cld s1 = xx; rcases xx with _ | q
      ·
        refine wp_if_lt (tgt := 42) (atd dX12_readPlace 17 rfl) (by decide) (fun c_34 => ?_) (fun c_34 => ?_)
        ·
          refine wp_aload_n (atd dX12_readPlace 21 rfl) rfl rfl ?_
          refine wp_cVi hdd [] (atd dX12_readPlace 22 rfl) iX12_isGood lX12_121 rfl rfl (Nat.le_of_ble_eq_true rfl) hX.choose_spec.choose_spec.1.1.1 rfl (eX12_isGood (by omega) hX) (fun r_43 s_43 h_43 => ?_)
          obtain ⟨rfl, rfl⟩ := h_43
          refine wp_ifB_eq (tgt := 87) (atd dX12_readPlace 23 rfl) (by decide) (fun c_46 => ?_) (fun c_46 => ?_)
          · exact absurd c_27 c_46
          ·
            obtain ⟨α, B, hM, hfa, hfb, hP, hO⟩ := id hX
            obtain ⟨o1, o2, o3, o4, o5, o6⟩ := id hO
            refine wp_aload_n (atd dX12_readPlace 24 rfl) rfl rfl ?_
            refine wp_get fX12_16 (atd dX12_readPlace 25 rfl) hM.1.1 rfl ?_
            refine wp_aload_n (atd dX12_readPlace 26 rfl) rfl rfl ?_
            refine wp_get fX12_128 (atd dX12_readPlace 27 rfl) hM.1.1 (congrArg (fun z => some (Value.int z)) hP.2.2.2.1) ?_
            refine wp_aload_n (atd dX12_readPlace 28 rfl) rfl rfl ?_
            refine wp_get fX12_105 (atd dX12_readPlace 29 rfl) hM.1.1 (congrArg (fun z => some (Value.int z)) hP.1.2.2.2) ?_
            refine wp_iastM (j := 3) (atd dX12_readPlace 30 rfl) hM (by decide) (by decide) rfl (show _ < 9 from by omega) (fun σ hM => ?_)
            refine wp_aload_n (atd dX12_readPlace 31 rfl) rfl rfl ?_
            refine wp_get fX12_19 (atd dX12_readPlace 32 rfl) hM.1.1 rfl ?_
            refine wp_aload_n (atd dX12_readPlace 33 rfl) rfl rfl ?_
            refine wp_get fX12_128 (atd dX12_readPlace 34 rfl) hM.1.1 (congrArg (fun z => some (Value.int z)) hP.2.2.2.1) ?_
            refine wp_iconst (v := nI 1) (atd dX12_readPlace 35 rfl) (by decide) ?_
            refine wp_aload_n (atd dX12_readPlace 36 rfl) rfl rfl ?_
            refine wp_get fX12_128 (atd dX12_readPlace 37 rfl) hM.1.1 (congrArg (fun z => some (Value.int z)) hP.2.2.2.1) ?_
            refine wp_ishl1 (atd dX12_readPlace 38 rfl) (by omega) ?_
            refine wp_iastM (j := 4) (atd dX12_readPlace 39 rfl) hM (by decide) (by decide) rfl (show _ < 9 from by omega) (fun σ hM => ?_)
            refine wp_aload_n (atd dX12_readPlace 40 rfl) rfl rfl ?_
            refine wp_dup (atd dX12_readPlace 41 rfl) rfl ?_
            refine wp_get fX12_128 (atd dX12_readPlace 42 rfl) hM.1.1 (congrArg (fun z => some (Value.int z)) hP.2.2.2.1) ?_
            refine wp_iconst (v := nI 1) (atd dX12_readPlace 43 rfl) (by decide) ?_
            refine wp_iaddN (atd dX12_readPlace 44 rfl) ?_
            refine wp_putM fX12_128 (atd dX12_readPlace 45 rfl) hM rfl (fun σ hM => ?_)
            have hX : PX σ0 _ m α0 B0 sz (plc s1) := ⟨_, _, hM, hfa.up (by decide), (hfb.va (by decide)).va (by decide), hP.plc, hO.plc (by omega)⟩
            refine wp_aload_n (atd dX12_readPlace 46 rfl) rfl rfl ?_
            refine wp_cVv hdd [] (atd dX12_readPlace 47 rfl) iX12_goOn lX12_146 rfl rfl (Nat.le_of_ble_eq_true rfl) hX.choose_spec.choose_spec.1.1.1 rfl (eX12_goOn (by omega) hsz ht h70 hB0 hX) (fun s_88 h_88 => ?_)
            have hX := h_88
            refine wp_vretv (atd dX12_readPlace 48 rfl) rfl ?_
            rw [if_pos (show (plc s1).2.1 = 0 from c_27)] at hX
            unfold rdP; rw [if_neg c_6, hs1, if_pos c_27, hx]; exact hX
        · exact absurd (by decide) c_34
      ·
        have hq9 := cld_lt hx
        obtain ⟨α, B, hM, hfa, hfb, hP, hO⟩ := id hX
        obtain ⟨o1, o2, o3, o4, o5, o6⟩ := id hO
        refine wp_ifN_lt (tgt := 42) (atd dX12_readPlace 17 rfl) (by decide) (by omega) ?_
        refine wp_aload_n (atd dX12_readPlace 18 rfl) rfl rfl ?_
        refine wp_iconst (v := nI 3) (atd dX12_readPlace 19 rfl) (by decide) ?_
        refine wp_cVv hdd [_] (atd dX12_readPlace 20 rfl) iX12_fails lX12_136 rfl rfl (Nat.le_of_ble_eq_true rfl) hX.choose_spec.choose_spec.1.1.1 rfl (eX12_fails (by omega) hX (k := 3) (by omega)) (fun s_39 h_39 => ?_)
        have hX := h_39
        refine wp_aload_n (atd dX12_readPlace 21 rfl) rfl rfl ?_
        refine wp_cVi hdd [] (atd dX12_readPlace 22 rfl) iX12_isGood lX12_121 rfl rfl (Nat.le_of_ble_eq_true rfl) hX.choose_spec.choose_spec.1.1.1 rfl (eX12_isGood (by omega) hX) (fun r_43 s_43 h_43 => ?_)
        obtain ⟨rfl, rfl⟩ := h_43
        refine wp_ifB_eq (tgt := 87) (atd dX12_readPlace 23 rfl) (by decide) (fun c_46 => ?_) (fun c_46 => ?_)
        ·
          refine wp_aload_n (atd dX12_readPlace 46 rfl) rfl rfl ?_
          refine wp_cVv hdd [] (atd dX12_readPlace 47 rfl) iX12_goOn lX12_146 rfl rfl (Nat.le_of_ble_eq_true rfl) hX.choose_spec.choose_spec.1.1.1 rfl (eX12_goOn (by omega) hsz ht h70 hB0 hX) (fun s_88 h_88 => ?_)
          have hX := h_88
          refine wp_vretv (atd dX12_readPlace 48 rfl) rfl ?_
          rw [if_neg (fai_ne (by decide))] at hX
          unfold rdP; rw [if_neg c_6, hs1, if_pos c_27, hx]; exact hX
        · exact absurd c_46 (fai_ne (by decide))
  ·
    refine wp_aload_n (atd dX12_readPlace 4 rfl) rfl rfl ?_
    refine wp_iconst (v := nI 5) (atd dX12_readPlace 5 rfl) (by decide) ?_
    refine wp_cVv hdd [_] (atd dX12_readPlace 6 rfl) iX12_fails lX12_136 rfl rfl (Nat.le_of_ble_eq_true rfl) hX.choose_spec.choose_spec.1.1.1 rfl (eX12_fails (by omega) hX (k := 5) (by omega)) (fun s_11 h_11 => ?_)
    have hX := h_11
    refine wp_vretv (atd dX12_readPlace 7 rfl) rfl ?_
    rw [show rdP tp sz s = fai 5 s from if_pos c_6]; exact hX
