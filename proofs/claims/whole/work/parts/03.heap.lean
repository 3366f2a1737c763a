
def fLk (own : String) (i : Nat) (c n t : String) : Prop := Cond.fieldLink own i c n t ∈ lw_ok ∨ ∃ host, Cond.fieldLinkNest own i c n t host ∈ lw_nest
def FL (own : String) (i ci j : Nat) (tj : FieldType) (fn : Bool) : Prop := ∃ (C : String) (T : u_T) (N : Nat) (ty : Nat → FieldType), KC ci C T N ty ∧ j < N ∧ ty j = tj ∧ (T j).2.2.2 = fn ∧ fLk own i (T j).1 (T j).2.1 (T j).2.2.1
/-- a final field, written by its own maker -/
def FF (own : String) (i ci j : Nat) (tj : FieldType) : Prop := ∃ (C : String) (T : u_T) (N : Nat) (ty : Nat → FieldType), KC ci C T N ty ∧ j < N ∧ ty j = tj ∧ (T j).2.2.2 = true ∧ (T j).1 = own ∧ Cond.fieldLink own i (T j).1 (T j).2.1 (T j).2.2.1 ∈ lw_ok
def okV : FieldType → Value → Bool
  | .int, .int _ => true
  | .boolean, .int x => x == 0 || x == 1
  | .object _, v => isR v
  | .array _, v => isR v
  | _, _ => false
theorem okV.n {G : Gx} {ad : List Nat} {ty : FieldType} {v c : Value} (h : okV ty v = true) (hv : rV G ad v c) : narrow ty c = c ∧ fits ty c = true := by
  cases ty with
  | int =>
    cases v with
    | int x => cases hv; exact ⟨rfl, rfl⟩
    | _ => cases h
  | boolean =>
    cases v with
    | int x =>
      cases hv
      have h' : (x == 0 || x == 1) = true := h
      have hx : x = 0 ∨ x = 1 := by simpa using h'
      rcases hx with rfl | rfl
      · exact ⟨by decide, by decide⟩
      · exact ⟨by decide, by decide⟩
    | _ => cases h
  | object n =>
    rcases isR.c (G := G) (ad := ad) h hv with rfl | ⟨q, rfl⟩
    · exact ⟨rfl, rfl⟩
    · exact ⟨rfl, rfl⟩
  | array t =>
    rcases isR.c (G := G) (ad := ad) h hv with rfl | ⟨q, rfl⟩
    · exact ⟨rfl, rfl⟩
    · exact ⟨rfl, rfl⟩
  | _ => cases v <;> cases h
section WpHeap
variable {G : Gx} {M : Md} {d pc : Nat} {L st : List Value} {σ : Hp} {mc ms : Nat} {Q : Option Value → Hp → Prop}
theorem st_ref {ad : List Nat} {ws : va_W} {k : Nat} {cst : List Value} (a2 : rW G ad σ ws) (a5 : rVs G ad (.ref k :: st) cst) : ∃ q cs c0, cst = .ref q :: cs ∧ ad[k]? = some q ∧ ws[k]? = some (q, c0) ∧ rC G ad (σ.2 k) c0 ∧ rVs G ad st cs := by
  obtain ⟨_, cs, rfl, ⟨q, hq, rfl⟩, a5⟩ := a5
  obtain ⟨-, c0, e1, e2⟩ := a2.at hq
  exact ⟨q, cs, c0, rfl, hq, e1, e2, a5⟩
theorem wp_get {i ci j k : Nat} {fs : List Value} {v : Value} {tj : FieldType} {fn : Bool} (F : FL M.1.cls i ci j tj fn) (hd : decode M.2.1 pc = .ok (.getfield i, 3)) (hh : σ.2 k = .inr (ci, fs)) (hv : fs[j]? = some v)
    (kk : Wp G M d (pc + 3) L (v :: st) σ mc ms Q) : Wp G M d pc L (.ref k :: st) σ mc ms Q := by
  intro p l e R s m args below meth c A ad0 cm sm QQ C h1 h2 hf ad ws ls cst H locs cells slots hat hc hs
  obtain ⟨a1, a2, a3, a4, a5, a6, a7, a8⟩ := hat
  obtain ⟨x1, x2, x3, x4, x5, x6, x7, x8, x9, x10, x11, x12, x13, x14⟩ := id C
  obtain ⟨q, cs, c0, rfl, hq, e1, e2, a5⟩ := st_ref a2 a5
  rw [hh] at e2
  obtain ⟨gs, rfl, e3⟩ := e2
  obtain ⟨cv, e4, e5⟩ := e3.at hv
  obtain ⟨Cn, T, N, ty, ⟨K1, K2, K3, K4⟩, hj, ht, hfn, hl⟩ := F
  rcases hl with hl | ⟨host, hl⟩
  · exact va_get (D := G.1) x1 x2 x8 K2 x7 x9.1 a6 k e1 K1 j hj (x8 _ hl) (fun _ h => h) e4 hd (kk p l e R s m args below meth c A ad0 cm sm QQ C h1 h2 hf ad ws ls _ H locs cells slots ⟨a1, a2, a3, a4, ⟨_, _, rfl, e5, a5⟩, a6, a7, a8⟩ hc hs)
  · exact va_getN (D := G.1) x1 x2 x8 K2 x7 x9.1 a6 k e1 K1 j hj (va_Nw.use rfl (x9.2.1 _ hl)) (fun _ h => h) e4 hd (kk p l e R s m args below meth c A ad0 cm sm QQ C h1 h2 hf ad ws ls _ H locs cells slots ⟨a1, a2, a3, a4, ⟨_, _, rfl, e5, a5⟩, a6, a7, a8⟩ hc hs)
theorem wp_put {i ci j k : Nat} {fs : List Value} {v : Value} {tj : FieldType} (F : FL M.1.cls i ci j tj false) (hd : decode M.2.1 pc = .ok (.putfield i, 3)) (hh : σ.2 k = .inr (ci, fs)) (hv : okV tj v = true) (hl : j < fs.length)
    (kk : Wp G M d (pc + 3) L st (hset σ k (.inr (ci, fs.set j v))) mc ms Q) : Wp G M d pc L (v :: .ref k :: st) σ mc ms Q := by
  intro p l e R s m args below meth c A ad0 cm sm QQ C h1 h2 hf ad ws ls cst H locs cells slots hat hc hs
  obtain ⟨a1, a2, a3, a4, a5, a6, a7, a8⟩ := hat
  obtain ⟨x1, x2, x3, x4, x5, x6, x7, x8, x9, x10, x11, x12, x13, x14⟩ := id C
  obtain ⟨cv, _, rfl, e5, a5⟩ := a5
  obtain ⟨q, cs, c0, rfl, hq, e1, e2, a5⟩ := st_ref a2 a5
  rw [hh] at e2
  obtain ⟨gs, rfl, e3⟩ := e2
  obtain ⟨Cn, T, N, ty, ⟨K1, K2, K3, K4⟩, hj, ht, hfn, hlk⟩ := F
  obtain ⟨n1, n2⟩ := okV.n (G := G) (ad := ad) hv e5
  have hD' : parseFieldDescriptor (T j).2.2.1 = some tj := by rw [← ht]; exact K3 j hj
  have hg : j < gs.length := by rw [e3.len]; exact hl
  rcases hlk with hlk | ⟨host, hlk⟩
  · exact va_put (D := G.1) x1 x2 x8 K2 ty K3 K4 x7 x9.1 a6 a7 a8 k e1 K1 j hj (x8 _ hlk) (fun _ h => h) hfn hD' n1 n2 hg hd (fun H1 l1 g1 g2 g3 => kk p l e R s m args below meth c A ad0 cm sm QQ C h1 h2 hf ad _ ls _ H1 l1 cells slots ⟨a1, a2.set hq ⟨_, rfl, rVs.set e5 e3 j⟩, a3, a4, a5, g1, g2, g3⟩ hc hs)
  · exact va_putN (D := G.1) x1 x2 x8 K2 ty K3 K4 x7 x9.1 a6 a7 a8 k e1 K1 j hj (va_Nw.use rfl (x9.2.1 _ hlk)) (fun _ h => h) hfn hD' n1 n2 hg hd (fun H1 l1 g1 g2 g3 => kk p l e R s m args below meth c A ad0 cm sm QQ C h1 h2 hf ad _ ls _ H1 l1 cells slots ⟨a1, a2.set hq ⟨_, rfl, rVs.set e5 e3 j⟩, a3, a4, a5, g1, g2, g3⟩ hc hs)
theorem wp_putF {i ci j k : Nat} {fs : List Value} {v : Value} {tj : FieldType} (F : FF M.1.cls i ci j tj) (hd : decode M.2.1 pc = .ok (.putfield i, 3)) (hm : M.1.name = "<init>") (hh : σ.2 k = .inr (ci, fs)) (hv : okV tj v = true) (hl : j < fs.length)
    (kk : Wp G M d (pc + 3) L st (hset σ k (.inr (ci, fs.set j v))) mc ms Q) : Wp G M d pc L (v :: .ref k :: st) σ mc ms Q := by
  intro p l e R s m args below meth c A ad0 cm sm QQ C h1 h2 hf ad ws ls cst H locs cells slots hat hc hs
  obtain ⟨a1, a2, a3, a4, a5, a6, a7, a8⟩ := hat
  obtain ⟨x1, x2, x3, x4, x5, x6, x7, x8, x9, x10, x11, x12, x13, x14⟩ := id C
  obtain ⟨cv, _, rfl, e5, a5⟩ := a5
  obtain ⟨q, cs, c0, rfl, hq, e1, e2, a5⟩ := st_ref a2 a5
  rw [hh] at e2
  obtain ⟨gs, rfl, e3⟩ := e2
  obtain ⟨Cn, T, N, ty, ⟨K1, K2, K3, K4⟩, hj, ht, hfn, hdc, hlk⟩ := F
  obtain ⟨n1, n2⟩ := okV.n (G := G) (ad := ad) hv e5
  have hD' : parseFieldDescriptor (T j).2.2.1 = some tj := by rw [← ht]; exact K3 j hj
  have hg : j < gs.length := by rw [e3.len]; exact hl
  exact va_putF (D := G.1) x1 x2 x8 K2 ty K3 K4 x7 x9.1 a6 a7 a8 k e1 K1 j hj (x8 _ hlk) (fun _ h => h) hfn (x6.trans hm) hdc hD' n1 n2 hg hd (fun H1 l1 g1 g2 g3 => kk p l e R s m args below meth c A ad0 cm sm QQ C h1 h2 hf ad _ ls _ H1 l1 cells slots ⟨a1, a2.set hq ⟨_, rfl, rVs.set e5 e3 j⟩, a3, a4, a5, g1, g2, g3⟩ hc hs)
theorem wp_frow {i : Nat} (F : fLk M.1.cls i "SureHunters" "FIRST_ROW" "[I") (hd : decode M.2.1 pc = .ok (.getstatic i, 3))
    (kk : Wp G M d (pc + 3) L (.float 0 :: st) σ mc ms Q) : Wp G M d pc L st σ mc ms Q := by
  intro p l e R s m args below meth c A ad0 cm sm QQ C h1 h2 hf ad ws ls cst H locs cells slots hat hc hs
  obtain ⟨a1, a2, a3, a4, a5, a6, a7, a8⟩ := hat
  obtain ⟨x1, x2, x3, x4, x5, x6, x7, x8, x9, x10, x11, x12, x13, x14⟩ := id C
  rcases F with hl | ⟨host, hl⟩
  · exact va_gets x1 x2 x10.1 a8 x7 (x8 _ hl) (fun _ h => h) hd (kk p l e R s m args below meth c A ad0 cm sm QQ C h1 h2 hf ad ws ls _ H locs cells slots ⟨a1, a2, a3, a4, ⟨_, _, rfl, rfl, a5⟩, a6, a7, a8⟩ hc hs)
  · exact va_getsN x1 x2 x10.1 a8 x7 (va_Nw.use rfl (x9.2.1 _ hl)) (fun _ h => h) hd (kk p l e R s m args below meth c A ad0 cm sm QQ C h1 h2 hf ad ws ls _ H locs cells slots ⟨a1, a2, a3, a4, ⟨_, _, rfl, rfl, a5⟩, a6, a7, a8⟩ hc hs)
theorem wp_fald {i : Int32} (hd : decode M.2.1 pc = .ok (.iaload, 1)) (hi : vp_in i 5)
    (kk : Wp G M d (pc + 1) L (.int (frow i.toNatClampNeg) :: st) σ mc ms Q) : Wp G M d pc L (.int i :: .float 0 :: st) σ mc ms Q := by
  intro p l e R s m args below meth c A ad0 cm sm QQ C h1 h2 hf ad ws ls cst H locs cells slots hat hc hs
  obtain ⟨a1, a2, a3, a4, a5, a6, a7, a8⟩ := hat
  obtain ⟨x1, x2, x3, x4, x5, x6, x7, x8, x9, x10, x11, x12, x13, x14⟩ := id C
  obtain ⟨_, _, rfl, rfl, _, _, rfl, rfl, a5⟩ := a5
  exact va_ti x1 x2 x10.2.1 a8 hi rfl hd (kk p l e R s m args below meth c A ad0 cm sm QQ C h1 h2 hf ad ws ls _ H locs cells slots ⟨a1, a2, a3, a4, ⟨_, _, rfl, rfl, a5⟩, a6, a7, a8⟩ hc hs)
theorem wp_sald {i : Int32} (hd : decode M.2.1 pc = .ok (.iaload, 1)) (hi : vp_in i G.2.2.2.1)
    (kk : Wp G M d (pc + 1) L (.int (G.2.2.2.2 i.toNatClampNeg) :: st) σ mc ms Q) : Wp G M d pc L (.int i :: .float 1 :: st) σ mc ms Q := by
  intro p l e R s m args below meth c A ad0 cm sm QQ C h1 h2 hf ad ws ls cst H locs cells slots hat hc hs
  obtain ⟨a1, a2, a3, a4, a5, a6, a7, a8⟩ := hat
  obtain ⟨x1, x2, x3, x4, x5, x6, x7, x8, x9, x10, x11, x12, x13, x14⟩ := id C
  obtain ⟨_, _, rfl, rfl, _, _, rfl, rfl, a5⟩ := a5
  exact va_ti x1 x2 x10.2.2.1 a8 hi rfl hd (kk p l e R s m args below meth c A ad0 cm sm QQ C h1 h2 hf ad ws ls _ H locs cells slots ⟨a1, a2, a3, a4, ⟨_, _, rfl, rfl, a5⟩, a6, a7, a8⟩ hc hs)
theorem wp_slen (hd : decode M.2.1 pc = .ok (.arraylength, 1))
    (kk : Wp G M d (pc + 1) L (.int (Int32.ofNat G.2.2.2.1) :: st) σ mc ms Q) : Wp G M d pc L (.float 1 :: st) σ mc ms Q := by
  intro p l e R s m args below meth c A ad0 cm sm QQ C h1 h2 hf ad ws ls cst H locs cells slots hat hc hs
  obtain ⟨a1, a2, a3, a4, a5, a6, a7, a8⟩ := hat
  obtain ⟨x1, x2, x3, x4, x5, x6, x7, x8, x9, x10, x11, x12, x13, x14⟩ := id C
  obtain ⟨_, _, rfl, rfl, a5⟩ := a5
  exact va_tlen x1 x2 x10.2.2.1 a8 rfl hd (kk p l e R s m args below meth c A ad0 cm sm QQ C h1 h2 hf ad ws ls _ H locs cells slots ⟨a1, a2, a3, a4, ⟨_, _, rfl, rfl, a5⟩, a6, a7, a8⟩ hc hs)
theorem wp_iald {k n : Nat} {f : Nat → Int32} {i : Int32} (hd : decode M.2.1 pc = .ok (.iaload, 1)) (hh : σ.2 k = .inl (0, n, .inl f)) (hi : vp_in i n)
    (kk : Wp G M d (pc + 1) L (.int (f i.toNatClampNeg) :: st) σ mc ms Q) : Wp G M d pc L (.int i :: .ref k :: st) σ mc ms Q := by
  intro p l e R s m args below meth c A ad0 cm sm QQ C h1 h2 hf ad ws ls cst H locs cells slots hat hc hs
  obtain ⟨a1, a2, a3, a4, a5, a6, a7, a8⟩ := hat
  obtain ⟨x1, x2, x3, x4, x5, x6, x7, x8, x9, x10, x11, x12, x13, x14⟩ := id C
  obtain ⟨_, _, rfl, rfl, a5⟩ := a5
  obtain ⟨q, cs, c0, rfl, hq, e1, e2, a5⟩ := st_ref a2 a5
  rw [hh] at e2
  cases e2
  exact va_iald x1 x2 x9.1 a6 k 0 e1 rfl hi hd (kk p l e R s m args below meth c A ad0 cm sm QQ C h1 h2 hf ad ws ls _ H locs cells slots ⟨a1, a2, a3, a4, ⟨_, _, rfl, rfl, a5⟩, a6, a7, a8⟩ hc hs)
theorem wp_zald {k n : Nat} {f : Nat → Int32} {i : Int32} (hd : decode M.2.1 pc = .ok (.baload, 1)) (hh : σ.2 k = .inl (1, n, .inl f)) (hi : vp_in i n)
    (kk : Wp G M d (pc + 1) L (.int (f i.toNatClampNeg) :: st) σ mc ms Q) : Wp G M d pc L (.int i :: .ref k :: st) σ mc ms Q := by
  intro p l e R s m args below meth c A ad0 cm sm QQ C h1 h2 hf ad ws ls cst H locs cells slots hat hc hs
  obtain ⟨a1, a2, a3, a4, a5, a6, a7, a8⟩ := hat
  obtain ⟨x1, x2, x3, x4, x5, x6, x7, x8, x9, x10, x11, x12, x13, x14⟩ := id C
  obtain ⟨_, _, rfl, rfl, a5⟩ := a5
  obtain ⟨q, cs, c0, rfl, hq, e1, e2, a5⟩ := st_ref a2 a5
  rw [hh] at e2
  cases e2
  exact va_zald x1 x2 x9.1 a6 k 1 e1 rfl hi hd (kk p l e R s m args below meth c A ad0 cm sm QQ C h1 h2 hf ad ws ls _ H locs cells slots ⟨a1, a2, a3, a4, ⟨_, _, rfl, rfl, a5⟩, a6, a7, a8⟩ hc hs)
theorem wp_lald {k n : Nat} {f : Nat → Int64} {i : Int32} (hd : decode M.2.1 pc = .ok (.laload, 1)) (hh : σ.2 k = .inl (2, n, .inr (.inl f))) (hi : vp_in i n)
    (kk : Wp G M d (pc + 1) L (.long (f i.toNatClampNeg) :: st) σ mc ms Q) : Wp G M d pc L (.int i :: .ref k :: st) σ mc ms Q := by
  intro p l e R s m args below meth c A ad0 cm sm QQ C h1 h2 hf ad ws ls cst H locs cells slots hat hc hs
  obtain ⟨a1, a2, a3, a4, a5, a6, a7, a8⟩ := hat
  obtain ⟨x1, x2, x3, x4, x5, x6, x7, x8, x9, x10, x11, x12, x13, x14⟩ := id C
  obtain ⟨_, _, rfl, rfl, a5⟩ := a5
  obtain ⟨q, cs, c0, rfl, hq, e1, e2, a5⟩ := st_ref a2 a5
  rw [hh] at e2
  cases e2
  exact va_lald x1 x2 x9.1 a6 k 2 e1 rfl hi hd (kk p l e R s m args below meth c A ad0 cm sm QQ C h1 h2 hf ad ws ls _ H locs cells slots ⟨a1, a2, a3, a4, ⟨_, _, rfl, rfl, a5⟩, a6, a7, a8⟩ hc hs)
theorem wp_iast {k n : Nat} {f : Nat → Int32} {i : Int32} {x : Int32} (hd : decode M.2.1 pc = .ok (.iastore, 1)) (hh : σ.2 k = .inl (0, n, .inl f)) (hi : vp_in i n)
    (kk : Wp G M d (pc + 1) L st (hset σ k (.inl (0, n, .inl (upd f i.toNatClampNeg x)))) mc ms Q) : Wp G M d pc L (.int x :: .int i :: .ref k :: st) σ mc ms Q := by
  intro p l e R s m args below meth c A ad0 cm sm QQ C h1 h2 hf ad ws ls cst H locs cells slots hat hc hs
  obtain ⟨a1, a2, a3, a4, a5, a6, a7, a8⟩ := hat
  obtain ⟨x1, x2, x3, x4, x5, x6, x7, x8, x9, x10, x11, x12, x13, x14⟩ := id C
  obtain ⟨_, _, rfl, rfl, _, _, rfl, rfl, a5⟩ := a5
  obtain ⟨q, cs, c0, rfl, hq, e1, e2, a5⟩ := st_ref a2 a5
  rw [hh] at e2
  cases e2
  exact va_iast x1 x2 x9.1 a6 a7 a8 k 0 e1 rfl hi hd (fun H1 l1 g1 g2 g3 => kk p l e R s m args below meth c A ad0 cm sm QQ C h1 h2 hf ad _ ls _ H1 l1 cells slots ⟨a1, a2.set hq rfl, a3, a4, a5, g1, g2, g3⟩ hc hs)
theorem wp_zast {k n : Nat} {f : Nat → Int32} {i : Int32} {x : Int32} (hd : decode M.2.1 pc = .ok (.bastore, 1)) (hh : σ.2 k = .inl (1, n, .inl f)) (hi : vp_in i n)
    (kk : Wp G M d (pc + 1) L st (hset σ k (.inl (1, n, .inl (upd f i.toNatClampNeg (vp_nar .boolean x))))) mc ms Q) : Wp G M d pc L (.int x :: .int i :: .ref k :: st) σ mc ms Q := by
  intro p l e R s m args below meth c A ad0 cm sm QQ C h1 h2 hf ad ws ls cst H locs cells slots hat hc hs
  obtain ⟨a1, a2, a3, a4, a5, a6, a7, a8⟩ := hat
  obtain ⟨x1, x2, x3, x4, x5, x6, x7, x8, x9, x10, x11, x12, x13, x14⟩ := id C
  obtain ⟨_, _, rfl, rfl, _, _, rfl, rfl, a5⟩ := a5
  obtain ⟨q, cs, c0, rfl, hq, e1, e2, a5⟩ := st_ref a2 a5
  rw [hh] at e2
  cases e2
  exact va_zast x1 x2 x9.1 a6 a7 a8 k 1 e1 rfl hi hd (fun H1 l1 g1 g2 g3 => kk p l e R s m args below meth c A ad0 cm sm QQ C h1 h2 hf ad _ ls _ H1 l1 cells slots ⟨a1, a2.set hq rfl, a3, a4, a5, g1, g2, g3⟩ hc hs)
theorem wp_last {k n : Nat} {f : Nat → Int64} {i : Int32} {x : Int64} (hd : decode M.2.1 pc = .ok (.lastore, 1)) (hh : σ.2 k = .inl (2, n, .inr (.inl f))) (hi : vp_in i n)
    (kk : Wp G M d (pc + 1) L st (hset σ k (.inl (2, n, .inr (.inl (vp_updL f i.toNatClampNeg x))))) mc ms Q) : Wp G M d pc L (.long x :: .int i :: .ref k :: st) σ mc ms Q := by
  intro p l e R s m args below meth c A ad0 cm sm QQ C h1 h2 hf ad ws ls cst H locs cells slots hat hc hs
  obtain ⟨a1, a2, a3, a4, a5, a6, a7, a8⟩ := hat
  obtain ⟨x1, x2, x3, x4, x5, x6, x7, x8, x9, x10, x11, x12, x13, x14⟩ := id C
  obtain ⟨_, _, rfl, rfl, _, _, rfl, rfl, a5⟩ := a5
  obtain ⟨q, cs, c0, rfl, hq, e1, e2, a5⟩ := st_ref a2 a5
  rw [hh] at e2
  cases e2
  exact va_last x1 x2 x9.1 a6 a7 a8 k 2 e1 rfl hi hd (fun H1 l1 g1 g2 g3 => kk p l e R s m args below meth c A ad0 cm sm QQ C h1 h2 hf ad _ ls _ H1 l1 cells slots ⟨a1, a2.set hq rfl, a3, a4, a5, g1, g2, g3⟩ hc hs)
def tyT (t : Nat) : FieldType := match t with
  | 0 => .int
  | 1 => .boolean
  | 2 => .long
  | 3 => .object "SureHunters$Net"
  | 4 => .object "SureHunters$Scene"
  | _ => .object "SureHunters$Game"
theorem tysG_at (G : Gx) {t : Nat} (h : t < 6) : (tysG G)[t]? = some (G.2.1 t, tyT t) := by
  match t, h with
  | 0, _ => rfl
  | 1, _ => rfl
  | 2, _ => rfl
  | 3, _ => rfl
  | 4, _ => rfl
  | 5, _ => rfl
theorem rC.arr {ad : List Nat} {t n : Nat} {x : (Nat → Int32) ⊕ (Nat → Int64) ⊕ (Nat → UInt32) ⊕ (Nat → UInt64) ⊕ (Nat → Option Nat)} {c0 : va_E} (h : rC G ad (.inl (t, n, x)) c0) : ∃ y, c0 = .inl (G.2.1 t, n, y) := by
  rcases x with x | x | x | x | x
  · cases h; exact ⟨_, rfl⟩
  · cases h; exact ⟨_, rfl⟩
  · cases h; exact ⟨_, rfl⟩
  · cases h; exact ⟨_, rfl⟩
  · obtain ⟨g, rfl, -⟩ := h; exact ⟨_, rfl⟩
theorem wp_alen {k n t : Nat} {x : (Nat → Int32) ⊕ (Nat → Int64) ⊕ (Nat → UInt32) ⊕ (Nat → UInt64) ⊕ (Nat → Option Nat)} (hd : decode M.2.1 pc = .ok (.arraylength, 1)) (hh : σ.2 k = .inl (t, n, x)) (ht : t < 6)
    (kk : Wp G M d (pc + 1) L (.int (Int32.ofNat n) :: st) σ mc ms Q) : Wp G M d pc L (.ref k :: st) σ mc ms Q := by
  intro p l e R s m args below meth c A ad0 cm sm QQ C h1 h2 hf ad ws ls cst H locs cells slots hat hc hs
  obtain ⟨a1, a2, a3, a4, a5, a6, a7, a8⟩ := hat
  obtain ⟨x1, x2, x3, x4, x5, x6, x7, x8, x9, x10, x11, x12, x13, x14⟩ := id C
  obtain ⟨q, cs, c0, rfl, hq, e1, e2, a5⟩ := st_ref a2 a5
  rw [hh] at e2
  obtain ⟨y, rfl⟩ := e2.arr
  exact va_alen x1 x2 x9.1 a6 k t e1 (tysG_at G ht) rfl hd (kk p l e R s m args below meth c A ad0 cm sm QQ C h1 h2 hf ad ws ls _ H locs cells slots ⟨a1, a2, a3, a4, ⟨_, _, rfl, rfl, a5⟩, a6, a7, a8⟩ hc hs)
theorem wp_aald {k n t : Nat} {f : Nat → Option Nat} {i : Int32} {r : Nat} {Cn : String} (hd : decode M.2.1 pc = .ok (.aaload, 1)) (hh : σ.2 k = .inl (t, n, .inr (.inr (.inr (.inr f))))) (ht : t < 6) (hty : tyT t = .object Cn) (hi : vp_in i n) (hr : f i.toNatClampNeg = some r)
    (kk : Wp G M d (pc + 1) L (.ref r :: st) σ mc ms Q) : Wp G M d pc L (.int i :: .ref k :: st) σ mc ms Q := by
  intro p l e R s m args below meth c A ad0 cm sm QQ C h1 h2 hf ad ws ls cst H locs cells slots hat hc hs
  obtain ⟨a1, a2, a3, a4, a5, a6, a7, a8⟩ := hat
  obtain ⟨x1, x2, x3, x4, x5, x6, x7, x8, x9, x10, x11, x12, x13, x14⟩ := id C
  obtain ⟨_, _, rfl, rfl, a5⟩ := a5
  obtain ⟨q, cs, c0, rfl, hq, e1, e2, a5⟩ := st_ref a2 a5
  rw [hh] at e2
  obtain ⟨g, rfl, e3⟩ := e2
  have e4 := e3 i.toNatClampNeg
  rw [hr] at e4
  obtain ⟨q2, e5, e6⟩ := e4
  refine va_aldq (C := Cn) x1 x2 x9.1 a6 k t e1 (by rw [← hty]; exact tysG_at G ht) hi hd ?_
  rw [e6]
  exact kk p l e R s m args below meth c A ad0 cm sm QQ C h1 h2 hf ad ws ls _ H locs cells slots ⟨a1, a2, a3, a4, ⟨_, _, rfl, ⟨q2, e5, rfl⟩, a5⟩, a6, a7, a8⟩ hc hs
theorem wp_aast {k n t ci r : Nat} {f : Nat → Option Nat} {i : Int32} {fs : List Value} {Cn : String} {T : u_T} {N : Nat} {ty : Nat → FieldType} (K : KC ci Cn T N ty) (hd : decode M.2.1 pc = .ok (.aastore, 1)) (hh : σ.2 k = .inl (t, n, .inr (.inr (.inr (.inr f))))) (ht : t < 6) (hty : tyT t = .object Cn) (hi : vp_in i n) (hr : σ.2 r = .inr (ci, fs))
    (kk : Wp G M d (pc + 1) L st (hset σ k (.inl (t, n, .inr (.inr (.inr (.inr (va_up f i.toNatClampNeg (some r)))))))) mc ms Q) : Wp G M d pc L (.ref r :: .int i :: .ref k :: st) σ mc ms Q := by
  intro p l e R s m args below meth c A ad0 cm sm QQ C h1 h2 hf ad ws ls cst H locs cells slots hat hc hs
  obtain ⟨a1, a2, a3, a4, a5, a6, a7, a8⟩ := hat
  obtain ⟨x1, x2, x3, x4, x5, x6, x7, x8, x9, x10, x11, x12, x13, x14⟩ := id C
  obtain ⟨_, _, rfl, ⟨q2, e5, rfl⟩, a5⟩ := a5
  obtain ⟨_, _, rfl, rfl, a5⟩ := a5
  obtain ⟨q, cs, c0, rfl, hq, e1, e2, a5⟩ := st_ref a2 a5
  obtain ⟨-, c2, f1, f2⟩ := a2.at e5
  rw [hr] at f2
  obtain ⟨gs, rfl, -⟩ := f2
  rw [hh] at e2
  obtain ⟨g, rfl, e3⟩ := e2
  refine va_astq (r := (Cn, T, N)) x1 x2 x9.1 a6 a7 a8 k t r ci e1 (by show (tysG G)[t]? = some (_, FieldType.object Cn); rw [← hty]; exact tysG_at G ht) f1 K.1 hi hd (fun H1 l1 g1 g2 g3 => kk p l e R s m args below meth c A ad0 cm sm QQ C h1 h2 hf ad _ ls _ H1 l1 cells slots ⟨a1, a2.set hq ⟨_, rfl, fun j => ?_⟩, a3, a4, a5, g1, g2, g3⟩ hc hs)
  by_cases hj : j = i.toNatClampNeg
  · subst hj
    simp only [va_up, if_true]
    exact ⟨q2, e5, rfl⟩
  · simp only [va_up, if_neg hj]
    exact e3 j
theorem wp_newi {n : Int32} {N : Nat} (hd : decode M.2.1 pc = .ok (.newarray .int, 2)) (hn : ¬ n < 0) (hN : n.toNatClampNeg = N) (hb : N * componentBytes .int ≤ 536870912)
    (kk : Wp G M d (pc + 2) L (.ref σ.1 :: st) (hnew σ (.inl (0, N, .inl (fun _ => 0)))) mc ms Q) : Wp G M d pc L (.int n :: st) σ (mc + 1) (ms + N) Q := by
  intro p l e R s m args below meth c A ad0 cm sm QQ C h1 h2 hf ad ws ls cst H locs cells slots hat hc hs
  obtain ⟨a1, a2, a3, a4, a5, a6, a7, a8⟩ := hat
  obtain ⟨x1, x2, x3, x4, x5, x6, x7, x8, x9, x10, x11, x12, x13, x14⟩ := id C
  obtain ⟨_, _, rfl, rfl, a5⟩ := a5
  refine va_newa (atype := .int) (ty := .int) (a0 := (N, .inl (fun _ => 0))) x1 x2 (x8 _ (okm 239 (by decide +kernel) (by decide +kernel))) rfl x9.1 a6 a7 a8 x11 (fun cA => rfl) hn hN hb (by omega) (by omega) hd (fun q cA H1 g0 g1 g2 g3 => ?_)
  have hcA : cA = G.2.1 0 := by
    have r1 : s.vm.findClass ("[" ++ (FieldType.toString .int)) = some cA := (g0.2 6 (cA, .int) rfl).2
    have r2 : s.vm.findClass ("[" ++ (FieldType.toString .int)) = some (G.2.1 0) := (x9.1.2 0 (G.2.1 0, .int) rfl).2
    rw [r1] at r2
    exact Option.some.inj r2
  subst hcA
  exact kk p l e R s m args below meth c A ad0 cm sm QQ C h1 h2 hf (ad ++ [q]) _ ls _ H1 locs (cells + 1) (slots + N) ⟨a1.trans (ex.push ad q), a2.push q rfl, a3.mono (ex.push ad q), a4, ⟨_, _, rfl, ⟨q, by rw [← a2.1]; simp, rfl⟩, a5.mono (ex.push ad q)⟩, g1, g2, g3⟩ (by omega) (by omega)
theorem wp_newz {n : Int32} {N : Nat} (hd : decode M.2.1 pc = .ok (.newarray .boolean, 2)) (hn : ¬ n < 0) (hN : n.toNatClampNeg = N) (hb : N * componentBytes .boolean ≤ 536870912)
    (kk : Wp G M d (pc + 2) L (.ref σ.1 :: st) (hnew σ (.inl (1, N, .inl (fun _ => 0)))) mc ms Q) : Wp G M d pc L (.int n :: st) σ (mc + 1) (ms + N) Q := by
  intro p l e R s m args below meth c A ad0 cm sm QQ C h1 h2 hf ad ws ls cst H locs cells slots hat hc hs
  obtain ⟨a1, a2, a3, a4, a5, a6, a7, a8⟩ := hat
  obtain ⟨x1, x2, x3, x4, x5, x6, x7, x8, x9, x10, x11, x12, x13, x14⟩ := id C
  obtain ⟨_, _, rfl, rfl, a5⟩ := a5
  refine va_newa (atype := .boolean) (ty := .boolean) (a0 := (N, .inl (fun _ => 0))) x1 x2 (x8 _ (okm 463 (by decide +kernel) (by decide +kernel))) rfl x9.1 a6 a7 a8 x11 (fun cA => rfl) hn hN hb (by omega) (by omega) hd (fun q cA H1 g0 g1 g2 g3 => ?_)
  have hcA : cA = G.2.1 1 := by
    have r1 : s.vm.findClass ("[" ++ (FieldType.toString .boolean)) = some cA := (g0.2 6 (cA, .boolean) rfl).2
    have r2 : s.vm.findClass ("[" ++ (FieldType.toString .boolean)) = some (G.2.1 1) := (x9.1.2 1 (G.2.1 1, .boolean) rfl).2
    rw [r1] at r2
    exact Option.some.inj r2
  subst hcA
  exact kk p l e R s m args below meth c A ad0 cm sm QQ C h1 h2 hf (ad ++ [q]) _ ls _ H1 locs (cells + 1) (slots + N) ⟨a1.trans (ex.push ad q), a2.push q rfl, a3.mono (ex.push ad q), a4, ⟨_, _, rfl, ⟨q, by rw [← a2.1]; simp, rfl⟩, a5.mono (ex.push ad q)⟩, g1, g2, g3⟩ (by omega) (by omega)
theorem wp_newl {n : Int32} {N : Nat} (hd : decode M.2.1 pc = .ok (.newarray .long, 2)) (hn : ¬ n < 0) (hN : n.toNatClampNeg = N) (hb : N * componentBytes .long ≤ 536870912)
    (kk : Wp G M d (pc + 2) L (.ref σ.1 :: st) (hnew σ (.inl (2, N, .inr (.inl (fun _ => 0))))) mc ms Q) : Wp G M d pc L (.int n :: st) σ (mc + 1) (ms + N) Q := by
  intro p l e R s m args below meth c A ad0 cm sm QQ C h1 h2 hf ad ws ls cst H locs cells slots hat hc hs
  obtain ⟨a1, a2, a3, a4, a5, a6, a7, a8⟩ := hat
  obtain ⟨x1, x2, x3, x4, x5, x6, x7, x8, x9, x10, x11, x12, x13, x14⟩ := id C
  obtain ⟨_, _, rfl, rfl, a5⟩ := a5
  refine va_newa (atype := .long) (ty := .long) (a0 := (N, .inr (.inl (fun _ => 0)))) x1 x2 (x8 _ (okm 1933 (by decide +kernel) (by decide +kernel))) rfl x9.1 a6 a7 a8 x11 (fun cA => rfl) hn hN hb (by omega) (by omega) hd (fun q cA H1 g0 g1 g2 g3 => ?_)
  have hcA : cA = G.2.1 2 := by
    have r1 : s.vm.findClass ("[" ++ (FieldType.toString .long)) = some cA := (g0.2 6 (cA, .long) rfl).2
    have r2 : s.vm.findClass ("[" ++ (FieldType.toString .long)) = some (G.2.1 2) := (x9.1.2 2 (G.2.1 2, .long) rfl).2
    rw [r1] at r2
    exact Option.some.inj r2
  subst hcA
  exact kk p l e R s m args below meth c A ad0 cm sm QQ C h1 h2 hf (ad ++ [q]) _ ls _ H1 locs (cells + 1) (slots + N) ⟨a1.trans (ex.push ad q), a2.push q rfl, a3.mono (ex.push ad q), a4, ⟨_, _, rfl, ⟨q, by rw [← a2.1]; simp, rfl⟩, a5.mono (ex.push ad q)⟩, g1, g2, g3⟩ (by omega) (by omega)
theorem wp_newq {n : Int32} {N i t : Nat} {Cn : String} (hd : decode M.2.1 pc = .ok (.anewarray i, 3)) (hl : Cond.classLink M.1.cls i Cn ∈ lw_ok) (ht : t < 6) (hty : tyT t = .object Cn) (h3 : 3 ≤ t) (hn : ¬ n < 0) (hN : n.toNatClampNeg = N) (hb : N * 4 ≤ 536870912)
    (kk : Wp G M d (pc + 3) L (.ref σ.1 :: st) (hnew σ (.inl (t, N, .inr (.inr (.inr (.inr (fun _ => none))))))) mc ms Q) : Wp G M d pc L (.int n :: st) σ (mc + 1) (ms + N) Q := by
  intro p l e R s m args below meth c A ad0 cm sm QQ C h1 h2 hf ad ws ls cst H locs cells slots hat hc hs
  obtain ⟨a1, a2, a3, a4, a5, a6, a7, a8⟩ := hat
  obtain ⟨x1, x2, x3, x4, x5, x6, x7, x8, x9, x10, x11, x12, x13, x14⟩ := id C
  obtain ⟨_, _, rfl, rfl, a5⟩ := a5
  have hAO : va_AO Cn s := by
    match t, ht, h3 with
    | 3, _, _ => cases hty; exact x9.2.2.1
    | 4, _, _ => cases hty; exact x9.2.2.2.1
    | 5, _, _ => cases hty; exact x9.2.2.2.2.1
  refine va_newq x1 x2 x7 (x8 _ hl) hAO x9.1 a6 a7 a8 x11 hn hN hb (by omega) (by omega) hd (fun q cA H1 g0 g1 g2 g3 => ?_)
  have hcA : cA = G.2.1 t := by
    obtain ⟨_, _, _, _, _, r1⟩ : va_RA s cA (.object Cn) := (g0.2 6 (cA, .object Cn) rfl).2
    have z := (x9.1.2 t (G.2.1 t, tyT t) (tysG_at G ht)).2
    rw [hty] at z
    obtain ⟨_, _, _, _, _, r2⟩ : va_RA s (G.2.1 t) (.object Cn) := z
    rw [r1] at r2
    exact Option.some.inj r2
  subst hcA
  exact kk p l e R s m args below meth c A ad0 cm sm QQ C h1 h2 hf (ad ++ [q]) _ ls _ H1 locs (cells + 1) (slots + N) ⟨a1.trans (ex.push ad q), a2.push q ⟨_, rfl, fun _ => rfl⟩, a3.mono (ex.push ad q), a4, ⟨_, _, rfl, ⟨q, by rw [← a2.1]; simp, rfl⟩, a5.mono (ex.push ad q)⟩, g1, g2, g3⟩ (by omega) (by omega)
def plainV : List Value → Bool
  | [] => true
  | .int _ :: vs => plainV vs
  | .null :: vs => plainV vs
  | _ => false
theorem plainV.r {ad : List Nat} : ∀ {vs : List Value}, plainV vs = true → rVs G ad vs vs
  | [], _ => rfl
  | .int _ :: vs, h => ⟨_, _, rfl, rfl, plainV.r (vs := vs) h⟩
  | .null :: vs, h => ⟨_, _, rfl, rfl, plainV.r (vs := vs) h⟩
theorem wp_new {i ci N : Nat} {Cn : String} {T : u_T} {ty : Nat → FieldType} {fs : List Value} (K : KC ci Cn T N ty) (hd : decode M.2.1 pc = .ok (.new i, 3)) (hl : Cond.classLink M.1.cls i Cn ∈ lw_ok) (hin : Cond.instantiable Cn N ∈ lw_ok) (hini : Cond.initialized Cn ∈ lw_ok) (hfs : ∀ j, j < N → defaultValue (ty j) = vp_V fs j) (hp : plainV fs = true)
    (kk : Wp G M d (pc + 3) L (.ref σ.1 :: st) (hnew σ (.inr (ci, fs))) mc ms Q) : Wp G M d pc L st σ (mc + 1) (ms + N) Q := by
  intro p l e R s m args below meth c A ad0 cm sm QQ C h1 h2 hf ad ws ls cst H locs cells slots hat hc hs
  obtain ⟨a1, a2, a3, a4, a5, a6, a7, a8⟩ := hat
  obtain ⟨x1, x2, x3, x4, x5, x6, x7, x8, x9, x10, x11, x12, x13, x14⟩ := id C
  obtain ⟨K1, K2, K3, K4⟩ := K
  refine va_new (ci := ci) (fs := fs) x1 x2 x8 K2 ty K3 x7 (x8 _ hl) (x8 _ hin) (x8 _ hini) x9.1 a6 a7 a8 x11 K1 hfs (by omega) (by omega) hd (fun q H1 g1 g2 g3 => ?_)
  exact kk p l e R s m args below meth c A ad0 cm sm QQ C h1 h2 hf (ad ++ [q]) _ ls _ H1 locs (cells + 1) (slots + N) ⟨a1.trans (ex.push ad q), a2.push q ⟨_, rfl, plainV.r hp⟩, a3.mono (ex.push ad q), a4, ⟨_, _, rfl, ⟨q, by rw [← a2.1]; simp, rfl⟩, a5.mono (ex.push ad q)⟩, g1, g2, g3⟩ (by omega) (by omega)
theorem wp_objInit {i k : Nat} (hd : decode M.2.1 pc = .ok (.invokespecial i, 3)) (hl : Cond.methodLink M.1.cls i Lib.objectInit ∈ lw_ok) (hd1 : 1 ≤ d) (hcat : (st.map fun v => v.category).sum ≤ 8)
    (kk : Wp G M d (pc + 3) L st σ mc ms Q) : Wp G M d pc L (.ref k :: st) σ mc ms Q := by
  intro p l e R s m args below meth c A ad0 cm sm QQ C h1 h2 hf ad ws ls cst H locs cells slots hat hc hs
  obtain ⟨a1, a2, a3, a4, a5, a6, a7, a8⟩ := hat
  obtain ⟨x1, x2, x3, x4, x5, x6, x7, x8, x9, x10, x11, x12, x13, x14⟩ := id C
  obtain ⟨q, cs, c0, rfl, hq, e1, e2, a5⟩ := st_ref a2 a5
  refine W.objInit x1 x2 x7 (x8 _ hl) (x8 _ (okm 200 (by decide +kernel) (by decide +kernel))) (x8 _ (okm 201 (by decide +kernel) (by decide +kernel))) rfl (by rw [x3, ← a4]; exact a3.lv) rfl hd (by omega) (by show 2 * 0 + _ + 12 ≤ _; rw [a5.cats]; omega) ?_
  exact kk p l e R s m args below meth c A ad0 cm sm QQ C h1 h2 hf ad ws ls _ H locs cells slots ⟨a1, a2, a3, a4, a5, a6, a7, a8⟩ hc hs
theorem wp_max {i : Nat} {x y : Int32} (hd : decode M.2.1 pc = .ok (.invokestatic i, 3)) (hl : Cond.methodLink M.1.cls i Lib.Math.max.name ∈ lw_ok) (hd1 : 1 ≤ d) (hcat : (st.map fun v => v.category).sum ≤ 8)
    (kk : Wp G M d (pc + 3) L (.int (if x < y then y else x) :: st) σ mc ms Q) : Wp G M d pc L (.int y :: .int x :: st) σ mc ms Q := by
  intro p l e R s m args below meth c A ad0 cm sm QQ C h1 h2 hf ad ws ls cst H locs cells slots hat hc hs
  obtain ⟨a1, a2, a3, a4, a5, a6, a7, a8⟩ := hat
  obtain ⟨x1, x2, x3, x4, x5, x6, x7, x8, x9, x10, x11, x12, x13, x14⟩ := id C
  obtain ⟨_, _, rfl, rfl, _, _, rfl, rfl, a5⟩ := a5
  exact va_mmax x1 x2 (by rw [x3, ← a4]; exact a3.lv.symm) x7 (x8 _ hl) (x8 _ (okm 753 (by decide +kernel) (by decide +kernel))) (x8 _ (okm 189 (by decide +kernel) (by decide +kernel))) (x8 _ (okm 754 (by decide +kernel) (by decide +kernel))) (by omega) (by rw [a5.cats]; omega) (by omega) (by omega) hd (kk p l e R s m args below meth c A ad0 cm sm QQ C h1 h2 hf ad ws ls _ H locs cells slots ⟨a1, a2, a3, a4, ⟨_, _, rfl, rfl, a5⟩, a6, a7, a8⟩ hc hs)
theorem wp_min {i : Nat} {x y : Int32} (hd : decode M.2.1 pc = .ok (.invokestatic i, 3)) (hl : Cond.methodLink M.1.cls i Lib.Math.min.name ∈ lw_ok) (hd1 : 1 ≤ d) (hcat : (st.map fun v => v.category).sum ≤ 8)
    (kk : Wp G M d (pc + 3) L (.int (if y < x then y else x) :: st) σ mc ms Q) : Wp G M d pc L (.int y :: .int x :: st) σ mc ms Q := by
  intro p l e R s m args below meth c A ad0 cm sm QQ C h1 h2 hf ad ws ls cst H locs cells slots hat hc hs
  obtain ⟨a1, a2, a3, a4, a5, a6, a7, a8⟩ := hat
  obtain ⟨x1, x2, x3, x4, x5, x6, x7, x8, x9, x10, x11, x12, x13, x14⟩ := id C
  obtain ⟨_, _, rfl, rfl, _, _, rfl, rfl, a5⟩ := a5
  refine va_mmin x1 x2 (by rw [x3, ← a4]; exact a3.lv.symm) x7 (x8 _ hl) (x8 _ (okm 786 (by decide +kernel) (by decide +kernel))) (x8 _ (okm 189 (by decide +kernel) (by decide +kernel))) (x8 _ (okm 787 (by decide +kernel) (by decide +kernel))) (by omega) (by rw [a5.cats]; omega) (by omega) (by omega) hd ?_
  exact kk p l e R s m args below meth c A ad0 cm sm QQ C h1 h2 hf ad ws ls _ H locs cells slots ⟨a1, a2, a3, a4, ⟨_, _, rfl, rfl, a5⟩, a6, a7, a8⟩ hc hs
-- ends
theorem wp_iret {x : Int32} {ty : FieldType} (hd : decode M.2.1 pc = .ok (.ireturn, 1)) (hr : M.2.2.2 = some ty) (hn : narrow ty (.int x) = .int x) (hq : Q (some (.int x)) σ) : Wp G M d pc L [.int x] σ mc ms Q := by
  intro p l e R s m args below meth c A ad0 cm sm QQ C h1 h2 hf ad ws ls cst H locs cells slots hat hc hs
  obtain ⟨a1, a2, a3, a4, a5, a6, a7, a8⟩ := hat
  obtain ⟨x1, x2, x3, x4, x5, x6, x7, x8, x9, x10, x11, x12, x13, x14⟩ := id C
  obtain ⟨_, _, rfl, rfl, a5⟩ := a5
  cases a5
  exact W.widen (k := cm) (n := sm) (by omega) (by omega) (hf _ σ ad ws (some (.int x)) H locs pc ls hq a1 a2 ⟨_, rfl, rfl⟩ a6 a7 a8 ⟨hd, ty, hr, hn⟩)
theorem wp_vret (hd : decode M.2.1 pc = .ok (.return_, 1)) (hr : M.2.2.2 = none) (hq : Q none σ) : Wp G M d pc L [] σ mc ms Q := by
  intro p l e R s m args below meth c A ad0 cm sm QQ C h1 h2 hf ad ws ls cst H locs cells slots hat hc hs
  obtain ⟨a1, a2, a3, a4, a5, a6, a7, a8⟩ := hat
  obtain ⟨x1, x2, x3, x4, x5, x6, x7, x8, x9, x10, x11, x12, x13, x14⟩ := id C
  cases a5
  exact W.widen (k := cm) (n := sm) (by omega) (by omega) (hf _ σ ad ws none H locs pc ls hq a1 a2 rfl a6 a7 a8 ⟨hd, hr⟩)
theorem wp_aret {v : Value} {n : String} (hd : decode M.2.1 pc = .ok (.areturn, 1)) (hr : M.2.2.2 = some (.object n)) (hv : v = .null ∨ ∃ k, v = .ref k) (hq : Q (some v) σ) : Wp G M d pc L [v] σ mc ms Q := by
  intro p l e R s m args below meth c A ad0 cm sm QQ C h1 h2 hf ad ws ls cst H locs cells slots hat hc hs
  obtain ⟨a1, a2, a3, a4, a5, a6, a7, a8⟩ := hat
  obtain ⟨x1, x2, x3, x4, x5, x6, x7, x8, x9, x10, x11, x12, x13, x14⟩ := id C
  obtain ⟨c0, _, rfl, e1, a5⟩ := a5
  cases a5
  refine W.widen (k := cm) (n := sm) (by omega) (by omega) (hf _ σ ad ws (some c0) H locs pc ls hq a1 a2 ⟨_, rfl, e1⟩ a6 a7 a8 ?_)
  rcases hv with rfl | ⟨k, rfl⟩
  · exact ⟨hd, Or.inl rfl, n, hr⟩
  · exact ⟨hd, Or.inr ⟨k, rfl⟩, n, hr⟩
theorem wp_widen {mc' ms' : Nat} (h1 : mc' ≤ mc) (h2 : ms' ≤ ms) (k : Wp G M d pc L st σ mc' ms' Q) : Wp G M d pc L st σ mc ms Q := by
  intro p l e R s m args below meth c A ad0 cm sm QQ C g1 g2 hf ad ws ls cst H locs cells slots hat hc hs
  exact k p l e R s m args below meth c A ad0 cm sm QQ C g1 g2 hf ad ws ls cst H locs cells slots hat (by omega) (by omega)
theorem wp_post {Q' : Option Value → Hp → Prop} (k : Wp G M d pc L st σ mc ms Q') (h : ∀ v s, Q' v s → Q v s) : Wp G M d pc L st σ mc ms Q := by
  intro p l e R s m args below meth c A ad0 cm sm QQ C g1 g2 hf
  exact k p l e R s m args below meth c A ad0 cm sm QQ C g1 g2 (fun v σ' ad ws cv H locs pc ls q => hf v σ' ad ws cv H locs pc ls (h _ _ q))
end WpHeap


/-! CONTRACTS AND CALLS -/
def rmM (d mc ms : Nat) : Room := { frames := d, cells := mc, slots := ms, locals := 60 * d }
def preM (G : Gx) (cas : List Value) (sz : Nat) (ws : va_W) : Array Value → State → Prop := va_Pc cas (fun U => U.heap.size = sz ∧ va_P G.1 clX ws U.heap ∧ va_D (fun _ => True) ws ∧ kG G U ∧ fG G (va_A ws sz) U U.heap)
def qcM (G : Gx) (ad : List Nat) (ws : va_W) (sz : Nat) (Q : Option Value → Hp → Prop) : Array Value → State → Outcome → State → Prop := fun _ st o t =>
  (∃ (v : Option Value) (σ' : Hp) (ad' : List Nat) (ws' : va_W) (cv : Option Value), o = .returned cv ∧ Q v σ' ∧ ex ad ad' ∧ rW G ad' σ' ws' ∧ rOV G ad' v cv ∧ va_P G.1 clX ws' t.heap ∧ va_D (va_A ws sz) ws') ∧ va_F (va_A ws sz) st t
/-- from these arguments and this heap the method returns, with Q; d frames deep at most, mc cells of ms slots are new -/
def Cl (G : Gx) (M : Md) (d : Nat) (as : List Value) (σ : Hp) (mc ms : Nat) (Q : Option Value → Hp → Prop) : Prop :=
  ∀ (l : Launch) (ad : List Nat) (ws : va_W) (cas : List Value) (sz : Nat), l.flags = flags0 → rW G ad σ ws → rVs G ad as cas → Met l M.1 (wsM M) (rmM d mc ms) (preM G cas sz ws) (qcM G ad ws sz Q) mc ms (va_A ws sz)
theorem preM.blind {G : Gx} {cas : List Value} {sz : Nat} {ws : va_W} : FrameBlind (preM G cas sz ws) := fun a U g mk h => by
  obtain ⟨h1, h2, h3, h4, h5, h6⟩ := h
  exact ⟨h1, h2, h3, h4, kG.same (s := U) (U := U.calling g mk a) rfl h5, h6.moved (U := U.calling g mk a) (Vm.Alike.refl U.vm)⟩
theorem lv_args1 : ∀ (vs : List Value) (n : Nat), (∀ v ∈ vs, v.category = 1) → ∀ i v, vs[i]? = some v → (n + i, v) ∈ lv_args n vs
  | [], _, _, i, v, h => by simp at h
  | a :: vs, n, hc, 0, v, h => by cases h; exact List.mem_cons_self
  | a :: vs, n, hc, i + 1, v, h => by
    have ha : a.category = 1 := hc a List.mem_cons_self
    show (n + (i + 1), v) ∈ (n, a) :: lv_args (if a.category = 2 then n + 2 else n + 1) vs
    rw [if_neg (by rw [ha]; decide), show n + (i + 1) = (n + 1) + i by omega]
    exact List.mem_cons_of_mem _ (lv_args1 vs (n + 1) (fun v hv => hc v (List.mem_cons_of_mem _ hv)) i v (by simpa using h))
theorem lg_sl1 : ∀ (vs : List Value), (∀ v ∈ vs, v.category = 1) → (lg_sl vs).length = vs.length
  | [], _ => rfl
  | a :: vs, hc => by
    have ha : a.category = 1 := hc a List.mem_cons_self
    have := lg_sl1 vs (fun v hv => hc v (List.mem_cons_of_mem _ hv))
    simp only [lg_sl, List.flatMap_cons, ha] at this ⊢
    simp [this]
/-- the entry: arguments, then places that nothing is known of -/
def entL (as : List Value) (n : Nat) : List Value := as ++ List.replicate (n - as.length) (.double 0)
theorem rVs.mem {G : Gx} {ad : List Nat} : ∀ {vs cs : List Value}, rVs G ad vs cs → (∀ v ∈ vs, v.category = 1) → ∀ c ∈ cs, c.category = 1
  | [], _, h, _, c, hc => by cases h; cases hc
  | v :: vs, _, ⟨c', cs', e, h1, h2⟩, hv, c, hc => by
    subst e
    rcases List.mem_cons.mp hc with rfl | hc
    · exact h1.cat.trans (hv v List.mem_cons_self)
    · exact rVs.mem h2 (fun v h => hv v (List.mem_cons_of_mem _ h)) c hc
theorem rL.entry {G : Gx} {ad : List Nat} {as cas : List Value} {n : Nat} (h : rVs G ad as cas) (hc : ∀ v ∈ as, v.category = 1) (hn : as.length ≤ n) : rL G ad (entL as n) ((lg_sl cas ++ List.replicate (n - (lg_sl cas).length) Slot.unset).toArray) := by
  have hcc := h.mem hc
  have hlen : (entL as n).length = n := by simp [entL]; omega
  refine ⟨lv_args 0 cas, by rw [hlen]; exact lv_entry cas (by rw [lg_sl1 cas hcc, h.len]; exact hn), fun i v hi hv => ?_⟩
  by_cases hia : i < as.length
  · rw [entL, List.getElem?_append_left hia] at hi
    obtain ⟨c, e1, e2⟩ := h.at hi
    exact ⟨c, by have := lv_args1 cas 0 hcc i c e1; rwa [Nat.zero_add] at this, e2⟩
  · rw [entL, List.getElem?_append_right (by omega), List.getElem?_replicate] at hi
    split at hi
    · cases hi; cases hv
    · cases hi
def MK (M : Md) (n : Nat) : Prop := Cond.code M.1 M.2.1 M.2.2.1 M.2.2.2 ∈ lw_ok ∧ Cond.initialized M.1.cls ∈ lw_ok ∧ (M.1.cls ≠ "java/lang/invoke/MethodHandle" ∧ M.1.cls ≠ "java/lang/invoke/VarHandle" ∧ (parseMethodDescriptor M.1.desc).map (fun d => d.parameters.length) = some n) ∧ M.2.2.1 ≤ 41
def MV (M : Md) (n : Nat) : Prop := MK M n ∧ Cond.instanceMethod M.1 ∈ lw_ok ∧ Cond.selects M.1.cls M.1 M.1 ∈ lw_ok
def MS (M : Md) (n : Nat) : Prop := MK M n ∧ Cond.static M.1 ∈ lw_ok
def MI (M : Md) (n : Nat) : Prop := MK M n ∧ M.1.name = "<init>" ∧ Cond.instanceMethod M.1 ∈ lw_ok ∧ M.2.2.2 = none
def mLk (own : String) (i : Nat) (y : MethodName) : Prop := Cond.methodLink own i y ∈ lw_ok ∨ ∃ host, Cond.methodLinkNest own i y host ∈ lw_nest
set_option maxHeartbeats 1000000 in
theorem cl_of {G : Gx} {M : Md} {d : Nat} {as : List Value} {σ : Hp} {mc ms : Nat} {Q : Option Value → Hp → Prop} (hp : plainName M.1.cls = true) (hc : ∀ v ∈ as, v.category = 1) (hn : as.length ≤ M.2.2.1) (h : Wp G M d 0 (entL as M.2.2.1) [] σ mc ms Q) : Cl G M d as σ mc ms Q := by
  intro l ad ws cas sz hfl hW hA
  refine Met.ofW (cc := M.2.1) (maxL := M.2.2.1) (ret := M.2.2.2) hp rfl ?_
  intro p e s m args below meth c s₁ B hml hv
  obtain ⟨rfl, rfl, hP, hD0, hK, hF⟩ := hv
  have hts := atoms_spec (ws := wsM M) B.pre
  rw [lg_entry_eq]
  have hlen : (entL as M.2.2.1).length = M.2.2.1 := by simp [entL]; omega
  refine h p l e (rmM d mc ms) s m _ below meth c (va_A ws s.heap.size) ad mc ms _
    ⟨B.exec, B.bytes, hml, B.returns, B.notSynchronized, (name_of_methodNamed B.named B.method).1, findClass_of_methodNamed B.named, fun w hw => hts w (List.mem_cons_of_mem _ hw), hK, hF, fun q hq => Or.inr hq, Nat.le_refl _, Nat.le_refl _, hfl⟩
    (Nat.le_refl _) (Nat.le_refl _) ?_ ad ws _ [] s.heap [] 0 0 ⟨ex.rfl, hW, rL.entry hA hc hn, hlen, rfl, hP, hD0.self, va_S.rf⟩ (by omega) (by omega)
  intro v σ' ad' ws' cv H locs pc ls hq g1 g2 g3 g4 g5 g6 g7
  have hpost : ∀ t : State, t.heap = H → s.WarmedH t.vm → qcM G ad ws s.heap.size Q cas.toArray s (.returned cv) t := fun t ht _ => ⟨⟨v, σ', ad', ws', cv, rfl, hq, g1, g2, g3, by rw [ht]; exact g4, g5⟩, g6.F ht⟩
  cases v with
  | none =>
    cases g3
    exact W.vret B.exec B.bytes (B.returns.trans g7.2) hpost g6.2.2 g7.1 B.notSynchronized
  | some v =>
    obtain ⟨c0, rfl, g3⟩ := g3
    cases v with
    | int x =>
      cases g3
      obtain ⟨k1, ty, k2, k3⟩ := g7
      exact W.zret B.exec B.bytes (B.returns.trans k2) k3 hpost g6.2.2 k1 B.notSynchronized
    | _ =>
      obtain ⟨k1, k2, nn, k3⟩ := g7
      rcases k2 with k2 | ⟨k, k2⟩
      · first | (cases k2; done) | (cases g3; exact W.aret B.exec B.bytes (B.returns.trans k3) (Or.inl ⟨nn, rfl⟩) (Or.inl rfl) hpost g6.2.2 k1 B.notSynchronized)
      · first | (cases k2; done) | (obtain ⟨q, -, rfl⟩ := g3; exact W.aret B.exec B.bytes (B.returns.trans k3) (Or.inl ⟨nn, rfl⟩) (Or.inr ⟨q, rfl⟩) hpost g6.2.2 k1 B.notSynchronized)
theorem wsM_good {M' : Md} (h : Cond.code M'.1 M'.2.1 M'.2.2.1 M'.2.2.2 ∈ lw_ok) : GoodIn lw_ok (wsM M') := by
  intro w hw
  rcases List.mem_cons.mp hw with rfl | hw
  · exact ⟨h, good_of_word (List.mem_filter.mp h).2⟩
  · exact ⟨hw, good_of_word (List.mem_filter.mp hw).2⟩
theorem va_goes {G : Gx} {Q' : Option Value → Hp → Prop} {p : Program} {l : Launch} {e : Env} {R : Room} {s : State} {m : MethodId} {args : Array Value} {below : List Frame} {meth : Method} {c : Code} {H : Heap} {locs : List Loc} {cells slots mc ms pc : Nat} {QQ : State → Prop} {ls : Array Slot} {st0 rest : List Value} {A : Nat → Prop} {ad : List Nat} {ws : va_W} {a : Array Value}
    (hr : va_Run p l e R s m args below meth c H locs cells slots mc ms (F0 m pc ls st0) rest (qcM G ad ws H.size Q' a) (va_A ws H.size)) (hS : va_S A s.heap H locs) (hF : ∀ q, va_A ws H.size q → A q)
    (kk : ∀ (v : Option Value) (σ' : Hp) (ad' : List Nat) (ws' : va_W) (cv : Option Value) (H1 : Heap) (locs1 : List Loc), Q' v σ' → ex ad ad' → rW G ad' σ' ws' → rOV G ad' v cv → va_P G.1 clX ws' H1 → va_D A ws' → va_S A s.heap H1 locs1 → W p l e R s m args below meth c H1 locs1 (cells + mc) (slots + ms) QQ (F0 m (pc + 3) ls (cv.toList ++ rest))) :
    W p l e R s m args below meth c H locs cells slots QQ (F0 m pc ls st0) := by
  intro T hT X
  obtain ⟨v, st₀, t, T', Lc, h0, X', hL, e1, e2, ⟨⟨v', σ', ad', ws', cv, ho, hQ, h3, h4, h5, h6, h7⟩, hz, hk⟩, stp⟩ := hr T hT X
  cases ho
  rw [h0] at hz hk
  obtain ⟨t2, b1, b2⟩ := kk v' σ' ad' ws' v T'.heap (locs ++ Lc) hQ h3 h4 h5 (by rw [e1]; exact h6) (h7.weaken (fun _ _ _ h => hF _ h))
    ⟨Nat.le_trans hS.1 (by rw [e1]; exact hz), fun q g1 g2 => by rw [e1, hk q (Nat.lt_of_lt_of_le g1 hS.1) (fun z => g2 (hF q z))]; exact hS.2.1 q g1 g2, fun q hq => by
      rcases List.mem_append.mp hq with h | h
      · exact hS.2.2 q h
      · exact hF _ (hL q h)⟩ T' rfl X'
  exact ⟨t2, stp t2 b1, b2⟩
theorem kG.pre {G : Gx} {s : State} {H : Heap} {A : Nat → Prop} {ws : va_W} {cas : List Value} {locs : List Loc} (x9 : kG G s) (x10 : fG G A s s.heap) (a6 : va_P G.1 clX ws H) (a7 : va_D A ws) (a8 : va_S A s.heap H locs) (hF : ∀ q, va_A ws H.size q → A q) : ∀ U : State, U.heap = H → s.WarmedH U.vm → preM G cas H.size ws cas.toArray U := by
  intro U hU hW
  refine ⟨rfl, by rw [hU], by rw [hU]; exact a6, a7.weaken (fun _ _ _ _ => trivial), x9.warm hW, ?_⟩
  rw [hU]
  exact ((x10.kept a8.2.1).narrow hF).moved hW.alike
theorem rOV.list {G : Gx} {ad : List Nat} {v cv : Option Value} (h : rOV G ad v cv) : rVs G ad v.toList cv.toList := by
  cases v with
  | none => cases h; exact rfl
  | some v => obtain ⟨c, rfl, h⟩ := h; exact ⟨c, [], rfl, h, rfl⟩

set_option maxHeartbeats 1000000 in
theorem wp_callV {G : Gx} {M M2 : Md} {d pc i n : Nat} {L st st0 : List Value} {σ : Hp} {mc1 ms1 mc2 ms2 : Nat} {Q Q2 : Option Value → Hp → Prop} {k ci : Nat} {fs : List Value} (as : List Value) (hd : decode M.2.1 pc = .ok (.invokevirtual i, 3)) (hm : MV M2 n) (hl : mLk M.1.cls i M2.1) (hst : st0 = as.reverse ++ .ref k :: st) (hn : as.length = n) (hcat : (st.map fun v => v.category).sum ≤ 8) (hk : σ.2 k = .inr (ci, fs)) (hcl : (clX[ci]?.map fun q => q.1) = some M2.1.cls) (hC : Cl G M2 d (.ref k :: as) σ mc1 ms1 Q2)
    (kk : ∀ v σ2, Q2 v σ2 → Wp G M (d + 1) (pc + 3) L (v.toList ++ st) σ2 mc2 ms2 Q) : Wp G M (d + 1) pc L st0 σ (mc1 + mc2) (ms1 + ms2) Q := by
  intro p l e R s m args below meth c A ad0 cm sm QQ C h1 h2 hf ad ws ls cst H locs cells slots hat hc hs
  obtain ⟨a1, a2, a3, a4, a5, a6, a7, a8⟩ := hat
  obtain ⟨x1, x2, x3, x4, x5, x6, x7, x8, x9, x10, x11, x12, x13, x14⟩ := id C
  subst hst
  obtain ⟨x, y, rfl, b1, b2⟩ := a5.split
  obtain ⟨q, cs, c0, rfl, hq, e1, e2, b3⟩ := st_ref a2 b2
  rw [hk] at e2
  obtain ⟨gs, rfl, -⟩ := e2
  have b1' : rVs G ad as x.reverse := by have := b1.rev; rwa [List.reverse_reverse] at this
  have hF := va_free (wc := ws) a7 a8 x11 (List.range ws.length) (by
    apply List.ext_getElem?
    intro j
    simp only [List.getElem?_map]
    by_cases hj : j < ws.length
    · rw [List.getElem?_range hj]; simp [hj]
    · rw [List.getElem?_eq_none (by simpa using hj), List.getElem?_eq_none (by simpa using hj)]; rfl)
  obtain ⟨⟨m1, m2, ⟨m3, m4, m5⟩, m6⟩, m7, m8⟩ := hm
  obtain ⟨r, hr1, hr2⟩ : ∃ r, clX[ci]? = some r ∧ r.1 = M2.1.cls := by
    cases hci : clX[ci]? with
    | none => rw [hci] at hcl; cases hcl
    | some r => rw [hci] at hcl; exact ⟨r, rfl, Option.some.inj hcl⟩
  have hrecv := va_recv x9.1 a6 hr1 e1
  rw [hr2] at hrecv
  have hM := hC l ad ws (.ref q :: x.reverse) H.size x14 a2 ⟨_, _, rfl, ⟨q, hq, rfl⟩, b1'⟩
  have hpre := kG.pre (cas := .ref q :: x.reverse) x9 x10 a6 a7 a8 hF
  have hlen : x.reverse.length = n := by rw [b1'.len]; exact hn
  have hW9 : 2 * (F0 m pc ls (x ++ .ref q :: cs)).monitorRoom + (cs.map fun v => v.category).sum ≤ 8 := by show 2 * 0 + _ ≤ 8; rw [b3.cats]; omega
  have hR : (rmM d mc1 ms1).frames + 1 ≤ R.frames ∧ 8 + (M2.2.2.1 + 11) + (rmM d mc1 ms1).locals ≤ R.locals := ⟨by show d + 1 ≤ _; omega, by show 8 + (M2.2.2.1 + 11) + 60 * d ≤ _; omega⟩
  rcases hl with hl | ⟨host, hl⟩
  · refine va_goes (va_runV (As := x.reverse) (rest := cs) (Ts := lw_ok) ⟨x1, x2, x3, x7, x8⟩ hM ⟨callB_of n x8 (wsM_good m1) rfl rfl rfl (x8 _ m2) (x8 _ hl) ⟨m3, m4, m5⟩ hR, x8 _ m7, x8 _ m8⟩ ⟨preM.blind, hrecv, hpre⟩ rfl hlen (by rw [← a4]; exact a3.lv) (by rw [List.reverse_reverse]) hW9 hd ⟨by omega, by omega⟩) a8 hF (fun v σ' ad' ws' cv H1 l1 q1 q2 q3 q4 q5 q6 q7 => kk v σ' q1 p l e R s m args below meth c A ad0 cm sm QQ C h1 h2 hf ad' ws' ls _ H1 l1 (cells + mc1) (slots + ms1) ⟨a1.trans q2, q3, a3.mono q2, a4, q4.list.app (b3.mono q2), q5, q6, q7⟩ (by omega) (by omega))
  · refine va_goes (va_runVN (As := x.reverse) (rest := cs) (Ts := lw_ok) ⟨x1, x2, x3, x7, x8⟩ hM ⟨va_cnB n x8 (wsM_good m1) rfl rfl rfl (x9.2.1 _ hl) (x8 _ m2) ⟨m3, m4, m5⟩ hR, x8 _ m7, x8 _ m8⟩ ⟨preM.blind, hrecv, hpre⟩ rfl hlen (by rw [← a4]; exact a3.lv) (by rw [List.reverse_reverse]) hW9 hd ⟨by omega, by omega⟩) a8 hF (fun v σ' ad' ws' cv H1 l1 q1 q2 q3 q4 q5 q6 q7 => kk v σ' q1 p l e R s m args below meth c A ad0 cm sm QQ C h1 h2 hf ad' ws' ls _ H1 l1 (cells + mc1) (slots + ms1) ⟨a1.trans q2, q3, a3.mono q2, a4, q4.list.app (b3.mono q2), q5, q6, q7⟩ (by omega) (by omega))
set_option maxHeartbeats 1000000 in
theorem wp_callS {G : Gx} {M M2 : Md} {d pc i n : Nat} {L st st0 : List Value} {σ : Hp} {mc1 ms1 mc2 ms2 : Nat} {Q Q2 : Option Value → Hp → Prop} (as : List Value) (hd : decode M.2.1 pc = .ok (.invokestatic i, 3)) (hm : MS M2 n) (hl : mLk M.1.cls i M2.1) (hst : st0 = as.reverse ++ st) (hn : as.length = n) (hcat : (st.map fun v => v.category).sum ≤ 8) (hC : Cl G M2 d as σ mc1 ms1 Q2)
    (kk : ∀ v σ2, Q2 v σ2 → Wp G M (d + 1) (pc + 3) L (v.toList ++ st) σ2 mc2 ms2 Q) : Wp G M (d + 1) pc L st0 σ (mc1 + mc2) (ms1 + ms2) Q := by
  intro p l e R s m args below meth c A ad0 cm sm QQ C h1 h2 hf ad ws ls cst H locs cells slots hat hc hs
  obtain ⟨a1, a2, a3, a4, a5, a6, a7, a8⟩ := hat
  obtain ⟨x1, x2, x3, x4, x5, x6, x7, x8, x9, x10, x11, x12, x13, x14⟩ := id C
  subst hst
  obtain ⟨x, cs, rfl, b1, b3⟩ := a5.split
  have b1' : rVs G ad as x.reverse := by have := b1.rev; rwa [List.reverse_reverse] at this
  have hF := va_free (wc := ws) a7 a8 x11 (List.range ws.length) (by
    apply List.ext_getElem?
    intro j
    simp only [List.getElem?_map]
    by_cases hj : j < ws.length
    · rw [List.getElem?_range hj]; simp [hj]
    · rw [List.getElem?_eq_none (by simpa using hj), List.getElem?_eq_none (by simpa using hj)]; rfl)
  obtain ⟨⟨m1, m2, ⟨m3, m4, m5⟩, m6⟩, m7⟩ := hm
  have hM := hC l ad ws x.reverse H.size x14 a2 b1'
  have hpre := kG.pre (cas := x.reverse) x9 x10 a6 a7 a8 hF
  have hlen : x.reverse.length = n := by rw [b1'.len]; exact hn
  have hW9 : 2 * (F0 m pc ls (x ++ cs)).monitorRoom + (cs.map fun v => v.category).sum ≤ 8 := by show 2 * 0 + _ ≤ 8; rw [b3.cats]; omega
  have hR : (rmM d mc1 ms1).frames + 1 ≤ R.frames ∧ 8 + (M2.2.2.1 + 11) + (rmM d mc1 ms1).locals ≤ R.locals := ⟨by show d + 1 ≤ _; omega, by show 8 + (M2.2.2.1 + 11) + 60 * d ≤ _; omega⟩
  rcases hl with hl | ⟨host, hl⟩
  · refine va_goes (va_runS (As := x.reverse) (rest := cs) (Ts := lw_ok) ⟨x1, x2, x3, x7, x8⟩ hM ⟨callB_of n x8 (wsM_good m1) rfl rfl rfl (x8 _ m2) (x8 _ hl) ⟨m3, m4, m5⟩ hR, x8 _ m7⟩ ⟨preM.blind, hpre⟩ rfl hlen (by rw [← a4]; exact a3.lv) (by rw [List.reverse_reverse]) hW9 hd ⟨by omega, by omega⟩) a8 hF (fun v σ' ad' ws' cv H1 l1 q1 q2 q3 q4 q5 q6 q7 => kk v σ' q1 p l e R s m args below meth c A ad0 cm sm QQ C h1 h2 hf ad' ws' ls _ H1 l1 (cells + mc1) (slots + ms1) ⟨a1.trans q2, q3, a3.mono q2, a4, q4.list.app (b3.mono q2), q5, q6, q7⟩ (by omega) (by omega))
  · refine va_goes (va_runSN (As := x.reverse) (rest := cs) (Ts := lw_ok) ⟨x1, x2, x3, x7, x8⟩ hM ⟨va_cnB n x8 (wsM_good m1) rfl rfl rfl (x9.2.1 _ hl) (x8 _ m2) ⟨m3, m4, m5⟩ hR, x8 _ m7, trivial⟩ ⟨preM.blind, hpre⟩ rfl hlen (by rw [← a4]; exact a3.lv) (by rw [List.reverse_reverse]) hW9 hd ⟨by omega, by omega⟩) a8 hF (fun v σ' ad' ws' cv H1 l1 q1 q2 q3 q4 q5 q6 q7 => kk v σ' q1 p l e R s m args below meth c A ad0 cm sm QQ C h1 h2 hf ad' ws' ls _ H1 l1 (cells + mc1) (slots + ms1) ⟨a1.trans q2, q3, a3.mono q2, a4, q4.list.app (b3.mono q2), q5, q6, q7⟩ (by omega) (by omega))
set_option maxHeartbeats 1000000 in
theorem wp_callI {G : Gx} {M M2 : Md} {d pc i n : Nat} {L st st0 : List Value} {σ : Hp} {mc1 ms1 mc2 ms2 : Nat} {Q Q2 : Option Value → Hp → Prop} {k : Nat} (as : List Value) (hd : decode M.2.1 pc = .ok (.invokespecial i, 3)) (hm : MI M2 n) (hl : mLk M.1.cls i M2.1) (hst : st0 = as.reverse ++ .ref k :: st) (hn : as.length = n) (hcat : (st.map fun v => v.category).sum ≤ 8) (hC : Cl G M2 d (.ref k :: as) σ mc1 ms1 Q2)
    (kk : ∀ v σ2, Q2 v σ2 → Wp G M (d + 1) (pc + 3) L (v.toList ++ st) σ2 mc2 ms2 Q) : Wp G M (d + 1) pc L st0 σ (mc1 + mc2) (ms1 + ms2) Q := by
  intro p l e R s m args below meth c A ad0 cm sm QQ C h1 h2 hf ad ws ls cst H locs cells slots hat hc hs
  obtain ⟨a1, a2, a3, a4, a5, a6, a7, a8⟩ := hat
  obtain ⟨x1, x2, x3, x4, x5, x6, x7, x8, x9, x10, x11, x12, x13, x14⟩ := id C
  subst hst
  obtain ⟨x, y, rfl, b1, b2⟩ := a5.split
  obtain ⟨q, cs, c0, rfl, hq, e1, e2, b3⟩ := st_ref a2 b2
  have b1' : rVs G ad as x.reverse := by have := b1.rev; rwa [List.reverse_reverse] at this
  have hF := va_free (wc := ws) a7 a8 x11 (List.range ws.length) (by
    apply List.ext_getElem?
    intro j
    simp only [List.getElem?_map]
    by_cases hj : j < ws.length
    · rw [List.getElem?_range hj]; simp [hj]
    · rw [List.getElem?_eq_none (by simpa using hj), List.getElem?_eq_none (by simpa using hj)]; rfl)
  obtain ⟨⟨m1, m2, ⟨m3, m4, m5⟩, m6⟩, m7, m8, m9⟩ := hm
  have hM := hC l ad ws (.ref q :: x.reverse) H.size x14 a2 ⟨_, _, rfl, ⟨q, hq, rfl⟩, b1'⟩
  have hpre := kG.pre (cas := .ref q :: x.reverse) x9 x10 a6 a7 a8 hF
  have hlen : x.reverse.length = n := by rw [b1'.len]; exact hn
  have hW9 : 2 * (F0 m pc ls (x ++ .ref q :: cs)).monitorRoom + (cs.map fun v => v.category).sum ≤ 8 := by show 2 * 0 + _ ≤ 8; rw [b3.cats]; omega
  have hR : (rmM d mc1 ms1).frames + 1 ≤ R.frames ∧ 8 + (M2.2.2.1 + 11) + (rmM d mc1 ms1).locals ≤ R.locals := ⟨by show d + 1 ≤ _; omega, by show 8 + (M2.2.2.1 + 11) + 60 * d ≤ _; omega⟩
  have hwM : wsM M2 = Cond.code M2.1 M2.2.1 M2.2.2.1 none :: lw_ok := by rw [← m9]; rfl
  rcases hl with hl | ⟨host, hl⟩
  · refine va_goes (va_runI (As := x.reverse) (rest := cs) (Ts := lw_ok) ⟨x1, x2, x3, x7, x8⟩ hM ⟨callB_of n x8 (wsM_good m1) hwM rfl rfl (x8 _ m2) (x8 _ hl) ⟨m3, m4, m5⟩ hR, m7, x8 _ m8⟩ ⟨preM.blind, hpre⟩ rfl hlen (by rw [← a4]; exact a3.lv) (by rw [List.reverse_reverse]) hW9 hd ⟨by omega, by omega⟩) a8 hF (fun v σ' ad' ws' cv H1 l1 q1 q2 q3 q4 q5 q6 q7 => kk v σ' q1 p l e R s m args below meth c A ad0 cm sm QQ C h1 h2 hf ad' ws' ls _ H1 l1 (cells + mc1) (slots + ms1) ⟨a1.trans q2, q3, a3.mono q2, a4, q4.list.app (b3.mono q2), q5, q6, q7⟩ (by omega) (by omega))
  · refine va_goes (va_runIN (As := x.reverse) (rest := cs) (Ts := lw_ok) ⟨x1, x2, x3, x7, x8⟩ hM ⟨va_cnB n x8 (wsM_good m1) hwM rfl rfl (x9.2.1 _ hl) (x8 _ m2) ⟨m3, m4, m5⟩ hR, m7, x8 _ m8⟩ ⟨preM.blind, hpre⟩ rfl hlen (by rw [← a4]; exact a3.lv) (by rw [List.reverse_reverse]) hW9 hd ⟨by omega, by omega⟩) a8 hF (fun v σ' ad' ws' cv H1 l1 q1 q2 q3 q4 q5 q6 q7 => kk v σ' q1 p l e R s m args below meth c A ad0 cm sm QQ C h1 h2 hf ad' ws' ls _ H1 l1 (cells + mc1) (slots + ms1) ⟨a1.trans q2, q3, a3.mono q2, a4, q4.list.app (b3.mono q2), q5, q6, q7⟩ (by omega) (by omega))

