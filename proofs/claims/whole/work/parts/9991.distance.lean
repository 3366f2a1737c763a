/-! methods with a table of handlers: called by the law, catching what X11 throws -/
def wsH (M : Md) (hh : List (Nat × Nat × Nat × Nat)) : List Cond := .codeWith M.1 M.2.1 M.2.2.1 M.2.2.2 hh :: lw_ok
def ClH (G : Gx) (M : Md) (hh : List (Nat × Nat × Nat × Nat)) (d : Nat) (as : List Value) (σ : Hp) (mc ms : Nat) (Q : Option Value → Hp → Prop) : Prop :=
  ∀ (l : Launch) (ad : List Nat) (ws : va_W) (cas : List Value) (sz : Nat), l.flags = flags0 → rW G ad σ ws → rVs G ad as cas → Met l M.1 (wsH M hh) (rmM d mc ms) (preM G cas sz ws) (qcM G ad ws sz Q) mc ms (va_A ws sz)
set_option maxHeartbeats 1000000 in
theorem clh_of {G : Gx} {M : Md} {hh : List (Nat × Nat × Nat × Nat)} {d : Nat} {as : List Value} {σ : Hp} {mc ms : Nat} {Q : Option Value → Hp → Prop} (hp : plainName M.1.cls = true) (hc : ∀ v ∈ as, v.category = 1) (hn : as.length ≤ M.2.2.1)
    (h : ∀ (p : Program) (l : Launch) (e : Env) (s : State) (m : MethodId) (args : Array Value) (below : List Frame) (meth : Method) (c : Code) (ad : List Nat) (ws : va_W) (QQ : State → Prop), cxM G M d p l (rmM d mc ms) s m args meth c (va_A ws s.heap.size) → c.exceptionTable.toList = tableOf hh → finM G M p l e (rmM d mc ms) s m args below meth c (va_A ws s.heap.size) ad Q mc ms QQ →
      Wq G M p l e (rmM d mc ms) s m args below meth c (va_A ws s.heap.size) ad mc ms QQ 0 (entL as M.2.2.1) [] σ mc ms) : ClH G M hh d as σ mc ms Q := by
  intro l ad ws cas sz hfl hW hA
  refine va_MetW (hh := hh) (cc := M.2.1) (maxL := M.2.2.1) (ret := M.2.2.2) hp rfl ?_
  intro p e s m args below meth c s₁ B hml hv
  obtain ⟨rfl, rfl, hP, hD0, hK, hF⟩ := hv
  have hts := atoms_spec (ws := wsH M hh) B.pre
  have htb := vx_table (x := M.1) B (hts _ List.mem_cons_self)
  rw [lg_entry_eq]
  have hlen : (entL as M.2.2.1).length = M.2.2.1 := by simp [entL]; omega
  refine h p l e s m _ below meth c ad ws _
    ⟨B.exec, B.bytes, hml, B.returns, B.notSynchronized, (name_of_methodNamed B.named B.method).1, findClass_of_methodNamed B.named, fun w hw => hts w (List.mem_cons_of_mem _ hw), hK, hF, fun q hq => Or.inr hq, Nat.le_refl _, Nat.le_refl _, hfl⟩
    htb ?_ ad ws _ [] s.heap [] 0 0 ⟨ex.rfl, hW, rL.entry hA hc hn, hlen, rfl, hP, hD0.self, va_S.rf⟩ (by omega) (by omega)
  intro v σ' ad' ws' cv H locs pc ls hq g1 g2 g3 g4 g5 g6 g7
  have hpost : ∀ t : State, t.heap = H → s.WarmedH t.vm → qcM G ad ws s.heap.size Q cas.toArray s (.returned cv) t := fun t ht _ => ⟨⟨v, σ', ad', ws', cv, rfl, hq, g1, g2, g3, by rw [ht]; exact g4, g5⟩, g6.F ht⟩
  cases v with
  | none =>
    cases g3
    exact W.vret B.exec B.bytes (B.returns.trans g7.2) hpost g6.2.2 g7.1 B.notSynchronized
  | some v =>
    obtain ⟨c0, rfl, g3⟩ := g3
    cases v with
    | int x =>
      cases g3
      obtain ⟨k1, ty, k2, k3⟩ := g7
      exact W.zret B.exec B.bytes (B.returns.trans k2) k3 hpost g6.2.2 k1 B.notSynchronized
    | _ =>
      obtain ⟨k1, k2, nn, k3⟩ := g7
      rcases k2 with k2 | ⟨k, k2⟩
      · first | (cases k2; done) | (cases g3; exact W.aret B.exec B.bytes (B.returns.trans k3) (Or.inl ⟨nn, rfl⟩) (Or.inl rfl) hpost g6.2.2 k1 B.notSynchronized)
      · first | (cases k2; done) | (obtain ⟨q, -, rfl⟩ := g3; exact W.aret B.exec B.bytes (B.returns.trans k3) (Or.inl ⟨nn, rfl⟩) (Or.inr ⟨q, rfl⟩) hpost g6.2.2 k1 B.notSynchronized)
theorem wsH_good {M' : Md} {hh : List (Nat × Nat × Nat × Nat)} (h : Cond.codeWith M'.1 M'.2.1 M'.2.2.1 M'.2.2.2 hh ∈ lw_ok) : GoodIn lw_ok (wsH M' hh) := by
  intro w hw
  rcases List.mem_cons.mp hw with rfl | hw
  · exact ⟨h, good_of_word (List.mem_filter.mp h).2⟩
  · exact ⟨hw, good_of_word (List.mem_filter.mp hw).2⟩
def MSH (M : Md) (hh : List (Nat × Nat × Nat × Nat)) (n : Nat) : Prop := Cond.codeWith M.1 M.2.1 M.2.2.1 M.2.2.2 hh ∈ lw_ok ∧ Cond.initialized M.1.cls ∈ lw_ok ∧ (M.1.cls ≠ "java/lang/invoke/MethodHandle" ∧ M.1.cls ≠ "java/lang/invoke/VarHandle" ∧ (parseMethodDescriptor M.1.desc).map (fun d => d.parameters.length) = some n) ∧ M.2.2.1 ≤ 41 ∧ Cond.static M.1 ∈ lw_ok
theorem iL_distance : MSH mL_distance [(0, 10, 13, 13)] 4 := ⟨okm 1268 (by decide +kernel) (by decide +kernel), okm 169 (by decide +kernel) (by decide +kernel), ⟨by decide +kernel, by decide +kernel, by decide +kernel⟩, by decide, okm 1267 (by decide +kernel) (by decide +kernel)⟩
theorem iL_corner : MSH mL_corner [(0, 9, 12, 13)] 3 := ⟨okm 1342 (by decide +kernel) (by decide +kernel), okm 169 (by decide +kernel) (by decide +kernel), ⟨by decide +kernel, by decide +kernel, by decide +kernel⟩, by decide, okm 1341 (by decide +kernel) (by decide +kernel)⟩
set_option maxHeartbeats 1000000 in
theorem wp_callSH {G : Gx} {M M2 : Md} {hh : List (Nat × Nat × Nat × Nat)} {d pc i n : Nat} {L st st0 : List Value} {σ : Hp} {mc1 ms1 mc2 ms2 : Nat} {Q Q2 : Option Value → Hp → Prop} (as : List Value) (hd : decode M.2.1 pc = .ok (.invokestatic i, 3)) (hm : MSH M2 hh n) (hl : Cond.methodLink M.1.cls i M2.1 ∈ lw_ok) (hst : st0 = as.reverse ++ st) (hn : as.length = n) (hcat : (st.map fun v => v.category).sum ≤ 8) (hC : ClH G M2 hh d as σ mc1 ms1 Q2)
    (kk : ∀ v σ2, Q2 v σ2 → Wp G M (d + 1) (pc + 3) L (v.toList ++ st) σ2 mc2 ms2 Q) : Wp G M (d + 1) pc L st0 σ (mc1 + mc2) (ms1 + ms2) Q := by
  intro p l e R s m args below meth c A ad0 cm sm QQ C h1 h2 hf ad ws ls cst H locs cells slots hat hc hs
  obtain ⟨a1, a2, a3, a4, a5, a6, a7, a8⟩ := hat
  obtain ⟨x1, x2, x3, x4, x5, x6, x7, x8, x9, x10, x11, x12, x13, x14⟩ := id C
  subst hst
  obtain ⟨x, cs, rfl, b1, b3⟩ := a5.split
  have b1' : rVs G ad as x.reverse := by have := b1.rev; rwa [List.reverse_reverse] at this
  have hF := va_free (wc := ws) a7 a8 x11 (List.range ws.length) (by
    apply List.ext_getElem?
    intro j
    simp only [List.getElem?_map]
    by_cases hj : j < ws.length
    · rw [List.getElem?_range hj]; simp [hj]
    · rw [List.getElem?_eq_none (by simpa using hj), List.getElem?_eq_none (by simpa using hj)]; rfl)
  obtain ⟨m1, m2, ⟨m3, m4, m5⟩, m6, m7⟩ := hm
  have hM := hC l ad ws x.reverse H.size x14 a2 b1'
  have hpre := kG.pre (cas := x.reverse) x9 x10 a6 a7 a8 hF
  have hlen : x.reverse.length = n := by rw [b1'.len]; exact hn
  have hW9 : 2 * (F0 m pc ls (x ++ cs)).monitorRoom + (cs.map fun v => v.category).sum ≤ 8 := by show 2 * 0 + _ ≤ 8; rw [b3.cats]; omega
  have hR : (rmM d mc1 ms1).frames + 1 ≤ R.frames ∧ 8 + (M2.2.2.1 + 11) + (rmM d mc1 ms1).locals ≤ R.locals := ⟨by show d + 1 ≤ _; omega, by show 8 + (M2.2.2.1 + 11) + 60 * d ≤ _; omega⟩
  have hT : GoodIn lw_ok (va_wsS M.1.cls i M2.1 (wsH M2 hh)) := by
    intro w hw
    unfold va_wsS at hw
    rcases List.mem_append.mp hw with hw | hw
    · have hmem : w ∈ lw_ok := by
        simp only [List.mem_cons, List.not_mem_nil, or_false] at hw
        rcases hw with rfl | rfl | rfl <;> assumption
      exact ⟨hmem, good_of_word (List.mem_filter.mp hmem).2⟩
    · exact wsH_good m1 w hw
  refine va_goes (vx_runSW (hh := hh) (As := x.reverse) (rest := cs) (Ts := lw_ok) ⟨x1, x2, x3, x7, x8⟩ hM (vx_cwSW n x8 hT rfl rfl rfl ⟨m3, m4, m5⟩ hR) ⟨preM.blind, hpre⟩ rfl hlen (by rw [← a4]; exact a3.lv) (by rw [List.reverse_reverse]) hW9 hd ⟨by omega, by omega⟩) a8 hF (fun v σ' ad' ws' cv H1 l1 q1 q2 q3 q4 q5 q6 q7 => kk v σ' q1 p l e R s m args below meth c A ad0 cm sm QQ C h1 h2 hf ad' ws' ls _ H1 l1 (cells + mc1) (slots + ms1) ⟨a1.trans q2, q3, a3.mono q2, a4, q4.list.app (b3.mono q2), q5, q6, q7⟩ (by omega) (by omega))
/-- a call that throws, caught by the only row of this method's table -/
theorem wq_caught {G : Gx} {M M2 : Md} {d pc i n e0 hpc : Nat} {L st st0 : List Value} {σ : Hp} {mc1 ms1 : Nat} {Qx : Hp → Prop} {k ci : Nat} {fs : List Value} {p : Program} {l : Launch} {e : Env} {R : Room} {s : State} {m : MethodId} {args : Array Value} {below : List Frame} {meth : Method} {c : Code} {A : Nat → Prop} {ad0 : List Nat} {cm sm : Nat} {QQ : State → Prop}
    (C : cxM G M (d + 1) p l R s m args meth c A) (h1 : cm ≤ R.cells) (h2 : sm ≤ R.slots) (as : List Value) (hd : decode M.2.1 pc = .ok (.invokevirtual i, 3)) (hm : MV M2 n) (hl : Cond.methodLink M.1.cls i M2.1 ∈ lw_ok) (hst : st0 = as.reverse ++ .ref k :: st) (hn : as.length = n) (hcat : (st.map fun v => v.category).sum ≤ 8) (hk : σ.2 k = .inr (ci, fs)) (hcl : (clX[ci]?.map fun q => q.1) = some M2.1.cls) (hC : ClX G M2 d (.ref k :: as) σ mc1 ms1 Qx)
    (htb : c.exceptionTable.toList = tableOf [(0, e0, hpc, 13)]) (hcv : pc < e0) (hM : M.1.cls = "SureHuntersLaw")
    (kk : ∀ (σ2 : Hp) (ad : List Nat) (ws : va_W) (ls : Array Slot) (H : Heap) (locs : List Loc) (cells slots q9 : Nat), Qx σ2 → cells ≤ cm → slots ≤ sm → atM G M s A ad0 ad ws L [] σ2 ls [] H locs → W p l e R s m args below meth c H locs cells slots QQ (F0 m hpc ls [.ref q9])) :
    Wq G M p l e R s m args below meth c A ad0 cm sm QQ pc L st0 σ mc1 ms1 := by
  intro ad ws ls cst H locs cells slots hat hc hs
  obtain ⟨a1, a2, a3, a4, a5, a6, a7, a8⟩ := hat
  obtain ⟨x1, x2, x3, x4, x5, x6, x7, x8, x9, x10, x11, x12, x13, x14⟩ := id C
  subst hst
  obtain ⟨x, y, rfl, b1, b2⟩ := a5.split
  obtain ⟨q, cs, c0, rfl, hq, e1, e2, b3⟩ := st_ref a2 b2
  rw [hk] at e2
  obtain ⟨gs, rfl, -⟩ := e2
  have b1' : rVs G ad as x.reverse := by have := b1.rev; rwa [List.reverse_reverse] at this
  have hF := va_free (wc := ws) a7 a8 x11 (List.range ws.length) (by
    apply List.ext_getElem?
    intro j
    simp only [List.getElem?_map]
    by_cases hj : j < ws.length
    · rw [List.getElem?_range hj]; simp [hj]
    · rw [List.getElem?_eq_none (by simpa using hj), List.getElem?_eq_none (by simpa using hj)]; rfl)
  obtain ⟨⟨m1, m2, ⟨m3, m4, m5⟩, m6⟩, m7, m8⟩ := hm
  obtain ⟨r, hr1, hr2⟩ : ∃ r, clX[ci]? = some r ∧ r.1 = M2.1.cls := by
    cases hci : clX[ci]? with
    | none => rw [hci] at hcl; cases hcl
    | some r => rw [hci] at hcl; exact ⟨r, rfl, Option.some.inj hcl⟩
  have hrecv := va_recv x9.1 a6 hr1 e1
  rw [hr2] at hrecv
  have hMt := hC l ad ws (.ref q :: x.reverse) H.size x14 a2 ⟨_, _, rfl, ⟨q, hq, rfl⟩, b1'⟩
  have hpre := kG.pre (cas := .ref q :: x.reverse) x9 x10 a6 a7 a8 hF
  have hlen : x.reverse.length = n := by rw [b1'.len]; exact hn
  have hW9 : 2 * (F0 m pc ls (x ++ .ref q :: cs)).monitorRoom + (cs.map fun v => v.category).sum ≤ 8 := by show 2 * 0 + _ ≤ 8; rw [b3.cats]; omega
  have hR : (rmM d mc1 ms1).frames + 1 ≤ R.frames ∧ 8 + (M2.2.2.1 + 11) + (rmM d mc1 ms1).locals ≤ R.locals := ⟨by show d + 1 ≤ _; omega, by show 8 + (M2.2.2.1 + 11) + 60 * d ≤ _; omega⟩
  have hr := vx_runV (p := p) (e := e) (below := below) (meth := meth) (locs := locs) (cells := cells) (slots := slots) (As := x.reverse) (rest := cs) (Ts := lw_ok) (g := F0 m pc ls (x ++ .ref q :: cs)) ⟨x1, x2, x3, x7, x8⟩ hMt ⟨callB_of n x8 (wsM_good m1) rfl rfl rfl (x8 _ m2) (x8 _ hl) ⟨m3, m4, m5⟩ hR, x8 _ m7, x8 _ m8⟩ ⟨preM.blind, hrecv, hpre⟩ rfl hlen (by rw [← a4]; exact a3.lv) (by rw [List.reverse_reverse]) hW9 hd ⟨by omega, by omega⟩
  intro T hT X
  rcases hr T hT X with ⟨v, st₀, t, T', Lc, h0, X', hL, e1, e2, hz, stp⟩ | ⟨q9, st₀, t, T', Lc, E, ce, h0, X', hL, e1, e2, ⟨rfl, ⟨σ2, ad2, ws2, hQ, g1, g2, g3, g4⟩, hFr⟩, hce, hcv', hcl', stp⟩
  · exact hz.elim
  · obtain ⟨k1, k2, k3⟩ := vx_keep h0 e1 a8 (fun q _ h => hF q h) hF hL hFr
    have hW := vx_catch (p := p) (l := l) (e := e) (R := R) (below := below) (meth := meth) (locs := locs ++ Lc) (cells := cells + mc1) (slots := slots + ms1) (Q := QQ) (pc := pc) (ls := ls) (rest := cs) (own := "SureHuntersLaw") (name := yNS) (E := yNS) (ce := ce) (q := q9) (H := T'.heap) (by rw [← hM]; exact x7) [] ⟨0, e0, hpc, 13⟩ [] htb (fun z hz => nomatch hz) (by simp [covers, hcv]) (show (13 : Nat) ≠ 0 by decide) (x8 (Cond.classLink "SureHuntersLaw" 13 yNS) (okm 1269 (by decide +kernel) (by decide +kernel))) (yx_cast (x8 _ (okm 193 (by decide +kernel) (by decide +kernel)))) (by rw [e1]; exact hce) hcv' hcl'
      (kk σ2 ad2 ws2 ls T'.heap (locs ++ Lc) _ _ q9 hQ (by omega) (by omega) ⟨a1.trans g1, g2, a3.mono g1, a4, rfl, by rw [e1]; exact g3, g4.weaken (fun _ _ _ h => hF _ h), k3⟩)
    obtain ⟨t2, b1, b2⟩ := hW T' rfl X'
    exact ⟨t2, stp.trans b1, b2⟩
/-! distance and corner -/
section Dist
variable {G : Gx} {d : Nat} {σ : Hp} {S : Ab} {mk : Nat → Option Nat} {T : Nat}
theorem vX11_distance (hd : 2 ≤ d) (hV : AbV S) (hS : CSt S σ mk T) {a b : Nat} (ha : a < S.n) (hb : b < S.n) : Cl G mX11_distance d [.ref 0, .int (nI a), .int (nI b)] σ 0 0 (pI fun r s => r = oI (stp S.nb S.n b 10 0 (2 ^ a)) ∧ s = σ) := by
  obtain ⟨d0, hdd⟩ : ∃ e, d = e + 1 := ⟨d - 1, by omega⟩
  refine cl_of (by decide) (by simp [Value.category]) (Nat.le_of_ble_eq_true rfl) ?_
  show Wp G mX11_distance d 0 [.ref 0, .int (nI a), .int (nI b)] [] σ 0 0 _
  have hH := hS.1.2.2.2
  have hn := hV.1.1.1
  have hw := net_lt hV.1
  obtain ⟨hN, hNA⟩ := hS.2.1.2.1
  refine wp_aload_n (atd dX11_distance 0 rfl) rfl rfl ?_
  refine wp_get fX11_19 (atd dX11_distance 1 rfl) hH rfl ?_
  refine wp_iload_n (atd dX11_distance 2 rfl) rfl ?_
  refine wp_cVi hdd [_] (atd dX11_distance 3 rfl) iX3_has lX11_144 rfl rfl (Nat.le_of_ble_eq_true rfl) hN rfl (eX3_has (by omega) hN hn) (fun r_5 s_5 h_5 => ?_)
  obtain ⟨rfl, e_5⟩ := h_5
  obtain rfl := e_5.symm
  refine wp_ifB_eq (tgt := 22) (atd dX11_distance 4 rfl) (by decide) (fun c_8 => absurd ((isP_nI (by omega)).mpr ha) c_8) (fun c_8 => ?_)
  refine wp_aload_n (atd dX11_distance 5 rfl) rfl rfl ?_
  refine wp_get fX11_19 (atd dX11_distance 6 rfl) hH rfl ?_
  refine wp_iload_n (atd dX11_distance 7 rfl) rfl ?_
  refine wp_cVi hdd [_] (atd dX11_distance 8 rfl) iX3_has lX11_144 rfl rfl (Nat.le_of_ble_eq_true rfl) hN rfl (eX3_has (by omega) hN hn) (fun r_5 s_5 h_5 => ?_)
  obtain ⟨rfl, e_5⟩ := h_5
  obtain rfl := e_5.symm
  refine wp_ifB_ne (tgt := 32) (atd dX11_distance 9 rfl) (by decide) (fun c_9 => ?_) (fun c_9 => absurd ((isP_nI (by omega)).mpr hb) c_9)
  refine wp_aload_n (atd dX11_distance 15 rfl) rfl rfl ?_
  refine wp_get fX11_19 (atd dX11_distance 16 rfl) hH rfl ?_
  refine wp_iload_n (atd dX11_distance 17 rfl) rfl ?_
  refine wp_iload_n (atd dX11_distance 18 rfl) rfl ?_
  refine wp_cVi hdd [_, _] (atd dX11_distance 19 rfl) iX3_steps lX11_158 rfl rfl (Nat.le_of_ble_eq_true rfl) hN rfl (eX3_steps (by omega) hN hNA hn hw (by omega) (by omega)) (fun r_5 s_5 h_5 => ?_)
  obtain ⟨rfl, e_5⟩ := h_5
  obtain rfl := e_5.symm
  refine wp_ireti (atd dX11_distance 20 rfl) rfl ?_
  exact ⟨by rw [stp_eq hV.1 ha], rfl⟩
theorem vX11_corner (hd : 2 ≤ d) (hV : AbV S) (hS : CSt S σ mk T) {a : Nat} (ha : a < S.n) : Cl G mX11_corner d [.ref 0, .int (nI a)] σ 0 0 (pI fun r s => r = oI (crn S.nb S.n a (2 ^ S.n - 1) S.n 0) ∧ s = σ) := by
  obtain ⟨d0, hdd⟩ : ∃ e, d = e + 1 := ⟨d - 1, by omega⟩
  refine cl_of (by decide) (by simp [Value.category]) (Nat.le_of_ble_eq_true rfl) ?_
  show Wp G mX11_corner d 0 [.ref 0, .int (nI a)] [] σ 0 0 _
  have hH := hS.1.2.2.2
  have hn := hV.1.1.1
  have hw := net_lt hV.1
  obtain ⟨hN, hNA⟩ := hS.2.1.2.1
  refine wp_aload_n (atd dX11_corner 0 rfl) rfl rfl ?_
  refine wp_get fX11_19 (atd dX11_corner 1 rfl) hH rfl ?_
  refine wp_iload_n (atd dX11_corner 2 rfl) rfl ?_
  refine wp_cVi hdd [_] (atd dX11_corner 3 rfl) iX3_has lX11_144 rfl rfl (Nat.le_of_ble_eq_true rfl) hN rfl (eX3_has (by omega) hN hn) (fun r_5 s_5 h_5 => ?_)
  obtain ⟨rfl, e_5⟩ := h_5
  obtain rfl := e_5.symm
  refine wp_ifB_ne (tgt := 21) (atd dX11_corner 4 rfl) (by decide) (fun c_8 => ?_) (fun c_8 => absurd ((isP_nI (by omega)).mpr ha) c_8)
  refine wp_aload_n (atd dX11_corner 10 rfl) rfl rfl ?_
  refine wp_get fX11_19 (atd dX11_corner 11 rfl) hH rfl ?_
  refine wp_aload_n (atd dX11_corner 12 rfl) rfl rfl ?_
  refine wp_get fX11_19 (atd dX11_corner 13 rfl) hH rfl ?_
  refine wp_cVi hdd [] (atd dX11_corner 14 rfl) iX3_all lX11_162 rfl rfl (Nat.le_of_ble_eq_true rfl) hN rfl (eX3_all (by omega) hN hn) (fun r_5 s_5 h_5 => ?_)
  obtain ⟨rfl, e_5⟩ := h_5
  obtain rfl := e_5.symm
  refine wp_iload_n (atd dX11_corner 15 rfl) rfl ?_
  have h9 : 2 ^ S.n ≤ 2 ^ 9 := Nat.pow_le_pow_right (by decide) hn
  refine wp_cSi hdd [_, _, _] (atd dX11_corner 16 rfl) iX0_cornerBy lX11_165 rfl rfl (Nat.le_of_ble_eq_true rfl) (eX0_cornerBy (by omega) hN hNA hn hw (by omega) (by omega)) (fun r_5 s_5 h_5 => ?_)
  obtain ⟨rfl, e_5⟩ := h_5
  obtain rfl := e_5.symm
  refine wp_ireti (atd dX11_corner 17 rfl) rfl ?_
  exact ⟨rfl, rfl⟩
end Dist
section Dist2
variable {G : Gx} {d : Nat} {σ : Hp} {S : Ab} {mk : Nat → Option Nat} {T : Nat}
theorem wX11_distance (hd : 6 ≤ d) (hV : AbV S) (hS : CSt S σ mk T) {a b : Int32} (hab : ¬ (isP a S.n ∧ isP b S.n)) : ClX G mX11_distance d [.ref 0, .int a, .int b] σ 1 6 (fun s => s = σ) := by
  obtain ⟨d0, hdd⟩ : ∃ e, d = e + 1 := ⟨d - 1, by omega⟩
  refine clx_of (by decide) (by simp [Value.category]) (Nat.le_of_ble_eq_true rfl) ?_
  intro p l e s m args below meth c ad ws C hno
  show Wq G mX11_distance p l e _ s m args below meth c _ ad 1 6 _ 0 [.ref 0, .int a, .int b] [] σ 1 6
  have hH := hS.1.2.2.2
  have hn := hV.1.1.1
  obtain ⟨hN, hNA⟩ := hS.2.1.2.1
  have thr : ∀ σ2, σ2 = σ → Wq G mX11_distance p l e (rmM d 1 6) s m args below meth c (va_A ws s.heap.size) ad 1 6 (vx_MQ below (fun _ _ _ _ => False) (xcM G ad ws s.heap.size (fun s => s = σ)) args s 1 6 (va_A ws s.heap.size)) 22 [.ref 0, .int a, .int b] [] σ2 1 6 := fun σ2 h => wq_throw C (Nat.le_refl _) (Nat.le_refl _) rfl hno hd rfl (atd dX11_distance 10 rfl) (atd dX11_distance 11 rfl) (atd dX11_distance 12 rfl) (atd dX11_distance 13 rfl) (atd dX11_distance 14 rfl) h
  subst hdd
  have l1 : (1 : Nat) ≤ (rmM (d0 + 1) 1 6).cells := Nat.le_refl _
  have l2 : (6 : Nat) ≤ (rmM (d0 + 1) 1 6).slots := Nat.le_refl _
  refine wq_aload_n C l1 l2 (atd dX11_distance 0 rfl) rfl rfl ?_
  refine wq_get C l1 l2 fX11_19 (atd dX11_distance 1 rfl) hH rfl ?_
  refine wq_iload_n C l1 l2 (atd dX11_distance 2 rfl) rfl ?_
  refine wq_callV (mc1 := 0) (ms1 := 0) (mc2 := 1) (ms2 := 6) C l1 l2 [_] (atd dX11_distance 3 rfl) iX3_has lX11_144 rfl rfl (Nat.le_of_ble_eq_true rfl) hN rfl (eX3_has (by omega) hN hn) (fun v s_5 h_5 => ?_)
  obtain ⟨r, rfl, hr, hs⟩ := h_5
  have hs := hs.symm
  subst hs
  subst hr
  refine wq_if_eq (tgt := 22) C l1 l2 (atd dX11_distance 4 rfl) (by decide) (fun _ => thr _ rfl) (fun c_8 => ?_)
  have hpa : isP a S.n := Classical.byContradiction fun h => c_8 (by rw [bI_f h]; rfl)
  refine wq_aload_n C l1 l2 (atd dX11_distance 5 rfl) rfl rfl ?_
  refine wq_get C l1 l2 fX11_19 (atd dX11_distance 6 rfl) hH rfl ?_
  refine wq_iload_n C l1 l2 (atd dX11_distance 7 rfl) rfl ?_
  refine wq_callV (mc1 := 0) (ms1 := 0) (mc2 := 1) (ms2 := 6) C l1 l2 [_] (atd dX11_distance 8 rfl) iX3_has lX11_144 rfl rfl (Nat.le_of_ble_eq_true rfl) hN rfl (eX3_has (by omega) hN hn) (fun v s_5 h_5 => ?_)
  obtain ⟨r, rfl, hr, hs⟩ := h_5
  have hs := hs.symm
  subst hs
  subst hr
  refine wq_if_ne (tgt := 32) C l1 l2 (atd dX11_distance 9 rfl) (by decide) (fun c_9 => absurd ⟨hpa, Classical.byContradiction fun h => c_9 (by rw [bI_f h]; rfl)⟩ hab) (fun _ => thr _ rfl)
theorem wX11_corner (hd : 6 ≤ d) (hV : AbV S) (hS : CSt S σ mk T) {a : Int32} (hab : ¬ isP a S.n) : ClX G mX11_corner d [.ref 0, .int a] σ 1 6 (fun s => s = σ) := by
  obtain ⟨d0, hdd⟩ : ∃ e, d = e + 1 := ⟨d - 1, by omega⟩
  refine clx_of (by decide) (by simp [Value.category]) (Nat.le_of_ble_eq_true rfl) ?_
  intro p l e s m args below meth c ad ws C hno
  show Wq G mX11_corner p l e _ s m args below meth c _ ad 1 6 _ 0 [.ref 0, .int a] [] σ 1 6
  have hH := hS.1.2.2.2
  have hn := hV.1.1.1
  obtain ⟨hN, hNA⟩ := hS.2.1.2.1
  have thr : ∀ σ2, σ2 = σ → Wq G mX11_corner p l e (rmM d 1 6) s m args below meth c (va_A ws s.heap.size) ad 1 6 (vx_MQ below (fun _ _ _ _ => False) (xcM G ad ws s.heap.size (fun s => s = σ)) args s 1 6 (va_A ws s.heap.size)) 11 [.ref 0, .int a] [] σ2 1 6 := fun σ2 h => wq_throw C (Nat.le_refl _) (Nat.le_refl _) rfl hno hd rfl (atd dX11_corner 5 rfl) (atd dX11_corner 6 rfl) (atd dX11_corner 7 rfl) (atd dX11_corner 8 rfl) (atd dX11_corner 9 rfl) h
  subst hdd
  have l1 : (1 : Nat) ≤ (rmM (d0 + 1) 1 6).cells := Nat.le_refl _
  have l2 : (6 : Nat) ≤ (rmM (d0 + 1) 1 6).slots := Nat.le_refl _
  refine wq_aload_n C l1 l2 (atd dX11_corner 0 rfl) rfl rfl ?_
  refine wq_get C l1 l2 fX11_19 (atd dX11_corner 1 rfl) hH rfl ?_
  refine wq_iload_n C l1 l2 (atd dX11_corner 2 rfl) rfl ?_
  refine wq_callV (mc1 := 0) (ms1 := 0) (mc2 := 1) (ms2 := 6) C l1 l2 [_] (atd dX11_corner 3 rfl) iX3_has lX11_144 rfl rfl (Nat.le_of_ble_eq_true rfl) hN rfl (eX3_has (by omega) hN hn) (fun v s_5 h_5 => ?_)
  obtain ⟨r, rfl, hr, hs⟩ := h_5
  have hs := hs.symm
  subst hs
  subst hr
  refine wq_if_ne (tgt := 21) C l1 l2 (atd dX11_corner 4 rfl) (by decide) (fun c_9 => absurd (Classical.byContradiction fun h => c_9 (by rw [bI_f h]; rfl)) hab) (fun _ => thr _ rfl)
theorem lkL_7 : Cond.methodLink RL 7 yX11_distance ∈ lw_ok := okw (in5 141 (by decide +kernel)) (by decide +kernel)
theorem lkL_15 : Cond.methodLink RL 15 yX11_corner ∈ lw_ok := okw (in5 214 (by decide +kernel)) (by decide +kernel)
theorem lkL_49 : Cond.methodLink RL 49 yL_distance ∈ lw_ok := okw (in5 137 (by decide +kernel)) (by decide +kernel)
theorem lkL_58 : Cond.methodLink RL 58 yL_corner ∈ lw_ok := okw (in5 211 (by decide +kernel)) (by decide +kernel)
def dsA (S : Ab) (a b : Int32) : Int32 := atP a S.n (fun j => atP b S.n (fun k => oI (stp S.nb S.n k 10 0 (2 ^ j))) (nI 0)) (nI 0)
def coA (S : Ab) (a : Int32) : Int32 := atP a S.n (fun j => oI (crn S.nb S.n j (2 ^ S.n - 1) S.n 0)) (nI 0)
theorem eL_distance (hd : 8 ≤ d) (hV : AbV S) (hS : CSt S σ mk T) {a b : Int32} {g : Nat → Int64} (hg : σ.2 103 = .inl (2, 1, .inr (.inl g))) : ClH G mL_distance [(0, 10, 13, 13)] d [.ref 0, .int a, .int b, .ref 103] σ 1 6 (pI fun r s => r = bI (¬ (isP a S.n ∧ isP b S.n)) ∧ ∃ g2 : Nat → Int64, s = hset σ 103 (.inl (2, 1, .inr (.inl g2))) ∧ (isP a S.n ∧ isP b S.n → g2 0 = (dsA S a b).toInt64)) := by
  obtain ⟨d0, hdd⟩ : ∃ e, d = e + 1 := ⟨d - 1, by omega⟩
  have hn := hV.1.1.1
  refine clh_of (by decide) (by simp [Value.category]) (Nat.le_of_ble_eq_true rfl) ?_
  intro p l e s m args below meth c ad ws QQ C htb hf
  by_cases hab : isP a S.n ∧ isP b S.n
  · obtain ⟨j, hj, rfl⟩ := isP_of hn hab.1
    obtain ⟨k, hk, rfl⟩ := isP_of hn hab.2
    have hw : Wp G mL_distance d 0 [.ref 0, .int (nI j), .int (nI k), .ref 103, .double 0] [] σ 1 6 (pI fun r s => r = bI (¬ (isP (nI j) S.n ∧ isP (nI k) S.n)) ∧ ∃ g2 : Nat → Int64, s = hset σ 103 (.inl (2, 1, .inr (.inl g2))) ∧ (isP (nI j) S.n ∧ isP (nI k) S.n → g2 0 = (dsA S (nI j) (nI k)).toInt64)) := by
      refine wp_aload_n (atd dL_distance 0 rfl) rfl rfl ?_
      refine wp_iconst (v := nI 0) (atd dL_distance 1 rfl) (by decide) ?_
      refine wp_aload_n (atd dL_distance 2 rfl) rfl rfl ?_
      refine wp_iload_n (atd dL_distance 3 rfl) rfl ?_
      refine wp_iload_n (atd dL_distance 4 rfl) rfl ?_
      refine wp_cVi hdd [_, _] (atd dL_distance 5 rfl) iX11_distance lL_7 rfl rfl (Nat.le_of_ble_eq_true rfl) hS.1.2.2.2 rfl (vX11_distance (by omega) hV hS hj hk) (fun r_5 s_5 h_5 => ?_)
      obtain ⟨rfl, e_5⟩ := h_5
      obtain rfl := e_5.symm
      refine wp_i2l (atd dL_distance 6 rfl) ?_
      refine wp_last (atd dL_distance 7 rfl) hg (vp_in_nI (by decide) (by decide)) ?_
      refine wp_goto (tgt := 17) (atd dL_distance 8 rfl) (by decide) ?_
      refine wp_iconst (v := nI 0) (atd dL_distance 12 rfl) (by decide) ?_
      refine wp_ireti (atd dL_distance 13 rfl) rfl ?_
      refine ⟨(bI_f (fun h => h hab)).symm, _, rfl, fun _ => ?_⟩
      rw [dsA, atP_t hn hj, atP_t hn hk, nI_clamp (by decide)]
      simp [vp_updL]
    exact fun ad2 ws2 => hw p l e _ s m args below meth c _ ad 1 6 QQ C (Nat.le_refl _) (Nat.le_refl _) hf ad2 ws2
  · show Wq G mL_distance p l e _ s m args below meth c _ ad 1 6 QQ 0 [.ref 0, .int a, .int b, .ref 103, .double 0] [] σ 1 6
    subst hdd
    have l1 : (1 : Nat) ≤ (rmM (d0 + 1) 1 6).cells := Nat.le_refl _
    have l2 : (6 : Nat) ≤ (rmM (d0 + 1) 1 6).slots := Nat.le_refl _
    refine wq_aload_n C l1 l2 (atd dL_distance 0 rfl) rfl rfl ?_
    refine wq_iconst (v := nI 0) C l1 l2 (atd dL_distance 1 rfl) (by decide) ?_
    refine wq_aload_n C l1 l2 (atd dL_distance 2 rfl) rfl rfl ?_
    refine wq_iload_n C l1 l2 (atd dL_distance 3 rfl) rfl ?_
    refine wq_iload_n C l1 l2 (atd dL_distance 4 rfl) rfl ?_
    refine wq_caught C l1 l2 [_, _] (atd dL_distance 5 rfl) iX11_distance lkL_7 rfl rfl (Nat.le_of_ble_eq_true rfl) hS.1.2.2.2 rfl (wX11_distance (by omega) hV hS hab) htb (by decide) rfl ?_
    rintro σ2 ad2 ws2 ls H locs cells slots q9 rfl k1 k2 ⟨a1, a2, ⟨cl, b1, b2⟩, a4, a5, a6, a7, a8⟩
    refine lv_astore C.1 C.2.1 (atd dL_distance 9 rfl) b1 (Nat.le_of_ble_eq_true rfl) rfl (fun ls' hl' => ?_)
    refine lv_iconst C.1 C.2.1 (v := nI 1) (atd dL_distance 10 rfl) (by decide) ?_
    refine W.widen (k := 1) (n := 6) k1 k2 ?_
    exact hf (some (.int (nI 1))) σ2 ad2 ws2 (some (.int (nI 1))) H locs _ _ ⟨_, rfl, (bI_t hab).symm, g, (hset_id hg).symm, fun h => absurd h hab⟩ a1 a2 ⟨_, rfl, rfl⟩ a6 a7 a8 ⟨atd dL_distance 11 rfl, _, rfl, rfl⟩
theorem eL_corner (hd : 8 ≤ d) (hV : AbV S) (hS : CSt S σ mk T) {a : Int32} {g : Nat → Int64} (hg : σ.2 103 = .inl (2, 1, .inr (.inl g))) : ClH G mL_corner [(0, 9, 12, 13)] d [.ref 0, .int a, .ref 103] σ 1 6 (pI fun r s => r = bI (¬ (isP a S.n)) ∧ ∃ g2 : Nat → Int64, s = hset σ 103 (.inl (2, 1, .inr (.inl g2))) ∧ (isP a S.n → g2 0 = (coA S a).toInt64)) := by
  obtain ⟨d0, hdd⟩ : ∃ e, d = e + 1 := ⟨d - 1, by omega⟩
  have hn := hV.1.1.1
  refine clh_of (by decide) (by simp [Value.category]) (Nat.le_of_ble_eq_true rfl) ?_
  intro p l e s m args below meth c ad ws QQ C htb hf
  by_cases hab : isP a S.n
  · obtain ⟨j, hj, rfl⟩ := isP_of hn hab
    have hw : Wp G mL_corner d 0 [.ref 0, .int (nI j), .ref 103, .double 0] [] σ 1 6 (pI fun r s => r = bI (¬ (isP (nI j) S.n)) ∧ ∃ g2 : Nat → Int64, s = hset σ 103 (.inl (2, 1, .inr (.inl g2))) ∧ (isP (nI j) S.n → g2 0 = (coA S (nI j)).toInt64)) := by
      refine wp_aload_n (atd dL_corner 0 rfl) rfl rfl ?_
      refine wp_iconst (v := nI 0) (atd dL_corner 1 rfl) (by decide) ?_
      refine wp_aload_n (atd dL_corner 2 rfl) rfl rfl ?_
      refine wp_iload_n (atd dL_corner 3 rfl) rfl ?_
      refine wp_cVi hdd [_] (atd dL_corner 4 rfl) iX11_corner lL_15 rfl rfl (Nat.le_of_ble_eq_true rfl) hS.1.2.2.2 rfl (vX11_corner (by omega) hV hS hj) (fun r_5 s_5 h_5 => ?_)
      obtain ⟨rfl, e_5⟩ := h_5
      obtain rfl := e_5.symm
      refine wp_i2l (atd dL_corner 5 rfl) ?_
      refine wp_last (atd dL_corner 6 rfl) hg (vp_in_nI (by decide) (by decide)) ?_
      refine wp_goto (tgt := 15) (atd dL_corner 7 rfl) (by decide) ?_
      refine wp_iconst (v := nI 0) (atd dL_corner 11 rfl) (by decide) ?_
      refine wp_ireti (atd dL_corner 12 rfl) rfl ?_
      refine ⟨(bI_f (fun h => h hab)).symm, _, rfl, fun _ => ?_⟩
      rw [coA, atP_t hn hj, nI_clamp (by decide)]
      simp [vp_updL]
    exact fun ad2 ws2 => hw p l e _ s m args below meth c _ ad 1 6 QQ C (Nat.le_refl _) (Nat.le_refl _) hf ad2 ws2
  · show Wq G mL_corner p l e _ s m args below meth c _ ad 1 6 QQ 0 [.ref 0, .int a, .ref 103, .double 0] [] σ 1 6
    subst hdd
    have l1 : (1 : Nat) ≤ (rmM (d0 + 1) 1 6).cells := Nat.le_refl _
    have l2 : (6 : Nat) ≤ (rmM (d0 + 1) 1 6).slots := Nat.le_refl _
    refine wq_aload_n C l1 l2 (atd dL_corner 0 rfl) rfl rfl ?_
    refine wq_iconst (v := nI 0) C l1 l2 (atd dL_corner 1 rfl) (by decide) ?_
    refine wq_aload_n C l1 l2 (atd dL_corner 2 rfl) rfl rfl ?_
    refine wq_iload_n C l1 l2 (atd dL_corner 3 rfl) rfl ?_
    refine wq_caught C l1 l2 [_] (atd dL_corner 4 rfl) iX11_corner lkL_15 rfl rfl (Nat.le_of_ble_eq_true rfl) hS.1.2.2.2 rfl (wX11_corner (by omega) hV hS hab) htb (by decide) rfl ?_
    rintro σ2 ad2 ws2 ls H locs cells slots q9 rfl k1 k2 ⟨a1, a2, ⟨cl, b1, b2⟩, a4, a5, a6, a7, a8⟩
    refine lv_astore_n C.1 C.2.1 (atd dL_corner 8 rfl) rfl b1 (Nat.le_of_ble_eq_true rfl) rfl (fun ls' hl' => ?_)
    refine lv_iconst C.1 C.2.1 (v := nI 1) (atd dL_corner 9 rfl) (by decide) ?_
    refine W.widen (k := 1) (n := 6) k1 k2 ?_
    exact hf (some (.int (nI 1))) σ2 ad2 ws2 (some (.int (nI 1))) H locs _ _ ⟨_, rfl, (bI_t hab).symm, g, (hset_id hg).symm, fun h => absurd h hab⟩ a1 a2 ⟨_, rfl, rfl⟩ a6 a7 a8 ⟨atd dL_corner 10 rfl, _, rfl, rfl⟩
end Dist2
