def R_law : String := "SureHuntersLaw"
def lw_P (b : Addr) (xs : List Int32) (args : Array Value) (s : State) : Prop := args = #[.ref b] ∧ s.IntsAt b xs ∧ xs.length ≤ 3072 ∧ (Jvm.Cond.and given_1 narrow_1).before args s = true
def lw_Q (_ : Array Value) (s : State) (o : Outcome) (t : State) : Prop := o = .returned (some (.int 1)) ∧ Framed s o t [] 601024 7293034
def lw_Z (below : List Frame) (a : Array Value) (s : State) : State → Prop := fun t => ∃ o, t.status = .running ∧ Ended t below o ∧ lw_Q a s o t
/-- the law's own end, with 1 on the stack, nothing written that was there before, its room as the claim has it -/
theorem lw_ret {p : Program} {l : Launch} {e : Env} {s : State} {m : MethodId} {below : List Frame} {meth : Method} {c : Code} {b : Nat} (hx : p.tables.exec = Jvm.exec) (hb : c.code = code) (hr : meth.sig.returnType = ret) (hlocks : meth.locks = false) {pc : Nat} {H : Heap} {ls : Array Slot} (hdg : decode code pc = .ok (.ireturn, 1)) : W p l e room_1 s m #[Value.ref b] below meth c H [] 601024 7293034 (lw_Z below #[Value.ref b] s) (F0 m pc ls [.int 1]) := by
  intro T hT X
  obtain ⟨fs, hret, hrun, hended, hW, hframe⟩ := X.leave (v := some (.int 1)) (hlocks := hlocks) (fun h => by rw [hr] at h; cases h)
  have hmeth' : T.vm.method? m = some meth := X.method'
  refine ⟨T.setFrames fs, ?_, .returned (some (.int 1)), hrun, hended, rfl, ⟨_, rfl⟩, hW, hframe⟩
  jvm_step X.here [X.here.top, hx, hb, hdg, hmeth', hr, ret, narrow_b1]
  (try refine ⟨rfl, ?_⟩); (try refine ⟨rfl, ?_⟩)
  first | (intro acts; rw [hret _ acts rfl rfl rfl]) | rw [hret _ _ rfl rfl rfl]
  exact Steps.refl _
def mL_law : Md := (⟨"SureHuntersLaw", "law", "([I)Z"⟩, code, 7, some .boolean)
set_option maxHeartbeats 4000000 in
set_option maxRecDepth 100000 in
theorem start_W {p : Program} {e : Env} {s : State} {m : MethodId} {below : List Frame} {meth : Method} {c : Code} (l : Launch) (hflags : l.flags = flags0) {b L : Nat} {xs : Nat → Int32} (hL : L ≤ 3072) (hx : p.tables.exec = Jvm.exec) (hb : c.code = code) (hr : meth.sig.returnType = ret) (hml : c.maxLocals = 7) (hown : s.vm.findClass R_law = some m.cls) (hts : ∀ w ∈ lw_tbl, w.before #[Value.ref b] s = true) (hX : va_X b L xs s s.heap) (hbl : b < s.heap.size) (hlocks : meth.locks = false) (hname : meth.name = "law") (hgv : (Jvm.Cond.and given_1 narrow_1).before #[Value.ref b] s = true)
    (main : ∀ G : Gx, G.2.2.2 = (L, xs) → Wp G mL_law 100 0 [.float 1, .double 0, .double 0, .double 0, .double 0, .double 0, .double 0] [] (0, fun _ => .inr (0, [])) 601024 7293034 (fun v _ => v = some (.int 1))) :
    W p l e room_1 s m #[Value.ref b] below meth c s.heap [] 0 0 (lw_Z below #[Value.ref b] s) (entryFrame m ([Value.ref b] : List Value).toArray 7) := by
  have hA : ∀ a : Nat, a < s.heap.size → ¬ (fun q : Nat => s.heap.size ≤ q) a := fun a h => Nat.not_le.mpr h
  have hs := flat_of_before _ hgv
  have hok : ∀ w ∈ lw_ok, w.before #[Value.ref b] s = true := fun w hw => hts w (List.mem_filter.mp hw).1
  obtain ⟨c0, i0, k0⟩ := u_known (C := RX0) (T := TX0) (N := 5) (n := 5) hok kcX0.2.1 (hok _ nX0)
  obtain ⟨c1, i1, k1⟩ := u_known (C := RX1) (T := TX1) (N := 9) (n := 9) hok kcX1.2.1 (hok _ nX1)
  obtain ⟨c2, i2, k2⟩ := u_known (C := RX2) (T := TX2) (N := 6) (n := 6) hok kcX2.2.1 (hok _ nX2)
  obtain ⟨c3, i3, k3⟩ := u_known (C := RX3) (T := TX3) (N := 2) (n := 2) hok kcX3.2.1 (hok _ nX3)
  obtain ⟨c4, i4, k4⟩ := u_known (C := RX4) (T := TX4) (N := 4) (n := 4) hok kcX4.2.1 (hok _ nX4)
  obtain ⟨c5, i5, k5⟩ := u_known (C := RX5) (T := TX5) (N := 9) (n := 9) hok kcX5.2.1 (hok _ nX5)
  obtain ⟨c6, i6, k6⟩ := u_known (C := RX6) (T := TX6) (N := 6) (n := 6) hok kcX6.2.1 (hok _ nX6)
  obtain ⟨c7, i7, k7⟩ := u_known (C := RX7) (T := TX7) (N := 9) (n := 9) hok kcX7.2.1 (hok _ nX7)
  obtain ⟨c8, i8, k8⟩ := u_known (C := RX8) (T := TX8) (N := 9) (n := 9) hok kcX8.2.1 (hok _ nX8)
  obtain ⟨c9, i9, k9⟩ := u_known (C := RX9) (T := TX9) (N := 2) (n := 2) hok kcX9.2.1 (hok _ nX9)
  obtain ⟨c10, i10, k10⟩ := u_known (C := RX10) (T := TX10) (N := 1) (n := 1) hok kcX10.2.1 (hok _ nX10)
  obtain ⟨c11, i11, k11⟩ := u_known (C := RX11) (T := TX11) (N := 11) (n := 11) hok kcX11.2.1 (hok _ nX11)
  obtain ⟨c12, i12, k12⟩ := u_known (C := RX12) (T := TX12) (N := 58) (n := 58) hok kcX12.2.1 (hok _ nX12)
  obtain ⟨dC, dI, hKc⟩ : ∃ (dC : Nat → ClassId) (dI : Nat → Nat → Nat), ∀ (k : Nat) (q : vw_C), clX[k]? = some q → u_Kn s q.1 q.2.1 q.2.2 (dC k) (dI k) := by
    refine ⟨fun k => match k with
      | 0 => c0 
      | 1 => c1 
      | 2 => c2 
      | 3 => c3 
      | 4 => c4 
      | 5 => c5 
      | 6 => c6 
      | 7 => c7 
      | 8 => c8 
      | 9 => c9 
      | 10 => c10 
      | 11 => c11
      | _ => c12, fun k => match k with
      | 0 => i0 
      | 1 => i1 
      | 2 => i2 
      | 3 => i3 
      | 4 => i4 
      | 5 => i5 
      | 6 => i6 
      | 7 => i7 
      | 8 => i8 
      | 9 => i9 
      | 10 => i10 
      | 11 => i11
      | _ => i12, ?_⟩
    intro k q hq
    match k, hq with
    | 0, hq => cases hq; exact k0
    | 1, hq => cases hq; exact k1
    | 2, hq => cases hq; exact k2
    | 3, hq => cases hq; exact k3
    | 4, hq => cases hq; exact k4
    | 5, hq => cases hq; exact k5
    | 6, hq => cases hq; exact k6
    | 7, hq => cases hq; exact k7
    | 8, hq => cases hq; exact k8
    | 9, hq => cases hq; exact k9
    | 10, hq => cases hq; exact k10
    | 11, hq => cases hq; exact k11
    | 12, hq => cases hq; exact k12
    | k + 13, hq => simp [clX] at hq
  obtain ⟨aI, kI, cmI, fI, gI, hI⟩ := Cond.arrayClass_spec (type := .int) (hok _ (okm 239 (by decide +kernel) (by decide +kernel)))
  obtain ⟨aZ, kZ, cmZ, fZ, gZ, hZ⟩ := Cond.arrayClass_spec (type := .boolean) (hok _ (okm 463 (by decide +kernel) (by decide +kernel)))
  obtain ⟨aJ, kJ, cmJ, fJ, gJ, hJ⟩ := Cond.arrayClass_spec (type := .long) (hok _ (okm 1933 (by decide +kernel) (by decide +kernel)))
  have ovN : (Cond.arrayOver (.object "SureHunters$Net")).before #[Value.ref b] s = true := hts _ (List.mem_of_getElem? (i := 502) (by decide +kernel))
  obtain ⟨cmN, aN, kN, eN, -, gN, hN, fN⟩ := Cond.arrayOver_spec ovN
  have ovS : (Cond.arrayOver (.object "SureHunters$Scene")).before #[Value.ref b] s = true := hts _ (List.mem_of_getElem? (i := 504) (by decide +kernel))
  obtain ⟨cmS, aS, kS, eS, -, gS, hS, fS⟩ := Cond.arrayOver_spec ovS
  have ovG : (Cond.arrayOver (.object "SureHunters$Game")).before #[Value.ref b] s = true := hts _ (List.mem_of_getElem? (i := 343) (by decide +kernel))
  obtain ⟨cmG_, aG, kG_, eG_, -, gG_, hGg, fG_⟩ := Cond.arrayOver_spec ovG
  obtain ⟨tF, evF, hTF⟩ := va_Tof (tm := .static "SureHunters" "FIRST_ROW" "[I") (ty := .int) (N := 5) (f := fun j => .int (frow j)) (A := fun q : Nat => s.heap.size ≤ q) (by decide) (hs _ (by decide +kernel)) (va_eqt (z := 5) (hs _ (by decide +kernel))) (fun j hj => by
    match j, hj with
    | 0, _ => exact va_eqt (z := 0) (hs _ (by decide +kernel))
    | 1, _ => exact va_eqt (z := 0) (hs _ (by decide +kernel))
    | 2, _ => exact va_eqt (z := 9) (hs _ (by decide +kernel))
    | 3, _ => exact va_eqt (z := 54) (hs _ (by decide +kernel))
    | 4, _ => exact va_eqt (z := 219) (hs _ (by decide +kernel))) hA
  have hZF := va_Zof (C := "SureHunters") (n := "FIRST_ROW") (d := "[I") (A := fun q : Nat => s.heap.size ≤ q) (hts _ (List.mem_of_getElem? (i := 346) (by decide +kernel))) (hok _ oX11) evF hA
  have hZC := va_Zof (C := "java/lang/String") (n := "COMPACT_STRINGS") (d := "Z") (v := .int 1) (A := fun q : Nat => s.heap.size ≤ q) (hts _ (List.mem_of_getElem? (i := 612) (by decide +kernel))) (hts _ (List.mem_of_getElem? (i := 184) (by decide +kernel))) (va_eqi (hs _ (by decide +kernel))) hA
  have hZU := vx_Zqof (C := Bundle.tN) (n := "UNASSIGNED_STACK") (d := Bundle.steD) (A := fun q : Nat => s.heap.size ≤ q) (hts _ (List.mem_of_getElem? (i := 1301) (by decide +kernel))) (hts _ (List.mem_of_getElem? (i := 190) (by decide +kernel))) (hs _ (by decide +kernel)) hA
  have hZS := vx_Zqof (C := Bundle.tN) (n := "SUPPRESSED_SENTINEL") (d := Bundle.listD) (A := fun q : Nat => s.heap.size ≤ q) (hts _ (List.mem_of_getElem? (i := 1303) (by decide +kernel))) (hts _ (List.mem_of_getElem? (i := 190) (by decide +kernel))) (hs _ (by decide +kernel)) hA
  have hZP := va_Zqof (C := "jdk/internal/util/Preconditions") (n := "SIOOBE_FORMATTER") (d := "Ljava/util/function/BiFunction;") (A := fun q : Nat => s.heap.size ≤ q) (hts _ (List.mem_of_getElem? (i := 628) (by decide +kernel))) (hts _ (List.mem_of_getElem? (i := 186) (by decide +kernel))) (hs _ (by decide +kernel)) hA
  obtain ⟨tQ, hZQ⟩ : ∃ tQ : Nat, va_Z "jdk/internal/util/Preconditions" "SIOOBE_FORMATTER" "Ljava/util/function/BiFunction;" .null (fun q : Nat => s.heap.size ≤ q) s s.heap ∨ va_Z "jdk/internal/util/Preconditions" "SIOOBE_FORMATTER" "Ljava/util/function/BiFunction;" (.ref tQ) (fun q : Nat => s.heap.size ≤ q) s s.heap := by
    rcases hZP with q | ⟨t, q⟩
    · exact ⟨0, Or.inl q⟩
    · exact ⟨t, Or.inr q⟩
  obtain ⟨aK, aV, hSS, evS⟩ := vk_Sof (N := 3) (tm := fun i => match i with | 0 => .string "SureHunters$Script" 101 | 1 => .string "SureHunters$Script" 107 | _ => .string "SureHunters" 153) (len := [5, 4, 13]) (byt := txB) (A := fun q : Nat => s.heap.size ≤ q)
    (by decide)
    (fun i hi => by rcases (show i = 0 ∨ i = 1 ∨ i = 2 by omega) with rfl | rfl | rfl <;> exact hs _ (by decide +kernel))
    (fun i hi => by rcases (show i = 0 ∨ i = 1 ∨ i = 2 by omega) with rfl | rfl | rfl <;> exact hs _ (by decide +kernel))
    (fun i hi => by rcases (show i = 0 ∨ i = 1 ∨ i = 2 by omega) with rfl | rfl | rfl <;> exact hs _ (by decide +kernel))
    (fun i hi => by rcases (show i = 0 ∨ i = 1 ∨ i = 2 by omega) with rfl | rfl | rfl <;> exact hs _ (by decide +kernel))
    (fun i hi j hj => by
      rcases (show i = 0 ∨ i = 1 ∨ i = 2 by omega) with rfl | rfl | rfl
      · have hj' : j < 5 := hj
        rcases (show j = 0 ∨ j = 1 ∨ j = 2 ∨ j = 3 ∨ j = 4 by omega) with rfl | rfl | rfl | rfl | rfl <;> exact hs _ (by decide +kernel)
      · have hj' : j < 4 := hj
        rcases (show j = 0 ∨ j = 1 ∨ j = 2 ∨ j = 3 by omega) with rfl | rfl | rfl | rfl <;> exact hs _ (by decide +kernel)
      · have hj' : j < 13 := hj
        rcases (show j = 0 ∨ j = 1 ∨ j = 2 ∨ j = 3 ∨ j = 4 ∨ j = 5 ∨ j = 6 ∨ j = 7 ∨ j = 8 ∨ j = 9 ∨ j = 10 ∨ j = 11 ∨ j = 12 by omega) with rfl | rfl | rfl | rfl | rfl | rfl | rfl | rfl | rfl | rfl | rfl | rfl | rfl <;> exact hs _ (by decide +kernel))
    (fun i j hi hj hne => by
      rcases (show i = 0 ∨ i = 1 ∨ i = 2 by omega) with rfl | rfl | rfl <;> rcases (show j = 0 ∨ j = 1 ∨ j = 2 by omega) with rfl | rfl | rfl <;> first | exact absurd rfl hne | exact Or.inl (hs _ (by decide +kernel)) | exact Or.inr (hs _ (by decide +kernel)))
    hA
  have hTX : va_T .int b L (fun j => .int (xs j)) (fun q : Nat => s.heap.size ≤ q) s s.heap := by
    obtain ⟨scr, q1, q2, q3, q4, q5⟩ := hX
    exact ⟨scr, q1, q2, q3, by omega, by rw [q4], q5, hA b hbl⟩
  obtain ⟨G, hG⟩ : ∃ G : Gx, G = ((dC, dI), (fun k => match k with | 0 => aI | 1 => aZ | 2 => aJ | 3 => aN | 4 => aS | _ => aG), (fun r => if r = 20 then tQ else if r = 0 then tF else if r = 1 then b else if r.toNat < 10 then aK (r.toNat - 2) else aV (r.toNat - 10)), (L, xs)) := ⟨_, rfl⟩
  have hG0 : G.2.2.1 0 = tF := by rw [hG]; rfl
  have hG1 : G.2.2.1 1 = b := by rw [hG]; rfl
  have hGQ : G.2.2.1 20 = tQ := by rw [hG]; rfl
  have hGK : ∀ i, i < 3 → adK G i = aK i := fun i hi => by
    rcases (show i = 0 ∨ i = 1 ∨ i = 2 by omega) with rfl | rfl | rfl <;> (rw [hG]; rfl)
  have hGV : ∀ i, i < 3 → adV G i = aV i := fun i hi => by
    rcases (show i = 0 ∨ i = 1 ∨ i = 2 by omega) with rfl | rfl | rfl <;> (rw [hG]; rfl)
  have hS2 : vk_S 3 [5, 4, 13] txB (adK G) (adV G) (fun q : Nat => s.heap.size ≤ q) s s.heap := ⟨fun i hi => by rw [hGK i hi, hGV i hi]; exact hSS.1 i hi, fun i j hi hj e => hSS.2 i j hi hj (by rw [← hGK i hi, ← hGK j hj]; exact e)⟩
  have hKA : va_K G.1 clX (tysG G) s := by
    refine ⟨by rw [hG]; exact hKc, fun k q hq => ?_⟩
    rw [hG] at hq
    match k, hq with
    | 0, hq => cases hq; exact ⟨fun n z => ⟨fun k h => (by cases h), kI, gI, cmI, hI⟩, fI⟩
    | 1, hq => cases hq; exact ⟨fun n z => ⟨fun k h => (by cases h), kZ, gZ, cmZ, hZ⟩, fZ⟩
    | 2, hq => cases hq; exact ⟨fun n z => ⟨fun k h => (by cases h), kJ, gJ, cmJ, hJ⟩, fJ⟩
    | 3, hq => cases hq; exact ⟨fun n z => ⟨fun k h => (by cases h), kN, gN, cmN, hN⟩, kN, cmN, gN, hN, eN, fN⟩
    | 4, hq => cases hq; exact ⟨fun n z => ⟨fun k h => (by cases h), kS, gS, cmS, hS⟩, kS, cmS, gS, hS, eS, fS⟩
    | 5, hq => cases hq; exact ⟨fun n z => ⟨fun k h => (by cases h), kG_, gG_, cmG_, hGg⟩, kG_, cmG_, gG_, hGg, eG_, fG_⟩
    | k + 6, hq => simp [tysG] at hq
  have hxK : xK G s := by
    refine ⟨?_, ?_, ?_⟩
    · rw [hGK 0 (by decide)]; exact vk_R.of (hts _ (List.mem_of_getElem? (i := 598) (by decide +kernel))) (evS 0 (by decide))
    · rw [hGK 1 (by decide)]; exact vk_R.of (hts _ (List.mem_of_getElem? (i := 651) (by decide +kernel))) (evS 1 (by decide))
    · rw [hGK 2 (by decide)]; exact vk_R.of (hts _ (List.mem_of_getElem? (i := 1313) (by decide +kernel))) (evS 2 (by decide))
  have hkk : kG G s := by
    refine ⟨hKA, fun w hw => ?_, va_AO.of ovN, va_AO.of ovS, va_AO.of ovG, hxK⟩
    obtain ⟨w1, w2⟩ := List.mem_filter.mp hw
    refine va_Nw.of ?_ (hts w w1)
    cases w <;> first | rfl | cases w2
  have hff : fG G (fun q : Nat => s.heap.size ≤ q) s s.heap := by
    refine ⟨by rw [hG0]; exact hZF, by rw [hG0]; exact hTF, ?_, hS2, hZC, hZU, hZS, by rw [hGQ]; exact hZQ⟩
    rw [hG1, show G.2.2.2 = (L, xs) by rw [hG]]
    exact hTX
  rw [lg_entry_eq]
  have hent := rL.entry (G := G) (ad := []) (as := [.float 1]) (cas := [.ref b]) (n := 7) ⟨_, _, rfl, by show Value.ref b = Value.ref (G.2.2.1 1); rw [hG1], rfl⟩ (by simp [Value.category]) (by decide)
  refine main G (by rw [hG]) p l e room_1 s m _ below meth c (fun q : Nat => s.heap.size ≤ q) [] 601024 7293034 _ ⟨hx, hb, hml, hr, hlocks, hname, hown, hok, hkk, hff, fun _ h => h, by decide, by decide, hflags⟩ (by decide) (by decide) ?_ [] [] _ [] s.heap [] 0 0 ⟨ex.rfl, ⟨rfl, rfl, fun k hk => absurd hk (Nat.not_lt_zero k)⟩, hent, rfl, rfl, (fun k q h => by simp at h), ⟨fun i j p q h => by simp at h, fun k q h => by simp at h⟩, va_S.rf⟩ (by decide) (by decide)
  intro v σ' ad ws cv H locs pc ls hq g1 g2 g3 g4 g5 g6 g7
  subst hq
  obtain ⟨c0, rfl, g3⟩ := g3
  cases g3
  exact va_forget (fun q hq => g6.2.2 q hq) (lw_ret hx hb hr hlocks g7.1)
