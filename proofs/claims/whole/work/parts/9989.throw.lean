/-! 'throw new E(text)' where E's constructor has an index of its own -/
def yx_words (own : String) (ic : Nat) (X : String) (ix : Nat) (rx : ByteArray) (Yn : String) (names : List String) : List Cond :=
  Bundle.throwableAtoms ++ Bundle.throwableSAtoms ++ Bundle.passSAtoms X Yn ix rx ++ Bundle.chainSAtoms Yn names ++
  [.methodLink own ic (Bundle.initS X), .instantiable X 6, .castable X X, .selects X Bundle.tFill0 Bundle.tFill0, .selects X Bundle.tFill Bundle.tFill,
   .lays X Bundle.tN "cause" "Ljava/lang/Throwable;", .lays X Bundle.tN "stackTrace" Bundle.steD, .lays X Bundle.tN "suppressedExceptions" Bundle.listD, .lays X Bundle.tN "detailMessage" "Ljava/lang/String;",
   .isRef (.static Bundle.tN "UNASSIGNED_STACK" Bundle.steD), .isRef (.static Bundle.tN "SUPPRESSED_SENTINEL" Bundle.listD),
   .fieldLink Bundle.tN 198 Bundle.tN "backtrace" "Ljava/lang/Object;", .lays Bundle.tN Bundle.tN "backtrace" "Ljava/lang/Object;", .lays X Bundle.tN "backtrace" "Ljava/lang/Object;"]
section
variable {p : Program} {l : Launch} {e : Env} {R : Room} {s : State} {m₀ : MethodId} {args : Array Value} {below : List Frame} {meth : Method} {c : Code} {W : State} {locs : List Loc} {cells slots : Nat}
set_option maxHeartbeats 1000000 in
/-- follows the library's ctorThrowS; the made class's constructor by its own index and bytes -/
theorem yx_ctor (X : Stand p l e R s m₀ args below meth c W locs cells slots) (hexec : p.tables.exec = Jvm.exec) (htr : e.platform.stackTraces = false) {own cls Yn : String} {names : List String} {ic ix : Nat} {rx : ByteArray} (x0 : decode rx 0 = .ok (.aload_n 0, 1)) (x1 : decode rx 1 = .ok (.aload_n 1, 1)) (x2 : decode rx 2 = .ok (.invokespecial ix, 3)) (x5 : decode rx 5 = .ok (.return_, 1))
    (hown : s.vm.findClass own = some m₀.cls) (hcls : Bundle.fit cls = true) (hYn : Bundle.fit Yn = true) (hnames : ∀ n ∈ names, Bundle.fit n = true)
    (h : ∀ a ∈ yx_words own ic cls ix rx Yn names, a.before args s = true)
    (hlocs : ∀ x ∈ locs, ∀ cell, s.heap[x.base]? = some cell → cell.vm.isStatics = false)
    {a : Addr} {cX : ClassId} {kX : Class} (hfoundX : s.vm.findClass cls = some cX) (hkX : s.vm.classes[cX]? = some kX) (hcell : W.heap[a]? = some (freshCell cX kX)) (hnew : s.heap.size ≤ a)
    {msg : Value} (hmsg : msg.isRef = true)
    {g : JFrame} (hg : g.method = m₀) (hsize : g.locals.size = c.maxLocals) (hlocked : g.locked = none) (hentered : g.entered = []) {rest : List Value} (hstack : g.stack = msg :: .ref a :: .ref a :: rest)
    (hd6 : decode c.code g.pc = .ok (.invokespecial ic, 3)) (hd9 : decode c.code (g.pc + 3) = .ok (.athrow, 1)) (hout : ∀ x ∈ c.exceptionTable.toList, covers x (g.pc + 3) = false)
    (hRframes : names.length + 4 < R.frames) (hRlocals : 2 * g.monitorRoom + ((Value.ref a :: rest).map fun v => v.category).sum + (13 * (names.length + 2) + 42) ≤ R.locals) (hlocks : meth.locks = false) :
    ∃ U : State, Steps p.tables e below (W.setTop g) U ∧ U.status = .running ∧ Ended U below (.threw a) ∧ s.WarmedH U.vm ∧ s.sameButNew ({ U with vm := s.vm } : State) locs cells slots ∧
      ∃ ce : Cell, U.heap[a]? = some ce ∧ ce.vm = .none ∧ s.vm.findClass cls = some ce.cls := by
  have howns : e.platform.frameOwnsMonitors = true := by rw [X.admits.platform]
  have hfin : e.platform.finalization = false := by rw [X.admits.platform]
  have hpl : e.platform.magicAccessors = ({} : Platform).magicAccessors := by rw [X.admits.platform]
  have a' : ∀ x, x ∈ yx_words own ic cls ix rx Yn names → x.holds args s none s [] = true := fun x hx => h x hx
  obtain ⟨T, Z0, L, -, Y⟩ := ThrowableC.of_atoms (args := args) howns hfin hpl (fun x hx => h x (by simp [yx_words, hx]))
  obtain ⟨Z, M, LZ, LM, hnZ⟩ := Init0T.ofS_atoms (args := args) hpl L Y (fun x hx => h x (by simp [yx_words, hx]))
  obtain ⟨P1, L1, hP1m, hs1⟩ := PassC.ofS_atoms (args := args) (s := s) hpl (X := cls) (Y := Yn) (Bundle.fit_spec hcls).1 (Bundle.fit_spec hYn).2 x0 x1 x2 x5 (fun x hx => h x (by simp [yx_words, hx]))
  obtain ⟨P2, Ps0, hlen0, L2, hL0, hm2, hlink2, hlink0⟩ := Bundle.chainS (args := args) hpl hnZ names Yn hYn hnames (fun x hx => h x (by simp [yx_words, hx]))
  have hL : ∀ P, P ∈ P2 :: Ps0 → P.LinksS e.platform s := fun P hP => by rcases List.mem_cons.mp hP with rfl | hP; exact L2; exact hL0 P hP
  have hlen : (P2 :: Ps0).length = names.length + 1 := by simp [hlen0]
  have hfound : s.vm.findClass cls = some P1.m.cls := findClass_of_methodNamed hP1m
  cases Option.some.inj (hfoundX.symm.trans hfound)
  obtain ⟨c1, kX', hc1, hk, hord, -, -, hn6⟩ := Cond.instantiable_spec (a' (.instantiable cls 6) (by simp [yx_words]))
  cases Option.some.inj (hc1.symm.trans hfound)
  cases Option.some.inj (hkX.symm.trans hk)
  have hsel0 : selectMethod e.platform s.vm P1.m.cls T.fill0 = .method T.fill0 := by
    obtain ⟨c2, r2, m2, q1, q2, q3, q4, -⟩ := Cond.selects_spec (a' (.selects cls Bundle.tFill0 Bundle.tFill0) (by simp [yx_words]))
    cases Option.some.inj (q1.symm.trans hfound)
    cases Option.some.inj (q2.symm.trans (State.methodFound?_of_named Y.fill0 (by decide)))
    cases Option.some.inj (q3.symm.trans Y.fill0)
    rw [Launch.admits_selectMethod X.admits]; exact q4
  have hselF : selectMethod e.platform s.vm P1.m.cls T.fill = .method T.fill := by
    obtain ⟨c2, r2, m2, q1, q2, q3, q4, -⟩ := Cond.selects_spec (a' (.selects cls Bundle.tFill Bundle.tFill) (by simp [yx_words]))
    cases Option.some.inj (q1.symm.trans hfound)
    cases Option.some.inj (q2.symm.trans (State.methodFound?_of_named Y.fill (by decide)))
    cases Option.some.inj (q3.symm.trans Y.fill)
    rw [Launch.admits_selectMethod X.admits]; exact q4
  obtain ⟨cellS0, hcS0, hiss⟩ := Y.statics
  obtain ⟨u0, hu0⟩ := Cond.staticRefV Y.unassigned L.unassignedStatic L.statics hcS0 hiss (a' (.isRef (.static Bundle.tN "UNASSIGNED_STACK" Bundle.steD)) (by simp [yx_words]))
  obtain ⟨sen, hsen⟩ := Cond.staticRefV Y.sentinel L.sentinelStatic L.statics hcS0 hiss (a' (.isRef (.static Bundle.tN "SUPPRESSED_SENTINEL" Bundle.listD)) (by simp [yx_words]))
  obtain ⟨ci198, i198, fB, hk198, hg198, ha198, hsB, -, hnB, htB, hffB⟩ := Cond.ownField (t := .object "java/lang/Object") Y.found L.cls (by decide +kernel) (a' (.fieldLink Bundle.tN 198 Bundle.tN "backtrace" "Ljava/lang/Object;") (by simp [yx_words])) (a' (.lays Bundle.tN Bundle.tN "backtrace" "Ljava/lang/Object;") (by simp [yx_words])) e.platform hpl
  obtain ⟨cellS, hcS', heS, -, hkeep⟩ := X.same.2.2.2.2.2 T.aS cellS0 hcS0
  have hcellS : W.heap[T.aS]? = some cellS := hcS'
  have hout' : ∀ i, (⟨T.aS, i⟩ : Loc) ∉ locs := fun i hmem => by
    have := hlocs _ hmem cellS0 hcS0
    rw [hiss] at this; cases this
  have hknownS : cellS.vm ≠ .unknown := by
    rw [heS]; intro hu
    rw [show cellS0.vm = .unknown from hu] at hiss
    cases hiss
  have hneS : T.aS ≠ a := Nat.ne_of_lt (Nat.lt_of_lt_of_le (Array.getElem?_eq_some_iff.mp hcS0).1 hnew)
  obtain ⟨iM, hffM⟩ := Y.msg
  obtain ⟨tyC, dC, hdC, hdnC⟩ := Cond.laysAt hfound hk Y.cause (a' (.lays cls Bundle.tN "cause" "Ljava/lang/Throwable;") (by simp [yx_words]))
  obtain ⟨tyS, dS, hdS, hdnS⟩ := Cond.laysAt hfound hk Y.stack (a' (.lays cls Bundle.tN "stackTrace" Bundle.steD) (by simp [yx_words]))
  obtain ⟨tyP, dP, hdP, hdnP⟩ := Cond.laysAt hfound hk Y.supp (a' (.lays cls Bundle.tN "suppressedExceptions" Bundle.listD) (by simp [yx_words]))
  obtain ⟨tyM, dM, hdM, hdnM⟩ := Cond.laysAt hfound hk hffM (a' (.lays cls Bundle.tN "detailMessage" "Ljava/lang/String;") (by simp [yx_words]))
  obtain ⟨tyB, dB, hdB, hdnB⟩ := Cond.laysAt hfound hk hffB (a' (.lays cls Bundle.tN "backtrace" "Ljava/lang/Object;") (by simp [yx_words]))
  have bC := Cond.laysApart hdB hdC hdnB hdnC (by rw [hnB, Y.causeName]; decide)
  have bS := Cond.laysApart hdB hdS hdnB hdnS (by rw [hnB, Y.stackName]; decide)
  have bP := Cond.laysApart hdB hdP hdnB hdnP (by rw [hnB, Y.suppName]; decide)
  have hskip : SkipFacts T e.platform s (fun u => u) u0 ((preparedCellV T.toThrowableT (freshCell P1.m.cls kX) a u0 sen).withEntry W.cur) :=
    ⟨{ ci198 := ci198, i198 := i198, fBack := fB }, ⟨hk198, hg198, ha198, hsB⟩, by
      have := fresh_default (c := P1.m.cls) tyB
      rw [htB] at this
      simpa [preparedCellV, Cell.setSlot, Cell.withEntry, Array.getElem?_setIfInBounds, bC, bS, bP, bC.symm, bS.symm, bP.symm, defaultValue] using this, fun _ _ => rfl⟩
  obtain ⟨tm, methC, cdC, kC, vm₁, hnC, -, -, -, -, -, -, -, hW₁, st1⟩ := Steps.initColdS (tb := p.tables) (e := e) (below := below) (s := s) (U := W) X.here hexec X.warmed hpl hown (t := Bundle.initS cls) rfl rfl (Bundle.fit_spec hcls).2
    (a' (.methodLink own ic (Bundle.initS cls)) (by simp [yx_words])) (h (.instanceMethod (Bundle.initS cls)) (by simp [yx_words, Bundle.passSAtoms])) (bytes := rx) (maxL := 2) (h (.code (Bundle.initS cls) rx 2 none) (by simp [yx_words, Bundle.passSAtoms]))
    (f := g) hg (a := a) (msg := msg) (rest := .ref a :: rest) hstack hd6
  cases Option.some.inj (hnC.symm.trans hP1m)
  have X₁ := X.noted hW₁
  obtain ⟨vm₂, X₂, st2⟩ := X₁.ctorMessageOffV hexec (g := { g with stack := .ref a :: rest }) hg hsize T L Z LZ M LM (P1 :: P2 :: Ps0)
    (fun P hP => by rcases List.mem_cons.mp hP with rfl | hP; exact L1; exact hL P hP) ⟨Option.some.inj (hs1.symm.trans hm2), hlink2, hlink0⟩ (u0 := u0) (sen := sen) (self := a) hmsg (cell := freshCell P1.m.cls kX) (cellS := cellS)
    hcell (fun _ => by simp) (by simp) rfl rfl hsel0 hselF hcellS hneS hknownS (by rw [hkeep _ (hout' _)]; exact hu0) (by rw [hkeep _ (hout' _)]; exact hsen)
    (Takes.of_laid hk hord tyC (by rw [Y.causeType]; rfl)) (Takes.of_laid hk hord tyS (by rw [Y.stackType]; exact fits_refV_array _ u0)) (Takes.of_laid hk hord tyP (by rw [Y.suppType]; exact fits_refV_object _ sen))
    (Takes.of_laid hk hord tyM (by rw [Y.msgType]; exact fits_refV_object _ ⟨msg, hmsg⟩)) Y.objLocals hskip htr [] hd6
    (by simp only [List.length_cons, hlen]; omega) (by simp only [List.length_cons, hlen]; exact hRlocals)
  obtain ⟨hwalk, hrun, hended, hWU, hsame⟩ := X₂.athrowLeaves hexec (g := { g with stack := .ref a :: rest, pc := g.pc + 3 }) hg hlocked hentered hout (a := a) (rest := rest) rfl hd9
  obtain ⟨c3, c4, hc3, hc4, hasg⟩ := Cond.castable_spec (a' (.castable cls cls) (by simp [yx_words]))
  cases Option.some.inj (hc3.symm.trans hfound)
  cases Option.some.inj (hc4.symm.trans hfound)
  have hlt : a < ((W.setVm vm₁).setVm vm₂).heap.size := (Array.getElem?_eq_some_iff.mp hcell).1
  have hU := heapAt_setCell_self (s := (W.setVm vm₁).setVm vm₂) (plainBareV T.toThrowableT (freshCell P1.m.cls kX) a u0 sen msg) hlt
  refine ⟨_, st1 _ (fun acts => ?_), hrun, hended, hWU, hsame.weaken (fun y hy hlt' => ?_) (Nat.le_refl _) (Nat.le_refl _), _, hU, ?_⟩
  · rw [doInvoke_state]
    exact st2 _ hwalk
  · rcases List.mem_append.mp hy with h1 | h1
    · exact h1
    · exfalso
      have hb : y.base = a := by
        simp only [List.mem_cons, List.not_mem_nil, or_false] at h1
        rcases h1 with rfl | rfl | rfl | rfl | rfl <;> rfl
      rw [hb] at hlt'
      exact Nat.not_lt.mpr hnew hlt'
  · exact ⟨rfl, hfound⟩
end
section
variable {p : Program} {l : Launch} {e : Env} {R : Room} {s : State} {m : MethodId} {args : Array Value} {below : List Frame} {meth : Method} {c : Code} {H : Heap} {locs : List Loc} {cells slots : Nat}
variable {free : Addr → Prop} {ls : Array Slot} {rest : List Value}
variable {Qc : Array Value → State → Outcome → State → Prop} {XC : String → State → State → Prop}
set_option maxHeartbeats 1000000 in
theorem yx_throw {cc : ByteArray} {pc : Nat} (hexec : p.tables.exec = Jvm.exec) (hb : c.code = cc) (hl : l.stackTraces = false) {own cls text Yn : String} {names : List String} {ik is ic ix mc ms sa : Nat} {rx : ByteArray} {A : Nat → Prop} (x0 : decode rx 0 = .ok (.aload_n 0, 1)) (x1 : decode rx 1 = .ok (.aload_n 1, 1)) (x2 : decode rx 2 = .ok (.invokespecial ix, 3)) (x5 : decode rx 5 = .ok (.return_, 1))
    (hown : s.vm.findClass own = some m.cls) (hcls : Bundle.fit cls = true) (hYn : Bundle.fit Yn = true) (hnames : ∀ n ∈ names, Bundle.fit n = true)
    (hk : (Cond.classLink own ik cls).before args s = true) (hini : (Cond.initialized cls).before args s = true) (hstr : vk_R own is text sa s) (hat : ∀ w ∈ (yx_words own ic cls ix rx Yn names).filter vx_no, w.before args s = true)
    (hgood : ∀ w ∈ Cond.classLink own ik cls :: Cond.initialized cls :: (yx_words own ic cls ix rx Yn names).filter vx_no, vx_ot w = true)
    (hU : vx_Zq Bundle.tN "UNASSIGNED_STACK" Bundle.steD A s s.heap) (hN : vx_Zq Bundle.tN "SUPPRESSED_SENTINEL" Bundle.listD A s s.heap) (hS : va_S A s.heap H locs) (hsize : ls.size = c.maxLocals)
    (d0 : decode cc pc = .ok (.new ik, 3)) (d3 : decode cc (pc + 3) = .ok (.dup, 1)) (d4 : decode cc (pc + 4) = .ok (.ldc is, 2)) (d6 : decode cc (pc + 6) = .ok (.invokespecial ic, 3)) (d9 : decode cc (pc + 9) = .ok (.athrow, 1))
    (hout : ∀ x ∈ c.exceptionTable.toList, covers x (pc + 9) = false)
    (hRframes : names.length + 4 < R.frames) (hRlocals : (rest.map fun v => v.category).sum + (13 * (names.length + 2) + 43) ≤ R.locals) (hRcells : cells + 1 ≤ R.cells) (hRslots : slots + 6 ≤ R.slots) (hlocks : meth.locks = false)
    (hx : ∀ t : State, s.vm.Alike t.vm → H.size ≤ t.heap.size → (∀ q : Nat, q < H.size → t.heap[q]? = H[q]?) → XC cls s t)
    (hf : ∀ z ∈ locs, free z.base) (hc : cells + 1 ≤ mc) (hs : slots + 6 ≤ ms) :
    W p l e R s m args below meth c H locs cells slots (vx_MQ below Qc XC args s mc ms free) (F0 m pc ls rest) := by
  intro T hT X
  have htr : e.platform.stackTraces = false := (show e.platform.stackTraces = l.stackTraces by rw [X.admits.platform]).trans hl
  have Y := vx_rebase X (R' := { frames := R.frames, locals := R.locals, cells := 1, slots := 6 }) (Nat.le_refl _) (Nat.le_refl _) hRcells hRslots
  obtain ⟨s', hA⟩ : ∃ z, z = (T.setVm s.vm).setFrames (.invoking m args :: below) := ⟨_, rfl⟩
  rw [← hA] at Y
  have hvm : s'.vm = s.vm := by rw [hA]; rfl
  have hhp : s'.heap = H := by rw [hA]; exact hT
  have hW0 : s.WarmedH s'.vm := by rw [hvm]; exact State.WarmedH.refl s
  have hat' : ∀ w ∈ (yx_words own ic cls ix rx Yn names).filter vx_no, w.before args s' = true := fun w hw => vx_ot_at hW0 hvm.symm (hgood w (List.mem_cons_of_mem _ (List.mem_cons_of_mem _ hw))) (hat w hw)
  have hk' : (Cond.classLink own ik cls).before args s' = true := vx_ot_at hW0 hvm.symm (hgood _ List.mem_cons_self) hk
  have hini' : (Cond.initialized cls).before args s' = true := vx_ot_at hW0 hvm.symm (hgood _ (List.mem_cons_of_mem _ List.mem_cons_self)) hini
  have hU' : vx_Zq Bundle.tN "UNASSIGNED_STACK" Bundle.steD A s' s'.heap := by rw [hhp]; exact vx_Zq.moved hW0.alike (hU.kept hS.2.1)
  have hN' : vx_Zq Bundle.tN "SUPPRESSED_SENTINEL" Bundle.listD A s' s'.heap := by rw [hhp]; exact vx_Zq.moved hW0.alike (hN.kept hS.2.1)
  have h : ∀ w ∈ yx_words own ic cls ix rx Yn names, w.before args s' = true := vx_own hat' (vx_isRefq hU'.1) (vx_isRefq hN'.1) hU'.2.word hN'.2.word
  have hown' : s'.vm.findClass own = some m.cls := by rw [hvm]; exact hown
  have hins : (Cond.instantiable cls 6).before args s' = true := h _ (by simp [yx_words])
  obtain ⟨vm₁, cX, kX, hfX, hkX, -, -, X₁, st1⟩ := Y.newCold hexec (own := own) (C := cls) (index := ik) (n := 6) hown' hk' hins hini'
    (g := F0 m pc ls rest) rfl (by rw [hb]; exact d0) (Nat.le_refl _) (Nat.le_refl _)
  generalize hT1 : (T.setVm vm₁).pushCell { cls := cX, slots := kX.instanceTypes.map defaultValue, vm := .none } = T1 at X₁ st1
  have hcat : (Value.ref T.heap.size).category = 1 := rfl
  have hcellA : T1.heap[T.heap.size]? = some (freshCell cX kX) := by rw [← hT1]; exact State.heap_pushCell_size _ _
  have d3' : decode c.code (pc + 3) = .ok (.dup, 1) := by rw [hb]; exact d3
  have d4' : decode c.code (pc + 4) = .ok (.ldc is, 2) := by rw [hb]; exact d4
  have hstr' : vk_R own is text sa s' := vk_R.warm hW0 hstr
  obtain ⟨U, hsteps, hrun, hend, hW, hsame, ce, hce, hOv, hOc⟩ := yx_ctor X₁ hexec htr x0 x1 x2 x5 (own := own) (cls := cls) (Yn := Yn) (names := names) (ic := ic) hown' hcls hYn hnames h (fun x hx => nomatch hx) hfX hkX hcellA (by rw [hhp, hT]; exact Nat.le_refl _) (msg := .ref sa) rfl
    (g := { method := m, pc := pc + 6, locals := ls, stack := .ref sa :: .ref T.heap.size :: .ref T.heap.size :: rest, locked := none }) rfl hsize rfl rfl (rest := rest) rfl
    (by rw [hb]; exact d6) (by rw [hb]; exact d9) hout hRframes (by simp only [List.map_cons, List.sum_cons, hcat]; omega) hlocks
  obtain ⟨f1, f2⟩ := vx_frame hsame
  rw [hhp] at f1 f2
  have hWs : s.WarmedH U.vm := State.WarmedH.trans hW0 hW
  have hcl : s.vm.findClass cls = some ce.cls := by
    have h9 := hOc
    rw [hvm] at h9
    exact h9
  have hall : s.sameButNew ({ U with vm := s.vm } : State) locs mc ms := by
    subst hA
    obtain ⟨e1, e2⟩ := hsame
    rw [State.setFrames_setFrames] at e1
    have h2 : (T.setVm s.vm).sameButNew ({ U with vm := s.vm } : State) [] (0 + 1) (0 + 6) := ⟨e1, e2⟩
    have h3 := X.same.trans h2
    rw [List.append_nil] at h3
    exact h3.mono hc hs
  refine ⟨U, ?_, .threw T.heap.size, hrun, hend, Or.inr ⟨T.heap.size, rfl, cls, ce, locs, hx U hWs.alike f1 (fun q hq => f2 q hq (fun z hz => nomatch hz)), hce, hOv, hcl, hWs, hall, hf⟩⟩
  refine st1 _ ?_
  show Steps p.tables e below (T1.setTop { method := m, pc := pc + 3, locals := ls, stack := .ref T.heap.size :: rest, locked := none }) _
  jvm_step X₁.here [X₁.here.top, hexec, d3', Value.category]
  exact X₁.ldcString hexec (own := own) (text := text) (index := is) (a := sa) hown' hstr'.1 hstr'.2
    (g := { method := m, pc := pc + 4, locals := ls, stack := .ref T.heap.size :: .ref T.heap.size :: rest, locked := none }) rfl d4' _ hsteps
end
def yrx : ByteArray := ⟨#[42, 43, 183, 0, 13, 177]⟩
def yNS : String := "java/util/NoSuchElementException"
def yL : List Cond := (yx_words "SureHunters" 155 yNS 13 yrx "java/lang/RuntimeException" ["java/lang/Exception"]).filter vx_no
def yP : List Nat := [190, 1040, 1047, 1049, 1051, 1053, 1041, 1042, 200, 201, 1043, 1046, 1050, 1068, 1030, 1069, 1032, 1070, 1034, 1044, 1045, 1036, 1064, 1065, 1067, 1036, 1055, 1056, 1057, 1058, 1058, 1059, 1060, 1061, 1061, 1062, 1063, 1064, 1054, 1026, 1027, 1028, 1029, 1031, 1033, 1035, 1039, 1038, 1037]
theorem yL_ok : ∀ w ∈ yL.filter goodWord, w ∈ lw_ok := by
  intro w hw
  have h : yL.filter goodWord = yP.filterMap (fun i => lw_ok[i]?) := by decide +kernel
  rw [h] at hw
  obtain ⟨i, -, hi⟩ := List.mem_filterMap.mp hw
  exact List.mem_of_getElem? hi
theorem yL_all : ∀ w ∈ yL, vx_ot w = true := fun w hw => List.all_eq_true.mp (by decide +kernel : yL.all vx_ot = true) w hw
theorem yx_dec {args : Array Value} {s : State} {y : MethodName} {bytes : ByteArray} {maxL : Nat} {ret : Option FieldType} (h1 : (Cond.instanceMethod y).before args s = true) (h2 : (Cond.code y bytes maxL ret).before args s = true) : (Cond.declares y).before args s = true := by
  obtain ⟨mk, meth, hn, hm, hst, -⟩ := Cond.instanceMethod_spec h1
  obtain ⟨meth2, c2, hm2, -, -, -, -, -, -, hsig⟩ := Cond.code_spec hn h2
  cases hm.symm.trans hm2
  have e : Cond.value args s none s [] (Cond.declares y) = some true := by
    simp only [Cond.value, hn, Option.bind_some, hm, Option.map_some, hst, hsig]
    simp
  simp only [Cond.before, Cond.holds, e]
  rfl
theorem yx_cast {args : Array Value} {s : State} {E : String} (h : (Cond.initialized E).before args s = true) : (Cond.castable E E).before args s = true := by
  have : ∃ c, s.vm.findClass E = some c := by
    cases hc : s.vm.findClass E with
    | some c => exact ⟨c, rfl⟩
    | none => exfalso; revert h; simp [Cond.before, Cond.holds, Cond.value, hc]
  obtain ⟨c, hc⟩ := this
  have h9 : s.vm.assignable c c = true := by
    unfold Vm.assignable Vm.assignableAux
    simp
  have e : Cond.value args s none s [] (Cond.castable E E) = some true := by simp only [Cond.value, hc, h9]
  simp only [Cond.before, Cond.holds, e]
  rfl
/-! the walk of a body that may throw: rules at one place of the machine -/
def Wq (G : Gx) (M : Md) (p : Program) (l : Launch) (e : Env) (R : Room) (s : State) (m : MethodId) (args : Array Value) (below : List Frame) (meth : Method) (c : Code) (A : Nat → Prop) (ad0 : List Nat) (cm sm : Nat) (QQ : State → Prop) (pc : Nat) (L st : List Value) (σ : Hp) (mc ms : Nat) : Prop :=
  ∀ (ad : List Nat) (ws : va_W) (ls : Array Slot) (cst : List Value) (H : Heap) (locs : List Loc) (cells slots : Nat),
      atM G M s A ad0 ad ws L st σ ls cst H locs → cells + mc ≤ cm → slots + ms ≤ sm →
      W p l e R s m args below meth c H locs cells slots QQ (F0 m pc ls cst)
section WqRules
variable {G : Gx} {M : Md} {d pc : Nat} {L st : List Value} {σ : Hp} {mc ms : Nat} {p : Program} {l : Launch} {e : Env} {R : Room} {s : State} {m : MethodId} {args : Array Value} {below : List Frame} {meth : Method} {c : Code} {A : Nat → Prop} {ad0 : List Nat} {cm sm : Nat} {QQ : State → Prop}
theorem wq_iconst {n : Int} {v : Int32} (C : cxM G M d p l R s m args meth c A) (h1 : cm ≤ R.cells) (h2 : sm ≤ R.slots) (hd : decode M.2.1 pc = .ok (.iconst n, 1)) (hv : Int32.ofInt n = v)
    (k : Wq G M p l e R s m args below meth c A ad0 cm sm QQ (pc + 1) L (.int v :: st) σ mc ms) : Wq G M p l e R s m args below meth c A ad0 cm sm QQ pc L st σ mc ms := by
  intro ad ws ls cst H locs cells slots hat hc hs
  obtain ⟨a1, a2, a3, a4, a5, a6, a7, a8⟩ := hat
  exact lv_iconst C.1 C.2.1 hd hv (k ad ws ls _ H locs cells slots ⟨a1, a2, a3, a4, ⟨_, _, rfl, rfl, a5⟩, a6, a7, a8⟩ hc hs)
theorem wq_iload_n {i : Fin 4} {x : Int32} (C : cxM G M d p l R s m args meth c A) (h1 : cm ≤ R.cells) (h2 : sm ≤ R.slots) (hd : decode M.2.1 pc = .ok (.iload_n i, 1)) (hL : L[(i : Nat)]? = some (.int x))
    (k : Wq G M p l e R s m args below meth c A ad0 cm sm QQ (pc + 1) L (.int x :: st) σ mc ms) : Wq G M p l e R s m args below meth c A ad0 cm sm QQ pc L st σ mc ms := by
  intro ad ws ls cst H locs cells slots hat hc hs
  obtain ⟨a1, a2, a3, a4, a5, a6, a7, a8⟩ := hat
  obtain ⟨_, e1, rfl⟩ := a3.read hL rfl
  exact lv_iload_n C.1 C.2.1 hd rfl e1 (k ad ws ls _ H locs cells slots ⟨a1, a2, a3, a4, ⟨_, _, rfl, rfl, a5⟩, a6, a7, a8⟩ hc hs)
theorem wq_aload_n {i : Fin 4} {v : Value} (C : cxM G M d p l R s m args meth c A) (h1 : cm ≤ R.cells) (h2 : sm ≤ R.slots) (hd : decode M.2.1 pc = .ok (.aload_n i, 1)) (hL : L[(i : Nat)]? = some v) (hv : isR v = true)
    (k : Wq G M p l e R s m args below meth c A ad0 cm sm QQ (pc + 1) L (v :: st) σ mc ms) : Wq G M p l e R s m args below meth c A ad0 cm sm QQ pc L st σ mc ms := by
  intro ad ws ls cst H locs cells slots hat hc hs
  obtain ⟨a1, a2, a3, a4, a5, a6, a7, a8⟩ := hat
  obtain ⟨c0, e1, e2⟩ := a3.read hL (isR.cat hv)
  rcases isR.c hv e2 with rfl | ⟨q, rfl⟩
  · exact lv_aload_nN C.1 C.2.1 hd rfl e1 (k ad ws ls _ H locs cells slots ⟨a1, a2, a3, a4, ⟨_, _, rfl, e2, a5⟩, a6, a7, a8⟩ hc hs)
  · exact lv_aload_n C.1 C.2.1 hd rfl e1 (k ad ws ls _ H locs cells slots ⟨a1, a2, a3, a4, ⟨_, _, rfl, e2, a5⟩, a6, a7, a8⟩ hc hs)
theorem wq_if_eq {x : Int32} {off : Int} {tgt : Nat} (C : cxM G M d p l R s m args meth c A) (h1 : cm ≤ R.cells) (h2 : sm ≤ R.slots) (hd : decode M.2.1 pc = .ok (.ifCond .eq off, 3)) (ht : (pc : Int) + off = (tgt : Int))
    (kt : x = 0 → Wq G M p l e R s m args below meth c A ad0 cm sm QQ tgt L st σ mc ms) (kf : ¬ (x = 0) → Wq G M p l e R s m args below meth c A ad0 cm sm QQ (pc + 3) L st σ mc ms) : Wq G M p l e R s m args below meth c A ad0 cm sm QQ pc L (.int x :: st) σ mc ms := by
  intro ad ws ls cst H locs cells slots hat hc hs
  obtain ⟨a1, a2, a3, a4, a5, a6, a7, a8⟩ := hat
  obtain ⟨_, _, rfl, rfl, a5⟩ := a5
  refine lv_if_eq C.1 C.2.1 hd ht (fun q => kt (by first | exact q | simpa using q) ad ws ls _ H locs cells slots ⟨a1, a2, a3, a4, a5, a6, a7, a8⟩ hc hs) (fun q => kf (by first | exact q | simpa using q) ad ws ls _ H locs cells slots ⟨a1, a2, a3, a4, a5, a6, a7, a8⟩ hc hs)
theorem wq_if_ne {x : Int32} {off : Int} {tgt : Nat} (C : cxM G M d p l R s m args meth c A) (h1 : cm ≤ R.cells) (h2 : sm ≤ R.slots) (hd : decode M.2.1 pc = .ok (.ifCond .ne off, 3)) (ht : (pc : Int) + off = (tgt : Int))
    (kt : ¬ x = 0 → Wq G M p l e R s m args below meth c A ad0 cm sm QQ tgt L st σ mc ms) (kf : ¬ (¬ x = 0) → Wq G M p l e R s m args below meth c A ad0 cm sm QQ (pc + 3) L st σ mc ms) : Wq G M p l e R s m args below meth c A ad0 cm sm QQ pc L (.int x :: st) σ mc ms := by
  intro ad ws ls cst H locs cells slots hat hc hs
  obtain ⟨a1, a2, a3, a4, a5, a6, a7, a8⟩ := hat
  obtain ⟨_, _, rfl, rfl, a5⟩ := a5
  refine lv_if_ne C.1 C.2.1 hd ht (fun q => kt (by first | exact q | simpa using q) ad ws ls _ H locs cells slots ⟨a1, a2, a3, a4, a5, a6, a7, a8⟩ hc hs) (fun q => kf (by first | exact q | simpa using q) ad ws ls _ H locs cells slots ⟨a1, a2, a3, a4, a5, a6, a7, a8⟩ hc hs)
theorem wq_get {i ci j k : Nat} {fs : List Value} {v : Value} {tj : FieldType} {fn : Bool} (C : cxM G M d p l R s m args meth c A) (h1 : cm ≤ R.cells) (h2 : sm ≤ R.slots) (F : FL M.1.cls i ci j tj fn) (hd : decode M.2.1 pc = .ok (.getfield i, 3)) (hh : σ.2 k = .inr (ci, fs)) (hv : fs[j]? = some v)
    (kk : Wq G M p l e R s m args below meth c A ad0 cm sm QQ (pc + 3) L (v :: st) σ mc ms) : Wq G M p l e R s m args below meth c A ad0 cm sm QQ pc L (.ref k :: st) σ mc ms := by
  intro ad ws ls cst H locs cells slots hat hc hs
  obtain ⟨a1, a2, a3, a4, a5, a6, a7, a8⟩ := hat
  obtain ⟨x1, x2, x3, x4, x5, x6, x7, x8, x9, x10, x11, x12, x13, x14⟩ := id C
  obtain ⟨q, cs, c0, rfl, hq, e1, e2, a5⟩ := st_ref a2 a5
  rw [hh] at e2
  obtain ⟨gs, rfl, e3⟩ := e2
  obtain ⟨cv, e4, e5⟩ := e3.at hv
  obtain ⟨Cn, T, N, ty, ⟨K1, K2, K3, K4⟩, hj, ht, hfn, hl⟩ := F
  rcases hl with hl | ⟨host, hl⟩
  · exact va_get (D := G.1) x1 x2 x8 K2 x7 x9.1 a6 k e1 K1 j hj (x8 _ hl) (fun _ h => h) e4 hd (kk ad ws ls _ H locs cells slots ⟨a1, a2, a3, a4, ⟨_, _, rfl, e5, a5⟩, a6, a7, a8⟩ hc hs)
  · exact va_getN (D := G.1) x1 x2 x8 K2 x7 x9.1 a6 k e1 K1 j hj (va_Nw.use rfl (x9.2.1 _ hl)) (fun _ h => h) e4 hd (kk ad ws ls _ H locs cells slots ⟨a1, a2, a3, a4, ⟨_, _, rfl, e5, a5⟩, a6, a7, a8⟩ hc hs)
end WqRules
set_option maxHeartbeats 1000000 in
theorem wq_callV {G : Gx} {M M2 : Md} {d pc i n : Nat} {L st st0 : List Value} {σ : Hp} {mc1 ms1 mc2 ms2 : Nat} {Q2 : Option Value → Hp → Prop} {p : Program} {l : Launch} {e : Env} {R : Room} {s : State} {m : MethodId} {args : Array Value} {below : List Frame} {meth : Method} {c : Code} {A : Nat → Prop} {ad0 : List Nat} {cm sm : Nat} {QQ : State → Prop} {k ci : Nat} {fs : List Value} (C : cxM G M (d + 1) p l R s m args meth c A) (h1 : cm ≤ R.cells) (h2 : sm ≤ R.slots) (as : List Value) (hd : decode M.2.1 pc = .ok (.invokevirtual i, 3)) (hm : MV M2 n) (hl : mLk M.1.cls i M2.1) (hst : st0 = as.reverse ++ .ref k :: st) (hn : as.length = n) (hcat : (st.map fun v => v.category).sum ≤ 8) (hk : σ.2 k = .inr (ci, fs)) (hcl : (clX[ci]?.map fun q => q.1) = some M2.1.cls) (hC : Cl G M2 d (.ref k :: as) σ mc1 ms1 Q2)
    (kk : ∀ v σ2, Q2 v σ2 → Wq G M p l e R s m args below meth c A ad0 cm sm QQ (pc + 3) L (v.toList ++ st) σ2 mc2 ms2) : Wq G M p l e R s m args below meth c A ad0 cm sm QQ pc L st0 σ (mc1 + mc2) (ms1 + ms2) := by
  intro ad ws ls cst H locs cells slots hat hc hs
  obtain ⟨a1, a2, a3, a4, a5, a6, a7, a8⟩ := hat
  obtain ⟨x1, x2, x3, x4, x5, x6, x7, x8, x9, x10, x11, x12, x13, x14⟩ := id C
  subst hst
  obtain ⟨x, y, rfl, b1, b2⟩ := a5.split
  obtain ⟨q, cs, c0, rfl, hq, e1, e2, b3⟩ := st_ref a2 b2
  rw [hk] at e2
  obtain ⟨gs, rfl, -⟩ := e2
  have b1' : rVs G ad as x.reverse := by have := b1.rev; rwa [List.reverse_reverse] at this
  have hF := va_free (wc := ws) a7 a8 x11 (List.range ws.length) (by
    apply List.ext_getElem?
    intro j
    simp only [List.getElem?_map]
    by_cases hj : j < ws.length
    · rw [List.getElem?_range hj]; simp [hj]
    · rw [List.getElem?_eq_none (by simpa using hj), List.getElem?_eq_none (by simpa using hj)]; rfl)
  obtain ⟨⟨m1, m2, ⟨m3, m4, m5⟩, m6⟩, m7, m8⟩ := hm
  obtain ⟨r, hr1, hr2⟩ : ∃ r, clX[ci]? = some r ∧ r.1 = M2.1.cls := by
    cases hci : clX[ci]? with
    | none => rw [hci] at hcl; cases hcl
    | some r => rw [hci] at hcl; exact ⟨r, rfl, Option.some.inj hcl⟩
  have hrecv := va_recv x9.1 a6 hr1 e1
  rw [hr2] at hrecv
  have hM := hC l ad ws (.ref q :: x.reverse) H.size x14 a2 ⟨_, _, rfl, ⟨q, hq, rfl⟩, b1'⟩
  have hpre := kG.pre (cas := .ref q :: x.reverse) x9 x10 a6 a7 a8 hF
  have hlen : x.reverse.length = n := by rw [b1'.len]; exact hn
  have hW9 : 2 * (F0 m pc ls (x ++ .ref q :: cs)).monitorRoom + (cs.map fun v => v.category).sum ≤ 8 := by show 2 * 0 + _ ≤ 8; rw [b3.cats]; omega
  have hR : (rmM d mc1 ms1).frames + 1 ≤ R.frames ∧ 8 + (M2.2.2.1 + 11) + (rmM d mc1 ms1).locals ≤ R.locals := ⟨by show d + 1 ≤ _; omega, by show 8 + (M2.2.2.1 + 11) + 60 * d ≤ _; omega⟩
  rcases hl with hl | ⟨host, hl⟩
  · refine va_goes (va_runV (As := x.reverse) (rest := cs) (Ts := lw_ok) ⟨x1, x2, x3, x7, x8⟩ hM ⟨callB_of n x8 (wsM_good m1) rfl rfl rfl (x8 _ m2) (x8 _ hl) ⟨m3, m4, m5⟩ hR, x8 _ m7, x8 _ m8⟩ ⟨preM.blind, hrecv, hpre⟩ rfl hlen (by rw [← a4]; exact a3.lv) (by rw [List.reverse_reverse]) hW9 hd ⟨by omega, by omega⟩) a8 hF (fun v σ' ad' ws' cv H1 l1 q1 q2 q3 q4 q5 q6 q7 => kk v σ' q1 ad' ws' ls _ H1 l1 (cells + mc1) (slots + ms1) ⟨a1.trans q2, q3, a3.mono q2, a4, q4.list.app (b3.mono q2), q5, q6, q7⟩ (by omega) (by omega))
  · refine va_goes (va_runVN (As := x.reverse) (rest := cs) (Ts := lw_ok) ⟨x1, x2, x3, x7, x8⟩ hM ⟨va_cnB n x8 (wsM_good m1) rfl rfl rfl (x9.2.1 _ hl) (x8 _ m2) ⟨m3, m4, m5⟩ hR, x8 _ m7, x8 _ m8⟩ ⟨preM.blind, hrecv, hpre⟩ rfl hlen (by rw [← a4]; exact a3.lv) (by rw [List.reverse_reverse]) hW9 hd ⟨by omega, by omega⟩) a8 hF (fun v σ' ad' ws' cv H1 l1 q1 q2 q3 q4 q5 q6 q7 => kk v σ' q1 ad' ws' ls _ H1 l1 (cells + mc1) (slots + ms1) ⟨a1.trans q2, q3, a3.mono q2, a4, q4.list.app (b3.mono q2), q5, q6, q7⟩ (by omega) (by omega))
theorem yx_hat {args : Array Value} {s : State} (hok : ∀ w ∈ lw_ok, w.before args s = true) : ∀ w ∈ yL, w.before args s = true := by
  have h1 : ∀ w ∈ yL.filter goodWord, w.before args s = true := fun w hw => hok w (yL_ok w hw)
  have g : ∀ {w : Cond} (i : Nat), (yL.filter goodWord)[i]? = some w → w.before args s = true := fun i h => h1 _ (List.mem_of_getElem? h)
  refine vx_hat (B := [.declares (Bundle.initS "java/lang/RuntimeException"), .declares (Bundle.initS "java/lang/Exception"), .declares (Bundle.initS "java/lang/Throwable"), .castable yNS yNS]) h1 ?_ ?_
  · intro w hw
    have h : yL.filter (fun w => !goodWord w) = [.declares (Bundle.initS "java/lang/RuntimeException"), .declares (Bundle.initS "java/lang/Exception"), .declares (Bundle.initS "java/lang/Throwable"), .castable yNS yNS] := by decide +kernel
    rw [h] at hw
    exact hw
  · refine vx_c (yx_dec (bytes := Bundle.six) (maxL := 2) (ret := none) (g 29 (by decide +kernel)) (g 31 (by decide +kernel))) (vx_c (yx_dec (bytes := Bundle.six) (maxL := 2) (ret := none) (g 33 (by decide +kernel)) (g 35 (by decide +kernel))) (vx_c (yx_dec (bytes := LibCode.Throwable.InitS.code) (maxL := 2) (ret := none) (g 22 (by decide +kernel)) (g 23 (by decide +kernel))) (vx_c (yx_cast (hok _ (okm 193 (by decide +kernel) (by decide +kernel)))) vx_n)))
def xcM (G : Gx) (ad : List Nat) (ws : va_W) (sz : Nat) (Qx : Hp → Prop) : String → State → State → Prop :=
  fun E st t => E = yNS ∧ (∃ (σ' : Hp) (ad' : List Nat) (ws' : va_W), Qx σ' ∧ ex ad ad' ∧ rW G ad' σ' ws' ∧ va_P G.1 clX ws' t.heap ∧ va_D (va_A ws sz) ws') ∧ va_F (va_A ws sz) st t
/-- from these arguments and this heap the method throws NoSuchElementException -/
def ClX (G : Gx) (M : Md) (d : Nat) (as : List Value) (σ : Hp) (mc ms : Nat) (Qx : Hp → Prop) : Prop :=
  ∀ (l : Launch) (ad : List Nat) (ws : va_W) (cas : List Value) (sz : Nat), l.flags = flags0 → rW G ad σ ws → rVs G ad as cas → vx_Met l M.1 (wsM M) (rmM d mc ms) (preM G cas sz ws) (fun _ _ _ _ => False) (xcM G ad ws sz Qx) mc ms (va_A ws sz)
set_option maxHeartbeats 1000000 in
theorem clx_of {G : Gx} {M : Md} {d : Nat} {as : List Value} {σ : Hp} {mc ms : Nat} {Qx : Hp → Prop} (hp : plainName M.1.cls = true) (hc : ∀ v ∈ as, v.category = 1) (hn : as.length ≤ M.2.2.1)
    (h : ∀ (p : Program) (l : Launch) (e : Env) (s : State) (m : MethodId) (args : Array Value) (below : List Frame) (meth : Method) (c : Code) (ad : List Nat) (ws : va_W), cxM G M d p l (rmM d mc ms) s m args meth c (va_A ws s.heap.size) → (∀ x ∈ c.exceptionTable.toList, False) →
      Wq G M p l e (rmM d mc ms) s m args below meth c (va_A ws s.heap.size) ad mc ms (vx_MQ below (fun _ _ _ _ => False) (xcM G ad ws s.heap.size Qx) args s mc ms (va_A ws s.heap.size)) 0 (entL as M.2.2.1) [] σ mc ms) : ClX G M d as σ mc ms Qx := by
  intro l ad ws cas sz hfl hW hA
  refine vx_ofW (cc := M.2.1) (maxL := M.2.2.1) (ret := M.2.2.2) hp rfl ?_
  intro p e s m args below meth c s₁ B hml hno hv
  obtain ⟨rfl, rfl, hP, hD0, hK, hF⟩ := hv
  have hts := atoms_spec (ws := wsM M) B.pre
  rw [lg_entry_eq]
  have hlen : (entL as M.2.2.1).length = M.2.2.1 := by simp [entL]; omega
  exact h p l e s m _ below meth c ad ws
    ⟨B.exec, B.bytes, hml, B.returns, B.notSynchronized, (name_of_methodNamed B.named B.method).1, findClass_of_methodNamed B.named, fun w hw => hts w (List.mem_cons_of_mem _ hw), hK, hF, fun q hq => Or.inr hq, Nat.le_refl _, Nat.le_refl _, hfl⟩
    hno ad ws _ [] s.heap [] 0 0 ⟨ex.rfl, hW, rL.entry hA hc hn, hlen, rfl, hP, hD0.self, va_S.rf⟩ (by omega) (by omega)
theorem nT_flags {l : Launch} (h : l.flags = flags0) : l.stackTraces = false := by
  unfold Launch.stackTraces
  rw [h]
  decide
set_option maxHeartbeats 1000000 in
theorem wq_throw {G : Gx} {M : Md} {d pc : Nat} {L st : List Value} {σ : Hp} {mc ms : Nat} {p : Program} {l : Launch} {e : Env} {R : Room} {s : State} {m : MethodId} {args : Array Value} {below : List Frame} {meth : Method} {c : Code} {ad0 : List Nat} {ws0 : va_W} {Qx : Hp → Prop}
    (C : cxM G M d p l R s m args meth c (va_A ws0 s.heap.size)) (h1 : mc ≤ R.cells) (h2 : ms ≤ R.slots) (hM : M.1.cls = "SureHunters") (hno : ∀ x ∈ c.exceptionTable.toList, False) (hd : 6 ≤ d) (hst : st = [])
    (d0 : decode M.2.1 pc = .ok (.new 151, 3)) (d3 : decode M.2.1 (pc + 3) = .ok (.dup, 1)) (d4 : decode M.2.1 (pc + 4) = .ok (.ldc 153, 2)) (d6 : decode M.2.1 (pc + 6) = .ok (.invokespecial 155, 3)) (d9 : decode M.2.1 (pc + 9) = .ok (.athrow, 1)) (hq : Qx σ) :
    Wq G M p l e R s m args below meth c (va_A ws0 s.heap.size) ad0 mc ms (vx_MQ below (fun _ _ _ _ => False) (xcM G ad0 ws0 s.heap.size Qx) args s mc ms (va_A ws0 s.heap.size)) pc L st σ 1 6 := by
  intro ad ws ls cst H locs cells slots hat hc hs
  obtain ⟨a1, a2, a3, a4, a5, a6, a7, a8⟩ := hat
  obtain ⟨x1, x2, x3, x4, x5, x6, x7, x8, x9, x10, x11, x12, x13, x14⟩ := id C
  subst hst
  cases a5
  have hx8 : ∀ w ∈ Cond.classLink "SureHunters" 151 yNS :: Cond.initialized yNS :: yL, vx_ot w = true := by
    intro w hw
    rcases List.mem_cons.mp hw with rfl | hw
    · decide +kernel
    · rcases List.mem_cons.mp hw with rfl | hw
      · decide +kernel
      · exact yL_all w hw
  exact yx_throw (text := "no such place") (sa := adK G 2) (rx := yrx) (A := va_A ws0 s.heap.size) (Yn := "java/lang/RuntimeException") (names := ["java/lang/Exception"]) x1 x2 (nT_flags x14) (by decide +kernel) (by decide +kernel) (by decide +kernel) (by decide +kernel) (by rw [← hM]; exact x7) (by decide +kernel) (by decide +kernel) (fun n hn => by rcases List.mem_cons.mp hn with rfl | hn; decide +kernel; cases hn)
    (x8 _ (okm 1274 (by decide +kernel) (by decide +kernel))) (x8 _ (okm 193 (by decide +kernel) (by decide +kernel))) x9.2.2.2.2.2.2.2 (yx_hat x8) hx8 x10.2.2.2.2.2.1 x10.2.2.2.2.2.2.1 a8 (by rw [x3, ← a4]; exact a3.lv) d0 d3 d4 d6 d9 (fun x hx => (hno x hx).elim)
    (by show 1 + 4 < _; omega) (by show 0 + (13 * (1 + 2) + 43) ≤ _; omega) (by omega) (by omega) x5
    (fun t _ k1 k2 => ⟨rfl, ⟨σ, ad, ws, hq, a1, a2, a6.kept (fun k q hk => k2 _ (vx_lt a6 hk)), a7⟩, Nat.le_trans a8.1 k1, fun q g1 g2 => (k2 q (Nat.lt_of_lt_of_le g1 a8.1)).trans (a8.2.1 q g1 g2)⟩) a8.2.2 (by omega) (by omega)
