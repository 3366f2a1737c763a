
/-! An abstract heap (next address, cells), values as the machine's with abstract addresses; '.float 0', '.float 1' stand for two old int arrays: FIRST_ROW and the script. -/
abbrev Hp : Type := Nat × (Nat → va_E)
/-- numbers of a launch: class ids and slots, ids of array kinds, addresses of the old arrays; the script -/
abbrev Gx : Type := va_G × (Nat → ClassId) × (UInt32 → Nat) × (Nat × (Nat → Int32))
def frow (j : Nat) : Int32 := match j with
  | 0 => 0
  | 1 => 0
  | 2 => 9
  | 3 => 54
  | _ => 219
def wsM (M : Md) : List Cond := .code M.1 M.2.1 M.2.2.1 M.2.2.2 :: lw_ok
def rV (G : Gx) (ad : List Nat) : Value → Value → Prop
  | .ref k, c => ∃ q, ad[k]? = some q ∧ c = .ref q
  | .float r, c => c = .ref (G.2.2.1 r)
  | v, c => c = v
def rVs (G : Gx) (ad : List Nat) : List Value → List Value → Prop
  | [], cs => cs = []
  | v :: vs, cs => ∃ c cs', cs = c :: cs' ∧ rV G ad v c ∧ rVs G ad vs cs'
def rOV (G : Gx) (ad : List Nat) : Option Value → Option Value → Prop
  | none, c => c = none
  | some v, c => ∃ c', c = some c' ∧ rV G ad v c'
def rO (ad : List Nat) : Option Nat → Option Nat → Prop
  | none, c => c = none
  | some k, c => ∃ q, ad[k]? = some q ∧ c = some q
def rC (G : Gx) (ad : List Nat) : va_E → va_E → Prop
  | .inl (t, n, .inr (.inr (.inr (.inr f)))), c => ∃ g, c = .inl (G.2.1 t, n, .inr (.inr (.inr (.inr g)))) ∧ ∀ i, rO ad (f i) (g i)
  | .inl (t, x), c => c = .inl (G.2.1 t, x)
  | .inr (ci, fs), c => ∃ gs, c = .inr (ci, gs) ∧ rVs G ad fs gs
def rW (G : Gx) (ad : List Nat) (σ : Hp) (ws : va_W) : Prop := ad.length = σ.1 ∧ ws.length = σ.1 ∧ ∀ k, k < σ.1 → ∃ q c, ad[k]? = some q ∧ ws[k]? = some (q, c) ∧ rC G ad (σ.2 k) c
def rL (G : Gx) (ad : List Nat) (L : List Value) (ls : Array Slot) : Prop := ∃ cl : List (Nat × Value), lv_has ls L.length cl ∧ ∀ i v, L[i]? = some v → v.category = 1 → ∃ c, (i, c) ∈ cl ∧ rV G ad v c
def ex (a b : List Nat) : Prop := ∀ (k q : Nat), a[k]? = some q → b[k]? = some q
theorem ex.rfl {a : List Nat} : ex a a := fun _ _ h => h
theorem ex.trans {a b c : List Nat} (h : ex a b) (h2 : ex b c) : ex a c := fun k q e => h2 k q (h k q e)
theorem ex.push (a : List Nat) (q : Nat) : ex a (a ++ [q]) := fun k x h => by
  have hk := (List.getElem?_eq_some_iff.mp h).1
  rw [List.getElem?_append_left hk]; exact h
theorem rV.mono {G : Gx} {a b : List Nat} (h : ex a b) {v c : Value} (hv : rV G a v c) : rV G b v c := by
  cases v with
  | ref k => obtain ⟨q, e, r⟩ := hv; exact ⟨q, h k q e, r⟩
  | _ => exact hv
theorem rVs.mono {G : Gx} {a b : List Nat} (h : ex a b) : ∀ {vs cs : List Value}, rVs G a vs cs → rVs G b vs cs
  | [], _, hv => hv
  | _ :: _, _, ⟨c, cs', e, h1, h2⟩ => ⟨c, cs', e, h1.mono h, rVs.mono h h2⟩
theorem rO.mono {a b : List Nat} (h : ex a b) {v c : Option Nat} (hv : rO a v c) : rO b v c := by
  cases v with
  | none => exact hv
  | some k => obtain ⟨q, e, r⟩ := hv; exact ⟨q, h k q e, r⟩
theorem rC.mono {G : Gx} {a b : List Nat} (h : ex a b) {e c : va_E} (hv : rC G a e c) : rC G b e c := by
  rcases e with ⟨t, n, x⟩ | ⟨ci, fs⟩
  · rcases x with x | x | x | x | x
    · exact hv
    · exact hv
    · exact hv
    · exact hv
    · obtain ⟨g, e1, e2⟩ := hv; exact ⟨g, e1, fun i => (e2 i).mono h⟩
  · obtain ⟨gs, e1, e2⟩ := hv; exact ⟨gs, e1, e2.mono h⟩
theorem rL.mono {G : Gx} {a b : List Nat} (h : ex a b) {L : List Value} {ls : Array Slot} (hv : rL G a L ls) : rL G b L ls := by
  obtain ⟨cl, h1, h2⟩ := hv
  exact ⟨cl, h1, fun i v e hc => by obtain ⟨c, e1, e2⟩ := h2 i v e hc; exact ⟨c, e1, e2.mono h⟩⟩
theorem rV.cat {G : Gx} {ad : List Nat} {v c : Value} (h : rV G ad v c) : c.category = v.category := by
  cases v with
  | ref k => obtain ⟨q, -, rfl⟩ := h; rfl
  | float r => cases h; rfl
  | _ => cases h; rfl
theorem rVs.cats {G : Gx} {ad : List Nat} : ∀ {vs cs : List Value}, rVs G ad vs cs → cs.map (fun v => v.category) = vs.map (fun v => v.category)
  | [], _, h => by cases h; rfl
  | _ :: _, _, ⟨c, cs', e, h1, h2⟩ => by subst e; rw [List.map_cons, List.map_cons, h1.cat, rVs.cats h2]
theorem rVs.len {G : Gx} {ad : List Nat} : ∀ {vs cs : List Value}, rVs G ad vs cs → cs.length = vs.length
  | [], _, h => by cases h; rfl
  | _ :: _, _, ⟨c, cs', e, h1, h2⟩ => by subst e; simp [rVs.len h2]
theorem rVs.at {G : Gx} {ad : List Nat} : ∀ {vs cs : List Value} (_ : rVs G ad vs cs) {j : Nat} {v : Value}, vs[j]? = some v → ∃ c, cs[j]? = some c ∧ rV G ad v c
  | [], _, _, j, v, e => by simp at e
  | a :: vs, _, ⟨c, cs', e0, h1, h2⟩, 0, v, e => by subst e0; cases e; exact ⟨c, rfl, h1⟩
  | a :: vs, _, ⟨c, cs', e0, h1, h2⟩, j + 1, v, e => by subst e0; exact rVs.at h2 (j := j) (by simpa using e)
theorem rVs.set {G : Gx} {ad : List Nat} {v c : Value} (hv : rV G ad v c) : ∀ {vs cs : List Value} (_ : rVs G ad vs cs) (j : Nat), rVs G ad (vs.set j v) (cs.set j c)
  | [], _, h, j => by cases h; exact rfl
  | a :: vs, _, ⟨c', cs', e0, h1, h2⟩, 0 => by subst e0; exact ⟨c, cs', rfl, hv, h2⟩
  | a :: vs, _, ⟨c', cs', e0, h1, h2⟩, j + 1 => by subst e0; exact ⟨c', _, rfl, h1, rVs.set hv h2 j⟩
theorem rVs.split {G : Gx} {ad : List Nat} : ∀ {as bs cs : List Value}, rVs G ad (as ++ bs) cs → ∃ x y, cs = x ++ y ∧ rVs G ad as x ∧ rVs G ad bs y
  | [], _, cs, h => ⟨[], cs, rfl, rfl, h⟩
  | a :: as, bs, _, ⟨c, cs', e, h1, h2⟩ => by
    subst e
    obtain ⟨x, y, e1, h3, h4⟩ := rVs.split h2
    exact ⟨c :: x, y, by rw [e1]; rfl, ⟨c, x, rfl, h1, h3⟩, h4⟩
theorem rVs.app {G : Gx} {ad : List Nat} : ∀ {as bs x y : List Value}, rVs G ad as x → rVs G ad bs y → rVs G ad (as ++ bs) (x ++ y)
  | [], _, _, _, h, h2 => by cases h; exact h2
  | a :: as, bs, _, y, ⟨c, cs', e, h1, h2⟩, h3 => by subst e; exact ⟨c, cs' ++ y, rfl, h1, rVs.app h2 h3⟩
theorem rVs.rev {G : Gx} {ad : List Nat} : ∀ {as x : List Value}, rVs G ad as x → rVs G ad as.reverse x.reverse
  | [], _, h => by cases h; exact rfl
  | a :: as, _, ⟨c, cs', e, h1, h2⟩ => by
    subst e
    rw [List.reverse_cons, List.reverse_cons]
    exact (rVs.rev h2).app ⟨c, [], rfl, h1, rfl⟩
/-- a cell of the world, by an address that is related -/
theorem rW.at {G : Gx} {ad : List Nat} {σ : Hp} {ws : va_W} (h : rW G ad σ ws) {k q : Nat} (hk : ad[k]? = some q) : k < σ.1 ∧ ∃ c, ws[k]? = some (q, c) ∧ rC G ad (σ.2 k) c := by
  have hl : k < σ.1 := by rw [← h.1]; exact (List.getElem?_eq_some_iff.mp hk).1
  obtain ⟨q', c, h1, h2, h3⟩ := h.2.2 k hl
  rw [hk] at h1
  cases h1
  exact ⟨hl, c, h2, h3⟩
def hset (σ : Hp) (k : Nat) (e : va_E) : Hp := (σ.1, va_up σ.2 k e)
def hnew (σ : Hp) (e : va_E) : Hp := (σ.1 + 1, va_up σ.2 σ.1 e)
theorem rW.set {G : Gx} {ad : List Nat} {σ : Hp} {ws : va_W} (h : rW G ad σ ws) {k q : Nat} (hk : ad[k]? = some q) {e c : va_E} (he : rC G ad e c) : rW G ad (hset σ k e) (ws.set k (q, c)) := by
  refine ⟨h.1, by rw [List.length_set]; exact h.2.1, fun j hj => ?_⟩
  obtain ⟨q', c', h1, h2, h3⟩ := h.2.2 j hj
  by_cases hjk : j = k
  · subst hjk
    rw [hk] at h1
    cases h1
    refine ⟨q, c, hk, ?_, ?_⟩
    · rw [List.getElem?_set_self (by have := h.2.1; have hj' : j < σ.1 := hj; omega)]
    · show rC G ad (va_up σ.2 j e j) c
      rw [show va_up σ.2 j e j = e by simp [va_up]]
      exact he
  · refine ⟨q', c', h1, ?_, ?_⟩
    · rw [List.getElem?_set_ne (fun e => hjk e.symm)]; exact h2
    · show rC G ad (va_up σ.2 k e j) c'
      rw [show va_up σ.2 k e j = σ.2 j by simp [va_up, hjk]]
      exact h3
theorem rW.push {G : Gx} {ad : List Nat} {σ : Hp} {ws : va_W} (h : rW G ad σ ws) (q : Nat) {e c : va_E} (he : rC G (ad ++ [q]) e c) : rW G (ad ++ [q]) (hnew σ e) (ws ++ [(q, c)]) := by
  refine ⟨by simp [hnew, h.1], by simp [hnew, h.2.1], fun j hj => ?_⟩
  by_cases hjk : j = σ.1
  · subst hjk
    refine ⟨q, c, ?_, ?_, ?_⟩
    · rw [← h.1]; simp
    · rw [← h.2.1]; simp
    · show rC G _ (va_up σ.2 σ.1 e σ.1) c
      rw [show va_up σ.2 σ.1 e σ.1 = e by simp [va_up]]
      exact he
  · have hj' : j < σ.1 := by have : j < σ.1 + 1 := hj; omega
    obtain ⟨q', c', h1, h2, h3⟩ := h.2.2 j hj'
    refine ⟨q', c', ex.push ad q j q' h1, ?_, ?_⟩
    · rw [List.getElem?_append_left (by rw [h.2.1]; exact hj')]; exact h2
    · show rC G _ (va_up σ.2 σ.1 e j) c'
      rw [show va_up σ.2 σ.1 e j = σ.2 j by simp [va_up, hjk]]
      exact h3.mono (ex.push ad q)
theorem rL.read {G : Gx} {ad : List Nat} {L : List Value} {ls : Array Slot} (h : rL G ad L ls) {i : Nat} {v : Value} (hi : L[i]? = some v) (hc : v.category = 1) : ∃ c, ls[i]? = some (.val c) ∧ rV G ad v c := by
  obtain ⟨cl, h1, h2⟩ := h
  obtain ⟨c, hm, hr⟩ := h2 i v hi hc
  exact ⟨c, h1.2.2 (i, c) hm, hr⟩
theorem rL.lv {G : Gx} {ad : List Nat} {L : List Value} {ls : Array Slot} (h : rL G ad L ls) : ls.size = L.length := by
  obtain ⟨cl, h1, -⟩ := h
  exact h1.1
/-- what a store into place i leaves -/
theorem rL.store {G : Gx} {ad : List Nat} {L : List Value} {i : Nat} {v c : Value} {cl : List (Nat × Value)} (hi : i < L.length) (h2 : ∀ i v, L[i]? = some v → v.category = 1 → ∃ c, (i, c) ∈ cl ∧ rV G ad v c) (hv : rV G ad v c) :
    ∀ j w, (L.set i v)[j]? = some w → w.category = 1 → ∃ c', (j, c') ∈ ((i, c) :: cl.filter (fun q => !(q.1 == i) && !(q.1 + 1 == i && q.2.category == 2))) ∧ rV G ad w c' := by
  intro j w hj hw
  by_cases hij : i = j
  · subst hij
    rw [List.getElem?_set_self hi] at hj
    cases hj
    exact ⟨c, List.mem_cons_self, hv⟩
  · rw [List.getElem?_set_ne hij] at hj
    obtain ⟨c', hm, hr⟩ := h2 j w hj hw
    refine ⟨c', List.mem_cons_of_mem _ (List.mem_filter.mpr ⟨hm, ?_⟩), hr⟩
    have hcat : c'.category = 1 := hr.cat.trans hw
    simp [hcat, Ne.symm hij]
def tysG (G : Gx) : List (ClassId × FieldType) := [(G.2.1 0, .int), (G.2.1 1, .boolean), (G.2.1 2, .long), (G.2.1 3, .object "SureHunters$Net"), (G.2.1 4, .object "SureHunters$Scene"), (G.2.1 5, .object "SureHunters$Game")]
def adK (G : Gx) (i : Nat) : Nat := G.2.2.1 (UInt32.ofNat (2 + i))
def adV (G : Gx) (i : Nat) : Nat := G.2.2.1 (UInt32.ofNat (10 + i))
/-- the constant texts: place, line, no such place -/
def xK (G : Gx) (U : State) : Prop := vk_R "SureHunters$Script" 101 "place" (adK G 0) U ∧ vk_R "SureHunters$Script" 107 "line" (adK G 1) U ∧ vk_R "SureHunters" 153 "no such place" (adK G 2) U
def txB : List (List Int32) := [[112, 108, 97, 99, 101], [108, 105, 110, 101], [110, 111, 32, 115, 117, 99, 104, 32, 112, 108, 97, 99, 101]]
def xF (G : Gx) (A : Nat → Prop) (U : State) (H : Heap) : Prop := vk_S 3 [5, 4, 13] txB (adK G) (adV G) A U H ∧ va_Z "java/lang/String" "COMPACT_STRINGS" "Z" (.int 1) A U H ∧ vx_Zq Bundle.tN "UNASSIGNED_STACK" Bundle.steD A U H ∧ vx_Zq Bundle.tN "SUPPRESSED_SENTINEL" Bundle.listD A U H ∧ (va_Z "jdk/internal/util/Preconditions" "SIOOBE_FORMATTER" "Ljava/util/function/BiFunction;" .null A U H ∨ va_Z "jdk/internal/util/Preconditions" "SIOOBE_FORMATTER" "Ljava/util/function/BiFunction;" (.ref (G.2.2.1 20)) A U H)
theorem xK.warm {G : Gx} {s U : State} (hW : s.WarmedH U.vm) (h : xK G s) : xK G U := ⟨vk_R.warm hW h.1, vk_R.warm hW h.2.1, vk_R.warm hW h.2.2⟩
theorem xK.same {G : Gx} {s U : State} (hvm : s.vm = U.vm) (h : xK G s) : xK G U := ⟨vk_R.same hvm.symm h.1, vk_R.same hvm.symm h.2.1, vk_R.same hvm.symm h.2.2⟩
theorem xF.moved {G : Gx} {A : Nat → Prop} {s U : State} {H : Heap} (hvm : s.vm.Alike U.vm) (h : xF G A s H) : xF G A U H := ⟨h.1.moved hvm, h.2.1.moved hvm, h.2.2.1.moved hvm, h.2.2.2.1.moved hvm, h.2.2.2.2.imp (fun q => q.moved hvm) (fun q => q.moved hvm)⟩
theorem xF.kept {G : Gx} {A : Nat → Prop} {U : State} {H H1 : Heap} (h : xF G A U H) (hq : ∀ a : Nat, a < H.size → ¬ A a → H1[a]? = H[a]?) : xF G A U H1 := ⟨h.1.kept hq, h.2.1.kept hq, h.2.2.1.kept hq, h.2.2.2.1.kept hq, h.2.2.2.2.imp (fun q => q.kept hq) (fun q => q.kept hq)⟩
theorem xF.narrow {G : Gx} {A B : Nat → Prop} {U : State} {H : Heap} (h : xF G A U H) (hAB : ∀ q, B q → A q) : xF G B U H := ⟨h.1.narrow hAB, h.2.1.narrow hAB, h.2.2.1.narrow hAB, h.2.2.2.1.narrow hAB, h.2.2.2.2.imp (fun q => q.narrow hAB) (fun q => q.narrow hAB)⟩
def kG (G : Gx) (U : State) : Prop := va_K G.1 clX (tysG G) U ∧ (∀ w ∈ lw_nest, va_Nw w U) ∧ va_AO "SureHunters$Net" U ∧ va_AO "SureHunters$Scene" U ∧ (va_AO "SureHunters$Game" U ∧ xK G U)
def fG (G : Gx) (A : Nat → Prop) (U : State) (H : Heap) : Prop := va_Z "SureHunters" "FIRST_ROW" "[I" (.ref (G.2.2.1 0)) A U H ∧ va_T .int (G.2.2.1 0) 5 (fun j => .int (frow j)) A U H ∧ va_T .int (G.2.2.1 1) G.2.2.2.1 (fun j => .int (G.2.2.2.2 j)) A U H ∧ xF G A U H
theorem nest_warm {w : Cond} (hn : isNest w = true) {s U : State} (hW : s.WarmedH U.vm) (h : va_Nw w s) : va_Nw w U := by
  cases w <;> first | exact va_Nw.warmF hW h | exact va_Nw.warmM hW h | cases hn
theorem nest_same {w : Cond} (hn : isNest w = true) {s U : State} (hvm : s.vm = U.vm) (h : va_Nw w s) : va_Nw w U := by
  cases w <;> first | exact va_Nw.same rfl hvm h | cases hn
theorem kG.warm {G : Gx} {s U : State} (hW : s.WarmedH U.vm) (h : kG G s) : kG G U :=
  ⟨va_K.moved hW.alike h.1, fun w hw => nest_warm (List.mem_filter.mp hw).2 hW (h.2.1 w hw), va_AO.moved hW.alike h.2.2.1, va_AO.moved hW.alike h.2.2.2.1, va_AO.moved hW.alike h.2.2.2.2.1, xK.warm hW h.2.2.2.2.2⟩
theorem kG.same {G : Gx} {s U : State} (hvm : s.vm = U.vm) (h : kG G s) : kG G U :=
  ⟨va_K.moved (by rw [hvm]; exact Vm.Alike.refl _) h.1, fun w hw => nest_same (List.mem_filter.mp hw).2 hvm (h.2.1 w hw), va_AO.moved (by rw [hvm]; exact Vm.Alike.refl _) h.2.2.1, va_AO.moved (by rw [hvm]; exact Vm.Alike.refl _) h.2.2.2.1, va_AO.moved (by rw [hvm]; exact Vm.Alike.refl _) h.2.2.2.2.1, xK.same hvm h.2.2.2.2.2⟩
theorem fG.moved {G : Gx} {A : Nat → Prop} {s U : State} {H : Heap} (hvm : s.vm.Alike U.vm) (h : fG G A s H) : fG G A U H := ⟨h.1.moved hvm, h.2.1.moved hvm, h.2.2.1.moved hvm, h.2.2.2.moved hvm⟩
theorem fG.kept {G : Gx} {A : Nat → Prop} {U : State} {H H1 : Heap} (h : fG G A U H) (hq : ∀ a : Nat, a < H.size → ¬ A a → H1[a]? = H[a]?) : fG G A U H1 := ⟨h.1.kept hq, h.2.1.kept hq, h.2.2.1.kept hq, h.2.2.2.kept hq⟩
theorem fG.narrow {G : Gx} {A B : Nat → Prop} {U : State} {H : Heap} (h : fG G A U H) (hAB : ∀ q, B q → A q) : fG G B U H := ⟨h.1.narrow hAB, h.2.1.narrow hAB, h.2.2.1.narrow hAB, h.2.2.2.narrow hAB⟩
/-- where a method stands: the machine, its code, the tables, the old cells, the room -/
def cxM (G : Gx) (M : Md) (d : Nat) (p : Program) (l : Launch) (R : Room) (s : State) (m : MethodId) (args : Array Value) (meth : Method) (c : Code) (A : Nat → Prop) : Prop :=
  p.tables.exec = Jvm.exec ∧ c.code = M.2.1 ∧ c.maxLocals = M.2.2.1 ∧ meth.sig.returnType = M.2.2.2 ∧ meth.locks = false ∧ meth.name = M.1.name ∧ s.vm.findClass M.1.cls = some m.cls ∧ (∀ w ∈ lw_ok, w.before args s = true) ∧ kG G s ∧ fG G A s s.heap ∧ (∀ q, s.heap.size ≤ q → A q) ∧ d ≤ R.frames ∧ 60 * d ≤ R.locals ∧ l.flags = flags0
/-- the instruction at which a method ends with an answer -/
def retAt (M : Md) (pc : Nat) : Option Value → Prop
  | none => decode M.2.1 pc = .ok (.return_, 1) ∧ M.2.2.2 = none
  | some (.int x) => decode M.2.1 pc = .ok (.ireturn, 1) ∧ ∃ ty, M.2.2.2 = some ty ∧ narrow ty (.int x) = .int x
  | some v => decode M.2.1 pc = .ok (.areturn, 1) ∧ (v = .null ∨ ∃ k, v = .ref k) ∧ ∃ n, M.2.2.2 = some (.object n)
def finM (G : Gx) (M : Md) (p : Program) (l : Launch) (e : Env) (R : Room) (s : State) (m : MethodId) (args : Array Value) (below : List Frame) (meth : Method) (c : Code) (A : Nat → Prop) (ad0 : List Nat) (Q : Option Value → Hp → Prop) (cm sm : Nat) (QQ : State → Prop) : Prop :=
  ∀ (v : Option Value) (σ' : Hp) (ad : List Nat) (ws : va_W) (cv : Option Value) (H : Heap) (locs : List Loc) (pc : Nat) (ls : Array Slot),
    Q v σ' → ex ad0 ad → rW G ad σ' ws → rOV G ad v cv → va_P G.1 clX ws H → va_D A ws → va_S A s.heap H locs → retAt M pc v →
    W p l e R s m args below meth c H locs cm sm QQ (F0 m pc ls cv.toList)
/-- the state of a frame: how the abstract one is held -/
def atM (G : Gx) (M : Md) (s : State) (A : Nat → Prop) (ad0 ad : List Nat) (ws : va_W) (L st : List Value) (σ : Hp) (ls : Array Slot) (cst : List Value) (H : Heap) (locs : List Loc) : Prop :=
  ex ad0 ad ∧ rW G ad σ ws ∧ rL G ad L ls ∧ L.length = M.2.2.1 ∧ rVs G ad st cst ∧ va_P G.1 clX ws H ∧ va_D A ws ∧ va_S A s.heap H locs
def Wp (G : Gx) (M : Md) (d pc : Nat) (L st : List Value) (σ : Hp) (mc ms : Nat) (Q : Option Value → Hp → Prop) : Prop :=
  ∀ (p : Program) (l : Launch) (e : Env) (R : Room) (s : State) (m : MethodId) (args : Array Value) (below : List Frame) (meth : Method) (c : Code) (A : Nat → Prop) (ad0 : List Nat) (cm sm : Nat) (QQ : State → Prop),
    cxM G M d p l R s m args meth c A → cm ≤ R.cells → sm ≤ R.slots → finM G M p l e R s m args below meth c A ad0 Q cm sm QQ →
    ∀ (ad : List Nat) (ws : va_W) (ls : Array Slot) (cst : List Value) (H : Heap) (locs : List Loc) (cells slots : Nat),
      atM G M s A ad0 ad ws L st σ ls cst H locs → cells + mc ≤ cm → slots + ms ≤ sm →
      W p l e R s m args below meth c H locs cells slots QQ (F0 m pc ls cst)
section WpRules
variable {G : Gx} {M : Md} {d pc : Nat} {L st : List Value} {σ : Hp} {mc ms : Nat} {Q : Option Value → Hp → Prop}

theorem wp_iadd {x y : Int32} (hd : decode M.2.1 pc = .ok (.iadd, 1))
    (k : Wp G M d (pc + 1) L (.int (x + y) :: st) σ mc ms Q) : Wp G M d pc L (.int y :: .int x :: st) σ mc ms Q := by
  intro p l e R s m args below meth c A ad0 cm sm QQ C h1 h2 hf ad ws ls cst H locs cells slots hat hc hs
  obtain ⟨a1, a2, a3, a4, a5, a6, a7, a8⟩ := hat
  obtain ⟨_, _, rfl, rfl, _, c3, rfl, rfl, a5⟩ := a5
  exact lv_iadd C.1 C.2.1 hd (k p l e R s m args below meth c A ad0 cm sm QQ C h1 h2 hf ad ws ls _ H locs cells slots ⟨a1, a2, a3, a4, ⟨_, _, rfl, rfl, a5⟩, a6, a7, a8⟩ hc hs)
theorem wp_isub {x y : Int32} (hd : decode M.2.1 pc = .ok (.isub, 1))
    (k : Wp G M d (pc + 1) L (.int (x - y) :: st) σ mc ms Q) : Wp G M d pc L (.int y :: .int x :: st) σ mc ms Q := by
  intro p l e R s m args below meth c A ad0 cm sm QQ C h1 h2 hf ad ws ls cst H locs cells slots hat hc hs
  obtain ⟨a1, a2, a3, a4, a5, a6, a7, a8⟩ := hat
  obtain ⟨_, _, rfl, rfl, _, c3, rfl, rfl, a5⟩ := a5
  exact lv_isub C.1 C.2.1 hd (k p l e R s m args below meth c A ad0 cm sm QQ C h1 h2 hf ad ws ls _ H locs cells slots ⟨a1, a2, a3, a4, ⟨_, _, rfl, rfl, a5⟩, a6, a7, a8⟩ hc hs)
theorem wp_imul {x y : Int32} (hd : decode M.2.1 pc = .ok (.imul, 1))
    (k : Wp G M d (pc + 1) L (.int (x * y) :: st) σ mc ms Q) : Wp G M d pc L (.int y :: .int x :: st) σ mc ms Q := by
  intro p l e R s m args below meth c A ad0 cm sm QQ C h1 h2 hf ad ws ls cst H locs cells slots hat hc hs
  obtain ⟨a1, a2, a3, a4, a5, a6, a7, a8⟩ := hat
  obtain ⟨_, _, rfl, rfl, _, c3, rfl, rfl, a5⟩ := a5
  exact lv_imul C.1 C.2.1 hd (k p l e R s m args below meth c A ad0 cm sm QQ C h1 h2 hf ad ws ls _ H locs cells slots ⟨a1, a2, a3, a4, ⟨_, _, rfl, rfl, a5⟩, a6, a7, a8⟩ hc hs)
theorem wp_iand {x y : Int32} (hd : decode M.2.1 pc = .ok (.iand, 1))
    (k : Wp G M d (pc + 1) L (.int (x &&& y) :: st) σ mc ms Q) : Wp G M d pc L (.int y :: .int x :: st) σ mc ms Q := by
  intro p l e R s m args below meth c A ad0 cm sm QQ C h1 h2 hf ad ws ls cst H locs cells slots hat hc hs
  obtain ⟨a1, a2, a3, a4, a5, a6, a7, a8⟩ := hat
  obtain ⟨_, _, rfl, rfl, _, c3, rfl, rfl, a5⟩ := a5
  exact lv_iand C.1 C.2.1 hd (k p l e R s m args below meth c A ad0 cm sm QQ C h1 h2 hf ad ws ls _ H locs cells slots ⟨a1, a2, a3, a4, ⟨_, _, rfl, rfl, a5⟩, a6, a7, a8⟩ hc hs)
theorem wp_ior {x y : Int32} (hd : decode M.2.1 pc = .ok (.ior, 1))
    (k : Wp G M d (pc + 1) L (.int (x ||| y) :: st) σ mc ms Q) : Wp G M d pc L (.int y :: .int x :: st) σ mc ms Q := by
  intro p l e R s m args below meth c A ad0 cm sm QQ C h1 h2 hf ad ws ls cst H locs cells slots hat hc hs
  obtain ⟨a1, a2, a3, a4, a5, a6, a7, a8⟩ := hat
  obtain ⟨_, _, rfl, rfl, _, c3, rfl, rfl, a5⟩ := a5
  exact lv_ior C.1 C.2.1 hd (k p l e R s m args below meth c A ad0 cm sm QQ C h1 h2 hf ad ws ls _ H locs cells slots ⟨a1, a2, a3, a4, ⟨_, _, rfl, rfl, a5⟩, a6, a7, a8⟩ hc hs)
theorem wp_ixor {x y : Int32} (hd : decode M.2.1 pc = .ok (.ixor, 1))
    (k : Wp G M d (pc + 1) L (.int (x ^^^ y) :: st) σ mc ms Q) : Wp G M d pc L (.int y :: .int x :: st) σ mc ms Q := by
  intro p l e R s m args below meth c A ad0 cm sm QQ C h1 h2 hf ad ws ls cst H locs cells slots hat hc hs
  obtain ⟨a1, a2, a3, a4, a5, a6, a7, a8⟩ := hat
  obtain ⟨_, _, rfl, rfl, _, c3, rfl, rfl, a5⟩ := a5
  exact lv_ixor C.1 C.2.1 hd (k p l e R s m args below meth c A ad0 cm sm QQ C h1 h2 hf ad ws ls _ H locs cells slots ⟨a1, a2, a3, a4, ⟨_, _, rfl, rfl, a5⟩, a6, a7, a8⟩ hc hs)
theorem wp_ishl {x y : Int32} (hd : decode M.2.1 pc = .ok (.ishl, 1))
    (k : Wp G M d (pc + 1) L (.int (x <<< (y &&& 31)) :: st) σ mc ms Q) : Wp G M d pc L (.int y :: .int x :: st) σ mc ms Q := by
  intro p l e R s m args below meth c A ad0 cm sm QQ C h1 h2 hf ad ws ls cst H locs cells slots hat hc hs
  obtain ⟨a1, a2, a3, a4, a5, a6, a7, a8⟩ := hat
  obtain ⟨_, _, rfl, rfl, _, c3, rfl, rfl, a5⟩ := a5
  exact lv_ishl C.1 C.2.1 hd (k p l e R s m args below meth c A ad0 cm sm QQ C h1 h2 hf ad ws ls _ H locs cells slots ⟨a1, a2, a3, a4, ⟨_, _, rfl, rfl, a5⟩, a6, a7, a8⟩ hc hs)
theorem wp_ishr {x y : Int32} (hd : decode M.2.1 pc = .ok (.ishr, 1))
    (k : Wp G M d (pc + 1) L (.int (x >>> (y &&& 31)) :: st) σ mc ms Q) : Wp G M d pc L (.int y :: .int x :: st) σ mc ms Q := by
  intro p l e R s m args below meth c A ad0 cm sm QQ C h1 h2 hf ad ws ls cst H locs cells slots hat hc hs
  obtain ⟨a1, a2, a3, a4, a5, a6, a7, a8⟩ := hat
  obtain ⟨_, _, rfl, rfl, _, c3, rfl, rfl, a5⟩ := a5
  exact lv_ishr C.1 C.2.1 hd (k p l e R s m args below meth c A ad0 cm sm QQ C h1 h2 hf ad ws ls _ H locs cells slots ⟨a1, a2, a3, a4, ⟨_, _, rfl, rfl, a5⟩, a6, a7, a8⟩ hc hs)
theorem wp_idiv {x y : Int32} (hd : decode M.2.1 pc = .ok (.idiv, 1)) (hne : ¬ y = 0)
    (k : Wp G M d (pc + 1) L (.int (x / y) :: st) σ mc ms Q) : Wp G M d pc L (.int y :: .int x :: st) σ mc ms Q := by
  intro p l e R s m args below meth c A ad0 cm sm QQ C h1 h2 hf ad ws ls cst H locs cells slots hat hc hs
  obtain ⟨a1, a2, a3, a4, a5, a6, a7, a8⟩ := hat
  obtain ⟨_, _, rfl, rfl, _, c3, rfl, rfl, a5⟩ := a5
  exact lv_idiv C.1 C.2.1 hd hne (k p l e R s m args below meth c A ad0 cm sm QQ C h1 h2 hf ad ws ls _ H locs cells slots ⟨a1, a2, a3, a4, ⟨_, _, rfl, rfl, a5⟩, a6, a7, a8⟩ hc hs)
theorem wp_irem {x y : Int32} (hd : decode M.2.1 pc = .ok (.irem, 1)) (hne : ¬ y = 0)
    (k : Wp G M d (pc + 1) L (.int (x - x / y * y) :: st) σ mc ms Q) : Wp G M d pc L (.int y :: .int x :: st) σ mc ms Q := by
  intro p l e R s m args below meth c A ad0 cm sm QQ C h1 h2 hf ad ws ls cst H locs cells slots hat hc hs
  obtain ⟨a1, a2, a3, a4, a5, a6, a7, a8⟩ := hat
  obtain ⟨_, _, rfl, rfl, _, c3, rfl, rfl, a5⟩ := a5
  exact lv_irem C.1 C.2.1 hd hne (k p l e R s m args below meth c A ad0 cm sm QQ C h1 h2 hf ad ws ls _ H locs cells slots ⟨a1, a2, a3, a4, ⟨_, _, rfl, rfl, a5⟩, a6, a7, a8⟩ hc hs)
theorem wp_iushr {x y : Int32} (hd : decode M.2.1 pc = .ok (.iushr, 1))
    (k : Wp G M d (pc + 1) L (.int ((x.toUInt32 >>> (y.toUInt32 &&& Int32.toUInt32 31)).toInt32) :: st) σ mc ms Q) : Wp G M d pc L (.int y :: .int x :: st) σ mc ms Q := by
  intro p l e R s m args below meth c A ad0 cm sm QQ C h1 h2 hf ad ws ls cst H locs cells slots hat hc hs
  obtain ⟨a1, a2, a3, a4, a5, a6, a7, a8⟩ := hat
  obtain ⟨_, _, rfl, rfl, _, c3, rfl, rfl, a5⟩ := a5
  exact lv_iushr C.1 C.2.1 hd rfl (k p l e R s m args below meth c A ad0 cm sm QQ C h1 h2 hf ad ws ls _ H locs cells slots ⟨a1, a2, a3, a4, ⟨_, _, rfl, rfl, a5⟩, a6, a7, a8⟩ hc hs)
theorem wp_ineg {x : Int32} (hd : decode M.2.1 pc = .ok (.ineg, 1))
    (k : Wp G M d (pc + 1) L (.int (-x) :: st) σ mc ms Q) : Wp G M d pc L (.int x :: st) σ mc ms Q := by
  intro p l e R s m args below meth c A ad0 cm sm QQ C h1 h2 hf ad ws ls cst H locs cells slots hat hc hs
  obtain ⟨a1, a2, a3, a4, a5, a6, a7, a8⟩ := hat
  obtain ⟨_, _, rfl, rfl, a5⟩ := a5
  exact lv_ineg C.1 C.2.1 hd (k p l e R s m args below meth c A ad0 cm sm QQ C h1 h2 hf ad ws ls _ H locs cells slots ⟨a1, a2, a3, a4, ⟨_, _, rfl, rfl, a5⟩, a6, a7, a8⟩ hc hs)
theorem wp_i2l {x : Int32} (hd : decode M.2.1 pc = .ok (.i2l, 1))
    (k : Wp G M d (pc + 1) L (.long x.toInt64 :: st) σ mc ms Q) : Wp G M d pc L (.int x :: st) σ mc ms Q := by
  intro p l e R s m args below meth c A ad0 cm sm QQ C h1 h2 hf ad ws ls cst H locs cells slots hat hc hs
  obtain ⟨a1, a2, a3, a4, a5, a6, a7, a8⟩ := hat
  obtain ⟨_, _, rfl, rfl, a5⟩ := a5
  exact lv_i2l C.1 C.2.1 hd rfl (k p l e R s m args below meth c A ad0 cm sm QQ C h1 h2 hf ad ws ls _ H locs cells slots ⟨a1, a2, a3, a4, ⟨_, _, rfl, rfl, a5⟩, a6, a7, a8⟩ hc hs)
theorem wp_lcmp {x y : Int64} (hd : decode M.2.1 pc = .ok (.lcmp, 1))
    (k : Wp G M d (pc + 1) L (.int (lg_cmp x y) :: st) σ mc ms Q) : Wp G M d pc L (.long y :: .long x :: st) σ mc ms Q := by
  intro p l e R s m args below meth c A ad0 cm sm QQ C h1 h2 hf ad ws ls cst H locs cells slots hat hc hs
  obtain ⟨a1, a2, a3, a4, a5, a6, a7, a8⟩ := hat
  obtain ⟨_, _, rfl, rfl, _, c3, rfl, rfl, a5⟩ := a5
  exact W.lcmp C.1 C.2.1 hd (k p l e R s m args below meth c A ad0 cm sm QQ C h1 h2 hf ad ws ls _ H locs cells slots ⟨a1, a2, a3, a4, ⟨_, _, rfl, rfl, a5⟩, a6, a7, a8⟩ hc hs)
theorem wp_iconst {n : Int} {v : Int32} (hd : decode M.2.1 pc = .ok (.iconst n, 1)) (hv : Int32.ofInt n = v)
    (k : Wp G M d (pc + 1) L (.int v :: st) σ mc ms Q) : Wp G M d pc L st σ mc ms Q := by
  intro p l e R s m args below meth c A ad0 cm sm QQ C h1 h2 hf ad ws ls cst H locs cells slots hat hc hs
  obtain ⟨a1, a2, a3, a4, a5, a6, a7, a8⟩ := hat
  exact lv_iconst C.1 C.2.1 hd hv (k p l e R s m args below meth c A ad0 cm sm QQ C h1 h2 hf ad ws ls _ H locs cells slots ⟨a1, a2, a3, a4, ⟨_, _, rfl, rfl, a5⟩, a6, a7, a8⟩ hc hs)
theorem wp_bipush {n : Int} {v : Int32} (hd : decode M.2.1 pc = .ok (.bipush n, 2)) (hv : (Int8.ofInt n).toInt32 = v)
    (k : Wp G M d (pc + 2) L (.int v :: st) σ mc ms Q) : Wp G M d pc L st σ mc ms Q := by
  intro p l e R s m args below meth c A ad0 cm sm QQ C h1 h2 hf ad ws ls cst H locs cells slots hat hc hs
  obtain ⟨a1, a2, a3, a4, a5, a6, a7, a8⟩ := hat
  exact lv_bipush C.1 C.2.1 hd hv (k p l e R s m args below meth c A ad0 cm sm QQ C h1 h2 hf ad ws ls _ H locs cells slots ⟨a1, a2, a3, a4, ⟨_, _, rfl, rfl, a5⟩, a6, a7, a8⟩ hc hs)
theorem wp_sipush {n : Int} {v : Int32} (hd : decode M.2.1 pc = .ok (.sipush n, 3)) (hv : (Int16.ofInt n).toInt32 = v)
    (k : Wp G M d (pc + 3) L (.int v :: st) σ mc ms Q) : Wp G M d pc L st σ mc ms Q := by
  intro p l e R s m args below meth c A ad0 cm sm QQ C h1 h2 hf ad ws ls cst H locs cells slots hat hc hs
  obtain ⟨a1, a2, a3, a4, a5, a6, a7, a8⟩ := hat
  exact lv_sipush C.1 C.2.1 hd hv (k p l e R s m args below meth c A ad0 cm sm QQ C h1 h2 hf ad ws ls _ H locs cells slots ⟨a1, a2, a3, a4, ⟨_, _, rfl, rfl, a5⟩, a6, a7, a8⟩ hc hs)
theorem wp_ldc {v : Int32} {i : Nat} (hd : decode M.2.1 pc = .ok (.ldc i, 2)) (hw : Cond.constant M.1.cls i v ∈ lw_ok)
    (k : Wp G M d (pc + 2) L (.int v :: st) σ mc ms Q) : Wp G M d pc L st σ mc ms Q := by
  intro p l e R s m args below meth c A ad0 cm sm QQ C h1 h2 hf ad ws ls cst H locs cells slots hat hc hs
  obtain ⟨a1, a2, a3, a4, a5, a6, a7, a8⟩ := hat
  exact lv_ldc C.1 C.2.1 C.2.2.2.2.2.2.1 (C.2.2.2.2.2.2.2.1 _ hw) hd (k p l e R s m args below meth c A ad0 cm sm QQ C h1 h2 hf ad ws ls _ H locs cells slots ⟨a1, a2, a3, a4, ⟨_, _, rfl, rfl, a5⟩, a6, a7, a8⟩ hc hs)
theorem wp_ldcw {v : Int32} {i : Nat} (hd : decode M.2.1 pc = .ok (.ldc_w i, 3)) (hw : Cond.constant M.1.cls i v ∈ lw_ok)
    (k : Wp G M d (pc + 3) L (.int v :: st) σ mc ms Q) : Wp G M d pc L st σ mc ms Q := by
  intro p l e R s m args below meth c A ad0 cm sm QQ C h1 h2 hf ad ws ls cst H locs cells slots hat hc hs
  obtain ⟨a1, a2, a3, a4, a5, a6, a7, a8⟩ := hat
  exact lv_ldcw C.1 C.2.1 C.2.2.2.2.2.2.1 (C.2.2.2.2.2.2.2.1 _ hw) hd (k p l e R s m args below meth c A ad0 cm sm QQ C h1 h2 hf ad ws ls _ H locs cells slots ⟨a1, a2, a3, a4, ⟨_, _, rfl, rfl, a5⟩, a6, a7, a8⟩ hc hs)
theorem wp_null (hd : decode M.2.1 pc = .ok (.aconst_null, 1))
    (k : Wp G M d (pc + 1) L (.null :: st) σ mc ms Q) : Wp G M d pc L st σ mc ms Q := by
  intro p l e R s m args below meth c A ad0 cm sm QQ C h1 h2 hf ad ws ls cst H locs cells slots hat hc hs
  obtain ⟨a1, a2, a3, a4, a5, a6, a7, a8⟩ := hat
  exact lv_null C.1 C.2.1 hd (k p l e R s m args below meth c A ad0 cm sm QQ C h1 h2 hf ad ws ls _ H locs cells slots ⟨a1, a2, a3, a4, ⟨_, _, rfl, rfl, a5⟩, a6, a7, a8⟩ hc hs)
theorem wp_iload_n {i : Fin 4} {x : Int32} (hd : decode M.2.1 pc = .ok (.iload_n i, 1)) (hL : L[(i : Nat)]? = some (.int x))
    (k : Wp G M d (pc + 1) L (.int x :: st) σ mc ms Q) : Wp G M d pc L st σ mc ms Q := by
  intro p l e R s m args below meth c A ad0 cm sm QQ C h1 h2 hf ad ws ls cst H locs cells slots hat hc hs
  obtain ⟨a1, a2, a3, a4, a5, a6, a7, a8⟩ := hat
  obtain ⟨_, e1, rfl⟩ := a3.read hL rfl
  exact lv_iload_n C.1 C.2.1 hd rfl e1 (k p l e R s m args below meth c A ad0 cm sm QQ C h1 h2 hf ad ws ls _ H locs cells slots ⟨a1, a2, a3, a4, ⟨_, _, rfl, rfl, a5⟩, a6, a7, a8⟩ hc hs)
theorem wp_iload {i : Nat} {x : Int32} (hd : decode M.2.1 pc = .ok (.iload i, 2)) (hL : L[i]? = some (.int x))
    (k : Wp G M d (pc + 2) L (.int x :: st) σ mc ms Q) : Wp G M d pc L st σ mc ms Q := by
  intro p l e R s m args below meth c A ad0 cm sm QQ C h1 h2 hf ad ws ls cst H locs cells slots hat hc hs
  obtain ⟨a1, a2, a3, a4, a5, a6, a7, a8⟩ := hat
  obtain ⟨_, e1, rfl⟩ := a3.read hL rfl
  exact lv_iload C.1 C.2.1 hd e1 (k p l e R s m args below meth c A ad0 cm sm QQ C h1 h2 hf ad ws ls _ H locs cells slots ⟨a1, a2, a3, a4, ⟨_, _, rfl, rfl, a5⟩, a6, a7, a8⟩ hc hs)
/-- an abstract reference -/
def isR : Value → Bool
  | .ref _ => true
  | .float _ => true
  | .null => true
  | _ => false
theorem isR.cat {v : Value} (h : isR v = true) : v.category = 1 := by cases v <;> first | rfl | cases h
theorem isR.c {ad : List Nat} {v c : Value} (h : isR v = true) (hv : rV G ad v c) : c = .null ∨ ∃ q, c = .ref q := by
  cases v with
  | ref k => obtain ⟨q, -, e⟩ := hv; exact Or.inr ⟨q, e⟩
  | float r => exact Or.inr ⟨_, hv⟩
  | null => exact Or.inl hv
  | _ => cases h
theorem wp_aload_n {i : Fin 4} {v : Value} (hd : decode M.2.1 pc = .ok (.aload_n i, 1)) (hL : L[(i : Nat)]? = some v) (hv : isR v = true)
    (k : Wp G M d (pc + 1) L (v :: st) σ mc ms Q) : Wp G M d pc L st σ mc ms Q := by
  intro p l e R s m args below meth c A ad0 cm sm QQ C h1 h2 hf ad ws ls cst H locs cells slots hat hc hs
  obtain ⟨a1, a2, a3, a4, a5, a6, a7, a8⟩ := hat
  obtain ⟨c0, e1, e2⟩ := a3.read hL (isR.cat hv)
  rcases isR.c hv e2 with rfl | ⟨q, rfl⟩
  · exact lv_aload_nN C.1 C.2.1 hd rfl e1 (k p l e R s m args below meth c A ad0 cm sm QQ C h1 h2 hf ad ws ls _ H locs cells slots ⟨a1, a2, a3, a4, ⟨_, _, rfl, e2, a5⟩, a6, a7, a8⟩ hc hs)
  · exact lv_aload_n C.1 C.2.1 hd rfl e1 (k p l e R s m args below meth c A ad0 cm sm QQ C h1 h2 hf ad ws ls _ H locs cells slots ⟨a1, a2, a3, a4, ⟨_, _, rfl, e2, a5⟩, a6, a7, a8⟩ hc hs)
theorem wp_aload {i : Nat} {v : Value} (hd : decode M.2.1 pc = .ok (.aload i, 2)) (hL : L[i]? = some v) (hv : isR v = true)
    (k : Wp G M d (pc + 2) L (v :: st) σ mc ms Q) : Wp G M d pc L st σ mc ms Q := by
  intro p l e R s m args below meth c A ad0 cm sm QQ C h1 h2 hf ad ws ls cst H locs cells slots hat hc hs
  obtain ⟨a1, a2, a3, a4, a5, a6, a7, a8⟩ := hat
  obtain ⟨c0, e1, e2⟩ := a3.read hL (isR.cat hv)
  rcases isR.c hv e2 with rfl | ⟨q, rfl⟩
  · exact lv_aloadN C.1 C.2.1 hd e1 (k p l e R s m args below meth c A ad0 cm sm QQ C h1 h2 hf ad ws ls _ H locs cells slots ⟨a1, a2, a3, a4, ⟨_, _, rfl, e2, a5⟩, a6, a7, a8⟩ hc hs)
  · exact lv_aload C.1 C.2.1 hd e1 (k p l e R s m args below meth c A ad0 cm sm QQ C h1 h2 hf ad ws ls _ H locs cells slots ⟨a1, a2, a3, a4, ⟨_, _, rfl, e2, a5⟩, a6, a7, a8⟩ hc hs)
theorem wp_istore_n {i : Fin 4} {x : Int32} (hd : decode M.2.1 pc = .ok (.istore_n i, 1)) (hi : (i : Nat) < L.length)
    (k : Wp G M d (pc + 1) (L.set (i : Nat) (.int x)) st σ mc ms Q) : Wp G M d pc L (.int x :: st) σ mc ms Q := by
  intro p l e R s m args below meth c A ad0 cm sm QQ C h1 h2 hf ad ws ls cst H locs cells slots hat hc hs
  obtain ⟨a1, a2, a3, a4, a5, a6, a7, a8⟩ := hat
  obtain ⟨_, _, rfl, rfl, a5⟩ := a5
  obtain ⟨cl, b1, b2⟩ := a3
  refine lv_istore_n C.1 C.2.1 hd rfl b1 hi rfl (fun ls' hl' => ?_)
  exact k p l e R s m args below meth c A ad0 cm sm QQ C h1 h2 hf ad ws ls' _ H locs cells slots ⟨a1, a2, ⟨_, by rw [List.length_set]; exact hl', rL.store hi b2 (v := .int x) rfl⟩, by rw [List.length_set]; exact a4, a5, a6, a7, a8⟩ hc hs
theorem wp_istore {i : Nat} {x : Int32} (hd : decode M.2.1 pc = .ok (.istore i, 2)) (hi : i < L.length)
    (k : Wp G M d (pc + 2) (L.set i (.int x)) st σ mc ms Q) : Wp G M d pc L (.int x :: st) σ mc ms Q := by
  intro p l e R s m args below meth c A ad0 cm sm QQ C h1 h2 hf ad ws ls cst H locs cells slots hat hc hs
  obtain ⟨a1, a2, a3, a4, a5, a6, a7, a8⟩ := hat
  obtain ⟨_, _, rfl, rfl, a5⟩ := a5
  obtain ⟨cl, b1, b2⟩ := a3
  refine lv_istore C.1 C.2.1 hd b1 hi rfl (fun ls' hl' => ?_)
  exact k p l e R s m args below meth c A ad0 cm sm QQ C h1 h2 hf ad ws ls' _ H locs cells slots ⟨a1, a2, ⟨_, by rw [List.length_set]; exact hl', rL.store hi b2 (v := .int x) rfl⟩, by rw [List.length_set]; exact a4, a5, a6, a7, a8⟩ hc hs
theorem wp_astore_n {i : Fin 4} {v : Value} (hd : decode M.2.1 pc = .ok (.astore_n i, 1)) (hi : (i : Nat) < L.length) (hv : isR v = true)
    (k : Wp G M d (pc + 1) (L.set (i : Nat) v) st σ mc ms Q) : Wp G M d pc L (v :: st) σ mc ms Q := by
  intro p l e R s m args below meth c A ad0 cm sm QQ C h1 h2 hf ad ws ls cst H locs cells slots hat hc hs
  obtain ⟨a1, a2, a3, a4, a5, a6, a7, a8⟩ := hat
  obtain ⟨c0, _, rfl, e2, a5⟩ := a5
  obtain ⟨cl, b1, b2⟩ := a3
  rcases isR.c hv e2 with rfl | ⟨q, rfl⟩
  · refine lv_astore_nN C.1 C.2.1 hd rfl b1 hi rfl (fun ls' hl' => ?_)
    exact k p l e R s m args below meth c A ad0 cm sm QQ C h1 h2 hf ad ws ls' _ H locs cells slots ⟨a1, a2, ⟨_, by rw [List.length_set]; exact hl', rL.store hi b2 e2⟩, by rw [List.length_set]; exact a4, a5, a6, a7, a8⟩ hc hs
  · refine lv_astore_n C.1 C.2.1 hd rfl b1 hi rfl (fun ls' hl' => ?_)
    exact k p l e R s m args below meth c A ad0 cm sm QQ C h1 h2 hf ad ws ls' _ H locs cells slots ⟨a1, a2, ⟨_, by rw [List.length_set]; exact hl', rL.store hi b2 e2⟩, by rw [List.length_set]; exact a4, a5, a6, a7, a8⟩ hc hs
theorem wp_astore {i : Nat} {v : Value} (hd : decode M.2.1 pc = .ok (.astore i, 2)) (hi : i < L.length) (hv : isR v = true)
    (k : Wp G M d (pc + 2) (L.set i v) st σ mc ms Q) : Wp G M d pc L (v :: st) σ mc ms Q := by
  intro p l e R s m args below meth c A ad0 cm sm QQ C h1 h2 hf ad ws ls cst H locs cells slots hat hc hs
  obtain ⟨a1, a2, a3, a4, a5, a6, a7, a8⟩ := hat
  obtain ⟨c0, _, rfl, e2, a5⟩ := a5
  obtain ⟨cl, b1, b2⟩ := a3
  rcases isR.c hv e2 with rfl | ⟨q, rfl⟩
  · refine lv_astoreN C.1 C.2.1 hd b1 hi rfl (fun ls' hl' => ?_)
    exact k p l e R s m args below meth c A ad0 cm sm QQ C h1 h2 hf ad ws ls' _ H locs cells slots ⟨a1, a2, ⟨_, by rw [List.length_set]; exact hl', rL.store hi b2 e2⟩, by rw [List.length_set]; exact a4, a5, a6, a7, a8⟩ hc hs
  · refine lv_astore C.1 C.2.1 hd b1 hi rfl (fun ls' hl' => ?_)
    exact k p l e R s m args below meth c A ad0 cm sm QQ C h1 h2 hf ad ws ls' _ H locs cells slots ⟨a1, a2, ⟨_, by rw [List.length_set]; exact hl', rL.store hi b2 e2⟩, by rw [List.length_set]; exact a4, a5, a6, a7, a8⟩ hc hs
theorem wp_iinc {i : Nat} {n : Int} {x v : Int32} (hd : decode M.2.1 pc = .ok (.iinc i n, 3)) (hL : L[i]? = some (.int x)) (hv : x + Int32.ofInt n = v)
    (k : Wp G M d (pc + 3) (L.set i (.int v)) st σ mc ms Q) : Wp G M d pc L st σ mc ms Q := by
  intro p l e R s m args below meth c A ad0 cm sm QQ C h1 h2 hf ad ws ls cst H locs cells slots hat hc hs
  obtain ⟨a1, a2, a3, a4, a5, a6, a7, a8⟩ := hat
  have hi : i < L.length := (List.getElem?_eq_some_iff.mp hL).1
  obtain ⟨cl, b1, b2⟩ := a3
  obtain ⟨c0, hm, e2⟩ := b2 i _ hL rfl
  cases e2
  obtain ⟨kk, hkk⟩ := List.getElem?_of_mem hm
  refine lv_iinc C.1 C.2.1 hd b1 hkk hv hi rfl (fun ls' hl' => ?_)
  exact k p l e R s m args below meth c A ad0 cm sm QQ C h1 h2 hf ad ws ls' _ H locs cells slots ⟨a1, a2, ⟨_, by rw [List.length_set]; exact hl', rL.store hi b2 (v := .int v) rfl⟩, by rw [List.length_set]; exact a4, a5, a6, a7, a8⟩ hc hs
theorem wp_dup {v : Value} (hd : decode M.2.1 pc = .ok (.dup, 1)) (hv : v.category = 1)
    (k : Wp G M d (pc + 1) L (v :: v :: st) σ mc ms Q) : Wp G M d pc L (v :: st) σ mc ms Q := by
  intro p l e R s m args below meth c A ad0 cm sm QQ C h1 h2 hf ad ws ls cst H locs cells slots hat hc hs
  obtain ⟨a1, a2, a3, a4, a5, a6, a7, a8⟩ := hat
  obtain ⟨c0, _, rfl, e2, a5⟩ := a5
  exact lv_dup C.1 C.2.1 hd (e2.cat.trans hv) (k p l e R s m args below meth c A ad0 cm sm QQ C h1 h2 hf ad ws ls _ H locs cells slots ⟨a1, a2, a3, a4, ⟨_, _, rfl, e2, _, _, rfl, e2, a5⟩, a6, a7, a8⟩ hc hs)
theorem wp_dup2 {v u : Value} (hd : decode M.2.1 pc = .ok (.dup2, 1)) (hv : v.category = 1) (hu : u.category = 1)
    (k : Wp G M d (pc + 1) L (v :: u :: v :: u :: st) σ mc ms Q) : Wp G M d pc L (v :: u :: st) σ mc ms Q := by
  intro p l e R s m args below meth c A ad0 cm sm QQ C h1 h2 hf ad ws ls cst H locs cells slots hat hc hs
  obtain ⟨a1, a2, a3, a4, a5, a6, a7, a8⟩ := hat
  obtain ⟨c0, _, rfl, e2, c1, _, rfl, e3, a5⟩ := a5
  exact lv_dup2_11 C.1 C.2.1 hd (e2.cat.trans hv) (e3.cat.trans hu) (k p l e R s m args below meth c A ad0 cm sm QQ C h1 h2 hf ad ws ls _ H locs cells slots ⟨a1, a2, a3, a4, ⟨_, _, rfl, e2, _, _, rfl, e3, _, _, rfl, e2, _, _, rfl, e3, a5⟩, a6, a7, a8⟩ hc hs)
theorem wp_goto {off : Int} {tgt : Nat} (hd : decode M.2.1 pc = .ok (.goto off, 3)) (ht : (pc : Int) + off = (tgt : Int))
    (k : Wp G M d tgt L st σ mc ms Q) : Wp G M d pc L st σ mc ms Q := by
  intro p l e R s m args below meth c A ad0 cm sm QQ C h1 h2 hf ad ws ls cst H locs cells slots hat hc hs
  obtain ⟨a1, a2, a3, a4, a5, a6, a7, a8⟩ := hat
  exact lv_goto C.1 C.2.1 hd ht (k p l e R s m args below meth c A ad0 cm sm QQ C h1 h2 hf ad ws ls _ H locs cells slots ⟨a1, a2, a3, a4, a5, a6, a7, a8⟩ hc hs)
theorem wp_if_eq {x : Int32} {off : Int} {tgt : Nat} (hd : decode M.2.1 pc = .ok (.ifCond .eq off, 3)) (ht : (pc : Int) + off = (tgt : Int))
    (kt : x = 0 → Wp G M d tgt L st σ mc ms Q) (kf : ¬ (x = 0) → Wp G M d (pc + 3) L st σ mc ms Q) : Wp G M d pc L (.int x :: st) σ mc ms Q := by
  intro p l e R s m args below meth c A ad0 cm sm QQ C h1 h2 hf ad ws ls cst H locs cells slots hat hc hs
  obtain ⟨a1, a2, a3, a4, a5, a6, a7, a8⟩ := hat
  obtain ⟨_, _, rfl, rfl, a5⟩ := a5
  refine lv_if_eq C.1 C.2.1 hd ht (fun q => kt (by first | exact q | simpa using q) p l e R s m args below meth c A ad0 cm sm QQ C h1 h2 hf ad ws ls _ H locs cells slots ⟨a1, a2, a3, a4, a5, a6, a7, a8⟩ hc hs) (fun q => kf (by first | exact q | simpa using q) p l e R s m args below meth c A ad0 cm sm QQ C h1 h2 hf ad ws ls _ H locs cells slots ⟨a1, a2, a3, a4, a5, a6, a7, a8⟩ hc hs)
theorem wp_if_ne {x : Int32} {off : Int} {tgt : Nat} (hd : decode M.2.1 pc = .ok (.ifCond .ne off, 3)) (ht : (pc : Int) + off = (tgt : Int))
    (kt : ¬ x = 0 → Wp G M d tgt L st σ mc ms Q) (kf : ¬ (¬ x = 0) → Wp G M d (pc + 3) L st σ mc ms Q) : Wp G M d pc L (.int x :: st) σ mc ms Q := by
  intro p l e R s m args below meth c A ad0 cm sm QQ C h1 h2 hf ad ws ls cst H locs cells slots hat hc hs
  obtain ⟨a1, a2, a3, a4, a5, a6, a7, a8⟩ := hat
  obtain ⟨_, _, rfl, rfl, a5⟩ := a5
  refine lv_if_ne C.1 C.2.1 hd ht (fun q => kt (by first | exact q | simpa using q) p l e R s m args below meth c A ad0 cm sm QQ C h1 h2 hf ad ws ls _ H locs cells slots ⟨a1, a2, a3, a4, a5, a6, a7, a8⟩ hc hs) (fun q => kf (by first | exact q | simpa using q) p l e R s m args below meth c A ad0 cm sm QQ C h1 h2 hf ad ws ls _ H locs cells slots ⟨a1, a2, a3, a4, a5, a6, a7, a8⟩ hc hs)
theorem wp_if_lt {x : Int32} {off : Int} {tgt : Nat} (hd : decode M.2.1 pc = .ok (.ifCond .lt off, 3)) (ht : (pc : Int) + off = (tgt : Int))
    (kt : x < 0 → Wp G M d tgt L st σ mc ms Q) (kf : ¬ (x < 0) → Wp G M d (pc + 3) L st σ mc ms Q) : Wp G M d pc L (.int x :: st) σ mc ms Q := by
  intro p l e R s m args below meth c A ad0 cm sm QQ C h1 h2 hf ad ws ls cst H locs cells slots hat hc hs
  obtain ⟨a1, a2, a3, a4, a5, a6, a7, a8⟩ := hat
  obtain ⟨_, _, rfl, rfl, a5⟩ := a5
  refine lv_if_lt C.1 C.2.1 hd ht (fun q => kt (by first | exact q | simpa using q) p l e R s m args below meth c A ad0 cm sm QQ C h1 h2 hf ad ws ls _ H locs cells slots ⟨a1, a2, a3, a4, a5, a6, a7, a8⟩ hc hs) (fun q => kf (by first | exact q | simpa using q) p l e R s m args below meth c A ad0 cm sm QQ C h1 h2 hf ad ws ls _ H locs cells slots ⟨a1, a2, a3, a4, a5, a6, a7, a8⟩ hc hs)
theorem wp_if_ge {x : Int32} {off : Int} {tgt : Nat} (hd : decode M.2.1 pc = .ok (.ifCond .ge off, 3)) (ht : (pc : Int) + off = (tgt : Int))
    (kt : 0 ≤ x → Wp G M d tgt L st σ mc ms Q) (kf : ¬ (0 ≤ x) → Wp G M d (pc + 3) L st σ mc ms Q) : Wp G M d pc L (.int x :: st) σ mc ms Q := by
  intro p l e R s m args below meth c A ad0 cm sm QQ C h1 h2 hf ad ws ls cst H locs cells slots hat hc hs
  obtain ⟨a1, a2, a3, a4, a5, a6, a7, a8⟩ := hat
  obtain ⟨_, _, rfl, rfl, a5⟩ := a5
  refine lv_if_ge C.1 C.2.1 hd ht (fun q => kt (by first | exact q | simpa using q) p l e R s m args below meth c A ad0 cm sm QQ C h1 h2 hf ad ws ls _ H locs cells slots ⟨a1, a2, a3, a4, a5, a6, a7, a8⟩ hc hs) (fun q => kf (by first | exact q | simpa using q) p l e R s m args below meth c A ad0 cm sm QQ C h1 h2 hf ad ws ls _ H locs cells slots ⟨a1, a2, a3, a4, a5, a6, a7, a8⟩ hc hs)
theorem wp_if_gt {x : Int32} {off : Int} {tgt : Nat} (hd : decode M.2.1 pc = .ok (.ifCond .gt off, 3)) (ht : (pc : Int) + off = (tgt : Int))
    (kt : 0 < x → Wp G M d tgt L st σ mc ms Q) (kf : ¬ (0 < x) → Wp G M d (pc + 3) L st σ mc ms Q) : Wp G M d pc L (.int x :: st) σ mc ms Q := by
  intro p l e R s m args below meth c A ad0 cm sm QQ C h1 h2 hf ad ws ls cst H locs cells slots hat hc hs
  obtain ⟨a1, a2, a3, a4, a5, a6, a7, a8⟩ := hat
  obtain ⟨_, _, rfl, rfl, a5⟩ := a5
  refine lv_if_gt C.1 C.2.1 hd ht (fun q => kt (by first | exact q | simpa using q) p l e R s m args below meth c A ad0 cm sm QQ C h1 h2 hf ad ws ls _ H locs cells slots ⟨a1, a2, a3, a4, a5, a6, a7, a8⟩ hc hs) (fun q => kf (by first | exact q | simpa using q) p l e R s m args below meth c A ad0 cm sm QQ C h1 h2 hf ad ws ls _ H locs cells slots ⟨a1, a2, a3, a4, a5, a6, a7, a8⟩ hc hs)
theorem wp_if_le {x : Int32} {off : Int} {tgt : Nat} (hd : decode M.2.1 pc = .ok (.ifCond .le off, 3)) (ht : (pc : Int) + off = (tgt : Int))
    (kt : x ≤ 0 → Wp G M d tgt L st σ mc ms Q) (kf : ¬ (x ≤ 0) → Wp G M d (pc + 3) L st σ mc ms Q) : Wp G M d pc L (.int x :: st) σ mc ms Q := by
  intro p l e R s m args below meth c A ad0 cm sm QQ C h1 h2 hf ad ws ls cst H locs cells slots hat hc hs
  obtain ⟨a1, a2, a3, a4, a5, a6, a7, a8⟩ := hat
  obtain ⟨_, _, rfl, rfl, a5⟩ := a5
  refine lv_if_le C.1 C.2.1 hd ht (fun q => kt (by first | exact q | simpa using q) p l e R s m args below meth c A ad0 cm sm QQ C h1 h2 hf ad ws ls _ H locs cells slots ⟨a1, a2, a3, a4, a5, a6, a7, a8⟩ hc hs) (fun q => kf (by first | exact q | simpa using q) p l e R s m args below meth c A ad0 cm sm QQ C h1 h2 hf ad ws ls _ H locs cells slots ⟨a1, a2, a3, a4, a5, a6, a7, a8⟩ hc hs)
theorem wp_icmp_eq {x y : Int32} {off : Int} {tgt : Nat} (hd : decode M.2.1 pc = .ok (.if_icmp .eq off, 3)) (ht : (pc : Int) + off = (tgt : Int))
    (kt : x = y → Wp G M d tgt L st σ mc ms Q) (kf : ¬ (x = y) → Wp G M d (pc + 3) L st σ mc ms Q) : Wp G M d pc L (.int y :: .int x :: st) σ mc ms Q := by
  intro p l e R s m args below meth c A ad0 cm sm QQ C h1 h2 hf ad ws ls cst H locs cells slots hat hc hs
  obtain ⟨a1, a2, a3, a4, a5, a6, a7, a8⟩ := hat
  obtain ⟨_, _, rfl, rfl, _, _, rfl, rfl, a5⟩ := a5
  refine lv_icmp_eq C.1 C.2.1 hd ht (fun q => kt (by first | exact q | simpa using q) p l e R s m args below meth c A ad0 cm sm QQ C h1 h2 hf ad ws ls _ H locs cells slots ⟨a1, a2, a3, a4, a5, a6, a7, a8⟩ hc hs) (fun q => kf (by first | exact q | simpa using q) p l e R s m args below meth c A ad0 cm sm QQ C h1 h2 hf ad ws ls _ H locs cells slots ⟨a1, a2, a3, a4, a5, a6, a7, a8⟩ hc hs)
theorem wp_icmp_ne {x y : Int32} {off : Int} {tgt : Nat} (hd : decode M.2.1 pc = .ok (.if_icmp .ne off, 3)) (ht : (pc : Int) + off = (tgt : Int))
    (kt : ¬ x = y → Wp G M d tgt L st σ mc ms Q) (kf : ¬ (¬ x = y) → Wp G M d (pc + 3) L st σ mc ms Q) : Wp G M d pc L (.int y :: .int x :: st) σ mc ms Q := by
  intro p l e R s m args below meth c A ad0 cm sm QQ C h1 h2 hf ad ws ls cst H locs cells slots hat hc hs
  obtain ⟨a1, a2, a3, a4, a5, a6, a7, a8⟩ := hat
  obtain ⟨_, _, rfl, rfl, _, _, rfl, rfl, a5⟩ := a5
  refine lv_icmp_ne C.1 C.2.1 hd ht (fun q => kt (by first | exact q | simpa using q) p l e R s m args below meth c A ad0 cm sm QQ C h1 h2 hf ad ws ls _ H locs cells slots ⟨a1, a2, a3, a4, a5, a6, a7, a8⟩ hc hs) (fun q => kf (by first | exact q | simpa using q) p l e R s m args below meth c A ad0 cm sm QQ C h1 h2 hf ad ws ls _ H locs cells slots ⟨a1, a2, a3, a4, a5, a6, a7, a8⟩ hc hs)
theorem wp_icmp_lt {x y : Int32} {off : Int} {tgt : Nat} (hd : decode M.2.1 pc = .ok (.if_icmp .lt off, 3)) (ht : (pc : Int) + off = (tgt : Int))
    (kt : x < y → Wp G M d tgt L st σ mc ms Q) (kf : ¬ (x < y) → Wp G M d (pc + 3) L st σ mc ms Q) : Wp G M d pc L (.int y :: .int x :: st) σ mc ms Q := by
  intro p l e R s m args below meth c A ad0 cm sm QQ C h1 h2 hf ad ws ls cst H locs cells slots hat hc hs
  obtain ⟨a1, a2, a3, a4, a5, a6, a7, a8⟩ := hat
  obtain ⟨_, _, rfl, rfl, _, _, rfl, rfl, a5⟩ := a5
  refine lv_icmp_lt C.1 C.2.1 hd ht (fun q => kt (by first | exact q | simpa using q) p l e R s m args below meth c A ad0 cm sm QQ C h1 h2 hf ad ws ls _ H locs cells slots ⟨a1, a2, a3, a4, a5, a6, a7, a8⟩ hc hs) (fun q => kf (by first | exact q | simpa using q) p l e R s m args below meth c A ad0 cm sm QQ C h1 h2 hf ad ws ls _ H locs cells slots ⟨a1, a2, a3, a4, a5, a6, a7, a8⟩ hc hs)
theorem wp_icmp_ge {x y : Int32} {off : Int} {tgt : Nat} (hd : decode M.2.1 pc = .ok (.if_icmp .ge off, 3)) (ht : (pc : Int) + off = (tgt : Int))
    (kt : y ≤ x → Wp G M d tgt L st σ mc ms Q) (kf : ¬ (y ≤ x) → Wp G M d (pc + 3) L st σ mc ms Q) : Wp G M d pc L (.int y :: .int x :: st) σ mc ms Q := by
  intro p l e R s m args below meth c A ad0 cm sm QQ C h1 h2 hf ad ws ls cst H locs cells slots hat hc hs
  obtain ⟨a1, a2, a3, a4, a5, a6, a7, a8⟩ := hat
  obtain ⟨_, _, rfl, rfl, _, _, rfl, rfl, a5⟩ := a5
  refine lv_icmp_ge C.1 C.2.1 hd ht (fun q => kt (by first | exact q | simpa using q) p l e R s m args below meth c A ad0 cm sm QQ C h1 h2 hf ad ws ls _ H locs cells slots ⟨a1, a2, a3, a4, a5, a6, a7, a8⟩ hc hs) (fun q => kf (by first | exact q | simpa using q) p l e R s m args below meth c A ad0 cm sm QQ C h1 h2 hf ad ws ls _ H locs cells slots ⟨a1, a2, a3, a4, a5, a6, a7, a8⟩ hc hs)
theorem wp_icmp_gt {x y : Int32} {off : Int} {tgt : Nat} (hd : decode M.2.1 pc = .ok (.if_icmp .gt off, 3)) (ht : (pc : Int) + off = (tgt : Int))
    (kt : y < x → Wp G M d tgt L st σ mc ms Q) (kf : ¬ (y < x) → Wp G M d (pc + 3) L st σ mc ms Q) : Wp G M d pc L (.int y :: .int x :: st) σ mc ms Q := by
  intro p l e R s m args below meth c A ad0 cm sm QQ C h1 h2 hf ad ws ls cst H locs cells slots hat hc hs
  obtain ⟨a1, a2, a3, a4, a5, a6, a7, a8⟩ := hat
  obtain ⟨_, _, rfl, rfl, _, _, rfl, rfl, a5⟩ := a5
  refine lv_icmp_gt C.1 C.2.1 hd ht (fun q => kt (by first | exact q | simpa using q) p l e R s m args below meth c A ad0 cm sm QQ C h1 h2 hf ad ws ls _ H locs cells slots ⟨a1, a2, a3, a4, a5, a6, a7, a8⟩ hc hs) (fun q => kf (by first | exact q | simpa using q) p l e R s m args below meth c A ad0 cm sm QQ C h1 h2 hf ad ws ls _ H locs cells slots ⟨a1, a2, a3, a4, a5, a6, a7, a8⟩ hc hs)
theorem wp_icmp_le {x y : Int32} {off : Int} {tgt : Nat} (hd : decode M.2.1 pc = .ok (.if_icmp .le off, 3)) (ht : (pc : Int) + off = (tgt : Int))
    (kt : x ≤ y → Wp G M d tgt L st σ mc ms Q) (kf : ¬ (x ≤ y) → Wp G M d (pc + 3) L st σ mc ms Q) : Wp G M d pc L (.int y :: .int x :: st) σ mc ms Q := by
  intro p l e R s m args below meth c A ad0 cm sm QQ C h1 h2 hf ad ws ls cst H locs cells slots hat hc hs
  obtain ⟨a1, a2, a3, a4, a5, a6, a7, a8⟩ := hat
  obtain ⟨_, _, rfl, rfl, _, _, rfl, rfl, a5⟩ := a5
  refine lv_icmp_le C.1 C.2.1 hd ht (fun q => kt (by first | exact q | simpa using q) p l e R s m args below meth c A ad0 cm sm QQ C h1 h2 hf ad ws ls _ H locs cells slots ⟨a1, a2, a3, a4, a5, a6, a7, a8⟩ hc hs) (fun q => kf (by first | exact q | simpa using q) p l e R s m args below meth c A ad0 cm sm QQ C h1 h2 hf ad ws ls _ H locs cells slots ⟨a1, a2, a3, a4, a5, a6, a7, a8⟩ hc hs)
theorem wp_tblIn {dflt lo hi : Int} {offs : Array Int} {len : Nat} {x : Int32} {off : Int} {tgt : Nat} (hd : decode M.2.1 pc = .ok (.tableswitch dflt lo hi offs, len)) (h1 : ¬ x.toInt < lo) (h2 : ¬ hi < x.toInt) (ho : offs[(x.toInt - lo).toNat]? = some off) (ht : (pc : Int) + off = (tgt : Int))
    (k : Wp G M d tgt L st σ mc ms Q) : Wp G M d pc L (.int x :: st) σ mc ms Q := by
  intro p l e R s m args below meth c A ad0 cm sm QQ C hh1 hh2 hf ad ws ls cst H locs cells slots hat hc hs
  obtain ⟨a1, a2, a3, a4, a5, a6, a7, a8⟩ := hat
  obtain ⟨_, _, rfl, rfl, a5⟩ := a5
  exact lv_tableIn C.1 C.2.1 hd h1 h2 ho ht (k p l e R s m args below meth c A ad0 cm sm QQ C hh1 hh2 hf ad ws ls _ H locs cells slots ⟨a1, a2, a3, a4, a5, a6, a7, a8⟩ hc hs)
theorem wp_tblOut {dflt lo hi : Int} {offs : Array Int} {len : Nat} {x : Int32} {tgt : Nat} (hd : decode M.2.1 pc = .ok (.tableswitch dflt lo hi offs, len)) (h : x.toInt < lo ∨ hi < x.toInt) (ht : (pc : Int) + dflt = (tgt : Int))
    (k : Wp G M d tgt L st σ mc ms Q) : Wp G M d pc L (.int x :: st) σ mc ms Q := by
  intro p l e R s m args below meth c A ad0 cm sm QQ C h1 h2 hf ad ws ls cst H locs cells slots hat hc hs
  obtain ⟨a1, a2, a3, a4, a5, a6, a7, a8⟩ := hat
  obtain ⟨_, _, rfl, rfl, a5⟩ := a5
  exact lv_tableOut C.1 C.2.1 hd h ht (k p l e R s m args below meth c A ad0 cm sm QQ C h1 h2 hf ad ws ls _ H locs cells slots ⟨a1, a2, a3, a4, a5, a6, a7, a8⟩ hc hs)
theorem wp_ifnull_n {off : Int} {tgt : Nat} (hd : decode M.2.1 pc = .ok (.ifnull off, 3)) (ht : (pc : Int) + off = (tgt : Int))
    (k : Wp G M d tgt L st σ mc ms Q) : Wp G M d pc L (.null :: st) σ mc ms Q := by
  intro p l e R s m args below meth c A ad0 cm sm QQ C h1 h2 hf ad ws ls cst H locs cells slots hat hc hs
  obtain ⟨a1, a2, a3, a4, a5, a6, a7, a8⟩ := hat
  obtain ⟨_, _, rfl, rfl, a5⟩ := a5
  exact lv_ifnullN C.1 C.2.1 hd ht (k p l e R s m args below meth c A ad0 cm sm QQ C h1 h2 hf ad ws ls _ H locs cells slots ⟨a1, a2, a3, a4, a5, a6, a7, a8⟩ hc hs)
theorem wp_ifnull_r {off : Int} {r : Nat} (hd : decode M.2.1 pc = .ok (.ifnull off, 3))
    (k : Wp G M d (pc + 3) L st σ mc ms Q) : Wp G M d pc L (.ref r :: st) σ mc ms Q := by
  intro p l e R s m args below meth c A ad0 cm sm QQ C h1 h2 hf ad ws ls cst H locs cells slots hat hc hs
  obtain ⟨a1, a2, a3, a4, a5, a6, a7, a8⟩ := hat
  obtain ⟨_, _, rfl, ⟨_, _, rfl⟩, a5⟩ := a5
  exact lv_ifnull C.1 C.2.1 hd (k p l e R s m args below meth c A ad0 cm sm QQ C h1 h2 hf ad ws ls _ H locs cells slots ⟨a1, a2, a3, a4, a5, a6, a7, a8⟩ hc hs)
theorem wp_ifnonnull_n {off : Int} (hd : decode M.2.1 pc = .ok (.ifnonnull off, 3))
    (k : Wp G M d (pc + 3) L st σ mc ms Q) : Wp G M d pc L (.null :: st) σ mc ms Q := by
  intro p l e R s m args below meth c A ad0 cm sm QQ C h1 h2 hf ad ws ls cst H locs cells slots hat hc hs
  obtain ⟨a1, a2, a3, a4, a5, a6, a7, a8⟩ := hat
  obtain ⟨_, _, rfl, rfl, a5⟩ := a5
  exact lv_ifnonnullN C.1 C.2.1 hd (k p l e R s m args below meth c A ad0 cm sm QQ C h1 h2 hf ad ws ls _ H locs cells slots ⟨a1, a2, a3, a4, a5, a6, a7, a8⟩ hc hs)
theorem wp_ifnonnull_r {off : Int} {tgt r : Nat} (hd : decode M.2.1 pc = .ok (.ifnonnull off, 3)) (ht : (pc : Int) + off = (tgt : Int))
    (k : Wp G M d tgt L st σ mc ms Q) : Wp G M d pc L (.ref r :: st) σ mc ms Q := by
  intro p l e R s m args below meth c A ad0 cm sm QQ C h1 h2 hf ad ws ls cst H locs cells slots hat hc hs
  obtain ⟨a1, a2, a3, a4, a5, a6, a7, a8⟩ := hat
  obtain ⟨_, _, rfl, ⟨_, _, rfl⟩, a5⟩ := a5
  exact lv_ifnonnull C.1 C.2.1 hd ht (k p l e R s m args below meth c A ad0 cm sm QQ C h1 h2 hf ad ws ls _ H locs cells slots ⟨a1, a2, a3, a4, a5, a6, a7, a8⟩ hc hs)
end WpRules
