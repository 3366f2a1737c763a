/-! toggle, become, undo, feed of the reference over the abstract state -/
theorem nbt_bit {nb : Nat → Nat} {p q : Nat} (hpq : p ≠ q) (x y : Nat) : (nbt nb p q x).testBit y = ((nb x).testBit y ^^ decide ((x = p ∧ y = q) ∨ (x = q ∧ y = p))) := by
  unfold nbt va_up
  by_cases h1 : x = q
  · subst h1
    rw [if_pos rfl, Nat.testBit_xor, Nat.testBit_two_pow]
    congr 1
    apply decide_eq_decide.mpr
    omega
  · rw [if_neg h1]
    by_cases h2 : x = p
    · subst h2
      rw [if_pos rfl, Nat.testBit_xor, Nat.testBit_two_pow]
      congr 1
      apply decide_eq_decide.mpr
      omega
    · rw [if_neg h2, decide_eq_false (by omega)]; simp
theorem nbt_netZ {n p q : Nat} {nb : Nat → Nat} (h : isNetZ n nb) (hp : p < n) (hq : q < n) (hpq : p ≠ q) : isNetZ n (nbt nb p q) := by
  refine ⟨⟨h.1.1, fun x hx => ?_, fun x hx => ?_, fun x y hx hy => ?_⟩, fun x hx => ?_⟩
  · have h2 : ∀ k, k < n → 2 ^ k < 2 ^ n := fun k hk => Nat.pow_lt_pow_right (by decide) hk
    unfold nbt va_up
    split
    · exact Nat.xor_lt_two_pow (h.1.2.1 q hq) (h2 p hp)
    · split
      · exact Nat.xor_lt_two_pow (h.1.2.1 p hp) (h2 q hq)
      · exact h.1.2.1 x hx
  · rw [nbt_bit hpq, h.1.2.2.1 x hx, decide_eq_false (by omega)]; rfl
  · rw [nbt_bit hpq, nbt_bit hpq, h.1.2.2.2 x y hx hy]
    congr 1
    apply decide_eq_decide.mpr
    omega
  · unfold nbt va_up
    rw [if_neg (by omega), if_neg (by omega)]; exact h.2 x hx
abbrev tgOk (n : Nat) (a b : Int32) : Prop := isP a n ∧ isP b n ∧ a ≠ b
noncomputable def Ab.togF (S : Ab) (a b : Int32) : Ab := @ite _ (tgOk S.n a b) (Classical.propDecidable _) (S.nnet S.n (nbt S.nb a.toNatClampNeg b.toNatClampNeg)) S
def aTog (S : Ab) (a1 a2 : Int32) : Int32 := atP a1 S.n (fun p => atP a2 S.n (fun q => if p = q then -1 else bI ((nbt S.nb p q p).testBit q = true)) (-1)) (-1)
def becZ (nb : Nat → Nat) (n w x : Nat) : Nat := if x < becN nb n w then becF nb n w x else 0
abbrev bcOk (n : Nat) (w : Int32) : Prop := isP w 3 ∧ 0 < n ∧ (w = nI 2 → n ≤ 4)
noncomputable def Ab.becomeF (S : Ab) (w : Int32) : Ab := @ite _ (bcOk S.n w) (Classical.propDecidable _) (S.nnet (becN S.nb S.n w.toNatClampNeg) (becZ S.nb S.n w.toNatClampNeg)) S
noncomputable def aBecome (S : Ab) (w : Int32) : Int32 := @ite _ (bcOk S.n w) (Classical.propDecidable _) (nI (becN S.nb S.n w.toNatClampNeg)) (-1)
def Ab.back (S : Ab) (r : Rec) : Ab := Ab.mk r.n r.nb r.sc S.td S.tp S.fk S.fp S.ps.dropLast
def Ab.undoF (S : Ab) : Ab := match S.ps.getLast? with
  | none => S
  | some r => S.back r
def aUndo (S : Ab) : Int32 := bI (S.ps.length ≠ 0)
section Acts2
variable {G : Gx} {d : Nat} {σ : Hp} {S : Ab} {m : Nat}
theorem zX12_toggle (hd : 2 ≤ d) (hV : AbV S) (hS : MSt S σ σ m) {a b : Int32} : Cl G mX12_toggle d [.ref m, .int a, .int b] σ 0 0 (pI fun z s => z = aTog S a b ∧ MSt (S.togF a b) σ s m) := by
  obtain ⟨α, B, hM, hQ⟩ := hS
  obtain ⟨q1, q2, q3, q4, q5, q6, q7, q8, q9, q10, q11, q12⟩ := id hQ
  have hn := hV.1.1.1
  have hw := net_lt hV.1
  obtain ⟨on, h46, hon⟩ := qS_on q11
  refine cl_post (eX12_toggle hd hM q1 hn q2 hw hV.2.2.2.2.1 q12.1 h46 hon) ?_
  rintro v s ⟨z, rfl, hz, ⟨hno, hM1⟩ | ⟨hyes, α1, B1, hM1, hf, hg, -, h2, h17, h18, h19, h21, h46b, h57, hb1, hK⟩⟩
  · have hf : frm [0] α (upd α 0 (nI 0)) := frm.rf.up (by decide)
    have hg : frm [] B B := frm.rf
    refine ⟨z, rfl, hz, ?_⟩
    rw [show S.togF a b = S from if_neg hno]
    exact ⟨_, _, hM1, MQ_same hQ hf hg (cgG q4 hf hg (by decide) (by decide))⟩
  · refine ⟨z, rfl, hz, ?_⟩
    rw [show S.togF a b = S.nnet S.n (nbt S.nb a.toNatClampNeg b.toNatClampNeg) from if_pos hyes]
    exact ⟨_, _, hM1, MQ_nnet hV hQ hf hg h2 hb1 h17 h18 h19 h21 h46b h57 hK⟩
theorem zX12_become (hd : 3 ≤ d) (hV : AbV S) (hS : MSt S σ σ m) {w : Int32} : Cl G mX12_become d [.ref m, .int w] σ 0 0 (pI fun z s => z = aBecome S w ∧ MSt (S.becomeF w) σ s m) := by
  obtain ⟨α, B, hM, hQ⟩ := hS
  obtain ⟨q1, q2, q3, q4, q5, q6, q7, q8, q9, q10, q11, q12⟩ := id hQ
  have hn := hV.1.1.1
  have hw := net_lt hV.1
  obtain ⟨on, h46, hon⟩ := qS_on q11
  by_cases hyes : bcOk S.n w
  · unfold aBecome Ab.becomeF
    rw [if_pos hyes, if_pos hyes]
    obtain ⟨h3, h0, h4⟩ := hyes
    obtain ⟨j, hj, rfl⟩ := isP_ofB h3
    rw [nI_clamp (by omega)]
    have key : Cl G mX12_become d [.ref m, .int (nI j)] σ 0 0 (pI fun r s => r = nI (becN S.nb S.n j) ∧ ∃ α1 B1, MA σ s m α1 B1 ∧ frm [0, 2, 17, 18, 19, 21, 24, 25, 46, 57] α α1 ∧ frm [1, 5, 6, 18, 19] B B1 ∧ α1 0 = nI 0 ∧ α1 2 = nI (becN S.nb S.n j) ∧ α1 17 = nI 0 ∧ α1 18 = nI 0 ∧ α1 19 = -1 ∧ α1 21 = nI 0 ∧ α1 46 = nI 0 ∧ α1 57 = nI (ka S.ps.length) ∧ (∀ x, x < becN S.nb S.n j → B1 1 x = nI ((becF S.nb S.n j) x)) ∧ KP B S.ps.length (rcd α B) B1) := by
      rcases (by omega : j = 0 ∨ j = 1 ∨ j = 2) with rfl | rfl | rfl
      · exact eX12_become0 hd hM q1 hn q2 hw q5 hV.2.2.2.2.1 q12.1 h46 hon h0
      · exact eX12_become1 hd hM q1 hn q2 hw q5 hV.2.2.2.2.1 q12.1 h46 hon h0
      · exact eX12_become2 hd hM q1 hn q2 hw q5 hV.2.2.2.2.1 q12.1 h46 hon h0 (h4 rfl)
    refine cl_post key ?_
    rintro v s ⟨z, rfl, hz, α1, B1, hM1, hf, hg, -, h2, h17, h18, h19, h21, h46b, h57, hb1, hK⟩
    exact ⟨z, rfl, hz, _, _, hM1, MQ_nnet hV hQ hf hg h2 (fun p hp => by unfold becZ; rw [if_pos hp]; exact hb1 p hp) h17 h18 h19 h21 h46b h57 hK⟩
  · unfold aBecome Ab.becomeF
    rw [if_neg hyes, if_neg hyes]
    refine cl_post (eX12_becomeN (by omega) hM q1 hn hyes) ?_
    rintro v s ⟨z, rfl, hz, hM1⟩
    have hf : frm [0] α (upd α 0 (nI 0)) := frm.rf.up (by decide)
    have hg : frm [] B B := frm.rf
    exact ⟨z, rfl, hz, _, _, hM1, MQ_same hQ hf hg (cgG q4 hf hg (by decide) (by decide))⟩
theorem netZ_ext {n : Nat} {nb nb2 : Nat → Nat} (h : isNetZ n nb) (h2 : isNetZ n nb2) (e : ∀ p, p < n → nb p = nb2 p) : nb = nb2 := funext fun p => by
  by_cases hp : p < n
  · exact e p hp
  · rw [h.2 p (by omega), h2.2 p (by omega)]
theorem undo_V (hV : AbV S) : AbV S.undoF := by
  unfold Ab.undoF
  cases h : S.ps.getLast? with
  | none => exact hV
  | some r =>
    have hr := hV.2.2.2.2.2 r (List.mem_of_getLast? h)
    exact ⟨hr.1, hr.2, hV.2.2.1, hV.2.2.2.1, by show S.ps.dropLast.length ≤ 12; rw [List.length_dropLast]; have := hV.2.2.2.2.1; omega, fun q hq => hV.2.2.2.2.2 q (List.dropLast_subset _ hq)⟩
theorem zX12_undo (hd : 1 ≤ d) (hV : AbV S) (hS : MSt S σ σ m) : Cl G mX12_undo d [.ref m] σ 0 0 (pI fun z s => z = aUndo S ∧ MSt S.undoF σ s m) := by
  obtain ⟨α, B, hM, hQ⟩ := hS
  obtain ⟨q1, q2, q3, q4, q5, q6, q7, q8, q9, q10, q11, q12⟩ := id hQ
  have hn := hV.1.1.1
  have hw := net_lt hV.1
  cases hl : S.ps.getLast? with
  | none =>
    have h0 : S.ps = [] := List.getLast?_eq_none_iff.mp hl
    refine cl_post (eX12_undo0 hd hM (by rw [q12.1, h0]; rfl)) ?_
    rintro v s ⟨z, rfl, hz, hM1⟩
    have hf : frm [0] α (upd α 0 (nI 0)) := frm.rf.up (by decide)
    have hg : frm [] B B := frm.rf
    refine ⟨z, rfl, by unfold aUndo; rw [h0]; exact hz, ?_⟩
    rw [show S.undoF = S from by unfold Ab.undoF; rw [hl]]
    exact ⟨_, _, hM1, MQ_same hQ hf hg (cgG q4 hf hg (by decide) (by decide))⟩
  | some r =>
    have hlr : S.ps[S.ps.length - 1]? = some r := by rw [← List.getLast?_eq_getElem?]; exact hl
    have hne : S.ps.length ≠ 0 := fun z => by rw [List.length_eq_zero_iff.mp z] at hl; cases hl
    have hr := hV.2.2.2.2.2 r (List.mem_of_getLast? hl)
    obtain ⟨k1, k2, k3⟩ := q12.2 _ r hlr
    refine cl_post (eX12_undo hd hM hV.2.2.2.2.1 q12.1 (by omega)) ?_
    rintro v s ⟨z, rfl, hz, α1, B1, hM1, hf, hg, -, h57, h2, hb1, h46, hsc, hal⟩
    refine ⟨z, rfl, by unfold aUndo; rw [hz, bI_t hne], ?_⟩
    rw [show S.undoF = S.back r from by unfold Ab.undoF; rw [hl]]
    have e2 : α1 2 = nI r.n := h2.trans k1
    have eb : ∀ p, p < r.n → B1 1 p = nI (r.nb p) := fun p hp => (hb1 p (by have := hr.1.1.1; omega)).trans (k2 p hp)
    have hsr : ScR (fun j => α1 (36 + j)) r.sc := by
      cases hs : r.sc with
      | none =>
        rw [hs] at k3
        have k3 : B 18 (20 * (S.ps.length - 1) + 10) = nI 0 := k3
        rw [k3, bI_f (by decide)] at h46
        exact h46
      | some sc =>
        rw [hs] at k3
        obtain ⟨k4, ⟨c1, c2, c3, c4, c5, c6, c7⟩, c8⟩ := k3
        rw [show B 18 (20 * (S.ps.length - 1) + 10) = nI 1 from k4, bI_t rfl] at h46
        exact ⟨h46, ⟨(hsc 11 (by decide) (by decide)).trans c1, (hsc 12 (by decide) (by decide)).trans c2, (hsc 13 (by decide) (by decide)).trans c3, (hsc 14 (by decide) (by decide)).trans c4, (hsc 15 (by decide) (by decide)).trans c5, (hsc 16 (by decide) (by decide)).trans c6, (hsc 17 (by decide) (by decide)).trans c7⟩, (hsc 18 (by decide) (by decide)).trans c8⟩
    have hP : α1 57 = nI S.ps.dropLast.length ∧ KL B1 S.ps.dropLast := by
      refine ⟨by rw [List.length_dropLast]; exact h57, fun i r2 h2 => ?_⟩
      rw [List.getElem?_dropLast] at h2
      by_cases hi : i < S.ps.length - 1
      · rw [if_pos hi] at h2
        have := q12.2 i r2 h2
        rw [show B1 18 = B 18 from hg 18 (by decide)]
        exact this
      · rw [if_neg hi] at h2; cases h2
    have hT : qT (S.back r) α1 B1 := cgT (A := S) q8 hf hg (by decide) (by decide)
    have hFf : qF (S.back r) α1 := cgFf (A := S) q9 hf (by decide)
    refine ⟨_, _, hM1, e2, eb, cgO q3 hg (by decide), ?_⟩
    have hcs : GOk α1 B1 r.nb r.n ∧ DisOk α1 B1 r.nb r.n ∧ SyOk α1 B1 r.nb r.n ∧ SwOk α1 B1 r.nb r.n := by
      rcases hal with ⟨x2, xb, x17, x18, x19, x21⟩ | ⟨x17, x18, x19, x21⟩
      · have en : r.n = S.n := by
          rw [e2, q1] at x2
          exact (nI_eq (by have := hr.1.1.1; omega) (by omega)).mp x2
        have enb : r.nb = S.nb := netZ_ext (n := r.n) hr.1 (by rw [en]; exact hV.1) (fun p hp => by
          have h1 := xb p (by have := hr.1.1.1; omega)
          rw [eb p hp, q2 p (by omega)] at h1
          exact (nI_eq (by have := net_lt hr.1 p; omega) (by have := hw p; omega)).mp h1)
        rw [en, enb]
        refine ⟨q4.cg2 x19 (hf 20 (by decide)) (hf 32 (by decide)) (hf 33 (by decide)) (hg 7 (by decide)) (hg 9 (by decide)) (hg 10 (by decide)) (hg 11 (by decide)) (hg 12 (by decide)), ?_, ?_, ?_⟩
        · unfold DisOk DR at q5 ⊢
          rw [x17, hf 24 (by decide), hf 25 (by decide), hg 5 (by decide), hg 6 (by decide)]
          exact q5
        · unfold SyOk at q6 ⊢
          rw [x18, hf 41 (by decide), hg 14 (by decide)]
          exact q6
        · unfold SwOk at q7 ⊢
          rw [x21, hf 45 (by decide), hg 17 (by decide)]
          exact q7
      · exact ⟨Or.inl x19, Or.inl x17, Or.inl x18, Or.inl x21⟩
    exact ⟨hcs.1, hcs.2.1, hcs.2.2.1, hcs.2.2.2, hT, hFf, cgW q10 hf (by decide), hsr, hP⟩
end Acts2
/-! bytes fed -/
def btN (v : Int32) (s : Nat) : Nat := ((v >>> (nI s &&& 31)).toBitVec &&& 255#32).toNat
theorem btN_lt (v : Int32) (s : Nat) : btN v s < 256 := by
  unfold btN
  rw [BitVec.toNat_and]
  exact Nat.lt_succ_of_le Nat.and_le_right
theorem btM_nI (v : Int32) (s : Nat) : btM v s = nI (btN v s) := by
  unfold btM btN
  apply Int32.toBitVec_inj.mp
  rw [Int32.toBitVec_and, show ∀ a, (nI a).toBitVec = BitVec.ofNat 32 a from fun _ => rfl, show ∀ a, (nI a).toBitVec = BitVec.ofNat 32 a from fun _ => rfl, BitVec.ofNat_toNat]
  simp
theorem btM_ush (v : Int32) {s : Nat} (hs : s ≤ 24) : (v.toUInt32 >>> ((nI s).toUInt32 &&& Int32.toUInt32 31)).toInt32 &&& nI 255 = nI (btN v s) := by
  rw [← btM_nI]
  have hk : ∀ j, j ≤ 24 → (((nI j).toUInt32 &&& Int32.toUInt32 31).toBitVec % 32).toNat = j ∧ ((nI j &&& 31 : Int32).toBitVec.smod 32).toNat = j := by decide
  obtain ⟨h1, h2⟩ := hk s hs
  unfold btM
  apply Int32.toBitVec_inj.mp
  rw [Int32.toBitVec_and, Int32.toBitVec_and]
  apply BitVec.eq_of_getLsbD_eq
  intro i hi
  rw [BitVec.getLsbD_and, BitVec.getLsbD_and]
  by_cases h8 : i < 8
  · have e1 : (v.toUInt32 >>> ((nI s).toUInt32 &&& Int32.toUInt32 31)).toInt32.toBitVec = v.toBitVec >>> s := by
      show v.toUInt32.toBitVec >>> ((((nI s).toUInt32 &&& Int32.toUInt32 31).toBitVec) % 32) = _
      rw [BitVec.ushiftRight_eq', h1]; rfl
    have e2 : (v >>> (nI s &&& 31)).toBitVec = v.toBitVec.sshiftRight s := by
      rw [Int32.toBitVec_shiftRight, BitVec.sshiftRight_eq', h2]
    rw [e1, e2, BitVec.getLsbD_ushiftRight, BitVec.getLsbD_sshiftRight, if_pos (by omega)]
    rw [decide_eq_false (by omega : ¬ 32 ≤ i)]
    rfl
  · have : (nI 255).toBitVec.getLsbD i = false := by
      rw [show (nI 255).toBitVec = 255#32 from rfl]
      have hk2 : ∀ j, j < 32 → ¬ j < 8 → (255#32).getLsbD j = false := by decide
      exact hk2 i hi h8
    rw [this, Bool.and_false, Bool.and_false]
def up4N (f : Nat → Nat) (t : Nat) (v : Int32) : Nat → Nat := va_up (va_up (va_up (va_up f t (btN v 24)) (t + 1) (btN v 16)) (t + 2) (btN v 8)) (t + 3) (btN v 0)
theorem up4N_lt {f : Nat → Nat} (h : ∀ k, f k < 256) (t : Nat) (v : Int32) (k : Nat) : up4N f t v k < 256 := by
  unfold up4N va_up
  split
  · exact btN_lt _ _
  · split
    · exact btN_lt _ _
    · split
      · exact btN_lt _ _
      · split
        · exact btN_lt _ _
        · exact h k
theorem up4_nI {F : Nat → Int32} {f : Nat → Nat} {t L : Nat} (h : ∀ k, k < t → F k = nI (f k)) (v : Int32) (hL : L = t + 4) : ∀ k, k < L → up4 F t v k = nI (up4N f t v k) := fun k hk => by
  unfold up4 up4N upd va_up
  simp only [btM_nI]
  by_cases h3 : k = t + 3
  · rw [if_pos h3, if_pos h3]
  · rw [if_neg h3, if_neg h3]
    by_cases h2 : k = t + 2
    · rw [if_pos h2, if_pos h2]
    · rw [if_neg h2, if_neg h2]
      by_cases h1 : k = t + 1
      · rw [if_pos h1, if_pos h1]
      · rw [if_neg h1, if_neg h1]
        by_cases h0 : k = t
        · rw [if_pos h0, if_pos h0]
        · rw [if_neg h0, if_neg h0]; exact h k (by omega)
def Ab.fed (S : Ab) (t : Nat) (tp : Nat → Nat) : Ab := Ab.mk S.n S.nb S.sc t tp S.fk S.fp S.ps
def fdT (f : Nat → Nat) (t : Nat) (a b c e g : Int32) : Nat → Nat := up4N (up4N (up4N (up4N (up4N f t a) (t + 4) b) (t + 8) c) (t + 12) e) (t + 16) g
def Ab.feedF (S : Ab) (a b c e g : Int32) : Ab := if 600 < S.td + 20 then S else S.fed (S.td + 20) (fdT S.tp S.td a b c e g)
def aFeed (S : Ab) : Int32 := if 600 < S.td + 20 then -1 else nI (S.td + 20)
theorem feed_V {S : Ab} (hV : AbV S) (a b c e g : Int32) : AbV (S.feedF a b c e g) := by
  unfold Ab.feedF
  by_cases h : 600 < S.td + 20
  · rw [if_pos h]; exact hV
  · rw [if_neg h]
    exact ⟨hV.1, hV.2.1, by show S.td + 20 ≤ 600; omega, fun k => up4N_lt (up4N_lt (up4N_lt (up4N_lt (up4N_lt hV.2.2.2.1 _ _) _ _) _ _) _ _) _ _ k, hV.2.2.2.2⟩
theorem zX12_feed {G : Gx} {d : Nat} {σ : Hp} {S : Ab} {m : Nat} (hd : 1 ≤ d) (hV : AbV S) (hS : MSt S σ σ m) {a b c e g : Int32} : Cl G mX12_feed d [.ref m, .int a, .int b, .int c, .int e, .int g] σ 0 0 (pI fun z s => z = aFeed S ∧ MSt (S.feedF a b c e g) σ s m) := by
  obtain ⟨α, B, hM, hQ⟩ := hS
  obtain ⟨q1, q2, q3, q4, q5, q6, q7, q8, q9, q10, q11, q12⟩ := id hQ
  refine cl_post (eX12_feed hd hM q8.1 hV.2.2.1) ?_
  rintro v s ⟨z, rfl, ⟨hno, hz, hM1⟩ | ⟨hyes, hz, α1, B1, hM1, hf, hg, -, h6, hb⟩⟩
  · have hf : frm [0] α (upd α 0 (nI 0)) := frm.rf.up (by decide)
    have hg : frm [] B B := frm.rf
    refine ⟨z, rfl, hz.trans (if_pos hno).symm, ?_⟩
    rw [show S.feedF a b c e g = S from if_pos hno]
    exact ⟨_, _, hM1, MQ_same hQ hf hg (cgG q4 hf hg (by decide) (by decide))⟩
  · have hno : ¬ 600 < S.td + 20 := by omega
    refine ⟨z, rfl, hz.trans (if_neg hno).symm, ?_⟩
    rw [show S.feedF a b c e g = S.fed (S.td + 20) (fdT S.tp S.td a b c e g) from if_neg hno]
    have hT : qT (S.fed (S.td + 20) (fdT S.tp S.td a b c e g)) α1 B1 := ⟨h6, fun k hk => by
      rw [hb]
      exact up4_nI (up4_nI (up4_nI (up4_nI (up4_nI q8.2 a rfl) b rfl) c rfl) e rfl) g rfl k hk⟩
    exact ⟨_, _, hM1, cgN q1 hf (by decide), cgB q2 hg (by decide), cgO q3 hg (by decide), cgG q4 hf hg (by decide) (by decide), cgD q5 hf hg (by decide) (by decide), cgY q6 hf hg (by decide) (by decide), cgSw q7 hf hg (by decide) (by decide), hT, cgFf (A := S) q9 hf (by decide), cgW q10 hf (by decide), cgS (A := S) q11 hf (by decide), cgP (A := S) q12 hf hg (by decide) (by decide)⟩
