abbrev atQ (Q : BQ) (j : Nat) : Nat := Q.1.getD j 0
def mnP (nb : Nat → Nat) (n h m s : Nat) (q : Nat → Nat) : Prop := PV nb n h m q ∧ stt nb n h q m = s ∧ ∀ q2, PV nb n h m q2 → stt nb n h q2 m = s → cdq q m ≤ cdq q2 m
def jA (nb : Nat → Nat) (n h r e0 nx e : Nat) (Q : BQ) : Prop := (1 ≤ r ∧ e0 ≤ nx ∧ nx ≤ e ∧ e ≤ Q.1.length ∧ QOk Q) ∧ (∀ m q, m < r → ¬ Lit nb n h m q) ∧ (∀ j z, e0 ≤ j → j < nx → STP nb 0 (rwO h (atQ Q j)) z → dif (atQ Q j % 512) (sdC z) ≠ 0)
def jB (nb : Nat → Nat) (n h r e0 e : Nat) (Q : BQ) : Prop := (∀ j, e0 ≤ j → j < e → ∃ c q, chn Q.2 (r - 1) (atQ Q j) c ∧ mnP nb n h (r - 1) (atQ Q j) q ∧ ∀ i, i ≤ r - 1 → stt nb n h q i = c i) ∧ (∀ j j2 q q2, e0 ≤ j → j < j2 → j2 < e → mnP nb n h (r - 1) (atQ Q j) q → mnP nb n h (r - 1) (atQ Q j2) q2 → cdq q (r - 1) < cdq q2 (r - 1)) ∧ (∀ m q, m ≤ r - 1 → PV nb n h m q → ∃ j, j < e ∧ atQ Q j = stt nb n h q m) ∧ ∀ j, j < e0 → ∃ m q, m < r - 1 ∧ PV nb n h m q ∧ stt nb n h q m = atQ Q j
def jC (nb : Nat → Nat) (n h e0 nx e : Nat) (Q : BQ) : Prop := (∃ pr : Nat → Nat, (∀ j, e ≤ j → j < Q.1.length → e0 ≤ pr j ∧ pr j < nx ∧ isS2 nb h (atQ Q (pr j)) (atQ Q j) ∧ Q.2 (atQ Q j) = some (some (atQ Q (pr j))) ∧ ∀ p, e0 ≤ p → p < pr j → ¬ isS2 nb h (atQ Q p) (atQ Q j)) ∧ ∀ j j2, e ≤ j → j < j2 → j2 < Q.1.length → pr j < pr j2 ∨ (pr j = pr j2 ∧ rwO h (atQ Q j) < rwO h (atQ Q j2))) ∧ ∀ p a, e0 ≤ p → p < nx → isS2 nb h (atQ Q p) a → a ∈ Q.1
def JS (nb : Nat → Nat) (n h : Nat) : SJ := fun r nx e Q => ∃ e0, jA nb n h r e0 nx e Q ∧ jB nb n h r e0 e Q ∧ jC nb n h e0 nx e Q
section Sw2
variable {nb : Nat → Nat} {n h : Nat}
theorem JS_good (hN : isNetZ n nb) (h1 : 1 ≤ h) (h2 : h ≤ 2) : sjG n (frN h) (frN (h + 1)) (JS nb n h) := by
  rintro r nx e Q - - ⟨e0, ⟨⟨-, a2, a3, a4, -⟩, -⟩, ⟨b1, -⟩, -⟩
  refine ⟨a3, a4, fun hlt => ?_⟩
  obtain ⟨c, q, hc, hm, -⟩ := b1 nx a2 hlt
  obtain ⟨q1, q2, q3⟩ := PV_on hN h1 h2 hm.1 (r - 1) (Nat.le_refl _)
  obtain ⟨s1, s2⟩ := stt_row hN (h := h) (q := q) (m := r - 1) q1
  rw [hm.2.1] at s1 s2
  have s1 : frN h + atQ Q nx / 512 = q (r - 1) := s1
  refine ⟨by rw [s1]; exact q2, by rw [s1]; exact q3, by rw [s2]; exact drk_lt hN q _, c, hc⟩
theorem getD_l {l l2 : List Nat} {j : Nat} (hj : j < l.length) : (l ++ l2).getD j 0 = l.getD j 0 := by
  rw [List.getD_eq_getElem?_getD, List.getD_eq_getElem?_getD, List.getElem?_append_left hj]
theorem getD_r {l l2 : List Nat} {j : Nat} (hj : l.length ≤ j) : (l ++ l2).getD j 0 = l2.getD (j - l.length) 0 := by
  rw [List.getD_eq_getElem?_getD, List.getD_eq_getElem?_getD, List.getElem?_append_right hj]
theorem chn_keep {ah ah2 : Nat → Option (Option Nat)} (hk : ∀ a, ah a ≠ none → ah2 a = ah a) {m s : Nat} {c : Nat → Nat} (hc : chn ah m s c) : chn ah2 m s c := ⟨hc.1, fun i hi => by rw [hk _ (by rw [hc.2.1 i hi]; intro z; cases z)]; exact hc.2.1 i hi, hc.2.2⟩
theorem JS_step (hN : isNetZ n nb) (hw : ∀ p, nb p < 512) (h1 : 1 ≤ h) (h2 : h ≤ 2) : sjS nb (frN h) (frN (h + 1)) (JS nb n h) := by
  intro r nx e Q hr1 hr2 hJ hlt hnone
  obtain ⟨-, -, hg⟩ := JS_good hN h1 h2 r nx e Q hr1 hr2 hJ
  obtain ⟨g1, g2, g3, -⟩ := hg hlt
  obtain ⟨e0, ⟨⟨a1, a2, a3, a4, a5⟩, a6, a7⟩, ⟨b1, b2, b3, b4⟩, ⟨pr, c1, c2⟩, c3⟩ := hJ
  have hsQ : atQ Q nx ∈ Q.1 := getD_mem (by omega)
  have hsl := ((a5.1 _).mp hsQ).1
  have hfl := (frN_le h h1 (by omega)).2.2
  rcases stl_ok hN hw h1 h2 hsl g1 g2 (Q := Q) (frN (h + 1) - frN h) (frN h) Q (by omega) (Nat.le_refl _) ⟨[], by simp, fun a _ => rfl, fun a ha => (by cases ha), List.Pairwise.nil, fun a ha hr => (by unfold rwO at hr; omega), a5⟩ (fun z hz hs => by have := (STP_on hN.1 h1 (by omega) (Nat.le_add_right _ _) g1 g2 hs).1; omega) with ⟨-, hI, hz⟩ | ⟨z, hz, -⟩
  · obtain ⟨N, n1, n2, n3, n4, n5, n6⟩ := hI
    generalize (stlG nb (frN h) (Q.1.getD nx 0) (frN (h + 1) - frN h) (frN h) Q).2 = Q2 at n1 n2 n3 n5 n6 ⊢
    have at1 : ∀ j, j < Q.1.length → atQ Q2 j = atQ Q j := fun j hj => by unfold atQ; rw [n1]; exact getD_l hj
    have at2 : ∀ j, Q.1.length ≤ j → j < Q2.1.length → atQ Q2 j ∈ N := fun j hj hj2 => by
      unfold atQ; rw [n1, getD_r hj]
      refine getD_mem ?_
      rw [n1, List.length_append] at hj2
      omega
    have hlen : Q2.1.length = Q.1.length + N.length := by rw [n1, List.length_append]
    refine ⟨e0, ⟨⟨a1, by omega, by omega, by omega, n6⟩, a6, fun j z hj hj2 hs => ?_⟩, ⟨fun j hj hj2 => ?_, fun j j2 q q2 hj hj2 hj3 => ?_, fun m q hm hp => ?_, fun j hj => ?_⟩, ⟨fun j => if j < Q.1.length then pr j else nx, fun j hj hj2 => ?_, fun j j2 hj hj2 hj3 => ?_⟩, fun p a hp hp2 hs => ?_⟩
    · rw [at1 j (by omega)] at hs ⊢
      by_cases ej : j = nx
      · subst ej; exact hz z hs
      · exact a7 j z hj (by omega) hs
    · obtain ⟨c, q, k1, k2, k3⟩ := b1 j hj hj2
      rw [at1 j (by omega)]
      exact ⟨c, q, chn_keep n2 k1, k2, k3⟩
    · rw [at1 j (by omega), at1 j2 (by omega)]
      exact b2 j j2 q q2 hj hj2 hj3
    · obtain ⟨j, k1, k2⟩ := b3 m q hm hp
      exact ⟨j, k1, by rw [at1 j (by omega)]; exact k2⟩
    · rw [at1 j (by omega)]; exact b4 j hj
    · dsimp only
      by_cases ej : j < Q.1.length
      · rw [if_pos ej, at1 j ej]
        obtain ⟨k1, k2, k3, k4, k5⟩ := c1 j hj ej
        rw [at1 _ (by omega)]
        refine ⟨k1, by omega, k3, by rw [n2 _ (by rw [k4]; intro z; cases z)]; exact k4, fun p hp hp2 => by rw [at1 p (by omega)]; exact k5 p hp hp2⟩
      · rw [if_neg ej, at1 nx (by omega)]
        obtain ⟨m1, m2, m3, m4⟩ := n3 _ (at2 j (by omega) hj2)
        refine ⟨a2, by omega, m1, m4, fun p hp hp2 hs => ?_⟩
        rw [at1 p (by omega)] at hs
        exact m3 (c3 p _ hp hp2 hs)
    · dsimp only
      by_cases ej : j < Q.1.length
      · by_cases ej2 : j2 < Q.1.length
        · rw [if_pos ej, if_pos ej2, at1 j ej, at1 j2 ej2]; exact c2 j j2 hj hj2 ej2
        · rw [if_pos ej, if_neg ej2]; exact Or.inl (c1 j hj ej).2.1
      · rw [if_neg ej, if_neg (by omega : ¬ j2 < Q.1.length)]
        refine Or.inr ⟨rfl, ?_⟩
        unfold atQ
        rw [n1, getD_r (by omega), getD_r (by omega)]
        have i1 : j - Q.1.length < N.length := by omega
        have i2 : j2 - Q.1.length < N.length := by omega
        have := List.pairwise_iff_getElem.mp n4 (j - Q.1.length) (j2 - Q.1.length) i1 i2 (by omega)
        rw [List.getD_eq_getElem?_getD, List.getElem?_eq_getElem i1, List.getD_eq_getElem?_getD, List.getElem?_eq_getElem i2]
        exact this
    · rw [at1 p (by omega)] at hs
      by_cases ep : p = nx
      · subst ep
        exact n5 a hs (STP_on hN.1 h1 (by omega) (Nat.le_add_right _ _) g1 g2 hs.1).2.1
      · rw [n1]; exact List.mem_append.mpr (Or.inl (c3 p a hp (by omega) hs))
  · rw [hnone] at hz; cases hz
theorem mem_at {Q : BQ} {a : Nat} (h : a ∈ Q.1) : ∃ j, j < Q.1.length ∧ atQ Q j = a := mem_getD h
theorem at_inj {Q : BQ} (hQ : QOk Q) {i j : Nat} (hi : i < Q.1.length) (hj : j < Q.1.length) (e : atQ Q i = atQ Q j) : i = j := by
  unfold atQ at e
  rw [List.getD_eq_getElem?_getD, List.getElem?_eq_getElem hi, List.getD_eq_getElem?_getD, List.getElem?_eq_getElem hj] at e
  have hp := List.pairwise_iff_getElem.mp hQ.2.1
  rcases Nat.lt_trichotomy i j with z | z | z
  · exact absurd e (hp i j hi hj z)
  · exact z
  · exact absurd e.symm (hp j i hj hi z)
/-- a way goes from state to state -/
theorem PV_S2 (hN : isNetZ n nb) (h1 : 1 ≤ h) (h2 : h ≤ 2) {m : Nat} {q : Nat → Nat} (hp : PV nb n h (m + 1) q) (h0 : drk nb n q (m + 1) ≠ 0) : isS2 nb h (stt nb n h q m) (stt nb n h q (m + 1)) := by
  obtain ⟨a1, -, -⟩ := PV_on hN h1 h2 hp m (by omega)
  obtain ⟨b1, -, -⟩ := PV_on hN h1 h2 hp (m + 1) (Nat.le_refl _)
  obtain ⟨r1, r2⟩ := stt_row hN (h := h) (q := q) (m := m) a1
  obtain ⟨s1, s2⟩ := stt_row hN (h := h) (q := q) (m := m + 1) b1
  refine ⟨by rw [r1, s1]; exact hp.2 m (by omega), ?_, by rw [r2, s1, s2]; rfl⟩
  rw [r2, s1]
  exact fun z => h0 ((nxd_0 hN (drk_lt hN q m)).mpr z)
theorem S2_PV (hN : isNetZ n nb) (h1 : 1 ≤ h) (h2 : h ≤ 2) {m a : Nat} {q : Nat → Nat} (hp : PV nb n h m q) (hs : isS2 nb h (stt nb n h q m) a) : PV nb n h (m + 1) (ext q m (rwO h a)) ∧ stt nb n h (ext q m (rwO h a)) (m + 1) = a := by
  obtain ⟨a1, a2, a3⟩ := PV_on hN h1 h2 hp m (Nat.le_refl _)
  obtain ⟨r1, r2⟩ := stt_row hN (h := h) (q := q) (m := m) a1
  obtain ⟨s1, s2, s3⟩ := hs
  rw [r1] at s1
  rw [r2] at s3
  refine ⟨PV_ext hp s1, ?_⟩
  unfold stt
  rw [ext_s, (drk_ext q m (rwO h a)).2, ← s3]
  unfold rwO
  omega
theorem JS_round (hN : isNetZ n nb) (h1 : 1 ≤ h) (h2 : h ≤ 2) : sjR (JS nb n h) := by
  rintro r e Q hr1 hr2 ⟨e0, ⟨⟨a1, a2, a3, a4, a5⟩, a6, a7⟩, ⟨b1, b2, b3, b4⟩, ⟨pr, c1, c2⟩, c3⟩
  -- all that is come to in fewer rounds lies in the first e
  have seen : ∀ j, j < e0 → ∀ a, isS2 nb h (atQ Q j) a → ∃ j2, j2 < e ∧ atQ Q j2 = a := fun j hj a hs => by
    obtain ⟨m, q, k1, k2, k3⟩ := b4 j hj
    rw [← k3] at hs
    obtain ⟨p1, p2⟩ := S2_PV hN h1 h2 k2 hs
    obtain ⟨j2, e1, e2⟩ := b3 (m + 1) _ (by omega) p1
    exact ⟨j2, e1, by rw [e2, p2]⟩
  have nolit : ∀ m q, m < r + 1 → ¬ Lit nb n h m q := fun m q hm hl => by
    by_cases em : m < r
    · exact a6 m q em hl
    · obtain ⟨m1, rfl⟩ : ∃ k, r = k + 1 := ⟨r - 1, by omega⟩
      have em2 : m = m1 + 1 := by omega
      subst em2
      obtain ⟨hp, h0⟩ := hl
      have hp1 := hp.le (Nat.le_succ m1)
      obtain ⟨q1, -, -⟩ := PV_on hN h1 h2 hp m1 (by omega)
      obtain ⟨s1, s2⟩ := stt_row hN (h := h) (q := q) (m := m1) q1
      have hz : dif (drk nb n q m1) (sdC (q (m1 + 1))) = 0 := (nxd_0 hN (drk_lt hN q m1)).mp h0
      obtain ⟨j, j1, j2⟩ := b3 m1 q (by omega) hp1
      rw [← j2] at s1 s2
      by_cases ej : j < e0
      · obtain ⟨m2, q2, k1, k2, k3⟩ := b4 j ej
        obtain ⟨w1, -, -⟩ := PV_on hN h1 h2 k2 m2 (Nat.le_refl _)
        obtain ⟨t1, t2⟩ := stt_row hN (h := h) (q := q2) (m := m2) w1
        rw [k3] at t1 t2
        refine a6 (m2 + 1) (ext q2 m2 (q (m1 + 1))) (by omega) ⟨PV_ext k2 (by rw [← t1, s1]; exact hp.2 m1 (by omega)), ?_⟩
        rw [(drk_ext q2 m2 _).2, ← t2, s2]
        exact (nxd_0 hN (drk_lt hN q m1)).mpr hz
      · exact a7 j (q (m1 + 1)) (by omega) j1 (by rw [s1]; exact hp.2 m1 (by omega)) (by rw [s2]; exact hz)
  refine ⟨e, ⟨⟨by omega, Nat.le_refl _, a4, Nat.le_refl _, a5⟩, nolit, fun j z hj hj2 => by omega⟩, ?_, ⟨fun _ => 0, fun j hj hj2 => by omega, fun j j2 hj hj2 hj3 => by omega⟩, fun p a hp hp2 => by omega⟩
  show jB nb n h (r + 1) e Q.1.length Q
  unfold jB
  rw [Nat.add_sub_cancel]
  obtain ⟨m1, rfl⟩ : ∃ k, r = k + 1 := ⟨r - 1, by omega⟩
  rw [Nat.add_sub_cancel] at b1 b2 b3 b4
  -- the least way to a new state is the least way to the state ahead of it, and a row more
  have least : ∀ j, e ≤ j → j < Q.1.length → ∃ q, mnP nb n h m1 (atQ Q (pr j)) q ∧ (∃ c, chn Q.2 m1 (atQ Q (pr j)) c ∧ ∀ i, i ≤ m1 → stt nb n h q i = c i) ∧ mnP nb n h (m1 + 1) (atQ Q j) (ext q m1 (rwO h (atQ Q j))) := fun j hj hj2 => by
    obtain ⟨k1, k2, k3, k4, k5⟩ := c1 j hj hj2
    obtain ⟨c, q, hc, hm, hcq⟩ := b1 (pr j) k1 k2
    have k3b := k3
    rw [← hm.2.1] at k3b
    obtain ⟨p1, p2⟩ := S2_PV hN h1 h2 hm.1 k3b
    refine ⟨q, hm, ⟨c, hc, hcq⟩, p1, p2, fun q2 hq2 hs2 => ?_⟩
    rw [cdq_ext]
    have hd0 : drk nb n q2 (m1 + 1) ≠ 0 := fun z => nolit (m1 + 1) q2 (by omega) ⟨hq2, z⟩
    have hS := PV_S2 hN h1 h2 hq2 hd0
    rw [hs2] at hS
    obtain ⟨w1, -, -⟩ := PV_on hN h1 h2 hq2 (m1 + 1) (Nat.le_refl _)
    have hrw : rwO h (atQ Q j) = q2 (m1 + 1) := by rw [← hs2]; exact (stt_row hN w1).1
    obtain ⟨j3, j4, j5⟩ := b3 m1 q2 (Nat.le_refl _) (hq2.le (Nat.le_succ _))
    rw [← j5] at hS
    by_cases ej : j3 < e0
    · obtain ⟨j6, j7, j8⟩ := seen j3 ej _ hS
      have := at_inj a5 (by omega) hj2 j8
      omega
    · rw [show cdq q2 (m1 + 1) = cdq q2 m1 * 219 + q2 (m1 + 1) from rfl, ← hrw]
      have hle : cdq q m1 ≤ cdq q2 m1 := by
        rcases Nat.lt_trichotomy j3 (pr j) with z | z | z
        · exact absurd hS (k5 j3 (by omega) z)
        · rw [← z] at hm
          exact hm.2.2 q2 (hq2.le (Nat.le_succ _)) j5.symm
        · obtain ⟨-, q3, -, hm3, -⟩ := b1 j3 (by omega) j4
          have := b2 (pr j) j3 q q3 k1 z j4 hm hm3
          have := hm3.2.2 q2 (hq2.le (Nat.le_succ _)) j5.symm
          omega
      have := Nat.mul_le_mul_right 219 hle
      omega
  refine ⟨fun j hj hj2 => ?_, fun j j2 q q2 hj hj2 hj3 hm hm2 => ?_, fun m q hm hp => ?_, fun j hj => ?_⟩
  · obtain ⟨q, hm, ⟨c, hc, hcq⟩, hm2⟩ := least j hj hj2
    obtain ⟨-, -, -, k4, -⟩ := c1 j hj hj2
    have hjl := ((a5.1 _).mp (getD_mem (l := Q.1) (i := j) hj2)).1
    refine ⟨ext c m1 (atQ Q j), ext q m1 (rwO h (atQ Q j)), ⟨ext_s, fun i hi => ?_, fun i hi => ?_⟩, hm2, fun i hi => ?_⟩
    · by_cases ei : i = m1
      · subst ei; rw [ext_s, ext_le (Nat.le_refl _), hc.1]; exact k4
      · rw [ext_le (by omega), ext_le (by omega)]; exact hc.2.1 i (by omega)
    · by_cases ei : i ≤ m1
      · rw [ext_le ei]; exact hc.2.2 i ei
      · have : i = m1 + 1 := by omega
        subst this; rw [ext_s]; exact hjl
    · by_cases ei : i ≤ m1
      · rw [ext_le ei, stt_ext q ei]; exact hcq i ei
      · have : i = m1 + 1 := by omega
        subst this; rw [ext_s]; exact hm2.2.1
  · obtain ⟨qa, ha, -, ha2⟩ := least j hj (by omega)
    obtain ⟨qb, hb, -, hb2⟩ := least j2 (by omega) hj3
    have e1 : cdq q (m1 + 1) ≤ cdq qa m1 * 219 + rwO h (atQ Q j) := by rw [← cdq_ext]; exact hm.2.2 _ ha2.1 ha2.2.1
    have e2 : cdq qb m1 * 219 + rwO h (atQ Q j2) ≤ cdq q2 (m1 + 1) := by rw [← cdq_ext]; exact hb2.2.2 _ hm2.1 hm2.2.1
    have hr9 : rwO h (atQ Q j) < 219 := by
      have := (PV_on hN h1 h2 ha2.1 (m1 + 1) (Nat.le_refl _)).2.1
      rw [ext_s] at this
      have := (frN_le h h1 (by omega)).1
      omega
    rcases c2 j j2 hj hj2 hj3 with z | ⟨z1, z2⟩
    · have := b2 (pr j) (pr j2) qa qb (c1 j hj (by omega)).1 z (c1 j2 (by omega) hj3).2.1 ha hb
      omega
    · rw [z1] at ha
      have := ha.2.2 qb hb.1 hb.2.1
      have := hb.2.2 qa ha.1 ha.2.1
      omega
  · by_cases em : m ≤ m1
    · obtain ⟨j, j1, j2⟩ := b3 m q em hp
      exact ⟨j, by omega, j2⟩
    · have em : m = m1 + 1 := by omega
      subst em
      have hd0 : drk nb n q (m1 + 1) ≠ 0 := fun z => nolit (m1 + 1) q (by omega) ⟨hp, z⟩
      have hS := PV_S2 hN h1 h2 hp hd0
      obtain ⟨j, j1, j2⟩ := b3 m1 q (Nat.le_refl _) (hp.le (Nat.le_succ _))
      rw [← j2] at hS
      by_cases ej : j < e0
      · obtain ⟨j3, j4, j5⟩ := seen j ej _ hS
        exact ⟨j3, by omega, j5⟩
      · exact mem_at (c3 j _ (by omega) j1 hS)
  · by_cases ej : j < e0
    · obtain ⟨m, q, k1, k2⟩ := b4 j ej
      exact ⟨m, q, by omega, k2⟩
    · obtain ⟨-, q, -, hm, -⟩ := b1 j (by omega) hj
      exact ⟨m1, q, by omega, hm.1, hm.2.1⟩
theorem chn_u {ah : Nat → Option (Option Nat)} {m s : Nat} {c c2 : Nat → Nat} (h : chn ah m s c) (h2 : chn ah m s c2) : ∀ i, i ≤ m → c i = c2 i := by
  have : ∀ k, k ≤ m → c (m - k) = c2 (m - k) := by
    intro k
    induction k with
    | zero => intro _; rw [Nat.sub_zero, h.1, h2.1]
    | succ k ih =>
      intro hk
      have e := ih (by omega)
      have a := h.2.1 (m - (k + 1)) (by omega)
      have b := h2.2.1 (m - (k + 1)) (by omega)
      rw [show m - (k + 1) + 1 = m - k by omega] at a b
      rw [e, b] at a
      exact (Option.some.inj (Option.some.inj a)).symm
  intro i hi
  have := this (m - i) (by omega)
  rwa [show m - (m - i) = i by omega] at this
/-- what is found: a way in light, none shorter, none before it -/
def FdS (nb : Nat → Nat) (n h r y : Nat) (c : Nat → Nat) : Prop := (∀ m q, m < r → ¬ Lit nb n h m q) ∧ ∃ q, Lit nb n h r q ∧ (∀ i, i < r → q i = frN h + c i / 512) ∧ q r = y ∧ ∀ q2, Lit nb n h r q2 → cdq q r ≤ cdq q2 r
theorem JS_found (hN : isNetZ n nb) (hw : ∀ p, nb p < 512) (h1 : 1 ≤ h) (h2 : h ≤ 2) : sjF nb (frN h) (frN (h + 1)) (JS nb n h) (FdS nb n h) := by
  intro r nx e Q y c hr1 hr2 hJ hlt hy hc
  obtain ⟨-, -, hg⟩ := JS_good hN h1 h2 r nx e Q hr1 hr2 hJ
  obtain ⟨g1, g2, g3, -⟩ := hg hlt
  obtain ⟨e0, ⟨⟨a1, a2, a3, a4, a5⟩, a6, a7⟩, ⟨b1, b2, b3, b4⟩, -⟩ := hJ
  have hsl := ((a5.1 _).mp (getD_mem (l := Q.1) (i := nx) (by omega))).1
  have hfl := (frN_le h h1 (by omega)).2.2
  rcases stl_ok hN hw h1 h2 hsl g1 g2 (Q := Q) (frN (h + 1) - frN h) (frN h) Q (by omega) (Nat.le_refl _) ⟨[], by simp, fun a _ => rfl, fun a ha => (by cases ha), List.Pairwise.nil, fun a ha hr => (by unfold rwO at hr; omega), a5⟩ (fun z hz hs => by have := (STP_on hN.1 h1 (by omega) (Nat.le_add_right _ _) g1 g2 hs).1; omega) with ⟨z, -, -⟩ | ⟨z, z1, z2, z3, z4⟩
  · rw [z] at hy; cases hy
  · rw [hy] at z1
    cases z1
    obtain ⟨m1, rfl⟩ : ∃ k, r = k + 1 := ⟨r - 1, by omega⟩
    rw [Nat.add_sub_cancel] at b1 b2 b3 b4 hc
    obtain ⟨c2, q, hc2, hm, hcq⟩ := b1 nx a2 hlt
    obtain ⟨w1, -, -⟩ := PV_on hN h1 h2 hm.1 m1 (Nat.le_refl _)
    obtain ⟨s1, s2⟩ := stt_row hN (h := h) (q := q) (m := m1) w1
    rw [hm.2.1] at s1 s2
    refine ⟨a6, ext q m1 y, ⟨PV_ext hm.1 (by rw [← s1]; exact z2), ?_⟩, fun i hi => ?_, ext_s, fun q2 hq2 => ?_⟩
    · rw [(drk_ext q m1 y).2, ← s2]
      exact (nxd_0 hN g3).mpr z3
    · rw [ext_le (by omega), chn_u hc hc2 i (by omega), ← hcq i (by omega)]
      obtain ⟨u1, -, -⟩ := PV_on hN h1 h2 hm.1 i (by omega)
      exact (stt_row hN u1).1.symm
    · rw [cdq_ext]
      obtain ⟨hp, h0⟩ := hq2
      have hz : dif (drk nb n q2 m1) (sdC (q2 (m1 + 1))) = 0 := (nxd_0 hN (drk_lt hN q2 m1)).mp h0
      obtain ⟨u1, -, -⟩ := PV_on hN h1 h2 hp m1 (by omega)
      obtain ⟨t1, t2⟩ := stt_row hN (h := h) (q := q2) (m := m1) u1
      obtain ⟨j, j1, j2⟩ := b3 m1 q2 (Nat.le_refl _) (hp.le (Nat.le_succ _))
      rw [← j2] at t1 t2
      have hy9 : y < 219 := by
        have := (STP_on hN.1 h1 (by omega) (Nat.le_add_right _ _) g1 g2 z2).2.1
        have := (frN_le h h1 (by omega)).1
        omega
      by_cases ej : j < e0
      · exfalso
        obtain ⟨m2, q3, k1, k2, k3⟩ := b4 j ej
        obtain ⟨v1, -, -⟩ := PV_on hN h1 h2 k2 m2 (Nat.le_refl _)
        obtain ⟨r1, r2⟩ := stt_row hN (h := h) (q := q3) (m := m2) v1
        rw [k3] at r1 r2
        refine a6 (m2 + 1) (ext q3 m2 (q2 (m1 + 1))) (by omega) ⟨PV_ext k2 (by rw [← r1, t1]; exact hp.2 m1 (by omega)), ?_⟩
        rw [(drk_ext q3 m2 _).2, ← r2, t2]
        exact (nxd_0 hN (drk_lt hN q2 m1)).mpr hz
      · show _ ≤ cdq q2 m1 * 219 + q2 (m1 + 1)
        rcases Nat.lt_trichotomy j nx with z | z | z
        · exact absurd (by rw [t2]; exact hz) (a7 j (q2 (m1 + 1)) (by omega) z (by rw [t1]; exact hp.2 m1 (by omega)))
        · subst z
          have e1 := hm.2.2 q2 (hp.le (Nat.le_succ _)) j2.symm
          have e2 : y ≤ q2 (m1 + 1) := Classical.byContradiction fun w => z4 (q2 (m1 + 1)) (by omega) (by have := hp.2 m1 (by omega); rw [← t1] at this; exact this) (by rw [← t2] at hz; exact hz)
          have := Nat.mul_le_mul_right 219 e1
          omega
        · obtain ⟨-, q3, -, hm3, -⟩ := b1 j (by omega) j1
          have e1 := b2 nx j q q3 a2 z j1 hm hm3
          have e2 := hm3.2.2 q2 (hp.le (Nat.le_succ _)) j2.symm
          omega
end Sw2
