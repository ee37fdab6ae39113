/-! the calls, on -/
theorem op_undo {N : Nat} (hN : 2000 ≤ N) : Op_undo N Rel := by
  intro c m hR
  obtain ⟨hx, ⟨T, hT, ⟨P, a, p1, p2, p3⟩, hI⟩, hl, ht⟩ := hR
  by_cases hk : P.2.1 = 0
  · refine ⟨-2, c, m, ?_, ?_, hx, ⟨T, hT, ⟨P, a, p1, p2, p3⟩, hI⟩, hl, ht⟩
    · unfold wb_undo
      rw [p2.2.2.1, hk, if_pos (show nI 0 = 0 from rfl)]
    · unfold mo_undo
      rw [ck_t b123, i123, p3.2.1, hk, if_pos (show nI 0 = 0 from rfl)]
  · obtain ⟨a', c1, s1, s2, s3⟩ := ps_stepBack_eq (N := N) p2 (by omega)
    obtain ⟨m1, u1, u2, u3⟩ := mo_undo_eq (N := N) hN p3 p1 (by omega)
    refine ⟨nI (P.2.1 - 1), c1, m1, ?_, u1, Rel.deed hx hT hI hl ht s2 u2 (popP_ok p1 (by omega)) s3 u3⟩
    unfold wb_undo
    rw [p2.2.2.1, if_neg (by rw [lI 0, nEQ (by have := p1.1; omega) (by omega)]; exact hk), bd1_eq s1, s3.2.2.1]
    rfl
theorem op_trace {N : Nat} : Op_trace N Rel := by
  intro c m hR
  exact ⟨c.2, c, m, rfl, by unfold mo_trace; rw [hR.2.2.2], hR⟩
theorem op_count {N : Nat} : Op_count N Rel := by
  intro a1 c m hR
  obtain ⟨hx, ⟨T, hT, ⟨P, a, p1, p2, p3⟩, hI⟩, hl, ht⟩ := id hR
  obtain ⟨hO, ⟨k, hk, k6, k7, kC⟩, hM⟩ := id hT
  have hkl := isT_lt hk
  obtain ⟨t, b, x1, x2, x3, x4⟩ := hx
  obtain ⟨q, u, v, l1, l2, l3, l4⟩ := hl
  unfold wb_count mo_count
  rw [k6, ix_n (by omega), lt_e, lt_e, lt_e, ck_t (isTd_t hk), ck_t (isTd_t hk), ck_t (isTd_t hk), ck_t d0, ck_t d1, ck_t d2, ck_t b123, i0, i1, i2, i123, kC.1, kC.2.1, kC.2.2.1, l2, p2.2.2.1, x2, hM.1, hM.2.1, hM.2.2.1, l3, p3.2.1, x3]
  by_cases c0 : a1 = 0
  · rw [if_pos c0, if_pos c0]; exact ⟨_, c, m, rfl, rfl, hR⟩
  rw [if_neg c0, if_neg c0]
  by_cases c1 : a1 = 1
  · rw [if_pos c1, if_pos c1]; exact ⟨_, c, m, rfl, rfl, hR⟩
  rw [if_neg c1, if_neg c1]
  by_cases c2 : a1 = 2
  · rw [if_pos c2, if_pos c2]; exact ⟨_, c, m, rfl, rfl, hR⟩
  rw [if_neg c2, if_neg c2]
  by_cases c3 : a1 = 3
  · rw [if_pos c3, if_pos c3]; exact ⟨_, c, m, rfl, rfl, hR⟩
  rw [if_neg c3, if_neg c3]
  by_cases c4 : a1 = 4
  · rw [if_pos c4, if_pos c4]; exact ⟨_, c, m, rfl, rfl, hR⟩
  rw [if_neg c4, if_neg c4]
  by_cases c5 : a1 = 5
  · rw [if_pos c5, if_pos c5]; exact ⟨_, c, m, rfl, rfl, hR⟩
  rw [if_neg c5, if_neg c5]
  exact ⟨_, c, m, rfl, rfl, hR⟩
theorem op_forget {N : Nat} : Op_forget N Rel := by
  intro c m hR
  obtain ⟨hx, ⟨T, hT, hP, hI⟩, hl, ht⟩ := hR
  obtain ⟨q, u, v, l1, l2, l3, l4⟩ := hl
  refine ⟨nI q, put c 119 2 0, put m 0 9 0, ?_, ?_, hx.cong ?_ ?_ ?_ ?_, ⟨T, hT.cong ?_ (fun q h1 h2 => put_o (by omega)) (put_o (by omega)), hP.cong (fun q h1 h2 => put_o (by omega)) (put_o (by omega)), hI.cong (put_o (by omega)) (fun q h1 h2 => put_o (by omega)) (put_o (by omega)) (put_o (by omega))⟩, ?_, ht⟩
  · unfold wb_forget pl_empty
    rw [lt_e, lt_e, l2]; rfl
  · unfold mo_forget
    rw [lt_e, lt_e, l3]
  · rw [put_o (by omega)]
  · exact put_o (by omega)
  · rw [put_at, if_neg (by omega)]
  · exact put_o (by omega)
  · exact put_o (by omega)
  · exact ⟨0, u, v, by omega, by rw [put_at, if_pos ⟨rfl, rfl⟩]; rfl, by rw [put_at, if_pos ⟨rfl, rfl⟩]; rfl, fun j hj => by omega⟩
theorem op_clear {N : Nat} : Op_clear N Rel := by
  intro c m hR
  obtain ⟨hx, ⟨T, hT, hP, hI⟩, hl, ht⟩ := hR
  obtain ⟨t, b, x1, x2, x3, x4⟩ := hx
  refine ⟨nI t, put c 1 1 0, put m 0 2 0, ?_, ?_, ?_, ⟨T, hT.cong (put_o (by omega)) (fun q h1 h2 => put_o (by omega)) (put_o (by omega)), hP.cong (fun q h1 h2 => put_o (by omega)) (put_o (by omega)), hI.cong (put_o (by omega)) (fun q h1 h2 => put_o (by omega)) (put_o (by omega)) (put_o (by omega))⟩, hl.cong ?_ ?_ ?_ ?_ ?_, ht⟩
  · unfold wb_clear tx_empty
    rw [lt_e, lt_e, x2]; rfl
  · unfold mo_clear
    rw [lt_e, lt_e, x3]
  · exact ⟨0, b, by omega, by rw [put_at, if_pos ⟨rfl, rfl⟩]; rfl, by rw [put_at, if_pos ⟨rfl, rfl⟩]; rfl, fun j hj => by omega⟩
  · rw [put_o (by omega)]
  · exact put_o (by omega)
  · exact put_o (by omega)
  · rw [put_at, if_neg (by omega)]
  · exact put_o (by omega)
/-- a test against the numbers 0 .. n -/
theorem in_const {N n : Nat} {a : Int32} {m : St} (hn : n < 2 ^ 30) : (inR a (n + 1) ∧ mo_in N a 0 (nI n) m = some (1, m)) ∨ (¬ inR a (n + 1) ∧ mo_in N a 0 (nI n) m = some (0, m)) := by
  rcases Classical.em (inR a (n + 1)) with h | h
  · refine Or.inl ⟨h, ?_⟩
    have := mo_inR_t (N := N) (m := m) (n := n + 1) (by omega) h
    rw [lI 1, nS (by omega)] at this
    exact this
  · refine Or.inr ⟨h, ?_⟩
    have := mo_inR_f (N := N) (m := m) (n := n + 1) (by omega) h
    rw [lI 1, nS (by omega)] at this
    exact this
theorem op_type {N : Nat} : Op_type N Rel := by
  intro a1 c m hR
  obtain ⟨hx, ⟨T, hT, hP, hI⟩, hl, ht⟩ := id hR
  obtain ⟨t, b, x1, x2, x3, x4⟩ := hx
  unfold wb_type mo_type
  rw [lI 255, wb_within_in]
  rcases in_const (N := N) (n := 255) (a := a1) (m := c) (by omega) with ⟨hi, h1⟩ | ⟨hi, h1⟩
  · have h2 : mo_in N a1 0 (nI 255) m = some (1, m) := by
      rcases in_const (N := N) (n := 255) (a := a1) (m := m) (by omega) with ⟨-, h⟩ | ⟨h, -⟩
      · exact h
      · exact absurd hi h
    obtain ⟨j, hj, rfl⟩ := hi
    rw [bd2_eq h1, if_neg (by decide), bd2_eq h2, if_neg (by decide), x3]
    by_cases q : t = 150
    · rw [if_pos (by rw [q]; rfl)]
      have hA : tx_add N (nI j) c = some (0, c) := by
        unfold tx_add
        rw [x2, lI 150, if_neg (nI_nlt (by omega) (by omega))]
      rw [bd2_eq hA, if_pos rfl]
      exact ⟨_, c, m, rfl, rfl, hR⟩
    · rw [if_neg (by rw [lI 150, nEQ (by omega) (by omega)]; exact q), ck_t (inb_t (by omega) (by omega)), ix_n (by omega), lt_e, lt_e]
      let c1 := put c 2 t (nI j)
      let c2 := put c1 1 1 (nI (t + 1))
      have g1 : c1.1 1 1 = nI t := by show (put c 2 t _).1 1 1 = _; rw [put_at, if_neg (by omega)]; exact x2
      have hA : tx_add N (nI j) c = some (1, c2) := by
        unfold tx_add
        rw [x2, lI 150, if_pos (nI_lt (by omega) (by omega)), ck_t (inb_t (by omega) (by omega)), ix_n (by omega), lt_e]
        show lt (put c1 1 1 (c1.1 1 1 + 1)) _ = _
        rw [g1, lI 1, nA, lt_e]
      let m1 := put m 1 t (nI j)
      let m2 := put m1 0 2 (nI (t + 1))
      have g2 : m1.1 0 2 = nI t := by show (put m 1 t _).1 0 2 = _; rw [put_at, if_neg (by omega)]; exact x3
      rw [bd2_eq hA, if_neg (by decide)]
      have e1 : c2.1 1 1 = nI (t + 1) := by show (put c1 1 1 _).1 1 1 = _; rw [put_at, if_pos ⟨rfl, rfl⟩]
      have e2 : m2.1 0 2 = nI (t + 1) := by show (put m1 0 2 _).1 0 2 = _; rw [put_at, if_pos ⟨rfl, rfl⟩]
      have oc : ∀ q, q ≠ 1 → q ≠ 2 → c2.1 q = c.1 q := fun q h1 h2 => (put_o h1).trans (put_o h2)
      have om : ∀ q, q ≠ 0 → q ≠ 1 → m2.1 q = m.1 q := fun q h1 h2 => (put_o h1).trans (put_o h2)
      refine ⟨nI (t + 1), c2, m2, by rw [e1], ?_, ⟨t + 1, fun i => if i = t then j else b i, by omega, e1, e2, fun i hi => ?_⟩, ⟨T, hT.cong (oc 0 (by omega) (by omega)) (fun q h1 h2 => oc q (by omega) (by omega)) (om 2 (by omega) (by omega)), hP.cong (fun q h1 h2 => oc q (by omega) (by omega)) (om 4 (by omega) (by omega)), hI.cong (oc 118 (by omega) (by omega)) (fun q h1 h2 => oc q (by omega) (by omega)) (om 6 (by omega) (by omega)) (om 5 (by omega) (by omega))⟩, hl.cong (by rw [oc 119 (by omega) (by omega)]) (oc 120 (by omega) (by omega)) (oc 121 (by omega) (by omega)) ?_ (om 7 (by omega) (by omega)), ht⟩
      · show some ((put m1 0 2 (m1.1 0 2 + 1)).1 0 2, put m1 0 2 (m1.1 0 2 + 1)) = _
        rw [g2, lI 1, nA]
        show some (m2.1 0 2, m2) = _
        rw [e2]
      · show (if i = t then j else b i) < 256 ∧ c2.1 2 i = nI (if i = t then j else b i) ∧ m2.1 1 i = nI (if i = t then j else b i)
        have q1 : c2.1 2 i = c1.1 2 i := congrFun (put_o (by omega)) i
        have q2 : m2.1 1 i = m1.1 1 i := congrFun (put_o (by omega)) i
        rw [q1, q2]
        show _ ∧ (put c 2 t _).1 2 i = _ ∧ (put m 1 t _).1 1 i = _
        by_cases e : i = t
        · rw [put_at, put_at, if_pos e, if_pos ⟨rfl, e⟩, if_pos ⟨rfl, e⟩]
          exact ⟨by omega, rfl, rfl⟩
        · rw [put_at, put_at, if_neg e, if_neg (fun q => e q.2), if_neg (fun q => e q.2)]
          exact x4 i (by omega)
      · show (put m1 0 2 _).1 0 9 = _
        rw [put_at, if_neg (by omega)]
        show (put m 1 t _).1 0 9 = _
        rw [put_at, if_neg (by omega)]
  · have h2 : mo_in N a1 0 (nI 255) m = some (0, m) := by
      rcases in_const (N := N) (n := 255) (a := a1) (m := m) (by omega) with ⟨h, -⟩ | ⟨-, h⟩
      · exact absurd h hi
      · exact h
    rw [bd2_eq h1, if_pos rfl, bd2_eq h2, if_pos rfl]
    exact ⟨_, c, m, rfl, rfl, hR⟩
theorem op_turnsBack {N : Nat} (hN : 2000 ≤ N) : Op_turnsBack N Rel := by
  intro c m hR
  obtain ⟨hx, ⟨T, hT, ⟨P, a, p1, p2, p3⟩, hI⟩, hl, ht⟩ := id hR
  have hO := hT.1
  have h5 := p2.2.2.2.2.1
  have hn := p1.2.1.1
  unfold wb_turnsBack mo_turnsBack
  rw [bd2_eq (wb_span_eq p2), ck_t (isSp3 p2.1), h5.1.1, ck_t b0, i0, p3.1.1]
  by_cases q : Rc.n P.1 = 0
  · rw [if_pos (by rw [q]; rfl), if_pos (by rw [q]; rfl)]
    exact ⟨_, c, m, rfl, rfl, hR⟩
  · have q0 : ¬ nI (Rc.n P.1) = 0 := by rw [lI 0, nEQ (by omega) (by omega)]; exact q
    rw [if_neg q0, if_neg q0]
    obtain ⟨a', c1, s1, s2, s3⟩ := ps_step_eq (N := N) (Or.inl rfl) p2
    have g5 := s3.2.2.2.2.1
    rw [pushP_n] at g5
    obtain ⟨c2, t1, t2, t3⟩ := sp_unravel_eq (N := N) (by omega) g5.1 g5.2 hO.1 (by omega)
    obtain ⟨m1, u1, u2, u3, u4⟩ := mo_keeps_eq (N := N) hN p3 p1
    have hr1 : RecIs (m1.1 4) P.1 := by have := u3.1; rw [pushP_n] at this; exact this
    have hL : ∀ (d x f : Nat) (z : St), d < f → d + x = Rc.n P.1 → z.1 4 0 = nI d → (∀ j, 0 < j → z.1 4 j = m1.1 4 j) → ∃ m', mo_turnsBack_L34 N (nI (Rc.w P.1 (Rc.n P.1 - 1))) f (nI x) z = some (nI (Rc.n P.1 - unrN (Rc.w P.1) (Rc.w P.1 (Rc.n P.1 - 1)) d), m') ∧ Fr4 z m' ∧ m'.1 4 0 = nI (unrN (Rc.w P.1) (Rc.w P.1 (Rc.n P.1 - 1)) d) ∧ ∀ j, 0 < j → m'.1 4 j = m1.1 4 j := by
      intro d
      induction d with
      | zero =>
        intro x f z hf hd h0 hz
        obtain ⟨f, rfl⟩ : ∃ g, f = g + 1 := ⟨f - 1, by omega⟩
        rw [mo_turnsBack_L34, ck_t b0, i0, h0, if_pos (by decide)]
        exact ⟨z, by rw [show x = Rc.n P.1 - unrN (Rc.w P.1) (Rc.w P.1 (Rc.n P.1 - 1)) 0 by show x = Rc.n P.1 - 0; omega], Fr4.rf, h0, hz⟩
      | succ d ih =>
        intro x f z hf hd h0 hz
        obtain ⟨f, rfl⟩ : ∃ g, f = g + 1 := ⟨f - 1, by omega⟩
        have w1 := (p1.2.1.2.2.2 d (by omega)).1
        have w2 := (p1.2.1.2.2.2 (Rc.n P.1 - 1) (by omega)).1
        have hT1 := hO.1
        rw [mo_turnsBack_L34, ck_t b0, i0, h0, if_neg (nI_nle (by omega) (by omega)), ck_t b0, lI 3, nA, lI 1, nS (by omega), ck_t (inb_t (by omega) (by omega)), ix_n (by omega), show 3 + (d + 1) - 1 = 3 + d by omega, hz _ (by omega), (hr1.2.2.2 d (by omega)).1, unrN]
        by_cases e : Rc.w P.1 d = Rc.w P.1 (Rc.n P.1 - 1)
        · rw [if_pos (by rw [e]), if_pos e, ck_t b0, ck_t b0, nS (by omega), lt_e, lt_e, nA, show d + 1 - 1 = d by omega]
          obtain ⟨m', k1, k2, k3, k4⟩ := ih (x + 1) f (put z 4 0 (nI d)) (by omega) (by omega) (by rw [put_at, if_pos ⟨rfl, rfl⟩]) (fun j hj => by rw [put_at, if_neg (by omega)]; exact hz j hj)
          exact ⟨m', k1, (Fr4.put (by omega)).tr k2, k3, k4⟩
        · rw [if_neg (by rw [nEQ (by omega) (by omega)]; exact e), if_neg e]
          exact ⟨z, by rw [show x = Rc.n P.1 - (d + 1) by omega], Fr4.rf, h0, hz⟩
    obtain ⟨m2, w1, w2, w3, w4⟩ := hL (Rc.n P.1) 0 N m1 (by omega) (by omega) hr1.1 (fun _ _ => rfl)
    have hok := unrR_ok p1.2.1
    have hle := unrN_le (Rc.w P.1) (Rc.w P.1 (Rc.n P.1 - 1)) (Rc.n P.1)
    have hrec : RecIs (m2.1 4) (unrR P.1) := ⟨w3, (w4 1 (by omega)).trans hr1.2.1, (w4 2 (by omega)).trans hr1.2.2.1, fun j hj => by
      have hj : j < unrN (Rc.w P.1) (Rc.w P.1 (Rc.n P.1 - 1)) (Rc.n P.1) := hj
      rw [w4 _ (by omega), w4 _ (by omega), w4 _ (by omega)]
      exact hr1.2.2.2 j (by omega)⟩
    rw [bd2_eq s1, ck_t (isSp3 s3.1), bd2_eq t1, bd1_eq u1, ck_t b0, hr1.1, lI 3, nA, lI 1, nS (by omega), ck_t (inb_t (by omega) (by omega)), ix_n (by omega), show 3 + Rc.n P.1 - 1 = 3 + (Rc.n P.1 - 1) by omega, (hr1.2.2.2 (Rc.n P.1 - 1) (by omega)).1, lt_e, lI 0, bd2_eq w1]
    exact ⟨_, c2, m2, rfl, rfl, Rel.deed hx hT hI hl ht (s2.tr (t2.toP s3.1)) (u2.tr w2.to5) (P := (unrR P.1, (pushP P).2)) ⟨(pushP_ok p1).1, hok, (pushP_ok p1).2.2⟩ (s3.now t2 t3 hok) (u3.now w2 hrec)⟩
