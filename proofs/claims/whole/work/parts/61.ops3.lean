/-! the calls, on: persons, rows, images, plumbing -/
theorem op_person {N : Nat} (hN : 2000 ≤ N) : Op_person N Rel := by
  intro a1 a2 c m hR
  obtain ⟨hx, ⟨T, hT, ⟨P, a, p1, p2, p3⟩, hI⟩, hl, ht⟩ := id hR
  obtain ⟨hO, ⟨k, hk, k6, k7, kC⟩, hM⟩ := id hT
  have hkl := isT_lt hk
  have h5 := p2.2.2.2.2.1
  have hp := hO.1
  unfold wb_person mo_person
  rw [k6, ix_n (by omega), lt_e, ck_t (isTd_t hk)]
  rcases Classical.em (inR a1 T.1) with hi | hi
  · obtain ⟨q, hq, rfl⟩ := id hi
    rw [bd2_eq (td_has_t kC.1 hO.1 hi), if_neg (show ¬ (1 : Int32) = 0 by decide), bd2_eq (mo_isPerson_t hM.1 hO.1 hi), if_neg (show ¬ (1 : Int32) = 0 by decide), k6, ix_n (show k < 2 ^ 31 by omega), lt_e, lt_e]
    rcases in_both (N := N) (n := 2) (a := a2) c m (by omega) with ⟨hj, -, e2⟩ | ⟨hj, -, e2⟩
    · rw [bd2_eq (show mo_in N a2 0 2 m = _ from e2), if_neg (show ¬ (1 : Int32) = 0 by decide)]
      obtain ⟨b, hb, rfl⟩ := hj
      match b, hb with
      | 0, _ =>
        rw [if_pos (show nI 0 = 0 from rfl), if_pos (show nI 0 = 0 from rfl), ck_t (isTd_t hk), ck_t (inb_t (by omega) (by omega)), ix_n (by omega), lI 6, nA, ck_t (inb_t (by omega) (by omega)), ix_n (by omega), (kC.2.2.2 q hq).1, (hM.2.2.2 q hq).1]
        exact ⟨_, c, m, rfl, rfl, hR⟩
      | 1, _ =>
        rw [if_neg (show ¬ nI 1 = 0 by decide), if_neg (show ¬ nI 1 = 0 by decide), if_pos (show nI 1 = 1 from rfl), if_pos (show nI 1 = 1 from rfl), ck_t (isTd_t hk), ck_t (inb_t (by omega) (by omega)), ix_n (by omega), lI 12, nA, ck_t (inb_t (by omega) (by omega)), ix_n (by omega), (kC.2.2.2 q hq).2, (hM.2.2.2 q hq).2]
        exact ⟨_, c, m, rfl, rfl, hR⟩
      | 2, _ =>
        rw [if_neg (show ¬ nI 2 = 0 by decide), if_neg (show ¬ nI 2 = 0 by decide), if_neg (show ¬ nI 2 = 1 by decide), if_neg (show ¬ nI 2 = 1 by decide), if_pos (show nI 2 = 2 from rfl), bd2_eq (wb_span_eq p2), ck_t (isSp3 p2.1), bd2_eq (sp_share_eq (by omega) h5.1 h5.2 hp (by omega)), bd2_eq (mo_share_eq (by omega) p3.1 p1.2.1 hp (by omega))]
        exact ⟨_, c, m, rfl, rfl, hR⟩
    · rw [bd2_eq (show mo_in N a2 0 2 m = _ from e2), if_pos rfl, if_neg (show ¬ a2 = 0 from fun q => hj ⟨0, by omega, q⟩), if_neg (show ¬ a2 = 1 from fun q => hj ⟨1, by omega, q⟩), if_neg (show ¬ a2 = 2 from fun q => hj ⟨2, by omega, q⟩)]
      exact ⟨_, c, m, rfl, rfl, hR⟩
  · rw [bd2_eq (td_has_f kC.1 hO.1 hi), if_pos rfl, bd2_eq (mo_isPerson_f hM.1 hO.1 hi), if_pos rfl]
    exact ⟨_, c, m, rfl, rfl, hR⟩
theorem op_row {N : Nat} (hN : 2000 ≤ N) : Op_row N Rel := by
  intro a1 a2 c m hR
  obtain ⟨hx, ⟨T, hT, ⟨P, a, p1, p2, p3⟩, hI⟩, hl, ht⟩ := id hR
  have h5 := p2.2.2.2.2.1
  have hn := p1.2.1.1
  unfold wb_row mo_row
  rw [bd2_eq (wb_span_eq p2), ck_t (isSp3 p2.1)]
  rcases Classical.em (inR a1 (Rc.n P.1)) with hi | hi
  · obtain ⟨i, hq, rfl⟩ := id hi
    obtain ⟨g1, g2, g3⟩ := h5.1.2.2.2 i hq
    obtain ⟨f1, f2, f3⟩ := p3.1.2.2.2 i hq
    rw [bd2_eq (sp_has_t h5.1.1 hn hi), if_neg (show ¬ (1 : Int32) = 0 by decide), bd2_eq (mo_isRow_t p3.1.1 hn hi), if_neg (show ¬ (1 : Int32) = 0 by decide)]
    rcases in_both (N := N) (n := 3) (a := a2) c m (by omega) with ⟨hj, -, e2⟩ | ⟨hj, -, e2⟩
    · rw [bd2_eq (show mo_in N a2 0 3 m = _ from e2), if_neg (show ¬ (1 : Int32) = 0 by decide)]
      obtain ⟨b, hb, rfl⟩ := hj
      rw [lI 40, lI 3, nM, nA, nA]
      match b, hb with
      | 0, _ =>
        rw [if_pos (show nI 0 = 0 from rfl), if_neg (show ¬ nI 0 = nI 3 by decide), ck_t (inb_t (by omega) (by omega)), ix_n (by omega), ck_t (inb_t (by omega) (by omega)), ix_n (by omega), g1, show 3 + 40 * 0 + i = 3 + i by omega, f1]
        exact ⟨_, c, m, rfl, rfl, hR⟩
      | 1, _ =>
        rw [if_neg (show ¬ nI 1 = 0 by decide), if_pos (show nI 1 = 1 from rfl), if_neg (show ¬ nI 1 = nI 3 by decide), ck_t (inb_t (by omega) (by omega)), ix_n (by omega), ck_t (inb_t (by omega) (by omega)), ix_n (by omega), g2, show 3 + 40 * 1 + i = 43 + i by omega, f2]
        exact ⟨_, c, m, rfl, rfl, hR⟩
      | 2, _ =>
        rw [if_neg (show ¬ nI 2 = 0 by decide), if_neg (show ¬ nI 2 = 1 by decide), if_pos (show nI 2 = 2 from rfl), if_neg (show ¬ nI 2 = nI 3 by decide), ck_t (inb_t (by omega) (by omega)), ix_n (by omega), ck_t (inb_t (by omega) (by omega)), ix_n (by omega), g3, show 3 + 40 * 2 + i = 83 + i by omega, f3]
        exact ⟨_, c, m, rfl, rfl, hR⟩
      | 3, _ =>
        rw [if_neg (show ¬ nI 3 = 0 by decide), if_neg (show ¬ nI 3 = 1 by decide), if_neg (show ¬ nI 3 = 2 by decide), if_pos (show nI 3 = nI 3 from rfl), if_pos (show nI 3 = nI 3 from rfl), bd2_eq (sp_bears_eq h5.1 h5.2 hq), bd2_eq (mo_bears_eq p3.1 p1.2.1 hq)]
        exact ⟨_, c, m, rfl, rfl, hR⟩
    · rw [bd2_eq (show mo_in N a2 0 3 m = _ from e2), if_pos rfl, if_neg (show ¬ a2 = 0 from fun q => hj ⟨0, by omega, q⟩), if_neg (show ¬ a2 = 1 from fun q => hj ⟨1, by omega, q⟩), if_neg (show ¬ a2 = 2 from fun q => hj ⟨2, by omega, q⟩), if_neg (show ¬ a2 = 3 from fun q => hj ⟨3, by omega, q⟩)]
      exact ⟨_, c, m, rfl, rfl, hR⟩
  · rw [bd2_eq (sp_has_f h5.1.1 hn hi), if_pos rfl, bd2_eq (mo_isRow_f p3.1.1 hn hi), if_pos rfl]
    exact ⟨_, c, m, rfl, rfl, hR⟩
theorem put_k (σ : St) (k j j' : Nat) (v : Int32) : (put σ k j v).1 k j' = if j' = j then v else σ.1 k j' := by
  rw [put_at]
  by_cases e : j' = j
  · rw [if_pos ⟨rfl, e⟩, if_pos e]
  · rw [if_neg (fun q => e q.2), if_neg e]
theorem op_plumbs {N : Nat} : Op_plumbs N Rel := by
  intro a1 a2 c m hR
  obtain ⟨hx, ⟨T, hT, hP, hI⟩, hl, ht⟩ := id hR
  obtain ⟨q, u, v, l1, l2, l3, l4⟩ := hl
  unfold wb_plumbs mo_plumbs
  rcases in_both (N := N) (n := 39) (a := a1) c m (by omega) with ⟨hi, d1, d2⟩ | ⟨hi, d1, d2⟩
  · rw [bd2_eq (show wb_within N a1 0 39 c = _ from d1), if_neg (show ¬ (1 : Int32) = 0 by decide), bd2_eq (show mo_in N a1 0 39 m = _ from d2), if_neg (show ¬ (1 : Int32) = 0 by decide)]
    rcases in_both (N := N) (n := 9) (a := a2) c m (by omega) with ⟨hj, e1, e2⟩ | ⟨hj, e1, e2⟩
    · rw [bd2_eq (show wb_within N a2 0 9 c = _ from e1), if_neg (show ¬ (1 : Int32) = 0 by decide), bd2_eq (show mo_in N a2 0 9 m = _ from e2), if_neg (show ¬ (1 : Int32) = 0 by decide), l3]
      obtain ⟨i, hi', rfl⟩ := hi
      obtain ⟨j, hj', rfl⟩ := hj
      by_cases z : q = 6
      · have hA : pl_add N (nI i) (nI j) c = some (0, c) := by
          unfold pl_add
          rw [l2, lI 6, if_neg (nI_nlt (by omega) (by omega))]
        rw [bd2_eq hA, if_pos rfl, if_pos (by rw [z]; rfl)]
        exact ⟨_, c, m, rfl, rfl, hR⟩
      · let c1 := put c 120 q (nI i)
        let c2 := put c1 121 q (nI j)
        let c3 := put c2 119 2 (nI (q + 1))
        let m1 := put m 7 q (nI (10 * i + j))
        let m2 := put m1 0 9 (nI (q + 1))
        have g1 : c1.1 119 2 = nI q := (congrFun (put_o (by omega)) 2).trans l2
        have g2 : c2.1 119 2 = nI q := (congrFun (put_o (by omega)) 2).trans g1
        have g3 : c3.1 119 2 = nI (q + 1) := by show (put c2 119 2 _).1 119 2 = _; rw [put_at, if_pos ⟨rfl, rfl⟩]
        have f1 : m1.1 0 9 = nI q := (congrFun (put_o (by omega)) 9).trans l3
        have f2 : m2.1 0 9 = nI (q + 1) := by show (put m1 0 9 _).1 0 9 = _; rw [put_at, if_pos ⟨rfl, rfl⟩]
        have hA : pl_add N (nI i) (nI j) c = some (1, c3) := by
          unfold pl_add
          rw [l2, lI 6, if_pos (nI_lt (by omega) (by omega)), ck_t (inb_t (by omega) (by omega)), ix_n (by omega), lt_e]
          show ck (inb (c1.1 119 2) 6) (lt (put c1 121 (ix (c1.1 119 2)) (nI j)) _) = _
          rw [g1, ck_t (inb_t (by omega) (by omega)), ix_n (by omega), lt_e]
          show lt (put c2 119 2 (c2.1 119 2 + 1)) _ = _
          rw [g2, lI 1, nA, lt_e]
        have oc : ∀ k, k ≠ 119 → k ≠ 120 → k ≠ 121 → c3.1 k = c.1 k := fun k h1 h2 h3 => ((put_o h1).trans (put_o h3)).trans (put_o h2)
        have om : ∀ k, k ≠ 0 → k ≠ 7 → m2.1 k = m.1 k := fun k h1 h2 => (put_o h1).trans (put_o h2)
        have o2 : m2.1 0 2 = m.1 0 2 := by
          show (put m1 0 9 _).1 0 2 = _
          rw [put_at, if_neg (by omega)]
          exact congrFun (put_o (by omega)) 2
        rw [bd2_eq hA, if_neg (show ¬ (1 : Int32) = 0 by decide), if_neg (by rw [lI 6, nEQ (by omega) (by omega)]; exact z), ck_t (inb_t (by omega) (by omega)), ix_n (by omega), lI 10, nM, nA, lt_e]
        refine ⟨nI (q + 1), c3, m2, by rw [g3], ?_, hx.cong (by rw [oc 1 (by omega) (by omega) (by omega)]) (oc 2 (by omega) (by omega) (by omega)) o2 (om 1 (by omega) (by omega)), ⟨T, hT.cong (oc 0 (by omega) (by omega) (by omega)) (fun k h1 h2 => oc k (by omega) (by omega) (by omega)) (om 2 (by omega) (by omega)), hP.cong (fun k h1 h2 => oc k (by omega) (by omega) (by omega)) (om 4 (by omega) (by omega)), hI.cong (oc 118 (by omega) (by omega) (by omega)) (fun k h1 h2 => oc k (by omega) (by omega) (by omega)) (om 6 (by omega) (by omega)) (om 5 (by omega) (by omega))⟩, ⟨q + 1, fun k => if k = q then i else u k, fun k => if k = q then j else v k, by omega, g3, f2, fun k hk => ?_⟩, ht⟩
        · show lt (put m1 0 9 (m1.1 0 9 + 1)) _ = _
          rw [f1, lI 1, nA, lt_e]
          show some (m2.1 0 9, m2) = _
          rw [f2]
        · have w1 : c3.1 120 k = if k = q then nI i else c.1 120 k := (congrFun ((put_o (by omega)).trans (put_o (by omega))) k).trans (put_k _ _ _ _ _)
          have w4 : c1.1 121 k = c.1 121 k := congrFun (put_o (by omega)) k
          have w2 : c3.1 121 k = if k = q then nI j else c.1 121 k := ((congrFun (put_o (by omega)) k).trans (put_k _ _ _ _ _)).trans (by rw [w4])
          have w3 : m2.1 7 k = if k = q then nI (10 * i + j) else m.1 7 k := (congrFun (put_o (by omega)) k).trans (put_k _ _ _ _ _)
          rw [w1, w2, w3]
          show (if k = q then i else u k) < 40 ∧ (if k = q then j else v k) ≤ 9 ∧ _ = nI (if k = q then i else u k) ∧ _ = nI (if k = q then j else v k) ∧ _ = nI (10 * (if k = q then i else u k) + (if k = q then j else v k))
          by_cases e : k = q
          · simp only [if_pos e]
            exact ⟨by omega, by omega, trivial, trivial, trivial⟩
          · simp only [if_neg e]
            exact l4 k (by omega)
    · rw [bd2_eq (show wb_within N a2 0 9 c = _ from e1), if_pos rfl, bd2_eq (show mo_in N a2 0 9 m = _ from e2), if_pos rfl]
      exact ⟨_, c, m, rfl, rfl, hR⟩
  · rw [bd2_eq (show wb_within N a1 0 39 c = _ from d1), if_pos rfl, bd2_eq (show mo_in N a1 0 39 m = _ from d2), if_pos rfl]
    exact ⟨_, c, m, rfl, rfl, hR⟩
