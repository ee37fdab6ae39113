/-! the calls, on: deeds -/
theorem op_drops {N : Nat} (hN : 2000 ≤ N) : Op_drops N Rel := by
  intro a1 c m hR
  obtain ⟨hx, ⟨T, hT, ⟨P, a, p1, p2, p3⟩, hI⟩, hl, ht⟩ := id hR
  have h5 := p2.2.2.2.2.1
  have hn := p1.2.1.1
  unfold wb_drops mo_drops
  rw [bd2_eq (wb_span_eq p2), ck_t (isSp3 p2.1)]
  rcases Classical.em (inR a1 (Rc.n P.1)) with hi | hi
  · obtain ⟨i, hq, rfl⟩ := id hi
    rw [bd2_eq (sp_has_t h5.1.1 hn hi), if_neg (by decide), bd2_eq (mo_isRow_t p3.1.1 hn hi), if_neg (by decide)]
    obtain ⟨a', c1, s1, s2, s3⟩ := ps_step_eq (N := N) (Or.inl rfl) p2
    have g5 := s3.2.2.2.2.1
    rw [pushP_n] at g5
    obtain ⟨c2, t1, t2, t3⟩ := sp_removeFrom_eq (N := N) (i := i) (m := 1) g5.1 g5.2 (by omega) (by omega)
    obtain ⟨m1, u1, u2, u3, u4⟩ := mo_keeps_eq (N := N) hN p3 p1
    have hr1 : RecIs (m1.1 4) P.1 := by have := u3.1; rw [pushP_n] at this; exact this
    obtain ⟨m2, w1, w2, w3⟩ := mo_goesAway_eq (N := N) (i := i) (by omega) hr1 hn hq
    have hok := remR_ok (i := i) (m := 1) p1.2.1 (by omega)
    rw [bd2_eq s1, ck_t (isSp3 s3.1), lI 1, bd1_eq t1, bd1_eq u1, bd1_eq w1, ck_t b0, i0, t3.1, w3.1]
    exact ⟨_, c2, m2, rfl, rfl, Rel.deed hx hT hI hl ht (s2.tr (t2.toP s3.1)) (u2.tr w2.to5) (P := (remR i 1 P.1, (pushP P).2)) ⟨(pushP_ok p1).1, hok, (pushP_ok p1).2.2⟩ (s3.now t2 t3 hok) (u3.now w2 w3)⟩
  · rw [bd2_eq (sp_has_f h5.1.1 hn hi), if_pos rfl, bd2_eq (mo_isRow_f p3.1.1 hn hi), if_pos rfl]
    exact ⟨_, c, m, rfl, rfl, hR⟩
theorem op_draws {N : Nat} (hN : 2000 ≤ N) : Op_draws N Rel := by
  intro a1 c m hR
  obtain ⟨hx, ⟨T, hT, ⟨P, a, p1, p2, p3⟩, hI⟩, hl, ht⟩ := id hR
  have h5 := p2.2.2.2.2.1
  have hn := p1.2.1.1
  unfold wb_draws mo_draws
  rw [bd2_eq (wb_span_eq p2), ck_t (isSp3 p2.1)]
  rcases Classical.em (inR a1 (Rc.n P.1)) with hi | hi
  · obtain ⟨i, hq, rfl⟩ := id hi
    have htb := (p1.2.1.2.2.2 i hq).2.1
    rw [bd2_eq (sp_has_t h5.1.1 hn hi), if_neg (by decide), bd2_eq (mo_isRow_t p3.1.1 hn hi), if_neg (by decide), bd2_eq (wb_span_eq p2), ck_t (isSp3 p2.1), ck_t (inb_t (by omega) (by omega)), ix_n (by omega), lI 43, nA, ck_t (inb_t (by omega) (by omega)), ix_n (by omega), (h5.1.2.2.2 i hq).2.1, (p3.1.2.2.2 i hq).2.1]
    by_cases z : Rc.t P.1 i = 0
    · rw [if_pos (by rw [z]; rfl), if_pos (by rw [z]; rfl)]
      exact ⟨_, c, m, rfl, rfl, hR⟩
    · have z0 : ¬ nI (Rc.t P.1 i) = 0 := by rw [lI 0, nEQ (by omega) (by omega)]; exact z
      rw [if_neg z0, if_neg z0]
      obtain ⟨a', c1, s1, s2, s3⟩ := ps_step_eq (N := N) (Or.inl rfl) p2
      have g5 := s3.2.2.2.2.1
      rw [pushP_n] at g5
      obtain ⟨m1, u1, u2, u3, u4⟩ := mo_keeps_eq (N := N) hN p3 p1
      have hr1 : RecIs (m1.1 4) P.1 := by have := u3.1; rw [pushP_n] at this; exact this
      have hok : RecOk T.1 (drawR i P.1) := drawR_ok p1.2.1
      let c2 := put c1 (spP 3 a' + 2) i (nI (Rc.t P.1 i - 1))
      let m2 := put m1 4 (43 + i) (nI (Rc.t P.1 i - 1))
      have t2 : FrS c1 c2 (spP 3 a') := FrS.put (by omega) (by omega)
      have w2 : Fr4 m1 m2 := Fr4.put (by omega)
      have t3 : SpanIs c2 (spP 3 a') (drawR i P.1) := by
        refine ⟨?_, ?_, ?_, fun j hj => ⟨?_, ?_, ?_⟩⟩
        · exact (congrFun (put_o (by omega)) 3).trans g5.1.1
        · exact (congrFun (put_o (by omega)) 4).trans g5.1.2.1
        · exact (congrFun (put_o (by omega)) 5).trans g5.1.2.2.1
        · exact (congrFun (put_o (by omega)) j).trans (g5.1.2.2.2 j hj).1
        · show (put c1 (spP 3 a' + 2) i _).1 (spP 3 a' + 2) j = nI (if j = i then Rc.t P.1 j - 1 else Rc.t P.1 j)
          rw [put_at]
          by_cases e : j = i
          · rw [if_pos ⟨rfl, e⟩, if_pos e, e]
          · rw [if_neg (fun q => e q.2), if_neg e]; exact (g5.1.2.2.2 j hj).2.1
        · exact (congrFun (put_o (by omega)) j).trans (g5.1.2.2.2 j hj).2.2
      have o4 : ∀ j, j ≠ 43 + i → m2.1 4 j = m1.1 4 j := fun j h => by show (put m1 4 _ _).1 4 j = _; rw [put_at, if_neg (fun q => h q.2)]
      have w3 : RecIs (m2.1 4) (drawR i P.1) := by
        refine ⟨(o4 _ (by omega)).trans hr1.1, (o4 _ (by omega)).trans hr1.2.1, (o4 _ (by omega)).trans hr1.2.2.1, fun j hj => ?_⟩
        have hj : j < Rc.n P.1 := hj
        refine ⟨(o4 _ (by omega)).trans (hr1.2.2.2 j hj).1, ?_, (o4 _ (by omega)).trans (hr1.2.2.2 j hj).2.2⟩
        show (put m1 4 (43 + i) _).1 4 (43 + j) = nI (if j = i then Rc.t P.1 j - 1 else Rc.t P.1 j)
        rw [put_at]
        by_cases e : j = i
        · rw [if_pos ⟨rfl, by omega⟩, if_pos e, e]
        · rw [if_neg (by omega), if_neg e]; exact (hr1.2.2.2 j hj).2.1
      rw [bd2_eq s1, ck_t (isSp3 s3.1), ck_t (inb_t (by omega) (by omega)), ck_t (inb_t (by omega) (by omega)), (g5.1.2.2.2 i hq).2.1, lI 1, nS (by omega), lt_e, bd2_eq (sp_bears_eq t3 hok hq), bd1_eq u1, ck_t (inb_t (by omega) (by omega)), ck_t (inb_t (by omega) (by omega)), (hr1.2.2.2 i hq).2.1, nS (by omega), lt_e, bd2_eq (mo_bears_eq w3 hok hq)]
      exact ⟨_, c2, m2, rfl, rfl, Rel.deed hx hT hI hl ht (s2.tr (t2.toP s3.1)) (u2.tr w2.to5) (P := (drawR i P.1, (pushP P).2)) ⟨(pushP_ok p1).1, hok, (pushP_ok p1).2.2⟩ (s3.now t2 t3 hok) (u3.now w2 w3)⟩
  · rw [bd2_eq (sp_has_f h5.1.1 hn hi), if_pos rfl, bd2_eq (mo_isRow_f p3.1.1 hn hi), if_pos rfl]
    exact ⟨_, c, m, rfl, rfl, hR⟩
/-- the same test on both sides -/
theorem in_both {N n : Nat} {a : Int32} (c m : St) (hn : n < 2 ^ 30) : (inR a (n + 1) ∧ wb_within N a 0 (nI n) c = some (1, c) ∧ mo_in N a 0 (nI n) m = some (1, m)) ∨ (¬ inR a (n + 1) ∧ wb_within N a 0 (nI n) c = some (0, c) ∧ mo_in N a 0 (nI n) m = some (0, m)) := by
  rcases in_const (N := N) (a := a) (m := c) hn with ⟨h, h1⟩ | ⟨h, h1⟩
  · rcases in_const (N := N) (a := a) (m := m) hn with ⟨h', h2⟩ | ⟨h', h2⟩
    · exact Or.inl ⟨h, h1, h2⟩
    · exact absurd h h'
  · rcases in_const (N := N) (a := a) (m := m) hn with ⟨h', h2⟩ | ⟨h', h2⟩
    · exact absurd h' h
    · exact Or.inr ⟨h, h1, h2⟩
theorem op_rains {N : Nat} (hN : 2000 ≤ N) : Op_rains N Rel := by
  intro a1 c m hR
  obtain ⟨hx, ⟨T, hT, ⟨P, a, p1, p2, p3⟩, hI⟩, hl, ht⟩ := id hR
  have h5 := p2.2.2.2.2.1
  have hn := p1.2.1.1
  have hrn := p1.2.1.2.1
  unfold wb_rains mo_rains
  rcases in_both (N := N) (n := 1) (a := a1) c m (by omega) with ⟨hi, e1, e2⟩ | ⟨hi, e1, e2⟩
  · rw [bd2_eq (show wb_within N a1 0 1 c = _ from e1), if_neg (show ¬ (1 : Int32) = 0 by decide), bd2_eq (show mo_in N a1 0 1 m = _ from e2), if_neg (show ¬ (1 : Int32) = 0 by decide)]
    obtain ⟨b, hb, rfl⟩ := hi
    have hJ : (if nI b = 1 then wb_rains_J21 N 1 c else wb_rains_J21 N 0 c) = wb_rains_J21 N (nI b) c := by
      by_cases z : b = 1
      · rw [z, if_pos (show nI 1 = 1 from rfl)]; rfl
      · rw [show b = 0 by omega, if_neg (show ¬ nI 0 = 1 by decide)]; rfl
    rw [hJ, ck_t b1, i1, p3.1.2.1]
    unfold wb_rains_J21
    rw [bd2_eq (wb_span_eq p2), ck_t (isSp3 p2.1), h5.1.2.1]
    by_cases z : Rc.rain P.1 = b
    · rw [if_pos (by rw [z]), if_pos (by rw [z])]
      exact ⟨_, c, m, rfl, rfl, hR⟩
    · have z0 : ¬ nI (Rc.rain P.1) = nI b := by rw [nEQ (by omega) (by omega)]; exact z
      rw [if_neg z0, if_neg z0]
      obtain ⟨a', c1, s1, s2, s3⟩ := ps_step_eq (N := N) (Or.inl rfl) p2
      have g5 := s3.2.2.2.2.1
      rw [pushP_n] at g5
      obtain ⟨m1, u1, u2, u3, u4⟩ := mo_keeps_eq (N := N) hN p3 p1
      have hr1 : RecIs (m1.1 4) P.1 := by have := u3.1; rw [pushP_n] at this; exact this
      have hok : RecOk T.1 (rainR b P.1) := rainR_ok p1.2.1 (by omega)
      let c2 := put c1 (spP 3 a') 4 (nI b)
      let m2 := put m1 4 1 (nI b)
      have t2 : FrS c1 c2 (spP 3 a') := FrS.put (by omega) (by omega)
      have w2 : Fr4 m1 m2 := Fr4.put (by omega)
      have oc : ∀ j, j ≠ 4 → c2.1 (spP 3 a') j = c1.1 (spP 3 a') j := fun j h => by show (put c1 (spP 3 a') 4 _).1 (spP 3 a') j = _; rw [put_at, if_neg (fun q => h q.2)]
      have t3 : SpanIs c2 (spP 3 a') (rainR b P.1) := by
        refine ⟨(oc _ (by omega)).trans g5.1.1, ?_, (oc _ (by omega)).trans g5.1.2.2.1, fun j hj => ⟨?_, ?_, ?_⟩⟩
        · show (put c1 (spP 3 a') 4 _).1 (spP 3 a') 4 = _; rw [put_at, if_pos ⟨rfl, rfl⟩]; rfl
        · exact (congrFun (put_o (by omega)) j).trans (g5.1.2.2.2 j hj).1
        · exact (congrFun (put_o (by omega)) j).trans (g5.1.2.2.2 j hj).2.1
        · exact (congrFun (put_o (by omega)) j).trans (g5.1.2.2.2 j hj).2.2
      have o4 : ∀ j, j ≠ 1 → m2.1 4 j = m1.1 4 j := fun j h => by show (put m1 4 _ _).1 4 j = _; rw [put_at, if_neg (fun q => h q.2)]
      have w3 : RecIs (m2.1 4) (rainR b P.1) := by
        refine ⟨(o4 _ (by omega)).trans hr1.1, ?_, (o4 _ (by omega)).trans hr1.2.2.1, fun j hj => ?_⟩
        · show (put m1 4 1 _).1 4 1 = _; rw [put_at, if_pos ⟨rfl, rfl⟩]; rfl
        have hj : j < Rc.n P.1 := hj
        exact ⟨(o4 _ (by omega)).trans (hr1.2.2.2 j hj).1, (o4 _ (by omega)).trans (hr1.2.2.2 j hj).2.1, (o4 _ (by omega)).trans (hr1.2.2.2 j hj).2.2⟩
      rw [bd2_eq s1, ck_t (isSp3 s3.1), ck_t (bzb (by omega)), lt_e, bd2_eq (sp_length_eq t3 hok), bd1_eq u1, ck_t b1, lt_e, ck_t b0, i0, w3.1, bd2_eq (mo_longOf_eq (by show Rc.n P.1 ≤ 100; omega) (by omega))]
      exact ⟨_, c2, m2, rfl, rfl, Rel.deed hx hT hI hl ht (s2.tr (t2.toP s3.1)) (u2.tr w2.to5) (P := (rainR b P.1, (pushP P).2)) ⟨(pushP_ok p1).1, hok, (pushP_ok p1).2.2⟩ (s3.now t2 t3 hok) (u3.now w2 w3)⟩
  · rw [bd2_eq (show wb_within N a1 0 1 c = _ from e1), if_pos rfl, bd2_eq (show mo_in N a1 0 1 m = _ from e2), if_pos rfl]
    exact ⟨_, c, m, rfl, rfl, hR⟩
theorem op_year {N : Nat} (hN : 2000 ≤ N) : Op_year N Rel := by
  intro c m hR
  obtain ⟨hx, ⟨T, hT, ⟨P, a, p1, p2, p3⟩, hI⟩, hl, ht⟩ := id hR
  have h5 := p2.2.2.2.2.1
  have hn := p1.2.1.1
  have hy := p1.2.1.2.2.1
  unfold wb_year mo_year
  rw [bd2_eq (wb_span_eq p2), ck_t (isSp3 p2.1), h5.1.2.2.1, ck_t b2, i2, p3.1.2.2.1, lI 200]
  by_cases z : Rc.year P.1 < 200
  · rw [if_pos (nI_lt z (by omega)), if_neg (by rw [nEQ (by omega) (by omega)]; omega)]
    obtain ⟨a', c1, s1, s2, s3⟩ := ps_step_eq (N := N) (Or.inl rfl) p2
    have g5 := s3.2.2.2.2.1
    rw [pushP_n] at g5
    obtain ⟨c2, t1, t2, t3⟩ := sp_age_eq (N := N) (by omega) g5.1 g5.2
    obtain ⟨m1, u1, u2, u3, u4⟩ := mo_keeps_eq (N := N) hN p3 p1
    have hr1 : RecIs (m1.1 4) P.1 := by have := u3.1; rw [pushP_n] at this; exact this
    obtain ⟨m2, v1, v2, v3⟩ := mo_ages_eq (N := N) (by omega) hr1 p1.2.1
    have hok : RecOk T.1 (ageR P.1) := ageR_ok p1.2.1 z
    let m3 := put m2 4 2 (nI (Rc.year P.1 + 1))
    have w2 : Fr4 m2 m3 := Fr4.put (by omega)
    have o4 : ∀ j, j ≠ 2 → m3.1 4 j = m2.1 4 j := fun j h => by show (put m2 4 _ _).1 4 j = _; rw [put_at, if_neg (fun q => h q.2)]
    have w3 : RecIs (m3.1 4) (ageR P.1) := by
      refine ⟨(o4 _ (by omega)).trans v3.1, (o4 _ (by omega)).trans v3.2.1, ?_, fun j hj => ?_⟩
      · show (put m2 4 2 _).1 4 2 = _; rw [put_at, if_pos ⟨rfl, rfl⟩]; rfl
      have hj : j < Rc.n P.1 := hj
      exact ⟨(o4 _ (by omega)).trans (v3.2.2.2 j hj).1, (o4 _ (by omega)).trans (v3.2.2.2 j hj).2.1, (o4 _ (by omega)).trans (v3.2.2.2 j hj).2.2⟩
    have e2 : m2.1 4 2 = nI (Rc.year P.1) := v3.2.2.1
    rw [bd2_eq s1, ck_t (isSp3 s3.1), bd1_eq t1, bd2_eq (sp_strength_eq (by omega) t3 hok), bd1_eq u1, bd1_eq v1, ck_t b2, ck_t b2, e2, lI 1, nA, lt_e, bd2_eq (mo_most_eq (by omega) w3 hok)]
    exact ⟨_, c2, m3, rfl, rfl, Rel.deed hx hT hI hl ht (s2.tr (t2.toP s3.1)) ((u2.tr v2.to5).tr w2.to5) (P := (ageR P.1, (pushP P).2)) ⟨(pushP_ok p1).1, hok, (pushP_ok p1).2.2⟩ (s3.now t2 t3 hok) (u3.now (v2.tr w2) w3)⟩
  · rw [if_neg (nI_nlt (by omega) (by omega)), if_pos (by rw [show Rc.year P.1 = 200 by omega])]
    exact ⟨_, c, m, rfl, rfl, hR⟩
