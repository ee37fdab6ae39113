/-! PURE: the relation between the class's memory and the reference's -/
def RTx (c m : St) : Prop := ∃ (t : Nat) (b : Nat → Nat), t ≤ 150 ∧ c.1 1 1 = nI t ∧ m.1 0 2 = nI t ∧ ∀ j, j < t → b j < 256 ∧ c.1 2 j = nI (b j) ∧ m.1 1 j = nI (b j)
def isT (k : Nat) : Prop := k = 125 ∨ k = 129
def RTd (c m : St) (T : Tdt) : Prop := TdOk T ∧ (∃ k, isT k ∧ c.1 0 6 = nI k ∧ c.1 0 7 = nI (254 - k) ∧ TdC c k T) ∧ TdM (m.1 2) T
def RPs (c m : St) (p : Nat) : Prop := ∃ (P : Pst) (a : Nat), PsOk p P ∧ PastAt c 3 p a P ∧ PsM (m.1 4) P
def RIm (c m : St) (p : Nat) : Prop := ∀ i, i < 2 → ∃ b : Nat, b ≤ 1 ∧ c.1 118 i = nI b ∧ m.1 6 i = nI b ∧ (b = 1 → ∃ (P : Pst) (a : Nat), PsOk p P ∧ PastAt c (42 + 38 * i) p a P ∧ PsM (fun j => m.1 5 (1108 * i + j)) P)
def RPl (c m : St) : Prop := ∃ (q : Nat) (u v : Nat → Nat), q ≤ 6 ∧ c.1 119 2 = nI q ∧ m.1 0 9 = nI q ∧ ∀ j, j < q → u j < 40 ∧ v j ≤ 9 ∧ c.1 120 j = nI (u j) ∧ c.1 121 j = nI (v j) ∧ m.1 7 j = nI (10 * u j + v j)
def Rel (c m : St) : Prop := RTx c m ∧ (∃ T, RTd c m T ∧ RPs c m T.1 ∧ RIm c m T.1) ∧ RPl c m ∧ c.2 = m.2
theorem RTx.cong {c c' m m' : St} (h : RTx c m) (e1 : c'.1 1 1 = c.1 1 1) (e2 : c'.1 2 = c.1 2) (e3 : m'.1 0 2 = m.1 0 2) (e4 : m'.1 1 = m.1 1) : RTx c' m' := by
  obtain ⟨t, b, h1, h2, h3, h4⟩ := h
  exact ⟨t, b, h1, by rw [e1]; exact h2, by rw [e3]; exact h3, fun j hj => by rw [e2, e4]; exact h4 j hj⟩
theorem TdC.cong {c c' : St} {k : Nat} {T : Tdt} (h : TdC c k T) (e : ∀ q, k ≤ q → q ≤ k + 2 → c'.1 q = c.1 q) : TdC c' k T :=
  ⟨by rw [e k (by omega) (by omega)]; exact h.1, by rw [e k (by omega) (by omega)]; exact h.2.1, by rw [e k (by omega) (by omega)]; exact h.2.2.1, fun j hj => by rw [e (k + 1) (by omega) (by omega), e (k + 2) (by omega) (by omega)]; exact h.2.2.2 j hj⟩
theorem RTd.cong {c c' m m' : St} {T : Tdt} (h : RTd c m T) (e0 : c'.1 0 = c.1 0) (e1 : ∀ q, 125 ≤ q → q ≤ 132 → c'.1 q = c.1 q) (e2 : m'.1 2 = m.1 2) : RTd c' m' T := by
  obtain ⟨h1, ⟨k, hk, h2, h3, h4⟩, h5⟩ := h
  refine ⟨h1, ⟨k, hk, by rw [e0]; exact h2, by rw [e0]; exact h3, h4.cong (fun q h1 h2 => e1 q ?_ ?_)⟩, by rw [e2]; exact h5⟩ <;> rcases hk with rfl | rfl <;> omega
theorem PastAt.cong {c c' : St} {b p a : Nat} {P : Pst} (h : PastAt c b p a P) (e : ∀ q, b ≤ q → q ≤ b + 37 → c'.1 q = c.1 q) : PastAt c' b p a P := by
  have : FrP c ((fun q => if b ≤ q ∧ q ≤ b + 37 then c'.1 q else c.1 q), c.2) (b + 100) := ⟨fun q hq => by
    show (if b ≤ q ∧ q ≤ b + 37 then c'.1 q else c.1 q) = c.1 q
    split
    · exact e q (by omega) (by omega)
    · rfl, rfl⟩
  have h2 := h.frame this (by omega)
  obtain ⟨h1, h2, h3, h4, h5, h6, h7⟩ := h
  have sp : ∀ i r, i < 9 → SpanIs c (spP b i) r → SpanIs c' (spP b i) r := by
    intro i r hi hs
    obtain ⟨g1, g2, g3, g4⟩ := hs
    have e0 := e (spP b i) (by unfold spP; omega) (by unfold spP; omega)
    have e1 := e (spP b i + 1) (by unfold spP; omega) (by unfold spP; omega)
    have e2 := e (spP b i + 2) (by unfold spP; omega) (by unfold spP; omega)
    have e3 := e (spP b i + 3) (by unfold spP; omega) (by unfold spP; omega)
    exact ⟨by rw [e0]; exact g1, by rw [e0]; exact g2, by rw [e0]; exact g3, fun j hj => by rw [e1, e2, e3]; exact g4 j hj⟩
  refine ⟨h1, by rw [e b (by omega) (by omega)]; exact h2, by rw [e b (by omega) (by omega)]; exact h3, h4, ⟨sp a _ h1 h5.1, h5.2⟩, fun i hi => ⟨sp _ _ (Nat.mod_lt _ (by omega)) (h6 i hi).1, (h6 i hi).2⟩, fun i hi => ?_⟩
  obtain ⟨n, z, g1, g2, g3, g4⟩ := h7 i hi
  have e0 := e (spP b i) (by unfold spP; omega) (by unfold spP; omega)
  exact ⟨n, z, g1, g2, by rw [e0]; exact g3, by rw [e0]; exact g4⟩
theorem RIm.cong {c c' m m' : St} {p : Nat} (h : RIm c m p) (e0 : c'.1 118 = c.1 118) (e1 : ∀ q, 42 ≤ q → q ≤ 117 → c'.1 q = c.1 q) (e2 : m'.1 6 = m.1 6) (e3 : m'.1 5 = m.1 5) : RIm c' m' p := by
  intro i hi
  obtain ⟨b, hb, h1, h2, h3⟩ := h i hi
  refine ⟨b, hb, by rw [e0]; exact h1, by rw [e2]; exact h2, fun q => ?_⟩
  obtain ⟨P, a, k1, k2, k3⟩ := h3 q
  exact ⟨P, a, k1, k2.cong (fun q h1 h2 => e1 q (by omega) (by omega)), by rw [e3]; exact k3⟩
theorem RPl.cong {c c' m m' : St} (h : RPl c m) (e0 : c'.1 119 2 = c.1 119 2) (e1 : c'.1 120 = c.1 120) (e2 : c'.1 121 = c.1 121) (e3 : m'.1 0 9 = m.1 0 9) (e4 : m'.1 7 = m.1 7) : RPl c' m' := by
  obtain ⟨q, u, v, h1, h2, h3, h4⟩ := h
  exact ⟨q, u, v, h1, by rw [e0]; exact h2, by rw [e3]; exact h3, fun j hj => by rw [e1, e2, e4]; exact h4 j hj⟩
theorem RPs.cong {c c' m m' : St} {p : Nat} (h : RPs c m p) (e0 : ∀ q, 3 ≤ q → q ≤ 40 → c'.1 q = c.1 q) (e1 : m'.1 4 = m.1 4) : RPs c' m' p := by
  obtain ⟨P, a, h1, h2, h3⟩ := h
  exact ⟨P, a, h1, h2.cong (fun q h1 h2 => e0 q h1 (by omega)), by rw [e1]; exact h3⟩
/-- a deed: the past changes, in the class and in the reference -/
theorem Rel.deed {c c' m m' : St} {T : Tdt} {P : Pst} {a : Nat} (hx : RTx c m) (hT : RTd c m T) (hI : RIm c m T.1) (hl : RPl c m) (ht : c.2 = m.2) (hc : FrP c c' 3) (hm : Fr5 m m') (h1 : PsOk T.1 P) (h2 : PastAt c' 3 T.1 a P) (h3 : PsM (m'.1 4) P) : Rel c' m' := by
  have ec : ∀ q, (q < 3 ∨ 40 < q) → c'.1 q = c.1 q := fun q hq => hc.1 q (by omega)
  have em : ∀ k, k ≠ 4 → m'.1 k = m.1 k := hm.1
  exact ⟨hx.cong (by rw [ec 1 (by omega)]) (ec 2 (by omega)) (by rw [em 0 (by omega)]) (em 1 (by omega)), ⟨T, hT.cong (ec 0 (by omega)) (fun q h1 h2 => ec q (by omega)) (em 2 (by omega)), ⟨P, a, h1, h2, h3⟩, hI.cong (ec 118 (by omega)) (fun q h1 h2 => ec q (by omega)) (em 6 (by omega)) (em 5 (by omega))⟩, hl.cong (by rw [ec 119 (by omega)]) (ec 120 (by omega)) (ec 121 (by omega)) (by rw [em 0 (by omega)]) (em 7 (by omega)), by rw [hc.2, hm.2]; exact ht⟩
theorem isTd_t {k : Nat} (h : isT k) : isTd k = true := by rcases h with rfl | rfl <;> decide
theorem isT_lt {k : Nat} (h : isT k) : k < 133 := by rcases h with rfl | rfl <;> omega
theorem wb_span_eq {N p a : Nat} {c : St} {P : Pst} (h : PastAt c 3 p a P) : wb_span N c = some (spP 3 a, c) := by
  unfold wb_span
  rw [bd2_eq (ps_latest_eq (Or.inl rfl) h.1 h.2.1), ck_t (isSp_t 3 (Or.inl rfl) a h.1)]
theorem isSp3 {a : Nat} (h : a < 9) : isSp (spP 3 a) = true := isSp_t 3 (Or.inl rfl) a h
theorem wb_holdsNow_eq {N k a q : Nat} {c : St} {T : Tdt} {P : Pst} (hN : 100 ≤ N) (hk : isT k) (h6 : c.1 0 6 = nI k) (hT : TdC c k T) (hO : TdOk T) (h : PastAt c 3 T.1 a P) (hq : q < T.1) : wb_holdsNow N (nI q) c = some (nI (if holdR T P.1 q then 1 else 0), c) := by
  have h5 := h.2.2.2.2.1
  have hl := lenR_le (n := Rc.n P.1) (b := Rc.rain P.1) (by have := h5.2.1; omega)
  have hs := lstR_le P.1
  unfold wb_holdsNow
  rw [bd2_eq (wb_span_eq h), ck_t (isSp3 h.1), h6, ix_n (by have := isT_lt hk; omega), lt_e, ck_t (isTd_t hk), bd2_eq (sp_length_eq h5.1 h5.2), bd2_eq (sp_least0 hN h5.1 h5.2), bd2_eq (td_holds_eq hT hO hq (by omega) (by omega)), ck_t (bzb (by split <;> omega))]
  rfl
theorem nI01 (b : Bool) : (nI (if b then 1 else 0) = 0) = (b = false) := by cases b <;> simp <;> decide
/-! the calls -/
theorem op_crosses {N : Nat} (hN : 2000 ≤ N) : Op_crosses N Rel := by
  intro a1 c m hR
  obtain ⟨hx, ⟨T, hT, ⟨P, a, p1, p2, p3⟩, hI⟩, hl, ht⟩ := hR
  obtain ⟨hO, ⟨k, hk, k6, k7, kC⟩, hM⟩ := id hT
  have hkl := isT_lt hk
  unfold wb_crosses mo_crosses
  rw [k6, ix_n (by omega), lt_e, ck_t (isTd_t hk)]
  rcases Classical.em (inR a1 T.1) with hi | hi
  · obtain ⟨q, hq, rfl⟩ := id hi
    rw [bd2_eq (td_has_t kC.1 hO.1 hi), if_neg (by decide), bd2_eq (mo_isPerson_t hM.1 hO.1 hi), if_neg (by decide), bd2_eq (wb_holdsNow_eq (by omega) hk k6 kC hO p2 hq), bd2_eq (mo_holds_eq (by omega) hM hO p3.1 p1.2.1 hq)]
    by_cases hb : holdR T P.1 q = true
    · have e1 : ¬ nI (if holdR T P.1 q then 1 else 0) = 0 := by rw [nI01, hb]; decide
      rw [if_neg e1, if_neg e1]
      obtain ⟨a', c1, s1, s2, s3⟩ := ps_step_eq (N := N) (Or.inl rfl) p2
      have e6 : c1.1 0 = c.1 0 := s2.1 0 (by omega)
      have eT : ∀ q, 125 ≤ q → c1.1 q = c.1 q := fun q hq => s2.1 q (by omega)
      have h5 := s3.2.2.2.2.1
      rw [pushP_n] at h5
      obtain ⟨g1, g2, g3, g4⟩ := hO.2.2.2.2 q hq
      obtain ⟨c2, t1, t2, t3⟩ := sp_knit_eq (N := N) (w := q) (m := T.2.2.2.1 q) (t := T.2.2.2.2 q) (by omega) h5.1 h5.2 g2
      obtain ⟨m1, u1, u2, u3, u4⟩ := mo_keeps_eq (N := N) hN p3 p1
      have hk40 := p1.2.1.1
      obtain ⟨m2, w1, w2, w3⟩ := mo_goesOver_eq (N := N) (q := q) (m := m1) (T := T) (r := P.1) (by omega) (by rw [u2.1 2 (by omega)]; exact hM) hO (by have := u3.1; rw [pushP_n] at this; exact this) hk40 hq
      have hkc : c1.1 (k + 1) q = nI (T.2.2.2.1 q) ∧ c1.1 (k + 2) q = nI (T.2.2.2.2 q) := by
        rw [eT (k + 1) (by rcases hk with rfl | rfl <;> omega), eT (k + 2) (by rcases hk with rfl | rfl <;> omega)]
        exact kC.2.2.2 q hq
      have hq6 : q < 6 := by have := hO.1; omega
      rw [bd2_eq s1, ck_t (isSp3 s3.1), e6, k6, ix_n (by omega), lt_e, ck_t (isTd_t hk), ck_t (inb_t hq6 (by omega)), lt_e, ck_t (isTd_t hk), ck_t (inb_t hq6 (by omega)), ix_n (by omega), hkc.1, hkc.2, bd1_eq t1, bd1_eq u1, bd1_eq w1, ck_t b0, i0, t3.1, w3.1]
      refine ⟨_, c2, m2, rfl, rfl, ?_⟩
      have hok := knitR_ok p1.2.1 g2 hq g4
      exact Rel.deed hx hT hI hl ht (s2.tr (t2.toP s3.1)) (u2.tr w2.to5) (P := (knitR q (T.2.2.2.1 q) (T.2.2.2.2 q) P.1, (pushP P).2)) ⟨(pushP_ok p1).1, hok, (pushP_ok p1).2.2⟩ (s3.now t2 t3 hok) (u3.now w2 w3)
    · have e1 : nI (if holdR T P.1 q then 1 else 0) = 0 := by rw [nI01]; exact Bool.eq_false_iff.mpr hb
      rw [if_pos e1, if_pos e1]
      exact ⟨_, c, m, rfl, rfl, hx, ⟨T, hT, ⟨P, a, p1, p2, p3⟩, hI⟩, hl, ht⟩
  · rw [bd2_eq (td_has_f kC.1 hO.1 hi), if_pos rfl, bd2_eq (mo_isPerson_f hM.1 hO.1 hi), if_pos rfl]
    exact ⟨_, c, m, rfl, rfl, hx, ⟨T, hT, ⟨P, a, p1, p2, p3⟩, hI⟩, hl, ht⟩
