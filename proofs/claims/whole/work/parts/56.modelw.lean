/-! PURE: what changes the reference's rows -/
theorem RecIs.req {F : Nat → Int32} {r r' : Rc} (h : RecIs F r) (e : Req r r') : RecIs F r' := by
  obtain ⟨e1, e2, e3, e4⟩ := e
  refine ⟨by rw [← e1]; exact h.1, by rw [← e2]; exact h.2.1, by rw [← e3]; exact h.2.2.1, fun j hj => ?_⟩
  have hj : j < Rc.n r := by omega
  obtain ⟨q1, q2, q3⟩ := e4 j hj
  rw [← q1, ← q2, ← q3]
  exact h.2.2.2 j hj
theorem RecIs.cong {F G : Nat → Int32} {r : Rc} (hn : Rc.n r ≤ 40) (h : RecIs F r) (e : ∀ j, j < 123 → G j = F j) : RecIs G r :=
  ⟨(e 0 (by omega)).trans h.1, (e 1 (by omega)).trans h.2.1, (e 2 (by omega)).trans h.2.2.1, fun j hj => ⟨(e _ (by omega)).trans (h.2.2.2 j hj).1, (e _ (by omega)).trans (h.2.2.2 j hj).2.1, (e _ (by omega)).trans (h.2.2.2 j hj).2.2⟩⟩
/-- only the rows of now have changed -/
def Fr4 (m m' : St) : Prop := (∀ k, k ≠ 4 → m'.1 k = m.1 k) ∧ m'.2 = m.2 ∧ ∀ j, 123 ≤ j → m'.1 4 j = m.1 4 j
theorem Fr4.rf {m : St} : Fr4 m m := ⟨fun _ _ => rfl, rfl, fun _ _ => rfl⟩
theorem Fr4.tr {a b c : St} (h : Fr4 a b) (h' : Fr4 b c) : Fr4 a c := ⟨fun k hk => (h'.1 k hk).trans (h.1 k hk), h'.2.1.trans h.2.1, fun j hj => (h'.2.2 j hj).trans (h.2.2 j hj)⟩
theorem Fr4.put {m : St} {j : Nat} {v : Int32} (h : j < 123) : Fr4 m (put m 4 j v) := ⟨fun k hk => put_o hk, rfl, fun i hi => by rw [put_at, if_neg (by omega)]⟩
theorem mo_goesAway_L {N i n : Nat} {w t o : Nat → Nat} (hn : n ≤ 40) : ∀ (d x f : Nat) (m : St), x + d = n - 1 → d < f → i ≤ x → m.1 4 0 = nI (n - 1) → (∀ j, j < n → m.1 4 (3 + j) = nI (if i ≤ j ∧ j < x then w (j + 1) else w j) ∧ m.1 4 (43 + j) = nI (if i ≤ j ∧ j < x then t (j + 1) else t j) ∧ m.1 4 (83 + j) = nI (if i ≤ j ∧ j < x then o (j + 1) else o j)) → ∃ m', mo_goesAway_L12 N f (nI x) m = some m' ∧ Fr4 m m' ∧ m'.1 4 0 = m.1 4 0 ∧ m'.1 4 1 = m.1 4 1 ∧ m'.1 4 2 = m.1 4 2 ∧ ∀ j, j < n - 1 → m'.1 4 (3 + j) = nI (if j < i then w j else w (j + 1)) ∧ m'.1 4 (43 + j) = nI (if j < i then t j else t (j + 1)) ∧ m'.1 4 (83 + j) = nI (if j < i then o j else o (j + 1)) := by
  intro d
  induction d with
  | zero =>
    intro x f m hx hf hi h0 hA
    obtain ⟨f, rfl⟩ : ∃ g, f = g + 1 := ⟨f - 1, by omega⟩
    rw [mo_goesAway_L12, ck_t b0, i0, h0, if_pos (nLEt (by omega) (by omega))]
    refine ⟨m, rfl, Fr4.rf, h0, rfl, rfl, fun j hj => ?_⟩
    obtain ⟨q1, q2, q3⟩ := hA j (by omega)
    rw [q1, q2, q3]
    by_cases c : j < i
    · have c2 : ¬ (i ≤ j ∧ j < x) := by omega
      simp only [if_pos c, if_neg c2, and_self]
    · have c2 : i ≤ j ∧ j < x := by omega
      simp only [if_neg c, if_pos c2, and_self]
  | succ d ih =>
    intro x f m hx hf hi h0 hA
    obtain ⟨f, rfl⟩ : ∃ g, f = g + 1 := ⟨f - 1, by omega⟩
    obtain ⟨q1, q2, q3⟩ := hA (x + 1) (by omega)
    rw [if_neg (by omega)] at q1 q2 q3
    let m1 := put m 4 (3 + x) (nI (w (x + 1)))
    let m2 := put m1 4 (43 + x) (nI (t (x + 1)))
    let m3 := put m2 4 (83 + x) (nI (o (x + 1)))
    have f1 : ∀ j, j ≠ 3 + x → m1.1 4 j = m.1 4 j := fun j h => by show (put m 4 _ _).1 4 j = _; rw [put_at, if_neg (fun q => h q.2)]
    have f2 : ∀ j, j ≠ 43 + x → m2.1 4 j = m1.1 4 j := fun j h => by show (put m1 4 _ _).1 4 j = _; rw [put_at, if_neg (fun q => h q.2)]
    have f3 : ∀ j, j ≠ 83 + x → m3.1 4 j = m2.1 4 j := fun j h => by show (put m2 4 _ _).1 4 j = _; rw [put_at, if_neg (fun q => h q.2)]
    have e1 : m1.1 4 (3 + x) = nI (w (x + 1)) := by show (put m 4 _ _).1 4 _ = _; rw [put_at, if_pos ⟨rfl, rfl⟩]
    have e2 : m2.1 4 (43 + x) = nI (t (x + 1)) := by show (put m1 4 _ _).1 4 _ = _; rw [put_at, if_pos ⟨rfl, rfl⟩]
    have e3 : m3.1 4 (83 + x) = nI (o (x + 1)) := by show (put m2 4 _ _).1 4 _ = _; rw [put_at, if_pos ⟨rfl, rfl⟩]
    obtain ⟨m', k1, k2, k3, k4, k5, k6⟩ := ih (x + 1) f m3 (by omega) (by omega) (by omega) (by rw [f3 _ (by omega), f2 _ (by omega), f1 _ (by omega)]; exact h0) (fun j hj => by
      obtain ⟨p1, p2, p3⟩ := hA j hj
      by_cases c : j = x
      · subst c
        have c2 : i ≤ j ∧ j < j + 1 := by omega
        simp only [if_pos c2]
        refine ⟨?_, ?_, e3⟩
        · rw [f3 _ (by omega), f2 _ (by omega)]; exact e1
        · rw [f3 _ (by omega)]; exact e2
      · have c2 : (i ≤ j ∧ j < x + 1) ↔ (i ≤ j ∧ j < x) := by omega
        simp only [c2]
        refine ⟨?_, ?_, ?_⟩
        · rw [f3 _ (by omega), f2 _ (by omega), f1 _ (by omega)]; exact p1
        · rw [f3 _ (by omega), f2 _ (by omega), f1 _ (by omega)]; exact p2
        · rw [f3 _ (by omega), f2 _ (by omega), f1 _ (by omega)]; exact p3)
    refine ⟨m', ?_, (((Fr4.put (by omega)).tr (Fr4.put (by omega))).tr (Fr4.put (by omega))).tr k2, ?_, ?_, ?_, k6⟩
    · rw [mo_goesAway_L12, ck_t b0, i0, h0, if_neg (nI_ge (by omega) (by omega))]
      simp only [lI, nA]
      rw [ck_t (inb_t (by omega) (by omega)), ck_t (inb_t (by omega) (by omega)), ix_n (by omega), ix_n (by omega), show 3 + x + 1 = 3 + (x + 1) by omega, q1, lt_e]
      show ck _ (ck _ (lt (put m1 4 (ix (nI (43 + x))) (m1.1 4 (ix (nI (43 + x + 1))))) _)) = _
      rw [ck_t (inb_t (by omega) (by omega)), ck_t (inb_t (by omega) (by omega)), ix_n (by omega), ix_n (by omega), show 43 + x + 1 = 43 + (x + 1) by omega, f1 _ (by omega), q2, lt_e]
      show ck _ (ck _ (lt (put m2 4 (ix (nI (83 + x))) (m2.1 4 (ix (nI (83 + x + 1))))) _)) = _
      rw [ck_t (inb_t (by omega) (by omega)), ck_t (inb_t (by omega) (by omega)), ix_n (by omega), ix_n (by omega), show 83 + x + 1 = 83 + (x + 1) by omega, f2 _ (by omega), f1 _ (by omega), q3, lt_e, lt_e]
      exact k1
    · rw [k3, f3 _ (by omega), f2 _ (by omega), f1 _ (by omega)]
    · rw [k4, f3 _ (by omega), f2 _ (by omega), f1 _ (by omega)]
    · rw [k5, f3 _ (by omega), f2 _ (by omega), f1 _ (by omega)]
theorem mo_goesAway_eq {N i : Nat} {m : St} {r : Rc} (hN : 100 ≤ N) (h : RecIs (m.1 4) r) (hn : Rc.n r ≤ 40) (hi : i < Rc.n r) : ∃ m', mo_goesAway N (nI i) m = some m' ∧ Fr4 m m' ∧ RecIs (m'.1 4) (remR i 1 r) := by
  obtain ⟨h1, h2, h3, h4⟩ := h
  let m1 := put m 4 0 (nI (Rc.n r - 1))
  have f1 : ∀ j, j ≠ 0 → m1.1 4 j = m.1 4 j := fun j h => by show (put m 4 _ _).1 4 j = _; rw [put_at, if_neg (fun q => h q.2)]
  have e1 : m1.1 4 0 = nI (Rc.n r - 1) := by show (put m 4 _ _).1 4 _ = _; rw [put_at, if_pos ⟨rfl, rfl⟩]
  obtain ⟨m', k1, k2, k3, k4, k5, k6⟩ := mo_goesAway_L (N := N) (i := i) (n := Rc.n r) (w := Rc.w r) (t := Rc.t r) (o := Rc.o r) hn (Rc.n r - 1 - i) i N m1 (by omega) (by omega) (Nat.le_refl _) e1 (fun j hj => by
    have c : ¬ (i ≤ j ∧ j < i) := by omega
    simp only [if_neg c]
    rw [f1 _ (by omega), f1 _ (by omega), f1 _ (by omega)]
    exact h4 j hj)
  refine ⟨m', ?_, (Fr4.put (by omega)).tr k2, k3.trans e1, (k4.trans (f1 _ (by omega))).trans h2, (k5.trans (f1 _ (by omega))).trans h3, k6⟩
  unfold mo_goesAway
  rw [ck_t b0, ck_t b0, i0, h1, lI 1, nS (by omega), lt_e]
  exact bd1_eq k1
/-- one row comes behind -/
theorem mo_knits_J {x : Nat} {w t : Nat} {c2 : Int32} {R : Int32 → St → Option St} {m : St} {r : Rc} (h : RecIs (m.1 4) r) (hn : Rc.n r < 40) : ∃ m', mo_knits_J25 (nI w) (nI t) c2 R (nI x) m = R (nI (x + 1)) m' ∧ Fr4 m m' ∧ RecIs (m'.1 4) (appR w t 1 r) := by
  obtain ⟨h1, h2, h3, h4⟩ := h
  let n := Rc.n r
  let m1 := put m 4 (3 + n) (nI w)
  let m2 := put m1 4 (43 + n) (nI t)
  let m3 := put m2 4 (83 + n) (nI 0)
  let m4 := put m3 4 0 (nI (n + 1))
  have hnn : n = Rc.n r := rfl
  have f1 : ∀ j, j ≠ 3 + n → m1.1 4 j = m.1 4 j := fun j h => by show (put m 4 _ _).1 4 j = _; rw [put_at, if_neg (fun q => h q.2)]
  have f2 : ∀ j, j ≠ 43 + n → m2.1 4 j = m1.1 4 j := fun j h => by show (put m1 4 _ _).1 4 j = _; rw [put_at, if_neg (fun q => h q.2)]
  have f3 : ∀ j, j ≠ 83 + n → m3.1 4 j = m2.1 4 j := fun j h => by show (put m2 4 _ _).1 4 j = _; rw [put_at, if_neg (fun q => h q.2)]
  have f4 : ∀ j, j ≠ 0 → m4.1 4 j = m3.1 4 j := fun j h => by show (put m3 4 _ _).1 4 j = _; rw [put_at, if_neg (fun q => h q.2)]
  have e1 : m1.1 4 (3 + n) = nI w := by show (put m 4 _ _).1 4 _ = _; rw [put_at, if_pos ⟨rfl, rfl⟩]
  have e2 : m2.1 4 (43 + n) = nI t := by show (put m1 4 _ _).1 4 _ = _; rw [put_at, if_pos ⟨rfl, rfl⟩]
  have e3 : m3.1 4 (83 + n) = nI 0 := by show (put m2 4 _ _).1 4 _ = _; rw [put_at, if_pos ⟨rfl, rfl⟩]
  have e4 : m4.1 4 0 = nI (n + 1) := by show (put m3 4 _ _).1 4 _ = _; rw [put_at, if_pos ⟨rfl, rfl⟩]
  have g1 : m1.1 4 0 = nI n := by rw [f1 _ (by omega)]; exact h1
  have g2 : m2.1 4 0 = nI n := by rw [f2 _ (by omega)]; exact g1
  have g3 : m3.1 4 0 = nI n := by rw [f3 _ (by omega)]; exact g2
  refine ⟨m4, ?_, ((Fr4.put (by omega)).tr (Fr4.put (by omega))).tr ((Fr4.put (by omega)).tr (Fr4.put (by omega))), e4, ?_, ?_, fun j hj => ?_⟩
  · unfold mo_knits_J25
    rw [ck_t b0, i0, h1, lI 3, nA, ck_t (inb_t (by omega) (by omega)), ix_n (by omega), lt_e]
    show ck _ (ck (inb (43 + m1.1 4 0) 1108) (lt (put m1 4 (ix (43 + m1.1 4 0)) (nI t)) _)) = _
    rw [ck_t b0, g1, lI 43, nA, ck_t (inb_t (by omega) (by omega)), ix_n (by omega), lt_e]
    show ck _ (ck (inb (83 + m2.1 4 0) 1108) (lt (put m2 4 (ix (83 + m2.1 4 0)) 0) _)) = _
    rw [ck_t b0, g2, lI 83, nA, ck_t (inb_t (by omega) (by omega)), ix_n (by omega), lt_e]
    show ck _ (ck _ (lt (put m3 4 0 (m3.1 4 0 + 1)) _)) = _
    rw [ck_t b0, ck_t b0, g3, lI 1, nA, lt_e, lt_e, nA]
  · rw [f4 _ (by omega), f3 _ (by omega), f2 _ (by omega), f1 _ (by omega)]; exact h2
  · rw [f4 _ (by omega), f3 _ (by omega), f2 _ (by omega), f1 _ (by omega)]; exact h3
  · have hj : j < Rc.n r + 1 := hj
    rw [appR_w, appR_t, appR_o]
    by_cases c : j = n
    · have c2 : ¬ j < Rc.n r := by omega
      simp only [if_neg c2]
      rw [c]
      refine ⟨?_, ?_, ?_⟩
      · rw [f4 _ (by omega), f3 _ (by omega), f2 _ (by omega)]; exact e1
      · rw [f4 _ (by omega), f3 _ (by omega)]; exact e2
      · rw [f4 _ (by omega)]; exact e3
    · have c2 : j < Rc.n r := by omega
      simp only [if_pos c2]
      obtain ⟨p1, p2, p3⟩ := h4 j c2
      refine ⟨?_, ?_, ?_⟩
      · rw [f4 _ (by omega), f3 _ (by omega), f2 _ (by omega), f1 _ (by omega)]; exact p1
      · rw [f4 _ (by omega), f3 _ (by omega), f2 _ (by omega), f1 _ (by omega)]; exact p2
      · rw [f4 _ (by omega), f3 _ (by omega), f2 _ (by omega), f1 _ (by omega)]; exact p3
theorem mo_knits_L {N w t q : Nat} {r : Rc} (hN : 100 ≤ N) (hn : Rc.n r ≤ 40) (hq : q ≤ 9) : ∀ (d i f : Nat) (m : St), i + d = q → d < f → RecIs (m.1 4) (knitR w i t r) → ∃ m', mo_knits_L3 N (nI q) (nI w) (nI t) f (nI i) m = some m' ∧ Fr4 m m' ∧ RecIs (m'.1 4) (knitR w q t r) := by
  intro d
  induction d with
  | zero =>
    intro i f m hi hf hS
    obtain ⟨f, rfl⟩ : ∃ g, f = g + 1 := ⟨f - 1, by omega⟩
    rw [mo_knits_L3, if_pos (nLEt (by omega) (by omega))]
    exact ⟨m, rfl, Fr4.rf, by rw [show q = i by omega]; exact hS⟩
  | succ d ih =>
    intro i f m hi hf hS
    obtain ⟨f, rfl⟩ : ∃ g, f = g + 1 := ⟨f - 1, by omega⟩
    have hst := knitR_step (w := w) (m := i) (t := t) (r := r) hn (by omega)
    have h0 := hS.1
    have hkn : Rc.n (knitR w i t r) ≤ 40 := by rw [knitR_n]; omega
    rw [mo_knits_L3, if_neg (nI_ge (by omega) (by omega)), ck_t b0, i0, h0]
    by_cases c : Rc.n (knitR w i t r) = 40
    · rw [if_pos c] at hst
      obtain ⟨m1, a1, a2, a3⟩ := mo_goesAway_eq (N := N) (i := 0) hN hS hkn (by omega)
      obtain ⟨m2, b1, b2, b3⟩ := mo_knits_J (x := i) (w := w) (t := t) (c2 := nI q) (R := mo_knits_L3 N (nI q) (nI w) (nI t) f) a3 (show Rc.n (knitR w i t r) - 1 < 40 by omega)
      obtain ⟨m', k1, k2, k3⟩ := ih (i + 1) f m2 (by omega) (by omega) (b3.req hst)
      rw [if_pos (by rw [c]; rfl), lI 0, bd1_eq a1, b1]
      exact ⟨m', k1, (a2.tr b2).tr k2, k3⟩
    · rw [if_neg c] at hst
      obtain ⟨m2, b1, b2, b3⟩ := mo_knits_J (x := i) (w := w) (t := t) (c2 := nI q) (R := mo_knits_L3 N (nI q) (nI w) (nI t) f) hS (by omega)
      obtain ⟨m', k1, k2, k3⟩ := ih (i + 1) f m2 (by omega) (by omega) (b3.req hst)
      rw [if_neg (by rw [lI 40, nEQ (by omega) (by omega)]; exact c), b1]
      exact ⟨m', k1, b2.tr k2, k3⟩
theorem mo_knits_eq {N w q t : Nat} {m : St} {r : Rc} (hN : 100 ≤ N) (h : RecIs (m.1 4) r) (hn : Rc.n r ≤ 40) (hq : q ≤ 9) : ∃ m', mo_knits N (nI w) (nI q) (nI t) m = some m' ∧ Fr4 m m' ∧ RecIs (m'.1 4) (knitR w q t r) := by
  obtain ⟨m', k1, k2, k3⟩ := mo_knits_L (N := N) (w := w) (t := t) hN hn hq q 0 N m (by omega) (by omega) (h.req (knitR_0 hn))
  exact ⟨m', bd1_eq k1, k2, k3⟩
theorem mo_goesOver_eq {N q : Nat} {m : St} {T : Tdt} {r : Rc} (hN : 100 ≤ N) (hT : TdM (m.1 2) T) (hO : TdOk T) (h : RecIs (m.1 4) r) (hn : Rc.n r ≤ 40) (hq : q < T.1) : ∃ m', mo_goesOver N (nI q) m = some m' ∧ Fr4 m m' ∧ RecIs (m'.1 4) (knitR q (T.2.2.2.1 q) (T.2.2.2.2 q) r) := by
  obtain ⟨o1, o2, o3, o4, o5⟩ := hO
  obtain ⟨m', k1, k2, k3⟩ := mo_knits_eq (N := N) (w := q) (q := T.2.2.2.1 q) (t := T.2.2.2.2 q) hN h hn (o5 q hq).2.1
  refine ⟨m', ?_, k2, k3⟩
  unfold mo_goesOver
  rw [lI 6, lI 12, nA, nA, ck_t (inb_t (by omega) (by omega)), ck_t (inb_t (by omega) (by omega)), ix_n (by omega), ix_n (by omega), (hT.2.2.2 q hq).1, (hT.2.2.2 q hq).2]
  exact bd1_eq k1
/-- all rows a year older, the year itself apart -/
def oldR (r : Rc) : Rc := (Rc.n r, Rc.rain r, Rc.year r, Rc.w r, Rc.t r, fun j => min 99 (Rc.o r j + 1))
theorem mo_ages_L {N n : Nat} {o : Nat → Nat} (hn : n ≤ 40) (ho : ∀ j, j < n → o j ≤ 99) : ∀ (d i f : Nat) (m : St), i + d = n → d < f → m.1 4 0 = nI n → (∀ j, j < n → m.1 4 (83 + j) = nI (if j < i then min 99 (o j + 1) else o j)) → ∃ m', mo_ages_L2 N f (nI i) m = some m' ∧ Fr4 m m' ∧ (∀ j, j < 83 → m'.1 4 j = m.1 4 j) ∧ ∀ j, j < n → m'.1 4 (83 + j) = nI (min 99 (o j + 1)) := by
  intro d
  induction d with
  | zero =>
    intro i f m hi hf h0 hA
    obtain ⟨f, rfl⟩ : ∃ g, f = g + 1 := ⟨f - 1, by omega⟩
    rw [mo_ages_L2, ck_t b0, i0, h0, if_pos (nLEt (by omega) (by omega))]
    exact ⟨m, rfl, Fr4.rf, fun _ _ => rfl, fun j hj => by rw [hA j hj, if_pos (by omega)]⟩
  | succ d ih =>
    intro i f m hi hf h0 hA
    obtain ⟨f, rfl⟩ : ∃ g, f = g + 1 := ⟨f - 1, by omega⟩
    have hoi := ho i (by omega)
    have hv := hA i (by omega)
    rw [if_neg (by omega)] at hv
    obtain ⟨m', e1, e2, e3, e4⟩ := ih (i + 1) f (put m 4 (83 + i) (nI (min 99 (o i + 1)))) (by omega) (by omega) (by rw [put_at, if_neg (by omega)]; exact h0) (fun j hj => by
      rw [put_at]
      by_cases e : j = i
      · subst e
        rw [if_pos ⟨rfl, rfl⟩, if_pos (by omega)]
      · rw [if_neg (by omega), hA j hj]
        by_cases q : j < i
        · rw [if_pos q, if_pos (by omega)]
        · rw [if_neg q, if_neg (by omega)])
    have key : ∀ z : Nat, o i + z = min 99 (o i + 1) → mo_ages_J41 (mo_ages_L2 N f) (nI i) (nI z) (nI (o i)) (nI (83 + i)) m = some m' := by
      intro z hz
      unfold mo_ages_J41
      rw [ck_t (inb_t (by omega) (by omega)), ix_n (by omega), nA, hz, lt_e, lt_e, lI 1, nA]
      exact e1
    refine ⟨m', ?_, (Fr4.put (by omega)).tr e2, fun j hj => (e3 j hj).trans (by rw [put_at, if_neg (by omega)]), e4⟩
    rw [mo_ages_L2, ck_t b0, i0, h0, if_neg (nI_ge (by omega) (by omega)), lI 83, nA, ck_t (inb_t (by omega) (by omega)), ck_t (inb_t (by omega) (by omega)), ix_n (by omega), hv]
    by_cases c : 99 ≤ o i
    · rw [lI 99, if_pos (nLEt c (by omega))]
      exact key 0 (by omega)
    · rw [lI 99, if_neg (nI_ge (a := o i) (by omega) (by omega))]
      exact key 1 (by omega)
theorem mo_ages_eq {N : Nat} {m : St} {p : Nat} {r : Rc} (hN : 100 ≤ N) (h : RecIs (m.1 4) r) (hr : RecOk p r) : ∃ m', mo_ages N m = some m' ∧ Fr4 m m' ∧ RecIs (m'.1 4) (oldR r) := by
  obtain ⟨h1, h2, h3, h4⟩ := h
  have hn := hr.1
  obtain ⟨m', k1, k2, k3, k4⟩ := mo_ages_L (N := N) (n := Rc.n r) (o := Rc.o r) hn (fun j hj => (hr.2.2.2 j hj).2.2) (Rc.n r) 0 N m (by omega) (by omega) h1 (fun j hj => by rw [if_neg (by omega)]; exact (h4 j hj).2.2)
  refine ⟨m', bd1_eq k1, k2, (k3 _ (by omega)).trans h1, (k3 _ (by omega)).trans h2, (k3 _ (by omega)).trans h3, fun j hj => ?_⟩
  have hj : j < Rc.n r := hj
  exact ⟨(k3 _ (by omega)).trans (h4 j hj).1, (k3 _ (by omega)).trans (h4 j hj).2.1, k4 j hj⟩
