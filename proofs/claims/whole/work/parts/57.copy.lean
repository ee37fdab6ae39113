/-! PURE: the reference's copying loops -/
theorem copy_loop {L : Nat → Int32 → St → Option St} {n x0 K K' D S : Nat} (he : ∀ f m, L (f + 1) (nI (x0 + n)) m = some m) (hs : ∀ f x m, x < n → L (f + 1) (nI (x0 + x)) m = L f (nI (x0 + (x + 1))) (put m K (D + x) (m.1 K' (S + x)))) (hsep : ∀ x y, x < n → y < x → K = K' → D + y ≠ S + x) :
    ∀ (d x f : Nat) (m : St), x + d = n → d < f → ∃ m', L f (nI (x0 + x)) m = some m' ∧ (∀ k, k ≠ K → m'.1 k = m.1 k) ∧ m'.2 = m.2 ∧ (∀ j, (j < D + x ∨ D + n ≤ j) → m'.1 K j = m.1 K j) ∧ ∀ y, x ≤ y → y < n → m'.1 K (D + y) = m.1 K' (S + y) := by
  intro d
  induction d with
  | zero =>
    intro x f m hx hf
    obtain ⟨f, rfl⟩ : ∃ g, f = g + 1 := ⟨f - 1, by omega⟩
    rw [show x = n by omega, he]
    exact ⟨m, rfl, fun _ _ => rfl, rfl, fun _ _ => rfl, fun y h1 h2 => by omega⟩
  | succ d ih =>
    intro x f m hx hf
    obtain ⟨f, rfl⟩ : ∃ g, f = g + 1 := ⟨f - 1, by omega⟩
    rw [hs f x m (by omega)]
    obtain ⟨m', k1, k2, k3, k4, k5⟩ := ih (x + 1) f (put m K (D + x) (m.1 K' (S + x))) (by omega) (by omega)
    refine ⟨m', k1, fun k hk => (k2 k hk).trans (put_o hk), k3, fun j hj => (k4 j (by omega)).trans ?_, fun y h1 h2 => ?_⟩
    · rw [put_at, if_neg (by omega)]
    · by_cases c : y = x
      · subst c
        rw [k4 (D + y) (by omega), put_at, if_pos ⟨rfl, rfl⟩]
      · rw [k5 y (by omega) h2, put_at, if_neg]
        intro q
        exact hsep y x h2 (by omega) q.1.symm q.2.symm
def PsM (F : Nat → Int32) (P : Pst) : Prop := RecIs F P.1 ∧ F 123 = nI P.2.1 ∧ ∀ i, i < P.2.1 → RecIs (fun j => F (124 + 123 * i + j)) (P.2.2 i)
def PsOk (p : Nat) (P : Pst) : Prop := P.2.1 ≤ 8 ∧ RecOk p P.1 ∧ ∀ i, i < P.2.1 → RecOk p (P.2.2 i)
/-- only the rows, and the rows as they were, have changed -/
def Fr5 (m m' : St) : Prop := (∀ k, k ≠ 4 → m'.1 k = m.1 k) ∧ m'.2 = m.2
theorem Fr5.rf {m : St} : Fr5 m m := ⟨fun _ _ => rfl, rfl⟩
theorem Fr5.tr {a b c : St} (h : Fr5 a b) (h' : Fr5 b c) : Fr5 a c := ⟨fun k hk => (h'.1 k hk).trans (h.1 k hk), h'.2.trans h.2⟩
theorem Fr5.put {m : St} {j : Nat} {v : Int32} : Fr5 m (put m 4 j v) := ⟨fun k hk => put_o hk, rfl⟩
theorem Fr4.to5 {m m' : St} (h : Fr4 m m') : Fr5 m m' := ⟨h.1, h.2.1⟩
/-- the rows of now change alone: what was stays -/
theorem PsM.now {m m' : St} {P : Pst} {r : Rc} (h : PsM (m.1 4) P) (hf : Fr4 m m') (hr : RecIs (m'.1 4) r) : PsM (m'.1 4) (r, P.2) := by
  refine ⟨hr, (hf.2.2 123 (by omega)).trans h.2.1, fun i hi => ?_⟩
  have e : (fun j => m'.1 4 (124 + 123 * i + j)) = fun j => m.1 4 (124 + 123 * i + j) := funext fun j => hf.2.2 _ (by omega)
  show RecIs (fun j => m'.1 4 (124 + 123 * i + j)) _
  rw [e]
  exact h.2.2 i hi
theorem mo_keeps_J {N k : Nat} {m : St} (hN : 2000 ≤ N) (hk : k ≤ 7) (h : m.1 4 123 = nI k) : ∃ m', mo_keeps_J54 N m = some m' ∧ Fr5 m m' ∧ m'.1 4 123 = nI (k + 1) ∧ (∀ j, j < 123 → m'.1 4 (124 + 123 * k + j) = m.1 4 j) ∧ ∀ j, j ≠ 123 → (j < 124 + 123 * k ∨ 124 + 123 * k + 123 ≤ j) → m'.1 4 j = m.1 4 j := by
  obtain ⟨m1, k1, k2, k3, k4, k5⟩ := copy_loop (L := mo_keeps_L70 N (nI (124 + 123 * k))) (n := 123) (x0 := 0) (K := 4) (K' := 4) (D := 124 + 123 * k) (S := 0)
    (fun f m => by rw [mo_keeps_L70, lI 123, if_pos (nLEt (by omega) (by omega))])
    (fun f x m hx => by rw [mo_keeps_L70, lI 123, if_neg (nI_ge (by omega) (by omega)), nA, ck_t (inb_t (by omega) (by omega)), ck_t (inb_t (by omega) (by omega)), ix_n (by omega), ix_n (by omega), lt_e, lt_e, lI 1, nA, show 124 + 123 * k + (0 + x) = 124 + 123 * k + x by omega, show 0 + x + 1 = 0 + (x + 1) by omega])
    (fun x y hx hy _ => by omega) 123 0 N m (by omega) (by omega)
  have g : m1.1 4 123 = nI k := (k4 123 (by omega)).trans h
  refine ⟨put m1 4 123 (nI (k + 1)), ?_, Fr5.tr ⟨k2, k3⟩ Fr5.put, by rw [put_at, if_pos ⟨rfl, rfl⟩], fun j hj => ?_, fun j hj hj2 => ?_⟩
  · unfold mo_keeps_J54
    rw [ck_t b123, i123, h, lI 123, lI 124, nM, nA, lt_e, lI 0]
    rw [bd1_eq (show mo_keeps_L70 N (nI (124 + 123 * k)) N (nI 0) m = some m1 from k1)]
    rw [← lI 123, ck_t b123, ck_t b123, g, lI 1, nA, lt_e]
  · rw [put_at, if_neg (by omega), k5 j (by omega) hj, Nat.zero_add]
  · rw [put_at, if_neg (by omega)]; exact k4 j (by omega)
theorem mo_keeps_eq {N p : Nat} {m : St} {P : Pst} (hN : 2000 ≤ N) (h : PsM (m.1 4) P) (hP : PsOk p P) : ∃ m', mo_keeps N m = some m' ∧ Fr5 m m' ∧ PsM (m'.1 4) (pushP P) ∧ (∀ j, j < 123 → m'.1 4 j = m.1 4 j) := by
  obtain ⟨h1, h2, h3⟩ := h
  obtain ⟨o1, o2, o3⟩ := hP
  unfold mo_keeps
  rw [ck_t b123, i123, h2]
  unfold pushP
  by_cases q : P.2.1 < 8
  · rw [if_neg (by rw [lI 8, nEQ (by omega) (by omega)]; omega), if_pos q]
    obtain ⟨m', k1, k2, k3, k4, k5⟩ := mo_keeps_J (N := N) hN (by omega) h2
    have hlo : ∀ j, j < 123 → m'.1 4 j = m.1 4 j := fun j hj => k5 j (by omega) (by omega)
    refine ⟨m', k1, k2, ⟨h1.cong o2.1 hlo, k3, fun i hi => ?_⟩, hlo⟩
    have hi : i < P.2.1 + 1 := hi
    show RecIs _ (if i = P.2.1 then P.1 else P.2.2 i)
    by_cases e : i = P.2.1
    · rw [if_pos e]
      exact h1.cong o2.1 (fun j hj => by rw [e]; exact k4 j hj)
    · rw [if_neg e]
      exact (h3 i (by omega)).cong (o3 i (by omega)).1 (fun j hj => k5 _ (by omega) (by omega))
  · rw [if_pos (by rw [show P.2.1 = 8 by omega]; rfl), if_neg q]
    obtain ⟨m1, a1, a2, a3, a4, a5⟩ := copy_loop (L := mo_keeps_L15 N) (n := 861) (x0 := 124) (K := 4) (K' := 4) (D := 124) (S := 247)
      (fun f m => by rw [mo_keeps_L15, lI 985, if_pos (nLEt (by omega) (by omega))])
      (fun f x m hx => by rw [mo_keeps_L15, lI 985, if_neg (nI_ge (by omega) (by omega)), lI 123, nA, ck_t (inb_t (by omega) (by omega)), ck_t (inb_t (by omega) (by omega)), ix_n (by omega), ix_n (by omega), lt_e, lt_e, lI 1, nA, show 124 + x + 123 = 247 + x by omega, show 124 + x + 1 = 124 + (x + 1) by omega])
      (fun x y hx hy _ => by omega) 861 0 N m (by omega) (by omega)
    have g1 : m1.1 4 123 = nI 8 := by rw [a4 123 (by omega), h2, show P.2.1 = 8 by omega]
    let m2 := put m1 4 123 (nI 7)
    have g2 : m2.1 4 123 = nI 7 := by show (put m1 4 123 _).1 4 123 = _; rw [put_at, if_pos ⟨rfl, rfl⟩]
    have f2 : ∀ j, j ≠ 123 → m2.1 4 j = m1.1 4 j := fun j hj => by show (put m1 4 123 _).1 4 j = _; rw [put_at, if_neg (by omega)]
    obtain ⟨m', k1, k2, k3, k4, k5⟩ := mo_keeps_J (N := N) (k := 7) hN (by omega) g2
    have hlo1 : ∀ j, j < 123 → m2.1 4 j = m.1 4 j := fun j hj => (f2 j (by omega)).trans (a4 j (by omega))
    have hlo : ∀ j, j < 123 → m'.1 4 j = m.1 4 j := fun j hj => (k5 j (by omega) (by omega)).trans (hlo1 j hj)
    refine ⟨m', ?_, (Fr5.tr ⟨a2, a3⟩ Fr5.put).tr k2, ⟨h1.cong o2.1 hlo, k3, fun i hi => ?_⟩, hlo⟩
    · rw [lI 124, bd1_eq (show mo_keeps_L15 N N (nI 124) m = some m1 from a1), ck_t b123, ck_t b123, g1, lI 1, nS (by omega), lt_e]
      exact k1
    · have hi : i < 8 := hi
      show RecIs _ (if i = 7 then P.1 else P.2.2 (i + 1))
      by_cases e : i = 7
      · rw [if_pos e]
        exact h1.cong o2.1 (fun j hj => by rw [e]; exact (k4 j hj).trans (hlo1 j hj))
      · rw [if_neg e]
        refine (h3 (i + 1) (by omega)).cong (o3 (i + 1) (by omega)).1 (fun j hj => ?_)
        show m'.1 4 (124 + 123 * i + j) = m.1 4 (124 + 123 * (i + 1) + j)
        rw [k5 _ (by omega) (by omega), f2 _ (by omega), show 124 + 123 * i + j = 124 + (123 * i + j) by omega, a5 (123 * i + j) (by omega) (by omega)]
        rw [show 247 + (123 * i + j) = 124 + 123 * (i + 1) + j by omega]
theorem pushP_ok {p : Nat} {P : Pst} (h : PsOk p P) : PsOk p (pushP P) := by
  obtain ⟨o1, o2, o3⟩ := h
  unfold pushP
  by_cases q : P.2.1 < 8
  · rw [if_pos q]
    refine ⟨by show P.2.1 + 1 ≤ 8; omega, o2, fun i hi => ?_⟩
    have hi : i < P.2.1 + 1 := hi
    show RecOk p (if i = P.2.1 then P.1 else P.2.2 i)
    split
    · exact o2
    · exact o3 i (by omega)
  · rw [if_neg q]
    refine ⟨Nat.le_refl _, o2, fun i hi => ?_⟩
    have hi : i < 8 := hi
    show RecOk p (if i = 7 then P.1 else P.2.2 (i + 1))
    split
    · exact o2
    · exact o3 (i + 1) (by omega)
theorem popP_ok {p : Nat} {P : Pst} (h : PsOk p P) (hk : 0 < P.2.1) : PsOk p (popP P) := ⟨by show P.2.1 - 1 ≤ 8; have := h.1; omega, h.2.2 _ (by omega), fun i hi => h.2.2 i (by have hi : i < P.2.1 - 1 := hi; omega)⟩
theorem mo_undo_eq {N p : Nat} {m : St} {P : Pst} (hN : 2000 ≤ N) (h : PsM (m.1 4) P) (hP : PsOk p P) (hk : 0 < P.2.1) : ∃ m', mo_undo N m = some (nI (P.2.1 - 1), m') ∧ Fr5 m m' ∧ PsM (m'.1 4) (popP P) := by
  obtain ⟨h1, h2, h3⟩ := h
  obtain ⟨o1, o2, o3⟩ := hP
  let k := P.2.1 - 1
  have hkk : k = P.2.1 - 1 := rfl
  let m1 := put m 4 123 (nI k)
  have g1 : m1.1 4 123 = nI k := by show (put m 4 123 _).1 4 123 = _; rw [put_at, if_pos ⟨rfl, rfl⟩]
  have f1 : ∀ j, j ≠ 123 → m1.1 4 j = m.1 4 j := fun j hj => by show (put m 4 123 _).1 4 j = _; rw [put_at, if_neg (by omega)]
  obtain ⟨m', k1, k2, k3, k4, k5⟩ := copy_loop (L := mo_undo_L40 N (nI (124 + 123 * k))) (n := 123) (x0 := 0) (K := 4) (K' := 4) (D := 0) (S := 124 + 123 * k)
    (fun f m => by rw [mo_undo_L40, lI 123, if_pos (nLEt (by omega) (by omega))])
    (fun f x m hx => by rw [mo_undo_L40, lI 123, if_neg (nI_ge (by omega) (by omega)), nA, ck_t (inb_t (by omega) (by omega)), ck_t (inb_t (by omega) (by omega)), ix_n (by omega), ix_n (by omega), lt_e, lt_e, lI 1, nA, show 124 + 123 * k + (0 + x) = 124 + 123 * k + x by omega, show 0 + x + 1 = 0 + (x + 1) by omega])
    (fun x y hx hy _ => by omega) 123 0 N m1 (by omega) (by omega)
  have g : m'.1 4 123 = nI k := (k4 123 (by omega)).trans g1
  refine ⟨m', ?_, Fr5.put.tr ⟨k2, k3⟩, ?_, g, fun i hi => ?_⟩
  · unfold mo_undo
    rw [ck_t b123, i123, h2, if_neg (by rw [lI 0, nEQ (by omega) (by omega)]; omega), ck_t b123, ck_t b123, lI 1, nS (by omega), lt_e]
    show ck _ (lt (124 + 123 * m1.1 4 123) _) = _
    rw [ck_t b123, g1, lI 123, lI 124, nM, nA, lt_e, lI 0]
    rw [bd1_eq (show mo_undo_L40 N (nI (124 + 123 * k)) N (nI 0) m1 = some m' from k1), ← lI 123, ck_t b123, g]
  · refine (h3 k (by omega)).cong (o3 k (by omega)).1 (fun j hj => ?_)
    have := k5 j (by omega) hj
    rw [Nat.zero_add] at this
    rw [this]
    exact f1 _ (by omega)
  · have hi : i < P.2.1 - 1 := hi
    refine (h3 i (by omega)).cong (o3 i (by omega)).1 (fun j hj => ?_)
    show m'.1 4 (124 + 123 * i + j) = m.1 4 (124 + 123 * i + j)
    rw [k4 _ (by omega), f1 _ (by omega)]
theorem mo_remembers_eq {N : Nat} {m : St} (hN : 2000 ≤ N) : ∃ m', mo_remembers N m = some m' ∧ (∀ k, k ≠ 8 → m'.1 k = m.1 k) ∧ m'.2 = m.2 ∧ ∀ j, j < 123 → m'.1 8 j = m.1 4 j := by
  obtain ⟨m', k1, k2, k3, k4, k5⟩ := copy_loop (L := mo_remembers_L2 N) (n := 123) (x0 := 0) (K := 8) (K' := 4) (D := 0) (S := 0)
    (fun f m => by rw [mo_remembers_L2, lI 123, if_pos (nLEt (by omega) (by omega))])
    (fun f x m hx => by rw [mo_remembers_L2, lI 123, if_neg (nI_ge (by omega) (by omega)), ck_t (inb_t (by omega) (by omega)), ck_t (inb_t (by omega) (by omega)), ix_n (by omega), lt_e, lt_e, lI 1, nA, show 0 + x + 1 = 0 + (x + 1) by omega])
    (fun x y hx hy h => by omega) 123 0 N m (by omega) (by omega)
  exact ⟨m', bd1_eq (show mo_remembers_L2 N N 0 m = some m' from k1), k2, k3, fun j hj => by have := k5 j (by omega) hj; rw [Nat.zero_add] at this; exact this⟩
theorem mo_lets_eq {N : Nat} {m : St} (hN : 2000 ≤ N) : ∃ m', mo_lets N m = some m' ∧ (∀ k, k ≠ 4 → m'.1 k = m.1 k) ∧ m'.2 = m.2 ∧ (∀ j, 123 ≤ j → m'.1 4 j = m.1 4 j) ∧ ∀ j, j < 123 → m'.1 4 j = m.1 8 j := by
  obtain ⟨m', k1, k2, k3, k4, k5⟩ := copy_loop (L := mo_lets_L2 N) (n := 123) (x0 := 0) (K := 4) (K' := 8) (D := 0) (S := 0)
    (fun f m => by rw [mo_lets_L2, lI 123, if_pos (nLEt (by omega) (by omega))])
    (fun f x m hx => by rw [mo_lets_L2, lI 123, if_neg (nI_ge (by omega) (by omega)), ck_t (inb_t (by omega) (by omega)), ck_t (inb_t (by omega) (by omega)), ix_n (by omega), lt_e, lt_e, lI 1, nA, show 0 + x + 1 = 0 + (x + 1) by omega])
    (fun x y hx hy h => by omega) 123 0 N m (by omega) (by omega)
  exact ⟨m', bd1_eq (show mo_lets_L2 N N 0 m = some m' from k1), k2, k3, fun j hj => k4 j (by omega), fun j hj => by have := k5 j (by omega) hj; rw [Nat.zero_add] at this; exact this⟩
