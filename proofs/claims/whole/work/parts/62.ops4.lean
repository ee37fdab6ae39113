/-! the calls, on: kinds of rows, images -/
theorem a64 (x a b d : Int64) (h : a + b = d) : x + a + b = x + d := by rw [Int64.add_assoc, h]
theorem Rel.trace {c m : St} (h : Rel c m) {x y : Int64} (e : x = y) : Rel (putl c x) (putl m y) := by
  obtain ⟨hx, ⟨T, hT, hP, hI⟩, hl, ht⟩ := h
  exact ⟨hx, ⟨T, hT, hP, hI⟩, hl, e⟩
theorem pp64 {c : St} {x a b d : Int64} (h : a + b = d) : putl (putl c (x + a)) ((putl c (x + a)).2 + b) = putl c (x + d) := congrArg (fun z => (c.1, z)) (a64 x a b d h)
theorem PastAt.putl {c : St} {b p a : Nat} {P : Pst} {x : Int64} (h : PastAt c b p a P) : PastAt (putl c x) b p a P := h
theorem markRow_eq {N p a i : Nat} {c : St} {P : Pst} (h : PastAt c 3 p a P) (hi : i < Rc.n P.1) : wb_markOfRow N (nI i) c = some (nI (Rc.t P.1 i), putl c (c.2 + 1)) := by
  have h5 := h.2.2.2.2.1
  have hn := h5.2.1
  unfold wb_markOfRow
  rw [lt_e, bd2_eq (wb_span_eq (show PastAt (putl c (c.2 + 1)) 3 p a P from h)), ck_t (isSp3 h.1), ck_t (inb_t (by omega) (by omega)), ix_n (by omega)]
  exact congrArg (fun z => some (z, putl c (c.2 + 1))) (h5.1.2.2.2 i hi).2.1
theorem markPoor_eq {N p a i : Nat} {c : St} {P : Pst} (h : PastAt c 3 p a P) (hi : i < Rc.n P.1) : wb_markOfPoor N (nI i) c = some (nI (Rc.t P.1 i + bear P.1 i), putl c (c.2 + 11)) := by
  have h5 := h.2.2.2.2.1
  unfold wb_markOfPoor
  rw [lt_e, bd2_eq (markRow_eq (show PastAt (putl c (c.2 + 10)) 3 p a P from h) hi), bd2_eq (wb_span_eq (show PastAt (putl (putl c (c.2 + 10)) ((putl c (c.2 + 10)).2 + 1)) 3 p a P from h)), ck_t (isSp3 h.1), bd2_eq (sp_bears_eq (show SpanIs (putl (putl c (c.2 + 10)) ((putl c (c.2 + 10)).2 + 1)) (spP 3 a) P.1 from h5.1) h5.2 hi), nA]
  exact congrArg (fun z => some (nI (Rc.t P.1 i + bear P.1 i), (c.1, z))) (a64 c.2 10 1 11 rfl)
theorem markBride_eq {N p a i : Nat} {c : St} {P : Pst} (h : PastAt c 3 p a P) (hi : i < Rc.n P.1) : wb_markOfBride N (nI i) c = some (nI (Rc.t P.1 i) - nI (Rc.o P.1 i), putl c (c.2 + 101)) := by
  have h5 := h.2.2.2.2.1
  have hn := h5.2.1
  unfold wb_markOfBride
  rw [lt_e, bd2_eq (markRow_eq (show PastAt (putl c (c.2 + 100)) 3 p a P from h) hi), bd2_eq (wb_span_eq (show PastAt (putl (putl c (c.2 + 100)) ((putl c (c.2 + 100)).2 + 1)) 3 p a P from h)), ck_t (isSp3 h.1), ck_t (inb_t (by omega) (by omega)), ix_n (by omega)]
  rw [show (putl (putl c (c.2 + 100)) ((putl c (c.2 + 100)).2 + 1)).1 (spP 3 a + 3) i = nI (Rc.o P.1 i) from (h5.1.2.2.2 i hi).2.2]
  exact congrArg (fun z => some (nI (Rc.t P.1 i) - nI (Rc.o P.1 i), (c.1, z))) (a64 c.2 100 1 101 rfl)
theorem markDrover_eq {N p a i : Nat} {c : St} {P : Pst} (h : PastAt c 3 p a P) (hi : i < Rc.n P.1) : wb_markOfDrover N (nI i) c = some (nI (2 * (Rc.t P.1 i + bear P.1 i)), putl c (c.2 + 1011)) := by
  unfold wb_markOfDrover
  rw [lt_e, bd2_eq (markPoor_eq (h.putl (x := c.2 + 1000)) hi), lI 2, nM, Nat.mul_comm]
  rw [pp64 (show (1000 : Int64) + 11 = 1011 by decide)]
theorem markOath_eq {N k a i : Nat} {c : St} {T : Tdt} {P : Pst} (hk : isT k) (h6 : c.1 0 6 = nI k) (hC : TdC c k T) (hO : TdOk T) (h : PastAt c 3 T.1 a P) (hi : i < Rc.n P.1) : wb_markOfOath N (nI i) c = some (nI (Rc.t P.1 i) - nI (Rc.o P.1 i) + nI (T.2.2.2.1 (Rc.w P.1 i)), putl c (c.2 + 10101)) := by
  have h5 := h.2.2.2.2.1
  have hn := h5.2.1
  have hkl := isT_lt hk
  have hw := (h5.2.2.2.2 i hi).1
  have hp := hO.1
  let c1 := putl c (c.2 + 10000)
  let c2 := putl c1 (c1.2 + 101)
  have e1 : c2.1 (spP 3 a + 1) i = nI (Rc.w P.1 i) := (h5.1.2.2.2 i hi).1
  have e2 : c2.1 (k + 1) (Rc.w P.1 i) = nI (T.2.2.2.1 (Rc.w P.1 i)) := (hC.2.2.2 _ hw).1
  have e3 : c2.1 0 6 = nI k := h6
  unfold wb_markOfOath
  rw [lt_e, bd2_eq (markBride_eq (show PastAt c1 3 T.1 a P from h.putl) hi)]
  show lt (ix (c2.1 0 6)) _ = _
  rw [e3, ix_n (by omega), lt_e, ck_t (isTd_t hk)]
  show bd2 (wb_span N c2) _ = _
  rw [bd2_eq (wb_span_eq (show PastAt c2 3 T.1 a P from h.putl.putl)), ck_t (isSp3 h.1), ck_t (inb_t (by omega) (by omega)), ix_n (by omega), e1, ck_t (inb_t (by omega) (by omega)), ix_n (by omega), e2]
  rw [show c2 = putl c (c.2 + 10101) from pp64 (by decide)]
theorem markSheep_eq {N p a i : Nat} {c : St} {P : Pst} (h : PastAt c 3 p a P) (hi : i < Rc.n P.1) : wb_markOfSheep N (nI i) c = some (nI (Rc.t P.1 i) + nI (Rc.year P.1), putl c (c.2 + 100001)) := by
  have h5 := h.2.2.2.2.1
  let c1 := putl c (c.2 + 100000)
  let c2 := putl c1 (c1.2 + 1)
  have e1 : c2.1 (spP 3 a) 5 = nI (Rc.year P.1) := h5.1.2.2.1
  unfold wb_markOfSheep
  rw [lt_e, bd2_eq (markRow_eq (show PastAt c1 3 p a P from h.putl) hi)]
  show bd2 (wb_span N c2) _ = _
  rw [bd2_eq (wb_span_eq (show PastAt c2 3 p a P from h.putl.putl)), ck_t (isSp3 h.1), e1]
  rw [show c2 = putl c (c.2 + 100001) from pp64 (by decide)]
/-- the mark, as it is: by kind -/
def markV (T : Tdt) (r : Rc) (k i : Nat) : Int32 :=
  if k = 0 then nI (Rc.t r i) else if k = 1 then nI (Rc.t r i + bear r i) else if k = 2 then nI (Rc.t r i) - nI (Rc.o r i) else if k = 3 then nI (2 * (Rc.t r i + bear r i)) else if k = 4 then nI (Rc.t r i) - nI (Rc.o r i) + nI (T.2.2.2.1 (Rc.w r i)) else nI (Rc.t r i) + nI (Rc.year r)
theorem mo_markJ {N k i : Nat} {m : St} {T : Tdt} {r : Rc} {t0 t1 : Int64} (hM : TdM (m.1 2) T) (hO : TdOk T) (h : RecIs (m.1 4) r) (hr : RecOk T.1 r) (hi : i < Rc.n r) (hk : k < 6) : mo_mark_J80 N (nI k) (nI i) t0 t1 m = some (markV T r k i, putl m (t1 + t0)) := by
  have hn := hr.1
  have hw := (hr.2.2.2 i hi).1
  have hp := hO.1
  let m1 := putl m (t1 + t0)
  obtain ⟨f1, f2, f3⟩ := h.2.2.2 i hi
  have e1 : m1.1 4 (3 + i) = nI (Rc.w r i) := f1
  have e2 : m1.1 4 (43 + i) = nI (Rc.t r i) := f2
  have e3 : m1.1 4 (83 + i) = nI (Rc.o r i) := f3
  have e4 : m1.1 2 (6 + Rc.w r i) = nI (T.2.2.2.1 (Rc.w r i)) := (hM.2.2.2 _ hw).1
  have e5 : m1.1 4 2 = nI (Rc.year r) := h.2.2.1
  unfold mo_mark_J80 markV
  rw [lt_e]
  show ck (inb (43 + nI i) 1108) (lt (m1.1 4 (ix (43 + nI i))) fun x6 => bd2 (mo_bears N (nI i) m1) _) = some (_, m1)
  rw [lI 43, nA, ck_t (inb_t (by omega) (by omega)), ix_n (by omega), e2, lt_e, bd2_eq (mo_bears_eq (show RecIs (m1.1 4) r from h) hr hi), lt_e, lI 83, nA, ck_t (inb_t (by omega) (by omega)), ix_n (by omega), e3, lt_e, nA, lI 3, nA, ck_t (inb_t (by omega) (by omega)), ix_n (by omega), e1, lI 6, nA, ck_t (inb_t (by omega) (by omega)), ix_n (by omega), e4, ck_t b2, i2, e5, lI 2, nM]
  match k, hk with
  | 0, _ => rfl
  | 1, _ => rfl
  | 2, _ => rfl
  | 3, _ => rfl
  | 4, _ => rfl
  | 5, _ => rfl
theorem op_mark {N : Nat} : Op_mark N Rel := by
  intro a1 a2 c m hR
  obtain ⟨hx, ⟨T, hT, ⟨P, a, p1, p2, p3⟩, hI⟩, hl, ht⟩ := id hR
  obtain ⟨hO, ⟨k, hk, k6, k7, kC⟩, hM⟩ := id hT
  have h5 := p2.2.2.2.2.1
  have hn := p1.2.1.1
  unfold wb_mark mo_mark
  rw [bd2_eq (wb_span_eq p2), ck_t (isSp3 p2.1)]
  rcases Classical.em (inR a2 (Rc.n P.1)) with hi | hi
  · obtain ⟨i, hq, rfl⟩ := id hi
    rw [bd2_eq (sp_has_t h5.1.1 hn hi), if_neg (show ¬ (1 : Int32) = 0 by decide)]
    rcases in_both (N := N) (n := 5) (a := a1) c m (by omega) with ⟨hj, -, e2⟩ | ⟨hj, -, e2⟩
    · rw [bd2_eq (show mo_in N a1 0 5 m = _ from e2), if_neg (show ¬ (1 : Int32) = 0 by decide), bd2_eq (mo_isRow_t p3.1.1 hn hi), if_neg (show ¬ (1 : Int32) = 0 by decide)]
      obtain ⟨b, hb, rfl⟩ := hj
      match b, hb with
      | 0, _ =>
        rw [if_pos (show nI 0 = 0 from rfl), if_pos (show nI 0 = 0 from rfl), bd2_eq (markRow_eq p2 hq), mo_markJ hM hO p3.1 p1.2.1 hq (by omega)]
        exact ⟨_, _, _, rfl, rfl, hR.trace (by rw [ht])⟩
      | 1, _ =>
        rw [if_neg (show ¬ nI 1 = 0 by decide), if_neg (show ¬ nI 1 = 0 by decide), if_pos (show nI 1 = 1 from rfl), if_pos (show nI 1 = 1 from rfl), bd2_eq (markPoor_eq p2 hq), mo_markJ hM hO p3.1 p1.2.1 hq (by omega)]
        exact ⟨_, _, _, rfl, rfl, hR.trace (by rw [ht])⟩
      | 2, _ =>
        rw [if_neg (show ¬ nI 2 = 0 by decide), if_neg (show ¬ nI 2 = 0 by decide), if_neg (show ¬ nI 2 = 1 by decide), if_neg (show ¬ nI 2 = 1 by decide), if_pos (show nI 2 = 2 from rfl), if_pos (show nI 2 = 2 from rfl), bd2_eq (markBride_eq p2 hq), mo_markJ hM hO p3.1 p1.2.1 hq (by omega)]
        exact ⟨_, _, _, rfl, rfl, hR.trace (by rw [ht])⟩
      | 3, _ =>
        rw [if_neg (show ¬ nI 3 = 0 by decide), if_neg (show ¬ nI 3 = 0 by decide), if_neg (show ¬ nI 3 = 1 by decide), if_neg (show ¬ nI 3 = 1 by decide), if_neg (show ¬ nI 3 = 2 by decide), if_neg (show ¬ nI 3 = 2 by decide), if_pos (show nI 3 = 3 from rfl), if_pos (show nI 3 = 3 from rfl), bd2_eq (markDrover_eq p2 hq), mo_markJ hM hO p3.1 p1.2.1 hq (by omega)]
        exact ⟨_, _, _, rfl, rfl, hR.trace (by rw [ht])⟩
      | 4, _ =>
        rw [if_neg (show ¬ nI 4 = 0 by decide), if_neg (show ¬ nI 4 = 0 by decide), if_neg (show ¬ nI 4 = 1 by decide), if_neg (show ¬ nI 4 = 1 by decide), if_neg (show ¬ nI 4 = 2 by decide), if_neg (show ¬ nI 4 = 2 by decide), if_neg (show ¬ nI 4 = 3 by decide), if_neg (show ¬ nI 4 = 3 by decide), if_pos (show nI 4 = 4 from rfl), if_pos (show nI 4 = 4 from rfl), bd2_eq (markOath_eq hk k6 kC hO p2 hq), mo_markJ hM hO p3.1 p1.2.1 hq (by omega)]
        exact ⟨_, _, _, rfl, rfl, hR.trace (by rw [ht])⟩
      | 5, _ =>
        rw [if_neg (show ¬ nI 5 = 0 by decide), if_neg (show ¬ nI 5 = 0 by decide), if_neg (show ¬ nI 5 = 1 by decide), if_neg (show ¬ nI 5 = 1 by decide), if_neg (show ¬ nI 5 = 2 by decide), if_neg (show ¬ nI 5 = 2 by decide), if_neg (show ¬ nI 5 = 3 by decide), if_neg (show ¬ nI 5 = 3 by decide), if_neg (show ¬ nI 5 = 4 by decide), if_neg (show ¬ nI 5 = 4 by decide), if_pos (show nI 5 = 5 from rfl), bd2_eq (markSheep_eq p2 hq), mo_markJ hM hO p3.1 p1.2.1 hq (by omega)]
        exact ⟨_, _, _, rfl, rfl, hR.trace (by rw [ht])⟩
    · rw [bd2_eq (show mo_in N a1 0 5 m = _ from e2), if_pos rfl, if_neg (show ¬ a1 = 0 from fun q => hj ⟨0, by omega, q⟩), if_neg (show ¬ a1 = 1 from fun q => hj ⟨1, by omega, q⟩), if_neg (show ¬ a1 = 2 from fun q => hj ⟨2, by omega, q⟩), if_neg (show ¬ a1 = 3 from fun q => hj ⟨3, by omega, q⟩), if_neg (show ¬ a1 = 4 from fun q => hj ⟨4, by omega, q⟩), if_neg (show ¬ a1 = 5 from fun q => hj ⟨5, by omega, q⟩)]
      exact ⟨_, c, m, rfl, rfl, hR⟩
  · rw [bd2_eq (sp_has_f h5.1.1 hn hi), if_pos rfl]
    rcases in_both (N := N) (n := 5) (a := a1) c m (by omega) with ⟨hj, -, e2⟩ | ⟨hj, -, e2⟩
    · rw [bd2_eq (show mo_in N a1 0 5 m = _ from e2), if_neg (show ¬ (1 : Int32) = 0 by decide), bd2_eq (mo_isRow_f p3.1.1 hn hi), if_pos rfl]
      exact ⟨_, c, m, rfl, rfl, hR⟩
    · rw [bd2_eq (show mo_in N a1 0 5 m = _ from e2), if_pos rfl]
      exact ⟨_, c, m, rfl, rfl, hR⟩
theorem PsM.cong {p : Nat} {F F' : Nat → Int32} {P : Pst} (h : PsM F P) (hP : PsOk p P) (e : ∀ j, j < 1108 → F' j = F j) : PsM F' P := by
  obtain ⟨h1, h2, h3⟩ := h
  obtain ⟨o1, o2, o3⟩ := hP
  refine ⟨h1.cong o2.1 (fun j hj => e j (by omega)), (e 123 (by omega)).trans h2, fun i hi => (h3 i hi).cong (o3 i hi).1 (fun j hj => e _ (by omega))⟩
theorem isPs_t : ∀ i, i < 2 → isPs (42 + 38 * i) = true := by decide
theorem isB_im {i : Nat} (h : i < 2) : isB (42 + 38 * i) := by
  match i, h with
  | 0, _ => exact Or.inr (Or.inl rfl)
  | 1, _ => exact Or.inr (Or.inr rfl)
theorem op_keep {N : Nat} (hN : 2000 ≤ N) : Op_keep N Rel := by
  intro a1 c m hR
  obtain ⟨hx, ⟨T, hT, ⟨P, a, p1, p2, p3⟩, hI⟩, hl, ht⟩ := id hR
  unfold wb_keep mo_keep
  rcases in_both (N := N) (n := 1) (a := a1) c m (by omega) with ⟨hi, e1, e2⟩ | ⟨hi, e1, e2⟩
  · rw [bd2_eq (show wb_within N a1 0 1 c = _ from e1), if_neg (show ¬ (1 : Int32) = 0 by decide), bd2_eq (show mo_in N a1 0 1 m = _ from e2), if_neg (show ¬ (1 : Int32) = 0 by decide)]
    obtain ⟨i, hi, rfl⟩ := hi
    obtain ⟨c1, t1, t2, t3⟩ := ps_takeAll_eq (N := N) (by omega) (isB_im hi) (Or.inl rfl) (by omega) p2
    obtain ⟨m1, k1, k2, k3, k4, k5⟩ := copy_loop (L := mo_keep_L13 N (nI i)) (n := 1108) (x0 := 0) (K := 5) (K' := 4) (D := 1108 * i) (S := 0)
      (fun f m => by rw [mo_keep_L13, lI 1108, if_pos (nLEt (by omega) (by omega))])
      (fun f x m hx => by rw [mo_keep_L13, lI 1108, if_neg (nI_ge (by omega) (by omega)), nM, nA, ck_t (inb_t (by omega) (by omega)), ck_t (inb_t (by omega) (by omega)), ix_n (by omega), ix_n (by omega), lt_e, lt_e, lI 1, nA, show 1108 * i + (0 + x) = 1108 * i + x by omega, show 0 + x + 1 = 0 + (x + 1) by omega])
      (fun x y hx hy h => by omega) 1108 0 N m (by omega) (by omega)
    let c2 := put c1 118 i 1
    let m2 := put m1 6 i 1
    have oc : ∀ q, (q < 42 ∨ 118 < q) → c2.1 q = c.1 q := fun q h => (put_o (by omega)).trans (t2.1 q (by omega))
    have om : ∀ q, q ≠ 5 → q ≠ 6 → m2.1 q = m.1 q := fun q h1 h2 => (put_o h2).trans (k2 q h1)
    have hp2 : PastAt c2 3 T.1 a P := p2.cong (fun q h1 h2 => oc q (by omega))
    have hp3 : PsM (m2.1 4) P := by rw [om 4 (by omega) (by omega)]; exact p3
    have h5 := hp2.2.2.2.2.1
    have e3 : m2.1 4 2 = nI (Rc.year P.1) := hp3.1.2.2.1
    rw [ck_t (inb_t (by omega) (by omega)), ix_n (by omega), show 41 + 1 + (37 + 1) * i = 42 + 38 * i by omega, lt_e, ck_t (isPs_t i hi), bd1_eq t1, ck_t (inb_t (by omega) (by omega)), lt_e, lI 0, bd1_eq (show mo_keep_L13 N (nI i) N (nI 0) m = some m1 from k1), ck_t (inb_t (by omega) (by omega)), lt_e]
    show ∃ v c' m', bd2 (wb_span N c2) _ = _ ∧ ck (inb 2 1108) (some (m2.1 4 (ix 2), m2)) = _ ∧ _
    rw [bd2_eq (wb_span_eq hp2), ck_t (isSp3 hp2.1), ck_t b2, i2, e3, h5.1.2.2.1]
    refine ⟨_, c2, m2, rfl, rfl, hx.cong (by rw [oc 1 (by omega)]) (oc 2 (by omega)) (by rw [om 0 (by omega) (by omega)]) (om 1 (by omega) (by omega)), ⟨T, hT.cong (oc 0 (by omega)) (fun q h1 h2 => oc q (by omega)) (om 2 (by omega) (by omega)), ⟨P, a, p1, hp2, hp3⟩, fun j hj => ?_⟩, hl.cong (by rw [oc 119 (by omega)]) (oc 120 (by omega)) (oc 121 (by omega)) (by rw [om 0 (by omega) (by omega)]) (om 7 (by omega) (by omega)), by show c1.2 = m1.2; rw [t2.2, k3]; exact ht⟩
    have f1 : c2.1 118 j = if j = i then 1 else c1.1 118 j := put_k _ _ _ _ _
    have f2 : m2.1 6 j = if j = i then 1 else m1.1 6 j := put_k _ _ _ _ _
    have f3 : m2.1 5 = m1.1 5 := put_o (by omega)
    by_cases e : j = i
    · refine ⟨1, by omega, by rw [f1, if_pos e]; rfl, by rw [f2, if_pos e]; rfl, fun _ => ⟨P, a, p1, ?_, ?_⟩⟩
      · rw [e]; exact t3.cong (fun q h1 h2 => put_o (by omega))
      · refine p3.cong p1 (fun x hx => ?_)
        show m2.1 5 (1108 * j + x) = m.1 4 x
        rw [f3, e, k5 x (by omega) hx, Nat.zero_add]
    · obtain ⟨b, hb, g1, g2, g3⟩ := hI j hj
      refine ⟨b, hb, by rw [f1, if_neg e, t2.1 118 (by omega)]; exact g1, by rw [f2, if_neg e, k2 6 (by omega)]; exact g2, fun hb1 => ?_⟩
      obtain ⟨P', a', q1, q2, q3⟩ := g3 hb1
      refine ⟨P', a', q1, (q2.frame t2 (by omega)).cong (fun q h1 h2 => put_o (by omega)), q3.cong q1 (fun x hx => ?_)⟩
      show m2.1 5 (1108 * j + x) = m.1 5 (1108 * j + x)
      rw [f3]
      exact k4 _ (by omega)
  · rw [bd2_eq (show wb_within N a1 0 1 c = _ from e1), if_pos rfl, bd2_eq (show mo_in N a1 0 1 m = _ from e2), if_pos rfl]
    exact ⟨_, c, m, rfl, rfl, hR⟩
theorem op_back {N : Nat} (hN : 2000 ≤ N) : Op_back N Rel := by
  intro a1 c m hR
  obtain ⟨hx, ⟨T, hT, ⟨P, a, p1, p2, p3⟩, hI⟩, hl, ht⟩ := id hR
  unfold wb_back mo_back
  rcases in_both (N := N) (n := 1) (a := a1) c m (by omega) with ⟨hi, e1, e2⟩ | ⟨hi, e1, e2⟩
  · rw [bd2_eq (show wb_within N a1 0 1 c = _ from e1), if_neg (show ¬ (1 : Int32) = 0 by decide), bd2_eq (show mo_in N a1 0 1 m = _ from e2), if_neg (show ¬ (1 : Int32) = 0 by decide)]
    obtain ⟨i, hi, rfl⟩ := hi
    obtain ⟨b, hb, g1, g2, g3⟩ := hI i hi
    rw [ck_t (inb_t (by omega) (by omega)), ix_n (by omega), ck_t (inb_t (by omega) (by omega)), g1, g2]
    by_cases hb1 : b = 1
    · obtain ⟨P', a', q1, q2, q3⟩ := g3 hb1
      have hb0 : ¬ nI b = 0 := by rw [hb1]; decide
      rw [if_neg hb0, if_neg hb0]
      obtain ⟨c1, t1, t2, t3⟩ := ps_takeAll_eq (N := N) (by omega) (Or.inl rfl) (isB_im hi) (by omega) q2
      obtain ⟨m1, k1, k2, k3, k4, k5⟩ := copy_loop (L := mo_back_L25 N (nI i)) (n := 1108) (x0 := 0) (K := 4) (K' := 5) (D := 0) (S := 1108 * i)
        (fun f m => by rw [mo_back_L25, lI 1108, if_pos (nLEt (by omega) (by omega))])
        (fun f x m hx => by rw [mo_back_L25, lI 1108, if_neg (nI_ge (by omega) (by omega)), nM, nA, ck_t (inb_t (by omega) (by omega)), ck_t (inb_t (by omega) (by omega)), ix_n (by omega), ix_n (by omega), lt_e, lt_e, lI 1, nA, show 1108 * i + (0 + x) = 1108 * i + x by omega, show 0 + x + 1 = 0 + (x + 1) by omega])
        (fun x y hx hy h => by omega) 1108 0 N m (by omega) (by omega)
      have hp3 : PsM (m1.1 4) P' := q3.cong q1 (fun x hx => by have := k5 x (by omega) hx; rw [Nat.zero_add] at this; exact this)
      have h5 := t3.2.2.2.2.1
      have e3 : m1.1 4 2 = nI (Rc.year P'.1) := hp3.1.2.2.1
      rw [show 41 + 1 + (37 + 1) * i = 42 + 38 * i by omega, lt_e, ck_t (inb_t (by omega) (by omega)), ck_t (isPs_t i hi), bd1_eq t1, bd2_eq (wb_span_eq t3), ck_t (isSp3 t3.1), h5.1.2.2.1, lI 0, bd1_eq (show mo_back_L25 N (nI i) N (nI 0) m = some m1 from k1), ck_t b2, i2, e3]
      exact ⟨_, c1, m1, rfl, rfl, Rel.deed hx hT hI hl ht t2 ⟨k2, k3⟩ q1 t3 hp3⟩
    · have hb0 : nI b = 0 := by rw [show b = 0 by omega]; rfl
      rw [if_pos hb0, if_pos hb0, ck_t (inb_t (by omega) (by omega))]
      exact ⟨_, c, m, rfl, rfl, hR⟩
  · rw [bd2_eq (show wb_within N a1 0 1 c = _ from e1), if_pos rfl, bd2_eq (show mo_in N a1 0 1 m = _ from e2), if_pos rfl]
    exact ⟨_, c, m, rfl, rfl, hR⟩
