/-! PURE: what changes a bridge -/
/-- only the span at k has changed -/
def FrS (σ σ' : St) (k : Nat) : Prop := (∀ q, (q < k ∨ k + 3 < q) → σ'.1 q = σ.1 q) ∧ σ'.2 = σ.2
theorem FrS.rf {σ : St} {k : Nat} : FrS σ σ k := ⟨fun _ _ => rfl, rfl⟩
theorem FrS.tr {σ σ' σ'' : St} {k : Nat} (h : FrS σ σ' k) (h' : FrS σ' σ'' k) : FrS σ σ'' k := ⟨fun q hq => (h'.1 q hq).trans (h.1 q hq), h'.2.trans h.2⟩
theorem FrS.put {σ : St} {k k' j : Nat} {v : Int32} (h1 : k ≤ k') (h2 : k' ≤ k + 3) : FrS σ (put σ k' j v) k := ⟨fun q hq => put_o (by omega), rfl⟩
theorem FrS.cpy {σ : St} {k k' k0 sp dp n : Nat} (h1 : k ≤ k') (h2 : k' ≤ k + 3) : FrS σ (cpy σ k0 k' sp dp n) k := ⟨fun q hq => cpy_o (by omega), rfl⟩
/-- another span stays -/
theorem SpanIs.frame {σ σ' : St} {k q : Nat} {r : Rc} (h : SpanIs σ q r) (hf : FrS σ σ' k) (hd : q + 3 < k ∨ k + 3 < q) : SpanIs σ' q r := by
  obtain ⟨h1, h2, h3, h4⟩ := h
  have e0 := hf.1 q (by omega)
  have e1 := hf.1 (q + 1) (by omega)
  have e2 := hf.1 (q + 2) (by omega)
  have e3 := hf.1 (q + 3) (by omega)
  exact ⟨by rw [e0]; exact h1, by rw [e0]; exact h2, by rw [e0]; exact h3, fun j hj => by rw [e1, e2, e3]; exact h4 j hj⟩
/-- so much of a span is always so -/
def SpanWf (σ : St) (k : Nat) : Prop := ∃ n b, n ≤ 40 ∧ b ≤ 1 ∧ σ.1 k 3 = nI n ∧ σ.1 k 4 = nI b
theorem SpanIs.wf {σ : St} {k p : Nat} {r : Rc} (h : SpanIs σ k r) (hr : RecOk p r) : SpanWf σ k := ⟨_, _, hr.1, hr.2.1, h.1, h.2.1⟩
theorem SpanWf.frame {σ σ' : St} {k q : Nat} (h : SpanWf σ q) (hf : FrS σ σ' k) (hd : q < k ∨ k + 3 < q) : SpanWf σ' q := by
  obtain ⟨n, b, h1, h2, h3, h4⟩ := h
  exact ⟨n, b, h1, h2, by rw [hf.1 q hd]; exact h3, by rw [hf.1 q hd]; exact h4⟩
theorem sp_take_eq {N k0 k1 : Nat} {σ : St} (hw : SpanWf σ k1) (hd : k0 + 3 < k1 ∨ k1 + 3 < k0) : ∃ σ', sp_take N k0 k1 σ = some σ' ∧ FrS σ σ' k0 ∧ SpanWf σ' k0 ∧ ∀ (r : Rc) (p : Nat), RecOk p r → SpanIs σ k1 r → SpanIs σ' k0 r := by
  obtain ⟨n, b, hn, hb, e3, e4⟩ := hw
  have c1 : ∀ (τ : St), τ.1 k1 3 = nI n → cpok 0 0 (τ.1 k1 3) 40 40 = true := fun τ h => by rw [h]; exact cpok_t (sp := 0) (dp := 0) (by omega) (by omega) (by omega) (by omega)
  let σ1 := cpy σ (k1 + 1) (k0 + 1) 0 0 n
  let σ2 := cpy σ1 (k1 + 2) (k0 + 2) 0 0 n
  let σ3 := cpy σ2 (k1 + 3) (k0 + 3) 0 0 n
  let σ4 := put σ3 k0 3 (nI n)
  let σ5 := put σ4 k0 4 (nI b)
  let σ6 := put σ5 k0 5 (σ.1 k1 5)
  have f1 : ∀ q j, q ≠ k0 + 1 → σ1.1 q j = σ.1 q j := fun q j h => congrFun (cpy_o h) j
  have f2 : ∀ q j, q ≠ k0 + 2 → σ2.1 q j = σ1.1 q j := fun q j h => congrFun (cpy_o h) j
  have f3 : ∀ q j, q ≠ k0 + 3 → σ3.1 q j = σ2.1 q j := fun q j h => congrFun (cpy_o h) j
  have f4 : ∀ q j, q ≠ k0 → σ4.1 q j = σ3.1 q j := fun q j h => congrFun (put_o h) j
  have f5 : ∀ q j, q ≠ k0 → σ5.1 q j = σ4.1 q j := fun q j h => congrFun (put_o h) j
  have f6 : ∀ q j, q ≠ k0 → σ6.1 q j = σ5.1 q j := fun q j h => congrFun (put_o h) j
  have g1 : σ1.1 k1 3 = nI n := by rw [f1 _ _ (by omega), e3]
  have g2 : σ2.1 k1 3 = nI n := by rw [f2 _ _ (by omega), g1]
  have g3 : σ3.1 k1 3 = nI n := by rw [f3 _ _ (by omega), g2]
  have g4 : σ4.1 k1 4 = nI b := by rw [f4 _ _ (by omega), f3 _ _ (by omega), f2 _ _ (by omega), f1 _ _ (by omega), e4]
  have g5 : σ5.1 k1 5 = σ.1 k1 5 := by rw [f5 _ _ (by omega), f4 _ _ (by omega), f3 _ _ (by omega), f2 _ _ (by omega), f1 _ _ (by omega)]
  have hfr : FrS σ σ6 k0 := ((((FrS.cpy (by omega) (by omega)).tr (FrS.cpy (by omega) (by omega))).tr (FrS.cpy (by omega) (by omega))).tr (FrS.put (by omega) (by omega))).tr ((FrS.put (by omega) (by omega)).tr (FrS.put (by omega) (by omega)))
  have a3 : σ6.1 k0 3 = nI n := by
    show (put σ5 k0 5 _).1 k0 3 = _
    rw [put_at, if_neg (by omega)]
    show (put σ4 k0 4 _).1 k0 3 = _
    rw [put_at, if_neg (by omega)]
    show (put σ3 k0 3 _).1 k0 3 = _
    rw [put_at, if_pos ⟨rfl, rfl⟩]
  have a4 : σ6.1 k0 4 = nI b := by
    show (put σ5 k0 5 _).1 k0 4 = _
    rw [put_at, if_neg (by omega)]
    show (put σ4 k0 4 _).1 k0 4 = _
    rw [put_at, if_pos ⟨rfl, rfl⟩]
  have a5 : σ6.1 k0 5 = σ.1 k1 5 := by
    show (put σ5 k0 5 _).1 k0 5 = _
    rw [put_at, if_pos ⟨rfl, rfl⟩]
  refine ⟨σ6, ?_, hfr, ⟨n, b, hn, hb, a3, a4⟩, fun r p ho hr => ?_⟩
  · unfold sp_take
    rw [ck_t (c1 σ e3), lt_e, e3, ix_n (by omega), show ix (0 : Int32) = 0 from rfl]
    show ck (cpok 0 0 (σ1.1 k1 3) 40 40) _ = _
    rw [ck_t (c1 σ1 g1), lt_e, g1, ix_n (by omega)]
    show ck (cpok 0 0 (σ2.1 k1 3) 40 40) _ = _
    rw [ck_t (c1 σ2 g2), lt_e, g2, ix_n (by omega)]
    show lt (put σ3 k0 3 (σ3.1 k1 3)) _ = _
    rw [g3, lt_e]
    show ck (bz (σ4.1 k1 4)) (lt (put σ4 k0 4 (σ4.1 k1 4)) _) = _
    rw [g4, ck_t (bzb hb), lt_e]
    show lt (put σ5 k0 5 (σ5.1 k1 5)) _ = _
    rw [g5, lt_e]
  · obtain ⟨h1, h2, h3, h4⟩ := hr
    have hr40 := ho.1
    have hnn : Rc.n r = n := (nI_eq (by omega) (by omega)).mp (h1.symm.trans e3)
    refine ⟨by rw [a3, hnn], by rw [a4, ← e4]; exact h2, by rw [a5]; exact h3, fun j hj => ?_⟩
    have hjn : j < n := by omega
    obtain ⟨q1, q2, q3⟩ := h4 j hj
    refine ⟨?_, ?_, ?_⟩
    · rw [f6 _ _ (by omega), f5 _ _ (by omega), f4 _ _ (by omega), f3 _ _ (by omega), f2 _ _ (by omega)]
      show (cpy σ (k1 + 1) (k0 + 1) 0 0 n).1 (k0 + 1) j = _
      rw [cpy_at, if_pos ⟨rfl, by omega, by omega⟩, show 0 + (j - 0) = j by omega]; exact q1
    · rw [f6 _ _ (by omega), f5 _ _ (by omega), f4 _ _ (by omega), f3 _ _ (by omega)]
      show (cpy σ1 (k1 + 2) (k0 + 2) 0 0 n).1 (k0 + 2) j = _
      rw [cpy_at, if_pos ⟨rfl, by omega, by omega⟩, f1 _ _ (by omega), show 0 + (j - 0) = j by omega]; exact q2
    · rw [f6 _ _ (by omega), f5 _ _ (by omega), f4 _ _ (by omega)]
      show (cpy σ2 (k1 + 3) (k0 + 3) 0 0 n).1 (k0 + 3) j = _
      rw [cpy_at, if_pos ⟨rfl, by omega, by omega⟩, f2 _ _ (by omega), f1 _ _ (by omega), show 0 + (j - 0) = j by omega]; exact q3
/-- rows i .. i + m - 1 go -/
def remR (i m : Nat) (r : Rc) : Rc := (Rc.n r - m, Rc.rain r, Rc.year r, (fun j => if j < i then Rc.w r j else Rc.w r (j + m)), (fun j => if j < i then Rc.t r j else Rc.t r (j + m)), (fun j => if j < i then Rc.o r j else Rc.o r (j + m)))
theorem sp_removeFrom_eq {N k i m : Nat} {σ : St} {p : Nat} {r : Rc} (hS : SpanIs σ k r) (hr : RecOk p r) (hm : 0 < m) (him : i + m ≤ Rc.n r) : ∃ σ', sp_removeFrom N k (nI i) (nI m) σ = some σ' ∧ FrS σ σ' k ∧ SpanIs σ' k (remR i m r) := by
  have hn := hr.1
  obtain ⟨h1, h2, h3, h4⟩ := hS
  let b := Rc.n r - i - m
  have hb : b = Rc.n r - i - m := rfl
  have ck1 : cpok (nI i + nI m) (nI i) (nI b) 40 40 = true := by rw [nA]; exact cpok_t (by omega) (by omega) (by omega) (by omega)
  let σ1 := cpy σ (k + 1) (k + 1) (i + m) i b
  let σ2 := cpy σ1 (k + 2) (k + 2) (i + m) i b
  let σ3 := cpy σ2 (k + 3) (k + 3) (i + m) i b
  let σ4 := put σ3 k 3 (nI (Rc.n r - m))
  have f1 : ∀ q j, q ≠ k + 1 → σ1.1 q j = σ.1 q j := fun q j h => congrFun (cpy_o h) j
  have f2 : ∀ q j, q ≠ k + 2 → σ2.1 q j = σ1.1 q j := fun q j h => congrFun (cpy_o h) j
  have f3 : ∀ q j, q ≠ k + 3 → σ3.1 q j = σ2.1 q j := fun q j h => congrFun (cpy_o h) j
  have f4 : ∀ q j, q ≠ k → σ4.1 q j = σ3.1 q j := fun q j h => congrFun (put_o h) j
  have g3 : σ3.1 k 3 = nI (Rc.n r) := by rw [f3 _ _ (by omega), f2 _ _ (by omega), f1 _ _ (by omega), h1]
  refine ⟨σ4, ?_, ((FrS.cpy (by omega) (by omega)).tr (FrS.cpy (by omega) (by omega))).tr ((FrS.cpy (by omega) (by omega)).tr (FrS.put (by omega) (by omega))), ?_, ?_, ?_, fun j hj => ?_⟩
  · unfold sp_removeFrom
    rw [h1, nS (by omega), nS (by omega), lt_e, if_neg (nI_pos (by omega)), if_neg (nI_nle hm (by omega)), if_pos (nI_pos' (by omega))]
    rw [ck_t ck1, lt_e, ck_t ck1, lt_e, ck_t ck1, lt_e, nA, ix_n (by omega), ix_n (by omega), ix_n (by omega)]
    show lt (put σ3 k 3 (σ3.1 k 3 - nI m)) _ = _
    rw [g3, nS (by omega), lt_e]
  · show (put σ3 k 3 _).1 k 3 = _
    rw [put_at, if_pos ⟨rfl, rfl⟩]; rfl
  · show (put σ3 k 3 _).1 k 4 = _
    rw [put_at, if_neg (by omega), f3 _ _ (by omega), f2 _ _ (by omega), f1 _ _ (by omega), h2]; rfl
  · show (put σ3 k 3 _).1 k 5 = _
    rw [put_at, if_neg (by omega), f3 _ _ (by omega), f2 _ _ (by omega), f1 _ _ (by omega), h3]; rfl
  · have hj : j < Rc.n r - m := hj
    show _ = nI (if j < i then _ else _) ∧ _ = nI (if j < i then _ else _) ∧ _ = nI (if j < i then _ else _)
    refine ⟨?_, ?_, ?_⟩
    · rw [f4 _ _ (by omega), f3 _ _ (by omega), f2 _ _ (by omega)]
      show (cpy σ (k + 1) (k + 1) (i + m) i b).1 (k + 1) j = _
      rw [cpy_at]
      by_cases q : j < i
      · rw [if_neg (by omega), if_pos q]; exact (h4 j (by omega)).1
      · rw [if_pos ⟨rfl, by omega, by omega⟩, if_neg q, show i + m + (j - i) = j + m by omega]; exact (h4 _ (by omega)).1
    · rw [f4 _ _ (by omega), f3 _ _ (by omega)]
      show (cpy σ1 (k + 2) (k + 2) (i + m) i b).1 (k + 2) j = _
      rw [cpy_at]
      by_cases q : j < i
      · rw [if_neg (by omega), if_pos q, f1 _ _ (by omega)]; exact (h4 j (by omega)).2.1
      · rw [if_pos ⟨rfl, by omega, by omega⟩, if_neg q, f1 _ _ (by omega), show i + m + (j - i) = j + m by omega]; exact (h4 _ (by omega)).2.1
    · rw [f4 _ _ (by omega)]
      show (cpy σ2 (k + 3) (k + 3) (i + m) i b).1 (k + 3) j = _
      rw [cpy_at]
      by_cases q : j < i
      · rw [if_neg (by omega), if_pos q, f2 _ _ (by omega), f1 _ _ (by omega)]; exact (h4 j (by omega)).2.2
      · rw [if_pos ⟨rfl, by omega, by omega⟩, if_neg q, f2 _ _ (by omega), f1 _ _ (by omega), show i + m + (j - i) = j + m by omega]; exact (h4 _ (by omega)).2.2
/-- i rows come behind -/
def appR (w t i : Nat) (r : Rc) : Rc := (Rc.n r + i, Rc.rain r, Rc.year r, (fun j => if j < Rc.n r then Rc.w r j else w), (fun j => if j < Rc.n r then Rc.t r j else t), (fun j => if j < Rc.n r then Rc.o r j else 0))
theorem appR_0 (w t : Nat) {σ : St} {k : Nat} {r : Rc} (h : SpanIs σ k r) : SpanIs σ k (appR w t 0 r) := by
  refine ⟨h.1, h.2.1, h.2.2.1, fun j hj => ?_⟩
  have hj : j < Rc.n r := hj
  show _ = nI (if j < Rc.n r then _ else _) ∧ _ = nI (if j < Rc.n r then _ else _) ∧ _ = nI (if j < Rc.n r then _ else _)
  rw [if_pos hj, if_pos hj, if_pos hj]
  exact h.2.2.2 j hj
theorem sp_knit_L {N k w t m : Nat} {r : Rc} (hm : Rc.n r + m ≤ 40) (hmm : m ≤ 9) : ∀ (d i f : Nat) (σ : St), i + d = m → d < f → SpanIs σ k (appR w t i r) → ∃ σ', sp_knit_L17 N k (nI m) (nI w) (nI t) f (nI i) σ = some σ' ∧ FrS σ σ' k ∧ SpanIs σ' k (appR w t m r) := by
  intro d
  induction d with
  | zero =>
    intro i f σ hi hf hS
    obtain ⟨f, rfl⟩ : ∃ g, f = g + 1 := ⟨f - 1, by omega⟩
    rw [sp_knit_L17, if_pos (nLEt (by omega) (by omega))]
    exact ⟨σ, rfl, FrS.rf, by rw [show m = i by omega]; exact hS⟩
  | succ d ih =>
    intro i f σ hi hf hS
    obtain ⟨f, rfl⟩ : ∃ g, f = g + 1 := ⟨f - 1, by omega⟩
    obtain ⟨h1, h2, h3, h4⟩ := hS
    have h1 : σ.1 k 3 = nI (Rc.n r + i) := h1
    have h2 : σ.1 k 4 = nI (Rc.rain r) := h2
    have h3 : σ.1 k 5 = nI (Rc.year r) := h3
    let n := Rc.n r + i
    let σ1 := put σ (k + 1) n (nI w)
    let σ2 := put σ1 (k + 2) n (nI t)
    let σ3 := put σ2 (k + 3) n (nI 0)
    let σ4 := put σ3 k 3 (nI (n + 1))
    have f1 : ∀ q j, q ≠ k + 1 → σ1.1 q j = σ.1 q j := fun q j h => congrFun (put_o h) j
    have f2 : ∀ q j, q ≠ k + 2 → σ2.1 q j = σ1.1 q j := fun q j h => congrFun (put_o h) j
    have f3 : ∀ q j, q ≠ k + 3 → σ3.1 q j = σ2.1 q j := fun q j h => congrFun (put_o h) j
    have f4 : ∀ q j, q ≠ k → σ4.1 q j = σ3.1 q j := fun q j h => congrFun (put_o h) j
    have g1 : σ1.1 k 3 = nI n := by rw [f1 _ _ (by omega), h1]
    have g2 : σ2.1 k 3 = nI n := by rw [f2 _ _ (by omega), g1]
    have g3 : σ3.1 k 3 = nI n := by rw [f3 _ _ (by omega), g2]
    have hS4 : SpanIs σ4 k (appR w t (i + 1) r) := by
      refine ⟨?_, ?_, ?_, fun j hj => ?_⟩
      · show (put σ3 k 3 _).1 k 3 = _
        rw [put_at, if_pos ⟨rfl, rfl⟩]; rfl
      · show (put σ3 k 3 _).1 k 4 = _
        rw [put_at, if_neg (by omega), f3 _ _ (by omega), f2 _ _ (by omega), f1 _ _ (by omega), h2]; rfl
      · show (put σ3 k 3 _).1 k 5 = _
        rw [put_at, if_neg (by omega), f3 _ _ (by omega), f2 _ _ (by omega), f1 _ _ (by omega), h3]; rfl
      · have hj : j < Rc.n r + (i + 1) := hj
        show _ = nI (if j < Rc.n r then _ else _) ∧ _ = nI (if j < Rc.n r then _ else _) ∧ _ = nI (if j < Rc.n r then _ else _)
        rw [f4 _ _ (by omega), f4 _ _ (by omega), f4 _ _ (by omega), f3 _ _ (by omega), f3 _ _ (by omega), f2 _ _ (by omega)]
        show (put σ (k + 1) n (nI w)).1 (k + 1) j = _ ∧ (put σ1 (k + 2) n (nI t)).1 (k + 2) j = _ ∧ (put σ2 (k + 3) n (nI 0)).1 (k + 3) j = _
        by_cases e : j = n
        · have hge : ¬ j < Rc.n r := by omega
          simp only [if_neg hge]
          refine ⟨?_, ?_, ?_⟩ <;> rw [put_at, if_pos ⟨rfl, e⟩]
        · obtain ⟨q1, q2, q3⟩ := h4 j (show j < Rc.n r + i by omega)
          refine ⟨?_, ?_, ?_⟩
          · rw [put_at, if_neg (fun q => e q.2)]; exact q1
          · rw [put_at, if_neg (fun q => e q.2), f1 _ _ (by omega)]; exact q2
          · rw [put_at, if_neg (fun q => e q.2), f2 _ _ (by omega), f1 _ _ (by omega)]; exact q3
    obtain ⟨σ', e', hf', hS'⟩ := ih (i + 1) f σ4 (by omega) (by omega) hS4
    refine ⟨σ', ?_, (((FrS.put (by omega) (by omega)).tr (FrS.put (by omega) (by omega))).tr ((FrS.put (by omega) (by omega)).tr (FrS.put (by omega) (by omega)))).tr hf', hS'⟩
    rw [sp_knit_L17, if_neg (nI_ge (by omega) (by omega)), h1, lI 40, if_neg (nI_ge (by omega) (by omega)), ck_t (inb_t (by omega) (by omega)), ix_n (by omega), lt_e]
    show ck (inb (σ1.1 k 3) 40) (lt (put σ1 (k + 2) (ix (σ1.1 k 3)) (nI t)) _) = _
    rw [g1, ck_t (inb_t (by omega) (by omega)), ix_n (by omega), lt_e]
    show ck (inb (σ2.1 k 3) 40) (lt (put σ2 (k + 3) (ix (σ2.1 k 3)) 0) _) = _
    rw [g2, ck_t (inb_t (by omega) (by omega)), ix_n (by omega), lt_e]
    show lt (put σ3 k 3 (σ3.1 k 3 + 1)) _ = _
    rw [g3, lI 1, nA, lt_e, lt_e, nA]
    exact e'
/-- m rows come behind, the first go if there would be more than 40 -/
def knitR0 (w m t : Nat) (r : Rc) : Rc := if Rc.n r + m ≤ 40 then appR w t m r else appR w t m (remR 0 (Rc.n r + m - 40) r)
theorem sp_knit_eq0 {N k w m t : Nat} {σ : St} {p : Nat} {r : Rc} (hN : 100 ≤ N) (hS : SpanIs σ k r) (hr : RecOk p r) (hm : m ≤ 9) : ∃ σ', sp_knit N k (nI w) (nI m) (nI t) σ = some σ' ∧ FrS σ σ' k ∧ SpanIs σ' k (knitR0 w m t r) := by
  have hn := hr.1
  unfold sp_knit knitR0
  rw [hS.1, nA, lI 40]
  by_cases q : Rc.n r + m ≤ 40
  · have hz : nI (Rc.n r + m) - nI 40 ≤ 0 := by
      by_cases e : Rc.n r + m = 40
      · rw [e]; decide
      · have h1 : nI (Rc.n r + m) - nI 40 < 0 := pk_sneg (by omega) (by omega)
        rw [Int32.lt_iff_toInt_lt] at h1
        rw [Int32.le_iff_toInt_le]
        omega
    have h0 : sp_removeFrom N k 0 (nI (Rc.n r + m) - nI 40) σ = some σ := by
      unfold sp_removeFrom
      rw [lt_e, if_neg (by decide), if_pos hz]
    obtain ⟨σ', e', hf', hS'⟩ := sp_knit_L (N := N) (w := w) (t := t) (r := r) (m := m) q hm m 0 N σ (by omega) (by omega) (appR_0 w t hS)
    rw [if_pos q, bd1_eq h0, lI 0, bd1_eq e']
    exact ⟨σ', rfl, hf', hS'⟩
  · rw [if_neg q, nS (by omega)]
    obtain ⟨σ1, e1, hf1, hS1⟩ := sp_removeFrom_eq (N := N) (i := 0) hS hr (m := Rc.n r + m - 40) (by omega) (by omega)
    obtain ⟨σ', e', hf', hS'⟩ := sp_knit_L (N := N) (w := w) (t := t) (r := remR 0 (Rc.n r + m - 40) r) (m := m) (show Rc.n r - (Rc.n r + m - 40) + m ≤ 40 by omega) hm m 0 N σ1 (by omega) (by omega) (appR_0 w t hS1)
    rw [lI 0, bd1_eq e1, bd1_eq e']
    exact ⟨σ', rfl, hf1.tr hf', hS'⟩
