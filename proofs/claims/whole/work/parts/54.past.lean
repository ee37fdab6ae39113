/-! PURE: the bridge as it is and as it was -/
abbrev Pst : Type := Rc × Nat × (Nat → Rc)
def isB (b : Nat) : Prop := b = 3 ∨ b = 42 ∨ b = 80
/-- the place of the i-th span of the past at b -/
abbrev spP (b i : Nat) : Nat := b + 2 + 4 * i
def PastAt (σ : St) (b p a : Nat) (P : Pst) : Prop := a < 9 ∧ σ.1 b 1 = nI a ∧ σ.1 b 2 = nI P.2.1 ∧ P.2.1 ≤ 8 ∧ (SpanIs σ (spP b a) P.1 ∧ RecOk p P.1) ∧ (∀ i, i < P.2.1 → SpanIs σ (spP b ((a + 9 - P.2.1 + i) % 9)) (P.2.2 i) ∧ RecOk p (P.2.2 i)) ∧ ∀ i, i < 9 → SpanWf σ (spP b i)
def FrP (σ σ' : St) (b : Nat) : Prop := (∀ q, (q < b ∨ b + 37 < q) → σ'.1 q = σ.1 q) ∧ σ'.2 = σ.2
theorem FrP.rf {σ : St} {b : Nat} : FrP σ σ b := ⟨fun _ _ => rfl, rfl⟩
theorem FrP.tr {σ σ' σ'' : St} {b : Nat} (h : FrP σ σ' b) (h' : FrP σ' σ'' b) : FrP σ σ'' b := ⟨fun q hq => (h'.1 q hq).trans (h.1 q hq), h'.2.trans h.2⟩
theorem FrS.toP {σ σ' : St} {b i : Nat} (h : FrS σ σ' (spP b i)) (hi : i < 9) : FrP σ σ' b := ⟨fun q hq => h.1 q (by unfold spP; omega), h.2⟩
theorem FrP.put {σ : St} {b j : Nat} {v : Int32} : FrP σ (put σ b j v) b := ⟨fun q hq => put_o (by omega), rfl⟩
theorem isSp_t : ∀ b, isB b → ∀ i, i < 9 → isSp (spP b i) = true := by
  intro b hb i hi
  have h := (by decide +kernel : (List.range 9).all (fun i => isSp (3 + 2 + 4 * i) && (isSp (42 + 2 + 4 * i) && isSp (80 + 2 + 4 * i))) = true)
  have h1 := List.all_eq_true.mp h i (List.mem_range.mpr hi)
  simp only [Bool.and_eq_true] at h1
  rcases hb with rfl | rfl | rfl
  · exact h1.1
  · exact h1.2.1
  · exact h1.2.2
theorem ps_latest_eq {N b a : Nat} {σ : St} (hb : isB b) (ha : a < 9) (h : σ.1 b 1 = nI a) : ps_latest N b σ = some (spP b a, σ) := by
  unfold ps_latest
  rw [h, ck_t (inb_t ha (by omega)), ix_n (by omega), lt_e, show b + 1 + 1 + (3 + 1) * a = spP b a by unfold spP; omega, ck_t (isSp_t b hb a ha)]
/-- another past stays; so do the places outside -/
theorem PastAt.frame {σ σ' : St} {b b' p a : Nat} {P : Pst} (h : PastAt σ b p a P) (hf : FrP σ σ' b') (hd : b + 37 < b' ∨ b' + 37 < b) : PastAt σ' b p a P := by
  obtain ⟨h1, h2, h3, h4, h5, h6, h7⟩ := h
  have e : ∀ q, b ≤ q → q ≤ b + 37 → σ'.1 q = σ.1 q := fun q h1 h2 => hf.1 q (by omega)
  have sp : ∀ i r, i < 9 → SpanIs σ (spP b i) r → SpanIs σ' (spP b i) r := by
    intro i r hi hs
    obtain ⟨g1, g2, g3, g4⟩ := hs
    have e0 := e (spP b i) (by unfold spP; omega) (by unfold spP; omega)
    have e1 := e (spP b i + 1) (by unfold spP; omega) (by unfold spP; omega)
    have e2 := e (spP b i + 2) (by unfold spP; omega) (by unfold spP; omega)
    have e3 := e (spP b i + 3) (by unfold spP; omega) (by unfold spP; omega)
    exact ⟨by rw [e0]; exact g1, by rw [e0]; exact g2, by rw [e0]; exact g3, fun j hj => by rw [e1, e2, e3]; exact g4 j hj⟩
  refine ⟨h1, by rw [e b (by omega) (by omega)]; exact h2, by rw [e b (by omega) (by omega)]; exact h3, h4, ⟨sp a _ h1 h5.1, h5.2⟩, fun i hi => ⟨sp _ _ (Nat.mod_lt _ (by omega)) (h6 i hi).1, (h6 i hi).2⟩, fun i hi => ?_⟩
  obtain ⟨n, c, g1, g2, g3, g4⟩ := h7 i hi
  have e0 := e (spP b i) (by unfold spP; omega) (by unfold spP; omega)
  exact ⟨n, c, g1, g2, by rw [e0]; exact g3, by rw [e0]; exact g4⟩
/-- the span of now is changed -/
theorem PastAt.now {σ σ' : St} {b p a : Nat} {P : Pst} {r : Rc} (h : PastAt σ b p a P) (hf : FrS σ σ' (spP b a)) (hS : SpanIs σ' (spP b a) r) (hr : RecOk p r) : PastAt σ' b p a (r, P.2) := by
  obtain ⟨h1, h2, h3, h4, h5, h6, h7⟩ := h
  have e0 := hf.1 b (Or.inl (by unfold spP; omega))
  refine ⟨h1, by rw [e0]; exact h2, by rw [e0]; exact h3, h4, ⟨hS, hr⟩, fun i hi => ⟨(h6 i hi).1.frame hf ?_, (h6 i hi).2⟩, fun i hi => ?_⟩
  · have hi : i < P.2.1 := hi
    have hne : (a + 9 - P.2.1 + i) % 9 ≠ a := by omega
    unfold spP; omega
  · by_cases q : i = a
    · subst q; exact hS.wf hr
    · exact (h7 i hi).frame hf (by unfold spP; omega)
/-- behind a deed: the latest is known now too, the oldest perhaps no more -/
def pushP (P : Pst) : Pst := if P.2.1 < 8 then (P.1, P.2.1 + 1, fun i => if i = P.2.1 then P.1 else P.2.2 i) else (P.1, 8, fun i => if i = 7 then P.1 else P.2.2 (i + 1))
theorem pushP_n (P : Pst) : (pushP P).1 = P.1 := by unfold pushP; split <;> rfl
theorem ps_step_eq {N b p a : Nat} {σ : St} {P : Pst} (hb : isB b) (h : PastAt σ b p a P) : ∃ a' σ', ps_step N b σ = some (spP b a', σ') ∧ FrP σ σ' b ∧ PastAt σ' b p a' (pushP P) := by
  obtain ⟨h1, h2, h3, h4, h5, h6, h7⟩ := h
  let a' := (a + 1) % 9
  have ha' : a' = (a + 1) % 9 := rfl
  let k' := min 8 (P.2.1 + 1)
  have hk' : k' = min 8 (P.2.1 + 1) := rfl
  let σ1 := put σ b 1 (nI a')
  let σ2 := put σ1 b 2 (nI k')
  have g2 : σ1.1 b 2 = nI P.2.1 := by show (put σ b 1 _).1 b 2 = _; rw [put_at, if_neg (by omega)]; exact h3
  have g1 : σ2.1 b 1 = nI a' := by
    show (put σ1 b 2 _).1 b 1 = _
    rw [put_at, if_neg (by omega)]
    show (put σ b 1 _).1 b 1 = _
    rw [put_at, if_pos ⟨rfl, rfl⟩]
  have gk : σ2.1 b 2 = nI k' := by
    show (put σ1 b 2 _).1 b 2 = _
    rw [put_at, if_pos ⟨rfl, rfl⟩]
  have ho : ∀ q, q ≠ b → σ2.1 q = σ.1 q := fun q hq => (put_o hq).trans (put_o hq)
  have hsp : ∀ q r, b < q → SpanIs σ q r → SpanIs σ2 q r := by
    intro q r hq hs
    obtain ⟨g1, g2, g3, g4⟩ := hs
    rw [← ho q (by omega)] at g1 g2 g3
    exact ⟨g1, g2, g3, fun j hj => by rw [ho (q + 1) (by omega), ho (q + 2) (by omega), ho (q + 3) (by omega)]; exact g4 j hj⟩
  have hwf : ∀ i, i < 9 → SpanWf σ2 (spP b i) := by
    intro i hi
    obtain ⟨n, c, q1, q2, q3, q4⟩ := h7 i hi
    exact ⟨n, c, q1, q2, by rw [ho _ (by unfold spP; omega)]; exact q3, by rw [ho _ (by unfold spP; omega)]; exact q4⟩
  obtain ⟨σ', e1, e2, e3, e4⟩ := sp_take_eq (N := N) (k0 := spP b a') (k1 := spP b a) (σ := σ2) (hwf a h1) (by unfold spP; omega)
  have gb : σ'.1 b = σ2.1 b := e2.1 b (Or.inl (by unfold spP; omega))
  have hJ : ps_step_J25 N b (spP b a) (nI a') σ = some (spP b a', σ') := by
    unfold ps_step_J25
    rw [lt_e]
    show lt (put σ1 b 2 (mn 8 (σ1.1 b 2 + 1))) _ = _
    rw [g2, lI 1, nA, lI 8, nmn (by omega) (by omega), lt_e]
    show bd2 (ps_latest N b σ2) _ = _
    rw [bd2_eq (ps_latest_eq hb (by omega) g1), ck_t (isSp_t b hb a' (by omega)), bd1_eq e1, bd2_eq (ps_latest_eq (a := a') hb (by omega) (by rw [gb]; exact g1)), ck_t (isSp_t b hb a' (by omega))]
  refine ⟨a', σ', ?_, ?_, ?_⟩
  · unfold ps_step
    rw [bd2_eq (ps_latest_eq hb h1 h2), ck_t (isSp_t b hb a h1), h2]
    by_cases q : a = 8
    · rw [if_pos (by rw [q]; rfl), lI 0]
      rw [show a' = 0 by omega] at hJ
      rw [show spP b a' = spP b 0 by rw [show a' = 0 by omega]]
      exact hJ
    · rw [if_neg (by rw [lI 8, nEQ (by omega) (by omega)]; exact q), lI 1, nA, show a + 1 = a' by omega]
      exact hJ
  · exact (FrP.put.tr FrP.put).tr (e2.toP (by omega))
  · have hsame : ∀ i r, i < 9 → i ≠ a' → SpanIs σ (spP b i) r → SpanIs σ' (spP b i) r := fun i r hi hne hs => (hsp _ r (by unfold spP; omega) hs).frame e2 (by unfold spP; omega)
    have hnow : SpanIs σ' (spP b a') P.1 := e4 P.1 p h5.2 (hsp _ _ (by unfold spP; omega) h5.1)
    have hold : SpanIs σ' (spP b a) P.1 := hsame a _ h1 (by omega) h5.1
    have hw' : ∀ i, i < 9 → SpanWf σ' (spP b i) := by
      intro i hi
      by_cases q : i = a'
      · subst q; exact e3
      · exact (hwf i hi).frame e2 (by unfold spP; omega)
    unfold pushP
    by_cases q : P.2.1 < 8
    · rw [if_pos q]
      refine ⟨by omega, by rw [gb]; exact g1, by rw [gb, gk, show k' = P.2.1 + 1 by omega], by show P.2.1 + 1 ≤ 8; omega, ⟨hnow, h5.2⟩, fun i hi => ?_, hw'⟩
      have hi : i < P.2.1 + 1 := hi
      show SpanIs σ' (spP b ((a' + 9 - (P.2.1 + 1) + i) % 9)) (if i = P.2.1 then P.1 else P.2.2 i) ∧ RecOk p (if i = P.2.1 then P.1 else P.2.2 i)
      by_cases e : i = P.2.1
      · rw [if_pos e, show (a' + 9 - (P.2.1 + 1) + i) % 9 = a by omega]
        exact ⟨hold, h5.2⟩
      · rw [if_neg e, show (a' + 9 - (P.2.1 + 1) + i) % 9 = (a + 9 - P.2.1 + i) % 9 by omega]
        exact ⟨hsame _ _ (Nat.mod_lt _ (by omega)) (by omega) (h6 i (by omega)).1, (h6 i (by omega)).2⟩
    · rw [if_neg q]
      refine ⟨by omega, by rw [gb]; exact g1, by rw [gb, gk, show k' = 8 by omega], by show 8 ≤ 8; omega, ⟨hnow, h5.2⟩, fun i hi => ?_, hw'⟩
      have hi : i < 8 := hi
      show SpanIs σ' (spP b ((a' + 9 - 8 + i) % 9)) (if i = 7 then P.1 else P.2.2 (i + 1)) ∧ RecOk p (if i = 7 then P.1 else P.2.2 (i + 1))
      by_cases e : i = 7
      · rw [if_pos e, show (a' + 9 - 8 + i) % 9 = a by omega]
        exact ⟨hold, h5.2⟩
      · rw [if_neg e, show (a' + 9 - 8 + i) % 9 = (a + 9 - P.2.1 + (i + 1)) % 9 by omega]
        exact ⟨hsame _ _ (Nat.mod_lt _ (by omega)) (by omega) (h6 (i + 1) (by omega)).1, (h6 (i + 1) (by omega)).2⟩
/-- a deed is taken back -/
def popP (P : Pst) : Pst := (P.2.2 (P.2.1 - 1), P.2.1 - 1, P.2.2)
theorem ps_stepBack_eq {N b p a : Nat} {σ : St} {P : Pst} (h : PastAt σ b p a P) (hk : 0 < P.2.1) : ∃ a' σ', ps_stepBack N b σ = some σ' ∧ FrP σ σ' b ∧ PastAt σ' b p a' (popP P) := by
  obtain ⟨h1, h2, h3, h4, h5, h6, h7⟩ := h
  let a' := (a + 8) % 9
  have ha' : a' = (a + 8) % 9 := rfl
  let σ1 := put σ b 1 (nI a')
  let σ2 := put σ1 b 2 (nI (P.2.1 - 1))
  have g2 : σ1.1 b 2 = nI P.2.1 := by show (put σ b 1 _).1 b 2 = _; rw [put_at, if_neg (by omega)]; exact h3
  have g1 : σ2.1 b 1 = nI a' := by
    show (put σ1 b 2 _).1 b 1 = _
    rw [put_at, if_neg (by omega)]
    show (put σ b 1 _).1 b 1 = _
    rw [put_at, if_pos ⟨rfl, rfl⟩]
  have ho : ∀ q, q ≠ b → σ2.1 q = σ.1 q := fun q hq => (put_o hq).trans (put_o hq)
  have hsp : ∀ q r, b < q → SpanIs σ q r → SpanIs σ2 q r := by
    intro q r hq hs
    obtain ⟨g1, g2, g3, g4⟩ := hs
    rw [← ho q (by omega)] at g1 g2 g3
    exact ⟨g1, g2, g3, fun j hj => by rw [ho (q + 1) (by omega), ho (q + 2) (by omega), ho (q + 3) (by omega)]; exact g4 j hj⟩
  refine ⟨a', σ2, ?_, FrP.put.tr FrP.put, by omega, g1, ?_, by show P.2.1 - 1 ≤ 8; omega, ?_, fun i hi => ?_, fun i hi => ?_⟩
  · have hJ : ps_stepBack_J19 b (nI a') σ = some σ2 := by
      unfold ps_stepBack_J19
      rw [lt_e]
      show lt (put σ1 b 2 (σ1.1 b 2 - 1)) _ = _
      rw [g2, lI 1, nS (by omega), lt_e]
    unfold ps_stepBack
    rw [h2]
    by_cases q : a = 0
    · rw [if_pos (by rw [q]; rfl), lI 8]
      rw [show a' = 8 by omega] at hJ
      exact hJ
    · rw [if_neg (by rw [lI 0, nEQ (by omega) (by omega)]; exact q), lI 1, nS (by omega), show a - 1 = a' by omega]
      exact hJ
  · show (put σ1 b 2 _).1 b 2 = _
    rw [put_at, if_pos ⟨rfl, rfl⟩]; rfl
  · have := h6 (P.2.1 - 1) (by omega)
    rw [show (a + 9 - P.2.1 + (P.2.1 - 1)) % 9 = a' by omega] at this
    exact ⟨hsp _ _ (by unfold spP; omega) this.1, this.2⟩
  · have hi : i < P.2.1 - 1 := hi
    have := h6 i (by omega)
    rw [show (a + 9 - P.2.1 + i) % 9 = (a' + 9 - (P.2.1 - 1) + i) % 9 by omega] at this
    exact ⟨hsp _ _ (by unfold spP; omega) this.1, this.2⟩
  · obtain ⟨n, c, q1, q2, q3, q4⟩ := h7 i hi
    exact ⟨n, c, q1, q2, by rw [ho _ (by unfold spP; omega)]; exact q3, by rw [ho _ (by unfold spP; omega)]; exact q4⟩
theorem ps_takeAll_L {N b0 b1 : Nat} (h0 : isB b0) (h1 : isB b1) (hne : b0 ≠ b1) : ∀ (d i f : Nat) (σ : St), i + d = 9 → d < f → (∀ j, j < 9 → SpanWf σ (spP b1 j)) → ∃ σ', ps_takeAll_L2 N b0 b1 f (nI i) σ = some σ' ∧ FrP σ σ' b0 ∧ σ'.1 b0 = σ.1 b0 ∧ (∀ j, j < 9 → i ≤ j → SpanWf σ' (spP b0 j) ∧ ∀ (r : Rc) (p : Nat), RecOk p r → SpanIs σ (spP b1 j) r → SpanIs σ' (spP b0 j) r) ∧ ∀ q, spP b0 0 ≤ q → q < spP b0 i → σ'.1 q = σ.1 q := by
  have hdis : b0 + 37 < b1 ∨ b1 + 37 < b0 := by rcases h0 with rfl | rfl | rfl <;> rcases h1 with rfl | rfl | rfl <;> omega
  intro d
  induction d with
  | zero =>
    intro i f σ hi hf hw
    obtain ⟨f, rfl⟩ : ∃ g, f = g + 1 := ⟨f - 1, by omega⟩
    rw [ps_takeAll_L2, lI 8, if_pos (nI_lt (by omega) (by omega))]
    exact ⟨σ, rfl, FrP.rf, rfl, fun j h1 h2 => by omega, fun _ _ _ => rfl⟩
  | succ d ih =>
    intro i f σ hi hf hw
    obtain ⟨f, rfl⟩ : ∃ g, f = g + 1 := ⟨f - 1, by omega⟩
    obtain ⟨σ1, e1, e2, e3, e4⟩ := sp_take_eq (N := N) (k0 := spP b0 i) (k1 := spP b1 i) (σ := σ) (hw i (by omega)) (by unfold spP; omega)
    obtain ⟨σ', q1, q2, q3, q4, q5⟩ := ih (i + 1) f σ1 (by omega) (by omega) (fun j hj => (hw j hj).frame e2 (by unfold spP; omega))
    refine ⟨σ', ?_, (e2.toP (by omega)).tr q2, q3.trans (e2.1 b0 (Or.inl (by unfold spP; omega))), fun j hj hij => ?_, fun q hq1 hq2 => (q5 q hq1 (by unfold spP at *; omega)).trans (e2.1 q (Or.inl hq2))⟩
    · rw [ps_takeAll_L2, lI 8, if_neg (nI_nlt (by omega) (by omega)), ck_t (inb_t (by omega) (by omega)), ix_n (by omega), lt_e, show b0 + 1 + 1 + (3 + 1) * i = spP b0 i by unfold spP; omega, ck_t (isSp_t b0 h0 i (by omega)), ck_t (inb_t (by omega) (by omega)), lt_e, show b1 + 1 + 1 + (3 + 1) * i = spP b1 i by unfold spP; omega, ck_t (isSp_t b1 h1 i (by omega)), bd1_eq e1, lt_e, lI 1, nA]
      exact q1
    · by_cases e : j = i
      · subst e
        have k0 := q5 (spP b0 j) (by unfold spP; omega) (by unfold spP; omega)
        have k1 := q5 (spP b0 j + 1) (by unfold spP; omega) (by unfold spP; omega)
        have k2 := q5 (spP b0 j + 2) (by unfold spP; omega) (by unfold spP; omega)
        have k3 := q5 (spP b0 j + 3) (by unfold spP; omega) (by unfold spP; omega)
        refine ⟨?_, fun r p hr hs => ?_⟩
        · obtain ⟨n, c, g1, g2, g3, g4⟩ := e3
          exact ⟨n, c, g1, g2, by rw [k0]; exact g3, by rw [k0]; exact g4⟩
        · obtain ⟨g1, g2, g3, g4⟩ := e4 r p hr hs
          exact ⟨by rw [k0]; exact g1, by rw [k0]; exact g2, by rw [k0]; exact g3, fun j' hj' => by rw [k1, k2, k3]; exact g4 j' hj'⟩
      · obtain ⟨g1, g2⟩ := q4 j hj (by omega)
        exact ⟨g1, fun r p hr hs => g2 r p hr (hs.frame e2 (by unfold spP; omega))⟩
theorem ps_takeAll_eq {N b0 b1 p a : Nat} {σ : St} {P : Pst} (hN : 100 ≤ N) (h0 : isB b0) (h1 : isB b1) (hne : b0 ≠ b1) (h : PastAt σ b1 p a P) : ∃ σ', ps_takeAll N b0 b1 σ = some σ' ∧ FrP σ σ' b0 ∧ PastAt σ' b0 p a P := by
  have hdis : b0 + 37 < b1 ∨ b1 + 37 < b0 := by rcases h0 with rfl | rfl | rfl <;> rcases h1 with rfl | rfl | rfl <;> omega
  obtain ⟨g1, g2, g3, g4, g5, g6, g7⟩ := h
  obtain ⟨σ1, e1, e2, e3, e4, -⟩ := ps_takeAll_L (N := N) h0 h1 hne 9 0 N σ (by omega) (by omega) g7
  have eb : σ1.1 b1 = σ.1 b1 := e2.1 b1 (by omega)
  let σ2 := put σ1 b0 1 (nI a)
  let σ3 := put σ2 b0 2 (nI P.2.1)
  have k2 : σ2.1 b1 2 = nI P.2.1 := by show (put σ1 b0 1 _).1 b1 2 = _; rw [put_at, if_neg (by omega), eb]; exact g3
  have ho : ∀ q, q ≠ b0 → σ3.1 q = σ1.1 q := fun q hq => (put_o hq).trans (put_o hq)
  have hsp : ∀ q r, b0 < q → SpanIs σ1 q r → SpanIs σ3 q r := by
    intro q r hq hs
    obtain ⟨g1, g2, g3, g4⟩ := hs
    rw [← ho q (by omega)] at g1 g2 g3
    exact ⟨g1, g2, g3, fun j hj => by rw [ho (q + 1) (by omega), ho (q + 2) (by omega), ho (q + 3) (by omega)]; exact g4 j hj⟩
  refine ⟨σ3, ?_, e2.tr (FrP.put.tr FrP.put), g1, ?_, ?_, g4, ⟨hsp _ _ (by unfold spP; omega) ((e4 a g1 (by omega)).2 _ p g5.2 g5.1), g5.2⟩, fun i hi => ⟨hsp _ _ (by unfold spP; omega) ((e4 _ (Nat.mod_lt _ (by omega)) (by omega)).2 _ p (g6 i hi).2 (g6 i hi).1), (g6 i hi).2⟩, fun i hi => ?_⟩
  · unfold ps_takeAll
    rw [lI 0, bd1_eq e1, eb, g2, lt_e]
    show lt (put σ2 b0 2 (σ2.1 b1 2)) _ = _
    rw [k2, lt_e]
  · show (put σ2 b0 2 _).1 b0 1 = _
    rw [put_at, if_neg (by omega)]
    show (put σ1 b0 1 _).1 b0 1 = _
    rw [put_at, if_pos ⟨rfl, rfl⟩]
  · show (put σ2 b0 2 _).1 b0 2 = _
    rw [put_at, if_pos ⟨rfl, rfl⟩]
  · obtain ⟨n, c, q1, q2, q3, q4⟩ := (e4 i hi (by omega)).1
    exact ⟨n, c, q1, q2, by rw [ho _ (by unfold spP; omega)]; exact q3, by rw [ho _ (by unfold spP; omega)]; exact q4⟩
