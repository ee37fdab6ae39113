/-- rows at the end that are x's go: how many stay -/
def unrN (w : Nat → Nat) (x : Nat) : Nat → Nat
  | 0 => 0
  | n + 1 => if w n = x then unrN w x n else n + 1
theorem unrN_le (w : Nat → Nat) (x : Nat) : ∀ n, unrN w x n ≤ n
  | 0 => Nat.le_refl _
  | n + 1 => by
    have := unrN_le w x n
    rw [unrN]; split <;> omega
def setN (m : Nat) (r : Rc) : Rc := (m, Rc.rain r, Rc.year r, Rc.w r, Rc.t r, Rc.o r)
def unrR (r : Rc) : Rc := setN (unrN (Rc.w r) (Rc.w r (Rc.n r - 1)) (Rc.n r)) r
theorem sp_unravel_L {N k n0 : Nat} {w : Nat → Nat} (hn : n0 ≤ 40) (h0 : 0 < n0) (hw : ∀ j, j < n0 → w j < 100) : ∀ (m f : Nat) (σ : St), m < f → m ≤ n0 → σ.1 k 3 = nI m → (∀ j, j < n0 → σ.1 (k + 1) j = nI (w j)) → ∃ σ', sp_unravel_L5 N k (nI n0) f σ = some σ' ∧ σ'.1 k 3 = nI (unrN w (w (n0 - 1)) m) ∧ (∀ q j, ¬ (q = k ∧ j = 3) → σ'.1 q j = σ.1 q j) ∧ σ'.2 = σ.2 := by
  intro m
  induction m with
  | zero =>
    intro f σ hf hm h3 hA
    obtain ⟨f, rfl⟩ : ∃ g, f = g + 1 := ⟨f - 1, by omega⟩
    rw [sp_unravel_L5, h3, if_pos (by decide)]
    exact ⟨σ, rfl, h3, fun _ _ _ => rfl, rfl⟩
  | succ m ih =>
    intro f σ hf hm h3 hA
    obtain ⟨f, rfl⟩ : ∃ g, f = g + 1 := ⟨f - 1, by omega⟩
    have hwm := hw m (by omega)
    have hwn := hw (n0 - 1) (by omega)
    rw [sp_unravel_L5, h3, if_neg (nI_nle (by omega) (by omega)), lI 1, nS (by omega), nS (by omega), ck_t (inb_t (by omega) (by omega)), ck_t (inb_t (by omega) (by omega)), ix_n (by omega), ix_n (by omega), show m + 1 - 1 = m by omega, hA m (by omega), hA (n0 - 1) (by omega), unrN]
    by_cases e : w m = w (n0 - 1)
    · rw [if_pos (by rw [e]), if_pos e, lt_e]
      have hne : k + 1 ≠ k := by omega
      obtain ⟨σ', e1, e2, e3, e4⟩ := ih f (put σ k 3 (nI m)) (by omega) (by omega) (by rw [put_at, if_pos ⟨rfl, rfl⟩]) (fun j hj => by rw [put_at, if_neg (by omega)]; exact hA j hj)
      refine ⟨σ', e1, e2, fun q j h => (e3 q j h).trans ?_, e4⟩
      rw [put_at, if_neg h]
    · rw [if_neg (by rw [nEQ (by omega) (by omega)]; exact e), if_neg e]
      exact ⟨σ, rfl, h3, fun _ _ _ => rfl, rfl⟩
theorem sp_unravel_eq {N k : Nat} {σ : St} {p : Nat} {r : Rc} (hN : 100 ≤ N) (hS : SpanIs σ k r) (hr : RecOk p r) (hp : p ≤ 6) (h0 : 0 < Rc.n r) : ∃ σ', sp_unravel N k σ = some (nI (Rc.n r - Rc.n (unrR r)), σ') ∧ FrS σ σ' k ∧ SpanIs σ' k (unrR r) := by
  have hn := hr.1
  obtain ⟨h1, h2, h3, h4⟩ := hS
  obtain ⟨σ', e1, e2, e3, e4⟩ := sp_unravel_L (N := N) (k := k) (n0 := Rc.n r) (w := Rc.w r) hn h0 (fun j hj => by have := (hr.2.2.2 j hj).1; omega) (Rc.n r) N σ (by omega) (by omega) h1 (fun j hj => (h4 j hj).1)
  have hu := unrN_le (Rc.w r) (Rc.w r (Rc.n r - 1)) (Rc.n r)
  refine ⟨σ', ?_, ⟨fun q hq => funext fun j => e3 q j (by omega), e4⟩, e2, ?_, ?_, fun j hj => ?_⟩
  · unfold sp_unravel
    rw [h1, lt_e, bd1_eq e1, e2, nS hu]; rfl
  · rw [e3 _ _ (by omega)]; exact h2
  · rw [e3 _ _ (by omega)]; exact h3
  · have hj : j < unrN (Rc.w r) (Rc.w r (Rc.n r - 1)) (Rc.n r) := hj
    rw [e3 _ _ (by omega), e3 _ _ (by omega), e3 _ _ (by omega)]
    exact h4 j (by omega)
/-- a year: all rows older, the year one more -/
def ageR (r : Rc) : Rc := (Rc.n r, Rc.rain r, Rc.year r + 1, Rc.w r, Rc.t r, fun j => min 99 (Rc.o r j + 1))
theorem sp_age_L {N k n : Nat} {o : Nat → Nat} (hn : n ≤ 40) (ho : ∀ j, j < n → o j ≤ 99) : ∀ (d i f : Nat) (σ : St), i + d = n → d < f → σ.1 k 3 = nI n → (∀ j, j < n → σ.1 (k + 3) j = nI (if j < i then min 99 (o j + 1) else o j)) → ∃ σ', sp_age_L2 N k f (nI i) σ = some σ' ∧ (∀ q, q ≠ k + 3 → σ'.1 q = σ.1 q) ∧ σ'.2 = σ.2 ∧ ∀ j, j < n → σ'.1 (k + 3) j = nI (min 99 (o j + 1)) := by
  intro d
  induction d with
  | zero =>
    intro i f σ hi hf h3 hA
    obtain ⟨f, rfl⟩ : ∃ g, f = g + 1 := ⟨f - 1, by omega⟩
    rw [sp_age_L2, h3, if_pos (nLEt (by omega) (by omega))]
    exact ⟨σ, rfl, fun _ _ => rfl, rfl, fun j hj => by rw [hA j hj, if_pos (by omega)]⟩
  | succ d ih =>
    intro i f σ hi hf h3 hA
    obtain ⟨f, rfl⟩ : ∃ g, f = g + 1 := ⟨f - 1, by omega⟩
    have hoi := ho i (by omega)
    have hv := hA i (by omega)
    rw [if_neg (by omega)] at hv
    rw [sp_age_L2, h3, if_neg (nI_ge (by omega) (by omega)), ck_t (inb_t (by omega) (by omega)), ck_t (inb_t (by omega) (by omega)), ix_n (by omega), hv, lI 1, nA, lI 99, nmn (by omega) (by omega), lt_e, lt_e, nA]
    obtain ⟨σ', e1, e2, e3, e4⟩ := ih (i + 1) f (put σ (k + 3) i (nI (min 99 (o i + 1)))) (by omega) (by omega) (by rw [put_at, if_neg (by omega)]; exact h3) (fun j hj => by
      rw [put_at]
      by_cases e : j = i
      · subst e
        rw [if_pos ⟨rfl, rfl⟩, if_pos (by omega)]
      · rw [if_neg (fun q => e q.2), hA j hj]
        by_cases q : j < i
        · rw [if_pos q, if_pos (by omega)]
        · rw [if_neg q, if_neg (by omega)])
    exact ⟨σ', e1, fun q hq => (e2 q hq).trans (put_o hq), e3, e4⟩
theorem sp_age_eq {N k : Nat} {σ : St} {p : Nat} {r : Rc} (hN : 100 ≤ N) (hS : SpanIs σ k r) (hr : RecOk p r) : ∃ σ', sp_age N k σ = some σ' ∧ FrS σ σ' k ∧ SpanIs σ' k (ageR r) := by
  have hn := hr.1
  obtain ⟨h1, h2, h3, h4⟩ := hS
  obtain ⟨σ1, e1, e2, e3, e4⟩ := sp_age_L (N := N) (k := k) (n := Rc.n r) (o := Rc.o r) hn (fun j hj => (hr.2.2.2 j hj).2.2) (Rc.n r) 0 N σ (by omega) (by omega) h1 (fun j hj => by rw [if_neg (by omega)]; exact (h4 j hj).2.2)
  have hk : k ≠ k + 3 := by omega
  refine ⟨put σ1 k 5 (nI (Rc.year r + 1)), ?_, ?_, ?_, ?_, ?_, fun j hj => ?_⟩
  · unfold sp_age
    rw [lI 0, bd1_eq e1, e2 k hk, h3, lI 1, nA, lt_e]
  · exact FrS.tr ⟨fun q hq => e2 q (by omega), e3⟩ (FrS.put (by omega) (by omega))
  · rw [put_at, if_neg (by omega), e2 k hk]; exact h1
  · rw [put_at, if_neg (by omega), e2 k hk]; exact h2
  · rw [put_at, if_pos ⟨rfl, rfl⟩]; rfl
  · have hj : j < Rc.n r := hj
    rw [put_at, if_neg (by omega), put_at, if_neg (by omega), put_at, if_neg (by omega), e2 (k + 1) (by omega), e2 (k + 2) (by omega), e4 j hj]
    exact ⟨(h4 j hj).1, (h4 j hj).2.1, rfl⟩
/-! these stay in order -/
theorem remR_ok {p i m : Nat} {r : Rc} (h : RecOk p r) (hi : i + m ≤ Rc.n r) : RecOk p (remR i m r) := by
  refine ⟨by show Rc.n r - m ≤ 40; have := h.1; omega, h.2.1, h.2.2.1, fun j hj => ?_⟩
  have hj : j < Rc.n r - m := hj
  show (if j < i then _ else _) < p ∧ (if j < i then _ else _) ≤ 9 ∧ (if j < i then _ else _) ≤ 99
  by_cases q : j < i
  · rw [if_pos q, if_pos q, if_pos q]; exact h.2.2.2 j (by omega)
  · rw [if_neg q, if_neg q, if_neg q]; exact h.2.2.2 _ (by omega)
theorem appR_ok {p w t m : Nat} {r : Rc} (h : RecOk p r) (hm : Rc.n r + m ≤ 40) (hw : w < p) (ht : t ≤ 9) : RecOk p (appR w t m r) := by
  refine ⟨hm, h.2.1, h.2.2.1, fun j hj => ?_⟩
  show (if j < Rc.n r then _ else _) < p ∧ (if j < Rc.n r then _ else _) ≤ 9 ∧ (if j < Rc.n r then _ else _) ≤ 99
  by_cases q : j < Rc.n r
  · rw [if_pos q, if_pos q, if_pos q]; exact h.2.2.2 j q
  · rw [if_neg q, if_neg q, if_neg q]; exact ⟨hw, ht, by omega⟩
theorem knitR0_ok {p w m t : Nat} {r : Rc} (h : RecOk p r) (hm : m ≤ 9) (hw : w < p) (ht : t ≤ 9) : RecOk p (knitR0 w m t r) := by
  have := h.1
  unfold knitR0
  by_cases q : Rc.n r + m ≤ 40
  · rw [if_pos q]; exact appR_ok h q hw ht
  · rw [if_neg q]; exact appR_ok (remR_ok h (by omega)) (show Rc.n r - (Rc.n r + m - 40) + m ≤ 40 by omega) hw ht
theorem unrR_ok {p : Nat} {r : Rc} (h : RecOk p r) : RecOk p (unrR r) := by
  have hu := unrN_le (Rc.w r) (Rc.w r (Rc.n r - 1)) (Rc.n r)
  have := h.1
  exact ⟨show unrN _ _ _ ≤ 40 by omega, h.2.1, h.2.2.1, fun j hj => h.2.2.2 j (show j < Rc.n r from Nat.lt_of_lt_of_le hj hu)⟩
theorem ageR_ok {p : Nat} {r : Rc} (h : RecOk p r) (hy : Rc.year r < 200) : RecOk p (ageR r) :=
  ⟨h.1, h.2.1, hy, fun j hj => ⟨(h.2.2.2 j hj).1, (h.2.2.2 j hj).2.1, Nat.min_le_left _ _⟩⟩
def rainR (b : Nat) (r : Rc) : Rc := (Rc.n r, b, Rc.year r, Rc.w r, Rc.t r, Rc.o r)
theorem rainR_ok {p b : Nat} {r : Rc} (h : RecOk p r) (hb : b ≤ 1) : RecOk p (rainR b r) := ⟨h.1, hb, h.2.2.1, h.2.2.2⟩
def drawR (i : Nat) (r : Rc) : Rc := (Rc.n r, Rc.rain r, Rc.year r, Rc.w r, (fun j => if j = i then Rc.t r j - 1 else Rc.t r j), Rc.o r)
theorem drawR_ok {p i : Nat} {r : Rc} (h : RecOk p r) : RecOk p (drawR i r) := by
  refine ⟨h.1, h.2.1, h.2.2.1, fun j hj => ⟨(h.2.2.2 j hj).1, ?_, (h.2.2.2 j hj).2.2⟩⟩
  have := (h.2.2.2 j hj).2.1
  show (if j = i then _ else _) ≤ 9
  split <;> omega
/-- two records that say the same -/
def Req (r r' : Rc) : Prop := Rc.n r = Rc.n r' ∧ Rc.rain r = Rc.rain r' ∧ Rc.year r = Rc.year r' ∧ ∀ j, j < Rc.n r → Rc.w r j = Rc.w r' j ∧ Rc.t r j = Rc.t r' j ∧ Rc.o r j = Rc.o r' j
theorem SpanIs.req {σ : St} {k : Nat} {r r' : Rc} (h : SpanIs σ k r) (e : Req r r') : SpanIs σ k r' := by
  obtain ⟨e1, e2, e3, e4⟩ := e
  refine ⟨by rw [← e1]; exact h.1, by rw [← e2]; exact h.2.1, by rw [← e3]; exact h.2.2.1, fun j hj => ?_⟩
  have hj : j < Rc.n r := by omega
  obtain ⟨q1, q2, q3⟩ := e4 j hj
  rw [← q1, ← q2, ← q3]
  exact h.2.2.2 j hj
theorem RecOk.req {p : Nat} {r r' : Rc} (h : RecOk p r) (e : Req r r') : RecOk p r' := by
  obtain ⟨e1, e2, e3, e4⟩ := e
  refine ⟨by rw [← e1]; exact h.1, by rw [← e2]; exact h.2.1, by rw [← e3]; exact h.2.2.1, fun j hj => ?_⟩
  have hj : j < Rc.n r := by omega
  obtain ⟨q1, q2, q3⟩ := e4 j hj
  rw [← q1, ← q2, ← q3]
  exact h.2.2.2 j hj
/-- m rows come behind, the first go if there would be more than 40 -/
def knitR (w m t : Nat) (r : Rc) : Rc := (Rc.n r + m - (Rc.n r + m - 40), Rc.rain r, Rc.year r, (fun j => if j + (Rc.n r + m - 40) < Rc.n r then Rc.w r (j + (Rc.n r + m - 40)) else w), (fun j => if j + (Rc.n r + m - 40) < Rc.n r then Rc.t r (j + (Rc.n r + m - 40)) else t), (fun j => if j + (Rc.n r + m - 40) < Rc.n r then Rc.o r (j + (Rc.n r + m - 40)) else 0))
theorem appR_n (w t m : Nat) (r : Rc) : Rc.n (appR w t m r) = Rc.n r + m := rfl
theorem appR_w (w t m : Nat) (r : Rc) (j : Nat) : Rc.w (appR w t m r) j = if j < Rc.n r then Rc.w r j else w := rfl
theorem appR_t (w t m : Nat) (r : Rc) (j : Nat) : Rc.t (appR w t m r) j = if j < Rc.n r then Rc.t r j else t := rfl
theorem appR_o (w t m : Nat) (r : Rc) (j : Nat) : Rc.o (appR w t m r) j = if j < Rc.n r then Rc.o r j else 0 := rfl
theorem remR_n (i m : Nat) (r : Rc) : Rc.n (remR i m r) = Rc.n r - m := rfl
theorem remR_w (i m : Nat) (r : Rc) (j : Nat) : Rc.w (remR i m r) j = if j < i then Rc.w r j else Rc.w r (j + m) := rfl
theorem remR_t (i m : Nat) (r : Rc) (j : Nat) : Rc.t (remR i m r) j = if j < i then Rc.t r j else Rc.t r (j + m) := rfl
theorem remR_o (i m : Nat) (r : Rc) (j : Nat) : Rc.o (remR i m r) j = if j < i then Rc.o r j else Rc.o r (j + m) := rfl
theorem knitR_n (w m t : Nat) (r : Rc) : Rc.n (knitR w m t r) = Rc.n r + m - (Rc.n r + m - 40) := rfl
theorem knitR_w (w m t : Nat) (r : Rc) (j : Nat) : Rc.w (knitR w m t r) j = if j + (Rc.n r + m - 40) < Rc.n r then Rc.w r (j + (Rc.n r + m - 40)) else w := rfl
theorem knitR_t (w m t : Nat) (r : Rc) (j : Nat) : Rc.t (knitR w m t r) j = if j + (Rc.n r + m - 40) < Rc.n r then Rc.t r (j + (Rc.n r + m - 40)) else t := rfl
theorem knitR_o (w m t : Nat) (r : Rc) (j : Nat) : Rc.o (knitR w m t r) j = if j + (Rc.n r + m - 40) < Rc.n r then Rc.o r (j + (Rc.n r + m - 40)) else 0 := rfl
theorem knitR0_req {w m t : Nat} {r : Rc} (hn : Rc.n r ≤ 40) (hm : m ≤ 40) : Req (knitR0 w m t r) (knitR w m t r) := by
  unfold knitR0
  by_cases q : Rc.n r + m ≤ 40
  · rw [if_pos q]
    have e : Rc.n r + m - 40 = 0 := by omega
    unfold knitR
    rw [e]
    exact ⟨rfl, rfl, rfl, fun j _ => ⟨rfl, rfl, rfl⟩⟩
  · rw [if_neg q]
    refine ⟨show Rc.n r - (Rc.n r + m - 40) + m = Rc.n r + m - (Rc.n r + m - 40) by omega, rfl, rfl, fun j _ => ?_⟩
    rw [appR_w, appR_t, appR_o, remR_n, remR_w, remR_t, remR_o, knitR_w, knitR_t, knitR_o]
    by_cases c : j + (Rc.n r + m - 40) < Rc.n r
    · have c2 : j < Rc.n r - (Rc.n r + m - 40) := by omega
      simp only [if_pos c, if_pos c2, if_neg (Nat.not_lt_zero j), and_self]
    · have c2 : ¬ j < Rc.n r - (Rc.n r + m - 40) := by omega
      simp only [if_neg c, if_neg c2, and_self]
theorem knitR_ok {p w m t : Nat} {r : Rc} (h : RecOk p r) (hm : m ≤ 9) (hw : w < p) (ht : t ≤ 9) : RecOk p (knitR w m t r) := (knitR0_ok h hm hw ht).req (knitR0_req h.1 (by omega))
theorem sp_knit_eq {N k w m t : Nat} {σ : St} {p : Nat} {r : Rc} (hN : 100 ≤ N) (hS : SpanIs σ k r) (hr : RecOk p r) (hm : m ≤ 9) : ∃ σ', sp_knit N k (nI w) (nI m) (nI t) σ = some σ' ∧ FrS σ σ' k ∧ SpanIs σ' k (knitR w m t r) := by
  obtain ⟨σ', h1, h2, h3⟩ := sp_knit_eq0 (N := N) (w := w) (m := m) (t := t) hN hS hr hm
  exact ⟨σ', h1, h2, h3.req (knitR0_req hr.1 (by omega))⟩
/-- one row more -/
theorem knitR_step {w m t : Nat} {r : Rc} (hn : Rc.n r ≤ 40) (hm : m < 40) : Req (if Rc.n (knitR w m t r) = 40 then appR w t 1 (remR 0 1 (knitR w m t r)) else appR w t 1 (knitR w m t r)) (knitR w (m + 1) t r) := by
  have hN : Rc.n (knitR w m t r) = Rc.n r + m - (Rc.n r + m - 40) := rfl
  by_cases q : Rc.n (knitR w m t r) = 40
  · rw [if_pos q]
    rw [hN] at q
    have hg : Rc.n r + (m + 1) - 40 = (Rc.n r + m - 40) + 1 := by omega
    refine ⟨show Rc.n r + m - (Rc.n r + m - 40) - 1 + 1 = Rc.n r + (m + 1) - (Rc.n r + (m + 1) - 40) by omega, rfl, rfl, fun j hj => ?_⟩
    simp only [appR_w, appR_t, appR_o, remR_n, remR_w, remR_t, remR_o, knitR_w, knitR_t, knitR_o, knitR_n]
    rw [hg, show j + 1 + (Rc.n r + m - 40) = j + (Rc.n r + m - 40 + 1) by omega]
    by_cases c : j + (Rc.n r + m - 40 + 1) < Rc.n r
    · have c2 : j < Rc.n r + m - (Rc.n r + m - 40) - 1 := by omega
      simp only [if_pos c, if_pos c2, if_neg (Nat.not_lt_zero j), and_self]
    · simp only [if_neg c, if_neg (Nat.not_lt_zero j), ite_self, and_self]
  · rw [if_neg q]
    rw [hN] at q
    have hg : Rc.n r + (m + 1) - 40 = 0 := by omega
    have hg0 : Rc.n r + m - 40 = 0 := by omega
    refine ⟨show Rc.n r + m - (Rc.n r + m - 40) + 1 = Rc.n r + (m + 1) - (Rc.n r + (m + 1) - 40) by omega, rfl, rfl, fun j hj => ?_⟩
    simp only [appR_w, appR_t, appR_o, knitR_w, knitR_t, knitR_o, knitR_n]
    simp only [hg, hg0]
    by_cases c : j + 0 < Rc.n r
    · have c2 : j < Rc.n r + m - 0 := by omega
      simp only [if_pos c, if_pos c2, and_self]
    · simp only [if_neg c, ite_self, and_self]
theorem knitR_0 {w t : Nat} {r : Rc} (hn : Rc.n r ≤ 40) : Req r (knitR w 0 t r) := by
  have e : Rc.n r + 0 - 40 = 0 := by omega
  refine ⟨show Rc.n r = Rc.n r + 0 - (Rc.n r + 0 - 40) by omega, rfl, rfl, fun j hj => ?_⟩
  rw [knitR_w, knitR_t, knitR_o]
  rw [e]
  simp only [Nat.add_zero, if_pos hj, and_self]
