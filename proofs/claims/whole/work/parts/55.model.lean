/-! PURE: the reference's rows -/
def RecIs (F : Nat → Int32) (r : Rc) : Prop := F 0 = nI (Rc.n r) ∧ F 1 = nI (Rc.rain r) ∧ F 2 = nI (Rc.year r) ∧ ∀ j, j < Rc.n r → F (3 + j) = nI (Rc.w r j) ∧ F (43 + j) = nI (Rc.t r j) ∧ F (83 + j) = nI (Rc.o r j)
theorem i0 : ix (0 : Int32) = 0 := rfl
theorem i1 : ix (1 : Int32) = 1 := rfl
theorem i2 : ix (2 : Int32) = 2 := rfl
theorem i123 : ix (123 : Int32) = 123 := rfl
theorem b0 : inb (0 : Int32) 1108 = true := rfl
theorem b1 : inb (1 : Int32) 1108 = true := rfl
theorem b2 : inb (2 : Int32) 1108 = true := rfl
theorem b123 : inb (123 : Int32) 1108 = true := rfl
theorem d0 : inb (0 : Int32) 58 = true := rfl
theorem d1 : inb (1 : Int32) 58 = true := rfl
theorem d2 : inb (2 : Int32) 58 = true := rfl
theorem mo_bears_eq {N j : Nat} {m : St} {p : Nat} {r : Rc} (h : RecIs (m.1 4) r) (hr : RecOk p r) (hj : j < Rc.n r) : mo_bears N (nI j) m = some (nI (bear r j), m) := by
  have hn := hr.1
  have ht := (hr.2.2.2 j hj).2.1
  have ho := (hr.2.2.2 j hj).2.2
  obtain ⟨-, q2, q3⟩ := h.2.2.2 j hj
  unfold mo_bears
  rw [lI 43, lI 83, nA, nA, ck_t (inb_t (by omega) (by omega)), ck_t (inb_t (by omega) (by omega)), ix_n (by omega), ix_n (by omega), q2, q3, lI 4, nD (by omega) (by omega) (by omega), lt_e]
  unfold bear
  by_cases q : Rc.o r j / 4 ≤ Rc.t r j
  · rw [nS q, if_pos (nI_pos' (by omega))]
  · have h1 : nI (Rc.t r j) - nI (Rc.o r j / 4) < 0 := pk_sneg (by omega) (by omega)
    rw [if_neg (fun h2 => ?_), show Rc.t r j - Rc.o r j / 4 = 0 by omega]
    · rfl
    · rw [Int32.lt_iff_toInt_lt] at h1
      rw [Int32.le_iff_toInt_le] at h2
      omega
theorem mo_share_L {N q : Nat} {m : St} {p : Nat} {r : Rc} (h : RecIs (m.1 4) r) (hr : RecOk p r) (hp : p ≤ 6) (hq : q < 100) : ∀ (d j f : Nat), j + d = Rc.n r → d < f → mo_share_L4 N (nI q) f (nI (ctf (fun j => decide (Rc.w r j = q)) j)) (nI j) m = some (nI (shareR r q), m) := by
  intro d
  have hn := hr.1
  induction d with
  | zero =>
    intro j f hj hf
    obtain ⟨f, rfl⟩ : ∃ g, f = g + 1 := ⟨f - 1, by omega⟩
    rw [mo_share_L4, ck_t b0, i0, h.1, if_pos (nLEt (by omega) (by omega)), show j = Rc.n r by omega]
    rfl
  | succ d ih =>
    intro j f hj hf
    obtain ⟨f, rfl⟩ : ∃ g, f = g + 1 := ⟨f - 1, by omega⟩
    have hjn : j < Rc.n r := by omega
    have hw := (hr.2.2.2 j hjn).1
    have hk := ih (j + 1) f (by omega) (by omega)
    rw [ctf] at hk
    rw [mo_share_L4, ck_t b0, i0, h.1, if_neg (nI_ge hjn (by omega)), lI 3, nA, ck_t (inb_t (by omega) (by omega)), ix_n (by omega), (h.2.2.2 j hjn).1]
    by_cases e : Rc.w r j = q
    · rw [if_pos (by rw [e]), lt_e, lt_e, lI 1, nA, nA]
      simpa [e] using hk
    · rw [if_neg (by rw [nEQ (by omega) (by omega)]; exact e), lt_e, lt_e, lI 1, lI 0, nA, nA]
      simpa [e] using hk
theorem mo_share_eq {N q : Nat} {m : St} {p : Nat} {r : Rc} (hN : 100 ≤ N) (h : RecIs (m.1 4) r) (hr : RecOk p r) (hp : p ≤ 6) (hq : q < 100) : mo_share N (nI q) m = some (nI (shareR r q), m) := by
  unfold mo_share
  have := hr.1
  exact bd2_eq (mo_share_L (N := N) h hr hp hq (Rc.n r) 0 N (by omega) (by omega))
theorem mo_longOf_eq {N n b : Nat} {m : St} (hn : n ≤ 100) (hb : b ≤ 1) : mo_longOf N (nI n) (nI b) m = some (nI (lenR n b), m) := by
  unfold mo_longOf lenR
  match b, hb with
  | 0, _ =>
    rw [if_neg (by decide), lI 0, nA]; rfl
  | 1, _ =>
    rw [if_pos rfl, lI 5, nD (by omega) (by omega) (by omega), nA]
    rfl
/-- the least of 9 and of twice what each bears is twice the least, 9 at most -/
theorem mnf_two (g : Nat → Nat) : ∀ n, mnf (fun j => 2 * g j) 9 n = min 9 (2 * mnf g 9 n)
  | 0 => rfl
  | n + 1 => by rw [mnf, mnf, mnf_two g n]; omega
theorem mo_most_L {N : Nat} {m : St} {p : Nat} {r : Rc} (h : RecIs (m.1 4) r) (hr : RecOk p r) : ∀ (d j f : Nat), j + d = Rc.n r → d < f → mo_most_L5 N f (nI (mnf (fun j => 2 * bear r j) 9 j)) (nI j) m = some (nI (mnf (fun j => 2 * bear r j) 9 (Rc.n r)), m) := by
  intro d
  have hn := hr.1
  induction d with
  | zero =>
    intro j f hj hf
    obtain ⟨f, rfl⟩ : ∃ g, f = g + 1 := ⟨f - 1, by omega⟩
    rw [mo_most_L5, ck_t b0, i0, h.1, if_pos (nLEt (by omega) (by omega)), show j = Rc.n r by omega]
  | succ d ih =>
    intro j f hj hf
    obtain ⟨f, rfl⟩ : ∃ g, f = g + 1 := ⟨f - 1, by omega⟩
    have hjn : j < Rc.n r := by omega
    have hb := bear_le hr hjn
    have hm := mnf_le (fun j => 2 * bear r j) 9 j
    have hk := ih (j + 1) f (by omega) (by omega)
    rw [mnf] at hk
    rw [mo_most_L5, ck_t b0, i0, h.1, if_neg (nI_ge hjn (by omega)), bd2_eq (mo_bears_eq h hr hjn), lI 2, nM]
    by_cases e : mnf (fun j => 2 * bear r j) 9 j ≤ 2 * bear r j
    · rw [if_pos (nLEt e (by omega)), lt_e, lI 1, nA]
      rw [Nat.min_eq_left e] at hk
      exact hk
    · rw [if_neg (nI_ge (by omega) (by omega)), bd2_eq (mo_bears_eq h hr hjn), nM, lt_e, lt_e, lI 1, nA]
      rw [Nat.min_eq_right (by omega)] at hk
      exact hk
theorem mo_most_eq {N : Nat} {m : St} {p : Nat} {r : Rc} (hN : 100 ≤ N) (h : RecIs (m.1 4) r) (hr : RecOk p r) : mo_most N m = some (nI (min 9 (2 * lstR r)), m) := by
  unfold mo_most
  have := hr.1
  have e : mnf (fun j => 2 * bear r j) 9 (Rc.n r) = min 9 (2 * lstR r) := mnf_two _ _
  rw [← e]
  exact bd2_eq (F := fun x8 σ9 => some (x8, σ9)) (mo_most_L (N := N) h hr (Rc.n r) 0 N (by omega) (by omega))
theorem mo_in_t {N : Nat} {a b c : Nat} {m : St} (h1 : b ≤ a) (h2 : a ≤ c) (hc : c < 2 ^ 31) : mo_in N (nI a) (nI b) (nI c) m = some (1, m) := by
  unfold mo_in
  rw [if_neg (nI_nlt h1 (by omega)), if_neg (nI_nlt h2 hc)]
theorem mo_in_f {N : Nat} {a b c : Nat} {m : St} (h : a < b ∨ c < a) (ha : a < 2 ^ 31) (hb : b < 2 ^ 31) (hc : c < 2 ^ 31) : mo_in N (nI a) (nI b) (nI c) m = some (0, m) := by
  unfold mo_in
  by_cases q : a < b
  · rw [if_pos (nI_lt q hb)]
  · rw [if_neg (nI_nlt (by omega) ha), if_pos (nI_lt (by omega) ha)]
/-- the test of an index: n of them -/
theorem mo_inR_t {N n : Nat} {a : Int32} {m : St} (hn : n < 2 ^ 31) (h : inR a n) : mo_in N a 0 (nI n - 1) m = some (1, m) := by
  obtain ⟨j, hj, rfl⟩ := h
  rw [lI 0, lI 1, nS (by omega)]
  exact mo_in_t (by omega) (by omega) (by omega)
theorem mo_inR_f {N n : Nat} {a : Int32} {m : St} (hn : n < 2 ^ 31) (h : ¬ inR a n) : mo_in N a 0 (nI n - 1) m = some (0, m) := by
  rcases inR_or a hn with q | ⟨-, q⟩
  · exact absurd q h
  unfold mo_in
  rcases q with q | q
  · rw [if_pos (show a < 0 from q)]
  · by_cases c : a < 0
    · rw [if_pos c]
    · rw [if_neg c, if_pos]
      by_cases z : n = 0
      · subst z
        rw [Int32.lt_iff_toInt_lt] at c ⊢
        have e1 : (nI 0 - 1).toInt = -1 := rfl
        have e2 : (0 : Int32).toInt = 0 := rfl
        omega
      · rw [lI 1, nS (by omega)]
        rw [Int32.le_iff_toInt_le, nI_toInt hn] at q
        rw [Int32.lt_iff_toInt_lt, nI_toInt (by omega)]
        omega
theorem wb_within_in (N : Nat) (a b c : Int32) (σ : St) : wb_within N a b c σ = (mo_in N a b c σ) := rfl
theorem mo_isPerson_t {N p : Nat} {a : Int32} {m : St} (h0 : m.1 2 0 = nI p) (hp : p ≤ 6) (h : inR a p) : mo_isPerson N a m = some (1, m) := by
  unfold mo_isPerson
  rw [ck_t d0, i0, h0, bd2_eq (mo_inR_t (by omega) h)]; rfl
theorem mo_isPerson_f {N p : Nat} {a : Int32} {m : St} (h0 : m.1 2 0 = nI p) (hp : p ≤ 6) (h : ¬ inR a p) : mo_isPerson N a m = some (0, m) := by
  unfold mo_isPerson
  rw [ck_t d0, i0, h0, bd2_eq (mo_inR_f (by omega) h)]; rfl
theorem mo_isRow_t {N n : Nat} {a : Int32} {m : St} (h0 : m.1 4 0 = nI n) (hp : n ≤ 40) (h : inR a n) : mo_isRow N a m = some (1, m) := by
  unfold mo_isRow
  rw [ck_t b0, i0, h0, bd2_eq (mo_inR_t (by omega) h)]; rfl
theorem mo_isRow_f {N n : Nat} {a : Int32} {m : St} (h0 : m.1 4 0 = nI n) (hp : n ≤ 40) (h : ¬ inR a n) : mo_isRow N a m = some (0, m) := by
  unfold mo_isRow
  rw [ck_t b0, i0, h0, bd2_eq (mo_inR_f (by omega) h)]; rfl
theorem td_has_t {N k p : Nat} {a : Int32} {σ : St} (h0 : σ.1 k 3 = nI p) (hp : p ≤ 6) (h : inR a p) : td_has N k a σ = some (1, σ) := by
  unfold td_has
  rw [h0, bd2_eq ((wb_within_in N a 0 (nI p - 1) σ).trans (mo_inR_t (by omega) h))]; rfl
theorem td_has_f {N k p : Nat} {a : Int32} {σ : St} (h0 : σ.1 k 3 = nI p) (hp : p ≤ 6) (h : ¬ inR a p) : td_has N k a σ = some (0, σ) := by
  unfold td_has
  rw [h0, bd2_eq ((wb_within_in N a 0 (nI p - 1) σ).trans (mo_inR_f (by omega) h))]; rfl
theorem sp_has_t {N k n : Nat} {a : Int32} {σ : St} (h0 : σ.1 k 3 = nI n) (hp : n ≤ 40) (h : inR a n) : sp_has N k a σ = some (1, σ) := by
  unfold sp_has
  rw [h0, bd2_eq ((wb_within_in N a 0 (nI n - 1) σ).trans (mo_inR_t (by omega) h))]; rfl
theorem sp_has_f {N k n : Nat} {a : Int32} {σ : St} (h0 : σ.1 k 3 = nI n) (hp : n ≤ 40) (h : ¬ inR a n) : sp_has N k a σ = some (0, σ) := by
  unfold sp_has
  rw [h0, bd2_eq ((wb_within_in N a 0 (nI n - 1) σ).trans (mo_inR_f (by omega) h))]; rfl
/-- as told: people, gap, slack, how heavy, how thick their wool -/
abbrev Tdt : Type := Nat × Nat × Nat × (Nat → Nat) × (Nat → Nat)
def TdOk (T : Tdt) : Prop := T.1 ≤ 6 ∧ 1 ≤ T.2.1 ∧ T.2.1 ≤ 30 ∧ T.2.2.1 ≤ 30 ∧ ∀ j, j < T.1 → 1 ≤ T.2.2.2.1 j ∧ T.2.2.2.1 j ≤ 9 ∧ 1 ≤ T.2.2.2.2 j ∧ T.2.2.2.2 j ≤ 9
def TdM (G : Nat → Int32) (T : Tdt) : Prop := G 0 = nI T.1 ∧ G 1 = nI T.2.1 ∧ G 2 = nI T.2.2.1 ∧ ∀ j, j < T.1 → G (6 + j) = nI (T.2.2.2.1 j) ∧ G (12 + j) = nI (T.2.2.2.2 j)
def TdC (σ : St) (k : Nat) (T : Tdt) : Prop := σ.1 k 3 = nI T.1 ∧ σ.1 k 5 = nI T.2.1 ∧ σ.1 k 6 = nI T.2.2.1 ∧ ∀ j, j < T.1 → σ.1 (k + 1) j = nI (T.2.2.2.1 j) ∧ σ.1 (k + 2) j = nI (T.2.2.2.2 j)
/-- it holds one who is so heavy, if it is so long and the weakest bears so much -/
def hldB (T : Tdt) (hv len lst : Nat) : Bool := decide (T.2.1 ≤ len ∧ len ≤ T.2.1 + T.2.2.1 ∧ hv ≤ 2 * lst)
def holdR (T : Tdt) (r : Rc) (q : Nat) : Bool := hldB T (T.2.2.2.1 q) (lenR (Rc.n r) (Rc.rain r)) (lstR r)
theorem lenR_le {n b : Nat} (h : n ≤ 100) : lenR n b ≤ 120 := by unfold lenR; split <;> omega
theorem mo_holds_eq {N q : Nat} {m : St} {T : Tdt} {r : Rc} (hN : 100 ≤ N) (hT : TdM (m.1 2) T) (hO : TdOk T) (h : RecIs (m.1 4) r) (hr : RecOk T.1 r) (hq : q < T.1) : mo_holds N (nI q) m = some (nI (if holdR T r q then 1 else 0), m) := by
  obtain ⟨t1, t2, t3, t4⟩ := hT
  obtain ⟨o1, o2, o3, o4, o5⟩ := hO
  have hn := hr.1
  have hl := lenR_le (n := Rc.n r) (b := Rc.rain r) (by omega)
  have hs := lstR_le r
  obtain ⟨q1, q2, -⟩ := o5 q hq
  unfold mo_holds holdR hldB
  rw [ck_t b0, ck_t b1, i0, i1, h.1, h.2.1, bd2_eq (mo_longOf_eq (by omega) hr.2.1), ck_t d1, ck_t d1, ck_t d2, i2, t2, t3, nA]
  by_cases c : T.2.1 ≤ lenR (Rc.n r) (Rc.rain r) ∧ lenR (Rc.n r) (Rc.rain r) ≤ T.2.1 + T.2.2.1
  · rw [bd2_eq (mo_in_t c.1 c.2 (by omega)), if_neg (by decide), bd2_eq (mo_most_eq hN h hr), lI 6, nA, ck_t (inb_t (by omega) (by omega)), ix_n (by omega), (t4 q hq).1]
    by_cases e : T.2.2.2.1 q ≤ 2 * lstR r
    · rw [if_neg (nI_nlt (by omega) (by omega)), if_pos (decide_eq_true ⟨c.1, c.2, e⟩)]; rfl
    · rw [if_pos (nI_lt (by omega) (by omega)), if_neg (by simp; omega)]; rfl
  · rw [bd2_eq (mo_in_f (by omega) (by omega) (by omega) (by omega)), if_pos rfl, if_neg (by simp; omega)]; rfl
theorem td_holds_eq {N k q len lst : Nat} {σ : St} {T : Tdt} (hT : TdC σ k T) (hO : TdOk T) (hq : q < T.1) (hl : len ≤ 1000) (hs : lst ≤ 1000) : td_holds N k (nI q) (nI len) (nI lst) σ = some (nI (if hldB T (T.2.2.2.1 q) len lst then 1 else 0), σ) := by
  obtain ⟨t1, t2, t3, t4⟩ := hT
  obtain ⟨o1, o2, o3, o4, o5⟩ := hO
  obtain ⟨q1, q2, -⟩ := o5 q hq
  unfold td_holds hldB
  rw [t2, t3, nA]
  by_cases c : T.2.1 ≤ len ∧ len ≤ T.2.1 + T.2.2.1
  · rw [bd2_eq ((wb_within_in _ _ _ _ _).trans (mo_in_t c.1 c.2 (by omega))), if_neg (by decide), ck_t (inb_t (by omega) (by omega)), ix_n (by omega), (t4 q hq).1, lI 2, nM]
    by_cases e : T.2.2.2.1 q ≤ 2 * lst
    · rw [if_neg (nI_nlt (by omega) (by omega)), if_pos (decide_eq_true ⟨c.1, c.2, e⟩)]; rfl
    · rw [if_pos (nI_lt (by omega) (by omega)), if_neg (by simp; omega)]; rfl
  · rw [bd2_eq ((wb_within_in _ _ _ _ _).trans (mo_in_f (by omega) (by omega) (by omega) (by omega))), if_pos rfl, if_neg (by simp; omega)]; rfl
