/-! PURE: a bridge at one time -/
abbrev Rc : Type := Nat × Nat × Nat × (Nat → Nat) × (Nat → Nat) × (Nat → Nat)
abbrev Rc.n (r : Rc) : Nat := r.1
abbrev Rc.rain (r : Rc) : Nat := r.2.1
abbrev Rc.year (r : Rc) : Nat := r.2.2.1
abbrev Rc.w (r : Rc) : Nat → Nat := r.2.2.2.1
abbrev Rc.t (r : Rc) : Nat → Nat := r.2.2.2.2.1
abbrev Rc.o (r : Rc) : Nat → Nat := r.2.2.2.2.2
def RecOk (p : Nat) (r : Rc) : Prop := Rc.n r ≤ 40 ∧ Rc.rain r ≤ 1 ∧ Rc.year r ≤ 200 ∧ ∀ j, j < Rc.n r → Rc.w r j < p ∧ Rc.t r j ≤ 9 ∧ Rc.o r j ≤ 99
def SpanIs (σ : St) (k : Nat) (r : Rc) : Prop := σ.1 k 3 = nI (Rc.n r) ∧ σ.1 k 4 = nI (Rc.rain r) ∧ σ.1 k 5 = nI (Rc.year r) ∧ ∀ j, j < Rc.n r → σ.1 (k + 1) j = nI (Rc.w r j) ∧ σ.1 (k + 2) j = nI (Rc.t r j) ∧ σ.1 (k + 3) j = nI (Rc.o r j)
/-- what a row bears, so many years from now -/
def bearY (r : Rc) (y j : Nat) : Nat := Rc.t r j - min 99 (Rc.o r j + y) / 4
def bear (r : Rc) (j : Nat) : Nat := Rc.t r j - Rc.o r j / 4
theorem bearY0 {p : Nat} {r : Rc} (h : RecOk p r) {j : Nat} (hj : j < Rc.n r) : bearY r 0 j = bear r j := by
  have := (h.2.2.2 j hj).2.2
  unfold bearY bear
  rw [Nat.add_zero, Nat.min_eq_right (by omega)]
/-- the least of numbers, and of what it begins with -/
def mnf (g : Nat → Nat) (a : Nat) : Nat → Nat
  | 0 => a
  | n + 1 => min (mnf g a n) (g n)
theorem mnf_le (g : Nat → Nat) (a : Nat) : ∀ n, mnf g a n ≤ a
  | 0 => Nat.le_refl _
  | n + 1 => Nat.le_trans (Nat.min_le_left _ _) (mnf_le g a n)
theorem mnf_cong {g g' : Nat → Nat} {a : Nat} : ∀ {n : Nat}, (∀ j, j < n → g j = g' j) → mnf g a n = mnf g' a n
  | 0, _ => rfl
  | n + 1, h => by rw [mnf, mnf, mnf_cong (fun j hj => h j (by omega)), h n (by omega)]
theorem sp_bearsAs_eq {N k j y t : Nat} {σ : St} {p : Nat} {r : Rc} (hS : SpanIs σ k r) (hr : RecOk p r) (hj : j < Rc.n r) (hy : y ≤ 1000) (ht : t ≤ 100) : sp_bearsAs N k (nI j) (nI t) (nI y) σ = some (nI (t - min 99 (Rc.o r j + y) / 4), σ) := by
  have hn := hr.1
  have ho := (hr.2.2.2 j hj).2.2
  have h3 := (hS.2.2.2 j hj).2.2
  unfold sp_bearsAs
  rw [ck_t (inb_t (by omega) (by omega)), ix_n (by omega), h3]
  simp only [lI, nA]
  rw [nmn (by omega) (by omega), nD (by omega) (by omega) (by omega), nmx0 (by omega) (by omega)]
theorem sp_bears_eq {N k j : Nat} {σ : St} {p : Nat} {r : Rc} (hS : SpanIs σ k r) (hr : RecOk p r) (hj : j < Rc.n r) : sp_bears N k (nI j) σ = some (nI (bear r j), σ) := by
  have hn := hr.1
  have ht := (hr.2.2.2 j hj).2.1
  have h2 := (hS.2.2.2 j hj).2.1
  unfold sp_bears
  rw [ck_t (inb_t (by omega) (by omega)), ix_n (by omega), h2, lI 0, bd2_eq (sp_bearsAs_eq hS hr hj (by omega) (by omega))]
  exact congrArg (fun z => some (nI z, σ)) (bearY0 hr hj)
theorem sp_leastAfter_L {N k y : Nat} {σ : St} {p : Nat} {r : Rc} (hS : SpanIs σ k r) (hr : RecOk p r) (hy : y ≤ 1000) : ∀ (d j f : Nat), j + d = Rc.n r → d < f → sp_leastAfter_L5 N k (nI y) f (nI (mnf (bearY r y) 9 j)) (nI j) σ = some (nI (mnf (bearY r y) 9 (Rc.n r)), σ) := by
  intro d
  have hn := hr.1
  induction d with
  | zero =>
    intro j f hj hf
    obtain ⟨f, rfl⟩ : ∃ g, f = g + 1 := ⟨f - 1, by omega⟩
    rw [sp_leastAfter_L5, hS.1, if_pos (nLEt (by omega) (by omega))]
    rw [show j = Rc.n r by omega]
  | succ d ih =>
    intro j f hj hf
    obtain ⟨f, rfl⟩ : ∃ g, f = g + 1 := ⟨f - 1, by omega⟩
    have hjn : j < Rc.n r := by omega
    have ht := (hr.2.2.2 j hjn).2.1
    have hm := mnf_le (bearY r y) 9 j
    rw [sp_leastAfter_L5, hS.1, if_neg (nI_ge hjn (by omega)), ck_t (inb_t (by omega) (by omega)), ix_n (by omega), (hS.2.2.2 j hjn).2.1, bd2_eq (sp_bearsAs_eq hS hr hjn hy (by omega)), lt_e, lt_e, nmn (by omega) (by omega), lI 1, nA]
    exact ih (j + 1) f (by omega) (by omega)
theorem sp_leastAfter_eq {N k y : Nat} {σ : St} {p : Nat} {r : Rc} (hN : 100 ≤ N) (hS : SpanIs σ k r) (hr : RecOk p r) (hy : y ≤ 1000) : sp_leastAfter N k (nI y) σ = some (nI (mnf (bearY r y) 9 (Rc.n r)), σ) := by
  unfold sp_leastAfter
  have := hr.1
  exact bd2_eq (sp_leastAfter_L (N := N) hS hr hy (Rc.n r) 0 N (by omega) (by omega))
/-- how long so many rows are -/
def lenR (n rain : Nat) : Nat := n + (if rain = 1 then n / 5 else 0)
theorem wb_lengthWith_eq {N n b : Nat} {σ : St} (hn : n ≤ 100) (hb : b ≤ 1) : wb_lengthWith N (nI n) (nI b) σ = some (nI (lenR n b), σ) := by
  unfold wb_lengthWith lenR
  match b, hb with
  | 0, _ => rfl
  | 1, _ =>
    rw [if_neg (nI_ne0 (by omega) (by omega)), lI 5, nD (by omega) (by omega) (by omega), nA]
    rfl
theorem sp_lengthOf_eq {N k m : Nat} {σ : St} {p : Nat} {r : Rc} (hS : SpanIs σ k r) (hr : RecOk p r) (hm : m ≤ 100) : sp_lengthOf N k (nI m) σ = some (nI (lenR m (Rc.rain r)), σ) := by
  unfold sp_lengthOf
  rw [hS.2.1, bd2_eq (wb_lengthWith_eq hm hr.2.1)]
theorem sp_length_eq {N k : Nat} {σ : St} {p : Nat} {r : Rc} (hS : SpanIs σ k r) (hr : RecOk p r) : sp_length N k σ = some (nI (lenR (Rc.n r) (Rc.rain r)), σ) := by
  unfold sp_length
  rw [hS.1, bd2_eq (sp_lengthOf_eq hS hr (by have := hr.1; omega))]
/-- what the weakest bears now, 9 at most -/
def lstR (r : Rc) : Nat := mnf (bear r) 9 (Rc.n r)
theorem lstR_Y0 {p : Nat} {r : Rc} (h : RecOk p r) : mnf (bearY r 0) 9 (Rc.n r) = lstR r := mnf_cong (fun j hj => bearY0 h hj)
theorem sp_least0 {N k : Nat} {σ : St} {p : Nat} {r : Rc} (hN : 100 ≤ N) (hS : SpanIs σ k r) (hr : RecOk p r) : sp_leastAfter N k 0 σ = some (nI (lstR r), σ) := by
  rw [← lstR_Y0 hr]; exact sp_leastAfter_eq (y := 0) hN hS hr (by decide)
theorem lstR_le (r : Rc) : lstR r ≤ 9 := mnf_le _ _ _
theorem sp_strength_eq {N k : Nat} {σ : St} {p : Nat} {r : Rc} (hN : 100 ≤ N) (hS : SpanIs σ k r) (hr : RecOk p r) : sp_strength N k σ = some (nI (min 9 (2 * lstR r)), σ) := by
  unfold sp_strength
  have := lstR_le r
  rw [bd2_eq (sp_least0 hN hS hr), lI 2, nM, lI 9, nmn (by omega) (by omega)]
/-- how many of the first n are so -/
def ctf (g : Nat → Bool) : Nat → Nat
  | 0 => 0
  | n + 1 => ctf g n + if g n then 1 else 0
theorem ctf_le (g : Nat → Bool) : ∀ n, ctf g n ≤ n
  | 0 => Nat.le_refl _
  | n + 1 => by have := ctf_le g n; rw [ctf]; split <;> omega
theorem ctf_cong {g g' : Nat → Bool} : ∀ {n : Nat}, (∀ j, j < n → g j = g' j) → ctf g n = ctf g' n
  | 0, _ => rfl
  | n + 1, h => by rw [ctf, ctf, ctf_cong (fun j hj => h j (by omega)), h n (by omega)]
def shareR (r : Rc) (q : Nat) : Nat := ctf (fun j => decide (Rc.w r j = q)) (Rc.n r)
theorem sp_share_L {N k q : Nat} {σ : St} {p : Nat} {r : Rc} (hS : SpanIs σ k r) (hr : RecOk p r) (hp : p ≤ 6) (hq : q < 100) : ∀ (d j f : Nat), j + d = Rc.n r → d < f → sp_share_L4 N k (nI q) f (nI (ctf (fun j => decide (Rc.w r j = q)) j)) (nI j) σ = some (nI (shareR r q), σ) := by
  intro d
  have hn := hr.1
  induction d with
  | zero =>
    intro j f hj hf
    obtain ⟨f, rfl⟩ : ∃ g, f = g + 1 := ⟨f - 1, by omega⟩
    rw [sp_share_L4, hS.1, if_pos (nLEt (by omega) (by omega)), show j = Rc.n r by omega]
    rfl
  | succ d ih =>
    intro j f hj hf
    obtain ⟨f, rfl⟩ : ∃ g, f = g + 1 := ⟨f - 1, by omega⟩
    have hjn : j < Rc.n r := by omega
    have hw := (hr.2.2.2 j hjn).1
    have hk := ih (j + 1) f (by omega) (by omega)
    rw [ctf] at hk
    rw [sp_share_L4, hS.1, if_neg (nI_ge hjn (by omega)), ck_t (inb_t (by omega) (by omega)), ix_n (by omega), (hS.2.2.2 j hjn).1]
    by_cases e : Rc.w r j = q
    · rw [if_pos (by rw [e]), lt_e, lt_e, lI 1, nA, nA]
      simpa [e] using hk
    · rw [if_neg (by rw [nEQ (by omega) (by omega)]; exact e), lt_e, lI 1, nA]
      simpa [e] using hk
theorem sp_share_eq {N k q : Nat} {σ : St} {p : Nat} {r : Rc} (hN : 100 ≤ N) (hS : SpanIs σ k r) (hr : RecOk p r) (hp : p ≤ 6) (hq : q < 100) : sp_share N k (nI q) σ = some (nI (shareR r q), σ) := by
  unfold sp_share
  have := hr.1
  exact bd2_eq (sp_share_L (N := N) hS hr hp hq (Rc.n r) 0 N (by omega) (by omega))
def holesR (r : Rc) : Nat := ctf (fun j => decide (bear r j = 0)) (Rc.n r)
theorem bear_le {p : Nat} {r : Rc} (hr : RecOk p r) {j : Nat} (hj : j < Rc.n r) : bear r j ≤ 9 := by
  have := (hr.2.2.2 j hj).2.1
  unfold bear; omega
theorem sp_holes_L {N k : Nat} {σ : St} {p : Nat} {r : Rc} (hS : SpanIs σ k r) (hr : RecOk p r) : ∀ (d j f : Nat), j + d = Rc.n r → d < f → sp_holes_L4 N k f (nI (ctf (fun j => decide (bear r j = 0)) j)) (nI j) σ = some (nI (holesR r), σ) := by
  intro d
  have hn := hr.1
  induction d with
  | zero =>
    intro j f hj hf
    obtain ⟨f, rfl⟩ : ∃ g, f = g + 1 := ⟨f - 1, by omega⟩
    rw [sp_holes_L4, hS.1, if_pos (nLEt (by omega) (by omega)), show j = Rc.n r by omega]
    rfl
  | succ d ih =>
    intro j f hj hf
    obtain ⟨f, rfl⟩ : ∃ g, f = g + 1 := ⟨f - 1, by omega⟩
    have hjn : j < Rc.n r := by omega
    have hb := bear_le hr hjn
    have hk := ih (j + 1) f (by omega) (by omega)
    rw [ctf] at hk
    rw [sp_holes_L4, hS.1, if_neg (nI_ge hjn (by omega)), bd2_eq (sp_bears_eq hS hr hjn)]
    by_cases e : bear r j = 0
    · rw [if_pos (by rw [e]; rfl), lt_e, lt_e, lI 1, nA, nA]
      simpa [e] using hk
    · rw [if_neg (by rw [lI 0, nEQ (by omega) (by omega)]; exact e), lt_e, lI 1, nA]
      simpa [e] using hk
theorem sp_holes_eq {N k : Nat} {σ : St} {p : Nat} {r : Rc} (hN : 100 ≤ N) (hS : SpanIs σ k r) (hr : RecOk p r) : sp_holes N k σ = some (nI (holesR r), σ) := by
  unfold sp_holes
  have := hr.1
  exact bd2_eq (sp_holes_L (N := N) hS hr (Rc.n r) 0 N (by omega) (by omega))
/-- the middle row's person; -9: no rows -/
def midR (r : Rc) : Int32 := if Rc.n r = 0 then -9 else nI (Rc.w r ((Rc.n r - 1) / 2))
theorem sp_middle_eq {N k : Nat} {σ : St} {p : Nat} {r : Rc} (hS : SpanIs σ k r) (hr : RecOk p r) : sp_middle N k σ = some (midR r, σ) := by
  have hn := hr.1
  unfold sp_middle midR
  rw [hS.1]
  by_cases e : Rc.n r = 0
  · rw [if_pos (by rw [e]; rfl), if_pos e]
  · rw [if_neg (by rw [lI 0, nEQ (by omega) (by omega)]; exact e), if_neg e, lI 1, nS (by omega), lI 2, nD (by omega) (by omega) (by omega), ck_t (inb_t (by omega) (by omega)), ix_n (by omega), (hS.2.2.2 _ (by omega)).1]
/-- the thinnest among the first n: (place, what it bears); none: -9, 10 -/
def thinf (g : Nat → Nat) : Nat → Int32 × Nat
  | 0 => (-9, 10)
  | n + 1 => if (thinf g n).2 ≤ g n then thinf g n else (nI n, g n)
theorem thinf_le (g : Nat → Nat) : ∀ n, (thinf g n).2 ≤ 10
  | 0 => Nat.le_refl _
  | n + 1 => by
    have := thinf_le g n
    rw [thinf]; split
    · exact this
    · show g n ≤ 10; omega
theorem sp_thinnest_L {N k : Nat} {σ : St} {p : Nat} {r : Rc} (hS : SpanIs σ k r) (hr : RecOk p r) : ∀ (d j f : Nat), j + d = Rc.n r → d < f → sp_thinnest_L8 N k f (thinf (bear r) j).1 (nI (thinf (bear r) j).2) (nI j) σ = some ((thinf (bear r) (Rc.n r)).1, σ) := by
  intro d
  have hn := hr.1
  induction d with
  | zero =>
    intro j f hj hf
    obtain ⟨f, rfl⟩ : ∃ g, f = g + 1 := ⟨f - 1, by omega⟩
    rw [sp_thinnest_L8, hS.1, if_pos (nLEt (by omega) (by omega)), show j = Rc.n r by omega]
  | succ d ih =>
    intro j f hj hf
    obtain ⟨f, rfl⟩ : ∃ g, f = g + 1 := ⟨f - 1, by omega⟩
    have hjn : j < Rc.n r := by omega
    have hb := bear_le hr hjn
    have hl := thinf_le (bear r) j
    have hk := ih (j + 1) f (by omega) (by omega)
    rw [thinf] at hk
    rw [sp_thinnest_L8, hS.1, if_neg (nI_ge hjn (by omega)), bd2_eq (sp_bears_eq hS hr hjn)]
    by_cases e : (thinf (bear r) j).2 ≤ bear r j
    · rw [if_pos e] at hk
      rw [if_pos (nLEt e (by omega)), lt_e, lI 1, nA]
      exact hk
    · rw [if_neg e] at hk
      rw [if_neg (nI_ge (by omega) (by omega)), bd2_eq (sp_bears_eq hS hr hjn), lt_e, lI 1, nA]
      exact hk
theorem sp_thinnest_eq {N k : Nat} {σ : St} {p : Nat} {r : Rc} (hN : 100 ≤ N) (hS : SpanIs σ k r) (hr : RecOk p r) : sp_thinnest N k σ = some ((thinf (bear r) (Rc.n r)).1, σ) := by
  unfold sp_thinnest
  have := hr.1
  exact bd2_eq (sp_thinnest_L (N := N) hS hr (Rc.n r) 0 N (by omega) (by omega))
/-- a sum of the first n -/
def smf (g : Nat → Nat) : Nat → Nat
  | 0 => 0
  | n + 1 => smf g n + g n
theorem smf_cong {g g' : Nat → Nat} : ∀ {n : Nat}, (∀ j, j < n → g j = g' j) → smf g n = smf g' n
  | 0, _ => rfl
  | n + 1, h => by rw [smf, smf, smf_cong (fun j hj => h j (by omega)), h n (by omega)]
theorem smf_le {g : Nat → Nat} {c : Nat} : ∀ {n : Nat}, (∀ j, j < n → g j ≤ c) → smf g n ≤ n * c
  | 0, _ => Nat.zero_le _
  | n + 1, h => by
    have h1 := smf_le (g := g) (c := c) (n := n) (fun j hj => h j (by omega))
    have h2 := h n (by omega)
    rw [smf, Nat.add_mul]; omega
/-- how much is wanting so that each bears so much -/
def lackR (r : Rc) (need : Nat) (j : Nat) : Nat := need + Rc.o r j / 4 - Rc.t r j
theorem sp_woolFor_L {N k need : Nat} {σ : St} {p : Nat} {r : Rc} (hS : SpanIs σ k r) (hr : RecOk p r) (hq : need ≤ 100) : ∀ (d j f : Nat), j + d = Rc.n r → d < f → sp_woolFor_L4 N k (nI need) f (nI (smf (lackR r need) j)) (nI j) σ = some (nI (smf (lackR r need) (Rc.n r)), σ) := by
  intro d
  have hn := hr.1
  induction d with
  | zero =>
    intro j f hj hf
    obtain ⟨f, rfl⟩ : ∃ g, f = g + 1 := ⟨f - 1, by omega⟩
    rw [sp_woolFor_L4, hS.1, if_pos (nLEt (by omega) (by omega)), show j = Rc.n r by omega]
  | succ d ih =>
    intro j f hj hf
    obtain ⟨f, rfl⟩ : ∃ g, f = g + 1 := ⟨f - 1, by omega⟩
    have hjn : j < Rc.n r := by omega
    have ho := (hr.2.2.2 j hjn).2.2
    have ht := (hr.2.2.2 j hjn).2.1
    have hk := ih (j + 1) f (by omega) (by omega)
    rw [smf] at hk
    rw [sp_woolFor_L4, hS.1, if_neg (nI_ge hjn (by omega)), ck_t (inb_t (by omega) (by omega)), ck_t (inb_t (by omega) (by omega)), ix_n (by omega), (hS.2.2.2 j hjn).2.2, (hS.2.2.2 j hjn).2.1, lI 4, nD (by omega) (by omega) (by omega), nA, lI 0, nmx0 (by omega) (by omega), lt_e, lt_e, nA, lI 1, nA]
    exact hk
theorem sp_woolFor_eq {N k need : Nat} {σ : St} {p : Nat} {r : Rc} (hN : 100 ≤ N) (hS : SpanIs σ k r) (hr : RecOk p r) (hq : need ≤ 100) : sp_woolFor N k (nI need) σ = some (nI (smf (lackR r need) (Rc.n r)), σ) := by
  unfold sp_woolFor
  have := hr.1
  exact bd2_eq (sp_woolFor_L (N := N) hS hr hq (Rc.n r) 0 N (by omega) (by omega))
