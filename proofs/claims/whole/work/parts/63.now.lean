/-! the calls, on: how it is now -/
theorem nP1 (d : Nat) : nI (d + 1) + (-1) = nI d := by
  rw [← nA d 1, Int32.add_assoc, show nI 1 + (-1 : Int32) = 0 from rfl, Int32.add_zero]
theorem nI_n9 {i : Nat} (h : i < 2 ^ 31) : ¬ nI i = -9 := by
  intro q
  have h1 := nI_pos h
  rw [q] at h1
  exact h1 (by decide)
theorem thinf_spec {g : Nat → Nat} : ∀ {n : Nat}, (∀ j, j < n → g j ≤ 9) → (n = 0 ∧ thinf g n = (-9, 10)) ∨ ∃ i, i < n ∧ thinf g n = (nI i, g i) ∧ (∀ j, j < n → g i ≤ g j) ∧ ∀ j, j < i → g i < g j
  | 0, _ => Or.inl ⟨rfl, rfl⟩
  | n + 1, h => by
    right
    have hn := h n (by omega)
    rcases thinf_spec (g := g) (n := n) (fun j hj => h j (by omega)) with ⟨h0, e⟩ | ⟨i, hi, e, h1, h2⟩
    · refine ⟨n, by omega, ?_, fun j hj => ?_, fun j hj => by omega⟩
      · rw [thinf, e, if_neg (show ¬ 10 ≤ g n by omega)]
      · rw [show j = n by omega]; exact Nat.le_refl _
    · rw [thinf, e]
      by_cases c : g i ≤ g n
      · refine ⟨i, by omega, by rw [if_pos c], fun j hj => ?_, h2⟩
        by_cases q : j = n
        · rw [q]; exact c
        · exact h1 j (by omega)
      · refine ⟨n, by omega, by rw [if_neg c], fun j hj => ?_, fun j hj => ?_⟩
        · by_cases q : j = n
          · rw [q]; exact Nat.le_refl _
          · have := h1 j (by omega); omega
        · have := h1 j (by omega); omega
theorem first_min {g : Nat → Nat} {n i k : Nat} (hi : i < n) (hk : k < n) (h1 : ∀ j, j < n → g i ≤ g j) (h2 : ∀ j, j < i → g i < g j) (h3 : ∀ j, j < n → g k ≤ g j) (h4 : ∀ j, j < k → g k < g j) : i = k := by
  rcases Nat.lt_trichotomy i k with c | c | c
  · have := h4 i c; have := h1 k hk; omega
  · exact c
  · have := h2 k c; have := h3 i hi; omega
theorem mo_thin_L {N : Nat} {m : St} {p : Nat} {r : Rc} (h : RecIs (m.1 4) r) (hr : RecOk p r) : ∀ (d i f : Nat), d < f → d ≤ i → i < Rc.n r → (∀ j, d ≤ j → j < Rc.n r → bear r i ≤ bear r j) → (∀ j, d ≤ j → j < i → bear r i < bear r j) → ∃ k, k < Rc.n r ∧ mo_thin_L12 N f (nI i) (nI d + (-1)) m = some (nI k, m) ∧ (∀ j, j < Rc.n r → bear r k ≤ bear r j) ∧ ∀ j, j < k → bear r k < bear r j := by
  intro d
  have hn := hr.1
  induction d with
  | zero =>
    intro i f hf hd hi h1 h2
    obtain ⟨f, rfl⟩ : ∃ g, f = g + 1 := ⟨f - 1, by omega⟩
    rw [mo_thin_L12, if_pos (show nI 0 + (-1) < 0 by decide)]
    exact ⟨i, hi, rfl, fun j hj => h1 j (by omega) hj, fun j hj => h2 j (by omega) hj⟩
  | succ d ih =>
    intro i f hf hd hi h1 h2
    obtain ⟨f, rfl⟩ : ∃ g, f = g + 1 := ⟨f - 1, by omega⟩
    have hdn : d < Rc.n r := by omega
    have hb1 := bear_le hr hi
    have hb2 := bear_le hr hdn
    rw [mo_thin_L12, nP1, if_neg (nI_pos (by omega)), if_neg (nI_n9 (by omega)), bd2_eq (mo_bears_eq h hr hdn), bd2_eq (mo_bears_eq h hr hi)]
    by_cases c : bear r i < bear r d
    · rw [if_pos (nI_lt c (by omega)), lt_e]
      refine ih i f (by omega) (by omega) hi (fun j hj hj2 => ?_) (fun j hj hj2 => ?_)
      · by_cases q : j = d
        · rw [q]; omega
        · exact h1 j (by omega) hj2
      · by_cases q : j = d
        · rw [q]; omega
        · exact h2 j (by omega) hj2
    · rw [if_neg (nI_nlt (by omega) (by omega)), lt_e]
      refine ih d f (by omega) (Nat.le_refl _) hdn (fun j hj hj2 => ?_) (fun j hj hj2 => by omega)
      by_cases q : j = d
      · rw [q]; exact Nat.le_refl _
      · have := h1 j (by omega) hj2; omega
theorem mo_thin_eq {N : Nat} {m : St} {p : Nat} {r : Rc} (hN : 100 ≤ N) (h : RecIs (m.1 4) r) (hr : RecOk p r) : mo_thin N m = some ((thinf (bear r) (Rc.n r)).1, m) := by
  have hn := hr.1
  obtain ⟨N, rfl⟩ : ∃ g, N = g + 1 := ⟨N - 1, by omega⟩
  unfold mo_thin
  rw [ck_t b0, i0, h.1, lt_e]
  rcases thinf_spec (g := bear r) (n := Rc.n r) (fun j hj => bear_le hr hj) with ⟨h0, e⟩ | ⟨i, hi, e, h1, h2⟩
  · rw [e, h0, mo_thin_L12, if_pos (show nI 0 - 1 < 0 by decide)]; rfl
  · have hs : nI (Rc.n r) - nI 1 = nI (Rc.n r - 1) := nS (by omega)
    rw [lI 1, hs, mo_thin_L12, if_neg (nI_pos (by omega)), if_pos rfl, lt_e]
    obtain ⟨k, hk, e1, e2, e3⟩ := mo_thin_L (N := N + 1) h hr (Rc.n r - 1) (Rc.n r - 1) N (by omega) (Nat.le_refl _) (by omega) (fun j a b => by rw [show j = Rc.n r - 1 by omega]; exact Nat.le_refl _) (fun j a b => by omega)
    rw [bd2_eq e1, e, first_min hi hk h1 h2 e2 e3]
/-- of whom it is so: a bit each -/
def maskf (g : Nat → Bool) : Nat → Int32
  | 0 => 0
  | n + 1 => if g n then maskf g n ||| (1 <<< (nI n &&& 31)) else maskf g n
theorem wb_mayCross_L {N k a : Nat} {c : St} {T : Tdt} {P : Pst} (hN : 100 ≤ N) (hk : isT k) (h6 : c.1 0 6 = nI k) (hT : TdC c k T) (hO : TdOk T) (h : PastAt c 3 T.1 a P) : ∀ (d j f : Nat), j + d = T.1 → d < f → wb_mayCross_L4 N f (maskf (holdR T P.1) j) (nI j) c = some (maskf (holdR T P.1) T.1, c) := by
  intro d
  have hp := hO.1
  have hkl := isT_lt hk
  induction d with
  | zero =>
    intro j f hj hf
    obtain ⟨f, rfl⟩ : ∃ g, f = g + 1 := ⟨f - 1, by omega⟩
    rw [wb_mayCross_L4, h6, ix_n (by omega), lt_e, ck_t (isTd_t hk), hT.1, if_pos (nLEt (by omega) (by omega)), show j = T.1 by omega]
  | succ d ih =>
    intro j f hj hf
    obtain ⟨f, rfl⟩ : ∃ g, f = g + 1 := ⟨f - 1, by omega⟩
    have hi := ih (j + 1) f (by omega) (by omega)
    rw [maskf] at hi
    rw [wb_mayCross_L4, h6, ix_n (by omega), lt_e, ck_t (isTd_t hk), hT.1, if_neg (nI_ge (by omega) (by omega)), bd2_eq (wb_holdsNow_eq hN hk h6 hT hO h (by omega))]
    by_cases hb : holdR T P.1 j = true
    · rw [if_neg (by rw [nI01, hb]; decide), lt_e, lt_e, lI 1, nA]
      rw [if_pos hb] at hi
      exact hi
    · rw [if_pos (by rw [nI01]; exact Bool.eq_false_iff.mpr hb), lt_e, lI 1, nA]
      rw [if_neg hb] at hi
      exact hi
theorem mo_now_L {N : Nat} {m : St} {T : Tdt} {r : Rc} {a1 : Int32} (hN : 100 ≤ N) (hT : TdM (m.1 2) T) (hO : TdOk T) (h : RecIs (m.1 4) r) (hr : RecOk T.1 r) : ∀ (d j f : Nat), j + d = T.1 → d < f → mo_now_L4 N a1 f (maskf (holdR T r) j) (nI j) m = some (maskf (holdR T r) T.1, m) := by
  intro d
  have hp := hO.1
  induction d with
  | zero =>
    intro j f hj hf
    obtain ⟨f, rfl⟩ : ∃ g, f = g + 1 := ⟨f - 1, by omega⟩
    rw [mo_now_L4, ck_t d0, i0, hT.1, if_pos (nLEt (by omega) (by omega)), show j = T.1 by omega]
  | succ d ih =>
    intro j f hj hf
    obtain ⟨f, rfl⟩ : ∃ g, f = g + 1 := ⟨f - 1, by omega⟩
    have hi := ih (j + 1) f (by omega) (by omega)
    rw [maskf] at hi
    rw [mo_now_L4, ck_t d0, i0, hT.1, if_neg (nI_ge (by omega) (by omega)), bd2_eq (mo_holds_eq hN hT hO h hr (by omega))]
    by_cases hb : holdR T r j = true
    · rw [if_neg (by rw [nI01, hb]; decide), lt_e, lt_e, lI 1, nA]
      rw [if_pos hb] at hi
      exact hi
    · rw [if_pos (by rw [nI01]; exact Bool.eq_false_iff.mpr hb), lt_e, lt_e, Int32.or_zero, lI 1, nA]
      rw [if_neg hb] at hi
      exact hi
theorem mo_now_H {N : Nat} {m : St} {p : Nat} {r : Rc} {a1 a2 : Int32} (h : RecIs (m.1 4) r) (hr : RecOk p r) : ∀ (d j f : Nat), j + d = Rc.n r → d < f → mo_now_L43 N a1 a2 f (nI (ctf (fun j => decide (bear r j = 0)) j)) (nI j) m = some (nI (holesR r), m) := by
  intro d
  have hn := hr.1
  induction d with
  | zero =>
    intro j f hj hf
    obtain ⟨f, rfl⟩ : ∃ g, f = g + 1 := ⟨f - 1, by omega⟩
    rw [mo_now_L43, ck_t b0, i0, h.1, if_pos (nLEt (by omega) (by omega)), show j = Rc.n r by omega]
    rfl
  | succ d ih =>
    intro j f hj hf
    obtain ⟨f, rfl⟩ : ∃ g, f = g + 1 := ⟨f - 1, by omega⟩
    have hjn : j < Rc.n r := by omega
    have hb := bear_le hr hjn
    have hk := ih (j + 1) f (by omega) (by omega)
    rw [ctf] at hk
    rw [mo_now_L43, ck_t b0, i0, h.1, if_neg (nI_ge hjn (by omega)), bd2_eq (mo_bears_eq h hr hjn)]
    by_cases e : bear r j = 0
    · rw [if_pos (by rw [e]; rfl), lt_e, lt_e, lI 1, nA, nA]
      simpa [e] using hk
    · rw [if_neg (by rw [lI 0, nEQ (by omega) (by omega)]; exact e), lt_e, lt_e, lI 1, lI 0, nA, nA]
      simpa [e] using hk
theorem op_now {N : Nat} (hN : 2000 ≤ N) : Op_now N Rel := by
  intro a1 c m hR
  obtain ⟨hx, ⟨T, hT, ⟨P, a, p1, p2, p3⟩, hI⟩, hl, ht⟩ := id hR
  obtain ⟨hO, ⟨k, hk, k6, k7, kC⟩, hM⟩ := id hT
  have h5 := p2.2.2.2.2.1
  have hn := p1.2.1.1
  have hrn := p1.2.1.2.1
  have hp := hO.1
  have hb := p3.1
  unfold wb_now mo_now
  rw [bd2_eq (wb_span_eq p2), ck_t (isSp3 p2.1)]
  rw [bd2_eq (show mo_now_L4 N a1 N 0 0 m = some (maskf (holdR T P.1) T.1, m) from mo_now_L (by omega) hM hO hb p1.2.1 T.1 0 N (by omega) (by omega))]
  rw [bd2_eq (show mo_now_L43 N a1 (maskf (holdR T P.1) T.1) N 0 0 m = some (nI (holesR P.1), m) from mo_now_H hb p1.2.1 (Rc.n P.1) 0 N (by omega) (by omega))]
  by_cases c0 : a1 = 0
  · rw [if_pos c0, if_pos c0, ck_t b2, i2, hb.2.2.1, h5.1.2.2.1]; exact ⟨_, c, m, rfl, rfl, hR⟩
  rw [if_neg c0, if_neg c0]
  by_cases c1 : a1 = 1
  · rw [if_pos c1, if_pos c1, ck_t b0, i0, hb.1, h5.1.1]; exact ⟨_, c, m, rfl, rfl, hR⟩
  rw [if_neg c1, if_neg c1]
  by_cases c2 : a1 = 2
  · rw [if_pos c2, if_pos c2, ck_t b0, ck_t b1, i0, i1, hb.1, hb.2.1, bd2_eq (sp_length_eq h5.1 h5.2), bd2_eq (mo_longOf_eq (by omega) hrn)]; exact ⟨_, c, m, rfl, rfl, hR⟩
  rw [if_neg c2, if_neg c2]
  by_cases c3 : a1 = 3
  · rw [if_pos c3, if_pos c3, ck_t b1, i1, hb.2.1, h5.1.2.1]
    by_cases z : Rc.rain P.1 = 0
    · rw [z, if_pos (show nI 0 = 0 from rfl)]; exact ⟨_, c, m, rfl, rfl, hR⟩
    · rw [show Rc.rain P.1 = 1 by omega, if_neg (show ¬ nI 1 = 0 by decide)]; exact ⟨_, c, m, rfl, rfl, hR⟩
  rw [if_neg c3, if_neg c3]
  by_cases c4 : a1 = 4
  · rw [if_pos c4, if_pos c4, bd2_eq (sp_strength_eq (by omega) h5.1 h5.2), bd2_eq (mo_most_eq (by omega) hb p1.2.1)]; exact ⟨_, c, m, rfl, rfl, hR⟩
  rw [if_neg c4, if_neg c4]
  by_cases c5 : a1 = 5
  · have hw : wb_mayCross N c = some (maskf (holdR T P.1) T.1, c) := by
      unfold wb_mayCross
      exact bd2_eq (wb_mayCross_L (N := N) (by omega) hk k6 kC hO p2 T.1 0 N (by omega) (by omega))
    rw [if_pos c5, if_pos c5, bd2_eq hw]; exact ⟨_, c, m, rfl, rfl, hR⟩
  rw [if_neg c5, if_neg c5]
  by_cases c6 : a1 = 6
  · rw [if_pos c6, if_pos c6, bd2_eq (sp_thinnest_eq (by omega) h5.1 h5.2), bd2_eq (mo_thin_eq (by omega) hb p1.2.1)]; exact ⟨_, c, m, rfl, rfl, hR⟩
  rw [if_neg c6, if_neg c6]
  by_cases c7 : a1 = 7
  · rw [if_pos c7, if_pos c7, bd2_eq (sp_holes_eq (by omega) h5.1 h5.2)]; exact ⟨_, c, m, rfl, rfl, hR⟩
  rw [if_neg c7, if_neg c7]
  by_cases c8 : a1 = 8
  · rw [if_pos c8, if_pos c8, bd2_eq (sp_middle_eq h5.1 h5.2), ck_t b0, i0, hb.1]
    unfold midR
    by_cases z : Rc.n P.1 = 0
    · rw [z, if_pos rfl, if_pos (show nI 0 = 0 from rfl)]; exact ⟨_, c, m, rfl, rfl, hR⟩
    · rw [if_neg z, if_neg (show ¬ nI (Rc.n P.1) = 0 by rw [lI 0, nEQ (by omega) (by omega)]; exact z), ck_t b0, lI 1, nS (by omega), lI 2, nD (by omega) (by omega) (by omega), lI 3, nA, ck_t (inb_t (by omega) (by omega)), ix_n (by omega), (hb.2.2.2 _ (by omega)).1]
      exact ⟨_, c, m, rfl, rfl, hR⟩
  rw [if_neg c8, if_neg c8]
  exact ⟨_, c, m, rfl, rfl, hR⟩
