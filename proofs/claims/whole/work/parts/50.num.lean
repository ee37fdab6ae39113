/-! PURE: numbers and memory -/
theorem lI (n : Nat) : (OfNat.ofNat n : Int32) = nI n := rfl
theorem ix_n {n : Nat} (h : n < 2 ^ 31) : ix (nI n) = n := nI_clamp h
theorem inb_t {j n : Nat} (h : j < n) (hn : n < 2 ^ 31) : inb (nI j) n = true := decide_eq_true (vp_in_nI h hn)
theorem ck_t {α : Type} {c : Bool} {x : Option α} (h : c = true) : ck c x = x := if_pos h
theorem lt_e {α β : Type} (e : α) (F : α → β) : lt e F = F e := rfl
theorem bz0 : bz (nI 0) = true := rfl
theorem bz1 : bz (nI 1) = true := rfl
theorem bzb {n : Nat} (h : n ≤ 1) : bz (nI n) = true := by
  match n, h with
  | 0, _ => rfl
  | 1, _ => rfl
theorem put_at (σ : St) (k j k' j' : Nat) (v : Int32) : (put σ k j v).1 k' j' = if k' = k ∧ j' = j then v else σ.1 k' j' := by
  show (if k' = k then upd (σ.1 k) j v else σ.1 k') j' = _
  by_cases h : k' = k
  · subst h
    rw [if_pos rfl]
    show (if j' = j then v else σ.1 k' j') = _
    simp
  · rw [if_neg h, if_neg (fun q => h q.1)]
theorem put_l (σ : St) (k j : Nat) (v : Int32) : (put σ k j v).2 = σ.2 := rfl
theorem put_o {σ : St} {k j k' : Nat} {v : Int32} (h : k' ≠ k) : (put σ k j v).1 k' = σ.1 k' := if_neg h
theorem cpy_at (σ : St) (k0 k1 sp dp n k' j' : Nat) : (cpy σ k0 k1 sp dp n).1 k' j' = if k' = k1 ∧ dp ≤ j' ∧ j' < dp + n then σ.1 k0 (sp + (j' - dp)) else σ.1 k' j' := by
  show (if k' = k1 then va_cpy (σ.1 k0) (σ.1 k1) sp dp n else σ.1 k') j' = _
  by_cases h : k' = k1
  · subst h
    rw [if_pos rfl]
    show (if dp ≤ j' ∧ j' < dp + n then _ else _) = _
    simp
  · rw [if_neg h, if_neg (fun q => h q.1)]
theorem cpy_l (σ : St) (k0 k1 sp dp n : Nat) : (cpy σ k0 k1 sp dp n).2 = σ.2 := rfl
theorem cpy_o {σ : St} {k0 k1 sp dp n k' : Nat} (h : k' ≠ k1) : (cpy σ k0 k1 sp dp n).1 k' = σ.1 k' := if_neg h
theorem cpok_t {sp dp n n0 n1 : Nat} (h1 : sp + n ≤ n0) (h2 : dp + n ≤ n1) (h0 : n0 < 2 ^ 31) (h3 : n1 < 2 ^ 31) : cpok (nI sp) (nI dp) (nI n) n0 n1 = true := by
  refine decide_eq_true ⟨nI_pos (by omega), nI_pos (by omega), nI_pos (by omega), ?_, ?_⟩ <;> rw [ix_n (by omega), ix_n (by omega)] <;> omega
/-- nI of a sum, a difference, a product, a quotient, a rest -/
theorem nA (a b : Nat) : nI a + nI b = nI (a + b) := nI_add a b
theorem nS {a b : Nat} (h : b ≤ a) : nI a - nI b = nI (a - b) := pk_sub h
theorem nM (a b : Nat) : nI a * nI b = nI (a * b) := pk_mul a b
theorem nD {a d : Nat} (ha : a < 2 ^ 31) (h0 : 0 < d) (hd : d < 2 ^ 31) : nI a / nI d = nI (a / d) := pk_div ha h0 hd
theorem nR {a d : Nat} (ha : a < 2 ^ 31) (h0 : 0 < d) (hd : d < 2 ^ 31) : rem (nI a) (nI d) = nI (a % d) := pk_rem ha h0 hd
theorem nLT {a b : Nat} (ha : a < 2 ^ 31) (hb : b < 2 ^ 31) : (nI a < nI b) = (a < b) := propext (nI_ltI ha hb)
theorem nLE {a b : Nat} (ha : a < 2 ^ 31) (hb : b < 2 ^ 31) : (nI a ≤ nI b) = (a ≤ b) := propext (nI_leI ha hb)
theorem nEQ {a b : Nat} (ha : a < 2 ^ 31) (hb : b < 2 ^ 31) : (nI a = nI b) = (a = b) := propext (nI_eq ha hb)
theorem nmn {a b : Nat} (ha : a < 2 ^ 31) (hb : b < 2 ^ 31) : mn (nI a) (nI b) = nI (min a b) := by
  unfold mn
  simp only [nLT hb ha]
  by_cases h : b < a
  · rw [if_pos h, Nat.min_eq_right (by omega)]
  · rw [if_neg h, Nat.min_eq_left (by omega)]
theorem nmx {a b : Nat} (ha : a < 2 ^ 31) (hb : b < 2 ^ 31) : mx (nI a) (nI b) = nI (max a b) := by
  unfold mx
  simp only [nLT ha hb]
  by_cases h : a < b
  · rw [if_pos h, Nat.max_eq_right (by omega)]
  · rw [if_neg h, Nat.max_eq_left (by omega)]
/-- what is below 0 is cut off -/
theorem nmx0 {a b : Nat} (ha : a < 2 ^ 30) (hb : b < 2 ^ 30) : mx (nI 0) (nI a - nI b) = nI (a - b) := by
  by_cases h : b ≤ a
  · rw [nS h, nmx (by omega) (by omega), Nat.max_eq_right (Nat.zero_le _)]
  · unfold mx
    have h1 : nI a - nI b < 0 := pk_sneg hb (by omega)
    rw [if_neg ?_, show a - b = 0 by omega]
    intro q
    rw [Int32.lt_iff_toInt_lt] at h1 q
    have : (nI 0).toInt = 0 := rfl
    have : (0 : Int32).toInt = 0 := rfl
    omega
/-- an int that is one of the numbers below n -/
def inR (a : Int32) (n : Nat) : Prop := ∃ j, j < n ∧ a = nI j
theorem inR_or (a : Int32) {n : Nat} (hn : n < 2 ^ 31) : inR a n ∨ (¬ inR a n ∧ (a < nI 0 ∨ nI n ≤ a)) := by
  by_cases h : inR a n
  · exact Or.inl h
  · refine Or.inr ⟨h, ?_⟩
    rcases pk_ix a hn with q | q | ⟨j, hj, q⟩
    · exact Or.inl q
    · exact Or.inr q
    · exact absurd ⟨j, hj, q⟩ h
theorem nLEt {a b : Nat} (h : a ≤ b) (hb : b < 2 ^ 31) : nI a ≤ nI b := nI_le h hb
