/-! CONSTRUCTORS: worlds that grow; their ends are layouts -/
def zS : St := (fun _ _ => 0, 0)
def shS (n : Nat) (σ : St) : St := (fun k => σ.1 (n + k), σ.2)
def noDyn (shs : List Sh) : Bool := shs.all (fun sh => match sh with | .inl (_, fks) => !(fks.contains 2) | .inr _ => true)
theorem fkv_shift {π : Nat → Nat} {σ : St} {n k j fk : Nat} (h : fk ≠ 2) : fkv π σ (n + k) j fk = fkv (fun i => π (n + i)) (shS n σ) k j fk := by
  match fk, h with
  | 0, _ => rfl
  | 1, _ => rfl
  | m + 3, _ => show Value.ref (π (n + k + m)) = Value.ref (π (n + (k + m))); rw [Nat.add_assoc]
theorem cellv_shift {cA : Nat → ClassId} {π : Nat → Nat} {σ : St} {n k : Nat} {sh : Sh} (h : (match sh with | .inl (_, fks) => !(fks.contains 2) | .inr _ => true) = true) : cellv cA π σ (n + k) sh = cellv cA (fun i => π (n + i)) (shS n σ) k sh := by
  rcases sh with ⟨ci, fks⟩ | ⟨t, m, d⟩
  · show Sum.inr _ = Sum.inr _
    congr 2
    apply List.ext_getElem?
    intro a
    rw [List.getElem?_mapIdx, List.getElem?_mapIdx]
    cases hf : fks[a]? with
    | none => rfl
    | some fk =>
      have : fk ≠ 2 := by
        intro q
        subst q
        have := List.mem_of_getElem? hf
        simp at h
        exact h this
      exact congrArg some (fkv_shift this)
  · cases d with
    | zero => rfl
    | succ d =>
      refine congrArg (fun f : Nat → Option Nat => (Sum.inl (cA t, m, .inr (.inr (.inr (.inr f)))) : va_E)) (funext fun i => ?_)
      rw [show n + k + 1 + (d + 1) * i = n + (k + 1 + (d + 1) * i) by omega]
theorem lay_app {cA : Nat → ClassId} {π : Nat → Nat} {a b : List Sh} {σ : St} (h : noDyn b = true) : lay cA π (a ++ b) σ = lay cA π a σ ++ lay cA (fun i => π (a.length + i)) b (shS a.length σ) := by
  apply List.ext_getElem?
  intro i
  by_cases hi : i < a.length
  · rw [List.getElem?_append_left (by rw [lay_len]; exact hi)]
    unfold lay
    rw [List.getElem?_mapIdx, List.getElem?_mapIdx, List.getElem?_append_left hi]
  · rw [List.getElem?_append_right (by rw [lay_len]; omega), lay_len]
    obtain ⟨k, rfl⟩ : ∃ k, i = a.length + k := ⟨i - a.length, by omega⟩
    rw [Nat.add_sub_cancel_left]
    unfold lay
    rw [List.getElem?_mapIdx, List.getElem?_mapIdx, List.getElem?_append_right (by omega), Nat.add_sub_cancel_left]
    cases hb : b[k]? with
    | none => rfl
    | some sh =>
      exact congrArg (fun e => some (π (a.length + k), e)) (cellv_shift (List.all_eq_true.mp h sh (List.mem_of_getElem? hb)))
def clo (shs : List Sh) : Bool := (List.range shs.length).all (fun k => match shs[k]? with | some (.inl (_, fks)) => fks.all (fun fk => decide (fk = 0) || decide (fk = 1) || (decide (3 ≤ fk) && decide (k + (fk - 3) < shs.length))) | some (.inr (_, n, d)) => decide (d = 0) || decide (k + 1 + d * (n - 1) < shs.length) | none => false)
theorem lay_congr {cA : Nat → ClassId} {π π' : Nat → Nat} {shs : List Sh} {σ σ' : St} (hc : clo shs = true) (hπ : ∀ k, k < shs.length → π k = π' k) (hσ : ∀ k, k < shs.length → σ.1 k = σ'.1 k) (hl : σ.2 = σ'.2) : lay cA π shs σ = lay cA π' shs σ' := by
  apply List.ext_getElem?
  intro k
  unfold lay
  rw [List.getElem?_mapIdx, List.getElem?_mapIdx]
  cases hs : shs[k]? with
  | none => rfl
  | some sh =>
    have hk : k < shs.length := (List.getElem?_eq_some_iff.mp hs).1
    have h1 := List.all_eq_true.mp hc k (List.mem_range.mpr hk)
    rw [hs] at h1
    show some (π k, cellv cA π σ k sh) = some (π' k, cellv cA π' σ' k sh)
    rw [hπ k hk]
    refine congrArg (fun e => some (π' k, e)) ?_
    rcases sh with ⟨ci, fks⟩ | ⟨t, n, d⟩
    · show Sum.inr _ = Sum.inr _
      congr 2
      apply List.ext_getElem?
      intro a
      rw [List.getElem?_mapIdx, List.getElem?_mapIdx]
      cases hf : fks[a]? with
      | none => rfl
      | some fk =>
        have h2 := List.all_eq_true.mp h1 fk (List.mem_of_getElem? hf)
        show some (fkv π σ k a fk) = some (fkv π' σ' k a fk)
        refine congrArg some ?_
        match fk, h2 with
        | 0, _ => show Value.int _ = Value.int _; rw [hσ k hk]
        | 1, _ => show Value.long _ = Value.long _; rw [hl]
        | m + 3, h2 =>
          show Value.ref _ = Value.ref _
          rw [hπ (k + m) (by simp at h2; omega)]
    · cases d with
      | zero => show Sum.inl _ = Sum.inl _; rw [hσ k hk]
      | succ d =>
        refine congrArg (fun f : Nat → Option Nat => (Sum.inl (cA t, n, .inr (.inr (.inr (.inr f)))) : va_E)) (funext fun i => ?_)
        by_cases hi : i < n
        · rw [if_pos hi, if_pos hi, hπ]
          simp at h1
          have : (d + 1) * i ≤ (d + 1) * (n - 1) := Nat.mul_le_mul_left _ (by omega)
          omega
        · rw [if_neg hi, if_neg hi]
/-- the addresses of lists one behind another -/
def sg : List (Nat × (Nat → Nat)) → Nat → Nat
  | [], _ => 0
  | (n, p) :: t, k => if k < n then p k else sg t (k - n)
theorem lay_chain {cA : Nat → ClassId} {a b : List Sh} {σ σa : St} {p : Nat → Nat} {t : List (Nat × (Nat → Nat))} {n : Nat} (hn : a.length = n) (hb : noDyn b = true) (hc : clo a = true) (hσ : ∀ k, k < n → σ.1 k = σa.1 k) (hl : σ.2 = σa.2) : lay cA (sg ((n, p) :: t)) (a ++ b) σ = lay cA p a σa ++ lay cA (sg t) b (shS n σ) := by
  subst hn
  rw [lay_app hb, lay_congr (π := sg ((a.length, p) :: t)) (π' := p) (σ' := σa) hc (fun k hk => if_pos hk) hσ hl]
  congr 1
  congr 1
  funext i
  show (if a.length + i < a.length then _ else _) = _
  rw [if_neg (by omega), Nat.add_sub_cancel_left]
abbrev Go : Type := (Program × Launch × Env × Room × State × MethodId × Array Value × List Frame × Method × Code) × (va_G × (Nat → Prop) × Nat × (State → Prop))
def Gw (Γ : Go) (ws : va_W) (cs ss : Nat) : Gx Unit := (Γ.1, (Γ.2.1, (fun _ => ws), Γ.2.2.1, Γ.2.2.2.1, cs, ss, Γ.2.2.2.2))
def AO (U : State) : Prop := va_AO "WoolBridge$Span" U ∧ va_AO "WoolBridge$Past" U
theorem AO.moved {u U : State} (h : u.vm.Alike U.vm) (q : AO u) : AO U := ⟨q.1.moved h, q.2.moved h⟩
/-- what stands still while a method makes cells (ini: it is a constructor) -/
def Cq (ini : Bool) (Γ : Go) (cc : ByteArray) (own : String) (cA : Nat → ClassId) (fr lo n mc ms : Nat) (ws : va_W) (cs ss : Nat) : Prop := Cx (Gw Γ ws cs ss) cc own cA fr lo n ∧ (match Γ with
  | ((_, _, _, R, s, _, _, _, meth, _), _) => R.cells = mc ∧ R.slots = ms ∧ AO s ∧ (ini = true → meth.name = "<init>"))
abbrev Co := Cq true
section NR
variable {ini : Bool} {Γ : Go} {cc : ByteArray} {own : String} {cA : Nat → ClassId} {fr lo n mc ms : Nat} {ws : va_W} {cs ss : Nat} {pc : Nat} {L : List (Nat × Value)} {stk : List Value}
theorem Cq.grow {ws' : va_W} {cs' ss' : Nat} (C : Cq ini Γ cc own cA fr lo n mc ms ws cs ss) (hD : va_D Γ.2.2.1 ws') (h1 : cs' ≤ mc) (h2 : ss' ≤ ms) : Cq ini Γ cc own cA fr lo n mc ms ws' cs' ss' := by
  obtain ⟨⟨p, l, e, R, s, m, args, below, meth, c⟩, ⟨D, A, nL, Q⟩⟩ := Γ
  obtain ⟨⟨hx, hb, hml, hn, hown, hts, hK, -, hN, hA, g1, g2, g3, g4⟩, e1, e2, hAO, hin⟩ := C
  exact ⟨⟨hx, hb, hml, hn, hown, hts, hK, fun _ => hD, hN, hA, g1, g2, by rw [e1]; exact h1, by rw [e2]; exact h2⟩, e1, e2, hAO, hin⟩
theorem n_new (C : Cq ini Γ cc own cA fr lo n mc ms ws cs ss) {C' : String} {T : u_T} {N ci i : Nat} {fs : List Value} (hin : ∀ w ∈ u_ws C' T N, w ∈ UW) (ty0 : Nat → FieldType) (hty : ∀ k, k < N → parseFieldDescriptor (T k).2.2.1 = some (ty0 k)) (hl : Cond.classLink own i C' ∈ UW) (ho : Cond.instantiable C' N ∈ UW) (hn : Cond.initialized C' ∈ UW) (hc : vwCl[ci]? = some (C', T, N)) (hfs : ∀ j, j < N → defaultValue (ty0 j) = vp_V fs j) (h1 : cs + 1 ≤ mc) (h2 : ss + N ≤ ms) (hd : decode cc pc = .ok (.new i, 3))
    (kk : ∀ q, Cq ini Γ cc own cA fr lo n mc ms (ws ++ [(q, .inr (ci, fs))]) (cs + 1) (ss + N) → Wx (Gw Γ (ws ++ [(q, .inr (ci, fs))]) (cs + 1) (ss + N)) () (pc + 3) L (.ref q :: stk)) : Wx (Gw Γ ws cs ss) () pc L stk := by
  obtain ⟨⟨p, l, e, R, s, m, args, below, meth, c⟩, ⟨D, A, nL, Q⟩⟩ := Γ
  have C0 := C
  obtain ⟨⟨hx, hb, hml, hnn, hown, hts, hK, hD, hN, hA, g1, g2, g3, g4⟩, e1, e2, hAO, hi⟩ := C
  intro H locs ls hP hS hh
  exact va_new hx hb hts hin ty0 hty hown (hts _ hl) (hts _ ho) (hts _ hn) hK hP (hD ()) hS hA hc hfs (by rw [e1]; exact h1) (by rw [e2]; exact h2) hd (fun q H1 hP1 hD1 hS1 => kk q (C0.grow hD1 h1 h2) H1 locs ls hP1 hS1 hh)
theorem ty_eqI {D : va_G} {c' : ClassId} {s : State} (h : va_K D vwCl (TY cA ++ [(c', .int)]) s) : c' = cA 0 := Option.some.inj (((h.2 4 _ rfl).2 : s.vm.findClass _ = some c').symm.trans ((h.2 0 _ rfl).2 : s.vm.findClass _ = some (cA 0)))
theorem ty_eqZ {D : va_G} {c' : ClassId} {s : State} (h : va_K D vwCl (TY cA ++ [(c', .boolean)]) s) : c' = cA 1 := Option.some.inj (((h.2 4 _ rfl).2 : s.vm.findClass _ = some c').symm.trans ((h.2 1 _ rfl).2 : s.vm.findClass _ = some (cA 1)))
theorem ty_eqS {D : va_G} {c' : ClassId} {s : State} (h : va_K D vwCl (TY cA ++ [(c', .object "WoolBridge$Span")]) s) : c' = cA 2 := by
  obtain ⟨_, _, _, _, _, h1⟩ := (h.2 4 _ rfl).2
  obtain ⟨_, _, _, _, _, h2⟩ := (h.2 2 _ rfl).2
  exact Option.some.inj (h1.symm.trans h2)
theorem ty_eqP {D : va_G} {c' : ClassId} {s : State} (h : va_K D vwCl (TY cA ++ [(c', .object "WoolBridge$Past")]) s) : c' = cA 3 := by
  obtain ⟨_, _, _, _, _, h1⟩ := (h.2 4 _ rfl).2
  obtain ⟨_, _, _, _, _, h2⟩ := (h.2 3 _ rfl).2
  exact Option.some.inj (h1.symm.trans h2)
theorem n_newI (C : Cq ini Γ cc own cA fr lo n mc ms ws cs ss) {k : Int32} {N : Nat} (hk : ¬ k < 0) (hN : k.toNatClampNeg = N) (hB : N * componentBytes .int ≤ 536870912) (h1 : cs + 1 ≤ mc) (h2 : ss + N ≤ ms) (hd : decode cc pc = .ok (.newarray .int, 2))
    (kk : ∀ q, Cq ini Γ cc own cA fr lo n mc ms (ws ++ [(q, .inl (cA 0, N, .inl (fun _ => 0)))]) (cs + 1) (ss + N) → Wx (Gw Γ (ws ++ [(q, .inl (cA 0, N, .inl (fun _ => 0)))]) (cs + 1) (ss + N)) () (pc + 2) L (.ref q :: stk)) : Wx (Gw Γ ws cs ss) () pc L (.int k :: stk) := by
  obtain ⟨⟨p, l, e, R, s, m, args, below, meth, c⟩, ⟨D, A, nL, Q⟩⟩ := Γ
  have C0 := C
  obtain ⟨⟨hx, hb, hml, hnn, hown, hts, hK, hD, hNW, hA, g1, g2, g3, g4⟩, e1, e2, hAO, hi⟩ := C
  intro H locs ls hP hS hh
  refine va_newa (atype := .int) (ty := .int) (a0 := (N, .inl (fun _ => 0))) hx hb (hts _ ua_int) rfl hK hP (hD ()) hS hA (fun _ => rfl) hk hN hB (by rw [e1]; exact h1) (by rw [e2]; exact h2) hd (fun q c' H1 hK1 hP1 hD1 hS1 => ?_)
  have := ty_eqI hK1
  subst this
  exact kk q (C0.grow hD1 h1 h2) H1 locs ls hP1 hS1 hh
theorem n_newZ (C : Cq ini Γ cc own cA fr lo n mc ms ws cs ss) {k : Int32} {N : Nat} (hk : ¬ k < 0) (hN : k.toNatClampNeg = N) (hB : N * componentBytes .boolean ≤ 536870912) (h1 : cs + 1 ≤ mc) (h2 : ss + N ≤ ms) (hd : decode cc pc = .ok (.newarray .boolean, 2))
    (kk : ∀ q, Cq ini Γ cc own cA fr lo n mc ms (ws ++ [(q, .inl (cA 1, N, .inl (fun _ => 0)))]) (cs + 1) (ss + N) → Wx (Gw Γ (ws ++ [(q, .inl (cA 1, N, .inl (fun _ => 0)))]) (cs + 1) (ss + N)) () (pc + 2) L (.ref q :: stk)) : Wx (Gw Γ ws cs ss) () pc L (.int k :: stk) := by
  obtain ⟨⟨p, l, e, R, s, m, args, below, meth, c⟩, ⟨D, A, nL, Q⟩⟩ := Γ
  have C0 := C
  obtain ⟨⟨hx, hb, hml, hnn, hown, hts, hK, hD, hNW, hA, g1, g2, g3, g4⟩, e1, e2, hAO, hi⟩ := C
  intro H locs ls hP hS hh
  refine va_newa (atype := .boolean) (ty := .boolean) (a0 := (N, .inl (fun _ => 0))) hx hb (hts _ ua_boolean) rfl hK hP (hD ()) hS hA (fun _ => rfl) hk hN hB (by rw [e1]; exact h1) (by rw [e2]; exact h2) hd (fun q c' H1 hK1 hP1 hD1 hS1 => ?_)
  have := ty_eqZ hK1
  subst this
  exact kk q (C0.grow hD1 h1 h2) H1 locs ls hP1 hS1 hh
/-- a new array of references: t = 2 of Span, t = 3 of Past -/
theorem n_newq (C : Cq ini Γ cc own cA fr lo n mc ms ws cs ss) {k : Int32} {N i t : Nat} {C' : String} (hC : t = 2 ∧ C' = "WoolBridge$Span" ∨ t = 3 ∧ C' = "WoolBridge$Past") (hl : Cond.classLink own i C' ∈ UW) (hk : ¬ k < 0) (hN : k.toNatClampNeg = N) (hB : N * 4 ≤ 536870912) (h1 : cs + 1 ≤ mc) (h2 : ss + N ≤ ms) (hd : decode cc pc = .ok (.anewarray i, 3))
    (kk : ∀ q, Cq ini Γ cc own cA fr lo n mc ms (ws ++ [(q, .inl (cA t, N, .inr (.inr (.inr (.inr (fun _ => none))))))]) (cs + 1) (ss + N) → Wx (Gw Γ (ws ++ [(q, .inl (cA t, N, .inr (.inr (.inr (.inr (fun _ => none))))))]) (cs + 1) (ss + N)) () (pc + 3) L (.ref q :: stk)) : Wx (Gw Γ ws cs ss) () pc L (.int k :: stk) := by
  obtain ⟨⟨p, l, e, R, s, m, args, below, meth, c⟩, ⟨D, A, nL, Q⟩⟩ := Γ
  have C0 := C
  obtain ⟨⟨hx, hb, hml, hnn, hown, hts, hK, hD, hNW, hA, g1, g2, g3, g4⟩, e1, e2, hAO, hi⟩ := C
  intro H locs ls hP hS hh
  rcases hC with ⟨rfl, rfl⟩ | ⟨rfl, rfl⟩
  · refine va_newq hx hb hown (hts _ hl) hAO.1 hK hP (hD ()) hS hA hk hN hB (by rw [e1]; exact h1) (by rw [e2]; exact h2) hd (fun q c' H1 hK1 hP1 hD1 hS1 => ?_)
    have := ty_eqS hK1
    subst this
    exact kk q (C0.grow hD1 h1 h2) H1 locs ls hP1 hS1 hh
  · refine va_newq hx hb hown (hts _ hl) hAO.2 hK hP (hD ()) hS hA hk hN hB (by rw [e1]; exact h1) (by rw [e2]; exact h2) hd (fun q c' H1 hK1 hP1 hD1 hS1 => ?_)
    have := ty_eqP hK1
    subst this
    exact kk q (C0.grow hD1 h1 h2) H1 locs ls hP1 hS1 hh
theorem n_putF (C : Cq true Γ cc own cA fr lo n mc ms ws cs ss) {C' : String} {T : u_T} {N ci i j a : Nat} (q0 : Nat) {fs : List Value} {v : Value} {ty : FieldType} (hu : Cond.fieldLink own i C' (T j).2.1 (T j).2.2.1 ∈ UW) (hin : ∀ w ∈ u_ws C' T N, w ∈ UW) (ty0 : Nat → FieldType) (hty : ∀ k, k < N → parseFieldDescriptor (T k).2.2.1 = some (ty0 k)) (hnm : ∀ a, a < N → ∀ b, b < N → a ≠ b → (T a).2.1 ≠ (T b).2.1) (hc : vwCl[ci]? = some (C', T, N)) (hj : j < N) (hT : (T j).1 = C') (hf : (T j).2.2.2 = true) (ho : C' = own) (hde : parseFieldDescriptor (T j).2.2.1 = some ty) (hnar : narrow ty v = v) (hfit : fits ty v = true) (he : ws[q0]? = some (a, .inr (ci, fs))) (hl : j < fs.length) (hd : decode cc pc = .ok (.putfield i, 3))
    (kk : Cq true Γ cc own cA fr lo n mc ms (ws.set q0 (a, .inr (ci, fs.set j v))) cs ss → Wx (Gw Γ (ws.set q0 (a, .inr (ci, fs.set j v))) cs ss) () (pc + 3) L stk) : Wx (Gw Γ ws cs ss) () pc L (v :: .ref a :: stk) := by
  obtain ⟨⟨p, l, e, R, s, m, args, below, meth, c⟩, ⟨D, A, nL, Q⟩⟩ := Γ
  have C0 := C
  obtain ⟨⟨hx, hb, hml, hnn, hown, hts, hK, hD, hNW, hA, g1, g2, g3, g4⟩, e1, e2, hAO, hi⟩ := C
  intro H locs ls hP hS hh
  exact va_putF hx hb hts hin ty0 hty hnm hown hK hP (hD ()) hS q0 he hc j hj (hts _ hu) (fun x h => by rw [← hT]; exact h) hf (hi rfl) (hT.trans ho) hde hnar hfit hl hd (fun H1 locs1 hP1 hD1 hS1 => kk (C0.grow hD1 (e1 ▸ g3) (e2 ▸ g4)) H1 locs1 ls hP1 hS1 hh)
theorem n_put (C : Cq ini Γ cc own cA fr lo n mc ms ws cs ss) {C' : String} {T : u_T} {N ci i j a : Nat} (q0 : Nat) {fs : List Value} {v : Value} {ty : FieldType} (hu : Cond.fieldLink own i C' (T j).2.1 (T j).2.2.1 ∈ UW) (hin : ∀ w ∈ u_ws C' T N, w ∈ UW) (ty0 : Nat → FieldType) (hty : ∀ k, k < N → parseFieldDescriptor (T k).2.2.1 = some (ty0 k)) (hnm : ∀ a, a < N → ∀ b, b < N → a ≠ b → (T a).2.1 ≠ (T b).2.1) (hc : vwCl[ci]? = some (C', T, N)) (hj : j < N) (hT : (T j).1 = C') (hf : (T j).2.2.2 = false) (hde : parseFieldDescriptor (T j).2.2.1 = some ty) (hnar : narrow ty v = v) (hfit : fits ty v = true) (he : ws[q0]? = some (a, .inr (ci, fs))) (hl : j < fs.length) (hd : decode cc pc = .ok (.putfield i, 3))
    (kk : Cq ini Γ cc own cA fr lo n mc ms (ws.set q0 (a, .inr (ci, fs.set j v))) cs ss → Wx (Gw Γ (ws.set q0 (a, .inr (ci, fs.set j v))) cs ss) () (pc + 3) L stk) : Wx (Gw Γ ws cs ss) () pc L (v :: .ref a :: stk) := by
  obtain ⟨⟨p, l, e, R, s, m, args, below, meth, c⟩, ⟨D, A, nL, Q⟩⟩ := Γ
  have C0 := C
  obtain ⟨⟨hx, hb, hml, hnn, hown, hts, hK, hD, hNW, hA, g1, g2, g3, g4⟩, e1, e2, hAO, hi⟩ := C
  intro H locs ls hP hS hh
  exact va_put hx hb hts hin ty0 hty hnm hown hK hP (hD ()) hS q0 he hc j hj (hts _ hu) (fun x h => by rw [← hT]; exact h) hf hde hnar hfit hl hd (fun H1 locs1 hP1 hD1 hS1 => kk (C0.grow hD1 (e1 ▸ g3) (e2 ▸ g4)) H1 locs1 ls hP1 hS1 hh)
theorem n_get (C : Cq ini Γ cc own cA fr lo n mc ms ws cs ss) {C' : String} {T : u_T} {N ci i j a : Nat} (q0 : Nat) {fs : List Value} {v : Value} (hu : Cond.fieldLink own i C' (T j).2.1 (T j).2.2.1 ∈ UW) (hin : ∀ w ∈ u_ws C' T N, w ∈ UW) (hc : vwCl[ci]? = some (C', T, N)) (hj : j < N) (hT : (T j).1 = C') (he : ws[q0]? = some (a, .inr (ci, fs))) (hv : fs[j]? = some v) (hd : decode cc pc = .ok (.getfield i, 3)) (kk : Wx (Gw Γ ws cs ss) () (pc + 3) L (v :: stk)) : Wx (Gw Γ ws cs ss) () pc L (.ref a :: stk) := by
  obtain ⟨⟨p, l, e, R, s, m, args, below, meth, c⟩, ⟨D, A, nL, Q⟩⟩ := Γ
  obtain ⟨⟨hx, hb, hml, hnn, hown, hts, hK, hD, hNW, hA, g1, g2, g3, g4⟩, e1, e2, hAO, hi⟩ := C
  intro H locs ls hP hS hh
  exact va_get hx hb hts hin hown hK hP q0 he hc j hj (hts _ hu) (fun x h => by rw [← hT]; exact h) hv hd (kk H locs ls hP hS hh)
theorem n_aast (C : Cq ini Γ cc own cA fr lo n mc ms ws cs ss) (q0 t qk ci : Nat) {a N v : Nat} {r : vw_C} {vs : List Value} {f : Nat → Option Nat} {i : Int32} (ha : ws[q0]? = some (a, .inl (cA t, N, .inr (.inr (.inr (.inr f)))))) (ht : (TY cA)[t]? = some (cA t, .object r.1)) (hv : ws[qk]? = some (v, .inr (ci, vs))) (hc : vwCl[ci]? = some r) (hi : vp_in i N) (hd : decode cc pc = .ok (.aastore, 1))
    (kk : Cq ini Γ cc own cA fr lo n mc ms (ws.set q0 (a, .inl (cA t, N, .inr (.inr (.inr (.inr (va_up f i.toNatClampNeg (some v)))))))) cs ss → Wx (Gw Γ (ws.set q0 (a, .inl (cA t, N, .inr (.inr (.inr (.inr (va_up f i.toNatClampNeg (some v)))))))) cs ss) () (pc + 1) L stk) : Wx (Gw Γ ws cs ss) () pc L (.ref v :: .int i :: .ref a :: stk) := by
  obtain ⟨⟨p, l, e, R, s, m, args, below, meth, c⟩, ⟨D, A, nL, Q⟩⟩ := Γ
  have C0 := C
  obtain ⟨⟨hx, hb, hml, hnn, hown, hts, hK, hD, hNW, hA, g1, g2, g3, g4⟩, e1, e2, hAO, hin⟩ := C
  intro H locs ls hP hS hh
  exact va_astq hx hb hK hP (hD ()) hS q0 t qk ci ha ht hv hc hi hd (fun H1 locs1 hP1 hD1 hS1 => kk (C0.grow hD1 (e1 ▸ g3) (e2 ▸ g4)) H1 locs1 ls hP1 hS1 hh)
theorem n_oinit (C : Cq ini Γ cc own cA fr lo n mc ms ws cs ss) {i a : Nat} (hu : Cond.methodLink own i objectInit ∈ UW) (hd : decode cc pc = .ok (.invokespecial i, 3)) (h1 : 1 ≤ fr) (h2 : (stk.map fun v => v.category).sum + 12 ≤ lo) (kk : Wx (Gw Γ ws cs ss) () (pc + 3) L stk) : Wx (Gw Γ ws cs ss) () pc L (.ref a :: stk) := by
  obtain ⟨⟨p, l, e, R, s, m, args, below, meth, c⟩, ⟨D, A, nL, Q⟩⟩ := Γ
  obtain ⟨⟨hx, hb, hml, hnn, hown, hts, hK, hD, hNW, hA, g1, g2, g3, g4⟩, e1, e2, hAO, hin⟩ := C
  intro H locs ls hP hS hh
  exact W.objInit hx hb hown (hts _ hu) (hts _ ui_objinit) (hts _ uc_objinit) rfl (by rw [hml]; exact hh.1) rfl hd (Nat.le_trans h1 g1) (by show 2 * 0 + _ + 12 ≤ _; omega) (kk H locs ls hP hS hh)
end NR
/-- a constructor's contract: from the bare object at h0 to a layout at whose place 0 it stands -/
def Ah (h0 sz : Nat) : Nat → Prop := fun q => q = h0 ∨ sz ≤ q
def Pi (D : va_G) (cA : Nat → ClassId) (h0 sz ci : Nat) (fs : List Value) (U : State) : Prop := U.heap.size = sz ∧ va_P D vwCl [(h0, .inr (ci, fs))] U.heap ∧ va_K D vwCl (TY cA) U ∧ AO U ∧ NW U
def KI (l : Launch) (D : va_G) (cA : Nat → ClassId) (y : MethodName) (cc : ByteArray) (maxL fr lo mc ms ci : Nat) (fs : List Value) (shs : List Sh) (σ0 : St) : Prop := ∀ h0 sz : Nat, Met l y (wsu y cc maxL none) { frames := fr, cells := mc, slots := ms, locals := lo } (va_Pc [.ref h0] (Pi D cA h0 sz ci fs)) (va_Qv (fun π : Nat → Nat => π 0 = h0) (fun π t => va_P D vwCl (lay cA π shs σ0) t.heap ∧ va_D (Ah h0 sz) (lay cA π shs σ0)) (Ah h0 sz)) mc ms (Ah h0 sz)
theorem Pi.blind {D : va_G} {cA : Nat → ClassId} {h0 sz ci : Nat} {fs as : List Value} : FrameBlind (va_Pc as (Pi D cA h0 sz ci fs)) := by
  intro a U g mk q
  obtain ⟨q0, q1, qP, qK, qA, qN⟩ := q
  exact ⟨q0, q1, qP, va_K.moved (u := U) (U := U.calling g mk a) (Vm.Alike.refl U.vm) qK, AO.moved (u := U) (U := U.calling g mk a) (Vm.Alike.refl U.vm) qA, NW.same (u := U) (U := U.calling g mk a) rfl qN⟩
theorem KI.of {l : Launch} {D : va_G} {cA : Nat → ClassId} {y : MethodName} {cc : ByteArray} {maxL fr lo mc ms ci : Nat} {fs : List Value} {shs : List Sh} {σ0 : St} (hy : plainName y.cls = true) (hi : y.name = "<init>") (hL : 1 ≤ maxL)
    (body : ∀ (Γ : Go) (h0 : Nat), Γ.1.2.1 = l → Γ.2.1 = D → Co Γ cc y.cls cA fr lo maxL mc ms [(h0, .inr (ci, fs))] 0 0 →
      (∀ (π : Nat → Nat) (pc : Nat) (L : List (Nat × Value)), π 0 = h0 → Co Γ cc y.cls cA fr lo maxL mc ms (lay cA π shs σ0) mc ms → decode cc pc = .ok (.return_, 1) → Wx (Gw Γ (lay cA π shs σ0) mc ms) () pc L []) →
      Wx (Gw Γ [(h0, .inr (ci, fs))] 0 0) () 0 [(0, .ref h0)] []) : KI l D cA y cc maxL fr lo mc ms ci fs shs σ0 := by
  intro h0 sz
  refine Met.ofW (cc := cc) (maxL := maxL) (ret := none) hy rfl ?_
  intro p e s m args below meth c s₁ B hml hv
  obtain ⟨rfl, hsz, hP, hK, hAO, hN⟩ := hv
  subst hsz
  have hts := atoms_spec (ws := wsu y cc maxL none) B.pre
  have hlk := B.notSynchronized
  have hr := B.returns
  have hin : meth.name = "<init>" := (name_of_methodNamed B.named B.method).1.trans hi
  have hD1 : va_D (Ah h0 s.heap.size) [(h0, .inr (ci, fs))] := by
    refine ⟨fun i j p q hi hj _ => ?_, fun k q hk => ?_⟩
    · have h1 : i < 1 := (List.getElem?_eq_some_iff.mp hi).1
      have h2 : j < 1 := (List.getElem?_eq_some_iff.mp hj).1
      omega
    · have h1 : k < 1 := (List.getElem?_eq_some_iff.mp hk).1
      rw [show k = 0 by omega] at hk
      cases hk
      exact Or.inl rfl
  have C : Co ((p, l, e, (headSpec (wsu y cc maxL none) { frames := fr, cells := mc, slots := ms, locals := lo }).room, s, m, ([.ref h0] : List Value).toArray, below, meth, c), (D, Ah h0 s.heap.size, maxL, MQ below (va_Qv (fun π : Nat → Nat => π 0 = h0) (fun π t => va_P D vwCl (lay cA π shs σ0) t.heap ∧ va_D (Ah h0 s.heap.size) (lay cA π shs σ0)) (Ah h0 s.heap.size)) ([.ref h0] : List Value).toArray s mc ms (Ah h0 s.heap.size))) cc y.cls cA fr lo maxL mc ms [(h0, .inr (ci, fs))] 0 0 :=
    ⟨⟨B.exec, B.bytes, hml, rfl, findClass_of_methodNamed B.named, fun w hw => hts w (List.mem_cons_of_mem _ hw), hK, fun _ => hD1, hN, fun q h => Or.inr h, Nat.le_refl _, Nat.le_refl _, Nat.zero_le _, Nat.zero_le _⟩, rfl, rfl, hAO, fun _ => hin⟩
  have K := body _ h0 rfl rfl C (by
    intro π pc L hπ C1 hd H locs ls hP1 hS1 hl1
    have hD2 : va_D (Ah h0 s.heap.size) (lay cA π shs σ0) := C1.1.2.2.2.2.2.2.2.1 ()
    exact W.vret B.exec B.bytes hr (fun t ht hW => ⟨⟨π, rfl, hπ, by rw [ht]; exact hP1, hD2⟩, hS1.F ht⟩) hS1.2.2 hd hlk) s.heap [] _ hP va_S.rf (lv_entry [.ref h0] (n := maxL) hL)
  rw [lg_entry_eq]
  exact K
section NC
variable {ini : Bool} {Γ : Go} {cc : ByteArray} {own : String} {cA : Nat → ClassId} {fr lo n mc ms : Nat} {ws : va_W} {cs ss : Nat} {pc : Nat} {L : List (Nat × Value)} {stk : List Value} {l : Launch} {D : va_G}
theorem D_glue {A A1 : Nat → Prop} {ws w1 : va_W} {x : Nat × va_E} {H : Heap} {cl : List vw_C} {D : va_G} (hD : va_D A (ws ++ [x])) (hP : va_P D cl (ws ++ [x]) H) (h1 : va_D A1 w1) (hA1 : ∀ q, A1 q → q = x.1 ∨ H.size ≤ q) (hA : ∀ q, A1 q → A q) : va_D A (ws ++ w1) := by
  refine va_D.app (D_left hD) (h1.weaken (fun k q _ h => hA q.1 h)) (fun i j p q hi hj e => ?_)
  rcases hA1 _ (h1.2 j q hj) with h | h
  · exact D_apart hD hi (show [x][0]? = some x from rfl) (e.trans h)
  · have := (P_left hP i p hi).lt
    omega
/-- a constructor is called on the object that was made last -/
theorem n_callI (hl : Γ.1.2.1 = l) (hDD : Γ.2.1 = D) {q : Nat} {fs : List Value} {y : MethodName} {cy : ByteArray} {maxL f' l' mc' ms' ci i : Nat} {shs : List Sh} {σ0 : St} (C : Cq ini Γ cc own cA fr lo n mc ms (ws ++ [(q, .inr (ci, fs))]) cs ss) (K : KI l D cA y cy maxL f' l' mc' ms' ci fs shs σ0)
    (hu : Cond.methodLink own i y ∈ UW ∨ ∃ host, ∀ U, NW U → va_Nw (Cond.methodLinkNest own i y host) U) (hi : Cond.instanceMethod y ∈ UW) (hn : Cond.initialized y.cls ∈ UW) (hc : Cond.code y cy maxL none ∈ UW) (hy1 : y.name = "<init>")
    (hy : y.cls ≠ "java/lang/invoke/MethodHandle" ∧ y.cls ≠ "java/lang/invoke/VarHandle" ∧ (parseMethodDescriptor y.desc).map (fun d => d.parameters.length) = some 0) (hr : f' + 1 ≤ fr ∧ 8 + (maxL + 11) + l' ≤ lo) (h1 : cs + mc' ≤ mc) (h2 : ss + ms' ≤ ms)
    (hd : decode cc pc = .ok (.invokespecial i, 3)) (hw : (stk.map fun v => v.category).sum ≤ 8)
    (kk : ∀ π : Nat → Nat, π 0 = q → Cq ini Γ cc own cA fr lo n mc ms (ws ++ lay cA π shs σ0) (cs + mc') (ss + ms') → Wx (Gw Γ (ws ++ lay cA π shs σ0) (cs + mc') (ss + ms')) () (pc + 3) L stk) : Wx (Gw Γ (ws ++ [(q, .inr (ci, fs))]) cs ss) () pc L (.ref q :: stk) := by
  obtain ⟨⟨p, l', e, R, s, m, args, below, meth, c⟩, ⟨D', A, nL, Q⟩⟩ := Γ
  dsimp only at hl hDD
  subst hl; subst hDD
  have C0 := C
  obtain ⟨⟨hx, hb, hml, hnn, hown, hts, hK, hD, hNW, hA, g1, g2, g3, g4⟩, e1, e2, hAO, hin⟩ := C
  intro H locs ls hP hS hh
  have hDD : va_D A (ws ++ [(q, .inr (ci, fs))]) := hD ()
  have hP : va_P D' vwCl (ws ++ [(q, .inr (ci, fs))]) H := hP
  have hqA : A q := (D_right hDD).2 0 (q, .inr (ci, fs)) rfl
  have hAh : ∀ x, Ah q H.size x → A x := fun x h => by
    rcases h with rfl | h
    · exact hqA
    · exact hA x (Nat.le_trans hS.1 h)
  have hpre : PreS s H (va_Pc [.ref q] (Pi D' cA q H.size ci fs)) [.ref q] := ⟨Pi.blind, fun U hU hW => ⟨rfl, by rw [hU], by rw [hU]; exact P_right hP, va_K.moved hW.alike hK, hAO.moved hW.alike, hNW.warm hW⟩⟩
  have hrun : va_Run p l' e R s m args below meth c H locs cs ss mc' ms' (F0 m pc ls (.ref q :: stk)) stk (va_Qv (fun π : Nat → Nat => π 0 = q) (fun π t => va_P D' vwCl (lay cA π shs σ0) t.heap ∧ va_D (Ah q H.size) (lay cA π shs σ0)) (Ah q H.size) ([.ref q] : List Value).toArray) (Ah q H.size) := by
    rcases hu with hu | ⟨host, hu⟩
    · exact va_runI (As := []) (rest := stk) ⟨hx, hb, hml, hown, hts⟩ (K q H.size) ⟨callB_of 0 hts (uw_in hc) rfl rfl rfl (hts _ hn) (hts _ hu) hy ⟨Nat.le_trans hr.1 g1, Nat.le_trans hr.2 g2⟩, hy1, hts _ hi⟩ hpre rfl rfl hh.1 rfl (lv_room hw) hd ⟨by rw [e1]; exact h1, by rw [e2]; exact h2⟩
    · exact va_runIN (As := []) (rest := stk) ⟨hx, hb, hml, hown, hts⟩ (K q H.size) ⟨va_cnB 0 hts (uw_in hc) rfl rfl rfl (hu _ hNW) (hts _ hn) hy ⟨Nat.le_trans hr.1 g1, Nat.le_trans hr.2 g2⟩, hy1, hts _ hi⟩ hpre rfl rfl hh.1 rfl (lv_room hw) hd ⟨by rw [e1]; exact h1, by rw [e2]; exact h2⟩
  refine va_callv hrun hS (fun x _ h => hAh x h) hAh (fun π t H1 locs1 ht hvm hπ hB hz1 hk1 hS1 => ?_)
  obtain ⟨hP1, hD1⟩ := hB
  rw [ht] at hP1
  have hDn : va_D A (ws ++ lay cA π shs σ0) := D_glue (A1 := Ah q H.size) hDD hP hD1 (fun x h => h) hAh
  refine kk π hπ (C0.grow hDn h1 h2) H1 locs1 ls (va_P.app (fun k x hk => ?_) hP1) hS1 hh
  refine (P_left hP k x hk).kept (hk1 x.1 (P_left hP k x hk).lt (fun h => ?_))
  rcases h with h | h
  · exact D_apart hDD hk (show [((q, .inr (ci, fs)) : Nat × va_E)][0]? = some (q, .inr (ci, fs)) from rfl) h
  · have := (P_left hP k x hk).lt
    omega
end NC
