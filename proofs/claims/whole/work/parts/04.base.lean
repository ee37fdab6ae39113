/-! THE STATE AND ITS LAYOUT: a memory of ints by place and slot, and one long; a list of shapes says what the cell at each place is -/
abbrev St : Type := (Nat → Nat → Int32) × Int64
/-- a shape: an object (its class, its fields' kinds: 0 an int, 1 the long, 2 a reference to the place that the int says, n + 3 a reference to the place n behind its own), or an array (its type, its length, 0: of ints; d: of references, d places apart) -/
abbrev Sh : Type := (Nat × List Nat) ⊕ (Nat × Nat × Nat)
def ix (i : Int32) : Nat := i.toNatClampNeg
def fkv (π : Nat → Nat) (σ : St) (k j fk : Nat) : Value := match fk with
  | 0 => .int (σ.1 k j)
  | 1 => .long σ.2
  | 2 => .ref (π (ix (σ.1 k j)))
  | n + 3 => .ref (π (k + n))
def cellv (cA : Nat → ClassId) (π : Nat → Nat) (σ : St) (k : Nat) (sh : Sh) : va_E := match sh with
  | .inl (ci, fks) => .inr (ci, fks.mapIdx (fun j fk => fkv π σ k j fk))
  | .inr (t, n, 0) => .inl (cA t, n, .inl (σ.1 k))
  | .inr (t, n, d + 1) => .inl (cA t, n, .inr (.inr (.inr (.inr (fun i => if i < n then some (π (k + 1 + (d + 1) * i)) else none)))))
def lay (cA : Nat → ClassId) (π : Nat → Nat) (shs : List Sh) (σ : St) : va_W := shs.mapIdx (fun k sh => (π k, cellv cA π σ k sh))
theorem lay_at {cA : Nat → ClassId} {π : Nat → Nat} {shs : List Sh} {σ : St} {k : Nat} {sh : Sh} (h : shs[k]? = some sh) : (lay cA π shs σ)[k]? = some (π k, cellv cA π σ k sh) := by
  unfold lay; rw [List.getElem?_mapIdx, h]; rfl
/-- an int of the memory is set; ints are copied; the long is set -/
def put (σ : St) (k j : Nat) (v : Int32) : St := (fun k' => if k' = k then upd (σ.1 k) j v else σ.1 k', σ.2)
def cpy (σ : St) (k0 k1 sp dp n : Nat) : St := (fun k' => if k' = k1 then va_cpy (σ.1 k0) (σ.1 k1) sp dp n else σ.1 k', σ.2)
def putl (σ : St) (v : Int64) : St := (σ.1, v)
theorem put_ne {σ : St} {k j k' : Nat} {v : Int32} (h : k' ≠ k) : (put σ k j v).1 k' = σ.1 k' := if_neg h
theorem put_eq {σ : St} {k j : Nat} {v : Int32} : (put σ k j v).1 k = upd (σ.1 k) j v := if_pos rfl
theorem cellv_ne {cA : Nat → ClassId} {π : Nat → Nat} {σ σ' : St} {k : Nat} {sh : Sh} (h : σ'.1 k = σ.1 k) (hl : σ'.2 = σ.2) : cellv cA π σ' k sh = cellv cA π σ k sh := by
  rcases sh with ⟨ci, fks⟩ | ⟨t, n, d⟩
  · show Sum.inr _ = Sum.inr _
    congr 2
    congr 1
    funext j fk
    unfold fkv
    rw [h, hl]
  · cases d with
    | zero => show Sum.inl _ = Sum.inl _; rw [h]
    | succ d => rfl
/-- the layout behind a change at one place -/
theorem lay_set {cA : Nat → ClassId} {π : Nat → Nat} {shs : List Sh} {σ σ' : St} {k : Nat} {sh : Sh} {e : va_E} (h : shs[k]? = some sh) (hk : cellv cA π σ' k sh = e) (ho : ∀ k', k' ≠ k → ∀ sh', shs[k']? = some sh' → cellv cA π σ' k' sh' = cellv cA π σ k' sh') : (lay cA π shs σ).set k (π k, e) = lay cA π shs σ' := by
  apply List.ext_getElem?
  intro i
  have hkl : k < (lay cA π shs σ).length := (List.getElem?_eq_some_iff.mp (lay_at (cA := cA) (π := π) (σ := σ) h)).1
  by_cases hi : i = k
  · subst hi
    rw [List.getElem?_set_self hkl, lay_at h, hk]
  · rw [List.getElem?_set_ne (Ne.symm hi)]
    cases hs : shs[i]? with
    | none => unfold lay; rw [List.getElem?_mapIdx, List.getElem?_mapIdx, hs]; rfl
    | some sh' => rw [lay_at hs, lay_at hs, ho i hi sh' hs]
theorem lay_len {cA : Nat → ClassId} {π : Nat → Nat} {shs : List Sh} {σ : St} : (lay cA π shs σ).length = shs.length := List.length_mapIdx
/-- the addresses are apart, whatever the memory holds -/
theorem lay_D {cA : Nat → ClassId} {π : Nat → Nat} {shs : List Sh} {σ σ' : St} {A : Nat → Prop} (h : va_D A (lay cA π shs σ)) : va_D A (lay cA π shs σ') := by
  have key : ∀ (k : Nat) (q : Nat × va_E), (lay cA π shs σ')[k]? = some q → ∃ q0, (lay cA π shs σ)[k]? = some q0 ∧ q0.1 = q.1 := by
    intro k q hk
    cases hs : shs[k]? with
    | none => unfold lay at hk; rw [List.getElem?_mapIdx, hs] at hk; cases hk
    | some sh => rw [lay_at hs] at hk; cases hk; exact ⟨_, lay_at hs, rfl⟩
  refine ⟨fun i j x y hi hj hxy => ?_, fun k q hk => ?_⟩
  · obtain ⟨x0, h1, h2⟩ := key i x hi
    obtain ⟨y0, h3, h4⟩ := key j y hj
    exact h.1 i j x0 y0 h1 h3 (h2.trans (hxy.trans h4.symm))
  · obtain ⟨q0, h1, h2⟩ := key k q hk
    rw [← h2]
    exact h.2 k q0 h1
/-- the cells that a method over a layout may change -/
def Ax (π : Nat → Nat) (shs : List Sh) (sz : Nat) : Nat → Prop := fun q => (∃ k, k < shs.length ∧ q = π k) ∨ sz ≤ q
theorem lay_A {cA : Nat → ClassId} {π : Nat → Nat} {shs : List Sh} {σ : St} {A : Nat → Prop} {sz : Nat} (h : va_D A (lay cA π shs σ)) : va_D (Ax π shs sz) (lay cA π shs σ) := by
  refine ⟨h.1, fun k q hk => ?_⟩
  cases hs : shs[k]? with
  | none => unfold lay at hk; rw [List.getElem?_mapIdx, hs] at hk; cases hk
  | some sh => rw [lay_at hs] at hk; cases hk; exact Or.inl ⟨k, (List.getElem?_eq_some_iff.mp hs).1, rfl⟩
theorem lay_in {cA : Nat → ClassId} {π : Nat → Nat} {shs : List Sh} {σ : St} {A : Nat → Prop} (h : va_D A (lay cA π shs σ)) {k : Nat} (hk : k < shs.length) : A (π k) := by
  obtain ⟨sh, hs⟩ : ∃ sh, shs[k]? = some sh := ⟨_, List.getElem?_eq_getElem hk⟩
  exact h.2 k _ (lay_at hs)
/-! THE WALK: Wx, the machine at a frame over a state -/
abbrev TY (cA : Nat → ClassId) : List (ClassId × FieldType) := [(cA 0, .int), (cA 1, .boolean), (cA 2, .object "WoolBridge$Span"), (cA 3, .object "WoolBridge$Past")]
abbrev Gx (S : Type) : Type := (Program × Launch × Env × Room × State × MethodId × Array Value × List Frame × Method × Code) × (va_G × (S → va_W) × (Nat → Prop) × Nat × Nat × Nat × (State → Prop))
def Wx {S : Type} (Γ : Gx S) (σ : S) (pc : Nat) (L : List (Nat × Value)) (stk : List Value) : Prop := match Γ with
  | ((p, l, e, R, s, m, args, below, meth, c), (D, w, A, nL, cs, ss, Q)) => ∀ (H : Heap) (locs : List Loc) (ls : Array Slot), va_P D vwCl (w σ) H → va_S A s.heap H locs → lv_has ls nL L → W p l e R s m args below meth c H locs cs ss Q (F0 m pc ls stk)
/-- what stands still while a method runs -/
def Cx {S : Type} (Γ : Gx S) (cc : ByteArray) (own : String) (cA : Nat → ClassId) (fr lo n : Nat) : Prop := match Γ with
  | ((p, _, _, R, s, m, args, _, _, c), (D, w, A, nL, cs, ss, _)) => p.tables.exec = Jvm.exec ∧ c.code = cc ∧ c.maxLocals = nL ∧ nL = n ∧ s.vm.findClass own = some m.cls ∧ (∀ w ∈ UW, w.before args s = true) ∧ va_K D vwCl (TY cA) s ∧ (∀ σ, va_D A (w σ)) ∧ NW s ∧ (∀ q : Nat, s.heap.size ≤ q → A q) ∧ fr ≤ R.frames ∧ lo ≤ R.locals ∧ cs ≤ R.cells ∧ ss ≤ R.slots
def lt {α β : Type} (e : α) (F : α → β) : β := F e
def ck {α : Type} (c : Bool) (x : Option α) : Option α := if c then x else none
def inb (i : Int32) (n : Nat) : Bool := decide (¬ (i < 0 ∨ n ≤ i.toNatClampNeg))
theorem ck_some {α : Type} {c : Bool} {x : Option α} {o : α} (h : ck c x = some o) : c = true ∧ x = some o := by
  unfold ck at h; split at h
  · rename_i hc; exact ⟨hc, h⟩
  · cases h
theorem inb_in {i : Int32} {n : Nat} (h : inb i n = true) : vp_in i n := of_decide_eq_true (p := ¬ (i < 0 ∨ n ≤ i.toNatClampNeg)) h
theorem bind_some {α β : Type} {x : Option α} {F : α → Option β} {o : β} (h : x.bind F = some o) : ∃ a, x = some a ∧ F a = some o := Option.bind_eq_some_iff.mp h
theorem lk_mem {L : List (Nat × Value)} {i : Nat} {v : Value} (h : L.lookup i = some v) : (i, v) ∈ L := by
  induction L with
  | nil => cases h
  | cons q t ih =>
    obtain ⟨j, u⟩ := q
    by_cases e : i = j
    · subst e
      simp [List.lookup] at h
      rw [h]; exact List.mem_cons_self
    · have e' : (i == j) = false := by simp [e]
      rw [List.lookup_cons, e'] at h
      exact List.mem_cons_of_mem _ (ih h)
theorem lv_lk {ls : Array Slot} {n : Nat} {L : List (Nat × Value)} {i : Nat} {v : Value} (h : lv_has ls n L) (hk : L.lookup i = some v) : ls[i]? = some (.val v) := h.2.2 (i, v) (lk_mem hk)
section XR
variable {S : Type} {Γ : Gx S} {cc : ByteArray} {own : String} {cA : Nat → ClassId} {fr lo n : Nat} {σ : S} {pc : Nat} {L L' : List (Nat × Value)} {stk : List Value} {α : Type} {o : α}
/-- fewer locals -/
theorem x_sub (hl : ∀ q ∈ L', q ∈ L) (k : Wx Γ σ pc L' stk) : Wx Γ σ pc L stk := by
  obtain ⟨⟨p, l, e, R, s, m, args, below, meth, c⟩, ⟨D, w, A, nL, cs, ss, Q⟩⟩ := Γ
  exact fun H locs ls hP hS h => k H locs ls hP hS ⟨h.1, h.2.1, fun q hq => h.2.2 q (hl q hq)⟩
theorem x_nm {e : Int32} {F : Int32 → Option α} (h : lt e F = some o) (k : ∀ x, F x = some o → Wx Γ σ pc L (.int x :: stk)) : Wx Γ σ pc L (.int e :: stk) := k e h
theorem x_iconst (C : Cx Γ cc own cA fr lo n) {z : Int} {v : Int32} (hd : decode cc pc = .ok (.iconst z, 1)) (hv : Int32.ofInt z = v) (k : Wx Γ σ (pc + 1) L (.int v :: stk)) : Wx Γ σ pc L stk := by
  obtain ⟨⟨p, l, e, R, s, m, args, below, meth, c⟩, ⟨D, w, A, nL, cs, ss, Q⟩⟩ := Γ
  exact fun H locs ls hP hS hl => lv_iconst C.1 C.2.1 hd hv (k H locs ls hP hS hl)
theorem x_bipush (C : Cx Γ cc own cA fr lo n) {z : Int} {v : Int32} (hd : decode cc pc = .ok (.bipush z, 2)) (hv : (Int8.ofInt z).toInt32 = v) (k : Wx Γ σ (pc + 2) L (.int v :: stk)) : Wx Γ σ pc L stk := by
  obtain ⟨⟨p, l, e, R, s, m, args, below, meth, c⟩, ⟨D, w, A, nL, cs, ss, Q⟩⟩ := Γ
  exact fun H locs ls hP hS hl => lv_bipush C.1 C.2.1 hd hv (k H locs ls hP hS hl)
theorem x_sipush (C : Cx Γ cc own cA fr lo n) {z : Int} {v : Int32} (hd : decode cc pc = .ok (.sipush z, 3)) (hv : (Int16.ofInt z).toInt32 = v) (k : Wx Γ σ (pc + 3) L (.int v :: stk)) : Wx Γ σ pc L stk := by
  obtain ⟨⟨p, l, e, R, s, m, args, below, meth, c⟩, ⟨D, w, A, nL, cs, ss, Q⟩⟩ := Γ
  exact fun H locs ls hP hS hl => lv_sipush C.1 C.2.1 hd hv (k H locs ls hP hS hl)
theorem x_ldc (C : Cx Γ cc own cA fr lo n) {i : Nat} {v : Int32} (hu : Cond.constant own i v ∈ UW) (hd : decode cc pc = .ok (.ldc i, 2)) (k : Wx Γ σ (pc + 2) L (.int v :: stk)) : Wx Γ σ pc L stk := by
  obtain ⟨⟨p, l, e, R, s, m, args, below, meth, c⟩, ⟨D, w, A, nL, cs, ss, Q⟩⟩ := Γ
  exact fun H locs ls hP hS hl => lv_ldc C.1 C.2.1 C.2.2.2.2.1 (C.2.2.2.2.2.1 _ hu) hd (k H locs ls hP hS hl)
theorem x_ldc2 (C : Cx Γ cc own cA fr lo n) {i : Nat} {v : Int64} (hu : Cond.constantLong own i v ∈ UW) (hd : decode cc pc = .ok (.ldc2_w i, 3)) (k : Wx Γ σ (pc + 3) L (.long v :: stk)) : Wx Γ σ pc L stk := by
  obtain ⟨⟨p, l, e, R, s, m, args, below, meth, c⟩, ⟨D, w, A, nL, cs, ss, Q⟩⟩ := Γ
  exact fun H locs ls hP hS hl => lv_ldc2 C.1 C.2.1 C.2.2.2.2.1 (C.2.2.2.2.2.1 _ hu) hd (k H locs ls hP hS hl)
theorem x_lconst (C : Cx Γ cc own cA fr lo n) {z : Fin 2} {v : Int64} (hd : decode cc pc = .ok (.lconst z, 1)) (hv : Int64.ofNat (z : Nat) = v) (k : Wx Γ σ (pc + 1) L (.long v :: stk)) : Wx Γ σ pc L stk := by
  obtain ⟨⟨p, l, e, R, s, m, args, below, meth, c⟩, ⟨D, w, A, nL, cs, ss, Q⟩⟩ := Γ
  exact fun H locs ls hP hS hl => lv_lconst C.1 C.2.1 hd hv (k H locs ls hP hS hl)
theorem x_iload_n (C : Cx Γ cc own cA fr lo n) {i : Fin 4} {x : Int32} (hd : decode cc pc = .ok (.iload_n i, 1)) (hk : L.lookup (i : Nat) = some (.int x)) (k : Wx Γ σ (pc + 1) L (.int x :: stk)) : Wx Γ σ pc L stk := by
  obtain ⟨⟨p, l, e, R, s, m, args, below, meth, c⟩, ⟨D, w, A, nL, cs, ss, Q⟩⟩ := Γ
  exact fun H locs ls hP hS hl => lv_iload_n C.1 C.2.1 hd rfl (lv_lk hl hk) (k H locs ls hP hS hl)
theorem x_iload (C : Cx Γ cc own cA fr lo n) {i : Nat} {x : Int32} (hd : decode cc pc = .ok (.iload i, 2)) (hk : L.lookup i = some (.int x)) (k : Wx Γ σ (pc + 2) L (.int x :: stk)) : Wx Γ σ pc L stk := by
  obtain ⟨⟨p, l, e, R, s, m, args, below, meth, c⟩, ⟨D, w, A, nL, cs, ss, Q⟩⟩ := Γ
  exact fun H locs ls hP hS hl => lv_iload C.1 C.2.1 hd (lv_lk hl hk) (k H locs ls hP hS hl)
theorem x_aload_n (C : Cx Γ cc own cA fr lo n) {i : Fin 4} {x : Nat} (hd : decode cc pc = .ok (.aload_n i, 1)) (hk : L.lookup (i : Nat) = some (.ref x)) (k : Wx Γ σ (pc + 1) L (.ref x :: stk)) : Wx Γ σ pc L stk := by
  obtain ⟨⟨p, l, e, R, s, m, args, below, meth, c⟩, ⟨D, w, A, nL, cs, ss, Q⟩⟩ := Γ
  exact fun H locs ls hP hS hl => lv_aload_n C.1 C.2.1 hd rfl (lv_lk hl hk) (k H locs ls hP hS hl)
theorem x_aload (C : Cx Γ cc own cA fr lo n) {i : Nat} {x : Nat} (hd : decode cc pc = .ok (.aload i, 2)) (hk : L.lookup i = some (.ref x)) (k : Wx Γ σ (pc + 2) L (.ref x :: stk)) : Wx Γ σ pc L stk := by
  obtain ⟨⟨p, l, e, R, s, m, args, below, meth, c⟩, ⟨D, w, A, nL, cs, ss, Q⟩⟩ := Γ
  exact fun H locs ls hP hS hl => lv_aload C.1 C.2.1 hd (lv_lk hl hk) (k H locs ls hP hS hl)
/-- the locals behind a store -/
def lst (i : Nat) (v : Value) (L : List (Nat × Value)) : List (Nat × Value) := (i, v) :: L.filter (fun q => !(q.1 == i) && !(q.1 + 1 == i && q.2.category == 2))
theorem x_istore_n (C : Cx Γ cc own cA fr lo n) {i : Fin 4} {x : Int32} (hd : decode cc pc = .ok (.istore_n i, 1)) (hn : (i : Nat) < n) (hl : lst i (.int x) L = L') (k : Wx Γ σ (pc + 1) L' stk) : Wx Γ σ pc L (.int x :: stk) := by
  obtain ⟨⟨p, l, e, R, s, m, args, below, meth, c⟩, ⟨D, w, A, nL, cs, ss, Q⟩⟩ := Γ
  exact fun H locs ls hP hS h => lv_istore_n C.1 C.2.1 hd rfl h (by have := C.2.2.2.1; omega) hl (fun ls h => k H locs ls hP hS h)
theorem x_istore (C : Cx Γ cc own cA fr lo n) {i : Nat} {x : Int32} (hd : decode cc pc = .ok (.istore i, 2)) (hn : i < n) (hl : lst i (.int x) L = L') (k : Wx Γ σ (pc + 2) L' stk) : Wx Γ σ pc L (.int x :: stk) := by
  obtain ⟨⟨p, l, e, R, s, m, args, below, meth, c⟩, ⟨D, w, A, nL, cs, ss, Q⟩⟩ := Γ
  exact fun H locs ls hP hS h => lv_istore C.1 C.2.1 hd h (by have := C.2.2.2.1; omega) hl (fun ls h => k H locs ls hP hS h)
theorem x_astore_n (C : Cx Γ cc own cA fr lo n) {i : Fin 4} {x : Nat} (hd : decode cc pc = .ok (.astore_n i, 1)) (hn : (i : Nat) < n) (hl : lst i (.ref x) L = L') (k : Wx Γ σ (pc + 1) L' stk) : Wx Γ σ pc L (.ref x :: stk) := by
  obtain ⟨⟨p, l, e, R, s, m, args, below, meth, c⟩, ⟨D, w, A, nL, cs, ss, Q⟩⟩ := Γ
  exact fun H locs ls hP hS h => lv_astore_n C.1 C.2.1 hd rfl h (by have := C.2.2.2.1; omega) hl (fun ls h => k H locs ls hP hS h)
theorem x_astore (C : Cx Γ cc own cA fr lo n) {i : Nat} {x : Nat} (hd : decode cc pc = .ok (.astore i, 2)) (hn : i < n) (hl : lst i (.ref x) L = L') (k : Wx Γ σ (pc + 2) L' stk) : Wx Γ σ pc L (.ref x :: stk) := by
  obtain ⟨⟨p, l, e, R, s, m, args, below, meth, c⟩, ⟨D, w, A, nL, cs, ss, Q⟩⟩ := Γ
  exact fun H locs ls hP hS h => lv_astore C.1 C.2.1 hd h (by have := C.2.2.2.1; omega) hl (fun ls h => k H locs ls hP hS h)
theorem x_iinc (C : Cx Γ cc own cA fr lo n) {i j : Nat} {z : Int} {x v : Int32} {F : Int32 → Option α} {L' : Int32 → List (Nat × Value)} (hd : decode cc pc = .ok (.iinc i z, 3)) (hk : L[j]? = some (i, .int x)) (hv : Int32.ofInt z = v) (hn : i < n) (hl : ∀ y, lst i (.int y) L = L' y) (h : lt (x + v) F = some o) (k : ∀ y, F y = some o → Wx Γ σ (pc + 3) (L' y) stk) : Wx Γ σ pc L stk := by
  obtain ⟨⟨p, l, e, R, s, m, args, below, meth, c⟩, ⟨D, w, A, nL, cs, ss, Q⟩⟩ := Γ
  exact fun H locs ls hP hS hh => lv_iinc C.1 C.2.1 hd hh hk (v := x + v) (by rw [hv]) (by have := C.2.2.2.1; omega) (hl _) (fun ls hh => k _ h H locs ls hP hS hh)
end XR
