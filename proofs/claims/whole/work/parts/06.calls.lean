/-! CONTRACTS: Kt, a method over a layout: from the state σ with these arguments it answers ov, and the state is σ' then -/
def rmk (f lo : Nat) : Room := { frames := f, cells := 0, slots := 0, locals := lo }
def Px (D : va_G) (cA : Nat → ClassId) (π : Nat → Nat) (shs : List Sh) (σ : St) (sz : Nat) (U : State) : Prop := U.heap.size = sz ∧ va_P D vwCl (lay cA π shs σ) U.heap ∧ va_K D vwCl (TY cA) U ∧ va_D (fun _ => True) (lay cA π shs σ) ∧ NW U
def Qx (D : va_G) (cA : Nat → ClassId) (π : Nat → Nat) (shs : List Sh) (A : Nat → Prop) (ov : Option Value) (σ' : St) : Array Value → State → Outcome → State → Prop := fun _ st oc t => oc = .returned ov ∧ va_P D vwCl (lay cA π shs σ') t.heap ∧ va_F A st t
abbrev wsu (y : MethodName) (cc : ByteArray) (maxL : Nat) (ret : Option FieldType) : List Cond := Cond.code y cc maxL ret :: UW
def Kt (l : Launch) (D : va_G) (cA : Nat → ClassId) (π : Nat → Nat) (shs : List Sh) (y : MethodName) (cc : ByteArray) (maxL : Nat) (ret : Option FieldType) (fr lo : Nat) (as : List Value) (σ : St) (ov : Option Value) (σ' : St) : Prop := ∀ sz : Nat, Met l y (wsu y cc maxL ret) (rmk fr lo) (va_Pc as (Px D cA π shs σ sz)) (Qx D cA π shs (Ax π shs sz) ov σ') 0 0 (Ax π shs sz)
theorem Px.blind {D : va_G} {cA : Nat → ClassId} {π : Nat → Nat} {shs : List Sh} {σ : St} {sz : Nat} {as : List Value} : FrameBlind (va_Pc as (Px D cA π shs σ sz)) := by
  intro a U g mk q
  obtain ⟨q0, q1, qP, qK, qD, qN⟩ := q
  exact ⟨q0, q1, qP, va_K.moved (u := U) (U := U.calling g mk a) (Vm.Alike.refl U.vm) qK, qD, NW.same (u := U) (U := U.calling g mk a) rfl qN⟩
/-- a contract out of a walk of the body -/
theorem Kt.of {l : Launch} {D : va_G} {cA : Nat → ClassId} {π : Nat → Nat} {shs : List Sh} {y : MethodName} {cc : ByteArray} {maxL : Nat} {ret : Option FieldType} {fr lo : Nat} {as : List Value} {σ : St} {ov : Option Value} {σ' : St} {L : List (Nat × Value)} (hy : plainName y.cls = true) (hlen : (lg_sl as).length ≤ maxL) (hL : lv_args 0 as = L) (body : ∀ Γ : Gx St, Cm Γ cc y.cls cA fr lo maxL l D π shs ret (ov, σ') → Wx Γ σ 0 L []) : Kt l D cA π shs y cc maxL ret fr lo as σ ov σ' := by
  intro sz
  refine Met.ofW (cc := cc) (maxL := maxL) (ret := ret) hy rfl ?_
  intro p e s m args below meth c s₁ B hml hv
  obtain ⟨rfl, hsz, hP, hK, hD, hN⟩ := hv
  subst hsz
  have hts := atoms_spec (ws := wsu y cc maxL ret) B.pre
  have C : Cm ((p, l, e, (headSpec (wsu y cc maxL ret) (rmk fr lo)).room, s, m, as.toArray, below, meth, c), (D, lay cA π shs, Ax π shs s.heap.size, maxL, 0, 0, MQ below (Qx D cA π shs (Ax π shs s.heap.size) ov σ') as.toArray s 0 0 (Ax π shs s.heap.size))) cc y.cls cA fr lo maxL l D π shs ret (ov, σ') := by
    refine ⟨⟨B.exec, B.bytes, hml, rfl, findClass_of_methodNamed B.named, fun w hw => hts w (List.mem_cons_of_mem _ hw), hK, fun σ1 => lay_D (lay_A hD), hN, fun q h => Or.inr h, Nat.le_refl _, Nat.le_refl _, Nat.le_refl _, Nat.le_refl _⟩, rfl, rfl, rfl, B.returns, B.notSynchronized, _, _, rfl, fun q h => h, ?_⟩
    intro t H locs ht hW hP1 hS1
    exact ⟨rfl, by rw [ht]; exact hP1, hS1.F ht⟩
  have K := body _ C s.heap [] _ hP va_S.rf (hL ▸ lv_entry as (n := maxL) hlen)
  rw [lg_entry_eq]
  exact K
section XC
variable {Γ : Gx St} {cc : ByteArray} {own : String} {cA : Nat → ClassId} {fr lo n : Nat} {l : Launch} {D : va_G} {π : Nat → Nat} {shs : List Sh} {rt : Option FieldType} {O : Option Value × St} {σ : St} {pc : Nat} {L L' : List (Nat × Value)} {stk : List Value}
theorem run_W {p : Program} {l : Launch} {e : Env} {R : Room} {s : State} {m : MethodId} {args a : Array Value} {below : List Frame} {meth : Method} {c : Code} {H H0 : Heap} {locs : List Loc} {cells slots : Nat} {Q : State → Prop} {ls : Array Slot} {st0 rest : List Value} {A A1 free : Nat → Prop} {ov : Option Value} {σ' : St}
    (hr : va_Run p l e R s m args below meth c H locs cells slots 0 0 (F0 m pc ls st0) rest (Qx D cA π shs A1 ov σ' a) free) (hS : va_S A H0 H locs) (hA : ∀ q, A1 q → A q) (hf : ∀ q, free q → A q)
    (kk : ∀ (H1 : Heap) (locs1 : List Loc), va_P D vwCl (lay cA π shs σ') H1 → H.size ≤ H1.size → (∀ q : Nat, q < H.size → ¬ A1 q → H1[q]? = H[q]?) → va_S A H0 H1 locs1 → W p l e R s m args below meth c H1 locs1 cells slots Q (F0 m (pc + 3) ls (ov.toList ++ rest))) : W p l e R s m args below meth c H locs cells slots Q (F0 m pc ls st0) := by
  intro T hT X
  obtain ⟨v, st₀, t, T', L, h0, X', hL, e1, e2, ⟨hv, hp, hz, hk⟩, st⟩ := hr T hT X
  cases hv
  rw [h0] at hz hk
  obtain ⟨t2, a1, b1⟩ := kk T'.heap (locs ++ L) (by rw [e1]; exact hp) (by rw [e1]; exact hz) (fun q h1 h2 => by rw [e1]; exact hk q h1 h2)
    ⟨Nat.le_trans hS.1 (by rw [e1]; exact hz), fun q h1 h2 => by rw [e1, hk q (Nat.lt_of_lt_of_le h1 hS.1) (fun z => h2 (hA q z))]; exact hS.2.1 q h1 h2, fun q hq => by
      rcases List.mem_append.mp hq with h | h
      · exact hS.2.2 q h
      · exact hf _ (hL q h)⟩ T' rfl X'
  exact ⟨t2, st t2 a1, b1⟩
theorem uw_in {y : MethodName} {cy : ByteArray} {maxL : Nat} {ret : Option FieldType} (hc : Cond.code y cy maxL ret ∈ UW) : GoodIn UW (wsu y cy maxL ret) := by
  intro w hw
  rcases List.mem_cons.mp hw with rfl | h
  · exact ⟨hc, uw_good hc⟩
  · exact ⟨h, uw_good h⟩
/-- a call of an object's method -/
theorem x_callV (C : Cm Γ cc own cA fr lo n l D π shs rt O) {y : MethodName} {cy : ByteArray} {maxL f' l' i k ci N z : Nat} {ret : Option FieldType} {As rest : List Value} {ov : Option Value} {σ' : St} {T : u_T} {C' : String} {fks : List Nat} (K : Kt l D cA π shs y cy maxL ret f' l' (.ref (π k) :: As) σ ov σ')
    (hu : Cond.methodLink own i y ∈ UW) (hi : Cond.instanceMethod y ∈ UW) (hs : Cond.selects C' y y ∈ UW) (hn : Cond.initialized C' ∈ UW) (hc : Cond.code y cy maxL ret ∈ UW)
    (hy : y.cls = C' ∧ y.cls ≠ "java/lang/invoke/MethodHandle" ∧ y.cls ≠ "java/lang/invoke/VarHandle" ∧ (parseMethodDescriptor y.desc).map (fun d => d.parameters.length) = some z) (hz : As.length = z) (hr : f' + 1 ≤ fr ∧ 8 + (maxL + 11) + l' ≤ lo)
    (hsh : shs[k]? = some (.inl (ci, fks))) (hcl : vwCl[ci]? = some (C', T, N)) (hd : decode cc pc = .ok (.invokevirtual i, 3)) (hst : stk = As.reverse ++ .ref (π k) :: rest) (hw : (rest.map fun v => v.category).sum ≤ 8)
    (kk : Wx Γ σ' (pc + 3) L (ov.toList ++ rest)) : Wx Γ σ pc L stk := by
  obtain ⟨⟨p, l', e, R, s, m, args, below, meth, c⟩, ⟨D', w, A, nL, cs, ss, Q⟩⟩ := Γ
  obtain ⟨⟨hx, hb, hml, hnn, hown, hts, hK, hD, hN, hA, h1, h2, h3, h4⟩, e1, e2, e3, -⟩ := C
  dsimp only at e1 e2 e3
  subst e1; subst e2; subst e3
  intro H locs ls hP hS hl
  obtain ⟨hy1, hy2⟩ := hy
  have hAx : ∀ q, Ax π shs H.size q → A q := fun q h => by
    rcases h with ⟨k', hk', rfl⟩ | h
    · exact lay_in (hD σ) hk'
    · exact hA q (Nat.le_trans hS.1 h)
  refine run_W (va_runV (As := As) (rest := rest) ⟨hx, hb, hml, hown, hts⟩ (K H.size) ⟨callB_of z hts (uw_in hc) rfl rfl rfl (by rw [hy1]; exact hts _ hn) (hts _ hu) hy2 ⟨Nat.le_trans hr.1 h1, Nat.le_trans hr.2 h2⟩, hts _ hi, hts _ hs⟩ ⟨Px.blind, va_recv hK hP hcl (lay_at hsh), fun U hU hW => ⟨rfl, by rw [hU], by rw [hU]; exact hP, va_K.moved hW.alike hK, (hD σ).weaken (fun _ _ _ _ => trivial), hN.warm hW⟩⟩ rfl hz hl.1 hst (lv_room hw) hd ⟨h3, h4⟩) hS hAx hAx (fun H1 locs1 hP1 hz1 hk1 hS1 => ?_)
  exact kk H1 locs1 ls hP1 hS1 hl
/-- a call of a static method -/
theorem x_callS (C : Cm Γ cc own cA fr lo n l D π shs rt O) {y : MethodName} {cy : ByteArray} {maxL f' l' i z : Nat} {ret : Option FieldType} {As rest : List Value} {ov : Option Value} {σ' : St} (K : Kt l D cA π shs y cy maxL ret f' l' As σ ov σ')
    (hu : Cond.methodLink own i y ∈ UW) (hi : Cond.static y ∈ UW) (hn : Cond.initialized y.cls ∈ UW) (hc : Cond.code y cy maxL ret ∈ UW)
    (hy : y.cls ≠ "java/lang/invoke/MethodHandle" ∧ y.cls ≠ "java/lang/invoke/VarHandle" ∧ (parseMethodDescriptor y.desc).map (fun d => d.parameters.length) = some z) (hz : As.length = z) (hr : f' + 1 ≤ fr ∧ 8 + (maxL + 11) + l' ≤ lo)
    (hd : decode cc pc = .ok (.invokestatic i, 3)) (hst : stk = As.reverse ++ rest) (hw : (rest.map fun v => v.category).sum ≤ 8)
    (kk : Wx Γ σ' (pc + 3) L (ov.toList ++ rest)) : Wx Γ σ pc L stk := by
  obtain ⟨⟨p, l', e, R, s, m, args, below, meth, c⟩, ⟨D', w, A, nL, cs, ss, Q⟩⟩ := Γ
  obtain ⟨⟨hx, hb, hml, hnn, hown, hts, hK, hD, hN, hA, h1, h2, h3, h4⟩, e1, e2, e3, -⟩ := C
  dsimp only at e1 e2 e3
  subst e1; subst e2; subst e3
  intro H locs ls hP hS hl
  have hAx : ∀ q, Ax π shs H.size q → A q := fun q h => by
    rcases h with ⟨k', hk', rfl⟩ | h
    · exact lay_in (hD σ) hk'
    · exact hA q (Nat.le_trans hS.1 h)
  refine run_W (va_runS (As := As) (rest := rest) ⟨hx, hb, hml, hown, hts⟩ (K H.size) ⟨callB_of z hts (uw_in hc) rfl rfl rfl (hts _ hn) (hts _ hu) hy ⟨Nat.le_trans hr.1 h1, Nat.le_trans hr.2 h2⟩, hts _ hi⟩ ⟨Px.blind, fun U hU hW => ⟨rfl, by rw [hU], by rw [hU]; exact hP, va_K.moved hW.alike hK, (hD σ).weaken (fun _ _ _ _ => trivial), hN.warm hW⟩⟩ rfl hz hl.1 hst (lv_room hw) hd ⟨h3, h4⟩) hS hAx hAx (fun H1 locs1 hP1 hz1 hk1 hS1 => ?_)
  exact kk H1 locs1 ls hP1 hS1 hl
/-- a call of a nest mate's private static method -/
theorem x_callSN (C : Cm Γ cc own cA fr lo n l D π shs rt O) {y : MethodName} {cy : ByteArray} {maxL f' l' i z : Nat} {ret : Option FieldType} {As rest : List Value} {ov : Option Value} {σ' : St} {host : String} (K : Kt l D cA π shs y cy maxL ret f' l' As σ ov σ')
    (hu : ∀ U, NW U → va_Nw (Cond.methodLinkNest own i y host) U) (hi : Cond.static y ∈ UW) (hn : Cond.initialized y.cls ∈ UW) (hc : Cond.code y cy maxL ret ∈ UW)
    (hy : y.cls ≠ "java/lang/invoke/MethodHandle" ∧ y.cls ≠ "java/lang/invoke/VarHandle" ∧ (parseMethodDescriptor y.desc).map (fun d => d.parameters.length) = some z) (hz : As.length = z) (hr : f' + 1 ≤ fr ∧ 8 + (maxL + 11) + l' ≤ lo)
    (hd : decode cc pc = .ok (.invokestatic i, 3)) (hst : stk = As.reverse ++ rest) (hw : (rest.map fun v => v.category).sum ≤ 8)
    (kk : Wx Γ σ' (pc + 3) L (ov.toList ++ rest)) : Wx Γ σ pc L stk := by
  obtain ⟨⟨p, l', e, R, s, m, args, below, meth, c⟩, ⟨D', w, A, nL, cs, ss, Q⟩⟩ := Γ
  obtain ⟨⟨hx, hb, hml, hnn, hown, hts, hK, hD, hN, hA, h1, h2, h3, h4⟩, e1, e2, e3, -⟩ := C
  dsimp only at e1 e2 e3
  subst e1; subst e2; subst e3
  intro H locs ls hP hS hl
  have hAx : ∀ q, Ax π shs H.size q → A q := fun q h => by
    rcases h with ⟨k', hk', rfl⟩ | h
    · exact lay_in (hD σ) hk'
    · exact hA q (Nat.le_trans hS.1 h)
  refine run_W (va_runSN (As := As) (rest := rest) ⟨hx, hb, hml, hown, hts⟩ (K H.size) ⟨va_cnB z hts (uw_in hc) rfl rfl rfl (hu _ hN) (hts _ hn) hy ⟨Nat.le_trans hr.1 h1, Nat.le_trans hr.2 h2⟩, hts _ hi, trivial⟩ ⟨Px.blind, fun U hU hW => ⟨rfl, by rw [hU], by rw [hU]; exact hP, va_K.moved hW.alike hK, (hD σ).weaken (fun _ _ _ _ => trivial), hN.warm hW⟩⟩ rfl hz hl.1 hst (lv_room hw) hd ⟨h3, h4⟩) hS hAx hAx (fun H1 locs1 hP1 hz1 hk1 hS1 => ?_)
  exact kk H1 locs1 ls hP1 hS1 hl
end XC
