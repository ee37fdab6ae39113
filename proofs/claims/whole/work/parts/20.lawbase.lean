/-! THE LAW: two layouts side by side, and the script -/
def wCM (cA : Nat → ClassId) (πc πm : Nat → Nat) (q : St × St) : va_W := lay cA πc shC q.1 ++ lay cA πm shM q.2
def Cl (Γ : Gx (St × St)) (cA : Nat → ClassId) (fr lo : Nat) (l : Launch) (D : va_G) (πc πm : Nat → Nat) (b len : Nat) (xs : Nat → Int32) : Prop := Cx Γ cL_law RL cA fr lo 4 ∧ Γ.1.2.1 = l ∧ Γ.2.1 = D ∧ Γ.2.2.1 = wCM cA πc πm ∧ (match Γ with
  | ((_, _, _, _, s, _, _, _, _, _), (_, _, A, _, _, _, _)) => va_X b len xs s s.heap ∧ b < s.heap.size ∧ ¬ A b)
theorem P_left {D : va_G} {cl : List vw_C} {a b : va_W} {H : Heap} (h : va_P D cl (a ++ b) H) : va_P D cl a H := fun k q hk => h k q (by rw [List.getElem?_append_left (List.getElem?_eq_some_iff.mp hk).1]; exact hk)
theorem P_right {D : va_G} {cl : List vw_C} {a b : va_W} {H : Heap} (h : va_P D cl (a ++ b) H) : va_P D cl b H := fun k q hk => h (a.length + k) q (by rw [List.getElem?_append_right (Nat.le_add_right _ _), Nat.add_sub_cancel_left]; exact hk)
theorem D_left {A : Nat → Prop} {a b : va_W} (h : va_D A (a ++ b)) : va_D A a := ⟨fun i j p q hi hj e => h.1 i j p q (by rw [List.getElem?_append_left (List.getElem?_eq_some_iff.mp hi).1]; exact hi) (by rw [List.getElem?_append_left (List.getElem?_eq_some_iff.mp hj).1]; exact hj) e, fun k q hk => h.2 k q (by rw [List.getElem?_append_left (List.getElem?_eq_some_iff.mp hk).1]; exact hk)⟩
theorem D_right {A : Nat → Prop} {a b : va_W} (h : va_D A (a ++ b)) : va_D A b := ⟨fun i j p q hi hj e => by
    have := h.1 (a.length + i) (a.length + j) p q (by rw [List.getElem?_append_right (Nat.le_add_right _ _), Nat.add_sub_cancel_left]; exact hi) (by rw [List.getElem?_append_right (Nat.le_add_right _ _), Nat.add_sub_cancel_left]; exact hj) e
    omega, fun k q hk => h.2 (a.length + k) q (by rw [List.getElem?_append_right (Nat.le_add_right _ _), Nat.add_sub_cancel_left]; exact hk)⟩
theorem D_apart {A : Nat → Prop} {a b : va_W} (h : va_D A (a ++ b)) {i j : Nat} {p q : Nat × va_E} (hi : a[i]? = some p) (hj : b[j]? = some q) : p.1 ≠ q.1 := by
  intro e
  have hl := (List.getElem?_eq_some_iff.mp hi).1
  have := h.1 i (a.length + j) p q (by rw [List.getElem?_append_left hl]; exact hi) (by rw [List.getElem?_append_right (Nat.le_add_right _ _), Nat.add_sub_cancel_left]; exact hj) e
  omega
/-- an address of the one layout isn't among the other's -/
theorem Ax_not {cA : Nat → ClassId} {π : Nat → Nat} {shs : List Sh} {σ : St} {H : Heap} {D : va_G} {cl : List vw_C} {b : va_W} (hP : va_P D cl b H) {A : Nat → Prop} (h : ∀ (i j : Nat) (p q : Nat × va_E), (lay cA π shs σ)[i]? = some p → b[j]? = some q → p.1 ≠ q.1) {j : Nat} {q : Nat × va_E} (hj : b[j]? = some q) : q.1 < H.size ∧ ¬ Ax π shs H.size q.1 := by
  have hl := (hP j q hj).lt
  refine ⟨hl, fun hx => ?_⟩
  rcases hx with ⟨k, hk, e⟩ | hx
  · obtain ⟨sh, hs⟩ : ∃ sh, shs[k]? = some sh := ⟨_, List.getElem?_eq_getElem hk⟩
    exact h k j _ q (lay_at hs) hj e.symm
  · omega
section YR
variable {Γ : Gx (St × St)} {cA : Nat → ClassId} {fr lo : Nat} {l : Launch} {D : va_G} {πc πm : Nat → Nat} {b len : Nat} {xs : Nat → Int32} {σc σm : St} {pc : Nat} {L : List (Nat × Value)} {stk : List Value}
theorem y_sld (C : Cl Γ cA fr lo l D πc πm b len xs) {σ : St × St} {i : Int32} (hi : vp_in i len) (hd : decode cL_law pc = .ok (.iaload, 1)) (k : Wx Γ σ (pc + 1) L (.int (xs i.toNatClampNeg) :: stk)) : Wx Γ σ pc L (.int i :: .ref b :: stk) := by
  obtain ⟨⟨p, l, e, R, s, m, args, below, meth, c⟩, ⟨D, w, A, nL, cs, ss, Q⟩⟩ := Γ
  obtain ⟨C0, -, -, -, hX, hbl, hbA⟩ := C
  exact fun H locs ls hP hS hl => va_sld C0.1 C0.2.1 hX hbl hbA hS hi hd (k H locs ls hP hS hl)
theorem y_slen (C : Cl Γ cA fr lo l D πc πm b len xs) {σ : St × St} (hd : decode cL_law pc = .ok (.arraylength, 1)) (k : Wx Γ σ (pc + 1) L (.int (nI len) :: stk)) : Wx Γ σ pc L (.ref b :: stk) := by
  obtain ⟨⟨p, l, e, R, s, m, args, below, meth, c⟩, ⟨D, w, A, nL, cs, ss, Q⟩⟩ := Γ
  obtain ⟨C0, -, -, -, hX, hbl, hbA⟩ := C
  exact fun H locs ls hP hS hl => va_slen C0.1 C0.2.1 hX hbl hbA hS hd (k H locs ls hP hS hl)
theorem y_gt {S : Type} {Γ : Gx S} {cc : ByteArray} {own : String} {n : Nat} {σ : S} (C : Cx Γ cc own cA fr lo n) {x y : Int32} {off : Int} {tgt : Nat} (hd : decode cc pc = .ok (.if_icmp .gt off, 3)) (ht : (pc : Int) + off = (tgt : Int)) (kt : y < x → Wx Γ σ tgt L stk) (kf : ¬ y < x → Wx Γ σ (pc + 3) L stk) : Wx Γ σ pc L (.int y :: .int x :: stk) := by
  obtain ⟨⟨p, l, e, R, s, m, args, below, meth, c⟩, ⟨D, w, A, nL, cs, ss, Q⟩⟩ := Γ
  exact fun H locs ls hP hS hl => lv_icmp_gt C.1 C.2.1 hd ht (fun q => kt q H locs ls hP hS hl) (fun q => kf q H locs ls hP hS hl)
theorem y_eq {S : Type} {Γ : Gx S} {cc : ByteArray} {own : String} {n : Nat} {σ : S} (C : Cx Γ cc own cA fr lo n) {x : Int32} {off : Int} {tgt : Nat} (hd : decode cc pc = .ok (.if_icmp .eq off, 3)) (ht : (pc : Int) + off = (tgt : Int)) (kt : Wx Γ σ tgt L stk) : Wx Γ σ pc L (.int x :: .int x :: stk) := by
  obtain ⟨⟨p, l, e, R, s, m, args, below, meth, c⟩, ⟨D, w, A, nL, cs, ss, Q⟩⟩ := Γ
  exact fun H locs ls hP hS hl => lv_icmp_eq C.1 C.2.1 hd ht (fun _ => kt H locs ls hP hS hl) (fun q => absurd rfl q)
theorem y_eq0 {S : Type} {Γ : Gx S} {cc : ByteArray} {own : String} {n : Nat} {σ : S} (C : Cx Γ cc own cA fr lo n) {x : Int32} (hx : x = 0) {off : Int} {tgt : Nat} (hd : decode cc pc = .ok (.ifCond .eq off, 3)) (ht : (pc : Int) + off = (tgt : Int)) (kt : Wx Γ σ tgt L stk) : Wx Γ σ pc L (.int x :: stk) := by
  obtain ⟨⟨p, l, e, R, s, m, args, below, meth, c⟩, ⟨D, w, A, nL, cs, ss, Q⟩⟩ := Γ
  exact fun H locs ls hP hS hl => lv_if_eq C.1 C.2.1 hd ht (fun _ => kt H locs ls hP hS hl) (fun q => absurd hx q)
theorem y_by {S : Type} {Γ : Gx S} {σ : S} {x : Int32} (v : Int32) (kt : x = v → Wx Γ σ pc L (.int x :: stk)) (kf : ¬ x = v → Wx Γ σ pc L (.int x :: stk)) : Wx Γ σ pc L (.int x :: stk) := by
  by_cases q : x = v
  · exact kt q
  · exact kf q
/-- a call of the class's method -/
theorem y_callC (C : Cl Γ cA fr lo l D πc πm b len xs) {y : MethodName} {cy : ByteArray} {maxL f' l' i z : Nat} {ret : Option FieldType} {As rest : List Value} {ov : Option Value} {σ' : St} (K : Kt l D cA πc shC y cy maxL ret f' l' (.ref (πc 0) :: As) σc ov σ')
    (hu : Cond.methodLink RL i y ∈ UW) (hi : Cond.instanceMethod y ∈ UW) (hs : Cond.selects RX6 y y ∈ UW) (hc : Cond.code y cy maxL ret ∈ UW)
    (hy : y.cls = RX6 ∧ y.cls ≠ "java/lang/invoke/MethodHandle" ∧ y.cls ≠ "java/lang/invoke/VarHandle" ∧ (parseMethodDescriptor y.desc).map (fun d => d.parameters.length) = some z) (hz : As.length = z) (hr : f' + 1 ≤ fr ∧ 8 + (maxL + 11) + l' ≤ lo)
    (hd : decode cL_law pc = .ok (.invokevirtual i, 3)) (hst : stk = As.reverse ++ .ref (πc 0) :: rest) (hw : (rest.map fun v => v.category).sum ≤ 8)
    (kk : Wx Γ (σ', σm) (pc + 3) L (ov.toList ++ rest)) : Wx Γ (σc, σm) pc L stk := by
  obtain ⟨⟨p, l', e, R, s, m, args, below, meth, c⟩, ⟨D', w, A, nL, cs, ss, Q⟩⟩ := Γ
  obtain ⟨⟨hx, hb, hml, hnn, hown, hts, hK, hD, hN, hA, h1, h2, h3, h4⟩, e1, e2, e3, -⟩ := C
  dsimp only at e1 e2 e3
  subst e1; subst e2; subst e3
  intro H locs ls hP hS hl
  have hDD : va_D A (lay cA πc shC σc ++ lay cA πm shM σm) := hD (σc, σm)
  have hP : va_P D' vwCl (lay cA πc shC σc ++ lay cA πm shM σm) H := hP
  obtain ⟨hy1, hy2⟩ := hy
  have hAx : ∀ q, Ax πc shC H.size q → A q := fun q h => by
    rcases h with ⟨k', hk', rfl⟩ | h
    · exact lay_in (D_left hDD) hk'
    · exact hA q (Nat.le_trans hS.1 h)
  refine run_W (va_runV (As := As) (rest := rest) ⟨hx, hb, hml, hown, hts⟩ (K H.size) ⟨callB_of z hts (uw_in hc) rfl rfl rfl (by rw [hy1]; exact hts _ un_X6) (hts _ hu) hy2 ⟨Nat.le_trans hr.1 h1, Nat.le_trans hr.2 h2⟩, hts _ hi, hts _ hs⟩ ⟨Px.blind, va_recv hK (P_left hP) (ci := 6) rfl (lay_at (k := 0) (sh := shX6) rfl), fun U hU hW => ⟨rfl, by rw [hU], by rw [hU]; exact P_left hP, va_K.moved hW.alike hK, (D_left hDD).weaken (fun _ _ _ _ => trivial), hN.warm hW⟩⟩ rfl hz hl.1 hst (lv_room hw) hd ⟨h3, h4⟩) hS hAx hAx (fun H1 locs1 hP1 hz1 hk1 hS1 => ?_)
  refine kk H1 locs1 ls (hP1.app (fun k q hq => ?_)) hS1 hl
  obtain ⟨g1, g2⟩ := Ax_not (A := A) (cA := cA) (σ := σc) (P_right hP) (fun i j p q hi hj => D_apart hDD hi hj) hq
  exact (P_right hP k q hq).kept (hk1 q.1 g1 g2)
/-- a call of the reference's method -/
theorem y_callM (C : Cl Γ cA fr lo l D πc πm b len xs) {y : MethodName} {cy : ByteArray} {maxL f' l' i z : Nat} {ret : Option FieldType} {As rest : List Value} {ov : Option Value} {σ' : St} (K : Kt l D cA πm shM y cy maxL ret f' l' (.ref (πm 0) :: As) σm ov σ')
    (hu : Cond.methodLink RL i y ∈ UW) (hi : Cond.instanceMethod y ∈ UW) (hs : Cond.selects RX7 y y ∈ UW) (hc : Cond.code y cy maxL ret ∈ UW)
    (hy : y.cls = RX7 ∧ y.cls ≠ "java/lang/invoke/MethodHandle" ∧ y.cls ≠ "java/lang/invoke/VarHandle" ∧ (parseMethodDescriptor y.desc).map (fun d => d.parameters.length) = some z) (hz : As.length = z) (hr : f' + 1 ≤ fr ∧ 8 + (maxL + 11) + l' ≤ lo)
    (hd : decode cL_law pc = .ok (.invokevirtual i, 3)) (hst : stk = As.reverse ++ .ref (πm 0) :: rest) (hw : (rest.map fun v => v.category).sum ≤ 8)
    (kk : Wx Γ (σc, σ') (pc + 3) L (ov.toList ++ rest)) : Wx Γ (σc, σm) pc L stk := by
  obtain ⟨⟨p, l', e, R, s, m, args, below, meth, c⟩, ⟨D', w, A, nL, cs, ss, Q⟩⟩ := Γ
  obtain ⟨⟨hx, hb, hml, hnn, hown, hts, hK, hD, hN, hA, h1, h2, h3, h4⟩, e1, e2, e3, -⟩ := C
  dsimp only at e1 e2 e3
  subst e1; subst e2; subst e3
  intro H locs ls hP hS hl
  have hDD : va_D A (lay cA πc shC σc ++ lay cA πm shM σm) := hD (σc, σm)
  have hP : va_P D' vwCl (lay cA πc shC σc ++ lay cA πm shM σm) H := hP
  obtain ⟨hy1, hy2⟩ := hy
  have hAx : ∀ q, Ax πm shM H.size q → A q := fun q h => by
    rcases h with ⟨k', hk', rfl⟩ | h
    · exact lay_in (D_right hDD) hk'
    · exact hA q (Nat.le_trans hS.1 h)
  refine run_W (va_runV (As := As) (rest := rest) ⟨hx, hb, hml, hown, hts⟩ (K H.size) ⟨callB_of z hts (uw_in hc) rfl rfl rfl (by rw [hy1]; exact hts _ un_X7) (hts _ hu) hy2 ⟨Nat.le_trans hr.1 h1, Nat.le_trans hr.2 h2⟩, hts _ hi, hts _ hs⟩ ⟨Px.blind, va_recv hK (P_right hP) (ci := 7) rfl (lay_at (k := 0) (sh := shX7) rfl), fun U hU hW => ⟨rfl, by rw [hU], by rw [hU]; exact P_right hP, va_K.moved hW.alike hK, (D_right hDD).weaken (fun _ _ _ _ => trivial), hN.warm hW⟩⟩ rfl hz hl.1 hst (lv_room hw) hd ⟨h3, h4⟩) hS hAx hAx (fun H1 locs1 hP1 hz1 hk1 hS1 => ?_)
  refine kk H1 locs1 ls (va_P.app (fun k q hq => ?_) hP1) hS1 hl
  obtain ⟨g1, g2⟩ := Ax_not (A := A) (cA := cA) (σ := σm) (P_left hP) (fun i j p q hi hj => fun e => D_apart hDD hj hi e.symm) hq
  exact (P_left hP k q hq).kept (hk1 q.1 g1 g2)
end YR
