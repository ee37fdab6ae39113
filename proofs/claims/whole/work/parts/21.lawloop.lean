theorem lw_cmp (v : Int64) : lg_cmp v v = 0 := by simp [lg_cmp]
theorem y_inc {S : Type} {Γ : Gx S} {cc : ByteArray} {own : String} {cA : Nat → ClassId} {fr lo n : Nat} {σ : S} {pc : Nat} {L L' : List (Nat × Value)} {stk : List Value} (C : Cx Γ cc own cA fr lo n) {i j : Nat} {z : Int} {x v : Int32} (hd : decode cc pc = .ok (.iinc i z, 3)) (hk : L[j]? = some (i, .int x)) (hv : Int32.ofInt z = v) (hn : i < n) (hl : lst i (.int (x + v)) L = L') (k : Wx Γ σ (pc + 3) L' stk) : Wx Γ σ pc L stk := by
  obtain ⟨⟨p, l, e, R, s, m, args, below, meth, c⟩, ⟨D, w, A, nL, cs, ss, Q⟩⟩ := Γ
  exact fun H locs ls hP hS hh => lv_iinc C.1 C.2.1 hd hh hk (v := x + v) (by rw [hv]) (by have := C.2.2.2.1; omega) hl (fun ls hh => k H locs ls hP hS hh)
theorem y_callCi {Γ : Gx (St × St)} {cA : Nat → ClassId} {fr lo : Nat} {l : Launch} {D : va_G} {πc πm : Nat → Nat} {b len : Nat} {xs : Nat → Int32} {σc σm : St} {pc : Nat} {L : List (Nat × Value)} {stk : List Value} (C : Cl Γ cA fr lo l D πc πm b len xs) {y : MethodName} {cy : ByteArray} {maxL f' l' i z : Nat} {ret : Option FieldType} {As rest : List Value} {v : Int32} {σ' : St} (K : Kt l D cA πc shC y cy maxL ret f' l' (.ref (πc 0) :: As) σc (some (.int v)) σ') (hu : Cond.methodLink RL i y ∈ UW) (hi : Cond.instanceMethod y ∈ UW) (hs : Cond.selects RX6 y y ∈ UW) (hc : Cond.code y cy maxL ret ∈ UW) (hy : y.cls = RX6 ∧ y.cls ≠ "java/lang/invoke/MethodHandle" ∧ y.cls ≠ "java/lang/invoke/VarHandle" ∧ (parseMethodDescriptor y.desc).map (fun d => d.parameters.length) = some z) (hz : As.length = z) (hr : f' + 1 ≤ fr ∧ 8 + (maxL + 11) + l' ≤ lo) (hd : decode cL_law pc = .ok (.invokevirtual i, 3)) (hst : stk = As.reverse ++ .ref (πc 0) :: rest) (hw : (rest.map fun v => v.category).sum ≤ 8) (kk : Wx Γ (σ', σm) (pc + 3) L (.int v :: rest)) : Wx Γ (σc, σm) pc L stk := y_callC C K hu hi hs hc hy hz hr hd hst hw kk
theorem y_callCl {Γ : Gx (St × St)} {cA : Nat → ClassId} {fr lo : Nat} {l : Launch} {D : va_G} {πc πm : Nat → Nat} {b len : Nat} {xs : Nat → Int32} {σc σm : St} {pc : Nat} {L : List (Nat × Value)} {stk : List Value} (C : Cl Γ cA fr lo l D πc πm b len xs) {y : MethodName} {cy : ByteArray} {maxL f' l' i z : Nat} {ret : Option FieldType} {As rest : List Value} {v : Int64} {σ' : St} (K : Kt l D cA πc shC y cy maxL ret f' l' (.ref (πc 0) :: As) σc (some (.long v)) σ') (hu : Cond.methodLink RL i y ∈ UW) (hi : Cond.instanceMethod y ∈ UW) (hs : Cond.selects RX6 y y ∈ UW) (hc : Cond.code y cy maxL ret ∈ UW) (hy : y.cls = RX6 ∧ y.cls ≠ "java/lang/invoke/MethodHandle" ∧ y.cls ≠ "java/lang/invoke/VarHandle" ∧ (parseMethodDescriptor y.desc).map (fun d => d.parameters.length) = some z) (hz : As.length = z) (hr : f' + 1 ≤ fr ∧ 8 + (maxL + 11) + l' ≤ lo) (hd : decode cL_law pc = .ok (.invokevirtual i, 3)) (hst : stk = As.reverse ++ .ref (πc 0) :: rest) (hw : (rest.map fun v => v.category).sum ≤ 8) (kk : Wx Γ (σ', σm) (pc + 3) L (.long v :: rest)) : Wx Γ (σc, σm) pc L stk := y_callC C K hu hi hs hc hy hz hr hd hst hw kk
theorem y_callMi {Γ : Gx (St × St)} {cA : Nat → ClassId} {fr lo : Nat} {l : Launch} {D : va_G} {πc πm : Nat → Nat} {b len : Nat} {xs : Nat → Int32} {σc σm : St} {pc : Nat} {L : List (Nat × Value)} {stk : List Value} (C : Cl Γ cA fr lo l D πc πm b len xs) {y : MethodName} {cy : ByteArray} {maxL f' l' i z : Nat} {ret : Option FieldType} {As rest : List Value} {v : Int32} {σ' : St} (K : Kt l D cA πm shM y cy maxL ret f' l' (.ref (πm 0) :: As) σm (some (.int v)) σ') (hu : Cond.methodLink RL i y ∈ UW) (hi : Cond.instanceMethod y ∈ UW) (hs : Cond.selects RX7 y y ∈ UW) (hc : Cond.code y cy maxL ret ∈ UW) (hy : y.cls = RX7 ∧ y.cls ≠ "java/lang/invoke/MethodHandle" ∧ y.cls ≠ "java/lang/invoke/VarHandle" ∧ (parseMethodDescriptor y.desc).map (fun d => d.parameters.length) = some z) (hz : As.length = z) (hr : f' + 1 ≤ fr ∧ 8 + (maxL + 11) + l' ≤ lo) (hd : decode cL_law pc = .ok (.invokevirtual i, 3)) (hst : stk = As.reverse ++ .ref (πm 0) :: rest) (hw : (rest.map fun v => v.category).sum ≤ 8) (kk : Wx Γ (σc, σ') (pc + 3) L (.int v :: rest)) : Wx Γ (σc, σm) pc L stk := y_callM C K hu hi hs hc hy hz hr hd hst hw kk
theorem y_callMl {Γ : Gx (St × St)} {cA : Nat → ClassId} {fr lo : Nat} {l : Launch} {D : va_G} {πc πm : Nat → Nat} {b len : Nat} {xs : Nat → Int32} {σc σm : St} {pc : Nat} {L : List (Nat × Value)} {stk : List Value} (C : Cl Γ cA fr lo l D πc πm b len xs) {y : MethodName} {cy : ByteArray} {maxL f' l' i z : Nat} {ret : Option FieldType} {As rest : List Value} {v : Int64} {σ' : St} (K : Kt l D cA πm shM y cy maxL ret f' l' (.ref (πm 0) :: As) σm (some (.long v)) σ') (hu : Cond.methodLink RL i y ∈ UW) (hi : Cond.instanceMethod y ∈ UW) (hs : Cond.selects RX7 y y ∈ UW) (hc : Cond.code y cy maxL ret ∈ UW) (hy : y.cls = RX7 ∧ y.cls ≠ "java/lang/invoke/MethodHandle" ∧ y.cls ≠ "java/lang/invoke/VarHandle" ∧ (parseMethodDescriptor y.desc).map (fun d => d.parameters.length) = some z) (hz : As.length = z) (hr : f' + 1 ≤ fr ∧ 8 + (maxL + 11) + l' ≤ lo) (hd : decode cL_law pc = .ok (.invokevirtual i, 3)) (hst : stk = As.reverse ++ .ref (πm 0) :: rest) (hw : (rest.map fun v => v.category).sum ≤ 8) (kk : Wx Γ (σc, σ') (pc + 3) L (.long v :: rest)) : Wx Γ (σc, σm) pc L stk := y_callM C K hu hi hs hc hy hz hr hd hst hw kk
def Op_type (N : Nat) (Rel : St → St → Prop) : Prop := ∀ (a1 : Int32) (c m : St), Rel c m → ∃ (v : Int32) (c' m' : St), wb_type N a1 c = some (v, c') ∧ mo_type N a1 m = some (v, m') ∧ Rel c' m'
def Op_clear (N : Nat) (Rel : St → St → Prop) : Prop := ∀ (c m : St), Rel c m → ∃ (v : Int32) (c' m' : St), wb_clear N  c = some (v, c') ∧ mo_clear N  m = some (v, m') ∧ Rel c' m'
def Op_gorge (N : Nat) (Rel : St → St → Prop) : Prop := ∀ (c m : St), Rel c m → ∃ (v : Int32) (c' m' : St), wb_gorge N  c = some (v, c') ∧ mo_gorge N  m = some (v, m') ∧ Rel c' m'
def Op_person (N : Nat) (Rel : St → St → Prop) : Prop := ∀ (a1 a2 : Int32) (c m : St), Rel c m → ∃ (v : Int32) (c' m' : St), wb_person N a1 a2 c = some (v, c') ∧ mo_person N a1 a2 m = some (v, m') ∧ Rel c' m'
def Op_row (N : Nat) (Rel : St → St → Prop) : Prop := ∀ (a1 a2 : Int32) (c m : St), Rel c m → ∃ (v : Int32) (c' m' : St), wb_row N a1 a2 c = some (v, c') ∧ mo_row N a1 a2 m = some (v, m') ∧ Rel c' m'
def Op_crosses (N : Nat) (Rel : St → St → Prop) : Prop := ∀ (a1 : Int32) (c m : St), Rel c m → ∃ (v : Int32) (c' m' : St), wb_crosses N a1 c = some (v, c') ∧ mo_crosses N a1 m = some (v, m') ∧ Rel c' m'
def Op_turnsBack (N : Nat) (Rel : St → St → Prop) : Prop := ∀ (c m : St), Rel c m → ∃ (v : Int32) (c' m' : St), wb_turnsBack N  c = some (v, c') ∧ mo_turnsBack N  m = some (v, m') ∧ Rel c' m'
def Op_drops (N : Nat) (Rel : St → St → Prop) : Prop := ∀ (a1 : Int32) (c m : St), Rel c m → ∃ (v : Int32) (c' m' : St), wb_drops N a1 c = some (v, c') ∧ mo_drops N a1 m = some (v, m') ∧ Rel c' m'
def Op_draws (N : Nat) (Rel : St → St → Prop) : Prop := ∀ (a1 : Int32) (c m : St), Rel c m → ∃ (v : Int32) (c' m' : St), wb_draws N a1 c = some (v, c') ∧ mo_draws N a1 m = some (v, m') ∧ Rel c' m'
def Op_rains (N : Nat) (Rel : St → St → Prop) : Prop := ∀ (a1 : Int32) (c m : St), Rel c m → ∃ (v : Int32) (c' m' : St), wb_rains N a1 c = some (v, c') ∧ mo_rains N a1 m = some (v, m') ∧ Rel c' m'
def Op_year (N : Nat) (Rel : St → St → Prop) : Prop := ∀ (c m : St), Rel c m → ∃ (v : Int32) (c' m' : St), wb_year N  c = some (v, c') ∧ mo_year N  m = some (v, m') ∧ Rel c' m'
def Op_undo (N : Nat) (Rel : St → St → Prop) : Prop := ∀ (c m : St), Rel c m → ∃ (v : Int32) (c' m' : St), wb_undo N  c = some (v, c') ∧ mo_undo N  m = some (v, m') ∧ Rel c' m'
def Op_now (N : Nat) (Rel : St → St → Prop) : Prop := ∀ (a1 : Int32) (c m : St), Rel c m → ∃ (v : Int32) (c' m' : St), wb_now N a1 c = some (v, c') ∧ mo_now N a1 m = some (v, m') ∧ Rel c' m'
def Op_order (N : Nat) (Rel : St → St → Prop) : Prop := ∀ (a1 a2 : Int32) (c m : St), Rel c m → ∃ (v : Int32) (c' m' : St), wb_order N a1 a2 c = some (v, c') ∧ mo_order N a1 a2 m = some (v, m') ∧ Rel c' m'
def Op_lastOne (N : Nat) (Rel : St → St → Prop) : Prop := ∀ (c m : St), Rel c m → ∃ (v : Int32) (c' m' : St), wb_lastOne N  c = some (v, c') ∧ mo_lastOne N  m = some (v, m') ∧ Rel c' m'
def Op_crossings (N : Nat) (Rel : St → St → Prop) : Prop := ∀ (a1 : Int32) (c m : St), Rel c m → ∃ (v : Int32) (c' m' : St), wb_crossings N a1 c = some (v, c') ∧ mo_crossings N a1 m = some (v, m') ∧ Rel c' m'
def Op_over (N : Nat) (Rel : St → St → Prop) : Prop := ∀ (a1 : Int32) (c m : St), Rel c m → ∃ (v : Int32) (c' m' : St), wb_over N a1 c = some (v, c') ∧ mo_over N a1 m = some (v, m') ∧ Rel c' m'
def Op_mend (N : Nat) (Rel : St → St → Prop) : Prop := ∀ (a1 a2 : Int32) (c m : St), Rel c m → ∃ (v : Int32) (c' m' : St), wb_mend N a1 a2 c = some (v, c') ∧ mo_mend N a1 a2 m = some (v, m') ∧ Rel c' m'
def Op_odds (N : Nat) (Rel : St → St → Prop) : Prop := ∀ (a1 a2 a3 a4 : Int32) (c m : St), Rel c m → ∃ (v : Int32) (c' m' : St), wb_odds N a1 a2 a3 a4 c = some (v, c') ∧ mo_odds N a1 a2 a3 a4 m = some (v, m') ∧ Rel c' m'
def Op_plumbs (N : Nat) (Rel : St → St → Prop) : Prop := ∀ (a1 a2 : Int32) (c m : St), Rel c m → ∃ (v : Int32) (c' m' : St), wb_plumbs N a1 a2 c = some (v, c') ∧ mo_plumbs N a1 a2 m = some (v, m') ∧ Rel c' m'
def Op_forget (N : Nat) (Rel : St → St → Prop) : Prop := ∀ (c m : St), Rel c m → ∃ (v : Int32) (c' m' : St), wb_forget N  c = some (v, c') ∧ mo_forget N  m = some (v, m') ∧ Rel c' m'
def Op_drew (N : Nat) (Rel : St → St → Prop) : Prop := ∀ (a1 : Int32) (c m : St), Rel c m → ∃ (v : Int32) (c' m' : St), wb_drew N a1 c = some (v, c') ∧ mo_drew N a1 m = some (v, m') ∧ Rel c' m'
def Op_night (N : Nat) (Rel : St → St → Prop) : Prop := ∀ (a1 : Int32) (c m : St), Rel c m → ∃ (v : Int32) (c' m' : St), wb_night N a1 c = some (v, c') ∧ mo_night N a1 m = some (v, m') ∧ Rel c' m'
def Op_mark (N : Nat) (Rel : St → St → Prop) : Prop := ∀ (a1 a2 : Int32) (c m : St), Rel c m → ∃ (v : Int32) (c' m' : St), wb_mark N a1 a2 c = some (v, c') ∧ mo_mark N a1 a2 m = some (v, m') ∧ Rel c' m'
def Op_keep (N : Nat) (Rel : St → St → Prop) : Prop := ∀ (a1 : Int32) (c m : St), Rel c m → ∃ (v : Int32) (c' m' : St), wb_keep N a1 c = some (v, c') ∧ mo_keep N a1 m = some (v, m') ∧ Rel c' m'
def Op_back (N : Nat) (Rel : St → St → Prop) : Prop := ∀ (a1 : Int32) (c m : St), Rel c m → ∃ (v : Int32) (c' m' : St), wb_back N a1 c = some (v, c') ∧ mo_back N a1 m = some (v, m') ∧ Rel c' m'
def Op_count (N : Nat) (Rel : St → St → Prop) : Prop := ∀ (a1 : Int32) (c m : St), Rel c m → ∃ (v : Int32) (c' m' : St), wb_count N a1 c = some (v, c') ∧ mo_count N a1 m = some (v, m') ∧ Rel c' m'
def Op_trace (N : Nat) (Rel : St → St → Prop) : Prop := ∀ (c m : St), Rel c m → ∃ (v : Int64) (c' m' : St), wb_trace N  c = some (v, c') ∧ mo_trace N  m = some (v, m') ∧ Rel c' m'
theorem lw_le {L j : Nat} (hL : L ≤ 320) (hj : j ≤ L) (h : ¬ nI L - 5 < nI j) : j + 5 ≤ L := by
  by_cases q : 5 ≤ L
  · rw [show (5 : Int32) = nI 5 from rfl, pk_sub q, nI_ltI (by omega) (by omega)] at h
    omega
  · exfalso
    apply h
    have h1 : nI L - 5 < 0 := pk_sneg (a := L) (b := 5) (by omega) (by omega)
    rw [Int32.lt_iff_toInt_lt] at h1 ⊢
    rw [nI_toInt (by omega)]
    have : (0 : Int32).toInt = 0 := rfl
    omega
theorem lw_ix {j len : Nat} (k : Nat) (h : j + 5 ≤ len) (hk : k < 5) (hl : len ≤ 320) : vp_in (nI j + nI k) len := by
  rw [nI_add]; exact vp_in_nI (by omega) (by omega)
theorem lw_ix0 {j len : Nat} (h : j + 5 ≤ len) (hl : len ≤ 320) : vp_in (nI j) len := vp_in_nI (by omega) (by omega)
set_option maxRecDepth 20000 in
set_option maxHeartbeats 4000000 in
theorem law_loop {Γ : Gx (St × St)} {cA : Nat → ClassId} {l : Launch} {D : va_G} {πc πm : Nat → Nat} {b len : Nat} {xs : Nat → Int32} (C : Cl Γ cA 2048 84000 l D πc πm b len xs) (hlen : len ≤ 320) (hend : ∀ (σ : St × St) (L : List (Nat × Value)), Wx Γ σ 821 L []) (N : Nat) (Rel : St → St → Prop) (h_type : Op_type N Rel) (h_clear : Op_clear N Rel) (h_gorge : Op_gorge N Rel) (h_person : Op_person N Rel) (h_row : Op_row N Rel) (h_crosses : Op_crosses N Rel) (h_turnsBack : Op_turnsBack N Rel) (h_drops : Op_drops N Rel) (h_draws : Op_draws N Rel) (h_rains : Op_rains N Rel) (h_year : Op_year N Rel) (h_undo : Op_undo N Rel) (h_now : Op_now N Rel) (h_order : Op_order N Rel) (h_lastOne : Op_lastOne N Rel) (h_crossings : Op_crossings N Rel) (h_over : Op_over N Rel) (h_mend : Op_mend N Rel) (h_odds : Op_odds N Rel) (h_plumbs : Op_plumbs N Rel) (h_forget : Op_forget N Rel) (h_drew : Op_drew N Rel) (h_night : Op_night N Rel) (h_mark : Op_mark N Rel) (h_keep : Op_keep N Rel) (h_back : Op_back N Rel) (h_count : Op_count N Rel) (h_trace : Op_trace N Rel) : ∀ (n j : Nat) (σc σm : St), len - j < n → j ≤ len → Rel σc σm → Wx Γ (σc, σm) 18 [(3, .int (nI j)), (0, .ref b), (1, .ref (πc 0)), (2, .ref (πm 0))] [] := by
  have C0 := C.1
  intro n
  induction n with
  | zero => intro j σc σm hn; omega
  | succ n ih =>
    intro j σc σm hn hj hR
    refine x_iload_n C0 dL_law_18 rfl ?_
    refine x_aload_n C0 dL_law_19 rfl ?_
    refine y_slen C dL_law_20 ?_
    refine x_iconst C0 (v := 5) dL_law_21 (by decide) ?_
    refine x_isub C0 dL_law_22 ?_
    refine y_gt C0 (tgt := 821) dL_law_23 (by decide) (fun _ => hend _ _) (fun q5 => ?_)
    have h5 := lw_le hlen hj q5
    refine x_aload_n C0 dL_law_26 rfl ?_
    refine x_iload_n C0 dL_law_27 rfl ?_
    refine y_sld C (lw_ix0 h5 hlen) dL_law_28 ?_
    refine x_bipush C0 (v := 31) dL_law_29 (by decide) ?_
    refine x_iand C0 dL_law_31 ?_
    obtain ⟨kk, hk, he⟩ := pk_andE (xs (nI j).toNatClampNeg) (m := 31) 5 rfl
    have hnext : ∀ (σc σm : St), Rel σc σm → Wx Γ (σc, σm) 815 [(3, .int (nI j)), (0, .ref b), (1, .ref (πc 0)), (2, .ref (πm 0))] [] := by
      intro σc σm hR
      refine y_inc C0 (j := 0) (x := nI j) (v := 5) (L' := [(3, .int (nI j + 5)), (0, .ref b), (1, .ref (πc 0)), (2, .ref (πm 0))]) dL_law_815 rfl (by decide) (by decide) rfl ?_
      refine x_goto C0 (tgt := 18) dL_law_818 (by decide) ?_
      rw [show nI j + 5 = nI (j + 5) from nI_add j 5]
      exact ih (j + 5) σc σm (by omega) (by omega) hR
    refine y_by 0 (fun q => ?_) (fun q0 => ?_)
    · refine x_tab C0 (tgt := 160) dL_law_32 q (by decide) (by decide) rfl (by decide) ?_
      obtain ⟨v, c1, m1, hc, hm, hR1⟩ := h_type (xs (nI j + nI 1).toNatClampNeg) σc σm hR
      refine x_aload_n C0 dL_law_160 rfl ?_
      refine x_aload_n C0 dL_law_161 rfl ?_
      refine x_iload_n C0 dL_law_162 rfl ?_
      refine x_iconst C0 (v := nI 1) dL_law_163 (by decide) ?_
      refine x_iadd C0 dL_law_164 ?_
      refine y_sld C (lw_ix 1 h5 (by decide) hlen) dL_law_165 ?_
      refine y_callCi C (k_wb_type N (xs (nI j + nI 1).toNatClampNeg) hc) umL_13 ui_X6_type us_X6_type uc_X6_type hv_X6_type rfl (by decide) dL_law_166 (rest := []) rfl (Nat.le_of_ble_eq_true rfl) ?_
      refine x_aload_n C0 dL_law_169 rfl ?_
      refine x_aload_n C0 dL_law_170 rfl ?_
      refine x_iload_n C0 dL_law_171 rfl ?_
      refine x_iconst C0 (v := nI 1) dL_law_172 (by decide) ?_
      refine x_iadd C0 dL_law_173 ?_
      refine y_sld C (lw_ix 1 h5 (by decide) hlen) dL_law_174 ?_
      refine y_callMi C (k_mo_type N (xs (nI j + nI 1).toNatClampNeg) hm) umL_17 ui_X7_type us_X7_type uc_X7_type hv_X7_type rfl (by decide) dL_law_175 (rest := [.int v]) rfl (Nat.le_of_ble_eq_true rfl) ?_
      refine y_eq C0 (tgt := 815) dL_law_178 (by decide) ?_
      exact hnext c1 m1 hR1
    refine y_by 1 (fun q => ?_) (fun q1 => ?_)
    · refine x_tab C0 (tgt := 183) dL_law_32 q (by decide) (by decide) rfl (by decide) ?_
      obtain ⟨v, c1, m1, hc, hm, hR1⟩ := h_clear  σc σm hR
      refine x_aload_n C0 dL_law_183 rfl ?_
      refine y_callCi C (k_wb_clear N  hc) umL_18 ui_X6_clear us_X6_clear uc_X6_clear hv_X6_clear rfl (by decide) dL_law_184 (rest := []) rfl (Nat.le_of_ble_eq_true rfl) ?_
      refine x_aload_n C0 dL_law_187 rfl ?_
      refine y_callMi C (k_mo_clear N  hm) umL_22 ui_X7_clear us_X7_clear uc_X7_clear hv_X7_clear rfl (by decide) dL_law_188 (rest := [.int v]) rfl (Nat.le_of_ble_eq_true rfl) ?_
      refine y_eq C0 (tgt := 815) dL_law_191 (by decide) ?_
      exact hnext c1 m1 hR1
    refine y_by 2 (fun q => ?_) (fun q2 => ?_)
    · refine x_tab C0 (tgt := 196) dL_law_32 q (by decide) (by decide) rfl (by decide) ?_
      obtain ⟨v, c1, m1, hc, hm, hR1⟩ := h_gorge  σc σm hR
      refine x_aload_n C0 dL_law_196 rfl ?_
      refine y_callCi C (k_wb_gorge N  hc) umL_23 ui_X6_gorge us_X6_gorge uc_X6_gorge hv_X6_gorge rfl (by decide) dL_law_197 (rest := []) rfl (Nat.le_of_ble_eq_true rfl) ?_
      refine x_aload_n C0 dL_law_200 rfl ?_
      refine y_callMi C (k_mo_gorge N  hm) umL_26 ui_X7_gorge us_X7_gorge uc_X7_gorge hv_X7_gorge rfl (by decide) dL_law_201 (rest := [.int v]) rfl (Nat.le_of_ble_eq_true rfl) ?_
      refine y_eq C0 (tgt := 815) dL_law_204 (by decide) ?_
      exact hnext c1 m1 hR1
    refine y_by 3 (fun q => ?_) (fun q3 => ?_)
    · refine x_tab C0 (tgt := 209) dL_law_32 q (by decide) (by decide) rfl (by decide) ?_
      obtain ⟨v, c1, m1, hc, hm, hR1⟩ := h_person (xs (nI j + nI 1).toNatClampNeg) (xs (nI j + nI 2).toNatClampNeg) σc σm hR
      refine x_aload_n C0 dL_law_209 rfl ?_
      refine x_aload_n C0 dL_law_210 rfl ?_
      refine x_iload_n C0 dL_law_211 rfl ?_
      refine x_iconst C0 (v := nI 1) dL_law_212 (by decide) ?_
      refine x_iadd C0 dL_law_213 ?_
      refine y_sld C (lw_ix 1 h5 (by decide) hlen) dL_law_214 ?_
      refine x_aload_n C0 dL_law_215 rfl ?_
      refine x_iload_n C0 dL_law_216 rfl ?_
      refine x_iconst C0 (v := nI 2) dL_law_217 (by decide) ?_
      refine x_iadd C0 dL_law_218 ?_
      refine y_sld C (lw_ix 2 h5 (by decide) hlen) dL_law_219 ?_
      refine y_callCi C (k_wb_person N (xs (nI j + nI 1).toNatClampNeg) (xs (nI j + nI 2).toNatClampNeg) hc) umL_27 ui_X6_person us_X6_person uc_X6_person hv_X6_person rfl (by decide) dL_law_220 (rest := []) rfl (Nat.le_of_ble_eq_true rfl) ?_
      refine x_aload_n C0 dL_law_223 rfl ?_
      refine x_aload_n C0 dL_law_224 rfl ?_
      refine x_iload_n C0 dL_law_225 rfl ?_
      refine x_iconst C0 (v := nI 1) dL_law_226 (by decide) ?_
      refine x_iadd C0 dL_law_227 ?_
      refine y_sld C (lw_ix 1 h5 (by decide) hlen) dL_law_228 ?_
      refine x_aload_n C0 dL_law_229 rfl ?_
      refine x_iload_n C0 dL_law_230 rfl ?_
      refine x_iconst C0 (v := nI 2) dL_law_231 (by decide) ?_
      refine x_iadd C0 dL_law_232 ?_
      refine y_sld C (lw_ix 2 h5 (by decide) hlen) dL_law_233 ?_
      refine y_callMi C (k_mo_person N (xs (nI j + nI 1).toNatClampNeg) (xs (nI j + nI 2).toNatClampNeg) hm) umL_31 ui_X7_person us_X7_person uc_X7_person hv_X7_person rfl (by decide) dL_law_234 (rest := [.int v]) rfl (Nat.le_of_ble_eq_true rfl) ?_
      refine y_eq C0 (tgt := 815) dL_law_237 (by decide) ?_
      exact hnext c1 m1 hR1
    refine y_by 4 (fun q => ?_) (fun q4 => ?_)
    · refine x_tab C0 (tgt := 242) dL_law_32 q (by decide) (by decide) rfl (by decide) ?_
      obtain ⟨v, c1, m1, hc, hm, hR1⟩ := h_row (xs (nI j + nI 1).toNatClampNeg) (xs (nI j + nI 2).toNatClampNeg) σc σm hR
      refine x_aload_n C0 dL_law_242 rfl ?_
      refine x_aload_n C0 dL_law_243 rfl ?_
      refine x_iload_n C0 dL_law_244 rfl ?_
      refine x_iconst C0 (v := nI 1) dL_law_245 (by decide) ?_
      refine x_iadd C0 dL_law_246 ?_
      refine y_sld C (lw_ix 1 h5 (by decide) hlen) dL_law_247 ?_
      refine x_aload_n C0 dL_law_248 rfl ?_
      refine x_iload_n C0 dL_law_249 rfl ?_
      refine x_iconst C0 (v := nI 2) dL_law_250 (by decide) ?_
      refine x_iadd C0 dL_law_251 ?_
      refine y_sld C (lw_ix 2 h5 (by decide) hlen) dL_law_252 ?_
      refine y_callCi C (k_wb_row N (xs (nI j + nI 1).toNatClampNeg) (xs (nI j + nI 2).toNatClampNeg) hc) umL_32 ui_X6_row us_X6_row uc_X6_row hv_X6_row rfl (by decide) dL_law_253 (rest := []) rfl (Nat.le_of_ble_eq_true rfl) ?_
      refine x_aload_n C0 dL_law_256 rfl ?_
      refine x_aload_n C0 dL_law_257 rfl ?_
      refine x_iload_n C0 dL_law_258 rfl ?_
      refine x_iconst C0 (v := nI 1) dL_law_259 (by decide) ?_
      refine x_iadd C0 dL_law_260 ?_
      refine y_sld C (lw_ix 1 h5 (by decide) hlen) dL_law_261 ?_
      refine x_aload_n C0 dL_law_262 rfl ?_
      refine x_iload_n C0 dL_law_263 rfl ?_
      refine x_iconst C0 (v := nI 2) dL_law_264 (by decide) ?_
      refine x_iadd C0 dL_law_265 ?_
      refine y_sld C (lw_ix 2 h5 (by decide) hlen) dL_law_266 ?_
      refine y_callMi C (k_mo_row N (xs (nI j + nI 1).toNatClampNeg) (xs (nI j + nI 2).toNatClampNeg) hm) umL_35 ui_X7_row us_X7_row uc_X7_row hv_X7_row rfl (by decide) dL_law_267 (rest := [.int v]) rfl (Nat.le_of_ble_eq_true rfl) ?_
      refine y_eq C0 (tgt := 815) dL_law_270 (by decide) ?_
      exact hnext c1 m1 hR1
    refine y_by 5 (fun q => ?_) (fun q5 => ?_)
    · refine x_tab C0 (tgt := 275) dL_law_32 q (by decide) (by decide) rfl (by decide) ?_
      obtain ⟨v, c1, m1, hc, hm, hR1⟩ := h_crosses (xs (nI j + nI 1).toNatClampNeg) σc σm hR
      refine x_aload_n C0 dL_law_275 rfl ?_
      refine x_aload_n C0 dL_law_276 rfl ?_
      refine x_iload_n C0 dL_law_277 rfl ?_
      refine x_iconst C0 (v := nI 1) dL_law_278 (by decide) ?_
      refine x_iadd C0 dL_law_279 ?_
      refine y_sld C (lw_ix 1 h5 (by decide) hlen) dL_law_280 ?_
      refine y_callCi C (k_wb_crosses N (xs (nI j + nI 1).toNatClampNeg) hc) umL_36 ui_X6_crosses us_X6_crosses uc_X6_crosses hv_X6_crosses rfl (by decide) dL_law_281 (rest := []) rfl (Nat.le_of_ble_eq_true rfl) ?_
      refine x_aload_n C0 dL_law_284 rfl ?_
      refine x_aload_n C0 dL_law_285 rfl ?_
      refine x_iload_n C0 dL_law_286 rfl ?_
      refine x_iconst C0 (v := nI 1) dL_law_287 (by decide) ?_
      refine x_iadd C0 dL_law_288 ?_
      refine y_sld C (lw_ix 1 h5 (by decide) hlen) dL_law_289 ?_
      refine y_callMi C (k_mo_crosses N (xs (nI j + nI 1).toNatClampNeg) hm) umL_39 ui_X7_crosses us_X7_crosses uc_X7_crosses hv_X7_crosses rfl (by decide) dL_law_290 (rest := [.int v]) rfl (Nat.le_of_ble_eq_true rfl) ?_
      refine y_eq C0 (tgt := 815) dL_law_293 (by decide) ?_
      exact hnext c1 m1 hR1
    refine y_by 6 (fun q => ?_) (fun q6 => ?_)
    · refine x_tab C0 (tgt := 298) dL_law_32 q (by decide) (by decide) rfl (by decide) ?_
      obtain ⟨v, c1, m1, hc, hm, hR1⟩ := h_turnsBack  σc σm hR
      refine x_aload_n C0 dL_law_298 rfl ?_
      refine y_callCi C (k_wb_turnsBack N  hc) umL_40 ui_X6_turnsBack us_X6_turnsBack uc_X6_turnsBack hv_X6_turnsBack rfl (by decide) dL_law_299 (rest := []) rfl (Nat.le_of_ble_eq_true rfl) ?_
      refine x_aload_n C0 dL_law_302 rfl ?_
      refine y_callMi C (k_mo_turnsBack N  hm) umL_43 ui_X7_turnsBack us_X7_turnsBack uc_X7_turnsBack hv_X7_turnsBack rfl (by decide) dL_law_303 (rest := [.int v]) rfl (Nat.le_of_ble_eq_true rfl) ?_
      refine y_eq C0 (tgt := 815) dL_law_306 (by decide) ?_
      exact hnext c1 m1 hR1
    refine y_by 7 (fun q => ?_) (fun q7 => ?_)
    · refine x_tab C0 (tgt := 311) dL_law_32 q (by decide) (by decide) rfl (by decide) ?_
      obtain ⟨v, c1, m1, hc, hm, hR1⟩ := h_drops (xs (nI j + nI 1).toNatClampNeg) σc σm hR
      refine x_aload_n C0 dL_law_311 rfl ?_
      refine x_aload_n C0 dL_law_312 rfl ?_
      refine x_iload_n C0 dL_law_313 rfl ?_
      refine x_iconst C0 (v := nI 1) dL_law_314 (by decide) ?_
      refine x_iadd C0 dL_law_315 ?_
      refine y_sld C (lw_ix 1 h5 (by decide) hlen) dL_law_316 ?_
      refine y_callCi C (k_wb_drops N (xs (nI j + nI 1).toNatClampNeg) hc) umL_44 ui_X6_drops us_X6_drops uc_X6_drops hv_X6_drops rfl (by decide) dL_law_317 (rest := []) rfl (Nat.le_of_ble_eq_true rfl) ?_
      refine x_aload_n C0 dL_law_320 rfl ?_
      refine x_aload_n C0 dL_law_321 rfl ?_
      refine x_iload_n C0 dL_law_322 rfl ?_
      refine x_iconst C0 (v := nI 1) dL_law_323 (by decide) ?_
      refine x_iadd C0 dL_law_324 ?_
      refine y_sld C (lw_ix 1 h5 (by decide) hlen) dL_law_325 ?_
      refine y_callMi C (k_mo_drops N (xs (nI j + nI 1).toNatClampNeg) hm) umL_47 ui_X7_drops us_X7_drops uc_X7_drops hv_X7_drops rfl (by decide) dL_law_326 (rest := [.int v]) rfl (Nat.le_of_ble_eq_true rfl) ?_
      refine y_eq C0 (tgt := 815) dL_law_329 (by decide) ?_
      exact hnext c1 m1 hR1
    refine y_by 8 (fun q => ?_) (fun q8 => ?_)
    · refine x_tab C0 (tgt := 334) dL_law_32 q (by decide) (by decide) rfl (by decide) ?_
      obtain ⟨v, c1, m1, hc, hm, hR1⟩ := h_draws (xs (nI j + nI 1).toNatClampNeg) σc σm hR
      refine x_aload_n C0 dL_law_334 rfl ?_
      refine x_aload_n C0 dL_law_335 rfl ?_
      refine x_iload_n C0 dL_law_336 rfl ?_
      refine x_iconst C0 (v := nI 1) dL_law_337 (by decide) ?_
      refine x_iadd C0 dL_law_338 ?_
      refine y_sld C (lw_ix 1 h5 (by decide) hlen) dL_law_339 ?_
      refine y_callCi C (k_wb_draws N (xs (nI j + nI 1).toNatClampNeg) hc) umL_48 ui_X6_draws us_X6_draws uc_X6_draws hv_X6_draws rfl (by decide) dL_law_340 (rest := []) rfl (Nat.le_of_ble_eq_true rfl) ?_
      refine x_aload_n C0 dL_law_343 rfl ?_
      refine x_aload_n C0 dL_law_344 rfl ?_
      refine x_iload_n C0 dL_law_345 rfl ?_
      refine x_iconst C0 (v := nI 1) dL_law_346 (by decide) ?_
      refine x_iadd C0 dL_law_347 ?_
      refine y_sld C (lw_ix 1 h5 (by decide) hlen) dL_law_348 ?_
      refine y_callMi C (k_mo_draws N (xs (nI j + nI 1).toNatClampNeg) hm) umL_51 ui_X7_draws us_X7_draws uc_X7_draws hv_X7_draws rfl (by decide) dL_law_349 (rest := [.int v]) rfl (Nat.le_of_ble_eq_true rfl) ?_
      refine y_eq C0 (tgt := 815) dL_law_352 (by decide) ?_
      exact hnext c1 m1 hR1
    refine y_by 9 (fun q => ?_) (fun q9 => ?_)
    · refine x_tab C0 (tgt := 357) dL_law_32 q (by decide) (by decide) rfl (by decide) ?_
      obtain ⟨v, c1, m1, hc, hm, hR1⟩ := h_rains (xs (nI j + nI 1).toNatClampNeg) σc σm hR
      refine x_aload_n C0 dL_law_357 rfl ?_
      refine x_aload_n C0 dL_law_358 rfl ?_
      refine x_iload_n C0 dL_law_359 rfl ?_
      refine x_iconst C0 (v := nI 1) dL_law_360 (by decide) ?_
      refine x_iadd C0 dL_law_361 ?_
      refine y_sld C (lw_ix 1 h5 (by decide) hlen) dL_law_362 ?_
      refine y_callCi C (k_wb_rains N (xs (nI j + nI 1).toNatClampNeg) hc) umL_52 ui_X6_rains us_X6_rains uc_X6_rains hv_X6_rains rfl (by decide) dL_law_363 (rest := []) rfl (Nat.le_of_ble_eq_true rfl) ?_
      refine x_aload_n C0 dL_law_366 rfl ?_
      refine x_aload_n C0 dL_law_367 rfl ?_
      refine x_iload_n C0 dL_law_368 rfl ?_
      refine x_iconst C0 (v := nI 1) dL_law_369 (by decide) ?_
      refine x_iadd C0 dL_law_370 ?_
      refine y_sld C (lw_ix 1 h5 (by decide) hlen) dL_law_371 ?_
      refine y_callMi C (k_mo_rains N (xs (nI j + nI 1).toNatClampNeg) hm) umL_55 ui_X7_rains us_X7_rains uc_X7_rains hv_X7_rains rfl (by decide) dL_law_372 (rest := [.int v]) rfl (Nat.le_of_ble_eq_true rfl) ?_
      refine y_eq C0 (tgt := 815) dL_law_375 (by decide) ?_
      exact hnext c1 m1 hR1
    refine y_by 10 (fun q => ?_) (fun q10 => ?_)
    · refine x_tab C0 (tgt := 380) dL_law_32 q (by decide) (by decide) rfl (by decide) ?_
      obtain ⟨v, c1, m1, hc, hm, hR1⟩ := h_year  σc σm hR
      refine x_aload_n C0 dL_law_380 rfl ?_
      refine y_callCi C (k_wb_year N  hc) umL_56 ui_X6_year us_X6_year uc_X6_year hv_X6_year rfl (by decide) dL_law_381 (rest := []) rfl (Nat.le_of_ble_eq_true rfl) ?_
      refine x_aload_n C0 dL_law_384 rfl ?_
      refine y_callMi C (k_mo_year N  hm) umL_59 ui_X7_year us_X7_year uc_X7_year hv_X7_year rfl (by decide) dL_law_385 (rest := [.int v]) rfl (Nat.le_of_ble_eq_true rfl) ?_
      refine y_eq C0 (tgt := 815) dL_law_388 (by decide) ?_
      exact hnext c1 m1 hR1
    refine y_by 11 (fun q => ?_) (fun q11 => ?_)
    · refine x_tab C0 (tgt := 393) dL_law_32 q (by decide) (by decide) rfl (by decide) ?_
      obtain ⟨v, c1, m1, hc, hm, hR1⟩ := h_undo  σc σm hR
      refine x_aload_n C0 dL_law_393 rfl ?_
      refine y_callCi C (k_wb_undo N  hc) umL_60 ui_X6_undo us_X6_undo uc_X6_undo hv_X6_undo rfl (by decide) dL_law_394 (rest := []) rfl (Nat.le_of_ble_eq_true rfl) ?_
      refine x_aload_n C0 dL_law_397 rfl ?_
      refine y_callMi C (k_mo_undo N  hm) umL_63 ui_X7_undo us_X7_undo uc_X7_undo hv_X7_undo rfl (by decide) dL_law_398 (rest := [.int v]) rfl (Nat.le_of_ble_eq_true rfl) ?_
      refine y_eq C0 (tgt := 815) dL_law_401 (by decide) ?_
      exact hnext c1 m1 hR1
    refine y_by 12 (fun q => ?_) (fun q12 => ?_)
    · refine x_tab C0 (tgt := 406) dL_law_32 q (by decide) (by decide) rfl (by decide) ?_
      obtain ⟨v, c1, m1, hc, hm, hR1⟩ := h_now (xs (nI j + nI 1).toNatClampNeg) σc σm hR
      refine x_aload_n C0 dL_law_406 rfl ?_
      refine x_aload_n C0 dL_law_407 rfl ?_
      refine x_iload_n C0 dL_law_408 rfl ?_
      refine x_iconst C0 (v := nI 1) dL_law_409 (by decide) ?_
      refine x_iadd C0 dL_law_410 ?_
      refine y_sld C (lw_ix 1 h5 (by decide) hlen) dL_law_411 ?_
      refine y_callCi C (k_wb_now N (xs (nI j + nI 1).toNatClampNeg) hc) umL_64 ui_X6_now us_X6_now uc_X6_now hv_X6_now rfl (by decide) dL_law_412 (rest := []) rfl (Nat.le_of_ble_eq_true rfl) ?_
      refine x_aload_n C0 dL_law_415 rfl ?_
      refine x_aload_n C0 dL_law_416 rfl ?_
      refine x_iload_n C0 dL_law_417 rfl ?_
      refine x_iconst C0 (v := nI 1) dL_law_418 (by decide) ?_
      refine x_iadd C0 dL_law_419 ?_
      refine y_sld C (lw_ix 1 h5 (by decide) hlen) dL_law_420 ?_
      refine y_callMi C (k_mo_now N (xs (nI j + nI 1).toNatClampNeg) hm) umL_67 ui_X7_now us_X7_now uc_X7_now hv_X7_now rfl (by decide) dL_law_421 (rest := [.int v]) rfl (Nat.le_of_ble_eq_true rfl) ?_
      refine y_eq C0 (tgt := 815) dL_law_424 (by decide) ?_
      exact hnext c1 m1 hR1
    refine y_by 13 (fun q => ?_) (fun q13 => ?_)
    · refine x_tab C0 (tgt := 429) dL_law_32 q (by decide) (by decide) rfl (by decide) ?_
      obtain ⟨v, c1, m1, hc, hm, hR1⟩ := h_order (xs (nI j + nI 1).toNatClampNeg) (xs (nI j + nI 2).toNatClampNeg) σc σm hR
      refine x_aload_n C0 dL_law_429 rfl ?_
      refine x_aload_n C0 dL_law_430 rfl ?_
      refine x_iload_n C0 dL_law_431 rfl ?_
      refine x_iconst C0 (v := nI 1) dL_law_432 (by decide) ?_
      refine x_iadd C0 dL_law_433 ?_
      refine y_sld C (lw_ix 1 h5 (by decide) hlen) dL_law_434 ?_
      refine x_aload_n C0 dL_law_435 rfl ?_
      refine x_iload_n C0 dL_law_436 rfl ?_
      refine x_iconst C0 (v := nI 2) dL_law_437 (by decide) ?_
      refine x_iadd C0 dL_law_438 ?_
      refine y_sld C (lw_ix 2 h5 (by decide) hlen) dL_law_439 ?_
      refine y_callCi C (k_wb_order N (xs (nI j + nI 1).toNatClampNeg) (xs (nI j + nI 2).toNatClampNeg) hc) umL_68 ui_X6_order us_X6_order uc_X6_order hv_X6_order rfl (by decide) dL_law_440 (rest := []) rfl (Nat.le_of_ble_eq_true rfl) ?_
      refine x_aload_n C0 dL_law_443 rfl ?_
      refine x_aload_n C0 dL_law_444 rfl ?_
      refine x_iload_n C0 dL_law_445 rfl ?_
      refine x_iconst C0 (v := nI 1) dL_law_446 (by decide) ?_
      refine x_iadd C0 dL_law_447 ?_
      refine y_sld C (lw_ix 1 h5 (by decide) hlen) dL_law_448 ?_
      refine x_aload_n C0 dL_law_449 rfl ?_
      refine x_iload_n C0 dL_law_450 rfl ?_
      refine x_iconst C0 (v := nI 2) dL_law_451 (by decide) ?_
      refine x_iadd C0 dL_law_452 ?_
      refine y_sld C (lw_ix 2 h5 (by decide) hlen) dL_law_453 ?_
      refine y_callMi C (k_mo_order N (xs (nI j + nI 1).toNatClampNeg) (xs (nI j + nI 2).toNatClampNeg) hm) umL_71 ui_X7_order us_X7_order uc_X7_order hv_X7_order rfl (by decide) dL_law_454 (rest := [.int v]) rfl (Nat.le_of_ble_eq_true rfl) ?_
      refine y_eq C0 (tgt := 815) dL_law_457 (by decide) ?_
      exact hnext c1 m1 hR1
    refine y_by 14 (fun q => ?_) (fun q14 => ?_)
    · refine x_tab C0 (tgt := 462) dL_law_32 q (by decide) (by decide) rfl (by decide) ?_
      obtain ⟨v, c1, m1, hc, hm, hR1⟩ := h_lastOne  σc σm hR
      refine x_aload_n C0 dL_law_462 rfl ?_
      refine y_callCi C (k_wb_lastOne N  hc) umL_72 ui_X6_lastOne us_X6_lastOne uc_X6_lastOne hv_X6_lastOne rfl (by decide) dL_law_463 (rest := []) rfl (Nat.le_of_ble_eq_true rfl) ?_
      refine x_aload_n C0 dL_law_466 rfl ?_
      refine y_callMi C (k_mo_lastOne N  hm) umL_75 ui_X7_lastOne us_X7_lastOne uc_X7_lastOne hv_X7_lastOne rfl (by decide) dL_law_467 (rest := [.int v]) rfl (Nat.le_of_ble_eq_true rfl) ?_
      refine y_eq C0 (tgt := 815) dL_law_470 (by decide) ?_
      exact hnext c1 m1 hR1
    refine y_by 15 (fun q => ?_) (fun q15 => ?_)
    · refine x_tab C0 (tgt := 475) dL_law_32 q (by decide) (by decide) rfl (by decide) ?_
      obtain ⟨v, c1, m1, hc, hm, hR1⟩ := h_crossings (xs (nI j + nI 1).toNatClampNeg) σc σm hR
      refine x_aload_n C0 dL_law_475 rfl ?_
      refine x_aload_n C0 dL_law_476 rfl ?_
      refine x_iload_n C0 dL_law_477 rfl ?_
      refine x_iconst C0 (v := nI 1) dL_law_478 (by decide) ?_
      refine x_iadd C0 dL_law_479 ?_
      refine y_sld C (lw_ix 1 h5 (by decide) hlen) dL_law_480 ?_
      refine y_callCi C (k_wb_crossings N (xs (nI j + nI 1).toNatClampNeg) hc) umL_76 ui_X6_crossings us_X6_crossings uc_X6_crossings hv_X6_crossings rfl (by decide) dL_law_481 (rest := []) rfl (Nat.le_of_ble_eq_true rfl) ?_
      refine x_aload_n C0 dL_law_484 rfl ?_
      refine x_aload_n C0 dL_law_485 rfl ?_
      refine x_iload_n C0 dL_law_486 rfl ?_
      refine x_iconst C0 (v := nI 1) dL_law_487 (by decide) ?_
      refine x_iadd C0 dL_law_488 ?_
      refine y_sld C (lw_ix 1 h5 (by decide) hlen) dL_law_489 ?_
      refine y_callMi C (k_mo_crossings N (xs (nI j + nI 1).toNatClampNeg) hm) umL_79 ui_X7_crossings us_X7_crossings uc_X7_crossings hv_X7_crossings rfl (by decide) dL_law_490 (rest := [.int v]) rfl (Nat.le_of_ble_eq_true rfl) ?_
      refine y_eq C0 (tgt := 815) dL_law_493 (by decide) ?_
      exact hnext c1 m1 hR1
    refine y_by 16 (fun q => ?_) (fun q16 => ?_)
    · refine x_tab C0 (tgt := 498) dL_law_32 q (by decide) (by decide) rfl (by decide) ?_
      obtain ⟨v, c1, m1, hc, hm, hR1⟩ := h_over (xs (nI j + nI 1).toNatClampNeg) σc σm hR
      refine x_aload_n C0 dL_law_498 rfl ?_
      refine x_aload_n C0 dL_law_499 rfl ?_
      refine x_iload_n C0 dL_law_500 rfl ?_
      refine x_iconst C0 (v := nI 1) dL_law_501 (by decide) ?_
      refine x_iadd C0 dL_law_502 ?_
      refine y_sld C (lw_ix 1 h5 (by decide) hlen) dL_law_503 ?_
      refine y_callCi C (k_wb_over N (xs (nI j + nI 1).toNatClampNeg) hc) umL_80 ui_X6_over us_X6_over uc_X6_over hv_X6_over rfl (by decide) dL_law_504 (rest := []) rfl (Nat.le_of_ble_eq_true rfl) ?_
      refine x_aload_n C0 dL_law_507 rfl ?_
      refine x_aload_n C0 dL_law_508 rfl ?_
      refine x_iload_n C0 dL_law_509 rfl ?_
      refine x_iconst C0 (v := nI 1) dL_law_510 (by decide) ?_
      refine x_iadd C0 dL_law_511 ?_
      refine y_sld C (lw_ix 1 h5 (by decide) hlen) dL_law_512 ?_
      refine y_callMi C (k_mo_over N (xs (nI j + nI 1).toNatClampNeg) hm) umL_83 ui_X7_over us_X7_over uc_X7_over hv_X7_over rfl (by decide) dL_law_513 (rest := [.int v]) rfl (Nat.le_of_ble_eq_true rfl) ?_
      refine y_eq C0 (tgt := 815) dL_law_516 (by decide) ?_
      exact hnext c1 m1 hR1
    refine y_by 17 (fun q => ?_) (fun q17 => ?_)
    · refine x_tab C0 (tgt := 521) dL_law_32 q (by decide) (by decide) rfl (by decide) ?_
      obtain ⟨v, c1, m1, hc, hm, hR1⟩ := h_mend (xs (nI j + nI 1).toNatClampNeg) (xs (nI j + nI 2).toNatClampNeg) σc σm hR
      refine x_aload_n C0 dL_law_521 rfl ?_
      refine x_aload_n C0 dL_law_522 rfl ?_
      refine x_iload_n C0 dL_law_523 rfl ?_
      refine x_iconst C0 (v := nI 1) dL_law_524 (by decide) ?_
      refine x_iadd C0 dL_law_525 ?_
      refine y_sld C (lw_ix 1 h5 (by decide) hlen) dL_law_526 ?_
      refine x_aload_n C0 dL_law_527 rfl ?_
      refine x_iload_n C0 dL_law_528 rfl ?_
      refine x_iconst C0 (v := nI 2) dL_law_529 (by decide) ?_
      refine x_iadd C0 dL_law_530 ?_
      refine y_sld C (lw_ix 2 h5 (by decide) hlen) dL_law_531 ?_
      refine y_callCi C (k_wb_mend N (xs (nI j + nI 1).toNatClampNeg) (xs (nI j + nI 2).toNatClampNeg) hc) umL_84 ui_X6_mend us_X6_mend uc_X6_mend hv_X6_mend rfl (by decide) dL_law_532 (rest := []) rfl (Nat.le_of_ble_eq_true rfl) ?_
      refine x_aload_n C0 dL_law_535 rfl ?_
      refine x_aload_n C0 dL_law_536 rfl ?_
      refine x_iload_n C0 dL_law_537 rfl ?_
      refine x_iconst C0 (v := nI 1) dL_law_538 (by decide) ?_
      refine x_iadd C0 dL_law_539 ?_
      refine y_sld C (lw_ix 1 h5 (by decide) hlen) dL_law_540 ?_
      refine x_aload_n C0 dL_law_541 rfl ?_
      refine x_iload_n C0 dL_law_542 rfl ?_
      refine x_iconst C0 (v := nI 2) dL_law_543 (by decide) ?_
      refine x_iadd C0 dL_law_544 ?_
      refine y_sld C (lw_ix 2 h5 (by decide) hlen) dL_law_545 ?_
      refine y_callMi C (k_mo_mend N (xs (nI j + nI 1).toNatClampNeg) (xs (nI j + nI 2).toNatClampNeg) hm) umL_87 ui_X7_mend us_X7_mend uc_X7_mend hv_X7_mend rfl (by decide) dL_law_546 (rest := [.int v]) rfl (Nat.le_of_ble_eq_true rfl) ?_
      refine y_eq C0 (tgt := 815) dL_law_549 (by decide) ?_
      exact hnext c1 m1 hR1
    refine y_by 18 (fun q => ?_) (fun q18 => ?_)
    · refine x_tab C0 (tgt := 554) dL_law_32 q (by decide) (by decide) rfl (by decide) ?_
      obtain ⟨v, c1, m1, hc, hm, hR1⟩ := h_odds (xs (nI j + nI 1).toNatClampNeg) (xs (nI j + nI 2).toNatClampNeg) (xs (nI j + nI 3).toNatClampNeg) (xs (nI j + nI 4).toNatClampNeg) σc σm hR
      refine x_aload_n C0 dL_law_554 rfl ?_
      refine x_aload_n C0 dL_law_555 rfl ?_
      refine x_iload_n C0 dL_law_556 rfl ?_
      refine x_iconst C0 (v := nI 1) dL_law_557 (by decide) ?_
      refine x_iadd C0 dL_law_558 ?_
      refine y_sld C (lw_ix 1 h5 (by decide) hlen) dL_law_559 ?_
      refine x_aload_n C0 dL_law_560 rfl ?_
      refine x_iload_n C0 dL_law_561 rfl ?_
      refine x_iconst C0 (v := nI 2) dL_law_562 (by decide) ?_
      refine x_iadd C0 dL_law_563 ?_
      refine y_sld C (lw_ix 2 h5 (by decide) hlen) dL_law_564 ?_
      refine x_aload_n C0 dL_law_565 rfl ?_
      refine x_iload_n C0 dL_law_566 rfl ?_
      refine x_iconst C0 (v := nI 3) dL_law_567 (by decide) ?_
      refine x_iadd C0 dL_law_568 ?_
      refine y_sld C (lw_ix 3 h5 (by decide) hlen) dL_law_569 ?_
      refine x_aload_n C0 dL_law_570 rfl ?_
      refine x_iload_n C0 dL_law_571 rfl ?_
      refine x_iconst C0 (v := nI 4) dL_law_572 (by decide) ?_
      refine x_iadd C0 dL_law_573 ?_
      refine y_sld C (lw_ix 4 h5 (by decide) hlen) dL_law_574 ?_
      refine y_callCi C (k_wb_odds N (xs (nI j + nI 1).toNatClampNeg) (xs (nI j + nI 2).toNatClampNeg) (xs (nI j + nI 3).toNatClampNeg) (xs (nI j + nI 4).toNatClampNeg) hc) umL_88 ui_X6_odds us_X6_odds uc_X6_odds hv_X6_odds rfl (by decide) dL_law_575 (rest := []) rfl (Nat.le_of_ble_eq_true rfl) ?_
      refine x_aload_n C0 dL_law_578 rfl ?_
      refine x_aload_n C0 dL_law_579 rfl ?_
      refine x_iload_n C0 dL_law_580 rfl ?_
      refine x_iconst C0 (v := nI 1) dL_law_581 (by decide) ?_
      refine x_iadd C0 dL_law_582 ?_
      refine y_sld C (lw_ix 1 h5 (by decide) hlen) dL_law_583 ?_
      refine x_aload_n C0 dL_law_584 rfl ?_
      refine x_iload_n C0 dL_law_585 rfl ?_
      refine x_iconst C0 (v := nI 2) dL_law_586 (by decide) ?_
      refine x_iadd C0 dL_law_587 ?_
      refine y_sld C (lw_ix 2 h5 (by decide) hlen) dL_law_588 ?_
      refine x_aload_n C0 dL_law_589 rfl ?_
      refine x_iload_n C0 dL_law_590 rfl ?_
      refine x_iconst C0 (v := nI 3) dL_law_591 (by decide) ?_
      refine x_iadd C0 dL_law_592 ?_
      refine y_sld C (lw_ix 3 h5 (by decide) hlen) dL_law_593 ?_
      refine x_aload_n C0 dL_law_594 rfl ?_
      refine x_iload_n C0 dL_law_595 rfl ?_
      refine x_iconst C0 (v := nI 4) dL_law_596 (by decide) ?_
      refine x_iadd C0 dL_law_597 ?_
      refine y_sld C (lw_ix 4 h5 (by decide) hlen) dL_law_598 ?_
      refine y_callMi C (k_mo_odds N (xs (nI j + nI 1).toNatClampNeg) (xs (nI j + nI 2).toNatClampNeg) (xs (nI j + nI 3).toNatClampNeg) (xs (nI j + nI 4).toNatClampNeg) hm) umL_92 ui_X7_odds us_X7_odds uc_X7_odds hv_X7_odds rfl (by decide) dL_law_599 (rest := [.int v]) rfl (Nat.le_of_ble_eq_true rfl) ?_
      refine y_eq C0 (tgt := 815) dL_law_602 (by decide) ?_
      exact hnext c1 m1 hR1
    refine y_by 19 (fun q => ?_) (fun q19 => ?_)
    · refine x_tab C0 (tgt := 607) dL_law_32 q (by decide) (by decide) rfl (by decide) ?_
      obtain ⟨v, c1, m1, hc, hm, hR1⟩ := h_plumbs (xs (nI j + nI 1).toNatClampNeg) (xs (nI j + nI 2).toNatClampNeg) σc σm hR
      refine x_aload_n C0 dL_law_607 rfl ?_
      refine x_aload_n C0 dL_law_608 rfl ?_
      refine x_iload_n C0 dL_law_609 rfl ?_
      refine x_iconst C0 (v := nI 1) dL_law_610 (by decide) ?_
      refine x_iadd C0 dL_law_611 ?_
      refine y_sld C (lw_ix 1 h5 (by decide) hlen) dL_law_612 ?_
      refine x_aload_n C0 dL_law_613 rfl ?_
      refine x_iload_n C0 dL_law_614 rfl ?_
      refine x_iconst C0 (v := nI 2) dL_law_615 (by decide) ?_
      refine x_iadd C0 dL_law_616 ?_
      refine y_sld C (lw_ix 2 h5 (by decide) hlen) dL_law_617 ?_
      refine y_callCi C (k_wb_plumbs N (xs (nI j + nI 1).toNatClampNeg) (xs (nI j + nI 2).toNatClampNeg) hc) umL_93 ui_X6_plumbs us_X6_plumbs uc_X6_plumbs hv_X6_plumbs rfl (by decide) dL_law_618 (rest := []) rfl (Nat.le_of_ble_eq_true rfl) ?_
      refine x_aload_n C0 dL_law_621 rfl ?_
      refine x_aload_n C0 dL_law_622 rfl ?_
      refine x_iload_n C0 dL_law_623 rfl ?_
      refine x_iconst C0 (v := nI 1) dL_law_624 (by decide) ?_
      refine x_iadd C0 dL_law_625 ?_
      refine y_sld C (lw_ix 1 h5 (by decide) hlen) dL_law_626 ?_
      refine x_aload_n C0 dL_law_627 rfl ?_
      refine x_iload_n C0 dL_law_628 rfl ?_
      refine x_iconst C0 (v := nI 2) dL_law_629 (by decide) ?_
      refine x_iadd C0 dL_law_630 ?_
      refine y_sld C (lw_ix 2 h5 (by decide) hlen) dL_law_631 ?_
      refine y_callMi C (k_mo_plumbs N (xs (nI j + nI 1).toNatClampNeg) (xs (nI j + nI 2).toNatClampNeg) hm) umL_96 ui_X7_plumbs us_X7_plumbs uc_X7_plumbs hv_X7_plumbs rfl (by decide) dL_law_632 (rest := [.int v]) rfl (Nat.le_of_ble_eq_true rfl) ?_
      refine y_eq C0 (tgt := 815) dL_law_635 (by decide) ?_
      exact hnext c1 m1 hR1
    refine y_by 20 (fun q => ?_) (fun q20 => ?_)
    · refine x_tab C0 (tgt := 640) dL_law_32 q (by decide) (by decide) rfl (by decide) ?_
      obtain ⟨v, c1, m1, hc, hm, hR1⟩ := h_forget  σc σm hR
      refine x_aload_n C0 dL_law_640 rfl ?_
      refine y_callCi C (k_wb_forget N  hc) umL_97 ui_X6_forget us_X6_forget uc_X6_forget hv_X6_forget rfl (by decide) dL_law_641 (rest := []) rfl (Nat.le_of_ble_eq_true rfl) ?_
      refine x_aload_n C0 dL_law_644 rfl ?_
      refine y_callMi C (k_mo_forget N  hm) umL_100 ui_X7_forget us_X7_forget uc_X7_forget hv_X7_forget rfl (by decide) dL_law_645 (rest := [.int v]) rfl (Nat.le_of_ble_eq_true rfl) ?_
      refine y_eq C0 (tgt := 815) dL_law_648 (by decide) ?_
      exact hnext c1 m1 hR1
    refine y_by 21 (fun q => ?_) (fun q21 => ?_)
    · refine x_tab C0 (tgt := 653) dL_law_32 q (by decide) (by decide) rfl (by decide) ?_
      obtain ⟨v, c1, m1, hc, hm, hR1⟩ := h_drew (xs (nI j + nI 1).toNatClampNeg) σc σm hR
      refine x_aload_n C0 dL_law_653 rfl ?_
      refine x_aload_n C0 dL_law_654 rfl ?_
      refine x_iload_n C0 dL_law_655 rfl ?_
      refine x_iconst C0 (v := nI 1) dL_law_656 (by decide) ?_
      refine x_iadd C0 dL_law_657 ?_
      refine y_sld C (lw_ix 1 h5 (by decide) hlen) dL_law_658 ?_
      refine y_callCi C (k_wb_drew N (xs (nI j + nI 1).toNatClampNeg) hc) umL_101 ui_X6_drew us_X6_drew uc_X6_drew hv_X6_drew rfl (by decide) dL_law_659 (rest := []) rfl (Nat.le_of_ble_eq_true rfl) ?_
      refine x_aload_n C0 dL_law_662 rfl ?_
      refine x_aload_n C0 dL_law_663 rfl ?_
      refine x_iload_n C0 dL_law_664 rfl ?_
      refine x_iconst C0 (v := nI 1) dL_law_665 (by decide) ?_
      refine x_iadd C0 dL_law_666 ?_
      refine y_sld C (lw_ix 1 h5 (by decide) hlen) dL_law_667 ?_
      refine y_callMi C (k_mo_drew N (xs (nI j + nI 1).toNatClampNeg) hm) umL_104 ui_X7_drew us_X7_drew uc_X7_drew hv_X7_drew rfl (by decide) dL_law_668 (rest := [.int v]) rfl (Nat.le_of_ble_eq_true rfl) ?_
      refine y_eq C0 (tgt := 815) dL_law_671 (by decide) ?_
      exact hnext c1 m1 hR1
    refine y_by 22 (fun q => ?_) (fun q22 => ?_)
    · refine x_tab C0 (tgt := 676) dL_law_32 q (by decide) (by decide) rfl (by decide) ?_
      obtain ⟨v, c1, m1, hc, hm, hR1⟩ := h_night (xs (nI j + nI 1).toNatClampNeg) σc σm hR
      refine x_aload_n C0 dL_law_676 rfl ?_
      refine x_aload_n C0 dL_law_677 rfl ?_
      refine x_iload_n C0 dL_law_678 rfl ?_
      refine x_iconst C0 (v := nI 1) dL_law_679 (by decide) ?_
      refine x_iadd C0 dL_law_680 ?_
      refine y_sld C (lw_ix 1 h5 (by decide) hlen) dL_law_681 ?_
      refine y_callCi C (k_wb_night N (xs (nI j + nI 1).toNatClampNeg) hc) umL_105 ui_X6_night us_X6_night uc_X6_night hv_X6_night rfl (by decide) dL_law_682 (rest := []) rfl (Nat.le_of_ble_eq_true rfl) ?_
      refine x_aload_n C0 dL_law_685 rfl ?_
      refine x_aload_n C0 dL_law_686 rfl ?_
      refine x_iload_n C0 dL_law_687 rfl ?_
      refine x_iconst C0 (v := nI 1) dL_law_688 (by decide) ?_
      refine x_iadd C0 dL_law_689 ?_
      refine y_sld C (lw_ix 1 h5 (by decide) hlen) dL_law_690 ?_
      refine y_callMi C (k_mo_night N (xs (nI j + nI 1).toNatClampNeg) hm) umL_108 ui_X7_night us_X7_night uc_X7_night hv_X7_night rfl (by decide) dL_law_691 (rest := [.int v]) rfl (Nat.le_of_ble_eq_true rfl) ?_
      refine y_eq C0 (tgt := 815) dL_law_694 (by decide) ?_
      exact hnext c1 m1 hR1
    refine y_by 23 (fun q => ?_) (fun q23 => ?_)
    · refine x_tab C0 (tgt := 699) dL_law_32 q (by decide) (by decide) rfl (by decide) ?_
      obtain ⟨v, c1, m1, hc, hm, hR1⟩ := h_mark (xs (nI j + nI 1).toNatClampNeg) (xs (nI j + nI 2).toNatClampNeg) σc σm hR
      refine x_aload_n C0 dL_law_699 rfl ?_
      refine x_aload_n C0 dL_law_700 rfl ?_
      refine x_iload_n C0 dL_law_701 rfl ?_
      refine x_iconst C0 (v := nI 1) dL_law_702 (by decide) ?_
      refine x_iadd C0 dL_law_703 ?_
      refine y_sld C (lw_ix 1 h5 (by decide) hlen) dL_law_704 ?_
      refine x_aload_n C0 dL_law_705 rfl ?_
      refine x_iload_n C0 dL_law_706 rfl ?_
      refine x_iconst C0 (v := nI 2) dL_law_707 (by decide) ?_
      refine x_iadd C0 dL_law_708 ?_
      refine y_sld C (lw_ix 2 h5 (by decide) hlen) dL_law_709 ?_
      refine y_callCi C (k_wb_mark N (xs (nI j + nI 1).toNatClampNeg) (xs (nI j + nI 2).toNatClampNeg) hc) umL_109 ui_X6_mark us_X6_mark uc_X6_mark hv_X6_mark rfl (by decide) dL_law_710 (rest := []) rfl (Nat.le_of_ble_eq_true rfl) ?_
      refine x_aload_n C0 dL_law_713 rfl ?_
      refine x_aload_n C0 dL_law_714 rfl ?_
      refine x_iload_n C0 dL_law_715 rfl ?_
      refine x_iconst C0 (v := nI 1) dL_law_716 (by decide) ?_
      refine x_iadd C0 dL_law_717 ?_
      refine y_sld C (lw_ix 1 h5 (by decide) hlen) dL_law_718 ?_
      refine x_aload_n C0 dL_law_719 rfl ?_
      refine x_iload_n C0 dL_law_720 rfl ?_
      refine x_iconst C0 (v := nI 2) dL_law_721 (by decide) ?_
      refine x_iadd C0 dL_law_722 ?_
      refine y_sld C (lw_ix 2 h5 (by decide) hlen) dL_law_723 ?_
      refine y_callMi C (k_mo_mark N (xs (nI j + nI 1).toNatClampNeg) (xs (nI j + nI 2).toNatClampNeg) hm) umL_112 ui_X7_mark us_X7_mark uc_X7_mark hv_X7_mark rfl (by decide) dL_law_724 (rest := [.int v]) rfl (Nat.le_of_ble_eq_true rfl) ?_
      refine y_eq C0 (tgt := 815) dL_law_727 (by decide) ?_
      exact hnext c1 m1 hR1
    refine y_by 24 (fun q => ?_) (fun q24 => ?_)
    · refine x_tab C0 (tgt := 732) dL_law_32 q (by decide) (by decide) rfl (by decide) ?_
      obtain ⟨v, c1, m1, hc, hm, hR1⟩ := h_keep (xs (nI j + nI 1).toNatClampNeg) σc σm hR
      refine x_aload_n C0 dL_law_732 rfl ?_
      refine x_aload_n C0 dL_law_733 rfl ?_
      refine x_iload_n C0 dL_law_734 rfl ?_
      refine x_iconst C0 (v := nI 1) dL_law_735 (by decide) ?_
      refine x_iadd C0 dL_law_736 ?_
      refine y_sld C (lw_ix 1 h5 (by decide) hlen) dL_law_737 ?_
      refine y_callCi C (k_wb_keep N (xs (nI j + nI 1).toNatClampNeg) hc) umL_113 ui_X6_keep us_X6_keep uc_X6_keep hv_X6_keep rfl (by decide) dL_law_738 (rest := []) rfl (Nat.le_of_ble_eq_true rfl) ?_
      refine x_aload_n C0 dL_law_741 rfl ?_
      refine x_aload_n C0 dL_law_742 rfl ?_
      refine x_iload_n C0 dL_law_743 rfl ?_
      refine x_iconst C0 (v := nI 1) dL_law_744 (by decide) ?_
      refine x_iadd C0 dL_law_745 ?_
      refine y_sld C (lw_ix 1 h5 (by decide) hlen) dL_law_746 ?_
      refine y_callMi C (k_mo_keep N (xs (nI j + nI 1).toNatClampNeg) hm) umL_116 ui_X7_keep us_X7_keep uc_X7_keep hv_X7_keep rfl (by decide) dL_law_747 (rest := [.int v]) rfl (Nat.le_of_ble_eq_true rfl) ?_
      refine y_eq C0 (tgt := 815) dL_law_750 (by decide) ?_
      exact hnext c1 m1 hR1
    refine y_by 25 (fun q => ?_) (fun q25 => ?_)
    · refine x_tab C0 (tgt := 755) dL_law_32 q (by decide) (by decide) rfl (by decide) ?_
      obtain ⟨v, c1, m1, hc, hm, hR1⟩ := h_back (xs (nI j + nI 1).toNatClampNeg) σc σm hR
      refine x_aload_n C0 dL_law_755 rfl ?_
      refine x_aload_n C0 dL_law_756 rfl ?_
      refine x_iload_n C0 dL_law_757 rfl ?_
      refine x_iconst C0 (v := nI 1) dL_law_758 (by decide) ?_
      refine x_iadd C0 dL_law_759 ?_
      refine y_sld C (lw_ix 1 h5 (by decide) hlen) dL_law_760 ?_
      refine y_callCi C (k_wb_back N (xs (nI j + nI 1).toNatClampNeg) hc) umL_117 ui_X6_back us_X6_back uc_X6_back hv_X6_back rfl (by decide) dL_law_761 (rest := []) rfl (Nat.le_of_ble_eq_true rfl) ?_
      refine x_aload_n C0 dL_law_764 rfl ?_
      refine x_aload_n C0 dL_law_765 rfl ?_
      refine x_iload_n C0 dL_law_766 rfl ?_
      refine x_iconst C0 (v := nI 1) dL_law_767 (by decide) ?_
      refine x_iadd C0 dL_law_768 ?_
      refine y_sld C (lw_ix 1 h5 (by decide) hlen) dL_law_769 ?_
      refine y_callMi C (k_mo_back N (xs (nI j + nI 1).toNatClampNeg) hm) umL_120 ui_X7_back us_X7_back uc_X7_back hv_X7_back rfl (by decide) dL_law_770 (rest := [.int v]) rfl (Nat.le_of_ble_eq_true rfl) ?_
      refine y_eq C0 (tgt := 815) dL_law_773 (by decide) ?_
      exact hnext c1 m1 hR1
    refine y_by 26 (fun q => ?_) (fun q26 => ?_)
    · refine x_tab C0 (tgt := 778) dL_law_32 q (by decide) (by decide) rfl (by decide) ?_
      obtain ⟨v, c1, m1, hc, hm, hR1⟩ := h_count (xs (nI j + nI 1).toNatClampNeg) σc σm hR
      refine x_aload_n C0 dL_law_778 rfl ?_
      refine x_aload_n C0 dL_law_779 rfl ?_
      refine x_iload_n C0 dL_law_780 rfl ?_
      refine x_iconst C0 (v := nI 1) dL_law_781 (by decide) ?_
      refine x_iadd C0 dL_law_782 ?_
      refine y_sld C (lw_ix 1 h5 (by decide) hlen) dL_law_783 ?_
      refine y_callCi C (k_wb_count N (xs (nI j + nI 1).toNatClampNeg) hc) umL_121 ui_X6_count us_X6_count uc_X6_count hv_X6_count rfl (by decide) dL_law_784 (rest := []) rfl (Nat.le_of_ble_eq_true rfl) ?_
      refine x_aload_n C0 dL_law_787 rfl ?_
      refine x_aload_n C0 dL_law_788 rfl ?_
      refine x_iload_n C0 dL_law_789 rfl ?_
      refine x_iconst C0 (v := nI 1) dL_law_790 (by decide) ?_
      refine x_iadd C0 dL_law_791 ?_
      refine y_sld C (lw_ix 1 h5 (by decide) hlen) dL_law_792 ?_
      refine y_callMi C (k_mo_count N (xs (nI j + nI 1).toNatClampNeg) hm) umL_124 ui_X7_count us_X7_count uc_X7_count hv_X7_count rfl (by decide) dL_law_793 (rest := [.int v]) rfl (Nat.le_of_ble_eq_true rfl) ?_
      refine y_eq C0 (tgt := 815) dL_law_796 (by decide) ?_
      exact hnext c1 m1 hR1
    refine y_by 27 (fun q => ?_) (fun q27 => ?_)
    · refine x_tab C0 (tgt := 801) dL_law_32 q (by decide) (by decide) rfl (by decide) ?_
      obtain ⟨v, c1, m1, hc, hm, hR1⟩ := h_trace  σc σm hR
      refine x_aload_n C0 dL_law_801 rfl ?_
      refine y_callCl C (k_wb_trace N  hc) umL_125 ui_X6_trace us_X6_trace uc_X6_trace hv_X6_trace rfl (by decide) dL_law_802 (rest := []) rfl (Nat.le_of_ble_eq_true rfl) ?_
      refine x_aload_n C0 dL_law_805 rfl ?_
      refine y_callMl C (k_mo_trace N  hm) umL_129 ui_X7_trace us_X7_trace uc_X7_trace hv_X7_trace rfl (by decide) dL_law_806 (rest := [.long v]) rfl (Nat.le_of_ble_eq_true rfl) ?_
      refine x_lcmp C0 dL_law_809 ?_
      refine y_eq0 C0 (lw_cmp v) (tgt := 815) dL_law_810 (by decide) ?_
      exact hnext c1 m1 hR1
    have ht : (xs (nI j).toNatClampNeg &&& 31).toInt = (kk : Int) := by rw [he]; exact nI_toInt (by omega)
    have g0 := lv_neT q0 (show (0 : Int32).toInt = 0 from rfl)
    have g1 := lv_neT q1 (show (1 : Int32).toInt = 1 from rfl)
    have g2 := lv_neT q2 (show (2 : Int32).toInt = 2 from rfl)
    have g3 := lv_neT q3 (show (3 : Int32).toInt = 3 from rfl)
    have g4 := lv_neT q4 (show (4 : Int32).toInt = 4 from rfl)
    have g5 := lv_neT q5 (show (5 : Int32).toInt = 5 from rfl)
    have g6 := lv_neT q6 (show (6 : Int32).toInt = 6 from rfl)
    have g7 := lv_neT q7 (show (7 : Int32).toInt = 7 from rfl)
    have g8 := lv_neT q8 (show (8 : Int32).toInt = 8 from rfl)
    have g9 := lv_neT q9 (show (9 : Int32).toInt = 9 from rfl)
    have g10 := lv_neT q10 (show (10 : Int32).toInt = 10 from rfl)
    have g11 := lv_neT q11 (show (11 : Int32).toInt = 11 from rfl)
    have g12 := lv_neT q12 (show (12 : Int32).toInt = 12 from rfl)
    have g13 := lv_neT q13 (show (13 : Int32).toInt = 13 from rfl)
    have g14 := lv_neT q14 (show (14 : Int32).toInt = 14 from rfl)
    have g15 := lv_neT q15 (show (15 : Int32).toInt = 15 from rfl)
    have g16 := lv_neT q16 (show (16 : Int32).toInt = 16 from rfl)
    have g17 := lv_neT q17 (show (17 : Int32).toInt = 17 from rfl)
    have g18 := lv_neT q18 (show (18 : Int32).toInt = 18 from rfl)
    have g19 := lv_neT q19 (show (19 : Int32).toInt = 19 from rfl)
    have g20 := lv_neT q20 (show (20 : Int32).toInt = 20 from rfl)
    have g21 := lv_neT q21 (show (21 : Int32).toInt = 21 from rfl)
    have g22 := lv_neT q22 (show (22 : Int32).toInt = 22 from rfl)
    have g23 := lv_neT q23 (show (23 : Int32).toInt = 23 from rfl)
    have g24 := lv_neT q24 (show (24 : Int32).toInt = 24 from rfl)
    have g25 := lv_neT q25 (show (25 : Int32).toInt = 25 from rfl)
    have g26 := lv_neT q26 (show (26 : Int32).toInt = 26 from rfl)
    have g27 := lv_neT q27 (show (27 : Int32).toInt = 27 from rfl)
    refine x_tabD C0 (tgt := 815) dL_law_32 (by omega) (by decide) ?_
    exact hnext σc σm hR
