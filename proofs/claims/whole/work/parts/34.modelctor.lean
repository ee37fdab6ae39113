theorem x_callVc {Γ : Gx St} {cc : ByteArray} {own : String} {cA : Nat → ClassId} {fr lo n : Nat} {l : Launch} {D : va_G} {π : Nat → Nat} {shs : List Sh} {σ : St} {pc : Nat} {L : List (Nat × Value)} {stk : List Value} (C : Cx Γ cc own cA fr lo n ∧ Γ.1.2.1 = l ∧ Γ.2.1 = D ∧ Γ.2.2.1 = lay cA π shs) {y : MethodName} {cy : ByteArray} {maxL f' l' i k ci N z : Nat} {ret : Option FieldType} {As rest : List Value} {ov : Option Value} {σ' : St} {T : u_T} {C' : String} {fks : List Nat} (K : Kt l D cA π shs y cy maxL ret f' l' (.ref (π k) :: As) σ ov σ')
    (hu : Cond.methodLink own i y ∈ UW) (hi : Cond.instanceMethod y ∈ UW) (hs : Cond.selects C' y y ∈ UW) (hn : Cond.initialized C' ∈ UW) (hc : Cond.code y cy maxL ret ∈ UW)
    (hy : y.cls = C' ∧ y.cls ≠ "java/lang/invoke/MethodHandle" ∧ y.cls ≠ "java/lang/invoke/VarHandle" ∧ (parseMethodDescriptor y.desc).map (fun d => d.parameters.length) = some z) (hz : As.length = z) (hr : f' + 1 ≤ fr ∧ 8 + (maxL + 11) + l' ≤ lo)
    (hsh : shs[k]? = some (.inl (ci, fks))) (hcl : vwCl[ci]? = some (C', T, N)) (hd : decode cc pc = .ok (.invokevirtual i, 3)) (hst : stk = As.reverse ++ .ref (π k) :: rest) (hw : (rest.map fun v => v.category).sum ≤ 8)
    (kk : Wx Γ σ' (pc + 3) L (ov.toList ++ rest)) : Wx Γ σ pc L stk := by
  obtain ⟨⟨p, l', e, R, s, m, args, below, meth, c⟩, ⟨D', w, A, nL, cs, ss, Q⟩⟩ := Γ
  obtain ⟨⟨hx, hb, hml, hnn, hown, hts, hK, hD, hN, hA, h1, h2, h3, h4⟩, e1, e2, e3⟩ := C
  dsimp only at e1 e2 e3
  subst e1; subst e2; subst e3
  intro H locs ls hP hS hl
  obtain ⟨hy1, hy2⟩ := hy
  have hAx : ∀ q, Ax π shs H.size q → A q := fun q h => by
    rcases h with ⟨k', hk', rfl⟩ | h
    · exact lay_in (hD σ) hk'
    · exact hA q (Nat.le_trans hS.1 h)
  refine run_W (va_runV (As := As) (rest := rest) ⟨hx, hb, hml, hown, hts⟩ (K H.size) ⟨callB_of z hts (uw_in hc) rfl rfl rfl (by rw [hy1]; exact hts _ hn) (hts _ hu) hy2 ⟨Nat.le_trans hr.1 h1, Nat.le_trans hr.2 h2⟩, hts _ hi, hts _ hs⟩ ⟨Px.blind, va_recv hK hP hcl (lay_at hsh), fun U hU hW => ⟨rfl, by rw [hU], by rw [hU]; exact hP, va_K.moved hW.alike hK, (hD σ).weaken (fun _ _ _ _ => trivial), hN.warm hW⟩⟩ rfl hz hl.1 hst (lv_room hw) hd ⟨h3, h4⟩) hS hAx hAx (fun H1 locs1 hP1 hz1 hk1 hS1 => ?_)
  exact kk H1 locs1 ls hP1 hS1 hl

def Gs (Γ : Go) (cA : Nat → ClassId) (π : Nat → Nat) (shs : List Sh) (cs ss : Nat) : Gx St := (Γ.1, (Γ.2.1, lay cA π shs, Γ.2.2.1, Γ.2.2.2.1, cs, ss, Γ.2.2.2.2))
theorem wx_sw {Γ : Go} {cA : Nat → ClassId} {π : Nat → Nat} {shs : List Sh} {σ : St} {cs ss pc : Nat} {L : List (Nat × Value)} {stk : List Value} (h : Wx (Gs Γ cA π shs cs ss) σ pc L stk) : Wx (Gw Γ (lay cA π shs σ) cs ss) () pc L stk := by
  obtain ⟨⟨p, l, e, R, s, m, args, below, meth, c⟩, ⟨D, A, nL, Q⟩⟩ := Γ
  exact h
theorem wx_ws {Γ : Go} {cA : Nat → ClassId} {π : Nat → Nat} {shs : List Sh} {σ : St} {cs ss pc : Nat} {L : List (Nat × Value)} {stk : List Value} (h : Wx (Gw Γ (lay cA π shs σ) cs ss) () pc L stk) : Wx (Gs Γ cA π shs cs ss) σ pc L stk := by
  obtain ⟨⟨p, l, e, R, s, m, args, below, meth, c⟩, ⟨D, A, nL, Q⟩⟩ := Γ
  exact h
theorem co_sw {Γ : Go} {cc : ByteArray} {own : String} {cA : Nat → ClassId} {fr lo n mc ms : Nat} {π : Nat → Nat} {shs : List Sh} {σ : St} {cs ss : Nat} (C : Co Γ cc own cA fr lo n mc ms (lay cA π shs σ) cs ss) : Cx (Gs Γ cA π shs cs ss) cc own cA fr lo n := by
  obtain ⟨⟨p, l, e, R, s, m, args, below, meth, c⟩, ⟨D, A, nL, Q⟩⟩ := Γ
  obtain ⟨⟨hx, hb, hml, hn, hown, hts, hK, hD, hN, hA, g1, g2, g3, g4⟩, -⟩ := C
  exact ⟨hx, hb, hml, hn, hown, hts, hK, fun σ' => lay_D (hD ()), hN, hA, g1, g2, g3, g4⟩
theorem co_to {Γ : Go} {cc : ByteArray} {own : String} {cA : Nat → ClassId} {fr lo n mc ms : Nat} {π : Nat → Nat} {shs : List Sh} {σ σ' : St} {cs ss : Nat} (C : Co Γ cc own cA fr lo n mc ms (lay cA π shs σ) cs ss) (h1 : cs ≤ mc) (h2 : ss ≤ ms) : Co Γ cc own cA fr lo n mc ms (lay cA π shs σ') cs ss := by
  have hD : va_D Γ.2.2.1 (lay cA π shs σ) := by
    obtain ⟨⟨p, l, e, R, s, m, args, below, meth, c⟩, ⟨D, A, nL, Q⟩⟩ := Γ
    exact C.1.2.2.2.2.2.2.2.1 ()
  exact C.grow (lay_D hD) h1 h2
abbrev fsX7 : List Value := [.long 0, .null, .int 0, .null, .null, .null, .null, .null, .null, .int 0, .int 0, .int 0, .int 0, .int 0, .null]
set_option maxRecDepth 20000 in
set_option maxHeartbeats 4000000 in
theorem i_X7 {l : Launch} {D : va_G} {cA : Nat → ClassId} (N : Nat) {v1 : Int32} {σ1 σM : St} (h1 : mo_reads N zS = some (v1, σ1)) (h2 : mo_tells N σ1 = some σM) : KI l D cA yX7_init cX7_init 1 7 152 8 3772 7 fsX7 shM σM := by
  refine KI.of (by decide) rfl (by decide) (fun Γ h0 hl hD C hend => ?_)
  have C : Co Γ cX7_init RX7 cA 7 152 1 8 3772 [(h0, .inr (7, fsX7))] 0 0 := C
  refine x_aload_n C.1 dX7_init_0 rfl ?_
  refine n_oinit C umX7_1 dX7_init_1 (Nat.le_of_ble_eq_true rfl) (Nat.le_of_ble_eq_true rfl) ?_
  refine x_aload_n C.1 dX7_init_4 rfl ?_
  refine x_sipush C.1 (v := 200) dX7_init_5 (by decide) ?_
  refine n_newI C (N := 200) (by decide) rfl (by decide) (by decide) (by decide) dX7_init_8 (fun q1 C => ?_)
  refine n_putF C (T := TX7) (N := 15) (ci := 7) (j := 1) 0 ufX7_7 uwX7 tyX7 tyX7_ok nmX7 rfl (by decide) rfl rfl rfl rfl rfl rfl rfl (Nat.le_of_ble_eq_true rfl) dX7_init_10 (fun C => ?_)
  refine x_aload_n C.1 dX7_init_13 rfl ?_
  refine x_bipush C.1 (v := 58) dX7_init_14 (by decide) ?_
  refine n_newI C (N := 58) (by decide) rfl (by decide) (by decide) (by decide) dX7_init_16 (fun q2 C => ?_)
  refine n_putF C (T := TX7) (N := 15) (ci := 7) (j := 3) 0 ufX7_13 uwX7 tyX7 tyX7_ok nmX7 rfl (by decide) rfl rfl rfl rfl rfl rfl rfl (Nat.le_of_ble_eq_true rfl) dX7_init_18 (fun C => ?_)
  refine x_aload_n C.1 dX7_init_21 rfl ?_
  refine x_bipush C.1 (v := 59) dX7_init_22 (by decide) ?_
  refine n_newI C (N := 59) (by decide) rfl (by decide) (by decide) (by decide) dX7_init_24 (fun q3 C => ?_)
  refine n_putF C (T := TX7) (N := 15) (ci := 7) (j := 4) 0 ufX7_16 uwX7 tyX7 tyX7_ok nmX7 rfl (by decide) rfl rfl rfl rfl rfl rfl rfl (Nat.le_of_ble_eq_true rfl) dX7_init_26 (fun C => ?_)
  refine x_aload_n C.1 dX7_init_29 rfl ?_
  refine x_sipush C.1 (v := 1108) dX7_init_30 (by decide) ?_
  refine n_newI C (N := 1108) (by decide) rfl (by decide) (by decide) (by decide) dX7_init_33 (fun q4 C => ?_)
  refine n_putF C (T := TX7) (N := 15) (ci := 7) (j := 5) 0 ufX7_19 uwX7 tyX7 tyX7_ok nmX7 rfl (by decide) rfl rfl rfl rfl rfl rfl rfl (Nat.le_of_ble_eq_true rfl) dX7_init_35 (fun C => ?_)
  refine x_aload_n C.1 dX7_init_38 rfl ?_
  refine x_sipush C.1 (v := 2216) dX7_init_39 (by decide) ?_
  refine n_newI C (N := 2216) (by decide) rfl (by decide) (by decide) (by decide) dX7_init_42 (fun q5 C => ?_)
  refine n_putF C (T := TX7) (N := 15) (ci := 7) (j := 6) 0 ufX7_22 uwX7 tyX7 tyX7_ok nmX7 rfl (by decide) rfl rfl rfl rfl rfl rfl rfl (Nat.le_of_ble_eq_true rfl) dX7_init_44 (fun C => ?_)
  refine x_aload_n C.1 dX7_init_47 rfl ?_
  refine x_iconst C.1 (v := 2) dX7_init_48 (by decide) ?_
  refine n_newZ C (N := 2) (by decide) rfl (by decide) (by decide) (by decide) dX7_init_49 (fun q6 C => ?_)
  refine n_putF C (T := TX7) (N := 15) (ci := 7) (j := 7) 0 ufX7_25 uwX7 tyX7 tyX7_ok nmX7 rfl (by decide) rfl rfl rfl rfl rfl rfl rfl (Nat.le_of_ble_eq_true rfl) dX7_init_51 (fun C => ?_)
  refine x_aload_n C.1 dX7_init_54 rfl ?_
  refine x_bipush C.1 (v := 6) dX7_init_55 (by decide) ?_
  refine n_newI C (N := 6) (by decide) rfl (by decide) (by decide) (by decide) dX7_init_57 (fun q7 C => ?_)
  refine n_putF C (T := TX7) (N := 15) (ci := 7) (j := 8) 0 ufX7_29 uwX7 tyX7 tyX7_ok nmX7 rfl (by decide) rfl rfl rfl rfl rfl rfl rfl (Nat.le_of_ble_eq_true rfl) dX7_init_59 (fun C => ?_)
  refine x_aload_n C.1 dX7_init_62 rfl ?_
  refine x_bipush C.1 (v := 123) dX7_init_63 (by decide) ?_
  refine n_newI C (N := 123) (by decide) rfl (by decide) (by decide) (by decide) dX7_init_65 (fun q8 C => ?_)
  refine n_putF C (T := TX7) (N := 15) (ci := 7) (j := 14) 0 ufX7_32 uwX7 tyX7 tyX7_ok nmX7 rfl (by decide) rfl rfl rfl rfl rfl rfl rfl (Nat.le_of_ble_eq_true rfl) dX7_init_67 (fun C => ?_)
  have C : Co Γ cX7_init RX7 cA 7 152 1 8 3772 [(h0, .inr (7, [.long 0, .ref q1, .int 0, .ref q2, .ref q3, .ref q4, .ref q5, .ref q6, .ref q7, .int 0, .int 0, .int 0, .int 0, .int 0, .ref q8])), (q1, .inl (cA 0, 200, .inl (fun _ => 0))), (q2, .inl (cA 0, 58, .inl (fun _ => 0))), (q3, .inl (cA 0, 59, .inl (fun _ => 0))), (q4, .inl (cA 0, 1108, .inl (fun _ => 0))), (q5, .inl (cA 0, 2216, .inl (fun _ => 0))), (q6, .inl (cA 1, 2, .inl (fun _ => 0))), (q7, .inl (cA 0, 6, .inl (fun _ => 0))), (q8, .inl (cA 0, 123, .inl (fun _ => 0)))] 8 3772 := C
  have he : ([(h0, .inr (7, [.long 0, .ref q1, .int 0, .ref q2, .ref q3, .ref q4, .ref q5, .ref q6, .ref q7, .int 0, .int 0, .int 0, .int 0, .int 0, .ref q8])), (q1, .inl (cA 0, 200, .inl (fun _ => 0))), (q2, .inl (cA 0, 58, .inl (fun _ => 0))), (q3, .inl (cA 0, 59, .inl (fun _ => 0))), (q4, .inl (cA 0, 1108, .inl (fun _ => 0))), (q5, .inl (cA 0, 2216, .inl (fun _ => 0))), (q6, .inl (cA 1, 2, .inl (fun _ => 0))), (q7, .inl (cA 0, 6, .inl (fun _ => 0))), (q8, .inl (cA 0, 123, .inl (fun _ => 0)))] : va_W) = lay cA (fun k => match k with | 0 => h0 | 1 => q1 | 2 => q2 | 3 => q3 | 4 => q4 | 5 => q5 | 6 => q6 | 7 => q7 | 8 => q8 | _ => 0) shM zS := rfl
  obtain ⟨π, hπ, hπe⟩ : ∃ π : Nat → Nat, π 0 = h0 ∧ π = (fun k => match k with | 0 => h0 | 1 => q1 | 2 => q2 | 3 => q3 | 4 => q4 | 5 => q5 | 6 => q6 | 7 => q7 | 8 => q8 | _ => 0) := ⟨_, rfl, rfl⟩
  rw [← hπe] at he
  rw [he] at C
  show Wx (Gw Γ [(h0, .inr (7, [.long 0, .ref q1, .int 0, .ref q2, .ref q3, .ref q4, .ref q5, .ref q6, .ref q7, .int 0, .int 0, .int 0, .int 0, .int 0, .ref q8])), (q1, .inl (cA 0, 200, .inl (fun _ => 0))), (q2, .inl (cA 0, 58, .inl (fun _ => 0))), (q3, .inl (cA 0, 59, .inl (fun _ => 0))), (q4, .inl (cA 0, 1108, .inl (fun _ => 0))), (q5, .inl (cA 0, 2216, .inl (fun _ => 0))), (q6, .inl (cA 1, 2, .inl (fun _ => 0))), (q7, .inl (cA 0, 6, .inl (fun _ => 0))), (q8, .inl (cA 0, 123, .inl (fun _ => 0)))] 8 3772) () 70 [(0, .ref h0)] []
  rw [he]
  refine wx_sw ?_
  have C0 := co_sw C
  have CF := C
  have CC : Cx (Gs Γ cA π shM 8 3772) cX7_init RX7 cA 7 152 1 ∧ (Gs Γ cA π shM 8 3772).1.2.1 = l ∧ (Gs Γ cA π shM 8 3772).2.1 = D ∧ (Gs Γ cA π shM 8 3772).2.2.1 = lay cA π shM := ⟨C0, hl, hD, rfl⟩
  subst hπ
  refine x_aload_n C0 dX7_init_70 rfl ?_
  refine x_callVc CC (k_mo_reads N h1) umX7_35 ui_X7_reads us_X7_reads un_X7 uc_X7_reads hv_X7_reads rfl (by decide) (k := 0) (ci := 7) rfl rfl dX7_init_71 (rest := []) rfl (Nat.le_of_ble_eq_true rfl) ?_
  show Wx (Gs Γ cA π shM 8 3772) σ1 74 [(0, .ref (π 0))] [.int v1]
  refine x_pop C0 rfl dX7_init_74 ?_
  refine x_aload_n C0 dX7_init_75 rfl ?_
  refine x_callVc CC (k_mo_tells N h2) umX7_39 ui_X7_tells us_X7_tells un_X7 uc_X7_tells hv_X7_tells rfl (by decide) (k := 0) (ci := 7) rfl rfl dX7_init_76 (rest := []) rfl (Nat.le_of_ble_eq_true rfl) ?_
  exact wx_ws (hend π 79 [(0, .ref (π 0))] rfl (co_to CF (by decide) (by decide)) dX7_init_79)
theorem hi_X7 : yX7_init.cls ≠ "java/lang/invoke/MethodHandle" ∧ yX7_init.cls ≠ "java/lang/invoke/VarHandle" ∧ (parseMethodDescriptor yX7_init.desc).map (fun d => d.parameters.length) = some 0 := by decide +kernel
