def mo_crosses (N : Nat) (a1 : Int32) (σ : St) : Option (Int32 × St) :=
  bd2 (mo_isPerson N a1 σ) fun v2 σ1 =>
  if v2 = 0 then (
    some ((-1), σ1))
  else (
    bd2 (mo_holds N a1 σ1) fun v4 σ3 =>
    if v4 = 0 then (
      some ((-2), σ3))
    else (
      bd1 (mo_keeps N  σ3) fun σ5 =>
      bd1 (mo_goesOver N a1 σ5) fun σ6 =>
      ck (inb 0 1108) (
      some ((σ6.1 4 (ix 0)), σ6))))
set_option maxRecDepth 20000 in
theorem k_mo_crosses {l : Launch} {D : va_G} {cA : Nat → ClassId} {π : Nat → Nat} (N : Nat) (a1 : Int32)  {σ : St} {vo : Int32} {σo : St} (h : mo_crosses N a1 σ = some (vo, σo)) : Kt l D cA π shM yX7_crosses cX7_crosses 2 (some .int) 3 67 [.ref (π 0), .int a1] σ (some (.int vo)) σo := by
  refine Kt.of (by decide) (Nat.le_of_ble_eq_true rfl) (L := [(0, .ref (π 0)), (1, .int a1)]) rfl (fun Γ C => ?_)
  have C0 := C.1
  unfold mo_crosses at h
  refine x_aload_n C0 dX7_crosses_0 rfl ?_
  refine x_iload_n C0 dX7_crosses_1 rfl ?_
  obtain ⟨v2, σ1, hc, h⟩ := bd2_some h
  refine x_callVi C (k_mo_isPerson N a1  hc) umX7_91 ui_X7_isPerson us_X7_isPerson un_X7 uc_X7_isPerson hv_X7_isPerson rfl (by decide) (fks := [1, 4, 0, 5, 6, 7, 8, 9, 10, 0, 0, 0, 0, 0, 11]) rfl rfl dX7_crosses_2 (rest := []) rfl (Nat.le_of_ble_eq_true rfl) ?_
  refine x_if_ne C0 (tgt := 10) dX7_crosses_5 (by decide) h (fun h => ?_) (fun h => ?_)
  · refine x_aload_n C0 dX7_crosses_10 rfl ?_
    refine x_iload_n C0 dX7_crosses_11 rfl ?_
    obtain ⟨v4, σ3, hc, h⟩ := bd2_some h
    refine x_callVi C (k_mo_holds N a1  hc) umX7_119 ui_X7_holds us_X7_holds un_X7 uc_X7_holds hv_X7_holds rfl (by decide) (fks := [1, 4, 0, 5, 6, 7, 8, 9, 10, 0, 0, 0, 0, 0, 11]) rfl rfl dX7_crosses_12 (rest := []) rfl (Nat.le_of_ble_eq_true rfl) ?_
    refine x_if_ne C0 (tgt := 21) dX7_crosses_15 (by decide) h (fun h => ?_) (fun h => ?_)
    · refine x_aload_n C0 dX7_crosses_21 rfl ?_
      obtain ⟨σ5, hc, h⟩ := bd1_some h
      refine x_callVv C (k_mo_keeps N  hc) umX7_122 ui_X7_keeps us_X7_keeps un_X7 uc_X7_keeps hv_X7_keeps rfl (by decide) (fks := [1, 4, 0, 5, 6, 7, 8, 9, 10, 0, 0, 0, 0, 0, 11]) rfl rfl dX7_crosses_22 (rest := []) rfl (Nat.le_of_ble_eq_true rfl) ?_
      refine x_aload_n C0 dX7_crosses_25 rfl ?_
      refine x_iload_n C0 dX7_crosses_26 rfl ?_
      obtain ⟨σ6, hc, h⟩ := bd1_some h
      refine x_callVv C (k_mo_goesOver N a1  hc) umX7_125 ui_X7_goesOver us_X7_goesOver un_X7 uc_X7_goesOver hv_X7_goesOver rfl (by decide) (fks := [1, 4, 0, 5, 6, 7, 8, 9, 10, 0, 0, 0, 0, 0, 11]) rfl rfl dX7_crosses_27 (rest := []) rfl (Nat.le_of_ble_eq_true rfl) ?_
      refine x_aload_n C0 dX7_crosses_30 rfl ?_
      refine gt_X7_19 C dX7_crosses_31 ?_
      refine x_iconst C0 (v := 0) dX7_crosses_34 (by decide) ?_
      refine x_iald C (k := 4) (z := 1108) rfl dX7_crosses_35 h (fun h => ?_)
      exact x_iret C dX7_crosses_36 h
    · refine x_bipush C0 (v := (-2)) dX7_crosses_18 (by decide) ?_
      exact x_iret C dX7_crosses_20 h
  · refine x_iconst C0 (v := (-1)) dX7_crosses_8 (by decide) ?_
    exact x_iret C dX7_crosses_9 h
def mo_turnsBack_L34 (N : Nat) (c1_34 : Int32) : Nat → Int32 → St → Option (Int32 × St)
  | 0, _, _ => none
  | n + 1, x2_34, σ34 =>
    ck (inb 0 1108) (
    if (σ34.1 4 (ix 0)) ≤ 0 then (
      some (x2_34, σ34))
    else (
      ck (inb 0 1108) (
      ck (inb ((3 + (σ34.1 4 (ix 0))) - 1) 1108) (
      if (σ34.1 4 (ix ((3 + (σ34.1 4 (ix 0))) - 1))) = c1_34 then (
        ck (inb 0 1108) (
        ck (inb 0 1108) (lt (put σ34 4 (ix 0) ((σ34.1 4 (ix 0)) - 1)) fun σ3 =>
        lt (x2_34 + 1) fun x4 =>
        (mo_turnsBack_L34 N c1_34 n) x4 σ3)))
      else (
        some (x2_34, σ34))))))
def mo_turnsBack (N : Nat) (σ : St) : Option (Int32 × St) :=
  ck (inb 0 1108) (
  if (σ.1 4 (ix 0)) = 0 then (
    some ((-2), σ))
  else (
    bd1 (mo_keeps N  σ) fun σ1 =>
    ck (inb 0 1108) (
    ck (inb ((3 + (σ1.1 4 (ix 0))) - 1) 1108) (
    lt (σ1.1 4 (ix ((3 + (σ1.1 4 (ix 0))) - 1))) fun x2 =>
    bd2 (mo_turnsBack_L34 N x2 N 0 σ1) fun x5 σ6 =>
    some (x5, σ6)))))
set_option maxRecDepth 20000 in
theorem w_mo_turnsBack_L34 {l : Launch} {D : va_G} {cA : Nat → ClassId} {π : Nat → Nat} {Γ : Gx St} {vo : Int32} {σo : St} (C : Cm Γ cX7_turnsBack RX7 cA 1 22 3 l D π shM (some .int) (some (.int vo), σo)) (N : Nat) (c1_34 : Int32)  (yo : Int32 × St) (kk34 : ∀ e2_34 σe, (e2_34, σe) = yo → Wx Γ σe 78 [(2, .int e2_34)] []) : ∀ (n : Nat) (x2_34 : Int32) (σ34 : St), mo_turnsBack_L34 N c1_34 n x2_34 σ34 = some yo → Wx Γ σ34 34 [(0, .ref (π 0)), (1, .int c1_34), (2, .int x2_34)] [] := by
  have C0 := C.1
  intro n
  induction n with
  | zero => intro x2_34 σ34 h; cases h
  | succ n ih =>
    intro x2_34 σ34 h
    rw [mo_turnsBack_L34] at h
    refine x_aload_n C0 dX7_turnsBack_34 rfl ?_
    refine gt_X7_19 C dX7_turnsBack_35 ?_
    refine x_iconst C0 (v := 0) dX7_turnsBack_38 (by decide) ?_
    refine x_iald C (k := 4) (z := 1108) rfl dX7_turnsBack_39 h (fun h => ?_)
    refine x_if_le C0 (tgt := 78) dX7_turnsBack_40 (by decide) h (fun h => ?_) (fun h => ?_)
    · exact x_pick [2] rfl (kk34 _ _ (Option.some.inj h))
    · refine x_aload_n C0 dX7_turnsBack_43 rfl ?_
      refine gt_X7_19 C dX7_turnsBack_44 ?_
      refine x_iconst C0 (v := 3) dX7_turnsBack_47 (by decide) ?_
      refine x_aload_n C0 dX7_turnsBack_48 rfl ?_
      refine gt_X7_19 C dX7_turnsBack_49 ?_
      refine x_iconst C0 (v := 0) dX7_turnsBack_52 (by decide) ?_
      refine x_iald C (k := 4) (z := 1108) rfl dX7_turnsBack_53 h (fun h => ?_)
      refine x_iadd C0 dX7_turnsBack_54 ?_
      refine x_iconst C0 (v := 1) dX7_turnsBack_55 (by decide) ?_
      refine x_isub C0 dX7_turnsBack_56 ?_
      refine x_iald C (k := 4) (z := 1108) rfl dX7_turnsBack_57 h (fun h => ?_)
      refine x_iload_n C0 dX7_turnsBack_58 rfl ?_
      refine x_icmp_ne C0 (tgt := 78) dX7_turnsBack_59 (by decide) h (fun h => ?_) (fun h => ?_)
      · exact x_pick [2] rfl (kk34 _ _ (Option.some.inj h))
      · refine x_aload_n C0 dX7_turnsBack_62 rfl ?_
        refine gt_X7_19 C dX7_turnsBack_63 ?_
        refine x_iconst C0 (v := 0) dX7_turnsBack_66 (by decide) ?_
        refine x_dup2_11 C0 rfl rfl dX7_turnsBack_67 ?_
        refine x_iald C (k := 4) (z := 1108) rfl dX7_turnsBack_68 h (fun h => ?_)
        refine x_iconst C0 (v := 1) dX7_turnsBack_69 (by decide) ?_
        refine x_isub C0 dX7_turnsBack_70 ?_
        refine x_iast C (k := 4) (z := 1108) rfl dX7_turnsBack_71 h (fun σ3 h => ?_)
        refine x_iinc C0 (j := 2) (v := 1) (L' := fun x4 => [(2, .int x4), (0, .ref (π 0)), (1, .int c1_34)]) dX7_turnsBack_72 rfl (by decide) (by decide) (fun _ => rfl) h (fun x4 h => ?_)
        refine x_goto C0 (tgt := 34) dX7_turnsBack_75 (by decide) ?_
        exact x_pick [1, 2, 0] rfl (ih _ _ h)
set_option maxRecDepth 20000 in
theorem k_mo_turnsBack {l : Launch} {D : va_G} {cA : Nat → ClassId} {π : Nat → Nat} (N : Nat)  {σ : St} {vo : Int32} {σo : St} (h : mo_turnsBack N σ = some (vo, σo)) : Kt l D cA π shM yX7_turnsBack cX7_turnsBack 3 (some .int) 1 22 [.ref (π 0)] σ (some (.int vo)) σo := by
  refine Kt.of (by decide) (Nat.le_of_ble_eq_true rfl) (L := [(0, .ref (π 0))]) rfl (fun Γ C => ?_)
  have C0 := C.1
  unfold mo_turnsBack at h
  refine x_aload_n C0 dX7_turnsBack_0 rfl ?_
  refine gt_X7_19 C dX7_turnsBack_1 ?_
  refine x_iconst C0 (v := 0) dX7_turnsBack_4 (by decide) ?_
  refine x_iald C (k := 4) (z := 1108) rfl dX7_turnsBack_5 h (fun h => ?_)
  refine x_if_ne C0 (tgt := 12) dX7_turnsBack_6 (by decide) h (fun h => ?_) (fun h => ?_)
  · refine x_aload_n C0 dX7_turnsBack_12 rfl ?_
    obtain ⟨σ1, hc, h⟩ := bd1_some h
    refine x_callVv C (k_mo_keeps N  hc) umX7_122 ui_X7_keeps us_X7_keeps un_X7 uc_X7_keeps hv_X7_keeps rfl (by decide) (fks := [1, 4, 0, 5, 6, 7, 8, 9, 10, 0, 0, 0, 0, 0, 11]) rfl rfl dX7_turnsBack_13 (rest := []) rfl (Nat.le_of_ble_eq_true rfl) ?_
    refine x_aload_n C0 dX7_turnsBack_16 rfl ?_
    refine gt_X7_19 C dX7_turnsBack_17 ?_
    refine x_iconst C0 (v := 3) dX7_turnsBack_20 (by decide) ?_
    refine x_aload_n C0 dX7_turnsBack_21 rfl ?_
    refine gt_X7_19 C dX7_turnsBack_22 ?_
    refine x_iconst C0 (v := 0) dX7_turnsBack_25 (by decide) ?_
    refine x_iald C (k := 4) (z := 1108) rfl dX7_turnsBack_26 h (fun h => ?_)
    refine x_iadd C0 dX7_turnsBack_27 ?_
    refine x_iconst C0 (v := 1) dX7_turnsBack_28 (by decide) ?_
    refine x_isub C0 dX7_turnsBack_29 ?_
    refine x_iald C (k := 4) (z := 1108) rfl dX7_turnsBack_30 h (fun h => ?_)
    refine x_nm h (fun x2 h => ?_)
    refine x_istore_n C0 (L' := [(1, .int x2), (0, .ref (π 0))]) dX7_turnsBack_31 (by decide) rfl ?_
    refine x_iconst C0 (v := 0) dX7_turnsBack_32 (by decide) ?_
    refine x_istore_n C0 (L' := [(2, .int 0), (1, .int x2), (0, .ref (π 0))]) dX7_turnsBack_33 (by decide) rfl ?_
    obtain ⟨x5, σ6, hL, h⟩ := bd2_some h
    refine x_pick [2, 1, 0] rfl (w_mo_turnsBack_L34 C N x2 _ (fun b0 b1 e => ?_) N 0 σ1 hL)
    cases e
    refine x_iload_n C0 dX7_turnsBack_78 rfl ?_
    exact x_iret C dX7_turnsBack_79 h
  · refine x_bipush C0 (v := (-2)) dX7_turnsBack_9 (by decide) ?_
    exact x_iret C dX7_turnsBack_11 h
def mo_drops (N : Nat) (a1 : Int32) (σ : St) : Option (Int32 × St) :=
  bd2 (mo_isRow N a1 σ) fun v2 σ1 =>
  if v2 = 0 then (
    some ((-1), σ1))
  else (
    bd1 (mo_keeps N  σ1) fun σ3 =>
    bd1 (mo_goesAway N a1 σ3) fun σ4 =>
    ck (inb 0 1108) (
    some ((σ4.1 4 (ix 0)), σ4)))
set_option maxRecDepth 20000 in
theorem k_mo_drops {l : Launch} {D : va_G} {cA : Nat → ClassId} {π : Nat → Nat} (N : Nat) (a1 : Int32)  {σ : St} {vo : Int32} {σo : St} (h : mo_drops N a1 σ = some (vo, σo)) : Kt l D cA π shM yX7_drops cX7_drops 2 (some .int) 2 43 [.ref (π 0), .int a1] σ (some (.int vo)) σo := by
  refine Kt.of (by decide) (Nat.le_of_ble_eq_true rfl) (L := [(0, .ref (π 0)), (1, .int a1)]) rfl (fun Γ C => ?_)
  have C0 := C.1
  unfold mo_drops at h
  refine x_aload_n C0 dX7_drops_0 rfl ?_
  refine x_iload_n C0 dX7_drops_1 rfl ?_
  obtain ⟨v2, σ1, hc, h⟩ := bd2_some h
  refine x_callVi C (k_mo_isRow N a1  hc) umX7_97 ui_X7_isRow us_X7_isRow un_X7 uc_X7_isRow hv_X7_isRow rfl (by decide) (fks := [1, 4, 0, 5, 6, 7, 8, 9, 10, 0, 0, 0, 0, 0, 11]) rfl rfl dX7_drops_2 (rest := []) rfl (Nat.le_of_ble_eq_true rfl) ?_
  refine x_if_ne C0 (tgt := 10) dX7_drops_5 (by decide) h (fun h => ?_) (fun h => ?_)
  · refine x_aload_n C0 dX7_drops_10 rfl ?_
    obtain ⟨σ3, hc, h⟩ := bd1_some h
    refine x_callVv C (k_mo_keeps N  hc) umX7_122 ui_X7_keeps us_X7_keeps un_X7 uc_X7_keeps hv_X7_keeps rfl (by decide) (fks := [1, 4, 0, 5, 6, 7, 8, 9, 10, 0, 0, 0, 0, 0, 11]) rfl rfl dX7_drops_11 (rest := []) rfl (Nat.le_of_ble_eq_true rfl) ?_
    refine x_aload_n C0 dX7_drops_14 rfl ?_
    refine x_iload_n C0 dX7_drops_15 rfl ?_
    obtain ⟨σ4, hc, h⟩ := bd1_some h
    refine x_callVv C (k_mo_goesAway N a1  hc) umX7_111 ui_X7_goesAway us_X7_goesAway un_X7 uc_X7_goesAway hv_X7_goesAway rfl (by decide) (fks := [1, 4, 0, 5, 6, 7, 8, 9, 10, 0, 0, 0, 0, 0, 11]) rfl rfl dX7_drops_16 (rest := []) rfl (Nat.le_of_ble_eq_true rfl) ?_
    refine x_aload_n C0 dX7_drops_19 rfl ?_
    refine gt_X7_19 C dX7_drops_20 ?_
    refine x_iconst C0 (v := 0) dX7_drops_23 (by decide) ?_
    refine x_iald C (k := 4) (z := 1108) rfl dX7_drops_24 h (fun h => ?_)
    exact x_iret C dX7_drops_25 h
  · refine x_iconst C0 (v := (-1)) dX7_drops_8 (by decide) ?_
    exact x_iret C dX7_drops_9 h
def mo_draws (N : Nat) (a1 : Int32) (σ : St) : Option (Int32 × St) :=
  bd2 (mo_isRow N a1 σ) fun v2 σ1 =>
  if v2 = 0 then (
    some ((-1), σ1))
  else (
    ck (inb (43 + a1) 1108) (
    if (σ1.1 4 (ix (43 + a1))) = 0 then (
      some ((-2), σ1))
    else (
      bd1 (mo_keeps N  σ1) fun σ3 =>
      ck (inb (43 + a1) 1108) (
      ck (inb (43 + a1) 1108) (lt (put σ3 4 (ix (43 + a1)) ((σ3.1 4 (ix (43 + a1))) - 1)) fun σ4 =>
      bd2 (mo_bears N a1 σ4) fun v6 σ5 =>
      some (v6, σ5))))))
set_option maxRecDepth 20000 in
theorem k_mo_draws {l : Launch} {D : va_G} {cA : Nat → ClassId} {π : Nat → Nat} (N : Nat) (a1 : Int32)  {σ : St} {vo : Int32} {σo : St} (h : mo_draws N a1 σ = some (vo, σo)) : Kt l D cA π shM yX7_draws cX7_draws 2 (some .int) 2 43 [.ref (π 0), .int a1] σ (some (.int vo)) σo := by
  refine Kt.of (by decide) (Nat.le_of_ble_eq_true rfl) (L := [(0, .ref (π 0)), (1, .int a1)]) rfl (fun Γ C => ?_)
  have C0 := C.1
  unfold mo_draws at h
  refine x_aload_n C0 dX7_draws_0 rfl ?_
  refine x_iload_n C0 dX7_draws_1 rfl ?_
  obtain ⟨v2, σ1, hc, h⟩ := bd2_some h
  refine x_callVi C (k_mo_isRow N a1  hc) umX7_97 ui_X7_isRow us_X7_isRow un_X7 uc_X7_isRow hv_X7_isRow rfl (by decide) (fks := [1, 4, 0, 5, 6, 7, 8, 9, 10, 0, 0, 0, 0, 0, 11]) rfl rfl dX7_draws_2 (rest := []) rfl (Nat.le_of_ble_eq_true rfl) ?_
  refine x_if_ne C0 (tgt := 10) dX7_draws_5 (by decide) h (fun h => ?_) (fun h => ?_)
  · refine x_aload_n C0 dX7_draws_10 rfl ?_
    refine gt_X7_19 C dX7_draws_11 ?_
    refine x_bipush C0 (v := 43) dX7_draws_14 (by decide) ?_
    refine x_iload_n C0 dX7_draws_16 rfl ?_
    refine x_iadd C0 dX7_draws_17 ?_
    refine x_iald C (k := 4) (z := 1108) rfl dX7_draws_18 h (fun h => ?_)
    refine x_if_ne C0 (tgt := 25) dX7_draws_19 (by decide) h (fun h => ?_) (fun h => ?_)
    · refine x_aload_n C0 dX7_draws_25 rfl ?_
      obtain ⟨σ3, hc, h⟩ := bd1_some h
      refine x_callVv C (k_mo_keeps N  hc) umX7_122 ui_X7_keeps us_X7_keeps un_X7 uc_X7_keeps hv_X7_keeps rfl (by decide) (fks := [1, 4, 0, 5, 6, 7, 8, 9, 10, 0, 0, 0, 0, 0, 11]) rfl rfl dX7_draws_26 (rest := []) rfl (Nat.le_of_ble_eq_true rfl) ?_
      refine x_aload_n C0 dX7_draws_29 rfl ?_
      refine gt_X7_19 C dX7_draws_30 ?_
      refine x_bipush C0 (v := 43) dX7_draws_33 (by decide) ?_
      refine x_iload_n C0 dX7_draws_35 rfl ?_
      refine x_iadd C0 dX7_draws_36 ?_
      refine x_dup2_11 C0 rfl rfl dX7_draws_37 ?_
      refine x_iald C (k := 4) (z := 1108) rfl dX7_draws_38 h (fun h => ?_)
      refine x_iconst C0 (v := 1) dX7_draws_39 (by decide) ?_
      refine x_isub C0 dX7_draws_40 ?_
      refine x_iast C (k := 4) (z := 1108) rfl dX7_draws_41 h (fun σ4 h => ?_)
      refine x_aload_n C0 dX7_draws_42 rfl ?_
      refine x_iload_n C0 dX7_draws_43 rfl ?_
      obtain ⟨v6, σ5, hc, h⟩ := bd2_some h
      refine x_callVi C (k_mo_bears N a1  hc) umX7_100 ui_X7_bears us_X7_bears un_X7 uc_X7_bears hv_X7_bears rfl (by decide) (fks := [1, 4, 0, 5, 6, 7, 8, 9, 10, 0, 0, 0, 0, 0, 11]) rfl rfl dX7_draws_44 (rest := []) rfl (Nat.le_of_ble_eq_true rfl) ?_
      exact x_iret C dX7_draws_47 h
    · refine x_bipush C0 (v := (-2)) dX7_draws_22 (by decide) ?_
      exact x_iret C dX7_draws_24 h
  · refine x_iconst C0 (v := (-1)) dX7_draws_8 (by decide) ?_
    exact x_iret C dX7_draws_9 h
def mo_rains (N : Nat) (a1 : Int32) (σ : St) : Option (Int32 × St) :=
  bd2 (mo_in N a1 0 1 σ) fun v2 σ1 =>
  if v2 = 0 then (
    some ((-1), σ1))
  else (
    ck (inb 1 1108) (
    if (σ1.1 4 (ix 1)) = a1 then (
      some ((-2), σ1))
    else (
      bd1 (mo_keeps N  σ1) fun σ3 =>
      ck (inb 1 1108) (lt (put σ3 4 (ix 1) a1) fun σ4 =>
      ck (inb 0 1108) (
      bd2 (mo_longOf N (σ4.1 4 (ix 0)) a1 σ4) fun v6 σ5 =>
      some (v6, σ5))))))
set_option maxRecDepth 20000 in
theorem k_mo_rains {l : Launch} {D : va_G} {cA : Nat → ClassId} {π : Nat → Nat} (N : Nat) (a1 : Int32)  {σ : St} {vo : Int32} {σo : St} (h : mo_rains N a1 σ = some (vo, σo)) : Kt l D cA π shM yX7_rains cX7_rains 2 (some .int) 1 22 [.ref (π 0), .int a1] σ (some (.int vo)) σo := by
  refine Kt.of (by decide) (Nat.le_of_ble_eq_true rfl) (L := [(0, .ref (π 0)), (1, .int a1)]) rfl (fun Γ C => ?_)
  have C0 := C.1
  unfold mo_rains at h
  refine x_iload_n C0 dX7_rains_0 rfl ?_
  refine x_iconst C0 (v := 0) dX7_rains_1 (by decide) ?_
  refine x_iconst C0 (v := 1) dX7_rains_2 (by decide) ?_
  obtain ⟨v2, σ1, hc, h⟩ := bd2_some h
  refine x_callSi C (k_mo_in N a1 0 1  hc) umX7_42 ut_X7_in un_X7 uc_X7_in hs_X7_in rfl (by decide) dX7_rains_3 (rest := []) rfl (Nat.le_of_ble_eq_true rfl) ?_
  refine x_if_ne C0 (tgt := 11) dX7_rains_6 (by decide) h (fun h => ?_) (fun h => ?_)
  · refine x_aload_n C0 dX7_rains_11 rfl ?_
    refine gt_X7_19 C dX7_rains_12 ?_
    refine x_iconst C0 (v := 1) dX7_rains_15 (by decide) ?_
    refine x_iald C (k := 4) (z := 1108) rfl dX7_rains_16 h (fun h => ?_)
    refine x_iload_n C0 dX7_rains_17 rfl ?_
    refine x_icmp_ne C0 (tgt := 24) dX7_rains_18 (by decide) h (fun h => ?_) (fun h => ?_)
    · refine x_aload_n C0 dX7_rains_24 rfl ?_
      obtain ⟨σ3, hc, h⟩ := bd1_some h
      refine x_callVv C (k_mo_keeps N  hc) umX7_122 ui_X7_keeps us_X7_keeps un_X7 uc_X7_keeps hv_X7_keeps rfl (by decide) (fks := [1, 4, 0, 5, 6, 7, 8, 9, 10, 0, 0, 0, 0, 0, 11]) rfl rfl dX7_rains_25 (rest := []) rfl (Nat.le_of_ble_eq_true rfl) ?_
      refine x_aload_n C0 dX7_rains_28 rfl ?_
      refine gt_X7_19 C dX7_rains_29 ?_
      refine x_iconst C0 (v := 1) dX7_rains_32 (by decide) ?_
      refine x_iload_n C0 dX7_rains_33 rfl ?_
      refine x_iast C (k := 4) (z := 1108) rfl dX7_rains_34 h (fun σ4 h => ?_)
      refine x_aload_n C0 dX7_rains_35 rfl ?_
      refine gt_X7_19 C dX7_rains_36 ?_
      refine x_iconst C0 (v := 0) dX7_rains_39 (by decide) ?_
      refine x_iald C (k := 4) (z := 1108) rfl dX7_rains_40 h (fun h => ?_)
      refine x_iload_n C0 dX7_rains_41 rfl ?_
      obtain ⟨v6, σ5, hc, h⟩ := bd2_some h
      refine x_callSi C (k_mo_longOf N (σ4.1 4 (ix 0)) a1  hc) umX7_103 ut_X7_longOf un_X7 uc_X7_longOf hs_X7_longOf rfl (by decide) dX7_rains_42 (rest := []) rfl (Nat.le_of_ble_eq_true rfl) ?_
      exact x_iret C dX7_rains_45 h
    · refine x_bipush C0 (v := (-2)) dX7_rains_21 (by decide) ?_
      exact x_iret C dX7_rains_23 h
  · refine x_iconst C0 (v := (-1)) dX7_rains_9 (by decide) ?_
    exact x_iret C dX7_rains_10 h
def mo_ages_J41 (R2 : Int32 → St → Option (St)) (x1_41 : Int32) (t0_41 : Int32) (t1_41 : Int32) (t2_41 : Int32) (σ41 : St) : Option (St) :=
  ck (inb t2_41 1108) (lt (put σ41 4 (ix t2_41) (t1_41 + t0_41)) fun σ1 =>
  lt (x1_41 + 1) fun x2 =>
  R2 x2 σ1)
def mo_ages_L2 (N : Nat) : Nat → Int32 → St → Option (St)
  | 0, _, _ => none
  | n + 1, x1_2, σ2 =>
    ck (inb 0 1108) (
    if (σ2.1 4 (ix 0)) ≤ x1_2 then (
      some σ2)
    else (
      ck (inb (83 + x1_2) 1108) (
      ck (inb (83 + x1_2) 1108) (
      if 99 ≤ (σ2.1 4 (ix (83 + x1_2))) then (
        mo_ages_J41 (mo_ages_L2 N n) x1_2 0 (σ2.1 4 (ix (83 + x1_2))) (83 + x1_2) σ2)
      else (
        mo_ages_J41 (mo_ages_L2 N n) x1_2 1 (σ2.1 4 (ix (83 + x1_2))) (83 + x1_2) σ2)))))
def mo_ages (N : Nat) (σ : St) : Option (St) :=
  bd1 (mo_ages_L2 N N 0 σ) fun σ3 =>
  some σ3
set_option maxRecDepth 20000 in
theorem w_mo_ages_J41 {l : Launch} {D : va_G} {cA : Nat → ClassId} {π : Nat → Nat} {Γ : Gx St} {σo : St} {yo : St} (C : Cm Γ cX7_ages RX7 cA 0 0 2 l D π shM none (none, σo)) (R2 : Int32 → St → Option (St)) (x1_41 : Int32) (t0_41 : Int32) (t1_41 : Int32) (t2_41 : Int32) (σ41 : St) (hR2 : ∀ x1_2 σ, R2 x1_2 σ = some yo → Wx Γ σ 2 [(0, .ref (π 0)), (1, .int x1_2)] []) (h : mo_ages_J41 R2 x1_41 t0_41 t1_41 t2_41 σ41 = some yo) : Wx Γ σ41 41 [(0, .ref (π 0)), (1, .int x1_41)] [.int t0_41, .int t1_41, .int t2_41, .ref (π 4)] := by
  have C0 := C.1
  unfold mo_ages_J41 at h
  refine x_iadd C0 dX7_ages_41 ?_
  refine x_iast C (k := 4) (z := 1108) rfl dX7_ages_42 h (fun σ1 h => ?_)
  refine x_iinc C0 (j := 1) (v := 1) (L' := fun x2 => [(1, .int x2), (0, .ref (π 0))]) dX7_ages_43 rfl (by decide) (by decide) (fun _ => rfl) h (fun x2 h => ?_)
  refine x_goto C0 (tgt := 2) dX7_ages_46 (by decide) ?_
  exact x_pick [1, 0] rfl (hR2 _ _ h)
set_option maxRecDepth 20000 in
theorem w_mo_ages_L2 {l : Launch} {D : va_G} {cA : Nat → ClassId} {π : Nat → Nat} {Γ : Gx St} {σo : St} (C : Cm Γ cX7_ages RX7 cA 0 0 2 l D π shM none (none, σo)) (N : Nat)  (yo : St) (kk2 : ∀ σe, σe = yo → Wx Γ σe 49 [] []) : ∀ (n : Nat) (x1_2 : Int32) (σ2 : St), mo_ages_L2 N n x1_2 σ2 = some yo → Wx Γ σ2 2 [(0, .ref (π 0)), (1, .int x1_2)] [] := by
  have C0 := C.1
  intro n
  induction n with
  | zero => intro x1_2 σ2 h; cases h
  | succ n ih =>
    intro x1_2 σ2 h
    rw [mo_ages_L2] at h
    refine x_iload_n C0 dX7_ages_2 rfl ?_
    refine x_aload_n C0 dX7_ages_3 rfl ?_
    refine gt_X7_19 C dX7_ages_4 ?_
    refine x_iconst C0 (v := 0) dX7_ages_7 (by decide) ?_
    refine x_iald C (k := 4) (z := 1108) rfl dX7_ages_8 h (fun h => ?_)
    refine x_icmp_ge C0 (tgt := 49) dX7_ages_9 (by decide) h (fun h => ?_) (fun h => ?_)
    · exact x_pick [] rfl (kk2 _ (Option.some.inj h))
    · refine x_aload_n C0 dX7_ages_12 rfl ?_
      refine gt_X7_19 C dX7_ages_13 ?_
      refine x_bipush C0 (v := 83) dX7_ages_16 (by decide) ?_
      refine x_iload_n C0 dX7_ages_18 rfl ?_
      refine x_iadd C0 dX7_ages_19 ?_
      refine x_dup2_11 C0 rfl rfl dX7_ages_20 ?_
      refine x_iald C (k := 4) (z := 1108) rfl dX7_ages_21 h (fun h => ?_)
      refine x_aload_n C0 dX7_ages_22 rfl ?_
      refine gt_X7_19 C dX7_ages_23 ?_
      refine x_bipush C0 (v := 83) dX7_ages_26 (by decide) ?_
      refine x_iload_n C0 dX7_ages_28 rfl ?_
      refine x_iadd C0 dX7_ages_29 ?_
      refine x_iald C (k := 4) (z := 1108) rfl dX7_ages_30 h (fun h => ?_)
      refine x_bipush C0 (v := 99) dX7_ages_31 (by decide) ?_
      refine x_icmp_ge C0 (tgt := 40) dX7_ages_33 (by decide) h (fun h => ?_) (fun h => ?_)
      · refine x_iconst C0 (v := 0) dX7_ages_40 (by decide) ?_
        exact x_pick [0, 1] rfl (w_mo_ages_J41 C (mo_ages_L2 N n) x1_2 0 (σ2.1 4 (ix (83 + x1_2))) (83 + x1_2) σ2 ih h)
      · refine x_iconst C0 (v := 1) dX7_ages_36 (by decide) ?_
        refine x_goto C0 (tgt := 41) dX7_ages_37 (by decide) ?_
        exact x_pick [0, 1] rfl (w_mo_ages_J41 C (mo_ages_L2 N n) x1_2 1 (σ2.1 4 (ix (83 + x1_2))) (83 + x1_2) σ2 ih h)
set_option maxRecDepth 20000 in
theorem k_mo_ages {l : Launch} {D : va_G} {cA : Nat → ClassId} {π : Nat → Nat} (N : Nat)  {σ : St} {σo : St} (h : mo_ages N σ = some σo) : Kt l D cA π shM yX7_ages cX7_ages 2 none 0 0 [.ref (π 0)] σ none σo := by
  refine Kt.of (by decide) (Nat.le_of_ble_eq_true rfl) (L := [(0, .ref (π 0))]) rfl (fun Γ C => ?_)
  have C0 := C.1
  unfold mo_ages at h
  refine x_iconst C0 (v := 0) dX7_ages_0 (by decide) ?_
  refine x_istore_n C0 (L' := [(1, .int 0), (0, .ref (π 0))]) dX7_ages_1 (by decide) rfl ?_
  obtain ⟨σ3, hL, h⟩ := bd1_some h
  refine x_pick [1, 0] rfl (w_mo_ages_L2 C N _ (fun b0 e => ?_) N 0 σ hL)
  cases e
  exact x_vret C dX7_ages_49 h
def mo_year (N : Nat) (σ : St) : Option (Int32 × St) :=
  ck (inb 2 1108) (
  if (σ.1 4 (ix 2)) = 200 then (
    some ((-2), σ))
  else (
    bd1 (mo_keeps N  σ) fun σ1 =>
    bd1 (mo_ages N  σ1) fun σ2 =>
    ck (inb 2 1108) (
    ck (inb 2 1108) (lt (put σ2 4 (ix 2) ((σ2.1 4 (ix 2)) + 1)) fun σ3 =>
    bd2 (mo_most N  σ3) fun v5 σ4 =>
    some (v5, σ4)))))
set_option maxRecDepth 20000 in
theorem k_mo_year {l : Launch} {D : va_G} {cA : Nat → ClassId} {π : Nat → Nat} (N : Nat)  {σ : St} {vo : Int32} {σo : St} (h : mo_year N σ = some (vo, σo)) : Kt l D cA π shM yX7_year cX7_year 1 (some .int) 2 44 [.ref (π 0)] σ (some (.int vo)) σo := by
  refine Kt.of (by decide) (Nat.le_of_ble_eq_true rfl) (L := [(0, .ref (π 0))]) rfl (fun Γ C => ?_)
  have C0 := C.1
  unfold mo_year at h
  refine x_aload_n C0 dX7_year_0 rfl ?_
  refine gt_X7_19 C dX7_year_1 ?_
  refine x_iconst C0 (v := 2) dX7_year_4 (by decide) ?_
  refine x_iald C (k := 4) (z := 1108) rfl dX7_year_5 h (fun h => ?_)
  refine x_sipush C0 (v := 200) dX7_year_6 (by decide) ?_
  refine x_icmp_ne C0 (tgt := 15) dX7_year_9 (by decide) h (fun h => ?_) (fun h => ?_)
  · refine x_aload_n C0 dX7_year_15 rfl ?_
    obtain ⟨σ1, hc, h⟩ := bd1_some h
    refine x_callVv C (k_mo_keeps N  hc) umX7_122 ui_X7_keeps us_X7_keeps un_X7 uc_X7_keeps hv_X7_keeps rfl (by decide) (fks := [1, 4, 0, 5, 6, 7, 8, 9, 10, 0, 0, 0, 0, 0, 11]) rfl rfl dX7_year_16 (rest := []) rfl (Nat.le_of_ble_eq_true rfl) ?_
    refine x_aload_n C0 dX7_year_19 rfl ?_
    obtain ⟨σ2, hc, h⟩ := bd1_some h
    refine x_callVv C (k_mo_ages N  hc) umX7_128 ui_X7_ages us_X7_ages un_X7 uc_X7_ages hv_X7_ages rfl (by decide) (fks := [1, 4, 0, 5, 6, 7, 8, 9, 10, 0, 0, 0, 0, 0, 11]) rfl rfl dX7_year_20 (rest := []) rfl (Nat.le_of_ble_eq_true rfl) ?_
    refine x_aload_n C0 dX7_year_23 rfl ?_
    refine gt_X7_19 C dX7_year_24 ?_
    refine x_iconst C0 (v := 2) dX7_year_27 (by decide) ?_
    refine x_dup2_11 C0 rfl rfl dX7_year_28 ?_
    refine x_iald C (k := 4) (z := 1108) rfl dX7_year_29 h (fun h => ?_)
    refine x_iconst C0 (v := 1) dX7_year_30 (by decide) ?_
    refine x_iadd C0 dX7_year_31 ?_
    refine x_iast C (k := 4) (z := 1108) rfl dX7_year_32 h (fun σ3 h => ?_)
    refine x_aload_n C0 dX7_year_33 rfl ?_
    obtain ⟨v5, σ4, hc, h⟩ := bd2_some h
    refine x_callVi C (k_mo_most N  hc) umX7_107 ui_X7_most us_X7_most un_X7 uc_X7_most hv_X7_most rfl (by decide) (fks := [1, 4, 0, 5, 6, 7, 8, 9, 10, 0, 0, 0, 0, 0, 11]) rfl rfl dX7_year_34 (rest := []) rfl (Nat.le_of_ble_eq_true rfl) ?_
    exact x_iret C dX7_year_37 h
  · refine x_bipush C0 (v := (-2)) dX7_year_12 (by decide) ?_
    exact x_iret C dX7_year_14 h
def mo_undo_L40 (N : Nat) (c1_40 : Int32) : Nat → Int32 → St → Option (St)
  | 0, _, _ => none
  | n + 1, x2_40, σ40 =>
    if 123 ≤ x2_40 then (
      some σ40)
    else (
      ck (inb (c1_40 + x2_40) 1108) (
      ck (inb x2_40 1108) (lt (put σ40 4 (ix x2_40) (σ40.1 4 (ix (c1_40 + x2_40)))) fun σ3 =>
      lt (x2_40 + 1) fun x4 =>
      (mo_undo_L40 N c1_40 n) x4 σ3)))
def mo_undo (N : Nat) (σ : St) : Option (Int32 × St) :=
  ck (inb 123 1108) (
  if (σ.1 4 (ix 123)) = 0 then (
    some ((-2), σ))
  else (
    ck (inb 123 1108) (
    ck (inb 123 1108) (lt (put σ 4 (ix 123) ((σ.1 4 (ix 123)) - 1)) fun σ1 =>
    ck (inb 123 1108) (
    lt (124 + (123 * (σ1.1 4 (ix 123)))) fun x2 =>
    bd1 (mo_undo_L40 N x2 N 0 σ1) fun σ5 =>
    ck (inb 123 1108) (
    some ((σ5.1 4 (ix 123)), σ5)))))))
set_option maxRecDepth 20000 in
theorem w_mo_undo_L40 {l : Launch} {D : va_G} {cA : Nat → ClassId} {π : Nat → Nat} {Γ : Gx St} {vo : Int32} {σo : St} (C : Cm Γ cX7_undo RX7 cA 0 0 3 l D π shM (some .int) (some (.int vo), σo)) (N : Nat) (c1_40 : Int32)  (yo : St) (kk40 : ∀ σe, σe = yo → Wx Γ σe 66 [(0, .ref (π 0))] []) : ∀ (n : Nat) (x2_40 : Int32) (σ40 : St), mo_undo_L40 N c1_40 n x2_40 σ40 = some yo → Wx Γ σ40 40 [(0, .ref (π 0)), (1, .int c1_40), (2, .int x2_40)] [] := by
  have C0 := C.1
  intro n
  induction n with
  | zero => intro x2_40 σ40 h; cases h
  | succ n ih =>
    intro x2_40 σ40 h
    rw [mo_undo_L40] at h
    refine x_iload_n C0 dX7_undo_40 rfl ?_
    refine x_bipush C0 (v := 123) dX7_undo_41 (by decide) ?_
    refine x_icmp_ge C0 (tgt := 66) dX7_undo_43 (by decide) h (fun h => ?_) (fun h => ?_)
    · exact x_pick [0] rfl (kk40 _ (Option.some.inj h))
    · refine x_aload_n C0 dX7_undo_46 rfl ?_
      refine gt_X7_19 C dX7_undo_47 ?_
      refine x_iload_n C0 dX7_undo_50 rfl ?_
      refine x_aload_n C0 dX7_undo_51 rfl ?_
      refine gt_X7_19 C dX7_undo_52 ?_
      refine x_iload_n C0 dX7_undo_55 rfl ?_
      refine x_iload_n C0 dX7_undo_56 rfl ?_
      refine x_iadd C0 dX7_undo_57 ?_
      refine x_iald C (k := 4) (z := 1108) rfl dX7_undo_58 h (fun h => ?_)
      refine x_iast C (k := 4) (z := 1108) rfl dX7_undo_59 h (fun σ3 h => ?_)
      refine x_iinc C0 (j := 2) (v := 1) (L' := fun x4 => [(2, .int x4), (0, .ref (π 0)), (1, .int c1_40)]) dX7_undo_60 rfl (by decide) (by decide) (fun _ => rfl) h (fun x4 h => ?_)
      refine x_goto C0 (tgt := 40) dX7_undo_63 (by decide) ?_
      exact x_pick [1, 2, 0] rfl (ih _ _ h)
set_option maxRecDepth 20000 in
theorem k_mo_undo {l : Launch} {D : va_G} {cA : Nat → ClassId} {π : Nat → Nat} (N : Nat)  {σ : St} {vo : Int32} {σo : St} (h : mo_undo N σ = some (vo, σo)) : Kt l D cA π shM yX7_undo cX7_undo 3 (some .int) 0 0 [.ref (π 0)] σ (some (.int vo)) σo := by
  refine Kt.of (by decide) (Nat.le_of_ble_eq_true rfl) (L := [(0, .ref (π 0))]) rfl (fun Γ C => ?_)
  have C0 := C.1
  unfold mo_undo at h
  refine x_aload_n C0 dX7_undo_0 rfl ?_
  refine gt_X7_19 C dX7_undo_1 ?_
  refine x_bipush C0 (v := 123) dX7_undo_4 (by decide) ?_
  refine x_iald C (k := 4) (z := 1108) rfl dX7_undo_6 h (fun h => ?_)
  refine x_if_ne C0 (tgt := 13) dX7_undo_7 (by decide) h (fun h => ?_) (fun h => ?_)
  · refine x_aload_n C0 dX7_undo_13 rfl ?_
    refine gt_X7_19 C dX7_undo_14 ?_
    refine x_bipush C0 (v := 123) dX7_undo_17 (by decide) ?_
    refine x_dup2_11 C0 rfl rfl dX7_undo_19 ?_
    refine x_iald C (k := 4) (z := 1108) rfl dX7_undo_20 h (fun h => ?_)
    refine x_iconst C0 (v := 1) dX7_undo_21 (by decide) ?_
    refine x_isub C0 dX7_undo_22 ?_
    refine x_iast C (k := 4) (z := 1108) rfl dX7_undo_23 h (fun σ1 h => ?_)
    refine x_bipush C0 (v := 124) dX7_undo_24 (by decide) ?_
    refine x_bipush C0 (v := 123) dX7_undo_26 (by decide) ?_
    refine x_aload_n C0 dX7_undo_28 rfl ?_
    refine gt_X7_19 C dX7_undo_29 ?_
    refine x_bipush C0 (v := 123) dX7_undo_32 (by decide) ?_
    refine x_iald C (k := 4) (z := 1108) rfl dX7_undo_34 h (fun h => ?_)
    refine x_imul C0 dX7_undo_35 ?_
    refine x_iadd C0 dX7_undo_36 ?_
    refine x_nm h (fun x2 h => ?_)
    refine x_istore_n C0 (L' := [(1, .int x2), (0, .ref (π 0))]) dX7_undo_37 (by decide) rfl ?_
    refine x_iconst C0 (v := 0) dX7_undo_38 (by decide) ?_
    refine x_istore_n C0 (L' := [(2, .int 0), (1, .int x2), (0, .ref (π 0))]) dX7_undo_39 (by decide) rfl ?_
    obtain ⟨σ5, hL, h⟩ := bd1_some h
    refine x_pick [2, 1, 0] rfl (w_mo_undo_L40 C N x2 _ (fun b0 e => ?_) N 0 σ1 hL)
    cases e
    refine x_aload_n C0 dX7_undo_66 rfl ?_
    refine gt_X7_19 C dX7_undo_67 ?_
    refine x_bipush C0 (v := 123) dX7_undo_70 (by decide) ?_
    refine x_iald C (k := 4) (z := 1108) rfl dX7_undo_72 h (fun h => ?_)
    exact x_iret C dX7_undo_73 h
  · refine x_bipush C0 (v := (-2)) dX7_undo_10 (by decide) ?_
    exact x_iret C dX7_undo_12 h
def mo_thin_L12 (N : Nat) : Nat → Int32 → Int32 → St → Option (Int32 × St)
  | 0, _, _, _ => none
  | n + 1, x1_12, x2_12, σ12 =>
    if x2_12 < 0 then (
      some (x1_12, σ12))
    else (
      if x1_12 = (-9) then (
        lt (x2_12 + (-1)) fun x2 =>
        (mo_thin_L12 N n) x2_12 x2 σ12)
      else (
        bd2 (mo_bears N x2_12 σ12) fun v4 σ3 =>
        bd2 (mo_bears N x1_12 σ3) fun v6 σ5 =>
        if v6 < v4 then (
          lt (x2_12 + (-1)) fun x7 =>
          (mo_thin_L12 N n) x1_12 x7 σ5)
        else (
          lt (x2_12 + (-1)) fun x8 =>
          (mo_thin_L12 N n) x2_12 x8 σ5)))
def mo_thin (N : Nat) (σ : St) : Option (Int32 × St) :=
  ck (inb 0 1108) (
  lt ((σ.1 4 (ix 0)) - 1) fun x1 =>
  bd2 (mo_thin_L12 N N (-9) x1 σ) fun x9 σ10 =>
  some (x9, σ10))
set_option maxRecDepth 20000 in
theorem w_mo_thin_L12 {l : Launch} {D : va_G} {cA : Nat → ClassId} {π : Nat → Nat} {Γ : Gx St} {vo : Int32} {σo : St} (C : Cm Γ cX7_thin RX7 cA 1 22 3 l D π shM (some .int) (some (.int vo), σo)) (N : Nat)  (yo : Int32 × St) (kk12 : ∀ e1_12 σe, (e1_12, σe) = yo → Wx Γ σe 47 [(1, .int e1_12)] []) : ∀ (n : Nat) (x1_12 : Int32) (x2_12 : Int32) (σ12 : St), mo_thin_L12 N n x1_12 x2_12 σ12 = some yo → Wx Γ σ12 12 [(0, .ref (π 0)), (1, .int x1_12), (2, .int x2_12)] [] := by
  have C0 := C.1
  intro n
  induction n with
  | zero => intro x1_12 x2_12 σ12 h; cases h
  | succ n ih =>
    intro x1_12 x2_12 σ12 h
    rw [mo_thin_L12] at h
    refine x_iload_n C0 dX7_thin_12 rfl ?_
    refine x_if_lt C0 (tgt := 47) dX7_thin_13 (by decide) h (fun h => ?_) (fun h => ?_)
    · exact x_pick [1] rfl (kk12 _ _ (Option.some.inj h))
    · refine x_iload_n C0 dX7_thin_16 rfl ?_
      refine x_bipush C0 (v := (-9)) dX7_thin_17 (by decide) ?_
      refine x_icmp_eq C0 (tgt := 35) dX7_thin_19 (by decide) h (fun h => ?_) (fun h => ?_)
      · refine x_iload_n C0 dX7_thin_35 rfl ?_
        refine x_goto C0 (tgt := 40) dX7_thin_36 (by decide) ?_
        refine x_istore_n C0 (L' := [(1, .int x2_12), (0, .ref (π 0)), (2, .int x2_12)]) dX7_thin_40 (by decide) rfl ?_
        refine x_iinc C0 (j := 2) (v := (-1)) (L' := fun x2 => [(2, .int x2), (1, .int x2_12), (0, .ref (π 0))]) dX7_thin_41 rfl (by decide) (by decide) (fun _ => rfl) h (fun x2 h => ?_)
        refine x_goto C0 (tgt := 12) dX7_thin_44 (by decide) ?_
        exact x_pick [2, 1, 0] rfl (ih _ _ _ h)
      · refine x_aload_n C0 dX7_thin_22 rfl ?_
        refine x_iload_n C0 dX7_thin_23 rfl ?_
        obtain ⟨v4, σ3, hc, h⟩ := bd2_some h
        refine x_callVi C (k_mo_bears N x2_12  hc) umX7_100 ui_X7_bears us_X7_bears un_X7 uc_X7_bears hv_X7_bears rfl (by decide) (fks := [1, 4, 0, 5, 6, 7, 8, 9, 10, 0, 0, 0, 0, 0, 11]) rfl rfl dX7_thin_24 (rest := []) rfl (Nat.le_of_ble_eq_true rfl) ?_
        refine x_aload_n C0 dX7_thin_27 rfl ?_
        refine x_iload_n C0 dX7_thin_28 rfl ?_
        obtain ⟨v6, σ5, hc, h⟩ := bd2_some h
        refine x_callVi C (k_mo_bears N x1_12  hc) umX7_100 ui_X7_bears us_X7_bears un_X7 uc_X7_bears hv_X7_bears rfl (by decide) (fks := [1, 4, 0, 5, 6, 7, 8, 9, 10, 0, 0, 0, 0, 0, 11]) rfl rfl dX7_thin_29 (rest := [.int v4]) rfl (Nat.le_of_ble_eq_true rfl) ?_
        refine x_icmp_gt C0 (tgt := 39) dX7_thin_32 (by decide) h (fun h => ?_) (fun h => ?_)
        · refine x_iload_n C0 dX7_thin_39 rfl ?_
          refine x_istore_n C0 (L' := [(1, .int x1_12), (0, .ref (π 0)), (2, .int x2_12)]) dX7_thin_40 (by decide) rfl ?_
          refine x_iinc C0 (j := 2) (v := (-1)) (L' := fun x7 => [(2, .int x7), (1, .int x1_12), (0, .ref (π 0))]) dX7_thin_41 rfl (by decide) (by decide) (fun _ => rfl) h (fun x7 h => ?_)
          refine x_goto C0 (tgt := 12) dX7_thin_44 (by decide) ?_
          exact x_pick [2, 1, 0] rfl (ih _ _ _ h)
        · refine x_iload_n C0 dX7_thin_35 rfl ?_
          refine x_goto C0 (tgt := 40) dX7_thin_36 (by decide) ?_
          refine x_istore_n C0 (L' := [(1, .int x2_12), (0, .ref (π 0)), (2, .int x2_12)]) dX7_thin_40 (by decide) rfl ?_
          refine x_iinc C0 (j := 2) (v := (-1)) (L' := fun x8 => [(2, .int x8), (1, .int x2_12), (0, .ref (π 0))]) dX7_thin_41 rfl (by decide) (by decide) (fun _ => rfl) h (fun x8 h => ?_)
          refine x_goto C0 (tgt := 12) dX7_thin_44 (by decide) ?_
          exact x_pick [2, 1, 0] rfl (ih _ _ _ h)
set_option maxRecDepth 20000 in
theorem k_mo_thin {l : Launch} {D : va_G} {cA : Nat → ClassId} {π : Nat → Nat} (N : Nat)  {σ : St} {vo : Int32} {σo : St} (h : mo_thin N σ = some (vo, σo)) : Kt l D cA π shM yX7_thin cX7_thin 3 (some .int) 1 22 [.ref (π 0)] σ (some (.int vo)) σo := by
  refine Kt.of (by decide) (Nat.le_of_ble_eq_true rfl) (L := [(0, .ref (π 0))]) rfl (fun Γ C => ?_)
  have C0 := C.1
  unfold mo_thin at h
  refine x_bipush C0 (v := (-9)) dX7_thin_0 (by decide) ?_
  refine x_istore_n C0 (L' := [(1, .int (-9)), (0, .ref (π 0))]) dX7_thin_2 (by decide) rfl ?_
  refine x_aload_n C0 dX7_thin_3 rfl ?_
  refine gt_X7_19 C dX7_thin_4 ?_
  refine x_iconst C0 (v := 0) dX7_thin_7 (by decide) ?_
  refine x_iald C (k := 4) (z := 1108) rfl dX7_thin_8 h (fun h => ?_)
  refine x_iconst C0 (v := 1) dX7_thin_9 (by decide) ?_
  refine x_isub C0 dX7_thin_10 ?_
  refine x_nm h (fun x1 h => ?_)
  refine x_istore_n C0 (L' := [(2, .int x1), (1, .int (-9)), (0, .ref (π 0))]) dX7_thin_11 (by decide) rfl ?_
  obtain ⟨x9, σ10, hL, h⟩ := bd2_some h
  refine x_pick [2, 1, 0] rfl (w_mo_thin_L12 C N _ (fun b0 b1 e => ?_) N (-9) x1 σ hL)
  cases e
  refine x_iload_n C0 dX7_thin_47 rfl ?_
  exact x_iret C dX7_thin_48 h
def mo_now_L4 (N : Nat) (c1_4 : Int32) : Nat → Int32 → Int32 → St → Option (Int32 × St)
  | 0, _, _, _ => none
  | n + 1, x2_4, x3_4, σ4 =>
    ck (inb 0 58) (
    if (σ4.1 2 (ix 0)) ≤ x3_4 then (
      some (x2_4, σ4))
    else (
      bd2 (mo_holds N x3_4 σ4) fun v2 σ1 =>
      if v2 = 0 then (
        lt (x2_4 ||| 0) fun x3 =>
        lt (x3_4 + 1) fun x4 =>
        (mo_now_L4 N c1_4 n) x3 x4 σ1)
      else (
        lt (x2_4 ||| (1 <<< (x3_4 &&& 31))) fun x5 =>
        lt (x3_4 + 1) fun x6 =>
        (mo_now_L4 N c1_4 n) x5 x6 σ1)))
def mo_now_L43 (N : Nat) (c1_43 : Int32) (c2_43 : Int32) : Nat → Int32 → Int32 → St → Option (Int32 × St)
  | 0, _, _, _ => none
  | n + 1, x3_43, x4_43, σ43 =>
    ck (inb 0 1108) (
    if (σ43.1 4 (ix 0)) ≤ x4_43 then (
      some (x3_43, σ43))
    else (
      bd2 (mo_bears N x4_43 σ43) fun v10 σ9 =>
      if v10 = 0 then (
        lt (x3_43 + 1) fun x13 =>
        lt (x4_43 + 1) fun x14 =>
        (mo_now_L43 N c1_43 c2_43 n) x13 x14 σ9)
      else (
        lt (x3_43 + 0) fun x11 =>
        lt (x4_43 + 1) fun x12 =>
        (mo_now_L43 N c1_43 c2_43 n) x11 x12 σ9)))
def mo_now (N : Nat) (a1 : Int32) (σ : St) : Option (Int32 × St) :=
  bd2 (mo_now_L4 N a1 N 0 0 σ) fun x7 σ8 =>
  bd2 (mo_now_L43 N a1 x7 N 0 0 σ8) fun x15 σ16 =>
  if a1 = 0 then (
    ck (inb 2 1108) (
    some ((σ16.1 4 (ix 2)), σ16)))
  else (
    if a1 = 1 then (
      ck (inb 0 1108) (
      some ((σ16.1 4 (ix 0)), σ16)))
    else (
      if a1 = 2 then (
        ck (inb 0 1108) (
        ck (inb 1 1108) (
        bd2 (mo_longOf N (σ16.1 4 (ix 0)) (σ16.1 4 (ix 1)) σ16) fun v18 σ17 =>
        some (v18, σ17))))
      else (
        if a1 = 3 then (
          ck (inb 1 1108) (
          some ((σ16.1 4 (ix 1)), σ16)))
        else (
          if a1 = 4 then (
            bd2 (mo_most N  σ16) fun v20 σ19 =>
            some (v20, σ19))
          else (
            if a1 = 5 then (
              some (x7, σ16))
            else (
              if a1 = 6 then (
                bd2 (mo_thin N  σ16) fun v22 σ21 =>
                some (v22, σ21))
              else (
                if a1 = 7 then (
                  some (x15, σ16))
                else (
                  if a1 = 8 then (
                    ck (inb 0 1108) (
                    if (σ16.1 4 (ix 0)) = 0 then (
                      some ((-9), σ16))
                    else (
                      ck (inb 0 1108) (
                      ck (inb (3 + (((σ16.1 4 (ix 0)) - 1) / 2)) 1108) (
                      some ((σ16.1 4 (ix (3 + (((σ16.1 4 (ix 0)) - 1) / 2)))), σ16))))))
                  else (
                    some ((-1), σ16))))))))))
set_option maxRecDepth 20000 in
theorem w_mo_now_L4 {l : Launch} {D : va_G} {cA : Nat → ClassId} {π : Nat → Nat} {Γ : Gx St} {vo : Int32} {σo : St} (C : Cm Γ cX7_now RX7 cA 3 65 5 l D π shM (some .int) (some (.int vo), σo)) (N : Nat) (c1_4 : Int32)  (yo : Int32 × St) (kk4 : ∀ e2_4 σe, (e2_4, σe) = yo → Wx Γ σe 38 [(0, .ref (π 0)), (1, .int c1_4), (2, .int e2_4)] []) : ∀ (n : Nat) (x2_4 : Int32) (x3_4 : Int32) (σ4 : St), mo_now_L4 N c1_4 n x2_4 x3_4 σ4 = some yo → Wx Γ σ4 4 [(0, .ref (π 0)), (1, .int c1_4), (2, .int x2_4), (3, .int x3_4)] [] := by
  have C0 := C.1
  intro n
  induction n with
  | zero => intro x2_4 x3_4 σ4 h; cases h
  | succ n ih =>
    intro x2_4 x3_4 σ4 h
    rw [mo_now_L4] at h
    refine x_iload_n C0 dX7_now_4 rfl ?_
    refine x_aload_n C0 dX7_now_5 rfl ?_
    refine gt_X7_13 C dX7_now_6 ?_
    refine x_iconst C0 (v := 0) dX7_now_9 (by decide) ?_
    refine x_iald C (k := 2) (z := 58) rfl dX7_now_10 h (fun h => ?_)
    refine x_icmp_ge C0 (tgt := 38) dX7_now_11 (by decide) h (fun h => ?_) (fun h => ?_)
    · exact x_pick [0, 1, 2] rfl (kk4 _ _ (Option.some.inj h))
    · refine x_iload_n C0 dX7_now_14 rfl ?_
      refine x_aload_n C0 dX7_now_15 rfl ?_
      refine x_iload_n C0 dX7_now_16 rfl ?_
      obtain ⟨v2, σ1, hc, h⟩ := bd2_some h
      refine x_callVi C (k_mo_holds N x3_4  hc) umX7_119 ui_X7_holds us_X7_holds un_X7 uc_X7_holds hv_X7_holds rfl (by decide) (fks := [1, 4, 0, 5, 6, 7, 8, 9, 10, 0, 0, 0, 0, 0, 11]) rfl rfl dX7_now_17 (rest := [.int x2_4]) rfl (Nat.le_of_ble_eq_true rfl) ?_
      refine x_if_eq C0 (tgt := 29) dX7_now_20 (by decide) h (fun h => ?_) (fun h => ?_)
      · refine x_iconst C0 (v := 0) dX7_now_29 (by decide) ?_
        refine x_ior C0 dX7_now_30 ?_
        refine x_nm h (fun x3 h => ?_)
        refine x_istore_n C0 (L' := [(2, .int x3), (0, .ref (π 0)), (1, .int c1_4), (3, .int x3_4)]) dX7_now_31 (by decide) rfl ?_
        refine x_iinc C0 (j := 3) (v := 1) (L' := fun x4 => [(3, .int x4), (2, .int x3), (0, .ref (π 0)), (1, .int c1_4)]) dX7_now_32 rfl (by decide) (by decide) (fun _ => rfl) h (fun x4 h => ?_)
        refine x_goto C0 (tgt := 4) dX7_now_35 (by decide) ?_
        exact x_pick [2, 3, 1, 0] rfl (ih _ _ _ h)
      · refine x_iconst C0 (v := 1) dX7_now_23 (by decide) ?_
        refine x_iload_n C0 dX7_now_24 rfl ?_
        refine x_ishl C0 dX7_now_25 ?_
        refine x_goto C0 (tgt := 30) dX7_now_26 (by decide) ?_
        refine x_ior C0 dX7_now_30 ?_
        refine x_nm h (fun x5 h => ?_)
        refine x_istore_n C0 (L' := [(2, .int x5), (0, .ref (π 0)), (1, .int c1_4), (3, .int x3_4)]) dX7_now_31 (by decide) rfl ?_
        refine x_iinc C0 (j := 3) (v := 1) (L' := fun x6 => [(3, .int x6), (2, .int x5), (0, .ref (π 0)), (1, .int c1_4)]) dX7_now_32 rfl (by decide) (by decide) (fun _ => rfl) h (fun x6 h => ?_)
        refine x_goto C0 (tgt := 4) dX7_now_35 (by decide) ?_
        exact x_pick [2, 3, 1, 0] rfl (ih _ _ _ h)
set_option maxRecDepth 20000 in
theorem w_mo_now_L43 {l : Launch} {D : va_G} {cA : Nat → ClassId} {π : Nat → Nat} {Γ : Gx St} {vo : Int32} {σo : St} (C : Cm Γ cX7_now RX7 cA 3 65 5 l D π shM (some .int) (some (.int vo), σo)) (N : Nat) (c1_43 : Int32) (c2_43 : Int32)  (yo : Int32 × St) (kk43 : ∀ e3_43 σe, (e3_43, σe) = yo → Wx Γ σe 77 [(0, .ref (π 0)), (1, .int c1_43), (2, .int c2_43), (3, .int e3_43)] []) : ∀ (n : Nat) (x3_43 : Int32) (x4_43 : Int32) (σ43 : St), mo_now_L43 N c1_43 c2_43 n x3_43 x4_43 σ43 = some yo → Wx Γ σ43 43 [(0, .ref (π 0)), (1, .int c1_43), (2, .int c2_43), (3, .int x3_43), (4, .int x4_43)] [] := by
  have C0 := C.1
  intro n
  induction n with
  | zero => intro x3_43 x4_43 σ43 h; cases h
  | succ n ih =>
    intro x3_43 x4_43 σ43 h
    rw [mo_now_L43] at h
    refine x_iload C0 dX7_now_43 rfl ?_
    refine x_aload_n C0 dX7_now_45 rfl ?_
    refine gt_X7_19 C dX7_now_46 ?_
    refine x_iconst C0 (v := 0) dX7_now_49 (by decide) ?_
    refine x_iald C (k := 4) (z := 1108) rfl dX7_now_50 h (fun h => ?_)
    refine x_icmp_ge C0 (tgt := 77) dX7_now_51 (by decide) h (fun h => ?_) (fun h => ?_)
    · exact x_pick [0, 1, 2, 3] rfl (kk43 _ _ (Option.some.inj h))
    · refine x_iload_n C0 dX7_now_54 rfl ?_
      refine x_aload_n C0 dX7_now_55 rfl ?_
      refine x_iload C0 dX7_now_56 rfl ?_
      obtain ⟨v10, σ9, hc, h⟩ := bd2_some h
      refine x_callVi C (k_mo_bears N x4_43  hc) umX7_100 ui_X7_bears us_X7_bears un_X7 uc_X7_bears hv_X7_bears rfl (by decide) (fks := [1, 4, 0, 5, 6, 7, 8, 9, 10, 0, 0, 0, 0, 0, 11]) rfl rfl dX7_now_58 (rest := [.int x3_43]) rfl (Nat.le_of_ble_eq_true rfl) ?_
      refine x_if_ne C0 (tgt := 68) dX7_now_61 (by decide) h (fun h => ?_) (fun h => ?_)
      · refine x_iconst C0 (v := 0) dX7_now_68 (by decide) ?_
        refine x_iadd C0 dX7_now_69 ?_
        refine x_nm h (fun x11 h => ?_)
        refine x_istore_n C0 (L' := [(3, .int x11), (0, .ref (π 0)), (1, .int c1_43), (2, .int c2_43), (4, .int x4_43)]) dX7_now_70 (by decide) rfl ?_
        refine x_iinc C0 (j := 4) (v := 1) (L' := fun x12 => [(4, .int x12), (3, .int x11), (0, .ref (π 0)), (1, .int c1_43), (2, .int c2_43)]) dX7_now_71 rfl (by decide) (by decide) (fun _ => rfl) h (fun x12 h => ?_)
        refine x_goto C0 (tgt := 43) dX7_now_74 (by decide) ?_
        exact x_pick [2, 3, 4, 1, 0] rfl (ih _ _ _ h)
      · refine x_iconst C0 (v := 1) dX7_now_64 (by decide) ?_
        refine x_goto C0 (tgt := 69) dX7_now_65 (by decide) ?_
        refine x_iadd C0 dX7_now_69 ?_
        refine x_nm h (fun x13 h => ?_)
        refine x_istore_n C0 (L' := [(3, .int x13), (0, .ref (π 0)), (1, .int c1_43), (2, .int c2_43), (4, .int x4_43)]) dX7_now_70 (by decide) rfl ?_
        refine x_iinc C0 (j := 4) (v := 1) (L' := fun x14 => [(4, .int x14), (3, .int x13), (0, .ref (π 0)), (1, .int c1_43), (2, .int c2_43)]) dX7_now_71 rfl (by decide) (by decide) (fun _ => rfl) h (fun x14 h => ?_)
        refine x_goto C0 (tgt := 43) dX7_now_74 (by decide) ?_
        exact x_pick [2, 3, 4, 1, 0] rfl (ih _ _ _ h)
set_option maxRecDepth 20000 in
theorem k_mo_now {l : Launch} {D : va_G} {cA : Nat → ClassId} {π : Nat → Nat} (N : Nat) (a1 : Int32)  {σ : St} {vo : Int32} {σo : St} (h : mo_now N a1 σ = some (vo, σo)) : Kt l D cA π shM yX7_now cX7_now 5 (some .int) 3 65 [.ref (π 0), .int a1] σ (some (.int vo)) σo := by
  refine Kt.of (by decide) (Nat.le_of_ble_eq_true rfl) (L := [(0, .ref (π 0)), (1, .int a1)]) rfl (fun Γ C => ?_)
  have C0 := C.1
  unfold mo_now at h
  refine x_iconst C0 (v := 0) dX7_now_0 (by decide) ?_
  refine x_istore_n C0 (L' := [(2, .int 0), (0, .ref (π 0)), (1, .int a1)]) dX7_now_1 (by decide) rfl ?_
  refine x_iconst C0 (v := 0) dX7_now_2 (by decide) ?_
  refine x_istore_n C0 (L' := [(3, .int 0), (2, .int 0), (0, .ref (π 0)), (1, .int a1)]) dX7_now_3 (by decide) rfl ?_
  obtain ⟨x7, σ8, hL, h⟩ := bd2_some h
  refine x_pick [2, 3, 1, 0] rfl (w_mo_now_L4 C N a1 _ (fun b0 b1 e => ?_) N 0 0 σ hL)
  cases e
  refine x_iconst C0 (v := 0) dX7_now_38 (by decide) ?_
  refine x_istore_n C0 (L' := [(3, .int 0), (0, .ref (π 0)), (1, .int a1), (2, .int x7)]) dX7_now_39 (by decide) rfl ?_
  refine x_iconst C0 (v := 0) dX7_now_40 (by decide) ?_
  refine x_istore C0 (L' := [(4, .int 0), (3, .int 0), (0, .ref (π 0)), (1, .int a1), (2, .int x7)]) dX7_now_41 (by decide) rfl ?_
  obtain ⟨x15, σ16, hL, h⟩ := bd2_some h
  refine x_pick [2, 3, 4, 1, 0] rfl (w_mo_now_L43 C N a1 x7 _ (fun b0 b1 e => ?_) N 0 0 σ8 hL)
  cases e
  refine x_iload_n C0 dX7_now_77 rfl ?_
  refine x_case 0 h (fun q h => ?_) (fun q0 h => ?_)
  · refine x_tab C0 (tgt := 128) dX7_now_78 q (by decide) (by decide) rfl (by decide) ?_
    refine x_aload_n C0 dX7_now_128 rfl ?_
    refine gt_X7_19 C dX7_now_129 ?_
    refine x_iconst C0 (v := 2) dX7_now_132 (by decide) ?_
    refine x_iald C (k := 4) (z := 1108) rfl dX7_now_133 h (fun h => ?_)
    exact x_iret C dX7_now_134 h
  · refine x_case 1 h (fun q h => ?_) (fun q1 h => ?_)
    · refine x_tab C0 (tgt := 135) dX7_now_78 q (by decide) (by decide) rfl (by decide) ?_
      refine x_aload_n C0 dX7_now_135 rfl ?_
      refine gt_X7_19 C dX7_now_136 ?_
      refine x_iconst C0 (v := 0) dX7_now_139 (by decide) ?_
      refine x_iald C (k := 4) (z := 1108) rfl dX7_now_140 h (fun h => ?_)
      exact x_iret C dX7_now_141 h
    · refine x_case 2 h (fun q h => ?_) (fun q2 h => ?_)
      · refine x_tab C0 (tgt := 142) dX7_now_78 q (by decide) (by decide) rfl (by decide) ?_
        refine x_aload_n C0 dX7_now_142 rfl ?_
        refine gt_X7_19 C dX7_now_143 ?_
        refine x_iconst C0 (v := 0) dX7_now_146 (by decide) ?_
        refine x_iald C (k := 4) (z := 1108) rfl dX7_now_147 h (fun h => ?_)
        refine x_aload_n C0 dX7_now_148 rfl ?_
        refine gt_X7_19 C dX7_now_149 ?_
        refine x_iconst C0 (v := 1) dX7_now_152 (by decide) ?_
        refine x_iald C (k := 4) (z := 1108) rfl dX7_now_153 h (fun h => ?_)
        obtain ⟨v18, σ17, hc, h⟩ := bd2_some h
        refine x_callSi C (k_mo_longOf N (σ16.1 4 (ix 0)) (σ16.1 4 (ix 1))  hc) umX7_103 ut_X7_longOf un_X7 uc_X7_longOf hs_X7_longOf rfl (by decide) dX7_now_154 (rest := []) rfl (Nat.le_of_ble_eq_true rfl) ?_
        exact x_iret C dX7_now_157 h
      · refine x_case 3 h (fun q h => ?_) (fun q3 h => ?_)
        · refine x_tab C0 (tgt := 158) dX7_now_78 q (by decide) (by decide) rfl (by decide) ?_
          refine x_aload_n C0 dX7_now_158 rfl ?_
          refine gt_X7_19 C dX7_now_159 ?_
          refine x_iconst C0 (v := 1) dX7_now_162 (by decide) ?_
          refine x_iald C (k := 4) (z := 1108) rfl dX7_now_163 h (fun h => ?_)
          exact x_iret C dX7_now_164 h
        · refine x_case 4 h (fun q h => ?_) (fun q4 h => ?_)
          · refine x_tab C0 (tgt := 165) dX7_now_78 q (by decide) (by decide) rfl (by decide) ?_
            refine x_aload_n C0 dX7_now_165 rfl ?_
            obtain ⟨v20, σ19, hc, h⟩ := bd2_some h
            refine x_callVi C (k_mo_most N  hc) umX7_107 ui_X7_most us_X7_most un_X7 uc_X7_most hv_X7_most rfl (by decide) (fks := [1, 4, 0, 5, 6, 7, 8, 9, 10, 0, 0, 0, 0, 0, 11]) rfl rfl dX7_now_166 (rest := []) rfl (Nat.le_of_ble_eq_true rfl) ?_
            exact x_iret C dX7_now_169 h
          · refine x_case 5 h (fun q h => ?_) (fun q5 h => ?_)
            · refine x_tab C0 (tgt := 170) dX7_now_78 q (by decide) (by decide) rfl (by decide) ?_
              refine x_iload_n C0 dX7_now_170 rfl ?_
              exact x_iret C dX7_now_171 h
            · refine x_case 6 h (fun q h => ?_) (fun q6 h => ?_)
              · refine x_tab C0 (tgt := 172) dX7_now_78 q (by decide) (by decide) rfl (by decide) ?_
                refine x_aload_n C0 dX7_now_172 rfl ?_
                obtain ⟨v22, σ21, hc, h⟩ := bd2_some h
                refine x_callVi C (k_mo_thin N  hc) umX7_131 ui_X7_thin us_X7_thin un_X7 uc_X7_thin hv_X7_thin rfl (by decide) (fks := [1, 4, 0, 5, 6, 7, 8, 9, 10, 0, 0, 0, 0, 0, 11]) rfl rfl dX7_now_173 (rest := []) rfl (Nat.le_of_ble_eq_true rfl) ?_
                exact x_iret C dX7_now_176 h
              · refine x_case 7 h (fun q h => ?_) (fun q7 h => ?_)
                · refine x_tab C0 (tgt := 177) dX7_now_78 q (by decide) (by decide) rfl (by decide) ?_
                  refine x_iload_n C0 dX7_now_177 rfl ?_
                  exact x_iret C dX7_now_178 h
                · refine x_case 8 h (fun q h => ?_) (fun q8 h => ?_)
                  · refine x_tab C0 (tgt := 179) dX7_now_78 q (by decide) (by decide) rfl (by decide) ?_
                    refine x_aload_n C0 dX7_now_179 rfl ?_
                    refine gt_X7_19 C dX7_now_180 ?_
                    refine x_iconst C0 (v := 0) dX7_now_183 (by decide) ?_
                    refine x_iald C (k := 4) (z := 1108) rfl dX7_now_184 h (fun h => ?_)
                    refine x_if_ne C0 (tgt := 193) dX7_now_185 (by decide) h (fun h => ?_) (fun h => ?_)
                    · refine x_aload_n C0 dX7_now_193 rfl ?_
                      refine gt_X7_19 C dX7_now_194 ?_
                      refine x_iconst C0 (v := 3) dX7_now_197 (by decide) ?_
                      refine x_aload_n C0 dX7_now_198 rfl ?_
                      refine gt_X7_19 C dX7_now_199 ?_
                      refine x_iconst C0 (v := 0) dX7_now_202 (by decide) ?_
                      refine x_iald C (k := 4) (z := 1108) rfl dX7_now_203 h (fun h => ?_)
                      refine x_iconst C0 (v := 1) dX7_now_204 (by decide) ?_
                      refine x_isub C0 dX7_now_205 ?_
                      refine x_iconst C0 (v := 2) dX7_now_206 (by decide) ?_
                      refine x_idiv C0 (by decide) dX7_now_207 ?_
                      refine x_iadd C0 dX7_now_208 ?_
                      refine x_iald C (k := 4) (z := 1108) rfl dX7_now_209 h (fun h => ?_)
                      exact x_iret C dX7_now_210 h
                    · refine x_bipush C0 (v := (-9)) dX7_now_188 (by decide) ?_
                      refine x_goto C0 (tgt := 210) dX7_now_190 (by decide) ?_
                      exact x_iret C dX7_now_210 h
                  · refine x_tabD C0 (tgt := 211) dX7_now_78 (by have g0 := lv_neT q0 (show (0 : Int32).toInt = 0 from rfl); have g1 := lv_neT q1 (show (1 : Int32).toInt = 1 from rfl); have g2 := lv_neT q2 (show (2 : Int32).toInt = 2 from rfl); have g3 := lv_neT q3 (show (3 : Int32).toInt = 3 from rfl); have g4 := lv_neT q4 (show (4 : Int32).toInt = 4 from rfl); have g5 := lv_neT q5 (show (5 : Int32).toInt = 5 from rfl); have g6 := lv_neT q6 (show (6 : Int32).toInt = 6 from rfl); have g7 := lv_neT q7 (show (7 : Int32).toInt = 7 from rfl); have g8 := lv_neT q8 (show (8 : Int32).toInt = 8 from rfl); omega) (by decide) ?_
                    refine x_iconst C0 (v := (-1)) dX7_now_211 (by decide) ?_
                    exact x_iret C dX7_now_212 h
def mo_lets_L2 (N : Nat) : Nat → Int32 → St → Option (St)
  | 0, _, _ => none
  | n + 1, x1_2, σ2 =>
    if 123 ≤ x1_2 then (
      some σ2)
    else (
      ck (inb x1_2 123) (
      ck (inb x1_2 1108) (lt (put σ2 4 (ix x1_2) (σ2.1 8 (ix x1_2))) fun σ1 =>
      lt (x1_2 + 1) fun x2 =>
      (mo_lets_L2 N n) x2 σ1)))
def mo_lets (N : Nat) (σ : St) : Option (St) :=
  bd1 (mo_lets_L2 N N 0 σ) fun σ3 =>
  some σ3
set_option maxRecDepth 20000 in
theorem w_mo_lets_L2 {l : Launch} {D : va_G} {cA : Nat → ClassId} {π : Nat → Nat} {Γ : Gx St} {σo : St} (C : Cm Γ cX7_lets RX7 cA 0 0 2 l D π shM none (none, σo)) (N : Nat)  (yo : St) (kk2 : ∀ σe, σe = yo → Wx Γ σe 26 [] []) : ∀ (n : Nat) (x1_2 : Int32) (σ2 : St), mo_lets_L2 N n x1_2 σ2 = some yo → Wx Γ σ2 2 [(0, .ref (π 0)), (1, .int x1_2)] [] := by
  have C0 := C.1
  intro n
  induction n with
  | zero => intro x1_2 σ2 h; cases h
  | succ n ih =>
    intro x1_2 σ2 h
    rw [mo_lets_L2] at h
    refine x_iload_n C0 dX7_lets_2 rfl ?_
    refine x_bipush C0 (v := 123) dX7_lets_3 (by decide) ?_
    refine x_icmp_ge C0 (tgt := 26) dX7_lets_5 (by decide) h (fun h => ?_) (fun h => ?_)
    · exact x_pick [] rfl (kk2 _ (Option.some.inj h))
    · refine x_aload_n C0 dX7_lets_8 rfl ?_
      refine gt_X7_19 C dX7_lets_9 ?_
      refine x_iload_n C0 dX7_lets_12 rfl ?_
      refine x_aload_n C0 dX7_lets_13 rfl ?_
      refine gt_X7_32 C dX7_lets_14 ?_
      refine x_iload_n C0 dX7_lets_17 rfl ?_
      refine x_iald C (k := 8) (z := 123) rfl dX7_lets_18 h (fun h => ?_)
      refine x_iast C (k := 4) (z := 1108) rfl dX7_lets_19 h (fun σ1 h => ?_)
      refine x_iinc C0 (j := 1) (v := 1) (L' := fun x2 => [(1, .int x2), (0, .ref (π 0))]) dX7_lets_20 rfl (by decide) (by decide) (fun _ => rfl) h (fun x2 h => ?_)
      refine x_goto C0 (tgt := 2) dX7_lets_23 (by decide) ?_
      exact x_pick [1, 0] rfl (ih _ _ h)
set_option maxRecDepth 20000 in
theorem k_mo_lets {l : Launch} {D : va_G} {cA : Nat → ClassId} {π : Nat → Nat} (N : Nat)  {σ : St} {σo : St} (h : mo_lets N σ = some σo) : Kt l D cA π shM yX7_lets cX7_lets 2 none 0 0 [.ref (π 0)] σ none σo := by
  refine Kt.of (by decide) (Nat.le_of_ble_eq_true rfl) (L := [(0, .ref (π 0))]) rfl (fun Γ C => ?_)
  have C0 := C.1
  unfold mo_lets at h
  refine x_iconst C0 (v := 0) dX7_lets_0 (by decide) ?_
  refine x_istore_n C0 (L' := [(1, .int 0), (0, .ref (π 0))]) dX7_lets_1 (by decide) rfl ?_
  obtain ⟨σ3, hL, h⟩ := bd1_some h
  refine x_pick [1, 0] rfl (w_mo_lets_L2 C N _ (fun b0 e => ?_) N 0 σ hL)
  cases e
  exact x_vret C dX7_lets_26 h
def mo_remembers_L2 (N : Nat) : Nat → Int32 → St → Option (St)
  | 0, _, _ => none
  | n + 1, x1_2, σ2 =>
    if 123 ≤ x1_2 then (
      some σ2)
    else (
      ck (inb x1_2 1108) (
      ck (inb x1_2 123) (lt (put σ2 8 (ix x1_2) (σ2.1 4 (ix x1_2))) fun σ1 =>
      lt (x1_2 + 1) fun x2 =>
      (mo_remembers_L2 N n) x2 σ1)))
def mo_remembers (N : Nat) (σ : St) : Option (St) :=
  bd1 (mo_remembers_L2 N N 0 σ) fun σ3 =>
  some σ3
set_option maxRecDepth 20000 in
theorem w_mo_remembers_L2 {l : Launch} {D : va_G} {cA : Nat → ClassId} {π : Nat → Nat} {Γ : Gx St} {σo : St} (C : Cm Γ cX7_remembers RX7 cA 0 0 2 l D π shM none (none, σo)) (N : Nat)  (yo : St) (kk2 : ∀ σe, σe = yo → Wx Γ σe 26 [] []) : ∀ (n : Nat) (x1_2 : Int32) (σ2 : St), mo_remembers_L2 N n x1_2 σ2 = some yo → Wx Γ σ2 2 [(0, .ref (π 0)), (1, .int x1_2)] [] := by
  have C0 := C.1
  intro n
  induction n with
  | zero => intro x1_2 σ2 h; cases h
  | succ n ih =>
    intro x1_2 σ2 h
    rw [mo_remembers_L2] at h
    refine x_iload_n C0 dX7_remembers_2 rfl ?_
    refine x_bipush C0 (v := 123) dX7_remembers_3 (by decide) ?_
    refine x_icmp_ge C0 (tgt := 26) dX7_remembers_5 (by decide) h (fun h => ?_) (fun h => ?_)
    · exact x_pick [] rfl (kk2 _ (Option.some.inj h))
    · refine x_aload_n C0 dX7_remembers_8 rfl ?_
      refine gt_X7_32 C dX7_remembers_9 ?_
      refine x_iload_n C0 dX7_remembers_12 rfl ?_
      refine x_aload_n C0 dX7_remembers_13 rfl ?_
      refine gt_X7_19 C dX7_remembers_14 ?_
      refine x_iload_n C0 dX7_remembers_17 rfl ?_
      refine x_iald C (k := 4) (z := 1108) rfl dX7_remembers_18 h (fun h => ?_)
      refine x_iast C (k := 8) (z := 123) rfl dX7_remembers_19 h (fun σ1 h => ?_)
      refine x_iinc C0 (j := 1) (v := 1) (L' := fun x2 => [(1, .int x2), (0, .ref (π 0))]) dX7_remembers_20 rfl (by decide) (by decide) (fun _ => rfl) h (fun x2 h => ?_)
      refine x_goto C0 (tgt := 2) dX7_remembers_23 (by decide) ?_
      exact x_pick [1, 0] rfl (ih _ _ h)
set_option maxRecDepth 20000 in
theorem k_mo_remembers {l : Launch} {D : va_G} {cA : Nat → ClassId} {π : Nat → Nat} (N : Nat)  {σ : St} {σo : St} (h : mo_remembers N σ = some σo) : Kt l D cA π shM yX7_remembers cX7_remembers 2 none 0 0 [.ref (π 0)] σ none σo := by
  refine Kt.of (by decide) (Nat.le_of_ble_eq_true rfl) (L := [(0, .ref (π 0))]) rfl (fun Γ C => ?_)
  have C0 := C.1
  unfold mo_remembers at h
  refine x_iconst C0 (v := 0) dX7_remembers_0 (by decide) ?_
  refine x_istore_n C0 (L' := [(1, .int 0), (0, .ref (π 0))]) dX7_remembers_1 (by decide) rfl ?_
  obtain ⟨σ3, hL, h⟩ := bd1_some h
  refine x_pick [1, 0] rfl (w_mo_remembers_L2 C N _ (fun b0 e => ?_) N 0 σ hL)
  cases e
  exact x_vret C dX7_remembers_26 h
def mo_order_L36 (N : Nat) (c3_36 : Int32) (c1_36 : Int32) (c2_36 : Int32) : Nat → Int32 → Int32 → St → Option (Int32 × St)
  | 0, _, _, _ => none
  | n + 1, x4_36, x5_36, σ36 =>
    if c3_36 ≤ x5_36 then (
      some (x4_36, σ36))
    else (
      lt (x4_36 * c3_36) fun x4 =>
      lt (x5_36 + 1) fun x5 =>
      (mo_order_L36 N c3_36 c1_36 c2_36 n) x4 x5 σ36)
def mo_order_L89 (N : Nat) (c3_65 : Int32) (c1_65 : Int32) (c2_65 : Int32) (c4_65 : Int32) (c5_89 : Int32) (c6_89 : Int32) : Nat → Int32 → Int32 → Int32 → St → Option (Int32 × St)
  | 0, _, _, _, _ => none
  | n + 1, x7_89, x8_89, x9_89, σ89 =>
    if c3_65 ≤ x9_89 then (
      some (x7_89, σ89))
    else (
      ck (nz c3_65) (
      lt (x7_89 ||| (1 <<< ((rem x8_89 c3_65) &&& 31))) fun x9 =>
      ck (nz c3_65) (
      lt (x8_89 / c3_65) fun x10 =>
      lt (x9_89 + 1) fun x11 =>
      (mo_order_L89 N c3_65 c1_65 c2_65 c4_65 c5_89 c6_89 n) x9 x10 x11 σ89)))
def mo_order_J199 (c2_65 : Int32) (c1_65 : Int32) (c3_65 : Int32) (c4_65 : Int32) (c6_154 : Int32) (R154 : Int32 → Int32 → Int32 → Int32 → St → Option (Int32 × Int32 × St)) (x5_199 : Int32) (x9_199 : Int32) (x10_199 : Int32) (x11_199 : Int32) (x12_199 : Int32) (σ199 : St) : Option (Int32 × Int32 × St) :=
  if x11_199 = c2_65 then (
    lt (x11_199 + 1) fun x19 =>
    R154 x12_199 x9_199 x10_199 x19 σ199)
  else (
    lt (x11_199 + 1) fun x18 =>
    R154 x5_199 x9_199 x10_199 x18 σ199)
def mo_order_L154 (N : Nat) (c3_65 : Int32) (c6_154 : Int32) (c2_65 : Int32) (c1_65 : Int32) (c4_65 : Int32) : Nat → Int32 → Int32 → Int32 → Int32 → St → Option (Int32 × Int32 × St)
  | 0, _, _, _, _, _ => none
  | n + 1, x5_154, x9_154, x10_154, x11_154, σ154 =>
    if c3_65 ≤ x11_154 then (
      some (x5_154, x9_154, σ154))
    else (
      if x9_154 = 0 then (
        some (x5_154, x9_154, σ154))
      else (
        ck (nz c3_65) (
        lt (x10_154 / c3_65) fun x14 =>
        ck (nz x14) (
        ck (nz c3_65) (
        lt (rem (c6_154 / x14) c3_65) fun x15 =>
        bd2 (mo_holds N x15 σ154) fun v17 σ16 =>
        if v17 = 0 then (
          mo_order_J199 c2_65 c1_65 c3_65 c4_65 c6_154 (mo_order_L154 N c3_65 c6_154 c2_65 c1_65 c4_65 n) x5_154 v17 x14 x11_154 x15 σ16)
        else (
          bd1 (mo_goesOver N x15 σ16) fun σ20 =>
          mo_order_J199 c2_65 c1_65 c3_65 c4_65 c6_154 (mo_order_L154 N c3_65 c6_154 c2_65 c1_65 c4_65 n) x5_154 v17 x14 x11_154 x15 σ20))))))
def mo_order_J232 (N : Nat) (c1_65 : Int32) (c2_65 : Int32) (c3_65 : Int32) (c4_65 : Int32) (R65 : Int32 → Int32 → St → Option (Int32 × St)) (x6_232 : Int32) (t0_232 : Int32) (σ232 : St) : Option (Int32 × St) :=
  bd1 (mo_lets N  σ232) fun σ24 =>
  lt (x6_232 + 1) fun x25 =>
  R65 t0_232 x25 σ24
def mo_order_J220 (N : Nat) (c1_65 : Int32) (c2_65 : Int32) (c3_65 : Int32) (c4_65 : Int32) (R65 : Int32 → Int32 → St → Option (Int32 × St)) (x5_220 : Int32) (x6_220 : Int32) (x9_220 : Int32) (σ220 : St) : Option (Int32 × St) :=
  if x9_220 = 0 then (
    mo_order_J232 N c1_65 c2_65 c3_65 c4_65 R65 x6_220 (-9) σ220)
  else (
    mo_order_J232 N c1_65 c2_65 c3_65 c4_65 R65 x6_220 x5_220 σ220)
def mo_order_L65 (N : Nat) (c4_65 : Int32) (c3_65 : Int32) (c1_65 : Int32) (c2_65 : Int32) : Nat → Int32 → Int32 → St → Option (Int32 × St)
  | 0, _, _, _ => none
  | n + 1, x5_65, x6_65, σ65 =>
    if c4_65 ≤ x6_65 then (
      some (x5_65, σ65))
    else (
      if x5_65 = (-9) then (
        bd2 (mo_order_L89 N c3_65 c1_65 c2_65 c4_65 x5_65 x6_65 N 0 x6_65 0 σ65) fun x12 σ13 =>
        if x12 = ((1 <<< (c3_65 &&& 31)) - 1) then (
          if c1_65 < 0 then (
            bd3 (mo_order_L154 N c3_65 x6_65 c2_65 c1_65 c4_65 N x5_65 1 c4_65 0 σ13) fun x26 x27 σ28 =>
            mo_order_J220 N c1_65 c2_65 c3_65 c4_65 (mo_order_L65 N c4_65 c3_65 c1_65 c2_65 n) x26 x6_65 x27 σ28)
          else (
            ck (nz c3_65) (
            if (rem x6_65 c3_65) = c1_65 then (
              bd3 (mo_order_L154 N c3_65 x6_65 c2_65 c1_65 c4_65 N x5_65 1 c4_65 0 σ13) fun x32 x33 σ34 =>
              mo_order_J220 N c1_65 c2_65 c3_65 c4_65 (mo_order_L65 N c4_65 c3_65 c1_65 c2_65 n) x32 x6_65 x33 σ34)
            else (
              bd3 (mo_order_L154 N c3_65 x6_65 c2_65 c1_65 c4_65 N x5_65 0 c4_65 0 σ13) fun x29 x30 σ31 =>
              mo_order_J220 N c1_65 c2_65 c3_65 c4_65 (mo_order_L65 N c4_65 c3_65 c1_65 c2_65 n) x29 x6_65 x30 σ31))))
        else (
          bd3 (mo_order_L154 N c3_65 x6_65 c2_65 c1_65 c4_65 N x5_65 0 c4_65 0 σ13) fun x21 x22 σ23 =>
          mo_order_J220 N c1_65 c2_65 c3_65 c4_65 (mo_order_L65 N c4_65 c3_65 c1_65 c2_65 n) x21 x6_65 x22 σ23))
      else (
        some (x5_65, σ65)))
def mo_order_J13 (N : Nat) (x1_13 : Int32) (x2_13 : Int32) (σ13 : St) : Option (Int32 × St) :=
  bd2 (mo_isPerson N x2_13 σ13) fun v2 σ1 =>
  if v2 = 0 then (
    some ((-1), σ1))
  else (
    ck (inb 0 58) (
    lt (σ1.1 2 (ix 0)) fun x3 =>
    bd2 (mo_order_L36 N x3 x1_13 x2_13 N 1 0 σ1) fun x6 σ7 =>
    bd1 (mo_remembers N  σ7) fun σ8 =>
    bd2 (mo_order_L65 N x6 x3 x1_13 x2_13 N (-9) 0 σ8) fun x35 σ36 =>
    some (x35, σ36)))
def mo_order (N : Nat) (a1 : Int32) (a2 : Int32) (σ : St) : Option (Int32 × St) :=
  if a1 = (-1) then (
    mo_order_J13 N a1 a2 σ)
  else (
    bd2 (mo_isPerson N a1 σ) fun v38 σ37 =>
    if v38 = 0 then (
      some ((-1), σ37))
    else (
      mo_order_J13 N a1 a2 σ37))
set_option maxRecDepth 20000 in
theorem w_mo_order_L36 {l : Launch} {D : va_G} {cA : Nat → ClassId} {π : Nat → Nat} {Γ : Gx St} {vo : Int32} {σo : St} (C : Cm Γ cX7_order RX7 cA 3 67 13 l D π shM (some .int) (some (.int vo), σo)) (N : Nat) (c3_36 : Int32) (c1_36 : Int32) (c2_36 : Int32)  (yo : Int32 × St) (kk36 : ∀ e4_36 σe, (e4_36, σe) = yo → Wx Γ σe 54 [(0, .ref (π 0)), (1, .int c1_36), (2, .int c2_36), (3, .int c3_36), (4, .int e4_36)] []) : ∀ (n : Nat) (x4_36 : Int32) (x5_36 : Int32) (σ36 : St), mo_order_L36 N c3_36 c1_36 c2_36 n x4_36 x5_36 σ36 = some yo → Wx Γ σ36 36 [(0, .ref (π 0)), (1, .int c1_36), (2, .int c2_36), (3, .int c3_36), (4, .int x4_36), (5, .int x5_36)] [] := by
  have C0 := C.1
  intro n
  induction n with
  | zero => intro x4_36 x5_36 σ36 h; cases h
  | succ n ih =>
    intro x4_36 x5_36 σ36 h
    rw [mo_order_L36] at h
    refine x_iload C0 dX7_order_36 rfl ?_
    refine x_iload_n C0 dX7_order_38 rfl ?_
    refine x_icmp_ge C0 (tgt := 54) dX7_order_39 (by decide) h (fun h => ?_) (fun h => ?_)
    · exact x_pick [0, 1, 2, 3, 4] rfl (kk36 _ _ (Option.some.inj h))
    · refine x_iload C0 dX7_order_42 rfl ?_
      refine x_iload_n C0 dX7_order_44 rfl ?_
      refine x_imul C0 dX7_order_45 ?_
      refine x_nm h (fun x4 h => ?_)
      refine x_istore C0 (L' := [(4, .int x4), (0, .ref (π 0)), (1, .int c1_36), (2, .int c2_36), (3, .int c3_36), (5, .int x5_36)]) dX7_order_46 (by decide) rfl ?_
      refine x_iinc C0 (j := 5) (v := 1) (L' := fun x5 => [(5, .int x5), (4, .int x4), (0, .ref (π 0)), (1, .int c1_36), (2, .int c2_36), (3, .int c3_36)]) dX7_order_48 rfl (by decide) (by decide) (fun _ => rfl) h (fun x5 h => ?_)
      refine x_goto C0 (tgt := 36) dX7_order_51 (by decide) ?_
      exact x_pick [2, 3, 4, 5, 1, 0] rfl (ih _ _ _ h)
set_option maxRecDepth 20000 in
theorem w_mo_order_L89 {l : Launch} {D : va_G} {cA : Nat → ClassId} {π : Nat → Nat} {Γ : Gx St} {vo : Int32} {σo : St} (C : Cm Γ cX7_order RX7 cA 3 67 13 l D π shM (some .int) (some (.int vo), σo)) (N : Nat) (c3_65 : Int32) (c1_65 : Int32) (c2_65 : Int32) (c4_65 : Int32) (c5_89 : Int32) (c6_89 : Int32)  (yo : Int32 × St) (kk89 : ∀ e7_89 σe, (e7_89, σe) = yo → Wx Γ σe 118 [(0, .ref (π 0)), (1, .int c1_65), (2, .int c2_65), (3, .int c3_65), (4, .int c4_65), (5, .int c5_89), (6, .int c6_89), (7, .int e7_89)] []) : ∀ (n : Nat) (x7_89 : Int32) (x8_89 : Int32) (x9_89 : Int32) (σ89 : St), mo_order_L89 N c3_65 c1_65 c2_65 c4_65 c5_89 c6_89 n x7_89 x8_89 x9_89 σ89 = some yo → Wx Γ σ89 89 [(0, .ref (π 0)), (1, .int c1_65), (2, .int c2_65), (3, .int c3_65), (4, .int c4_65), (5, .int c5_89), (6, .int c6_89), (7, .int x7_89), (8, .int x8_89), (9, .int x9_89)] [] := by
  have C0 := C.1
  intro n
  induction n with
  | zero => intro x7_89 x8_89 x9_89 σ89 h; cases h
  | succ n ih =>
    intro x7_89 x8_89 x9_89 σ89 h
    rw [mo_order_L89] at h
    refine x_iload C0 dX7_order_89 rfl ?_
    refine x_iload_n C0 dX7_order_91 rfl ?_
    refine x_icmp_ge C0 (tgt := 118) dX7_order_92 (by decide) h (fun h => ?_) (fun h => ?_)
    · exact x_pick [0, 1, 2, 3, 4, 5, 6, 7] rfl (kk89 _ _ (Option.some.inj h))
    · refine x_iload C0 dX7_order_95 rfl ?_
      refine x_iconst C0 (v := 1) dX7_order_97 (by decide) ?_
      refine x_iload C0 dX7_order_98 rfl ?_
      refine x_iload_n C0 dX7_order_100 rfl ?_
      refine x_chk h (fun q h => ?_)
      refine x_irem C0 (nz_ne q) dX7_order_101 ?_
      refine x_ishl C0 dX7_order_102 ?_
      refine x_ior C0 dX7_order_103 ?_
      refine x_nm h (fun x9 h => ?_)
      refine x_istore C0 (L' := [(7, .int x9), (0, .ref (π 0)), (1, .int c1_65), (2, .int c2_65), (3, .int c3_65), (4, .int c4_65), (5, .int c5_89), (6, .int c6_89), (8, .int x8_89), (9, .int x9_89)]) dX7_order_104 (by decide) rfl ?_
      refine x_iload C0 dX7_order_106 rfl ?_
      refine x_iload_n C0 dX7_order_108 rfl ?_
      refine x_chk h (fun q h => ?_)
      refine x_idiv C0 (nz_ne q) dX7_order_109 ?_
      refine x_nm h (fun x10 h => ?_)
      refine x_istore C0 (L' := [(8, .int x10), (7, .int x9), (0, .ref (π 0)), (1, .int c1_65), (2, .int c2_65), (3, .int c3_65), (4, .int c4_65), (5, .int c5_89), (6, .int c6_89), (9, .int x9_89)]) dX7_order_110 (by decide) rfl ?_
      refine x_iinc C0 (j := 9) (v := 1) (L' := fun x11 => [(9, .int x11), (8, .int x10), (7, .int x9), (0, .ref (π 0)), (1, .int c1_65), (2, .int c2_65), (3, .int c3_65), (4, .int c4_65), (5, .int c5_89), (6, .int c6_89)]) dX7_order_112 rfl (by decide) (by decide) (fun _ => rfl) h (fun x11 h => ?_)
      refine x_goto C0 (tgt := 89) dX7_order_115 (by decide) ?_
      exact x_pick [3, 4, 5, 6, 7, 8, 9, 2, 1, 0] rfl (ih _ _ _ _ h)
set_option maxRecDepth 20000 in
theorem w_mo_order_J199 {l : Launch} {D : va_G} {cA : Nat → ClassId} {π : Nat → Nat} {Γ : Gx St} {vo : Int32} {σo : St} {yo : Int32 × Int32 × St} (C : Cm Γ cX7_order RX7 cA 3 67 13 l D π shM (some .int) (some (.int vo), σo)) (c2_65 : Int32) (c1_65 : Int32) (c3_65 : Int32) (c4_65 : Int32) (c6_154 : Int32) (R154 : Int32 → Int32 → Int32 → Int32 → St → Option (Int32 × Int32 × St)) (x5_199 : Int32) (x9_199 : Int32) (x10_199 : Int32) (x11_199 : Int32) (x12_199 : Int32) (σ199 : St) (hR154 : ∀ x5_154 x9_154 x10_154 x11_154 σ, R154 x5_154 x9_154 x10_154 x11_154 σ = some yo → Wx Γ σ 154 [(0, .ref (π 0)), (1, .int c1_65), (2, .int c2_65), (3, .int c3_65), (4, .int c4_65), (5, .int x5_154), (6, .int c6_154), (9, .int x9_154), (10, .int x10_154), (11, .int x11_154)] []) (h : mo_order_J199 c2_65 c1_65 c3_65 c4_65 c6_154 R154 x5_199 x9_199 x10_199 x11_199 x12_199 σ199 = some yo) : Wx Γ σ199 199 [(0, .ref (π 0)), (1, .int c1_65), (2, .int c2_65), (3, .int c3_65), (4, .int c4_65), (5, .int x5_199), (6, .int c6_154), (9, .int x9_199), (10, .int x10_199), (11, .int x11_199), (12, .int x12_199)] [] := by
  have C0 := C.1
  unfold mo_order_J199 at h
  refine x_iload C0 dX7_order_199 rfl ?_
  refine x_iload_n C0 dX7_order_201 rfl ?_
  refine x_icmp_ne C0 (tgt := 210) dX7_order_202 (by decide) h (fun h => ?_) (fun h => ?_)
  · refine x_iload C0 dX7_order_210 rfl ?_
    refine x_istore C0 (L' := [(5, .int x5_199), (0, .ref (π 0)), (1, .int c1_65), (2, .int c2_65), (3, .int c3_65), (4, .int c4_65), (6, .int c6_154), (9, .int x9_199), (10, .int x10_199), (11, .int x11_199), (12, .int x12_199)]) dX7_order_212 (by decide) rfl ?_
    refine x_iinc C0 (j := 9) (v := 1) (L' := fun x18 => [(11, .int x18), (5, .int x5_199), (0, .ref (π 0)), (1, .int c1_65), (2, .int c2_65), (3, .int c3_65), (4, .int c4_65), (6, .int c6_154), (9, .int x9_199), (10, .int x10_199), (12, .int x12_199)]) dX7_order_214 rfl (by decide) (by decide) (fun _ => rfl) h (fun x18 h => ?_)
    refine x_goto C0 (tgt := 154) dX7_order_217 (by decide) ?_
    exact x_pick [2, 3, 4, 5, 6, 1, 7, 8, 9, 0] rfl (hR154 _ _ _ _ _ h)
  · refine x_iload C0 dX7_order_205 rfl ?_
    refine x_goto C0 (tgt := 212) dX7_order_207 (by decide) ?_
    refine x_istore C0 (L' := [(5, .int x12_199), (0, .ref (π 0)), (1, .int c1_65), (2, .int c2_65), (3, .int c3_65), (4, .int c4_65), (6, .int c6_154), (9, .int x9_199), (10, .int x10_199), (11, .int x11_199), (12, .int x12_199)]) dX7_order_212 (by decide) rfl ?_
    refine x_iinc C0 (j := 9) (v := 1) (L' := fun x19 => [(11, .int x19), (5, .int x12_199), (0, .ref (π 0)), (1, .int c1_65), (2, .int c2_65), (3, .int c3_65), (4, .int c4_65), (6, .int c6_154), (9, .int x9_199), (10, .int x10_199), (12, .int x12_199)]) dX7_order_214 rfl (by decide) (by decide) (fun _ => rfl) h (fun x19 h => ?_)
    refine x_goto C0 (tgt := 154) dX7_order_217 (by decide) ?_
    exact x_pick [2, 3, 4, 5, 6, 1, 7, 8, 9, 0] rfl (hR154 _ _ _ _ _ h)
set_option maxRecDepth 20000 in
theorem w_mo_order_L154 {l : Launch} {D : va_G} {cA : Nat → ClassId} {π : Nat → Nat} {Γ : Gx St} {vo : Int32} {σo : St} (C : Cm Γ cX7_order RX7 cA 3 67 13 l D π shM (some .int) (some (.int vo), σo)) (N : Nat) (c3_65 : Int32) (c6_154 : Int32) (c2_65 : Int32) (c1_65 : Int32) (c4_65 : Int32)  (yo : Int32 × Int32 × St) (kk154 : ∀ e5_154 e9_154 σe, (e5_154, e9_154, σe) = yo → Wx Γ σe 220 [(0, .ref (π 0)), (1, .int c1_65), (2, .int c2_65), (3, .int c3_65), (4, .int c4_65), (5, .int e5_154), (6, .int c6_154), (9, .int e9_154)] []) : ∀ (n : Nat) (x5_154 : Int32) (x9_154 : Int32) (x10_154 : Int32) (x11_154 : Int32) (σ154 : St), mo_order_L154 N c3_65 c6_154 c2_65 c1_65 c4_65 n x5_154 x9_154 x10_154 x11_154 σ154 = some yo → Wx Γ σ154 154 [(0, .ref (π 0)), (1, .int c1_65), (2, .int c2_65), (3, .int c3_65), (4, .int c4_65), (5, .int x5_154), (6, .int c6_154), (9, .int x9_154), (10, .int x10_154), (11, .int x11_154)] [] := by
  have C0 := C.1
  intro n
  induction n with
  | zero => intro x5_154 x9_154 x10_154 x11_154 σ154 h; cases h
  | succ n ih =>
    intro x5_154 x9_154 x10_154 x11_154 σ154 h
    rw [mo_order_L154] at h
    refine x_iload C0 dX7_order_154 rfl ?_
    refine x_iload_n C0 dX7_order_156 rfl ?_
    refine x_icmp_ge C0 (tgt := 220) dX7_order_157 (by decide) h (fun h => ?_) (fun h => ?_)
    · exact x_pick [0, 1, 2, 3, 4, 5, 6, 7] rfl (kk154 _ _ _ (Option.some.inj h))
    · refine x_iload C0 dX7_order_160 rfl ?_
      refine x_if_eq C0 (tgt := 220) dX7_order_162 (by decide) h (fun h => ?_) (fun h => ?_)
      · exact x_pick [0, 1, 2, 3, 4, 5, 6, 7] rfl (kk154 _ _ _ (Option.some.inj h))
      · refine x_iload C0 dX7_order_165 rfl ?_
        refine x_iload_n C0 dX7_order_167 rfl ?_
        refine x_chk h (fun q h => ?_)
        refine x_idiv C0 (nz_ne q) dX7_order_168 ?_
        refine x_nm h (fun x14 h => ?_)
        refine x_istore C0 (L' := [(10, .int x14), (0, .ref (π 0)), (1, .int c1_65), (2, .int c2_65), (3, .int c3_65), (4, .int c4_65), (5, .int x5_154), (6, .int c6_154), (9, .int x9_154), (11, .int x11_154)]) dX7_order_169 (by decide) rfl ?_
        refine x_iload C0 dX7_order_171 rfl ?_
        refine x_iload C0 dX7_order_173 rfl ?_
        refine x_chk h (fun q h => ?_)
        refine x_idiv C0 (nz_ne q) dX7_order_175 ?_
        refine x_iload_n C0 dX7_order_176 rfl ?_
        refine x_chk h (fun q h => ?_)
        refine x_irem C0 (nz_ne q) dX7_order_177 ?_
        refine x_nm h (fun x15 h => ?_)
        refine x_istore C0 (L' := [(12, .int x15), (10, .int x14), (0, .ref (π 0)), (1, .int c1_65), (2, .int c2_65), (3, .int c3_65), (4, .int c4_65), (5, .int x5_154), (6, .int c6_154), (9, .int x9_154), (11, .int x11_154)]) dX7_order_178 (by decide) rfl ?_
        refine x_aload_n C0 dX7_order_180 rfl ?_
        refine x_iload C0 dX7_order_181 rfl ?_
        obtain ⟨v17, σ16, hc, h⟩ := bd2_some h
        refine x_callVi C (k_mo_holds N x15  hc) umX7_119 ui_X7_holds us_X7_holds un_X7 uc_X7_holds hv_X7_holds rfl (by decide) (fks := [1, 4, 0, 5, 6, 7, 8, 9, 10, 0, 0, 0, 0, 0, 11]) rfl rfl dX7_order_183 (rest := []) rfl (Nat.le_of_ble_eq_true rfl) ?_
        refine x_istore C0 (L' := [(9, .int v17), (12, .int x15), (10, .int x14), (0, .ref (π 0)), (1, .int c1_65), (2, .int c2_65), (3, .int c3_65), (4, .int c4_65), (5, .int x5_154), (6, .int c6_154), (11, .int x11_154)]) dX7_order_186 (by decide) rfl ?_
        refine x_iload C0 dX7_order_188 rfl ?_
        refine x_if_eq C0 (tgt := 199) dX7_order_190 (by decide) h (fun h => ?_) (fun h => ?_)
        · exact x_pick [3, 4, 5, 6, 7, 8, 9, 0, 2, 10, 1] rfl (w_mo_order_J199 C c2_65 c1_65 c3_65 c4_65 c6_154 (mo_order_L154 N c3_65 c6_154 c2_65 c1_65 c4_65 n) x5_154 v17 x14 x11_154 x15 σ16 ih h)
        · refine x_aload_n C0 dX7_order_193 rfl ?_
          refine x_iload C0 dX7_order_194 rfl ?_
          obtain ⟨σ20, hc, h⟩ := bd1_some h
          refine x_callVv C (k_mo_goesOver N x15  hc) umX7_125 ui_X7_goesOver us_X7_goesOver un_X7 uc_X7_goesOver hv_X7_goesOver rfl (by decide) (fks := [1, 4, 0, 5, 6, 7, 8, 9, 10, 0, 0, 0, 0, 0, 11]) rfl rfl dX7_order_196 (rest := []) rfl (Nat.le_of_ble_eq_true rfl) ?_
          exact x_pick [3, 4, 5, 6, 7, 8, 9, 0, 2, 10, 1] rfl (w_mo_order_J199 C c2_65 c1_65 c3_65 c4_65 c6_154 (mo_order_L154 N c3_65 c6_154 c2_65 c1_65 c4_65 n) x5_154 v17 x14 x11_154 x15 σ20 ih h)
set_option maxRecDepth 20000 in
theorem w_mo_order_J232 {l : Launch} {D : va_G} {cA : Nat → ClassId} {π : Nat → Nat} {Γ : Gx St} {vo : Int32} {σo : St} {yo : Int32 × St} (C : Cm Γ cX7_order RX7 cA 3 67 13 l D π shM (some .int) (some (.int vo), σo)) (N : Nat) (c1_65 : Int32) (c2_65 : Int32) (c3_65 : Int32) (c4_65 : Int32) (R65 : Int32 → Int32 → St → Option (Int32 × St)) (x6_232 : Int32) (t0_232 : Int32) (σ232 : St) (hR65 : ∀ x5_65 x6_65 σ, R65 x5_65 x6_65 σ = some yo → Wx Γ σ 65 [(0, .ref (π 0)), (1, .int c1_65), (2, .int c2_65), (3, .int c3_65), (4, .int c4_65), (5, .int x5_65), (6, .int x6_65)] []) (h : mo_order_J232 N c1_65 c2_65 c3_65 c4_65 R65 x6_232 t0_232 σ232 = some yo) : Wx Γ σ232 232 [(0, .ref (π 0)), (1, .int c1_65), (2, .int c2_65), (3, .int c3_65), (4, .int c4_65), (6, .int x6_232)] [.int t0_232] := by
  have C0 := C.1
  unfold mo_order_J232 at h
  refine x_istore C0 (L' := [(5, .int t0_232), (0, .ref (π 0)), (1, .int c1_65), (2, .int c2_65), (3, .int c3_65), (4, .int c4_65), (6, .int x6_232)]) dX7_order_232 (by decide) rfl ?_
  refine x_aload_n C0 dX7_order_234 rfl ?_
  obtain ⟨σ24, hc, h⟩ := bd1_some h
  refine x_callVv C (k_mo_lets N  hc) umX7_137 ui_X7_lets us_X7_lets un_X7 uc_X7_lets hv_X7_lets rfl (by decide) (fks := [1, 4, 0, 5, 6, 7, 8, 9, 10, 0, 0, 0, 0, 0, 11]) rfl rfl dX7_order_235 (rest := []) rfl (Nat.le_of_ble_eq_true rfl) ?_
  refine x_iinc C0 (j := 6) (v := 1) (L' := fun x25 => [(6, .int x25), (5, .int t0_232), (0, .ref (π 0)), (1, .int c1_65), (2, .int c2_65), (3, .int c3_65), (4, .int c4_65)]) dX7_order_238 rfl (by decide) (by decide) (fun _ => rfl) h (fun x25 h => ?_)
  refine x_goto C0 (tgt := 65) dX7_order_241 (by decide) ?_
  exact x_pick [2, 3, 4, 5, 6, 1, 0] rfl (hR65 _ _ _ h)
set_option maxRecDepth 20000 in
theorem w_mo_order_J220 {l : Launch} {D : va_G} {cA : Nat → ClassId} {π : Nat → Nat} {Γ : Gx St} {vo : Int32} {σo : St} {yo : Int32 × St} (C : Cm Γ cX7_order RX7 cA 3 67 13 l D π shM (some .int) (some (.int vo), σo)) (N : Nat) (c1_65 : Int32) (c2_65 : Int32) (c3_65 : Int32) (c4_65 : Int32) (R65 : Int32 → Int32 → St → Option (Int32 × St)) (x5_220 : Int32) (x6_220 : Int32) (x9_220 : Int32) (σ220 : St) (hR65 : ∀ x5_65 x6_65 σ, R65 x5_65 x6_65 σ = some yo → Wx Γ σ 65 [(0, .ref (π 0)), (1, .int c1_65), (2, .int c2_65), (3, .int c3_65), (4, .int c4_65), (5, .int x5_65), (6, .int x6_65)] []) (h : mo_order_J220 N c1_65 c2_65 c3_65 c4_65 R65 x5_220 x6_220 x9_220 σ220 = some yo) : Wx Γ σ220 220 [(0, .ref (π 0)), (1, .int c1_65), (2, .int c2_65), (3, .int c3_65), (4, .int c4_65), (5, .int x5_220), (6, .int x6_220), (9, .int x9_220)] [] := by
  have C0 := C.1
  unfold mo_order_J220 at h
  refine x_iload C0 dX7_order_220 rfl ?_
  refine x_if_eq C0 (tgt := 230) dX7_order_222 (by decide) h (fun h => ?_) (fun h => ?_)
  · refine x_bipush C0 (v := (-9)) dX7_order_230 (by decide) ?_
    exact x_pick [0, 1, 2, 3, 4, 6] rfl (w_mo_order_J232 C N c1_65 c2_65 c3_65 c4_65 R65 x6_220 (-9) σ220 hR65 h)
  · refine x_iload C0 dX7_order_225 rfl ?_
    refine x_goto C0 (tgt := 232) dX7_order_227 (by decide) ?_
    exact x_pick [0, 1, 2, 3, 4, 6] rfl (w_mo_order_J232 C N c1_65 c2_65 c3_65 c4_65 R65 x6_220 x5_220 σ220 hR65 h)
set_option maxRecDepth 20000 in
theorem w_mo_order_L65 {l : Launch} {D : va_G} {cA : Nat → ClassId} {π : Nat → Nat} {Γ : Gx St} {vo : Int32} {σo : St} (C : Cm Γ cX7_order RX7 cA 3 67 13 l D π shM (some .int) (some (.int vo), σo)) (N : Nat) (c4_65 : Int32) (c3_65 : Int32) (c1_65 : Int32) (c2_65 : Int32)  (yo : Int32 × St) (kk65 : ∀ e5_65 σe, (e5_65, σe) = yo → Wx Γ σe 244 [(5, .int e5_65)] []) : ∀ (n : Nat) (x5_65 : Int32) (x6_65 : Int32) (σ65 : St), mo_order_L65 N c4_65 c3_65 c1_65 c2_65 n x5_65 x6_65 σ65 = some yo → Wx Γ σ65 65 [(0, .ref (π 0)), (1, .int c1_65), (2, .int c2_65), (3, .int c3_65), (4, .int c4_65), (5, .int x5_65), (6, .int x6_65)] [] := by
  have C0 := C.1
  intro n
  induction n with
  | zero => intro x5_65 x6_65 σ65 h; cases h
  | succ n ih =>
    intro x5_65 x6_65 σ65 h
    rw [mo_order_L65] at h
    refine x_iload C0 dX7_order_65 rfl ?_
    refine x_iload C0 dX7_order_67 rfl ?_
    refine x_icmp_ge C0 (tgt := 244) dX7_order_69 (by decide) h (fun h => ?_) (fun h => ?_)
    · exact x_pick [5] rfl (kk65 _ _ (Option.some.inj h))
    · refine x_iload C0 dX7_order_72 rfl ?_
      refine x_bipush C0 (v := (-9)) dX7_order_74 (by decide) ?_
      refine x_icmp_ne C0 (tgt := 244) dX7_order_76 (by decide) h (fun h => ?_) (fun h => ?_)
      · exact x_pick [5] rfl (kk65 _ _ (Option.some.inj h))
      · refine x_iconst C0 (v := 0) dX7_order_79 (by decide) ?_
        refine x_istore C0 (L' := [(7, .int 0), (0, .ref (π 0)), (1, .int c1_65), (2, .int c2_65), (3, .int c3_65), (4, .int c4_65), (5, .int x5_65), (6, .int x6_65)]) dX7_order_80 (by decide) rfl ?_
        refine x_iload C0 dX7_order_82 rfl ?_
        refine x_istore C0 (L' := [(8, .int x6_65), (7, .int 0), (0, .ref (π 0)), (1, .int c1_65), (2, .int c2_65), (3, .int c3_65), (4, .int c4_65), (5, .int x5_65), (6, .int x6_65)]) dX7_order_84 (by decide) rfl ?_
        refine x_iconst C0 (v := 0) dX7_order_86 (by decide) ?_
        refine x_istore C0 (L' := [(9, .int 0), (8, .int x6_65), (7, .int 0), (0, .ref (π 0)), (1, .int c1_65), (2, .int c2_65), (3, .int c3_65), (4, .int c4_65), (5, .int x5_65), (6, .int x6_65)]) dX7_order_87 (by decide) rfl ?_
        obtain ⟨x12, σ13, hL, h⟩ := bd2_some h
        refine x_pick [3, 4, 5, 6, 7, 8, 9, 2, 1, 0] rfl (w_mo_order_L89 C N c3_65 c1_65 c2_65 c4_65 x5_65 x6_65 _ (fun b0 b1 e => ?_) N 0 x6_65 0 σ65 hL)
        cases e
        refine x_iload C0 dX7_order_118 rfl ?_
        refine x_iconst C0 (v := 1) dX7_order_120 (by decide) ?_
        refine x_iload_n C0 dX7_order_121 rfl ?_
        refine x_ishl C0 dX7_order_122 ?_
        refine x_iconst C0 (v := 1) dX7_order_123 (by decide) ?_
        refine x_isub C0 dX7_order_124 ?_
        refine x_icmp_ne C0 (tgt := 144) dX7_order_125 (by decide) h (fun h => ?_) (fun h => ?_)
        · refine x_iconst C0 (v := 0) dX7_order_144 (by decide) ?_
          refine x_istore C0 (L' := [(9, .int 0), (0, .ref (π 0)), (1, .int c1_65), (2, .int c2_65), (3, .int c3_65), (4, .int c4_65), (5, .int x5_65), (6, .int x6_65), (7, .int x12)]) dX7_order_145 (by decide) rfl ?_
          refine x_iload C0 dX7_order_147 rfl ?_
          refine x_istore C0 (L' := [(10, .int c4_65), (9, .int 0), (0, .ref (π 0)), (1, .int c1_65), (2, .int c2_65), (3, .int c3_65), (4, .int c4_65), (5, .int x5_65), (6, .int x6_65), (7, .int x12)]) dX7_order_149 (by decide) rfl ?_
          refine x_iconst C0 (v := 0) dX7_order_151 (by decide) ?_
          refine x_istore C0 (L' := [(11, .int 0), (10, .int c4_65), (9, .int 0), (0, .ref (π 0)), (1, .int c1_65), (2, .int c2_65), (3, .int c3_65), (4, .int c4_65), (5, .int x5_65), (6, .int x6_65), (7, .int x12)]) dX7_order_152 (by decide) rfl ?_
          obtain ⟨x21, x22, σ23, hL, h⟩ := bd3_some h
          refine x_pick [3, 4, 5, 6, 7, 8, 9, 2, 1, 0] rfl (w_mo_order_L154 C N c3_65 x6_65 c2_65 c1_65 c4_65 _ (fun b0 b1 b2 e => ?_) N x5_65 0 c4_65 0 σ13 hL)
          cases e
          exact x_pick [0, 1, 2, 3, 4, 5, 6, 7] rfl (w_mo_order_J220 C N c1_65 c2_65 c3_65 c4_65 (mo_order_L65 N c4_65 c3_65 c1_65 c2_65 n) x21 x6_65 x22 σ23 ih h)
        · refine x_iload_n C0 dX7_order_128 rfl ?_
          refine x_if_lt C0 (tgt := 140) dX7_order_129 (by decide) h (fun h => ?_) (fun h => ?_)
          · refine x_iconst C0 (v := 1) dX7_order_140 (by decide) ?_
            refine x_goto C0 (tgt := 145) dX7_order_141 (by decide) ?_
            refine x_istore C0 (L' := [(9, .int 1), (0, .ref (π 0)), (1, .int c1_65), (2, .int c2_65), (3, .int c3_65), (4, .int c4_65), (5, .int x5_65), (6, .int x6_65), (7, .int x12)]) dX7_order_145 (by decide) rfl ?_
            refine x_iload C0 dX7_order_147 rfl ?_
            refine x_istore C0 (L' := [(10, .int c4_65), (9, .int 1), (0, .ref (π 0)), (1, .int c1_65), (2, .int c2_65), (3, .int c3_65), (4, .int c4_65), (5, .int x5_65), (6, .int x6_65), (7, .int x12)]) dX7_order_149 (by decide) rfl ?_
            refine x_iconst C0 (v := 0) dX7_order_151 (by decide) ?_
            refine x_istore C0 (L' := [(11, .int 0), (10, .int c4_65), (9, .int 1), (0, .ref (π 0)), (1, .int c1_65), (2, .int c2_65), (3, .int c3_65), (4, .int c4_65), (5, .int x5_65), (6, .int x6_65), (7, .int x12)]) dX7_order_152 (by decide) rfl ?_
            obtain ⟨x26, x27, σ28, hL, h⟩ := bd3_some h
            refine x_pick [3, 4, 5, 6, 7, 8, 9, 2, 1, 0] rfl (w_mo_order_L154 C N c3_65 x6_65 c2_65 c1_65 c4_65 _ (fun b0 b1 b2 e => ?_) N x5_65 1 c4_65 0 σ13 hL)
            cases e
            exact x_pick [0, 1, 2, 3, 4, 5, 6, 7] rfl (w_mo_order_J220 C N c1_65 c2_65 c3_65 c4_65 (mo_order_L65 N c4_65 c3_65 c1_65 c2_65 n) x26 x6_65 x27 σ28 ih h)
          · refine x_iload C0 dX7_order_132 rfl ?_
            refine x_iload_n C0 dX7_order_134 rfl ?_
            refine x_chk h (fun q h => ?_)
            refine x_irem C0 (nz_ne q) dX7_order_135 ?_
            refine x_iload_n C0 dX7_order_136 rfl ?_
            refine x_icmp_ne C0 (tgt := 144) dX7_order_137 (by decide) h (fun h => ?_) (fun h => ?_)
            · refine x_iconst C0 (v := 0) dX7_order_144 (by decide) ?_
              refine x_istore C0 (L' := [(9, .int 0), (0, .ref (π 0)), (1, .int c1_65), (2, .int c2_65), (3, .int c3_65), (4, .int c4_65), (5, .int x5_65), (6, .int x6_65), (7, .int x12)]) dX7_order_145 (by decide) rfl ?_
              refine x_iload C0 dX7_order_147 rfl ?_
              refine x_istore C0 (L' := [(10, .int c4_65), (9, .int 0), (0, .ref (π 0)), (1, .int c1_65), (2, .int c2_65), (3, .int c3_65), (4, .int c4_65), (5, .int x5_65), (6, .int x6_65), (7, .int x12)]) dX7_order_149 (by decide) rfl ?_
              refine x_iconst C0 (v := 0) dX7_order_151 (by decide) ?_
              refine x_istore C0 (L' := [(11, .int 0), (10, .int c4_65), (9, .int 0), (0, .ref (π 0)), (1, .int c1_65), (2, .int c2_65), (3, .int c3_65), (4, .int c4_65), (5, .int x5_65), (6, .int x6_65), (7, .int x12)]) dX7_order_152 (by decide) rfl ?_
              obtain ⟨x29, x30, σ31, hL, h⟩ := bd3_some h
              refine x_pick [3, 4, 5, 6, 7, 8, 9, 2, 1, 0] rfl (w_mo_order_L154 C N c3_65 x6_65 c2_65 c1_65 c4_65 _ (fun b0 b1 b2 e => ?_) N x5_65 0 c4_65 0 σ13 hL)
              cases e
              exact x_pick [0, 1, 2, 3, 4, 5, 6, 7] rfl (w_mo_order_J220 C N c1_65 c2_65 c3_65 c4_65 (mo_order_L65 N c4_65 c3_65 c1_65 c2_65 n) x29 x6_65 x30 σ31 ih h)
            · refine x_iconst C0 (v := 1) dX7_order_140 (by decide) ?_
              refine x_goto C0 (tgt := 145) dX7_order_141 (by decide) ?_
              refine x_istore C0 (L' := [(9, .int 1), (0, .ref (π 0)), (1, .int c1_65), (2, .int c2_65), (3, .int c3_65), (4, .int c4_65), (5, .int x5_65), (6, .int x6_65), (7, .int x12)]) dX7_order_145 (by decide) rfl ?_
              refine x_iload C0 dX7_order_147 rfl ?_
              refine x_istore C0 (L' := [(10, .int c4_65), (9, .int 1), (0, .ref (π 0)), (1, .int c1_65), (2, .int c2_65), (3, .int c3_65), (4, .int c4_65), (5, .int x5_65), (6, .int x6_65), (7, .int x12)]) dX7_order_149 (by decide) rfl ?_
              refine x_iconst C0 (v := 0) dX7_order_151 (by decide) ?_
              refine x_istore C0 (L' := [(11, .int 0), (10, .int c4_65), (9, .int 1), (0, .ref (π 0)), (1, .int c1_65), (2, .int c2_65), (3, .int c3_65), (4, .int c4_65), (5, .int x5_65), (6, .int x6_65), (7, .int x12)]) dX7_order_152 (by decide) rfl ?_
              obtain ⟨x32, x33, σ34, hL, h⟩ := bd3_some h
              refine x_pick [3, 4, 5, 6, 7, 8, 9, 2, 1, 0] rfl (w_mo_order_L154 C N c3_65 x6_65 c2_65 c1_65 c4_65 _ (fun b0 b1 b2 e => ?_) N x5_65 1 c4_65 0 σ13 hL)
              cases e
              exact x_pick [0, 1, 2, 3, 4, 5, 6, 7] rfl (w_mo_order_J220 C N c1_65 c2_65 c3_65 c4_65 (mo_order_L65 N c4_65 c3_65 c1_65 c2_65 n) x32 x6_65 x33 σ34 ih h)
set_option maxRecDepth 20000 in
theorem w_mo_order_J13 {l : Launch} {D : va_G} {cA : Nat → ClassId} {π : Nat → Nat} {Γ : Gx St} {vo : Int32} {σo : St} (C : Cm Γ cX7_order RX7 cA 3 67 13 l D π shM (some .int) (some (.int vo), σo)) (N : Nat) (x1_13 : Int32) (x2_13 : Int32) (σ13 : St)  (h : mo_order_J13 N x1_13 x2_13 σ13 = some (vo, σo)) : Wx Γ σ13 13 [(0, .ref (π 0)), (1, .int x1_13), (2, .int x2_13)] [] := by
  have C0 := C.1
  unfold mo_order_J13 at h
  refine x_aload_n C0 dX7_order_13 rfl ?_
  refine x_iload_n C0 dX7_order_14 rfl ?_
  obtain ⟨v2, σ1, hc, h⟩ := bd2_some h
  refine x_callVi C (k_mo_isPerson N x2_13  hc) umX7_91 ui_X7_isPerson us_X7_isPerson un_X7 uc_X7_isPerson hv_X7_isPerson rfl (by decide) (fks := [1, 4, 0, 5, 6, 7, 8, 9, 10, 0, 0, 0, 0, 0, 11]) rfl rfl dX7_order_15 (rest := []) rfl (Nat.le_of_ble_eq_true rfl) ?_
  refine x_if_ne C0 (tgt := 23) dX7_order_18 (by decide) h (fun h => ?_) (fun h => ?_)
  · refine x_aload_n C0 dX7_order_23 rfl ?_
    refine gt_X7_13 C dX7_order_24 ?_
    refine x_iconst C0 (v := 0) dX7_order_27 (by decide) ?_
    refine x_iald C (k := 2) (z := 58) rfl dX7_order_28 h (fun h => ?_)
    refine x_nm h (fun x3 h => ?_)
    refine x_istore_n C0 (L' := [(3, .int x3), (0, .ref (π 0)), (1, .int x1_13), (2, .int x2_13)]) dX7_order_29 (by decide) rfl ?_
    refine x_iconst C0 (v := 1) dX7_order_30 (by decide) ?_
    refine x_istore C0 (L' := [(4, .int 1), (3, .int x3), (0, .ref (π 0)), (1, .int x1_13), (2, .int x2_13)]) dX7_order_31 (by decide) rfl ?_
    refine x_iconst C0 (v := 0) dX7_order_33 (by decide) ?_
    refine x_istore C0 (L' := [(5, .int 0), (4, .int 1), (3, .int x3), (0, .ref (π 0)), (1, .int x1_13), (2, .int x2_13)]) dX7_order_34 (by decide) rfl ?_
    obtain ⟨x6, σ7, hL, h⟩ := bd2_some h
    refine x_pick [3, 4, 5, 2, 1, 0] rfl (w_mo_order_L36 C N x3 x1_13 x2_13 _ (fun b0 b1 e => ?_) N 1 0 σ1 hL)
    cases e
    refine x_aload_n C0 dX7_order_54 rfl ?_
    obtain ⟨σ8, hc, h⟩ := bd1_some h
    refine x_callVv C (k_mo_remembers N  hc) umX7_134 ui_X7_remembers us_X7_remembers un_X7 uc_X7_remembers hv_X7_remembers rfl (by decide) (fks := [1, 4, 0, 5, 6, 7, 8, 9, 10, 0, 0, 0, 0, 0, 11]) rfl rfl dX7_order_55 (rest := []) rfl (Nat.le_of_ble_eq_true rfl) ?_
    refine x_bipush C0 (v := (-9)) dX7_order_58 (by decide) ?_
    refine x_istore C0 (L' := [(5, .int (-9)), (0, .ref (π 0)), (1, .int x1_13), (2, .int x2_13), (3, .int x3), (4, .int x6)]) dX7_order_60 (by decide) rfl ?_
    refine x_iconst C0 (v := 0) dX7_order_62 (by decide) ?_
    refine x_istore C0 (L' := [(6, .int 0), (5, .int (-9)), (0, .ref (π 0)), (1, .int x1_13), (2, .int x2_13), (3, .int x3), (4, .int x6)]) dX7_order_63 (by decide) rfl ?_
    obtain ⟨x35, σ36, hL, h⟩ := bd2_some h
    refine x_pick [2, 3, 4, 5, 6, 1, 0] rfl (w_mo_order_L65 C N x6 x3 x1_13 x2_13 _ (fun b0 b1 e => ?_) N (-9) 0 σ8 hL)
    cases e
    refine x_iload C0 dX7_order_244 rfl ?_
    exact x_iret C dX7_order_246 h
  · refine x_iconst C0 (v := (-1)) dX7_order_21 (by decide) ?_
    exact x_iret C dX7_order_22 h
set_option maxRecDepth 20000 in
theorem k_mo_order {l : Launch} {D : va_G} {cA : Nat → ClassId} {π : Nat → Nat} (N : Nat) (a1 : Int32) (a2 : Int32)  {σ : St} {vo : Int32} {σo : St} (h : mo_order N a1 a2 σ = some (vo, σo)) : Kt l D cA π shM yX7_order cX7_order 13 (some .int) 3 67 [.ref (π 0), .int a1, .int a2] σ (some (.int vo)) σo := by
  refine Kt.of (by decide) (Nat.le_of_ble_eq_true rfl) (L := [(0, .ref (π 0)), (1, .int a1), (2, .int a2)]) rfl (fun Γ C => ?_)
  have C0 := C.1
  unfold mo_order at h
  refine x_iload_n C0 dX7_order_0 rfl ?_
  refine x_iconst C0 (v := (-1)) dX7_order_1 (by decide) ?_
  refine x_icmp_eq C0 (tgt := 13) dX7_order_2 (by decide) h (fun h => ?_) (fun h => ?_)
  · exact x_pick [0, 1, 2] rfl (w_mo_order_J13 C N a1 a2 σ h)
  · refine x_aload_n C0 dX7_order_5 rfl ?_
    refine x_iload_n C0 dX7_order_6 rfl ?_
    obtain ⟨v38, σ37, hc, h⟩ := bd2_some h
    refine x_callVi C (k_mo_isPerson N a1  hc) umX7_91 ui_X7_isPerson us_X7_isPerson un_X7 uc_X7_isPerson hv_X7_isPerson rfl (by decide) (fks := [1, 4, 0, 5, 6, 7, 8, 9, 10, 0, 0, 0, 0, 0, 11]) rfl rfl dX7_order_7 (rest := []) rfl (Nat.le_of_ble_eq_true rfl) ?_
    refine x_if_eq C0 (tgt := 21) dX7_order_10 (by decide) h (fun h => ?_) (fun h => ?_)
    · refine x_iconst C0 (v := (-1)) dX7_order_21 (by decide) ?_
      exact x_iret C dX7_order_22 h
    · exact x_pick [0, 1, 2] rfl (w_mo_order_J13 C N a1 a2 σ37 h)
def mo_lastOne_L9 (N : Nat) : Nat → Int32 → Int32 → St → Option (Int32 × St)
  | 0, _, _, _ => none
  | n + 1, x1_9, x2_9, σ9 =>
    ck (inb 0 58) (
    if (σ9.1 2 (ix 0)) ≤ x2_9 then (
      some (x1_9, σ9))
    else (
      if x1_9 = (-9) then (
        bd2 (mo_holds N x2_9 σ9) fun v3 σ2 =>
        if v3 = 0 then (
          lt (x2_9 + 1) fun x4 =>
          (mo_lastOne_L9 N n) x2_9 x4 σ2)
        else (
          bd1 (mo_goesOver N x2_9 σ2) fun σ5 =>
          lt (x2_9 + 1) fun x6 =>
          (mo_lastOne_L9 N n) x1_9 x6 σ5))
      else (
        some (x1_9, σ9))))
def mo_lastOne_J49 (N : Nat) (x1_49 : Int32) (σ49 : St) : Option (Int32 × St) :=
  bd1 (mo_lets N  σ49) fun σ9 =>
  some (x1_49, σ9)
def mo_lastOne (N : Nat) (σ : St) : Option (Int32 × St) :=
  bd1 (mo_remembers N  σ) fun σ1 =>
  bd2 (mo_lastOne_L9 N N (-9) 0 σ1) fun x7 σ8 =>
  mo_lastOne_J49 N x7 σ8
set_option maxRecDepth 20000 in
theorem w_mo_lastOne_L9 {l : Launch} {D : va_G} {cA : Nat → ClassId} {π : Nat → Nat} {Γ : Gx St} {vo : Int32} {σo : St} (C : Cm Γ cX7_lastOne RX7 cA 3 67 3 l D π shM (some .int) (some (.int vo), σo)) (N : Nat)  (yo : Int32 × St) (kk9 : ∀ e1_9 σe, (e1_9, σe) = yo → Wx Γ σe 49 [(0, .ref (π 0)), (1, .int e1_9)] []) : ∀ (n : Nat) (x1_9 : Int32) (x2_9 : Int32) (σ9 : St), mo_lastOne_L9 N n x1_9 x2_9 σ9 = some yo → Wx Γ σ9 9 [(0, .ref (π 0)), (1, .int x1_9), (2, .int x2_9)] [] := by
  have C0 := C.1
  intro n
  induction n with
  | zero => intro x1_9 x2_9 σ9 h; cases h
  | succ n ih =>
    intro x1_9 x2_9 σ9 h
    rw [mo_lastOne_L9] at h
    refine x_iload_n C0 dX7_lastOne_9 rfl ?_
    refine x_aload_n C0 dX7_lastOne_10 rfl ?_
    refine gt_X7_13 C dX7_lastOne_11 ?_
    refine x_iconst C0 (v := 0) dX7_lastOne_14 (by decide) ?_
    refine x_iald C (k := 2) (z := 58) rfl dX7_lastOne_15 h (fun h => ?_)
    refine x_icmp_ge C0 (tgt := 49) dX7_lastOne_16 (by decide) h (fun h => ?_) (fun h => ?_)
    · exact x_pick [0, 1] rfl (kk9 _ _ (Option.some.inj h))
    · refine x_iload_n C0 dX7_lastOne_19 rfl ?_
      refine x_bipush C0 (v := (-9)) dX7_lastOne_20 (by decide) ?_
      refine x_icmp_ne C0 (tgt := 49) dX7_lastOne_22 (by decide) h (fun h => ?_) (fun h => ?_)
      · exact x_pick [0, 1] rfl (kk9 _ _ (Option.some.inj h))
      · refine x_aload_n C0 dX7_lastOne_25 rfl ?_
        refine x_iload_n C0 dX7_lastOne_26 rfl ?_
        obtain ⟨v3, σ2, hc, h⟩ := bd2_some h
        refine x_callVi C (k_mo_holds N x2_9  hc) umX7_119 ui_X7_holds us_X7_holds un_X7 uc_X7_holds hv_X7_holds rfl (by decide) (fks := [1, 4, 0, 5, 6, 7, 8, 9, 10, 0, 0, 0, 0, 0, 11]) rfl rfl dX7_lastOne_27 (rest := []) rfl (Nat.le_of_ble_eq_true rfl) ?_
        refine x_if_eq C0 (tgt := 41) dX7_lastOne_30 (by decide) h (fun h => ?_) (fun h => ?_)
        · refine x_iload_n C0 dX7_lastOne_41 rfl ?_
          refine x_istore_n C0 (L' := [(1, .int x2_9), (0, .ref (π 0)), (2, .int x2_9)]) dX7_lastOne_42 (by decide) rfl ?_
          refine x_iinc C0 (j := 2) (v := 1) (L' := fun x4 => [(2, .int x4), (1, .int x2_9), (0, .ref (π 0))]) dX7_lastOne_43 rfl (by decide) (by decide) (fun _ => rfl) h (fun x4 h => ?_)
          refine x_goto C0 (tgt := 9) dX7_lastOne_46 (by decide) ?_
          exact x_pick [2, 1, 0] rfl (ih _ _ _ h)
        · refine x_aload_n C0 dX7_lastOne_33 rfl ?_
          refine x_iload_n C0 dX7_lastOne_34 rfl ?_
          obtain ⟨σ5, hc, h⟩ := bd1_some h
          refine x_callVv C (k_mo_goesOver N x2_9  hc) umX7_125 ui_X7_goesOver us_X7_goesOver un_X7 uc_X7_goesOver hv_X7_goesOver rfl (by decide) (fks := [1, 4, 0, 5, 6, 7, 8, 9, 10, 0, 0, 0, 0, 0, 11]) rfl rfl dX7_lastOne_35 (rest := []) rfl (Nat.le_of_ble_eq_true rfl) ?_
          refine x_goto C0 (tgt := 43) dX7_lastOne_38 (by decide) ?_
          refine x_iinc C0 (j := 2) (v := 1) (L' := fun x6 => [(2, .int x6), (0, .ref (π 0)), (1, .int x1_9)]) dX7_lastOne_43 rfl (by decide) (by decide) (fun _ => rfl) h (fun x6 h => ?_)
          refine x_goto C0 (tgt := 9) dX7_lastOne_46 (by decide) ?_
          exact x_pick [1, 2, 0] rfl (ih _ _ _ h)
set_option maxRecDepth 20000 in
theorem w_mo_lastOne_J49 {l : Launch} {D : va_G} {cA : Nat → ClassId} {π : Nat → Nat} {Γ : Gx St} {vo : Int32} {σo : St} (C : Cm Γ cX7_lastOne RX7 cA 3 67 3 l D π shM (some .int) (some (.int vo), σo)) (N : Nat) (x1_49 : Int32) (σ49 : St)  (h : mo_lastOne_J49 N x1_49 σ49 = some (vo, σo)) : Wx Γ σ49 49 [(0, .ref (π 0)), (1, .int x1_49)] [] := by
  have C0 := C.1
  unfold mo_lastOne_J49 at h
  refine x_aload_n C0 dX7_lastOne_49 rfl ?_
  obtain ⟨σ9, hc, h⟩ := bd1_some h
  refine x_callVv C (k_mo_lets N  hc) umX7_137 ui_X7_lets us_X7_lets un_X7 uc_X7_lets hv_X7_lets rfl (by decide) (fks := [1, 4, 0, 5, 6, 7, 8, 9, 10, 0, 0, 0, 0, 0, 11]) rfl rfl dX7_lastOne_50 (rest := []) rfl (Nat.le_of_ble_eq_true rfl) ?_
  refine x_iload_n C0 dX7_lastOne_53 rfl ?_
  exact x_iret C dX7_lastOne_54 h
set_option maxRecDepth 20000 in
theorem k_mo_lastOne {l : Launch} {D : va_G} {cA : Nat → ClassId} {π : Nat → Nat} (N : Nat)  {σ : St} {vo : Int32} {σo : St} (h : mo_lastOne N σ = some (vo, σo)) : Kt l D cA π shM yX7_lastOne cX7_lastOne 3 (some .int) 3 67 [.ref (π 0)] σ (some (.int vo)) σo := by
  refine Kt.of (by decide) (Nat.le_of_ble_eq_true rfl) (L := [(0, .ref (π 0))]) rfl (fun Γ C => ?_)
  have C0 := C.1
  unfold mo_lastOne at h
  refine x_aload_n C0 dX7_lastOne_0 rfl ?_
  obtain ⟨σ1, hc, h⟩ := bd1_some h
  refine x_callVv C (k_mo_remembers N  hc) umX7_134 ui_X7_remembers us_X7_remembers un_X7 uc_X7_remembers hv_X7_remembers rfl (by decide) (fks := [1, 4, 0, 5, 6, 7, 8, 9, 10, 0, 0, 0, 0, 0, 11]) rfl rfl dX7_lastOne_1 (rest := []) rfl (Nat.le_of_ble_eq_true rfl) ?_
  refine x_bipush C0 (v := (-9)) dX7_lastOne_4 (by decide) ?_
  refine x_istore_n C0 (L' := [(1, .int (-9)), (0, .ref (π 0))]) dX7_lastOne_6 (by decide) rfl ?_
  refine x_iconst C0 (v := 0) dX7_lastOne_7 (by decide) ?_
  refine x_istore_n C0 (L' := [(2, .int 0), (1, .int (-9)), (0, .ref (π 0))]) dX7_lastOne_8 (by decide) rfl ?_
  obtain ⟨x7, σ8, hL, h⟩ := bd2_some h
  refine x_pick [2, 1, 0] rfl (w_mo_lastOne_L9 C N _ (fun b0 b1 e => ?_) N (-9) 0 σ1 hL)
  cases e
  exact x_pick [0, 1] rfl (w_mo_lastOne_J49 C N x7 σ8 h)
def mo_crossings_L16 (N : Nat) (c1_16 : Int32) : Nat → Int32 → St → Option (Int32 × St)
  | 0, _, _ => none
  | n + 1, x2_16, σ16 =>
    if 30 ≤ x2_16 then (
      some (x2_16, σ16))
    else (
      bd2 (mo_holds N c1_16 σ16) fun v5 σ4 =>
      if v5 = 0 then (
        some (x2_16, σ4))
      else (
        bd1 (mo_goesOver N c1_16 σ4) fun σ6 =>
        lt (x2_16 + 1) fun x7 =>
        (mo_crossings_L16 N c1_16 n) x7 σ6))
def mo_crossings_J41 (N : Nat) (x2_41 : Int32) (σ41 : St) : Option (Int32 × St) :=
  bd1 (mo_lets N  σ41) fun σ10 =>
  some (x2_41, σ10)
def mo_crossings (N : Nat) (a1 : Int32) (σ : St) : Option (Int32 × St) :=
  bd2 (mo_isPerson N a1 σ) fun v2 σ1 =>
  if v2 = 0 then (
    some ((-1), σ1))
  else (
    bd1 (mo_remembers N  σ1) fun σ3 =>
    bd2 (mo_crossings_L16 N a1 N 0 σ3) fun x8 σ9 =>
    mo_crossings_J41 N x8 σ9)
set_option maxRecDepth 20000 in
theorem w_mo_crossings_L16 {l : Launch} {D : va_G} {cA : Nat → ClassId} {π : Nat → Nat} {Γ : Gx St} {vo : Int32} {σo : St} (C : Cm Γ cX7_crossings RX7 cA 3 67 3 l D π shM (some .int) (some (.int vo), σo)) (N : Nat) (c1_16 : Int32)  (yo : Int32 × St) (kk16 : ∀ e2_16 σe, (e2_16, σe) = yo → Wx Γ σe 41 [(0, .ref (π 0)), (2, .int e2_16)] []) : ∀ (n : Nat) (x2_16 : Int32) (σ16 : St), mo_crossings_L16 N c1_16 n x2_16 σ16 = some yo → Wx Γ σ16 16 [(0, .ref (π 0)), (1, .int c1_16), (2, .int x2_16)] [] := by
  have C0 := C.1
  intro n
  induction n with
  | zero => intro x2_16 σ16 h; cases h
  | succ n ih =>
    intro x2_16 σ16 h
    rw [mo_crossings_L16] at h
    refine x_iload_n C0 dX7_crossings_16 rfl ?_
    refine x_bipush C0 (v := 30) dX7_crossings_17 (by decide) ?_
    refine x_icmp_ge C0 (tgt := 41) dX7_crossings_19 (by decide) h (fun h => ?_) (fun h => ?_)
    · exact x_pick [0, 2] rfl (kk16 _ _ (Option.some.inj h))
    · refine x_aload_n C0 dX7_crossings_22 rfl ?_
      refine x_iload_n C0 dX7_crossings_23 rfl ?_
      obtain ⟨v5, σ4, hc, h⟩ := bd2_some h
      refine x_callVi C (k_mo_holds N c1_16  hc) umX7_119 ui_X7_holds us_X7_holds un_X7 uc_X7_holds hv_X7_holds rfl (by decide) (fks := [1, 4, 0, 5, 6, 7, 8, 9, 10, 0, 0, 0, 0, 0, 11]) rfl rfl dX7_crossings_24 (rest := []) rfl (Nat.le_of_ble_eq_true rfl) ?_
      refine x_if_eq C0 (tgt := 41) dX7_crossings_27 (by decide) h (fun h => ?_) (fun h => ?_)
      · exact x_pick [0, 2] rfl (kk16 _ _ (Option.some.inj h))
      · refine x_aload_n C0 dX7_crossings_30 rfl ?_
        refine x_iload_n C0 dX7_crossings_31 rfl ?_
        obtain ⟨σ6, hc, h⟩ := bd1_some h
        refine x_callVv C (k_mo_goesOver N c1_16  hc) umX7_125 ui_X7_goesOver us_X7_goesOver un_X7 uc_X7_goesOver hv_X7_goesOver rfl (by decide) (fks := [1, 4, 0, 5, 6, 7, 8, 9, 10, 0, 0, 0, 0, 0, 11]) rfl rfl dX7_crossings_32 (rest := []) rfl (Nat.le_of_ble_eq_true rfl) ?_
        refine x_iinc C0 (j := 2) (v := 1) (L' := fun x7 => [(2, .int x7), (0, .ref (π 0)), (1, .int c1_16)]) dX7_crossings_35 rfl (by decide) (by decide) (fun _ => rfl) h (fun x7 h => ?_)
        refine x_goto C0 (tgt := 16) dX7_crossings_38 (by decide) ?_
        exact x_pick [1, 2, 0] rfl (ih _ _ h)
set_option maxRecDepth 20000 in
theorem w_mo_crossings_J41 {l : Launch} {D : va_G} {cA : Nat → ClassId} {π : Nat → Nat} {Γ : Gx St} {vo : Int32} {σo : St} (C : Cm Γ cX7_crossings RX7 cA 3 67 3 l D π shM (some .int) (some (.int vo), σo)) (N : Nat) (x2_41 : Int32) (σ41 : St)  (h : mo_crossings_J41 N x2_41 σ41 = some (vo, σo)) : Wx Γ σ41 41 [(0, .ref (π 0)), (2, .int x2_41)] [] := by
  have C0 := C.1
  unfold mo_crossings_J41 at h
  refine x_aload_n C0 dX7_crossings_41 rfl ?_
  obtain ⟨σ10, hc, h⟩ := bd1_some h
  refine x_callVv C (k_mo_lets N  hc) umX7_137 ui_X7_lets us_X7_lets un_X7 uc_X7_lets hv_X7_lets rfl (by decide) (fks := [1, 4, 0, 5, 6, 7, 8, 9, 10, 0, 0, 0, 0, 0, 11]) rfl rfl dX7_crossings_42 (rest := []) rfl (Nat.le_of_ble_eq_true rfl) ?_
  refine x_iload_n C0 dX7_crossings_45 rfl ?_
  exact x_iret C dX7_crossings_46 h
set_option maxRecDepth 20000 in
theorem k_mo_crossings {l : Launch} {D : va_G} {cA : Nat → ClassId} {π : Nat → Nat} (N : Nat) (a1 : Int32)  {σ : St} {vo : Int32} {σo : St} (h : mo_crossings N a1 σ = some (vo, σo)) : Kt l D cA π shM yX7_crossings cX7_crossings 3 (some .int) 3 67 [.ref (π 0), .int a1] σ (some (.int vo)) σo := by
  refine Kt.of (by decide) (Nat.le_of_ble_eq_true rfl) (L := [(0, .ref (π 0)), (1, .int a1)]) rfl (fun Γ C => ?_)
  have C0 := C.1
  unfold mo_crossings at h
  refine x_aload_n C0 dX7_crossings_0 rfl ?_
  refine x_iload_n C0 dX7_crossings_1 rfl ?_
  obtain ⟨v2, σ1, hc, h⟩ := bd2_some h
  refine x_callVi C (k_mo_isPerson N a1  hc) umX7_91 ui_X7_isPerson us_X7_isPerson un_X7 uc_X7_isPerson hv_X7_isPerson rfl (by decide) (fks := [1, 4, 0, 5, 6, 7, 8, 9, 10, 0, 0, 0, 0, 0, 11]) rfl rfl dX7_crossings_2 (rest := []) rfl (Nat.le_of_ble_eq_true rfl) ?_
  refine x_if_ne C0 (tgt := 10) dX7_crossings_5 (by decide) h (fun h => ?_) (fun h => ?_)
  · refine x_aload_n C0 dX7_crossings_10 rfl ?_
    obtain ⟨σ3, hc, h⟩ := bd1_some h
    refine x_callVv C (k_mo_remembers N  hc) umX7_134 ui_X7_remembers us_X7_remembers un_X7 uc_X7_remembers hv_X7_remembers rfl (by decide) (fks := [1, 4, 0, 5, 6, 7, 8, 9, 10, 0, 0, 0, 0, 0, 11]) rfl rfl dX7_crossings_11 (rest := []) rfl (Nat.le_of_ble_eq_true rfl) ?_
    refine x_iconst C0 (v := 0) dX7_crossings_14 (by decide) ?_
    refine x_istore_n C0 (L' := [(2, .int 0), (0, .ref (π 0)), (1, .int a1)]) dX7_crossings_15 (by decide) rfl ?_
    obtain ⟨x8, σ9, hL, h⟩ := bd2_some h
    refine x_pick [1, 2, 0] rfl (w_mo_crossings_L16 C N a1 _ (fun b0 b1 e => ?_) N 0 σ3 hL)
    cases e
    exact x_pick [0, 1] rfl (w_mo_crossings_J41 C N x8 σ9 h)
  · refine x_iconst C0 (v := (-1)) dX7_crossings_8 (by decide) ?_
    exact x_iret C dX7_crossings_9 h
def mo_over_J45 (N : Nat) (c1_19 : Int32) (R19 : Int32 → Int32 → St → Option (Int32 × St)) (x3_45 : Int32) (t0_45 : Int32) (σ45 : St) : Option (Int32 × St) :=
  bd1 (mo_ages N  σ45) fun σ6 =>
  lt (x3_45 + 1) fun x7 =>
  R19 t0_45 x7 σ6
def mo_over_L19 (N : Nat) (c1_19 : Int32) : Nat → Int32 → Int32 → St → Option (Int32 × St)
  | 0, _, _, _ => none
  | n + 1, x2_19, x3_19, σ19 =>
    if 61 ≤ x3_19 then (
      some (x2_19, σ19))
    else (
      if x2_19 = (-9) then (
        bd2 (mo_holds N c1_19 σ19) fun v5 σ4 =>
        if v5 = 0 then (
          mo_over_J45 N c1_19 (mo_over_L19 N c1_19 n) x3_19 x3_19 σ4)
        else (
          mo_over_J45 N c1_19 (mo_over_L19 N c1_19 n) x3_19 (-9) σ4))
      else (
        some (x2_19, σ19)))
def mo_over_J56 (N : Nat) (x2_56 : Int32) (σ56 : St) : Option (Int32 × St) :=
  bd1 (mo_lets N  σ56) fun σ10 =>
  some (x2_56, σ10)
def mo_over (N : Nat) (a1 : Int32) (σ : St) : Option (Int32 × St) :=
  bd2 (mo_isPerson N a1 σ) fun v2 σ1 =>
  if v2 = 0 then (
    some ((-1), σ1))
  else (
    bd1 (mo_remembers N  σ1) fun σ3 =>
    bd2 (mo_over_L19 N a1 N (-9) 0 σ3) fun x8 σ9 =>
    mo_over_J56 N x8 σ9)
set_option maxRecDepth 20000 in
theorem w_mo_over_J45 {l : Launch} {D : va_G} {cA : Nat → ClassId} {π : Nat → Nat} {Γ : Gx St} {vo : Int32} {σo : St} {yo : Int32 × St} (C : Cm Γ cX7_over RX7 cA 3 65 4 l D π shM (some .int) (some (.int vo), σo)) (N : Nat) (c1_19 : Int32) (R19 : Int32 → Int32 → St → Option (Int32 × St)) (x3_45 : Int32) (t0_45 : Int32) (σ45 : St) (hR19 : ∀ x2_19 x3_19 σ, R19 x2_19 x3_19 σ = some yo → Wx Γ σ 19 [(0, .ref (π 0)), (1, .int c1_19), (2, .int x2_19), (3, .int x3_19)] []) (h : mo_over_J45 N c1_19 R19 x3_45 t0_45 σ45 = some yo) : Wx Γ σ45 45 [(0, .ref (π 0)), (1, .int c1_19), (3, .int x3_45)] [.int t0_45] := by
  have C0 := C.1
  unfold mo_over_J45 at h
  refine x_istore_n C0 (L' := [(2, .int t0_45), (0, .ref (π 0)), (1, .int c1_19), (3, .int x3_45)]) dX7_over_45 (by decide) rfl ?_
  refine x_aload_n C0 dX7_over_46 rfl ?_
  obtain ⟨σ6, hc, h⟩ := bd1_some h
  refine x_callVv C (k_mo_ages N  hc) umX7_128 ui_X7_ages us_X7_ages un_X7 uc_X7_ages hv_X7_ages rfl (by decide) (fks := [1, 4, 0, 5, 6, 7, 8, 9, 10, 0, 0, 0, 0, 0, 11]) rfl rfl dX7_over_47 (rest := []) rfl (Nat.le_of_ble_eq_true rfl) ?_
  refine x_iinc C0 (j := 3) (v := 1) (L' := fun x7 => [(3, .int x7), (2, .int t0_45), (0, .ref (π 0)), (1, .int c1_19)]) dX7_over_50 rfl (by decide) (by decide) (fun _ => rfl) h (fun x7 h => ?_)
  refine x_goto C0 (tgt := 19) dX7_over_53 (by decide) ?_
  exact x_pick [2, 3, 1, 0] rfl (hR19 _ _ _ h)
set_option maxRecDepth 20000 in
theorem w_mo_over_L19 {l : Launch} {D : va_G} {cA : Nat → ClassId} {π : Nat → Nat} {Γ : Gx St} {vo : Int32} {σo : St} (C : Cm Γ cX7_over RX7 cA 3 65 4 l D π shM (some .int) (some (.int vo), σo)) (N : Nat) (c1_19 : Int32)  (yo : Int32 × St) (kk19 : ∀ e2_19 σe, (e2_19, σe) = yo → Wx Γ σe 56 [(0, .ref (π 0)), (2, .int e2_19)] []) : ∀ (n : Nat) (x2_19 : Int32) (x3_19 : Int32) (σ19 : St), mo_over_L19 N c1_19 n x2_19 x3_19 σ19 = some yo → Wx Γ σ19 19 [(0, .ref (π 0)), (1, .int c1_19), (2, .int x2_19), (3, .int x3_19)] [] := by
  have C0 := C.1
  intro n
  induction n with
  | zero => intro x2_19 x3_19 σ19 h; cases h
  | succ n ih =>
    intro x2_19 x3_19 σ19 h
    rw [mo_over_L19] at h
    refine x_iload_n C0 dX7_over_19 rfl ?_
    refine x_bipush C0 (v := 61) dX7_over_20 (by decide) ?_
    refine x_icmp_ge C0 (tgt := 56) dX7_over_22 (by decide) h (fun h => ?_) (fun h => ?_)
    · exact x_pick [0, 2] rfl (kk19 _ _ (Option.some.inj h))
    · refine x_iload_n C0 dX7_over_25 rfl ?_
      refine x_bipush C0 (v := (-9)) dX7_over_26 (by decide) ?_
      refine x_icmp_ne C0 (tgt := 56) dX7_over_28 (by decide) h (fun h => ?_) (fun h => ?_)
      · exact x_pick [0, 2] rfl (kk19 _ _ (Option.some.inj h))
      · refine x_aload_n C0 dX7_over_31 rfl ?_
        refine x_iload_n C0 dX7_over_32 rfl ?_
        obtain ⟨v5, σ4, hc, h⟩ := bd2_some h
        refine x_callVi C (k_mo_holds N c1_19  hc) umX7_119 ui_X7_holds us_X7_holds un_X7 uc_X7_holds hv_X7_holds rfl (by decide) (fks := [1, 4, 0, 5, 6, 7, 8, 9, 10, 0, 0, 0, 0, 0, 11]) rfl rfl dX7_over_33 (rest := []) rfl (Nat.le_of_ble_eq_true rfl) ?_
        refine x_if_eq C0 (tgt := 44) dX7_over_36 (by decide) h (fun h => ?_) (fun h => ?_)
        · refine x_iload_n C0 dX7_over_44 rfl ?_
          exact x_pick [0, 1, 3] rfl (w_mo_over_J45 C N c1_19 (mo_over_L19 N c1_19 n) x3_19 x3_19 σ4 ih h)
        · refine x_bipush C0 (v := (-9)) dX7_over_39 (by decide) ?_
          refine x_goto C0 (tgt := 45) dX7_over_41 (by decide) ?_
          exact x_pick [0, 1, 3] rfl (w_mo_over_J45 C N c1_19 (mo_over_L19 N c1_19 n) x3_19 (-9) σ4 ih h)
set_option maxRecDepth 20000 in
theorem w_mo_over_J56 {l : Launch} {D : va_G} {cA : Nat → ClassId} {π : Nat → Nat} {Γ : Gx St} {vo : Int32} {σo : St} (C : Cm Γ cX7_over RX7 cA 3 65 4 l D π shM (some .int) (some (.int vo), σo)) (N : Nat) (x2_56 : Int32) (σ56 : St)  (h : mo_over_J56 N x2_56 σ56 = some (vo, σo)) : Wx Γ σ56 56 [(0, .ref (π 0)), (2, .int x2_56)] [] := by
  have C0 := C.1
  unfold mo_over_J56 at h
  refine x_aload_n C0 dX7_over_56 rfl ?_
  obtain ⟨σ10, hc, h⟩ := bd1_some h
  refine x_callVv C (k_mo_lets N  hc) umX7_137 ui_X7_lets us_X7_lets un_X7 uc_X7_lets hv_X7_lets rfl (by decide) (fks := [1, 4, 0, 5, 6, 7, 8, 9, 10, 0, 0, 0, 0, 0, 11]) rfl rfl dX7_over_57 (rest := []) rfl (Nat.le_of_ble_eq_true rfl) ?_
  refine x_iload_n C0 dX7_over_60 rfl ?_
  exact x_iret C dX7_over_61 h
set_option maxRecDepth 20000 in
theorem k_mo_over {l : Launch} {D : va_G} {cA : Nat → ClassId} {π : Nat → Nat} (N : Nat) (a1 : Int32)  {σ : St} {vo : Int32} {σo : St} (h : mo_over N a1 σ = some (vo, σo)) : Kt l D cA π shM yX7_over cX7_over 4 (some .int) 3 65 [.ref (π 0), .int a1] σ (some (.int vo)) σo := by
  refine Kt.of (by decide) (Nat.le_of_ble_eq_true rfl) (L := [(0, .ref (π 0)), (1, .int a1)]) rfl (fun Γ C => ?_)
  have C0 := C.1
  unfold mo_over at h
  refine x_aload_n C0 dX7_over_0 rfl ?_
  refine x_iload_n C0 dX7_over_1 rfl ?_
  obtain ⟨v2, σ1, hc, h⟩ := bd2_some h
  refine x_callVi C (k_mo_isPerson N a1  hc) umX7_91 ui_X7_isPerson us_X7_isPerson un_X7 uc_X7_isPerson hv_X7_isPerson rfl (by decide) (fks := [1, 4, 0, 5, 6, 7, 8, 9, 10, 0, 0, 0, 0, 0, 11]) rfl rfl dX7_over_2 (rest := []) rfl (Nat.le_of_ble_eq_true rfl) ?_
  refine x_if_ne C0 (tgt := 10) dX7_over_5 (by decide) h (fun h => ?_) (fun h => ?_)
  · refine x_aload_n C0 dX7_over_10 rfl ?_
    obtain ⟨σ3, hc, h⟩ := bd1_some h
    refine x_callVv C (k_mo_remembers N  hc) umX7_134 ui_X7_remembers us_X7_remembers un_X7 uc_X7_remembers hv_X7_remembers rfl (by decide) (fks := [1, 4, 0, 5, 6, 7, 8, 9, 10, 0, 0, 0, 0, 0, 11]) rfl rfl dX7_over_11 (rest := []) rfl (Nat.le_of_ble_eq_true rfl) ?_
    refine x_bipush C0 (v := (-9)) dX7_over_14 (by decide) ?_
    refine x_istore_n C0 (L' := [(2, .int (-9)), (0, .ref (π 0)), (1, .int a1)]) dX7_over_16 (by decide) rfl ?_
    refine x_iconst C0 (v := 0) dX7_over_17 (by decide) ?_
    refine x_istore_n C0 (L' := [(3, .int 0), (2, .int (-9)), (0, .ref (π 0)), (1, .int a1)]) dX7_over_18 (by decide) rfl ?_
    obtain ⟨x8, σ9, hL, h⟩ := bd2_some h
    refine x_pick [2, 3, 1, 0] rfl (w_mo_over_L19 C N a1 _ (fun b0 b1 e => ?_) N (-9) 0 σ3 hL)
    cases e
    exact x_pick [0, 1] rfl (w_mo_over_J56 C N x8 σ9 h)
  · refine x_iconst C0 (v := (-1)) dX7_over_8 (by decide) ?_
    exact x_iret C dX7_over_9 h
def mo_mend_L36 (N : Nat) (c2_36 : Int32) (c3_36 : Int32) : Nat → Int32 → St → Option (Int32 × St)
  | 0, _, _ => none
  | n + 1, x4_36, σ36 =>
    ck (inb 0 1108) (
    ck (inb 1 1108) (
    bd2 (mo_longOf N ((σ36.1 4 (ix 0)) + x4_36) (σ36.1 4 (ix 1)) σ36) fun v7 σ6 =>
    ck (inb 1 58) (
    if (σ6.1 2 (ix 1)) ≤ v7 then (
      some (x4_36, σ6))
    else (
      lt (x4_36 + 1) fun x8 =>
      (mo_mend_L36 N c2_36 c3_36 n) x8 σ6))))
def mo_mend_L115 (N : Nat) (c3_115 : Int32) (c2_115 : Int32) (c4_115 : Int32) : Nat → Int32 → Int32 → St → Option (Int32 × St)
  | 0, _, _, _ => none
  | n + 1, x5_115, x6_115, σ115 =>
    ck (inb 0 1108) (
    if (σ115.1 4 (ix 0)) ≤ x6_115 then (
      some (x5_115, σ115))
    else (
      ck (inb (43 + x6_115) 1108) (
      ck (inb (83 + x6_115) 1108) (
      lt (c3_115 - ((σ115.1 4 (ix (43 + x6_115))) - ((σ115.1 4 (ix (83 + x6_115))) / 4))) fun x14 =>
      if x14 ≤ 0 then (
        lt (x5_115 + 0) fun x15 =>
        lt (x6_115 + 1) fun x16 =>
        (mo_mend_L115 N c3_115 c2_115 c4_115 n) x15 x16 σ115)
      else (
        lt (x5_115 + x14) fun x17 =>
        lt (x6_115 + 1) fun x18 =>
        (mo_mend_L115 N c3_115 c2_115 c4_115 n) x17 x18 σ115)))))
def mo_mend (N : Nat) (a1 : Int32) (a2 : Int32) (σ : St) : Option (Int32 × St) :=
  bd2 (mo_isPerson N a1 σ) fun v2 σ1 =>
  if v2 = 0 then (
    some ((-1), σ1))
  else (
    bd2 (mo_in N a2 0 1 σ1) fun v4 σ3 =>
    if v4 = 0 then (
      some ((-1), σ3))
    else (
      ck (inb (6 + a1) 58) (
      lt (((σ3.1 2 (ix (6 + a1))) + 1) / 2) fun x5 =>
      bd2 (mo_mend_L36 N a2 x5 N 0 σ3) fun x9 σ10 =>
      ck (inb 0 1108) (
      ck (inb 1 1108) (
      bd2 (mo_longOf N ((σ10.1 4 (ix 0)) + x9) (σ10.1 4 (ix 1)) σ10) fun v12 σ11 =>
      ck (inb 1 58) (
      ck (inb 2 58) (
      if v12 ≤ ((σ11.1 2 (ix 1)) + (σ11.1 2 (ix 2))) then (
        lt (x9 * x5) fun x13 =>
        bd2 (mo_mend_L115 N x5 a2 x9 N x13 0 σ11) fun x19 σ20 =>
        if a2 = 0 then (
          some (x19, σ20))
        else (
          some (x9, σ20)))
      else (
        some ((-5), σ11)))))))))
set_option maxRecDepth 20000 in
theorem w_mo_mend_L36 {l : Launch} {D : va_G} {cA : Nat → ClassId} {π : Nat → Nat} {Γ : Gx St} {vo : Int32} {σo : St} (C : Cm Γ cX7_mend RX7 cA 2 43 8 l D π shM (some .int) (some (.int vo), σo)) (N : Nat) (c2_36 : Int32) (c3_36 : Int32)  (yo : Int32 × St) (kk36 : ∀ e4_36 σe, (e4_36, σe) = yo → Wx Γ σe 69 [(0, .ref (π 0)), (2, .int c2_36), (3, .int c3_36), (4, .int e4_36)] []) : ∀ (n : Nat) (x4_36 : Int32) (σ36 : St), mo_mend_L36 N c2_36 c3_36 n x4_36 σ36 = some yo → Wx Γ σ36 36 [(0, .ref (π 0)), (2, .int c2_36), (3, .int c3_36), (4, .int x4_36)] [] := by
  have C0 := C.1
  intro n
  induction n with
  | zero => intro x4_36 σ36 h; cases h
  | succ n ih =>
    intro x4_36 σ36 h
    rw [mo_mend_L36] at h
    refine x_aload_n C0 dX7_mend_36 rfl ?_
    refine gt_X7_19 C dX7_mend_37 ?_
    refine x_iconst C0 (v := 0) dX7_mend_40 (by decide) ?_
    refine x_iald C (k := 4) (z := 1108) rfl dX7_mend_41 h (fun h => ?_)
    refine x_iload C0 dX7_mend_42 rfl ?_
    refine x_iadd C0 dX7_mend_44 ?_
    refine x_aload_n C0 dX7_mend_45 rfl ?_
    refine gt_X7_19 C dX7_mend_46 ?_
    refine x_iconst C0 (v := 1) dX7_mend_49 (by decide) ?_
    refine x_iald C (k := 4) (z := 1108) rfl dX7_mend_50 h (fun h => ?_)
    obtain ⟨v7, σ6, hc, h⟩ := bd2_some h
    refine x_callSi C (k_mo_longOf N ((σ36.1 4 (ix 0)) + x4_36) (σ36.1 4 (ix 1))  hc) umX7_103 ut_X7_longOf un_X7 uc_X7_longOf hs_X7_longOf rfl (by decide) dX7_mend_51 (rest := []) rfl (Nat.le_of_ble_eq_true rfl) ?_
    refine x_aload_n C0 dX7_mend_54 rfl ?_
    refine gt_X7_13 C dX7_mend_55 ?_
    refine x_iconst C0 (v := 1) dX7_mend_58 (by decide) ?_
    refine x_iald C (k := 2) (z := 58) rfl dX7_mend_59 h (fun h => ?_)
    refine x_icmp_ge C0 (tgt := 69) dX7_mend_60 (by decide) h (fun h => ?_) (fun h => ?_)
    · exact x_pick [0, 1, 2, 3] rfl (kk36 _ _ (Option.some.inj h))
    · refine x_iinc C0 (j := 3) (v := 1) (L' := fun x8 => [(4, .int x8), (0, .ref (π 0)), (2, .int c2_36), (3, .int c3_36)]) dX7_mend_63 rfl (by decide) (by decide) (fun _ => rfl) h (fun x8 h => ?_)
      refine x_goto C0 (tgt := 36) dX7_mend_66 (by decide) ?_
      exact x_pick [1, 2, 3, 0] rfl (ih _ _ h)
set_option maxRecDepth 20000 in
theorem w_mo_mend_L115 {l : Launch} {D : va_G} {cA : Nat → ClassId} {π : Nat → Nat} {Γ : Gx St} {vo : Int32} {σo : St} (C : Cm Γ cX7_mend RX7 cA 2 43 8 l D π shM (some .int) (some (.int vo), σo)) (N : Nat) (c3_115 : Int32) (c2_115 : Int32) (c4_115 : Int32)  (yo : Int32 × St) (kk115 : ∀ e5_115 σe, (e5_115, σe) = yo → Wx Γ σe 175 [(2, .int c2_115), (4, .int c4_115), (5, .int e5_115)] []) : ∀ (n : Nat) (x5_115 : Int32) (x6_115 : Int32) (σ115 : St), mo_mend_L115 N c3_115 c2_115 c4_115 n x5_115 x6_115 σ115 = some yo → Wx Γ σ115 115 [(0, .ref (π 0)), (2, .int c2_115), (3, .int c3_115), (4, .int c4_115), (5, .int x5_115), (6, .int x6_115)] [] := by
  have C0 := C.1
  intro n
  induction n with
  | zero => intro x5_115 x6_115 σ115 h; cases h
  | succ n ih =>
    intro x5_115 x6_115 σ115 h
    rw [mo_mend_L115] at h
    refine x_iload C0 dX7_mend_115 rfl ?_
    refine x_aload_n C0 dX7_mend_117 rfl ?_
    refine gt_X7_19 C dX7_mend_118 ?_
    refine x_iconst C0 (v := 0) dX7_mend_121 (by decide) ?_
    refine x_iald C (k := 4) (z := 1108) rfl dX7_mend_122 h (fun h => ?_)
    refine x_icmp_ge C0 (tgt := 175) dX7_mend_123 (by decide) h (fun h => ?_) (fun h => ?_)
    · exact x_pick [1, 3, 4] rfl (kk115 _ _ (Option.some.inj h))
    · refine x_iload_n C0 dX7_mend_126 rfl ?_
      refine x_aload_n C0 dX7_mend_127 rfl ?_
      refine gt_X7_19 C dX7_mend_128 ?_
      refine x_bipush C0 (v := 43) dX7_mend_131 (by decide) ?_
      refine x_iload C0 dX7_mend_133 rfl ?_
      refine x_iadd C0 dX7_mend_135 ?_
      refine x_iald C (k := 4) (z := 1108) rfl dX7_mend_136 h (fun h => ?_)
      refine x_aload_n C0 dX7_mend_137 rfl ?_
      refine gt_X7_19 C dX7_mend_138 ?_
      refine x_bipush C0 (v := 83) dX7_mend_141 (by decide) ?_
      refine x_iload C0 dX7_mend_143 rfl ?_
      refine x_iadd C0 dX7_mend_145 ?_
      refine x_iald C (k := 4) (z := 1108) rfl dX7_mend_146 h (fun h => ?_)
      refine x_iconst C0 (v := 4) dX7_mend_147 (by decide) ?_
      refine x_idiv C0 (by decide) dX7_mend_148 ?_
      refine x_isub C0 dX7_mend_149 ?_
      refine x_isub C0 dX7_mend_150 ?_
      refine x_nm h (fun x14 h => ?_)
      refine x_istore C0 (L' := [(7, .int x14), (0, .ref (π 0)), (2, .int c2_115), (3, .int c3_115), (4, .int c4_115), (5, .int x5_115), (6, .int x6_115)]) dX7_mend_151 (by decide) rfl ?_
      refine x_iload C0 dX7_mend_153 rfl ?_
      refine x_iload C0 dX7_mend_155 rfl ?_
      refine x_if_le C0 (tgt := 165) dX7_mend_157 (by decide) h (fun h => ?_) (fun h => ?_)
      · refine x_iconst C0 (v := 0) dX7_mend_165 (by decide) ?_
        refine x_iadd C0 dX7_mend_166 ?_
        refine x_nm h (fun x15 h => ?_)
        refine x_istore C0 (L' := [(5, .int x15), (7, .int x14), (0, .ref (π 0)), (2, .int c2_115), (3, .int c3_115), (4, .int c4_115), (6, .int x6_115)]) dX7_mend_167 (by decide) rfl ?_
        refine x_iinc C0 (j := 6) (v := 1) (L' := fun x16 => [(6, .int x16), (5, .int x15), (7, .int x14), (0, .ref (π 0)), (2, .int c2_115), (3, .int c3_115), (4, .int c4_115)]) dX7_mend_169 rfl (by decide) (by decide) (fun _ => rfl) h (fun x16 h => ?_)
        refine x_goto C0 (tgt := 115) dX7_mend_172 (by decide) ?_
        exact x_pick [3, 4, 5, 6, 1, 0] rfl (ih _ _ _ h)
      · refine x_iload C0 dX7_mend_160 rfl ?_
        refine x_goto C0 (tgt := 166) dX7_mend_162 (by decide) ?_
        refine x_iadd C0 dX7_mend_166 ?_
        refine x_nm h (fun x17 h => ?_)
        refine x_istore C0 (L' := [(5, .int x17), (7, .int x14), (0, .ref (π 0)), (2, .int c2_115), (3, .int c3_115), (4, .int c4_115), (6, .int x6_115)]) dX7_mend_167 (by decide) rfl ?_
        refine x_iinc C0 (j := 6) (v := 1) (L' := fun x18 => [(6, .int x18), (5, .int x17), (7, .int x14), (0, .ref (π 0)), (2, .int c2_115), (3, .int c3_115), (4, .int c4_115)]) dX7_mend_169 rfl (by decide) (by decide) (fun _ => rfl) h (fun x18 h => ?_)
        refine x_goto C0 (tgt := 115) dX7_mend_172 (by decide) ?_
        exact x_pick [3, 4, 5, 6, 1, 0] rfl (ih _ _ _ h)
set_option maxRecDepth 20000 in
theorem k_mo_mend {l : Launch} {D : va_G} {cA : Nat → ClassId} {π : Nat → Nat} (N : Nat) (a1 : Int32) (a2 : Int32)  {σ : St} {vo : Int32} {σo : St} (h : mo_mend N a1 a2 σ = some (vo, σo)) : Kt l D cA π shM yX7_mend cX7_mend 8 (some .int) 2 43 [.ref (π 0), .int a1, .int a2] σ (some (.int vo)) σo := by
  refine Kt.of (by decide) (Nat.le_of_ble_eq_true rfl) (L := [(0, .ref (π 0)), (1, .int a1), (2, .int a2)]) rfl (fun Γ C => ?_)
  have C0 := C.1
  unfold mo_mend at h
  refine x_aload_n C0 dX7_mend_0 rfl ?_
  refine x_iload_n C0 dX7_mend_1 rfl ?_
  obtain ⟨v2, σ1, hc, h⟩ := bd2_some h
  refine x_callVi C (k_mo_isPerson N a1  hc) umX7_91 ui_X7_isPerson us_X7_isPerson un_X7 uc_X7_isPerson hv_X7_isPerson rfl (by decide) (fks := [1, 4, 0, 5, 6, 7, 8, 9, 10, 0, 0, 0, 0, 0, 11]) rfl rfl dX7_mend_2 (rest := []) rfl (Nat.le_of_ble_eq_true rfl) ?_
  refine x_if_eq C0 (tgt := 17) dX7_mend_5 (by decide) h (fun h => ?_) (fun h => ?_)
  · refine x_iconst C0 (v := (-1)) dX7_mend_17 (by decide) ?_
    exact x_iret C dX7_mend_18 h
  · refine x_iload_n C0 dX7_mend_8 rfl ?_
    refine x_iconst C0 (v := 0) dX7_mend_9 (by decide) ?_
    refine x_iconst C0 (v := 1) dX7_mend_10 (by decide) ?_
    obtain ⟨v4, σ3, hc, h⟩ := bd2_some h
    refine x_callSi C (k_mo_in N a2 0 1  hc) umX7_42 ut_X7_in un_X7 uc_X7_in hs_X7_in rfl (by decide) dX7_mend_11 (rest := []) rfl (Nat.le_of_ble_eq_true rfl) ?_
    refine x_if_ne C0 (tgt := 19) dX7_mend_14 (by decide) h (fun h => ?_) (fun h => ?_)
    · refine x_aload_n C0 dX7_mend_19 rfl ?_
      refine gt_X7_13 C dX7_mend_20 ?_
      refine x_bipush C0 (v := 6) dX7_mend_23 (by decide) ?_
      refine x_iload_n C0 dX7_mend_25 rfl ?_
      refine x_iadd C0 dX7_mend_26 ?_
      refine x_iald C (k := 2) (z := 58) rfl dX7_mend_27 h (fun h => ?_)
      refine x_iconst C0 (v := 1) dX7_mend_28 (by decide) ?_
      refine x_iadd C0 dX7_mend_29 ?_
      refine x_iconst C0 (v := 2) dX7_mend_30 (by decide) ?_
      refine x_idiv C0 (by decide) dX7_mend_31 ?_
      refine x_nm h (fun x5 h => ?_)
      refine x_istore_n C0 (L' := [(3, .int x5), (0, .ref (π 0)), (1, .int a1), (2, .int a2)]) dX7_mend_32 (by decide) rfl ?_
      refine x_iconst C0 (v := 0) dX7_mend_33 (by decide) ?_
      refine x_istore C0 (L' := [(4, .int 0), (3, .int x5), (0, .ref (π 0)), (1, .int a1), (2, .int a2)]) dX7_mend_34 (by decide) rfl ?_
      obtain ⟨x9, σ10, hL, h⟩ := bd2_some h
      refine x_pick [2, 4, 1, 0] rfl (w_mo_mend_L36 C N a2 x5 _ (fun b0 b1 e => ?_) N 0 σ3 hL)
      cases e
      refine x_aload_n C0 dX7_mend_69 rfl ?_
      refine gt_X7_19 C dX7_mend_70 ?_
      refine x_iconst C0 (v := 0) dX7_mend_73 (by decide) ?_
      refine x_iald C (k := 4) (z := 1108) rfl dX7_mend_74 h (fun h => ?_)
      refine x_iload C0 dX7_mend_75 rfl ?_
      refine x_iadd C0 dX7_mend_77 ?_
      refine x_aload_n C0 dX7_mend_78 rfl ?_
      refine gt_X7_19 C dX7_mend_79 ?_
      refine x_iconst C0 (v := 1) dX7_mend_82 (by decide) ?_
      refine x_iald C (k := 4) (z := 1108) rfl dX7_mend_83 h (fun h => ?_)
      obtain ⟨v12, σ11, hc, h⟩ := bd2_some h
      refine x_callSi C (k_mo_longOf N ((σ10.1 4 (ix 0)) + x9) (σ10.1 4 (ix 1))  hc) umX7_103 ut_X7_longOf un_X7 uc_X7_longOf hs_X7_longOf rfl (by decide) dX7_mend_84 (rest := []) rfl (Nat.le_of_ble_eq_true rfl) ?_
      refine x_aload_n C0 dX7_mend_87 rfl ?_
      refine gt_X7_13 C dX7_mend_88 ?_
      refine x_iconst C0 (v := 1) dX7_mend_91 (by decide) ?_
      refine x_iald C (k := 2) (z := 58) rfl dX7_mend_92 h (fun h => ?_)
      refine x_aload_n C0 dX7_mend_93 rfl ?_
      refine gt_X7_13 C dX7_mend_94 ?_
      refine x_iconst C0 (v := 2) dX7_mend_97 (by decide) ?_
      refine x_iald C (k := 2) (z := 58) rfl dX7_mend_98 h (fun h => ?_)
      refine x_iadd C0 dX7_mend_99 ?_
      refine x_icmp_le C0 (tgt := 106) dX7_mend_100 (by decide) h (fun h => ?_) (fun h => ?_)
      · refine x_iload C0 dX7_mend_106 rfl ?_
        refine x_iload_n C0 dX7_mend_108 rfl ?_
        refine x_imul C0 dX7_mend_109 ?_
        refine x_nm h (fun x13 h => ?_)
        refine x_istore C0 (L' := [(5, .int x13), (0, .ref (π 0)), (2, .int a2), (3, .int x5), (4, .int x9)]) dX7_mend_110 (by decide) rfl ?_
        refine x_iconst C0 (v := 0) dX7_mend_112 (by decide) ?_
        refine x_istore C0 (L' := [(6, .int 0), (5, .int x13), (0, .ref (π 0)), (2, .int a2), (3, .int x5), (4, .int x9)]) dX7_mend_113 (by decide) rfl ?_
        obtain ⟨x19, σ20, hL, h⟩ := bd2_some h
        refine x_pick [2, 3, 4, 5, 1, 0] rfl (w_mo_mend_L115 C N x5 a2 x9 _ (fun b0 b1 e => ?_) N x13 0 σ11 hL)
        cases e
        refine x_iload_n C0 dX7_mend_175 rfl ?_
        refine x_if_ne C0 (tgt := 184) dX7_mend_176 (by decide) h (fun h => ?_) (fun h => ?_)
        · refine x_iload C0 dX7_mend_184 rfl ?_
          exact x_iret C dX7_mend_186 h
        · refine x_iload C0 dX7_mend_179 rfl ?_
          refine x_goto C0 (tgt := 186) dX7_mend_181 (by decide) ?_
          exact x_iret C dX7_mend_186 h
      · refine x_bipush C0 (v := (-5)) dX7_mend_103 (by decide) ?_
        exact x_iret C dX7_mend_105 h
    · refine x_iconst C0 (v := (-1)) dX7_mend_17 (by decide) ?_
      exact x_iret C dX7_mend_18 h
def mo_odds_J108 (c1_53 : Int32) (c2_53 : Int32) (c3_53 : Int32) (c4_53 : Int32) (R53 : Int32 → Int32 → Int32 → St → Option (Int32 × Int32 × St)) (x5_108 : Int32) (x6_108 : Int32) (x7_108 : Int32) (x8_108 : Int32) (t0_108 : Int32) (σ108 : St) : Option (Int32 × Int32 × St) :=
  lt (x5_108 * (x8_108 + t0_108)) fun x17 =>
  lt (x6_108 * 10) fun x18 =>
  lt (x7_108 + 1) fun x19 =>
  R53 x17 x18 x19 σ108
def mo_odds_J83 (N : Nat) (c1_53 : Int32) (c2_53 : Int32) (c3_53 : Int32) (c4_53 : Int32) (R53 : Int32 → Int32 → Int32 → St → Option (Int32 × Int32 × St)) (x5_83 : Int32) (x6_83 : Int32) (x7_83 : Int32) (t0_83 : Int32) (σ83 : St) : Option (Int32 × Int32 × St) :=
  ck (inb 1 1108) (lt (put σ83 4 (ix 1) 0) fun σ14 =>
  bd2 (mo_holds N c1_53 σ14) fun v16 σ15 =>
  if v16 = 0 then (
    mo_odds_J108 c1_53 c2_53 c3_53 c4_53 R53 x5_83 x6_83 x7_83 t0_83 0 σ15)
  else (
    mo_odds_J108 c1_53 c2_53 c3_53 c4_53 R53 x5_83 x6_83 x7_83 t0_83 (10 - c2_53) σ15))
def mo_odds_L53 (N : Nat) (c3_53 : Int32) (c1_53 : Int32) (c2_53 : Int32) (c4_53 : Int32) : Nat → Int32 → Int32 → Int32 → St → Option (Int32 × Int32 × St)
  | 0, _, _, _, _ => none
  | n + 1, x5_53, x6_53, x7_53, σ53 =>
    if c3_53 ≤ x7_53 then (
      some (x5_53, x6_53, σ53))
    else (
      bd1 (mo_ages N  σ53) fun σ10 =>
      ck (inb 1 1108) (lt (put σ10 4 (ix 1) 1) fun σ11 =>
      bd2 (mo_holds N c1_53 σ11) fun v13 σ12 =>
      if v13 = 0 then (
        mo_odds_J83 N c1_53 c2_53 c3_53 c4_53 (mo_odds_L53 N c3_53 c1_53 c2_53 c4_53 n) x5_53 x6_53 x7_53 0 σ12)
      else (
        mo_odds_J83 N c1_53 c2_53 c3_53 c4_53 (mo_odds_L53 N c3_53 c1_53 c2_53 c4_53 n) x5_53 x6_53 x7_53 c2_53 σ12)))
def mo_odds_L145 (N : Nat) (c4_145 : Int32) (c5_145 : Int32) (c6_145 : Int32) : Nat → Int32 → Int32 → St → Option (Int32 × St)
  | 0, _, _, _ => none
  | n + 1, x7_145, x8_145, σ145 =>
    if x8_145 ≤ 0 then (
      some (x7_145, σ145))
    else (
      ck (nz x8_145) (
      lt (rem x7_145 x8_145) fun x24 =>
      (mo_odds_L145 N c4_145 c5_145 c6_145 n) x8_145 x24 σ145))
def mo_odds (N : Nat) (a1 : Int32) (a2 : Int32) (a3 : Int32) (a4 : Int32) (σ : St) : Option (Int32 × St) :=
  bd2 (mo_isPerson N a1 σ) fun v2 σ1 =>
  if v2 = 0 then (
    some ((-1), σ1))
  else (
    bd2 (mo_in N a2 0 10 σ1) fun v4 σ3 =>
    if v4 = 0 then (
      some ((-1), σ3))
    else (
      bd2 (mo_in N a3 0 6 σ3) fun v6 σ5 =>
      if v6 = 0 then (
        some ((-1), σ5))
      else (
        bd2 (mo_in N a4 0 1 σ5) fun v8 σ7 =>
        if v8 = 0 then (
          some ((-1), σ7))
        else (
          bd1 (mo_remembers N  σ7) fun σ9 =>
          bd3 (mo_odds_L53 N a3 a1 a2 a4 N 1 1 0 σ9) fun x20 x21 σ22 =>
          bd1 (mo_lets N  σ22) fun σ23 =>
          bd2 (mo_odds_L145 N a4 x20 x21 N x20 x21 σ23) fun x25 σ26 =>
          if a4 = 0 then (
            ck (nz x25) (
            some ((x20 / x25), σ26)))
          else (
            ck (nz x25) (
            some ((x21 / x25), σ26)))))))
set_option maxRecDepth 20000 in
theorem w_mo_odds_J108 {l : Launch} {D : va_G} {cA : Nat → ClassId} {π : Nat → Nat} {Γ : Gx St} {vo : Int32} {σo : St} {yo : Int32 × Int32 × St} (C : Cm Γ cX7_odds RX7 cA 3 65 10 l D π shM (some .int) (some (.int vo), σo)) (c1_53 : Int32) (c2_53 : Int32) (c3_53 : Int32) (c4_53 : Int32) (R53 : Int32 → Int32 → Int32 → St → Option (Int32 × Int32 × St)) (x5_108 : Int32) (x6_108 : Int32) (x7_108 : Int32) (x8_108 : Int32) (t0_108 : Int32) (σ108 : St) (hR53 : ∀ x5_53 x6_53 x7_53 σ, R53 x5_53 x6_53 x7_53 σ = some yo → Wx Γ σ 53 [(0, .ref (π 0)), (1, .int c1_53), (2, .int c2_53), (3, .int c3_53), (4, .int c4_53), (5, .int x5_53), (6, .int x6_53), (7, .int x7_53)] []) (h : mo_odds_J108 c1_53 c2_53 c3_53 c4_53 R53 x5_108 x6_108 x7_108 x8_108 t0_108 σ108 = some yo) : Wx Γ σ108 108 [(0, .ref (π 0)), (1, .int c1_53), (2, .int c2_53), (3, .int c3_53), (4, .int c4_53), (5, .int x5_108), (6, .int x6_108), (7, .int x7_108), (8, .int x8_108)] [.int t0_108] := by
  have C0 := C.1
  unfold mo_odds_J108 at h
  refine x_istore C0 (L' := [(9, .int t0_108), (0, .ref (π 0)), (1, .int c1_53), (2, .int c2_53), (3, .int c3_53), (4, .int c4_53), (5, .int x5_108), (6, .int x6_108), (7, .int x7_108), (8, .int x8_108)]) dX7_odds_108 (by decide) rfl ?_
  refine x_iload C0 dX7_odds_110 rfl ?_
  refine x_iload C0 dX7_odds_112 rfl ?_
  refine x_iload C0 dX7_odds_114 rfl ?_
  refine x_iadd C0 dX7_odds_116 ?_
  refine x_imul C0 dX7_odds_117 ?_
  refine x_nm h (fun x17 h => ?_)
  refine x_istore C0 (L' := [(5, .int x17), (9, .int t0_108), (0, .ref (π 0)), (1, .int c1_53), (2, .int c2_53), (3, .int c3_53), (4, .int c4_53), (6, .int x6_108), (7, .int x7_108), (8, .int x8_108)]) dX7_odds_118 (by decide) rfl ?_
  refine x_iload C0 dX7_odds_120 rfl ?_
  refine x_bipush C0 (v := 10) dX7_odds_122 (by decide) ?_
  refine x_imul C0 dX7_odds_124 ?_
  refine x_nm h (fun x18 h => ?_)
  refine x_istore C0 (L' := [(6, .int x18), (5, .int x17), (9, .int t0_108), (0, .ref (π 0)), (1, .int c1_53), (2, .int c2_53), (3, .int c3_53), (4, .int c4_53), (7, .int x7_108), (8, .int x8_108)]) dX7_odds_125 (by decide) rfl ?_
  refine x_iinc C0 (j := 8) (v := 1) (L' := fun x19 => [(7, .int x19), (6, .int x18), (5, .int x17), (9, .int t0_108), (0, .ref (π 0)), (1, .int c1_53), (2, .int c2_53), (3, .int c3_53), (4, .int c4_53), (8, .int x8_108)]) dX7_odds_127 rfl (by decide) (by decide) (fun _ => rfl) h (fun x19 h => ?_)
  refine x_goto C0 (tgt := 53) dX7_odds_130 (by decide) ?_
  exact x_pick [4, 5, 6, 7, 8, 2, 1, 0] rfl (hR53 _ _ _ _ h)
set_option maxRecDepth 20000 in
theorem w_mo_odds_J83 {l : Launch} {D : va_G} {cA : Nat → ClassId} {π : Nat → Nat} {Γ : Gx St} {vo : Int32} {σo : St} {yo : Int32 × Int32 × St} (C : Cm Γ cX7_odds RX7 cA 3 65 10 l D π shM (some .int) (some (.int vo), σo)) (N : Nat) (c1_53 : Int32) (c2_53 : Int32) (c3_53 : Int32) (c4_53 : Int32) (R53 : Int32 → Int32 → Int32 → St → Option (Int32 × Int32 × St)) (x5_83 : Int32) (x6_83 : Int32) (x7_83 : Int32) (t0_83 : Int32) (σ83 : St) (hR53 : ∀ x5_53 x6_53 x7_53 σ, R53 x5_53 x6_53 x7_53 σ = some yo → Wx Γ σ 53 [(0, .ref (π 0)), (1, .int c1_53), (2, .int c2_53), (3, .int c3_53), (4, .int c4_53), (5, .int x5_53), (6, .int x6_53), (7, .int x7_53)] []) (h : mo_odds_J83 N c1_53 c2_53 c3_53 c4_53 R53 x5_83 x6_83 x7_83 t0_83 σ83 = some yo) : Wx Γ σ83 83 [(0, .ref (π 0)), (1, .int c1_53), (2, .int c2_53), (3, .int c3_53), (4, .int c4_53), (5, .int x5_83), (6, .int x6_83), (7, .int x7_83)] [.int t0_83] := by
  have C0 := C.1
  unfold mo_odds_J83 at h
  refine x_istore C0 (L' := [(8, .int t0_83), (0, .ref (π 0)), (1, .int c1_53), (2, .int c2_53), (3, .int c3_53), (4, .int c4_53), (5, .int x5_83), (6, .int x6_83), (7, .int x7_83)]) dX7_odds_83 (by decide) rfl ?_
  refine x_aload_n C0 dX7_odds_85 rfl ?_
  refine gt_X7_19 C dX7_odds_86 ?_
  refine x_iconst C0 (v := 1) dX7_odds_89 (by decide) ?_
  refine x_iconst C0 (v := 0) dX7_odds_90 (by decide) ?_
  refine x_iast C (k := 4) (z := 1108) rfl dX7_odds_91 h (fun σ14 h => ?_)
  refine x_aload_n C0 dX7_odds_92 rfl ?_
  refine x_iload_n C0 dX7_odds_93 rfl ?_
  obtain ⟨v16, σ15, hc, h⟩ := bd2_some h
  refine x_callVi C (k_mo_holds N c1_53  hc) umX7_119 ui_X7_holds us_X7_holds un_X7 uc_X7_holds hv_X7_holds rfl (by decide) (fks := [1, 4, 0, 5, 6, 7, 8, 9, 10, 0, 0, 0, 0, 0, 11]) rfl rfl dX7_odds_94 (rest := []) rfl (Nat.le_of_ble_eq_true rfl) ?_
  refine x_if_eq C0 (tgt := 107) dX7_odds_97 (by decide) h (fun h => ?_) (fun h => ?_)
  · refine x_iconst C0 (v := 0) dX7_odds_107 (by decide) ?_
    exact x_pick [1, 2, 3, 4, 5, 6, 7, 8, 0] rfl (w_mo_odds_J108 C c1_53 c2_53 c3_53 c4_53 R53 x5_83 x6_83 x7_83 t0_83 0 σ15 hR53 h)
  · refine x_bipush C0 (v := 10) dX7_odds_100 (by decide) ?_
    refine x_iload_n C0 dX7_odds_102 rfl ?_
    refine x_isub C0 dX7_odds_103 ?_
    refine x_goto C0 (tgt := 108) dX7_odds_104 (by decide) ?_
    exact x_pick [1, 2, 3, 4, 5, 6, 7, 8, 0] rfl (w_mo_odds_J108 C c1_53 c2_53 c3_53 c4_53 R53 x5_83 x6_83 x7_83 t0_83 (10 - c2_53) σ15 hR53 h)
set_option maxRecDepth 20000 in
theorem w_mo_odds_L53 {l : Launch} {D : va_G} {cA : Nat → ClassId} {π : Nat → Nat} {Γ : Gx St} {vo : Int32} {σo : St} (C : Cm Γ cX7_odds RX7 cA 3 65 10 l D π shM (some .int) (some (.int vo), σo)) (N : Nat) (c3_53 : Int32) (c1_53 : Int32) (c2_53 : Int32) (c4_53 : Int32)  (yo : Int32 × Int32 × St) (kk53 : ∀ e5_53 e6_53 σe, (e5_53, e6_53, σe) = yo → Wx Γ σe 133 [(0, .ref (π 0)), (4, .int c4_53), (5, .int e5_53), (6, .int e6_53)] []) : ∀ (n : Nat) (x5_53 : Int32) (x6_53 : Int32) (x7_53 : Int32) (σ53 : St), mo_odds_L53 N c3_53 c1_53 c2_53 c4_53 n x5_53 x6_53 x7_53 σ53 = some yo → Wx Γ σ53 53 [(0, .ref (π 0)), (1, .int c1_53), (2, .int c2_53), (3, .int c3_53), (4, .int c4_53), (5, .int x5_53), (6, .int x6_53), (7, .int x7_53)] [] := by
  have C0 := C.1
  intro n
  induction n with
  | zero => intro x5_53 x6_53 x7_53 σ53 h; cases h
  | succ n ih =>
    intro x5_53 x6_53 x7_53 σ53 h
    rw [mo_odds_L53] at h
    refine x_iload C0 dX7_odds_53 rfl ?_
    refine x_iload_n C0 dX7_odds_55 rfl ?_
    refine x_icmp_ge C0 (tgt := 133) dX7_odds_56 (by decide) h (fun h => ?_) (fun h => ?_)
    · exact x_pick [0, 4, 5, 6] rfl (kk53 _ _ _ (Option.some.inj h))
    · refine x_aload_n C0 dX7_odds_59 rfl ?_
      obtain ⟨σ10, hc, h⟩ := bd1_some h
      refine x_callVv C (k_mo_ages N  hc) umX7_128 ui_X7_ages us_X7_ages un_X7 uc_X7_ages hv_X7_ages rfl (by decide) (fks := [1, 4, 0, 5, 6, 7, 8, 9, 10, 0, 0, 0, 0, 0, 11]) rfl rfl dX7_odds_60 (rest := []) rfl (Nat.le_of_ble_eq_true rfl) ?_
      refine x_aload_n C0 dX7_odds_63 rfl ?_
      refine gt_X7_19 C dX7_odds_64 ?_
      refine x_iconst C0 (v := 1) dX7_odds_67 (by decide) ?_
      refine x_iconst C0 (v := 1) dX7_odds_68 (by decide) ?_
      refine x_iast C (k := 4) (z := 1108) rfl dX7_odds_69 h (fun σ11 h => ?_)
      refine x_aload_n C0 dX7_odds_70 rfl ?_
      refine x_iload_n C0 dX7_odds_71 rfl ?_
      obtain ⟨v13, σ12, hc, h⟩ := bd2_some h
      refine x_callVi C (k_mo_holds N c1_53  hc) umX7_119 ui_X7_holds us_X7_holds un_X7 uc_X7_holds hv_X7_holds rfl (by decide) (fks := [1, 4, 0, 5, 6, 7, 8, 9, 10, 0, 0, 0, 0, 0, 11]) rfl rfl dX7_odds_72 (rest := []) rfl (Nat.le_of_ble_eq_true rfl) ?_
      refine x_if_eq C0 (tgt := 82) dX7_odds_75 (by decide) h (fun h => ?_) (fun h => ?_)
      · refine x_iconst C0 (v := 0) dX7_odds_82 (by decide) ?_
        exact x_pick [0, 1, 2, 3, 4, 5, 6, 7] rfl (w_mo_odds_J83 C N c1_53 c2_53 c3_53 c4_53 (mo_odds_L53 N c3_53 c1_53 c2_53 c4_53 n) x5_53 x6_53 x7_53 0 σ12 ih h)
      · refine x_iload_n C0 dX7_odds_78 rfl ?_
        refine x_goto C0 (tgt := 83) dX7_odds_79 (by decide) ?_
        exact x_pick [0, 1, 2, 3, 4, 5, 6, 7] rfl (w_mo_odds_J83 C N c1_53 c2_53 c3_53 c4_53 (mo_odds_L53 N c3_53 c1_53 c2_53 c4_53 n) x5_53 x6_53 x7_53 c2_53 σ12 ih h)
set_option maxRecDepth 20000 in
theorem w_mo_odds_L145 {l : Launch} {D : va_G} {cA : Nat → ClassId} {π : Nat → Nat} {Γ : Gx St} {vo : Int32} {σo : St} (C : Cm Γ cX7_odds RX7 cA 3 65 10 l D π shM (some .int) (some (.int vo), σo)) (N : Nat) (c4_145 : Int32) (c5_145 : Int32) (c6_145 : Int32)  (yo : Int32 × St) (kk145 : ∀ e7_145 σe, (e7_145, σe) = yo → Wx Γ σe 168 [(4, .int c4_145), (5, .int c5_145), (6, .int c6_145), (7, .int e7_145)] []) : ∀ (n : Nat) (x7_145 : Int32) (x8_145 : Int32) (σ145 : St), mo_odds_L145 N c4_145 c5_145 c6_145 n x7_145 x8_145 σ145 = some yo → Wx Γ σ145 145 [(4, .int c4_145), (5, .int c5_145), (6, .int c6_145), (7, .int x7_145), (8, .int x8_145)] [] := by
  have C0 := C.1
  intro n
  induction n with
  | zero => intro x7_145 x8_145 σ145 h; cases h
  | succ n ih =>
    intro x7_145 x8_145 σ145 h
    rw [mo_odds_L145] at h
    refine x_iload C0 dX7_odds_145 rfl ?_
    refine x_if_le C0 (tgt := 168) dX7_odds_147 (by decide) h (fun h => ?_) (fun h => ?_)
    · exact x_pick [0, 1, 2, 3] rfl (kk145 _ _ (Option.some.inj h))
    · refine x_iload C0 dX7_odds_150 rfl ?_
      refine x_iload C0 dX7_odds_152 rfl ?_
      refine x_chk h (fun q h => ?_)
      refine x_irem C0 (nz_ne q) dX7_odds_154 ?_
      refine x_nm h (fun x24 h => ?_)
      refine x_istore C0 (L' := [(9, .int x24), (4, .int c4_145), (5, .int c5_145), (6, .int c6_145), (7, .int x7_145), (8, .int x8_145)]) dX7_odds_155 (by decide) rfl ?_
      refine x_iload C0 dX7_odds_157 rfl ?_
      refine x_istore C0 (L' := [(7, .int x8_145), (9, .int x24), (4, .int c4_145), (5, .int c5_145), (6, .int c6_145), (8, .int x8_145)]) dX7_odds_159 (by decide) rfl ?_
      refine x_iload C0 dX7_odds_161 rfl ?_
      refine x_istore C0 (L' := [(8, .int x24), (7, .int x8_145), (9, .int x24), (4, .int c4_145), (5, .int c5_145), (6, .int c6_145)]) dX7_odds_163 (by decide) rfl ?_
      refine x_goto C0 (tgt := 145) dX7_odds_165 (by decide) ?_
      exact x_pick [3, 4, 5, 1, 0] rfl (ih _ _ _ h)
set_option maxRecDepth 20000 in
theorem k_mo_odds {l : Launch} {D : va_G} {cA : Nat → ClassId} {π : Nat → Nat} (N : Nat) (a1 : Int32) (a2 : Int32) (a3 : Int32) (a4 : Int32)  {σ : St} {vo : Int32} {σo : St} (h : mo_odds N a1 a2 a3 a4 σ = some (vo, σo)) : Kt l D cA π shM yX7_odds cX7_odds 10 (some .int) 3 65 [.ref (π 0), .int a1, .int a2, .int a3, .int a4] σ (some (.int vo)) σo := by
  refine Kt.of (by decide) (Nat.le_of_ble_eq_true rfl) (L := [(0, .ref (π 0)), (1, .int a1), (2, .int a2), (3, .int a3), (4, .int a4)]) rfl (fun Γ C => ?_)
  have C0 := C.1
  unfold mo_odds at h
  refine x_aload_n C0 dX7_odds_0 rfl ?_
  refine x_iload_n C0 dX7_odds_1 rfl ?_
  obtain ⟨v2, σ1, hc, h⟩ := bd2_some h
  refine x_callVi C (k_mo_isPerson N a1  hc) umX7_91 ui_X7_isPerson us_X7_isPerson un_X7 uc_X7_isPerson hv_X7_isPerson rfl (by decide) (fks := [1, 4, 0, 5, 6, 7, 8, 9, 10, 0, 0, 0, 0, 0, 11]) rfl rfl dX7_odds_2 (rest := []) rfl (Nat.le_of_ble_eq_true rfl) ?_
  refine x_if_eq C0 (tgt := 38) dX7_odds_5 (by decide) h (fun h => ?_) (fun h => ?_)
  · refine x_iconst C0 (v := (-1)) dX7_odds_38 (by decide) ?_
    exact x_iret C dX7_odds_39 h
  · refine x_iload_n C0 dX7_odds_8 rfl ?_
    refine x_iconst C0 (v := 0) dX7_odds_9 (by decide) ?_
    refine x_bipush C0 (v := 10) dX7_odds_10 (by decide) ?_
    obtain ⟨v4, σ3, hc, h⟩ := bd2_some h
    refine x_callSi C (k_mo_in N a2 0 10  hc) umX7_42 ut_X7_in un_X7 uc_X7_in hs_X7_in rfl (by decide) dX7_odds_12 (rest := []) rfl (Nat.le_of_ble_eq_true rfl) ?_
    refine x_if_eq C0 (tgt := 38) dX7_odds_15 (by decide) h (fun h => ?_) (fun h => ?_)
    · refine x_iconst C0 (v := (-1)) dX7_odds_38 (by decide) ?_
      exact x_iret C dX7_odds_39 h
    · refine x_iload_n C0 dX7_odds_18 rfl ?_
      refine x_iconst C0 (v := 0) dX7_odds_19 (by decide) ?_
      refine x_bipush C0 (v := 6) dX7_odds_20 (by decide) ?_
      obtain ⟨v6, σ5, hc, h⟩ := bd2_some h
      refine x_callSi C (k_mo_in N a3 0 6  hc) umX7_42 ut_X7_in un_X7 uc_X7_in hs_X7_in rfl (by decide) dX7_odds_22 (rest := []) rfl (Nat.le_of_ble_eq_true rfl) ?_
      refine x_if_eq C0 (tgt := 38) dX7_odds_25 (by decide) h (fun h => ?_) (fun h => ?_)
      · refine x_iconst C0 (v := (-1)) dX7_odds_38 (by decide) ?_
        exact x_iret C dX7_odds_39 h
      · refine x_iload C0 dX7_odds_28 rfl ?_
        refine x_iconst C0 (v := 0) dX7_odds_30 (by decide) ?_
        refine x_iconst C0 (v := 1) dX7_odds_31 (by decide) ?_
        obtain ⟨v8, σ7, hc, h⟩ := bd2_some h
        refine x_callSi C (k_mo_in N a4 0 1  hc) umX7_42 ut_X7_in un_X7 uc_X7_in hs_X7_in rfl (by decide) dX7_odds_32 (rest := []) rfl (Nat.le_of_ble_eq_true rfl) ?_
        refine x_if_ne C0 (tgt := 40) dX7_odds_35 (by decide) h (fun h => ?_) (fun h => ?_)
        · refine x_aload_n C0 dX7_odds_40 rfl ?_
          obtain ⟨σ9, hc, h⟩ := bd1_some h
          refine x_callVv C (k_mo_remembers N  hc) umX7_134 ui_X7_remembers us_X7_remembers un_X7 uc_X7_remembers hv_X7_remembers rfl (by decide) (fks := [1, 4, 0, 5, 6, 7, 8, 9, 10, 0, 0, 0, 0, 0, 11]) rfl rfl dX7_odds_41 (rest := []) rfl (Nat.le_of_ble_eq_true rfl) ?_
          refine x_iconst C0 (v := 1) dX7_odds_44 (by decide) ?_
          refine x_istore C0 (L' := [(5, .int 1), (0, .ref (π 0)), (1, .int a1), (2, .int a2), (3, .int a3), (4, .int a4)]) dX7_odds_45 (by decide) rfl ?_
          refine x_iconst C0 (v := 1) dX7_odds_47 (by decide) ?_
          refine x_istore C0 (L' := [(6, .int 1), (5, .int 1), (0, .ref (π 0)), (1, .int a1), (2, .int a2), (3, .int a3), (4, .int a4)]) dX7_odds_48 (by decide) rfl ?_
          refine x_iconst C0 (v := 0) dX7_odds_50 (by decide) ?_
          refine x_istore C0 (L' := [(7, .int 0), (6, .int 1), (5, .int 1), (0, .ref (π 0)), (1, .int a1), (2, .int a2), (3, .int a3), (4, .int a4)]) dX7_odds_51 (by decide) rfl ?_
          obtain ⟨x20, x21, σ22, hL, h⟩ := bd3_some h
          refine x_pick [3, 4, 5, 6, 7, 2, 1, 0] rfl (w_mo_odds_L53 C N a3 a1 a2 a4 _ (fun b0 b1 b2 e => ?_) N 1 1 0 σ9 hL)
          cases e
          refine x_aload_n C0 dX7_odds_133 rfl ?_
          obtain ⟨σ23, hc, h⟩ := bd1_some h
          refine x_callVv C (k_mo_lets N  hc) umX7_137 ui_X7_lets us_X7_lets un_X7 uc_X7_lets hv_X7_lets rfl (by decide) (fks := [1, 4, 0, 5, 6, 7, 8, 9, 10, 0, 0, 0, 0, 0, 11]) rfl rfl dX7_odds_134 (rest := []) rfl (Nat.le_of_ble_eq_true rfl) ?_
          refine x_iload C0 dX7_odds_137 rfl ?_
          refine x_istore C0 (L' := [(7, .int x20), (0, .ref (π 0)), (4, .int a4), (5, .int x20), (6, .int x21)]) dX7_odds_139 (by decide) rfl ?_
          refine x_iload C0 dX7_odds_141 rfl ?_
          refine x_istore C0 (L' := [(8, .int x21), (7, .int x20), (0, .ref (π 0)), (4, .int a4), (5, .int x20), (6, .int x21)]) dX7_odds_143 (by decide) rfl ?_
          obtain ⟨x25, σ26, hL, h⟩ := bd2_some h
          refine x_pick [3, 4, 5, 1, 0] rfl (w_mo_odds_L145 C N a4 x20 x21 _ (fun b0 b1 e => ?_) N x20 x21 σ23 hL)
          cases e
          refine x_iload C0 dX7_odds_168 rfl ?_
          refine x_if_ne C0 (tgt := 181) dX7_odds_170 (by decide) h (fun h => ?_) (fun h => ?_)
          · refine x_iload C0 dX7_odds_181 rfl ?_
            refine x_iload C0 dX7_odds_183 rfl ?_
            refine x_chk h (fun q h => ?_)
            refine x_idiv C0 (nz_ne q) dX7_odds_185 ?_
            exact x_iret C dX7_odds_186 h
          · refine x_iload C0 dX7_odds_173 rfl ?_
            refine x_iload C0 dX7_odds_175 rfl ?_
            refine x_chk h (fun q h => ?_)
            refine x_idiv C0 (nz_ne q) dX7_odds_177 ?_
            refine x_goto C0 (tgt := 186) dX7_odds_178 (by decide) ?_
            exact x_iret C dX7_odds_186 h
        · refine x_iconst C0 (v := (-1)) dX7_odds_38 (by decide) ?_
          exact x_iret C dX7_odds_39 h
def mo_plumbs (N : Nat) (a1 : Int32) (a2 : Int32) (σ : St) : Option (Int32 × St) :=
  bd2 (mo_in N a1 0 39 σ) fun v2 σ1 =>
  if v2 = 0 then (
    some ((-1), σ1))
  else (
    bd2 (mo_in N a2 0 9 σ1) fun v4 σ3 =>
    if v4 = 0 then (
      some ((-1), σ3))
    else (
      if (σ3.1 0 9) = 6 then (
        some ((-3), σ3))
      else (
        ck (inb (σ3.1 0 9) 6) (lt (put σ3 7 (ix (σ3.1 0 9)) ((10 * a1) + a2)) fun σ5 =>
        lt (put σ5 0 9 ((σ5.1 0 9) + 1)) fun σ6 =>
        some ((σ6.1 0 9), σ6)))))
set_option maxRecDepth 20000 in
theorem k_mo_plumbs {l : Launch} {D : va_G} {cA : Nat → ClassId} {π : Nat → Nat} (N : Nat) (a1 : Int32) (a2 : Int32)  {σ : St} {vo : Int32} {σo : St} (h : mo_plumbs N a1 a2 σ = some (vo, σo)) : Kt l D cA π shM yX7_plumbs cX7_plumbs 3 (some .int) 1 22 [.ref (π 0), .int a1, .int a2] σ (some (.int vo)) σo := by
  refine Kt.of (by decide) (Nat.le_of_ble_eq_true rfl) (L := [(0, .ref (π 0)), (1, .int a1), (2, .int a2)]) rfl (fun Γ C => ?_)
  have C0 := C.1
  unfold mo_plumbs at h
  refine x_iload_n C0 dX7_plumbs_0 rfl ?_
  refine x_iconst C0 (v := 0) dX7_plumbs_1 (by decide) ?_
  refine x_bipush C0 (v := 39) dX7_plumbs_2 (by decide) ?_
  obtain ⟨v2, σ1, hc, h⟩ := bd2_some h
  refine x_callSi C (k_mo_in N a1 0 39  hc) umX7_42 ut_X7_in un_X7 uc_X7_in hs_X7_in rfl (by decide) dX7_plumbs_4 (rest := []) rfl (Nat.le_of_ble_eq_true rfl) ?_
  refine x_if_eq C0 (tgt := 20) dX7_plumbs_7 (by decide) h (fun h => ?_) (fun h => ?_)
  · refine x_iconst C0 (v := (-1)) dX7_plumbs_20 (by decide) ?_
    exact x_iret C dX7_plumbs_21 h
  · refine x_iload_n C0 dX7_plumbs_10 rfl ?_
    refine x_iconst C0 (v := 0) dX7_plumbs_11 (by decide) ?_
    refine x_bipush C0 (v := 9) dX7_plumbs_12 (by decide) ?_
    obtain ⟨v4, σ3, hc, h⟩ := bd2_some h
    refine x_callSi C (k_mo_in N a2 0 9  hc) umX7_42 ut_X7_in un_X7 uc_X7_in hs_X7_in rfl (by decide) dX7_plumbs_14 (rest := []) rfl (Nat.le_of_ble_eq_true rfl) ?_
    refine x_if_ne C0 (tgt := 22) dX7_plumbs_17 (by decide) h (fun h => ?_) (fun h => ?_)
    · refine x_aload_n C0 dX7_plumbs_22 rfl ?_
      refine gt_X7_88 C dX7_plumbs_23 ?_
      refine x_bipush C0 (v := 6) dX7_plumbs_26 (by decide) ?_
      refine x_icmp_ne C0 (tgt := 34) dX7_plumbs_28 (by decide) h (fun h => ?_) (fun h => ?_)
      · refine x_aload_n C0 dX7_plumbs_34 rfl ?_
        refine gt_X7_29 C dX7_plumbs_35 ?_
        refine x_aload_n C0 dX7_plumbs_38 rfl ?_
        refine gt_X7_88 C dX7_plumbs_39 ?_
        refine x_bipush C0 (v := 10) dX7_plumbs_42 (by decide) ?_
        refine x_iload_n C0 dX7_plumbs_44 rfl ?_
        refine x_imul C0 dX7_plumbs_45 ?_
        refine x_iload_n C0 dX7_plumbs_46 rfl ?_
        refine x_iadd C0 dX7_plumbs_47 ?_
        refine x_iast C (k := 7) (z := 6) rfl dX7_plumbs_48 h (fun σ5 h => ?_)
        refine x_aload_n C0 dX7_plumbs_49 rfl ?_
        refine x_dup C0 rfl dX7_plumbs_50 ?_
        refine gt_X7_88 C dX7_plumbs_51 ?_
        refine x_iconst C0 (v := 1) dX7_plumbs_54 (by decide) ?_
        refine x_iadd C0 dX7_plumbs_55 ?_
        refine pt_X7_88 C dX7_plumbs_56 h (fun σ6 h => ?_)
        refine x_aload_n C0 dX7_plumbs_59 rfl ?_
        refine gt_X7_88 C dX7_plumbs_60 ?_
        exact x_iret C dX7_plumbs_63 h
      · refine x_bipush C0 (v := (-3)) dX7_plumbs_31 (by decide) ?_
        exact x_iret C dX7_plumbs_33 h
    · refine x_iconst C0 (v := (-1)) dX7_plumbs_20 (by decide) ?_
      exact x_iret C dX7_plumbs_21 h
def mo_forget (N : Nat) (σ : St) : Option (Int32 × St) :=
  lt (σ.1 0 9) fun x1 =>
  lt (put σ 0 9 0) fun σ2 =>
  some (x1, σ2)
set_option maxRecDepth 20000 in
theorem k_mo_forget {l : Launch} {D : va_G} {cA : Nat → ClassId} {π : Nat → Nat} (N : Nat)  {σ : St} {vo : Int32} {σo : St} (h : mo_forget N σ = some (vo, σo)) : Kt l D cA π shM yX7_forget cX7_forget 2 (some .int) 0 0 [.ref (π 0)] σ (some (.int vo)) σo := by
  refine Kt.of (by decide) (Nat.le_of_ble_eq_true rfl) (L := [(0, .ref (π 0))]) rfl (fun Γ C => ?_)
  have C0 := C.1
  unfold mo_forget at h
  refine x_aload_n C0 dX7_forget_0 rfl ?_
  refine gt_X7_88 C dX7_forget_1 ?_
  refine x_nm h (fun x1 h => ?_)
  refine x_istore_n C0 (L' := [(1, .int x1), (0, .ref (π 0))]) dX7_forget_4 (by decide) rfl ?_
  refine x_aload_n C0 dX7_forget_5 rfl ?_
  refine x_iconst C0 (v := 0) dX7_forget_6 (by decide) ?_
  refine pt_X7_88 C dX7_forget_7 h (fun σ2 h => ?_)
  refine x_iload_n C0 dX7_forget_10 rfl ?_
  exact x_iret C dX7_forget_11 h
def mo_isSo_L4 (N : Nat) : Nat → Int32 → Int32 → St → Option (Int32 × St)
  | 0, _, _, _ => none
  | n + 1, x1_4, x2_4, σ4 =>
    if (σ4.1 0 9) ≤ x2_4 then (
      some (x1_4, σ4))
    else (
      ck (inb x2_4 6) (
      lt ((σ4.1 7 (ix x2_4)) / 10) fun x1 =>
      if x1_4 = 0 then (
        lt (x2_4 + 1) fun x2 =>
        (mo_isSo_L4 N n) 0 x2 σ4)
      else (
        ck (inb 0 1108) (
        if (σ4.1 4 (ix 0)) ≤ x1 then (
          lt (x2_4 + 1) fun x3 =>
          (mo_isSo_L4 N n) 0 x3 σ4)
        else (
          bd2 (mo_bears N x1 σ4) fun v5 σ4 =>
          ck (inb x2_4 6) (
          if v5 = (rem (σ4.1 7 (ix x2_4)) 10) then (
            lt (x2_4 + 1) fun x7 =>
            (mo_isSo_L4 N n) 1 x7 σ4)
          else (
            lt (x2_4 + 1) fun x6 =>
            (mo_isSo_L4 N n) 0 x6 σ4)))))))
def mo_isSo (N : Nat) (σ : St) : Option (Int32 × St) :=
  bd2 (mo_isSo_L4 N N 1 0 σ) fun x8 σ9 =>
  ck (bz x8) (some (x8, σ9))
set_option maxRecDepth 20000 in
theorem w_mo_isSo_L4 {l : Launch} {D : va_G} {cA : Nat → ClassId} {π : Nat → Nat} {Γ : Gx St} {vo : Int32} {σo : St} (C : Cm Γ cX7_isSo RX7 cA 1 22 4 l D π shM (some .boolean) (some (.int vo), σo)) (N : Nat)  (yo : Int32 × St) (kk4 : ∀ e1_4 σe, (e1_4, σe) = yo → Wx Γ σe 65 [(1, .int e1_4)] []) : ∀ (n : Nat) (x1_4 : Int32) (x2_4 : Int32) (σ4 : St), mo_isSo_L4 N n x1_4 x2_4 σ4 = some yo → Wx Γ σ4 4 [(0, .ref (π 0)), (1, .int x1_4), (2, .int x2_4)] [] := by
  have C0 := C.1
  intro n
  induction n with
  | zero => intro x1_4 x2_4 σ4 h; cases h
  | succ n ih =>
    intro x1_4 x2_4 σ4 h
    rw [mo_isSo_L4] at h
    refine x_iload_n C0 dX7_isSo_4 rfl ?_
    refine x_aload_n C0 dX7_isSo_5 rfl ?_
    refine gt_X7_88 C dX7_isSo_6 ?_
    refine x_icmp_ge C0 (tgt := 65) dX7_isSo_9 (by decide) h (fun h => ?_) (fun h => ?_)
    · exact x_pick [1] rfl (kk4 _ _ (Option.some.inj h))
    · refine x_aload_n C0 dX7_isSo_12 rfl ?_
      refine gt_X7_29 C dX7_isSo_13 ?_
      refine x_iload_n C0 dX7_isSo_16 rfl ?_
      refine x_iald C (k := 7) (z := 6) rfl dX7_isSo_17 h (fun h => ?_)
      refine x_bipush C0 (v := 10) dX7_isSo_18 (by decide) ?_
      refine x_idiv C0 (by decide) dX7_isSo_20 ?_
      refine x_nm h (fun x1 h => ?_)
      refine x_istore_n C0 (L' := [(3, .int x1), (0, .ref (π 0)), (1, .int x1_4), (2, .int x2_4)]) dX7_isSo_21 (by decide) rfl ?_
      refine x_iload_n C0 dX7_isSo_22 rfl ?_
      refine x_if_eq C0 (tgt := 57) dX7_isSo_23 (by decide) h (fun h => ?_) (fun h => ?_)
      · refine x_iconst C0 (v := 0) dX7_isSo_57 (by decide) ?_
        refine x_istore_n C0 (L' := [(1, .int 0), (3, .int x1), (0, .ref (π 0)), (2, .int x2_4)]) dX7_isSo_58 (by decide) rfl ?_
        refine x_iinc C0 (j := 3) (v := 1) (L' := fun x2 => [(2, .int x2), (1, .int 0), (3, .int x1), (0, .ref (π 0))]) dX7_isSo_59 rfl (by decide) (by decide) (fun _ => rfl) h (fun x2 h => ?_)
        refine x_goto C0 (tgt := 4) dX7_isSo_62 (by decide) ?_
        exact x_pick [3, 1, 0] rfl (ih _ _ _ h)
      · refine x_iload_n C0 dX7_isSo_26 rfl ?_
        refine x_aload_n C0 dX7_isSo_27 rfl ?_
        refine gt_X7_19 C dX7_isSo_28 ?_
        refine x_iconst C0 (v := 0) dX7_isSo_31 (by decide) ?_
        refine x_iald C (k := 4) (z := 1108) rfl dX7_isSo_32 h (fun h => ?_)
        refine x_icmp_ge C0 (tgt := 57) dX7_isSo_33 (by decide) h (fun h => ?_) (fun h => ?_)
        · refine x_iconst C0 (v := 0) dX7_isSo_57 (by decide) ?_
          refine x_istore_n C0 (L' := [(1, .int 0), (3, .int x1), (0, .ref (π 0)), (2, .int x2_4)]) dX7_isSo_58 (by decide) rfl ?_
          refine x_iinc C0 (j := 3) (v := 1) (L' := fun x3 => [(2, .int x3), (1, .int 0), (3, .int x1), (0, .ref (π 0))]) dX7_isSo_59 rfl (by decide) (by decide) (fun _ => rfl) h (fun x3 h => ?_)
          refine x_goto C0 (tgt := 4) dX7_isSo_62 (by decide) ?_
          exact x_pick [3, 1, 0] rfl (ih _ _ _ h)
        · refine x_aload_n C0 dX7_isSo_36 rfl ?_
          refine x_iload_n C0 dX7_isSo_37 rfl ?_
          obtain ⟨v5, σ4, hc, h⟩ := bd2_some h
          refine x_callVi C (k_mo_bears N x1  hc) umX7_100 ui_X7_bears us_X7_bears un_X7 uc_X7_bears hv_X7_bears rfl (by decide) (fks := [1, 4, 0, 5, 6, 7, 8, 9, 10, 0, 0, 0, 0, 0, 11]) rfl rfl dX7_isSo_38 (rest := []) rfl (Nat.le_of_ble_eq_true rfl) ?_
          refine x_aload_n C0 dX7_isSo_41 rfl ?_
          refine gt_X7_29 C dX7_isSo_42 ?_
          refine x_iload_n C0 dX7_isSo_45 rfl ?_
          refine x_iald C (k := 7) (z := 6) rfl dX7_isSo_46 h (fun h => ?_)
          refine x_bipush C0 (v := 10) dX7_isSo_47 (by decide) ?_
          refine x_irem C0 (by decide) dX7_isSo_49 ?_
          refine x_icmp_ne C0 (tgt := 57) dX7_isSo_50 (by decide) h (fun h => ?_) (fun h => ?_)
          · refine x_iconst C0 (v := 0) dX7_isSo_57 (by decide) ?_
            refine x_istore_n C0 (L' := [(1, .int 0), (3, .int x1), (0, .ref (π 0)), (2, .int x2_4)]) dX7_isSo_58 (by decide) rfl ?_
            refine x_iinc C0 (j := 3) (v := 1) (L' := fun x6 => [(2, .int x6), (1, .int 0), (3, .int x1), (0, .ref (π 0))]) dX7_isSo_59 rfl (by decide) (by decide) (fun _ => rfl) h (fun x6 h => ?_)
            refine x_goto C0 (tgt := 4) dX7_isSo_62 (by decide) ?_
            exact x_pick [3, 1, 0] rfl (ih _ _ _ h)
          · refine x_iconst C0 (v := 1) dX7_isSo_53 (by decide) ?_
            refine x_goto C0 (tgt := 58) dX7_isSo_54 (by decide) ?_
            refine x_istore_n C0 (L' := [(1, .int 1), (3, .int x1), (0, .ref (π 0)), (2, .int x2_4)]) dX7_isSo_58 (by decide) rfl ?_
            refine x_iinc C0 (j := 3) (v := 1) (L' := fun x7 => [(2, .int x7), (1, .int 1), (3, .int x1), (0, .ref (π 0))]) dX7_isSo_59 rfl (by decide) (by decide) (fun _ => rfl) h (fun x7 h => ?_)
            refine x_goto C0 (tgt := 4) dX7_isSo_62 (by decide) ?_
            exact x_pick [3, 1, 0] rfl (ih _ _ _ h)
set_option maxRecDepth 20000 in
theorem k_mo_isSo {l : Launch} {D : va_G} {cA : Nat → ClassId} {π : Nat → Nat} (N : Nat)  {σ : St} {vo : Int32} {σo : St} (h : mo_isSo N σ = some (vo, σo)) : Kt l D cA π shM yX7_isSo cX7_isSo 4 (some .boolean) 1 22 [.ref (π 0)] σ (some (.int vo)) σo := by
  refine Kt.of (by decide) (Nat.le_of_ble_eq_true rfl) (L := [(0, .ref (π 0))]) rfl (fun Γ C => ?_)
  have C0 := C.1
  unfold mo_isSo at h
  refine x_iconst C0 (v := 1) dX7_isSo_0 (by decide) ?_
  refine x_istore_n C0 (L' := [(1, .int 1), (0, .ref (π 0))]) dX7_isSo_1 (by decide) rfl ?_
  refine x_iconst C0 (v := 0) dX7_isSo_2 (by decide) ?_
  refine x_istore_n C0 (L' := [(2, .int 0), (1, .int 1), (0, .ref (π 0))]) dX7_isSo_3 (by decide) rfl ?_
  obtain ⟨x8, σ9, hL, h⟩ := bd2_some h
  refine x_pick [2, 1, 0] rfl (w_mo_isSo_L4 C N _ (fun b0 b1 e => ?_) N 1 0 σ hL)
  cases e
  refine x_iload_n C0 dX7_isSo_65 rfl ?_
  refine x_chk h (fun q h => ?_)
  exact x_zret C (bz_or q) dX7_isSo_66 h
def mo_drew_J95 (c4_47 : Int32) (c1_26 : Int32) (c5_47 : Int32) (R47 : Int32 → Int32 → Int32 → St → Option (Int32 × Int32 × St)) (x3_95 : Int32) (x6_95 : Int32) (x7_95 : Int32) (t0_95 : Int32) (t1_95 : Int32) (σ95 : St) : Option (Int32 × Int32 × St) :=
  lt (t1_95 + t0_95) fun x8 =>
  if x7_95 = 0 then (
    lt (x6_95 + (-1)) fun x9 =>
    R47 x8 x3_95 x9 σ95)
  else (
    lt ((10 * c4_47) + x6_95) fun x10 =>
    lt (x6_95 + (-1)) fun x11 =>
    R47 x8 x10 x11 σ95)
def mo_drew_J77 (N : Nat) (c4_47 : Int32) (c1_26 : Int32) (c5_47 : Int32) (R47 : Int32 → Int32 → Int32 → St → Option (Int32 × Int32 × St)) (x2_77 : Int32) (x3_77 : Int32) (x6_77 : Int32) (t0_77 : Int32) (t1_77 : Int32) (σ77 : St) : Option (Int32 × Int32 × St) :=
  ck (inb t1_77 1108) (lt (put σ77 4 (ix t1_77) t0_77) fun σ5 =>
  bd2 (mo_isSo N  σ5) fun v7 σ6 =>
  if v7 = 0 then (
    mo_drew_J95 c4_47 c1_26 c5_47 R47 x3_77 x6_77 v7 0 x2_77 σ6)
  else (
    mo_drew_J95 c4_47 c1_26 c5_47 R47 x3_77 x6_77 v7 1 x2_77 σ6))
def mo_drew_L47 (N : Nat) (c5_47 : Int32) (c4_47 : Int32) (c1_26 : Int32) : Nat → Int32 → Int32 → Int32 → St → Option (Int32 × Int32 × St)
  | 0, _, _, _, _ => none
  | n + 1, x2_47, x3_47, x6_47, σ47 =>
    if x6_47 ≤ 0 then (
      some (x2_47, x3_47, σ47))
    else (
      if c5_47 ≤ x6_47 then (
        mo_drew_J77 N c4_47 c1_26 c5_47 (mo_drew_L47 N c5_47 c4_47 c1_26 n) x2_47 x3_47 x6_47 0 (43 + c4_47) σ47)
      else (
        mo_drew_J77 N c4_47 c1_26 c5_47 (mo_drew_L47 N c5_47 c4_47 c1_26 n) x2_47 x3_47 x6_47 (c5_47 - x6_47) (43 + c4_47) σ47))
def mo_drew_L26 (N : Nat) (c1_26 : Int32) : Nat → Int32 → Int32 → Int32 → St → Option (Int32 × Int32 × St)
  | 0, _, _, _, _ => none
  | n + 1, x2_26, x3_26, x4_26, σ26 =>
    if x4_26 < 0 then (
      some (x2_26, x3_26, σ26))
    else (
      ck (inb (43 + x4_26) 1108) (
      lt (σ26.1 4 (ix (43 + x4_26))) fun x4 =>
      bd3 (mo_drew_L47 N x4 x4_26 c1_26 N x2_26 x3_26 9 σ26) fun x12 x13 σ14 =>
      ck (inb (43 + x4_26) 1108) (lt (put σ14 4 (ix (43 + x4_26)) x4) fun σ15 =>
      lt (x4_26 + (-1)) fun x16 =>
      (mo_drew_L26 N c1_26 n) x12 x13 x16 σ15)))
def mo_drew (N : Nat) (a1 : Int32) (σ : St) : Option (Int32 × St) :=
  bd2 (mo_in N a1 0 1 σ) fun v2 σ1 =>
  if v2 = 0 then (
    some ((-1), σ1))
  else (
    ck (inb 0 1108) (
    lt ((σ1.1 4 (ix 0)) - 1) fun x3 =>
    bd3 (mo_drew_L26 N a1 N 0 (-9) x3 σ1) fun x17 x18 σ19 =>
    if a1 = 0 then (
      some (x17, σ19))
    else (
      some (x18, σ19))))
set_option maxRecDepth 20000 in
theorem w_mo_drew_J95 {l : Launch} {D : va_G} {cA : Nat → ClassId} {π : Nat → Nat} {Γ : Gx St} {vo : Int32} {σo : St} {yo : Int32 × Int32 × St} (C : Cm Γ cX7_drew RX7 cA 2 45 8 l D π shM (some .int) (some (.int vo), σo)) (c4_47 : Int32) (c1_26 : Int32) (c5_47 : Int32) (R47 : Int32 → Int32 → Int32 → St → Option (Int32 × Int32 × St)) (x3_95 : Int32) (x6_95 : Int32) (x7_95 : Int32) (t0_95 : Int32) (t1_95 : Int32) (σ95 : St) (hR47 : ∀ x2_47 x3_47 x6_47 σ, R47 x2_47 x3_47 x6_47 σ = some yo → Wx Γ σ 47 [(0, .ref (π 0)), (1, .int c1_26), (2, .int x2_47), (3, .int x3_47), (4, .int c4_47), (5, .int c5_47), (6, .int x6_47)] []) (h : mo_drew_J95 c4_47 c1_26 c5_47 R47 x3_95 x6_95 x7_95 t0_95 t1_95 σ95 = some yo) : Wx Γ σ95 95 [(0, .ref (π 0)), (1, .int c1_26), (3, .int x3_95), (4, .int c4_47), (5, .int c5_47), (6, .int x6_95), (7, .int x7_95)] [.int t0_95, .int t1_95] := by
  have C0 := C.1
  unfold mo_drew_J95 at h
  refine x_iadd C0 dX7_drew_95 ?_
  refine x_nm h (fun x8 h => ?_)
  refine x_istore_n C0 (L' := [(2, .int x8), (0, .ref (π 0)), (1, .int c1_26), (3, .int x3_95), (4, .int c4_47), (5, .int c5_47), (6, .int x6_95), (7, .int x7_95)]) dX7_drew_96 (by decide) rfl ?_
  refine x_iload C0 dX7_drew_97 rfl ?_
  refine x_if_eq C0 (tgt := 113) dX7_drew_99 (by decide) h (fun h => ?_) (fun h => ?_)
  · refine x_iload_n C0 dX7_drew_113 rfl ?_
    refine x_istore_n C0 (L' := [(3, .int x3_95), (2, .int x8), (0, .ref (π 0)), (1, .int c1_26), (4, .int c4_47), (5, .int c5_47), (6, .int x6_95), (7, .int x7_95)]) dX7_drew_114 (by decide) rfl ?_
    refine x_iinc C0 (j := 6) (v := (-1)) (L' := fun x9 => [(6, .int x9), (3, .int x3_95), (2, .int x8), (0, .ref (π 0)), (1, .int c1_26), (4, .int c4_47), (5, .int c5_47), (7, .int x7_95)]) dX7_drew_115 rfl (by decide) (by decide) (fun _ => rfl) h (fun x9 h => ?_)
    refine x_goto C0 (tgt := 47) dX7_drew_118 (by decide) ?_
    exact x_pick [3, 4, 2, 1, 5, 6, 0] rfl (hR47 _ _ _ _ h)
  · refine x_bipush C0 (v := 10) dX7_drew_102 (by decide) ?_
    refine x_iload C0 dX7_drew_104 rfl ?_
    refine x_imul C0 dX7_drew_106 ?_
    refine x_iload C0 dX7_drew_107 rfl ?_
    refine x_iadd C0 dX7_drew_109 ?_
    refine x_goto C0 (tgt := 114) dX7_drew_110 (by decide) ?_
    refine x_nm h (fun x10 h => ?_)
    refine x_istore_n C0 (L' := [(3, .int x10), (2, .int x8), (0, .ref (π 0)), (1, .int c1_26), (4, .int c4_47), (5, .int c5_47), (6, .int x6_95), (7, .int x7_95)]) dX7_drew_114 (by decide) rfl ?_
    refine x_iinc C0 (j := 6) (v := (-1)) (L' := fun x11 => [(6, .int x11), (3, .int x10), (2, .int x8), (0, .ref (π 0)), (1, .int c1_26), (4, .int c4_47), (5, .int c5_47), (7, .int x7_95)]) dX7_drew_115 rfl (by decide) (by decide) (fun _ => rfl) h (fun x11 h => ?_)
    refine x_goto C0 (tgt := 47) dX7_drew_118 (by decide) ?_
    exact x_pick [3, 4, 2, 1, 5, 6, 0] rfl (hR47 _ _ _ _ h)
set_option maxRecDepth 20000 in
theorem w_mo_drew_J77 {l : Launch} {D : va_G} {cA : Nat → ClassId} {π : Nat → Nat} {Γ : Gx St} {vo : Int32} {σo : St} {yo : Int32 × Int32 × St} (C : Cm Γ cX7_drew RX7 cA 2 45 8 l D π shM (some .int) (some (.int vo), σo)) (N : Nat) (c4_47 : Int32) (c1_26 : Int32) (c5_47 : Int32) (R47 : Int32 → Int32 → Int32 → St → Option (Int32 × Int32 × St)) (x2_77 : Int32) (x3_77 : Int32) (x6_77 : Int32) (t0_77 : Int32) (t1_77 : Int32) (σ77 : St) (hR47 : ∀ x2_47 x3_47 x6_47 σ, R47 x2_47 x3_47 x6_47 σ = some yo → Wx Γ σ 47 [(0, .ref (π 0)), (1, .int c1_26), (2, .int x2_47), (3, .int x3_47), (4, .int c4_47), (5, .int c5_47), (6, .int x6_47)] []) (h : mo_drew_J77 N c4_47 c1_26 c5_47 R47 x2_77 x3_77 x6_77 t0_77 t1_77 σ77 = some yo) : Wx Γ σ77 77 [(0, .ref (π 0)), (1, .int c1_26), (2, .int x2_77), (3, .int x3_77), (4, .int c4_47), (5, .int c5_47), (6, .int x6_77)] [.int t0_77, .int t1_77, .ref (π 4)] := by
  have C0 := C.1
  unfold mo_drew_J77 at h
  refine x_iast C (k := 4) (z := 1108) rfl dX7_drew_77 h (fun σ5 h => ?_)
  refine x_aload_n C0 dX7_drew_78 rfl ?_
  obtain ⟨v7, σ6, hc, h⟩ := bd2_some h
  refine x_callVi C (k_mo_isSo N  hc) umX7_140 ui_X7_isSo us_X7_isSo un_X7 uc_X7_isSo hv_X7_isSo rfl (by decide) (fks := [1, 4, 0, 5, 6, 7, 8, 9, 10, 0, 0, 0, 0, 0, 11]) rfl rfl dX7_drew_79 (rest := []) rfl (Nat.le_of_ble_eq_true rfl) ?_
  refine x_istore C0 (L' := [(7, .int v7), (0, .ref (π 0)), (1, .int c1_26), (2, .int x2_77), (3, .int x3_77), (4, .int c4_47), (5, .int c5_47), (6, .int x6_77)]) dX7_drew_82 (by decide) rfl ?_
  refine x_iload_n C0 dX7_drew_84 rfl ?_
  refine x_iload C0 dX7_drew_85 rfl ?_
  refine x_if_eq C0 (tgt := 94) dX7_drew_87 (by decide) h (fun h => ?_) (fun h => ?_)
  · refine x_iconst C0 (v := 0) dX7_drew_94 (by decide) ?_
    exact x_pick [1, 2, 4, 5, 6, 7, 0] rfl (w_mo_drew_J95 C c4_47 c1_26 c5_47 R47 x3_77 x6_77 v7 0 x2_77 σ6 hR47 h)
  · refine x_iconst C0 (v := 1) dX7_drew_90 (by decide) ?_
    refine x_goto C0 (tgt := 95) dX7_drew_91 (by decide) ?_
    exact x_pick [1, 2, 4, 5, 6, 7, 0] rfl (w_mo_drew_J95 C c4_47 c1_26 c5_47 R47 x3_77 x6_77 v7 1 x2_77 σ6 hR47 h)
set_option maxRecDepth 20000 in
theorem w_mo_drew_L47 {l : Launch} {D : va_G} {cA : Nat → ClassId} {π : Nat → Nat} {Γ : Gx St} {vo : Int32} {σo : St} (C : Cm Γ cX7_drew RX7 cA 2 45 8 l D π shM (some .int) (some (.int vo), σo)) (N : Nat) (c5_47 : Int32) (c4_47 : Int32) (c1_26 : Int32)  (yo : Int32 × Int32 × St) (kk47 : ∀ e2_47 e3_47 σe, (e2_47, e3_47, σe) = yo → Wx Γ σe 121 [(0, .ref (π 0)), (1, .int c1_26), (2, .int e2_47), (3, .int e3_47), (4, .int c4_47), (5, .int c5_47)] []) : ∀ (n : Nat) (x2_47 : Int32) (x3_47 : Int32) (x6_47 : Int32) (σ47 : St), mo_drew_L47 N c5_47 c4_47 c1_26 n x2_47 x3_47 x6_47 σ47 = some yo → Wx Γ σ47 47 [(0, .ref (π 0)), (1, .int c1_26), (2, .int x2_47), (3, .int x3_47), (4, .int c4_47), (5, .int c5_47), (6, .int x6_47)] [] := by
  have C0 := C.1
  intro n
  induction n with
  | zero => intro x2_47 x3_47 x6_47 σ47 h; cases h
  | succ n ih =>
    intro x2_47 x3_47 x6_47 σ47 h
    rw [mo_drew_L47] at h
    refine x_iload C0 dX7_drew_47 rfl ?_
    refine x_if_le C0 (tgt := 121) dX7_drew_49 (by decide) h (fun h => ?_) (fun h => ?_)
    · exact x_pick [0, 1, 2, 3, 4, 5] rfl (kk47 _ _ _ (Option.some.inj h))
    · refine x_aload_n C0 dX7_drew_52 rfl ?_
      refine gt_X7_19 C dX7_drew_53 ?_
      refine x_bipush C0 (v := 43) dX7_drew_56 (by decide) ?_
      refine x_iload C0 dX7_drew_58 rfl ?_
      refine x_iadd C0 dX7_drew_60 ?_
      refine x_iload C0 dX7_drew_61 rfl ?_
      refine x_iload C0 dX7_drew_63 rfl ?_
      refine x_icmp_le C0 (tgt := 76) dX7_drew_65 (by decide) h (fun h => ?_) (fun h => ?_)
      · refine x_iconst C0 (v := 0) dX7_drew_76 (by decide) ?_
        exact x_pick [0, 1, 2, 3, 4, 5, 6] rfl (w_mo_drew_J77 C N c4_47 c1_26 c5_47 (mo_drew_L47 N c5_47 c4_47 c1_26 n) x2_47 x3_47 x6_47 0 (43 + c4_47) σ47 ih h)
      · refine x_iload C0 dX7_drew_68 rfl ?_
        refine x_iload C0 dX7_drew_70 rfl ?_
        refine x_isub C0 dX7_drew_72 ?_
        refine x_goto C0 (tgt := 77) dX7_drew_73 (by decide) ?_
        exact x_pick [0, 1, 2, 3, 4, 5, 6] rfl (w_mo_drew_J77 C N c4_47 c1_26 c5_47 (mo_drew_L47 N c5_47 c4_47 c1_26 n) x2_47 x3_47 x6_47 (c5_47 - x6_47) (43 + c4_47) σ47 ih h)
set_option maxRecDepth 20000 in
theorem w_mo_drew_L26 {l : Launch} {D : va_G} {cA : Nat → ClassId} {π : Nat → Nat} {Γ : Gx St} {vo : Int32} {σo : St} (C : Cm Γ cX7_drew RX7 cA 2 45 8 l D π shM (some .int) (some (.int vo), σo)) (N : Nat) (c1_26 : Int32)  (yo : Int32 × Int32 × St) (kk26 : ∀ e2_26 e3_26 σe, (e2_26, e3_26, σe) = yo → Wx Γ σe 139 [(1, .int c1_26), (2, .int e2_26), (3, .int e3_26)] []) : ∀ (n : Nat) (x2_26 : Int32) (x3_26 : Int32) (x4_26 : Int32) (σ26 : St), mo_drew_L26 N c1_26 n x2_26 x3_26 x4_26 σ26 = some yo → Wx Γ σ26 26 [(0, .ref (π 0)), (1, .int c1_26), (2, .int x2_26), (3, .int x3_26), (4, .int x4_26)] [] := by
  have C0 := C.1
  intro n
  induction n with
  | zero => intro x2_26 x3_26 x4_26 σ26 h; cases h
  | succ n ih =>
    intro x2_26 x3_26 x4_26 σ26 h
    rw [mo_drew_L26] at h
    refine x_iload C0 dX7_drew_26 rfl ?_
    refine x_if_lt C0 (tgt := 139) dX7_drew_28 (by decide) h (fun h => ?_) (fun h => ?_)
    · exact x_pick [1, 2, 3] rfl (kk26 _ _ _ (Option.some.inj h))
    · refine x_aload_n C0 dX7_drew_31 rfl ?_
      refine gt_X7_19 C dX7_drew_32 ?_
      refine x_bipush C0 (v := 43) dX7_drew_35 (by decide) ?_
      refine x_iload C0 dX7_drew_37 rfl ?_
      refine x_iadd C0 dX7_drew_39 ?_
      refine x_iald C (k := 4) (z := 1108) rfl dX7_drew_40 h (fun h => ?_)
      refine x_nm h (fun x4 h => ?_)
      refine x_istore C0 (L' := [(5, .int x4), (0, .ref (π 0)), (1, .int c1_26), (2, .int x2_26), (3, .int x3_26), (4, .int x4_26)]) dX7_drew_41 (by decide) rfl ?_
      refine x_bipush C0 (v := 9) dX7_drew_43 (by decide) ?_
      refine x_istore C0 (L' := [(6, .int 9), (5, .int x4), (0, .ref (π 0)), (1, .int c1_26), (2, .int x2_26), (3, .int x3_26), (4, .int x4_26)]) dX7_drew_45 (by decide) rfl ?_
      obtain ⟨x12, x13, σ14, hL, h⟩ := bd3_some h
      refine x_pick [2, 3, 4, 5, 6, 1, 0] rfl (w_mo_drew_L47 C N x4 x4_26 c1_26 _ (fun b0 b1 b2 e => ?_) N x2_26 x3_26 9 σ26 hL)
      cases e
      refine x_aload_n C0 dX7_drew_121 rfl ?_
      refine gt_X7_19 C dX7_drew_122 ?_
      refine x_bipush C0 (v := 43) dX7_drew_125 (by decide) ?_
      refine x_iload C0 dX7_drew_127 rfl ?_
      refine x_iadd C0 dX7_drew_129 ?_
      refine x_iload C0 dX7_drew_130 rfl ?_
      refine x_iast C (k := 4) (z := 1108) rfl dX7_drew_132 h (fun σ15 h => ?_)
      refine x_iinc C0 (j := 4) (v := (-1)) (L' := fun x16 => [(4, .int x16), (0, .ref (π 0)), (1, .int c1_26), (2, .int x12), (3, .int x13), (5, .int x4)]) dX7_drew_133 rfl (by decide) (by decide) (fun _ => rfl) h (fun x16 h => ?_)
      refine x_goto C0 (tgt := 26) dX7_drew_136 (by decide) ?_
      exact x_pick [1, 2, 3, 4, 0] rfl (ih _ _ _ _ h)
set_option maxRecDepth 20000 in
theorem k_mo_drew {l : Launch} {D : va_G} {cA : Nat → ClassId} {π : Nat → Nat} (N : Nat) (a1 : Int32)  {σ : St} {vo : Int32} {σo : St} (h : mo_drew N a1 σ = some (vo, σo)) : Kt l D cA π shM yX7_drew cX7_drew 8 (some .int) 2 45 [.ref (π 0), .int a1] σ (some (.int vo)) σo := by
  refine Kt.of (by decide) (Nat.le_of_ble_eq_true rfl) (L := [(0, .ref (π 0)), (1, .int a1)]) rfl (fun Γ C => ?_)
  have C0 := C.1
  unfold mo_drew at h
  refine x_iload_n C0 dX7_drew_0 rfl ?_
  refine x_iconst C0 (v := 0) dX7_drew_1 (by decide) ?_
  refine x_iconst C0 (v := 1) dX7_drew_2 (by decide) ?_
  obtain ⟨v2, σ1, hc, h⟩ := bd2_some h
  refine x_callSi C (k_mo_in N a1 0 1  hc) umX7_42 ut_X7_in un_X7 uc_X7_in hs_X7_in rfl (by decide) dX7_drew_3 (rest := []) rfl (Nat.le_of_ble_eq_true rfl) ?_
  refine x_if_ne C0 (tgt := 11) dX7_drew_6 (by decide) h (fun h => ?_) (fun h => ?_)
  · refine x_iconst C0 (v := 0) dX7_drew_11 (by decide) ?_
    refine x_istore_n C0 (L' := [(2, .int 0), (0, .ref (π 0)), (1, .int a1)]) dX7_drew_12 (by decide) rfl ?_
    refine x_bipush C0 (v := (-9)) dX7_drew_13 (by decide) ?_
    refine x_istore_n C0 (L' := [(3, .int (-9)), (2, .int 0), (0, .ref (π 0)), (1, .int a1)]) dX7_drew_15 (by decide) rfl ?_
    refine x_aload_n C0 dX7_drew_16 rfl ?_
    refine gt_X7_19 C dX7_drew_17 ?_
    refine x_iconst C0 (v := 0) dX7_drew_20 (by decide) ?_
    refine x_iald C (k := 4) (z := 1108) rfl dX7_drew_21 h (fun h => ?_)
    refine x_iconst C0 (v := 1) dX7_drew_22 (by decide) ?_
    refine x_isub C0 dX7_drew_23 ?_
    refine x_nm h (fun x3 h => ?_)
    refine x_istore C0 (L' := [(4, .int x3), (3, .int (-9)), (2, .int 0), (0, .ref (π 0)), (1, .int a1)]) dX7_drew_24 (by decide) rfl ?_
    obtain ⟨x17, x18, σ19, hL, h⟩ := bd3_some h
    refine x_pick [3, 4, 2, 1, 0] rfl (w_mo_drew_L26 C N a1 _ (fun b0 b1 b2 e => ?_) N 0 (-9) x3 σ1 hL)
    cases e
    refine x_iload_n C0 dX7_drew_139 rfl ?_
    refine x_if_ne C0 (tgt := 147) dX7_drew_140 (by decide) h (fun h => ?_) (fun h => ?_)
    · refine x_iload_n C0 dX7_drew_147 rfl ?_
      exact x_iret C dX7_drew_148 h
    · refine x_iload_n C0 dX7_drew_143 rfl ?_
      refine x_goto C0 (tgt := 148) dX7_drew_144 (by decide) ?_
      exact x_iret C dX7_drew_148 h
  · refine x_iconst C0 (v := (-1)) dX7_drew_9 (by decide) ?_
    exact x_iret C dX7_drew_10 h
def mo_night_J75 (c1_24 : Int32) (R24 : Int32 → Int32 → Int32 → St → Option (Int32 × Int32 × St)) (x3_75 : Int32) (x4_75 : Int32) (x5_75 : Int32) (t0_75 : Int32) (t1_75 : Int32) (σ75 : St) : Option (Int32 × Int32 × St) :=
  lt (t1_75 + t0_75) fun x9 =>
  if x5_75 = 0 then (
    lt (x4_75 + (-1)) fun x10 =>
    R24 x9 x3_75 x10 σ75)
  else (
    lt (x4_75 + (-1)) fun x11 =>
    R24 x9 x4_75 x11 σ75)
def mo_night_L24 (N : Nat) (c1_24 : Int32) : Nat → Int32 → Int32 → Int32 → St → Option (Int32 × Int32 × St)
  | 0, _, _, _, _ => none
  | n + 1, x2_24, x3_24, x4_24, σ24 =>
    if x4_24 ≤ 10 then (
      some (x2_24, x3_24, σ24))
    else (
      if (rem x4_24 10) ≤ 0 then (
        lt (x4_24 + (-1)) fun x4 =>
        (mo_night_L24 N c1_24 n) x2_24 x3_24 x4 σ24)
      else (
        bd1 (mo_knits N 0 (x4_24 / 10) (rem x4_24 10) σ24) fun σ5 =>
        bd2 (mo_isSo N  σ5) fun v7 σ6 =>
        bd1 (mo_lets N  σ6) fun σ8 =>
        if v7 = 0 then (
          mo_night_J75 c1_24 (mo_night_L24 N c1_24 n) x3_24 x4_24 v7 0 x2_24 σ8)
        else (
          mo_night_J75 c1_24 (mo_night_L24 N c1_24 n) x3_24 x4_24 v7 1 x2_24 σ8)))
def mo_night (N : Nat) (a1 : Int32) (σ : St) : Option (Int32 × St) :=
  bd2 (mo_in N a1 0 1 σ) fun v2 σ1 =>
  if v2 = 0 then (
    some ((-1), σ1))
  else (
    bd1 (mo_remembers N  σ1) fun σ3 =>
    bd3 (mo_night_L24 N a1 N 0 (-9) 99 σ3) fun x12 x13 σ14 =>
    if a1 = 0 then (
      some (x12, σ14))
    else (
      some (x13, σ14)))
set_option maxRecDepth 20000 in
theorem w_mo_night_J75 {l : Launch} {D : va_G} {cA : Nat → ClassId} {π : Nat → Nat} {Γ : Gx St} {vo : Int32} {σo : St} {yo : Int32 × Int32 × St} (C : Cm Γ cX7_night RX7 cA 2 46 6 l D π shM (some .int) (some (.int vo), σo)) (c1_24 : Int32) (R24 : Int32 → Int32 → Int32 → St → Option (Int32 × Int32 × St)) (x3_75 : Int32) (x4_75 : Int32) (x5_75 : Int32) (t0_75 : Int32) (t1_75 : Int32) (σ75 : St) (hR24 : ∀ x2_24 x3_24 x4_24 σ, R24 x2_24 x3_24 x4_24 σ = some yo → Wx Γ σ 24 [(0, .ref (π 0)), (1, .int c1_24), (2, .int x2_24), (3, .int x3_24), (4, .int x4_24)] []) (h : mo_night_J75 c1_24 R24 x3_75 x4_75 x5_75 t0_75 t1_75 σ75 = some yo) : Wx Γ σ75 75 [(0, .ref (π 0)), (1, .int c1_24), (3, .int x3_75), (4, .int x4_75), (5, .int x5_75)] [.int t0_75, .int t1_75] := by
  have C0 := C.1
  unfold mo_night_J75 at h
  refine x_iadd C0 dX7_night_75 ?_
  refine x_nm h (fun x9 h => ?_)
  refine x_istore_n C0 (L' := [(2, .int x9), (0, .ref (π 0)), (1, .int c1_24), (3, .int x3_75), (4, .int x4_75), (5, .int x5_75)]) dX7_night_76 (by decide) rfl ?_
  refine x_iload C0 dX7_night_77 rfl ?_
  refine x_if_eq C0 (tgt := 87) dX7_night_79 (by decide) h (fun h => ?_) (fun h => ?_)
  · refine x_iload_n C0 dX7_night_87 rfl ?_
    refine x_istore_n C0 (L' := [(3, .int x3_75), (2, .int x9), (0, .ref (π 0)), (1, .int c1_24), (4, .int x4_75), (5, .int x5_75)]) dX7_night_88 (by decide) rfl ?_
    refine x_iinc C0 (j := 4) (v := (-1)) (L' := fun x10 => [(4, .int x10), (3, .int x3_75), (2, .int x9), (0, .ref (π 0)), (1, .int c1_24), (5, .int x5_75)]) dX7_night_89 rfl (by decide) (by decide) (fun _ => rfl) h (fun x10 h => ?_)
    refine x_goto C0 (tgt := 24) dX7_night_92 (by decide) ?_
    exact x_pick [3, 4, 2, 1, 0] rfl (hR24 _ _ _ _ h)
  · refine x_iload C0 dX7_night_82 rfl ?_
    refine x_goto C0 (tgt := 88) dX7_night_84 (by decide) ?_
    refine x_istore_n C0 (L' := [(3, .int x4_75), (2, .int x9), (0, .ref (π 0)), (1, .int c1_24), (4, .int x4_75), (5, .int x5_75)]) dX7_night_88 (by decide) rfl ?_
    refine x_iinc C0 (j := 4) (v := (-1)) (L' := fun x11 => [(4, .int x11), (3, .int x4_75), (2, .int x9), (0, .ref (π 0)), (1, .int c1_24), (5, .int x5_75)]) dX7_night_89 rfl (by decide) (by decide) (fun _ => rfl) h (fun x11 h => ?_)
    refine x_goto C0 (tgt := 24) dX7_night_92 (by decide) ?_
    exact x_pick [3, 4, 2, 1, 0] rfl (hR24 _ _ _ _ h)
set_option maxRecDepth 20000 in
theorem w_mo_night_L24 {l : Launch} {D : va_G} {cA : Nat → ClassId} {π : Nat → Nat} {Γ : Gx St} {vo : Int32} {σo : St} (C : Cm Γ cX7_night RX7 cA 2 46 6 l D π shM (some .int) (some (.int vo), σo)) (N : Nat) (c1_24 : Int32)  (yo : Int32 × Int32 × St) (kk24 : ∀ e2_24 e3_24 σe, (e2_24, e3_24, σe) = yo → Wx Γ σe 95 [(1, .int c1_24), (2, .int e2_24), (3, .int e3_24)] []) : ∀ (n : Nat) (x2_24 : Int32) (x3_24 : Int32) (x4_24 : Int32) (σ24 : St), mo_night_L24 N c1_24 n x2_24 x3_24 x4_24 σ24 = some yo → Wx Γ σ24 24 [(0, .ref (π 0)), (1, .int c1_24), (2, .int x2_24), (3, .int x3_24), (4, .int x4_24)] [] := by
  have C0 := C.1
  intro n
  induction n with
  | zero => intro x2_24 x3_24 x4_24 σ24 h; cases h
  | succ n ih =>
    intro x2_24 x3_24 x4_24 σ24 h
    rw [mo_night_L24] at h
    refine x_iload C0 dX7_night_24 rfl ?_
    refine x_bipush C0 (v := 10) dX7_night_26 (by decide) ?_
    refine x_icmp_le C0 (tgt := 95) dX7_night_28 (by decide) h (fun h => ?_) (fun h => ?_)
    · exact x_pick [1, 2, 3] rfl (kk24 _ _ _ (Option.some.inj h))
    · refine x_iload C0 dX7_night_31 rfl ?_
      refine x_bipush C0 (v := 10) dX7_night_33 (by decide) ?_
      refine x_irem C0 (by decide) dX7_night_35 ?_
      refine x_if_le C0 (tgt := 89) dX7_night_36 (by decide) h (fun h => ?_) (fun h => ?_)
      · refine x_iinc C0 (j := 4) (v := (-1)) (L' := fun x4 => [(4, .int x4), (0, .ref (π 0)), (1, .int c1_24), (2, .int x2_24), (3, .int x3_24)]) dX7_night_89 rfl (by decide) (by decide) (fun _ => rfl) h (fun x4 h => ?_)
        refine x_goto C0 (tgt := 24) dX7_night_92 (by decide) ?_
        exact x_pick [1, 2, 3, 4, 0] rfl (ih _ _ _ _ h)
      · refine x_aload_n C0 dX7_night_39 rfl ?_
        refine x_iconst C0 (v := 0) dX7_night_40 (by decide) ?_
        refine x_iload C0 dX7_night_41 rfl ?_
        refine x_bipush C0 (v := 10) dX7_night_43 (by decide) ?_
        refine x_idiv C0 (by decide) dX7_night_45 ?_
        refine x_iload C0 dX7_night_46 rfl ?_
        refine x_bipush C0 (v := 10) dX7_night_48 (by decide) ?_
        refine x_irem C0 (by decide) dX7_night_50 ?_
        obtain ⟨σ5, hc, h⟩ := bd1_some h
        refine x_callVv C (k_mo_knits N 0 (x4_24 / 10) (rem x4_24 10)  hc) umX7_115 ui_X7_knits us_X7_knits un_X7 uc_X7_knits hv_X7_knits rfl (by decide) (fks := [1, 4, 0, 5, 6, 7, 8, 9, 10, 0, 0, 0, 0, 0, 11]) rfl rfl dX7_night_51 (rest := []) rfl (Nat.le_of_ble_eq_true rfl) ?_
        refine x_aload_n C0 dX7_night_54 rfl ?_
        obtain ⟨v7, σ6, hc, h⟩ := bd2_some h
        refine x_callVi C (k_mo_isSo N  hc) umX7_140 ui_X7_isSo us_X7_isSo un_X7 uc_X7_isSo hv_X7_isSo rfl (by decide) (fks := [1, 4, 0, 5, 6, 7, 8, 9, 10, 0, 0, 0, 0, 0, 11]) rfl rfl dX7_night_55 (rest := []) rfl (Nat.le_of_ble_eq_true rfl) ?_
        refine x_istore C0 (L' := [(5, .int v7), (0, .ref (π 0)), (1, .int c1_24), (2, .int x2_24), (3, .int x3_24), (4, .int x4_24)]) dX7_night_58 (by decide) rfl ?_
        refine x_aload_n C0 dX7_night_60 rfl ?_
        obtain ⟨σ8, hc, h⟩ := bd1_some h
        refine x_callVv C (k_mo_lets N  hc) umX7_137 ui_X7_lets us_X7_lets un_X7 uc_X7_lets hv_X7_lets rfl (by decide) (fks := [1, 4, 0, 5, 6, 7, 8, 9, 10, 0, 0, 0, 0, 0, 11]) rfl rfl dX7_night_61 (rest := []) rfl (Nat.le_of_ble_eq_true rfl) ?_
        refine x_iload_n C0 dX7_night_64 rfl ?_
        refine x_iload C0 dX7_night_65 rfl ?_
        refine x_if_eq C0 (tgt := 74) dX7_night_67 (by decide) h (fun h => ?_) (fun h => ?_)
        · refine x_iconst C0 (v := 0) dX7_night_74 (by decide) ?_
          exact x_pick [1, 2, 4, 5, 0] rfl (w_mo_night_J75 C c1_24 (mo_night_L24 N c1_24 n) x3_24 x4_24 v7 0 x2_24 σ8 ih h)
        · refine x_iconst C0 (v := 1) dX7_night_70 (by decide) ?_
          refine x_goto C0 (tgt := 75) dX7_night_71 (by decide) ?_
          exact x_pick [1, 2, 4, 5, 0] rfl (w_mo_night_J75 C c1_24 (mo_night_L24 N c1_24 n) x3_24 x4_24 v7 1 x2_24 σ8 ih h)
set_option maxRecDepth 20000 in
theorem k_mo_night {l : Launch} {D : va_G} {cA : Nat → ClassId} {π : Nat → Nat} (N : Nat) (a1 : Int32)  {σ : St} {vo : Int32} {σo : St} (h : mo_night N a1 σ = some (vo, σo)) : Kt l D cA π shM yX7_night cX7_night 6 (some .int) 2 46 [.ref (π 0), .int a1] σ (some (.int vo)) σo := by
  refine Kt.of (by decide) (Nat.le_of_ble_eq_true rfl) (L := [(0, .ref (π 0)), (1, .int a1)]) rfl (fun Γ C => ?_)
  have C0 := C.1
  unfold mo_night at h
  refine x_iload_n C0 dX7_night_0 rfl ?_
  refine x_iconst C0 (v := 0) dX7_night_1 (by decide) ?_
  refine x_iconst C0 (v := 1) dX7_night_2 (by decide) ?_
  obtain ⟨v2, σ1, hc, h⟩ := bd2_some h
  refine x_callSi C (k_mo_in N a1 0 1  hc) umX7_42 ut_X7_in un_X7 uc_X7_in hs_X7_in rfl (by decide) dX7_night_3 (rest := []) rfl (Nat.le_of_ble_eq_true rfl) ?_
  refine x_if_ne C0 (tgt := 11) dX7_night_6 (by decide) h (fun h => ?_) (fun h => ?_)
  · refine x_aload_n C0 dX7_night_11 rfl ?_
    obtain ⟨σ3, hc, h⟩ := bd1_some h
    refine x_callVv C (k_mo_remembers N  hc) umX7_134 ui_X7_remembers us_X7_remembers un_X7 uc_X7_remembers hv_X7_remembers rfl (by decide) (fks := [1, 4, 0, 5, 6, 7, 8, 9, 10, 0, 0, 0, 0, 0, 11]) rfl rfl dX7_night_12 (rest := []) rfl (Nat.le_of_ble_eq_true rfl) ?_
    refine x_iconst C0 (v := 0) dX7_night_15 (by decide) ?_
    refine x_istore_n C0 (L' := [(2, .int 0), (0, .ref (π 0)), (1, .int a1)]) dX7_night_16 (by decide) rfl ?_
    refine x_bipush C0 (v := (-9)) dX7_night_17 (by decide) ?_
    refine x_istore_n C0 (L' := [(3, .int (-9)), (2, .int 0), (0, .ref (π 0)), (1, .int a1)]) dX7_night_19 (by decide) rfl ?_
    refine x_bipush C0 (v := 99) dX7_night_20 (by decide) ?_
    refine x_istore C0 (L' := [(4, .int 99), (3, .int (-9)), (2, .int 0), (0, .ref (π 0)), (1, .int a1)]) dX7_night_22 (by decide) rfl ?_
    obtain ⟨x12, x13, σ14, hL, h⟩ := bd3_some h
    refine x_pick [3, 4, 2, 1, 0] rfl (w_mo_night_L24 C N a1 _ (fun b0 b1 b2 e => ?_) N 0 (-9) 99 σ3 hL)
    cases e
    refine x_iload_n C0 dX7_night_95 rfl ?_
    refine x_if_ne C0 (tgt := 103) dX7_night_96 (by decide) h (fun h => ?_) (fun h => ?_)
    · refine x_iload_n C0 dX7_night_103 rfl ?_
      exact x_iret C dX7_night_104 h
    · refine x_iload_n C0 dX7_night_99 rfl ?_
      refine x_goto C0 (tgt := 104) dX7_night_100 (by decide) ?_
      exact x_iret C dX7_night_104 h
  · refine x_iconst C0 (v := (-1)) dX7_night_9 (by decide) ?_
    exact x_iret C dX7_night_10 h
def mo_mark_J80 (N : Nat) (x1_80 : Int32) (x2_80 : Int32) (t0_80 : Int64) (t1_80 : Int64) (σ80 : St) : Option (Int32 × St) :=
  lt (putl σ80 (t1_80 + t0_80)) fun σ5 =>
  ck (inb (43 + x2_80) 1108) (
  lt (σ5.1 4 (ix (43 + x2_80))) fun x6 =>
  bd2 (mo_bears N x2_80 σ5) fun v8 σ7 =>
  lt (x6 + v8) fun x9 =>
  ck (inb (83 + x2_80) 1108) (
  lt (x6 - (σ7.1 4 (ix (83 + x2_80)))) fun x10 =>
  if x1_80 = 0 then (
    some (x6, σ7))
  else (
    if x1_80 = 1 then (
      some (x9, σ7))
    else (
      if x1_80 = 2 then (
        some (x10, σ7))
      else (
        if x1_80 = 3 then (
          some ((2 * x9), σ7))
        else (
          if x1_80 = 4 then (
            ck (inb (3 + x2_80) 1108) (
            ck (inb (6 + (σ7.1 4 (ix (3 + x2_80)))) 58) (
            some ((x10 + (σ7.1 2 (ix (6 + (σ7.1 4 (ix (3 + x2_80))))))), σ7))))
          else (
            ck (inb 2 1108) (
            some ((x6 + (σ7.1 4 (ix 2))), σ7)))))))))
def mo_mark (N : Nat) (a1 : Int32) (a2 : Int32) (σ : St) : Option (Int32 × St) :=
  bd2 (mo_in N a1 0 5 σ) fun v2 σ1 =>
  if v2 = 0 then (
    some ((-1000000), σ1))
  else (
    bd2 (mo_isRow N a2 σ1) fun v4 σ3 =>
    if v4 = 0 then (
      some ((-1000000), σ3))
    else (
      if a1 = 0 then (
        mo_mark_J80 N a1 a2 1 (σ3.2) σ3)
      else (
        if a1 = 1 then (
          mo_mark_J80 N a1 a2 11 (σ3.2) σ3)
        else (
          if a1 = 2 then (
            mo_mark_J80 N a1 a2 101 (σ3.2) σ3)
          else (
            if a1 = 3 then (
              mo_mark_J80 N a1 a2 1011 (σ3.2) σ3)
            else (
              if a1 = 4 then (
                mo_mark_J80 N a1 a2 10101 (σ3.2) σ3)
              else (
                mo_mark_J80 N a1 a2 100001 (σ3.2) σ3)))))))
set_option maxRecDepth 20000 in
theorem w_mo_mark_J80 {l : Launch} {D : va_G} {cA : Nat → ClassId} {π : Nat → Nat} {Γ : Gx St} {vo : Int32} {σo : St} (C : Cm Γ cX7_mark RX7 cA 2 43 6 l D π shM (some .int) (some (.int vo), σo)) (N : Nat) (x1_80 : Int32) (x2_80 : Int32) (t0_80 : Int64) (t1_80 : Int64) (σ80 : St)  (h : mo_mark_J80 N x1_80 x2_80 t0_80 t1_80 σ80 = some (vo, σo)) : Wx Γ σ80 80 [(0, .ref (π 0)), (1, .int x1_80), (2, .int x2_80)] [.long t0_80, .long t1_80, .ref (π 0)] := by
  have C0 := C.1
  unfold mo_mark_J80 at h
  refine x_ladd C0 dX7_mark_80 ?_
  refine pt_X7_144 C dX7_mark_81 h (fun σ5 h => ?_)
  refine x_aload_n C0 dX7_mark_84 rfl ?_
  refine gt_X7_19 C dX7_mark_85 ?_
  refine x_bipush C0 (v := 43) dX7_mark_88 (by decide) ?_
  refine x_iload_n C0 dX7_mark_90 rfl ?_
  refine x_iadd C0 dX7_mark_91 ?_
  refine x_iald C (k := 4) (z := 1108) rfl dX7_mark_92 h (fun h => ?_)
  refine x_nm h (fun x6 h => ?_)
  refine x_istore_n C0 (L' := [(3, .int x6), (0, .ref (π 0)), (1, .int x1_80), (2, .int x2_80)]) dX7_mark_93 (by decide) rfl ?_
  refine x_iload_n C0 dX7_mark_94 rfl ?_
  refine x_aload_n C0 dX7_mark_95 rfl ?_
  refine x_iload_n C0 dX7_mark_96 rfl ?_
  obtain ⟨v8, σ7, hc, h⟩ := bd2_some h
  refine x_callVi C (k_mo_bears N x2_80  hc) umX7_100 ui_X7_bears us_X7_bears un_X7 uc_X7_bears hv_X7_bears rfl (by decide) (fks := [1, 4, 0, 5, 6, 7, 8, 9, 10, 0, 0, 0, 0, 0, 11]) rfl rfl dX7_mark_97 (rest := [.int x6]) rfl (Nat.le_of_ble_eq_true rfl) ?_
  refine x_iadd C0 dX7_mark_100 ?_
  refine x_nm h (fun x9 h => ?_)
  refine x_istore C0 (L' := [(4, .int x9), (3, .int x6), (0, .ref (π 0)), (1, .int x1_80), (2, .int x2_80)]) dX7_mark_101 (by decide) rfl ?_
  refine x_iload_n C0 dX7_mark_103 rfl ?_
  refine x_aload_n C0 dX7_mark_104 rfl ?_
  refine gt_X7_19 C dX7_mark_105 ?_
  refine x_bipush C0 (v := 83) dX7_mark_108 (by decide) ?_
  refine x_iload_n C0 dX7_mark_110 rfl ?_
  refine x_iadd C0 dX7_mark_111 ?_
  refine x_iald C (k := 4) (z := 1108) rfl dX7_mark_112 h (fun h => ?_)
  refine x_isub C0 dX7_mark_113 ?_
  refine x_nm h (fun x10 h => ?_)
  refine x_istore C0 (L' := [(5, .int x10), (4, .int x9), (3, .int x6), (0, .ref (π 0)), (1, .int x1_80), (2, .int x2_80)]) dX7_mark_114 (by decide) rfl ?_
  refine x_iload_n C0 dX7_mark_116 rfl ?_
  refine x_if_ne C0 (tgt := 124) dX7_mark_117 (by decide) h (fun h => ?_) (fun h => ?_)
  · refine x_iload_n C0 dX7_mark_124 rfl ?_
    refine x_iconst C0 (v := 1) dX7_mark_125 (by decide) ?_
    refine x_icmp_ne C0 (tgt := 134) dX7_mark_126 (by decide) h (fun h => ?_) (fun h => ?_)
    · refine x_iload_n C0 dX7_mark_134 rfl ?_
      refine x_iconst C0 (v := 2) dX7_mark_135 (by decide) ?_
      refine x_icmp_ne C0 (tgt := 144) dX7_mark_136 (by decide) h (fun h => ?_) (fun h => ?_)
      · refine x_iload_n C0 dX7_mark_144 rfl ?_
        refine x_iconst C0 (v := 3) dX7_mark_145 (by decide) ?_
        refine x_icmp_ne C0 (tgt := 156) dX7_mark_146 (by decide) h (fun h => ?_) (fun h => ?_)
        · refine x_iload_n C0 dX7_mark_156 rfl ?_
          refine x_iconst C0 (v := 4) dX7_mark_157 (by decide) ?_
          refine x_icmp_ne C0 (tgt := 183) dX7_mark_158 (by decide) h (fun h => ?_) (fun h => ?_)
          · refine x_iload_n C0 dX7_mark_183 rfl ?_
            refine x_aload_n C0 dX7_mark_184 rfl ?_
            refine gt_X7_19 C dX7_mark_185 ?_
            refine x_iconst C0 (v := 2) dX7_mark_188 (by decide) ?_
            refine x_iald C (k := 4) (z := 1108) rfl dX7_mark_189 h (fun h => ?_)
            refine x_iadd C0 dX7_mark_190 ?_
            exact x_iret C dX7_mark_191 h
          · refine x_iload C0 dX7_mark_161 rfl ?_
            refine x_aload_n C0 dX7_mark_163 rfl ?_
            refine gt_X7_13 C dX7_mark_164 ?_
            refine x_bipush C0 (v := 6) dX7_mark_167 (by decide) ?_
            refine x_aload_n C0 dX7_mark_169 rfl ?_
            refine gt_X7_19 C dX7_mark_170 ?_
            refine x_iconst C0 (v := 3) dX7_mark_173 (by decide) ?_
            refine x_iload_n C0 dX7_mark_174 rfl ?_
            refine x_iadd C0 dX7_mark_175 ?_
            refine x_iald C (k := 4) (z := 1108) rfl dX7_mark_176 h (fun h => ?_)
            refine x_iadd C0 dX7_mark_177 ?_
            refine x_iald C (k := 2) (z := 58) rfl dX7_mark_178 h (fun h => ?_)
            refine x_iadd C0 dX7_mark_179 ?_
            refine x_goto C0 (tgt := 191) dX7_mark_180 (by decide) ?_
            exact x_iret C dX7_mark_191 h
        · refine x_iconst C0 (v := 2) dX7_mark_149 (by decide) ?_
          refine x_iload C0 dX7_mark_150 rfl ?_
          refine x_imul C0 dX7_mark_152 ?_
          refine x_goto C0 (tgt := 191) dX7_mark_153 (by decide) ?_
          exact x_iret C dX7_mark_191 h
      · refine x_iload C0 dX7_mark_139 rfl ?_
        refine x_goto C0 (tgt := 191) dX7_mark_141 (by decide) ?_
        exact x_iret C dX7_mark_191 h
    · refine x_iload C0 dX7_mark_129 rfl ?_
      refine x_goto C0 (tgt := 191) dX7_mark_131 (by decide) ?_
      exact x_iret C dX7_mark_191 h
  · refine x_iload_n C0 dX7_mark_120 rfl ?_
    refine x_goto C0 (tgt := 191) dX7_mark_121 (by decide) ?_
    exact x_iret C dX7_mark_191 h
set_option maxRecDepth 20000 in
theorem k_mo_mark {l : Launch} {D : va_G} {cA : Nat → ClassId} {π : Nat → Nat} (N : Nat) (a1 : Int32) (a2 : Int32)  {σ : St} {vo : Int32} {σo : St} (h : mo_mark N a1 a2 σ = some (vo, σo)) : Kt l D cA π shM yX7_mark cX7_mark 6 (some .int) 2 43 [.ref (π 0), .int a1, .int a2] σ (some (.int vo)) σo := by
  refine Kt.of (by decide) (Nat.le_of_ble_eq_true rfl) (L := [(0, .ref (π 0)), (1, .int a1), (2, .int a2)]) rfl (fun Γ C => ?_)
  have C0 := C.1
  unfold mo_mark at h
  refine x_iload_n C0 dX7_mark_0 rfl ?_
  refine x_iconst C0 (v := 0) dX7_mark_1 (by decide) ?_
  refine x_iconst C0 (v := 5) dX7_mark_2 (by decide) ?_
  obtain ⟨v2, σ1, hc, h⟩ := bd2_some h
  refine x_callSi C (k_mo_in N a1 0 5  hc) umX7_42 ut_X7_in un_X7 uc_X7_in hs_X7_in rfl (by decide) dX7_mark_3 (rest := []) rfl (Nat.le_of_ble_eq_true rfl) ?_
  refine x_if_eq C0 (tgt := 17) dX7_mark_6 (by decide) h (fun h => ?_) (fun h => ?_)
  · refine x_ldc C0 ukX7_143 dX7_mark_17 ?_
    exact x_iret C dX7_mark_19 h
  · refine x_aload_n C0 dX7_mark_9 rfl ?_
    refine x_iload_n C0 dX7_mark_10 rfl ?_
    obtain ⟨v4, σ3, hc, h⟩ := bd2_some h
    refine x_callVi C (k_mo_isRow N a2  hc) umX7_97 ui_X7_isRow us_X7_isRow un_X7 uc_X7_isRow hv_X7_isRow rfl (by decide) (fks := [1, 4, 0, 5, 6, 7, 8, 9, 10, 0, 0, 0, 0, 0, 11]) rfl rfl dX7_mark_11 (rest := []) rfl (Nat.le_of_ble_eq_true rfl) ?_
    refine x_if_ne C0 (tgt := 20) dX7_mark_14 (by decide) h (fun h => ?_) (fun h => ?_)
    · refine x_aload_n C0 dX7_mark_20 rfl ?_
      refine x_dup C0 rfl dX7_mark_21 ?_
      refine gt_X7_144 C dX7_mark_22 ?_
      refine x_iload_n C0 dX7_mark_25 rfl ?_
      refine x_if_ne C0 (tgt := 33) dX7_mark_26 (by decide) h (fun h => ?_) (fun h => ?_)
      · refine x_iload_n C0 dX7_mark_33 rfl ?_
        refine x_iconst C0 (v := 1) dX7_mark_34 (by decide) ?_
        refine x_icmp_ne C0 (tgt := 44) dX7_mark_35 (by decide) h (fun h => ?_) (fun h => ?_)
        · refine x_iload_n C0 dX7_mark_44 rfl ?_
          refine x_iconst C0 (v := 2) dX7_mark_45 (by decide) ?_
          refine x_icmp_ne C0 (tgt := 55) dX7_mark_46 (by decide) h (fun h => ?_) (fun h => ?_)
          · refine x_iload_n C0 dX7_mark_55 rfl ?_
            refine x_iconst C0 (v := 3) dX7_mark_56 (by decide) ?_
            refine x_icmp_ne C0 (tgt := 66) dX7_mark_57 (by decide) h (fun h => ?_) (fun h => ?_)
            · refine x_iload_n C0 dX7_mark_66 rfl ?_
              refine x_iconst C0 (v := 4) dX7_mark_67 (by decide) ?_
              refine x_icmp_ne C0 (tgt := 77) dX7_mark_68 (by decide) h (fun h => ?_) (fun h => ?_)
              · refine x_ldc2 C0 ukX7_156 dX7_mark_77 ?_
                exact x_pick [0, 1, 2] rfl (w_mo_mark_J80 C N a1 a2 100001 (σ3.2) σ3 h)
              · refine x_ldc2 C0 ukX7_154 dX7_mark_71 ?_
                refine x_goto C0 (tgt := 80) dX7_mark_74 (by decide) ?_
                exact x_pick [0, 1, 2] rfl (w_mo_mark_J80 C N a1 a2 10101 (σ3.2) σ3 h)
            · refine x_ldc2 C0 ukX7_152 dX7_mark_60 ?_
              refine x_goto C0 (tgt := 80) dX7_mark_63 (by decide) ?_
              exact x_pick [0, 1, 2] rfl (w_mo_mark_J80 C N a1 a2 1011 (σ3.2) σ3 h)
          · refine x_ldc2 C0 ukX7_150 dX7_mark_49 ?_
            refine x_goto C0 (tgt := 80) dX7_mark_52 (by decide) ?_
            exact x_pick [0, 1, 2] rfl (w_mo_mark_J80 C N a1 a2 101 (σ3.2) σ3 h)
        · refine x_ldc2 C0 ukX7_148 dX7_mark_38 ?_
          refine x_goto C0 (tgt := 80) dX7_mark_41 (by decide) ?_
          exact x_pick [0, 1, 2] rfl (w_mo_mark_J80 C N a1 a2 11 (σ3.2) σ3 h)
      · refine x_lconst C0 (v := 1) dX7_mark_29 (by decide) ?_
        refine x_goto C0 (tgt := 80) dX7_mark_30 (by decide) ?_
        exact x_pick [0, 1, 2] rfl (w_mo_mark_J80 C N a1 a2 1 (σ3.2) σ3 h)
    · refine x_ldc C0 ukX7_143 dX7_mark_17 ?_
      exact x_iret C dX7_mark_19 h
def mo_keep_L13 (N : Nat) (c1_13 : Int32) : Nat → Int32 → St → Option (St)
  | 0, _, _ => none
  | n + 1, x2_13, σ13 =>
    if 1108 ≤ x2_13 then (
      some σ13)
    else (
      ck (inb x2_13 1108) (
      ck (inb ((1108 * c1_13) + x2_13) 2216) (lt (put σ13 5 (ix ((1108 * c1_13) + x2_13)) (σ13.1 4 (ix x2_13))) fun σ3 =>
      lt (x2_13 + 1) fun x4 =>
      (mo_keep_L13 N c1_13 n) x4 σ3)))
def mo_keep (N : Nat) (a1 : Int32) (σ : St) : Option (Int32 × St) :=
  bd2 (mo_in N a1 0 1 σ) fun v2 σ1 =>
  if v2 = 0 then (
    some ((-1), σ1))
  else (
    bd1 (mo_keep_L13 N a1 N 0 σ1) fun σ5 =>
    ck (inb a1 2) (lt (put σ5 6 (ix a1) (vp_nar .boolean 1)) fun σ6 =>
    ck (inb 2 1108) (
    some ((σ6.1 4 (ix 2)), σ6))))
set_option maxRecDepth 20000 in
theorem w_mo_keep_L13 {l : Launch} {D : va_G} {cA : Nat → ClassId} {π : Nat → Nat} {Γ : Gx St} {vo : Int32} {σo : St} (C : Cm Γ cX7_keep RX7 cA 1 22 3 l D π shM (some .int) (some (.int vo), σo)) (N : Nat) (c1_13 : Int32)  (yo : St) (kk13 : ∀ σe, σe = yo → Wx Γ σe 44 [(0, .ref (π 0)), (1, .int c1_13)] []) : ∀ (n : Nat) (x2_13 : Int32) (σ13 : St), mo_keep_L13 N c1_13 n x2_13 σ13 = some yo → Wx Γ σ13 13 [(0, .ref (π 0)), (1, .int c1_13), (2, .int x2_13)] [] := by
  have C0 := C.1
  intro n
  induction n with
  | zero => intro x2_13 σ13 h; cases h
  | succ n ih =>
    intro x2_13 σ13 h
    rw [mo_keep_L13] at h
    refine x_iload_n C0 dX7_keep_13 rfl ?_
    refine x_sipush C0 (v := 1108) dX7_keep_14 (by decide) ?_
    refine x_icmp_ge C0 (tgt := 44) dX7_keep_17 (by decide) h (fun h => ?_) (fun h => ?_)
    · exact x_pick [0, 1] rfl (kk13 _ (Option.some.inj h))
    · refine x_aload_n C0 dX7_keep_20 rfl ?_
      refine gt_X7_22 C dX7_keep_21 ?_
      refine x_sipush C0 (v := 1108) dX7_keep_24 (by decide) ?_
      refine x_iload_n C0 dX7_keep_27 rfl ?_
      refine x_imul C0 dX7_keep_28 ?_
      refine x_iload_n C0 dX7_keep_29 rfl ?_
      refine x_iadd C0 dX7_keep_30 ?_
      refine x_aload_n C0 dX7_keep_31 rfl ?_
      refine gt_X7_19 C dX7_keep_32 ?_
      refine x_iload_n C0 dX7_keep_35 rfl ?_
      refine x_iald C (k := 4) (z := 1108) rfl dX7_keep_36 h (fun h => ?_)
      refine x_iast C (k := 5) (z := 2216) rfl dX7_keep_37 h (fun σ3 h => ?_)
      refine x_iinc C0 (j := 2) (v := 1) (L' := fun x4 => [(2, .int x4), (0, .ref (π 0)), (1, .int c1_13)]) dX7_keep_38 rfl (by decide) (by decide) (fun _ => rfl) h (fun x4 h => ?_)
      refine x_goto C0 (tgt := 13) dX7_keep_41 (by decide) ?_
      exact x_pick [1, 2, 0] rfl (ih _ _ h)
set_option maxRecDepth 20000 in
theorem k_mo_keep {l : Launch} {D : va_G} {cA : Nat → ClassId} {π : Nat → Nat} (N : Nat) (a1 : Int32)  {σ : St} {vo : Int32} {σo : St} (h : mo_keep N a1 σ = some (vo, σo)) : Kt l D cA π shM yX7_keep cX7_keep 3 (some .int) 1 22 [.ref (π 0), .int a1] σ (some (.int vo)) σo := by
  refine Kt.of (by decide) (Nat.le_of_ble_eq_true rfl) (L := [(0, .ref (π 0)), (1, .int a1)]) rfl (fun Γ C => ?_)
  have C0 := C.1
  unfold mo_keep at h
  refine x_iload_n C0 dX7_keep_0 rfl ?_
  refine x_iconst C0 (v := 0) dX7_keep_1 (by decide) ?_
  refine x_iconst C0 (v := 1) dX7_keep_2 (by decide) ?_
  obtain ⟨v2, σ1, hc, h⟩ := bd2_some h
  refine x_callSi C (k_mo_in N a1 0 1  hc) umX7_42 ut_X7_in un_X7 uc_X7_in hs_X7_in rfl (by decide) dX7_keep_3 (rest := []) rfl (Nat.le_of_ble_eq_true rfl) ?_
  refine x_if_ne C0 (tgt := 11) dX7_keep_6 (by decide) h (fun h => ?_) (fun h => ?_)
  · refine x_iconst C0 (v := 0) dX7_keep_11 (by decide) ?_
    refine x_istore_n C0 (L' := [(2, .int 0), (0, .ref (π 0)), (1, .int a1)]) dX7_keep_12 (by decide) rfl ?_
    obtain ⟨σ5, hL, h⟩ := bd1_some h
    refine x_pick [1, 2, 0] rfl (w_mo_keep_L13 C N a1 _ (fun b0 e => ?_) N 0 σ1 hL)
    cases e
    refine x_aload_n C0 dX7_keep_44 rfl ?_
    refine gt_X7_25 C dX7_keep_45 ?_
    refine x_iload_n C0 dX7_keep_48 rfl ?_
    refine x_iconst C0 (v := 1) dX7_keep_49 (by decide) ?_
    refine x_zast C (k := 6) (z := 2) rfl dX7_keep_50 h (fun σ6 h => ?_)
    refine x_aload_n C0 dX7_keep_51 rfl ?_
    refine gt_X7_19 C dX7_keep_52 ?_
    refine x_iconst C0 (v := 2) dX7_keep_55 (by decide) ?_
    refine x_iald C (k := 4) (z := 1108) rfl dX7_keep_56 h (fun h => ?_)
    exact x_iret C dX7_keep_57 h
  · refine x_iconst C0 (v := (-1)) dX7_keep_9 (by decide) ?_
    exact x_iret C dX7_keep_10 h
def mo_back_L25 (N : Nat) (c1_25 : Int32) : Nat → Int32 → St → Option (St)
  | 0, _, _ => none
  | n + 1, x2_25, σ25 =>
    if 1108 ≤ x2_25 then (
      some σ25)
    else (
      ck (inb ((1108 * c1_25) + x2_25) 2216) (
      ck (inb x2_25 1108) (lt (put σ25 4 (ix x2_25) (σ25.1 5 (ix ((1108 * c1_25) + x2_25)))) fun σ3 =>
      lt (x2_25 + 1) fun x4 =>
      (mo_back_L25 N c1_25 n) x4 σ3)))
def mo_back (N : Nat) (a1 : Int32) (σ : St) : Option (Int32 × St) :=
  bd2 (mo_in N a1 0 1 σ) fun v2 σ1 =>
  if v2 = 0 then (
    some ((-1), σ1))
  else (
    ck (inb a1 2) (
    if (σ1.1 6 (ix a1)) = 0 then (
      some ((-2), σ1))
    else (
      bd1 (mo_back_L25 N a1 N 0 σ1) fun σ5 =>
      ck (inb 2 1108) (
      some ((σ5.1 4 (ix 2)), σ5)))))
set_option maxRecDepth 20000 in
theorem w_mo_back_L25 {l : Launch} {D : va_G} {cA : Nat → ClassId} {π : Nat → Nat} {Γ : Gx St} {vo : Int32} {σo : St} (C : Cm Γ cX7_back RX7 cA 1 22 3 l D π shM (some .int) (some (.int vo), σo)) (N : Nat) (c1_25 : Int32)  (yo : St) (kk25 : ∀ σe, σe = yo → Wx Γ σe 56 [(0, .ref (π 0))] []) : ∀ (n : Nat) (x2_25 : Int32) (σ25 : St), mo_back_L25 N c1_25 n x2_25 σ25 = some yo → Wx Γ σ25 25 [(0, .ref (π 0)), (1, .int c1_25), (2, .int x2_25)] [] := by
  have C0 := C.1
  intro n
  induction n with
  | zero => intro x2_25 σ25 h; cases h
  | succ n ih =>
    intro x2_25 σ25 h
    rw [mo_back_L25] at h
    refine x_iload_n C0 dX7_back_25 rfl ?_
    refine x_sipush C0 (v := 1108) dX7_back_26 (by decide) ?_
    refine x_icmp_ge C0 (tgt := 56) dX7_back_29 (by decide) h (fun h => ?_) (fun h => ?_)
    · exact x_pick [0] rfl (kk25 _ (Option.some.inj h))
    · refine x_aload_n C0 dX7_back_32 rfl ?_
      refine gt_X7_19 C dX7_back_33 ?_
      refine x_iload_n C0 dX7_back_36 rfl ?_
      refine x_aload_n C0 dX7_back_37 rfl ?_
      refine gt_X7_22 C dX7_back_38 ?_
      refine x_sipush C0 (v := 1108) dX7_back_41 (by decide) ?_
      refine x_iload_n C0 dX7_back_44 rfl ?_
      refine x_imul C0 dX7_back_45 ?_
      refine x_iload_n C0 dX7_back_46 rfl ?_
      refine x_iadd C0 dX7_back_47 ?_
      refine x_iald C (k := 5) (z := 2216) rfl dX7_back_48 h (fun h => ?_)
      refine x_iast C (k := 4) (z := 1108) rfl dX7_back_49 h (fun σ3 h => ?_)
      refine x_iinc C0 (j := 2) (v := 1) (L' := fun x4 => [(2, .int x4), (0, .ref (π 0)), (1, .int c1_25)]) dX7_back_50 rfl (by decide) (by decide) (fun _ => rfl) h (fun x4 h => ?_)
      refine x_goto C0 (tgt := 25) dX7_back_53 (by decide) ?_
      exact x_pick [1, 2, 0] rfl (ih _ _ h)
set_option maxRecDepth 20000 in
theorem k_mo_back {l : Launch} {D : va_G} {cA : Nat → ClassId} {π : Nat → Nat} (N : Nat) (a1 : Int32)  {σ : St} {vo : Int32} {σo : St} (h : mo_back N a1 σ = some (vo, σo)) : Kt l D cA π shM yX7_back cX7_back 3 (some .int) 1 22 [.ref (π 0), .int a1] σ (some (.int vo)) σo := by
  refine Kt.of (by decide) (Nat.le_of_ble_eq_true rfl) (L := [(0, .ref (π 0)), (1, .int a1)]) rfl (fun Γ C => ?_)
  have C0 := C.1
  unfold mo_back at h
  refine x_iload_n C0 dX7_back_0 rfl ?_
  refine x_iconst C0 (v := 0) dX7_back_1 (by decide) ?_
  refine x_iconst C0 (v := 1) dX7_back_2 (by decide) ?_
  obtain ⟨v2, σ1, hc, h⟩ := bd2_some h
  refine x_callSi C (k_mo_in N a1 0 1  hc) umX7_42 ut_X7_in un_X7 uc_X7_in hs_X7_in rfl (by decide) dX7_back_3 (rest := []) rfl (Nat.le_of_ble_eq_true rfl) ?_
  refine x_if_ne C0 (tgt := 11) dX7_back_6 (by decide) h (fun h => ?_) (fun h => ?_)
  · refine x_aload_n C0 dX7_back_11 rfl ?_
    refine gt_X7_25 C dX7_back_12 ?_
    refine x_iload_n C0 dX7_back_15 rfl ?_
    refine x_zald C (k := 6) (z := 2) rfl dX7_back_16 h (fun h => ?_)
    refine x_if_ne C0 (tgt := 23) dX7_back_17 (by decide) h (fun h => ?_) (fun h => ?_)
    · refine x_iconst C0 (v := 0) dX7_back_23 (by decide) ?_
      refine x_istore_n C0 (L' := [(2, .int 0), (0, .ref (π 0)), (1, .int a1)]) dX7_back_24 (by decide) rfl ?_
      obtain ⟨σ5, hL, h⟩ := bd1_some h
      refine x_pick [1, 2, 0] rfl (w_mo_back_L25 C N a1 _ (fun b0 e => ?_) N 0 σ1 hL)
      cases e
      refine x_aload_n C0 dX7_back_56 rfl ?_
      refine gt_X7_19 C dX7_back_57 ?_
      refine x_iconst C0 (v := 2) dX7_back_60 (by decide) ?_
      refine x_iald C (k := 4) (z := 1108) rfl dX7_back_61 h (fun h => ?_)
      exact x_iret C dX7_back_62 h
    · refine x_bipush C0 (v := (-2)) dX7_back_20 (by decide) ?_
      exact x_iret C dX7_back_22 h
  · refine x_iconst C0 (v := (-1)) dX7_back_9 (by decide) ?_
    exact x_iret C dX7_back_10 h
def mo_count (N : Nat) (a1 : Int32) (σ : St) : Option (Int32 × St) :=
  if a1 = 0 then (
    ck (inb 0 58) (
    some ((σ.1 2 (ix 0)), σ)))
  else (
    if a1 = 1 then (
      ck (inb 1 58) (
      some ((σ.1 2 (ix 1)), σ)))
    else (
      if a1 = 2 then (
        ck (inb 2 58) (
        some ((σ.1 2 (ix 2)), σ)))
      else (
        if a1 = 3 then (
          some ((σ.1 0 9), σ))
        else (
          if a1 = 4 then (
            ck (inb 123 1108) (
            some ((σ.1 4 (ix 123)), σ)))
          else (
            if a1 = 5 then (
              some ((σ.1 0 2), σ))
            else (
              some ((-1), σ)))))))
set_option maxRecDepth 20000 in
theorem k_mo_count {l : Launch} {D : va_G} {cA : Nat → ClassId} {π : Nat → Nat} (N : Nat) (a1 : Int32)  {σ : St} {vo : Int32} {σo : St} (h : mo_count N a1 σ = some (vo, σo)) : Kt l D cA π shM yX7_count cX7_count 2 (some .int) 0 0 [.ref (π 0), .int a1] σ (some (.int vo)) σo := by
  refine Kt.of (by decide) (Nat.le_of_ble_eq_true rfl) (L := [(0, .ref (π 0)), (1, .int a1)]) rfl (fun Γ C => ?_)
  have C0 := C.1
  unfold mo_count at h
  refine x_iload_n C0 dX7_count_0 rfl ?_
  refine x_case 0 h (fun q h => ?_) (fun q0 h => ?_)
  · refine x_tab C0 (tgt := 40) dX7_count_1 q (by decide) (by decide) rfl (by decide) ?_
    refine x_aload_n C0 dX7_count_40 rfl ?_
    refine gt_X7_13 C dX7_count_41 ?_
    refine x_iconst C0 (v := 0) dX7_count_44 (by decide) ?_
    refine x_iald C (k := 2) (z := 58) rfl dX7_count_45 h (fun h => ?_)
    exact x_iret C dX7_count_46 h
  · refine x_case 1 h (fun q h => ?_) (fun q1 h => ?_)
    · refine x_tab C0 (tgt := 47) dX7_count_1 q (by decide) (by decide) rfl (by decide) ?_
      refine x_aload_n C0 dX7_count_47 rfl ?_
      refine gt_X7_13 C dX7_count_48 ?_
      refine x_iconst C0 (v := 1) dX7_count_51 (by decide) ?_
      refine x_iald C (k := 2) (z := 58) rfl dX7_count_52 h (fun h => ?_)
      exact x_iret C dX7_count_53 h
    · refine x_case 2 h (fun q h => ?_) (fun q2 h => ?_)
      · refine x_tab C0 (tgt := 54) dX7_count_1 q (by decide) (by decide) rfl (by decide) ?_
        refine x_aload_n C0 dX7_count_54 rfl ?_
        refine gt_X7_13 C dX7_count_55 ?_
        refine x_iconst C0 (v := 2) dX7_count_58 (by decide) ?_
        refine x_iald C (k := 2) (z := 58) rfl dX7_count_59 h (fun h => ?_)
        exact x_iret C dX7_count_60 h
      · refine x_case 3 h (fun q h => ?_) (fun q3 h => ?_)
        · refine x_tab C0 (tgt := 61) dX7_count_1 q (by decide) (by decide) rfl (by decide) ?_
          refine x_aload_n C0 dX7_count_61 rfl ?_
          refine gt_X7_88 C dX7_count_62 ?_
          exact x_iret C dX7_count_65 h
        · refine x_case 4 h (fun q h => ?_) (fun q4 h => ?_)
          · refine x_tab C0 (tgt := 66) dX7_count_1 q (by decide) (by decide) rfl (by decide) ?_
            refine x_aload_n C0 dX7_count_66 rfl ?_
            refine gt_X7_19 C dX7_count_67 ?_
            refine x_bipush C0 (v := 123) dX7_count_70 (by decide) ?_
            refine x_iald C (k := 4) (z := 1108) rfl dX7_count_72 h (fun h => ?_)
            exact x_iret C dX7_count_73 h
          · refine x_case 5 h (fun q h => ?_) (fun q5 h => ?_)
            · refine x_tab C0 (tgt := 74) dX7_count_1 q (by decide) (by decide) rfl (by decide) ?_
              refine x_aload_n C0 dX7_count_74 rfl ?_
              refine gt_X7_46 C dX7_count_75 ?_
              exact x_iret C dX7_count_78 h
            · refine x_tabD C0 (tgt := 79) dX7_count_1 (by have g0 := lv_neT q0 (show (0 : Int32).toInt = 0 from rfl); have g1 := lv_neT q1 (show (1 : Int32).toInt = 1 from rfl); have g2 := lv_neT q2 (show (2 : Int32).toInt = 2 from rfl); have g3 := lv_neT q3 (show (3 : Int32).toInt = 3 from rfl); have g4 := lv_neT q4 (show (4 : Int32).toInt = 4 from rfl); have g5 := lv_neT q5 (show (5 : Int32).toInt = 5 from rfl); omega) (by decide) ?_
              refine x_iconst C0 (v := (-1)) dX7_count_79 (by decide) ?_
              exact x_iret C dX7_count_80 h
def mo_trace (N : Nat) (σ : St) : Option (Int64 × St) :=
  some (σ.2, σ)
set_option maxRecDepth 20000 in
theorem k_mo_trace {l : Launch} {D : va_G} {cA : Nat → ClassId} {π : Nat → Nat} (N : Nat)  {σ : St} {vo : Int64} {σo : St} (h : mo_trace N σ = some (vo, σo)) : Kt l D cA π shM yX7_trace cX7_trace 1 (some .long) 0 0 [.ref (π 0)] σ (some (.long vo)) σo := by
  refine Kt.of (by decide) (Nat.le_of_ble_eq_true rfl) (L := [(0, .ref (π 0))]) rfl (fun Γ C => ?_)
  have C0 := C.1
  unfold mo_trace at h
  refine x_aload_n C0 dX7_trace_0 rfl ?_
  refine gt_X7_144 C dX7_trace_1 ?_
  exact x_lret C dX7_trace_4 h
