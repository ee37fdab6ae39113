def wb_draws (N : Nat) (a1 : Int32) (σ : St) : Option (Int32 × St) :=
  bd2 (wb_span N  σ) fun r2 σ1 => ck (isSp r2) (
  bd2 (sp_has N r2 a1 σ1) fun v4 σ3 =>
  if v4 = 0 then (
    some ((-1), σ3))
  else (
    bd2 (wb_span N  σ3) fun r6 σ5 => ck (isSp r6) (
    ck (inb a1 40) (
    if (σ5.1 (r6 + 2) (ix a1)) = 0 then (
      some ((-2), σ5))
    else (
      bd2 (ps_step N 3 σ5) fun r8 σ7 => ck (isSp r8) (
      ck (inb a1 40) (
      ck (inb a1 40) (lt (put σ7 (r8 + 2) (ix a1) ((σ7.1 (r8 + 2) (ix a1)) - 1)) fun σ9 =>
      bd2 (sp_bears N r8 a1 σ9) fun v11 σ10 =>
      some (v11, σ10)))))))))
set_option maxRecDepth 20000 in
theorem k_wb_draws {l : Launch} {D : va_G} {cA : Nat → ClassId} {π : Nat → Nat} (N : Nat) (a1 : Int32)  {σ : St} {vo : Int32} {σo : St} (h : wb_draws N a1 σ = some (vo, σo)) : Kt l D cA π shC yX6_draws cX6_draws 3 (some .int) 3 124 [.ref (π 0), .int a1] σ (some (.int vo)) σo := by
  refine Kt.of (by decide) (Nat.le_of_ble_eq_true rfl) (L := [(0, .ref (π 0)), (1, .int a1)]) rfl (fun Γ C => ?_)
  have C0 := C.1
  unfold wb_draws at h
  refine x_aload_n C0 dX6_draws_0 rfl ?_
  obtain ⟨r2, σ1, hc, h⟩ := bd2_some h
  refine x_callVr C (k_wb_span N  hc) umX6_90 ui_X6_span us_X6_span un_X6 uc_X6_span hv_X6_span rfl (by decide) (fks := [4, 6, 44, 121, 122, 125, 2, 2, 1]) rfl rfl dX6_draws_1 (rest := []) rfl (Nat.le_of_ble_eq_true rfl) ?_
  refine x_chk h (fun q h => ?_)
  have hr2 := isSp_sh q
  refine x_iload_n C0 dX6_draws_4 rfl ?_
  obtain ⟨v4, σ3, hc, h⟩ := bd2_some h
  refine x_callVi C (k_sp_has N r2 a1 hr2 hc) umX6_100 ui_X3_has us_X3_has un_X3 uc_X3_has hv_X3_has rfl (by decide) hr2 rfl dX6_draws_5 (rest := []) rfl (Nat.le_of_ble_eq_true rfl) ?_
  refine x_if_ne C0 (tgt := 13) dX6_draws_8 (by decide) h (fun h => ?_) (fun h => ?_)
  · refine x_aload_n C0 dX6_draws_13 rfl ?_
    obtain ⟨r6, σ5, hc, h⟩ := bd2_some h
    refine x_callVr C (k_wb_span N  hc) umX6_90 ui_X6_span us_X6_span un_X6 uc_X6_span hv_X6_span rfl (by decide) (fks := [4, 6, 44, 121, 122, 125, 2, 2, 1]) rfl rfl dX6_draws_14 (rest := []) rfl (Nat.le_of_ble_eq_true rfl) ?_
    refine x_chk h (fun q h => ?_)
    have hr6 := isSp_sh q
    refine gt_X6_104 C hr6 dX6_draws_17 ?_
    refine x_iload_n C0 dX6_draws_20 rfl ?_
    refine x_iald C (k := (r6 + 2)) (z := 40) (sh_X3_thick hr6) dX6_draws_21 h (fun h => ?_)
    refine x_if_ne C0 (tgt := 28) dX6_draws_22 (by decide) h (fun h => ?_) (fun h => ?_)
    · refine x_aload_n C0 dX6_draws_28 rfl ?_
      refine gt_X6_19 C dX6_draws_29 ?_
      obtain ⟨r8, σ7, hc, h⟩ := bd2_some h
      refine x_callVr C (k_ps_step N 3 rfl hc) umX6_114 ui_X1_step us_X1_step un_X1 uc_X1_step hv_X1_step rfl (by decide) rfl rfl dX6_draws_32 (rest := []) rfl (Nat.le_of_ble_eq_true rfl) ?_
      refine x_chk h (fun q h => ?_)
      have hr8 := isSp_sh q
      refine x_astore_n C0 (L' := [(2, .ref (π r8)), (0, .ref (π 0)), (1, .int a1)]) dX6_draws_35 (by decide) rfl ?_
      refine x_aload_n C0 dX6_draws_36 rfl ?_
      refine gt_X6_104 C hr8 dX6_draws_37 ?_
      refine x_iload_n C0 dX6_draws_40 rfl ?_
      refine x_dup2_11 C0 rfl rfl dX6_draws_41 ?_
      refine x_iald C (k := (r8 + 2)) (z := 40) (sh_X3_thick hr8) dX6_draws_42 h (fun h => ?_)
      refine x_iconst C0 (v := 1) dX6_draws_43 (by decide) ?_
      refine x_isub C0 dX6_draws_44 ?_
      refine x_iast C (k := (r8 + 2)) (z := 40) (sh_X3_thick hr8) dX6_draws_45 h (fun σ9 h => ?_)
      refine x_aload_n C0 dX6_draws_46 rfl ?_
      refine x_iload_n C0 dX6_draws_47 rfl ?_
      obtain ⟨v11, σ10, hc, h⟩ := bd2_some h
      refine x_callVi C (k_sp_bears N r8 a1 hr8 hc) umX6_108 ui_X3_bears us_X3_bears un_X3 uc_X3_bears hv_X3_bears rfl (by decide) hr8 rfl dX6_draws_48 (rest := []) rfl (Nat.le_of_ble_eq_true rfl) ?_
      exact x_iret C dX6_draws_51 h
    · refine x_bipush C0 (v := (-2)) dX6_draws_25 (by decide) ?_
      exact x_iret C dX6_draws_27 h
  · refine x_iconst C0 (v := (-1)) dX6_draws_11 (by decide) ?_
    exact x_iret C dX6_draws_12 h
def wb_rains_J21 (N : Nat) (t0_21 : Int32) (σ21 : St) : Option (Int32 × St) :=
  bd2 (wb_span N  σ21) fun r4 σ3 => ck (isSp r4) (
  if (σ3.1 r4 4) = t0_21 then (
    some ((-2), σ3))
  else (
    bd2 (ps_step N 3 σ3) fun r6 σ5 => ck (isSp r6) (
    ck (bz t0_21) (
    lt (put σ5 r6 4 t0_21) fun σ7 =>
    bd2 (sp_length N r6 σ7) fun v9 σ8 =>
    some (v9, σ8)))))
def wb_rains (N : Nat) (a1 : Int32) (σ : St) : Option (Int32 × St) :=
  bd2 (wb_within N a1 0 1 σ) fun v2 σ1 =>
  if v2 = 0 then (
    some ((-1), σ1))
  else (
    if a1 = 1 then (
      wb_rains_J21 N 1 σ1)
    else (
      wb_rains_J21 N 0 σ1))
set_option maxRecDepth 20000 in
theorem w_wb_rains_J21 {l : Launch} {D : va_G} {cA : Nat → ClassId} {π : Nat → Nat} {Γ : Gx St} {vo : Int32} {σo : St} (C : Cm Γ cX6_rains RX6 cA 3 122 4 l D π shC (some .int) (some (.int vo), σo)) (N : Nat) (t0_21 : Int32) (σ21 : St)  (h : wb_rains_J21 N t0_21 σ21 = some (vo, σo)) : Wx Γ σ21 21 [(0, .ref (π 0))] [.int t0_21] := by
  have C0 := C.1
  unfold wb_rains_J21 at h
  refine x_istore_n C0 (L' := [(2, .int t0_21), (0, .ref (π 0))]) dX6_rains_21 (by decide) rfl ?_
  refine x_aload_n C0 dX6_rains_22 rfl ?_
  obtain ⟨r4, σ3, hc, h⟩ := bd2_some h
  refine x_callVr C (k_wb_span N  hc) umX6_90 ui_X6_span us_X6_span un_X6 uc_X6_span hv_X6_span rfl (by decide) (fks := [4, 6, 44, 121, 122, 125, 2, 2, 1]) rfl rfl dX6_rains_23 (rest := []) rfl (Nat.le_of_ble_eq_true rfl) ?_
  refine x_chk h (fun q h => ?_)
  have hr4 := isSp_sh q
  refine gt_X6_131 C hr4 dX6_rains_26 ?_
  refine x_iload_n C0 dX6_rains_29 rfl ?_
  refine x_icmp_ne C0 (tgt := 36) dX6_rains_30 (by decide) h (fun h => ?_) (fun h => ?_)
  · refine x_aload_n C0 dX6_rains_36 rfl ?_
    refine gt_X6_19 C dX6_rains_37 ?_
    obtain ⟨r6, σ5, hc, h⟩ := bd2_some h
    refine x_callVr C (k_ps_step N 3 rfl hc) umX6_114 ui_X1_step us_X1_step un_X1 uc_X1_step hv_X1_step rfl (by decide) rfl rfl dX6_rains_40 (rest := []) rfl (Nat.le_of_ble_eq_true rfl) ?_
    refine x_chk h (fun q h => ?_)
    have hr6 := isSp_sh q
    refine x_astore_n C0 (L' := [(3, .ref (π r6)), (2, .int t0_21), (0, .ref (π 0))]) dX6_rains_43 (by decide) rfl ?_
    refine x_aload_n C0 dX6_rains_44 rfl ?_
    refine x_iload_n C0 dX6_rains_45 rfl ?_
    refine x_chk h (fun q h => ?_)
    refine pt_X6_131 C hr6 (bz_or q) dX6_rains_46 h (fun σ7 h => ?_)
    refine x_aload_n C0 dX6_rains_49 rfl ?_
    obtain ⟨v9, σ8, hc, h⟩ := bd2_some h
    refine x_callVi C (k_sp_length N r6 hr6 hc) umX6_135 ui_X3_length us_X3_length un_X3 uc_X3_length hv_X3_length rfl (by decide) hr6 rfl dX6_rains_50 (rest := []) rfl (Nat.le_of_ble_eq_true rfl) ?_
    exact x_iret C dX6_rains_53 h
  · refine x_bipush C0 (v := (-2)) dX6_rains_33 (by decide) ?_
    exact x_iret C dX6_rains_35 h
set_option maxRecDepth 20000 in
theorem k_wb_rains {l : Launch} {D : va_G} {cA : Nat → ClassId} {π : Nat → Nat} (N : Nat) (a1 : Int32)  {σ : St} {vo : Int32} {σo : St} (h : wb_rains N a1 σ = some (vo, σo)) : Kt l D cA π shC yX6_rains cX6_rains 4 (some .int) 3 122 [.ref (π 0), .int a1] σ (some (.int vo)) σo := by
  refine Kt.of (by decide) (Nat.le_of_ble_eq_true rfl) (L := [(0, .ref (π 0)), (1, .int a1)]) rfl (fun Γ C => ?_)
  have C0 := C.1
  unfold wb_rains at h
  refine x_iload_n C0 dX6_rains_0 rfl ?_
  refine x_iconst C0 (v := 0) dX6_rains_1 (by decide) ?_
  refine x_iconst C0 (v := 1) dX6_rains_2 (by decide) ?_
  obtain ⟨v2, σ1, hc, h⟩ := bd2_some h
  refine x_callSi C (k_wb_within N a1 0 1  hc) umX6_55 ut_X6_within un_X6 uc_X6_within hs_X6_within rfl (by decide) dX6_rains_3 (rest := []) rfl (Nat.le_of_ble_eq_true rfl) ?_
  refine x_if_ne C0 (tgt := 11) dX6_rains_6 (by decide) h (fun h => ?_) (fun h => ?_)
  · refine x_iload_n C0 dX6_rains_11 rfl ?_
    refine x_iconst C0 (v := 1) dX6_rains_12 (by decide) ?_
    refine x_icmp_ne C0 (tgt := 20) dX6_rains_13 (by decide) h (fun h => ?_) (fun h => ?_)
    · refine x_iconst C0 (v := 0) dX6_rains_20 (by decide) ?_
      exact x_pick [0] rfl (w_wb_rains_J21 C N 0 σ1 h)
    · refine x_iconst C0 (v := 1) dX6_rains_16 (by decide) ?_
      refine x_goto C0 (tgt := 21) dX6_rains_17 (by decide) ?_
      exact x_pick [0] rfl (w_wb_rains_J21 C N 1 σ1 h)
  · refine x_iconst C0 (v := (-1)) dX6_rains_9 (by decide) ?_
    exact x_iret C dX6_rains_10 h
def sp_age_L2 (N : Nat) (k0 : Nat) : Nat → Int32 → St → Option (St)
  | 0, _, _ => none
  | n + 1, x1_2, σ2 =>
    if (σ2.1 k0 3) ≤ x1_2 then (
      some σ2)
    else (
      ck (inb x1_2 40) (
      ck (inb x1_2 40) (lt (put σ2 (k0 + 3) (ix x1_2) (mn 99 ((σ2.1 (k0 + 3) (ix x1_2)) + 1))) fun σ1 =>
      lt (x1_2 + 1) fun x2 =>
      (sp_age_L2 N k0 n) x2 σ1)))
def sp_age (N : Nat) (k0 : Nat) (σ : St) : Option (St) :=
  bd1 (sp_age_L2 N k0 N 0 σ) fun σ3 =>
  lt (put σ3 k0 5 ((σ3.1 k0 5) + 1)) fun σ4 =>
  some σ4
set_option maxRecDepth 20000 in
theorem w_sp_age_L2 {l : Launch} {D : va_G} {cA : Nat → ClassId} {π : Nat → Nat} {Γ : Gx St} {σo : St} (C : Cm Γ cX3_age RX3 cA 1 80 2 l D π shC none (none, σo)) (N : Nat) (k0 : Nat) (hk0 : shC[k0]? = some shX3) (yo : St) (kk2 : ∀ σe, σe = yo → Wx Γ σe 35 [(0, .ref (π k0))] []) : ∀ (n : Nat) (x1_2 : Int32) (σ2 : St), sp_age_L2 N k0 n x1_2 σ2 = some yo → Wx Γ σ2 2 [(0, .ref (π k0)), (1, .int x1_2)] [] := by
  have C0 := C.1
  intro n
  induction n with
  | zero => intro x1_2 σ2 h; cases h
  | succ n ih =>
    intro x1_2 σ2 h
    rw [sp_age_L2] at h
    refine x_iload_n C0 dX3_age_2 rfl ?_
    refine x_aload_n C0 dX3_age_3 rfl ?_
    refine gt_X3_21 C hk0 dX3_age_4 ?_
    refine x_icmp_ge C0 (tgt := 35) dX3_age_7 (by decide) h (fun h => ?_) (fun h => ?_)
    · exact x_pick [0] rfl (kk2 _ (Option.some.inj h))
    · refine x_aload_n C0 dX3_age_10 rfl ?_
      refine gt_X3_18 C hk0 dX3_age_11 ?_
      refine x_iload_n C0 dX3_age_14 rfl ?_
      refine x_bipush C0 (v := 99) dX3_age_15 (by decide) ?_
      refine x_aload_n C0 dX3_age_17 rfl ?_
      refine gt_X3_18 C hk0 dX3_age_18 ?_
      refine x_iload_n C0 dX3_age_21 rfl ?_
      refine x_iald C (k := (k0 + 3)) (z := 40) (sh_X3_old hk0) dX3_age_22 h (fun h => ?_)
      refine x_iconst C0 (v := 1) dX3_age_23 (by decide) ?_
      refine x_iadd C0 dX3_age_24 ?_
      refine x_mmin C0 umX3_55 dX3_age_25 (Nat.le_of_ble_eq_true rfl) (Nat.le_of_ble_eq_true rfl) ?_
      refine x_iast C (k := (k0 + 3)) (z := 40) (sh_X3_old hk0) dX3_age_28 h (fun σ1 h => ?_)
      refine x_iinc C0 (j := 1) (v := 1) (L' := fun x2 => [(1, .int x2), (0, .ref (π k0))]) dX3_age_29 rfl (by decide) (by decide) (fun _ => rfl) h (fun x2 h => ?_)
      refine x_goto C0 (tgt := 2) dX3_age_32 (by decide) ?_
      exact x_pick [1, 0] rfl (ih _ _ h)
set_option maxRecDepth 20000 in
theorem k_sp_age {l : Launch} {D : va_G} {cA : Nat → ClassId} {π : Nat → Nat} (N : Nat) (k0 : Nat) (hk0 : shC[k0]? = some shX3) {σ : St} {σo : St} (h : sp_age N k0 σ = some σo) : Kt l D cA π shC yX3_age cX3_age 2 none 1 80 [.ref (π k0)] σ none σo := by
  refine Kt.of (by decide) (Nat.le_of_ble_eq_true rfl) (L := [(0, .ref (π k0))]) rfl (fun Γ C => ?_)
  have C0 := C.1
  unfold sp_age at h
  refine x_iconst C0 (v := 0) dX3_age_0 (by decide) ?_
  refine x_istore_n C0 (L' := [(1, .int 0), (0, .ref (π k0))]) dX3_age_1 (by decide) rfl ?_
  obtain ⟨σ3, hL, h⟩ := bd1_some h
  refine x_pick [1, 0] rfl (w_sp_age_L2 C N k0 hk0 _ (fun b0 e => ?_) N 0 σ hL)
  cases e
  refine x_aload_n C0 dX3_age_35 rfl ?_
  refine x_dup C0 rfl dX3_age_36 ?_
  refine gt_X3_29 C hk0 dX3_age_37 ?_
  refine x_iconst C0 (v := 1) dX3_age_40 (by decide) ?_
  refine x_iadd C0 dX3_age_41 ?_
  refine pt_X3_29 C hk0 dX3_age_42 h (fun σ4 h => ?_)
  exact x_vret C dX3_age_45 h
def sp_strength (N : Nat) (k0 : Nat) (σ : St) : Option (Int32 × St) :=
  bd2 (sp_leastAfter N k0 0 σ) fun v2 σ1 =>
  some ((mn 9 (2 * v2)), σ1)
set_option maxRecDepth 20000 in
theorem k_sp_strength {l : Launch} {D : va_G} {cA : Nat → ClassId} {π : Nat → Nat} (N : Nat) (k0 : Nat) (hk0 : shC[k0]? = some shX3) {σ : St} {vo : Int32} {σo : St} (h : sp_strength N k0 σ = some (vo, σo)) : Kt l D cA π shC yX3_strength cX3_strength 1 (some .int) 3 126 [.ref (π k0)] σ (some (.int vo)) σo := by
  refine Kt.of (by decide) (Nat.le_of_ble_eq_true rfl) (L := [(0, .ref (π k0))]) rfl (fun Γ C => ?_)
  have C0 := C.1
  unfold sp_strength at h
  refine x_bipush C0 (v := 9) dX3_strength_0 (by decide) ?_
  refine x_iconst C0 (v := 2) dX3_strength_2 (by decide) ?_
  refine x_aload_n C0 dX3_strength_3 rfl ?_
  refine x_iconst C0 (v := 0) dX3_strength_4 (by decide) ?_
  obtain ⟨v2, σ1, hc, h⟩ := bd2_some h
  refine x_callVi C (k_sp_leastAfter N k0 0 hk0 hc) umX3_72 ui_X3_leastAfter us_X3_leastAfter un_X3 uc_X3_leastAfter hv_X3_leastAfter rfl (by decide) hk0 rfl dX3_strength_5 (rest := [.int 2, .int 9]) rfl (Nat.le_of_ble_eq_true rfl) ?_
  refine x_imul C0 dX3_strength_8 ?_
  refine x_mmin C0 umX3_55 dX3_strength_9 (Nat.le_of_ble_eq_true rfl) (Nat.le_of_ble_eq_true rfl) ?_
  exact x_iret C dX3_strength_12 h
def wb_year (N : Nat) (σ : St) : Option (Int32 × St) :=
  bd2 (wb_span N  σ) fun r2 σ1 => ck (isSp r2) (
  if (σ1.1 r2 5) < 200 then (
    bd2 (ps_step N 3 σ1) fun r4 σ3 => ck (isSp r4) (
    bd1 (sp_age N r4 σ3) fun σ5 =>
    bd2 (sp_strength N r4 σ5) fun v7 σ6 =>
    some (v7, σ6)))
  else (
    some ((-2), σ1)))
set_option maxRecDepth 20000 in
theorem k_wb_year {l : Launch} {D : va_G} {cA : Nat → ClassId} {π : Nat → Nat} (N : Nat)  {σ : St} {vo : Int32} {σo : St} (h : wb_year N σ = some (vo, σo)) : Kt l D cA π shC yX6_year cX6_year 2 (some .int) 4 146 [.ref (π 0)] σ (some (.int vo)) σo := by
  refine Kt.of (by decide) (Nat.le_of_ble_eq_true rfl) (L := [(0, .ref (π 0))]) rfl (fun Γ C => ?_)
  have C0 := C.1
  unfold wb_year at h
  refine x_aload_n C0 dX6_year_0 rfl ?_
  obtain ⟨r2, σ1, hc, h⟩ := bd2_some h
  refine x_callVr C (k_wb_span N  hc) umX6_90 ui_X6_span us_X6_span un_X6 uc_X6_span hv_X6_span rfl (by decide) (fks := [4, 6, 44, 121, 122, 125, 2, 2, 1]) rfl rfl dX6_year_1 (rest := []) rfl (Nat.le_of_ble_eq_true rfl) ?_
  refine x_chk h (fun q h => ?_)
  have hr2 := isSp_sh q
  refine gt_X6_138 C hr2 dX6_year_4 ?_
  refine x_sipush C0 (v := 200) dX6_year_7 (by decide) ?_
  refine x_icmp_lt C0 (tgt := 16) dX6_year_10 (by decide) h (fun h => ?_) (fun h => ?_)
  · refine x_aload_n C0 dX6_year_16 rfl ?_
    refine gt_X6_19 C dX6_year_17 ?_
    obtain ⟨r4, σ3, hc, h⟩ := bd2_some h
    refine x_callVr C (k_ps_step N 3 rfl hc) umX6_114 ui_X1_step us_X1_step un_X1 uc_X1_step hv_X1_step rfl (by decide) rfl rfl dX6_year_20 (rest := []) rfl (Nat.le_of_ble_eq_true rfl) ?_
    refine x_chk h (fun q h => ?_)
    have hr4 := isSp_sh q
    refine x_astore_n C0 (L' := [(1, .ref (π r4)), (0, .ref (π 0))]) dX6_year_23 (by decide) rfl ?_
    refine x_aload_n C0 dX6_year_24 rfl ?_
    obtain ⟨σ5, hc, h⟩ := bd1_some h
    refine x_callVv C (k_sp_age N r4 hr4 hc) umX6_141 ui_X3_age us_X3_age un_X3 uc_X3_age hv_X3_age rfl (by decide) hr4 rfl dX6_year_25 (rest := []) rfl (Nat.le_of_ble_eq_true rfl) ?_
    refine x_aload_n C0 dX6_year_28 rfl ?_
    obtain ⟨v7, σ6, hc, h⟩ := bd2_some h
    refine x_callVi C (k_sp_strength N r4 hr4 hc) umX6_144 ui_X3_strength us_X3_strength un_X3 uc_X3_strength hv_X3_strength rfl (by decide) hr4 rfl dX6_year_29 (rest := []) rfl (Nat.le_of_ble_eq_true rfl) ?_
    exact x_iret C dX6_year_32 h
  · refine x_bipush C0 (v := (-2)) dX6_year_13 (by decide) ?_
    exact x_iret C dX6_year_15 h
def ps_stepBack_J19 (k0 : Nat) (t0_19 : Int32) (σ19 : St) : Option (St) :=
  lt (put σ19 k0 1 t0_19) fun σ1 =>
  lt (put σ1 k0 2 ((σ1.1 k0 2) - 1)) fun σ2 =>
  some σ2
def ps_stepBack (N : Nat) (k0 : Nat) (σ : St) : Option (St) :=
  if (σ.1 k0 1) = 0 then (
    ps_stepBack_J19 k0 8 σ)
  else (
    ps_stepBack_J19 k0 ((σ.1 k0 1) - 1) σ)
set_option maxRecDepth 20000 in
theorem w_ps_stepBack_J19 {l : Launch} {D : va_G} {cA : Nat → ClassId} {π : Nat → Nat} {Γ : Gx St} {σo : St} (C : Cm Γ cX1_stepBack RX1 cA 0 0 1 l D π shC none (none, σo)) (k0 : Nat) (t0_19 : Int32) (σ19 : St) (hk0 : shC[k0]? = some shX1) (h : ps_stepBack_J19 k0 t0_19 σ19 = some σo) : Wx Γ σ19 19 [(0, .ref (π k0))] [.int t0_19, .ref (π k0)] := by
  have C0 := C.1
  unfold ps_stepBack_J19 at h
  refine pt_X1_30 C hk0 dX1_stepBack_19 h (fun σ1 h => ?_)
  refine x_aload_n C0 dX1_stepBack_22 rfl ?_
  refine x_dup C0 rfl dX1_stepBack_23 ?_
  refine gt_X1_18 C hk0 dX1_stepBack_24 ?_
  refine x_iconst C0 (v := 1) dX1_stepBack_27 (by decide) ?_
  refine x_isub C0 dX1_stepBack_28 ?_
  refine pt_X1_18 C hk0 dX1_stepBack_29 h (fun σ2 h => ?_)
  exact x_vret C dX1_stepBack_32 h
set_option maxRecDepth 20000 in
theorem k_ps_stepBack {l : Launch} {D : va_G} {cA : Nat → ClassId} {π : Nat → Nat} (N : Nat) (k0 : Nat) (hk0 : shC[k0]? = some shX1) {σ : St} {σo : St} (h : ps_stepBack N k0 σ = some σo) : Kt l D cA π shC yX1_stepBack cX1_stepBack 1 none 0 0 [.ref (π k0)] σ none σo := by
  refine Kt.of (by decide) (Nat.le_of_ble_eq_true rfl) (L := [(0, .ref (π k0))]) rfl (fun Γ C => ?_)
  have C0 := C.1
  unfold ps_stepBack at h
  refine x_aload_n C0 dX1_stepBack_0 rfl ?_
  refine x_aload_n C0 dX1_stepBack_1 rfl ?_
  refine gt_X1_30 C hk0 dX1_stepBack_2 ?_
  refine x_if_ne C0 (tgt := 13) dX1_stepBack_5 (by decide) h (fun h => ?_) (fun h => ?_)
  · refine x_aload_n C0 dX1_stepBack_13 rfl ?_
    refine gt_X1_30 C hk0 dX1_stepBack_14 ?_
    refine x_iconst C0 (v := 1) dX1_stepBack_17 (by decide) ?_
    refine x_isub C0 dX1_stepBack_18 ?_
    exact x_pick [0] rfl (w_ps_stepBack_J19 C k0 ((σ.1 k0 1) - 1) σ hk0 h)
  · refine x_bipush C0 (v := 8) dX1_stepBack_8 (by decide) ?_
    refine x_goto C0 (tgt := 19) dX1_stepBack_10 (by decide) ?_
    exact x_pick [0] rfl (w_ps_stepBack_J19 C k0 8 σ hk0 h)
def wb_undo (N : Nat) (σ : St) : Option (Int32 × St) :=
  if (σ.1 3 2) = 0 then (
    some ((-2), σ))
  else (
    bd1 (ps_stepBack N 3 σ) fun σ1 =>
    some ((σ1.1 3 2), σ1))
set_option maxRecDepth 20000 in
theorem k_wb_undo {l : Launch} {D : va_G} {cA : Nat → ClassId} {π : Nat → Nat} (N : Nat)  {σ : St} {vo : Int32} {σo : St} (h : wb_undo N σ = some (vo, σo)) : Kt l D cA π shC yX6_undo cX6_undo 1 (some .int) 1 20 [.ref (π 0)] σ (some (.int vo)) σo := by
  refine Kt.of (by decide) (Nat.le_of_ble_eq_true rfl) (L := [(0, .ref (π 0))]) rfl (fun Γ C => ?_)
  have C0 := C.1
  unfold wb_undo at h
  refine x_aload_n C0 dX6_undo_0 rfl ?_
  refine gt_X6_19 C dX6_undo_1 ?_
  refine gt_X6_147 C rfl dX6_undo_4 ?_
  refine x_if_ne C0 (tgt := 13) dX6_undo_7 (by decide) h (fun h => ?_) (fun h => ?_)
  · refine x_aload_n C0 dX6_undo_13 rfl ?_
    refine gt_X6_19 C dX6_undo_14 ?_
    obtain ⟨σ1, hc, h⟩ := bd1_some h
    refine x_callVv C (k_ps_stepBack N 3 rfl hc) umX6_150 ui_X1_stepBack us_X1_stepBack un_X1 uc_X1_stepBack hv_X1_stepBack rfl (by decide) rfl rfl dX6_undo_17 (rest := []) rfl (Nat.le_of_ble_eq_true rfl) ?_
    refine x_aload_n C0 dX6_undo_20 rfl ?_
    refine gt_X6_19 C dX6_undo_21 ?_
    refine gt_X6_147 C rfl dX6_undo_24 ?_
    exact x_iret C dX6_undo_27 h
  · refine x_bipush C0 (v := (-2)) dX6_undo_10 (by decide) ?_
    exact x_iret C dX6_undo_12 h
def sp_holes_L4 (N : Nat) (k0 : Nat) : Nat → Int32 → Int32 → St → Option (Int32 × St)
  | 0, _, _, _ => none
  | n + 1, x1_4, x2_4, σ4 =>
    if (σ4.1 k0 3) ≤ x2_4 then (
      some (x1_4, σ4))
    else (
      bd2 (sp_bears N k0 x2_4 σ4) fun v2 σ1 =>
      if v2 = 0 then (
        lt (x1_4 + 1) fun x4 =>
        lt (x2_4 + 1) fun x5 =>
        (sp_holes_L4 N k0 n) x4 x5 σ1)
      else (
        lt (x2_4 + 1) fun x3 =>
        (sp_holes_L4 N k0 n) x1_4 x3 σ1))
def sp_holes (N : Nat) (k0 : Nat) (σ : St) : Option (Int32 × St) :=
  bd2 (sp_holes_L4 N k0 N 0 0 σ) fun x6 σ7 =>
  some (x6, σ7)
set_option maxRecDepth 20000 in
theorem w_sp_holes_L4 {l : Launch} {D : va_G} {cA : Nat → ClassId} {π : Nat → Nat} {Γ : Gx St} {vo : Int32} {σo : St} (C : Cm Γ cX3_holes RX3 cA 3 124 3 l D π shC (some .int) (some (.int vo), σo)) (N : Nat) (k0 : Nat) (hk0 : shC[k0]? = some shX3) (yo : Int32 × St) (kk4 : ∀ e1_4 σe, (e1_4, σe) = yo → Wx Γ σe 29 [(1, .int e1_4)] []) : ∀ (n : Nat) (x1_4 : Int32) (x2_4 : Int32) (σ4 : St), sp_holes_L4 N k0 n x1_4 x2_4 σ4 = some yo → Wx Γ σ4 4 [(0, .ref (π k0)), (1, .int x1_4), (2, .int x2_4)] [] := by
  have C0 := C.1
  intro n
  induction n with
  | zero => intro x1_4 x2_4 σ4 h; cases h
  | succ n ih =>
    intro x1_4 x2_4 σ4 h
    rw [sp_holes_L4] at h
    refine x_iload_n C0 dX3_holes_4 rfl ?_
    refine x_aload_n C0 dX3_holes_5 rfl ?_
    refine gt_X3_21 C hk0 dX3_holes_6 ?_
    refine x_icmp_ge C0 (tgt := 29) dX3_holes_9 (by decide) h (fun h => ?_) (fun h => ?_)
    · exact x_pick [1] rfl (kk4 _ _ (Option.some.inj h))
    · refine x_aload_n C0 dX3_holes_12 rfl ?_
      refine x_iload_n C0 dX3_holes_13 rfl ?_
      obtain ⟨v2, σ1, hc, h⟩ := bd2_some h
      refine x_callVi C (k_sp_bears N k0 x2_4 hk0 hc) umX3_75 ui_X3_bears us_X3_bears un_X3 uc_X3_bears hv_X3_bears rfl (by decide) hk0 rfl dX3_holes_14 (rest := []) rfl (Nat.le_of_ble_eq_true rfl) ?_
      refine x_if_ne C0 (tgt := 23) dX3_holes_17 (by decide) h (fun h => ?_) (fun h => ?_)
      · refine x_iinc C0 (j := 2) (v := 1) (L' := fun x3 => [(2, .int x3), (0, .ref (π k0)), (1, .int x1_4)]) dX3_holes_23 rfl (by decide) (by decide) (fun _ => rfl) h (fun x3 h => ?_)
        refine x_goto C0 (tgt := 4) dX3_holes_26 (by decide) ?_
        exact x_pick [1, 2, 0] rfl (ih _ _ _ h)
      · refine x_iinc C0 (j := 1) (v := 1) (L' := fun x4 => [(1, .int x4), (0, .ref (π k0)), (2, .int x2_4)]) dX3_holes_20 rfl (by decide) (by decide) (fun _ => rfl) h (fun x4 h => ?_)
        refine x_iinc C0 (j := 2) (v := 1) (L' := fun x5 => [(2, .int x5), (1, .int x4), (0, .ref (π k0))]) dX3_holes_23 rfl (by decide) (by decide) (fun _ => rfl) h (fun x5 h => ?_)
        refine x_goto C0 (tgt := 4) dX3_holes_26 (by decide) ?_
        exact x_pick [2, 1, 0] rfl (ih _ _ _ h)
set_option maxRecDepth 20000 in
theorem k_sp_holes {l : Launch} {D : va_G} {cA : Nat → ClassId} {π : Nat → Nat} (N : Nat) (k0 : Nat) (hk0 : shC[k0]? = some shX3) {σ : St} {vo : Int32} {σo : St} (h : sp_holes N k0 σ = some (vo, σo)) : Kt l D cA π shC yX3_holes cX3_holes 3 (some .int) 3 124 [.ref (π k0)] σ (some (.int vo)) σo := by
  refine Kt.of (by decide) (Nat.le_of_ble_eq_true rfl) (L := [(0, .ref (π k0))]) rfl (fun Γ C => ?_)
  have C0 := C.1
  unfold sp_holes at h
  refine x_iconst C0 (v := 0) dX3_holes_0 (by decide) ?_
  refine x_istore_n C0 (L' := [(1, .int 0), (0, .ref (π k0))]) dX3_holes_1 (by decide) rfl ?_
  refine x_iconst C0 (v := 0) dX3_holes_2 (by decide) ?_
  refine x_istore_n C0 (L' := [(2, .int 0), (1, .int 0), (0, .ref (π k0))]) dX3_holes_3 (by decide) rfl ?_
  obtain ⟨x6, σ7, hL, h⟩ := bd2_some h
  refine x_pick [2, 1, 0] rfl (w_sp_holes_L4 C N k0 hk0 _ (fun b0 b1 e => ?_) N 0 0 σ hL)
  cases e
  refine x_iload_n C0 dX3_holes_29 rfl ?_
  exact x_iret C dX3_holes_30 h
def sp_middle (N : Nat) (k0 : Nat) (σ : St) : Option (Int32 × St) :=
  if (σ.1 k0 3) = 0 then (
    some ((-9), σ))
  else (
    ck (inb (((σ.1 k0 3) - 1) / 2) 40) (
    some ((σ.1 (k0 + 1) (ix (((σ.1 k0 3) - 1) / 2))), σ)))
set_option maxRecDepth 20000 in
theorem k_sp_middle {l : Launch} {D : va_G} {cA : Nat → ClassId} {π : Nat → Nat} (N : Nat) (k0 : Nat) (hk0 : shC[k0]? = some shX3) {σ : St} {vo : Int32} {σo : St} (h : sp_middle N k0 σ = some (vo, σo)) : Kt l D cA π shC yX3_middle cX3_middle 1 (some .int) 0 0 [.ref (π k0)] σ (some (.int vo)) σo := by
  refine Kt.of (by decide) (Nat.le_of_ble_eq_true rfl) (L := [(0, .ref (π k0))]) rfl (fun Γ C => ?_)
  have C0 := C.1
  unfold sp_middle at h
  refine x_aload_n C0 dX3_middle_0 rfl ?_
  refine gt_X3_21 C hk0 dX3_middle_1 ?_
  refine x_if_ne C0 (tgt := 12) dX3_middle_4 (by decide) h (fun h => ?_) (fun h => ?_)
  · refine x_aload_n C0 dX3_middle_12 rfl ?_
    refine gt_X3_9 C hk0 dX3_middle_13 ?_
    refine x_aload_n C0 dX3_middle_16 rfl ?_
    refine gt_X3_21 C hk0 dX3_middle_17 ?_
    refine x_iconst C0 (v := 1) dX3_middle_20 (by decide) ?_
    refine x_isub C0 dX3_middle_21 ?_
    refine x_iconst C0 (v := 2) dX3_middle_22 (by decide) ?_
    refine x_idiv C0 (by decide) dX3_middle_23 ?_
    refine x_iald C (k := (k0 + 1)) (z := 40) (sh_X3_whose hk0) dX3_middle_24 h (fun h => ?_)
    exact x_iret C dX3_middle_25 h
  · refine x_bipush C0 (v := (-9)) dX3_middle_7 (by decide) ?_
    refine x_goto C0 (tgt := 25) dX3_middle_9 (by decide) ?_
    exact x_iret C dX3_middle_25 h
def sp_thinnest_L8 (N : Nat) (k0 : Nat) : Nat → Int32 → Int32 → Int32 → St → Option (Int32 × St)
  | 0, _, _, _, _ => none
  | n + 1, x1_8, x2_8, x3_8, σ8 =>
    if (σ8.1 k0 3) ≤ x3_8 then (
      some (x1_8, σ8))
    else (
      bd2 (sp_bears N k0 x3_8 σ8) fun v2 σ1 =>
      if x2_8 ≤ v2 then (
        lt (x3_8 + 1) fun x3 =>
        (sp_thinnest_L8 N k0 n) x1_8 x2_8 x3 σ1)
      else (
        bd2 (sp_bears N k0 x3_8 σ1) fun v5 σ4 =>
        lt (x3_8 + 1) fun x6 =>
        (sp_thinnest_L8 N k0 n) x3_8 v5 x6 σ4))
def sp_thinnest (N : Nat) (k0 : Nat) (σ : St) : Option (Int32 × St) :=
  bd2 (sp_thinnest_L8 N k0 N (-9) 10 0 σ) fun x7 σ8 =>
  some (x7, σ8)
set_option maxRecDepth 20000 in
theorem w_sp_thinnest_L8 {l : Launch} {D : va_G} {cA : Nat → ClassId} {π : Nat → Nat} {Γ : Gx St} {vo : Int32} {σo : St} (C : Cm Γ cX3_thinnest RX3 cA 3 124 4 l D π shC (some .int) (some (.int vo), σo)) (N : Nat) (k0 : Nat) (hk0 : shC[k0]? = some shX3) (yo : Int32 × St) (kk8 : ∀ e1_8 σe, (e1_8, σe) = yo → Wx Γ σe 39 [(1, .int e1_8)] []) : ∀ (n : Nat) (x1_8 : Int32) (x2_8 : Int32) (x3_8 : Int32) (σ8 : St), sp_thinnest_L8 N k0 n x1_8 x2_8 x3_8 σ8 = some yo → Wx Γ σ8 8 [(0, .ref (π k0)), (1, .int x1_8), (2, .int x2_8), (3, .int x3_8)] [] := by
  have C0 := C.1
  intro n
  induction n with
  | zero => intro x1_8 x2_8 x3_8 σ8 h; cases h
  | succ n ih =>
    intro x1_8 x2_8 x3_8 σ8 h
    rw [sp_thinnest_L8] at h
    refine x_iload_n C0 dX3_thinnest_8 rfl ?_
    refine x_aload_n C0 dX3_thinnest_9 rfl ?_
    refine gt_X3_21 C hk0 dX3_thinnest_10 ?_
    refine x_icmp_ge C0 (tgt := 39) dX3_thinnest_13 (by decide) h (fun h => ?_) (fun h => ?_)
    · exact x_pick [1] rfl (kk8 _ _ (Option.some.inj h))
    · refine x_aload_n C0 dX3_thinnest_16 rfl ?_
      refine x_iload_n C0 dX3_thinnest_17 rfl ?_
      obtain ⟨v2, σ1, hc, h⟩ := bd2_some h
      refine x_callVi C (k_sp_bears N k0 x3_8 hk0 hc) umX3_75 ui_X3_bears us_X3_bears un_X3 uc_X3_bears hv_X3_bears rfl (by decide) hk0 rfl dX3_thinnest_18 (rest := []) rfl (Nat.le_of_ble_eq_true rfl) ?_
      refine x_iload_n C0 dX3_thinnest_21 rfl ?_
      refine x_icmp_ge C0 (tgt := 33) dX3_thinnest_22 (by decide) h (fun h => ?_) (fun h => ?_)
      · refine x_iinc C0 (j := 3) (v := 1) (L' := fun x3 => [(3, .int x3), (0, .ref (π k0)), (1, .int x1_8), (2, .int x2_8)]) dX3_thinnest_33 rfl (by decide) (by decide) (fun _ => rfl) h (fun x3 h => ?_)
        refine x_goto C0 (tgt := 8) dX3_thinnest_36 (by decide) ?_
        exact x_pick [1, 2, 3, 0] rfl (ih _ _ _ _ h)
      · refine x_aload_n C0 dX3_thinnest_25 rfl ?_
        refine x_iload_n C0 dX3_thinnest_26 rfl ?_
        obtain ⟨v5, σ4, hc, h⟩ := bd2_some h
        refine x_callVi C (k_sp_bears N k0 x3_8 hk0 hc) umX3_75 ui_X3_bears us_X3_bears un_X3 uc_X3_bears hv_X3_bears rfl (by decide) hk0 rfl dX3_thinnest_27 (rest := []) rfl (Nat.le_of_ble_eq_true rfl) ?_
        refine x_istore_n C0 (L' := [(2, .int v5), (0, .ref (π k0)), (1, .int x1_8), (3, .int x3_8)]) dX3_thinnest_30 (by decide) rfl ?_
        refine x_iload_n C0 dX3_thinnest_31 rfl ?_
        refine x_istore_n C0 (L' := [(1, .int x3_8), (2, .int v5), (0, .ref (π k0)), (3, .int x3_8)]) dX3_thinnest_32 (by decide) rfl ?_
        refine x_iinc C0 (j := 3) (v := 1) (L' := fun x6 => [(3, .int x6), (1, .int x3_8), (2, .int v5), (0, .ref (π k0))]) dX3_thinnest_33 rfl (by decide) (by decide) (fun _ => rfl) h (fun x6 h => ?_)
        refine x_goto C0 (tgt := 8) dX3_thinnest_36 (by decide) ?_
        exact x_pick [3, 1, 2, 0] rfl (ih _ _ _ _ h)
set_option maxRecDepth 20000 in
theorem k_sp_thinnest {l : Launch} {D : va_G} {cA : Nat → ClassId} {π : Nat → Nat} (N : Nat) (k0 : Nat) (hk0 : shC[k0]? = some shX3) {σ : St} {vo : Int32} {σo : St} (h : sp_thinnest N k0 σ = some (vo, σo)) : Kt l D cA π shC yX3_thinnest cX3_thinnest 4 (some .int) 3 124 [.ref (π k0)] σ (some (.int vo)) σo := by
  refine Kt.of (by decide) (Nat.le_of_ble_eq_true rfl) (L := [(0, .ref (π k0))]) rfl (fun Γ C => ?_)
  have C0 := C.1
  unfold sp_thinnest at h
  refine x_bipush C0 (v := (-9)) dX3_thinnest_0 (by decide) ?_
  refine x_istore_n C0 (L' := [(1, .int (-9)), (0, .ref (π k0))]) dX3_thinnest_2 (by decide) rfl ?_
  refine x_bipush C0 (v := 10) dX3_thinnest_3 (by decide) ?_
  refine x_istore_n C0 (L' := [(2, .int 10), (1, .int (-9)), (0, .ref (π k0))]) dX3_thinnest_5 (by decide) rfl ?_
  refine x_iconst C0 (v := 0) dX3_thinnest_6 (by decide) ?_
  refine x_istore_n C0 (L' := [(3, .int 0), (2, .int 10), (1, .int (-9)), (0, .ref (π k0))]) dX3_thinnest_7 (by decide) rfl ?_
  obtain ⟨x7, σ8, hL, h⟩ := bd2_some h
  refine x_pick [3, 2, 1, 0] rfl (w_sp_thinnest_L8 C N k0 hk0 _ (fun b0 b1 e => ?_) N (-9) 10 0 σ hL)
  cases e
  refine x_iload_n C0 dX3_thinnest_39 rfl ?_
  exact x_iret C dX3_thinnest_40 h
def wb_mayCross_L4 (N : Nat) : Nat → Int32 → Int32 → St → Option (Int32 × St)
  | 0, _, _, _ => none
  | n + 1, x1_4, x2_4, σ4 =>
    lt (ix (σ4.1 0 6)) fun r1 => ck (isTd r1) (
    if (σ4.1 r1 3) ≤ x2_4 then (
      some (x1_4, σ4))
    else (
      bd2 (wb_holdsNow N x2_4 σ4) fun v3 σ2 =>
      if v3 = 0 then (
        lt (x2_4 + 1) fun x4 =>
        (wb_mayCross_L4 N n) x1_4 x4 σ2)
      else (
        lt (x1_4 ||| (1 <<< (x2_4 &&& 31))) fun x5 =>
        lt (x2_4 + 1) fun x6 =>
        (wb_mayCross_L4 N n) x5 x6 σ2)))
def wb_mayCross (N : Nat) (σ : St) : Option (Int32 × St) :=
  bd2 (wb_mayCross_L4 N N 0 0 σ) fun x7 σ8 =>
  some (x7, σ8)
set_option maxRecDepth 20000 in
theorem w_wb_mayCross_L4 {l : Launch} {D : va_G} {cA : Nat → ClassId} {π : Nat → Nat} {Γ : Gx St} {vo : Int32} {σo : St} (C : Cm Γ cX6_mayCross RX6 cA 4 148 3 l D π shC (some .int) (some (.int vo), σo)) (N : Nat)  (yo : Int32 × St) (kk4 : ∀ e1_4 σe, (e1_4, σe) = yo → Wx Γ σe 35 [(1, .int e1_4)] []) : ∀ (n : Nat) (x1_4 : Int32) (x2_4 : Int32) (σ4 : St), wb_mayCross_L4 N n x1_4 x2_4 σ4 = some yo → Wx Γ σ4 4 [(0, .ref (π 0)), (1, .int x1_4), (2, .int x2_4)] [] := by
  have C0 := C.1
  intro n
  induction n with
  | zero => intro x1_4 x2_4 σ4 h; cases h
  | succ n ih =>
    intro x1_4 x2_4 σ4 h
    rw [wb_mayCross_L4] at h
    refine x_iload_n C0 dX6_mayCross_4 rfl ?_
    refine x_aload_n C0 dX6_mayCross_5 rfl ?_
    refine gt_X6_48 C dX6_mayCross_6 ?_
    refine x_nmr h (fun r1 h => ?_)
    refine x_chk h (fun q h => ?_)
    have hr1 := isTd_sh q
    refine gt_X6_175 C hr1 dX6_mayCross_9 ?_
    refine x_icmp_ge C0 (tgt := 35) dX6_mayCross_12 (by decide) h (fun h => ?_) (fun h => ?_)
    · exact x_pick [1] rfl (kk4 _ _ (Option.some.inj h))
    · refine x_aload_n C0 dX6_mayCross_15 rfl ?_
      refine x_iload_n C0 dX6_mayCross_16 rfl ?_
      obtain ⟨v3, σ2, hc, h⟩ := bd2_some h
      refine x_callVi C (k_wb_holdsNow N x2_4  hc) umX6_111 ui_X6_holdsNow us_X6_holdsNow un_X6 uc_X6_holdsNow hv_X6_holdsNow rfl (by decide) (fks := [4, 6, 44, 121, 122, 125, 2, 2, 1]) rfl rfl dX6_mayCross_17 (rest := []) rfl (Nat.le_of_ble_eq_true rfl) ?_
      refine x_if_eq C0 (tgt := 29) dX6_mayCross_20 (by decide) h (fun h => ?_) (fun h => ?_)
      · refine x_iinc C0 (j := 2) (v := 1) (L' := fun x4 => [(2, .int x4), (0, .ref (π 0)), (1, .int x1_4)]) dX6_mayCross_29 rfl (by decide) (by decide) (fun _ => rfl) h (fun x4 h => ?_)
        refine x_goto C0 (tgt := 4) dX6_mayCross_32 (by decide) ?_
        exact x_pick [1, 2, 0] rfl (ih _ _ _ h)
      · refine x_iload_n C0 dX6_mayCross_23 rfl ?_
        refine x_iconst C0 (v := 1) dX6_mayCross_24 (by decide) ?_
        refine x_iload_n C0 dX6_mayCross_25 rfl ?_
        refine x_ishl C0 dX6_mayCross_26 ?_
        refine x_ior C0 dX6_mayCross_27 ?_
        refine x_nm h (fun x5 h => ?_)
        refine x_istore_n C0 (L' := [(1, .int x5), (0, .ref (π 0)), (2, .int x2_4)]) dX6_mayCross_28 (by decide) rfl ?_
        refine x_iinc C0 (j := 2) (v := 1) (L' := fun x6 => [(2, .int x6), (1, .int x5), (0, .ref (π 0))]) dX6_mayCross_29 rfl (by decide) (by decide) (fun _ => rfl) h (fun x6 h => ?_)
        refine x_goto C0 (tgt := 4) dX6_mayCross_32 (by decide) ?_
        exact x_pick [2, 1, 0] rfl (ih _ _ _ h)
set_option maxRecDepth 20000 in
theorem k_wb_mayCross {l : Launch} {D : va_G} {cA : Nat → ClassId} {π : Nat → Nat} (N : Nat)  {σ : St} {vo : Int32} {σo : St} (h : wb_mayCross N σ = some (vo, σo)) : Kt l D cA π shC yX6_mayCross cX6_mayCross 3 (some .int) 4 148 [.ref (π 0)] σ (some (.int vo)) σo := by
  refine Kt.of (by decide) (Nat.le_of_ble_eq_true rfl) (L := [(0, .ref (π 0))]) rfl (fun Γ C => ?_)
  have C0 := C.1
  unfold wb_mayCross at h
  refine x_iconst C0 (v := 0) dX6_mayCross_0 (by decide) ?_
  refine x_istore_n C0 (L' := [(1, .int 0), (0, .ref (π 0))]) dX6_mayCross_1 (by decide) rfl ?_
  refine x_iconst C0 (v := 0) dX6_mayCross_2 (by decide) ?_
  refine x_istore_n C0 (L' := [(2, .int 0), (1, .int 0), (0, .ref (π 0))]) dX6_mayCross_3 (by decide) rfl ?_
  obtain ⟨x7, σ8, hL, h⟩ := bd2_some h
  refine x_pick [2, 1, 0] rfl (w_wb_mayCross_L4 C N _ (fun b0 b1 e => ?_) N 0 0 σ hL)
  cases e
  refine x_iload_n C0 dX6_mayCross_35 rfl ?_
  exact x_iret C dX6_mayCross_36 h
def wb_now (N : Nat) (a1 : Int32) (σ : St) : Option (Int32 × St) :=
  bd2 (wb_span N  σ) fun r2 σ1 => ck (isSp r2) (
  if a1 = 0 then (
    some ((σ1.1 r2 5), σ1))
  else (
    if a1 = 1 then (
      some ((σ1.1 r2 3), σ1))
    else (
      if a1 = 2 then (
        bd2 (sp_length N r2 σ1) fun v4 σ3 =>
        some (v4, σ3))
      else (
        if a1 = 3 then (
          if (σ1.1 r2 4) = 0 then (
            some (0, σ1))
          else (
            some (1, σ1)))
        else (
          if a1 = 4 then (
            bd2 (sp_strength N r2 σ1) fun v6 σ5 =>
            some (v6, σ5))
          else (
            if a1 = 5 then (
              bd2 (wb_mayCross N  σ1) fun v8 σ7 =>
              some (v8, σ7))
            else (
              if a1 = 6 then (
                bd2 (sp_thinnest N r2 σ1) fun v10 σ9 =>
                some (v10, σ9))
              else (
                if a1 = 7 then (
                  bd2 (sp_holes N r2 σ1) fun v12 σ11 =>
                  some (v12, σ11))
                else (
                  if a1 = 8 then (
                    bd2 (sp_middle N r2 σ1) fun v14 σ13 =>
                    some (v14, σ13))
                  else (
                    some ((-1), σ1)))))))))))
set_option maxRecDepth 20000 in
theorem k_wb_now {l : Launch} {D : va_G} {cA : Nat → ClassId} {π : Nat → Nat} (N : Nat) (a1 : Int32)  {σ : St} {vo : Int32} {σo : St} (h : wb_now N a1 σ = some (vo, σo)) : Kt l D cA π shC yX6_now cX6_now 3 (some .int) 5 170 [.ref (π 0), .int a1] σ (some (.int vo)) σo := by
  refine Kt.of (by decide) (Nat.le_of_ble_eq_true rfl) (L := [(0, .ref (π 0)), (1, .int a1)]) rfl (fun Γ C => ?_)
  have C0 := C.1
  unfold wb_now at h
  refine x_aload_n C0 dX6_now_0 rfl ?_
  obtain ⟨r2, σ1, hc, h⟩ := bd2_some h
  refine x_callVr C (k_wb_span N  hc) umX6_90 ui_X6_span us_X6_span un_X6 uc_X6_span hv_X6_span rfl (by decide) (fks := [4, 6, 44, 121, 122, 125, 2, 2, 1]) rfl rfl dX6_now_1 (rest := []) rfl (Nat.le_of_ble_eq_true rfl) ?_
  refine x_chk h (fun q h => ?_)
  have hr2 := isSp_sh q
  refine x_astore_n C0 (L' := [(2, .ref (π r2)), (0, .ref (π 0)), (1, .int a1)]) dX6_now_4 (by decide) rfl ?_
  refine x_iload_n C0 dX6_now_5 rfl ?_
  refine x_case 0 h (fun q h => ?_) (fun q0 h => ?_)
  · refine x_tab C0 (tgt := 56) dX6_now_6 q (by decide) (by decide) rfl (by decide) ?_
    refine x_aload_n C0 dX6_now_56 rfl ?_
    refine gt_X6_138 C hr2 dX6_now_57 ?_
    exact x_iret C dX6_now_60 h
  · refine x_case 1 h (fun q h => ?_) (fun q1 h => ?_)
    · refine x_tab C0 (tgt := 61) dX6_now_6 q (by decide) (by decide) rfl (by decide) ?_
      refine x_aload_n C0 dX6_now_61 rfl ?_
      refine gt_X6_121 C hr2 dX6_now_62 ?_
      exact x_iret C dX6_now_65 h
    · refine x_case 2 h (fun q h => ?_) (fun q2 h => ?_)
      · refine x_tab C0 (tgt := 66) dX6_now_6 q (by decide) (by decide) rfl (by decide) ?_
        refine x_aload_n C0 dX6_now_66 rfl ?_
        obtain ⟨v4, σ3, hc, h⟩ := bd2_some h
        refine x_callVi C (k_sp_length N r2 hr2 hc) umX6_135 ui_X3_length us_X3_length un_X3 uc_X3_length hv_X3_length rfl (by decide) hr2 rfl dX6_now_67 (rest := []) rfl (Nat.le_of_ble_eq_true rfl) ?_
        exact x_iret C dX6_now_70 h
      · refine x_case 3 h (fun q h => ?_) (fun q3 h => ?_)
        · refine x_tab C0 (tgt := 71) dX6_now_6 q (by decide) (by decide) rfl (by decide) ?_
          refine x_aload_n C0 dX6_now_71 rfl ?_
          refine gt_X6_131 C hr2 dX6_now_72 ?_
          refine x_if_eq C0 (tgt := 82) dX6_now_75 (by decide) h (fun h => ?_) (fun h => ?_)
          · refine x_iconst C0 (v := 0) dX6_now_82 (by decide) ?_
            exact x_iret C dX6_now_83 h
          · refine x_iconst C0 (v := 1) dX6_now_78 (by decide) ?_
            refine x_goto C0 (tgt := 83) dX6_now_79 (by decide) ?_
            exact x_iret C dX6_now_83 h
        · refine x_case 4 h (fun q h => ?_) (fun q4 h => ?_)
          · refine x_tab C0 (tgt := 84) dX6_now_6 q (by decide) (by decide) rfl (by decide) ?_
            refine x_aload_n C0 dX6_now_84 rfl ?_
            obtain ⟨v6, σ5, hc, h⟩ := bd2_some h
            refine x_callVi C (k_sp_strength N r2 hr2 hc) umX6_144 ui_X3_strength us_X3_strength un_X3 uc_X3_strength hv_X3_strength rfl (by decide) hr2 rfl dX6_now_85 (rest := []) rfl (Nat.le_of_ble_eq_true rfl) ?_
            exact x_iret C dX6_now_88 h
          · refine x_case 5 h (fun q h => ?_) (fun q5 h => ?_)
            · refine x_tab C0 (tgt := 89) dX6_now_6 q (by decide) (by decide) rfl (by decide) ?_
              refine x_aload_n C0 dX6_now_89 rfl ?_
              obtain ⟨v8, σ7, hc, h⟩ := bd2_some h
              refine x_callVi C (k_wb_mayCross N  hc) umX6_153 ui_X6_mayCross us_X6_mayCross un_X6 uc_X6_mayCross hv_X6_mayCross rfl (by decide) (fks := [4, 6, 44, 121, 122, 125, 2, 2, 1]) rfl rfl dX6_now_90 (rest := []) rfl (Nat.le_of_ble_eq_true rfl) ?_
              exact x_iret C dX6_now_93 h
            · refine x_case 6 h (fun q h => ?_) (fun q6 h => ?_)
              · refine x_tab C0 (tgt := 94) dX6_now_6 q (by decide) (by decide) rfl (by decide) ?_
                refine x_aload_n C0 dX6_now_94 rfl ?_
                obtain ⟨v10, σ9, hc, h⟩ := bd2_some h
                refine x_callVi C (k_sp_thinnest N r2 hr2 hc) umX6_156 ui_X3_thinnest us_X3_thinnest un_X3 uc_X3_thinnest hv_X3_thinnest rfl (by decide) hr2 rfl dX6_now_95 (rest := []) rfl (Nat.le_of_ble_eq_true rfl) ?_
                exact x_iret C dX6_now_98 h
              · refine x_case 7 h (fun q h => ?_) (fun q7 h => ?_)
                · refine x_tab C0 (tgt := 99) dX6_now_6 q (by decide) (by decide) rfl (by decide) ?_
                  refine x_aload_n C0 dX6_now_99 rfl ?_
                  obtain ⟨v12, σ11, hc, h⟩ := bd2_some h
                  refine x_callVi C (k_sp_holes N r2 hr2 hc) umX6_159 ui_X3_holes us_X3_holes un_X3 uc_X3_holes hv_X3_holes rfl (by decide) hr2 rfl dX6_now_100 (rest := []) rfl (Nat.le_of_ble_eq_true rfl) ?_
                  exact x_iret C dX6_now_103 h
                · refine x_case 8 h (fun q h => ?_) (fun q8 h => ?_)
                  · refine x_tab C0 (tgt := 104) dX6_now_6 q (by decide) (by decide) rfl (by decide) ?_
                    refine x_aload_n C0 dX6_now_104 rfl ?_
                    obtain ⟨v14, σ13, hc, h⟩ := bd2_some h
                    refine x_callVi C (k_sp_middle N r2 hr2 hc) umX6_162 ui_X3_middle us_X3_middle un_X3 uc_X3_middle hv_X3_middle rfl (by decide) hr2 rfl dX6_now_105 (rest := []) rfl (Nat.le_of_ble_eq_true rfl) ?_
                    exact x_iret C dX6_now_108 h
                  · refine x_tabD C0 (tgt := 109) dX6_now_6 (by have g0 := lv_neT q0 (show (0 : Int32).toInt = 0 from rfl); have g1 := lv_neT q1 (show (1 : Int32).toInt = 1 from rfl); have g2 := lv_neT q2 (show (2 : Int32).toInt = 2 from rfl); have g3 := lv_neT q3 (show (3 : Int32).toInt = 3 from rfl); have g4 := lv_neT q4 (show (4 : Int32).toInt = 4 from rfl); have g5 := lv_neT q5 (show (5 : Int32).toInt = 5 from rfl); have g6 := lv_neT q6 (show (6 : Int32).toInt = 6 from rfl); have g7 := lv_neT q7 (show (7 : Int32).toInt = 7 from rfl); have g8 := lv_neT q8 (show (8 : Int32).toInt = 8 from rfl); omega) (by decide) ?_
                    refine x_iconst C0 (v := (-1)) dX6_now_109 (by decide) ?_
                    exact x_iret C dX6_now_110 h
def ah_knit_L2 (N : Nat) (k1 : Nat) (c2_2 : Int32) : Nat → Int32 → St → Option (St)
  | 0, _, _ => none
  | n + 1, x3_2, σ2 =>
    ck (inb c2_2 6) (
    if (σ2.1 (k1 + 1) (ix c2_2)) ≤ x3_2 then (
      some σ2)
    else (
      if 310 ≤ (σ2.1 122 2) then (
        some σ2)
      else (
        ck (inb c2_2 6) (
        ck (inb (σ2.1 122 2) 310) (lt (put σ2 123 (ix (σ2.1 122 2)) (σ2.1 (k1 + 2) (ix c2_2))) fun σ1 =>
        lt (put σ1 122 2 ((σ1.1 122 2) + 1)) fun σ2 =>
        lt (x3_2 + 1) fun x3 =>
        (ah_knit_L2 N k1 c2_2 n) x3 σ2)))))
def ah_knit (N : Nat) (k1 : Nat) (a2 : Int32) (σ : St) : Option (St) :=
  bd1 (ah_knit_L2 N k1 a2 N 0 σ) fun σ4 =>
  some σ4
set_option maxRecDepth 20000 in
theorem w_ah_knit_L2 {l : Launch} {D : va_G} {cA : Nat → ClassId} {π : Nat → Nat} {Γ : Gx St} {σo : St} (C : Cm Γ cX0_knit RX0 cA 0 0 4 l D π shC none (none, σo)) (N : Nat) (k1 : Nat) (c2_2 : Int32) (hk1 : shC[k1]? = some shX5) (yo : St) (kk2 : ∀ σe, σe = yo → Wx Γ σe 55 [] []) : ∀ (n : Nat) (x3_2 : Int32) (σ2 : St), ah_knit_L2 N k1 c2_2 n x3_2 σ2 = some yo → Wx Γ σ2 2 [(0, .ref (π 122)), (1, .ref (π k1)), (2, .int c2_2), (3, .int x3_2)] [] := by
  have C0 := C.1
  intro n
  induction n with
  | zero => intro x3_2 σ2 h; cases h
  | succ n ih =>
    intro x3_2 σ2 h
    rw [ah_knit_L2] at h
    refine x_iload_n C0 dX0_knit_2 rfl ?_
    refine x_aload_n C0 dX0_knit_3 rfl ?_
    refine gt_X0_59 C hk1 dX0_knit_4 ?_
    refine x_iload_n C0 dX0_knit_7 rfl ?_
    refine x_iald C (k := (k1 + 1)) (z := 6) (sh_X5_heavy hk1) dX0_knit_8 h (fun h => ?_)
    refine x_icmp_ge C0 (tgt := 55) dX0_knit_9 (by decide) h (fun h => ?_) (fun h => ?_)
    · exact x_pick [] rfl (kk2 _ (Option.some.inj h))
    · refine x_aload_n C0 dX0_knit_12 rfl ?_
      refine gt_X0_27 C dX0_knit_13 ?_
      refine x_aload_n C0 dX0_knit_16 rfl ?_
      refine gt_X0_9 C dX0_knit_17 ?_
      refine x_alen C (k := 123) (z := 310) (v := 310) rfl (by decide) dX0_knit_20 ?_
      refine x_icmp_ge C0 (tgt := 55) dX0_knit_21 (by decide) h (fun h => ?_) (fun h => ?_)
      · exact x_pick [] rfl (kk2 _ (Option.some.inj h))
      · refine x_aload_n C0 dX0_knit_24 rfl ?_
        refine gt_X0_9 C dX0_knit_25 ?_
        refine x_aload_n C0 dX0_knit_28 rfl ?_
        refine gt_X0_27 C dX0_knit_29 ?_
        refine x_aload_n C0 dX0_knit_32 rfl ?_
        refine gt_X0_62 C hk1 dX0_knit_33 ?_
        refine x_iload_n C0 dX0_knit_36 rfl ?_
        refine x_iald C (k := (k1 + 2)) (z := 6) (sh_X5_thick hk1) dX0_knit_37 h (fun h => ?_)
        refine x_iast C (k := 123) (z := 310) rfl dX0_knit_38 h (fun σ1 h => ?_)
        refine x_aload_n C0 dX0_knit_39 rfl ?_
        refine x_dup C0 rfl dX0_knit_40 ?_
        refine gt_X0_27 C dX0_knit_41 ?_
        refine x_iconst C0 (v := 1) dX0_knit_44 (by decide) ?_
        refine x_iadd C0 dX0_knit_45 ?_
        refine pt_X0_27 C dX0_knit_46 h (fun σ2 h => ?_)
        refine x_iinc C0 (j := 3) (v := 1) (L' := fun x3 => [(3, .int x3), (0, .ref (π 122)), (1, .ref (π k1)), (2, .int c2_2)]) dX0_knit_49 rfl (by decide) (by decide) (fun _ => rfl) h (fun x3 h => ?_)
        refine x_goto C0 (tgt := 2) dX0_knit_52 (by decide) ?_
        exact x_pick [1, 2, 3, 0] rfl (ih _ _ h)
set_option maxRecDepth 20000 in
theorem k_ah_knit {l : Launch} {D : va_G} {cA : Nat → ClassId} {π : Nat → Nat} (N : Nat) (k1 : Nat) (a2 : Int32) (hk1 : shC[k1]? = some shX5) {σ : St} {σo : St} (h : ah_knit N k1 a2 σ = some σo) : Kt l D cA π shC yX0_knit cX0_knit 4 none 0 0 [.ref (π 122), .ref (π k1), .int a2] σ none σo := by
  refine Kt.of (by decide) (Nat.le_of_ble_eq_true rfl) (L := [(0, .ref (π 122)), (1, .ref (π k1)), (2, .int a2)]) rfl (fun Γ C => ?_)
  have C0 := C.1
  unfold ah_knit at h
  refine x_iconst C0 (v := 0) dX0_knit_0 (by decide) ?_
  refine x_istore_n C0 (L' := [(3, .int 0), (0, .ref (π 122)), (1, .ref (π k1)), (2, .int a2)]) dX0_knit_1 (by decide) rfl ?_
  obtain ⟨σ4, hL, h⟩ := bd1_some h
  refine x_pick [1, 2, 3, 0] rfl (w_ah_knit_L2 C N k1 a2 hk1 _ (fun b0 e => ?_) N 0 σ hL)
  cases e
  exact x_vret C dX0_knit_55 h
def ah_first (N : Nat) (σ : St) : Option (Int32 × St) :=
  some ((mx 0 ((σ.1 122 2) - 40)), σ)
set_option maxRecDepth 20000 in
theorem k_ah_first {l : Launch} {D : va_G} {cA : Nat → ClassId} {π : Nat → Nat} (N : Nat)  {σ : St} {vo : Int32} {σo : St} (h : ah_first N σ = some (vo, σo)) : Kt l D cA π shC yX0_first cX0_first 1 (some .int) 1 80 [.ref (π 122)] σ (some (.int vo)) σo := by
  refine Kt.of (by decide) (Nat.le_of_ble_eq_true rfl) (L := [(0, .ref (π 122))]) rfl (fun Γ C => ?_)
  have C0 := C.1
  unfold ah_first at h
  refine x_iconst C0 (v := 0) dX0_first_0 (by decide) ?_
  refine x_aload_n C0 dX0_first_1 rfl ?_
  refine gt_X0_27 C dX0_first_2 ?_
  refine x_bipush C0 (v := 40) dX0_first_5 (by decide) ?_
  refine x_isub C0 dX0_first_7 ?_
  refine x_mmax C0 umX0_65 dX0_first_8 (Nat.le_of_ble_eq_true rfl) (Nat.le_of_ble_eq_true rfl) ?_
  exact x_iret C dX0_first_11 h
def ah_least_L8 (N : Nat) : Nat → Int32 → Int32 → St → Option (Int32 × St)
  | 0, _, _, _ => none
  | n + 1, x1_8, x2_8, σ8 =>
    if (σ8.1 122 2) ≤ x2_8 then (
      some (x1_8, σ8))
    else (
      ck (inb x2_8 310) (
      lt (mn x1_8 (σ8.1 123 (ix x2_8))) fun x3 =>
      lt (x2_8 + 1) fun x4 =>
      (ah_least_L8 N n) x3 x4 σ8))
def ah_least (N : Nat) (σ : St) : Option (Int32 × St) :=
  bd2 (ah_first N  σ) fun v2 σ1 =>
  bd2 (ah_least_L8 N N 9 v2 σ1) fun x5 σ6 =>
  some (x5, σ6)
set_option maxRecDepth 20000 in
theorem w_ah_least_L8 {l : Launch} {D : va_G} {cA : Nat → ClassId} {π : Nat → Nat} {Γ : Gx St} {vo : Int32} {σo : St} (C : Cm Γ cX0_least RX0 cA 2 100 3 l D π shC (some .int) (some (.int vo), σo)) (N : Nat)  (yo : Int32 × St) (kk8 : ∀ e1_8 σe, (e1_8, σe) = yo → Wx Γ σe 33 [(1, .int e1_8)] []) : ∀ (n : Nat) (x1_8 : Int32) (x2_8 : Int32) (σ8 : St), ah_least_L8 N n x1_8 x2_8 σ8 = some yo → Wx Γ σ8 8 [(0, .ref (π 122)), (1, .int x1_8), (2, .int x2_8)] [] := by
  have C0 := C.1
  intro n
  induction n with
  | zero => intro x1_8 x2_8 σ8 h; cases h
  | succ n ih =>
    intro x1_8 x2_8 σ8 h
    rw [ah_least_L8] at h
    refine x_iload_n C0 dX0_least_8 rfl ?_
    refine x_aload_n C0 dX0_least_9 rfl ?_
    refine gt_X0_27 C dX0_least_10 ?_
    refine x_icmp_ge C0 (tgt := 33) dX0_least_13 (by decide) h (fun h => ?_) (fun h => ?_)
    · exact x_pick [1] rfl (kk8 _ _ (Option.some.inj h))
    · refine x_iload_n C0 dX0_least_16 rfl ?_
      refine x_aload_n C0 dX0_least_17 rfl ?_
      refine gt_X0_9 C dX0_least_18 ?_
      refine x_iload_n C0 dX0_least_21 rfl ?_
      refine x_iald C (k := 123) (z := 310) rfl dX0_least_22 h (fun h => ?_)
      refine x_mmin C0 umX0_78 dX0_least_23 (Nat.le_of_ble_eq_true rfl) (Nat.le_of_ble_eq_true rfl) ?_
      refine x_nm h (fun x3 h => ?_)
      refine x_istore_n C0 (L' := [(1, .int x3), (0, .ref (π 122)), (2, .int x2_8)]) dX0_least_26 (by decide) rfl ?_
      refine x_iinc C0 (j := 2) (v := 1) (L' := fun x4 => [(2, .int x4), (1, .int x3), (0, .ref (π 122))]) dX0_least_27 rfl (by decide) (by decide) (fun _ => rfl) h (fun x4 h => ?_)
      refine x_goto C0 (tgt := 8) dX0_least_30 (by decide) ?_
      exact x_pick [2, 1, 0] rfl (ih _ _ _ h)
set_option maxRecDepth 20000 in
theorem k_ah_least {l : Launch} {D : va_G} {cA : Nat → ClassId} {π : Nat → Nat} (N : Nat)  {σ : St} {vo : Int32} {σo : St} (h : ah_least N σ = some (vo, σo)) : Kt l D cA π shC yX0_least cX0_least 3 (some .int) 2 100 [.ref (π 122)] σ (some (.int vo)) σo := by
  refine Kt.of (by decide) (Nat.le_of_ble_eq_true rfl) (L := [(0, .ref (π 122))]) rfl (fun Γ C => ?_)
  have C0 := C.1
  unfold ah_least at h
  refine x_bipush C0 (v := 9) dX0_least_0 (by decide) ?_
  refine x_istore_n C0 (L' := [(1, .int 9), (0, .ref (π 122))]) dX0_least_2 (by decide) rfl ?_
  refine x_aload_n C0 dX0_least_3 rfl ?_
  obtain ⟨v2, σ1, hc, h⟩ := bd2_some h
  refine x_callVi C (k_ah_first N  hc) umX0_71 ui_X0_first us_X0_first un_X0 uc_X0_first hv_X0_first rfl (by decide) (fks := [4, 5, 0, 0]) rfl rfl dX0_least_4 (rest := []) rfl (Nat.le_of_ble_eq_true rfl) ?_
  refine x_istore_n C0 (L' := [(2, .int v2), (1, .int 9), (0, .ref (π 122))]) dX0_least_7 (by decide) rfl ?_
  obtain ⟨x5, σ6, hL, h⟩ := bd2_some h
  refine x_pick [2, 1, 0] rfl (w_ah_least_L8 C N _ (fun b0 b1 e => ?_) N 9 v2 σ1 hL)
  cases e
  refine x_iload_n C0 dX0_least_33 rfl ?_
  exact x_iret C dX0_least_34 h
def ah_length (N : Nat) (σ : St) : Option (Int32 × St) :=
  bd2 (ah_first N  σ) fun v2 σ1 =>
  bd2 (wb_lengthWith N ((σ.1 122 2) - v2) (σ1.1 122 3) σ1) fun v4 σ3 =>
  some (v4, σ3)
set_option maxRecDepth 20000 in
theorem k_ah_length {l : Launch} {D : va_G} {cA : Nat → ClassId} {π : Nat → Nat} (N : Nat)  {σ : St} {vo : Int32} {σo : St} (h : ah_length N σ = some (vo, σo)) : Kt l D cA π shC yX0_length cX0_length 1 (some .int) 2 100 [.ref (π 122)] σ (some (.int vo)) σo := by
  refine Kt.of (by decide) (Nat.le_of_ble_eq_true rfl) (L := [(0, .ref (π 122))]) rfl (fun Γ C => ?_)
  have C0 := C.1
  unfold ah_length at h
  refine x_aload_n C0 dX0_length_0 rfl ?_
  refine gt_X0_27 C dX0_length_1 ?_
  refine x_aload_n C0 dX0_length_4 rfl ?_
  obtain ⟨v2, σ1, hc, h⟩ := bd2_some h
  refine x_callVi C (k_ah_first N  hc) umX0_71 ui_X0_first us_X0_first un_X0 uc_X0_first hv_X0_first rfl (by decide) (fks := [4, 5, 0, 0]) rfl rfl dX0_length_5 (rest := [.int (σ.1 122 2)]) rfl (Nat.le_of_ble_eq_true rfl) ?_
  refine x_isub C0 dX0_length_8 ?_
  refine x_aload_n C0 dX0_length_9 rfl ?_
  refine gt_X0_34 C dX0_length_10 ?_
  obtain ⟨v4, σ3, hc, h⟩ := bd2_some h
  refine x_callSNi C (k_wb_lengthWith N ((σ.1 122 2) - v2) (σ1.1 122 3)  hc) (fun _ h => nmX0_74 h) ut_X6_lengthWith un_X6 uc_X6_lengthWith hs_X6_lengthWith rfl (by decide) dX0_length_13 (rest := []) rfl (Nat.le_of_ble_eq_true rfl) ?_
  exact x_iret C dX0_length_16 h
def ah_startFrom_L2 (N : Nat) (k1 : Nat) : Nat → Int32 → St → Option (St)
  | 0, _, _ => none
  | n + 1, x2_2, σ2 =>
    if (σ2.1 k1 3) ≤ x2_2 then (
      some σ2)
    else (
      bd2 (sp_bears N k1 x2_2 σ2) fun v2 σ1 =>
      ck (inb x2_2 310) (lt (put σ1 123 (ix x2_2) v2) fun σ3 =>
      lt (x2_2 + 1) fun x4 =>
      (ah_startFrom_L2 N k1 n) x4 σ3))
def ah_startFrom (N : Nat) (k1 : Nat) (σ : St) : Option (St) :=
  bd1 (ah_startFrom_L2 N k1 N 0 σ) fun σ5 =>
  lt (put σ5 122 2 (σ5.1 k1 3)) fun σ6 =>
  ck (bz (σ6.1 k1 4)) (
  lt (put σ6 122 3 (σ6.1 k1 4)) fun σ7 =>
  some σ7)
set_option maxRecDepth 20000 in
theorem w_ah_startFrom_L2 {l : Launch} {D : va_G} {cA : Nat → ClassId} {π : Nat → Nat} {Γ : Gx St} {σo : St} (C : Cm Γ cX0_startFrom RX0 cA 3 124 3 l D π shC none (none, σo)) (N : Nat) (k1 : Nat) (hk1 : shC[k1]? = some shX3) (yo : St) (kk2 : ∀ σe, σe = yo → Wx Γ σe 27 [(0, .ref (π 122)), (1, .ref (π k1))] []) : ∀ (n : Nat) (x2_2 : Int32) (σ2 : St), ah_startFrom_L2 N k1 n x2_2 σ2 = some yo → Wx Γ σ2 2 [(0, .ref (π 122)), (1, .ref (π k1)), (2, .int x2_2)] [] := by
  have C0 := C.1
  intro n
  induction n with
  | zero => intro x2_2 σ2 h; cases h
  | succ n ih =>
    intro x2_2 σ2 h
    rw [ah_startFrom_L2] at h
    refine x_iload_n C0 dX0_startFrom_2 rfl ?_
    refine x_aload_n C0 dX0_startFrom_3 rfl ?_
    refine gt_X0_18 C hk1 dX0_startFrom_4 ?_
    refine x_icmp_ge C0 (tgt := 27) dX0_startFrom_7 (by decide) h (fun h => ?_) (fun h => ?_)
    · exact x_pick [0, 1] rfl (kk2 _ (Option.some.inj h))
    · refine x_aload_n C0 dX0_startFrom_10 rfl ?_
      refine gt_X0_9 C dX0_startFrom_11 ?_
      refine x_iload_n C0 dX0_startFrom_14 rfl ?_
      refine x_aload_n C0 dX0_startFrom_15 rfl ?_
      refine x_iload_n C0 dX0_startFrom_16 rfl ?_
      obtain ⟨v2, σ1, hc, h⟩ := bd2_some h
      refine x_callVi C (k_sp_bears N k1 x2_2 hk1 hc) umX0_24 ui_X3_bears us_X3_bears un_X3 uc_X3_bears hv_X3_bears rfl (by decide) hk1 rfl dX0_startFrom_17 (rest := [.int x2_2, .ref (π 123)]) rfl (Nat.le_of_ble_eq_true rfl) ?_
      refine x_iast C (k := 123) (z := 310) rfl dX0_startFrom_20 h (fun σ3 h => ?_)
      refine x_iinc C0 (j := 2) (v := 1) (L' := fun x4 => [(2, .int x4), (0, .ref (π 122)), (1, .ref (π k1))]) dX0_startFrom_21 rfl (by decide) (by decide) (fun _ => rfl) h (fun x4 h => ?_)
      refine x_goto C0 (tgt := 2) dX0_startFrom_24 (by decide) ?_
      exact x_pick [1, 2, 0] rfl (ih _ _ h)
set_option maxRecDepth 20000 in
theorem k_ah_startFrom {l : Launch} {D : va_G} {cA : Nat → ClassId} {π : Nat → Nat} (N : Nat) (k1 : Nat) (hk1 : shC[k1]? = some shX3) {σ : St} {σo : St} (h : ah_startFrom N k1 σ = some σo) : Kt l D cA π shC yX0_startFrom cX0_startFrom 3 none 3 124 [.ref (π 122), .ref (π k1)] σ none σo := by
  refine Kt.of (by decide) (Nat.le_of_ble_eq_true rfl) (L := [(0, .ref (π 122)), (1, .ref (π k1))]) rfl (fun Γ C => ?_)
  have C0 := C.1
  unfold ah_startFrom at h
  refine x_iconst C0 (v := 0) dX0_startFrom_0 (by decide) ?_
  refine x_istore_n C0 (L' := [(2, .int 0), (0, .ref (π 122)), (1, .ref (π k1))]) dX0_startFrom_1 (by decide) rfl ?_
  obtain ⟨σ5, hL, h⟩ := bd1_some h
  refine x_pick [1, 2, 0] rfl (w_ah_startFrom_L2 C N k1 hk1 _ (fun b0 e => ?_) N 0 σ hL)
  cases e
  refine x_aload_n C0 dX0_startFrom_27 rfl ?_
  refine x_aload_n C0 dX0_startFrom_28 rfl ?_
  refine gt_X0_18 C hk1 dX0_startFrom_29 ?_
  refine pt_X0_27 C dX0_startFrom_32 h (fun σ6 h => ?_)
  refine x_aload_n C0 dX0_startFrom_35 rfl ?_
  refine x_aload_n C0 dX0_startFrom_36 rfl ?_
  refine gt_X0_30 C hk1 dX0_startFrom_37 ?_
  refine x_chk h (fun q h => ?_)
  refine pt_X0_34 C (bz_or q) dX0_startFrom_40 h (fun σ7 h => ?_)
  exact x_vret C dX0_startFrom_43 h
def ah_crossed (N : Nat) (k1 : Nat) (a2 : Int32) (σ : St) : Option (Int32 × St) :=
  bd2 (ah_length N  σ) fun v2 σ1 =>
  bd2 (ah_least N  σ1) fun v4 σ3 =>
  bd2 (td_holds N k1 a2 v2 v4 σ3) fun v6 σ5 =>
  if v6 = 0 then (
    some (0, σ5))
  else (
    bd1 (ah_knit N k1 a2 σ5) fun σ7 =>
    some (1, σ7))
set_option maxRecDepth 20000 in
theorem k_ah_crossed {l : Launch} {D : va_G} {cA : Nat → ClassId} {π : Nat → Nat} (N : Nat) (k1 : Nat) (a2 : Int32) (hk1 : shC[k1]? = some shX5) {σ : St} {vo : Int32} {σo : St} (h : ah_crossed N k1 a2 σ = some (vo, σo)) : Kt l D cA π shC yX0_crossed cX0_crossed 3 (some .boolean) 3 122 [.ref (π 122), .ref (π k1), .int a2] σ (some (.int vo)) σo := by
  refine Kt.of (by decide) (Nat.le_of_ble_eq_true rfl) (L := [(0, .ref (π 122)), (1, .ref (π k1)), (2, .int a2)]) rfl (fun Γ C => ?_)
  have C0 := C.1
  unfold ah_crossed at h
  refine x_aload_n C0 dX0_crossed_0 rfl ?_
  refine x_iload_n C0 dX0_crossed_1 rfl ?_
  refine x_aload_n C0 dX0_crossed_2 rfl ?_
  obtain ⟨v2, σ1, hc, h⟩ := bd2_some h
  refine x_callVi C (k_ah_length N  hc) umX0_35 ui_X0_length us_X0_length un_X0 uc_X0_length hv_X0_length rfl (by decide) (fks := [4, 5, 0, 0]) rfl rfl dX0_crossed_3 (rest := [.int a2, .ref (π k1)]) rfl (Nat.le_of_ble_eq_true rfl) ?_
  refine x_aload_n C0 dX0_crossed_6 rfl ?_
  obtain ⟨v4, σ3, hc, h⟩ := bd2_some h
  refine x_callVi C (k_ah_least N  hc) umX0_39 ui_X0_least us_X0_least un_X0 uc_X0_least hv_X0_least rfl (by decide) (fks := [4, 5, 0, 0]) rfl rfl dX0_crossed_7 (rest := [.int v2, .int a2, .ref (π k1)]) rfl (Nat.le_of_ble_eq_true rfl) ?_
  obtain ⟨v6, σ5, hc, h⟩ := bd2_some h
  refine x_callVi C (k_td_holds N k1 a2 v2 v4 hk1 hc) umX0_42 ui_X5_holds us_X5_holds un_X5 uc_X5_holds hv_X5_holds rfl (by decide) hk1 rfl dX0_crossed_10 (rest := []) rfl (Nat.le_of_ble_eq_true rfl) ?_
  refine x_if_ne C0 (tgt := 18) dX0_crossed_13 (by decide) h (fun h => ?_) (fun h => ?_)
  · refine x_aload_n C0 dX0_crossed_18 rfl ?_
    refine x_aload_n C0 dX0_crossed_19 rfl ?_
    refine x_iload_n C0 dX0_crossed_20 rfl ?_
    obtain ⟨σ7, hc, h⟩ := bd1_some h
    refine x_callVv C (k_ah_knit N k1 a2 hk1 hc) umX0_48 ui_X0_knit us_X0_knit un_X0 uc_X0_knit hv_X0_knit rfl (by decide) (fks := [4, 5, 0, 0]) rfl rfl dX0_crossed_21 (rest := []) rfl (Nat.le_of_ble_eq_true rfl) ?_
    refine x_iconst C0 (v := 1) dX0_crossed_24 (by decide) ?_
    exact x_zret C (Or.inr rfl) dX0_crossed_25 h
  · refine x_iconst C0 (v := 0) dX0_crossed_16 (by decide) ?_
    exact x_zret C (Or.inl rfl) dX0_crossed_17 h
def wb_lastOne_L13 (N : Nat) : Nat → Int32 → St → Option (Int32 × St)
  | 0, _, _ => none
  | n + 1, x1_13, σ13 =>
    lt (ix (σ13.1 0 6)) fun r4 => ck (isTd r4) (
    if (σ13.1 r4 3) ≤ x1_13 then (
      some ((-9), σ13))
    else (
      lt (ix (σ13.1 0 6)) fun r5 => ck (isTd r5) (
      bd2 (ah_crossed N r5 x1_13 σ13) fun v7 σ6 =>
      if v7 = 0 then (
        some (x1_13, σ6))
      else (
        lt (x1_13 + 1) fun x8 =>
        (wb_lastOne_L13 N n) x8 σ6))))
def wb_lastOne (N : Nat) (σ : St) : Option (Int32 × St) :=
  bd2 (wb_span N  σ) fun r2 σ1 => ck (isSp r2) (
  bd1 (ah_startFrom N r2 σ1) fun σ3 =>
  wb_lastOne_L13 N N 0 σ3)
set_option maxRecDepth 20000 in
theorem w_wb_lastOne_L13 {l : Launch} {D : va_G} {cA : Nat → ClassId} {π : Nat → Nat} {Γ : Gx St} {vo : Int32} {σo : St} (C : Cm Γ cX6_lastOne RX6 cA 4 146 2 l D π shC (some .int) (some (.int vo), σo)) (N : Nat)  : ∀ (n : Nat) (x1_13 : Int32) (σ13 : St), wb_lastOne_L13 N n x1_13 σ13 = some (vo, σo) → Wx Γ σ13 13 [(0, .ref (π 0)), (1, .int x1_13)] [] := by
  have C0 := C.1
  intro n
  induction n with
  | zero => intro x1_13 σ13 h; cases h
  | succ n ih =>
    intro x1_13 σ13 h
    rw [wb_lastOne_L13] at h
    refine x_iload_n C0 dX6_lastOne_13 rfl ?_
    refine x_aload_n C0 dX6_lastOne_14 rfl ?_
    refine gt_X6_48 C dX6_lastOne_15 ?_
    refine x_nmr h (fun r4 h => ?_)
    refine x_chk h (fun q h => ?_)
    have hr4 := isTd_sh q
    refine gt_X6_175 C hr4 dX6_lastOne_18 ?_
    refine x_icmp_ge C0 (tgt := 47) dX6_lastOne_21 (by decide) h (fun h => ?_) (fun h => ?_)
    · refine x_bipush C0 (v := (-9)) dX6_lastOne_47 (by decide) ?_
      exact x_iret C dX6_lastOne_49 h
    · refine x_aload_n C0 dX6_lastOne_24 rfl ?_
      refine gt_X6_41 C dX6_lastOne_25 ?_
      refine x_aload_n C0 dX6_lastOne_28 rfl ?_
      refine gt_X6_48 C dX6_lastOne_29 ?_
      refine x_nmr h (fun r5 h => ?_)
      refine x_chk h (fun q h => ?_)
      have hr5 := isTd_sh q
      refine x_iload_n C0 dX6_lastOne_32 rfl ?_
      obtain ⟨v7, σ6, hc, h⟩ := bd2_some h
      refine x_callVi C (k_ah_crossed N r5 x1_13 hr5 hc) umX6_178 ui_X0_crossed us_X0_crossed un_X0 uc_X0_crossed hv_X0_crossed rfl (by decide) (fks := [4, 5, 0, 0]) rfl rfl dX6_lastOne_33 (rest := []) rfl (Nat.le_of_ble_eq_true rfl) ?_
      refine x_if_ne C0 (tgt := 41) dX6_lastOne_36 (by decide) h (fun h => ?_) (fun h => ?_)
      · refine x_iinc C0 (j := 1) (v := 1) (L' := fun x8 => [(1, .int x8), (0, .ref (π 0))]) dX6_lastOne_41 rfl (by decide) (by decide) (fun _ => rfl) h (fun x8 h => ?_)
        refine x_goto C0 (tgt := 13) dX6_lastOne_44 (by decide) ?_
        exact x_pick [1, 0] rfl (ih _ _ h)
      · refine x_iload_n C0 dX6_lastOne_39 rfl ?_
        exact x_iret C dX6_lastOne_40 h
set_option maxRecDepth 20000 in
theorem k_wb_lastOne {l : Launch} {D : va_G} {cA : Nat → ClassId} {π : Nat → Nat} (N : Nat)  {σ : St} {vo : Int32} {σo : St} (h : wb_lastOne N σ = some (vo, σo)) : Kt l D cA π shC yX6_lastOne cX6_lastOne 2 (some .int) 4 146 [.ref (π 0)] σ (some (.int vo)) σo := by
  refine Kt.of (by decide) (Nat.le_of_ble_eq_true rfl) (L := [(0, .ref (π 0))]) rfl (fun Γ C => ?_)
  have C0 := C.1
  unfold wb_lastOne at h
  refine x_aload_n C0 dX6_lastOne_0 rfl ?_
  refine gt_X6_41 C dX6_lastOne_1 ?_
  refine x_aload_n C0 dX6_lastOne_4 rfl ?_
  obtain ⟨r2, σ1, hc, h⟩ := bd2_some h
  refine x_callVr C (k_wb_span N  hc) umX6_90 ui_X6_span us_X6_span un_X6 uc_X6_span hv_X6_span rfl (by decide) (fks := [4, 6, 44, 121, 122, 125, 2, 2, 1]) rfl rfl dX6_lastOne_5 (rest := [.ref (π 122)]) rfl (Nat.le_of_ble_eq_true rfl) ?_
  refine x_chk h (fun q h => ?_)
  have hr2 := isSp_sh q
  obtain ⟨σ3, hc, h⟩ := bd1_some h
  refine x_callVv C (k_ah_startFrom N r2 hr2 hc) umX6_165 ui_X0_startFrom us_X0_startFrom un_X0 uc_X0_startFrom hv_X0_startFrom rfl (by decide) (fks := [4, 5, 0, 0]) rfl rfl dX6_lastOne_8 (rest := []) rfl (Nat.le_of_ble_eq_true rfl) ?_
  refine x_iconst C0 (v := 0) dX6_lastOne_11 (by decide) ?_
  refine x_istore_n C0 (L' := [(1, .int 0), (0, .ref (π 0))]) dX6_lastOne_12 (by decide) rfl ?_
  exact x_pick [1, 0] rfl (w_wb_lastOne_L13 C N N 0 σ3 h)
def wb_crossings_L26 (N : Nat) (c1_26 : Int32) : Nat → Int32 → St → Option (Int32 × St)
  | 0, _, _ => none
  | n + 1, x2_26, σ26 =>
    if 30 ≤ x2_26 then (
      some (x2_26, σ26))
    else (
      lt (ix (σ26.1 0 6)) fun r7 => ck (isTd r7) (
      bd2 (ah_crossed N r7 c1_26 σ26) fun v9 σ8 =>
      if v9 = 0 then (
        some (x2_26, σ8))
      else (
        lt (x2_26 + 1) fun x10 =>
        (wb_crossings_L26 N c1_26 n) x10 σ8)))
def wb_crossings (N : Nat) (a1 : Int32) (σ : St) : Option (Int32 × St) :=
  lt (ix (σ.1 0 6)) fun r1 => ck (isTd r1) (
  bd2 (td_has N r1 a1 σ) fun v3 σ2 =>
  if v3 = 0 then (
    some ((-1), σ2))
  else (
    bd2 (wb_span N  σ2) fun r5 σ4 => ck (isSp r5) (
    bd1 (ah_startFrom N r5 σ4) fun σ6 =>
    bd2 (wb_crossings_L26 N a1 N 0 σ6) fun x11 σ12 =>
    some (x11, σ12))))
set_option maxRecDepth 20000 in
theorem w_wb_crossings_L26 {l : Launch} {D : va_G} {cA : Nat → ClassId} {π : Nat → Nat} {Γ : Gx St} {vo : Int32} {σo : St} (C : Cm Γ cX6_crossings RX6 cA 4 146 3 l D π shC (some .int) (some (.int vo), σo)) (N : Nat) (c1_26 : Int32)  (yo : Int32 × St) (kk26 : ∀ e2_26 σe, (e2_26, σe) = yo → Wx Γ σe 53 [(2, .int e2_26)] []) : ∀ (n : Nat) (x2_26 : Int32) (σ26 : St), wb_crossings_L26 N c1_26 n x2_26 σ26 = some yo → Wx Γ σ26 26 [(0, .ref (π 0)), (1, .int c1_26), (2, .int x2_26)] [] := by
  have C0 := C.1
  intro n
  induction n with
  | zero => intro x2_26 σ26 h; cases h
  | succ n ih =>
    intro x2_26 σ26 h
    rw [wb_crossings_L26] at h
    refine x_iload_n C0 dX6_crossings_26 rfl ?_
    refine x_bipush C0 (v := 30) dX6_crossings_27 (by decide) ?_
    refine x_icmp_ge C0 (tgt := 53) dX6_crossings_29 (by decide) h (fun h => ?_) (fun h => ?_)
    · exact x_pick [2] rfl (kk26 _ _ (Option.some.inj h))
    · refine x_aload_n C0 dX6_crossings_32 rfl ?_
      refine gt_X6_41 C dX6_crossings_33 ?_
      refine x_aload_n C0 dX6_crossings_36 rfl ?_
      refine gt_X6_48 C dX6_crossings_37 ?_
      refine x_nmr h (fun r7 h => ?_)
      refine x_chk h (fun q h => ?_)
      have hr7 := isTd_sh q
      refine x_iload_n C0 dX6_crossings_40 rfl ?_
      obtain ⟨v9, σ8, hc, h⟩ := bd2_some h
      refine x_callVi C (k_ah_crossed N r7 c1_26 hr7 hc) umX6_178 ui_X0_crossed us_X0_crossed un_X0 uc_X0_crossed hv_X0_crossed rfl (by decide) (fks := [4, 5, 0, 0]) rfl rfl dX6_crossings_41 (rest := []) rfl (Nat.le_of_ble_eq_true rfl) ?_
      refine x_if_eq C0 (tgt := 53) dX6_crossings_44 (by decide) h (fun h => ?_) (fun h => ?_)
      · exact x_pick [2] rfl (kk26 _ _ (Option.some.inj h))
      · refine x_iinc C0 (j := 2) (v := 1) (L' := fun x10 => [(2, .int x10), (0, .ref (π 0)), (1, .int c1_26)]) dX6_crossings_47 rfl (by decide) (by decide) (fun _ => rfl) h (fun x10 h => ?_)
        refine x_goto C0 (tgt := 26) dX6_crossings_50 (by decide) ?_
        exact x_pick [1, 2, 0] rfl (ih _ _ h)
set_option maxRecDepth 20000 in
theorem k_wb_crossings {l : Launch} {D : va_G} {cA : Nat → ClassId} {π : Nat → Nat} (N : Nat) (a1 : Int32)  {σ : St} {vo : Int32} {σo : St} (h : wb_crossings N a1 σ = some (vo, σo)) : Kt l D cA π shC yX6_crossings cX6_crossings 3 (some .int) 4 146 [.ref (π 0), .int a1] σ (some (.int vo)) σo := by
  refine Kt.of (by decide) (Nat.le_of_ble_eq_true rfl) (L := [(0, .ref (π 0)), (1, .int a1)]) rfl (fun Γ C => ?_)
  have C0 := C.1
  unfold wb_crossings at h
  refine x_aload_n C0 dX6_crossings_0 rfl ?_
  refine gt_X6_48 C dX6_crossings_1 ?_
  refine x_nmr h (fun r1 h => ?_)
  refine x_chk h (fun q h => ?_)
  have hr1 := isTd_sh q
  refine x_iload_n C0 dX6_crossings_4 rfl ?_
  obtain ⟨v3, σ2, hc, h⟩ := bd2_some h
  refine x_callVi C (k_td_has N r1 a1 hr1 hc) umX6_80 ui_X5_has us_X5_has un_X5 uc_X5_has hv_X5_has rfl (by decide) hr1 rfl dX6_crossings_5 (rest := []) rfl (Nat.le_of_ble_eq_true rfl) ?_
  refine x_if_ne C0 (tgt := 13) dX6_crossings_8 (by decide) h (fun h => ?_) (fun h => ?_)
  · refine x_aload_n C0 dX6_crossings_13 rfl ?_
    refine gt_X6_41 C dX6_crossings_14 ?_
    refine x_aload_n C0 dX6_crossings_17 rfl ?_
    obtain ⟨r5, σ4, hc, h⟩ := bd2_some h
    refine x_callVr C (k_wb_span N  hc) umX6_90 ui_X6_span us_X6_span un_X6 uc_X6_span hv_X6_span rfl (by decide) (fks := [4, 6, 44, 121, 122, 125, 2, 2, 1]) rfl rfl dX6_crossings_18 (rest := [.ref (π 122)]) rfl (Nat.le_of_ble_eq_true rfl) ?_
    refine x_chk h (fun q h => ?_)
    have hr5 := isSp_sh q
    obtain ⟨σ6, hc, h⟩ := bd1_some h
    refine x_callVv C (k_ah_startFrom N r5 hr5 hc) umX6_165 ui_X0_startFrom us_X0_startFrom un_X0 uc_X0_startFrom hv_X0_startFrom rfl (by decide) (fks := [4, 5, 0, 0]) rfl rfl dX6_crossings_21 (rest := []) rfl (Nat.le_of_ble_eq_true rfl) ?_
    refine x_iconst C0 (v := 0) dX6_crossings_24 (by decide) ?_
    refine x_istore_n C0 (L' := [(2, .int 0), (0, .ref (π 0)), (1, .int a1)]) dX6_crossings_25 (by decide) rfl ?_
    obtain ⟨x11, σ12, hL, h⟩ := bd2_some h
    refine x_pick [1, 2, 0] rfl (w_wb_crossings_L26 C N a1 _ (fun b0 b1 e => ?_) N 0 σ6 hL)
    cases e
    refine x_iload_n C0 dX6_crossings_53 rfl ?_
    exact x_iret C dX6_crossings_54 h
  · refine x_iconst C0 (v := (-1)) dX6_crossings_11 (by decide) ?_
    exact x_iret C dX6_crossings_12 h
def wb_over_L20 (N : Nat) (r5 : Nat) (c1_20 : Int32) : Nat → Int32 → St → Option (Int32 × St)
  | 0, _, _ => none
  | n + 1, x3_20, σ20 =>
    if 60 < x3_20 then (
      some ((-9), σ20))
    else (
      lt (ix (σ20.1 0 6)) fun r6 => ck (isTd r6) (
      bd2 (sp_length N r5 σ20) fun v8 σ7 =>
      bd2 (sp_leastAfter N r5 x3_20 σ7) fun v10 σ9 =>
      bd2 (td_holds N r6 c1_20 v8 v10 σ9) fun v12 σ11 =>
      if v12 = 0 then (
        some (x3_20, σ11))
      else (
        lt (x3_20 + 1) fun x13 =>
        (wb_over_L20 N r5 c1_20 n) x13 σ11)))
def wb_over (N : Nat) (a1 : Int32) (σ : St) : Option (Int32 × St) :=
  lt (ix (σ.1 0 6)) fun r1 => ck (isTd r1) (
  bd2 (td_has N r1 a1 σ) fun v3 σ2 =>
  if v3 = 0 then (
    some ((-1), σ2))
  else (
    bd2 (wb_span N  σ2) fun r5 σ4 => ck (isSp r5) (
    wb_over_L20 N r5 a1 N 0 σ4)))
set_option maxRecDepth 20000 in
theorem w_wb_over_L20 {l : Launch} {D : va_G} {cA : Nat → ClassId} {π : Nat → Nat} {Γ : Gx St} {vo : Int32} {σo : St} (C : Cm Γ cX6_over RX6 cA 3 126 4 l D π shC (some .int) (some (.int vo), σo)) (N : Nat) (r5 : Nat) (c1_20 : Int32) (hr5 : shC[r5]? = some shX3) : ∀ (n : Nat) (x3_20 : Int32) (σ20 : St), wb_over_L20 N r5 c1_20 n x3_20 σ20 = some (vo, σo) → Wx Γ σ20 20 [(0, .ref (π 0)), (1, .int c1_20), (2, .ref (π r5)), (3, .int x3_20)] [] := by
  have C0 := C.1
  intro n
  induction n with
  | zero => intro x3_20 σ20 h; cases h
  | succ n ih =>
    intro x3_20 σ20 h
    rw [wb_over_L20] at h
    refine x_iload_n C0 dX6_over_20 rfl ?_
    refine x_bipush C0 (v := 60) dX6_over_21 (by decide) ?_
    refine x_icmp_gt C0 (tgt := 54) dX6_over_23 (by decide) h (fun h => ?_) (fun h => ?_)
    · refine x_bipush C0 (v := (-9)) dX6_over_54 (by decide) ?_
      exact x_iret C dX6_over_56 h
    · refine x_aload_n C0 dX6_over_26 rfl ?_
      refine gt_X6_48 C dX6_over_27 ?_
      refine x_nmr h (fun r6 h => ?_)
      refine x_chk h (fun q h => ?_)
      have hr6 := isTd_sh q
      refine x_iload_n C0 dX6_over_30 rfl ?_
      refine x_aload_n C0 dX6_over_31 rfl ?_
      obtain ⟨v8, σ7, hc, h⟩ := bd2_some h
      refine x_callVi C (k_sp_length N r5 hr5 hc) umX6_135 ui_X3_length us_X3_length un_X3 uc_X3_length hv_X3_length rfl (by decide) hr5 rfl dX6_over_32 (rest := [.int c1_20, .ref (π r6)]) rfl (Nat.le_of_ble_eq_true rfl) ?_
      refine x_aload_n C0 dX6_over_35 rfl ?_
      refine x_iload_n C0 dX6_over_36 rfl ?_
      obtain ⟨v10, σ9, hc, h⟩ := bd2_some h
      refine x_callVi C (k_sp_leastAfter N r5 x3_20 hr5 hc) umX6_181 ui_X3_leastAfter us_X3_leastAfter un_X3 uc_X3_leastAfter hv_X3_leastAfter rfl (by decide) hr5 rfl dX6_over_37 (rest := [.int v8, .int c1_20, .ref (π r6)]) rfl (Nat.le_of_ble_eq_true rfl) ?_
      obtain ⟨v12, σ11, hc, h⟩ := bd2_some h
      refine x_callVi C (k_td_holds N r6 c1_20 v8 v10 hr6 hc) umX6_184 ui_X5_holds us_X5_holds un_X5 uc_X5_holds hv_X5_holds rfl (by decide) hr6 rfl dX6_over_40 (rest := []) rfl (Nat.le_of_ble_eq_true rfl) ?_
      refine x_if_ne C0 (tgt := 48) dX6_over_43 (by decide) h (fun h => ?_) (fun h => ?_)
      · refine x_iinc C0 (j := 3) (v := 1) (L' := fun x13 => [(3, .int x13), (0, .ref (π 0)), (1, .int c1_20), (2, .ref (π r5))]) dX6_over_48 rfl (by decide) (by decide) (fun _ => rfl) h (fun x13 h => ?_)
        refine x_goto C0 (tgt := 20) dX6_over_51 (by decide) ?_
        exact x_pick [1, 2, 3, 0] rfl (ih _ _ h)
      · refine x_iload_n C0 dX6_over_46 rfl ?_
        exact x_iret C dX6_over_47 h
set_option maxRecDepth 20000 in
theorem k_wb_over {l : Launch} {D : va_G} {cA : Nat → ClassId} {π : Nat → Nat} (N : Nat) (a1 : Int32)  {σ : St} {vo : Int32} {σo : St} (h : wb_over N a1 σ = some (vo, σo)) : Kt l D cA π shC yX6_over cX6_over 4 (some .int) 3 126 [.ref (π 0), .int a1] σ (some (.int vo)) σo := by
  refine Kt.of (by decide) (Nat.le_of_ble_eq_true rfl) (L := [(0, .ref (π 0)), (1, .int a1)]) rfl (fun Γ C => ?_)
  have C0 := C.1
  unfold wb_over at h
  refine x_aload_n C0 dX6_over_0 rfl ?_
  refine gt_X6_48 C dX6_over_1 ?_
  refine x_nmr h (fun r1 h => ?_)
  refine x_chk h (fun q h => ?_)
  have hr1 := isTd_sh q
  refine x_iload_n C0 dX6_over_4 rfl ?_
  obtain ⟨v3, σ2, hc, h⟩ := bd2_some h
  refine x_callVi C (k_td_has N r1 a1 hr1 hc) umX6_80 ui_X5_has us_X5_has un_X5 uc_X5_has hv_X5_has rfl (by decide) hr1 rfl dX6_over_5 (rest := []) rfl (Nat.le_of_ble_eq_true rfl) ?_
  refine x_if_ne C0 (tgt := 13) dX6_over_8 (by decide) h (fun h => ?_) (fun h => ?_)
  · refine x_aload_n C0 dX6_over_13 rfl ?_
    obtain ⟨r5, σ4, hc, h⟩ := bd2_some h
    refine x_callVr C (k_wb_span N  hc) umX6_90 ui_X6_span us_X6_span un_X6 uc_X6_span hv_X6_span rfl (by decide) (fks := [4, 6, 44, 121, 122, 125, 2, 2, 1]) rfl rfl dX6_over_14 (rest := []) rfl (Nat.le_of_ble_eq_true rfl) ?_
    refine x_chk h (fun q h => ?_)
    have hr5 := isSp_sh q
    refine x_astore_n C0 (L' := [(2, .ref (π r5)), (0, .ref (π 0)), (1, .int a1)]) dX6_over_17 (by decide) rfl ?_
    refine x_iconst C0 (v := 0) dX6_over_18 (by decide) ?_
    refine x_istore_n C0 (L' := [(3, .int 0), (2, .ref (π r5)), (0, .ref (π 0)), (1, .int a1)]) dX6_over_19 (by decide) rfl ?_
    exact x_pick [2, 3, 1, 0] rfl (w_wb_over_L20 C N r5 a1 hr5 N 0 σ4 h)
  · refine x_iconst C0 (v := (-1)) dX6_over_11 (by decide) ?_
    exact x_iret C dX6_over_12 h
def sp_woolFor_L4 (N : Nat) (k0 : Nat) (c1_4 : Int32) : Nat → Int32 → Int32 → St → Option (Int32 × St)
  | 0, _, _, _ => none
  | n + 1, x2_4, x3_4, σ4 =>
    if (σ4.1 k0 3) ≤ x3_4 then (
      some (x2_4, σ4))
    else (
      ck (inb x3_4 40) (
      ck (inb x3_4 40) (
      lt (x2_4 + (mx 0 ((c1_4 + ((σ4.1 (k0 + 3) (ix x3_4)) / 4)) - (σ4.1 (k0 + 2) (ix x3_4))))) fun x1 =>
      lt (x3_4 + 1) fun x2 =>
      (sp_woolFor_L4 N k0 c1_4 n) x1 x2 σ4)))
def sp_woolFor (N : Nat) (k0 : Nat) (a1 : Int32) (σ : St) : Option (Int32 × St) :=
  bd2 (sp_woolFor_L4 N k0 a1 N 0 0 σ) fun x3 σ4 =>
  some (x3, σ4)
set_option maxRecDepth 20000 in
theorem w_sp_woolFor_L4 {l : Launch} {D : va_G} {cA : Nat → ClassId} {π : Nat → Nat} {Γ : Gx St} {vo : Int32} {σo : St} (C : Cm Γ cX3_woolFor RX3 cA 1 80 4 l D π shC (some .int) (some (.int vo), σo)) (N : Nat) (k0 : Nat) (c1_4 : Int32) (hk0 : shC[k0]? = some shX3) (yo : Int32 × St) (kk4 : ∀ e2_4 σe, (e2_4, σe) = yo → Wx Γ σe 42 [(2, .int e2_4)] []) : ∀ (n : Nat) (x2_4 : Int32) (x3_4 : Int32) (σ4 : St), sp_woolFor_L4 N k0 c1_4 n x2_4 x3_4 σ4 = some yo → Wx Γ σ4 4 [(0, .ref (π k0)), (1, .int c1_4), (2, .int x2_4), (3, .int x3_4)] [] := by
  have C0 := C.1
  intro n
  induction n with
  | zero => intro x2_4 x3_4 σ4 h; cases h
  | succ n ih =>
    intro x2_4 x3_4 σ4 h
    rw [sp_woolFor_L4] at h
    refine x_iload_n C0 dX3_woolFor_4 rfl ?_
    refine x_aload_n C0 dX3_woolFor_5 rfl ?_
    refine gt_X3_21 C hk0 dX3_woolFor_6 ?_
    refine x_icmp_ge C0 (tgt := 42) dX3_woolFor_9 (by decide) h (fun h => ?_) (fun h => ?_)
    · exact x_pick [2] rfl (kk4 _ _ (Option.some.inj h))
    · refine x_iload_n C0 dX3_woolFor_12 rfl ?_
      refine x_iconst C0 (v := 0) dX3_woolFor_13 (by decide) ?_
      refine x_iload_n C0 dX3_woolFor_14 rfl ?_
      refine x_aload_n C0 dX3_woolFor_15 rfl ?_
      refine gt_X3_18 C hk0 dX3_woolFor_16 ?_
      refine x_iload_n C0 dX3_woolFor_19 rfl ?_
      refine x_iald C (k := (k0 + 3)) (z := 40) (sh_X3_old hk0) dX3_woolFor_20 h (fun h => ?_)
      refine x_iconst C0 (v := 4) dX3_woolFor_21 (by decide) ?_
      refine x_idiv C0 (by decide) dX3_woolFor_22 ?_
      refine x_iadd C0 dX3_woolFor_23 ?_
      refine x_aload_n C0 dX3_woolFor_24 rfl ?_
      refine gt_X3_15 C hk0 dX3_woolFor_25 ?_
      refine x_iload_n C0 dX3_woolFor_28 rfl ?_
      refine x_iald C (k := (k0 + 2)) (z := 40) (sh_X3_thick hk0) dX3_woolFor_29 h (fun h => ?_)
      refine x_isub C0 dX3_woolFor_30 ?_
      refine x_mmax C0 umX3_61 dX3_woolFor_31 (Nat.le_of_ble_eq_true rfl) (Nat.le_of_ble_eq_true rfl) ?_
      refine x_iadd C0 dX3_woolFor_34 ?_
      refine x_nm h (fun x1 h => ?_)
      refine x_istore_n C0 (L' := [(2, .int x1), (0, .ref (π k0)), (1, .int c1_4), (3, .int x3_4)]) dX3_woolFor_35 (by decide) rfl ?_
      refine x_iinc C0 (j := 3) (v := 1) (L' := fun x2 => [(3, .int x2), (2, .int x1), (0, .ref (π k0)), (1, .int c1_4)]) dX3_woolFor_36 rfl (by decide) (by decide) (fun _ => rfl) h (fun x2 h => ?_)
      refine x_goto C0 (tgt := 4) dX3_woolFor_39 (by decide) ?_
      exact x_pick [2, 3, 1, 0] rfl (ih _ _ _ h)
set_option maxRecDepth 20000 in
theorem k_sp_woolFor {l : Launch} {D : va_G} {cA : Nat → ClassId} {π : Nat → Nat} (N : Nat) (k0 : Nat) (a1 : Int32) (hk0 : shC[k0]? = some shX3) {σ : St} {vo : Int32} {σo : St} (h : sp_woolFor N k0 a1 σ = some (vo, σo)) : Kt l D cA π shC yX3_woolFor cX3_woolFor 4 (some .int) 1 80 [.ref (π k0), .int a1] σ (some (.int vo)) σo := by
  refine Kt.of (by decide) (Nat.le_of_ble_eq_true rfl) (L := [(0, .ref (π k0)), (1, .int a1)]) rfl (fun Γ C => ?_)
  have C0 := C.1
  unfold sp_woolFor at h
  refine x_iconst C0 (v := 0) dX3_woolFor_0 (by decide) ?_
  refine x_istore_n C0 (L' := [(2, .int 0), (0, .ref (π k0)), (1, .int a1)]) dX3_woolFor_1 (by decide) rfl ?_
  refine x_iconst C0 (v := 0) dX3_woolFor_2 (by decide) ?_
  refine x_istore_n C0 (L' := [(3, .int 0), (2, .int 0), (0, .ref (π k0)), (1, .int a1)]) dX3_woolFor_3 (by decide) rfl ?_
  obtain ⟨x3, σ4, hL, h⟩ := bd2_some h
  refine x_pick [2, 3, 1, 0] rfl (w_sp_woolFor_L4 C N k0 a1 hk0 _ (fun b0 b1 e => ?_) N 0 0 σ hL)
  cases e
  refine x_iload_n C0 dX3_woolFor_42 rfl ?_
  exact x_iret C dX3_woolFor_43 h
def wb_rowsToGap_L2 (N : Nat) (k1 : Nat) : Nat → Int32 → St → Option (Int32 × St)
  | 0, _, _ => none
  | n + 1, x2_2, σ2 =>
    if 30 ≤ x2_2 then (
      some (x2_2, σ2))
    else (
      bd2 (sp_lengthOf N k1 ((σ2.1 k1 3) + x2_2) σ2) fun v2 σ1 =>
      lt (ix (σ1.1 0 6)) fun r3 => ck (isTd r3) (
      if (σ1.1 r3 5) ≤ v2 then (
        some (x2_2, σ1))
      else (
        lt (x2_2 + 1) fun x4 =>
        (wb_rowsToGap_L2 N k1 n) x4 σ1)))
def wb_rowsToGap (N : Nat) (k1 : Nat) (σ : St) : Option (Int32 × St) :=
  bd2 (wb_rowsToGap_L2 N k1 N 0 σ) fun x5 σ6 =>
  some (x5, σ6)
set_option maxRecDepth 20000 in
theorem w_wb_rowsToGap_L2 {l : Launch} {D : va_G} {cA : Nat → ClassId} {π : Nat → Nat} {Γ : Gx St} {vo : Int32} {σo : St} (C : Cm Γ cX6_rowsToGap RX6 cA 2 42 3 l D π shC (some .int) (some (.int vo), σo)) (N : Nat) (k1 : Nat) (hk1 : shC[k1]? = some shX3) (yo : Int32 × St) (kk2 : ∀ e2_2 σe, (e2_2, σe) = yo → Wx Γ σe 34 [(2, .int e2_2)] []) : ∀ (n : Nat) (x2_2 : Int32) (σ2 : St), wb_rowsToGap_L2 N k1 n x2_2 σ2 = some yo → Wx Γ σ2 2 [(0, .ref (π 0)), (1, .ref (π k1)), (2, .int x2_2)] [] := by
  have C0 := C.1
  intro n
  induction n with
  | zero => intro x2_2 σ2 h; cases h
  | succ n ih =>
    intro x2_2 σ2 h
    rw [wb_rowsToGap_L2] at h
    refine x_iload_n C0 dX6_rowsToGap_2 rfl ?_
    refine x_bipush C0 (v := 30) dX6_rowsToGap_3 (by decide) ?_
    refine x_icmp_ge C0 (tgt := 34) dX6_rowsToGap_5 (by decide) h (fun h => ?_) (fun h => ?_)
    · exact x_pick [2] rfl (kk2 _ _ (Option.some.inj h))
    · refine x_aload_n C0 dX6_rowsToGap_8 rfl ?_
      refine x_aload_n C0 dX6_rowsToGap_9 rfl ?_
      refine gt_X6_121 C hk1 dX6_rowsToGap_10 ?_
      refine x_iload_n C0 dX6_rowsToGap_13 rfl ?_
      refine x_iadd C0 dX6_rowsToGap_14 ?_
      obtain ⟨v2, σ1, hc, h⟩ := bd2_some h
      refine x_callVi C (k_sp_lengthOf N k1 ((σ2.1 k1 3) + x2_2) hk1 hc) umX6_191 ui_X3_lengthOf us_X3_lengthOf un_X3 uc_X3_lengthOf hv_X3_lengthOf rfl (by decide) hk1 rfl dX6_rowsToGap_15 (rest := []) rfl (Nat.le_of_ble_eq_true rfl) ?_
      refine x_aload_n C0 dX6_rowsToGap_18 rfl ?_
      refine gt_X6_48 C dX6_rowsToGap_19 ?_
      refine x_nmr h (fun r3 h => ?_)
      refine x_chk h (fun q h => ?_)
      have hr3 := isTd_sh q
      refine gt_X6_194 C hr3 dX6_rowsToGap_22 ?_
      refine x_icmp_ge C0 (tgt := 34) dX6_rowsToGap_25 (by decide) h (fun h => ?_) (fun h => ?_)
      · exact x_pick [2] rfl (kk2 _ _ (Option.some.inj h))
      · refine x_iinc C0 (j := 2) (v := 1) (L' := fun x4 => [(2, .int x4), (0, .ref (π 0)), (1, .ref (π k1))]) dX6_rowsToGap_28 rfl (by decide) (by decide) (fun _ => rfl) h (fun x4 h => ?_)
        refine x_goto C0 (tgt := 2) dX6_rowsToGap_31 (by decide) ?_
        exact x_pick [1, 2, 0] rfl (ih _ _ h)
set_option maxRecDepth 20000 in
theorem k_wb_rowsToGap {l : Launch} {D : va_G} {cA : Nat → ClassId} {π : Nat → Nat} (N : Nat) (k1 : Nat) (hk1 : shC[k1]? = some shX3) {σ : St} {vo : Int32} {σo : St} (h : wb_rowsToGap N k1 σ = some (vo, σo)) : Kt l D cA π shC yX6_rowsToGap cX6_rowsToGap 3 (some .int) 2 42 [.ref (π 0), .ref (π k1)] σ (some (.int vo)) σo := by
  refine Kt.of (by decide) (Nat.le_of_ble_eq_true rfl) (L := [(0, .ref (π 0)), (1, .ref (π k1))]) rfl (fun Γ C => ?_)
  have C0 := C.1
  unfold wb_rowsToGap at h
  refine x_iconst C0 (v := 0) dX6_rowsToGap_0 (by decide) ?_
  refine x_istore_n C0 (L' := [(2, .int 0), (0, .ref (π 0)), (1, .ref (π k1))]) dX6_rowsToGap_1 (by decide) rfl ?_
  obtain ⟨x5, σ6, hL, h⟩ := bd2_some h
  refine x_pick [1, 2, 0] rfl (w_wb_rowsToGap_L2 C N k1 hk1 _ (fun b0 b1 e => ?_) N 0 σ hL)
  cases e
  refine x_iload_n C0 dX6_rowsToGap_34 rfl ?_
  exact x_iret C dX6_rowsToGap_35 h
def wb_mend (N : Nat) (a1 : Int32) (a2 : Int32) (σ : St) : Option (Int32 × St) :=
  lt (ix (σ.1 0 6)) fun r1 => ck (isTd r1) (
  bd2 (td_has N r1 a1 σ) fun v3 σ2 =>
  if v3 = 0 then (
    some ((-1), σ2))
  else (
    bd2 (wb_within N a2 0 1 σ2) fun v5 σ4 =>
    if v5 = 0 then (
      some ((-1), σ4))
    else (
      bd2 (wb_span N  σ4) fun r7 σ6 => ck (isSp r7) (
      bd2 (wb_rowsToGap N r7 σ6) fun v9 σ8 =>
      bd2 (sp_lengthOf N r7 ((σ8.1 r7 3) + v9) σ8) fun v11 σ10 =>
      lt (ix (σ10.1 0 6)) fun r12 => ck (isTd r12) (
      lt (ix (σ10.1 0 6)) fun r13 => ck (isTd r13) (
      if v11 ≤ ((σ10.1 r12 5) + (σ10.1 r13 6)) then (
        lt (ix (σ10.1 0 6)) fun r14 => ck (isTd r14) (
        ck (inb a1 6) (
        lt (((σ10.1 (r14 + 1) (ix a1)) + 1) / 2) fun x15 =>
        if a2 = 1 then (
          some (v9, σ10))
        else (
          bd2 (sp_woolFor N r7 x15 σ10) fun v17 σ16 =>
          some ((v17 + (v9 * x15)), σ16)))))
      else (
        some ((-5), σ10))))))))
set_option maxRecDepth 20000 in
theorem k_wb_mend {l : Launch} {D : va_G} {cA : Nat → ClassId} {π : Nat → Nat} (N : Nat) (a1 : Int32) (a2 : Int32)  {σ : St} {vo : Int32} {σo : St} (h : wb_mend N a1 a2 σ = some (vo, σo)) : Kt l D cA π shC yX6_mend cX6_mend 6 (some .int) 3 103 [.ref (π 0), .int a1, .int a2] σ (some (.int vo)) σo := by
  refine Kt.of (by decide) (Nat.le_of_ble_eq_true rfl) (L := [(0, .ref (π 0)), (1, .int a1), (2, .int a2)]) rfl (fun Γ C => ?_)
  have C0 := C.1
  unfold wb_mend at h
  refine x_aload_n C0 dX6_mend_0 rfl ?_
  refine gt_X6_48 C dX6_mend_1 ?_
  refine x_nmr h (fun r1 h => ?_)
  refine x_chk h (fun q h => ?_)
  have hr1 := isTd_sh q
  refine x_iload_n C0 dX6_mend_4 rfl ?_
  obtain ⟨v3, σ2, hc, h⟩ := bd2_some h
  refine x_callVi C (k_td_has N r1 a1 hr1 hc) umX6_80 ui_X5_has us_X5_has un_X5 uc_X5_has hv_X5_has rfl (by decide) hr1 rfl dX6_mend_5 (rest := []) rfl (Nat.le_of_ble_eq_true rfl) ?_
  refine x_if_eq C0 (tgt := 20) dX6_mend_8 (by decide) h (fun h => ?_) (fun h => ?_)
  · refine x_iconst C0 (v := (-1)) dX6_mend_20 (by decide) ?_
    exact x_iret C dX6_mend_21 h
  · refine x_iload_n C0 dX6_mend_11 rfl ?_
    refine x_iconst C0 (v := 0) dX6_mend_12 (by decide) ?_
    refine x_iconst C0 (v := 1) dX6_mend_13 (by decide) ?_
    obtain ⟨v5, σ4, hc, h⟩ := bd2_some h
    refine x_callSi C (k_wb_within N a2 0 1  hc) umX6_55 ut_X6_within un_X6 uc_X6_within hs_X6_within rfl (by decide) dX6_mend_14 (rest := []) rfl (Nat.le_of_ble_eq_true rfl) ?_
    refine x_if_ne C0 (tgt := 22) dX6_mend_17 (by decide) h (fun h => ?_) (fun h => ?_)
    · refine x_aload_n C0 dX6_mend_22 rfl ?_
      obtain ⟨r7, σ6, hc, h⟩ := bd2_some h
      refine x_callVr C (k_wb_span N  hc) umX6_90 ui_X6_span us_X6_span un_X6 uc_X6_span hv_X6_span rfl (by decide) (fks := [4, 6, 44, 121, 122, 125, 2, 2, 1]) rfl rfl dX6_mend_23 (rest := []) rfl (Nat.le_of_ble_eq_true rfl) ?_
      refine x_chk h (fun q h => ?_)
      have hr7 := isSp_sh q
      refine x_astore_n C0 (L' := [(3, .ref (π r7)), (0, .ref (π 0)), (1, .int a1), (2, .int a2)]) dX6_mend_26 (by decide) rfl ?_
      refine x_aload_n C0 dX6_mend_27 rfl ?_
      refine x_aload_n C0 dX6_mend_28 rfl ?_
      obtain ⟨v9, σ8, hc, h⟩ := bd2_some h
      refine x_callVi C (k_wb_rowsToGap N r7 hr7 hc) umX6_187 ui_X6_rowsToGap us_X6_rowsToGap un_X6 uc_X6_rowsToGap hv_X6_rowsToGap rfl (by decide) (fks := [4, 6, 44, 121, 122, 125, 2, 2, 1]) rfl rfl dX6_mend_29 (rest := []) rfl (Nat.le_of_ble_eq_true rfl) ?_
      refine x_istore C0 (L' := [(4, .int v9), (3, .ref (π r7)), (0, .ref (π 0)), (1, .int a1), (2, .int a2)]) dX6_mend_32 (by decide) rfl ?_
      refine x_aload_n C0 dX6_mend_34 rfl ?_
      refine x_aload_n C0 dX6_mend_35 rfl ?_
      refine gt_X6_121 C hr7 dX6_mend_36 ?_
      refine x_iload C0 dX6_mend_39 rfl ?_
      refine x_iadd C0 dX6_mend_41 ?_
      obtain ⟨v11, σ10, hc, h⟩ := bd2_some h
      refine x_callVi C (k_sp_lengthOf N r7 ((σ8.1 r7 3) + v9) hr7 hc) umX6_191 ui_X3_lengthOf us_X3_lengthOf un_X3 uc_X3_lengthOf hv_X3_lengthOf rfl (by decide) hr7 rfl dX6_mend_42 (rest := []) rfl (Nat.le_of_ble_eq_true rfl) ?_
      refine x_aload_n C0 dX6_mend_45 rfl ?_
      refine gt_X6_48 C dX6_mend_46 ?_
      refine x_nmr h (fun r12 h => ?_)
      refine x_chk h (fun q h => ?_)
      have hr12 := isTd_sh q
      refine gt_X6_194 C hr12 dX6_mend_49 ?_
      refine x_aload_n C0 dX6_mend_52 rfl ?_
      refine gt_X6_48 C dX6_mend_53 ?_
      refine x_nmr h (fun r13 h => ?_)
      refine x_chk h (fun q h => ?_)
      have hr13 := isTd_sh q
      refine gt_X6_197 C hr13 dX6_mend_56 ?_
      refine x_iadd C0 dX6_mend_59 ?_
      refine x_icmp_le C0 (tgt := 66) dX6_mend_60 (by decide) h (fun h => ?_) (fun h => ?_)
      · refine x_aload_n C0 dX6_mend_66 rfl ?_
        refine gt_X6_48 C dX6_mend_67 ?_
        refine x_nmr h (fun r14 h => ?_)
        refine x_chk h (fun q h => ?_)
        have hr14 := isTd_sh q
        refine gt_X6_83 C hr14 dX6_mend_70 ?_
        refine x_iload_n C0 dX6_mend_73 rfl ?_
        refine x_iald C (k := (r14 + 1)) (z := 6) (sh_X5_heavy hr14) dX6_mend_74 h (fun h => ?_)
        refine x_iconst C0 (v := 1) dX6_mend_75 (by decide) ?_
        refine x_iadd C0 dX6_mend_76 ?_
        refine x_iconst C0 (v := 2) dX6_mend_77 (by decide) ?_
        refine x_idiv C0 (by decide) dX6_mend_78 ?_
        refine x_nm h (fun x15 h => ?_)
        refine x_istore C0 (L' := [(5, .int x15), (4, .int v9), (3, .ref (π r7)), (0, .ref (π 0)), (1, .int a1), (2, .int a2)]) dX6_mend_79 (by decide) rfl ?_
        refine x_iload_n C0 dX6_mend_81 rfl ?_
        refine x_iconst C0 (v := 1) dX6_mend_82 (by decide) ?_
        refine x_icmp_ne C0 (tgt := 91) dX6_mend_83 (by decide) h (fun h => ?_) (fun h => ?_)
        · refine x_aload_n C0 dX6_mend_91 rfl ?_
          refine x_iload C0 dX6_mend_92 rfl ?_
          obtain ⟨v17, σ16, hc, h⟩ := bd2_some h
          refine x_callVi C (k_sp_woolFor N r7 x15 hr7 hc) umX6_200 ui_X3_woolFor us_X3_woolFor un_X3 uc_X3_woolFor hv_X3_woolFor rfl (by decide) hr7 rfl dX6_mend_94 (rest := []) rfl (Nat.le_of_ble_eq_true rfl) ?_
          refine x_iload C0 dX6_mend_97 rfl ?_
          refine x_iload C0 dX6_mend_99 rfl ?_
          refine x_imul C0 dX6_mend_101 ?_
          refine x_iadd C0 dX6_mend_102 ?_
          exact x_iret C dX6_mend_103 h
        · refine x_iload C0 dX6_mend_86 rfl ?_
          refine x_goto C0 (tgt := 103) dX6_mend_88 (by decide) ?_
          exact x_iret C dX6_mend_103 h
      · refine x_bipush C0 (v := (-5)) dX6_mend_63 (by decide) ?_
        exact x_iret C dX6_mend_65 h
    · refine x_iconst C0 (v := (-1)) dX6_mend_20 (by decide) ?_
      exact x_iret C dX6_mend_21 h
def wb_chancesAfter_J45 (N : Nat) (r2 : Nat) (x2_45 : Int32) (x3_45 : Int32) (x5_45 : Int32) (x6_45 : Int32) (σ45 : St) : Option (Int32 × St) :=
  lt (ix (σ45.1 0 6)) fun r10 => ck (isTd r10) (
  bd2 (wb_lengthWith N (σ45.1 r2 3) 0 σ45) fun v12 σ11 =>
  bd2 (td_holds N r10 x2_45 v12 x5_45 σ11) fun v14 σ13 =>
  if v14 = 0 then (
    some (x6_45, σ13))
  else (
    lt (x6_45 + (10 - x3_45)) fun x15 =>
    some (x15, σ13)))
def wb_chancesAfter (N : Nat) (a1 : Int32) (a2 : Int32) (a3 : Int32) (σ : St) : Option (Int32 × St) :=
  bd2 (wb_span N  σ) fun r2 σ1 => ck (isSp r2) (
  bd2 (sp_leastAfter N r2 a1 σ1) fun v4 σ3 =>
  lt (ix (σ3.1 0 6)) fun r5 => ck (isTd r5) (
  bd2 (wb_lengthWith N (σ3.1 r2 3) 1 σ3) fun v7 σ6 =>
  bd2 (td_holds N r5 a2 v7 v4 σ6) fun v9 σ8 =>
  if v9 = 0 then (
    wb_chancesAfter_J45 N r2 a2 a3 v4 0 σ8)
  else (
    lt (0 + a3) fun x16 =>
    wb_chancesAfter_J45 N r2 a2 a3 v4 x16 σ8)))
set_option maxRecDepth 20000 in
theorem w_wb_chancesAfter_J45 {l : Launch} {D : va_G} {cA : Nat → ClassId} {π : Nat → Nat} {Γ : Gx St} {vo : Int32} {σo : St} (C : Cm Γ cX6_chancesAfter RX6 cA 3 126 7 l D π shC (some .int) (some (.int vo), σo)) (N : Nat) (r2 : Nat) (x2_45 : Int32) (x3_45 : Int32) (x5_45 : Int32) (x6_45 : Int32) (σ45 : St) (hr2 : shC[r2]? = some shX3) (h : wb_chancesAfter_J45 N r2 x2_45 x3_45 x5_45 x6_45 σ45 = some (vo, σo)) : Wx Γ σ45 45 [(0, .ref (π 0)), (2, .int x2_45), (3, .int x3_45), (4, .ref (π r2)), (5, .int x5_45), (6, .int x6_45)] [] := by
  have C0 := C.1
  unfold wb_chancesAfter_J45 at h
  refine x_aload_n C0 dX6_chancesAfter_45 rfl ?_
  refine gt_X6_48 C dX6_chancesAfter_46 ?_
  refine x_nmr h (fun r10 h => ?_)
  refine x_chk h (fun q h => ?_)
  have hr10 := isTd_sh q
  refine x_iload_n C0 dX6_chancesAfter_49 rfl ?_
  refine x_aload C0 dX6_chancesAfter_50 rfl ?_
  refine gt_X6_121 C hr2 dX6_chancesAfter_52 ?_
  refine x_iconst C0 (v := 0) dX6_chancesAfter_55 (by decide) ?_
  obtain ⟨v12, σ11, hc, h⟩ := bd2_some h
  refine x_callSi C (k_wb_lengthWith N (σ45.1 r2 3) 0  hc) umX6_257 ut_X6_lengthWith un_X6 uc_X6_lengthWith hs_X6_lengthWith rfl (by decide) dX6_chancesAfter_56 (rest := [.int x2_45, .ref (π r10)]) rfl (Nat.le_of_ble_eq_true rfl) ?_
  refine x_iload C0 dX6_chancesAfter_59 rfl ?_
  obtain ⟨v14, σ13, hc, h⟩ := bd2_some h
  refine x_callVi C (k_td_holds N r10 x2_45 v12 x5_45 hr10 hc) umX6_184 ui_X5_holds us_X5_holds un_X5 uc_X5_holds hv_X5_holds rfl (by decide) hr10 rfl dX6_chancesAfter_61 (rest := []) rfl (Nat.le_of_ble_eq_true rfl) ?_
  refine x_if_eq C0 (tgt := 76) dX6_chancesAfter_64 (by decide) h (fun h => ?_) (fun h => ?_)
  · refine x_iload C0 dX6_chancesAfter_76 rfl ?_
    exact x_iret C dX6_chancesAfter_78 h
  · refine x_iload C0 dX6_chancesAfter_67 rfl ?_
    refine x_bipush C0 (v := 10) dX6_chancesAfter_69 (by decide) ?_
    refine x_iload_n C0 dX6_chancesAfter_71 rfl ?_
    refine x_isub C0 dX6_chancesAfter_72 ?_
    refine x_iadd C0 dX6_chancesAfter_73 ?_
    refine x_nm h (fun x15 h => ?_)
    refine x_istore C0 (L' := [(6, .int x15), (0, .ref (π 0)), (2, .int x2_45), (3, .int x3_45), (4, .ref (π r2)), (5, .int x5_45)]) dX6_chancesAfter_74 (by decide) rfl ?_
    refine x_iload C0 dX6_chancesAfter_76 rfl ?_
    exact x_iret C dX6_chancesAfter_78 h
set_option maxRecDepth 20000 in
theorem k_wb_chancesAfter {l : Launch} {D : va_G} {cA : Nat → ClassId} {π : Nat → Nat} (N : Nat) (a1 : Int32) (a2 : Int32) (a3 : Int32)  {σ : St} {vo : Int32} {σo : St} (h : wb_chancesAfter N a1 a2 a3 σ = some (vo, σo)) : Kt l D cA π shC yX6_chancesAfter cX6_chancesAfter 7 (some .int) 3 126 [.ref (π 0), .int a1, .int a2, .int a3] σ (some (.int vo)) σo := by
  refine Kt.of (by decide) (Nat.le_of_ble_eq_true rfl) (L := [(0, .ref (π 0)), (1, .int a1), (2, .int a2), (3, .int a3)]) rfl (fun Γ C => ?_)
  have C0 := C.1
  unfold wb_chancesAfter at h
  refine x_aload_n C0 dX6_chancesAfter_0 rfl ?_
  obtain ⟨r2, σ1, hc, h⟩ := bd2_some h
  refine x_callVr C (k_wb_span N  hc) umX6_90 ui_X6_span us_X6_span un_X6 uc_X6_span hv_X6_span rfl (by decide) (fks := [4, 6, 44, 121, 122, 125, 2, 2, 1]) rfl rfl dX6_chancesAfter_1 (rest := []) rfl (Nat.le_of_ble_eq_true rfl) ?_
  refine x_chk h (fun q h => ?_)
  have hr2 := isSp_sh q
  refine x_astore C0 (L' := [(4, .ref (π r2)), (0, .ref (π 0)), (1, .int a1), (2, .int a2), (3, .int a3)]) dX6_chancesAfter_4 (by decide) rfl ?_
  refine x_aload C0 dX6_chancesAfter_6 rfl ?_
  refine x_iload_n C0 dX6_chancesAfter_8 rfl ?_
  obtain ⟨v4, σ3, hc, h⟩ := bd2_some h
  refine x_callVi C (k_sp_leastAfter N r2 a1 hr2 hc) umX6_181 ui_X3_leastAfter us_X3_leastAfter un_X3 uc_X3_leastAfter hv_X3_leastAfter rfl (by decide) hr2 rfl dX6_chancesAfter_9 (rest := []) rfl (Nat.le_of_ble_eq_true rfl) ?_
  refine x_istore C0 (L' := [(5, .int v4), (4, .ref (π r2)), (0, .ref (π 0)), (1, .int a1), (2, .int a2), (3, .int a3)]) dX6_chancesAfter_12 (by decide) rfl ?_
  refine x_iconst C0 (v := 0) dX6_chancesAfter_14 (by decide) ?_
  refine x_istore C0 (L' := [(6, .int 0), (5, .int v4), (4, .ref (π r2)), (0, .ref (π 0)), (1, .int a1), (2, .int a2), (3, .int a3)]) dX6_chancesAfter_15 (by decide) rfl ?_
  refine x_aload_n C0 dX6_chancesAfter_17 rfl ?_
  refine gt_X6_48 C dX6_chancesAfter_18 ?_
  refine x_nmr h (fun r5 h => ?_)
  refine x_chk h (fun q h => ?_)
  have hr5 := isTd_sh q
  refine x_iload_n C0 dX6_chancesAfter_21 rfl ?_
  refine x_aload C0 dX6_chancesAfter_22 rfl ?_
  refine gt_X6_121 C hr2 dX6_chancesAfter_24 ?_
  refine x_iconst C0 (v := 1) dX6_chancesAfter_27 (by decide) ?_
  obtain ⟨v7, σ6, hc, h⟩ := bd2_some h
  refine x_callSi C (k_wb_lengthWith N (σ3.1 r2 3) 1  hc) umX6_257 ut_X6_lengthWith un_X6 uc_X6_lengthWith hs_X6_lengthWith rfl (by decide) dX6_chancesAfter_28 (rest := [.int a2, .ref (π r5)]) rfl (Nat.le_of_ble_eq_true rfl) ?_
  refine x_iload C0 dX6_chancesAfter_31 rfl ?_
  obtain ⟨v9, σ8, hc, h⟩ := bd2_some h
  refine x_callVi C (k_td_holds N r5 a2 v7 v4 hr5 hc) umX6_184 ui_X5_holds us_X5_holds un_X5 uc_X5_holds hv_X5_holds rfl (by decide) hr5 rfl dX6_chancesAfter_33 (rest := []) rfl (Nat.le_of_ble_eq_true rfl) ?_
  refine x_if_eq C0 (tgt := 45) dX6_chancesAfter_36 (by decide) h (fun h => ?_) (fun h => ?_)
  · exact x_pick [3, 5, 6, 2, 1, 0] rfl (w_wb_chancesAfter_J45 C N r2 a2 a3 v4 0 σ8 hr2 h)
  · refine x_iload C0 dX6_chancesAfter_39 rfl ?_
    refine x_iload_n C0 dX6_chancesAfter_41 rfl ?_
    refine x_iadd C0 dX6_chancesAfter_42 ?_
    refine x_nm h (fun x16 h => ?_)
    refine x_istore C0 (L' := [(6, .int x16), (5, .int v4), (4, .ref (π r2)), (0, .ref (π 0)), (1, .int a1), (2, .int a2), (3, .int a3)]) dX6_chancesAfter_43 (by decide) rfl ?_
    exact x_pick [3, 5, 6, 2, 1, 0] rfl (w_wb_chancesAfter_J45 C N r2 a2 a3 v4 x16 σ8 hr2 h)
def wb_commonDivisor_L7 (N : Nat) : Nat → Int32 → Int32 → Int32 → St → Option (Int32 × St)
  | 0, _, _, _, _ => none
  | n + 1, x2_7, x3_7, x4_7, σ7 =>
    if 64 ≤ x4_7 then (
      some (x2_7, σ7))
    else (
      if x3_7 = 0 then (
        some (x2_7, σ7))
      else (
        ck (nz x3_7) (
        lt (rem x2_7 x3_7) fun x1 =>
        lt (x4_7 + 1) fun x2 =>
        (wb_commonDivisor_L7 N n) x3_7 x1 x2 σ7)))
def wb_commonDivisor (N : Nat) (a1 : Int32) (a2 : Int32) (σ : St) : Option (Int32 × St) :=
  bd2 (wb_commonDivisor_L7 N N a1 a2 0 σ) fun x3 σ4 =>
  some (x3, σ4)
set_option maxRecDepth 20000 in
theorem w_wb_commonDivisor_L7 {l : Launch} {D : va_G} {cA : Nat → ClassId} {π : Nat → Nat} {Γ : Gx St} {vo : Int32} {σo : St} (C : Cm Γ cX6_commonDivisor RX6 cA 0 0 6 l D π shC (some .int) (some (.int vo), σo)) (N : Nat)  (yo : Int32 × St) (kk7 : ∀ e2_7 σe, (e2_7, σe) = yo → Wx Γ σe 34 [(2, .int e2_7)] []) : ∀ (n : Nat) (x2_7 : Int32) (x3_7 : Int32) (x4_7 : Int32) (σ7 : St), wb_commonDivisor_L7 N n x2_7 x3_7 x4_7 σ7 = some yo → Wx Γ σ7 7 [(2, .int x2_7), (3, .int x3_7), (4, .int x4_7)] [] := by
  have C0 := C.1
  intro n
  induction n with
  | zero => intro x2_7 x3_7 x4_7 σ7 h; cases h
  | succ n ih =>
    intro x2_7 x3_7 x4_7 σ7 h
    rw [wb_commonDivisor_L7] at h
    refine x_iload C0 dX6_commonDivisor_7 rfl ?_
    refine x_bipush C0 (v := 64) dX6_commonDivisor_9 (by decide) ?_
    refine x_icmp_ge C0 (tgt := 34) dX6_commonDivisor_11 (by decide) h (fun h => ?_) (fun h => ?_)
    · exact x_pick [0] rfl (kk7 _ _ (Option.some.inj h))
    · refine x_iload_n C0 dX6_commonDivisor_14 rfl ?_
      refine x_if_eq C0 (tgt := 34) dX6_commonDivisor_15 (by decide) h (fun h => ?_) (fun h => ?_)
      · exact x_pick [0] rfl (kk7 _ _ (Option.some.inj h))
      · refine x_iload_n C0 dX6_commonDivisor_18 rfl ?_
        refine x_iload_n C0 dX6_commonDivisor_19 rfl ?_
        refine x_chk h (fun q h => ?_)
        refine x_irem C0 (nz_ne q) dX6_commonDivisor_20 ?_
        refine x_nm h (fun x1 h => ?_)
        refine x_istore C0 (L' := [(5, .int x1), (2, .int x2_7), (3, .int x3_7), (4, .int x4_7)]) dX6_commonDivisor_21 (by decide) rfl ?_
        refine x_iload_n C0 dX6_commonDivisor_23 rfl ?_
        refine x_istore_n C0 (L' := [(2, .int x3_7), (5, .int x1), (3, .int x3_7), (4, .int x4_7)]) dX6_commonDivisor_24 (by decide) rfl ?_
        refine x_iload C0 dX6_commonDivisor_25 rfl ?_
        refine x_istore_n C0 (L' := [(3, .int x1), (2, .int x3_7), (5, .int x1), (4, .int x4_7)]) dX6_commonDivisor_27 (by decide) rfl ?_
        refine x_iinc C0 (j := 3) (v := 1) (L' := fun x2 => [(4, .int x2), (3, .int x1), (2, .int x3_7), (5, .int x1)]) dX6_commonDivisor_28 rfl (by decide) (by decide) (fun _ => rfl) h (fun x2 h => ?_)
        refine x_goto C0 (tgt := 7) dX6_commonDivisor_31 (by decide) ?_
        exact x_pick [2, 1, 0] rfl (ih _ _ _ _ h)
set_option maxRecDepth 20000 in
theorem k_wb_commonDivisor {l : Launch} {D : va_G} {cA : Nat → ClassId} {π : Nat → Nat} (N : Nat) (a1 : Int32) (a2 : Int32)  {σ : St} {vo : Int32} {σo : St} (h : wb_commonDivisor N a1 a2 σ = some (vo, σo)) : Kt l D cA π shC yX6_commonDivisor cX6_commonDivisor 6 (some .int) 0 0 [.int a1, .int a2] σ (some (.int vo)) σo := by
  refine Kt.of (by decide) (Nat.le_of_ble_eq_true rfl) (L := [(0, .int a1), (1, .int a2)]) rfl (fun Γ C => ?_)
  have C0 := C.1
  unfold wb_commonDivisor at h
  refine x_iload_n C0 dX6_commonDivisor_0 rfl ?_
  refine x_istore_n C0 (L' := [(2, .int a1), (0, .int a1), (1, .int a2)]) dX6_commonDivisor_1 (by decide) rfl ?_
  refine x_iload_n C0 dX6_commonDivisor_2 rfl ?_
  refine x_istore_n C0 (L' := [(3, .int a2), (2, .int a1), (0, .int a1), (1, .int a2)]) dX6_commonDivisor_3 (by decide) rfl ?_
  refine x_iconst C0 (v := 0) dX6_commonDivisor_4 (by decide) ?_
  refine x_istore C0 (L' := [(4, .int 0), (3, .int a2), (2, .int a1), (0, .int a1), (1, .int a2)]) dX6_commonDivisor_5 (by decide) rfl ?_
  obtain ⟨x3, σ4, hL, h⟩ := bd2_some h
  refine x_pick [2, 1, 0] rfl (w_wb_commonDivisor_L7 C N _ (fun b0 b1 e => ?_) N a1 a2 0 σ hL)
  cases e
  refine x_iload_n C0 dX6_commonDivisor_34 rfl ?_
  exact x_iret C dX6_commonDivisor_35 h
def wb_odds_L52 (N : Nat) (c3_52 : Int32) (c1_52 : Int32) (c2_52 : Int32) (c4_52 : Int32) : Nat → Int32 → Int32 → Int32 → St → Option (Int32 × Int32 × St)
  | 0, _, _, _, _ => none
  | n + 1, x5_52, x6_52, x7_52, σ52 =>
    if c3_52 < x7_52 then (
      some (x5_52, x6_52, σ52))
    else (
      bd2 (wb_chancesAfter N x7_52 c1_52 c2_52 σ52) fun v11 σ10 =>
      lt (x5_52 * v11) fun x12 =>
      lt (x6_52 * 10) fun x13 =>
      lt (x7_52 + 1) fun x14 =>
      (wb_odds_L52 N c3_52 c1_52 c2_52 c4_52 n) x12 x13 x14 σ10)
def wb_odds (N : Nat) (a1 : Int32) (a2 : Int32) (a3 : Int32) (a4 : Int32) (σ : St) : Option (Int32 × St) :=
  lt (ix (σ.1 0 6)) fun r1 => ck (isTd r1) (
  bd2 (td_has N r1 a1 σ) fun v3 σ2 =>
  if v3 = 0 then (
    some ((-1), σ2))
  else (
    bd2 (wb_within N a2 0 10 σ2) fun v5 σ4 =>
    if v5 = 0 then (
      some ((-1), σ4))
    else (
      bd2 (wb_within N a3 0 6 σ4) fun v7 σ6 =>
      if v7 = 0 then (
        some ((-1), σ6))
      else (
        bd2 (wb_within N a4 0 1 σ6) fun v9 σ8 =>
        if v9 = 0 then (
          some ((-1), σ8))
        else (
          bd3 (wb_odds_L52 N a3 a1 a2 a4 N 1 1 1 σ8) fun x15 x16 σ17 =>
          bd2 (wb_commonDivisor N x15 x16 σ17) fun v19 σ18 =>
          lt (mx 1 v19) fun x20 =>
          if a4 = 0 then (
            ck (nz x20) (
            some ((x15 / x20), σ18)))
          else (
            ck (nz x20) (
            some ((x16 / x20), σ18))))))))
set_option maxRecDepth 20000 in
theorem w_wb_odds_L52 {l : Launch} {D : va_G} {cA : Nat → ClassId} {π : Nat → Nat} {Γ : Gx St} {vo : Int32} {σo : St} (C : Cm Γ cX6_odds RX6 cA 4 152 8 l D π shC (some .int) (some (.int vo), σo)) (N : Nat) (c3_52 : Int32) (c1_52 : Int32) (c2_52 : Int32) (c4_52 : Int32)  (yo : Int32 × Int32 × St) (kk52 : ∀ e5_52 e6_52 σe, (e5_52, e6_52, σe) = yo → Wx Γ σe 84 [(4, .int c4_52), (5, .int e5_52), (6, .int e6_52)] []) : ∀ (n : Nat) (x5_52 : Int32) (x6_52 : Int32) (x7_52 : Int32) (σ52 : St), wb_odds_L52 N c3_52 c1_52 c2_52 c4_52 n x5_52 x6_52 x7_52 σ52 = some yo → Wx Γ σ52 52 [(0, .ref (π 0)), (1, .int c1_52), (2, .int c2_52), (3, .int c3_52), (4, .int c4_52), (5, .int x5_52), (6, .int x6_52), (7, .int x7_52)] [] := by
  have C0 := C.1
  intro n
  induction n with
  | zero => intro x5_52 x6_52 x7_52 σ52 h; cases h
  | succ n ih =>
    intro x5_52 x6_52 x7_52 σ52 h
    rw [wb_odds_L52] at h
    refine x_iload C0 dX6_odds_52 rfl ?_
    refine x_iload_n C0 dX6_odds_54 rfl ?_
    refine x_icmp_gt C0 (tgt := 84) dX6_odds_55 (by decide) h (fun h => ?_) (fun h => ?_)
    · exact x_pick [4, 5, 6] rfl (kk52 _ _ _ (Option.some.inj h))
    · refine x_iload C0 dX6_odds_58 rfl ?_
      refine x_aload_n C0 dX6_odds_60 rfl ?_
      refine x_iload C0 dX6_odds_61 rfl ?_
      refine x_iload_n C0 dX6_odds_63 rfl ?_
      refine x_iload_n C0 dX6_odds_64 rfl ?_
      obtain ⟨v11, σ10, hc, h⟩ := bd2_some h
      refine x_callVi C (k_wb_chancesAfter N x7_52 c1_52 c2_52  hc) umX6_203 ui_X6_chancesAfter us_X6_chancesAfter un_X6 uc_X6_chancesAfter hv_X6_chancesAfter rfl (by decide) (fks := [4, 6, 44, 121, 122, 125, 2, 2, 1]) rfl rfl dX6_odds_65 (rest := [.int x5_52]) rfl (Nat.le_of_ble_eq_true rfl) ?_
      refine x_imul C0 dX6_odds_68 ?_
      refine x_nm h (fun x12 h => ?_)
      refine x_istore C0 (L' := [(5, .int x12), (0, .ref (π 0)), (1, .int c1_52), (2, .int c2_52), (3, .int c3_52), (4, .int c4_52), (6, .int x6_52), (7, .int x7_52)]) dX6_odds_69 (by decide) rfl ?_
      refine x_iload C0 dX6_odds_71 rfl ?_
      refine x_bipush C0 (v := 10) dX6_odds_73 (by decide) ?_
      refine x_imul C0 dX6_odds_75 ?_
      refine x_nm h (fun x13 h => ?_)
      refine x_istore C0 (L' := [(6, .int x13), (5, .int x12), (0, .ref (π 0)), (1, .int c1_52), (2, .int c2_52), (3, .int c3_52), (4, .int c4_52), (7, .int x7_52)]) dX6_odds_76 (by decide) rfl ?_
      refine x_iinc C0 (j := 7) (v := 1) (L' := fun x14 => [(7, .int x14), (6, .int x13), (5, .int x12), (0, .ref (π 0)), (1, .int c1_52), (2, .int c2_52), (3, .int c3_52), (4, .int c4_52)]) dX6_odds_78 rfl (by decide) (by decide) (fun _ => rfl) h (fun x14 h => ?_)
      refine x_goto C0 (tgt := 52) dX6_odds_81 (by decide) ?_
      exact x_pick [3, 4, 5, 6, 7, 2, 1, 0] rfl (ih _ _ _ _ h)
set_option maxRecDepth 20000 in
theorem k_wb_odds {l : Launch} {D : va_G} {cA : Nat → ClassId} {π : Nat → Nat} (N : Nat) (a1 : Int32) (a2 : Int32) (a3 : Int32) (a4 : Int32)  {σ : St} {vo : Int32} {σo : St} (h : wb_odds N a1 a2 a3 a4 σ = some (vo, σo)) : Kt l D cA π shC yX6_odds cX6_odds 8 (some .int) 4 152 [.ref (π 0), .int a1, .int a2, .int a3, .int a4] σ (some (.int vo)) σo := by
  refine Kt.of (by decide) (Nat.le_of_ble_eq_true rfl) (L := [(0, .ref (π 0)), (1, .int a1), (2, .int a2), (3, .int a3), (4, .int a4)]) rfl (fun Γ C => ?_)
  have C0 := C.1
  unfold wb_odds at h
  refine x_aload_n C0 dX6_odds_0 rfl ?_
  refine gt_X6_48 C dX6_odds_1 ?_
  refine x_nmr h (fun r1 h => ?_)
  refine x_chk h (fun q h => ?_)
  have hr1 := isTd_sh q
  refine x_iload_n C0 dX6_odds_4 rfl ?_
  obtain ⟨v3, σ2, hc, h⟩ := bd2_some h
  refine x_callVi C (k_td_has N r1 a1 hr1 hc) umX6_80 ui_X5_has us_X5_has un_X5 uc_X5_has hv_X5_has rfl (by decide) hr1 rfl dX6_odds_5 (rest := []) rfl (Nat.le_of_ble_eq_true rfl) ?_
  refine x_if_eq C0 (tgt := 41) dX6_odds_8 (by decide) h (fun h => ?_) (fun h => ?_)
  · refine x_iconst C0 (v := (-1)) dX6_odds_41 (by decide) ?_
    exact x_iret C dX6_odds_42 h
  · refine x_iload_n C0 dX6_odds_11 rfl ?_
    refine x_iconst C0 (v := 0) dX6_odds_12 (by decide) ?_
    refine x_bipush C0 (v := 10) dX6_odds_13 (by decide) ?_
    obtain ⟨v5, σ4, hc, h⟩ := bd2_some h
    refine x_callSi C (k_wb_within N a2 0 10  hc) umX6_55 ut_X6_within un_X6 uc_X6_within hs_X6_within rfl (by decide) dX6_odds_15 (rest := []) rfl (Nat.le_of_ble_eq_true rfl) ?_
    refine x_if_eq C0 (tgt := 41) dX6_odds_18 (by decide) h (fun h => ?_) (fun h => ?_)
    · refine x_iconst C0 (v := (-1)) dX6_odds_41 (by decide) ?_
      exact x_iret C dX6_odds_42 h
    · refine x_iload_n C0 dX6_odds_21 rfl ?_
      refine x_iconst C0 (v := 0) dX6_odds_22 (by decide) ?_
      refine x_bipush C0 (v := 6) dX6_odds_23 (by decide) ?_
      obtain ⟨v7, σ6, hc, h⟩ := bd2_some h
      refine x_callSi C (k_wb_within N a3 0 6  hc) umX6_55 ut_X6_within un_X6 uc_X6_within hs_X6_within rfl (by decide) dX6_odds_25 (rest := []) rfl (Nat.le_of_ble_eq_true rfl) ?_
      refine x_if_eq C0 (tgt := 41) dX6_odds_28 (by decide) h (fun h => ?_) (fun h => ?_)
      · refine x_iconst C0 (v := (-1)) dX6_odds_41 (by decide) ?_
        exact x_iret C dX6_odds_42 h
      · refine x_iload C0 dX6_odds_31 rfl ?_
        refine x_iconst C0 (v := 0) dX6_odds_33 (by decide) ?_
        refine x_iconst C0 (v := 1) dX6_odds_34 (by decide) ?_
        obtain ⟨v9, σ8, hc, h⟩ := bd2_some h
        refine x_callSi C (k_wb_within N a4 0 1  hc) umX6_55 ut_X6_within un_X6 uc_X6_within hs_X6_within rfl (by decide) dX6_odds_35 (rest := []) rfl (Nat.le_of_ble_eq_true rfl) ?_
        refine x_if_ne C0 (tgt := 43) dX6_odds_38 (by decide) h (fun h => ?_) (fun h => ?_)
        · refine x_iconst C0 (v := 1) dX6_odds_43 (by decide) ?_
          refine x_istore C0 (L' := [(5, .int 1), (0, .ref (π 0)), (1, .int a1), (2, .int a2), (3, .int a3), (4, .int a4)]) dX6_odds_44 (by decide) rfl ?_
          refine x_iconst C0 (v := 1) dX6_odds_46 (by decide) ?_
          refine x_istore C0 (L' := [(6, .int 1), (5, .int 1), (0, .ref (π 0)), (1, .int a1), (2, .int a2), (3, .int a3), (4, .int a4)]) dX6_odds_47 (by decide) rfl ?_
          refine x_iconst C0 (v := 1) dX6_odds_49 (by decide) ?_
          refine x_istore C0 (L' := [(7, .int 1), (6, .int 1), (5, .int 1), (0, .ref (π 0)), (1, .int a1), (2, .int a2), (3, .int a3), (4, .int a4)]) dX6_odds_50 (by decide) rfl ?_
          obtain ⟨x15, x16, σ17, hL, h⟩ := bd3_some h
          refine x_pick [3, 4, 5, 6, 7, 2, 1, 0] rfl (w_wb_odds_L52 C N a3 a1 a2 a4 _ (fun b0 b1 b2 e => ?_) N 1 1 1 σ8 hL)
          cases e
          refine x_iconst C0 (v := 1) dX6_odds_84 (by decide) ?_
          refine x_iload C0 dX6_odds_85 rfl ?_
          refine x_iload C0 dX6_odds_87 rfl ?_
          obtain ⟨v19, σ18, hc, h⟩ := bd2_some h
          refine x_callSi C (k_wb_commonDivisor N x15 x16  hc) umX6_207 ut_X6_commonDivisor un_X6 uc_X6_commonDivisor hs_X6_commonDivisor rfl (by decide) dX6_odds_89 (rest := [.int 1]) rfl (Nat.le_of_ble_eq_true rfl) ?_
          refine x_mmax C0 umX6_211 dX6_odds_92 (Nat.le_of_ble_eq_true rfl) (Nat.le_of_ble_eq_true rfl) ?_
          refine x_nm h (fun x20 h => ?_)
          refine x_istore C0 (L' := [(7, .int x20), (4, .int a4), (5, .int x15), (6, .int x16)]) dX6_odds_95 (by decide) rfl ?_
          refine x_iload C0 dX6_odds_97 rfl ?_
          refine x_if_ne C0 (tgt := 107) dX6_odds_99 (by decide) h (fun h => ?_) (fun h => ?_)
          · refine x_iload C0 dX6_odds_107 rfl ?_
            refine x_iload C0 dX6_odds_109 rfl ?_
            refine x_chk h (fun q h => ?_)
            refine x_idiv C0 (nz_ne q) dX6_odds_111 ?_
            exact x_iret C dX6_odds_112 h
          · refine x_iload C0 dX6_odds_102 rfl ?_
            refine x_goto C0 (tgt := 109) dX6_odds_104 (by decide) ?_
            refine x_iload C0 dX6_odds_109 rfl ?_
            refine x_chk h (fun q h => ?_)
            refine x_idiv C0 (nz_ne q) dX6_odds_111 ?_
            exact x_iret C dX6_odds_112 h
        · refine x_iconst C0 (v := (-1)) dX6_odds_41 (by decide) ?_
          exact x_iret C dX6_odds_42 h
def pl_add (N : Nat) (a1 : Int32) (a2 : Int32) (σ : St) : Option (Int32 × St) :=
  if (σ.1 119 2) < 6 then (
    ck (inb (σ.1 119 2) 6) (lt (put σ 120 (ix (σ.1 119 2)) a1) fun σ1 =>
    ck (inb (σ1.1 119 2) 6) (lt (put σ1 121 (ix (σ1.1 119 2)) a2) fun σ2 =>
    lt (put σ2 119 2 ((σ2.1 119 2) + 1)) fun σ3 =>
    some (1, σ3))))
  else (
    some (0, σ))
set_option maxRecDepth 20000 in
theorem k_pl_add {l : Launch} {D : va_G} {cA : Nat → ClassId} {π : Nat → Nat} (N : Nat) (a1 : Int32) (a2 : Int32)  {σ : St} {vo : Int32} {σo : St} (h : pl_add N a1 a2 σ = some (vo, σo)) : Kt l D cA π shC yX2_add cX2_add 3 (some .boolean) 0 0 [.ref (π 119), .int a1, .int a2] σ (some (.int vo)) σo := by
  refine Kt.of (by decide) (Nat.le_of_ble_eq_true rfl) (L := [(0, .ref (π 119)), (1, .int a1), (2, .int a2)]) rfl (fun Γ C => ?_)
  have C0 := C.1
  unfold pl_add at h
  refine x_aload_n C0 dX2_add_0 rfl ?_
  refine gt_X2_18 C dX2_add_1 ?_
  refine x_bipush C0 (v := 6) dX2_add_4 (by decide) ?_
  refine x_icmp_lt C0 (tgt := 11) dX2_add_6 (by decide) h (fun h => ?_) (fun h => ?_)
  · refine x_aload_n C0 dX2_add_11 rfl ?_
    refine gt_X2_9 C dX2_add_12 ?_
    refine x_aload_n C0 dX2_add_15 rfl ?_
    refine gt_X2_18 C dX2_add_16 ?_
    refine x_iload_n C0 dX2_add_19 rfl ?_
    refine x_iast C (k := 120) (z := 6) rfl dX2_add_20 h (fun σ1 h => ?_)
    refine x_aload_n C0 dX2_add_21 rfl ?_
    refine gt_X2_15 C dX2_add_22 ?_
    refine x_aload_n C0 dX2_add_25 rfl ?_
    refine gt_X2_18 C dX2_add_26 ?_
    refine x_iload_n C0 dX2_add_29 rfl ?_
    refine x_iast C (k := 121) (z := 6) rfl dX2_add_30 h (fun σ2 h => ?_)
    refine x_aload_n C0 dX2_add_31 rfl ?_
    refine x_dup C0 rfl dX2_add_32 ?_
    refine gt_X2_18 C dX2_add_33 ?_
    refine x_iconst C0 (v := 1) dX2_add_36 (by decide) ?_
    refine x_iadd C0 dX2_add_37 ?_
    refine pt_X2_18 C dX2_add_38 h (fun σ3 h => ?_)
    refine x_iconst C0 (v := 1) dX2_add_41 (by decide) ?_
    exact x_zret C (Or.inr rfl) dX2_add_42 h
  · refine x_iconst C0 (v := 0) dX2_add_9 (by decide) ?_
    exact x_zret C (Or.inl rfl) dX2_add_10 h
def wb_plumbs (N : Nat) (a1 : Int32) (a2 : Int32) (σ : St) : Option (Int32 × St) :=
  bd2 (wb_within N a1 0 39 σ) fun v2 σ1 =>
  if v2 = 0 then (
    some ((-1), σ1))
  else (
    bd2 (wb_within N a2 0 9 σ1) fun v4 σ3 =>
    if v4 = 0 then (
      some ((-1), σ3))
    else (
      bd2 (pl_add N a1 a2 σ3) fun v6 σ5 =>
      if v6 = 0 then (
        some ((-3), σ5))
      else (
        some ((σ5.1 119 2), σ5))))
set_option maxRecDepth 20000 in
theorem k_wb_plumbs {l : Launch} {D : va_G} {cA : Nat → ClassId} {π : Nat → Nat} (N : Nat) (a1 : Int32) (a2 : Int32)  {σ : St} {vo : Int32} {σo : St} (h : wb_plumbs N a1 a2 σ = some (vo, σo)) : Kt l D cA π shC yX6_plumbs cX6_plumbs 3 (some .int) 1 22 [.ref (π 0), .int a1, .int a2] σ (some (.int vo)) σo := by
  refine Kt.of (by decide) (Nat.le_of_ble_eq_true rfl) (L := [(0, .ref (π 0)), (1, .int a1), (2, .int a2)]) rfl (fun Γ C => ?_)
  have C0 := C.1
  unfold wb_plumbs at h
  refine x_iload_n C0 dX6_plumbs_0 rfl ?_
  refine x_iconst C0 (v := 0) dX6_plumbs_1 (by decide) ?_
  refine x_bipush C0 (v := 39) dX6_plumbs_2 (by decide) ?_
  obtain ⟨v2, σ1, hc, h⟩ := bd2_some h
  refine x_callSi C (k_wb_within N a1 0 39  hc) umX6_55 ut_X6_within un_X6 uc_X6_within hs_X6_within rfl (by decide) dX6_plumbs_4 (rest := []) rfl (Nat.le_of_ble_eq_true rfl) ?_
  refine x_if_eq C0 (tgt := 20) dX6_plumbs_7 (by decide) h (fun h => ?_) (fun h => ?_)
  · refine x_iconst C0 (v := (-1)) dX6_plumbs_20 (by decide) ?_
    exact x_iret C dX6_plumbs_21 h
  · refine x_iload_n C0 dX6_plumbs_10 rfl ?_
    refine x_iconst C0 (v := 0) dX6_plumbs_11 (by decide) ?_
    refine x_bipush C0 (v := 9) dX6_plumbs_12 (by decide) ?_
    obtain ⟨v4, σ3, hc, h⟩ := bd2_some h
    refine x_callSi C (k_wb_within N a2 0 9  hc) umX6_55 ut_X6_within un_X6 uc_X6_within hs_X6_within rfl (by decide) dX6_plumbs_14 (rest := []) rfl (Nat.le_of_ble_eq_true rfl) ?_
    refine x_if_ne C0 (tgt := 22) dX6_plumbs_17 (by decide) h (fun h => ?_) (fun h => ?_)
    · refine x_aload_n C0 dX6_plumbs_22 rfl ?_
      refine gt_X6_34 C dX6_plumbs_23 ?_
      refine x_iload_n C0 dX6_plumbs_26 rfl ?_
      refine x_iload_n C0 dX6_plumbs_27 rfl ?_
      obtain ⟨v6, σ5, hc, h⟩ := bd2_some h
      refine x_callVi C (k_pl_add N a1 a2  hc) umX6_216 ui_X2_add us_X2_add un_X2 uc_X2_add hv_X2_add rfl (by decide) (fks := [4, 5, 0]) rfl rfl dX6_plumbs_28 (rest := []) rfl (Nat.le_of_ble_eq_true rfl) ?_
      refine x_if_eq C0 (tgt := 44) dX6_plumbs_31 (by decide) h (fun h => ?_) (fun h => ?_)
      · refine x_bipush C0 (v := (-3)) dX6_plumbs_44 (by decide) ?_
        exact x_iret C dX6_plumbs_46 h
      · refine x_aload_n C0 dX6_plumbs_34 rfl ?_
        refine gt_X6_34 C dX6_plumbs_35 ?_
        refine gt_X6_219 C dX6_plumbs_38 ?_
        refine x_goto C0 (tgt := 46) dX6_plumbs_41 (by decide) ?_
        exact x_iret C dX6_plumbs_46 h
    · refine x_iconst C0 (v := (-1)) dX6_plumbs_20 (by decide) ?_
      exact x_iret C dX6_plumbs_21 h
def wb_forget (N : Nat) (σ : St) : Option (Int32 × St) :=
  bd2 (pl_empty N  σ) fun v2 σ1 =>
  some (v2, σ1)
set_option maxRecDepth 20000 in
theorem k_wb_forget {l : Launch} {D : va_G} {cA : Nat → ClassId} {π : Nat → Nat} (N : Nat)  {σ : St} {vo : Int32} {σo : St} (h : wb_forget N σ = some (vo, σo)) : Kt l D cA π shC yX6_forget cX6_forget 1 (some .int) 1 21 [.ref (π 0)] σ (some (.int vo)) σo := by
  refine Kt.of (by decide) (Nat.le_of_ble_eq_true rfl) (L := [(0, .ref (π 0))]) rfl (fun Γ C => ?_)
  have C0 := C.1
  unfold wb_forget at h
  refine x_aload_n C0 dX6_forget_0 rfl ?_
  refine gt_X6_34 C dX6_forget_1 ?_
  obtain ⟨v2, σ1, hc, h⟩ := bd2_some h
  refine x_callVi C (k_pl_empty N  hc) umX6_79 ui_X2_empty us_X2_empty un_X2 uc_X2_empty hv_X2_empty rfl (by decide) (fks := [4, 5, 0]) rfl rfl dX6_forget_4 (rest := []) rfl (Nat.le_of_ble_eq_true rfl) ?_
  exact x_iret C dX6_forget_7 h
def pl_isSoIfDrawn_J44 (N : Nat) (k1 : Nat) (c2_3 : Int32) (c3_3 : Int32) (R3 : Int32 → St → Option (Int32 × St)) (x4_44 : Int32) (t0_44 : Int32) (σ44 : St) : Option (Int32 × St) :=
  ck (inb x4_44 6) (
  ck (inb x4_44 6) (
  ck (inb (σ44.1 120 (ix x4_44)) 40) (
  bd2 (sp_bearsAs N k1 (σ44.1 120 (ix x4_44)) ((σ44.1 (k1 + 2) (ix (σ44.1 120 (ix x4_44)))) - t0_44) 0 σ44) fun v4 σ3 =>
  ck (inb x4_44 6) (
  if v4 = (σ3.1 121 (ix x4_44)) then (
    lt (x4_44 + 1) fun x5 =>
    R3 x5 σ3)
  else (
    some (0, σ3))))))
def pl_isSoIfDrawn_L3 (N : Nat) (k1 : Nat) (c2_3 : Int32) (c3_3 : Int32) : Nat → Int32 → St → Option (Int32 × St)
  | 0, _, _ => none
  | n + 1, x4_3, σ3 =>
    if (σ3.1 119 2) ≤ x4_3 then (
      some (1, σ3))
    else (
      ck (inb x4_3 6) (
      bd2 (sp_has N k1 (σ3.1 120 (ix x4_3)) σ3) fun v2 σ1 =>
      if v2 = 0 then (
        some (0, σ1))
      else (
        ck (inb x4_3 6) (
        if (σ1.1 120 (ix x4_3)) = c2_3 then (
          pl_isSoIfDrawn_J44 N k1 c2_3 c3_3 (pl_isSoIfDrawn_L3 N k1 c2_3 c3_3 n) x4_3 c3_3 σ1)
        else (
          pl_isSoIfDrawn_J44 N k1 c2_3 c3_3 (pl_isSoIfDrawn_L3 N k1 c2_3 c3_3 n) x4_3 0 σ1)))))
def pl_isSoIfDrawn (N : Nat) (k1 : Nat) (a2 : Int32) (a3 : Int32) (σ : St) : Option (Int32 × St) :=
  pl_isSoIfDrawn_L3 N k1 a2 a3 N 0 σ
set_option maxRecDepth 20000 in
theorem w_pl_isSoIfDrawn_J44 {l : Launch} {D : va_G} {cA : Nat → ClassId} {π : Nat → Nat} {Γ : Gx St} {vo : Int32} {σo : St} (C : Cm Γ cX2_isSoIfDrawn RX2 cA 2 103 6 l D π shC (some .boolean) (some (.int vo), σo)) (N : Nat) (k1 : Nat) (c2_3 : Int32) (c3_3 : Int32) (R3 : Int32 → St → Option (Int32 × St)) (x4_44 : Int32) (t0_44 : Int32) (σ44 : St) (hk1 : shC[k1]? = some shX3) (hR3 : ∀ x4_3 σ, R3 x4_3 σ = some (vo, σo) → Wx Γ σ 3 [(0, .ref (π 119)), (1, .ref (π k1)), (2, .int c2_3), (3, .int c3_3), (4, .int x4_3)] []) (h : pl_isSoIfDrawn_J44 N k1 c2_3 c3_3 R3 x4_44 t0_44 σ44 = some (vo, σo)) : Wx Γ σ44 44 [(0, .ref (π 119)), (1, .ref (π k1)), (2, .int c2_3), (3, .int c3_3), (4, .int x4_44)] [.int t0_44] := by
  have C0 := C.1
  unfold pl_isSoIfDrawn_J44 at h
  refine x_istore C0 (L' := [(5, .int t0_44), (0, .ref (π 119)), (1, .ref (π k1)), (2, .int c2_3), (3, .int c3_3), (4, .int x4_44)]) dX2_isSoIfDrawn_44 (by decide) rfl ?_
  refine x_aload_n C0 dX2_isSoIfDrawn_46 rfl ?_
  refine x_aload_n C0 dX2_isSoIfDrawn_47 rfl ?_
  refine gt_X2_9 C dX2_isSoIfDrawn_48 ?_
  refine x_iload C0 dX2_isSoIfDrawn_51 rfl ?_
  refine x_iald C (k := 120) (z := 6) rfl dX2_isSoIfDrawn_53 h (fun h => ?_)
  refine x_aload_n C0 dX2_isSoIfDrawn_54 rfl ?_
  refine gt_X2_28 C hk1 dX2_isSoIfDrawn_55 ?_
  refine x_aload_n C0 dX2_isSoIfDrawn_58 rfl ?_
  refine gt_X2_9 C dX2_isSoIfDrawn_59 ?_
  refine x_iload C0 dX2_isSoIfDrawn_62 rfl ?_
  refine x_iald C (k := 120) (z := 6) rfl dX2_isSoIfDrawn_64 h (fun h => ?_)
  refine x_iald C (k := (k1 + 2)) (z := 40) (sh_X3_thick hk1) dX2_isSoIfDrawn_65 h (fun h => ?_)
  refine x_iload C0 dX2_isSoIfDrawn_66 rfl ?_
  refine x_isub C0 dX2_isSoIfDrawn_68 ?_
  refine x_iconst C0 (v := 0) dX2_isSoIfDrawn_69 (by decide) ?_
  obtain ⟨v4, σ3, hc, h⟩ := bd2_some h
  refine x_callVi C (k_sp_bearsAs N k1 (σ44.1 120 (ix x4_44)) ((σ44.1 (k1 + 2) (ix (σ44.1 120 (ix x4_44)))) - t0_44) 0 hk1 hc) umX2_31 ui_X3_bearsAs us_X3_bearsAs un_X3 uc_X3_bearsAs hv_X3_bearsAs rfl (by decide) hk1 rfl dX2_isSoIfDrawn_70 (rest := []) rfl (Nat.le_of_ble_eq_true rfl) ?_
  refine x_aload_n C0 dX2_isSoIfDrawn_73 rfl ?_
  refine gt_X2_15 C dX2_isSoIfDrawn_74 ?_
  refine x_iload C0 dX2_isSoIfDrawn_77 rfl ?_
  refine x_iald C (k := 121) (z := 6) rfl dX2_isSoIfDrawn_79 h (fun h => ?_)
  refine x_icmp_eq C0 (tgt := 85) dX2_isSoIfDrawn_80 (by decide) h (fun h => ?_) (fun h => ?_)
  · refine x_iinc C0 (j := 5) (v := 1) (L' := fun x5 => [(4, .int x5), (5, .int t0_44), (0, .ref (π 119)), (1, .ref (π k1)), (2, .int c2_3), (3, .int c3_3)]) dX2_isSoIfDrawn_85 rfl (by decide) (by decide) (fun _ => rfl) h (fun x5 h => ?_)
    refine x_goto C0 (tgt := 3) dX2_isSoIfDrawn_88 (by decide) ?_
    exact x_pick [2, 3, 4, 5, 0] rfl (hR3 _ _ h)
  · refine x_iconst C0 (v := 0) dX2_isSoIfDrawn_83 (by decide) ?_
    exact x_zret C (Or.inl rfl) dX2_isSoIfDrawn_84 h
set_option maxRecDepth 20000 in
theorem w_pl_isSoIfDrawn_L3 {l : Launch} {D : va_G} {cA : Nat → ClassId} {π : Nat → Nat} {Γ : Gx St} {vo : Int32} {σo : St} (C : Cm Γ cX2_isSoIfDrawn RX2 cA 2 103 6 l D π shC (some .boolean) (some (.int vo), σo)) (N : Nat) (k1 : Nat) (c2_3 : Int32) (c3_3 : Int32) (hk1 : shC[k1]? = some shX3) : ∀ (n : Nat) (x4_3 : Int32) (σ3 : St), pl_isSoIfDrawn_L3 N k1 c2_3 c3_3 n x4_3 σ3 = some (vo, σo) → Wx Γ σ3 3 [(0, .ref (π 119)), (1, .ref (π k1)), (2, .int c2_3), (3, .int c3_3), (4, .int x4_3)] [] := by
  have C0 := C.1
  intro n
  induction n with
  | zero => intro x4_3 σ3 h; cases h
  | succ n ih =>
    intro x4_3 σ3 h
    rw [pl_isSoIfDrawn_L3] at h
    refine x_iload C0 dX2_isSoIfDrawn_3 rfl ?_
    refine x_aload_n C0 dX2_isSoIfDrawn_5 rfl ?_
    refine gt_X2_18 C dX2_isSoIfDrawn_6 ?_
    refine x_icmp_ge C0 (tgt := 91) dX2_isSoIfDrawn_9 (by decide) h (fun h => ?_) (fun h => ?_)
    · refine x_iconst C0 (v := 1) dX2_isSoIfDrawn_91 (by decide) ?_
      exact x_zret C (Or.inr rfl) dX2_isSoIfDrawn_92 h
    · refine x_aload_n C0 dX2_isSoIfDrawn_12 rfl ?_
      refine x_aload_n C0 dX2_isSoIfDrawn_13 rfl ?_
      refine gt_X2_9 C dX2_isSoIfDrawn_14 ?_
      refine x_iload C0 dX2_isSoIfDrawn_17 rfl ?_
      refine x_iald C (k := 120) (z := 6) rfl dX2_isSoIfDrawn_19 h (fun h => ?_)
      obtain ⟨v2, σ1, hc, h⟩ := bd2_some h
      refine x_callVi C (k_sp_has N k1 (σ3.1 120 (ix x4_3)) hk1 hc) umX2_22 ui_X3_has us_X3_has un_X3 uc_X3_has hv_X3_has rfl (by decide) hk1 rfl dX2_isSoIfDrawn_20 (rest := []) rfl (Nat.le_of_ble_eq_true rfl) ?_
      refine x_if_ne C0 (tgt := 28) dX2_isSoIfDrawn_23 (by decide) h (fun h => ?_) (fun h => ?_)
      · refine x_aload_n C0 dX2_isSoIfDrawn_28 rfl ?_
        refine gt_X2_9 C dX2_isSoIfDrawn_29 ?_
        refine x_iload C0 dX2_isSoIfDrawn_32 rfl ?_
        refine x_iald C (k := 120) (z := 6) rfl dX2_isSoIfDrawn_34 h (fun h => ?_)
        refine x_iload_n C0 dX2_isSoIfDrawn_35 rfl ?_
        refine x_icmp_ne C0 (tgt := 43) dX2_isSoIfDrawn_36 (by decide) h (fun h => ?_) (fun h => ?_)
        · refine x_iconst C0 (v := 0) dX2_isSoIfDrawn_43 (by decide) ?_
          exact x_pick [0, 1, 2, 3, 4] rfl (w_pl_isSoIfDrawn_J44 C N k1 c2_3 c3_3 (pl_isSoIfDrawn_L3 N k1 c2_3 c3_3 n) x4_3 0 σ1 hk1 ih h)
        · refine x_iload_n C0 dX2_isSoIfDrawn_39 rfl ?_
          refine x_goto C0 (tgt := 44) dX2_isSoIfDrawn_40 (by decide) ?_
          exact x_pick [0, 1, 2, 3, 4] rfl (w_pl_isSoIfDrawn_J44 C N k1 c2_3 c3_3 (pl_isSoIfDrawn_L3 N k1 c2_3 c3_3 n) x4_3 c3_3 σ1 hk1 ih h)
      · refine x_iconst C0 (v := 0) dX2_isSoIfDrawn_26 (by decide) ?_
        exact x_zret C (Or.inl rfl) dX2_isSoIfDrawn_27 h
set_option maxRecDepth 20000 in
theorem k_pl_isSoIfDrawn {l : Launch} {D : va_G} {cA : Nat → ClassId} {π : Nat → Nat} (N : Nat) (k1 : Nat) (a2 : Int32) (a3 : Int32) (hk1 : shC[k1]? = some shX3) {σ : St} {vo : Int32} {σo : St} (h : pl_isSoIfDrawn N k1 a2 a3 σ = some (vo, σo)) : Kt l D cA π shC yX2_isSoIfDrawn cX2_isSoIfDrawn 6 (some .boolean) 2 103 [.ref (π 119), .ref (π k1), .int a2, .int a3] σ (some (.int vo)) σo := by
  refine Kt.of (by decide) (Nat.le_of_ble_eq_true rfl) (L := [(0, .ref (π 119)), (1, .ref (π k1)), (2, .int a2), (3, .int a3)]) rfl (fun Γ C => ?_)
  have C0 := C.1
  unfold pl_isSoIfDrawn at h
  refine x_iconst C0 (v := 0) dX2_isSoIfDrawn_0 (by decide) ?_
  refine x_istore C0 (L' := [(4, .int 0), (0, .ref (π 119)), (1, .ref (π k1)), (2, .int a2), (3, .int a3)]) dX2_isSoIfDrawn_1 (by decide) rfl ?_
  exact x_pick [1, 2, 3, 4, 0] rfl (w_pl_isSoIfDrawn_L3 C N k1 a2 a3 hk1 N 0 σ h)
def wb_drew_L37 (N : Nat) (r4 : Nat) (c5_37 : Int32) (c1_25 : Int32) : Nat → Int32 → Int32 → Int32 → St → Option (Int32 × Int32 × St)
  | 0, _, _, _, _ => none
  | n + 1, x3_37, x4_37, x6_37, σ37 =>
    if 9 < x6_37 then (
      some (x3_37, x4_37, σ37))
    else (
      bd2 (pl_isSoIfDrawn N r4 c5_37 x6_37 σ37) fun v6 σ5 =>
      if v6 = 0 then (
        lt (x6_37 + 1) fun x7 =>
        (wb_drew_L37 N r4 c5_37 c1_25 n) x3_37 x4_37 x7 σ5)
      else (
        if x3_37 = 0 then (
          lt ((10 * c5_37) + x6_37) fun x10 =>
          lt (x3_37 + 1) fun x11 =>
          lt (x6_37 + 1) fun x12 =>
          (wb_drew_L37 N r4 c5_37 c1_25 n) x11 x10 x12 σ5)
        else (
          lt (x3_37 + 1) fun x8 =>
          lt (x6_37 + 1) fun x9 =>
          (wb_drew_L37 N r4 c5_37 c1_25 n) x8 x4_37 x9 σ5)))
def wb_drew_L25 (N : Nat) (r4 : Nat) (c1_25 : Int32) : Nat → Int32 → Int32 → Int32 → St → Option (Int32 × Int32 × St)
  | 0, _, _, _, _ => none
  | n + 1, x3_25, x4_25, x5_25, σ25 =>
    if (σ25.1 r4 3) ≤ x5_25 then (
      some (x3_25, x4_25, σ25))
    else (
      bd3 (wb_drew_L37 N r4 x5_25 c1_25 N x3_25 x4_25 1 σ25) fun x13 x14 σ15 =>
      lt (x5_25 + 1) fun x16 =>
      (wb_drew_L25 N r4 c1_25 n) x13 x14 x16 σ15)
def wb_drew (N : Nat) (a1 : Int32) (σ : St) : Option (Int32 × St) :=
  bd2 (wb_within N a1 0 1 σ) fun v2 σ1 =>
  if v2 = 0 then (
    some ((-1), σ1))
  else (
    bd2 (wb_span N  σ1) fun r4 σ3 => ck (isSp r4) (
    bd3 (wb_drew_L25 N r4 a1 N 0 (-9) 0 σ3) fun x17 x18 σ19 =>
    if a1 = 0 then (
      some (x17, σ19))
    else (
      some (x18, σ19))))
set_option maxRecDepth 20000 in
theorem w_wb_drew_L37 {l : Launch} {D : va_G} {cA : Nat → ClassId} {π : Nat → Nat} {Γ : Gx St} {vo : Int32} {σo : St} (C : Cm Γ cX6_drew RX6 cA 3 128 7 l D π shC (some .int) (some (.int vo), σo)) (N : Nat) (r4 : Nat) (c5_37 : Int32) (c1_25 : Int32) (hr4 : shC[r4]? = some shX3) (yo : Int32 × Int32 × St) (kk37 : ∀ e3_37 e4_37 σe, (e3_37, e4_37, σe) = yo → Wx Γ σe 87 [(0, .ref (π 0)), (1, .int c1_25), (2, .ref (π r4)), (3, .int e3_37), (4, .int e4_37), (5, .int c5_37)] []) : ∀ (n : Nat) (x3_37 : Int32) (x4_37 : Int32) (x6_37 : Int32) (σ37 : St), wb_drew_L37 N r4 c5_37 c1_25 n x3_37 x4_37 x6_37 σ37 = some yo → Wx Γ σ37 37 [(0, .ref (π 0)), (1, .int c1_25), (2, .ref (π r4)), (3, .int x3_37), (4, .int x4_37), (5, .int c5_37), (6, .int x6_37)] [] := by
  have C0 := C.1
  intro n
  induction n with
  | zero => intro x3_37 x4_37 x6_37 σ37 h; cases h
  | succ n ih =>
    intro x3_37 x4_37 x6_37 σ37 h
    rw [wb_drew_L37] at h
    refine x_iload C0 dX6_drew_37 rfl ?_
    refine x_bipush C0 (v := 9) dX6_drew_39 (by decide) ?_
    refine x_icmp_gt C0 (tgt := 87) dX6_drew_41 (by decide) h (fun h => ?_) (fun h => ?_)
    · exact x_pick [0, 1, 2, 3, 4, 5] rfl (kk37 _ _ _ (Option.some.inj h))
    · refine x_aload_n C0 dX6_drew_44 rfl ?_
      refine gt_X6_34 C dX6_drew_45 ?_
      refine x_aload_n C0 dX6_drew_48 rfl ?_
      refine x_iload C0 dX6_drew_49 rfl ?_
      refine x_iload C0 dX6_drew_51 rfl ?_
      obtain ⟨v6, σ5, hc, h⟩ := bd2_some h
      refine x_callVi C (k_pl_isSoIfDrawn N r4 c5_37 x6_37 hr4 hc) umX6_220 ui_X2_isSoIfDrawn us_X2_isSoIfDrawn un_X2 uc_X2_isSoIfDrawn hv_X2_isSoIfDrawn rfl (by decide) (fks := [4, 5, 0]) rfl rfl dX6_drew_53 (rest := []) rfl (Nat.le_of_ble_eq_true rfl) ?_
      refine x_if_eq C0 (tgt := 81) dX6_drew_56 (by decide) h (fun h => ?_) (fun h => ?_)
      · refine x_iinc C0 (j := 6) (v := 1) (L' := fun x7 => [(6, .int x7), (0, .ref (π 0)), (1, .int c1_25), (2, .ref (π r4)), (3, .int x3_37), (4, .int x4_37), (5, .int c5_37)]) dX6_drew_81 rfl (by decide) (by decide) (fun _ => rfl) h (fun x7 h => ?_)
        refine x_goto C0 (tgt := 37) dX6_drew_84 (by decide) ?_
        exact x_pick [1, 2, 3, 4, 5, 6, 0] rfl (ih _ _ _ _ h)
      · refine x_iload_n C0 dX6_drew_59 rfl ?_
        refine x_if_ne C0 (tgt := 74) dX6_drew_60 (by decide) h (fun h => ?_) (fun h => ?_)
        · refine x_iload C0 dX6_drew_74 rfl ?_
          refine x_istore C0 (L' := [(4, .int x4_37), (0, .ref (π 0)), (1, .int c1_25), (2, .ref (π r4)), (3, .int x3_37), (5, .int c5_37), (6, .int x6_37)]) dX6_drew_76 (by decide) rfl ?_
          refine x_iinc C0 (j := 4) (v := 1) (L' := fun x8 => [(3, .int x8), (4, .int x4_37), (0, .ref (π 0)), (1, .int c1_25), (2, .ref (π r4)), (5, .int c5_37), (6, .int x6_37)]) dX6_drew_78 rfl (by decide) (by decide) (fun _ => rfl) h (fun x8 h => ?_)
          refine x_iinc C0 (j := 6) (v := 1) (L' := fun x9 => [(6, .int x9), (3, .int x8), (4, .int x4_37), (0, .ref (π 0)), (1, .int c1_25), (2, .ref (π r4)), (5, .int c5_37)]) dX6_drew_81 rfl (by decide) (by decide) (fun _ => rfl) h (fun x9 h => ?_)
          refine x_goto C0 (tgt := 37) dX6_drew_84 (by decide) ?_
          exact x_pick [3, 4, 5, 1, 2, 6, 0] rfl (ih _ _ _ _ h)
        · refine x_bipush C0 (v := 10) dX6_drew_63 (by decide) ?_
          refine x_iload C0 dX6_drew_65 rfl ?_
          refine x_imul C0 dX6_drew_67 ?_
          refine x_iload C0 dX6_drew_68 rfl ?_
          refine x_iadd C0 dX6_drew_70 ?_
          refine x_goto C0 (tgt := 76) dX6_drew_71 (by decide) ?_
          refine x_nm h (fun x10 h => ?_)
          refine x_istore C0 (L' := [(4, .int x10), (0, .ref (π 0)), (1, .int c1_25), (2, .ref (π r4)), (3, .int x3_37), (5, .int c5_37), (6, .int x6_37)]) dX6_drew_76 (by decide) rfl ?_
          refine x_iinc C0 (j := 4) (v := 1) (L' := fun x11 => [(3, .int x11), (4, .int x10), (0, .ref (π 0)), (1, .int c1_25), (2, .ref (π r4)), (5, .int c5_37), (6, .int x6_37)]) dX6_drew_78 rfl (by decide) (by decide) (fun _ => rfl) h (fun x11 h => ?_)
          refine x_iinc C0 (j := 6) (v := 1) (L' := fun x12 => [(6, .int x12), (3, .int x11), (4, .int x10), (0, .ref (π 0)), (1, .int c1_25), (2, .ref (π r4)), (5, .int c5_37)]) dX6_drew_81 rfl (by decide) (by decide) (fun _ => rfl) h (fun x12 h => ?_)
          refine x_goto C0 (tgt := 37) dX6_drew_84 (by decide) ?_
          exact x_pick [3, 4, 5, 1, 2, 6, 0] rfl (ih _ _ _ _ h)
set_option maxRecDepth 20000 in
theorem w_wb_drew_L25 {l : Launch} {D : va_G} {cA : Nat → ClassId} {π : Nat → Nat} {Γ : Gx St} {vo : Int32} {σo : St} (C : Cm Γ cX6_drew RX6 cA 3 128 7 l D π shC (some .int) (some (.int vo), σo)) (N : Nat) (r4 : Nat) (c1_25 : Int32) (hr4 : shC[r4]? = some shX3) (yo : Int32 × Int32 × St) (kk25 : ∀ e3_25 e4_25 σe, (e3_25, e4_25, σe) = yo → Wx Γ σe 93 [(1, .int c1_25), (3, .int e3_25), (4, .int e4_25)] []) : ∀ (n : Nat) (x3_25 : Int32) (x4_25 : Int32) (x5_25 : Int32) (σ25 : St), wb_drew_L25 N r4 c1_25 n x3_25 x4_25 x5_25 σ25 = some yo → Wx Γ σ25 25 [(0, .ref (π 0)), (1, .int c1_25), (2, .ref (π r4)), (3, .int x3_25), (4, .int x4_25), (5, .int x5_25)] [] := by
  have C0 := C.1
  intro n
  induction n with
  | zero => intro x3_25 x4_25 x5_25 σ25 h; cases h
  | succ n ih =>
    intro x3_25 x4_25 x5_25 σ25 h
    rw [wb_drew_L25] at h
    refine x_iload C0 dX6_drew_25 rfl ?_
    refine x_aload_n C0 dX6_drew_27 rfl ?_
    refine gt_X6_121 C hr4 dX6_drew_28 ?_
    refine x_icmp_ge C0 (tgt := 93) dX6_drew_31 (by decide) h (fun h => ?_) (fun h => ?_)
    · exact x_pick [1, 3, 4] rfl (kk25 _ _ _ (Option.some.inj h))
    · refine x_iconst C0 (v := 1) dX6_drew_34 (by decide) ?_
      refine x_istore C0 (L' := [(6, .int 1), (0, .ref (π 0)), (1, .int c1_25), (2, .ref (π r4)), (3, .int x3_25), (4, .int x4_25), (5, .int x5_25)]) dX6_drew_35 (by decide) rfl ?_
      obtain ⟨x13, x14, σ15, hL, h⟩ := bd3_some h
      refine x_pick [1, 2, 3, 4, 5, 6, 0] rfl (w_wb_drew_L37 C N r4 x5_25 c1_25 hr4 _ (fun b0 b1 b2 e => ?_) N x3_25 x4_25 1 σ25 hL)
      cases e
      refine x_iinc C0 (j := 5) (v := 1) (L' := fun x16 => [(5, .int x16), (0, .ref (π 0)), (1, .int c1_25), (2, .ref (π r4)), (3, .int x13), (4, .int x14)]) dX6_drew_87 rfl (by decide) (by decide) (fun _ => rfl) h (fun x16 h => ?_)
      refine x_goto C0 (tgt := 25) dX6_drew_90 (by decide) ?_
      exact x_pick [1, 2, 3, 4, 5, 0] rfl (ih _ _ _ _ h)
set_option maxRecDepth 20000 in
theorem k_wb_drew {l : Launch} {D : va_G} {cA : Nat → ClassId} {π : Nat → Nat} (N : Nat) (a1 : Int32)  {σ : St} {vo : Int32} {σo : St} (h : wb_drew N a1 σ = some (vo, σo)) : Kt l D cA π shC yX6_drew cX6_drew 7 (some .int) 3 128 [.ref (π 0), .int a1] σ (some (.int vo)) σo := by
  refine Kt.of (by decide) (Nat.le_of_ble_eq_true rfl) (L := [(0, .ref (π 0)), (1, .int a1)]) rfl (fun Γ C => ?_)
  have C0 := C.1
  unfold wb_drew at h
  refine x_iload_n C0 dX6_drew_0 rfl ?_
  refine x_iconst C0 (v := 0) dX6_drew_1 (by decide) ?_
  refine x_iconst C0 (v := 1) dX6_drew_2 (by decide) ?_
  obtain ⟨v2, σ1, hc, h⟩ := bd2_some h
  refine x_callSi C (k_wb_within N a1 0 1  hc) umX6_55 ut_X6_within un_X6 uc_X6_within hs_X6_within rfl (by decide) dX6_drew_3 (rest := []) rfl (Nat.le_of_ble_eq_true rfl) ?_
  refine x_if_ne C0 (tgt := 11) dX6_drew_6 (by decide) h (fun h => ?_) (fun h => ?_)
  · refine x_aload_n C0 dX6_drew_11 rfl ?_
    obtain ⟨r4, σ3, hc, h⟩ := bd2_some h
    refine x_callVr C (k_wb_span N  hc) umX6_90 ui_X6_span us_X6_span un_X6 uc_X6_span hv_X6_span rfl (by decide) (fks := [4, 6, 44, 121, 122, 125, 2, 2, 1]) rfl rfl dX6_drew_12 (rest := []) rfl (Nat.le_of_ble_eq_true rfl) ?_
    refine x_chk h (fun q h => ?_)
    have hr4 := isSp_sh q
    refine x_astore_n C0 (L' := [(2, .ref (π r4)), (0, .ref (π 0)), (1, .int a1)]) dX6_drew_15 (by decide) rfl ?_
    refine x_iconst C0 (v := 0) dX6_drew_16 (by decide) ?_
    refine x_istore_n C0 (L' := [(3, .int 0), (2, .ref (π r4)), (0, .ref (π 0)), (1, .int a1)]) dX6_drew_17 (by decide) rfl ?_
    refine x_bipush C0 (v := (-9)) dX6_drew_18 (by decide) ?_
    refine x_istore C0 (L' := [(4, .int (-9)), (3, .int 0), (2, .ref (π r4)), (0, .ref (π 0)), (1, .int a1)]) dX6_drew_20 (by decide) rfl ?_
    refine x_iconst C0 (v := 0) dX6_drew_22 (by decide) ?_
    refine x_istore C0 (L' := [(5, .int 0), (4, .int (-9)), (3, .int 0), (2, .ref (π r4)), (0, .ref (π 0)), (1, .int a1)]) dX6_drew_23 (by decide) rfl ?_
    obtain ⟨x17, x18, σ19, hL, h⟩ := bd3_some h
    refine x_pick [4, 5, 3, 2, 1, 0] rfl (w_wb_drew_L25 C N r4 a1 hr4 _ (fun b0 b1 b2 e => ?_) N 0 (-9) 0 σ3 hL)
    cases e
    refine x_iload_n C0 dX6_drew_93 rfl ?_
    refine x_if_ne C0 (tgt := 101) dX6_drew_94 (by decide) h (fun h => ?_) (fun h => ?_)
    · refine x_iload C0 dX6_drew_101 rfl ?_
      exact x_iret C dX6_drew_103 h
    · refine x_iload_n C0 dX6_drew_97 rfl ?_
      refine x_goto C0 (tgt := 103) dX6_drew_98 (by decide) ?_
      exact x_iret C dX6_drew_103 h
  · refine x_iconst C0 (v := (-1)) dX6_drew_9 (by decide) ?_
    exact x_iret C dX6_drew_10 h
def pl_isSoIfCrossed_J71 (k1 : Nat) (c3_22 : Int32) (c4_22 : Int32) (c5_22 : Int32) (R22 : Int32 → St → Option (Int32 × St)) (x6_71 : Int32) (t0_71 : Int32) (σ71 : St) : Option (Int32 × St) :=
  ck (inb x6_71 6) (
  if t0_71 = (σ71.1 121 (ix x6_71)) then (
    lt (x6_71 + 1) fun x6 =>
    R22 x6 σ71)
  else (
    some (0, σ71)))
def pl_isSoIfCrossed_L22 (N : Nat) (k1 : Nat) (c5_22 : Int32) (c4_22 : Int32) (c3_22 : Int32) : Nat → Int32 → St → Option (Int32 × St)
  | 0, _, _ => none
  | n + 1, x6_22, σ22 =>
    if (σ22.1 119 2) ≤ x6_22 then (
      some (1, σ22))
    else (
      ck (inb x6_22 6) (
      lt ((σ22.1 120 (ix x6_22)) + c5_22) fun x3 =>
      if x3 < c4_22 then (
        bd2 (sp_has N k1 x3 σ22) fun v5 σ4 =>
        if v5 = 0 then (
          pl_isSoIfCrossed_J71 k1 c3_22 c4_22 c5_22 (pl_isSoIfCrossed_L22 N k1 c5_22 c4_22 c3_22 n) x6_22 c3_22 σ4)
        else (
          bd2 (sp_bears N k1 x3 σ4) fun v8 σ7 =>
          pl_isSoIfCrossed_J71 k1 c3_22 c4_22 c5_22 (pl_isSoIfCrossed_L22 N k1 c5_22 c4_22 c3_22 n) x6_22 v8 σ7))
      else (
        some (0, σ22))))
def pl_isSoIfCrossed (N : Nat) (k1 : Nat) (a2 : Int32) (a3 : Int32) (σ : St) : Option (Int32 × St) :=
  lt ((σ.1 k1 3) + a2) fun x1 =>
  lt (mx 0 (x1 - 40)) fun x2 =>
  pl_isSoIfCrossed_L22 N k1 x2 x1 a3 N 0 σ
set_option maxRecDepth 20000 in
theorem w_pl_isSoIfCrossed_J71 {l : Launch} {D : va_G} {cA : Nat → ClassId} {π : Nat → Nat} {Γ : Gx St} {vo : Int32} {σo : St} (C : Cm Γ cX2_isSoIfCrossed RX2 cA 3 124 9 l D π shC (some .boolean) (some (.int vo), σo)) (k1 : Nat) (c3_22 : Int32) (c4_22 : Int32) (c5_22 : Int32) (R22 : Int32 → St → Option (Int32 × St)) (x6_71 : Int32) (t0_71 : Int32) (σ71 : St) (hR22 : ∀ x6_22 σ, R22 x6_22 σ = some (vo, σo) → Wx Γ σ 22 [(0, .ref (π 119)), (1, .ref (π k1)), (3, .int c3_22), (4, .int c4_22), (5, .int c5_22), (6, .int x6_22)] []) (h : pl_isSoIfCrossed_J71 k1 c3_22 c4_22 c5_22 R22 x6_71 t0_71 σ71 = some (vo, σo)) : Wx Γ σ71 71 [(0, .ref (π 119)), (1, .ref (π k1)), (3, .int c3_22), (4, .int c4_22), (5, .int c5_22), (6, .int x6_71)] [.int t0_71] := by
  have C0 := C.1
  unfold pl_isSoIfCrossed_J71 at h
  refine x_istore C0 (L' := [(8, .int t0_71), (0, .ref (π 119)), (1, .ref (π k1)), (3, .int c3_22), (4, .int c4_22), (5, .int c5_22), (6, .int x6_71)]) dX2_isSoIfCrossed_71 (by decide) rfl ?_
  refine x_iload C0 dX2_isSoIfCrossed_73 rfl ?_
  refine x_aload_n C0 dX2_isSoIfCrossed_75 rfl ?_
  refine gt_X2_15 C dX2_isSoIfCrossed_76 ?_
  refine x_iload C0 dX2_isSoIfCrossed_79 rfl ?_
  refine x_iald C (k := 121) (z := 6) rfl dX2_isSoIfCrossed_81 h (fun h => ?_)
  refine x_icmp_eq C0 (tgt := 87) dX2_isSoIfCrossed_82 (by decide) h (fun h => ?_) (fun h => ?_)
  · refine x_iinc C0 (j := 6) (v := 1) (L' := fun x6 => [(6, .int x6), (8, .int t0_71), (0, .ref (π 119)), (1, .ref (π k1)), (3, .int c3_22), (4, .int c4_22), (5, .int c5_22)]) dX2_isSoIfCrossed_87 rfl (by decide) (by decide) (fun _ => rfl) h (fun x6 h => ?_)
    refine x_goto C0 (tgt := 22) dX2_isSoIfCrossed_90 (by decide) ?_
    exact x_pick [2, 3, 4, 5, 6, 0] rfl (hR22 _ _ h)
  · refine x_iconst C0 (v := 0) dX2_isSoIfCrossed_85 (by decide) ?_
    exact x_zret C (Or.inl rfl) dX2_isSoIfCrossed_86 h
set_option maxRecDepth 20000 in
theorem w_pl_isSoIfCrossed_L22 {l : Launch} {D : va_G} {cA : Nat → ClassId} {π : Nat → Nat} {Γ : Gx St} {vo : Int32} {σo : St} (C : Cm Γ cX2_isSoIfCrossed RX2 cA 3 124 9 l D π shC (some .boolean) (some (.int vo), σo)) (N : Nat) (k1 : Nat) (c5_22 : Int32) (c4_22 : Int32) (c3_22 : Int32) (hk1 : shC[k1]? = some shX3) : ∀ (n : Nat) (x6_22 : Int32) (σ22 : St), pl_isSoIfCrossed_L22 N k1 c5_22 c4_22 c3_22 n x6_22 σ22 = some (vo, σo) → Wx Γ σ22 22 [(0, .ref (π 119)), (1, .ref (π k1)), (3, .int c3_22), (4, .int c4_22), (5, .int c5_22), (6, .int x6_22)] [] := by
  have C0 := C.1
  intro n
  induction n with
  | zero => intro x6_22 σ22 h; cases h
  | succ n ih =>
    intro x6_22 σ22 h
    rw [pl_isSoIfCrossed_L22] at h
    refine x_iload C0 dX2_isSoIfCrossed_22 rfl ?_
    refine x_aload_n C0 dX2_isSoIfCrossed_24 rfl ?_
    refine gt_X2_18 C dX2_isSoIfCrossed_25 ?_
    refine x_icmp_ge C0 (tgt := 93) dX2_isSoIfCrossed_28 (by decide) h (fun h => ?_) (fun h => ?_)
    · refine x_iconst C0 (v := 1) dX2_isSoIfCrossed_93 (by decide) ?_
      exact x_zret C (Or.inr rfl) dX2_isSoIfCrossed_94 h
    · refine x_aload_n C0 dX2_isSoIfCrossed_31 rfl ?_
      refine gt_X2_9 C dX2_isSoIfCrossed_32 ?_
      refine x_iload C0 dX2_isSoIfCrossed_35 rfl ?_
      refine x_iald C (k := 120) (z := 6) rfl dX2_isSoIfCrossed_37 h (fun h => ?_)
      refine x_iload C0 dX2_isSoIfCrossed_38 rfl ?_
      refine x_iadd C0 dX2_isSoIfCrossed_40 ?_
      refine x_nm h (fun x3 h => ?_)
      refine x_istore C0 (L' := [(7, .int x3), (0, .ref (π 119)), (1, .ref (π k1)), (3, .int c3_22), (4, .int c4_22), (5, .int c5_22), (6, .int x6_22)]) dX2_isSoIfCrossed_41 (by decide) rfl ?_
      refine x_iload C0 dX2_isSoIfCrossed_43 rfl ?_
      refine x_iload C0 dX2_isSoIfCrossed_45 rfl ?_
      refine x_icmp_lt C0 (tgt := 52) dX2_isSoIfCrossed_47 (by decide) h (fun h => ?_) (fun h => ?_)
      · refine x_aload_n C0 dX2_isSoIfCrossed_52 rfl ?_
        refine x_iload C0 dX2_isSoIfCrossed_53 rfl ?_
        obtain ⟨v5, σ4, hc, h⟩ := bd2_some h
        refine x_callVi C (k_sp_has N k1 x3 hk1 hc) umX2_22 ui_X3_has us_X3_has un_X3 uc_X3_has hv_X3_has rfl (by decide) hk1 rfl dX2_isSoIfCrossed_55 (rest := []) rfl (Nat.le_of_ble_eq_true rfl) ?_
        refine x_if_eq C0 (tgt := 70) dX2_isSoIfCrossed_58 (by decide) h (fun h => ?_) (fun h => ?_)
        · refine x_iload_n C0 dX2_isSoIfCrossed_70 rfl ?_
          exact x_pick [1, 2, 3, 4, 5, 6] rfl (w_pl_isSoIfCrossed_J71 C k1 c3_22 c4_22 c5_22 (pl_isSoIfCrossed_L22 N k1 c5_22 c4_22 c3_22 n) x6_22 c3_22 σ4 ih h)
        · refine x_aload_n C0 dX2_isSoIfCrossed_61 rfl ?_
          refine x_iload C0 dX2_isSoIfCrossed_62 rfl ?_
          obtain ⟨v8, σ7, hc, h⟩ := bd2_some h
          refine x_callVi C (k_sp_bears N k1 x3 hk1 hc) umX2_44 ui_X3_bears us_X3_bears un_X3 uc_X3_bears hv_X3_bears rfl (by decide) hk1 rfl dX2_isSoIfCrossed_64 (rest := []) rfl (Nat.le_of_ble_eq_true rfl) ?_
          refine x_goto C0 (tgt := 71) dX2_isSoIfCrossed_67 (by decide) ?_
          exact x_pick [1, 2, 3, 4, 5, 6] rfl (w_pl_isSoIfCrossed_J71 C k1 c3_22 c4_22 c5_22 (pl_isSoIfCrossed_L22 N k1 c5_22 c4_22 c3_22 n) x6_22 v8 σ7 ih h)
      · refine x_iconst C0 (v := 0) dX2_isSoIfCrossed_50 (by decide) ?_
        exact x_zret C (Or.inl rfl) dX2_isSoIfCrossed_51 h
set_option maxRecDepth 20000 in
theorem k_pl_isSoIfCrossed {l : Launch} {D : va_G} {cA : Nat → ClassId} {π : Nat → Nat} (N : Nat) (k1 : Nat) (a2 : Int32) (a3 : Int32) (hk1 : shC[k1]? = some shX3) {σ : St} {vo : Int32} {σo : St} (h : pl_isSoIfCrossed N k1 a2 a3 σ = some (vo, σo)) : Kt l D cA π shC yX2_isSoIfCrossed cX2_isSoIfCrossed 9 (some .boolean) 3 124 [.ref (π 119), .ref (π k1), .int a2, .int a3] σ (some (.int vo)) σo := by
  refine Kt.of (by decide) (Nat.le_of_ble_eq_true rfl) (L := [(0, .ref (π 119)), (1, .ref (π k1)), (2, .int a2), (3, .int a3)]) rfl (fun Γ C => ?_)
  have C0 := C.1
  unfold pl_isSoIfCrossed at h
  refine x_aload_n C0 dX2_isSoIfCrossed_0 rfl ?_
  refine gt_X2_35 C hk1 dX2_isSoIfCrossed_1 ?_
  refine x_iload_n C0 dX2_isSoIfCrossed_4 rfl ?_
  refine x_iadd C0 dX2_isSoIfCrossed_5 ?_
  refine x_nm h (fun x1 h => ?_)
  refine x_istore C0 (L' := [(4, .int x1), (0, .ref (π 119)), (1, .ref (π k1)), (2, .int a2), (3, .int a3)]) dX2_isSoIfCrossed_6 (by decide) rfl ?_
  refine x_iconst C0 (v := 0) dX2_isSoIfCrossed_8 (by decide) ?_
  refine x_iload C0 dX2_isSoIfCrossed_9 rfl ?_
  refine x_bipush C0 (v := 40) dX2_isSoIfCrossed_11 (by decide) ?_
  refine x_isub C0 dX2_isSoIfCrossed_13 ?_
  refine x_mmax C0 umX2_38 dX2_isSoIfCrossed_14 (Nat.le_of_ble_eq_true rfl) (Nat.le_of_ble_eq_true rfl) ?_
  refine x_nm h (fun x2 h => ?_)
  refine x_istore C0 (L' := [(5, .int x2), (4, .int x1), (0, .ref (π 119)), (1, .ref (π k1)), (2, .int a2), (3, .int a3)]) dX2_isSoIfCrossed_17 (by decide) rfl ?_
  refine x_iconst C0 (v := 0) dX2_isSoIfCrossed_19 (by decide) ?_
  refine x_istore C0 (L' := [(6, .int 0), (5, .int x2), (4, .int x1), (0, .ref (π 119)), (1, .ref (π k1)), (2, .int a2), (3, .int a3)]) dX2_isSoIfCrossed_20 (by decide) rfl ?_
  exact x_pick [3, 4, 6, 2, 1, 0] rfl (w_pl_isSoIfCrossed_L22 C N k1 x2 x1 a3 hk1 N 0 σ h)
def wb_night_L35 (N : Nat) (r4 : Nat) (c5_35 : Int32) (c1_25 : Int32) : Nat → Int32 → Int32 → Int32 → St → Option (Int32 × Int32 × St)
  | 0, _, _, _, _ => none
  | n + 1, x3_35, x4_35, x6_35, σ35 =>
    if 9 < x6_35 then (
      some (x3_35, x4_35, σ35))
    else (
      bd2 (pl_isSoIfCrossed N r4 c5_35 x6_35 σ35) fun v6 σ5 =>
      if v6 = 0 then (
        lt (x6_35 + 1) fun x7 =>
        (wb_night_L35 N r4 c5_35 c1_25 n) x3_35 x4_35 x7 σ5)
      else (
        if x3_35 = 0 then (
          lt ((10 * c5_35) + x6_35) fun x10 =>
          lt (x3_35 + 1) fun x11 =>
          lt (x6_35 + 1) fun x12 =>
          (wb_night_L35 N r4 c5_35 c1_25 n) x11 x10 x12 σ5)
        else (
          lt (x3_35 + 1) fun x8 =>
          lt (x6_35 + 1) fun x9 =>
          (wb_night_L35 N r4 c5_35 c1_25 n) x8 x4_35 x9 σ5)))
def wb_night_L25 (N : Nat) (r4 : Nat) (c1_25 : Int32) : Nat → Int32 → Int32 → Int32 → St → Option (Int32 × Int32 × St)
  | 0, _, _, _, _ => none
  | n + 1, x3_25, x4_25, x5_25, σ25 =>
    if 9 < x5_25 then (
      some (x3_25, x4_25, σ25))
    else (
      bd3 (wb_night_L35 N r4 x5_25 c1_25 N x3_25 x4_25 1 σ25) fun x13 x14 σ15 =>
      lt (x5_25 + 1) fun x16 =>
      (wb_night_L25 N r4 c1_25 n) x13 x14 x16 σ15)
def wb_night (N : Nat) (a1 : Int32) (σ : St) : Option (Int32 × St) :=
  bd2 (wb_within N a1 0 1 σ) fun v2 σ1 =>
  if v2 = 0 then (
    some ((-1), σ1))
  else (
    bd2 (wb_span N  σ1) fun r4 σ3 => ck (isSp r4) (
    bd3 (wb_night_L25 N r4 a1 N 0 (-9) 1 σ3) fun x17 x18 σ19 =>
    if a1 = 0 then (
      some (x17, σ19))
    else (
      some (x18, σ19))))
set_option maxRecDepth 20000 in
theorem w_wb_night_L35 {l : Launch} {D : va_G} {cA : Nat → ClassId} {π : Nat → Nat} {Γ : Gx St} {vo : Int32} {σo : St} (C : Cm Γ cX6_night RX6 cA 4 152 7 l D π shC (some .int) (some (.int vo), σo)) (N : Nat) (r4 : Nat) (c5_35 : Int32) (c1_25 : Int32) (hr4 : shC[r4]? = some shX3) (yo : Int32 × Int32 × St) (kk35 : ∀ e3_35 e4_35 σe, (e3_35, e4_35, σe) = yo → Wx Γ σe 85 [(0, .ref (π 0)), (1, .int c1_25), (2, .ref (π r4)), (3, .int e3_35), (4, .int e4_35), (5, .int c5_35)] []) : ∀ (n : Nat) (x3_35 : Int32) (x4_35 : Int32) (x6_35 : Int32) (σ35 : St), wb_night_L35 N r4 c5_35 c1_25 n x3_35 x4_35 x6_35 σ35 = some yo → Wx Γ σ35 35 [(0, .ref (π 0)), (1, .int c1_25), (2, .ref (π r4)), (3, .int x3_35), (4, .int x4_35), (5, .int c5_35), (6, .int x6_35)] [] := by
  have C0 := C.1
  intro n
  induction n with
  | zero => intro x3_35 x4_35 x6_35 σ35 h; cases h
  | succ n ih =>
    intro x3_35 x4_35 x6_35 σ35 h
    rw [wb_night_L35] at h
    refine x_iload C0 dX6_night_35 rfl ?_
    refine x_bipush C0 (v := 9) dX6_night_37 (by decide) ?_
    refine x_icmp_gt C0 (tgt := 85) dX6_night_39 (by decide) h (fun h => ?_) (fun h => ?_)
    · exact x_pick [0, 1, 2, 3, 4, 5] rfl (kk35 _ _ _ (Option.some.inj h))
    · refine x_aload_n C0 dX6_night_42 rfl ?_
      refine gt_X6_34 C dX6_night_43 ?_
      refine x_aload_n C0 dX6_night_46 rfl ?_
      refine x_iload C0 dX6_night_47 rfl ?_
      refine x_iload C0 dX6_night_49 rfl ?_
      obtain ⟨v6, σ5, hc, h⟩ := bd2_some h
      refine x_callVi C (k_pl_isSoIfCrossed N r4 c5_35 x6_35 hr4 hc) umX6_224 ui_X2_isSoIfCrossed us_X2_isSoIfCrossed un_X2 uc_X2_isSoIfCrossed hv_X2_isSoIfCrossed rfl (by decide) (fks := [4, 5, 0]) rfl rfl dX6_night_51 (rest := []) rfl (Nat.le_of_ble_eq_true rfl) ?_
      refine x_if_eq C0 (tgt := 79) dX6_night_54 (by decide) h (fun h => ?_) (fun h => ?_)
      · refine x_iinc C0 (j := 6) (v := 1) (L' := fun x7 => [(6, .int x7), (0, .ref (π 0)), (1, .int c1_25), (2, .ref (π r4)), (3, .int x3_35), (4, .int x4_35), (5, .int c5_35)]) dX6_night_79 rfl (by decide) (by decide) (fun _ => rfl) h (fun x7 h => ?_)
        refine x_goto C0 (tgt := 35) dX6_night_82 (by decide) ?_
        exact x_pick [1, 2, 3, 4, 5, 6, 0] rfl (ih _ _ _ _ h)
      · refine x_iload_n C0 dX6_night_57 rfl ?_
        refine x_if_ne C0 (tgt := 72) dX6_night_58 (by decide) h (fun h => ?_) (fun h => ?_)
        · refine x_iload C0 dX6_night_72 rfl ?_
          refine x_istore C0 (L' := [(4, .int x4_35), (0, .ref (π 0)), (1, .int c1_25), (2, .ref (π r4)), (3, .int x3_35), (5, .int c5_35), (6, .int x6_35)]) dX6_night_74 (by decide) rfl ?_
          refine x_iinc C0 (j := 4) (v := 1) (L' := fun x8 => [(3, .int x8), (4, .int x4_35), (0, .ref (π 0)), (1, .int c1_25), (2, .ref (π r4)), (5, .int c5_35), (6, .int x6_35)]) dX6_night_76 rfl (by decide) (by decide) (fun _ => rfl) h (fun x8 h => ?_)
          refine x_iinc C0 (j := 6) (v := 1) (L' := fun x9 => [(6, .int x9), (3, .int x8), (4, .int x4_35), (0, .ref (π 0)), (1, .int c1_25), (2, .ref (π r4)), (5, .int c5_35)]) dX6_night_79 rfl (by decide) (by decide) (fun _ => rfl) h (fun x9 h => ?_)
          refine x_goto C0 (tgt := 35) dX6_night_82 (by decide) ?_
          exact x_pick [3, 4, 5, 1, 2, 6, 0] rfl (ih _ _ _ _ h)
        · refine x_bipush C0 (v := 10) dX6_night_61 (by decide) ?_
          refine x_iload C0 dX6_night_63 rfl ?_
          refine x_imul C0 dX6_night_65 ?_
          refine x_iload C0 dX6_night_66 rfl ?_
          refine x_iadd C0 dX6_night_68 ?_
          refine x_goto C0 (tgt := 74) dX6_night_69 (by decide) ?_
          refine x_nm h (fun x10 h => ?_)
          refine x_istore C0 (L' := [(4, .int x10), (0, .ref (π 0)), (1, .int c1_25), (2, .ref (π r4)), (3, .int x3_35), (5, .int c5_35), (6, .int x6_35)]) dX6_night_74 (by decide) rfl ?_
          refine x_iinc C0 (j := 4) (v := 1) (L' := fun x11 => [(3, .int x11), (4, .int x10), (0, .ref (π 0)), (1, .int c1_25), (2, .ref (π r4)), (5, .int c5_35), (6, .int x6_35)]) dX6_night_76 rfl (by decide) (by decide) (fun _ => rfl) h (fun x11 h => ?_)
          refine x_iinc C0 (j := 6) (v := 1) (L' := fun x12 => [(6, .int x12), (3, .int x11), (4, .int x10), (0, .ref (π 0)), (1, .int c1_25), (2, .ref (π r4)), (5, .int c5_35)]) dX6_night_79 rfl (by decide) (by decide) (fun _ => rfl) h (fun x12 h => ?_)
          refine x_goto C0 (tgt := 35) dX6_night_82 (by decide) ?_
          exact x_pick [3, 4, 5, 1, 2, 6, 0] rfl (ih _ _ _ _ h)
set_option maxRecDepth 20000 in
theorem w_wb_night_L25 {l : Launch} {D : va_G} {cA : Nat → ClassId} {π : Nat → Nat} {Γ : Gx St} {vo : Int32} {σo : St} (C : Cm Γ cX6_night RX6 cA 4 152 7 l D π shC (some .int) (some (.int vo), σo)) (N : Nat) (r4 : Nat) (c1_25 : Int32) (hr4 : shC[r4]? = some shX3) (yo : Int32 × Int32 × St) (kk25 : ∀ e3_25 e4_25 σe, (e3_25, e4_25, σe) = yo → Wx Γ σe 91 [(1, .int c1_25), (3, .int e3_25), (4, .int e4_25)] []) : ∀ (n : Nat) (x3_25 : Int32) (x4_25 : Int32) (x5_25 : Int32) (σ25 : St), wb_night_L25 N r4 c1_25 n x3_25 x4_25 x5_25 σ25 = some yo → Wx Γ σ25 25 [(0, .ref (π 0)), (1, .int c1_25), (2, .ref (π r4)), (3, .int x3_25), (4, .int x4_25), (5, .int x5_25)] [] := by
  have C0 := C.1
  intro n
  induction n with
  | zero => intro x3_25 x4_25 x5_25 σ25 h; cases h
  | succ n ih =>
    intro x3_25 x4_25 x5_25 σ25 h
    rw [wb_night_L25] at h
    refine x_iload C0 dX6_night_25 rfl ?_
    refine x_bipush C0 (v := 9) dX6_night_27 (by decide) ?_
    refine x_icmp_gt C0 (tgt := 91) dX6_night_29 (by decide) h (fun h => ?_) (fun h => ?_)
    · exact x_pick [1, 3, 4] rfl (kk25 _ _ _ (Option.some.inj h))
    · refine x_iconst C0 (v := 1) dX6_night_32 (by decide) ?_
      refine x_istore C0 (L' := [(6, .int 1), (0, .ref (π 0)), (1, .int c1_25), (2, .ref (π r4)), (3, .int x3_25), (4, .int x4_25), (5, .int x5_25)]) dX6_night_33 (by decide) rfl ?_
      obtain ⟨x13, x14, σ15, hL, h⟩ := bd3_some h
      refine x_pick [1, 2, 3, 4, 5, 6, 0] rfl (w_wb_night_L35 C N r4 x5_25 c1_25 hr4 _ (fun b0 b1 b2 e => ?_) N x3_25 x4_25 1 σ25 hL)
      cases e
      refine x_iinc C0 (j := 5) (v := 1) (L' := fun x16 => [(5, .int x16), (0, .ref (π 0)), (1, .int c1_25), (2, .ref (π r4)), (3, .int x13), (4, .int x14)]) dX6_night_85 rfl (by decide) (by decide) (fun _ => rfl) h (fun x16 h => ?_)
      refine x_goto C0 (tgt := 25) dX6_night_88 (by decide) ?_
      exact x_pick [1, 2, 3, 4, 5, 0] rfl (ih _ _ _ _ h)
set_option maxRecDepth 20000 in
theorem k_wb_night {l : Launch} {D : va_G} {cA : Nat → ClassId} {π : Nat → Nat} (N : Nat) (a1 : Int32)  {σ : St} {vo : Int32} {σo : St} (h : wb_night N a1 σ = some (vo, σo)) : Kt l D cA π shC yX6_night cX6_night 7 (some .int) 4 152 [.ref (π 0), .int a1] σ (some (.int vo)) σo := by
  refine Kt.of (by decide) (Nat.le_of_ble_eq_true rfl) (L := [(0, .ref (π 0)), (1, .int a1)]) rfl (fun Γ C => ?_)
  have C0 := C.1
  unfold wb_night at h
  refine x_iload_n C0 dX6_night_0 rfl ?_
  refine x_iconst C0 (v := 0) dX6_night_1 (by decide) ?_
  refine x_iconst C0 (v := 1) dX6_night_2 (by decide) ?_
  obtain ⟨v2, σ1, hc, h⟩ := bd2_some h
  refine x_callSi C (k_wb_within N a1 0 1  hc) umX6_55 ut_X6_within un_X6 uc_X6_within hs_X6_within rfl (by decide) dX6_night_3 (rest := []) rfl (Nat.le_of_ble_eq_true rfl) ?_
  refine x_if_ne C0 (tgt := 11) dX6_night_6 (by decide) h (fun h => ?_) (fun h => ?_)
  · refine x_aload_n C0 dX6_night_11 rfl ?_
    obtain ⟨r4, σ3, hc, h⟩ := bd2_some h
    refine x_callVr C (k_wb_span N  hc) umX6_90 ui_X6_span us_X6_span un_X6 uc_X6_span hv_X6_span rfl (by decide) (fks := [4, 6, 44, 121, 122, 125, 2, 2, 1]) rfl rfl dX6_night_12 (rest := []) rfl (Nat.le_of_ble_eq_true rfl) ?_
    refine x_chk h (fun q h => ?_)
    have hr4 := isSp_sh q
    refine x_astore_n C0 (L' := [(2, .ref (π r4)), (0, .ref (π 0)), (1, .int a1)]) dX6_night_15 (by decide) rfl ?_
    refine x_iconst C0 (v := 0) dX6_night_16 (by decide) ?_
    refine x_istore_n C0 (L' := [(3, .int 0), (2, .ref (π r4)), (0, .ref (π 0)), (1, .int a1)]) dX6_night_17 (by decide) rfl ?_
    refine x_bipush C0 (v := (-9)) dX6_night_18 (by decide) ?_
    refine x_istore C0 (L' := [(4, .int (-9)), (3, .int 0), (2, .ref (π r4)), (0, .ref (π 0)), (1, .int a1)]) dX6_night_20 (by decide) rfl ?_
    refine x_iconst C0 (v := 1) dX6_night_22 (by decide) ?_
    refine x_istore C0 (L' := [(5, .int 1), (4, .int (-9)), (3, .int 0), (2, .ref (π r4)), (0, .ref (π 0)), (1, .int a1)]) dX6_night_23 (by decide) rfl ?_
    obtain ⟨x17, x18, σ19, hL, h⟩ := bd3_some h
    refine x_pick [4, 5, 3, 2, 1, 0] rfl (w_wb_night_L25 C N r4 a1 hr4 _ (fun b0 b1 b2 e => ?_) N 0 (-9) 1 σ3 hL)
    cases e
    refine x_iload_n C0 dX6_night_91 rfl ?_
    refine x_if_ne C0 (tgt := 99) dX6_night_92 (by decide) h (fun h => ?_) (fun h => ?_)
    · refine x_iload C0 dX6_night_99 rfl ?_
      exact x_iret C dX6_night_101 h
    · refine x_iload_n C0 dX6_night_95 rfl ?_
      refine x_goto C0 (tgt := 101) dX6_night_96 (by decide) ?_
      exact x_iret C dX6_night_101 h
  · refine x_iconst C0 (v := (-1)) dX6_night_9 (by decide) ?_
    exact x_iret C dX6_night_10 h
def wb_markOfRow (N : Nat) (a1 : Int32) (σ : St) : Option (Int32 × St) :=
  lt (putl σ (σ.2 + 1)) fun σ1 =>
  bd2 (wb_span N  σ1) fun r3 σ2 => ck (isSp r3) (
  ck (inb a1 40) (
  some ((σ2.1 (r3 + 2) (ix a1)), σ2)))
set_option maxRecDepth 20000 in
theorem k_wb_markOfRow {l : Launch} {D : va_G} {cA : Nat → ClassId} {π : Nat → Nat} (N : Nat) (a1 : Int32)  {σ : St} {vo : Int32} {σo : St} (h : wb_markOfRow N a1 σ = some (vo, σo)) : Kt l D cA π shC yX6_markOfRow cX6_markOfRow 2 (some .int) 2 40 [.ref (π 0), .int a1] σ (some (.int vo)) σo := by
  refine Kt.of (by decide) (Nat.le_of_ble_eq_true rfl) (L := [(0, .ref (π 0)), (1, .int a1)]) rfl (fun Γ C => ?_)
  have C0 := C.1
  unfold wb_markOfRow at h
  refine x_aload_n C0 dX6_markOfRow_0 rfl ?_
  refine x_dup C0 rfl dX6_markOfRow_1 ?_
  refine gt_X6_250 C dX6_markOfRow_2 ?_
  refine x_lconst C0 (v := 1) dX6_markOfRow_5 (by decide) ?_
  refine x_ladd C0 dX6_markOfRow_6 ?_
  refine pt_X6_250 C dX6_markOfRow_7 h (fun σ1 h => ?_)
  refine x_aload_n C0 dX6_markOfRow_10 rfl ?_
  obtain ⟨r3, σ2, hc, h⟩ := bd2_some h
  refine x_callVr C (k_wb_span N  hc) umX6_90 ui_X6_span us_X6_span un_X6 uc_X6_span hv_X6_span rfl (by decide) (fks := [4, 6, 44, 121, 122, 125, 2, 2, 1]) rfl rfl dX6_markOfRow_11 (rest := []) rfl (Nat.le_of_ble_eq_true rfl) ?_
  refine x_chk h (fun q h => ?_)
  have hr3 := isSp_sh q
  refine gt_X6_104 C hr3 dX6_markOfRow_14 ?_
  refine x_iload_n C0 dX6_markOfRow_17 rfl ?_
  refine x_iald C (k := (r3 + 2)) (z := 40) (sh_X3_thick hr3) dX6_markOfRow_18 h (fun h => ?_)
  exact x_iret C dX6_markOfRow_19 h
def wb_markOfBride (N : Nat) (a1 : Int32) (σ : St) : Option (Int32 × St) :=
  lt (putl σ (σ.2 + 100)) fun σ1 =>
  bd2 (wb_markOfRow N a1 σ1) fun v3 σ2 =>
  bd2 (wb_span N  σ2) fun r5 σ4 => ck (isSp r5) (
  ck (inb a1 40) (
  some ((v3 - (σ4.1 (r5 + 3) (ix a1))), σ4)))
set_option maxRecDepth 20000 in
theorem k_wb_markOfBride {l : Launch} {D : va_G} {cA : Nat → ClassId} {π : Nat → Nat} (N : Nat) (a1 : Int32)  {σ : St} {vo : Int32} {σo : St} (h : wb_markOfBride N a1 σ = some (vo, σo)) : Kt l D cA π shC yX6_markOfBride cX6_markOfBride 2 (some .int) 3 61 [.ref (π 0), .int a1] σ (some (.int vo)) σo := by
  refine Kt.of (by decide) (Nat.le_of_ble_eq_true rfl) (L := [(0, .ref (π 0)), (1, .int a1)]) rfl (fun Γ C => ?_)
  have C0 := C.1
  unfold wb_markOfBride at h
  refine x_aload_n C0 dX6_markOfBride_0 rfl ?_
  refine x_dup C0 rfl dX6_markOfBride_1 ?_
  refine gt_X6_250 C dX6_markOfBride_2 ?_
  refine x_ldc2 C0 ukX6_263 dX6_markOfBride_5 ?_
  refine x_ladd C0 dX6_markOfBride_8 ?_
  refine pt_X6_250 C dX6_markOfBride_9 h (fun σ1 h => ?_)
  refine x_aload_n C0 dX6_markOfBride_12 rfl ?_
  refine x_iload_n C0 dX6_markOfBride_13 rfl ?_
  obtain ⟨v3, σ2, hc, h⟩ := bd2_some h
  refine x_callVi C (k_wb_markOfRow N a1  hc) umX6_228 ui_X6_markOfRow us_X6_markOfRow un_X6 uc_X6_markOfRow hv_X6_markOfRow rfl (by decide) (fks := [4, 6, 44, 121, 122, 125, 2, 2, 1]) rfl rfl dX6_markOfBride_14 (rest := []) rfl (Nat.le_of_ble_eq_true rfl) ?_
  refine x_aload_n C0 dX6_markOfBride_17 rfl ?_
  obtain ⟨r5, σ4, hc, h⟩ := bd2_some h
  refine x_callVr C (k_wb_span N  hc) umX6_90 ui_X6_span us_X6_span un_X6 uc_X6_span hv_X6_span rfl (by decide) (fks := [4, 6, 44, 121, 122, 125, 2, 2, 1]) rfl rfl dX6_markOfBride_18 (rest := [.int v3]) rfl (Nat.le_of_ble_eq_true rfl) ?_
  refine x_chk h (fun q h => ?_)
  have hr5 := isSp_sh q
  refine gt_X6_105 C hr5 dX6_markOfBride_21 ?_
  refine x_iload_n C0 dX6_markOfBride_24 rfl ?_
  refine x_iald C (k := (r5 + 3)) (z := 40) (sh_X3_old hr5) dX6_markOfBride_25 h (fun h => ?_)
  refine x_isub C0 dX6_markOfBride_26 ?_
  exact x_iret C dX6_markOfBride_27 h
def wb_markOfPoor (N : Nat) (a1 : Int32) (σ : St) : Option (Int32 × St) :=
  lt (putl σ (σ.2 + 10)) fun σ1 =>
  bd2 (wb_markOfRow N a1 σ1) fun v3 σ2 =>
  bd2 (wb_span N  σ2) fun r5 σ4 => ck (isSp r5) (
  bd2 (sp_bears N r5 a1 σ4) fun v7 σ6 =>
  some ((v3 + v7), σ6))
set_option maxRecDepth 20000 in
theorem k_wb_markOfPoor {l : Launch} {D : va_G} {cA : Nat → ClassId} {π : Nat → Nat} (N : Nat) (a1 : Int32)  {σ : St} {vo : Int32} {σo : St} (h : wb_markOfPoor N a1 σ = some (vo, σo)) : Kt l D cA π shC yX6_markOfPoor cX6_markOfPoor 2 (some .int) 3 124 [.ref (π 0), .int a1] σ (some (.int vo)) σo := by
  refine Kt.of (by decide) (Nat.le_of_ble_eq_true rfl) (L := [(0, .ref (π 0)), (1, .int a1)]) rfl (fun Γ C => ?_)
  have C0 := C.1
  unfold wb_markOfPoor at h
  refine x_aload_n C0 dX6_markOfPoor_0 rfl ?_
  refine x_dup C0 rfl dX6_markOfPoor_1 ?_
  refine gt_X6_250 C dX6_markOfPoor_2 ?_
  refine x_ldc2 C0 ukX6_261 dX6_markOfPoor_5 ?_
  refine x_ladd C0 dX6_markOfPoor_8 ?_
  refine pt_X6_250 C dX6_markOfPoor_9 h (fun σ1 h => ?_)
  refine x_aload_n C0 dX6_markOfPoor_12 rfl ?_
  refine x_iload_n C0 dX6_markOfPoor_13 rfl ?_
  obtain ⟨v3, σ2, hc, h⟩ := bd2_some h
  refine x_callVi C (k_wb_markOfRow N a1  hc) umX6_228 ui_X6_markOfRow us_X6_markOfRow un_X6 uc_X6_markOfRow hv_X6_markOfRow rfl (by decide) (fks := [4, 6, 44, 121, 122, 125, 2, 2, 1]) rfl rfl dX6_markOfPoor_14 (rest := []) rfl (Nat.le_of_ble_eq_true rfl) ?_
  refine x_aload_n C0 dX6_markOfPoor_17 rfl ?_
  obtain ⟨r5, σ4, hc, h⟩ := bd2_some h
  refine x_callVr C (k_wb_span N  hc) umX6_90 ui_X6_span us_X6_span un_X6 uc_X6_span hv_X6_span rfl (by decide) (fks := [4, 6, 44, 121, 122, 125, 2, 2, 1]) rfl rfl dX6_markOfPoor_18 (rest := [.int v3]) rfl (Nat.le_of_ble_eq_true rfl) ?_
  refine x_chk h (fun q h => ?_)
  have hr5 := isSp_sh q
  refine x_iload_n C0 dX6_markOfPoor_21 rfl ?_
  obtain ⟨v7, σ6, hc, h⟩ := bd2_some h
  refine x_callVi C (k_sp_bears N r5 a1 hr5 hc) umX6_108 ui_X3_bears us_X3_bears un_X3 uc_X3_bears hv_X3_bears rfl (by decide) hr5 rfl dX6_markOfPoor_22 (rest := [.int v3]) rfl (Nat.le_of_ble_eq_true rfl) ?_
  refine x_iadd C0 dX6_markOfPoor_25 ?_
  exact x_iret C dX6_markOfPoor_26 h
def wb_markOfDrover (N : Nat) (a1 : Int32) (σ : St) : Option (Int32 × St) :=
  lt (putl σ (σ.2 + 1000)) fun σ1 =>
  bd2 (wb_markOfPoor N a1 σ1) fun v3 σ2 =>
  some ((v3 * 2), σ2)
set_option maxRecDepth 20000 in
theorem k_wb_markOfDrover {l : Launch} {D : va_G} {cA : Nat → ClassId} {π : Nat → Nat} (N : Nat) (a1 : Int32)  {σ : St} {vo : Int32} {σo : St} (h : wb_markOfDrover N a1 σ = some (vo, σo)) : Kt l D cA π shC yX6_markOfDrover cX6_markOfDrover 2 (some .int) 4 145 [.ref (π 0), .int a1] σ (some (.int vo)) σo := by
  refine Kt.of (by decide) (Nat.le_of_ble_eq_true rfl) (L := [(0, .ref (π 0)), (1, .int a1)]) rfl (fun Γ C => ?_)
  have C0 := C.1
  unfold wb_markOfDrover at h
  refine x_aload_n C0 dX6_markOfDrover_0 rfl ?_
  refine x_dup C0 rfl dX6_markOfDrover_1 ?_
  refine gt_X6_250 C dX6_markOfDrover_2 ?_
  refine x_ldc2 C0 ukX6_265 dX6_markOfDrover_5 ?_
  refine x_ladd C0 dX6_markOfDrover_8 ?_
  refine pt_X6_250 C dX6_markOfDrover_9 h (fun σ1 h => ?_)
  refine x_aload_n C0 dX6_markOfDrover_12 rfl ?_
  refine x_iload_n C0 dX6_markOfDrover_13 rfl ?_
  obtain ⟨v3, σ2, hc, h⟩ := bd2_some h
  refine x_callVi C (k_wb_markOfPoor N a1  hc) umX6_231 ui_X6_markOfPoor us_X6_markOfPoor un_X6 uc_X6_markOfPoor hv_X6_markOfPoor rfl (by decide) (fks := [4, 6, 44, 121, 122, 125, 2, 2, 1]) rfl rfl dX6_markOfDrover_14 (rest := []) rfl (Nat.le_of_ble_eq_true rfl) ?_
  refine x_iconst C0 (v := 2) dX6_markOfDrover_17 (by decide) ?_
  refine x_imul C0 dX6_markOfDrover_18 ?_
  exact x_iret C dX6_markOfDrover_19 h
def wb_markOfOath (N : Nat) (a1 : Int32) (σ : St) : Option (Int32 × St) :=
  lt (putl σ (σ.2 + 10000)) fun σ1 =>
  bd2 (wb_markOfBride N a1 σ1) fun v3 σ2 =>
  lt (ix (σ2.1 0 6)) fun r4 => ck (isTd r4) (
  bd2 (wb_span N  σ2) fun r6 σ5 => ck (isSp r6) (
  ck (inb a1 40) (
  ck (inb (σ5.1 (r6 + 1) (ix a1)) 6) (
  some ((v3 + (σ5.1 (r4 + 1) (ix (σ5.1 (r6 + 1) (ix a1))))), σ5)))))
set_option maxRecDepth 20000 in
theorem k_wb_markOfOath {l : Launch} {D : va_G} {cA : Nat → ClassId} {π : Nat → Nat} (N : Nat) (a1 : Int32)  {σ : St} {vo : Int32} {σo : St} (h : wb_markOfOath N a1 σ = some (vo, σo)) : Kt l D cA π shC yX6_markOfOath cX6_markOfOath 2 (some .int) 4 82 [.ref (π 0), .int a1] σ (some (.int vo)) σo := by
  refine Kt.of (by decide) (Nat.le_of_ble_eq_true rfl) (L := [(0, .ref (π 0)), (1, .int a1)]) rfl (fun Γ C => ?_)
  have C0 := C.1
  unfold wb_markOfOath at h
  refine x_aload_n C0 dX6_markOfOath_0 rfl ?_
  refine x_dup C0 rfl dX6_markOfOath_1 ?_
  refine gt_X6_250 C dX6_markOfOath_2 ?_
  refine x_ldc2 C0 ukX6_267 dX6_markOfOath_5 ?_
  refine x_ladd C0 dX6_markOfOath_8 ?_
  refine pt_X6_250 C dX6_markOfOath_9 h (fun σ1 h => ?_)
  refine x_aload_n C0 dX6_markOfOath_12 rfl ?_
  refine x_iload_n C0 dX6_markOfOath_13 rfl ?_
  obtain ⟨v3, σ2, hc, h⟩ := bd2_some h
  refine x_callVi C (k_wb_markOfBride N a1  hc) umX6_234 ui_X6_markOfBride us_X6_markOfBride un_X6 uc_X6_markOfBride hv_X6_markOfBride rfl (by decide) (fks := [4, 6, 44, 121, 122, 125, 2, 2, 1]) rfl rfl dX6_markOfOath_14 (rest := []) rfl (Nat.le_of_ble_eq_true rfl) ?_
  refine x_aload_n C0 dX6_markOfOath_17 rfl ?_
  refine gt_X6_48 C dX6_markOfOath_18 ?_
  refine x_nmr h (fun r4 h => ?_)
  refine x_chk h (fun q h => ?_)
  have hr4 := isTd_sh q
  refine gt_X6_83 C hr4 dX6_markOfOath_21 ?_
  refine x_aload_n C0 dX6_markOfOath_24 rfl ?_
  obtain ⟨r6, σ5, hc, h⟩ := bd2_some h
  refine x_callVr C (k_wb_span N  hc) umX6_90 ui_X6_span us_X6_span un_X6 uc_X6_span hv_X6_span rfl (by decide) (fks := [4, 6, 44, 121, 122, 125, 2, 2, 1]) rfl rfl dX6_markOfOath_25 (rest := [.ref (π (r4 + 1)), .int v3]) rfl (Nat.le_of_ble_eq_true rfl) ?_
  refine x_chk h (fun q h => ?_)
  have hr6 := isSp_sh q
  refine gt_X6_101 C hr6 dX6_markOfOath_28 ?_
  refine x_iload_n C0 dX6_markOfOath_31 rfl ?_
  refine x_iald C (k := (r6 + 1)) (z := 40) (sh_X3_whose hr6) dX6_markOfOath_32 h (fun h => ?_)
  refine x_iald C (k := (r4 + 1)) (z := 6) (sh_X5_heavy hr4) dX6_markOfOath_33 h (fun h => ?_)
  refine x_iadd C0 dX6_markOfOath_34 ?_
  exact x_iret C dX6_markOfOath_35 h
def wb_markOfSheep (N : Nat) (a1 : Int32) (σ : St) : Option (Int32 × St) :=
  lt (putl σ (σ.2 + 100000)) fun σ1 =>
  bd2 (wb_markOfRow N a1 σ1) fun v3 σ2 =>
  bd2 (wb_span N  σ2) fun r5 σ4 => ck (isSp r5) (
  some ((v3 + (σ4.1 r5 5)), σ4))
set_option maxRecDepth 20000 in
theorem k_wb_markOfSheep {l : Launch} {D : va_G} {cA : Nat → ClassId} {π : Nat → Nat} (N : Nat) (a1 : Int32)  {σ : St} {vo : Int32} {σo : St} (h : wb_markOfSheep N a1 σ = some (vo, σo)) : Kt l D cA π shC yX6_markOfSheep cX6_markOfSheep 2 (some .int) 3 61 [.ref (π 0), .int a1] σ (some (.int vo)) σo := by
  refine Kt.of (by decide) (Nat.le_of_ble_eq_true rfl) (L := [(0, .ref (π 0)), (1, .int a1)]) rfl (fun Γ C => ?_)
  have C0 := C.1
  unfold wb_markOfSheep at h
  refine x_aload_n C0 dX6_markOfSheep_0 rfl ?_
  refine x_dup C0 rfl dX6_markOfSheep_1 ?_
  refine gt_X6_250 C dX6_markOfSheep_2 ?_
  refine x_ldc2 C0 ukX6_269 dX6_markOfSheep_5 ?_
  refine x_ladd C0 dX6_markOfSheep_8 ?_
  refine pt_X6_250 C dX6_markOfSheep_9 h (fun σ1 h => ?_)
  refine x_aload_n C0 dX6_markOfSheep_12 rfl ?_
  refine x_iload_n C0 dX6_markOfSheep_13 rfl ?_
  obtain ⟨v3, σ2, hc, h⟩ := bd2_some h
  refine x_callVi C (k_wb_markOfRow N a1  hc) umX6_228 ui_X6_markOfRow us_X6_markOfRow un_X6 uc_X6_markOfRow hv_X6_markOfRow rfl (by decide) (fks := [4, 6, 44, 121, 122, 125, 2, 2, 1]) rfl rfl dX6_markOfSheep_14 (rest := []) rfl (Nat.le_of_ble_eq_true rfl) ?_
  refine x_aload_n C0 dX6_markOfSheep_17 rfl ?_
  obtain ⟨r5, σ4, hc, h⟩ := bd2_some h
  refine x_callVr C (k_wb_span N  hc) umX6_90 ui_X6_span us_X6_span un_X6 uc_X6_span hv_X6_span rfl (by decide) (fks := [4, 6, 44, 121, 122, 125, 2, 2, 1]) rfl rfl dX6_markOfSheep_18 (rest := [.int v3]) rfl (Nat.le_of_ble_eq_true rfl) ?_
  refine x_chk h (fun q h => ?_)
  have hr5 := isSp_sh q
  refine gt_X6_138 C hr5 dX6_markOfSheep_21 ?_
  refine x_iadd C0 dX6_markOfSheep_24 ?_
  exact x_iret C dX6_markOfSheep_25 h
def wb_mark (N : Nat) (a1 : Int32) (a2 : Int32) (σ : St) : Option (Int32 × St) :=
  bd2 (wb_span N  σ) fun r2 σ1 => ck (isSp r2) (
  bd2 (sp_has N r2 a2 σ1) fun v4 σ3 =>
  if v4 = 0 then (
    some ((-1000000), σ3))
  else (
    if a1 = 0 then (
      bd2 (wb_markOfRow N a2 σ3) fun v6 σ5 =>
      some (v6, σ5))
    else (
      if a1 = 1 then (
        bd2 (wb_markOfPoor N a2 σ3) fun v8 σ7 =>
        some (v8, σ7))
      else (
        if a1 = 2 then (
          bd2 (wb_markOfBride N a2 σ3) fun v10 σ9 =>
          some (v10, σ9))
        else (
          if a1 = 3 then (
            bd2 (wb_markOfDrover N a2 σ3) fun v12 σ11 =>
            some (v12, σ11))
          else (
            if a1 = 4 then (
              bd2 (wb_markOfOath N a2 σ3) fun v14 σ13 =>
              some (v14, σ13))
            else (
              if a1 = 5 then (
                bd2 (wb_markOfSheep N a2 σ3) fun v16 σ15 =>
                some (v16, σ15))
              else (
                some ((-1000000), σ3)))))))))
set_option maxRecDepth 20000 in
theorem k_wb_mark {l : Launch} {D : va_G} {cA : Nat → ClassId} {π : Nat → Nat} (N : Nat) (a1 : Int32) (a2 : Int32)  {σ : St} {vo : Int32} {σo : St} (h : wb_mark N a1 a2 σ = some (vo, σo)) : Kt l D cA π shC yX6_mark cX6_mark 3 (some .int) 5 166 [.ref (π 0), .int a1, .int a2] σ (some (.int vo)) σo := by
  refine Kt.of (by decide) (Nat.le_of_ble_eq_true rfl) (L := [(0, .ref (π 0)), (1, .int a1), (2, .int a2)]) rfl (fun Γ C => ?_)
  have C0 := C.1
  unfold wb_mark at h
  refine x_aload_n C0 dX6_mark_0 rfl ?_
  obtain ⟨r2, σ1, hc, h⟩ := bd2_some h
  refine x_callVr C (k_wb_span N  hc) umX6_90 ui_X6_span us_X6_span un_X6 uc_X6_span hv_X6_span rfl (by decide) (fks := [4, 6, 44, 121, 122, 125, 2, 2, 1]) rfl rfl dX6_mark_1 (rest := []) rfl (Nat.le_of_ble_eq_true rfl) ?_
  refine x_chk h (fun q h => ?_)
  have hr2 := isSp_sh q
  refine x_iload_n C0 dX6_mark_4 rfl ?_
  obtain ⟨v4, σ3, hc, h⟩ := bd2_some h
  refine x_callVi C (k_sp_has N r2 a2 hr2 hc) umX6_100 ui_X3_has us_X3_has un_X3 uc_X3_has hv_X3_has rfl (by decide) hr2 rfl dX6_mark_5 (rest := []) rfl (Nat.le_of_ble_eq_true rfl) ?_
  refine x_if_ne C0 (tgt := 14) dX6_mark_8 (by decide) h (fun h => ?_) (fun h => ?_)
  · refine x_iload_n C0 dX6_mark_14 rfl ?_
    refine x_case 0 h (fun q h => ?_) (fun q0 h => ?_)
    · refine x_tab C0 (tgt := 52) dX6_mark_15 q (by decide) (by decide) rfl (by decide) ?_
      refine x_aload_n C0 dX6_mark_52 rfl ?_
      refine x_iload_n C0 dX6_mark_53 rfl ?_
      obtain ⟨v6, σ5, hc, h⟩ := bd2_some h
      refine x_callVi C (k_wb_markOfRow N a2  hc) umX6_228 ui_X6_markOfRow us_X6_markOfRow un_X6 uc_X6_markOfRow hv_X6_markOfRow rfl (by decide) (fks := [4, 6, 44, 121, 122, 125, 2, 2, 1]) rfl rfl dX6_mark_54 (rest := []) rfl (Nat.le_of_ble_eq_true rfl) ?_
      exact x_iret C dX6_mark_57 h
    · refine x_case 1 h (fun q h => ?_) (fun q1 h => ?_)
      · refine x_tab C0 (tgt := 58) dX6_mark_15 q (by decide) (by decide) rfl (by decide) ?_
        refine x_aload_n C0 dX6_mark_58 rfl ?_
        refine x_iload_n C0 dX6_mark_59 rfl ?_
        obtain ⟨v8, σ7, hc, h⟩ := bd2_some h
        refine x_callVi C (k_wb_markOfPoor N a2  hc) umX6_231 ui_X6_markOfPoor us_X6_markOfPoor un_X6 uc_X6_markOfPoor hv_X6_markOfPoor rfl (by decide) (fks := [4, 6, 44, 121, 122, 125, 2, 2, 1]) rfl rfl dX6_mark_60 (rest := []) rfl (Nat.le_of_ble_eq_true rfl) ?_
        exact x_iret C dX6_mark_63 h
      · refine x_case 2 h (fun q h => ?_) (fun q2 h => ?_)
        · refine x_tab C0 (tgt := 64) dX6_mark_15 q (by decide) (by decide) rfl (by decide) ?_
          refine x_aload_n C0 dX6_mark_64 rfl ?_
          refine x_iload_n C0 dX6_mark_65 rfl ?_
          obtain ⟨v10, σ9, hc, h⟩ := bd2_some h
          refine x_callVi C (k_wb_markOfBride N a2  hc) umX6_234 ui_X6_markOfBride us_X6_markOfBride un_X6 uc_X6_markOfBride hv_X6_markOfBride rfl (by decide) (fks := [4, 6, 44, 121, 122, 125, 2, 2, 1]) rfl rfl dX6_mark_66 (rest := []) rfl (Nat.le_of_ble_eq_true rfl) ?_
          exact x_iret C dX6_mark_69 h
        · refine x_case 3 h (fun q h => ?_) (fun q3 h => ?_)
          · refine x_tab C0 (tgt := 70) dX6_mark_15 q (by decide) (by decide) rfl (by decide) ?_
            refine x_aload_n C0 dX6_mark_70 rfl ?_
            refine x_iload_n C0 dX6_mark_71 rfl ?_
            obtain ⟨v12, σ11, hc, h⟩ := bd2_some h
            refine x_callVi C (k_wb_markOfDrover N a2  hc) umX6_237 ui_X6_markOfDrover us_X6_markOfDrover un_X6 uc_X6_markOfDrover hv_X6_markOfDrover rfl (by decide) (fks := [4, 6, 44, 121, 122, 125, 2, 2, 1]) rfl rfl dX6_mark_72 (rest := []) rfl (Nat.le_of_ble_eq_true rfl) ?_
            exact x_iret C dX6_mark_75 h
          · refine x_case 4 h (fun q h => ?_) (fun q4 h => ?_)
            · refine x_tab C0 (tgt := 76) dX6_mark_15 q (by decide) (by decide) rfl (by decide) ?_
              refine x_aload_n C0 dX6_mark_76 rfl ?_
              refine x_iload_n C0 dX6_mark_77 rfl ?_
              obtain ⟨v14, σ13, hc, h⟩ := bd2_some h
              refine x_callVi C (k_wb_markOfOath N a2  hc) umX6_240 ui_X6_markOfOath us_X6_markOfOath un_X6 uc_X6_markOfOath hv_X6_markOfOath rfl (by decide) (fks := [4, 6, 44, 121, 122, 125, 2, 2, 1]) rfl rfl dX6_mark_78 (rest := []) rfl (Nat.le_of_ble_eq_true rfl) ?_
              exact x_iret C dX6_mark_81 h
            · refine x_case 5 h (fun q h => ?_) (fun q5 h => ?_)
              · refine x_tab C0 (tgt := 82) dX6_mark_15 q (by decide) (by decide) rfl (by decide) ?_
                refine x_aload_n C0 dX6_mark_82 rfl ?_
                refine x_iload_n C0 dX6_mark_83 rfl ?_
                obtain ⟨v16, σ15, hc, h⟩ := bd2_some h
                refine x_callVi C (k_wb_markOfSheep N a2  hc) umX6_243 ui_X6_markOfSheep us_X6_markOfSheep un_X6 uc_X6_markOfSheep hv_X6_markOfSheep rfl (by decide) (fks := [4, 6, 44, 121, 122, 125, 2, 2, 1]) rfl rfl dX6_mark_84 (rest := []) rfl (Nat.le_of_ble_eq_true rfl) ?_
                exact x_iret C dX6_mark_87 h
              · refine x_tabD C0 (tgt := 88) dX6_mark_15 (by have g0 := lv_neT q0 (show (0 : Int32).toInt = 0 from rfl); have g1 := lv_neT q1 (show (1 : Int32).toInt = 1 from rfl); have g2 := lv_neT q2 (show (2 : Int32).toInt = 2 from rfl); have g3 := lv_neT q3 (show (3 : Int32).toInt = 3 from rfl); have g4 := lv_neT q4 (show (4 : Int32).toInt = 4 from rfl); have g5 := lv_neT q5 (show (5 : Int32).toInt = 5 from rfl); omega) (by decide) ?_
                refine x_ldc C0 ukX6_227 dX6_mark_88 ?_
                exact x_iret C dX6_mark_90 h
  · refine x_ldc C0 ukX6_227 dX6_mark_11 ?_
    exact x_iret C dX6_mark_13 h
def ps_takeAll_L2 (N : Nat) (k0 : Nat) (k1 : Nat) : Nat → Int32 → St → Option (St)
  | 0, _, _ => none
  | n + 1, x2_2, σ2 =>
    if 8 < x2_2 then (
      some σ2)
    else (
      ck (inb x2_2 9) (lt ((k0 + 1) + 1 + (3 + 1) * ix x2_2) fun r1 => ck (isSp r1) (
      ck (inb x2_2 9) (lt ((k1 + 1) + 1 + (3 + 1) * ix x2_2) fun r2 => ck (isSp r2) (
      bd1 (sp_take N r1 r2 σ2) fun σ3 =>
      lt (x2_2 + 1) fun x4 =>
      (ps_takeAll_L2 N k0 k1 n) x4 σ3)))))
def ps_takeAll (N : Nat) (k0 : Nat) (k1 : Nat) (σ : St) : Option (St) :=
  bd1 (ps_takeAll_L2 N k0 k1 N 0 σ) fun σ5 =>
  lt (put σ5 k0 1 (σ5.1 k1 1)) fun σ6 =>
  lt (put σ6 k0 2 (σ6.1 k1 2)) fun σ7 =>
  some σ7
set_option maxRecDepth 20000 in
theorem w_ps_takeAll_L2 {l : Launch} {D : va_G} {cA : Nat → ClassId} {π : Nat → Nat} {Γ : Gx St} {σo : St} (C : Cm Γ cX1_takeAll RX1 cA 2 101 3 l D π shC none (none, σo)) (N : Nat) (k0 : Nat) (k1 : Nat) (hk0 : shC[k0]? = some shX1) (hk1 : shC[k1]? = some shX1) (yo : St) (kk2 : ∀ σe, σe = yo → Wx Γ σe 29 [(0, .ref (π k0)), (1, .ref (π k1))] []) : ∀ (n : Nat) (x2_2 : Int32) (σ2 : St), ps_takeAll_L2 N k0 k1 n x2_2 σ2 = some yo → Wx Γ σ2 2 [(0, .ref (π k0)), (1, .ref (π k1)), (2, .int x2_2)] [] := by
  have C0 := C.1
  intro n
  induction n with
  | zero => intro x2_2 σ2 h; cases h
  | succ n ih =>
    intro x2_2 σ2 h
    rw [ps_takeAll_L2] at h
    refine x_iload_n C0 dX1_takeAll_2 rfl ?_
    refine x_bipush C0 (v := 8) dX1_takeAll_3 (by decide) ?_
    refine x_icmp_gt C0 (tgt := 29) dX1_takeAll_5 (by decide) h (fun h => ?_) (fun h => ?_)
    · exact x_pick [0, 1] rfl (kk2 _ (Option.some.inj h))
    · refine x_aload_n C0 dX1_takeAll_8 rfl ?_
      refine gt_X1_11 C hk0 dX1_takeAll_9 ?_
      refine x_iload_n C0 dX1_takeAll_12 rfl ?_
      refine x_aald C (k := (k0 + 1)) (z := 9) (d := 3) (t := 2) (sh_X1_spans hk0) (by decide) dX1_takeAll_13 h (fun _ h => ?_)
      refine x_nmr h (fun r1 h => ?_)
      refine x_chk h (fun q h => ?_)
      have hr1 := isSp_sh q
      refine x_aload_n C0 dX1_takeAll_14 rfl ?_
      refine gt_X1_11 C hk1 dX1_takeAll_15 ?_
      refine x_iload_n C0 dX1_takeAll_18 rfl ?_
      refine x_aald C (k := (k1 + 1)) (z := 9) (d := 3) (t := 2) (sh_X1_spans hk1) (by decide) dX1_takeAll_19 h (fun _ h => ?_)
      refine x_nmr h (fun r2 h => ?_)
      refine x_chk h (fun q h => ?_)
      have hr2 := isSp_sh q
      obtain ⟨σ3, hc, h⟩ := bd1_some h
      refine x_callVv C (k_sp_take N r1 r2 hr1 hr2 hc) umX1_39 ui_X3_take us_X3_take un_X3 uc_X3_take hv_X3_take rfl (by decide) hr1 rfl dX1_takeAll_20 (rest := []) rfl (Nat.le_of_ble_eq_true rfl) ?_
      refine x_iinc C0 (j := 2) (v := 1) (L' := fun x4 => [(2, .int x4), (0, .ref (π k0)), (1, .ref (π k1))]) dX1_takeAll_23 rfl (by decide) (by decide) (fun _ => rfl) h (fun x4 h => ?_)
      refine x_goto C0 (tgt := 2) dX1_takeAll_26 (by decide) ?_
      exact x_pick [1, 2, 0] rfl (ih _ _ h)
set_option maxRecDepth 20000 in
theorem k_ps_takeAll {l : Launch} {D : va_G} {cA : Nat → ClassId} {π : Nat → Nat} (N : Nat) (k0 : Nat) (k1 : Nat) (hk0 : shC[k0]? = some shX1) (hk1 : shC[k1]? = some shX1) {σ : St} {σo : St} (h : ps_takeAll N k0 k1 σ = some σo) : Kt l D cA π shC yX1_takeAll cX1_takeAll 3 none 2 101 [.ref (π k0), .ref (π k1)] σ none σo := by
  refine Kt.of (by decide) (Nat.le_of_ble_eq_true rfl) (L := [(0, .ref (π k0)), (1, .ref (π k1))]) rfl (fun Γ C => ?_)
  have C0 := C.1
  unfold ps_takeAll at h
  refine x_iconst C0 (v := 0) dX1_takeAll_0 (by decide) ?_
  refine x_istore_n C0 (L' := [(2, .int 0), (0, .ref (π k0)), (1, .ref (π k1))]) dX1_takeAll_1 (by decide) rfl ?_
  obtain ⟨σ5, hL, h⟩ := bd1_some h
  refine x_pick [1, 2, 0] rfl (w_ps_takeAll_L2 C N k0 k1 hk0 hk1 _ (fun b0 e => ?_) N 0 σ hL)
  cases e
  refine x_aload_n C0 dX1_takeAll_29 rfl ?_
  refine x_aload_n C0 dX1_takeAll_30 rfl ?_
  refine gt_X1_30 C hk1 dX1_takeAll_31 ?_
  refine pt_X1_30 C hk0 dX1_takeAll_34 h (fun σ6 h => ?_)
  refine x_aload_n C0 dX1_takeAll_37 rfl ?_
  refine x_aload_n C0 dX1_takeAll_38 rfl ?_
  refine gt_X1_18 C hk1 dX1_takeAll_39 ?_
  refine pt_X1_18 C hk0 dX1_takeAll_42 h (fun σ7 h => ?_)
  exact x_vret C dX1_takeAll_45 h
def wb_keep (N : Nat) (a1 : Int32) (σ : St) : Option (Int32 × St) :=
  bd2 (wb_within N a1 0 1 σ) fun v2 σ1 =>
  if v2 = 0 then (
    some ((-1), σ1))
  else (
    ck (inb a1 2) (lt (41 + 1 + (37 + 1) * ix a1) fun r3 => ck (isPs r3) (
    bd1 (ps_takeAll N r3 3 σ1) fun σ4 =>
    ck (inb a1 2) (lt (put σ4 118 (ix a1) (vp_nar .boolean 1)) fun σ5 =>
    bd2 (wb_span N  σ5) fun r7 σ6 => ck (isSp r7) (
    some ((σ6.1 r7 5), σ6))))))
set_option maxRecDepth 20000 in
theorem k_wb_keep {l : Launch} {D : va_G} {cA : Nat → ClassId} {π : Nat → Nat} (N : Nat) (a1 : Int32)  {σ : St} {vo : Int32} {σo : St} (h : wb_keep N a1 σ = some (vo, σo)) : Kt l D cA π shC yX6_keep cX6_keep 2 (some .int) 3 123 [.ref (π 0), .int a1] σ (some (.int vo)) σo := by
  refine Kt.of (by decide) (Nat.le_of_ble_eq_true rfl) (L := [(0, .ref (π 0)), (1, .int a1)]) rfl (fun Γ C => ?_)
  have C0 := C.1
  unfold wb_keep at h
  refine x_iload_n C0 dX6_keep_0 rfl ?_
  refine x_iconst C0 (v := 0) dX6_keep_1 (by decide) ?_
  refine x_iconst C0 (v := 1) dX6_keep_2 (by decide) ?_
  obtain ⟨v2, σ1, hc, h⟩ := bd2_some h
  refine x_callSi C (k_wb_within N a1 0 1  hc) umX6_55 ut_X6_within un_X6 uc_X6_within hs_X6_within rfl (by decide) dX6_keep_3 (rest := []) rfl (Nat.le_of_ble_eq_true rfl) ?_
  refine x_if_ne C0 (tgt := 11) dX6_keep_6 (by decide) h (fun h => ?_) (fun h => ?_)
  · refine x_aload_n C0 dX6_keep_11 rfl ?_
    refine gt_X6_23 C dX6_keep_12 ?_
    refine x_iload_n C0 dX6_keep_15 rfl ?_
    refine x_aald C (k := 41) (z := 2) (d := 37) (t := 3) rfl (by decide) dX6_keep_16 h (fun _ h => ?_)
    refine x_nmr h (fun r3 h => ?_)
    refine x_chk h (fun q h => ?_)
    have hr3 := isPs_sh q
    refine x_aload_n C0 dX6_keep_17 rfl ?_
    refine gt_X6_19 C dX6_keep_18 ?_
    obtain ⟨σ4, hc, h⟩ := bd1_some h
    refine x_callVv C (k_ps_takeAll N r3 3 hr3 rfl hc) umX6_246 ui_X1_takeAll us_X1_takeAll un_X1 uc_X1_takeAll hv_X1_takeAll rfl (by decide) hr3 rfl dX6_keep_21 (rest := []) rfl (Nat.le_of_ble_eq_true rfl) ?_
    refine x_aload_n C0 dX6_keep_24 rfl ?_
    refine gt_X6_27 C dX6_keep_25 ?_
    refine x_iload_n C0 dX6_keep_28 rfl ?_
    refine x_iconst C0 (v := 1) dX6_keep_29 (by decide) ?_
    refine x_zast C (k := 118) (z := 2) rfl dX6_keep_30 h (fun σ5 h => ?_)
    refine x_aload_n C0 dX6_keep_31 rfl ?_
    obtain ⟨r7, σ6, hc, h⟩ := bd2_some h
    refine x_callVr C (k_wb_span N  hc) umX6_90 ui_X6_span us_X6_span un_X6 uc_X6_span hv_X6_span rfl (by decide) (fks := [4, 6, 44, 121, 122, 125, 2, 2, 1]) rfl rfl dX6_keep_32 (rest := []) rfl (Nat.le_of_ble_eq_true rfl) ?_
    refine x_chk h (fun q h => ?_)
    have hr7 := isSp_sh q
    refine gt_X6_138 C hr7 dX6_keep_35 ?_
    exact x_iret C dX6_keep_38 h
  · refine x_iconst C0 (v := (-1)) dX6_keep_9 (by decide) ?_
    exact x_iret C dX6_keep_10 h
def wb_back (N : Nat) (a1 : Int32) (σ : St) : Option (Int32 × St) :=
  bd2 (wb_within N a1 0 1 σ) fun v2 σ1 =>
  if v2 = 0 then (
    some ((-1), σ1))
  else (
    ck (inb a1 2) (
    if (σ1.1 118 (ix a1)) = 0 then (
      some ((-2), σ1))
    else (
      ck (inb a1 2) (lt (41 + 1 + (37 + 1) * ix a1) fun r3 => ck (isPs r3) (
      bd1 (ps_takeAll N 3 r3 σ1) fun σ4 =>
      bd2 (wb_span N  σ4) fun r6 σ5 => ck (isSp r6) (
      some ((σ5.1 r6 5), σ5)))))))
set_option maxRecDepth 20000 in
theorem k_wb_back {l : Launch} {D : va_G} {cA : Nat → ClassId} {π : Nat → Nat} (N : Nat) (a1 : Int32)  {σ : St} {vo : Int32} {σo : St} (h : wb_back N a1 σ = some (vo, σo)) : Kt l D cA π shC yX6_back cX6_back 2 (some .int) 3 123 [.ref (π 0), .int a1] σ (some (.int vo)) σo := by
  refine Kt.of (by decide) (Nat.le_of_ble_eq_true rfl) (L := [(0, .ref (π 0)), (1, .int a1)]) rfl (fun Γ C => ?_)
  have C0 := C.1
  unfold wb_back at h
  refine x_iload_n C0 dX6_back_0 rfl ?_
  refine x_iconst C0 (v := 0) dX6_back_1 (by decide) ?_
  refine x_iconst C0 (v := 1) dX6_back_2 (by decide) ?_
  obtain ⟨v2, σ1, hc, h⟩ := bd2_some h
  refine x_callSi C (k_wb_within N a1 0 1  hc) umX6_55 ut_X6_within un_X6 uc_X6_within hs_X6_within rfl (by decide) dX6_back_3 (rest := []) rfl (Nat.le_of_ble_eq_true rfl) ?_
  refine x_if_ne C0 (tgt := 11) dX6_back_6 (by decide) h (fun h => ?_) (fun h => ?_)
  · refine x_aload_n C0 dX6_back_11 rfl ?_
    refine gt_X6_27 C dX6_back_12 ?_
    refine x_iload_n C0 dX6_back_15 rfl ?_
    refine x_zald C (k := 118) (z := 2) rfl dX6_back_16 h (fun h => ?_)
    refine x_if_ne C0 (tgt := 23) dX6_back_17 (by decide) h (fun h => ?_) (fun h => ?_)
    · refine x_aload_n C0 dX6_back_23 rfl ?_
      refine gt_X6_19 C dX6_back_24 ?_
      refine x_aload_n C0 dX6_back_27 rfl ?_
      refine gt_X6_23 C dX6_back_28 ?_
      refine x_iload_n C0 dX6_back_31 rfl ?_
      refine x_aald C (k := 41) (z := 2) (d := 37) (t := 3) rfl (by decide) dX6_back_32 h (fun _ h => ?_)
      refine x_nmr h (fun r3 h => ?_)
      refine x_chk h (fun q h => ?_)
      have hr3 := isPs_sh q
      obtain ⟨σ4, hc, h⟩ := bd1_some h
      refine x_callVv C (k_ps_takeAll N 3 r3 rfl hr3 hc) umX6_246 ui_X1_takeAll us_X1_takeAll un_X1 uc_X1_takeAll hv_X1_takeAll rfl (by decide) rfl rfl dX6_back_33 (rest := []) rfl (Nat.le_of_ble_eq_true rfl) ?_
      refine x_aload_n C0 dX6_back_36 rfl ?_
      obtain ⟨r6, σ5, hc, h⟩ := bd2_some h
      refine x_callVr C (k_wb_span N  hc) umX6_90 ui_X6_span us_X6_span un_X6 uc_X6_span hv_X6_span rfl (by decide) (fks := [4, 6, 44, 121, 122, 125, 2, 2, 1]) rfl rfl dX6_back_37 (rest := []) rfl (Nat.le_of_ble_eq_true rfl) ?_
      refine x_chk h (fun q h => ?_)
      have hr6 := isSp_sh q
      refine gt_X6_138 C hr6 dX6_back_40 ?_
      exact x_iret C dX6_back_43 h
    · refine x_bipush C0 (v := (-2)) dX6_back_20 (by decide) ?_
      exact x_iret C dX6_back_22 h
  · refine x_iconst C0 (v := (-1)) dX6_back_9 (by decide) ?_
    exact x_iret C dX6_back_10 h
def wb_count (N : Nat) (a1 : Int32) (σ : St) : Option (Int32 × St) :=
  if a1 = 0 then (
    lt (ix (σ.1 0 6)) fun r1 => ck (isTd r1) (
    some ((σ.1 r1 3), σ)))
  else (
    if a1 = 1 then (
      lt (ix (σ.1 0 6)) fun r2 => ck (isTd r2) (
      some ((σ.1 r2 5), σ)))
    else (
      if a1 = 2 then (
        lt (ix (σ.1 0 6)) fun r3 => ck (isTd r3) (
        some ((σ.1 r3 6), σ)))
      else (
        if a1 = 3 then (
          some ((σ.1 119 2), σ))
        else (
          if a1 = 4 then (
            some ((σ.1 3 2), σ))
          else (
            if a1 = 5 then (
              some ((σ.1 1 1), σ))
            else (
              some ((-1), σ)))))))
set_option maxRecDepth 20000 in
theorem k_wb_count {l : Launch} {D : va_G} {cA : Nat → ClassId} {π : Nat → Nat} (N : Nat) (a1 : Int32)  {σ : St} {vo : Int32} {σo : St} (h : wb_count N a1 σ = some (vo, σo)) : Kt l D cA π shC yX6_count cX6_count 2 (some .int) 0 0 [.ref (π 0), .int a1] σ (some (.int vo)) σo := by
  refine Kt.of (by decide) (Nat.le_of_ble_eq_true rfl) (L := [(0, .ref (π 0)), (1, .int a1)]) rfl (fun Γ C => ?_)
  have C0 := C.1
  unfold wb_count at h
  refine x_iload_n C0 dX6_count_0 rfl ?_
  refine x_case 0 h (fun q h => ?_) (fun q0 h => ?_)
  · refine x_tab C0 (tgt := 40) dX6_count_1 q (by decide) (by decide) rfl (by decide) ?_
    refine x_aload_n C0 dX6_count_40 rfl ?_
    refine gt_X6_48 C dX6_count_41 ?_
    refine x_nmr h (fun r1 h => ?_)
    refine x_chk h (fun q h => ?_)
    have hr1 := isTd_sh q
    refine gt_X6_175 C hr1 dX6_count_44 ?_
    exact x_iret C dX6_count_47 h
  · refine x_case 1 h (fun q h => ?_) (fun q1 h => ?_)
    · refine x_tab C0 (tgt := 48) dX6_count_1 q (by decide) (by decide) rfl (by decide) ?_
      refine x_aload_n C0 dX6_count_48 rfl ?_
      refine gt_X6_48 C dX6_count_49 ?_
      refine x_nmr h (fun r2 h => ?_)
      refine x_chk h (fun q h => ?_)
      have hr2 := isTd_sh q
      refine gt_X6_194 C hr2 dX6_count_52 ?_
      exact x_iret C dX6_count_55 h
    · refine x_case 2 h (fun q h => ?_) (fun q2 h => ?_)
      · refine x_tab C0 (tgt := 56) dX6_count_1 q (by decide) (by decide) rfl (by decide) ?_
        refine x_aload_n C0 dX6_count_56 rfl ?_
        refine gt_X6_48 C dX6_count_57 ?_
        refine x_nmr h (fun r3 h => ?_)
        refine x_chk h (fun q h => ?_)
        have hr3 := isTd_sh q
        refine gt_X6_197 C hr3 dX6_count_60 ?_
        exact x_iret C dX6_count_63 h
      · refine x_case 3 h (fun q h => ?_) (fun q3 h => ?_)
        · refine x_tab C0 (tgt := 64) dX6_count_1 q (by decide) (by decide) rfl (by decide) ?_
          refine x_aload_n C0 dX6_count_64 rfl ?_
          refine gt_X6_34 C dX6_count_65 ?_
          refine gt_X6_219 C dX6_count_68 ?_
          exact x_iret C dX6_count_71 h
        · refine x_case 4 h (fun q h => ?_) (fun q4 h => ?_)
          · refine x_tab C0 (tgt := 72) dX6_count_1 q (by decide) (by decide) rfl (by decide) ?_
            refine x_aload_n C0 dX6_count_72 rfl ?_
            refine gt_X6_19 C dX6_count_73 ?_
            refine gt_X6_147 C rfl dX6_count_76 ?_
            exact x_iret C dX6_count_79 h
          · refine x_case 5 h (fun q h => ?_) (fun q5 h => ?_)
            · refine x_tab C0 (tgt := 80) dX6_count_1 q (by decide) (by decide) rfl (by decide) ?_
              refine x_aload_n C0 dX6_count_80 rfl ?_
              refine gt_X6_10 C dX6_count_81 ?_
              refine gt_X6_63 C dX6_count_84 ?_
              exact x_iret C dX6_count_87 h
            · refine x_tabD C0 (tgt := 88) dX6_count_1 (by have g0 := lv_neT q0 (show (0 : Int32).toInt = 0 from rfl); have g1 := lv_neT q1 (show (1 : Int32).toInt = 1 from rfl); have g2 := lv_neT q2 (show (2 : Int32).toInt = 2 from rfl); have g3 := lv_neT q3 (show (3 : Int32).toInt = 3 from rfl); have g4 := lv_neT q4 (show (4 : Int32).toInt = 4 from rfl); have g5 := lv_neT q5 (show (5 : Int32).toInt = 5 from rfl); omega) (by decide) ?_
              refine x_iconst C0 (v := (-1)) dX6_count_88 (by decide) ?_
              exact x_iret C dX6_count_89 h
def wb_trace (N : Nat) (σ : St) : Option (Int64 × St) :=
  some (σ.2, σ)
set_option maxRecDepth 20000 in
theorem k_wb_trace {l : Launch} {D : va_G} {cA : Nat → ClassId} {π : Nat → Nat} (N : Nat)  {σ : St} {vo : Int64} {σo : St} (h : wb_trace N σ = some (vo, σo)) : Kt l D cA π shC yX6_trace cX6_trace 1 (some .long) 0 0 [.ref (π 0)] σ (some (.long vo)) σo := by
  refine Kt.of (by decide) (Nat.le_of_ble_eq_true rfl) (L := [(0, .ref (π 0))]) rfl (fun Γ C => ?_)
  have C0 := C.1
  unfold wb_trace at h
  refine x_aload_n C0 dX6_trace_0 rfl ?_
  refine gt_X6_250 C dX6_trace_1 ?_
  exact x_lret C dX6_trace_4 h
