def tx_add (N : Nat) (a1 : Int32) (σ : St) : Option (Int32 × St) :=
  if (σ.1 1 1) < 150 then (
    ck (inb (σ.1 1 1) 150) (lt (put σ 2 (ix (σ.1 1 1)) a1) fun σ1 =>
    lt (put σ1 1 1 ((σ1.1 1 1) + 1)) fun σ2 =>
    some (1, σ2)))
  else (
    some (0, σ))
set_option maxRecDepth 20000 in
theorem k_tx_add {l : Launch} {D : va_G} {cA : Nat → ClassId} {π : Nat → Nat} (N : Nat) (a1 : Int32)  {σ : St} {vo : Int32} {σo : St} (h : tx_add N a1 σ = some (vo, σo)) : Kt l D cA π shC yX4_add cX4_add 2 (some .boolean) 0 0 [.ref (π 1), .int a1] σ (some (.int vo)) σo := by
  refine Kt.of (by decide) (Nat.le_of_ble_eq_true rfl) (L := [(0, .ref (π 1)), (1, .int a1)]) rfl (fun Γ C => ?_)
  have C0 := C.1
  unfold tx_add at h
  refine x_aload_n C0 dX4_add_0 rfl ?_
  refine gt_X4_15 C dX4_add_1 ?_
  refine x_sipush C0 (v := 150) dX4_add_4 (by decide) ?_
  refine x_icmp_lt C0 (tgt := 12) dX4_add_7 (by decide) h (fun h => ?_) (fun h => ?_)
  · refine x_aload_n C0 dX4_add_12 rfl ?_
    refine gt_X4_9 C dX4_add_13 ?_
    refine x_aload_n C0 dX4_add_16 rfl ?_
    refine gt_X4_15 C dX4_add_17 ?_
    refine x_iload_n C0 dX4_add_20 rfl ?_
    refine x_iast C (k := 2) (z := 150) rfl dX4_add_21 h (fun σ1 h => ?_)
    refine x_aload_n C0 dX4_add_22 rfl ?_
    refine x_dup C0 rfl dX4_add_23 ?_
    refine gt_X4_15 C dX4_add_24 ?_
    refine x_iconst C0 (v := 1) dX4_add_27 (by decide) ?_
    refine x_iadd C0 dX4_add_28 ?_
    refine pt_X4_15 C dX4_add_29 h (fun σ2 h => ?_)
    refine x_iconst C0 (v := 1) dX4_add_32 (by decide) ?_
    exact x_zret C (Or.inr rfl) dX4_add_33 h
  · refine x_iconst C0 (v := 0) dX4_add_10 (by decide) ?_
    exact x_zret C (Or.inl rfl) dX4_add_11 h
def wb_within (N : Nat) (a1 : Int32) (a2 : Int32) (a3 : Int32) (σ : St) : Option (Int32 × St) :=
  if a1 < a2 then (
    some (0, σ))
  else (
    if a3 < a1 then (
      some (0, σ))
    else (
      some (1, σ)))
set_option maxRecDepth 20000 in
theorem k_wb_within {l : Launch} {D : va_G} {cA : Nat → ClassId} {π : Nat → Nat} (N : Nat) (a1 : Int32) (a2 : Int32) (a3 : Int32)  {σ : St} {vo : Int32} {σo : St} (h : wb_within N a1 a2 a3 σ = some (vo, σo)) : Kt l D cA π shC yX6_within cX6_within 3 (some .boolean) 0 0 [.int a1, .int a2, .int a3] σ (some (.int vo)) σo := by
  refine Kt.of (by decide) (Nat.le_of_ble_eq_true rfl) (L := [(0, .int a1), (1, .int a2), (2, .int a3)]) rfl (fun Γ C => ?_)
  have C0 := C.1
  unfold wb_within at h
  refine x_iload_n C0 dX6_within_0 rfl ?_
  refine x_iload_n C0 dX6_within_1 rfl ?_
  refine x_icmp_lt C0 (tgt := 14) dX6_within_2 (by decide) h (fun h => ?_) (fun h => ?_)
  · refine x_iconst C0 (v := 0) dX6_within_14 (by decide) ?_
    exact x_zret C (Or.inl rfl) dX6_within_15 h
  · refine x_iload_n C0 dX6_within_5 rfl ?_
    refine x_iload_n C0 dX6_within_6 rfl ?_
    refine x_icmp_gt C0 (tgt := 14) dX6_within_7 (by decide) h (fun h => ?_) (fun h => ?_)
    · refine x_iconst C0 (v := 0) dX6_within_14 (by decide) ?_
      exact x_zret C (Or.inl rfl) dX6_within_15 h
    · refine x_iconst C0 (v := 1) dX6_within_10 (by decide) ?_
      refine x_goto C0 (tgt := 15) dX6_within_11 (by decide) ?_
      exact x_zret C (Or.inr rfl) dX6_within_15 h
def wb_type (N : Nat) (a1 : Int32) (σ : St) : Option (Int32 × St) :=
  bd2 (wb_within N a1 0 255 σ) fun v2 σ1 =>
  if v2 = 0 then (
    some ((-1), σ1))
  else (
    bd2 (tx_add N a1 σ1) fun v4 σ3 =>
    if v4 = 0 then (
      some ((-3), σ3))
    else (
      some ((σ3.1 1 1), σ3)))
set_option maxRecDepth 20000 in
theorem k_wb_type {l : Launch} {D : va_G} {cA : Nat → ClassId} {π : Nat → Nat} (N : Nat) (a1 : Int32)  {σ : St} {vo : Int32} {σo : St} (h : wb_type N a1 σ = some (vo, σo)) : Kt l D cA π shC yX6_type cX6_type 2 (some .int) 1 22 [.ref (π 0), .int a1] σ (some (.int vo)) σo := by
  refine Kt.of (by decide) (Nat.le_of_ble_eq_true rfl) (L := [(0, .ref (π 0)), (1, .int a1)]) rfl (fun Γ C => ?_)
  have C0 := C.1
  unfold wb_type at h
  refine x_iload_n C0 dX6_type_0 rfl ?_
  refine x_iconst C0 (v := 0) dX6_type_1 (by decide) ?_
  refine x_sipush C0 (v := 255) dX6_type_2 (by decide) ?_
  obtain ⟨v2, σ1, hc, h⟩ := bd2_some h
  refine x_callSi C (k_wb_within N a1 0 255  hc) umX6_55 ut_X6_within un_X6 uc_X6_within hs_X6_within rfl (by decide) dX6_type_5 (rest := []) rfl (Nat.le_of_ble_eq_true rfl) ?_
  refine x_if_ne C0 (tgt := 13) dX6_type_8 (by decide) h (fun h => ?_) (fun h => ?_)
  · refine x_aload_n C0 dX6_type_13 rfl ?_
    refine gt_X6_10 C dX6_type_14 ?_
    refine x_iload_n C0 dX6_type_17 rfl ?_
    obtain ⟨v4, σ3, hc, h⟩ := bd2_some h
    refine x_callVi C (k_tx_add N a1  hc) umX6_59 ui_X4_add us_X4_add un_X4 uc_X4_add hv_X4_add rfl (by decide) (fks := [4, 0, 0, 0, 0, 0]) rfl rfl dX6_type_18 (rest := []) rfl (Nat.le_of_ble_eq_true rfl) ?_
    refine x_if_eq C0 (tgt := 34) dX6_type_21 (by decide) h (fun h => ?_) (fun h => ?_)
    · refine x_bipush C0 (v := (-3)) dX6_type_34 (by decide) ?_
      exact x_iret C dX6_type_36 h
    · refine x_aload_n C0 dX6_type_24 rfl ?_
      refine gt_X6_10 C dX6_type_25 ?_
      refine gt_X6_63 C dX6_type_28 ?_
      refine x_goto C0 (tgt := 36) dX6_type_31 (by decide) ?_
      exact x_iret C dX6_type_36 h
  · refine x_iconst C0 (v := (-1)) dX6_type_11 (by decide) ?_
    exact x_iret C dX6_type_12 h
def tx_empty (N : Nat) (σ : St) : Option (Int32 × St) :=
  lt (σ.1 1 1) fun x1 =>
  lt (put σ 1 1 0) fun σ2 =>
  some (x1, σ2)
set_option maxRecDepth 20000 in
theorem k_tx_empty {l : Launch} {D : va_G} {cA : Nat → ClassId} {π : Nat → Nat} (N : Nat)  {σ : St} {vo : Int32} {σo : St} (h : tx_empty N σ = some (vo, σo)) : Kt l D cA π shC yX4_empty cX4_empty 2 (some .int) 0 0 [.ref (π 1)] σ (some (.int vo)) σo := by
  refine Kt.of (by decide) (Nat.le_of_ble_eq_true rfl) (L := [(0, .ref (π 1))]) rfl (fun Γ C => ?_)
  have C0 := C.1
  unfold tx_empty at h
  refine x_aload_n C0 dX4_empty_0 rfl ?_
  refine gt_X4_15 C dX4_empty_1 ?_
  refine x_nm h (fun x1 h => ?_)
  refine x_istore_n C0 (L' := [(1, .int x1), (0, .ref (π 1))]) dX4_empty_4 (by decide) rfl ?_
  refine x_aload_n C0 dX4_empty_5 rfl ?_
  refine x_iconst C0 (v := 0) dX4_empty_6 (by decide) ?_
  refine pt_X4_15 C dX4_empty_7 h (fun σ2 h => ?_)
  refine x_iload_n C0 dX4_empty_10 rfl ?_
  exact x_iret C dX4_empty_11 h
def wb_clear (N : Nat) (σ : St) : Option (Int32 × St) :=
  bd2 (tx_empty N  σ) fun v2 σ1 =>
  some (v2, σ1)
set_option maxRecDepth 20000 in
theorem k_wb_clear {l : Launch} {D : va_G} {cA : Nat → ClassId} {π : Nat → Nat} (N : Nat)  {σ : St} {vo : Int32} {σo : St} (h : wb_clear N σ = some (vo, σo)) : Kt l D cA π shC yX6_clear cX6_clear 1 (some .int) 1 21 [.ref (π 0)] σ (some (.int vo)) σo := by
  refine Kt.of (by decide) (Nat.le_of_ble_eq_true rfl) (L := [(0, .ref (π 0))]) rfl (fun Γ C => ?_)
  have C0 := C.1
  unfold wb_clear at h
  refine x_aload_n C0 dX6_clear_0 rfl ?_
  refine gt_X6_10 C dX6_clear_1 ?_
  obtain ⟨v2, σ1, hc, h⟩ := bd2_some h
  refine x_callVi C (k_tx_empty N  hc) umX6_67 ui_X4_empty us_X4_empty un_X4 uc_X4_empty hv_X4_empty rfl (by decide) (fks := [4, 0, 0, 0, 0, 0]) rfl rfl dX6_clear_4 (rest := []) rfl (Nat.le_of_ble_eq_true rfl) ?_
  exact x_iret C dX6_clear_7 h
def ps_latest (N : Nat) (k0 : Nat) (σ : St) : Option (Nat × St) :=
  ck (inb (σ.1 k0 1) 9) (lt ((k0 + 1) + 1 + (3 + 1) * ix (σ.1 k0 1)) fun r1 => ck (isSp r1) (
  some (r1, σ)))
set_option maxRecDepth 20000 in
theorem k_ps_latest {l : Launch} {D : va_G} {cA : Nat → ClassId} {π : Nat → Nat} (N : Nat) (k0 : Nat) (hk0 : shC[k0]? = some shX1) {σ : St} {vo : Nat} {σo : St} (h : ps_latest N k0 σ = some (vo, σo)) : Kt l D cA π shC yX1_latest cX1_latest 1 (some (.object "WoolBridge$Span")) 0 0 [.ref (π k0)] σ (some (.ref (π vo))) σo := by
  refine Kt.of (by decide) (Nat.le_of_ble_eq_true rfl) (L := [(0, .ref (π k0))]) rfl (fun Γ C => ?_)
  have C0 := C.1
  unfold ps_latest at h
  refine x_aload_n C0 dX1_latest_0 rfl ?_
  refine gt_X1_11 C hk0 dX1_latest_1 ?_
  refine x_aload_n C0 dX1_latest_4 rfl ?_
  refine gt_X1_30 C hk0 dX1_latest_5 ?_
  refine x_aald C (k := (k0 + 1)) (z := 9) (d := 3) (t := 2) (sh_X1_spans hk0) (by decide) dX1_latest_8 h (fun _ h => ?_)
  refine x_nmr h (fun r1 h => ?_)
  refine x_chk h (fun q h => ?_)
  have hr1 := isSp_sh q
  exact x_aret C dX1_latest_9 h
def sp_removeFrom (N : Nat) (k0 : Nat) (a1 : Int32) (a2 : Int32) (σ : St) : Option (St) :=
  lt (((σ.1 k0 3) - a1) - a2) fun x1 =>
  if a1 < 0 then (
    some σ)
  else (
    if a2 ≤ 0 then (
      some σ)
    else (
      if 0 ≤ x1 then (
        ck (cpok (a1 + a2) a1 x1 40 40) (lt (cpy σ (k0 + 1) (k0 + 1) (ix (a1 + a2)) (ix a1) (ix x1)) fun σ2 =>
        ck (cpok (a1 + a2) a1 x1 40 40) (lt (cpy σ2 (k0 + 2) (k0 + 2) (ix (a1 + a2)) (ix a1) (ix x1)) fun σ3 =>
        ck (cpok (a1 + a2) a1 x1 40 40) (lt (cpy σ3 (k0 + 3) (k0 + 3) (ix (a1 + a2)) (ix a1) (ix x1)) fun σ4 =>
        lt (put σ4 k0 3 ((σ4.1 k0 3) - a2)) fun σ5 =>
        some σ5))))
      else (
        some σ)))
set_option maxRecDepth 20000 in
theorem k_sp_removeFrom {l : Launch} {D : va_G} {cA : Nat → ClassId} {π : Nat → Nat} (N : Nat) (k0 : Nat) (a1 : Int32) (a2 : Int32) (hk0 : shC[k0]? = some shX3) {σ : St} {σo : St} (h : sp_removeFrom N k0 a1 a2 σ = some σo) : Kt l D cA π shC yX3_removeFrom cX3_removeFrom 4 none 1 80 [.ref (π k0), .int a1, .int a2] σ none σo := by
  refine Kt.of (by decide) (Nat.le_of_ble_eq_true rfl) (L := [(0, .ref (π k0)), (1, .int a1), (2, .int a2)]) rfl (fun Γ C => ?_)
  have C0 := C.1
  unfold sp_removeFrom at h
  refine x_aload_n C0 dX3_removeFrom_0 rfl ?_
  refine gt_X3_21 C hk0 dX3_removeFrom_1 ?_
  refine x_iload_n C0 dX3_removeFrom_4 rfl ?_
  refine x_isub C0 dX3_removeFrom_5 ?_
  refine x_iload_n C0 dX3_removeFrom_6 rfl ?_
  refine x_isub C0 dX3_removeFrom_7 ?_
  refine x_nm h (fun x1 h => ?_)
  refine x_istore_n C0 (L' := [(3, .int x1), (0, .ref (π k0)), (1, .int a1), (2, .int a2)]) dX3_removeFrom_8 (by decide) rfl ?_
  refine x_iload_n C0 dX3_removeFrom_9 rfl ?_
  refine x_if_lt C0 (tgt := 21) dX3_removeFrom_10 (by decide) h (fun h => ?_) (fun h => ?_)
  · exact x_vret C dX3_removeFrom_21 h
  · refine x_iload_n C0 dX3_removeFrom_13 rfl ?_
    refine x_if_le C0 (tgt := 21) dX3_removeFrom_14 (by decide) h (fun h => ?_) (fun h => ?_)
    · exact x_vret C dX3_removeFrom_21 h
    · refine x_iload_n C0 dX3_removeFrom_17 rfl ?_
      refine x_if_ge C0 (tgt := 22) dX3_removeFrom_18 (by decide) h (fun h => ?_) (fun h => ?_)
      · refine x_aload_n C0 dX3_removeFrom_22 rfl ?_
        refine gt_X3_9 C hk0 dX3_removeFrom_23 ?_
        refine x_iload_n C0 dX3_removeFrom_26 rfl ?_
        refine x_iload_n C0 dX3_removeFrom_27 rfl ?_
        refine x_iadd C0 dX3_removeFrom_28 ?_
        refine x_aload_n C0 dX3_removeFrom_29 rfl ?_
        refine gt_X3_9 C hk0 dX3_removeFrom_30 ?_
        refine x_iload_n C0 dX3_removeFrom_33 rfl ?_
        refine x_iload_n C0 dX3_removeFrom_34 rfl ?_
        refine x_copy C (n0 := 40) (n1 := 40) (sh_X3_whose hk0) (sh_X3_whose hk0) umX3_41 dX3_removeFrom_35 (Nat.le_of_ble_eq_true rfl) (by decide +kernel) h (fun σ2 h => ?_)
        refine x_aload_n C0 dX3_removeFrom_38 rfl ?_
        refine gt_X3_15 C hk0 dX3_removeFrom_39 ?_
        refine x_iload_n C0 dX3_removeFrom_42 rfl ?_
        refine x_iload_n C0 dX3_removeFrom_43 rfl ?_
        refine x_iadd C0 dX3_removeFrom_44 ?_
        refine x_aload_n C0 dX3_removeFrom_45 rfl ?_
        refine gt_X3_15 C hk0 dX3_removeFrom_46 ?_
        refine x_iload_n C0 dX3_removeFrom_49 rfl ?_
        refine x_iload_n C0 dX3_removeFrom_50 rfl ?_
        refine x_copy C (n0 := 40) (n1 := 40) (sh_X3_thick hk0) (sh_X3_thick hk0) umX3_41 dX3_removeFrom_51 (Nat.le_of_ble_eq_true rfl) (by decide +kernel) h (fun σ3 h => ?_)
        refine x_aload_n C0 dX3_removeFrom_54 rfl ?_
        refine gt_X3_18 C hk0 dX3_removeFrom_55 ?_
        refine x_iload_n C0 dX3_removeFrom_58 rfl ?_
        refine x_iload_n C0 dX3_removeFrom_59 rfl ?_
        refine x_iadd C0 dX3_removeFrom_60 ?_
        refine x_aload_n C0 dX3_removeFrom_61 rfl ?_
        refine gt_X3_18 C hk0 dX3_removeFrom_62 ?_
        refine x_iload_n C0 dX3_removeFrom_65 rfl ?_
        refine x_iload_n C0 dX3_removeFrom_66 rfl ?_
        refine x_copy C (n0 := 40) (n1 := 40) (sh_X3_old hk0) (sh_X3_old hk0) umX3_41 dX3_removeFrom_67 (Nat.le_of_ble_eq_true rfl) (by decide +kernel) h (fun σ4 h => ?_)
        refine x_aload_n C0 dX3_removeFrom_70 rfl ?_
        refine x_dup C0 rfl dX3_removeFrom_71 ?_
        refine gt_X3_21 C hk0 dX3_removeFrom_72 ?_
        refine x_iload_n C0 dX3_removeFrom_75 rfl ?_
        refine x_isub C0 dX3_removeFrom_76 ?_
        refine pt_X3_21 C hk0 dX3_removeFrom_77 h (fun σ5 h => ?_)
        exact x_vret C dX3_removeFrom_80 h
      · exact x_vret C dX3_removeFrom_21 h
def sp_knit_L17 (N : Nat) (k0 : Nat) (c2_17 : Int32) (c1_17 : Int32) (c3_17 : Int32) : Nat → Int32 → St → Option (St)
  | 0, _, _ => none
  | n + 1, x4_17, σ17 =>
    if c2_17 ≤ x4_17 then (
      some σ17)
    else (
      if 40 ≤ (σ17.1 k0 3) then (
        some σ17)
      else (
        ck (inb (σ17.1 k0 3) 40) (lt (put σ17 (k0 + 1) (ix (σ17.1 k0 3)) c1_17) fun σ2 =>
        ck (inb (σ2.1 k0 3) 40) (lt (put σ2 (k0 + 2) (ix (σ2.1 k0 3)) c3_17) fun σ3 =>
        ck (inb (σ3.1 k0 3) 40) (lt (put σ3 (k0 + 3) (ix (σ3.1 k0 3)) 0) fun σ4 =>
        lt (put σ4 k0 3 ((σ4.1 k0 3) + 1)) fun σ5 =>
        lt (x4_17 + 1) fun x6 =>
        (sp_knit_L17 N k0 c2_17 c1_17 c3_17 n) x6 σ5)))))
def sp_knit (N : Nat) (k0 : Nat) (a1 : Int32) (a2 : Int32) (a3 : Int32) (σ : St) : Option (St) :=
  bd1 (sp_removeFrom N k0 0 (((σ.1 k0 3) + a2) - 40) σ) fun σ1 =>
  bd1 (sp_knit_L17 N k0 a2 a1 a3 N 0 σ1) fun σ7 =>
  some σ7
set_option maxRecDepth 20000 in
theorem w_sp_knit_L17 {l : Launch} {D : va_G} {cA : Nat → ClassId} {π : Nat → Nat} {Γ : Gx St} {σo : St} (C : Cm Γ cX3_knit RX3 cA 2 103 5 l D π shC none (none, σo)) (N : Nat) (k0 : Nat) (c2_17 : Int32) (c1_17 : Int32) (c3_17 : Int32) (hk0 : shC[k0]? = some shX3) (yo : St) (kk17 : ∀ σe, σe = yo → Wx Γ σe 78 [] []) : ∀ (n : Nat) (x4_17 : Int32) (σ17 : St), sp_knit_L17 N k0 c2_17 c1_17 c3_17 n x4_17 σ17 = some yo → Wx Γ σ17 17 [(0, .ref (π k0)), (1, .int c1_17), (2, .int c2_17), (3, .int c3_17), (4, .int x4_17)] [] := by
  have C0 := C.1
  intro n
  induction n with
  | zero => intro x4_17 σ17 h; cases h
  | succ n ih =>
    intro x4_17 σ17 h
    rw [sp_knit_L17] at h
    refine x_iload C0 dX3_knit_17 rfl ?_
    refine x_iload_n C0 dX3_knit_19 rfl ?_
    refine x_icmp_ge C0 (tgt := 78) dX3_knit_20 (by decide) h (fun h => ?_) (fun h => ?_)
    · exact x_pick [] rfl (kk17 _ (Option.some.inj h))
    · refine x_aload_n C0 dX3_knit_23 rfl ?_
      refine gt_X3_21 C hk0 dX3_knit_24 ?_
      refine x_bipush C0 (v := 40) dX3_knit_27 (by decide) ?_
      refine x_icmp_ge C0 (tgt := 78) dX3_knit_29 (by decide) h (fun h => ?_) (fun h => ?_)
      · exact x_pick [] rfl (kk17 _ (Option.some.inj h))
      · refine x_aload_n C0 dX3_knit_32 rfl ?_
        refine gt_X3_9 C hk0 dX3_knit_33 ?_
        refine x_aload_n C0 dX3_knit_36 rfl ?_
        refine gt_X3_21 C hk0 dX3_knit_37 ?_
        refine x_iload_n C0 dX3_knit_40 rfl ?_
        refine x_iast C (k := (k0 + 1)) (z := 40) (sh_X3_whose hk0) dX3_knit_41 h (fun σ2 h => ?_)
        refine x_aload_n C0 dX3_knit_42 rfl ?_
        refine gt_X3_15 C hk0 dX3_knit_43 ?_
        refine x_aload_n C0 dX3_knit_46 rfl ?_
        refine gt_X3_21 C hk0 dX3_knit_47 ?_
        refine x_iload_n C0 dX3_knit_50 rfl ?_
        refine x_iast C (k := (k0 + 2)) (z := 40) (sh_X3_thick hk0) dX3_knit_51 h (fun σ3 h => ?_)
        refine x_aload_n C0 dX3_knit_52 rfl ?_
        refine gt_X3_18 C hk0 dX3_knit_53 ?_
        refine x_aload_n C0 dX3_knit_56 rfl ?_
        refine gt_X3_21 C hk0 dX3_knit_57 ?_
        refine x_iconst C0 (v := 0) dX3_knit_60 (by decide) ?_
        refine x_iast C (k := (k0 + 3)) (z := 40) (sh_X3_old hk0) dX3_knit_61 h (fun σ4 h => ?_)
        refine x_aload_n C0 dX3_knit_62 rfl ?_
        refine x_dup C0 rfl dX3_knit_63 ?_
        refine gt_X3_21 C hk0 dX3_knit_64 ?_
        refine x_iconst C0 (v := 1) dX3_knit_67 (by decide) ?_
        refine x_iadd C0 dX3_knit_68 ?_
        refine pt_X3_21 C hk0 dX3_knit_69 h (fun σ5 h => ?_)
        refine x_iinc C0 (j := 4) (v := 1) (L' := fun x6 => [(4, .int x6), (0, .ref (π k0)), (1, .int c1_17), (2, .int c2_17), (3, .int c3_17)]) dX3_knit_72 rfl (by decide) (by decide) (fun _ => rfl) h (fun x6 h => ?_)
        refine x_goto C0 (tgt := 17) dX3_knit_75 (by decide) ?_
        exact x_pick [1, 2, 3, 4, 0] rfl (ih _ _ h)
set_option maxRecDepth 20000 in
theorem k_sp_knit {l : Launch} {D : va_G} {cA : Nat → ClassId} {π : Nat → Nat} (N : Nat) (k0 : Nat) (a1 : Int32) (a2 : Int32) (a3 : Int32) (hk0 : shC[k0]? = some shX3) {σ : St} {σo : St} (h : sp_knit N k0 a1 a2 a3 σ = some σo) : Kt l D cA π shC yX3_knit cX3_knit 5 none 2 103 [.ref (π k0), .int a1, .int a2, .int a3] σ none σo := by
  refine Kt.of (by decide) (Nat.le_of_ble_eq_true rfl) (L := [(0, .ref (π k0)), (1, .int a1), (2, .int a2), (3, .int a3)]) rfl (fun Γ C => ?_)
  have C0 := C.1
  unfold sp_knit at h
  refine x_aload_n C0 dX3_knit_0 rfl ?_
  refine x_iconst C0 (v := 0) dX3_knit_1 (by decide) ?_
  refine x_aload_n C0 dX3_knit_2 rfl ?_
  refine gt_X3_21 C hk0 dX3_knit_3 ?_
  refine x_iload_n C0 dX3_knit_6 rfl ?_
  refine x_iadd C0 dX3_knit_7 ?_
  refine x_bipush C0 (v := 40) dX3_knit_8 (by decide) ?_
  refine x_isub C0 dX3_knit_10 ?_
  obtain ⟨σ1, hc, h⟩ := bd1_some h
  refine x_callVv C (k_sp_removeFrom N k0 0 (((σ.1 k0 3) + a2) - 40) hk0 hc) umX3_78 ui_X3_removeFrom us_X3_removeFrom un_X3 uc_X3_removeFrom hv_X3_removeFrom rfl (by decide) hk0 rfl dX3_knit_11 (rest := []) rfl (Nat.le_of_ble_eq_true rfl) ?_
  refine x_iconst C0 (v := 0) dX3_knit_14 (by decide) ?_
  refine x_istore C0 (L' := [(4, .int 0), (0, .ref (π k0)), (1, .int a1), (2, .int a2), (3, .int a3)]) dX3_knit_15 (by decide) rfl ?_
  obtain ⟨σ7, hL, h⟩ := bd1_some h
  refine x_pick [1, 2, 3, 4, 0] rfl (w_sp_knit_L17 C N k0 a2 a1 a3 hk0 _ (fun b0 e => ?_) N 0 σ1 hL)
  cases e
  exact x_vret C dX3_knit_78 h
def sp_startFrom_L17 (N : Nat) (k1 : Nat) (k0 : Nat) : Nat → Int32 → St → Option (St)
  | 0, _, _ => none
  | n + 1, x2_17, σ17 =>
    if (σ17.1 k1 4) ≤ x2_17 then (
      some σ17)
    else (
      ck (inb x2_17 40) (
      lt (σ17.1 (k1 + 3) (ix x2_17)) fun x4 =>
      ck (inb x4 6) (
      bd1 (sp_knit N k0 x4 1 (σ17.1 (k1 + 2) (ix x4)) σ17) fun σ5 =>
      lt (x2_17 + 1) fun x6 =>
      (sp_startFrom_L17 N k1 k0 n) x6 σ5)))
def sp_startFrom (N : Nat) (k0 : Nat) (k1 : Nat) (σ : St) : Option (St) :=
  lt (put σ k0 3 0) fun σ1 =>
  lt (put σ1 k0 4 0) fun σ2 =>
  lt (put σ2 k0 5 0) fun σ3 =>
  bd1 (sp_startFrom_L17 N k1 k0 N 0 σ3) fun σ7 =>
  some σ7
set_option maxRecDepth 20000 in
theorem w_sp_startFrom_L17 {l : Launch} {D : va_G} {cA : Nat → ClassId} {π : Nat → Nat} {Γ : Gx St} {σo : St} (C : Cm Γ cX3_startFrom RX3 cA 3 127 4 l D π shC none (none, σo)) (N : Nat) (k1 : Nat) (k0 : Nat) (hk1 : shC[k1]? = some shX5) (hk0 : shC[k0]? = some shX3) (yo : St) (kk17 : ∀ σe, σe = yo → Wx Γ σe 50 [] []) : ∀ (n : Nat) (x2_17 : Int32) (σ17 : St), sp_startFrom_L17 N k1 k0 n x2_17 σ17 = some yo → Wx Γ σ17 17 [(0, .ref (π k0)), (1, .ref (π k1)), (2, .int x2_17)] [] := by
  have C0 := C.1
  intro n
  induction n with
  | zero => intro x2_17 σ17 h; cases h
  | succ n ih =>
    intro x2_17 σ17 h
    rw [sp_startFrom_L17] at h
    refine x_iload_n C0 dX3_startFrom_17 rfl ?_
    refine x_aload_n C0 dX3_startFrom_18 rfl ?_
    refine gt_X3_32 C hk1 dX3_startFrom_19 ?_
    refine x_icmp_ge C0 (tgt := 50) dX3_startFrom_22 (by decide) h (fun h => ?_) (fun h => ?_)
    · exact x_pick [] rfl (kk17 _ (Option.some.inj h))
    · refine x_aload_n C0 dX3_startFrom_25 rfl ?_
      refine gt_X3_35 C hk1 dX3_startFrom_26 ?_
      refine x_iload_n C0 dX3_startFrom_29 rfl ?_
      refine x_iald C (k := (k1 + 3)) (z := 40) (sh_X5_whose hk1) dX3_startFrom_30 h (fun h => ?_)
      refine x_nm h (fun x4 h => ?_)
      refine x_istore_n C0 (L' := [(3, .int x4), (0, .ref (π k0)), (1, .ref (π k1)), (2, .int x2_17)]) dX3_startFrom_31 (by decide) rfl ?_
      refine x_aload_n C0 dX3_startFrom_32 rfl ?_
      refine x_iload_n C0 dX3_startFrom_33 rfl ?_
      refine x_iconst C0 (v := 1) dX3_startFrom_34 (by decide) ?_
      refine x_aload_n C0 dX3_startFrom_35 rfl ?_
      refine gt_X3_36 C hk1 dX3_startFrom_36 ?_
      refine x_iload_n C0 dX3_startFrom_39 rfl ?_
      refine x_iald C (k := (k1 + 2)) (z := 6) (sh_X5_thick hk1) dX3_startFrom_40 h (fun h => ?_)
      obtain ⟨σ5, hc, h⟩ := bd1_some h
      refine x_callVv C (k_sp_knit N k0 x4 1 (σ17.1 (k1 + 2) (ix x4)) hk0 hc) umX3_37 ui_X3_knit us_X3_knit un_X3 uc_X3_knit hv_X3_knit rfl (by decide) hk0 rfl dX3_startFrom_41 (rest := []) rfl (Nat.le_of_ble_eq_true rfl) ?_
      refine x_iinc C0 (j := 3) (v := 1) (L' := fun x6 => [(2, .int x6), (3, .int x4), (0, .ref (π k0)), (1, .ref (π k1))]) dX3_startFrom_44 rfl (by decide) (by decide) (fun _ => rfl) h (fun x6 h => ?_)
      refine x_goto C0 (tgt := 17) dX3_startFrom_47 (by decide) ?_
      exact x_pick [2, 3, 0] rfl (ih _ _ h)
set_option maxRecDepth 20000 in
theorem k_sp_startFrom {l : Launch} {D : va_G} {cA : Nat → ClassId} {π : Nat → Nat} (N : Nat) (k0 : Nat) (k1 : Nat) (hk0 : shC[k0]? = some shX3) (hk1 : shC[k1]? = some shX5) {σ : St} {σo : St} (h : sp_startFrom N k0 k1 σ = some σo) : Kt l D cA π shC yX3_startFrom cX3_startFrom 4 none 3 127 [.ref (π k0), .ref (π k1)] σ none σo := by
  refine Kt.of (by decide) (Nat.le_of_ble_eq_true rfl) (L := [(0, .ref (π k0)), (1, .ref (π k1))]) rfl (fun Γ C => ?_)
  have C0 := C.1
  unfold sp_startFrom at h
  refine x_aload_n C0 dX3_startFrom_0 rfl ?_
  refine x_iconst C0 (v := 0) dX3_startFrom_1 (by decide) ?_
  refine pt_X3_21 C hk0 dX3_startFrom_2 h (fun σ1 h => ?_)
  refine x_aload_n C0 dX3_startFrom_5 rfl ?_
  refine x_iconst C0 (v := 0) dX3_startFrom_6 (by decide) ?_
  refine pt_X3_25 C hk0 (Or.inl rfl) dX3_startFrom_7 h (fun σ2 h => ?_)
  refine x_aload_n C0 dX3_startFrom_10 rfl ?_
  refine x_iconst C0 (v := 0) dX3_startFrom_11 (by decide) ?_
  refine pt_X3_29 C hk0 dX3_startFrom_12 h (fun σ3 h => ?_)
  refine x_iconst C0 (v := 0) dX3_startFrom_15 (by decide) ?_
  refine x_istore_n C0 (L' := [(2, .int 0), (0, .ref (π k0)), (1, .ref (π k1))]) dX3_startFrom_16 (by decide) rfl ?_
  obtain ⟨σ7, hL, h⟩ := bd1_some h
  refine x_pick [1, 2, 0] rfl (w_sp_startFrom_L17 C N k1 k0 hk1 hk0 _ (fun b0 e => ?_) N 0 σ3 hL)
  cases e
  exact x_vret C dX3_startFrom_50 h
def ps_startFrom (N : Nat) (k0 : Nat) (k1 : Nat) (σ : St) : Option (St) :=
  lt (put σ k0 2 0) fun σ1 =>
  bd2 (ps_latest N k0 σ1) fun r3 σ2 => ck (isSp r3) (
  bd1 (sp_startFrom N r3 k1 σ2) fun σ4 =>
  some σ4)
set_option maxRecDepth 20000 in
theorem k_ps_startFrom {l : Launch} {D : va_G} {cA : Nat → ClassId} {π : Nat → Nat} (N : Nat) (k0 : Nat) (k1 : Nat) (hk0 : shC[k0]? = some shX1) (hk1 : shC[k1]? = some shX5) {σ : St} {σo : St} (h : ps_startFrom N k0 k1 σ = some σo) : Kt l D cA π shC yX1_startFrom cX1_startFrom 2 none 4 150 [.ref (π k0), .ref (π k1)] σ none σo := by
  refine Kt.of (by decide) (Nat.le_of_ble_eq_true rfl) (L := [(0, .ref (π k0)), (1, .ref (π k1))]) rfl (fun Γ C => ?_)
  have C0 := C.1
  unfold ps_startFrom at h
  refine x_aload_n C0 dX1_startFrom_0 rfl ?_
  refine x_iconst C0 (v := 0) dX1_startFrom_1 (by decide) ?_
  refine pt_X1_18 C hk0 dX1_startFrom_2 h (fun σ1 h => ?_)
  refine x_aload_n C0 dX1_startFrom_5 rfl ?_
  obtain ⟨r3, σ2, hc, h⟩ := bd2_some h
  refine x_callVr C (k_ps_latest N k0 hk0 hc) umX1_22 ui_X1_latest us_X1_latest un_X1 uc_X1_latest hv_X1_latest rfl (by decide) hk0 rfl dX1_startFrom_6 (rest := []) rfl (Nat.le_of_ble_eq_true rfl) ?_
  refine x_chk h (fun q h => ?_)
  have hr3 := isSp_sh q
  refine x_aload_n C0 dX1_startFrom_9 rfl ?_
  obtain ⟨σ4, hc, h⟩ := bd1_some h
  refine x_callVv C (k_sp_startFrom N r3 k1 hr3 hk1 hc) umX1_26 ui_X3_startFrom us_X3_startFrom un_X3 uc_X3_startFrom hv_X3_startFrom rfl (by decide) hr3 rfl dX1_startFrom_10 (rest := []) rfl (Nat.le_of_ble_eq_true rfl) ?_
  exact x_vret C dX1_startFrom_13 h
def pl_empty (N : Nat) (σ : St) : Option (Int32 × St) :=
  lt (σ.1 119 2) fun x1 =>
  lt (put σ 119 2 0) fun σ2 =>
  some (x1, σ2)
set_option maxRecDepth 20000 in
theorem k_pl_empty {l : Launch} {D : va_G} {cA : Nat → ClassId} {π : Nat → Nat} (N : Nat)  {σ : St} {vo : Int32} {σo : St} (h : pl_empty N σ = some (vo, σo)) : Kt l D cA π shC yX2_empty cX2_empty 2 (some .int) 0 0 [.ref (π 119)] σ (some (.int vo)) σo := by
  refine Kt.of (by decide) (Nat.le_of_ble_eq_true rfl) (L := [(0, .ref (π 119))]) rfl (fun Γ C => ?_)
  have C0 := C.1
  unfold pl_empty at h
  refine x_aload_n C0 dX2_empty_0 rfl ?_
  refine gt_X2_18 C dX2_empty_1 ?_
  refine x_nm h (fun x1 h => ?_)
  refine x_istore_n C0 (L' := [(1, .int x1), (0, .ref (π 119))]) dX2_empty_4 (by decide) rfl ?_
  refine x_aload_n C0 dX2_empty_5 rfl ?_
  refine x_iconst C0 (v := 0) dX2_empty_6 (by decide) ?_
  refine pt_X2_18 C dX2_empty_7 h (fun σ2 h => ?_)
  refine x_iload_n C0 dX2_empty_10 rfl ?_
  exact x_iret C dX2_empty_11 h
def tx_tokenBegunBy_J28 (x0_28 : Int32) (σ28 : St) : Option (Int32 × St) :=
  if x0_28 = 59 then (
    some (3, σ28))
  else (
    some (4, σ28))
def tx_tokenBegunBy_J14 (x0_14 : Int32) (σ14 : St) : Option (Int32 × St) :=
  if x0_14 < 48 then (
    tx_tokenBegunBy_J28 x0_14 σ14)
  else (
    if 57 < x0_14 then (
      tx_tokenBegunBy_J28 x0_14 σ14)
    else (
      some (2, σ14)))
def tx_tokenBegunBy (N : Nat) (a1 : Int32) (σ : St) : Option (Int32 × St) :=
  if a1 < 97 then (
    tx_tokenBegunBy_J14 a1 σ)
  else (
    if 122 < a1 then (
      tx_tokenBegunBy_J14 a1 σ)
    else (
      some (1, σ)))
set_option maxRecDepth 20000 in
theorem w_tx_tokenBegunBy_J28 {l : Launch} {D : va_G} {cA : Nat → ClassId} {π : Nat → Nat} {Γ : Gx St} {vo : Int32} {σo : St} (C : Cm Γ cX4_tokenBegunBy RX4 cA 0 0 1 l D π shC (some .int) (some (.int vo), σo)) (x0_28 : Int32) (σ28 : St)  (h : tx_tokenBegunBy_J28 x0_28 σ28 = some (vo, σo)) : Wx Γ σ28 28 [(0, .int x0_28)] [] := by
  have C0 := C.1
  unfold tx_tokenBegunBy_J28 at h
  refine x_iload_n C0 dX4_tokenBegunBy_28 rfl ?_
  refine x_bipush C0 (v := 59) dX4_tokenBegunBy_29 (by decide) ?_
  refine x_icmp_ne C0 (tgt := 38) dX4_tokenBegunBy_31 (by decide) h (fun h => ?_) (fun h => ?_)
  · refine x_iconst C0 (v := 4) dX4_tokenBegunBy_38 (by decide) ?_
    exact x_iret C dX4_tokenBegunBy_39 h
  · refine x_iconst C0 (v := 3) dX4_tokenBegunBy_34 (by decide) ?_
    refine x_goto C0 (tgt := 39) dX4_tokenBegunBy_35 (by decide) ?_
    exact x_iret C dX4_tokenBegunBy_39 h
set_option maxRecDepth 20000 in
theorem w_tx_tokenBegunBy_J14 {l : Launch} {D : va_G} {cA : Nat → ClassId} {π : Nat → Nat} {Γ : Gx St} {vo : Int32} {σo : St} (C : Cm Γ cX4_tokenBegunBy RX4 cA 0 0 1 l D π shC (some .int) (some (.int vo), σo)) (x0_14 : Int32) (σ14 : St)  (h : tx_tokenBegunBy_J14 x0_14 σ14 = some (vo, σo)) : Wx Γ σ14 14 [(0, .int x0_14)] [] := by
  have C0 := C.1
  unfold tx_tokenBegunBy_J14 at h
  refine x_iload_n C0 dX4_tokenBegunBy_14 rfl ?_
  refine x_bipush C0 (v := 48) dX4_tokenBegunBy_15 (by decide) ?_
  refine x_icmp_lt C0 (tgt := 28) dX4_tokenBegunBy_17 (by decide) h (fun h => ?_) (fun h => ?_)
  · exact x_pick [0] rfl (w_tx_tokenBegunBy_J28 C x0_14 σ14 h)
  · refine x_iload_n C0 dX4_tokenBegunBy_20 rfl ?_
    refine x_bipush C0 (v := 57) dX4_tokenBegunBy_21 (by decide) ?_
    refine x_icmp_gt C0 (tgt := 28) dX4_tokenBegunBy_23 (by decide) h (fun h => ?_) (fun h => ?_)
    · exact x_pick [0] rfl (w_tx_tokenBegunBy_J28 C x0_14 σ14 h)
    · refine x_iconst C0 (v := 2) dX4_tokenBegunBy_26 (by decide) ?_
      exact x_iret C dX4_tokenBegunBy_27 h
set_option maxRecDepth 20000 in
theorem k_tx_tokenBegunBy {l : Launch} {D : va_G} {cA : Nat → ClassId} {π : Nat → Nat} (N : Nat) (a1 : Int32)  {σ : St} {vo : Int32} {σo : St} (h : tx_tokenBegunBy N a1 σ = some (vo, σo)) : Kt l D cA π shC yX4_tokenBegunBy cX4_tokenBegunBy 1 (some .int) 0 0 [.int a1] σ (some (.int vo)) σo := by
  refine Kt.of (by decide) (Nat.le_of_ble_eq_true rfl) (L := [(0, .int a1)]) rfl (fun Γ C => ?_)
  have C0 := C.1
  unfold tx_tokenBegunBy at h
  refine x_iload_n C0 dX4_tokenBegunBy_0 rfl ?_
  refine x_bipush C0 (v := 97) dX4_tokenBegunBy_1 (by decide) ?_
  refine x_icmp_lt C0 (tgt := 14) dX4_tokenBegunBy_3 (by decide) h (fun h => ?_) (fun h => ?_)
  · exact x_pick [0] rfl (w_tx_tokenBegunBy_J14 C a1 σ h)
  · refine x_iload_n C0 dX4_tokenBegunBy_6 rfl ?_
    refine x_bipush C0 (v := 122) dX4_tokenBegunBy_7 (by decide) ?_
    refine x_icmp_gt C0 (tgt := 14) dX4_tokenBegunBy_9 (by decide) h (fun h => ?_) (fun h => ?_)
    · exact x_pick [0] rfl (w_tx_tokenBegunBy_J14 C a1 σ h)
    · refine x_iconst C0 (v := 1) dX4_tokenBegunBy_12 (by decide) ?_
      exact x_iret C dX4_tokenBegunBy_13 h
def tx_weigh_J91  (σ91 : St) : Option (St) :=
  lt (put σ91 1 4 4) fun σ2 =>
  some σ2
def tx_weigh_J29 (t0_29 : Int32) (σ29 : St) : Option (St) :=
  lt (put σ29 1 5 t0_29) fun σ5 =>
  some σ5
def tx_weigh (N : Nat) (a1 : Int32) (σ : St) : Option (St) :=
  ck (inb (σ.1 1 3) 150) (
  lt (σ.1 2 (ix (σ.1 1 3))) fun x1 =>
  if (σ.1 1 4) = 1 then (
    if a1 = 1 then (
      tx_weigh_J29 x1 σ)
    else (
      tx_weigh_J29 0 σ))
  else (
    if a1 = 1 then (
      lt (put σ 1 5 (x1 - 48)) fun σ4 =>
      some σ4)
    else (
      if a1 = 2 then (
        if x1 = 48 then (
          tx_weigh_J91 σ)
        else (
          ck (inb ((σ.1 1 3) + 1) 150) (
          lt (put σ 1 5 ((((x1 - 48) * 10) + (σ.1 2 (ix ((σ.1 1 3) + 1)))) - 48)) fun σ3 =>
          some σ3)))
      else (
        tx_weigh_J91 σ))))
set_option maxRecDepth 20000 in
theorem w_tx_weigh_J91 {l : Launch} {D : va_G} {cA : Nat → ClassId} {π : Nat → Nat} {Γ : Gx St} {σo : St} (C : Cm Γ cX4_weigh RX4 cA 0 0 3 l D π shC none (none, σo))  (σ91 : St)  (h : tx_weigh_J91  σ91 = some σo) : Wx Γ σ91 91 [(0, .ref (π 1))] [] := by
  have C0 := C.1
  unfold tx_weigh_J91 at h
  refine x_aload_n C0 dX4_weigh_91 rfl ?_
  refine x_iconst C0 (v := 4) dX4_weigh_92 (by decide) ?_
  refine pt_X4_30 C dX4_weigh_93 h (fun σ2 h => ?_)
  exact x_vret C dX4_weigh_96 h
set_option maxRecDepth 20000 in
theorem w_tx_weigh_J29 {l : Launch} {D : va_G} {cA : Nat → ClassId} {π : Nat → Nat} {Γ : Gx St} {σo : St} (C : Cm Γ cX4_weigh RX4 cA 0 0 3 l D π shC none (none, σo)) (t0_29 : Int32) (σ29 : St)  (h : tx_weigh_J29 t0_29 σ29 = some σo) : Wx Γ σ29 29 [] [.int t0_29, .ref (π 1)] := by
  have C0 := C.1
  unfold tx_weigh_J29 at h
  refine pt_X4_40 C dX4_weigh_29 h (fun σ5 h => ?_)
  refine x_goto C0 (tgt := 96) dX4_weigh_32 (by decide) ?_
  exact x_vret C dX4_weigh_96 h
set_option maxRecDepth 20000 in
theorem k_tx_weigh {l : Launch} {D : va_G} {cA : Nat → ClassId} {π : Nat → Nat} (N : Nat) (a1 : Int32)  {σ : St} {σo : St} (h : tx_weigh N a1 σ = some σo) : Kt l D cA π shC yX4_weigh cX4_weigh 3 none 0 0 [.ref (π 1), .int a1] σ none σo := by
  refine Kt.of (by decide) (Nat.le_of_ble_eq_true rfl) (L := [(0, .ref (π 1)), (1, .int a1)]) rfl (fun Γ C => ?_)
  have C0 := C.1
  unfold tx_weigh at h
  refine x_aload_n C0 dX4_weigh_0 rfl ?_
  refine gt_X4_9 C dX4_weigh_1 ?_
  refine x_aload_n C0 dX4_weigh_4 rfl ?_
  refine gt_X4_37 C dX4_weigh_5 ?_
  refine x_iald C (k := 2) (z := 150) rfl dX4_weigh_8 h (fun h => ?_)
  refine x_nm h (fun x1 h => ?_)
  refine x_istore_n C0 (L' := [(2, .int x1), (0, .ref (π 1)), (1, .int a1)]) dX4_weigh_9 (by decide) rfl ?_
  refine x_aload_n C0 dX4_weigh_10 rfl ?_
  refine gt_X4_30 C dX4_weigh_11 ?_
  refine x_iconst C0 (v := 1) dX4_weigh_14 (by decide) ?_
  refine x_icmp_ne C0 (tgt := 35) dX4_weigh_15 (by decide) h (fun h => ?_) (fun h => ?_)
  · refine x_iload_n C0 dX4_weigh_35 rfl ?_
    refine x_iconst C0 (v := 1) dX4_weigh_36 (by decide) ?_
    refine x_icmp_ne C0 (tgt := 51) dX4_weigh_37 (by decide) h (fun h => ?_) (fun h => ?_)
    · refine x_iload_n C0 dX4_weigh_51 rfl ?_
      refine x_iconst C0 (v := 2) dX4_weigh_52 (by decide) ?_
      refine x_icmp_ne C0 (tgt := 91) dX4_weigh_53 (by decide) h (fun h => ?_) (fun h => ?_)
      · exact x_pick [1] rfl (w_tx_weigh_J91 C σ h)
      · refine x_iload_n C0 dX4_weigh_56 rfl ?_
        refine x_bipush C0 (v := 48) dX4_weigh_57 (by decide) ?_
        refine x_icmp_eq C0 (tgt := 91) dX4_weigh_59 (by decide) h (fun h => ?_) (fun h => ?_)
        · exact x_pick [1] rfl (w_tx_weigh_J91 C σ h)
        · refine x_aload_n C0 dX4_weigh_62 rfl ?_
          refine x_iload_n C0 dX4_weigh_63 rfl ?_
          refine x_bipush C0 (v := 48) dX4_weigh_64 (by decide) ?_
          refine x_isub C0 dX4_weigh_66 ?_
          refine x_bipush C0 (v := 10) dX4_weigh_67 (by decide) ?_
          refine x_imul C0 dX4_weigh_69 ?_
          refine x_aload_n C0 dX4_weigh_70 rfl ?_
          refine gt_X4_9 C dX4_weigh_71 ?_
          refine x_aload_n C0 dX4_weigh_74 rfl ?_
          refine gt_X4_37 C dX4_weigh_75 ?_
          refine x_iconst C0 (v := 1) dX4_weigh_78 (by decide) ?_
          refine x_iadd C0 dX4_weigh_79 ?_
          refine x_iald C (k := 2) (z := 150) rfl dX4_weigh_80 h (fun h => ?_)
          refine x_iadd C0 dX4_weigh_81 ?_
          refine x_bipush C0 (v := 48) dX4_weigh_82 (by decide) ?_
          refine x_isub C0 dX4_weigh_84 ?_
          refine pt_X4_40 C dX4_weigh_85 h (fun σ3 h => ?_)
          refine x_goto C0 (tgt := 96) dX4_weigh_88 (by decide) ?_
          exact x_vret C dX4_weigh_96 h
    · refine x_aload_n C0 dX4_weigh_40 rfl ?_
      refine x_iload_n C0 dX4_weigh_41 rfl ?_
      refine x_bipush C0 (v := 48) dX4_weigh_42 (by decide) ?_
      refine x_isub C0 dX4_weigh_44 ?_
      refine pt_X4_40 C dX4_weigh_45 h (fun σ4 h => ?_)
      refine x_goto C0 (tgt := 96) dX4_weigh_48 (by decide) ?_
      exact x_vret C dX4_weigh_96 h
  · refine x_aload_n C0 dX4_weigh_18 rfl ?_
    refine x_iload_n C0 dX4_weigh_19 rfl ?_
    refine x_iconst C0 (v := 1) dX4_weigh_20 (by decide) ?_
    refine x_icmp_ne C0 (tgt := 28) dX4_weigh_21 (by decide) h (fun h => ?_) (fun h => ?_)
    · refine x_iconst C0 (v := 0) dX4_weigh_28 (by decide) ?_
      exact x_pick [] rfl (w_tx_weigh_J29 C 0 σ h)
    · refine x_iload_n C0 dX4_weigh_24 rfl ?_
      refine x_goto C0 (tgt := 29) dX4_weigh_25 (by decide) ?_
      exact x_pick [] rfl (w_tx_weigh_J29 C x1 σ h)
def tx_advance_L111 (N : Nat) : Nat → St → Option (St)
  | 0, _ => none
  | n + 1, σ111 =>
    if (σ111.1 1 1) ≤ (σ111.1 1 2) then (
      some σ111)
    else (
      ck (inb (σ111.1 1 2) 150) (
      bd2 (tx_tokenBegunBy N (σ111.1 2 (ix (σ111.1 1 2))) σ111) fun v5 σ4 =>
      if v5 = (σ4.1 1 4) then (
        lt (put σ4 1 2 ((σ4.1 1 2) + 1)) fun σ6 =>
        (tx_advance_L111 N n) σ6)
      else (
        some σ4)))
def tx_advance_J154 (N : Nat) (σ154 : St) : Option (St) :=
  bd1 (tx_weigh N ((σ154.1 1 2) - (σ154.1 1 3)) σ154) fun σ8 =>
  some σ8
def tx_advance_J74 (N : Nat) (t0_74 : Int32) (σ74 : St) : Option (St) :=
  lt (put σ74 1 4 t0_74) fun σ2 =>
  if (σ2.1 1 4) = 0 then (
    some σ2)
  else (
    lt (put σ2 1 2 ((σ2.1 1 2) + 1)) fun σ3 =>
    if (σ3.1 1 4) = 1 then (
      bd1 (tx_advance_L111 N N σ3) fun σ7 =>
      tx_advance_J154 N σ7)
    else (
      if (σ3.1 1 4) = 2 then (
        bd1 (tx_advance_L111 N N σ3) fun σ9 =>
        tx_advance_J154 N σ9)
      else (
        some σ3)))
def tx_advance_J38 (N : Nat) (σ38 : St) : Option (St) :=
  lt (put σ38 1 3 (σ38.1 1 2)) fun σ1 =>
  if (σ1.1 1 1) ≤ (σ1.1 1 2) then (
    tx_advance_J74 N 0 σ1)
  else (
    ck (inb (σ1.1 1 2) 150) (
    bd2 (tx_tokenBegunBy N (σ1.1 2 (ix (σ1.1 1 2))) σ1) fun v11 σ10 =>
    tx_advance_J74 N v11 σ10))
def tx_advance_L0 (N : Nat) : Nat → St → Option (St)
  | 0, _ => none
  | n + 1, σ0 =>
    if (σ0.1 1 1) ≤ (σ0.1 1 2) then (
      some σ0)
    else (
      ck (inb (σ0.1 1 2) 150) (
      if (σ0.1 2 (ix (σ0.1 1 2))) = 32 then (
        lt (put σ0 1 2 ((σ0.1 1 2) + 1)) fun σ13 =>
        (tx_advance_L0 N n) σ13)
      else (
        some σ0)))
def tx_advance (N : Nat) (σ : St) : Option (St) :=
  if (σ.1 1 1) ≤ (σ.1 1 2) then (
    tx_advance_J38 N σ)
  else (
    ck (inb (σ.1 1 2) 150) (
    if (σ.1 2 (ix (σ.1 1 2))) = 32 then (
      lt (put σ 1 2 ((σ.1 1 2) + 1)) fun σ12 =>
      bd1 (tx_advance_L0 N N σ12) fun σ14 =>
      tx_advance_J38 N σ14)
    else (
      tx_advance_J38 N σ)))
set_option maxRecDepth 20000 in
theorem w_tx_advance_L111 {l : Launch} {D : va_G} {cA : Nat → ClassId} {π : Nat → Nat} {Γ : Gx St} {σo : St} (C : Cm Γ cX4_advance RX4 cA 1 22 1 l D π shC none (none, σo)) (N : Nat)  (yo : St) (kk111 : ∀ σe, σe = yo → Wx Γ σe 154 [(0, .ref (π 1))] []) : ∀ (n : Nat) (σ111 : St), tx_advance_L111 N n  σ111 = some yo → Wx Γ σ111 111 [(0, .ref (π 1))] [] := by
  have C0 := C.1
  intro n
  induction n with
  | zero => intro  σ111 h; cases h
  | succ n ih =>
    intro  σ111 h
    rw [tx_advance_L111] at h
    refine x_aload_n C0 dX4_advance_111 rfl ?_
    refine gt_X4_24 C dX4_advance_112 ?_
    refine x_aload_n C0 dX4_advance_115 rfl ?_
    refine gt_X4_15 C dX4_advance_116 ?_
    refine x_icmp_ge C0 (tgt := 154) dX4_advance_119 (by decide) h (fun h => ?_) (fun h => ?_)
    · exact x_pick [0] rfl (kk111 _ (Option.some.inj h))
    · refine x_aload_n C0 dX4_advance_122 rfl ?_
      refine gt_X4_9 C dX4_advance_123 ?_
      refine x_aload_n C0 dX4_advance_126 rfl ?_
      refine gt_X4_24 C dX4_advance_127 ?_
      refine x_iald C (k := 2) (z := 150) rfl dX4_advance_130 h (fun h => ?_)
      obtain ⟨v5, σ4, hc, h⟩ := bd2_some h
      refine x_callSi C (k_tx_tokenBegunBy N (σ111.1 2 (ix (σ111.1 1 2)))  hc) umX4_99 ut_X4_tokenBegunBy un_X4 uc_X4_tokenBegunBy hs_X4_tokenBegunBy rfl (by decide) dX4_advance_131 (rest := []) rfl (Nat.le_of_ble_eq_true rfl) ?_
      refine x_aload_n C0 dX4_advance_134 rfl ?_
      refine gt_X4_30 C dX4_advance_135 ?_
      refine x_icmp_ne C0 (tgt := 154) dX4_advance_138 (by decide) h (fun h => ?_) (fun h => ?_)
      · exact x_pick [0] rfl (kk111 _ (Option.some.inj h))
      · refine x_aload_n C0 dX4_advance_141 rfl ?_
        refine x_dup C0 rfl dX4_advance_142 ?_
        refine gt_X4_24 C dX4_advance_143 ?_
        refine x_iconst C0 (v := 1) dX4_advance_146 (by decide) ?_
        refine x_iadd C0 dX4_advance_147 ?_
        refine pt_X4_24 C dX4_advance_148 h (fun σ6 h => ?_)
        refine x_goto C0 (tgt := 111) dX4_advance_151 (by decide) ?_
        exact x_pick [0] rfl (ih _ h)
set_option maxRecDepth 20000 in
theorem w_tx_advance_J154 {l : Launch} {D : va_G} {cA : Nat → ClassId} {π : Nat → Nat} {Γ : Gx St} {σo : St} (C : Cm Γ cX4_advance RX4 cA 1 22 1 l D π shC none (none, σo)) (N : Nat) (σ154 : St)  (h : tx_advance_J154 N σ154 = some σo) : Wx Γ σ154 154 [(0, .ref (π 1))] [] := by
  have C0 := C.1
  unfold tx_advance_J154 at h
  refine x_aload_n C0 dX4_advance_154 rfl ?_
  refine x_aload_n C0 dX4_advance_155 rfl ?_
  refine gt_X4_24 C dX4_advance_156 ?_
  refine x_aload_n C0 dX4_advance_159 rfl ?_
  refine gt_X4_37 C dX4_advance_160 ?_
  refine x_isub C0 dX4_advance_163 ?_
  obtain ⟨σ8, hc, h⟩ := bd1_some h
  refine x_callVv C (k_tx_weigh N ((σ154.1 1 2) - (σ154.1 1 3))  hc) umX4_103 ui_X4_weigh us_X4_weigh un_X4 uc_X4_weigh hv_X4_weigh rfl (by decide) (fks := [4, 0, 0, 0, 0, 0]) rfl rfl dX4_advance_164 (rest := []) rfl (Nat.le_of_ble_eq_true rfl) ?_
  exact x_vret C dX4_advance_167 h
set_option maxRecDepth 20000 in
theorem w_tx_advance_J74 {l : Launch} {D : va_G} {cA : Nat → ClassId} {π : Nat → Nat} {Γ : Gx St} {σo : St} (C : Cm Γ cX4_advance RX4 cA 1 22 1 l D π shC none (none, σo)) (N : Nat) (t0_74 : Int32) (σ74 : St)  (h : tx_advance_J74 N t0_74 σ74 = some σo) : Wx Γ σ74 74 [(0, .ref (π 1))] [.int t0_74, .ref (π 1)] := by
  have C0 := C.1
  unfold tx_advance_J74 at h
  refine pt_X4_30 C dX4_advance_74 h (fun σ2 h => ?_)
  refine x_aload_n C0 dX4_advance_77 rfl ?_
  refine gt_X4_30 C dX4_advance_78 ?_
  refine x_if_ne C0 (tgt := 85) dX4_advance_81 (by decide) h (fun h => ?_) (fun h => ?_)
  · refine x_aload_n C0 dX4_advance_85 rfl ?_
    refine x_dup C0 rfl dX4_advance_86 ?_
    refine gt_X4_24 C dX4_advance_87 ?_
    refine x_iconst C0 (v := 1) dX4_advance_90 (by decide) ?_
    refine x_iadd C0 dX4_advance_91 ?_
    refine pt_X4_24 C dX4_advance_92 h (fun σ3 h => ?_)
    refine x_aload_n C0 dX4_advance_95 rfl ?_
    refine gt_X4_30 C dX4_advance_96 ?_
    refine x_iconst C0 (v := 1) dX4_advance_99 (by decide) ?_
    refine x_icmp_eq C0 (tgt := 111) dX4_advance_100 (by decide) h (fun h => ?_) (fun h => ?_)
    · obtain ⟨σ7, hL, h⟩ := bd1_some h
      refine x_pick [0] rfl (w_tx_advance_L111 C N _ (fun b0 e => ?_) N  σ3 hL)
      cases e
      exact x_pick [0] rfl (w_tx_advance_J154 C N σ7 h)
    · refine x_aload_n C0 dX4_advance_103 rfl ?_
      refine gt_X4_30 C dX4_advance_104 ?_
      refine x_iconst C0 (v := 2) dX4_advance_107 (by decide) ?_
      refine x_icmp_ne C0 (tgt := 167) dX4_advance_108 (by decide) h (fun h => ?_) (fun h => ?_)
      · exact x_vret C dX4_advance_167 h
      · obtain ⟨σ9, hL, h⟩ := bd1_some h
        refine x_pick [0] rfl (w_tx_advance_L111 C N _ (fun b0 e => ?_) N  σ3 hL)
        cases e
        exact x_pick [0] rfl (w_tx_advance_J154 C N σ9 h)
  · exact x_vret C dX4_advance_84 h
set_option maxRecDepth 20000 in
theorem w_tx_advance_J38 {l : Launch} {D : va_G} {cA : Nat → ClassId} {π : Nat → Nat} {Γ : Gx St} {σo : St} (C : Cm Γ cX4_advance RX4 cA 1 22 1 l D π shC none (none, σo)) (N : Nat) (σ38 : St)  (h : tx_advance_J38 N σ38 = some σo) : Wx Γ σ38 38 [(0, .ref (π 1))] [] := by
  have C0 := C.1
  unfold tx_advance_J38 at h
  refine x_aload_n C0 dX4_advance_38 rfl ?_
  refine x_aload_n C0 dX4_advance_39 rfl ?_
  refine gt_X4_24 C dX4_advance_40 ?_
  refine pt_X4_37 C dX4_advance_43 h (fun σ1 h => ?_)
  refine x_aload_n C0 dX4_advance_46 rfl ?_
  refine x_aload_n C0 dX4_advance_47 rfl ?_
  refine gt_X4_24 C dX4_advance_48 ?_
  refine x_aload_n C0 dX4_advance_51 rfl ?_
  refine gt_X4_15 C dX4_advance_52 ?_
  refine x_icmp_ge C0 (tgt := 73) dX4_advance_55 (by decide) h (fun h => ?_) (fun h => ?_)
  · refine x_iconst C0 (v := 0) dX4_advance_73 (by decide) ?_
    exact x_pick [0] rfl (w_tx_advance_J74 C N 0 σ1 h)
  · refine x_aload_n C0 dX4_advance_58 rfl ?_
    refine gt_X4_9 C dX4_advance_59 ?_
    refine x_aload_n C0 dX4_advance_62 rfl ?_
    refine gt_X4_24 C dX4_advance_63 ?_
    refine x_iald C (k := 2) (z := 150) rfl dX4_advance_66 h (fun h => ?_)
    obtain ⟨v11, σ10, hc, h⟩ := bd2_some h
    refine x_callSi C (k_tx_tokenBegunBy N (σ1.1 2 (ix (σ1.1 1 2)))  hc) umX4_99 ut_X4_tokenBegunBy un_X4 uc_X4_tokenBegunBy hs_X4_tokenBegunBy rfl (by decide) dX4_advance_67 (rest := [.ref (π 1)]) rfl (Nat.le_of_ble_eq_true rfl) ?_
    refine x_goto C0 (tgt := 74) dX4_advance_70 (by decide) ?_
    exact x_pick [0] rfl (w_tx_advance_J74 C N v11 σ10 h)
set_option maxRecDepth 20000 in
theorem w_tx_advance_L0 {l : Launch} {D : va_G} {cA : Nat → ClassId} {π : Nat → Nat} {Γ : Gx St} {σo : St} (C : Cm Γ cX4_advance RX4 cA 1 22 1 l D π shC none (none, σo)) (N : Nat)  (yo : St) (kk0 : ∀ σe, σe = yo → Wx Γ σe 38 [(0, .ref (π 1))] []) : ∀ (n : Nat) (σ0 : St), tx_advance_L0 N n  σ0 = some yo → Wx Γ σ0 0 [(0, .ref (π 1))] [] := by
  have C0 := C.1
  intro n
  induction n with
  | zero => intro  σ0 h; cases h
  | succ n ih =>
    intro  σ0 h
    rw [tx_advance_L0] at h
    refine x_aload_n C0 dX4_advance_0 rfl ?_
    refine gt_X4_24 C dX4_advance_1 ?_
    refine x_aload_n C0 dX4_advance_4 rfl ?_
    refine gt_X4_15 C dX4_advance_5 ?_
    refine x_icmp_ge C0 (tgt := 38) dX4_advance_8 (by decide) h (fun h => ?_) (fun h => ?_)
    · exact x_pick [0] rfl (kk0 _ (Option.some.inj h))
    · refine x_aload_n C0 dX4_advance_11 rfl ?_
      refine gt_X4_9 C dX4_advance_12 ?_
      refine x_aload_n C0 dX4_advance_15 rfl ?_
      refine gt_X4_24 C dX4_advance_16 ?_
      refine x_iald C (k := 2) (z := 150) rfl dX4_advance_19 h (fun h => ?_)
      refine x_bipush C0 (v := 32) dX4_advance_20 (by decide) ?_
      refine x_icmp_ne C0 (tgt := 38) dX4_advance_22 (by decide) h (fun h => ?_) (fun h => ?_)
      · exact x_pick [0] rfl (kk0 _ (Option.some.inj h))
      · refine x_aload_n C0 dX4_advance_25 rfl ?_
        refine x_dup C0 rfl dX4_advance_26 ?_
        refine gt_X4_24 C dX4_advance_27 ?_
        refine x_iconst C0 (v := 1) dX4_advance_30 (by decide) ?_
        refine x_iadd C0 dX4_advance_31 ?_
        refine pt_X4_24 C dX4_advance_32 h (fun σ13 h => ?_)
        refine x_goto C0 (tgt := 0) dX4_advance_35 (by decide) ?_
        exact x_pick [0] rfl (ih _ h)
set_option maxRecDepth 20000 in
theorem k_tx_advance {l : Launch} {D : va_G} {cA : Nat → ClassId} {π : Nat → Nat} (N : Nat)  {σ : St} {σo : St} (h : tx_advance N σ = some σo) : Kt l D cA π shC yX4_advance cX4_advance 1 none 1 22 [.ref (π 1)] σ none σo := by
  refine Kt.of (by decide) (Nat.le_of_ble_eq_true rfl) (L := [(0, .ref (π 1))]) rfl (fun Γ C => ?_)
  have C0 := C.1
  unfold tx_advance at h
  refine x_aload_n C0 dX4_advance_0 rfl ?_
  refine gt_X4_24 C dX4_advance_1 ?_
  refine x_aload_n C0 dX4_advance_4 rfl ?_
  refine gt_X4_15 C dX4_advance_5 ?_
  refine x_icmp_ge C0 (tgt := 38) dX4_advance_8 (by decide) h (fun h => ?_) (fun h => ?_)
  · exact x_pick [0] rfl (w_tx_advance_J38 C N σ h)
  · refine x_aload_n C0 dX4_advance_11 rfl ?_
    refine gt_X4_9 C dX4_advance_12 ?_
    refine x_aload_n C0 dX4_advance_15 rfl ?_
    refine gt_X4_24 C dX4_advance_16 ?_
    refine x_iald C (k := 2) (z := 150) rfl dX4_advance_19 h (fun h => ?_)
    refine x_bipush C0 (v := 32) dX4_advance_20 (by decide) ?_
    refine x_icmp_ne C0 (tgt := 38) dX4_advance_22 (by decide) h (fun h => ?_) (fun h => ?_)
    · exact x_pick [0] rfl (w_tx_advance_J38 C N σ h)
    · refine x_aload_n C0 dX4_advance_25 rfl ?_
      refine x_dup C0 rfl dX4_advance_26 ?_
      refine gt_X4_24 C dX4_advance_27 ?_
      refine x_iconst C0 (v := 1) dX4_advance_30 (by decide) ?_
      refine x_iadd C0 dX4_advance_31 ?_
      refine pt_X4_24 C dX4_advance_32 h (fun σ12 h => ?_)
      refine x_goto C0 (tgt := 0) dX4_advance_35 (by decide) ?_
      obtain ⟨σ14, hL, h⟩ := bd1_some h
      refine x_pick [0] rfl (w_tx_advance_L0 C N _ (fun b0 e => ?_) N  σ12 hL)
      cases e
      exact x_pick [0] rfl (w_tx_advance_J38 C N σ14 h)
def tx_readNumber (N : Nat) (a1 : Int32) (a2 : Int32) (σ : St) : Option (Int32 × St) :=
  bd1 (tx_advance N  σ) fun σ1 =>
  if (σ1.1 1 4) = 2 then (
    bd2 (wb_within N (σ1.1 1 5) a1 a2 σ1) fun v3 σ2 =>
    if v3 = 0 then (
      some (0, σ2))
    else (
      some (1, σ2)))
  else (
    some (0, σ1))
set_option maxRecDepth 20000 in
theorem k_tx_readNumber {l : Launch} {D : va_G} {cA : Nat → ClassId} {π : Nat → Nat} (N : Nat) (a1 : Int32) (a2 : Int32)  {σ : St} {vo : Int32} {σo : St} (h : tx_readNumber N a1 a2 σ = some (vo, σo)) : Kt l D cA π shC yX4_readNumber cX4_readNumber 3 (some .boolean) 2 42 [.ref (π 1), .int a1, .int a2] σ (some (.int vo)) σo := by
  refine Kt.of (by decide) (Nat.le_of_ble_eq_true rfl) (L := [(0, .ref (π 1)), (1, .int a1), (2, .int a2)]) rfl (fun Γ C => ?_)
  have C0 := C.1
  unfold tx_readNumber at h
  refine x_aload_n C0 dX4_readNumber_0 rfl ?_
  obtain ⟨σ1, hc, h⟩ := bd1_some h
  refine x_callVv C (k_tx_advance N  hc) umX4_27 ui_X4_advance us_X4_advance un_X4 uc_X4_advance hv_X4_advance rfl (by decide) (fks := [4, 0, 0, 0, 0, 0]) rfl rfl dX4_readNumber_1 (rest := []) rfl (Nat.le_of_ble_eq_true rfl) ?_
  refine x_aload_n C0 dX4_readNumber_4 rfl ?_
  refine gt_X4_30 C dX4_readNumber_5 ?_
  refine x_iconst C0 (v := 2) dX4_readNumber_8 (by decide) ?_
  refine x_icmp_ne C0 (tgt := 28) dX4_readNumber_9 (by decide) h (fun h => ?_) (fun h => ?_)
  · refine x_iconst C0 (v := 0) dX4_readNumber_28 (by decide) ?_
    exact x_zret C (Or.inl rfl) dX4_readNumber_29 h
  · refine x_aload_n C0 dX4_readNumber_12 rfl ?_
    refine gt_X4_40 C dX4_readNumber_13 ?_
    refine x_iload_n C0 dX4_readNumber_16 rfl ?_
    refine x_iload_n C0 dX4_readNumber_17 rfl ?_
    obtain ⟨v3, σ2, hc, h⟩ := bd2_some h
    refine x_callSNi C (k_wb_within N (σ1.1 1 5) a1 a2  hc) (fun _ h => nmX4_95 h) ut_X6_within un_X6 uc_X6_within hs_X6_within rfl (by decide) dX4_readNumber_18 (rest := []) rfl (Nat.le_of_ble_eq_true rfl) ?_
    refine x_if_eq C0 (tgt := 28) dX4_readNumber_21 (by decide) h (fun h => ?_) (fun h => ?_)
    · refine x_iconst C0 (v := 0) dX4_readNumber_28 (by decide) ?_
      exact x_zret C (Or.inl rfl) dX4_readNumber_29 h
    · refine x_iconst C0 (v := 1) dX4_readNumber_24 (by decide) ?_
      refine x_goto C0 (tgt := 29) dX4_readNumber_25 (by decide) ?_
      exact x_zret C (Or.inr rfl) dX4_readNumber_29 h
def tx_readSemicolon (N : Nat) (σ : St) : Option (Int32 × St) :=
  bd1 (tx_advance N  σ) fun σ1 =>
  if (σ1.1 1 4) = 3 then (
    some (1, σ1))
  else (
    some (0, σ1))
set_option maxRecDepth 20000 in
theorem k_tx_readSemicolon {l : Launch} {D : va_G} {cA : Nat → ClassId} {π : Nat → Nat} (N : Nat)  {σ : St} {vo : Int32} {σo : St} (h : tx_readSemicolon N σ = some (vo, σo)) : Kt l D cA π shC yX4_readSemicolon cX4_readSemicolon 1 (some .boolean) 2 42 [.ref (π 1)] σ (some (.int vo)) σo := by
  refine Kt.of (by decide) (Nat.le_of_ble_eq_true rfl) (L := [(0, .ref (π 1))]) rfl (fun Γ C => ?_)
  have C0 := C.1
  unfold tx_readSemicolon at h
  refine x_aload_n C0 dX4_readSemicolon_0 rfl ?_
  obtain ⟨σ1, hc, h⟩ := bd1_some h
  refine x_callVv C (k_tx_advance N  hc) umX4_27 ui_X4_advance us_X4_advance un_X4 uc_X4_advance hv_X4_advance rfl (by decide) (fks := [4, 0, 0, 0, 0, 0]) rfl rfl dX4_readSemicolon_1 (rest := []) rfl (Nat.le_of_ble_eq_true rfl) ?_
  refine x_aload_n C0 dX4_readSemicolon_4 rfl ?_
  refine gt_X4_30 C dX4_readSemicolon_5 ?_
  refine x_iconst C0 (v := 3) dX4_readSemicolon_8 (by decide) ?_
  refine x_icmp_ne C0 (tgt := 16) dX4_readSemicolon_9 (by decide) h (fun h => ?_) (fun h => ?_)
  · refine x_iconst C0 (v := 0) dX4_readSemicolon_16 (by decide) ?_
    exact x_zret C (Or.inl rfl) dX4_readSemicolon_17 h
  · refine x_iconst C0 (v := 1) dX4_readSemicolon_12 (by decide) ?_
    refine x_goto C0 (tgt := 17) dX4_readSemicolon_13 (by decide) ?_
    exact x_zret C (Or.inr rfl) dX4_readSemicolon_17 h
def tx_readGap (N : Nat) (k1 : Nat) (σ : St) : Option (Int32 × St) :=
  if (σ.1 k1 7) = 0 then (
    bd2 (tx_readNumber N 1 30 σ) fun v2 σ1 =>
    if v2 = 0 then (
      some (0, σ1))
    else (
      lt (put σ1 k1 5 (σ1.1 1 5)) fun σ3 =>
      lt (put σ3 k1 7 1) fun σ4 =>
      bd2 (tx_readSemicolon N  σ4) fun v6 σ5 =>
      ck (bz v6) (some (v6, σ5))))
  else (
    some (0, σ))
set_option maxRecDepth 20000 in
theorem k_tx_readGap {l : Launch} {D : va_G} {cA : Nat → ClassId} {π : Nat → Nat} (N : Nat) (k1 : Nat) (hk1 : shC[k1]? = some shX5) {σ : St} {vo : Int32} {σo : St} (h : tx_readGap N k1 σ = some (vo, σo)) : Kt l D cA π shC yX4_readGap cX4_readGap 2 (some .boolean) 3 64 [.ref (π 1), .ref (π k1)] σ (some (.int vo)) σo := by
  refine Kt.of (by decide) (Nat.le_of_ble_eq_true rfl) (L := [(0, .ref (π 1)), (1, .ref (π k1))]) rfl (fun Γ C => ?_)
  have C0 := C.1
  unfold tx_readGap at h
  refine x_aload_n C0 dX4_readGap_0 rfl ?_
  refine gt_X4_82 C hk1 dX4_readGap_1 ?_
  refine x_if_ne C0 (tgt := 17) dX4_readGap_4 (by decide) h (fun h => ?_) (fun h => ?_)
  · refine x_iconst C0 (v := 0) dX4_readGap_17 (by decide) ?_
    exact x_zret C (Or.inl rfl) dX4_readGap_18 h
  · refine x_aload_n C0 dX4_readGap_7 rfl ?_
    refine x_iconst C0 (v := 1) dX4_readGap_8 (by decide) ?_
    refine x_bipush C0 (v := 30) dX4_readGap_9 (by decide) ?_
    obtain ⟨v2, σ1, hc, h⟩ := bd2_some h
    refine x_callVi C (k_tx_readNumber N 1 30  hc) umX4_58 ui_X4_readNumber us_X4_readNumber un_X4 uc_X4_readNumber hv_X4_readNumber rfl (by decide) (fks := [4, 0, 0, 0, 0, 0]) rfl rfl dX4_readGap_11 (rest := []) rfl (Nat.le_of_ble_eq_true rfl) ?_
    refine x_if_ne C0 (tgt := 19) dX4_readGap_14 (by decide) h (fun h => ?_) (fun h => ?_)
    · refine x_aload_n C0 dX4_readGap_19 rfl ?_
      refine x_aload_n C0 dX4_readGap_20 rfl ?_
      refine gt_X4_40 C dX4_readGap_21 ?_
      refine pt_X4_86 C hk1 dX4_readGap_24 h (fun σ3 h => ?_)
      refine x_aload_n C0 dX4_readGap_27 rfl ?_
      refine x_iconst C0 (v := 1) dX4_readGap_28 (by decide) ?_
      refine pt_X4_82 C hk1 (Or.inr rfl) dX4_readGap_29 h (fun σ4 h => ?_)
      refine x_aload_n C0 dX4_readGap_32 rfl ?_
      obtain ⟨v6, σ5, hc, h⟩ := bd2_some h
      refine x_callVi C (k_tx_readSemicolon N  hc) umX4_66 ui_X4_readSemicolon us_X4_readSemicolon un_X4 uc_X4_readSemicolon hv_X4_readSemicolon rfl (by decide) (fks := [4, 0, 0, 0, 0, 0]) rfl rfl dX4_readGap_33 (rest := []) rfl (Nat.le_of_ble_eq_true rfl) ?_
      refine x_chk h (fun q h => ?_)
      exact x_zret C (bz_or q) dX4_readGap_36 h
    · refine x_iconst C0 (v := 0) dX4_readGap_17 (by decide) ?_
      exact x_zret C (Or.inl rfl) dX4_readGap_18 h
def td_addPerson (N : Nat) (k0 : Nat) (a1 : Int32) (a2 : Int32) (σ : St) : Option (St) :=
  if 6 ≤ (σ.1 k0 3) then (
    some σ)
  else (
    ck (inb (σ.1 k0 3) 6) (lt (put σ (k0 + 1) (ix (σ.1 k0 3)) a1) fun σ1 =>
    ck (inb (σ1.1 k0 3) 6) (lt (put σ1 (k0 + 2) (ix (σ1.1 k0 3)) a2) fun σ2 =>
    lt (put σ2 k0 3 ((σ2.1 k0 3) + 1)) fun σ3 =>
    some σ3)))
set_option maxRecDepth 20000 in
theorem k_td_addPerson {l : Launch} {D : va_G} {cA : Nat → ClassId} {π : Nat → Nat} (N : Nat) (k0 : Nat) (a1 : Int32) (a2 : Int32) (hk0 : shC[k0]? = some shX5) {σ : St} {σo : St} (h : td_addPerson N k0 a1 a2 σ = some σo) : Kt l D cA π shC yX5_addPerson cX5_addPerson 3 none 0 0 [.ref (π k0), .int a1, .int a2] σ none σo := by
  refine Kt.of (by decide) (Nat.le_of_ble_eq_true rfl) (L := [(0, .ref (π k0)), (1, .int a1), (2, .int a2)]) rfl (fun Γ C => ?_)
  have C0 := C.1
  unfold td_addPerson at h
  refine x_aload_n C0 dX5_addPerson_0 rfl ?_
  refine gt_X5_28 C hk0 dX5_addPerson_1 ?_
  refine x_bipush C0 (v := 6) dX5_addPerson_4 (by decide) ?_
  refine x_icmp_ge C0 (tgt := 39) dX5_addPerson_6 (by decide) h (fun h => ?_) (fun h => ?_)
  · exact x_vret C dX5_addPerson_39 h
  · refine x_aload_n C0 dX5_addPerson_9 rfl ?_
    refine gt_X5_9 C hk0 dX5_addPerson_10 ?_
    refine x_aload_n C0 dX5_addPerson_13 rfl ?_
    refine gt_X5_28 C hk0 dX5_addPerson_14 ?_
    refine x_iload_n C0 dX5_addPerson_17 rfl ?_
    refine x_iast C (k := (k0 + 1)) (z := 6) (sh_X5_heavy hk0) dX5_addPerson_18 h (fun σ1 h => ?_)
    refine x_aload_n C0 dX5_addPerson_19 rfl ?_
    refine gt_X5_15 C hk0 dX5_addPerson_20 ?_
    refine x_aload_n C0 dX5_addPerson_23 rfl ?_
    refine gt_X5_28 C hk0 dX5_addPerson_24 ?_
    refine x_iload_n C0 dX5_addPerson_27 rfl ?_
    refine x_iast C (k := (k0 + 2)) (z := 6) (sh_X5_thick hk0) dX5_addPerson_28 h (fun σ2 h => ?_)
    refine x_aload_n C0 dX5_addPerson_29 rfl ?_
    refine x_dup C0 rfl dX5_addPerson_30 ?_
    refine gt_X5_28 C hk0 dX5_addPerson_31 ?_
    refine x_iconst C0 (v := 1) dX5_addPerson_34 (by decide) ?_
    refine x_iadd C0 dX5_addPerson_35 ?_
    refine pt_X5_28 C hk0 dX5_addPerson_36 h (fun σ3 h => ?_)
    exact x_vret C dX5_addPerson_39 h
def tx_readPerson (N : Nat) (k1 : Nat) (σ : St) : Option (Int32 × St) :=
  if 6 ≤ (σ.1 k1 3) then (
    some (0, σ))
  else (
    bd2 (tx_readNumber N 1 9 σ) fun v2 σ1 =>
    if v2 = 0 then (
      some (0, σ1))
    else (
      lt (σ1.1 1 5) fun x3 =>
      bd2 (tx_readNumber N 1 9 σ1) fun v5 σ4 =>
      if v5 = 0 then (
        some (0, σ4))
      else (
        bd1 (td_addPerson N k1 x3 (σ4.1 1 5) σ4) fun σ6 =>
        bd2 (tx_readSemicolon N  σ6) fun v8 σ7 =>
        ck (bz v8) (some (v8, σ7)))))
set_option maxRecDepth 20000 in
theorem k_tx_readPerson {l : Launch} {D : va_G} {cA : Nat → ClassId} {π : Nat → Nat} (N : Nat) (k1 : Nat) (hk1 : shC[k1]? = some shX5) {σ : St} {vo : Int32} {σo : St} (h : tx_readPerson N k1 σ = some (vo, σo)) : Kt l D cA π shC yX4_readPerson cX4_readPerson 3 (some .boolean) 3 64 [.ref (π 1), .ref (π k1)] σ (some (.int vo)) σo := by
  refine Kt.of (by decide) (Nat.le_of_ble_eq_true rfl) (L := [(0, .ref (π 1)), (1, .ref (π k1))]) rfl (fun Γ C => ?_)
  have C0 := C.1
  unfold tx_readPerson at h
  refine x_aload_n C0 dX4_readPerson_0 rfl ?_
  refine gt_X4_55 C hk1 dX4_readPerson_1 ?_
  refine x_bipush C0 (v := 6) dX4_readPerson_4 (by decide) ?_
  refine x_icmp_ge C0 (tgt := 19) dX4_readPerson_6 (by decide) h (fun h => ?_) (fun h => ?_)
  · refine x_iconst C0 (v := 0) dX4_readPerson_19 (by decide) ?_
    exact x_zret C (Or.inl rfl) dX4_readPerson_20 h
  · refine x_aload_n C0 dX4_readPerson_9 rfl ?_
    refine x_iconst C0 (v := 1) dX4_readPerson_10 (by decide) ?_
    refine x_bipush C0 (v := 9) dX4_readPerson_11 (by decide) ?_
    obtain ⟨v2, σ1, hc, h⟩ := bd2_some h
    refine x_callVi C (k_tx_readNumber N 1 9  hc) umX4_58 ui_X4_readNumber us_X4_readNumber un_X4 uc_X4_readNumber hv_X4_readNumber rfl (by decide) (fks := [4, 0, 0, 0, 0, 0]) rfl rfl dX4_readPerson_13 (rest := []) rfl (Nat.le_of_ble_eq_true rfl) ?_
    refine x_if_ne C0 (tgt := 21) dX4_readPerson_16 (by decide) h (fun h => ?_) (fun h => ?_)
    · refine x_aload_n C0 dX4_readPerson_21 rfl ?_
      refine gt_X4_40 C dX4_readPerson_22 ?_
      refine x_nm h (fun x3 h => ?_)
      refine x_istore_n C0 (L' := [(2, .int x3), (0, .ref (π 1)), (1, .ref (π k1))]) dX4_readPerson_25 (by decide) rfl ?_
      refine x_aload_n C0 dX4_readPerson_26 rfl ?_
      refine x_iconst C0 (v := 1) dX4_readPerson_27 (by decide) ?_
      refine x_bipush C0 (v := 9) dX4_readPerson_28 (by decide) ?_
      obtain ⟨v5, σ4, hc, h⟩ := bd2_some h
      refine x_callVi C (k_tx_readNumber N 1 9  hc) umX4_58 ui_X4_readNumber us_X4_readNumber un_X4 uc_X4_readNumber hv_X4_readNumber rfl (by decide) (fks := [4, 0, 0, 0, 0, 0]) rfl rfl dX4_readPerson_30 (rest := []) rfl (Nat.le_of_ble_eq_true rfl) ?_
      refine x_if_ne C0 (tgt := 38) dX4_readPerson_33 (by decide) h (fun h => ?_) (fun h => ?_)
      · refine x_aload_n C0 dX4_readPerson_38 rfl ?_
        refine x_iload_n C0 dX4_readPerson_39 rfl ?_
        refine x_aload_n C0 dX4_readPerson_40 rfl ?_
        refine gt_X4_40 C dX4_readPerson_41 ?_
        obtain ⟨σ6, hc, h⟩ := bd1_some h
        refine x_callVv C (k_td_addPerson N k1 x3 (σ4.1 1 5) hk1 hc) umX4_62 ui_X5_addPerson us_X5_addPerson un_X5 uc_X5_addPerson hv_X5_addPerson rfl (by decide) hk1 rfl dX4_readPerson_44 (rest := []) rfl (Nat.le_of_ble_eq_true rfl) ?_
        refine x_aload_n C0 dX4_readPerson_47 rfl ?_
        obtain ⟨v8, σ7, hc, h⟩ := bd2_some h
        refine x_callVi C (k_tx_readSemicolon N  hc) umX4_66 ui_X4_readSemicolon us_X4_readSemicolon un_X4 uc_X4_readSemicolon hv_X4_readSemicolon rfl (by decide) (fks := [4, 0, 0, 0, 0, 0]) rfl rfl dX4_readPerson_48 (rest := []) rfl (Nat.le_of_ble_eq_true rfl) ?_
        refine x_chk h (fun q h => ?_)
        exact x_zret C (bz_or q) dX4_readPerson_51 h
      · refine x_iconst C0 (v := 0) dX4_readPerson_36 (by decide) ?_
        exact x_zret C (Or.inl rfl) dX4_readPerson_37 h
    · refine x_iconst C0 (v := 0) dX4_readPerson_19 (by decide) ?_
      exact x_zret C (Or.inl rfl) dX4_readPerson_20 h
def td_addRows_L2 (N : Nat) (k0 : Nat) (c2_2 : Int32) (c1_2 : Int32) : Nat → Int32 → St → Option (St)
  | 0, _, _ => none
  | n + 1, x3_2, σ2 =>
    if c2_2 ≤ x3_2 then (
      some σ2)
    else (
      if 40 ≤ (σ2.1 k0 4) then (
        some σ2)
      else (
        ck (inb (σ2.1 k0 4) 40) (lt (put σ2 (k0 + 3) (ix (σ2.1 k0 4)) c1_2) fun σ1 =>
        lt (put σ1 k0 4 ((σ1.1 k0 4) + 1)) fun σ2 =>
        lt (x3_2 + 1) fun x3 =>
        (td_addRows_L2 N k0 c2_2 c1_2 n) x3 σ2)))
def td_addRows (N : Nat) (k0 : Nat) (a1 : Int32) (a2 : Int32) (σ : St) : Option (St) :=
  bd1 (td_addRows_L2 N k0 a2 a1 N 0 σ) fun σ4 =>
  some σ4
set_option maxRecDepth 20000 in
theorem w_td_addRows_L2 {l : Launch} {D : va_G} {cA : Nat → ClassId} {π : Nat → Nat} {Γ : Gx St} {σo : St} (C : Cm Γ cX5_addRows RX5 cA 0 0 4 l D π shC none (none, σo)) (N : Nat) (k0 : Nat) (c2_2 : Int32) (c1_2 : Int32) (hk0 : shC[k0]? = some shX5) (yo : St) (kk2 : ∀ σe, σe = yo → Wx Γ σe 42 [] []) : ∀ (n : Nat) (x3_2 : Int32) (σ2 : St), td_addRows_L2 N k0 c2_2 c1_2 n x3_2 σ2 = some yo → Wx Γ σ2 2 [(0, .ref (π k0)), (1, .int c1_2), (2, .int c2_2), (3, .int x3_2)] [] := by
  have C0 := C.1
  intro n
  induction n with
  | zero => intro x3_2 σ2 h; cases h
  | succ n ih =>
    intro x3_2 σ2 h
    rw [td_addRows_L2] at h
    refine x_iload_n C0 dX5_addRows_2 rfl ?_
    refine x_iload_n C0 dX5_addRows_3 rfl ?_
    refine x_icmp_ge C0 (tgt := 42) dX5_addRows_4 (by decide) h (fun h => ?_) (fun h => ?_)
    · exact x_pick [] rfl (kk2 _ (Option.some.inj h))
    · refine x_aload_n C0 dX5_addRows_7 rfl ?_
      refine gt_X5_31 C hk0 dX5_addRows_8 ?_
      refine x_bipush C0 (v := 40) dX5_addRows_11 (by decide) ?_
      refine x_icmp_ge C0 (tgt := 42) dX5_addRows_13 (by decide) h (fun h => ?_) (fun h => ?_)
      · exact x_pick [] rfl (kk2 _ (Option.some.inj h))
      · refine x_aload_n C0 dX5_addRows_16 rfl ?_
        refine gt_X5_18 C hk0 dX5_addRows_17 ?_
        refine x_aload_n C0 dX5_addRows_20 rfl ?_
        refine gt_X5_31 C hk0 dX5_addRows_21 ?_
        refine x_iload_n C0 dX5_addRows_24 rfl ?_
        refine x_iast C (k := (k0 + 3)) (z := 40) (sh_X5_whose hk0) dX5_addRows_25 h (fun σ1 h => ?_)
        refine x_aload_n C0 dX5_addRows_26 rfl ?_
        refine x_dup C0 rfl dX5_addRows_27 ?_
        refine gt_X5_31 C hk0 dX5_addRows_28 ?_
        refine x_iconst C0 (v := 1) dX5_addRows_31 (by decide) ?_
        refine x_iadd C0 dX5_addRows_32 ?_
        refine pt_X5_31 C hk0 dX5_addRows_33 h (fun σ2 h => ?_)
        refine x_iinc C0 (j := 3) (v := 1) (L' := fun x3 => [(3, .int x3), (0, .ref (π k0)), (1, .int c1_2), (2, .int c2_2)]) dX5_addRows_36 rfl (by decide) (by decide) (fun _ => rfl) h (fun x3 h => ?_)
        refine x_goto C0 (tgt := 2) dX5_addRows_39 (by decide) ?_
        exact x_pick [1, 2, 3, 0] rfl (ih _ _ h)
set_option maxRecDepth 20000 in
theorem k_td_addRows {l : Launch} {D : va_G} {cA : Nat → ClassId} {π : Nat → Nat} (N : Nat) (k0 : Nat) (a1 : Int32) (a2 : Int32) (hk0 : shC[k0]? = some shX5) {σ : St} {σo : St} (h : td_addRows N k0 a1 a2 σ = some σo) : Kt l D cA π shC yX5_addRows cX5_addRows 4 none 0 0 [.ref (π k0), .int a1, .int a2] σ none σo := by
  refine Kt.of (by decide) (Nat.le_of_ble_eq_true rfl) (L := [(0, .ref (π k0)), (1, .int a1), (2, .int a2)]) rfl (fun Γ C => ?_)
  have C0 := C.1
  unfold td_addRows at h
  refine x_iconst C0 (v := 0) dX5_addRows_0 (by decide) ?_
  refine x_istore_n C0 (L' := [(3, .int 0), (0, .ref (π k0)), (1, .int a1), (2, .int a2)]) dX5_addRows_1 (by decide) rfl ?_
  obtain ⟨σ4, hL, h⟩ := bd1_some h
  refine x_pick [1, 2, 3, 0] rfl (w_td_addRows_L2 C N k0 a2 a1 hk0 _ (fun b0 e => ?_) N 0 σ hL)
  cases e
  exact x_vret C dX5_addRows_42 h
def tx_readRows (N : Nat) (k1 : Nat) (σ : St) : Option (Int32 × St) :=
  bd2 (tx_readNumber N 0 ((σ.1 k1 3) - 1) σ) fun v2 σ1 =>
  if v2 = 0 then (
    some (0, σ1))
  else (
    lt (σ1.1 1 5) fun x3 =>
    bd2 (tx_readNumber N 1 (mn 20 (40 - (σ1.1 k1 4))) σ1) fun v5 σ4 =>
    if v5 = 0 then (
      some (0, σ4))
    else (
      bd1 (td_addRows N k1 x3 (σ4.1 1 5) σ4) fun σ6 =>
      bd2 (tx_readSemicolon N  σ6) fun v8 σ7 =>
      ck (bz v8) (some (v8, σ7))))
set_option maxRecDepth 20000 in
theorem k_tx_readRows {l : Launch} {D : va_G} {cA : Nat → ClassId} {π : Nat → Nat} (N : Nat) (k1 : Nat) (hk1 : shC[k1]? = some shX5) {σ : St} {vo : Int32} {σo : St} (h : tx_readRows N k1 σ = some (vo, σo)) : Kt l D cA π shC yX4_readRows cX4_readRows 3 (some .boolean) 3 80 [.ref (π 1), .ref (π k1)] σ (some (.int vo)) σo := by
  refine Kt.of (by decide) (Nat.le_of_ble_eq_true rfl) (L := [(0, .ref (π 1)), (1, .ref (π k1))]) rfl (fun Γ C => ?_)
  have C0 := C.1
  unfold tx_readRows at h
  refine x_aload_n C0 dX4_readRows_0 rfl ?_
  refine x_iconst C0 (v := 0) dX4_readRows_1 (by decide) ?_
  refine x_aload_n C0 dX4_readRows_2 rfl ?_
  refine gt_X4_55 C hk1 dX4_readRows_3 ?_
  refine x_iconst C0 (v := 1) dX4_readRows_6 (by decide) ?_
  refine x_isub C0 dX4_readRows_7 ?_
  obtain ⟨v2, σ1, hc, h⟩ := bd2_some h
  refine x_callVi C (k_tx_readNumber N 0 ((σ.1 k1 3) - 1)  hc) umX4_58 ui_X4_readNumber us_X4_readNumber un_X4 uc_X4_readNumber hv_X4_readNumber rfl (by decide) (fks := [4, 0, 0, 0, 0, 0]) rfl rfl dX4_readRows_8 (rest := []) rfl (Nat.le_of_ble_eq_true rfl) ?_
  refine x_if_ne C0 (tgt := 16) dX4_readRows_11 (by decide) h (fun h => ?_) (fun h => ?_)
  · refine x_aload_n C0 dX4_readRows_16 rfl ?_
    refine gt_X4_40 C dX4_readRows_17 ?_
    refine x_nm h (fun x3 h => ?_)
    refine x_istore_n C0 (L' := [(2, .int x3), (0, .ref (π 1)), (1, .ref (π k1))]) dX4_readRows_20 (by decide) rfl ?_
    refine x_aload_n C0 dX4_readRows_21 rfl ?_
    refine x_iconst C0 (v := 1) dX4_readRows_22 (by decide) ?_
    refine x_bipush C0 (v := 20) dX4_readRows_23 (by decide) ?_
    refine x_bipush C0 (v := 40) dX4_readRows_25 (by decide) ?_
    refine x_aload_n C0 dX4_readRows_27 rfl ?_
    refine gt_X4_70 C hk1 dX4_readRows_28 ?_
    refine x_isub C0 dX4_readRows_31 ?_
    refine x_mmin C0 umX4_73 dX4_readRows_32 (Nat.le_of_ble_eq_true rfl) (Nat.le_of_ble_eq_true rfl) ?_
    obtain ⟨v5, σ4, hc, h⟩ := bd2_some h
    refine x_callVi C (k_tx_readNumber N 1 (mn 20 (40 - (σ1.1 k1 4)))  hc) umX4_58 ui_X4_readNumber us_X4_readNumber un_X4 uc_X4_readNumber hv_X4_readNumber rfl (by decide) (fks := [4, 0, 0, 0, 0, 0]) rfl rfl dX4_readRows_35 (rest := []) rfl (Nat.le_of_ble_eq_true rfl) ?_
    refine x_if_ne C0 (tgt := 43) dX4_readRows_38 (by decide) h (fun h => ?_) (fun h => ?_)
    · refine x_aload_n C0 dX4_readRows_43 rfl ?_
      refine x_iload_n C0 dX4_readRows_44 rfl ?_
      refine x_aload_n C0 dX4_readRows_45 rfl ?_
      refine gt_X4_40 C dX4_readRows_46 ?_
      obtain ⟨σ6, hc, h⟩ := bd1_some h
      refine x_callVv C (k_td_addRows N k1 x3 (σ4.1 1 5) hk1 hc) umX4_79 ui_X5_addRows us_X5_addRows un_X5 uc_X5_addRows hv_X5_addRows rfl (by decide) hk1 rfl dX4_readRows_49 (rest := []) rfl (Nat.le_of_ble_eq_true rfl) ?_
      refine x_aload_n C0 dX4_readRows_52 rfl ?_
      obtain ⟨v8, σ7, hc, h⟩ := bd2_some h
      refine x_callVi C (k_tx_readSemicolon N  hc) umX4_66 ui_X4_readSemicolon us_X4_readSemicolon un_X4 uc_X4_readSemicolon hv_X4_readSemicolon rfl (by decide) (fks := [4, 0, 0, 0, 0, 0]) rfl rfl dX4_readRows_53 (rest := []) rfl (Nat.le_of_ble_eq_true rfl) ?_
      refine x_chk h (fun q h => ?_)
      exact x_zret C (bz_or q) dX4_readRows_56 h
    · refine x_iconst C0 (v := 0) dX4_readRows_41 (by decide) ?_
      exact x_zret C (Or.inl rfl) dX4_readRows_42 h
  · refine x_iconst C0 (v := 0) dX4_readRows_14 (by decide) ?_
    exact x_zret C (Or.inl rfl) dX4_readRows_15 h
def tx_readSlack (N : Nat) (k1 : Nat) (σ : St) : Option (Int32 × St) :=
  if (σ.1 k1 8) = 0 then (
    bd2 (tx_readNumber N 0 30 σ) fun v2 σ1 =>
    if v2 = 0 then (
      some (0, σ1))
    else (
      lt (put σ1 k1 6 (σ1.1 1 5)) fun σ3 =>
      lt (put σ3 k1 8 1) fun σ4 =>
      bd2 (tx_readSemicolon N  σ4) fun v6 σ5 =>
      ck (bz v6) (some (v6, σ5))))
  else (
    some (0, σ))
set_option maxRecDepth 20000 in
theorem k_tx_readSlack {l : Launch} {D : va_G} {cA : Nat → ClassId} {π : Nat → Nat} (N : Nat) (k1 : Nat) (hk1 : shC[k1]? = some shX5) {σ : St} {vo : Int32} {σo : St} (h : tx_readSlack N k1 σ = some (vo, σo)) : Kt l D cA π shC yX4_readSlack cX4_readSlack 2 (some .boolean) 3 64 [.ref (π 1), .ref (π k1)] σ (some (.int vo)) σo := by
  refine Kt.of (by decide) (Nat.le_of_ble_eq_true rfl) (L := [(0, .ref (π 1)), (1, .ref (π k1))]) rfl (fun Γ C => ?_)
  have C0 := C.1
  unfold tx_readSlack at h
  refine x_aload_n C0 dX4_readSlack_0 rfl ?_
  refine gt_X4_89 C hk1 dX4_readSlack_1 ?_
  refine x_if_ne C0 (tgt := 17) dX4_readSlack_4 (by decide) h (fun h => ?_) (fun h => ?_)
  · refine x_iconst C0 (v := 0) dX4_readSlack_17 (by decide) ?_
    exact x_zret C (Or.inl rfl) dX4_readSlack_18 h
  · refine x_aload_n C0 dX4_readSlack_7 rfl ?_
    refine x_iconst C0 (v := 0) dX4_readSlack_8 (by decide) ?_
    refine x_bipush C0 (v := 30) dX4_readSlack_9 (by decide) ?_
    obtain ⟨v2, σ1, hc, h⟩ := bd2_some h
    refine x_callVi C (k_tx_readNumber N 0 30  hc) umX4_58 ui_X4_readNumber us_X4_readNumber un_X4 uc_X4_readNumber hv_X4_readNumber rfl (by decide) (fks := [4, 0, 0, 0, 0, 0]) rfl rfl dX4_readSlack_11 (rest := []) rfl (Nat.le_of_ble_eq_true rfl) ?_
    refine x_if_ne C0 (tgt := 19) dX4_readSlack_14 (by decide) h (fun h => ?_) (fun h => ?_)
    · refine x_aload_n C0 dX4_readSlack_19 rfl ?_
      refine x_aload_n C0 dX4_readSlack_20 rfl ?_
      refine gt_X4_40 C dX4_readSlack_21 ?_
      refine pt_X4_92 C hk1 dX4_readSlack_24 h (fun σ3 h => ?_)
      refine x_aload_n C0 dX4_readSlack_27 rfl ?_
      refine x_iconst C0 (v := 1) dX4_readSlack_28 (by decide) ?_
      refine pt_X4_89 C hk1 (Or.inr rfl) dX4_readSlack_29 h (fun σ4 h => ?_)
      refine x_aload_n C0 dX4_readSlack_32 rfl ?_
      obtain ⟨v6, σ5, hc, h⟩ := bd2_some h
      refine x_callVi C (k_tx_readSemicolon N  hc) umX4_66 ui_X4_readSemicolon us_X4_readSemicolon un_X4 uc_X4_readSemicolon hv_X4_readSemicolon rfl (by decide) (fks := [4, 0, 0, 0, 0, 0]) rfl rfl dX4_readSlack_33 (rest := []) rfl (Nat.le_of_ble_eq_true rfl) ?_
      refine x_chk h (fun q h => ?_)
      exact x_zret C (bz_or q) dX4_readSlack_36 h
    · refine x_iconst C0 (v := 0) dX4_readSlack_17 (by decide) ?_
      exact x_zret C (Or.inl rfl) dX4_readSlack_18 h
def tx_readItem (N : Nat) (k1 : Nat) (σ : St) : Option (Int32 × St) :=
  if (σ.1 1 4) = 1 then (
    if (σ.1 1 5) = 103 then (
      bd2 (tx_readGap N k1 σ) fun v2 σ1 =>
      ck (bz v2) (some (v2, σ1)))
    else (
      if (σ.1 1 5) = 107 then (
        bd2 (tx_readRows N k1 σ) fun v4 σ3 =>
        ck (bz v4) (some (v4, σ3)))
      else (
        if (σ.1 1 5) = 112 then (
          bd2 (tx_readPerson N k1 σ) fun v6 σ5 =>
          ck (bz v6) (some (v6, σ5)))
        else (
          if (σ.1 1 5) = 115 then (
            bd2 (tx_readSlack N k1 σ) fun v8 σ7 =>
            ck (bz v8) (some (v8, σ7)))
          else (
            some (0, σ))))))
  else (
    some (0, σ))
set_option maxRecDepth 20000 in
theorem k_tx_readItem {l : Launch} {D : va_G} {cA : Nat → ClassId} {π : Nat → Nat} (N : Nat) (k1 : Nat) (hk1 : shC[k1]? = some shX5) {σ : St} {vo : Int32} {σo : St} (h : tx_readItem N k1 σ = some (vo, σo)) : Kt l D cA π shC yX4_readItem cX4_readItem 2 (some .boolean) 4 102 [.ref (π 1), .ref (π k1)] σ (some (.int vo)) σo := by
  refine Kt.of (by decide) (Nat.le_of_ble_eq_true rfl) (L := [(0, .ref (π 1)), (1, .ref (π k1))]) rfl (fun Γ C => ?_)
  have C0 := C.1
  unfold tx_readItem at h
  refine x_aload_n C0 dX4_readItem_0 rfl ?_
  refine gt_X4_30 C dX4_readItem_1 ?_
  refine x_iconst C0 (v := 1) dX4_readItem_4 (by decide) ?_
  refine x_icmp_eq C0 (tgt := 10) dX4_readItem_5 (by decide) h (fun h => ?_) (fun h => ?_)
  · refine x_aload_n C0 dX4_readItem_10 rfl ?_
    refine gt_X4_40 C dX4_readItem_11 ?_
    refine x_case 103 h (fun q h => ?_) (fun q0 h => ?_)
    · refine x_lks C0 (tgt := 68) (off := 54) dX4_readItem_14 (by decide) (by rw [q]; rfl) (by decide) ?_
      refine x_aload_n C0 dX4_readItem_68 rfl ?_
      refine x_aload_n C0 dX4_readItem_69 rfl ?_
      obtain ⟨v2, σ1, hc, h⟩ := bd2_some h
      refine x_callVi C (k_tx_readGap N k1 hk1 hc) umX4_49 ui_X4_readGap us_X4_readGap un_X4 uc_X4_readGap hv_X4_readGap rfl (by decide) (fks := [4, 0, 0, 0, 0, 0]) rfl rfl dX4_readItem_70 (rest := []) rfl (Nat.le_of_ble_eq_true rfl) ?_
      refine x_chk h (fun q h => ?_)
      exact x_zret C (bz_or q) dX4_readItem_73 h
    · refine x_case 107 h (fun q h => ?_) (fun q1 h => ?_)
      · refine x_lks C0 (tgt := 62) (off := 48) dX4_readItem_14 (by decide) (by rw [q]; rfl) (by decide) ?_
        refine x_aload_n C0 dX4_readItem_62 rfl ?_
        refine x_aload_n C0 dX4_readItem_63 rfl ?_
        obtain ⟨v4, σ3, hc, h⟩ := bd2_some h
        refine x_callVi C (k_tx_readRows N k1 hk1 hc) umX4_46 ui_X4_readRows us_X4_readRows un_X4 uc_X4_readRows hv_X4_readRows rfl (by decide) (fks := [4, 0, 0, 0, 0, 0]) rfl rfl dX4_readItem_64 (rest := []) rfl (Nat.le_of_ble_eq_true rfl) ?_
        refine x_chk h (fun q h => ?_)
        exact x_zret C (bz_or q) dX4_readItem_67 h
      · refine x_case 112 h (fun q h => ?_) (fun q2 h => ?_)
        · refine x_lks C0 (tgt := 56) (off := 42) dX4_readItem_14 (by decide) (by rw [q]; rfl) (by decide) ?_
          refine x_aload_n C0 dX4_readItem_56 rfl ?_
          refine x_aload_n C0 dX4_readItem_57 rfl ?_
          obtain ⟨v6, σ5, hc, h⟩ := bd2_some h
          refine x_callVi C (k_tx_readPerson N k1 hk1 hc) umX4_43 ui_X4_readPerson us_X4_readPerson un_X4 uc_X4_readPerson hv_X4_readPerson rfl (by decide) (fks := [4, 0, 0, 0, 0, 0]) rfl rfl dX4_readItem_58 (rest := []) rfl (Nat.le_of_ble_eq_true rfl) ?_
          refine x_chk h (fun q h => ?_)
          exact x_zret C (bz_or q) dX4_readItem_61 h
        · refine x_case 115 h (fun q h => ?_) (fun q3 h => ?_)
          · refine x_lks C0 (tgt := 74) (off := 60) dX4_readItem_14 (by decide) (by rw [q]; rfl) (by decide) ?_
            refine x_aload_n C0 dX4_readItem_74 rfl ?_
            refine x_aload_n C0 dX4_readItem_75 rfl ?_
            obtain ⟨v8, σ7, hc, h⟩ := bd2_some h
            refine x_callVi C (k_tx_readSlack N k1 hk1 hc) umX4_52 ui_X4_readSlack us_X4_readSlack un_X4 uc_X4_readSlack hv_X4_readSlack rfl (by decide) (fks := [4, 0, 0, 0, 0, 0]) rfl rfl dX4_readItem_76 (rest := []) rfl (Nat.le_of_ble_eq_true rfl) ?_
            refine x_chk h (fun q h => ?_)
            exact x_zret C (bz_or q) dX4_readItem_79 h
          · refine x_lks C0 (tgt := 80) (off := 66) dX4_readItem_14 (by decide) (by show Op.lookupswitch.offset [(103, 54), (107, 48), (112, 42), (115, 60)] 66 _ = _; rw [lv_osw q0 (show (103 : Int32).toInt = 103 from rfl), lv_osw q1 (show (107 : Int32).toInt = 107 from rfl), lv_osw q2 (show (112 : Int32).toInt = 112 from rfl), lv_osw q3 (show (115 : Int32).toInt = 115 from rfl)]; rfl) (by decide) ?_
            refine x_iconst C0 (v := 0) dX4_readItem_80 (by decide) ?_
            exact x_zret C (Or.inl rfl) dX4_readItem_81 h
  · refine x_iconst C0 (v := 0) dX4_readItem_8 (by decide) ?_
    exact x_zret C (Or.inl rfl) dX4_readItem_9 h
def td_startAnew (N : Nat) (k0 : Nat) (σ : St) : Option (St) :=
  lt (put σ k0 3 0) fun σ1 =>
  lt (put σ1 k0 4 0) fun σ2 =>
  lt (put σ2 k0 5 6) fun σ3 =>
  lt (put σ3 k0 6 6) fun σ4 =>
  lt (put σ4 k0 7 0) fun σ5 =>
  lt (put σ5 k0 8 0) fun σ6 =>
  some σ6
set_option maxRecDepth 20000 in
theorem k_td_startAnew {l : Launch} {D : va_G} {cA : Nat → ClassId} {π : Nat → Nat} (N : Nat) (k0 : Nat) (hk0 : shC[k0]? = some shX5) {σ : St} {σo : St} (h : td_startAnew N k0 σ = some σo) : Kt l D cA π shC yX5_startAnew cX5_startAnew 1 none 0 0 [.ref (π k0)] σ none σo := by
  refine Kt.of (by decide) (Nat.le_of_ble_eq_true rfl) (L := [(0, .ref (π k0))]) rfl (fun Γ C => ?_)
  have C0 := C.1
  unfold td_startAnew at h
  refine x_aload_n C0 dX5_startAnew_0 rfl ?_
  refine x_iconst C0 (v := 0) dX5_startAnew_1 (by decide) ?_
  refine pt_X5_28 C hk0 dX5_startAnew_2 h (fun σ1 h => ?_)
  refine x_aload_n C0 dX5_startAnew_5 rfl ?_
  refine x_iconst C0 (v := 0) dX5_startAnew_6 (by decide) ?_
  refine pt_X5_31 C hk0 dX5_startAnew_7 h (fun σ2 h => ?_)
  refine x_aload_n C0 dX5_startAnew_10 rfl ?_
  refine x_bipush C0 (v := 6) dX5_startAnew_11 (by decide) ?_
  refine pt_X5_21 C hk0 dX5_startAnew_13 h (fun σ3 h => ?_)
  refine x_aload_n C0 dX5_startAnew_16 rfl ?_
  refine x_bipush C0 (v := 6) dX5_startAnew_17 (by decide) ?_
  refine pt_X5_25 C hk0 dX5_startAnew_19 h (fun σ4 h => ?_)
  refine x_aload_n C0 dX5_startAnew_22 rfl ?_
  refine x_iconst C0 (v := 0) dX5_startAnew_23 (by decide) ?_
  refine pt_X5_34 C hk0 (Or.inl rfl) dX5_startAnew_24 h (fun σ5 h => ?_)
  refine x_aload_n C0 dX5_startAnew_27 rfl ?_
  refine x_iconst C0 (v := 0) dX5_startAnew_28 (by decide) ?_
  refine pt_X5_38 C hk0 (Or.inl rfl) dX5_startAnew_29 h (fun σ6 h => ?_)
  exact x_vret C dX5_startAnew_32 h
def tx_readInto_L15 (N : Nat) (k1 : Nat) : Nat → Int32 → St → Option (Int32 × St)
  | 0, _, _ => none
  | n + 1, x2_15, σ15 =>
    if 150 ≤ x2_15 then (
      some (x2_15, σ15))
    else (
      if (σ15.1 1 4) = 0 then (
        some (x2_15, σ15))
      else (
        bd2 (tx_readItem N k1 σ15) fun v5 σ4 =>
        if v5 = 0 then (
          some (((-10) - (σ4.1 1 3)), σ4))
        else (
          lt (x2_15 + 1) fun x6 =>
          bd1 (tx_advance N  σ4) fun σ7 =>
          (tx_readInto_L15 N k1 n) x6 σ7)))
def tx_readInto (N : Nat) (k1 : Nat) (σ : St) : Option (Int32 × St) :=
  bd1 (td_startAnew N k1 σ) fun σ1 =>
  lt (put σ1 1 2 0) fun σ2 =>
  bd1 (tx_advance N  σ2) fun σ3 =>
  tx_readInto_L15 N k1 N 0 σ3
set_option maxRecDepth 20000 in
theorem w_tx_readInto_L15 {l : Launch} {D : va_G} {cA : Nat → ClassId} {π : Nat → Nat} {Γ : Gx St} {vo : Int32} {σo : St} (C : Cm Γ cX4_readInto RX4 cA 5 123 3 l D π shC (some .int) (some (.int vo), σo)) (N : Nat) (k1 : Nat) (hk1 : shC[k1]? = some shX5) : ∀ (n : Nat) (x2_15 : Int32) (σ15 : St), tx_readInto_L15 N k1 n x2_15 σ15 = some (vo, σo) → Wx Γ σ15 15 [(0, .ref (π 1)), (1, .ref (π k1)), (2, .int x2_15)] [] := by
  have C0 := C.1
  intro n
  induction n with
  | zero => intro x2_15 σ15 h; cases h
  | succ n ih =>
    intro x2_15 σ15 h
    rw [tx_readInto_L15] at h
    refine x_iload_n C0 dX4_readInto_15 rfl ?_
    refine x_sipush C0 (v := 150) dX4_readInto_16 (by decide) ?_
    refine x_icmp_ge C0 (tgt := 55) dX4_readInto_19 (by decide) h (fun h => ?_) (fun h => ?_)
    · refine x_iload_n C0 dX4_readInto_55 rfl ?_
      exact x_iret C dX4_readInto_56 h
    · refine x_aload_n C0 dX4_readInto_22 rfl ?_
      refine gt_X4_30 C dX4_readInto_23 ?_
      refine x_if_eq C0 (tgt := 55) dX4_readInto_26 (by decide) h (fun h => ?_) (fun h => ?_)
      · refine x_iload_n C0 dX4_readInto_55 rfl ?_
        exact x_iret C dX4_readInto_56 h
      · refine x_aload_n C0 dX4_readInto_29 rfl ?_
        refine x_aload_n C0 dX4_readInto_30 rfl ?_
        obtain ⟨v5, σ4, hc, h⟩ := bd2_some h
        refine x_callVi C (k_tx_readItem N k1 hk1 hc) umX4_33 ui_X4_readItem us_X4_readItem un_X4 uc_X4_readItem hv_X4_readItem rfl (by decide) (fks := [4, 0, 0, 0, 0, 0]) rfl rfl dX4_readInto_31 (rest := []) rfl (Nat.le_of_ble_eq_true rfl) ?_
        refine x_if_ne C0 (tgt := 45) dX4_readInto_34 (by decide) h (fun h => ?_) (fun h => ?_)
        · refine x_iinc C0 (j := 2) (v := 1) (L' := fun x6 => [(2, .int x6), (0, .ref (π 1)), (1, .ref (π k1))]) dX4_readInto_45 rfl (by decide) (by decide) (fun _ => rfl) h (fun x6 h => ?_)
          refine x_aload_n C0 dX4_readInto_48 rfl ?_
          obtain ⟨σ7, hc, h⟩ := bd1_some h
          refine x_callVv C (k_tx_advance N  hc) umX4_27 ui_X4_advance us_X4_advance un_X4 uc_X4_advance hv_X4_advance rfl (by decide) (fks := [4, 0, 0, 0, 0, 0]) rfl rfl dX4_readInto_49 (rest := []) rfl (Nat.le_of_ble_eq_true rfl) ?_
          refine x_goto C0 (tgt := 15) dX4_readInto_52 (by decide) ?_
          exact x_pick [1, 2, 0] rfl (ih _ _ h)
        · refine x_bipush C0 (v := (-10)) dX4_readInto_37 (by decide) ?_
          refine x_aload_n C0 dX4_readInto_39 rfl ?_
          refine gt_X4_37 C dX4_readInto_40 ?_
          refine x_isub C0 dX4_readInto_43 ?_
          exact x_iret C dX4_readInto_44 h
set_option maxRecDepth 20000 in
theorem k_tx_readInto {l : Launch} {D : va_G} {cA : Nat → ClassId} {π : Nat → Nat} (N : Nat) (k1 : Nat) (hk1 : shC[k1]? = some shX5) {σ : St} {vo : Int32} {σo : St} (h : tx_readInto N k1 σ = some (vo, σo)) : Kt l D cA π shC yX4_readInto cX4_readInto 3 (some .int) 5 123 [.ref (π 1), .ref (π k1)] σ (some (.int vo)) σo := by
  refine Kt.of (by decide) (Nat.le_of_ble_eq_true rfl) (L := [(0, .ref (π 1)), (1, .ref (π k1))]) rfl (fun Γ C => ?_)
  have C0 := C.1
  unfold tx_readInto at h
  refine x_aload_n C0 dX4_readInto_0 rfl ?_
  obtain ⟨σ1, hc, h⟩ := bd1_some h
  refine x_callVv C (k_td_startAnew N k1 hk1 hc) umX4_19 ui_X5_startAnew us_X5_startAnew un_X5 uc_X5_startAnew hv_X5_startAnew rfl (by decide) hk1 rfl dX4_readInto_1 (rest := []) rfl (Nat.le_of_ble_eq_true rfl) ?_
  refine x_aload_n C0 dX4_readInto_4 rfl ?_
  refine x_iconst C0 (v := 0) dX4_readInto_5 (by decide) ?_
  refine pt_X4_24 C dX4_readInto_6 h (fun σ2 h => ?_)
  refine x_iconst C0 (v := 0) dX4_readInto_9 (by decide) ?_
  refine x_istore_n C0 (L' := [(2, .int 0), (0, .ref (π 1)), (1, .ref (π k1))]) dX4_readInto_10 (by decide) rfl ?_
  refine x_aload_n C0 dX4_readInto_11 rfl ?_
  obtain ⟨σ3, hc, h⟩ := bd1_some h
  refine x_callVv C (k_tx_advance N  hc) umX4_27 ui_X4_advance us_X4_advance un_X4 uc_X4_advance hv_X4_advance rfl (by decide) (fks := [4, 0, 0, 0, 0, 0]) rfl rfl dX4_readInto_12 (rest := []) rfl (Nat.le_of_ble_eq_true rfl) ?_
  exact x_pick [1, 2, 0] rfl (w_tx_readInto_L15 C N k1 hk1 N 0 σ3 h)
def wb_gorge_L65 (N : Nat) (c1_65 : Int32) : Nat → Int32 → St → Option (St)
  | 0, _, _ => none
  | n + 1, x3_65, σ65 =>
    if 2 ≤ x3_65 then (
      some σ65)
    else (
      ck (inb x3_65 2) (lt (put σ65 118 (ix x3_65) (vp_nar .boolean 0)) fun σ14 =>
      lt (x3_65 + 1) fun x15 =>
      (wb_gorge_L65 N c1_65 n) x15 σ14))
def wb_gorge (N : Nat) (σ : St) : Option (Int32 × St) :=
  lt (ix (σ.1 0 7)) fun r1 => ck (isTd r1) (
  bd2 (tx_readInto N r1 σ) fun v3 σ2 =>
  if 0 ≤ v3 then (
    lt (ix (σ2.1 0 6)) fun r4 => ck (isTd r4) (
    lt (ix (σ2.1 0 7)) fun r5 => ck (isTd r5) (
    lt (put σ2 0 6 (nI r5)) fun σ6 =>
    lt (put σ6 0 7 (nI r4)) fun σ7 =>
    bd2 (tx_empty N  σ7) fun v9 σ8 =>
    lt (ix (σ8.1 0 6)) fun r10 => ck (isTd r10) (
    bd1 (ps_startFrom N 3 r10 σ8) fun σ11 =>
    bd2 (pl_empty N  σ11) fun v13 σ12 =>
    bd1 (wb_gorge_L65 N v3 N 0 σ12) fun σ16 =>
    some (v3, σ16)))))
  else (
    some (v3, σ2)))
set_option maxRecDepth 20000 in
theorem w_wb_gorge_L65 {l : Launch} {D : va_G} {cA : Nat → ClassId} {π : Nat → Nat} {Γ : Gx St} {vo : Int32} {σo : St} (C : Cm Γ cX6_gorge RX6 cA 6 171 4 l D π shC (some .int) (some (.int vo), σo)) (N : Nat) (c1_65 : Int32)  (yo : St) (kk65 : ∀ σe, σe = yo → Wx Γ σe 83 [(1, .int c1_65)] []) : ∀ (n : Nat) (x3_65 : Int32) (σ65 : St), wb_gorge_L65 N c1_65 n x3_65 σ65 = some yo → Wx Γ σ65 65 [(0, .ref (π 0)), (1, .int c1_65), (3, .int x3_65)] [] := by
  have C0 := C.1
  intro n
  induction n with
  | zero => intro x3_65 σ65 h; cases h
  | succ n ih =>
    intro x3_65 σ65 h
    rw [wb_gorge_L65] at h
    refine x_iload_n C0 dX6_gorge_65 rfl ?_
    refine x_iconst C0 (v := 2) dX6_gorge_66 (by decide) ?_
    refine x_icmp_ge C0 (tgt := 83) dX6_gorge_67 (by decide) h (fun h => ?_) (fun h => ?_)
    · exact x_pick [1] rfl (kk65 _ (Option.some.inj h))
    · refine x_aload_n C0 dX6_gorge_70 rfl ?_
      refine gt_X6_27 C dX6_gorge_71 ?_
      refine x_iload_n C0 dX6_gorge_74 rfl ?_
      refine x_iconst C0 (v := 0) dX6_gorge_75 (by decide) ?_
      refine x_zast C (k := 118) (z := 2) rfl dX6_gorge_76 h (fun σ14 h => ?_)
      refine x_iinc C0 (j := 2) (v := 1) (L' := fun x15 => [(3, .int x15), (0, .ref (π 0)), (1, .int c1_65)]) dX6_gorge_77 rfl (by decide) (by decide) (fun _ => rfl) h (fun x15 h => ?_)
      refine x_goto C0 (tgt := 65) dX6_gorge_80 (by decide) ?_
      exact x_pick [1, 2, 0] rfl (ih _ _ h)
set_option maxRecDepth 20000 in
theorem k_wb_gorge {l : Launch} {D : va_G} {cA : Nat → ClassId} {π : Nat → Nat} (N : Nat)  {σ : St} {vo : Int32} {σo : St} (h : wb_gorge N σ = some (vo, σo)) : Kt l D cA π shC yX6_gorge cX6_gorge 4 (some .int) 6 171 [.ref (π 0)] σ (some (.int vo)) σo := by
  refine Kt.of (by decide) (Nat.le_of_ble_eq_true rfl) (L := [(0, .ref (π 0))]) rfl (fun Γ C => ?_)
  have C0 := C.1
  unfold wb_gorge at h
  refine x_aload_n C0 dX6_gorge_0 rfl ?_
  refine gt_X6_10 C dX6_gorge_1 ?_
  refine x_aload_n C0 dX6_gorge_4 rfl ?_
  refine gt_X6_52 C dX6_gorge_5 ?_
  refine x_nmr h (fun r1 h => ?_)
  refine x_chk h (fun q h => ?_)
  have hr1 := isTd_sh q
  obtain ⟨v3, σ2, hc, h⟩ := bd2_some h
  refine x_callVi C (k_tx_readInto N r1 hr1 hc) umX6_71 ui_X4_readInto us_X4_readInto un_X4 uc_X4_readInto hv_X4_readInto rfl (by decide) (fks := [4, 0, 0, 0, 0, 0]) rfl rfl dX6_gorge_8 (rest := []) rfl (Nat.le_of_ble_eq_true rfl) ?_
  refine x_istore_n C0 (L' := [(1, .int v3), (0, .ref (π 0))]) dX6_gorge_11 (by decide) rfl ?_
  refine x_iload_n C0 dX6_gorge_12 rfl ?_
  refine x_if_ge C0 (tgt := 18) dX6_gorge_13 (by decide) h (fun h => ?_) (fun h => ?_)
  · refine x_aload_n C0 dX6_gorge_18 rfl ?_
    refine gt_X6_48 C dX6_gorge_19 ?_
    refine x_nmr h (fun r4 h => ?_)
    refine x_chk h (fun q h => ?_)
    have hr4 := isTd_sh q
    refine x_astore_n C0 (L' := [(2, .ref (π r4)), (1, .int v3), (0, .ref (π 0))]) dX6_gorge_22 (by decide) rfl ?_
    refine x_aload_n C0 dX6_gorge_23 rfl ?_
    refine x_aload_n C0 dX6_gorge_24 rfl ?_
    refine gt_X6_52 C dX6_gorge_25 ?_
    refine x_nmr h (fun r5 h => ?_)
    refine x_chk h (fun q h => ?_)
    have hr5 := isTd_sh q
    refine pt_X6_48 C (v := nI r5) (ix_nI (shC_lt hr5)) dX6_gorge_28 h (fun σ6 h => ?_)
    refine x_aload_n C0 dX6_gorge_31 rfl ?_
    refine x_aload_n C0 dX6_gorge_32 rfl ?_
    refine pt_X6_52 C (v := nI r4) (ix_nI (shC_lt hr4)) dX6_gorge_33 h (fun σ7 h => ?_)
    refine x_aload_n C0 dX6_gorge_36 rfl ?_
    refine gt_X6_10 C dX6_gorge_37 ?_
    obtain ⟨v9, σ8, hc, h⟩ := bd2_some h
    refine x_callVi C (k_tx_empty N  hc) umX6_67 ui_X4_empty us_X4_empty un_X4 uc_X4_empty hv_X4_empty rfl (by decide) (fks := [4, 0, 0, 0, 0, 0]) rfl rfl dX6_gorge_40 (rest := []) rfl (Nat.le_of_ble_eq_true rfl) ?_
    refine x_pop C0 rfl dX6_gorge_43 ?_
    refine x_aload_n C0 dX6_gorge_44 rfl ?_
    refine gt_X6_19 C dX6_gorge_45 ?_
    refine x_aload_n C0 dX6_gorge_48 rfl ?_
    refine gt_X6_48 C dX6_gorge_49 ?_
    refine x_nmr h (fun r10 h => ?_)
    refine x_chk h (fun q h => ?_)
    have hr10 := isTd_sh q
    obtain ⟨σ11, hc, h⟩ := bd1_some h
    refine x_callVv C (k_ps_startFrom N 3 r10 rfl hr10 hc) umX6_75 ui_X1_startFrom us_X1_startFrom un_X1 uc_X1_startFrom hv_X1_startFrom rfl (by decide) rfl rfl dX6_gorge_52 (rest := []) rfl (Nat.le_of_ble_eq_true rfl) ?_
    refine x_aload_n C0 dX6_gorge_55 rfl ?_
    refine gt_X6_34 C dX6_gorge_56 ?_
    obtain ⟨v13, σ12, hc, h⟩ := bd2_some h
    refine x_callVi C (k_pl_empty N  hc) umX6_79 ui_X2_empty us_X2_empty un_X2 uc_X2_empty hv_X2_empty rfl (by decide) (fks := [4, 5, 0]) rfl rfl dX6_gorge_59 (rest := []) rfl (Nat.le_of_ble_eq_true rfl) ?_
    refine x_pop C0 rfl dX6_gorge_62 ?_
    refine x_iconst C0 (v := 0) dX6_gorge_63 (by decide) ?_
    refine x_istore_n C0 (L' := [(3, .int 0), (2, .ref (π r4)), (1, .int v3), (0, .ref (π 0))]) dX6_gorge_64 (by decide) rfl ?_
    obtain ⟨σ16, hL, h⟩ := bd1_some h
    refine x_pick [3, 2, 0] rfl (w_wb_gorge_L65 C N v3 _ (fun b0 e => ?_) N 0 σ12 hL)
    cases e
    refine x_iload_n C0 dX6_gorge_83 rfl ?_
    exact x_iret C dX6_gorge_84 h
  · refine x_iload_n C0 dX6_gorge_16 rfl ?_
    exact x_iret C dX6_gorge_17 h
def sp_share_L4 (N : Nat) (k0 : Nat) (c1_4 : Int32) : Nat → Int32 → Int32 → St → Option (Int32 × St)
  | 0, _, _, _ => none
  | n + 1, x2_4, x3_4, σ4 =>
    if (σ4.1 k0 3) ≤ x3_4 then (
      some (x2_4, σ4))
    else (
      ck (inb x3_4 40) (
      if (σ4.1 (k0 + 1) (ix x3_4)) = c1_4 then (
        lt (x2_4 + 1) fun x2 =>
        lt (x3_4 + 1) fun x3 =>
        (sp_share_L4 N k0 c1_4 n) x2 x3 σ4)
      else (
        lt (x3_4 + 1) fun x1 =>
        (sp_share_L4 N k0 c1_4 n) x2_4 x1 σ4)))
def sp_share (N : Nat) (k0 : Nat) (a1 : Int32) (σ : St) : Option (Int32 × St) :=
  bd2 (sp_share_L4 N k0 a1 N 0 0 σ) fun x4 σ5 =>
  some (x4, σ5)
set_option maxRecDepth 20000 in
theorem w_sp_share_L4 {l : Launch} {D : va_G} {cA : Nat → ClassId} {π : Nat → Nat} {Γ : Gx St} {vo : Int32} {σo : St} (C : Cm Γ cX3_share RX3 cA 0 0 4 l D π shC (some .int) (some (.int vo), σo)) (N : Nat) (k0 : Nat) (c1_4 : Int32) (hk0 : shC[k0]? = some shX3) (yo : Int32 × St) (kk4 : ∀ e2_4 σe, (e2_4, σe) = yo → Wx Γ σe 31 [(2, .int e2_4)] []) : ∀ (n : Nat) (x2_4 : Int32) (x3_4 : Int32) (σ4 : St), sp_share_L4 N k0 c1_4 n x2_4 x3_4 σ4 = some yo → Wx Γ σ4 4 [(0, .ref (π k0)), (1, .int c1_4), (2, .int x2_4), (3, .int x3_4)] [] := by
  have C0 := C.1
  intro n
  induction n with
  | zero => intro x2_4 x3_4 σ4 h; cases h
  | succ n ih =>
    intro x2_4 x3_4 σ4 h
    rw [sp_share_L4] at h
    refine x_iload_n C0 dX3_share_4 rfl ?_
    refine x_aload_n C0 dX3_share_5 rfl ?_
    refine gt_X3_21 C hk0 dX3_share_6 ?_
    refine x_icmp_ge C0 (tgt := 31) dX3_share_9 (by decide) h (fun h => ?_) (fun h => ?_)
    · exact x_pick [2] rfl (kk4 _ _ (Option.some.inj h))
    · refine x_aload_n C0 dX3_share_12 rfl ?_
      refine gt_X3_9 C hk0 dX3_share_13 ?_
      refine x_iload_n C0 dX3_share_16 rfl ?_
      refine x_iald C (k := (k0 + 1)) (z := 40) (sh_X3_whose hk0) dX3_share_17 h (fun h => ?_)
      refine x_iload_n C0 dX3_share_18 rfl ?_
      refine x_icmp_ne C0 (tgt := 25) dX3_share_19 (by decide) h (fun h => ?_) (fun h => ?_)
      · refine x_iinc C0 (j := 3) (v := 1) (L' := fun x1 => [(3, .int x1), (0, .ref (π k0)), (1, .int c1_4), (2, .int x2_4)]) dX3_share_25 rfl (by decide) (by decide) (fun _ => rfl) h (fun x1 h => ?_)
        refine x_goto C0 (tgt := 4) dX3_share_28 (by decide) ?_
        exact x_pick [1, 2, 3, 0] rfl (ih _ _ _ h)
      · refine x_iinc C0 (j := 2) (v := 1) (L' := fun x2 => [(2, .int x2), (0, .ref (π k0)), (1, .int c1_4), (3, .int x3_4)]) dX3_share_22 rfl (by decide) (by decide) (fun _ => rfl) h (fun x2 h => ?_)
        refine x_iinc C0 (j := 3) (v := 1) (L' := fun x3 => [(3, .int x3), (2, .int x2), (0, .ref (π k0)), (1, .int c1_4)]) dX3_share_25 rfl (by decide) (by decide) (fun _ => rfl) h (fun x3 h => ?_)
        refine x_goto C0 (tgt := 4) dX3_share_28 (by decide) ?_
        exact x_pick [2, 3, 1, 0] rfl (ih _ _ _ h)
set_option maxRecDepth 20000 in
theorem k_sp_share {l : Launch} {D : va_G} {cA : Nat → ClassId} {π : Nat → Nat} (N : Nat) (k0 : Nat) (a1 : Int32) (hk0 : shC[k0]? = some shX3) {σ : St} {vo : Int32} {σo : St} (h : sp_share N k0 a1 σ = some (vo, σo)) : Kt l D cA π shC yX3_share cX3_share 4 (some .int) 0 0 [.ref (π k0), .int a1] σ (some (.int vo)) σo := by
  refine Kt.of (by decide) (Nat.le_of_ble_eq_true rfl) (L := [(0, .ref (π k0)), (1, .int a1)]) rfl (fun Γ C => ?_)
  have C0 := C.1
  unfold sp_share at h
  refine x_iconst C0 (v := 0) dX3_share_0 (by decide) ?_
  refine x_istore_n C0 (L' := [(2, .int 0), (0, .ref (π k0)), (1, .int a1)]) dX3_share_1 (by decide) rfl ?_
  refine x_iconst C0 (v := 0) dX3_share_2 (by decide) ?_
  refine x_istore_n C0 (L' := [(3, .int 0), (2, .int 0), (0, .ref (π k0)), (1, .int a1)]) dX3_share_3 (by decide) rfl ?_
  obtain ⟨x4, σ5, hL, h⟩ := bd2_some h
  refine x_pick [2, 3, 1, 0] rfl (w_sp_share_L4 C N k0 a1 hk0 _ (fun b0 b1 e => ?_) N 0 0 σ hL)
  cases e
  refine x_iload_n C0 dX3_share_31 rfl ?_
  exact x_iret C dX3_share_32 h
def td_has (N : Nat) (k0 : Nat) (a1 : Int32) (σ : St) : Option (Int32 × St) :=
  bd2 (wb_within N a1 0 ((σ.1 k0 3) - 1) σ) fun v2 σ1 =>
  ck (bz v2) (some (v2, σ1))
set_option maxRecDepth 20000 in
theorem k_td_has {l : Launch} {D : va_G} {cA : Nat → ClassId} {π : Nat → Nat} (N : Nat) (k0 : Nat) (a1 : Int32) (hk0 : shC[k0]? = some shX5) {σ : St} {vo : Int32} {σo : St} (h : td_has N k0 a1 σ = some (vo, σo)) : Kt l D cA π shC yX5_has cX5_has 2 (some .boolean) 1 22 [.ref (π k0), .int a1] σ (some (.int vo)) σo := by
  refine Kt.of (by decide) (Nat.le_of_ble_eq_true rfl) (L := [(0, .ref (π k0)), (1, .int a1)]) rfl (fun Γ C => ?_)
  have C0 := C.1
  unfold td_has at h
  refine x_iload_n C0 dX5_has_0 rfl ?_
  refine x_iconst C0 (v := 0) dX5_has_1 (by decide) ?_
  refine x_aload_n C0 dX5_has_2 rfl ?_
  refine gt_X5_28 C hk0 dX5_has_3 ?_
  refine x_iconst C0 (v := 1) dX5_has_6 (by decide) ?_
  refine x_isub C0 dX5_has_7 ?_
  obtain ⟨v2, σ1, hc, h⟩ := bd2_some h
  refine x_callSNi C (k_wb_within N a1 0 ((σ.1 k0 3) - 1)  hc) (fun _ h => nmX5_41 h) ut_X6_within un_X6 uc_X6_within hs_X6_within rfl (by decide) dX5_has_8 (rest := []) rfl (Nat.le_of_ble_eq_true rfl) ?_
  refine x_chk h (fun q h => ?_)
  exact x_zret C (bz_or q) dX5_has_11 h
def wb_span (N : Nat) (σ : St) : Option (Nat × St) :=
  bd2 (ps_latest N 3 σ) fun r2 σ1 => ck (isSp r2) (
  some (r2, σ1))
set_option maxRecDepth 20000 in
theorem k_wb_span {l : Launch} {D : va_G} {cA : Nat → ClassId} {π : Nat → Nat} (N : Nat)  {σ : St} {vo : Nat} {σo : St} (h : wb_span N σ = some (vo, σo)) : Kt l D cA π shC yX6_span cX6_span 1 (some (.object "WoolBridge$Span")) 1 20 [.ref (π 0)] σ (some (.ref (π vo))) σo := by
  refine Kt.of (by decide) (Nat.le_of_ble_eq_true rfl) (L := [(0, .ref (π 0))]) rfl (fun Γ C => ?_)
  have C0 := C.1
  unfold wb_span at h
  refine x_aload_n C0 dX6_span_0 rfl ?_
  refine gt_X6_19 C dX6_span_1 ?_
  obtain ⟨r2, σ1, hc, h⟩ := bd2_some h
  refine x_callVr C (k_ps_latest N 3 rfl hc) umX6_254 ui_X1_latest us_X1_latest un_X1 uc_X1_latest hv_X1_latest rfl (by decide) rfl rfl dX6_span_4 (rest := []) rfl (Nat.le_of_ble_eq_true rfl) ?_
  refine x_chk h (fun q h => ?_)
  have hr2 := isSp_sh q
  exact x_aret C dX6_span_7 h
def wb_person (N : Nat) (a1 : Int32) (a2 : Int32) (σ : St) : Option (Int32 × St) :=
  lt (ix (σ.1 0 6)) fun r1 => ck (isTd r1) (
  bd2 (td_has N r1 a1 σ) fun v3 σ2 =>
  if v3 = 0 then (
    some ((-1), σ2))
  else (
    if a2 = 0 then (
      lt (ix (σ2.1 0 6)) fun r4 => ck (isTd r4) (
      ck (inb a1 6) (
      some ((σ2.1 (r4 + 1) (ix a1)), σ2))))
    else (
      if a2 = 1 then (
        lt (ix (σ2.1 0 6)) fun r5 => ck (isTd r5) (
        ck (inb a1 6) (
        some ((σ2.1 (r5 + 2) (ix a1)), σ2))))
      else (
        if a2 = 2 then (
          bd2 (wb_span N  σ2) fun r7 σ6 => ck (isSp r7) (
          bd2 (sp_share N r7 a1 σ6) fun v9 σ8 =>
          some (v9, σ8)))
        else (
          some ((-1), σ2))))))
set_option maxRecDepth 20000 in
theorem k_wb_person {l : Launch} {D : va_G} {cA : Nat → ClassId} {π : Nat → Nat} (N : Nat) (a1 : Int32) (a2 : Int32)  {σ : St} {vo : Int32} {σo : St} (h : wb_person N a1 a2 σ = some (vo, σo)) : Kt l D cA π shC yX6_person cX6_person 3 (some .int) 2 43 [.ref (π 0), .int a1, .int a2] σ (some (.int vo)) σo := by
  refine Kt.of (by decide) (Nat.le_of_ble_eq_true rfl) (L := [(0, .ref (π 0)), (1, .int a1), (2, .int a2)]) rfl (fun Γ C => ?_)
  have C0 := C.1
  unfold wb_person at h
  refine x_aload_n C0 dX6_person_0 rfl ?_
  refine gt_X6_48 C dX6_person_1 ?_
  refine x_nmr h (fun r1 h => ?_)
  refine x_chk h (fun q h => ?_)
  have hr1 := isTd_sh q
  refine x_iload_n C0 dX6_person_4 rfl ?_
  obtain ⟨v3, σ2, hc, h⟩ := bd2_some h
  refine x_callVi C (k_td_has N r1 a1 hr1 hc) umX6_80 ui_X5_has us_X5_has un_X5 uc_X5_has hv_X5_has rfl (by decide) hr1 rfl dX6_person_5 (rest := []) rfl (Nat.le_of_ble_eq_true rfl) ?_
  refine x_if_ne C0 (tgt := 13) dX6_person_8 (by decide) h (fun h => ?_) (fun h => ?_)
  · refine x_iload_n C0 dX6_person_13 rfl ?_
    refine x_case 0 h (fun q h => ?_) (fun q0 h => ?_)
    · refine x_tab C0 (tgt := 40) dX6_person_14 q (by decide) (by decide) rfl (by decide) ?_
      refine x_aload_n C0 dX6_person_40 rfl ?_
      refine gt_X6_48 C dX6_person_41 ?_
      refine x_nmr h (fun r4 h => ?_)
      refine x_chk h (fun q h => ?_)
      have hr4 := isTd_sh q
      refine gt_X6_83 C hr4 dX6_person_44 ?_
      refine x_iload_n C0 dX6_person_47 rfl ?_
      refine x_iald C (k := (r4 + 1)) (z := 6) (sh_X5_heavy hr4) dX6_person_48 h (fun h => ?_)
      exact x_iret C dX6_person_49 h
    · refine x_case 1 h (fun q h => ?_) (fun q1 h => ?_)
      · refine x_tab C0 (tgt := 50) dX6_person_14 q (by decide) (by decide) rfl (by decide) ?_
        refine x_aload_n C0 dX6_person_50 rfl ?_
        refine gt_X6_48 C dX6_person_51 ?_
        refine x_nmr h (fun r5 h => ?_)
        refine x_chk h (fun q h => ?_)
        have hr5 := isTd_sh q
        refine gt_X6_87 C hr5 dX6_person_54 ?_
        refine x_iload_n C0 dX6_person_57 rfl ?_
        refine x_iald C (k := (r5 + 2)) (z := 6) (sh_X5_thick hr5) dX6_person_58 h (fun h => ?_)
        exact x_iret C dX6_person_59 h
      · refine x_case 2 h (fun q h => ?_) (fun q2 h => ?_)
        · refine x_tab C0 (tgt := 60) dX6_person_14 q (by decide) (by decide) rfl (by decide) ?_
          refine x_aload_n C0 dX6_person_60 rfl ?_
          obtain ⟨r7, σ6, hc, h⟩ := bd2_some h
          refine x_callVr C (k_wb_span N  hc) umX6_90 ui_X6_span us_X6_span un_X6 uc_X6_span hv_X6_span rfl (by decide) (fks := [4, 6, 44, 121, 122, 125, 2, 2, 1]) rfl rfl dX6_person_61 (rest := []) rfl (Nat.le_of_ble_eq_true rfl) ?_
          refine x_chk h (fun q h => ?_)
          have hr7 := isSp_sh q
          refine x_iload_n C0 dX6_person_64 rfl ?_
          obtain ⟨v9, σ8, hc, h⟩ := bd2_some h
          refine x_callVi C (k_sp_share N r7 a1 hr7 hc) umX6_94 ui_X3_share us_X3_share un_X3 uc_X3_share hv_X3_share rfl (by decide) hr7 rfl dX6_person_65 (rest := []) rfl (Nat.le_of_ble_eq_true rfl) ?_
          exact x_iret C dX6_person_68 h
        · refine x_tabD C0 (tgt := 69) dX6_person_14 (by have g0 := lv_neT q0 (show (0 : Int32).toInt = 0 from rfl); have g1 := lv_neT q1 (show (1 : Int32).toInt = 1 from rfl); have g2 := lv_neT q2 (show (2 : Int32).toInt = 2 from rfl); omega) (by decide) ?_
          refine x_iconst C0 (v := (-1)) dX6_person_69 (by decide) ?_
          exact x_iret C dX6_person_70 h
  · refine x_iconst C0 (v := (-1)) dX6_person_11 (by decide) ?_
    exact x_iret C dX6_person_12 h
def sp_bearsAs (N : Nat) (k0 : Nat) (a1 : Int32) (a2 : Int32) (a3 : Int32) (σ : St) : Option (Int32 × St) :=
  ck (inb a1 40) (
  some ((mx 0 (a2 - ((mn 99 ((σ.1 (k0 + 3) (ix a1)) + a3)) / 4))), σ))
set_option maxRecDepth 20000 in
theorem k_sp_bearsAs {l : Launch} {D : va_G} {cA : Nat → ClassId} {π : Nat → Nat} (N : Nat) (k0 : Nat) (a1 : Int32) (a2 : Int32) (a3 : Int32) (hk0 : shC[k0]? = some shX3) {σ : St} {vo : Int32} {σo : St} (h : sp_bearsAs N k0 a1 a2 a3 σ = some (vo, σo)) : Kt l D cA π shC yX3_bearsAs cX3_bearsAs 4 (some .int) 1 80 [.ref (π k0), .int a1, .int a2, .int a3] σ (some (.int vo)) σo := by
  refine Kt.of (by decide) (Nat.le_of_ble_eq_true rfl) (L := [(0, .ref (π k0)), (1, .int a1), (2, .int a2), (3, .int a3)]) rfl (fun Γ C => ?_)
  have C0 := C.1
  unfold sp_bearsAs at h
  refine x_iconst C0 (v := 0) dX3_bearsAs_0 (by decide) ?_
  refine x_iload_n C0 dX3_bearsAs_1 rfl ?_
  refine x_bipush C0 (v := 99) dX3_bearsAs_2 (by decide) ?_
  refine x_aload_n C0 dX3_bearsAs_4 rfl ?_
  refine gt_X3_18 C hk0 dX3_bearsAs_5 ?_
  refine x_iload_n C0 dX3_bearsAs_8 rfl ?_
  refine x_iald C (k := (k0 + 3)) (z := 40) (sh_X3_old hk0) dX3_bearsAs_9 h (fun h => ?_)
  refine x_iload_n C0 dX3_bearsAs_10 rfl ?_
  refine x_iadd C0 dX3_bearsAs_11 ?_
  refine x_mmin C0 umX3_55 dX3_bearsAs_12 (Nat.le_of_ble_eq_true rfl) (Nat.le_of_ble_eq_true rfl) ?_
  refine x_iconst C0 (v := 4) dX3_bearsAs_15 (by decide) ?_
  refine x_idiv C0 (by decide) dX3_bearsAs_16 ?_
  refine x_isub C0 dX3_bearsAs_17 ?_
  refine x_mmax C0 umX3_61 dX3_bearsAs_18 (Nat.le_of_ble_eq_true rfl) (Nat.le_of_ble_eq_true rfl) ?_
  exact x_iret C dX3_bearsAs_21 h
def sp_bears (N : Nat) (k0 : Nat) (a1 : Int32) (σ : St) : Option (Int32 × St) :=
  ck (inb a1 40) (
  bd2 (sp_bearsAs N k0 a1 (σ.1 (k0 + 2) (ix a1)) 0 σ) fun v2 σ1 =>
  some (v2, σ1))
set_option maxRecDepth 20000 in
theorem k_sp_bears {l : Launch} {D : va_G} {cA : Nat → ClassId} {π : Nat → Nat} (N : Nat) (k0 : Nat) (a1 : Int32) (hk0 : shC[k0]? = some shX3) {σ : St} {vo : Int32} {σo : St} (h : sp_bears N k0 a1 σ = some (vo, σo)) : Kt l D cA π shC yX3_bears cX3_bears 2 (some .int) 2 103 [.ref (π k0), .int a1] σ (some (.int vo)) σo := by
  refine Kt.of (by decide) (Nat.le_of_ble_eq_true rfl) (L := [(0, .ref (π k0)), (1, .int a1)]) rfl (fun Γ C => ?_)
  have C0 := C.1
  unfold sp_bears at h
  refine x_aload_n C0 dX3_bears_0 rfl ?_
  refine x_iload_n C0 dX3_bears_1 rfl ?_
  refine x_aload_n C0 dX3_bears_2 rfl ?_
  refine gt_X3_15 C hk0 dX3_bears_3 ?_
  refine x_iload_n C0 dX3_bears_6 rfl ?_
  refine x_iald C (k := (k0 + 2)) (z := 40) (sh_X3_thick hk0) dX3_bears_7 h (fun h => ?_)
  refine x_iconst C0 (v := 0) dX3_bears_8 (by decide) ?_
  obtain ⟨v2, σ1, hc, h⟩ := bd2_some h
  refine x_callVi C (k_sp_bearsAs N k0 a1 (σ.1 (k0 + 2) (ix a1)) 0 hk0 hc) umX3_51 ui_X3_bearsAs us_X3_bearsAs un_X3 uc_X3_bearsAs hv_X3_bearsAs rfl (by decide) hk0 rfl dX3_bears_9 (rest := []) rfl (Nat.le_of_ble_eq_true rfl) ?_
  exact x_iret C dX3_bears_12 h
def sp_has (N : Nat) (k0 : Nat) (a1 : Int32) (σ : St) : Option (Int32 × St) :=
  bd2 (wb_within N a1 0 ((σ.1 k0 3) - 1) σ) fun v2 σ1 =>
  ck (bz v2) (some (v2, σ1))
set_option maxRecDepth 20000 in
theorem k_sp_has {l : Launch} {D : va_G} {cA : Nat → ClassId} {π : Nat → Nat} (N : Nat) (k0 : Nat) (a1 : Int32) (hk0 : shC[k0]? = some shX3) {σ : St} {vo : Int32} {σo : St} (h : sp_has N k0 a1 σ = some (vo, σo)) : Kt l D cA π shC yX3_has cX3_has 2 (some .boolean) 1 22 [.ref (π k0), .int a1] σ (some (.int vo)) σo := by
  refine Kt.of (by decide) (Nat.le_of_ble_eq_true rfl) (L := [(0, .ref (π k0)), (1, .int a1)]) rfl (fun Γ C => ?_)
  have C0 := C.1
  unfold sp_has at h
  refine x_iload_n C0 dX3_has_0 rfl ?_
  refine x_iconst C0 (v := 0) dX3_has_1 (by decide) ?_
  refine x_aload_n C0 dX3_has_2 rfl ?_
  refine gt_X3_21 C hk0 dX3_has_3 ?_
  refine x_iconst C0 (v := 1) dX3_has_6 (by decide) ?_
  refine x_isub C0 dX3_has_7 ?_
  obtain ⟨v2, σ1, hc, h⟩ := bd2_some h
  refine x_callSNi C (k_wb_within N a1 0 ((σ.1 k0 3) - 1)  hc) (fun _ h => nmX3_47 h) ut_X6_within un_X6 uc_X6_within hs_X6_within rfl (by decide) dX3_has_8 (rest := []) rfl (Nat.le_of_ble_eq_true rfl) ?_
  refine x_chk h (fun q h => ?_)
  exact x_zret C (bz_or q) dX3_has_11 h
def wb_row (N : Nat) (a1 : Int32) (a2 : Int32) (σ : St) : Option (Int32 × St) :=
  bd2 (wb_span N  σ) fun r2 σ1 => ck (isSp r2) (
  bd2 (sp_has N r2 a1 σ1) fun v4 σ3 =>
  if v4 = 0 then (
    some ((-1), σ3))
  else (
    if a2 = 0 then (
      ck (inb a1 40) (
      some ((σ3.1 (r2 + 1) (ix a1)), σ3)))
    else (
      if a2 = 1 then (
        ck (inb a1 40) (
        some ((σ3.1 (r2 + 2) (ix a1)), σ3)))
      else (
        if a2 = 2 then (
          ck (inb a1 40) (
          some ((σ3.1 (r2 + 3) (ix a1)), σ3)))
        else (
          if a2 = 3 then (
            bd2 (sp_bears N r2 a1 σ3) fun v6 σ5 =>
            some (v6, σ5))
          else (
            some ((-1), σ3)))))))
set_option maxRecDepth 20000 in
theorem k_wb_row {l : Launch} {D : va_G} {cA : Nat → ClassId} {π : Nat → Nat} (N : Nat) (a1 : Int32) (a2 : Int32)  {σ : St} {vo : Int32} {σo : St} (h : wb_row N a1 a2 σ = some (vo, σo)) : Kt l D cA π shC yX6_row cX6_row 4 (some .int) 3 124 [.ref (π 0), .int a1, .int a2] σ (some (.int vo)) σo := by
  refine Kt.of (by decide) (Nat.le_of_ble_eq_true rfl) (L := [(0, .ref (π 0)), (1, .int a1), (2, .int a2)]) rfl (fun Γ C => ?_)
  have C0 := C.1
  unfold wb_row at h
  refine x_aload_n C0 dX6_row_0 rfl ?_
  obtain ⟨r2, σ1, hc, h⟩ := bd2_some h
  refine x_callVr C (k_wb_span N  hc) umX6_90 ui_X6_span us_X6_span un_X6 uc_X6_span hv_X6_span rfl (by decide) (fks := [4, 6, 44, 121, 122, 125, 2, 2, 1]) rfl rfl dX6_row_1 (rest := []) rfl (Nat.le_of_ble_eq_true rfl) ?_
  refine x_chk h (fun q h => ?_)
  have hr2 := isSp_sh q
  refine x_astore_n C0 (L' := [(3, .ref (π r2)), (0, .ref (π 0)), (1, .int a1), (2, .int a2)]) dX6_row_4 (by decide) rfl ?_
  refine x_aload_n C0 dX6_row_5 rfl ?_
  refine x_iload_n C0 dX6_row_6 rfl ?_
  obtain ⟨v4, σ3, hc, h⟩ := bd2_some h
  refine x_callVi C (k_sp_has N r2 a1 hr2 hc) umX6_100 ui_X3_has us_X3_has un_X3 uc_X3_has hv_X3_has rfl (by decide) hr2 rfl dX6_row_7 (rest := []) rfl (Nat.le_of_ble_eq_true rfl) ?_
  refine x_if_ne C0 (tgt := 15) dX6_row_10 (by decide) h (fun h => ?_) (fun h => ?_)
  · refine x_iload_n C0 dX6_row_15 rfl ?_
    refine x_case 0 h (fun q h => ?_) (fun q0 h => ?_)
    · refine x_tab C0 (tgt := 48) dX6_row_16 q (by decide) (by decide) rfl (by decide) ?_
      refine x_aload_n C0 dX6_row_48 rfl ?_
      refine gt_X6_101 C hr2 dX6_row_49 ?_
      refine x_iload_n C0 dX6_row_52 rfl ?_
      refine x_iald C (k := (r2 + 1)) (z := 40) (sh_X3_whose hr2) dX6_row_53 h (fun h => ?_)
      exact x_iret C dX6_row_54 h
    · refine x_case 1 h (fun q h => ?_) (fun q1 h => ?_)
      · refine x_tab C0 (tgt := 55) dX6_row_16 q (by decide) (by decide) rfl (by decide) ?_
        refine x_aload_n C0 dX6_row_55 rfl ?_
        refine gt_X6_104 C hr2 dX6_row_56 ?_
        refine x_iload_n C0 dX6_row_59 rfl ?_
        refine x_iald C (k := (r2 + 2)) (z := 40) (sh_X3_thick hr2) dX6_row_60 h (fun h => ?_)
        exact x_iret C dX6_row_61 h
      · refine x_case 2 h (fun q h => ?_) (fun q2 h => ?_)
        · refine x_tab C0 (tgt := 62) dX6_row_16 q (by decide) (by decide) rfl (by decide) ?_
          refine x_aload_n C0 dX6_row_62 rfl ?_
          refine gt_X6_105 C hr2 dX6_row_63 ?_
          refine x_iload_n C0 dX6_row_66 rfl ?_
          refine x_iald C (k := (r2 + 3)) (z := 40) (sh_X3_old hr2) dX6_row_67 h (fun h => ?_)
          exact x_iret C dX6_row_68 h
        · refine x_case 3 h (fun q h => ?_) (fun q3 h => ?_)
          · refine x_tab C0 (tgt := 69) dX6_row_16 q (by decide) (by decide) rfl (by decide) ?_
            refine x_aload_n C0 dX6_row_69 rfl ?_
            refine x_iload_n C0 dX6_row_70 rfl ?_
            obtain ⟨v6, σ5, hc, h⟩ := bd2_some h
            refine x_callVi C (k_sp_bears N r2 a1 hr2 hc) umX6_108 ui_X3_bears us_X3_bears un_X3 uc_X3_bears hv_X3_bears rfl (by decide) hr2 rfl dX6_row_71 (rest := []) rfl (Nat.le_of_ble_eq_true rfl) ?_
            exact x_iret C dX6_row_74 h
          · refine x_tabD C0 (tgt := 75) dX6_row_16 (by have g0 := lv_neT q0 (show (0 : Int32).toInt = 0 from rfl); have g1 := lv_neT q1 (show (1 : Int32).toInt = 1 from rfl); have g2 := lv_neT q2 (show (2 : Int32).toInt = 2 from rfl); have g3 := lv_neT q3 (show (3 : Int32).toInt = 3 from rfl); omega) (by decide) ?_
            refine x_iconst C0 (v := (-1)) dX6_row_75 (by decide) ?_
            exact x_iret C dX6_row_76 h
  · refine x_iconst C0 (v := (-1)) dX6_row_13 (by decide) ?_
    exact x_iret C dX6_row_14 h
def sp_take (N : Nat) (k0 : Nat) (k1 : Nat) (σ : St) : Option (St) :=
  ck (cpok 0 0 (σ.1 k1 3) 40 40) (lt (cpy σ (k1 + 1) (k0 + 1) (ix 0) (ix 0) (ix (σ.1 k1 3))) fun σ1 =>
  ck (cpok 0 0 (σ1.1 k1 3) 40 40) (lt (cpy σ1 (k1 + 2) (k0 + 2) (ix 0) (ix 0) (ix (σ1.1 k1 3))) fun σ2 =>
  ck (cpok 0 0 (σ2.1 k1 3) 40 40) (lt (cpy σ2 (k1 + 3) (k0 + 3) (ix 0) (ix 0) (ix (σ2.1 k1 3))) fun σ3 =>
  lt (put σ3 k0 3 (σ3.1 k1 3)) fun σ4 =>
  ck (bz (σ4.1 k1 4)) (
  lt (put σ4 k0 4 (σ4.1 k1 4)) fun σ5 =>
  lt (put σ5 k0 5 (σ5.1 k1 5)) fun σ6 =>
  some σ6))))
set_option maxRecDepth 20000 in
theorem k_sp_take {l : Launch} {D : va_G} {cA : Nat → ClassId} {π : Nat → Nat} (N : Nat) (k0 : Nat) (k1 : Nat) (hk0 : shC[k0]? = some shX3) (hk1 : shC[k1]? = some shX3) {σ : St} {σo : St} (h : sp_take N k0 k1 σ = some σo) : Kt l D cA π shC yX3_take cX3_take 2 none 1 80 [.ref (π k0), .ref (π k1)] σ none σo := by
  refine Kt.of (by decide) (Nat.le_of_ble_eq_true rfl) (L := [(0, .ref (π k0)), (1, .ref (π k1))]) rfl (fun Γ C => ?_)
  have C0 := C.1
  unfold sp_take at h
  refine x_aload_n C0 dX3_take_0 rfl ?_
  refine gt_X3_9 C hk1 dX3_take_1 ?_
  refine x_iconst C0 (v := 0) dX3_take_4 (by decide) ?_
  refine x_aload_n C0 dX3_take_5 rfl ?_
  refine gt_X3_9 C hk0 dX3_take_6 ?_
  refine x_iconst C0 (v := 0) dX3_take_9 (by decide) ?_
  refine x_aload_n C0 dX3_take_10 rfl ?_
  refine gt_X3_21 C hk1 dX3_take_11 ?_
  refine x_copy C (n0 := 40) (n1 := 40) (sh_X3_whose hk1) (sh_X3_whose hk0) umX3_41 dX3_take_14 (Nat.le_of_ble_eq_true rfl) (by decide +kernel) h (fun σ1 h => ?_)
  refine x_aload_n C0 dX3_take_17 rfl ?_
  refine gt_X3_15 C hk1 dX3_take_18 ?_
  refine x_iconst C0 (v := 0) dX3_take_21 (by decide) ?_
  refine x_aload_n C0 dX3_take_22 rfl ?_
  refine gt_X3_15 C hk0 dX3_take_23 ?_
  refine x_iconst C0 (v := 0) dX3_take_26 (by decide) ?_
  refine x_aload_n C0 dX3_take_27 rfl ?_
  refine gt_X3_21 C hk1 dX3_take_28 ?_
  refine x_copy C (n0 := 40) (n1 := 40) (sh_X3_thick hk1) (sh_X3_thick hk0) umX3_41 dX3_take_31 (Nat.le_of_ble_eq_true rfl) (by decide +kernel) h (fun σ2 h => ?_)
  refine x_aload_n C0 dX3_take_34 rfl ?_
  refine gt_X3_18 C hk1 dX3_take_35 ?_
  refine x_iconst C0 (v := 0) dX3_take_38 (by decide) ?_
  refine x_aload_n C0 dX3_take_39 rfl ?_
  refine gt_X3_18 C hk0 dX3_take_40 ?_
  refine x_iconst C0 (v := 0) dX3_take_43 (by decide) ?_
  refine x_aload_n C0 dX3_take_44 rfl ?_
  refine gt_X3_21 C hk1 dX3_take_45 ?_
  refine x_copy C (n0 := 40) (n1 := 40) (sh_X3_old hk1) (sh_X3_old hk0) umX3_41 dX3_take_48 (Nat.le_of_ble_eq_true rfl) (by decide +kernel) h (fun σ3 h => ?_)
  refine x_aload_n C0 dX3_take_51 rfl ?_
  refine x_aload_n C0 dX3_take_52 rfl ?_
  refine gt_X3_21 C hk1 dX3_take_53 ?_
  refine pt_X3_21 C hk0 dX3_take_56 h (fun σ4 h => ?_)
  refine x_aload_n C0 dX3_take_59 rfl ?_
  refine x_aload_n C0 dX3_take_60 rfl ?_
  refine gt_X3_25 C hk1 dX3_take_61 ?_
  refine x_chk h (fun q h => ?_)
  refine pt_X3_25 C hk0 (bz_or q) dX3_take_64 h (fun σ5 h => ?_)
  refine x_aload_n C0 dX3_take_67 rfl ?_
  refine x_aload_n C0 dX3_take_68 rfl ?_
  refine gt_X3_29 C hk1 dX3_take_69 ?_
  refine pt_X3_29 C hk0 dX3_take_72 h (fun σ6 h => ?_)
  exact x_vret C dX3_take_75 h
def ps_step_J25 (N : Nat) (k0 : Nat) (r2 : Nat) (t0_25 : Int32) (σ25 : St) : Option (Nat × St) :=
  lt (put σ25 k0 1 t0_25) fun σ3 =>
  lt (put σ3 k0 2 (mn 8 ((σ3.1 k0 2) + 1))) fun σ4 =>
  bd2 (ps_latest N k0 σ4) fun r6 σ5 => ck (isSp r6) (
  bd1 (sp_take N r6 r2 σ5) fun σ7 =>
  bd2 (ps_latest N k0 σ7) fun r9 σ8 => ck (isSp r9) (
  some (r9, σ8)))
def ps_step (N : Nat) (k0 : Nat) (σ : St) : Option (Nat × St) :=
  bd2 (ps_latest N k0 σ) fun r2 σ1 => ck (isSp r2) (
  if (σ1.1 k0 1) = 8 then (
    ps_step_J25 N k0 r2 0 σ1)
  else (
    ps_step_J25 N k0 r2 ((σ1.1 k0 1) + 1) σ1))
set_option maxRecDepth 20000 in
theorem w_ps_step_J25 {l : Launch} {D : va_G} {cA : Nat → ClassId} {π : Nat → Nat} {Γ : Gx St} {vo : Nat} {σo : St} (C : Cm Γ cX1_step RX1 cA 2 101 2 l D π shC (some (.object "WoolBridge$Span")) (some (.ref (π vo)), σo)) (N : Nat) (k0 : Nat) (r2 : Nat) (t0_25 : Int32) (σ25 : St) (hk0 : shC[k0]? = some shX1) (hr2 : shC[r2]? = some shX3) (h : ps_step_J25 N k0 r2 t0_25 σ25 = some (vo, σo)) : Wx Γ σ25 25 [(0, .ref (π k0)), (1, .ref (π r2))] [.int t0_25, .ref (π k0)] := by
  have C0 := C.1
  unfold ps_step_J25 at h
  refine pt_X1_30 C hk0 dX1_step_25 h (fun σ3 h => ?_)
  refine x_aload_n C0 dX1_step_28 rfl ?_
  refine x_bipush C0 (v := 8) dX1_step_29 (by decide) ?_
  refine x_aload_n C0 dX1_step_31 rfl ?_
  refine gt_X1_18 C hk0 dX1_step_32 ?_
  refine x_iconst C0 (v := 1) dX1_step_35 (by decide) ?_
  refine x_iadd C0 dX1_step_36 ?_
  refine x_mmin C0 umX1_33 dX1_step_37 (Nat.le_of_ble_eq_true rfl) (Nat.le_of_ble_eq_true rfl) ?_
  refine pt_X1_18 C hk0 dX1_step_40 h (fun σ4 h => ?_)
  refine x_aload_n C0 dX1_step_43 rfl ?_
  obtain ⟨r6, σ5, hc, h⟩ := bd2_some h
  refine x_callVr C (k_ps_latest N k0 hk0 hc) umX1_22 ui_X1_latest us_X1_latest un_X1 uc_X1_latest hv_X1_latest rfl (by decide) hk0 rfl dX1_step_44 (rest := []) rfl (Nat.le_of_ble_eq_true rfl) ?_
  refine x_chk h (fun q h => ?_)
  have hr6 := isSp_sh q
  refine x_aload_n C0 dX1_step_47 rfl ?_
  obtain ⟨σ7, hc, h⟩ := bd1_some h
  refine x_callVv C (k_sp_take N r6 r2 hr6 hr2 hc) umX1_39 ui_X3_take us_X3_take un_X3 uc_X3_take hv_X3_take rfl (by decide) hr6 rfl dX1_step_48 (rest := []) rfl (Nat.le_of_ble_eq_true rfl) ?_
  refine x_aload_n C0 dX1_step_51 rfl ?_
  obtain ⟨r9, σ8, hc, h⟩ := bd2_some h
  refine x_callVr C (k_ps_latest N k0 hk0 hc) umX1_22 ui_X1_latest us_X1_latest un_X1 uc_X1_latest hv_X1_latest rfl (by decide) hk0 rfl dX1_step_52 (rest := []) rfl (Nat.le_of_ble_eq_true rfl) ?_
  refine x_chk h (fun q h => ?_)
  have hr9 := isSp_sh q
  exact x_aret C dX1_step_55 h
set_option maxRecDepth 20000 in
theorem k_ps_step {l : Launch} {D : va_G} {cA : Nat → ClassId} {π : Nat → Nat} (N : Nat) (k0 : Nat) (hk0 : shC[k0]? = some shX1) {σ : St} {vo : Nat} {σo : St} (h : ps_step N k0 σ = some (vo, σo)) : Kt l D cA π shC yX1_step cX1_step 2 (some (.object "WoolBridge$Span")) 2 101 [.ref (π k0)] σ (some (.ref (π vo))) σo := by
  refine Kt.of (by decide) (Nat.le_of_ble_eq_true rfl) (L := [(0, .ref (π k0))]) rfl (fun Γ C => ?_)
  have C0 := C.1
  unfold ps_step at h
  refine x_aload_n C0 dX1_step_0 rfl ?_
  obtain ⟨r2, σ1, hc, h⟩ := bd2_some h
  refine x_callVr C (k_ps_latest N k0 hk0 hc) umX1_22 ui_X1_latest us_X1_latest un_X1 uc_X1_latest hv_X1_latest rfl (by decide) hk0 rfl dX1_step_1 (rest := []) rfl (Nat.le_of_ble_eq_true rfl) ?_
  refine x_chk h (fun q h => ?_)
  have hr2 := isSp_sh q
  refine x_astore_n C0 (L' := [(1, .ref (π r2)), (0, .ref (π k0))]) dX1_step_4 (by decide) rfl ?_
  refine x_aload_n C0 dX1_step_5 rfl ?_
  refine x_aload_n C0 dX1_step_6 rfl ?_
  refine gt_X1_30 C hk0 dX1_step_7 ?_
  refine x_bipush C0 (v := 8) dX1_step_10 (by decide) ?_
  refine x_icmp_ne C0 (tgt := 19) dX1_step_12 (by decide) h (fun h => ?_) (fun h => ?_)
  · refine x_aload_n C0 dX1_step_19 rfl ?_
    refine gt_X1_30 C hk0 dX1_step_20 ?_
    refine x_iconst C0 (v := 1) dX1_step_23 (by decide) ?_
    refine x_iadd C0 dX1_step_24 ?_
    exact x_pick [1, 0] rfl (w_ps_step_J25 C N k0 r2 ((σ1.1 k0 1) + 1) σ1 hk0 hr2 h)
  · refine x_iconst C0 (v := 0) dX1_step_15 (by decide) ?_
    refine x_goto C0 (tgt := 25) dX1_step_16 (by decide) ?_
    exact x_pick [1, 0] rfl (w_ps_step_J25 C N k0 r2 0 σ1 hk0 hr2 h)
def sp_leastAfter_L5 (N : Nat) (k0 : Nat) (c1_5 : Int32) : Nat → Int32 → Int32 → St → Option (Int32 × St)
  | 0, _, _, _ => none
  | n + 1, x2_5, x3_5, σ5 =>
    if (σ5.1 k0 3) ≤ x3_5 then (
      some (x2_5, σ5))
    else (
      ck (inb x3_5 40) (
      bd2 (sp_bearsAs N k0 x3_5 (σ5.1 (k0 + 2) (ix x3_5)) c1_5 σ5) fun v2 σ1 =>
      lt (mn x2_5 v2) fun x3 =>
      lt (x3_5 + 1) fun x4 =>
      (sp_leastAfter_L5 N k0 c1_5 n) x3 x4 σ1))
def sp_leastAfter (N : Nat) (k0 : Nat) (a1 : Int32) (σ : St) : Option (Int32 × St) :=
  bd2 (sp_leastAfter_L5 N k0 a1 N 9 0 σ) fun x5 σ6 =>
  some (x5, σ6)
set_option maxRecDepth 20000 in
theorem w_sp_leastAfter_L5 {l : Launch} {D : va_G} {cA : Nat → ClassId} {π : Nat → Nat} {Γ : Gx St} {vo : Int32} {σo : St} (C : Cm Γ cX3_leastAfter RX3 cA 2 103 4 l D π shC (some .int) (some (.int vo), σo)) (N : Nat) (k0 : Nat) (c1_5 : Int32) (hk0 : shC[k0]? = some shX3) (yo : Int32 × St) (kk5 : ∀ e2_5 σe, (e2_5, σe) = yo → Wx Γ σe 36 [(2, .int e2_5)] []) : ∀ (n : Nat) (x2_5 : Int32) (x3_5 : Int32) (σ5 : St), sp_leastAfter_L5 N k0 c1_5 n x2_5 x3_5 σ5 = some yo → Wx Γ σ5 5 [(0, .ref (π k0)), (1, .int c1_5), (2, .int x2_5), (3, .int x3_5)] [] := by
  have C0 := C.1
  intro n
  induction n with
  | zero => intro x2_5 x3_5 σ5 h; cases h
  | succ n ih =>
    intro x2_5 x3_5 σ5 h
    rw [sp_leastAfter_L5] at h
    refine x_iload_n C0 dX3_leastAfter_5 rfl ?_
    refine x_aload_n C0 dX3_leastAfter_6 rfl ?_
    refine gt_X3_21 C hk0 dX3_leastAfter_7 ?_
    refine x_icmp_ge C0 (tgt := 36) dX3_leastAfter_10 (by decide) h (fun h => ?_) (fun h => ?_)
    · exact x_pick [2] rfl (kk5 _ _ (Option.some.inj h))
    · refine x_iload_n C0 dX3_leastAfter_13 rfl ?_
      refine x_aload_n C0 dX3_leastAfter_14 rfl ?_
      refine x_iload_n C0 dX3_leastAfter_15 rfl ?_
      refine x_aload_n C0 dX3_leastAfter_16 rfl ?_
      refine gt_X3_15 C hk0 dX3_leastAfter_17 ?_
      refine x_iload_n C0 dX3_leastAfter_20 rfl ?_
      refine x_iald C (k := (k0 + 2)) (z := 40) (sh_X3_thick hk0) dX3_leastAfter_21 h (fun h => ?_)
      refine x_iload_n C0 dX3_leastAfter_22 rfl ?_
      obtain ⟨v2, σ1, hc, h⟩ := bd2_some h
      refine x_callVi C (k_sp_bearsAs N k0 x3_5 (σ5.1 (k0 + 2) (ix x3_5)) c1_5 hk0 hc) umX3_51 ui_X3_bearsAs us_X3_bearsAs un_X3 uc_X3_bearsAs hv_X3_bearsAs rfl (by decide) hk0 rfl dX3_leastAfter_23 (rest := [.int x2_5]) rfl (Nat.le_of_ble_eq_true rfl) ?_
      refine x_mmin C0 umX3_55 dX3_leastAfter_26 (Nat.le_of_ble_eq_true rfl) (Nat.le_of_ble_eq_true rfl) ?_
      refine x_nm h (fun x3 h => ?_)
      refine x_istore_n C0 (L' := [(2, .int x3), (0, .ref (π k0)), (1, .int c1_5), (3, .int x3_5)]) dX3_leastAfter_29 (by decide) rfl ?_
      refine x_iinc C0 (j := 3) (v := 1) (L' := fun x4 => [(3, .int x4), (2, .int x3), (0, .ref (π k0)), (1, .int c1_5)]) dX3_leastAfter_30 rfl (by decide) (by decide) (fun _ => rfl) h (fun x4 h => ?_)
      refine x_goto C0 (tgt := 5) dX3_leastAfter_33 (by decide) ?_
      exact x_pick [2, 3, 1, 0] rfl (ih _ _ _ h)
set_option maxRecDepth 20000 in
theorem k_sp_leastAfter {l : Launch} {D : va_G} {cA : Nat → ClassId} {π : Nat → Nat} (N : Nat) (k0 : Nat) (a1 : Int32) (hk0 : shC[k0]? = some shX3) {σ : St} {vo : Int32} {σo : St} (h : sp_leastAfter N k0 a1 σ = some (vo, σo)) : Kt l D cA π shC yX3_leastAfter cX3_leastAfter 4 (some .int) 2 103 [.ref (π k0), .int a1] σ (some (.int vo)) σo := by
  refine Kt.of (by decide) (Nat.le_of_ble_eq_true rfl) (L := [(0, .ref (π k0)), (1, .int a1)]) rfl (fun Γ C => ?_)
  have C0 := C.1
  unfold sp_leastAfter at h
  refine x_bipush C0 (v := 9) dX3_leastAfter_0 (by decide) ?_
  refine x_istore_n C0 (L' := [(2, .int 9), (0, .ref (π k0)), (1, .int a1)]) dX3_leastAfter_2 (by decide) rfl ?_
  refine x_iconst C0 (v := 0) dX3_leastAfter_3 (by decide) ?_
  refine x_istore_n C0 (L' := [(3, .int 0), (2, .int 9), (0, .ref (π k0)), (1, .int a1)]) dX3_leastAfter_4 (by decide) rfl ?_
  obtain ⟨x5, σ6, hL, h⟩ := bd2_some h
  refine x_pick [2, 3, 1, 0] rfl (w_sp_leastAfter_L5 C N k0 a1 hk0 _ (fun b0 b1 e => ?_) N 9 0 σ hL)
  cases e
  refine x_iload_n C0 dX3_leastAfter_36 rfl ?_
  exact x_iret C dX3_leastAfter_37 h
def wb_lengthWith (N : Nat) (a1 : Int32) (a2 : Int32) (σ : St) : Option (Int32 × St) :=
  if a2 = 0 then (
    some (a1, σ))
  else (
    some ((a1 + (a1 / 5)), σ))
set_option maxRecDepth 20000 in
theorem k_wb_lengthWith {l : Launch} {D : va_G} {cA : Nat → ClassId} {π : Nat → Nat} (N : Nat) (a1 : Int32) (a2 : Int32)  {σ : St} {vo : Int32} {σo : St} (h : wb_lengthWith N a1 a2 σ = some (vo, σo)) : Kt l D cA π shC yX6_lengthWith cX6_lengthWith 2 (some .int) 0 0 [.int a1, .int a2] σ (some (.int vo)) σo := by
  refine Kt.of (by decide) (Nat.le_of_ble_eq_true rfl) (L := [(0, .int a1), (1, .int a2)]) rfl (fun Γ C => ?_)
  have C0 := C.1
  unfold wb_lengthWith at h
  refine x_iload_n C0 dX6_lengthWith_0 rfl ?_
  refine x_if_eq C0 (tgt := 12) dX6_lengthWith_1 (by decide) h (fun h => ?_) (fun h => ?_)
  · refine x_iload_n C0 dX6_lengthWith_12 rfl ?_
    exact x_iret C dX6_lengthWith_13 h
  · refine x_iload_n C0 dX6_lengthWith_4 rfl ?_
    refine x_iload_n C0 dX6_lengthWith_5 rfl ?_
    refine x_iconst C0 (v := 5) dX6_lengthWith_6 (by decide) ?_
    refine x_idiv C0 (by decide) dX6_lengthWith_7 ?_
    refine x_iadd C0 dX6_lengthWith_8 ?_
    refine x_goto C0 (tgt := 13) dX6_lengthWith_9 (by decide) ?_
    exact x_iret C dX6_lengthWith_13 h
def sp_lengthOf (N : Nat) (k0 : Nat) (a1 : Int32) (σ : St) : Option (Int32 × St) :=
  bd2 (wb_lengthWith N a1 (σ.1 k0 4) σ) fun v2 σ1 =>
  some (v2, σ1)
set_option maxRecDepth 20000 in
theorem k_sp_lengthOf {l : Launch} {D : va_G} {cA : Nat → ClassId} {π : Nat → Nat} (N : Nat) (k0 : Nat) (a1 : Int32) (hk0 : shC[k0]? = some shX3) {σ : St} {vo : Int32} {σo : St} (h : sp_lengthOf N k0 a1 σ = some (vo, σo)) : Kt l D cA π shC yX3_lengthOf cX3_lengthOf 2 (some .int) 1 21 [.ref (π k0), .int a1] σ (some (.int vo)) σo := by
  refine Kt.of (by decide) (Nat.le_of_ble_eq_true rfl) (L := [(0, .ref (π k0)), (1, .int a1)]) rfl (fun Γ C => ?_)
  have C0 := C.1
  unfold sp_lengthOf at h
  refine x_iload_n C0 dX3_lengthOf_0 rfl ?_
  refine x_aload_n C0 dX3_lengthOf_1 rfl ?_
  refine gt_X3_25 C hk0 dX3_lengthOf_2 ?_
  obtain ⟨v2, σ1, hc, h⟩ := bd2_some h
  refine x_callSNi C (k_wb_lengthWith N a1 (σ.1 k0 4)  hc) (fun _ h => nmX3_68 h) ut_X6_lengthWith un_X6 uc_X6_lengthWith hs_X6_lengthWith rfl (by decide) dX3_lengthOf_5 (rest := []) rfl (Nat.le_of_ble_eq_true rfl) ?_
  exact x_iret C dX3_lengthOf_8 h
def sp_length (N : Nat) (k0 : Nat) (σ : St) : Option (Int32 × St) :=
  bd2 (sp_lengthOf N k0 (σ.1 k0 3) σ) fun v2 σ1 =>
  some (v2, σ1)
set_option maxRecDepth 20000 in
theorem k_sp_length {l : Launch} {D : va_G} {cA : Nat → ClassId} {π : Nat → Nat} (N : Nat) (k0 : Nat) (hk0 : shC[k0]? = some shX3) {σ : St} {vo : Int32} {σo : St} (h : sp_length N k0 σ = some (vo, σo)) : Kt l D cA π shC yX3_length cX3_length 1 (some .int) 2 42 [.ref (π k0)] σ (some (.int vo)) σo := by
  refine Kt.of (by decide) (Nat.le_of_ble_eq_true rfl) (L := [(0, .ref (π k0))]) rfl (fun Γ C => ?_)
  have C0 := C.1
  unfold sp_length at h
  refine x_aload_n C0 dX3_length_0 rfl ?_
  refine x_aload_n C0 dX3_length_1 rfl ?_
  refine gt_X3_21 C hk0 dX3_length_2 ?_
  obtain ⟨v2, σ1, hc, h⟩ := bd2_some h
  refine x_callVi C (k_sp_lengthOf N k0 (σ.1 k0 3) hk0 hc) umX3_64 ui_X3_lengthOf us_X3_lengthOf un_X3 uc_X3_lengthOf hv_X3_lengthOf rfl (by decide) hk0 rfl dX3_length_5 (rest := []) rfl (Nat.le_of_ble_eq_true rfl) ?_
  exact x_iret C dX3_length_8 h
def td_holds (N : Nat) (k0 : Nat) (a1 : Int32) (a2 : Int32) (a3 : Int32) (σ : St) : Option (Int32 × St) :=
  bd2 (wb_within N a2 (σ.1 k0 5) ((σ.1 k0 5) + (σ.1 k0 6)) σ) fun v2 σ1 =>
  if v2 = 0 then (
    some (0, σ1))
  else (
    ck (inb a1 6) (
    if (2 * a3) < (σ1.1 (k0 + 1) (ix a1)) then (
      some (0, σ1))
    else (
      some (1, σ1))))
set_option maxRecDepth 20000 in
theorem k_td_holds {l : Launch} {D : va_G} {cA : Nat → ClassId} {π : Nat → Nat} (N : Nat) (k0 : Nat) (a1 : Int32) (a2 : Int32) (a3 : Int32) (hk0 : shC[k0]? = some shX5) {σ : St} {vo : Int32} {σo : St} (h : td_holds N k0 a1 a2 a3 σ = some (vo, σo)) : Kt l D cA π shC yX5_holds cX5_holds 4 (some .boolean) 1 22 [.ref (π k0), .int a1, .int a2, .int a3] σ (some (.int vo)) σo := by
  refine Kt.of (by decide) (Nat.le_of_ble_eq_true rfl) (L := [(0, .ref (π k0)), (1, .int a1), (2, .int a2), (3, .int a3)]) rfl (fun Γ C => ?_)
  have C0 := C.1
  unfold td_holds at h
  refine x_iload_n C0 dX5_holds_0 rfl ?_
  refine x_aload_n C0 dX5_holds_1 rfl ?_
  refine gt_X5_21 C hk0 dX5_holds_2 ?_
  refine x_aload_n C0 dX5_holds_5 rfl ?_
  refine gt_X5_21 C hk0 dX5_holds_6 ?_
  refine x_aload_n C0 dX5_holds_9 rfl ?_
  refine gt_X5_25 C hk0 dX5_holds_10 ?_
  refine x_iadd C0 dX5_holds_13 ?_
  obtain ⟨v2, σ1, hc, h⟩ := bd2_some h
  refine x_callSNi C (k_wb_within N a2 (σ.1 k0 5) ((σ.1 k0 5) + (σ.1 k0 6))  hc) (fun _ h => nmX5_41 h) ut_X6_within un_X6 uc_X6_within hs_X6_within rfl (by decide) dX5_holds_14 (rest := []) rfl (Nat.le_of_ble_eq_true rfl) ?_
  refine x_if_eq C0 (tgt := 36) dX5_holds_17 (by decide) h (fun h => ?_) (fun h => ?_)
  · refine x_iconst C0 (v := 0) dX5_holds_36 (by decide) ?_
    exact x_zret C (Or.inl rfl) dX5_holds_37 h
  · refine x_iconst C0 (v := 2) dX5_holds_20 (by decide) ?_
    refine x_iload_n C0 dX5_holds_21 rfl ?_
    refine x_imul C0 dX5_holds_22 ?_
    refine x_aload_n C0 dX5_holds_23 rfl ?_
    refine gt_X5_9 C hk0 dX5_holds_24 ?_
    refine x_iload_n C0 dX5_holds_27 rfl ?_
    refine x_iald C (k := (k0 + 1)) (z := 6) (sh_X5_heavy hk0) dX5_holds_28 h (fun h => ?_)
    refine x_icmp_lt C0 (tgt := 36) dX5_holds_29 (by decide) h (fun h => ?_) (fun h => ?_)
    · refine x_iconst C0 (v := 0) dX5_holds_36 (by decide) ?_
      exact x_zret C (Or.inl rfl) dX5_holds_37 h
    · refine x_iconst C0 (v := 1) dX5_holds_32 (by decide) ?_
      refine x_goto C0 (tgt := 37) dX5_holds_33 (by decide) ?_
      exact x_zret C (Or.inr rfl) dX5_holds_37 h
def wb_holdsNow (N : Nat) (a1 : Int32) (σ : St) : Option (Int32 × St) :=
  bd2 (wb_span N  σ) fun r2 σ1 => ck (isSp r2) (
  lt (ix (σ1.1 0 6)) fun r3 => ck (isTd r3) (
  bd2 (sp_length N r2 σ1) fun v5 σ4 =>
  bd2 (sp_leastAfter N r2 0 σ4) fun v7 σ6 =>
  bd2 (td_holds N r3 a1 v5 v7 σ6) fun v9 σ8 =>
  ck (bz v9) (some (v9, σ8))))
set_option maxRecDepth 20000 in
theorem k_wb_holdsNow {l : Launch} {D : va_G} {cA : Nat → ClassId} {π : Nat → Nat} (N : Nat) (a1 : Int32)  {σ : St} {vo : Int32} {σo : St} (h : wb_holdsNow N a1 σ = some (vo, σo)) : Kt l D cA π shC yX6_holdsNow cX6_holdsNow 3 (some .boolean) 3 126 [.ref (π 0), .int a1] σ (some (.int vo)) σo := by
  refine Kt.of (by decide) (Nat.le_of_ble_eq_true rfl) (L := [(0, .ref (π 0)), (1, .int a1)]) rfl (fun Γ C => ?_)
  have C0 := C.1
  unfold wb_holdsNow at h
  refine x_aload_n C0 dX6_holdsNow_0 rfl ?_
  obtain ⟨r2, σ1, hc, h⟩ := bd2_some h
  refine x_callVr C (k_wb_span N  hc) umX6_90 ui_X6_span us_X6_span un_X6 uc_X6_span hv_X6_span rfl (by decide) (fks := [4, 6, 44, 121, 122, 125, 2, 2, 1]) rfl rfl dX6_holdsNow_1 (rest := []) rfl (Nat.le_of_ble_eq_true rfl) ?_
  refine x_chk h (fun q h => ?_)
  have hr2 := isSp_sh q
  refine x_astore_n C0 (L' := [(2, .ref (π r2)), (0, .ref (π 0)), (1, .int a1)]) dX6_holdsNow_4 (by decide) rfl ?_
  refine x_aload_n C0 dX6_holdsNow_5 rfl ?_
  refine gt_X6_48 C dX6_holdsNow_6 ?_
  refine x_nmr h (fun r3 h => ?_)
  refine x_chk h (fun q h => ?_)
  have hr3 := isTd_sh q
  refine x_iload_n C0 dX6_holdsNow_9 rfl ?_
  refine x_aload_n C0 dX6_holdsNow_10 rfl ?_
  obtain ⟨v5, σ4, hc, h⟩ := bd2_some h
  refine x_callVi C (k_sp_length N r2 hr2 hc) umX6_135 ui_X3_length us_X3_length un_X3 uc_X3_length hv_X3_length rfl (by decide) hr2 rfl dX6_holdsNow_11 (rest := [.int a1, .ref (π r3)]) rfl (Nat.le_of_ble_eq_true rfl) ?_
  refine x_aload_n C0 dX6_holdsNow_14 rfl ?_
  refine x_iconst C0 (v := 0) dX6_holdsNow_15 (by decide) ?_
  obtain ⟨v7, σ6, hc, h⟩ := bd2_some h
  refine x_callVi C (k_sp_leastAfter N r2 0 hr2 hc) umX6_181 ui_X3_leastAfter us_X3_leastAfter un_X3 uc_X3_leastAfter hv_X3_leastAfter rfl (by decide) hr2 rfl dX6_holdsNow_16 (rest := [.int v5, .int a1, .ref (π r3)]) rfl (Nat.le_of_ble_eq_true rfl) ?_
  obtain ⟨v9, σ8, hc, h⟩ := bd2_some h
  refine x_callVi C (k_td_holds N r3 a1 v5 v7 hr3 hc) umX6_184 ui_X5_holds us_X5_holds un_X5 uc_X5_holds hv_X5_holds rfl (by decide) hr3 rfl dX6_holdsNow_19 (rest := []) rfl (Nat.le_of_ble_eq_true rfl) ?_
  refine x_chk h (fun q h => ?_)
  exact x_zret C (bz_or q) dX6_holdsNow_22 h
def wb_crosses (N : Nat) (a1 : Int32) (σ : St) : Option (Int32 × St) :=
  lt (ix (σ.1 0 6)) fun r1 => ck (isTd r1) (
  bd2 (td_has N r1 a1 σ) fun v3 σ2 =>
  if v3 = 0 then (
    some ((-1), σ2))
  else (
    bd2 (wb_holdsNow N a1 σ2) fun v5 σ4 =>
    if v5 = 0 then (
      some ((-2), σ4))
    else (
      bd2 (ps_step N 3 σ4) fun r7 σ6 => ck (isSp r7) (
      lt (ix (σ6.1 0 6)) fun r8 => ck (isTd r8) (
      ck (inb a1 6) (
      lt (ix (σ6.1 0 6)) fun r9 => ck (isTd r9) (
      ck (inb a1 6) (
      bd1 (sp_knit N r7 a1 (σ6.1 (r8 + 1) (ix a1)) (σ6.1 (r9 + 2) (ix a1)) σ6) fun σ10 =>
      some ((σ10.1 r7 3), σ10)))))))))
set_option maxRecDepth 20000 in
theorem k_wb_crosses {l : Launch} {D : va_G} {cA : Nat → ClassId} {π : Nat → Nat} (N : Nat) (a1 : Int32)  {σ : St} {vo : Int32} {σo : St} (h : wb_crosses N a1 σ = some (vo, σo)) : Kt l D cA π shC yX6_crosses cX6_crosses 3 (some .int) 4 148 [.ref (π 0), .int a1] σ (some (.int vo)) σo := by
  refine Kt.of (by decide) (Nat.le_of_ble_eq_true rfl) (L := [(0, .ref (π 0)), (1, .int a1)]) rfl (fun Γ C => ?_)
  have C0 := C.1
  unfold wb_crosses at h
  refine x_aload_n C0 dX6_crosses_0 rfl ?_
  refine gt_X6_48 C dX6_crosses_1 ?_
  refine x_nmr h (fun r1 h => ?_)
  refine x_chk h (fun q h => ?_)
  have hr1 := isTd_sh q
  refine x_iload_n C0 dX6_crosses_4 rfl ?_
  obtain ⟨v3, σ2, hc, h⟩ := bd2_some h
  refine x_callVi C (k_td_has N r1 a1 hr1 hc) umX6_80 ui_X5_has us_X5_has un_X5 uc_X5_has hv_X5_has rfl (by decide) hr1 rfl dX6_crosses_5 (rest := []) rfl (Nat.le_of_ble_eq_true rfl) ?_
  refine x_if_ne C0 (tgt := 13) dX6_crosses_8 (by decide) h (fun h => ?_) (fun h => ?_)
  · refine x_aload_n C0 dX6_crosses_13 rfl ?_
    refine x_iload_n C0 dX6_crosses_14 rfl ?_
    obtain ⟨v5, σ4, hc, h⟩ := bd2_some h
    refine x_callVi C (k_wb_holdsNow N a1  hc) umX6_111 ui_X6_holdsNow us_X6_holdsNow un_X6 uc_X6_holdsNow hv_X6_holdsNow rfl (by decide) (fks := [4, 6, 44, 121, 122, 125, 2, 2, 1]) rfl rfl dX6_crosses_15 (rest := []) rfl (Nat.le_of_ble_eq_true rfl) ?_
    refine x_if_ne C0 (tgt := 24) dX6_crosses_18 (by decide) h (fun h => ?_) (fun h => ?_)
    · refine x_aload_n C0 dX6_crosses_24 rfl ?_
      refine gt_X6_19 C dX6_crosses_25 ?_
      obtain ⟨r7, σ6, hc, h⟩ := bd2_some h
      refine x_callVr C (k_ps_step N 3 rfl hc) umX6_114 ui_X1_step us_X1_step un_X1 uc_X1_step hv_X1_step rfl (by decide) rfl rfl dX6_crosses_28 (rest := []) rfl (Nat.le_of_ble_eq_true rfl) ?_
      refine x_chk h (fun q h => ?_)
      have hr7 := isSp_sh q
      refine x_astore_n C0 (L' := [(2, .ref (π r7)), (0, .ref (π 0)), (1, .int a1)]) dX6_crosses_31 (by decide) rfl ?_
      refine x_aload_n C0 dX6_crosses_32 rfl ?_
      refine x_iload_n C0 dX6_crosses_33 rfl ?_
      refine x_aload_n C0 dX6_crosses_34 rfl ?_
      refine gt_X6_48 C dX6_crosses_35 ?_
      refine x_nmr h (fun r8 h => ?_)
      refine x_chk h (fun q h => ?_)
      have hr8 := isTd_sh q
      refine gt_X6_83 C hr8 dX6_crosses_38 ?_
      refine x_iload_n C0 dX6_crosses_41 rfl ?_
      refine x_iald C (k := (r8 + 1)) (z := 6) (sh_X5_heavy hr8) dX6_crosses_42 h (fun h => ?_)
      refine x_aload_n C0 dX6_crosses_43 rfl ?_
      refine gt_X6_48 C dX6_crosses_44 ?_
      refine x_nmr h (fun r9 h => ?_)
      refine x_chk h (fun q h => ?_)
      have hr9 := isTd_sh q
      refine gt_X6_87 C hr9 dX6_crosses_47 ?_
      refine x_iload_n C0 dX6_crosses_50 rfl ?_
      refine x_iald C (k := (r9 + 2)) (z := 6) (sh_X5_thick hr9) dX6_crosses_51 h (fun h => ?_)
      obtain ⟨σ10, hc, h⟩ := bd1_some h
      refine x_callVv C (k_sp_knit N r7 a1 (σ6.1 (r8 + 1) (ix a1)) (σ6.1 (r9 + 2) (ix a1)) hr7 hc) umX6_117 ui_X3_knit us_X3_knit un_X3 uc_X3_knit hv_X3_knit rfl (by decide) hr7 rfl dX6_crosses_52 (rest := []) rfl (Nat.le_of_ble_eq_true rfl) ?_
      refine x_aload_n C0 dX6_crosses_55 rfl ?_
      refine gt_X6_121 C hr7 dX6_crosses_56 ?_
      exact x_iret C dX6_crosses_59 h
    · refine x_bipush C0 (v := (-2)) dX6_crosses_21 (by decide) ?_
      exact x_iret C dX6_crosses_23 h
  · refine x_iconst C0 (v := (-1)) dX6_crosses_11 (by decide) ?_
    exact x_iret C dX6_crosses_12 h
def sp_unravel_L5 (N : Nat) (k0 : Nat) (c1_5 : Int32) : Nat → St → Option (St)
  | 0, _ => none
  | n + 1, σ5 =>
    if (σ5.1 k0 3) ≤ 0 then (
      some σ5)
    else (
      ck (inb ((σ5.1 k0 3) - 1) 40) (
      ck (inb (c1_5 - 1) 40) (
      if (σ5.1 (k0 + 1) (ix ((σ5.1 k0 3) - 1))) = (σ5.1 (k0 + 1) (ix (c1_5 - 1))) then (
        lt (put σ5 k0 3 ((σ5.1 k0 3) - 1)) fun σ2 =>
        (sp_unravel_L5 N k0 c1_5 n) σ2)
      else (
        some σ5))))
def sp_unravel (N : Nat) (k0 : Nat) (σ : St) : Option (Int32 × St) :=
  lt (σ.1 k0 3) fun x1 =>
  bd1 (sp_unravel_L5 N k0 x1 N σ) fun σ3 =>
  some ((x1 - (σ3.1 k0 3)), σ3)
set_option maxRecDepth 20000 in
theorem w_sp_unravel_L5 {l : Launch} {D : va_G} {cA : Nat → ClassId} {π : Nat → Nat} {Γ : Gx St} {vo : Int32} {σo : St} (C : Cm Γ cX3_unravel RX3 cA 0 0 2 l D π shC (some .int) (some (.int vo), σo)) (N : Nat) (k0 : Nat) (c1_5 : Int32) (hk0 : shC[k0]? = some shX3) (yo : St) (kk5 : ∀ σe, σe = yo → Wx Γ σe 47 [(0, .ref (π k0)), (1, .int c1_5)] []) : ∀ (n : Nat) (σ5 : St), sp_unravel_L5 N k0 c1_5 n  σ5 = some yo → Wx Γ σ5 5 [(0, .ref (π k0)), (1, .int c1_5)] [] := by
  have C0 := C.1
  intro n
  induction n with
  | zero => intro  σ5 h; cases h
  | succ n ih =>
    intro  σ5 h
    rw [sp_unravel_L5] at h
    refine x_aload_n C0 dX3_unravel_5 rfl ?_
    refine gt_X3_21 C hk0 dX3_unravel_6 ?_
    refine x_if_le C0 (tgt := 47) dX3_unravel_9 (by decide) h (fun h => ?_) (fun h => ?_)
    · exact x_pick [0, 1] rfl (kk5 _ (Option.some.inj h))
    · refine x_aload_n C0 dX3_unravel_12 rfl ?_
      refine gt_X3_9 C hk0 dX3_unravel_13 ?_
      refine x_aload_n C0 dX3_unravel_16 rfl ?_
      refine gt_X3_21 C hk0 dX3_unravel_17 ?_
      refine x_iconst C0 (v := 1) dX3_unravel_20 (by decide) ?_
      refine x_isub C0 dX3_unravel_21 ?_
      refine x_iald C (k := (k0 + 1)) (z := 40) (sh_X3_whose hk0) dX3_unravel_22 h (fun h => ?_)
      refine x_aload_n C0 dX3_unravel_23 rfl ?_
      refine gt_X3_9 C hk0 dX3_unravel_24 ?_
      refine x_iload_n C0 dX3_unravel_27 rfl ?_
      refine x_iconst C0 (v := 1) dX3_unravel_28 (by decide) ?_
      refine x_isub C0 dX3_unravel_29 ?_
      refine x_iald C (k := (k0 + 1)) (z := 40) (sh_X3_whose hk0) dX3_unravel_30 h (fun h => ?_)
      refine x_icmp_ne C0 (tgt := 47) dX3_unravel_31 (by decide) h (fun h => ?_) (fun h => ?_)
      · exact x_pick [0, 1] rfl (kk5 _ (Option.some.inj h))
      · refine x_aload_n C0 dX3_unravel_34 rfl ?_
        refine x_dup C0 rfl dX3_unravel_35 ?_
        refine gt_X3_21 C hk0 dX3_unravel_36 ?_
        refine x_iconst C0 (v := 1) dX3_unravel_39 (by decide) ?_
        refine x_isub C0 dX3_unravel_40 ?_
        refine pt_X3_21 C hk0 dX3_unravel_41 h (fun σ2 h => ?_)
        refine x_goto C0 (tgt := 5) dX3_unravel_44 (by decide) ?_
        exact x_pick [0, 1] rfl (ih _ h)
set_option maxRecDepth 20000 in
theorem k_sp_unravel {l : Launch} {D : va_G} {cA : Nat → ClassId} {π : Nat → Nat} (N : Nat) (k0 : Nat) (hk0 : shC[k0]? = some shX3) {σ : St} {vo : Int32} {σo : St} (h : sp_unravel N k0 σ = some (vo, σo)) : Kt l D cA π shC yX3_unravel cX3_unravel 2 (some .int) 0 0 [.ref (π k0)] σ (some (.int vo)) σo := by
  refine Kt.of (by decide) (Nat.le_of_ble_eq_true rfl) (L := [(0, .ref (π k0))]) rfl (fun Γ C => ?_)
  have C0 := C.1
  unfold sp_unravel at h
  refine x_aload_n C0 dX3_unravel_0 rfl ?_
  refine gt_X3_21 C hk0 dX3_unravel_1 ?_
  refine x_nm h (fun x1 h => ?_)
  refine x_istore_n C0 (L' := [(1, .int x1), (0, .ref (π k0))]) dX3_unravel_4 (by decide) rfl ?_
  obtain ⟨σ3, hL, h⟩ := bd1_some h
  refine x_pick [1, 0] rfl (w_sp_unravel_L5 C N k0 x1 hk0 _ (fun b0 e => ?_) N  σ hL)
  cases e
  refine x_iload_n C0 dX3_unravel_47 rfl ?_
  refine x_aload_n C0 dX3_unravel_48 rfl ?_
  refine gt_X3_21 C hk0 dX3_unravel_49 ?_
  refine x_isub C0 dX3_unravel_52 ?_
  exact x_iret C dX3_unravel_53 h
def wb_turnsBack (N : Nat) (σ : St) : Option (Int32 × St) :=
  bd2 (wb_span N  σ) fun r2 σ1 => ck (isSp r2) (
  if (σ1.1 r2 3) = 0 then (
    some ((-2), σ1))
  else (
    bd2 (ps_step N 3 σ1) fun r4 σ3 => ck (isSp r4) (
    bd2 (sp_unravel N r4 σ3) fun v6 σ5 =>
    some (v6, σ5))))
set_option maxRecDepth 20000 in
theorem k_wb_turnsBack {l : Launch} {D : va_G} {cA : Nat → ClassId} {π : Nat → Nat} (N : Nat)  {σ : St} {vo : Int32} {σo : St} (h : wb_turnsBack N σ = some (vo, σo)) : Kt l D cA π shC yX6_turnsBack cX6_turnsBack 1 (some .int) 3 122 [.ref (π 0)] σ (some (.int vo)) σo := by
  refine Kt.of (by decide) (Nat.le_of_ble_eq_true rfl) (L := [(0, .ref (π 0))]) rfl (fun Γ C => ?_)
  have C0 := C.1
  unfold wb_turnsBack at h
  refine x_aload_n C0 dX6_turnsBack_0 rfl ?_
  obtain ⟨r2, σ1, hc, h⟩ := bd2_some h
  refine x_callVr C (k_wb_span N  hc) umX6_90 ui_X6_span us_X6_span un_X6 uc_X6_span hv_X6_span rfl (by decide) (fks := [4, 6, 44, 121, 122, 125, 2, 2, 1]) rfl rfl dX6_turnsBack_1 (rest := []) rfl (Nat.le_of_ble_eq_true rfl) ?_
  refine x_chk h (fun q h => ?_)
  have hr2 := isSp_sh q
  refine gt_X6_121 C hr2 dX6_turnsBack_4 ?_
  refine x_if_ne C0 (tgt := 13) dX6_turnsBack_7 (by decide) h (fun h => ?_) (fun h => ?_)
  · refine x_aload_n C0 dX6_turnsBack_13 rfl ?_
    refine gt_X6_19 C dX6_turnsBack_14 ?_
    obtain ⟨r4, σ3, hc, h⟩ := bd2_some h
    refine x_callVr C (k_ps_step N 3 rfl hc) umX6_114 ui_X1_step us_X1_step un_X1 uc_X1_step hv_X1_step rfl (by decide) rfl rfl dX6_turnsBack_17 (rest := []) rfl (Nat.le_of_ble_eq_true rfl) ?_
    refine x_chk h (fun q h => ?_)
    have hr4 := isSp_sh q
    obtain ⟨v6, σ5, hc, h⟩ := bd2_some h
    refine x_callVi C (k_sp_unravel N r4 hr4 hc) umX6_124 ui_X3_unravel us_X3_unravel un_X3 uc_X3_unravel hv_X3_unravel rfl (by decide) hr4 rfl dX6_turnsBack_20 (rest := []) rfl (Nat.le_of_ble_eq_true rfl) ?_
    exact x_iret C dX6_turnsBack_23 h
  · refine x_bipush C0 (v := (-2)) dX6_turnsBack_10 (by decide) ?_
    exact x_iret C dX6_turnsBack_12 h
def wb_drops (N : Nat) (a1 : Int32) (σ : St) : Option (Int32 × St) :=
  bd2 (wb_span N  σ) fun r2 σ1 => ck (isSp r2) (
  bd2 (sp_has N r2 a1 σ1) fun v4 σ3 =>
  if v4 = 0 then (
    some ((-1), σ3))
  else (
    bd2 (ps_step N 3 σ3) fun r6 σ5 => ck (isSp r6) (
    bd1 (sp_removeFrom N r6 a1 1 σ5) fun σ7 =>
    some ((σ7.1 r6 3), σ7))))
set_option maxRecDepth 20000 in
theorem k_wb_drops {l : Launch} {D : va_G} {cA : Nat → ClassId} {π : Nat → Nat} (N : Nat) (a1 : Int32)  {σ : St} {vo : Int32} {σo : St} (h : wb_drops N a1 σ = some (vo, σo)) : Kt l D cA π shC yX6_drops cX6_drops 3 (some .int) 3 122 [.ref (π 0), .int a1] σ (some (.int vo)) σo := by
  refine Kt.of (by decide) (Nat.le_of_ble_eq_true rfl) (L := [(0, .ref (π 0)), (1, .int a1)]) rfl (fun Γ C => ?_)
  have C0 := C.1
  unfold wb_drops at h
  refine x_aload_n C0 dX6_drops_0 rfl ?_
  obtain ⟨r2, σ1, hc, h⟩ := bd2_some h
  refine x_callVr C (k_wb_span N  hc) umX6_90 ui_X6_span us_X6_span un_X6 uc_X6_span hv_X6_span rfl (by decide) (fks := [4, 6, 44, 121, 122, 125, 2, 2, 1]) rfl rfl dX6_drops_1 (rest := []) rfl (Nat.le_of_ble_eq_true rfl) ?_
  refine x_chk h (fun q h => ?_)
  have hr2 := isSp_sh q
  refine x_iload_n C0 dX6_drops_4 rfl ?_
  obtain ⟨v4, σ3, hc, h⟩ := bd2_some h
  refine x_callVi C (k_sp_has N r2 a1 hr2 hc) umX6_100 ui_X3_has us_X3_has un_X3 uc_X3_has hv_X3_has rfl (by decide) hr2 rfl dX6_drops_5 (rest := []) rfl (Nat.le_of_ble_eq_true rfl) ?_
  refine x_if_ne C0 (tgt := 13) dX6_drops_8 (by decide) h (fun h => ?_) (fun h => ?_)
  · refine x_aload_n C0 dX6_drops_13 rfl ?_
    refine gt_X6_19 C dX6_drops_14 ?_
    obtain ⟨r6, σ5, hc, h⟩ := bd2_some h
    refine x_callVr C (k_ps_step N 3 rfl hc) umX6_114 ui_X1_step us_X1_step un_X1 uc_X1_step hv_X1_step rfl (by decide) rfl rfl dX6_drops_17 (rest := []) rfl (Nat.le_of_ble_eq_true rfl) ?_
    refine x_chk h (fun q h => ?_)
    have hr6 := isSp_sh q
    refine x_astore_n C0 (L' := [(2, .ref (π r6)), (0, .ref (π 0)), (1, .int a1)]) dX6_drops_20 (by decide) rfl ?_
    refine x_aload_n C0 dX6_drops_21 rfl ?_
    refine x_iload_n C0 dX6_drops_22 rfl ?_
    refine x_iconst C0 (v := 1) dX6_drops_23 (by decide) ?_
    obtain ⟨σ7, hc, h⟩ := bd1_some h
    refine x_callVv C (k_sp_removeFrom N r6 a1 1 hr6 hc) umX6_127 ui_X3_removeFrom us_X3_removeFrom un_X3 uc_X3_removeFrom hv_X3_removeFrom rfl (by decide) hr6 rfl dX6_drops_24 (rest := []) rfl (Nat.le_of_ble_eq_true rfl) ?_
    refine x_aload_n C0 dX6_drops_27 rfl ?_
    refine gt_X6_121 C hr6 dX6_drops_28 ?_
    exact x_iret C dX6_drops_31 h
  · refine x_iconst C0 (v := (-1)) dX6_drops_11 (by decide) ?_
    exact x_iret C dX6_drops_12 h
