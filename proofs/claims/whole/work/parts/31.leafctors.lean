def shLX3 : List Sh := [shX3, ar 40, ar 40, ar 40]
abbrev fsX3 : List Value := [.null, .null, .null, .int 0, .int 0, .int 0]
set_option maxRecDepth 20000 in
theorem i_X3 {l : Launch} {D : va_G} {cA : Nat → ClassId} : KI l D cA yX3_init cX3_init 1 1 20 3 120 3 fsX3 shLX3 zS := by
  refine KI.of (by decide) rfl (by decide) (fun Γ h0 hl hD C hend => ?_)
  have C : Co Γ cX3_init RX3 cA 1 20 1 3 120 [(h0, .inr (3, fsX3))] 0 0 := C
  refine x_aload_n C.1 dX3_init_0 rfl ?_
  refine n_oinit C umX3_3 dX3_init_1 (Nat.le_of_ble_eq_true rfl) (Nat.le_of_ble_eq_true rfl) ?_
  refine x_aload_n C.1 dX3_init_4 rfl ?_
  refine x_bipush C.1 (v := 40) dX3_init_5 (by decide) ?_
  refine n_newI C (N := 40) (by decide) rfl (by decide) (by decide) (by decide) dX3_init_7 (fun q1 C => ?_)
  refine n_putF C (T := TX3) (N := 6) (ci := 3) (j := 0) 0 ufX3_9 uwX3 tyX3 tyX3_ok nmX3 rfl (by decide) rfl rfl rfl rfl rfl rfl rfl (Nat.le_of_ble_eq_true rfl) dX3_init_9 (fun C => ?_)
  refine x_aload_n C.1 dX3_init_12 rfl ?_
  refine x_bipush C.1 (v := 40) dX3_init_13 (by decide) ?_
  refine n_newI C (N := 40) (by decide) rfl (by decide) (by decide) (by decide) dX3_init_15 (fun q2 C => ?_)
  refine n_putF C (T := TX3) (N := 6) (ci := 3) (j := 1) 0 ufX3_15 uwX3 tyX3 tyX3_ok nmX3 rfl (by decide) rfl rfl rfl rfl rfl rfl rfl (Nat.le_of_ble_eq_true rfl) dX3_init_17 (fun C => ?_)
  refine x_aload_n C.1 dX3_init_20 rfl ?_
  refine x_bipush C.1 (v := 40) dX3_init_21 (by decide) ?_
  refine n_newI C (N := 40) (by decide) rfl (by decide) (by decide) (by decide) dX3_init_23 (fun q3 C => ?_)
  refine n_putF C (T := TX3) (N := 6) (ci := 3) (j := 2) 0 ufX3_18 uwX3 tyX3 tyX3_ok nmX3 rfl (by decide) rfl rfl rfl rfl rfl rfl rfl (Nat.le_of_ble_eq_true rfl) dX3_init_25 (fun C => ?_)
  have he : ([(h0, .inr (3, [.ref q1, .ref q2, .ref q3, .int 0, .int 0, .int 0])), (q1, .inl (cA 0, 40, .inl (fun _ => 0))), (q2, .inl (cA 0, 40, .inl (fun _ => 0))), (q3, .inl (cA 0, 40, .inl (fun _ => 0)))] : va_W) = lay cA (fun k => match k with | 0 => h0 | 1 => q1 | 2 => q2 | 3 => q3 | _ => 0) shLX3 zS := by
    rfl
  have C := show Co Γ cX3_init RX3 cA 1 20 1 3 120 [(h0, .inr (3, [.ref q1, .ref q2, .ref q3, .int 0, .int 0, .int 0])), (q1, .inl (cA 0, 40, .inl (fun _ => 0))), (q2, .inl (cA 0, 40, .inl (fun _ => 0))), (q3, .inl (cA 0, 40, .inl (fun _ => 0)))] 3 120 from C
  rw [he] at C
  have K := hend (fun k => match k with | 0 => h0 | 1 => q1 | 2 => q2 | 3 => q3 | _ => 0) 28 [(0, .ref h0)] rfl C dX3_init_28
  rw [← he] at K
  exact K
theorem hi_X3 : yX3_init.cls ≠ "java/lang/invoke/MethodHandle" ∧ yX3_init.cls ≠ "java/lang/invoke/VarHandle" ∧ (parseMethodDescriptor yX3_init.desc).map (fun d => d.parameters.length) = some 0 := by decide +kernel
/-- a new Told: gap and slack are 6 -/
def tS : St := (fun k j => if k = 0 ∧ (j = 5 ∨ j = 6) then 6 else 0, 0)
def shLX5 : List Sh := [shX5, ar 6, ar 6, ar 40]
abbrev fsX5 : List Value := [.null, .null, .null, .int 0, .int 0, .int 0, .int 0, .int 0, .int 0]
set_option maxRecDepth 20000 in
theorem i_X5 {l : Launch} {D : va_G} {cA : Nat → ClassId} : KI l D cA yX5_init cX5_init 1 1 20 3 52 5 fsX5 shLX5 tS := by
  refine KI.of (by decide) rfl (by decide) (fun Γ h0 hl hD C hend => ?_)
  have C : Co Γ cX5_init RX5 cA 1 20 1 3 52 [(h0, .inr (5, fsX5))] 0 0 := C
  refine x_aload_n C.1 dX5_init_0 rfl ?_
  refine n_oinit C umX5_3 dX5_init_1 (Nat.le_of_ble_eq_true rfl) (Nat.le_of_ble_eq_true rfl) ?_
  refine x_aload_n C.1 dX5_init_4 rfl ?_
  refine x_bipush C.1 (v := 6) dX5_init_5 (by decide) ?_
  refine n_newI C (N := 6) (by decide) rfl (by decide) (by decide) (by decide) dX5_init_7 (fun q1 C => ?_)
  refine n_putF C (T := TX5) (N := 9) (ci := 5) (j := 0) 0 ufX5_9 uwX5 tyX5 tyX5_ok nmX5 rfl (by decide) rfl rfl rfl rfl rfl rfl rfl (Nat.le_of_ble_eq_true rfl) dX5_init_9 (fun C => ?_)
  refine x_aload_n C.1 dX5_init_12 rfl ?_
  refine x_bipush C.1 (v := 6) dX5_init_13 (by decide) ?_
  refine n_newI C (N := 6) (by decide) rfl (by decide) (by decide) (by decide) dX5_init_15 (fun q2 C => ?_)
  refine n_putF C (T := TX5) (N := 9) (ci := 5) (j := 1) 0 ufX5_15 uwX5 tyX5 tyX5_ok nmX5 rfl (by decide) rfl rfl rfl rfl rfl rfl rfl (Nat.le_of_ble_eq_true rfl) dX5_init_17 (fun C => ?_)
  refine x_aload_n C.1 dX5_init_20 rfl ?_
  refine x_bipush C.1 (v := 40) dX5_init_21 (by decide) ?_
  refine n_newI C (N := 40) (by decide) rfl (by decide) (by decide) (by decide) dX5_init_23 (fun q3 C => ?_)
  refine n_putF C (T := TX5) (N := 9) (ci := 5) (j := 2) 0 ufX5_18 uwX5 tyX5 tyX5_ok nmX5 rfl (by decide) rfl rfl rfl rfl rfl rfl rfl (Nat.le_of_ble_eq_true rfl) dX5_init_25 (fun C => ?_)
  refine x_aload_n C.1 dX5_init_28 rfl ?_
  refine x_bipush C.1 (v := 6) dX5_init_29 (by decide) ?_
  refine n_put C (T := TX5) (N := 9) (ci := 5) (j := 5) 0 ufX5_21 uwX5 tyX5 tyX5_ok nmX5 rfl (by decide) rfl rfl rfl rfl rfl rfl (Nat.le_of_ble_eq_true rfl) dX5_init_31 (fun C => ?_)
  refine x_aload_n C.1 dX5_init_34 rfl ?_
  refine x_bipush C.1 (v := 6) dX5_init_35 (by decide) ?_
  refine n_put C (T := TX5) (N := 9) (ci := 5) (j := 6) 0 ufX5_25 uwX5 tyX5 tyX5_ok nmX5 rfl (by decide) rfl rfl rfl rfl rfl rfl (Nat.le_of_ble_eq_true rfl) dX5_init_37 (fun C => ?_)
  have he : ([(h0, .inr (5, [.ref q1, .ref q2, .ref q3, .int 0, .int 0, .int 6, .int 6, .int 0, .int 0])), (q1, .inl (cA 0, 6, .inl (fun _ => 0))), (q2, .inl (cA 0, 6, .inl (fun _ => 0))), (q3, .inl (cA 0, 40, .inl (fun _ => 0)))] : va_W) = lay cA (fun k => match k with | 0 => h0 | 1 => q1 | 2 => q2 | 3 => q3 | _ => 0) shLX5 tS := by
    rfl
  have C := show Co Γ cX5_init RX5 cA 1 20 1 3 52 [(h0, .inr (5, [.ref q1, .ref q2, .ref q3, .int 0, .int 0, .int 6, .int 6, .int 0, .int 0])), (q1, .inl (cA 0, 6, .inl (fun _ => 0))), (q2, .inl (cA 0, 6, .inl (fun _ => 0))), (q3, .inl (cA 0, 40, .inl (fun _ => 0)))] 3 52 from C
  rw [he] at C
  have K := hend (fun k => match k with | 0 => h0 | 1 => q1 | 2 => q2 | 3 => q3 | _ => 0) 40 [(0, .ref h0)] rfl C dX5_init_40
  rw [← he] at K
  exact K
theorem hi_X5 : yX5_init.cls ≠ "java/lang/invoke/MethodHandle" ∧ yX5_init.cls ≠ "java/lang/invoke/VarHandle" ∧ (parseMethodDescriptor yX5_init.desc).map (fun d => d.parameters.length) = some 0 := by decide +kernel
def shLX4 : List Sh := [shX4, ar 150]
abbrev fsX4 : List Value := [.null, .int 0, .int 0, .int 0, .int 0, .int 0]
set_option maxRecDepth 20000 in
theorem i_X4 {l : Launch} {D : va_G} {cA : Nat → ClassId} : KI l D cA yX4_init cX4_init 1 1 20 1 150 4 fsX4 shLX4 zS := by
  refine KI.of (by decide) rfl (by decide) (fun Γ h0 hl hD C hend => ?_)
  have C : Co Γ cX4_init RX4 cA 1 20 1 1 150 [(h0, .inr (4, fsX4))] 0 0 := C
  refine x_aload_n C.1 dX4_init_0 rfl ?_
  refine n_oinit C umX4_3 dX4_init_1 (Nat.le_of_ble_eq_true rfl) (Nat.le_of_ble_eq_true rfl) ?_
  refine x_aload_n C.1 dX4_init_4 rfl ?_
  refine x_sipush C.1 (v := 150) dX4_init_5 (by decide) ?_
  refine n_newI C (N := 150) (by decide) rfl (by decide) (by decide) (by decide) dX4_init_8 (fun q1 C => ?_)
  refine n_putF C (T := TX4) (N := 6) (ci := 4) (j := 0) 0 ufX4_9 uwX4 tyX4 tyX4_ok nmX4 rfl (by decide) rfl rfl rfl rfl rfl rfl rfl (Nat.le_of_ble_eq_true rfl) dX4_init_10 (fun C => ?_)
  have he : ([(h0, .inr (4, [.ref q1, .int 0, .int 0, .int 0, .int 0, .int 0])), (q1, .inl (cA 0, 150, .inl (fun _ => 0)))] : va_W) = lay cA (fun k => match k with | 0 => h0 | 1 => q1 | _ => 0) shLX4 zS := by
    rfl
  have C := show Co Γ cX4_init RX4 cA 1 20 1 1 150 [(h0, .inr (4, [.ref q1, .int 0, .int 0, .int 0, .int 0, .int 0])), (q1, .inl (cA 0, 150, .inl (fun _ => 0)))] 1 150 from C
  rw [he] at C
  have K := hend (fun k => match k with | 0 => h0 | 1 => q1 | _ => 0) 13 [(0, .ref h0)] rfl C dX4_init_13
  rw [← he] at K
  exact K
theorem hi_X4 : yX4_init.cls ≠ "java/lang/invoke/MethodHandle" ∧ yX4_init.cls ≠ "java/lang/invoke/VarHandle" ∧ (parseMethodDescriptor yX4_init.desc).map (fun d => d.parameters.length) = some 0 := by decide +kernel
def shLX2 : List Sh := [shX2, ar 6, ar 6]
abbrev fsX2 : List Value := [.null, .null, .int 0]
set_option maxRecDepth 20000 in
theorem i_X2 {l : Launch} {D : va_G} {cA : Nat → ClassId} : KI l D cA yX2_init cX2_init 1 1 20 2 12 2 fsX2 shLX2 zS := by
  refine KI.of (by decide) rfl (by decide) (fun Γ h0 hl hD C hend => ?_)
  have C : Co Γ cX2_init RX2 cA 1 20 1 2 12 [(h0, .inr (2, fsX2))] 0 0 := C
  refine x_aload_n C.1 dX2_init_0 rfl ?_
  refine n_oinit C umX2_3 dX2_init_1 (Nat.le_of_ble_eq_true rfl) (Nat.le_of_ble_eq_true rfl) ?_
  refine x_aload_n C.1 dX2_init_4 rfl ?_
  refine x_bipush C.1 (v := 6) dX2_init_5 (by decide) ?_
  refine n_newI C (N := 6) (by decide) rfl (by decide) (by decide) (by decide) dX2_init_7 (fun q1 C => ?_)
  refine n_putF C (T := TX2) (N := 3) (ci := 2) (j := 0) 0 ufX2_9 uwX2 tyX2 tyX2_ok nmX2 rfl (by decide) rfl rfl rfl rfl rfl rfl rfl (Nat.le_of_ble_eq_true rfl) dX2_init_9 (fun C => ?_)
  refine x_aload_n C.1 dX2_init_12 rfl ?_
  refine x_bipush C.1 (v := 6) dX2_init_13 (by decide) ?_
  refine n_newI C (N := 6) (by decide) rfl (by decide) (by decide) (by decide) dX2_init_15 (fun q2 C => ?_)
  refine n_putF C (T := TX2) (N := 3) (ci := 2) (j := 1) 0 ufX2_15 uwX2 tyX2 tyX2_ok nmX2 rfl (by decide) rfl rfl rfl rfl rfl rfl rfl (Nat.le_of_ble_eq_true rfl) dX2_init_17 (fun C => ?_)
  have he : ([(h0, .inr (2, [.ref q1, .ref q2, .int 0])), (q1, .inl (cA 0, 6, .inl (fun _ => 0))), (q2, .inl (cA 0, 6, .inl (fun _ => 0)))] : va_W) = lay cA (fun k => match k with | 0 => h0 | 1 => q1 | 2 => q2 | _ => 0) shLX2 zS := by
    rfl
  have C := show Co Γ cX2_init RX2 cA 1 20 1 2 12 [(h0, .inr (2, [.ref q1, .ref q2, .int 0])), (q1, .inl (cA 0, 6, .inl (fun _ => 0))), (q2, .inl (cA 0, 6, .inl (fun _ => 0)))] 2 12 from C
  rw [he] at C
  have K := hend (fun k => match k with | 0 => h0 | 1 => q1 | 2 => q2 | _ => 0) 20 [(0, .ref h0)] rfl C dX2_init_20
  rw [← he] at K
  exact K
theorem hi_X2 : yX2_init.cls ≠ "java/lang/invoke/MethodHandle" ∧ yX2_init.cls ≠ "java/lang/invoke/VarHandle" ∧ (parseMethodDescriptor yX2_init.desc).map (fun d => d.parameters.length) = some 0 := by decide +kernel
def shLX0 : List Sh := [shX0, ar 310, ar 6]
abbrev fsX0 : List Value := [.null, .null, .int 0, .int 0]
set_option maxRecDepth 20000 in
theorem i_X0 {l : Launch} {D : va_G} {cA : Nat → ClassId} : KI l D cA yX0_init cX0_init 1 1 20 2 316 0 fsX0 shLX0 zS := by
  refine KI.of (by decide) rfl (by decide) (fun Γ h0 hl hD C hend => ?_)
  have C : Co Γ cX0_init RX0 cA 1 20 1 2 316 [(h0, .inr (0, fsX0))] 0 0 := C
  refine x_aload_n C.1 dX0_init_0 rfl ?_
  refine n_oinit C umX0_3 dX0_init_1 (Nat.le_of_ble_eq_true rfl) (Nat.le_of_ble_eq_true rfl) ?_
  refine x_aload_n C.1 dX0_init_4 rfl ?_
  refine x_sipush C.1 (v := 310) dX0_init_5 (by decide) ?_
  refine n_newI C (N := 310) (by decide) rfl (by decide) (by decide) (by decide) dX0_init_8 (fun q1 C => ?_)
  refine n_putF C (T := TX0) (N := 4) (ci := 0) (j := 0) 0 ufX0_9 uwX0 tyX0 tyX0_ok nmX0 rfl (by decide) rfl rfl rfl rfl rfl rfl rfl (Nat.le_of_ble_eq_true rfl) dX0_init_10 (fun C => ?_)
  refine x_aload_n C.1 dX0_init_13 rfl ?_
  refine x_bipush C.1 (v := 6) dX0_init_14 (by decide) ?_
  refine n_newI C (N := 6) (by decide) rfl (by decide) (by decide) (by decide) dX0_init_16 (fun q2 C => ?_)
  refine n_putF C (T := TX0) (N := 4) (ci := 0) (j := 1) 0 ufX0_15 uwX0 tyX0 tyX0_ok nmX0 rfl (by decide) rfl rfl rfl rfl rfl rfl rfl (Nat.le_of_ble_eq_true rfl) dX0_init_18 (fun C => ?_)
  have he : ([(h0, .inr (0, [.ref q1, .ref q2, .int 0, .int 0])), (q1, .inl (cA 0, 310, .inl (fun _ => 0))), (q2, .inl (cA 0, 6, .inl (fun _ => 0)))] : va_W) = lay cA (fun k => match k with | 0 => h0 | 1 => q1 | 2 => q2 | _ => 0) shLX0 zS := by
    rfl
  have C := show Co Γ cX0_init RX0 cA 1 20 1 2 316 [(h0, .inr (0, [.ref q1, .ref q2, .int 0, .int 0])), (q1, .inl (cA 0, 310, .inl (fun _ => 0))), (q2, .inl (cA 0, 6, .inl (fun _ => 0)))] 2 316 from C
  rw [he] at C
  have K := hend (fun k => match k with | 0 => h0 | 1 => q1 | 2 => q2 | _ => 0) 21 [(0, .ref h0)] rfl C dX0_init_21
  rw [← he] at K
  exact K
theorem hi_X0 : yX0_init.cls ≠ "java/lang/invoke/MethodHandle" ∧ yX0_init.cls ≠ "java/lang/invoke/VarHandle" ∧ (parseMethodDescriptor yX0_init.desc).map (fun d => d.parameters.length) = some 0 := by decide +kernel
