theorem y_incw {S : Type} {Γ : Gx S} {cc : ByteArray} {own : String} {cA : Nat → ClassId} {fr lo n : Nat} {σ : S} {pc : Nat} {L L' : List (Nat × Value)} {stk : List Value} (C : Cx Γ cc own cA fr lo n) {i j : Nat} {z : Int} {x v w : Int32} (hd : decode cc pc = .ok (.iinc i z, 3)) (hk : L[j]? = some (i, .int x)) (hv : Int32.ofInt z = v) (hw : x + v = w) (hn : i < n) (hl : lst i (.int w) L = L') (k : Wx Γ σ (pc + 3) L' stk) : Wx Γ σ pc L stk := by
  subst hw
  exact y_inc C hd hk hv hn hl k
theorem y_ge {S : Type} {Γ : Gx S} {cc : ByteArray} {own : String} {cA : Nat → ClassId} {fr lo n : Nat} {σ : S} {pc : Nat} {L : List (Nat × Value)} {stk : List Value} (C : Cx Γ cc own cA fr lo n) {x y : Int32} {off : Int} {tgt : Nat} (hd : decode cc pc = .ok (.if_icmp .ge off, 3)) (ht : (pc : Int) + off = (tgt : Int)) (kt : y ≤ x → Wx Γ σ tgt L stk) (kf : ¬ y ≤ x → Wx Γ σ (pc + 3) L stk) : Wx Γ σ pc L (.int y :: .int x :: stk) := by
  obtain ⟨⟨p, l, e, R, s, m, args, below, meth, c⟩, ⟨D, w, A, nL, cs, ss, Q⟩⟩ := Γ
  exact fun H locs ls hP hS hl => lv_icmp_ge C.1 C.2.1 hd ht (fun q => kt q H locs ls hP hS hl) (fun q => kf q H locs ls hP hS hl)
def shLX1 : List Sh := [shX1, ap 2 9 4] ++ (shLX3 ++ (shLX3 ++ (shLX3 ++ (shLX3 ++ (shLX3 ++ (shLX3 ++ (shLX3 ++ (shLX3 ++ shLX3))))))))
abbrev fsX1 : List Value := [.null, .int 0, .int 0]
theorem past_far (n : Nat) (a0 a1 a2 a3 a4 a5 a6 a7 a8 : Option Nat) {x : Option Nat} : va_up (va_up (va_up (va_up (va_up (va_up (va_up (va_up (va_up (fun _ => none) (0 : Int32).toNatClampNeg a0) (1 : Int32).toNatClampNeg a1) (2 : Int32).toNatClampNeg a2) (3 : Int32).toNatClampNeg a3) (4 : Int32).toNatClampNeg a4) (5 : Int32).toNatClampNeg a5) (6 : Int32).toNatClampNeg a6) (7 : Int32).toNatClampNeg a7) (8 : Int32).toNatClampNeg a8 (n + 9) = if n + 9 < 9 then x else none := by
  rw [if_neg (by omega)]
  have e : ∀ k : Nat, k < 9 → n + 9 ≠ k := fun k hk => by omega
  unfold va_up
  rw [show (0 : Int32).toNatClampNeg = 0 from rfl, show (1 : Int32).toNatClampNeg = 1 from rfl, show (2 : Int32).toNatClampNeg = 2 from rfl, show (3 : Int32).toNatClampNeg = 3 from rfl, show (4 : Int32).toNatClampNeg = 4 from rfl, show (5 : Int32).toNatClampNeg = 5 from rfl, show (6 : Int32).toNatClampNeg = 6 from rfl, show (7 : Int32).toNatClampNeg = 7 from rfl, show (8 : Int32).toNatClampNeg = 8 from rfl]
  rw [if_neg (e 8 (by decide)), if_neg (e 7 (by decide)), if_neg (e 6 (by decide)), if_neg (e 5 (by decide)), if_neg (e 4 (by decide)), if_neg (e 3 (by decide)), if_neg (e 2 (by decide)), if_neg (e 1 (by decide)), if_neg (e 0 (by decide))]
set_option maxRecDepth 20000 in
set_option maxHeartbeats 4000000 in
theorem i_X1 {l : Launch} {D : va_G} {cA : Nat → ClassId} : KI l D cA yX1_init cX1_init 2 2 60 37 1143 1 fsX1 shLX1 zS := by
  refine KI.of (by decide) rfl (by decide) (fun Γ h0 hl hD C hend => ?_)
  have C : Co Γ cX1_init RX1 cA 2 60 2 37 1143 [(h0, .inr (1, fsX1))] 0 0 := C
  refine x_aload_n C.1 dX1_init_0 rfl ?_
  refine n_oinit C umX1_3 dX1_init_1 (Nat.le_of_ble_eq_true rfl) (Nat.le_of_ble_eq_true rfl) ?_
  refine x_aload_n C.1 dX1_init_4 rfl ?_
  refine x_bipush C.1 (v := 9) dX1_init_5 (by decide) ?_
  refine n_newq C (N := 9) (t := 2) (Or.inl ⟨rfl, rfl⟩) ulX1_9 (by decide) rfl (by decide) (by decide) (by decide) dX1_init_7 (fun qa C => ?_)
  refine n_putF C (T := TX1) (N := 3) (ci := 1) (j := 0) 0 ufX1_11 uwX1 tyX1 tyX1_ok nmX1 rfl (by decide) rfl rfl rfl rfl rfl rfl rfl (Nat.le_of_ble_eq_true rfl) dX1_init_10 (fun C => ?_)
  refine x_iconst C.1 (v := 0) dX1_init_13 (by decide) ?_
  refine x_istore_n C.1 (L' := [(1, .int 0), (0, .ref h0)]) dX1_init_14 (by decide) rfl ?_
  have C : Co Γ cX1_init RX1 cA 2 60 2 37 1143 ((h0, .inr (1, [.ref qa, .int 0, .int 0])) :: (qa, .inl (cA 2, 9, .inr (.inr (.inr (.inr (fun _ => none)))))) :: []) 1 9 := C
  show Wx (Gw Γ ((h0, .inr (1, [.ref qa, .int 0, .int 0])) :: (qa, .inl (cA 2, 9, .inr (.inr (.inr (.inr (fun _ => none)))))) :: []) 1 9) () 15 [(1, .int 0), (0, .ref h0)] []
  refine x_iload_n C.1 dX1_init_15 rfl ?_
  refine x_bipush C.1 (v := 8) dX1_init_16 (by decide) ?_
  refine y_gt C.1 (tgt := 40) dX1_init_18 (by decide) (fun q => absurd q (by decide)) (fun _ => ?_)
  refine x_aload_n C.1 dX1_init_21 rfl ?_
  refine n_get C (T := TX1) (N := 3) (ci := 1) (j := 0) 0 ufX1_11 uwX1 rfl (by decide) rfl rfl rfl dX1_init_22 ?_
  refine x_iload_n C.1 dX1_init_25 rfl ?_
  refine n_new C (fs := fsX3) (N := 6) (ci := 3) uwX3 tyX3 tyX3_ok ulX1_9 uo_X3 un_X3 rfl (fun j hj => by rcases (show j = 0 ∨ j = 1 ∨ j = 2 ∨ j = 3 ∨ j = 4 ∨ j = 5 by omega) with rfl | rfl | rfl | rfl | rfl | rfl <;> rfl) (by decide) (by decide) dX1_init_26 (fun q0 C => ?_)
  refine x_dup C.1 rfl dX1_init_29 ?_
  refine n_callI hl hD C i_X3 (Or.inr ⟨_, fun _ h => nmX1_17 h⟩) ui_X3_init un_X3 uc_X3_init rfl hi_X3 (by decide) (by decide) (by decide) dX1_init_30 (Nat.le_of_ble_eq_true rfl) (fun p0 hp0 C2 => ?_)
  subst hp0
  have C := C2
  clear C2
  refine n_aast C 1 2 2 3 (r := (RX3, TX3, 6)) (i := 0) rfl rfl rfl rfl (by unfold vp_in; decide) dX1_init_33 (fun C => ?_)
  refine y_incw C.1 (j := 0) (v := 1) (w := 1) (L' := [(1, .int 1), (0, .ref h0)]) dX1_init_34 rfl (by decide) (by decide) (by decide) rfl ?_
  refine x_goto C.1 (tgt := 15) dX1_init_37 (by decide) ?_
  have C : Co Γ cX1_init RX1 cA 2 60 2 37 1143 ((h0, .inr (1, [.ref qa, .int 0, .int 0])) :: (qa, .inl (cA 2, 9, .inr (.inr (.inr (.inr (va_up (fun _ => none) (0 : Int32).toNatClampNeg (some (p0 0)))))))) :: ([] ++ lay cA p0 shLX3 zS)) 5 135 := C
  show Wx (Gw Γ ((h0, .inr (1, [.ref qa, .int 0, .int 0])) :: (qa, .inl (cA 2, 9, .inr (.inr (.inr (.inr (va_up (fun _ => none) (0 : Int32).toNatClampNeg (some (p0 0)))))))) :: ([] ++ lay cA p0 shLX3 zS)) 5 135) () 15 [(1, .int 1), (0, .ref h0)] []
  refine x_iload_n C.1 dX1_init_15 rfl ?_
  refine x_bipush C.1 (v := 8) dX1_init_16 (by decide) ?_
  refine y_gt C.1 (tgt := 40) dX1_init_18 (by decide) (fun q => absurd q (by decide)) (fun _ => ?_)
  refine x_aload_n C.1 dX1_init_21 rfl ?_
  refine n_get C (T := TX1) (N := 3) (ci := 1) (j := 0) 0 ufX1_11 uwX1 rfl (by decide) rfl rfl rfl dX1_init_22 ?_
  refine x_iload_n C.1 dX1_init_25 rfl ?_
  refine n_new C (fs := fsX3) (N := 6) (ci := 3) uwX3 tyX3 tyX3_ok ulX1_9 uo_X3 un_X3 rfl (fun j hj => by rcases (show j = 0 ∨ j = 1 ∨ j = 2 ∨ j = 3 ∨ j = 4 ∨ j = 5 by omega) with rfl | rfl | rfl | rfl | rfl | rfl <;> rfl) (by decide) (by decide) dX1_init_26 (fun q1 C => ?_)
  refine x_dup C.1 rfl dX1_init_29 ?_
  refine n_callI hl hD C i_X3 (Or.inr ⟨_, fun _ h => nmX1_17 h⟩) ui_X3_init un_X3 uc_X3_init rfl hi_X3 (by decide) (by decide) (by decide) dX1_init_30 (Nat.le_of_ble_eq_true rfl) (fun p1 hp1 C2 => ?_)
  subst hp1
  have C := C2
  clear C2
  refine n_aast C 1 2 6 3 (r := (RX3, TX3, 6)) (i := 1) rfl rfl rfl rfl (by unfold vp_in; decide) dX1_init_33 (fun C => ?_)
  refine y_incw C.1 (j := 0) (v := 1) (w := 2) (L' := [(1, .int 2), (0, .ref h0)]) dX1_init_34 rfl (by decide) (by decide) (by decide) rfl ?_
  refine x_goto C.1 (tgt := 15) dX1_init_37 (by decide) ?_
  have C : Co Γ cX1_init RX1 cA 2 60 2 37 1143 ((h0, .inr (1, [.ref qa, .int 0, .int 0])) :: (qa, .inl (cA 2, 9, .inr (.inr (.inr (.inr (va_up (va_up (fun _ => none) (0 : Int32).toNatClampNeg (some (p0 0))) (1 : Int32).toNatClampNeg (some (p1 0)))))))) :: (([] ++ lay cA p0 shLX3 zS) ++ lay cA p1 shLX3 zS)) 9 261 := C
  show Wx (Gw Γ ((h0, .inr (1, [.ref qa, .int 0, .int 0])) :: (qa, .inl (cA 2, 9, .inr (.inr (.inr (.inr (va_up (va_up (fun _ => none) (0 : Int32).toNatClampNeg (some (p0 0))) (1 : Int32).toNatClampNeg (some (p1 0)))))))) :: (([] ++ lay cA p0 shLX3 zS) ++ lay cA p1 shLX3 zS)) 9 261) () 15 [(1, .int 2), (0, .ref h0)] []
  refine x_iload_n C.1 dX1_init_15 rfl ?_
  refine x_bipush C.1 (v := 8) dX1_init_16 (by decide) ?_
  refine y_gt C.1 (tgt := 40) dX1_init_18 (by decide) (fun q => absurd q (by decide)) (fun _ => ?_)
  refine x_aload_n C.1 dX1_init_21 rfl ?_
  refine n_get C (T := TX1) (N := 3) (ci := 1) (j := 0) 0 ufX1_11 uwX1 rfl (by decide) rfl rfl rfl dX1_init_22 ?_
  refine x_iload_n C.1 dX1_init_25 rfl ?_
  refine n_new C (fs := fsX3) (N := 6) (ci := 3) uwX3 tyX3 tyX3_ok ulX1_9 uo_X3 un_X3 rfl (fun j hj => by rcases (show j = 0 ∨ j = 1 ∨ j = 2 ∨ j = 3 ∨ j = 4 ∨ j = 5 by omega) with rfl | rfl | rfl | rfl | rfl | rfl <;> rfl) (by decide) (by decide) dX1_init_26 (fun q2 C => ?_)
  refine x_dup C.1 rfl dX1_init_29 ?_
  refine n_callI hl hD C i_X3 (Or.inr ⟨_, fun _ h => nmX1_17 h⟩) ui_X3_init un_X3 uc_X3_init rfl hi_X3 (by decide) (by decide) (by decide) dX1_init_30 (Nat.le_of_ble_eq_true rfl) (fun p2 hp2 C2 => ?_)
  subst hp2
  have C := C2
  clear C2
  refine n_aast C 1 2 10 3 (r := (RX3, TX3, 6)) (i := 2) rfl rfl rfl rfl (by unfold vp_in; decide) dX1_init_33 (fun C => ?_)
  refine y_incw C.1 (j := 0) (v := 1) (w := 3) (L' := [(1, .int 3), (0, .ref h0)]) dX1_init_34 rfl (by decide) (by decide) (by decide) rfl ?_
  refine x_goto C.1 (tgt := 15) dX1_init_37 (by decide) ?_
  have C : Co Γ cX1_init RX1 cA 2 60 2 37 1143 ((h0, .inr (1, [.ref qa, .int 0, .int 0])) :: (qa, .inl (cA 2, 9, .inr (.inr (.inr (.inr (va_up (va_up (va_up (fun _ => none) (0 : Int32).toNatClampNeg (some (p0 0))) (1 : Int32).toNatClampNeg (some (p1 0))) (2 : Int32).toNatClampNeg (some (p2 0)))))))) :: ((([] ++ lay cA p0 shLX3 zS) ++ lay cA p1 shLX3 zS) ++ lay cA p2 shLX3 zS)) 13 387 := C
  show Wx (Gw Γ ((h0, .inr (1, [.ref qa, .int 0, .int 0])) :: (qa, .inl (cA 2, 9, .inr (.inr (.inr (.inr (va_up (va_up (va_up (fun _ => none) (0 : Int32).toNatClampNeg (some (p0 0))) (1 : Int32).toNatClampNeg (some (p1 0))) (2 : Int32).toNatClampNeg (some (p2 0)))))))) :: ((([] ++ lay cA p0 shLX3 zS) ++ lay cA p1 shLX3 zS) ++ lay cA p2 shLX3 zS)) 13 387) () 15 [(1, .int 3), (0, .ref h0)] []
  refine x_iload_n C.1 dX1_init_15 rfl ?_
  refine x_bipush C.1 (v := 8) dX1_init_16 (by decide) ?_
  refine y_gt C.1 (tgt := 40) dX1_init_18 (by decide) (fun q => absurd q (by decide)) (fun _ => ?_)
  refine x_aload_n C.1 dX1_init_21 rfl ?_
  refine n_get C (T := TX1) (N := 3) (ci := 1) (j := 0) 0 ufX1_11 uwX1 rfl (by decide) rfl rfl rfl dX1_init_22 ?_
  refine x_iload_n C.1 dX1_init_25 rfl ?_
  refine n_new C (fs := fsX3) (N := 6) (ci := 3) uwX3 tyX3 tyX3_ok ulX1_9 uo_X3 un_X3 rfl (fun j hj => by rcases (show j = 0 ∨ j = 1 ∨ j = 2 ∨ j = 3 ∨ j = 4 ∨ j = 5 by omega) with rfl | rfl | rfl | rfl | rfl | rfl <;> rfl) (by decide) (by decide) dX1_init_26 (fun q3 C => ?_)
  refine x_dup C.1 rfl dX1_init_29 ?_
  refine n_callI hl hD C i_X3 (Or.inr ⟨_, fun _ h => nmX1_17 h⟩) ui_X3_init un_X3 uc_X3_init rfl hi_X3 (by decide) (by decide) (by decide) dX1_init_30 (Nat.le_of_ble_eq_true rfl) (fun p3 hp3 C2 => ?_)
  subst hp3
  have C := C2
  clear C2
  refine n_aast C 1 2 14 3 (r := (RX3, TX3, 6)) (i := 3) rfl rfl rfl rfl (by unfold vp_in; decide) dX1_init_33 (fun C => ?_)
  refine y_incw C.1 (j := 0) (v := 1) (w := 4) (L' := [(1, .int 4), (0, .ref h0)]) dX1_init_34 rfl (by decide) (by decide) (by decide) rfl ?_
  refine x_goto C.1 (tgt := 15) dX1_init_37 (by decide) ?_
  have C : Co Γ cX1_init RX1 cA 2 60 2 37 1143 ((h0, .inr (1, [.ref qa, .int 0, .int 0])) :: (qa, .inl (cA 2, 9, .inr (.inr (.inr (.inr (va_up (va_up (va_up (va_up (fun _ => none) (0 : Int32).toNatClampNeg (some (p0 0))) (1 : Int32).toNatClampNeg (some (p1 0))) (2 : Int32).toNatClampNeg (some (p2 0))) (3 : Int32).toNatClampNeg (some (p3 0)))))))) :: (((([] ++ lay cA p0 shLX3 zS) ++ lay cA p1 shLX3 zS) ++ lay cA p2 shLX3 zS) ++ lay cA p3 shLX3 zS)) 17 513 := C
  show Wx (Gw Γ ((h0, .inr (1, [.ref qa, .int 0, .int 0])) :: (qa, .inl (cA 2, 9, .inr (.inr (.inr (.inr (va_up (va_up (va_up (va_up (fun _ => none) (0 : Int32).toNatClampNeg (some (p0 0))) (1 : Int32).toNatClampNeg (some (p1 0))) (2 : Int32).toNatClampNeg (some (p2 0))) (3 : Int32).toNatClampNeg (some (p3 0)))))))) :: (((([] ++ lay cA p0 shLX3 zS) ++ lay cA p1 shLX3 zS) ++ lay cA p2 shLX3 zS) ++ lay cA p3 shLX3 zS)) 17 513) () 15 [(1, .int 4), (0, .ref h0)] []
  refine x_iload_n C.1 dX1_init_15 rfl ?_
  refine x_bipush C.1 (v := 8) dX1_init_16 (by decide) ?_
  refine y_gt C.1 (tgt := 40) dX1_init_18 (by decide) (fun q => absurd q (by decide)) (fun _ => ?_)
  refine x_aload_n C.1 dX1_init_21 rfl ?_
  refine n_get C (T := TX1) (N := 3) (ci := 1) (j := 0) 0 ufX1_11 uwX1 rfl (by decide) rfl rfl rfl dX1_init_22 ?_
  refine x_iload_n C.1 dX1_init_25 rfl ?_
  refine n_new C (fs := fsX3) (N := 6) (ci := 3) uwX3 tyX3 tyX3_ok ulX1_9 uo_X3 un_X3 rfl (fun j hj => by rcases (show j = 0 ∨ j = 1 ∨ j = 2 ∨ j = 3 ∨ j = 4 ∨ j = 5 by omega) with rfl | rfl | rfl | rfl | rfl | rfl <;> rfl) (by decide) (by decide) dX1_init_26 (fun q4 C => ?_)
  refine x_dup C.1 rfl dX1_init_29 ?_
  refine n_callI hl hD C i_X3 (Or.inr ⟨_, fun _ h => nmX1_17 h⟩) ui_X3_init un_X3 uc_X3_init rfl hi_X3 (by decide) (by decide) (by decide) dX1_init_30 (Nat.le_of_ble_eq_true rfl) (fun p4 hp4 C2 => ?_)
  subst hp4
  have C := C2
  clear C2
  refine n_aast C 1 2 18 3 (r := (RX3, TX3, 6)) (i := 4) rfl rfl rfl rfl (by unfold vp_in; decide) dX1_init_33 (fun C => ?_)
  refine y_incw C.1 (j := 0) (v := 1) (w := 5) (L' := [(1, .int 5), (0, .ref h0)]) dX1_init_34 rfl (by decide) (by decide) (by decide) rfl ?_
  refine x_goto C.1 (tgt := 15) dX1_init_37 (by decide) ?_
  have C : Co Γ cX1_init RX1 cA 2 60 2 37 1143 ((h0, .inr (1, [.ref qa, .int 0, .int 0])) :: (qa, .inl (cA 2, 9, .inr (.inr (.inr (.inr (va_up (va_up (va_up (va_up (va_up (fun _ => none) (0 : Int32).toNatClampNeg (some (p0 0))) (1 : Int32).toNatClampNeg (some (p1 0))) (2 : Int32).toNatClampNeg (some (p2 0))) (3 : Int32).toNatClampNeg (some (p3 0))) (4 : Int32).toNatClampNeg (some (p4 0)))))))) :: ((((([] ++ lay cA p0 shLX3 zS) ++ lay cA p1 shLX3 zS) ++ lay cA p2 shLX3 zS) ++ lay cA p3 shLX3 zS) ++ lay cA p4 shLX3 zS)) 21 639 := C
  show Wx (Gw Γ ((h0, .inr (1, [.ref qa, .int 0, .int 0])) :: (qa, .inl (cA 2, 9, .inr (.inr (.inr (.inr (va_up (va_up (va_up (va_up (va_up (fun _ => none) (0 : Int32).toNatClampNeg (some (p0 0))) (1 : Int32).toNatClampNeg (some (p1 0))) (2 : Int32).toNatClampNeg (some (p2 0))) (3 : Int32).toNatClampNeg (some (p3 0))) (4 : Int32).toNatClampNeg (some (p4 0)))))))) :: ((((([] ++ lay cA p0 shLX3 zS) ++ lay cA p1 shLX3 zS) ++ lay cA p2 shLX3 zS) ++ lay cA p3 shLX3 zS) ++ lay cA p4 shLX3 zS)) 21 639) () 15 [(1, .int 5), (0, .ref h0)] []
  refine x_iload_n C.1 dX1_init_15 rfl ?_
  refine x_bipush C.1 (v := 8) dX1_init_16 (by decide) ?_
  refine y_gt C.1 (tgt := 40) dX1_init_18 (by decide) (fun q => absurd q (by decide)) (fun _ => ?_)
  refine x_aload_n C.1 dX1_init_21 rfl ?_
  refine n_get C (T := TX1) (N := 3) (ci := 1) (j := 0) 0 ufX1_11 uwX1 rfl (by decide) rfl rfl rfl dX1_init_22 ?_
  refine x_iload_n C.1 dX1_init_25 rfl ?_
  refine n_new C (fs := fsX3) (N := 6) (ci := 3) uwX3 tyX3 tyX3_ok ulX1_9 uo_X3 un_X3 rfl (fun j hj => by rcases (show j = 0 ∨ j = 1 ∨ j = 2 ∨ j = 3 ∨ j = 4 ∨ j = 5 by omega) with rfl | rfl | rfl | rfl | rfl | rfl <;> rfl) (by decide) (by decide) dX1_init_26 (fun q5 C => ?_)
  refine x_dup C.1 rfl dX1_init_29 ?_
  refine n_callI hl hD C i_X3 (Or.inr ⟨_, fun _ h => nmX1_17 h⟩) ui_X3_init un_X3 uc_X3_init rfl hi_X3 (by decide) (by decide) (by decide) dX1_init_30 (Nat.le_of_ble_eq_true rfl) (fun p5 hp5 C2 => ?_)
  subst hp5
  have C := C2
  clear C2
  refine n_aast C 1 2 22 3 (r := (RX3, TX3, 6)) (i := 5) rfl rfl rfl rfl (by unfold vp_in; decide) dX1_init_33 (fun C => ?_)
  refine y_incw C.1 (j := 0) (v := 1) (w := 6) (L' := [(1, .int 6), (0, .ref h0)]) dX1_init_34 rfl (by decide) (by decide) (by decide) rfl ?_
  refine x_goto C.1 (tgt := 15) dX1_init_37 (by decide) ?_
  have C : Co Γ cX1_init RX1 cA 2 60 2 37 1143 ((h0, .inr (1, [.ref qa, .int 0, .int 0])) :: (qa, .inl (cA 2, 9, .inr (.inr (.inr (.inr (va_up (va_up (va_up (va_up (va_up (va_up (fun _ => none) (0 : Int32).toNatClampNeg (some (p0 0))) (1 : Int32).toNatClampNeg (some (p1 0))) (2 : Int32).toNatClampNeg (some (p2 0))) (3 : Int32).toNatClampNeg (some (p3 0))) (4 : Int32).toNatClampNeg (some (p4 0))) (5 : Int32).toNatClampNeg (some (p5 0)))))))) :: (((((([] ++ lay cA p0 shLX3 zS) ++ lay cA p1 shLX3 zS) ++ lay cA p2 shLX3 zS) ++ lay cA p3 shLX3 zS) ++ lay cA p4 shLX3 zS) ++ lay cA p5 shLX3 zS)) 25 765 := C
  show Wx (Gw Γ ((h0, .inr (1, [.ref qa, .int 0, .int 0])) :: (qa, .inl (cA 2, 9, .inr (.inr (.inr (.inr (va_up (va_up (va_up (va_up (va_up (va_up (fun _ => none) (0 : Int32).toNatClampNeg (some (p0 0))) (1 : Int32).toNatClampNeg (some (p1 0))) (2 : Int32).toNatClampNeg (some (p2 0))) (3 : Int32).toNatClampNeg (some (p3 0))) (4 : Int32).toNatClampNeg (some (p4 0))) (5 : Int32).toNatClampNeg (some (p5 0)))))))) :: (((((([] ++ lay cA p0 shLX3 zS) ++ lay cA p1 shLX3 zS) ++ lay cA p2 shLX3 zS) ++ lay cA p3 shLX3 zS) ++ lay cA p4 shLX3 zS) ++ lay cA p5 shLX3 zS)) 25 765) () 15 [(1, .int 6), (0, .ref h0)] []
  refine x_iload_n C.1 dX1_init_15 rfl ?_
  refine x_bipush C.1 (v := 8) dX1_init_16 (by decide) ?_
  refine y_gt C.1 (tgt := 40) dX1_init_18 (by decide) (fun q => absurd q (by decide)) (fun _ => ?_)
  refine x_aload_n C.1 dX1_init_21 rfl ?_
  refine n_get C (T := TX1) (N := 3) (ci := 1) (j := 0) 0 ufX1_11 uwX1 rfl (by decide) rfl rfl rfl dX1_init_22 ?_
  refine x_iload_n C.1 dX1_init_25 rfl ?_
  refine n_new C (fs := fsX3) (N := 6) (ci := 3) uwX3 tyX3 tyX3_ok ulX1_9 uo_X3 un_X3 rfl (fun j hj => by rcases (show j = 0 ∨ j = 1 ∨ j = 2 ∨ j = 3 ∨ j = 4 ∨ j = 5 by omega) with rfl | rfl | rfl | rfl | rfl | rfl <;> rfl) (by decide) (by decide) dX1_init_26 (fun q6 C => ?_)
  refine x_dup C.1 rfl dX1_init_29 ?_
  refine n_callI hl hD C i_X3 (Or.inr ⟨_, fun _ h => nmX1_17 h⟩) ui_X3_init un_X3 uc_X3_init rfl hi_X3 (by decide) (by decide) (by decide) dX1_init_30 (Nat.le_of_ble_eq_true rfl) (fun p6 hp6 C2 => ?_)
  subst hp6
  have C := C2
  clear C2
  refine n_aast C 1 2 26 3 (r := (RX3, TX3, 6)) (i := 6) rfl rfl rfl rfl (by unfold vp_in; decide) dX1_init_33 (fun C => ?_)
  refine y_incw C.1 (j := 0) (v := 1) (w := 7) (L' := [(1, .int 7), (0, .ref h0)]) dX1_init_34 rfl (by decide) (by decide) (by decide) rfl ?_
  refine x_goto C.1 (tgt := 15) dX1_init_37 (by decide) ?_
  have C : Co Γ cX1_init RX1 cA 2 60 2 37 1143 ((h0, .inr (1, [.ref qa, .int 0, .int 0])) :: (qa, .inl (cA 2, 9, .inr (.inr (.inr (.inr (va_up (va_up (va_up (va_up (va_up (va_up (va_up (fun _ => none) (0 : Int32).toNatClampNeg (some (p0 0))) (1 : Int32).toNatClampNeg (some (p1 0))) (2 : Int32).toNatClampNeg (some (p2 0))) (3 : Int32).toNatClampNeg (some (p3 0))) (4 : Int32).toNatClampNeg (some (p4 0))) (5 : Int32).toNatClampNeg (some (p5 0))) (6 : Int32).toNatClampNeg (some (p6 0)))))))) :: ((((((([] ++ lay cA p0 shLX3 zS) ++ lay cA p1 shLX3 zS) ++ lay cA p2 shLX3 zS) ++ lay cA p3 shLX3 zS) ++ lay cA p4 shLX3 zS) ++ lay cA p5 shLX3 zS) ++ lay cA p6 shLX3 zS)) 29 891 := C
  show Wx (Gw Γ ((h0, .inr (1, [.ref qa, .int 0, .int 0])) :: (qa, .inl (cA 2, 9, .inr (.inr (.inr (.inr (va_up (va_up (va_up (va_up (va_up (va_up (va_up (fun _ => none) (0 : Int32).toNatClampNeg (some (p0 0))) (1 : Int32).toNatClampNeg (some (p1 0))) (2 : Int32).toNatClampNeg (some (p2 0))) (3 : Int32).toNatClampNeg (some (p3 0))) (4 : Int32).toNatClampNeg (some (p4 0))) (5 : Int32).toNatClampNeg (some (p5 0))) (6 : Int32).toNatClampNeg (some (p6 0)))))))) :: ((((((([] ++ lay cA p0 shLX3 zS) ++ lay cA p1 shLX3 zS) ++ lay cA p2 shLX3 zS) ++ lay cA p3 shLX3 zS) ++ lay cA p4 shLX3 zS) ++ lay cA p5 shLX3 zS) ++ lay cA p6 shLX3 zS)) 29 891) () 15 [(1, .int 7), (0, .ref h0)] []
  refine x_iload_n C.1 dX1_init_15 rfl ?_
  refine x_bipush C.1 (v := 8) dX1_init_16 (by decide) ?_
  refine y_gt C.1 (tgt := 40) dX1_init_18 (by decide) (fun q => absurd q (by decide)) (fun _ => ?_)
  refine x_aload_n C.1 dX1_init_21 rfl ?_
  refine n_get C (T := TX1) (N := 3) (ci := 1) (j := 0) 0 ufX1_11 uwX1 rfl (by decide) rfl rfl rfl dX1_init_22 ?_
  refine x_iload_n C.1 dX1_init_25 rfl ?_
  refine n_new C (fs := fsX3) (N := 6) (ci := 3) uwX3 tyX3 tyX3_ok ulX1_9 uo_X3 un_X3 rfl (fun j hj => by rcases (show j = 0 ∨ j = 1 ∨ j = 2 ∨ j = 3 ∨ j = 4 ∨ j = 5 by omega) with rfl | rfl | rfl | rfl | rfl | rfl <;> rfl) (by decide) (by decide) dX1_init_26 (fun q7 C => ?_)
  refine x_dup C.1 rfl dX1_init_29 ?_
  refine n_callI hl hD C i_X3 (Or.inr ⟨_, fun _ h => nmX1_17 h⟩) ui_X3_init un_X3 uc_X3_init rfl hi_X3 (by decide) (by decide) (by decide) dX1_init_30 (Nat.le_of_ble_eq_true rfl) (fun p7 hp7 C2 => ?_)
  subst hp7
  have C := C2
  clear C2
  refine n_aast C 1 2 30 3 (r := (RX3, TX3, 6)) (i := 7) rfl rfl rfl rfl (by unfold vp_in; decide) dX1_init_33 (fun C => ?_)
  refine y_incw C.1 (j := 0) (v := 1) (w := 8) (L' := [(1, .int 8), (0, .ref h0)]) dX1_init_34 rfl (by decide) (by decide) (by decide) rfl ?_
  refine x_goto C.1 (tgt := 15) dX1_init_37 (by decide) ?_
  have C : Co Γ cX1_init RX1 cA 2 60 2 37 1143 ((h0, .inr (1, [.ref qa, .int 0, .int 0])) :: (qa, .inl (cA 2, 9, .inr (.inr (.inr (.inr (va_up (va_up (va_up (va_up (va_up (va_up (va_up (va_up (fun _ => none) (0 : Int32).toNatClampNeg (some (p0 0))) (1 : Int32).toNatClampNeg (some (p1 0))) (2 : Int32).toNatClampNeg (some (p2 0))) (3 : Int32).toNatClampNeg (some (p3 0))) (4 : Int32).toNatClampNeg (some (p4 0))) (5 : Int32).toNatClampNeg (some (p5 0))) (6 : Int32).toNatClampNeg (some (p6 0))) (7 : Int32).toNatClampNeg (some (p7 0)))))))) :: (((((((([] ++ lay cA p0 shLX3 zS) ++ lay cA p1 shLX3 zS) ++ lay cA p2 shLX3 zS) ++ lay cA p3 shLX3 zS) ++ lay cA p4 shLX3 zS) ++ lay cA p5 shLX3 zS) ++ lay cA p6 shLX3 zS) ++ lay cA p7 shLX3 zS)) 33 1017 := C
  show Wx (Gw Γ ((h0, .inr (1, [.ref qa, .int 0, .int 0])) :: (qa, .inl (cA 2, 9, .inr (.inr (.inr (.inr (va_up (va_up (va_up (va_up (va_up (va_up (va_up (va_up (fun _ => none) (0 : Int32).toNatClampNeg (some (p0 0))) (1 : Int32).toNatClampNeg (some (p1 0))) (2 : Int32).toNatClampNeg (some (p2 0))) (3 : Int32).toNatClampNeg (some (p3 0))) (4 : Int32).toNatClampNeg (some (p4 0))) (5 : Int32).toNatClampNeg (some (p5 0))) (6 : Int32).toNatClampNeg (some (p6 0))) (7 : Int32).toNatClampNeg (some (p7 0)))))))) :: (((((((([] ++ lay cA p0 shLX3 zS) ++ lay cA p1 shLX3 zS) ++ lay cA p2 shLX3 zS) ++ lay cA p3 shLX3 zS) ++ lay cA p4 shLX3 zS) ++ lay cA p5 shLX3 zS) ++ lay cA p6 shLX3 zS) ++ lay cA p7 shLX3 zS)) 33 1017) () 15 [(1, .int 8), (0, .ref h0)] []
  refine x_iload_n C.1 dX1_init_15 rfl ?_
  refine x_bipush C.1 (v := 8) dX1_init_16 (by decide) ?_
  refine y_gt C.1 (tgt := 40) dX1_init_18 (by decide) (fun q => absurd q (by decide)) (fun _ => ?_)
  refine x_aload_n C.1 dX1_init_21 rfl ?_
  refine n_get C (T := TX1) (N := 3) (ci := 1) (j := 0) 0 ufX1_11 uwX1 rfl (by decide) rfl rfl rfl dX1_init_22 ?_
  refine x_iload_n C.1 dX1_init_25 rfl ?_
  refine n_new C (fs := fsX3) (N := 6) (ci := 3) uwX3 tyX3 tyX3_ok ulX1_9 uo_X3 un_X3 rfl (fun j hj => by rcases (show j = 0 ∨ j = 1 ∨ j = 2 ∨ j = 3 ∨ j = 4 ∨ j = 5 by omega) with rfl | rfl | rfl | rfl | rfl | rfl <;> rfl) (by decide) (by decide) dX1_init_26 (fun q8 C => ?_)
  refine x_dup C.1 rfl dX1_init_29 ?_
  refine n_callI hl hD C i_X3 (Or.inr ⟨_, fun _ h => nmX1_17 h⟩) ui_X3_init un_X3 uc_X3_init rfl hi_X3 (by decide) (by decide) (by decide) dX1_init_30 (Nat.le_of_ble_eq_true rfl) (fun p8 hp8 C2 => ?_)
  subst hp8
  have C := C2
  clear C2
  refine n_aast C 1 2 34 3 (r := (RX3, TX3, 6)) (i := 8) rfl rfl rfl rfl (by unfold vp_in; decide) dX1_init_33 (fun C => ?_)
  refine y_incw C.1 (j := 0) (v := 1) (w := 9) (L' := [(1, .int 9), (0, .ref h0)]) dX1_init_34 rfl (by decide) (by decide) (by decide) rfl ?_
  refine x_goto C.1 (tgt := 15) dX1_init_37 (by decide) ?_
  have C : Co Γ cX1_init RX1 cA 2 60 2 37 1143 ((h0, .inr (1, [.ref qa, .int 0, .int 0])) :: (qa, .inl (cA 2, 9, .inr (.inr (.inr (.inr (va_up (va_up (va_up (va_up (va_up (va_up (va_up (va_up (va_up (fun _ => none) (0 : Int32).toNatClampNeg (some (p0 0))) (1 : Int32).toNatClampNeg (some (p1 0))) (2 : Int32).toNatClampNeg (some (p2 0))) (3 : Int32).toNatClampNeg (some (p3 0))) (4 : Int32).toNatClampNeg (some (p4 0))) (5 : Int32).toNatClampNeg (some (p5 0))) (6 : Int32).toNatClampNeg (some (p6 0))) (7 : Int32).toNatClampNeg (some (p7 0))) (8 : Int32).toNatClampNeg (some (p8 0)))))))) :: ((((((((([] ++ lay cA p0 shLX3 zS) ++ lay cA p1 shLX3 zS) ++ lay cA p2 shLX3 zS) ++ lay cA p3 shLX3 zS) ++ lay cA p4 shLX3 zS) ++ lay cA p5 shLX3 zS) ++ lay cA p6 shLX3 zS) ++ lay cA p7 shLX3 zS) ++ lay cA p8 shLX3 zS)) 37 1143 := C
  show Wx (Gw Γ ((h0, .inr (1, [.ref qa, .int 0, .int 0])) :: (qa, .inl (cA 2, 9, .inr (.inr (.inr (.inr (va_up (va_up (va_up (va_up (va_up (va_up (va_up (va_up (va_up (fun _ => none) (0 : Int32).toNatClampNeg (some (p0 0))) (1 : Int32).toNatClampNeg (some (p1 0))) (2 : Int32).toNatClampNeg (some (p2 0))) (3 : Int32).toNatClampNeg (some (p3 0))) (4 : Int32).toNatClampNeg (some (p4 0))) (5 : Int32).toNatClampNeg (some (p5 0))) (6 : Int32).toNatClampNeg (some (p6 0))) (7 : Int32).toNatClampNeg (some (p7 0))) (8 : Int32).toNatClampNeg (some (p8 0)))))))) :: ((((((((([] ++ lay cA p0 shLX3 zS) ++ lay cA p1 shLX3 zS) ++ lay cA p2 shLX3 zS) ++ lay cA p3 shLX3 zS) ++ lay cA p4 shLX3 zS) ++ lay cA p5 shLX3 zS) ++ lay cA p6 shLX3 zS) ++ lay cA p7 shLX3 zS) ++ lay cA p8 shLX3 zS)) 37 1143) () 15 [(1, .int 9), (0, .ref h0)] []
  refine x_iload_n C.1 dX1_init_15 rfl ?_
  refine x_bipush C.1 (v := 8) dX1_init_16 (by decide) ?_
  refine y_gt C.1 (tgt := 40) dX1_init_18 (by decide) (fun _ => ?_) (fun q => absurd (by decide) q)
  have hf : (va_up (va_up (va_up (va_up (va_up (va_up (va_up (va_up (va_up (fun _ => none) (0 : Int32).toNatClampNeg (some (p0 0))) (1 : Int32).toNatClampNeg (some (p1 0))) (2 : Int32).toNatClampNeg (some (p2 0))) (3 : Int32).toNatClampNeg (some (p3 0))) (4 : Int32).toNatClampNeg (some (p4 0))) (5 : Int32).toNatClampNeg (some (p5 0))) (6 : Int32).toNatClampNeg (some (p6 0))) (7 : Int32).toNatClampNeg (some (p7 0))) (8 : Int32).toNatClampNeg (some (p8 0))) = (fun i => if i < 9 then some ((sg [(1, fun _ => h0), (1, fun _ => qa), (4, p0), (4, p1), (4, p2), (4, p3), (4, p4), (4, p5), (4, p6), (4, p7), (4, p8)]) (1 + 1 + (3 + 1) * i)) else none) := by
    funext i
    match i with
    | 0 => rfl
    | 1 => rfl
    | 2 => rfl
    | 3 => rfl
    | 4 => rfl
    | 5 => rfl
    | 6 => rfl
    | 7 => rfl
    | 8 => rfl
    | n + 9 => exact past_far n _ _ _ _ _ _ _ _ _
  have e8 : lay cA (sg [(4, p8)]) shLX3 zS = lay cA p8 shLX3 zS := lay_congr (by decide) (fun k hk => if_pos hk) (fun _ _ => rfl) rfl
  have e7 : lay cA (sg [(4, p7), (4, p8)]) (shLX3 ++ shLX3) zS = (lay cA p7 shLX3 zS ++ lay cA p8 shLX3 zS) := (lay_chain (σ := zS) (σa := zS) (a := shLX3) (b := shLX3) rfl (by decide) (by decide) (fun _ _ => rfl) rfl).trans (congrArg (fun x => lay cA p7 shLX3 zS ++ x) e8)
  have e6 : lay cA (sg [(4, p6), (4, p7), (4, p8)]) (shLX3 ++ (shLX3 ++ shLX3)) zS = (lay cA p6 shLX3 zS ++ (lay cA p7 shLX3 zS ++ lay cA p8 shLX3 zS)) := (lay_chain (σ := zS) (σa := zS) (a := shLX3) (b := (shLX3 ++ shLX3)) rfl (by decide) (by decide) (fun _ _ => rfl) rfl).trans (congrArg (fun x => lay cA p6 shLX3 zS ++ x) e7)
  have e5 : lay cA (sg [(4, p5), (4, p6), (4, p7), (4, p8)]) (shLX3 ++ (shLX3 ++ (shLX3 ++ shLX3))) zS = (lay cA p5 shLX3 zS ++ (lay cA p6 shLX3 zS ++ (lay cA p7 shLX3 zS ++ lay cA p8 shLX3 zS))) := (lay_chain (σ := zS) (σa := zS) (a := shLX3) (b := (shLX3 ++ (shLX3 ++ shLX3))) rfl (by decide) (by decide) (fun _ _ => rfl) rfl).trans (congrArg (fun x => lay cA p5 shLX3 zS ++ x) e6)
  have e4 : lay cA (sg [(4, p4), (4, p5), (4, p6), (4, p7), (4, p8)]) (shLX3 ++ (shLX3 ++ (shLX3 ++ (shLX3 ++ shLX3)))) zS = (lay cA p4 shLX3 zS ++ (lay cA p5 shLX3 zS ++ (lay cA p6 shLX3 zS ++ (lay cA p7 shLX3 zS ++ lay cA p8 shLX3 zS)))) := (lay_chain (σ := zS) (σa := zS) (a := shLX3) (b := (shLX3 ++ (shLX3 ++ (shLX3 ++ shLX3)))) rfl (by decide) (by decide) (fun _ _ => rfl) rfl).trans (congrArg (fun x => lay cA p4 shLX3 zS ++ x) e5)
  have e3 : lay cA (sg [(4, p3), (4, p4), (4, p5), (4, p6), (4, p7), (4, p8)]) (shLX3 ++ (shLX3 ++ (shLX3 ++ (shLX3 ++ (shLX3 ++ shLX3))))) zS = (lay cA p3 shLX3 zS ++ (lay cA p4 shLX3 zS ++ (lay cA p5 shLX3 zS ++ (lay cA p6 shLX3 zS ++ (lay cA p7 shLX3 zS ++ lay cA p8 shLX3 zS))))) := (lay_chain (σ := zS) (σa := zS) (a := shLX3) (b := (shLX3 ++ (shLX3 ++ (shLX3 ++ (shLX3 ++ shLX3))))) rfl (by decide) (by decide) (fun _ _ => rfl) rfl).trans (congrArg (fun x => lay cA p3 shLX3 zS ++ x) e4)
  have e2 : lay cA (sg [(4, p2), (4, p3), (4, p4), (4, p5), (4, p6), (4, p7), (4, p8)]) (shLX3 ++ (shLX3 ++ (shLX3 ++ (shLX3 ++ (shLX3 ++ (shLX3 ++ shLX3)))))) zS = (lay cA p2 shLX3 zS ++ (lay cA p3 shLX3 zS ++ (lay cA p4 shLX3 zS ++ (lay cA p5 shLX3 zS ++ (lay cA p6 shLX3 zS ++ (lay cA p7 shLX3 zS ++ lay cA p8 shLX3 zS)))))) := (lay_chain (σ := zS) (σa := zS) (a := shLX3) (b := (shLX3 ++ (shLX3 ++ (shLX3 ++ (shLX3 ++ (shLX3 ++ shLX3)))))) rfl (by decide) (by decide) (fun _ _ => rfl) rfl).trans (congrArg (fun x => lay cA p2 shLX3 zS ++ x) e3)
  have e1 : lay cA (sg [(4, p1), (4, p2), (4, p3), (4, p4), (4, p5), (4, p6), (4, p7), (4, p8)]) (shLX3 ++ (shLX3 ++ (shLX3 ++ (shLX3 ++ (shLX3 ++ (shLX3 ++ (shLX3 ++ shLX3))))))) zS = (lay cA p1 shLX3 zS ++ (lay cA p2 shLX3 zS ++ (lay cA p3 shLX3 zS ++ (lay cA p4 shLX3 zS ++ (lay cA p5 shLX3 zS ++ (lay cA p6 shLX3 zS ++ (lay cA p7 shLX3 zS ++ lay cA p8 shLX3 zS))))))) := (lay_chain (σ := zS) (σa := zS) (a := shLX3) (b := (shLX3 ++ (shLX3 ++ (shLX3 ++ (shLX3 ++ (shLX3 ++ (shLX3 ++ shLX3))))))) rfl (by decide) (by decide) (fun _ _ => rfl) rfl).trans (congrArg (fun x => lay cA p1 shLX3 zS ++ x) e2)
  have e0 : lay cA (sg [(4, p0), (4, p1), (4, p2), (4, p3), (4, p4), (4, p5), (4, p6), (4, p7), (4, p8)]) (shLX3 ++ (shLX3 ++ (shLX3 ++ (shLX3 ++ (shLX3 ++ (shLX3 ++ (shLX3 ++ (shLX3 ++ shLX3)))))))) zS = (lay cA p0 shLX3 zS ++ (lay cA p1 shLX3 zS ++ (lay cA p2 shLX3 zS ++ (lay cA p3 shLX3 zS ++ (lay cA p4 shLX3 zS ++ (lay cA p5 shLX3 zS ++ (lay cA p6 shLX3 zS ++ (lay cA p7 shLX3 zS ++ lay cA p8 shLX3 zS)))))))) := (lay_chain (σ := zS) (σa := zS) (a := shLX3) (b := (shLX3 ++ (shLX3 ++ (shLX3 ++ (shLX3 ++ (shLX3 ++ (shLX3 ++ (shLX3 ++ shLX3)))))))) rfl (by decide) (by decide) (fun _ _ => rfl) rfl).trans (congrArg (fun x => lay cA p0 shLX3 zS ++ x) e1)
  have hs : (fun i => (sg [(1, fun _ => h0), (1, fun _ => qa), (4, p0), (4, p1), (4, p2), (4, p3), (4, p4), (4, p5), (4, p6), (4, p7), (4, p8)]) (2 + i)) = sg [(4, p0), (4, p1), (4, p2), (4, p3), (4, p4), (4, p5), (4, p6), (4, p7), (4, p8)] := by
    funext i
    show (if 2 + i < 1 then h0 else (if 2 + i - 1 < 1 then qa else sg [(4, p0), (4, p1), (4, p2), (4, p3), (4, p4), (4, p5), (4, p6), (4, p7), (4, p8)] (2 + i - 1 - 1))) = _
    rw [if_neg (by omega), if_neg (by omega), show 2 + i - 1 - 1 = i by omega]
  have he : (((h0, .inr (1, [.ref qa, .int 0, .int 0])) :: (qa, .inl (cA 2, 9, .inr (.inr (.inr (.inr (va_up (va_up (va_up (va_up (va_up (va_up (va_up (va_up (va_up (fun _ => none) (0 : Int32).toNatClampNeg (some (p0 0))) (1 : Int32).toNatClampNeg (some (p1 0))) (2 : Int32).toNatClampNeg (some (p2 0))) (3 : Int32).toNatClampNeg (some (p3 0))) (4 : Int32).toNatClampNeg (some (p4 0))) (5 : Int32).toNatClampNeg (some (p5 0))) (6 : Int32).toNatClampNeg (some (p6 0))) (7 : Int32).toNatClampNeg (some (p7 0))) (8 : Int32).toNatClampNeg (some (p8 0)))))))) :: ((((((((([] ++ lay cA p0 shLX3 zS) ++ lay cA p1 shLX3 zS) ++ lay cA p2 shLX3 zS) ++ lay cA p3 shLX3 zS) ++ lay cA p4 shLX3 zS) ++ lay cA p5 shLX3 zS) ++ lay cA p6 shLX3 zS) ++ lay cA p7 shLX3 zS) ++ lay cA p8 shLX3 zS)) : va_W) = lay cA (sg [(1, fun _ => h0), (1, fun _ => qa), (4, p0), (4, p1), (4, p2), (4, p3), (4, p4), (4, p5), (4, p6), (4, p7), (4, p8)]) shLX1 zS := by
    have h1 : lay cA (sg [(1, fun _ => h0), (1, fun _ => qa), (4, p0), (4, p1), (4, p2), (4, p3), (4, p4), (4, p5), (4, p6), (4, p7), (4, p8)]) ([shX1, ap 2 9 4] ++ (shLX3 ++ (shLX3 ++ (shLX3 ++ (shLX3 ++ (shLX3 ++ (shLX3 ++ (shLX3 ++ (shLX3 ++ shLX3))))))))) zS = lay cA (sg [(1, fun _ => h0), (1, fun _ => qa), (4, p0), (4, p1), (4, p2), (4, p3), (4, p4), (4, p5), (4, p6), (4, p7), (4, p8)]) [shX1, ap 2 9 4] zS ++ lay cA (fun i => (sg [(1, fun _ => h0), (1, fun _ => qa), (4, p0), (4, p1), (4, p2), (4, p3), (4, p4), (4, p5), (4, p6), (4, p7), (4, p8)]) (2 + i)) (shLX3 ++ (shLX3 ++ (shLX3 ++ (shLX3 ++ (shLX3 ++ (shLX3 ++ (shLX3 ++ (shLX3 ++ shLX3)))))))) (shS 2 zS) := lay_app (by decide)
    rw [hs] at h1
    unfold shLX1
    rw [h1, show shS 2 zS = zS from rfl, e0, hf]
    simp only [List.nil_append, List.append_assoc]
    rfl
  rw [he] at C
  have K := hend (sg [(1, fun _ => h0), (1, fun _ => qa), (4, p0), (4, p1), (4, p2), (4, p3), (4, p4), (4, p5), (4, p6), (4, p7), (4, p8)]) 40 [(1, .int 9), (0, .ref h0)] rfl C dX1_init_40
  rw [← he] at K
  exact K
theorem hi_X1 : yX1_init.cls ≠ "java/lang/invoke/MethodHandle" ∧ yX1_init.cls ≠ "java/lang/invoke/VarHandle" ∧ (parseMethodDescriptor yX1_init.desc).map (fun d => d.parameters.length) = some 0 := by decide +kernel
