theorem at_app {α : Type} {a b : List α} {n k : Nat} (h : a.length = n) : (a ++ b)[n + k]? = b[k]? := by subst h; rw [List.getElem?_append_right (by omega), Nat.add_sub_cancel_left]
theorem set_app {α : Type} {a b : List α} {n k : Nat} {y : α} (h : a.length = n) : (a ++ b).set (n + k) y = a ++ b.set k y := by subst h; rw [List.set_append_right _ _ (by omega), Nat.add_sub_cancel_left]
/-- a new WoolBridge -/
def σC0 : St := (fun k j => if k = 0 then (if j = 6 then nI 125 else if j = 7 then nI 129 else 0) else if (k = 125 ∨ k = 129) ∧ (j = 5 ∨ j = 6) then 6 else 0, 0)
theorem shC_eq : shC = [shX6] ++ (shLX4 ++ (shLX1 ++ ([ap 3 2 38] ++ (shLX1 ++ (shLX1 ++ ([az 2] ++ (shLX2 ++ (shLX0 ++ (shLX5 ++ shLX5))))))))) := by decide +kernel
theorem σC0_z {m j : Nat} (h0 : m ≠ 0) (h1 : m ≠ 125) (h2 : m ≠ 129) : σC0.1 m j = 0 := by
  show (if m = 0 then (if j = 6 then nI 125 else if j = 7 then nI 129 else 0) else if (m = 125 ∨ m = 129) ∧ (j = 5 ∨ j = 6) then (6 : Int32) else 0) = 0
  rw [if_neg h0, if_neg (by omega)]
theorem σC0_t {m k j : Nat} (h0 : m ≠ 0) (h : (m = 125 ∨ m = 129) ↔ k = 0) : σC0.1 m j = tS.1 k j := by
  show (if m = 0 then (if j = 6 then nI 125 else if j = 7 then nI 129 else 0) else if (m = 125 ∨ m = 129) ∧ (j = 5 ∨ j = 6) then (6 : Int32) else 0) = (if k = 0 ∧ (j = 5 ∨ j = 6) then (6 : Int32) else 0)
  rw [if_neg h0]
  simp only [h]
abbrev fsX6 : List Value := [.null, .null, .null, .null, .null, .null, .null, .null, .long 0]
theorem im_far (n : Nat) (a0 a1 : Option Nat) {x : Option Nat} : va_up (va_up (fun _ => none) (0 : Int32).toNatClampNeg a0) (1 : Int32).toNatClampNeg a1 (n + 2) = if n + 2 < 2 then x else none := by
  rw [if_neg (by omega)]
  unfold va_up
  rw [show (0 : Int32).toNatClampNeg = 0 from rfl, show (1 : Int32).toNatClampNeg = 1 from rfl, if_neg (by omega), if_neg (by omega)]
set_option maxRecDepth 20000 in
set_option maxHeartbeats 4000000 in
theorem i_X6 {l : Launch} {D : va_G} {cA : Nat → ClassId} : KI l D cA yX6_init cX6_init 2 3 90 132 4055 6 fsX6 shC σC0 := by
  refine KI.of (by decide) rfl (by decide) (fun Γ h0 hl hD C hend => ?_)
  have C : Co Γ cX6_init RX6 cA 3 90 2 132 4055 [(h0, .inr (6, fsX6))] 0 0 := C
  refine x_aload_n C.1 dX6_init_0 rfl ?_
  refine n_oinit C umX6_1 dX6_init_1 (Nat.le_of_ble_eq_true rfl) (Nat.le_of_ble_eq_true rfl) ?_
  refine x_aload_n C.1 dX6_init_4 rfl ?_
  refine n_new C (fs := fsX4) (N := 6) (ci := 4) uwX4 tyX4 tyX4_ok ulX6_7 uo_X4 un_X4 rfl (fun j hj => by rcases (show j = 0 ∨ j = 1 ∨ j = 2 ∨ j = 3 ∨ j = 4 ∨ j = 5 by omega) with rfl | rfl | rfl | rfl | rfl | rfl <;> rfl) (by decide) (by decide) dX6_init_5 (fun q C => ?_)
  refine x_dup C.1 rfl dX6_init_8 ?_
  refine n_callI hl hD C i_X4 (Or.inr ⟨_, fun _ h => nmX6_9 h⟩) ui_X4_init un_X4 uc_X4_init rfl hi_X4 (by decide) (by decide) (by decide) dX6_init_9 (Nat.le_of_ble_eq_true rfl) (fun p1 hp C2 => ?_)
  subst hp
  have C := C2
  clear C2
  refine n_putF C (T := TX6) (N := 9) (ci := 6) (j := 0) 0 ufX6_10 uwX6 tyX6 tyX6_ok nmX6 rfl (by decide) rfl rfl rfl rfl rfl rfl rfl (Nat.le_of_ble_eq_true rfl) dX6_init_12 (fun C => ?_)
  try simp only [List.append_assoc, List.cons_append, List.nil_append, List.append_nil, List.set_cons_zero, List.set_cons_succ] at C ⊢
  have C : Co Γ cX6_init RX6 cA 3 90 2 132 4055 ((h0, .inr (6, [.ref (p1 0), .null, .null, .null, .null, .null, .null, .null, .long 0])) :: lay cA p1 shLX4 zS) 2 156 := C
  show Wx (Gw Γ _ 2 156) () 15 [(0, .ref h0)] []
  refine x_aload_n C.1 dX6_init_15 rfl ?_
  refine n_new C (fs := fsX1) (N := 3) (ci := 1) uwX1 tyX1 tyX1_ok ulX6_16 uo_X1 un_X1 rfl (fun j hj => by rcases (show j = 0 ∨ j = 1 ∨ j = 2 by omega) with rfl | rfl | rfl <;> rfl) (by decide) (by decide) dX6_init_16 (fun q C => ?_)
  refine x_dup C.1 rfl dX6_init_19 ?_
  refine n_callI hl hD C i_X1 (Or.inl umX6_18) ui_X1_init un_X1 uc_X1_init rfl hi_X1 (by decide) (by decide) (by decide) dX6_init_20 (Nat.le_of_ble_eq_true rfl) (fun p2 hp C2 => ?_)
  subst hp
  have C := C2
  clear C2
  refine n_putF C (T := TX6) (N := 9) (ci := 6) (j := 1) 0 ufX6_19 uwX6 tyX6 tyX6_ok nmX6 rfl (by decide) rfl rfl rfl rfl rfl rfl rfl (Nat.le_of_ble_eq_true rfl) dX6_init_23 (fun C => ?_)
  try simp only [List.append_assoc, List.cons_append, List.nil_append, List.append_nil, List.set_cons_zero, List.set_cons_succ] at C ⊢
  have C : Co Γ cX6_init RX6 cA 3 90 2 132 4055 ((h0, .inr (6, [.ref (p1 0), .ref (p2 0), .null, .null, .null, .null, .null, .null, .long 0])) :: (lay cA p1 shLX4 zS ++ lay cA p2 shLX1 zS)) 40 1302 := C
  show Wx (Gw Γ _ 40 1302) () 26 [(0, .ref h0)] []
  refine x_aload_n C.1 dX6_init_26 rfl ?_
  refine x_iconst C.1 (v := 2) dX6_init_27 (by decide) ?_
  refine n_newq C (N := 2) (t := 3) (Or.inr ⟨rfl, rfl⟩) ulX6_16 (by decide) rfl (by decide) (by decide) (by decide) dX6_init_28 (fun qi C => ?_)
  refine n_putF C (T := TX6) (N := 9) (ci := 6) (j := 2) 0 ufX6_23 uwX6 tyX6 tyX6_ok nmX6 rfl (by decide) rfl rfl rfl rfl rfl rfl rfl (Nat.le_of_ble_eq_true rfl) dX6_init_31 (fun C => ?_)
  refine x_iconst C.1 (v := 0) dX6_init_34 (by decide) ?_
  refine x_istore_n C.1 (L' := [(1, .int 0), (0, .ref h0)]) dX6_init_35 (by decide) rfl ?_
  try simp only [List.append_assoc, List.cons_append, List.nil_append, List.append_nil, List.set_cons_zero, List.set_cons_succ] at C ⊢
  have C : Co Γ cX6_init RX6 cA 3 90 2 132 4055 ((h0, .inr (6, [.ref (p1 0), .ref (p2 0), .ref qi, .null, .null, .null, .null, .null, .long 0])) :: (lay cA p1 shLX4 zS ++ (lay cA p2 shLX1 zS ++ ((qi, .inl (cA 3, 2, .inr (.inr (.inr (.inr (fun _ => none)))))) :: [])))) 41 1304 := C
  show Wx (Gw Γ _ 41 1304) () 36 [(1, .int 0), (0, .ref h0)] []
  refine x_iload_n C.1 dX6_init_36 rfl ?_
  refine x_iconst C.1 (v := 2) dX6_init_37 (by decide) ?_
  refine y_ge C.1 (tgt := 60) dX6_init_38 (by decide) (fun q => absurd q (by decide)) (fun _ => ?_)
  refine x_aload_n C.1 dX6_init_41 rfl ?_
  refine n_get C (T := TX6) (N := 9) (ci := 6) (j := 2) 0 ufX6_23 uwX6 rfl (by decide) rfl rfl rfl dX6_init_42 ?_
  refine x_iload_n C.1 dX6_init_45 rfl ?_
  refine n_new C (fs := fsX1) (N := 3) (ci := 1) uwX1 tyX1 tyX1_ok ulX6_16 uo_X1 un_X1 rfl (fun j hj => by rcases (show j = 0 ∨ j = 1 ∨ j = 2 by omega) with rfl | rfl | rfl <;> rfl) (by decide) (by decide) dX6_init_46 (fun q C => ?_)
  refine x_dup C.1 rfl dX6_init_49 ?_
  refine n_callI hl hD C i_X1 (Or.inl umX6_18) ui_X1_init un_X1 uc_X1_init rfl hi_X1 (by decide) (by decide) (by decide) dX6_init_50 (Nat.le_of_ble_eq_true rfl) (fun p3 hp C2 => ?_)
  subst hp
  have C := C2
  clear C2
  try simp only [List.append_assoc, List.cons_append, List.nil_append, List.append_nil, List.set_cons_zero, List.set_cons_succ] at C ⊢
  have C : Co Γ cX6_init RX6 cA 3 90 2 132 4055 ((h0, .inr (6, [.ref (p1 0), .ref (p2 0), .ref qi, .null, .null, .null, .null, .null, .long 0])) :: (lay cA p1 shLX4 zS ++ (lay cA p2 shLX1 zS ++ ((qi, .inl (cA 3, 2, .inr (.inr (.inr (.inr (fun _ => none)))))) :: lay cA p3 shLX1 zS)))) 79 2450 := C
  show Wx (Gw Γ _ 79 2450) () 53 [(1, .int 0), (0, .ref h0)] [.ref (p3 0), .int 0, .ref qi]
  have ha : (((h0, .inr (6, [.ref (p1 0), .ref (p2 0), .ref qi, .null, .null, .null, .null, .null, .long 0])) :: (lay cA p1 shLX4 zS ++ (lay cA p2 shLX1 zS ++ ((qi, .inl (cA 3, 2, .inr (.inr (.inr (.inr (fun _ => none)))))) :: lay cA p3 shLX1 zS)))) : va_W)[41]? = some (qi, .inl (cA 3, 2, .inr (.inr (.inr (.inr (fun _ => none)))))) := (List.getElem?_cons_succ (i := 40)).trans ((at_app (n := 2) (k := 38) lay_len).trans ((at_app (n := 38) (k := 0) lay_len).trans rfl))
  have hv : (((h0, .inr (6, [.ref (p1 0), .ref (p2 0), .ref qi, .null, .null, .null, .null, .null, .long 0])) :: (lay cA p1 shLX4 zS ++ (lay cA p2 shLX1 zS ++ ((qi, .inl (cA 3, 2, .inr (.inr (.inr (.inr (fun _ => none)))))) :: lay cA p3 shLX1 zS)))) : va_W)[42]? = some (p3 0, .inr (1, [.ref (p3 (0 + 1)), .int 0, .int 0])) := (List.getElem?_cons_succ (i := 41)).trans ((at_app (n := 2) (k := 39) lay_len).trans ((at_app (n := 38) (k := 1) lay_len).trans ((List.getElem?_cons_succ (i := 0)).trans (lay_at (k := 0) (sh := shX1) rfl))))
  refine n_aast C 41 3 42 1 (r := (RX1, TX1, 3)) (i := 0) ha rfl hv rfl (by unfold vp_in; decide) dX6_init_53 (fun C => ?_)
  have hs : (((h0, .inr (6, [.ref (p1 0), .ref (p2 0), .ref qi, .null, .null, .null, .null, .null, .long 0])) :: (lay cA p1 shLX4 zS ++ (lay cA p2 shLX1 zS ++ ((qi, .inl (cA 3, 2, .inr (.inr (.inr (.inr (fun _ => none)))))) :: lay cA p3 shLX1 zS)))) : va_W).set 41 (qi, .inl (cA 3, 2, .inr (.inr (.inr (.inr (va_up (fun _ => none) (0 : Int32).toNatClampNeg (some (p3 0)))))))) = ((h0, .inr (6, [.ref (p1 0), .ref (p2 0), .ref qi, .null, .null, .null, .null, .null, .long 0])) :: (lay cA p1 shLX4 zS ++ (lay cA p2 shLX1 zS ++ ((qi, .inl (cA 3, 2, .inr (.inr (.inr (.inr (va_up (fun _ => none) (0 : Int32).toNatClampNeg (some (p3 0)))))))) :: lay cA p3 shLX1 zS)))) := congrArg (fun z => _ :: z) ((set_app (n := 2) (k := 38) lay_len).trans (congrArg (fun z => _ ++ z) (set_app (n := 38) (k := 0) lay_len)))
  rw [hs] at C ⊢
  clear ha hv hs
  refine y_incw C.1 (j := 0) (v := 1) (w := 1) (L' := [(1, .int 1), (0, .ref h0)]) dX6_init_54 rfl (by decide) (by decide) (by decide) rfl ?_
  refine x_goto C.1 (tgt := 36) dX6_init_57 (by decide) ?_
  try simp only [List.append_assoc, List.cons_append, List.nil_append, List.append_nil, List.set_cons_zero, List.set_cons_succ] at C ⊢
  have C : Co Γ cX6_init RX6 cA 3 90 2 132 4055 ((h0, .inr (6, [.ref (p1 0), .ref (p2 0), .ref qi, .null, .null, .null, .null, .null, .long 0])) :: (lay cA p1 shLX4 zS ++ (lay cA p2 shLX1 zS ++ ((qi, .inl (cA 3, 2, .inr (.inr (.inr (.inr (va_up (fun _ => none) (0 : Int32).toNatClampNeg (some (p3 0)))))))) :: lay cA p3 shLX1 zS)))) 79 2450 := C
  show Wx (Gw Γ _ 79 2450) () 36 [(1, .int 1), (0, .ref h0)] []
  refine x_iload_n C.1 dX6_init_36 rfl ?_
  refine x_iconst C.1 (v := 2) dX6_init_37 (by decide) ?_
  refine y_ge C.1 (tgt := 60) dX6_init_38 (by decide) (fun q => absurd q (by decide)) (fun _ => ?_)
  refine x_aload_n C.1 dX6_init_41 rfl ?_
  refine n_get C (T := TX6) (N := 9) (ci := 6) (j := 2) 0 ufX6_23 uwX6 rfl (by decide) rfl rfl rfl dX6_init_42 ?_
  refine x_iload_n C.1 dX6_init_45 rfl ?_
  refine n_new C (fs := fsX1) (N := 3) (ci := 1) uwX1 tyX1 tyX1_ok ulX6_16 uo_X1 un_X1 rfl (fun j hj => by rcases (show j = 0 ∨ j = 1 ∨ j = 2 by omega) with rfl | rfl | rfl <;> rfl) (by decide) (by decide) dX6_init_46 (fun q C => ?_)
  refine x_dup C.1 rfl dX6_init_49 ?_
  refine n_callI hl hD C i_X1 (Or.inl umX6_18) ui_X1_init un_X1 uc_X1_init rfl hi_X1 (by decide) (by decide) (by decide) dX6_init_50 (Nat.le_of_ble_eq_true rfl) (fun p4 hp C2 => ?_)
  subst hp
  have C := C2
  clear C2
  try simp only [List.append_assoc, List.cons_append, List.nil_append, List.append_nil, List.set_cons_zero, List.set_cons_succ] at C ⊢
  have C : Co Γ cX6_init RX6 cA 3 90 2 132 4055 ((h0, .inr (6, [.ref (p1 0), .ref (p2 0), .ref qi, .null, .null, .null, .null, .null, .long 0])) :: (lay cA p1 shLX4 zS ++ (lay cA p2 shLX1 zS ++ ((qi, .inl (cA 3, 2, .inr (.inr (.inr (.inr (va_up (fun _ => none) (0 : Int32).toNatClampNeg (some (p3 0)))))))) :: (lay cA p3 shLX1 zS ++ lay cA p4 shLX1 zS))))) 117 3596 := C
  show Wx (Gw Γ _ 117 3596) () 53 [(1, .int 1), (0, .ref h0)] [.ref (p4 0), .int 1, .ref qi]
  have ha : (((h0, .inr (6, [.ref (p1 0), .ref (p2 0), .ref qi, .null, .null, .null, .null, .null, .long 0])) :: (lay cA p1 shLX4 zS ++ (lay cA p2 shLX1 zS ++ ((qi, .inl (cA 3, 2, .inr (.inr (.inr (.inr (va_up (fun _ => none) (0 : Int32).toNatClampNeg (some (p3 0)))))))) :: (lay cA p3 shLX1 zS ++ lay cA p4 shLX1 zS))))) : va_W)[41]? = some (qi, .inl (cA 3, 2, .inr (.inr (.inr (.inr (va_up (fun _ => none) (0 : Int32).toNatClampNeg (some (p3 0)))))))) := (List.getElem?_cons_succ (i := 40)).trans ((at_app (n := 2) (k := 38) lay_len).trans ((at_app (n := 38) (k := 0) lay_len).trans rfl))
  have hv : (((h0, .inr (6, [.ref (p1 0), .ref (p2 0), .ref qi, .null, .null, .null, .null, .null, .long 0])) :: (lay cA p1 shLX4 zS ++ (lay cA p2 shLX1 zS ++ ((qi, .inl (cA 3, 2, .inr (.inr (.inr (.inr (va_up (fun _ => none) (0 : Int32).toNatClampNeg (some (p3 0)))))))) :: (lay cA p3 shLX1 zS ++ lay cA p4 shLX1 zS))))) : va_W)[80]? = some (p4 0, .inr (1, [.ref (p4 (0 + 1)), .int 0, .int 0])) := (List.getElem?_cons_succ (i := 79)).trans ((at_app (n := 2) (k := 77) lay_len).trans ((at_app (n := 38) (k := 39) lay_len).trans ((List.getElem?_cons_succ (i := 38)).trans ((at_app (n := 38) (k := 0) lay_len).trans (lay_at (k := 0) (sh := shX1) rfl)))))
  refine n_aast C 41 3 80 1 (r := (RX1, TX1, 3)) (i := 1) ha rfl hv rfl (by unfold vp_in; decide) dX6_init_53 (fun C => ?_)
  have hs : (((h0, .inr (6, [.ref (p1 0), .ref (p2 0), .ref qi, .null, .null, .null, .null, .null, .long 0])) :: (lay cA p1 shLX4 zS ++ (lay cA p2 shLX1 zS ++ ((qi, .inl (cA 3, 2, .inr (.inr (.inr (.inr (va_up (fun _ => none) (0 : Int32).toNatClampNeg (some (p3 0)))))))) :: (lay cA p3 shLX1 zS ++ lay cA p4 shLX1 zS))))) : va_W).set 41 (qi, .inl (cA 3, 2, .inr (.inr (.inr (.inr (va_up (va_up (fun _ => none) (0 : Int32).toNatClampNeg (some (p3 0))) (1 : Int32).toNatClampNeg (some (p4 0)))))))) = ((h0, .inr (6, [.ref (p1 0), .ref (p2 0), .ref qi, .null, .null, .null, .null, .null, .long 0])) :: (lay cA p1 shLX4 zS ++ (lay cA p2 shLX1 zS ++ ((qi, .inl (cA 3, 2, .inr (.inr (.inr (.inr (va_up (va_up (fun _ => none) (0 : Int32).toNatClampNeg (some (p3 0))) (1 : Int32).toNatClampNeg (some (p4 0)))))))) :: (lay cA p3 shLX1 zS ++ lay cA p4 shLX1 zS))))) := congrArg (fun z => _ :: z) ((set_app (n := 2) (k := 38) lay_len).trans (congrArg (fun z => _ ++ z) (set_app (n := 38) (k := 0) lay_len)))
  rw [hs] at C ⊢
  clear ha hv hs
  refine y_incw C.1 (j := 0) (v := 1) (w := 2) (L' := [(1, .int 2), (0, .ref h0)]) dX6_init_54 rfl (by decide) (by decide) (by decide) rfl ?_
  refine x_goto C.1 (tgt := 36) dX6_init_57 (by decide) ?_
  try simp only [List.append_assoc, List.cons_append, List.nil_append, List.append_nil, List.set_cons_zero, List.set_cons_succ] at C ⊢
  have C : Co Γ cX6_init RX6 cA 3 90 2 132 4055 ((h0, .inr (6, [.ref (p1 0), .ref (p2 0), .ref qi, .null, .null, .null, .null, .null, .long 0])) :: (lay cA p1 shLX4 zS ++ (lay cA p2 shLX1 zS ++ ((qi, .inl (cA 3, 2, .inr (.inr (.inr (.inr (va_up (va_up (fun _ => none) (0 : Int32).toNatClampNeg (some (p3 0))) (1 : Int32).toNatClampNeg (some (p4 0)))))))) :: (lay cA p3 shLX1 zS ++ lay cA p4 shLX1 zS))))) 117 3596 := C
  show Wx (Gw Γ _ 117 3596) () 36 [(1, .int 2), (0, .ref h0)] []
  refine x_iload_n C.1 dX6_init_36 rfl ?_
  refine x_iconst C.1 (v := 2) dX6_init_37 (by decide) ?_
  refine y_ge C.1 (tgt := 60) dX6_init_38 (by decide) (fun _ => ?_) (fun q => absurd (by decide) q)
  refine x_aload_n C.1 dX6_init_60 rfl ?_
  refine x_iconst C.1 (v := 2) dX6_init_61 (by decide) ?_
  refine n_newZ C (N := 2) (by decide) rfl (by decide) (by decide) (by decide) dX6_init_62 (fun qk C => ?_)
  refine n_putF C (T := TX6) (N := 9) (ci := 6) (j := 3) 0 ufX6_27 uwX6 tyX6 tyX6_ok nmX6 rfl (by decide) rfl rfl rfl rfl rfl rfl rfl (Nat.le_of_ble_eq_true rfl) dX6_init_64 (fun C => ?_)
  try simp only [List.append_assoc, List.cons_append, List.nil_append, List.append_nil, List.set_cons_zero, List.set_cons_succ] at C ⊢
  have C : Co Γ cX6_init RX6 cA 3 90 2 132 4055 ((h0, .inr (6, [.ref (p1 0), .ref (p2 0), .ref qi, .ref qk, .null, .null, .null, .null, .long 0])) :: (lay cA p1 shLX4 zS ++ (lay cA p2 shLX1 zS ++ ((qi, .inl (cA 3, 2, .inr (.inr (.inr (.inr (va_up (va_up (fun _ => none) (0 : Int32).toNatClampNeg (some (p3 0))) (1 : Int32).toNatClampNeg (some (p4 0)))))))) :: (lay cA p3 shLX1 zS ++ (lay cA p4 shLX1 zS ++ ((qk, .inl (cA 1, 2, .inl (fun _ => 0))) :: []))))))) 118 3598 := C
  show Wx (Gw Γ _ 118 3598) () 67 [(1, .int 2), (0, .ref h0)] []
  refine x_aload_n C.1 dX6_init_67 rfl ?_
  refine n_new C (fs := fsX2) (N := 3) (ci := 2) uwX2 tyX2 tyX2_ok ulX6_31 uo_X2 un_X2 rfl (fun j hj => by rcases (show j = 0 ∨ j = 1 ∨ j = 2 by omega) with rfl | rfl | rfl <;> rfl) (by decide) (by decide) dX6_init_68 (fun q C => ?_)
  refine x_dup C.1 rfl dX6_init_71 ?_
  refine n_callI hl hD C i_X2 (Or.inr ⟨_, fun _ h => nmX6_33 h⟩) ui_X2_init un_X2 uc_X2_init rfl hi_X2 (by decide) (by decide) (by decide) dX6_init_72 (Nat.le_of_ble_eq_true rfl) (fun p5 hp C2 => ?_)
  subst hp
  have C := C2
  clear C2
  refine n_putF C (T := TX6) (N := 9) (ci := 6) (j := 4) 0 ufX6_34 uwX6 tyX6 tyX6_ok nmX6 rfl (by decide) rfl rfl rfl rfl rfl rfl rfl (Nat.le_of_ble_eq_true rfl) dX6_init_75 (fun C => ?_)
  try simp only [List.append_assoc, List.cons_append, List.nil_append, List.append_nil, List.set_cons_zero, List.set_cons_succ] at C ⊢
  have C : Co Γ cX6_init RX6 cA 3 90 2 132 4055 ((h0, .inr (6, [.ref (p1 0), .ref (p2 0), .ref qi, .ref qk, .ref (p5 0), .null, .null, .null, .long 0])) :: (lay cA p1 shLX4 zS ++ (lay cA p2 shLX1 zS ++ ((qi, .inl (cA 3, 2, .inr (.inr (.inr (.inr (va_up (va_up (fun _ => none) (0 : Int32).toNatClampNeg (some (p3 0))) (1 : Int32).toNatClampNeg (some (p4 0)))))))) :: (lay cA p3 shLX1 zS ++ (lay cA p4 shLX1 zS ++ ((qk, .inl (cA 1, 2, .inl (fun _ => 0))) :: lay cA p5 shLX2 zS))))))) 121 3613 := C
  show Wx (Gw Γ _ 121 3613) () 78 [(1, .int 2), (0, .ref h0)] []
  refine x_aload_n C.1 dX6_init_78 rfl ?_
  refine n_new C (fs := fsX0) (N := 4) (ci := 0) uwX0 tyX0 tyX0_ok ulX6_38 uo_X0 un_X0 rfl (fun j hj => by rcases (show j = 0 ∨ j = 1 ∨ j = 2 ∨ j = 3 by omega) with rfl | rfl | rfl | rfl <;> rfl) (by decide) (by decide) dX6_init_79 (fun q C => ?_)
  refine x_dup C.1 rfl dX6_init_82 ?_
  refine n_callI hl hD C i_X0 (Or.inr ⟨_, fun _ h => nmX6_40 h⟩) ui_X0_init un_X0 uc_X0_init rfl hi_X0 (by decide) (by decide) (by decide) dX6_init_83 (Nat.le_of_ble_eq_true rfl) (fun p6 hp C2 => ?_)
  subst hp
  have C := C2
  clear C2
  refine n_putF C (T := TX6) (N := 9) (ci := 6) (j := 5) 0 ufX6_41 uwX6 tyX6 tyX6_ok nmX6 rfl (by decide) rfl rfl rfl rfl rfl rfl rfl (Nat.le_of_ble_eq_true rfl) dX6_init_86 (fun C => ?_)
  try simp only [List.append_assoc, List.cons_append, List.nil_append, List.append_nil, List.set_cons_zero, List.set_cons_succ] at C ⊢
  have C : Co Γ cX6_init RX6 cA 3 90 2 132 4055 ((h0, .inr (6, [.ref (p1 0), .ref (p2 0), .ref qi, .ref qk, .ref (p5 0), .ref (p6 0), .null, .null, .long 0])) :: (lay cA p1 shLX4 zS ++ (lay cA p2 shLX1 zS ++ ((qi, .inl (cA 3, 2, .inr (.inr (.inr (.inr (va_up (va_up (fun _ => none) (0 : Int32).toNatClampNeg (some (p3 0))) (1 : Int32).toNatClampNeg (some (p4 0)))))))) :: (lay cA p3 shLX1 zS ++ (lay cA p4 shLX1 zS ++ ((qk, .inl (cA 1, 2, .inl (fun _ => 0))) :: (lay cA p5 shLX2 zS ++ lay cA p6 shLX0 zS)))))))) 124 3933 := C
  show Wx (Gw Γ _ 124 3933) () 89 [(1, .int 2), (0, .ref h0)] []
  refine x_aload_n C.1 dX6_init_89 rfl ?_
  refine n_new C (fs := fsX5) (N := 9) (ci := 5) uwX5 tyX5 tyX5_ok ulX6_45 uo_X5 un_X5 rfl (fun j hj => by rcases (show j = 0 ∨ j = 1 ∨ j = 2 ∨ j = 3 ∨ j = 4 ∨ j = 5 ∨ j = 6 ∨ j = 7 ∨ j = 8 by omega) with rfl | rfl | rfl | rfl | rfl | rfl | rfl | rfl | rfl <;> rfl) (by decide) (by decide) dX6_init_90 (fun q C => ?_)
  refine x_dup C.1 rfl dX6_init_93 ?_
  refine n_callI hl hD C i_X5 (Or.inr ⟨_, fun _ h => nmX6_47 h⟩) ui_X5_init un_X5 uc_X5_init rfl hi_X5 (by decide) (by decide) (by decide) dX6_init_94 (Nat.le_of_ble_eq_true rfl) (fun p7 hp C2 => ?_)
  subst hp
  have C := C2
  clear C2
  refine n_put C (T := TX6) (N := 9) (ci := 6) (j := 6) 0 ufX6_48 uwX6 tyX6 tyX6_ok nmX6 rfl (by decide) rfl rfl rfl rfl rfl rfl (Nat.le_of_ble_eq_true rfl) dX6_init_97 (fun C => ?_)
  try simp only [List.append_assoc, List.cons_append, List.nil_append, List.append_nil, List.set_cons_zero, List.set_cons_succ] at C ⊢
  have C : Co Γ cX6_init RX6 cA 3 90 2 132 4055 ((h0, .inr (6, [.ref (p1 0), .ref (p2 0), .ref qi, .ref qk, .ref (p5 0), .ref (p6 0), .ref (p7 0), .null, .long 0])) :: (lay cA p1 shLX4 zS ++ (lay cA p2 shLX1 zS ++ ((qi, .inl (cA 3, 2, .inr (.inr (.inr (.inr (va_up (va_up (fun _ => none) (0 : Int32).toNatClampNeg (some (p3 0))) (1 : Int32).toNatClampNeg (some (p4 0)))))))) :: (lay cA p3 shLX1 zS ++ (lay cA p4 shLX1 zS ++ ((qk, .inl (cA 1, 2, .inl (fun _ => 0))) :: (lay cA p5 shLX2 zS ++ (lay cA p6 shLX0 zS ++ lay cA p7 shLX5 tS))))))))) 128 3994 := C
  show Wx (Gw Γ _ 128 3994) () 100 [(1, .int 2), (0, .ref h0)] []
  refine x_aload_n C.1 dX6_init_100 rfl ?_
  refine n_new C (fs := fsX5) (N := 9) (ci := 5) uwX5 tyX5 tyX5_ok ulX6_45 uo_X5 un_X5 rfl (fun j hj => by rcases (show j = 0 ∨ j = 1 ∨ j = 2 ∨ j = 3 ∨ j = 4 ∨ j = 5 ∨ j = 6 ∨ j = 7 ∨ j = 8 by omega) with rfl | rfl | rfl | rfl | rfl | rfl | rfl | rfl | rfl <;> rfl) (by decide) (by decide) dX6_init_101 (fun q C => ?_)
  refine x_dup C.1 rfl dX6_init_104 ?_
  refine n_callI hl hD C i_X5 (Or.inr ⟨_, fun _ h => nmX6_47 h⟩) ui_X5_init un_X5 uc_X5_init rfl hi_X5 (by decide) (by decide) (by decide) dX6_init_105 (Nat.le_of_ble_eq_true rfl) (fun p8 hp C2 => ?_)
  subst hp
  have C := C2
  clear C2
  refine n_put C (T := TX6) (N := 9) (ci := 6) (j := 7) 0 ufX6_52 uwX6 tyX6 tyX6_ok nmX6 rfl (by decide) rfl rfl rfl rfl rfl rfl (Nat.le_of_ble_eq_true rfl) dX6_init_108 (fun C => ?_)
  try simp only [List.append_assoc, List.cons_append, List.nil_append, List.append_nil, List.set_cons_zero, List.set_cons_succ] at C ⊢
  have C : Co Γ cX6_init RX6 cA 3 90 2 132 4055 ((h0, .inr (6, [.ref (p1 0), .ref (p2 0), .ref qi, .ref qk, .ref (p5 0), .ref (p6 0), .ref (p7 0), .ref (p8 0), .long 0])) :: (lay cA p1 shLX4 zS ++ (lay cA p2 shLX1 zS ++ ((qi, .inl (cA 3, 2, .inr (.inr (.inr (.inr (va_up (va_up (fun _ => none) (0 : Int32).toNatClampNeg (some (p3 0))) (1 : Int32).toNatClampNeg (some (p4 0)))))))) :: (lay cA p3 shLX1 zS ++ (lay cA p4 shLX1 zS ++ ((qk, .inl (cA 1, 2, .inl (fun _ => 0))) :: (lay cA p5 shLX2 zS ++ (lay cA p6 shLX0 zS ++ (lay cA p7 shLX5 tS ++ lay cA p8 shLX5 tS)))))))))) 132 4055 := C
  show Wx (Gw Γ _ 132 4055) () 111 [(1, .int 2), (0, .ref h0)] []
  have e10 : lay cA (sg [(4, p8)]) shLX5 (shS 4 (shS 3 (shS 3 (shS 1 (shS 38 (shS 38 (shS 1 (shS 38 (shS 2 (shS 1 σC0)))))))))) = lay cA p8 shLX5 tS := lay_congr (by decide) (fun k hk => if_pos hk) (fun k (hk : k < 4) => funext fun j => σC0_t (m := (1 + (2 + (38 + (1 + (38 + (38 + (1 + (3 + (3 + (4 + k))))))))))) (by omega) (by omega)) rfl
  have e9 : lay cA (sg [(4, p7), (4, p8)]) (shLX5 ++ shLX5) (shS 3 (shS 3 (shS 1 (shS 38 (shS 38 (shS 1 (shS 38 (shS 2 (shS 1 σC0))))))))) = (lay cA p7 shLX5 tS ++ lay cA p8 shLX5 tS) := (lay_chain (n := 4) (σ := (shS 3 (shS 3 (shS 1 (shS 38 (shS 38 (shS 1 (shS 38 (shS 2 (shS 1 σC0)))))))))) (σa := tS) (a := shLX5) (b := shLX5) rfl (by decide) (by decide) (fun k (hk : k < 4) => funext fun j => σC0_t (m := (1 + (2 + (38 + (1 + (38 + (38 + (1 + (3 + (3 + k)))))))))) (by omega) (by omega)) rfl).trans (congrArg (fun x => lay cA p7 shLX5 tS ++ x) e10)
  have e8 : lay cA (sg [(3, p6), (4, p7), (4, p8)]) (shLX0 ++ (shLX5 ++ shLX5)) (shS 3 (shS 1 (shS 38 (shS 38 (shS 1 (shS 38 (shS 2 (shS 1 σC0)))))))) = (lay cA p6 shLX0 zS ++ (lay cA p7 shLX5 tS ++ lay cA p8 shLX5 tS)) := (lay_chain (n := 3) (σ := (shS 3 (shS 1 (shS 38 (shS 38 (shS 1 (shS 38 (shS 2 (shS 1 σC0))))))))) (σa := zS) (a := shLX0) (b := (shLX5 ++ shLX5)) rfl (by decide) (by decide) (fun k (hk : k < 3) => funext fun j => σC0_z (m := (1 + (2 + (38 + (1 + (38 + (38 + (1 + (3 + k))))))))) (by omega) (by omega) (by omega)) rfl).trans (congrArg (fun x => lay cA p6 shLX0 zS ++ x) e9)
  have e7 : lay cA (sg [(3, p5), (3, p6), (4, p7), (4, p8)]) (shLX2 ++ (shLX0 ++ (shLX5 ++ shLX5))) (shS 1 (shS 38 (shS 38 (shS 1 (shS 38 (shS 2 (shS 1 σC0))))))) = (lay cA p5 shLX2 zS ++ (lay cA p6 shLX0 zS ++ (lay cA p7 shLX5 tS ++ lay cA p8 shLX5 tS))) := (lay_chain (n := 3) (σ := (shS 1 (shS 38 (shS 38 (shS 1 (shS 38 (shS 2 (shS 1 σC0)))))))) (σa := zS) (a := shLX2) (b := (shLX0 ++ (shLX5 ++ shLX5))) rfl (by decide) (by decide) (fun k (hk : k < 3) => funext fun j => σC0_z (m := (1 + (2 + (38 + (1 + (38 + (38 + (1 + k)))))))) (by omega) (by omega) (by omega)) rfl).trans (congrArg (fun x => lay cA p5 shLX2 zS ++ x) e8)
  have e6 : lay cA (sg [(1, (fun _ => qk)), (3, p5), (3, p6), (4, p7), (4, p8)]) ([az 2] ++ (shLX2 ++ (shLX0 ++ (shLX5 ++ shLX5)))) (shS 38 (shS 38 (shS 1 (shS 38 (shS 2 (shS 1 σC0)))))) = (lay cA (fun _ => qk) [az 2] zS ++ (lay cA p5 shLX2 zS ++ (lay cA p6 shLX0 zS ++ (lay cA p7 shLX5 tS ++ lay cA p8 shLX5 tS)))) := (lay_chain (n := 1) (σ := (shS 38 (shS 38 (shS 1 (shS 38 (shS 2 (shS 1 σC0))))))) (σa := zS) (a := [az 2]) (b := (shLX2 ++ (shLX0 ++ (shLX5 ++ shLX5)))) rfl (by decide) (by decide) (fun k (hk : k < 1) => funext fun j => σC0_z (m := (1 + (2 + (38 + (1 + (38 + (38 + k))))))) (by omega) (by omega) (by omega)) rfl).trans (congrArg (fun x => lay cA (fun _ => qk) [az 2] zS ++ x) e7)
  have e5 : lay cA (sg [(38, p4), (1, (fun _ => qk)), (3, p5), (3, p6), (4, p7), (4, p8)]) (shLX1 ++ ([az 2] ++ (shLX2 ++ (shLX0 ++ (shLX5 ++ shLX5))))) (shS 38 (shS 1 (shS 38 (shS 2 (shS 1 σC0))))) = (lay cA p4 shLX1 zS ++ (lay cA (fun _ => qk) [az 2] zS ++ (lay cA p5 shLX2 zS ++ (lay cA p6 shLX0 zS ++ (lay cA p7 shLX5 tS ++ lay cA p8 shLX5 tS))))) := (lay_chain (n := 38) (σ := (shS 38 (shS 1 (shS 38 (shS 2 (shS 1 σC0)))))) (σa := zS) (a := shLX1) (b := ([az 2] ++ (shLX2 ++ (shLX0 ++ (shLX5 ++ shLX5))))) rfl (by decide) (by decide) (fun k (hk : k < 38) => funext fun j => σC0_z (m := (1 + (2 + (38 + (1 + (38 + k)))))) (by omega) (by omega) (by omega)) rfl).trans (congrArg (fun x => lay cA p4 shLX1 zS ++ x) e6)
  have e4 : lay cA (sg [(38, p3), (38, p4), (1, (fun _ => qk)), (3, p5), (3, p6), (4, p7), (4, p8)]) (shLX1 ++ (shLX1 ++ ([az 2] ++ (shLX2 ++ (shLX0 ++ (shLX5 ++ shLX5)))))) (shS 1 (shS 38 (shS 2 (shS 1 σC0)))) = (lay cA p3 shLX1 zS ++ (lay cA p4 shLX1 zS ++ (lay cA (fun _ => qk) [az 2] zS ++ (lay cA p5 shLX2 zS ++ (lay cA p6 shLX0 zS ++ (lay cA p7 shLX5 tS ++ lay cA p8 shLX5 tS)))))) := (lay_chain (n := 38) (σ := (shS 1 (shS 38 (shS 2 (shS 1 σC0))))) (σa := zS) (a := shLX1) (b := (shLX1 ++ ([az 2] ++ (shLX2 ++ (shLX0 ++ (shLX5 ++ shLX5)))))) rfl (by decide) (by decide) (fun k (hk : k < 38) => funext fun j => σC0_z (m := (1 + (2 + (38 + (1 + k))))) (by omega) (by omega) (by omega)) rfl).trans (congrArg (fun x => lay cA p3 shLX1 zS ++ x) e5)
  have hf : (va_up (va_up (fun _ => none) (0 : Int32).toNatClampNeg (some (p3 0))) (1 : Int32).toNatClampNeg (some (p4 0)) : Nat → Option Nat) = (fun i => if i < 2 then some (sg [(1, (fun _ => qi)), (38, p3), (38, p4), (1, (fun _ => qk)), (3, p5), (3, p6), (4, p7), (4, p8)] (0 + 1 + (37 + 1) * i)) else none) := by
    funext i
    match i with
    | 0 => rfl
    | 1 => rfl
    | n + 2 => exact im_far n _ _
  have hs3 : (fun i => sg [(1, (fun _ => qi)), (38, p3), (38, p4), (1, (fun _ => qk)), (3, p5), (3, p6), (4, p7), (4, p8)] (1 + i)) = sg [(38, p3), (38, p4), (1, (fun _ => qk)), (3, p5), (3, p6), (4, p7), (4, p8)] := by
    funext i
    show (if 1 + i < 1 then qi else sg [(38, p3), (38, p4), (1, (fun _ => qk)), (3, p5), (3, p6), (4, p7), (4, p8)] (1 + i - 1)) = _
    rw [if_neg (by omega), Nat.add_sub_cancel_left]
  have e3 : lay cA (sg [(1, (fun _ => qi)), (38, p3), (38, p4), (1, (fun _ => qk)), (3, p5), (3, p6), (4, p7), (4, p8)]) ([ap 3 2 38] ++ (shLX1 ++ (shLX1 ++ ([az 2] ++ (shLX2 ++ (shLX0 ++ (shLX5 ++ shLX5))))))) (shS 38 (shS 2 (shS 1 σC0))) = ([(qi, .inl (cA 3, 2, .inr (.inr (.inr (.inr (va_up (va_up (fun _ => none) (0 : Int32).toNatClampNeg (some (p3 0))) (1 : Int32).toNatClampNeg (some (p4 0))))))))] ++ (lay cA p3 shLX1 zS ++ (lay cA p4 shLX1 zS ++ (lay cA (fun _ => qk) [az 2] zS ++ (lay cA p5 shLX2 zS ++ (lay cA p6 shLX0 zS ++ (lay cA p7 shLX5 tS ++ lay cA p8 shLX5 tS))))))) := by
    have h1 : lay cA (sg [(1, (fun _ => qi)), (38, p3), (38, p4), (1, (fun _ => qk)), (3, p5), (3, p6), (4, p7), (4, p8)]) ([ap 3 2 38] ++ (shLX1 ++ (shLX1 ++ ([az 2] ++ (shLX2 ++ (shLX0 ++ (shLX5 ++ shLX5))))))) (shS 38 (shS 2 (shS 1 σC0))) = lay cA (sg [(1, (fun _ => qi)), (38, p3), (38, p4), (1, (fun _ => qk)), (3, p5), (3, p6), (4, p7), (4, p8)]) [ap 3 2 38] (shS 38 (shS 2 (shS 1 σC0))) ++ lay cA (fun i => sg [(1, (fun _ => qi)), (38, p3), (38, p4), (1, (fun _ => qk)), (3, p5), (3, p6), (4, p7), (4, p8)] (1 + i)) (shLX1 ++ (shLX1 ++ ([az 2] ++ (shLX2 ++ (shLX0 ++ (shLX5 ++ shLX5)))))) (shS 1 (shS 38 (shS 2 (shS 1 σC0)))) := lay_app (by decide)
    rw [hs3] at h1
    rw [h1, hf]
    exact congrArg (fun x => _ ++ x) e4
  have e2 : lay cA (sg [(38, p2), (1, (fun _ => qi)), (38, p3), (38, p4), (1, (fun _ => qk)), (3, p5), (3, p6), (4, p7), (4, p8)]) (shLX1 ++ ([ap 3 2 38] ++ (shLX1 ++ (shLX1 ++ ([az 2] ++ (shLX2 ++ (shLX0 ++ (shLX5 ++ shLX5)))))))) (shS 2 (shS 1 σC0)) = (lay cA p2 shLX1 zS ++ ([(qi, .inl (cA 3, 2, .inr (.inr (.inr (.inr (va_up (va_up (fun _ => none) (0 : Int32).toNatClampNeg (some (p3 0))) (1 : Int32).toNatClampNeg (some (p4 0))))))))] ++ (lay cA p3 shLX1 zS ++ (lay cA p4 shLX1 zS ++ (lay cA (fun _ => qk) [az 2] zS ++ (lay cA p5 shLX2 zS ++ (lay cA p6 shLX0 zS ++ (lay cA p7 shLX5 tS ++ lay cA p8 shLX5 tS)))))))) := (lay_chain (n := 38) (σ := (shS 2 (shS 1 σC0))) (σa := zS) (a := shLX1) (b := ([ap 3 2 38] ++ (shLX1 ++ (shLX1 ++ ([az 2] ++ (shLX2 ++ (shLX0 ++ (shLX5 ++ shLX5)))))))) rfl (by decide) (by decide) (fun k (hk : k < 38) => funext fun j => σC0_z (m := (1 + (2 + k))) (by omega) (by omega) (by omega)) rfl).trans (congrArg (fun x => lay cA p2 shLX1 zS ++ x) e3)
  have e1 : lay cA (sg [(2, p1), (38, p2), (1, (fun _ => qi)), (38, p3), (38, p4), (1, (fun _ => qk)), (3, p5), (3, p6), (4, p7), (4, p8)]) (shLX4 ++ (shLX1 ++ ([ap 3 2 38] ++ (shLX1 ++ (shLX1 ++ ([az 2] ++ (shLX2 ++ (shLX0 ++ (shLX5 ++ shLX5))))))))) (shS 1 σC0) = (lay cA p1 shLX4 zS ++ (lay cA p2 shLX1 zS ++ ([(qi, .inl (cA 3, 2, .inr (.inr (.inr (.inr (va_up (va_up (fun _ => none) (0 : Int32).toNatClampNeg (some (p3 0))) (1 : Int32).toNatClampNeg (some (p4 0))))))))] ++ (lay cA p3 shLX1 zS ++ (lay cA p4 shLX1 zS ++ (lay cA (fun _ => qk) [az 2] zS ++ (lay cA p5 shLX2 zS ++ (lay cA p6 shLX0 zS ++ (lay cA p7 shLX5 tS ++ lay cA p8 shLX5 tS))))))))) := (lay_chain (n := 2) (σ := (shS 1 σC0)) (σa := zS) (a := shLX4) (b := (shLX1 ++ ([ap 3 2 38] ++ (shLX1 ++ (shLX1 ++ ([az 2] ++ (shLX2 ++ (shLX0 ++ (shLX5 ++ shLX5))))))))) rfl (by decide) (by decide) (fun k (hk : k < 2) => funext fun j => σC0_z (m := (1 + k)) (by omega) (by omega) (by omega)) rfl).trans (congrArg (fun x => lay cA p1 shLX4 zS ++ x) e2)
  have hs0 : (fun i => sg [(1, (fun _ => h0)), (2, p1), (38, p2), (1, (fun _ => qi)), (38, p3), (38, p4), (1, (fun _ => qk)), (3, p5), (3, p6), (4, p7), (4, p8)] (1 + i)) = sg [(2, p1), (38, p2), (1, (fun _ => qi)), (38, p3), (38, p4), (1, (fun _ => qk)), (3, p5), (3, p6), (4, p7), (4, p8)] := by
    funext i
    show (if 1 + i < 1 then h0 else sg [(2, p1), (38, p2), (1, (fun _ => qi)), (38, p3), (38, p4), (1, (fun _ => qk)), (3, p5), (3, p6), (4, p7), (4, p8)] (1 + i - 1)) = _
    rw [if_neg (by omega), Nat.add_sub_cancel_left]
  have he : (((h0, .inr (6, [.ref (p1 0), .ref (p2 0), .ref qi, .ref qk, .ref (p5 0), .ref (p6 0), .ref (p7 0), .ref (p8 0), .long 0])) :: (lay cA p1 shLX4 zS ++ (lay cA p2 shLX1 zS ++ ((qi, .inl (cA 3, 2, .inr (.inr (.inr (.inr (va_up (va_up (fun _ => none) (0 : Int32).toNatClampNeg (some (p3 0))) (1 : Int32).toNatClampNeg (some (p4 0)))))))) :: (lay cA p3 shLX1 zS ++ (lay cA p4 shLX1 zS ++ ((qk, .inl (cA 1, 2, .inl (fun _ => 0))) :: (lay cA p5 shLX2 zS ++ (lay cA p6 shLX0 zS ++ (lay cA p7 shLX5 tS ++ lay cA p8 shLX5 tS)))))))))) : va_W) = lay cA (sg [(1, (fun _ => h0)), (2, p1), (38, p2), (1, (fun _ => qi)), (38, p3), (38, p4), (1, (fun _ => qk)), (3, p5), (3, p6), (4, p7), (4, p8)]) shC σC0 := by
    have h1 : lay cA (sg [(1, (fun _ => h0)), (2, p1), (38, p2), (1, (fun _ => qi)), (38, p3), (38, p4), (1, (fun _ => qk)), (3, p5), (3, p6), (4, p7), (4, p8)]) ([shX6] ++ (shLX4 ++ (shLX1 ++ ([ap 3 2 38] ++ (shLX1 ++ (shLX1 ++ ([az 2] ++ (shLX2 ++ (shLX0 ++ (shLX5 ++ shLX5)))))))))) σC0 = lay cA (sg [(1, (fun _ => h0)), (2, p1), (38, p2), (1, (fun _ => qi)), (38, p3), (38, p4), (1, (fun _ => qk)), (3, p5), (3, p6), (4, p7), (4, p8)]) [shX6] σC0 ++ lay cA (fun i => sg [(1, (fun _ => h0)), (2, p1), (38, p2), (1, (fun _ => qi)), (38, p3), (38, p4), (1, (fun _ => qk)), (3, p5), (3, p6), (4, p7), (4, p8)] (1 + i)) (shLX4 ++ (shLX1 ++ ([ap 3 2 38] ++ (shLX1 ++ (shLX1 ++ ([az 2] ++ (shLX2 ++ (shLX0 ++ (shLX5 ++ shLX5))))))))) (shS 1 σC0) := lay_app (by decide)
    rw [hs0] at h1
    have hx : lay cA (sg [(1, (fun _ => h0)), (2, p1), (38, p2), (1, (fun _ => qi)), (38, p3), (38, p4), (1, (fun _ => qk)), (3, p5), (3, p6), (4, p7), (4, p8)]) [shX6] σC0 = [(h0, .inr (6, [.ref (p1 0), .ref (p2 0), .ref qi, .ref qk, .ref (p5 0), .ref (p6 0), .ref (p7 0), .ref (p8 0), .long 0]))] := rfl
    have hk : lay cA (fun _ => qk) [az 2] zS = [(qk, .inl (cA 1, 2, .inl (fun _ => 0)))] := rfl
    rw [shC_eq, h1, e1, hx, hk]
    simp only [List.cons_append, List.nil_append]
  rw [he] at C
  have K := hend (sg [(1, (fun _ => h0)), (2, p1), (38, p2), (1, (fun _ => qi)), (38, p3), (38, p4), (1, (fun _ => qk)), (3, p5), (3, p6), (4, p7), (4, p8)]) 111 [(1, .int 2), (0, .ref h0)] rfl C dX6_init_111
  rw [← he] at K
  exact K
theorem hi_X6 : yX6_init.cls ≠ "java/lang/invoke/MethodHandle" ∧ yX6_init.cls ≠ "java/lang/invoke/VarHandle" ∧ (parseMethodDescriptor yX6_init.desc).map (fun d => d.parameters.length) = some 0 := by decide +kernel
