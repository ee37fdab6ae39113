theorem lay_DD {cA : Nat → ClassId} {πc πm : Nat → Nat} {a b : List Sh} {σ1 σ2 τ1 τ2 : St} {A : Nat → Prop} (h : va_D A (lay cA πc a σ1 ++ lay cA πm b σ2)) : va_D A (lay cA πc a τ1 ++ lay cA πm b τ2) := by
  refine va_D.app (lay_D (D_left h)) (lay_D (D_right h)) (fun i j p q hi hj e => ?_)
  cases hs : a[i]? with
  | none => unfold lay at hi; rw [List.getElem?_mapIdx, hs] at hi; cases hi
  | some sh =>
    cases ht : b[j]? with
    | none => unfold lay at hj; rw [List.getElem?_mapIdx, ht] at hj; cases hj
    | some sh' =>
      rw [lay_at hs] at hi
      rw [lay_at ht] at hj
      cases hi; cases hj
      exact D_apart h (lay_at hs) (lay_at ht) e
set_option maxHeartbeats 4000000 in
set_option maxRecDepth 100000 in
theorem law_start {p : Program} {e : Env} {s : State} {m : MethodId} {below : List Frame} {meth : Method} {c : Code} (l : Launch) {b L : Nat} {xs : Nat → Int32} (hL : L ≤ 320) (C0 : lw_At p s m meth c b L xs) (N : Nat) {v1 : Int32} {σ1 σM : St} (h1 : mo_reads N zS = some (v1, σ1)) (h2 : mo_tells N σ1 = some σM) (Rel : St → St → Prop) (h0 : Rel σC0 σM) (h_type : Op_type N Rel) (h_clear : Op_clear N Rel) (h_gorge : Op_gorge N Rel) (h_person : Op_person N Rel) (h_row : Op_row N Rel) (h_crosses : Op_crosses N Rel) (h_turnsBack : Op_turnsBack N Rel) (h_drops : Op_drops N Rel) (h_draws : Op_draws N Rel) (h_rains : Op_rains N Rel) (h_year : Op_year N Rel) (h_undo : Op_undo N Rel) (h_now : Op_now N Rel) (h_order : Op_order N Rel) (h_lastOne : Op_lastOne N Rel) (h_crossings : Op_crossings N Rel) (h_over : Op_over N Rel) (h_mend : Op_mend N Rel) (h_odds : Op_odds N Rel) (h_plumbs : Op_plumbs N Rel) (h_forget : Op_forget N Rel) (h_drew : Op_drew N Rel) (h_night : Op_night N Rel) (h_mark : Op_mark N Rel) (h_keep : Op_keep N Rel) (h_back : Op_back N Rel) (h_count : Op_count N Rel) (h_trace : Op_trace N Rel) : W p l e room_1 s m #[Value.ref b] below meth c s.heap [] 0 0 (lw_Z below #[Value.ref b] s) (entryFrame m ([Value.ref b] : List Value).toArray 4) := by
  obtain ⟨hx, hb, hr, hml, hown, hts, hX, hbl, hlocks, hgv⟩ := id C0
  obtain ⟨c0, iS0, hKn0⟩ := u_known (C := RX0) (T := TX0) (N := 4) (n := 4) hts (fun w h => uw_tbl (uwX0 w h)) (hts _ (uw_tbl uo_X0))
  obtain ⟨c1, iS1, hKn1⟩ := u_known (C := RX1) (T := TX1) (N := 3) (n := 3) hts (fun w h => uw_tbl (uwX1 w h)) (hts _ (uw_tbl uo_X1))
  obtain ⟨c2, iS2, hKn2⟩ := u_known (C := RX2) (T := TX2) (N := 3) (n := 3) hts (fun w h => uw_tbl (uwX2 w h)) (hts _ (uw_tbl uo_X2))
  obtain ⟨c3, iS3, hKn3⟩ := u_known (C := RX3) (T := TX3) (N := 6) (n := 6) hts (fun w h => uw_tbl (uwX3 w h)) (hts _ (uw_tbl uo_X3))
  obtain ⟨c4, iS4, hKn4⟩ := u_known (C := RX4) (T := TX4) (N := 6) (n := 6) hts (fun w h => uw_tbl (uwX4 w h)) (hts _ (uw_tbl uo_X4))
  obtain ⟨c5, iS5, hKn5⟩ := u_known (C := RX5) (T := TX5) (N := 9) (n := 9) hts (fun w h => uw_tbl (uwX5 w h)) (hts _ (uw_tbl uo_X5))
  obtain ⟨c6, iS6, hKn6⟩ := u_known (C := RX6) (T := TX6) (N := 9) (n := 9) hts (fun w h => uw_tbl (uwX6 w h)) (hts _ (uw_tbl uo_X6))
  obtain ⟨c7, iS7, hKn7⟩ := u_known (C := RX7) (T := TX7) (N := 15) (n := 15) hts (fun w h => uw_tbl (uwX7 w h)) (hts _ (uw_tbl uo_X7))
  obtain ⟨dC, dI, hKc⟩ : ∃ (dC : Nat → ClassId) (dI : Nat → Nat → Nat), ∀ (k : Nat) (q : vw_C), vwCl[k]? = some q → u_Kn s q.1 q.2.1 q.2.2 (dC k) (dI k) := by
    refine ⟨fun k => match k with | 0 => c0 | 1 => c1 | 2 => c2 | 3 => c3 | 4 => c4 | 5 => c5 | 6 => c6 | _ => c7, fun k => match k with | 0 => iS0 | 1 => iS1 | 2 => iS2 | 3 => iS3 | 4 => iS4 | 5 => iS5 | 6 => iS6 | _ => iS7, ?_⟩
    intro k q hq
    match k, hq with
    | 0, hq => cases hq; exact hKn0
    | 1, hq => cases hq; exact hKn1
    | 2, hq => cases hq; exact hKn2
    | 3, hq => cases hq; exact hKn3
    | 4, hq => cases hq; exact hKn4
    | 5, hq => cases hq; exact hKn5
    | 6, hq => cases hq; exact hKn6
    | 7, hq => cases hq; exact hKn7
    | k + 8, hq => cases hq
  obtain ⟨i0, kI, compI, f1, f2, f3⟩ := Cond.arrayClass_spec (hts _ (uw_tbl ua_int))
  obtain ⟨i1, kZ, compZ, z1, z2, z3⟩ := Cond.arrayClass_spec (hts _ (uw_tbl ua_boolean))
  have aoS : va_AO "WoolBridge$Span" s := va_AO.of (hts _ (List.mem_append_right _ (List.mem_of_getElem? (i := 53) (by decide +kernel))))
  obtain ⟨compS, iS, kS, aS1, aS2, aS3, aS4, aS5⟩ := Cond.arrayOver_spec aoS
  have aoP : va_AO "WoolBridge$Past" s := va_AO.of (hts _ (List.mem_append_right _ (List.mem_of_getElem? (i := 99) (by decide +kernel))))
  obtain ⟨compP, iP, kP, aP1, aP2, aP3, aP4, aP5⟩ := Cond.arrayOver_spec aoP
  obtain ⟨cA, hcA⟩ : ∃ cA : Nat → ClassId, cA = fun k => match k with | 0 => i0 | 1 => i1 | 2 => iS | _ => iP := ⟨_, rfl⟩
  have hK : va_K (dC, dI) vwCl (TY cA) s := by
    subst hcA
    refine ⟨hKc, fun k q h => ?_⟩
    match k, h with
    | 0, h => cases h; exact ⟨fun n z => ⟨fun k h => (by cases h), kI, f2, compI, f3⟩, f1⟩
    | 1, h => cases h; exact ⟨fun n z => ⟨fun k h => (by cases h), kZ, z2, compZ, z3⟩, z1⟩
    | 2, h => cases h; exact ⟨fun n z => ⟨fun k h => (by cases h), kS, aS3, compS, aS4⟩, kS, compS, aS3, aS4, aS1, aS5⟩
    | 3, h => cases h; exact ⟨fun n z => ⟨fun k h => (by cases h), kP, aP3, compP, aP4⟩, kP, compP, aP3, aP4, aP1, aP5⟩
    | k + 4, h => cases h
  clear hcA
  have hA : ∀ q : Nat, s.heap.size ≤ q → (fun q : Nat => s.heap.size ≤ q) q := fun _ h => h
  have hbA : ¬ (fun q : Nat => s.heap.size ≤ q) b := Nat.not_le.mpr hbl
  have hu : ∀ w ∈ UW, w.before #[Value.ref b] s = true := fun w h => hts w (uw_tbl h)
  have hN : NW s := NW.of hts
  have hD0 : va_D (fun q : Nat => s.heap.size ≤ q) [] := ⟨fun i j p q h => by simp at h, fun k q h => by simp at h⟩
  obtain ⟨Γ, hΓ⟩ : ∃ Γ : Go, Γ = ((p, l, e, room_1, s, m, #[Value.ref b], below, meth, c), ((dC, dI), (fun q : Nat => s.heap.size ≤ q), 4, lw_Z below #[Value.ref b] s)) := ⟨_, rfl⟩
  have C : Cq false Γ cL_law RL cA 2048 84000 4 600000 7302250 [] 0 0 := by
    subst hΓ
    exact ⟨⟨hx, hb, hml, rfl, hown, hu, hK, fun _ => hD0, hN, hA, Nat.le_refl _, Nat.le_refl _, Nat.zero_le _, Nat.zero_le _⟩, rfl, rfl, ⟨aoS, aoP⟩, fun h => by cases h⟩
  have hl : Γ.1.2.1 = l := by subst hΓ; rfl
  have hDD : Γ.2.1 = (dC, dI) := by subst hΓ; rfl
  have main : Wx (Gw Γ [] 0 0) () 0 [(0, .ref b)] [] := by
    refine n_new C (fs := fsX6) (N := 9) (ci := 6) uwX6 tyX6 tyX6_ok ulL_7 uo_X6 un_X6 rfl (fun j hj => by rcases (show j = 0 ∨ j = 1 ∨ j = 2 ∨ j = 3 ∨ j = 4 ∨ j = 5 ∨ j = 6 ∨ j = 7 ∨ j = 8 by omega) with rfl | rfl | rfl | rfl | rfl | rfl | rfl | rfl | rfl <;> rfl) (by decide) (by decide) dL_law_0 (fun q C => ?_)
    refine x_dup C.1 rfl dL_law_3 ?_
    refine n_callI hl hDD C i_X6 (Or.inl umL_9) ui_X6_init un_X6 uc_X6_init rfl hi_X6 (by decide) (by decide) (by decide) dL_law_4 (Nat.le_of_ble_eq_true rfl) (fun πc hp C2 => ?_)
    subst hp
    have C := C2
    clear C2
    refine x_astore_n C.1 (L' := [(1, .ref (πc 0)), (0, .ref b)]) dL_law_7 (by decide) rfl ?_
    refine n_new C (fs := fsX7) (N := 15) (ci := 7) uwX7 tyX7 tyX7_ok ulL_10 uo_X7 un_X7 rfl (fun j hj => by rcases (show j = 0 ∨ j = 1 ∨ j = 2 ∨ j = 3 ∨ j = 4 ∨ j = 5 ∨ j = 6 ∨ j = 7 ∨ j = 8 ∨ j = 9 ∨ j = 10 ∨ j = 11 ∨ j = 12 ∨ j = 13 ∨ j = 14 by omega) with rfl | rfl | rfl | rfl | rfl | rfl | rfl | rfl | rfl | rfl | rfl | rfl | rfl | rfl | rfl <;> rfl) (by decide) (by decide) dL_law_8 (fun q C => ?_)
    refine x_dup C.1 rfl dL_law_11 ?_
    refine n_callI hl hDD C (i_X7 N h1 h2) (Or.inl umL_12) ui_X7_init un_X7 uc_X7_init rfl hi_X7 (by decide) (by decide) (by decide) dL_law_12 (Nat.le_of_ble_eq_true rfl) (fun πm hp C2 => ?_)
    subst hp
    have C := C2
    clear C2
    refine x_astore_n C.1 (L' := [(2, .ref (πm 0)), (1, .ref (πc 0)), (0, .ref b)]) dL_law_15 (by decide) rfl ?_
    refine x_iconst C.1 (v := 0) dL_law_16 (by decide) ?_
    refine x_istore_n C.1 (L' := [(3, .int 0), (2, .ref (πm 0)), (1, .ref (πc 0)), (0, .ref b)]) dL_law_17 (by decide) rfl ?_
    refine x_pick [0, 3, 2, 1] rfl ?_
    simp only [List.nil_append] at C ⊢
    have C : Cq false Γ cL_law RL cA 2048 84000 4 600000 7302250 (lay cA πc shC σC0 ++ lay cA πm shM σM) 142 7851 := C
    show Wx (Gw Γ _ 142 7851) () 18 [(3, .int (nI 0)), (0, .ref b), (1, .ref (πc 0)), (2, .ref (πm 0))] []
    obtain ⟨Γl, hΓl⟩ : ∃ Γl : Gx (St × St), Γl = (Γ.1, (Γ.2.1, wCM cA πc πm, Γ.2.2.1, Γ.2.2.2.1, 142, 7851, Γ.2.2.2.2)) := ⟨_, rfl⟩
    have CL : Cl Γl cA 2048 84000 l (dC, dI) πc πm b L xs := by
      subst hΓl; subst hΓ
      obtain ⟨⟨-, -, -, -, -, -, -, hD1, -⟩, -⟩ := C
      exact ⟨⟨hx, hb, hml, rfl, hown, hu, hK, fun σ => lay_DD (hD1 ()), hN, hA, Nat.le_refl _, Nat.le_refl _, by decide, by decide⟩, rfl, rfl, rfl, hX, hbl, hbA⟩
    have hend : ∀ (σ : St × St) (L : List (Nat × Value)), Wx Γl σ 821 L [] := by
      subst hΓl; subst hΓ
      intro σ L H locs ls hP hS hl
      refine lv_iconst (v := 1) hx hb dL_law_821 (by decide) ?_
      refine va_forget (fun q hq => hS.2.2 q hq) ?_
      refine W.widen (k := 600000) (n := 7302250) (by decide) (by decide) ?_
      exact lw_ret hx hb hr hlocks dL_law_822
    have K := law_loop CL hL hend N Rel h_type h_clear h_gorge h_person h_row h_crosses h_turnsBack h_drops h_draws h_rains h_year h_undo h_now h_order h_lastOne h_crossings h_over h_mend h_odds h_plumbs h_forget h_drew h_night h_mark h_keep h_back h_count h_trace (L + 1) 0 σC0 σM (by omega) (Nat.zero_le _) h0
    subst hΓl; subst hΓ
    exact K
  subst hΓ
  rw [lg_entry_eq]
  exact main s.heap [] _ (fun k q h => by simp at h) va_S.rf (lv_entry ([.ref b]) (n := 4) (Nat.le_of_ble_eq_true rfl))
