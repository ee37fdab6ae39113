def ah_findRest_J101 (N : Nat) (k2 : Nat) (a3 : Int32) (a4 : Int32) (a5 : Int32) (c6_57 : Int32) (c7_57 : Int32) (c4_57 : Int32) (c2_57 : Int32) (c3_57 : Int32) (c5_57 : Int32) (c8_57 : Int32) (σ : St) (R57 : Int32 → St → Option (Int32 × St)) (Rf : Nat → Int32 → Int32 → Int32 → St → Option (Int32 × St)) (x9_101 : Int32) (t0_101 : Int32) (σ101 : St) : Option (Int32 × St) :=
  if t0_101 = 0 then (
    lt (x9_101 + 1) fun x6 =>
    R57 x6 σ101)
  else (
    bd2 (td_holds N k2 x9_101 c6_57 c7_57 σ101) fun v8 σ7 =>
    if v8 = 0 then (
      lt (x9_101 + 1) fun x9 =>
      R57 x9 σ7)
    else (
      ck (inb c4_57 6) (lt (put σ7 124 (ix c4_57) x9_101) fun σ10 =>
      bd1 (ah_knit N k2 x9_101 σ10) fun σ11 =>
      bd2 (Rf k2 c2_57 (c3_57 ||| (1 <<< (x9_101 &&& 31))) (c4_57 + 1) σ11) fun v13 σ12 =>
      if v13 = 0 then (
        lt (put σ12 122 2 c5_57) fun σ14 =>
        lt (x9_101 + 1) fun x15 =>
        R57 x15 σ14)
      else (
        some (1, σ12)))))
def ah_findRest_J100 (N : Nat) (k2 : Nat) (a3 : Int32) (a4 : Int32) (a5 : Int32) (c6_57 : Int32) (c7_57 : Int32) (c4_57 : Int32) (c2_57 : Int32) (c3_57 : Int32) (c5_57 : Int32) (c8_57 : Int32) (σ : St) (R57 : Int32 → St → Option (Int32 × St)) (Rf : Nat → Int32 → Int32 → Int32 → St → Option (Int32 × St)) (x9_100 : Int32) (σ100 : St) : Option (Int32 × St) :=
  ah_findRest_J101 N k2 a3 a4 a5 c6_57 c7_57 c4_57 c2_57 c3_57 c5_57 c8_57 σ R57 Rf x9_100 0 σ100
def ah_findRest_J91 (N : Nat) (k2 : Nat) (a3 : Int32) (a4 : Int32) (a5 : Int32) (c8_57 : Int32) (c6_57 : Int32) (c7_57 : Int32) (c4_57 : Int32) (c2_57 : Int32) (c3_57 : Int32) (c5_57 : Int32) (σ : St) (R57 : Int32 → St → Option (Int32 × St)) (Rf : Nat → Int32 → Int32 → Int32 → St → Option (Int32 × St)) (x9_91 : Int32) (t0_91 : Int32) (σ91 : St) : Option (Int32 × St) :=
  if t0_91 = c8_57 then (
    ah_findRest_J101 N k2 a3 a4 a5 c6_57 c7_57 c4_57 c2_57 c3_57 c5_57 c8_57 σ R57 Rf x9_91 1 σ91)
  else (
    ah_findRest_J100 N k2 a3 a4 a5 c6_57 c7_57 c4_57 c2_57 c3_57 c5_57 c8_57 σ R57 Rf x9_91 σ91)
def ah_findRest_L57 (N : Nat) (k2 : Nat) (a3 : Int32) (a4 : Int32) (a5 : Int32) (c3_57 : Int32) (c2_57 : Int32) (c6_57 : Int32) (c7_57 : Int32) (c4_57 : Int32) (c5_57 : Int32) (c8_57 : Int32) (σ : St) (Rf : Nat → Int32 → Int32 → Int32 → St → Option (Int32 × St)) : Nat → Int32 → St → Option (Int32 × St)
  | 0, _, _ => none
  | n + 1, x9_57, σ57 =>
    if (σ57.1 k2 3) ≤ x9_57 then (
      some (0, σ57))
    else (
      if (c3_57 &&& (1 <<< (x9_57 &&& 31))) = 0 then (
        if c2_57 = (-1) then (
          ah_findRest_J101 N k2 a3 a4 a5 c6_57 c7_57 c4_57 c2_57 c3_57 c5_57 c8_57 σ (ah_findRest_L57 N k2 a3 a4 a5 c3_57 c2_57 c6_57 c7_57 c4_57 c5_57 c8_57 σ Rf n) Rf x9_57 1 σ57)
        else (
          if x9_57 = c2_57 then (
            ah_findRest_J91 N k2 a3 a4 a5 c8_57 c6_57 c7_57 c4_57 c2_57 c3_57 c5_57 σ (ah_findRest_L57 N k2 a3 a4 a5 c3_57 c2_57 c6_57 c7_57 c4_57 c5_57 c8_57 σ Rf n) Rf x9_57 1 σ57)
          else (
            ah_findRest_J91 N k2 a3 a4 a5 c8_57 c6_57 c7_57 c4_57 c2_57 c3_57 c5_57 σ (ah_findRest_L57 N k2 a3 a4 a5 c3_57 c2_57 c6_57 c7_57 c4_57 c5_57 c8_57 σ Rf n) Rf x9_57 0 σ57)))
      else (
        ah_findRest_J100 N k2 a3 a4 a5 c6_57 c7_57 c4_57 c2_57 c3_57 c5_57 c8_57 σ (ah_findRest_L57 N k2 a3 a4 a5 c3_57 c2_57 c6_57 c7_57 c4_57 c5_57 c8_57 σ Rf n) Rf x9_57 σ57))
def ah_findRest (N : Nat) : Nat → Nat → Int32 → Int32 → Int32 → St → Option (Int32 × St)
  | 0, _, _, _, _, _ => none
  | d + 1, k2, a3, a4, a5, σ =>
    if (σ.1 k2 3) ≤ a5 then (
      some (1, σ))
    else (
      if a5 < 6 then (
        lt (σ.1 122 2) fun x1 =>
        bd2 (ah_length N  σ) fun v3 σ2 =>
        bd2 (ah_least N  σ2) fun v5 σ4 =>
        if a5 = ((σ4.1 k2 3) - 1) then (
          ah_findRest_L57 N k2 a3 a4 a5 a4 a3 v3 v5 a5 x1 1 σ (ah_findRest N d) N 0 σ4)
        else (
          ah_findRest_L57 N k2 a3 a4 a5 a4 a3 v3 v5 a5 x1 0 σ (ah_findRest N d) N 0 σ4))
      else (
        some (1, σ)))
set_option maxRecDepth 20000 in
theorem w_ah_findRest_J101 {l : Launch} {D : va_G} {cA : Nat → ClassId} {π : Nat → Nat} {Γ : Gx St} {fr lo f1 l1 : Nat} {vo : Int32} {σo : St} (C : Cm Γ cX0_findRest RX0 cA fr lo 11 l D π shC (some .boolean) (some (.int vo), σo)) (hrm : 3 ≤ fr ∧ 122 ≤ lo) (hrm2 : f1 + 1 ≤ fr ∧ 8 + (11 + 11) + l1 ≤ lo) (N : Nat) (k2 : Nat) (a3 : Int32) (a4 : Int32) (a5 : Int32) (c6_57 : Int32) (c7_57 : Int32) (c4_57 : Int32) (c2_57 : Int32) (c3_57 : Int32) (c5_57 : Int32) (c8_57 : Int32) (σ : St) (R57 : Int32 → St → Option (Int32 × St)) (Rf : Nat → Int32 → Int32 → Int32 → St → Option (Int32 × St)) (x9_101 : Int32) (t0_101 : Int32) (σ101 : St) (hR57 : ∀ x9_57 σ, R57 x9_57 σ = some (vo, σo) → Wx Γ σ 57 [(0, .ref (π 122)), (1, .ref (π k2)), (2, .int c2_57), (3, .int c3_57), (4, .int c4_57), (5, .int c5_57), (6, .int c6_57), (7, .int c7_57), (8, .int c8_57), (9, .int x9_57)] []) (hk2 : shC[k2]? = some shX5) (hRf : ∀ (k2 : Nat) (a3 : Int32) (a4 : Int32) (a5 : Int32) (σ : St) (v : Int32) (σ' : St), shC[k2]? = some shX5 → Rf k2 a3 a4 a5 σ = some (v, σ') → Kt l D cA π shC yX0_findRest cX0_findRest 11 (some .boolean) f1 l1 [.ref (π 122), .ref (π k2), .int a3, .int a4, .int a5] σ (some (.int v)) σ') (h : ah_findRest_J101 N k2 a3 a4 a5 c6_57 c7_57 c4_57 c2_57 c3_57 c5_57 c8_57 σ R57 Rf x9_101 t0_101 σ101 = some (vo, σo)) : Wx Γ σ101 101 [(0, .ref (π 122)), (1, .ref (π k2)), (2, .int c2_57), (3, .int c3_57), (4, .int c4_57), (5, .int c5_57), (6, .int c6_57), (7, .int c7_57), (8, .int c8_57), (9, .int x9_101)] [.int t0_101] := by
  have C0 := C.1
  unfold ah_findRest_J101 at h
  refine x_istore C0 (L' := [(10, .int t0_101), (0, .ref (π 122)), (1, .ref (π k2)), (2, .int c2_57), (3, .int c3_57), (4, .int c4_57), (5, .int c5_57), (6, .int c6_57), (7, .int c7_57), (8, .int c8_57), (9, .int x9_101)]) dX0_findRest_101 (by decide) rfl ?_
  refine x_iload C0 dX0_findRest_103 rfl ?_
  refine x_if_eq C0 (tgt := 164) dX0_findRest_105 (by decide) h (fun h => ?_) (fun h => ?_)
  · refine x_iinc C0 (j := 10) (v := 1) (L' := fun x6 => [(9, .int x6), (10, .int t0_101), (0, .ref (π 122)), (1, .ref (π k2)), (2, .int c2_57), (3, .int c3_57), (4, .int c4_57), (5, .int c5_57), (6, .int c6_57), (7, .int c7_57), (8, .int c8_57)]) dX0_findRest_164 rfl (by decide) (by decide) (fun _ => rfl) h (fun x6 h => ?_)
    refine x_goto C0 (tgt := 57) dX0_findRest_167 (by decide) ?_
    exact x_pick [2, 3, 4, 5, 6, 7, 8, 9, 10, 0] rfl (hR57 _ _ h)
  · refine x_aload_n C0 dX0_findRest_108 rfl ?_
    refine x_iload C0 dX0_findRest_109 rfl ?_
    refine x_iload C0 dX0_findRest_111 rfl ?_
    refine x_iload C0 dX0_findRest_113 rfl ?_
    obtain ⟨v8, σ7, hc, h⟩ := bd2_some h
    refine x_callVi C (k_td_holds N k2 x9_101 c6_57 c7_57 hk2 hc) umX0_42 ui_X5_holds us_X5_holds un_X5 uc_X5_holds hv_X5_holds rfl (by omega) hk2 rfl dX0_findRest_115 (rest := []) rfl (Nat.le_of_ble_eq_true rfl) ?_
    refine x_if_eq C0 (tgt := 164) dX0_findRest_118 (by decide) h (fun h => ?_) (fun h => ?_)
    · refine x_iinc C0 (j := 10) (v := 1) (L' := fun x9 => [(9, .int x9), (10, .int t0_101), (0, .ref (π 122)), (1, .ref (π k2)), (2, .int c2_57), (3, .int c3_57), (4, .int c4_57), (5, .int c5_57), (6, .int c6_57), (7, .int c7_57), (8, .int c8_57)]) dX0_findRest_164 rfl (by decide) (by decide) (fun _ => rfl) h (fun x9 h => ?_)
      refine x_goto C0 (tgt := 57) dX0_findRest_167 (by decide) ?_
      exact x_pick [2, 3, 4, 5, 6, 7, 8, 9, 10, 0] rfl (hR57 _ _ h)
    · refine x_aload_n C0 dX0_findRest_121 rfl ?_
      refine gt_X0_15 C dX0_findRest_122 ?_
      refine x_iload C0 dX0_findRest_125 rfl ?_
      refine x_iload C0 dX0_findRest_127 rfl ?_
      refine x_iast C (k := 124) (z := 6) rfl dX0_findRest_129 h (fun σ10 h => ?_)
      refine x_aload_n C0 dX0_findRest_130 rfl ?_
      refine x_aload_n C0 dX0_findRest_131 rfl ?_
      refine x_iload C0 dX0_findRest_132 rfl ?_
      obtain ⟨σ11, hc, h⟩ := bd1_some h
      refine x_callVv C (k_ah_knit N k2 x9_101 hk2 hc) umX0_48 ui_X0_knit us_X0_knit un_X0 uc_X0_knit hv_X0_knit rfl (by omega) (fks := [4, 5, 0, 0]) rfl rfl dX0_findRest_134 (rest := []) rfl (Nat.le_of_ble_eq_true rfl) ?_
      refine x_aload_n C0 dX0_findRest_137 rfl ?_
      refine x_aload_n C0 dX0_findRest_138 rfl ?_
      refine x_iload_n C0 dX0_findRest_139 rfl ?_
      refine x_iload_n C0 dX0_findRest_140 rfl ?_
      refine x_iconst C0 (v := 1) dX0_findRest_141 (by decide) ?_
      refine x_iload C0 dX0_findRest_142 rfl ?_
      refine x_ishl C0 dX0_findRest_144 ?_
      refine x_ior C0 dX0_findRest_145 ?_
      refine x_iload C0 dX0_findRest_146 rfl ?_
      refine x_iconst C0 (v := 1) dX0_findRest_148 (by decide) ?_
      refine x_iadd C0 dX0_findRest_149 ?_
      obtain ⟨v13, σ12, hc, h⟩ := bd2_some h
      refine x_callSi C (hRf k2 c2_57 (c3_57 ||| (1 <<< (x9_101 &&& 31))) (c4_57 + 1) _ _ _ hk2 hc) umX0_52 ut_X0_findRest un_X0 uc_X0_findRest hs_X0_findRest rfl (by omega) dX0_findRest_150 (rest := []) rfl (Nat.le_of_ble_eq_true rfl) ?_
      refine x_if_eq C0 (tgt := 158) dX0_findRest_153 (by decide) h (fun h => ?_) (fun h => ?_)
      · refine x_aload_n C0 dX0_findRest_158 rfl ?_
        refine x_iload C0 dX0_findRest_159 rfl ?_
        refine pt_X0_27 C dX0_findRest_161 h (fun σ14 h => ?_)
        refine x_iinc C0 (j := 10) (v := 1) (L' := fun x15 => [(9, .int x15), (10, .int t0_101), (0, .ref (π 122)), (1, .ref (π k2)), (2, .int c2_57), (3, .int c3_57), (4, .int c4_57), (5, .int c5_57), (6, .int c6_57), (7, .int c7_57), (8, .int c8_57)]) dX0_findRest_164 rfl (by decide) (by decide) (fun _ => rfl) h (fun x15 h => ?_)
        refine x_goto C0 (tgt := 57) dX0_findRest_167 (by decide) ?_
        exact x_pick [2, 3, 4, 5, 6, 7, 8, 9, 10, 0] rfl (hR57 _ _ h)
      · refine x_iconst C0 (v := 1) dX0_findRest_156 (by decide) ?_
        exact x_zret C (Or.inr rfl) dX0_findRest_157 h
set_option maxRecDepth 20000 in
theorem w_ah_findRest_J100 {l : Launch} {D : va_G} {cA : Nat → ClassId} {π : Nat → Nat} {Γ : Gx St} {fr lo f1 l1 : Nat} {vo : Int32} {σo : St} (C : Cm Γ cX0_findRest RX0 cA fr lo 11 l D π shC (some .boolean) (some (.int vo), σo)) (hrm : 3 ≤ fr ∧ 122 ≤ lo) (hrm2 : f1 + 1 ≤ fr ∧ 8 + (11 + 11) + l1 ≤ lo) (N : Nat) (k2 : Nat) (a3 : Int32) (a4 : Int32) (a5 : Int32) (c6_57 : Int32) (c7_57 : Int32) (c4_57 : Int32) (c2_57 : Int32) (c3_57 : Int32) (c5_57 : Int32) (c8_57 : Int32) (σ : St) (R57 : Int32 → St → Option (Int32 × St)) (Rf : Nat → Int32 → Int32 → Int32 → St → Option (Int32 × St)) (x9_100 : Int32) (σ100 : St) (hR57 : ∀ x9_57 σ, R57 x9_57 σ = some (vo, σo) → Wx Γ σ 57 [(0, .ref (π 122)), (1, .ref (π k2)), (2, .int c2_57), (3, .int c3_57), (4, .int c4_57), (5, .int c5_57), (6, .int c6_57), (7, .int c7_57), (8, .int c8_57), (9, .int x9_57)] []) (hk2 : shC[k2]? = some shX5) (hRf : ∀ (k2 : Nat) (a3 : Int32) (a4 : Int32) (a5 : Int32) (σ : St) (v : Int32) (σ' : St), shC[k2]? = some shX5 → Rf k2 a3 a4 a5 σ = some (v, σ') → Kt l D cA π shC yX0_findRest cX0_findRest 11 (some .boolean) f1 l1 [.ref (π 122), .ref (π k2), .int a3, .int a4, .int a5] σ (some (.int v)) σ') (h : ah_findRest_J100 N k2 a3 a4 a5 c6_57 c7_57 c4_57 c2_57 c3_57 c5_57 c8_57 σ R57 Rf x9_100 σ100 = some (vo, σo)) : Wx Γ σ100 100 [(0, .ref (π 122)), (1, .ref (π k2)), (2, .int c2_57), (3, .int c3_57), (4, .int c4_57), (5, .int c5_57), (6, .int c6_57), (7, .int c7_57), (8, .int c8_57), (9, .int x9_100)] [] := by
  have C0 := C.1
  unfold ah_findRest_J100 at h
  refine x_iconst C0 (v := 0) dX0_findRest_100 (by decide) ?_
  exact x_pick [0, 1, 2, 3, 4, 5, 6, 7, 8, 9] rfl (w_ah_findRest_J101 C hrm hrm2 N k2 a3 a4 a5 c6_57 c7_57 c4_57 c2_57 c3_57 c5_57 c8_57 σ R57 Rf x9_100 0 σ100 hR57 hk2 hRf h)
set_option maxRecDepth 20000 in
theorem w_ah_findRest_J91 {l : Launch} {D : va_G} {cA : Nat → ClassId} {π : Nat → Nat} {Γ : Gx St} {fr lo f1 l1 : Nat} {vo : Int32} {σo : St} (C : Cm Γ cX0_findRest RX0 cA fr lo 11 l D π shC (some .boolean) (some (.int vo), σo)) (hrm : 3 ≤ fr ∧ 122 ≤ lo) (hrm2 : f1 + 1 ≤ fr ∧ 8 + (11 + 11) + l1 ≤ lo) (N : Nat) (k2 : Nat) (a3 : Int32) (a4 : Int32) (a5 : Int32) (c8_57 : Int32) (c6_57 : Int32) (c7_57 : Int32) (c4_57 : Int32) (c2_57 : Int32) (c3_57 : Int32) (c5_57 : Int32) (σ : St) (R57 : Int32 → St → Option (Int32 × St)) (Rf : Nat → Int32 → Int32 → Int32 → St → Option (Int32 × St)) (x9_91 : Int32) (t0_91 : Int32) (σ91 : St) (hR57 : ∀ x9_57 σ, R57 x9_57 σ = some (vo, σo) → Wx Γ σ 57 [(0, .ref (π 122)), (1, .ref (π k2)), (2, .int c2_57), (3, .int c3_57), (4, .int c4_57), (5, .int c5_57), (6, .int c6_57), (7, .int c7_57), (8, .int c8_57), (9, .int x9_57)] []) (hk2 : shC[k2]? = some shX5) (hRf : ∀ (k2 : Nat) (a3 : Int32) (a4 : Int32) (a5 : Int32) (σ : St) (v : Int32) (σ' : St), shC[k2]? = some shX5 → Rf k2 a3 a4 a5 σ = some (v, σ') → Kt l D cA π shC yX0_findRest cX0_findRest 11 (some .boolean) f1 l1 [.ref (π 122), .ref (π k2), .int a3, .int a4, .int a5] σ (some (.int v)) σ') (h : ah_findRest_J91 N k2 a3 a4 a5 c8_57 c6_57 c7_57 c4_57 c2_57 c3_57 c5_57 σ R57 Rf x9_91 t0_91 σ91 = some (vo, σo)) : Wx Γ σ91 91 [(0, .ref (π 122)), (1, .ref (π k2)), (2, .int c2_57), (3, .int c3_57), (4, .int c4_57), (5, .int c5_57), (6, .int c6_57), (7, .int c7_57), (8, .int c8_57), (9, .int x9_91)] [.int t0_91] := by
  have C0 := C.1
  unfold ah_findRest_J91 at h
  refine x_iload C0 dX0_findRest_91 rfl ?_
  refine x_icmp_ne C0 (tgt := 100) dX0_findRest_93 (by decide) h (fun h => ?_) (fun h => ?_)
  · exact x_pick [0, 1, 2, 3, 4, 5, 6, 7, 8, 9] rfl (w_ah_findRest_J100 C hrm hrm2 N k2 a3 a4 a5 c6_57 c7_57 c4_57 c2_57 c3_57 c5_57 c8_57 σ R57 Rf x9_91 σ91 hR57 hk2 hRf h)
  · refine x_iconst C0 (v := 1) dX0_findRest_96 (by decide) ?_
    refine x_goto C0 (tgt := 101) dX0_findRest_97 (by decide) ?_
    exact x_pick [0, 1, 2, 3, 4, 5, 6, 7, 8, 9] rfl (w_ah_findRest_J101 C hrm hrm2 N k2 a3 a4 a5 c6_57 c7_57 c4_57 c2_57 c3_57 c5_57 c8_57 σ R57 Rf x9_91 1 σ91 hR57 hk2 hRf h)
set_option maxRecDepth 20000 in
theorem w_ah_findRest_L57 {l : Launch} {D : va_G} {cA : Nat → ClassId} {π : Nat → Nat} {Γ : Gx St} {fr lo f1 l1 : Nat} {vo : Int32} {σo : St} (C : Cm Γ cX0_findRest RX0 cA fr lo 11 l D π shC (some .boolean) (some (.int vo), σo)) (hrm : 3 ≤ fr ∧ 122 ≤ lo) (hrm2 : f1 + 1 ≤ fr ∧ 8 + (11 + 11) + l1 ≤ lo) (N : Nat) (k2 : Nat) (a3 : Int32) (a4 : Int32) (a5 : Int32) (c3_57 : Int32) (c2_57 : Int32) (c6_57 : Int32) (c7_57 : Int32) (c4_57 : Int32) (c5_57 : Int32) (c8_57 : Int32) (σ : St) (Rf : Nat → Int32 → Int32 → Int32 → St → Option (Int32 × St)) (hk2 : shC[k2]? = some shX5) (hRf : ∀ (k2 : Nat) (a3 : Int32) (a4 : Int32) (a5 : Int32) (σ : St) (v : Int32) (σ' : St), shC[k2]? = some shX5 → Rf k2 a3 a4 a5 σ = some (v, σ') → Kt l D cA π shC yX0_findRest cX0_findRest 11 (some .boolean) f1 l1 [.ref (π 122), .ref (π k2), .int a3, .int a4, .int a5] σ (some (.int v)) σ') : ∀ (n : Nat) (x9_57 : Int32) (σ57 : St), ah_findRest_L57 N k2 a3 a4 a5 c3_57 c2_57 c6_57 c7_57 c4_57 c5_57 c8_57 σ Rf n x9_57 σ57 = some (vo, σo) → Wx Γ σ57 57 [(0, .ref (π 122)), (1, .ref (π k2)), (2, .int c2_57), (3, .int c3_57), (4, .int c4_57), (5, .int c5_57), (6, .int c6_57), (7, .int c7_57), (8, .int c8_57), (9, .int x9_57)] [] := by
  have C0 := C.1
  intro n
  induction n with
  | zero => intro x9_57 σ57 h; cases h
  | succ n ih =>
    intro x9_57 σ57 h
    rw [ah_findRest_L57] at h
    refine x_iload C0 dX0_findRest_57 rfl ?_
    refine x_aload_n C0 dX0_findRest_59 rfl ?_
    refine gt_X0_56 C hk2 dX0_findRest_60 ?_
    refine x_icmp_ge C0 (tgt := 170) dX0_findRest_63 (by decide) h (fun h => ?_) (fun h => ?_)
    · refine x_iconst C0 (v := 0) dX0_findRest_170 (by decide) ?_
      exact x_zret C (Or.inl rfl) dX0_findRest_171 h
    · refine x_iload_n C0 dX0_findRest_66 rfl ?_
      refine x_iconst C0 (v := 1) dX0_findRest_67 (by decide) ?_
      refine x_iload C0 dX0_findRest_68 rfl ?_
      refine x_ishl C0 dX0_findRest_70 ?_
      refine x_iand C0 dX0_findRest_71 ?_
      refine x_if_ne C0 (tgt := 100) dX0_findRest_72 (by decide) h (fun h => ?_) (fun h => ?_)
      · exact x_pick [0, 1, 2, 3, 4, 5, 6, 7, 8, 9] rfl (w_ah_findRest_J100 C hrm hrm2 N k2 a3 a4 a5 c6_57 c7_57 c4_57 c2_57 c3_57 c5_57 c8_57 σ (ah_findRest_L57 N k2 a3 a4 a5 c3_57 c2_57 c6_57 c7_57 c4_57 c5_57 c8_57 σ Rf n) Rf x9_57 σ57 ih hk2 hRf h)
      · refine x_iload_n C0 dX0_findRest_75 rfl ?_
        refine x_iconst C0 (v := (-1)) dX0_findRest_76 (by decide) ?_
        refine x_icmp_eq C0 (tgt := 96) dX0_findRest_77 (by decide) h (fun h => ?_) (fun h => ?_)
        · refine x_iconst C0 (v := 1) dX0_findRest_96 (by decide) ?_
          refine x_goto C0 (tgt := 101) dX0_findRest_97 (by decide) ?_
          exact x_pick [0, 1, 2, 3, 4, 5, 6, 7, 8, 9] rfl (w_ah_findRest_J101 C hrm hrm2 N k2 a3 a4 a5 c6_57 c7_57 c4_57 c2_57 c3_57 c5_57 c8_57 σ (ah_findRest_L57 N k2 a3 a4 a5 c3_57 c2_57 c6_57 c7_57 c4_57 c5_57 c8_57 σ Rf n) Rf x9_57 1 σ57 ih hk2 hRf h)
        · refine x_iload C0 dX0_findRest_80 rfl ?_
          refine x_iload_n C0 dX0_findRest_82 rfl ?_
          refine x_icmp_ne C0 (tgt := 90) dX0_findRest_83 (by decide) h (fun h => ?_) (fun h => ?_)
          · refine x_iconst C0 (v := 0) dX0_findRest_90 (by decide) ?_
            exact x_pick [0, 1, 2, 3, 4, 5, 6, 7, 8, 9] rfl (w_ah_findRest_J91 C hrm hrm2 N k2 a3 a4 a5 c8_57 c6_57 c7_57 c4_57 c2_57 c3_57 c5_57 σ (ah_findRest_L57 N k2 a3 a4 a5 c3_57 c2_57 c6_57 c7_57 c4_57 c5_57 c8_57 σ Rf n) Rf x9_57 0 σ57 ih hk2 hRf h)
          · refine x_iconst C0 (v := 1) dX0_findRest_86 (by decide) ?_
            refine x_goto C0 (tgt := 91) dX0_findRest_87 (by decide) ?_
            exact x_pick [0, 1, 2, 3, 4, 5, 6, 7, 8, 9] rfl (w_ah_findRest_J91 C hrm hrm2 N k2 a3 a4 a5 c8_57 c6_57 c7_57 c4_57 c2_57 c3_57 c5_57 σ (ah_findRest_L57 N k2 a3 a4 a5 c3_57 c2_57 c6_57 c7_57 c4_57 c5_57 c8_57 σ Rf n) Rf x9_57 1 σ57 ih hk2 hRf h)
set_option maxRecDepth 20000 in
theorem k_ah_findRest {l : Launch} {D : va_G} {cA : Nat → ClassId} {π : Nat → Nat} (N : Nat) : ∀ (d : Nat) (k2 : Nat) (a3 : Int32) (a4 : Int32) (a5 : Int32) (hk2 : shC[k2]? = some shX5) {σ : St} {vo : Int32} {σo : St}, ah_findRest N d k2 a3 a4 a5 σ = some (vo, σo) → Kt l D cA π shC yX0_findRest cX0_findRest 11 (some .boolean) (3 + d) (122 + 30 * d) [.ref (π 122), .ref (π k2), .int a3, .int a4, .int a5] σ (some (.int vo)) σo := by
  intro d
  induction d with
  | zero => intro k2 a3 a4 a5 hk2 σ vo σo h; cases h
  | succ d ihd =>
    intro k2 a3 a4 a5 hk2 σ vo σo h
    refine Kt.of (by decide) (Nat.le_of_ble_eq_true rfl) (L := [(0, .ref (π 122)), (1, .ref (π k2)), (2, .int a3), (3, .int a4), (4, .int a5)]) rfl (fun Γ C => ?_)
    have C0 := C.1
    rw [ah_findRest] at h
    have hrm : 3 ≤ 3 + (d + 1) ∧ 122 ≤ 122 + 30 * (d + 1) := by omega
    have hrm2 : (3 + d) + 1 ≤ 3 + (d + 1) ∧ 8 + (11 + 11) + (122 + 30 * d) ≤ 122 + 30 * (d + 1) := by omega
    have hRf := fun (k2 : Nat) (a3 : Int32) (a4 : Int32) (a5 : Int32) (σ : St) (v : Int32) (σ' : St) (hk2 : shC[k2]? = some shX5) hc => ihd k2 a3 a4 a5 hk2 (σ := σ) (vo := v) (σo := σ') hc
    refine x_iload C0 dX0_findRest_0 rfl ?_
    refine x_aload_n C0 dX0_findRest_2 rfl ?_
    refine gt_X0_56 C hk2 dX0_findRest_3 ?_
    refine x_icmp_ge C0 (tgt := 16) dX0_findRest_6 (by decide) h (fun h => ?_) (fun h => ?_)
    · refine x_iconst C0 (v := 1) dX0_findRest_16 (by decide) ?_
      exact x_zret C (Or.inr rfl) dX0_findRest_17 h
    · refine x_iload C0 dX0_findRest_9 rfl ?_
      refine x_bipush C0 (v := 6) dX0_findRest_11 (by decide) ?_
      refine x_icmp_lt C0 (tgt := 18) dX0_findRest_13 (by decide) h (fun h => ?_) (fun h => ?_)
      · refine x_aload_n C0 dX0_findRest_18 rfl ?_
        refine gt_X0_27 C dX0_findRest_19 ?_
        refine x_nm h (fun x1 h => ?_)
        refine x_istore C0 (L' := [(5, .int x1), (0, .ref (π 122)), (1, .ref (π k2)), (2, .int a3), (3, .int a4), (4, .int a5)]) dX0_findRest_22 (by decide) rfl ?_
        refine x_aload_n C0 dX0_findRest_24 rfl ?_
        obtain ⟨v3, σ2, hc, h⟩ := bd2_some h
        refine x_callVi C (k_ah_length N  hc) umX0_35 ui_X0_length us_X0_length un_X0 uc_X0_length hv_X0_length rfl (by omega) (fks := [4, 5, 0, 0]) rfl rfl dX0_findRest_25 (rest := []) rfl (Nat.le_of_ble_eq_true rfl) ?_
        refine x_istore C0 (L' := [(6, .int v3), (5, .int x1), (0, .ref (π 122)), (1, .ref (π k2)), (2, .int a3), (3, .int a4), (4, .int a5)]) dX0_findRest_28 (by decide) rfl ?_
        refine x_aload_n C0 dX0_findRest_30 rfl ?_
        obtain ⟨v5, σ4, hc, h⟩ := bd2_some h
        refine x_callVi C (k_ah_least N  hc) umX0_39 ui_X0_least us_X0_least un_X0 uc_X0_least hv_X0_least rfl (by omega) (fks := [4, 5, 0, 0]) rfl rfl dX0_findRest_31 (rest := []) rfl (Nat.le_of_ble_eq_true rfl) ?_
        refine x_istore C0 (L' := [(7, .int v5), (6, .int v3), (5, .int x1), (0, .ref (π 122)), (1, .ref (π k2)), (2, .int a3), (3, .int a4), (4, .int a5)]) dX0_findRest_34 (by decide) rfl ?_
        refine x_iload C0 dX0_findRest_36 rfl ?_
        refine x_aload_n C0 dX0_findRest_38 rfl ?_
        refine gt_X0_56 C hk2 dX0_findRest_39 ?_
        refine x_iconst C0 (v := 1) dX0_findRest_42 (by decide) ?_
        refine x_isub C0 dX0_findRest_43 ?_
        refine x_icmp_ne C0 (tgt := 51) dX0_findRest_44 (by decide) h (fun h => ?_) (fun h => ?_)
        · refine x_iconst C0 (v := 0) dX0_findRest_51 (by decide) ?_
          refine x_istore C0 (L' := [(8, .int 0), (7, .int v5), (6, .int v3), (5, .int x1), (0, .ref (π 122)), (1, .ref (π k2)), (2, .int a3), (3, .int a4), (4, .int a5)]) dX0_findRest_52 (by decide) rfl ?_
          refine x_iconst C0 (v := 0) dX0_findRest_54 (by decide) ?_
          refine x_istore C0 (L' := [(9, .int 0), (8, .int 0), (7, .int v5), (6, .int v3), (5, .int x1), (0, .ref (π 122)), (1, .ref (π k2)), (2, .int a3), (3, .int a4), (4, .int a5)]) dX0_findRest_55 (by decide) rfl ?_
          exact x_pick [5, 6, 7, 8, 9, 4, 3, 2, 1, 0] rfl (w_ah_findRest_L57 C hrm hrm2 N k2 a3 a4 a5 a4 a3 v3 v5 a5 x1 0 σ (ah_findRest N d) hk2 hRf N 0 σ4 h)
        · refine x_iconst C0 (v := 1) dX0_findRest_47 (by decide) ?_
          refine x_goto C0 (tgt := 52) dX0_findRest_48 (by decide) ?_
          refine x_istore C0 (L' := [(8, .int 1), (7, .int v5), (6, .int v3), (5, .int x1), (0, .ref (π 122)), (1, .ref (π k2)), (2, .int a3), (3, .int a4), (4, .int a5)]) dX0_findRest_52 (by decide) rfl ?_
          refine x_iconst C0 (v := 0) dX0_findRest_54 (by decide) ?_
          refine x_istore C0 (L' := [(9, .int 0), (8, .int 1), (7, .int v5), (6, .int v3), (5, .int x1), (0, .ref (π 122)), (1, .ref (π k2)), (2, .int a3), (3, .int a4), (4, .int a5)]) dX0_findRest_55 (by decide) rfl ?_
          exact x_pick [5, 6, 7, 8, 9, 4, 3, 2, 1, 0] rfl (w_ah_findRest_L57 C hrm hrm2 N k2 a3 a4 a5 a4 a3 v3 v5 a5 x1 1 σ (ah_findRest N d) hk2 hRf N 0 σ4 h)
      · refine x_iconst C0 (v := 1) dX0_findRest_16 (by decide) ?_
        exact x_zret C (Or.inr rfl) dX0_findRest_17 h
def ah_findOrder (N : Nat) (k1 : Nat) (a2 : Int32) (σ : St) : Option (Int32 × St) :=
  bd2 (ah_findRest N 7 k1 a2 0 0 σ) fun v2 σ1 =>
  ck (bz v2) (some (v2, σ1))
set_option maxRecDepth 20000 in
theorem k_ah_findOrder {l : Launch} {D : va_G} {cA : Nat → ClassId} {π : Nat → Nat} (N : Nat) (k1 : Nat) (a2 : Int32) (hk1 : shC[k1]? = some shX5) {σ : St} {vo : Int32} {σo : St} (h : ah_findOrder N k1 a2 σ = some (vo, σo)) : Kt l D cA π shC yX0_findOrder cX0_findOrder 3 (some .boolean) 11 362 [.ref (π 122), .ref (π k1), .int a2] σ (some (.int vo)) σo := by
  refine Kt.of (by decide) (Nat.le_of_ble_eq_true rfl) (L := [(0, .ref (π 122)), (1, .ref (π k1)), (2, .int a2)]) rfl (fun Γ C => ?_)
  have C0 := C.1
  unfold ah_findOrder at h
  refine x_aload_n C0 dX0_findOrder_0 rfl ?_
  refine x_aload_n C0 dX0_findOrder_1 rfl ?_
  refine x_iload_n C0 dX0_findOrder_2 rfl ?_
  refine x_iconst C0 (v := 0) dX0_findOrder_3 (by decide) ?_
  refine x_iconst C0 (v := 0) dX0_findOrder_4 (by decide) ?_
  obtain ⟨v2, σ1, hc, h⟩ := bd2_some h
  refine x_callSi C (k_ah_findRest N 7 k1 a2 0 0 hk1 hc) umX0_52 ut_X0_findRest un_X0 uc_X0_findRest hs_X0_findRest rfl (by decide) dX0_findOrder_5 (rest := []) rfl (Nat.le_of_ble_eq_true rfl) ?_
  refine x_chk h (fun q h => ?_)
  exact x_zret C (bz_or q) dX0_findOrder_8 h
def wb_order_J16 (N : Nat) (x1_16 : Int32) (x2_16 : Int32) (σ16 : St) : Option (Int32 × St) :=
  lt (ix (σ16.1 0 6)) fun r1 => ck (isTd r1) (
  bd2 (td_has N r1 x2_16 σ16) fun v3 σ2 =>
  if v3 = 0 then (
    some ((-1), σ2))
  else (
    bd2 (wb_span N  σ2) fun r5 σ4 => ck (isSp r5) (
    bd1 (ah_startFrom N r5 σ4) fun σ6 =>
    lt (ix (σ6.1 0 6)) fun r7 => ck (isTd r7) (
    bd2 (ah_findOrder N r7 x1_16 σ6) fun v9 σ8 =>
    if v9 = 0 then (
      some ((-9), σ8))
    else (
      ck (inb x2_16 6) (
      some ((σ8.1 124 (ix x2_16)), σ8)))))))
def wb_order (N : Nat) (a1 : Int32) (a2 : Int32) (σ : St) : Option (Int32 × St) :=
  if a1 = (-1) then (
    wb_order_J16 N a1 a2 σ)
  else (
    lt (ix (σ.1 0 6)) fun r10 => ck (isTd r10) (
    bd2 (td_has N r10 a1 σ) fun v12 σ11 =>
    if v12 = 0 then (
      some ((-1), σ11))
    else (
      wb_order_J16 N a1 a2 σ11)))
set_option maxRecDepth 20000 in
theorem w_wb_order_J16 {l : Launch} {D : va_G} {cA : Nat → ClassId} {π : Nat → Nat} {Γ : Gx St} {vo : Int32} {σo : St} (C : Cm Γ cX6_order RX6 cA 12 384 3 l D π shC (some .int) (some (.int vo), σo)) (N : Nat) (x1_16 : Int32) (x2_16 : Int32) (σ16 : St)  (h : wb_order_J16 N x1_16 x2_16 σ16 = some (vo, σo)) : Wx Γ σ16 16 [(0, .ref (π 0)), (1, .int x1_16), (2, .int x2_16)] [] := by
  have C0 := C.1
  unfold wb_order_J16 at h
  refine x_aload_n C0 dX6_order_16 rfl ?_
  refine gt_X6_48 C dX6_order_17 ?_
  refine x_nmr h (fun r1 h => ?_)
  refine x_chk h (fun q h => ?_)
  have hr1 := isTd_sh q
  refine x_iload_n C0 dX6_order_20 rfl ?_
  obtain ⟨v3, σ2, hc, h⟩ := bd2_some h
  refine x_callVi C (k_td_has N r1 x2_16 hr1 hc) umX6_80 ui_X5_has us_X5_has un_X5 uc_X5_has hv_X5_has rfl (by decide) hr1 rfl dX6_order_21 (rest := []) rfl (Nat.le_of_ble_eq_true rfl) ?_
  refine x_if_ne C0 (tgt := 29) dX6_order_24 (by decide) h (fun h => ?_) (fun h => ?_)
  · refine x_aload_n C0 dX6_order_29 rfl ?_
    refine gt_X6_41 C dX6_order_30 ?_
    refine x_aload_n C0 dX6_order_33 rfl ?_
    obtain ⟨r5, σ4, hc, h⟩ := bd2_some h
    refine x_callVr C (k_wb_span N  hc) umX6_90 ui_X6_span us_X6_span un_X6 uc_X6_span hv_X6_span rfl (by decide) (fks := [4, 6, 44, 121, 122, 125, 2, 2, 1]) rfl rfl dX6_order_34 (rest := [.ref (π 122)]) rfl (Nat.le_of_ble_eq_true rfl) ?_
    refine x_chk h (fun q h => ?_)
    have hr5 := isSp_sh q
    obtain ⟨σ6, hc, h⟩ := bd1_some h
    refine x_callVv C (k_ah_startFrom N r5 hr5 hc) umX6_165 ui_X0_startFrom us_X0_startFrom un_X0 uc_X0_startFrom hv_X0_startFrom rfl (by decide) (fks := [4, 5, 0, 0]) rfl rfl dX6_order_37 (rest := []) rfl (Nat.le_of_ble_eq_true rfl) ?_
    refine x_aload_n C0 dX6_order_40 rfl ?_
    refine gt_X6_41 C dX6_order_41 ?_
    refine x_aload_n C0 dX6_order_44 rfl ?_
    refine gt_X6_48 C dX6_order_45 ?_
    refine x_nmr h (fun r7 h => ?_)
    refine x_chk h (fun q h => ?_)
    have hr7 := isTd_sh q
    refine x_iload_n C0 dX6_order_48 rfl ?_
    obtain ⟨v9, σ8, hc, h⟩ := bd2_some h
    refine x_callVi C (k_ah_findOrder N r7 x1_16 hr7 hc) umX6_168 ui_X0_findOrder us_X0_findOrder un_X0 uc_X0_findOrder hv_X0_findOrder rfl (by decide) (fks := [4, 5, 0, 0]) rfl rfl dX6_order_49 (rest := []) rfl (Nat.le_of_ble_eq_true rfl) ?_
    refine x_if_eq C0 (tgt := 67) dX6_order_52 (by decide) h (fun h => ?_) (fun h => ?_)
    · refine x_bipush C0 (v := (-9)) dX6_order_67 (by decide) ?_
      exact x_iret C dX6_order_69 h
    · refine x_aload_n C0 dX6_order_55 rfl ?_
      refine gt_X6_41 C dX6_order_56 ?_
      refine gt_X6_172 C dX6_order_59 ?_
      refine x_iload_n C0 dX6_order_62 rfl ?_
      refine x_iald C (k := 124) (z := 6) rfl dX6_order_63 h (fun h => ?_)
      refine x_goto C0 (tgt := 69) dX6_order_64 (by decide) ?_
      exact x_iret C dX6_order_69 h
  · refine x_iconst C0 (v := (-1)) dX6_order_27 (by decide) ?_
    exact x_iret C dX6_order_28 h
set_option maxRecDepth 20000 in
theorem k_wb_order {l : Launch} {D : va_G} {cA : Nat → ClassId} {π : Nat → Nat} (N : Nat) (a1 : Int32) (a2 : Int32)  {σ : St} {vo : Int32} {σo : St} (h : wb_order N a1 a2 σ = some (vo, σo)) : Kt l D cA π shC yX6_order cX6_order 3 (some .int) 12 384 [.ref (π 0), .int a1, .int a2] σ (some (.int vo)) σo := by
  refine Kt.of (by decide) (Nat.le_of_ble_eq_true rfl) (L := [(0, .ref (π 0)), (1, .int a1), (2, .int a2)]) rfl (fun Γ C => ?_)
  have C0 := C.1
  unfold wb_order at h
  refine x_iload_n C0 dX6_order_0 rfl ?_
  refine x_iconst C0 (v := (-1)) dX6_order_1 (by decide) ?_
  refine x_icmp_eq C0 (tgt := 16) dX6_order_2 (by decide) h (fun h => ?_) (fun h => ?_)
  · exact x_pick [0, 1, 2] rfl (w_wb_order_J16 C N a1 a2 σ h)
  · refine x_aload_n C0 dX6_order_5 rfl ?_
    refine gt_X6_48 C dX6_order_6 ?_
    refine x_nmr h (fun r10 h => ?_)
    refine x_chk h (fun q h => ?_)
    have hr10 := isTd_sh q
    refine x_iload_n C0 dX6_order_9 rfl ?_
    obtain ⟨v12, σ11, hc, h⟩ := bd2_some h
    refine x_callVi C (k_td_has N r10 a1 hr10 hc) umX6_80 ui_X5_has us_X5_has un_X5 uc_X5_has hv_X5_has rfl (by decide) hr10 rfl dX6_order_10 (rest := []) rfl (Nat.le_of_ble_eq_true rfl) ?_
    refine x_if_eq C0 (tgt := 27) dX6_order_13 (by decide) h (fun h => ?_) (fun h => ?_)
    · refine x_iconst C0 (v := (-1)) dX6_order_27 (by decide) ?_
      exact x_iret C dX6_order_28 h
    · exact x_pick [0, 1, 2] rfl (w_wb_order_J16 C N a1 a2 σ11 h)
