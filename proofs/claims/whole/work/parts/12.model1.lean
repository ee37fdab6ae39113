def mo_in (N : Nat) (a1 : Int32) (a2 : Int32) (a3 : Int32) (σ : St) : Option (Int32 × St) :=
  if a1 < a2 then (
    some (0, σ))
  else (
    if a3 < a1 then (
      some (0, σ))
    else (
      some (1, σ)))
set_option maxRecDepth 20000 in
theorem k_mo_in {l : Launch} {D : va_G} {cA : Nat → ClassId} {π : Nat → Nat} (N : Nat) (a1 : Int32) (a2 : Int32) (a3 : Int32)  {σ : St} {vo : Int32} {σo : St} (h : mo_in N a1 a2 a3 σ = some (vo, σo)) : Kt l D cA π shM yX7_in cX7_in 3 (some .boolean) 0 0 [.int a1, .int a2, .int a3] σ (some (.int vo)) σo := by
  refine Kt.of (by decide) (Nat.le_of_ble_eq_true rfl) (L := [(0, .int a1), (1, .int a2), (2, .int a3)]) rfl (fun Γ C => ?_)
  have C0 := C.1
  unfold mo_in at h
  refine x_iload_n C0 dX7_in_0 rfl ?_
  refine x_iload_n C0 dX7_in_1 rfl ?_
  refine x_icmp_lt C0 (tgt := 14) dX7_in_2 (by decide) h (fun h => ?_) (fun h => ?_)
  · refine x_iconst C0 (v := 0) dX7_in_14 (by decide) ?_
    exact x_zret C (Or.inl rfl) dX7_in_15 h
  · refine x_iload_n C0 dX7_in_5 rfl ?_
    refine x_iload_n C0 dX7_in_6 rfl ?_
    refine x_icmp_gt C0 (tgt := 14) dX7_in_7 (by decide) h (fun h => ?_) (fun h => ?_)
    · refine x_iconst C0 (v := 0) dX7_in_14 (by decide) ?_
      exact x_zret C (Or.inl rfl) dX7_in_15 h
    · refine x_iconst C0 (v := 1) dX7_in_10 (by decide) ?_
      refine x_goto C0 (tgt := 15) dX7_in_11 (by decide) ?_
      exact x_zret C (Or.inr rfl) dX7_in_15 h
def mo_byteAt (N : Nat) (a1 : Int32) (σ : St) : Option (Int32 × St) :=
  if (σ.1 0 2) ≤ a1 then (
    some ((-1), σ))
  else (
    ck (inb a1 200) (
    some ((σ.1 1 (ix a1)), σ)))
set_option maxRecDepth 20000 in
theorem k_mo_byteAt {l : Launch} {D : va_G} {cA : Nat → ClassId} {π : Nat → Nat} (N : Nat) (a1 : Int32)  {σ : St} {vo : Int32} {σo : St} (h : mo_byteAt N a1 σ = some (vo, σo)) : Kt l D cA π shM yX7_byteAt cX7_byteAt 2 (some .int) 0 0 [.ref (π 0), .int a1] σ (some (.int vo)) σo := by
  refine Kt.of (by decide) (Nat.le_of_ble_eq_true rfl) (L := [(0, .ref (π 0)), (1, .int a1)]) rfl (fun Γ C => ?_)
  have C0 := C.1
  unfold mo_byteAt at h
  refine x_iload_n C0 dX7_byteAt_0 rfl ?_
  refine x_aload_n C0 dX7_byteAt_1 rfl ?_
  refine gt_X7_46 C dX7_byteAt_2 ?_
  refine x_icmp_ge C0 (tgt := 17) dX7_byteAt_5 (by decide) h (fun h => ?_) (fun h => ?_)
  · refine x_iconst C0 (v := (-1)) dX7_byteAt_17 (by decide) ?_
    exact x_iret C dX7_byteAt_18 h
  · refine x_aload_n C0 dX7_byteAt_8 rfl ?_
    refine gt_X7_7 C dX7_byteAt_9 ?_
    refine x_iload_n C0 dX7_byteAt_12 rfl ?_
    refine x_iald C (k := 1) (z := 200) rfl dX7_byteAt_13 h (fun h => ?_)
    refine x_goto C0 (tgt := 18) dX7_byteAt_14 (by decide) ?_
    exact x_iret C dX7_byteAt_18 h
def mo_isDigit (N : Nat) (a1 : Int32) (σ : St) : Option (Int32 × St) :=
  bd2 (mo_in N a1 48 57 σ) fun v2 σ1 =>
  ck (bz v2) (some (v2, σ1))
set_option maxRecDepth 20000 in
theorem k_mo_isDigit {l : Launch} {D : va_G} {cA : Nat → ClassId} {π : Nat → Nat} (N : Nat) (a1 : Int32)  {σ : St} {vo : Int32} {σo : St} (h : mo_isDigit N a1 σ = some (vo, σo)) : Kt l D cA π shM yX7_isDigit cX7_isDigit 1 (some .boolean) 1 22 [.int a1] σ (some (.int vo)) σo := by
  refine Kt.of (by decide) (Nat.le_of_ble_eq_true rfl) (L := [(0, .int a1)]) rfl (fun Γ C => ?_)
  have C0 := C.1
  unfold mo_isDigit at h
  refine x_iload_n C0 dX7_isDigit_0 rfl ?_
  refine x_bipush C0 (v := 48) dX7_isDigit_1 (by decide) ?_
  refine x_bipush C0 (v := 57) dX7_isDigit_3 (by decide) ?_
  obtain ⟨v2, σ1, hc, h⟩ := bd2_some h
  refine x_callSi C (k_mo_in N a1 48 57  hc) umX7_42 ut_X7_in un_X7 uc_X7_in hs_X7_in rfl (by decide) dX7_isDigit_5 (rest := []) rfl (Nat.le_of_ble_eq_true rfl) ?_
  refine x_chk h (fun q h => ?_)
  exact x_zret C (bz_or q) dX7_isDigit_8 h
def mo_isLetter (N : Nat) (a1 : Int32) (σ : St) : Option (Int32 × St) :=
  bd2 (mo_in N a1 97 122 σ) fun v2 σ1 =>
  ck (bz v2) (some (v2, σ1))
set_option maxRecDepth 20000 in
theorem k_mo_isLetter {l : Launch} {D : va_G} {cA : Nat → ClassId} {π : Nat → Nat} (N : Nat) (a1 : Int32)  {σ : St} {vo : Int32} {σo : St} (h : mo_isLetter N a1 σ = some (vo, σo)) : Kt l D cA π shM yX7_isLetter cX7_isLetter 1 (some .boolean) 1 22 [.int a1] σ (some (.int vo)) σo := by
  refine Kt.of (by decide) (Nat.le_of_ble_eq_true rfl) (L := [(0, .int a1)]) rfl (fun Γ C => ?_)
  have C0 := C.1
  unfold mo_isLetter at h
  refine x_iload_n C0 dX7_isLetter_0 rfl ?_
  refine x_bipush C0 (v := 97) dX7_isLetter_1 (by decide) ?_
  refine x_bipush C0 (v := 122) dX7_isLetter_3 (by decide) ?_
  obtain ⟨v2, σ1, hc, h⟩ := bd2_some h
  refine x_callSi C (k_mo_in N a1 97 122  hc) umX7_42 ut_X7_in un_X7 uc_X7_in hs_X7_in rfl (by decide) dX7_isLetter_5 (rest := []) rfl (Nat.le_of_ble_eq_true rfl) ?_
  refine x_chk h (fun q h => ?_)
  exact x_zret C (bz_or q) dX7_isLetter_8 h
def mo_token_L110 (N : Nat) (c1_110 : Int32) : Nat → St → Option (St)
  | 0, _ => none
  | n + 1, σ110 =>
    if (σ110.1 0 11) = 1 then (
      bd2 (mo_byteAt N (σ110.1 0 10) σ110) fun v13 σ12 =>
      bd2 (mo_isLetter N v13 σ12) fun v15 σ14 =>
      if v15 = 0 then (
        some σ14)
      else (
        lt (put σ14 0 13 0) fun σ16 =>
        lt (put σ16 0 10 ((σ16.1 0 10) + 1)) fun σ17 =>
        (mo_token_L110 N c1_110 n) σ17))
    else (
      some σ110)
def mo_token_J222 (c1_166 : Int32) (R166 : St → Option (St)) (t0_222 : Int32) (σ222 : St) : Option (St) :=
  lt (put σ222 0 13 t0_222) fun σ24 =>
  lt (put σ24 0 10 ((σ24.1 0 10) + 1)) fun σ25 =>
  R166 σ25
def mo_token_L166 (N : Nat) (c1_166 : Int32) : Nat → St → Option (St)
  | 0, _ => none
  | n + 1, σ166 =>
    bd2 (mo_byteAt N (σ166.1 0 10) σ166) fun v21 σ20 =>
    bd2 (mo_isDigit N v21 σ20) fun v23 σ22 =>
    if v23 = 0 then (
      some σ22)
    else (
      if c1_166 = 48 then (
        mo_token_J222 c1_166 (mo_token_L166 N c1_166 n) 1000 σ22)
      else (
        if (σ22.1 0 13) ≤ 99 then (
          ck (inb (σ22.1 0 10) 200) (
          mo_token_J222 c1_166 (mo_token_L166 N c1_166 n) (((10 * (σ22.1 0 13)) + (σ22.1 1 (ix (σ22.1 0 10)))) - 48) σ22))
        else (
          mo_token_J222 c1_166 (mo_token_L166 N c1_166 n) 1000 σ22)))
def mo_token_J150 (N : Nat) (x1_150 : Int32) (σ150 : St) : Option (St) :=
  if (σ150.1 0 11) = 2 then (
    lt (put σ150 0 13 (x1_150 - 48)) fun σ19 =>
    bd1 (mo_token_L166 N x1_150 N σ19) fun σ26 =>
    some σ26)
  else (
    some σ150)
def mo_token_J85 (N : Nat) (x1_85 : Int32) (t0_85 : Int32) (σ85 : St) : Option (St) :=
  lt (put σ85 0 11 t0_85) fun σ10 =>
  lt (put σ10 0 13 x1_85) fun σ11 =>
  if (σ11.1 0 11) = 0 then (
    bd1 (mo_token_L110 N x1_85 N σ11) fun σ18 =>
    mo_token_J150 N x1_85 σ18)
  else (
    lt (put σ11 0 10 ((σ11.1 0 10) + 1)) fun σ27 =>
    bd1 (mo_token_L110 N x1_85 N σ27) fun σ28 =>
    mo_token_J150 N x1_85 σ28)
def mo_token_L0 (N : Nat) : Nat → St → Option (St)
  | 0, _ => none
  | n + 1, σ0 =>
    bd2 (mo_byteAt N (σ0.1 0 10) σ0) fun v31 σ30 =>
    if v31 = 32 then (
      lt (put σ30 0 10 ((σ30.1 0 10) + 1)) fun σ32 =>
      (mo_token_L0 N n) σ32)
    else (
      some σ30)
def mo_token (N : Nat) (σ : St) : Option (St) :=
  bd2 (mo_byteAt N (σ.1 0 10) σ) fun v2 σ1 =>
  if v2 = 32 then (
    lt (put σ1 0 10 ((σ1.1 0 10) + 1)) fun σ29 =>
    bd1 (mo_token_L0 N N σ29) fun σ33 =>
    lt (put σ33 0 12 (σ33.1 0 10)) fun σ34 =>
    bd2 (mo_byteAt N (σ34.1 0 10) σ34) fun v36 σ35 =>
    if 0 ≤ v36 then (
      bd2 (mo_isLetter N v36 σ35) fun v38 σ37 =>
      if v38 = 0 then (
        bd2 (mo_isDigit N v36 σ37) fun v40 σ39 =>
        if v40 = 0 then (
          if v36 = 59 then (
            mo_token_J85 N v36 3 σ39)
          else (
            mo_token_J85 N v36 4 σ39))
        else (
          mo_token_J85 N v36 2 σ39))
      else (
        mo_token_J85 N v36 1 σ37))
    else (
      mo_token_J85 N v36 0 σ35))
  else (
    lt (put σ1 0 12 (σ1.1 0 10)) fun σ3 =>
    bd2 (mo_byteAt N (σ3.1 0 10) σ3) fun v5 σ4 =>
    if 0 ≤ v5 then (
      bd2 (mo_isLetter N v5 σ4) fun v7 σ6 =>
      if v7 = 0 then (
        bd2 (mo_isDigit N v5 σ6) fun v9 σ8 =>
        if v9 = 0 then (
          if v5 = 59 then (
            mo_token_J85 N v5 3 σ8)
          else (
            mo_token_J85 N v5 4 σ8))
        else (
          mo_token_J85 N v5 2 σ8))
      else (
        mo_token_J85 N v5 1 σ6))
    else (
      mo_token_J85 N v5 0 σ4))
set_option maxRecDepth 20000 in
theorem w_mo_token_L110 {l : Launch} {D : va_G} {cA : Nat → ClassId} {π : Nat → Nat} {Γ : Gx St} {σo : St} (C : Cm Γ cX7_token RX7 cA 2 42 2 l D π shM none (none, σo)) (N : Nat) (c1_110 : Int32)  (yo : St) (kk110 : ∀ σe, σe = yo → Wx Γ σe 150 [(0, .ref (π 0)), (1, .int c1_110)] []) : ∀ (n : Nat) (σ110 : St), mo_token_L110 N c1_110 n  σ110 = some yo → Wx Γ σ110 110 [(0, .ref (π 0)), (1, .int c1_110)] [] := by
  have C0 := C.1
  intro n
  induction n with
  | zero => intro  σ110 h; cases h
  | succ n ih =>
    intro  σ110 h
    rw [mo_token_L110] at h
    refine x_aload_n C0 dX7_token_110 rfl ?_
    refine gt_X7_67 C dX7_token_111 ?_
    refine x_iconst C0 (v := 1) dX7_token_114 (by decide) ?_
    refine x_icmp_ne C0 (tgt := 150) dX7_token_115 (by decide) h (fun h => ?_) (fun h => ?_)
    · exact x_pick [0, 1] rfl (kk110 _ (Option.some.inj h))
    · refine x_aload_n C0 dX7_token_118 rfl ?_
      refine x_aload_n C0 dX7_token_119 rfl ?_
      refine gt_X7_50 C dX7_token_120 ?_
      obtain ⟨v13, σ12, hc, h⟩ := bd2_some h
      refine x_callVi C (k_mo_byteAt N (σ110.1 0 10)  hc) umX7_53 ui_X7_byteAt us_X7_byteAt un_X7 uc_X7_byteAt hv_X7_byteAt rfl (by decide) (fks := [1, 4, 0, 5, 6, 7, 8, 9, 10, 0, 0, 0, 0, 0, 11]) rfl rfl dX7_token_123 (rest := []) rfl (Nat.le_of_ble_eq_true rfl) ?_
      obtain ⟨v15, σ14, hc, h⟩ := bd2_some h
      refine x_callSi C (k_mo_isLetter N v13  hc) umX7_60 ut_X7_isLetter un_X7 uc_X7_isLetter hs_X7_isLetter rfl (by decide) dX7_token_126 (rest := []) rfl (Nat.le_of_ble_eq_true rfl) ?_
      refine x_if_eq C0 (tgt := 150) dX7_token_129 (by decide) h (fun h => ?_) (fun h => ?_)
      · exact x_pick [0, 1] rfl (kk110 _ (Option.some.inj h))
      · refine x_aload_n C0 dX7_token_132 rfl ?_
        refine x_iconst C0 (v := 0) dX7_token_133 (by decide) ?_
        refine pt_X7_70 C dX7_token_134 h (fun σ16 h => ?_)
        refine x_aload_n C0 dX7_token_137 rfl ?_
        refine x_dup C0 rfl dX7_token_138 ?_
        refine gt_X7_50 C dX7_token_139 ?_
        refine x_iconst C0 (v := 1) dX7_token_142 (by decide) ?_
        refine x_iadd C0 dX7_token_143 ?_
        refine pt_X7_50 C dX7_token_144 h (fun σ17 h => ?_)
        refine x_goto C0 (tgt := 110) dX7_token_147 (by decide) ?_
        exact x_pick [0, 1] rfl (ih _ h)
set_option maxRecDepth 20000 in
theorem w_mo_token_J222 {l : Launch} {D : va_G} {cA : Nat → ClassId} {π : Nat → Nat} {Γ : Gx St} {σo : St} {yo : St} (C : Cm Γ cX7_token RX7 cA 2 42 2 l D π shM none (none, σo)) (c1_166 : Int32) (R166 : St → Option (St)) (t0_222 : Int32) (σ222 : St) (hR166 : ∀ σ, R166 σ = some yo → Wx Γ σ 166 [(0, .ref (π 0)), (1, .int c1_166)] []) (h : mo_token_J222 c1_166 R166 t0_222 σ222 = some yo) : Wx Γ σ222 222 [(0, .ref (π 0)), (1, .int c1_166)] [.int t0_222, .ref (π 0)] := by
  have C0 := C.1
  unfold mo_token_J222 at h
  refine pt_X7_70 C dX7_token_222 h (fun σ24 h => ?_)
  refine x_aload_n C0 dX7_token_225 rfl ?_
  refine x_dup C0 rfl dX7_token_226 ?_
  refine gt_X7_50 C dX7_token_227 ?_
  refine x_iconst C0 (v := 1) dX7_token_230 (by decide) ?_
  refine x_iadd C0 dX7_token_231 ?_
  refine pt_X7_50 C dX7_token_232 h (fun σ25 h => ?_)
  refine x_goto C0 (tgt := 166) dX7_token_235 (by decide) ?_
  exact x_pick [0, 1] rfl (hR166 _ h)
set_option maxRecDepth 20000 in
theorem w_mo_token_L166 {l : Launch} {D : va_G} {cA : Nat → ClassId} {π : Nat → Nat} {Γ : Gx St} {σo : St} (C : Cm Γ cX7_token RX7 cA 2 42 2 l D π shM none (none, σo)) (N : Nat) (c1_166 : Int32)  (yo : St) (kk166 : ∀ σe, σe = yo → Wx Γ σe 238 [] []) : ∀ (n : Nat) (σ166 : St), mo_token_L166 N c1_166 n  σ166 = some yo → Wx Γ σ166 166 [(0, .ref (π 0)), (1, .int c1_166)] [] := by
  have C0 := C.1
  intro n
  induction n with
  | zero => intro  σ166 h; cases h
  | succ n ih =>
    intro  σ166 h
    rw [mo_token_L166] at h
    refine x_aload_n C0 dX7_token_166 rfl ?_
    refine x_aload_n C0 dX7_token_167 rfl ?_
    refine gt_X7_50 C dX7_token_168 ?_
    obtain ⟨v21, σ20, hc, h⟩ := bd2_some h
    refine x_callVi C (k_mo_byteAt N (σ166.1 0 10)  hc) umX7_53 ui_X7_byteAt us_X7_byteAt un_X7 uc_X7_byteAt hv_X7_byteAt rfl (by decide) (fks := [1, 4, 0, 5, 6, 7, 8, 9, 10, 0, 0, 0, 0, 0, 11]) rfl rfl dX7_token_171 (rest := []) rfl (Nat.le_of_ble_eq_true rfl) ?_
    obtain ⟨v23, σ22, hc, h⟩ := bd2_some h
    refine x_callSi C (k_mo_isDigit N v21  hc) umX7_64 ut_X7_isDigit un_X7 uc_X7_isDigit hs_X7_isDigit rfl (by decide) dX7_token_174 (rest := []) rfl (Nat.le_of_ble_eq_true rfl) ?_
    refine x_if_eq C0 (tgt := 238) dX7_token_177 (by decide) h (fun h => ?_) (fun h => ?_)
    · exact x_pick [] rfl (kk166 _ (Option.some.inj h))
    · refine x_aload_n C0 dX7_token_180 rfl ?_
      refine x_iload_n C0 dX7_token_181 rfl ?_
      refine x_bipush C0 (v := 48) dX7_token_182 (by decide) ?_
      refine x_icmp_eq C0 (tgt := 196) dX7_token_184 (by decide) h (fun h => ?_) (fun h => ?_)
      · refine x_sipush C0 (v := 1000) dX7_token_196 (by decide) ?_
        refine x_goto C0 (tgt := 222) dX7_token_199 (by decide) ?_
        exact x_pick [0, 1] rfl (w_mo_token_J222 C c1_166 (mo_token_L166 N c1_166 n) 1000 σ22 ih h)
      · refine x_aload_n C0 dX7_token_187 rfl ?_
        refine gt_X7_70 C dX7_token_188 ?_
        refine x_bipush C0 (v := 99) dX7_token_191 (by decide) ?_
        refine x_icmp_le C0 (tgt := 202) dX7_token_193 (by decide) h (fun h => ?_) (fun h => ?_)
        · refine x_bipush C0 (v := 10) dX7_token_202 (by decide) ?_
          refine x_aload_n C0 dX7_token_204 rfl ?_
          refine gt_X7_70 C dX7_token_205 ?_
          refine x_imul C0 dX7_token_208 ?_
          refine x_aload_n C0 dX7_token_209 rfl ?_
          refine gt_X7_7 C dX7_token_210 ?_
          refine x_aload_n C0 dX7_token_213 rfl ?_
          refine gt_X7_50 C dX7_token_214 ?_
          refine x_iald C (k := 1) (z := 200) rfl dX7_token_217 h (fun h => ?_)
          refine x_iadd C0 dX7_token_218 ?_
          refine x_bipush C0 (v := 48) dX7_token_219 (by decide) ?_
          refine x_isub C0 dX7_token_221 ?_
          exact x_pick [0, 1] rfl (w_mo_token_J222 C c1_166 (mo_token_L166 N c1_166 n) (((10 * (σ22.1 0 13)) + (σ22.1 1 (ix (σ22.1 0 10)))) - 48) σ22 ih h)
        · refine x_sipush C0 (v := 1000) dX7_token_196 (by decide) ?_
          refine x_goto C0 (tgt := 222) dX7_token_199 (by decide) ?_
          exact x_pick [0, 1] rfl (w_mo_token_J222 C c1_166 (mo_token_L166 N c1_166 n) 1000 σ22 ih h)
set_option maxRecDepth 20000 in
theorem w_mo_token_J150 {l : Launch} {D : va_G} {cA : Nat → ClassId} {π : Nat → Nat} {Γ : Gx St} {σo : St} (C : Cm Γ cX7_token RX7 cA 2 42 2 l D π shM none (none, σo)) (N : Nat) (x1_150 : Int32) (σ150 : St)  (h : mo_token_J150 N x1_150 σ150 = some σo) : Wx Γ σ150 150 [(0, .ref (π 0)), (1, .int x1_150)] [] := by
  have C0 := C.1
  unfold mo_token_J150 at h
  refine x_aload_n C0 dX7_token_150 rfl ?_
  refine gt_X7_67 C dX7_token_151 ?_
  refine x_iconst C0 (v := 2) dX7_token_154 (by decide) ?_
  refine x_icmp_ne C0 (tgt := 238) dX7_token_155 (by decide) h (fun h => ?_) (fun h => ?_)
  · exact x_vret C dX7_token_238 h
  · refine x_aload_n C0 dX7_token_158 rfl ?_
    refine x_iload_n C0 dX7_token_159 rfl ?_
    refine x_bipush C0 (v := 48) dX7_token_160 (by decide) ?_
    refine x_isub C0 dX7_token_162 ?_
    refine pt_X7_70 C dX7_token_163 h (fun σ19 h => ?_)
    obtain ⟨σ26, hL, h⟩ := bd1_some h
    refine x_pick [0, 1] rfl (w_mo_token_L166 C N x1_150 _ (fun b0 e => ?_) N  σ19 hL)
    cases e
    exact x_vret C dX7_token_238 h
set_option maxRecDepth 20000 in
theorem w_mo_token_J85 {l : Launch} {D : va_G} {cA : Nat → ClassId} {π : Nat → Nat} {Γ : Gx St} {σo : St} (C : Cm Γ cX7_token RX7 cA 2 42 2 l D π shM none (none, σo)) (N : Nat) (x1_85 : Int32) (t0_85 : Int32) (σ85 : St)  (h : mo_token_J85 N x1_85 t0_85 σ85 = some σo) : Wx Γ σ85 85 [(0, .ref (π 0)), (1, .int x1_85)] [.int t0_85, .ref (π 0)] := by
  have C0 := C.1
  unfold mo_token_J85 at h
  refine pt_X7_67 C dX7_token_85 h (fun σ10 h => ?_)
  refine x_aload_n C0 dX7_token_88 rfl ?_
  refine x_iload_n C0 dX7_token_89 rfl ?_
  refine pt_X7_70 C dX7_token_90 h (fun σ11 h => ?_)
  refine x_aload_n C0 dX7_token_93 rfl ?_
  refine gt_X7_67 C dX7_token_94 ?_
  refine x_if_eq C0 (tgt := 110) dX7_token_97 (by decide) h (fun h => ?_) (fun h => ?_)
  · obtain ⟨σ18, hL, h⟩ := bd1_some h
    refine x_pick [0, 1] rfl (w_mo_token_L110 C N x1_85 _ (fun b0 e => ?_) N  σ11 hL)
    cases e
    exact x_pick [0, 1] rfl (w_mo_token_J150 C N x1_85 σ18 h)
  · refine x_aload_n C0 dX7_token_100 rfl ?_
    refine x_dup C0 rfl dX7_token_101 ?_
    refine gt_X7_50 C dX7_token_102 ?_
    refine x_iconst C0 (v := 1) dX7_token_105 (by decide) ?_
    refine x_iadd C0 dX7_token_106 ?_
    refine pt_X7_50 C dX7_token_107 h (fun σ27 h => ?_)
    obtain ⟨σ28, hL, h⟩ := bd1_some h
    refine x_pick [0, 1] rfl (w_mo_token_L110 C N x1_85 _ (fun b0 e => ?_) N  σ27 hL)
    cases e
    exact x_pick [0, 1] rfl (w_mo_token_J150 C N x1_85 σ28 h)
set_option maxRecDepth 20000 in
theorem w_mo_token_L0 {l : Launch} {D : va_G} {cA : Nat → ClassId} {π : Nat → Nat} {Γ : Gx St} {σo : St} (C : Cm Γ cX7_token RX7 cA 2 42 2 l D π shM none (none, σo)) (N : Nat)  (yo : St) (kk0 : ∀ σe, σe = yo → Wx Γ σe 26 [(0, .ref (π 0))] []) : ∀ (n : Nat) (σ0 : St), mo_token_L0 N n  σ0 = some yo → Wx Γ σ0 0 [(0, .ref (π 0))] [] := by
  have C0 := C.1
  intro n
  induction n with
  | zero => intro  σ0 h; cases h
  | succ n ih =>
    intro  σ0 h
    rw [mo_token_L0] at h
    refine x_aload_n C0 dX7_token_0 rfl ?_
    refine x_aload_n C0 dX7_token_1 rfl ?_
    refine gt_X7_50 C dX7_token_2 ?_
    obtain ⟨v31, σ30, hc, h⟩ := bd2_some h
    refine x_callVi C (k_mo_byteAt N (σ0.1 0 10)  hc) umX7_53 ui_X7_byteAt us_X7_byteAt un_X7 uc_X7_byteAt hv_X7_byteAt rfl (by decide) (fks := [1, 4, 0, 5, 6, 7, 8, 9, 10, 0, 0, 0, 0, 0, 11]) rfl rfl dX7_token_5 (rest := []) rfl (Nat.le_of_ble_eq_true rfl) ?_
    refine x_bipush C0 (v := 32) dX7_token_8 (by decide) ?_
    refine x_icmp_ne C0 (tgt := 26) dX7_token_10 (by decide) h (fun h => ?_) (fun h => ?_)
    · exact x_pick [0] rfl (kk0 _ (Option.some.inj h))
    · refine x_aload_n C0 dX7_token_13 rfl ?_
      refine x_dup C0 rfl dX7_token_14 ?_
      refine gt_X7_50 C dX7_token_15 ?_
      refine x_iconst C0 (v := 1) dX7_token_18 (by decide) ?_
      refine x_iadd C0 dX7_token_19 ?_
      refine pt_X7_50 C dX7_token_20 h (fun σ32 h => ?_)
      refine x_goto C0 (tgt := 0) dX7_token_23 (by decide) ?_
      exact x_pick [0] rfl (ih _ h)
set_option maxRecDepth 20000 in
theorem k_mo_token {l : Launch} {D : va_G} {cA : Nat → ClassId} {π : Nat → Nat} (N : Nat)  {σ : St} {σo : St} (h : mo_token N σ = some σo) : Kt l D cA π shM yX7_token cX7_token 2 none 2 42 [.ref (π 0)] σ none σo := by
  refine Kt.of (by decide) (Nat.le_of_ble_eq_true rfl) (L := [(0, .ref (π 0))]) rfl (fun Γ C => ?_)
  have C0 := C.1
  unfold mo_token at h
  refine x_aload_n C0 dX7_token_0 rfl ?_
  refine x_aload_n C0 dX7_token_1 rfl ?_
  refine gt_X7_50 C dX7_token_2 ?_
  obtain ⟨v2, σ1, hc, h⟩ := bd2_some h
  refine x_callVi C (k_mo_byteAt N (σ.1 0 10)  hc) umX7_53 ui_X7_byteAt us_X7_byteAt un_X7 uc_X7_byteAt hv_X7_byteAt rfl (by decide) (fks := [1, 4, 0, 5, 6, 7, 8, 9, 10, 0, 0, 0, 0, 0, 11]) rfl rfl dX7_token_5 (rest := []) rfl (Nat.le_of_ble_eq_true rfl) ?_
  refine x_bipush C0 (v := 32) dX7_token_8 (by decide) ?_
  refine x_icmp_ne C0 (tgt := 26) dX7_token_10 (by decide) h (fun h => ?_) (fun h => ?_)
  · refine x_aload_n C0 dX7_token_26 rfl ?_
    refine x_aload_n C0 dX7_token_27 rfl ?_
    refine gt_X7_50 C dX7_token_28 ?_
    refine pt_X7_57 C dX7_token_31 h (fun σ3 h => ?_)
    refine x_aload_n C0 dX7_token_34 rfl ?_
    refine x_aload_n C0 dX7_token_35 rfl ?_
    refine gt_X7_50 C dX7_token_36 ?_
    obtain ⟨v5, σ4, hc, h⟩ := bd2_some h
    refine x_callVi C (k_mo_byteAt N (σ3.1 0 10)  hc) umX7_53 ui_X7_byteAt us_X7_byteAt un_X7 uc_X7_byteAt hv_X7_byteAt rfl (by decide) (fks := [1, 4, 0, 5, 6, 7, 8, 9, 10, 0, 0, 0, 0, 0, 11]) rfl rfl dX7_token_39 (rest := []) rfl (Nat.le_of_ble_eq_true rfl) ?_
    refine x_istore_n C0 (L' := [(1, .int v5), (0, .ref (π 0))]) dX7_token_42 (by decide) rfl ?_
    refine x_aload_n C0 dX7_token_43 rfl ?_
    refine x_iload_n C0 dX7_token_44 rfl ?_
    refine x_if_ge C0 (tgt := 52) dX7_token_45 (by decide) h (fun h => ?_) (fun h => ?_)
    · refine x_iload_n C0 dX7_token_52 rfl ?_
      obtain ⟨v7, σ6, hc, h⟩ := bd2_some h
      refine x_callSi C (k_mo_isLetter N v5  hc) umX7_60 ut_X7_isLetter un_X7 uc_X7_isLetter hs_X7_isLetter rfl (by decide) dX7_token_53 (rest := [.ref (π 0)]) rfl (Nat.le_of_ble_eq_true rfl) ?_
      refine x_if_eq C0 (tgt := 63) dX7_token_56 (by decide) h (fun h => ?_) (fun h => ?_)
      · refine x_iload_n C0 dX7_token_63 rfl ?_
        obtain ⟨v9, σ8, hc, h⟩ := bd2_some h
        refine x_callSi C (k_mo_isDigit N v5  hc) umX7_64 ut_X7_isDigit un_X7 uc_X7_isDigit hs_X7_isDigit rfl (by decide) dX7_token_64 (rest := [.ref (π 0)]) rfl (Nat.le_of_ble_eq_true rfl) ?_
        refine x_if_eq C0 (tgt := 74) dX7_token_67 (by decide) h (fun h => ?_) (fun h => ?_)
        · refine x_iload_n C0 dX7_token_74 rfl ?_
          refine x_bipush C0 (v := 59) dX7_token_75 (by decide) ?_
          refine x_icmp_ne C0 (tgt := 84) dX7_token_77 (by decide) h (fun h => ?_) (fun h => ?_)
          · refine x_iconst C0 (v := 4) dX7_token_84 (by decide) ?_
            exact x_pick [1, 0] rfl (w_mo_token_J85 C N v5 4 σ8 h)
          · refine x_iconst C0 (v := 3) dX7_token_80 (by decide) ?_
            refine x_goto C0 (tgt := 85) dX7_token_81 (by decide) ?_
            exact x_pick [1, 0] rfl (w_mo_token_J85 C N v5 3 σ8 h)
        · refine x_iconst C0 (v := 2) dX7_token_70 (by decide) ?_
          refine x_goto C0 (tgt := 85) dX7_token_71 (by decide) ?_
          exact x_pick [1, 0] rfl (w_mo_token_J85 C N v5 2 σ8 h)
      · refine x_iconst C0 (v := 1) dX7_token_59 (by decide) ?_
        refine x_goto C0 (tgt := 85) dX7_token_60 (by decide) ?_
        exact x_pick [1, 0] rfl (w_mo_token_J85 C N v5 1 σ6 h)
    · refine x_iconst C0 (v := 0) dX7_token_48 (by decide) ?_
      refine x_goto C0 (tgt := 85) dX7_token_49 (by decide) ?_
      exact x_pick [1, 0] rfl (w_mo_token_J85 C N v5 0 σ4 h)
  · refine x_aload_n C0 dX7_token_13 rfl ?_
    refine x_dup C0 rfl dX7_token_14 ?_
    refine gt_X7_50 C dX7_token_15 ?_
    refine x_iconst C0 (v := 1) dX7_token_18 (by decide) ?_
    refine x_iadd C0 dX7_token_19 ?_
    refine pt_X7_50 C dX7_token_20 h (fun σ29 h => ?_)
    refine x_goto C0 (tgt := 0) dX7_token_23 (by decide) ?_
    obtain ⟨σ33, hL, h⟩ := bd1_some h
    refine x_pick [0] rfl (w_mo_token_L0 C N _ (fun b0 e => ?_) N  σ29 hL)
    cases e
    refine x_aload_n C0 dX7_token_26 rfl ?_
    refine x_aload_n C0 dX7_token_27 rfl ?_
    refine gt_X7_50 C dX7_token_28 ?_
    refine pt_X7_57 C dX7_token_31 h (fun σ34 h => ?_)
    refine x_aload_n C0 dX7_token_34 rfl ?_
    refine x_aload_n C0 dX7_token_35 rfl ?_
    refine gt_X7_50 C dX7_token_36 ?_
    obtain ⟨v36, σ35, hc, h⟩ := bd2_some h
    refine x_callVi C (k_mo_byteAt N (σ34.1 0 10)  hc) umX7_53 ui_X7_byteAt us_X7_byteAt un_X7 uc_X7_byteAt hv_X7_byteAt rfl (by decide) (fks := [1, 4, 0, 5, 6, 7, 8, 9, 10, 0, 0, 0, 0, 0, 11]) rfl rfl dX7_token_39 (rest := []) rfl (Nat.le_of_ble_eq_true rfl) ?_
    refine x_istore_n C0 (L' := [(1, .int v36), (0, .ref (π 0))]) dX7_token_42 (by decide) rfl ?_
    refine x_aload_n C0 dX7_token_43 rfl ?_
    refine x_iload_n C0 dX7_token_44 rfl ?_
    refine x_if_ge C0 (tgt := 52) dX7_token_45 (by decide) h (fun h => ?_) (fun h => ?_)
    · refine x_iload_n C0 dX7_token_52 rfl ?_
      obtain ⟨v38, σ37, hc, h⟩ := bd2_some h
      refine x_callSi C (k_mo_isLetter N v36  hc) umX7_60 ut_X7_isLetter un_X7 uc_X7_isLetter hs_X7_isLetter rfl (by decide) dX7_token_53 (rest := [.ref (π 0)]) rfl (Nat.le_of_ble_eq_true rfl) ?_
      refine x_if_eq C0 (tgt := 63) dX7_token_56 (by decide) h (fun h => ?_) (fun h => ?_)
      · refine x_iload_n C0 dX7_token_63 rfl ?_
        obtain ⟨v40, σ39, hc, h⟩ := bd2_some h
        refine x_callSi C (k_mo_isDigit N v36  hc) umX7_64 ut_X7_isDigit un_X7 uc_X7_isDigit hs_X7_isDigit rfl (by decide) dX7_token_64 (rest := [.ref (π 0)]) rfl (Nat.le_of_ble_eq_true rfl) ?_
        refine x_if_eq C0 (tgt := 74) dX7_token_67 (by decide) h (fun h => ?_) (fun h => ?_)
        · refine x_iload_n C0 dX7_token_74 rfl ?_
          refine x_bipush C0 (v := 59) dX7_token_75 (by decide) ?_
          refine x_icmp_ne C0 (tgt := 84) dX7_token_77 (by decide) h (fun h => ?_) (fun h => ?_)
          · refine x_iconst C0 (v := 4) dX7_token_84 (by decide) ?_
            exact x_pick [1, 0] rfl (w_mo_token_J85 C N v36 4 σ39 h)
          · refine x_iconst C0 (v := 3) dX7_token_80 (by decide) ?_
            refine x_goto C0 (tgt := 85) dX7_token_81 (by decide) ?_
            exact x_pick [1, 0] rfl (w_mo_token_J85 C N v36 3 σ39 h)
        · refine x_iconst C0 (v := 2) dX7_token_70 (by decide) ?_
          refine x_goto C0 (tgt := 85) dX7_token_71 (by decide) ?_
          exact x_pick [1, 0] rfl (w_mo_token_J85 C N v36 2 σ39 h)
      · refine x_iconst C0 (v := 1) dX7_token_59 (by decide) ?_
        refine x_goto C0 (tgt := 85) dX7_token_60 (by decide) ?_
        exact x_pick [1, 0] rfl (w_mo_token_J85 C N v36 1 σ37 h)
    · refine x_iconst C0 (v := 0) dX7_token_48 (by decide) ?_
      refine x_goto C0 (tgt := 85) dX7_token_49 (by decide) ?_
      exact x_pick [1, 0] rfl (w_mo_token_J85 C N v36 0 σ35 h)
def mo_number (N : Nat) (a1 : Int32) (a2 : Int32) (a3 : Int32) (σ : St) : Option (Int32 × St) :=
  bd1 (mo_token N  σ) fun σ1 =>
  ck (inb a1 59) (lt (put σ1 3 (ix a1) (σ1.1 0 13)) fun σ2 =>
  if (σ2.1 0 11) = 2 then (
    bd2 (mo_in N (σ2.1 0 13) a2 a3 σ2) fun v4 σ3 =>
    if v4 = 0 then (
      some (0, σ3))
    else (
      some (1, σ3)))
  else (
    some (0, σ2)))
set_option maxRecDepth 20000 in
theorem k_mo_number {l : Launch} {D : va_G} {cA : Nat → ClassId} {π : Nat → Nat} (N : Nat) (a1 : Int32) (a2 : Int32) (a3 : Int32)  {σ : St} {vo : Int32} {σo : St} (h : mo_number N a1 a2 a3 σ = some (vo, σo)) : Kt l D cA π shM yX7_number cX7_number 4 (some .boolean) 3 63 [.ref (π 0), .int a1, .int a2, .int a3] σ (some (.int vo)) σo := by
  refine Kt.of (by decide) (Nat.le_of_ble_eq_true rfl) (L := [(0, .ref (π 0)), (1, .int a1), (2, .int a2), (3, .int a3)]) rfl (fun Γ C => ?_)
  have C0 := C.1
  unfold mo_number at h
  refine x_aload_n C0 dX7_number_0 rfl ?_
  obtain ⟨σ1, hc, h⟩ := bd1_some h
  refine x_callVv C (k_mo_token N  hc) umX7_73 ui_X7_token us_X7_token un_X7 uc_X7_token hv_X7_token rfl (by decide) (fks := [1, 4, 0, 5, 6, 7, 8, 9, 10, 0, 0, 0, 0, 0, 11]) rfl rfl dX7_number_1 (rest := []) rfl (Nat.le_of_ble_eq_true rfl) ?_
  refine x_aload_n C0 dX7_number_4 rfl ?_
  refine gt_X7_16 C dX7_number_5 ?_
  refine x_iload_n C0 dX7_number_8 rfl ?_
  refine x_aload_n C0 dX7_number_9 rfl ?_
  refine gt_X7_70 C dX7_number_10 ?_
  refine x_iast C (k := 3) (z := 59) rfl dX7_number_13 h (fun σ2 h => ?_)
  refine x_aload_n C0 dX7_number_14 rfl ?_
  refine gt_X7_67 C dX7_number_15 ?_
  refine x_iconst C0 (v := 2) dX7_number_18 (by decide) ?_
  refine x_icmp_ne C0 (tgt := 38) dX7_number_19 (by decide) h (fun h => ?_) (fun h => ?_)
  · refine x_iconst C0 (v := 0) dX7_number_38 (by decide) ?_
    exact x_zret C (Or.inl rfl) dX7_number_39 h
  · refine x_aload_n C0 dX7_number_22 rfl ?_
    refine gt_X7_70 C dX7_number_23 ?_
    refine x_iload_n C0 dX7_number_26 rfl ?_
    refine x_iload_n C0 dX7_number_27 rfl ?_
    obtain ⟨v4, σ3, hc, h⟩ := bd2_some h
    refine x_callSi C (k_mo_in N (σ2.1 0 13) a2 a3  hc) umX7_42 ut_X7_in un_X7 uc_X7_in hs_X7_in rfl (by decide) dX7_number_28 (rest := []) rfl (Nat.le_of_ble_eq_true rfl) ?_
    refine x_if_eq C0 (tgt := 38) dX7_number_31 (by decide) h (fun h => ?_) (fun h => ?_)
    · refine x_iconst C0 (v := 0) dX7_number_38 (by decide) ?_
      exact x_zret C (Or.inl rfl) dX7_number_39 h
    · refine x_iconst C0 (v := 1) dX7_number_34 (by decide) ?_
      refine x_goto C0 (tgt := 39) dX7_number_35 (by decide) ?_
      exact x_zret C (Or.inr rfl) dX7_number_39 h
def mo_once (N : Nat) (a1 : Int32) (a2 : Int32) (a3 : Int32) (σ : St) : Option (Int32 × St) :=
  ck (inb 4 59) (
  if ((σ.1 3 (ix 4)) &&& a1) = 0 then (
    ck (inb 4 59) (
    ck (inb 4 59) (lt (put σ 3 (ix 4) ((σ.1 3 (ix 4)) ||| a1)) fun σ1 =>
    bd2 (mo_number N a2 a3 30 σ1) fun v3 σ2 =>
    ck (bz v3) (some (v3, σ2)))))
  else (
    some (0, σ)))
set_option maxRecDepth 20000 in
theorem k_mo_once {l : Launch} {D : va_G} {cA : Nat → ClassId} {π : Nat → Nat} (N : Nat) (a1 : Int32) (a2 : Int32) (a3 : Int32)  {σ : St} {vo : Int32} {σo : St} (h : mo_once N a1 a2 a3 σ = some (vo, σo)) : Kt l D cA π shM yX7_once cX7_once 4 (some .boolean) 4 86 [.ref (π 0), .int a1, .int a2, .int a3] σ (some (.int vo)) σo := by
  refine Kt.of (by decide) (Nat.le_of_ble_eq_true rfl) (L := [(0, .ref (π 0)), (1, .int a1), (2, .int a2), (3, .int a3)]) rfl (fun Γ C => ?_)
  have C0 := C.1
  unfold mo_once at h
  refine x_aload_n C0 dX7_once_0 rfl ?_
  refine gt_X7_16 C dX7_once_1 ?_
  refine x_iconst C0 (v := 4) dX7_once_4 (by decide) ?_
  refine x_iald C (k := 3) (z := 59) rfl dX7_once_5 h (fun h => ?_)
  refine x_iload_n C0 dX7_once_6 rfl ?_
  refine x_iand C0 dX7_once_7 ?_
  refine x_if_eq C0 (tgt := 13) dX7_once_8 (by decide) h (fun h => ?_) (fun h => ?_)
  · refine x_aload_n C0 dX7_once_13 rfl ?_
    refine gt_X7_16 C dX7_once_14 ?_
    refine x_iconst C0 (v := 4) dX7_once_17 (by decide) ?_
    refine x_dup2_11 C0 rfl rfl dX7_once_18 ?_
    refine x_iald C (k := 3) (z := 59) rfl dX7_once_19 h (fun h => ?_)
    refine x_iload_n C0 dX7_once_20 rfl ?_
    refine x_ior C0 dX7_once_21 ?_
    refine x_iast C (k := 3) (z := 59) rfl dX7_once_22 h (fun σ1 h => ?_)
    refine x_aload_n C0 dX7_once_23 rfl ?_
    refine x_iload_n C0 dX7_once_24 rfl ?_
    refine x_iload_n C0 dX7_once_25 rfl ?_
    refine x_bipush C0 (v := 30) dX7_once_26 (by decide) ?_
    obtain ⟨v3, σ2, hc, h⟩ := bd2_some h
    refine x_callVi C (k_mo_number N a2 a3 30  hc) umX7_76 ui_X7_number us_X7_number un_X7 uc_X7_number hv_X7_number rfl (by decide) (fks := [1, 4, 0, 5, 6, 7, 8, 9, 10, 0, 0, 0, 0, 0, 11]) rfl rfl dX7_once_28 (rest := []) rfl (Nat.le_of_ble_eq_true rfl) ?_
    refine x_chk h (fun q h => ?_)
    exact x_zret C (bz_or q) dX7_once_31 h
  · refine x_iconst C0 (v := 0) dX7_once_11 (by decide) ?_
    exact x_zret C (Or.inl rfl) dX7_once_12 h
def mo_readsRows_L63 (N : Nat) (c1_63 : Int32) : Nat → Int32 → St → Option (St)
  | 0, _, _ => none
  | n + 1, x2_63, σ63 =>
    ck (inb 58 59) (
    if (σ63.1 3 (ix 58)) ≤ x2_63 then (
      some σ63)
    else (
      ck (inb 5 59) (
      ck (inb ((18 + (σ63.1 3 (ix 5))) + x2_63) 59) (lt (put σ63 3 (ix ((18 + (σ63.1 3 (ix 5))) + x2_63)) c1_63) fun σ6 =>
      lt (x2_63 + 1) fun x7 =>
      (mo_readsRows_L63 N c1_63 n) x7 σ6))))
def mo_readsRows (N : Nat) (σ : St) : Option (Int32 × St) :=
  ck (inb 0 59) (
  bd2 (mo_number N 58 0 ((σ.1 3 (ix 0)) - 1) σ) fun v2 σ1 =>
  if v2 = 0 then (
    some (0, σ1))
  else (
    ck (inb 58 59) (
    lt (σ1.1 3 (ix 58)) fun x3 =>
    bd2 (mo_number N 58 1 20 σ1) fun v5 σ4 =>
    if v5 = 0 then (
      some (0, σ4))
    else (
      ck (inb 5 59) (
      ck (inb 58 59) (
      if ((σ4.1 3 (ix 5)) + (σ4.1 3 (ix 58))) ≤ 40 then (
        bd1 (mo_readsRows_L63 N x3 N 0 σ4) fun σ8 =>
        ck (inb 5 59) (
        ck (inb 58 59) (
        ck (inb 5 59) (lt (put σ8 3 (ix 5) ((σ8.1 3 (ix 5)) + (σ8.1 3 (ix 58)))) fun σ9 =>
        some (1, σ9)))))
      else (
        some (0, σ4))))))))
set_option maxRecDepth 20000 in
theorem w_mo_readsRows_L63 {l : Launch} {D : va_G} {cA : Nat → ClassId} {π : Nat → Nat} {Γ : Gx St} {vo : Int32} {σo : St} (C : Cm Γ cX7_readsRows RX7 cA 4 86 3 l D π shM (some .boolean) (some (.int vo), σo)) (N : Nat) (c1_63 : Int32)  (yo : St) (kk63 : ∀ σe, σe = yo → Wx Γ σe 97 [(0, .ref (π 0))] []) : ∀ (n : Nat) (x2_63 : Int32) (σ63 : St), mo_readsRows_L63 N c1_63 n x2_63 σ63 = some yo → Wx Γ σ63 63 [(0, .ref (π 0)), (1, .int c1_63), (2, .int x2_63)] [] := by
  have C0 := C.1
  intro n
  induction n with
  | zero => intro x2_63 σ63 h; cases h
  | succ n ih =>
    intro x2_63 σ63 h
    rw [mo_readsRows_L63] at h
    refine x_iload_n C0 dX7_readsRows_63 rfl ?_
    refine x_aload_n C0 dX7_readsRows_64 rfl ?_
    refine gt_X7_16 C dX7_readsRows_65 ?_
    refine x_bipush C0 (v := 58) dX7_readsRows_68 (by decide) ?_
    refine x_iald C (k := 3) (z := 59) rfl dX7_readsRows_70 h (fun h => ?_)
    refine x_icmp_ge C0 (tgt := 97) dX7_readsRows_71 (by decide) h (fun h => ?_) (fun h => ?_)
    · exact x_pick [0] rfl (kk63 _ (Option.some.inj h))
    · refine x_aload_n C0 dX7_readsRows_74 rfl ?_
      refine gt_X7_16 C dX7_readsRows_75 ?_
      refine x_bipush C0 (v := 18) dX7_readsRows_78 (by decide) ?_
      refine x_aload_n C0 dX7_readsRows_80 rfl ?_
      refine gt_X7_16 C dX7_readsRows_81 ?_
      refine x_iconst C0 (v := 5) dX7_readsRows_84 (by decide) ?_
      refine x_iald C (k := 3) (z := 59) rfl dX7_readsRows_85 h (fun h => ?_)
      refine x_iadd C0 dX7_readsRows_86 ?_
      refine x_iload_n C0 dX7_readsRows_87 rfl ?_
      refine x_iadd C0 dX7_readsRows_88 ?_
      refine x_iload_n C0 dX7_readsRows_89 rfl ?_
      refine x_iast C (k := 3) (z := 59) rfl dX7_readsRows_90 h (fun σ6 h => ?_)
      refine x_iinc C0 (j := 2) (v := 1) (L' := fun x7 => [(2, .int x7), (0, .ref (π 0)), (1, .int c1_63)]) dX7_readsRows_91 rfl (by decide) (by decide) (fun _ => rfl) h (fun x7 h => ?_)
      refine x_goto C0 (tgt := 63) dX7_readsRows_94 (by decide) ?_
      exact x_pick [1, 2, 0] rfl (ih _ _ h)
set_option maxRecDepth 20000 in
theorem k_mo_readsRows {l : Launch} {D : va_G} {cA : Nat → ClassId} {π : Nat → Nat} (N : Nat)  {σ : St} {vo : Int32} {σo : St} (h : mo_readsRows N σ = some (vo, σo)) : Kt l D cA π shM yX7_readsRows cX7_readsRows 3 (some .boolean) 4 86 [.ref (π 0)] σ (some (.int vo)) σo := by
  refine Kt.of (by decide) (Nat.le_of_ble_eq_true rfl) (L := [(0, .ref (π 0))]) rfl (fun Γ C => ?_)
  have C0 := C.1
  unfold mo_readsRows at h
  refine x_aload_n C0 dX7_readsRows_0 rfl ?_
  refine x_bipush C0 (v := 58) dX7_readsRows_1 (by decide) ?_
  refine x_iconst C0 (v := 0) dX7_readsRows_3 (by decide) ?_
  refine x_aload_n C0 dX7_readsRows_4 rfl ?_
  refine gt_X7_16 C dX7_readsRows_5 ?_
  refine x_iconst C0 (v := 0) dX7_readsRows_8 (by decide) ?_
  refine x_iald C (k := 3) (z := 59) rfl dX7_readsRows_9 h (fun h => ?_)
  refine x_iconst C0 (v := 1) dX7_readsRows_10 (by decide) ?_
  refine x_isub C0 dX7_readsRows_11 ?_
  obtain ⟨v2, σ1, hc, h⟩ := bd2_some h
  refine x_callVi C (k_mo_number N 58 0 ((σ.1 3 (ix 0)) - 1)  hc) umX7_76 ui_X7_number us_X7_number un_X7 uc_X7_number hv_X7_number rfl (by decide) (fks := [1, 4, 0, 5, 6, 7, 8, 9, 10, 0, 0, 0, 0, 0, 11]) rfl rfl dX7_readsRows_12 (rest := []) rfl (Nat.le_of_ble_eq_true rfl) ?_
  refine x_if_ne C0 (tgt := 20) dX7_readsRows_15 (by decide) h (fun h => ?_) (fun h => ?_)
  · refine x_aload_n C0 dX7_readsRows_20 rfl ?_
    refine gt_X7_16 C dX7_readsRows_21 ?_
    refine x_bipush C0 (v := 58) dX7_readsRows_24 (by decide) ?_
    refine x_iald C (k := 3) (z := 59) rfl dX7_readsRows_26 h (fun h => ?_)
    refine x_nm h (fun x3 h => ?_)
    refine x_istore_n C0 (L' := [(1, .int x3), (0, .ref (π 0))]) dX7_readsRows_27 (by decide) rfl ?_
    refine x_aload_n C0 dX7_readsRows_28 rfl ?_
    refine x_bipush C0 (v := 58) dX7_readsRows_29 (by decide) ?_
    refine x_iconst C0 (v := 1) dX7_readsRows_31 (by decide) ?_
    refine x_bipush C0 (v := 20) dX7_readsRows_32 (by decide) ?_
    obtain ⟨v5, σ4, hc, h⟩ := bd2_some h
    refine x_callVi C (k_mo_number N 58 1 20  hc) umX7_76 ui_X7_number us_X7_number un_X7 uc_X7_number hv_X7_number rfl (by decide) (fks := [1, 4, 0, 5, 6, 7, 8, 9, 10, 0, 0, 0, 0, 0, 11]) rfl rfl dX7_readsRows_34 (rest := []) rfl (Nat.le_of_ble_eq_true rfl) ?_
    refine x_if_eq C0 (tgt := 59) dX7_readsRows_37 (by decide) h (fun h => ?_) (fun h => ?_)
    · refine x_iconst C0 (v := 0) dX7_readsRows_59 (by decide) ?_
      exact x_zret C (Or.inl rfl) dX7_readsRows_60 h
    · refine x_aload_n C0 dX7_readsRows_40 rfl ?_
      refine gt_X7_16 C dX7_readsRows_41 ?_
      refine x_iconst C0 (v := 5) dX7_readsRows_44 (by decide) ?_
      refine x_iald C (k := 3) (z := 59) rfl dX7_readsRows_45 h (fun h => ?_)
      refine x_aload_n C0 dX7_readsRows_46 rfl ?_
      refine gt_X7_16 C dX7_readsRows_47 ?_
      refine x_bipush C0 (v := 58) dX7_readsRows_50 (by decide) ?_
      refine x_iald C (k := 3) (z := 59) rfl dX7_readsRows_52 h (fun h => ?_)
      refine x_iadd C0 dX7_readsRows_53 ?_
      refine x_bipush C0 (v := 40) dX7_readsRows_54 (by decide) ?_
      refine x_icmp_le C0 (tgt := 61) dX7_readsRows_56 (by decide) h (fun h => ?_) (fun h => ?_)
      · refine x_iconst C0 (v := 0) dX7_readsRows_61 (by decide) ?_
        refine x_istore_n C0 (L' := [(2, .int 0), (1, .int x3), (0, .ref (π 0))]) dX7_readsRows_62 (by decide) rfl ?_
        obtain ⟨σ8, hL, h⟩ := bd1_some h
        refine x_pick [2, 1, 0] rfl (w_mo_readsRows_L63 C N x3 _ (fun b0 e => ?_) N 0 σ4 hL)
        cases e
        refine x_aload_n C0 dX7_readsRows_97 rfl ?_
        refine gt_X7_16 C dX7_readsRows_98 ?_
        refine x_iconst C0 (v := 5) dX7_readsRows_101 (by decide) ?_
        refine x_dup2_11 C0 rfl rfl dX7_readsRows_102 ?_
        refine x_iald C (k := 3) (z := 59) rfl dX7_readsRows_103 h (fun h => ?_)
        refine x_aload_n C0 dX7_readsRows_104 rfl ?_
        refine gt_X7_16 C dX7_readsRows_105 ?_
        refine x_bipush C0 (v := 58) dX7_readsRows_108 (by decide) ?_
        refine x_iald C (k := 3) (z := 59) rfl dX7_readsRows_110 h (fun h => ?_)
        refine x_iadd C0 dX7_readsRows_111 ?_
        refine x_iast C (k := 3) (z := 59) rfl dX7_readsRows_112 h (fun σ9 h => ?_)
        refine x_iconst C0 (v := 1) dX7_readsRows_113 (by decide) ?_
        exact x_zret C (Or.inr rfl) dX7_readsRows_114 h
      · refine x_iconst C0 (v := 0) dX7_readsRows_59 (by decide) ?_
        exact x_zret C (Or.inl rfl) dX7_readsRows_60 h
  · refine x_iconst C0 (v := 0) dX7_readsRows_18 (by decide) ?_
    exact x_zret C (Or.inl rfl) dX7_readsRows_19 h
def mo_readsItem_J16 (N : Nat) (t0_16 : Int32) (σ16 : St) : Option (Int32 × St) :=
  if t0_16 = 103 then (
    bd2 (mo_once N 1 1 1 σ16) fun v2 σ1 =>
    ck (bz v2) (some (v2, σ1)))
  else (
    if t0_16 = 107 then (
      bd2 (mo_readsRows N  σ16) fun v4 σ3 =>
      ck (bz v4) (some (v4, σ3)))
    else (
      if t0_16 = 112 then (
        ck (inb 0 59) (
        lt (σ16.1 3 (ix 0)) fun x5 =>
        if x5 = 6 then (
          some (0, σ16))
        else (
          bd2 (mo_number N (6 + x5) 1 9 σ16) fun v7 σ6 =>
          if v7 = 0 then (
            some (0, σ6))
          else (
            bd2 (mo_number N (12 + x5) 1 9 σ6) fun v9 σ8 =>
            if v9 = 0 then (
              some (0, σ8))
            else (
              ck (inb 0 59) (
              ck (inb 0 59) (lt (put σ8 3 (ix 0) ((σ8.1 3 (ix 0)) + 1)) fun σ10 =>
              some (1, σ10))))))))
      else (
        if t0_16 = 115 then (
          bd2 (mo_once N 2 2 0 σ16) fun v12 σ11 =>
          ck (bz v12) (some (v12, σ11)))
        else (
          some (0, σ16)))))
def mo_readsItem (N : Nat) (σ : St) : Option (Int32 × St) :=
  if (σ.1 0 11) = 1 then (
    mo_readsItem_J16 N (σ.1 0 13) σ)
  else (
    mo_readsItem_J16 N 0 σ)
set_option maxRecDepth 20000 in
theorem w_mo_readsItem_J16 {l : Launch} {D : va_G} {cA : Nat → ClassId} {π : Nat → Nat} {Γ : Gx St} {vo : Int32} {σo : St} (C : Cm Γ cX7_readsItem RX7 cA 5 109 3 l D π shM (some .boolean) (some (.int vo), σo)) (N : Nat) (t0_16 : Int32) (σ16 : St)  (h : mo_readsItem_J16 N t0_16 σ16 = some (vo, σo)) : Wx Γ σ16 16 [(0, .ref (π 0))] [.int t0_16] := by
  have C0 := C.1
  unfold mo_readsItem_J16 at h
  refine x_istore_n C0 (L' := [(1, .int t0_16), (0, .ref (π 0))]) dX7_readsItem_16 (by decide) rfl ?_
  refine x_iload_n C0 dX7_readsItem_17 rfl ?_
  refine x_case 103 h (fun q h => ?_) (fun q0 h => ?_)
  · refine x_lks C0 (tgt := 120) (off := 102) dX7_readsItem_18 (by decide) (by rw [q]; rfl) (by decide) ?_
    refine x_aload_n C0 dX7_readsItem_120 rfl ?_
    refine x_iconst C0 (v := 1) dX7_readsItem_121 (by decide) ?_
    refine x_iconst C0 (v := 1) dX7_readsItem_122 (by decide) ?_
    refine x_iconst C0 (v := 1) dX7_readsItem_123 (by decide) ?_
    obtain ⟨v2, σ1, hc, h⟩ := bd2_some h
    refine x_callVi C (k_mo_once N 1 1 1  hc) umX7_82 ui_X7_once us_X7_once un_X7 uc_X7_once hv_X7_once rfl (by decide) (fks := [1, 4, 0, 5, 6, 7, 8, 9, 10, 0, 0, 0, 0, 0, 11]) rfl rfl dX7_readsItem_124 (rest := []) rfl (Nat.le_of_ble_eq_true rfl) ?_
    refine x_chk h (fun q h => ?_)
    exact x_zret C (bz_or q) dX7_readsItem_127 h
  · refine x_case 107 h (fun q h => ?_) (fun q1 h => ?_)
    · refine x_lks C0 (tgt := 115) (off := 97) dX7_readsItem_18 (by decide) (by rw [q]; rfl) (by decide) ?_
      refine x_aload_n C0 dX7_readsItem_115 rfl ?_
      obtain ⟨v4, σ3, hc, h⟩ := bd2_some h
      refine x_callVi C (k_mo_readsRows N  hc) umX7_79 ui_X7_readsRows us_X7_readsRows un_X7 uc_X7_readsRows hv_X7_readsRows rfl (by decide) (fks := [1, 4, 0, 5, 6, 7, 8, 9, 10, 0, 0, 0, 0, 0, 11]) rfl rfl dX7_readsItem_116 (rest := []) rfl (Nat.le_of_ble_eq_true rfl) ?_
      refine x_chk h (fun q h => ?_)
      exact x_zret C (bz_or q) dX7_readsItem_119 h
    · refine x_case 112 h (fun q h => ?_) (fun q2 h => ?_)
      · refine x_lks C0 (tgt := 60) (off := 42) dX7_readsItem_18 (by decide) (by rw [q]; rfl) (by decide) ?_
        refine x_aload_n C0 dX7_readsItem_60 rfl ?_
        refine gt_X7_16 C dX7_readsItem_61 ?_
        refine x_iconst C0 (v := 0) dX7_readsItem_64 (by decide) ?_
        refine x_iald C (k := 3) (z := 59) rfl dX7_readsItem_65 h (fun h => ?_)
        refine x_nm h (fun x5 h => ?_)
        refine x_istore_n C0 (L' := [(2, .int x5), (1, .int t0_16), (0, .ref (π 0))]) dX7_readsItem_66 (by decide) rfl ?_
        refine x_iload_n C0 dX7_readsItem_67 rfl ?_
        refine x_bipush C0 (v := 6) dX7_readsItem_68 (by decide) ?_
        refine x_icmp_eq C0 (tgt := 101) dX7_readsItem_70 (by decide) h (fun h => ?_) (fun h => ?_)
        · refine x_iconst C0 (v := 0) dX7_readsItem_101 (by decide) ?_
          exact x_zret C (Or.inl rfl) dX7_readsItem_102 h
        · refine x_aload_n C0 dX7_readsItem_73 rfl ?_
          refine x_bipush C0 (v := 6) dX7_readsItem_74 (by decide) ?_
          refine x_iload_n C0 dX7_readsItem_76 rfl ?_
          refine x_iadd C0 dX7_readsItem_77 ?_
          refine x_iconst C0 (v := 1) dX7_readsItem_78 (by decide) ?_
          refine x_bipush C0 (v := 9) dX7_readsItem_79 (by decide) ?_
          obtain ⟨v7, σ6, hc, h⟩ := bd2_some h
          refine x_callVi C (k_mo_number N (6 + x5) 1 9  hc) umX7_76 ui_X7_number us_X7_number un_X7 uc_X7_number hv_X7_number rfl (by decide) (fks := [1, 4, 0, 5, 6, 7, 8, 9, 10, 0, 0, 0, 0, 0, 11]) rfl rfl dX7_readsItem_81 (rest := []) rfl (Nat.le_of_ble_eq_true rfl) ?_
          refine x_if_eq C0 (tgt := 101) dX7_readsItem_84 (by decide) h (fun h => ?_) (fun h => ?_)
          · refine x_iconst C0 (v := 0) dX7_readsItem_101 (by decide) ?_
            exact x_zret C (Or.inl rfl) dX7_readsItem_102 h
          · refine x_aload_n C0 dX7_readsItem_87 rfl ?_
            refine x_bipush C0 (v := 12) dX7_readsItem_88 (by decide) ?_
            refine x_iload_n C0 dX7_readsItem_90 rfl ?_
            refine x_iadd C0 dX7_readsItem_91 ?_
            refine x_iconst C0 (v := 1) dX7_readsItem_92 (by decide) ?_
            refine x_bipush C0 (v := 9) dX7_readsItem_93 (by decide) ?_
            obtain ⟨v9, σ8, hc, h⟩ := bd2_some h
            refine x_callVi C (k_mo_number N (12 + x5) 1 9  hc) umX7_76 ui_X7_number us_X7_number un_X7 uc_X7_number hv_X7_number rfl (by decide) (fks := [1, 4, 0, 5, 6, 7, 8, 9, 10, 0, 0, 0, 0, 0, 11]) rfl rfl dX7_readsItem_95 (rest := []) rfl (Nat.le_of_ble_eq_true rfl) ?_
            refine x_if_ne C0 (tgt := 103) dX7_readsItem_98 (by decide) h (fun h => ?_) (fun h => ?_)
            · refine x_aload_n C0 dX7_readsItem_103 rfl ?_
              refine gt_X7_16 C dX7_readsItem_104 ?_
              refine x_iconst C0 (v := 0) dX7_readsItem_107 (by decide) ?_
              refine x_dup2_11 C0 rfl rfl dX7_readsItem_108 ?_
              refine x_iald C (k := 3) (z := 59) rfl dX7_readsItem_109 h (fun h => ?_)
              refine x_iconst C0 (v := 1) dX7_readsItem_110 (by decide) ?_
              refine x_iadd C0 dX7_readsItem_111 ?_
              refine x_iast C (k := 3) (z := 59) rfl dX7_readsItem_112 h (fun σ10 h => ?_)
              refine x_iconst C0 (v := 1) dX7_readsItem_113 (by decide) ?_
              exact x_zret C (Or.inr rfl) dX7_readsItem_114 h
            · refine x_iconst C0 (v := 0) dX7_readsItem_101 (by decide) ?_
              exact x_zret C (Or.inl rfl) dX7_readsItem_102 h
      · refine x_case 115 h (fun q h => ?_) (fun q3 h => ?_)
        · refine x_lks C0 (tgt := 128) (off := 110) dX7_readsItem_18 (by decide) (by rw [q]; rfl) (by decide) ?_
          refine x_aload_n C0 dX7_readsItem_128 rfl ?_
          refine x_iconst C0 (v := 2) dX7_readsItem_129 (by decide) ?_
          refine x_iconst C0 (v := 2) dX7_readsItem_130 (by decide) ?_
          refine x_iconst C0 (v := 0) dX7_readsItem_131 (by decide) ?_
          obtain ⟨v12, σ11, hc, h⟩ := bd2_some h
          refine x_callVi C (k_mo_once N 2 2 0  hc) umX7_82 ui_X7_once us_X7_once un_X7 uc_X7_once hv_X7_once rfl (by decide) (fks := [1, 4, 0, 5, 6, 7, 8, 9, 10, 0, 0, 0, 0, 0, 11]) rfl rfl dX7_readsItem_132 (rest := []) rfl (Nat.le_of_ble_eq_true rfl) ?_
          refine x_chk h (fun q h => ?_)
          exact x_zret C (bz_or q) dX7_readsItem_135 h
        · refine x_lks C0 (tgt := 136) (off := 118) dX7_readsItem_18 (by decide) (by show Op.lookupswitch.offset [(103, 102), (107, 97), (112, 42), (115, 110)] 118 _ = _; rw [lv_osw q0 (show (103 : Int32).toInt = 103 from rfl), lv_osw q1 (show (107 : Int32).toInt = 107 from rfl), lv_osw q2 (show (112 : Int32).toInt = 112 from rfl), lv_osw q3 (show (115 : Int32).toInt = 115 from rfl)]; rfl) (by decide) ?_
          refine x_iconst C0 (v := 0) dX7_readsItem_136 (by decide) ?_
          exact x_zret C (Or.inl rfl) dX7_readsItem_137 h
set_option maxRecDepth 20000 in
theorem k_mo_readsItem {l : Launch} {D : va_G} {cA : Nat → ClassId} {π : Nat → Nat} (N : Nat)  {σ : St} {vo : Int32} {σo : St} (h : mo_readsItem N σ = some (vo, σo)) : Kt l D cA π shM yX7_readsItem cX7_readsItem 3 (some .boolean) 5 109 [.ref (π 0)] σ (some (.int vo)) σo := by
  refine Kt.of (by decide) (Nat.le_of_ble_eq_true rfl) (L := [(0, .ref (π 0))]) rfl (fun Γ C => ?_)
  have C0 := C.1
  unfold mo_readsItem at h
  refine x_aload_n C0 dX7_readsItem_0 rfl ?_
  refine gt_X7_67 C dX7_readsItem_1 ?_
  refine x_iconst C0 (v := 1) dX7_readsItem_4 (by decide) ?_
  refine x_icmp_ne C0 (tgt := 15) dX7_readsItem_5 (by decide) h (fun h => ?_) (fun h => ?_)
  · refine x_iconst C0 (v := 0) dX7_readsItem_15 (by decide) ?_
    exact x_pick [0] rfl (w_mo_readsItem_J16 C N 0 σ h)
  · refine x_aload_n C0 dX7_readsItem_8 rfl ?_
    refine gt_X7_70 C dX7_readsItem_9 ?_
    refine x_goto C0 (tgt := 16) dX7_readsItem_12 (by decide) ?_
    exact x_pick [0] rfl (w_mo_readsItem_J16 C N (σ.1 0 13) σ h)
def mo_reads_L2 (N : Nat) : Nat → Int32 → St → Option (St)
  | 0, _, _ => none
  | n + 1, x1_2, σ2 =>
    if 58 ≤ x1_2 then (
      some σ2)
    else (
      ck (inb x1_2 59) (lt (put σ2 3 (ix x1_2) 0) fun σ1 =>
      lt (x1_2 + 1) fun x2 =>
      (mo_reads_L2 N n) x2 σ1))
def mo_reads_L46 (N : Nat) : Nat → St → Option (Int32 × St)
  | 0, _ => none
  | n + 1, σ46 =>
    if (σ46.1 0 11) = 0 then (
      some (1, σ46))
    else (
      bd2 (mo_readsItem N  σ46) fun v9 σ8 =>
      if v9 = 0 then (
        some (0, σ8))
      else (
        bd1 (mo_token N  σ8) fun σ10 =>
        if (σ10.1 0 11) = 3 then (
          ck (inb 3 59) (
          ck (inb 3 59) (lt (put σ10 3 (ix 3) ((σ10.1 3 (ix 3)) + 1)) fun σ11 =>
          bd1 (mo_token N  σ11) fun σ12 =>
          (mo_reads_L46 N n) σ12)))
        else (
          some (0, σ10))))
def mo_reads (N : Nat) (σ : St) : Option (Int32 × St) :=
  bd1 (mo_reads_L2 N N 0 σ) fun σ3 =>
  ck (inb 1 59) (lt (put σ3 3 (ix 1) 6) fun σ4 =>
  ck (inb 2 59) (lt (put σ4 3 (ix 2) 6) fun σ5 =>
  lt (put σ5 0 10 0) fun σ6 =>
  bd1 (mo_token N  σ6) fun σ7 =>
  mo_reads_L46 N N σ7))
set_option maxRecDepth 20000 in
theorem w_mo_reads_L2 {l : Launch} {D : va_G} {cA : Nat → ClassId} {π : Nat → Nat} {Γ : Gx St} {vo : Int32} {σo : St} (C : Cm Γ cX7_reads RX7 cA 6 131 2 l D π shM (some .boolean) (some (.int vo), σo)) (N : Nat)  (yo : St) (kk2 : ∀ σe, σe = yo → Wx Γ σe 21 [(0, .ref (π 0))] []) : ∀ (n : Nat) (x1_2 : Int32) (σ2 : St), mo_reads_L2 N n x1_2 σ2 = some yo → Wx Γ σ2 2 [(0, .ref (π 0)), (1, .int x1_2)] [] := by
  have C0 := C.1
  intro n
  induction n with
  | zero => intro x1_2 σ2 h; cases h
  | succ n ih =>
    intro x1_2 σ2 h
    rw [mo_reads_L2] at h
    refine x_iload_n C0 dX7_reads_2 rfl ?_
    refine x_bipush C0 (v := 58) dX7_reads_3 (by decide) ?_
    refine x_icmp_ge C0 (tgt := 21) dX7_reads_5 (by decide) h (fun h => ?_) (fun h => ?_)
    · exact x_pick [0] rfl (kk2 _ (Option.some.inj h))
    · refine x_aload_n C0 dX7_reads_8 rfl ?_
      refine gt_X7_16 C dX7_reads_9 ?_
      refine x_iload_n C0 dX7_reads_12 rfl ?_
      refine x_iconst C0 (v := 0) dX7_reads_13 (by decide) ?_
      refine x_iast C (k := 3) (z := 59) rfl dX7_reads_14 h (fun σ1 h => ?_)
      refine x_iinc C0 (j := 1) (v := 1) (L' := fun x2 => [(1, .int x2), (0, .ref (π 0))]) dX7_reads_15 rfl (by decide) (by decide) (fun _ => rfl) h (fun x2 h => ?_)
      refine x_goto C0 (tgt := 2) dX7_reads_18 (by decide) ?_
      exact x_pick [1, 0] rfl (ih _ _ h)
set_option maxRecDepth 20000 in
theorem w_mo_reads_L46 {l : Launch} {D : va_G} {cA : Nat → ClassId} {π : Nat → Nat} {Γ : Gx St} {vo : Int32} {σo : St} (C : Cm Γ cX7_reads RX7 cA 6 131 2 l D π shM (some .boolean) (some (.int vo), σo)) (N : Nat)  : ∀ (n : Nat) (σ46 : St), mo_reads_L46 N n  σ46 = some (vo, σo) → Wx Γ σ46 46 [(0, .ref (π 0))] [] := by
  have C0 := C.1
  intro n
  induction n with
  | zero => intro  σ46 h; cases h
  | succ n ih =>
    intro  σ46 h
    rw [mo_reads_L46] at h
    refine x_aload_n C0 dX7_reads_46 rfl ?_
    refine gt_X7_67 C dX7_reads_47 ?_
    refine x_if_eq C0 (tgt := 93) dX7_reads_50 (by decide) h (fun h => ?_) (fun h => ?_)
    · refine x_iconst C0 (v := 1) dX7_reads_93 (by decide) ?_
      exact x_zret C (Or.inr rfl) dX7_reads_94 h
    · refine x_aload_n C0 dX7_reads_53 rfl ?_
      obtain ⟨v9, σ8, hc, h⟩ := bd2_some h
      refine x_callVi C (k_mo_readsItem N  hc) umX7_85 ui_X7_readsItem us_X7_readsItem un_X7 uc_X7_readsItem hv_X7_readsItem rfl (by decide) (fks := [1, 4, 0, 5, 6, 7, 8, 9, 10, 0, 0, 0, 0, 0, 11]) rfl rfl dX7_reads_54 (rest := []) rfl (Nat.le_of_ble_eq_true rfl) ?_
      refine x_if_ne C0 (tgt := 62) dX7_reads_57 (by decide) h (fun h => ?_) (fun h => ?_)
      · refine x_aload_n C0 dX7_reads_62 rfl ?_
        obtain ⟨σ10, hc, h⟩ := bd1_some h
        refine x_callVv C (k_mo_token N  hc) umX7_73 ui_X7_token us_X7_token un_X7 uc_X7_token hv_X7_token rfl (by decide) (fks := [1, 4, 0, 5, 6, 7, 8, 9, 10, 0, 0, 0, 0, 0, 11]) rfl rfl dX7_reads_63 (rest := []) rfl (Nat.le_of_ble_eq_true rfl) ?_
        refine x_aload_n C0 dX7_reads_66 rfl ?_
        refine gt_X7_67 C dX7_reads_67 ?_
        refine x_iconst C0 (v := 3) dX7_reads_70 (by decide) ?_
        refine x_icmp_eq C0 (tgt := 76) dX7_reads_71 (by decide) h (fun h => ?_) (fun h => ?_)
        · refine x_aload_n C0 dX7_reads_76 rfl ?_
          refine gt_X7_16 C dX7_reads_77 ?_
          refine x_iconst C0 (v := 3) dX7_reads_80 (by decide) ?_
          refine x_dup2_11 C0 rfl rfl dX7_reads_81 ?_
          refine x_iald C (k := 3) (z := 59) rfl dX7_reads_82 h (fun h => ?_)
          refine x_iconst C0 (v := 1) dX7_reads_83 (by decide) ?_
          refine x_iadd C0 dX7_reads_84 ?_
          refine x_iast C (k := 3) (z := 59) rfl dX7_reads_85 h (fun σ11 h => ?_)
          refine x_aload_n C0 dX7_reads_86 rfl ?_
          obtain ⟨σ12, hc, h⟩ := bd1_some h
          refine x_callVv C (k_mo_token N  hc) umX7_73 ui_X7_token us_X7_token un_X7 uc_X7_token hv_X7_token rfl (by decide) (fks := [1, 4, 0, 5, 6, 7, 8, 9, 10, 0, 0, 0, 0, 0, 11]) rfl rfl dX7_reads_87 (rest := []) rfl (Nat.le_of_ble_eq_true rfl) ?_
          refine x_goto C0 (tgt := 46) dX7_reads_90 (by decide) ?_
          exact x_pick [0] rfl (ih _ h)
        · refine x_iconst C0 (v := 0) dX7_reads_74 (by decide) ?_
          exact x_zret C (Or.inl rfl) dX7_reads_75 h
      · refine x_iconst C0 (v := 0) dX7_reads_60 (by decide) ?_
        exact x_zret C (Or.inl rfl) dX7_reads_61 h
set_option maxRecDepth 20000 in
theorem k_mo_reads {l : Launch} {D : va_G} {cA : Nat → ClassId} {π : Nat → Nat} (N : Nat)  {σ : St} {vo : Int32} {σo : St} (h : mo_reads N σ = some (vo, σo)) : Kt l D cA π shM yX7_reads cX7_reads 2 (some .boolean) 6 131 [.ref (π 0)] σ (some (.int vo)) σo := by
  refine Kt.of (by decide) (Nat.le_of_ble_eq_true rfl) (L := [(0, .ref (π 0))]) rfl (fun Γ C => ?_)
  have C0 := C.1
  unfold mo_reads at h
  refine x_iconst C0 (v := 0) dX7_reads_0 (by decide) ?_
  refine x_istore_n C0 (L' := [(1, .int 0), (0, .ref (π 0))]) dX7_reads_1 (by decide) rfl ?_
  obtain ⟨σ3, hL, h⟩ := bd1_some h
  refine x_pick [1, 0] rfl (w_mo_reads_L2 C N _ (fun b0 e => ?_) N 0 σ hL)
  cases e
  refine x_aload_n C0 dX7_reads_21 rfl ?_
  refine gt_X7_16 C dX7_reads_22 ?_
  refine x_iconst C0 (v := 1) dX7_reads_25 (by decide) ?_
  refine x_bipush C0 (v := 6) dX7_reads_26 (by decide) ?_
  refine x_iast C (k := 3) (z := 59) rfl dX7_reads_28 h (fun σ4 h => ?_)
  refine x_aload_n C0 dX7_reads_29 rfl ?_
  refine gt_X7_16 C dX7_reads_30 ?_
  refine x_iconst C0 (v := 2) dX7_reads_33 (by decide) ?_
  refine x_bipush C0 (v := 6) dX7_reads_34 (by decide) ?_
  refine x_iast C (k := 3) (z := 59) rfl dX7_reads_36 h (fun σ5 h => ?_)
  refine x_aload_n C0 dX7_reads_37 rfl ?_
  refine x_iconst C0 (v := 0) dX7_reads_38 (by decide) ?_
  refine pt_X7_50 C dX7_reads_39 h (fun σ6 h => ?_)
  refine x_aload_n C0 dX7_reads_42 rfl ?_
  obtain ⟨σ7, hc, h⟩ := bd1_some h
  refine x_callVv C (k_mo_token N  hc) umX7_73 ui_X7_token us_X7_token un_X7 uc_X7_token hv_X7_token rfl (by decide) (fks := [1, 4, 0, 5, 6, 7, 8, 9, 10, 0, 0, 0, 0, 0, 11]) rfl rfl dX7_reads_43 (rest := []) rfl (Nat.le_of_ble_eq_true rfl) ?_
  exact x_pick [0] rfl (w_mo_reads_L46 C N N  σ7 h)
def mo_tells_L2 (N : Nat) : Nat → Int32 → St → Option (St)
  | 0, _, _ => none
  | n + 1, x1_2, σ2 =>
    if 58 ≤ x1_2 then (
      some σ2)
    else (
      ck (inb x1_2 59) (
      ck (inb x1_2 58) (lt (put σ2 2 (ix x1_2) (σ2.1 3 (ix x1_2))) fun σ1 =>
      lt (x1_2 + 1) fun x2 =>
      (mo_tells_L2 N n) x2 σ1)))
def mo_tells_L28 (N : Nat) : Nat → Int32 → St → Option (St)
  | 0, _, _ => none
  | n + 1, x1_28, σ28 =>
    if 123 < x1_28 then (
      some σ28)
    else (
      ck (inb x1_28 1108) (lt (put σ28 4 (ix x1_28) 0) fun σ4 =>
      lt (x1_28 + 1) fun x5 =>
      (mo_tells_L28 N n) x5 σ4))
def mo_tells_L61 (N : Nat) : Nat → Int32 → St → Option (St)
  | 0, _, _ => none
  | n + 1, x1_61, σ61 =>
    ck (inb 0 1108) (
    if (σ61.1 4 (ix 0)) ≤ x1_61 then (
      some σ61)
    else (
      ck (inb (18 + x1_61) 58) (
      ck (inb (3 + x1_61) 1108) (lt (put σ61 4 (ix (3 + x1_61)) (σ61.1 2 (ix (18 + x1_61)))) fun σ8 =>
      ck (inb (18 + x1_61) 58) (
      ck (inb (12 + (σ8.1 2 (ix (18 + x1_61)))) 58) (
      ck (inb (43 + x1_61) 1108) (lt (put σ8 4 (ix (43 + x1_61)) (σ8.1 2 (ix (12 + (σ8.1 2 (ix (18 + x1_61))))))) fun σ9 =>
      lt (x1_61 + 1) fun x10 =>
      (mo_tells_L61 N n) x10 σ9)))))))
def mo_tells (N : Nat) (σ : St) : Option (St) :=
  bd1 (mo_tells_L2 N N 0 σ) fun σ3 =>
  bd1 (mo_tells_L28 N N 0 σ3) fun σ6 =>
  ck (inb 5 58) (
  ck (inb 0 1108) (lt (put σ6 4 (ix 0) (σ6.1 2 (ix 5))) fun σ7 =>
  bd1 (mo_tells_L61 N N 0 σ7) fun σ11 =>
  lt (put σ11 0 9 0) fun σ12 =>
  ck (inb 0 2) (lt (put σ12 6 (ix 0) (vp_nar .boolean 0)) fun σ13 =>
  ck (inb 1 2) (lt (put σ13 6 (ix 1) (vp_nar .boolean 0)) fun σ14 =>
  some σ14))))
set_option maxRecDepth 20000 in
theorem w_mo_tells_L2 {l : Launch} {D : va_G} {cA : Nat → ClassId} {π : Nat → Nat} {Γ : Gx St} {σo : St} (C : Cm Γ cX7_tells RX7 cA 0 0 2 l D π shM none (none, σo)) (N : Nat)  (yo : St) (kk2 : ∀ σe, σe = yo → Wx Γ σe 26 [(0, .ref (π 0))] []) : ∀ (n : Nat) (x1_2 : Int32) (σ2 : St), mo_tells_L2 N n x1_2 σ2 = some yo → Wx Γ σ2 2 [(0, .ref (π 0)), (1, .int x1_2)] [] := by
  have C0 := C.1
  intro n
  induction n with
  | zero => intro x1_2 σ2 h; cases h
  | succ n ih =>
    intro x1_2 σ2 h
    rw [mo_tells_L2] at h
    refine x_iload_n C0 dX7_tells_2 rfl ?_
    refine x_bipush C0 (v := 58) dX7_tells_3 (by decide) ?_
    refine x_icmp_ge C0 (tgt := 26) dX7_tells_5 (by decide) h (fun h => ?_) (fun h => ?_)
    · exact x_pick [0] rfl (kk2 _ (Option.some.inj h))
    · refine x_aload_n C0 dX7_tells_8 rfl ?_
      refine gt_X7_13 C dX7_tells_9 ?_
      refine x_iload_n C0 dX7_tells_12 rfl ?_
      refine x_aload_n C0 dX7_tells_13 rfl ?_
      refine gt_X7_16 C dX7_tells_14 ?_
      refine x_iload_n C0 dX7_tells_17 rfl ?_
      refine x_iald C (k := 3) (z := 59) rfl dX7_tells_18 h (fun h => ?_)
      refine x_iast C (k := 2) (z := 58) rfl dX7_tells_19 h (fun σ1 h => ?_)
      refine x_iinc C0 (j := 1) (v := 1) (L' := fun x2 => [(1, .int x2), (0, .ref (π 0))]) dX7_tells_20 rfl (by decide) (by decide) (fun _ => rfl) h (fun x2 h => ?_)
      refine x_goto C0 (tgt := 2) dX7_tells_23 (by decide) ?_
      exact x_pick [1, 0] rfl (ih _ _ h)
set_option maxRecDepth 20000 in
theorem w_mo_tells_L28 {l : Launch} {D : va_G} {cA : Nat → ClassId} {π : Nat → Nat} {Γ : Gx St} {σo : St} (C : Cm Γ cX7_tells RX7 cA 0 0 2 l D π shM none (none, σo)) (N : Nat)  (yo : St) (kk28 : ∀ σe, σe = yo → Wx Γ σe 47 [(0, .ref (π 0))] []) : ∀ (n : Nat) (x1_28 : Int32) (σ28 : St), mo_tells_L28 N n x1_28 σ28 = some yo → Wx Γ σ28 28 [(0, .ref (π 0)), (1, .int x1_28)] [] := by
  have C0 := C.1
  intro n
  induction n with
  | zero => intro x1_28 σ28 h; cases h
  | succ n ih =>
    intro x1_28 σ28 h
    rw [mo_tells_L28] at h
    refine x_iload_n C0 dX7_tells_28 rfl ?_
    refine x_bipush C0 (v := 123) dX7_tells_29 (by decide) ?_
    refine x_icmp_gt C0 (tgt := 47) dX7_tells_31 (by decide) h (fun h => ?_) (fun h => ?_)
    · exact x_pick [0] rfl (kk28 _ (Option.some.inj h))
    · refine x_aload_n C0 dX7_tells_34 rfl ?_
      refine gt_X7_19 C dX7_tells_35 ?_
      refine x_iload_n C0 dX7_tells_38 rfl ?_
      refine x_iconst C0 (v := 0) dX7_tells_39 (by decide) ?_
      refine x_iast C (k := 4) (z := 1108) rfl dX7_tells_40 h (fun σ4 h => ?_)
      refine x_iinc C0 (j := 1) (v := 1) (L' := fun x5 => [(1, .int x5), (0, .ref (π 0))]) dX7_tells_41 rfl (by decide) (by decide) (fun _ => rfl) h (fun x5 h => ?_)
      refine x_goto C0 (tgt := 28) dX7_tells_44 (by decide) ?_
      exact x_pick [1, 0] rfl (ih _ _ h)
set_option maxRecDepth 20000 in
theorem w_mo_tells_L61 {l : Launch} {D : va_G} {cA : Nat → ClassId} {π : Nat → Nat} {Γ : Gx St} {σo : St} (C : Cm Γ cX7_tells RX7 cA 0 0 2 l D π shM none (none, σo)) (N : Nat)  (yo : St) (kk61 : ∀ σe, σe = yo → Wx Γ σe 120 [(0, .ref (π 0))] []) : ∀ (n : Nat) (x1_61 : Int32) (σ61 : St), mo_tells_L61 N n x1_61 σ61 = some yo → Wx Γ σ61 61 [(0, .ref (π 0)), (1, .int x1_61)] [] := by
  have C0 := C.1
  intro n
  induction n with
  | zero => intro x1_61 σ61 h; cases h
  | succ n ih =>
    intro x1_61 σ61 h
    rw [mo_tells_L61] at h
    refine x_iload_n C0 dX7_tells_61 rfl ?_
    refine x_aload_n C0 dX7_tells_62 rfl ?_
    refine gt_X7_19 C dX7_tells_63 ?_
    refine x_iconst C0 (v := 0) dX7_tells_66 (by decide) ?_
    refine x_iald C (k := 4) (z := 1108) rfl dX7_tells_67 h (fun h => ?_)
    refine x_icmp_ge C0 (tgt := 120) dX7_tells_68 (by decide) h (fun h => ?_) (fun h => ?_)
    · exact x_pick [0] rfl (kk61 _ (Option.some.inj h))
    · refine x_aload_n C0 dX7_tells_71 rfl ?_
      refine gt_X7_19 C dX7_tells_72 ?_
      refine x_iconst C0 (v := 3) dX7_tells_75 (by decide) ?_
      refine x_iload_n C0 dX7_tells_76 rfl ?_
      refine x_iadd C0 dX7_tells_77 ?_
      refine x_aload_n C0 dX7_tells_78 rfl ?_
      refine gt_X7_13 C dX7_tells_79 ?_
      refine x_bipush C0 (v := 18) dX7_tells_82 (by decide) ?_
      refine x_iload_n C0 dX7_tells_84 rfl ?_
      refine x_iadd C0 dX7_tells_85 ?_
      refine x_iald C (k := 2) (z := 58) rfl dX7_tells_86 h (fun h => ?_)
      refine x_iast C (k := 4) (z := 1108) rfl dX7_tells_87 h (fun σ8 h => ?_)
      refine x_aload_n C0 dX7_tells_88 rfl ?_
      refine gt_X7_19 C dX7_tells_89 ?_
      refine x_bipush C0 (v := 43) dX7_tells_92 (by decide) ?_
      refine x_iload_n C0 dX7_tells_94 rfl ?_
      refine x_iadd C0 dX7_tells_95 ?_
      refine x_aload_n C0 dX7_tells_96 rfl ?_
      refine gt_X7_13 C dX7_tells_97 ?_
      refine x_bipush C0 (v := 12) dX7_tells_100 (by decide) ?_
      refine x_aload_n C0 dX7_tells_102 rfl ?_
      refine gt_X7_13 C dX7_tells_103 ?_
      refine x_bipush C0 (v := 18) dX7_tells_106 (by decide) ?_
      refine x_iload_n C0 dX7_tells_108 rfl ?_
      refine x_iadd C0 dX7_tells_109 ?_
      refine x_iald C (k := 2) (z := 58) rfl dX7_tells_110 h (fun h => ?_)
      refine x_iadd C0 dX7_tells_111 ?_
      refine x_iald C (k := 2) (z := 58) rfl dX7_tells_112 h (fun h => ?_)
      refine x_iast C (k := 4) (z := 1108) rfl dX7_tells_113 h (fun σ9 h => ?_)
      refine x_iinc C0 (j := 1) (v := 1) (L' := fun x10 => [(1, .int x10), (0, .ref (π 0))]) dX7_tells_114 rfl (by decide) (by decide) (fun _ => rfl) h (fun x10 h => ?_)
      refine x_goto C0 (tgt := 61) dX7_tells_117 (by decide) ?_
      exact x_pick [1, 0] rfl (ih _ _ h)
set_option maxRecDepth 20000 in
theorem k_mo_tells {l : Launch} {D : va_G} {cA : Nat → ClassId} {π : Nat → Nat} (N : Nat)  {σ : St} {σo : St} (h : mo_tells N σ = some σo) : Kt l D cA π shM yX7_tells cX7_tells 2 none 0 0 [.ref (π 0)] σ none σo := by
  refine Kt.of (by decide) (Nat.le_of_ble_eq_true rfl) (L := [(0, .ref (π 0))]) rfl (fun Γ C => ?_)
  have C0 := C.1
  unfold mo_tells at h
  refine x_iconst C0 (v := 0) dX7_tells_0 (by decide) ?_
  refine x_istore_n C0 (L' := [(1, .int 0), (0, .ref (π 0))]) dX7_tells_1 (by decide) rfl ?_
  obtain ⟨σ3, hL, h⟩ := bd1_some h
  refine x_pick [1, 0] rfl (w_mo_tells_L2 C N _ (fun b0 e => ?_) N 0 σ hL)
  cases e
  refine x_iconst C0 (v := 0) dX7_tells_26 (by decide) ?_
  refine x_istore_n C0 (L' := [(1, .int 0), (0, .ref (π 0))]) dX7_tells_27 (by decide) rfl ?_
  obtain ⟨σ6, hL, h⟩ := bd1_some h
  refine x_pick [1, 0] rfl (w_mo_tells_L28 C N _ (fun b0 e => ?_) N 0 σ3 hL)
  cases e
  refine x_aload_n C0 dX7_tells_47 rfl ?_
  refine gt_X7_19 C dX7_tells_48 ?_
  refine x_iconst C0 (v := 0) dX7_tells_51 (by decide) ?_
  refine x_aload_n C0 dX7_tells_52 rfl ?_
  refine gt_X7_13 C dX7_tells_53 ?_
  refine x_iconst C0 (v := 5) dX7_tells_56 (by decide) ?_
  refine x_iald C (k := 2) (z := 58) rfl dX7_tells_57 h (fun h => ?_)
  refine x_iast C (k := 4) (z := 1108) rfl dX7_tells_58 h (fun σ7 h => ?_)
  refine x_iconst C0 (v := 0) dX7_tells_59 (by decide) ?_
  refine x_istore_n C0 (L' := [(1, .int 0), (0, .ref (π 0))]) dX7_tells_60 (by decide) rfl ?_
  obtain ⟨σ11, hL, h⟩ := bd1_some h
  refine x_pick [1, 0] rfl (w_mo_tells_L61 C N _ (fun b0 e => ?_) N 0 σ7 hL)
  cases e
  refine x_aload_n C0 dX7_tells_120 rfl ?_
  refine x_iconst C0 (v := 0) dX7_tells_121 (by decide) ?_
  refine pt_X7_88 C dX7_tells_122 h (fun σ12 h => ?_)
  refine x_aload_n C0 dX7_tells_125 rfl ?_
  refine gt_X7_25 C dX7_tells_126 ?_
  refine x_iconst C0 (v := 0) dX7_tells_129 (by decide) ?_
  refine x_iconst C0 (v := 0) dX7_tells_130 (by decide) ?_
  refine x_zast C (k := 6) (z := 2) rfl dX7_tells_131 h (fun σ13 h => ?_)
  refine x_aload_n C0 dX7_tells_132 rfl ?_
  refine gt_X7_25 C dX7_tells_133 ?_
  refine x_iconst C0 (v := 1) dX7_tells_136 (by decide) ?_
  refine x_iconst C0 (v := 0) dX7_tells_137 (by decide) ?_
  refine x_zast C (k := 6) (z := 2) rfl dX7_tells_138 h (fun σ14 h => ?_)
  exact x_vret C dX7_tells_139 h
def mo_type (N : Nat) (a1 : Int32) (σ : St) : Option (Int32 × St) :=
  bd2 (mo_in N a1 0 255 σ) fun v2 σ1 =>
  if v2 = 0 then (
    some ((-1), σ1))
  else (
    if (σ1.1 0 2) = 150 then (
      some ((-3), σ1))
    else (
      ck (inb (σ1.1 0 2) 200) (lt (put σ1 1 (ix (σ1.1 0 2)) a1) fun σ3 =>
      lt (put σ3 0 2 ((σ3.1 0 2) + 1)) fun σ4 =>
      some ((σ4.1 0 2), σ4))))
set_option maxRecDepth 20000 in
theorem k_mo_type {l : Launch} {D : va_G} {cA : Nat → ClassId} {π : Nat → Nat} (N : Nat) (a1 : Int32)  {σ : St} {vo : Int32} {σo : St} (h : mo_type N a1 σ = some (vo, σo)) : Kt l D cA π shM yX7_type cX7_type 2 (some .int) 1 22 [.ref (π 0), .int a1] σ (some (.int vo)) σo := by
  refine Kt.of (by decide) (Nat.le_of_ble_eq_true rfl) (L := [(0, .ref (π 0)), (1, .int a1)]) rfl (fun Γ C => ?_)
  have C0 := C.1
  unfold mo_type at h
  refine x_iload_n C0 dX7_type_0 rfl ?_
  refine x_iconst C0 (v := 0) dX7_type_1 (by decide) ?_
  refine x_sipush C0 (v := 255) dX7_type_2 (by decide) ?_
  obtain ⟨v2, σ1, hc, h⟩ := bd2_some h
  refine x_callSi C (k_mo_in N a1 0 255  hc) umX7_42 ut_X7_in un_X7 uc_X7_in hs_X7_in rfl (by decide) dX7_type_5 (rest := []) rfl (Nat.le_of_ble_eq_true rfl) ?_
  refine x_if_ne C0 (tgt := 13) dX7_type_8 (by decide) h (fun h => ?_) (fun h => ?_)
  · refine x_aload_n C0 dX7_type_13 rfl ?_
    refine gt_X7_46 C dX7_type_14 ?_
    refine x_sipush C0 (v := 150) dX7_type_17 (by decide) ?_
    refine x_icmp_ne C0 (tgt := 26) dX7_type_20 (by decide) h (fun h => ?_) (fun h => ?_)
    · refine x_aload_n C0 dX7_type_26 rfl ?_
      refine gt_X7_7 C dX7_type_27 ?_
      refine x_aload_n C0 dX7_type_30 rfl ?_
      refine gt_X7_46 C dX7_type_31 ?_
      refine x_iload_n C0 dX7_type_34 rfl ?_
      refine x_iast C (k := 1) (z := 200) rfl dX7_type_35 h (fun σ3 h => ?_)
      refine x_aload_n C0 dX7_type_36 rfl ?_
      refine x_dup C0 rfl dX7_type_37 ?_
      refine gt_X7_46 C dX7_type_38 ?_
      refine x_iconst C0 (v := 1) dX7_type_41 (by decide) ?_
      refine x_iadd C0 dX7_type_42 ?_
      refine pt_X7_46 C dX7_type_43 h (fun σ4 h => ?_)
      refine x_aload_n C0 dX7_type_46 rfl ?_
      refine gt_X7_46 C dX7_type_47 ?_
      exact x_iret C dX7_type_50 h
    · refine x_bipush C0 (v := (-3)) dX7_type_23 (by decide) ?_
      exact x_iret C dX7_type_25 h
  · refine x_iconst C0 (v := (-1)) dX7_type_11 (by decide) ?_
    exact x_iret C dX7_type_12 h
def mo_clear (N : Nat) (σ : St) : Option (Int32 × St) :=
  lt (σ.1 0 2) fun x1 =>
  lt (put σ 0 2 0) fun σ2 =>
  some (x1, σ2)
set_option maxRecDepth 20000 in
theorem k_mo_clear {l : Launch} {D : va_G} {cA : Nat → ClassId} {π : Nat → Nat} (N : Nat)  {σ : St} {vo : Int32} {σo : St} (h : mo_clear N σ = some (vo, σo)) : Kt l D cA π shM yX7_clear cX7_clear 2 (some .int) 0 0 [.ref (π 0)] σ (some (.int vo)) σo := by
  refine Kt.of (by decide) (Nat.le_of_ble_eq_true rfl) (L := [(0, .ref (π 0))]) rfl (fun Γ C => ?_)
  have C0 := C.1
  unfold mo_clear at h
  refine x_aload_n C0 dX7_clear_0 rfl ?_
  refine gt_X7_46 C dX7_clear_1 ?_
  refine x_nm h (fun x1 h => ?_)
  refine x_istore_n C0 (L' := [(1, .int x1), (0, .ref (π 0))]) dX7_clear_4 (by decide) rfl ?_
  refine x_aload_n C0 dX7_clear_5 rfl ?_
  refine x_iconst C0 (v := 0) dX7_clear_6 (by decide) ?_
  refine pt_X7_46 C dX7_clear_7 h (fun σ2 h => ?_)
  refine x_iload_n C0 dX7_clear_10 rfl ?_
  exact x_iret C dX7_clear_11 h
def mo_gorge (N : Nat) (σ : St) : Option (Int32 × St) :=
  bd2 (mo_reads N  σ) fun v2 σ1 =>
  if v2 = 0 then (
    some (((-10) - (σ1.1 0 12)), σ1))
  else (
    bd1 (mo_tells N  σ1) fun σ3 =>
    lt (put σ3 0 2 0) fun σ4 =>
    ck (inb 3 58) (
    some ((σ4.1 2 (ix 3)), σ4)))
set_option maxRecDepth 20000 in
theorem k_mo_gorge {l : Launch} {D : va_G} {cA : Nat → ClassId} {π : Nat → Nat} (N : Nat)  {σ : St} {vo : Int32} {σo : St} (h : mo_gorge N σ = some (vo, σo)) : Kt l D cA π shM yX7_gorge cX7_gorge 1 (some .int) 7 152 [.ref (π 0)] σ (some (.int vo)) σo := by
  refine Kt.of (by decide) (Nat.le_of_ble_eq_true rfl) (L := [(0, .ref (π 0))]) rfl (fun Γ C => ?_)
  have C0 := C.1
  unfold mo_gorge at h
  refine x_aload_n C0 dX7_gorge_0 rfl ?_
  obtain ⟨v2, σ1, hc, h⟩ := bd2_some h
  refine x_callVi C (k_mo_reads N  hc) umX7_35 ui_X7_reads us_X7_reads un_X7 uc_X7_reads hv_X7_reads rfl (by decide) (fks := [1, 4, 0, 5, 6, 7, 8, 9, 10, 0, 0, 0, 0, 0, 11]) rfl rfl dX7_gorge_1 (rest := []) rfl (Nat.le_of_ble_eq_true rfl) ?_
  refine x_if_ne C0 (tgt := 15) dX7_gorge_4 (by decide) h (fun h => ?_) (fun h => ?_)
  · refine x_aload_n C0 dX7_gorge_15 rfl ?_
    obtain ⟨σ3, hc, h⟩ := bd1_some h
    refine x_callVv C (k_mo_tells N  hc) umX7_39 ui_X7_tells us_X7_tells un_X7 uc_X7_tells hv_X7_tells rfl (by decide) (fks := [1, 4, 0, 5, 6, 7, 8, 9, 10, 0, 0, 0, 0, 0, 11]) rfl rfl dX7_gorge_16 (rest := []) rfl (Nat.le_of_ble_eq_true rfl) ?_
    refine x_aload_n C0 dX7_gorge_19 rfl ?_
    refine x_iconst C0 (v := 0) dX7_gorge_20 (by decide) ?_
    refine pt_X7_46 C dX7_gorge_21 h (fun σ4 h => ?_)
    refine x_aload_n C0 dX7_gorge_24 rfl ?_
    refine gt_X7_13 C dX7_gorge_25 ?_
    refine x_iconst C0 (v := 3) dX7_gorge_28 (by decide) ?_
    refine x_iald C (k := 2) (z := 58) rfl dX7_gorge_29 h (fun h => ?_)
    exact x_iret C dX7_gorge_30 h
  · refine x_bipush C0 (v := (-10)) dX7_gorge_7 (by decide) ?_
    refine x_aload_n C0 dX7_gorge_9 rfl ?_
    refine gt_X7_57 C dX7_gorge_10 ?_
    refine x_isub C0 dX7_gorge_13 ?_
    exact x_iret C dX7_gorge_14 h
def mo_isPerson (N : Nat) (a1 : Int32) (σ : St) : Option (Int32 × St) :=
  ck (inb 0 58) (
  bd2 (mo_in N a1 0 ((σ.1 2 (ix 0)) - 1) σ) fun v2 σ1 =>
  ck (bz v2) (some (v2, σ1)))
set_option maxRecDepth 20000 in
theorem k_mo_isPerson {l : Launch} {D : va_G} {cA : Nat → ClassId} {π : Nat → Nat} (N : Nat) (a1 : Int32)  {σ : St} {vo : Int32} {σo : St} (h : mo_isPerson N a1 σ = some (vo, σo)) : Kt l D cA π shM yX7_isPerson cX7_isPerson 2 (some .boolean) 1 22 [.ref (π 0), .int a1] σ (some (.int vo)) σo := by
  refine Kt.of (by decide) (Nat.le_of_ble_eq_true rfl) (L := [(0, .ref (π 0)), (1, .int a1)]) rfl (fun Γ C => ?_)
  have C0 := C.1
  unfold mo_isPerson at h
  refine x_iload_n C0 dX7_isPerson_0 rfl ?_
  refine x_iconst C0 (v := 0) dX7_isPerson_1 (by decide) ?_
  refine x_aload_n C0 dX7_isPerson_2 rfl ?_
  refine gt_X7_13 C dX7_isPerson_3 ?_
  refine x_iconst C0 (v := 0) dX7_isPerson_6 (by decide) ?_
  refine x_iald C (k := 2) (z := 58) rfl dX7_isPerson_7 h (fun h => ?_)
  refine x_iconst C0 (v := 1) dX7_isPerson_8 (by decide) ?_
  refine x_isub C0 dX7_isPerson_9 ?_
  obtain ⟨v2, σ1, hc, h⟩ := bd2_some h
  refine x_callSi C (k_mo_in N a1 0 ((σ.1 2 (ix 0)) - 1)  hc) umX7_42 ut_X7_in un_X7 uc_X7_in hs_X7_in rfl (by decide) dX7_isPerson_10 (rest := []) rfl (Nat.le_of_ble_eq_true rfl) ?_
  refine x_chk h (fun q h => ?_)
  exact x_zret C (bz_or q) dX7_isPerson_13 h
def mo_share_L4 (N : Nat) (c1_4 : Int32) : Nat → Int32 → Int32 → St → Option (Int32 × St)
  | 0, _, _, _ => none
  | n + 1, x2_4, x3_4, σ4 =>
    ck (inb 0 1108) (
    if (σ4.1 4 (ix 0)) ≤ x3_4 then (
      some (x2_4, σ4))
    else (
      ck (inb (3 + x3_4) 1108) (
      if (σ4.1 4 (ix (3 + x3_4))) = c1_4 then (
        lt (x2_4 + 1) fun x3 =>
        lt (x3_4 + 1) fun x4 =>
        (mo_share_L4 N c1_4 n) x3 x4 σ4)
      else (
        lt (x2_4 + 0) fun x1 =>
        lt (x3_4 + 1) fun x2 =>
        (mo_share_L4 N c1_4 n) x1 x2 σ4))))
def mo_share (N : Nat) (a1 : Int32) (σ : St) : Option (Int32 × St) :=
  bd2 (mo_share_L4 N a1 N 0 0 σ) fun x5 σ6 =>
  some (x5, σ6)
set_option maxRecDepth 20000 in
theorem w_mo_share_L4 {l : Launch} {D : va_G} {cA : Nat → ClassId} {π : Nat → Nat} {Γ : Gx St} {vo : Int32} {σo : St} (C : Cm Γ cX7_share RX7 cA 0 0 4 l D π shM (some .int) (some (.int vo), σo)) (N : Nat) (c1_4 : Int32)  (yo : Int32 × St) (kk4 : ∀ e2_4 σe, (e2_4, σe) = yo → Wx Γ σe 40 [(2, .int e2_4)] []) : ∀ (n : Nat) (x2_4 : Int32) (x3_4 : Int32) (σ4 : St), mo_share_L4 N c1_4 n x2_4 x3_4 σ4 = some yo → Wx Γ σ4 4 [(0, .ref (π 0)), (1, .int c1_4), (2, .int x2_4), (3, .int x3_4)] [] := by
  have C0 := C.1
  intro n
  induction n with
  | zero => intro x2_4 x3_4 σ4 h; cases h
  | succ n ih =>
    intro x2_4 x3_4 σ4 h
    rw [mo_share_L4] at h
    refine x_iload_n C0 dX7_share_4 rfl ?_
    refine x_aload_n C0 dX7_share_5 rfl ?_
    refine gt_X7_19 C dX7_share_6 ?_
    refine x_iconst C0 (v := 0) dX7_share_9 (by decide) ?_
    refine x_iald C (k := 4) (z := 1108) rfl dX7_share_10 h (fun h => ?_)
    refine x_icmp_ge C0 (tgt := 40) dX7_share_11 (by decide) h (fun h => ?_) (fun h => ?_)
    · exact x_pick [2] rfl (kk4 _ _ (Option.some.inj h))
    · refine x_iload_n C0 dX7_share_14 rfl ?_
      refine x_aload_n C0 dX7_share_15 rfl ?_
      refine gt_X7_19 C dX7_share_16 ?_
      refine x_iconst C0 (v := 3) dX7_share_19 (by decide) ?_
      refine x_iload_n C0 dX7_share_20 rfl ?_
      refine x_iadd C0 dX7_share_21 ?_
      refine x_iald C (k := 4) (z := 1108) rfl dX7_share_22 h (fun h => ?_)
      refine x_iload_n C0 dX7_share_23 rfl ?_
      refine x_icmp_ne C0 (tgt := 31) dX7_share_24 (by decide) h (fun h => ?_) (fun h => ?_)
      · refine x_iconst C0 (v := 0) dX7_share_31 (by decide) ?_
        refine x_iadd C0 dX7_share_32 ?_
        refine x_nm h (fun x1 h => ?_)
        refine x_istore_n C0 (L' := [(2, .int x1), (0, .ref (π 0)), (1, .int c1_4), (3, .int x3_4)]) dX7_share_33 (by decide) rfl ?_
        refine x_iinc C0 (j := 3) (v := 1) (L' := fun x2 => [(3, .int x2), (2, .int x1), (0, .ref (π 0)), (1, .int c1_4)]) dX7_share_34 rfl (by decide) (by decide) (fun _ => rfl) h (fun x2 h => ?_)
        refine x_goto C0 (tgt := 4) dX7_share_37 (by decide) ?_
        exact x_pick [2, 3, 1, 0] rfl (ih _ _ _ h)
      · refine x_iconst C0 (v := 1) dX7_share_27 (by decide) ?_
        refine x_goto C0 (tgt := 32) dX7_share_28 (by decide) ?_
        refine x_iadd C0 dX7_share_32 ?_
        refine x_nm h (fun x3 h => ?_)
        refine x_istore_n C0 (L' := [(2, .int x3), (0, .ref (π 0)), (1, .int c1_4), (3, .int x3_4)]) dX7_share_33 (by decide) rfl ?_
        refine x_iinc C0 (j := 3) (v := 1) (L' := fun x4 => [(3, .int x4), (2, .int x3), (0, .ref (π 0)), (1, .int c1_4)]) dX7_share_34 rfl (by decide) (by decide) (fun _ => rfl) h (fun x4 h => ?_)
        refine x_goto C0 (tgt := 4) dX7_share_37 (by decide) ?_
        exact x_pick [2, 3, 1, 0] rfl (ih _ _ _ h)
set_option maxRecDepth 20000 in
theorem k_mo_share {l : Launch} {D : va_G} {cA : Nat → ClassId} {π : Nat → Nat} (N : Nat) (a1 : Int32)  {σ : St} {vo : Int32} {σo : St} (h : mo_share N a1 σ = some (vo, σo)) : Kt l D cA π shM yX7_share cX7_share 4 (some .int) 0 0 [.ref (π 0), .int a1] σ (some (.int vo)) σo := by
  refine Kt.of (by decide) (Nat.le_of_ble_eq_true rfl) (L := [(0, .ref (π 0)), (1, .int a1)]) rfl (fun Γ C => ?_)
  have C0 := C.1
  unfold mo_share at h
  refine x_iconst C0 (v := 0) dX7_share_0 (by decide) ?_
  refine x_istore_n C0 (L' := [(2, .int 0), (0, .ref (π 0)), (1, .int a1)]) dX7_share_1 (by decide) rfl ?_
  refine x_iconst C0 (v := 0) dX7_share_2 (by decide) ?_
  refine x_istore_n C0 (L' := [(3, .int 0), (2, .int 0), (0, .ref (π 0)), (1, .int a1)]) dX7_share_3 (by decide) rfl ?_
  obtain ⟨x5, σ6, hL, h⟩ := bd2_some h
  refine x_pick [2, 3, 1, 0] rfl (w_mo_share_L4 C N a1 _ (fun b0 b1 e => ?_) N 0 0 σ hL)
  cases e
  refine x_iload_n C0 dX7_share_40 rfl ?_
  exact x_iret C dX7_share_41 h
def mo_person (N : Nat) (a1 : Int32) (a2 : Int32) (σ : St) : Option (Int32 × St) :=
  bd2 (mo_isPerson N a1 σ) fun v2 σ1 =>
  if v2 = 0 then (
    some ((-1), σ1))
  else (
    bd2 (mo_in N a2 0 2 σ1) fun v4 σ3 =>
    if v4 = 0 then (
      some ((-1), σ3))
    else (
      if a2 = 0 then (
        ck (inb (6 + a1) 58) (
        some ((σ3.1 2 (ix (6 + a1))), σ3)))
      else (
        if a2 = 1 then (
          ck (inb (12 + a1) 58) (
          some ((σ3.1 2 (ix (12 + a1))), σ3)))
        else (
          bd2 (mo_share N a1 σ3) fun v6 σ5 =>
          some (v6, σ5)))))
set_option maxRecDepth 20000 in
theorem k_mo_person {l : Launch} {D : va_G} {cA : Nat → ClassId} {π : Nat → Nat} (N : Nat) (a1 : Int32) (a2 : Int32)  {σ : St} {vo : Int32} {σo : St} (h : mo_person N a1 a2 σ = some (vo, σo)) : Kt l D cA π shM yX7_person cX7_person 3 (some .int) 2 43 [.ref (π 0), .int a1, .int a2] σ (some (.int vo)) σo := by
  refine Kt.of (by decide) (Nat.le_of_ble_eq_true rfl) (L := [(0, .ref (π 0)), (1, .int a1), (2, .int a2)]) rfl (fun Γ C => ?_)
  have C0 := C.1
  unfold mo_person at h
  refine x_aload_n C0 dX7_person_0 rfl ?_
  refine x_iload_n C0 dX7_person_1 rfl ?_
  obtain ⟨v2, σ1, hc, h⟩ := bd2_some h
  refine x_callVi C (k_mo_isPerson N a1  hc) umX7_91 ui_X7_isPerson us_X7_isPerson un_X7 uc_X7_isPerson hv_X7_isPerson rfl (by decide) (fks := [1, 4, 0, 5, 6, 7, 8, 9, 10, 0, 0, 0, 0, 0, 11]) rfl rfl dX7_person_2 (rest := []) rfl (Nat.le_of_ble_eq_true rfl) ?_
  refine x_if_eq C0 (tgt := 17) dX7_person_5 (by decide) h (fun h => ?_) (fun h => ?_)
  · refine x_iconst C0 (v := (-1)) dX7_person_17 (by decide) ?_
    exact x_iret C dX7_person_18 h
  · refine x_iload_n C0 dX7_person_8 rfl ?_
    refine x_iconst C0 (v := 0) dX7_person_9 (by decide) ?_
    refine x_iconst C0 (v := 2) dX7_person_10 (by decide) ?_
    obtain ⟨v4, σ3, hc, h⟩ := bd2_some h
    refine x_callSi C (k_mo_in N a2 0 2  hc) umX7_42 ut_X7_in un_X7 uc_X7_in hs_X7_in rfl (by decide) dX7_person_11 (rest := []) rfl (Nat.le_of_ble_eq_true rfl) ?_
    refine x_if_ne C0 (tgt := 19) dX7_person_14 (by decide) h (fun h => ?_) (fun h => ?_)
    · refine x_iload_n C0 dX7_person_19 rfl ?_
      refine x_if_ne C0 (tgt := 35) dX7_person_20 (by decide) h (fun h => ?_) (fun h => ?_)
      · refine x_iload_n C0 dX7_person_35 rfl ?_
        refine x_iconst C0 (v := 1) dX7_person_36 (by decide) ?_
        refine x_icmp_ne C0 (tgt := 52) dX7_person_37 (by decide) h (fun h => ?_) (fun h => ?_)
        · refine x_aload_n C0 dX7_person_52 rfl ?_
          refine x_iload_n C0 dX7_person_53 rfl ?_
          obtain ⟨v6, σ5, hc, h⟩ := bd2_some h
          refine x_callVi C (k_mo_share N a1  hc) umX7_94 ui_X7_share us_X7_share un_X7 uc_X7_share hv_X7_share rfl (by decide) (fks := [1, 4, 0, 5, 6, 7, 8, 9, 10, 0, 0, 0, 0, 0, 11]) rfl rfl dX7_person_54 (rest := []) rfl (Nat.le_of_ble_eq_true rfl) ?_
          exact x_iret C dX7_person_57 h
        · refine x_aload_n C0 dX7_person_40 rfl ?_
          refine gt_X7_13 C dX7_person_41 ?_
          refine x_bipush C0 (v := 12) dX7_person_44 (by decide) ?_
          refine x_iload_n C0 dX7_person_46 rfl ?_
          refine x_iadd C0 dX7_person_47 ?_
          refine x_iald C (k := 2) (z := 58) rfl dX7_person_48 h (fun h => ?_)
          refine x_goto C0 (tgt := 57) dX7_person_49 (by decide) ?_
          exact x_iret C dX7_person_57 h
      · refine x_aload_n C0 dX7_person_23 rfl ?_
        refine gt_X7_13 C dX7_person_24 ?_
        refine x_bipush C0 (v := 6) dX7_person_27 (by decide) ?_
        refine x_iload_n C0 dX7_person_29 rfl ?_
        refine x_iadd C0 dX7_person_30 ?_
        refine x_iald C (k := 2) (z := 58) rfl dX7_person_31 h (fun h => ?_)
        refine x_goto C0 (tgt := 57) dX7_person_32 (by decide) ?_
        exact x_iret C dX7_person_57 h
    · refine x_iconst C0 (v := (-1)) dX7_person_17 (by decide) ?_
      exact x_iret C dX7_person_18 h
def mo_bears (N : Nat) (a1 : Int32) (σ : St) : Option (Int32 × St) :=
  ck (inb (43 + a1) 1108) (
  ck (inb (83 + a1) 1108) (
  lt ((σ.1 4 (ix (43 + a1))) - ((σ.1 4 (ix (83 + a1))) / 4)) fun x1 =>
  if 0 ≤ x1 then (
    some (x1, σ))
  else (
    some (0, σ))))
set_option maxRecDepth 20000 in
theorem k_mo_bears {l : Launch} {D : va_G} {cA : Nat → ClassId} {π : Nat → Nat} (N : Nat) (a1 : Int32)  {σ : St} {vo : Int32} {σo : St} (h : mo_bears N a1 σ = some (vo, σo)) : Kt l D cA π shM yX7_bears cX7_bears 3 (some .int) 0 0 [.ref (π 0), .int a1] σ (some (.int vo)) σo := by
  refine Kt.of (by decide) (Nat.le_of_ble_eq_true rfl) (L := [(0, .ref (π 0)), (1, .int a1)]) rfl (fun Γ C => ?_)
  have C0 := C.1
  unfold mo_bears at h
  refine x_aload_n C0 dX7_bears_0 rfl ?_
  refine gt_X7_19 C dX7_bears_1 ?_
  refine x_bipush C0 (v := 43) dX7_bears_4 (by decide) ?_
  refine x_iload_n C0 dX7_bears_6 rfl ?_
  refine x_iadd C0 dX7_bears_7 ?_
  refine x_iald C (k := 4) (z := 1108) rfl dX7_bears_8 h (fun h => ?_)
  refine x_aload_n C0 dX7_bears_9 rfl ?_
  refine gt_X7_19 C dX7_bears_10 ?_
  refine x_bipush C0 (v := 83) dX7_bears_13 (by decide) ?_
  refine x_iload_n C0 dX7_bears_15 rfl ?_
  refine x_iadd C0 dX7_bears_16 ?_
  refine x_iald C (k := 4) (z := 1108) rfl dX7_bears_17 h (fun h => ?_)
  refine x_iconst C0 (v := 4) dX7_bears_18 (by decide) ?_
  refine x_idiv C0 (by decide) dX7_bears_19 ?_
  refine x_isub C0 dX7_bears_20 ?_
  refine x_nm h (fun x1 h => ?_)
  refine x_istore_n C0 (L' := [(2, .int x1), (0, .ref (π 0)), (1, .int a1)]) dX7_bears_21 (by decide) rfl ?_
  refine x_iload_n C0 dX7_bears_22 rfl ?_
  refine x_if_ge C0 (tgt := 30) dX7_bears_23 (by decide) h (fun h => ?_) (fun h => ?_)
  · refine x_iload_n C0 dX7_bears_30 rfl ?_
    exact x_iret C dX7_bears_31 h
  · refine x_iconst C0 (v := 0) dX7_bears_26 (by decide) ?_
    refine x_goto C0 (tgt := 31) dX7_bears_27 (by decide) ?_
    exact x_iret C dX7_bears_31 h
def mo_isRow (N : Nat) (a1 : Int32) (σ : St) : Option (Int32 × St) :=
  ck (inb 0 1108) (
  bd2 (mo_in N a1 0 ((σ.1 4 (ix 0)) - 1) σ) fun v2 σ1 =>
  ck (bz v2) (some (v2, σ1)))
set_option maxRecDepth 20000 in
theorem k_mo_isRow {l : Launch} {D : va_G} {cA : Nat → ClassId} {π : Nat → Nat} (N : Nat) (a1 : Int32)  {σ : St} {vo : Int32} {σo : St} (h : mo_isRow N a1 σ = some (vo, σo)) : Kt l D cA π shM yX7_isRow cX7_isRow 2 (some .boolean) 1 22 [.ref (π 0), .int a1] σ (some (.int vo)) σo := by
  refine Kt.of (by decide) (Nat.le_of_ble_eq_true rfl) (L := [(0, .ref (π 0)), (1, .int a1)]) rfl (fun Γ C => ?_)
  have C0 := C.1
  unfold mo_isRow at h
  refine x_iload_n C0 dX7_isRow_0 rfl ?_
  refine x_iconst C0 (v := 0) dX7_isRow_1 (by decide) ?_
  refine x_aload_n C0 dX7_isRow_2 rfl ?_
  refine gt_X7_19 C dX7_isRow_3 ?_
  refine x_iconst C0 (v := 0) dX7_isRow_6 (by decide) ?_
  refine x_iald C (k := 4) (z := 1108) rfl dX7_isRow_7 h (fun h => ?_)
  refine x_iconst C0 (v := 1) dX7_isRow_8 (by decide) ?_
  refine x_isub C0 dX7_isRow_9 ?_
  obtain ⟨v2, σ1, hc, h⟩ := bd2_some h
  refine x_callSi C (k_mo_in N a1 0 ((σ.1 4 (ix 0)) - 1)  hc) umX7_42 ut_X7_in un_X7 uc_X7_in hs_X7_in rfl (by decide) dX7_isRow_10 (rest := []) rfl (Nat.le_of_ble_eq_true rfl) ?_
  refine x_chk h (fun q h => ?_)
  exact x_zret C (bz_or q) dX7_isRow_13 h
def mo_row (N : Nat) (a1 : Int32) (a2 : Int32) (σ : St) : Option (Int32 × St) :=
  bd2 (mo_isRow N a1 σ) fun v2 σ1 =>
  if v2 = 0 then (
    some ((-1), σ1))
  else (
    bd2 (mo_in N a2 0 3 σ1) fun v4 σ3 =>
    if v4 = 0 then (
      some ((-1), σ3))
    else (
      if a2 = 3 then (
        bd2 (mo_bears N a1 σ3) fun v6 σ5 =>
        some (v6, σ5))
      else (
        ck (inb ((3 + (40 * a2)) + a1) 1108) (
        some ((σ3.1 4 (ix ((3 + (40 * a2)) + a1))), σ3)))))
set_option maxRecDepth 20000 in
theorem k_mo_row {l : Launch} {D : va_G} {cA : Nat → ClassId} {π : Nat → Nat} (N : Nat) (a1 : Int32) (a2 : Int32)  {σ : St} {vo : Int32} {σo : St} (h : mo_row N a1 a2 σ = some (vo, σo)) : Kt l D cA π shM yX7_row cX7_row 3 (some .int) 2 43 [.ref (π 0), .int a1, .int a2] σ (some (.int vo)) σo := by
  refine Kt.of (by decide) (Nat.le_of_ble_eq_true rfl) (L := [(0, .ref (π 0)), (1, .int a1), (2, .int a2)]) rfl (fun Γ C => ?_)
  have C0 := C.1
  unfold mo_row at h
  refine x_aload_n C0 dX7_row_0 rfl ?_
  refine x_iload_n C0 dX7_row_1 rfl ?_
  obtain ⟨v2, σ1, hc, h⟩ := bd2_some h
  refine x_callVi C (k_mo_isRow N a1  hc) umX7_97 ui_X7_isRow us_X7_isRow un_X7 uc_X7_isRow hv_X7_isRow rfl (by decide) (fks := [1, 4, 0, 5, 6, 7, 8, 9, 10, 0, 0, 0, 0, 0, 11]) rfl rfl dX7_row_2 (rest := []) rfl (Nat.le_of_ble_eq_true rfl) ?_
  refine x_if_eq C0 (tgt := 17) dX7_row_5 (by decide) h (fun h => ?_) (fun h => ?_)
  · refine x_iconst C0 (v := (-1)) dX7_row_17 (by decide) ?_
    exact x_iret C dX7_row_18 h
  · refine x_iload_n C0 dX7_row_8 rfl ?_
    refine x_iconst C0 (v := 0) dX7_row_9 (by decide) ?_
    refine x_iconst C0 (v := 3) dX7_row_10 (by decide) ?_
    obtain ⟨v4, σ3, hc, h⟩ := bd2_some h
    refine x_callSi C (k_mo_in N a2 0 3  hc) umX7_42 ut_X7_in un_X7 uc_X7_in hs_X7_in rfl (by decide) dX7_row_11 (rest := []) rfl (Nat.le_of_ble_eq_true rfl) ?_
    refine x_if_ne C0 (tgt := 19) dX7_row_14 (by decide) h (fun h => ?_) (fun h => ?_)
    · refine x_iload_n C0 dX7_row_19 rfl ?_
      refine x_iconst C0 (v := 3) dX7_row_20 (by decide) ?_
      refine x_icmp_ne C0 (tgt := 32) dX7_row_21 (by decide) h (fun h => ?_) (fun h => ?_)
      · refine x_aload_n C0 dX7_row_32 rfl ?_
        refine gt_X7_19 C dX7_row_33 ?_
        refine x_iconst C0 (v := 3) dX7_row_36 (by decide) ?_
        refine x_bipush C0 (v := 40) dX7_row_37 (by decide) ?_
        refine x_iload_n C0 dX7_row_39 rfl ?_
        refine x_imul C0 dX7_row_40 ?_
        refine x_iadd C0 dX7_row_41 ?_
        refine x_iload_n C0 dX7_row_42 rfl ?_
        refine x_iadd C0 dX7_row_43 ?_
        refine x_iald C (k := 4) (z := 1108) rfl dX7_row_44 h (fun h => ?_)
        exact x_iret C dX7_row_45 h
      · refine x_aload_n C0 dX7_row_24 rfl ?_
        refine x_iload_n C0 dX7_row_25 rfl ?_
        obtain ⟨v6, σ5, hc, h⟩ := bd2_some h
        refine x_callVi C (k_mo_bears N a1  hc) umX7_100 ui_X7_bears us_X7_bears un_X7 uc_X7_bears hv_X7_bears rfl (by decide) (fks := [1, 4, 0, 5, 6, 7, 8, 9, 10, 0, 0, 0, 0, 0, 11]) rfl rfl dX7_row_26 (rest := []) rfl (Nat.le_of_ble_eq_true rfl) ?_
        refine x_goto C0 (tgt := 45) dX7_row_29 (by decide) ?_
        exact x_iret C dX7_row_45 h
    · refine x_iconst C0 (v := (-1)) dX7_row_17 (by decide) ?_
      exact x_iret C dX7_row_18 h
def mo_goesAway_L12 (N : Nat) : Nat → Int32 → St → Option (St)
  | 0, _, _ => none
  | n + 1, x2_12, σ12 =>
    ck (inb 0 1108) (
    if (σ12.1 4 (ix 0)) ≤ x2_12 then (
      some σ12)
    else (
      ck (inb ((3 + x2_12) + 1) 1108) (
      ck (inb (3 + x2_12) 1108) (lt (put σ12 4 (ix (3 + x2_12)) (σ12.1 4 (ix ((3 + x2_12) + 1)))) fun σ2 =>
      ck (inb ((43 + x2_12) + 1) 1108) (
      ck (inb (43 + x2_12) 1108) (lt (put σ2 4 (ix (43 + x2_12)) (σ2.1 4 (ix ((43 + x2_12) + 1)))) fun σ3 =>
      ck (inb ((83 + x2_12) + 1) 1108) (
      ck (inb (83 + x2_12) 1108) (lt (put σ3 4 (ix (83 + x2_12)) (σ3.1 4 (ix ((83 + x2_12) + 1)))) fun σ4 =>
      lt (x2_12 + 1) fun x5 =>
      (mo_goesAway_L12 N n) x5 σ4))))))))
def mo_goesAway (N : Nat) (a1 : Int32) (σ : St) : Option (St) :=
  ck (inb 0 1108) (
  ck (inb 0 1108) (lt (put σ 4 (ix 0) ((σ.1 4 (ix 0)) - 1)) fun σ1 =>
  bd1 (mo_goesAway_L12 N N a1 σ1) fun σ6 =>
  some σ6))
set_option maxRecDepth 20000 in
theorem w_mo_goesAway_L12 {l : Launch} {D : va_G} {cA : Nat → ClassId} {π : Nat → Nat} {Γ : Gx St} {σo : St} (C : Cm Γ cX7_goesAway RX7 cA 0 0 3 l D π shM none (none, σo)) (N : Nat)  (yo : St) (kk12 : ∀ σe, σe = yo → Wx Γ σe 86 [] []) : ∀ (n : Nat) (x2_12 : Int32) (σ12 : St), mo_goesAway_L12 N n x2_12 σ12 = some yo → Wx Γ σ12 12 [(0, .ref (π 0)), (2, .int x2_12)] [] := by
  have C0 := C.1
  intro n
  induction n with
  | zero => intro x2_12 σ12 h; cases h
  | succ n ih =>
    intro x2_12 σ12 h
    rw [mo_goesAway_L12] at h
    refine x_iload_n C0 dX7_goesAway_12 rfl ?_
    refine x_aload_n C0 dX7_goesAway_13 rfl ?_
    refine gt_X7_19 C dX7_goesAway_14 ?_
    refine x_iconst C0 (v := 0) dX7_goesAway_17 (by decide) ?_
    refine x_iald C (k := 4) (z := 1108) rfl dX7_goesAway_18 h (fun h => ?_)
    refine x_icmp_ge C0 (tgt := 86) dX7_goesAway_19 (by decide) h (fun h => ?_) (fun h => ?_)
    · exact x_pick [] rfl (kk12 _ (Option.some.inj h))
    · refine x_aload_n C0 dX7_goesAway_22 rfl ?_
      refine gt_X7_19 C dX7_goesAway_23 ?_
      refine x_iconst C0 (v := 3) dX7_goesAway_26 (by decide) ?_
      refine x_iload_n C0 dX7_goesAway_27 rfl ?_
      refine x_iadd C0 dX7_goesAway_28 ?_
      refine x_aload_n C0 dX7_goesAway_29 rfl ?_
      refine gt_X7_19 C dX7_goesAway_30 ?_
      refine x_iconst C0 (v := 3) dX7_goesAway_33 (by decide) ?_
      refine x_iload_n C0 dX7_goesAway_34 rfl ?_
      refine x_iadd C0 dX7_goesAway_35 ?_
      refine x_iconst C0 (v := 1) dX7_goesAway_36 (by decide) ?_
      refine x_iadd C0 dX7_goesAway_37 ?_
      refine x_iald C (k := 4) (z := 1108) rfl dX7_goesAway_38 h (fun h => ?_)
      refine x_iast C (k := 4) (z := 1108) rfl dX7_goesAway_39 h (fun σ2 h => ?_)
      refine x_aload_n C0 dX7_goesAway_40 rfl ?_
      refine gt_X7_19 C dX7_goesAway_41 ?_
      refine x_bipush C0 (v := 43) dX7_goesAway_44 (by decide) ?_
      refine x_iload_n C0 dX7_goesAway_46 rfl ?_
      refine x_iadd C0 dX7_goesAway_47 ?_
      refine x_aload_n C0 dX7_goesAway_48 rfl ?_
      refine gt_X7_19 C dX7_goesAway_49 ?_
      refine x_bipush C0 (v := 43) dX7_goesAway_52 (by decide) ?_
      refine x_iload_n C0 dX7_goesAway_54 rfl ?_
      refine x_iadd C0 dX7_goesAway_55 ?_
      refine x_iconst C0 (v := 1) dX7_goesAway_56 (by decide) ?_
      refine x_iadd C0 dX7_goesAway_57 ?_
      refine x_iald C (k := 4) (z := 1108) rfl dX7_goesAway_58 h (fun h => ?_)
      refine x_iast C (k := 4) (z := 1108) rfl dX7_goesAway_59 h (fun σ3 h => ?_)
      refine x_aload_n C0 dX7_goesAway_60 rfl ?_
      refine gt_X7_19 C dX7_goesAway_61 ?_
      refine x_bipush C0 (v := 83) dX7_goesAway_64 (by decide) ?_
      refine x_iload_n C0 dX7_goesAway_66 rfl ?_
      refine x_iadd C0 dX7_goesAway_67 ?_
      refine x_aload_n C0 dX7_goesAway_68 rfl ?_
      refine gt_X7_19 C dX7_goesAway_69 ?_
      refine x_bipush C0 (v := 83) dX7_goesAway_72 (by decide) ?_
      refine x_iload_n C0 dX7_goesAway_74 rfl ?_
      refine x_iadd C0 dX7_goesAway_75 ?_
      refine x_iconst C0 (v := 1) dX7_goesAway_76 (by decide) ?_
      refine x_iadd C0 dX7_goesAway_77 ?_
      refine x_iald C (k := 4) (z := 1108) rfl dX7_goesAway_78 h (fun h => ?_)
      refine x_iast C (k := 4) (z := 1108) rfl dX7_goesAway_79 h (fun σ4 h => ?_)
      refine x_iinc C0 (j := 1) (v := 1) (L' := fun x5 => [(2, .int x5), (0, .ref (π 0))]) dX7_goesAway_80 rfl (by decide) (by decide) (fun _ => rfl) h (fun x5 h => ?_)
      refine x_goto C0 (tgt := 12) dX7_goesAway_83 (by decide) ?_
      exact x_pick [1, 0] rfl (ih _ _ h)
set_option maxRecDepth 20000 in
theorem k_mo_goesAway {l : Launch} {D : va_G} {cA : Nat → ClassId} {π : Nat → Nat} (N : Nat) (a1 : Int32)  {σ : St} {σo : St} (h : mo_goesAway N a1 σ = some σo) : Kt l D cA π shM yX7_goesAway cX7_goesAway 3 none 0 0 [.ref (π 0), .int a1] σ none σo := by
  refine Kt.of (by decide) (Nat.le_of_ble_eq_true rfl) (L := [(0, .ref (π 0)), (1, .int a1)]) rfl (fun Γ C => ?_)
  have C0 := C.1
  unfold mo_goesAway at h
  refine x_aload_n C0 dX7_goesAway_0 rfl ?_
  refine gt_X7_19 C dX7_goesAway_1 ?_
  refine x_iconst C0 (v := 0) dX7_goesAway_4 (by decide) ?_
  refine x_dup2_11 C0 rfl rfl dX7_goesAway_5 ?_
  refine x_iald C (k := 4) (z := 1108) rfl dX7_goesAway_6 h (fun h => ?_)
  refine x_iconst C0 (v := 1) dX7_goesAway_7 (by decide) ?_
  refine x_isub C0 dX7_goesAway_8 ?_
  refine x_iast C (k := 4) (z := 1108) rfl dX7_goesAway_9 h (fun σ1 h => ?_)
  refine x_iload_n C0 dX7_goesAway_10 rfl ?_
  refine x_istore_n C0 (L' := [(2, .int a1), (0, .ref (π 0)), (1, .int a1)]) dX7_goesAway_11 (by decide) rfl ?_
  obtain ⟨σ6, hL, h⟩ := bd1_some h
  refine x_pick [1, 0] rfl (w_mo_goesAway_L12 C N _ (fun b0 e => ?_) N a1 σ1 hL)
  cases e
  exact x_vret C dX7_goesAway_86 h
def mo_knits_J25 (c1_3 : Int32) (c3_3 : Int32) (c2_3 : Int32) (R3 : Int32 → St → Option (St)) (x4_25 : Int32) (σ25 : St) : Option (St) :=
  ck (inb 0 1108) (
  ck (inb (3 + (σ25.1 4 (ix 0))) 1108) (lt (put σ25 4 (ix (3 + (σ25.1 4 (ix 0)))) c1_3) fun σ1 =>
  ck (inb 0 1108) (
  ck (inb (43 + (σ1.1 4 (ix 0))) 1108) (lt (put σ1 4 (ix (43 + (σ1.1 4 (ix 0)))) c3_3) fun σ2 =>
  ck (inb 0 1108) (
  ck (inb (83 + (σ2.1 4 (ix 0))) 1108) (lt (put σ2 4 (ix (83 + (σ2.1 4 (ix 0)))) 0) fun σ3 =>
  ck (inb 0 1108) (
  ck (inb 0 1108) (lt (put σ3 4 (ix 0) ((σ3.1 4 (ix 0)) + 1)) fun σ4 =>
  lt (x4_25 + 1) fun x5 =>
  R3 x5 σ4))))))))
def mo_knits_L3 (N : Nat) (c2_3 : Int32) (c1_3 : Int32) (c3_3 : Int32) : Nat → Int32 → St → Option (St)
  | 0, _, _ => none
  | n + 1, x4_3, σ3 =>
    if c2_3 ≤ x4_3 then (
      some σ3)
    else (
      ck (inb 0 1108) (
      if (σ3.1 4 (ix 0)) = 40 then (
        bd1 (mo_goesAway N 0 σ3) fun σ6 =>
        mo_knits_J25 c1_3 c3_3 c2_3 (mo_knits_L3 N c2_3 c1_3 c3_3 n) x4_3 σ6)
      else (
        mo_knits_J25 c1_3 c3_3 c2_3 (mo_knits_L3 N c2_3 c1_3 c3_3 n) x4_3 σ3)))
def mo_knits (N : Nat) (a1 : Int32) (a2 : Int32) (a3 : Int32) (σ : St) : Option (St) :=
  bd1 (mo_knits_L3 N a2 a1 a3 N 0 σ) fun σ7 =>
  some σ7
set_option maxRecDepth 20000 in
theorem w_mo_knits_J25 {l : Launch} {D : va_G} {cA : Nat → ClassId} {π : Nat → Nat} {Γ : Gx St} {σo : St} {yo : St} (C : Cm Γ cX7_knits RX7 cA 1 22 5 l D π shM none (none, σo)) (c1_3 : Int32) (c3_3 : Int32) (c2_3 : Int32) (R3 : Int32 → St → Option (St)) (x4_25 : Int32) (σ25 : St) (hR3 : ∀ x4_3 σ, R3 x4_3 σ = some yo → Wx Γ σ 3 [(0, .ref (π 0)), (1, .int c1_3), (2, .int c2_3), (3, .int c3_3), (4, .int x4_3)] []) (h : mo_knits_J25 c1_3 c3_3 c2_3 R3 x4_25 σ25 = some yo) : Wx Γ σ25 25 [(0, .ref (π 0)), (1, .int c1_3), (2, .int c2_3), (3, .int c3_3), (4, .int x4_25)] [] := by
  have C0 := C.1
  unfold mo_knits_J25 at h
  refine x_aload_n C0 dX7_knits_25 rfl ?_
  refine gt_X7_19 C dX7_knits_26 ?_
  refine x_iconst C0 (v := 3) dX7_knits_29 (by decide) ?_
  refine x_aload_n C0 dX7_knits_30 rfl ?_
  refine gt_X7_19 C dX7_knits_31 ?_
  refine x_iconst C0 (v := 0) dX7_knits_34 (by decide) ?_
  refine x_iald C (k := 4) (z := 1108) rfl dX7_knits_35 h (fun h => ?_)
  refine x_iadd C0 dX7_knits_36 ?_
  refine x_iload_n C0 dX7_knits_37 rfl ?_
  refine x_iast C (k := 4) (z := 1108) rfl dX7_knits_38 h (fun σ1 h => ?_)
  refine x_aload_n C0 dX7_knits_39 rfl ?_
  refine gt_X7_19 C dX7_knits_40 ?_
  refine x_bipush C0 (v := 43) dX7_knits_43 (by decide) ?_
  refine x_aload_n C0 dX7_knits_45 rfl ?_
  refine gt_X7_19 C dX7_knits_46 ?_
  refine x_iconst C0 (v := 0) dX7_knits_49 (by decide) ?_
  refine x_iald C (k := 4) (z := 1108) rfl dX7_knits_50 h (fun h => ?_)
  refine x_iadd C0 dX7_knits_51 ?_
  refine x_iload_n C0 dX7_knits_52 rfl ?_
  refine x_iast C (k := 4) (z := 1108) rfl dX7_knits_53 h (fun σ2 h => ?_)
  refine x_aload_n C0 dX7_knits_54 rfl ?_
  refine gt_X7_19 C dX7_knits_55 ?_
  refine x_bipush C0 (v := 83) dX7_knits_58 (by decide) ?_
  refine x_aload_n C0 dX7_knits_60 rfl ?_
  refine gt_X7_19 C dX7_knits_61 ?_
  refine x_iconst C0 (v := 0) dX7_knits_64 (by decide) ?_
  refine x_iald C (k := 4) (z := 1108) rfl dX7_knits_65 h (fun h => ?_)
  refine x_iadd C0 dX7_knits_66 ?_
  refine x_iconst C0 (v := 0) dX7_knits_67 (by decide) ?_
  refine x_iast C (k := 4) (z := 1108) rfl dX7_knits_68 h (fun σ3 h => ?_)
  refine x_aload_n C0 dX7_knits_69 rfl ?_
  refine gt_X7_19 C dX7_knits_70 ?_
  refine x_iconst C0 (v := 0) dX7_knits_73 (by decide) ?_
  refine x_dup2_11 C0 rfl rfl dX7_knits_74 ?_
  refine x_iald C (k := 4) (z := 1108) rfl dX7_knits_75 h (fun h => ?_)
  refine x_iconst C0 (v := 1) dX7_knits_76 (by decide) ?_
  refine x_iadd C0 dX7_knits_77 ?_
  refine x_iast C (k := 4) (z := 1108) rfl dX7_knits_78 h (fun σ4 h => ?_)
  refine x_iinc C0 (j := 4) (v := 1) (L' := fun x5 => [(4, .int x5), (0, .ref (π 0)), (1, .int c1_3), (2, .int c2_3), (3, .int c3_3)]) dX7_knits_79 rfl (by decide) (by decide) (fun _ => rfl) h (fun x5 h => ?_)
  refine x_goto C0 (tgt := 3) dX7_knits_82 (by decide) ?_
  exact x_pick [1, 2, 3, 4, 0] rfl (hR3 _ _ h)
set_option maxRecDepth 20000 in
theorem w_mo_knits_L3 {l : Launch} {D : va_G} {cA : Nat → ClassId} {π : Nat → Nat} {Γ : Gx St} {σo : St} (C : Cm Γ cX7_knits RX7 cA 1 22 5 l D π shM none (none, σo)) (N : Nat) (c2_3 : Int32) (c1_3 : Int32) (c3_3 : Int32)  (yo : St) (kk3 : ∀ σe, σe = yo → Wx Γ σe 85 [] []) : ∀ (n : Nat) (x4_3 : Int32) (σ3 : St), mo_knits_L3 N c2_3 c1_3 c3_3 n x4_3 σ3 = some yo → Wx Γ σ3 3 [(0, .ref (π 0)), (1, .int c1_3), (2, .int c2_3), (3, .int c3_3), (4, .int x4_3)] [] := by
  have C0 := C.1
  intro n
  induction n with
  | zero => intro x4_3 σ3 h; cases h
  | succ n ih =>
    intro x4_3 σ3 h
    rw [mo_knits_L3] at h
    refine x_iload C0 dX7_knits_3 rfl ?_
    refine x_iload_n C0 dX7_knits_5 rfl ?_
    refine x_icmp_ge C0 (tgt := 85) dX7_knits_6 (by decide) h (fun h => ?_) (fun h => ?_)
    · exact x_pick [] rfl (kk3 _ (Option.some.inj h))
    · refine x_aload_n C0 dX7_knits_9 rfl ?_
      refine gt_X7_19 C dX7_knits_10 ?_
      refine x_iconst C0 (v := 0) dX7_knits_13 (by decide) ?_
      refine x_iald C (k := 4) (z := 1108) rfl dX7_knits_14 h (fun h => ?_)
      refine x_bipush C0 (v := 40) dX7_knits_15 (by decide) ?_
      refine x_icmp_ne C0 (tgt := 25) dX7_knits_17 (by decide) h (fun h => ?_) (fun h => ?_)
      · exact x_pick [0, 1, 2, 3, 4] rfl (w_mo_knits_J25 C c1_3 c3_3 c2_3 (mo_knits_L3 N c2_3 c1_3 c3_3 n) x4_3 σ3 ih h)
      · refine x_aload_n C0 dX7_knits_20 rfl ?_
        refine x_iconst C0 (v := 0) dX7_knits_21 (by decide) ?_
        obtain ⟨σ6, hc, h⟩ := bd1_some h
        refine x_callVv C (k_mo_goesAway N 0  hc) umX7_111 ui_X7_goesAway us_X7_goesAway un_X7 uc_X7_goesAway hv_X7_goesAway rfl (by decide) (fks := [1, 4, 0, 5, 6, 7, 8, 9, 10, 0, 0, 0, 0, 0, 11]) rfl rfl dX7_knits_22 (rest := []) rfl (Nat.le_of_ble_eq_true rfl) ?_
        exact x_pick [0, 1, 2, 3, 4] rfl (w_mo_knits_J25 C c1_3 c3_3 c2_3 (mo_knits_L3 N c2_3 c1_3 c3_3 n) x4_3 σ6 ih h)
set_option maxRecDepth 20000 in
theorem k_mo_knits {l : Launch} {D : va_G} {cA : Nat → ClassId} {π : Nat → Nat} (N : Nat) (a1 : Int32) (a2 : Int32) (a3 : Int32)  {σ : St} {σo : St} (h : mo_knits N a1 a2 a3 σ = some σo) : Kt l D cA π shM yX7_knits cX7_knits 5 none 1 22 [.ref (π 0), .int a1, .int a2, .int a3] σ none σo := by
  refine Kt.of (by decide) (Nat.le_of_ble_eq_true rfl) (L := [(0, .ref (π 0)), (1, .int a1), (2, .int a2), (3, .int a3)]) rfl (fun Γ C => ?_)
  have C0 := C.1
  unfold mo_knits at h
  refine x_iconst C0 (v := 0) dX7_knits_0 (by decide) ?_
  refine x_istore C0 (L' := [(4, .int 0), (0, .ref (π 0)), (1, .int a1), (2, .int a2), (3, .int a3)]) dX7_knits_1 (by decide) rfl ?_
  obtain ⟨σ7, hL, h⟩ := bd1_some h
  refine x_pick [1, 2, 3, 4, 0] rfl (w_mo_knits_L3 C N a2 a1 a3 _ (fun b0 e => ?_) N 0 σ hL)
  cases e
  exact x_vret C dX7_knits_85 h
def mo_goesOver (N : Nat) (a1 : Int32) (σ : St) : Option (St) :=
  ck (inb (6 + a1) 58) (
  ck (inb (12 + a1) 58) (
  bd1 (mo_knits N a1 (σ.1 2 (ix (6 + a1))) (σ.1 2 (ix (12 + a1))) σ) fun σ1 =>
  some σ1))
set_option maxRecDepth 20000 in
theorem k_mo_goesOver {l : Launch} {D : va_G} {cA : Nat → ClassId} {π : Nat → Nat} (N : Nat) (a1 : Int32)  {σ : St} {σo : St} (h : mo_goesOver N a1 σ = some σo) : Kt l D cA π shM yX7_goesOver cX7_goesOver 2 none 2 46 [.ref (π 0), .int a1] σ none σo := by
  refine Kt.of (by decide) (Nat.le_of_ble_eq_true rfl) (L := [(0, .ref (π 0)), (1, .int a1)]) rfl (fun Γ C => ?_)
  have C0 := C.1
  unfold mo_goesOver at h
  refine x_aload_n C0 dX7_goesOver_0 rfl ?_
  refine x_iload_n C0 dX7_goesOver_1 rfl ?_
  refine x_aload_n C0 dX7_goesOver_2 rfl ?_
  refine gt_X7_13 C dX7_goesOver_3 ?_
  refine x_bipush C0 (v := 6) dX7_goesOver_6 (by decide) ?_
  refine x_iload_n C0 dX7_goesOver_8 rfl ?_
  refine x_iadd C0 dX7_goesOver_9 ?_
  refine x_iald C (k := 2) (z := 58) rfl dX7_goesOver_10 h (fun h => ?_)
  refine x_aload_n C0 dX7_goesOver_11 rfl ?_
  refine gt_X7_13 C dX7_goesOver_12 ?_
  refine x_bipush C0 (v := 12) dX7_goesOver_15 (by decide) ?_
  refine x_iload_n C0 dX7_goesOver_17 rfl ?_
  refine x_iadd C0 dX7_goesOver_18 ?_
  refine x_iald C (k := 2) (z := 58) rfl dX7_goesOver_19 h (fun h => ?_)
  obtain ⟨σ1, hc, h⟩ := bd1_some h
  refine x_callVv C (k_mo_knits N a1 (σ.1 2 (ix (6 + a1))) (σ.1 2 (ix (12 + a1)))  hc) umX7_115 ui_X7_knits us_X7_knits un_X7 uc_X7_knits hv_X7_knits rfl (by decide) (fks := [1, 4, 0, 5, 6, 7, 8, 9, 10, 0, 0, 0, 0, 0, 11]) rfl rfl dX7_goesOver_20 (rest := []) rfl (Nat.le_of_ble_eq_true rfl) ?_
  exact x_vret C dX7_goesOver_23 h
def mo_longOf (N : Nat) (a1 : Int32) (a2 : Int32) (σ : St) : Option (Int32 × St) :=
  if a2 = 1 then (
    some ((a1 + (a1 / 5)), σ))
  else (
    some ((a1 + 0), σ))
set_option maxRecDepth 20000 in
theorem k_mo_longOf {l : Launch} {D : va_G} {cA : Nat → ClassId} {π : Nat → Nat} (N : Nat) (a1 : Int32) (a2 : Int32)  {σ : St} {vo : Int32} {σo : St} (h : mo_longOf N a1 a2 σ = some (vo, σo)) : Kt l D cA π shM yX7_longOf cX7_longOf 2 (some .int) 0 0 [.int a1, .int a2] σ (some (.int vo)) σo := by
  refine Kt.of (by decide) (Nat.le_of_ble_eq_true rfl) (L := [(0, .int a1), (1, .int a2)]) rfl (fun Γ C => ?_)
  have C0 := C.1
  unfold mo_longOf at h
  refine x_iload_n C0 dX7_longOf_0 rfl ?_
  refine x_iload_n C0 dX7_longOf_1 rfl ?_
  refine x_iconst C0 (v := 1) dX7_longOf_2 (by decide) ?_
  refine x_icmp_ne C0 (tgt := 12) dX7_longOf_3 (by decide) h (fun h => ?_) (fun h => ?_)
  · refine x_iconst C0 (v := 0) dX7_longOf_12 (by decide) ?_
    refine x_iadd C0 dX7_longOf_13 ?_
    exact x_iret C dX7_longOf_14 h
  · refine x_iload_n C0 dX7_longOf_6 rfl ?_
    refine x_iconst C0 (v := 5) dX7_longOf_7 (by decide) ?_
    refine x_idiv C0 (by decide) dX7_longOf_8 ?_
    refine x_goto C0 (tgt := 13) dX7_longOf_9 (by decide) ?_
    refine x_iadd C0 dX7_longOf_13 ?_
    exact x_iret C dX7_longOf_14 h
def mo_most_L5 (N : Nat) : Nat → Int32 → Int32 → St → Option (Int32 × St)
  | 0, _, _, _ => none
  | n + 1, x1_5, x2_5, σ5 =>
    ck (inb 0 1108) (
    if (σ5.1 4 (ix 0)) ≤ x2_5 then (
      some (x1_5, σ5))
    else (
      bd2 (mo_bears N x2_5 σ5) fun v2 σ1 =>
      if x1_5 ≤ (2 * v2) then (
        lt (x2_5 + 1) fun x3 =>
        (mo_most_L5 N n) x1_5 x3 σ1)
      else (
        bd2 (mo_bears N x2_5 σ1) fun v5 σ4 =>
        lt (2 * v5) fun x6 =>
        lt (x2_5 + 1) fun x7 =>
        (mo_most_L5 N n) x6 x7 σ4)))
def mo_most (N : Nat) (σ : St) : Option (Int32 × St) :=
  bd2 (mo_most_L5 N N 9 0 σ) fun x8 σ9 =>
  some (x8, σ9)
set_option maxRecDepth 20000 in
theorem w_mo_most_L5 {l : Launch} {D : va_G} {cA : Nat → ClassId} {π : Nat → Nat} {Γ : Gx St} {vo : Int32} {σo : St} (C : Cm Γ cX7_most RX7 cA 1 22 3 l D π shM (some .int) (some (.int vo), σo)) (N : Nat)  (yo : Int32 × St) (kk5 : ∀ e1_5 σe, (e1_5, σe) = yo → Wx Γ σe 44 [(1, .int e1_5)] []) : ∀ (n : Nat) (x1_5 : Int32) (x2_5 : Int32) (σ5 : St), mo_most_L5 N n x1_5 x2_5 σ5 = some yo → Wx Γ σ5 5 [(0, .ref (π 0)), (1, .int x1_5), (2, .int x2_5)] [] := by
  have C0 := C.1
  intro n
  induction n with
  | zero => intro x1_5 x2_5 σ5 h; cases h
  | succ n ih =>
    intro x1_5 x2_5 σ5 h
    rw [mo_most_L5] at h
    refine x_iload_n C0 dX7_most_5 rfl ?_
    refine x_aload_n C0 dX7_most_6 rfl ?_
    refine gt_X7_19 C dX7_most_7 ?_
    refine x_iconst C0 (v := 0) dX7_most_10 (by decide) ?_
    refine x_iald C (k := 4) (z := 1108) rfl dX7_most_11 h (fun h => ?_)
    refine x_icmp_ge C0 (tgt := 44) dX7_most_12 (by decide) h (fun h => ?_) (fun h => ?_)
    · exact x_pick [1] rfl (kk5 _ _ (Option.some.inj h))
    · refine x_iconst C0 (v := 2) dX7_most_15 (by decide) ?_
      refine x_aload_n C0 dX7_most_16 rfl ?_
      refine x_iload_n C0 dX7_most_17 rfl ?_
      obtain ⟨v2, σ1, hc, h⟩ := bd2_some h
      refine x_callVi C (k_mo_bears N x2_5  hc) umX7_100 ui_X7_bears us_X7_bears un_X7 uc_X7_bears hv_X7_bears rfl (by decide) (fks := [1, 4, 0, 5, 6, 7, 8, 9, 10, 0, 0, 0, 0, 0, 11]) rfl rfl dX7_most_18 (rest := [.int 2]) rfl (Nat.le_of_ble_eq_true rfl) ?_
      refine x_imul C0 dX7_most_21 ?_
      refine x_iload_n C0 dX7_most_22 rfl ?_
      refine x_icmp_ge C0 (tgt := 36) dX7_most_23 (by decide) h (fun h => ?_) (fun h => ?_)
      · refine x_iload_n C0 dX7_most_36 rfl ?_
        refine x_istore_n C0 (L' := [(1, .int x1_5), (0, .ref (π 0)), (2, .int x2_5)]) dX7_most_37 (by decide) rfl ?_
        refine x_iinc C0 (j := 2) (v := 1) (L' := fun x3 => [(2, .int x3), (1, .int x1_5), (0, .ref (π 0))]) dX7_most_38 rfl (by decide) (by decide) (fun _ => rfl) h (fun x3 h => ?_)
        refine x_goto C0 (tgt := 5) dX7_most_41 (by decide) ?_
        exact x_pick [2, 1, 0] rfl (ih _ _ _ h)
      · refine x_iconst C0 (v := 2) dX7_most_26 (by decide) ?_
        refine x_aload_n C0 dX7_most_27 rfl ?_
        refine x_iload_n C0 dX7_most_28 rfl ?_
        obtain ⟨v5, σ4, hc, h⟩ := bd2_some h
        refine x_callVi C (k_mo_bears N x2_5  hc) umX7_100 ui_X7_bears us_X7_bears un_X7 uc_X7_bears hv_X7_bears rfl (by decide) (fks := [1, 4, 0, 5, 6, 7, 8, 9, 10, 0, 0, 0, 0, 0, 11]) rfl rfl dX7_most_29 (rest := [.int 2]) rfl (Nat.le_of_ble_eq_true rfl) ?_
        refine x_imul C0 dX7_most_32 ?_
        refine x_goto C0 (tgt := 37) dX7_most_33 (by decide) ?_
        refine x_nm h (fun x6 h => ?_)
        refine x_istore_n C0 (L' := [(1, .int x6), (0, .ref (π 0)), (2, .int x2_5)]) dX7_most_37 (by decide) rfl ?_
        refine x_iinc C0 (j := 2) (v := 1) (L' := fun x7 => [(2, .int x7), (1, .int x6), (0, .ref (π 0))]) dX7_most_38 rfl (by decide) (by decide) (fun _ => rfl) h (fun x7 h => ?_)
        refine x_goto C0 (tgt := 5) dX7_most_41 (by decide) ?_
        exact x_pick [2, 1, 0] rfl (ih _ _ _ h)
set_option maxRecDepth 20000 in
theorem k_mo_most {l : Launch} {D : va_G} {cA : Nat → ClassId} {π : Nat → Nat} (N : Nat)  {σ : St} {vo : Int32} {σo : St} (h : mo_most N σ = some (vo, σo)) : Kt l D cA π shM yX7_most cX7_most 3 (some .int) 1 22 [.ref (π 0)] σ (some (.int vo)) σo := by
  refine Kt.of (by decide) (Nat.le_of_ble_eq_true rfl) (L := [(0, .ref (π 0))]) rfl (fun Γ C => ?_)
  have C0 := C.1
  unfold mo_most at h
  refine x_bipush C0 (v := 9) dX7_most_0 (by decide) ?_
  refine x_istore_n C0 (L' := [(1, .int 9), (0, .ref (π 0))]) dX7_most_2 (by decide) rfl ?_
  refine x_iconst C0 (v := 0) dX7_most_3 (by decide) ?_
  refine x_istore_n C0 (L' := [(2, .int 0), (1, .int 9), (0, .ref (π 0))]) dX7_most_4 (by decide) rfl ?_
  obtain ⟨x8, σ9, hL, h⟩ := bd2_some h
  refine x_pick [2, 1, 0] rfl (w_mo_most_L5 C N _ (fun b0 b1 e => ?_) N 9 0 σ hL)
  cases e
  refine x_iload_n C0 dX7_most_44 rfl ?_
  exact x_iret C dX7_most_45 h
def mo_holds (N : Nat) (a1 : Int32) (σ : St) : Option (Int32 × St) :=
  ck (inb 0 1108) (
  ck (inb 1 1108) (
  bd2 (mo_longOf N (σ.1 4 (ix 0)) (σ.1 4 (ix 1)) σ) fun v2 σ1 =>
  ck (inb 1 58) (
  ck (inb 1 58) (
  ck (inb 2 58) (
  bd2 (mo_in N v2 (σ1.1 2 (ix 1)) ((σ1.1 2 (ix 1)) + (σ1.1 2 (ix 2))) σ1) fun v4 σ3 =>
  if v4 = 0 then (
    some (0, σ3))
  else (
    bd2 (mo_most N  σ3) fun v6 σ5 =>
    ck (inb (6 + a1) 58) (
    if v6 < (σ5.1 2 (ix (6 + a1))) then (
      some (0, σ5))
    else (
      some (1, σ5)))))))))
set_option maxRecDepth 20000 in
theorem k_mo_holds {l : Launch} {D : va_G} {cA : Nat → ClassId} {π : Nat → Nat} (N : Nat) (a1 : Int32)  {σ : St} {vo : Int32} {σo : St} (h : mo_holds N a1 σ = some (vo, σo)) : Kt l D cA π shM yX7_holds cX7_holds 2 (some .boolean) 2 44 [.ref (π 0), .int a1] σ (some (.int vo)) σo := by
  refine Kt.of (by decide) (Nat.le_of_ble_eq_true rfl) (L := [(0, .ref (π 0)), (1, .int a1)]) rfl (fun Γ C => ?_)
  have C0 := C.1
  unfold mo_holds at h
  refine x_aload_n C0 dX7_holds_0 rfl ?_
  refine gt_X7_19 C dX7_holds_1 ?_
  refine x_iconst C0 (v := 0) dX7_holds_4 (by decide) ?_
  refine x_iald C (k := 4) (z := 1108) rfl dX7_holds_5 h (fun h => ?_)
  refine x_aload_n C0 dX7_holds_6 rfl ?_
  refine gt_X7_19 C dX7_holds_7 ?_
  refine x_iconst C0 (v := 1) dX7_holds_10 (by decide) ?_
  refine x_iald C (k := 4) (z := 1108) rfl dX7_holds_11 h (fun h => ?_)
  obtain ⟨v2, σ1, hc, h⟩ := bd2_some h
  refine x_callSi C (k_mo_longOf N (σ.1 4 (ix 0)) (σ.1 4 (ix 1))  hc) umX7_103 ut_X7_longOf un_X7 uc_X7_longOf hs_X7_longOf rfl (by decide) dX7_holds_12 (rest := []) rfl (Nat.le_of_ble_eq_true rfl) ?_
  refine x_aload_n C0 dX7_holds_15 rfl ?_
  refine gt_X7_13 C dX7_holds_16 ?_
  refine x_iconst C0 (v := 1) dX7_holds_19 (by decide) ?_
  refine x_iald C (k := 2) (z := 58) rfl dX7_holds_20 h (fun h => ?_)
  refine x_aload_n C0 dX7_holds_21 rfl ?_
  refine gt_X7_13 C dX7_holds_22 ?_
  refine x_iconst C0 (v := 1) dX7_holds_25 (by decide) ?_
  refine x_iald C (k := 2) (z := 58) rfl dX7_holds_26 h (fun h => ?_)
  refine x_aload_n C0 dX7_holds_27 rfl ?_
  refine gt_X7_13 C dX7_holds_28 ?_
  refine x_iconst C0 (v := 2) dX7_holds_31 (by decide) ?_
  refine x_iald C (k := 2) (z := 58) rfl dX7_holds_32 h (fun h => ?_)
  refine x_iadd C0 dX7_holds_33 ?_
  obtain ⟨v4, σ3, hc, h⟩ := bd2_some h
  refine x_callSi C (k_mo_in N v2 (σ1.1 2 (ix 1)) ((σ1.1 2 (ix 1)) + (σ1.1 2 (ix 2)))  hc) umX7_42 ut_X7_in un_X7 uc_X7_in hs_X7_in rfl (by decide) dX7_holds_34 (rest := []) rfl (Nat.le_of_ble_eq_true rfl) ?_
  refine x_if_eq C0 (tgt := 60) dX7_holds_37 (by decide) h (fun h => ?_) (fun h => ?_)
  · refine x_iconst C0 (v := 0) dX7_holds_60 (by decide) ?_
    exact x_zret C (Or.inl rfl) dX7_holds_61 h
  · refine x_aload_n C0 dX7_holds_40 rfl ?_
    obtain ⟨v6, σ5, hc, h⟩ := bd2_some h
    refine x_callVi C (k_mo_most N  hc) umX7_107 ui_X7_most us_X7_most un_X7 uc_X7_most hv_X7_most rfl (by decide) (fks := [1, 4, 0, 5, 6, 7, 8, 9, 10, 0, 0, 0, 0, 0, 11]) rfl rfl dX7_holds_41 (rest := []) rfl (Nat.le_of_ble_eq_true rfl) ?_
    refine x_aload_n C0 dX7_holds_44 rfl ?_
    refine gt_X7_13 C dX7_holds_45 ?_
    refine x_bipush C0 (v := 6) dX7_holds_48 (by decide) ?_
    refine x_iload_n C0 dX7_holds_50 rfl ?_
    refine x_iadd C0 dX7_holds_51 ?_
    refine x_iald C (k := 2) (z := 58) rfl dX7_holds_52 h (fun h => ?_)
    refine x_icmp_lt C0 (tgt := 60) dX7_holds_53 (by decide) h (fun h => ?_) (fun h => ?_)
    · refine x_iconst C0 (v := 0) dX7_holds_60 (by decide) ?_
      exact x_zret C (Or.inl rfl) dX7_holds_61 h
    · refine x_iconst C0 (v := 1) dX7_holds_56 (by decide) ?_
      refine x_goto C0 (tgt := 61) dX7_holds_57 (by decide) ?_
      exact x_zret C (Or.inr rfl) dX7_holds_61 h
def mo_keeps_L70 (N : Nat) (c1_70 : Int32) : Nat → Int32 → St → Option (St)
  | 0, _, _ => none
  | n + 1, x2_70, σ70 =>
    if 123 ≤ x2_70 then (
      some σ70)
    else (
      ck (inb x2_70 1108) (
      ck (inb (c1_70 + x2_70) 1108) (lt (put σ70 4 (ix (c1_70 + x2_70)) (σ70.1 4 (ix x2_70))) fun σ2 =>
      lt (x2_70 + 1) fun x3 =>
      (mo_keeps_L70 N c1_70 n) x3 σ2)))
def mo_keeps_J54 (N : Nat) (σ54 : St) : Option (St) :=
  ck (inb 123 1108) (
  lt (124 + (123 * (σ54.1 4 (ix 123)))) fun x1 =>
  bd1 (mo_keeps_L70 N x1 N 0 σ54) fun σ4 =>
  ck (inb 123 1108) (
  ck (inb 123 1108) (lt (put σ4 4 (ix 123) ((σ4.1 4 (ix 123)) + 1)) fun σ5 =>
  some σ5)))
def mo_keeps_L15 (N : Nat) : Nat → Int32 → St → Option (St)
  | 0, _, _ => none
  | n + 1, x1_15, σ15 =>
    if 985 ≤ x1_15 then (
      some σ15)
    else (
      ck (inb (x1_15 + 123) 1108) (
      ck (inb x1_15 1108) (lt (put σ15 4 (ix x1_15) (σ15.1 4 (ix (x1_15 + 123)))) fun σ6 =>
      lt (x1_15 + 1) fun x7 =>
      (mo_keeps_L15 N n) x7 σ6)))
def mo_keeps (N : Nat) (σ : St) : Option (St) :=
  ck (inb 123 1108) (
  if (σ.1 4 (ix 123)) = 8 then (
    bd1 (mo_keeps_L15 N N 124 σ) fun σ8 =>
    ck (inb 123 1108) (
    ck (inb 123 1108) (lt (put σ8 4 (ix 123) ((σ8.1 4 (ix 123)) - 1)) fun σ9 =>
    mo_keeps_J54 N σ9)))
  else (
    mo_keeps_J54 N σ))
set_option maxRecDepth 20000 in
theorem w_mo_keeps_L70 {l : Launch} {D : va_G} {cA : Nat → ClassId} {π : Nat → Nat} {Γ : Gx St} {σo : St} (C : Cm Γ cX7_keeps RX7 cA 0 0 3 l D π shM none (none, σo)) (N : Nat) (c1_70 : Int32)  (yo : St) (kk70 : ∀ σe, σe = yo → Wx Γ σe 96 [(0, .ref (π 0))] []) : ∀ (n : Nat) (x2_70 : Int32) (σ70 : St), mo_keeps_L70 N c1_70 n x2_70 σ70 = some yo → Wx Γ σ70 70 [(0, .ref (π 0)), (1, .int c1_70), (2, .int x2_70)] [] := by
  have C0 := C.1
  intro n
  induction n with
  | zero => intro x2_70 σ70 h; cases h
  | succ n ih =>
    intro x2_70 σ70 h
    rw [mo_keeps_L70] at h
    refine x_iload_n C0 dX7_keeps_70 rfl ?_
    refine x_bipush C0 (v := 123) dX7_keeps_71 (by decide) ?_
    refine x_icmp_ge C0 (tgt := 96) dX7_keeps_73 (by decide) h (fun h => ?_) (fun h => ?_)
    · exact x_pick [0] rfl (kk70 _ (Option.some.inj h))
    · refine x_aload_n C0 dX7_keeps_76 rfl ?_
      refine gt_X7_19 C dX7_keeps_77 ?_
      refine x_iload_n C0 dX7_keeps_80 rfl ?_
      refine x_iload_n C0 dX7_keeps_81 rfl ?_
      refine x_iadd C0 dX7_keeps_82 ?_
      refine x_aload_n C0 dX7_keeps_83 rfl ?_
      refine gt_X7_19 C dX7_keeps_84 ?_
      refine x_iload_n C0 dX7_keeps_87 rfl ?_
      refine x_iald C (k := 4) (z := 1108) rfl dX7_keeps_88 h (fun h => ?_)
      refine x_iast C (k := 4) (z := 1108) rfl dX7_keeps_89 h (fun σ2 h => ?_)
      refine x_iinc C0 (j := 2) (v := 1) (L' := fun x3 => [(2, .int x3), (0, .ref (π 0)), (1, .int c1_70)]) dX7_keeps_90 rfl (by decide) (by decide) (fun _ => rfl) h (fun x3 h => ?_)
      refine x_goto C0 (tgt := 70) dX7_keeps_93 (by decide) ?_
      exact x_pick [1, 2, 0] rfl (ih _ _ h)
set_option maxRecDepth 20000 in
theorem w_mo_keeps_J54 {l : Launch} {D : va_G} {cA : Nat → ClassId} {π : Nat → Nat} {Γ : Gx St} {σo : St} (C : Cm Γ cX7_keeps RX7 cA 0 0 3 l D π shM none (none, σo)) (N : Nat) (σ54 : St)  (h : mo_keeps_J54 N σ54 = some σo) : Wx Γ σ54 54 [(0, .ref (π 0))] [] := by
  have C0 := C.1
  unfold mo_keeps_J54 at h
  refine x_bipush C0 (v := 124) dX7_keeps_54 (by decide) ?_
  refine x_bipush C0 (v := 123) dX7_keeps_56 (by decide) ?_
  refine x_aload_n C0 dX7_keeps_58 rfl ?_
  refine gt_X7_19 C dX7_keeps_59 ?_
  refine x_bipush C0 (v := 123) dX7_keeps_62 (by decide) ?_
  refine x_iald C (k := 4) (z := 1108) rfl dX7_keeps_64 h (fun h => ?_)
  refine x_imul C0 dX7_keeps_65 ?_
  refine x_iadd C0 dX7_keeps_66 ?_
  refine x_nm h (fun x1 h => ?_)
  refine x_istore_n C0 (L' := [(1, .int x1), (0, .ref (π 0))]) dX7_keeps_67 (by decide) rfl ?_
  refine x_iconst C0 (v := 0) dX7_keeps_68 (by decide) ?_
  refine x_istore_n C0 (L' := [(2, .int 0), (1, .int x1), (0, .ref (π 0))]) dX7_keeps_69 (by decide) rfl ?_
  obtain ⟨σ4, hL, h⟩ := bd1_some h
  refine x_pick [2, 1, 0] rfl (w_mo_keeps_L70 C N x1 _ (fun b0 e => ?_) N 0 σ54 hL)
  cases e
  refine x_aload_n C0 dX7_keeps_96 rfl ?_
  refine gt_X7_19 C dX7_keeps_97 ?_
  refine x_bipush C0 (v := 123) dX7_keeps_100 (by decide) ?_
  refine x_dup2_11 C0 rfl rfl dX7_keeps_102 ?_
  refine x_iald C (k := 4) (z := 1108) rfl dX7_keeps_103 h (fun h => ?_)
  refine x_iconst C0 (v := 1) dX7_keeps_104 (by decide) ?_
  refine x_iadd C0 dX7_keeps_105 ?_
  refine x_iast C (k := 4) (z := 1108) rfl dX7_keeps_106 h (fun σ5 h => ?_)
  exact x_vret C dX7_keeps_107 h
set_option maxRecDepth 20000 in
theorem w_mo_keeps_L15 {l : Launch} {D : va_G} {cA : Nat → ClassId} {π : Nat → Nat} {Γ : Gx St} {σo : St} (C : Cm Γ cX7_keeps RX7 cA 0 0 3 l D π shM none (none, σo)) (N : Nat)  (yo : St) (kk15 : ∀ σe, σe = yo → Wx Γ σe 43 [(0, .ref (π 0))] []) : ∀ (n : Nat) (x1_15 : Int32) (σ15 : St), mo_keeps_L15 N n x1_15 σ15 = some yo → Wx Γ σ15 15 [(0, .ref (π 0)), (1, .int x1_15)] [] := by
  have C0 := C.1
  intro n
  induction n with
  | zero => intro x1_15 σ15 h; cases h
  | succ n ih =>
    intro x1_15 σ15 h
    rw [mo_keeps_L15] at h
    refine x_iload_n C0 dX7_keeps_15 rfl ?_
    refine x_sipush C0 (v := 985) dX7_keeps_16 (by decide) ?_
    refine x_icmp_ge C0 (tgt := 43) dX7_keeps_19 (by decide) h (fun h => ?_) (fun h => ?_)
    · exact x_pick [0] rfl (kk15 _ (Option.some.inj h))
    · refine x_aload_n C0 dX7_keeps_22 rfl ?_
      refine gt_X7_19 C dX7_keeps_23 ?_
      refine x_iload_n C0 dX7_keeps_26 rfl ?_
      refine x_aload_n C0 dX7_keeps_27 rfl ?_
      refine gt_X7_19 C dX7_keeps_28 ?_
      refine x_iload_n C0 dX7_keeps_31 rfl ?_
      refine x_bipush C0 (v := 123) dX7_keeps_32 (by decide) ?_
      refine x_iadd C0 dX7_keeps_34 ?_
      refine x_iald C (k := 4) (z := 1108) rfl dX7_keeps_35 h (fun h => ?_)
      refine x_iast C (k := 4) (z := 1108) rfl dX7_keeps_36 h (fun σ6 h => ?_)
      refine x_iinc C0 (j := 1) (v := 1) (L' := fun x7 => [(1, .int x7), (0, .ref (π 0))]) dX7_keeps_37 rfl (by decide) (by decide) (fun _ => rfl) h (fun x7 h => ?_)
      refine x_goto C0 (tgt := 15) dX7_keeps_40 (by decide) ?_
      exact x_pick [1, 0] rfl (ih _ _ h)
set_option maxRecDepth 20000 in
theorem k_mo_keeps {l : Launch} {D : va_G} {cA : Nat → ClassId} {π : Nat → Nat} (N : Nat)  {σ : St} {σo : St} (h : mo_keeps N σ = some σo) : Kt l D cA π shM yX7_keeps cX7_keeps 3 none 0 0 [.ref (π 0)] σ none σo := by
  refine Kt.of (by decide) (Nat.le_of_ble_eq_true rfl) (L := [(0, .ref (π 0))]) rfl (fun Γ C => ?_)
  have C0 := C.1
  unfold mo_keeps at h
  refine x_aload_n C0 dX7_keeps_0 rfl ?_
  refine gt_X7_19 C dX7_keeps_1 ?_
  refine x_bipush C0 (v := 123) dX7_keeps_4 (by decide) ?_
  refine x_iald C (k := 4) (z := 1108) rfl dX7_keeps_6 h (fun h => ?_)
  refine x_bipush C0 (v := 8) dX7_keeps_7 (by decide) ?_
  refine x_icmp_ne C0 (tgt := 54) dX7_keeps_9 (by decide) h (fun h => ?_) (fun h => ?_)
  · exact x_pick [0] rfl (w_mo_keeps_J54 C N σ h)
  · refine x_bipush C0 (v := 124) dX7_keeps_12 (by decide) ?_
    refine x_istore_n C0 (L' := [(1, .int 124), (0, .ref (π 0))]) dX7_keeps_14 (by decide) rfl ?_
    obtain ⟨σ8, hL, h⟩ := bd1_some h
    refine x_pick [1, 0] rfl (w_mo_keeps_L15 C N _ (fun b0 e => ?_) N 124 σ hL)
    cases e
    refine x_aload_n C0 dX7_keeps_43 rfl ?_
    refine gt_X7_19 C dX7_keeps_44 ?_
    refine x_bipush C0 (v := 123) dX7_keeps_47 (by decide) ?_
    refine x_dup2_11 C0 rfl rfl dX7_keeps_49 ?_
    refine x_iald C (k := 4) (z := 1108) rfl dX7_keeps_50 h (fun h => ?_)
    refine x_iconst C0 (v := 1) dX7_keeps_51 (by decide) ?_
    refine x_isub C0 dX7_keeps_52 ?_
    refine x_iast C (k := 4) (z := 1108) rfl dX7_keeps_53 h (fun σ9 h => ?_)
    exact x_pick [0] rfl (w_mo_keeps_J54 C N σ9 h)
