section XA
variable {S : Type} {Γ : Gx S} {cc : ByteArray} {own : String} {cA : Nat → ClassId} {fr lo n : Nat} {σ : S} {pc : Nat} {L L' : List (Nat × Value)} {stk : List Value} {α : Type} {o : α}
def rem (x y : Int32) : Int32 := x - x / y * y
def mn (x y : Int32) : Int32 := if y < x then y else x
def mx (x y : Int32) : Int32 := if x < y then y else x
theorem x_iadd (C : Cx Γ cc own cA fr lo n) {x y : Int32} (hd : decode cc pc = .ok (.iadd, 1)) (k : Wx Γ σ (pc + 1) L (.int (x + y) :: stk)) : Wx Γ σ pc L (.int y :: .int x :: stk) := by
  obtain ⟨⟨p, l, e, R, s, m, args, below, meth, c⟩, ⟨D, w, A, nL, cs, ss, Q⟩⟩ := Γ
  exact fun H locs ls hP hS hl => lv_iadd C.1 C.2.1 hd (k H locs ls hP hS hl)
theorem x_isub (C : Cx Γ cc own cA fr lo n) {x y : Int32} (hd : decode cc pc = .ok (.isub, 1)) (k : Wx Γ σ (pc + 1) L (.int (x - y) :: stk)) : Wx Γ σ pc L (.int y :: .int x :: stk) := by
  obtain ⟨⟨p, l, e, R, s, m, args, below, meth, c⟩, ⟨D, w, A, nL, cs, ss, Q⟩⟩ := Γ
  exact fun H locs ls hP hS hl => lv_isub C.1 C.2.1 hd (k H locs ls hP hS hl)
theorem x_imul (C : Cx Γ cc own cA fr lo n) {x y : Int32} (hd : decode cc pc = .ok (.imul, 1)) (k : Wx Γ σ (pc + 1) L (.int (x * y) :: stk)) : Wx Γ σ pc L (.int y :: .int x :: stk) := by
  obtain ⟨⟨p, l, e, R, s, m, args, below, meth, c⟩, ⟨D, w, A, nL, cs, ss, Q⟩⟩ := Γ
  exact fun H locs ls hP hS hl => lv_imul C.1 C.2.1 hd (k H locs ls hP hS hl)
theorem x_iand (C : Cx Γ cc own cA fr lo n) {x y : Int32} (hd : decode cc pc = .ok (.iand, 1)) (k : Wx Γ σ (pc + 1) L (.int (x &&& y) :: stk)) : Wx Γ σ pc L (.int y :: .int x :: stk) := by
  obtain ⟨⟨p, l, e, R, s, m, args, below, meth, c⟩, ⟨D, w, A, nL, cs, ss, Q⟩⟩ := Γ
  exact fun H locs ls hP hS hl => lv_iand C.1 C.2.1 hd (k H locs ls hP hS hl)
theorem x_ior (C : Cx Γ cc own cA fr lo n) {x y : Int32} (hd : decode cc pc = .ok (.ior, 1)) (k : Wx Γ σ (pc + 1) L (.int (x ||| y) :: stk)) : Wx Γ σ pc L (.int y :: .int x :: stk) := by
  obtain ⟨⟨p, l, e, R, s, m, args, below, meth, c⟩, ⟨D, w, A, nL, cs, ss, Q⟩⟩ := Γ
  exact fun H locs ls hP hS hl => lv_ior C.1 C.2.1 hd (k H locs ls hP hS hl)
theorem x_ixor (C : Cx Γ cc own cA fr lo n) {x y : Int32} (hd : decode cc pc = .ok (.ixor, 1)) (k : Wx Γ σ (pc + 1) L (.int (x ^^^ y) :: stk)) : Wx Γ σ pc L (.int y :: .int x :: stk) := by
  obtain ⟨⟨p, l, e, R, s, m, args, below, meth, c⟩, ⟨D, w, A, nL, cs, ss, Q⟩⟩ := Γ
  exact fun H locs ls hP hS hl => lv_ixor C.1 C.2.1 hd (k H locs ls hP hS hl)
theorem x_ishl (C : Cx Γ cc own cA fr lo n) {x y : Int32} (hd : decode cc pc = .ok (.ishl, 1)) (k : Wx Γ σ (pc + 1) L (.int (x <<< (y &&& 31)) :: stk)) : Wx Γ σ pc L (.int y :: .int x :: stk) := by
  obtain ⟨⟨p, l, e, R, s, m, args, below, meth, c⟩, ⟨D, w, A, nL, cs, ss, Q⟩⟩ := Γ
  exact fun H locs ls hP hS hl => lv_ishl C.1 C.2.1 hd (k H locs ls hP hS hl)
theorem x_idiv (C : Cx Γ cc own cA fr lo n) {x y : Int32} (hne : ¬ y = 0) (hd : decode cc pc = .ok (.idiv, 1)) (k : Wx Γ σ (pc + 1) L (.int (x / y) :: stk)) : Wx Γ σ pc L (.int y :: .int x :: stk) := by
  obtain ⟨⟨p, l, e, R, s, m, args, below, meth, c⟩, ⟨D, w, A, nL, cs, ss, Q⟩⟩ := Γ
  exact fun H locs ls hP hS hl => lv_idiv C.1 C.2.1 hd hne (k H locs ls hP hS hl)
theorem x_irem (C : Cx Γ cc own cA fr lo n) {x y : Int32} (hne : ¬ y = 0) (hd : decode cc pc = .ok (.irem, 1)) (k : Wx Γ σ (pc + 1) L (.int (rem x y) :: stk)) : Wx Γ σ pc L (.int y :: .int x :: stk) := by
  obtain ⟨⟨p, l, e, R, s, m, args, below, meth, c⟩, ⟨D, w, A, nL, cs, ss, Q⟩⟩ := Γ
  exact fun H locs ls hP hS hl => lv_irem C.1 C.2.1 hd hne (k H locs ls hP hS hl)
theorem x_ineg (C : Cx Γ cc own cA fr lo n) {x : Int32} (hd : decode cc pc = .ok (.ineg, 1)) (k : Wx Γ σ (pc + 1) L (.int (-x) :: stk)) : Wx Γ σ pc L (.int x :: stk) := by
  obtain ⟨⟨p, l, e, R, s, m, args, below, meth, c⟩, ⟨D, w, A, nL, cs, ss, Q⟩⟩ := Γ
  exact fun H locs ls hP hS hl => lv_ineg C.1 C.2.1 hd (k H locs ls hP hS hl)
theorem x_ladd (C : Cx Γ cc own cA fr lo n) {x y : Int64} (hd : decode cc pc = .ok (.ladd, 1)) (k : Wx Γ σ (pc + 1) L (.long (x + y) :: stk)) : Wx Γ σ pc L (.long y :: .long x :: stk) := by
  obtain ⟨⟨p, l, e, R, s, m, args, below, meth, c⟩, ⟨D, w, A, nL, cs, ss, Q⟩⟩ := Γ
  exact fun H locs ls hP hS hl => lv_ladd C.1 C.2.1 hd (k H locs ls hP hS hl)
theorem x_lcmp (C : Cx Γ cc own cA fr lo n) {x y : Int64} (hd : decode cc pc = .ok (.lcmp, 1)) (k : Wx Γ σ (pc + 1) L (.int (lg_cmp x y) :: stk)) : Wx Γ σ pc L (.long y :: .long x :: stk) := by
  obtain ⟨⟨p, l, e, R, s, m, args, below, meth, c⟩, ⟨D, w, A, nL, cs, ss, Q⟩⟩ := Γ
  exact fun H locs ls hP hS hl => W.lcmp C.1 C.2.1 hd (k H locs ls hP hS hl)
theorem x_dup (C : Cx Γ cc own cA fr lo n) {va : Value} (hva : va.category = 1) (hd : decode cc pc = .ok (.dup, 1)) (k : Wx Γ σ (pc + 1) L (va :: va :: stk)) : Wx Γ σ pc L (va :: stk) := by
  obtain ⟨⟨p, l, e, R, s, m, args, below, meth, c⟩, ⟨D, w, A, nL, cs, ss, Q⟩⟩ := Γ
  exact fun H locs ls hP hS hl => lv_dup C.1 C.2.1 hd hva (k H locs ls hP hS hl)
theorem x_dup_x1 (C : Cx Γ cc own cA fr lo n) {va vb : Value} (hva : va.category = 1) (hvb : vb.category = 1) (hd : decode cc pc = .ok (.dup_x1, 1)) (k : Wx Γ σ (pc + 1) L (va :: vb :: va :: stk)) : Wx Γ σ pc L (va :: vb :: stk) := by
  obtain ⟨⟨p, l, e, R, s, m, args, below, meth, c⟩, ⟨D, w, A, nL, cs, ss, Q⟩⟩ := Γ
  exact fun H locs ls hP hS hl => lv_dup_x1 C.1 C.2.1 hd hva hvb (k H locs ls hP hS hl)
theorem x_dup2_11 (C : Cx Γ cc own cA fr lo n) {va vb : Value} (hva : va.category = 1) (hvb : vb.category = 1) (hd : decode cc pc = .ok (.dup2, 1)) (k : Wx Γ σ (pc + 1) L (va :: vb :: va :: vb :: stk)) : Wx Γ σ pc L (va :: vb :: stk) := by
  obtain ⟨⟨p, l, e, R, s, m, args, below, meth, c⟩, ⟨D, w, A, nL, cs, ss, Q⟩⟩ := Γ
  exact fun H locs ls hP hS hl => lv_dup2_11 C.1 C.2.1 hd hva hvb (k H locs ls hP hS hl)
theorem x_pop (C : Cx Γ cc own cA fr lo n) {va : Value} (hva : va.category = 1) (hd : decode cc pc = .ok (.pop, 1)) (k : Wx Γ σ (pc + 1) L (stk)) : Wx Γ σ pc L (va :: stk) := by
  obtain ⟨⟨p, l, e, R, s, m, args, below, meth, c⟩, ⟨D, w, A, nL, cs, ss, Q⟩⟩ := Γ
  exact fun H locs ls hP hS hl => lv_pop C.1 C.2.1 hd hva (k H locs ls hP hS hl)
theorem x_icmp_eq (C : Cx Γ cc own cA fr lo n) {x y : Int32} {off : Int} {tgt : Nat} {X Y : Option α} (hd : decode cc pc = .ok (.if_icmp .eq off, 3)) (ht : (pc : Int) + off = (tgt : Int)) (h : (if x = y then X else Y) = some o) (kt : X = some o → Wx Γ σ tgt L stk) (kf : Y = some o → Wx Γ σ (pc + 3) L stk) : Wx Γ σ pc L (.int y :: .int x :: stk) := by
  obtain ⟨⟨p, l, e, R, s, m, args, below, meth, c⟩, ⟨D, w, A, nL, cs, ss, Q⟩⟩ := Γ
  exact fun H locs ls hP hS hl => lv_icmp_eq C.1 C.2.1 hd ht (fun q => kt ((if_pos q).symm.trans h) H locs ls hP hS hl) (fun q => kf ((if_neg q).symm.trans h) H locs ls hP hS hl)
theorem x_if_eq (C : Cx Γ cc own cA fr lo n) {x : Int32} {off : Int} {tgt : Nat} {X Y : Option α} (hd : decode cc pc = .ok (.ifCond .eq off, 3)) (ht : (pc : Int) + off = (tgt : Int)) (h : (if x = 0 then X else Y) = some o) (kt : X = some o → Wx Γ σ tgt L stk) (kf : Y = some o → Wx Γ σ (pc + 3) L stk) : Wx Γ σ pc L (.int x :: stk) := by
  obtain ⟨⟨p, l, e, R, s, m, args, below, meth, c⟩, ⟨D, w, A, nL, cs, ss, Q⟩⟩ := Γ
  exact fun H locs ls hP hS hl => lv_if_eq C.1 C.2.1 hd ht (fun q => kt ((if_pos q).symm.trans h) H locs ls hP hS hl) (fun q => kf ((if_neg q).symm.trans h) H locs ls hP hS hl)
theorem x_icmp_ne (C : Cx Γ cc own cA fr lo n) {x y : Int32} {off : Int} {tgt : Nat} {X Y : Option α} (hd : decode cc pc = .ok (.if_icmp .ne off, 3)) (ht : (pc : Int) + off = (tgt : Int)) (h : (if x = y then Y else X) = some o) (kt : X = some o → Wx Γ σ tgt L stk) (kf : Y = some o → Wx Γ σ (pc + 3) L stk) : Wx Γ σ pc L (.int y :: .int x :: stk) := by
  obtain ⟨⟨p, l, e, R, s, m, args, below, meth, c⟩, ⟨D, w, A, nL, cs, ss, Q⟩⟩ := Γ
  exact fun H locs ls hP hS hl => lv_icmp_ne C.1 C.2.1 hd ht (fun q => kt ((if_neg q).symm.trans h) H locs ls hP hS hl) (fun q => kf ((if_pos q).symm.trans h) H locs ls hP hS hl)
theorem x_if_ne (C : Cx Γ cc own cA fr lo n) {x : Int32} {off : Int} {tgt : Nat} {X Y : Option α} (hd : decode cc pc = .ok (.ifCond .ne off, 3)) (ht : (pc : Int) + off = (tgt : Int)) (h : (if x = 0 then Y else X) = some o) (kt : X = some o → Wx Γ σ tgt L stk) (kf : Y = some o → Wx Γ σ (pc + 3) L stk) : Wx Γ σ pc L (.int x :: stk) := by
  obtain ⟨⟨p, l, e, R, s, m, args, below, meth, c⟩, ⟨D, w, A, nL, cs, ss, Q⟩⟩ := Γ
  exact fun H locs ls hP hS hl => lv_if_ne C.1 C.2.1 hd ht (fun q => kt ((if_neg q).symm.trans h) H locs ls hP hS hl) (fun q => kf ((if_pos q).symm.trans h) H locs ls hP hS hl)
theorem x_icmp_lt (C : Cx Γ cc own cA fr lo n) {x y : Int32} {off : Int} {tgt : Nat} {X Y : Option α} (hd : decode cc pc = .ok (.if_icmp .lt off, 3)) (ht : (pc : Int) + off = (tgt : Int)) (h : (if x < y then X else Y) = some o) (kt : X = some o → Wx Γ σ tgt L stk) (kf : Y = some o → Wx Γ σ (pc + 3) L stk) : Wx Γ σ pc L (.int y :: .int x :: stk) := by
  obtain ⟨⟨p, l, e, R, s, m, args, below, meth, c⟩, ⟨D, w, A, nL, cs, ss, Q⟩⟩ := Γ
  exact fun H locs ls hP hS hl => lv_icmp_lt C.1 C.2.1 hd ht (fun q => kt ((if_pos q).symm.trans h) H locs ls hP hS hl) (fun q => kf ((if_neg q).symm.trans h) H locs ls hP hS hl)
theorem x_if_lt (C : Cx Γ cc own cA fr lo n) {x : Int32} {off : Int} {tgt : Nat} {X Y : Option α} (hd : decode cc pc = .ok (.ifCond .lt off, 3)) (ht : (pc : Int) + off = (tgt : Int)) (h : (if x < 0 then X else Y) = some o) (kt : X = some o → Wx Γ σ tgt L stk) (kf : Y = some o → Wx Γ σ (pc + 3) L stk) : Wx Γ σ pc L (.int x :: stk) := by
  obtain ⟨⟨p, l, e, R, s, m, args, below, meth, c⟩, ⟨D, w, A, nL, cs, ss, Q⟩⟩ := Γ
  exact fun H locs ls hP hS hl => lv_if_lt C.1 C.2.1 hd ht (fun q => kt ((if_pos q).symm.trans h) H locs ls hP hS hl) (fun q => kf ((if_neg q).symm.trans h) H locs ls hP hS hl)
theorem x_icmp_ge (C : Cx Γ cc own cA fr lo n) {x y : Int32} {off : Int} {tgt : Nat} {X Y : Option α} (hd : decode cc pc = .ok (.if_icmp .ge off, 3)) (ht : (pc : Int) + off = (tgt : Int)) (h : (if y ≤ x then X else Y) = some o) (kt : X = some o → Wx Γ σ tgt L stk) (kf : Y = some o → Wx Γ σ (pc + 3) L stk) : Wx Γ σ pc L (.int y :: .int x :: stk) := by
  obtain ⟨⟨p, l, e, R, s, m, args, below, meth, c⟩, ⟨D, w, A, nL, cs, ss, Q⟩⟩ := Γ
  exact fun H locs ls hP hS hl => lv_icmp_ge C.1 C.2.1 hd ht (fun q => kt ((if_pos q).symm.trans h) H locs ls hP hS hl) (fun q => kf ((if_neg q).symm.trans h) H locs ls hP hS hl)
theorem x_if_ge (C : Cx Γ cc own cA fr lo n) {x : Int32} {off : Int} {tgt : Nat} {X Y : Option α} (hd : decode cc pc = .ok (.ifCond .ge off, 3)) (ht : (pc : Int) + off = (tgt : Int)) (h : (if 0 ≤ x then X else Y) = some o) (kt : X = some o → Wx Γ σ tgt L stk) (kf : Y = some o → Wx Γ σ (pc + 3) L stk) : Wx Γ σ pc L (.int x :: stk) := by
  obtain ⟨⟨p, l, e, R, s, m, args, below, meth, c⟩, ⟨D, w, A, nL, cs, ss, Q⟩⟩ := Γ
  exact fun H locs ls hP hS hl => lv_if_ge C.1 C.2.1 hd ht (fun q => kt ((if_pos q).symm.trans h) H locs ls hP hS hl) (fun q => kf ((if_neg q).symm.trans h) H locs ls hP hS hl)
theorem x_icmp_gt (C : Cx Γ cc own cA fr lo n) {x y : Int32} {off : Int} {tgt : Nat} {X Y : Option α} (hd : decode cc pc = .ok (.if_icmp .gt off, 3)) (ht : (pc : Int) + off = (tgt : Int)) (h : (if y < x then X else Y) = some o) (kt : X = some o → Wx Γ σ tgt L stk) (kf : Y = some o → Wx Γ σ (pc + 3) L stk) : Wx Γ σ pc L (.int y :: .int x :: stk) := by
  obtain ⟨⟨p, l, e, R, s, m, args, below, meth, c⟩, ⟨D, w, A, nL, cs, ss, Q⟩⟩ := Γ
  exact fun H locs ls hP hS hl => lv_icmp_gt C.1 C.2.1 hd ht (fun q => kt ((if_pos q).symm.trans h) H locs ls hP hS hl) (fun q => kf ((if_neg q).symm.trans h) H locs ls hP hS hl)
theorem x_if_gt (C : Cx Γ cc own cA fr lo n) {x : Int32} {off : Int} {tgt : Nat} {X Y : Option α} (hd : decode cc pc = .ok (.ifCond .gt off, 3)) (ht : (pc : Int) + off = (tgt : Int)) (h : (if 0 < x then X else Y) = some o) (kt : X = some o → Wx Γ σ tgt L stk) (kf : Y = some o → Wx Γ σ (pc + 3) L stk) : Wx Γ σ pc L (.int x :: stk) := by
  obtain ⟨⟨p, l, e, R, s, m, args, below, meth, c⟩, ⟨D, w, A, nL, cs, ss, Q⟩⟩ := Γ
  exact fun H locs ls hP hS hl => lv_if_gt C.1 C.2.1 hd ht (fun q => kt ((if_pos q).symm.trans h) H locs ls hP hS hl) (fun q => kf ((if_neg q).symm.trans h) H locs ls hP hS hl)
theorem x_icmp_le (C : Cx Γ cc own cA fr lo n) {x y : Int32} {off : Int} {tgt : Nat} {X Y : Option α} (hd : decode cc pc = .ok (.if_icmp .le off, 3)) (ht : (pc : Int) + off = (tgt : Int)) (h : (if x ≤ y then X else Y) = some o) (kt : X = some o → Wx Γ σ tgt L stk) (kf : Y = some o → Wx Γ σ (pc + 3) L stk) : Wx Γ σ pc L (.int y :: .int x :: stk) := by
  obtain ⟨⟨p, l, e, R, s, m, args, below, meth, c⟩, ⟨D, w, A, nL, cs, ss, Q⟩⟩ := Γ
  exact fun H locs ls hP hS hl => lv_icmp_le C.1 C.2.1 hd ht (fun q => kt ((if_pos q).symm.trans h) H locs ls hP hS hl) (fun q => kf ((if_neg q).symm.trans h) H locs ls hP hS hl)
theorem x_if_le (C : Cx Γ cc own cA fr lo n) {x : Int32} {off : Int} {tgt : Nat} {X Y : Option α} (hd : decode cc pc = .ok (.ifCond .le off, 3)) (ht : (pc : Int) + off = (tgt : Int)) (h : (if x ≤ 0 then X else Y) = some o) (kt : X = some o → Wx Γ σ tgt L stk) (kf : Y = some o → Wx Γ σ (pc + 3) L stk) : Wx Γ σ pc L (.int x :: stk) := by
  obtain ⟨⟨p, l, e, R, s, m, args, below, meth, c⟩, ⟨D, w, A, nL, cs, ss, Q⟩⟩ := Γ
  exact fun H locs ls hP hS hl => lv_if_le C.1 C.2.1 hd ht (fun q => kt ((if_pos q).symm.trans h) H locs ls hP hS hl) (fun q => kf ((if_neg q).symm.trans h) H locs ls hP hS hl)
theorem x_goto (C : Cx Γ cc own cA fr lo n) {off : Int} {tgt : Nat} (hd : decode cc pc = .ok (.goto off, 3)) (ht : (pc : Int) + off = (tgt : Int)) (k : Wx Γ σ tgt L stk) : Wx Γ σ pc L stk := by
  obtain ⟨⟨p, l, e, R, s, m, args, below, meth, c⟩, ⟨D, w, A, nL, cs, ss, Q⟩⟩ := Γ
  exact fun H locs ls hP hS hl => lv_goto C.1 C.2.1 hd ht (k H locs ls hP hS hl)
theorem x_case (v : Int32) {x : Int32} {X Y : Option α} (h : (if x = v then X else Y) = some o) (kt : x = v → X = some o → Wx Γ σ pc L (.int x :: stk)) (kf : ¬ x = v → Y = some o → Wx Γ σ pc L (.int x :: stk)) : Wx Γ σ pc L (.int x :: stk) := by
  by_cases q : x = v
  · exact kt q ((if_pos q).symm.trans h)
  · exact kf q ((if_neg q).symm.trans h)
theorem x_tab (C : Cx Γ cc own cA fr lo n) {dflt lo' hi off : Int} {offs : Array Int} {len tgt : Nat} {x v : Int32} (hd : decode cc pc = .ok (.tableswitch dflt lo' hi offs, len)) (hx : x = v) (h1 : ¬ v.toInt < lo') (h2 : ¬ hi < v.toInt) (ho : offs[(v.toInt - lo').toNat]? = some off) (ht : (pc : Int) + off = (tgt : Int)) (k : Wx Γ σ tgt L stk) : Wx Γ σ pc L (.int x :: stk) := by
  obtain ⟨⟨p, l, e, R, s, m, args, below, meth, c⟩, ⟨D, w, A, nL, cs, ss, Q⟩⟩ := Γ
  subst hx
  exact fun H locs ls hP hS hl => lv_tableIn C.1 C.2.1 hd h1 h2 ho ht (k H locs ls hP hS hl)
theorem x_tabD (C : Cx Γ cc own cA fr lo n) {dflt lo' hi : Int} {offs : Array Int} {len tgt : Nat} {x : Int32} (hd : decode cc pc = .ok (.tableswitch dflt lo' hi offs, len)) (h : x.toInt < lo' ∨ hi < x.toInt) (ht : (pc : Int) + dflt = (tgt : Int)) (k : Wx Γ σ tgt L stk) : Wx Γ σ pc L (.int x :: stk) := by
  obtain ⟨⟨p, l, e, R, s, m, args, below, meth, c⟩, ⟨D, w, A, nL, cs, ss, Q⟩⟩ := Γ
  exact fun H locs ls hP hS hl => lv_tableOut C.1 C.2.1 hd h ht (k H locs ls hP hS hl)
theorem x_lks (C : Cx Γ cc own cA fr lo n) {dflt off : Int} {ps : Array (Int × Int)} {len tgt : Nat} {x : Int32} (hd : decode cc pc = .ok (.lookupswitch dflt ps, len)) (hp : (ps.toList.zip (ps.toList.drop 1)).all (fun (a, next) => a.1 < next.1) = true) (ho : Op.lookupswitch.offset ps.toList dflt x.toInt = off) (ht : (pc : Int) + off = (tgt : Int)) (k : Wx Γ σ tgt L stk) : Wx Γ σ pc L (.int x :: stk) := by
  obtain ⟨⟨p, l, e, R, s, m, args, below, meth, c⟩, ⟨D, w, A, nL, cs, ss, Q⟩⟩ := Γ
  exact fun H locs ls hP hS hl => lv_lookup C.1 C.2.1 hd hp ho ht (k H locs ls hP hS hl)
theorem x_mmax (C : Cx Γ cc own cA fr lo n) {x y : Int32} {i : Nat} (hu : Cond.methodLink own i Lib.Math.max.name ∈ UW) (hd : decode cc pc = .ok (.invokestatic i, 3)) (hf : 1 ≤ fr) (hs : (stk.map fun v => v.category).sum + 13 ≤ lo) (k : Wx Γ σ (pc + 3) L (.int (mx x y) :: stk)) : Wx Γ σ pc L (.int y :: .int x :: stk) := by
  obtain ⟨⟨p, l, e, R, s, m, args, below, meth, c⟩, ⟨D, w, A, nL, cs, ss, Q⟩⟩ := Γ
  obtain ⟨hx, hb, hml, hn, hown, hts, hK, hD, hN, hA, h1, h2, h3, h4⟩ := C
  exact fun H locs ls hP hS hl => va_mmax hx hb (hml.trans hl.1.symm) hown (hts _ hu) (hts _ ut_maxM) (hts _ un_J9) (hts _ uc_maxM) (by omega) (by omega) h3 h4 hd (k H locs ls hP hS hl)
theorem x_mmin (C : Cx Γ cc own cA fr lo n) {x y : Int32} {i : Nat} (hu : Cond.methodLink own i Lib.Math.min.name ∈ UW) (hd : decode cc pc = .ok (.invokestatic i, 3)) (hf : 1 ≤ fr) (hs : (stk.map fun v => v.category).sum + 13 ≤ lo) (k : Wx Γ σ (pc + 3) L (.int (mn x y) :: stk)) : Wx Γ σ pc L (.int y :: .int x :: stk) := by
  obtain ⟨⟨p, l, e, R, s, m, args, below, meth, c⟩, ⟨D, w, A, nL, cs, ss, Q⟩⟩ := Γ
  obtain ⟨hx, hb, hml, hn, hown, hts, hK, hD, hN, hA, h1, h2, h3, h4⟩ := C
  exact fun H locs ls hP hS hl => va_mmin hx hb (hml.trans hl.1.symm) hown (hts _ hu) (hts _ ut_minM) (hts _ un_J9) (hts _ uc_minM) (by omega) (by omega) h3 h4 hd (k H locs ls hP hS hl)
end XA
/-! OVER A LAYOUT -/
/-- as Cx, the state laid out by shapes; and what the method's end must be -/
def Cm (Γ : Gx St) (cc : ByteArray) (own : String) (cA : Nat → ClassId) (fr lo n : Nat) (l : Launch) (D : va_G) (π : Nat → Nat) (shs : List Sh) (rt : Option FieldType) (O : Option Value × St) : Prop := Cx Γ cc own cA fr lo n ∧ Γ.1.2.1 = l ∧ Γ.2.1 = D ∧ Γ.2.2.1 = lay cA π shs ∧ (match Γ with
  | ((_, _, _, _, s, _, args, below, meth, _), (D, w, A, _, cs, ss, Q)) => meth.sig.returnType = rt ∧ meth.locks = false ∧ ∃ (Qc : Array Value → State → Outcome → State → Prop) (free : Addr → Prop), Q = MQ below Qc args s cs ss free ∧ (∀ q, A q → free q) ∧ ∀ (t : State) (H : Heap) (locs : List Loc), t.heap = H → s.WarmedH t.vm → va_P D vwCl (w O.2) H → va_S A s.heap H locs → Qc args s (.returned O.1) t)
section XM
variable {Γ : Gx St} {cc : ByteArray} {own : String} {cA : Nat → ClassId} {fr lo n : Nat} {l : Launch} {D : va_G} {π : Nat → Nat} {shs : List Sh} {rt : Option FieldType} {O : Option Value × St} {σ : St} {pc : Nat} {L L' : List (Nat × Value)} {stk : List Value} {α : Type} {o : α}
theorem x_geti (C : Cm Γ cc own cA fr lo n l D π shs rt O) {C' : String} {T : u_T} {N ci i j : Nat} {fks : List Nat} {k : Nat} (hu : Cond.fieldLink own i C' (T j).2.1 (T j).2.2.1 ∈ UW) (hin : ∀ w ∈ u_ws C' T N, w ∈ UW) (hc : vwCl[ci]? = some (C', T, N)) (hj : j < N) (hT : (T j).1 = C') (hsh : shs[k]? = some (.inl (ci, fks))) (hfk : fks[j]? = some 0) (hd : decode cc pc = .ok (.getfield i, 3)) (kk : Wx Γ σ (pc + 3) L (.int (σ.1 k j) :: stk)) : Wx Γ σ pc L (.ref (π k) :: stk) := by
  obtain ⟨⟨p, l', e, R, s, m, args, below, meth, c⟩, ⟨D', w, A, nL, cs, ss, Q⟩⟩ := Γ
  obtain ⟨⟨hx, hb, hml, hn, hown, hts, hK, hD, hN, hA, h1, h2, h3, h4⟩, e1, e2, e3, hr, hlk, hE⟩ := C
  dsimp only at e1 e2 e3
  subst e1; subst e2; subst e3
  intro H locs ls hP hS hl
  refine va_get hx hb hts hin hown hK hP k (lay_at hsh) hc j hj (hts _ hu) (fun x h => by rw [← hT]; exact h) (v := .int (σ.1 k j)) ?_ hd (kk H locs ls hP hS hl)
  show (fks.mapIdx _)[j]? = _
  rw [List.getElem?_mapIdx, hfk]; rfl
theorem x_getiN (C : Cm Γ cc own cA fr lo n l D π shs rt O) {C' : String} {T : u_T} {N ci i j : Nat} {fks : List Nat} {k : Nat} {host : String} (hu : ∀ U, NW U → va_Nw (Cond.fieldLinkNest own i C' (T j).2.1 (T j).2.2.1 host) U) (hin : ∀ w ∈ u_ws C' T N, w ∈ UW) (hc : vwCl[ci]? = some (C', T, N)) (hj : j < N) (hT : (T j).1 = C') (hsh : shs[k]? = some (.inl (ci, fks))) (hfk : fks[j]? = some 0) (hd : decode cc pc = .ok (.getfield i, 3)) (kk : Wx Γ σ (pc + 3) L (.int (σ.1 k j) :: stk)) : Wx Γ σ pc L (.ref (π k) :: stk) := by
  obtain ⟨⟨p, l', e, R, s, m, args, below, meth, c⟩, ⟨D', w, A, nL, cs, ss, Q⟩⟩ := Γ
  obtain ⟨⟨hx, hb, hml, hn, hown, hts, hK, hD, hN, hA, h1, h2, h3, h4⟩, e1, e2, e3, hr, hlk, hE⟩ := C
  dsimp only at e1 e2 e3
  subst e1; subst e2; subst e3
  intro H locs ls hP hS hl
  refine va_getN hx hb hts hin hown hK hP k (lay_at hsh) hc j hj (va_Nw.use rfl (hu _ hN)) (fun x h => by rw [← hT]; exact h) (v := .int (σ.1 k j)) ?_ hd (kk H locs ls hP hS hl)
  show (fks.mapIdx _)[j]? = _
  rw [List.getElem?_mapIdx, hfk]; rfl
theorem x_getr (C : Cm Γ cc own cA fr lo n l D π shs rt O) {C' : String} {T : u_T} {N ci i j : Nat} {fks : List Nat} {k : Nat} {d : Nat} (hu : Cond.fieldLink own i C' (T j).2.1 (T j).2.2.1 ∈ UW) (hin : ∀ w ∈ u_ws C' T N, w ∈ UW) (hc : vwCl[ci]? = some (C', T, N)) (hj : j < N) (hT : (T j).1 = C') (hsh : shs[k]? = some (.inl (ci, fks))) (hfk : fks[j]? = some (d + 3)) (hd : decode cc pc = .ok (.getfield i, 3)) (kk : Wx Γ σ (pc + 3) L (.ref (π (k + d)) :: stk)) : Wx Γ σ pc L (.ref (π k) :: stk) := by
  obtain ⟨⟨p, l', e, R, s, m, args, below, meth, c⟩, ⟨D', w, A, nL, cs, ss, Q⟩⟩ := Γ
  obtain ⟨⟨hx, hb, hml, hn, hown, hts, hK, hD, hN, hA, h1, h2, h3, h4⟩, e1, e2, e3, hr, hlk, hE⟩ := C
  dsimp only at e1 e2 e3
  subst e1; subst e2; subst e3
  intro H locs ls hP hS hl
  refine va_get hx hb hts hin hown hK hP k (lay_at hsh) hc j hj (hts _ hu) (fun x h => by rw [← hT]; exact h) (v := .ref (π (k + d))) ?_ hd (kk H locs ls hP hS hl)
  show (fks.mapIdx _)[j]? = _
  rw [List.getElem?_mapIdx, hfk]; rfl
theorem x_getrN (C : Cm Γ cc own cA fr lo n l D π shs rt O) {C' : String} {T : u_T} {N ci i j : Nat} {fks : List Nat} {k : Nat} {d : Nat} {host : String} (hu : ∀ U, NW U → va_Nw (Cond.fieldLinkNest own i C' (T j).2.1 (T j).2.2.1 host) U) (hin : ∀ w ∈ u_ws C' T N, w ∈ UW) (hc : vwCl[ci]? = some (C', T, N)) (hj : j < N) (hT : (T j).1 = C') (hsh : shs[k]? = some (.inl (ci, fks))) (hfk : fks[j]? = some (d + 3)) (hd : decode cc pc = .ok (.getfield i, 3)) (kk : Wx Γ σ (pc + 3) L (.ref (π (k + d)) :: stk)) : Wx Γ σ pc L (.ref (π k) :: stk) := by
  obtain ⟨⟨p, l', e, R, s, m, args, below, meth, c⟩, ⟨D', w, A, nL, cs, ss, Q⟩⟩ := Γ
  obtain ⟨⟨hx, hb, hml, hn, hown, hts, hK, hD, hN, hA, h1, h2, h3, h4⟩, e1, e2, e3, hr, hlk, hE⟩ := C
  dsimp only at e1 e2 e3
  subst e1; subst e2; subst e3
  intro H locs ls hP hS hl
  refine va_getN hx hb hts hin hown hK hP k (lay_at hsh) hc j hj (va_Nw.use rfl (hu _ hN)) (fun x h => by rw [← hT]; exact h) (v := .ref (π (k + d))) ?_ hd (kk H locs ls hP hS hl)
  show (fks.mapIdx _)[j]? = _
  rw [List.getElem?_mapIdx, hfk]; rfl
theorem x_getl (C : Cm Γ cc own cA fr lo n l D π shs rt O) {C' : String} {T : u_T} {N ci i j : Nat} {fks : List Nat} {k : Nat} (hu : Cond.fieldLink own i C' (T j).2.1 (T j).2.2.1 ∈ UW) (hin : ∀ w ∈ u_ws C' T N, w ∈ UW) (hc : vwCl[ci]? = some (C', T, N)) (hj : j < N) (hT : (T j).1 = C') (hsh : shs[k]? = some (.inl (ci, fks))) (hfk : fks[j]? = some 1) (hd : decode cc pc = .ok (.getfield i, 3)) (kk : Wx Γ σ (pc + 3) L (.long σ.2 :: stk)) : Wx Γ σ pc L (.ref (π k) :: stk) := by
  obtain ⟨⟨p, l', e, R, s, m, args, below, meth, c⟩, ⟨D', w, A, nL, cs, ss, Q⟩⟩ := Γ
  obtain ⟨⟨hx, hb, hml, hn, hown, hts, hK, hD, hN, hA, h1, h2, h3, h4⟩, e1, e2, e3, hr, hlk, hE⟩ := C
  dsimp only at e1 e2 e3
  subst e1; subst e2; subst e3
  intro H locs ls hP hS hl
  refine va_get hx hb hts hin hown hK hP k (lay_at hsh) hc j hj (hts _ hu) (fun x h => by rw [← hT]; exact h) (v := .long σ.2) ?_ hd (kk H locs ls hP hS hl)
  show (fks.mapIdx _)[j]? = _
  rw [List.getElem?_mapIdx, hfk]; rfl
theorem x_getd (C : Cm Γ cc own cA fr lo n l D π shs rt O) {C' : String} {T : u_T} {N ci i j : Nat} {fks : List Nat} {k : Nat} (hu : Cond.fieldLink own i C' (T j).2.1 (T j).2.2.1 ∈ UW) (hin : ∀ w ∈ u_ws C' T N, w ∈ UW) (hc : vwCl[ci]? = some (C', T, N)) (hj : j < N) (hT : (T j).1 = C') (hsh : shs[k]? = some (.inl (ci, fks))) (hfk : fks[j]? = some 2) (hd : decode cc pc = .ok (.getfield i, 3)) (kk : Wx Γ σ (pc + 3) L (.ref (π (ix (σ.1 k j))) :: stk)) : Wx Γ σ pc L (.ref (π k) :: stk) := by
  obtain ⟨⟨p, l', e, R, s, m, args, below, meth, c⟩, ⟨D', w, A, nL, cs, ss, Q⟩⟩ := Γ
  obtain ⟨⟨hx, hb, hml, hn, hown, hts, hK, hD, hN, hA, h1, h2, h3, h4⟩, e1, e2, e3, hr, hlk, hE⟩ := C
  dsimp only at e1 e2 e3
  subst e1; subst e2; subst e3
  intro H locs ls hP hS hl
  refine va_get hx hb hts hin hown hK hP k (lay_at hsh) hc j hj (hts _ hu) (fun x h => by rw [← hT]; exact h) (v := .ref (π (ix (σ.1 k j)))) ?_ hd (kk H locs ls hP hS hl)
  show (fks.mapIdx _)[j]? = _
  rw [List.getElem?_mapIdx, hfk]; rfl
theorem x_puti (C : Cm Γ cc own cA fr lo n l D π shs rt O) {C' : String} {T : u_T} {N ci i j : Nat} {fks : List Nat} {k : Nat} (hu : Cond.fieldLink own i C' (T j).2.1 (T j).2.2.1 ∈ UW) (hin : ∀ w ∈ u_ws C' T N, w ∈ UW) (ty0 : Nat → FieldType) (hty : ∀ k, k < N → parseFieldDescriptor (T k).2.2.1 = some (ty0 k)) (hnm : ∀ a, a < N → ∀ b, b < N → a ≠ b → (T a).2.1 ≠ (T b).2.1) (hc : vwCl[ci]? = some (C', T, N)) (hj : j < N) (hT : (T j).1 = C') (hf : (T j).2.2.2 = false) (hde : parseFieldDescriptor (T j).2.2.1 = some .int) (hsh : shs[k]? = some (.inl (ci, fks))) (hfk : fks[j]? = some 0) {v : Int32} {F : St → Option α} (hd : decode cc pc = .ok (.putfield i, 3)) (h : lt (put σ k j v) F = some o) (kk : ∀ σ', F σ' = some o → Wx Γ σ' (pc + 3) L stk) : Wx Γ σ pc L (.int v :: .ref (π k) :: stk) := by
  obtain ⟨⟨p, l', e, R, s, m, args, below, meth, c⟩, ⟨D', w, A, nL, cs, ss, Q⟩⟩ := Γ
  obtain ⟨⟨hx, hb, hml, hn, hown, hts, hK, hD, hN, hA, h1, h2, h3, h4⟩, e1, e2, e3, hr, hlk, hE⟩ := C
  dsimp only at e1 e2 e3
  subst e1; subst e2; subst e3
  intro H locs ls hP hS hl
  have hjl : j < (fks.mapIdx (fun j fk => fkv π σ k j fk)).length := by rw [List.length_mapIdx]; exact (List.getElem?_eq_some_iff.mp hfk).1
  refine va_put hx hb hts hin ty0 hty hnm hown hK hP (hD σ) hS k (lay_at hsh) hc j hj (hts _ hu) (fun x h => by rw [← hT]; exact h) hf hde rfl rfl hjl hd (fun H1 locs1 hP1 hD1 hS1 => ?_)
  have he : (lay cA π shs σ).set k (π k, .inr (ci, (fks.mapIdx (fun j fk => fkv π σ k j fk)).set j (.int v))) = lay cA π shs (put σ k j v) := by
    refine lay_set hsh ?_ (fun k' hk' sh' hs' => ?_)
    · show Sum.inr (ci, fks.mapIdx _) = Sum.inr (ci, (fks.mapIdx _).set j _)
      congr 2
      apply List.ext_getElem?
      intro a
      by_cases ha : a = j
      · subst ha
        rw [List.getElem?_set_self hjl, List.getElem?_mapIdx, hfk]
        show some (fkv _ _ _ _ _) = _
        show some (Value.int ((put σ k a v).1 k a)) = _
        rw [put_eq, pk_us]
      · rw [List.getElem?_set_ne (Ne.symm ha), List.getElem?_mapIdx, List.getElem?_mapIdx]
        congr 1
        funext fk
        unfold fkv
        rw [put_eq, pk_un ha]; rfl
    · exact cellv_ne (put_ne hk') rfl
  rw [he] at hP1
  exact kk _ h H1 locs1 ls hP1 hS1 hl
theorem x_putz (C : Cm Γ cc own cA fr lo n l D π shs rt O) {C' : String} {T : u_T} {N ci i j : Nat} {fks : List Nat} {k : Nat} (hu : Cond.fieldLink own i C' (T j).2.1 (T j).2.2.1 ∈ UW) (hin : ∀ w ∈ u_ws C' T N, w ∈ UW) (ty0 : Nat → FieldType) (hty : ∀ k, k < N → parseFieldDescriptor (T k).2.2.1 = some (ty0 k)) (hnm : ∀ a, a < N → ∀ b, b < N → a ≠ b → (T a).2.1 ≠ (T b).2.1) (hc : vwCl[ci]? = some (C', T, N)) (hj : j < N) (hT : (T j).1 = C') (hf : (T j).2.2.2 = false) (hde : parseFieldDescriptor (T j).2.2.1 = some .boolean) (hsh : shs[k]? = some (.inl (ci, fks))) (hfk : fks[j]? = some 0) {v : Int32} (hz : v = 0 ∨ v = 1) {F : St → Option α} (hd : decode cc pc = .ok (.putfield i, 3)) (h : lt (put σ k j v) F = some o) (kk : ∀ σ', F σ' = some o → Wx Γ σ' (pc + 3) L stk) : Wx Γ σ pc L (.int v :: .ref (π k) :: stk) := by
  obtain ⟨⟨p, l', e, R, s, m, args, below, meth, c⟩, ⟨D', w, A, nL, cs, ss, Q⟩⟩ := Γ
  obtain ⟨⟨hx, hb, hml, hn, hown, hts, hK, hD, hN, hA, h1, h2, h3, h4⟩, e1, e2, e3, hr, hlk, hE⟩ := C
  dsimp only at e1 e2 e3
  subst e1; subst e2; subst e3
  intro H locs ls hP hS hl
  have hjl : j < (fks.mapIdx (fun j fk => fkv π σ k j fk)).length := by rw [List.length_mapIdx]; exact (List.getElem?_eq_some_iff.mp hfk).1
  refine va_put hx hb hts hin ty0 hty hnm hown hK hP (hD σ) hS k (lay_at hsh) hc j hj (hts _ hu) (fun x h => by rw [← hT]; exact h) hf hde (by rcases hz with rfl | rfl <;> rfl) (by rcases hz with rfl | rfl <;> rfl) hjl hd (fun H1 locs1 hP1 hD1 hS1 => ?_)
  have he : (lay cA π shs σ).set k (π k, .inr (ci, (fks.mapIdx (fun j fk => fkv π σ k j fk)).set j (.int v))) = lay cA π shs (put σ k j v) := by
    refine lay_set hsh ?_ (fun k' hk' sh' hs' => ?_)
    · show Sum.inr (ci, fks.mapIdx _) = Sum.inr (ci, (fks.mapIdx _).set j _)
      congr 2
      apply List.ext_getElem?
      intro a
      by_cases ha : a = j
      · subst ha
        rw [List.getElem?_set_self hjl, List.getElem?_mapIdx, hfk]
        show some (fkv _ _ _ _ _) = _
        show some (Value.int ((put σ k a v).1 k a)) = _
        rw [put_eq, pk_us]
      · rw [List.getElem?_set_ne (Ne.symm ha), List.getElem?_mapIdx, List.getElem?_mapIdx]
        congr 1
        funext fk
        unfold fkv
        rw [put_eq, pk_un ha]; rfl
    · exact cellv_ne (put_ne hk') rfl
  rw [he] at hP1
  exact kk _ h H1 locs1 ls hP1 hS1 hl
theorem x_putd (C : Cm Γ cc own cA fr lo n l D π shs rt O) {C' : String} {T : u_T} {N ci i j : Nat} {fks : List Nat} {k : Nat} {cn : String} (hu : Cond.fieldLink own i C' (T j).2.1 (T j).2.2.1 ∈ UW) (hin : ∀ w ∈ u_ws C' T N, w ∈ UW) (ty0 : Nat → FieldType) (hty : ∀ k, k < N → parseFieldDescriptor (T k).2.2.1 = some (ty0 k)) (hnm : ∀ a, a < N → ∀ b, b < N → a ≠ b → (T a).2.1 ≠ (T b).2.1) (hc : vwCl[ci]? = some (C', T, N)) (hj : j < N) (hT : (T j).1 = C') (hf : (T j).2.2.2 = false) (hde : parseFieldDescriptor (T j).2.2.1 = some (.object cn)) (hsh : shs[k]? = some (.inl (ci, fks))) (hfk : fks[j]? = some 2) {v : Int32} {r : Nat} (hv : ix v = r) {F : St → Option α} (hd : decode cc pc = .ok (.putfield i, 3)) (h : lt (put σ k j v) F = some o) (kk : ∀ σ', F σ' = some o → Wx Γ σ' (pc + 3) L stk) : Wx Γ σ pc L (.ref (π r) :: .ref (π k) :: stk) := by
  obtain ⟨⟨p, l', e, R, s, m, args, below, meth, c⟩, ⟨D', w, A, nL, cs, ss, Q⟩⟩ := Γ
  obtain ⟨⟨hx, hb, hml, hn, hown, hts, hK, hD, hN, hA, h1, h2, h3, h4⟩, e1, e2, e3, hr, hlk, hE⟩ := C
  dsimp only at e1 e2 e3
  subst e1; subst e2; subst e3
  intro H locs ls hP hS hl
  have hjl : j < (fks.mapIdx (fun j fk => fkv π σ k j fk)).length := by rw [List.length_mapIdx]; exact (List.getElem?_eq_some_iff.mp hfk).1
  refine va_put hx hb hts hin ty0 hty hnm hown hK hP (hD σ) hS k (lay_at hsh) hc j hj (hts _ hu) (fun x h => by rw [← hT]; exact h) hf hde rfl rfl hjl hd (fun H1 locs1 hP1 hD1 hS1 => ?_)
  have he : (lay cA π shs σ).set k (π k, .inr (ci, (fks.mapIdx (fun j fk => fkv π σ k j fk)).set j (.ref (π r)))) = lay cA π shs (put σ k j v) := by
    refine lay_set hsh ?_ (fun k' hk' sh' hs' => ?_)
    · show Sum.inr (ci, fks.mapIdx _) = Sum.inr (ci, (fks.mapIdx _).set j _)
      congr 2
      apply List.ext_getElem?
      intro a
      by_cases ha : a = j
      · subst ha
        rw [List.getElem?_set_self hjl, List.getElem?_mapIdx, hfk]
        show some (fkv _ _ _ _ _) = _
        show some (Value.ref (π (ix ((put σ k a v).1 k a)))) = _
        rw [put_eq, pk_us, hv]
      · rw [List.getElem?_set_ne (Ne.symm ha), List.getElem?_mapIdx, List.getElem?_mapIdx]
        congr 1
        funext fk
        unfold fkv
        rw [put_eq, pk_un ha]; rfl
    · exact cellv_ne (put_ne hk') rfl
  rw [he] at hP1
  exact kk _ h H1 locs1 ls hP1 hS1 hl
theorem cellv_long {cA : Nat → ClassId} {π : Nat → Nat} {σ : St} {v : Int64} {k : Nat} {sh : Sh} (h : ∀ (ci : Nat) (fks : List Nat), sh = .inl (ci, fks) → 1 ∉ fks) : cellv cA π (putl σ v) k sh = cellv cA π σ k sh := by
  rcases sh with ⟨ci, fks⟩ | ⟨t, n, d⟩
  · show Sum.inr _ = Sum.inr _
    congr 2
    apply List.ext_getElem?
    intro a
    rw [List.getElem?_mapIdx, List.getElem?_mapIdx]
    cases hf : fks[a]? with
    | none => rfl
    | some fk =>
      show some (fkv _ _ _ _ _) = some (fkv _ _ _ _ _)
      have : fk ≠ 1 := fun q => h ci fks rfl (q ▸ List.mem_of_getElem? hf)
      match fk, this with
      | 0, _ => rfl
      | 2, _ => rfl
      | n + 3, _ => rfl
  · cases d <;> rfl
theorem x_putl (C : Cm Γ cc own cA fr lo n l D π shs rt O) {C' : String} {T : u_T} {N ci i j : Nat} {fks : List Nat} {k : Nat} (hu : Cond.fieldLink own i C' (T j).2.1 (T j).2.2.1 ∈ UW) (hin : ∀ w ∈ u_ws C' T N, w ∈ UW) (ty0 : Nat → FieldType) (hty : ∀ k, k < N → parseFieldDescriptor (T k).2.2.1 = some (ty0 k)) (hnm : ∀ a, a < N → ∀ b, b < N → a ≠ b → (T a).2.1 ≠ (T b).2.1) (hc : vwCl[ci]? = some (C', T, N)) (hj : j < N) (hT : (T j).1 = C') (hf : (T j).2.2.2 = false) (hde : parseFieldDescriptor (T j).2.2.1 = some .long) (hsh : shs[k]? = some (.inl (ci, fks))) (hfk : fks[j]? = some 1) (hone : ∀ a, fks[a]? = some 1 → a = j) (hall : ∀ k', k' ≠ k → ∀ (ci : Nat) (fks : List Nat), shs[k']? = some (.inl (ci, fks)) → 1 ∉ fks) {v : Int64} {F : St → Option α} (hd : decode cc pc = .ok (.putfield i, 3)) (h : lt (putl σ v) F = some o) (kk : ∀ σ', F σ' = some o → Wx Γ σ' (pc + 3) L stk) : Wx Γ σ pc L (.long v :: .ref (π k) :: stk) := by
  obtain ⟨⟨p, l', e, R, s, m, args, below, meth, c⟩, ⟨D', w, A, nL, cs, ss, Q⟩⟩ := Γ
  obtain ⟨⟨hx, hb, hml, hn, hown, hts, hK, hD, hN, hA, h1, h2, h3, h4⟩, e1, e2, e3, hr, hlk, hE⟩ := C
  dsimp only at e1 e2 e3
  subst e1; subst e2; subst e3
  intro H locs ls hP hS hl
  have hjl : j < (fks.mapIdx (fun j fk => fkv π σ k j fk)).length := by rw [List.length_mapIdx]; exact (List.getElem?_eq_some_iff.mp hfk).1
  refine va_put hx hb hts hin ty0 hty hnm hown hK hP (hD σ) hS k (lay_at hsh) hc j hj (hts _ hu) (fun x h => by rw [← hT]; exact h) hf hde rfl rfl hjl hd (fun H1 locs1 hP1 hD1 hS1 => ?_)
  have he : (lay cA π shs σ).set k (π k, .inr (ci, (fks.mapIdx (fun j fk => fkv π σ k j fk)).set j (.long v))) = lay cA π shs (putl σ v) := by
    refine lay_set hsh ?_ (fun k' hk' sh' hs' => ?_)
    · show Sum.inr (ci, fks.mapIdx _) = Sum.inr (ci, (fks.mapIdx _).set j _)
      congr 2
      apply List.ext_getElem?
      intro a
      by_cases ha : a = j
      · subst ha
        rw [List.getElem?_set_self hjl, List.getElem?_mapIdx, hfk]
        rfl
      · rw [List.getElem?_set_ne (Ne.symm ha), List.getElem?_mapIdx, List.getElem?_mapIdx]
        cases hfa : fks[a]? with
        | none => rfl
        | some fk =>
          show some (fkv _ _ _ _ _) = some (fkv _ _ _ _ _)
          have : fk ≠ 1 := fun q => ha (hone a (q ▸ hfa))
          match fk, this with
          | 0, _ => rfl
          | 2, _ => rfl
          | n + 3, _ => rfl
    · exact cellv_long (fun ci fks q => hall k' hk' ci fks (q ▸ hs'))
  rw [he] at hP1
  exact kk _ h H1 locs1 ls hP1 hS1 hl
theorem x_iald (C : Cm Γ cc own cA fr lo n l D π shs rt O) {k z : Nat} {i : Int32} {X : Option α} (hsh : shs[k]? = some (.inr (0, z, 0))) (hd : decode cc pc = .ok (.iaload, 1)) (h : ck (inb i z) X = some o) (kk : X = some o → Wx Γ σ (pc + 1) L (.int (σ.1 k (ix i)) :: stk)) : Wx Γ σ pc L (.int i :: .ref (π k) :: stk) := by
  obtain ⟨⟨p, l', e, R, s, m, args, below, meth, c⟩, ⟨D', w, A, nL, cs, ss, Q⟩⟩ := Γ
  obtain ⟨⟨hx, hb, hml, hn, hown, hts, hK, hD, hN, hA, h1, h2, h3, h4⟩, e1, e2, e3, hr, hlk, hE⟩ := C
  dsimp only at e1 e2 e3
  subst e1; subst e2; subst e3
  intro H locs ls hP hS hl
  obtain ⟨hi, h⟩ := ck_some h
  exact va_iald hx hb hK hP k 0 (lay_at hsh) rfl (inb_in hi) hd (kk h H locs ls hP hS hl)
theorem x_zald (C : Cm Γ cc own cA fr lo n l D π shs rt O) {k z : Nat} {i : Int32} {X : Option α} (hsh : shs[k]? = some (.inr (1, z, 0))) (hd : decode cc pc = .ok (.baload, 1)) (h : ck (inb i z) X = some o) (kk : X = some o → Wx Γ σ (pc + 1) L (.int (σ.1 k (ix i)) :: stk)) : Wx Γ σ pc L (.int i :: .ref (π k) :: stk) := by
  obtain ⟨⟨p, l', e, R, s, m, args, below, meth, c⟩, ⟨D', w, A, nL, cs, ss, Q⟩⟩ := Γ
  obtain ⟨⟨hx, hb, hml, hn, hown, hts, hK, hD, hN, hA, h1, h2, h3, h4⟩, e1, e2, e3, hr, hlk, hE⟩ := C
  dsimp only at e1 e2 e3
  subst e1; subst e2; subst e3
  intro H locs ls hP hS hl
  obtain ⟨hi, h⟩ := ck_some h
  exact va_zald hx hb hK hP k 1 (lay_at hsh) rfl (inb_in hi) hd (kk h H locs ls hP hS hl)
theorem x_iast (C : Cm Γ cc own cA fr lo n l D π shs rt O) {k z : Nat} {i v : Int32} {F : St → Option α} (hsh : shs[k]? = some (.inr (0, z, 0))) (hd : decode cc pc = .ok (.iastore, 1)) (h : ck (inb i z) (lt (put σ k (ix i) v) F) = some o) (kk : ∀ σ', F σ' = some o → Wx Γ σ' (pc + 1) L stk) : Wx Γ σ pc L (.int v :: .int i :: .ref (π k) :: stk) := by
  obtain ⟨⟨p, l', e, R, s, m, args, below, meth, c⟩, ⟨D', w, A, nL, cs, ss, Q⟩⟩ := Γ
  obtain ⟨⟨hx, hb, hml, hn, hown, hts, hK, hD, hN, hA, h1, h2, h3, h4⟩, e1, e2, e3, hr, hlk, hE⟩ := C
  dsimp only at e1 e2 e3
  subst e1; subst e2; subst e3
  intro H locs ls hP hS hl
  obtain ⟨hi, h⟩ := ck_some h
  refine va_iast hx hb hK hP (hD σ) hS k 0 (lay_at hsh) rfl (inb_in hi) hd (fun H1 locs1 hP1 hD1 hS1 => ?_)
  have he : (lay cA π shs σ).set k (π k, .inl (cA 0, z, .inl (upd (σ.1 k) i.toNatClampNeg v))) = lay cA π shs (put σ k (ix i) v) := by
    refine lay_set hsh ?_ (fun k' hk' sh' hs' => cellv_ne (put_ne hk') rfl)
    show Sum.inl (cA 0, z, Sum.inl ((put σ k (ix i) v).1 k)) = _
    rw [put_eq]; rfl
  rw [he] at hP1
  exact kk _ h H1 locs1 ls hP1 hS1 hl
theorem x_zast (C : Cm Γ cc own cA fr lo n l D π shs rt O) {k z : Nat} {i v : Int32} {F : St → Option α} (hsh : shs[k]? = some (.inr (1, z, 0))) (hd : decode cc pc = .ok (.bastore, 1)) (h : ck (inb i z) (lt (put σ k (ix i) (vp_nar .boolean v)) F) = some o) (kk : ∀ σ', F σ' = some o → Wx Γ σ' (pc + 1) L stk) : Wx Γ σ pc L (.int v :: .int i :: .ref (π k) :: stk) := by
  obtain ⟨⟨p, l', e, R, s, m, args, below, meth, c⟩, ⟨D', w, A, nL, cs, ss, Q⟩⟩ := Γ
  obtain ⟨⟨hx, hb, hml, hn, hown, hts, hK, hD, hN, hA, h1, h2, h3, h4⟩, e1, e2, e3, hr, hlk, hE⟩ := C
  dsimp only at e1 e2 e3
  subst e1; subst e2; subst e3
  intro H locs ls hP hS hl
  obtain ⟨hi, h⟩ := ck_some h
  refine va_zast hx hb hK hP (hD σ) hS k 1 (lay_at hsh) rfl (inb_in hi) hd (fun H1 locs1 hP1 hD1 hS1 => ?_)
  have he : (lay cA π shs σ).set k (π k, .inl (cA 1, z, .inl (upd (σ.1 k) i.toNatClampNeg (vp_nar .boolean v)))) = lay cA π shs (put σ k (ix i) (vp_nar .boolean v)) := by
    refine lay_set hsh ?_ (fun k' hk' sh' hs' => cellv_ne (put_ne hk') rfl)
    show Sum.inl (cA 1, z, Sum.inl ((put σ k (ix i) (vp_nar .boolean v)).1 k)) = _
    rw [put_eq]; rfl
  rw [he] at hP1
  exact kk _ h H1 locs1 ls hP1 hS1 hl
theorem x_aald (C : Cm Γ cc own cA fr lo n l D π shs rt O) {k z d t : Nat} {i : Int32} {X : Option α} (hsh : shs[k]? = some (.inr (t, z, d + 1))) (htt : t = 2 ∨ t = 3) (hd : decode cc pc = .ok (.aaload, 1)) (h : ck (inb i z) X = some o) (kk : ix i < z → X = some o → Wx Γ σ (pc + 1) L (.ref (π (k + 1 + (d + 1) * ix i)) :: stk)) : Wx Γ σ pc L (.int i :: .ref (π k) :: stk) := by
  obtain ⟨⟨p, l', e, R, s, m, args, below, meth, c⟩, ⟨D', w, A, nL, cs, ss, Q⟩⟩ := Γ
  obtain ⟨⟨hx, hb, hml, hn, hown, hts, hK, hD, hN, hA, h1, h2, h3, h4⟩, e1, e2, e3, hr, hlk, hE⟩ := C
  dsimp only at e1 e2 e3
  subst e1; subst e2; subst e3
  intro H locs ls hP hS hl
  obtain ⟨hi, h⟩ := ck_some h
  have hlt : ix i < z := Nat.not_le.mp fun q => inb_in hi (Or.inr q)
  have hv : va_rf (if i.toNatClampNeg < z then some (π (k + 1 + (d + 1) * i.toNatClampNeg)) else none) = .ref (π (k + 1 + (d + 1) * ix i)) := by rw [if_pos (show i.toNatClampNeg < z from hlt)]; rfl
  have K := kk hlt h H locs ls hP hS hl
  rw [← hv] at K
  rcases htt with rfl | rfl
  · exact va_aldq hx hb hK hP k 2 (lay_at hsh) rfl (inb_in hi) hd K
  · exact va_aldq hx hb hK hP k 3 (lay_at hsh) rfl (inb_in hi) hd K
theorem x_alen (C : Cm Γ cc own cA fr lo n l D π shs rt O) {k z : Nat} {v : Int32} (hsh : shs[k]? = some (.inr (0, z, 0))) (hv : Int32.ofNat z = v) (hd : decode cc pc = .ok (.arraylength, 1)) (kk : Wx Γ σ (pc + 1) L (.int v :: stk)) : Wx Γ σ pc L (.ref (π k) :: stk) := by
  obtain ⟨⟨p, l', e, R, s, m, args, below, meth, c⟩, ⟨D', w, A, nL, cs, ss, Q⟩⟩ := Γ
  obtain ⟨⟨hx, hb, hml, hn, hown, hts, hK, hD, hN, hA, h1, h2, h3, h4⟩, e1, e2, e3, hr, hlk, hE⟩ := C
  dsimp only at e1 e2 e3
  subst e1; subst e2; subst e3
  intro H locs ls hP hS hl
  exact va_alen hx hb hK hP k 0 (lay_at hsh) rfl hv hd (kk H locs ls hP hS hl)
def cpok (sp dp m : Int32) (n0 n1 : Nat) : Bool := decide (¬ sp < 0 ∧ ¬ dp < 0 ∧ ¬ m < 0 ∧ ix sp + ix m ≤ n0 ∧ ix dp + ix m ≤ n1)
theorem x_copy (C : Cm Γ cc own cA fr lo n l D π shs rt O) {k0 k1 n0 n1 i : Nat} {sp dp cn : Int32} {F : St → Option α} (hs0 : shs[k0]? = some (.inr (0, n0, 0))) (hs1 : shs[k1]? = some (.inr (0, n1, 0))) (hu : Cond.methodLink own i arraycopyName ∈ UW) (hd : decode cc pc = .ok (.invokestatic i, 3)) (hf : 1 ≤ fr) (hst : (stk.map fun v => v.category).sum + (nativeFrameWords "java/lang/System" "arraycopy" 5 + 11) ≤ lo) (h : ck (cpok sp dp cn n0 n1) (lt (cpy σ k0 k1 (ix sp) (ix dp) (ix cn)) F) = some o) (kk : ∀ σ', F σ' = some o → Wx Γ σ' (pc + 3) L stk) : Wx Γ σ pc L (.int cn :: .int dp :: .ref (π k1) :: .int sp :: .ref (π k0) :: stk) := by
  obtain ⟨⟨p, l', e, R, s, m, args, below, meth, c⟩, ⟨D', w, A, nL, cs, ss, Q⟩⟩ := Γ
  obtain ⟨⟨hx, hb, hml, hn, hown, hts, hK, hD, hN, hA, h1, h2, h3, h4⟩, e1, e2, e3, hr, hlk, hE⟩ := C
  dsimp only at e1 e2 e3
  subst e1; subst e2; subst e3
  intro H locs ls hP hS hl
  obtain ⟨hi, h⟩ := ck_some h
  obtain ⟨i1, i2, i3, i4, i5⟩ := of_decide_eq_true hi
  refine va_copyi hx hb (hml.trans hl.1.symm) hown (hts _ hu) (hts _ uv_acopy) (hts _ ut_acopy) (hts _ un_J10) hK hP (hD σ) hS k0 k1 0 0 (ty := .int) (lay_at hs0) (lay_at hs1) rfl rfl rfl i1 i2 i3 i4 i5 (fun _ _ => rfl) (by omega) (by omega) hd (fun H1 locs1 hP1 hD1 hS1 => ?_)
  have he : (lay cA π shs σ).set k1 (π k1, .inl (cA 0, n1, .inl (va_cpy (σ.1 k0) (σ.1 k1) sp.toNatClampNeg dp.toNatClampNeg cn.toNatClampNeg))) = lay cA π shs (cpy σ k0 k1 (ix sp) (ix dp) (ix cn)) := by
    refine lay_set hs1 ?_ (fun k' hk' sh' hs' => cellv_ne (if_neg hk') rfl)
    show Sum.inl (cA 0, n1, Sum.inl ((cpy σ k0 k1 (ix sp) (ix dp) (ix cn)).1 k1)) = _
    rw [show (cpy σ k0 k1 (ix sp) (ix dp) (ix cn)).1 k1 = va_cpy (σ.1 k0) (σ.1 k1) (ix sp) (ix dp) (ix cn) from if_pos rfl]; rfl
  rw [he] at hP1
  exact kk _ h H1 locs1 ls hP1 hS1 hl
theorem x_iret {v : Int32} {σ1 : St} (C : Cm Γ cc own cA fr lo n l D π shs (some .int) (some (.int v), σ1)) {v0 : Int32}  (hd : decode cc pc = .ok (.ireturn, 1)) (h : some (v0, σ) = some (v, σ1)) : Wx Γ σ pc L [.int v0] := by
  obtain ⟨⟨p, l', e, R, s, m, args, below, meth, c⟩, ⟨D', w, A, nL, cs, ss, Q⟩⟩ := Γ
  obtain ⟨⟨hx, hb, hml, hn, hown, hts, hK, hD, hN, hA, h1, h2, h3, h4⟩, e1, e2, e3, hr, hlk, hE⟩ := C
  dsimp only at e1 e2 e3
  subst e1; subst e2; subst e3
  obtain ⟨Qc, free, rfl, hfr, hQ⟩ := hE
  cases h
  intro H locs ls hP hS hl
  exact W.iret hx hb hr (fun t ht hW => hQ t H locs ht hW hP hS) (fun q hq => hfr _ (hS.2.2 q hq)) hd hlk
theorem x_zret {v : Int32} {σ1 : St} (C : Cm Γ cc own cA fr lo n l D π shs (some .boolean) (some (.int v), σ1)) {v0 : Int32} (hz : v0 = 0 ∨ v0 = 1) (hd : decode cc pc = .ok (.ireturn, 1)) (h : some (v0, σ) = some (v, σ1)) : Wx Γ σ pc L [.int v0] := by
  obtain ⟨⟨p, l', e, R, s, m, args, below, meth, c⟩, ⟨D', w, A, nL, cs, ss, Q⟩⟩ := Γ
  obtain ⟨⟨hx, hb, hml, hn, hown, hts, hK, hD, hN, hA, h1, h2, h3, h4⟩, e1, e2, e3, hr, hlk, hE⟩ := C
  dsimp only at e1 e2 e3
  subst e1; subst e2; subst e3
  obtain ⟨Qc, free, rfl, hfr, hQ⟩ := hE
  cases h
  intro H locs ls hP hS hl
  exact W.zret hx hb hr (by rcases hz with rfl | rfl <;> rfl) (fun t ht hW => hQ t H locs ht hW hP hS) (fun q hq => hfr _ (hS.2.2 q hq)) hd hlk
theorem x_lret {v : Int64} {σ1 : St} (C : Cm Γ cc own cA fr lo n l D π shs (some .long) (some (.long v), σ1)) {v0 : Int64}  (hd : decode cc pc = .ok (.lreturn, 1)) (h : some (v0, σ) = some (v, σ1)) : Wx Γ σ pc L [.long v0] := by
  obtain ⟨⟨p, l', e, R, s, m, args, below, meth, c⟩, ⟨D', w, A, nL, cs, ss, Q⟩⟩ := Γ
  obtain ⟨⟨hx, hb, hml, hn, hown, hts, hK, hD, hN, hA, h1, h2, h3, h4⟩, e1, e2, e3, hr, hlk, hE⟩ := C
  dsimp only at e1 e2 e3
  subst e1; subst e2; subst e3
  obtain ⟨Qc, free, rfl, hfr, hQ⟩ := hE
  cases h
  intro H locs ls hP hS hl
  exact W.lret hx hb hr (fun t ht hW => hQ t H locs ht hW hP hS) (fun q hq => hfr _ (hS.2.2 q hq)) hd hlk
theorem x_aret {cn : String} {v : Nat} {σ1 : St} (C : Cm Γ cc own cA fr lo n l D π shs (some (.object cn)) (some (.ref (π v)), σ1)) {v0 : Nat}  (hd : decode cc pc = .ok (.areturn, 1)) (h : some (v0, σ) = some (v, σ1)) : Wx Γ σ pc L [.ref (π v0)] := by
  obtain ⟨⟨p, l', e, R, s, m, args, below, meth, c⟩, ⟨D', w, A, nL, cs, ss, Q⟩⟩ := Γ
  obtain ⟨⟨hx, hb, hml, hn, hown, hts, hK, hD, hN, hA, h1, h2, h3, h4⟩, e1, e2, e3, hr, hlk, hE⟩ := C
  dsimp only at e1 e2 e3
  subst e1; subst e2; subst e3
  obtain ⟨Qc, free, rfl, hfr, hQ⟩ := hE
  cases h
  intro H locs ls hP hS hl
  exact W.aret hx hb hr (Or.inl ⟨_, rfl⟩) (Or.inr ⟨_, rfl⟩) (fun t ht hW => hQ t H locs ht hW hP hS) (fun q hq => hfr _ (hS.2.2 q hq)) hd hlk
theorem x_vret {σ1 : St} (C : Cm Γ cc own cA fr lo n l D π shs none (none, σ1)) (hd : decode cc pc = .ok (.return_, 1)) (h : some σ = some σ1) : Wx Γ σ pc L [] := by
  obtain ⟨⟨p, l', e, R, s, m, args, below, meth, c⟩, ⟨D', w, A, nL, cs, ss, Q⟩⟩ := Γ
  obtain ⟨⟨hx, hb, hml, hn, hown, hts, hK, hD, hN, hA, h1, h2, h3, h4⟩, e1, e2, e3, hr, hlk, hE⟩ := C
  dsimp only at e1 e2 e3
  subst e1; subst e2; subst e3
  obtain ⟨Qc, free, rfl, hfr, hQ⟩ := hE
  cases h
  intro H locs ls hP hS hl
  exact W.vret hx hb hr (fun t ht hW => hQ t H locs ht hW hP hS) (fun q hq => hfr _ (hS.2.2 q hq)) hd hlk
end XM
