/-! more steps -/
noncomputable section
def dst (lo : List (Option Value)) (i : Nat) (v : Value) : List (Option Value) := xst1 lo i v id
theorem dst_eq {β : Type} (lo : List (Option Value)) (i : Nat) (v : Value) (K : List (Option Value) → β) : xst1 lo i v K = K (dst lo i v) := by
  unfold dst xst1
  simp only [xset_eq]
  cases i with
  | zero => rfl
  | succ k =>
    simp only
    split
    · split <;> simp [xset_eq]
    · rfl
def dst2 (lo : List (Option Value)) (i : Nat) (v : Value) : List (Option Value) := xst2 lo i v id
theorem dst2_eq {β : Type} (lo : List (Option Value)) (i : Nat) (v : Value) (K : List (Option Value) → β) : xst2 lo i v K = K (dst2 lo i v) := by
  unfold dst2 xst2
  simp only [dst_eq, xset_eq, id]
section YY
variable {sh : dSh} {d : Nat} {mi : xMI} {α : Type} {ι : α → Option Value × dH} {t A B : Option α} {pc q q' len : Nat} {lo lo' : List (Option Value)} {st : List Value} {h : dH} {x y z : Int32} {X Y : Int} {a b : Nat} {u w : Int64}
theorem y_istore_n {k} (hf : dft mi pc = some (.istore_n k, len)) (hm : k.val < mi.2.2.2.2.1) (hl : dst lo k.val (.int x) = lo') (hq : pc + 1 = q) (hy : dY sh d mi ι t q lo' st h) : dY sh d mi ι t pc lo (.int x :: st) h := dY_step (fun call => (dstep hf).trans (by
  subst hq hl; unfold xstepI xstore1; simp only [xisI, if_true, if_pos hm, dst_eq]; rfl)) hy
theorem y_istore {i} (hf : dft mi pc = some (.istore i, len)) (hm : i < mi.2.2.2.2.1) (hl : dst lo i (.int x) = lo') (hq : pc + 2 = q) (hy : dY sh d mi ι t q lo' st h) : dY sh d mi ι t pc lo (.int x :: st) h := dY_step (fun call => (dstep hf).trans (by
  subst hq hl; unfold xstepI xstore1; simp only [xisI, if_true, if_pos hm, dst_eq]; rfl)) hy
theorem y_astore_n {k} (hf : dft mi pc = some (.astore_n k, len)) (hm : k.val < mi.2.2.2.2.1) (hl : dst lo k.val (.ref a) = lo') (hq : pc + 1 = q) (hy : dY sh d mi ι t q lo' st h) : dY sh d mi ι t pc lo (.ref a :: st) h := dY_step (fun call => (dstep hf).trans (by
  subst hq hl; unfold xstepI xstore1; simp only [xisR, if_true, if_pos hm, dst_eq]; rfl)) hy
theorem y_astore {i} (hf : dft mi pc = some (.astore i, len)) (hm : i < mi.2.2.2.2.1) (hl : dst lo i (.ref a) = lo') (hq : pc + 2 = q) (hy : dY sh d mi ι t q lo' st h) : dY sh d mi ι t pc lo (.ref a :: st) h := dY_step (fun call => (dstep hf).trans (by
  subst hq hl; unfold xstepI xstore1; simp only [xisR, if_true, if_pos hm, dst_eq]; rfl)) hy
theorem y_lstore_n {k} (hf : dft mi pc = some (.lstore_n k, len)) (hm : k.val + 1 < mi.2.2.2.2.1) (hl : dst2 lo k.val (.long u) = lo') (hq : pc + 1 = q) (hy : dY sh d mi ι t q lo' st h) : dY sh d mi ι t pc lo (.long u :: st) h := dY_step (fun call => (dstep hf).trans (by
  subst hq hl; unfold xstepI xstore2; simp only [xisL, if_true, if_pos hm, dst2_eq]; rfl)) hy
theorem y_lstore {i} (hf : dft mi pc = some (.lstore i, len)) (hm : i + 1 < mi.2.2.2.2.1) (hl : dst2 lo i (.long u) = lo') (hq : pc + 2 = q) (hy : dY sh d mi ι t q lo' st h) : dY sh d mi ι t pc lo (.long u :: st) h := dY_step (fun call => (dstep hf).trans (by
  subst hq hl; unfold xstepI xstore2; simp only [xisL, if_true, if_pos hm, dst2_eq]; rfl)) hy
theorem y_iconst {n} (hf : dft mi pc = some (.iconst n, len)) (hx : Int32.ofInt n = x) (hq : pc + 1 = q) (hy : dY sh d mi ι t q lo (.int x :: st) h) : dY sh d mi ι t pc lo st h := dY_step (fun call => (dstep hf).trans (by
  subst hq hx; rfl)) hy
theorem y_bipush {n} (hf : dft mi pc = some (.bipush n, len)) (hx : (Int8.ofInt n).toInt32 = x) (hq : pc + 2 = q) (hy : dY sh d mi ι t q lo (.int x :: st) h) : dY sh d mi ι t pc lo st h := dY_step (fun call => (dstep hf).trans (by
  subst hq hx; rfl)) hy
theorem y_sipush {n} (hf : dft mi pc = some (.sipush n, len)) (hx : (Int16.ofInt n).toInt32 = x) (hq : pc + 3 = q) (hy : dY sh d mi ι t q lo (.int x :: st) h) : dY sh d mi ι t pc lo st h := dY_step (fun call => (dstep hf).trans (by
  subst hq hx; rfl)) hy
theorem y_lconst {n} (hf : dft mi pc = some (.lconst n, len)) (hx : Int64.ofNat n.val = u) (hq : pc + 1 = q) (hy : dY sh d mi ι t q lo (.long u :: st) h) : dY sh d mi ι t pc lo st h := dY_step (fun call => (dstep hf).trans (by
  subst hq hx; rfl)) hy
theorem y_ldcI {idx} (hf : dft mi pc = some (.ldc idx, len)) (hx : xldc mi.2.2.1 idx = some (.int x)) (hq : pc + 2 = q) (hy : dY sh d mi ι t q lo (.int x :: st) h) : dY sh d mi ι t pc lo st h := dY_step (fun call => (dstep hf).trans (by
  subst hq; show (match xldc mi.2.2.1 idx with | some v => _ | none => none) = _; rw [hx]; rfl)) hy
theorem y_ldcR {idx} (hf : dft mi pc = some (.ldc idx, len)) (hx : xldc mi.2.2.1 idx = some (.ref a)) (hq : pc + 2 = q) (hy : dY sh d mi ι t q lo (.ref a :: st) h) : dY sh d mi ι t pc lo st h := dY_step (fun call => (dstep hf).trans (by
  subst hq; show (match xldc mi.2.2.1 idx with | some v => _ | none => none) = _; rw [hx]; rfl)) hy
theorem y_ldc_w {idx} (hf : dft mi pc = some (.ldc_w idx, len)) (hx : xco mi.2.2.1 idx = some x) (hq : pc + 3 = q) (hy : dY sh d mi ι t q lo (.int x :: st) h) : dY sh d mi ι t pc lo st h := dY_step (fun call => (dstep hf).trans (by
  subst hq; show (match xco mi.2.2.1 idx with | some v => _ | none => none) = _; rw [hx]; rfl)) hy
theorem y_ldc2_w {idx} (hf : dft mi pc = some (.ldc2_w idx, len)) (hx : xcoL mi.2.2.1 idx = some u) (hq : pc + 3 = q) (hy : dY sh d mi ι t q lo (.long u :: st) h) : dY sh d mi ι t pc lo st h := dY_step (fun call => (dstep hf).trans (by
  subst hq; show (match xcoL mi.2.2.1 idx with | some v => _ | none => none) = _; rw [hx]; rfl)) hy
theorem y_bin {I f} (hf : dft mi pc = some (I, len)) (hI : ∀ call st C rg uc us, xstepI call mi.2.2.1 mi.2.2.2.2.1 mi.2.2.2.2.2.1 mi.2.2.2.2.2.2.1 mi.2.2.2.2.2.2.2.1 mi.2.2.2.2.2.2.2.2.1 I len pc lo st C rg uc us = xbin pc lo st C rg uc us f) (hz : f x y = some z) (hq : pc + 1 = q) (hy : dY sh d mi ι t q lo (.int z :: st) h) : dY sh d mi ι t pc lo (.int y :: .int x :: st) h := dY_step (fun call => (dstep hf).trans (by
  subst hq; rw [hI]; unfold xbin; simp only [xci, hz, xfI_eq]; rfl)) hy
theorem y_iadd (hf : dft mi pc = some (.iadd, len)) (hq : pc + 1 = q) (hy : dY sh d mi ι t q lo (.int (x + y) :: st) h) : dY sh d mi ι t pc lo (.int y :: .int x :: st) h := dY_step (fun call => (dstep hf).trans (by
  subst hq; unfold xstepI xadd xbin; simp only [xci, xfI_eq]; rfl)) hy
theorem y_isub (hf : dft mi pc = some (.isub, len)) (hq : pc + 1 = q) (hy : dY sh d mi ι t q lo (.int (x - y) :: st) h) : dY sh d mi ι t pc lo (.int y :: .int x :: st) h := y_bin (f := fun x y => some (x - y)) hf (fun _ _ _ _ _ _ => rfl) rfl hq hy
theorem y_imul (hf : dft mi pc = some (.imul, len)) (hq : pc + 1 = q) (hy : dY sh d mi ι t q lo (.int (x * y) :: st) h) : dY sh d mi ι t pc lo (.int y :: .int x :: st) h := y_bin (f := fun x y => some (x * y)) hf (fun _ _ _ _ _ _ => rfl) rfl hq hy
theorem y_iand (hf : dft mi pc = some (.iand, len)) (hq : pc + 1 = q) (hy : dY sh d mi ι t q lo (.int (x &&& y) :: st) h) : dY sh d mi ι t pc lo (.int y :: .int x :: st) h := y_bin (f := fun x y => some (x &&& y)) hf (fun _ _ _ _ _ _ => rfl) rfl hq hy
theorem y_ior (hf : dft mi pc = some (.ior, len)) (hq : pc + 1 = q) (hy : dY sh d mi ι t q lo (.int (x ||| y) :: st) h) : dY sh d mi ι t pc lo (.int y :: .int x :: st) h := y_bin (f := fun x y => some (x ||| y)) hf (fun _ _ _ _ _ _ => rfl) rfl hq hy
theorem y_ixor (hf : dft mi pc = some (.ixor, len)) (hq : pc + 1 = q) (hy : dY sh d mi ι t q lo (.int (x ^^^ y) :: st) h) : dY sh d mi ι t pc lo (.int y :: .int x :: st) h := y_bin (f := fun x y => some (x ^^^ y)) hf (fun _ _ _ _ _ _ => rfl) rfl hq hy
theorem y_ishl (hf : dft mi pc = some (.ishl, len)) (hq : pc + 1 = q) (hy : dY sh d mi ι t q lo (.int (dshl x y) :: st) h) : dY sh d mi ι t pc lo (.int y :: .int x :: st) h := y_bin (f := fun x y => some (x <<< (y &&& 31))) hf (fun _ _ _ _ _ _ => rfl) rfl hq hy
theorem y_ishr (hf : dft mi pc = some (.ishr, len)) (hq : pc + 1 = q) (hy : dY sh d mi ι t q lo (.int (dshr x y) :: st) h) : dY sh d mi ι t pc lo (.int y :: .int x :: st) h := y_bin (f := fun x y => some (x >>> (y &&& 31))) hf (fun _ _ _ _ _ _ => rfl) rfl hq hy
theorem y_iushr (hf : dft mi pc = some (.iushr, len)) (hq : pc + 1 = q) (hy : dY sh d mi ι t q lo (.int (dushr x y) :: st) h) : dY sh d mi ι t pc lo (.int y :: .int x :: st) h := y_bin (f := fun x y => some ((x.toUInt32 >>> (y.toUInt32 &&& Int32.toUInt32 31)).toInt32)) hf (fun _ _ _ _ _ _ => rfl) rfl hq hy
theorem y_idiv (hf : dft mi pc = some (.idiv, len)) (h0 : ¬ y = 0) (hq : pc + 1 = q) (hy : dY sh d mi ι t q lo (.int (x / y) :: st) h) : dY sh d mi ι t pc lo (.int y :: .int x :: st) h := y_bin (f := fun x y => if y = 0 then none else some (x / y)) hf (fun _ _ _ _ _ _ => rfl) (if_neg h0) hq hy
theorem y_irem (hf : dft mi pc = some (.irem, len)) (h0 : ¬ y = 0) (hq : pc + 1 = q) (hy : dY sh d mi ι t q lo (.int (drem x y) :: st) h) : dY sh d mi ι t pc lo (.int y :: .int x :: st) h := y_bin (f := fun x y => if y = 0 then none else some (x - x / y * y)) hf (fun _ _ _ _ _ _ => rfl) (if_neg h0) hq hy
theorem y_un {I f} (hf : dft mi pc = some (I, len)) (hI : ∀ call st C rg uc us, xstepI call mi.2.2.1 mi.2.2.2.2.1 mi.2.2.2.2.2.1 mi.2.2.2.2.2.2.1 mi.2.2.2.2.2.2.2.1 mi.2.2.2.2.2.2.2.2.1 I len pc lo st C rg uc us = xun pc lo st C rg uc us f) (hz : f x = z) (hq : pc + 1 = q) (hy : dY sh d mi ι t q lo (.int z :: st) h) : dY sh d mi ι t pc lo (.int x :: st) h := dY_step (fun call => (dstep hf).trans (by
  subst hq hz; rw [hI]; unfold xun; simp only [xci, xfI_eq]; rfl)) hy
theorem y_ineg (hf : dft mi pc = some (.ineg, len)) (hq : pc + 1 = q) (hy : dY sh d mi ι t q lo (.int (-x) :: st) h) : dY sh d mi ι t pc lo (.int x :: st) h := y_un (f := fun x => -x) hf (fun _ _ _ _ _ _ => rfl) rfl hq hy
theorem y_i2b (hf : dft mi pc = some (.i2b, len)) (hq : pc + 1 = q) (hy : dY sh d mi ι t q lo (.int x.toInt8.toInt32 :: st) h) : dY sh d mi ι t pc lo (.int x :: st) h := y_un (f := fun x => x.toInt8.toInt32) hf (fun _ _ _ _ _ _ => rfl) rfl hq hy
theorem y_i2s (hf : dft mi pc = some (.i2s, len)) (hq : pc + 1 = q) (hy : dY sh d mi ι t q lo (.int x.toInt16.toInt32 :: st) h) : dY sh d mi ι t pc lo (.int x :: st) h := y_un (f := fun x => x.toInt16.toInt32) hf (fun _ _ _ _ _ _ => rfl) rfl hq hy
theorem y_binL {I f} (hf : dft mi pc = some (I, len)) (hI : ∀ call st C rg uc us, xstepI call mi.2.2.1 mi.2.2.2.2.1 mi.2.2.2.2.2.1 mi.2.2.2.2.2.2.1 mi.2.2.2.2.2.2.2.1 mi.2.2.2.2.2.2.2.2.1 I len pc lo st C rg uc us = xbinL pc lo st C rg uc us f) {v : Int64} (hz : f u w = some v) (hq : pc + 1 = q) (hy : dY sh d mi ι t q lo (.long v :: st) h) : dY sh d mi ι t pc lo (.long w :: .long u :: st) h := dY_step (fun call => (dstep hf).trans (by
  subst hq; rw [hI]; unfold xbinL; simp only [xcl, hz]; rfl)) hy
theorem y_ladd (hf : dft mi pc = some (.ladd, len)) (hq : pc + 1 = q) (hy : dY sh d mi ι t q lo (.long (u + w) :: st) h) : dY sh d mi ι t pc lo (.long w :: .long u :: st) h := y_binL (f := fun x y => some (x + y)) hf (fun _ _ _ _ _ _ => rfl) rfl hq hy
theorem y_lsub (hf : dft mi pc = some (.lsub, len)) (hq : pc + 1 = q) (hy : dY sh d mi ι t q lo (.long (u - w) :: st) h) : dY sh d mi ι t pc lo (.long w :: .long u :: st) h := y_binL (f := fun x y => some (x - y)) hf (fun _ _ _ _ _ _ => rfl) rfl hq hy
theorem y_lmul (hf : dft mi pc = some (.lmul, len)) (hq : pc + 1 = q) (hy : dY sh d mi ι t q lo (.long (u * w) :: st) h) : dY sh d mi ι t pc lo (.long w :: .long u :: st) h := y_binL (f := fun x y => some (x * y)) hf (fun _ _ _ _ _ _ => rfl) rfl hq hy
theorem y_ldiv (hf : dft mi pc = some (.ldiv, len)) (h0 : ¬ w = 0) (hq : pc + 1 = q) (hy : dY sh d mi ι t q lo (.long (u / w) :: st) h) : dY sh d mi ι t pc lo (.long w :: .long u :: st) h := y_binL (f := fun x y => if y = 0 then none else some (x / y)) hf (fun _ _ _ _ _ _ => rfl) (if_neg h0) hq hy
theorem y_lrem (hf : dft mi pc = some (.lrem, len)) (h0 : ¬ w = 0) (hq : pc + 1 = q) (hy : dY sh d mi ι t q lo (.long (u - u / w * w) :: st) h) : dY sh d mi ι t pc lo (.long w :: .long u :: st) h := y_binL (f := fun x y => if y = 0 then none else some (x - x / y * y)) hf (fun _ _ _ _ _ _ => rfl) (if_neg h0) hq hy
theorem y_i2l (hf : dft mi pc = some (.i2l, len)) (hq : pc + 1 = q) (hy : dY sh d mi ι t q lo (.long x.toInt64 :: st) h) : dY sh d mi ι t pc lo (.int x :: st) h := dY_step (fun call => (dstep hf).trans (by subst hq; rfl)) hy
theorem y_l2i (hf : dft mi pc = some (.l2i, len)) (hq : pc + 1 = q) (hy : dY sh d mi ι t q lo (.int u.toInt32 :: st) h) : dY sh d mi ι t pc lo (.long u :: st) h := dY_step (fun call => (dstep hf).trans (by subst hq; rfl)) hy
theorem y_lcmp (hf : dft mi pc = some (.lcmp, len)) (hq : pc + 1 = q) (hy : dY sh d mi ι t q lo (.int (dlcmp u w) :: st) h) : dY sh d mi ι t pc lo (.long w :: .long u :: st) h := dY_step (fun call => (dstep hf).trans (by
  subst hq; unfold xstepI xlcmp dlcmp; simp only [xlv]
  by_cases h1 : u.toInt < w.toInt
  · rw [if_pos h1, if_pos h1]; rfl
  · rw [if_neg h1, if_neg h1]
    by_cases h2 : w.toInt < u.toInt
    · rw [if_pos h2, if_pos h2]; rfl
    · rw [if_neg h2, if_neg h2, if_pos ⟨trivial, trivial⟩]; rfl)) hy
theorem y_dup (hf : dft mi pc = some (.dup, len)) (hq : pc + 1 = q) (hy : dY sh d mi ι t q lo (.ref a :: .ref a :: st) h) : dY sh d mi ι t pc lo (.ref a :: st) h := dY_step (fun call => (dstep hf).trans (by subst hq; rfl)) hy
theorem y_dupI (hf : dft mi pc = some (.dup, len)) (hq : pc + 1 = q) (hy : dY sh d mi ι t q lo (.int x :: .int x :: st) h) : dY sh d mi ι t pc lo (.int x :: st) h := dY_step (fun call => (dstep hf).trans (by subst hq; rfl)) hy
theorem y_dup2 (hf : dft mi pc = some (.dup2, len)) (hq : pc + 1 = q) (hy : dY sh d mi ι t q lo (.int x :: .ref a :: .int x :: .ref a :: st) h) : dY sh d mi ι t pc lo (.int x :: .ref a :: st) h := dY_step (fun call => (dstep hf).trans (by subst hq; rfl)) hy
theorem y_pop (hf : dft mi pc = some (.pop, len)) (hq : pc + 1 = q) (hy : dY sh d mi ι t q lo st h) : dY sh d mi ι t pc lo (.int x :: st) h := dY_step (fun call => (dstep hf).trans (by subst hq; rfl)) hy
theorem y_goto {off} (hf : dft mi pc = some (.goto off, len)) (ht : xtg pc off = some q) (hy : dY sh d mi ι t q lo st h) : dY sh d mi ι t pc lo st h := dY_step (fun call => (dstep hf).trans (by
  unfold xstepI xjump; simp only [ht]; rfl)) hy
theorem y_iinc {i n} (hf : dft mi pc = some (.iinc i n, len)) (hl : xnth lo i = some (some (.int x))) (hm : i < mi.2.2.2.2.1) (hz : x + Int32.ofInt n = z) (hs : dst lo i (.int z) = lo') (hq : pc + 3 = q) (hy : dY sh d mi ι t q lo' st h) : dY sh d mi ι t pc lo st h := dY_step (fun call => (dstep hf).trans (by
  subst hq hz hs; unfold xstepI xiinc; simp only [hl, if_pos hm, xci, xfI_eq, dst_eq]; rfl)) hy
theorem d_toI {x y : Int32} : x = y ↔ x.toInt = y.toInt := ⟨fun h => by rw [h], fun h => Int32.toInt_inj.mp h⟩
theorem dxlt (X Y : Int) : xlt (X, X) (Y, Y) = some (decide (X < Y)) := by
  unfold xlt
  by_cases h : X < Y
  · simp [h]
  · simp [h, Int.not_lt.mp h]
theorem dxeq (X Y : Int) : xeq (X, X) (Y, Y) = some (decide (X = Y)) := by
  unfold xeq
  by_cases h1 : X < Y
  · rw [if_pos h1, decide_eq_false (by omega)]
  · rw [if_neg h1]
    by_cases h2 : Y < X
    · rw [if_pos h2, decide_eq_false (by omega)]
    · rw [if_neg h2, if_pos rfl, if_pos rfl, decide_eq_true (by omega)]
/-- a compare: the condition's answer -/
def dcmp (c : ClassFile.Cond) (X Y : Int) : Bool := match c with
  | .lt => decide (X < Y)
  | .ge => !decide (X < Y)
  | .gt => decide (Y < X)
  | .le => !decide (Y < X)
  | .eq => decide (X = Y)
  | .ne => !decide (X = Y)
theorem dxcmp (c : ClassFile.Cond) (X Y : Int) : xcmp c (X, X) (Y, Y) = some (dcmp c X Y) := by
  cases c <;> simp [xcmp, dcmp, dxlt, dxeq, xnot]
theorem y_icmpT {c off} (hf : dft mi pc = some (.if_icmp c off, len)) (hc : dcmp c x.toInt y.toInt = true) (ht : xtg pc off = some q) (hy : dY sh d mi ι t q lo st h) : dY sh d mi ι t pc lo (.int y :: .int x :: st) h := dY_step (fun call => (dstep hf).trans (by
  unfold xstepI xicmp xjump; simp only [xiv, dxcmp, hc, ht]; rfl)) hy
theorem y_icmpF {c off r} (hf : dft mi pc = some (.if_icmp c off, len)) (hc : dcmp c x.toInt y.toInt = false) (ht : xtg pc off = some r) (hq : pc + 3 = q) (hy : dY sh d mi ι t q lo st h) : dY sh d mi ι t pc lo (.int y :: .int x :: st) h := dY_step (fun call => (dstep hf).trans (by
  subst hq; unfold xstepI xicmp xfall; simp only [xiv, dxcmp, hc, ht]; rfl)) hy
theorem y_ifT {c off} (hf : dft mi pc = some (.ifCond c off, len)) (hc : dcmp c x.toInt 0 = true) (ht : xtg pc off = some q) (hy : dY sh d mi ι t q lo st h) : dY sh d mi ι t pc lo (.int x :: st) h := dY_step (fun call => (dstep hf).trans (by
  unfold xstepI xif xjump; simp only [xiv, dxcmp, hc, ht]; rfl)) hy
theorem y_ifF {c off r} (hf : dft mi pc = some (.ifCond c off, len)) (hc : dcmp c x.toInt 0 = false) (ht : xtg pc off = some r) (hq : pc + 3 = q) (hy : dY sh d mi ι t q lo st h) : dY sh d mi ι t pc lo (.int x :: st) h := dY_step (fun call => (dstep hf).trans (by
  subst hq; unfold xstepI xif xfall; simp only [xiv, dxcmp, hc, ht]; rfl)) hy
theorem y_if2 {c off} (hf : dft mi pc = some (.if_icmp c off, len)) (hx : x.toInt = X) (hw : y.toInt = Y) (ht : xtg pc off = some q) (hq : pc + 3 = q') (hA : dcmp c X Y = true → dY sh d mi ι A q lo st h) (hB : dcmp c X Y = false → dY sh d mi ι B q' lo st h) : dY sh d mi ι (if dcmp c X Y = true then A else B) pc lo (.int y :: .int x :: st) h := by
  subst hx hw
  refine dY_ite (fun hp => y_icmpT hf hp ht (hA hp)) (fun hp => ?_)
  have hp' := Bool.eq_false_iff.mpr hp
  exact y_icmpF hf hp' ht hq (hB hp')
/-- the six compares, as the functions have them -/
theorem y_lt {off} (hf : dft mi pc = some (.if_icmp .lt off, len)) (hx : x.toInt = X) (hw : y.toInt = Y) (ht : xtg pc off = some q) (hq : pc + 3 = q') (hA : X < Y → dY sh d mi ι A q lo st h) (hB : ¬ X < Y → dY sh d mi ι B q' lo st h) : dY sh d mi ι (if X < Y then A else B) pc lo (.int y :: .int x :: st) h := by
  subst hx hw
  exact dY_ite (fun hp => y_icmpT hf (by simpa [dcmp] using hp) ht (hA hp)) (fun hp => y_icmpF hf (by simpa [dcmp] using hp) ht hq (hB hp))
theorem y_ge {off} (hf : dft mi pc = some (.if_icmp .ge off, len)) (hx : x.toInt = X) (hw : y.toInt = Y) (ht : xtg pc off = some q) (hq : pc + 3 = q') (hB : X < Y → dY sh d mi ι B q' lo st h) (hA : ¬ X < Y → dY sh d mi ι A q lo st h) : dY sh d mi ι (if X < Y then B else A) pc lo (.int y :: .int x :: st) h := by
  subst hx hw
  exact dY_ite (fun hp => y_icmpF hf (by simpa [dcmp] using hp) ht hq (hB hp)) (fun hp => y_icmpT hf (by simpa [dcmp] using hp) ht (hA hp))
theorem y_gt {off} (hf : dft mi pc = some (.if_icmp .gt off, len)) (hx : x.toInt = X) (hw : y.toInt = Y) (ht : xtg pc off = some q) (hq : pc + 3 = q') (hA : Y < X → dY sh d mi ι A q lo st h) (hB : ¬ Y < X → dY sh d mi ι B q' lo st h) : dY sh d mi ι (if Y < X then A else B) pc lo (.int y :: .int x :: st) h := by
  subst hx hw
  exact dY_ite (fun hp => y_icmpT hf (by simpa [dcmp] using hp) ht (hA hp)) (fun hp => y_icmpF hf (by simpa [dcmp] using hp) ht hq (hB hp))
theorem y_le {off} (hf : dft mi pc = some (.if_icmp .le off, len)) (hx : x.toInt = X) (hw : y.toInt = Y) (ht : xtg pc off = some q) (hq : pc + 3 = q') (hB : Y < X → dY sh d mi ι B q' lo st h) (hA : ¬ Y < X → dY sh d mi ι A q lo st h) : dY sh d mi ι (if Y < X then B else A) pc lo (.int y :: .int x :: st) h := by
  subst hx hw
  exact dY_ite (fun hp => y_icmpF hf (by simpa [dcmp] using hp) ht hq (hB hp)) (fun hp => y_icmpT hf (by simpa [dcmp] using hp) ht (hA hp))
theorem y_eq {off} (hf : dft mi pc = some (.if_icmp .eq off, len)) (hx : x.toInt = X) (hw : y.toInt = Y) (ht : xtg pc off = some q) (hq : pc + 3 = q') (hA : X = Y → dY sh d mi ι A q lo st h) (hB : ¬ X = Y → dY sh d mi ι B q' lo st h) : dY sh d mi ι (if X = Y then A else B) pc lo (.int y :: .int x :: st) h := by
  subst hx hw
  exact dY_ite (fun hp => y_icmpT hf (by simpa [dcmp] using hp) ht (hA hp)) (fun hp => y_icmpF hf (by simpa [dcmp] using hp) ht hq (hB hp))
theorem y_ne {off} (hf : dft mi pc = some (.if_icmp .ne off, len)) (hx : x.toInt = X) (hw : y.toInt = Y) (ht : xtg pc off = some q) (hq : pc + 3 = q') (hB : X = Y → dY sh d mi ι B q' lo st h) (hA : ¬ X = Y → dY sh d mi ι A q lo st h) : dY sh d mi ι (if X = Y then B else A) pc lo (.int y :: .int x :: st) h := by
  subst hx hw
  exact dY_ite (fun hp => y_icmpF hf (by simpa [dcmp] using hp) ht hq (hB hp)) (fun hp => y_icmpT hf (by simpa [dcmp] using hp) ht (hA hp))
theorem y_lt0 {off} (hf : dft mi pc = some (.ifCond .lt off, len)) (hx : x.toInt = X) (ht : xtg pc off = some q) (hq : pc + 3 = q') (hA : X < 0 → dY sh d mi ι A q lo st h) (hB : ¬ X < 0 → dY sh d mi ι B q' lo st h) : dY sh d mi ι (if X < 0 then A else B) pc lo (.int x :: st) h := by
  subst hx
  exact dY_ite (fun hp => y_ifT hf (by simpa [dcmp] using hp) ht (hA hp)) (fun hp => y_ifF hf (by simpa [dcmp] using hp) ht hq (hB hp))
theorem y_ge0 {off} (hf : dft mi pc = some (.ifCond .ge off, len)) (hx : x.toInt = X) (ht : xtg pc off = some q) (hq : pc + 3 = q') (hB : X < 0 → dY sh d mi ι B q' lo st h) (hA : ¬ X < 0 → dY sh d mi ι A q lo st h) : dY sh d mi ι (if X < 0 then B else A) pc lo (.int x :: st) h := by
  subst hx
  exact dY_ite (fun hp => y_ifF hf (by simpa [dcmp] using hp) ht hq (hB hp)) (fun hp => y_ifT hf (by simpa [dcmp] using hp) ht (hA hp))
theorem y_gt0 {off} (hf : dft mi pc = some (.ifCond .gt off, len)) (hx : x.toInt = X) (ht : xtg pc off = some q) (hq : pc + 3 = q') (hA : 0 < X → dY sh d mi ι A q lo st h) (hB : ¬ 0 < X → dY sh d mi ι B q' lo st h) : dY sh d mi ι (if 0 < X then A else B) pc lo (.int x :: st) h := by
  subst hx
  exact dY_ite (fun hp => y_ifT hf (by simpa [dcmp] using hp) ht (hA hp)) (fun hp => y_ifF hf (by simpa [dcmp] using hp) ht hq (hB hp))
theorem y_le0 {off} (hf : dft mi pc = some (.ifCond .le off, len)) (hx : x.toInt = X) (ht : xtg pc off = some q) (hq : pc + 3 = q') (hB : 0 < X → dY sh d mi ι B q' lo st h) (hA : ¬ 0 < X → dY sh d mi ι A q lo st h) : dY sh d mi ι (if 0 < X then B else A) pc lo (.int x :: st) h := by
  subst hx
  exact dY_ite (fun hp => y_ifF hf (by simpa [dcmp] using hp) ht hq (hB hp)) (fun hp => y_ifT hf (by simpa [dcmp] using hp) ht (hA hp))
theorem y_eq0 {off} (hf : dft mi pc = some (.ifCond .eq off, len)) (hx : x.toInt = X) (ht : xtg pc off = some q) (hq : pc + 3 = q') (hA : X = 0 → dY sh d mi ι A q lo st h) (hB : ¬ X = 0 → dY sh d mi ι B q' lo st h) : dY sh d mi ι (if X = 0 then A else B) pc lo (.int x :: st) h := by
  subst hx
  exact dY_ite (fun hp => y_ifT hf (by simpa [dcmp] using hp) ht (hA hp)) (fun hp => y_ifF hf (by simpa [dcmp] using hp) ht hq (hB hp))
theorem y_ne0 {off} (hf : dft mi pc = some (.ifCond .ne off, len)) (hx : x.toInt = X) (ht : xtg pc off = some q) (hq : pc + 3 = q') (hB : X = 0 → dY sh d mi ι B q' lo st h) (hA : ¬ X = 0 → dY sh d mi ι A q lo st h) : dY sh d mi ι (if X = 0 then B else A) pc lo (.int x :: st) h := by
  subst hx
  exact dY_ite (fun hp => y_ifF hf (by simpa [dcmp] using hp) ht hq (hB hp)) (fun hp => y_ifT hf (by simpa [dcmp] using hp) ht (hA hp))
end YY
end
