/-! the same engine, its decoding kept for the next time that a place is come by -/
noncomputable section
abbrev xOp : Type := (Nat → List Value → List xCel → xRG → Option (List xLf)) → Nat → List (Option Value) → List Value → List xCel → xRG → Nat → Nat → xRes
def xdec (own mx rk kd mc ms : Nat) (I : Instr) (len : Nat) : xOp × Unit := match I with
  | .iload_n k => (fun call pc lo st C rg uc us => xload pc lo st C rg uc us xisI k.val 1, ())
  | .iload i => (fun call pc lo st C rg uc us => xload pc lo st C rg uc us xisI i 2, ())
  | .aload_n k => (fun call pc lo st C rg uc us => xload pc lo st C rg uc us xisR k.val 1, ())
  | .aload i => (fun call pc lo st C rg uc us => xload pc lo st C rg uc us xisR i 2, ())
  | .lload_n k => (fun call pc lo st C rg uc us => xload pc lo st C rg uc us xisL k.val 1, ())
  | .lload i => (fun call pc lo st C rg uc us => xload pc lo st C rg uc us xisL i 2, ())
  | .istore_n k => (fun call pc lo st C rg uc us => xstore1 pc lo st C rg uc us xisI mx k.val 1, ())
  | .istore i => (fun call pc lo st C rg uc us => xstore1 pc lo st C rg uc us xisI mx i 2, ())
  | .astore_n k => (fun call pc lo st C rg uc us => xstore1 pc lo st C rg uc us xisR mx k.val 1, ())
  | .astore i => (fun call pc lo st C rg uc us => xstore1 pc lo st C rg uc us xisR mx i 2, ())
  | .lstore_n k => (fun call pc lo st C rg uc us => xstore2 pc lo st C rg uc us mx k.val 1, ())
  | .lstore i => (fun call pc lo st C rg uc us => xstore2 pc lo st C rg uc us mx i 2, ())
  | .iconst n => (fun call pc lo st C rg uc us => xgo (pc + 1) lo (.int (Int32.ofInt n) :: st) C rg uc us, ())
  | .bipush n => (fun call pc lo st C rg uc us => xgo (pc + 2) lo (.int (Int8.ofInt n).toInt32 :: st) C rg uc us, ())
  | .sipush n => (fun call pc lo st C rg uc us => xgo (pc + 3) lo (.int (Int16.ofInt n).toInt32 :: st) C rg uc us, ())
  | .lconst n => (fun call pc lo st C rg uc us => xgo (pc + 1) lo (.long (Int64.ofNat n.val) :: st) C rg uc us, ())
  | .ldc idx => (fun call pc lo st C rg uc us => (match xldc own idx with
    | some v => xgo (pc + 2) lo (v :: st) C rg uc us
    | none => none), ())
  | .ldc_w idx => (fun call pc lo st C rg uc us => (match xco own idx with
    | some v => xgo (pc + 3) lo (.int v :: st) C rg uc us
    | none => none), ())
  | .ldc2_w idx => (fun call pc lo st C rg uc us => (match xcoL own idx with
    | some v => xgo (pc + 3) lo (.long v :: st) C rg uc us
    | none => none), ())
  | .iadd => (fun call pc lo st C rg uc us => xadd pc lo st C rg uc us, ())
  | .isub => (fun call pc lo st C rg uc us => xbin pc lo st C rg uc us (fun x y => some (x - y)), ())
  | .imul => (fun call pc lo st C rg uc us => xbin pc lo st C rg uc us (fun x y => some (x * y)), ())
  | .iand => (fun call pc lo st C rg uc us => xbin pc lo st C rg uc us (fun x y => some (x &&& y)), ())
  | .ior => (fun call pc lo st C rg uc us => xbin pc lo st C rg uc us (fun x y => some (x ||| y)), ())
  | .ixor => (fun call pc lo st C rg uc us => xbin pc lo st C rg uc us (fun x y => some (x ^^^ y)), ())
  | .ishl => (fun call pc lo st C rg uc us => xbin pc lo st C rg uc us (fun x y => some (x <<< (y &&& 31))), ())
  | .ishr => (fun call pc lo st C rg uc us => xbin pc lo st C rg uc us (fun x y => some (x >>> (y &&& 31))), ())
  | .iushr => (fun call pc lo st C rg uc us => xbin pc lo st C rg uc us (fun x y => some (x.toUInt32 >>> (y.toUInt32 &&& Int32.toUInt32 31)).toInt32), ())
  | .idiv => (fun call pc lo st C rg uc us => xbin pc lo st C rg uc us (fun x y => if y = 0 then none else some (x / y)), ())
  | .irem => (fun call pc lo st C rg uc us => xbin pc lo st C rg uc us (fun x y => if y = 0 then none else some (x - x / y * y)), ())
  | .ineg => (fun call pc lo st C rg uc us => xun pc lo st C rg uc us (fun x => -x), ())
  | .i2b => (fun call pc lo st C rg uc us => xun pc lo st C rg uc us (fun x => x.toInt8.toInt32), ())
  | .i2s => (fun call pc lo st C rg uc us => xun pc lo st C rg uc us (fun x => x.toInt16.toInt32), ())
  | .i2c => (fun call pc lo st C rg uc us => xun pc lo st C rg uc us (fun x => (x.toUInt32 % 65536).toInt32), ())
  | .ladd => (fun call pc lo st C rg uc us => xbinL pc lo st C rg uc us (fun x y => some (x + y)), ())
  | .lsub => (fun call pc lo st C rg uc us => xbinL pc lo st C rg uc us (fun x y => some (x - y)), ())
  | .lmul => (fun call pc lo st C rg uc us => xbinL pc lo st C rg uc us (fun x y => some (x * y)), ())
  | .ldiv => (fun call pc lo st C rg uc us => xbinL pc lo st C rg uc us (fun x y => if y = 0 then none else some (x / y)), ())
  | .lrem => (fun call pc lo st C rg uc us => xbinL pc lo st C rg uc us (fun x y => if y = 0 then none else some (x - x / y * y)), ())
  | .i2l => (fun call pc lo st C rg uc us => xi2l pc lo st C rg uc us, ())
  | .l2i => (fun call pc lo st C rg uc us => xl2i pc lo st C rg uc us, ())
  | .lcmp => (fun call pc lo st C rg uc us => xlcmp pc lo st C rg uc us, ())
  | .if_icmp c off => (fun call pc lo st C rg uc us => xicmp pc lo st C rg uc us c off, ())
  | .ifCond c off => (fun call pc lo st C rg uc us => xif pc lo st C rg uc us c off, ())
  | .goto off => (fun call pc lo st C rg uc us => xjump pc off lo st C rg uc us, ())
  | .iinc i n => (fun call pc lo st C rg uc us => xiinc pc lo st C rg uc us mx i n, ())
  | .tableswitch d low hi offs => (fun call pc lo st C rg uc us => xtable pc lo st C rg uc us d low hi offs.toList, ())
  | .lookupswitch d ps => (fun call pc lo st C rg uc us => xlook pc lo st C rg uc us d ps.toList, ())
  | .dup => (fun call pc lo st C rg uc us => xdup pc lo st C rg uc us, ())
  | .dup2 => (fun call pc lo st C rg uc us => xdup2 pc lo st C rg uc us, ())
  | .pop => (fun call pc lo st C rg uc us => xpop1 pc lo st C rg uc us, ())
  | .getfield idx => (fun call pc lo st C rg uc us => xget pc lo st C rg uc us own idx, ())
  | .putfield idx => (fun call pc lo st C rg uc us => xput pc lo st C rg uc us kd own idx, ())
  | .getstatic idx => (fun call pc lo st C rg uc us => xgets pc lo st C rg uc us own idx, ())
  | .iaload => (fun call pc lo st C rg uc us => xald pc lo st C rg uc us 100 xisI, ())
  | .baload => (fun call pc lo st C rg uc us => xbald pc lo st C rg uc us, ())
  | .aaload => (fun call pc lo st C rg uc us => xaldq pc lo st C rg uc us, ())
  | .iastore => (fun call pc lo st C rg uc us => xast pc lo st C rg uc us 100, ())
  | .bastore => (fun call pc lo st C rg uc us => xast pc lo st C rg uc us 101, ())
  | .aastore => (fun call pc lo st C rg uc us => xastq pc lo st C rg uc us, ())
  | .arraylength => (fun call pc lo st C rg uc us => xalen pc lo st C rg uc us, ())
  | .new idx => (fun call pc lo st C rg uc us => xnew pc lo st C rg uc us mc ms own idx, ())
  | .newarray .int => (fun call pc lo st C rg uc us => xnewa pc lo st C rg uc us mc ms 100, ())
  | .newarray .boolean => (fun call pc lo st C rg uc us => xnewa pc lo st C rg uc us mc ms 101, ())
  | .anewarray idx => (fun call pc lo st C rg uc us => xnewq pc lo st C rg uc us mc ms own idx, ())
  | .multianewarray idx 2 => (fun call pc lo st C rg uc us => xnew2 pc lo st C rg uc us mc ms own idx, ())
  | .invokestatic idx => (fun call pc lo st C rg uc us => xspec pc lo st C rg uc us 0 own idx (xcall pc lo st C rg uc us call mc ms 0), ())
  | .invokevirtual idx => (fun call pc lo st C rg uc us => xspec pc lo st C rg uc us 1 own idx (xcall pc lo st C rg uc us call mc ms 1), ())
  | .invokespecial idx => (fun call pc lo st C rg uc us => xspec pc lo st C rg uc us 2 own idx (xcall pc lo st C rg uc us call mc ms 2), ())
  | .ireturn => (fun call pc lo st C rg uc us => if rk = 2 then none else xret st C rg uc us mc ms rk, ())
  | .lreturn => (fun call pc lo st C rg uc us => if rk = 2 then xret st C rg uc us mc ms rk else none, ())
  | .return_ => (fun call pc lo st C rg uc us => if rk = 0 ∧ uc = mc ∧ us ≤ ms then (match st with
    | [] => some (.inr (.inl (none, C, rg)))
    | _ => none) else none, ())
  | _ => (fun call pc lo st C rg uc us => none, ())
set_option maxHeartbeats 4000000 in
theorem xdec_eq (own mx rk kd mc ms : Nat) (I : Instr) (len : Nat) (call : Nat → List Value → List xCel → xRG → Option (List xLf)) (pc : Nat) (lo : List (Option Value)) (st : List Value) (C : List xCel) (rg : xRG) (uc us : Nat) : (xdec own mx rk kd mc ms I len).1 call pc lo st C rg uc us = xstepI call own mx rk kd mc ms I len pc lo st C rg uc us := by
  cases I <;> first
    | rfl
    | (rename_i t; cases t <;> rfl)
    | (rename_i t n; rcases n with _ | _ | _ | n <;> rfl)
def xop (mi : xMI) (pc : Nat) : xOp × Unit := match mi with
  | (_, _, own, _, mx, rk, kd, mc, ms, tb) => (match xfetch tb pc with
    | some (I, len) => xdec own mx rk kd mc ms I len
    | none => (fun _ _ _ _ _ _ _ _ => none, ()))
def xstepQ (call : Nat → List Value → List xCel → xRG → Option (List xLf)) (mi : xMI) : xFr → xRes
  | (pc, lo, st, C, rg, uc, us) => xfN pc fun pc => (xop mi pc).1 call pc lo st C rg uc us
theorem xstepQ_eq (call : Nat → List Value → List xCel → xRG → Option (List xLf)) (mi : xMI) (f : xFr) : xstepQ call mi f = xstep call mi f := by
  obtain ⟨pc, lo, st, C, rg, uc, us⟩ := f
  obtain ⟨y, cl, own, na, mx, rk, kd, mc, ms, tb⟩ := mi
  unfold xstepQ xstep
  simp only [xfN_eq]
  unfold xop
  cases h : xfetch tb pc with
  | none => simp only [h]
  | some e => simp only [h]; exact xdec_eq own mx rk kd mc ms e.1 e.2 call pc lo st C rg uc us
def xrunQ (call : Nat → List Value → List xCel → xRG → Option (List xLf)) (mi : xMI) (k : Nat) : xFr → Option (List xLf) := Nat.rec (motive := fun _ => xFr → Option (List xLf)) (fun _ => none) (fun _ ih f => match xstepQ call mi f with
    | none => none
    | some (.inl f') => ih f'
    | some (.inr (.inl r)) => some [r]
    | some (.inr (.inr fs)) => xall ih fs) k
theorem xrunQ_eq (call : Nat → List Value → List xCel → xRG → Option (List xLf)) (mi : xMI) : ∀ k, xrunQ call mi k = xrun call mi k
  | 0 => rfl
  | k + 1 => by
    funext f
    rw [xrun_succ, ← xrunQ_eq call mi k, ← xstepQ_eq]
    rfl
def xexecQ (k : Nat) : Nat → Nat → List Value → List xCel → xRG → Option (List xLf)
  | 0 => fun _ _ _ _ => none
  | d + 1 => fun j as C rg => match xmi j with
    | some mi => if xwid as ≤ mi.2.2.2.2.1 then xrunQ (xexecQ k d) mi k (0, xlocs mi.2.2.2.2.1 as, ([] : List Value), C, rg, 0, 0) else none
    | none => none
theorem xexecQ_eq (k : Nat) : ∀ d, xexecQ k d = xexec k d
  | 0 => rfl
  | d + 1 => by
    funext j as C rg
    unfold xexecQ xexec
    rw [xexecQ_eq k d]
    cases xmi j with
    | none => rfl
    | some mi => simp only [xrunQ_eq]
end
