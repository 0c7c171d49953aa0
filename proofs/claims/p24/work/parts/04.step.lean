/-! one instruction, a method, a call -/
noncomputable section
section XH
variable (pc : Nat) (lo : List (Option Value)) (st : List Value) (C : List xCel) (rg : xRG) (uc us : Nat)
def xget (own idx : Nat) : xRes := match xfl own idx with
  | some (ci, k) => (match st with
    | .ref a :: r => if ci = 200 then (if xB + 10 ≤ a ∧ a < xB + 23 then (if k = 0 then xgo (pc + 3) lo (.ref (a + 20) :: r) C rg uc us else xgo (pc + 3) lo (.int 0 :: r) C rg uc us) else none)
      else (match xnth C a with
        | some (tag, fs) => if tag = ci then (match xnth fs k with
          | some v => xgo (pc + 3) lo (v :: r) C rg uc us
          | none => none) else none
        | none => none)
    | _ => none)
  | none => none
/-- does a value fit a field -/
def xfits (rg : xRG) (ty : Nat) (v : Value) : Bool := match ty with
  | 0 => xisI v
  | 1 => (match v with
    | .int x => x == 0 || x == 1
    | _ => false)
  | 3 => xisL v
  | _ => xisR v
def xput (kd own idx : Nat) : xRes := match xfl own idx with
  | some (ci, k) => (match st with
    | v :: .ref a :: r => (match xnth C a with
      | some (tag, fs) => if tag = ci ∧ ci < 100 ∧ k < fs.length then (if xfits rg (xty ci k) v then (if xfin ci k = false ∨ (kd = 2 ∧ own = ci) then xset fs k v fun fs' => xset C a (tag, fs') fun C' => xgo (pc + 3) lo r C' rg uc us else none) else none) else none
      | none => none)
    | _ => none)
  | none => none
def xgets (own idx : Nat) : xRes := match xgs own idx with
  | some k => (match xnth xStat k with
    | some q => xgo (pc + 3) lo (q.2.2.2 :: st) C rg uc us
    | none => none)
  | none => none
/-- a place of a row: the row's values where it is one of ours, or one outside -/
def xrow (tag : Nat) (a : Nat) : Option (List Value) := if a < xB then (match xnth C a with
    | some (t, xs) => if t = tag then some xs else none
    | none => none)
  else if tag = 100 then (match xnth xTab (a - xB) with
    | some l => if a < xB + 3 then some (l.map Value.int) else none
    | none => none)
  else if tag = 105 then (if xB + 30 ≤ a then (match xnth xByt (a - (xB + 30)) with
    | some l => some (l.map Value.int)
    | none => none) else none)
  else none
def xald (tag : Nat) (ok : Value → Bool) : xRes := match st with
  | i :: .ref a :: r => (match xci rg i with
    | some x => if x.toInt < 0 then none else (match xrow C tag a with
      | some xs => (match xnth xs x.toInt.toNat with
        | some v => if ok v then xgo (pc + 1) lo (v :: r) C rg uc us else none
        | none => none)
      | none => none)
    | none => xfork pc lo st C uc us (xcs rg i))
  | _ => none
def xbald : xRes := match st with
  | _ :: .ref a :: _ => if a < xB then xald pc lo st C rg uc us 101 xisI else xald pc lo st C rg uc us 105 xisI
  | _ => none
/-- which values a row takes: the class of what is laid into a row of references -/
def xtak (tag : Nat) (v : Value) : Option Value := if tag = 100 then (if xisI v then some v else none)
  else if tag = 101 then (match xci rg v with
    | some x => some (.int (vp_nar .boolean x))
    | none => none)
  else (match v with
    | .ref b => (match xnth C b with
      | some (t, _) => if (tag = 102 ∧ t = 5) ∨ (tag = 103 ∧ t = 2) then some v else none
      | none => none)
    | _ => none)
def xast (tag : Nat) : xRes := match st with
  | v :: i :: .ref a :: r => (match xci rg i with
    | some x => if x.toInt < 0 then none else (match xnth C a with
      | some (t, xs) => if t = tag ∧ x.toInt.toNat < xs.length then (match xtak C rg tag v with
        | some w => xset xs x.toInt.toNat w fun xs' => xset C a (t, xs') fun C' => xgo (pc + 1) lo r C' rg uc us
        | none => xfork pc lo st C uc us (xcs rg v)) else none
      | none => none)
    | none => xfork pc lo st C uc us (xcs rg i))
  | _ => none
def xastq : xRes := match st with
  | _ :: _ :: .ref a :: _ => (match xnth C a with
    | some (t, _) => if t = 102 then xast pc lo st C rg uc us 102 else if t = 103 then xast pc lo st C rg uc us 103 else none
    | none => none)
  | _ => none
def xaldq : xRes := match st with
  | _ :: .ref a :: _ => (match xnth C a with
    | some (t, _) => if 102 ≤ t ∧ t < 105 then xald pc lo st C rg uc us t xisR else none
    | none => none)
  | _ => none
def xalen : xRes := match st with
  | .ref a :: r => if a < xB then (match xnth C a with
      | some (t, xs) => if 100 ≤ t ∧ t < 105 then xfI (Int32.ofNat xs.length) fun z => xgo (pc + 1) lo (.int z :: r) C rg uc us else none
      | none => none)
    else if xB + 30 ≤ a then (match xnth xByt (a - (xB + 30)) with
      | some l => xfI (Int32.ofNat l.length) fun z => xgo (pc + 1) lo (.int z :: r) C rg uc us
      | none => none) else none
  | _ => none
def xnew (mc ms own idx : Nat) : xRes := match xkl own idx with
  | some ci => (match xnth xDf ci with
    | some fs => if uc + 1 ≤ mc ∧ us + fs.length ≤ ms ∧ C.length < xB ∧ ci < 100 then xfN (uc + 1) fun uc' => xfN (us + fs.length) fun us' => xgo (pc + 3) lo (.ref C.length :: st) (C ++ [(ci, fs)]) rg uc' us' else none
    | none => none)
  | none => none
def xnewa (mc ms tag : Nat) : xRes := match st with
  | .int n :: r => if 0 ≤ n.toInt ∧ n.toInt ≤ 100000 ∧ uc + 1 ≤ mc ∧ us + n.toInt.toNat ≤ ms ∧ C.length < xB then xfN (uc + 1) fun uc' => xfN (us + n.toInt.toNat) fun us' => xgo (pc + 2) lo (.ref C.length :: r) (C ++ [(tag, List.replicate n.toInt.toNat (.int 0))]) rg uc' us' else none
  | _ => none
def xnewq (mc ms own idx : Nat) : xRes := match st with
  | .int n :: r => (match xkl own idx with
    | some ci => if 0 ≤ n.toInt ∧ n.toInt ≤ 100000 ∧ uc + 1 ≤ mc ∧ us + n.toInt.toNat ≤ ms ∧ C.length < xB ∧ (ci = 5 ∨ ci = 2) then xfN (uc + 1) fun uc' => xfN (us + n.toInt.toNat) fun us' => xgo (pc + 3) lo (.ref C.length :: r) (C ++ [(if ci = 5 then 102 else 103, List.replicate n.toInt.toNat .null)]) rg uc' us' else none
    | none => none)
  | _ => none
/-- new int[n][k] -/
def xnew2 (mc ms own idx : Nat) : xRes := match st with
  | .int k :: .int n :: r => (match xkl own idx with
    | some ci => if ci = 104 ∧ 0 ≤ n.toInt ∧ n.toInt ≤ 1000 ∧ 0 ≤ k.toInt ∧ k.toInt ≤ 1000 ∧ uc + 1 + n.toInt.toNat ≤ mc ∧ us + n.toInt.toNat + n.toInt.toNat * k.toInt.toNat ≤ ms ∧ C.length + n.toInt.toNat < xB then xfN (uc + 1 + n.toInt.toNat) fun uc' => xfN (us + n.toInt.toNat + n.toInt.toNat * k.toInt.toNat) fun us' => xgo (pc + 4) lo (.ref C.length :: r) (C ++ ((104, (List.range n.toInt.toNat).map fun i => Value.ref (C.length + 1 + i)) :: List.replicate n.toInt.toNat (100, List.replicate k.toInt.toNat (.int 0)))) rg uc' us' else none
    | none => none)
  | _ => none
def xcopy : xRes := match st with
  | .int n :: .int dp :: .ref d :: .int sp :: .ref s :: r => if 0 ≤ n.toInt ∧ 0 ≤ dp.toInt ∧ 0 ≤ sp.toInt ∧ r.length ≤ 4 then (match xnth C s with
    | some (t1, xs) => (match xnth C d with
      | some (t2, ys) => if t1 = 100 ∧ t2 = 100 ∧ sp.toInt.toNat + n.toInt.toNat ≤ xs.length ∧ dp.toInt.toNat + n.toInt.toNat ≤ ys.length then xset C d (t2, ys.take dp.toInt.toNat ++ ((xs.drop sp.toInt.toNat).take n.toInt.toNat ++ ys.drop (dp.toInt.toNat + n.toInt.toNat))) fun C' => xgo (pc + 3) lo r C' rg uc us else none
      | none => none)
    | none => none) else none
  | _ => none
def xmath2 (f : Int32 → Int32 → Int32) : xRes := match st with
  | b :: a :: r => (match xci rg a with
    | some x => (match xci rg b with
      | some y => if r.length ≤ 4 then xfI (f x y) fun z => xgo (pc + 3) lo (.int z :: r) C rg uc us else none
      | none => xfork pc lo st C uc us (xcs rg b))
    | none => xfork pc lo st C uc us (xcs rg a))
  | _ => none
def xmath1 (f : Int32 → Int32) : xRes := match st with
  | a :: r => (match xci rg a with
    | some x => if r.length ≤ 4 then xfI (f x) fun z => xgo (pc + 3) lo (.int z :: r) C rg uc us else none
    | none => xfork pc lo st C uc us (xcs rg a))
  | _ => none
/-- the arguments, the first one first; what is left -/
def xpop : Nat → List Value → List Value → Option (List Value × List Value)
  | 0, acc, st => some (acc, st)
  | n + 1, acc, v :: st => xpop n (v :: acc) st
  | _ + 1, _, [] => none
def xback (uc' us' : Nat) (r : List Value) (lf : xLf) : xFr := (pc + 3, lo, lf.1.toList ++ r, lf.2.1, lf.2.2, uc', us')
def xcallR (uc' us' : Nat) (r : List Value) (o : Option (List xLf)) : xRes := match o with
  | none => none
  | some l => (match l with
    | [lf] => some (.inl (xback pc lo uc' us' r lf))
    | l => some (.inr (.inr (l.map (xback pc lo uc' us' r)))))
def xrecv (kd own : Nat) (as : List Value) : Bool := match kd with
  | 0 => true
  | _ => (match as with
    | .ref a :: _ => if own = 10 then (decide (xB + 10 ≤ a) && decide (a < xB + 23)) else (match xnth C a with
      | some (t, _) => decide (t = own) && decide (t < 100)
      | none => false)
    | _ => false)
def xcall (call : Nat → List Value → List xCel → xRG → Option (List xLf)) (mc ms kd j : Nat) : xRes := match xmi j with
  | some (_, _, own, na, _, _, kd', mc', ms', _) => if kd' = kd then (match xpop na [] st with
    | some (as, r) => if r.length ≤ 4 ∧ uc + mc' ≤ mc ∧ us + ms' ≤ ms ∧ xrecv C kd own as = true then xfN (uc + mc') fun uc' => xfN (us + ms') fun us' => xcallR pc lo uc' us' r (call j as C rg) else none
    | none => none) else none
  | none => none
/-- calls of what is no method of ours -/
def xspec (kd own idx : Nat) (call : Nat → xRes) : xRes := match xml own idx with
  | some 0 => (match st with
    | .ref _ :: r => if kd = 2 ∧ r.length ≤ 4 then xgo (pc + 3) lo r C rg uc us else none
    | _ => none)
  | some 1 => if kd = 0 then xcopy pc lo st C rg uc us else none
  | some 2 => if kd = 0 then xmath2 pc lo st C rg uc us (fun x y => if x < y then y else x) else none
  | some 3 => if kd = 0 then xmath2 pc lo st C rg uc us (fun x y => if y < x then y else x) else none
  | some 4 => if kd = 0 then xmath1 pc lo st C rg uc us (fun x => if x < 0 then -x else x) else none
  | some j => call (j - 10)
  | none => none
/-- does an answer fit -/
def xrfit (rk : Nat) (v : Value) : Bool := match rk with
  | 1 => xisI v
  | 2 => xisL v
  | 3 => (match v with
    | .int x => x == 0 || x == 1
    | _ => false)
  | 4 => (match v with
    | .int x => x.toInt8.toInt32 == x
    | _ => false)
  | 5 => (match v with
    | .int x => decide (narrow .char (.int x) = .int x)
    | _ => false)
  | _ => false
def xret (mc ms rk : Nat) : xRes := match st with
  | [v] => if uc = mc ∧ us ≤ ms ∧ xrfit rk v = true then some (.inr (.inl (some v, C, rg))) else none
  | _ => none
end XH
def xldc (own idx : Nat) : Option Value := match xco own idx with
  | some v => some (.int v)
  | none => (match xls own idx with
    | some i => some (.ref (xB + 10 + i))
    | none => none)
/-- one instruction of method (own, mx, rk, kd, mc, ms) -/
def xstepI (call : Nat → List Value → List xCel → xRG → Option (List xLf)) (own mx rk kd mc ms : Nat) (I : Instr) (len : Nat) (pc : Nat) (lo : List (Option Value)) (st : List Value) (C : List xCel) (rg : xRG) (uc us : Nat) : xRes := match I with
  | .iload_n k => xload pc lo st C rg uc us xisI k.val 1
  | .iload i => xload pc lo st C rg uc us xisI i 2
  | .aload_n k => xload pc lo st C rg uc us xisR k.val 1
  | .aload i => xload pc lo st C rg uc us xisR i 2
  | .lload_n k => xload pc lo st C rg uc us xisL k.val 1
  | .lload i => xload pc lo st C rg uc us xisL i 2
  | .istore_n k => xstore1 pc lo st C rg uc us xisI mx k.val 1
  | .istore i => xstore1 pc lo st C rg uc us xisI mx i 2
  | .astore_n k => xstore1 pc lo st C rg uc us xisR mx k.val 1
  | .astore i => xstore1 pc lo st C rg uc us xisR mx i 2
  | .lstore_n k => xstore2 pc lo st C rg uc us mx k.val 1
  | .lstore i => xstore2 pc lo st C rg uc us mx i 2
  | .iconst n => xgo (pc + 1) lo (.int (Int32.ofInt n) :: st) C rg uc us
  | .bipush n => xgo (pc + 2) lo (.int (Int8.ofInt n).toInt32 :: st) C rg uc us
  | .sipush n => xgo (pc + 3) lo (.int (Int16.ofInt n).toInt32 :: st) C rg uc us
  | .lconst n => xgo (pc + 1) lo (.long (Int64.ofNat n.val) :: st) C rg uc us
  | .ldc idx => (match xldc own idx with
    | some v => xgo (pc + 2) lo (v :: st) C rg uc us
    | none => none)
  | .ldc_w idx => (match xco own idx with
    | some v => xgo (pc + 3) lo (.int v :: st) C rg uc us
    | none => none)
  | .ldc2_w idx => (match xcoL own idx with
    | some v => xgo (pc + 3) lo (.long v :: st) C rg uc us
    | none => none)
  | .iadd => xadd pc lo st C rg uc us
  | .isub => xbin pc lo st C rg uc us (fun x y => some (x - y))
  | .imul => xbin pc lo st C rg uc us (fun x y => some (x * y))
  | .iand => xbin pc lo st C rg uc us (fun x y => some (x &&& y))
  | .ior => xbin pc lo st C rg uc us (fun x y => some (x ||| y))
  | .ixor => xbin pc lo st C rg uc us (fun x y => some (x ^^^ y))
  | .ishl => xbin pc lo st C rg uc us (fun x y => some (x <<< (y &&& 31)))
  | .ishr => xbin pc lo st C rg uc us (fun x y => some (x >>> (y &&& 31)))
  | .iushr => xbin pc lo st C rg uc us (fun x y => some (x.toUInt32 >>> (y.toUInt32 &&& Int32.toUInt32 31)).toInt32)
  | .idiv => xbin pc lo st C rg uc us (fun x y => if y = 0 then none else some (x / y))
  | .irem => xbin pc lo st C rg uc us (fun x y => if y = 0 then none else some (x - x / y * y))
  | .ineg => xun pc lo st C rg uc us (fun x => -x)
  | .i2b => xun pc lo st C rg uc us (fun x => x.toInt8.toInt32)
  | .i2s => xun pc lo st C rg uc us (fun x => x.toInt16.toInt32)
  | .i2c => xun pc lo st C rg uc us (fun x => (x.toUInt32 % 65536).toInt32)
  | .ladd => xbinL pc lo st C rg uc us (fun x y => some (x + y))
  | .lsub => xbinL pc lo st C rg uc us (fun x y => some (x - y))
  | .lmul => xbinL pc lo st C rg uc us (fun x y => some (x * y))
  | .ldiv => xbinL pc lo st C rg uc us (fun x y => if y = 0 then none else some (x / y))
  | .lrem => xbinL pc lo st C rg uc us (fun x y => if y = 0 then none else some (x - x / y * y))
  | .i2l => xi2l pc lo st C rg uc us
  | .l2i => xl2i pc lo st C rg uc us
  | .lcmp => xlcmp pc lo st C rg uc us
  | .if_icmp c off => xicmp pc lo st C rg uc us c off
  | .ifCond c off => xif pc lo st C rg uc us c off
  | .goto off => xjump pc off lo st C rg uc us
  | .iinc i n => xiinc pc lo st C rg uc us mx i n
  | .tableswitch d low hi offs => xtable pc lo st C rg uc us d low hi offs.toList
  | .lookupswitch d ps => xlook pc lo st C rg uc us d ps.toList
  | .dup => xdup pc lo st C rg uc us
  | .dup2 => xdup2 pc lo st C rg uc us
  | .pop => xpop1 pc lo st C rg uc us
  | .getfield idx => xget pc lo st C rg uc us own idx
  | .putfield idx => xput pc lo st C rg uc us kd own idx
  | .getstatic idx => xgets pc lo st C rg uc us own idx
  | .iaload => xald pc lo st C rg uc us 100 xisI
  | .baload => xbald pc lo st C rg uc us
  | .aaload => xaldq pc lo st C rg uc us
  | .iastore => xast pc lo st C rg uc us 100
  | .bastore => xast pc lo st C rg uc us 101
  | .aastore => xastq pc lo st C rg uc us
  | .arraylength => xalen pc lo st C rg uc us
  | .new idx => xnew pc lo st C rg uc us mc ms own idx
  | .newarray .int => xnewa pc lo st C rg uc us mc ms 100
  | .newarray .boolean => xnewa pc lo st C rg uc us mc ms 101
  | .anewarray idx => xnewq pc lo st C rg uc us mc ms own idx
  | .multianewarray idx 2 => xnew2 pc lo st C rg uc us mc ms own idx
  | .invokestatic idx => xspec pc lo st C rg uc us 0 own idx (xcall pc lo st C rg uc us call mc ms 0)
  | .invokevirtual idx => xspec pc lo st C rg uc us 1 own idx (xcall pc lo st C rg uc us call mc ms 1)
  | .invokespecial idx => xspec pc lo st C rg uc us 2 own idx (xcall pc lo st C rg uc us call mc ms 2)
  | .ireturn => if rk = 2 then none else xret st C rg uc us mc ms rk
  | .lreturn => if rk = 2 then xret st C rg uc us mc ms rk else none
  | .return_ => if rk = 0 ∧ uc = mc ∧ us ≤ ms then (match st with
    | [] => some (.inr (.inl (none, C, rg)))
    | _ => none) else none
  | _ => none
def xstep (call : Nat → List Value → List xCel → xRG → Option (List xLf)) (mi : xMI) : xFr → xRes
  | (pc, lo, st, C, rg, uc, us) => xfN pc fun pc => match mi with
    | (_, _, own, _, mx, rk, kd, mc, ms, tb) => (match xfetch tb pc with
      | some (I, len) => xstepI call own mx rk kd mc ms I len pc lo st C rg uc us
      | none => none)
def xall (g : xFr → Option (List xLf)) : List xFr → Option (List xLf)
  | [] => some []
  | f :: fs => (match g f with
    | none => none
    | some a => (match xall g fs with
      | none => none
      | some b => some (a ++ b)))
def xrun (call : Nat → List Value → List xCel → xRG → Option (List xLf)) (mi : xMI) (k : Nat) : xFr → Option (List xLf) := Nat.rec (motive := fun _ => xFr → Option (List xLf)) (fun _ => none) (fun _ ih f => match xstep call mi f with
    | none => none
    | some (.inl f') => ih f'
    | some (.inr (.inl r)) => some [r]
    | some (.inr (.inr fs)) => xall ih fs) k
theorem xrun_succ (call : Nat → List Value → List xCel → xRG → Option (List xLf)) (mi : xMI) (k : Nat) (f : xFr) : xrun call mi (k + 1) f = match xstep call mi f with
    | none => none
    | some (.inl f') => xrun call mi k f'
    | some (.inr (.inl r)) => some [r]
    | some (.inr (.inr fs)) => xall (xrun call mi k) fs := rfl
def xwid : List Value → Nat
  | [] => 0
  | v :: vs => (if xc2 v then 2 else 1) + xwid vs
/-- the locals with which a method begins -/
def xlocs : Nat → List Value → List (Option Value)
  | n, [] => List.replicate n none
  | n, v :: vs => if xc2 v then some v :: none :: xlocs (n - 2) vs else some v :: xlocs (n - 1) vs
def xexec (k : Nat) : Nat → Nat → List Value → List xCel → xRG → Option (List xLf)
  | 0 => fun _ _ _ _ => none
  | d + 1 => fun j as C rg => match xmi j with
    | some mi => if xwid as ≤ mi.2.2.2.2.1 then xrun (xexec k d) mi k (0, xlocs mi.2.2.2.2.1 as, ([] : List Value), C, rg, 0, 0) else none
    | none => none
end
