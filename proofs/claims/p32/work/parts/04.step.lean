section
/-! one instruction, a method, a call -/
noncomputable section
section XH
variable (pc : Nat) (lo : List (Option Value)) (st : List Value) (C : List xCel) (rg : xRG) (uc us : Nat)
def xget (own idx : Nat) : xRes := match xfl own idx with
  | some (ci, k) => (match st with
    | .ref a :: r => if ci = 200 then (if xB + 10 ≤ a ∧ a < xB + 23 then (if k = 0 then xgo (pc + 3) lo (.ref (a + 20) :: r) C rg uc us else xgo (pc + 3) lo (.int 0 :: r) C rg uc us) else none)
      else (match xnth C a with
        | some (tag, fs) => if tag = ci then (match xnth fs k with
          | some v => xgo (pc + 3) lo (v :: r) C rg uc us
          | none => none) else none
        | none => none)
    | _ => none)
  | none => none
/-- does a value fit a field -/
def xfits (rg : xRG) (ty : Nat) (v : Value) : Bool := match ty with
  | 0 => xisI v
  | 1 => (match v with
    | .int x => x == 0 || x == 1
    | _ => false)
  | 3 => xisL v
  | _ => xisR v
def xput (kd own idx : Nat) : xRes := match xfl own idx with
  | some (ci, k) => (match st with
    | v :: .ref a :: r => (match xnth C a with
      | some (tag, fs) => if tag = ci ∧ ci < 100 ∧ k < fs.length then (if xfits rg (xty ci k) v then (if xfin ci k = false ∨ (kd = 2 ∧ own = ci) then xset fs k v fun fs' => xset C a (tag, fs') fun C' => xgo (pc + 3) lo r C' rg uc us else none) else none) else none
      | none => none)
    | _ => none)
  | none => none
def xgets (own idx : Nat) : xRes := match xgs own idx with
  | some k => (match xnth xStat k with
    | some q => xgo (pc + 3) lo (q.2.2.2 :: st) C rg uc us
    | none => none)
  | none => none
/-- a place of a row: the row's values where it is one of ours, or one outside -/
def xrow (tag : Nat) (a : Nat) : Option (List Value) := if a < xB then (match xnth C a with
    | some (t, xs) => if t = tag then some xs else none
    | none => none)
  else if tag = 100 then (match xnth xTab (a - xB) with
    | some l => if a < xB + 3 then some (l.map Value.int) else none
    | none => none)
  else if tag = 105 then (if xB + 30 ≤ a then (match xnth xByt (a - (xB + 30)) with
    | some l => some (l.map Value.int)
    | none => none) else none)
  else none
def xald (tag : Nat) (ok : Value → Bool) : xRes := match st with
  | i :: .ref a :: r => (match xci rg i with
    | some x => if x.toInt < 0 then none else (match xrow C tag a with
      | some xs => (match xnth xs x.toInt.toNat with
        | some v => if ok v then xgo (pc + 1) lo (v :: r) C rg uc us else none
        | none => none)
      | none => none)
    | none => xfork pc lo st C uc us (xcs rg i))
  | _ => none
def xbald : xRes := match st with
  | _ :: .ref a :: _ => if a < xB then xald pc lo st C rg uc us 101 xisI else xald pc lo st C rg uc us 105 xisI
  | _ => none
/-- which values a row takes: the class of what is laid into a row of references -/
def xtak (tag : Nat) (v : Value) : Option Value := if tag = 100 then (if xisI v then some v else none)
  else if tag = 101 then (match xci rg v with
    | some x => some (.int (vp_nar .boolean x))
    | none => none)
  else (match v with
    | .ref b => (match xnth C b with
      | some (t, _) => if (tag = 102 ∧ t = 5) ∨ (tag = 103 ∧ t = 2) then some v else none
      | none => none)
    | _ => none)
def xast (tag : Nat) : xRes := match st with
  | v :: i :: .ref a :: r => (match xci rg i with
    | some x => if x.toInt < 0 then none else (match xnth C a with
      | some (t, xs) => if t = tag ∧ x.toInt.toNat < xs.length then (match xtak C rg tag v with
        | some w => xset xs x.toInt.toNat w fun xs' => xset C a (t, xs') fun C' => xgo (pc + 1) lo r C' rg uc us
        | none => xfork pc lo st C uc us (xcs rg v)) else none
      | none => none)
    | none => xfork pc lo st C uc us (xcs rg i))
  | _ => none
def xastq : xRes := match st with
  | _ :: _ :: .ref a :: _ => (match xnth C a with
    | some (t, _) => if t = 102 then xast pc lo st C rg uc us 102 else if t = 103 then xast pc lo st C rg uc us 103 else none
    | none => none)
  | _ => none
def xaldq : xRes := match st with
  | _ :: .ref a :: _ => (match xnth C a with
    | some (t, _) => if 102 ≤ t ∧ t < 105 then xald pc lo st C rg uc us t xisR else none
    | none => none)
  | _ => none
def xalen : xRes := match st with
  | .ref a :: r => if a < xB then (match xnth C a with
      | some (t, xs) => if 100 ≤ t ∧ t < 105 then xfI (Int32.ofNat xs.length) fun z => xgo (pc + 1) lo (.int z :: r) C rg uc us else none
      | none => none)
    else if xB + 30 ≤ a then (match xnth xByt (a - (xB + 30)) with
      | some l => xfI (Int32.ofNat l.length) fun z => xgo (pc + 1) lo (.int z :: r) C rg uc us
      | none => none) else none
  | _ => none
def xnew (mc ms own idx : Nat) : xRes := match xkl own idx with
  | some ci => (match xnth xDf ci with
    | some fs => if uc + 1 ≤ mc ∧ us + fs.length ≤ ms ∧ C.length < xB ∧ ci < 100 then xfN (uc + 1) fun uc' => xfN (us + fs.length) fun us' => xgo (pc + 3) lo (.ref C.length :: st) (C ++ [(ci, fs)]) rg uc' us' else none
    | none => none)
  | none => none
def xnewa (mc ms tag : Nat) : xRes := match st with
  | .int n :: r => if 0 ≤ n.toInt ∧ n.toInt ≤ 100000 ∧ uc + 1 ≤ mc ∧ us + n.toInt.toNat ≤ ms ∧ C.length < xB then xfN (uc + 1) fun uc' => xfN (us + n.toInt.toNat) fun us' => xgo (pc + 2) lo (.ref C.length :: r) (C ++ [(tag, List.replicate n.toInt.toNat (.int 0))]) rg uc' us' else none
  | _ => none
def xnewq (mc ms own idx : Nat) : xRes := match st with
  | .int n :: r => (match xkl own idx with
    | some ci => if 0 ≤ n.toInt ∧ n.toInt ≤ 100000 ∧ uc + 1 ≤ mc ∧ us + n.toInt.toNat ≤ ms ∧ C.length < xB ∧ (ci = 5 ∨ ci = 2) then xfN (uc + 1) fun uc' => xfN (us + n.toInt.toNat) fun us' => xgo (pc + 3) lo (.ref C.length :: r) (C ++ [(if ci = 5 then 102 else 103, List.replicate n.toInt.toNat .null)]) rg uc' us' else none
    | none => none)
  | _ => none
/-- new int[n][k] -/
def xnew2 (mc ms own idx : Nat) : xRes := match st with
  | .int k :: .int n :: r => (match xkl own idx with
    | some ci => if ci = 104 ∧ 0 ≤ n.toInt ∧ n.toInt ≤ 1000 ∧ 0 ≤ k.toInt ∧ k.toInt ≤ 1000 ∧ uc + 1 + n.toInt.toNat ≤ mc ∧ us + n.toInt.toNat + n.toInt.toNat * k.toInt.toNat ≤ ms ∧ C.length + n.toInt.toNat < xB then xfN (uc + 1 + n.toInt.toNat) fun uc' => xfN (us + n.toInt.toNat + n.toInt.toNat * k.toInt.toNat) fun us' => xgo (pc + 4) lo (.ref C.length :: r) (C ++ ((104, (List.range n.toInt.toNat).map fun i => Value.ref (C.length + 1 + i)) :: List.replicate n.toInt.toNat (100, List.replicate k.toInt.toNat (.int 0)))) rg uc' us' else none
    | none => none)
  | _ => none
def xcopy : xRes := match st with
  | .int n :: .int dp :: .ref d :: .int sp :: .ref s :: r => if 0 ≤ n.toInt ∧ 0 ≤ dp.toInt ∧ 0 ≤ sp.toInt ∧ r.length ≤ 4 then (match xnth C s with
    | some (t1, xs) => (match xnth C d with
      | some (t2, ys) => if t1 = 100 ∧ t2 = 100 ∧ sp.toInt.toNat + n.toInt.toNat ≤ xs.length ∧ dp.toInt.toNat + n.toInt.toNat ≤ ys.length then xset C d (t2, ys.take dp.toInt.toNat ++ ((xs.drop sp.toInt.toNat).take n.toInt.toNat ++ ys.drop (dp.toInt.toNat + n.toInt.toNat))) fun C' => xgo (pc + 3) lo r C' rg uc us else none
      | none => none)
    | none => none) else none
  | _ => none
def xmath2 (f : Int32 → Int32 → Int32) : xRes := match st with
  | b :: a :: r => (match xci rg a with
    | some x => (match xci rg b with
      | some y => if r.length ≤ 4 then xfI (f x y) fun z => xgo (pc + 3) lo (.int z :: r) C rg uc us else none
      | none => xfork pc lo st C uc us (xcs rg b))
    | none => xfork pc lo st C uc us (xcs rg a))
  | _ => none
def xmath1 (f : Int32 → Int32) : xRes := match st with
  | a :: r => (match xci rg a with
    | some x => if r.length ≤ 4 then xfI (f x) fun z => xgo (pc + 3) lo (.int z :: r) C rg uc us else none
    | none => xfork pc lo st C uc us (xcs rg a))
  | _ => none
/-- the arguments, the first one first; what is left -/
def xpop : Nat → List Value → List Value → Option (List Value × List Value)
  | 0, acc, st => some (acc, st)
  | n + 1, acc, v :: st => xpop n (v :: acc) st
  | _ + 1, _, [] => none
def xback (uc' us' : Nat) (r : List Value) (lf : xLf) : xFr := (pc + 3, lo, lf.1.toList ++ r, lf.2.1, lf.2.2, uc', us')
def xcallR (uc' us' : Nat) (r : List Value) (o : Option (List xLf)) : xRes := match o with
  | none => none
  | some l => (match l with
    | [lf] => some (.inl (xback pc lo uc' us' r lf))
    | l => some (.inr (.inr (l.map (xback pc lo uc' us' r)))))
def xrecv (kd own : Nat) (as : List Value) : Bool := match kd with
  | 0 => true
  | _ => (match as with
    | .ref a :: _ => if own = 10 then (decide (xB + 10 ≤ a) && decide (a < xB + 23)) else (match xnth C a with
      | some (t, _) => decide (t = own) && decide (t < 100)
      | none => false)
    | _ => false)
def xcall (call : Nat → List Value → List xCel → xRG → Option (List xLf)) (mc ms kd j : Nat) : xRes := match xmi j with
  | some (_, _, own, na, _, _, kd', mc', ms', _) => if kd' = kd then (match xpop na [] st with
    | some (as, r) => if r.length ≤ 4 ∧ uc + mc' ≤ mc ∧ us + ms' ≤ ms ∧ xrecv C kd own as = true then xfN (uc + mc') fun uc' => xfN (us + ms') fun us' => xcallR pc lo uc' us' r (call j as C rg) else none
    | none => none) else none
  | none => none
/-- calls of what is no method of ours -/
def xspec (kd own idx : Nat) (call : Nat → xRes) : xRes := match xml own idx with
  | some 0 => (match st with
    | .ref _ :: r => if kd = 2 ∧ r.length ≤ 4 then xgo (pc + 3) lo r C rg uc us else none
    | _ => none)
  | some 1 => if kd = 0 then xcopy pc lo st C rg uc us else none
  | some 2 => if kd = 0 then xmath2 pc lo st C rg uc us (fun x y => if x < y then y else x) else none
  | some 3 => if kd = 0 then xmath2 pc lo st C rg uc us (fun x y => if y < x then y else x) else none
  | some 4 => if kd = 0 then xmath1 pc lo st C rg uc us (fun x => if x < 0 then -x else x) else none
  | some j => call (j - 10)
  | none => none
/-- does an answer fit -/
def xrfit (rk : Nat) (v : Value) : Bool := match rk with
  | 1 => xisI v
  | 2 => xisL v
  | 3 => (match v with
    | .int x => x == 0 || x == 1
    | _ => false)
  | 4 => (match v with
    | .int x => x.toInt8.toInt32 == x
    | _ => false)
  | 5 => (match v with
    | .int x => decide (narrow .char (.int x) = .int x)
    | _ => false)
  | _ => false
def xret (mc ms rk : Nat) : xRes := match st with
  | [v] => if uc = mc ∧ us ≤ ms ∧ xrfit rk v = true then some (.inr (.inl (some v, C, rg))) else none
  | _ => none
end XH
def xldc (own idx : Nat) : Option Value := match xco own idx with
  | some v => some (.int v)
  | none => (match xls own idx with
    | some i => some (.ref (xB + 10 + i))
    | none => none)
/-- one instruction of method (own, mx, rk, kd, mc, ms) -/
def xstepI (call : Nat → List Value → List xCel → xRG → Option (List xLf)) (own mx rk kd mc ms : Nat) (I : Instr) (len : Nat) (pc : Nat) (lo : List (Option Value)) (st : List Value) (C : List xCel) (rg : xRG) (uc us : Nat) : xRes := match I with
  | .iload_n k => xload pc lo st C rg uc us xisI k.val 1
  | .iload i => xload pc lo st C rg uc us xisI i 2
  | .aload_n k => xload pc lo st C rg uc us xisR k.val 1
  | .aload i => xload pc lo st C rg uc us xisR i 2
  | .lload_n k => xload pc lo st C rg uc us xisL k.val 1
  | .lload i => xload pc lo st C rg uc us xisL i 2
  | .istore_n k => xstore1 pc lo st C rg uc us xisI mx k.val 1
  | .istore i => xstore1 pc lo st C rg uc us xisI mx i 2
  | .astore_n k => xstore1 pc lo st C rg uc us xisR mx k.val 1
  | .astore i => xstore1 pc lo st C rg uc us xisR mx i 2
  | .lstore_n k => xstore2 pc lo st C rg uc us mx k.val 1
  | .lstore i => xstore2 pc lo st C rg uc us mx i 2
  | .iconst n => xgo (pc + 1) lo (.int (Int32.ofInt n) :: st) C rg uc us
  | .bipush n => xgo (pc + 2) lo (.int (Int8.ofInt n).toInt32 :: st) C rg uc us
  | .sipush n => xgo (pc + 3) lo (.int (Int16.ofInt n).toInt32 :: st) C rg uc us
  | .lconst n => xgo (pc + 1) lo (.long (Int64.ofNat n.val) :: st) C rg uc us
  | .ldc idx => (match xldc own idx with
    | some v => xgo (pc + 2) lo (v :: st) C rg uc us
    | none => none)
  | .ldc_w idx => (match xco own idx with
    | some v => xgo (pc + 3) lo (.int v :: st) C rg uc us
    | none => none)
  | .ldc2_w idx => (match xcoL own idx with
    | some v => xgo (pc + 3) lo (.long v :: st) C rg uc us
    | none => none)
  | .iadd => xadd pc lo st C rg uc us
  | .isub => xbin pc lo st C rg uc us (fun x y => some (x - y))
  | .imul => xbin pc lo st C rg uc us (fun x y => some (x * y))
  | .iand => xbin pc lo st C rg uc us (fun x y => some (x &&& y))
  | .ior => xbin pc lo st C rg uc us (fun x y => some (x ||| y))
  | .ixor => xbin pc lo st C rg uc us (fun x y => some (x ^^^ y))
  | .ishl => xbin pc lo st C rg uc us (fun x y => some (x <<< (y &&& 31)))
  | .ishr => xbin pc lo st C rg uc us (fun x y => some (x >>> (y &&& 31)))
  | .iushr => xbin pc lo st C rg uc us (fun x y => some (x.toUInt32 >>> (y.toUInt32 &&& Int32.toUInt32 31)).toInt32)
  | .idiv => xbin pc lo st C rg uc us (fun x y => if y = 0 then none else some (x / y))
  | .irem => xbin pc lo st C rg uc us (fun x y => if y = 0 then none else some (x - x / y * y))
  | .ineg => xun pc lo st C rg uc us (fun x => -x)
  | .i2b => xun pc lo st C rg uc us (fun x => x.toInt8.toInt32)
  | .i2s => xun pc lo st C rg uc us (fun x => x.toInt16.toInt32)
  | .i2c => xun pc lo st C rg uc us (fun x => (x.toUInt32 % 65536).toInt32)
  | .ladd => xbinL pc lo st C rg uc us (fun x y => some (x + y))
  | .lsub => xbinL pc lo st C rg uc us (fun x y => some (x - y))
  | .lmul => xbinL pc lo st C rg uc us (fun x y => some (x * y))
  | .ldiv => xbinL pc lo st C rg uc us (fun x y => if y = 0 then none else some (x / y))
  | .lrem => xbinL pc lo st C rg uc us (fun x y => if y = 0 then none else some (x - x / y * y))
  | .i2l => xi2l pc lo st C rg uc us
  | .l2i => xl2i pc lo st C rg uc us
  | .lcmp => xlcmp pc lo st C rg uc us
  | .if_icmp c off => xicmp pc lo st C rg uc us c off
  | .ifCond c off => xif pc lo st C rg uc us c off
  | .goto off => xjump pc off lo st C rg uc us
  | .iinc i n => xiinc pc lo st C rg uc us mx i n
  | .tableswitch d low hi offs => xtable pc lo st C rg uc us d low hi offs.toList
  | .lookupswitch d ps => xlook pc lo st C rg uc us d ps.toList
  | .dup => xdup pc lo st C rg uc us
  | .dup2 => xdup2 pc lo st C rg uc us
  | .pop => xpop1 pc lo st C rg uc us
  | .getfield idx => xget pc lo st C rg uc us own idx
  | .putfield idx => xput pc lo st C rg uc us kd own idx
  | .getstatic idx => xgets pc lo st C rg uc us own idx
  | .iaload => xald pc lo st C rg uc us 100 xisI
  | .baload => xbald pc lo st C rg uc us
  | .aaload => xaldq pc lo st C rg uc us
  | .iastore => xast pc lo st C rg uc us 100
  | .bastore => xast pc lo st C rg uc us 101
  | .aastore => xastq pc lo st C rg uc us
  | .arraylength => xalen pc lo st C rg uc us
  | .new idx => xnew pc lo st C rg uc us mc ms own idx
  | .newarray .int => xnewa pc lo st C rg uc us mc ms 100
  | .newarray .boolean => xnewa pc lo st C rg uc us mc ms 101
  | .anewarray idx => xnewq pc lo st C rg uc us mc ms own idx
  | .multianewarray idx 2 => xnew2 pc lo st C rg uc us mc ms own idx
  | .invokestatic idx => xspec pc lo st C rg uc us 0 own idx (xcall pc lo st C rg uc us call mc ms 0)
  | .invokevirtual idx => xspec pc lo st C rg uc us 1 own idx (xcall pc lo st C rg uc us call mc ms 1)
  | .invokespecial idx => xspec pc lo st C rg uc us 2 own idx (xcall pc lo st C rg uc us call mc ms 2)
  | .ireturn => if rk = 2 then none else xret st C rg uc us mc ms rk
  | .lreturn => if rk = 2 then xret st C rg uc us mc ms rk else none
  | .return_ => if rk = 0 ∧ uc = mc ∧ us ≤ ms then (match st with
    | [] => some (.inr (.inl (none, C, rg)))
    | _ => none) else none
  | _ => none
def xstep (call : Nat → List Value → List xCel → xRG → Option (List xLf)) (mi : xMI) : xFr → xRes
  | (pc, lo, st, C, rg, uc, us) => xfN pc fun pc => match mi with
    | (_, _, own, _, mx, rk, kd, mc, ms, tb) => (match xfetch tb pc with
      | some (I, len) => xstepI call own mx rk kd mc ms I len pc lo st C rg uc us
      | none => none)
def xall (g : xFr → Option (List xLf)) : List xFr → Option (List xLf)
  | [] => some []
  | f :: fs => (match g f with
    | none => none
    | some a => (match xall g fs with
      | none => none
      | some b => some (a ++ b)))
def xrun (call : Nat → List Value → List xCel → xRG → Option (List xLf)) (mi : xMI) (k : Nat) : xFr → Option (List xLf) := Nat.rec (motive := fun _ => xFr → Option (List xLf)) (fun _ => none) (fun _ ih f => match xstep call mi f with
    | none => none
    | some (.inl f') => ih f'
    | some (.inr (.inl r)) => some [r]
    | some (.inr (.inr fs)) => xall ih fs) k
theorem xrun_succ (call : Nat → List Value → List xCel → xRG → Option (List xLf)) (mi : xMI) (k : Nat) (f : xFr) : xrun call mi (k + 1) f = match xstep call mi f with
    | none => none
    | some (.inl f') => xrun call mi k f'
    | some (.inr (.inl r)) => some [r]
    | some (.inr (.inr fs)) => xall (xrun call mi k) fs := rfl
def xwid : List Value → Nat
  | [] => 0
  | v :: vs => (if xc2 v then 2 else 1) + xwid vs
/-- the locals with which a method begins -/
def xlocs : Nat → List Value → List (Option Value)
  | n, [] => List.replicate n none
  | n, v :: vs => if xc2 v then some v :: none :: xlocs (n - 2) vs else some v :: xlocs (n - 1) vs
def xexec (k : Nat) : Nat → Nat → List Value → List xCel → xRG → Option (List xLf)
  | 0 => fun _ _ _ _ => none
  | d + 1 => fun j as C rg => match xmi j with
    | some mi => if xwid as ≤ mi.2.2.2.2.1 then xrun (xexec k d) mi k (0, xlocs mi.2.2.2.2.1 as, ([] : List Value), C, rg, 0, 0) else none
    | none => none
end
end

section
/-! what the engine's values and cells are, on the machine -/
def xv (ad : Nat → Nat) (ρ : Nat → Int32) (fm : Value) : Value → Value
  | .ref k => .ref (ad k)
  | .retAddr j => if j % 2 = 0 then .int (ρ (j % 32 / 2) + Int32.ofNat (j / 32)) else .long (ρ (j % 32 / 2) + Int32.ofNat (j / 32)).toInt64
  | .float _ => fm
  | v => v
def xokR (ρ : Nat → Int32) (rg : xRG) : Prop := ∀ (k : Nat) (q : Int × Int), rg[k]? = some q → q.1 ≤ (ρ k).toInt ∧ (ρ k).toInt ≤ q.2
def xokF (fm : Value) : Prop := fm = .null ∨ ∃ a, fm = .ref a
section XVL
variable {ad : Nat → Nat} {ρ : Nat → Int32} {fm : Value} {rg : xRG}
theorem xv_I {v : Value} (h : xisI v = true) : ∃ x, xv ad ρ fm v = .int x := by
  cases v with
  | int x => exact ⟨x, rfl⟩
  | retAddr j =>
    have h' : j % 2 = 0 := by simpa [xisI] using h
    exact ⟨_, by rw [xv, if_pos h']⟩
  | _ => simp [xisI] at h
theorem xv_L {v : Value} (h : xisL v = true) : ∃ x, xv ad ρ fm v = .long x := by
  cases v with
  | long x => exact ⟨x, rfl⟩
  | retAddr j =>
    have h' : j % 2 = 1 := by simpa [xisL] using h
    exact ⟨_, by rw [xv, if_neg (by omega)]⟩
  | _ => simp [xisL] at h
theorem xv_R (hf : xokF fm) {v : Value} (h : xisR v = true) : xv ad ρ fm v = .null ∨ ∃ a, xv ad ρ fm v = .ref a := by
  cases v with
  | ref k => exact Or.inr ⟨_, rfl⟩
  | null => exact Or.inl rfl
  | float _ => exact hf
  | _ => simp [xisR] at h
theorem xv_cat (hf : xokF fm) (v : Value) : (xv ad ρ fm v).category = if xc2 v = true then 2 else 1 := by
  cases v with
  | retAddr j =>
    by_cases h : j % 2 = 0
    · rw [xv, if_pos h, if_neg (by simp [xc2]; omega)]; rfl
    · rw [xv, if_neg h, if_pos (by simp [xc2]; omega)]; rfl
  | float _ =>
    rcases hf with h | ⟨a, h⟩
    · show fm.category = _; rw [h]; rfl
    · show fm.category = _; rw [h]; rfl
  | _ => rfl
theorem xv_cat_le (hf : xokF fm) (v : Value) : (xv ad ρ fm v).category ≤ 2 := by
  rw [xv_cat hf]; split <;> omega
theorem xcat_sum (hf : xokF fm) : ∀ (r : List Value), r.length ≤ 4 → ((r.map (xv ad ρ fm)).map fun v => v.category).sum ≤ 8 := by
  have h : ∀ r : List Value, ((r.map (xv ad ρ fm)).map fun v => v.category).sum ≤ 2 * r.length := by
    intro r
    induction r with
    | nil => simp
    | cons a r ih =>
      have := xv_cat_le (ad := ad) (ρ := ρ) hf a
      simp only [List.map_cons, List.sum_cons, List.length_cons]
      simp only [List.map_map] at ih ⊢
      omega
  intro r hr
  have := h r
  omega
theorem xci_ok (hR : xokR ρ rg) {v : Value} {x : Int32} (h : xci rg v = some x) : xv ad ρ fm v = .int x := by
  cases v with
  | int y => simp [xci] at h; rw [h]; rfl
  | retAddr j =>
    unfold xci at h
    simp only [xnth_eq] at h
    split at h
    · next h0 =>
      split at h
      · next lo hi hq =>
        split at h
        · next he =>
          cases h
          have := hR _ _ hq
          have e : ρ (j % 32 / 2) = Int32.ofInt lo := by
            have h1 : (ρ (j % 32 / 2)).toInt = lo := by simp only at this; omega
            rw [← h1, Int32.ofInt_toInt]
          rw [xv, if_pos h0, e]
        · cases h
      · cases h
    · cases h
  | _ => simp [xci] at h
theorem xcl_ok (hR : xokR ρ rg) {v : Value} {x : Int64} (h : xcl rg v = some x) : xv ad ρ fm v = .long x := by
  cases v with
  | long y => simp [xcl] at h; rw [h]; rfl
  | retAddr j =>
    unfold xcl at h
    simp only [xnth_eq] at h
    split at h
    · cases h
    · next h0 =>
      split at h
      · next lo hi hq =>
        split at h
        · next he =>
          cases h
          have := hR _ _ hq
          have e : ρ (j % 32 / 2) = Int32.ofInt lo := by
            have h1 : (ρ (j % 32 / 2)).toInt = lo := by simp only at this; omega
            rw [← h1, Int32.ofInt_toInt]
          rw [xv, if_neg h0, e]
        · cases h
      · cases h
  | _ => simp [xcl] at h
theorem xiv_ok (hR : xokR ρ rg) {v : Value} {q : Int × Int} (h : xiv rg v = some q) : ∃ x : Int32, xv ad ρ fm v = .int x ∧ q.1 ≤ x.toInt ∧ x.toInt ≤ q.2 := by
  cases v with
  | int y => simp [xiv] at h; rw [← h]; exact ⟨y, rfl, Int.le_refl _, Int.le_refl _⟩
  | retAddr j =>
    unfold xiv at h
    simp only [xnth_eq] at h
    split at h
    · next h0 =>
      split at h
      · next h1 =>
        refine ⟨_, by rw [xv, if_pos h1], ?_⟩
        have e : j / 32 = 0 := by omega
        have e2 : j % 32 = j := by omega
        have := hR _ _ h
        rw [e, e2]
        simpa using this
      · cases h
    · cases h
  | _ => simp [xiv] at h
theorem xlv_ok (hR : xokR ρ rg) {v : Value} {q : Int × Int} (h : xlv rg v = some q) : ∃ x : Int64, xv ad ρ fm v = .long x ∧ q.1 ≤ x.toInt ∧ x.toInt ≤ q.2 := by
  cases v with
  | long y => simp [xlv] at h; rw [← h]; exact ⟨y, rfl, Int.le_refl _, Int.le_refl _⟩
  | retAddr j =>
    unfold xlv at h
    simp only [xnth_eq] at h
    split at h
    · next h0 =>
      split at h
      · next h1 =>
        refine ⟨_, by rw [xv, if_neg (by omega)], ?_⟩
        have e : j / 32 = 0 := by omega
        have e2 : j % 32 = j := by omega
        have := hR _ _ h
        rw [e, e2]
        simpa using this
      · cases h
    · cases h
  | _ => simp [xlv] at h
theorem xokR_set {k : Nat} {lo hi : Int} (hR : xokR ρ rg) (h : lo ≤ (ρ k).toInt ∧ (ρ k).toInt ≤ hi) : xokR ρ (rg.set k (lo, hi)) := by
  intro i q hq
  by_cases e : i = k
  · subst e
    by_cases hl : i < rg.length
    · rw [List.getElem?_set_self hl] at hq
      cases hq
      exact h
    · rw [List.getElem?_eq_none (by simpa using hl)] at hq
      cases hq
  · rw [List.getElem?_set_ne (Ne.symm e)] at hq
    exact hR i q hq
theorem xsp_ok (hR : xokR ρ rg) {v : Value} {t : Int} {l : List xRG} (h : xsp rg v t = some l) : ∃ rg' ∈ l, xokR ρ rg' := by
  cases v with
  | retAddr j =>
    unfold xsp at h
    simp only [xnth_eq] at h
    split at h
    · split at h
      · next lo hi hq =>
        split at h
        · split at h
          · cases h
            have := hR _ _ hq
            simp only at this
            by_cases hc : (ρ (j / 2)).toInt < t
            · exact ⟨_, List.mem_cons_self, xokR_set hR ⟨this.1, by omega⟩⟩
            · exact ⟨_, List.mem_cons_of_mem _ List.mem_cons_self, xokR_set hR ⟨by omega, this.2⟩⟩
          · cases h
        · cases h
      · cases h
    · cases h
  | _ => simp [xsp] at h
theorem xcs_ok (hR : xokR ρ rg) {v : Value} {l : List xRG} (h : xcs rg v = some l) : ∃ rg' ∈ l, xokR ρ rg' := by
  cases v with
  | retAddr j =>
    unfold xcs at h
    simp only [xnth_eq] at h
    split at h
    · next lo hi hq =>
      split at h
      · exact xsp_ok hR h
      · cases h
    · cases h
  | _ => simp [xcs] at h
theorem xelse_ok {α : Type} {a b : Option α} {x : α} (h : xelse a b = some x) : a = some x ∨ b = some x := by
  cases a with
  | some y => exact Or.inl h
  | none => exact Or.inr h
/-- a fork's ranges: whatever the numbers are, one of them holds -/
def xcov (ρ : Nat → Int32) (o : Option (List xRG)) : Prop := ∀ l, o = some l → ∃ rg' ∈ l, xokR ρ rg'
theorem xcov_sp (hR : xokR ρ rg) (v : Value) (t : Int) : xcov ρ (xsp rg v t) := fun _ h => xsp_ok hR h
theorem xcov_cs (hR : xokR ρ rg) (v : Value) : xcov ρ (xcs rg v) := fun _ h => xcs_ok hR h
theorem xcov_else {a b : Option (List xRG)} (ha : xcov ρ a) (hb : xcov ρ b) : xcov ρ (xelse a b) := fun l h => (xelse_ok h).elim (ha l) (hb l)
theorem xcov_none : xcov ρ none := fun _ h => by cases h
end XVL
theorem xlt_ok {a b : Int × Int} {r : Bool} {x y : Int} (h : xlt a b = some r) (ha : a.1 ≤ x ∧ x ≤ a.2) (hb : b.1 ≤ y ∧ y ≤ b.2) : (r = true ↔ x < y) := by
  unfold xlt at h
  split at h
  · cases h; simp; omega
  · split at h
    · cases h; simp; omega
    · cases h
theorem xeq_ok {a b : Int × Int} {r : Bool} {x y : Int} (h : xeq a b = some r) (ha : a.1 ≤ x ∧ x ≤ a.2) (hb : b.1 ≤ y ∧ y ≤ b.2) : (r = true ↔ x = y) := by
  unfold xeq at h
  split at h
  · cases h; simp; omega
  · split at h
    · cases h; simp; omega
    · split at h
      · split at h
        · cases h; simp; omega
        · cases h
      · cases h
theorem xnot_ok {o : Option Bool} {r : Bool} (h : xnot o = some r) : o = some (!r) := by
  cases o with
  | none => cases h
  | some b => cases h; simp
def xcP (c : ClassFile.Cond) (x y : Int32) : Prop := match c with
  | .lt => x < y
  | .ge => y ≤ x
  | .gt => y < x
  | .le => x ≤ y
  | .eq => x = y
  | .ne => ¬ x = y
theorem xcmp_ok {c : ClassFile.Cond} {a b : Int × Int} {r : Bool} {x y : Int32} (h : xcmp c a b = some r) (ha : a.1 ≤ x.toInt ∧ x.toInt ≤ a.2) (hb : b.1 ≤ y.toInt ∧ y.toInt ≤ b.2) : (r = true ↔ xcP c x y) := by
  have e : x = y ↔ x.toInt = y.toInt := ⟨fun h => by rw [h], fun h => Int32.toInt_inj.mp h⟩
  cases c with
  | lt => exact (xlt_ok h ha hb).trans Int32.lt_iff_toInt_lt.symm
  | gt => exact (xlt_ok h hb ha).trans Int32.lt_iff_toInt_lt.symm
  | eq => exact (xeq_ok h ha hb).trans e.symm
  | ge =>
    have := xlt_ok (xnot_ok h) ha hb
    show _ ↔ y ≤ x
    rw [Int32.le_iff_toInt_le]
    cases r <;> simp at this ⊢ <;> omega
  | le =>
    have := xlt_ok (xnot_ok h) hb ha
    show _ ↔ x ≤ y
    rw [Int32.le_iff_toInt_le]
    cases r <;> simp at this ⊢ <;> omega
  | ne =>
    have := xeq_ok (xnot_ok h) ha hb
    show _ ↔ ¬ x = y
    rw [e]
    cases r <;> simp at this ⊢ <;> omega
/-! the locals -/
def xLV (V : Value → Value) (ls : Array Slot) (mx : Nat) (lo : List (Option Value)) : Prop := ls.size = mx ∧ lv_wf ls ∧ ∀ (i : Nat) (v : Value), lo[i]? = some (some v) → ls[i]? = some (.val (V v))
def xlist (V : Value → Value) (lo : List (Option Value)) : List (Nat × Value) := (List.range lo.length).filterMap fun i => match lo[i]? with
  | some (some v) => some (i, V v)
  | _ => none
theorem xlist_mem {V : Value → Value} {lo : List (Option Value)} {i : Nat} {v : Value} (h : lo[i]? = some (some v)) : (i, V v) ∈ xlist V lo := by
  unfold xlist
  refine List.mem_filterMap.mpr ⟨i, List.mem_range.mpr (List.getElem?_eq_some_iff.mp h).1, ?_⟩
  rw [h]
theorem xLV.has {V : Value → Value} {ls : Array Slot} {mx : Nat} {lo : List (Option Value)} (h : xLV V ls mx lo) : lv_has ls mx (xlist V lo) := by
  refine ⟨h.1, h.2.1, fun q hq => ?_⟩
  obtain ⟨i, hi, e⟩ := List.mem_filterMap.mp hq
  revert e
  cases hl : lo[i]? with
  | none => intro e; cases e
  | some o =>
    cases o with
    | none => intro e; cases e
    | some v => intro e; cases e; exact h.2.2 i v hl
def xs1 (lo : List (Option Value)) (i : Nat) (v : Value) : List (Option Value) := match i with
  | 0 => lo.set 0 (some v)
  | k + 1 => (match (lo.set (k + 1) (some v))[k]? with
    | some (some w) => if xc2 w then (lo.set (k + 1) (some v)).set k none else lo.set (k + 1) (some v)
    | _ => lo.set (k + 1) (some v))
theorem xst1_eq {β : Type} (lo : List (Option Value)) (i : Nat) (v : Value) (K : List (Option Value) → β) : xst1 lo i v K = K (xs1 lo i v) := by
  unfold xst1 xs1
  rw [xset_eq]
  cases i with
  | zero => rfl
  | succ k =>
    simp only [xnth_eq]
    cases h : (lo.set (k + 1) (some v))[k]? with
    | none => rfl
    | some o =>
      cases o with
      | none => rfl
      | some w =>
        simp only
        split
        · rw [xset_eq]
        · rfl
theorem xs1_get {lo : List (Option Value)} {i j : Nat} {v w : Value} (h : (xs1 lo i v)[j]? = some (some w)) : (j = i ∧ w = v) ∨ (j ≠ i ∧ lo[j]? = some (some w) ∧ ¬ (j + 1 = i ∧ xc2 w = true)) := by
  have key : ∀ {n : Nat}, (lo.set n (some v))[j]? = some (some w) → (j = n ∧ w = v) ∨ (j ≠ n ∧ lo[j]? = some (some w)) := by
    intro n hn
    by_cases e : j = n
    · subst e
      by_cases hl : j < lo.length
      · rw [List.getElem?_set_self hl] at hn
        cases hn
        exact Or.inl ⟨rfl, rfl⟩
      · rw [List.getElem?_eq_none (by simpa using hl)] at hn
        cases hn
    · rw [List.getElem?_set_ne (Ne.symm e)] at hn
      exact Or.inr ⟨e, hn⟩
  unfold xs1 at h
  cases i with
  | zero =>
    rcases key h with q | q
    · exact Or.inl q
    · exact Or.inr ⟨q.1, q.2, fun z => by omega⟩
  | succ k =>
    simp only at h
    cases hk : (lo.set (k + 1) (some v))[k]? with
    | none =>
      rw [hk] at h
      rcases key h with q | q
      · exact Or.inl q
      · refine Or.inr ⟨q.1, q.2, fun z => ?_⟩
        have : j = k := by omega
        subst this
        rw [hk] at h
        cases h
    | some o =>
      rw [hk] at h
      cases o with
      | none =>
        rcases key h with q | q
        · exact Or.inl q
        · refine Or.inr ⟨q.1, q.2, fun z => ?_⟩
          have : j = k := by omega
          subst this
          rw [hk] at h
          cases h
      | some u =>
        simp only at h
        split at h
        · next hu =>
          by_cases e : j = k
          · subst e
            have hl : j < (lo.set (j + 1) (some v)).length := (List.getElem?_eq_some_iff.mp hk).1
            rw [List.getElem?_set_self hl] at h
            cases h
          · rw [List.getElem?_set_ne (Ne.symm e)] at h
            rcases key h with q | q
            · exact Or.inl q
            · exact Or.inr ⟨q.1, q.2, fun z => by omega⟩
        · next hu =>
          rcases key h with q | q
          · exact Or.inl q
          · refine Or.inr ⟨q.1, q.2, fun z => ?_⟩
            have : j = k := by omega
            subst this
            rw [hk] at h
            cases h
            exact hu z.2
theorem xLV_st1 {ad : Nat → Nat} {ρ : Nat → Int32} {fm : Value} (hf : xokF fm) {ls : Array Slot} {mx i : Nat} {lo : List (Option Value)} {v : Value} (h : lv_has ls mx ((i, xv ad ρ fm v) :: (xlist (xv ad ρ fm) lo).filter (fun q => !(q.1 == i) && !(q.1 + 1 == i && q.2.category == 2)))) : xLV (xv ad ρ fm) ls mx (xs1 lo i v) := by
  refine ⟨h.1, h.2.1, fun j w hj => ?_⟩
  rcases xs1_get hj with ⟨rfl, rfl⟩ | ⟨h1, h2, h3⟩
  · exact h.2.2 _ List.mem_cons_self
  · refine h.2.2 (j, xv ad ρ fm w) (List.mem_cons_of_mem _ (List.mem_filter.mpr ⟨xlist_mem h2, ?_⟩))
    have hc := xv_cat (ad := ad) (ρ := ρ) hf w
    have n1 : (j == i) = false := by simpa using h1
    by_cases e : j + 1 = i
    · have n2 : ¬ xc2 w = true := fun z => h3 ⟨e, z⟩
      rw [if_neg n2] at hc
      simp [n1, hc]
    · simp [n1, e]
theorem xst2_eq {β : Type} (lo : List (Option Value)) (i : Nat) (v : Value) (K : List (Option Value) → β) : xst2 lo i v K = K ((xs1 lo i v).set (i + 1) none) := by
  unfold xst2
  rw [xst1_eq, xset_eq]
theorem xLV_st2 {ad : Nat → Nat} {ρ : Nat → Int32} {fm : Value} (hf : xokF fm) {ls : Array Slot} {mx i : Nat} {lo : List (Option Value)} {v : Value} (h : lv_has ls mx ((i, xv ad ρ fm v) :: (xlist (xv ad ρ fm) lo).filter (fun q => !(q.1 == i) && (!(q.1 == i + 1) && !(q.1 + 1 == i && q.2.category == 2))))) : xLV (xv ad ρ fm) ls mx ((xs1 lo i v).set (i + 1) none) := by
  refine ⟨h.1, h.2.1, fun j w hj => ?_⟩
  by_cases e1 : j = i + 1
  · subst e1
    by_cases hl : i + 1 < (xs1 lo i v).length
    · rw [List.getElem?_set_self hl] at hj
      cases hj
    · rw [List.getElem?_eq_none (by simpa using hl)] at hj
      cases hj
  · rw [List.getElem?_set_ne (Ne.symm e1)] at hj
    rcases xs1_get hj with ⟨rfl, rfl⟩ | ⟨h1, h2, h3⟩
    · exact h.2.2 _ List.mem_cons_self
    · refine h.2.2 (j, xv ad ρ fm w) (List.mem_cons_of_mem _ (List.mem_filter.mpr ⟨xlist_mem h2, ?_⟩))
      have hc := xv_cat (ad := ad) (ρ := ρ) hf w
      have n1 : (j == i) = false := by simpa using h1
      have n3 : (j == i + 1) = false := by simpa using e1
      by_cases e : j + 1 = i
      · have n2 : ¬ xc2 w = true := fun z => h3 ⟨e, z⟩
        rw [if_neg n2] at hc
        simp [n1, n3, hc]
      · simp [n1, n3, e]
/-! the cells -/
def xI : Value → Int32
  | .int x => x
  | _ => 0
def xR : Value → Option Nat
  | .ref a => some a
  | _ => none
def xencC (cA : Nat → ClassId) (V : Value → Value) (q : xCel) : va_E :=
  if q.1 < 100 then .inr (q.1, q.2.map V)
  else if q.1 < 102 then .inl (cA q.1, q.2.length, .inl (fun j => xI (V (q.2.getD j .null))))
  else .inl (cA q.1, q.2.length, .inr (.inr (.inr (.inr (fun j => xR (V (q.2.getD j .null)))))))
def xenc (cA : Nat → ClassId) (V : Value → Value) (ad : Nat → Nat) (C : List xCel) : va_W := C.mapIdx fun k q => (ad k, xencC cA V q)
theorem xenc_get {cA : Nat → ClassId} {V : Value → Value} {ad : Nat → Nat} {C : List xCel} {k : Nat} {q : xCel} (h : C[k]? = some q) : (xenc cA V ad C)[k]? = some (ad k, xencC cA V q) := by
  unfold xenc
  rw [List.getElem?_mapIdx, h]
  rfl
theorem xenc_of {cA : Nat → ClassId} {V : Value → Value} {ad : Nat → Nat} {C : List xCel} {k : Nat} {z : Nat × va_E} (h : (xenc cA V ad C)[k]? = some z) : ∃ q, C[k]? = some q ∧ z = (ad k, xencC cA V q) := by
  unfold xenc at h
  rw [List.getElem?_mapIdx] at h
  cases hk : C[k]? with
  | none => rw [hk] at h; cases h
  | some q => rw [hk] at h; cases h; exact ⟨q, rfl, rfl⟩
theorem xenc_set {cA : Nat → ClassId} {V : Value → Value} {ad : Nat → Nat} {C : List xCel} {k : Nat} {q : xCel} : xenc cA V ad (C.set k q) = (xenc cA V ad C).set k (ad k, xencC cA V q) := by
  apply List.ext_getElem?
  intro i
  unfold xenc
  by_cases e : k = i
  · subst e
    by_cases hl : k < C.length
    · rw [List.getElem?_mapIdx, List.getElem?_set_self hl, List.getElem?_set_self (by simpa using hl)]
      rfl
    · rw [List.getElem?_eq_none (by simpa using hl), List.getElem?_eq_none (by simpa using hl)]
  · rw [List.getElem?_mapIdx, List.getElem?_set_ne e, List.getElem?_set_ne e, List.getElem?_mapIdx]
theorem xenc_push {cA : Nat → ClassId} {V : Value → Value} {ad : Nat → Nat} {C : List xCel} {q : xCel} : xenc cA V ad (C ++ [q]) = xenc cA V ad C ++ [(ad C.length, xencC cA V q)] := by
  unfold xenc
  rw [List.mapIdx_concat]
end

section
/-! each instruction of the engine is the machine's -/
def xtyE (k : Nat) : FieldType := match k with
  | 0 => .int
  | 1 => .boolean
  | 2 => .object RX5
  | 3 => .object RX2
  | _ => .array .int
def xtys (cA : Nat → ClassId) : List (ClassId × FieldType) := [(cA 100, .int), (cA 101, .boolean), (cA 102, .object RX5), (cA 103, .object RX2), (cA 104, .array .int)]
/-- what lies outside: statics, tables, texts, and what the tables say of rows and of nest mates -/
def xExt (ad : Nat → Nat) (fm : Value) (A : Nat → Prop) (U : State) (H : Heap) : Prop :=
  (∀ q ∈ xStat, va_Z q.1 q.2.1 q.2.2.1 (xv ad (fun _ => 0) fm q.2.2.2) A U H) ∧
  (∀ (j : Nat) (l : List Int32), xTab[j]? = some l → va_T .int (ad (xB + j)) l.length (fun n => .int (l.getD n 0)) A U H) ∧
  vk_S 13 (xByt.map List.length) xByt (fun i => ad (xB + 10 + i)) (fun i => ad (xB + 30 + i)) A U H ∧
  (∀ (i : Nat) (q : Nat × Nat × String), xStr[i]? = some q → vk_R (xcn q.1) q.2.1 q.2.2 (ad (xB + 10 + i)) U) ∧
  (va_AO RX5 U ∧ va_AO RX2 U ∧ va_Nw (.arrayOver (.array .int)) U) ∧
  ∀ q ∈ xNest, va_Nw (.methodLinkNest (xcn q.1) q.2.1 q.2.2 "StreetTillTen") U
def xEnv (p : Program) (l : Launch) (e : Env) (R : Room) (s : State) (m : MethodId) (args : Array Value) (below : List Frame) (meth : Method) (c : Code) (D : va_G) (cA : Nat → ClassId) (ad : Nat → Nat) (fm : Value) (A : Nat → Prop) (n0 : Nat) (mi : xMI) : Prop :=
  p.tables.exec = Jvm.exec ∧ c.code = mi.2.1 ∧ c.maxLocals = mi.2.2.2.2.1 ∧ s.vm.findClass (xcn mi.2.2.1) = some m.cls ∧ (∀ w ∈ wsL_law, w.before args s = true) ∧ va_K D vwCl (xtys cA) s ∧ xExt ad fm A s s.heap ∧
  meth.sig.returnType = xrt mi.2.2.2.2.2.1 ∧ meth.locks = false ∧ (mi.2.2.2.2.2.2.1 = 2 → meth.name = "<init>") ∧ (1 ≤ R.frames ∧ 40 ≤ R.locals) ∧ R.cells = mi.2.2.2.2.2.2.2.1 ∧ R.slots = mi.2.2.2.2.2.2.2.2.1 ∧ xokF fm ∧
  (∀ q, s.heap.size ≤ q → A q) ∧ (∀ q, A q → s.heap.size ≤ q ∨ ∃ k, k < n0 ∧ q = ad k) ∧ ∀ k, n0 ≤ k → k < xB → ad k = s.heap.size + (k - n0)
def xRn (p : Program) (l : Launch) (e : Env) (R : Room) (s : State) (m : MethodId) (args : Array Value) (below : List Frame) (meth : Method) (c : Code) (D : va_G) (cA : Nat → ClassId) (ad : Nat → Nat) (ρ : Nat → Int32) (fm : Value) (A : Nat → Prop) (mx n0 mc ms : Nat) (Q : State → Prop) (f : xFr) : Prop :=
  ∀ (H : Heap) (locs : List Loc) (ls : Array Slot), xokR ρ f.2.2.2.2.1 → xLV (xv ad ρ fm) ls mx f.2.1 → va_P D vwCl (xenc cA (xv ad ρ fm) ad f.2.2.2.1) H → va_D A (xenc cA (xv ad ρ fm) ad f.2.2.2.1) → va_S A s.heap H locs → f.2.2.2.1.length = n0 + f.2.2.2.2.2.1 ∧ f.2.2.2.2.2.1 ≤ mc ∧ f.2.2.2.2.2.2 ≤ ms ∧ n0 + f.2.2.2.2.2.1 ≤ xB → W p l e R s m args below meth c H locs f.2.2.2.2.2.1 f.2.2.2.2.2.2 Q (F0 m f.1 ls (f.2.2.1.map (xv ad ρ fm)))
def xGood (K : xFr → Prop) (L : xLf → Prop) (r : xRes) : Prop := match r with
  | none => False
  | some (.inl f) => K f
  | some (.inr (.inl lf)) => L lf
  | some (.inr (.inr fs)) => ∀ f ∈ fs, K f
section XROWS
variable {p : Program} {l : Launch} {e : Env} {R : Room} {s : State} {m : MethodId} {args : Array Value} {below : List Frame} {meth : Method} {c : Code} {D : va_G} {cA : Nat → ClassId} {ad : Nat → Nat} {ρ : Nat → Int32} {fm : Value} {A : Nat → Prop} {n0 : Nat} {mi : xMI} {Q : State → Prop} {L : xLf → Prop}
variable {pc : Nat} {lo : List (Option Value)} {st : List Value} {C : List xCel} {rg : xRG} {uc us : Nat}
theorem z_fork {o : Option (List xRG)} (hc : xokR ρ rg → xcov ρ o) (h : xGood (xRn p l e R s m args below meth c D cA ad ρ fm A mi.2.2.2.2.1 n0 mi.2.2.2.2.2.2.2.1 mi.2.2.2.2.2.2.2.2.1 Q) L (xfork pc lo st C uc us o)) : xRn p l e R s m args below meth c D cA ad ρ fm A mi.2.2.2.2.1 n0 mi.2.2.2.2.2.2.2.1 mi.2.2.2.2.2.2.2.2.1 Q (pc, lo, st, C, rg, uc, us) := by
  intro H locs ls hR hL hP hD hS hn
  cases ho : o with
  | none => rw [ho] at h; exact absurd h id
  | some lr =>
    rw [ho] at h
    obtain ⟨rg', h1, h2⟩ := hc hR lr ho
    have h3 := h (pc, lo, st, C, rg', uc, us) (List.mem_map.mpr ⟨rg', h1, rfl⟩)
    exact h3 H locs ls h2 hL hP hD hS hn
theorem z_jump {off : Int} {t : Nat} (ht : (pc : Int) + off = (t : Int)) (h : xGood (xRn p l e R s m args below meth c D cA ad ρ fm A mi.2.2.2.2.1 n0 mi.2.2.2.2.2.2.2.1 mi.2.2.2.2.2.2.2.2.1 Q) L (xjump pc off lo st C rg uc us)) : xRn p l e R s m args below meth c D cA ad ρ fm A mi.2.2.2.2.1 n0 mi.2.2.2.2.2.2.2.1 mi.2.2.2.2.2.2.2.2.1 Q (t, lo, st, C, rg, uc, us) := by
  unfold xjump xtg at h
  rw [ht] at h
  exact h
theorem z_tg {off : Int} (h : xGood (xRn p l e R s m args below meth c D cA ad ρ fm A mi.2.2.2.2.1 n0 mi.2.2.2.2.2.2.2.1 mi.2.2.2.2.2.2.2.2.1 Q) L (xjump pc off lo st C rg uc us)) : ∃ t : Nat, (pc : Int) + off = (t : Int) ∧ xRn p l e R s m args below meth c D cA ad ρ fm A mi.2.2.2.2.1 n0 mi.2.2.2.2.2.2.2.1 mi.2.2.2.2.2.2.2.2.1 Q (t, lo, st, C, rg, uc, us) := by
  cases ht : (pc : Int) + off with
  | ofNat t => exact ⟨t, rfl, z_jump ht h⟩
  | negSucc t =>
    unfold xjump xtg at h
    rw [ht] at h
    exact absurd h id
-- loads
theorem z_load {ok : Value → Bool} {i len : Nat} (h : xGood (xRn p l e R s m args below meth c D cA ad ρ fm A mi.2.2.2.2.1 n0 mi.2.2.2.2.2.2.2.1 mi.2.2.2.2.2.2.2.2.1 Q) L (xload pc lo st C rg uc us ok i len)) : ∃ v, lo[i]? = some (some v) ∧ ok v = true ∧ xRn p l e R s m args below meth c D cA ad ρ fm A mi.2.2.2.2.1 n0 mi.2.2.2.2.2.2.2.1 mi.2.2.2.2.2.2.2.2.1 Q (pc + len, lo, v :: st, C, rg, uc, us) := by
  unfold xload at h
  rw [xnth_eq] at h
  split at h
  · next v hv =>
    split at h
    · next ho => exact ⟨v, hv, ho, h⟩
    · exact absurd h id
  · exact absurd h id
theorem z_iload_n (hE : xEnv p l e R s m args below meth c D cA ad fm A n0 mi) {k : Fin 4} (hdg : decode mi.2.1 pc = .ok (.iload_n k, 1)) (h : xGood (xRn p l e R s m args below meth c D cA ad ρ fm A mi.2.2.2.2.1 n0 mi.2.2.2.2.2.2.2.1 mi.2.2.2.2.2.2.2.2.1 Q) L (xload pc lo st C rg uc us xisI k.val 1)) : xRn p l e R s m args below meth c D cA ad ρ fm A mi.2.2.2.2.1 n0 mi.2.2.2.2.2.2.2.1 mi.2.2.2.2.2.2.2.2.1 Q (pc, lo, st, C, rg, uc, us) := by
  obtain ⟨v, hv, hi, hk⟩ := z_load h
  intro H locs ls hR hL hP hD hS hn
  obtain ⟨x, ex⟩ := xv_I (ad := ad) (ρ := ρ) (fm := fm) hi
  have hl := hL.2.2 _ _ hv
  rw [ex] at hl
  have h2 := hk H locs ls hR hL hP hD hS hn
  simp only [List.map_cons, ex] at h2
  exact lv_iload_n hE.1 hE.2.1 hdg rfl hl h2
theorem z_iload (hE : xEnv p l e R s m args below meth c D cA ad fm A n0 mi) {i : Nat} (hdg : decode mi.2.1 pc = .ok (.iload i, 2)) (h : xGood (xRn p l e R s m args below meth c D cA ad ρ fm A mi.2.2.2.2.1 n0 mi.2.2.2.2.2.2.2.1 mi.2.2.2.2.2.2.2.2.1 Q) L (xload pc lo st C rg uc us xisI i 2)) : xRn p l e R s m args below meth c D cA ad ρ fm A mi.2.2.2.2.1 n0 mi.2.2.2.2.2.2.2.1 mi.2.2.2.2.2.2.2.2.1 Q (pc, lo, st, C, rg, uc, us) := by
  obtain ⟨v, hv, hi, hk⟩ := z_load h
  intro H locs ls hR hL hP hD hS hn
  obtain ⟨x, ex⟩ := xv_I (ad := ad) (ρ := ρ) (fm := fm) hi
  have hl := hL.2.2 _ _ hv
  rw [ex] at hl
  have h2 := hk H locs ls hR hL hP hD hS hn
  simp only [List.map_cons, ex] at h2
  exact lv_iload hE.1 hE.2.1 hdg hl h2
theorem z_lload_n (hE : xEnv p l e R s m args below meth c D cA ad fm A n0 mi) {k : Fin 4} (hdg : decode mi.2.1 pc = .ok (.lload_n k, 1)) (h : xGood (xRn p l e R s m args below meth c D cA ad ρ fm A mi.2.2.2.2.1 n0 mi.2.2.2.2.2.2.2.1 mi.2.2.2.2.2.2.2.2.1 Q) L (xload pc lo st C rg uc us xisL k.val 1)) : xRn p l e R s m args below meth c D cA ad ρ fm A mi.2.2.2.2.1 n0 mi.2.2.2.2.2.2.2.1 mi.2.2.2.2.2.2.2.2.1 Q (pc, lo, st, C, rg, uc, us) := by
  obtain ⟨v, hv, hi, hk⟩ := z_load h
  intro H locs ls hR hL hP hD hS hn
  obtain ⟨x, ex⟩ := xv_L (ad := ad) (ρ := ρ) (fm := fm) hi
  have hl := hL.2.2 _ _ hv
  rw [ex] at hl
  have h2 := hk H locs ls hR hL hP hD hS hn
  simp only [List.map_cons, ex] at h2
  exact lv_lload_n hE.1 hE.2.1 hdg rfl hl h2
theorem z_lload (hE : xEnv p l e R s m args below meth c D cA ad fm A n0 mi) {i : Nat} (hdg : decode mi.2.1 pc = .ok (.lload i, 2)) (h : xGood (xRn p l e R s m args below meth c D cA ad ρ fm A mi.2.2.2.2.1 n0 mi.2.2.2.2.2.2.2.1 mi.2.2.2.2.2.2.2.2.1 Q) L (xload pc lo st C rg uc us xisL i 2)) : xRn p l e R s m args below meth c D cA ad ρ fm A mi.2.2.2.2.1 n0 mi.2.2.2.2.2.2.2.1 mi.2.2.2.2.2.2.2.2.1 Q (pc, lo, st, C, rg, uc, us) := by
  obtain ⟨v, hv, hi, hk⟩ := z_load h
  intro H locs ls hR hL hP hD hS hn
  obtain ⟨x, ex⟩ := xv_L (ad := ad) (ρ := ρ) (fm := fm) hi
  have hl := hL.2.2 _ _ hv
  rw [ex] at hl
  have h2 := hk H locs ls hR hL hP hD hS hn
  simp only [List.map_cons, ex] at h2
  exact lv_lload hE.1 hE.2.1 hdg hl h2
theorem z_F (hE : xEnv p l e R s m args below meth c D cA ad fm A n0 mi) : xokF fm := hE.2.2.2.2.2.2.2.2.2.2.2.2.2.1
theorem z_aload_n (hE : xEnv p l e R s m args below meth c D cA ad fm A n0 mi) {k : Fin 4} (hdg : decode mi.2.1 pc = .ok (.aload_n k, 1)) (h : xGood (xRn p l e R s m args below meth c D cA ad ρ fm A mi.2.2.2.2.1 n0 mi.2.2.2.2.2.2.2.1 mi.2.2.2.2.2.2.2.2.1 Q) L (xload pc lo st C rg uc us xisR k.val 1)) : xRn p l e R s m args below meth c D cA ad ρ fm A mi.2.2.2.2.1 n0 mi.2.2.2.2.2.2.2.1 mi.2.2.2.2.2.2.2.2.1 Q (pc, lo, st, C, rg, uc, us) := by
  obtain ⟨v, hv, hi, hk⟩ := z_load h
  intro H locs ls hR hL hP hD hS hn
  have hl := hL.2.2 _ _ hv
  have h2 := hk H locs ls hR hL hP hD hS hn
  rcases xv_R (ad := ad) (ρ := ρ) (z_F hE) hi with ex | ⟨x, ex⟩
  · rw [ex] at hl
    simp only [List.map_cons, ex] at h2
    exact lv_aload_nN hE.1 hE.2.1 hdg rfl hl h2
  · rw [ex] at hl
    simp only [List.map_cons, ex] at h2
    exact lv_aload_n hE.1 hE.2.1 hdg rfl hl h2
theorem z_aload (hE : xEnv p l e R s m args below meth c D cA ad fm A n0 mi) {i : Nat} (hdg : decode mi.2.1 pc = .ok (.aload i, 2)) (h : xGood (xRn p l e R s m args below meth c D cA ad ρ fm A mi.2.2.2.2.1 n0 mi.2.2.2.2.2.2.2.1 mi.2.2.2.2.2.2.2.2.1 Q) L (xload pc lo st C rg uc us xisR i 2)) : xRn p l e R s m args below meth c D cA ad ρ fm A mi.2.2.2.2.1 n0 mi.2.2.2.2.2.2.2.1 mi.2.2.2.2.2.2.2.2.1 Q (pc, lo, st, C, rg, uc, us) := by
  obtain ⟨v, hv, hi, hk⟩ := z_load h
  intro H locs ls hR hL hP hD hS hn
  have hl := hL.2.2 _ _ hv
  have h2 := hk H locs ls hR hL hP hD hS hn
  rcases xv_R (ad := ad) (ρ := ρ) (z_F hE) hi with ex | ⟨x, ex⟩
  · rw [ex] at hl
    simp only [List.map_cons, ex] at h2
    exact lv_aloadN hE.1 hE.2.1 hdg hl h2
  · rw [ex] at hl
    simp only [List.map_cons, ex] at h2
    exact lv_aload hE.1 hE.2.1 hdg hl h2
-- stores
theorem z_store1 {ok : Value → Bool} {mx i len : Nat} (h : xGood (xRn p l e R s m args below meth c D cA ad ρ fm A mi.2.2.2.2.1 n0 mi.2.2.2.2.2.2.2.1 mi.2.2.2.2.2.2.2.2.1 Q) L (xstore1 pc lo st C rg uc us ok mx i len)) : ∃ v r, st = v :: r ∧ ok v = true ∧ i < mx ∧ xRn p l e R s m args below meth c D cA ad ρ fm A mi.2.2.2.2.1 n0 mi.2.2.2.2.2.2.2.1 mi.2.2.2.2.2.2.2.2.1 Q (pc + len, xs1 lo i v, r, C, rg, uc, us) := by
  unfold xstore1 at h
  split at h
  · next v r =>
    split at h
    · next ho =>
      split at h
      · next hi => rw [xst1_eq] at h; exact ⟨v, r, rfl, ho, hi, h⟩
      · exact absurd h id
    · exact absurd h id
  · exact absurd h id
theorem z_istore_n (hE : xEnv p l e R s m args below meth c D cA ad fm A n0 mi) {k : Fin 4} (hdg : decode mi.2.1 pc = .ok (.istore_n k, 1)) (h : xGood (xRn p l e R s m args below meth c D cA ad ρ fm A mi.2.2.2.2.1 n0 mi.2.2.2.2.2.2.2.1 mi.2.2.2.2.2.2.2.2.1 Q) L (xstore1 pc lo st C rg uc us xisI mi.2.2.2.2.1 k.val 1)) : xRn p l e R s m args below meth c D cA ad ρ fm A mi.2.2.2.2.1 n0 mi.2.2.2.2.2.2.2.1 mi.2.2.2.2.2.2.2.2.1 Q (pc, lo, st, C, rg, uc, us) := by
  obtain ⟨v, r, rfl, hi, hm, hk⟩ := z_store1 h
  intro H locs ls hR hL hP hD hS hn
  obtain ⟨x, ex⟩ := xv_I (ad := ad) (ρ := ρ) (fm := fm) hi
  simp only [List.map_cons, ex]
  refine lv_istore_n hE.1 hE.2.1 hdg rfl hL.has hm rfl (fun ls' hl' => hk H locs ls' hR (xLV_st1 (z_F hE) ?_) hP hD hS hn)
  rw [ex]
  exact hl'
theorem z_istore (hE : xEnv p l e R s m args below meth c D cA ad fm A n0 mi) {i : Nat} (hdg : decode mi.2.1 pc = .ok (.istore i, 2)) (h : xGood (xRn p l e R s m args below meth c D cA ad ρ fm A mi.2.2.2.2.1 n0 mi.2.2.2.2.2.2.2.1 mi.2.2.2.2.2.2.2.2.1 Q) L (xstore1 pc lo st C rg uc us xisI mi.2.2.2.2.1 i 2)) : xRn p l e R s m args below meth c D cA ad ρ fm A mi.2.2.2.2.1 n0 mi.2.2.2.2.2.2.2.1 mi.2.2.2.2.2.2.2.2.1 Q (pc, lo, st, C, rg, uc, us) := by
  obtain ⟨v, r, rfl, hi, hm, hk⟩ := z_store1 h
  intro H locs ls hR hL hP hD hS hn
  obtain ⟨x, ex⟩ := xv_I (ad := ad) (ρ := ρ) (fm := fm) hi
  simp only [List.map_cons, ex]
  refine lv_istore hE.1 hE.2.1 hdg hL.has hm rfl (fun ls' hl' => hk H locs ls' hR (xLV_st1 (z_F hE) ?_) hP hD hS hn)
  rw [ex]
  exact hl'
theorem z_astore_n (hE : xEnv p l e R s m args below meth c D cA ad fm A n0 mi) {k : Fin 4} (hdg : decode mi.2.1 pc = .ok (.astore_n k, 1)) (h : xGood (xRn p l e R s m args below meth c D cA ad ρ fm A mi.2.2.2.2.1 n0 mi.2.2.2.2.2.2.2.1 mi.2.2.2.2.2.2.2.2.1 Q) L (xstore1 pc lo st C rg uc us xisR mi.2.2.2.2.1 k.val 1)) : xRn p l e R s m args below meth c D cA ad ρ fm A mi.2.2.2.2.1 n0 mi.2.2.2.2.2.2.2.1 mi.2.2.2.2.2.2.2.2.1 Q (pc, lo, st, C, rg, uc, us) := by
  obtain ⟨v, r, rfl, hi, hm, hk⟩ := z_store1 h
  intro H locs ls hR hL hP hD hS hn
  rcases xv_R (ad := ad) (ρ := ρ) (z_F hE) hi with ex | ⟨x, ex⟩
  · simp only [List.map_cons, ex]
    refine lv_astore_nN hE.1 hE.2.1 hdg rfl hL.has hm rfl (fun ls' hl' => hk H locs ls' hR (xLV_st1 (z_F hE) ?_) hP hD hS hn)
    rw [ex]
    exact hl'
  · simp only [List.map_cons, ex]
    refine lv_astore_n hE.1 hE.2.1 hdg rfl hL.has hm rfl (fun ls' hl' => hk H locs ls' hR (xLV_st1 (z_F hE) ?_) hP hD hS hn)
    rw [ex]
    exact hl'
theorem z_astore (hE : xEnv p l e R s m args below meth c D cA ad fm A n0 mi) {i : Nat} (hdg : decode mi.2.1 pc = .ok (.astore i, 2)) (h : xGood (xRn p l e R s m args below meth c D cA ad ρ fm A mi.2.2.2.2.1 n0 mi.2.2.2.2.2.2.2.1 mi.2.2.2.2.2.2.2.2.1 Q) L (xstore1 pc lo st C rg uc us xisR mi.2.2.2.2.1 i 2)) : xRn p l e R s m args below meth c D cA ad ρ fm A mi.2.2.2.2.1 n0 mi.2.2.2.2.2.2.2.1 mi.2.2.2.2.2.2.2.2.1 Q (pc, lo, st, C, rg, uc, us) := by
  obtain ⟨v, r, rfl, hi, hm, hk⟩ := z_store1 h
  intro H locs ls hR hL hP hD hS hn
  rcases xv_R (ad := ad) (ρ := ρ) (z_F hE) hi with ex | ⟨x, ex⟩
  · simp only [List.map_cons, ex]
    refine lv_astoreN hE.1 hE.2.1 hdg hL.has hm rfl (fun ls' hl' => hk H locs ls' hR (xLV_st1 (z_F hE) ?_) hP hD hS hn)
    rw [ex]
    exact hl'
  · simp only [List.map_cons, ex]
    refine lv_astore hE.1 hE.2.1 hdg hL.has hm rfl (fun ls' hl' => hk H locs ls' hR (xLV_st1 (z_F hE) ?_) hP hD hS hn)
    rw [ex]
    exact hl'
theorem z_store2 {mx i len : Nat} (h : xGood (xRn p l e R s m args below meth c D cA ad ρ fm A mi.2.2.2.2.1 n0 mi.2.2.2.2.2.2.2.1 mi.2.2.2.2.2.2.2.2.1 Q) L (xstore2 pc lo st C rg uc us mx i len)) : ∃ v r, st = v :: r ∧ xisL v = true ∧ i + 1 < mx ∧ xRn p l e R s m args below meth c D cA ad ρ fm A mi.2.2.2.2.1 n0 mi.2.2.2.2.2.2.2.1 mi.2.2.2.2.2.2.2.2.1 Q (pc + len, (xs1 lo i v).set (i + 1) none, r, C, rg, uc, us) := by
  unfold xstore2 at h
  split at h
  · next v r =>
    split at h
    · next ho =>
      split at h
      · next hi => rw [xst2_eq] at h; exact ⟨v, r, rfl, ho, hi, h⟩
      · exact absurd h id
    · exact absurd h id
  · exact absurd h id
theorem z_lstore_n (hE : xEnv p l e R s m args below meth c D cA ad fm A n0 mi) {k : Fin 4} (hdg : decode mi.2.1 pc = .ok (.lstore_n k, 1)) (h : xGood (xRn p l e R s m args below meth c D cA ad ρ fm A mi.2.2.2.2.1 n0 mi.2.2.2.2.2.2.2.1 mi.2.2.2.2.2.2.2.2.1 Q) L (xstore2 pc lo st C rg uc us mi.2.2.2.2.1 k.val 1)) : xRn p l e R s m args below meth c D cA ad ρ fm A mi.2.2.2.2.1 n0 mi.2.2.2.2.2.2.2.1 mi.2.2.2.2.2.2.2.2.1 Q (pc, lo, st, C, rg, uc, us) := by
  obtain ⟨v, r, rfl, hi, hm, hk⟩ := z_store2 h
  intro H locs ls hR hL hP hD hS hn
  obtain ⟨x, ex⟩ := xv_L (ad := ad) (ρ := ρ) (fm := fm) hi
  simp only [List.map_cons, ex]
  refine lv_lstore_n hE.1 hE.2.1 hdg rfl hL.has hm rfl (fun ls' hl' => hk H locs ls' hR (xLV_st2 (z_F hE) ?_) hP hD hS hn)
  rw [ex]
  exact hl'
theorem z_lstore (hE : xEnv p l e R s m args below meth c D cA ad fm A n0 mi) {i : Nat} (hdg : decode mi.2.1 pc = .ok (.lstore i, 2)) (h : xGood (xRn p l e R s m args below meth c D cA ad ρ fm A mi.2.2.2.2.1 n0 mi.2.2.2.2.2.2.2.1 mi.2.2.2.2.2.2.2.2.1 Q) L (xstore2 pc lo st C rg uc us mi.2.2.2.2.1 i 2)) : xRn p l e R s m args below meth c D cA ad ρ fm A mi.2.2.2.2.1 n0 mi.2.2.2.2.2.2.2.1 mi.2.2.2.2.2.2.2.2.1 Q (pc, lo, st, C, rg, uc, us) := by
  obtain ⟨v, r, rfl, hi, hm, hk⟩ := z_store2 h
  intro H locs ls hR hL hP hD hS hn
  obtain ⟨x, ex⟩ := xv_L (ad := ad) (ρ := ρ) (fm := fm) hi
  simp only [List.map_cons, ex]
  refine lv_lstore hE.1 hE.2.1 hdg hL.has hm rfl (fun ls' hl' => hk H locs ls' hR (xLV_st2 (z_F hE) ?_) hP hD hS hn)
  rw [ex]
  exact hl'
-- numbers
theorem z_bin {f : Int32 → Int32 → Option Int32} (row : ∀ (x y z : Int32), f x y = some z → ∀ (H : Heap) (locs : List Loc) (ls : Array Slot) (rest : List Value), W p l e R s m args below meth c H locs uc us Q (F0 m (pc + 1) ls (.int z :: rest)) → W p l e R s m args below meth c H locs uc us Q (F0 m pc ls (.int y :: .int x :: rest))) (h : xGood (xRn p l e R s m args below meth c D cA ad ρ fm A mi.2.2.2.2.1 n0 mi.2.2.2.2.2.2.2.1 mi.2.2.2.2.2.2.2.2.1 Q) L (xbin pc lo st C rg uc us f)) : xRn p l e R s m args below meth c D cA ad ρ fm A mi.2.2.2.2.1 n0 mi.2.2.2.2.2.2.2.1 mi.2.2.2.2.2.2.2.2.1 Q (pc, lo, st, C, rg, uc, us) := by
  unfold xbin at h
  split at h
  · next b a r =>
    split at h
    · next x hx =>
      split at h
      · next y hy =>
        split at h
        · next z hz =>
          rw [xfI_eq] at h
          intro H locs ls hR hL hP hD hS hn
          have e1 := xci_ok (ad := ad) (fm := fm) hR hx
          have e2 := xci_ok (ad := ad) (fm := fm) hR hy
          have h2 := h H locs ls hR hL hP hD hS hn
          simp only [List.map_cons, e1, e2] at h2 ⊢
          exact row x y z hz H locs ls _ h2
        · exact absurd h id
      · exact z_fork (fun hR => xcov_cs hR _) h
    · exact z_fork (fun hR => xcov_cs hR _) h
  · exact absurd h id
theorem z_add (hE : xEnv p l e R s m args below meth c D cA ad fm A n0 mi) (hdg : decode mi.2.1 pc = .ok (.iadd, 1)) (h : xGood (xRn p l e R s m args below meth c D cA ad ρ fm A mi.2.2.2.2.1 n0 mi.2.2.2.2.2.2.2.1 mi.2.2.2.2.2.2.2.2.1 Q) L (xadd pc lo st C rg uc us)) : xRn p l e R s m args below meth c D cA ad ρ fm A mi.2.2.2.2.1 n0 mi.2.2.2.2.2.2.2.1 mi.2.2.2.2.2.2.2.2.1 Q (pc, lo, st, C, rg, uc, us) := by
  have row : ∀ (x y z : Int32), (fun x y => some (x + y)) x y = some z → ∀ (H : Heap) (locs : List Loc) (ls : Array Slot) (rest : List Value), W p l e R s m args below meth c H locs uc us Q (F0 m (pc + 1) ls (.int z :: rest)) → W p l e R s m args below meth c H locs uc us Q (F0 m pc ls (.int y :: .int x :: rest)) := by
    intro x y z hz H locs ls rest k
    cases hz
    exact lv_iadd hE.1 hE.2.1 hdg k
  unfold xadd at h
  split at h
  · next y j r =>
    split at h
    · exact z_bin row h
    · split at h
      · next lr hl => exact z_fork (fun hR => by rw [← hl]; exact xcov_cs hR _) h
      · split at h
        · next hj =>
          intro H locs ls hR hL hP hD hS hn
          have h2 := h H locs ls hR hL hP hD hS hn
          have e1 : xv ad ρ fm (.retAddr (j + 32 * y.toBitVec.toNat)) = .int ((ρ (j % 32 / 2) + Int32.ofNat (j / 32)) + y) := by
            have a1 : (j + 32 * y.toBitVec.toNat) % 2 = 0 := by omega
            have a2 : (j + 32 * y.toBitVec.toNat) % 32 = j % 32 := by omega
            have a3 : (j + 32 * y.toBitVec.toNat) / 32 = j / 32 + y.toBitVec.toNat := by omega
            rw [xv, if_pos a1, a2, a3, Int32.ofNat_add, xfI_ofNat, Int32.add_assoc]
          have e2 : xv ad ρ fm (.retAddr j) = .int (ρ (j % 32 / 2) + Int32.ofNat (j / 32)) := by rw [xv, if_pos hj]
          have e3 : xv ad ρ fm (.int y) = .int y := rfl
          simp only [List.map_cons, e1, e2, e3] at h2 ⊢
          exact lv_iadd hE.1 hE.2.1 hdg h2
        · exact absurd h id
  · exact z_bin row h
theorem z_un {f : Int32 → Int32} (row : ∀ (x : Int32) (H : Heap) (locs : List Loc) (ls : Array Slot) (rest : List Value), W p l e R s m args below meth c H locs uc us Q (F0 m (pc + 1) ls (.int (f x) :: rest)) → W p l e R s m args below meth c H locs uc us Q (F0 m pc ls (.int x :: rest))) (h : xGood (xRn p l e R s m args below meth c D cA ad ρ fm A mi.2.2.2.2.1 n0 mi.2.2.2.2.2.2.2.1 mi.2.2.2.2.2.2.2.2.1 Q) L (xun pc lo st C rg uc us f)) : xRn p l e R s m args below meth c D cA ad ρ fm A mi.2.2.2.2.1 n0 mi.2.2.2.2.2.2.2.1 mi.2.2.2.2.2.2.2.2.1 Q (pc, lo, st, C, rg, uc, us) := by
  unfold xun at h
  split at h
  · next a r =>
    split at h
    · next x hx =>
      rw [xfI_eq] at h
      intro H locs ls hR hL hP hD hS hn
      have e1 := xci_ok (ad := ad) (fm := fm) hR hx
      have h2 := h H locs ls hR hL hP hD hS hn
      simp only [List.map_cons, e1] at h2 ⊢
      exact row x H locs ls _ h2
    · exact z_fork (fun hR => xcov_cs hR _) h
  · exact absurd h id
theorem z_binL {f : Int64 → Int64 → Option Int64} (row : ∀ (x y z : Int64), f x y = some z → ∀ (H : Heap) (locs : List Loc) (ls : Array Slot) (rest : List Value), W p l e R s m args below meth c H locs uc us Q (F0 m (pc + 1) ls (.long z :: rest)) → W p l e R s m args below meth c H locs uc us Q (F0 m pc ls (.long y :: .long x :: rest))) (h : xGood (xRn p l e R s m args below meth c D cA ad ρ fm A mi.2.2.2.2.1 n0 mi.2.2.2.2.2.2.2.1 mi.2.2.2.2.2.2.2.2.1 Q) L (xbinL pc lo st C rg uc us f)) : xRn p l e R s m args below meth c D cA ad ρ fm A mi.2.2.2.2.1 n0 mi.2.2.2.2.2.2.2.1 mi.2.2.2.2.2.2.2.2.1 Q (pc, lo, st, C, rg, uc, us) := by
  unfold xbinL at h
  split at h
  · next b a r =>
    split at h
    · next x hx =>
      split at h
      · next y hy =>
        split at h
        · next z hz =>
          intro H locs ls hR hL hP hD hS hn
          have e1 := xcl_ok (ad := ad) (fm := fm) hR hx
          have e2 := xcl_ok (ad := ad) (fm := fm) hR hy
          have h2 := h H locs ls hR hL hP hD hS hn
          simp only [List.map_cons, e1, e2] at h2 ⊢
          exact row x y z hz H locs ls _ h2
        · exact absurd h id
      · exact absurd h id
    · exact absurd h id
  · exact absurd h id
theorem z_i2l (hE : xEnv p l e R s m args below meth c D cA ad fm A n0 mi) (hdg : decode mi.2.1 pc = .ok (.i2l, 1)) (h : xGood (xRn p l e R s m args below meth c D cA ad ρ fm A mi.2.2.2.2.1 n0 mi.2.2.2.2.2.2.2.1 mi.2.2.2.2.2.2.2.2.1 Q) L (xi2l pc lo st C rg uc us)) : xRn p l e R s m args below meth c D cA ad ρ fm A mi.2.2.2.2.1 n0 mi.2.2.2.2.2.2.2.1 mi.2.2.2.2.2.2.2.2.1 Q (pc, lo, st, C, rg, uc, us) := by
  unfold xi2l at h
  split at h
  · next x r =>
    intro H locs ls hR hL hP hD hS hn
    exact lv_i2l hE.1 hE.2.1 hdg rfl (h H locs ls hR hL hP hD hS hn)
  · next j r =>
    split at h
    · next hj =>
      intro H locs ls hR hL hP hD hS hn
      have h2 := h H locs ls hR hL hP hD hS hn
      have e1 : xv ad ρ fm (.retAddr (j + 1)) = .long (ρ (j % 32 / 2) + Int32.ofNat (j / 32)).toInt64 := by
        have a1 : ¬ (j + 1) % 2 = 0 := by omega
        have a2 : (j + 1) % 32 / 2 = j % 32 / 2 := by omega
        have a3 : (j + 1) / 32 = j / 32 := by omega
        rw [xv, if_neg a1, a2, a3]
      have e2 : xv ad ρ fm (.retAddr j) = .int (ρ (j % 32 / 2) + Int32.ofNat (j / 32)) := by rw [xv, if_pos hj]
      simp only [List.map_cons, e1, e2] at h2 ⊢
      exact lv_i2l hE.1 hE.2.1 hdg rfl h2
    · exact absurd h id
  · exact absurd h id
theorem z_l2i (hE : xEnv p l e R s m args below meth c D cA ad fm A n0 mi) (hdg : decode mi.2.1 pc = .ok (.l2i, 1)) (h : xGood (xRn p l e R s m args below meth c D cA ad ρ fm A mi.2.2.2.2.1 n0 mi.2.2.2.2.2.2.2.1 mi.2.2.2.2.2.2.2.2.1 Q) L (xl2i pc lo st C rg uc us)) : xRn p l e R s m args below meth c D cA ad ρ fm A mi.2.2.2.2.1 n0 mi.2.2.2.2.2.2.2.1 mi.2.2.2.2.2.2.2.2.1 Q (pc, lo, st, C, rg, uc, us) := by
  unfold xl2i at h
  split at h
  · next x r =>
    intro H locs ls hR hL hP hD hS hn
    exact lv_l2i hE.1 hE.2.1 hdg rfl (h H locs ls hR hL hP hD hS hn)
  · next j r =>
    split at h
    · next hj =>
      intro H locs ls hR hL hP hD hS hn
      have h2 := h H locs ls hR hL hP hD hS hn
      have e1 : xv ad ρ fm (.retAddr (j - 1)) = .int (ρ (j % 32 / 2) + Int32.ofNat (j / 32)) := by
        have a1 : (j - 1) % 2 = 0 := by omega
        have a2 : (j - 1) % 32 / 2 = j % 32 / 2 := by omega
        have a3 : (j - 1) / 32 = j / 32 := by omega
        rw [xv, if_pos a1, a2, a3]
      have e2 : xv ad ρ fm (.retAddr j) = .long (ρ (j % 32 / 2) + Int32.ofNat (j / 32)).toInt64 := by rw [xv, if_neg (by omega)]
      simp only [List.map_cons, e1, e2] at h2 ⊢
      exact lv_l2i hE.1 hE.2.1 hdg (by simp) h2
    · exact absurd h id
  · exact absurd h id
theorem z_lcmp (hE : xEnv p l e R s m args below meth c D cA ad fm A n0 mi) (hdg : decode mi.2.1 pc = .ok (.lcmp, 1)) (h : xGood (xRn p l e R s m args below meth c D cA ad ρ fm A mi.2.2.2.2.1 n0 mi.2.2.2.2.2.2.2.1 mi.2.2.2.2.2.2.2.2.1 Q) L (xlcmp pc lo st C rg uc us)) : xRn p l e R s m args below meth c D cA ad ρ fm A mi.2.2.2.2.1 n0 mi.2.2.2.2.2.2.2.1 mi.2.2.2.2.2.2.2.2.1 Q (pc, lo, st, C, rg, uc, us) := by
  unfold xlcmp at h
  split at h
  · next b a r =>
    split at h
    · next ia ha =>
      split at h
      · next ib hb =>
        have go : ∀ v : Int32, (∀ x y : Int64, ia.1 ≤ x.toInt ∧ x.toInt ≤ ia.2 → ib.1 ≤ y.toInt ∧ y.toInt ≤ ib.2 → lg_cmp x y = v) → xRn p l e R s m args below meth c D cA ad ρ fm A mi.2.2.2.2.1 n0 mi.2.2.2.2.2.2.2.1 mi.2.2.2.2.2.2.2.2.1 Q (pc + 1, lo, .int v :: r, C, rg, uc, us) → xRn p l e R s m args below meth c D cA ad ρ fm A mi.2.2.2.2.1 n0 mi.2.2.2.2.2.2.2.1 mi.2.2.2.2.2.2.2.2.1 Q (pc, lo, b :: a :: r, C, rg, uc, us) := by
          intro v hv k H locs ls hR hL hP hD hS hn
          obtain ⟨x, ex, hx⟩ := xlv_ok (ad := ad) (fm := fm) hR ha
          obtain ⟨y, ey, hy⟩ := xlv_ok (ad := ad) (fm := fm) hR hb
          have h2 := k H locs ls hR hL hP hD hS hn
          simp only [List.map_cons, ex, ey] at h2 ⊢
          refine W.lcmp hE.1 hE.2.1 hdg ?_
          rw [hv x y hx hy]
          exact h2
        split at h
        · next h1 =>
          refine go (-1) (fun x y hx hy => ?_) h
          have : ¬ x > y := by rw [gt_iff_lt, Int64.lt_iff_toInt_lt]; omega
          have n2 : ¬ x = y := fun q => by rw [q] at hx; omega
          rw [lg_cmp, if_neg this, if_neg n2]
        · split at h
          · next h1 h2 =>
            refine go 1 (fun x y hx hy => ?_) h
            have : x > y := by rw [gt_iff_lt, Int64.lt_iff_toInt_lt]; omega
            rw [lg_cmp, if_pos this]
          · split at h
            · next h1 h2 h3 =>
              refine go 0 (fun x y hx hy => ?_) h
              have e : x = y := Int64.toInt_inj.mp (by omega)
              have : ¬ x > y := by rw [gt_iff_lt, Int64.lt_iff_toInt_lt, e]; omega
              rw [lg_cmp, if_neg this, if_pos e]
            · exact z_fork (fun hR => xcov_else (xcov_sp hR _ _) (xcov_else (xcov_sp hR _ _) (xcov_else (xcov_sp hR _ _) (xcov_sp hR _ _)))) h
      · exact absurd h id
    · exact absurd h id
  · exact absurd h id
-- branches
theorem z_fall {off : Int} (h : xGood (xRn p l e R s m args below meth c D cA ad ρ fm A mi.2.2.2.2.1 n0 mi.2.2.2.2.2.2.2.1 mi.2.2.2.2.2.2.2.2.1 Q) L (xfall pc off lo st C rg uc us)) : ∃ t : Nat, (pc : Int) + off = (t : Int) ∧ xRn p l e R s m args below meth c D cA ad ρ fm A mi.2.2.2.2.1 n0 mi.2.2.2.2.2.2.2.1 mi.2.2.2.2.2.2.2.2.1 Q (pc + 3, lo, st, C, rg, uc, us) := by
  unfold xfall xtg at h
  cases ht : (pc : Int) + off with
  | ofNat t => rw [ht] at h; exact ⟨t, rfl, h⟩
  | negSucc t => rw [ht] at h; exact absurd h id
theorem z_icmp (hE : xEnv p l e R s m args below meth c D cA ad fm A n0 mi) {cc : ClassFile.Cond} {off : Int} (hdg : decode mi.2.1 pc = .ok (.if_icmp cc off, 3)) (h : xGood (xRn p l e R s m args below meth c D cA ad ρ fm A mi.2.2.2.2.1 n0 mi.2.2.2.2.2.2.2.1 mi.2.2.2.2.2.2.2.2.1 Q) L (xicmp pc lo st C rg uc us cc off)) : xRn p l e R s m args below meth c D cA ad ρ fm A mi.2.2.2.2.1 n0 mi.2.2.2.2.2.2.2.1 mi.2.2.2.2.2.2.2.2.1 Q (pc, lo, st, C, rg, uc, us) := by
  unfold xicmp at h
  split at h
  · next b a r =>
    split at h
    · next ia ha =>
      split at h
      · next ib hb =>
        split at h
        · next hc =>
          obtain ⟨t, ht, k⟩ := z_tg h
          intro H locs ls hR hL hP hD hS hn
          obtain ⟨x, ex, hx⟩ := xiv_ok (ad := ad) (fm := fm) hR ha
          obtain ⟨y, ey, hy⟩ := xiv_ok (ad := ad) (fm := fm) hR hb
          have h2 := k H locs ls hR hL hP hD hS hn
          have hq := (xcmp_ok hc hx hy).mp rfl
          simp only [List.map_cons, ex, ey]
          cases cc with
          | eq => exact lv_icmp_eq hE.1 hE.2.1 hdg ht (fun _ => h2) (fun q => absurd hq q)
          | ne => exact lv_icmp_ne hE.1 hE.2.1 hdg ht (fun _ => h2) (fun q => absurd q hq)
          | lt => exact lv_icmp_lt hE.1 hE.2.1 hdg ht (fun _ => h2) (fun q => absurd hq q)
          | ge => exact lv_icmp_ge hE.1 hE.2.1 hdg ht (fun _ => h2) (fun q => absurd hq q)
          | gt => exact lv_icmp_gt hE.1 hE.2.1 hdg ht (fun _ => h2) (fun q => absurd hq q)
          | le => exact lv_icmp_le hE.1 hE.2.1 hdg ht (fun _ => h2) (fun q => absurd hq q)
        · next hc =>
          obtain ⟨t, ht, k⟩ := z_fall h
          intro H locs ls hR hL hP hD hS hn
          obtain ⟨x, ex, hx⟩ := xiv_ok (ad := ad) (fm := fm) hR ha
          obtain ⟨y, ey, hy⟩ := xiv_ok (ad := ad) (fm := fm) hR hb
          have h2 := k H locs ls hR hL hP hD hS hn
          have hq : ¬ xcP cc x y := fun q => by have := (xcmp_ok hc hx hy).mpr q; cases this
          simp only [List.map_cons, ex, ey]
          cases cc with
          | eq => exact lv_icmp_eq hE.1 hE.2.1 hdg ht (fun q => absurd q hq) (fun _ => h2)
          | ne => exact lv_icmp_ne hE.1 hE.2.1 hdg ht (fun q => absurd q hq) (fun _ => h2)
          | lt => exact lv_icmp_lt hE.1 hE.2.1 hdg ht (fun q => absurd q hq) (fun _ => h2)
          | ge => exact lv_icmp_ge hE.1 hE.2.1 hdg ht (fun q => absurd q hq) (fun _ => h2)
          | gt => exact lv_icmp_gt hE.1 hE.2.1 hdg ht (fun q => absurd q hq) (fun _ => h2)
          | le => exact lv_icmp_le hE.1 hE.2.1 hdg ht (fun q => absurd q hq) (fun _ => h2)
        · exact z_fork (fun hR => xcov_else (xcov_sp hR _ _) (xcov_else (xcov_sp hR _ _) (xcov_else (xcov_sp hR _ _) (xcov_sp hR _ _)))) h
      · exact absurd h id
    · exact absurd h id
  · exact absurd h id
theorem z_if (hE : xEnv p l e R s m args below meth c D cA ad fm A n0 mi) {cc : ClassFile.Cond} {off : Int} (hdg : decode mi.2.1 pc = .ok (.ifCond cc off, 3)) (h : xGood (xRn p l e R s m args below meth c D cA ad ρ fm A mi.2.2.2.2.1 n0 mi.2.2.2.2.2.2.2.1 mi.2.2.2.2.2.2.2.2.1 Q) L (xif pc lo st C rg uc us cc off)) : xRn p l e R s m args below meth c D cA ad ρ fm A mi.2.2.2.2.1 n0 mi.2.2.2.2.2.2.2.1 mi.2.2.2.2.2.2.2.2.1 Q (pc, lo, st, C, rg, uc, us) := by
  have h0 : (((0, 0) : Int × Int).1 ≤ (0 : Int32).toInt ∧ (0 : Int32).toInt ≤ ((0, 0) : Int × Int).2) := ⟨Int.le_refl _, Int.le_refl _⟩
  unfold xif at h
  split at h
  · next a r =>
    split at h
    · next ia ha =>
      split at h
      · next hc =>
        obtain ⟨t, ht, k⟩ := z_tg h
        intro H locs ls hR hL hP hD hS hn
        obtain ⟨x, ex, hx⟩ := xiv_ok (ad := ad) (fm := fm) hR ha
        have h2 := k H locs ls hR hL hP hD hS hn
        have hq := (xcmp_ok hc hx h0).mp rfl
        simp only [List.map_cons, ex]
        cases cc with
        | eq => exact lv_if_eq hE.1 hE.2.1 hdg ht (fun _ => h2) (fun q => absurd hq q)
        | ne => exact lv_if_ne hE.1 hE.2.1 hdg ht (fun _ => h2) (fun q => absurd q hq)
        | lt => exact lv_if_lt hE.1 hE.2.1 hdg ht (fun _ => h2) (fun q => absurd hq q)
        | ge => exact lv_if_ge hE.1 hE.2.1 hdg ht (fun _ => h2) (fun q => absurd hq q)
        | gt => exact lv_if_gt hE.1 hE.2.1 hdg ht (fun _ => h2) (fun q => absurd hq q)
        | le => exact lv_if_le hE.1 hE.2.1 hdg ht (fun _ => h2) (fun q => absurd hq q)
      · next hc =>
        obtain ⟨t, ht, k⟩ := z_fall h
        intro H locs ls hR hL hP hD hS hn
        obtain ⟨x, ex, hx⟩ := xiv_ok (ad := ad) (fm := fm) hR ha
        have h2 := k H locs ls hR hL hP hD hS hn
        have hq : ¬ xcP cc x 0 := fun q => by have := (xcmp_ok hc hx h0).mpr q; cases this
        simp only [List.map_cons, ex]
        cases cc with
        | eq => exact lv_if_eq hE.1 hE.2.1 hdg ht (fun q => absurd q hq) (fun _ => h2)
        | ne => exact lv_if_ne hE.1 hE.2.1 hdg ht (fun q => absurd q hq) (fun _ => h2)
        | lt => exact lv_if_lt hE.1 hE.2.1 hdg ht (fun q => absurd q hq) (fun _ => h2)
        | ge => exact lv_if_ge hE.1 hE.2.1 hdg ht (fun q => absurd q hq) (fun _ => h2)
        | gt => exact lv_if_gt hE.1 hE.2.1 hdg ht (fun q => absurd q hq) (fun _ => h2)
        | le => exact lv_if_le hE.1 hE.2.1 hdg ht (fun q => absurd q hq) (fun _ => h2)
      · exact z_fork (fun hR => xcov_else (xcov_sp hR _ _) (xcov_sp hR _ _)) h
    · exact absurd h id
  · exact absurd h id
theorem z_goto (hE : xEnv p l e R s m args below meth c D cA ad fm A n0 mi) {off : Int} (hdg : decode mi.2.1 pc = .ok (.goto off, 3)) (h : xGood (xRn p l e R s m args below meth c D cA ad ρ fm A mi.2.2.2.2.1 n0 mi.2.2.2.2.2.2.2.1 mi.2.2.2.2.2.2.2.2.1 Q) L (xjump pc off lo st C rg uc us)) : xRn p l e R s m args below meth c D cA ad ρ fm A mi.2.2.2.2.1 n0 mi.2.2.2.2.2.2.2.1 mi.2.2.2.2.2.2.2.2.1 Q (pc, lo, st, C, rg, uc, us) := by
  obtain ⟨t, ht, k⟩ := z_tg h
  intro H locs ls hR hL hP hD hS hn
  exact lv_goto hE.1 hE.2.1 hdg ht (k H locs ls hR hL hP hD hS hn)
theorem z_iinc (hE : xEnv p l e R s m args below meth c D cA ad fm A n0 mi) {i : Nat} {n : Int} (hdg : decode mi.2.1 pc = .ok (.iinc i n, 3)) (h : xGood (xRn p l e R s m args below meth c D cA ad ρ fm A mi.2.2.2.2.1 n0 mi.2.2.2.2.2.2.2.1 mi.2.2.2.2.2.2.2.2.1 Q) L (xiinc pc lo st C rg uc us mi.2.2.2.2.1 i n)) : xRn p l e R s m args below meth c D cA ad ρ fm A mi.2.2.2.2.1 n0 mi.2.2.2.2.2.2.2.1 mi.2.2.2.2.2.2.2.2.1 Q (pc, lo, st, C, rg, uc, us) := by
  unfold xiinc at h
  rw [xnth_eq] at h
  split at h
  · next v hv =>
    split at h
    · next hi =>
      split at h
      · next x hx =>
        rw [xfI_eq, xst1_eq] at h
        intro H locs ls hR hL hP hD hS hn
        have e1 := xci_ok (ad := ad) (fm := fm) hR hx
        obtain ⟨k, hk⟩ := List.getElem?_of_mem (xlist_mem (V := xv ad ρ fm) hv)
        rw [e1] at hk
        refine lv_iinc hE.1 hE.2.1 hdg hL.has hk rfl hi rfl (fun ls' hl' => h H locs ls' hR (xLV_st1 (z_F hE) ?_) hP hD hS hn)
        exact hl'
      · exact z_fork (fun hR => xcov_cs hR _) h
    · exact absurd h id
  · exact absurd h id
theorem z_table (hE : xEnv p l e R s m args below meth c D cA ad fm A n0 mi) {d low hi : Int} {offs : Array Int} {len : Nat} (hdg : decode mi.2.1 pc = .ok (.tableswitch d low hi offs, len)) (h : xGood (xRn p l e R s m args below meth c D cA ad ρ fm A mi.2.2.2.2.1 n0 mi.2.2.2.2.2.2.2.1 mi.2.2.2.2.2.2.2.2.1 Q) L (xtable pc lo st C rg uc us d low hi offs.toList)) : xRn p l e R s m args below meth c D cA ad ρ fm A mi.2.2.2.2.1 n0 mi.2.2.2.2.2.2.2.1 mi.2.2.2.2.2.2.2.2.1 Q (pc, lo, st, C, rg, uc, us) := by
  unfold xtable at h
  split at h
  · next a r =>
    split at h
    · next ia ha =>
      split at h
      · next h1 =>
        obtain ⟨t, ht, k⟩ := z_tg h
        intro H locs ls hR hL hP hD hS hn
        obtain ⟨x, ex, hx⟩ := xiv_ok (ad := ad) (fm := fm) hR ha
        have h2 := k H locs ls hR hL hP hD hS hn
        simp only [List.map_cons, ex]
        exact lv_tableOut hE.1 hE.2.1 hdg (Or.inl (by omega)) ht h2
      · split at h
        · next h1 h3 =>
          obtain ⟨t, ht, k⟩ := z_tg h
          intro H locs ls hR hL hP hD hS hn
          obtain ⟨x, ex, hx⟩ := xiv_ok (ad := ad) (fm := fm) hR ha
          have h2 := k H locs ls hR hL hP hD hS hn
          simp only [List.map_cons, ex]
          exact lv_tableOut hE.1 hE.2.1 hdg (Or.inr (by omega)) ht h2
        · split at h
          · next h1 h3 h4 =>
            split at h
            · next off ho =>
              obtain ⟨t, ht, k⟩ := z_tg h
              intro H locs ls hR hL hP hD hS hn
              obtain ⟨x, ex, hx⟩ := xiv_ok (ad := ad) (fm := fm) hR ha
              have h2 := k H locs ls hR hL hP hD hS hn
              simp only [List.map_cons, ex]
              have e1 : x.toInt = ia.1 := by omega
              rw [xnth_eq, Array.getElem?_toList, ← e1] at ho
              exact lv_tableIn hE.1 hE.2.1 hdg (by omega) (by omega) ho ht h2
            · exact absurd h id
          · exact z_fork (fun hR => xcov_else (xcov_sp hR _ _) (xcov_else (xcov_sp hR _ _) (xcov_sp hR _ _))) h
    · exact absurd h id
  · exact absurd h id
theorem z_look (hE : xEnv p l e R s m args below meth c D cA ad fm A n0 mi) {d : Int} {ps : Array (Int × Int)} {len : Nat} (hdg : decode mi.2.1 pc = .ok (.lookupswitch d ps, len)) (h : xGood (xRn p l e R s m args below meth c D cA ad ρ fm A mi.2.2.2.2.1 n0 mi.2.2.2.2.2.2.2.1 mi.2.2.2.2.2.2.2.2.1 Q) L (xlook pc lo st C rg uc us d ps.toList)) : xRn p l e R s m args below meth c D cA ad ρ fm A mi.2.2.2.2.1 n0 mi.2.2.2.2.2.2.2.1 mi.2.2.2.2.2.2.2.2.1 Q (pc, lo, st, C, rg, uc, us) := by
  unfold xlook at h
  split at h
  · next a r =>
    split at h
    · next x hx =>
      split at h
      · next hp =>
        obtain ⟨t, ht, k⟩ := z_tg h
        intro H locs ls hR hL hP hD hS hn
        have e1 := xci_ok (ad := ad) (fm := fm) hR hx
        have h2 := k H locs ls hR hL hP hD hS hn
        simp only [List.map_cons, e1]
        exact lv_lookup hE.1 hE.2.1 hdg hp rfl ht h2
      · exact absurd h id
    · refine z_fork (fun hR => xcov_else (xcov_cs hR _) ?_) h
      split
      · refine xcov_else (xcov_sp hR _ _) ?_
        split
        · exact xcov_sp hR _ _
        · exact xcov_none
      · exact xcov_none
  · exact absurd h id
theorem z_cat {v : Value} (hE : xEnv p l e R s m args below meth c D cA ad fm A n0 mi) {b : Bool} (h : xc2 v = b) : (xv ad ρ fm v).category = if b = true then 2 else 1 := by
  rw [xv_cat (z_F hE), h]
theorem z_dup (hE : xEnv p l e R s m args below meth c D cA ad fm A n0 mi) (hdg : decode mi.2.1 pc = .ok (.dup, 1)) (h : xGood (xRn p l e R s m args below meth c D cA ad ρ fm A mi.2.2.2.2.1 n0 mi.2.2.2.2.2.2.2.1 mi.2.2.2.2.2.2.2.2.1 Q) L (xdup pc lo st C rg uc us)) : xRn p l e R s m args below meth c D cA ad ρ fm A mi.2.2.2.2.1 n0 mi.2.2.2.2.2.2.2.1 mi.2.2.2.2.2.2.2.2.1 Q (pc, lo, st, C, rg, uc, us) := by
  unfold xdup at h
  split at h
  · next a r =>
    split at h
    · exact absurd h id
    · next ha =>
      intro H locs ls hR hL hP hD hS hn
      have hc := xv_cat (ad := ad) (ρ := ρ) (z_F hE) a
      rw [if_neg ha] at hc
      exact lv_dup hE.1 hE.2.1 hdg hc (h H locs ls hR hL hP hD hS hn)
  · exact absurd h id
theorem z_dup2 (hE : xEnv p l e R s m args below meth c D cA ad fm A n0 mi) (hdg : decode mi.2.1 pc = .ok (.dup2, 1)) (h : xGood (xRn p l e R s m args below meth c D cA ad ρ fm A mi.2.2.2.2.1 n0 mi.2.2.2.2.2.2.2.1 mi.2.2.2.2.2.2.2.2.1 Q) L (xdup2 pc lo st C rg uc us)) : xRn p l e R s m args below meth c D cA ad ρ fm A mi.2.2.2.2.1 n0 mi.2.2.2.2.2.2.2.1 mi.2.2.2.2.2.2.2.2.1 Q (pc, lo, st, C, rg, uc, us) := by
  unfold xdup2 at h
  split at h
  · next a b r =>
    have hca := xv_cat (ad := ad) (ρ := ρ) (z_F hE) a
    have hcb := xv_cat (ad := ad) (ρ := ρ) (z_F hE) b
    split at h
    · next ha =>
      rw [if_pos ha] at hca
      intro H locs ls hR hL hP hD hS hn
      exact lv_dup2_2 hE.1 hE.2.1 hdg hca (h H locs ls hR hL hP hD hS hn)
    · next ha =>
      rw [if_neg ha] at hca
      split at h
      · exact absurd h id
      · next hb =>
        rw [if_neg hb] at hcb
        intro H locs ls hR hL hP hD hS hn
        exact lv_dup2_11 hE.1 hE.2.1 hdg hca hcb (h H locs ls hR hL hP hD hS hn)
  · next a =>
    have hca := xv_cat (ad := ad) (ρ := ρ) (z_F hE) a
    split at h
    · next ha =>
      rw [if_pos ha] at hca
      intro H locs ls hR hL hP hD hS hn
      exact lv_dup2_2 hE.1 hE.2.1 hdg hca (h H locs ls hR hL hP hD hS hn)
    · exact absurd h id
  · exact absurd h id
theorem z_pop (hE : xEnv p l e R s m args below meth c D cA ad fm A n0 mi) (hdg : decode mi.2.1 pc = .ok (.pop, 1)) (h : xGood (xRn p l e R s m args below meth c D cA ad ρ fm A mi.2.2.2.2.1 n0 mi.2.2.2.2.2.2.2.1 mi.2.2.2.2.2.2.2.2.1 Q) L (xpop1 pc lo st C rg uc us)) : xRn p l e R s m args below meth c D cA ad ρ fm A mi.2.2.2.2.1 n0 mi.2.2.2.2.2.2.2.1 mi.2.2.2.2.2.2.2.2.1 Q (pc, lo, st, C, rg, uc, us) := by
  unfold xpop1 at h
  split at h
  · next a r =>
    split at h
    · exact absurd h id
    · next ha =>
      intro H locs ls hR hL hP hD hS hn
      have hc := xv_cat (ad := ad) (ρ := ρ) (z_F hE) a
      rw [if_neg ha] at hc
      exact lv_pop hE.1 hE.2.1 hdg hc (h H locs ls hR hL hP hD hS hn)
  · exact absurd h id
end XROWS
end

section
/-! the heap's instructions -/
noncomputable def kxT (ci : Nat) : Nat → FieldType := match ci with
  | 0 => tyX0
  | 1 => tyX1
  | 2 => tyX2
  | 3 => tyX3
  | 4 => tyX4
  | 5 => tyX5
  | 6 => tyX6
  | _ => tyX7
noncomputable def kxR (ci k : Nat) : Bool := match kxT ci k with
  | .object _ => xty ci k == 2
  | .array _ => xty ci k == 2
  | .int => xty ci k == 0
  | .boolean => xty ci k == 1
  | .long => xty ci k == 3
  | _ => false
noncomputable def kxD (ci k : Nat) : Bool := decide (defaultValue (kxT ci k) = vp_V (xDf.getD ci []) k)
def kxOK (ci : Nat) (q : vw_C) : Prop := (∀ w ∈ u_ws q.1 q.2.1 q.2.2, w ∈ wsL_law) ∧ (∀ k, k < q.2.2 → parseFieldDescriptor (q.2.1 k).2.2.1 = some (kxT ci k)) ∧ (∀ a, a < q.2.2 → ∀ b, b < q.2.2 → a ≠ b → (q.2.1 a).2.1 ≠ (q.2.1 b).2.1) ∧ (∀ k, k < q.2.2 → kxR ci k = true) ∧ (∀ k, k < q.2.2 → xfin ci k = (q.2.1 k).2.2.2) ∧ (∀ k, k < q.2.2 → (q.2.1 k).1 = xcn ci) ∧ (∀ k, k < q.2.2 → kxD ci k = true) ∧ (xDf.getD ci []).length = q.2.2 ∧ ci < 8
set_option maxRecDepth 100000 in
theorem kx_ok : ∀ (ci : Nat) (q : vw_C), vwCl[ci]? = some q → kxOK ci q
  | 0, q, h => by cases h; exact ⟨inlX0, tyX0_ok, nmX0, by decide +kernel, by decide +kernel, by decide +kernel, by decide +kernel, rfl, by decide⟩
  | 1, q, h => by cases h; exact ⟨inlX1, tyX1_ok, nmX1, by decide +kernel, by decide +kernel, by decide +kernel, by decide +kernel, rfl, by decide⟩
  | 2, q, h => by cases h; exact ⟨inlX2, tyX2_ok, nmX2, by decide +kernel, by decide +kernel, by decide +kernel, by decide +kernel, rfl, by decide⟩
  | 3, q, h => by cases h; exact ⟨inlX3, tyX3_ok, nmX3, by decide +kernel, by decide +kernel, by decide +kernel, by decide +kernel, rfl, by decide⟩
  | 4, q, h => by cases h; exact ⟨inlX4, tyX4_ok, nmX4, by decide +kernel, by decide +kernel, by decide +kernel, by decide +kernel, rfl, by decide⟩
  | 5, q, h => by cases h; exact ⟨inlX5, tyX5_ok, nmX5, by decide +kernel, by decide +kernel, by decide +kernel, by decide +kernel, rfl, by decide⟩
  | 6, q, h => by cases h; exact ⟨inlX6, tyX6_ok, nmX6, by decide +kernel, by decide +kernel, by decide +kernel, by decide +kernel, rfl, by decide⟩
  | 7, q, h => by cases h; exact ⟨inlX7, tyX7_ok, nmX7, by decide +kernel, by decide +kernel, by decide +kernel, by decide +kernel, rfl, by decide⟩
  | n + 8, q, h => by simp [vwCl] at h
theorem xfits_ok {ad : Nat → Nat} {ρ : Nat → Int32} {fm : Value} {rg : xRG} (hf : xokF fm) {ci k : Nat} {v : Value} (hk : kxR ci k = true) (h : xfits rg (xty ci k) v = true) : narrow (kxT ci k) (xv ad ρ fm v) = xv ad ρ fm v ∧ fits (kxT ci k) (xv ad ρ fm v) = true := by
  unfold kxR at hk
  split at hk
  · next q =>
    rw [beq_iff_eq] at hk
    rw [hk] at h
    rcases xv_R (ad := ad) (ρ := ρ) hf (show xisR v = true from h) with e | ⟨a, e⟩ <;> rw [e] <;> simp_all [narrow, fits]
  · next q =>
    rw [beq_iff_eq] at hk
    rw [hk] at h
    rcases xv_R (ad := ad) (ρ := ρ) hf (show xisR v = true from h) with e | ⟨a, e⟩ <;> rw [e] <;> simp_all [narrow, fits]
  · next q =>
    rw [beq_iff_eq] at hk
    rw [hk] at h
    obtain ⟨x, e⟩ := xv_I (ad := ad) (ρ := ρ) (fm := fm) (show xisI v = true from h)
    rw [e, q]
    exact ⟨rfl, rfl⟩
  · next q =>
    rw [beq_iff_eq] at hk
    rw [hk] at h
    unfold xfits at h
    split at h
    · next heq => cases heq
    · next heq =>
      split at h
      · next x =>
        rw [Bool.or_eq_true, beq_iff_eq, beq_iff_eq] at h
        rw [q]
        rcases h with rfl | rfl
        · exact ⟨rfl, rfl⟩
        · exact ⟨rfl, rfl⟩
      · cases h
    · next h1 => cases h1
    · next h1 h2 h3 => exact absurd rfl h2
  · next q =>
    rw [beq_iff_eq] at hk
    rw [hk] at h
    obtain ⟨x, e⟩ := xv_L (ad := ad) (ρ := ρ) (fm := fm) (show xisL v = true from h)
    rw [e, q]
    exact ⟨rfl, rfl⟩
  · cases hk
theorem xencC_o {cA : Nat → ClassId} {V : Value → Value} {t : Nat} {fs : List Value} (h : t < 100) : xencC cA V (t, fs) = .inr (t, fs.map V) := by
  unfold xencC; rw [if_pos h]
theorem xencC_i {cA : Nat → ClassId} {V : Value → Value} {t : Nat} {xs : List Value} (h : 100 ≤ t) (h2 : t < 102) : xencC cA V (t, xs) = .inl (cA t, xs.length, .inl (fun j => xI (V (xs.getD j .null)))) := by
  unfold xencC; rw [if_neg (by simp; omega), if_pos (by simpa using h2)]
theorem xencC_q {cA : Nat → ClassId} {V : Value → Value} {t : Nat} {xs : List Value} (h : 102 ≤ t) : xencC cA V (t, xs) = .inl (cA t, xs.length, .inr (.inr (.inr (.inr (fun j => xR (V (xs.getD j .null))))))) := by
  unfold xencC; rw [if_neg (by simp; omega), if_neg (by simp; omega)]
theorem xvpin {x : Int32} {n : Nat} (h : ¬ x.toInt < 0) (h2 : x.toInt.toNat < n) : vp_in x n := vp_in_iff.mpr ⟨by omega, by omega⟩
theorem xtn (x : Int32) : x.toNatClampNeg = x.toInt.toNat := rfl
theorem xgetD {α : Type} {l : List α} {i : Nat} {v d : α} (h : l[i]? = some v) : l.getD i d = v := by
  rw [List.getD_eq_getElem?_getD, h]; rfl
theorem xgetD_set {α : Type} (l : List α) (i j : Nat) (v d : α) (h : i < l.length) : (l.set i v).getD j d = if j = i then v else l.getD j d := by
  rw [List.getD_eq_getElem?_getD, List.getD_eq_getElem?_getD]
  by_cases e : j = i
  · subst e; rw [if_pos rfl, List.getElem?_set_self h]; rfl
  · rw [if_neg e, List.getElem?_set_ne (Ne.symm e)]
theorem xstr_ix (b : Nat) (h1 : xB + 10 ≤ b) (h2 : b < xB + 23) : ∃ i, i < 13 ∧ b = xB + 10 + i := ⟨b - (xB + 10), by omega, by omega⟩
theorem xadd_sub (b : Nat) (h : ¬ b < xB) : xB + (b - xB) = b := by omega
section XHEAP
variable {p : Program} {l : Launch} {e : Env} {R : Room} {s : State} {m : MethodId} {args : Array Value} {below : List Frame} {meth : Method} {c : Code} {D : va_G} {cA : Nat → ClassId} {ad : Nat → Nat} {ρ : Nat → Int32} {fm : Value} {A : Nat → Prop} {n0 : Nat} {mi : xMI} {Q : State → Prop} {L : xLf → Prop}
variable {pc : Nat} {lo : List (Option Value)} {st : List Value} {C : List xCel} {rg : xRG} {uc us : Nat}
theorem z_get (hE : xEnv p l e R s m args below meth c D cA ad fm A n0 mi) {idx : Nat} (hdg : decode mi.2.1 pc = .ok (.getfield idx, 3)) (h : xGood (xRn p l e R s m args below meth c D cA ad ρ fm A mi.2.2.2.2.1 n0 mi.2.2.2.2.2.2.2.1 mi.2.2.2.2.2.2.2.2.1 Q) L (xget pc lo st C rg uc us mi.2.2.1 idx)) : xRn p l e R s m args below meth c D cA ad ρ fm A mi.2.2.2.2.1 n0 mi.2.2.2.2.2.2.2.1 mi.2.2.2.2.2.2.2.2.1 Q (pc, lo, st, C, rg, uc, us) := by
  obtain ⟨hx, hb, hml, hown, hts, hK, hX, -⟩ := hE
  unfold xget at h
  split at h
  · next ci k hf =>
    have hfl := xfl_ok hf
    split at h
    · next a r =>
      split at h
      · next hci =>
        split at h
        · next ha =>
          have hlink : Cond.fieldLink (xcn mi.2.2.1) idx "java/lang/String" (if k = 0 then "value" else "coder") (if k = 0 then "[B" else "B") ∈ wsL_law := by
            rcases hfl with ⟨q, hq, -⟩ | ⟨-, hl⟩
            · have := (kx_ok _ _ hq).2.2.2.2.2.2.2.2
              simp only at this
              omega
            · exact hl
          obtain ⟨i, hi, rfl⟩ := xstr_ix a ha.1 ha.2
          obtain ⟨-, f1, f2, -⟩ := hX.2.2.1.1 i hi
          split at h
          · next hk =>
            rw [if_pos hk, if_pos hk] at hlink
            intro H locs ls hR hL hP hD hS hn
            refine vk_getf hx hb f2 hS hown (hts _ hlink) (fun _ q => q) hdg ?_
            have h2 := h H locs ls hR hL hP hD hS hn
            have e1 : xv ad ρ fm (.ref (xB + 10 + i + 20)) = .ref (ad (xB + 30 + i)) := by rw [xv]; congr 2; omega
            simp only [List.map_cons, e1] at h2
            exact h2
          · next hk =>
            rw [if_neg hk, if_neg hk] at hlink
            intro H locs ls hR hL hP hD hS hn
            exact vk_getf hx hb f1 hS hown (hts _ hlink) (fun _ q => q) hdg (h H locs ls hR hL hP hD hS hn)
        · exact absurd h id
      · next hci =>
        rw [xnth_eq] at h
        split at h
        · next tag fs hc =>
          split at h
          · next ht =>
            subst ht
            rw [xnth_eq] at h
            split at h
            · next v hv =>
              rcases hfl with ⟨q, hq, hk, hl⟩ | ⟨h200, -⟩
              · obtain ⟨o1, -, -, -, -, -, -, -, o9⟩ := kx_ok _ _ hq
                intro H locs ls hR hL hP hD hS hn
                have he := xenc_get (cA := cA) (V := xv ad ρ fm) (ad := ad) hc
                rw [xencC_o (by simp only at o9; omega)] at he
                exact va_get (D := D) (Ts := wsL_law) hx hb hts o1 hown hK hP a he (C := q.1) (T := q.2.1) (N := q.2.2) hq k hk (hts _ hl) (fun _ z => z) (v := xv ad ρ fm v) (by rw [List.getElem?_map, hv]; rfl) hdg (h H locs ls hR hL hP hD hS hn)
              · exact absurd h200 hci
            · exact absurd h id
          · exact absurd h id
        · exact absurd h id
    · exact absurd h id
  · exact absurd h id
theorem z_put (hE : xEnv p l e R s m args below meth c D cA ad fm A n0 mi) {idx : Nat} (hdg : decode mi.2.1 pc = .ok (.putfield idx, 3)) (h : xGood (xRn p l e R s m args below meth c D cA ad ρ fm A mi.2.2.2.2.1 n0 mi.2.2.2.2.2.2.2.1 mi.2.2.2.2.2.2.2.2.1 Q) L (xput pc lo st C rg uc us mi.2.2.2.2.2.2.1 mi.2.2.1 idx)) : xRn p l e R s m args below meth c D cA ad ρ fm A mi.2.2.2.2.1 n0 mi.2.2.2.2.2.2.2.1 mi.2.2.2.2.2.2.2.2.1 Q (pc, lo, st, C, rg, uc, us) := by
  have hF := z_F hE
  obtain ⟨hx, hb, hml, hown, hts, hK, hX, -, -, hinit, -⟩ := hE
  unfold xput at h
  split at h
  · next ci k hf =>
    have hfl := xfl_ok hf
    split at h
    · next v a r =>
      rw [xnth_eq] at h
      split at h
      · next tag fs hc =>
        split at h
        · next ht =>
          obtain ⟨rfl, ht2, ht3⟩ := ht
          split at h
          · next hfit =>
            split at h
            · next hfin =>
              rw [xset_eq, xset_eq] at h
              rcases hfl with ⟨q, hq, hk, hl⟩ | ⟨h200, -⟩
              · obtain ⟨o1, o2, o3, o4, o5, o6, o7, o8, o9⟩ := kx_ok _ _ hq
                obtain ⟨f1, f2⟩ := xfits_ok (ad := ad) (ρ := ρ) hF (o4 k hk) hfit
                intro H locs ls hR hL hP hD hS hn
                have he := xenc_get (cA := cA) (V := xv ad ρ fm) (ad := ad) hc
                rw [xencC_o ht2] at he
                have eset : (xenc cA (xv ad ρ fm) ad C).set a (ad a, .inr (tag, (fs.map (xv ad ρ fm)).set k (xv ad ρ fm v))) = xenc cA (xv ad ρ fm) ad (C.set a (tag, fs.set k v)) := by
                  rw [xenc_set, xencC_o ht2, List.map_set]
                have hlen : (C.set a (tag, fs.set k v)).length = n0 + uc ∧ uc ≤ mi.2.2.2.2.2.2.2.1 ∧ us ≤ mi.2.2.2.2.2.2.2.2.1 ∧ n0 + uc ≤ xB := ⟨by rw [List.length_set]; exact hn.1, hn.2⟩
                cases hff : (q.2.1 k).2.2.2 with
                | false =>
                  refine va_put (D := D) (Ts := wsL_law) hx hb hts o1 (kxT tag) o2 o3 hown hK hP hD hS a he (C := q.1) (T := q.2.1) (N := q.2.2) hq k hk (hts _ hl) (fun _ z => z) hff (o2 k hk) f1 f2 (by rw [List.length_map]; exact ht3) hdg (fun H1 locs1 hP1 hD1 hS1 => ?_)
                  rw [eset] at hP1 hD1
                  exact h H1 locs1 ls hR hL hP1 hD1 hS1 hlen
                | true =>
                  have hq2 : mi.2.2.2.2.2.2.1 = 2 ∧ mi.2.2.1 = tag := by
                    rcases hfin with z | z
                    · rw [o5 k hk, hff] at z; cases z
                    · exact z
                  refine va_putF (D := D) (Ts := wsL_law) hx hb hts o1 (kxT tag) o2 o3 hown hK hP hD hS a he (C := q.1) (T := q.2.1) (N := q.2.2) hq k hk (hts _ hl) (fun _ z => z) hff (hinit hq2.1) (by rw [o6 k hk, hq2.2]) (o2 k hk) f1 f2 (by rw [List.length_map]; exact ht3) hdg (fun H1 locs1 hP1 hD1 hS1 => ?_)
                  rw [eset] at hP1 hD1
                  exact h H1 locs1 ls hR hL hP1 hD1 hS1 hlen
              · simp only at h200; omega
            · exact absurd h id
          · exact absurd h id
        · exact absurd h id
      · exact absurd h id
    · exact absurd h id
  · exact absurd h id
theorem z_stv : ∀ q ∈ xStat, ∀ ρ' : Nat → Int32, xv ad ρ' fm q.2.2.2 = xv ad (fun _ => 0) fm q.2.2.2 := by
  intro q hq ρ'
  simp only [xStat, List.mem_cons, List.not_mem_nil, or_false] at hq
  rcases hq with rfl | rfl | rfl | rfl | rfl <;> rfl
theorem z_gets (hE : xEnv p l e R s m args below meth c D cA ad fm A n0 mi) {idx : Nat} (hdg : decode mi.2.1 pc = .ok (.getstatic idx, 3)) (h : xGood (xRn p l e R s m args below meth c D cA ad ρ fm A mi.2.2.2.2.1 n0 mi.2.2.2.2.2.2.2.1 mi.2.2.2.2.2.2.2.2.1 Q) L (xgets pc lo st C rg uc us mi.2.2.1 idx)) : xRn p l e R s m args below meth c D cA ad ρ fm A mi.2.2.2.2.1 n0 mi.2.2.2.2.2.2.2.1 mi.2.2.2.2.2.2.2.2.1 Q (pc, lo, st, C, rg, uc, us) := by
  obtain ⟨hx, hb, hml, hown, hts, hK, hX, -⟩ := hE
  unfold xgets at h
  split at h
  · next k hk =>
    rw [xnth_eq] at h
    split at h
    · next q hq =>
      have hm := List.mem_of_getElem? hq
      have hl := xgs_ok hk q hq
      intro H locs ls hR hL hP hD hS hn
      have hZ := hX.1 q hm
      rw [← z_stv (ad := ad) (fm := fm) q hm ρ] at hZ
      exact va_gets hx hb hZ hS hown (hts _ hl) (fun _ z => z) hdg (h H locs ls hR hL hP hD hS hn)
    · exact absurd h id
  · exact absurd h id
theorem z_ald {tag : Nat} {ok : Value → Bool} (row : ∀ (x : Int32) (a : Nat) (xs : List Value) (v : Value), xrow C tag a = some xs → xs[x.toInt.toNat]? = some v → ok v = true → ¬ x.toInt < 0 → ∀ (H : Heap) (locs : List Loc) (ls : Array Slot) (rest : List Value), va_P D vwCl (xenc cA (xv ad ρ fm) ad C) H → va_S A s.heap H locs → W p l e R s m args below meth c H locs uc us Q (F0 m (pc + 1) ls (xv ad ρ fm v :: rest)) → W p l e R s m args below meth c H locs uc us Q (F0 m pc ls (.int x :: .ref (ad a) :: rest))) (h : xGood (xRn p l e R s m args below meth c D cA ad ρ fm A mi.2.2.2.2.1 n0 mi.2.2.2.2.2.2.2.1 mi.2.2.2.2.2.2.2.2.1 Q) L (xald pc lo st C rg uc us tag ok)) : xRn p l e R s m args below meth c D cA ad ρ fm A mi.2.2.2.2.1 n0 mi.2.2.2.2.2.2.2.1 mi.2.2.2.2.2.2.2.2.1 Q (pc, lo, st, C, rg, uc, us) := by
  unfold xald at h
  split at h
  · next i a r =>
    split at h
    · next x hx =>
      split at h
      · exact absurd h id
      · next h0 =>
        split at h
        · next xs hxs =>
          rw [xnth_eq] at h
          split at h
          · next v hv =>
            split at h
            · next ho =>
              intro H locs ls hR hL hP hD hS hn
              have e1 := xci_ok (ad := ad) (fm := fm) hR hx
              have h2 := h H locs ls hR hL hP hD hS hn
              simp only [List.map_cons, e1]
              exact row x a xs v hxs hv ho h0 H locs ls _ hP hS h2
            · exact absurd h id
          · exact absurd h id
        · exact absurd h id
    · exact z_fork (fun hR => xcov_cs hR _) h
  · exact absurd h id
theorem z_ald' {i : Value} {a : Nat} {r : List Value} {tag : Nat} {ok : Value → Bool} (row : ∀ (x : Int32) (xs : List Value) (v : Value), xrow C tag a = some xs → xs[x.toInt.toNat]? = some v → ok v = true → ¬ x.toInt < 0 → ∀ (H : Heap) (locs : List Loc) (ls : Array Slot) (rest : List Value), va_P D vwCl (xenc cA (xv ad ρ fm) ad C) H → va_S A s.heap H locs → W p l e R s m args below meth c H locs uc us Q (F0 m (pc + 1) ls (xv ad ρ fm v :: rest)) → W p l e R s m args below meth c H locs uc us Q (F0 m pc ls (.int x :: .ref (ad a) :: rest))) (h : xGood (xRn p l e R s m args below meth c D cA ad ρ fm A mi.2.2.2.2.1 n0 mi.2.2.2.2.2.2.2.1 mi.2.2.2.2.2.2.2.2.1 Q) L (xald pc lo (i :: .ref a :: r) C rg uc us tag ok)) : xRn p l e R s m args below meth c D cA ad ρ fm A mi.2.2.2.2.1 n0 mi.2.2.2.2.2.2.2.1 mi.2.2.2.2.2.2.2.2.1 Q (pc, lo, i :: .ref a :: r, C, rg, uc, us) := by
  dsimp only [xald] at h
  · split at h
    · next x hx =>
      split at h
      · exact absurd h id
      · next h0 =>
        split at h
        · next xs hxs =>
          rw [xnth_eq] at h
          split at h
          · next v hv =>
            split at h
            · next ho =>
              intro H locs ls hR hL hP hD hS hn
              have e1 := xci_ok (ad := ad) (fm := fm) hR hx
              have h2 := h H locs ls hR hL hP hD hS hn
              simp only [List.map_cons, e1]
              exact row x xs v hxs hv ho h0 H locs ls _ hP hS h2
            · exact absurd h id
          · exact absurd h id
        · exact absurd h id
    · exact z_fork (fun hR => xcov_cs hR _) h
theorem z_row {tag a : Nat} {xs : List Value} (ha : a < xB) (h : xrow C tag a = some xs) : C[a]? = some (tag, xs) := by
  unfold xrow at h
  rw [if_pos ha, xnth_eq] at h
  split at h
  · next t ys hc =>
    split at h
    · next ht => cases h; rw [hc, ht]
    · cases h
  · cases h
theorem z_iaload (hE : xEnv p l e R s m args below meth c D cA ad fm A n0 mi) (hdg : decode mi.2.1 pc = .ok (.iaload, 1)) (h : xGood (xRn p l e R s m args below meth c D cA ad ρ fm A mi.2.2.2.2.1 n0 mi.2.2.2.2.2.2.2.1 mi.2.2.2.2.2.2.2.2.1 Q) L (xald pc lo st C rg uc us 100 xisI)) : xRn p l e R s m args below meth c D cA ad ρ fm A mi.2.2.2.2.1 n0 mi.2.2.2.2.2.2.2.1 mi.2.2.2.2.2.2.2.2.1 Q (pc, lo, st, C, rg, uc, us) := by
  obtain ⟨hx, hb, hml, hown, hts, hK, hX, -⟩ := hE
  refine z_ald (fun x a xs v hr hv ho h0 H locs ls rest hP hS k => ?_) h
  have hlt : x.toInt.toNat < xs.length := (List.getElem?_eq_some_iff.mp hv).1
  obtain ⟨y, ey⟩ := xv_I (ad := ad) (ρ := ρ) (fm := fm) ho
  by_cases ha : a < xB
  · have he := xenc_get (cA := cA) (V := xv ad ρ fm) (ad := ad) (z_row ha hr)
    rw [xencC_i (Nat.le_refl _) (by decide)] at he
    refine va_iald hx hb hK hP a 0 he rfl (xvpin h0 hlt) hdg ?_
    rw [xtn, xgetD hv, ey]
    rw [ey] at k
    exact k
  · unfold xrow at hr
    rw [if_neg ha, if_pos rfl, xnth_eq] at hr
    split at hr
    · next tl htl =>
      split at hr
      · next h3 =>
        cases hr
        have hT := hX.2.1 _ _ htl
        rw [xadd_sub a ha] at hT
        rw [List.length_map] at hlt
        refine va_ti hx hb hT hS (xvpin h0 hlt) rfl hdg ?_
        rw [List.getElem?_map] at hv
        cases hq : tl[x.toInt.toNat]? with
        | none => rw [hq] at hv; cases hv
        | some z =>
          rw [hq] at hv
          cases hv
          rw [xtn, xgetD hq]
          exact k
      · cases hr
    · cases hr
theorem z_baload (hE : xEnv p l e R s m args below meth c D cA ad fm A n0 mi) (hdg : decode mi.2.1 pc = .ok (.baload, 1)) (h : xGood (xRn p l e R s m args below meth c D cA ad ρ fm A mi.2.2.2.2.1 n0 mi.2.2.2.2.2.2.2.1 mi.2.2.2.2.2.2.2.2.1 Q) L (xbald pc lo st C rg uc us)) : xRn p l e R s m args below meth c D cA ad ρ fm A mi.2.2.2.2.1 n0 mi.2.2.2.2.2.2.2.1 mi.2.2.2.2.2.2.2.2.1 Q (pc, lo, st, C, rg, uc, us) := by
  obtain ⟨hx, hb, hml, hown, hts, hK, hX, -⟩ := hE
  have r1 : ∀ (x : Int32) (a : Nat) (xs : List Value) (v : Value), xrow C 101 a = some xs → xs[x.toInt.toNat]? = some v → xisI v = true → ¬ x.toInt < 0 → ∀ (H : Heap) (locs : List Loc) (ls : Array Slot) (rest : List Value), va_P D vwCl (xenc cA (xv ad ρ fm) ad C) H → va_S A s.heap H locs → W p l e R s m args below meth c H locs uc us Q (F0 m (pc + 1) ls (xv ad ρ fm v :: rest)) → W p l e R s m args below meth c H locs uc us Q (F0 m pc ls (.int x :: .ref (ad a) :: rest)) := by
    intro x a xs v hr hv ho h0 H locs ls rest hP hS k
    have hlt : x.toInt.toNat < xs.length := (List.getElem?_eq_some_iff.mp hv).1
    obtain ⟨y, ey⟩ := xv_I (ad := ad) (ρ := ρ) (fm := fm) ho
    by_cases ha : a < xB
    · have he := xenc_get (cA := cA) (V := xv ad ρ fm) (ad := ad) (z_row ha hr)
      rw [xencC_i (by decide) (by decide)] at he
      refine va_zald hx hb hK hP a 1 he rfl (xvpin h0 hlt) hdg ?_
      rw [xtn, xgetD hv, ey]
      rw [ey] at k
      exact k
    · unfold xrow at hr
      rw [if_neg ha, if_neg (by decide), if_neg (by decide)] at hr
      cases hr
  have r2 : ∀ (x : Int32) (a : Nat) (xs : List Value) (v : Value), ¬ a < xB → xrow C 105 a = some xs → xs[x.toInt.toNat]? = some v → xisI v = true → ¬ x.toInt < 0 → ∀ (H : Heap) (locs : List Loc) (ls : Array Slot) (rest : List Value), va_P D vwCl (xenc cA (xv ad ρ fm) ad C) H → va_S A s.heap H locs → W p l e R s m args below meth c H locs uc us Q (F0 m (pc + 1) ls (xv ad ρ fm v :: rest)) → W p l e R s m args below meth c H locs uc us Q (F0 m pc ls (.int x :: .ref (ad a) :: rest)) := by
    intro x a xs v ha hr hv ho h0 H locs ls rest hP hS k
    have hlt : x.toInt.toNat < xs.length := (List.getElem?_eq_some_iff.mp hv).1
    · unfold xrow at hr
      rw [if_neg ha, if_neg (by decide), if_pos rfl] at hr
      split at hr
      · next h30 =>
        rw [xnth_eq] at hr
        split at hr
        · next tl htl =>
          cases hr
          obtain ⟨i, rfl⟩ : ∃ i : Nat, i + (xB + 30) = a := ⟨_, Nat.sub_add_cancel h30⟩
          rw [Nat.add_sub_cancel] at htl
          have hi : i < 13 := (List.getElem?_eq_some_iff.mp htl).1
          obtain ⟨-, -, -, hT⟩ := hX.2.2.1.1 i hi
          have e1 : (xByt.map List.length).getD i 0 = tl.length := by
            rw [List.getD_eq_getElem?_getD, List.getElem?_map, htl]; rfl
          have e2 : xByt.getD i [] = tl := xgetD htl
          rw [e1, e2] at hT
          rw [List.length_map] at hlt
          rw [show i + (xB + 30) = xB + 30 + i from Nat.add_comm _ _]
          refine va_tb hx hb hT hS (xvpin h0 hlt) rfl hdg ?_
          rw [List.getElem?_map] at hv
          cases hq : tl[x.toInt.toNat]? with
          | none => rw [hq] at hv; cases hv
          | some z =>
            rw [hq] at hv
            cases hv
            rw [xtn, xgetD hq]
            exact k
        · cases hr
      · cases hr
  unfold xbald at h
  split at h
  · next i a r =>
    split at h
    · exact z_ald r1 h
    · next ha =>
      exact z_ald' (fun x xs v hr hv ho h0 H locs ls rest hP hS k => r2 x a xs v ha hr hv ho h0 H locs ls rest hP hS k) h
  · exact absurd h id
theorem z_aald (hE : xEnv p l e R s m args below meth c D cA ad fm A n0 mi) {tg : Nat} (ht : 102 ≤ tg) (ht2 : tg < 105) (hdg : decode mi.2.1 pc = .ok (.aaload, 1)) {i : Value} {a : Nat} {r : List Value} (hab : a < xB) (h : xGood (xRn p l e R s m args below meth c D cA ad ρ fm A mi.2.2.2.2.1 n0 mi.2.2.2.2.2.2.2.1 mi.2.2.2.2.2.2.2.2.1 Q) L (xald pc lo (i :: .ref a :: r) C rg uc us tg xisR)) : xRn p l e R s m args below meth c D cA ad ρ fm A mi.2.2.2.2.1 n0 mi.2.2.2.2.2.2.2.1 mi.2.2.2.2.2.2.2.2.1 Q (pc, lo, i :: .ref a :: r, C, rg, uc, us) := by
  have hF := z_F hE
  obtain ⟨hx, hb, hml, hown, hts, hK, hX, -⟩ := hE
  refine z_ald' (fun x xs v hr hv ho h0 H locs ls rest hP hS k => ?_) h
  have hlt : x.toInt.toNat < xs.length := (List.getElem?_eq_some_iff.mp hv).1
  have he := xenc_get (cA := cA) (V := xv ad ρ fm) (ad := ad) (z_row hab hr)
  rw [xencC_q ht] at he
  obtain ⟨k0, ty, hk0, hty⟩ : ∃ (k0 : Nat) (ty : FieldType), (xtys cA)[k0]? = some (cA tg, ty) ∧ ty.isReference = true := by
    rcases (by omega : tg = 102 ∨ tg = 103 ∨ tg = 104) with rfl | rfl | rfl
    · exact ⟨2, _, rfl, rfl⟩
    · exact ⟨3, _, rfl, rfl⟩
    · exact ⟨4, _, rfl, rfl⟩
  have hval : va_rf (xR (xv ad ρ fm (xs.getD x.toInt.toNat .null))) = xv ad ρ fm v := by
    rw [xgetD hv]
    rcases xv_R (ad := ad) (ρ := ρ) hF ho with e1 | ⟨q, e1⟩ <;> rw [e1] <;> rfl
  refine W.aald (v := xv ad ρ fm v) (ty := ty) hx hb (hP a _ he) ((hK.2 k0 _ hk0).1 xs.length (fun j => va_rf (xR (xv ad ρ fm (xs.getD j .null))))) hty (fun q => by cases q) (by show ¬ (x < 0 ∨ (arrV _ _ _).slots.size ≤ _); rw [arrV_size]; exact xvpin h0 hlt) (by show (arrV _ _ _).slots[_]? = _; rw [arrV_read _ _ (by rw [xtn]; exact hlt)]; exact congrArg some hval) rfl rfl hdg k
theorem z_aaload (hE : xEnv p l e R s m args below meth c D cA ad fm A n0 mi) (hdg : decode mi.2.1 pc = .ok (.aaload, 1)) (h : xGood (xRn p l e R s m args below meth c D cA ad ρ fm A mi.2.2.2.2.1 n0 mi.2.2.2.2.2.2.2.1 mi.2.2.2.2.2.2.2.2.1 Q) L (xaldq pc lo st C rg uc us)) : xRn p l e R s m args below meth c D cA ad ρ fm A mi.2.2.2.2.1 n0 mi.2.2.2.2.2.2.2.1 mi.2.2.2.2.2.2.2.2.1 Q (pc, lo, st, C, rg, uc, us) := by
  unfold xaldq at h
  split at h
  · next i a r =>
    rw [xnth_eq] at h
    split at h
    · next t xs hc =>
      split at h
      · next ht =>
        by_cases hab : a < xB
        · exact z_aald hE ht.1 ht.2 hdg hab h
        · refine z_ald' (fun x xs v hr hv ho h0 H locs ls rest hP hS k => ?_) h
          unfold xrow at hr
          rw [if_neg hab, if_neg (by omega), if_neg (by omega)] at hr
          cases hr
      · exact absurd h id
    · exact absurd h id
  · exact absurd h id
-- what is laid into a row
theorem z_ast {tag : Nat} (row : ∀ (x : Int32) (a : Nat) (xs : List Value) (v w : Value), C[a]? = some (tag, xs) → x.toInt.toNat < xs.length → ¬ x.toInt < 0 → xokR ρ rg → xtak C rg tag v = some w → ∀ (H : Heap) (locs : List Loc) (ls : Array Slot) (rest : List Value), va_P D vwCl (xenc cA (xv ad ρ fm) ad C) H → va_D A (xenc cA (xv ad ρ fm) ad C) → va_S A s.heap H locs → (∀ (H1 : Heap) (locs1 : List Loc), va_P D vwCl (xenc cA (xv ad ρ fm) ad (C.set a (tag, xs.set x.toInt.toNat w))) H1 → va_D A (xenc cA (xv ad ρ fm) ad (C.set a (tag, xs.set x.toInt.toNat w))) → va_S A s.heap H1 locs1 → W p l e R s m args below meth c H1 locs1 uc us Q (F0 m (pc + 1) ls rest)) → W p l e R s m args below meth c H locs uc us Q (F0 m pc ls (xv ad ρ fm v :: .int x :: .ref (ad a) :: rest))) (h : xGood (xRn p l e R s m args below meth c D cA ad ρ fm A mi.2.2.2.2.1 n0 mi.2.2.2.2.2.2.2.1 mi.2.2.2.2.2.2.2.2.1 Q) L (xast pc lo st C rg uc us tag)) : xRn p l e R s m args below meth c D cA ad ρ fm A mi.2.2.2.2.1 n0 mi.2.2.2.2.2.2.2.1 mi.2.2.2.2.2.2.2.2.1 Q (pc, lo, st, C, rg, uc, us) := by
  unfold xast at h
  split at h
  · next v i a r =>
    split at h
    · next x hx =>
      split at h
      · exact absurd h id
      · next h0 =>
        rw [xnth_eq] at h
        split at h
        · next t xs hc =>
          split at h
          · next ht =>
            obtain ⟨rfl, hlt⟩ := ht
            split at h
            · next w hw =>
              rw [xset_eq, xset_eq] at h
              intro H locs ls hR hL hP hD hS hn
              have e1 := xci_ok (ad := ad) (fm := fm) hR hx
              simp only [List.map_cons, e1]
              exact row x a xs v w hc hlt h0 hR hw H locs ls _ hP hD hS (fun H1 locs1 hP1 hD1 hS1 => h H1 locs1 ls hR hL hP1 hD1 hS1 ⟨by rw [List.length_set]; exact hn.1, hn.2⟩)
            · exact z_fork (fun hR => xcov_cs hR _) h
          · exact absurd h id
        · exact absurd h id
    · exact z_fork (fun hR => xcov_cs hR _) h
  · exact absurd h id
theorem z_iastore (hE : xEnv p l e R s m args below meth c D cA ad fm A n0 mi) (hdg : decode mi.2.1 pc = .ok (.iastore, 1)) (h : xGood (xRn p l e R s m args below meth c D cA ad ρ fm A mi.2.2.2.2.1 n0 mi.2.2.2.2.2.2.2.1 mi.2.2.2.2.2.2.2.2.1 Q) L (xast pc lo st C rg uc us 100)) : xRn p l e R s m args below meth c D cA ad ρ fm A mi.2.2.2.2.1 n0 mi.2.2.2.2.2.2.2.1 mi.2.2.2.2.2.2.2.2.1 Q (pc, lo, st, C, rg, uc, us) := by
  obtain ⟨hx, hb, hml, hown, hts, hK, hX, -⟩ := hE
  refine z_ast (fun x a xs v w hc hlt h0 hR hw H locs ls rest hP hD hS kk => ?_) h
  have he := xenc_get (cA := cA) (V := xv ad ρ fm) (ad := ad) hc
  rw [xencC_i (Nat.le_refl _) (by decide)] at he
  unfold xtak at hw
  rw [if_pos rfl] at hw
  split at hw
  · next ho =>
    cases hw
    obtain ⟨y, ey⟩ := xv_I (ad := ad) (ρ := ρ) (fm := fm) ho
    rw [ey]
    refine va_iast hx hb hK hP hD hS a 0 he rfl (xvpin h0 hlt) hdg (fun H1 locs1 hP1 hD1 hS1 => ?_)
    have eset : (xenc cA (xv ad ρ fm) ad C).set a (ad a, .inl (cA 100, xs.length, .inl (upd (fun j => xI (xv ad ρ fm (xs.getD j .null))) x.toNatClampNeg y))) = xenc cA (xv ad ρ fm) ad (C.set a (100, xs.set x.toInt.toNat v)) := by
      rw [xenc_set, xencC_i (Nat.le_refl _) (by decide), List.length_set]
      congr 6
      funext j
      rw [xgetD_set _ _ _ _ _ hlt]
      unfold upd
      rw [xtn]
      split
      · rw [ey]; rfl
      · rfl
    rw [eset] at hP1 hD1
    exact kk H1 locs1 hP1 hD1 hS1
  · cases hw
theorem z_bastore (hE : xEnv p l e R s m args below meth c D cA ad fm A n0 mi) (hdg : decode mi.2.1 pc = .ok (.bastore, 1)) (h : xGood (xRn p l e R s m args below meth c D cA ad ρ fm A mi.2.2.2.2.1 n0 mi.2.2.2.2.2.2.2.1 mi.2.2.2.2.2.2.2.2.1 Q) L (xast pc lo st C rg uc us 101)) : xRn p l e R s m args below meth c D cA ad ρ fm A mi.2.2.2.2.1 n0 mi.2.2.2.2.2.2.2.1 mi.2.2.2.2.2.2.2.2.1 Q (pc, lo, st, C, rg, uc, us) := by
  obtain ⟨hx, hb, hml, hown, hts, hK, hX, -⟩ := hE
  refine z_ast (fun x a xs v w hc hlt h0 hR hw H locs ls rest hP hD hS kk => ?_) h
  have he := xenc_get (cA := cA) (V := xv ad ρ fm) (ad := ad) hc
  rw [xencC_i (by decide) (by decide)] at he
  unfold xtak at hw
  rw [if_neg (by decide), if_pos rfl] at hw
  split at hw
  · next y hy =>
    cases hw
    rw [xci_ok (ad := ad) (fm := fm) hR hy]
    refine va_zast hx hb hK hP hD hS a 1 he rfl (xvpin h0 hlt) hdg (fun H1 locs1 hP1 hD1 hS1 => ?_)
    have eset : (xenc cA (xv ad ρ fm) ad C).set a (ad a, .inl (cA 101, xs.length, .inl (upd (fun j => xI (xv ad ρ fm (xs.getD j .null))) x.toNatClampNeg (vp_nar .boolean y)))) = xenc cA (xv ad ρ fm) ad (C.set a (101, xs.set x.toInt.toNat (.int (vp_nar .boolean y)))) := by
      rw [xenc_set, xencC_i (by decide) (by decide), List.length_set]
      congr 6
      funext j
      rw [xgetD_set _ _ _ _ _ hlt]
      unfold upd
      rw [xtn]
      split
      · rfl
      · rfl
    rw [eset] at hP1 hD1
    exact kk H1 locs1 hP1 hD1 hS1
  · cases hw
theorem z_aast (hE : xEnv p l e R s m args below meth c D cA ad fm A n0 mi) {tag : Nat} (htag : tag = 102 ∨ tag = 103) (hdg : decode mi.2.1 pc = .ok (.aastore, 1)) (h : xGood (xRn p l e R s m args below meth c D cA ad ρ fm A mi.2.2.2.2.1 n0 mi.2.2.2.2.2.2.2.1 mi.2.2.2.2.2.2.2.2.1 Q) L (xast pc lo st C rg uc us tag)) : xRn p l e R s m args below meth c D cA ad ρ fm A mi.2.2.2.2.1 n0 mi.2.2.2.2.2.2.2.1 mi.2.2.2.2.2.2.2.2.1 Q (pc, lo, st, C, rg, uc, us) := by
  obtain ⟨hx, hb, hml, hown, hts, hK, hX, -⟩ := hE
  refine z_ast (fun x a xs v w hc hlt h0 hR hw H locs ls rest hP hD hS kk => ?_) h
  have he := xenc_get (cA := cA) (V := xv ad ρ fm) (ad := ad) hc
  rw [xencC_q (by omega)] at he
  unfold xtak at hw
  rw [if_neg (by omega), if_neg (by omega)] at hw
  split at hw
  · next b =>
    rw [xnth_eq] at hw
    split at hw
    · next t ys hcb =>
      split at hw
      · next hq =>
        cases hw
        have hb2 := xenc_get (cA := cA) (V := xv ad ρ fm) (ad := ad) hcb
        rw [xencC_o (by omega)] at hb2
        obtain ⟨k0, r, hk0, hr⟩ : ∃ (k0 : Nat) (r : vw_C), (xtys cA)[k0]? = some (cA tag, .object r.1) ∧ vwCl[t]? = some r := by
          rcases hq with ⟨rfl, rfl⟩ | ⟨rfl, rfl⟩
          · exact ⟨2, (RX5, TX5, 5), rfl, rfl⟩
          · exact ⟨3, (RX2, TX2, 3), rfl, rfl⟩
        refine va_astq hx hb hK hP hD hS a k0 b t he hk0 hb2 hr (xvpin h0 hlt) hdg (fun H1 locs1 hP1 hD1 hS1 => ?_)
        have eset : (xenc cA (xv ad ρ fm) ad C).set a (ad a, .inl (cA tag, xs.length, .inr (.inr (.inr (.inr (va_up (fun j => xR (xv ad ρ fm (xs.getD j .null))) x.toNatClampNeg (some (ad b)))))))) = xenc cA (xv ad ρ fm) ad (C.set a (tag, xs.set x.toInt.toNat (.ref b))) := by
          rw [xenc_set, xencC_q (by omega), List.length_set]
          congr 9
          funext j
          rw [xgetD_set _ _ _ _ _ hlt]
          unfold va_up
          rw [xtn]
          split
          · rfl
          · rfl
        rw [eset] at hP1 hD1
        exact kk H1 locs1 hP1 hD1 hS1
      · cases hw
    · cases hw
  · cases hw
theorem z_aastore (hE : xEnv p l e R s m args below meth c D cA ad fm A n0 mi) (hdg : decode mi.2.1 pc = .ok (.aastore, 1)) (h : xGood (xRn p l e R s m args below meth c D cA ad ρ fm A mi.2.2.2.2.1 n0 mi.2.2.2.2.2.2.2.1 mi.2.2.2.2.2.2.2.2.1 Q) L (xastq pc lo st C rg uc us)) : xRn p l e R s m args below meth c D cA ad ρ fm A mi.2.2.2.2.1 n0 mi.2.2.2.2.2.2.2.1 mi.2.2.2.2.2.2.2.2.1 Q (pc, lo, st, C, rg, uc, us) := by
  unfold xastq at h
  split at h
  · split at h
    · split at h
      · exact z_aast hE (Or.inl rfl) hdg h
      · split at h
        · exact z_aast hE (Or.inr rfl) hdg h
        · exact absurd h id
    · exact absurd h id
  · exact absurd h id
theorem z_alen (hE : xEnv p l e R s m args below meth c D cA ad fm A n0 mi) (hdg : decode mi.2.1 pc = .ok (.arraylength, 1)) (h : xGood (xRn p l e R s m args below meth c D cA ad ρ fm A mi.2.2.2.2.1 n0 mi.2.2.2.2.2.2.2.1 mi.2.2.2.2.2.2.2.2.1 Q) L (xalen pc lo st C rg uc us)) : xRn p l e R s m args below meth c D cA ad ρ fm A mi.2.2.2.2.1 n0 mi.2.2.2.2.2.2.2.1 mi.2.2.2.2.2.2.2.2.1 Q (pc, lo, st, C, rg, uc, us) := by
  obtain ⟨hx, hb, hml, hown, hts, hK, hX, -⟩ := hE
  unfold xalen at h
  split at h
  · next a r =>
    split at h
    · rw [xnth_eq] at h
      split at h
      · next t xs hc =>
        split at h
        · next ht =>
          rw [xfI_eq] at h
          intro H locs ls hR hL hP hD hS hn
          have he := xenc_get (cA := cA) (V := xv ad ρ fm) (ad := ad) hc
          obtain ⟨k0, ty, hk0⟩ : ∃ (k0 : Nat) (ty : FieldType), (xtys cA)[k0]? = some (cA t, ty) := by
            rcases (by omega : t = 100 ∨ t = 101 ∨ t = 102 ∨ t = 103 ∨ t = 104) with rfl | rfl | rfl | rfl | rfl
            · exact ⟨0, _, rfl⟩
            · exact ⟨1, _, rfl⟩
            · exact ⟨2, _, rfl⟩
            · exact ⟨3, _, rfl⟩
            · exact ⟨4, _, rfl⟩
          by_cases hi : t < 102
          · rw [xencC_i ht.1 hi] at he
            exact va_alen hx hb hK hP a k0 he hk0 rfl hdg (h H locs ls hR hL hP hD hS hn)
          · rw [xencC_q (by omega)] at he
            exact va_alen hx hb hK hP a k0 he hk0 rfl hdg (h H locs ls hR hL hP hD hS hn)
        · exact absurd h id
      · exact absurd h id
    · split at h
      · next h30 =>
        rw [xnth_eq] at h
        split at h
        · next tl htl =>
          rw [xfI_eq] at h
          obtain ⟨i, rfl⟩ : ∃ i : Nat, i + (xB + 30) = a := ⟨_, Nat.sub_add_cancel h30⟩
          rw [Nat.add_sub_cancel] at htl
          have hi : i < 13 := (List.getElem?_eq_some_iff.mp htl).1
          obtain ⟨-, -, -, hT⟩ := hX.2.2.1.1 i hi
          have e1 : (xByt.map List.length).getD i 0 = tl.length := by
            rw [List.getD_eq_getElem?_getD, List.getElem?_map, htl]; rfl
          rw [e1] at hT
          have hT : va_T .byte (ad (i + (xB + 30))) tl.length (fun j => .int ((xByt.getD i []).getD j 0)) A s s.heap := by
            rw [Nat.add_comm i]; exact hT
          intro H locs ls hR hL hP hD hS hn
          exact va_tlen hx hb hT hS rfl hdg (h H locs ls hR hL hP hD hS hn)
        · exact absurd h id
      · exact absurd h id
  · exact absurd h id
end XHEAP
end

section
/-! what is made; what the JDK's own do -/
theorem xW_sz {p : Program} {l : Launch} {e : Env} {R : Room} {s : State} {m : MethodId} {args : Array Value} {below : List Frame} {meth : Method} {c : Code} {H : Heap} {locs : List Loc} {cells slots : Nat} {Q : State → Prop} {g : JFrame} (h : H.size ≤ s.heap.size + cells → W p l e R s m args below meth c H locs cells slots Q g) : W p l e R s m args below meth c H locs cells slots Q g := by
  intro T hT X
  refine h ?_ T hT X
  have := X.heapSize
  rw [hT] at this
  exact this
theorem xenc_len {cA : Nat → ClassId} {V : Value → Value} {ad : Nat → Nat} {C : List xCel} : (xenc cA V ad C).length = C.length := by
  unfold xenc; rw [List.length_mapIdx]
theorem x_pin {D : va_G} {cA : Nat → ClassId} {V : Value → Value} {ad : Nat → Nat} {A : Nat → Prop} {C : List xCel} {H1 : Heap} {n0 uc sz q : Nat} {z : va_E} (hAx : ∀ q, A q → sz ≤ q ∨ ∃ k, k < n0 ∧ q = ad k) (had : ∀ k, n0 ≤ k → k < xB → ad k = sz + (k - n0)) (hn : C.length = n0 + uc) (hB : C.length < xB) (hP : va_P D vwCl (xenc cA V ad C ++ [(q, z)]) H1) (hD : va_D A (xenc cA V ad C ++ [(q, z)])) (hsz : H1.size ≤ sz + (uc + 1)) : q = ad C.length := by
  have hg : (xenc cA V ad C ++ [(q, z)])[C.length]? = some (q, z) := by
    rw [List.getElem?_append_right (by rw [xenc_len]; exact Nat.le_refl _), xenc_len, Nat.sub_self]; rfl
  have old : ∀ k, k < C.length → q ≠ ad k := by
    intro k hk e
    have hk2 : (xenc cA V ad C ++ [(q, z)])[k]? = some (ad k, xencC cA V C[k]) := by
      rw [List.getElem?_append_left (by rw [xenc_len]; exact hk)]
      exact xenc_get (List.getElem?_eq_getElem hk)
    have := hD.1 k C.length _ _ hk2 hg e.symm
    omega
  have hlt : q < H1.size := (hP C.length _ hg).lt
  rcases hAx q (hD.2 C.length _ hg) with h | ⟨k, hk, e⟩
  · by_cases hi : q = sz + uc
    · rw [had C.length (by omega) hB, hi]; omega
    · exfalso
      refine old (n0 + (q - sz)) (by omega) ?_
      rw [had (n0 + (q - sz)) (by omega) (by omega)]
      omega
  · exact absurd e (old k (by omega))
theorem xdf_V {V : Value → Value} (hI : ∀ x, V (.int x) = .int x) (hN : V .null = .null) (hL : ∀ x, V (.long x) = .long x) : ∀ {ci : Nat} {fs : List Value}, xDf[ci]? = some fs → fs.map V = fs := by
  have hb : xDf.all (fun fs => fs.all fun v => match v with
    | .int _ => true
    | .null => true
    | .long _ => true
    | _ => false) = true := by decide
  intro ci fs h
  have h1 := List.all_eq_true.mp hb fs (List.mem_of_getElem? h)
  conv => rhs; rw [← List.map_id fs]
  apply List.map_congr_left
  intro v hv
  have h2 := List.all_eq_true.mp h1 v hv
  cases v <;> simp_all
theorem xls_all : ∀ p ∈ xlsA, ∀ e ∈ p.2, ∃ q, xStr[e.2]? = some q ∧ q.1 = p.1 ∧ q.2.1 = e.1 := by
  intro p hp e he
  simp only [xlsA, List.mem_cons, List.not_mem_nil, or_false] at hp
  rcases hp with rfl | rfl
  · simp only [List.mem_cons, List.not_mem_nil, or_false] at he
    subst he
    exact ⟨_, rfl, rfl, rfl⟩
  · simp only [List.mem_cons, List.not_mem_nil, or_false] at he
    rcases he with rfl | rfl | rfl | rfl | rfl | rfl | rfl | rfl | rfl | rfl | rfl | rfl <;> exact ⟨_, rfl, rfl, rfl⟩
section XMAKE
variable {p : Program} {l : Launch} {e : Env} {R : Room} {s : State} {m : MethodId} {args : Array Value} {below : List Frame} {meth : Method} {c : Code} {D : va_G} {cA : Nat → ClassId} {ad : Nat → Nat} {ρ : Nat → Int32} {fm : Value} {A : Nat → Prop} {n0 : Nat} {mi : xMI} {Q : State → Prop} {L : xLf → Prop}
variable {pc : Nat} {lo : List (Option Value)} {st : List Value} {C : List xCel} {rg : xRG} {uc us : Nat}
theorem z_new (hE : xEnv p l e R s m args below meth c D cA ad fm A n0 mi) {idx : Nat} (hdg : decode mi.2.1 pc = .ok (.new idx, 3)) (h : xGood (xRn p l e R s m args below meth c D cA ad ρ fm A mi.2.2.2.2.1 n0 mi.2.2.2.2.2.2.2.1 mi.2.2.2.2.2.2.2.2.1 Q) L (xnew pc lo st C rg uc us mi.2.2.2.2.2.2.2.1 mi.2.2.2.2.2.2.2.2.1 mi.2.2.1 idx)) : xRn p l e R s m args below meth c D cA ad ρ fm A mi.2.2.2.2.1 n0 mi.2.2.2.2.2.2.2.1 mi.2.2.2.2.2.2.2.2.1 Q (pc, lo, st, C, rg, uc, us) := by
  obtain ⟨hx, hb, hml, hown, hts, hK, hX, hret, hlk, hin, hroom, hrc, hrs, hF, hA, hAx, had⟩ := hE
  unfold xnew at h
  split at h
  · next ci hci =>
    rw [xnth_eq] at h
    split at h
    · next fs hfs =>
      split at h
      · next hq =>
        obtain ⟨q1, q2, q3, q4⟩ := hq
        rw [xfN_eq, xfN_eq] at h
        rcases xkl_ok hci with ⟨h104, -⟩ | ⟨q, hq, hcl, hinst, hini⟩
        · simp only at h104; omega
        · obtain ⟨o1, o2, o3, o4, o5, o6, o7, o8, o9⟩ := kx_ok _ _ hq
          have e8 : xDf.getD ci [] = fs := xgetD hfs
          simp only [e8] at o8
          have eV : fs.map (xv ad ρ fm) = fs := xdf_V (fun _ => rfl) rfl (fun _ => rfl) hfs
          intro H locs ls hR hL hP hD hS hn
          refine va_new (D := D) (Ts := wsL_law) (N := q.2.2) (ci := ci) (fs := fs) hx hb hts o1 (kxT ci) o2 hown (hts _ hcl) (hts _ hinst) (hts _ hini) hK hP hD hS hA hq (fun j hj => ?_) (by rw [hrc]; exact q1) (by rw [hrs, ← o8]; exact q2) hdg (fun qa H1 hP1 hD1 hS1 => xW_sz fun hsz => ?_)
          · have := of_decide_eq_true (o7 j hj)
            simp only [e8] at this
            exact this
          · have hpin := x_pin hAx had hn.1 q3 hP1 hD1 hsz
            subst hpin
            have e2 : xenc cA (xv ad ρ fm) ad C ++ [(ad C.length, .inr (ci, fs))] = xenc cA (xv ad ρ fm) ad (C ++ [(ci, fs)]) := by
              rw [xenc_push, xencC_o q4, eV]
            rw [e2] at hP1 hD1
            rw [← o8]
            exact h H1 locs ls hR hL hP1 hD1 hS1 ⟨by rw [List.length_append, hn.1]; simp; omega, q1, q2, by have h9 : C.length = n0 + uc := hn.1; show n0 + (uc + 1) ≤ xB; omega⟩
      · exact absurd h id
    · exact absurd h id
  · exact absurd h id
theorem z_tyc {U : State} {c1 c2 : ClassId} {ty : FieldType} (h1 : va_RA U c1 ty) (h2 : va_RA U c2 ty) : c1 = c2 := by
  cases ty with
  | object N =>
    obtain ⟨-, -, -, -, -, a⟩ := h1
    obtain ⟨-, -, -, -, -, b⟩ := h2
    exact Option.some.inj (a.symm.trans b)
  | _ => exact Option.some.inj (h1.symm.trans h2)
theorem z_rep {ad : Nat → Nat} {ρ : Nat → Int32} {fm : Value} {n : Nat} : (fun j => xI (xv ad ρ fm ((List.replicate n (Value.int 0)).getD j .null))) = fun _ => 0 := by
  funext j
  rw [List.getD_eq_getElem?_getD]
  by_cases hj : j < n
  · rw [List.getElem?_replicate, if_pos hj]; rfl
  · rw [List.getElem?_replicate, if_neg hj]; rfl
theorem z_repq {ad : Nat → Nat} {ρ : Nat → Int32} {fm : Value} {n : Nat} : (fun j => xR (xv ad ρ fm ((List.replicate n Value.null).getD j .null))) = fun _ => none := by
  funext j
  rw [List.getD_eq_getElem?_getD]
  by_cases hj : j < n
  · rw [List.getElem?_replicate, if_pos hj]; rfl
  · rw [List.getElem?_replicate, if_neg hj]; rfl
theorem z_newa (hE : xEnv p l e R s m args below meth c D cA ad fm A n0 mi) {atype : ArrayType} {tag k0 : Nat} (htg : 100 ≤ tag ∧ tag < 102) (hk0 : (xtys cA)[k0]? = some (cA tag, newarray.typeOf atype)) (hdef : defaultValue (newarray.typeOf atype) = .int 0) (hby : componentBytes (newarray.typeOf atype) ≤ 4) (hw : Cond.arrayClass (newarray.typeOf atype) ∈ wsL_law) (hdg : decode mi.2.1 pc = .ok (.newarray atype, 2)) (h : xGood (xRn p l e R s m args below meth c D cA ad ρ fm A mi.2.2.2.2.1 n0 mi.2.2.2.2.2.2.2.1 mi.2.2.2.2.2.2.2.2.1 Q) L (xnewa pc lo st C rg uc us mi.2.2.2.2.2.2.2.1 mi.2.2.2.2.2.2.2.2.1 tag)) : xRn p l e R s m args below meth c D cA ad ρ fm A mi.2.2.2.2.1 n0 mi.2.2.2.2.2.2.2.1 mi.2.2.2.2.2.2.2.2.1 Q (pc, lo, st, C, rg, uc, us) := by
  obtain ⟨hx, hb, hml, hown, hts, hK, hX, hret, hlk, hin, hroom, hrc, hrs, hF, hA, hAx, had⟩ := hE
  unfold xnewa at h
  split at h
  · next n r =>
    split at h
    · next hq =>
      obtain ⟨q0, q1, q2, q3, q4⟩ := hq
      rw [xfN_eq, xfN_eq] at h
      intro H locs ls hR hL hP hD hS hn
      have hbm : n.toInt.toNat * componentBytes (newarray.typeOf atype) ≤ n.toInt.toNat * 4 := Nat.mul_le_mul_left _ hby
      refine va_newa (D := D) (N' := n.toInt.toNat) (a0 := (n.toInt.toNat, .inl (fun _ => 0))) hx hb (hts _ hw) rfl hK hP hD hS hA (fun cZ => by rw [vp_cell_i, hdef]) (by rw [Int32.lt_iff_toInt_lt]; simp; omega) rfl (by omega) (by rw [hrc]; exact q2) (by rw [hrs]; exact q3) hdg (fun qa cZ H1 hK1 hP1 hD1 hS1 => xW_sz fun hsz => ?_)
      have hpin := x_pin hAx had hn.1 q4 hP1 hD1 hsz
      subst hpin
      have ec : cZ = cA tag := z_tyc (hK1.2 5 (cZ, _) rfl).2 (hK.2 k0 _ hk0).2
      subst ec
      have e2 : xenc cA (xv ad ρ fm) ad C ++ [(ad C.length, .inl (cA tag, n.toInt.toNat, .inl (fun _ => 0)))] = xenc cA (xv ad ρ fm) ad (C ++ [(tag, List.replicate n.toInt.toNat (.int 0))]) := by
        rw [xenc_push, xencC_i htg.1 htg.2, List.length_replicate, z_rep]
      rw [e2] at hP1 hD1
      exact h H1 locs ls hR hL hP1 hD1 hS1 ⟨by rw [List.length_append, hn.1]; simp; omega, q2, q3, by have h9 : C.length = n0 + uc := hn.1; show n0 + (uc + 1) ≤ xB; omega⟩
    · exact absurd h id
  · exact absurd h id
theorem z_newq (hE : xEnv p l e R s m args below meth c D cA ad fm A n0 mi) {idx : Nat} (hdg : decode mi.2.1 pc = .ok (.anewarray idx, 3)) (h : xGood (xRn p l e R s m args below meth c D cA ad ρ fm A mi.2.2.2.2.1 n0 mi.2.2.2.2.2.2.2.1 mi.2.2.2.2.2.2.2.2.1 Q) L (xnewq pc lo st C rg uc us mi.2.2.2.2.2.2.2.1 mi.2.2.2.2.2.2.2.2.1 mi.2.2.1 idx)) : xRn p l e R s m args below meth c D cA ad ρ fm A mi.2.2.2.2.1 n0 mi.2.2.2.2.2.2.2.1 mi.2.2.2.2.2.2.2.2.1 Q (pc, lo, st, C, rg, uc, us) := by
  obtain ⟨hx, hb, hml, hown, hts, hK, hX, hret, hlk, hin, hroom, hrc, hrs, hF, hA, hAx, had⟩ := hE
  unfold xnewq at h
  split at h
  · next n r =>
    split at h
    · next ci hci =>
      split at h
      · next hq =>
        obtain ⟨q0, q1, q2, q3, q4, q5⟩ := hq
        rw [xfN_eq, xfN_eq] at h
        intro H locs ls hR hL hP hD hS hn
        obtain ⟨Cn, k0, tag, hAO, hcl, hk0, htag, hif⟩ : ∃ (Cn : String) (k0 tag : Nat), va_AO Cn s ∧ Cond.classLink (xcn mi.2.2.1) idx Cn ∈ wsL_law ∧ (xtys cA)[k0]? = some (cA tag, .object Cn) ∧ 102 ≤ tag ∧ (if ci = 5 then 102 else 103) = tag := by
          rcases xkl_ok hci with ⟨h104, -⟩ | ⟨q, hq, hcl, -, -⟩
          · simp only at h104; omega
          · rcases q5 with rfl | rfl
            · cases hq; exact ⟨RX5, 2, 102, hX.2.2.2.2.1.1, hcl, rfl, by decide, rfl⟩
            · cases hq; exact ⟨RX2, 3, 103, hX.2.2.2.2.1.2.1, hcl, rfl, by decide, rfl⟩
        rw [hif] at h
        refine va_newq (D := D) (N' := n.toInt.toNat) hx hb hown (hts _ hcl) hAO hK hP hD hS hA (by rw [Int32.lt_iff_toInt_lt]; simp; omega) rfl (by omega) (by rw [hrc]; exact q2) (by rw [hrs]; exact q3) hdg (fun qa cZ H1 hK1 hP1 hD1 hS1 => xW_sz fun hsz => ?_)
        have hpin := x_pin hAx had hn.1 q4 hP1 hD1 hsz
        subst hpin
        have ec : cZ = cA tag := z_tyc (hK1.2 5 (cZ, _) rfl).2 (hK.2 k0 _ hk0).2
        subst ec
        have e2 : xenc cA (xv ad ρ fm) ad C ++ [(ad C.length, .inl (cA tag, n.toInt.toNat, .inr (.inr (.inr (.inr (fun _ => none))))))] = xenc cA (xv ad ρ fm) ad (C ++ [(tag, List.replicate n.toInt.toNat .null)]) := by
          rw [xenc_push, xencC_q htag, List.length_replicate, z_repq]
        rw [e2] at hP1 hD1
        exact h H1 locs ls hR hL hP1 hD1 hS1 ⟨by rw [List.length_append, hn.1]; simp; omega, q2, q3, by have h9 : C.length = n0 + uc := hn.1; show n0 + (uc + 1) ≤ xB; omega⟩
      · exact absurd h id
    · exact absurd h id
  · exact absurd h id
theorem xcpy_len {α : Type} {xs ys : List α} {sp dp n : Nat} (h1 : sp + n ≤ xs.length) (h2 : dp + n ≤ ys.length) : (ys.take dp ++ ((xs.drop sp).take n ++ ys.drop (dp + n))).length = ys.length := by
  simp only [List.length_append, List.length_take, List.length_drop]
  omega
theorem xcpy_get {α : Type} {xs ys : List α} {sp dp n : Nat} (d : α) (h1 : sp + n ≤ xs.length) (h2 : dp + n ≤ ys.length) (j : Nat) : (ys.take dp ++ ((xs.drop sp).take n ++ ys.drop (dp + n))).getD j d = if dp ≤ j ∧ j < dp + n then xs.getD (sp + (j - dp)) d else ys.getD j d := by
  simp only [List.getD_eq_getElem?_getD]
  congr 1
  by_cases c1 : j < dp
  · rw [if_neg (by omega), List.getElem?_append_left (by rw [List.length_take]; omega), List.getElem?_take, if_pos c1]
  · rw [List.getElem?_append_right (by rw [List.length_take]; omega), List.length_take, Nat.min_eq_left (by omega)]
    by_cases c2 : j < dp + n
    · rw [if_pos ⟨by omega, c2⟩, List.getElem?_append_left (by rw [List.length_take, List.length_drop]; omega), List.getElem?_take, if_pos (by omega), List.getElem?_drop]
    · rw [if_neg (by omega), List.getElem?_append_right (by rw [List.length_take, List.length_drop]; omega), List.length_take, List.length_drop, Nat.min_eq_left (by omega), List.getElem?_drop]
      have e1 : dp + n + (j - dp - n) = j := by omega
      rw [e1]
theorem z_sum (hF : xokF fm) {r : List Value} (h : r.length ≤ 4) : ((r.map (xv ad ρ fm)).map fun v => v.category).sum ≤ 8 := xcat_sum hF r h
theorem z_copy (hE : xEnv p l e R s m args below meth c D cA ad fm A n0 mi) {idx : Nat} (hlink : Cond.methodLink (xcn mi.2.2.1) idx arraycopyName ∈ wsL_law) (hdg : decode mi.2.1 pc = .ok (.invokestatic idx, 3)) (h : xGood (xRn p l e R s m args below meth c D cA ad ρ fm A mi.2.2.2.2.1 n0 mi.2.2.2.2.2.2.2.1 mi.2.2.2.2.2.2.2.2.1 Q) L (xcopy pc lo st C rg uc us)) : xRn p l e R s m args below meth c D cA ad ρ fm A mi.2.2.2.2.1 n0 mi.2.2.2.2.2.2.2.1 mi.2.2.2.2.2.2.2.2.1 Q (pc, lo, st, C, rg, uc, us) := by
  obtain ⟨hx, hb, hml, hown, hts, hK, hX, hret, hlk, hin, hroom, hrc, hrs, hF, hA, hAx, had⟩ := hE
  unfold xcopy at h
  split at h
  · next n dp d sp sr r =>
    split at h
    · next hq =>
      obtain ⟨q0, q1, q2, q3⟩ := hq
      rw [xnth_eq] at h
      split at h
      · next t1 xs hc1 =>
        rw [xnth_eq] at h
        split at h
        · next t2 ys hc2 =>
          split at h
          · next hq2 =>
            obtain ⟨rfl, rfl, g1, g2⟩ := hq2
            rw [xset_eq] at h
            intro H locs ls hR hL hP hD hS hn
            have he1 := xenc_get (cA := cA) (V := xv ad ρ fm) (ad := ad) hc1
            have he2 := xenc_get (cA := cA) (V := xv ad ρ fm) (ad := ad) hc2
            rw [xencC_i (Nat.le_refl _) (by decide)] at he1 he2
            have nl : ∀ z : Int32, 0 ≤ z.toInt → ¬ z < 0 := fun z hz => by rw [Int32.lt_iff_toInt_lt]; simp; omega
            have hroom2 : ((r.map (xv ad ρ fm)).map fun v => v.category).sum + (nativeFrameWords "java/lang/System" "arraycopy" 5 + 11) ≤ R.locals := by
              have h1 := z_sum (ad := ad) (ρ := ρ) hF q3
              have h2 : nativeFrameWords "java/lang/System" "arraycopy" 5 ≤ 20 := by decide
              have h3 := hroom.2
              omega
            refine va_copyi hx hb (by rw [hml]; exact hL.1.symm) hown (hts _ hlink) (hts _ xo2) (hts _ xo3) (hts _ xo4) hK hP hD hS sr d 0 0 he1 he2 rfl rfl rfl (nl _ q2) (nl _ q1) (nl _ q0) g1 g2 (fun i hi => rfl) hroom.1 hroom2 hdg (fun H1 locs1 hP1 hD1 hS1 => ?_)
            have e2 : (xenc cA (xv ad ρ fm) ad C).set d (ad d, .inl (cA 100, ys.length, .inl (va_cpy (fun j => xI (xv ad ρ fm (xs.getD j .null))) (fun j => xI (xv ad ρ fm (ys.getD j .null))) sp.toNatClampNeg dp.toNatClampNeg n.toNatClampNeg))) = xenc cA (xv ad ρ fm) ad (C.set d (100, ys.take dp.toInt.toNat ++ ((xs.drop sp.toInt.toNat).take n.toInt.toNat ++ ys.drop (dp.toInt.toNat + n.toInt.toNat)))) := by
              rw [xenc_set, xencC_i (Nat.le_refl _) (by decide), xcpy_len g1 g2]
              congr 6
              funext j
              rw [xcpy_get _ g1 g2]
              unfold va_cpy
              rw [xtn, xtn, xtn]
              split <;> rfl
            rw [e2] at hP1 hD1
            exact h H1 locs1 ls hR hL hP1 hD1 hS1 ⟨by rw [List.length_set]; exact hn.1, hn.2⟩
          · exact absurd h id
        · exact absurd h id
      · exact absurd h id
    · exact absurd h id
  · exact absurd h id
theorem z_math2 {f : Int32 → Int32 → Int32} (hE : xEnv p l e R s m args below meth c D cA ad fm A n0 mi) (row : ∀ (x y : Int32) (H : Heap) (locs : List Loc) (ls : Array Slot) (r : List Value), ls.size = mi.2.2.2.2.1 → r.length ≤ 4 → uc ≤ mi.2.2.2.2.2.2.2.1 → us ≤ mi.2.2.2.2.2.2.2.2.1 → W p l e R s m args below meth c H locs uc us Q (F0 m (pc + 3) ls (.int (f x y) :: r.map (xv ad ρ fm))) → W p l e R s m args below meth c H locs uc us Q (F0 m pc ls (.int y :: .int x :: r.map (xv ad ρ fm)))) (h : xGood (xRn p l e R s m args below meth c D cA ad ρ fm A mi.2.2.2.2.1 n0 mi.2.2.2.2.2.2.2.1 mi.2.2.2.2.2.2.2.2.1 Q) L (xmath2 pc lo st C rg uc us f)) : xRn p l e R s m args below meth c D cA ad ρ fm A mi.2.2.2.2.1 n0 mi.2.2.2.2.2.2.2.1 mi.2.2.2.2.2.2.2.2.1 Q (pc, lo, st, C, rg, uc, us) := by
  unfold xmath2 at h
  split at h
  · next b a r =>
    split at h
    · next x hx =>
      split at h
      · next y hy =>
        split at h
        · next hr =>
          rw [xfI_eq] at h
          intro H locs ls hR hL hP hD hS hn
          have e1 := xci_ok (ad := ad) (fm := fm) hR hx
          have e2 := xci_ok (ad := ad) (fm := fm) hR hy
          have h2 := h H locs ls hR hL hP hD hS hn
          simp only [List.map_cons, e1, e2]
          exact row x y H locs ls r hL.1 hr hn.2.1 hn.2.2.1 h2
        · exact absurd h id
      · exact z_fork (fun hR => xcov_cs hR _) h
    · exact z_fork (fun hR => xcov_cs hR _) h
  · exact absurd h id
theorem z_math1 {f : Int32 → Int32} (hE : xEnv p l e R s m args below meth c D cA ad fm A n0 mi) (row : ∀ (x : Int32) (H : Heap) (locs : List Loc) (ls : Array Slot) (r : List Value), ls.size = mi.2.2.2.2.1 → r.length ≤ 4 → uc ≤ mi.2.2.2.2.2.2.2.1 → us ≤ mi.2.2.2.2.2.2.2.2.1 → W p l e R s m args below meth c H locs uc us Q (F0 m (pc + 3) ls (.int (f x) :: r.map (xv ad ρ fm))) → W p l e R s m args below meth c H locs uc us Q (F0 m pc ls (.int x :: r.map (xv ad ρ fm)))) (h : xGood (xRn p l e R s m args below meth c D cA ad ρ fm A mi.2.2.2.2.1 n0 mi.2.2.2.2.2.2.2.1 mi.2.2.2.2.2.2.2.2.1 Q) L (xmath1 pc lo st C rg uc us f)) : xRn p l e R s m args below meth c D cA ad ρ fm A mi.2.2.2.2.1 n0 mi.2.2.2.2.2.2.2.1 mi.2.2.2.2.2.2.2.2.1 Q (pc, lo, st, C, rg, uc, us) := by
  unfold xmath1 at h
  split at h
  · next a r =>
    split at h
    · next x hx =>
      split at h
      · next hr =>
        rw [xfI_eq] at h
        intro H locs ls hR hL hP hD hS hn
        have e1 := xci_ok (ad := ad) (fm := fm) hR hx
        have h2 := h H locs ls hR hL hP hD hS hn
        simp only [List.map_cons, e1]
        exact row x H locs ls r hL.1 hr hn.2.1 hn.2.2.1 h2
      · exact absurd h id
    · exact z_fork (fun hR => xcov_cs hR _) h
  · exact absurd h id
theorem z_max (hE : xEnv p l e R s m args below meth c D cA ad fm A n0 mi) {idx : Nat} (hlink : Cond.methodLink (xcn mi.2.2.1) idx Lib.Math.max.name ∈ wsL_law) (hdg : decode mi.2.1 pc = .ok (.invokestatic idx, 3)) (h : xGood (xRn p l e R s m args below meth c D cA ad ρ fm A mi.2.2.2.2.1 n0 mi.2.2.2.2.2.2.2.1 mi.2.2.2.2.2.2.2.2.1 Q) L (xmath2 pc lo st C rg uc us (fun x y => if x < y then y else x))) : xRn p l e R s m args below meth c D cA ad ρ fm A mi.2.2.2.2.1 n0 mi.2.2.2.2.2.2.2.1 mi.2.2.2.2.2.2.2.2.1 Q (pc, lo, st, C, rg, uc, us) := by
  have hE2 := hE
  obtain ⟨hx, hb, hml, hown, hts, hK, hX, hret, hlk, hin, hroom, hrc, hrs, hF, hA, hAx, had⟩ := hE2
  refine z_math2 hE (fun x y H locs ls r hs hr h1 h2 k => ?_) h
  exact va_mmax hx hb (by rw [hml]; exact hs.symm) hown (hts _ hlink) (hts _ xo5) (hts _ xo8) (hts _ xo11) hroom.1 (by have := z_sum (ad := ad) (ρ := ρ) hF hr; have := hroom.2; omega) (by rw [hrc]; exact h1) (by rw [hrs]; exact h2) hdg k
theorem z_min (hE : xEnv p l e R s m args below meth c D cA ad fm A n0 mi) {idx : Nat} (hlink : Cond.methodLink (xcn mi.2.2.1) idx Lib.Math.min.name ∈ wsL_law) (hdg : decode mi.2.1 pc = .ok (.invokestatic idx, 3)) (h : xGood (xRn p l e R s m args below meth c D cA ad ρ fm A mi.2.2.2.2.1 n0 mi.2.2.2.2.2.2.2.1 mi.2.2.2.2.2.2.2.2.1 Q) L (xmath2 pc lo st C rg uc us (fun x y => if y < x then y else x))) : xRn p l e R s m args below meth c D cA ad ρ fm A mi.2.2.2.2.1 n0 mi.2.2.2.2.2.2.2.1 mi.2.2.2.2.2.2.2.2.1 Q (pc, lo, st, C, rg, uc, us) := by
  have hE2 := hE
  obtain ⟨hx, hb, hml, hown, hts, hK, hX, hret, hlk, hin, hroom, hrc, hrs, hF, hA, hAx, had⟩ := hE2
  refine z_math2 hE (fun x y H locs ls r hs hr h1 h2 k => ?_) h
  exact va_mmin hx hb (by rw [hml]; exact hs.symm) hown (hts _ hlink) (hts _ xo6) (hts _ xo8) (hts _ xo12) hroom.1 (by have := z_sum (ad := ad) (ρ := ρ) hF hr; have := hroom.2; omega) (by rw [hrc]; exact h1) (by rw [hrs]; exact h2) hdg k
theorem z_abs (hE : xEnv p l e R s m args below meth c D cA ad fm A n0 mi) {idx : Nat} (hlink : Cond.methodLink (xcn mi.2.2.1) idx Lib.Math.abs.name ∈ wsL_law) (hdg : decode mi.2.1 pc = .ok (.invokestatic idx, 3)) (h : xGood (xRn p l e R s m args below meth c D cA ad ρ fm A mi.2.2.2.2.1 n0 mi.2.2.2.2.2.2.2.1 mi.2.2.2.2.2.2.2.2.1 Q) L (xmath1 pc lo st C rg uc us (fun x => if x < 0 then -x else x))) : xRn p l e R s m args below meth c D cA ad ρ fm A mi.2.2.2.2.1 n0 mi.2.2.2.2.2.2.2.1 mi.2.2.2.2.2.2.2.2.1 Q (pc, lo, st, C, rg, uc, us) := by
  have hE2 := hE
  obtain ⟨hx, hb, hml, hown, hts, hK, hX, hret, hlk, hin, hroom, hrc, hrs, hF, hA, hAx, had⟩ := hE2
  refine z_math1 hE (fun x H locs ls r hs hr h1 h2 k => ?_) h
  refine va_mabs hx hb (by rw [hml]; exact hs.symm) hown (hts _ hlink) (hts _ xo7) (hts _ xo8) (hts _ xo13) hroom.1 (by have := z_sum (ad := ad) (ρ := ρ) hF hr; have := hroom.2; omega) (by rw [hrc]; exact h1) (by rw [hrs]; exact h2) hdg ?_
  have e1 : (if 0 ≤ x then x else 0 - x) = if x < 0 then -x else x := by
    by_cases hq : x < 0
    · rw [if_pos hq, if_neg (Int32.not_le.mpr hq)]
      apply Int32.toBitVec_inj.mp
      simp
    · rw [if_neg hq, if_pos (Int32.not_lt.mp hq)]
  rw [e1]
  exact k
theorem z_ldc (hE : xEnv p l e R s m args below meth c D cA ad fm A n0 mi) {idx : Nat} {v : Value} (hv : xldc mi.2.2.1 idx = some v) (hdg : decode mi.2.1 pc = .ok (.ldc idx, 2)) (h : xRn p l e R s m args below meth c D cA ad ρ fm A mi.2.2.2.2.1 n0 mi.2.2.2.2.2.2.2.1 mi.2.2.2.2.2.2.2.2.1 Q (pc + 2, lo, v :: st, C, rg, uc, us)) : xRn p l e R s m args below meth c D cA ad ρ fm A mi.2.2.2.2.1 n0 mi.2.2.2.2.2.2.2.1 mi.2.2.2.2.2.2.2.2.1 Q (pc, lo, st, C, rg, uc, us) := by
  obtain ⟨hx, hb, hml, hown, hts, hK, hX, -⟩ := hE
  intro H locs ls hR hL hP hD hS hn
  have h2 := h H locs ls hR hL hP hD hS hn
  unfold xldc at hv
  split at hv
  · next z hz =>
    cases hv
    exact lv_ldc hx hb hown (hts _ (xco_ok hz)) hdg h2
  · split at hv
    · next i hi =>
      cases hv
      have hs : ∃ q, xStr[i]? = some q ∧ q.1 = mi.2.2.1 ∧ q.2.1 = idx := by
        obtain ⟨ll, h3, h4⟩ := xas2_mem hi
        exact xls_all _ h3 _ h4
      obtain ⟨q, hq, e1, e2⟩ := hs
      have hZ := hX.2.2.2.1 i q hq
      rw [e1, e2] at hZ
      exact va_ldcS hx hb hown hZ hdg h2
    · cases hv
end XMAKE
end

section
/-! calls, ends, whole methods -/
theorem xAOA_moved {u U : State} (hvm : u.vm.Alike U.vm) (h : va_Nw (.arrayOver (.array .int)) u) : va_Nw (.arrayOver (.array .int)) U := by
  unfold va_Nw Cond.before Cond.holds at h ⊢
  simp only [Cond.value, beq_iff_eq] at h ⊢
  have e1 : U.vm.findClass (FieldType.array .int).toString = u.vm.findClass (FieldType.array .int).toString := by rw [hvm.findClass]
  have e2 : U.vm.findClass ("[" ++ (FieldType.array .int).toString) = u.vm.findClass ("[" ++ (FieldType.array .int).toString) := by rw [hvm.findClass]
  rw [e1]
  cases hc : u.vm.findClass (FieldType.array .int).toString with
  | none => rw [hc] at h; simp at h
  | some comp =>
    rw [hc] at h
    simp only [Option.bind_some, Option.bind_eq_some_iff, Option.map_eq_some_iff] at h ⊢
    obtain ⟨c, hi, k, hk, hb⟩ := h
    have q1 := va_idx_bare U.vm comp
    have q2 := va_idx_bare u.vm comp
    have q3 : U.vm.bare = u.vm.bare := by first | exact hvm.bare_eq | exact hvm.bare_eq.symm
    rw [q3] at q1
    have hi2 := q1.symm.trans (q2.trans hi)
    obtain ⟨k', hk', he⟩ := hvm.2.2 _ _ hk
    refine ⟨c, hi2, k', hk', ?_⟩
    have ek : k'.kind = k.kind := by rw [he]
    rw [ek, e2]
    exact hb
theorem xExt_call {ad : Nat → Nat} {fm : Value} {A A' : Nat → Prop} {s U : State} {H : Heap} {locs : List Loc} (h : xExt ad fm A s s.heap) (hS : va_S A s.heap H locs) (hAA : ∀ q, A' q → A q) (hW : s.WarmedH U.vm) (hU : U.heap = H) : xExt ad fm A' U U.heap := by
  obtain ⟨h1, h2, h3, h4, ⟨h5, h6, h7⟩, h8⟩ := h
  rw [hU]
  refine ⟨fun q hq => va_Z.moved hW.alike (((h1 q hq).kept hS.2.1).narrow hAA), fun j l hl => va_T.moved hW.alike (((h2 j l hl).kept hS.2.1).narrow hAA), vk_S.moved hW.alike ((h3.kept hS.2.1).narrow hAA), fun i q hq => (h4 i q hq).warm hW, ⟨h5.moved hW.alike, h6.moved hW.alike, xAOA_moved hW.alike h7⟩, fun q hq => va_Nw.warmM hW (h8 q hq)⟩
theorem xExt_same {ad : Nat → Nat} {fm : Value} {A : Nat → Prop} {u U : State} (h : xExt ad fm A u u.heap) (hv : U.vm = u.vm) (hh : U.heap = u.heap) : xExt ad fm A U U.heap := by
  have hal : u.vm.Alike U.vm := by rw [hv]; exact Vm.Alike.refl _
  obtain ⟨h1, h2, h3, h4, ⟨h5, h6, h7⟩, h8⟩ := h
  rw [hh]
  refine ⟨fun q hq => va_Z.moved hal (h1 q hq), fun j l hl => va_T.moved hal (h2 j l hl), vk_S.moved hal h3, fun i q hq => (h4 i q hq).same hv, ⟨h5.moved hal, h6.moved hal, xAOA_moved hal h7⟩, fun q hq => va_Nw.same rfl hv.symm (h8 q hq)⟩
noncomputable def xws (mi : xMI) : List Cond := Cond.code mi.1 mi.2.1 mi.2.2.2.2.1 (xrt mi.2.2.2.2.2.1) :: wsL_law
noncomputable def xrm (d : Nat) (mi : xMI) : Room := { frames := d, cells := mi.2.2.2.2.2.2.2.1, slots := mi.2.2.2.2.2.2.2.2.1, locals := 40 * d }
noncomputable def xPc (D : va_G) (cA : Nat → ClassId) (ad : Nat → Nat) (ρ : Nat → Int32) (fm : Value) (C : List xCel) (sz : Nat) (as : List Value) : Array Value → State → Prop := va_Pc (as.map (xv ad ρ fm)) (fun U => U.heap.size = sz ∧ va_P D vwCl (xenc cA (xv ad ρ fm) ad C) U.heap ∧ va_K D vwCl (xtys cA) U ∧ va_D (fun _ => True) (xenc cA (xv ad ρ fm) ad C) ∧ xExt ad fm (va_A (xenc cA (xv ad ρ fm) ad C) sz) U U.heap)
noncomputable def xQc (D : va_G) (cA : Nat → ClassId) (ad : Nat → Nat) (ρ : Nat → Int32) (fm : Value) (A : Nat → Prop) (n : Nat) (LF : List xLf) : Array Value → State → Outcome → State → Prop := fun _ st oc t => (∃ lf ∈ LF, xokR ρ lf.2.2 ∧ oc = .returned (lf.1.map (xv ad ρ fm)) ∧ va_P D vwCl (xenc cA (xv ad ρ fm) ad lf.2.1) t.heap ∧ va_K D vwCl (xtys cA) t ∧ va_D A (xenc cA (xv ad ρ fm) ad lf.2.1) ∧ lf.2.1.length = n ∧ n ≤ xB) ∧ va_F A st t
/-- what a method's run in the engine says of the machine -/
def xCt (d : Nat) (mi : xMI) (as : List Value) (C : List xCel) (rg : xRG) (LF : List xLf) : Prop :=
  ∀ (l : Launch) (D : va_G) (cA : Nat → ClassId) (ad : Nat → Nat) (ρ : Nat → Int32) (fm : Value) (sz : Nat), xokF fm → xokR ρ rg → C.length ≤ xB → (∀ k, C.length ≤ k → k < xB → ad k = sz + (k - C.length)) →
    Met l mi.1 (xws mi) (xrm d mi) (xPc D cA ad ρ fm C sz as) (xQc D cA ad ρ fm (va_A (xenc cA (xv ad ρ fm) ad C) sz) (C.length + mi.2.2.2.2.2.2.2.1) LF) mi.2.2.2.2.2.2.2.1 mi.2.2.2.2.2.2.2.2.1 (va_A (xenc cA (xv ad ρ fm) ad C) sz)
theorem xPc_blind {D : va_G} {cA : Nat → ClassId} {ad : Nat → Nat} {ρ : Nat → Int32} {fm : Value} {C : List xCel} {sz : Nat} {as : List Value} : FrameBlind (xPc D cA ad ρ fm C sz as) := by
  intro a U g mk q
  obtain ⟨q0, q1, qP, qK, qD, qX⟩ := q
  exact ⟨q0, q1, qP, va_K.moved (u := U) (U := U.calling g mk a) (Vm.Alike.refl U.vm) qK, qD, xExt_same qX rfl rfl⟩
theorem x_size {D : va_G} {cA : Nat → ClassId} {V : Value → Value} {ad : Nat → Nat} {A : Nat → Prop} {C : List xCel} {H0 H : Heap} {locs : List Loc} {n0 uc : Nat} (had : ∀ k, n0 ≤ k → k < xB → ad k = H0.size + (k - n0)) (hn : C.length = n0 + uc) (hB : n0 + uc ≤ xB) (hP : va_P D vwCl (xenc cA V ad C) H) (hS : va_S A H0 H locs) (hsz : H.size ≤ H0.size + uc) : H.size = H0.size + uc := by
  have h1 := hS.1
  by_cases h0 : uc = 0
  · omega
  · have hk : n0 + uc - 1 < C.length := by omega
    have hg := xenc_get (cA := cA) (V := V) (ad := ad) (List.getElem?_eq_getElem hk)
    have hlt : ad (n0 + uc - 1) < H.size := (hP _ _ hg).lt
    rw [had (n0 + uc - 1) (by omega) (by omega)] at hlt
    omega
theorem xgoodIn {ws : List Cond} (h : ∀ w ∈ ws, w ∈ wsL_law) : GoodIn wsL_law ws := fun w hw => ⟨h w hw, good_of_word (List.all_eq_true.mp xws_good w (h w hw))⟩
theorem xws_in {mi : xMI} (h : xMIok mi) : ∀ w ∈ xws mi, w ∈ wsL_law := fun w hw => (List.mem_cons.mp hw).elim (fun e => by rw [e]; exact h.2.2.1) id
theorem xcn_vw : ∀ {ci : Nat} {q : vw_C}, vwCl[ci]? = some q → xcn ci = q.1
  | 0, q, h => by cases h; rfl
  | 1, q, h => by cases h; rfl
  | 2, q, h => by cases h; rfl
  | 3, q, h => by cases h; rfl
  | 4, q, h => by cases h; rfl
  | 5, q, h => by cases h; rfl
  | 6, q, h => by cases h; rfl
  | 7, q, h => by cases h; rfl
  | n + 8, q, h => by simp [vwCl] at h
section XCALL
variable {p : Program} {l : Launch} {e : Env} {R : Room} {s : State} {m : MethodId} {args : Array Value} {below : List Frame} {meth : Method} {c : Code} {D : va_G} {cA : Nat → ClassId} {ad : Nat → Nat} {ρ : Nat → Int32} {fm : Value} {A : Nat → Prop} {n0 : Nat} {mi : xMI} {Q : State → Prop} {L : xLf → Prop}
variable {pc : Nat} {lo : List (Option Value)} {st : List Value} {C : List xCel} {rg : xRG} {uc us : Nat}
/-- behind a call -/
theorem z_back (hE : xEnv p l e R s m args below meth c D cA ad fm A n0 mi) {mi' : xMI} {LF : List xLf} {r st0 : List Value} {a : Array Value} {H : Heap} {locs : List Loc} {ls : Array Slot} (hL : xLV (xv ad ρ fm) ls mi.2.2.2.2.1 lo) (hP : va_P D vwCl (xenc cA (xv ad ρ fm) ad C) H) (hD : va_D A (xenc cA (xv ad ρ fm) ad C)) (hS : va_S A s.heap H locs) (hn : C.length = n0 + uc) (hq1 : uc + mi'.2.2.2.2.2.2.2.1 ≤ mi.2.2.2.2.2.2.2.1) (hq2 : us + mi'.2.2.2.2.2.2.2.2.1 ≤ mi.2.2.2.2.2.2.2.2.1)
    (hr : va_Run p l e R s m args below meth c H locs uc us mi'.2.2.2.2.2.2.2.1 mi'.2.2.2.2.2.2.2.2.1 (F0 m pc ls st0) (r.map (xv ad ρ fm)) (xQc D cA ad ρ fm (va_A (xenc cA (xv ad ρ fm) ad C) H.size) (C.length + mi'.2.2.2.2.2.2.2.1) LF a) (va_A (xenc cA (xv ad ρ fm) ad C) H.size))
    (h : xGood (xRn p l e R s m args below meth c D cA ad ρ fm A mi.2.2.2.2.1 n0 mi.2.2.2.2.2.2.2.1 mi.2.2.2.2.2.2.2.2.1 Q) L (xcallR pc lo (uc + mi'.2.2.2.2.2.2.2.1) (us + mi'.2.2.2.2.2.2.2.2.1) r (some LF))) : W p l e R s m args below meth c H locs uc us Q (F0 m pc ls st0) := by
  obtain ⟨hx, hb, hml, hown, hts, hK, hX, hret, hlk, hin, hroom, hrc, hrs, hF, hA, hAx, had⟩ := hE
  have hall : ∀ lf ∈ LF, xRn p l e R s m args below meth c D cA ad ρ fm A mi.2.2.2.2.1 n0 mi.2.2.2.2.2.2.2.1 mi.2.2.2.2.2.2.2.2.1 Q (xback pc lo (uc + mi'.2.2.2.2.2.2.2.1) (us + mi'.2.2.2.2.2.2.2.2.1) r lf) := by
    unfold xcallR at h
    simp only at h
    split at h
    · next lf0 => intro lf hlf; rw [List.mem_singleton.mp hlf]; exact h
    · intro lf hlf; exact h _ (List.mem_map.mpr ⟨lf, hlf, rfl⟩)
  have hAA : ∀ q, va_A (xenc cA (xv ad ρ fm) ad C) H.size q → A q := by
    intro q hq
    rcases hq with ⟨k, ez, hk⟩ | hq
    · exact hD.2 k _ hk
    · exact hA q (Nat.le_trans hS.1 hq)
  intro T hT X
  obtain ⟨v, st₀, t, T', Lc, h0, X', hLc, e1, e2, ⟨⟨lf, hlf, k1, k2, k3, k4, k5, k6, k7⟩, hz, hk⟩, stp⟩ := hr T hT X
  rw [h0] at hz hk
  have hv : v = lf.1.map (xv ad ρ fm) := by cases k2; rfl
  have hS' : va_S A s.heap T'.heap (locs ++ Lc) := ⟨Nat.le_trans hS.1 (by rw [e1]; exact hz), fun q h1 h2 => by rw [e1, hk q (Nat.lt_of_lt_of_le h1 hS.1) (fun z => h2 (hAA q z))]; exact hS.2.1 q h1 h2, fun q hq => by
    rcases List.mem_append.mp hq with h1 | h1
    · exact hS.2.2 q h1
    · exact hAA _ (hLc q h1)⟩
  have h2 := hall lf hlf T'.heap (locs ++ Lc) ls k1 hL (by rw [e1]; exact k3) (k5.weaken (fun _ _ _ hz => hAA _ hz)) hS' ⟨by show lf.2.1.length = _; rw [k6, hn]; show _ = n0 + (uc + _); omega, hq1, hq2, by have h9 := k7; rw [hn] at h9; show n0 + (uc + _) ≤ xB; omega⟩
  obtain ⟨t2, a1, b1⟩ := h2 T' rfl X'
  refine ⟨t2, stp t2 ?_, b1⟩
  have est : v.toList ++ r.map (xv ad ρ fm) = (lf.1.toList ++ r).map (xv ad ρ fm) := by
    rw [hv, List.map_append]
    cases lf.1 <;> rfl
  rw [est]
  exact a1
theorem xpop_ok : ∀ {n : Nat} {acc st as r : List Value}, xpop n acc st = some (as, r) → as.reverse ++ r = acc.reverse ++ st ∧ as.length = acc.length + n
  | 0, acc, st, as, r, h => by cases h; exact ⟨rfl, rfl⟩
  | n + 1, acc, [], as, r, h => by cases h
  | n + 1, acc, v :: st, as, r, h => by
    obtain ⟨h1, h2⟩ := xpop_ok (n := n) h
    refine ⟨by rw [h1]; simp, by rw [h2]; simp; omega⟩
/-- the link of a call -/
def xLk (own : String) (idx : Nat) (y : MethodName) (s : State) (args : Array Value) : Prop := (Cond.methodLink own idx y).before args s = true
theorem z_CB {mi' : xMI} (hok : xMIok mi') (hts : ∀ w ∈ wsL_law, w.before args s = true) {own : String} {idx d : Nat} (hl : (Cond.methodLink own idx mi'.1).before args s = true) (hR : R.frames = d + 1 ∧ R.locals = 40 * (d + 1)) {n : Nat} (hn : (parseMethodDescriptor mi'.1.desc).map (fun d => d.parameters.length) = some n) : CallB R s args own idx mi'.1 mi'.2.1 mi'.2.2.2.2.1 (xrt mi'.2.2.2.2.2.1) (xws mi') (xrm d mi') mi'.2.2.2.2.2.2.2.1 mi'.2.2.2.2.2.2.2.2.1 n := by
  obtain ⟨o1, o2, o3, o4, o5, o6, o7, o8, o9, o10, o11, o12⟩ := hok
  refine callB_of n hts (xgoodIn (xws_in ⟨o1, o2, o3, o4, o5, o6, o7, o8, o9, o10, o11, o12⟩)) rfl rfl rfl (hts _ o4) hl ⟨o5.1, o5.2, hn⟩ ⟨?_, ?_⟩
  · rw [hR.1]; exact Nat.le_refl _
  · rw [hR.2]; show 8 + (_ + 11) + 40 * d ≤ _; omega
theorem z_call (hE : xEnv p l e R s m args below meth c D cA ad fm A n0 mi) {d : Nat} (hR : R.frames = d + 1 ∧ R.locals = 40 * (d + 1)) {call : Nat → List Value → List xCel → xRG → Option (List xLf)} (hcall : ∀ (j : Nat) (mi' : xMI) (as : List Value) (C : List xCel) (rg : xRG) (LF : List xLf), xmi j = some mi' → call j as C rg = some LF → xCt d mi' as C rg LF) {kd j idx : Nat} (hlink : ∀ mi', xmi j = some mi' → mi'.2.2.2.2.2.2.1 = kd → (Cond.methodLink (xcn mi.2.2.1) idx mi'.1).before args s = true ∨ (kd = 2 ∧ va_Nw (.methodLinkNest (xcn mi.2.2.1) idx mi'.1 "StreetTillTen") s)) (hdg : (kd = 0 ∧ decode mi.2.1 pc = .ok (.invokestatic idx, 3)) ∨ (kd = 1 ∧ decode mi.2.1 pc = .ok (.invokevirtual idx, 3)) ∨ (kd = 2 ∧ decode mi.2.1 pc = .ok (.invokespecial idx, 3))) (h : xGood (xRn p l e R s m args below meth c D cA ad ρ fm A mi.2.2.2.2.1 n0 mi.2.2.2.2.2.2.2.1 mi.2.2.2.2.2.2.2.2.1 Q) L (xcall pc lo st C rg uc us call mi.2.2.2.2.2.2.2.1 mi.2.2.2.2.2.2.2.2.1 kd j)) : xRn p l e R s m args below meth c D cA ad ρ fm A mi.2.2.2.2.1 n0 mi.2.2.2.2.2.2.2.1 mi.2.2.2.2.2.2.2.2.1 Q (pc, lo, st, C, rg, uc, us) := by
  have hE2 := hE
  obtain ⟨hx, hb, hml, hown, hts, hK, hX, hret, hlk, hin, hroom, hrc, hrs, hF, hA, hAx, had⟩ := hE2
  unfold xcall at h
  split at h
  · next mi' nm by' own na mx rk kd' mc' ms' tb hj =>
    split at h
    · next hkd =>
      subst hkd
      split at h
      · next as r hpop =>
        split at h
        · next hq =>
          obtain ⟨hr4, hq1, hq2, hrecv⟩ := hq
          rw [xfN_eq, xfN_eq] at h
          cases hc : call j as C rg with
          | none => rw [hc] at h; exact absurd h id
          | some LF =>
            rw [hc] at h
            have hCt := hcall j _ as C rg LF hj hc
            have hok := xmi_ok hj
            obtain ⟨o1, o2, o3, o4, o5, o6, o7, o8, o9, o10, o11, o12⟩ := id hok
            obtain ⟨hst, hlen⟩ := xpop_ok hpop
            simp only [List.reverse_nil, List.nil_append] at hst
            simp only [List.length_nil, Nat.zero_add] at hlen
            intro H locs ls hR' hL hP hD hS hn
            have hn' : C.length = n0 + uc := hn.1
            have hB : n0 + uc ≤ xB := hn.2.2.2
            refine xW_sz fun hsz => ?_
            have hsize := x_size had hn' hB hP hS hsz
            have had' : ∀ k, C.length ≤ k → k < xB → ad k = H.size + (k - C.length) := by
              intro k h1 h2
              rw [had k (by omega) h2, hsize]
              omega
            have hM := hCt l D cA ad ρ fm H.size hF hR' (by omega) had'
            have hAA : ∀ q, va_A (xenc cA (xv ad ρ fm) ad C) H.size q → A q := by
              intro q hq
              rcases hq with ⟨k, ez, hk⟩ | hq
              · exact hD.2 k _ hk
              · exact hA q (Nat.le_trans hS.1 hq)
            have hpre : ∀ U : State, U.heap = H → s.WarmedH U.vm → xPc D cA ad ρ fm C H.size as (as.map (xv ad ρ fm)).toArray U := fun U hU hW => ⟨rfl, by rw [hU], by rw [hU]; exact hP, va_K.moved hW.alike hK, hD.weaken (fun _ _ _ _ => trivial), xExt_call hX hS hAA hW hU⟩
            have hsum : ((r.map (xv ad ρ fm)).map fun v => v.category).sum ≤ 8 := xcat_sum hF r hr4
            have hstk : st.map (xv ad ρ fm) = (as.map (xv ad ρ fm)).reverse ++ r.map (xv ad ρ fm) := by
              rw [← hst, List.map_append, List.map_reverse]
            have hlink' := hlink _ hj rfl
            rcases hdg with ⟨e0, hdg⟩ | ⟨e1, hdg⟩ | ⟨e2, hdg⟩
            · -- static
              subst e0
              have hlk2 : (Cond.methodLink (xcn mi.2.2.1) idx nm).before args s = true := by
                rcases hlink' with z | ⟨z, -⟩
                · exact z
                · cases z
              refine z_back hE hL hP hD hS hn' hq1 hq2 (va_runS (Ts := wsL_law) (As := as.map (xv ad ρ fm)) (rest := r.map (xv ad ρ fm)) (n := na) ⟨hx, hb, hml, hown, hts⟩ hM ⟨z_CB hok hts hlk2 hR (by rw [o6]; rfl), hts _ (o8 rfl)⟩ ⟨xPc_blind, hpre⟩ rfl (by rw [List.length_map]; exact hlen) hL.1 hstk (lv_room hsum) hdg ⟨by rw [hrc]; exact hq1, by rw [hrs]; exact hq2⟩) h
            · -- virtual
              subst e1
              have hlk2 : (Cond.methodLink (xcn mi.2.2.1) idx nm).before args s = true := by
                rcases hlink' with z | ⟨z, -⟩
                · exact z
                · cases z
              unfold xrecv at hrecv
              split at hrecv
              · next z => cases z
              · split at hrecv
                · next a as' =>
                  have hrc2 : ∃ cell : Cell, H[ad a]? = some cell ∧ cell.vm.isStatics = false ∧ s.vm.findClass nm.cls = some cell.cls := by
                    split at hrecv
                    · next h10 =>
                      rw [Bool.and_eq_true, decide_eq_true_eq, decide_eq_true_eq] at hrecv
                      obtain ⟨i, hi, rfl⟩ := xstr_ix a hrecv.1 hrecv.2
                      have := vk_recv hX.2.2.1 hi hS
                      rw [o2]
                      simp only [h10]
                      exact this
                    · next h10 =>
                      rw [xnth_eq] at hrecv
                      split at hrecv
                      · next t fs hca =>
                        rw [Bool.and_eq_true, decide_eq_true_eq, decide_eq_true_eq] at hrecv
                        obtain ⟨rfl, ht⟩ := hrecv
                        have he := xenc_get (cA := cA) (V := xv ad ρ fm) (ad := ad) hca
                        rw [xencC_o ht] at he
                        obtain ⟨rr, hrr, -⟩ := hP a _ he
                        have hcn := xcn_vw hrr
                        have := va_recv hK hP hrr he
                        rw [o2]
                        simp only
                        rw [hcn]
                        exact this
                      · cases hrecv
                  have hlen1 : na = as'.length + 1 := by rw [← hlen]; rfl
                  refine z_back hE hL hP hD hS hn' hq1 hq2 (va_runV (Ts := wsL_law) (C := nm.cls) (As := as'.map (xv ad ρ fm)) (rest := r.map (xv ad ρ fm)) (n := na - 1) ⟨hx, hb, hml, hown, hts⟩ hM ⟨z_CB hok hts hlk2 hR (by rw [o6]; rfl), hts _ (o9 Nat.one_ne_zero).1, hts _ (o10 rfl)⟩ ⟨xPc_blind, hrc2, hpre⟩ rfl (by rw [List.length_map]; omega) hL.1 (by rw [hstk, List.map_cons, List.reverse_cons, List.append_assoc]; rfl) (lv_room hsum) hdg ⟨by rw [hrc]; exact hq1, by rw [hrs]; exact hq2⟩) h
                · cases hrecv
            · -- constructors
              subst e2
              unfold xrecv at hrecv
              split at hrecv
              · next z => cases z
              · split at hrecv
                · next a as' =>
                  have hlen1 : na = as'.length + 1 := by rw [← hlen]; rfl
                  obtain ⟨i1, i2⟩ := o11 rfl
                  have hrt : xrt rk = none := by have i3 : rk = 0 := i2; rw [i3]; rfl
                  have hst2 : st.map (xv ad ρ fm) = (as'.map (xv ad ρ fm)).reverse ++ .ref (ad a) :: r.map (xv ad ρ fm) := by
                    rw [hstk, List.map_cons, List.reverse_cons, List.append_assoc]; rfl
                  rcases hlink' with hlk2 | ⟨-, hnest⟩
                  · have cb := z_CB (R := R) hok hts hlk2 hR (n := na - 1) (by rw [o6]; rfl)
                    simp only [hrt] at cb
                    refine z_back hE hL hP hD hS hn' hq1 hq2 (va_runI (Ts := wsL_law) (As := as'.map (xv ad ρ fm)) (rest := r.map (xv ad ρ fm)) (n := na - 1) ⟨hx, hb, hml, hown, hts⟩ hM ⟨cb, i1, hts _ (o9 (show (2 : Nat) ≠ 0 by decide)).1⟩ ⟨xPc_blind, hpre⟩ rfl (by rw [List.length_map]; omega) hL.1 hst2 (lv_room hsum) hdg ⟨by rw [hrc]; exact hq1, by rw [hrs]; exact hq2⟩) h
                  · refine z_back hE hL hP hD hS hn' hq1 hq2 (va_runIN (Ts := wsL_law) (host := "StreetTillTen") (bytes := by') (maxL := mx) (As := as'.map (xv ad ρ fm)) (rest := r.map (xv ad ρ fm)) (n := na - 1) ⟨hx, hb, hml, hown, hts⟩ hM ⟨va_cnB (ws' := wsL_law) (na - 1) hts (xgoodIn (xws_in hok)) (by unfold xws; rw [hrt]) rfl rfl hnest (hts _ o4) ⟨o5.1, o5.2, by rw [o6]; rfl⟩ ⟨by rw [hR.1]; exact Nat.le_refl _, by rw [hR.2]; show 8 + (_ + 11) + 40 * d ≤ _; simp only at o7; omega⟩, i1, hts _ (o9 (show (2 : Nat) ≠ 0 by decide)).1⟩ ⟨xPc_blind, hpre⟩ rfl (by rw [List.length_map]; omega) hL.1 hst2 (lv_room hsum) hdg ⟨by rw [hrc]; exact hq1, by rw [hrs]; exact hq2⟩) h
                · cases hrecv
        · exact absurd h id
      · exact absurd h id
    · exact absurd h id
  · exact absurd h id
end XCALL
end

section
/-! new int[n][k] -/
theorem xouter (c : ClassId) (N h0 : Nat) : ∀ i : Nat, Jvm.Free.Multi.outerC c N h0 i = arrV c N (fun j => va_rf (if j < i then some (h0 + 1 + j) else none))
  | 0 => by
    show ({ cls := c, slots := Array.replicate N .null, vm := .none } : Cell) = _
    rw [arrV_new]
    refine congrArg (arrV c N) (funext fun j => ?_)
    simp [va_rf]
  | i + 1 => by
    show (Jvm.Free.Multi.outerC c N h0 i).setSlot i (.ref (h0 + 1 + i)) = _
    rw [xouter c N h0 i, arrV_store]
    refine congrArg (arrV c N) (funext fun j => ?_)
    by_cases e : j = i
    · subst e; simp [updV, va_rf]
    · by_cases h : j < i
      · simp [updV, e, h, Nat.lt_succ_of_lt h]
      · simp [updV, e, h, show ¬ j < i + 1 by omega]
theorem xarrV_eq {c : ClassId} {N : Nat} {f g : Nat → Value} (h : ∀ j, j < N → f j = g j) : arrV c N f = arrV c N g := by
  unfold arrV
  congr 1
  apply Array.ext
  · simp
  · intro i h1 h2
    simp only [Array.getElem_ofFn]
    exact h i (by simpa using h1)
section XNEW2
variable {p : Program} {l : Launch} {e : Env} {R : Room} {s : State} {m : MethodId} {args : Array Value} {below : List Frame} {meth : Method} {c : Code} {D : va_G} {cA : Nat → ClassId} {ad : Nat → Nat} {ρ : Nat → Int32} {fm : Value} {A : Nat → Prop} {n0 : Nat} {mi : xMI} {Q : State → Prop} {L : xLf → Prop}
variable {pc : Nat} {lo : List (Option Value)} {st : List Value} {C : List xCel} {rg : xRG} {uc us : Nat}
theorem z_new2 (hE : xEnv p l e R s m args below meth c D cA ad fm A n0 mi) {idx : Nat} (hdg : decode mi.2.1 pc = .ok (.multianewarray idx 2, 4)) (h : xGood (xRn p l e R s m args below meth c D cA ad ρ fm A mi.2.2.2.2.1 n0 mi.2.2.2.2.2.2.2.1 mi.2.2.2.2.2.2.2.2.1 Q) L (xnew2 pc lo st C rg uc us mi.2.2.2.2.2.2.2.1 mi.2.2.2.2.2.2.2.2.1 mi.2.2.1 idx)) : xRn p l e R s m args below meth c D cA ad ρ fm A mi.2.2.2.2.1 n0 mi.2.2.2.2.2.2.2.1 mi.2.2.2.2.2.2.2.2.1 Q (pc, lo, st, C, rg, uc, us) := by
  obtain ⟨hx, hb, hml, hown, hts, hK, hX, hret, hlk, hin, hroom, hrc, hrs, hF, hA, hAx, had⟩ := hE
  unfold xnew2 at h
  split at h
  · next k n r =>
    split at h
    · next ci hci =>
      split at h
      · next hq =>
        obtain ⟨rfl, q0, q1, q2, q3, q4, q5, q6⟩ := hq
        rw [xfN_eq, xfN_eq] at h
        have hcl : Cond.classLink (xcn mi.2.2.1) idx "[[I" ∈ wsL_law := by
          rcases xkl_ok hci with ⟨-, hc⟩ | ⟨q, hq, -⟩
          · exact hc
          · simp [vwCl] at hq
        intro H locs ls hR hL hP hD hS hn
        have hn' : C.length = n0 + uc := hn.1
        refine xW_sz fun hsz => ?_
        have hsize := x_size had hn' hn.2.2.2 hP hS hsz
        intro T hT X
        have hnn : ¬ n < 0 := by rw [Int32.lt_iff_toInt_lt]; simp; omega
        have hkn : ¬ k < 0 := by rw [Int32.lt_iff_toInt_lt]; simp; omega
        obtain ⟨vm₁, c1, comp, -, fA, fC, hO, -, X', step⟩ := X.multianewarray2F hx hown (hts _ hcl) (show (Cond.arrayOver (.array .int)).before args s = true from hX.2.2.2.2.1.2.2) (hts _ xo9) (g := F0 m pc ls (.int k :: .int n :: r.map (xv ad ρ fm))) rfl (by rw [hb]; exact hdg) rfl hnn hkn (by rw [xtn]; omega) (by rw [xtn]; show _ * 4 ≤ _; omega) (by rw [xtn]; omega) rfl rfl (by show uc + (1 + n.toInt.toNat) ≤ R.cells; rw [hrc]; omega) (by show us + (n.toInt.toNat + n.toInt.toNat * k.toInt.toNat) ≤ R.slots; rw [hrs]; omega)
        rw [xtn, xtn] at X' step
        generalize hN : n.toInt.toNat = N at *
        generalize hKk : k.toInt.toNat = K at *
        generalize hFill : Jvm.Free.Multi.fill (T.setVm vm₁) c1 comp N K (defaultValue .int) N = F at X' step
        have hTh : (T.setVm vm₁).heap = H := hT
        obtain ⟨f1, f2, -, -⟩ := Jvm.Free.Multi.fill_facts (T.setVm vm₁) c1 comp N K (defaultValue .int) N
        rw [hFill, hTh] at f1 f2
        have hold : ∀ x : Nat, x < H.size → F.heap[x]? = H[x]? := fun x hx => by
          have := Jvm.Free.Multi.fill_old (T.setVm vm₁) c1 comp N K (defaultValue .int) (a := x) (by rw [hTh]; exact hx) N
          rw [hFill, hTh] at this
          exact this
        have hrow : ∀ j : Nat, j < N → F.heap[H.size + 1 + j]? = some (Jvm.Free.Multi.innerC comp K (defaultValue .int)) := fun j hj => by
          have := Jvm.Free.Multi.fill_inner (T.setVm vm₁) c1 comp N K (defaultValue .int) N j hj
          rw [hFill, hTh] at this
          exact this
        have ec1 : c1 = cA 104 := by
          have h9 := (hK.2 4 (cA 104, .array .int) rfl).2
          exact Option.some.inj (fA.symm.trans h9)
        have ec2 : comp = cA 100 := by
          have h9 := (hK.2 0 (cA 100, .int) rfl).2
          exact Option.some.inj (fC.symm.trans h9)
        subst ec1
        subst ec2
        have hadC : ∀ i, i ≤ N → ad (C.length + i) = H.size + i := fun i hi => by
          rw [had (C.length + i) (by omega) (by omega), hsize]; omega
        have hnew : ∀ (i : Nat) (q : xCel), (C ++ ((104, (List.range N).map fun i => Value.ref (C.length + 1 + i)) :: List.replicate N (100, List.replicate K (.int 0))))[i]? = some q → (i < C.length ∧ C[i]? = some q) ∨ (i = C.length ∧ q = (104, (List.range N).map fun i => Value.ref (C.length + 1 + i))) ∨ ∃ j, j < N ∧ i = C.length + (1 + j) ∧ q = (100, List.replicate K (.int 0)) := by
          intro i q hq
          by_cases hi : i < C.length
          · rw [List.getElem?_append_left hi] at hq
            exact Or.inl ⟨hi, hq⟩
          · rw [List.getElem?_append_right (by omega)] at hq
            cases hd : i - C.length with
            | zero =>
              rw [hd, List.getElem?_cons_zero] at hq
              exact Or.inr (Or.inl ⟨by omega, (Option.some.inj hq).symm⟩)
            | succ j =>
              rw [hd, List.getElem?_cons_succ, List.getElem?_replicate] at hq
              split at hq
              · next hj => exact Or.inr (Or.inr ⟨j, hj, by omega, (Option.some.inj hq).symm⟩)
              · cases hq
        have hP1 : va_P D vwCl (xenc cA (xv ad ρ fm) ad (C ++ ((104, (List.range N).map fun i => Value.ref (C.length + 1 + i)) :: List.replicate N (100, List.replicate K (.int 0))))) F.heap := by
          intro i z hz
          obtain ⟨q, hq, rfl⟩ := xenc_of hz
          rcases hnew i q hq with ⟨hi, hq2⟩ | ⟨rfl, rfl⟩ | ⟨j, hj, rfl, rfl⟩
          · have hg := hP i _ (xenc_get hq2)
            exact hg.kept (hold _ hg.lt)
          · rw [xencC_q (by decide)]
            show F.heap[ad C.length]? = some (vp_cell _ _)
            have h0 := hadC 0 (Nat.zero_le _)
            rw [Nat.add_zero, Nat.add_zero] at h0
            rw [h0, f2, vp_cell_q]
            rw [xouter]
            refine congrArg some (Eq.trans (xarrV_eq (fun j hj => ?_)) (congrArg (fun z => arrV (cA 104) z _) (show N = ((List.range N).map fun i => Value.ref (C.length + 1 + i)).length by simp)))
            rw [if_pos hj]
            have e1 : ((List.range N).map fun i => Value.ref (C.length + 1 + i)).getD j .null = .ref (C.length + 1 + j) := by
              rw [List.getD_eq_getElem?_getD, List.getElem?_map, List.getElem?_range hj]; rfl
            rw [e1]
            show Value.ref (H.size + 1 + j) = .ref (ad (C.length + 1 + j))
            rw [Nat.add_assoc C.length 1 j, hadC (1 + j) (by omega), Nat.add_assoc]
          · rw [xencC_i (by decide) (by decide)]
            show F.heap[ad (C.length + (1 + j))]? = some (vp_cell _ _)
            rw [hadC (1 + j) (by omega), ← Nat.add_assoc, hrow j hj, vp_cell_i]
            have e0 : Jvm.Free.Multi.innerC (cA 100) K (defaultValue .int) = arrV (cA 100) K (fun _ => defaultValue .int) := by
              unfold Jvm.Free.Multi.innerC
              rw [arrV_new]
            rw [e0]
            refine congrArg some (Eq.trans (xarrV_eq (fun i hi => ?_)) (congrArg (fun z => arrV (cA 100) z _) (show K = (List.replicate K (Value.int 0)).length by simp)))
            have e1 : (List.replicate K (Value.int 0)).getD i .null = .int 0 := by
              rw [List.getD_eq_getElem?_getD, List.getElem?_replicate, if_pos hi]; rfl
            rw [e1]
            rfl
        have hD1 : va_D A (xenc cA (xv ad ρ fm) ad (C ++ ((104, (List.range N).map fun i => Value.ref (C.length + 1 + i)) :: List.replicate N (100, List.replicate K (.int 0))))) := by
          have hcl2 : ∀ (i : Nat) (q : xCel), (C ++ ((104, (List.range N).map fun i => Value.ref (C.length + 1 + i)) :: List.replicate N (100, List.replicate K (.int 0))))[i]? = some q → (i < C.length ∧ C[i]? = some q ∧ ad i < H.size) ∨ (C.length ≤ i ∧ ad i = H.size + (i - C.length)) := by
            intro i q hq
            rcases hnew i q hq with ⟨hi, hq2⟩ | ⟨rfl, -⟩ | ⟨j, hj, rfl, -⟩
            · exact Or.inl ⟨hi, hq2, (hP i _ (xenc_get hq2)).lt⟩
            · refine Or.inr ⟨Nat.le_refl _, ?_⟩
              have h0 := hadC 0 (Nat.zero_le _)
              rw [Nat.add_zero, Nat.add_zero] at h0
              rw [h0, Nat.sub_self, Nat.add_zero]
            · refine Or.inr ⟨by omega, ?_⟩
              rw [hadC (1 + j) (by omega)]
              omega
          refine ⟨fun i j x y hi hj hxy => ?_, fun i x hi => ?_⟩
          · obtain ⟨q1, g1, rfl⟩ := xenc_of hi
            obtain ⟨q2, g2, rfl⟩ := xenc_of hj
            have hxy' : ad i = ad j := hxy
            rcases hcl2 i q1 g1 with ⟨a1, a2, a3⟩ | ⟨a1, a2⟩ <;> rcases hcl2 j q2 g2 with ⟨b1, b2, b3⟩ | ⟨b1, b2⟩
            · exact hD.1 i j _ _ (xenc_get a2) (xenc_get b2) hxy'
            · omega
            · omega
            · omega
          · obtain ⟨q1, g1, rfl⟩ := xenc_of hi
            rcases hcl2 i q1 g1 with ⟨a1, a2, a3⟩ | ⟨a1, a2⟩
            · exact hD.2 i _ (xenc_get a2)
            · have hS1 := hS.1
              exact hA _ (by show _ ≤ ad i; omega)
        have hS1 : va_S A s.heap F.heap locs := ⟨by rw [f1]; have := hS.1; omega, fun x h1 h2 => (hold x (Nat.lt_of_lt_of_le h1 hS.1)).trans (hS.2.1 x h1 h2), hS.2.2⟩
        have hlen : (C ++ ((104, (List.range N).map fun i => Value.ref (C.length + 1 + i)) :: List.replicate N (100, List.replicate K (.int 0)))).length = n0 + (uc + 1 + N) := by
          rw [List.length_append, List.length_cons, List.length_replicate]; omega
        obtain ⟨t, a1, b1⟩ := h F.heap locs ls hR hL hP1 hD1 hS1 ⟨hlen, q4, q5, by show n0 + (uc + 1 + N) ≤ xB; omega⟩ F rfl X'
        refine ⟨t, step t ?_, b1⟩
        have h0 := hadC 0 (Nat.zero_le _)
        rw [Nat.add_zero, Nat.add_zero] at h0
        have e9 : T.heap.size = ad C.length := by rw [hT]; exact h0.symm
        rw [e9]
        exact a1
      · exact absurd h id
    · exact absurd h id
  · exact absurd h id
end XNEW2
end

section
/-! a step, a run, a method -/
section XRUN
variable {p : Program} {l : Launch} {e : Env} {R : Room} {s : State} {m : MethodId} {args : Array Value} {below : List Frame} {meth : Method} {c : Code} {D : va_G} {cA : Nat → ClassId} {ad : Nat → Nat} {ρ : Nat → Int32} {fm : Value} {A : Nat → Prop} {n0 : Nat} {mi : xMI} {LF : List xLf}
variable {pc : Nat} {lo : List (Option Value)} {st : List Value} {C : List xCel} {rg : xRG} {uc us : Nat}
theorem z_end (hE : xEnv p l e R s m args below meth c D cA ad fm A n0 mi) {v : Option Value} {st' : Value} (hA : ∀ q, A q → A q) {H : Heap} {locs : List Loc} (hR : xokR ρ rg) (hP : va_P D vwCl (xenc cA (xv ad ρ fm) ad C) H) (hD : va_D A (xenc cA (xv ad ρ fm) ad C)) (hS : va_S A s.heap H locs) (hn : C.length = n0 + mi.2.2.2.2.2.2.2.1 ∧ n0 + mi.2.2.2.2.2.2.2.1 ≤ xB) (hm : (v, C, rg) ∈ LF) (t : State) (ht : t.heap = H) (hW : s.WarmedH t.vm) : xQc D cA ad ρ fm A (n0 + mi.2.2.2.2.2.2.2.1) LF args s (.returned (v.map (xv ad ρ fm))) t :=
  ⟨⟨(v, C, rg), hm, hR, rfl, by rw [ht]; exact hP, va_K.moved hW.alike hE.2.2.2.2.2.1, hD, hn.1, hn.2⟩, hS.F ht⟩
theorem z_iret (hE : xEnv p l e R s m args below meth c D cA ad fm A n0 mi) (h2 : ¬ mi.2.2.2.2.2.1 = 2) (hdg : decode mi.2.1 pc = .ok (.ireturn, 1)) (h : xGood (xRn p l e R s m args below meth c D cA ad ρ fm A mi.2.2.2.2.1 n0 mi.2.2.2.2.2.2.2.1 mi.2.2.2.2.2.2.2.2.1 (MQ below (xQc D cA ad ρ fm A (n0 + mi.2.2.2.2.2.2.2.1) LF) args s mi.2.2.2.2.2.2.2.1 mi.2.2.2.2.2.2.2.2.1 A)) (fun lf => lf ∈ LF) (xret st C rg uc us mi.2.2.2.2.2.2.2.1 mi.2.2.2.2.2.2.2.2.1 mi.2.2.2.2.2.1)) : xRn p l e R s m args below meth c D cA ad ρ fm A mi.2.2.2.2.1 n0 mi.2.2.2.2.2.2.2.1 mi.2.2.2.2.2.2.2.2.1 (MQ below (xQc D cA ad ρ fm A (n0 + mi.2.2.2.2.2.2.2.1) LF) args s mi.2.2.2.2.2.2.2.1 mi.2.2.2.2.2.2.2.2.1 A) (pc, lo, st, C, rg, uc, us) := by
  have hE2 := hE
  obtain ⟨hx, hb, hml, hown, hts, hK, hX, hret, hlk, -⟩ := hE2
  unfold xret at h
  split at h
  · next v =>
    split at h
    · next hq =>
      obtain ⟨q1, q2, q3⟩ := hq
      intro H locs ls hR hL hP hD hS hn
      have hn1 : C.length = n0 + uc := hn.1
      have hn4 : n0 + uc ≤ xB := hn.2.2.2
      refine W.widen (k := mi.2.2.2.2.2.2.2.1) (n := mi.2.2.2.2.2.2.2.2.1) (by show uc ≤ _; omega) q2 ?_
      have hq : ∀ t : State, t.heap = H → s.WarmedH t.vm → xQc D cA ad ρ fm A (n0 + mi.2.2.2.2.2.2.2.1) LF args s (.returned (some (xv ad ρ fm v))) t := z_end (C := C) (rg := rg) hE (v := some v) (st' := v) (fun _ z => z) hR hP hD hS ⟨by omega, by omega⟩ h
      cases hrk : mi.2.2.2.2.2.1 with
      | zero => rw [hrk] at q3; cases q3
      | succ k =>
        rw [hrk] at q3 hret
        match k, q3, hret with
        | 0, q3, hret =>
          obtain ⟨x, ex⟩ := xv_I (ad := ad) (ρ := ρ) (fm := fm) (show xisI v = true from q3)
          simp only [List.map_cons, List.map_nil, ex] at hq ⊢
          exact W.iret hx hb hret hq hS.2.2 hdg hlk
        | 1, q3, hret => exact absurd (by rw [hrk]) h2
        | 2, q3, hret =>
          unfold xrfit at q3
          split at q3
          · next heq => simp at heq
          · next heq => simp at heq
          · split at q3
            · next x hxx =>
              rw [Bool.or_eq_true, beq_iff_eq, beq_iff_eq] at q3
              have hnar : narrow .boolean (.int x) = .int x := by rcases q3 with rfl | rfl <;> rfl
              exact W.zret hx hb hret hnar hq hS.2.2 hdg hlk
            · cases q3
          · next heq => simp at heq
          · next heq => simp at heq
          · next h1 h2 h3 h4 h5 => exact absurd rfl h3
        | 3, q3, hret =>
          unfold xrfit at q3
          split at q3
          · next heq => simp at heq
          · next heq => simp at heq
          · next heq => simp at heq
          · split at q3
            · next x hxx =>
              rw [beq_iff_eq] at q3
              have hnar : narrow .byte (.int x) = .int x := by
                show Value.int _ = _
                rw [q3]
              exact W.zret hx hb hret hnar hq hS.2.2 hdg hlk
            · cases q3
          · next heq => simp at heq
          · next h1 h2 h3 h4 h5 => exact absurd rfl h4
        | 4, q3, hret =>
          unfold xrfit at q3
          split at q3
          · next heq => simp at heq
          · next heq => simp at heq
          · next heq => simp at heq
          · next heq => simp at heq
          · split at q3
            · next x hxx =>
              exact W.zret hx hb hret (of_decide_eq_true q3) hq hS.2.2 hdg hlk
            · cases q3
          · next h1 h2 h3 h4 h5 => exact absurd rfl h5
        | k + 5, q3, hret =>
          unfold xrfit at q3
          split at q3
          · next heq => simp at heq
          · next heq => simp at heq
          · next heq => simp at heq
          · next heq => simp at heq
          · next heq => simp at heq
          · cases q3
    · exact absurd h id
  · exact absurd h id
theorem z_lret (hE : xEnv p l e R s m args below meth c D cA ad fm A n0 mi) (h2 : mi.2.2.2.2.2.1 = 2) (hdg : decode mi.2.1 pc = .ok (.lreturn, 1)) (h : xGood (xRn p l e R s m args below meth c D cA ad ρ fm A mi.2.2.2.2.1 n0 mi.2.2.2.2.2.2.2.1 mi.2.2.2.2.2.2.2.2.1 (MQ below (xQc D cA ad ρ fm A (n0 + mi.2.2.2.2.2.2.2.1) LF) args s mi.2.2.2.2.2.2.2.1 mi.2.2.2.2.2.2.2.2.1 A)) (fun lf => lf ∈ LF) (xret st C rg uc us mi.2.2.2.2.2.2.2.1 mi.2.2.2.2.2.2.2.2.1 mi.2.2.2.2.2.1)) : xRn p l e R s m args below meth c D cA ad ρ fm A mi.2.2.2.2.1 n0 mi.2.2.2.2.2.2.2.1 mi.2.2.2.2.2.2.2.2.1 (MQ below (xQc D cA ad ρ fm A (n0 + mi.2.2.2.2.2.2.2.1) LF) args s mi.2.2.2.2.2.2.2.1 mi.2.2.2.2.2.2.2.2.1 A) (pc, lo, st, C, rg, uc, us) := by
  have hE2 := hE
  obtain ⟨hx, hb, hml, hown, hts, hK, hX, hret, hlk, -⟩ := hE2
  unfold xret at h
  split at h
  · next v =>
    split at h
    · next hq =>
      obtain ⟨q1, q2, q3⟩ := hq
      rw [h2] at q3 hret
      intro H locs ls hR hL hP hD hS hn
      have hn1 : C.length = n0 + uc := hn.1
      have hn4 : n0 + uc ≤ xB := hn.2.2.2
      refine W.widen (k := mi.2.2.2.2.2.2.2.1) (n := mi.2.2.2.2.2.2.2.2.1) (by show uc ≤ _; omega) q2 ?_
      have hq : ∀ t : State, t.heap = H → s.WarmedH t.vm → xQc D cA ad ρ fm A (n0 + mi.2.2.2.2.2.2.2.1) LF args s (.returned (some (xv ad ρ fm v))) t := z_end (C := C) (rg := rg) hE (v := some v) (st' := v) (fun _ z => z) hR hP hD hS ⟨by omega, by omega⟩ h
      obtain ⟨x, ex⟩ := xv_L (ad := ad) (ρ := ρ) (fm := fm) (show xisL v = true from q3)
      simp only [List.map_cons, List.map_nil, ex] at hq ⊢
      exact W.lret hx hb hret hq hS.2.2 hdg hlk
    · exact absurd h id
  · exact absurd h id
theorem z_vret (hE : xEnv p l e R s m args below meth c D cA ad fm A n0 mi) (h0 : mi.2.2.2.2.2.1 = 0) (huc : uc = mi.2.2.2.2.2.2.2.1) (hus : us ≤ mi.2.2.2.2.2.2.2.2.1) (hdg : decode mi.2.1 pc = .ok (.return_, 1)) (h : (none, C, rg) ∈ LF) : xRn p l e R s m args below meth c D cA ad ρ fm A mi.2.2.2.2.1 n0 mi.2.2.2.2.2.2.2.1 mi.2.2.2.2.2.2.2.2.1 (MQ below (xQc D cA ad ρ fm A (n0 + mi.2.2.2.2.2.2.2.1) LF) args s mi.2.2.2.2.2.2.2.1 mi.2.2.2.2.2.2.2.2.1 A) (pc, lo, [], C, rg, uc, us) := by
  have hE2 := hE
  obtain ⟨hx, hb, hml, hown, hts, hK, hX, hret, hlk, -⟩ := hE2
  rw [h0] at hret
  intro H locs ls hR hL hP hD hS hn
  have hn1 : C.length = n0 + uc := hn.1
  have hn4 : n0 + uc ≤ xB := hn.2.2.2
  refine W.widen (k := mi.2.2.2.2.2.2.2.1) (n := mi.2.2.2.2.2.2.2.2.1) (by show uc ≤ _; omega) hus ?_
  have hq : ∀ t : State, t.heap = H → s.WarmedH t.vm → xQc D cA ad ρ fm A (n0 + mi.2.2.2.2.2.2.2.1) LF args s (.returned none) t := z_end (C := C) (rg := rg) hE (v := none) (st' := .null) (fun _ z => z) hR hP hD hS ⟨by omega, by omega⟩ h
  exact W.vret hx hb hret hq hS.2.2 hdg hlk
end XRUN
end

section
/-! the engine's run is the machine's -/
noncomputable def xkdB : Bool := xmiL.all fun l => l.all fun mi => decide (mi.1.name = "<init>") == false || mi.2.2.2.2.2.2.1 == 2
set_option maxRecDepth 100000 in
theorem xkdB_ok : xkdB = true := by decide +kernel
theorem xkd_all (j : Nat) (mi' : xMI) (hj : xmi j = some mi') (hn : mi'.1.name = "<init>") : mi'.2.2.2.2.2.2.1 = 2 := by
  unfold xmi at hj
  rw [xnth_eq] at hj
  cases hl : xmiL[j / 16]? with
  | none => rw [hl] at hj; cases hj
  | some l =>
    rw [hl] at hj
    simp only [xnth_eq] at hj
    have h1 := List.all_eq_true.mp (List.all_eq_true.mp xkdB_ok l (List.mem_of_getElem? hl)) mi' (List.mem_of_getElem? hj)
    simpa [hn] using h1
theorem xnest_kd {own idx j : Nat} {mi' : xMI} (hj : xmi j = some mi') (h : (own, idx, mi'.1) ∈ xNest) : mi'.2.2.2.2.2.2.1 = 2 := by
  have hok := xmi_ok hj
  have hname : mi'.1.name = "<init>" := by
    simp only [xNest, List.mem_cons, List.not_mem_nil, or_false, Prod.mk.injEq] at h
    rcases h with ⟨-, -, h⟩ | ⟨-, -, h⟩ | ⟨-, -, h⟩ <;> rw [h] <;> rfl
  exact xkd_all j mi' hj hname
theorem xml_0 {own idx : Nat} (h : xml own idx = some 0) : Cond.methodLink (xcn own) idx objectInit ∈ wsL_law := by
  rcases xml_ok h with ⟨-, z⟩ | ⟨z, -⟩ | ⟨z, -⟩ | ⟨z, -⟩ | ⟨z, -⟩ | ⟨z, -⟩
  · exact z
  · exact absurd z (show ¬ (0 : Nat) = 1 by decide)
  · exact absurd z (show ¬ (0 : Nat) = 2 by decide)
  · exact absurd z (show ¬ (0 : Nat) = 3 by decide)
  · exact absurd z (show ¬ (0 : Nat) = 4 by decide)
  · exact absurd z (show ¬ 10 ≤ (0 : Nat) by decide)
theorem xml_1 {own idx : Nat} (h : xml own idx = some 1) : Cond.methodLink (xcn own) idx arraycopyName ∈ wsL_law := by
  rcases xml_ok h with ⟨z, -⟩ | ⟨-, z⟩ | ⟨z, -⟩ | ⟨z, -⟩ | ⟨z, -⟩ | ⟨z, -⟩
  · exact absurd z (show ¬ (1 : Nat) = 0 by decide)
  · exact z
  · exact absurd z (show ¬ (1 : Nat) = 2 by decide)
  · exact absurd z (show ¬ (1 : Nat) = 3 by decide)
  · exact absurd z (show ¬ (1 : Nat) = 4 by decide)
  · exact absurd z (show ¬ 10 ≤ (1 : Nat) by decide)
theorem xml_2 {own idx : Nat} (h : xml own idx = some 2) : Cond.methodLink (xcn own) idx Lib.Math.max.name ∈ wsL_law := by
  rcases xml_ok h with ⟨z, -⟩ | ⟨z, -⟩ | ⟨-, z⟩ | ⟨z, -⟩ | ⟨z, -⟩ | ⟨z, -⟩
  · exact absurd z (show ¬ (2 : Nat) = 0 by decide)
  · exact absurd z (show ¬ (2 : Nat) = 1 by decide)
  · exact z
  · exact absurd z (show ¬ (2 : Nat) = 3 by decide)
  · exact absurd z (show ¬ (2 : Nat) = 4 by decide)
  · exact absurd z (show ¬ 10 ≤ (2 : Nat) by decide)
theorem xml_3 {own idx : Nat} (h : xml own idx = some 3) : Cond.methodLink (xcn own) idx Lib.Math.min.name ∈ wsL_law := by
  rcases xml_ok h with ⟨z, -⟩ | ⟨z, -⟩ | ⟨z, -⟩ | ⟨-, z⟩ | ⟨z, -⟩ | ⟨z, -⟩
  · exact absurd z (show ¬ (3 : Nat) = 0 by decide)
  · exact absurd z (show ¬ (3 : Nat) = 1 by decide)
  · exact absurd z (show ¬ (3 : Nat) = 2 by decide)
  · exact z
  · exact absurd z (show ¬ (3 : Nat) = 4 by decide)
  · exact absurd z (show ¬ 10 ≤ (3 : Nat) by decide)
theorem xml_4 {own idx : Nat} (h : xml own idx = some 4) : Cond.methodLink (xcn own) idx Lib.Math.abs.name ∈ wsL_law := by
  rcases xml_ok h with ⟨z, -⟩ | ⟨z, -⟩ | ⟨z, -⟩ | ⟨z, -⟩ | ⟨-, z⟩ | ⟨z, -⟩
  · exact absurd z (show ¬ (4 : Nat) = 0 by decide)
  · exact absurd z (show ¬ (4 : Nat) = 1 by decide)
  · exact absurd z (show ¬ (4 : Nat) = 2 by decide)
  · exact absurd z (show ¬ (4 : Nat) = 3 by decide)
  · exact z
  · exact absurd z (show ¬ 10 ≤ (4 : Nat) by decide)
theorem xml_5 {own idx j : Nat} (h : xml own idx = some j) (h0 : j ≠ 0) (h1 : j ≠ 1) (h2 : j ≠ 2) (h3 : j ≠ 3) (h4 : j ≠ 4) : ∃ nm, (xmi (j - 10)).map (fun mi => mi.1) = some nm ∧ (Cond.methodLink (xcn own) idx nm ∈ wsL_law ∨ (own, idx, nm) ∈ xNest) := by
  rcases xml_ok h with ⟨z, -⟩ | ⟨z, -⟩ | ⟨z, -⟩ | ⟨z, -⟩ | ⟨z, -⟩ | ⟨-, z⟩
  · exact absurd z h0
  · exact absurd z h1
  · exact absurd z h2
  · exact absurd z h3
  · exact absurd z h4
  · exact z
section XEXEC
variable {p : Program} {l : Launch} {e : Env} {R : Room} {s : State} {m : MethodId} {args : Array Value} {below : List Frame} {meth : Method} {c : Code} {D : va_G} {cA : Nat → ClassId} {ad : Nat → Nat} {ρ : Nat → Int32} {fm : Value} {A : Nat → Prop} {n0 : Nat} {mi : xMI} {LF : List xLf}
variable {pc : Nat} {lo : List (Option Value)} {st : List Value} {C : List xCel} {rg : xRG} {uc us : Nat}
theorem z_lnk {own : Nat} (hts : ∀ w ∈ wsL_law, w.before args s = true) (hX : xExt ad fm A s s.heap) {idx j kd : Nat} (hm : xml own idx = some j) (h0 : j ≠ 0) (h1 : j ≠ 1) (h2 : j ≠ 2) (h3 : j ≠ 3) (h4 : j ≠ 4) {mi' : xMI} (hj : xmi (j - 10) = some mi') (hkd : mi'.2.2.2.2.2.2.1 = kd) : (Cond.methodLink (xcn own) idx mi'.1).before args s = true ∨ (kd = 2 ∧ va_Nw (.methodLinkNest (xcn own) idx mi'.1 "StreetTillTen") s) := by
  obtain ⟨nm, hnm, hl⟩ := xml_5 hm h0 h1 h2 h3 h4
  rw [hj] at hnm
  have e1 : mi'.1 = nm := Option.some.inj hnm
  rw [← e1] at hl
  rcases hl with hl | hl
  · exact Or.inl (hts _ hl)
  · have h9 := hX.2.2.2.2.2 (own, idx, mi'.1) hl
    exact Or.inr ⟨by rw [← hkd]; exact xnest_kd hj hl, h9⟩
theorem z_spec (hE : xEnv p l e R s m args below meth c D cA ad fm A n0 mi) {d : Nat} (hR : R.frames = d + 1 ∧ R.locals = 40 * (d + 1)) {call : Nat → List Value → List xCel → xRG → Option (List xLf)} (hcall : ∀ (j : Nat) (mi' : xMI) (as : List Value) (C : List xCel) (rg : xRG) (LF : List xLf), xmi j = some mi' → call j as C rg = some LF → xCt d mi' as C rg LF) {kd idx : Nat} (hdg : (kd = 0 ∧ decode mi.2.1 pc = .ok (.invokestatic idx, 3)) ∨ (kd = 1 ∧ decode mi.2.1 pc = .ok (.invokevirtual idx, 3)) ∨ (kd = 2 ∧ decode mi.2.1 pc = .ok (.invokespecial idx, 3))) (h : xGood (xRn p l e R s m args below meth c D cA ad ρ fm A mi.2.2.2.2.1 n0 mi.2.2.2.2.2.2.2.1 mi.2.2.2.2.2.2.2.2.1 (MQ below (xQc D cA ad ρ fm A (n0 + mi.2.2.2.2.2.2.2.1) LF) args s mi.2.2.2.2.2.2.2.1 mi.2.2.2.2.2.2.2.2.1 A)) (fun lf => lf ∈ LF) (xspec pc lo st C rg uc us kd mi.2.2.1 idx (xcall pc lo st C rg uc us call mi.2.2.2.2.2.2.2.1 mi.2.2.2.2.2.2.2.2.1 kd))) : xRn p l e R s m args below meth c D cA ad ρ fm A mi.2.2.2.2.1 n0 mi.2.2.2.2.2.2.2.1 mi.2.2.2.2.2.2.2.2.1 (MQ below (xQc D cA ad ρ fm A (n0 + mi.2.2.2.2.2.2.2.1) LF) args s mi.2.2.2.2.2.2.2.1 mi.2.2.2.2.2.2.2.2.1 A) (pc, lo, st, C, rg, uc, us) := by
  have hE2 := hE
  obtain ⟨hx, hb, hml, hown, hts, hK, hX, hret, hlk, hin, hroom, hrc, hrs, hF, hA, hAx, had⟩ := hE2
  unfold xspec at h
  split at h
  · next hm =>
    split at h
    · next a r =>
      split at h
      · next hq =>
        obtain ⟨rfl, hr4⟩ := hq
        have hl := xml_0 hm
        have hdg2 : decode mi.2.1 pc = .ok (.invokespecial idx, 3) := by
          rcases hdg with ⟨z, -⟩ | ⟨z, -⟩ | ⟨-, z⟩
          · omega
          · omega
          · exact z
        intro H locs ls hR' hL hP hD hS hn
        have hsum : ((r.map (xv ad ρ fm)).map fun v => v.category).sum ≤ 8 := xcat_sum hF r hr4
        exact W.objInit hx hb hown (hts _ hl) (hts _ xo0) (hts _ xo1) rfl (by rw [hml]; exact hL.1) rfl hdg2 hroom.1 (by show 2 * 0 + _ + 12 ≤ _; have := hroom.2; omega) (h H locs ls hR' hL hP hD hS hn)
      · exact absurd h id
    · exact absurd h id
  · next hm =>
    split at h
    · next hq =>
      subst hq
      have hl := xml_1 hm
      have hdg2 : decode mi.2.1 pc = .ok (.invokestatic idx, 3) := by
        rcases hdg with ⟨-, z⟩ | ⟨z, -⟩ | ⟨z, -⟩
        · exact z
        · omega
        · omega
      exact z_copy hE hl hdg2 h
    · exact absurd h id
  · next hm =>
    split at h
    · next hq =>
      subst hq
      have hl := xml_2 hm
      have hdg2 : decode mi.2.1 pc = .ok (.invokestatic idx, 3) := by
        rcases hdg with ⟨-, z⟩ | ⟨z, -⟩ | ⟨z, -⟩
        · exact z
        · omega
        · omega
      exact z_max hE hl hdg2 h
    · exact absurd h id
  · next hm =>
    split at h
    · next hq =>
      subst hq
      have hl := xml_3 hm
      have hdg2 : decode mi.2.1 pc = .ok (.invokestatic idx, 3) := by
        rcases hdg with ⟨-, z⟩ | ⟨z, -⟩ | ⟨z, -⟩
        · exact z
        · omega
        · omega
      exact z_min hE hl hdg2 h
    · exact absurd h id
  · next hm =>
    split at h
    · next hq =>
      subst hq
      have hl := xml_4 hm
      have hdg2 : decode mi.2.1 pc = .ok (.invokestatic idx, 3) := by
        rcases hdg with ⟨-, z⟩ | ⟨z, -⟩ | ⟨z, -⟩
        · exact z
        · omega
        · omega
      exact z_abs hE hl hdg2 h
    · exact absurd h id
  · next j n0' n1' n2' n3' n4' hm =>
    refine z_call hE hR hcall (j := j - 10) (idx := idx) (kd := kd) (fun mi' hj hkd => ?_) hdg h
    exact z_lnk hts hX hm n0' n1' n2' n3' n4' hj hkd
  · exact absurd h id
end XEXEC
end
