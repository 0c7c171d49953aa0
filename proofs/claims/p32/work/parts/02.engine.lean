/-! THE ENGINE: what the bytecode does to a list of cells, as a function. A value is the machine's own; .ref k is the k-th cell (from xB on one of those outside), .retAddr j a number that is not known but for its range (j = 32 * what is added + 2 * which + (1: as a long)), .float a reference that nobody asks for. -/
def xB : Nat := 1048576
abbrev xCel : Type := Nat × List Value
abbrev xRG : Type := List (Int × Int)
abbrev xFr : Type := Nat × List (Option Value) × List Value × List xCel × xRG × Nat × Nat
abbrev xLf : Type := Option Value × List xCel × xRG
abbrev xRes : Type := Option (xFr ⊕ (xLf ⊕ List xFr))
abbrev xTb : Type := List (List (Instr × Nat))
abbrev xMI : Type := MethodName × ByteArray × Nat × Nat × Nat × Nat × Nat × Nat × Nat × xTb
noncomputable section
def xnth {α : Type} (l : List α) : Nat → Option α := List.rec (motive := fun _ => Nat → Option α) (fun _ => none) (fun a _ ih n => Nat.rec (motive := fun _ => Option α) (some a) (fun k _ => ih k) n) l
theorem xnth_eq {α : Type} : ∀ (l : List α) (n : Nat), xnth l n = l[n]?
  | [], n => by rw [List.getElem?_nil]; rfl
  | a :: l, 0 => rfl
  | a :: l, n + 1 => by
    rw [List.getElem?_cons_succ, ← xnth_eq l n]; rfl
def xset {α β : Type} (l : List α) : Nat → α → (List α → β) → β := List.rec (motive := fun _ => Nat → α → (List α → β) → β) (fun _ _ K => K []) (fun a t ih n v K => Nat.rec (motive := fun _ => β) (K (v :: t)) (fun k _ => ih k v (fun l' => K (a :: l'))) n) l
theorem xset_eq {α β : Type} : ∀ (l : List α) (n : Nat) (v : α) (K : List α → β), xset l n v K = K (l.set n v)
  | [], n, v, K => rfl
  | a :: l, 0, v, K => rfl
  | a :: l, n + 1, v, K => xset_eq l n v (fun l' => K (a :: l'))
def xfN {β : Type} (n : Nat) (K : Nat → β) : β := match n with
  | 0 => K 0
  | k + 1 => K (k + 1)
theorem xfN_eq {β : Type} (n : Nat) (K : Nat → β) : xfN n K = K n := by cases n <;> rfl
def xfI {β : Type} (x : Int32) (K : Int32 → β) : β := match x.toBitVec.toNat with
  | 0 => K 0
  | n + 1 => K (Int32.ofNat (n + 1))
theorem xfI_ofNat (x : Int32) : Int32.ofNat x.toBitVec.toNat = x := by
  apply Int32.toBitVec_inj.mp
  simp
theorem xfI_eq {β : Type} (x : Int32) (K : Int32 → β) : xfI x K = K x := by
  have h := xfI_ofNat x
  unfold xfI
  split
  · next h0 => rw [h0] at h; exact congrArg K h
  · next n h0 => rw [h0] at h; exact congrArg K h
def xisI : Value → Bool
  | .int _ => true
  | .retAddr j => j % 2 == 0
  | _ => false
def xisL : Value → Bool
  | .long _ => true
  | .retAddr j => j % 2 == 1
  | _ => false
def xisR : Value → Bool
  | .ref _ => true
  | .null => true
  | .float _ => true
  | _ => false
def xc2 : Value → Bool
  | .long _ => true
  | .double _ => true
  | .retAddr j => j % 2 == 1
  | _ => false
/-- the range of an int -/
def xiv (rg : xRG) : Value → Option (Int × Int)
  | .int x => some (x.toInt, x.toInt)
  | .retAddr j => if j < 32 then (if j % 2 = 0 then xnth rg (j / 2) else none) else none
  | _ => none
/-- the range of a long -/
def xlv (rg : xRG) : Value → Option (Int × Int)
  | .long x => some (x.toInt, x.toInt)
  | .retAddr j => if j < 32 then (if j % 2 = 1 then xnth rg (j / 2) else none) else none
  | _ => none
/-- an int that is known -/
def xci (rg : xRG) : Value → Option Int32
  | .int x => some x
  | .retAddr j => if j % 2 = 0 then (match xnth rg (j % 32 / 2) with
    | some (lo, hi) => if lo = hi then some (Int32.ofInt lo + Int32.ofNat (j / 32)) else none
    | none => none) else none
  | _ => none
def xcl (rg : xRG) : Value → Option Int64
  | .long x => some x
  | .retAddr j => if j % 2 = 0 then none else (match xnth rg (j % 32 / 2) with
    | some (lo, hi) => if lo = hi then some (Int32.ofInt lo + Int32.ofNat (j / 32)).toInt64 else none
    | none => none)
  | _ => none
/-- two ranges for one: below t, and from t on -/
def xsp (rg : xRG) (v : Value) (t : Int) : Option (List xRG) := match v with
  | .retAddr j => if j < 32 then (match xnth rg (j / 2) with
    | some (lo, hi) => if lo < t then (if t ≤ hi then some [rg.set (j / 2) (lo, t - 1), rg.set (j / 2) (t, hi)] else none) else none
    | none => none) else none
  | _ => none
def xcs (rg : xRG) (v : Value) : Option (List xRG) := match v with
  | .retAddr j => (match xnth rg (j % 32 / 2) with
    | some (lo, hi) => if hi - lo ≤ 300 then xsp rg (.retAddr (j % 32)) (lo + 1) else none
    | none => none)
  | _ => none
def xelse {α : Type} (a b : Option α) : Option α := match a with
  | some x => some x
  | none => b
def xlt (a b : Int × Int) : Option Bool := if a.2 < b.1 then some true else if b.2 ≤ a.1 then some false else none
def xeq (a b : Int × Int) : Option Bool := if a.2 < b.1 then some false else if b.2 < a.1 then some false else if a.1 = a.2 then (if b.1 = b.2 then some true else none) else none
def xnot (a : Option Bool) : Option Bool := match a with
  | some b => some (!b)
  | none => none
def xcmp (c : ClassFile.Cond) (a b : Int × Int) : Option Bool := match c with
  | .lt => xlt a b
  | .ge => xnot (xlt a b)
  | .gt => xlt b a
  | .le => xnot (xlt b a)
  | .eq => xeq a b
  | .ne => xnot (xeq a b)
def xgo (pc : Nat) (lo : List (Option Value)) (st : List Value) (C : List xCel) (rg : xRG) (uc us : Nat) : xRes := some (.inl (pc, lo, st, C, rg, uc, us))
def xfork (pc : Nat) (lo : List (Option Value)) (st : List Value) (C : List xCel) (uc us : Nat) (o : Option (List xRG)) : xRes := match o with
  | none => none
  | some l => some (.inr (.inr (l.map fun rg => (pc, lo, st, C, rg, uc, us))))
def xtg (pc : Nat) (off : Int) : Option Nat := match (pc : Int) + off with
  | .ofNat n => some n
  | .negSucc _ => none
def xjump (pc : Nat) (off : Int) (lo : List (Option Value)) (st : List Value) (C : List xCel) (rg : xRG) (uc us : Nat) : xRes := match xtg pc off with
  | some t => xgo t lo st C rg uc us
  | none => none
def xfall (pc : Nat) (off : Int) (lo : List (Option Value)) (st : List Value) (C : List xCel) (rg : xRG) (uc us : Nat) : xRes := match xtg pc off with
  | some _ => xgo (pc + 3) lo st C rg uc us
  | none => none
/-- a store into the locals -/
def xst1 {β : Type} (lo : List (Option Value)) (i : Nat) (v : Value) (K : List (Option Value) → β) : β := xset lo i (some v) fun l1 => match i with
  | 0 => K l1
  | k + 1 => (match xnth l1 k with
    | some (some w) => if xc2 w then xset l1 k none K else K l1
    | _ => K l1)
def xst2 {β : Type} (lo : List (Option Value)) (i : Nat) (v : Value) (K : List (Option Value) → β) : β := xst1 lo i v fun l1 => xset l1 (i + 1) none K
section XE
variable (pc : Nat) (lo : List (Option Value)) (st : List Value) (C : List xCel) (rg : xRG) (uc us : Nat)
def xload (ok : Value → Bool) (i len : Nat) : xRes := match xnth lo i with
  | some (some v) => if ok v then xgo (pc + len) lo (v :: st) C rg uc us else none
  | _ => none
def xstore1 (ok : Value → Bool) (mx i len : Nat) : xRes := match st with
  | v :: r => if ok v then (if i < mx then xst1 lo i v fun l1 => xgo (pc + len) l1 r C rg uc us else none) else none
  | [] => none
def xstore2 (mx i len : Nat) : xRes := match st with
  | v :: r => if xisL v then (if i + 1 < mx then xst2 lo i v fun l1 => xgo (pc + len) l1 r C rg uc us else none) else none
  | [] => none
def xbin (f : Int32 → Int32 → Option Int32) : xRes := match st with
  | b :: a :: r => (match xci rg a with
    | some x => (match xci rg b with
      | some y => (match f x y with
        | some z => xfI z fun z => xgo (pc + 1) lo (.int z :: r) C rg uc us
        | none => none)
      | none => xfork pc lo st C uc us (xcs rg b))
    | none => xfork pc lo st C uc us (xcs rg a))
  | _ => none
def xadd : xRes := match st with
  | .int y :: .retAddr j :: r => (match xci rg (.retAddr j) with
    | some _ => xbin pc lo st C rg uc us (fun x y => some (x + y))
    | none => (match xcs rg (.retAddr j) with
      | some l => xfork pc lo st C uc us (some l)
      | none => if j % 2 = 0 then xgo (pc + 1) lo (.retAddr (j + 32 * y.toBitVec.toNat) :: r) C rg uc us else none))
  | _ => xbin pc lo st C rg uc us (fun x y => some (x + y))
def xun (f : Int32 → Int32) : xRes := match st with
  | a :: r => (match xci rg a with
    | some x => xfI (f x) fun z => xgo (pc + 1) lo (.int z :: r) C rg uc us
    | none => xfork pc lo st C uc us (xcs rg a))
  | _ => none
def xbinL (f : Int64 → Int64 → Option Int64) : xRes := match st with
  | b :: a :: r => (match xcl rg a with
    | some x => (match xcl rg b with
      | some y => (match f x y with
        | some z => xgo (pc + 1) lo (.long z :: r) C rg uc us
        | none => none)
      | none => none)
    | none => none)
  | _ => none
def xi2l : xRes := match st with
  | .int x :: r => xgo (pc + 1) lo (.long x.toInt64 :: r) C rg uc us
  | .retAddr j :: r => if j % 2 = 0 then xgo (pc + 1) lo (.retAddr (j + 1) :: r) C rg uc us else none
  | _ => none
def xl2i : xRes := match st with
  | .long x :: r => xgo (pc + 1) lo (.int x.toInt32 :: r) C rg uc us
  | .retAddr j :: r => if j % 2 = 1 then xgo (pc + 1) lo (.retAddr (j - 1) :: r) C rg uc us else none
  | _ => none
def xlcmp : xRes := match st with
  | b :: a :: r => (match xlv rg a with
    | some ia => (match xlv rg b with
      | some ib => if ia.2 < ib.1 then xgo (pc + 1) lo (.int (-1) :: r) C rg uc us
        else if ib.2 < ia.1 then xgo (pc + 1) lo (.int 1 :: r) C rg uc us
        else if ia.1 = ia.2 ∧ ib.1 = ib.2 then xgo (pc + 1) lo (.int 0 :: r) C rg uc us
        else xfork pc lo st C uc us (xelse (xsp rg a ib.1) (xelse (xsp rg a (ib.1 + 1)) (xelse (xsp rg b ia.1) (xsp rg b (ia.1 + 1)))))
      | none => none)
    | none => none)
  | _ => none
def xicmp (c : ClassFile.Cond) (off : Int) : xRes := match st with
  | b :: a :: r => (match xiv rg a with
    | some ia => (match xiv rg b with
      | some ib => (match xcmp c ia ib with
        | some true => xjump pc off lo r C rg uc us
        | some false => xfall pc off lo r C rg uc us
        | none => xfork pc lo st C uc us (xelse (xsp rg a ib.1) (xelse (xsp rg a (ib.1 + 1)) (xelse (xsp rg b ia.1) (xsp rg b (ia.1 + 1))))))
      | none => none)
    | none => none)
  | _ => none
def xif (c : ClassFile.Cond) (off : Int) : xRes := match st with
  | a :: r => (match xiv rg a with
    | some ia => (match xcmp c ia (0, 0) with
      | some true => xjump pc off lo r C rg uc us
      | some false => xfall pc off lo r C rg uc us
      | none => xfork pc lo st C uc us (xelse (xsp rg a 0) (xsp rg a 1)))
    | none => none)
  | _ => none
def xiinc (mx i : Nat) (n : Int) : xRes := match xnth lo i with
  | some (some v) => if i < mx then (match xci rg v with
    | some x => xfI (x + Int32.ofInt n) fun z => xst1 lo i (.int z) fun l1 => xgo (pc + 3) l1 st C rg uc us
    | none => xfork pc lo st C uc us (xcs rg v)) else none
  | _ => none
def xtable (d low hi : Int) (offs : List Int) : xRes := match st with
  | a :: r => (match xiv rg a with
    | some ia => if ia.2 < low then xjump pc d lo r C rg uc us
      else if hi < ia.1 then xjump pc d lo r C rg uc us
      else if ia.1 = ia.2 then (match xnth offs (ia.1 - low).toNat with
        | some off => xjump pc off lo r C rg uc us
        | none => none)
      else xfork pc lo st C uc us (xelse (xsp rg a low) (xelse (xsp rg a (hi + 1)) (xsp rg a (ia.1 + 1))))
    | none => none)
  | _ => none
def xlook (d : Int) (ps : List (Int × Int)) : xRes := match st with
  | a :: r => (match xci rg a with
    | some x => if (ps.zip (ps.drop 1)).all (fun (a, next) => a.1 < next.1) then xjump pc (Op.lookupswitch.offset ps d x.toInt) lo r C rg uc us else none
    | none => xfork pc lo st C uc us (xelse (xcs rg a) (match ps with
      | (t, _) :: _ => xelse (xsp rg a t) (match ps.getLast? with
        | some (u, _) => xsp rg a (u + 1)
        | none => none)
      | [] => none)))
  | _ => none
def xdup : xRes := match st with
  | a :: r => if xc2 a then none else xgo (pc + 1) lo (a :: a :: r) C rg uc us
  | _ => none
def xdup2 : xRes := match st with
  | a :: b :: r => if xc2 a then xgo (pc + 1) lo (a :: a :: b :: r) C rg uc us else if xc2 b then none else xgo (pc + 1) lo (a :: b :: a :: b :: r) C rg uc us
  | [a] => if xc2 a then xgo (pc + 1) lo [a, a] C rg uc us else none
  | _ => none
def xpop1 : xRes := match st with
  | a :: r => if xc2 a then none else xgo (pc + 1) lo r C rg uc us
  | _ => none
end XE
end
