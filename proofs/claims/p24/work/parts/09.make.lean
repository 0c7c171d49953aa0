/-! what is made; what the JDK's own do -/
theorem xW_sz {p : Program} {l : Launch} {e : Env} {R : Room} {s : State} {m : MethodId} {args : Array Value} {below : List Frame} {meth : Method} {c : Code} {H : Heap} {locs : List Loc} {cells slots : Nat} {Q : State → Prop} {g : JFrame} (h : H.size ≤ s.heap.size + cells → W p l e R s m args below meth c H locs cells slots Q g) : W p l e R s m args below meth c H locs cells slots Q g := by
  intro T hT X
  refine h ?_ T hT X
  have := X.heapSize
  rw [hT] at this
  exact this
theorem xenc_len {cA : Nat → ClassId} {V : Value → Value} {ad : Nat → Nat} {C : List xCel} : (xenc cA V ad C).length = C.length := by
  unfold xenc; rw [List.length_mapIdx]
theorem x_pin {D : va_G} {cA : Nat → ClassId} {V : Value → Value} {ad : Nat → Nat} {A : Nat → Prop} {C : List xCel} {H1 : Heap} {n0 uc sz q : Nat} {z : va_E} (hAx : ∀ q, A q → sz ≤ q ∨ ∃ k, k < n0 ∧ q = ad k) (had : ∀ k, n0 ≤ k → k < xB → ad k = sz + (k - n0)) (hn : C.length = n0 + uc) (hB : C.length < xB) (hP : va_P D vwCl (xenc cA V ad C ++ [(q, z)]) H1) (hD : va_D A (xenc cA V ad C ++ [(q, z)])) (hsz : H1.size ≤ sz + (uc + 1)) : q = ad C.length := by
  have hg : (xenc cA V ad C ++ [(q, z)])[C.length]? = some (q, z) := by
    rw [List.getElem?_append_right (by rw [xenc_len]; exact Nat.le_refl _), xenc_len, Nat.sub_self]; rfl
  have old : ∀ k, k < C.length → q ≠ ad k := by
    intro k hk e
    have hk2 : (xenc cA V ad C ++ [(q, z)])[k]? = some (ad k, xencC cA V C[k]) := by
      rw [List.getElem?_append_left (by rw [xenc_len]; exact hk)]
      exact xenc_get (List.getElem?_eq_getElem hk)
    have := hD.1 k C.length _ _ hk2 hg e.symm
    omega
  have hlt : q < H1.size := (hP C.length _ hg).lt
  rcases hAx q (hD.2 C.length _ hg) with h | ⟨k, hk, e⟩
  · by_cases hi : q = sz + uc
    · rw [had C.length (by omega) hB, hi]; omega
    · exfalso
      refine old (n0 + (q - sz)) (by omega) ?_
      rw [had (n0 + (q - sz)) (by omega) (by omega)]
      omega
  · exact absurd e (old k (by omega))
theorem xdf_V {V : Value → Value} (hI : ∀ x, V (.int x) = .int x) (hN : V .null = .null) (hL : ∀ x, V (.long x) = .long x) : ∀ {ci : Nat} {fs : List Value}, xDf[ci]? = some fs → fs.map V = fs := by
  have hb : xDf.all (fun fs => fs.all fun v => match v with
    | .int _ => true
    | .null => true
    | .long _ => true
    | _ => false) = true := by decide
  intro ci fs h
  have h1 := List.all_eq_true.mp hb fs (List.mem_of_getElem? h)
  conv => rhs; rw [← List.map_id fs]
  apply List.map_congr_left
  intro v hv
  have h2 := List.all_eq_true.mp h1 v hv
  cases v <;> simp_all
theorem xls_all : ∀ p ∈ xlsA, ∀ e ∈ p.2, ∃ q, xStr[e.2]? = some q ∧ q.1 = p.1 ∧ q.2.1 = e.1 := by
  intro p hp e he
  simp only [xlsA, List.mem_cons, List.not_mem_nil, or_false] at hp
  rcases hp with rfl | rfl
  · simp only [List.mem_cons, List.not_mem_nil, or_false] at he
    subst he
    exact ⟨_, rfl, rfl, rfl⟩
  · simp only [List.mem_cons, List.not_mem_nil, or_false] at he
    rcases he with rfl | rfl | rfl | rfl | rfl | rfl | rfl | rfl | rfl | rfl | rfl | rfl <;> exact ⟨_, rfl, rfl, rfl⟩
section XMAKE
variable {p : Program} {l : Launch} {e : Env} {R : Room} {s : State} {m : MethodId} {args : Array Value} {below : List Frame} {meth : Method} {c : Code} {D : va_G} {cA : Nat → ClassId} {ad : Nat → Nat} {ρ : Nat → Int32} {fm : Value} {A : Nat → Prop} {n0 : Nat} {mi : xMI} {Q : State → Prop} {L : xLf → Prop}
variable {pc : Nat} {lo : List (Option Value)} {st : List Value} {C : List xCel} {rg : xRG} {uc us : Nat}
theorem z_new (hE : xEnv p l e R s m args below meth c D cA ad fm A n0 mi) {idx : Nat} (hdg : decode mi.2.1 pc = .ok (.new idx, 3)) (h : xGood (xRn p l e R s m args below meth c D cA ad ρ fm A mi.2.2.2.2.1 n0 mi.2.2.2.2.2.2.2.1 mi.2.2.2.2.2.2.2.2.1 Q) L (xnew pc lo st C rg uc us mi.2.2.2.2.2.2.2.1 mi.2.2.2.2.2.2.2.2.1 mi.2.2.1 idx)) : xRn p l e R s m args below meth c D cA ad ρ fm A mi.2.2.2.2.1 n0 mi.2.2.2.2.2.2.2.1 mi.2.2.2.2.2.2.2.2.1 Q (pc, lo, st, C, rg, uc, us) := by
  obtain ⟨hx, hb, hml, hown, hts, hK, hX, hret, hlk, hin, hroom, hrc, hrs, hF, hA, hAx, had⟩ := hE
  unfold xnew at h
  split at h
  · next ci hci =>
    rw [xnth_eq] at h
    split at h
    · next fs hfs =>
      split at h
      · next hq =>
        obtain ⟨q1, q2, q3, q4⟩ := hq
        rw [xfN_eq, xfN_eq] at h
        rcases xkl_ok hci with ⟨h104, -⟩ | ⟨q, hq, hcl, hinst, hini⟩
        · simp only at h104; omega
        · obtain ⟨o1, o2, o3, o4, o5, o6, o7, o8, o9⟩ := kx_ok _ _ hq
          have e8 : xDf.getD ci [] = fs := xgetD hfs
          simp only [e8] at o8
          have eV : fs.map (xv ad ρ fm) = fs := xdf_V (fun _ => rfl) rfl (fun _ => rfl) hfs
          intro H locs ls hR hL hP hD hS hn
          refine va_new (D := D) (Ts := wsL_law) (N := q.2.2) (ci := ci) (fs := fs) hx hb hts o1 (kxT ci) o2 hown (hts _ hcl) (hts _ hinst) (hts _ hini) hK hP hD hS hA hq (fun j hj => ?_) (by rw [hrc]; exact q1) (by rw [hrs, ← o8]; exact q2) hdg (fun qa H1 hP1 hD1 hS1 => xW_sz fun hsz => ?_)
          · have := of_decide_eq_true (o7 j hj)
            simp only [e8] at this
            exact this
          · have hpin := x_pin hAx had hn.1 q3 hP1 hD1 hsz
            subst hpin
            have e2 : xenc cA (xv ad ρ fm) ad C ++ [(ad C.length, .inr (ci, fs))] = xenc cA (xv ad ρ fm) ad (C ++ [(ci, fs)]) := by
              rw [xenc_push, xencC_o q4, eV]
            rw [e2] at hP1 hD1
            rw [← o8]
            exact h H1 locs ls hR hL hP1 hD1 hS1 ⟨by rw [List.length_append, hn.1]; simp; omega, q1, q2, by have h9 : C.length = n0 + uc := hn.1; show n0 + (uc + 1) ≤ xB; omega⟩
      · exact absurd h id
    · exact absurd h id
  · exact absurd h id
theorem z_tyc {U : State} {c1 c2 : ClassId} {ty : FieldType} (h1 : va_RA U c1 ty) (h2 : va_RA U c2 ty) : c1 = c2 := by
  cases ty with
  | object N =>
    obtain ⟨-, -, -, -, -, a⟩ := h1
    obtain ⟨-, -, -, -, -, b⟩ := h2
    exact Option.some.inj (a.symm.trans b)
  | _ => exact Option.some.inj (h1.symm.trans h2)
theorem z_rep {ad : Nat → Nat} {ρ : Nat → Int32} {fm : Value} {n : Nat} : (fun j => xI (xv ad ρ fm ((List.replicate n (Value.int 0)).getD j .null))) = fun _ => 0 := by
  funext j
  rw [List.getD_eq_getElem?_getD]
  by_cases hj : j < n
  · rw [List.getElem?_replicate, if_pos hj]; rfl
  · rw [List.getElem?_replicate, if_neg hj]; rfl
theorem z_repq {ad : Nat → Nat} {ρ : Nat → Int32} {fm : Value} {n : Nat} : (fun j => xR (xv ad ρ fm ((List.replicate n Value.null).getD j .null))) = fun _ => none := by
  funext j
  rw [List.getD_eq_getElem?_getD]
  by_cases hj : j < n
  · rw [List.getElem?_replicate, if_pos hj]; rfl
  · rw [List.getElem?_replicate, if_neg hj]; rfl
theorem z_newa (hE : xEnv p l e R s m args below meth c D cA ad fm A n0 mi) {atype : ArrayType} {tag k0 : Nat} (htg : 100 ≤ tag ∧ tag < 102) (hk0 : (xtys cA)[k0]? = some (cA tag, newarray.typeOf atype)) (hdef : defaultValue (newarray.typeOf atype) = .int 0) (hby : componentBytes (newarray.typeOf atype) ≤ 4) (hw : Cond.arrayClass (newarray.typeOf atype) ∈ wsL_law) (hdg : decode mi.2.1 pc = .ok (.newarray atype, 2)) (h : xGood (xRn p l e R s m args below meth c D cA ad ρ fm A mi.2.2.2.2.1 n0 mi.2.2.2.2.2.2.2.1 mi.2.2.2.2.2.2.2.2.1 Q) L (xnewa pc lo st C rg uc us mi.2.2.2.2.2.2.2.1 mi.2.2.2.2.2.2.2.2.1 tag)) : xRn p l e R s m args below meth c D cA ad ρ fm A mi.2.2.2.2.1 n0 mi.2.2.2.2.2.2.2.1 mi.2.2.2.2.2.2.2.2.1 Q (pc, lo, st, C, rg, uc, us) := by
  obtain ⟨hx, hb, hml, hown, hts, hK, hX, hret, hlk, hin, hroom, hrc, hrs, hF, hA, hAx, had⟩ := hE
  unfold xnewa at h
  split at h
  · next n r =>
    split at h
    · next hq =>
      obtain ⟨q0, q1, q2, q3, q4⟩ := hq
      rw [xfN_eq, xfN_eq] at h
      intro H locs ls hR hL hP hD hS hn
      have hbm : n.toInt.toNat * componentBytes (newarray.typeOf atype) ≤ n.toInt.toNat * 4 := Nat.mul_le_mul_left _ hby
      refine va_newa (D := D) (N' := n.toInt.toNat) (a0 := (n.toInt.toNat, .inl (fun _ => 0))) hx hb (hts _ hw) rfl hK hP hD hS hA (fun cZ => by rw [vp_cell_i, hdef]) (by rw [Int32.lt_iff_toInt_lt]; simp; omega) rfl (by omega) (by rw [hrc]; exact q2) (by rw [hrs]; exact q3) hdg (fun qa cZ H1 hK1 hP1 hD1 hS1 => xW_sz fun hsz => ?_)
      have hpin := x_pin hAx had hn.1 q4 hP1 hD1 hsz
      subst hpin
      have ec : cZ = cA tag := z_tyc (hK1.2 5 (cZ, _) rfl).2 (hK.2 k0 _ hk0).2
      subst ec
      have e2 : xenc cA (xv ad ρ fm) ad C ++ [(ad C.length, .inl (cA tag, n.toInt.toNat, .inl (fun _ => 0)))] = xenc cA (xv ad ρ fm) ad (C ++ [(tag, List.replicate n.toInt.toNat (.int 0))]) := by
        rw [xenc_push, xencC_i htg.1 htg.2, List.length_replicate, z_rep]
      rw [e2] at hP1 hD1
      exact h H1 locs ls hR hL hP1 hD1 hS1 ⟨by rw [List.length_append, hn.1]; simp; omega, q2, q3, by have h9 : C.length = n0 + uc := hn.1; show n0 + (uc + 1) ≤ xB; omega⟩
    · exact absurd h id
  · exact absurd h id
theorem z_newq (hE : xEnv p l e R s m args below meth c D cA ad fm A n0 mi) {idx : Nat} (hdg : decode mi.2.1 pc = .ok (.anewarray idx, 3)) (h : xGood (xRn p l e R s m args below meth c D cA ad ρ fm A mi.2.2.2.2.1 n0 mi.2.2.2.2.2.2.2.1 mi.2.2.2.2.2.2.2.2.1 Q) L (xnewq pc lo st C rg uc us mi.2.2.2.2.2.2.2.1 mi.2.2.2.2.2.2.2.2.1 mi.2.2.1 idx)) : xRn p l e R s m args below meth c D cA ad ρ fm A mi.2.2.2.2.1 n0 mi.2.2.2.2.2.2.2.1 mi.2.2.2.2.2.2.2.2.1 Q (pc, lo, st, C, rg, uc, us) := by
  obtain ⟨hx, hb, hml, hown, hts, hK, hX, hret, hlk, hin, hroom, hrc, hrs, hF, hA, hAx, had⟩ := hE
  unfold xnewq at h
  split at h
  · next n r =>
    split at h
    · next ci hci =>
      split at h
      · next hq =>
        obtain ⟨q0, q1, q2, q3, q4, q5⟩ := hq
        rw [xfN_eq, xfN_eq] at h
        intro H locs ls hR hL hP hD hS hn
        obtain ⟨Cn, k0, tag, hAO, hcl, hk0, htag, hif⟩ : ∃ (Cn : String) (k0 tag : Nat), va_AO Cn s ∧ Cond.classLink (xcn mi.2.2.1) idx Cn ∈ wsL_law ∧ (xtys cA)[k0]? = some (cA tag, .object Cn) ∧ 102 ≤ tag ∧ (if ci = 5 then 102 else 103) = tag := by
          rcases xkl_ok hci with ⟨h104, -⟩ | ⟨q, hq, hcl, -, -⟩
          · simp only at h104; omega
          · rcases q5 with rfl | rfl
            · cases hq; exact ⟨RX5, 2, 102, hX.2.2.2.2.1.1, hcl, rfl, by decide, rfl⟩
            · cases hq; exact ⟨RX2, 3, 103, hX.2.2.2.2.1.2.1, hcl, rfl, by decide, rfl⟩
        rw [hif] at h
        refine va_newq (D := D) (N' := n.toInt.toNat) hx hb hown (hts _ hcl) hAO hK hP hD hS hA (by rw [Int32.lt_iff_toInt_lt]; simp; omega) rfl (by omega) (by rw [hrc]; exact q2) (by rw [hrs]; exact q3) hdg (fun qa cZ H1 hK1 hP1 hD1 hS1 => xW_sz fun hsz => ?_)
        have hpin := x_pin hAx had hn.1 q4 hP1 hD1 hsz
        subst hpin
        have ec : cZ = cA tag := z_tyc (hK1.2 5 (cZ, _) rfl).2 (hK.2 k0 _ hk0).2
        subst ec
        have e2 : xenc cA (xv ad ρ fm) ad C ++ [(ad C.length, .inl (cA tag, n.toInt.toNat, .inr (.inr (.inr (.inr (fun _ => none))))))] = xenc cA (xv ad ρ fm) ad (C ++ [(tag, List.replicate n.toInt.toNat .null)]) := by
          rw [xenc_push, xencC_q htag, List.length_replicate, z_repq]
        rw [e2] at hP1 hD1
        exact h H1 locs ls hR hL hP1 hD1 hS1 ⟨by rw [List.length_append, hn.1]; simp; omega, q2, q3, by have h9 : C.length = n0 + uc := hn.1; show n0 + (uc + 1) ≤ xB; omega⟩
      · exact absurd h id
    · exact absurd h id
  · exact absurd h id
theorem xcpy_len {α : Type} {xs ys : List α} {sp dp n : Nat} (h1 : sp + n ≤ xs.length) (h2 : dp + n ≤ ys.length) : (ys.take dp ++ ((xs.drop sp).take n ++ ys.drop (dp + n))).length = ys.length := by
  simp only [List.length_append, List.length_take, List.length_drop]
  omega
theorem xcpy_get {α : Type} {xs ys : List α} {sp dp n : Nat} (d : α) (h1 : sp + n ≤ xs.length) (h2 : dp + n ≤ ys.length) (j : Nat) : (ys.take dp ++ ((xs.drop sp).take n ++ ys.drop (dp + n))).getD j d = if dp ≤ j ∧ j < dp + n then xs.getD (sp + (j - dp)) d else ys.getD j d := by
  simp only [List.getD_eq_getElem?_getD]
  congr 1
  by_cases c1 : j < dp
  · rw [if_neg (by omega), List.getElem?_append_left (by rw [List.length_take]; omega), List.getElem?_take, if_pos c1]
  · rw [List.getElem?_append_right (by rw [List.length_take]; omega), List.length_take, Nat.min_eq_left (by omega)]
    by_cases c2 : j < dp + n
    · rw [if_pos ⟨by omega, c2⟩, List.getElem?_append_left (by rw [List.length_take, List.length_drop]; omega), List.getElem?_take, if_pos (by omega), List.getElem?_drop]
    · rw [if_neg (by omega), List.getElem?_append_right (by rw [List.length_take, List.length_drop]; omega), List.length_take, List.length_drop, Nat.min_eq_left (by omega), List.getElem?_drop]
      have e1 : dp + n + (j - dp - n) = j := by omega
      rw [e1]
theorem z_sum (hF : xokF fm) {r : List Value} (h : r.length ≤ 4) : ((r.map (xv ad ρ fm)).map fun v => v.category).sum ≤ 8 := xcat_sum hF r h
theorem z_copy (hE : xEnv p l e R s m args below meth c D cA ad fm A n0 mi) {idx : Nat} (hlink : Cond.methodLink (xcn mi.2.2.1) idx arraycopyName ∈ wsL_law) (hdg : decode mi.2.1 pc = .ok (.invokestatic idx, 3)) (h : xGood (xRn p l e R s m args below meth c D cA ad ρ fm A mi.2.2.2.2.1 n0 mi.2.2.2.2.2.2.2.1 mi.2.2.2.2.2.2.2.2.1 Q) L (xcopy pc lo st C rg uc us)) : xRn p l e R s m args below meth c D cA ad ρ fm A mi.2.2.2.2.1 n0 mi.2.2.2.2.2.2.2.1 mi.2.2.2.2.2.2.2.2.1 Q (pc, lo, st, C, rg, uc, us) := by
  obtain ⟨hx, hb, hml, hown, hts, hK, hX, hret, hlk, hin, hroom, hrc, hrs, hF, hA, hAx, had⟩ := hE
  unfold xcopy at h
  split at h
  · next n dp d sp sr r =>
    split at h
    · next hq =>
      obtain ⟨q0, q1, q2, q3⟩ := hq
      rw [xnth_eq] at h
      split at h
      · next t1 xs hc1 =>
        rw [xnth_eq] at h
        split at h
        · next t2 ys hc2 =>
          split at h
          · next hq2 =>
            obtain ⟨rfl, rfl, g1, g2⟩ := hq2
            rw [xset_eq] at h
            intro H locs ls hR hL hP hD hS hn
            have he1 := xenc_get (cA := cA) (V := xv ad ρ fm) (ad := ad) hc1
            have he2 := xenc_get (cA := cA) (V := xv ad ρ fm) (ad := ad) hc2
            rw [xencC_i (Nat.le_refl _) (by decide)] at he1 he2
            have nl : ∀ z : Int32, 0 ≤ z.toInt → ¬ z < 0 := fun z hz => by rw [Int32.lt_iff_toInt_lt]; simp; omega
            have hroom2 : ((r.map (xv ad ρ fm)).map fun v => v.category).sum + (nativeFrameWords "java/lang/System" "arraycopy" 5 + 11) ≤ R.locals := by
              have h1 := z_sum (ad := ad) (ρ := ρ) hF q3
              have h2 : nativeFrameWords "java/lang/System" "arraycopy" 5 ≤ 20 := by decide
              have h3 := hroom.2
              omega
            refine va_copyi hx hb (by rw [hml]; exact hL.1.symm) hown (hts _ hlink) (hts _ xo2) (hts _ xo3) (hts _ xo4) hK hP hD hS sr d 0 0 he1 he2 rfl rfl rfl (nl _ q2) (nl _ q1) (nl _ q0) g1 g2 (fun i hi => rfl) hroom.1 hroom2 hdg (fun H1 locs1 hP1 hD1 hS1 => ?_)
            have e2 : (xenc cA (xv ad ρ fm) ad C).set d (ad d, .inl (cA 100, ys.length, .inl (va_cpy (fun j => xI (xv ad ρ fm (xs.getD j .null))) (fun j => xI (xv ad ρ fm (ys.getD j .null))) sp.toNatClampNeg dp.toNatClampNeg n.toNatClampNeg))) = xenc cA (xv ad ρ fm) ad (C.set d (100, ys.take dp.toInt.toNat ++ ((xs.drop sp.toInt.toNat).take n.toInt.toNat ++ ys.drop (dp.toInt.toNat + n.toInt.toNat)))) := by
              rw [xenc_set, xencC_i (Nat.le_refl _) (by decide), xcpy_len g1 g2]
              congr 6
              funext j
              rw [xcpy_get _ g1 g2]
              unfold va_cpy
              rw [xtn, xtn, xtn]
              split <;> rfl
            rw [e2] at hP1 hD1
            exact h H1 locs1 ls hR hL hP1 hD1 hS1 ⟨by rw [List.length_set]; exact hn.1, hn.2⟩
          · exact absurd h id
        · exact absurd h id
      · exact absurd h id
    · exact absurd h id
  · exact absurd h id
theorem z_math2 {f : Int32 → Int32 → Int32} (hE : xEnv p l e R s m args below meth c D cA ad fm A n0 mi) (row : ∀ (x y : Int32) (H : Heap) (locs : List Loc) (ls : Array Slot) (r : List Value), ls.size = mi.2.2.2.2.1 → r.length ≤ 4 → uc ≤ mi.2.2.2.2.2.2.2.1 → us ≤ mi.2.2.2.2.2.2.2.2.1 → W p l e R s m args below meth c H locs uc us Q (F0 m (pc + 3) ls (.int (f x y) :: r.map (xv ad ρ fm))) → W p l e R s m args below meth c H locs uc us Q (F0 m pc ls (.int y :: .int x :: r.map (xv ad ρ fm)))) (h : xGood (xRn p l e R s m args below meth c D cA ad ρ fm A mi.2.2.2.2.1 n0 mi.2.2.2.2.2.2.2.1 mi.2.2.2.2.2.2.2.2.1 Q) L (xmath2 pc lo st C rg uc us f)) : xRn p l e R s m args below meth c D cA ad ρ fm A mi.2.2.2.2.1 n0 mi.2.2.2.2.2.2.2.1 mi.2.2.2.2.2.2.2.2.1 Q (pc, lo, st, C, rg, uc, us) := by
  unfold xmath2 at h
  split at h
  · next b a r =>
    split at h
    · next x hx =>
      split at h
      · next y hy =>
        split at h
        · next hr =>
          rw [xfI_eq] at h
          intro H locs ls hR hL hP hD hS hn
          have e1 := xci_ok (ad := ad) (fm := fm) hR hx
          have e2 := xci_ok (ad := ad) (fm := fm) hR hy
          have h2 := h H locs ls hR hL hP hD hS hn
          simp only [List.map_cons, e1, e2]
          exact row x y H locs ls r hL.1 hr hn.2.1 hn.2.2.1 h2
        · exact absurd h id
      · exact z_fork (fun hR => xcov_cs hR _) h
    · exact z_fork (fun hR => xcov_cs hR _) h
  · exact absurd h id
theorem z_math1 {f : Int32 → Int32} (hE : xEnv p l e R s m args below meth c D cA ad fm A n0 mi) (row : ∀ (x : Int32) (H : Heap) (locs : List Loc) (ls : Array Slot) (r : List Value), ls.size = mi.2.2.2.2.1 → r.length ≤ 4 → uc ≤ mi.2.2.2.2.2.2.2.1 → us ≤ mi.2.2.2.2.2.2.2.2.1 → W p l e R s m args below meth c H locs uc us Q (F0 m (pc + 3) ls (.int (f x) :: r.map (xv ad ρ fm))) → W p l e R s m args below meth c H locs uc us Q (F0 m pc ls (.int x :: r.map (xv ad ρ fm)))) (h : xGood (xRn p l e R s m args below meth c D cA ad ρ fm A mi.2.2.2.2.1 n0 mi.2.2.2.2.2.2.2.1 mi.2.2.2.2.2.2.2.2.1 Q) L (xmath1 pc lo st C rg uc us f)) : xRn p l e R s m args below meth c D cA ad ρ fm A mi.2.2.2.2.1 n0 mi.2.2.2.2.2.2.2.1 mi.2.2.2.2.2.2.2.2.1 Q (pc, lo, st, C, rg, uc, us) := by
  unfold xmath1 at h
  split at h
  · next a r =>
    split at h
    · next x hx =>
      split at h
      · next hr =>
        rw [xfI_eq] at h
        intro H locs ls hR hL hP hD hS hn
        have e1 := xci_ok (ad := ad) (fm := fm) hR hx
        have h2 := h H locs ls hR hL hP hD hS hn
        simp only [List.map_cons, e1]
        exact row x H locs ls r hL.1 hr hn.2.1 hn.2.2.1 h2
      · exact absurd h id
    · exact z_fork (fun hR => xcov_cs hR _) h
  · exact absurd h id
theorem z_max (hE : xEnv p l e R s m args below meth c D cA ad fm A n0 mi) {idx : Nat} (hlink : Cond.methodLink (xcn mi.2.2.1) idx Lib.Math.max.name ∈ wsL_law) (hdg : decode mi.2.1 pc = .ok (.invokestatic idx, 3)) (h : xGood (xRn p l e R s m args below meth c D cA ad ρ fm A mi.2.2.2.2.1 n0 mi.2.2.2.2.2.2.2.1 mi.2.2.2.2.2.2.2.2.1 Q) L (xmath2 pc lo st C rg uc us (fun x y => if x < y then y else x))) : xRn p l e R s m args below meth c D cA ad ρ fm A mi.2.2.2.2.1 n0 mi.2.2.2.2.2.2.2.1 mi.2.2.2.2.2.2.2.2.1 Q (pc, lo, st, C, rg, uc, us) := by
  have hE2 := hE
  obtain ⟨hx, hb, hml, hown, hts, hK, hX, hret, hlk, hin, hroom, hrc, hrs, hF, hA, hAx, had⟩ := hE2
  refine z_math2 hE (fun x y H locs ls r hs hr h1 h2 k => ?_) h
  exact va_mmax hx hb (by rw [hml]; exact hs.symm) hown (hts _ hlink) (hts _ xo5) (hts _ xo8) (hts _ xo11) hroom.1 (by have := z_sum (ad := ad) (ρ := ρ) hF hr; have := hroom.2; omega) (by rw [hrc]; exact h1) (by rw [hrs]; exact h2) hdg k
theorem z_min (hE : xEnv p l e R s m args below meth c D cA ad fm A n0 mi) {idx : Nat} (hlink : Cond.methodLink (xcn mi.2.2.1) idx Lib.Math.min.name ∈ wsL_law) (hdg : decode mi.2.1 pc = .ok (.invokestatic idx, 3)) (h : xGood (xRn p l e R s m args below meth c D cA ad ρ fm A mi.2.2.2.2.1 n0 mi.2.2.2.2.2.2.2.1 mi.2.2.2.2.2.2.2.2.1 Q) L (xmath2 pc lo st C rg uc us (fun x y => if y < x then y else x))) : xRn p l e R s m args below meth c D cA ad ρ fm A mi.2.2.2.2.1 n0 mi.2.2.2.2.2.2.2.1 mi.2.2.2.2.2.2.2.2.1 Q (pc, lo, st, C, rg, uc, us) := by
  have hE2 := hE
  obtain ⟨hx, hb, hml, hown, hts, hK, hX, hret, hlk, hin, hroom, hrc, hrs, hF, hA, hAx, had⟩ := hE2
  refine z_math2 hE (fun x y H locs ls r hs hr h1 h2 k => ?_) h
  exact va_mmin hx hb (by rw [hml]; exact hs.symm) hown (hts _ hlink) (hts _ xo6) (hts _ xo8) (hts _ xo12) hroom.1 (by have := z_sum (ad := ad) (ρ := ρ) hF hr; have := hroom.2; omega) (by rw [hrc]; exact h1) (by rw [hrs]; exact h2) hdg k
theorem z_abs (hE : xEnv p l e R s m args below meth c D cA ad fm A n0 mi) {idx : Nat} (hlink : Cond.methodLink (xcn mi.2.2.1) idx Lib.Math.abs.name ∈ wsL_law) (hdg : decode mi.2.1 pc = .ok (.invokestatic idx, 3)) (h : xGood (xRn p l e R s m args below meth c D cA ad ρ fm A mi.2.2.2.2.1 n0 mi.2.2.2.2.2.2.2.1 mi.2.2.2.2.2.2.2.2.1 Q) L (xmath1 pc lo st C rg uc us (fun x => if x < 0 then -x else x))) : xRn p l e R s m args below meth c D cA ad ρ fm A mi.2.2.2.2.1 n0 mi.2.2.2.2.2.2.2.1 mi.2.2.2.2.2.2.2.2.1 Q (pc, lo, st, C, rg, uc, us) := by
  have hE2 := hE
  obtain ⟨hx, hb, hml, hown, hts, hK, hX, hret, hlk, hin, hroom, hrc, hrs, hF, hA, hAx, had⟩ := hE2
  refine z_math1 hE (fun x H locs ls r hs hr h1 h2 k => ?_) h
  refine va_mabs hx hb (by rw [hml]; exact hs.symm) hown (hts _ hlink) (hts _ xo7) (hts _ xo8) (hts _ xo13) hroom.1 (by have := z_sum (ad := ad) (ρ := ρ) hF hr; have := hroom.2; omega) (by rw [hrc]; exact h1) (by rw [hrs]; exact h2) hdg ?_
  have e1 : (if 0 ≤ x then x else 0 - x) = if x < 0 then -x else x := by
    by_cases hq : x < 0
    · rw [if_pos hq, if_neg (Int32.not_le.mpr hq)]
      apply Int32.toBitVec_inj.mp
      simp
    · rw [if_neg hq, if_pos (Int32.not_lt.mp hq)]
  rw [e1]
  exact k
theorem z_ldc (hE : xEnv p l e R s m args below meth c D cA ad fm A n0 mi) {idx : Nat} {v : Value} (hv : xldc mi.2.2.1 idx = some v) (hdg : decode mi.2.1 pc = .ok (.ldc idx, 2)) (h : xRn p l e R s m args below meth c D cA ad ρ fm A mi.2.2.2.2.1 n0 mi.2.2.2.2.2.2.2.1 mi.2.2.2.2.2.2.2.2.1 Q (pc + 2, lo, v :: st, C, rg, uc, us)) : xRn p l e R s m args below meth c D cA ad ρ fm A mi.2.2.2.2.1 n0 mi.2.2.2.2.2.2.2.1 mi.2.2.2.2.2.2.2.2.1 Q (pc, lo, st, C, rg, uc, us) := by
  obtain ⟨hx, hb, hml, hown, hts, hK, hX, -⟩ := hE
  intro H locs ls hR hL hP hD hS hn
  have h2 := h H locs ls hR hL hP hD hS hn
  unfold xldc at hv
  split at hv
  · next z hz =>
    cases hv
    exact lv_ldc hx hb hown (hts _ (xco_ok hz)) hdg h2
  · split at hv
    · next i hi =>
      cases hv
      have hs : ∃ q, xStr[i]? = some q ∧ q.1 = mi.2.2.1 ∧ q.2.1 = idx := by
        obtain ⟨ll, h3, h4⟩ := xas2_mem hi
        exact xls_all _ h3 _ h4
      obtain ⟨q, hq, e1, e2⟩ := hs
      have hZ := hX.2.2.2.1 i q hq
      rw [e1, e2] at hZ
      exact va_ldcS hx hb hown hZ hdg h2
    · cases hv
end XMAKE
