/-! new int[n][k] -/
theorem xouter (c : ClassId) (N h0 : Nat) : ∀ i : Nat, Jvm.Free.Multi.outerC c N h0 i = arrV c N (fun j => va_rf (if j < i then some (h0 + 1 + j) else none))
  | 0 => by
    show ({ cls := c, slots := Array.replicate N .null, vm := .none } : Cell) = _
    rw [arrV_new]
    refine congrArg (arrV c N) (funext fun j => ?_)
    simp [va_rf]
  | i + 1 => by
    show (Jvm.Free.Multi.outerC c N h0 i).setSlot i (.ref (h0 + 1 + i)) = _
    rw [xouter c N h0 i, arrV_store]
    refine congrArg (arrV c N) (funext fun j => ?_)
    by_cases e : j = i
    · subst e; simp [updV, va_rf]
    · by_cases h : j < i
      · simp [updV, e, h, Nat.lt_succ_of_lt h]
      · simp [updV, e, h, show ¬ j < i + 1 by omega]
theorem xarrV_eq {c : ClassId} {N : Nat} {f g : Nat → Value} (h : ∀ j, j < N → f j = g j) : arrV c N f = arrV c N g := by
  unfold arrV
  congr 1
  apply Array.ext
  · simp
  · intro i h1 h2
    simp only [Array.getElem_ofFn]
    exact h i (by simpa using h1)
section XNEW2
variable {p : Program} {l : Launch} {e : Env} {R : Room} {s : State} {m : MethodId} {args : Array Value} {below : List Frame} {meth : Method} {c : Code} {D : va_G} {cA : Nat → ClassId} {ad : Nat → Nat} {ρ : Nat → Int32} {fm : Value} {A : Nat → Prop} {n0 : Nat} {mi : xMI} {Q : State → Prop} {L : xLf → Prop}
variable {pc : Nat} {lo : List (Option Value)} {st : List Value} {C : List xCel} {rg : xRG} {uc us : Nat}
theorem z_new2 (hE : xEnv p l e R s m args below meth c D cA ad fm A n0 mi) {idx : Nat} (hdg : decode mi.2.1 pc = .ok (.multianewarray idx 2, 4)) (h : xGood (xRn p l e R s m args below meth c D cA ad ρ fm A mi.2.2.2.2.1 n0 mi.2.2.2.2.2.2.2.1 mi.2.2.2.2.2.2.2.2.1 Q) L (xnew2 pc lo st C rg uc us mi.2.2.2.2.2.2.2.1 mi.2.2.2.2.2.2.2.2.1 mi.2.2.1 idx)) : xRn p l e R s m args below meth c D cA ad ρ fm A mi.2.2.2.2.1 n0 mi.2.2.2.2.2.2.2.1 mi.2.2.2.2.2.2.2.2.1 Q (pc, lo, st, C, rg, uc, us) := by
  obtain ⟨hx, hb, hml, hown, hts, hK, hX, hret, hlk, hin, hroom, hrc, hrs, hF, hA, hAx, had⟩ := hE
  unfold xnew2 at h
  split at h
  · next k n r =>
    split at h
    · next ci hci =>
      split at h
      · next hq =>
        obtain ⟨rfl, q0, q1, q2, q3, q4, q5, q6⟩ := hq
        rw [xfN_eq, xfN_eq] at h
        have hcl : Cond.classLink (xcn mi.2.2.1) idx "[[I" ∈ wsL_law := by
          rcases xkl_ok hci with ⟨-, hc⟩ | ⟨q, hq, -⟩
          · exact hc
          · simp [vwCl] at hq
        intro H locs ls hR hL hP hD hS hn
        have hn' : C.length = n0 + uc := hn.1
        refine xW_sz fun hsz => ?_
        have hsize := x_size had hn' hn.2.2.2 hP hS hsz
        intro T hT X
        have hnn : ¬ n < 0 := by rw [Int32.lt_iff_toInt_lt]; simp; omega
        have hkn : ¬ k < 0 := by rw [Int32.lt_iff_toInt_lt]; simp; omega
        obtain ⟨vm₁, c1, comp, -, fA, fC, hO, -, X', step⟩ := X.multianewarray2F hx hown (hts _ hcl) (show (Cond.arrayOver (.array .int)).before args s = true from hX.2.2.2.2.1.2.2) (hts _ xo9) (g := F0 m pc ls (.int k :: .int n :: r.map (xv ad ρ fm))) rfl (by rw [hb]; exact hdg) rfl hnn hkn (by rw [xtn]; omega) (by rw [xtn]; show _ * 4 ≤ _; omega) (by rw [xtn]; omega) rfl rfl (by show uc + (1 + n.toInt.toNat) ≤ R.cells; rw [hrc]; omega) (by show us + (n.toInt.toNat + n.toInt.toNat * k.toInt.toNat) ≤ R.slots; rw [hrs]; omega)
        rw [xtn, xtn] at X' step
        generalize hN : n.toInt.toNat = N at *
        generalize hKk : k.toInt.toNat = K at *
        generalize hFill : Jvm.Free.Multi.fill (T.setVm vm₁) c1 comp N K (defaultValue .int) N = F at X' step
        have hTh : (T.setVm vm₁).heap = H := hT
        obtain ⟨f1, f2, -, -⟩ := Jvm.Free.Multi.fill_facts (T.setVm vm₁) c1 comp N K (defaultValue .int) N
        rw [hFill, hTh] at f1 f2
        have hold : ∀ x : Nat, x < H.size → F.heap[x]? = H[x]? := fun x hx => by
          have := Jvm.Free.Multi.fill_old (T.setVm vm₁) c1 comp N K (defaultValue .int) (a := x) (by rw [hTh]; exact hx) N
          rw [hFill, hTh] at this
          exact this
        have hrow : ∀ j : Nat, j < N → F.heap[H.size + 1 + j]? = some (Jvm.Free.Multi.innerC comp K (defaultValue .int)) := fun j hj => by
          have := Jvm.Free.Multi.fill_inner (T.setVm vm₁) c1 comp N K (defaultValue .int) N j hj
          rw [hFill, hTh] at this
          exact this
        have ec1 : c1 = cA 104 := by
          have h9 := (hK.2 4 (cA 104, .array .int) rfl).2
          exact Option.some.inj (fA.symm.trans h9)
        have ec2 : comp = cA 100 := by
          have h9 := (hK.2 0 (cA 100, .int) rfl).2
          exact Option.some.inj (fC.symm.trans h9)
        subst ec1
        subst ec2
        have hadC : ∀ i, i ≤ N → ad (C.length + i) = H.size + i := fun i hi => by
          rw [had (C.length + i) (by omega) (by omega), hsize]; omega
        have hnew : ∀ (i : Nat) (q : xCel), (C ++ ((104, (List.range N).map fun i => Value.ref (C.length + 1 + i)) :: List.replicate N (100, List.replicate K (.int 0))))[i]? = some q → (i < C.length ∧ C[i]? = some q) ∨ (i = C.length ∧ q = (104, (List.range N).map fun i => Value.ref (C.length + 1 + i))) ∨ ∃ j, j < N ∧ i = C.length + (1 + j) ∧ q = (100, List.replicate K (.int 0)) := by
          intro i q hq
          by_cases hi : i < C.length
          · rw [List.getElem?_append_left hi] at hq
            exact Or.inl ⟨hi, hq⟩
          · rw [List.getElem?_append_right (by omega)] at hq
            cases hd : i - C.length with
            | zero =>
              rw [hd, List.getElem?_cons_zero] at hq
              exact Or.inr (Or.inl ⟨by omega, (Option.some.inj hq).symm⟩)
            | succ j =>
              rw [hd, List.getElem?_cons_succ, List.getElem?_replicate] at hq
              split at hq
              · next hj => exact Or.inr (Or.inr ⟨j, hj, by omega, (Option.some.inj hq).symm⟩)
              · cases hq
        have hP1 : va_P D vwCl (xenc cA (xv ad ρ fm) ad (C ++ ((104, (List.range N).map fun i => Value.ref (C.length + 1 + i)) :: List.replicate N (100, List.replicate K (.int 0))))) F.heap := by
          intro i z hz
          obtain ⟨q, hq, rfl⟩ := xenc_of hz
          rcases hnew i q hq with ⟨hi, hq2⟩ | ⟨rfl, rfl⟩ | ⟨j, hj, rfl, rfl⟩
          · have hg := hP i _ (xenc_get hq2)
            exact hg.kept (hold _ hg.lt)
          · rw [xencC_q (by decide)]
            show F.heap[ad C.length]? = some (vp_cell _ _)
            have h0 := hadC 0 (Nat.zero_le _)
            rw [Nat.add_zero, Nat.add_zero] at h0
            rw [h0, f2, vp_cell_q]
            rw [xouter]
            refine congrArg some (Eq.trans (xarrV_eq (fun j hj => ?_)) (congrArg (fun z => arrV (cA 104) z _) (show N = ((List.range N).map fun i => Value.ref (C.length + 1 + i)).length by simp)))
            rw [if_pos hj]
            have e1 : ((List.range N).map fun i => Value.ref (C.length + 1 + i)).getD j .null = .ref (C.length + 1 + j) := by
              rw [List.getD_eq_getElem?_getD, List.getElem?_map, List.getElem?_range hj]; rfl
            rw [e1]
            show Value.ref (H.size + 1 + j) = .ref (ad (C.length + 1 + j))
            rw [Nat.add_assoc C.length 1 j, hadC (1 + j) (by omega), Nat.add_assoc]
          · rw [xencC_i (by decide) (by decide)]
            show F.heap[ad (C.length + (1 + j))]? = some (vp_cell _ _)
            rw [hadC (1 + j) (by omega), ← Nat.add_assoc, hrow j hj, vp_cell_i]
            have e0 : Jvm.Free.Multi.innerC (cA 100) K (defaultValue .int) = arrV (cA 100) K (fun _ => defaultValue .int) := by
              unfold Jvm.Free.Multi.innerC
              rw [arrV_new]
            rw [e0]
            refine congrArg some (Eq.trans (xarrV_eq (fun i hi => ?_)) (congrArg (fun z => arrV (cA 100) z _) (show K = (List.replicate K (Value.int 0)).length by simp)))
            have e1 : (List.replicate K (Value.int 0)).getD i .null = .int 0 := by
              rw [List.getD_eq_getElem?_getD, List.getElem?_replicate, if_pos hi]; rfl
            rw [e1]
            rfl
        have hD1 : va_D A (xenc cA (xv ad ρ fm) ad (C ++ ((104, (List.range N).map fun i => Value.ref (C.length + 1 + i)) :: List.replicate N (100, List.replicate K (.int 0))))) := by
          have hcl2 : ∀ (i : Nat) (q : xCel), (C ++ ((104, (List.range N).map fun i => Value.ref (C.length + 1 + i)) :: List.replicate N (100, List.replicate K (.int 0))))[i]? = some q → (i < C.length ∧ C[i]? = some q ∧ ad i < H.size) ∨ (C.length ≤ i ∧ ad i = H.size + (i - C.length)) := by
            intro i q hq
            rcases hnew i q hq with ⟨hi, hq2⟩ | ⟨rfl, -⟩ | ⟨j, hj, rfl, -⟩
            · exact Or.inl ⟨hi, hq2, (hP i _ (xenc_get hq2)).lt⟩
            · refine Or.inr ⟨Nat.le_refl _, ?_⟩
              have h0 := hadC 0 (Nat.zero_le _)
              rw [Nat.add_zero, Nat.add_zero] at h0
              rw [h0, Nat.sub_self, Nat.add_zero]
            · refine Or.inr ⟨by omega, ?_⟩
              rw [hadC (1 + j) (by omega)]
              omega
          refine ⟨fun i j x y hi hj hxy => ?_, fun i x hi => ?_⟩
          · obtain ⟨q1, g1, rfl⟩ := xenc_of hi
            obtain ⟨q2, g2, rfl⟩ := xenc_of hj
            have hxy' : ad i = ad j := hxy
            rcases hcl2 i q1 g1 with ⟨a1, a2, a3⟩ | ⟨a1, a2⟩ <;> rcases hcl2 j q2 g2 with ⟨b1, b2, b3⟩ | ⟨b1, b2⟩
            · exact hD.1 i j _ _ (xenc_get a2) (xenc_get b2) hxy'
            · omega
            · omega
            · omega
          · obtain ⟨q1, g1, rfl⟩ := xenc_of hi
            rcases hcl2 i q1 g1 with ⟨a1, a2, a3⟩ | ⟨a1, a2⟩
            · exact hD.2 i _ (xenc_get a2)
            · have hS1 := hS.1
              exact hA _ (by show _ ≤ ad i; omega)
        have hS1 : va_S A s.heap F.heap locs := ⟨by rw [f1]; have := hS.1; omega, fun x h1 h2 => (hold x (Nat.lt_of_lt_of_le h1 hS.1)).trans (hS.2.1 x h1 h2), hS.2.2⟩
        have hlen : (C ++ ((104, (List.range N).map fun i => Value.ref (C.length + 1 + i)) :: List.replicate N (100, List.replicate K (.int 0)))).length = n0 + (uc + 1 + N) := by
          rw [List.length_append, List.length_cons, List.length_replicate]; omega
        obtain ⟨t, a1, b1⟩ := h F.heap locs ls hR hL hP1 hD1 hS1 ⟨hlen, q4, q5, by show n0 + (uc + 1 + N) ≤ xB; omega⟩ F rfl X'
        refine ⟨t, step t ?_, b1⟩
        have h0 := hadC 0 (Nat.zero_le _)
        rw [Nat.add_zero, Nat.add_zero] at h0
        have e9 : T.heap.size = ad C.length := by rw [hT]; exact h0.symm
        rw [e9]
        exact a1
      · exact absurd h id
    · exact absurd h id
  · exact absurd h id
end XNEW2
