/-! the heap's instructions -/
def kxT (ci : Nat) : Nat → FieldType := match ci with
  | 0 => tyX0
  | 1 => tyX1
  | 2 => tyX2
  | 3 => tyX3
  | 4 => tyX4
  | 5 => tyX5
  | 6 => tyX6
  | _ => tyX7
def kxR (ci k : Nat) : Bool := match kxT ci k with
  | .object _ => xty ci k == 2
  | .array _ => xty ci k == 2
  | .int => xty ci k == 0
  | .boolean => xty ci k == 1
  | .long => xty ci k == 3
  | _ => false
def kxD (ci k : Nat) : Bool := decide (defaultValue (kxT ci k) = vp_V (xDf.getD ci []) k)
def kxOK (ci : Nat) (q : vw_C) : Prop := (∀ w ∈ u_ws q.1 q.2.1 q.2.2, w ∈ wsL_law) ∧ (∀ k, k < q.2.2 → parseFieldDescriptor (q.2.1 k).2.2.1 = some (kxT ci k)) ∧ (∀ a, a < q.2.2 → ∀ b, b < q.2.2 → a ≠ b → (q.2.1 a).2.1 ≠ (q.2.1 b).2.1) ∧ (∀ k, k < q.2.2 → kxR ci k = true) ∧ (∀ k, k < q.2.2 → xfin ci k = (q.2.1 k).2.2.2) ∧ (∀ k, k < q.2.2 → (q.2.1 k).1 = xcn ci) ∧ (∀ k, k < q.2.2 → kxD ci k = true) ∧ (xDf.getD ci []).length = q.2.2 ∧ ci < 8
set_option maxRecDepth 100000 in
theorem kx_ok : ∀ (ci : Nat) (q : vw_C), vwCl[ci]? = some q → kxOK ci q
  | 0, q, h => by cases h; exact ⟨inlX0, tyX0_ok, nmX0, by decide +kernel, by decide +kernel, by decide +kernel, by decide +kernel, rfl, by decide⟩
  | 1, q, h => by cases h; exact ⟨inlX1, tyX1_ok, nmX1, by decide +kernel, by decide +kernel, by decide +kernel, by decide +kernel, rfl, by decide⟩
  | 2, q, h => by cases h; exact ⟨inlX2, tyX2_ok, nmX2, by decide +kernel, by decide +kernel, by decide +kernel, by decide +kernel, rfl, by decide⟩
  | 3, q, h => by cases h; exact ⟨inlX3, tyX3_ok, nmX3, by decide +kernel, by decide +kernel, by decide +kernel, by decide +kernel, rfl, by decide⟩
  | 4, q, h => by cases h; exact ⟨inlX4, tyX4_ok, nmX4, by decide +kernel, by decide +kernel, by decide +kernel, by decide +kernel, rfl, by decide⟩
  | 5, q, h => by cases h; exact ⟨inlX5, tyX5_ok, nmX5, by decide +kernel, by decide +kernel, by decide +kernel, by decide +kernel, rfl, by decide⟩
  | 6, q, h => by cases h; exact ⟨inlX6, tyX6_ok, nmX6, by decide +kernel, by decide +kernel, by decide +kernel, by decide +kernel, rfl, by decide⟩
  | 7, q, h => by cases h; exact ⟨inlX7, tyX7_ok, nmX7, by decide +kernel, by decide +kernel, by decide +kernel, by decide +kernel, rfl, by decide⟩
  | n + 8, q, h => by simp [vwCl] at h
theorem xfits_ok {ad : Nat → Nat} {ρ : Nat → Int32} {fm : Value} {rg : xRG} (hf : xokF fm) {ci k : Nat} {v : Value} (hk : kxR ci k = true) (h : xfits rg (xty ci k) v = true) : narrow (kxT ci k) (xv ad ρ fm v) = xv ad ρ fm v ∧ fits (kxT ci k) (xv ad ρ fm v) = true := by
  unfold kxR at hk
  split at hk
  · next q =>
    rw [beq_iff_eq] at hk
    rw [hk] at h
    rcases xv_R (ad := ad) (ρ := ρ) hf (show xisR v = true from h) with e | ⟨a, e⟩ <;> rw [e] <;> simp_all [narrow, fits]
  · next q =>
    rw [beq_iff_eq] at hk
    rw [hk] at h
    rcases xv_R (ad := ad) (ρ := ρ) hf (show xisR v = true from h) with e | ⟨a, e⟩ <;> rw [e] <;> simp_all [narrow, fits]
  · next q =>
    rw [beq_iff_eq] at hk
    rw [hk] at h
    obtain ⟨x, e⟩ := xv_I (ad := ad) (ρ := ρ) (fm := fm) (show xisI v = true from h)
    rw [e, q]
    exact ⟨rfl, rfl⟩
  · next q =>
    rw [beq_iff_eq] at hk
    rw [hk] at h
    unfold xfits at h
    split at h
    · next heq => cases heq
    · next heq =>
      split at h
      · next x =>
        rw [Bool.or_eq_true, beq_iff_eq, beq_iff_eq] at h
        rw [q]
        rcases h with rfl | rfl
        · exact ⟨rfl, rfl⟩
        · exact ⟨rfl, rfl⟩
      · cases h
    · next h1 => cases h1
    · next h1 h2 h3 => exact absurd rfl h2
  · next q =>
    rw [beq_iff_eq] at hk
    rw [hk] at h
    obtain ⟨x, e⟩ := xv_L (ad := ad) (ρ := ρ) (fm := fm) (show xisL v = true from h)
    rw [e, q]
    exact ⟨rfl, rfl⟩
  · cases hk
theorem xencC_o {cA : Nat → ClassId} {V : Value → Value} {t : Nat} {fs : List Value} (h : t < 100) : xencC cA V (t, fs) = .inr (t, fs.map V) := by
  unfold xencC; rw [if_pos h]
theorem xencC_i {cA : Nat → ClassId} {V : Value → Value} {t : Nat} {xs : List Value} (h : 100 ≤ t) (h2 : t < 102) : xencC cA V (t, xs) = .inl (cA t, xs.length, .inl (fun j => xI (V (xs.getD j .null)))) := by
  unfold xencC; rw [if_neg (by simp; omega), if_pos (by simpa using h2)]
theorem xencC_q {cA : Nat → ClassId} {V : Value → Value} {t : Nat} {xs : List Value} (h : 102 ≤ t) : xencC cA V (t, xs) = .inl (cA t, xs.length, .inr (.inr (.inr (.inr (fun j => xR (V (xs.getD j .null))))))) := by
  unfold xencC; rw [if_neg (by simp; omega), if_neg (by simp; omega)]
theorem xvpin {x : Int32} {n : Nat} (h : ¬ x.toInt < 0) (h2 : x.toInt.toNat < n) : vp_in x n := vp_in_iff.mpr ⟨by omega, by omega⟩
theorem xtn (x : Int32) : x.toNatClampNeg = x.toInt.toNat := rfl
theorem xgetD {α : Type} {l : List α} {i : Nat} {v d : α} (h : l[i]? = some v) : l.getD i d = v := by
  rw [List.getD_eq_getElem?_getD, h]; rfl
theorem xgetD_set {α : Type} (l : List α) (i j : Nat) (v d : α) (h : i < l.length) : (l.set i v).getD j d = if j = i then v else l.getD j d := by
  rw [List.getD_eq_getElem?_getD, List.getD_eq_getElem?_getD]
  by_cases e : j = i
  · subst e; rw [if_pos rfl, List.getElem?_set_self h]; rfl
  · rw [if_neg e, List.getElem?_set_ne (Ne.symm e)]
theorem xstr_ix (b : Nat) (h1 : xB + 10 ≤ b) (h2 : b < xB + 23) : ∃ i, i < 13 ∧ b = xB + 10 + i := ⟨b - (xB + 10), by omega, by omega⟩
theorem xadd_sub (b : Nat) (h : ¬ b < xB) : xB + (b - xB) = b := by omega
section XHEAP
variable {p : Program} {l : Launch} {e : Env} {R : Room} {s : State} {m : MethodId} {args : Array Value} {below : List Frame} {meth : Method} {c : Code} {D : va_G} {cA : Nat → ClassId} {ad : Nat → Nat} {ρ : Nat → Int32} {fm : Value} {A : Nat → Prop} {n0 : Nat} {mi : xMI} {Q : State → Prop} {L : xLf → Prop}
variable {pc : Nat} {lo : List (Option Value)} {st : List Value} {C : List xCel} {rg : xRG} {uc us : Nat}
theorem z_get (hE : xEnv p l e R s m args below meth c D cA ad fm A n0 mi) {idx : Nat} (hdg : decode mi.2.1 pc = .ok (.getfield idx, 3)) (h : xGood (xRn p l e R s m args below meth c D cA ad ρ fm A mi.2.2.2.2.1 n0 Q) L (xget pc lo st C rg uc us mi.2.2.1 idx)) : xRn p l e R s m args below meth c D cA ad ρ fm A mi.2.2.2.2.1 n0 Q (pc, lo, st, C, rg, uc, us) := by
  obtain ⟨hx, hb, hml, hown, hts, hK, hX, -⟩ := hE
  unfold xget at h
  split at h
  · next ci k hf =>
    have hfl := xfl_ok hf
    split at h
    · next a r =>
      split at h
      · next hci =>
        split at h
        · next ha =>
          have hlink : Cond.fieldLink (xcn mi.2.2.1) idx "java/lang/String" (if k = 0 then "value" else "coder") (if k = 0 then "[B" else "B") ∈ wsL_law := by
            rcases hfl with ⟨q, hq, -⟩ | ⟨-, hl⟩
            · have := (kx_ok _ _ hq).2.2.2.2.2.2.2.2
              simp only at this
              omega
            · exact hl
          obtain ⟨i, hi, rfl⟩ := xstr_ix a ha.1 ha.2
          obtain ⟨-, f1, f2, -⟩ := hX.2.2.1.1 i hi
          split at h
          · next hk =>
            rw [if_pos hk, if_pos hk] at hlink
            intro H locs ls hR hL hP hD hS hn
            refine vk_getf hx hb f2 hS hown (hts _ hlink) (fun _ q => q) hdg ?_
            have h2 := h H locs ls hR hL hP hD hS hn
            have e1 : xv ad ρ fm (.ref (xB + 10 + i + 20)) = .ref (ad (xB + 30 + i)) := by rw [xv]; congr 2; omega
            simp only [List.map_cons, e1] at h2
            exact h2
          · next hk =>
            rw [if_neg hk, if_neg hk] at hlink
            intro H locs ls hR hL hP hD hS hn
            exact vk_getf hx hb f1 hS hown (hts _ hlink) (fun _ q => q) hdg (h H locs ls hR hL hP hD hS hn)
        · exact absurd h id
      · next hci =>
        rw [xnth_eq] at h
        split at h
        · next tag fs hc =>
          split at h
          · next ht =>
            subst ht
            rw [xnth_eq] at h
            split at h
            · next v hv =>
              rcases hfl with ⟨q, hq, hk, hl⟩ | ⟨h200, -⟩
              · obtain ⟨o1, -, -, -, -, -, -, -, o9⟩ := kx_ok _ _ hq
                intro H locs ls hR hL hP hD hS hn
                have he := xenc_get (cA := cA) (V := xv ad ρ fm) (ad := ad) hc
                rw [xencC_o (by simp only at o9; omega)] at he
                exact va_get (D := D) (Ts := wsL_law) hx hb hts o1 hown hK hP a he (C := q.1) (T := q.2.1) (N := q.2.2) hq k hk (hts _ hl) (fun _ z => z) (v := xv ad ρ fm v) (by rw [List.getElem?_map, hv]; rfl) hdg (h H locs ls hR hL hP hD hS hn)
              · exact absurd h200 hci
            · exact absurd h id
          · exact absurd h id
        · exact absurd h id
    · exact absurd h id
  · exact absurd h id
theorem z_put (hE : xEnv p l e R s m args below meth c D cA ad fm A n0 mi) {idx : Nat} (hdg : decode mi.2.1 pc = .ok (.putfield idx, 3)) (h : xGood (xRn p l e R s m args below meth c D cA ad ρ fm A mi.2.2.2.2.1 n0 Q) L (xput pc lo st C rg uc us mi.2.2.2.2.2.2.1 mi.2.2.1 idx)) : xRn p l e R s m args below meth c D cA ad ρ fm A mi.2.2.2.2.1 n0 Q (pc, lo, st, C, rg, uc, us) := by
  have hF := z_F hE
  obtain ⟨hx, hb, hml, hown, hts, hK, hX, -, -, hinit, -⟩ := hE
  unfold xput at h
  split at h
  · next ci k hf =>
    have hfl := xfl_ok hf
    split at h
    · next v a r =>
      rw [xnth_eq] at h
      split at h
      · next tag fs hc =>
        split at h
        · next ht =>
          obtain ⟨rfl, ht2, ht3⟩ := ht
          split at h
          · next hfit =>
            split at h
            · next hfin =>
              rw [xset_eq, xset_eq] at h
              rcases hfl with ⟨q, hq, hk, hl⟩ | ⟨h200, -⟩
              · obtain ⟨o1, o2, o3, o4, o5, o6, o7, o8, o9⟩ := kx_ok _ _ hq
                obtain ⟨f1, f2⟩ := xfits_ok (ad := ad) (ρ := ρ) hF (o4 k hk) hfit
                intro H locs ls hR hL hP hD hS hn
                have he := xenc_get (cA := cA) (V := xv ad ρ fm) (ad := ad) hc
                rw [xencC_o ht2] at he
                have eset : (xenc cA (xv ad ρ fm) ad C).set a (ad a, .inr (tag, (fs.map (xv ad ρ fm)).set k (xv ad ρ fm v))) = xenc cA (xv ad ρ fm) ad (C.set a (tag, fs.set k v)) := by
                  rw [xenc_set, xencC_o ht2, List.map_set]
                have hlen : (C.set a (tag, fs.set k v)).length = n0 + uc := by rw [List.length_set]; exact hn
                cases hff : (q.2.1 k).2.2.2 with
                | false =>
                  refine va_put (D := D) (Ts := wsL_law) hx hb hts o1 (kxT tag) o2 o3 hown hK hP hD hS a he (C := q.1) (T := q.2.1) (N := q.2.2) hq k hk (hts _ hl) (fun _ z => z) hff (o2 k hk) f1 f2 (by rw [List.length_map]; exact ht3) hdg (fun H1 locs1 hP1 hD1 hS1 => ?_)
                  rw [eset] at hP1 hD1
                  exact h H1 locs1 ls hR hL hP1 hD1 hS1 hlen
                | true =>
                  have hq2 : mi.2.2.2.2.2.2.1 = 2 ∧ mi.2.2.1 = tag := by
                    rcases hfin with z | z
                    · rw [o5 k hk, hff] at z; cases z
                    · exact z
                  refine va_putF (D := D) (Ts := wsL_law) hx hb hts o1 (kxT tag) o2 o3 hown hK hP hD hS a he (C := q.1) (T := q.2.1) (N := q.2.2) hq k hk (hts _ hl) (fun _ z => z) hff (hinit hq2.1) (by rw [o6 k hk, hq2.2]) (o2 k hk) f1 f2 (by rw [List.length_map]; exact ht3) hdg (fun H1 locs1 hP1 hD1 hS1 => ?_)
                  rw [eset] at hP1 hD1
                  exact h H1 locs1 ls hR hL hP1 hD1 hS1 hlen
              · simp only at h200; omega
            · exact absurd h id
          · exact absurd h id
        · exact absurd h id
      · exact absurd h id
    · exact absurd h id
  · exact absurd h id
theorem z_stv : ∀ q ∈ xStat, ∀ ρ' : Nat → Int32, xv ad ρ' fm q.2.2.2 = xv ad (fun _ => 0) fm q.2.2.2 := by
  intro q hq ρ'
  simp only [xStat, List.mem_cons, List.not_mem_nil, or_false] at hq
  rcases hq with rfl | rfl | rfl | rfl | rfl <;> rfl
theorem z_gets (hE : xEnv p l e R s m args below meth c D cA ad fm A n0 mi) {idx : Nat} (hdg : decode mi.2.1 pc = .ok (.getstatic idx, 3)) (h : xGood (xRn p l e R s m args below meth c D cA ad ρ fm A mi.2.2.2.2.1 n0 Q) L (xgets pc lo st C rg uc us mi.2.2.1 idx)) : xRn p l e R s m args below meth c D cA ad ρ fm A mi.2.2.2.2.1 n0 Q (pc, lo, st, C, rg, uc, us) := by
  obtain ⟨hx, hb, hml, hown, hts, hK, hX, -⟩ := hE
  unfold xgets at h
  split at h
  · next k hk =>
    rw [xnth_eq] at h
    split at h
    · next q hq =>
      have hm := List.mem_of_getElem? hq
      have hl := xgs_ok hk q hq
      intro H locs ls hR hL hP hD hS hn
      have hZ := hX.1 q hm
      rw [← z_stv (ad := ad) (fm := fm) q hm ρ] at hZ
      exact va_gets hx hb hZ hS hown (hts _ hl) (fun _ z => z) hdg (h H locs ls hR hL hP hD hS hn)
    · exact absurd h id
  · exact absurd h id
theorem z_ald {tag : Nat} {ok : Value → Bool} (row : ∀ (x : Int32) (a : Nat) (xs : List Value) (v : Value), xrow C tag a = some xs → xs[x.toInt.toNat]? = some v → ok v = true → ¬ x.toInt < 0 → ∀ (H : Heap) (locs : List Loc) (ls : Array Slot) (rest : List Value), va_P D vwCl (xenc cA (xv ad ρ fm) ad C) H → va_S A s.heap H locs → W p l e R s m args below meth c H locs uc us Q (F0 m (pc + 1) ls (xv ad ρ fm v :: rest)) → W p l e R s m args below meth c H locs uc us Q (F0 m pc ls (.int x :: .ref (ad a) :: rest))) (h : xGood (xRn p l e R s m args below meth c D cA ad ρ fm A mi.2.2.2.2.1 n0 Q) L (xald pc lo st C rg uc us tag ok)) : xRn p l e R s m args below meth c D cA ad ρ fm A mi.2.2.2.2.1 n0 Q (pc, lo, st, C, rg, uc, us) := by
  unfold xald at h
  split at h
  · next i a r =>
    split at h
    · next x hx =>
      split at h
      · exact absurd h id
      · next h0 =>
        split at h
        · next xs hxs =>
          rw [xnth_eq] at h
          split at h
          · next v hv =>
            split at h
            · next ho =>
              intro H locs ls hR hL hP hD hS hn
              have e1 := xci_ok (ad := ad) (fm := fm) hR hx
              have h2 := h H locs ls hR hL hP hD hS hn
              simp only [List.map_cons, e1]
              exact row x a xs v hxs hv ho h0 H locs ls _ hP hS h2
            · exact absurd h id
          · exact absurd h id
        · exact absurd h id
    · exact z_fork (fun hR => xcov_cs hR _) h
  · exact absurd h id
theorem z_row {tag a : Nat} {xs : List Value} (ha : a < xB) (h : xrow C tag a = some xs) : C[a]? = some (tag, xs) := by
  unfold xrow at h
  rw [if_pos ha, xnth_eq] at h
  split at h
  · next t ys hc =>
    split at h
    · next ht => cases h; rw [hc, ht]
    · cases h
  · cases h
theorem z_iaload (hE : xEnv p l e R s m args below meth c D cA ad fm A n0 mi) (hdg : decode mi.2.1 pc = .ok (.iaload, 1)) (h : xGood (xRn p l e R s m args below meth c D cA ad ρ fm A mi.2.2.2.2.1 n0 Q) L (xald pc lo st C rg uc us 100 xisI)) : xRn p l e R s m args below meth c D cA ad ρ fm A mi.2.2.2.2.1 n0 Q (pc, lo, st, C, rg, uc, us) := by
  obtain ⟨hx, hb, hml, hown, hts, hK, hX, -⟩ := hE
  refine z_ald (fun x a xs v hr hv ho h0 H locs ls rest hP hS k => ?_) h
  have hlt : x.toInt.toNat < xs.length := (List.getElem?_eq_some_iff.mp hv).1
  obtain ⟨y, ey⟩ := xv_I (ad := ad) (ρ := ρ) (fm := fm) ho
  by_cases ha : a < xB
  · have he := xenc_get (cA := cA) (V := xv ad ρ fm) (ad := ad) (z_row ha hr)
    rw [xencC_i (Nat.le_refl _) (by decide)] at he
    refine va_iald hx hb hK hP a 0 he rfl (xvpin h0 hlt) hdg ?_
    rw [xtn, xgetD hv, ey]
    rw [ey] at k
    exact k
  · unfold xrow at hr
    rw [if_neg ha, if_pos rfl, xnth_eq] at hr
    split at hr
    · next tl htl =>
      split at hr
      · next h3 =>
        cases hr
        have hT := hX.2.1 _ _ htl
        rw [xadd_sub a ha] at hT
        rw [List.length_map] at hlt
        refine va_ti hx hb hT hS (xvpin h0 hlt) rfl hdg ?_
        rw [List.getElem?_map] at hv
        cases hq : tl[x.toInt.toNat]? with
        | none => rw [hq] at hv; cases hv
        | some z =>
          rw [hq] at hv
          cases hv
          rw [xtn, xgetD hq]
          exact k
      · cases hr
    · cases hr
theorem z_baload (hE : xEnv p l e R s m args below meth c D cA ad fm A n0 mi) (hdg : decode mi.2.1 pc = .ok (.baload, 1)) (h : xGood (xRn p l e R s m args below meth c D cA ad ρ fm A mi.2.2.2.2.1 n0 Q) L (xbald pc lo st C rg uc us)) : xRn p l e R s m args below meth c D cA ad ρ fm A mi.2.2.2.2.1 n0 Q (pc, lo, st, C, rg, uc, us) := by
  obtain ⟨hx, hb, hml, hown, hts, hK, hX, -⟩ := hE
  have r1 : ∀ (x : Int32) (a : Nat) (xs : List Value) (v : Value), xrow C 101 a = some xs → xs[x.toInt.toNat]? = some v → xisI v = true → ¬ x.toInt < 0 → ∀ (H : Heap) (locs : List Loc) (ls : Array Slot) (rest : List Value), va_P D vwCl (xenc cA (xv ad ρ fm) ad C) H → va_S A s.heap H locs → W p l e R s m args below meth c H locs uc us Q (F0 m (pc + 1) ls (xv ad ρ fm v :: rest)) → W p l e R s m args below meth c H locs uc us Q (F0 m pc ls (.int x :: .ref (ad a) :: rest)) := by
    intro x a xs v hr hv ho h0 H locs ls rest hP hS k
    have hlt : x.toInt.toNat < xs.length := (List.getElem?_eq_some_iff.mp hv).1
    obtain ⟨y, ey⟩ := xv_I (ad := ad) (ρ := ρ) (fm := fm) ho
    by_cases ha : a < xB
    · have he := xenc_get (cA := cA) (V := xv ad ρ fm) (ad := ad) (z_row ha hr)
      rw [xencC_i (by decide) (by decide)] at he
      refine va_zald hx hb hK hP a 1 he rfl (xvpin h0 hlt) hdg ?_
      rw [xtn, xgetD hv, ey]
      rw [ey] at k
      exact k
    · unfold xrow at hr
      rw [if_neg ha, if_neg (by decide), if_neg (by decide)] at hr
      cases hr
  have r2 : ∀ (x : Int32) (a : Nat) (xs : List Value) (v : Value), xrow C 105 a = some xs → xs[x.toInt.toNat]? = some v → xisI v = true → ¬ x.toInt < 0 → ∀ (H : Heap) (locs : List Loc) (ls : Array Slot) (rest : List Value), va_P D vwCl (xenc cA (xv ad ρ fm) ad C) H → va_S A s.heap H locs → W p l e R s m args below meth c H locs uc us Q (F0 m (pc + 1) ls (xv ad ρ fm v :: rest)) → W p l e R s m args below meth c H locs uc us Q (F0 m pc ls (.int x :: .ref (ad a) :: rest)) := by
    intro x a xs v hr hv ho h0 H locs ls rest hP hS k
    have hlt : x.toInt.toNat < xs.length := (List.getElem?_eq_some_iff.mp hv).1
    sorry
  unfold xbald at h
  split at h
  · next i a r =>
    split at h
    · exact z_ald r1 h
    · exact z_ald r2 h
  · exact absurd h id
end XHEAP
