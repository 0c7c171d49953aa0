/-! the heap's instructions -/
noncomputable def kxT (ci : Nat) : Nat → FieldType := match ci with
  | 0 => tyX0
  | 1 => tyX1
  | 2 => tyX2
  | 3 => tyX3
  | 4 => tyX4
  | 5 => tyX5
  | 6 => tyX6
  | _ => tyX7
noncomputable def kxR (ci k : Nat) : Bool := match kxT ci k with
  | .object _ => xty ci k == 2
  | .array _ => xty ci k == 2
  | .int => xty ci k == 0
  | .boolean => xty ci k == 1
  | .long => xty ci k == 3
  | _ => false
noncomputable def kxD (ci k : Nat) : Bool := decide (defaultValue (kxT ci k) = vp_V (xDf.getD ci []) k)
def kxOK (ci : Nat) (q : vw_C) : Prop := (∀ w ∈ u_ws q.1 q.2.1 q.2.2, w ∈ wsL_law) ∧ (∀ k, k < q.2.2 → parseFieldDescriptor (q.2.1 k).2.2.1 = some (kxT ci k)) ∧ (∀ a, a < q.2.2 → ∀ b, b < q.2.2 → a ≠ b → (q.2.1 a).2.1 ≠ (q.2.1 b).2.1) ∧ (∀ k, k < q.2.2 → kxR ci k = true) ∧ (∀ k, k < q.2.2 → xfin ci k = (q.2.1 k).2.2.2) ∧ (∀ k, k < q.2.2 → (q.2.1 k).1 = xcn ci) ∧ (∀ k, k < q.2.2 → kxD ci k = true) ∧ (xDf.getD ci []).length = q.2.2 ∧ ci < 8
set_option maxRecDepth 100000 in
theorem kx_ok : ∀ (ci : Nat) (q : vw_C), vwCl[ci]? = some q → kxOK ci q
  | 0, q, h => by cases h; exact ⟨inlX0, tyX0_ok, nmX0, by decide +kernel, by decide +kernel, by decide +kernel, by decide +kernel, rfl, by decide⟩
  | 1, q, h => by cases h; exact ⟨inlX1, tyX1_ok, nmX1, by decide +kernel, by decide +kernel, by decide +kernel, by decide +kernel, rfl, by decide⟩
  | 2, q, h => by cases h; exact ⟨inlX2, tyX2_ok, nmX2, by decide +kernel, by decide +kernel, by decide +kernel, by decide +kernel, rfl, by decide⟩
  | 3, q, h => by cases h; exact ⟨inlX3, tyX3_ok, nmX3, by decide +kernel, by decide +kernel, by decide +kernel, by decide +kernel, rfl, by decide⟩
  | 4, q, h => by cases h; exact ⟨inlX4, tyX4_ok, nmX4, by decide +kernel, by decide +kernel, by decide +kernel, by decide +kernel, rfl, by decide⟩
  | 5, q, h => by cases h; exact ⟨inlX5, tyX5_ok, nmX5, by decide +kernel, by decide +kernel, by decide +kernel, by decide +kernel, rfl, by decide⟩
  | 6, q, h => by cases h; exact ⟨inlX6, tyX6_ok, nmX6, by decide +kernel, by decide +kernel, by decide +kernel, by decide +kernel, rfl, by decide⟩
  | 7, q, h => by cases h; exact ⟨inlX7, tyX7_ok, nmX7, by decide +kernel, by decide +kernel, by decide +kernel, by decide +kernel, rfl, by decide⟩
  | n + 8, q, h => by simp [vwCl] at h
theorem xfits_ok {ad : Nat → Nat} {ρ : Nat → Int32} {fm : Value} {rg : xRG} (hf : xokF fm) {ci k : Nat} {v : Value} (hk : kxR ci k = true) (h : xfits rg (xty ci k) v = true) : narrow (kxT ci k) (xv ad ρ fm v) = xv ad ρ fm v ∧ fits (kxT ci k) (xv ad ρ fm v) = true := by
  unfold kxR at hk
  split at hk
  · next q =>
    rw [beq_iff_eq] at hk
    rw [hk] at h
    rcases xv_R (ad := ad) (ρ := ρ) hf (show xisR v = true from h) with e | ⟨a, e⟩ <;> rw [e] <;> simp_all [narrow, fits]
  · next q =>
    rw [beq_iff_eq] at hk
    rw [hk] at h
    rcases xv_R (ad := ad) (ρ := ρ) hf (show xisR v = true from h) with e | ⟨a, e⟩ <;> rw [e] <;> simp_all [narrow, fits]
  · next q =>
    rw [beq_iff_eq] at hk
    rw [hk] at h
    obtain ⟨x, e⟩ := xv_I (ad := ad) (ρ := ρ) (fm := fm) (show xisI v = true from h)
    rw [e, q]
    exact ⟨rfl, rfl⟩
  · next q =>
    rw [beq_iff_eq] at hk
    rw [hk] at h
    unfold xfits at h
    split at h
    · next heq => cases heq
    · next heq =>
      split at h
      · next x =>
        rw [Bool.or_eq_true, beq_iff_eq, beq_iff_eq] at h
        rw [q]
        rcases h with rfl | rfl
        · exact ⟨rfl, rfl⟩
        · exact ⟨rfl, rfl⟩
      · cases h
    · next h1 => cases h1
    · next h1 h2 h3 => exact absurd rfl h2
  · next q =>
    rw [beq_iff_eq] at hk
    rw [hk] at h
    obtain ⟨x, e⟩ := xv_L (ad := ad) (ρ := ρ) (fm := fm) (show xisL v = true from h)
    rw [e, q]
    exact ⟨rfl, rfl⟩
  · cases hk
theorem xencC_o {cA : Nat → ClassId} {V : Value → Value} {t : Nat} {fs : List Value} (h : t < 100) : xencC cA V (t, fs) = .inr (t, fs.map V) := by
  unfold xencC; rw [if_pos h]
theorem xencC_i {cA : Nat → ClassId} {V : Value → Value} {t : Nat} {xs : List Value} (h : 100 ≤ t) (h2 : t < 102) : xencC cA V (t, xs) = .inl (cA t, xs.length, .inl (fun j => xI (V (xs.getD j .null)))) := by
  unfold xencC; rw [if_neg (by simp; omega), if_pos (by simpa using h2)]
theorem xencC_q {cA : Nat → ClassId} {V : Value → Value} {t : Nat} {xs : List Value} (h : 102 ≤ t) : xencC cA V (t, xs) = .inl (cA t, xs.length, .inr (.inr (.inr (.inr (fun j => xR (V (xs.getD j .null))))))) := by
  unfold xencC; rw [if_neg (by simp; omega), if_neg (by simp; omega)]
theorem xvpin {x : Int32} {n : Nat} (h : ¬ x.toInt < 0) (h2 : x.toInt.toNat < n) : vp_in x n := vp_in_iff.mpr ⟨by omega, by omega⟩
theorem xtn (x : Int32) : x.toNatClampNeg = x.toInt.toNat := rfl
theorem xgetD {α : Type} {l : List α} {i : Nat} {v d : α} (h : l[i]? = some v) : l.getD i d = v := by
  rw [List.getD_eq_getElem?_getD, h]; rfl
theorem xgetD_set {α : Type} (l : List α) (i j : Nat) (v d : α) (h : i < l.length) : (l.set i v).getD j d = if j = i then v else l.getD j d := by
  rw [List.getD_eq_getElem?_getD, List.getD_eq_getElem?_getD]
  by_cases e : j = i
  · subst e; rw [if_pos rfl, List.getElem?_set_self h]; rfl
  · rw [if_neg e, List.getElem?_set_ne (Ne.symm e)]
theorem xstr_ix (b : Nat) (h1 : xB + 10 ≤ b) (h2 : b < xB + 23) : ∃ i, i < 13 ∧ b = xB + 10 + i := ⟨b - (xB + 10), by omega, by omega⟩
theorem xadd_sub (b : Nat) (h : ¬ b < xB) : xB + (b - xB) = b := by omega
section XHEAP
variable {p : Program} {l : Launch} {e : Env} {R : Room} {s : State} {m : MethodId} {args : Array Value} {below : List Frame} {meth : Method} {c : Code} {D : va_G} {cA : Nat → ClassId} {ad : Nat → Nat} {ρ : Nat → Int32} {fm : Value} {A : Nat → Prop} {n0 : Nat} {mi : xMI} {Q : State → Prop} {L : xLf → Prop}
variable {pc : Nat} {lo : List (Option Value)} {st : List Value} {C : List xCel} {rg : xRG} {uc us : Nat}
theorem z_get (hE : xEnv p l e R s m args below meth c D cA ad fm A n0 mi) {idx : Nat} (hdg : decode mi.2.1 pc = .ok (.getfield idx, 3)) (h : xGood (xRn p l e R s m args below meth c D cA ad ρ fm A mi.2.2.2.2.1 n0 mi.2.2.2.2.2.2.2.1 mi.2.2.2.2.2.2.2.2.1 Q) L (xget pc lo st C rg uc us mi.2.2.1 idx)) : xRn p l e R s m args below meth c D cA ad ρ fm A mi.2.2.2.2.1 n0 mi.2.2.2.2.2.2.2.1 mi.2.2.2.2.2.2.2.2.1 Q (pc, lo, st, C, rg, uc, us) := by
  obtain ⟨hx, hb, hml, hown, hts, hK, hX, -⟩ := hE
  unfold xget at h
  split at h
  · next ci k hf =>
    have hfl := xfl_ok hf
    split at h
    · next a r =>
      split at h
      · next hci =>
        split at h
        · next ha =>
          have hlink : Cond.fieldLink (xcn mi.2.2.1) idx "java/lang/String" (if k = 0 then "value" else "coder") (if k = 0 then "[B" else "B") ∈ wsL_law := by
            rcases hfl with ⟨q, hq, -⟩ | ⟨-, hl⟩
            · have := (kx_ok _ _ hq).2.2.2.2.2.2.2.2
              simp only at this
              omega
            · exact hl
          obtain ⟨i, hi, rfl⟩ := xstr_ix a ha.1 ha.2
          obtain ⟨-, f1, f2, -⟩ := hX.2.2.1.1 i hi
          split at h
          · next hk =>
            rw [if_pos hk, if_pos hk] at hlink
            intro H locs ls hR hL hP hD hS hn
            refine vk_getf hx hb f2 hS hown (hts _ hlink) (fun _ q => q) hdg ?_
            have h2 := h H locs ls hR hL hP hD hS hn
            have e1 : xv ad ρ fm (.ref (xB + 10 + i + 20)) = .ref (ad (xB + 30 + i)) := by rw [xv]; congr 2; omega
            simp only [List.map_cons, e1] at h2
            exact h2
          · next hk =>
            rw [if_neg hk, if_neg hk] at hlink
            intro H locs ls hR hL hP hD hS hn
            exact vk_getf hx hb f1 hS hown (hts _ hlink) (fun _ q => q) hdg (h H locs ls hR hL hP hD hS hn)
        · exact absurd h id
      · next hci =>
        rw [xnth_eq] at h
        split at h
        · next tag fs hc =>
          split at h
          · next ht =>
            subst ht
            rw [xnth_eq] at h
            split at h
            · next v hv =>
              rcases hfl with ⟨q, hq, hk, hl⟩ | ⟨h200, -⟩
              · obtain ⟨o1, -, -, -, -, -, -, -, o9⟩ := kx_ok _ _ hq
                intro H locs ls hR hL hP hD hS hn
                have he := xenc_get (cA := cA) (V := xv ad ρ fm) (ad := ad) hc
                rw [xencC_o (by simp only at o9; omega)] at he
                exact va_get (D := D) (Ts := wsL_law) hx hb hts o1 hown hK hP a he (C := q.1) (T := q.2.1) (N := q.2.2) hq k hk (hts _ hl) (fun _ z => z) (v := xv ad ρ fm v) (by rw [List.getElem?_map, hv]; rfl) hdg (h H locs ls hR hL hP hD hS hn)
              · exact absurd h200 hci
            · exact absurd h id
          · exact absurd h id
        · exact absurd h id
    · exact absurd h id
  · exact absurd h id
theorem z_put (hE : xEnv p l e R s m args below meth c D cA ad fm A n0 mi) {idx : Nat} (hdg : decode mi.2.1 pc = .ok (.putfield idx, 3)) (h : xGood (xRn p l e R s m args below meth c D cA ad ρ fm A mi.2.2.2.2.1 n0 mi.2.2.2.2.2.2.2.1 mi.2.2.2.2.2.2.2.2.1 Q) L (xput pc lo st C rg uc us mi.2.2.2.2.2.2.1 mi.2.2.1 idx)) : xRn p l e R s m args below meth c D cA ad ρ fm A mi.2.2.2.2.1 n0 mi.2.2.2.2.2.2.2.1 mi.2.2.2.2.2.2.2.2.1 Q (pc, lo, st, C, rg, uc, us) := by
  have hF := z_F hE
  obtain ⟨hx, hb, hml, hown, hts, hK, hX, -, -, hinit, -⟩ := hE
  unfold xput at h
  split at h
  · next ci k hf =>
    have hfl := xfl_ok hf
    split at h
    · next v a r =>
      rw [xnth_eq] at h
      split at h
      · next tag fs hc =>
        split at h
        · next ht =>
          obtain ⟨rfl, ht2, ht3⟩ := ht
          split at h
          · next hfit =>
            split at h
            · next hfin =>
              rw [xset_eq, xset_eq] at h
              rcases hfl with ⟨q, hq, hk, hl⟩ | ⟨h200, -⟩
              · obtain ⟨o1, o2, o3, o4, o5, o6, o7, o8, o9⟩ := kx_ok _ _ hq
                obtain ⟨f1, f2⟩ := xfits_ok (ad := ad) (ρ := ρ) hF (o4 k hk) hfit
                intro H locs ls hR hL hP hD hS hn
                have he := xenc_get (cA := cA) (V := xv ad ρ fm) (ad := ad) hc
                rw [xencC_o ht2] at he
                have eset : (xenc cA (xv ad ρ fm) ad C).set a (ad a, .inr (tag, (fs.map (xv ad ρ fm)).set k (xv ad ρ fm v))) = xenc cA (xv ad ρ fm) ad (C.set a (tag, fs.set k v)) := by
                  rw [xenc_set, xencC_o ht2, List.map_set]
                have hlen : (C.set a (tag, fs.set k v)).length = n0 + uc ∧ uc ≤ mi.2.2.2.2.2.2.2.1 ∧ us ≤ mi.2.2.2.2.2.2.2.2.1 ∧ n0 + uc ≤ xB := ⟨by rw [List.length_set]; exact hn.1, hn.2⟩
                cases hff : (q.2.1 k).2.2.2 with
                | false =>
                  refine va_put (D := D) (Ts := wsL_law) hx hb hts o1 (kxT tag) o2 o3 hown hK hP hD hS a he (C := q.1) (T := q.2.1) (N := q.2.2) hq k hk (hts _ hl) (fun _ z => z) hff (o2 k hk) f1 f2 (by rw [List.length_map]; exact ht3) hdg (fun H1 locs1 hP1 hD1 hS1 => ?_)
                  rw [eset] at hP1 hD1
                  exact h H1 locs1 ls hR hL hP1 hD1 hS1 hlen
                | true =>
                  have hq2 : mi.2.2.2.2.2.2.1 = 2 ∧ mi.2.2.1 = tag := by
                    rcases hfin with z | z
                    · rw [o5 k hk, hff] at z; cases z
                    · exact z
                  refine va_putF (D := D) (Ts := wsL_law) hx hb hts o1 (kxT tag) o2 o3 hown hK hP hD hS a he (C := q.1) (T := q.2.1) (N := q.2.2) hq k hk (hts _ hl) (fun _ z => z) hff (hinit hq2.1) (by rw [o6 k hk, hq2.2]) (o2 k hk) f1 f2 (by rw [List.length_map]; exact ht3) hdg (fun H1 locs1 hP1 hD1 hS1 => ?_)
                  rw [eset] at hP1 hD1
                  exact h H1 locs1 ls hR hL hP1 hD1 hS1 hlen
              · simp only at h200; omega
            · exact absurd h id
          · exact absurd h id
        · exact absurd h id
      · exact absurd h id
    · exact absurd h id
  · exact absurd h id
theorem z_stv : ∀ q ∈ xStat, ∀ ρ' : Nat → Int32, xv ad ρ' fm q.2.2.2 = xv ad (fun _ => 0) fm q.2.2.2 := by
  intro q hq ρ'
  simp only [xStat, List.mem_cons, List.not_mem_nil, or_false] at hq
  rcases hq with rfl | rfl | rfl | rfl | rfl <;> rfl
theorem z_gets (hE : xEnv p l e R s m args below meth c D cA ad fm A n0 mi) {idx : Nat} (hdg : decode mi.2.1 pc = .ok (.getstatic idx, 3)) (h : xGood (xRn p l e R s m args below meth c D cA ad ρ fm A mi.2.2.2.2.1 n0 mi.2.2.2.2.2.2.2.1 mi.2.2.2.2.2.2.2.2.1 Q) L (xgets pc lo st C rg uc us mi.2.2.1 idx)) : xRn p l e R s m args below meth c D cA ad ρ fm A mi.2.2.2.2.1 n0 mi.2.2.2.2.2.2.2.1 mi.2.2.2.2.2.2.2.2.1 Q (pc, lo, st, C, rg, uc, us) := by
  obtain ⟨hx, hb, hml, hown, hts, hK, hX, -⟩ := hE
  unfold xgets at h
  split at h
  · next k hk =>
    rw [xnth_eq] at h
    split at h
    · next q hq =>
      have hm := List.mem_of_getElem? hq
      have hl := xgs_ok hk q hq
      intro H locs ls hR hL hP hD hS hn
      have hZ := hX.1 q hm
      rw [← z_stv (ad := ad) (fm := fm) q hm ρ] at hZ
      exact va_gets hx hb hZ hS hown (hts _ hl) (fun _ z => z) hdg (h H locs ls hR hL hP hD hS hn)
    · exact absurd h id
  · exact absurd h id
theorem z_ald {tag : Nat} {ok : Value → Bool} (row : ∀ (x : Int32) (a : Nat) (xs : List Value) (v : Value), xrow C tag a = some xs → xs[x.toInt.toNat]? = some v → ok v = true → ¬ x.toInt < 0 → ∀ (H : Heap) (locs : List Loc) (ls : Array Slot) (rest : List Value), va_P D vwCl (xenc cA (xv ad ρ fm) ad C) H → va_S A s.heap H locs → W p l e R s m args below meth c H locs uc us Q (F0 m (pc + 1) ls (xv ad ρ fm v :: rest)) → W p l e R s m args below meth c H locs uc us Q (F0 m pc ls (.int x :: .ref (ad a) :: rest))) (h : xGood (xRn p l e R s m args below meth c D cA ad ρ fm A mi.2.2.2.2.1 n0 mi.2.2.2.2.2.2.2.1 mi.2.2.2.2.2.2.2.2.1 Q) L (xald pc lo st C rg uc us tag ok)) : xRn p l e R s m args below meth c D cA ad ρ fm A mi.2.2.2.2.1 n0 mi.2.2.2.2.2.2.2.1 mi.2.2.2.2.2.2.2.2.1 Q (pc, lo, st, C, rg, uc, us) := by
  unfold xald at h
  split at h
  · next i a r =>
    split at h
    · next x hx =>
      split at h
      · exact absurd h id
      · next h0 =>
        split at h
        · next xs hxs =>
          rw [xnth_eq] at h
          split at h
          · next v hv =>
            split at h
            · next ho =>
              intro H locs ls hR hL hP hD hS hn
              have e1 := xci_ok (ad := ad) (fm := fm) hR hx
              have h2 := h H locs ls hR hL hP hD hS hn
              simp only [List.map_cons, e1]
              exact row x a xs v hxs hv ho h0 H locs ls _ hP hS h2
            · exact absurd h id
          · exact absurd h id
        · exact absurd h id
    · exact z_fork (fun hR => xcov_cs hR _) h
  · exact absurd h id
theorem z_ald' {i : Value} {a : Nat} {r : List Value} {tag : Nat} {ok : Value → Bool} (row : ∀ (x : Int32) (xs : List Value) (v : Value), xrow C tag a = some xs → xs[x.toInt.toNat]? = some v → ok v = true → ¬ x.toInt < 0 → ∀ (H : Heap) (locs : List Loc) (ls : Array Slot) (rest : List Value), va_P D vwCl (xenc cA (xv ad ρ fm) ad C) H → va_S A s.heap H locs → W p l e R s m args below meth c H locs uc us Q (F0 m (pc + 1) ls (xv ad ρ fm v :: rest)) → W p l e R s m args below meth c H locs uc us Q (F0 m pc ls (.int x :: .ref (ad a) :: rest))) (h : xGood (xRn p l e R s m args below meth c D cA ad ρ fm A mi.2.2.2.2.1 n0 mi.2.2.2.2.2.2.2.1 mi.2.2.2.2.2.2.2.2.1 Q) L (xald pc lo (i :: .ref a :: r) C rg uc us tag ok)) : xRn p l e R s m args below meth c D cA ad ρ fm A mi.2.2.2.2.1 n0 mi.2.2.2.2.2.2.2.1 mi.2.2.2.2.2.2.2.2.1 Q (pc, lo, i :: .ref a :: r, C, rg, uc, us) := by
  dsimp only [xald] at h
  · split at h
    · next x hx =>
      split at h
      · exact absurd h id
      · next h0 =>
        split at h
        · next xs hxs =>
          rw [xnth_eq] at h
          split at h
          · next v hv =>
            split at h
            · next ho =>
              intro H locs ls hR hL hP hD hS hn
              have e1 := xci_ok (ad := ad) (fm := fm) hR hx
              have h2 := h H locs ls hR hL hP hD hS hn
              simp only [List.map_cons, e1]
              exact row x xs v hxs hv ho h0 H locs ls _ hP hS h2
            · exact absurd h id
          · exact absurd h id
        · exact absurd h id
    · exact z_fork (fun hR => xcov_cs hR _) h
theorem z_row {tag a : Nat} {xs : List Value} (ha : a < xB) (h : xrow C tag a = some xs) : C[a]? = some (tag, xs) := by
  unfold xrow at h
  rw [if_pos ha, xnth_eq] at h
  split at h
  · next t ys hc =>
    split at h
    · next ht => cases h; rw [hc, ht]
    · cases h
  · cases h
theorem z_iaload (hE : xEnv p l e R s m args below meth c D cA ad fm A n0 mi) (hdg : decode mi.2.1 pc = .ok (.iaload, 1)) (h : xGood (xRn p l e R s m args below meth c D cA ad ρ fm A mi.2.2.2.2.1 n0 mi.2.2.2.2.2.2.2.1 mi.2.2.2.2.2.2.2.2.1 Q) L (xald pc lo st C rg uc us 100 xisI)) : xRn p l e R s m args below meth c D cA ad ρ fm A mi.2.2.2.2.1 n0 mi.2.2.2.2.2.2.2.1 mi.2.2.2.2.2.2.2.2.1 Q (pc, lo, st, C, rg, uc, us) := by
  obtain ⟨hx, hb, hml, hown, hts, hK, hX, -⟩ := hE
  refine z_ald (fun x a xs v hr hv ho h0 H locs ls rest hP hS k => ?_) h
  have hlt : x.toInt.toNat < xs.length := (List.getElem?_eq_some_iff.mp hv).1
  obtain ⟨y, ey⟩ := xv_I (ad := ad) (ρ := ρ) (fm := fm) ho
  by_cases ha : a < xB
  · have he := xenc_get (cA := cA) (V := xv ad ρ fm) (ad := ad) (z_row ha hr)
    rw [xencC_i (Nat.le_refl _) (by decide)] at he
    refine va_iald hx hb hK hP a 0 he rfl (xvpin h0 hlt) hdg ?_
    rw [xtn, xgetD hv, ey]
    rw [ey] at k
    exact k
  · unfold xrow at hr
    rw [if_neg ha, if_pos rfl, xnth_eq] at hr
    split at hr
    · next tl htl =>
      split at hr
      · next h3 =>
        cases hr
        have hT := hX.2.1 _ _ htl
        rw [xadd_sub a ha] at hT
        rw [List.length_map] at hlt
        refine va_ti hx hb hT hS (xvpin h0 hlt) rfl hdg ?_
        rw [List.getElem?_map] at hv
        cases hq : tl[x.toInt.toNat]? with
        | none => rw [hq] at hv; cases hv
        | some z =>
          rw [hq] at hv
          cases hv
          rw [xtn, xgetD hq]
          exact k
      · cases hr
    · cases hr
theorem z_baload (hE : xEnv p l e R s m args below meth c D cA ad fm A n0 mi) (hdg : decode mi.2.1 pc = .ok (.baload, 1)) (h : xGood (xRn p l e R s m args below meth c D cA ad ρ fm A mi.2.2.2.2.1 n0 mi.2.2.2.2.2.2.2.1 mi.2.2.2.2.2.2.2.2.1 Q) L (xbald pc lo st C rg uc us)) : xRn p l e R s m args below meth c D cA ad ρ fm A mi.2.2.2.2.1 n0 mi.2.2.2.2.2.2.2.1 mi.2.2.2.2.2.2.2.2.1 Q (pc, lo, st, C, rg, uc, us) := by
  obtain ⟨hx, hb, hml, hown, hts, hK, hX, -⟩ := hE
  have r1 : ∀ (x : Int32) (a : Nat) (xs : List Value) (v : Value), xrow C 101 a = some xs → xs[x.toInt.toNat]? = some v → xisI v = true → ¬ x.toInt < 0 → ∀ (H : Heap) (locs : List Loc) (ls : Array Slot) (rest : List Value), va_P D vwCl (xenc cA (xv ad ρ fm) ad C) H → va_S A s.heap H locs → W p l e R s m args below meth c H locs uc us Q (F0 m (pc + 1) ls (xv ad ρ fm v :: rest)) → W p l e R s m args below meth c H locs uc us Q (F0 m pc ls (.int x :: .ref (ad a) :: rest)) := by
    intro x a xs v hr hv ho h0 H locs ls rest hP hS k
    have hlt : x.toInt.toNat < xs.length := (List.getElem?_eq_some_iff.mp hv).1
    obtain ⟨y, ey⟩ := xv_I (ad := ad) (ρ := ρ) (fm := fm) ho
    by_cases ha : a < xB
    · have he := xenc_get (cA := cA) (V := xv ad ρ fm) (ad := ad) (z_row ha hr)
      rw [xencC_i (by decide) (by decide)] at he
      refine va_zald hx hb hK hP a 1 he rfl (xvpin h0 hlt) hdg ?_
      rw [xtn, xgetD hv, ey]
      rw [ey] at k
      exact k
    · unfold xrow at hr
      rw [if_neg ha, if_neg (by decide), if_neg (by decide)] at hr
      cases hr
  have r2 : ∀ (x : Int32) (a : Nat) (xs : List Value) (v : Value), ¬ a < xB → xrow C 105 a = some xs → xs[x.toInt.toNat]? = some v → xisI v = true → ¬ x.toInt < 0 → ∀ (H : Heap) (locs : List Loc) (ls : Array Slot) (rest : List Value), va_P D vwCl (xenc cA (xv ad ρ fm) ad C) H → va_S A s.heap H locs → W p l e R s m args below meth c H locs uc us Q (F0 m (pc + 1) ls (xv ad ρ fm v :: rest)) → W p l e R s m args below meth c H locs uc us Q (F0 m pc ls (.int x :: .ref (ad a) :: rest)) := by
    intro x a xs v ha hr hv ho h0 H locs ls rest hP hS k
    have hlt : x.toInt.toNat < xs.length := (List.getElem?_eq_some_iff.mp hv).1
    · unfold xrow at hr
      rw [if_neg ha, if_neg (by decide), if_pos rfl] at hr
      split at hr
      · next h30 =>
        rw [xnth_eq] at hr
        split at hr
        · next tl htl =>
          cases hr
          obtain ⟨i, rfl⟩ : ∃ i : Nat, i + (xB + 30) = a := ⟨_, Nat.sub_add_cancel h30⟩
          rw [Nat.add_sub_cancel] at htl
          have hi : i < 13 := (List.getElem?_eq_some_iff.mp htl).1
          obtain ⟨-, -, -, hT⟩ := hX.2.2.1.1 i hi
          have e1 : (xByt.map List.length).getD i 0 = tl.length := by
            rw [List.getD_eq_getElem?_getD, List.getElem?_map, htl]; rfl
          have e2 : xByt.getD i [] = tl := xgetD htl
          rw [e1, e2] at hT
          rw [List.length_map] at hlt
          rw [show i + (xB + 30) = xB + 30 + i from Nat.add_comm _ _]
          refine va_tb hx hb hT hS (xvpin h0 hlt) rfl hdg ?_
          rw [List.getElem?_map] at hv
          cases hq : tl[x.toInt.toNat]? with
          | none => rw [hq] at hv; cases hv
          | some z =>
            rw [hq] at hv
            cases hv
            rw [xtn, xgetD hq]
            exact k
        · cases hr
      · cases hr
  unfold xbald at h
  split at h
  · next i a r =>
    split at h
    · exact z_ald r1 h
    · next ha =>
      exact z_ald' (fun x xs v hr hv ho h0 H locs ls rest hP hS k => r2 x a xs v ha hr hv ho h0 H locs ls rest hP hS k) h
  · exact absurd h id
theorem z_aald (hE : xEnv p l e R s m args below meth c D cA ad fm A n0 mi) {tg : Nat} (ht : 102 ≤ tg) (ht2 : tg < 105) (hdg : decode mi.2.1 pc = .ok (.aaload, 1)) {i : Value} {a : Nat} {r : List Value} (hab : a < xB) (h : xGood (xRn p l e R s m args below meth c D cA ad ρ fm A mi.2.2.2.2.1 n0 mi.2.2.2.2.2.2.2.1 mi.2.2.2.2.2.2.2.2.1 Q) L (xald pc lo (i :: .ref a :: r) C rg uc us tg xisR)) : xRn p l e R s m args below meth c D cA ad ρ fm A mi.2.2.2.2.1 n0 mi.2.2.2.2.2.2.2.1 mi.2.2.2.2.2.2.2.2.1 Q (pc, lo, i :: .ref a :: r, C, rg, uc, us) := by
  have hF := z_F hE
  obtain ⟨hx, hb, hml, hown, hts, hK, hX, -⟩ := hE
  refine z_ald' (fun x xs v hr hv ho h0 H locs ls rest hP hS k => ?_) h
  have hlt : x.toInt.toNat < xs.length := (List.getElem?_eq_some_iff.mp hv).1
  have he := xenc_get (cA := cA) (V := xv ad ρ fm) (ad := ad) (z_row hab hr)
  rw [xencC_q ht] at he
  obtain ⟨k0, ty, hk0, hty⟩ : ∃ (k0 : Nat) (ty : FieldType), (xtys cA)[k0]? = some (cA tg, ty) ∧ ty.isReference = true := by
    rcases (by omega : tg = 102 ∨ tg = 103 ∨ tg = 104) with rfl | rfl | rfl
    · exact ⟨2, _, rfl, rfl⟩
    · exact ⟨3, _, rfl, rfl⟩
    · exact ⟨4, _, rfl, rfl⟩
  have hval : va_rf (xR (xv ad ρ fm (xs.getD x.toInt.toNat .null))) = xv ad ρ fm v := by
    rw [xgetD hv]
    rcases xv_R (ad := ad) (ρ := ρ) hF ho with e1 | ⟨q, e1⟩ <;> rw [e1] <;> rfl
  refine W.aald (v := xv ad ρ fm v) (ty := ty) hx hb (hP a _ he) ((hK.2 k0 _ hk0).1 xs.length (fun j => va_rf (xR (xv ad ρ fm (xs.getD j .null))))) hty (fun q => by cases q) (by show ¬ (x < 0 ∨ (arrV _ _ _).slots.size ≤ _); rw [arrV_size]; exact xvpin h0 hlt) (by show (arrV _ _ _).slots[_]? = _; rw [arrV_read _ _ (by rw [xtn]; exact hlt)]; exact congrArg some hval) rfl rfl hdg k
theorem z_aaload (hE : xEnv p l e R s m args below meth c D cA ad fm A n0 mi) (hdg : decode mi.2.1 pc = .ok (.aaload, 1)) (h : xGood (xRn p l e R s m args below meth c D cA ad ρ fm A mi.2.2.2.2.1 n0 mi.2.2.2.2.2.2.2.1 mi.2.2.2.2.2.2.2.2.1 Q) L (xaldq pc lo st C rg uc us)) : xRn p l e R s m args below meth c D cA ad ρ fm A mi.2.2.2.2.1 n0 mi.2.2.2.2.2.2.2.1 mi.2.2.2.2.2.2.2.2.1 Q (pc, lo, st, C, rg, uc, us) := by
  unfold xaldq at h
  split at h
  · next i a r =>
    rw [xnth_eq] at h
    split at h
    · next t xs hc =>
      split at h
      · next ht =>
        by_cases hab : a < xB
        · exact z_aald hE ht.1 ht.2 hdg hab h
        · refine z_ald' (fun x xs v hr hv ho h0 H locs ls rest hP hS k => ?_) h
          unfold xrow at hr
          rw [if_neg hab, if_neg (by omega), if_neg (by omega)] at hr
          cases hr
      · exact absurd h id
    · exact absurd h id
  · exact absurd h id
-- what is laid into a row
theorem z_ast {tag : Nat} (row : ∀ (x : Int32) (a : Nat) (xs : List Value) (v w : Value), C[a]? = some (tag, xs) → x.toInt.toNat < xs.length → ¬ x.toInt < 0 → xokR ρ rg → xtak C rg tag v = some w → ∀ (H : Heap) (locs : List Loc) (ls : Array Slot) (rest : List Value), va_P D vwCl (xenc cA (xv ad ρ fm) ad C) H → va_D A (xenc cA (xv ad ρ fm) ad C) → va_S A s.heap H locs → (∀ (H1 : Heap) (locs1 : List Loc), va_P D vwCl (xenc cA (xv ad ρ fm) ad (C.set a (tag, xs.set x.toInt.toNat w))) H1 → va_D A (xenc cA (xv ad ρ fm) ad (C.set a (tag, xs.set x.toInt.toNat w))) → va_S A s.heap H1 locs1 → W p l e R s m args below meth c H1 locs1 uc us Q (F0 m (pc + 1) ls rest)) → W p l e R s m args below meth c H locs uc us Q (F0 m pc ls (xv ad ρ fm v :: .int x :: .ref (ad a) :: rest))) (h : xGood (xRn p l e R s m args below meth c D cA ad ρ fm A mi.2.2.2.2.1 n0 mi.2.2.2.2.2.2.2.1 mi.2.2.2.2.2.2.2.2.1 Q) L (xast pc lo st C rg uc us tag)) : xRn p l e R s m args below meth c D cA ad ρ fm A mi.2.2.2.2.1 n0 mi.2.2.2.2.2.2.2.1 mi.2.2.2.2.2.2.2.2.1 Q (pc, lo, st, C, rg, uc, us) := by
  unfold xast at h
  split at h
  · next v i a r =>
    split at h
    · next x hx =>
      split at h
      · exact absurd h id
      · next h0 =>
        rw [xnth_eq] at h
        split at h
        · next t xs hc =>
          split at h
          · next ht =>
            obtain ⟨rfl, hlt⟩ := ht
            split at h
            · next w hw =>
              rw [xset_eq, xset_eq] at h
              intro H locs ls hR hL hP hD hS hn
              have e1 := xci_ok (ad := ad) (fm := fm) hR hx
              simp only [List.map_cons, e1]
              exact row x a xs v w hc hlt h0 hR hw H locs ls _ hP hD hS (fun H1 locs1 hP1 hD1 hS1 => h H1 locs1 ls hR hL hP1 hD1 hS1 ⟨by rw [List.length_set]; exact hn.1, hn.2⟩)
            · exact z_fork (fun hR => xcov_cs hR _) h
          · exact absurd h id
        · exact absurd h id
    · exact z_fork (fun hR => xcov_cs hR _) h
  · exact absurd h id
theorem z_iastore (hE : xEnv p l e R s m args below meth c D cA ad fm A n0 mi) (hdg : decode mi.2.1 pc = .ok (.iastore, 1)) (h : xGood (xRn p l e R s m args below meth c D cA ad ρ fm A mi.2.2.2.2.1 n0 mi.2.2.2.2.2.2.2.1 mi.2.2.2.2.2.2.2.2.1 Q) L (xast pc lo st C rg uc us 100)) : xRn p l e R s m args below meth c D cA ad ρ fm A mi.2.2.2.2.1 n0 mi.2.2.2.2.2.2.2.1 mi.2.2.2.2.2.2.2.2.1 Q (pc, lo, st, C, rg, uc, us) := by
  obtain ⟨hx, hb, hml, hown, hts, hK, hX, -⟩ := hE
  refine z_ast (fun x a xs v w hc hlt h0 hR hw H locs ls rest hP hD hS kk => ?_) h
  have he := xenc_get (cA := cA) (V := xv ad ρ fm) (ad := ad) hc
  rw [xencC_i (Nat.le_refl _) (by decide)] at he
  unfold xtak at hw
  rw [if_pos rfl] at hw
  split at hw
  · next ho =>
    cases hw
    obtain ⟨y, ey⟩ := xv_I (ad := ad) (ρ := ρ) (fm := fm) ho
    rw [ey]
    refine va_iast hx hb hK hP hD hS a 0 he rfl (xvpin h0 hlt) hdg (fun H1 locs1 hP1 hD1 hS1 => ?_)
    have eset : (xenc cA (xv ad ρ fm) ad C).set a (ad a, .inl (cA 100, xs.length, .inl (upd (fun j => xI (xv ad ρ fm (xs.getD j .null))) x.toNatClampNeg y))) = xenc cA (xv ad ρ fm) ad (C.set a (100, xs.set x.toInt.toNat v)) := by
      rw [xenc_set, xencC_i (Nat.le_refl _) (by decide), List.length_set]
      congr 6
      funext j
      rw [xgetD_set _ _ _ _ _ hlt]
      unfold upd
      rw [xtn]
      split
      · rw [ey]; rfl
      · rfl
    rw [eset] at hP1 hD1
    exact kk H1 locs1 hP1 hD1 hS1
  · cases hw
theorem z_bastore (hE : xEnv p l e R s m args below meth c D cA ad fm A n0 mi) (hdg : decode mi.2.1 pc = .ok (.bastore, 1)) (h : xGood (xRn p l e R s m args below meth c D cA ad ρ fm A mi.2.2.2.2.1 n0 mi.2.2.2.2.2.2.2.1 mi.2.2.2.2.2.2.2.2.1 Q) L (xast pc lo st C rg uc us 101)) : xRn p l e R s m args below meth c D cA ad ρ fm A mi.2.2.2.2.1 n0 mi.2.2.2.2.2.2.2.1 mi.2.2.2.2.2.2.2.2.1 Q (pc, lo, st, C, rg, uc, us) := by
  obtain ⟨hx, hb, hml, hown, hts, hK, hX, -⟩ := hE
  refine z_ast (fun x a xs v w hc hlt h0 hR hw H locs ls rest hP hD hS kk => ?_) h
  have he := xenc_get (cA := cA) (V := xv ad ρ fm) (ad := ad) hc
  rw [xencC_i (by decide) (by decide)] at he
  unfold xtak at hw
  rw [if_neg (by decide), if_pos rfl] at hw
  split at hw
  · next y hy =>
    cases hw
    rw [xci_ok (ad := ad) (fm := fm) hR hy]
    refine va_zast hx hb hK hP hD hS a 1 he rfl (xvpin h0 hlt) hdg (fun H1 locs1 hP1 hD1 hS1 => ?_)
    have eset : (xenc cA (xv ad ρ fm) ad C).set a (ad a, .inl (cA 101, xs.length, .inl (upd (fun j => xI (xv ad ρ fm (xs.getD j .null))) x.toNatClampNeg (vp_nar .boolean y)))) = xenc cA (xv ad ρ fm) ad (C.set a (101, xs.set x.toInt.toNat (.int (vp_nar .boolean y)))) := by
      rw [xenc_set, xencC_i (by decide) (by decide), List.length_set]
      congr 6
      funext j
      rw [xgetD_set _ _ _ _ _ hlt]
      unfold upd
      rw [xtn]
      split
      · rfl
      · rfl
    rw [eset] at hP1 hD1
    exact kk H1 locs1 hP1 hD1 hS1
  · cases hw
theorem z_aast (hE : xEnv p l e R s m args below meth c D cA ad fm A n0 mi) {tag : Nat} (htag : tag = 102 ∨ tag = 103) (hdg : decode mi.2.1 pc = .ok (.aastore, 1)) (h : xGood (xRn p l e R s m args below meth c D cA ad ρ fm A mi.2.2.2.2.1 n0 mi.2.2.2.2.2.2.2.1 mi.2.2.2.2.2.2.2.2.1 Q) L (xast pc lo st C rg uc us tag)) : xRn p l e R s m args below meth c D cA ad ρ fm A mi.2.2.2.2.1 n0 mi.2.2.2.2.2.2.2.1 mi.2.2.2.2.2.2.2.2.1 Q (pc, lo, st, C, rg, uc, us) := by
  obtain ⟨hx, hb, hml, hown, hts, hK, hX, -⟩ := hE
  refine z_ast (fun x a xs v w hc hlt h0 hR hw H locs ls rest hP hD hS kk => ?_) h
  have he := xenc_get (cA := cA) (V := xv ad ρ fm) (ad := ad) hc
  rw [xencC_q (by omega)] at he
  unfold xtak at hw
  rw [if_neg (by omega), if_neg (by omega)] at hw
  split at hw
  · next b =>
    rw [xnth_eq] at hw
    split at hw
    · next t ys hcb =>
      split at hw
      · next hq =>
        cases hw
        have hb2 := xenc_get (cA := cA) (V := xv ad ρ fm) (ad := ad) hcb
        rw [xencC_o (by omega)] at hb2
        obtain ⟨k0, r, hk0, hr⟩ : ∃ (k0 : Nat) (r : vw_C), (xtys cA)[k0]? = some (cA tag, .object r.1) ∧ vwCl[t]? = some r := by
          rcases hq with ⟨rfl, rfl⟩ | ⟨rfl, rfl⟩
          · exact ⟨2, (RX5, TX5, 5), rfl, rfl⟩
          · exact ⟨3, (RX2, TX2, 3), rfl, rfl⟩
        refine va_astq hx hb hK hP hD hS a k0 b t he hk0 hb2 hr (xvpin h0 hlt) hdg (fun H1 locs1 hP1 hD1 hS1 => ?_)
        have eset : (xenc cA (xv ad ρ fm) ad C).set a (ad a, .inl (cA tag, xs.length, .inr (.inr (.inr (.inr (va_up (fun j => xR (xv ad ρ fm (xs.getD j .null))) x.toNatClampNeg (some (ad b)))))))) = xenc cA (xv ad ρ fm) ad (C.set a (tag, xs.set x.toInt.toNat (.ref b))) := by
          rw [xenc_set, xencC_q (by omega), List.length_set]
          congr 9
          funext j
          rw [xgetD_set _ _ _ _ _ hlt]
          unfold va_up
          rw [xtn]
          split
          · rfl
          · rfl
        rw [eset] at hP1 hD1
        exact kk H1 locs1 hP1 hD1 hS1
      · cases hw
    · cases hw
  · cases hw
theorem z_aastore (hE : xEnv p l e R s m args below meth c D cA ad fm A n0 mi) (hdg : decode mi.2.1 pc = .ok (.aastore, 1)) (h : xGood (xRn p l e R s m args below meth c D cA ad ρ fm A mi.2.2.2.2.1 n0 mi.2.2.2.2.2.2.2.1 mi.2.2.2.2.2.2.2.2.1 Q) L (xastq pc lo st C rg uc us)) : xRn p l e R s m args below meth c D cA ad ρ fm A mi.2.2.2.2.1 n0 mi.2.2.2.2.2.2.2.1 mi.2.2.2.2.2.2.2.2.1 Q (pc, lo, st, C, rg, uc, us) := by
  unfold xastq at h
  split at h
  · split at h
    · split at h
      · exact z_aast hE (Or.inl rfl) hdg h
      · split at h
        · exact z_aast hE (Or.inr rfl) hdg h
        · exact absurd h id
    · exact absurd h id
  · exact absurd h id
theorem z_alen (hE : xEnv p l e R s m args below meth c D cA ad fm A n0 mi) (hdg : decode mi.2.1 pc = .ok (.arraylength, 1)) (h : xGood (xRn p l e R s m args below meth c D cA ad ρ fm A mi.2.2.2.2.1 n0 mi.2.2.2.2.2.2.2.1 mi.2.2.2.2.2.2.2.2.1 Q) L (xalen pc lo st C rg uc us)) : xRn p l e R s m args below meth c D cA ad ρ fm A mi.2.2.2.2.1 n0 mi.2.2.2.2.2.2.2.1 mi.2.2.2.2.2.2.2.2.1 Q (pc, lo, st, C, rg, uc, us) := by
  obtain ⟨hx, hb, hml, hown, hts, hK, hX, -⟩ := hE
  unfold xalen at h
  split at h
  · next a r =>
    split at h
    · rw [xnth_eq] at h
      split at h
      · next t xs hc =>
        split at h
        · next ht =>
          rw [xfI_eq] at h
          intro H locs ls hR hL hP hD hS hn
          have he := xenc_get (cA := cA) (V := xv ad ρ fm) (ad := ad) hc
          obtain ⟨k0, ty, hk0⟩ : ∃ (k0 : Nat) (ty : FieldType), (xtys cA)[k0]? = some (cA t, ty) := by
            rcases (by omega : t = 100 ∨ t = 101 ∨ t = 102 ∨ t = 103 ∨ t = 104) with rfl | rfl | rfl | rfl | rfl
            · exact ⟨0, _, rfl⟩
            · exact ⟨1, _, rfl⟩
            · exact ⟨2, _, rfl⟩
            · exact ⟨3, _, rfl⟩
            · exact ⟨4, _, rfl⟩
          by_cases hi : t < 102
          · rw [xencC_i ht.1 hi] at he
            exact va_alen hx hb hK hP a k0 he hk0 rfl hdg (h H locs ls hR hL hP hD hS hn)
          · rw [xencC_q (by omega)] at he
            exact va_alen hx hb hK hP a k0 he hk0 rfl hdg (h H locs ls hR hL hP hD hS hn)
        · exact absurd h id
      · exact absurd h id
    · split at h
      · next h30 =>
        rw [xnth_eq] at h
        split at h
        · next tl htl =>
          rw [xfI_eq] at h
          obtain ⟨i, rfl⟩ : ∃ i : Nat, i + (xB + 30) = a := ⟨_, Nat.sub_add_cancel h30⟩
          rw [Nat.add_sub_cancel] at htl
          have hi : i < 13 := (List.getElem?_eq_some_iff.mp htl).1
          obtain ⟨-, -, -, hT⟩ := hX.2.2.1.1 i hi
          have e1 : (xByt.map List.length).getD i 0 = tl.length := by
            rw [List.getD_eq_getElem?_getD, List.getElem?_map, htl]; rfl
          rw [e1] at hT
          have hT : va_T .byte (ad (i + (xB + 30))) tl.length (fun j => .int ((xByt.getD i []).getD j 0)) A s s.heap := by
            rw [Nat.add_comm i]; exact hT
          intro H locs ls hR hL hP hD hS hn
          exact va_tlen hx hb hT hS rfl hdg (h H locs ls hR hL hP hD hS hn)
        · exact absurd h id
      · exact absurd h id
  · exact absurd h id
end XHEAP
