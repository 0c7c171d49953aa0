/-! a step, a run, a method -/
section XRUN
variable {p : Program} {l : Launch} {e : Env} {R : Room} {s : State} {m : MethodId} {args : Array Value} {below : List Frame} {meth : Method} {c : Code} {D : va_G} {cA : Nat → ClassId} {ad : Nat → Nat} {ρ : Nat → Int32} {fm : Value} {A : Nat → Prop} {n0 : Nat} {mi : xMI} {LF : List xLf}
variable {pc : Nat} {lo : List (Option Value)} {st : List Value} {C : List xCel} {rg : xRG} {uc us : Nat}
theorem z_end (hE : xEnv p l e R s m args below meth c D cA ad fm A n0 mi) {v : Option Value} {st' : Value} (hA : ∀ q, A q → A q) {H : Heap} {locs : List Loc} (hR : xokR ρ rg) (hP : va_P D vwCl (xenc cA (xv ad ρ fm) ad C) H) (hD : va_D A (xenc cA (xv ad ρ fm) ad C)) (hS : va_S A s.heap H locs) (hn : C.length = n0 + mi.2.2.2.2.2.2.2.1 ∧ n0 + mi.2.2.2.2.2.2.2.1 ≤ xB) (hm : (v, C, rg) ∈ LF) (t : State) (ht : t.heap = H) (hW : s.WarmedH t.vm) : xQc D cA ad ρ fm A (n0 + mi.2.2.2.2.2.2.2.1) LF args s (.returned (v.map (xv ad ρ fm))) t :=
  ⟨⟨(v, C, rg), hm, hR, rfl, by rw [ht]; exact hP, va_K.moved hW.alike hE.2.2.2.2.2.1, hD, hn.1, hn.2⟩, hS.F ht⟩
theorem z_iret (hE : xEnv p l e R s m args below meth c D cA ad fm A n0 mi) (h2 : ¬ mi.2.2.2.2.2.1 = 2) (hdg : decode mi.2.1 pc = .ok (.ireturn, 1)) (h : xGood (xRn p l e R s m args below meth c D cA ad ρ fm A mi.2.2.2.2.1 n0 mi.2.2.2.2.2.2.2.1 mi.2.2.2.2.2.2.2.2.1 (MQ below (xQc D cA ad ρ fm A (n0 + mi.2.2.2.2.2.2.2.1) LF) args s mi.2.2.2.2.2.2.2.1 mi.2.2.2.2.2.2.2.2.1 A)) (fun lf => lf ∈ LF) (xret st C rg uc us mi.2.2.2.2.2.2.2.1 mi.2.2.2.2.2.2.2.2.1 mi.2.2.2.2.2.1)) : xRn p l e R s m args below meth c D cA ad ρ fm A mi.2.2.2.2.1 n0 mi.2.2.2.2.2.2.2.1 mi.2.2.2.2.2.2.2.2.1 (MQ below (xQc D cA ad ρ fm A (n0 + mi.2.2.2.2.2.2.2.1) LF) args s mi.2.2.2.2.2.2.2.1 mi.2.2.2.2.2.2.2.2.1 A) (pc, lo, st, C, rg, uc, us) := by
  have hE2 := hE
  obtain ⟨hx, hb, hml, hown, hts, hK, hX, hret, hlk, -⟩ := hE2
  unfold xret at h
  split at h
  · next v =>
    split at h
    · next hq =>
      obtain ⟨q1, q2, q3⟩ := hq
      intro H locs ls hR hL hP hD hS hn
      have hn1 : C.length = n0 + uc := hn.1
      have hn4 : n0 + uc ≤ xB := hn.2.2.2
      refine W.widen (k := mi.2.2.2.2.2.2.2.1) (n := mi.2.2.2.2.2.2.2.2.1) (by show uc ≤ _; omega) q2 ?_
      have hq : ∀ t : State, t.heap = H → s.WarmedH t.vm → xQc D cA ad ρ fm A (n0 + mi.2.2.2.2.2.2.2.1) LF args s (.returned (some (xv ad ρ fm v))) t := z_end (C := C) (rg := rg) hE (v := some v) (st' := v) (fun _ z => z) hR hP hD hS ⟨by omega, by omega⟩ h
      cases hrk : mi.2.2.2.2.2.1 with
      | zero => rw [hrk] at q3; cases q3
      | succ k =>
        rw [hrk] at q3 hret
        match k, q3, hret with
        | 0, q3, hret =>
          obtain ⟨x, ex⟩ := xv_I (ad := ad) (ρ := ρ) (fm := fm) (show xisI v = true from q3)
          simp only [List.map_cons, List.map_nil, ex] at hq ⊢
          exact W.iret hx hb hret hq hS.2.2 hdg hlk
        | 1, q3, hret => exact absurd (by rw [hrk]) h2
        | 2, q3, hret =>
          unfold xrfit at q3
          split at q3
          · next heq => simp at heq
          · next heq => simp at heq
          · split at q3
            · next x hxx =>
              rw [Bool.or_eq_true, beq_iff_eq, beq_iff_eq] at q3
              have hnar : narrow .boolean (.int x) = .int x := by rcases q3 with rfl | rfl <;> rfl
              exact W.zret hx hb hret hnar hq hS.2.2 hdg hlk
            · cases q3
          · next heq => simp at heq
          · next heq => simp at heq
          · next h1 h2 h3 h4 h5 => exact absurd rfl h3
        | 3, q3, hret =>
          unfold xrfit at q3
          split at q3
          · next heq => simp at heq
          · next heq => simp at heq
          · next heq => simp at heq
          · split at q3
            · next x hxx =>
              rw [beq_iff_eq] at q3
              have hnar : narrow .byte (.int x) = .int x := by
                show Value.int _ = _
                rw [q3]
              exact W.zret hx hb hret hnar hq hS.2.2 hdg hlk
            · cases q3
          · next heq => simp at heq
          · next h1 h2 h3 h4 h5 => exact absurd rfl h4
        | 4, q3, hret =>
          unfold xrfit at q3
          split at q3
          · next heq => simp at heq
          · next heq => simp at heq
          · next heq => simp at heq
          · next heq => simp at heq
          · split at q3
            · next x hxx =>
              exact W.zret hx hb hret (of_decide_eq_true q3) hq hS.2.2 hdg hlk
            · cases q3
          · next h1 h2 h3 h4 h5 => exact absurd rfl h5
        | k + 5, q3, hret =>
          unfold xrfit at q3
          split at q3
          · next heq => simp at heq
          · next heq => simp at heq
          · next heq => simp at heq
          · next heq => simp at heq
          · next heq => simp at heq
          · cases q3
    · exact absurd h id
  · exact absurd h id
theorem z_lret (hE : xEnv p l e R s m args below meth c D cA ad fm A n0 mi) (h2 : mi.2.2.2.2.2.1 = 2) (hdg : decode mi.2.1 pc = .ok (.lreturn, 1)) (h : xGood (xRn p l e R s m args below meth c D cA ad ρ fm A mi.2.2.2.2.1 n0 mi.2.2.2.2.2.2.2.1 mi.2.2.2.2.2.2.2.2.1 (MQ below (xQc D cA ad ρ fm A (n0 + mi.2.2.2.2.2.2.2.1) LF) args s mi.2.2.2.2.2.2.2.1 mi.2.2.2.2.2.2.2.2.1 A)) (fun lf => lf ∈ LF) (xret st C rg uc us mi.2.2.2.2.2.2.2.1 mi.2.2.2.2.2.2.2.2.1 mi.2.2.2.2.2.1)) : xRn p l e R s m args below meth c D cA ad ρ fm A mi.2.2.2.2.1 n0 mi.2.2.2.2.2.2.2.1 mi.2.2.2.2.2.2.2.2.1 (MQ below (xQc D cA ad ρ fm A (n0 + mi.2.2.2.2.2.2.2.1) LF) args s mi.2.2.2.2.2.2.2.1 mi.2.2.2.2.2.2.2.2.1 A) (pc, lo, st, C, rg, uc, us) := by
  have hE2 := hE
  obtain ⟨hx, hb, hml, hown, hts, hK, hX, hret, hlk, -⟩ := hE2
  unfold xret at h
  split at h
  · next v =>
    split at h
    · next hq =>
      obtain ⟨q1, q2, q3⟩ := hq
      rw [h2] at q3 hret
      intro H locs ls hR hL hP hD hS hn
      have hn1 : C.length = n0 + uc := hn.1
      have hn4 : n0 + uc ≤ xB := hn.2.2.2
      refine W.widen (k := mi.2.2.2.2.2.2.2.1) (n := mi.2.2.2.2.2.2.2.2.1) (by show uc ≤ _; omega) q2 ?_
      have hq : ∀ t : State, t.heap = H → s.WarmedH t.vm → xQc D cA ad ρ fm A (n0 + mi.2.2.2.2.2.2.2.1) LF args s (.returned (some (xv ad ρ fm v))) t := z_end (C := C) (rg := rg) hE (v := some v) (st' := v) (fun _ z => z) hR hP hD hS ⟨by omega, by omega⟩ h
      obtain ⟨x, ex⟩ := xv_L (ad := ad) (ρ := ρ) (fm := fm) (show xisL v = true from q3)
      simp only [List.map_cons, List.map_nil, ex] at hq ⊢
      exact W.lret hx hb hret hq hS.2.2 hdg hlk
    · exact absurd h id
  · exact absurd h id
theorem z_vret (hE : xEnv p l e R s m args below meth c D cA ad fm A n0 mi) (h0 : mi.2.2.2.2.2.1 = 0) (huc : uc = mi.2.2.2.2.2.2.2.1) (hus : us ≤ mi.2.2.2.2.2.2.2.2.1) (hdg : decode mi.2.1 pc = .ok (.return_, 1)) (h : (none, C, rg) ∈ LF) : xRn p l e R s m args below meth c D cA ad ρ fm A mi.2.2.2.2.1 n0 mi.2.2.2.2.2.2.2.1 mi.2.2.2.2.2.2.2.2.1 (MQ below (xQc D cA ad ρ fm A (n0 + mi.2.2.2.2.2.2.2.1) LF) args s mi.2.2.2.2.2.2.2.1 mi.2.2.2.2.2.2.2.2.1 A) (pc, lo, [], C, rg, uc, us) := by
  have hE2 := hE
  obtain ⟨hx, hb, hml, hown, hts, hK, hX, hret, hlk, -⟩ := hE2
  rw [h0] at hret
  intro H locs ls hR hL hP hD hS hn
  have hn1 : C.length = n0 + uc := hn.1
  have hn4 : n0 + uc ≤ xB := hn.2.2.2
  refine W.widen (k := mi.2.2.2.2.2.2.2.1) (n := mi.2.2.2.2.2.2.2.2.1) (by show uc ≤ _; omega) hus ?_
  have hq : ∀ t : State, t.heap = H → s.WarmedH t.vm → xQc D cA ad ρ fm A (n0 + mi.2.2.2.2.2.2.2.1) LF args s (.returned none) t := z_end (C := C) (rg := rg) hE (v := none) (st' := .null) (fun _ z => z) hR hP hD hS ⟨by omega, by omega⟩ h
  exact W.vret hx hb hret hq hS.2.2 hdg hlk
end XRUN
