/-! more fuel never does harm -/
abbrev xCall : Type := Nat → List Value → List xCel → xRG → Option (List xLf)
def xLe (a b : xCall) : Prop := ∀ (j : Nat) (as : List Value) (C : List xCel) (rg : xRG) (l : List xLf), a j as C rg = some l → b j as C rg = some l
section XMONO
variable {pc : Nat} {lo : List (Option Value)} {st : List Value} {C : List xCel} {rg : xRG} {uc us : Nat}
theorem xcallR_mono {a b : Option (List xLf)} {u v : Nat} {r : List Value} {q} (h : ∀ l, a = some l → b = some l) (hq : xcallR pc lo u v r a = some q) : xcallR pc lo u v r b = some q := by
  cases a with
  | none => cases hq
  | some l => rw [h l rfl]; exact hq
theorem xcall_mono {a b : xCall} (h : xLe a b) {mc ms kd j : Nat} {q} (hq : xcall pc lo st C rg uc us a mc ms kd j = some q) : xcall pc lo st C rg uc us b mc ms kd j = some q := by
  unfold xcall at hq ⊢
  split at hq
  · next y cl own na w1 w2 kd' mc' ms' tb hm =>
    try rw [hm]
    try simp only at hq ⊢
    split at hq
    · next hk =>
      try rw [if_pos hk]
      split at hq
      · next as r hp =>
        try rw [hp]
        try simp only
        split at hq
        · next hc =>
          try rw [if_pos hc]
          simp only [xfN_eq] at hq ⊢
          exact xcallR_mono (fun l hl => h _ _ _ _ _ hl) hq
        · cases hq
      · cases hq
    · cases hq
  · cases hq
theorem xspec_mono {a b : Nat → xRes} (h : ∀ j q, a j = some q → b j = some q) {kd own idx : Nat} {q} (hq : xspec pc lo st C rg uc us kd own idx a = some q) : xspec pc lo st C rg uc us kd own idx b = some q := by
  unfold xspec at hq ⊢
  split at hq
  · exact hq
  · exact hq
  · exact hq
  · exact hq
  · exact hq
  · next j _ _ _ _ _ hj => exact h _ _ hq
  · cases hq
theorem xstepI_mono {a b : xCall} (h : xLe a b) {own mx rk kd mc ms : Nat} {I : Instr} {len : Nat} {q} (hq : xstepI a own mx rk kd mc ms I len pc lo st C rg uc us = some q) : xstepI b own mx rk kd mc ms I len pc lo st C rg uc us = some q := by
  cases I <;> first
    | exact hq
    | exact xspec_mono (a := xcall pc lo st C rg uc us a mc ms 0) (b := xcall pc lo st C rg uc us b mc ms 0) (kd := 0) (fun j q hj => xcall_mono h hj) hq
    | exact xspec_mono (a := xcall pc lo st C rg uc us a mc ms 1) (b := xcall pc lo st C rg uc us b mc ms 1) (kd := 1) (fun j q hj => xcall_mono h hj) hq
    | exact xspec_mono (a := xcall pc lo st C rg uc us a mc ms 2) (b := xcall pc lo st C rg uc us b mc ms 2) (kd := 2) (fun j q hj => xcall_mono h hj) hq
    | (rename_i t; cases t <;> exact hq)
    | (rename_i t n; rcases n with _ | _ | _ | n <;> exact hq)
end XMONO
theorem xstep_mono {a b : xCall} (h : xLe a b) {mi : xMI} {f : xFr} {q} (hq : xstep a mi f = some q) : xstep b mi f = some q := by
  obtain ⟨pc, lo, st, C, rg, uc, us⟩ := f
  obtain ⟨y, cl, own, na, mx, rk, kd, mc, ms, tb⟩ := mi
  unfold xstep at hq ⊢
  simp only [xfN_eq] at hq ⊢
  split at hq
  · next I len hf =>
    try rw [hf]
    exact xstepI_mono h hq
  · cases hq
theorem xall_mono {g g' : xFr → Option (List xLf)} (h : ∀ f l, g f = some l → g' f = some l) : ∀ (fs : List xFr) (l : List xLf), xall g fs = some l → xall g' fs = some l
  | [], l, hl => hl
  | f :: fs, l, hl => by
    unfold xall at hl ⊢
    split at hl
    · cases hl
    · next a ha =>
      split at hl
      · cases hl
      · next b hb =>
        rw [h f a ha, xall_mono h fs b hb]
        exact hl
theorem xrun_mono {a b : xCall} (h : xLe a b) {mi : xMI} : ∀ (k m : Nat) (f : xFr) (l : List xLf), xrun a mi k f = some l → xrun b mi (k + m) f = some l
  | 0, _, _, _, hl => by cases hl
  | k + 1, m, f, l, hl => by
    rw [Nat.add_right_comm, xrun_succ]
    rw [xrun_succ] at hl
    split at hl
    · cases hl
    · next f' hs =>
      rw [xstep_mono h hs]
      exact xrun_mono h k m f' l hl
    · next r hs =>
      rw [xstep_mono h hs]
      exact hl
    · next fs hs =>
      rw [xstep_mono h hs]
      exact xall_mono (fun f l hf => xrun_mono h k m f l hf) fs l hl
theorem xexec_mono (k m : Nat) : ∀ d, xLe (xexec k d) (xexec (k + m) d)
  | 0 => fun _ _ _ _ _ h => by cases h
  | d + 1 => fun j as C rg l h => by
    unfold xexec at h ⊢
    split at h
    · next mi hm =>
      try rw [hm]
      try simp only
      split at h
      · next hw =>
        try rw [if_pos hw]
        exact xrun_mono (xexec_mono k m d) k m _ l h
      · cases h
    · cases h
