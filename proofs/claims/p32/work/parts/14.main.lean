/-! the whole of it: a run of the engine is a contract -/
section XMAIN
variable {p : Program} {l : Launch} {e : Env} {R : Room} {s : State} {m : MethodId} {args : Array Value} {below : List Frame} {meth : Method} {c : Code} {D : va_G} {cA : Nat → ClassId} {ad : Nat → Nat} {ρ : Nat → Int32} {fm : Value} {A : Nat → Prop} {n0 : Nat} {mi : xMI} {LF : List xLf}
variable {pc : Nat} {lo : List (Option Value)} {st : List Value} {C : List xCel} {rg : xRG} {uc us : Nat}
set_option maxHeartbeats 4000000 in
theorem z_stepI (hE : xEnv p l e R s m args below meth c D cA ad fm A n0 mi) {d : Nat} (hR : R.frames = d + 1 ∧ R.locals = 40 * (d + 1)) {call : Nat → List Value → List xCel → xRG → Option (List xLf)} (hcall : ∀ (j : Nat) (mi' : xMI) (as : List Value) (C : List xCel) (rg : xRG) (LF : List xLf), xmi j = some mi' → call j as C rg = some LF → xCt d mi' as C rg LF) {I : Instr} {len : Nat} (hdg : decode mi.2.1 pc = .ok (I, len)) (hlen : xlen I = 0 ∨ len = xlen I) (h : xGood (xRn p l e R s m args below meth c D cA ad ρ fm A mi.2.2.2.2.1 n0 mi.2.2.2.2.2.2.2.1 mi.2.2.2.2.2.2.2.2.1 (MQ below (xQc D cA ad ρ fm A (n0 + mi.2.2.2.2.2.2.2.1) LF) args s mi.2.2.2.2.2.2.2.1 mi.2.2.2.2.2.2.2.2.1 A)) (fun lf => lf ∈ LF) (xstepI call mi.2.2.1 mi.2.2.2.2.1 mi.2.2.2.2.2.1 mi.2.2.2.2.2.2.1 mi.2.2.2.2.2.2.2.1 mi.2.2.2.2.2.2.2.2.1 I len pc lo st C rg uc us)) : xRn p l e R s m args below meth c D cA ad ρ fm A mi.2.2.2.2.1 n0 mi.2.2.2.2.2.2.2.1 mi.2.2.2.2.2.2.2.2.1 (MQ below (xQc D cA ad ρ fm A (n0 + mi.2.2.2.2.2.2.2.1) LF) args s mi.2.2.2.2.2.2.2.1 mi.2.2.2.2.2.2.2.2.1 A) (pc, lo, st, C, rg, uc, us) := by
  cases I with
  | tableswitch d' low hi offs => exact z_table hE hdg h
  | lookupswitch d' ps => exact z_look hE hdg h
  | iload_n k => rcases hlen with z | rfl; (· cases z); exact z_iload_n hE hdg h
  | iload i => rcases hlen with z | rfl; (· cases z); exact z_iload hE hdg h
  | aload_n k => rcases hlen with z | rfl; (· cases z); exact z_aload_n hE hdg h
  | aload i => rcases hlen with z | rfl; (· cases z); exact z_aload hE hdg h
  | lload_n k => rcases hlen with z | rfl; (· cases z); exact z_lload_n hE hdg h
  | lload i => rcases hlen with z | rfl; (· cases z); exact z_lload hE hdg h
  | istore_n k => rcases hlen with z | rfl; (· cases z); exact z_istore_n hE hdg h
  | istore i => rcases hlen with z | rfl; (· cases z); exact z_istore hE hdg h
  | astore_n k => rcases hlen with z | rfl; (· cases z); exact z_astore_n hE hdg h
  | astore i => rcases hlen with z | rfl; (· cases z); exact z_astore hE hdg h
  | lstore_n k => rcases hlen with z | rfl; (· cases z); exact z_lstore_n hE hdg h
  | lstore i => rcases hlen with z | rfl; (· cases z); exact z_lstore hE hdg h
  | iconst n =>
    rcases hlen with z | rfl; (· cases z)
    intro H locs ls hR' hL hP hD hS hn
    exact lv_iconst hE.1 hE.2.1 hdg rfl (h H locs ls hR' hL hP hD hS hn)
  | bipush n =>
    rcases hlen with z | rfl; (· cases z)
    intro H locs ls hR' hL hP hD hS hn
    exact lv_bipush hE.1 hE.2.1 hdg rfl (h H locs ls hR' hL hP hD hS hn)
  | sipush n =>
    rcases hlen with z | rfl; (· cases z)
    intro H locs ls hR' hL hP hD hS hn
    exact lv_sipush hE.1 hE.2.1 hdg rfl (h H locs ls hR' hL hP hD hS hn)
  | lconst n =>
    rcases hlen with z | rfl; (· cases z)
    intro H locs ls hR' hL hP hD hS hn
    exact lv_lconst hE.1 hE.2.1 hdg rfl (h H locs ls hR' hL hP hD hS hn)
  | ldc idx =>
    rcases hlen with z | rfl; (· cases z)
    dsimp only [xstepI] at h
    split at h
    · next v hv => exact z_ldc hE hv hdg h
    · exact absurd h id
  | ldc_w idx =>
    rcases hlen with z | rfl; (· cases z)
    dsimp only [xstepI] at h
    split at h
    · next v hv =>
      intro H locs ls hR' hL hP hD hS hn
      exact lv_ldcw hE.1 hE.2.1 hE.2.2.2.1 (hE.2.2.2.2.1 _ (xco_ok hv)) hdg (h H locs ls hR' hL hP hD hS hn)
    · exact absurd h id
  | ldc2_w idx =>
    rcases hlen with z | rfl; (· cases z)
    dsimp only [xstepI] at h
    split at h
    · next v hv =>
      intro H locs ls hR' hL hP hD hS hn
      exact lv_ldc2 hE.1 hE.2.1 hE.2.2.2.1 (hE.2.2.2.2.1 _ (xcoL_ok hv)) hdg (h H locs ls hR' hL hP hD hS hn)
    · exact absurd h id
  | iadd => rcases hlen with z | rfl; (· cases z); exact z_add hE hdg h
  | isub =>
    rcases hlen with z | rfl; (· cases z)
    dsimp only [xstepI] at h
    refine z_bin ?_ h
    intro x y z hz H locs ls rest k
    cases hz
    exact lv_isub hE.1 hE.2.1 hdg k
  | imul =>
    rcases hlen with z | rfl; (· cases z)
    dsimp only [xstepI] at h
    refine z_bin ?_ h
    intro x y z hz H locs ls rest k
    cases hz
    exact lv_imul hE.1 hE.2.1 hdg k
  | iand =>
    rcases hlen with z | rfl; (· cases z)
    dsimp only [xstepI] at h
    refine z_bin ?_ h
    intro x y z hz H locs ls rest k
    cases hz
    exact lv_iand hE.1 hE.2.1 hdg k
  | ior =>
    rcases hlen with z | rfl; (· cases z)
    dsimp only [xstepI] at h
    refine z_bin ?_ h
    intro x y z hz H locs ls rest k
    cases hz
    exact lv_ior hE.1 hE.2.1 hdg k
  | ixor =>
    rcases hlen with z | rfl; (· cases z)
    dsimp only [xstepI] at h
    refine z_bin ?_ h
    intro x y z hz H locs ls rest k
    cases hz
    exact lv_ixor hE.1 hE.2.1 hdg k
  | ishl =>
    rcases hlen with z | rfl; (· cases z)
    dsimp only [xstepI] at h
    refine z_bin ?_ h
    intro x y z hz H locs ls rest k
    cases hz
    exact lv_ishl hE.1 hE.2.1 hdg k
  | ishr =>
    rcases hlen with z | rfl; (· cases z)
    dsimp only [xstepI] at h
    refine z_bin ?_ h
    intro x y z hz H locs ls rest k
    cases hz
    exact lv_ishr hE.1 hE.2.1 hdg k
  | iushr =>
    rcases hlen with z | rfl; (· cases z)
    dsimp only [xstepI] at h
    refine z_bin ?_ h
    intro x y z hz H locs ls rest k
    cases hz
    exact lv_iushr hE.1 hE.2.1 hdg rfl k
  | idiv =>
    rcases hlen with z | rfl; (· cases z)
    dsimp only [xstepI] at h
    refine z_bin ?_ h
    intro x y z hz H locs ls rest k
    split at hz
    · cases hz
    · next hne => cases hz; exact lv_idiv hE.1 hE.2.1 hdg hne k
  | irem =>
    rcases hlen with z | rfl; (· cases z)
    dsimp only [xstepI] at h
    refine z_bin ?_ h
    intro x y z hz H locs ls rest k
    split at hz
    · cases hz
    · next hne => cases hz; exact lv_irem hE.1 hE.2.1 hdg hne k
  | ineg =>
    rcases hlen with z | rfl; (· cases z)
    dsimp only [xstepI] at h
    refine z_un ?_ h
    intro x H locs ls rest k
    exact lv_ineg hE.1 hE.2.1 hdg k
  | i2b =>
    rcases hlen with z | rfl; (· cases z)
    dsimp only [xstepI] at h
    refine z_un ?_ h
    intro x H locs ls rest k
    exact lv_i2b hE.1 hE.2.1 hdg rfl k
  | i2s =>
    rcases hlen with z | rfl; (· cases z)
    dsimp only [xstepI] at h
    refine z_un ?_ h
    intro x H locs ls rest k
    exact lv_i2s hE.1 hE.2.1 hdg rfl k
  | i2c =>
    rcases hlen with z | rfl; (· cases z)
    dsimp only [xstepI] at h
    refine z_un ?_ h
    intro x H locs ls rest k
    exact lv_i2c hE.1 hE.2.1 hdg rfl k
  | ladd =>
    rcases hlen with z | rfl; (· cases z)
    dsimp only [xstepI] at h
    refine z_binL ?_ h
    intro x y z hz H locs ls rest k
    cases hz
    exact lv_ladd hE.1 hE.2.1 hdg k
  | lsub =>
    rcases hlen with z | rfl; (· cases z)
    dsimp only [xstepI] at h
    refine z_binL ?_ h
    intro x y z hz H locs ls rest k
    cases hz
    exact lv_lsub hE.1 hE.2.1 hdg k
  | lmul =>
    rcases hlen with z | rfl; (· cases z)
    dsimp only [xstepI] at h
    refine z_binL ?_ h
    intro x y z hz H locs ls rest k
    cases hz
    exact lv_lmul hE.1 hE.2.1 hdg k
  | ldiv =>
    rcases hlen with z | rfl; (· cases z)
    dsimp only [xstepI] at h
    refine z_binL ?_ h
    intro x y z hz H locs ls rest k
    split at hz
    · cases hz
    · next hne => cases hz; exact lv_ldiv hE.1 hE.2.1 hdg hne k
  | lrem =>
    rcases hlen with z | rfl; (· cases z)
    dsimp only [xstepI] at h
    refine z_binL ?_ h
    intro x y z hz H locs ls rest k
    split at hz
    · cases hz
    · next hne => cases hz; exact lv_lrem hE.1 hE.2.1 hdg hne k
  | i2l => rcases hlen with z | rfl; (· cases z); exact z_i2l hE hdg h
  | l2i => rcases hlen with z | rfl; (· cases z); exact z_l2i hE hdg h
  | lcmp => rcases hlen with z | rfl; (· cases z); exact z_lcmp hE hdg h
  | if_icmp cc off => rcases hlen with z | rfl; (· cases z); exact z_icmp hE hdg h
  | ifCond cc off => rcases hlen with z | rfl; (· cases z); exact z_if hE hdg h
  | goto off => rcases hlen with z | rfl; (· cases z); exact z_goto hE hdg h
  | iinc i n => rcases hlen with z | rfl; (· cases z); exact z_iinc hE hdg h
  | dup => rcases hlen with z | rfl; (· cases z); exact z_dup hE hdg h
  | dup2 => rcases hlen with z | rfl; (· cases z); exact z_dup2 hE hdg h
  | pop => rcases hlen with z | rfl; (· cases z); exact z_pop hE hdg h
  | getfield idx => rcases hlen with z | rfl; (· cases z); exact z_get hE hdg h
  | putfield idx => rcases hlen with z | rfl; (· cases z); exact z_put hE hdg h
  | getstatic idx => rcases hlen with z | rfl; (· cases z); exact z_gets hE hdg h
  | iaload => rcases hlen with z | rfl; (· cases z); exact z_iaload hE hdg h
  | baload => rcases hlen with z | rfl; (· cases z); exact z_baload hE hdg h
  | aaload => rcases hlen with z | rfl; (· cases z); exact z_aaload hE hdg h
  | iastore => rcases hlen with z | rfl; (· cases z); exact z_iastore hE hdg h
  | bastore => rcases hlen with z | rfl; (· cases z); exact z_bastore hE hdg h
  | aastore => rcases hlen with z | rfl; (· cases z); exact z_aastore hE hdg h
  | arraylength => rcases hlen with z | rfl; (· cases z); exact z_alen hE hdg h
  | new idx => rcases hlen with z | rfl; (· cases z); exact z_new hE hdg h
  | newarray at' =>
    rcases hlen with z | rfl; (· cases z)
    cases at' with
    | int => exact z_newa hE (atype := .int) (k0 := 0) (by decide) rfl rfl (by decide) xo9 hdg h
    | boolean => exact z_newa hE (atype := .boolean) (k0 := 1) (by decide) rfl rfl (by decide) xo10 hdg h
    | _ => exact absurd h id
  | anewarray idx => rcases hlen with z | rfl; (· cases z); exact z_newq hE hdg h
  | multianewarray idx dm =>
    rcases hlen with z | rfl; (· cases z)
    by_cases h2 : dm = 2
    · subst h2; exact z_new2 hE hdg h
    · exfalso
      unfold xstepI at h
      split at h <;> first | (simp_all; done) | exact absurd h id
  | invokestatic idx => rcases hlen with z | rfl; (· cases z); exact z_spec hE hR hcall (Or.inl ⟨rfl, hdg⟩) h
  | invokevirtual idx => rcases hlen with z | rfl; (· cases z); exact z_spec hE hR hcall (Or.inr (Or.inl ⟨rfl, hdg⟩)) h
  | invokespecial idx => rcases hlen with z | rfl; (· cases z); exact z_spec hE hR hcall (Or.inr (Or.inr ⟨rfl, hdg⟩)) h
  | ireturn =>
    rcases hlen with z | rfl; (· cases z)
    dsimp only [xstepI] at h
    split at h
    · exact absurd h id
    · next h2 => exact z_iret hE h2 hdg h
  | lreturn =>
    rcases hlen with z | rfl; (· cases z)
    dsimp only [xstepI] at h
    split at h
    · next h2 => exact z_lret hE h2 hdg h
    · exact absurd h id
  | return_ =>
    rcases hlen with z | rfl; (· cases z)
    dsimp only [xstepI] at h
    split at h
    · next hq =>
      split at h
      · exact z_vret hE hq.1 hq.2.1 hq.2.2 hdg h
      · exact absurd h id
    · exact absurd h id
  | _ => exact absurd h id
theorem z_run (hE : xEnv p l e R s m args below meth c D cA ad fm A n0 mi) (hmi : xMIok mi) {d : Nat} (hR : R.frames = d + 1 ∧ R.locals = 40 * (d + 1)) {call : Nat → List Value → List xCel → xRG → Option (List xLf)} (hcall : ∀ (j : Nat) (mi' : xMI) (as : List Value) (C : List xCel) (rg : xRG) (LF : List xLf), xmi j = some mi' → call j as C rg = some LF → xCt d mi' as C rg LF) : ∀ (k : Nat) (f : xFr) (lfs : List xLf), xrun call mi k f = some lfs → (∀ lf ∈ lfs, lf ∈ LF) → xRn p l e R s m args below meth c D cA ad ρ fm A mi.2.2.2.2.1 n0 mi.2.2.2.2.2.2.2.1 mi.2.2.2.2.2.2.2.2.1 (MQ below (xQc D cA ad ρ fm A (n0 + mi.2.2.2.2.2.2.2.1) LF) args s mi.2.2.2.2.2.2.2.1 mi.2.2.2.2.2.2.2.2.1 A) f := by
  have stp : ∀ f : xFr, xGood (xRn p l e R s m args below meth c D cA ad ρ fm A mi.2.2.2.2.1 n0 mi.2.2.2.2.2.2.2.1 mi.2.2.2.2.2.2.2.2.1 (MQ below (xQc D cA ad ρ fm A (n0 + mi.2.2.2.2.2.2.2.1) LF) args s mi.2.2.2.2.2.2.2.1 mi.2.2.2.2.2.2.2.2.1 A)) (fun lf => lf ∈ LF) (xstep call mi f) → xRn p l e R s m args below meth c D cA ad ρ fm A mi.2.2.2.2.1 n0 mi.2.2.2.2.2.2.2.1 mi.2.2.2.2.2.2.2.2.1 (MQ below (xQc D cA ad ρ fm A (n0 + mi.2.2.2.2.2.2.2.1) LF) args s mi.2.2.2.2.2.2.2.1 mi.2.2.2.2.2.2.2.2.1 A) f := by
    intro f h
    obtain ⟨pc, lo, st, C, rg, uc, us⟩ := f
    dsimp only [xstep] at h
    rw [xfN_eq] at h
    have h3 : xGood (xRn p l e R s m args below meth c D cA ad ρ fm A mi.2.2.2.2.1 n0 mi.2.2.2.2.2.2.2.1 mi.2.2.2.2.2.2.2.2.1 (MQ below (xQc D cA ad ρ fm A (n0 + mi.2.2.2.2.2.2.2.1) LF) args s mi.2.2.2.2.2.2.2.1 mi.2.2.2.2.2.2.2.2.1 A)) (fun lf => lf ∈ LF) (match xfetch mi.2.2.2.2.2.2.2.2.2 pc with
      | some (I, len) => xstepI call mi.2.2.1 mi.2.2.2.2.1 mi.2.2.2.2.2.1 mi.2.2.2.2.2.2.1 mi.2.2.2.2.2.2.2.1 mi.2.2.2.2.2.2.2.2.1 I len pc lo st C rg uc us
      | none => none) := h
    split at h3
    · next I len hf =>
      obtain ⟨h1, h2⟩ := hmi.2.2.2.2.2.2.2.2.2.2.2 pc (I, len) hf
      exact z_stepI hE hR hcall h1 h2 h3
    · exact absurd h3 id
  intro k
  induction k with
  | zero => intro f lfs h; cases h
  | succ k ih =>
    intro f lfs h hin
    refine stp f ?_
    rw [xrun_succ] at h
    split at h
    · cases h
    · next f' hf => rw [hf]; exact ih f' lfs h hin
    · next r hf => rw [hf]; cases h; exact hin r List.mem_cons_self
    · next fs hf =>
      rw [hf]
      have hall : ∀ (fs : List xFr) (lfs : List xLf), xall (xrun call mi k) fs = some lfs → (∀ lf ∈ lfs, lf ∈ LF) → ∀ f ∈ fs, xRn p l e R s m args below meth c D cA ad ρ fm A mi.2.2.2.2.1 n0 mi.2.2.2.2.2.2.2.1 mi.2.2.2.2.2.2.2.2.1 (MQ below (xQc D cA ad ρ fm A (n0 + mi.2.2.2.2.2.2.2.1) LF) args s mi.2.2.2.2.2.2.2.1 mi.2.2.2.2.2.2.2.2.1 A) f := by
        intro fs
        induction fs with
        | nil => intro lfs _ _ f hf; cases hf
        | cons g gs ihg =>
          intro lfs hx hin2 f hf
          unfold xall at hx
          split at hx
          · cases hx
          · next a ha =>
            split at hx
            · cases hx
            · next b hb =>
              cases hx
              rcases List.mem_cons.mp hf with rfl | hf
              · exact ih _ a ha (fun lf hl => hin2 lf (List.mem_append_left _ hl))
              · exact ihg b hb (fun lf hl => hin2 lf (List.mem_append_right _ hl)) f hf
      exact hall fs lfs h hin
end XMAIN
theorem xwid_len {ad : Nat → Nat} {ρ : Nat → Int32} {fm : Value} (hF : xokF fm) : ∀ as : List Value, (lg_sl (as.map (xv ad ρ fm))).length = xwid as
  | [] => rfl
  | v :: vs => by
    have ih := xwid_len (ad := ad) (ρ := ρ) hF vs
    have hc := xv_cat (ad := ad) (ρ := ρ) hF v
    unfold lg_sl at ih ⊢
    rw [List.map_cons, List.flatMap_cons, List.length_append, ih]
    show _ + xwid vs = (if xc2 v = true then 2 else 1) + xwid vs
    by_cases h : xc2 v = true
    · rw [if_pos h] at hc
      rw [if_pos hc, if_pos h]; rfl
    · rw [if_neg h] at hc
      rw [if_neg (by omega), if_neg h]; rfl
theorem xlocs_in {ad : Nat → Nat} {ρ : Nat → Int32} {fm : Value} (hF : xokF fm) : ∀ (as : List Value) (n i0 i : Nat) (v : Value), (xlocs n as)[i]? = some (some v) → (i0 + i, xv ad ρ fm v) ∈ lv_args i0 (as.map (xv ad ρ fm))
  | [], n, i0, i, v, h => by
    unfold xlocs at h
    rw [List.getElem?_replicate] at h
    split at h <;> cases h
  | w :: ws, n, i0, i, v, h => by
    have hc := xv_cat (ad := ad) (ρ := ρ) hF w
    unfold xlocs at h
    rw [List.map_cons, lv_args]
    by_cases h2 : xc2 w = true
    · rw [if_pos h2] at h hc
      rw [if_pos hc]
      match i, h with
      | 0, h => cases h; exact List.mem_cons_self
      | 1, h => cases h
      | i + 2, h =>
        refine List.mem_cons_of_mem _ ?_
        have := xlocs_in (ad := ad) (ρ := ρ) hF ws (n - 2) (i0 + 2) i v h
        rw [show i0 + (i + 2) = i0 + 2 + i by omega]
        exact this
    · rw [if_neg h2] at h hc
      rw [if_neg (by omega)]
      match i, h with
      | 0, h => cases h; exact List.mem_cons_self
      | i + 1, h =>
        refine List.mem_cons_of_mem _ ?_
        have := xlocs_in (ad := ad) (ρ := ρ) hF ws (n - 1) (i0 + 1) i v h
        rw [show i0 + (i + 1) = i0 + 1 + i by omega]
        exact this
/-- A RUN OF THE ENGINE IS A CONTRACT OF THE MACHINE -/
theorem xexec_ok (k : Nat) : ∀ (d j : Nat) (mi : xMI) (as : List Value) (C : List xCel) (rg : xRG) (LF : List xLf), xmi j = some mi → xexec k d j as C rg = some LF → xCt d mi as C rg LF := by
  intro d
  induction d with
  | zero => intro j mi as C rg LF _ h; cases h
  | succ d ih =>
    intro j mi as C rg LF hj h
    have hmi := xmi_ok hj
    unfold xexec at h
    simp only [hj] at h
    split at h
    · next hw =>
      intro l D cA ad ρ fm sz hF hR hB had
      obtain ⟨o1, o2, o3, o4, o5, o6, o7, o8, o9, o10, o11, o12⟩ := id hmi
      refine Met.ofW (cc := mi.2.1) (maxL := mi.2.2.2.2.1) (ret := xrt mi.2.2.2.2.2.1) o1 rfl ?_
      intro p e s m args below meth c s₁ B hml hv
      obtain ⟨rfl, hsz, hP, hK, hD0, hX⟩ := hv
      have hts0 := atoms_spec (ws := xws mi) B.pre
      have hts : ∀ w ∈ wsL_law, w.before ((as.map (xv ad ρ fm)).toArray) s = true := fun w hw => hts0 w (List.mem_cons_of_mem _ hw)
      subst hsz
      have hD := hD0.self (sz := s.heap.size)
      have hl := lv_entry (as.map (xv ad ρ fm)) (n := mi.2.2.2.2.1) (by rw [xwid_len hF]; exact hw)
      rw [lg_entry_eq]
      generalize (lg_sl (as.map (xv ad ρ fm)) ++ List.replicate (mi.2.2.2.2.1 - (lg_sl (as.map (xv ad ρ fm))).length) Slot.unset).toArray = ls at hl ⊢
      have hL : xLV (xv ad ρ fm) ls mi.2.2.2.2.1 (xlocs mi.2.2.2.2.1 as) := ⟨hl.1, hl.2.1, fun i v hi => by
        have := xlocs_in (ad := ad) (ρ := ρ) hF as mi.2.2.2.2.1 0 i v hi
        rw [Nat.zero_add] at this
        exact hl.2.2 _ this⟩
      have hown : s.vm.findClass (xcn mi.2.2.1) = some m.cls := by
        rw [← o2]; exact findClass_of_methodNamed B.named
      have hE : xEnv p l e (headSpec (xws mi) (xrm (d + 1) mi)).room s m (as.map (xv ad ρ fm)).toArray below meth c D cA ad fm (va_A (xenc cA (xv ad ρ fm) ad C) s.heap.size) C.length mi :=
        ⟨B.exec, B.bytes, hml, hown, hts, hK, hX, B.returns, B.notSynchronized, fun h2 => by rw [(name_of_methodNamed B.named B.method).1]; exact (o11 h2).1, ⟨by show 1 ≤ d + 1; omega, by show 40 ≤ 40 * (d + 1); omega⟩, rfl, rfl, hF, fun q hq => Or.inr hq, fun q hq => by
          rcases hq with ⟨k1, ez, hk1⟩ | hq
          · obtain ⟨q2, g2, e2⟩ := xenc_of hk1
            have e3 : q = ad k1 := congrArg Prod.fst e2
            exact Or.inr ⟨k1, (List.getElem?_eq_some_iff.mp g2).1, e3⟩
          · exact Or.inl hq, had⟩
      have hrun := z_run (LF := LF) (ρ := ρ) hE hmi (d := d) ⟨rfl, rfl⟩ ih k _ LF h (fun lf hl => hl)
      exact hrun s.heap [] ls hR hL hP hD va_S.rf ⟨by rfl, Nat.zero_le _, Nat.zero_le _, hB⟩
    · cases h
