/-! the engine's run is the machine's -/
noncomputable def xkdB : Bool := xmiL.all fun l => l.all fun mi => decide (mi.1.name = "<init>") == false || mi.2.2.2.2.2.2.1 == 2
set_option maxRecDepth 100000 in
theorem xkdB_ok : xkdB = true := by decide +kernel
theorem xkd_all (j : Nat) (mi' : xMI) (hj : xmi j = some mi') (hn : mi'.1.name = "<init>") : mi'.2.2.2.2.2.2.1 = 2 := by
  unfold xmi at hj
  rw [xnth_eq] at hj
  cases hl : xmiL[j / 16]? with
  | none => rw [hl] at hj; cases hj
  | some l =>
    rw [hl] at hj
    simp only [xnth_eq] at hj
    have h1 := List.all_eq_true.mp (List.all_eq_true.mp xkdB_ok l (List.mem_of_getElem? hl)) mi' (List.mem_of_getElem? hj)
    simpa [hn] using h1
theorem xnest_kd {own idx j : Nat} {mi' : xMI} (hj : xmi j = some mi') (h : (own, idx, mi'.1) ∈ xNest) : mi'.2.2.2.2.2.2.1 = 2 := by
  have hok := xmi_ok hj
  have hname : mi'.1.name = "<init>" := by
    simp only [xNest, List.mem_cons, List.not_mem_nil, or_false, Prod.mk.injEq] at h
    rcases h with ⟨-, -, h⟩ | ⟨-, -, h⟩ | ⟨-, -, h⟩ <;> rw [h] <;> rfl
  exact xkd_all j mi' hj hname
theorem xml_0 {own idx : Nat} (h : xml own idx = some 0) : Cond.methodLink (xcn own) idx objectInit ∈ wsL_law := by
  rcases xml_ok h with ⟨-, z⟩ | ⟨z, -⟩ | ⟨z, -⟩ | ⟨z, -⟩ | ⟨z, -⟩ | ⟨z, -⟩
  · exact z
  · exact absurd z (show ¬ (0 : Nat) = 1 by decide)
  · exact absurd z (show ¬ (0 : Nat) = 2 by decide)
  · exact absurd z (show ¬ (0 : Nat) = 3 by decide)
  · exact absurd z (show ¬ (0 : Nat) = 4 by decide)
  · exact absurd z (show ¬ 10 ≤ (0 : Nat) by decide)
theorem xml_1 {own idx : Nat} (h : xml own idx = some 1) : Cond.methodLink (xcn own) idx arraycopyName ∈ wsL_law := by
  rcases xml_ok h with ⟨z, -⟩ | ⟨-, z⟩ | ⟨z, -⟩ | ⟨z, -⟩ | ⟨z, -⟩ | ⟨z, -⟩
  · exact absurd z (show ¬ (1 : Nat) = 0 by decide)
  · exact z
  · exact absurd z (show ¬ (1 : Nat) = 2 by decide)
  · exact absurd z (show ¬ (1 : Nat) = 3 by decide)
  · exact absurd z (show ¬ (1 : Nat) = 4 by decide)
  · exact absurd z (show ¬ 10 ≤ (1 : Nat) by decide)
theorem xml_2 {own idx : Nat} (h : xml own idx = some 2) : Cond.methodLink (xcn own) idx Lib.Math.max.name ∈ wsL_law := by
  rcases xml_ok h with ⟨z, -⟩ | ⟨z, -⟩ | ⟨-, z⟩ | ⟨z, -⟩ | ⟨z, -⟩ | ⟨z, -⟩
  · exact absurd z (show ¬ (2 : Nat) = 0 by decide)
  · exact absurd z (show ¬ (2 : Nat) = 1 by decide)
  · exact z
  · exact absurd z (show ¬ (2 : Nat) = 3 by decide)
  · exact absurd z (show ¬ (2 : Nat) = 4 by decide)
  · exact absurd z (show ¬ 10 ≤ (2 : Nat) by decide)
theorem xml_3 {own idx : Nat} (h : xml own idx = some 3) : Cond.methodLink (xcn own) idx Lib.Math.min.name ∈ wsL_law := by
  rcases xml_ok h with ⟨z, -⟩ | ⟨z, -⟩ | ⟨z, -⟩ | ⟨-, z⟩ | ⟨z, -⟩ | ⟨z, -⟩
  · exact absurd z (show ¬ (3 : Nat) = 0 by decide)
  · exact absurd z (show ¬ (3 : Nat) = 1 by decide)
  · exact absurd z (show ¬ (3 : Nat) = 2 by decide)
  · exact z
  · exact absurd z (show ¬ (3 : Nat) = 4 by decide)
  · exact absurd z (show ¬ 10 ≤ (3 : Nat) by decide)
theorem xml_4 {own idx : Nat} (h : xml own idx = some 4) : Cond.methodLink (xcn own) idx Lib.Math.abs.name ∈ wsL_law := by
  rcases xml_ok h with ⟨z, -⟩ | ⟨z, -⟩ | ⟨z, -⟩ | ⟨z, -⟩ | ⟨-, z⟩ | ⟨z, -⟩
  · exact absurd z (show ¬ (4 : Nat) = 0 by decide)
  · exact absurd z (show ¬ (4 : Nat) = 1 by decide)
  · exact absurd z (show ¬ (4 : Nat) = 2 by decide)
  · exact absurd z (show ¬ (4 : Nat) = 3 by decide)
  · exact z
  · exact absurd z (show ¬ 10 ≤ (4 : Nat) by decide)
theorem xml_5 {own idx j : Nat} (h : xml own idx = some j) (h0 : j ≠ 0) (h1 : j ≠ 1) (h2 : j ≠ 2) (h3 : j ≠ 3) (h4 : j ≠ 4) : ∃ nm, (xmi (j - 10)).map (fun mi => mi.1) = some nm ∧ (Cond.methodLink (xcn own) idx nm ∈ wsL_law ∨ (own, idx, nm) ∈ xNest) := by
  rcases xml_ok h with ⟨z, -⟩ | ⟨z, -⟩ | ⟨z, -⟩ | ⟨z, -⟩ | ⟨z, -⟩ | ⟨-, z⟩
  · exact absurd z h0
  · exact absurd z h1
  · exact absurd z h2
  · exact absurd z h3
  · exact absurd z h4
  · exact z
section XEXEC
variable {p : Program} {l : Launch} {e : Env} {R : Room} {s : State} {m : MethodId} {args : Array Value} {below : List Frame} {meth : Method} {c : Code} {D : va_G} {cA : Nat → ClassId} {ad : Nat → Nat} {ρ : Nat → Int32} {fm : Value} {A : Nat → Prop} {n0 : Nat} {mi : xMI} {LF : List xLf}
variable {pc : Nat} {lo : List (Option Value)} {st : List Value} {C : List xCel} {rg : xRG} {uc us : Nat}
theorem z_lnk {own : Nat} (hts : ∀ w ∈ wsL_law, w.before args s = true) (hX : xExt ad fm A s s.heap) {idx j kd : Nat} (hm : xml own idx = some j) (h0 : j ≠ 0) (h1 : j ≠ 1) (h2 : j ≠ 2) (h3 : j ≠ 3) (h4 : j ≠ 4) {mi' : xMI} (hj : xmi (j - 10) = some mi') (hkd : mi'.2.2.2.2.2.2.1 = kd) : (Cond.methodLink (xcn own) idx mi'.1).before args s = true ∨ (kd = 2 ∧ va_Nw (.methodLinkNest (xcn own) idx mi'.1 "StreetTillTen") s) := by
  obtain ⟨nm, hnm, hl⟩ := xml_5 hm h0 h1 h2 h3 h4
  rw [hj] at hnm
  have e1 : mi'.1 = nm := Option.some.inj hnm
  rw [← e1] at hl
  rcases hl with hl | hl
  · exact Or.inl (hts _ hl)
  · have h9 := hX.2.2.2.2.2 (own, idx, mi'.1) hl
    exact Or.inr ⟨by rw [← hkd]; exact xnest_kd hj hl, h9⟩
theorem z_spec (hE : xEnv p l e R s m args below meth c D cA ad fm A n0 mi) {d : Nat} (hR : R.frames = d + 1 ∧ R.locals = 40 * (d + 1)) {call : Nat → List Value → List xCel → xRG → Option (List xLf)} (hcall : ∀ (j : Nat) (mi' : xMI) (as : List Value) (C : List xCel) (rg : xRG) (LF : List xLf), xmi j = some mi' → call j as C rg = some LF → xCt d mi' as C rg LF) {kd idx : Nat} (hdg : (kd = 0 ∧ decode mi.2.1 pc = .ok (.invokestatic idx, 3)) ∨ (kd = 1 ∧ decode mi.2.1 pc = .ok (.invokevirtual idx, 3)) ∨ (kd = 2 ∧ decode mi.2.1 pc = .ok (.invokespecial idx, 3))) (h : xGood (xRn p l e R s m args below meth c D cA ad ρ fm A mi.2.2.2.2.1 n0 mi.2.2.2.2.2.2.2.1 mi.2.2.2.2.2.2.2.2.1 (MQ below (xQc D cA ad ρ fm A (n0 + mi.2.2.2.2.2.2.2.1) LF) args s mi.2.2.2.2.2.2.2.1 mi.2.2.2.2.2.2.2.2.1 A)) (fun lf => lf ∈ LF) (xspec pc lo st C rg uc us kd mi.2.2.1 idx (xcall pc lo st C rg uc us call mi.2.2.2.2.2.2.2.1 mi.2.2.2.2.2.2.2.2.1 kd))) : xRn p l e R s m args below meth c D cA ad ρ fm A mi.2.2.2.2.1 n0 mi.2.2.2.2.2.2.2.1 mi.2.2.2.2.2.2.2.2.1 (MQ below (xQc D cA ad ρ fm A (n0 + mi.2.2.2.2.2.2.2.1) LF) args s mi.2.2.2.2.2.2.2.1 mi.2.2.2.2.2.2.2.2.1 A) (pc, lo, st, C, rg, uc, us) := by
  have hE2 := hE
  obtain ⟨hx, hb, hml, hown, hts, hK, hX, hret, hlk, hin, hroom, hrc, hrs, hF, hA, hAx, had⟩ := hE2
  unfold xspec at h
  split at h
  · next hm =>
    split at h
    · next a r =>
      split at h
      · next hq =>
        obtain ⟨rfl, hr4⟩ := hq
        have hl := xml_0 hm
        have hdg2 : decode mi.2.1 pc = .ok (.invokespecial idx, 3) := by
          rcases hdg with ⟨z, -⟩ | ⟨z, -⟩ | ⟨-, z⟩
          · omega
          · omega
          · exact z
        intro H locs ls hR' hL hP hD hS hn
        have hsum : ((r.map (xv ad ρ fm)).map fun v => v.category).sum ≤ 8 := xcat_sum hF r hr4
        exact W.objInit hx hb hown (hts _ hl) (hts _ xo0) (hts _ xo1) rfl (by rw [hml]; exact hL.1) rfl hdg2 hroom.1 (by show 2 * 0 + _ + 12 ≤ _; have := hroom.2; omega) (h H locs ls hR' hL hP hD hS hn)
      · exact absurd h id
    · exact absurd h id
  · next hm =>
    split at h
    · next hq =>
      subst hq
      have hl := xml_1 hm
      have hdg2 : decode mi.2.1 pc = .ok (.invokestatic idx, 3) := by
        rcases hdg with ⟨-, z⟩ | ⟨z, -⟩ | ⟨z, -⟩
        · exact z
        · omega
        · omega
      exact z_copy hE hl hdg2 h
    · exact absurd h id
  · next hm =>
    split at h
    · next hq =>
      subst hq
      have hl := xml_2 hm
      have hdg2 : decode mi.2.1 pc = .ok (.invokestatic idx, 3) := by
        rcases hdg with ⟨-, z⟩ | ⟨z, -⟩ | ⟨z, -⟩
        · exact z
        · omega
        · omega
      exact z_max hE hl hdg2 h
    · exact absurd h id
  · next hm =>
    split at h
    · next hq =>
      subst hq
      have hl := xml_3 hm
      have hdg2 : decode mi.2.1 pc = .ok (.invokestatic idx, 3) := by
        rcases hdg with ⟨-, z⟩ | ⟨z, -⟩ | ⟨z, -⟩
        · exact z
        · omega
        · omega
      exact z_min hE hl hdg2 h
    · exact absurd h id
  · next hm =>
    split at h
    · next hq =>
      subst hq
      have hl := xml_4 hm
      have hdg2 : decode mi.2.1 pc = .ok (.invokestatic idx, 3) := by
        rcases hdg with ⟨-, z⟩ | ⟨z, -⟩ | ⟨z, -⟩
        · exact z
        · omega
        · omega
      exact z_abs hE hl hdg2 h
    · exact absurd h id
  · next j n0' n1' n2' n3' n4' hm =>
    refine z_call hE hR hcall (j := j - 10) (idx := idx) (kd := kd) (fun mi' hj hkd => ?_) hdg h
    exact z_lnk hts hX hm n0' n1' n2' n3' n4' hj hkd
  · exact absurd h id
end XEXEC
