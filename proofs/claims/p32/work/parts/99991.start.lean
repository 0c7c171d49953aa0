/-! the law's start: statics, texts, rows of the tables -/
def tmS (i : Nat) : Term := match xStr[i]? with
  | some q => Term.string (xcn q.1) q.2.1
  | none => Term.int 0
abbrev nflat : List Cond := flatC (Jvm.Cond.and given_1 narrow_1)
set_option maxRecDepth 100000 in
theorem ns_ex : ∀ i, i < 13 → Cond.exactly (tmS i) "java/lang/String" ∈ nflat := by decide +kernel
set_option maxRecDepth 100000 in
theorem ns_co : ∀ i, i < 13 → Cond.eq (.field (tmS i) "java/lang/String" "coder" "B") (.int 0) ∈ nflat := by decide +kernel
set_option maxRecDepth 100000 in
theorem ns_ar : ∀ i, i < 13 → Cond.arrayOf (.field (tmS i) "java/lang/String" "value" "[B") .byte ∈ nflat := by decide +kernel
set_option maxRecDepth 100000 in
theorem ns_le : ∀ i, i < 13 → Cond.eq (.length (.field (tmS i) "java/lang/String" "value" "[B")) (.int (Int32.ofNat ((xByt.map List.length).getD i 0))) ∈ nflat := by decide +kernel
set_option maxRecDepth 100000 in
theorem ns_el : ∀ i, i < 13 → ∀ j, j < (xByt.map List.length).getD i 0 → Cond.eq (.elem (.field (tmS i) "java/lang/String" "value" "[B") (.int (Int32.ofNat j))) (.int ((xByt.getD i []).getD j 0)) ∈ nflat := by decide +kernel
def nsP : List (List Nat) := [[0, 98, 109, 120, 132, 144, 158, 173, 189, 207, 222, 239, 257], [0, 0, 110, 121, 133, 145, 159, 174, 190, 208, 223, 240, 258], [0, 0, 0, 122, 134, 146, 160, 175, 191, 209, 224, 241, 259], [0, 0, 0, 0, 135, 147, 161, 176, 192, 210, 225, 242, 260], [0, 0, 0, 0, 0, 148, 162, 177, 193, 211, 226, 243, 261], [0, 0, 0, 0, 0, 0, 163, 178, 194, 212, 227, 244, 262], [0, 0, 0, 0, 0, 0, 0, 179, 195, 213, 228, 245, 263], [0, 0, 0, 0, 0, 0, 0, 0, 196, 214, 229, 246, 264], [0, 0, 0, 0, 0, 0, 0, 0, 0, 215, 230, 247, 265], [0, 0, 0, 0, 0, 0, 0, 0, 0, 0, 231, 248, 266], [0, 0, 0, 0, 0, 0, 0, 0, 0, 0, 0, 249, 267], [0, 0, 0, 0, 0, 0, 0, 0, 0, 0, 0, 0, 268], [0, 0, 0, 0, 0, 0, 0, 0, 0, 0, 0, 0, 0]]
set_option maxRecDepth 100000 in
theorem ns_nq : ∀ i, i < 13 → ∀ j, j < 13 → i < j → nflat[(nsP.getD i []).getD j 0]? = some (Cond.not (Cond.eq (tmS i) (tmS j))) := by decide +kernel
theorem ns_ne : ∀ i, i < 13 → ∀ j, j < 13 → i ≠ j → Cond.not (Cond.eq (tmS i) (tmS j)) ∈ nflat ∨ Cond.not (Cond.eq (tmS j) (tmS i)) ∈ nflat := by
  intro i hi j hj h
  rcases Nat.lt_or_gt_of_ne h with h | h
  · exact Or.inl (List.mem_of_getElem? (ns_nq i hi j hj h))
  · exact Or.inr (List.mem_of_getElem? (ns_nq j hj i hi h))
set_option maxRecDepth 100000 in
theorem ns_len : ∀ i, i < 13 → (xByt.map List.length).getD i 0 < 2 ^ 31 := by decide +kernel
set_option maxRecDepth 100000 in
theorem ns_ref : ∀ i, i < 13 → ∀ q, xStr[i]? = some q → Cond.stringRef (xcn q.1) q.2.1 q.2.2 ∈ lw_tbl := by
  intro i hi q hq
  have h : ∀ q ∈ xStr, Cond.stringRef (xcn q.1) q.2.1 q.2.2 ∈ lw_tbl := by decide +kernel
  exact h q (List.mem_of_getElem? hq)
def tmT (j : Nat) : Term := match j with
  | 0 => .static "StreetTillTen" "KIND_ABOVE" "[I"
  | 1 => .static "StreetTillTen" "LEAST_SETTING" "[I"
  | _ => .static "StreetTillTen" "MOST_SETTING" "[I"
set_option maxRecDepth 100000 in
theorem nt_ar : ∀ j, j < 3 → Cond.arrayOf (tmT j) .int ∈ nflat := by decide +kernel
set_option maxRecDepth 100000 in
theorem nt_le : ∀ j, j < 3 → Cond.eq (.length (tmT j)) (.int (Int32.ofNat (xTab.getD j []).length)) ∈ nflat := by decide +kernel
set_option maxRecDepth 100000 in
theorem nt_el : ∀ j, j < 3 → ∀ k, k < (xTab.getD j []).length → Cond.eq (.elem (tmT j) (.int (Int32.ofNat k))) (.int ((xTab.getD j []).getD k 0)) ∈ nflat := by decide +kernel
set_option maxRecDepth 100000 in
theorem nz_cs : Cond.eq (.static "java/lang/String" "COMPACT_STRINGS" "Z") (.int 1) ∈ nflat := by decide +kernel
set_option maxRecDepth 100000 in
theorem nz_fm : Cond.isRef (.static "jdk/internal/util/Preconditions" "SIOOBE_FORMATTER" "Ljava/util/function/BiFunction;") ∈ nflat := by decide +kernel
set_option maxRecDepth 100000 in
theorem nw_st : ∀ q ∈ xStat, Cond.laysStatic q.1 q.2.1 q.2.2.1 ∈ lw_tbl ∧ Cond.initialized q.1 ∈ lw_tbl := by decide +kernel
set_option maxRecDepth 100000 in
theorem nw_ao : Cond.arrayOver (.object RX5) ∈ lw_tbl ∧ Cond.arrayOver (.object RX2) ∈ lw_tbl ∧ Cond.arrayOver (.array .int) ∈ lw_tbl := by decide +kernel
set_option maxRecDepth 100000 in
theorem nw_nest : ∀ q ∈ xNest, Cond.methodLinkNest (xcn q.1) q.2.1 q.2.2 "StreetTillTen" ∈ lw_tbl := by decide +kernel
set_option maxRecDepth 100000 in
theorem nw_inst : Cond.instantiable RX0 2 ∈ lw_tbl ∧ Cond.instantiable RX1 5 ∈ lw_tbl ∧ Cond.instantiable RX2 3 ∈ lw_tbl ∧ Cond.instantiable RX3 9 ∈ lw_tbl ∧ Cond.instantiable RX4 6 ∈ lw_tbl ∧ Cond.instantiable RX5 5 ∈ lw_tbl ∧ Cond.instantiable RX6 10 ∈ lw_tbl ∧ Cond.instantiable RX7 47 ∈ lw_tbl := by decide +kernel
def xGe (s : State) : Nat → Prop := fun q => s.heap.size ≤ q
/-- the law's frame: what it stands on -/
def lEnv (p : Program) (l : Launch) (e : Env) (s : State) (m : MethodId) (b : Nat) (c : Code) (D : va_G) (cA : Nat → ClassId) (xa : Nat → Nat) (fm : Value) : Prop :=
  p.tables.exec = Jvm.exec ∧ c.code = code ∧ c.maxLocals = 4 ∧ s.vm.findClass RL = some m.cls ∧ (∀ w ∈ wsL_law, w.before #[Value.ref b] s = true) ∧ va_K D vwCl (xtys cA) s ∧ xExt xa fm (xGe s) s s.heap ∧ xokF fm
theorem xaT (t0 t1 t2 : Nat) (adK adV : Nat → Nat) : ∃ xa : Nat → Nat, xa xB = t0 ∧ xa (xB + 1) = t1 ∧ xa (xB + 2) = t2 ∧ (∀ i, i < 13 → xa (xB + 10 + i) = adK i) ∧ ∀ i, i < 13 → xa (xB + 30 + i) = adV i := by
  refine ⟨fun k => if k = xB then t0 else if k = xB + 1 then t1 else if k = xB + 2 then t2 else if k < xB + 23 then adK (k - (xB + 10)) else adV (k - (xB + 30)), ?_, ?_, ?_, fun i hi => ?_, fun i hi => ?_⟩
  · simp
  · simp
  · simp
  · simp only
    rw [if_neg (by omega), if_neg (by omega), if_neg (by omega), if_pos (by omega), Nat.add_sub_cancel_left]
  · simp only
    rw [if_neg (by omega), if_neg (by omega), if_neg (by omega), if_neg (by omega), Nat.add_sub_cancel_left]
theorem xTab_get {j : Nat} {l : List Int32} (h : xTab[j]? = some l) : j < 3 ∧ xTab.getD j [] = l := ⟨(List.getElem?_eq_some_iff.mp h).1, xgetD h⟩
set_option maxHeartbeats 4000000 in
theorem x_start {p : Program} {l : Launch} {e : Env} {s : State} {m : MethodId} {meth : Method} {c : Code} {b L : Nat} {xs : Nat → Int32} (C0 : lw_At p s m meth c b L xs) : ∃ (D : va_G) (cA : Nat → ClassId) (xa : Nat → Nat) (fm : Value), lEnv p l e s m b c D cA xa fm := by
  obtain ⟨hx, hb, hr, hml, hown, hts, hX, hbl, hlocks, hgv⟩ := C0
  have hs := flat_of_before _ hgv
  have htw : ∀ w ∈ wsL_law, w.before #[Value.ref b] s = true := fun w hw => hts w (wsL_law_in w hw)
  have hA : ∀ a : Nat, a < s.heap.size → ¬ xGe s a := fun a h z => Nat.not_le.mpr h z
  -- classes
  obtain ⟨i0, i1, i2, i3, i4, i5, i6, i7⟩ := nw_inst
  obtain ⟨c0, f0, k0⟩ := u_known (C := RX0) (T := TX0) (N := 2) (n := 2) htw inlX0 (hts _ i0)
  obtain ⟨c1, f1, k1⟩ := u_known (C := RX1) (T := TX1) (N := 5) (n := 5) htw inlX1 (hts _ i1)
  obtain ⟨c2, f2, k2⟩ := u_known (C := RX2) (T := TX2) (N := 3) (n := 3) htw inlX2 (hts _ i2)
  obtain ⟨c3, f3, k3⟩ := u_known (C := RX3) (T := TX3) (N := 9) (n := 9) htw inlX3 (hts _ i3)
  obtain ⟨c4, f4, k4⟩ := u_known (C := RX4) (T := TX4) (N := 6) (n := 6) htw inlX4 (hts _ i4)
  obtain ⟨c5, f5, k5⟩ := u_known (C := RX5) (T := TX5) (N := 5) (n := 5) htw inlX5 (hts _ i5)
  obtain ⟨c6, f6, k6⟩ := u_known (C := RX6) (T := TX6) (N := 10) (n := 10) htw inlX6 (hts _ i6)
  obtain ⟨c7, f7, k7⟩ := u_known (C := RX7) (T := TX7) (N := 47) (n := 47) htw inlX7 (hts _ i7)
  obtain ⟨dC, dI, hKc⟩ : ∃ (dC : Nat → ClassId) (dI : Nat → Nat → Nat), ∀ (k : Nat) (q : vw_C), vwCl[k]? = some q → u_Kn s q.1 q.2.1 q.2.2 (dC k) (dI k) := by
    refine ⟨fun k => match k with | 0 => c0 | 1 => c1 | 2 => c2 | 3 => c3 | 4 => c4 | 5 => c5 | 6 => c6 | _ => c7, fun k => match k with | 0 => f0 | 1 => f1 | 2 => f2 | 3 => f3 | 4 => f4 | 5 => f5 | 6 => f6 | _ => f7, ?_⟩
    intro k q hq
    match k, hq with
    | 0, hq => cases hq; exact k0
    | 1, hq => cases hq; exact k1
    | 2, hq => cases hq; exact k2
    | 3, hq => cases hq; exact k3
    | 4, hq => cases hq; exact k4
    | 5, hq => cases hq; exact k5
    | 6, hq => cases hq; exact k6
    | 7, hq => cases hq; exact k7
    | k + 8, hq => simp [vwCl] at hq
  -- rows
  obtain ⟨ao5, ao2, aoI⟩ := nw_ao
  obtain ⟨cI, kI, pI, g1, g2, g3⟩ := Cond.arrayClass_spec (htw _ xo9)
  obtain ⟨cZ, kZ, pZ, g4, g5, g6⟩ := Cond.arrayClass_spec (htw _ xo10)
  obtain ⟨p5, cT, kT, t1, t2, t3, t4, t5⟩ := Cond.arrayOver_spec (hts _ ao5)
  obtain ⟨p2, cS, kS, s1, s2, s3, s4, s5⟩ := Cond.arrayOver_spec (hts _ ao2)
  obtain ⟨pG, cG, kG, w1, w2, w3, w4⟩ := Cond.arrayOver_specA (hts _ aoI)
  have hK : va_K (dC, dI) vwCl (xtys (fun k => if k = 100 then cI else if k = 101 then cZ else if k = 102 then cT else if k = 103 then cS else cG)) s := by
    refine ⟨hKc, fun k q hq => ?_⟩
    match k, hq with
    | 0, hq => cases hq; exact ⟨fun n z => ⟨fun k h => (by cases h), kI, g2, pI, g3⟩, g1⟩
    | 1, hq => cases hq; exact ⟨fun n z => ⟨fun k h => (by cases h), kZ, g5, pZ, g6⟩, g4⟩
    | 2, hq => cases hq; exact ⟨fun n z => ⟨fun k h => (by cases h), kT, t3, p5, t4⟩, ⟨kT, p5, t3, t4, t1, t5⟩⟩
    | 3, hq => cases hq; exact ⟨fun n z => ⟨fun k h => (by cases h), kS, s3, p2, s4⟩, ⟨kS, p2, s3, s4, s1, s5⟩⟩
    | 4, hq => cases hq; exact ⟨fun n z => ⟨fun k h => (by cases h), kG, w2, pG, w3⟩, w4⟩
    | k + 5, hq => simp [xtys] at hq
  -- texts
  obtain ⟨adK, adV, hS, hSt⟩ := vk_Sof (args := #[Value.ref b]) (s := s) (N := 13) (tm := tmS) (len := xByt.map List.length) (byt := xByt) (A := xGe s) ns_len (fun i hi => hs _ (ns_ex i hi)) (fun i hi => hs _ (ns_co i hi)) (fun i hi => hs _ (ns_ar i hi)) (fun i hi => hs _ (ns_le i hi)) (fun i hi j hj => hs _ (ns_el i hi j hj)) (fun i j hi hj hij => (ns_ne i hi j hj hij).imp (hs _) (hs _)) hA
  -- tables
  have hT : ∀ j, j < 3 → ∃ t : Nat, (tmT j).eval #[Value.ref b] s none [] s = some (.ref t) ∧ va_T .int t (xTab.getD j []).length (fun n => .int ((xTab.getD j []).getD n 0)) (xGe s) s s.heap := by
    intro j hj
    refine va_Tof (by have : ∀ j, j < 3 → (xTab.getD j []).length < 2 ^ 31 := by decide
                      exact this j hj) (hs _ (nt_ar j hj)) (va_eqt (hs _ (nt_le j hj))) (fun k hk => va_eqt (hs _ (nt_el j hj k hk))) hA
  obtain ⟨t0, e0, T0⟩ := hT 0 (by decide)
  obtain ⟨t1', e1, T1⟩ := hT 1 (by decide)
  obtain ⟨t2', e2, T2⟩ := hT 2 (by decide)
  obtain ⟨xa, a0, a1, a2, aK, aV⟩ := xaT t0 t1' t2' adK adV
  -- a reference that nobody asks for
  obtain ⟨fm, hfm, hZf⟩ : ∃ fm : Value, xokF fm ∧ va_Z "jdk/internal/util/Preconditions" "SIOOBE_FORMATTER" "Ljava/util/function/BiFunction;" fm (xGe s) s s.heap := by
    have q := nw_st ("jdk/internal/util/Preconditions", "SIOOBE_FORMATTER", "Ljava/util/function/BiFunction;", .float 0) (by simp [xStat])
    rcases va_Zqof (hts _ q.1) (hts _ q.2) (hs _ nz_fm) hA with z | ⟨t, z⟩
    · exact ⟨.null, Or.inl rfl, z⟩
    · exact ⟨.ref t, Or.inr ⟨t, rfl⟩, z⟩
  refine ⟨(dC, dI), _, xa, fm, hx, hb, hml, hown, htw, hK, ⟨?_, ?_, ?_, ?_, ⟨va_AO.of (hts _ ao5), va_AO.of (hts _ ao2), hts _ aoI⟩, fun q hq => va_Nw.of rfl (hts _ (nw_nest q hq))⟩, hfm⟩
  · intro q hq
    have hw := nw_st q hq
    simp only [xStat, List.mem_cons, List.not_mem_nil, or_false] at hq
    rcases hq with rfl | rfl | rfl | rfl | rfl
    · show va_Z _ _ _ (Value.ref (xa xB)) _ _ _
      rw [a0]; exact va_Zref (hts _ hw.1) (hts _ hw.2) e0 hA
    · show va_Z _ _ _ (Value.ref (xa (xB + 1))) _ _ _
      rw [a1]; exact va_Zref (hts _ hw.1) (hts _ hw.2) e1 hA
    · show va_Z _ _ _ (Value.ref (xa (xB + 2))) _ _ _
      rw [a2]; exact va_Zref (hts _ hw.1) (hts _ hw.2) e2 hA
    · exact va_Zof (hts _ hw.1) (hts _ hw.2) (va_eqi (hs _ nz_cs)) hA
    · exact hZf
  · intro j lt hj
    obtain ⟨hj3, hjl⟩ := xTab_get hj
    match j, hj3, hjl with
    | 0, _, hjl => rw [hjl] at T0; rw [Nat.add_zero, a0]; exact T0
    | 1, _, hjl => rw [hjl] at T1; rw [a1]; exact T1
    | 2, _, hjl => rw [hjl] at T2; rw [a2]; exact T2
  · refine ⟨fun i hi => ?_, fun i j hi hj h => ?_⟩
    · have := hS.1 i hi
      simp only [aK i hi, aV i hi]
      exact this
    · simp only [aK i hi, aK j hj] at h
      exact hS.2 i j hi hj h
  · intro i q hq
    have hi : i < 13 := (List.getElem?_eq_some_iff.mp hq).1
    have ht := hSt i hi
    have hw := hts _ (ns_ref i hi q hq)
    unfold tmS at ht
    rw [hq] at ht
    rw [aK i hi]
    exact vk_R.of hw ht
