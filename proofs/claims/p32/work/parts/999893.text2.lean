section
/-! texts: on both sides, whole -/
noncomputable section
theorem mtext_ok {t N : Nat} {hM : dH} (ht : (hM 0 3).toInt = t) (ht6 : t < 6) (hN : (hM 0 6).toInt = N) (hN2 : N ≤ 160) (I : InvM hM) (B : Nat → Int) (hB : ∀ j, j < N → (hM 3 j).toInt = B j ∧ 0 ≤ B j ∧ B j ≤ 255) {P : Int32 × dH → Prop} (K : ∀ (g : dH) (r : Int32) (k : dH), InvM g → mTx g t B N → g 0 6 = 0 → (∀ a j, ¬ (a = 1 ∧ 160 * t ≤ j ∧ j < 160 * t + 160) → ¬ (a = 2 ∧ j = t) → ¬ (a = 0 ∧ j = 6) → g a j = hM a j) → f_X7_read (hM 0 3) 0 g = some (r, k) → Al (if (k 0 27).toInt = 0 then (oH (dU k 0 3 ((k 0 3) + 1)) (fun g17 => some (((g17 0 3) - 1), g17))) else (some (((-100) - (k 0 28)), k))) P) : Al (f_X7_text hM) P := by
  unfold f_X7_text
  refine al_ite (fun z => by omega) (fun _ => ?_)
  refine text_14 (h0 := hM) ht ht6 hN hN2 (fun g9 x1 x2 x3 => ?_) _ 0 hM (by decide) (by rw [ti0]; omega) (fun j hj => by rw [ti0] at hj; omega) (fun _ _ _ => rfl) (fun _ => Or.inl rfl)
  have e3 : g9 0 3 = hM 0 3 := x2 0 3 (by omega)
  have e6 : g9 0 6 = hM 0 6 := x2 0 6 (by omega)
  rw [e3, e6]
  refine al_ite (fun _ => al_oH' (fun g10 q10 => al_oH' (fun g12 q12 => ?_))) (fun _ => al_none)
  have et : (hM 0 3).toInt.toNat = t := by omega
  rw [et] at q10
  have e12 : g12 0 3 = hM 0 3 := by rw [q12, dU_ne (by omega), q10, dU_ne (by omega)]; exact e3
  rw [e12]
  have F : ∀ a j, ¬ (a = 1 ∧ 160 * t ≤ j ∧ j < 160 * t + 160) → ¬ (a = 2 ∧ j = t) → ¬ (a = 0 ∧ j = 6) → g12 a j = hM a j := fun a j z1 z2 z3 => by rw [q12, dU_ne z3, q10, dU_ne z2]; exact x2 a j z1
  have r1 : ∀ j, g12 1 j = g9 1 j := fun j => by rw [q12, dU_ne (by omega), q10, dU_ne (by omega)]
  have r2 : g12 2 t = hM 0 6 := by rw [q12, dU_ne (by omega), q10]; exact dU_eq
  have r6 : g12 0 6 = 0 := by rw [q12]; exact dU_eq
  have I12 : InvM g12 := by
    refine ⟨fun a k lo hi hb => ?_, fun s hs hn => ?_⟩
    · by_cases c1 : a = 1
      · subst c1
        rw [r1 k]
        have hb' : some ((0 : Int), (255 : Int)) = some (lo, hi) := hb
        cases hb'
        rcases x3 k with z | ⟨i, i1, i2⟩
        · rw [z]; exact I.1 1 k 0 255 rfl
        · rw [i2]
          have := hB i i1
          omega
      · by_cases c2 : a = 2 ∧ k = t
        · rw [c2.1] at hb
          have hb' : some ((0 : Int), (160 : Int)) = some (lo, hi) := hb
          cases hb'
          rw [c2.1, c2.2, r2]; omega
        · by_cases c3 : a = 0 ∧ k = 6
          · rw [c3.1, c3.2] at hb
            have hb' : some ((0 : Int), (160 : Int)) = some (lo, hi) := hb
            cases hb'
            rw [c3.1, c3.2, r6]; decide
          · rw [F a k (by omega) c2 c3]; exact I.1 a k lo hi hb
    · rw [F 14 s (by omega) (by omega) (by omega)] at hn
      rw [F 16 s (by omega) (by omega) (by omega)]; exact I.2 s hs hn
  exact al_oI (fun r k hk => K g12 r k I12 ⟨by rw [r2]; exact hN, fun j hj => by rw [r1, x1 j hj]; exact (hB j hj).1⟩ r6 F hk)
theorem RR.texts {hC hM gC gM : dH} (q : RR hC hM) {t : Nat} (ht : (hC 0 3).toInt = t) (ht6 : t < 6) (e : ∀ a k, ¬ (a = 42 ∧ 1 ≤ k ∧ k ≤ 4) → ¬ (a = 1 ∧ (k = 0 ∨ k = 5)) → ¬ (2 ≤ a ∧ a ≤ 4) → ¬ (a = 10 + 4 * t ∧ k = 1) → ¬ a = 10 + 4 * t + 1 → ¬ a = 10 + 4 * t + 2 → ¬ (a = 0 ∧ k = 3) → gC a k = hC a k) (m : ∀ a j, ¬ (a = 1 ∧ 160 * t ≤ j ∧ j < 160 * t + 160) → ¬ (a = 2 ∧ j = t) → ¬ (a = 0 ∧ (j = 6 ∨ j = 3 ∨ (20 ≤ j ∧ j ≤ 28))) → gM a j = hM a j) (t0 : gC 1 0 = 0 ∧ gM 0 6 = 0) (T : textR gC gM) (le : (hC 0 3).toInt ≤ (gC 0 3).toInt) : RR gC gM := by
  obtain ⟨q1, q2, q3, q4, q5, q6⟩ := q
  have tb := q3.2.2.1
  refine ⟨?_, ?_, T, ⟨t0.1.trans t0.2.symm, by rw [t0.1]; decide, by rw [t0.1]; decide, fun j hj => by rw [t0.1, ti0] at hj; omega⟩, fun s hs => (q5 s hs).same hs (fun a k x => e a k (by omega) (by omega) (by omega) (by omega) (by omega) (by omega) (by omega)) (fun a k x => m a k (by omega) (by omega) (by omega)), ?_⟩
  · unfold nowR at q1 ⊢
    exact q1.same (fun b k hb => e b k (by omega) (by omega) (by omega) (by omega) (by omega) (by omega) (by omega)) (m 0 7 (by omega) (by omega) (by omega)) (m 0 8 (by omega) (by omega) (by omega)) (m 0 13 (by omega) (by omega) (by omega)) (m 0 4 (by omega) (by omega) (by omega)) (fun i hi => ⟨m 4 i (by omega) (by omega) (by omega), m 5 i (by omega) (by omega) (by omega), m 6 i (by omega) (by omega) (by omega)⟩) (fun i hi => m 7 i (by omega) (by omega) (by omega)) le
  · exact q2.same (fun a k x => e a k (by omega) (by omega) (by omega) (by omega) (by omega) (by omega) (by omega)) (fun a k x => m a k (by omega) (by omega) (by omega)) (by rw [e 43 2 (by omega) (by omega) (by omega) (by omega) (by omega) (by omega) (by omega)]; exact Int.le_refl _) le
  · unfold mNo at q6 ⊢
    rw [m 0 29 (by omega) (by omega) (by omega), m 0 30 (by omega) (by omega) (by omega), m 0 31 (by omega) (by omega) (by omega)]
    exact q6
theorem op_text {hC hM : dH} (q : RR hC hM) (I : InvM hM) : Op2 (f_X6_text hC) (f_X7_text hM) := by
  obtain ⟨t1, t2, t3, t4⟩ := id q.2.2.1
  obtain ⟨p1, p2, p3, p4⟩ := id q.2.2.2.1
  unfold Op2 f_X6_text
  refine al_ite (fun c => al_ite (fun _ => al_oI (fun r4 g5 h5 => ?_)) (fun _ => al_none)) (fun c => al_some ?_)
  · have et : (hC 0 3).toInt = ((hC 0 3).toInt.toNat : Int) := by omega
    have ht6 : (hC 0 3).toInt.toNat < 6 := by omega
    have etM : (hM 0 3).toInt = ((hC 0 3).toInt.toNat : Int) := by rw [← t1]; exact et
    have eN : (hM 0 6).toInt = (cN hC : Int) := by rw [← p1]; unfold cN; omega
    have cb : ∀ j, j < cN hC → 0 ≤ cB hC j ∧ cB hC j ≤ 255 := fun j hj => (p4 j hj).2
    have BB := read_both (zT6 ht6) ht6 etM p2 p3 cb (r4, g5) h5
    refine al_oV' (fun g6 h6 => ?_)
    have e6 : g6 = dU g5 1 0 0 := by
      revert g6
      exact al_oH' (fun g hg => al_some hg)
    -- the reference reads the same bytes
    have M : ∀ {P : Int32 × dH → Prop}, (∀ (g : dH) (r : Int32) (k : dH), InvM g → mTx g (hC 0 3).toInt.toNat (cB hC) (cN hC) → g 0 6 = 0 → (∀ a j, ¬ (a = 1 ∧ 160 * (hC 0 3).toInt.toNat ≤ j ∧ j < 160 * (hC 0 3).toInt.toNat + 160) → ¬ (a = 2 ∧ j = (hC 0 3).toInt.toNat) → ¬ (a = 0 ∧ j = 6) → g a j = hM a j) → f_X7_read (hM 0 3) 0 g = some (r, k) → Al (if (k 0 27).toInt = 0 then (oH (dU k 0 3 ((k 0 3) + 1)) (fun g17 => some (((g17 0 3) - 1), g17))) else (some (((-100) - (k 0 28)), k))) P) → Al (f_X7_text hM) P := fun K => mtext_ok etM ht6 eN (by unfold cN; omega) I (cB hC) (fun j hj => ⟨by rw [← (p4 j hj).1]; rfl, cb j hj⟩) K
    have old : ∀ {gC gM : dH}, (∀ a k, ¬ (a = 42 ∧ 1 ≤ k ∧ k ≤ 4) → ¬ (a = 1 ∧ (k = 0 ∨ k = 5)) → ¬ (2 ≤ a ∧ a ≤ 4) → ¬ (a = 10 + 4 * (hC 0 3).toInt.toNat ∧ k = 1) → ¬ a = 10 + 4 * (hC 0 3).toInt.toNat + 1 → ¬ a = 10 + 4 * (hC 0 3).toInt.toNat + 2 → ¬ (a = 0 ∧ k = 3) → gC a k = hC a k) → (∀ a j, ¬ (a = 1 ∧ 160 * (hC 0 3).toInt.toNat ≤ j ∧ j < 160 * (hC 0 3).toInt.toNat + 160) → ¬ (a = 2 ∧ j = (hC 0 3).toInt.toNat) → ¬ (a = 0 ∧ (j = 6 ∨ j = 3 ∨ (20 ≤ j ∧ j ≤ 28))) → gM a j = hM a j) → ∀ s : Nat, (s : Int) < (hC 0 3).toInt → Sem gC gM s := fun {gC gM} e m s hs => (t4 s hs).same (fun k => e _ k (by omega) (by omega) (by omega) (by omega) (by omega) (by omega) (by omega)) (fun k => e _ k (by omega) (by omega) (by omega) (by omega) (by omega) (by omega) (by omega)) (fun j hj => m 1 _ (by omega) (by omega) (by omega)) (m 2 s (by omega) (by omega) (by omega))
    have eF : ∀ (pr : pR (10 + 4 * (hC 0 3).toInt.toNat) g5 hC), ∀ a k, ¬ (a = 42 ∧ 1 ≤ k ∧ k ≤ 4) → ¬ (a = 1 ∧ (k = 0 ∨ k = 5)) → ¬ (2 ≤ a ∧ a ≤ 4) → ¬ (a = 10 + 4 * (hC 0 3).toInt.toNat ∧ k = 1) → ¬ a = 10 + 4 * (hC 0 3).toInt.toNat + 1 → ¬ a = 10 + 4 * (hC 0 3).toInt.toNat + 2 → g6 a k = hC a k := fun pr a k z1 z2 z3 z4 z5 z6 => by rw [e6, dU_ne (by omega)]; exact pr a k z1 (by omega) z3 z4 z5 z6
    have z10 : g6 1 0 = 0 := by rw [e6]; exact dU_eq
    have neg1 : (-1 : Int32).toInt = -1 := by decide
    refine al_ite (fun d => al_oH' (fun g9 h9 => al_some (M (fun g r k Ig xg g06 F hk => ?_)))) (fun d => al_some (M (fun g r k Ig xg g06 F hk => ?_)))
    · obtain ⟨y1, y2, y3⟩ := BB g 0 (r, k) xg hk
      have y2 : mRd k g := y2
      have k27 : (k 0 27).toInt = 0 := by
        rcases y3 with ⟨-, w, -⟩ | ⟨w, -⟩
        · exact w
        · exact absurd d w
      refine al_ite (fun _ => al_oH' (fun g17 h17 => al_some ?_)) (fun z => absurd k27 z)
      have k03 : k 0 3 = hM 0 3 := (y2.2 3 (by omega)).trans (F 0 3 (by omega) (by omega) (by omega))
      have g603 : g6 0 3 = hC 0 3 := eF y1 0 3 (by omega) (by omega) (by omega) (by omega) (by omega) (by omega)
      have g9e : g9 0 3 = hC 0 3 + 1 := by rw [h9, dU_eq, g603]
      have g17e : g17 0 3 = hC 0 3 + 1 := by rw [h17, dU_eq, k03, t1]
      have i1 := inc1 (v := hC 0 3) (by omega)
      have e9 : ∀ a k, ¬ (a = 42 ∧ 1 ≤ k ∧ k ≤ 4) → ¬ (a = 1 ∧ (k = 0 ∨ k = 5)) → ¬ (2 ≤ a ∧ a ≤ 4) → ¬ (a = 10 + 4 * (hC 0 3).toInt.toNat ∧ k = 1) → ¬ a = 10 + 4 * (hC 0 3).toInt.toNat + 1 → ¬ a = 10 + 4 * (hC 0 3).toInt.toNat + 2 → ¬ (a = 0 ∧ k = 3) → g9 a k = hC a k := fun a k z1 z2 z3 z4 z5 z6 z7 => by rw [h9, dU_ne z7]; exact eF y1 a k z1 z2 z3 z4 z5 z6
      have m17 : ∀ a j, ¬ (a = 1 ∧ 160 * (hC 0 3).toInt.toNat ≤ j ∧ j < 160 * (hC 0 3).toInt.toNat + 160) → ¬ (a = 2 ∧ j = (hC 0 3).toInt.toNat) → ¬ (a = 0 ∧ (j = 6 ∨ j = 3 ∨ (20 ≤ j ∧ j ≤ 28))) → g17 a j = hM a j := fun a j z1 z2 z3 => by
        rw [h17, dU_ne (by omega)]
        by_cases a0 : a = 0
        · rw [a0, y2.2 j (by omega)]; exact F 0 j (by omega) (by omega) (by omega)
        · rw [y2.1 a j a0]; exact F a j z1 z2 (by omega)
      refine ⟨?_, ?_⟩
      · show g9 0 3 - 1 = g17 0 3 - 1
        rw [g9e, g17e]
      · show RR g9 g17
        refine q.texts et ht6 e9 m17 ⟨?_, ?_⟩ ⟨g9e.trans g17e.symm, by rw [g9e]; omega, by rw [g9e]; omega, fun s hs => ?_⟩ (by rw [g9e]; omega)
        · rw [h9, dU_ne (by omega)]; exact z10
        · rw [h17, dU_ne (by omega), y2.2 6 (by omega)]; exact g06
        · rw [g9e, i1] at hs
          by_cases c2 : s = (hC 0 3).toInt.toNat
          · have S := sem_new ht6 p2 p3 cb h5 (by rw [d]) Ig xg
            rw [c2]
            refine S.same (fun k => by rw [h9, dU_ne (by omega), e6, dU_ne (by omega)]) (fun k => by rw [h9, dU_ne (by omega), e6, dU_ne (by omega)]) (fun j hj => ?_) ?_
            · rw [h17, dU_ne (by omega)]; exact y2.1 1 _ (by omega)
            · rw [h17, dU_ne (by omega)]; exact y2.1 2 _ (by omega)
          · exact old e9 m17 s (by omega)
    · obtain ⟨y1, y2, y3⟩ := BB g 0 (r, k) xg hk
      have y2 : mRd k g := y2
      have w : ¬ (k 0 27).toInt = 0 ∧ (k 0 28).toInt = r4.toInt := by
        rcases y3 with ⟨w, -⟩ | ⟨-, w, w2⟩
        · exact absurd w d
        · exact ⟨w, w2⟩
      refine al_ite (fun z => absurd z w.1) (fun _ => al_some ⟨?_, ?_⟩)
      · rw [show k 0 28 = r4 from Int32.toInt_inj.mp w.2]
      · have e9 : ∀ a k, ¬ (a = 42 ∧ 1 ≤ k ∧ k ≤ 4) → ¬ (a = 1 ∧ (k = 0 ∨ k = 5)) → ¬ (2 ≤ a ∧ a ≤ 4) → ¬ (a = 10 + 4 * (hC 0 3).toInt.toNat ∧ k = 1) → ¬ a = 10 + 4 * (hC 0 3).toInt.toNat + 1 → ¬ a = 10 + 4 * (hC 0 3).toInt.toNat + 2 → ¬ (a = 0 ∧ k = 3) → g6 a k = hC a k := fun a k z1 z2 z3 z4 z5 z6 _ => eF y1 a k z1 z2 z3 z4 z5 z6
        have m17 : ∀ a j, ¬ (a = 1 ∧ 160 * (hC 0 3).toInt.toNat ≤ j ∧ j < 160 * (hC 0 3).toInt.toNat + 160) → ¬ (a = 2 ∧ j = (hC 0 3).toInt.toNat) → ¬ (a = 0 ∧ (j = 6 ∨ j = 3 ∨ (20 ≤ j ∧ j ≤ 28))) → k a j = hM a j := fun a j z1 z2 z3 => by
          by_cases a0 : a = 0
          · rw [a0, y2.2 j (by omega)]; exact F 0 j (by omega) (by omega) (by omega)
          · rw [y2.1 a j a0]; exact F a j z1 z2 (by omega)
        have g603 : g6 0 3 = hC 0 3 := eF y1 0 3 (by omega) (by omega) (by omega) (by omega) (by omega) (by omega)
        have k03 : k 0 3 = hM 0 3 := (y2.2 3 (by omega)).trans (F 0 3 (by omega) (by omega) (by omega))
        show RR g6 k
        refine q.texts et ht6 e9 m17 ⟨z10, ?_⟩ ⟨by rw [g603, k03]; exact t1, by rw [g603]; exact t2, by rw [g603]; exact t3, fun s hs => ?_⟩ (by rw [g603]; exact Int.le_refl _)
        · exact (y2.2 6 (by omega)).trans g06
        · rw [g603] at hs
          exact old e9 m17 s hs
  · unfold f_X7_text
    rw [← t1]
    exact al_ite (fun _ => al_some ⟨rfl, q⟩) (fun z => by omega)
end
end

section
/-! THE CLAIM OUT OF ONE WALK OF THE LAW'S BODY. Your part is whole_start (and what it stands on); all else here is the same for every law, but numbers. -/
def R_law : String := "StreetTillTenLaw"
def lw_P (b : Addr) (xs : List Int32) (args : Array Value) (s : State) : Prop := args = #[.ref b] ∧ s.IntsAt b xs ∧ xs.length ≤ 3072 ∧ (Jvm.Cond.and given_1 narrow_1).before args s = true
def lw_Q (_ : Array Value) (s : State) (o : Outcome) (t : State) : Prop := o = .returned (some (.int 1)) ∧ Framed s o t [] 600000 7302250
def lw_Z (below : List Frame) (a : Array Value) (s : State) : State → Prop := fun t => ∃ o, t.status = .running ∧ Ended t below o ∧ lw_Q a s o t
/-- the law's own end, with 1 on the stack, nothing written that was there before, its room as the claim has it -/
theorem lw_ret {p : Program} {l : Launch} {e : Env} {s : State} {m : MethodId} {below : List Frame} {meth : Method} {c : Code} {b : Nat} (hx : p.tables.exec = Jvm.exec) (hb : c.code = code) (hr : meth.sig.returnType = ret) (hlocks : meth.locks = false) {pc : Nat} {H : Heap} {ls : Array Slot} (hdg : decode code pc = .ok (.ireturn, 1)) : W p l e room_1 s m #[Value.ref b] below meth c H [] 600000 7302250 (lw_Z below #[Value.ref b] s) (F0 m pc ls [.int 1]) := by
  intro T hT X
  obtain ⟨fs, hret, hrun, hended, hW, hframe⟩ := X.leave (v := some (.int 1)) (hlocks := hlocks) (fun h => by rw [hr] at h; cases h)
  have hmeth' : T.vm.method? m = some meth := X.method'
  refine ⟨T.setFrames fs, ?_, .returned (some (.int 1)), hrun, hended, rfl, ⟨_, rfl⟩, hW, hframe⟩
  jvm_step X.here [X.here.top, hx, hb, hdg, hmeth', hr, ret, narrow_b1]
  (try refine ⟨rfl, ?_⟩); (try refine ⟨rfl, ?_⟩)
  first | (intro acts; rw [hret _ acts rfl rfl rfl]) | rw [hret _ _ rfl rfl rfl]
  exact Steps.refl _
/-- what holds at the law's entry: the machine, the code, the tables' words (any of lw_tbl by 'hts w (by decide +kernel)'), the script of L ints xs at the cell b, what the Statement gives of the start (any of its parts by flat_of_before) -/
def lw_At (p : Program) (s : State) (m : MethodId) (meth : Method) (c : Code) (b L : Nat) (xs : Nat → Int32) : Prop :=
  p.tables.exec = Jvm.exec ∧ c.code = code ∧ meth.sig.returnType = ret ∧ c.maxLocals = 4 ∧ s.vm.findClass R_law = some m.cls ∧ (∀ w ∈ lw_tbl, w.before #[Value.ref b] s = true) ∧ va_X b L xs s s.heap ∧ b < s.heap.size ∧ meth.locks = false ∧ (Jvm.Cond.and given_1 narrow_1).before #[Value.ref b] s = true
end
