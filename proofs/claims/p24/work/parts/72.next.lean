/-! the reference's next token, whole -/
noncomputable section
def isSg (c : Int) : Prop := c = 40 ∨ c = 41 ∨ c = 59 ∨ c = 43 ∨ c = 45 ∨ c = 42 ∨ c = 60 ∨ c = 61
/-- the reference stands at this token -/
def mtk (g : dH) (c : Int) (s e : Nat) (w : Int) : Prop := (g 0 24).toInt = s ∧
  ((c = 300 ∧ (g 0 23).toInt = 0) ∨ (c = 301 ∧ ((g 0 23).toInt = 4 ∨ ((g 0 23).toInt = 1 ∧ (g 0 22).toInt = e))) ∨ (c = 302 ∧ (g 0 23).toInt = 2 ∧ (g 0 22).toInt = e ∧ (g 0 25).toInt = w) ∨ (303 ≤ c ∧ c ≤ 309 ∧ (g 0 23).toInt = 1 ∧ (g 0 22).toInt = e) ∨ (isSg c ∧ (g 0 23).toInt = 3 ∧ (g 0 25).toInt = c ∧ (g 0 22).toInt = e) ∨ (c ≤ 255 ∧ ¬ isSg c ∧ (g 0 23).toInt = 4))
def nextQ (h g : dH) : Prop := mSame g h ∧ g 0 26 = h 0 26 ∧ g 0 27 = h 0 27 ∧ g 0 28 = h 0 28 ∧ ∃ (c : Int) (s e : Nat) (w : Int), Tok (mB h) (h 0 21).toInt.toNat (h 0 22).toInt.toNat c s e w ∧ mtk g c s e w
theorem tok_word {B : Nat → Int} {N p s e : Nat} (h1 : Run isBl B N p s) (h2 : s < N) (h3 : isSm (B s)) (h4 : Run isSm B N s e) : ∃ (c w : Int), Tok B N p c s e w ∧ ((303 ≤ c ∧ c ≤ 309) ∨ c = 301) := by
  by_cases a : ∃ i, i < 6 ∧ isW B s e (wName i)
  · obtain ⟨i, hi, hw⟩ := a
    exact ⟨303, -1 - (i : Int), ⟨h1, Or.inr (Or.inr (Or.inl ⟨h2, h3, h4, Or.inl ⟨i, hi, hw, rfl, rfl⟩⟩))⟩, Or.inl (by omega)⟩
  · by_cases b : ∃ i, i < 6 ∧ isW B s e (wKey i)
    · obtain ⟨i, hi, hw⟩ := b
      exact ⟨304 + (i : Int), 0, ⟨h1, Or.inr (Or.inr (Or.inl ⟨h2, h3, h4, Or.inr (Or.inl ⟨i, hi, hw, rfl⟩)⟩))⟩, Or.inl (by omega)⟩
    · exact ⟨301, 0, ⟨h1, Or.inr (Or.inr (Or.inl ⟨h2, h3, h4, Or.inr (Or.inr ⟨fun i hi => ⟨fun z => a ⟨i, hi, z⟩, fun z => b ⟨i, hi, z⟩⟩, rfl⟩)⟩))⟩, Or.inr rfl⟩
set_option maxHeartbeats 4000000 in
theorem next_ok {h : dH} (ho : mOk h) (hb : ∀ j, j < (h 0 21).toInt.toNat → 0 ≤ mB h j ∧ mB h j ≤ 255) (h0 : 0 ≤ (h 0 22).toInt) (h1 : (h 0 22).toInt ≤ (h 0 21).toInt) : Al (f_X7_next h) (nextQ h) := by
  unfold f_X7_next
  have o4 := ho.2.2.2
  have o3 := ho.2.2.1
  refine next_0 _ h ho h0 h1 (fun g9 m9 k9 z9 run9 => ?_)
  have hN := run9.2.1
  refine al_oH' (fun g10 hg10 => ?_)
  have m10 : mSame g10 h := by rw [hg10]; exact (mSame.up (by omega)).trans m9
  have e10 : ∀ j, ¬ j = 24 → ¬ j = 22 → g10 0 j = h 0 j := fun j j1 j2 => by rw [hg10, dU_ne (by omega)]; exact k9 j j2
  have e22 : g10 0 22 = g9 0 22 := by rw [hg10]; exact dU_ne (by omega)
  have e24 : g10 0 24 = g9 0 22 := by rw [hg10]; exact dU_eq
  have e21 : g10 0 21 = h 0 21 := e10 21 (by omega) (by omega)
  refine al_oP (fun r hr => ?_)
  have hbr := byte_ok (m10.ok ho) (by rw [e22]; exact z9) r hr
  rw [m10.bytes, e22, e21] at hbr
  clear hg10
  generalize hs : (g9 0 22).toInt.toNat = s at run9 hbr
  have e24' : (g10 0 24).toInt = s := by rw [e24]; omega
  have e22' : (g10 0 22).toInt = s := by rw [e22]; omega
  refine al_oH' (fun g12 hg12 => ?_)
  have m12 : mSame g12 h := by rw [hg12]; exact (mSame.up (by omega)).trans m10
  have e12 : ∀ j, ¬ j = 23 → g12 0 j = g10 0 j := fun j j1 => by rw [hg12]; exact dU_ne (by omega)
  have f23 : (g12 0 23).toInt = 4 := by rw [hg12, dU_eq]; decide
  refine al_ite (fun c => ?_) (fun c => ?_)
  · -- the end
    have hsN : ¬ s < (h 0 21).toInt.toNat := fun z => by
      have := hb s z
      omega
    refine al_oH' (fun g15 hg15 => al_oH' (fun g16 hg16 => al_some ?_))
    have k16 : ∀ j, ¬ j = 23 → ¬ j = 24 → g16 0 j = g12 0 j := fun j j1 j2 => by rw [hg16, dU_ne (by omega), hg15, dU_ne (by omega)]
    refine ⟨by rw [hg16, hg15]; exact (mSame.up (by omega)).trans ((mSame.up (by omega)).trans m12), ?_, ?_, ?_, 300, s, s, 0, ⟨run9, Or.inl ⟨by omega, rfl, by omega⟩⟩, ?_, Or.inl ⟨rfl, ?_⟩⟩
    · rw [k16 26 (by omega) (by omega), e12 26 (by omega), e10 26 (by omega) (by omega)]
    · rw [k16 27 (by omega) (by omega), e12 27 (by omega), e10 27 (by omega) (by omega)]
    · rw [k16 28 (by omega) (by omega), e12 28 (by omega), e10 28 (by omega) (by omega)]
    · rw [hg16, dU_eq, hg15, dU_ne (by omega), e12 21 (by omega), e21]
      omega
    · rw [hg16, dU_ne (by omega), hg15, dU_eq]; decide
  · have hsN : s < (h 0 21).toInt.toNat := by omega
    have hrs : r.toInt = mB h s := by omega
    have hnb := run9.2.2.2 hsN
    refine al_oP (fun r17 hr17 => ?_)
    have hi := in7 hr17
    rw [l_i2l, show (97 : Int64).toInt = 97 by decide, show (122 : Int64).toInt = 122 by decide] at hi
    refine al_ite (fun c17 => ?_) (fun c17 => ?_)
    · refine al_oP (fun r20 hr20 => ?_)
      have hi2 := in7 hr20
      rw [l_i2l, show (48 : Int64).toInt = 48 by decide, show (57 : Int64).toInt = 57 by decide] at hi2
      refine al_ite (fun c20 => ?_) (fun c20 => ?_)
      · have nd : ¬ isDg (mB h s) := by unfold isDg; omega
        have ns : ¬ isSm (mB h s) := by unfold isSm; omega
        have sg : isSg (mB h s) → Al (oH (dU g12 0 23 3) (fun g25 => if r.toInt64.toInt32.toInt64 = r.toInt64 then oH (dU g25 0 25 r.toInt64.toInt32) (fun g26 => oH (dU g26 0 22 ((g26 0 22) + 1)) (fun g28 => some g28)) else none)) (nextQ h) := by
          intro hsg
          refine al_oH' (fun g25 hg25 => al_ite (fun c5 => ?_) (fun _ => al_none))
          have tx : (r.toInt64.toInt32).toInt = r.toInt := by
            have := congrArg Int64.toInt c5
            rw [l_i2l, l_i2l] at this
            exact this
          refine al_oH' (fun g26 hg26 => al_oH' (fun g28 hg28 => al_some ?_))
          have k28 : ∀ j, ¬ j = 22 → ¬ j = 23 → ¬ j = 25 → g28 0 j = g12 0 j := fun j j1 j2 j3 => by rw [hg28, dU_ne (by omega), hg26, dU_ne (by omega), hg25, dU_ne (by omega)]
          have p26 : g26 0 22 = g10 0 22 := by rw [hg26, dU_ne (by omega), hg25, dU_ne (by omega), e12 22 (by omega)]
          refine ⟨by rw [hg28, hg26, hg25]; exact (mSame.up (by omega)).trans ((mSame.up (by omega)).trans ((mSame.up (by omega)).trans m12)), ?_, ?_, ?_, mB h s, s, s + 1, 0, ⟨run9, Or.inr (Or.inr (Or.inr ⟨hsN, nd, ns, hnb, rfl, rfl⟩))⟩, ?_, Or.inr (Or.inr (Or.inr (Or.inr (Or.inl ⟨hsg, ?_, ?_, ?_⟩))))⟩
          · rw [k28 26 (by omega) (by omega) (by omega), e12 26 (by omega), e10 26 (by omega) (by omega)]
          · rw [k28 27 (by omega) (by omega) (by omega), e12 27 (by omega), e10 27 (by omega) (by omega)]
          · rw [k28 28 (by omega) (by omega) (by omega), e12 28 (by omega), e10 28 (by omega) (by omega)]
          · rw [k28 24 (by omega) (by omega) (by omega), e12 24 (by omega), e24']
          · rw [hg28, dU_ne (by omega), hg26, dU_ne (by omega), hg25, dU_eq]; decide
          · rw [hg28, dU_ne (by omega), hg26, dU_eq, tx, hrs]
          · rw [hg28, dU_eq, p26]
            have := i_add (a := g10 0 22) (b := 1) e22' (by decide) (B := 1) (by omega) (by omega)
            rw [this]; omega
        refine al_ite (fun c1 => sg (by unfold isSg; omega)) (fun c1 => al_ite (fun c2 => sg (by unfold isSg; omega)) (fun c2 => al_ite (fun c3 => sg (by unfold isSg; omega)) (fun c3 => al_ite (fun c4 => sg (by unfold isSg; omega)) (fun c4 => al_ite (fun c5 => sg (by unfold isSg; omega)) (fun c5 => al_ite (fun c6 => sg (by unfold isSg; omega)) (fun c6 => al_ite (fun c7 => sg (by unfold isSg; omega)) (fun c7 => al_ite (fun c8 => sg (by unfold isSg; omega)) (fun c8 => al_some ?_))))))))
        have := hb s hsN
        refine ⟨m12, ?_, ?_, ?_, mB h s, s, s + 1, 0, ⟨run9, Or.inr (Or.inr (Or.inr ⟨hsN, nd, ns, hnb, rfl, rfl⟩))⟩, ?_, Or.inr (Or.inr (Or.inr (Or.inr (Or.inr ⟨by omega, ?_, f23⟩))))⟩
        · rw [e12 26 (by omega), e10 26 (by omega) (by omega)]
        · rw [e12 27 (by omega), e10 27 (by omega) (by omega)]
        · rw [e12 28 (by omega), e10 28 (by omega) (by omega)]
        · rw [e12 24 (by omega), e24']
        · unfold isSg; omega
      · -- a number
        have hd : isDg (mB h s) := by unfold isDg; omega
        refine al_oH' (fun g71 hg71 => al_oH' (fun g72 hg72 => ?_))
        have m72 : mSame g72 h := by rw [hg72, hg71]; exact (mSame.up (by omega)).trans ((mSame.up (by omega)).trans m12)
        have k72 : ∀ j, ¬ j = 23 → ¬ j = 25 → g72 0 j = g12 0 j := fun j j1 j2 => by rw [hg72, dU_ne (by omega), hg71, dU_ne (by omega)]
        have p22 : (g72 0 22).toInt = s := by rw [k72 22 (by omega) (by omega), e12 22 (by omega), e22']
        have p21 : g72 0 21 = h 0 21 := by rw [k72 21 (by omega) (by omega), e12 21 (by omega), e21]
        have p25 : (g72 0 25).toInt = 0 := by rw [hg72, dU_eq]; decide
        have z0 : (0 : Int32).toInt = 0 := by decide
        refine next_160 s _ 0 g72 (m72.ok ho) (by omega) (by rw [p21]; omega) (by omega) (by omega) (by omega) (fun _ => by rw [p25, z0]; rfl) (fun w f q1 q2 q3 q4 q5 q6 => ?_)
        rw [m72.bytes, p21, p22] at q6
        rw [m72.bytes] at q5
        have hse := q6.1
        have run6 : Run isDg (mB h) (h 0 21).toInt.toNat s (f 0 22).toInt.toNat := q6
        have kf : ∀ j, ¬ j = 22 → ¬ j = 23 → ¬ j = 24 → ¬ j = 25 → f 0 j = h 0 j := fun j j1 j2 j3 j4 => by rw [q2 j j1 j4, k72 j j2 j4, e12 j j2, e10 j j3 j1]
        have pf24 : (f 0 24).toInt = s := by rw [q2 24 (by omega) (by omega), k72 24 (by omega) (by omega), e12 24 (by omega), e24']
        refine al_ite (fun c9 => al_oH' (fun g90 hg90 => al_some ?_)) (fun c9 => al_oH' (fun g91 hg91 => al_some ?_))
        · refine ⟨by rw [hg90]; exact (mSame.up (by omega)).trans (q1.trans m72), ?_, ?_, ?_, 301, s, (f 0 22).toInt.toNat, 0, ⟨run9, Or.inr (Or.inl ⟨hsN, hd, run6, Or.inl ⟨by omega, rfl⟩⟩)⟩, ?_, Or.inr (Or.inl ⟨rfl, Or.inl ?_⟩)⟩
          · rw [hg90, dU_ne (by omega)]; exact kf 26 (by omega) (by omega) (by omega) (by omega)
          · rw [hg90, dU_ne (by omega)]; exact kf 27 (by omega) (by omega) (by omega) (by omega)
          · rw [hg90, dU_ne (by omega)]; exact kf 28 (by omega) (by omega) (by omega) (by omega)
          · rw [hg90, dU_ne (by omega)]; exact pf24
          · rw [hg90, dU_eq]; decide
        · refine ⟨by rw [hg91]; exact (mSame.up (by omega)).trans (q1.trans m72), ?_, ?_, ?_, 302, s, (f 0 22).toInt.toNat, numV (mB h) s ((f 0 22).toInt.toNat - s), ⟨run9, Or.inr (Or.inl ⟨hsN, hd, run6, Or.inr ⟨by omega, rfl, rfl⟩⟩)⟩, ?_, Or.inr (Or.inr (Or.inl ⟨rfl, ?_, ?_, ?_⟩))⟩
          · rw [hg91, dU_ne (by omega)]; exact kf 26 (by omega) (by omega) (by omega) (by omega)
          · rw [hg91, dU_ne (by omega)]; exact kf 27 (by omega) (by omega) (by omega) (by omega)
          · rw [hg91, dU_ne (by omega)]; exact kf 28 (by omega) (by omega) (by omega) (by omega)
          · rw [hg91, dU_ne (by omega)]; exact pf24
          · rw [hg91, dU_eq]; decide
          · rw [hg91, dU_ne (by omega)]; omega
          · rw [hg91, dU_ne (by omega), q5 (by omega), show (f 0 22).toInt.toNat - s = w.toInt.toNat by omega]
    · -- a word
      have hsm : isSm (mB h s) := by unfold isSm; omega
      refine al_oH' (fun g91 hg91 => ?_)
      have m91 : mSame g91 h := by rw [hg91]; exact (mSame.up (by omega)).trans m12
      have k91 : ∀ j, ¬ j = 23 → g91 0 j = g12 0 j := fun j j1 => by rw [hg91, dU_ne (by omega)]
      have p22 : (g91 0 22).toInt = s := by rw [k91 22 (by omega), e12 22 (by omega), e22']
      have p21 : g91 0 21 = h 0 21 := by rw [k91 21 (by omega), e12 21 (by omega), e21]
      refine next_100 _ g91 (m91.ok ho) (by omega) (by rw [p21]; omega) (fun f q1 a23 a24 a25 a26 a27 a28 q3 q6 => al_some ?_)
      rw [m91.bytes, p21, p22] at q6
      have run6 : Run isSm (mB h) (h 0 21).toInt.toNat s (f 0 22).toInt.toNat := q6
      obtain ⟨cc, ww, tk, hc⟩ := tok_word run9 hsN hsm run6
      have p23 : (f 0 23).toInt = 1 := by rw [a23, hg91, dU_eq]; decide
      refine ⟨q1.trans m91, ?_, ?_, ?_, cc, s, (f 0 22).toInt.toNat, ww, tk, ?_, ?_⟩
      · rw [a26, k91 26 (by omega), e12 26 (by omega), e10 26 (by omega) (by omega)]
      · rw [a27, k91 27 (by omega), e12 27 (by omega), e10 27 (by omega) (by omega)]
      · rw [a28, k91 28 (by omega), e12 28 (by omega), e10 28 (by omega) (by omega)]
      · rw [a24, k91 24 (by omega), e12 24 (by omega), e24']
      · rcases hc with hc | hc
        · exact Or.inr (Or.inr (Or.inr (Or.inl ⟨hc.1, hc.2, p23, by omega⟩)))
        · exact Or.inr (Or.inl ⟨hc, Or.inr ⟨p23, by omega⟩⟩)
end
