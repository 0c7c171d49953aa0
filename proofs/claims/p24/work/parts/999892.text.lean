/-! texts: on both sides -/
noncomputable section
theorem ex1_nm {nm nm' : Nat → Int32} (e : ∀ k, k < 6 → nm k = nm' k) (x : Int32) (st : List Int32) : ex1 nm x st = ex1 nm' x st := by
  unfold ex1
  by_cases c : -6 ≤ x.toInt
  · rw [if_pos c, if_pos c]
    by_cases d : 0 ≤ x.toInt
    · rw [if_pos d, if_pos d]
    · rw [if_neg d, if_neg d, e _ (by omega)]
  · rw [if_neg c, if_neg c]
theorem exR_nm {nm nm' : Nat → Int32} (e : ∀ k, k < 6 → nm k = nm' k) (f : Nat → Int32) : ∀ (m a : Nat) (st : List Int32), exR nm f m a st = exR nm' f m a st
  | 0, _, _ => rfl
  | m + 1, a, st => by
    rw [exR, exR, ex1_nm e]
    cases ex1 nm' (f a) st with
    | none => rfl
    | some st' => exact exR_nm e f m (a + 1) st'
theorem i32_ofN {n : Nat} (h : n < 1000) : (Int32.ofNat n).toInt = n := by
  have e := Int32.toInt_ofNat_of_lt (n := n) (by omega)
  exact e
/-- a text that was read says what its bytes say -/
theorem sem_new {t : Nat} (ht : t < 6) {hC : dH} (c0 : 0 ≤ (hC 1 0).toInt) (c1 : (hC 1 0).toInt ≤ 160) (cb : ∀ j, j < cN hC → 0 ≤ cB hC j ∧ cB hC j ≤ 255) {r : Int32} {g : dH} (hr : f_X1_readInto (10 + 4 * t) hC = some (r, g)) (hok : r.toInt = -1) {gM : dH} (I : InvM gM) (x : mTx gM t (cB hC) (cN hC)) : Sem g gM t := by
  have vt := i32_ofN (n := t) (by omega)
  have B := read_both (zT6 ht) ht vt c0 c1 cb (r, g) hr
  have go : ∀ (h : dH) (v2 : Int32) (o : Int32 × dH), mTx h t (cB hC) (cN hC) → f_X7_read (Int32.ofNat t) v2 h = some o → mRd o.2 h ∧ tOk g (10 + 4 * t) ∧ ∀ pt : Nat, pt < 3 → v2.toInt = pt → tEv g (10 + 4 * t) (nmF h) pt = some [o.1] := fun h v2 o a b => by
    obtain ⟨-, y2, y3⟩ := B h v2 o a b
    rcases y3 with ⟨-, -, y4, y5⟩ | ⟨y4, -⟩
    · exact ⟨y2, y4, y5⟩
    · exact absurd hok y4
  refine ⟨?_, fun nm pt hp => ?_, fun h' v1 v2 o pt a1 a2 a3 a4 a5 a6 => ?_⟩
  · obtain ⟨o, ho, -⟩ := s_X7_read gM I (Int32.ofNat t) 0 (by omega)
    exact (go gM 0 o x ho).2.1
  · have I' : InvM (fun a k => if a = 0 ∧ 14 ≤ k ∧ k < 20 then nm (k - 14) else gM a k) := by
      refine ⟨fun a k lo hi hb => ?_, fun s hs hn => ?_⟩
      · by_cases c : a = 0 ∧ 14 ≤ k ∧ k < 20
        · exfalso
          unfold bndM at hb
          rw [if_pos c.1, if_neg (by omega), if_neg (by omega), if_neg (by omega), if_neg (by omega), if_neg (by omega), if_neg (by omega)] at hb
          cases hb
        · simp only
          rw [if_neg c]; exact I.1 a k lo hi hb
      · simp only at hn ⊢
        rw [if_neg (by omega)] at hn ⊢
        exact I.2 s hs hn
    have vp := i32_ofN (n := pt) (by omega)
    obtain ⟨o, ho, -⟩ := s_X7_read _ I' (Int32.ofNat t) (Int32.ofNat pt) (by omega)
    have x' : mTx (fun a k => if a = 0 ∧ 14 ≤ k ∧ k < 20 then nm (k - 14) else gM a k) t (cB hC) (cN hC) := ⟨by simp only; rw [if_neg (by omega)]; exact x.1, fun j hj => by simp only; rw [if_neg (by omega)]; exact x.2 j hj⟩
    have y := (go _ _ o x' ho).2.2 pt hp vp
    refine ⟨o.1, ?_⟩
    rw [← y]
    unfold tEv
    refine exR_nm (fun k hk => ?_) _ _ _ _
    unfold nmF
    rw [if_pos hk]
    simp only
    rw [if_pos ⟨trivial, by omega, by omega⟩, show 14 + k - 14 = k by omega]
  · have e : v1 = Int32.ofNat t := Int32.toInt_inj.mp (a4.trans vt.symm)
    rw [e] at a6
    have x' : mTx h' t (cB hC) (cN hC) := ⟨by rw [a2]; exact x.1, fun j hj => by
      have : cN hC ≤ 160 := by unfold cN; omega
      rw [a1 j (by omega)]; exact x.2 j hj⟩
    obtain ⟨y1, -, y3⟩ := go h' v2 o x' a6
    exact ⟨y1, y3 pt a3 a5⟩
theorem text_14 {t N : Nat} {h0 : dH} (ht : (h0 0 3).toInt = t) (ht6 : t < 6) (hN : (h0 0 6).toInt = N) (hN2 : N ≤ 160) {k : dH → Option (Int32 × dH)} {P : Int32 × dH → Prop} (K : ∀ g : dH, (∀ j, j < N → g 1 (160 * t + j) = h0 3 j) → (∀ a j, ¬ (a = 1 ∧ 160 * t ≤ j ∧ j < 160 * t + 160) → g a j = h0 a j) → (∀ j, g 1 j = h0 1 j ∨ ∃ i, i < N ∧ g 1 j = h0 3 i) → Al (k g) P) : ∀ (n : Nat) (v1 : Int32) (h : dH), 0 ≤ v1.toInt → v1.toInt ≤ N → (∀ j, j < v1.toInt.toNat → h 1 (160 * t + j) = h0 3 j) → (∀ a j, ¬ (a = 1 ∧ 160 * t ≤ j ∧ j < 160 * t + 160) → h a j = h0 a j) → (∀ j, h 1 j = h0 1 j ∨ ∃ i, i < N ∧ h 1 j = h0 3 i) → Al (l_X7_text_14 k n v1 h) P
  | 0, _, _, _, _, _, _, _ => al_none
  | n + 1, v1, h, p0, p1, h1, h2, h3 => by
    rw [l_X7_text_14, h2 0 6 (by omega), h2 0 3 (by omega), h2 3 _ (by omega)]
    have tt := inc1 (v := v1) (by omega)
    have t160 : (160 : Int32).toInt = 160 := by decide
    have j0 : (160 * h0 0 3 : Int32).toInt = 160 * (t : Int) := i_mul t160 ht (by omega) (by omega)
    have j1 : (160 * h0 0 3 + v1).toInt = 160 * (t : Int) + v1.toInt := i_add j0 rfl (by omega) (by omega)
    refine al_ite (fun c => al_ite (fun _ => al_ite (fun _ => al_oH' (fun g hg => ?_)) (fun _ => al_none)) (fun _ => al_none)) (fun c => K h (fun j hj => h1 j (by omega)) h2 h3)
    rw [j1, show (160 * (t : Int) + v1.toInt).toNat = 160 * t + v1.toInt.toNat by omega] at hg
    refine text_14 ht ht6 hN hN2 K n (v1 + 1) g (by omega) (by omega) (fun j hj => ?_) (fun a j z => by rw [hg, dU_ne (by omega)]; exact h2 a j z) (fun j => ?_)
    · by_cases d : j = v1.toInt.toNat
      · rw [d, hg]; exact dU_eq
      · rw [hg, dU_ne (by omega)]; exact h1 j (by omega)
    · by_cases d : j = 160 * t + v1.toInt.toNat
      · exact Or.inr ⟨v1.toInt.toNat, by omega, by rw [d, hg]; exact dU_eq⟩
      · rw [hg, dU_ne (fun z => d z.2)]; exact h3 j
end
