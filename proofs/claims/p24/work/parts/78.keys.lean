/-! keys, names; a fault is kept -/
noncomputable section
theorem wK_f : ∀ k, k < 6 → (wKey k).length ≤ 8 ∧ 0 < (wKey k).length ∧ ∀ j, j < (wKey k).length → 97 ≤ (wKey k).getD j 0 ∧ (wKey k).getD j 0 ≤ 122 := by decide
theorem wN_f : ∀ k, k < 6 → (wName k).length ≤ 8 ∧ 0 < (wName k).length ∧ ∀ j, j < (wName k).length → 97 ≤ (wName k).getD j 0 ∧ (wName k).getD j 0 ≤ 122 := by decide
section PR
variable {B : Nat → Int} {N : Nat} {P : Nat → Nat} {n : Nat} {i : Nat} {c : Int} {s e : Nat} {w : Int} {g h : dH}
theorem Tok.word {p : Nat} (tk : Tok B N p c s e w) (h1 : s < N) (h2 : isSm (B s)) : (∃ i, i < 6 ∧ isW B s e (wName i) ∧ c = 303 ∧ w = -1 - (i : Int)) ∨ (∃ i, i < 6 ∧ isW B s e (wKey i) ∧ c = 304 + (i : Int)) ∨ ((∀ i, i < 6 → ¬ isW B s e (wName i) ∧ ¬ isW B s e (wKey i)) ∧ c = 301) := by
  rcases tk.2 with q | q | q | q
  · omega
  · exact (dg_sm q.2.1 h2).elim
  · exact q.2.2.2
  · exact absurd h2 q.2.2.1
theorem Tok.word' {p : Nat} (tk : Tok B N p c s e w) (h1 : 303 ≤ c) (hb : ∀ j, j < N → B j ≤ 255) : s < N ∧ isSm (B s) := by
  rcases tk.2 with q | q | q | q
  · omega
  · have := q.2.2.2; omega
  · exact ⟨q.1, q.2.1⟩
  · have := hb s q.1; omega
theorem Good.key (G : Good B N P n i c s e w g h) {k : Nat} (hk : k < 6) {v0 v1 v2 v3 v4 v5 v6 v7 : Int32} (hv : v0.toInt = (wKey k).getD 0 0 ∧ v1.toInt = (wKey k).getD 1 0 ∧ v2.toInt = (wKey k).getD 2 0 ∧ v3.toInt = (wKey k).getD 3 0 ∧ v4.toInt = (wKey k).getD 4 0 ∧ v5.toInt = (wKey k).getD 5 0 ∧ v6.toInt = (wKey k).getD 6 0 ∧ v7.toInt = (wKey k).getD 7 0) : Al (f_X7_isWord v0 v1 v2 v3 v4 v5 v6 v7 h) (fun r => (r.toInt = 1 ∧ c = 304 + (k : Int) ∧ (h 0 22).toInt = e) ∨ (r.toInt = 0 ∧ ¬ c = 304 + (k : Int))) := by
  obtain ⟨f1, f2, f3⟩ := wK_f k hk
  intro r hr
  have q := G.word f1 f2 (fun j hj => by have := f3 j hj; omega) (fun j hj => f3 j hj) hv r hr
  have tk := G.2.2.2.2.2.2.2.2.2.2.1
  have hb := G.2.2.2.2.1
  rcases q with ⟨q1, q2, q3, q4, q5⟩ | ⟨q1, q2⟩
  · refine Or.inl ⟨q1, ?_, q5⟩
    rcases tk.word q3 q4 with ⟨j, j1, j2, -⟩ | ⟨j, j1, j2, j3⟩ | ⟨j1, -⟩
    · exact absurd (j2.uniq q2) (wNK j j1 k hk)
    · have := wK_inj j j1 k hk (j2.uniq q2)
      subst this
      exact j3
    · exact absurd q2 (j1 k hk).2
  · refine Or.inr ⟨q1, fun z => q2 ?_⟩
    obtain ⟨a1, a2⟩ := tk.word' (by omega) (fun j hj => (hb j hj).2)
    refine ⟨?_, a1, a2, by omega⟩
    rcases tk.word a1 a2 with ⟨j, j1, j2, j3, -⟩ | ⟨j, j1, j2, j3⟩ | ⟨-, j3⟩
    · omega
    · have : j = k := by omega
      subst this
      exact j2
    · omega
theorem Good.nam (G : Good B N P n i c s e w g h) {k : Nat} (hk : k < 6) {v0 v1 v2 v3 v4 v5 v6 v7 : Int32} (hv : v0.toInt = (wName k).getD 0 0 ∧ v1.toInt = (wName k).getD 1 0 ∧ v2.toInt = (wName k).getD 2 0 ∧ v3.toInt = (wName k).getD 3 0 ∧ v4.toInt = (wName k).getD 4 0 ∧ v5.toInt = (wName k).getD 5 0 ∧ v6.toInt = (wName k).getD 6 0 ∧ v7.toInt = (wName k).getD 7 0) : Al (f_X7_isWord v0 v1 v2 v3 v4 v5 v6 v7 h) (fun r => (r.toInt = 1 ∧ c = 303 ∧ w = -1 - (k : Int) ∧ (h 0 22).toInt = e) ∨ (r.toInt = 0 ∧ ¬ (c = 303 ∧ w = -1 - (k : Int)))) := by
  obtain ⟨f1, f2, f3⟩ := wN_f k hk
  intro r hr
  have q := G.word f1 f2 (fun j hj => by have := f3 j hj; omega) (fun j hj => f3 j hj) hv r hr
  have tk := G.2.2.2.2.2.2.2.2.2.2.1
  have hb := G.2.2.2.2.1
  rcases q with ⟨q1, q2, q3, q4, q5⟩ | ⟨q1, q2⟩
  · refine Or.inl ⟨q1, ?_⟩
    rcases tk.word q3 q4 with ⟨j, j1, j2, j3, j4⟩ | ⟨j, j1, j2, j3⟩ | ⟨j1, -⟩
    · have := wN_inj j j1 k hk (j2.uniq q2)
      subst this
      exact ⟨j3, j4, q5⟩
    · exact absurd (q2.uniq j2) (wNK k hk j j1)
    · exact absurd q2 (j1 k hk).1
  · refine Or.inr ⟨q1, fun z => q2 ?_⟩
    obtain ⟨a1, a2⟩ := tk.word' (by omega) (fun j hj => (hb j hj).2)
    refine ⟨?_, a1, a2, by omega⟩
    rcases tk.word a1 a2 with ⟨j, j1, j2, j3, j4⟩ | ⟨j, j1, j2, j3⟩ | ⟨-, j3⟩
    · have : j = k := by omega
      subst this
      exact j2
    · omega
    · omega
/-- a name's value -/
theorem Good.name (G : Good B N P n i c s e w g h) : Al (f_X7_name h) (fun o => (∃ k : Nat, k < 6 ∧ c = 303 ∧ w = -1 - (k : Int) ∧ (h 0 22).toInt = e ∧ o = (h 0 (14 + k), h)) ∨ ((∀ k : Nat, k < 6 → ¬ (c = 303 ∧ w = -1 - (k : Int))) ∧ f_X7_fail h = some o.2)) := by
  unfold f_X7_name
  have no : ∀ {r : Int32} {k : Nat}, r.toInt = 0 → ((r.toInt = 1 ∧ c = 303 ∧ w = -1 - (k : Int) ∧ (h 0 22).toInt = e) ∨ (r.toInt = 0 ∧ ¬ (c = 303 ∧ w = -1 - (k : Int)))) → ¬ (c = 303 ∧ w = -1 - (k : Int)) := fun z q => q.elim (fun y => by omega) (fun y => y.2)
  have ye : ∀ {r : Int32} {k : Nat}, k < 6 → ¬ r.toInt = 0 → ((r.toInt = 1 ∧ c = 303 ∧ w = -1 - (k : Int) ∧ (h 0 22).toInt = e) ∨ (r.toInt = 0 ∧ ¬ (c = 303 ∧ w = -1 - (k : Int)))) → Al (some (h 0 (14 + k), h)) (fun o => (∃ k : Nat, k < 6 ∧ c = 303 ∧ w = -1 - (k : Int) ∧ (h 0 22).toInt = e ∧ o = (h 0 (14 + k), h)) ∨ ((∀ k : Nat, k < 6 → ¬ (c = 303 ∧ w = -1 - (k : Int))) ∧ f_X7_fail h = some o.2)) := by
    intro r k hk z q
    rcases q with q | q
    · exact al_some (Or.inl ⟨k, hk, q.2.1, q.2.2.1, q.2.2.2, rfl⟩)
    · exact absurd q.1 z
  refine al_oP (fun r0 hr0 => ?_)
  have q0 := G.nam (k := 0) (by omega) (by decide) r0 hr0
  refine al_ite (fun z0 => al_oP (fun r1 hr1 => ?_)) (fun z0 => ye (by omega) z0 q0)
  have q1 := G.nam (k := 1) (by omega) (by decide) r1 hr1
  refine al_ite (fun z1 => al_oP (fun r2 hr2 => ?_)) (fun z1 => ye (by omega) z1 q1)
  have q2 := G.nam (k := 2) (by omega) (by decide) r2 hr2
  refine al_ite (fun z2 => al_oP (fun r3 hr3 => ?_)) (fun z2 => ye (by omega) z2 q2)
  have q3 := G.nam (k := 3) (by omega) (by decide) r3 hr3
  refine al_ite (fun z3 => al_oP (fun r4 hr4 => ?_)) (fun z3 => ye (by omega) z3 q3)
  have q4 := G.nam (k := 4) (by omega) (by decide) r4 hr4
  refine al_ite (fun z4 => al_oP (fun r5 hr5 => ?_)) (fun z4 => ye (by omega) z4 q4)
  have q5 := G.nam (k := 5) (by omega) (by decide) r5 hr5
  refine al_ite (fun z5 => al_oV' (fun g19 hg => al_some (Or.inr ⟨?_, hg⟩))) (fun z5 => ye (by omega) z5 q5)
  exact six (P := fun k => ¬ (c = 303 ∧ w = -1 - (k : Int))) (no z0 q0) (no z1 q1) (no z2 q2) (no z3 q3) (no z4 q4) (no z5 q5)
end PR
/-! behind a fault -/
theorem bad_sign {h : dH} {v : Int32} (hb : ¬ (h 0 27).toInt = 0) : Al (f_X7_isSign v h) (fun r => r.toInt = 0) := by
  unfold f_X7_isSign
  exact al_ite (fun z => absurd z hb) (fun _ => al_some ti0)
theorem bad_word {h : dH} {v0 v1 v2 v3 v4 v5 v6 v7 : Int32} (hb : ¬ (h 0 27).toInt = 0) : Al (f_X7_isWord v0 v1 v2 v3 v4 v5 v6 v7 h) (fun r => r.toInt = 0) := by
  unfold f_X7_isWord
  exact al_ite (fun z => absurd z hb) (fun _ => al_some ti0)
theorem bad_fail {h : dH} (hb : ¬ (h 0 27).toInt = 0) : Al (f_X7_fail h) (fun k => k = h) := by
  unfold f_X7_fail
  exact al_ite (fun z => absurd z hb) (fun _ => al_some rfl)
/-- the class behind its fault -/
def cBad (g : dH) : Prop := ¬ (g 42 4).toInt = -1 ∧ (g 42 3).toInt = 301
def cStay (f g : dH) : Prop := rdS f g ∧ f 42 4 = g 42 4 ∧ f 42 2 = g 42 2 ∧ (f 42 3).toInt = 301
theorem cStay.bad {f g : dH} (q : cStay f g) (b : cBad g) : cBad f := ⟨by rw [q.2.1]; exact b.1, q.2.2.2⟩
theorem cStay.trans {f g h : dH} (q : cStay f g) (r : cStay g h) : cStay f h := ⟨q.1.trans r.1, q.2.1.trans r.2.1, q.2.2.1.trans r.2.2.1, q.2.2.2⟩
theorem cbad_fail {g : dH} (b : cBad g) : Al (f_X1_fail g) (fun f => cStay f g) := by
  unfold f_X1_fail
  refine al_ite (fun z => absurd z b.1) (fun _ => al_oH' (fun f hf => al_some ⟨fun a k q => by rw [hf]; exact dU_ne (by omega), by rw [hf]; exact dU_ne (by omega), by rw [hf]; exact dU_ne (by omega), by rw [hf, dU_eq]; decide⟩))
theorem cbad_expect {g : dH} {v : Int32} (b : cBad g) (hv : ¬ v.toInt = 301) : Al (f_X1_expect v g) (fun f => cStay f g) := by
  unfold f_X1_expect
  refine al_ite (fun z => absurd (z.symm.trans b.2) hv) (fun _ => al_oV' (fun f hf => al_some (cbad_fail b f hf)))
theorem cbad_one {g : dH} {rec : Int32 → Int32 → dH → Option dH} {v : Int32} (b : cBad g) : ∀ n, Al (f_X1_readOne rec n v g) (fun f => cStay f g)
  | 0 => al_none
  | n + 1 => by
    rw [f_X1_readOne]
    have b2 := b.2
    refine al_ite (fun z => by omega) (fun _ => al_ite (fun z => by omega) (fun _ => al_ite (fun z => by omega) (fun _ => al_ite (fun z => by omega) (fun _ => al_oV' (fun f hf => al_some (cbad_fail b f hf))))))
theorem cbad_level {g : dH} (b : cBad g) : Al (f_X1_levelOf (g 42 3)) (fun r => r.toInt = -1) := by
  have b2 := b.2
  unfold f_X1_levelOf
  refine al_ite (fun z => by omega) (fun _ => al_ite (fun z => by omega) (fun _ => al_ite (fun z => by omega) (fun _ => al_ite (fun z => by omega) (fun _ => al_ite (fun z => by omega) (fun _ => al_ite (fun z => by omega) (fun _ => al_ite (fun z => by omega) (fun _ => al_some (by decide))))))))
theorem cbad_loop {rec : Int32 → Int32 → dH → Option dH} {v1 v2 v3 : Int32} (h1 : 0 ≤ v1.toInt) : ∀ (n : Nat) (v4 : Int32) (g : dH), cBad g → Al (l_X1_read_76 rec v1 v2 v3 (fun f => some f) n v4 g) (fun f => cStay f g)
  | 0, _, _, _ => al_none
  | n + 1, v4, g, b => by
    rw [l_X1_read_76]
    have st : cStay g g := ⟨rdS.refl g, rfl, rfl, b.2⟩
    refine al_ite (fun _ => al_oP (fun r hr => al_ite (fun z => ?_) (fun _ => al_some st))) (fun _ => al_some st)
    have := cbad_level b r hr
    omega
theorem cbad_read : ∀ (m : Nat) (v1 v2 : Int32) (g : dH), 0 ≤ v1.toInt → v1.toInt ≤ 5 → cBad g → Al (f_X1_read m v1 v2 g) (fun f => cStay f g)
  | 0, _, _, _, _, _, _ => al_none
  | m + 1, v1, v2, g, h0, h5, b => by
    show Al (f_X1_readB (f_X1_read m) v1 v2 g) _
    unfold f_X1_readB
    have b2 := b.2
    have more : ¬ 4 < v1.toInt → Al (f_X1_read m (v1 + 1) v2 g) (fun f => cStay f g) := fun z => by
      have t : (v1 + 1).toInt = v1.toInt + 1 := i_add rfl (by decide) (by omega) (by omega)
      exact cbad_read m (v1 + 1) v2 g (by omega) (by omega) b
    refine al_ite (fun _ => al_oV' (fun f hf => al_some (cbad_one b 10 f hf))) (fun z4 => al_ite (fun _ => al_ite (fun z => by omega) (fun _ => al_oV' (fun f hf => ?_))) (fun _ => al_oV' (fun f hf => ?_)))
    all_goals
      have st := more z4 f hf
      have bf := st.bad b
      refine al_ite (fun _ => fun o ho => (cbad_loop h0 _ _ f bf o ho).trans st) (fun _ => fun o ho => (cbad_loop h0 _ _ f bf o ho).trans st)
end
