/-! the whole of the law: two fresh objects, one call of each -/
def lF6 : List Value := [.null, .null, .null, .int 0, .null, .null, .null, .int 0, .null, .null]
def lF7 : List Value := [.int 0, .null, .null, .int 0, .int 0, .null, .int 0, .int 0, .int 0, .null, .null, .null, .null, .int 0, .int 0, .int 0, .int 0, .int 0, .int 0, .int 0, .int 0, .int 0, .int 0, .int 0, .int 0, .long 0, .int 0, .int 0, .int 0, .int 0, .int 0, .int 0, .null, .null, .int 0, .null, .null, .null, .null, .int 0, .int 0, .int 0, .int 0, .null, .null, .null, .null]
theorem lK6 (k : Nat) (hk : k < 10) : defaultValue (kxT 6 k) = vp_V lF6 k := of_decide_eq_true ((kx_ok 6 (RX6, TX6, 10) rfl).2.2.2.2.2.2.1 k hk)
theorem lK7 (k : Nat) (hk : k < 47) : defaultValue (kxT 7 k) = vp_V lF7 k := of_decide_eq_true ((kx_ok 7 (RX7, TX7, 47) rfl).2.2.2.2.2.2.1 k hk)
theorem lj_x : xmi 65 = some (yX6_init, cX6_init, 6, 1, 2, 0, 2, 84, 2427, xt65) := rfl
theorem lj_m : xmi 120 = some (yX7_init, cX7_init, 7, 1, 1, 0, 2, 17, 1602, xt120) := rfl
theorem lmap6 (V : Value → Value) (h1 : ∀ x, V (.int x) = .int x) (h2 : V .null = .null) (h3 : ∀ x, V (.long x) = .long x) : lF6.map V = lF6 := xdf_V h1 h2 h3 (ci := 6) rfl
theorem lmap7 (V : Value → Value) (h1 : ∀ x, V (.int x) = .int x) (h2 : V .null = .null) (h3 : ∀ x, V (.long x) = .long x) : lF7.map V = lF7 := xdf_V h1 h2 h3 (ci := 7) rfl
section XWHOLE
variable {p : Program} {l : Launch} {e : Env} {s : State} {m : MethodId} {b : Nat} {below : List Frame} {meth : Method} {c : Code} {D : va_G} {cA : Nat → ClassId} {xa : Nat → Nat} {fm : Value} {xs : Nat → Int32} {L i0 : Nat} {adx adm : Nat → Nat} {hC hM : dH} {H : Heap} {locs : List Loc} {ls : Array Slot} {cells slots : Nat}
theorem law_switch (hr : meth.sig.returnType = ret) (hlk : meth.locks = false) (hE : lEnv p l e s m b c D cA xa fm) (hI : lW s b D cA fm xs L adx adm hC hM i0 H locs ls cells slots) (hi : i0 + 6 ≤ L) (K : ∀ (gC gM : dH) (H2 : Heap) (locs2 : List Loc), lW s b D cA fm xs L adx adm gC gM i0 H2 locs2 ls cells slots → W p l e room_1 s m #[Value.ref b] below meth c H2 locs2 cells slots (lw_Z below #[Value.ref b] s) (F0 m 1166 ls [])) : W p l e room_1 s m #[Value.ref b] below meth c H locs cells slots (lw_Z below #[Value.ref b] s) (F0 m 33 ls [.int (xs i0 &&& 31)]) := by
  obtain ⟨j, hj, ej⟩ := pk_andE (xs i0) 5 (m := 31) rfl
  rw [ej]
  match j, hj with
  | 0, _ => exact lv_tableIn (off := 139) (tgt := 172) hE.1 hE.2.1 dL_law_33 (by decide) (by decide) rfl rfl (lc_set hE hI hi K)
  | 1, _ => exact lv_tableIn (off := 182) (tgt := 215) hE.1 hE.2.1 dL_law_33 (by decide) (by decide) rfl rfl (lc_house hE hI hi K)
  | 2, _ => exact lv_tableIn (off := 215) (tgt := 248) hE.1 hE.2.1 dL_law_33 (by decide) (by decide) rfl rfl (lc_bind hE hI hi K)
  | 3, _ => exact lv_tableIn (off := 258) (tgt := 291) hE.1 hE.2.1 dL_law_33 (by decide) (by decide) rfl rfl (lc_told hE hI hi K)
  | 4, _ => exact lv_tableIn (off := 291) (tgt := 324) hE.1 hE.2.1 dL_law_33 (by decide) (by decide) rfl rfl (lc_feed hE hI hi K)
  | 5, _ => exact lv_tableIn (off := 314) (tgt := 347) hE.1 hE.2.1 dL_law_33 (by decide) (by decide) rfl rfl (lc_text hE hI hi K)
  | 6, _ => exact lv_tableIn (off := 327) (tgt := 360) hE.1 hE.2.1 dL_law_33 (by decide) (by decide) rfl rfl (lc_force hE hI hi K)
  | 7, _ => exact lv_tableIn (off := 350) (tgt := 383) hE.1 hE.2.1 dL_law_33 (by decide) (by decide) rfl rfl (lc_asks hE hI hi K)
  | 8, _ => exact lv_tableIn (off := 393) (tgt := 426) hE.1 hE.2.1 dL_law_33 (by decide) (by decide) rfl rfl (lc_feast hE hI hi K)
  | 9, _ => exact lv_tableIn (off := 406) (tgt := 439) hE.1 hE.2.1 dL_law_33 (by decide) (by decide) rfl rfl (lc_year hE hI hi K)
  | 10, _ => exact lv_tableIn (off := 419) (tgt := 452) hE.1 hE.2.1 dL_law_33 (by decide) (by decide) rfl rfl (lc_street hE hI hi K)
  | 11, _ => exact lv_tableIn (off := 442) (tgt := 475) hE.1 hE.2.1 dL_law_33 (by decide) (by decide) rfl rfl (lc_way hE hI hi K)
  | 12, _ => exact lv_tableIn (off := 475) (tgt := 508) hE.1 hE.2.1 dL_law_33 (by decide) (by decide) rfl rfl (lc_run hE hI hi K)
  | 13, _ => exact lv_tableIn (off := 508) (tgt := 541) hE.1 hE.2.1 dL_law_33 (by decide) (by decide) rfl rfl (lc_takes hE hI hi K)
  | 14, _ => exact lv_tableIn (off := 531) (tgt := 564) hE.1 hE.2.1 dL_law_33 (by decide) (by decide) rfl rfl (lc_best hE hI hi K)
  | 15, _ => exact lv_tableIn (off := 574) (tgt := 607) hE.1 hE.2.1 dL_law_33 (by decide) (by decide) rfl rfl (lc_change hE hI hi K)
  | 16, _ => exact lv_tableIn (off := 607) (tgt := 640) hE.1 hE.2.1 dL_law_33 (by decide) (by decide) rfl rfl (lc_split hE hI hi K)
  | 17, _ => exact lv_tableIn (off := 640) (tgt := 673) hE.1 hE.2.1 dL_law_33 (by decide) (by decide) rfl rfl (lc_missed hE hI hi K)
  | 18, _ => exact lv_tableIn (off := 663) (tgt := 696) hE.1 hE.2.1 dL_law_33 (by decide) (by decide) rfl rfl (lc_match hE hI hi K)
  | 19, _ => exact lv_tableIn (off := 686) (tgt := 719) hE.1 hE.2.1 dL_law_33 (by decide) (by decide) rfl rfl (lc_tells hE hI hi K)
  | 20, _ => exact lv_tableIn (off := 729) (tgt := 762) hE.1 hE.2.1 dL_law_33 (by decide) (by decide) rfl rfl (lc_film hE hI hi K)
  | 21, _ => exact lv_tableIn (off := 762) (tgt := 795) hE.1 hE.2.1 dL_law_33 (by decide) (by decide) rfl rfl (lc_drawn hE hI hi K)
  | 22, _ => exact lv_tableIn (off := 795) (tgt := 828) hE.1 hE.2.1 dL_law_33 (by decide) (by decide) rfl rfl (lc_chance hE hI hi K)
  | 23, _ => exact lv_tableIn (off := 849) (tgt := 882) hE.1 hE.2.1 dL_law_33 (by decide) (by decide) rfl rfl (lc_image hE hI hi K)
  | 24, _ => exact lv_tableIn (off := 862) (tgt := 895) hE.1 hE.2.1 dL_law_33 (by decide) (by decide) rfl rfl (lc_back hE hI hi K)
  | 25, _ => exact lv_tableIn (off := 875) (tgt := 908) hE.1 hE.2.1 dL_law_33 (by decide) (by decide) rfl rfl (lc_count hE hI hi K)
  | 26, _ => exact lv_tableIn (off := 898) (tgt := 931) hE.1 hE.2.1 dL_law_33 (by decide) (by decide) rfl rfl (lc_sheet hE hI hi K)
  | 27, _ => exact lv_tableIn (off := 941) (tgt := 974) hE.1 hE.2.1 dL_law_33 (by decide) (by decide) rfl rfl (lc_cell hE hI hi K)
  | 28, _ => exact lv_tableIn (off := 984) (tgt := 1017) hE.1 hE.2.1 dL_law_33 (by decide) (by decide) rfl rfl (lc_copy hE hI hi K)
  | 29, _ => exact lv_tableIn (off := 1047) (tgt := 1080) hE.1 hE.2.1 dL_law_33 (by decide) (by decide) rfl rfl (lc_houses hE hI hi K)
  | 30, _ => exact lv_tableIn (off := 1100) (tgt := 1133) hE.1 hE.2.1 dL_law_33 (by decide) (by decide) rfl rfl (lc_taken hE hI hi K)
  | 31, _ => exact lv_tableOut (tgt := 1166) hE.1 hE.2.1 dL_law_33 (by decide) rfl (K _ _ _ _ hI)
  | j + 32, hj => exact absurd hj (by omega)
theorem i6_ofNat (i : Nat) : Int32.ofNat i + Int32.ofInt 6 = Int32.ofNat (i + 6) := by
  rw [Int32.ofNat_add]; rfl
theorem law_loop (hr : meth.sig.returnType = ret) (hlk : meth.locks = false) (hE : lEnv p l e s m b c D cA xa fm) : ∀ (n i0 : Nat) (hC hM : dH) (H : Heap) (locs : List Loc) (ls : Array Slot), L ≤ i0 + n → i0 ≤ L → lW s b D cA fm xs L adx adm hC hM i0 H locs ls cells slots → W p l e room_1 s m #[Value.ref b] below meth c H locs cells slots (lw_Z below #[Value.ref b] s) (F0 m 18 ls []) := by
  intro n
  induction n with
  | zero =>
    intro i0 hC hM H locs ls hn h0 hI
    have hI2 := hI
    obtain ⟨iP, iD, jP, jD, iN, iS, iL, iX, ib, ic, isl, iC, iM, i3, iR⟩ := hI2
    have t1 : (Int32.ofNat i0).toInt = (i0 : Int) := Int32.toInt_ofNat_of_lt (by omega)
    have t2 : (Int32.ofNat L).toInt = (L : Int) := Int32.toInt_ofNat_of_lt (by omega)
    have t3 : (Int32.ofNat L - 6).toInt = (L : Int) - 6 := i_sub t2 (by decide) (by omega) (by omega)
    refine lv_iload_n (x := Int32.ofNat i0) hE.1 hE.2.1 dL_law_18 rfl (iL.2.2 (3, .int (Int32.ofNat i0)) (by simp)) ?_
    refine lv_aload_n (x := b) hE.1 hE.2.1 dL_law_19 rfl (iL.2.2 (0, .ref b) (by simp)) ?_
    refine va_slen hE.1 hE.2.1 iX ib (fun z => Nat.not_le.mpr ib z) iS dL_law_20 ?_
    refine lv_bipush (v := 6) hE.1 hE.2.1 dL_law_21 rfl ?_
    refine lv_isub hE.1 hE.2.1 dL_law_23 ?_
    refine lv_icmp_gt (tgt := 1172) hE.1 hE.2.1 dL_law_24 rfl (fun _ => law_end hr hlk hE iS ⟨ic, isl⟩) (fun z => ?_)
    exact absurd (Int32.lt_iff_toInt_lt.mpr (by rw [t1, t3]; omega)) z
  | succ n ih =>
    intro i0 hC hM H locs ls hn h0 hI
    have hI2 := hI
    obtain ⟨iP, iD, jP, jD, iN, iS, iL, iX, ib, ic, isl, iC, iM, i3, iR⟩ := hI2
    have t1 : (Int32.ofNat i0).toInt = (i0 : Int) := Int32.toInt_ofNat_of_lt (by omega)
    have t2 : (Int32.ofNat L).toInt = (L : Int) := Int32.toInt_ofNat_of_lt (by omega)
    have t3 : (Int32.ofNat L - 6).toInt = (L : Int) - 6 := i_sub t2 (by decide) (by omega) (by omega)
    refine lv_iload_n (x := Int32.ofNat i0) hE.1 hE.2.1 dL_law_18 rfl (iL.2.2 (3, .int (Int32.ofNat i0)) (by simp)) ?_
    refine lv_aload_n (x := b) hE.1 hE.2.1 dL_law_19 rfl (iL.2.2 (0, .ref b) (by simp)) ?_
    refine va_slen hE.1 hE.2.1 iX ib (fun z => Nat.not_le.mpr ib z) iS dL_law_20 ?_
    refine lv_bipush (v := 6) hE.1 hE.2.1 dL_law_21 rfl ?_
    refine lv_isub hE.1 hE.2.1 dL_law_23 ?_
    refine lv_icmp_gt (tgt := 1172) hE.1 hE.2.1 dL_law_24 rfl (fun _ => law_end hr hlk hE iS ⟨ic, isl⟩) (fun z => ?_)
    have hi : i0 + 6 ≤ L := by
      have z2 : ¬ (Int32.ofNat L - 6).toInt < (Int32.ofNat i0).toInt := fun q => z (Int32.lt_iff_toInt_lt.mpr q)
      rw [t1, t3] at z2
      omega
    refine lv_aload_n (x := b) hE.1 hE.2.1 dL_law_27 rfl (iL.2.2 (0, .ref b) (by simp)) ?_
    refine lv_iload_n (x := Int32.ofNat i0) hE.1 hE.2.1 dL_law_28 rfl (iL.2.2 (3, .int (Int32.ofNat i0)) (by simp)) ?_
    have hin : vp_in (Int32.ofNat i0) L ∧ (Int32.ofNat i0).toNatClampNeg = i0 := by
      refine ⟨vp_in_iff.mpr ⟨by omega, by omega⟩, ?_⟩
      show (Int32.ofNat i0).toInt.toNat = i0
      omega
    refine va_sld hE.1 hE.2.1 iX ib (fun z => Nat.not_le.mpr ib z) iS hin.1 dL_law_29 ?_
    rw [hin.2]
    refine lv_bipush (v := 31) hE.1 hE.2.1 dL_law_30 rfl ?_
    refine lv_iand hE.1 hE.2.1 dL_law_32 ?_
    refine law_switch hr hlk hE hI hi (fun gC gM H2 locs2 hI3 => ?_)
    obtain ⟨iP', iD', jP', jD', iN', iS', iL', iX', ib', ic', isl', iC', iM', i3', iR'⟩ := hI3
    refine lv_iinc (k := 0) (v := Int32.ofNat (i0 + 6)) hE.1 hE.2.1 dL_law_1166 iL' rfl (i6_ofNat i0) (by decide) rfl (fun ls' h' => ?_)
    refine lv_goto (tgt := 18) hE.1 hE.2.1 dL_law_1169 rfl ?_
    exact ih (i0 + 6) gC gM H2 locs2 ls' (by omega) hi ⟨iP', iD', jP', jD', iN', iS', h', iX', ib', ic', isl', iC', iM', i3', iR'⟩
end XWHOLE
theorem whole_start {p : Program} {e : Env} {s : State} {m : MethodId} {below : List Frame} {meth : Method} {c : Code} (l : Launch) (hflags : l.flags = flags0) {b L : Nat} {xs : Nat → Int32} (hL : L ≤ 3072) (C0 : lw_At p s m meth c b L xs) : W p l e room_1 s m #[Value.ref b] below meth c s.heap [] 0 0 (lw_Z below #[Value.ref b] s) (entryFrame m ([Value.ref b] : List Value).toArray 4) := by
  obtain ⟨D, cA, xa, fm, hE⟩ := x_start (l := l) (e := e) C0
  obtain ⟨-, -, hr, -, -, -, hX, hbl, hlk, -⟩ := C0
  have hx := hE.1
  have hb := hE.2.1
  have hown := hE.2.2.2.1
  have hts := hE.2.2.2.2.1
  have hK := hE.2.2.2.2.2.1
  have hA : ∀ q, s.heap.size ≤ q → xGe s q := fun _ h => h
  have hS0 : va_S (xGe s) s.heap s.heap [] := ⟨Nat.le_refl _, fun _ _ _ => rfl, fun _ h => by cases h⟩
  rw [lg_entry_eq]
  have h0 : lv_has ((lg_sl [Value.ref b] ++ List.replicate (4 - (lg_sl [Value.ref b]).length) Slot.unset).toArray) 4 [(0, .ref b)] := lv_entry [Value.ref b] (n := 4) (by show 1 ≤ 4; decide)
  generalize ((lg_sl [Value.ref b] ++ List.replicate (4 - (lg_sl [Value.ref b]).length) Slot.unset).toArray) = ls0 at h0 ⊢
  -- the object
  refine va_new (D := D) (Ts := wsL_law) (N := 10) (ci := 6) (ws := []) (fs := lF6) (A := xGe s) (H0 := s.heap) hx hb hts inlX6 (kxT 6) (kx_ok 6 (RX6, TX6, 10) rfl).2.1 hown (hts _ (kr_1 _ (List.mem_of_getElem? (i := 0) rfl))) (hts _ (kr_1 _ (List.mem_of_getElem? (i := 1) rfl))) (hts _ (kr_1 _ (List.mem_of_getElem? (i := 2) rfl))) hK (fun k q h => by simp at h) ⟨fun i j q q' h => by simp at h, fun k q h => by simp at h⟩ hS0 hA rfl lK6 (by decide) (by decide) dL_law_0 (fun q0 H1 hP1 hD1 hS1 => ?_)
  have hq0 : xGe s q0 := hD1.2 0 _ rfl
  refine lv_dup hx hb dL_law_3 rfl ?_
  refine law_init (k := xK) (d := 13) (j := 65) (ci := 6) (fs := lF6) (C0 := xC0) (rest := [.ref q0]) hE (by decide) lj_x rfl (xmade_ok xC0_ok) (by decide) rfl lmap6 hP1 hq0 hS1 h0.1 (by show 1 + 0 ≤ 8; decide) ⟨by decide, by decide⟩ dL_law_4 (kr_1 _ (List.mem_of_getElem? (i := 6) rfl)) (fun H2 locs2 n2 k2 hS2 iP iD => ?_)
  refine lv_astore_n (i := 1) (lv' := [(1, .ref q0), (0, .ref b)]) (x := q0) hx hb dL_law_7 rfl h0 (by decide) rfl (fun ls1 h1 => ?_)
  -- the other
  refine va_new (D := D) (Ts := wsL_law) (N := 47) (ci := 7) (ws := xenc cA (xv (xadr 1 H1.size (fun _ => q0) xa) (fun _ => 0) fm) (xadr 1 H1.size (fun _ => q0) xa) xC0) (fs := lF7) (A := xGe s) (H0 := s.heap) hx hb hts inlX7 (kxT 7) (kx_ok 7 (RX7, TX7, 47) rfl).2.1 hown (hts _ (kr_1 _ (List.mem_of_getElem? (i := 3) rfl))) (hts _ (kr_1 _ (List.mem_of_getElem? (i := 4) rfl))) (hts _ (kr_1 _ (List.mem_of_getElem? (i := 5) rfl))) hK iP iD hS2 hA rfl lK7 (by decide) (by decide) dL_law_8 (fun q1 H3 hP3 hD3 hS3 => ?_)
  generalize hadx : xadr 1 H1.size (fun _ => q0) xa = adx at iP iD hP3 hD3
  have hadx0 : adx 0 = q0 := by rw [← hadx]; rfl
  have hlen : (xenc cA (xv adx (fun _ => 0) fm) adx xC0).length = xC0.length := by unfold xenc; rw [List.length_mapIdx]
  have hat : (xenc cA (xv adx (fun _ => 0) fm) adx xC0 ++ [(q1, (.inr (7, lF7) : va_E))])[xC0.length]? = some (q1, .inr (7, lF7)) := by
    rw [List.getElem?_append_right (Nat.le_of_eq hlen), hlen, Nat.sub_self]; rfl
  have hin : ∀ (k : Nat) (q : Nat × va_E), (xenc cA (xv adx (fun _ => 0) fm) adx xC0)[k]? = some q → (xenc cA (xv adx (fun _ => 0) fm) adx xC0 ++ [(q1, (.inr (7, lF7) : va_E))])[k]? = some q := fun k q h => by
    rw [List.getElem?_append_left (List.getElem?_eq_some_iff.mp h).1]; exact h
  have hq1 : xGe s q1 := hD3.2 _ _ hat
  have hadr : ∀ i, i < xC0.length → adx i < H3.size ∧ adx i ≠ q1 := by
    intro i hi
    have hg := xenc_get (cA := cA) (V := xv adx (fun _ => 0) fm) (ad := adx) (List.getElem?_eq_getElem hi)
    have hg2 := hin _ _ hg
    refine ⟨(hP3 _ _ hg2).lt, fun hne => ?_⟩
    have := hD3.1 _ _ _ _ hg2 hat hne
    omega
  refine lv_dup hx hb dL_law_11 rfl ?_
  refine law_init (k := xK) (d := 13) (j := 120) (ci := 7) (fs := lF7) (C0 := xM0) (q0 := q1) (rest := [.ref q1]) hE (by decide) lj_m rfl (xmade_ok xM0_ok) (by decide) rfl lmap7 (fun k q h => ?_) hq1 hS3 h1.1 (by show 1 + 0 ≤ 8; decide) ⟨by decide, by decide⟩ dL_law_12 (kr_10 _ (List.mem_of_getElem? (i := 17) rfl)) (fun H4 locs4 n4 k4 hS4 jP jD => ?_)
  · match k, h with
    | 0, h => cases h; exact hP3 _ _ hat
    | k + 1, h => simp at h
  generalize hadm : xadr 1 H3.size (fun _ => q1) xa = adm at jP jD
  have hadm0 : adm 0 = q1 := by rw [← hadm]; rfl
  have iP4 : va_P D vwCl (xenc cA (xv adx (fun _ => 0) fm) adx xC0) H4 := fun k q hq => (hP3 k q (hin k q hq)).kept (by
    obtain ⟨cq, hcq, hez⟩ := xenc_of hq
    have hkl := (List.getElem?_eq_some_iff.mp hcq).1
    have e1 : q.1 = adx k := congrArg Prod.fst hez
    rw [e1]
    exact k4 _ (hadr k hkl).1 (hadr k hkl).2)
  have hdis : ∀ i, i < xC0.length → ∀ k, k < xM0.length → adm k ≠ adx i := by
    intro i hi k hk hne
    have hk2 : k < xB := Nat.lt_of_lt_of_le hk (show xM0.length ≤ xB by rw [xM0_d, dC_len]; exact hbM)
    obtain ⟨a1, a2⟩ := hadr i hi
    by_cases hk0 : k = 0
    · rw [hk0, hadm0] at hne; exact a2 hne.symm
    · rw [← hadm] at hne
      unfold xadr at hne
      rw [if_neg (by omega), if_pos hk2] at hne
      omega
  refine lv_astore_n (i := 2) (lv' := [(2, .ref q1), (1, .ref q0), (0, .ref b)]) (x := q1) hx hb dL_law_15 rfl h1 (by decide) rfl (fun ls2 h2 => ?_)
  refine lv_iconst (v := 0) hx hb dL_law_16 rfl ?_
  refine lv_istore_n (i := 3) (lv' := [(3, .int 0), (2, .ref q1), (1, .ref q0), (0, .ref b)]) (x := 0) hx hb dL_law_17 rfl h2 (by decide) rfl (fun ls3 h3 => ?_)
  rw [xC0_d] at iP4 iD
  rw [xM0_d] at jP jD
  have hdis' : ∀ i, i < shC.length → ∀ k, k < shM.length → adm k ≠ adx i := fun i hi k hk => hdis i (by rw [xC0_d, dC_len]; exact hi) k (by rw [xM0_d, dC_len]; exact hk)
  exact law_loop (adx := adx) (adm := adm) (L := L) (xs := xs) hr hlk hE L 0 (hOf xC0) (hOf xM0) H4 locs4 ls3 (by omega) (by omega) ⟨iP4, iD, jP, jD, hdis', hS4, by rw [hadx0, hadm0]; exact h3, hX, hbl, by decide, by decide, invC_0, invM_0, hL, RR0⟩
