/-! the start: what the tables say, the two objects made -/
set_option maxHeartbeats 4000000 in
set_option maxRecDepth 100000 in
theorem st_four {b : Nat} {s : State} (hts : ∀ w ∈ lw_tbl, w.before #[Value.ref b] s = true) (hgv : (Jvm.Cond.and given_1 narrow_1).before #[Value.ref b] s = true) : ∀ w ∈ tx_four, w.before #[Value.ref b] s = true := by
  have hfl := flat_of_before _ hgv
  have f0 : (Cond.laysStatic Bundle.tN "UNASSIGNED_STACK" Bundle.steD).before #[Value.ref b] s = true := hts _ (List.mem_of_getElem? (i := 279) (by decide +kernel))
  have f1 : (Cond.laysStatic Bundle.tN "SUPPRESSED_SENTINEL" Bundle.listD).before #[Value.ref b] s = true := hts _ (List.mem_of_getElem? (i := 281) (by decide +kernel))
  have f2 : (Cond.isRef (.static Bundle.tN "UNASSIGNED_STACK" Bundle.steD)).before #[Value.ref b] s = true := hfl _ (by decide +kernel)
  have f3 : (Cond.isRef (.static Bundle.tN "SUPPRESSED_SENTINEL" Bundle.listD)).before #[Value.ref b] s = true := hfl _ (by decide +kernel)
  intro w hw
  simp only [tx_four, List.mem_cons, List.not_mem_nil, or_false] at hw
  rcases hw with rfl | rfl | rfl | rfl
  · exact f0
  · exact f1
  · exact f2
  · exact f3
theorem st_nk {b : Nat} {s : State} (hts : ∀ w ∈ lw_tbl, w.before #[Value.ref b] s = true) : cNk s := ⟨va_Nw.of rfl (hts _ (List.mem_of_getElem? (i := 330) (by decide +kernel))), va_Nw.of rfl (hts _ (List.mem_of_getElem? (i := 367) (by decide +kernel))), va_Nw.of rfl (hts _ (List.mem_of_getElem? (i := 468) (by decide +kernel)))⟩
theorem st_ov {b : Nat} {s : State} (hts : ∀ w ∈ lw_tbl, w.before #[Value.ref b] s = true) : gOv s := gOv_vm rfl (hts (.arrayOver (.array .int)) (List.mem_of_getElem? (i := 80) (by decide +kernel)))
theorem st_dc {b : Nat} {s : State} (hts : ∀ w ∈ lw_tbl, w.before #[Value.ref b] s = true) : cDc s := by
  intro w hw
  have h1 := hts w (List.mem_filter.mp hw).1
  rcases dc_spec (List.mem_filter.mp hw).2 with ⟨x, rfl⟩ | ⟨C, T, rfl⟩
  · exact va_Nw.of rfl h1
  · exact va_Nw.of rfl h1
theorem st_str {b : Nat} {s : State} {own tx : String} {k cur : Nat} (hc : s.vm.findClass own = some cur) (h : (Cond.stringRef own k tx).before #[Value.ref b] s = true) : ∃ sa, vk_R own k tx sa s := by
  have h0 : (Cond.stringRef own k tx).before #[] s = true := by
    simp only [Cond.before, Cond.holds, Cond.value] at h ⊢
    exact h
  obtain ⟨_, _, _, sa, _, _, _, _, _, hev⟩ := Cond.stringRef_spec hc h0
  exact ⟨sa, vk_R.of h0 hev⟩
set_option maxHeartbeats 4000000 in
set_option maxRecDepth 100000 in
theorem st_st {b : Nat} {s : State} (hts : ∀ w ∈ lw_tbl, w.before #[Value.ref b] s = true) : cSt s := by
  obtain ⟨c0, _, e0, _⟩ := Cond.instantiable_spec (hts (.instantiable "ChipForge" 5) (List.mem_of_getElem? (i := 66) (by decide +kernel)))
  obtain ⟨c2, _, e2, _⟩ := Cond.instantiable_spec (hts (.instantiable "ChipForge$Channel" 3) (List.mem_of_getElem? (i := 140) (by decide +kernel)))
  refine ⟨fun q hq => ?_, st_dc hts⟩
  simp only [stL, List.mem_cons, List.not_mem_nil, or_false] at hq
  rcases hq with rfl | rfl | rfl | rfl | rfl | rfl | rfl | rfl | rfl | rfl | rfl | rfl | rfl | rfl | rfl
  · exact st_str e0 (hts (.stringRef "ChipForge" 51 "a kind, net or row that is not there") (List.mem_of_getElem? (i := 295) (by decide +kernel)))
  · exact st_str e0 (hts (.stringRef "ChipForge" 60 "the second input is no net") (List.mem_of_getElem? (i := 325) (by decide +kernel)))
  · exact st_str e0 (hts (.stringRef "ChipForge" 70 "no room for the gate, or its net is driven") (List.mem_of_getElem? (i := 346) (by decide +kernel)))
  · exact st_str e2 (hts (.stringRef "ChipForge$Channel" 41 "nets are above one another in a circle") (List.mem_of_getElem? (i := 427) (by decide +kernel)))
  · exact st_str e2 (hts (.stringRef "ChipForge$Channel" 48 "more than 9 tracks are needed") (List.mem_of_getElem? (i := 435) (by decide +kernel)))
  · exact st_str e0 (hts (.stringRef "ChipForge" 210 "no such pin") (List.mem_of_getElem? (i := 478) (by decide +kernel)))
  · exact st_str e0 (hts (.stringRef "ChipForge" 201 "nets are 0 to 11") (List.mem_of_getElem? (i := 500) (by decide +kernel)))
  · exact st_str e0 (hts (.stringRef "ChipForge" 128 "nothing of a net has this number") (List.mem_of_getElem? (i := 509) (by decide +kernel)))
  · exact st_str e0 (hts (.stringRef "ChipForge" 203 "nothing is routed") (List.mem_of_getElem? (i := 525) (by decide +kernel)))
  · exact st_str e0 (hts (.stringRef "ChipForge" 216 "no such point of the drawing") (List.mem_of_getElem? (i := 530) (by decide +kernel)))
  · exact st_str e0 (hts (.stringRef "ChipForge" 137 "a point holds 0 to 7") (List.mem_of_getElem? (i := 538) (by decide +kernel)))
  · exact st_str e0 (hts (.stringRef "ChipForge" 160 "no such kind, or a time that is not 0 to 100") (List.mem_of_getElem? (i := 628) (by decide +kernel)))
  · exact st_str e0 (hts (.stringRef "ChipForge" 178 "the arrival depends on itself") (List.mem_of_getElem? (i := 678) (by decide +kernel)))
  · exact st_str e0 (hts (.stringRef "ChipForge" 188 "a net depends on itself") (List.mem_of_getElem? (i := 705) (by decide +kernel)))
  · exact st_str e0 (hts (.stringRef "ChipForge" 199 "nothing that is counted has this number") (List.mem_of_getElem? (i := 725) (by decide +kernel)))
set_option maxHeartbeats 4000000 in
set_option maxRecDepth 100000 in
theorem st_ncs {b : Nat} {s : State} (hgv : (Jvm.Cond.and given_1 narrow_1).before #[Value.ref b] s = true) : cNcs s := by
  have hfl := flat_of_before _ hgv
  exact ⟨va_Nc.of (hfl (.not (.castable "java/lang/IllegalStateException" "java/lang/IllegalArgumentException")) (by decide +kernel)), va_Nc.of (hfl (.not (.castable "java/lang/IndexOutOfBoundsException" "java/lang/IllegalArgumentException")) (by decide +kernel)), va_Nc.of (hfl (.not (.castable "java/lang/IndexOutOfBoundsException" "java/lang/IllegalStateException")) (by decide +kernel)), va_Nc.of (hfl (.not (.castable "java/lang/ArithmeticException" "java/lang/IllegalArgumentException")) (by decide +kernel)), va_Nc.of (hfl (.not (.castable "java/lang/ArithmeticException" "java/lang/IllegalStateException")) (by decide +kernel)), va_Nc.of (hfl (.not (.castable "java/lang/UnsupportedOperationException" "java/lang/IllegalStateException")) (by decide +kernel))⟩
set_option maxHeartbeats 4000000 in
set_option maxRecDepth 100000 in
theorem st_K {b : Nat} {s : State} (hts0 : ∀ w ∈ lw_tbl, w.before #[Value.ref b] s = true) : ∃ (D : va_G) (g : gK), va_K D vwCl (gTys g) s := by
  have hts : ∀ w ∈ lwG, w.before #[Value.ref b] s = true := fun w h => hts0 w (List.mem_filter.mp h).1
  obtain ⟨c0, i0, k0⟩ := u_known (C := qR0) (T := qT0) (N := 5) (n := 5) hts qi0 (hts _ wG66)
  obtain ⟨c1, i1, k1⟩ := u_known (C := qR1) (T := qT1) (N := 13) (n := 13) hts qi1 (hts _ wG74)
  obtain ⟨c2, i2, k2⟩ := u_known (C := qR2) (T := qT2) (N := 3) (n := 3) hts qi2 (hts _ wG140)
  obtain ⟨c3, i3, k3⟩ := u_known (C := qR3) (T := qT3) (N := 7) (n := 7) hts qi3 (hts _ wG160)
  obtain ⟨c4, i4, k4⟩ := u_known (C := qR4) (T := qT4) (N := 7) (n := 7) hts qi4 (hts _ wG190)
  obtain ⟨c5, i5, k5⟩ := u_known (C := qR5) (T := qT5) (N := 16) (n := 16) hts qi5 (hts _ wG727)
  obtain ⟨cI, kI, mI, eI1, eI2, eI3⟩ := Cond.arrayClass_spec (hts _ wG138)
  obtain ⟨cD, kD, mD, eD1, eD2, eD3⟩ := Cond.arrayClass_spec (hts _ wG218)
  obtain ⟨cZ, kZ, mZ, eZ1, eZ2, eZ3⟩ := Cond.arrayClass_spec (hts _ wG781)
  obtain ⟨cJ, kJ, mJ, eJ1, eJ2, eJ3⟩ := Cond.arrayClass_spec (hts _ wG957)
  obtain ⟨mA, cA9, kA, _, _, eA2, eA3, eA1⟩ := arrayOverA_spec (hts0 (.arrayOver (.array .int)) (List.mem_of_getElem? (i := 80) (by decide +kernel)))
  refine ⟨(fun k => match k with | 0 => c0 | 1 => c1 | 2 => c2 | 3 => c3 | 4 => c4 | _ => c5, fun k => match k with | 0 => i0 | 1 => i1 | 2 => i2 | 3 => i3 | 4 => i4 | _ => i5), (cI, cD, cA9, cZ, cJ), fun k q hq => ?_, fun k q hq => ?_⟩
  · match k, hq with
    | 0, hq => cases hq; exact k0
    | 1, hq => cases hq; exact k1
    | 2, hq => cases hq; exact k2
    | 3, hq => cases hq; exact k3
    | 4, hq => cases hq; exact k4
    | 5, hq => cases hq; exact k5
    | k + 6, hq => simp at hq
  · match k, hq with
    | 0, hq => cases hq; exact ⟨fun n z => ⟨fun x => by simp [arrV], kI, eI2, mI, eI3⟩, eI1⟩
    | 1, hq => cases hq; exact ⟨fun n z => ⟨fun x => by simp [arrV], kD, eD2, mD, eD3⟩, eD1⟩
    | 2, hq => cases hq; exact ⟨fun n z => ⟨fun x => by simp [arrV], kA, eA2, mA, eA3⟩, eA1⟩
    | 3, hq => cases hq; exact ⟨fun n z => ⟨fun x => by simp [arrV], kZ, eZ2, mZ, eZ3⟩, eZ1⟩
    | 4, hq => cases hq; exact ⟨fun n z => ⟨fun x => by simp [arrV], kJ, eJ2, mJ, eJ3⟩, eJ1⟩
    | k + 5, hq => simp at hq
set_option maxHeartbeats 4000000 in
set_option maxRecDepth 100000 in
theorem whole_go {p : Program} {e : Env} {s : State} {m : MethodId} {below : List Frame} {meth : Method} {c : Code} (l : Launch) (hst : l.stackTraces = false) {b L : Nat} {xs : Nat → Int32} (hL : L ≤ 3072) (C0 : lw_At p s m meth c b L xs) (Sm : MI → MF → MG → MI → MF → MG → Prop) (hS : Sims Sm) (h0 : wp_N_removeAll zI zF zG (fun I F _ => Sm (fI I) (fF F) onesG mI0 mF0 onesG)) : W p l e room_1 s m #[Value.ref b] below meth c s.heap [] 0 0 (lw_Z below #[Value.ref b] s) (entryFrame m ([Value.ref b] : List Value).toArray 9) := by
  obtain ⟨hx, hb, hr, hml, hown, hts0, hX, hbl, hlocks, hgv⟩ := id C0
  have hts : ∀ w ∈ lwG, w.before #[Value.ref b] s = true := fun w h => hts0 w (List.mem_filter.mp h).1
  obtain ⟨D, g, hK⟩ := st_K hts0
  have hN := st_nk hts0
  have hV := st_ov hts0
  have C1 : lCx p l s m #[Value.ref b] meth c b L xs D g := ⟨hx, hb, hml, hown, hts, hK, hN, tx_Zof (st_four hts0 hgv) (fun q h1 h2 => by omega), st_st hts0, st_ncs hgv, hX, hbl, hst, hL, hr, hlocks⟩
  have hA : ∀ q, s.heap.size ≤ q → s.heap.size ≤ q := fun _ h9 => h9
  have hw : GW D (fun q => s.heap.size ≤ q) s.heap [] s.heap [] := ⟨fun k q h => by simp at h, ⟨fun i j p q h => by simp at h, fun k q h => by simp at h⟩, va_S.rf⟩
  have hl := lv_entry ([.ref b]) (n := 9) (Nat.le_of_ble_eq_true rfl)
  rw [lg_entry_eq]
  generalize (lg_sl ([.ref b]) ++ List.replicate (9 - (lg_sl ([.ref b])).length) Slot.unset).toArray = ls at hl ⊢
  have hl : lv_has ls 9 [(0, .ref b)] := hl
  refine va_new (D := D) (ci := 0) (C := qR0) (T := qT0) (N := 5) hx hb hts qi0 qy0 qk0 hown (hts _ wG65) (hts _ wG66) (hts _ wG48) hK hw.1 hw.2.1 hw.2.2 hA rfl (fs := [.null, .null, .null, .null, .int 0]) (by decide +kernel) (Nat.le_of_ble_eq_true rfl) (Nat.le_of_ble_eq_true rfl) d_L_law_0 (fun q0 H h1 h2 h3 => ?_)
  replace hw : GW D (fun q => s.heap.size ≤ q) s.heap ([(q0, .inr (0, [.null, .null, .null, .null, .int 0]))] ++ []) H [] := ⟨h1, h2, h3⟩
  refine lv_dup hx hb d_L_law_3 rfl ?_
  refine l_frv (wc := [(q0, .inr (0, [.null, .null, .null, .null, .int 0]))]) (wr := []) (w1 := fun u => WC (cLo D g u.1) u.2.1 u.2.2.1 u.2.2.2) (va_runI (As := []) (rest := [.ref q0]) ⟨hx, hb, hml, hown, hts⟩ (c_F_init l D g q0 H.size (fun I F G => Sm I F G mI0 mF0 onesG) h0) (cwI 0 hts (gC wG69) rfl rfl rfl (hts _ wG48) (hts _ wG67) (hts _ wG68) rfl (by decide +kernel) ⟨Nat.le_of_ble_eq_true rfl, Nat.le_of_ble_eq_true rfl⟩) ⟨iPc_blind _ _ _ _ _, fun U hU hW => ⟨rfl, by rw [hU], by rw [hU]; exact fr_left hw.1, va_K.moved hW.alike hK, (fd_left hw.2.1).weaken (fun _ _ _ _ => trivial), cNk.warm hW hN, gOv.warm hW hV⟩⟩ rfl rfl hl.1 rfl (lv_room (Nat.le_of_ble_eq_true rfl)) d_L_law_4 ⟨Nat.le_of_ble_eq_true rfl, Nat.le_of_ble_eq_true rfl⟩) hw hA (fun u t hb9 => hb9) (fun u H locs hp hw9 => ?_)
  obtain ⟨aL, I, F, G⟩ := u
  obtain ⟨hq0, hSm⟩ := hp
  have hq0 : aL 0 = q0 := hq0
  subst hq0
  have hSm : Sm I F G mI0 mF0 onesG := hSm
  have hw : GW D (fun q => s.heap.size ≤ q) s.heap (WC (cLo D g aL) I F G ++ []) H locs := hw9
  refine lv_astore_n (lv' := [(1, .ref (aL 0)), (0, .ref b)]) hx hb d_L_law_7 rfl hl (by decide) rfl (fun ls hl => ?_)
  refine va_new (D := D) (ci := 5) (C := qR5) (T := qT5) (N := 16) hx hb hts qi5 qy5 qk5 hown (hts _ wG726) (hts _ wG727) (hts _ wG54) hK hw.1 hw.2.1 hw.2.2 hA rfl (fs := [.int 0, .int 0, .int 0, .null, .null, .null, .null, .null, .null, .null, .null, .null, .null, .null, .null, .null]) (by decide +kernel) (Nat.le_of_ble_eq_true rfl) (Nat.le_of_ble_eq_true rfl) d_L_law_8 (fun q1 H h1 h2 h3 => ?_)
  replace hw : GW D (fun q => s.heap.size ≤ q) s.heap ([(q1, .inr (5, [.int 0, .int 0, .int 0, .null, .null, .null, .null, .null, .null, .null, .null, .null, .null, .null, .null, .null]))] ++ WC (cLo D g aL) I F G) H locs := GW.perm (ws := (WC (cLo D g aL) I F G ++ []) ++ [(q1, .inr (5, [.int 0, .int 0, .int 0, .null, .null, .null, .null, .null, .null, .null, .null, .null, .null, .null, .null, .null]))]) ⟨h1, h2, h3⟩ (by rw [List.append_nil]; exact List.perm_append_comm)
  refine lv_dup hx hb d_L_law_11 rfl ?_
  refine l_frv (wc := [(q1, .inr (5, [.int 0, .int 0, .int 0, .null, .null, .null, .null, .null, .null, .null, .null, .null, .null, .null, .null, .null]))]) (wr := WC (cLo D g aL) I F G) (w1 := fun u => WM (mLo D g u) mI0 mF0 onesG) (va_runI (As := []) (rest := [.ref q1]) ⟨hx, hb, hml, hown, hts⟩ (c_M_init l D g q1 H.size) (cwI 0 hts (gC wG730) rfl rfl rfl (hts _ wG54) (hts _ wG728) (hts _ wG729) rfl (by decide +kernel) ⟨Nat.le_of_ble_eq_true rfl, Nat.le_of_ble_eq_true rfl⟩) ⟨iPc_blind _ _ _ _ _, fun U hU hW => ⟨rfl, by rw [hU], by rw [hU]; exact fr_left hw.1, va_K.moved hW.alike hK, (fd_left hw.2.1).weaken (fun _ _ _ _ => trivial), cNk.warm hW hN, gOv.warm hW hV⟩⟩ rfl rfl hl.1 rfl (lv_room (Nat.le_of_ble_eq_true rfl)) d_L_law_12 ⟨Nat.le_of_ble_eq_true rfl, Nat.le_of_ble_eq_true rfl⟩) hw hA (fun u t hb9 => hb9) (fun aM H locs hp hw9 => ?_)
  have hq1 : aM 0 = q1 := hp
  subst hq1
  have hw : GW D (fun q => s.heap.size ≤ q) s.heap (WM (mLo D g aM) mI0 mF0 onesG ++ WC (cLo D g aL) I F G) H locs := hw9
  refine lv_astore_n (lv' := [(2, .ref (aM 0)), (1, .ref (aL 0)), (0, .ref b)]) hx hb d_L_law_15 rfl hl (by decide) rfl (fun ls hl => ?_)
  refine lv_iconst (v := 1) hx hb d_L_law_16 (by decide) ?_
  refine g_newl (k := 1) hx hb (hts _ wG957) hK hw hA (by decide) (by decide) (Nat.le_of_ble_eq_true rfl) (Nat.le_of_ble_eq_true rfl) (Nat.le_of_ble_eq_true rfl) d_L_law_17 (fun ol H hw => ?_)
  refine lv_astore_n (lv' := [(3, .ref ol), (2, .ref (aM 0)), (1, .ref (aL 0)), (0, .ref b)]) hx hb d_L_law_19 rfl hl (by decide) rfl (fun ls hl => ?_)
  refine lv_iconst (v := 1) hx hb d_L_law_20 (by decide) ?_
  refine g_newd (k := 1) hx hb (hts _ wG218) hK hw hA (by decide) (by decide) (Nat.le_of_ble_eq_true rfl) (Nat.le_of_ble_eq_true rfl) (Nat.le_of_ble_eq_true rfl) d_L_law_21 (fun od H hw => ?_)
  refine lv_astore (lv' := [(4, .ref od), (3, .ref ol), (2, .ref (aM 0)), (1, .ref (aL 0)), (0, .ref b)]) hx hb d_L_law_23 hl (by decide) rfl (fun ls hl => ?_)
  replace hw : GW D (fun q => s.heap.size ≤ q) s.heap (WX D g aL aM I F G mI0 mF0 onesG ol od (fun _ => 0) (fun _ => 0)) H locs := hw.perm (by rw [List.append_assoc, List.append_assoc]; exact List.perm_append_comm_assoc _ _ _)
  refine lv_iconst (v := nI 0) hx hb d_L_law_25 (by decide) ?_
  refine lv_istore (lv' := [(5, .int (nI 0)), (4, .ref od), (3, .ref ol), (2, .ref (aM 0)), (1, .ref (aL 0)), (0, .ref b)]) hx hb d_L_law_26 hl (by decide) rfl (fun ls hl => ?_)
  exact law_loop Sm hS C1 512 0 _ _ I F G mI0 mF0 onesG _ _ H locs ls (by omega) (by omega) (Nat.le_of_ble_eq_true rfl) (Nat.le_of_ble_eq_true rfl) hSm hw (lv_sub hl [5, 4, 3, 2, 1, 0] rfl)
