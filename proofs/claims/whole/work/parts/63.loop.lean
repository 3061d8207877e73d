/-! the whole loop -/
/-- each call keeps the two sides together -/
def Sims (Sm : MI → MF → MG → MI → MF → MG → Prop) : Prop := ∀ (I : MI) (F : MF) (G : MG) (J : MI) (P : MF) (N : MG), Sm I F G J P N → (∀ (a1 a2 a3 a4 a5 : Int32) (v : Int64), st_gate Sm a1 a2 a3 a4 a5 v I F G J P N) ∧ st_clear Sm I F G J P N ∧ (∀ (v : Int64), st_route Sm v I F G J P N) ∧ (∀ (a1 a2 : Int32) (v : Int64), st_column Sm a1 a2 v I F G J P N) ∧ (∀ (a1 a2 : Int32) (v : Int64), st_net Sm a1 a2 v I F G J P N) ∧ (∀ (a1 a2 : Int32) (v : Int64), st_mask Sm a1 a2 v I F G J P N) ∧ (∀ (a1 a2 a3 : Int32) (v : Int64), st_damage Sm a1 a2 a3 v I F G J P N) ∧ (∀ (a1 a2 a3 a4 : Int32) (v : Int64), st_joined Sm a1 a2 a3 a4 v I F G J P N) ∧ (∀ (z : Int32) (v : Int64), z = 0 ∨ z = 1 → st_faults Sm z v I F G J P N) ∧ (∀ (a1 a2 : Int32) (v : UInt64), vf_n64 (FP.dmul (FP.i2d a2) 4593671619917905920) ∧ st_time Sm a1 (FP.dmul (FP.i2d a2) 4593671619917905920) v I F G J P N) ∧ (∀ (a1 : Int32) (v : UInt64), st_delay Sm a1 v I F G J P N) ∧ (∀ (a1 : Int32) (v : UInt64), st_arrival Sm a1 v I F G J P N) ∧ (∀ (a1 : Int32) (v : Int64), st_simulate Sm a1 v I F G J P N) ∧ (∀ (a1 : Int32) (v : Int64), st_count Sm a1 v I F G J P N)
theorem l_gt {L j : Nat} (hL : L ≤ 3072) (hj : j ≤ 4000) : (Int32.ofNat L - 6 < nI j) ↔ L < j + 6 := by
  rw [Int32.lt_iff_toInt_lt, nI_toInt (by omega), Int32.toInt_sub]
  have h1 : (Int32.ofNat L).toInt = (L : Int) := nI_toInt (n := L) (by omega)
  have h2 : (6 : Int32).toInt = 6 := by decide
  rw [h1, h2, Int.bmod_eq_of_le (by omega) (by omega)]
  omega
theorem l_inc {j : Nat} (hj : j ≤ 4000) : nI j + Int32.ofInt 6 = nI (j + 6) := by
  apply Int32.toInt_inj.mp
  rw [nI_toInt (by omega), Int32.toInt_add, nI_toInt (by omega)]
  have h2 : (Int32.ofInt 6).toInt = 6 := by decide
  rw [h2, show ((j : Int) + 6) = ((j + 6 : Nat) : Int) by omega]
  exact Int.bmod_eq_of_le (by omega) (by omega)
theorem z01 (x : Int32) : (if x = 0 then (0 : Int32) else 1) = 0 ∨ (if x = 0 then (0 : Int32) else 1) = 1 := by
  by_cases h : x = 0
  · rw [if_pos h]; exact Or.inl rfl
  · rw [if_neg h]; exact Or.inr rfl
set_option maxHeartbeats 4000000 in
set_option maxRecDepth 100000 in
theorem law_loop {p : Program} {l : Launch} {e : Env} {s : State} {m : MethodId} {below : List Frame} {meth : Method} {c : Code} {b L : Nat} {xs : Nat → Int32} {D : va_G} {g : gK} (Sm : MI → MF → MG → MI → MF → MG → Prop) (hS : Sims Sm) (C0 : lCx p l s m #[Value.ref b] meth c b L xs D g) {aL aM : Nat → Nat} {ol od : Nat} :
    ∀ (n j cells slots : Nat) (I : MI) (F : MF) (G : MG) (J : MI) (P : MF) (N : MG) (fl : Nat → Int64) (fd : Nat → UInt64) (H : Heap) (locs : List Loc) (ls : Array Slot), L < j + 6 * n + 6 → j ≤ 3100 → cells + 4 * n ≤ 601024 → slots + 24 * n ≤ 7293034 → Sm I F G J P N →
      GW D (fun q => s.heap.size ≤ q) s.heap (WX D g aL aM I F G J P N ol od fl fd) H locs → lv_has ls 9 (lLv b (aL 0) (aM 0) ol od (nI j)) → W p l e room_1 s m #[Value.ref b] below meth c H locs cells slots (lw_Z below #[Value.ref b] s) (F0 m 28 ls []) := by
  obtain ⟨hx, hb, hml, hown, hts, hK, hN, hz, hsr, hNc, hX, hbl, hst, hL, hr, hlocks⟩ := id C0
  have hbA : ¬ s.heap.size ≤ b := by omega
  intro n
  induction n with
  | zero =>
    intro j cells slots I F G J P N fl fd H locs ls hn hj hcl hsl h hw hl
    refine lv_iload hx hb d_L_law_28 (lv_at hl 5 rfl) ?_
    refine lv_aload_n hx hb d_L_law_30 rfl (lv_at hl 0 rfl) ?_
    refine va_slen hx hb hX hbl hbA hw.2.2 d_L_law_31 ?_
    refine lv_bipush (v := 6) hx hb d_L_law_32 (by decide) ?_
    refine lv_isub hx hb d_L_law_34 ?_
    refine lv_icmp_gt (tgt := 1103) hx hb d_L_law_35 (by decide) (fun _ => ?_) (fun q => absurd ((l_gt hL (by omega)).mpr (by omega)) q)
    refine lv_iconst (v := 1) hx hb d_L_law_1103 (by decide) ?_
    refine va_forget (fun q hq => hw.2.2.2.2 q hq) ?_
    refine W.widen (k := 601024) (n := 7293034) (by omega) (by omega) ?_
    exact lw_ret hx hb hr hlocks d_L_law_1104
  | succ n ih =>
    intro j cells slots I F G J P N fl fd H locs ls hn hj hcl hsl h hw hl
    refine lv_iload hx hb d_L_law_28 (lv_at hl 5 rfl) ?_
    refine lv_aload_n hx hb d_L_law_30 rfl (lv_at hl 0 rfl) ?_
    refine va_slen hx hb hX hbl hbA hw.2.2 d_L_law_31 ?_
    refine lv_bipush (v := 6) hx hb d_L_law_32 (by decide) ?_
    refine lv_isub hx hb d_L_law_34 ?_
    refine lv_icmp_gt (tgt := 1103) hx hb d_L_law_35 (by decide) (fun _ => ?_) (fun q => ?_)
    · refine lv_iconst (v := 1) hx hb d_L_law_1103 (by decide) ?_
      refine va_forget (fun q hq => hw.2.2.2.2 q hq) ?_
      refine W.widen (k := 601024) (n := 7293034) (by omega) (by omega) ?_
      exact lw_ret hx hb hr hlocks d_L_law_1104
    have hj6 : j + 6 ≤ L := by
      rcases Nat.lt_or_ge L (j + 6) with z | z
      · exact absurd ((l_gt hL (by omega)).mpr z) q
      · exact z
    have back : ∀ (I : MI) (F : MF) (G : MG) (J : MI) (P : MF) (N : MG) (fl : Nat → Int64) (fd : Nat → UInt64) (H : Heap) (locs : List Loc) (ls : Array Slot), Sm I F G J P N → GW D (fun q => s.heap.size ≤ q) s.heap (WX D g aL aM I F G J P N ol od fl fd) H locs → lv_has ls 9 (lLv b (aL 0) (aM 0) ol od (nI j)) → W p l e room_1 s m #[Value.ref b] below meth c H locs (cells + 4) (slots + 24) (lw_Z below #[Value.ref b] s) (F0 m 1097 ls []) := by
      intro I F G J P N fl fd H locs ls h hw hl
      refine lv_iinc (v := nI (j + 6)) (lv' := [(5, .int (nI (j + 6))), (0, .ref b), (1, .ref (aL 0)), (2, .ref (aM 0)), (3, .ref ol), (4, .ref od)]) hx hb d_L_law_1097 hl (k := 5) rfl (l_inc (by omega)) (by decide) rfl (fun ls hl => ?_)
      refine lv_goto (tgt := 28) hx hb d_L_law_1100 (by decide) ?_
      exact ih (j + 6) (cells + 4) (slots + 24) I F G J P N fl fd H locs ls (by omega) (by omega) (by omega) (by omega) h hw (lv_sub hl [1, 2, 3, 4, 5, 0] rfl)
    obtain ⟨s0, s1, s2, s3, s4, s5, s6, s7, s8, s9, s10, s11, s12, s13⟩ := hS I F G J P N h
    refine lv_aload_n hx hb d_L_law_38 rfl (lv_at hl 0 rfl) ?_
    refine lv_iload hx hb d_L_law_39 (lv_at hl 5 rfl) ?_
    refine va_sld hx hb hX hbl hbA hw.2.2 (show vp_in (nI j) L from nI_in (by omega) (by omega)) d_L_law_41 ?_
    refine lv_bipush (v := 15) hx hb d_L_law_42 (by decide) ?_
    refine lv_iand hx hb d_L_law_44 ?_
    refine lv_topi (fun y _ => ?_)
    by_cases c0 : y = 0
    · refine lv_tableIn (tgt := 116) hx hb d_L_law_45 (by rw [c0]; decide) (by rw [c0]; decide) (by rw [c0]; rfl) (by decide) ?_
      exact lc_gate Sm C0 hj6 (s0 (xs (j + 1)) (xs (j + 2)) (xs (j + 3)) (xs (j + 4)) (xs (j + 5)) (fl 0)) hw hl (by omega) (by omega) back
    by_cases c1 : y = 1
    · refine lv_tableIn (tgt := 220) hx hb d_L_law_45 (by rw [c1]; decide) (by rw [c1]; decide) (by rw [c1]; rfl) (by decide) ?_
      exact lc_clear Sm C0 hj6 s1 hw hl (by omega) (by omega) back
    by_cases c2 : y = 2
    · refine lv_tableIn (tgt := 233) hx hb d_L_law_45 (by rw [c2]; decide) (by rw [c2]; decide) (by rw [c2]; rfl) (by decide) ?_
      exact lc_route Sm C0 hj6 (s2 (fl 0)) hw hl (by omega) (by omega) back
    by_cases c3 : y = 3
    · refine lv_tableIn (tgt := 277) hx hb d_L_law_45 (by rw [c3]; decide) (by rw [c3]; decide) (by rw [c3]; rfl) (by decide) ?_
      exact lc_column Sm C0 hj6 (s3 (xs (j + 1)) (xs (j + 2)) (fl 0)) hw hl (by omega) (by omega) back
    by_cases c4 : y = 4
    · refine lv_tableIn (tgt := 345) hx hb d_L_law_45 (by rw [c4]; decide) (by rw [c4]; decide) (by rw [c4]; rfl) (by decide) ?_
      exact lc_net Sm C0 hj6 (s4 (xs (j + 1)) (xs (j + 2)) (fl 0)) hw hl (by omega) (by omega) back
    by_cases c5 : y = 5
    · refine lv_tableIn (tgt := 413) hx hb d_L_law_45 (by rw [c5]; decide) (by rw [c5]; decide) (by rw [c5]; rfl) (by decide) ?_
      exact lc_mask Sm C0 hj6 (s5 (xs (j + 1)) (xs (j + 2)) (fl 0)) hw hl (by omega) (by omega) back
    by_cases c6 : y = 6
    · refine lv_tableIn (tgt := 481) hx hb d_L_law_45 (by rw [c6]; decide) (by rw [c6]; decide) (by rw [c6]; rfl) (by decide) ?_
      exact lc_damage Sm C0 hj6 (s6 (xs (j + 1)) (xs (j + 2)) (xs (j + 3)) (fl 0)) hw hl (by omega) (by omega) back
    by_cases c7 : y = 7
    · refine lv_tableIn (tgt := 561) hx hb d_L_law_45 (by rw [c7]; decide) (by rw [c7]; decide) (by rw [c7]; rfl) (by decide) ?_
      exact lc_joined Sm C0 hj6 (s7 (xs (j + 1)) (xs (j + 2)) (xs (j + 3)) (xs (j + 4)) (fl 0)) hw hl (by omega) (by omega) back
    by_cases c8 : y = 8
    · refine lv_tableIn (tgt := 660) hx hb d_L_law_45 (by rw [c8]; decide) (by rw [c8]; decide) (by rw [c8]; rfl) (by decide) ?_
      exact lc_faults Sm C0 hj6 (s8 _ (fl 0) (z01 _)) hw hl (by omega) (by omega) back
    by_cases c9 : y = 9
    · refine lv_tableIn (tgt := 732) hx hb d_L_law_45 (by rw [c9]; decide) (by rw [c9]; decide) (by rw [c9]; rfl) (by decide) ?_
      exact lc_time Sm C0 hj6 (s9 (xs (j + 1)) (xs (j + 2)) (fd 0)).2 (s9 (xs (j + 1)) (xs (j + 2)) (fd 0)).1 hw hl (by omega) (by omega) back
    by_cases c10 : y = 10
    · refine lv_tableIn (tgt := 831) hx hb d_L_law_45 (by rw [c10]; decide) (by rw [c10]; decide) (by rw [c10]; rfl) (by decide) ?_
      exact lc_delay Sm C0 hj6 (s10 (xs (j + 1)) (fd 0)) hw hl (by omega) (by omega) back
    by_cases c11 : y = 11
    · refine lv_tableIn (tgt := 908) hx hb d_L_law_45 (by rw [c11]; decide) (by rw [c11]; decide) (by rw [c11]; rfl) (by decide) ?_
      exact lc_arrival Sm C0 hj6 (s11 (xs (j + 1)) (fd 0)) hw hl (by omega) (by omega) back
    by_cases c12 : y = 12
    · refine lv_tableIn (tgt := 985) hx hb d_L_law_45 (by rw [c12]; decide) (by rw [c12]; decide) (by rw [c12]; rfl) (by decide) ?_
      exact lc_simulate Sm C0 hj6 (s12 (xs (j + 1)) (fl 0)) hw hl (by omega) (by omega) back
    by_cases c13 : y = 13
    · refine lv_tableIn (tgt := 1041) hx hb d_L_law_45 (by rw [c13]; decide) (by rw [c13]; decide) (by rw [c13]; rfl) (by decide) ?_
      exact lc_count Sm C0 hj6 (s13 (xs (j + 1)) (fl 0)) hw hl (by omega) (by omega) back
    refine lv_tableOut (tgt := 1097) hx hb d_L_law_45 (sw_out_0_13 c0 c1 c2 c3 c4 c5 c6 c7 c8 c9 c10 c11 c12 c13) (by decide) ?_
    refine W.widen (k := cells + 4) (n := slots + 24) (by omega) (by omega) ?_
    exact back I F G J P N fl fd H locs ls h hw hl
