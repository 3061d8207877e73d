/-! the law's loop, a row a case -/
abbrev cLo (D : va_G) (g : gK) (aL : Nat → Nat) : cL := (D, g.1, g.2.1, g.2.2.1, aL)
abbrev mLo (D : va_G) (g : gK) (aM : Nat → Nat) : cL := (D, g.1, g.2.1, g.2.2.2.1, aM)
abbrev eL (g : gK) (ol : Nat) (fl : Nat → Int64) : va_W := [(ol, .inl (g.2.2.2.2, 1, .inr (.inl fl)))]
abbrev eD (g : gK) (od : Nat) (fd : Nat → UInt64) : va_W := [(od, .inl (g.2.1, 1, .inr (.inr (.inr (.inl fd)))))]
abbrev WX (D : va_G) (g : gK) (aL aM : Nat → Nat) (I : MI) (F : MF) (G : MG) (J : MI) (P : MF) (N : MG) (ol od : Nat) (fl : Nat → Int64) (fd : Nat → UInt64) : va_W := WC (cLo D g aL) I F G ++ (WM (mLo D g aM) J P N ++ (eL g ol fl ++ eD g od fd))
/-- what the law knows all along -/
def lCx (p : Program) (l : Launch) (s : State) (m : MethodId) (args : Array Value) (meth : Method) (c : Code) (b L : Nat) (xs : Nat → Int32) (D : va_G) (g : gK) : Prop :=
  p.tables.exec = Jvm.exec ∧ c.code = code ∧ c.maxLocals = 9 ∧ s.vm.findClass qRL = some m.cls ∧ (∀ w ∈ lwG, w.before args s = true) ∧ va_K D vwCl (gTys g) s ∧ cNk s ∧ tx_Z (fun q => s.heap.size ≤ q) s s.heap ∧ cSt s ∧ cNcs s ∧ va_X b L xs s s.heap ∧ b < s.heap.size ∧ l.stackTraces = false ∧ L ≤ 3072 ∧ meth.sig.returnType = ret ∧ meth.locks = false
abbrev lLv (b aL aM ol od : Nat) (i : Int32) : List (Nat × Value) := [(0, .ref b), (1, .ref aL), (2, .ref aM), (3, .ref ol), (4, .ref od), (5, .int i)]
theorem lcmp0 {f : Nat → Int64} {y : Int64} (h : f 0 = y) : lg_cmp (f (0 : Int32).toNatClampNeg) y = 0 := by
  have e : (0 : Int32).toNatClampNeg = 0 := rfl
  rw [e, h]
  unfold lg_cmp
  rw [if_neg (fun q => Int64.lt_irrefl q), if_pos rfl]
def st_gate (Sm : MI → MF → MG → MI → MF → MG → Prop) (a1 : Int32) (a2 : Int32) (a3 : Int32) (a4 : Int32) (a5 : Int32) (v : Int64) (I : MI) (F : MF) (G : MG) (J : MI) (P : MF) (N : MG) : Prop := wq_gate a1 a2 a3 a4 a5 v I F G (fun k v1 I1 F1 G1 => wp_M_gate a1 a2 a3 a4 a5 J P N (fun b J1 P1 N1 => wp_M_thrown J1 P1 N1 (fun th => th = k ∧ (k = 0 → v1 = b.toInt64) ∧ Sm I1 F1 G1 J1 P1 N1)))
def st_clear (Sm : MI → MF → MG → MI → MF → MG → Prop) (I : MI) (F : MF) (G : MG) (J : MI) (P : MF) (N : MG) : Prop := wp_F_clear I F G (fun r I1 F1 G1 => wp_M_clear J P N (fun b J1 P1 N1 => r = b ∧ Sm I1 F1 G1 J1 P1 N1))
def st_route (Sm : MI → MF → MG → MI → MF → MG → Prop)  (v : Int64) (I : MI) (F : MF) (G : MG) (J : MI) (P : MF) (N : MG) : Prop := wq_route v I F G (fun k v1 I1 F1 G1 => wp_M_route J P N (fun b J1 P1 N1 => wp_M_thrown J1 P1 N1 (fun th => th = k ∧ (k = 0 → v1 = b.toInt64) ∧ Sm I1 F1 G1 J1 P1 N1)))
def st_column (Sm : MI → MF → MG → MI → MF → MG → Prop) (a1 : Int32) (a2 : Int32) (v : Int64) (I : MI) (F : MF) (G : MG) (J : MI) (P : MF) (N : MG) : Prop := wq_column a1 a2 v I F G (fun k v1 I1 F1 G1 => wp_M_column a1 a2 J P N (fun b J1 P1 N1 => wp_M_thrown J1 P1 N1 (fun th => th = k ∧ (k = 0 → v1 = b.toInt64) ∧ Sm I1 F1 G1 J1 P1 N1)))
def st_net (Sm : MI → MF → MG → MI → MF → MG → Prop) (a1 : Int32) (a2 : Int32) (v : Int64) (I : MI) (F : MF) (G : MG) (J : MI) (P : MF) (N : MG) : Prop := wq_net a1 a2 v I F G (fun k v1 I1 F1 G1 => wp_M_net a1 a2 J P N (fun b J1 P1 N1 => wp_M_thrown J1 P1 N1 (fun th => th = k ∧ (k = 0 → v1 = b.toInt64) ∧ Sm I1 F1 G1 J1 P1 N1)))
def st_mask (Sm : MI → MF → MG → MI → MF → MG → Prop) (a1 : Int32) (a2 : Int32) (v : Int64) (I : MI) (F : MF) (G : MG) (J : MI) (P : MF) (N : MG) : Prop := wq_mask a1 a2 v I F G (fun k v1 I1 F1 G1 => wp_M_mask a1 a2 J P N (fun b J1 P1 N1 => wp_M_thrown J1 P1 N1 (fun th => th = k ∧ (k = 0 → v1 = b.toInt64) ∧ Sm I1 F1 G1 J1 P1 N1)))
def st_damage (Sm : MI → MF → MG → MI → MF → MG → Prop) (a1 : Int32) (a2 : Int32) (a3 : Int32) (v : Int64) (I : MI) (F : MF) (G : MG) (J : MI) (P : MF) (N : MG) : Prop := wq_damage a1 a2 a3 v I F G (fun k v1 I1 F1 G1 => wp_M_damage a1 a2 a3 J P N (fun b J1 P1 N1 => wp_M_thrown J1 P1 N1 (fun th => th = k ∧ (k = 0 → v1 = b.toInt64) ∧ Sm I1 F1 G1 J1 P1 N1)))
def st_joined (Sm : MI → MF → MG → MI → MF → MG → Prop) (a1 : Int32) (a2 : Int32) (a3 : Int32) (a4 : Int32) (v : Int64) (I : MI) (F : MF) (G : MG) (J : MI) (P : MF) (N : MG) : Prop := wq_joined a1 a2 a3 a4 v I F G (fun k v1 I1 F1 G1 => wp_M_joined a1 a2 a3 a4 J P N (fun b J1 P1 N1 => wp_M_thrown J1 P1 N1 (fun th => th = k ∧ (k = 0 → v1 = if b = 0 then 0 else 1) ∧ Sm I1 F1 G1 J1 P1 N1)))
def st_faults (Sm : MI → MF → MG → MI → MF → MG → Prop) (a1 : Int32) (v : Int64) (I : MI) (F : MF) (G : MG) (J : MI) (P : MF) (N : MG) : Prop := wq_faults a1 v I F G (fun k v1 I1 F1 G1 => wp_M_faults a1 J P N (fun b J1 P1 N1 => wp_M_thrown J1 P1 N1 (fun th => th = k ∧ (k = 0 → v1 = b.toInt64) ∧ Sm I1 F1 G1 J1 P1 N1)))
def st_time (Sm : MI → MF → MG → MI → MF → MG → Prop) (a1 : Int32) (a2 : UInt64) (v : UInt64) (I : MI) (F : MF) (G : MG) (J : MI) (P : MF) (N : MG) : Prop := wq_time a1 a2 v I F G (fun k v1 I1 F1 G1 => wp_M_time a1 a2 J P N (fun b J1 P1 N1 => wp_M_thrown J1 P1 N1 (fun th => th = k ∧ (k = 0 → v1 = b) ∧ Sm I1 F1 G1 J1 P1 N1)))
def st_delay (Sm : MI → MF → MG → MI → MF → MG → Prop) (a1 : Int32) (v : UInt64) (I : MI) (F : MF) (G : MG) (J : MI) (P : MF) (N : MG) : Prop := wq_delay a1 v I F G (fun k v1 I1 F1 G1 => wp_M_delay a1 J P N (fun b J1 P1 N1 => wp_M_thrown J1 P1 N1 (fun th => th = k ∧ (k = 0 → v1 = b) ∧ Sm I1 F1 G1 J1 P1 N1)))
def st_arrival (Sm : MI → MF → MG → MI → MF → MG → Prop) (a1 : Int32) (v : UInt64) (I : MI) (F : MF) (G : MG) (J : MI) (P : MF) (N : MG) : Prop := wq_arrival a1 v I F G (fun k v1 I1 F1 G1 => wp_M_arrival a1 J P N (fun b J1 P1 N1 => wp_M_thrown J1 P1 N1 (fun th => th = k ∧ (k = 0 → v1 = b) ∧ Sm I1 F1 G1 J1 P1 N1)))
def st_simulate (Sm : MI → MF → MG → MI → MF → MG → Prop) (a1 : Int32) (v : Int64) (I : MI) (F : MF) (G : MG) (J : MI) (P : MF) (N : MG) : Prop := wq_simulate a1 v I F G (fun k v1 I1 F1 G1 => wp_M_simulate a1 J P N (fun b J1 P1 N1 => wp_M_thrown J1 P1 N1 (fun th => th = k ∧ (k = 0 → v1 = b.toInt64) ∧ Sm I1 F1 G1 J1 P1 N1)))
def st_count (Sm : MI → MF → MG → MI → MF → MG → Prop) (a1 : Int32) (v : Int64) (I : MI) (F : MF) (G : MG) (J : MI) (P : MF) (N : MG) : Prop := wq_count a1 v I F G (fun k v1 I1 F1 G1 => wp_M_count a1 J P N (fun b J1 P1 N1 => wp_M_thrown J1 P1 N1 (fun th => th = k ∧ (k = 0 → v1 = b.toInt64) ∧ Sm I1 F1 G1 J1 P1 N1)))
set_option maxHeartbeats 4000000 in
set_option maxRecDepth 100000 in
theorem lc_gate {p : Program} {l : Launch} {e : Env} {s : State} {m : MethodId} {args : Array Value} {below : List Frame} {meth : Method} {c : Code} {b L : Nat} {xs : Nat → Int32} {D : va_G} {g : gK} {Q : State → Prop} (Sm : MI → MF → MG → MI → MF → MG → Prop) (C0 : lCx p l s m args meth c b L xs D g) {aL aM : Nat → Nat} {I : MI} {F : MF} {G : MG} {J : MI} {P : MF} {N : MG} {ol od : Nat} {fl : Nat → Int64} {fd : Nat → UInt64} {H : Heap} {locs : List Loc} {ls : Array Slot} {j cells slots : Nat} (hj : j + 6 ≤ L) (h : st_gate Sm (xs (j + 1)) (xs (j + 2)) (xs (j + 3)) (xs (j + 4)) (xs (j + 5)) (fl 0) I F G J P N)
    (hw : GW D (fun q => s.heap.size ≤ q) s.heap (WX D g aL aM I F G J P N ol od fl fd) H locs) (hl : lv_has ls 9 (lLv b (aL 0) (aM 0) ol od (nI j))) (hcl : cells + 4 ≤ 601024) (hsl : slots + 24 ≤ 7293034)
    (kk : ∀ (I : MI) (F : MF) (G : MG) (J : MI) (P : MF) (N : MG) (fl : Nat → Int64) (fd : Nat → UInt64) (H : Heap) (locs : List Loc) (ls : Array Slot), Sm I F G J P N → GW D (fun q => s.heap.size ≤ q) s.heap (WX D g aL aM I F G J P N ol od fl fd) H locs → lv_has ls 9 (lLv b (aL 0) (aM 0) ol od (nI j)) → W p l e room_1 s m args below meth c H locs (cells + 4) (slots + 24) Q (F0 m 1097 ls [])) :
    W p l e room_1 s m args below meth c H locs cells slots Q (F0 m 116 ls []) := by
  obtain ⟨hx, hb, hml, hown, hts, hK, hN, hz, hsr, hNc, hX, hbl, hst, hL, hr, hlocks⟩ := id C0
  have hA : ∀ q, s.heap.size ≤ q → s.heap.size ≤ q := fun _ h9 => h9
  have hbA : ¬ s.heap.size ≤ b := by omega
  have hKc : va_K D vwCl (cTys (cLo D g aL)) s := hK.sub [0, 1, 2] rfl
  have hKm : va_K D vwCl (mTys (mLo D g aM)) s := hK.sub [0, 1, 3] rfl
  have hKo : va_K D vwCl (oT (cLo D g aL) g.2.2.2.2) s := hK.sub [0, 1, 2, 4] rfl
  skip
  unfold st_gate at h
  refine lv_aload_n hx hb d_L_law_116 rfl (lv_at hl 1 rfl) ?_
  refine la_arg (k := 1) hx hb hX hbl hbA hw.2.2 (lv_at hl 0 rfl) (lv_at hl 5 rfl) (by decide) (by omega) (by omega) d_L_law_117 d_L_law_118 d_L_law_120 d_L_law_121 d_L_law_122 ?_
  refine la_arg (k := 2) hx hb hX hbl hbA hw.2.2 (lv_at hl 0 rfl) (lv_at hl 5 rfl) (by decide) (by omega) (by omega) d_L_law_123 d_L_law_124 d_L_law_126 d_L_law_127 d_L_law_128 ?_
  refine la_arg (k := 3) hx hb hX hbl hbA hw.2.2 (lv_at hl 0 rfl) (lv_at hl 5 rfl) (by decide) (by omega) (by omega) d_L_law_129 d_L_law_130 d_L_law_132 d_L_law_133 d_L_law_134 ?_
  refine la_arg (k := 4) hx hb hX hbl hbA hw.2.2 (lv_at hl 0 rfl) (lv_at hl 5 rfl) (by decide) (by omega) (by omega) d_L_law_135 d_L_law_136 d_L_law_138 d_L_law_139 d_L_law_140 ?_
  refine la_arg (k := 5) hx hb hX hbl hbA hw.2.2 (lv_at hl 0 rfl) (lv_at hl 5 rfl) (by decide) (by omega) (by omega) d_L_law_141 d_L_law_142 d_L_law_144 d_L_law_145 d_L_law_146 ?_
  refine lv_aload_n hx hb d_L_law_147 rfl (lv_at hl 3 rfl) ?_
  have hwp := hw.perm pm_c
  refine l_fri (w1 := fun u => WOl (cLo D g aL) u.2.1 u.2.2.1 u.2.2.2 g.2.2.2.2 ol u.1) (wr := WM (mLo D g aM) J P N ++ eD g od fd) (fx_run (As := [.ref (aL 0), .int (xs (j + 1)), .int (xs (j + 2)), .int (xs (j + 3)), .int (xs (j + 4)), .int (xs (j + 5)), .ref ol]) (rest := []) ⟨hx, hb, hml, hown, hts⟩ (c_L_gate l (cLo D g aL) hst g.2.2.2.2 ol (xs (j + 1)) (xs (j + 2)) (xs (j + 3)) (xs (j + 4)) (xs (j + 5)) I F G fl H.size _ h) rfl rfl (fx_cwOf 7 hts (gS wG240 wG241 wG47 wG242) (by decide +kernel) ⟨Nat.le_of_ble_eq_true rfl, Nat.le_of_ble_eq_true rfl⟩) (lPre hKo hN hz hsr hNc hA hwp) rfl rfl hl.1 rfl (lv_room (Nat.le_of_ble_eq_true rfl)) d_L_law_148 ⟨by show cells + 1 ≤ 601024; omega, by show slots + 6 ≤ 7293034; omega⟩) hwp hA (fun u t hb9 => hb9) (fun k u H locs h hw => ?_)
  obtain ⟨fl, I, F, G⟩ := u
  clear hwp
  replace hw : GW D (fun q => s.heap.size ≤ q) s.heap (WX D g aL aM I F G J P N ol od fl fd) H locs := hw.perm pm_c.symm
  refine lv_istore (lv' := [(6, .int k), (0, .ref b), (1, .ref (aL 0)), (2, .ref (aM 0)), (3, .ref ol), (4, .ref od), (5, .int (nI j))]) hx hb d_L_law_151 hl (by decide) rfl (fun ls hl => ?_)
  refine lv_aload_n hx hb d_L_law_153 rfl (lv_at hl 3 rfl) ?_
  refine la_arg (k := 1) hx hb hX hbl hbA hw.2.2 (lv_at hl 1 rfl) (lv_at hl 6 rfl) (by decide) (by omega) (by omega) d_L_law_154 d_L_law_155 d_L_law_157 d_L_law_158 d_L_law_159 ?_
  refine la_arg (k := 2) hx hb hX hbl hbA hw.2.2 (lv_at hl 1 rfl) (lv_at hl 6 rfl) (by decide) (by omega) (by omega) d_L_law_160 d_L_law_161 d_L_law_163 d_L_law_164 d_L_law_165 ?_
  refine la_arg (k := 3) hx hb hX hbl hbA hw.2.2 (lv_at hl 1 rfl) (lv_at hl 6 rfl) (by decide) (by omega) (by omega) d_L_law_166 d_L_law_167 d_L_law_169 d_L_law_170 d_L_law_171 ?_
  refine la_arg (k := 4) hx hb hX hbl hbA hw.2.2 (lv_at hl 1 rfl) (lv_at hl 6 rfl) (by decide) (by omega) (by omega) d_L_law_172 d_L_law_173 d_L_law_175 d_L_law_176 d_L_law_177 ?_
  refine la_arg (k := 5) hx hb hX hbl hbA hw.2.2 (lv_at hl 1 rfl) (lv_at hl 6 rfl) (by decide) (by omega) (by omega) d_L_law_178 d_L_law_179 d_L_law_181 d_L_law_182 d_L_law_183 ?_
  have hwm := hw.perm pm_b
  refine l_fri (w1 := fun u => WM (mLo D g aM) u.1 u.2.1 u.2.2) (va_runV (As := [.int (xs (j + 1)), .int (xs (j + 2)), .int (xs (j + 3)), .int (xs (j + 4)), .int (xs (j + 5))]) (rest := []) ⟨hx, hb, hml, hown, hts⟩ (c_M_gate l (mLo D g aM) (xs (j + 1)) (xs (j + 2)) (xs (j + 3)) (xs (j + 4)) (xs (j + 5)) J P N H.size _ h) (cwV 5 hts (gV wG786 wG787 wG788 wG54 wG789) rfl rfl rfl (by decide +kernel) ⟨Nat.le_of_ble_eq_true rfl, Nat.le_of_ble_eq_true rfl⟩) (mPrm hKm trivial ⟨fr_left hwm.1, fd_left hwm.2.1, hwm.2.2⟩) rfl rfl hl.1 rfl (lv_room (Nat.le_of_ble_eq_true rfl)) d_L_law_184 ⟨by show cells + 1 + 0 ≤ 601024; omega, by show slots + 6 + 0 ≤ 7293034; omega⟩) hwm hA (fun u t hb9 => ⟨hb9.1, hb9.2.2⟩) (fun b9 u H locs h hw => ?_)
  obtain ⟨J, P, N⟩ := u
  clear hwm
  replace hw : GW D (fun q => s.heap.size ≤ q) s.heap (WX D g aL aM I F G J P N ol od fl fd) H locs := hw.perm pm_b.symm
  refine lv_istore (lv' := [(7, .int b9), (6, .int k), (0, .ref b), (1, .ref (aL 0)), (2, .ref (aM 0)), (3, .ref ol), (4, .ref od), (5, .int (nI j))]) hx hb d_L_law_187 hl (by decide) rfl (fun ls hl => ?_)
  refine lv_aload_n hx hb d_L_law_189 rfl (lv_at hl 4 rfl) ?_
  refine vp_callSi (va_runV (As := []) (rest := []) ⟨hx, hb, hml, hown, hts⟩ (c_M_thrown l (mLo D g aM) J P N _ h) (cwV 0 hts (gV wG782 wG783 wG784 wG54 wG785) rfl rfl rfl (by decide +kernel) ⟨Nat.le_of_ble_eq_true rfl, Nat.le_of_ble_eq_true rfl⟩) (mPre hKm trivial (fr_left (hw.perm pm_b).1)) rfl rfl hl.1 rfl (lv_room (Nat.le_of_ble_eq_true rfl)) d_L_law_190 ⟨by show cells + 1 + 0 + 0 ≤ 601024; omega, by show slots + 6 + 0 + 0 ≤ 7293034; omega⟩).run (fun th h => ?_)
  refine lv_iload hx hb d_L_law_193 (lv_at hl 1 rfl) ?_
  refine lv_icmp_eq (tgt := 200) hx hb d_L_law_195 (by decide) (fun _ => ?_) (fun c9 => absurd h.1 c9)
  refine lv_iload hx hb d_L_law_200 (lv_at hl 1 rfl) ?_
  refine lv_if_ne (tgt := 217) hx hb d_L_law_202 (by decide) (fun _ => ?_) (fun ck => ?_)
  · refine lv_goto (tgt := 1097) hx hb d_L_law_217 (by decide) ?_
    refine W.widen (k := cells + 4) (n := slots + 24) (by omega) (by omega) ?_
    exact kk I F G J P N fl fd H locs ls h.2.2 hw (lv_sub hl [2, 3, 4, 5, 6, 7] rfl)
  · have hv9 := h.2.1 ck
    refine lv_aload_n hx hb d_L_law_205 rfl (lv_at hl 5 rfl) ?_
    refine lv_iconst (v := 0) hx hb d_L_law_206 (by decide) ?_
    refine va_lald hx hb hK hw.1 54 4 rfl rfl (i := 0) (n := 1) (by unfold vp_in; decide) d_L_law_207 ?_
    refine lv_iload hx hb d_L_law_208 (lv_at hl 0 rfl) ?_
    refine lv_i2l hx hb d_L_law_210 rfl ?_
    refine W.lcmp hx hb d_L_law_211 ?_
    refine lv_if_eq (tgt := 217) hx hb d_L_law_212 (by decide) (fun _ => ?_) (fun c9 => absurd (lcmp0 hv9) c9)
    refine lv_goto (tgt := 1097) hx hb d_L_law_217 (by decide) ?_
    refine W.widen (k := cells + 4) (n := slots + 24) (by omega) (by omega) ?_
    exact kk I F G J P N fl fd H locs ls h.2.2 hw (lv_sub hl [2, 3, 4, 5, 6, 7] rfl)
set_option maxHeartbeats 4000000 in
set_option maxRecDepth 100000 in
theorem lc_clear {p : Program} {l : Launch} {e : Env} {s : State} {m : MethodId} {args : Array Value} {below : List Frame} {meth : Method} {c : Code} {b L : Nat} {xs : Nat → Int32} {D : va_G} {g : gK} {Q : State → Prop} (Sm : MI → MF → MG → MI → MF → MG → Prop) (C0 : lCx p l s m args meth c b L xs D g) {aL aM : Nat → Nat} {I : MI} {F : MF} {G : MG} {J : MI} {P : MF} {N : MG} {ol od : Nat} {fl : Nat → Int64} {fd : Nat → UInt64} {H : Heap} {locs : List Loc} {ls : Array Slot} {j cells slots : Nat} (hj : j + 6 ≤ L) (h : st_clear Sm I F G J P N)
    (hw : GW D (fun q => s.heap.size ≤ q) s.heap (WX D g aL aM I F G J P N ol od fl fd) H locs) (hl : lv_has ls 9 (lLv b (aL 0) (aM 0) ol od (nI j))) (hcl : cells + 4 ≤ 601024) (hsl : slots + 24 ≤ 7293034)
    (kk : ∀ (I : MI) (F : MF) (G : MG) (J : MI) (P : MF) (N : MG) (fl : Nat → Int64) (fd : Nat → UInt64) (H : Heap) (locs : List Loc) (ls : Array Slot), Sm I F G J P N → GW D (fun q => s.heap.size ≤ q) s.heap (WX D g aL aM I F G J P N ol od fl fd) H locs → lv_has ls 9 (lLv b (aL 0) (aM 0) ol od (nI j)) → W p l e room_1 s m args below meth c H locs (cells + 4) (slots + 24) Q (F0 m 1097 ls [])) :
    W p l e room_1 s m args below meth c H locs cells slots Q (F0 m 220 ls []) := by
  obtain ⟨hx, hb, hml, hown, hts, hK, hN, hz, hsr, hNc, hX, hbl, hst, hL, hr, hlocks⟩ := id C0
  have hA : ∀ q, s.heap.size ≤ q → s.heap.size ≤ q := fun _ h9 => h9
  have hbA : ¬ s.heap.size ≤ b := by omega
  have hKc : va_K D vwCl (cTys (cLo D g aL)) s := hK.sub [0, 1, 2] rfl
  have hKm : va_K D vwCl (mTys (mLo D g aM)) s := hK.sub [0, 1, 3] rfl
  have hKo : va_K D vwCl (oT (cLo D g aL) g.2.2.2.2) s := hK.sub [0, 1, 2, 4] rfl
  skip
  unfold st_clear at h
  refine lv_aload_n hx hb d_L_law_220 rfl (lv_at hl 1 rfl) ?_
  refine l_fri (w1 := fun u => WC (cLo D g aL) u.1 u.2.1 u.2.2) (va_runV (As := []) (rest := []) ⟨hx, hb, hml, hown, hts⟩ (c_F_clear l (cLo D g aL) I F G H.size _ h) (cwV 0 hts (gV wG235 wG236 wG237 wG48 wG238) rfl rfl rfl (by decide +kernel) ⟨Nat.le_of_ble_eq_true rfl, Nat.le_of_ble_eq_true rfl⟩) (cPrm0 hKc hN ⟨fr_left hw.1, fd_left hw.2.1, hw.2.2⟩) rfl rfl hl.1 rfl (lv_room (Nat.le_of_ble_eq_true rfl)) d_L_law_221 ⟨by show cells + 0 ≤ 601024; omega, by show slots + 0 ≤ 7293034; omega⟩) hw hA (fun u t hb9 => ⟨hb9.1, hb9.2.2⟩) (fun r9 u H locs h hw => ?_)
  obtain ⟨I, F, G⟩ := u
  replace hw : GW D (fun q => s.heap.size ≤ q) s.heap (WX D g aL aM I F G J P N ol od fl fd) H locs := hw
  refine lv_aload_n hx hb d_L_law_224 rfl (lv_at hl 2 rfl) ?_
  have hwm := hw.perm pm_b
  refine l_fri (w1 := fun u => WM (mLo D g aM) u.1 u.2.1 u.2.2) (va_runV (As := []) (rest := [.int r9]) ⟨hx, hb, hml, hown, hts⟩ (c_M_clear l (mLo D g aM) J P N H.size _ h) (cwV 0 hts (gV wG801 wG802 wG803 wG54 wG804) rfl rfl rfl (by decide +kernel) ⟨Nat.le_of_ble_eq_true rfl, Nat.le_of_ble_eq_true rfl⟩) (mPrm hKm trivial ⟨fr_left hwm.1, fd_left hwm.2.1, hwm.2.2⟩) rfl rfl hl.1 rfl (lv_room (Nat.le_of_ble_eq_true rfl)) d_L_law_225 ⟨by show cells + 0 + 0 ≤ 601024; omega, by show slots + 0 + 0 ≤ 7293034; omega⟩) hwm hA (fun u t hb9 => ⟨hb9.1, hb9.2.2⟩) (fun b9 u H locs h hw => ?_)
  obtain ⟨J, P, N⟩ := u
  clear hwm
  replace hw : GW D (fun q => s.heap.size ≤ q) s.heap (WX D g aL aM I F G J P N ol od fl fd) H locs := hw.perm pm_b.symm
  refine lv_icmp_eq (tgt := 1097) hx hb d_L_law_228 (by decide) (fun _ => ?_) (fun c9 => absurd h.1 c9)
  refine W.widen (k := cells + 4) (n := slots + 24) (by omega) (by omega) ?_
  exact kk I F G J P N fl fd H locs ls h.2 hw (lv_sub hl [0, 1, 2, 3, 4, 5] rfl)
set_option maxHeartbeats 4000000 in
set_option maxRecDepth 100000 in
theorem lc_route {p : Program} {l : Launch} {e : Env} {s : State} {m : MethodId} {args : Array Value} {below : List Frame} {meth : Method} {c : Code} {b L : Nat} {xs : Nat → Int32} {D : va_G} {g : gK} {Q : State → Prop} (Sm : MI → MF → MG → MI → MF → MG → Prop) (C0 : lCx p l s m args meth c b L xs D g) {aL aM : Nat → Nat} {I : MI} {F : MF} {G : MG} {J : MI} {P : MF} {N : MG} {ol od : Nat} {fl : Nat → Int64} {fd : Nat → UInt64} {H : Heap} {locs : List Loc} {ls : Array Slot} {j cells slots : Nat} (hj : j + 6 ≤ L) (h : st_route Sm (fl 0) I F G J P N)
    (hw : GW D (fun q => s.heap.size ≤ q) s.heap (WX D g aL aM I F G J P N ol od fl fd) H locs) (hl : lv_has ls 9 (lLv b (aL 0) (aM 0) ol od (nI j))) (hcl : cells + 4 ≤ 601024) (hsl : slots + 24 ≤ 7293034)
    (kk : ∀ (I : MI) (F : MF) (G : MG) (J : MI) (P : MF) (N : MG) (fl : Nat → Int64) (fd : Nat → UInt64) (H : Heap) (locs : List Loc) (ls : Array Slot), Sm I F G J P N → GW D (fun q => s.heap.size ≤ q) s.heap (WX D g aL aM I F G J P N ol od fl fd) H locs → lv_has ls 9 (lLv b (aL 0) (aM 0) ol od (nI j)) → W p l e room_1 s m args below meth c H locs (cells + 4) (slots + 24) Q (F0 m 1097 ls [])) :
    W p l e room_1 s m args below meth c H locs cells slots Q (F0 m 233 ls []) := by
  obtain ⟨hx, hb, hml, hown, hts, hK, hN, hz, hsr, hNc, hX, hbl, hst, hL, hr, hlocks⟩ := id C0
  have hA : ∀ q, s.heap.size ≤ q → s.heap.size ≤ q := fun _ h9 => h9
  have hbA : ¬ s.heap.size ≤ b := by omega
  have hKc : va_K D vwCl (cTys (cLo D g aL)) s := hK.sub [0, 1, 2] rfl
  have hKm : va_K D vwCl (mTys (mLo D g aM)) s := hK.sub [0, 1, 3] rfl
  have hKo : va_K D vwCl (oT (cLo D g aL) g.2.2.2.2) s := hK.sub [0, 1, 2, 4] rfl
  skip
  unfold st_route at h
  refine lv_aload_n hx hb d_L_law_233 rfl (lv_at hl 1 rfl) ?_
  refine lv_aload_n hx hb d_L_law_234 rfl (lv_at hl 3 rfl) ?_
  have hwp := hw.perm pm_c
  refine l_fri (w1 := fun u => WOl (cLo D g aL) u.2.1 u.2.2.1 u.2.2.2 g.2.2.2.2 ol u.1) (wr := WM (mLo D g aM) J P N ++ eD g od fd) (fx_run (As := [.ref (aL 0), .ref ol]) (rest := []) ⟨hx, hb, hml, hown, hts⟩ (c_L_route l (cLo D g aL) hst g.2.2.2.2 ol  I F G fl H.size _ h) rfl rfl (fx_cwOf 2 hts (gS wG368 wG369 wG47 wG370) (by decide +kernel) ⟨Nat.le_of_ble_eq_true rfl, Nat.le_of_ble_eq_true rfl⟩) (lPre hKo hN hz hsr hNc hA hwp) rfl rfl hl.1 rfl (lv_room (Nat.le_of_ble_eq_true rfl)) d_L_law_235 ⟨by show cells + 1 ≤ 601024; omega, by show slots + 6 ≤ 7293034; omega⟩) hwp hA (fun u t hb9 => hb9) (fun k u H locs h hw => ?_)
  obtain ⟨fl, I, F, G⟩ := u
  clear hwp
  replace hw : GW D (fun q => s.heap.size ≤ q) s.heap (WX D g aL aM I F G J P N ol od fl fd) H locs := hw.perm pm_c.symm
  refine lv_istore (lv' := [(6, .int k), (0, .ref b), (1, .ref (aL 0)), (2, .ref (aM 0)), (3, .ref ol), (4, .ref od), (5, .int (nI j))]) hx hb d_L_law_238 hl (by decide) rfl (fun ls hl => ?_)
  refine lv_aload_n hx hb d_L_law_240 rfl (lv_at hl 3 rfl) ?_
  have hwm := hw.perm pm_b
  refine l_fri (w1 := fun u => WM (mLo D g aM) u.1 u.2.1 u.2.2) (va_runV (As := []) (rest := []) ⟨hx, hb, hml, hown, hts⟩ (c_M_route l (mLo D g aM) J P N H.size _ h) (cwV 0 hts (gV wG805 wG806 wG807 wG54 wG808) rfl rfl rfl (by decide +kernel) ⟨Nat.le_of_ble_eq_true rfl, Nat.le_of_ble_eq_true rfl⟩) (mPrm hKm trivial ⟨fr_left hwm.1, fd_left hwm.2.1, hwm.2.2⟩) rfl rfl hl.1 rfl (lv_room (Nat.le_of_ble_eq_true rfl)) d_L_law_241 ⟨by show cells + 1 + 0 ≤ 601024; omega, by show slots + 6 + 0 ≤ 7293034; omega⟩) hwm hA (fun u t hb9 => ⟨hb9.1, hb9.2.2⟩) (fun b9 u H locs h hw => ?_)
  obtain ⟨J, P, N⟩ := u
  clear hwm
  replace hw : GW D (fun q => s.heap.size ≤ q) s.heap (WX D g aL aM I F G J P N ol od fl fd) H locs := hw.perm pm_b.symm
  refine lv_istore (lv' := [(7, .int b9), (6, .int k), (0, .ref b), (1, .ref (aL 0)), (2, .ref (aM 0)), (3, .ref ol), (4, .ref od), (5, .int (nI j))]) hx hb d_L_law_244 hl (by decide) rfl (fun ls hl => ?_)
  refine lv_aload_n hx hb d_L_law_246 rfl (lv_at hl 4 rfl) ?_
  refine vp_callSi (va_runV (As := []) (rest := []) ⟨hx, hb, hml, hown, hts⟩ (c_M_thrown l (mLo D g aM) J P N _ h) (cwV 0 hts (gV wG782 wG783 wG784 wG54 wG785) rfl rfl rfl (by decide +kernel) ⟨Nat.le_of_ble_eq_true rfl, Nat.le_of_ble_eq_true rfl⟩) (mPre hKm trivial (fr_left (hw.perm pm_b).1)) rfl rfl hl.1 rfl (lv_room (Nat.le_of_ble_eq_true rfl)) d_L_law_247 ⟨by show cells + 1 + 0 + 0 ≤ 601024; omega, by show slots + 6 + 0 + 0 ≤ 7293034; omega⟩).run (fun th h => ?_)
  refine lv_iload hx hb d_L_law_250 (lv_at hl 1 rfl) ?_
  refine lv_icmp_eq (tgt := 257) hx hb d_L_law_252 (by decide) (fun _ => ?_) (fun c9 => absurd h.1 c9)
  refine lv_iload hx hb d_L_law_257 (lv_at hl 1 rfl) ?_
  refine lv_if_ne (tgt := 274) hx hb d_L_law_259 (by decide) (fun _ => ?_) (fun ck => ?_)
  · refine lv_goto (tgt := 1097) hx hb d_L_law_274 (by decide) ?_
    refine W.widen (k := cells + 4) (n := slots + 24) (by omega) (by omega) ?_
    exact kk I F G J P N fl fd H locs ls h.2.2 hw (lv_sub hl [2, 3, 4, 5, 6, 7] rfl)
  · have hv9 := h.2.1 ck
    refine lv_aload_n hx hb d_L_law_262 rfl (lv_at hl 5 rfl) ?_
    refine lv_iconst (v := 0) hx hb d_L_law_263 (by decide) ?_
    refine va_lald hx hb hK hw.1 54 4 rfl rfl (i := 0) (n := 1) (by unfold vp_in; decide) d_L_law_264 ?_
    refine lv_iload hx hb d_L_law_265 (lv_at hl 0 rfl) ?_
    refine lv_i2l hx hb d_L_law_267 rfl ?_
    refine W.lcmp hx hb d_L_law_268 ?_
    refine lv_if_eq (tgt := 274) hx hb d_L_law_269 (by decide) (fun _ => ?_) (fun c9 => absurd (lcmp0 hv9) c9)
    refine lv_goto (tgt := 1097) hx hb d_L_law_274 (by decide) ?_
    refine W.widen (k := cells + 4) (n := slots + 24) (by omega) (by omega) ?_
    exact kk I F G J P N fl fd H locs ls h.2.2 hw (lv_sub hl [2, 3, 4, 5, 6, 7] rfl)
set_option maxHeartbeats 4000000 in
set_option maxRecDepth 100000 in
theorem lc_column {p : Program} {l : Launch} {e : Env} {s : State} {m : MethodId} {args : Array Value} {below : List Frame} {meth : Method} {c : Code} {b L : Nat} {xs : Nat → Int32} {D : va_G} {g : gK} {Q : State → Prop} (Sm : MI → MF → MG → MI → MF → MG → Prop) (C0 : lCx p l s m args meth c b L xs D g) {aL aM : Nat → Nat} {I : MI} {F : MF} {G : MG} {J : MI} {P : MF} {N : MG} {ol od : Nat} {fl : Nat → Int64} {fd : Nat → UInt64} {H : Heap} {locs : List Loc} {ls : Array Slot} {j cells slots : Nat} (hj : j + 6 ≤ L) (h : st_column Sm (xs (j + 1)) (xs (j + 2)) (fl 0) I F G J P N)
    (hw : GW D (fun q => s.heap.size ≤ q) s.heap (WX D g aL aM I F G J P N ol od fl fd) H locs) (hl : lv_has ls 9 (lLv b (aL 0) (aM 0) ol od (nI j))) (hcl : cells + 4 ≤ 601024) (hsl : slots + 24 ≤ 7293034)
    (kk : ∀ (I : MI) (F : MF) (G : MG) (J : MI) (P : MF) (N : MG) (fl : Nat → Int64) (fd : Nat → UInt64) (H : Heap) (locs : List Loc) (ls : Array Slot), Sm I F G J P N → GW D (fun q => s.heap.size ≤ q) s.heap (WX D g aL aM I F G J P N ol od fl fd) H locs → lv_has ls 9 (lLv b (aL 0) (aM 0) ol od (nI j)) → W p l e room_1 s m args below meth c H locs (cells + 4) (slots + 24) Q (F0 m 1097 ls [])) :
    W p l e room_1 s m args below meth c H locs cells slots Q (F0 m 277 ls []) := by
  obtain ⟨hx, hb, hml, hown, hts, hK, hN, hz, hsr, hNc, hX, hbl, hst, hL, hr, hlocks⟩ := id C0
  have hA : ∀ q, s.heap.size ≤ q → s.heap.size ≤ q := fun _ h9 => h9
  have hbA : ¬ s.heap.size ≤ b := by omega
  have hKc : va_K D vwCl (cTys (cLo D g aL)) s := hK.sub [0, 1, 2] rfl
  have hKm : va_K D vwCl (mTys (mLo D g aM)) s := hK.sub [0, 1, 3] rfl
  have hKo : va_K D vwCl (oT (cLo D g aL) g.2.2.2.2) s := hK.sub [0, 1, 2, 4] rfl
  skip
  unfold st_column at h
  refine lv_aload_n hx hb d_L_law_277 rfl (lv_at hl 1 rfl) ?_
  refine la_arg (k := 1) hx hb hX hbl hbA hw.2.2 (lv_at hl 0 rfl) (lv_at hl 5 rfl) (by decide) (by omega) (by omega) d_L_law_278 d_L_law_279 d_L_law_281 d_L_law_282 d_L_law_283 ?_
  refine la_arg (k := 2) hx hb hX hbl hbA hw.2.2 (lv_at hl 0 rfl) (lv_at hl 5 rfl) (by decide) (by omega) (by omega) d_L_law_284 d_L_law_285 d_L_law_287 d_L_law_288 d_L_law_289 ?_
  refine lv_aload_n hx hb d_L_law_290 rfl (lv_at hl 3 rfl) ?_
  have hwp := hw.perm pm_c
  refine l_fri (w1 := fun u => WOl (cLo D g aL) u.2.1 u.2.2.1 u.2.2.2 g.2.2.2.2 ol u.1) (wr := WM (mLo D g aM) J P N ++ eD g od fd) (fx_run (As := [.ref (aL 0), .int (xs (j + 1)), .int (xs (j + 2)), .ref ol]) (rest := []) ⟨hx, hb, hml, hown, hts⟩ (c_L_column l (cLo D g aL) hst g.2.2.2.2 ol (xs (j + 1)) (xs (j + 2)) I F G fl H.size _ h) rfl rfl (fx_cwOf 4 hts (gS wG452 wG453 wG47 wG454) (by decide +kernel) ⟨Nat.le_of_ble_eq_true rfl, Nat.le_of_ble_eq_true rfl⟩) (lPre hKo hN hz hsr hNc hA hwp) rfl rfl hl.1 rfl (lv_room (Nat.le_of_ble_eq_true rfl)) d_L_law_291 ⟨by show cells + 1 ≤ 601024; omega, by show slots + 6 ≤ 7293034; omega⟩) hwp hA (fun u t hb9 => hb9) (fun k u H locs h hw => ?_)
  obtain ⟨fl, I, F, G⟩ := u
  clear hwp
  replace hw : GW D (fun q => s.heap.size ≤ q) s.heap (WX D g aL aM I F G J P N ol od fl fd) H locs := hw.perm pm_c.symm
  refine lv_istore (lv' := [(6, .int k), (0, .ref b), (1, .ref (aL 0)), (2, .ref (aM 0)), (3, .ref ol), (4, .ref od), (5, .int (nI j))]) hx hb d_L_law_294 hl (by decide) rfl (fun ls hl => ?_)
  refine lv_aload_n hx hb d_L_law_296 rfl (lv_at hl 3 rfl) ?_
  refine la_arg (k := 1) hx hb hX hbl hbA hw.2.2 (lv_at hl 1 rfl) (lv_at hl 6 rfl) (by decide) (by omega) (by omega) d_L_law_297 d_L_law_298 d_L_law_300 d_L_law_301 d_L_law_302 ?_
  refine la_arg (k := 2) hx hb hX hbl hbA hw.2.2 (lv_at hl 1 rfl) (lv_at hl 6 rfl) (by decide) (by omega) (by omega) d_L_law_303 d_L_law_304 d_L_law_306 d_L_law_307 d_L_law_308 ?_
  have hwm := hw.perm pm_b
  refine l_fri (w1 := fun u => WM (mLo D g aM) u.1 u.2.1 u.2.2) (va_runV (As := [.int (xs (j + 1)), .int (xs (j + 2))]) (rest := []) ⟨hx, hb, hml, hown, hts⟩ (c_M_column l (mLo D g aM) (xs (j + 1)) (xs (j + 2)) J P N H.size _ h) (cwV 2 hts (gV wG861 wG862 wG863 wG54 wG864) rfl rfl rfl (by decide +kernel) ⟨Nat.le_of_ble_eq_true rfl, Nat.le_of_ble_eq_true rfl⟩) (mPrm hKm trivial ⟨fr_left hwm.1, fd_left hwm.2.1, hwm.2.2⟩) rfl rfl hl.1 rfl (lv_room (Nat.le_of_ble_eq_true rfl)) d_L_law_309 ⟨by show cells + 1 + 0 ≤ 601024; omega, by show slots + 6 + 0 ≤ 7293034; omega⟩) hwm hA (fun u t hb9 => ⟨hb9.1, hb9.2.2⟩) (fun b9 u H locs h hw => ?_)
  obtain ⟨J, P, N⟩ := u
  clear hwm
  replace hw : GW D (fun q => s.heap.size ≤ q) s.heap (WX D g aL aM I F G J P N ol od fl fd) H locs := hw.perm pm_b.symm
  refine lv_istore (lv' := [(7, .int b9), (6, .int k), (0, .ref b), (1, .ref (aL 0)), (2, .ref (aM 0)), (3, .ref ol), (4, .ref od), (5, .int (nI j))]) hx hb d_L_law_312 hl (by decide) rfl (fun ls hl => ?_)
  refine lv_aload_n hx hb d_L_law_314 rfl (lv_at hl 4 rfl) ?_
  refine vp_callSi (va_runV (As := []) (rest := []) ⟨hx, hb, hml, hown, hts⟩ (c_M_thrown l (mLo D g aM) J P N _ h) (cwV 0 hts (gV wG782 wG783 wG784 wG54 wG785) rfl rfl rfl (by decide +kernel) ⟨Nat.le_of_ble_eq_true rfl, Nat.le_of_ble_eq_true rfl⟩) (mPre hKm trivial (fr_left (hw.perm pm_b).1)) rfl rfl hl.1 rfl (lv_room (Nat.le_of_ble_eq_true rfl)) d_L_law_315 ⟨by show cells + 1 + 0 + 0 ≤ 601024; omega, by show slots + 6 + 0 + 0 ≤ 7293034; omega⟩).run (fun th h => ?_)
  refine lv_iload hx hb d_L_law_318 (lv_at hl 1 rfl) ?_
  refine lv_icmp_eq (tgt := 325) hx hb d_L_law_320 (by decide) (fun _ => ?_) (fun c9 => absurd h.1 c9)
  refine lv_iload hx hb d_L_law_325 (lv_at hl 1 rfl) ?_
  refine lv_if_ne (tgt := 342) hx hb d_L_law_327 (by decide) (fun _ => ?_) (fun ck => ?_)
  · refine lv_goto (tgt := 1097) hx hb d_L_law_342 (by decide) ?_
    refine W.widen (k := cells + 4) (n := slots + 24) (by omega) (by omega) ?_
    exact kk I F G J P N fl fd H locs ls h.2.2 hw (lv_sub hl [2, 3, 4, 5, 6, 7] rfl)
  · have hv9 := h.2.1 ck
    refine lv_aload_n hx hb d_L_law_330 rfl (lv_at hl 5 rfl) ?_
    refine lv_iconst (v := 0) hx hb d_L_law_331 (by decide) ?_
    refine va_lald hx hb hK hw.1 54 4 rfl rfl (i := 0) (n := 1) (by unfold vp_in; decide) d_L_law_332 ?_
    refine lv_iload hx hb d_L_law_333 (lv_at hl 0 rfl) ?_
    refine lv_i2l hx hb d_L_law_335 rfl ?_
    refine W.lcmp hx hb d_L_law_336 ?_
    refine lv_if_eq (tgt := 342) hx hb d_L_law_337 (by decide) (fun _ => ?_) (fun c9 => absurd (lcmp0 hv9) c9)
    refine lv_goto (tgt := 1097) hx hb d_L_law_342 (by decide) ?_
    refine W.widen (k := cells + 4) (n := slots + 24) (by omega) (by omega) ?_
    exact kk I F G J P N fl fd H locs ls h.2.2 hw (lv_sub hl [2, 3, 4, 5, 6, 7] rfl)
set_option maxHeartbeats 4000000 in
set_option maxRecDepth 100000 in
theorem lc_net {p : Program} {l : Launch} {e : Env} {s : State} {m : MethodId} {args : Array Value} {below : List Frame} {meth : Method} {c : Code} {b L : Nat} {xs : Nat → Int32} {D : va_G} {g : gK} {Q : State → Prop} (Sm : MI → MF → MG → MI → MF → MG → Prop) (C0 : lCx p l s m args meth c b L xs D g) {aL aM : Nat → Nat} {I : MI} {F : MF} {G : MG} {J : MI} {P : MF} {N : MG} {ol od : Nat} {fl : Nat → Int64} {fd : Nat → UInt64} {H : Heap} {locs : List Loc} {ls : Array Slot} {j cells slots : Nat} (hj : j + 6 ≤ L) (h : st_net Sm (xs (j + 1)) (xs (j + 2)) (fl 0) I F G J P N)
    (hw : GW D (fun q => s.heap.size ≤ q) s.heap (WX D g aL aM I F G J P N ol od fl fd) H locs) (hl : lv_has ls 9 (lLv b (aL 0) (aM 0) ol od (nI j))) (hcl : cells + 4 ≤ 601024) (hsl : slots + 24 ≤ 7293034)
    (kk : ∀ (I : MI) (F : MF) (G : MG) (J : MI) (P : MF) (N : MG) (fl : Nat → Int64) (fd : Nat → UInt64) (H : Heap) (locs : List Loc) (ls : Array Slot), Sm I F G J P N → GW D (fun q => s.heap.size ≤ q) s.heap (WX D g aL aM I F G J P N ol od fl fd) H locs → lv_has ls 9 (lLv b (aL 0) (aM 0) ol od (nI j)) → W p l e room_1 s m args below meth c H locs (cells + 4) (slots + 24) Q (F0 m 1097 ls [])) :
    W p l e room_1 s m args below meth c H locs cells slots Q (F0 m 345 ls []) := by
  obtain ⟨hx, hb, hml, hown, hts, hK, hN, hz, hsr, hNc, hX, hbl, hst, hL, hr, hlocks⟩ := id C0
  have hA : ∀ q, s.heap.size ≤ q → s.heap.size ≤ q := fun _ h9 => h9
  have hbA : ¬ s.heap.size ≤ b := by omega
  have hKc : va_K D vwCl (cTys (cLo D g aL)) s := hK.sub [0, 1, 2] rfl
  have hKm : va_K D vwCl (mTys (mLo D g aM)) s := hK.sub [0, 1, 3] rfl
  have hKo : va_K D vwCl (oT (cLo D g aL) g.2.2.2.2) s := hK.sub [0, 1, 2, 4] rfl
  skip
  unfold st_net at h
  refine lv_aload_n hx hb d_L_law_345 rfl (lv_at hl 1 rfl) ?_
  refine la_arg (k := 1) hx hb hX hbl hbA hw.2.2 (lv_at hl 0 rfl) (lv_at hl 5 rfl) (by decide) (by omega) (by omega) d_L_law_346 d_L_law_347 d_L_law_349 d_L_law_350 d_L_law_351 ?_
  refine la_arg (k := 2) hx hb hX hbl hbA hw.2.2 (lv_at hl 0 rfl) (lv_at hl 5 rfl) (by decide) (by omega) (by omega) d_L_law_352 d_L_law_353 d_L_law_355 d_L_law_356 d_L_law_357 ?_
  refine lv_aload_n hx hb d_L_law_358 rfl (lv_at hl 3 rfl) ?_
  have hwp := hw.perm pm_c
  refine l_fri (w1 := fun u => WOl (cLo D g aL) u.2.1 u.2.2.1 u.2.2.2 g.2.2.2.2 ol u.1) (wr := WM (mLo D g aM) J P N ++ eD g od fd) (fx_run (As := [.ref (aL 0), .int (xs (j + 1)), .int (xs (j + 2)), .ref ol]) (rest := []) ⟨hx, hb, hml, hown, hts⟩ (c_L_net l (cLo D g aL) hst g.2.2.2.2 ol (xs (j + 1)) (xs (j + 2)) I F G fl H.size _ h) rfl rfl (fx_cwOf 4 hts (gS wG489 wG490 wG47 wG491) (by decide +kernel) ⟨Nat.le_of_ble_eq_true rfl, Nat.le_of_ble_eq_true rfl⟩) (lPre hKo hN hz hsr hNc hA hwp) rfl rfl hl.1 rfl (lv_room (Nat.le_of_ble_eq_true rfl)) d_L_law_359 ⟨by show cells + 2 ≤ 601024; omega, by show slots + 12 ≤ 7293034; omega⟩) hwp hA (fun u t hb9 => hb9) (fun k u H locs h hw => ?_)
  obtain ⟨fl, I, F, G⟩ := u
  clear hwp
  replace hw : GW D (fun q => s.heap.size ≤ q) s.heap (WX D g aL aM I F G J P N ol od fl fd) H locs := hw.perm pm_c.symm
  refine lv_istore (lv' := [(6, .int k), (0, .ref b), (1, .ref (aL 0)), (2, .ref (aM 0)), (3, .ref ol), (4, .ref od), (5, .int (nI j))]) hx hb d_L_law_362 hl (by decide) rfl (fun ls hl => ?_)
  refine lv_aload_n hx hb d_L_law_364 rfl (lv_at hl 3 rfl) ?_
  refine la_arg (k := 1) hx hb hX hbl hbA hw.2.2 (lv_at hl 1 rfl) (lv_at hl 6 rfl) (by decide) (by omega) (by omega) d_L_law_365 d_L_law_366 d_L_law_368 d_L_law_369 d_L_law_370 ?_
  refine la_arg (k := 2) hx hb hX hbl hbA hw.2.2 (lv_at hl 1 rfl) (lv_at hl 6 rfl) (by decide) (by omega) (by omega) d_L_law_371 d_L_law_372 d_L_law_374 d_L_law_375 d_L_law_376 ?_
  have hwm := hw.perm pm_b
  refine l_fri (w1 := fun u => WM (mLo D g aM) u.1 u.2.1 u.2.2) (va_runV (As := [.int (xs (j + 1)), .int (xs (j + 2))]) (rest := []) ⟨hx, hb, hml, hown, hts⟩ (c_M_net l (mLo D g aM) (xs (j + 1)) (xs (j + 2)) J P N H.size _ h) (cwV 2 hts (gV wG869 wG870 wG871 wG54 wG872) rfl rfl rfl (by decide +kernel) ⟨Nat.le_of_ble_eq_true rfl, Nat.le_of_ble_eq_true rfl⟩) (mPrm hKm trivial ⟨fr_left hwm.1, fd_left hwm.2.1, hwm.2.2⟩) rfl rfl hl.1 rfl (lv_room (Nat.le_of_ble_eq_true rfl)) d_L_law_377 ⟨by show cells + 2 + 0 ≤ 601024; omega, by show slots + 12 + 0 ≤ 7293034; omega⟩) hwm hA (fun u t hb9 => ⟨hb9.1, hb9.2.2⟩) (fun b9 u H locs h hw => ?_)
  obtain ⟨J, P, N⟩ := u
  clear hwm
  replace hw : GW D (fun q => s.heap.size ≤ q) s.heap (WX D g aL aM I F G J P N ol od fl fd) H locs := hw.perm pm_b.symm
  refine lv_istore (lv' := [(7, .int b9), (6, .int k), (0, .ref b), (1, .ref (aL 0)), (2, .ref (aM 0)), (3, .ref ol), (4, .ref od), (5, .int (nI j))]) hx hb d_L_law_380 hl (by decide) rfl (fun ls hl => ?_)
  refine lv_aload_n hx hb d_L_law_382 rfl (lv_at hl 4 rfl) ?_
  refine vp_callSi (va_runV (As := []) (rest := []) ⟨hx, hb, hml, hown, hts⟩ (c_M_thrown l (mLo D g aM) J P N _ h) (cwV 0 hts (gV wG782 wG783 wG784 wG54 wG785) rfl rfl rfl (by decide +kernel) ⟨Nat.le_of_ble_eq_true rfl, Nat.le_of_ble_eq_true rfl⟩) (mPre hKm trivial (fr_left (hw.perm pm_b).1)) rfl rfl hl.1 rfl (lv_room (Nat.le_of_ble_eq_true rfl)) d_L_law_383 ⟨by show cells + 2 + 0 + 0 ≤ 601024; omega, by show slots + 12 + 0 + 0 ≤ 7293034; omega⟩).run (fun th h => ?_)
  refine lv_iload hx hb d_L_law_386 (lv_at hl 1 rfl) ?_
  refine lv_icmp_eq (tgt := 393) hx hb d_L_law_388 (by decide) (fun _ => ?_) (fun c9 => absurd h.1 c9)
  refine lv_iload hx hb d_L_law_393 (lv_at hl 1 rfl) ?_
  refine lv_if_ne (tgt := 410) hx hb d_L_law_395 (by decide) (fun _ => ?_) (fun ck => ?_)
  · refine lv_goto (tgt := 1097) hx hb d_L_law_410 (by decide) ?_
    refine W.widen (k := cells + 4) (n := slots + 24) (by omega) (by omega) ?_
    exact kk I F G J P N fl fd H locs ls h.2.2 hw (lv_sub hl [2, 3, 4, 5, 6, 7] rfl)
  · have hv9 := h.2.1 ck
    refine lv_aload_n hx hb d_L_law_398 rfl (lv_at hl 5 rfl) ?_
    refine lv_iconst (v := 0) hx hb d_L_law_399 (by decide) ?_
    refine va_lald hx hb hK hw.1 54 4 rfl rfl (i := 0) (n := 1) (by unfold vp_in; decide) d_L_law_400 ?_
    refine lv_iload hx hb d_L_law_401 (lv_at hl 0 rfl) ?_
    refine lv_i2l hx hb d_L_law_403 rfl ?_
    refine W.lcmp hx hb d_L_law_404 ?_
    refine lv_if_eq (tgt := 410) hx hb d_L_law_405 (by decide) (fun _ => ?_) (fun c9 => absurd (lcmp0 hv9) c9)
    refine lv_goto (tgt := 1097) hx hb d_L_law_410 (by decide) ?_
    refine W.widen (k := cells + 4) (n := slots + 24) (by omega) (by omega) ?_
    exact kk I F G J P N fl fd H locs ls h.2.2 hw (lv_sub hl [2, 3, 4, 5, 6, 7] rfl)
set_option maxHeartbeats 4000000 in
set_option maxRecDepth 100000 in
theorem lc_mask {p : Program} {l : Launch} {e : Env} {s : State} {m : MethodId} {args : Array Value} {below : List Frame} {meth : Method} {c : Code} {b L : Nat} {xs : Nat → Int32} {D : va_G} {g : gK} {Q : State → Prop} (Sm : MI → MF → MG → MI → MF → MG → Prop) (C0 : lCx p l s m args meth c b L xs D g) {aL aM : Nat → Nat} {I : MI} {F : MF} {G : MG} {J : MI} {P : MF} {N : MG} {ol od : Nat} {fl : Nat → Int64} {fd : Nat → UInt64} {H : Heap} {locs : List Loc} {ls : Array Slot} {j cells slots : Nat} (hj : j + 6 ≤ L) (h : st_mask Sm (xs (j + 1)) (xs (j + 2)) (fl 0) I F G J P N)
    (hw : GW D (fun q => s.heap.size ≤ q) s.heap (WX D g aL aM I F G J P N ol od fl fd) H locs) (hl : lv_has ls 9 (lLv b (aL 0) (aM 0) ol od (nI j))) (hcl : cells + 4 ≤ 601024) (hsl : slots + 24 ≤ 7293034)
    (kk : ∀ (I : MI) (F : MF) (G : MG) (J : MI) (P : MF) (N : MG) (fl : Nat → Int64) (fd : Nat → UInt64) (H : Heap) (locs : List Loc) (ls : Array Slot), Sm I F G J P N → GW D (fun q => s.heap.size ≤ q) s.heap (WX D g aL aM I F G J P N ol od fl fd) H locs → lv_has ls 9 (lLv b (aL 0) (aM 0) ol od (nI j)) → W p l e room_1 s m args below meth c H locs (cells + 4) (slots + 24) Q (F0 m 1097 ls [])) :
    W p l e room_1 s m args below meth c H locs cells slots Q (F0 m 413 ls []) := by
  obtain ⟨hx, hb, hml, hown, hts, hK, hN, hz, hsr, hNc, hX, hbl, hst, hL, hr, hlocks⟩ := id C0
  have hA : ∀ q, s.heap.size ≤ q → s.heap.size ≤ q := fun _ h9 => h9
  have hbA : ¬ s.heap.size ≤ b := by omega
  have hKc : va_K D vwCl (cTys (cLo D g aL)) s := hK.sub [0, 1, 2] rfl
  have hKm : va_K D vwCl (mTys (mLo D g aM)) s := hK.sub [0, 1, 3] rfl
  have hKo : va_K D vwCl (oT (cLo D g aL) g.2.2.2.2) s := hK.sub [0, 1, 2, 4] rfl
  skip
  unfold st_mask at h
  refine lv_aload_n hx hb d_L_law_413 rfl (lv_at hl 1 rfl) ?_
  refine la_arg (k := 1) hx hb hX hbl hbA hw.2.2 (lv_at hl 0 rfl) (lv_at hl 5 rfl) (by decide) (by omega) (by omega) d_L_law_414 d_L_law_415 d_L_law_417 d_L_law_418 d_L_law_419 ?_
  refine la_arg (k := 2) hx hb hX hbl hbA hw.2.2 (lv_at hl 0 rfl) (lv_at hl 5 rfl) (by decide) (by omega) (by omega) d_L_law_420 d_L_law_421 d_L_law_423 d_L_law_424 d_L_law_425 ?_
  refine lv_aload_n hx hb d_L_law_426 rfl (lv_at hl 3 rfl) ?_
  have hwp := hw.perm pm_c
  refine l_fri (w1 := fun u => WOl (cLo D g aL) u.2.1 u.2.2.1 u.2.2.2 g.2.2.2.2 ol u.1) (wr := WM (mLo D g aM) J P N ++ eD g od fd) (fx_run (As := [.ref (aL 0), .int (xs (j + 1)), .int (xs (j + 2)), .ref ol]) (rest := []) ⟨hx, hb, hml, hown, hts⟩ (c_L_mask l (cLo D g aL) hst g.2.2.2.2 ol (xs (j + 1)) (xs (j + 2)) I F G fl H.size _ h) rfl rfl (fx_cwOf 4 hts (gS wG510 wG511 wG47 wG512) (by decide +kernel) ⟨Nat.le_of_ble_eq_true rfl, Nat.le_of_ble_eq_true rfl⟩) (lPre hKo hN hz hsr hNc hA hwp) rfl rfl hl.1 rfl (lv_room (Nat.le_of_ble_eq_true rfl)) d_L_law_427 ⟨by show cells + 2 ≤ 601024; omega, by show slots + 12 ≤ 7293034; omega⟩) hwp hA (fun u t hb9 => hb9) (fun k u H locs h hw => ?_)
  obtain ⟨fl, I, F, G⟩ := u
  clear hwp
  replace hw : GW D (fun q => s.heap.size ≤ q) s.heap (WX D g aL aM I F G J P N ol od fl fd) H locs := hw.perm pm_c.symm
  refine lv_istore (lv' := [(6, .int k), (0, .ref b), (1, .ref (aL 0)), (2, .ref (aM 0)), (3, .ref ol), (4, .ref od), (5, .int (nI j))]) hx hb d_L_law_430 hl (by decide) rfl (fun ls hl => ?_)
  refine lv_aload_n hx hb d_L_law_432 rfl (lv_at hl 3 rfl) ?_
  refine la_arg (k := 1) hx hb hX hbl hbA hw.2.2 (lv_at hl 1 rfl) (lv_at hl 6 rfl) (by decide) (by omega) (by omega) d_L_law_433 d_L_law_434 d_L_law_436 d_L_law_437 d_L_law_438 ?_
  refine la_arg (k := 2) hx hb hX hbl hbA hw.2.2 (lv_at hl 1 rfl) (lv_at hl 6 rfl) (by decide) (by omega) (by omega) d_L_law_439 d_L_law_440 d_L_law_442 d_L_law_443 d_L_law_444 ?_
  have hwm := hw.perm pm_b
  refine l_fri (w1 := fun u => WM (mLo D g aM) u.1 u.2.1 u.2.2) (va_runV (As := [.int (xs (j + 1)), .int (xs (j + 2))]) (rest := []) ⟨hx, hb, hml, hown, hts⟩ (c_M_mask l (mLo D g aM) (xs (j + 1)) (xs (j + 2)) J P N H.size _ h) (cwV 2 hts (gV wG877 wG878 wG879 wG54 wG880) rfl rfl rfl (by decide +kernel) ⟨Nat.le_of_ble_eq_true rfl, Nat.le_of_ble_eq_true rfl⟩) (mPrm hKm trivial ⟨fr_left hwm.1, fd_left hwm.2.1, hwm.2.2⟩) rfl rfl hl.1 rfl (lv_room (Nat.le_of_ble_eq_true rfl)) d_L_law_445 ⟨by show cells + 2 + 0 ≤ 601024; omega, by show slots + 12 + 0 ≤ 7293034; omega⟩) hwm hA (fun u t hb9 => ⟨hb9.1, hb9.2.2⟩) (fun b9 u H locs h hw => ?_)
  obtain ⟨J, P, N⟩ := u
  clear hwm
  replace hw : GW D (fun q => s.heap.size ≤ q) s.heap (WX D g aL aM I F G J P N ol od fl fd) H locs := hw.perm pm_b.symm
  refine lv_istore (lv' := [(7, .int b9), (6, .int k), (0, .ref b), (1, .ref (aL 0)), (2, .ref (aM 0)), (3, .ref ol), (4, .ref od), (5, .int (nI j))]) hx hb d_L_law_448 hl (by decide) rfl (fun ls hl => ?_)
  refine lv_aload_n hx hb d_L_law_450 rfl (lv_at hl 4 rfl) ?_
  refine vp_callSi (va_runV (As := []) (rest := []) ⟨hx, hb, hml, hown, hts⟩ (c_M_thrown l (mLo D g aM) J P N _ h) (cwV 0 hts (gV wG782 wG783 wG784 wG54 wG785) rfl rfl rfl (by decide +kernel) ⟨Nat.le_of_ble_eq_true rfl, Nat.le_of_ble_eq_true rfl⟩) (mPre hKm trivial (fr_left (hw.perm pm_b).1)) rfl rfl hl.1 rfl (lv_room (Nat.le_of_ble_eq_true rfl)) d_L_law_451 ⟨by show cells + 2 + 0 + 0 ≤ 601024; omega, by show slots + 12 + 0 + 0 ≤ 7293034; omega⟩).run (fun th h => ?_)
  refine lv_iload hx hb d_L_law_454 (lv_at hl 1 rfl) ?_
  refine lv_icmp_eq (tgt := 461) hx hb d_L_law_456 (by decide) (fun _ => ?_) (fun c9 => absurd h.1 c9)
  refine lv_iload hx hb d_L_law_461 (lv_at hl 1 rfl) ?_
  refine lv_if_ne (tgt := 478) hx hb d_L_law_463 (by decide) (fun _ => ?_) (fun ck => ?_)
  · refine lv_goto (tgt := 1097) hx hb d_L_law_478 (by decide) ?_
    refine W.widen (k := cells + 4) (n := slots + 24) (by omega) (by omega) ?_
    exact kk I F G J P N fl fd H locs ls h.2.2 hw (lv_sub hl [2, 3, 4, 5, 6, 7] rfl)
  · have hv9 := h.2.1 ck
    refine lv_aload_n hx hb d_L_law_466 rfl (lv_at hl 5 rfl) ?_
    refine lv_iconst (v := 0) hx hb d_L_law_467 (by decide) ?_
    refine va_lald hx hb hK hw.1 54 4 rfl rfl (i := 0) (n := 1) (by unfold vp_in; decide) d_L_law_468 ?_
    refine lv_iload hx hb d_L_law_469 (lv_at hl 0 rfl) ?_
    refine lv_i2l hx hb d_L_law_471 rfl ?_
    refine W.lcmp hx hb d_L_law_472 ?_
    refine lv_if_eq (tgt := 478) hx hb d_L_law_473 (by decide) (fun _ => ?_) (fun c9 => absurd (lcmp0 hv9) c9)
    refine lv_goto (tgt := 1097) hx hb d_L_law_478 (by decide) ?_
    refine W.widen (k := cells + 4) (n := slots + 24) (by omega) (by omega) ?_
    exact kk I F G J P N fl fd H locs ls h.2.2 hw (lv_sub hl [2, 3, 4, 5, 6, 7] rfl)
set_option maxHeartbeats 4000000 in
set_option maxRecDepth 100000 in
theorem lc_damage {p : Program} {l : Launch} {e : Env} {s : State} {m : MethodId} {args : Array Value} {below : List Frame} {meth : Method} {c : Code} {b L : Nat} {xs : Nat → Int32} {D : va_G} {g : gK} {Q : State → Prop} (Sm : MI → MF → MG → MI → MF → MG → Prop) (C0 : lCx p l s m args meth c b L xs D g) {aL aM : Nat → Nat} {I : MI} {F : MF} {G : MG} {J : MI} {P : MF} {N : MG} {ol od : Nat} {fl : Nat → Int64} {fd : Nat → UInt64} {H : Heap} {locs : List Loc} {ls : Array Slot} {j cells slots : Nat} (hj : j + 6 ≤ L) (h : st_damage Sm (xs (j + 1)) (xs (j + 2)) (xs (j + 3)) (fl 0) I F G J P N)
    (hw : GW D (fun q => s.heap.size ≤ q) s.heap (WX D g aL aM I F G J P N ol od fl fd) H locs) (hl : lv_has ls 9 (lLv b (aL 0) (aM 0) ol od (nI j))) (hcl : cells + 4 ≤ 601024) (hsl : slots + 24 ≤ 7293034)
    (kk : ∀ (I : MI) (F : MF) (G : MG) (J : MI) (P : MF) (N : MG) (fl : Nat → Int64) (fd : Nat → UInt64) (H : Heap) (locs : List Loc) (ls : Array Slot), Sm I F G J P N → GW D (fun q => s.heap.size ≤ q) s.heap (WX D g aL aM I F G J P N ol od fl fd) H locs → lv_has ls 9 (lLv b (aL 0) (aM 0) ol od (nI j)) → W p l e room_1 s m args below meth c H locs (cells + 4) (slots + 24) Q (F0 m 1097 ls [])) :
    W p l e room_1 s m args below meth c H locs cells slots Q (F0 m 481 ls []) := by
  obtain ⟨hx, hb, hml, hown, hts, hK, hN, hz, hsr, hNc, hX, hbl, hst, hL, hr, hlocks⟩ := id C0
  have hA : ∀ q, s.heap.size ≤ q → s.heap.size ≤ q := fun _ h9 => h9
  have hbA : ¬ s.heap.size ≤ b := by omega
  have hKc : va_K D vwCl (cTys (cLo D g aL)) s := hK.sub [0, 1, 2] rfl
  have hKm : va_K D vwCl (mTys (mLo D g aM)) s := hK.sub [0, 1, 3] rfl
  have hKo : va_K D vwCl (oT (cLo D g aL) g.2.2.2.2) s := hK.sub [0, 1, 2, 4] rfl
  skip
  unfold st_damage at h
  refine lv_aload_n hx hb d_L_law_481 rfl (lv_at hl 1 rfl) ?_
  refine la_arg (k := 1) hx hb hX hbl hbA hw.2.2 (lv_at hl 0 rfl) (lv_at hl 5 rfl) (by decide) (by omega) (by omega) d_L_law_482 d_L_law_483 d_L_law_485 d_L_law_486 d_L_law_487 ?_
  refine la_arg (k := 2) hx hb hX hbl hbA hw.2.2 (lv_at hl 0 rfl) (lv_at hl 5 rfl) (by decide) (by omega) (by omega) d_L_law_488 d_L_law_489 d_L_law_491 d_L_law_492 d_L_law_493 ?_
  refine la_arg (k := 3) hx hb hX hbl hbA hw.2.2 (lv_at hl 0 rfl) (lv_at hl 5 rfl) (by decide) (by omega) (by omega) d_L_law_494 d_L_law_495 d_L_law_497 d_L_law_498 d_L_law_499 ?_
  refine lv_aload_n hx hb d_L_law_500 rfl (lv_at hl 3 rfl) ?_
  have hwp := hw.perm pm_c
  refine l_fri (w1 := fun u => WOl (cLo D g aL) u.2.1 u.2.2.1 u.2.2.2 g.2.2.2.2 ol u.1) (wr := WM (mLo D g aM) J P N ++ eD g od fd) (fx_run (As := [.ref (aL 0), .int (xs (j + 1)), .int (xs (j + 2)), .int (xs (j + 3)), .ref ol]) (rest := []) ⟨hx, hb, hml, hown, hts⟩ (c_L_damage l (cLo D g aL) hst g.2.2.2.2 ol (xs (j + 1)) (xs (j + 2)) (xs (j + 3)) I F G fl H.size _ h) rfl rfl (fx_cwOf 5 hts (gS wG531 wG532 wG47 wG533) (by decide +kernel) ⟨Nat.le_of_ble_eq_true rfl, Nat.le_of_ble_eq_true rfl⟩) (lPre hKo hN hz hsr hNc hA hwp) rfl rfl hl.1 rfl (lv_room (Nat.le_of_ble_eq_true rfl)) d_L_law_501 ⟨by show cells + 3 ≤ 601024; omega, by show slots + 18 ≤ 7293034; omega⟩) hwp hA (fun u t hb9 => hb9) (fun k u H locs h hw => ?_)
  obtain ⟨fl, I, F, G⟩ := u
  clear hwp
  replace hw : GW D (fun q => s.heap.size ≤ q) s.heap (WX D g aL aM I F G J P N ol od fl fd) H locs := hw.perm pm_c.symm
  refine lv_istore (lv' := [(6, .int k), (0, .ref b), (1, .ref (aL 0)), (2, .ref (aM 0)), (3, .ref ol), (4, .ref od), (5, .int (nI j))]) hx hb d_L_law_504 hl (by decide) rfl (fun ls hl => ?_)
  refine lv_aload_n hx hb d_L_law_506 rfl (lv_at hl 3 rfl) ?_
  refine la_arg (k := 1) hx hb hX hbl hbA hw.2.2 (lv_at hl 1 rfl) (lv_at hl 6 rfl) (by decide) (by omega) (by omega) d_L_law_507 d_L_law_508 d_L_law_510 d_L_law_511 d_L_law_512 ?_
  refine la_arg (k := 2) hx hb hX hbl hbA hw.2.2 (lv_at hl 1 rfl) (lv_at hl 6 rfl) (by decide) (by omega) (by omega) d_L_law_513 d_L_law_514 d_L_law_516 d_L_law_517 d_L_law_518 ?_
  refine la_arg (k := 3) hx hb hX hbl hbA hw.2.2 (lv_at hl 1 rfl) (lv_at hl 6 rfl) (by decide) (by omega) (by omega) d_L_law_519 d_L_law_520 d_L_law_522 d_L_law_523 d_L_law_524 ?_
  have hwm := hw.perm pm_b
  refine l_fri (w1 := fun u => WM (mLo D g aM) u.1 u.2.1 u.2.2) (va_runV (As := [.int (xs (j + 1)), .int (xs (j + 2)), .int (xs (j + 3))]) (rest := []) ⟨hx, hb, hml, hown, hts⟩ (c_M_damage l (mLo D g aM) (xs (j + 1)) (xs (j + 2)) (xs (j + 3)) J P N H.size _ h) (cwV 3 hts (gV wG885 wG886 wG887 wG54 wG888) rfl rfl rfl (by decide +kernel) ⟨Nat.le_of_ble_eq_true rfl, Nat.le_of_ble_eq_true rfl⟩) (mPrm hKm trivial ⟨fr_left hwm.1, fd_left hwm.2.1, hwm.2.2⟩) rfl rfl hl.1 rfl (lv_room (Nat.le_of_ble_eq_true rfl)) d_L_law_525 ⟨by show cells + 3 + 0 ≤ 601024; omega, by show slots + 18 + 0 ≤ 7293034; omega⟩) hwm hA (fun u t hb9 => ⟨hb9.1, hb9.2.2⟩) (fun b9 u H locs h hw => ?_)
  obtain ⟨J, P, N⟩ := u
  clear hwm
  replace hw : GW D (fun q => s.heap.size ≤ q) s.heap (WX D g aL aM I F G J P N ol od fl fd) H locs := hw.perm pm_b.symm
  refine lv_istore (lv' := [(7, .int b9), (6, .int k), (0, .ref b), (1, .ref (aL 0)), (2, .ref (aM 0)), (3, .ref ol), (4, .ref od), (5, .int (nI j))]) hx hb d_L_law_528 hl (by decide) rfl (fun ls hl => ?_)
  refine lv_aload_n hx hb d_L_law_530 rfl (lv_at hl 4 rfl) ?_
  refine vp_callSi (va_runV (As := []) (rest := []) ⟨hx, hb, hml, hown, hts⟩ (c_M_thrown l (mLo D g aM) J P N _ h) (cwV 0 hts (gV wG782 wG783 wG784 wG54 wG785) rfl rfl rfl (by decide +kernel) ⟨Nat.le_of_ble_eq_true rfl, Nat.le_of_ble_eq_true rfl⟩) (mPre hKm trivial (fr_left (hw.perm pm_b).1)) rfl rfl hl.1 rfl (lv_room (Nat.le_of_ble_eq_true rfl)) d_L_law_531 ⟨by show cells + 3 + 0 + 0 ≤ 601024; omega, by show slots + 18 + 0 + 0 ≤ 7293034; omega⟩).run (fun th h => ?_)
  refine lv_iload hx hb d_L_law_534 (lv_at hl 1 rfl) ?_
  refine lv_icmp_eq (tgt := 541) hx hb d_L_law_536 (by decide) (fun _ => ?_) (fun c9 => absurd h.1 c9)
  refine lv_iload hx hb d_L_law_541 (lv_at hl 1 rfl) ?_
  refine lv_if_ne (tgt := 558) hx hb d_L_law_543 (by decide) (fun _ => ?_) (fun ck => ?_)
  · refine lv_goto (tgt := 1097) hx hb d_L_law_558 (by decide) ?_
    refine W.widen (k := cells + 4) (n := slots + 24) (by omega) (by omega) ?_
    exact kk I F G J P N fl fd H locs ls h.2.2 hw (lv_sub hl [2, 3, 4, 5, 6, 7] rfl)
  · have hv9 := h.2.1 ck
    refine lv_aload_n hx hb d_L_law_546 rfl (lv_at hl 5 rfl) ?_
    refine lv_iconst (v := 0) hx hb d_L_law_547 (by decide) ?_
    refine va_lald hx hb hK hw.1 54 4 rfl rfl (i := 0) (n := 1) (by unfold vp_in; decide) d_L_law_548 ?_
    refine lv_iload hx hb d_L_law_549 (lv_at hl 0 rfl) ?_
    refine lv_i2l hx hb d_L_law_551 rfl ?_
    refine W.lcmp hx hb d_L_law_552 ?_
    refine lv_if_eq (tgt := 558) hx hb d_L_law_553 (by decide) (fun _ => ?_) (fun c9 => absurd (lcmp0 hv9) c9)
    refine lv_goto (tgt := 1097) hx hb d_L_law_558 (by decide) ?_
    refine W.widen (k := cells + 4) (n := slots + 24) (by omega) (by omega) ?_
    exact kk I F G J P N fl fd H locs ls h.2.2 hw (lv_sub hl [2, 3, 4, 5, 6, 7] rfl)
set_option maxHeartbeats 4000000 in
set_option maxRecDepth 100000 in
theorem lc_joined {p : Program} {l : Launch} {e : Env} {s : State} {m : MethodId} {args : Array Value} {below : List Frame} {meth : Method} {c : Code} {b L : Nat} {xs : Nat → Int32} {D : va_G} {g : gK} {Q : State → Prop} (Sm : MI → MF → MG → MI → MF → MG → Prop) (C0 : lCx p l s m args meth c b L xs D g) {aL aM : Nat → Nat} {I : MI} {F : MF} {G : MG} {J : MI} {P : MF} {N : MG} {ol od : Nat} {fl : Nat → Int64} {fd : Nat → UInt64} {H : Heap} {locs : List Loc} {ls : Array Slot} {j cells slots : Nat} (hj : j + 6 ≤ L) (h : st_joined Sm (xs (j + 1)) (xs (j + 2)) (xs (j + 3)) (xs (j + 4)) (fl 0) I F G J P N)
    (hw : GW D (fun q => s.heap.size ≤ q) s.heap (WX D g aL aM I F G J P N ol od fl fd) H locs) (hl : lv_has ls 9 (lLv b (aL 0) (aM 0) ol od (nI j))) (hcl : cells + 4 ≤ 601024) (hsl : slots + 24 ≤ 7293034)
    (kk : ∀ (I : MI) (F : MF) (G : MG) (J : MI) (P : MF) (N : MG) (fl : Nat → Int64) (fd : Nat → UInt64) (H : Heap) (locs : List Loc) (ls : Array Slot), Sm I F G J P N → GW D (fun q => s.heap.size ≤ q) s.heap (WX D g aL aM I F G J P N ol od fl fd) H locs → lv_has ls 9 (lLv b (aL 0) (aM 0) ol od (nI j)) → W p l e room_1 s m args below meth c H locs (cells + 4) (slots + 24) Q (F0 m 1097 ls [])) :
    W p l e room_1 s m args below meth c H locs cells slots Q (F0 m 561 ls []) := by
  obtain ⟨hx, hb, hml, hown, hts, hK, hN, hz, hsr, hNc, hX, hbl, hst, hL, hr, hlocks⟩ := id C0
  have hA : ∀ q, s.heap.size ≤ q → s.heap.size ≤ q := fun _ h9 => h9
  have hbA : ¬ s.heap.size ≤ b := by omega
  have hKc : va_K D vwCl (cTys (cLo D g aL)) s := hK.sub [0, 1, 2] rfl
  have hKm : va_K D vwCl (mTys (mLo D g aM)) s := hK.sub [0, 1, 3] rfl
  have hKo : va_K D vwCl (oT (cLo D g aL) g.2.2.2.2) s := hK.sub [0, 1, 2, 4] rfl
  skip
  unfold st_joined at h
  refine lv_aload_n hx hb d_L_law_561 rfl (lv_at hl 1 rfl) ?_
  refine la_arg (k := 1) hx hb hX hbl hbA hw.2.2 (lv_at hl 0 rfl) (lv_at hl 5 rfl) (by decide) (by omega) (by omega) d_L_law_562 d_L_law_563 d_L_law_565 d_L_law_566 d_L_law_567 ?_
  refine la_arg (k := 2) hx hb hX hbl hbA hw.2.2 (lv_at hl 0 rfl) (lv_at hl 5 rfl) (by decide) (by omega) (by omega) d_L_law_568 d_L_law_569 d_L_law_571 d_L_law_572 d_L_law_573 ?_
  refine la_arg (k := 3) hx hb hX hbl hbA hw.2.2 (lv_at hl 0 rfl) (lv_at hl 5 rfl) (by decide) (by omega) (by omega) d_L_law_574 d_L_law_575 d_L_law_577 d_L_law_578 d_L_law_579 ?_
  refine la_arg (k := 4) hx hb hX hbl hbA hw.2.2 (lv_at hl 0 rfl) (lv_at hl 5 rfl) (by decide) (by omega) (by omega) d_L_law_580 d_L_law_581 d_L_law_583 d_L_law_584 d_L_law_585 ?_
  refine lv_aload_n hx hb d_L_law_586 rfl (lv_at hl 3 rfl) ?_
  have hwp := hw.perm pm_c
  refine l_fri (w1 := fun u => WOl (cLo D g aL) u.2.1 u.2.2.1 u.2.2.2 g.2.2.2.2 ol u.1) (wr := WM (mLo D g aM) J P N ++ eD g od fd) (fx_run (As := [.ref (aL 0), .int (xs (j + 1)), .int (xs (j + 2)), .int (xs (j + 3)), .int (xs (j + 4)), .ref ol]) (rest := []) ⟨hx, hb, hml, hown, hts⟩ (c_L_joined l (cLo D g aL) hst g.2.2.2.2 ol (xs (j + 1)) (xs (j + 2)) (xs (j + 3)) (xs (j + 4)) I F G fl H.size _ h) rfl rfl (fx_cwOf 6 hts (gS wG539 wG540 wG47 wG541) (by decide +kernel) ⟨Nat.le_of_ble_eq_true rfl, Nat.le_of_ble_eq_true rfl⟩) (lPre hKo hN hz hsr hNc hA hwp) rfl rfl hl.1 rfl (lv_room (Nat.le_of_ble_eq_true rfl)) d_L_law_587 ⟨by show cells + 3 ≤ 601024; omega, by show slots + 18 ≤ 7293034; omega⟩) hwp hA (fun u t hb9 => hb9) (fun k u H locs h hw => ?_)
  obtain ⟨fl, I, F, G⟩ := u
  clear hwp
  replace hw : GW D (fun q => s.heap.size ≤ q) s.heap (WX D g aL aM I F G J P N ol od fl fd) H locs := hw.perm pm_c.symm
  refine lv_istore (lv' := [(6, .int k), (0, .ref b), (1, .ref (aL 0)), (2, .ref (aM 0)), (3, .ref ol), (4, .ref od), (5, .int (nI j))]) hx hb d_L_law_590 hl (by decide) rfl (fun ls hl => ?_)
  refine lv_aload_n hx hb d_L_law_592 rfl (lv_at hl 3 rfl) ?_
  refine la_arg (k := 1) hx hb hX hbl hbA hw.2.2 (lv_at hl 1 rfl) (lv_at hl 6 rfl) (by decide) (by omega) (by omega) d_L_law_593 d_L_law_594 d_L_law_596 d_L_law_597 d_L_law_598 ?_
  refine la_arg (k := 2) hx hb hX hbl hbA hw.2.2 (lv_at hl 1 rfl) (lv_at hl 6 rfl) (by decide) (by omega) (by omega) d_L_law_599 d_L_law_600 d_L_law_602 d_L_law_603 d_L_law_604 ?_
  refine la_arg (k := 3) hx hb hX hbl hbA hw.2.2 (lv_at hl 1 rfl) (lv_at hl 6 rfl) (by decide) (by omega) (by omega) d_L_law_605 d_L_law_606 d_L_law_608 d_L_law_609 d_L_law_610 ?_
  refine la_arg (k := 4) hx hb hX hbl hbA hw.2.2 (lv_at hl 1 rfl) (lv_at hl 6 rfl) (by decide) (by omega) (by omega) d_L_law_611 d_L_law_612 d_L_law_614 d_L_law_615 d_L_law_616 ?_
  have hwm := hw.perm pm_b
  refine l_fri (w1 := fun u => WM (mLo D g aM) u.1 u.2.1 u.2.2) (va_runV (As := [.int (xs (j + 1)), .int (xs (j + 2)), .int (xs (j + 3)), .int (xs (j + 4))]) (rest := []) ⟨hx, hb, hml, hown, hts⟩ (c_M_joined l (mLo D g aM) (xs (j + 1)) (xs (j + 2)) (xs (j + 3)) (xs (j + 4)) J P N H.size _ h) (cwV 4 hts (gV wG889 wG890 wG891 wG54 wG892) rfl rfl rfl (by decide +kernel) ⟨Nat.le_of_ble_eq_true rfl, Nat.le_of_ble_eq_true rfl⟩) (mPrm hKm trivial ⟨fr_left hwm.1, fd_left hwm.2.1, hwm.2.2⟩) rfl rfl hl.1 rfl (lv_room (Nat.le_of_ble_eq_true rfl)) d_L_law_617 ⟨by show cells + 3 + 0 ≤ 601024; omega, by show slots + 18 + 0 ≤ 7293034; omega⟩) hwm hA (fun u t hb9 => ⟨hb9.1, hb9.2.2⟩) (fun b9 u H locs h hw => ?_)
  obtain ⟨J, P, N⟩ := u
  clear hwm
  replace hw : GW D (fun q => s.heap.size ≤ q) s.heap (WX D g aL aM I F G J P N ol od fl fd) H locs := hw.perm pm_b.symm
  refine lv_istore (lv' := [(7, .int b9), (6, .int k), (0, .ref b), (1, .ref (aL 0)), (2, .ref (aM 0)), (3, .ref ol), (4, .ref od), (5, .int (nI j))]) hx hb d_L_law_620 hl (by decide) rfl (fun ls hl => ?_)
  refine lv_aload_n hx hb d_L_law_622 rfl (lv_at hl 4 rfl) ?_
  refine vp_callSi (va_runV (As := []) (rest := []) ⟨hx, hb, hml, hown, hts⟩ (c_M_thrown l (mLo D g aM) J P N _ h) (cwV 0 hts (gV wG782 wG783 wG784 wG54 wG785) rfl rfl rfl (by decide +kernel) ⟨Nat.le_of_ble_eq_true rfl, Nat.le_of_ble_eq_true rfl⟩) (mPre hKm trivial (fr_left (hw.perm pm_b).1)) rfl rfl hl.1 rfl (lv_room (Nat.le_of_ble_eq_true rfl)) d_L_law_623 ⟨by show cells + 3 + 0 + 0 ≤ 601024; omega, by show slots + 18 + 0 + 0 ≤ 7293034; omega⟩).run (fun th h => ?_)
  refine lv_iload hx hb d_L_law_626 (lv_at hl 1 rfl) ?_
  refine lv_icmp_eq (tgt := 633) hx hb d_L_law_628 (by decide) (fun _ => ?_) (fun c9 => absurd h.1 c9)
  refine lv_iload hx hb d_L_law_633 (lv_at hl 1 rfl) ?_
  refine lv_if_ne (tgt := 657) hx hb d_L_law_635 (by decide) (fun _ => ?_) (fun ck => ?_)
  · refine lv_goto (tgt := 1097) hx hb d_L_law_657 (by decide) ?_
    refine W.widen (k := cells + 4) (n := slots + 24) (by omega) (by omega) ?_
    exact kk I F G J P N fl fd H locs ls h.2.2 hw (lv_sub hl [2, 3, 4, 5, 6, 7] rfl)
  · have hv9 := h.2.1 ck
    refine lv_aload_n hx hb d_L_law_638 rfl (lv_at hl 5 rfl) ?_
    refine lv_iconst (v := 0) hx hb d_L_law_639 (by decide) ?_
    refine va_lald hx hb hK hw.1 54 4 rfl rfl (i := 0) (n := 1) (by unfold vp_in; decide) d_L_law_640 ?_
    refine lv_iload hx hb d_L_law_641 (lv_at hl 0 rfl) ?_
    refine lv_if_eq (tgt := 650) hx hb d_L_law_643 (by decide) (fun cb => ?_) (fun cb => ?_)
    · rw [if_pos cb] at hv9
      refine lv_lconst (v := 0) hx hb d_L_law_650 (by decide) ?_
      refine W.lcmp hx hb d_L_law_651 ?_
      refine lv_if_eq (tgt := 657) hx hb d_L_law_652 (by decide) (fun _ => ?_) (fun c9 => absurd (lcmp0 hv9) c9)
      refine lv_goto (tgt := 1097) hx hb d_L_law_657 (by decide) ?_
      refine W.widen (k := cells + 4) (n := slots + 24) (by omega) (by omega) ?_
      exact kk I F G J P N fl fd H locs ls h.2.2 hw (lv_sub hl [2, 3, 4, 5, 6, 7] rfl)
    · rw [if_neg cb] at hv9
      refine lv_lconst (v := 1) hx hb d_L_law_646 (by decide) ?_
      refine lv_goto (tgt := 651) hx hb d_L_law_647 (by decide) ?_
      refine W.lcmp hx hb d_L_law_651 ?_
      refine lv_if_eq (tgt := 657) hx hb d_L_law_652 (by decide) (fun _ => ?_) (fun c9 => absurd (lcmp0 hv9) c9)
      refine lv_goto (tgt := 1097) hx hb d_L_law_657 (by decide) ?_
      refine W.widen (k := cells + 4) (n := slots + 24) (by omega) (by omega) ?_
      exact kk I F G J P N fl fd H locs ls h.2.2 hw (lv_sub hl [2, 3, 4, 5, 6, 7] rfl)
set_option maxHeartbeats 4000000 in
set_option maxRecDepth 100000 in
theorem lc_faults {p : Program} {l : Launch} {e : Env} {s : State} {m : MethodId} {args : Array Value} {below : List Frame} {meth : Method} {c : Code} {b L : Nat} {xs : Nat → Int32} {D : va_G} {g : gK} {Q : State → Prop} (Sm : MI → MF → MG → MI → MF → MG → Prop) (C0 : lCx p l s m args meth c b L xs D g) {aL aM : Nat → Nat} {I : MI} {F : MF} {G : MG} {J : MI} {P : MF} {N : MG} {ol od : Nat} {fl : Nat → Int64} {fd : Nat → UInt64} {H : Heap} {locs : List Loc} {ls : Array Slot} {j cells slots : Nat} (hj : j + 6 ≤ L) (h : st_faults Sm (if xs (j + 1) = 0 then 0 else 1) (fl 0) I F G J P N)
    (hw : GW D (fun q => s.heap.size ≤ q) s.heap (WX D g aL aM I F G J P N ol od fl fd) H locs) (hl : lv_has ls 9 (lLv b (aL 0) (aM 0) ol od (nI j))) (hcl : cells + 4 ≤ 601024) (hsl : slots + 24 ≤ 7293034)
    (kk : ∀ (I : MI) (F : MF) (G : MG) (J : MI) (P : MF) (N : MG) (fl : Nat → Int64) (fd : Nat → UInt64) (H : Heap) (locs : List Loc) (ls : Array Slot), Sm I F G J P N → GW D (fun q => s.heap.size ≤ q) s.heap (WX D g aL aM I F G J P N ol od fl fd) H locs → lv_has ls 9 (lLv b (aL 0) (aM 0) ol od (nI j)) → W p l e room_1 s m args below meth c H locs (cells + 4) (slots + 24) Q (F0 m 1097 ls [])) :
    W p l e room_1 s m args below meth c H locs cells slots Q (F0 m 660 ls []) := by
  obtain ⟨hx, hb, hml, hown, hts, hK, hN, hz, hsr, hNc, hX, hbl, hst, hL, hr, hlocks⟩ := id C0
  have hA : ∀ q, s.heap.size ≤ q → s.heap.size ≤ q := fun _ h9 => h9
  have hbA : ¬ s.heap.size ≤ b := by omega
  have hKc : va_K D vwCl (cTys (cLo D g aL)) s := hK.sub [0, 1, 2] rfl
  have hKm : va_K D vwCl (mTys (mLo D g aM)) s := hK.sub [0, 1, 3] rfl
  have hKo : va_K D vwCl (oT (cLo D g aL) g.2.2.2.2) s := hK.sub [0, 1, 2, 4] rfl
  skip
  unfold st_faults at h
  refine lv_aload_n hx hb d_L_law_660 rfl (lv_at hl 1 rfl) ?_
  refine la_arg (k := 1) hx hb hX hbl hbA hw.2.2 (lv_at hl 0 rfl) (lv_at hl 5 rfl) (by decide) (by omega) (by omega) d_L_law_661 d_L_law_662 d_L_law_664 d_L_law_665 d_L_law_666 ?_
  refine lv_if_eq (tgt := 674) hx hb d_L_law_667 (by decide) (fun cz => ?_) (fun cz => ?_)
  · simp only [if_pos cz] at h
    refine lv_iconst (v := 0) hx hb d_L_law_674 (by decide) ?_
    refine lv_aload_n hx hb d_L_law_675 rfl (lv_at hl 3 rfl) ?_
    have hwp := hw.perm pm_c
    refine l_fri (w1 := fun u => WOl (cLo D g aL) u.2.1 u.2.2.1 u.2.2.2 g.2.2.2.2 ol u.1) (wr := WM (mLo D g aM) J P N ++ eD g od fd) (fx_run (As := [.ref (aL 0), .int 0, .ref ol]) (rest := []) ⟨hx, hb, hml, hown, hts⟩ (c_L_faults l (cLo D g aL) hst g.2.2.2.2 ol 0 I F G fl H.size _ h) rfl rfl (fx_cwOf 3 hts (gS wG577 wG578 wG47 wG579) (by decide +kernel) ⟨Nat.le_of_ble_eq_true rfl, Nat.le_of_ble_eq_true rfl⟩) (lPre hKo hN hz hsr hNc hA hwp) rfl rfl hl.1 rfl (lv_room (Nat.le_of_ble_eq_true rfl)) d_L_law_676 ⟨by show cells + 1 ≤ 601024; omega, by show slots + 6 ≤ 7293034; omega⟩) hwp hA (fun u t hb9 => hb9) (fun k u H locs h hw => ?_)
    obtain ⟨fl, I, F, G⟩ := u
    clear hwp
    replace hw : GW D (fun q => s.heap.size ≤ q) s.heap (WX D g aL aM I F G J P N ol od fl fd) H locs := hw.perm pm_c.symm
    refine lv_istore (lv' := [(6, .int k), (0, .ref b), (1, .ref (aL 0)), (2, .ref (aM 0)), (3, .ref ol), (4, .ref od), (5, .int (nI j))]) hx hb d_L_law_679 hl (by decide) rfl (fun ls hl => ?_)
    refine lv_aload_n hx hb d_L_law_681 rfl (lv_at hl 3 rfl) ?_
    refine la_arg (k := 1) hx hb hX hbl hbA hw.2.2 (lv_at hl 1 rfl) (lv_at hl 6 rfl) (by decide) (by omega) (by omega) d_L_law_682 d_L_law_683 d_L_law_685 d_L_law_686 d_L_law_687 ?_
    refine lv_if_eq (tgt := 695) hx hb d_L_law_688 (by decide) (fun _ => ?_) (fun c9 => absurd cz c9)
    refine lv_iconst (v := 0) hx hb d_L_law_695 (by decide) ?_
    have hwm := hw.perm pm_b
    refine l_fri (w1 := fun u => WM (mLo D g aM) u.1 u.2.1 u.2.2) (va_runV (As := [.int 0]) (rest := []) ⟨hx, hb, hml, hown, hts⟩ (c_M_faults l (mLo D g aM) 0 J P N H.size _ h) (cwV 1 hts (gV wG909 wG910 wG911 wG54 wG912) rfl rfl rfl (by decide +kernel) ⟨Nat.le_of_ble_eq_true rfl, Nat.le_of_ble_eq_true rfl⟩) (mPrm hKm trivial ⟨fr_left hwm.1, fd_left hwm.2.1, hwm.2.2⟩) rfl rfl hl.1 rfl (lv_room (Nat.le_of_ble_eq_true rfl)) d_L_law_696 ⟨by show cells + 1 + 0 ≤ 601024; omega, by show slots + 6 + 0 ≤ 7293034; omega⟩) hwm hA (fun u t hb9 => ⟨hb9.1, hb9.2.2⟩) (fun b9 u H locs h hw => ?_)
    obtain ⟨J, P, N⟩ := u
    clear hwm
    replace hw : GW D (fun q => s.heap.size ≤ q) s.heap (WX D g aL aM I F G J P N ol od fl fd) H locs := hw.perm pm_b.symm
    refine lv_istore (lv' := [(7, .int b9), (6, .int k), (0, .ref b), (1, .ref (aL 0)), (2, .ref (aM 0)), (3, .ref ol), (4, .ref od), (5, .int (nI j))]) hx hb d_L_law_699 hl (by decide) rfl (fun ls hl => ?_)
    refine lv_aload_n hx hb d_L_law_701 rfl (lv_at hl 4 rfl) ?_
    refine vp_callSi (va_runV (As := []) (rest := []) ⟨hx, hb, hml, hown, hts⟩ (c_M_thrown l (mLo D g aM) J P N _ h) (cwV 0 hts (gV wG782 wG783 wG784 wG54 wG785) rfl rfl rfl (by decide +kernel) ⟨Nat.le_of_ble_eq_true rfl, Nat.le_of_ble_eq_true rfl⟩) (mPre hKm trivial (fr_left (hw.perm pm_b).1)) rfl rfl hl.1 rfl (lv_room (Nat.le_of_ble_eq_true rfl)) d_L_law_702 ⟨by show cells + 1 + 0 + 0 ≤ 601024; omega, by show slots + 6 + 0 + 0 ≤ 7293034; omega⟩).run (fun th h => ?_)
    refine lv_iload hx hb d_L_law_705 (lv_at hl 1 rfl) ?_
    refine lv_icmp_eq (tgt := 712) hx hb d_L_law_707 (by decide) (fun _ => ?_) (fun c9 => absurd h.1 c9)
    refine lv_iload hx hb d_L_law_712 (lv_at hl 1 rfl) ?_
    refine lv_if_ne (tgt := 729) hx hb d_L_law_714 (by decide) (fun _ => ?_) (fun ck => ?_)
    · refine lv_goto (tgt := 1097) hx hb d_L_law_729 (by decide) ?_
      refine W.widen (k := cells + 4) (n := slots + 24) (by omega) (by omega) ?_
      exact kk I F G J P N fl fd H locs ls h.2.2 hw (lv_sub hl [2, 3, 4, 5, 6, 7] rfl)
    · have hv9 := h.2.1 ck
      refine lv_aload_n hx hb d_L_law_717 rfl (lv_at hl 5 rfl) ?_
      refine lv_iconst (v := 0) hx hb d_L_law_718 (by decide) ?_
      refine va_lald hx hb hK hw.1 54 4 rfl rfl (i := 0) (n := 1) (by unfold vp_in; decide) d_L_law_719 ?_
      refine lv_iload hx hb d_L_law_720 (lv_at hl 0 rfl) ?_
      refine lv_i2l hx hb d_L_law_722 rfl ?_
      refine W.lcmp hx hb d_L_law_723 ?_
      refine lv_if_eq (tgt := 729) hx hb d_L_law_724 (by decide) (fun _ => ?_) (fun c9 => absurd (lcmp0 hv9) c9)
      refine lv_goto (tgt := 1097) hx hb d_L_law_729 (by decide) ?_
      refine W.widen (k := cells + 4) (n := slots + 24) (by omega) (by omega) ?_
      exact kk I F G J P N fl fd H locs ls h.2.2 hw (lv_sub hl [2, 3, 4, 5, 6, 7] rfl)
  · simp only [if_neg cz] at h
    refine lv_iconst (v := 1) hx hb d_L_law_670 (by decide) ?_
    refine lv_goto (tgt := 675) hx hb d_L_law_671 (by decide) ?_
    refine lv_aload_n hx hb d_L_law_675 rfl (lv_at hl 3 rfl) ?_
    have hwp := hw.perm pm_c
    refine l_fri (w1 := fun u => WOl (cLo D g aL) u.2.1 u.2.2.1 u.2.2.2 g.2.2.2.2 ol u.1) (wr := WM (mLo D g aM) J P N ++ eD g od fd) (fx_run (As := [.ref (aL 0), .int 1, .ref ol]) (rest := []) ⟨hx, hb, hml, hown, hts⟩ (c_L_faults l (cLo D g aL) hst g.2.2.2.2 ol 1 I F G fl H.size _ h) rfl rfl (fx_cwOf 3 hts (gS wG577 wG578 wG47 wG579) (by decide +kernel) ⟨Nat.le_of_ble_eq_true rfl, Nat.le_of_ble_eq_true rfl⟩) (lPre hKo hN hz hsr hNc hA hwp) rfl rfl hl.1 rfl (lv_room (Nat.le_of_ble_eq_true rfl)) d_L_law_676 ⟨by show cells + 1 ≤ 601024; omega, by show slots + 6 ≤ 7293034; omega⟩) hwp hA (fun u t hb9 => hb9) (fun k u H locs h hw => ?_)
    obtain ⟨fl, I, F, G⟩ := u
    clear hwp
    replace hw : GW D (fun q => s.heap.size ≤ q) s.heap (WX D g aL aM I F G J P N ol od fl fd) H locs := hw.perm pm_c.symm
    refine lv_istore (lv' := [(6, .int k), (0, .ref b), (1, .ref (aL 0)), (2, .ref (aM 0)), (3, .ref ol), (4, .ref od), (5, .int (nI j))]) hx hb d_L_law_679 hl (by decide) rfl (fun ls hl => ?_)
    refine lv_aload_n hx hb d_L_law_681 rfl (lv_at hl 3 rfl) ?_
    refine la_arg (k := 1) hx hb hX hbl hbA hw.2.2 (lv_at hl 1 rfl) (lv_at hl 6 rfl) (by decide) (by omega) (by omega) d_L_law_682 d_L_law_683 d_L_law_685 d_L_law_686 d_L_law_687 ?_
    refine lv_if_eq (tgt := 695) hx hb d_L_law_688 (by decide) (fun c9 => absurd c9 cz) (fun _ => ?_)
    refine lv_iconst (v := 1) hx hb d_L_law_691 (by decide) ?_
    refine lv_goto (tgt := 696) hx hb d_L_law_692 (by decide) ?_
    have hwm := hw.perm pm_b
    refine l_fri (w1 := fun u => WM (mLo D g aM) u.1 u.2.1 u.2.2) (va_runV (As := [.int 1]) (rest := []) ⟨hx, hb, hml, hown, hts⟩ (c_M_faults l (mLo D g aM) 1 J P N H.size _ h) (cwV 1 hts (gV wG909 wG910 wG911 wG54 wG912) rfl rfl rfl (by decide +kernel) ⟨Nat.le_of_ble_eq_true rfl, Nat.le_of_ble_eq_true rfl⟩) (mPrm hKm trivial ⟨fr_left hwm.1, fd_left hwm.2.1, hwm.2.2⟩) rfl rfl hl.1 rfl (lv_room (Nat.le_of_ble_eq_true rfl)) d_L_law_696 ⟨by show cells + 1 + 0 ≤ 601024; omega, by show slots + 6 + 0 ≤ 7293034; omega⟩) hwm hA (fun u t hb9 => ⟨hb9.1, hb9.2.2⟩) (fun b9 u H locs h hw => ?_)
    obtain ⟨J, P, N⟩ := u
    clear hwm
    replace hw : GW D (fun q => s.heap.size ≤ q) s.heap (WX D g aL aM I F G J P N ol od fl fd) H locs := hw.perm pm_b.symm
    refine lv_istore (lv' := [(7, .int b9), (6, .int k), (0, .ref b), (1, .ref (aL 0)), (2, .ref (aM 0)), (3, .ref ol), (4, .ref od), (5, .int (nI j))]) hx hb d_L_law_699 hl (by decide) rfl (fun ls hl => ?_)
    refine lv_aload_n hx hb d_L_law_701 rfl (lv_at hl 4 rfl) ?_
    refine vp_callSi (va_runV (As := []) (rest := []) ⟨hx, hb, hml, hown, hts⟩ (c_M_thrown l (mLo D g aM) J P N _ h) (cwV 0 hts (gV wG782 wG783 wG784 wG54 wG785) rfl rfl rfl (by decide +kernel) ⟨Nat.le_of_ble_eq_true rfl, Nat.le_of_ble_eq_true rfl⟩) (mPre hKm trivial (fr_left (hw.perm pm_b).1)) rfl rfl hl.1 rfl (lv_room (Nat.le_of_ble_eq_true rfl)) d_L_law_702 ⟨by show cells + 1 + 0 + 0 ≤ 601024; omega, by show slots + 6 + 0 + 0 ≤ 7293034; omega⟩).run (fun th h => ?_)
    refine lv_iload hx hb d_L_law_705 (lv_at hl 1 rfl) ?_
    refine lv_icmp_eq (tgt := 712) hx hb d_L_law_707 (by decide) (fun _ => ?_) (fun c9 => absurd h.1 c9)
    refine lv_iload hx hb d_L_law_712 (lv_at hl 1 rfl) ?_
    refine lv_if_ne (tgt := 729) hx hb d_L_law_714 (by decide) (fun _ => ?_) (fun ck => ?_)
    · refine lv_goto (tgt := 1097) hx hb d_L_law_729 (by decide) ?_
      refine W.widen (k := cells + 4) (n := slots + 24) (by omega) (by omega) ?_
      exact kk I F G J P N fl fd H locs ls h.2.2 hw (lv_sub hl [2, 3, 4, 5, 6, 7] rfl)
    · have hv9 := h.2.1 ck
      refine lv_aload_n hx hb d_L_law_717 rfl (lv_at hl 5 rfl) ?_
      refine lv_iconst (v := 0) hx hb d_L_law_718 (by decide) ?_
      refine va_lald hx hb hK hw.1 54 4 rfl rfl (i := 0) (n := 1) (by unfold vp_in; decide) d_L_law_719 ?_
      refine lv_iload hx hb d_L_law_720 (lv_at hl 0 rfl) ?_
      refine lv_i2l hx hb d_L_law_722 rfl ?_
      refine W.lcmp hx hb d_L_law_723 ?_
      refine lv_if_eq (tgt := 729) hx hb d_L_law_724 (by decide) (fun _ => ?_) (fun c9 => absurd (lcmp0 hv9) c9)
      refine lv_goto (tgt := 1097) hx hb d_L_law_729 (by decide) ?_
      refine W.widen (k := cells + 4) (n := slots + 24) (by omega) (by omega) ?_
      exact kk I F G J P N fl fd H locs ls h.2.2 hw (lv_sub hl [2, 3, 4, 5, 6, 7] rfl)
set_option maxHeartbeats 4000000 in
set_option maxRecDepth 100000 in
theorem lc_time {p : Program} {l : Launch} {e : Env} {s : State} {m : MethodId} {args : Array Value} {below : List Frame} {meth : Method} {c : Code} {b L : Nat} {xs : Nat → Int32} {D : va_G} {g : gK} {Q : State → Prop} (Sm : MI → MF → MG → MI → MF → MG → Prop) (C0 : lCx p l s m args meth c b L xs D g) {aL aM : Nat → Nat} {I : MI} {F : MF} {G : MG} {J : MI} {P : MF} {N : MG} {ol od : Nat} {fl : Nat → Int64} {fd : Nat → UInt64} {H : Heap} {locs : List Loc} {ls : Array Slot} {j cells slots : Nat} (hj : j + 6 ≤ L) (h : st_time Sm (xs (j + 1)) (FP.dmul (FP.i2d (xs (j + 2))) 4593671619917905920) (fd 0) I F G J P N) (hn9 : vf_n64 (FP.dmul (FP.i2d (xs (j + 2))) 4593671619917905920))
    (hw : GW D (fun q => s.heap.size ≤ q) s.heap (WX D g aL aM I F G J P N ol od fl fd) H locs) (hl : lv_has ls 9 (lLv b (aL 0) (aM 0) ol od (nI j))) (hcl : cells + 4 ≤ 601024) (hsl : slots + 24 ≤ 7293034)
    (kk : ∀ (I : MI) (F : MF) (G : MG) (J : MI) (P : MF) (N : MG) (fl : Nat → Int64) (fd : Nat → UInt64) (H : Heap) (locs : List Loc) (ls : Array Slot), Sm I F G J P N → GW D (fun q => s.heap.size ≤ q) s.heap (WX D g aL aM I F G J P N ol od fl fd) H locs → lv_has ls 9 (lLv b (aL 0) (aM 0) ol od (nI j)) → W p l e room_1 s m args below meth c H locs (cells + 4) (slots + 24) Q (F0 m 1097 ls [])) :
    W p l e room_1 s m args below meth c H locs cells slots Q (F0 m 732 ls []) := by
  obtain ⟨hx, hb, hml, hown, hts, hK, hN, hz, hsr, hNc, hX, hbl, hst, hL, hr, hlocks⟩ := id C0
  have hA : ∀ q, s.heap.size ≤ q → s.heap.size ≤ q := fun _ h9 => h9
  have hbA : ¬ s.heap.size ≤ b := by omega
  have hKc : va_K D vwCl (cTys (cLo D g aL)) s := hK.sub [0, 1, 2] rfl
  have hKm : va_K D vwCl (mTys (mLo D g aM)) s := hK.sub [0, 1, 3] rfl
  have hKo : va_K D vwCl (oT (cLo D g aL) g.2.2.2.2) s := hK.sub [0, 1, 2, 4] rfl
  skip
  unfold st_time at h
  refine lv_aload_n hx hb d_L_law_732 rfl (lv_at hl 1 rfl) ?_
  refine la_arg (k := 1) hx hb hX hbl hbA hw.2.2 (lv_at hl 0 rfl) (lv_at hl 5 rfl) (by decide) (by omega) (by omega) d_L_law_733 d_L_law_734 d_L_law_736 d_L_law_737 d_L_law_738 ?_
  refine la_arg (k := 2) hx hb hX hbl hbA hw.2.2 (lv_at hl 0 rfl) (lv_at hl 5 rfl) (by decide) (by omega) (by omega) d_L_law_739 d_L_law_740 d_L_law_742 d_L_law_743 d_L_law_744 ?_
  refine lv_i2d hx hb d_L_law_745 ?_
  refine lv_ldc2d (v := 4593671619917905920) hx hb hown (hts _ wG956) d_L_law_746 ?_
  refine lv_dmul hx hb d_L_law_749 hn9 ?_
  refine lv_aload hx hb d_L_law_750 (lv_at hl 4 rfl) ?_
  have hwp := hw.perm pm_d
  refine l_fri (w1 := fun u => WOd (cLo D g aL) u.2.1 u.2.2.1 u.2.2.2 g.2.2.2.2 od u.1) (wr := WM (mLo D g aM) J P N ++ eL g ol fl) (fx_run (As := [.ref (aL 0), .int (xs (j + 1)), .double (FP.dmul (FP.i2d (xs (j + 2))) 4593671619917905920), .ref od]) (rest := []) ⟨hx, hb, hml, hown, hts⟩ (c_L_time l (cLo D g aL) hst g.2.2.2.2 od (xs (j + 1)) (FP.dmul (FP.i2d (xs (j + 2))) 4593671619917905920) I F G fd H.size _ h) rfl rfl (fx_cwOf 4 hts (gS wG620 wG621 wG47 wG622) (by decide +kernel) ⟨Nat.le_of_ble_eq_true rfl, Nat.le_of_ble_eq_true rfl⟩) (lPre hKo hN hz hsr hNc hA hwp) rfl rfl hl.1 rfl (lv_room (Nat.le_of_ble_eq_true rfl)) d_L_law_752 ⟨by show cells + 1 ≤ 601024; omega, by show slots + 6 ≤ 7293034; omega⟩) hwp hA (fun u t hb9 => hb9) (fun k u H locs h hw => ?_)
  obtain ⟨fd, I, F, G⟩ := u
  clear hwp
  replace hw : GW D (fun q => s.heap.size ≤ q) s.heap (WX D g aL aM I F G J P N ol od fl fd) H locs := hw.perm pm_d.symm
  refine lv_istore (lv' := [(6, .int k), (0, .ref b), (1, .ref (aL 0)), (2, .ref (aM 0)), (3, .ref ol), (4, .ref od), (5, .int (nI j))]) hx hb d_L_law_755 hl (by decide) rfl (fun ls hl => ?_)
  refine lv_aload_n hx hb d_L_law_757 rfl (lv_at hl 3 rfl) ?_
  refine la_arg (k := 1) hx hb hX hbl hbA hw.2.2 (lv_at hl 1 rfl) (lv_at hl 6 rfl) (by decide) (by omega) (by omega) d_L_law_758 d_L_law_759 d_L_law_761 d_L_law_762 d_L_law_763 ?_
  refine la_arg (k := 2) hx hb hX hbl hbA hw.2.2 (lv_at hl 1 rfl) (lv_at hl 6 rfl) (by decide) (by omega) (by omega) d_L_law_764 d_L_law_765 d_L_law_767 d_L_law_768 d_L_law_769 ?_
  refine lv_i2d hx hb d_L_law_770 ?_
  refine lv_ldc2d (v := 4593671619917905920) hx hb hown (hts _ wG956) d_L_law_771 ?_
  refine lv_dmul hx hb d_L_law_774 hn9 ?_
  have hwm := hw.perm pm_b
  refine l_frd (w1 := fun u => WM (mLo D g aM) u.1 u.2.1 u.2.2) (va_runV (As := [.int (xs (j + 1)), .double (FP.dmul (FP.i2d (xs (j + 2))) 4593671619917905920)]) (rest := []) ⟨hx, hb, hml, hown, hts⟩ (c_M_time l (mLo D g aM) (xs (j + 1)) (FP.dmul (FP.i2d (xs (j + 2))) 4593671619917905920) J P N H.size _ h) (cwV 2 hts (gV wG925 wG926 wG927 wG54 wG928) rfl rfl rfl (by decide +kernel) ⟨Nat.le_of_ble_eq_true rfl, Nat.le_of_ble_eq_true rfl⟩) (mPrm hKm trivial ⟨fr_left hwm.1, fd_left hwm.2.1, hwm.2.2⟩) rfl rfl hl.1 rfl (lv_room (Nat.le_of_ble_eq_true rfl)) d_L_law_775 ⟨by show cells + 1 + 0 ≤ 601024; omega, by show slots + 6 + 0 ≤ 7293034; omega⟩) hwm hA (fun u t hb9 => ⟨hb9.1, hb9.2.2⟩) (fun b9 u H locs h hw => ?_)
  obtain ⟨J, P, N⟩ := u
  clear hwm
  replace hw : GW D (fun q => s.heap.size ≤ q) s.heap (WX D g aL aM I F G J P N ol od fl fd) H locs := hw.perm pm_b.symm
  refine lv_dstore (lv' := [(7, .double b9), (6, .int k), (0, .ref b), (1, .ref (aL 0)), (2, .ref (aM 0)), (3, .ref ol), (4, .ref od), (5, .int (nI j))]) hx hb d_L_law_778 hl (by decide) rfl (fun ls hl => ?_)
  refine lv_aload_n hx hb d_L_law_780 rfl (lv_at hl 4 rfl) ?_
  refine vp_callSi (va_runV (As := []) (rest := []) ⟨hx, hb, hml, hown, hts⟩ (c_M_thrown l (mLo D g aM) J P N _ h) (cwV 0 hts (gV wG782 wG783 wG784 wG54 wG785) rfl rfl rfl (by decide +kernel) ⟨Nat.le_of_ble_eq_true rfl, Nat.le_of_ble_eq_true rfl⟩) (mPre hKm trivial (fr_left (hw.perm pm_b).1)) rfl rfl hl.1 rfl (lv_room (Nat.le_of_ble_eq_true rfl)) d_L_law_781 ⟨by show cells + 1 + 0 + 0 ≤ 601024; omega, by show slots + 6 + 0 + 0 ≤ 7293034; omega⟩).run (fun th h => ?_)
  refine lv_iload hx hb d_L_law_784 (lv_at hl 1 rfl) ?_
  refine lv_icmp_eq (tgt := 791) hx hb d_L_law_786 (by decide) (fun _ => ?_) (fun c9 => absurd h.1 c9)
  refine lv_iload hx hb d_L_law_791 (lv_at hl 1 rfl) ?_
  refine lv_if_ne (tgt := 828) hx hb d_L_law_793 (by decide) (fun _ => ?_) (fun ck => ?_)
  · refine lv_goto (tgt := 1097) hx hb d_L_law_828 (by decide) ?_
    refine W.widen (k := cells + 4) (n := slots + 24) (by omega) (by omega) ?_
    exact kk I F G J P N fl fd H locs ls h.2.2 hw (lv_sub hl [2, 3, 4, 5, 6, 7] rfl)
  · have hv9 := h.2.1 ck
    refine lv_aload hx hb d_L_law_796 (lv_at hl 6 rfl) ?_
    refine lv_iconst (v := 0) hx hb d_L_law_798 (by decide) ?_
    refine va_dald hx hb hK hw.1 55 1 rfl rfl (i := 0) (n := 1) (by unfold vp_in; decide) d_L_law_799 ?_
    refine lv_dload hx hb d_L_law_800 (lv_at hl 0 rfl) ?_
    refine lv_dcmp hx hb d_L_law_802 ?_
    refine lv_if_eq (tgt := 828) hx hb d_L_law_803 (by decide) (fun _ => ?_) (fun cd => ?_)
    · refine lv_goto (tgt := 1097) hx hb d_L_law_828 (by decide) ?_
      refine W.widen (k := cells + 4) (n := slots + 24) (by omega) (by omega) ?_
      exact kk I F G J P N fl fd H locs ls h.2.2 hw (lv_sub hl [2, 3, 4, 5, 6, 7] rfl)
    · have hv8 : fd (0 : Int32).toNatClampNeg = b9 := hv9
      rw [← hv8] at cd
      refine lv_aload hx hb d_L_law_806 (lv_at hl 6 rfl) ?_
      refine lv_iconst (v := 0) hx hb d_L_law_808 (by decide) ?_
      refine va_dald hx hb hK hw.1 55 1 rfl rfl (i := 0) (n := 1) (by unfold vp_in; decide) d_L_law_809 ?_
      refine lv_aload hx hb d_L_law_810 (lv_at hl 6 rfl) ?_
      refine lv_iconst (v := 0) hx hb d_L_law_812 (by decide) ?_
      refine va_dald hx hb hK hw.1 55 1 rfl rfl (i := 0) (n := 1) (by unfold vp_in; decide) d_L_law_813 ?_
      refine lv_dcmp hx hb d_L_law_814 ?_
      refine lv_if_eq (tgt := 826) hx hb d_L_law_815 (by decide) (fun c9 => absurd c9 cd) (fun _ => ?_)
      refine lv_dload hx hb d_L_law_818 (lv_at hl 0 rfl) ?_
      refine lv_dload hx hb d_L_law_820 (lv_at hl 0 rfl) ?_
      refine lv_dcmp hx hb d_L_law_822 ?_
      rw [hv8] at cd
      refine lv_if_ne (tgt := 828) hx hb d_L_law_823 (by decide) (fun _ => ?_) (fun c9 => absurd c9 cd)
      refine lv_goto (tgt := 1097) hx hb d_L_law_828 (by decide) ?_
      refine W.widen (k := cells + 4) (n := slots + 24) (by omega) (by omega) ?_
      exact kk I F G J P N fl fd H locs ls h.2.2 hw (lv_sub hl [2, 3, 4, 5, 6, 7] rfl)
set_option maxHeartbeats 4000000 in
set_option maxRecDepth 100000 in
theorem lc_delay {p : Program} {l : Launch} {e : Env} {s : State} {m : MethodId} {args : Array Value} {below : List Frame} {meth : Method} {c : Code} {b L : Nat} {xs : Nat → Int32} {D : va_G} {g : gK} {Q : State → Prop} (Sm : MI → MF → MG → MI → MF → MG → Prop) (C0 : lCx p l s m args meth c b L xs D g) {aL aM : Nat → Nat} {I : MI} {F : MF} {G : MG} {J : MI} {P : MF} {N : MG} {ol od : Nat} {fl : Nat → Int64} {fd : Nat → UInt64} {H : Heap} {locs : List Loc} {ls : Array Slot} {j cells slots : Nat} (hj : j + 6 ≤ L) (h : st_delay Sm (xs (j + 1)) (fd 0) I F G J P N)
    (hw : GW D (fun q => s.heap.size ≤ q) s.heap (WX D g aL aM I F G J P N ol od fl fd) H locs) (hl : lv_has ls 9 (lLv b (aL 0) (aM 0) ol od (nI j))) (hcl : cells + 4 ≤ 601024) (hsl : slots + 24 ≤ 7293034)
    (kk : ∀ (I : MI) (F : MF) (G : MG) (J : MI) (P : MF) (N : MG) (fl : Nat → Int64) (fd : Nat → UInt64) (H : Heap) (locs : List Loc) (ls : Array Slot), Sm I F G J P N → GW D (fun q => s.heap.size ≤ q) s.heap (WX D g aL aM I F G J P N ol od fl fd) H locs → lv_has ls 9 (lLv b (aL 0) (aM 0) ol od (nI j)) → W p l e room_1 s m args below meth c H locs (cells + 4) (slots + 24) Q (F0 m 1097 ls [])) :
    W p l e room_1 s m args below meth c H locs cells slots Q (F0 m 831 ls []) := by
  obtain ⟨hx, hb, hml, hown, hts, hK, hN, hz, hsr, hNc, hX, hbl, hst, hL, hr, hlocks⟩ := id C0
  have hA : ∀ q, s.heap.size ≤ q → s.heap.size ≤ q := fun _ h9 => h9
  have hbA : ¬ s.heap.size ≤ b := by omega
  have hKc : va_K D vwCl (cTys (cLo D g aL)) s := hK.sub [0, 1, 2] rfl
  have hKm : va_K D vwCl (mTys (mLo D g aM)) s := hK.sub [0, 1, 3] rfl
  have hKo : va_K D vwCl (oT (cLo D g aL) g.2.2.2.2) s := hK.sub [0, 1, 2, 4] rfl
  skip
  unfold st_delay at h
  refine lv_aload_n hx hb d_L_law_831 rfl (lv_at hl 1 rfl) ?_
  refine la_arg (k := 1) hx hb hX hbl hbA hw.2.2 (lv_at hl 0 rfl) (lv_at hl 5 rfl) (by decide) (by omega) (by omega) d_L_law_832 d_L_law_833 d_L_law_835 d_L_law_836 d_L_law_837 ?_
  refine lv_aload hx hb d_L_law_838 (lv_at hl 4 rfl) ?_
  have hwp := hw.perm pm_d
  refine l_fri (w1 := fun u => WOd (cLo D g aL) u.2.1 u.2.2.1 u.2.2.2 g.2.2.2.2 od u.1) (wr := WM (mLo D g aM) J P N ++ eL g ol fl) (fx_run (As := [.ref (aL 0), .int (xs (j + 1)), .ref od]) (rest := []) ⟨hx, hb, hml, hown, hts⟩ (c_L_delay l (cLo D g aL) hst g.2.2.2.2 od (xs (j + 1)) I F G fd H.size _ h) rfl rfl (fx_cwOf 3 hts (gS wG629 wG630 wG47 wG631) (by decide +kernel) ⟨Nat.le_of_ble_eq_true rfl, Nat.le_of_ble_eq_true rfl⟩) (lPre hKo hN hz hsr hNc hA hwp) rfl rfl hl.1 rfl (lv_room (Nat.le_of_ble_eq_true rfl)) d_L_law_840 ⟨by show cells + 2 ≤ 601024; omega, by show slots + 12 ≤ 7293034; omega⟩) hwp hA (fun u t hb9 => hb9) (fun k u H locs h hw => ?_)
  obtain ⟨fd, I, F, G⟩ := u
  clear hwp
  replace hw : GW D (fun q => s.heap.size ≤ q) s.heap (WX D g aL aM I F G J P N ol od fl fd) H locs := hw.perm pm_d.symm
  refine lv_istore (lv' := [(6, .int k), (0, .ref b), (1, .ref (aL 0)), (2, .ref (aM 0)), (3, .ref ol), (4, .ref od), (5, .int (nI j))]) hx hb d_L_law_843 hl (by decide) rfl (fun ls hl => ?_)
  refine lv_aload_n hx hb d_L_law_845 rfl (lv_at hl 3 rfl) ?_
  refine la_arg (k := 1) hx hb hX hbl hbA hw.2.2 (lv_at hl 1 rfl) (lv_at hl 6 rfl) (by decide) (by omega) (by omega) d_L_law_846 d_L_law_847 d_L_law_849 d_L_law_850 d_L_law_851 ?_
  have hwm := hw.perm pm_b
  refine l_frd (w1 := fun u => WM (mLo D g aM) u.1 u.2.1 u.2.2) (va_runV (As := [.int (xs (j + 1))]) (rest := []) ⟨hx, hb, hml, hown, hts⟩ (c_M_delay l (mLo D g aM) (xs (j + 1)) J P N H.size _ h) (cwV 1 hts (gV wG930 wG931 wG932 wG54 wG933) rfl rfl rfl (by decide +kernel) ⟨Nat.le_of_ble_eq_true rfl, Nat.le_of_ble_eq_true rfl⟩) (mPrm hKm trivial ⟨fr_left hwm.1, fd_left hwm.2.1, hwm.2.2⟩) rfl rfl hl.1 rfl (lv_room (Nat.le_of_ble_eq_true rfl)) d_L_law_852 ⟨by show cells + 2 + 0 ≤ 601024; omega, by show slots + 12 + 0 ≤ 7293034; omega⟩) hwm hA (fun u t hb9 => ⟨hb9.1, hb9.2.2⟩) (fun b9 u H locs h hw => ?_)
  obtain ⟨J, P, N⟩ := u
  clear hwm
  replace hw : GW D (fun q => s.heap.size ≤ q) s.heap (WX D g aL aM I F G J P N ol od fl fd) H locs := hw.perm pm_b.symm
  refine lv_dstore (lv' := [(7, .double b9), (6, .int k), (0, .ref b), (1, .ref (aL 0)), (2, .ref (aM 0)), (3, .ref ol), (4, .ref od), (5, .int (nI j))]) hx hb d_L_law_855 hl (by decide) rfl (fun ls hl => ?_)
  refine lv_aload_n hx hb d_L_law_857 rfl (lv_at hl 4 rfl) ?_
  refine vp_callSi (va_runV (As := []) (rest := []) ⟨hx, hb, hml, hown, hts⟩ (c_M_thrown l (mLo D g aM) J P N _ h) (cwV 0 hts (gV wG782 wG783 wG784 wG54 wG785) rfl rfl rfl (by decide +kernel) ⟨Nat.le_of_ble_eq_true rfl, Nat.le_of_ble_eq_true rfl⟩) (mPre hKm trivial (fr_left (hw.perm pm_b).1)) rfl rfl hl.1 rfl (lv_room (Nat.le_of_ble_eq_true rfl)) d_L_law_858 ⟨by show cells + 2 + 0 + 0 ≤ 601024; omega, by show slots + 12 + 0 + 0 ≤ 7293034; omega⟩).run (fun th h => ?_)
  refine lv_iload hx hb d_L_law_861 (lv_at hl 1 rfl) ?_
  refine lv_icmp_eq (tgt := 868) hx hb d_L_law_863 (by decide) (fun _ => ?_) (fun c9 => absurd h.1 c9)
  refine lv_iload hx hb d_L_law_868 (lv_at hl 1 rfl) ?_
  refine lv_if_ne (tgt := 905) hx hb d_L_law_870 (by decide) (fun _ => ?_) (fun ck => ?_)
  · refine lv_goto (tgt := 1097) hx hb d_L_law_905 (by decide) ?_
    refine W.widen (k := cells + 4) (n := slots + 24) (by omega) (by omega) ?_
    exact kk I F G J P N fl fd H locs ls h.2.2 hw (lv_sub hl [2, 3, 4, 5, 6, 7] rfl)
  · have hv9 := h.2.1 ck
    refine lv_aload hx hb d_L_law_873 (lv_at hl 6 rfl) ?_
    refine lv_iconst (v := 0) hx hb d_L_law_875 (by decide) ?_
    refine va_dald hx hb hK hw.1 55 1 rfl rfl (i := 0) (n := 1) (by unfold vp_in; decide) d_L_law_876 ?_
    refine lv_dload hx hb d_L_law_877 (lv_at hl 0 rfl) ?_
    refine lv_dcmp hx hb d_L_law_879 ?_
    refine lv_if_eq (tgt := 905) hx hb d_L_law_880 (by decide) (fun _ => ?_) (fun cd => ?_)
    · refine lv_goto (tgt := 1097) hx hb d_L_law_905 (by decide) ?_
      refine W.widen (k := cells + 4) (n := slots + 24) (by omega) (by omega) ?_
      exact kk I F G J P N fl fd H locs ls h.2.2 hw (lv_sub hl [2, 3, 4, 5, 6, 7] rfl)
    · have hv8 : fd (0 : Int32).toNatClampNeg = b9 := hv9
      rw [← hv8] at cd
      refine lv_aload hx hb d_L_law_883 (lv_at hl 6 rfl) ?_
      refine lv_iconst (v := 0) hx hb d_L_law_885 (by decide) ?_
      refine va_dald hx hb hK hw.1 55 1 rfl rfl (i := 0) (n := 1) (by unfold vp_in; decide) d_L_law_886 ?_
      refine lv_aload hx hb d_L_law_887 (lv_at hl 6 rfl) ?_
      refine lv_iconst (v := 0) hx hb d_L_law_889 (by decide) ?_
      refine va_dald hx hb hK hw.1 55 1 rfl rfl (i := 0) (n := 1) (by unfold vp_in; decide) d_L_law_890 ?_
      refine lv_dcmp hx hb d_L_law_891 ?_
      refine lv_if_eq (tgt := 903) hx hb d_L_law_892 (by decide) (fun c9 => absurd c9 cd) (fun _ => ?_)
      refine lv_dload hx hb d_L_law_895 (lv_at hl 0 rfl) ?_
      refine lv_dload hx hb d_L_law_897 (lv_at hl 0 rfl) ?_
      refine lv_dcmp hx hb d_L_law_899 ?_
      rw [hv8] at cd
      refine lv_if_ne (tgt := 905) hx hb d_L_law_900 (by decide) (fun _ => ?_) (fun c9 => absurd c9 cd)
      refine lv_goto (tgt := 1097) hx hb d_L_law_905 (by decide) ?_
      refine W.widen (k := cells + 4) (n := slots + 24) (by omega) (by omega) ?_
      exact kk I F G J P N fl fd H locs ls h.2.2 hw (lv_sub hl [2, 3, 4, 5, 6, 7] rfl)
set_option maxHeartbeats 4000000 in
set_option maxRecDepth 100000 in
theorem lc_arrival {p : Program} {l : Launch} {e : Env} {s : State} {m : MethodId} {args : Array Value} {below : List Frame} {meth : Method} {c : Code} {b L : Nat} {xs : Nat → Int32} {D : va_G} {g : gK} {Q : State → Prop} (Sm : MI → MF → MG → MI → MF → MG → Prop) (C0 : lCx p l s m args meth c b L xs D g) {aL aM : Nat → Nat} {I : MI} {F : MF} {G : MG} {J : MI} {P : MF} {N : MG} {ol od : Nat} {fl : Nat → Int64} {fd : Nat → UInt64} {H : Heap} {locs : List Loc} {ls : Array Slot} {j cells slots : Nat} (hj : j + 6 ≤ L) (h : st_arrival Sm (xs (j + 1)) (fd 0) I F G J P N)
    (hw : GW D (fun q => s.heap.size ≤ q) s.heap (WX D g aL aM I F G J P N ol od fl fd) H locs) (hl : lv_has ls 9 (lLv b (aL 0) (aM 0) ol od (nI j))) (hcl : cells + 4 ≤ 601024) (hsl : slots + 24 ≤ 7293034)
    (kk : ∀ (I : MI) (F : MF) (G : MG) (J : MI) (P : MF) (N : MG) (fl : Nat → Int64) (fd : Nat → UInt64) (H : Heap) (locs : List Loc) (ls : Array Slot), Sm I F G J P N → GW D (fun q => s.heap.size ≤ q) s.heap (WX D g aL aM I F G J P N ol od fl fd) H locs → lv_has ls 9 (lLv b (aL 0) (aM 0) ol od (nI j)) → W p l e room_1 s m args below meth c H locs (cells + 4) (slots + 24) Q (F0 m 1097 ls [])) :
    W p l e room_1 s m args below meth c H locs cells slots Q (F0 m 908 ls []) := by
  obtain ⟨hx, hb, hml, hown, hts, hK, hN, hz, hsr, hNc, hX, hbl, hst, hL, hr, hlocks⟩ := id C0
  have hA : ∀ q, s.heap.size ≤ q → s.heap.size ≤ q := fun _ h9 => h9
  have hbA : ¬ s.heap.size ≤ b := by omega
  have hKc : va_K D vwCl (cTys (cLo D g aL)) s := hK.sub [0, 1, 2] rfl
  have hKm : va_K D vwCl (mTys (mLo D g aM)) s := hK.sub [0, 1, 3] rfl
  have hKo : va_K D vwCl (oT (cLo D g aL) g.2.2.2.2) s := hK.sub [0, 1, 2, 4] rfl
  skip
  unfold st_arrival at h
  refine lv_aload_n hx hb d_L_law_908 rfl (lv_at hl 1 rfl) ?_
  refine la_arg (k := 1) hx hb hX hbl hbA hw.2.2 (lv_at hl 0 rfl) (lv_at hl 5 rfl) (by decide) (by omega) (by omega) d_L_law_909 d_L_law_910 d_L_law_912 d_L_law_913 d_L_law_914 ?_
  refine lv_aload hx hb d_L_law_915 (lv_at hl 4 rfl) ?_
  have hwp := hw.perm pm_d
  refine l_fri (w1 := fun u => WOd (cLo D g aL) u.2.1 u.2.2.1 u.2.2.2 g.2.2.2.2 od u.1) (wr := WM (mLo D g aM) J P N ++ eL g ol fl) (fx_run (As := [.ref (aL 0), .int (xs (j + 1)), .ref od]) (rest := []) ⟨hx, hb, hml, hown, hts⟩ (c_L_arrival l (cLo D g aL) hst g.2.2.2.2 od (xs (j + 1)) I F G fd H.size _ h) rfl rfl (fx_cwOf 3 hts (gS wG644 wG645 wG47 wG646) (by decide +kernel) ⟨Nat.le_of_ble_eq_true rfl, Nat.le_of_ble_eq_true rfl⟩) (lPre hKo hN hz hsr hNc hA hwp) rfl rfl hl.1 rfl (lv_room (Nat.le_of_ble_eq_true rfl)) d_L_law_917 ⟨by show cells + 3 ≤ 601024; omega, by show slots + 18 ≤ 7293034; omega⟩) hwp hA (fun u t hb9 => hb9) (fun k u H locs h hw => ?_)
  obtain ⟨fd, I, F, G⟩ := u
  clear hwp
  replace hw : GW D (fun q => s.heap.size ≤ q) s.heap (WX D g aL aM I F G J P N ol od fl fd) H locs := hw.perm pm_d.symm
  refine lv_istore (lv' := [(6, .int k), (0, .ref b), (1, .ref (aL 0)), (2, .ref (aM 0)), (3, .ref ol), (4, .ref od), (5, .int (nI j))]) hx hb d_L_law_920 hl (by decide) rfl (fun ls hl => ?_)
  refine lv_aload_n hx hb d_L_law_922 rfl (lv_at hl 3 rfl) ?_
  refine la_arg (k := 1) hx hb hX hbl hbA hw.2.2 (lv_at hl 1 rfl) (lv_at hl 6 rfl) (by decide) (by omega) (by omega) d_L_law_923 d_L_law_924 d_L_law_926 d_L_law_927 d_L_law_928 ?_
  have hwm := hw.perm pm_b
  refine l_frd (w1 := fun u => WM (mLo D g aM) u.1 u.2.1 u.2.2) (va_runV (As := [.int (xs (j + 1))]) (rest := []) ⟨hx, hb, hml, hown, hts⟩ (c_M_arrival l (mLo D g aM) (xs (j + 1)) J P N H.size _ h) (cwV 1 hts (gV wG940 wG941 wG942 wG54 wG943) rfl rfl rfl (by decide +kernel) ⟨Nat.le_of_ble_eq_true rfl, Nat.le_of_ble_eq_true rfl⟩) (mPrm hKm trivial ⟨fr_left hwm.1, fd_left hwm.2.1, hwm.2.2⟩) rfl rfl hl.1 rfl (lv_room (Nat.le_of_ble_eq_true rfl)) d_L_law_929 ⟨by show cells + 3 + 0 ≤ 601024; omega, by show slots + 18 + 0 ≤ 7293034; omega⟩) hwm hA (fun u t hb9 => ⟨hb9.1, hb9.2.2⟩) (fun b9 u H locs h hw => ?_)
  obtain ⟨J, P, N⟩ := u
  clear hwm
  replace hw : GW D (fun q => s.heap.size ≤ q) s.heap (WX D g aL aM I F G J P N ol od fl fd) H locs := hw.perm pm_b.symm
  refine lv_dstore (lv' := [(7, .double b9), (6, .int k), (0, .ref b), (1, .ref (aL 0)), (2, .ref (aM 0)), (3, .ref ol), (4, .ref od), (5, .int (nI j))]) hx hb d_L_law_932 hl (by decide) rfl (fun ls hl => ?_)
  refine lv_aload_n hx hb d_L_law_934 rfl (lv_at hl 4 rfl) ?_
  refine vp_callSi (va_runV (As := []) (rest := []) ⟨hx, hb, hml, hown, hts⟩ (c_M_thrown l (mLo D g aM) J P N _ h) (cwV 0 hts (gV wG782 wG783 wG784 wG54 wG785) rfl rfl rfl (by decide +kernel) ⟨Nat.le_of_ble_eq_true rfl, Nat.le_of_ble_eq_true rfl⟩) (mPre hKm trivial (fr_left (hw.perm pm_b).1)) rfl rfl hl.1 rfl (lv_room (Nat.le_of_ble_eq_true rfl)) d_L_law_935 ⟨by show cells + 3 + 0 + 0 ≤ 601024; omega, by show slots + 18 + 0 + 0 ≤ 7293034; omega⟩).run (fun th h => ?_)
  refine lv_iload hx hb d_L_law_938 (lv_at hl 1 rfl) ?_
  refine lv_icmp_eq (tgt := 945) hx hb d_L_law_940 (by decide) (fun _ => ?_) (fun c9 => absurd h.1 c9)
  refine lv_iload hx hb d_L_law_945 (lv_at hl 1 rfl) ?_
  refine lv_if_ne (tgt := 982) hx hb d_L_law_947 (by decide) (fun _ => ?_) (fun ck => ?_)
  · refine lv_goto (tgt := 1097) hx hb d_L_law_982 (by decide) ?_
    refine W.widen (k := cells + 4) (n := slots + 24) (by omega) (by omega) ?_
    exact kk I F G J P N fl fd H locs ls h.2.2 hw (lv_sub hl [2, 3, 4, 5, 6, 7] rfl)
  · have hv9 := h.2.1 ck
    refine lv_aload hx hb d_L_law_950 (lv_at hl 6 rfl) ?_
    refine lv_iconst (v := 0) hx hb d_L_law_952 (by decide) ?_
    refine va_dald hx hb hK hw.1 55 1 rfl rfl (i := 0) (n := 1) (by unfold vp_in; decide) d_L_law_953 ?_
    refine lv_dload hx hb d_L_law_954 (lv_at hl 0 rfl) ?_
    refine lv_dcmp hx hb d_L_law_956 ?_
    refine lv_if_eq (tgt := 982) hx hb d_L_law_957 (by decide) (fun _ => ?_) (fun cd => ?_)
    · refine lv_goto (tgt := 1097) hx hb d_L_law_982 (by decide) ?_
      refine W.widen (k := cells + 4) (n := slots + 24) (by omega) (by omega) ?_
      exact kk I F G J P N fl fd H locs ls h.2.2 hw (lv_sub hl [2, 3, 4, 5, 6, 7] rfl)
    · have hv8 : fd (0 : Int32).toNatClampNeg = b9 := hv9
      rw [← hv8] at cd
      refine lv_aload hx hb d_L_law_960 (lv_at hl 6 rfl) ?_
      refine lv_iconst (v := 0) hx hb d_L_law_962 (by decide) ?_
      refine va_dald hx hb hK hw.1 55 1 rfl rfl (i := 0) (n := 1) (by unfold vp_in; decide) d_L_law_963 ?_
      refine lv_aload hx hb d_L_law_964 (lv_at hl 6 rfl) ?_
      refine lv_iconst (v := 0) hx hb d_L_law_966 (by decide) ?_
      refine va_dald hx hb hK hw.1 55 1 rfl rfl (i := 0) (n := 1) (by unfold vp_in; decide) d_L_law_967 ?_
      refine lv_dcmp hx hb d_L_law_968 ?_
      refine lv_if_eq (tgt := 980) hx hb d_L_law_969 (by decide) (fun c9 => absurd c9 cd) (fun _ => ?_)
      refine lv_dload hx hb d_L_law_972 (lv_at hl 0 rfl) ?_
      refine lv_dload hx hb d_L_law_974 (lv_at hl 0 rfl) ?_
      refine lv_dcmp hx hb d_L_law_976 ?_
      rw [hv8] at cd
      refine lv_if_ne (tgt := 982) hx hb d_L_law_977 (by decide) (fun _ => ?_) (fun c9 => absurd c9 cd)
      refine lv_goto (tgt := 1097) hx hb d_L_law_982 (by decide) ?_
      refine W.widen (k := cells + 4) (n := slots + 24) (by omega) (by omega) ?_
      exact kk I F G J P N fl fd H locs ls h.2.2 hw (lv_sub hl [2, 3, 4, 5, 6, 7] rfl)
set_option maxHeartbeats 4000000 in
set_option maxRecDepth 100000 in
theorem lc_simulate {p : Program} {l : Launch} {e : Env} {s : State} {m : MethodId} {args : Array Value} {below : List Frame} {meth : Method} {c : Code} {b L : Nat} {xs : Nat → Int32} {D : va_G} {g : gK} {Q : State → Prop} (Sm : MI → MF → MG → MI → MF → MG → Prop) (C0 : lCx p l s m args meth c b L xs D g) {aL aM : Nat → Nat} {I : MI} {F : MF} {G : MG} {J : MI} {P : MF} {N : MG} {ol od : Nat} {fl : Nat → Int64} {fd : Nat → UInt64} {H : Heap} {locs : List Loc} {ls : Array Slot} {j cells slots : Nat} (hj : j + 6 ≤ L) (h : st_simulate Sm (xs (j + 1)) (fl 0) I F G J P N)
    (hw : GW D (fun q => s.heap.size ≤ q) s.heap (WX D g aL aM I F G J P N ol od fl fd) H locs) (hl : lv_has ls 9 (lLv b (aL 0) (aM 0) ol od (nI j))) (hcl : cells + 4 ≤ 601024) (hsl : slots + 24 ≤ 7293034)
    (kk : ∀ (I : MI) (F : MF) (G : MG) (J : MI) (P : MF) (N : MG) (fl : Nat → Int64) (fd : Nat → UInt64) (H : Heap) (locs : List Loc) (ls : Array Slot), Sm I F G J P N → GW D (fun q => s.heap.size ≤ q) s.heap (WX D g aL aM I F G J P N ol od fl fd) H locs → lv_has ls 9 (lLv b (aL 0) (aM 0) ol od (nI j)) → W p l e room_1 s m args below meth c H locs (cells + 4) (slots + 24) Q (F0 m 1097 ls [])) :
    W p l e room_1 s m args below meth c H locs cells slots Q (F0 m 985 ls []) := by
  obtain ⟨hx, hb, hml, hown, hts, hK, hN, hz, hsr, hNc, hX, hbl, hst, hL, hr, hlocks⟩ := id C0
  have hA : ∀ q, s.heap.size ≤ q → s.heap.size ≤ q := fun _ h9 => h9
  have hbA : ¬ s.heap.size ≤ b := by omega
  have hKc : va_K D vwCl (cTys (cLo D g aL)) s := hK.sub [0, 1, 2] rfl
  have hKm : va_K D vwCl (mTys (mLo D g aM)) s := hK.sub [0, 1, 3] rfl
  have hKo : va_K D vwCl (oT (cLo D g aL) g.2.2.2.2) s := hK.sub [0, 1, 2, 4] rfl
  skip
  unfold st_simulate at h
  refine lv_aload_n hx hb d_L_law_985 rfl (lv_at hl 1 rfl) ?_
  refine la_arg (k := 1) hx hb hX hbl hbA hw.2.2 (lv_at hl 0 rfl) (lv_at hl 5 rfl) (by decide) (by omega) (by omega) d_L_law_986 d_L_law_987 d_L_law_989 d_L_law_990 d_L_law_991 ?_
  refine lv_aload_n hx hb d_L_law_992 rfl (lv_at hl 3 rfl) ?_
  have hwp := hw.perm pm_c
  refine l_fri (w1 := fun u => WOl (cLo D g aL) u.2.1 u.2.2.1 u.2.2.2 g.2.2.2.2 ol u.1) (wr := WM (mLo D g aM) J P N ++ eD g od fd) (fx_run (As := [.ref (aL 0), .int (xs (j + 1)), .ref ol]) (rest := []) ⟨hx, hb, hml, hown, hts⟩ (c_L_simulate l (cLo D g aL) hst g.2.2.2.2 ol (xs (j + 1)) I F G fl H.size _ h) rfl rfl (fx_cwOf 3 hts (gS wG694 wG695 wG47 wG696) (by decide +kernel) ⟨Nat.le_of_ble_eq_true rfl, Nat.le_of_ble_eq_true rfl⟩) (lPre hKo hN hz hsr hNc hA hwp) rfl rfl hl.1 rfl (lv_room (Nat.le_of_ble_eq_true rfl)) d_L_law_993 ⟨by show cells + 1 ≤ 601024; omega, by show slots + 6 ≤ 7293034; omega⟩) hwp hA (fun u t hb9 => hb9) (fun k u H locs h hw => ?_)
  obtain ⟨fl, I, F, G⟩ := u
  clear hwp
  replace hw : GW D (fun q => s.heap.size ≤ q) s.heap (WX D g aL aM I F G J P N ol od fl fd) H locs := hw.perm pm_c.symm
  refine lv_istore (lv' := [(6, .int k), (0, .ref b), (1, .ref (aL 0)), (2, .ref (aM 0)), (3, .ref ol), (4, .ref od), (5, .int (nI j))]) hx hb d_L_law_996 hl (by decide) rfl (fun ls hl => ?_)
  refine lv_aload_n hx hb d_L_law_998 rfl (lv_at hl 3 rfl) ?_
  refine la_arg (k := 1) hx hb hX hbl hbA hw.2.2 (lv_at hl 1 rfl) (lv_at hl 6 rfl) (by decide) (by omega) (by omega) d_L_law_999 d_L_law_1000 d_L_law_1002 d_L_law_1003 d_L_law_1004 ?_
  have hwm := hw.perm pm_b
  refine l_fri (w1 := fun u => WM (mLo D g aM) u.1 u.2.1 u.2.2) (va_runV (As := [.int (xs (j + 1))]) (rest := []) ⟨hx, hb, hml, hown, hts⟩ (c_M_simulate l (mLo D g aM) (xs (j + 1)) J P N H.size _ h) (cwV 1 hts (gV wG948 wG949 wG950 wG54 wG951) rfl rfl rfl (by decide +kernel) ⟨Nat.le_of_ble_eq_true rfl, Nat.le_of_ble_eq_true rfl⟩) (mPrm hKm trivial ⟨fr_left hwm.1, fd_left hwm.2.1, hwm.2.2⟩) rfl rfl hl.1 rfl (lv_room (Nat.le_of_ble_eq_true rfl)) d_L_law_1005 ⟨by show cells + 1 + 0 ≤ 601024; omega, by show slots + 6 + 0 ≤ 7293034; omega⟩) hwm hA (fun u t hb9 => ⟨hb9.1, hb9.2.2⟩) (fun b9 u H locs h hw => ?_)
  obtain ⟨J, P, N⟩ := u
  clear hwm
  replace hw : GW D (fun q => s.heap.size ≤ q) s.heap (WX D g aL aM I F G J P N ol od fl fd) H locs := hw.perm pm_b.symm
  refine lv_istore (lv' := [(7, .int b9), (6, .int k), (0, .ref b), (1, .ref (aL 0)), (2, .ref (aM 0)), (3, .ref ol), (4, .ref od), (5, .int (nI j))]) hx hb d_L_law_1008 hl (by decide) rfl (fun ls hl => ?_)
  refine lv_aload_n hx hb d_L_law_1010 rfl (lv_at hl 4 rfl) ?_
  refine vp_callSi (va_runV (As := []) (rest := []) ⟨hx, hb, hml, hown, hts⟩ (c_M_thrown l (mLo D g aM) J P N _ h) (cwV 0 hts (gV wG782 wG783 wG784 wG54 wG785) rfl rfl rfl (by decide +kernel) ⟨Nat.le_of_ble_eq_true rfl, Nat.le_of_ble_eq_true rfl⟩) (mPre hKm trivial (fr_left (hw.perm pm_b).1)) rfl rfl hl.1 rfl (lv_room (Nat.le_of_ble_eq_true rfl)) d_L_law_1011 ⟨by show cells + 1 + 0 + 0 ≤ 601024; omega, by show slots + 6 + 0 + 0 ≤ 7293034; omega⟩).run (fun th h => ?_)
  refine lv_iload hx hb d_L_law_1014 (lv_at hl 1 rfl) ?_
  refine lv_icmp_eq (tgt := 1021) hx hb d_L_law_1016 (by decide) (fun _ => ?_) (fun c9 => absurd h.1 c9)
  refine lv_iload hx hb d_L_law_1021 (lv_at hl 1 rfl) ?_
  refine lv_if_ne (tgt := 1038) hx hb d_L_law_1023 (by decide) (fun _ => ?_) (fun ck => ?_)
  · refine lv_goto (tgt := 1097) hx hb d_L_law_1038 (by decide) ?_
    refine W.widen (k := cells + 4) (n := slots + 24) (by omega) (by omega) ?_
    exact kk I F G J P N fl fd H locs ls h.2.2 hw (lv_sub hl [2, 3, 4, 5, 6, 7] rfl)
  · have hv9 := h.2.1 ck
    refine lv_aload_n hx hb d_L_law_1026 rfl (lv_at hl 5 rfl) ?_
    refine lv_iconst (v := 0) hx hb d_L_law_1027 (by decide) ?_
    refine va_lald hx hb hK hw.1 54 4 rfl rfl (i := 0) (n := 1) (by unfold vp_in; decide) d_L_law_1028 ?_
    refine lv_iload hx hb d_L_law_1029 (lv_at hl 0 rfl) ?_
    refine lv_i2l hx hb d_L_law_1031 rfl ?_
    refine W.lcmp hx hb d_L_law_1032 ?_
    refine lv_if_eq (tgt := 1038) hx hb d_L_law_1033 (by decide) (fun _ => ?_) (fun c9 => absurd (lcmp0 hv9) c9)
    refine lv_goto (tgt := 1097) hx hb d_L_law_1038 (by decide) ?_
    refine W.widen (k := cells + 4) (n := slots + 24) (by omega) (by omega) ?_
    exact kk I F G J P N fl fd H locs ls h.2.2 hw (lv_sub hl [2, 3, 4, 5, 6, 7] rfl)
set_option maxHeartbeats 4000000 in
set_option maxRecDepth 100000 in
theorem lc_count {p : Program} {l : Launch} {e : Env} {s : State} {m : MethodId} {args : Array Value} {below : List Frame} {meth : Method} {c : Code} {b L : Nat} {xs : Nat → Int32} {D : va_G} {g : gK} {Q : State → Prop} (Sm : MI → MF → MG → MI → MF → MG → Prop) (C0 : lCx p l s m args meth c b L xs D g) {aL aM : Nat → Nat} {I : MI} {F : MF} {G : MG} {J : MI} {P : MF} {N : MG} {ol od : Nat} {fl : Nat → Int64} {fd : Nat → UInt64} {H : Heap} {locs : List Loc} {ls : Array Slot} {j cells slots : Nat} (hj : j + 6 ≤ L) (h : st_count Sm (xs (j + 1)) (fl 0) I F G J P N)
    (hw : GW D (fun q => s.heap.size ≤ q) s.heap (WX D g aL aM I F G J P N ol od fl fd) H locs) (hl : lv_has ls 9 (lLv b (aL 0) (aM 0) ol od (nI j))) (hcl : cells + 4 ≤ 601024) (hsl : slots + 24 ≤ 7293034)
    (kk : ∀ (I : MI) (F : MF) (G : MG) (J : MI) (P : MF) (N : MG) (fl : Nat → Int64) (fd : Nat → UInt64) (H : Heap) (locs : List Loc) (ls : Array Slot), Sm I F G J P N → GW D (fun q => s.heap.size ≤ q) s.heap (WX D g aL aM I F G J P N ol od fl fd) H locs → lv_has ls 9 (lLv b (aL 0) (aM 0) ol od (nI j)) → W p l e room_1 s m args below meth c H locs (cells + 4) (slots + 24) Q (F0 m 1097 ls [])) :
    W p l e room_1 s m args below meth c H locs cells slots Q (F0 m 1041 ls []) := by
  obtain ⟨hx, hb, hml, hown, hts, hK, hN, hz, hsr, hNc, hX, hbl, hst, hL, hr, hlocks⟩ := id C0
  have hA : ∀ q, s.heap.size ≤ q → s.heap.size ≤ q := fun _ h9 => h9
  have hbA : ¬ s.heap.size ≤ b := by omega
  have hKc : va_K D vwCl (cTys (cLo D g aL)) s := hK.sub [0, 1, 2] rfl
  have hKm : va_K D vwCl (mTys (mLo D g aM)) s := hK.sub [0, 1, 3] rfl
  have hKo : va_K D vwCl (oT (cLo D g aL) g.2.2.2.2) s := hK.sub [0, 1, 2, 4] rfl
  skip
  unfold st_count at h
  refine lv_aload_n hx hb d_L_law_1041 rfl (lv_at hl 1 rfl) ?_
  refine la_arg (k := 1) hx hb hX hbl hbA hw.2.2 (lv_at hl 0 rfl) (lv_at hl 5 rfl) (by decide) (by omega) (by omega) d_L_law_1042 d_L_law_1043 d_L_law_1045 d_L_law_1046 d_L_law_1047 ?_
  refine lv_aload_n hx hb d_L_law_1048 rfl (lv_at hl 3 rfl) ?_
  have hwp := hw.perm pm_c
  refine l_fri (w1 := fun u => WOl (cLo D g aL) u.2.1 u.2.2.1 u.2.2.2 g.2.2.2.2 ol u.1) (wr := WM (mLo D g aM) J P N ++ eD g od fd) (fx_run (As := [.ref (aL 0), .int (xs (j + 1)), .ref ol]) (rest := []) ⟨hx, hb, hml, hown, hts⟩ (c_L_count l (cLo D g aL) hst g.2.2.2.2 ol (xs (j + 1)) I F G fl H.size _ h) rfl rfl (fx_cwOf 3 hts (gS wG713 wG714 wG47 wG715) (by decide +kernel) ⟨Nat.le_of_ble_eq_true rfl, Nat.le_of_ble_eq_true rfl⟩) (lPre hKo hN hz hsr hNc hA hwp) rfl rfl hl.1 rfl (lv_room (Nat.le_of_ble_eq_true rfl)) d_L_law_1049 ⟨by show cells + 1 ≤ 601024; omega, by show slots + 6 ≤ 7293034; omega⟩) hwp hA (fun u t hb9 => hb9) (fun k u H locs h hw => ?_)
  obtain ⟨fl, I, F, G⟩ := u
  clear hwp
  replace hw : GW D (fun q => s.heap.size ≤ q) s.heap (WX D g aL aM I F G J P N ol od fl fd) H locs := hw.perm pm_c.symm
  refine lv_istore (lv' := [(6, .int k), (0, .ref b), (1, .ref (aL 0)), (2, .ref (aM 0)), (3, .ref ol), (4, .ref od), (5, .int (nI j))]) hx hb d_L_law_1052 hl (by decide) rfl (fun ls hl => ?_)
  refine lv_aload_n hx hb d_L_law_1054 rfl (lv_at hl 3 rfl) ?_
  refine la_arg (k := 1) hx hb hX hbl hbA hw.2.2 (lv_at hl 1 rfl) (lv_at hl 6 rfl) (by decide) (by omega) (by omega) d_L_law_1055 d_L_law_1056 d_L_law_1058 d_L_law_1059 d_L_law_1060 ?_
  have hwm := hw.perm pm_b
  refine l_fri (w1 := fun u => WM (mLo D g aM) u.1 u.2.1 u.2.2) (va_runV (As := [.int (xs (j + 1))]) (rest := []) ⟨hx, hb, hml, hown, hts⟩ (c_M_count l (mLo D g aM) (xs (j + 1)) J P N H.size _ h) (cwV 1 hts (gV wG952 wG953 wG954 wG54 wG955) rfl rfl rfl (by decide +kernel) ⟨Nat.le_of_ble_eq_true rfl, Nat.le_of_ble_eq_true rfl⟩) (mPrm hKm trivial ⟨fr_left hwm.1, fd_left hwm.2.1, hwm.2.2⟩) rfl rfl hl.1 rfl (lv_room (Nat.le_of_ble_eq_true rfl)) d_L_law_1061 ⟨by show cells + 1 + 0 ≤ 601024; omega, by show slots + 6 + 0 ≤ 7293034; omega⟩) hwm hA (fun u t hb9 => ⟨hb9.1, hb9.2.2⟩) (fun b9 u H locs h hw => ?_)
  obtain ⟨J, P, N⟩ := u
  clear hwm
  replace hw : GW D (fun q => s.heap.size ≤ q) s.heap (WX D g aL aM I F G J P N ol od fl fd) H locs := hw.perm pm_b.symm
  refine lv_istore (lv' := [(7, .int b9), (6, .int k), (0, .ref b), (1, .ref (aL 0)), (2, .ref (aM 0)), (3, .ref ol), (4, .ref od), (5, .int (nI j))]) hx hb d_L_law_1064 hl (by decide) rfl (fun ls hl => ?_)
  refine lv_aload_n hx hb d_L_law_1066 rfl (lv_at hl 4 rfl) ?_
  refine vp_callSi (va_runV (As := []) (rest := []) ⟨hx, hb, hml, hown, hts⟩ (c_M_thrown l (mLo D g aM) J P N _ h) (cwV 0 hts (gV wG782 wG783 wG784 wG54 wG785) rfl rfl rfl (by decide +kernel) ⟨Nat.le_of_ble_eq_true rfl, Nat.le_of_ble_eq_true rfl⟩) (mPre hKm trivial (fr_left (hw.perm pm_b).1)) rfl rfl hl.1 rfl (lv_room (Nat.le_of_ble_eq_true rfl)) d_L_law_1067 ⟨by show cells + 1 + 0 + 0 ≤ 601024; omega, by show slots + 6 + 0 + 0 ≤ 7293034; omega⟩).run (fun th h => ?_)
  refine lv_iload hx hb d_L_law_1070 (lv_at hl 1 rfl) ?_
  refine lv_icmp_eq (tgt := 1077) hx hb d_L_law_1072 (by decide) (fun _ => ?_) (fun c9 => absurd h.1 c9)
  refine lv_iload hx hb d_L_law_1077 (lv_at hl 1 rfl) ?_
  refine lv_if_ne (tgt := 1094) hx hb d_L_law_1079 (by decide) (fun _ => ?_) (fun ck => ?_)
  · refine lv_goto (tgt := 1097) hx hb d_L_law_1094 (by decide) ?_
    refine W.widen (k := cells + 4) (n := slots + 24) (by omega) (by omega) ?_
    exact kk I F G J P N fl fd H locs ls h.2.2 hw (lv_sub hl [2, 3, 4, 5, 6, 7] rfl)
  · have hv9 := h.2.1 ck
    refine lv_aload_n hx hb d_L_law_1082 rfl (lv_at hl 5 rfl) ?_
    refine lv_iconst (v := 0) hx hb d_L_law_1083 (by decide) ?_
    refine va_lald hx hb hK hw.1 54 4 rfl rfl (i := 0) (n := 1) (by unfold vp_in; decide) d_L_law_1084 ?_
    refine lv_iload hx hb d_L_law_1085 (lv_at hl 0 rfl) ?_
    refine lv_i2l hx hb d_L_law_1087 rfl ?_
    refine W.lcmp hx hb d_L_law_1088 ?_
    refine lv_if_eq (tgt := 1094) hx hb d_L_law_1089 (by decide) (fun _ => ?_) (fun c9 => absurd (lcmp0 hv9) c9)
    refine lv_goto (tgt := 1097) hx hb d_L_law_1094 (by decide) ?_
    refine W.widen (k := cells + 4) (n := slots + 24) (by omega) (by omega) ?_
    exact kk I F G J P N fl fd H locs ls h.2.2 hw (lv_sub hl [2, 3, 4, 5, 6, 7] rfl)
