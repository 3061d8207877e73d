/-! the constructors -/
def gOv (U : State) : Prop := (Cond.arrayOver (.array .int)).before #[] U = true
theorem gOv_vm {A A' : Array Value} {u U : State} (hv : u.vm = U.vm) (h : (Cond.arrayOver (.array .int)).before A u = true) : (Cond.arrayOver (.array .int)).before A' U = true := by
  simp only [Cond.before, Cond.holds, Cond.value] at h ⊢
  rw [← hv]
  exact h
theorem gOv.warm {s U : State} (hW : s.WarmedH U.vm) (h : gOv s) : gOv U := gOv_vm (rfl : (s.setVm U.vm).vm = U.vm) (A := #[]) (by rw [Cond.arrayOver_setVmC hW.alike]; exact h)
theorem gOv.same {s U : State} (hv : s.vm = U.vm) (h : gOv s) : gOv U := gOv_vm hv h
theorem gOv.use {A : Array Value} {s : State} (h : gOv s) : (Cond.arrayOver (.array .int)).before A s = true := gOv_vm rfl h
def iPc (D : va_G) (g : gK) (ws : va_W) (sz : Nat) (av : List Value) : Array Value → State → Prop := va_Pc av (fun U => U.heap.size = sz ∧ va_P D vwCl ws U.heap ∧ va_K D vwCl (gTys g) U ∧ va_D (fun _ => True) ws ∧ cNk U ∧ gOv U)
theorem iPc_blind (D : va_G) (g : gK) (ws : va_W) (sz : Nat) (av : List Value) : FrameBlind (iPc D g ws sz av) := fun a U f mk h => ⟨h.1, h.2.1, h.2.2.1, va_K.moved (u := U) (U := U.calling f mk a) (Vm.Alike.refl U.vm) h.2.2.2.1, h.2.2.2.2.1, cNk.same rfl h.2.2.2.2.2.1, gOv.same (s := U) (U := U.calling f mk a) rfl h.2.2.2.2.2.2⟩
def zI : MI := fun _ => 0
def zF : MF := fun _ _ => 0
def zG : MG := fun _ _ => 0
/-- the netlist's addresses -/
def aNet (q q1 q2 q3 q4 q5 q6 q7 q8 q9 q10 q11 q12 : Nat) : Nat → Nat := fun j => match j with
  | 1 => q | 5 => q8 | 6 => q9 | 10 => q1 | 11 => q2 | 12 => q3 | 13 => q4 | 14 => q5 | 15 => q6 | 16 => q7 | 17 => q10 | 18 => q11 | 19 => q12 | 25 => q8 + 1 + 0 | 26 => q8 + 1 + 1 | 27 => q9 + 1 + 0 | 28 => q9 + 1 + 1 | _ => 0
def aMod (q q1 q2 q3 q4 q5 q6 q7 q8 q9 q10 q11 q12 q13 : Nat) : Nat → Nat := fun j => match j with
  | 0 => q | 1 => q1 | 2 => q2 | 3 => q3 | 4 => q4 | 5 => q5 | 6 => q6 | 7 => q7 | 8 => q8 | 9 => q9 | 10 => q10 | 11 => q11 | 12 => q12 | 13 => q13 | _ => 0
def onesG : MG := fun k => if k = 0 then vf_upd (vf_upd (vf_upd (vf_upd (fun _ => 0) (0 : Int32).toNatClampNeg FP.dconst1) (1 : Int32).toNatClampNeg FP.dconst1) (2 : Int32).toNatClampNeg FP.dconst1) (3 : Int32).toNatClampNeg FP.dconst1 else fun _ => 0
def mI0 : MI := fun k => if k = 2 then (-1) else 0
def mF0 : MF := fun k => if k = 6 then upd (upd (fun _ => 0) (0 : Int32).toNatClampNeg 1) (1 : Int32).toNatClampNeg 1 else fun _ => 0
/-- the class's addresses, memory out of the netlist's -/
def aAll (aN : Nat → Nat) (q q2 q3 q4 pD lD eD gD t0 tS aS oS : Nat) : Nat → Nat := fun j => if j < 29 then (match j with
  | 0 => q | 2 => q2 | 3 => q3 | 4 => q4 | 7 => pD | 8 => tS | 9 => aS | 20 => t0 | 21 => lD | 22 => eD | 23 => gD | 24 => oS | j => aN j) else pD + 1 + (j - 29)
def fI (I : MI) : MI := fun k => if k = 1 then I 1 else 0
def fF (F : MF) : MF := fun k => if nOk k then F k else fun _ => 0
abbrev rm_N_init : Room := { frames := 2, cells := 16, slots := 186, locals := 44 }
set_option maxHeartbeats 8000000 in
set_option maxRecDepth 100000 in
theorem c_N_init (l : Launch) (D : va_G) (g : gK) (q sz : Nat) (post : MI → MF → MG → Prop) (h : wp_N_removeAll zI zF zG post) : Met l y_N_init (.code y_N_init b_N_init 1 none :: lwG) rm_N_init (iPc D g [(q, .inr (1, [.int 0, .null, .null, .null, .null, .null, .null, .null, .null, .null, .null, .null, .null]))] sz [.ref q]) (va_Qv (fun (u : (Nat → Nat) × cM) => u.1 1 = q ∧ post u.2.1 u.2.2.1 u.2.2.2) (fun (u : (Nat → Nat) × cM) t => va_P D vwCl (WN (D, g.1, g.2.1, g.2.2.1, u.1) u.2.1 u.2.2.1 u.2.2.2) t.heap ∧ va_D (va_A [(q, .inr (1, [.int 0, .null, .null, .null, .null, .null, .null, .null, .null, .null, .null, .null, .null]))] sz) (WN (D, g.1, g.2.1, g.2.2.1, u.1) u.2.1 u.2.2.1 u.2.2.2)) (va_A [(q, .inr (1, [.int 0, .null, .null, .null, .null, .null, .null, .null, .null, .null, .null, .null, .null]))] sz)) 16 186 (va_A [(q, .inr (1, [.int 0, .null, .null, .null, .null, .null, .null, .null, .null, .null, .null, .null, .null]))] sz) := by
  refine Met.ofW (cc := b_N_init) (maxL := 1) (ret := none) (by decide) rfl ?_
  intro p e s m args below meth c s₁ B hml hv
  obtain ⟨rfl, hsz, hP, hK, hD0, hN, hV⟩ := hv
  have xc : xC p s m _ meth c b_N_init 1 lwG qR1 none := ⟨B.exec, B.bytes, hml, findClass_of_methodNamed B.named, fun w h => atoms_spec (ws := (.code y_N_init b_N_init 1 none :: lwG)) B.pre w (List.mem_cons_of_mem _ h), B.returns, B.notSynchronized⟩
  have hin2 : meth.name = "<init>" := (name_of_methodNamed B.named B.method).1
  obtain ⟨hx, hb, hml, hown, hts, hr, hlocks⟩ := id xc
  subst hsz
  have hD : va_D (va_A [(q, .inr (1, [.int 0, .null, .null, .null, .null, .null, .null, .null, .null, .null, .null, .null, .null]))] s.heap.size) [(q, .inr (1, [.int 0, .null, .null, .null, .null, .null, .null, .null, .null, .null, .null, .null, .null]))] := hD0.self
  have hA0 : ∀ q9 : Nat, s.heap.size ≤ q9 → va_A [(q, .inr (1, [.int 0, .null, .null, .null, .null, .null, .null, .null, .null, .null, .null, .null, .null]))] s.heap.size q9 := fun q9 h9 => Or.inr h9
  generalize va_A [(q, .inr (1, [.int 0, .null, .null, .null, .null, .null, .null, .null, .null, .null, .null, .null, .null]))] s.heap.size = A at hD hA0 ⊢
  have hA := hA0
  have hw : GW D A s.heap [(q, .inr (1, [.int 0, .null, .null, .null, .null, .null, .null, .null, .null, .null, .null, .null, .null]))] s.heap [] := ⟨hP, hD, va_S.rf⟩
  have hl := lv_entry ([.ref q]) (n := 1) (Nat.le_of_ble_eq_true rfl)
  rw [lg_entry_eq]
  generalize (lg_sl ([.ref q]) ++ List.replicate (1 - (lg_sl ([.ref q])).length) Slot.unset).toArray = ls at hl ⊢
  have hl : lv_has ls 1 [(0, .ref q)] := hl
  generalize hloc : ([] : List Loc) = locs at hw ⊢
  clear hloc
  refine lv_aload_n hx hb d_N_init_0 rfl (lv_at hl 0 rfl) ?_
  refine W.objInit (g := F0 m 1 ls [.ref q]) hx hb hown (hts _ wG78) (hts _ wG71) (hts _ wG72) rfl (hl.1.trans hml.symm) rfl d_N_init_1 (Nat.le_of_ble_eq_true rfl) (Nat.le_of_ble_eq_true rfl) ?_
  show W _ _ _ _ _ _ _ _ _ _ _ _ _ _ _ (F0 m 4 ls [])
  refine lv_aload_n hx hb d_N_init_4 rfl (lv_at hl 0 rfl) ?_
  refine lv_bipush (v := 12) hx hb d_N_init_5 (by decide) ?_
  refine g_newi (k := 12) hx hb (hts _ wG138) hK hw hA (by decide) (by decide) (Nat.le_of_ble_eq_true rfl) (Nat.le_of_ble_eq_true rfl) (Nat.le_of_ble_eq_true rfl) d_N_init_7 (fun q1 H hw => ?_)
  replace hw : GW D A s.heap ([(q, .inr (1, [.int 0, .null, .null, .null, .null, .null, .null, .null, .null, .null, .null, .null, .null])), (q1, .inl (g.1, 12, .inl (fun _ => 0)))]) H locs := hw
  refine va_putF (ty := (.array .int)) (D := D) (ci := 1) (v := .ref q1) (C := qR1) (T := qT1) (N := 13) hx hb hts qi1 qy1 qk1 qn1 hown hK hw.1 hw.2.1 hw.2.2 0 rfl rfl 1 (by decide) (hts _ wG91) (fun _ h9 => h9) rfl hin2 rfl (by decide +kernel) rfl rfl (Nat.le_of_ble_eq_true rfl) d_N_init_9 (fun H locs h1 h2 h3 => ?_)
  replace hw : GW D A s.heap ([(q, .inr (1, [.int 0, .ref q1, .null, .null, .null, .null, .null, .null, .null, .null, .null, .null, .null])), (q1, .inl (g.1, 12, .inl (fun _ => 0)))]) H locs := ⟨h1, h2, h3⟩
  clear h1 h2 h3
  refine lv_aload_n hx hb d_N_init_12 rfl (lv_at hl 0 rfl) ?_
  refine lv_bipush (v := 12) hx hb d_N_init_13 (by decide) ?_
  refine g_newi (k := 12) hx hb (hts _ wG138) hK hw hA (by decide) (by decide) (Nat.le_of_ble_eq_true rfl) (Nat.le_of_ble_eq_true rfl) (Nat.le_of_ble_eq_true rfl) d_N_init_15 (fun q2 H hw => ?_)
  replace hw : GW D A s.heap ([(q, .inr (1, [.int 0, .ref q1, .null, .null, .null, .null, .null, .null, .null, .null, .null, .null, .null])), (q1, .inl (g.1, 12, .inl (fun _ => 0))), (q2, .inl (g.1, 12, .inl (fun _ => 0)))]) H locs := hw
  refine va_putF (ty := (.array .int)) (D := D) (ci := 1) (v := .ref q2) (C := qR1) (T := qT1) (N := 13) hx hb hts qi1 qy1 qk1 qn1 hown hK hw.1 hw.2.1 hw.2.2 0 rfl rfl 2 (by decide) (hts _ wG93) (fun _ h9 => h9) rfl hin2 rfl (by decide +kernel) rfl rfl (Nat.le_of_ble_eq_true rfl) d_N_init_17 (fun H locs h1 h2 h3 => ?_)
  replace hw : GW D A s.heap ([(q, .inr (1, [.int 0, .ref q1, .ref q2, .null, .null, .null, .null, .null, .null, .null, .null, .null, .null])), (q1, .inl (g.1, 12, .inl (fun _ => 0))), (q2, .inl (g.1, 12, .inl (fun _ => 0)))]) H locs := ⟨h1, h2, h3⟩
  clear h1 h2 h3
  refine lv_aload_n hx hb d_N_init_20 rfl (lv_at hl 0 rfl) ?_
  refine lv_bipush (v := 12) hx hb d_N_init_21 (by decide) ?_
  refine g_newi (k := 12) hx hb (hts _ wG138) hK hw hA (by decide) (by decide) (Nat.le_of_ble_eq_true rfl) (Nat.le_of_ble_eq_true rfl) (Nat.le_of_ble_eq_true rfl) d_N_init_23 (fun q3 H hw => ?_)
  replace hw : GW D A s.heap ([(q, .inr (1, [.int 0, .ref q1, .ref q2, .null, .null, .null, .null, .null, .null, .null, .null, .null, .null])), (q1, .inl (g.1, 12, .inl (fun _ => 0))), (q2, .inl (g.1, 12, .inl (fun _ => 0))), (q3, .inl (g.1, 12, .inl (fun _ => 0)))]) H locs := hw
  refine va_putF (ty := (.array .int)) (D := D) (ci := 1) (v := .ref q3) (C := qR1) (T := qT1) (N := 13) hx hb hts qi1 qy1 qk1 qn1 hown hK hw.1 hw.2.1 hw.2.2 0 rfl rfl 3 (by decide) (hts _ wG95) (fun _ h9 => h9) rfl hin2 rfl (by decide +kernel) rfl rfl (Nat.le_of_ble_eq_true rfl) d_N_init_25 (fun H locs h1 h2 h3 => ?_)
  replace hw : GW D A s.heap ([(q, .inr (1, [.int 0, .ref q1, .ref q2, .ref q3, .null, .null, .null, .null, .null, .null, .null, .null, .null])), (q1, .inl (g.1, 12, .inl (fun _ => 0))), (q2, .inl (g.1, 12, .inl (fun _ => 0))), (q3, .inl (g.1, 12, .inl (fun _ => 0)))]) H locs := ⟨h1, h2, h3⟩
  clear h1 h2 h3
  refine lv_aload_n hx hb d_N_init_28 rfl (lv_at hl 0 rfl) ?_
  refine lv_bipush (v := 12) hx hb d_N_init_29 (by decide) ?_
  refine g_newi (k := 12) hx hb (hts _ wG138) hK hw hA (by decide) (by decide) (Nat.le_of_ble_eq_true rfl) (Nat.le_of_ble_eq_true rfl) (Nat.le_of_ble_eq_true rfl) d_N_init_31 (fun q4 H hw => ?_)
  replace hw : GW D A s.heap ([(q, .inr (1, [.int 0, .ref q1, .ref q2, .ref q3, .null, .null, .null, .null, .null, .null, .null, .null, .null])), (q1, .inl (g.1, 12, .inl (fun _ => 0))), (q2, .inl (g.1, 12, .inl (fun _ => 0))), (q3, .inl (g.1, 12, .inl (fun _ => 0))), (q4, .inl (g.1, 12, .inl (fun _ => 0)))]) H locs := hw
  refine va_putF (ty := (.array .int)) (D := D) (ci := 1) (v := .ref q4) (C := qR1) (T := qT1) (N := 13) hx hb hts qi1 qy1 qk1 qn1 hown hK hw.1 hw.2.1 hw.2.2 0 rfl rfl 4 (by decide) (hts _ wG97) (fun _ h9 => h9) rfl hin2 rfl (by decide +kernel) rfl rfl (Nat.le_of_ble_eq_true rfl) d_N_init_33 (fun H locs h1 h2 h3 => ?_)
  replace hw : GW D A s.heap ([(q, .inr (1, [.int 0, .ref q1, .ref q2, .ref q3, .ref q4, .null, .null, .null, .null, .null, .null, .null, .null])), (q1, .inl (g.1, 12, .inl (fun _ => 0))), (q2, .inl (g.1, 12, .inl (fun _ => 0))), (q3, .inl (g.1, 12, .inl (fun _ => 0))), (q4, .inl (g.1, 12, .inl (fun _ => 0)))]) H locs := ⟨h1, h2, h3⟩
  clear h1 h2 h3
  refine lv_aload_n hx hb d_N_init_36 rfl (lv_at hl 0 rfl) ?_
  refine lv_bipush (v := 12) hx hb d_N_init_37 (by decide) ?_
  refine g_newi (k := 12) hx hb (hts _ wG138) hK hw hA (by decide) (by decide) (Nat.le_of_ble_eq_true rfl) (Nat.le_of_ble_eq_true rfl) (Nat.le_of_ble_eq_true rfl) d_N_init_39 (fun q5 H hw => ?_)
  replace hw : GW D A s.heap ([(q, .inr (1, [.int 0, .ref q1, .ref q2, .ref q3, .ref q4, .null, .null, .null, .null, .null, .null, .null, .null])), (q1, .inl (g.1, 12, .inl (fun _ => 0))), (q2, .inl (g.1, 12, .inl (fun _ => 0))), (q3, .inl (g.1, 12, .inl (fun _ => 0))), (q4, .inl (g.1, 12, .inl (fun _ => 0))), (q5, .inl (g.1, 12, .inl (fun _ => 0)))]) H locs := hw
  refine va_putF (ty := (.array .int)) (D := D) (ci := 1) (v := .ref q5) (C := qR1) (T := qT1) (N := 13) hx hb hts qi1 qy1 qk1 qn1 hown hK hw.1 hw.2.1 hw.2.2 0 rfl rfl 5 (by decide) (hts _ wG99) (fun _ h9 => h9) rfl hin2 rfl (by decide +kernel) rfl rfl (Nat.le_of_ble_eq_true rfl) d_N_init_41 (fun H locs h1 h2 h3 => ?_)
  replace hw : GW D A s.heap ([(q, .inr (1, [.int 0, .ref q1, .ref q2, .ref q3, .ref q4, .ref q5, .null, .null, .null, .null, .null, .null, .null])), (q1, .inl (g.1, 12, .inl (fun _ => 0))), (q2, .inl (g.1, 12, .inl (fun _ => 0))), (q3, .inl (g.1, 12, .inl (fun _ => 0))), (q4, .inl (g.1, 12, .inl (fun _ => 0))), (q5, .inl (g.1, 12, .inl (fun _ => 0)))]) H locs := ⟨h1, h2, h3⟩
  clear h1 h2 h3
  refine lv_aload_n hx hb d_N_init_44 rfl (lv_at hl 0 rfl) ?_
  refine lv_bipush (v := 12) hx hb d_N_init_45 (by decide) ?_
  refine g_newi (k := 12) hx hb (hts _ wG138) hK hw hA (by decide) (by decide) (Nat.le_of_ble_eq_true rfl) (Nat.le_of_ble_eq_true rfl) (Nat.le_of_ble_eq_true rfl) d_N_init_47 (fun q6 H hw => ?_)
  replace hw : GW D A s.heap ([(q, .inr (1, [.int 0, .ref q1, .ref q2, .ref q3, .ref q4, .ref q5, .null, .null, .null, .null, .null, .null, .null])), (q1, .inl (g.1, 12, .inl (fun _ => 0))), (q2, .inl (g.1, 12, .inl (fun _ => 0))), (q3, .inl (g.1, 12, .inl (fun _ => 0))), (q4, .inl (g.1, 12, .inl (fun _ => 0))), (q5, .inl (g.1, 12, .inl (fun _ => 0))), (q6, .inl (g.1, 12, .inl (fun _ => 0)))]) H locs := hw
  refine va_putF (ty := (.array .int)) (D := D) (ci := 1) (v := .ref q6) (C := qR1) (T := qT1) (N := 13) hx hb hts qi1 qy1 qk1 qn1 hown hK hw.1 hw.2.1 hw.2.2 0 rfl rfl 6 (by decide) (hts _ wG101) (fun _ h9 => h9) rfl hin2 rfl (by decide +kernel) rfl rfl (Nat.le_of_ble_eq_true rfl) d_N_init_49 (fun H locs h1 h2 h3 => ?_)
  replace hw : GW D A s.heap ([(q, .inr (1, [.int 0, .ref q1, .ref q2, .ref q3, .ref q4, .ref q5, .ref q6, .null, .null, .null, .null, .null, .null])), (q1, .inl (g.1, 12, .inl (fun _ => 0))), (q2, .inl (g.1, 12, .inl (fun _ => 0))), (q3, .inl (g.1, 12, .inl (fun _ => 0))), (q4, .inl (g.1, 12, .inl (fun _ => 0))), (q5, .inl (g.1, 12, .inl (fun _ => 0))), (q6, .inl (g.1, 12, .inl (fun _ => 0)))]) H locs := ⟨h1, h2, h3⟩
  clear h1 h2 h3
  refine lv_aload_n hx hb d_N_init_52 rfl (lv_at hl 0 rfl) ?_
  refine lv_iconst (v := 2) hx hb d_N_init_53 (by decide) ?_
  refine g_newi (k := 2) hx hb (hts _ wG138) hK hw hA (by decide) (by decide) (Nat.le_of_ble_eq_true rfl) (Nat.le_of_ble_eq_true rfl) (Nat.le_of_ble_eq_true rfl) d_N_init_54 (fun q7 H hw => ?_)
  replace hw : GW D A s.heap ([(q, .inr (1, [.int 0, .ref q1, .ref q2, .ref q3, .ref q4, .ref q5, .ref q6, .null, .null, .null, .null, .null, .null])), (q1, .inl (g.1, 12, .inl (fun _ => 0))), (q2, .inl (g.1, 12, .inl (fun _ => 0))), (q3, .inl (g.1, 12, .inl (fun _ => 0))), (q4, .inl (g.1, 12, .inl (fun _ => 0))), (q5, .inl (g.1, 12, .inl (fun _ => 0))), (q6, .inl (g.1, 12, .inl (fun _ => 0))), (q7, .inl (g.1, 2, .inl (fun _ => 0)))]) H locs := hw
  refine va_putF (ty := (.array .int)) (D := D) (ci := 1) (v := .ref q7) (C := qR1) (T := qT1) (N := 13) hx hb hts qi1 qy1 qk1 qn1 hown hK hw.1 hw.2.1 hw.2.2 0 rfl rfl 7 (by decide) (hts _ wG102) (fun _ h9 => h9) rfl hin2 rfl (by decide +kernel) rfl rfl (Nat.le_of_ble_eq_true rfl) d_N_init_56 (fun H locs h1 h2 h3 => ?_)
  replace hw : GW D A s.heap ([(q, .inr (1, [.int 0, .ref q1, .ref q2, .ref q3, .ref q4, .ref q5, .ref q6, .ref q7, .null, .null, .null, .null, .null])), (q1, .inl (g.1, 12, .inl (fun _ => 0))), (q2, .inl (g.1, 12, .inl (fun _ => 0))), (q3, .inl (g.1, 12, .inl (fun _ => 0))), (q4, .inl (g.1, 12, .inl (fun _ => 0))), (q5, .inl (g.1, 12, .inl (fun _ => 0))), (q6, .inl (g.1, 12, .inl (fun _ => 0))), (q7, .inl (g.1, 2, .inl (fun _ => 0)))]) H locs := ⟨h1, h2, h3⟩
  clear h1 h2 h3
  refine lv_aload_n hx hb d_N_init_59 rfl (lv_at hl 0 rfl) ?_
  refine lv_iconst (v := 2) hx hb d_N_init_60 (by decide) ?_
  refine lv_bipush (v := 24) hx hb d_N_init_61 (by decide) ?_
  refine g_grid (N := 2) (M := 24) hx hb hown (hts _ wG79) hV.use (hts _ wG138) hK hw hA (by decide) (by decide) (by decide) (by decide) (Nat.le_of_ble_eq_true rfl) (Nat.le_of_ble_eq_true rfl) (Nat.le_of_ble_eq_true rfl) (Nat.le_of_ble_eq_true rfl) d_N_init_63 (fun q8 H hw => ?_)
  replace hw : GW D A s.heap ([(q, .inr (1, [.int 0, .ref q1, .ref q2, .ref q3, .ref q4, .ref q5, .ref q6, .ref q7, .null, .null, .null, .null, .null])), (q1, .inl (g.1, 12, .inl (fun _ => 0))), (q2, .inl (g.1, 12, .inl (fun _ => 0))), (q3, .inl (g.1, 12, .inl (fun _ => 0))), (q4, .inl (g.1, 12, .inl (fun _ => 0))), (q5, .inl (g.1, 12, .inl (fun _ => 0))), (q6, .inl (g.1, 12, .inl (fun _ => 0))), (q7, .inl (g.1, 2, .inl (fun _ => 0))), (q8, .inl (g.2.2.1, 2, .inr (.inr (.inr (.inr (fun i => some (q8 + 1 + i))))))), (q8 + 1 + 0, .inl (g.1, 24, .inl (fun _ => 0))), (q8 + 1 + 1, .inl (g.1, 24, .inl (fun _ => 0)))]) H locs := hw
  refine va_putF (ty := (.array (.array .int))) (D := D) (ci := 1) (v := .ref q8) (C := qR1) (T := qT1) (N := 13) hx hb hts qi1 qy1 qk1 qn1 hown hK hw.1 hw.2.1 hw.2.2 0 rfl rfl 8 (by decide) (hts _ wG103) (fun _ h9 => h9) rfl hin2 rfl (by decide +kernel) rfl rfl (Nat.le_of_ble_eq_true rfl) d_N_init_67 (fun H locs h1 h2 h3 => ?_)
  replace hw : GW D A s.heap ([(q, .inr (1, [.int 0, .ref q1, .ref q2, .ref q3, .ref q4, .ref q5, .ref q6, .ref q7, .ref q8, .null, .null, .null, .null])), (q1, .inl (g.1, 12, .inl (fun _ => 0))), (q2, .inl (g.1, 12, .inl (fun _ => 0))), (q3, .inl (g.1, 12, .inl (fun _ => 0))), (q4, .inl (g.1, 12, .inl (fun _ => 0))), (q5, .inl (g.1, 12, .inl (fun _ => 0))), (q6, .inl (g.1, 12, .inl (fun _ => 0))), (q7, .inl (g.1, 2, .inl (fun _ => 0))), (q8, .inl (g.2.2.1, 2, .inr (.inr (.inr (.inr (fun i => some (q8 + 1 + i))))))), (q8 + 1 + 0, .inl (g.1, 24, .inl (fun _ => 0))), (q8 + 1 + 1, .inl (g.1, 24, .inl (fun _ => 0)))]) H locs := ⟨h1, h2, h3⟩
  clear h1 h2 h3
  refine lv_aload_n hx hb d_N_init_70 rfl (lv_at hl 0 rfl) ?_
  refine lv_iconst (v := 2) hx hb d_N_init_71 (by decide) ?_
  refine lv_bipush (v := 12) hx hb d_N_init_72 (by decide) ?_
  refine g_grid (N := 2) (M := 12) hx hb hown (hts _ wG79) hV.use (hts _ wG138) hK hw hA (by decide) (by decide) (by decide) (by decide) (Nat.le_of_ble_eq_true rfl) (Nat.le_of_ble_eq_true rfl) (Nat.le_of_ble_eq_true rfl) (Nat.le_of_ble_eq_true rfl) d_N_init_74 (fun q9 H hw => ?_)
  replace hw : GW D A s.heap ([(q, .inr (1, [.int 0, .ref q1, .ref q2, .ref q3, .ref q4, .ref q5, .ref q6, .ref q7, .ref q8, .null, .null, .null, .null])), (q1, .inl (g.1, 12, .inl (fun _ => 0))), (q2, .inl (g.1, 12, .inl (fun _ => 0))), (q3, .inl (g.1, 12, .inl (fun _ => 0))), (q4, .inl (g.1, 12, .inl (fun _ => 0))), (q5, .inl (g.1, 12, .inl (fun _ => 0))), (q6, .inl (g.1, 12, .inl (fun _ => 0))), (q7, .inl (g.1, 2, .inl (fun _ => 0))), (q8, .inl (g.2.2.1, 2, .inr (.inr (.inr (.inr (fun i => some (q8 + 1 + i))))))), (q8 + 1 + 0, .inl (g.1, 24, .inl (fun _ => 0))), (q8 + 1 + 1, .inl (g.1, 24, .inl (fun _ => 0))), (q9, .inl (g.2.2.1, 2, .inr (.inr (.inr (.inr (fun i => some (q9 + 1 + i))))))), (q9 + 1 + 0, .inl (g.1, 12, .inl (fun _ => 0))), (q9 + 1 + 1, .inl (g.1, 12, .inl (fun _ => 0)))]) H locs := hw
  refine va_putF (ty := (.array (.array .int))) (D := D) (ci := 1) (v := .ref q9) (C := qR1) (T := qT1) (N := 13) hx hb hts qi1 qy1 qk1 qn1 hown hK hw.1 hw.2.1 hw.2.2 0 rfl rfl 9 (by decide) (hts _ wG105) (fun _ h9 => h9) rfl hin2 rfl (by decide +kernel) rfl rfl (Nat.le_of_ble_eq_true rfl) d_N_init_78 (fun H locs h1 h2 h3 => ?_)
  replace hw : GW D A s.heap ([(q, .inr (1, [.int 0, .ref q1, .ref q2, .ref q3, .ref q4, .ref q5, .ref q6, .ref q7, .ref q8, .ref q9, .null, .null, .null])), (q1, .inl (g.1, 12, .inl (fun _ => 0))), (q2, .inl (g.1, 12, .inl (fun _ => 0))), (q3, .inl (g.1, 12, .inl (fun _ => 0))), (q4, .inl (g.1, 12, .inl (fun _ => 0))), (q5, .inl (g.1, 12, .inl (fun _ => 0))), (q6, .inl (g.1, 12, .inl (fun _ => 0))), (q7, .inl (g.1, 2, .inl (fun _ => 0))), (q8, .inl (g.2.2.1, 2, .inr (.inr (.inr (.inr (fun i => some (q8 + 1 + i))))))), (q8 + 1 + 0, .inl (g.1, 24, .inl (fun _ => 0))), (q8 + 1 + 1, .inl (g.1, 24, .inl (fun _ => 0))), (q9, .inl (g.2.2.1, 2, .inr (.inr (.inr (.inr (fun i => some (q9 + 1 + i))))))), (q9 + 1 + 0, .inl (g.1, 12, .inl (fun _ => 0))), (q9 + 1 + 1, .inl (g.1, 12, .inl (fun _ => 0)))]) H locs := ⟨h1, h2, h3⟩
  clear h1 h2 h3
  refine lv_aload_n hx hb d_N_init_81 rfl (lv_at hl 0 rfl) ?_
  refine lv_bipush (v := 12) hx hb d_N_init_82 (by decide) ?_
  refine g_newi (k := 12) hx hb (hts _ wG138) hK hw hA (by decide) (by decide) (Nat.le_of_ble_eq_true rfl) (Nat.le_of_ble_eq_true rfl) (Nat.le_of_ble_eq_true rfl) d_N_init_84 (fun q10 H hw => ?_)
  replace hw : GW D A s.heap ([(q, .inr (1, [.int 0, .ref q1, .ref q2, .ref q3, .ref q4, .ref q5, .ref q6, .ref q7, .ref q8, .ref q9, .null, .null, .null])), (q1, .inl (g.1, 12, .inl (fun _ => 0))), (q2, .inl (g.1, 12, .inl (fun _ => 0))), (q3, .inl (g.1, 12, .inl (fun _ => 0))), (q4, .inl (g.1, 12, .inl (fun _ => 0))), (q5, .inl (g.1, 12, .inl (fun _ => 0))), (q6, .inl (g.1, 12, .inl (fun _ => 0))), (q7, .inl (g.1, 2, .inl (fun _ => 0))), (q8, .inl (g.2.2.1, 2, .inr (.inr (.inr (.inr (fun i => some (q8 + 1 + i))))))), (q8 + 1 + 0, .inl (g.1, 24, .inl (fun _ => 0))), (q8 + 1 + 1, .inl (g.1, 24, .inl (fun _ => 0))), (q9, .inl (g.2.2.1, 2, .inr (.inr (.inr (.inr (fun i => some (q9 + 1 + i))))))), (q9 + 1 + 0, .inl (g.1, 12, .inl (fun _ => 0))), (q9 + 1 + 1, .inl (g.1, 12, .inl (fun _ => 0))), (q10, .inl (g.1, 12, .inl (fun _ => 0)))]) H locs := hw
  refine va_putF (ty := (.array .int)) (D := D) (ci := 1) (v := .ref q10) (C := qR1) (T := qT1) (N := 13) hx hb hts qi1 qy1 qk1 qn1 hown hK hw.1 hw.2.1 hw.2.2 0 rfl rfl 10 (by decide) (hts _ wG107) (fun _ h9 => h9) rfl hin2 rfl (by decide +kernel) rfl rfl (Nat.le_of_ble_eq_true rfl) d_N_init_86 (fun H locs h1 h2 h3 => ?_)
  replace hw : GW D A s.heap ([(q, .inr (1, [.int 0, .ref q1, .ref q2, .ref q3, .ref q4, .ref q5, .ref q6, .ref q7, .ref q8, .ref q9, .ref q10, .null, .null])), (q1, .inl (g.1, 12, .inl (fun _ => 0))), (q2, .inl (g.1, 12, .inl (fun _ => 0))), (q3, .inl (g.1, 12, .inl (fun _ => 0))), (q4, .inl (g.1, 12, .inl (fun _ => 0))), (q5, .inl (g.1, 12, .inl (fun _ => 0))), (q6, .inl (g.1, 12, .inl (fun _ => 0))), (q7, .inl (g.1, 2, .inl (fun _ => 0))), (q8, .inl (g.2.2.1, 2, .inr (.inr (.inr (.inr (fun i => some (q8 + 1 + i))))))), (q8 + 1 + 0, .inl (g.1, 24, .inl (fun _ => 0))), (q8 + 1 + 1, .inl (g.1, 24, .inl (fun _ => 0))), (q9, .inl (g.2.2.1, 2, .inr (.inr (.inr (.inr (fun i => some (q9 + 1 + i))))))), (q9 + 1 + 0, .inl (g.1, 12, .inl (fun _ => 0))), (q9 + 1 + 1, .inl (g.1, 12, .inl (fun _ => 0))), (q10, .inl (g.1, 12, .inl (fun _ => 0)))]) H locs := ⟨h1, h2, h3⟩
  clear h1 h2 h3
  refine lv_aload_n hx hb d_N_init_89 rfl (lv_at hl 0 rfl) ?_
  refine lv_bipush (v := 12) hx hb d_N_init_90 (by decide) ?_
  refine g_newi (k := 12) hx hb (hts _ wG138) hK hw hA (by decide) (by decide) (Nat.le_of_ble_eq_true rfl) (Nat.le_of_ble_eq_true rfl) (Nat.le_of_ble_eq_true rfl) d_N_init_92 (fun q11 H hw => ?_)
  replace hw : GW D A s.heap ([(q, .inr (1, [.int 0, .ref q1, .ref q2, .ref q3, .ref q4, .ref q5, .ref q6, .ref q7, .ref q8, .ref q9, .ref q10, .null, .null])), (q1, .inl (g.1, 12, .inl (fun _ => 0))), (q2, .inl (g.1, 12, .inl (fun _ => 0))), (q3, .inl (g.1, 12, .inl (fun _ => 0))), (q4, .inl (g.1, 12, .inl (fun _ => 0))), (q5, .inl (g.1, 12, .inl (fun _ => 0))), (q6, .inl (g.1, 12, .inl (fun _ => 0))), (q7, .inl (g.1, 2, .inl (fun _ => 0))), (q8, .inl (g.2.2.1, 2, .inr (.inr (.inr (.inr (fun i => some (q8 + 1 + i))))))), (q8 + 1 + 0, .inl (g.1, 24, .inl (fun _ => 0))), (q8 + 1 + 1, .inl (g.1, 24, .inl (fun _ => 0))), (q9, .inl (g.2.2.1, 2, .inr (.inr (.inr (.inr (fun i => some (q9 + 1 + i))))))), (q9 + 1 + 0, .inl (g.1, 12, .inl (fun _ => 0))), (q9 + 1 + 1, .inl (g.1, 12, .inl (fun _ => 0))), (q10, .inl (g.1, 12, .inl (fun _ => 0))), (q11, .inl (g.1, 12, .inl (fun _ => 0)))]) H locs := hw
  refine va_putF (ty := (.array .int)) (D := D) (ci := 1) (v := .ref q11) (C := qR1) (T := qT1) (N := 13) hx hb hts qi1 qy1 qk1 qn1 hown hK hw.1 hw.2.1 hw.2.2 0 rfl rfl 11 (by decide) (hts _ wG108) (fun _ h9 => h9) rfl hin2 rfl (by decide +kernel) rfl rfl (Nat.le_of_ble_eq_true rfl) d_N_init_94 (fun H locs h1 h2 h3 => ?_)
  replace hw : GW D A s.heap ([(q, .inr (1, [.int 0, .ref q1, .ref q2, .ref q3, .ref q4, .ref q5, .ref q6, .ref q7, .ref q8, .ref q9, .ref q10, .ref q11, .null])), (q1, .inl (g.1, 12, .inl (fun _ => 0))), (q2, .inl (g.1, 12, .inl (fun _ => 0))), (q3, .inl (g.1, 12, .inl (fun _ => 0))), (q4, .inl (g.1, 12, .inl (fun _ => 0))), (q5, .inl (g.1, 12, .inl (fun _ => 0))), (q6, .inl (g.1, 12, .inl (fun _ => 0))), (q7, .inl (g.1, 2, .inl (fun _ => 0))), (q8, .inl (g.2.2.1, 2, .inr (.inr (.inr (.inr (fun i => some (q8 + 1 + i))))))), (q8 + 1 + 0, .inl (g.1, 24, .inl (fun _ => 0))), (q8 + 1 + 1, .inl (g.1, 24, .inl (fun _ => 0))), (q9, .inl (g.2.2.1, 2, .inr (.inr (.inr (.inr (fun i => some (q9 + 1 + i))))))), (q9 + 1 + 0, .inl (g.1, 12, .inl (fun _ => 0))), (q9 + 1 + 1, .inl (g.1, 12, .inl (fun _ => 0))), (q10, .inl (g.1, 12, .inl (fun _ => 0))), (q11, .inl (g.1, 12, .inl (fun _ => 0)))]) H locs := ⟨h1, h2, h3⟩
  clear h1 h2 h3
  refine lv_aload_n hx hb d_N_init_97 rfl (lv_at hl 0 rfl) ?_
  refine lv_bipush (v := 12) hx hb d_N_init_98 (by decide) ?_
  refine g_newi (k := 12) hx hb (hts _ wG138) hK hw hA (by decide) (by decide) (Nat.le_of_ble_eq_true rfl) (Nat.le_of_ble_eq_true rfl) (Nat.le_of_ble_eq_true rfl) d_N_init_100 (fun q12 H hw => ?_)
  replace hw : GW D A s.heap ([(q, .inr (1, [.int 0, .ref q1, .ref q2, .ref q3, .ref q4, .ref q5, .ref q6, .ref q7, .ref q8, .ref q9, .ref q10, .ref q11, .null])), (q1, .inl (g.1, 12, .inl (fun _ => 0))), (q2, .inl (g.1, 12, .inl (fun _ => 0))), (q3, .inl (g.1, 12, .inl (fun _ => 0))), (q4, .inl (g.1, 12, .inl (fun _ => 0))), (q5, .inl (g.1, 12, .inl (fun _ => 0))), (q6, .inl (g.1, 12, .inl (fun _ => 0))), (q7, .inl (g.1, 2, .inl (fun _ => 0))), (q8, .inl (g.2.2.1, 2, .inr (.inr (.inr (.inr (fun i => some (q8 + 1 + i))))))), (q8 + 1 + 0, .inl (g.1, 24, .inl (fun _ => 0))), (q8 + 1 + 1, .inl (g.1, 24, .inl (fun _ => 0))), (q9, .inl (g.2.2.1, 2, .inr (.inr (.inr (.inr (fun i => some (q9 + 1 + i))))))), (q9 + 1 + 0, .inl (g.1, 12, .inl (fun _ => 0))), (q9 + 1 + 1, .inl (g.1, 12, .inl (fun _ => 0))), (q10, .inl (g.1, 12, .inl (fun _ => 0))), (q11, .inl (g.1, 12, .inl (fun _ => 0))), (q12, .inl (g.1, 12, .inl (fun _ => 0)))]) H locs := hw
  refine va_putF (ty := (.array .int)) (D := D) (ci := 1) (v := .ref q12) (C := qR1) (T := qT1) (N := 13) hx hb hts qi1 qy1 qk1 qn1 hown hK hw.1 hw.2.1 hw.2.2 0 rfl rfl 12 (by decide) (hts _ wG109) (fun _ h9 => h9) rfl hin2 rfl (by decide +kernel) rfl rfl (Nat.le_of_ble_eq_true rfl) d_N_init_102 (fun H locs h1 h2 h3 => ?_)
  replace hw : GW D A s.heap ([(q, .inr (1, [.int 0, .ref q1, .ref q2, .ref q3, .ref q4, .ref q5, .ref q6, .ref q7, .ref q8, .ref q9, .ref q10, .ref q11, .ref q12])), (q1, .inl (g.1, 12, .inl (fun _ => 0))), (q2, .inl (g.1, 12, .inl (fun _ => 0))), (q3, .inl (g.1, 12, .inl (fun _ => 0))), (q4, .inl (g.1, 12, .inl (fun _ => 0))), (q5, .inl (g.1, 12, .inl (fun _ => 0))), (q6, .inl (g.1, 12, .inl (fun _ => 0))), (q7, .inl (g.1, 2, .inl (fun _ => 0))), (q8, .inl (g.2.2.1, 2, .inr (.inr (.inr (.inr (fun i => some (q8 + 1 + i))))))), (q8 + 1 + 0, .inl (g.1, 24, .inl (fun _ => 0))), (q8 + 1 + 1, .inl (g.1, 24, .inl (fun _ => 0))), (q9, .inl (g.2.2.1, 2, .inr (.inr (.inr (.inr (fun i => some (q9 + 1 + i))))))), (q9 + 1 + 0, .inl (g.1, 12, .inl (fun _ => 0))), (q9 + 1 + 1, .inl (g.1, 12, .inl (fun _ => 0))), (q10, .inl (g.1, 12, .inl (fun _ => 0))), (q11, .inl (g.1, 12, .inl (fun _ => 0))), (q12, .inl (g.1, 12, .inl (fun _ => 0)))]) H locs := ⟨h1, h2, h3⟩
  clear h1 h2 h3
  refine lv_aload_n hx hb d_N_init_105 rfl (lv_at hl 0 rfl) ?_
  replace hw := hw.refs 8 (fun i => some (cA (D, g.1, g.2.1, g.2.2.1, (aNet q q1 q2 q3 q4 q5 q6 q7 q8 q9 q10 q11 q12)) (10 + (15 + i)))) rfl (fun i hi => by rcases (show i = 0 ∨ i = 1 by omega) with rfl | rfl <;> rfl)
  replace hw := hw.refs 11 (fun i => some (cA (D, g.1, g.2.1, g.2.2.1, (aNet q q1 q2 q3 q4 q5 q6 q7 q8 q9 q10 q11 q12)) (10 + (17 + i)))) rfl (fun i hi => by rcases (show i = 0 ∨ i = 1 by omega) with rfl | rfl <;> rfl)
  have hn9 : NW (D, g.1, g.2.1, g.2.2.1, (aNet q q1 q2 q3 q4 q5 q6 q7 q8 q9 q10 q11 q12)) A s.heap zI zF zG H locs := ⟨hw.1.sub [8, 0, 11, 1, 2, 3, 4, 5, 6, 7, 14, 15, 16, 9, 10, 12, 13] rfl, hw.2.1.sub [8, 0, 11, 1, 2, 3, 4, 5, 6, 7, 14, 15, 16, 9, 10, 12, 13] rfl rfl, hw.2.2⟩
  have hKc : va_K D vwCl (cTys (D, g.1, g.2.1, g.2.2.1, (aNet q q1 q2 q3 q4 q5 q6 q7 q8 q9 q10 q11 q12))) s := hK.sub [0, 1, 2] rfl
  refine n_callv (va_runV (As := []) (rest := []) ⟨hx, hb, hml, hown, hts⟩ (n_N_removeAll l (D, g.1, g.2.1, g.2.2.1, (aNet q q1 q2 q3 q4 q5 q6 q7 q8 q9 q10 q11 q12)) zI zF zG _ _ h) (cwV 0 hts (gV wG81 wG82 wG83 wG49 wG84) rfl rfl rfl (by decide +kernel) ⟨Nat.le_of_ble_eq_true rfl, Nat.le_of_ble_eq_true rfl⟩) (nPrm1 hKc hN hn9) rfl rfl hl.1 rfl (lv_room (Nat.le_of_ble_eq_true rfl)) d_N_init_106 ⟨Nat.le_of_ble_eq_true rfl, Nat.le_of_ble_eq_true rfl⟩) hn9 hA (fun I1 F1 G1 H locs hp hw => ?_)
  refine W.widen (k := 16) (n := 186) (Nat.le_of_ble_eq_true rfl) (Nat.le_of_ble_eq_true rfl) ?_
  exact W.vret hx hb hr (fun t ht hW => ⟨⟨((aNet q q1 q2 q3 q4 q5 q6 q7 q8 q9 q10 q11 q12), I1, F1, G1), rfl, ⟨rfl, hp⟩, by rw [ht]; exact hw.1, hw.2.1⟩, hw.2.2.F ht⟩) hw.2.2.2.2 d_N_init_109
abbrev rm_C_init : Room := { frames := 1, cells := 1, slots := 12, locals := 24 }
set_option maxHeartbeats 8000000 in
set_option maxRecDepth 100000 in
theorem c_C_init (l : Launch) (D : va_G) (g : gK) (q a1 sz : Nat) : Met l y_C_init (.code y_C_init b_C_init 2 none :: lwG) rm_C_init (iPc D g [(q, .inr (2, [.null, .int 0, .null]))] sz [.ref q, .ref a1]) (va_Qv (fun (u : Nat) => True) (fun (u : Nat) t => va_P D vwCl ([(q, .inr (2, [.ref a1, .int 0, .ref u])), (u, .inl (g.1, 12, .inl (fun _ => 0)))]) t.heap ∧ va_D (va_A [(q, .inr (2, [.null, .int 0, .null]))] sz) ([(q, .inr (2, [.ref a1, .int 0, .ref u])), (u, .inl (g.1, 12, .inl (fun _ => 0)))])) (va_A [(q, .inr (2, [.null, .int 0, .null]))] sz)) 1 12 (va_A [(q, .inr (2, [.null, .int 0, .null]))] sz) := by
  refine Met.ofW (cc := b_C_init) (maxL := 2) (ret := none) (by decide) rfl ?_
  intro p e s m args below meth c s₁ B hml hv
  obtain ⟨rfl, hsz, hP, hK, hD0, hN, hV⟩ := hv
  have xc : xC p s m _ meth c b_C_init 2 lwG qR2 none := ⟨B.exec, B.bytes, hml, findClass_of_methodNamed B.named, fun w h => atoms_spec (ws := (.code y_C_init b_C_init 2 none :: lwG)) B.pre w (List.mem_cons_of_mem _ h), B.returns, B.notSynchronized⟩
  have hin2 : meth.name = "<init>" := (name_of_methodNamed B.named B.method).1
  obtain ⟨hx, hb, hml, hown, hts, hr, hlocks⟩ := id xc
  subst hsz
  have hD : va_D (va_A [(q, .inr (2, [.null, .int 0, .null]))] s.heap.size) [(q, .inr (2, [.null, .int 0, .null]))] := hD0.self
  have hA0 : ∀ q9 : Nat, s.heap.size ≤ q9 → va_A [(q, .inr (2, [.null, .int 0, .null]))] s.heap.size q9 := fun q9 h9 => Or.inr h9
  generalize va_A [(q, .inr (2, [.null, .int 0, .null]))] s.heap.size = A at hD hA0 ⊢
  have hA := hA0
  have hw : GW D A s.heap [(q, .inr (2, [.null, .int 0, .null]))] s.heap [] := ⟨hP, hD, va_S.rf⟩
  have hl := lv_entry ([.ref q, .ref a1]) (n := 2) (Nat.le_of_ble_eq_true rfl)
  rw [lg_entry_eq]
  generalize (lg_sl ([.ref q, .ref a1]) ++ List.replicate (2 - (lg_sl ([.ref q, .ref a1])).length) Slot.unset).toArray = ls at hl ⊢
  have hl : lv_has ls 2 [(0, .ref q), (1, .ref a1)] := hl
  generalize hloc : ([] : List Loc) = locs at hw ⊢
  clear hloc
  refine lv_aload_n hx hb d_C_init_0 rfl (lv_at hl 0 rfl) ?_
  refine W.objInit (g := F0 m 1 ls [.ref q]) hx hb hown (hts _ wG144) (hts _ wG71) (hts _ wG72) rfl (hl.1.trans hml.symm) rfl d_C_init_1 (Nat.le_of_ble_eq_true rfl) (Nat.le_of_ble_eq_true rfl) ?_
  show W _ _ _ _ _ _ _ _ _ _ _ _ _ _ _ (F0 m 4 ls [])
  refine lv_aload_n hx hb d_C_init_4 rfl (lv_at hl 0 rfl) ?_
  refine lv_bipush (v := 12) hx hb d_C_init_5 (by decide) ?_
  refine g_newi (k := 12) hx hb (hts _ wG138) hK hw hA (by decide) (by decide) (Nat.le_of_ble_eq_true rfl) (Nat.le_of_ble_eq_true rfl) (Nat.le_of_ble_eq_true rfl) d_C_init_7 (fun q1 H hw => ?_)
  replace hw : GW D A s.heap ([(q, .inr (2, [.null, .int 0, .null])), (q1, .inl (g.1, 12, .inl (fun _ => 0)))]) H locs := hw
  refine va_putF (ty := (.array .int)) (D := D) (ci := 2) (v := .ref q1) (C := qR2) (T := qT2) (N := 3) hx hb hts qi2 qy2 qk2 qn2 hown hK hw.1 hw.2.1 hw.2.2 0 rfl rfl 2 (by decide) (hts _ wG149) (fun _ h9 => h9) rfl hin2 rfl (by decide +kernel) rfl rfl (Nat.le_of_ble_eq_true rfl) d_C_init_9 (fun H locs h1 h2 h3 => ?_)
  replace hw : GW D A s.heap ([(q, .inr (2, [.null, .int 0, .ref q1])), (q1, .inl (g.1, 12, .inl (fun _ => 0)))]) H locs := ⟨h1, h2, h3⟩
  clear h1 h2 h3
  refine lv_aload_n hx hb d_C_init_12 rfl (lv_at hl 0 rfl) ?_
  refine lv_aload_n hx hb d_C_init_13 rfl (lv_at hl 1 rfl) ?_
  refine va_putF (ty := (.object "ChipForge$Netlist")) (D := D) (ci := 2) (v := .ref a1) (C := qR2) (T := qT2) (N := 3) hx hb hts qi2 qy2 qk2 qn2 hown hK hw.1 hw.2.1 hw.2.2 0 rfl rfl 0 (by decide) (hts _ wG145) (fun _ h9 => h9) rfl hin2 rfl (by decide +kernel) rfl rfl (Nat.le_of_ble_eq_true rfl) d_C_init_14 (fun H locs h1 h2 h3 => ?_)
  replace hw : GW D A s.heap ([(q, .inr (2, [.ref a1, .int 0, .ref q1])), (q1, .inl (g.1, 12, .inl (fun _ => 0)))]) H locs := ⟨h1, h2, h3⟩
  clear h1 h2 h3
  refine W.widen (k := 1) (n := 12) (Nat.le_of_ble_eq_true rfl) (Nat.le_of_ble_eq_true rfl) ?_
  exact W.vret hx hb hr (fun t ht hW => ⟨⟨q1, rfl, trivial, by rw [ht]; exact hw.1.sub [0, 1] rfl, hw.2.1.sub [0, 1] rfl rfl⟩, hw.2.2.F ht⟩) hw.2.2.2.2 d_C_init_17
abbrev rm_D_init : Room := { frames := 1, cells := 15, slots := 923, locals := 24 }
set_option maxHeartbeats 8000000 in
set_option maxRecDepth 100000 in
theorem c_D_init (l : Launch) (D : va_G) (g : gK) (q a1 a2 sz : Nat) : Met l y_D_init (.code y_D_init b_D_init 3 none :: lwG) rm_D_init (iPc D g [(q, .inr (3, [.null, .null, .null, .null, .null, .null, .int 0]))] sz [.ref q, .ref a1, .ref a2]) (va_Qv (fun (u : Nat × Nat × Nat × Nat) => True) (fun (u : Nat × Nat × Nat × Nat) t => va_P D vwCl ([(q, .inr (3, [.ref a1, .ref a2, .ref u.1, .ref u.2.1, .ref u.2.2.1, .ref u.2.2.2, .int 0])), (u.1, .inl (g.2.2.1, 11, .inr (.inr (.inr (.inr (fun i => some (u.1 + 1 + i))))))), (u.1 + 1 + 0, .inl (g.1, 24, .inl (fun _ => 0))), (u.1 + 1 + 1, .inl (g.1, 24, .inl (fun _ => 0))), (u.1 + 1 + 2, .inl (g.1, 24, .inl (fun _ => 0))), (u.1 + 1 + 3, .inl (g.1, 24, .inl (fun _ => 0))), (u.1 + 1 + 4, .inl (g.1, 24, .inl (fun _ => 0))), (u.1 + 1 + 5, .inl (g.1, 24, .inl (fun _ => 0))), (u.1 + 1 + 6, .inl (g.1, 24, .inl (fun _ => 0))), (u.1 + 1 + 7, .inl (g.1, 24, .inl (fun _ => 0))), (u.1 + 1 + 8, .inl (g.1, 24, .inl (fun _ => 0))), (u.1 + 1 + 9, .inl (g.1, 24, .inl (fun _ => 0))), (u.1 + 1 + 10, .inl (g.1, 24, .inl (fun _ => 0))), (u.2.1, .inl (g.1, 528, .inl (fun _ => 0))), (u.2.2.1, .inl (g.1, 60, .inl (fun _ => 0))), (u.2.2.2, .inl (g.1, 60, .inl (fun _ => 0)))]) t.heap ∧ va_D (va_A [(q, .inr (3, [.null, .null, .null, .null, .null, .null, .int 0]))] sz) ([(q, .inr (3, [.ref a1, .ref a2, .ref u.1, .ref u.2.1, .ref u.2.2.1, .ref u.2.2.2, .int 0])), (u.1, .inl (g.2.2.1, 11, .inr (.inr (.inr (.inr (fun i => some (u.1 + 1 + i))))))), (u.1 + 1 + 0, .inl (g.1, 24, .inl (fun _ => 0))), (u.1 + 1 + 1, .inl (g.1, 24, .inl (fun _ => 0))), (u.1 + 1 + 2, .inl (g.1, 24, .inl (fun _ => 0))), (u.1 + 1 + 3, .inl (g.1, 24, .inl (fun _ => 0))), (u.1 + 1 + 4, .inl (g.1, 24, .inl (fun _ => 0))), (u.1 + 1 + 5, .inl (g.1, 24, .inl (fun _ => 0))), (u.1 + 1 + 6, .inl (g.1, 24, .inl (fun _ => 0))), (u.1 + 1 + 7, .inl (g.1, 24, .inl (fun _ => 0))), (u.1 + 1 + 8, .inl (g.1, 24, .inl (fun _ => 0))), (u.1 + 1 + 9, .inl (g.1, 24, .inl (fun _ => 0))), (u.1 + 1 + 10, .inl (g.1, 24, .inl (fun _ => 0))), (u.2.1, .inl (g.1, 528, .inl (fun _ => 0))), (u.2.2.1, .inl (g.1, 60, .inl (fun _ => 0))), (u.2.2.2, .inl (g.1, 60, .inl (fun _ => 0)))])) (va_A [(q, .inr (3, [.null, .null, .null, .null, .null, .null, .int 0]))] sz)) 15 923 (va_A [(q, .inr (3, [.null, .null, .null, .null, .null, .null, .int 0]))] sz) := by
  refine Met.ofW (cc := b_D_init) (maxL := 3) (ret := none) (by decide) rfl ?_
  intro p e s m args below meth c s₁ B hml hv
  obtain ⟨rfl, hsz, hP, hK, hD0, hN, hV⟩ := hv
  have xc : xC p s m _ meth c b_D_init 3 lwG qR3 none := ⟨B.exec, B.bytes, hml, findClass_of_methodNamed B.named, fun w h => atoms_spec (ws := (.code y_D_init b_D_init 3 none :: lwG)) B.pre w (List.mem_cons_of_mem _ h), B.returns, B.notSynchronized⟩
  have hin2 : meth.name = "<init>" := (name_of_methodNamed B.named B.method).1
  obtain ⟨hx, hb, hml, hown, hts, hr, hlocks⟩ := id xc
  subst hsz
  have hD : va_D (va_A [(q, .inr (3, [.null, .null, .null, .null, .null, .null, .int 0]))] s.heap.size) [(q, .inr (3, [.null, .null, .null, .null, .null, .null, .int 0]))] := hD0.self
  have hA0 : ∀ q9 : Nat, s.heap.size ≤ q9 → va_A [(q, .inr (3, [.null, .null, .null, .null, .null, .null, .int 0]))] s.heap.size q9 := fun q9 h9 => Or.inr h9
  generalize va_A [(q, .inr (3, [.null, .null, .null, .null, .null, .null, .int 0]))] s.heap.size = A at hD hA0 ⊢
  have hA := hA0
  have hw : GW D A s.heap [(q, .inr (3, [.null, .null, .null, .null, .null, .null, .int 0]))] s.heap [] := ⟨hP, hD, va_S.rf⟩
  have hl := lv_entry ([.ref q, .ref a1, .ref a2]) (n := 3) (Nat.le_of_ble_eq_true rfl)
  rw [lg_entry_eq]
  generalize (lg_sl ([.ref q, .ref a1, .ref a2]) ++ List.replicate (3 - (lg_sl ([.ref q, .ref a1, .ref a2])).length) Slot.unset).toArray = ls at hl ⊢
  have hl : lv_has ls 3 [(0, .ref q), (1, .ref a1), (2, .ref a2)] := hl
  generalize hloc : ([] : List Loc) = locs at hw ⊢
  clear hloc
  refine lv_aload_n hx hb d_D_init_0 rfl (lv_at hl 0 rfl) ?_
  refine W.objInit (g := F0 m 1 ls [.ref q]) hx hb hown (hts _ wG164) (hts _ wG71) (hts _ wG72) rfl (hl.1.trans hml.symm) rfl d_D_init_1 (Nat.le_of_ble_eq_true rfl) (Nat.le_of_ble_eq_true rfl) ?_
  show W _ _ _ _ _ _ _ _ _ _ _ _ _ _ _ (F0 m 4 ls [])
  refine lv_aload_n hx hb d_D_init_4 rfl (lv_at hl 0 rfl) ?_
  refine lv_bipush (v := 11) hx hb d_D_init_5 (by decide) ?_
  refine lv_bipush (v := 24) hx hb d_D_init_7 (by decide) ?_
  refine g_grid (N := 11) (M := 24) hx hb hown (hts _ wG165) hV.use (hts _ wG138) hK hw hA (by decide) (by decide) (by decide) (by decide) (Nat.le_of_ble_eq_true rfl) (Nat.le_of_ble_eq_true rfl) (Nat.le_of_ble_eq_true rfl) (Nat.le_of_ble_eq_true rfl) d_D_init_9 (fun q1 H hw => ?_)
  replace hw : GW D A s.heap ([(q, .inr (3, [.null, .null, .null, .null, .null, .null, .int 0])), (q1, .inl (g.2.2.1, 11, .inr (.inr (.inr (.inr (fun i => some (q1 + 1 + i))))))), (q1 + 1 + 0, .inl (g.1, 24, .inl (fun _ => 0))), (q1 + 1 + 1, .inl (g.1, 24, .inl (fun _ => 0))), (q1 + 1 + 2, .inl (g.1, 24, .inl (fun _ => 0))), (q1 + 1 + 3, .inl (g.1, 24, .inl (fun _ => 0))), (q1 + 1 + 4, .inl (g.1, 24, .inl (fun _ => 0))), (q1 + 1 + 5, .inl (g.1, 24, .inl (fun _ => 0))), (q1 + 1 + 6, .inl (g.1, 24, .inl (fun _ => 0))), (q1 + 1 + 7, .inl (g.1, 24, .inl (fun _ => 0))), (q1 + 1 + 8, .inl (g.1, 24, .inl (fun _ => 0))), (q1 + 1 + 9, .inl (g.1, 24, .inl (fun _ => 0))), (q1 + 1 + 10, .inl (g.1, 24, .inl (fun _ => 0)))]) H locs := hw
  refine va_putF (ty := (.array (.array .int))) (D := D) (ci := 3) (v := .ref q1) (C := qR3) (T := qT3) (N := 7) hx hb hts qi3 qy3 qk3 qn3 hown hK hw.1 hw.2.1 hw.2.2 0 rfl rfl 2 (by decide) (hts _ wG168) (fun _ h9 => h9) rfl hin2 rfl (by decide +kernel) rfl rfl (Nat.le_of_ble_eq_true rfl) d_D_init_13 (fun H locs h1 h2 h3 => ?_)
  replace hw : GW D A s.heap ([(q, .inr (3, [.null, .null, .ref q1, .null, .null, .null, .int 0])), (q1, .inl (g.2.2.1, 11, .inr (.inr (.inr (.inr (fun i => some (q1 + 1 + i))))))), (q1 + 1 + 0, .inl (g.1, 24, .inl (fun _ => 0))), (q1 + 1 + 1, .inl (g.1, 24, .inl (fun _ => 0))), (q1 + 1 + 2, .inl (g.1, 24, .inl (fun _ => 0))), (q1 + 1 + 3, .inl (g.1, 24, .inl (fun _ => 0))), (q1 + 1 + 4, .inl (g.1, 24, .inl (fun _ => 0))), (q1 + 1 + 5, .inl (g.1, 24, .inl (fun _ => 0))), (q1 + 1 + 6, .inl (g.1, 24, .inl (fun _ => 0))), (q1 + 1 + 7, .inl (g.1, 24, .inl (fun _ => 0))), (q1 + 1 + 8, .inl (g.1, 24, .inl (fun _ => 0))), (q1 + 1 + 9, .inl (g.1, 24, .inl (fun _ => 0))), (q1 + 1 + 10, .inl (g.1, 24, .inl (fun _ => 0)))]) H locs := ⟨h1, h2, h3⟩
  clear h1 h2 h3
  refine lv_aload_n hx hb d_D_init_16 rfl (lv_at hl 0 rfl) ?_
  refine lv_sipush (v := 528) hx hb d_D_init_17 (by decide) ?_
  refine g_newi (k := 528) hx hb (hts _ wG138) hK hw hA (by decide) (by decide) (Nat.le_of_ble_eq_true rfl) (Nat.le_of_ble_eq_true rfl) (Nat.le_of_ble_eq_true rfl) d_D_init_20 (fun q2 H hw => ?_)
  replace hw : GW D A s.heap ([(q, .inr (3, [.null, .null, .ref q1, .null, .null, .null, .int 0])), (q1, .inl (g.2.2.1, 11, .inr (.inr (.inr (.inr (fun i => some (q1 + 1 + i))))))), (q1 + 1 + 0, .inl (g.1, 24, .inl (fun _ => 0))), (q1 + 1 + 1, .inl (g.1, 24, .inl (fun _ => 0))), (q1 + 1 + 2, .inl (g.1, 24, .inl (fun _ => 0))), (q1 + 1 + 3, .inl (g.1, 24, .inl (fun _ => 0))), (q1 + 1 + 4, .inl (g.1, 24, .inl (fun _ => 0))), (q1 + 1 + 5, .inl (g.1, 24, .inl (fun _ => 0))), (q1 + 1 + 6, .inl (g.1, 24, .inl (fun _ => 0))), (q1 + 1 + 7, .inl (g.1, 24, .inl (fun _ => 0))), (q1 + 1 + 8, .inl (g.1, 24, .inl (fun _ => 0))), (q1 + 1 + 9, .inl (g.1, 24, .inl (fun _ => 0))), (q1 + 1 + 10, .inl (g.1, 24, .inl (fun _ => 0))), (q2, .inl (g.1, 528, .inl (fun _ => 0)))]) H locs := hw
  refine va_putF (ty := (.array .int)) (D := D) (ci := 3) (v := .ref q2) (C := qR3) (T := qT3) (N := 7) hx hb hts qi3 qy3 qk3 qn3 hown hK hw.1 hw.2.1 hw.2.2 0 rfl rfl 3 (by decide) (hts _ wG170) (fun _ h9 => h9) rfl hin2 rfl (by decide +kernel) rfl rfl (Nat.le_of_ble_eq_true rfl) d_D_init_22 (fun H locs h1 h2 h3 => ?_)
  replace hw : GW D A s.heap ([(q, .inr (3, [.null, .null, .ref q1, .ref q2, .null, .null, .int 0])), (q1, .inl (g.2.2.1, 11, .inr (.inr (.inr (.inr (fun i => some (q1 + 1 + i))))))), (q1 + 1 + 0, .inl (g.1, 24, .inl (fun _ => 0))), (q1 + 1 + 1, .inl (g.1, 24, .inl (fun _ => 0))), (q1 + 1 + 2, .inl (g.1, 24, .inl (fun _ => 0))), (q1 + 1 + 3, .inl (g.1, 24, .inl (fun _ => 0))), (q1 + 1 + 4, .inl (g.1, 24, .inl (fun _ => 0))), (q1 + 1 + 5, .inl (g.1, 24, .inl (fun _ => 0))), (q1 + 1 + 6, .inl (g.1, 24, .inl (fun _ => 0))), (q1 + 1 + 7, .inl (g.1, 24, .inl (fun _ => 0))), (q1 + 1 + 8, .inl (g.1, 24, .inl (fun _ => 0))), (q1 + 1 + 9, .inl (g.1, 24, .inl (fun _ => 0))), (q1 + 1 + 10, .inl (g.1, 24, .inl (fun _ => 0))), (q2, .inl (g.1, 528, .inl (fun _ => 0)))]) H locs := ⟨h1, h2, h3⟩
  clear h1 h2 h3
  refine lv_aload_n hx hb d_D_init_25 rfl (lv_at hl 0 rfl) ?_
  refine lv_bipush (v := 60) hx hb d_D_init_26 (by decide) ?_
  refine g_newi (k := 60) hx hb (hts _ wG138) hK hw hA (by decide) (by decide) (Nat.le_of_ble_eq_true rfl) (Nat.le_of_ble_eq_true rfl) (Nat.le_of_ble_eq_true rfl) d_D_init_28 (fun q3 H hw => ?_)
  replace hw : GW D A s.heap ([(q, .inr (3, [.null, .null, .ref q1, .ref q2, .null, .null, .int 0])), (q1, .inl (g.2.2.1, 11, .inr (.inr (.inr (.inr (fun i => some (q1 + 1 + i))))))), (q1 + 1 + 0, .inl (g.1, 24, .inl (fun _ => 0))), (q1 + 1 + 1, .inl (g.1, 24, .inl (fun _ => 0))), (q1 + 1 + 2, .inl (g.1, 24, .inl (fun _ => 0))), (q1 + 1 + 3, .inl (g.1, 24, .inl (fun _ => 0))), (q1 + 1 + 4, .inl (g.1, 24, .inl (fun _ => 0))), (q1 + 1 + 5, .inl (g.1, 24, .inl (fun _ => 0))), (q1 + 1 + 6, .inl (g.1, 24, .inl (fun _ => 0))), (q1 + 1 + 7, .inl (g.1, 24, .inl (fun _ => 0))), (q1 + 1 + 8, .inl (g.1, 24, .inl (fun _ => 0))), (q1 + 1 + 9, .inl (g.1, 24, .inl (fun _ => 0))), (q1 + 1 + 10, .inl (g.1, 24, .inl (fun _ => 0))), (q2, .inl (g.1, 528, .inl (fun _ => 0))), (q3, .inl (g.1, 60, .inl (fun _ => 0)))]) H locs := hw
  refine va_putF (ty := (.array .int)) (D := D) (ci := 3) (v := .ref q3) (C := qR3) (T := qT3) (N := 7) hx hb hts qi3 qy3 qk3 qn3 hown hK hw.1 hw.2.1 hw.2.2 0 rfl rfl 4 (by decide) (hts _ wG171) (fun _ h9 => h9) rfl hin2 rfl (by decide +kernel) rfl rfl (Nat.le_of_ble_eq_true rfl) d_D_init_30 (fun H locs h1 h2 h3 => ?_)
  replace hw : GW D A s.heap ([(q, .inr (3, [.null, .null, .ref q1, .ref q2, .ref q3, .null, .int 0])), (q1, .inl (g.2.2.1, 11, .inr (.inr (.inr (.inr (fun i => some (q1 + 1 + i))))))), (q1 + 1 + 0, .inl (g.1, 24, .inl (fun _ => 0))), (q1 + 1 + 1, .inl (g.1, 24, .inl (fun _ => 0))), (q1 + 1 + 2, .inl (g.1, 24, .inl (fun _ => 0))), (q1 + 1 + 3, .inl (g.1, 24, .inl (fun _ => 0))), (q1 + 1 + 4, .inl (g.1, 24, .inl (fun _ => 0))), (q1 + 1 + 5, .inl (g.1, 24, .inl (fun _ => 0))), (q1 + 1 + 6, .inl (g.1, 24, .inl (fun _ => 0))), (q1 + 1 + 7, .inl (g.1, 24, .inl (fun _ => 0))), (q1 + 1 + 8, .inl (g.1, 24, .inl (fun _ => 0))), (q1 + 1 + 9, .inl (g.1, 24, .inl (fun _ => 0))), (q1 + 1 + 10, .inl (g.1, 24, .inl (fun _ => 0))), (q2, .inl (g.1, 528, .inl (fun _ => 0))), (q3, .inl (g.1, 60, .inl (fun _ => 0)))]) H locs := ⟨h1, h2, h3⟩
  clear h1 h2 h3
  refine lv_aload_n hx hb d_D_init_33 rfl (lv_at hl 0 rfl) ?_
  refine lv_bipush (v := 60) hx hb d_D_init_34 (by decide) ?_
  refine g_newi (k := 60) hx hb (hts _ wG138) hK hw hA (by decide) (by decide) (Nat.le_of_ble_eq_true rfl) (Nat.le_of_ble_eq_true rfl) (Nat.le_of_ble_eq_true rfl) d_D_init_36 (fun q4 H hw => ?_)
  replace hw : GW D A s.heap ([(q, .inr (3, [.null, .null, .ref q1, .ref q2, .ref q3, .null, .int 0])), (q1, .inl (g.2.2.1, 11, .inr (.inr (.inr (.inr (fun i => some (q1 + 1 + i))))))), (q1 + 1 + 0, .inl (g.1, 24, .inl (fun _ => 0))), (q1 + 1 + 1, .inl (g.1, 24, .inl (fun _ => 0))), (q1 + 1 + 2, .inl (g.1, 24, .inl (fun _ => 0))), (q1 + 1 + 3, .inl (g.1, 24, .inl (fun _ => 0))), (q1 + 1 + 4, .inl (g.1, 24, .inl (fun _ => 0))), (q1 + 1 + 5, .inl (g.1, 24, .inl (fun _ => 0))), (q1 + 1 + 6, .inl (g.1, 24, .inl (fun _ => 0))), (q1 + 1 + 7, .inl (g.1, 24, .inl (fun _ => 0))), (q1 + 1 + 8, .inl (g.1, 24, .inl (fun _ => 0))), (q1 + 1 + 9, .inl (g.1, 24, .inl (fun _ => 0))), (q1 + 1 + 10, .inl (g.1, 24, .inl (fun _ => 0))), (q2, .inl (g.1, 528, .inl (fun _ => 0))), (q3, .inl (g.1, 60, .inl (fun _ => 0))), (q4, .inl (g.1, 60, .inl (fun _ => 0)))]) H locs := hw
  refine va_putF (ty := (.array .int)) (D := D) (ci := 3) (v := .ref q4) (C := qR3) (T := qT3) (N := 7) hx hb hts qi3 qy3 qk3 qn3 hown hK hw.1 hw.2.1 hw.2.2 0 rfl rfl 5 (by decide) (hts _ wG172) (fun _ h9 => h9) rfl hin2 rfl (by decide +kernel) rfl rfl (Nat.le_of_ble_eq_true rfl) d_D_init_38 (fun H locs h1 h2 h3 => ?_)
  replace hw : GW D A s.heap ([(q, .inr (3, [.null, .null, .ref q1, .ref q2, .ref q3, .ref q4, .int 0])), (q1, .inl (g.2.2.1, 11, .inr (.inr (.inr (.inr (fun i => some (q1 + 1 + i))))))), (q1 + 1 + 0, .inl (g.1, 24, .inl (fun _ => 0))), (q1 + 1 + 1, .inl (g.1, 24, .inl (fun _ => 0))), (q1 + 1 + 2, .inl (g.1, 24, .inl (fun _ => 0))), (q1 + 1 + 3, .inl (g.1, 24, .inl (fun _ => 0))), (q1 + 1 + 4, .inl (g.1, 24, .inl (fun _ => 0))), (q1 + 1 + 5, .inl (g.1, 24, .inl (fun _ => 0))), (q1 + 1 + 6, .inl (g.1, 24, .inl (fun _ => 0))), (q1 + 1 + 7, .inl (g.1, 24, .inl (fun _ => 0))), (q1 + 1 + 8, .inl (g.1, 24, .inl (fun _ => 0))), (q1 + 1 + 9, .inl (g.1, 24, .inl (fun _ => 0))), (q1 + 1 + 10, .inl (g.1, 24, .inl (fun _ => 0))), (q2, .inl (g.1, 528, .inl (fun _ => 0))), (q3, .inl (g.1, 60, .inl (fun _ => 0))), (q4, .inl (g.1, 60, .inl (fun _ => 0)))]) H locs := ⟨h1, h2, h3⟩
  clear h1 h2 h3
  refine lv_aload_n hx hb d_D_init_41 rfl (lv_at hl 0 rfl) ?_
  refine lv_aload_n hx hb d_D_init_42 rfl (lv_at hl 1 rfl) ?_
  refine va_putF (ty := (.object "ChipForge$Netlist")) (D := D) (ci := 3) (v := .ref a1) (C := qR3) (T := qT3) (N := 7) hx hb hts qi3 qy3 qk3 qn3 hown hK hw.1 hw.2.1 hw.2.2 0 rfl rfl 0 (by decide) (hts _ wG166) (fun _ h9 => h9) rfl hin2 rfl (by decide +kernel) rfl rfl (Nat.le_of_ble_eq_true rfl) d_D_init_43 (fun H locs h1 h2 h3 => ?_)
  replace hw : GW D A s.heap ([(q, .inr (3, [.ref a1, .null, .ref q1, .ref q2, .ref q3, .ref q4, .int 0])), (q1, .inl (g.2.2.1, 11, .inr (.inr (.inr (.inr (fun i => some (q1 + 1 + i))))))), (q1 + 1 + 0, .inl (g.1, 24, .inl (fun _ => 0))), (q1 + 1 + 1, .inl (g.1, 24, .inl (fun _ => 0))), (q1 + 1 + 2, .inl (g.1, 24, .inl (fun _ => 0))), (q1 + 1 + 3, .inl (g.1, 24, .inl (fun _ => 0))), (q1 + 1 + 4, .inl (g.1, 24, .inl (fun _ => 0))), (q1 + 1 + 5, .inl (g.1, 24, .inl (fun _ => 0))), (q1 + 1 + 6, .inl (g.1, 24, .inl (fun _ => 0))), (q1 + 1 + 7, .inl (g.1, 24, .inl (fun _ => 0))), (q1 + 1 + 8, .inl (g.1, 24, .inl (fun _ => 0))), (q1 + 1 + 9, .inl (g.1, 24, .inl (fun _ => 0))), (q1 + 1 + 10, .inl (g.1, 24, .inl (fun _ => 0))), (q2, .inl (g.1, 528, .inl (fun _ => 0))), (q3, .inl (g.1, 60, .inl (fun _ => 0))), (q4, .inl (g.1, 60, .inl (fun _ => 0)))]) H locs := ⟨h1, h2, h3⟩
  clear h1 h2 h3
  refine lv_aload_n hx hb d_D_init_46 rfl (lv_at hl 0 rfl) ?_
  refine lv_aload_n hx hb d_D_init_47 rfl (lv_at hl 2 rfl) ?_
  refine va_putF (ty := (.object "ChipForge$Channel")) (D := D) (ci := 3) (v := .ref a2) (C := qR3) (T := qT3) (N := 7) hx hb hts qi3 qy3 qk3 qn3 hown hK hw.1 hw.2.1 hw.2.2 0 rfl rfl 1 (by decide) (hts _ wG167) (fun _ h9 => h9) rfl hin2 rfl (by decide +kernel) rfl rfl (Nat.le_of_ble_eq_true rfl) d_D_init_48 (fun H locs h1 h2 h3 => ?_)
  replace hw : GW D A s.heap ([(q, .inr (3, [.ref a1, .ref a2, .ref q1, .ref q2, .ref q3, .ref q4, .int 0])), (q1, .inl (g.2.2.1, 11, .inr (.inr (.inr (.inr (fun i => some (q1 + 1 + i))))))), (q1 + 1 + 0, .inl (g.1, 24, .inl (fun _ => 0))), (q1 + 1 + 1, .inl (g.1, 24, .inl (fun _ => 0))), (q1 + 1 + 2, .inl (g.1, 24, .inl (fun _ => 0))), (q1 + 1 + 3, .inl (g.1, 24, .inl (fun _ => 0))), (q1 + 1 + 4, .inl (g.1, 24, .inl (fun _ => 0))), (q1 + 1 + 5, .inl (g.1, 24, .inl (fun _ => 0))), (q1 + 1 + 6, .inl (g.1, 24, .inl (fun _ => 0))), (q1 + 1 + 7, .inl (g.1, 24, .inl (fun _ => 0))), (q1 + 1 + 8, .inl (g.1, 24, .inl (fun _ => 0))), (q1 + 1 + 9, .inl (g.1, 24, .inl (fun _ => 0))), (q1 + 1 + 10, .inl (g.1, 24, .inl (fun _ => 0))), (q2, .inl (g.1, 528, .inl (fun _ => 0))), (q3, .inl (g.1, 60, .inl (fun _ => 0))), (q4, .inl (g.1, 60, .inl (fun _ => 0)))]) H locs := ⟨h1, h2, h3⟩
  clear h1 h2 h3
  refine W.widen (k := 15) (n := 923) (Nat.le_of_ble_eq_true rfl) (Nat.le_of_ble_eq_true rfl) ?_
  exact W.vret hx hb hr (fun t ht hW => ⟨⟨(q1, q2, q3, q4), rfl, trivial, by rw [ht]; exact hw.1.sub [0, 1, 2, 3, 4, 5, 6, 7, 8, 9, 10, 11, 12, 13, 14, 15] rfl, hw.2.1.sub [0, 1, 2, 3, 4, 5, 6, 7, 8, 9, 10, 11, 12, 13, 14, 15] rfl rfl⟩, hw.2.2.F ht⟩) hw.2.2.2.2 d_D_init_51
abbrev rm_S_init : Room := { frames := 1, cells := 3, slots := 28, locals := 24 }
set_option maxHeartbeats 8000000 in
set_option maxRecDepth 100000 in
theorem c_S_init (l : Launch) (D : va_G) (g : gK) (q a1 a2 sz : Nat) : Met l y_S_init (.code y_S_init b_S_init 4 none :: lwG) rm_S_init (iPc D g [(q, .inr (4, [.null, .null, .null, .null, .null, .int 0, .int 0]))] sz [.ref q, .ref a1, .ref a2]) (va_Qv (fun (u : Nat × Nat × Nat) => True) (fun (u : Nat × Nat × Nat) t => va_P D vwCl ([(q, .inr (4, [.ref a1, .ref a2, .ref u.1, .ref u.2.1, .ref u.2.2, .int 0, .int 0])), (u.1, .inl (g.2.1, 4, .inr (.inr (.inr (.inl (vf_upd (vf_upd (vf_upd (vf_upd (fun _ => 0) (0 : Int32).toNatClampNeg FP.dconst1) (1 : Int32).toNatClampNeg FP.dconst1) (2 : Int32).toNatClampNeg FP.dconst1) (3 : Int32).toNatClampNeg FP.dconst1)))))), (u.2.1, .inl (g.2.1, 12, .inr (.inr (.inr (.inl (fun _ => 0)))))), (u.2.2, .inl (g.1, 12, .inl (fun _ => 0)))]) t.heap ∧ va_D (va_A [(q, .inr (4, [.null, .null, .null, .null, .null, .int 0, .int 0]))] sz) ([(q, .inr (4, [.ref a1, .ref a2, .ref u.1, .ref u.2.1, .ref u.2.2, .int 0, .int 0])), (u.1, .inl (g.2.1, 4, .inr (.inr (.inr (.inl (vf_upd (vf_upd (vf_upd (vf_upd (fun _ => 0) (0 : Int32).toNatClampNeg FP.dconst1) (1 : Int32).toNatClampNeg FP.dconst1) (2 : Int32).toNatClampNeg FP.dconst1) (3 : Int32).toNatClampNeg FP.dconst1)))))), (u.2.1, .inl (g.2.1, 12, .inr (.inr (.inr (.inl (fun _ => 0)))))), (u.2.2, .inl (g.1, 12, .inl (fun _ => 0)))])) (va_A [(q, .inr (4, [.null, .null, .null, .null, .null, .int 0, .int 0]))] sz)) 3 28 (va_A [(q, .inr (4, [.null, .null, .null, .null, .null, .int 0, .int 0]))] sz) := by
  refine Met.ofW (cc := b_S_init) (maxL := 4) (ret := none) (by decide) rfl ?_
  intro p e s m args below meth c s₁ B hml hv
  obtain ⟨rfl, hsz, hP, hK, hD0, hN, hV⟩ := hv
  have xc : xC p s m _ meth c b_S_init 4 lwG qR4 none := ⟨B.exec, B.bytes, hml, findClass_of_methodNamed B.named, fun w h => atoms_spec (ws := (.code y_S_init b_S_init 4 none :: lwG)) B.pre w (List.mem_cons_of_mem _ h), B.returns, B.notSynchronized⟩
  have hin2 : meth.name = "<init>" := (name_of_methodNamed B.named B.method).1
  obtain ⟨hx, hb, hml, hown, hts, hr, hlocks⟩ := id xc
  subst hsz
  have hD : va_D (va_A [(q, .inr (4, [.null, .null, .null, .null, .null, .int 0, .int 0]))] s.heap.size) [(q, .inr (4, [.null, .null, .null, .null, .null, .int 0, .int 0]))] := hD0.self
  have hA0 : ∀ q9 : Nat, s.heap.size ≤ q9 → va_A [(q, .inr (4, [.null, .null, .null, .null, .null, .int 0, .int 0]))] s.heap.size q9 := fun q9 h9 => Or.inr h9
  generalize va_A [(q, .inr (4, [.null, .null, .null, .null, .null, .int 0, .int 0]))] s.heap.size = A at hD hA0 ⊢
  have hA := hA0
  have hw : GW D A s.heap [(q, .inr (4, [.null, .null, .null, .null, .null, .int 0, .int 0]))] s.heap [] := ⟨hP, hD, va_S.rf⟩
  have hl := lv_entry ([.ref q, .ref a1, .ref a2]) (n := 4) (Nat.le_of_ble_eq_true rfl)
  rw [lg_entry_eq]
  generalize (lg_sl ([.ref q, .ref a1, .ref a2]) ++ List.replicate (4 - (lg_sl ([.ref q, .ref a1, .ref a2])).length) Slot.unset).toArray = ls at hl ⊢
  have hl : lv_has ls 4 [(0, .ref q), (1, .ref a1), (2, .ref a2)] := hl
  generalize hloc : ([] : List Loc) = locs at hw ⊢
  clear hloc
  refine lv_aload_n hx hb d_S_init_0 rfl (lv_at hl 0 rfl) ?_
  refine W.objInit (g := F0 m 1 ls [.ref q]) hx hb hown (hts _ wG194) (hts _ wG71) (hts _ wG72) rfl (hl.1.trans hml.symm) rfl d_S_init_1 (Nat.le_of_ble_eq_true rfl) (Nat.le_of_ble_eq_true rfl) ?_
  show W _ _ _ _ _ _ _ _ _ _ _ _ _ _ _ (F0 m 4 ls [])
  refine lv_aload_n hx hb d_S_init_4 rfl (lv_at hl 0 rfl) ?_
  refine lv_iconst (v := 4) hx hb d_S_init_5 (by decide) ?_
  refine g_newd (k := 4) hx hb (hts _ wG218) hK hw hA (by decide) (by decide) (Nat.le_of_ble_eq_true rfl) (Nat.le_of_ble_eq_true rfl) (Nat.le_of_ble_eq_true rfl) d_S_init_6 (fun q1 H hw => ?_)
  replace hw : GW D A s.heap ([(q, .inr (4, [.null, .null, .null, .null, .null, .int 0, .int 0])), (q1, .inl (g.2.1, 4, .inr (.inr (.inr (.inl (fun _ => 0))))))]) H locs := hw
  refine va_putF (ty := (.array .double)) (D := D) (ci := 4) (v := .ref q1) (C := qR4) (T := qT4) (N := 7) hx hb hts qi4 qy4 qk4 qn4 hown hK hw.1 hw.2.1 hw.2.2 0 rfl rfl 2 (by decide) (hts _ wG197) (fun _ h9 => h9) rfl hin2 rfl (by decide +kernel) rfl rfl (Nat.le_of_ble_eq_true rfl) d_S_init_8 (fun H locs h1 h2 h3 => ?_)
  replace hw : GW D A s.heap ([(q, .inr (4, [.null, .null, .ref q1, .null, .null, .int 0, .int 0])), (q1, .inl (g.2.1, 4, .inr (.inr (.inr (.inl (fun _ => 0))))))]) H locs := ⟨h1, h2, h3⟩
  clear h1 h2 h3
  refine lv_aload_n hx hb d_S_init_11 rfl (lv_at hl 0 rfl) ?_
  refine lv_bipush (v := 12) hx hb d_S_init_12 (by decide) ?_
  refine g_newd (k := 12) hx hb (hts _ wG218) hK hw hA (by decide) (by decide) (Nat.le_of_ble_eq_true rfl) (Nat.le_of_ble_eq_true rfl) (Nat.le_of_ble_eq_true rfl) d_S_init_14 (fun q2 H hw => ?_)
  replace hw : GW D A s.heap ([(q, .inr (4, [.null, .null, .ref q1, .null, .null, .int 0, .int 0])), (q1, .inl (g.2.1, 4, .inr (.inr (.inr (.inl (fun _ => 0)))))), (q2, .inl (g.2.1, 12, .inr (.inr (.inr (.inl (fun _ => 0))))))]) H locs := hw
  refine va_putF (ty := (.array .double)) (D := D) (ci := 4) (v := .ref q2) (C := qR4) (T := qT4) (N := 7) hx hb hts qi4 qy4 qk4 qn4 hown hK hw.1 hw.2.1 hw.2.2 0 rfl rfl 3 (by decide) (hts _ wG199) (fun _ h9 => h9) rfl hin2 rfl (by decide +kernel) rfl rfl (Nat.le_of_ble_eq_true rfl) d_S_init_16 (fun H locs h1 h2 h3 => ?_)
  replace hw : GW D A s.heap ([(q, .inr (4, [.null, .null, .ref q1, .ref q2, .null, .int 0, .int 0])), (q1, .inl (g.2.1, 4, .inr (.inr (.inr (.inl (fun _ => 0)))))), (q2, .inl (g.2.1, 12, .inr (.inr (.inr (.inl (fun _ => 0))))))]) H locs := ⟨h1, h2, h3⟩
  clear h1 h2 h3
  refine lv_aload_n hx hb d_S_init_19 rfl (lv_at hl 0 rfl) ?_
  refine lv_bipush (v := 12) hx hb d_S_init_20 (by decide) ?_
  refine g_newi (k := 12) hx hb (hts _ wG138) hK hw hA (by decide) (by decide) (Nat.le_of_ble_eq_true rfl) (Nat.le_of_ble_eq_true rfl) (Nat.le_of_ble_eq_true rfl) d_S_init_22 (fun q3 H hw => ?_)
  replace hw : GW D A s.heap ([(q, .inr (4, [.null, .null, .ref q1, .ref q2, .null, .int 0, .int 0])), (q1, .inl (g.2.1, 4, .inr (.inr (.inr (.inl (fun _ => 0)))))), (q2, .inl (g.2.1, 12, .inr (.inr (.inr (.inl (fun _ => 0)))))), (q3, .inl (g.1, 12, .inl (fun _ => 0)))]) H locs := hw
  refine va_putF (ty := (.array .int)) (D := D) (ci := 4) (v := .ref q3) (C := qR4) (T := qT4) (N := 7) hx hb hts qi4 qy4 qk4 qn4 hown hK hw.1 hw.2.1 hw.2.2 0 rfl rfl 4 (by decide) (hts _ wG200) (fun _ h9 => h9) rfl hin2 rfl (by decide +kernel) rfl rfl (Nat.le_of_ble_eq_true rfl) d_S_init_24 (fun H locs h1 h2 h3 => ?_)
  replace hw : GW D A s.heap ([(q, .inr (4, [.null, .null, .ref q1, .ref q2, .ref q3, .int 0, .int 0])), (q1, .inl (g.2.1, 4, .inr (.inr (.inr (.inl (fun _ => 0)))))), (q2, .inl (g.2.1, 12, .inr (.inr (.inr (.inl (fun _ => 0)))))), (q3, .inl (g.1, 12, .inl (fun _ => 0)))]) H locs := ⟨h1, h2, h3⟩
  clear h1 h2 h3
  refine lv_aload_n hx hb d_S_init_27 rfl (lv_at hl 0 rfl) ?_
  refine lv_aload_n hx hb d_S_init_28 rfl (lv_at hl 1 rfl) ?_
  refine va_putF (ty := (.object "ChipForge$Netlist")) (D := D) (ci := 4) (v := .ref a1) (C := qR4) (T := qT4) (N := 7) hx hb hts qi4 qy4 qk4 qn4 hown hK hw.1 hw.2.1 hw.2.2 0 rfl rfl 0 (by decide) (hts _ wG195) (fun _ h9 => h9) rfl hin2 rfl (by decide +kernel) rfl rfl (Nat.le_of_ble_eq_true rfl) d_S_init_29 (fun H locs h1 h2 h3 => ?_)
  replace hw : GW D A s.heap ([(q, .inr (4, [.ref a1, .null, .ref q1, .ref q2, .ref q3, .int 0, .int 0])), (q1, .inl (g.2.1, 4, .inr (.inr (.inr (.inl (fun _ => 0)))))), (q2, .inl (g.2.1, 12, .inr (.inr (.inr (.inl (fun _ => 0)))))), (q3, .inl (g.1, 12, .inl (fun _ => 0)))]) H locs := ⟨h1, h2, h3⟩
  clear h1 h2 h3
  refine lv_aload_n hx hb d_S_init_32 rfl (lv_at hl 0 rfl) ?_
  refine lv_aload_n hx hb d_S_init_33 rfl (lv_at hl 2 rfl) ?_
  refine va_putF (ty := (.object "ChipForge$Channel")) (D := D) (ci := 4) (v := .ref a2) (C := qR4) (T := qT4) (N := 7) hx hb hts qi4 qy4 qk4 qn4 hown hK hw.1 hw.2.1 hw.2.2 0 rfl rfl 1 (by decide) (hts _ wG196) (fun _ h9 => h9) rfl hin2 rfl (by decide +kernel) rfl rfl (Nat.le_of_ble_eq_true rfl) d_S_init_34 (fun H locs h1 h2 h3 => ?_)
  replace hw : GW D A s.heap ([(q, .inr (4, [.ref a1, .ref a2, .ref q1, .ref q2, .ref q3, .int 0, .int 0])), (q1, .inl (g.2.1, 4, .inr (.inr (.inr (.inl (fun _ => 0)))))), (q2, .inl (g.2.1, 12, .inr (.inr (.inr (.inl (fun _ => 0)))))), (q3, .inl (g.1, 12, .inl (fun _ => 0)))]) H locs := ⟨h1, h2, h3⟩
  clear h1 h2 h3
  refine lv_iconst (v := 0) hx hb d_S_init_37 (by decide) ?_
  refine lv_istore_n (lv' := [(3, .int 0), (0, .ref q), (1, .ref a1), (2, .ref a2)]) hx hb d_S_init_38 rfl hl (by decide) rfl (fun ls hl => ?_)
  refine lv_iload_n hx hb d_S_init_39 rfl (lv_at hl 0 rfl) ?_
  refine lv_iconst (v := 4) hx hb d_S_init_40 (by decide) ?_
  refine lv_icmp_ge (tgt := 57) hx hb d_S_init_41 (by decide) (fun q9 => absurd q9 (by decide)) (fun _ => ?_)
  refine lv_aload_n hx hb d_S_init_44 rfl (lv_at hl 1 rfl) ?_
  refine va_get (D := D) (ci := 4) (v := .ref q1) (C := qR4) (T := qT4) (N := 7) hx hb hts qi4 hown hK hw.1 0 rfl rfl 2 (by decide) (hts _ wG197) (fun _ h9 => h9) rfl d_S_init_45 ?_
  refine lv_iload_n hx hb d_S_init_48 rfl (lv_at hl 0 rfl) ?_
  refine lv_dconst1 hx hb d_S_init_49 ?_
  refine va_dast hx hb hK hw.1 hw.2.1 hw.2.2 1 1 rfl rfl (i := 0) (n := 4) (by unfold vp_in; decide) d_S_init_50 (fun H locs h1 h2 h3 => ?_)
  replace hw : GW D A s.heap ([(q, .inr (4, [.ref a1, .ref a2, .ref q1, .ref q2, .ref q3, .int 0, .int 0])), (q1, .inl (g.2.1, 4, .inr (.inr (.inr (.inl (vf_upd (fun _ => 0) (0 : Int32).toNatClampNeg FP.dconst1)))))), (q2, .inl (g.2.1, 12, .inr (.inr (.inr (.inl (fun _ => 0)))))), (q3, .inl (g.1, 12, .inl (fun _ => 0)))]) H locs := ⟨h1, h2, h3⟩
  clear h1 h2 h3
  refine lv_iinc (v := 1) (lv' := [(3, .int 1), (0, .ref q), (1, .ref a1), (2, .ref a2)]) hx hb d_S_init_51 hl (k := 0) rfl (by decide) (by decide) rfl (fun ls hl => ?_)
  refine lv_goto (tgt := 39) hx hb d_S_init_54 (by decide) ?_
  refine lv_iload_n hx hb d_S_init_39 rfl (lv_at hl 0 rfl) ?_
  refine lv_iconst (v := 4) hx hb d_S_init_40 (by decide) ?_
  refine lv_icmp_ge (tgt := 57) hx hb d_S_init_41 (by decide) (fun q9 => absurd q9 (by decide)) (fun _ => ?_)
  refine lv_aload_n hx hb d_S_init_44 rfl (lv_at hl 1 rfl) ?_
  refine va_get (D := D) (ci := 4) (v := .ref q1) (C := qR4) (T := qT4) (N := 7) hx hb hts qi4 hown hK hw.1 0 rfl rfl 2 (by decide) (hts _ wG197) (fun _ h9 => h9) rfl d_S_init_45 ?_
  refine lv_iload_n hx hb d_S_init_48 rfl (lv_at hl 0 rfl) ?_
  refine lv_dconst1 hx hb d_S_init_49 ?_
  refine va_dast hx hb hK hw.1 hw.2.1 hw.2.2 1 1 rfl rfl (i := 1) (n := 4) (by unfold vp_in; decide) d_S_init_50 (fun H locs h1 h2 h3 => ?_)
  replace hw : GW D A s.heap ([(q, .inr (4, [.ref a1, .ref a2, .ref q1, .ref q2, .ref q3, .int 0, .int 0])), (q1, .inl (g.2.1, 4, .inr (.inr (.inr (.inl (vf_upd (vf_upd (fun _ => 0) (0 : Int32).toNatClampNeg FP.dconst1) (1 : Int32).toNatClampNeg FP.dconst1)))))), (q2, .inl (g.2.1, 12, .inr (.inr (.inr (.inl (fun _ => 0)))))), (q3, .inl (g.1, 12, .inl (fun _ => 0)))]) H locs := ⟨h1, h2, h3⟩
  clear h1 h2 h3
  refine lv_iinc (v := 2) (lv' := [(3, .int 2), (0, .ref q), (1, .ref a1), (2, .ref a2)]) hx hb d_S_init_51 hl (k := 0) rfl (by decide) (by decide) rfl (fun ls hl => ?_)
  refine lv_goto (tgt := 39) hx hb d_S_init_54 (by decide) ?_
  refine lv_iload_n hx hb d_S_init_39 rfl (lv_at hl 0 rfl) ?_
  refine lv_iconst (v := 4) hx hb d_S_init_40 (by decide) ?_
  refine lv_icmp_ge (tgt := 57) hx hb d_S_init_41 (by decide) (fun q9 => absurd q9 (by decide)) (fun _ => ?_)
  refine lv_aload_n hx hb d_S_init_44 rfl (lv_at hl 1 rfl) ?_
  refine va_get (D := D) (ci := 4) (v := .ref q1) (C := qR4) (T := qT4) (N := 7) hx hb hts qi4 hown hK hw.1 0 rfl rfl 2 (by decide) (hts _ wG197) (fun _ h9 => h9) rfl d_S_init_45 ?_
  refine lv_iload_n hx hb d_S_init_48 rfl (lv_at hl 0 rfl) ?_
  refine lv_dconst1 hx hb d_S_init_49 ?_
  refine va_dast hx hb hK hw.1 hw.2.1 hw.2.2 1 1 rfl rfl (i := 2) (n := 4) (by unfold vp_in; decide) d_S_init_50 (fun H locs h1 h2 h3 => ?_)
  replace hw : GW D A s.heap ([(q, .inr (4, [.ref a1, .ref a2, .ref q1, .ref q2, .ref q3, .int 0, .int 0])), (q1, .inl (g.2.1, 4, .inr (.inr (.inr (.inl (vf_upd (vf_upd (vf_upd (fun _ => 0) (0 : Int32).toNatClampNeg FP.dconst1) (1 : Int32).toNatClampNeg FP.dconst1) (2 : Int32).toNatClampNeg FP.dconst1)))))), (q2, .inl (g.2.1, 12, .inr (.inr (.inr (.inl (fun _ => 0)))))), (q3, .inl (g.1, 12, .inl (fun _ => 0)))]) H locs := ⟨h1, h2, h3⟩
  clear h1 h2 h3
  refine lv_iinc (v := 3) (lv' := [(3, .int 3), (0, .ref q), (1, .ref a1), (2, .ref a2)]) hx hb d_S_init_51 hl (k := 0) rfl (by decide) (by decide) rfl (fun ls hl => ?_)
  refine lv_goto (tgt := 39) hx hb d_S_init_54 (by decide) ?_
  refine lv_iload_n hx hb d_S_init_39 rfl (lv_at hl 0 rfl) ?_
  refine lv_iconst (v := 4) hx hb d_S_init_40 (by decide) ?_
  refine lv_icmp_ge (tgt := 57) hx hb d_S_init_41 (by decide) (fun q9 => absurd q9 (by decide)) (fun _ => ?_)
  refine lv_aload_n hx hb d_S_init_44 rfl (lv_at hl 1 rfl) ?_
  refine va_get (D := D) (ci := 4) (v := .ref q1) (C := qR4) (T := qT4) (N := 7) hx hb hts qi4 hown hK hw.1 0 rfl rfl 2 (by decide) (hts _ wG197) (fun _ h9 => h9) rfl d_S_init_45 ?_
  refine lv_iload_n hx hb d_S_init_48 rfl (lv_at hl 0 rfl) ?_
  refine lv_dconst1 hx hb d_S_init_49 ?_
  refine va_dast hx hb hK hw.1 hw.2.1 hw.2.2 1 1 rfl rfl (i := 3) (n := 4) (by unfold vp_in; decide) d_S_init_50 (fun H locs h1 h2 h3 => ?_)
  replace hw : GW D A s.heap ([(q, .inr (4, [.ref a1, .ref a2, .ref q1, .ref q2, .ref q3, .int 0, .int 0])), (q1, .inl (g.2.1, 4, .inr (.inr (.inr (.inl (vf_upd (vf_upd (vf_upd (vf_upd (fun _ => 0) (0 : Int32).toNatClampNeg FP.dconst1) (1 : Int32).toNatClampNeg FP.dconst1) (2 : Int32).toNatClampNeg FP.dconst1) (3 : Int32).toNatClampNeg FP.dconst1)))))), (q2, .inl (g.2.1, 12, .inr (.inr (.inr (.inl (fun _ => 0)))))), (q3, .inl (g.1, 12, .inl (fun _ => 0)))]) H locs := ⟨h1, h2, h3⟩
  clear h1 h2 h3
  refine lv_iinc (v := 4) (lv' := [(3, .int 4), (0, .ref q), (1, .ref a1), (2, .ref a2)]) hx hb d_S_init_51 hl (k := 0) rfl (by decide) (by decide) rfl (fun ls hl => ?_)
  refine lv_goto (tgt := 39) hx hb d_S_init_54 (by decide) ?_
  refine lv_iload_n hx hb d_S_init_39 rfl (lv_at hl 0 rfl) ?_
  refine lv_iconst (v := 4) hx hb d_S_init_40 (by decide) ?_
  refine lv_icmp_ge (tgt := 57) hx hb d_S_init_41 (by decide) (fun _ => ?_) (fun q9 => absurd (by decide) q9)
  refine W.widen (k := 3) (n := 28) (Nat.le_of_ble_eq_true rfl) (Nat.le_of_ble_eq_true rfl) ?_
  exact W.vret hx hb hr (fun t ht hW => ⟨⟨(q1, q2, q3), rfl, trivial, by rw [ht]; exact hw.1.sub [0, 1, 2, 3] rfl, hw.2.1.sub [0, 1, 2, 3] rfl rfl⟩, hw.2.2.F ht⟩) hw.2.2.2.2 d_S_init_57
abbrev rm_M_init : Room := { frames := 1, cells := 13, slots := 906, locals := 24 }
set_option maxHeartbeats 8000000 in
set_option maxRecDepth 100000 in
theorem c_M_init (l : Launch) (D : va_G) (g : gK) (q sz : Nat) : Met l y_M_init (.code y_M_init b_M_init 1 none :: lwG) rm_M_init (iPc D g [(q, .inr (5, [.int 0, .int 0, .int 0, .null, .null, .null, .null, .null, .null, .null, .null, .null, .null, .null, .null, .null]))] sz [.ref q]) (va_Qv (fun (u : Nat → Nat) => u 0 = q) (fun (u : Nat → Nat) t => va_P D vwCl (WM (D, g.1, g.2.1, g.2.2.2.1, u) mI0 mF0 onesG) t.heap ∧ va_D (va_A [(q, .inr (5, [.int 0, .int 0, .int 0, .null, .null, .null, .null, .null, .null, .null, .null, .null, .null, .null, .null, .null]))] sz) (WM (D, g.1, g.2.1, g.2.2.2.1, u) mI0 mF0 onesG)) (va_A [(q, .inr (5, [.int 0, .int 0, .int 0, .null, .null, .null, .null, .null, .null, .null, .null, .null, .null, .null, .null, .null]))] sz)) 13 906 (va_A [(q, .inr (5, [.int 0, .int 0, .int 0, .null, .null, .null, .null, .null, .null, .null, .null, .null, .null, .null, .null, .null]))] sz) := by
  refine Met.ofW (cc := b_M_init) (maxL := 1) (ret := none) (by decide) rfl ?_
  intro p e s m args below meth c s₁ B hml hv
  obtain ⟨rfl, hsz, hP, hK, hD0, hN, hV⟩ := hv
  have xc : xC p s m _ meth c b_M_init 1 lwG qR5 none := ⟨B.exec, B.bytes, hml, findClass_of_methodNamed B.named, fun w h => atoms_spec (ws := (.code y_M_init b_M_init 1 none :: lwG)) B.pre w (List.mem_cons_of_mem _ h), B.returns, B.notSynchronized⟩
  have hin2 : meth.name = "<init>" := (name_of_methodNamed B.named B.method).1
  obtain ⟨hx, hb, hml, hown, hts, hr, hlocks⟩ := id xc
  subst hsz
  have hD : va_D (va_A [(q, .inr (5, [.int 0, .int 0, .int 0, .null, .null, .null, .null, .null, .null, .null, .null, .null, .null, .null, .null, .null]))] s.heap.size) [(q, .inr (5, [.int 0, .int 0, .int 0, .null, .null, .null, .null, .null, .null, .null, .null, .null, .null, .null, .null, .null]))] := hD0.self
  have hA0 : ∀ q9 : Nat, s.heap.size ≤ q9 → va_A [(q, .inr (5, [.int 0, .int 0, .int 0, .null, .null, .null, .null, .null, .null, .null, .null, .null, .null, .null, .null, .null]))] s.heap.size q9 := fun q9 h9 => Or.inr h9
  generalize va_A [(q, .inr (5, [.int 0, .int 0, .int 0, .null, .null, .null, .null, .null, .null, .null, .null, .null, .null, .null, .null, .null]))] s.heap.size = A at hD hA0 ⊢
  have hA := hA0
  have hw : GW D A s.heap [(q, .inr (5, [.int 0, .int 0, .int 0, .null, .null, .null, .null, .null, .null, .null, .null, .null, .null, .null, .null, .null]))] s.heap [] := ⟨hP, hD, va_S.rf⟩
  have hl := lv_entry ([.ref q]) (n := 1) (Nat.le_of_ble_eq_true rfl)
  rw [lg_entry_eq]
  generalize (lg_sl ([.ref q]) ++ List.replicate (1 - (lg_sl ([.ref q])).length) Slot.unset).toArray = ls at hl ⊢
  have hl : lv_has ls 1 [(0, .ref q)] := hl
  generalize hloc : ([] : List Loc) = locs at hw ⊢
  clear hloc
  refine lv_aload_n hx hb d_M_init_0 rfl (lv_at hl 0 rfl) ?_
  refine W.objInit (g := F0 m 1 ls [.ref q]) hx hb hown (hts _ wG731) (hts _ wG71) (hts _ wG72) rfl (hl.1.trans hml.symm) rfl d_M_init_1 (Nat.le_of_ble_eq_true rfl) (Nat.le_of_ble_eq_true rfl) ?_
  show W _ _ _ _ _ _ _ _ _ _ _ _ _ _ _ (F0 m 4 ls [])
  refine lv_aload_n hx hb d_M_init_4 rfl (lv_at hl 0 rfl) ?_
  refine lv_iconst (v := (-1)) hx hb d_M_init_5 (by decide) ?_
  refine va_put (ty := .int) (D := D) (ci := 5) (v := .int (-1)) (C := qR5) (T := qT5) (N := 16) hx hb hts qi5 qy5 qk5 qn5 hown hK hw.1 hw.2.1 hw.2.2 0 rfl rfl 2 (by decide) (hts _ wG734) (fun _ h9 => h9) rfl (by decide +kernel) rfl rfl (Nat.le_of_ble_eq_true rfl) d_M_init_6 (fun H locs h1 h2 h3 => ?_)
  replace hw : GW D A s.heap ([(q, .inr (5, [.int 0, .int 0, .int (-1), .null, .null, .null, .null, .null, .null, .null, .null, .null, .null, .null, .null, .null]))]) H locs := ⟨h1, h2, h3⟩
  clear h1 h2 h3
  refine lv_aload_n hx hb d_M_init_9 rfl (lv_at hl 0 rfl) ?_
  refine lv_bipush (v := 12) hx hb d_M_init_10 (by decide) ?_
  refine g_newi (k := 12) hx hb (hts _ wG138) hK hw hA (by decide) (by decide) (Nat.le_of_ble_eq_true rfl) (Nat.le_of_ble_eq_true rfl) (Nat.le_of_ble_eq_true rfl) d_M_init_12 (fun q1 H hw => ?_)
  replace hw : GW D A s.heap ([(q, .inr (5, [.int 0, .int 0, .int (-1), .null, .null, .null, .null, .null, .null, .null, .null, .null, .null, .null, .null, .null])), (q1, .inl (g.1, 12, .inl (fun _ => 0)))]) H locs := hw
  refine va_putF (ty := (.array .int)) (D := D) (ci := 5) (v := .ref q1) (C := qR5) (T := qT5) (N := 16) hx hb hts qi5 qy5 qk5 qn5 hown hK hw.1 hw.2.1 hw.2.2 0 rfl rfl 3 (by decide) (hts _ wG735) (fun _ h9 => h9) rfl hin2 rfl (by decide +kernel) rfl rfl (Nat.le_of_ble_eq_true rfl) d_M_init_14 (fun H locs h1 h2 h3 => ?_)
  replace hw : GW D A s.heap ([(q, .inr (5, [.int 0, .int 0, .int (-1), .ref q1, .null, .null, .null, .null, .null, .null, .null, .null, .null, .null, .null, .null])), (q1, .inl (g.1, 12, .inl (fun _ => 0)))]) H locs := ⟨h1, h2, h3⟩
  clear h1 h2 h3
  refine lv_aload_n hx hb d_M_init_17 rfl (lv_at hl 0 rfl) ?_
  refine lv_bipush (v := 12) hx hb d_M_init_18 (by decide) ?_
  refine g_newi (k := 12) hx hb (hts _ wG138) hK hw hA (by decide) (by decide) (Nat.le_of_ble_eq_true rfl) (Nat.le_of_ble_eq_true rfl) (Nat.le_of_ble_eq_true rfl) d_M_init_20 (fun q2 H hw => ?_)
  replace hw : GW D A s.heap ([(q, .inr (5, [.int 0, .int 0, .int (-1), .ref q1, .null, .null, .null, .null, .null, .null, .null, .null, .null, .null, .null, .null])), (q1, .inl (g.1, 12, .inl (fun _ => 0))), (q2, .inl (g.1, 12, .inl (fun _ => 0)))]) H locs := hw
  refine va_putF (ty := (.array .int)) (D := D) (ci := 5) (v := .ref q2) (C := qR5) (T := qT5) (N := 16) hx hb hts qi5 qy5 qk5 qn5 hown hK hw.1 hw.2.1 hw.2.2 0 rfl rfl 4 (by decide) (hts _ wG736) (fun _ h9 => h9) rfl hin2 rfl (by decide +kernel) rfl rfl (Nat.le_of_ble_eq_true rfl) d_M_init_22 (fun H locs h1 h2 h3 => ?_)
  replace hw : GW D A s.heap ([(q, .inr (5, [.int 0, .int 0, .int (-1), .ref q1, .ref q2, .null, .null, .null, .null, .null, .null, .null, .null, .null, .null, .null])), (q1, .inl (g.1, 12, .inl (fun _ => 0))), (q2, .inl (g.1, 12, .inl (fun _ => 0)))]) H locs := ⟨h1, h2, h3⟩
  clear h1 h2 h3
  refine lv_aload_n hx hb d_M_init_25 rfl (lv_at hl 0 rfl) ?_
  refine lv_bipush (v := 12) hx hb d_M_init_26 (by decide) ?_
  refine g_newi (k := 12) hx hb (hts _ wG138) hK hw hA (by decide) (by decide) (Nat.le_of_ble_eq_true rfl) (Nat.le_of_ble_eq_true rfl) (Nat.le_of_ble_eq_true rfl) d_M_init_28 (fun q3 H hw => ?_)
  replace hw : GW D A s.heap ([(q, .inr (5, [.int 0, .int 0, .int (-1), .ref q1, .ref q2, .null, .null, .null, .null, .null, .null, .null, .null, .null, .null, .null])), (q1, .inl (g.1, 12, .inl (fun _ => 0))), (q2, .inl (g.1, 12, .inl (fun _ => 0))), (q3, .inl (g.1, 12, .inl (fun _ => 0)))]) H locs := hw
  refine va_putF (ty := (.array .int)) (D := D) (ci := 5) (v := .ref q3) (C := qR5) (T := qT5) (N := 16) hx hb hts qi5 qy5 qk5 qn5 hown hK hw.1 hw.2.1 hw.2.2 0 rfl rfl 5 (by decide) (hts _ wG737) (fun _ h9 => h9) rfl hin2 rfl (by decide +kernel) rfl rfl (Nat.le_of_ble_eq_true rfl) d_M_init_30 (fun H locs h1 h2 h3 => ?_)
  replace hw : GW D A s.heap ([(q, .inr (5, [.int 0, .int 0, .int (-1), .ref q1, .ref q2, .ref q3, .null, .null, .null, .null, .null, .null, .null, .null, .null, .null])), (q1, .inl (g.1, 12, .inl (fun _ => 0))), (q2, .inl (g.1, 12, .inl (fun _ => 0))), (q3, .inl (g.1, 12, .inl (fun _ => 0)))]) H locs := ⟨h1, h2, h3⟩
  clear h1 h2 h3
  refine lv_aload_n hx hb d_M_init_33 rfl (lv_at hl 0 rfl) ?_
  refine lv_bipush (v := 12) hx hb d_M_init_34 (by decide) ?_
  refine g_newi (k := 12) hx hb (hts _ wG138) hK hw hA (by decide) (by decide) (Nat.le_of_ble_eq_true rfl) (Nat.le_of_ble_eq_true rfl) (Nat.le_of_ble_eq_true rfl) d_M_init_36 (fun q4 H hw => ?_)
  replace hw : GW D A s.heap ([(q, .inr (5, [.int 0, .int 0, .int (-1), .ref q1, .ref q2, .ref q3, .null, .null, .null, .null, .null, .null, .null, .null, .null, .null])), (q1, .inl (g.1, 12, .inl (fun _ => 0))), (q2, .inl (g.1, 12, .inl (fun _ => 0))), (q3, .inl (g.1, 12, .inl (fun _ => 0))), (q4, .inl (g.1, 12, .inl (fun _ => 0)))]) H locs := hw
  refine va_putF (ty := (.array .int)) (D := D) (ci := 5) (v := .ref q4) (C := qR5) (T := qT5) (N := 16) hx hb hts qi5 qy5 qk5 qn5 hown hK hw.1 hw.2.1 hw.2.2 0 rfl rfl 6 (by decide) (hts _ wG738) (fun _ h9 => h9) rfl hin2 rfl (by decide +kernel) rfl rfl (Nat.le_of_ble_eq_true rfl) d_M_init_38 (fun H locs h1 h2 h3 => ?_)
  replace hw : GW D A s.heap ([(q, .inr (5, [.int 0, .int 0, .int (-1), .ref q1, .ref q2, .ref q3, .ref q4, .null, .null, .null, .null, .null, .null, .null, .null, .null])), (q1, .inl (g.1, 12, .inl (fun _ => 0))), (q2, .inl (g.1, 12, .inl (fun _ => 0))), (q3, .inl (g.1, 12, .inl (fun _ => 0))), (q4, .inl (g.1, 12, .inl (fun _ => 0)))]) H locs := ⟨h1, h2, h3⟩
  clear h1 h2 h3
  refine lv_aload_n hx hb d_M_init_41 rfl (lv_at hl 0 rfl) ?_
  refine lv_bipush (v := 12) hx hb d_M_init_42 (by decide) ?_
  refine g_newi (k := 12) hx hb (hts _ wG138) hK hw hA (by decide) (by decide) (Nat.le_of_ble_eq_true rfl) (Nat.le_of_ble_eq_true rfl) (Nat.le_of_ble_eq_true rfl) d_M_init_44 (fun q5 H hw => ?_)
  replace hw : GW D A s.heap ([(q, .inr (5, [.int 0, .int 0, .int (-1), .ref q1, .ref q2, .ref q3, .ref q4, .null, .null, .null, .null, .null, .null, .null, .null, .null])), (q1, .inl (g.1, 12, .inl (fun _ => 0))), (q2, .inl (g.1, 12, .inl (fun _ => 0))), (q3, .inl (g.1, 12, .inl (fun _ => 0))), (q4, .inl (g.1, 12, .inl (fun _ => 0))), (q5, .inl (g.1, 12, .inl (fun _ => 0)))]) H locs := hw
  refine va_putF (ty := (.array .int)) (D := D) (ci := 5) (v := .ref q5) (C := qR5) (T := qT5) (N := 16) hx hb hts qi5 qy5 qk5 qn5 hown hK hw.1 hw.2.1 hw.2.2 0 rfl rfl 7 (by decide) (hts _ wG739) (fun _ h9 => h9) rfl hin2 rfl (by decide +kernel) rfl rfl (Nat.le_of_ble_eq_true rfl) d_M_init_46 (fun H locs h1 h2 h3 => ?_)
  replace hw : GW D A s.heap ([(q, .inr (5, [.int 0, .int 0, .int (-1), .ref q1, .ref q2, .ref q3, .ref q4, .ref q5, .null, .null, .null, .null, .null, .null, .null, .null])), (q1, .inl (g.1, 12, .inl (fun _ => 0))), (q2, .inl (g.1, 12, .inl (fun _ => 0))), (q3, .inl (g.1, 12, .inl (fun _ => 0))), (q4, .inl (g.1, 12, .inl (fun _ => 0))), (q5, .inl (g.1, 12, .inl (fun _ => 0)))]) H locs := ⟨h1, h2, h3⟩
  clear h1 h2 h3
  refine lv_aload_n hx hb d_M_init_49 rfl (lv_at hl 0 rfl) ?_
  refine lv_bipush (v := 12) hx hb d_M_init_50 (by decide) ?_
  refine g_newi (k := 12) hx hb (hts _ wG138) hK hw hA (by decide) (by decide) (Nat.le_of_ble_eq_true rfl) (Nat.le_of_ble_eq_true rfl) (Nat.le_of_ble_eq_true rfl) d_M_init_52 (fun q6 H hw => ?_)
  replace hw : GW D A s.heap ([(q, .inr (5, [.int 0, .int 0, .int (-1), .ref q1, .ref q2, .ref q3, .ref q4, .ref q5, .null, .null, .null, .null, .null, .null, .null, .null])), (q1, .inl (g.1, 12, .inl (fun _ => 0))), (q2, .inl (g.1, 12, .inl (fun _ => 0))), (q3, .inl (g.1, 12, .inl (fun _ => 0))), (q4, .inl (g.1, 12, .inl (fun _ => 0))), (q5, .inl (g.1, 12, .inl (fun _ => 0))), (q6, .inl (g.1, 12, .inl (fun _ => 0)))]) H locs := hw
  refine va_putF (ty := (.array .int)) (D := D) (ci := 5) (v := .ref q6) (C := qR5) (T := qT5) (N := 16) hx hb hts qi5 qy5 qk5 qn5 hown hK hw.1 hw.2.1 hw.2.2 0 rfl rfl 8 (by decide) (hts _ wG740) (fun _ h9 => h9) rfl hin2 rfl (by decide +kernel) rfl rfl (Nat.le_of_ble_eq_true rfl) d_M_init_54 (fun H locs h1 h2 h3 => ?_)
  replace hw : GW D A s.heap ([(q, .inr (5, [.int 0, .int 0, .int (-1), .ref q1, .ref q2, .ref q3, .ref q4, .ref q5, .ref q6, .null, .null, .null, .null, .null, .null, .null])), (q1, .inl (g.1, 12, .inl (fun _ => 0))), (q2, .inl (g.1, 12, .inl (fun _ => 0))), (q3, .inl (g.1, 12, .inl (fun _ => 0))), (q4, .inl (g.1, 12, .inl (fun _ => 0))), (q5, .inl (g.1, 12, .inl (fun _ => 0))), (q6, .inl (g.1, 12, .inl (fun _ => 0)))]) H locs := ⟨h1, h2, h3⟩
  clear h1 h2 h3
  refine lv_aload_n hx hb d_M_init_57 rfl (lv_at hl 0 rfl) ?_
  refine lv_iconst (v := 2) hx hb d_M_init_58 (by decide) ?_
  refine g_newi (k := 2) hx hb (hts _ wG138) hK hw hA (by decide) (by decide) (Nat.le_of_ble_eq_true rfl) (Nat.le_of_ble_eq_true rfl) (Nat.le_of_ble_eq_true rfl) d_M_init_59 (fun q7 H hw => ?_)
  replace hw : GW D A s.heap ([(q, .inr (5, [.int 0, .int 0, .int (-1), .ref q1, .ref q2, .ref q3, .ref q4, .ref q5, .ref q6, .null, .null, .null, .null, .null, .null, .null])), (q1, .inl (g.1, 12, .inl (fun _ => 0))), (q2, .inl (g.1, 12, .inl (fun _ => 0))), (q3, .inl (g.1, 12, .inl (fun _ => 0))), (q4, .inl (g.1, 12, .inl (fun _ => 0))), (q5, .inl (g.1, 12, .inl (fun _ => 0))), (q6, .inl (g.1, 12, .inl (fun _ => 0))), (q7, .inl (g.1, 2, .inl (fun _ => 0)))]) H locs := hw
  refine lv_dup hx hb d_M_init_61 rfl ?_
  refine lv_iconst (v := 0) hx hb d_M_init_62 (by decide) ?_
  refine lv_iconst (v := 1) hx hb d_M_init_63 (by decide) ?_
  refine va_iast hx hb hK hw.1 hw.2.1 hw.2.2 7 0 rfl rfl (i := 0) (n := 2) (by unfold vp_in; decide) d_M_init_64 (fun H locs h1 h2 h3 => ?_)
  replace hw : GW D A s.heap ([(q, .inr (5, [.int 0, .int 0, .int (-1), .ref q1, .ref q2, .ref q3, .ref q4, .ref q5, .ref q6, .null, .null, .null, .null, .null, .null, .null])), (q1, .inl (g.1, 12, .inl (fun _ => 0))), (q2, .inl (g.1, 12, .inl (fun _ => 0))), (q3, .inl (g.1, 12, .inl (fun _ => 0))), (q4, .inl (g.1, 12, .inl (fun _ => 0))), (q5, .inl (g.1, 12, .inl (fun _ => 0))), (q6, .inl (g.1, 12, .inl (fun _ => 0))), (q7, .inl (g.1, 2, .inl (upd (fun _ => 0) (0 : Int32).toNatClampNeg 1)))]) H locs := ⟨h1, h2, h3⟩
  clear h1 h2 h3
  refine lv_dup hx hb d_M_init_65 rfl ?_
  refine lv_iconst (v := 1) hx hb d_M_init_66 (by decide) ?_
  refine lv_iconst (v := 1) hx hb d_M_init_67 (by decide) ?_
  refine va_iast hx hb hK hw.1 hw.2.1 hw.2.2 7 0 rfl rfl (i := 1) (n := 2) (by unfold vp_in; decide) d_M_init_68 (fun H locs h1 h2 h3 => ?_)
  replace hw : GW D A s.heap ([(q, .inr (5, [.int 0, .int 0, .int (-1), .ref q1, .ref q2, .ref q3, .ref q4, .ref q5, .ref q6, .null, .null, .null, .null, .null, .null, .null])), (q1, .inl (g.1, 12, .inl (fun _ => 0))), (q2, .inl (g.1, 12, .inl (fun _ => 0))), (q3, .inl (g.1, 12, .inl (fun _ => 0))), (q4, .inl (g.1, 12, .inl (fun _ => 0))), (q5, .inl (g.1, 12, .inl (fun _ => 0))), (q6, .inl (g.1, 12, .inl (fun _ => 0))), (q7, .inl (g.1, 2, .inl (upd (upd (fun _ => 0) (0 : Int32).toNatClampNeg 1) (1 : Int32).toNatClampNeg 1)))]) H locs := ⟨h1, h2, h3⟩
  clear h1 h2 h3
  refine va_putF (ty := (.array .int)) (D := D) (ci := 5) (v := .ref q7) (C := qR5) (T := qT5) (N := 16) hx hb hts qi5 qy5 qk5 qn5 hown hK hw.1 hw.2.1 hw.2.2 0 rfl rfl 9 (by decide) (hts _ wG741) (fun _ h9 => h9) rfl hin2 rfl (by decide +kernel) rfl rfl (Nat.le_of_ble_eq_true rfl) d_M_init_69 (fun H locs h1 h2 h3 => ?_)
  replace hw : GW D A s.heap ([(q, .inr (5, [.int 0, .int 0, .int (-1), .ref q1, .ref q2, .ref q3, .ref q4, .ref q5, .ref q6, .ref q7, .null, .null, .null, .null, .null, .null])), (q1, .inl (g.1, 12, .inl (fun _ => 0))), (q2, .inl (g.1, 12, .inl (fun _ => 0))), (q3, .inl (g.1, 12, .inl (fun _ => 0))), (q4, .inl (g.1, 12, .inl (fun _ => 0))), (q5, .inl (g.1, 12, .inl (fun _ => 0))), (q6, .inl (g.1, 12, .inl (fun _ => 0))), (q7, .inl (g.1, 2, .inl (upd (upd (fun _ => 0) (0 : Int32).toNatClampNeg 1) (1 : Int32).toNatClampNeg 1)))]) H locs := ⟨h1, h2, h3⟩
  clear h1 h2 h3
  refine lv_aload_n hx hb d_M_init_72 rfl (lv_at hl 0 rfl) ?_
  refine lv_iconst (v := 4) hx hb d_M_init_73 (by decide) ?_
  refine g_newd (k := 4) hx hb (hts _ wG218) hK hw hA (by decide) (by decide) (Nat.le_of_ble_eq_true rfl) (Nat.le_of_ble_eq_true rfl) (Nat.le_of_ble_eq_true rfl) d_M_init_74 (fun q8 H hw => ?_)
  replace hw : GW D A s.heap ([(q, .inr (5, [.int 0, .int 0, .int (-1), .ref q1, .ref q2, .ref q3, .ref q4, .ref q5, .ref q6, .ref q7, .null, .null, .null, .null, .null, .null])), (q1, .inl (g.1, 12, .inl (fun _ => 0))), (q2, .inl (g.1, 12, .inl (fun _ => 0))), (q3, .inl (g.1, 12, .inl (fun _ => 0))), (q4, .inl (g.1, 12, .inl (fun _ => 0))), (q5, .inl (g.1, 12, .inl (fun _ => 0))), (q6, .inl (g.1, 12, .inl (fun _ => 0))), (q7, .inl (g.1, 2, .inl (upd (upd (fun _ => 0) (0 : Int32).toNatClampNeg 1) (1 : Int32).toNatClampNeg 1))), (q8, .inl (g.2.1, 4, .inr (.inr (.inr (.inl (fun _ => 0))))))]) H locs := hw
  refine lv_dup hx hb d_M_init_76 rfl ?_
  refine lv_iconst (v := 0) hx hb d_M_init_77 (by decide) ?_
  refine lv_dconst1 hx hb d_M_init_78 ?_
  refine va_dast hx hb hK hw.1 hw.2.1 hw.2.2 8 1 rfl rfl (i := 0) (n := 4) (by unfold vp_in; decide) d_M_init_79 (fun H locs h1 h2 h3 => ?_)
  replace hw : GW D A s.heap ([(q, .inr (5, [.int 0, .int 0, .int (-1), .ref q1, .ref q2, .ref q3, .ref q4, .ref q5, .ref q6, .ref q7, .null, .null, .null, .null, .null, .null])), (q1, .inl (g.1, 12, .inl (fun _ => 0))), (q2, .inl (g.1, 12, .inl (fun _ => 0))), (q3, .inl (g.1, 12, .inl (fun _ => 0))), (q4, .inl (g.1, 12, .inl (fun _ => 0))), (q5, .inl (g.1, 12, .inl (fun _ => 0))), (q6, .inl (g.1, 12, .inl (fun _ => 0))), (q7, .inl (g.1, 2, .inl (upd (upd (fun _ => 0) (0 : Int32).toNatClampNeg 1) (1 : Int32).toNatClampNeg 1))), (q8, .inl (g.2.1, 4, .inr (.inr (.inr (.inl (vf_upd (fun _ => 0) (0 : Int32).toNatClampNeg FP.dconst1))))))]) H locs := ⟨h1, h2, h3⟩
  clear h1 h2 h3
  refine lv_dup hx hb d_M_init_80 rfl ?_
  refine lv_iconst (v := 1) hx hb d_M_init_81 (by decide) ?_
  refine lv_dconst1 hx hb d_M_init_82 ?_
  refine va_dast hx hb hK hw.1 hw.2.1 hw.2.2 8 1 rfl rfl (i := 1) (n := 4) (by unfold vp_in; decide) d_M_init_83 (fun H locs h1 h2 h3 => ?_)
  replace hw : GW D A s.heap ([(q, .inr (5, [.int 0, .int 0, .int (-1), .ref q1, .ref q2, .ref q3, .ref q4, .ref q5, .ref q6, .ref q7, .null, .null, .null, .null, .null, .null])), (q1, .inl (g.1, 12, .inl (fun _ => 0))), (q2, .inl (g.1, 12, .inl (fun _ => 0))), (q3, .inl (g.1, 12, .inl (fun _ => 0))), (q4, .inl (g.1, 12, .inl (fun _ => 0))), (q5, .inl (g.1, 12, .inl (fun _ => 0))), (q6, .inl (g.1, 12, .inl (fun _ => 0))), (q7, .inl (g.1, 2, .inl (upd (upd (fun _ => 0) (0 : Int32).toNatClampNeg 1) (1 : Int32).toNatClampNeg 1))), (q8, .inl (g.2.1, 4, .inr (.inr (.inr (.inl (vf_upd (vf_upd (fun _ => 0) (0 : Int32).toNatClampNeg FP.dconst1) (1 : Int32).toNatClampNeg FP.dconst1))))))]) H locs := ⟨h1, h2, h3⟩
  clear h1 h2 h3
  refine lv_dup hx hb d_M_init_84 rfl ?_
  refine lv_iconst (v := 2) hx hb d_M_init_85 (by decide) ?_
  refine lv_dconst1 hx hb d_M_init_86 ?_
  refine va_dast hx hb hK hw.1 hw.2.1 hw.2.2 8 1 rfl rfl (i := 2) (n := 4) (by unfold vp_in; decide) d_M_init_87 (fun H locs h1 h2 h3 => ?_)
  replace hw : GW D A s.heap ([(q, .inr (5, [.int 0, .int 0, .int (-1), .ref q1, .ref q2, .ref q3, .ref q4, .ref q5, .ref q6, .ref q7, .null, .null, .null, .null, .null, .null])), (q1, .inl (g.1, 12, .inl (fun _ => 0))), (q2, .inl (g.1, 12, .inl (fun _ => 0))), (q3, .inl (g.1, 12, .inl (fun _ => 0))), (q4, .inl (g.1, 12, .inl (fun _ => 0))), (q5, .inl (g.1, 12, .inl (fun _ => 0))), (q6, .inl (g.1, 12, .inl (fun _ => 0))), (q7, .inl (g.1, 2, .inl (upd (upd (fun _ => 0) (0 : Int32).toNatClampNeg 1) (1 : Int32).toNatClampNeg 1))), (q8, .inl (g.2.1, 4, .inr (.inr (.inr (.inl (vf_upd (vf_upd (vf_upd (fun _ => 0) (0 : Int32).toNatClampNeg FP.dconst1) (1 : Int32).toNatClampNeg FP.dconst1) (2 : Int32).toNatClampNeg FP.dconst1))))))]) H locs := ⟨h1, h2, h3⟩
  clear h1 h2 h3
  refine lv_dup hx hb d_M_init_88 rfl ?_
  refine lv_iconst (v := 3) hx hb d_M_init_89 (by decide) ?_
  refine lv_dconst1 hx hb d_M_init_90 ?_
  refine va_dast hx hb hK hw.1 hw.2.1 hw.2.2 8 1 rfl rfl (i := 3) (n := 4) (by unfold vp_in; decide) d_M_init_91 (fun H locs h1 h2 h3 => ?_)
  replace hw : GW D A s.heap ([(q, .inr (5, [.int 0, .int 0, .int (-1), .ref q1, .ref q2, .ref q3, .ref q4, .ref q5, .ref q6, .ref q7, .null, .null, .null, .null, .null, .null])), (q1, .inl (g.1, 12, .inl (fun _ => 0))), (q2, .inl (g.1, 12, .inl (fun _ => 0))), (q3, .inl (g.1, 12, .inl (fun _ => 0))), (q4, .inl (g.1, 12, .inl (fun _ => 0))), (q5, .inl (g.1, 12, .inl (fun _ => 0))), (q6, .inl (g.1, 12, .inl (fun _ => 0))), (q7, .inl (g.1, 2, .inl (upd (upd (fun _ => 0) (0 : Int32).toNatClampNeg 1) (1 : Int32).toNatClampNeg 1))), (q8, .inl (g.2.1, 4, .inr (.inr (.inr (.inl (vf_upd (vf_upd (vf_upd (vf_upd (fun _ => 0) (0 : Int32).toNatClampNeg FP.dconst1) (1 : Int32).toNatClampNeg FP.dconst1) (2 : Int32).toNatClampNeg FP.dconst1) (3 : Int32).toNatClampNeg FP.dconst1))))))]) H locs := ⟨h1, h2, h3⟩
  clear h1 h2 h3
  refine va_putF (ty := (.array .double)) (D := D) (ci := 5) (v := .ref q8) (C := qR5) (T := qT5) (N := 16) hx hb hts qi5 qy5 qk5 qn5 hown hK hw.1 hw.2.1 hw.2.2 0 rfl rfl 10 (by decide) (hts _ wG742) (fun _ h9 => h9) rfl hin2 rfl (by decide +kernel) rfl rfl (Nat.le_of_ble_eq_true rfl) d_M_init_92 (fun H locs h1 h2 h3 => ?_)
  replace hw : GW D A s.heap ([(q, .inr (5, [.int 0, .int 0, .int (-1), .ref q1, .ref q2, .ref q3, .ref q4, .ref q5, .ref q6, .ref q7, .ref q8, .null, .null, .null, .null, .null])), (q1, .inl (g.1, 12, .inl (fun _ => 0))), (q2, .inl (g.1, 12, .inl (fun _ => 0))), (q3, .inl (g.1, 12, .inl (fun _ => 0))), (q4, .inl (g.1, 12, .inl (fun _ => 0))), (q5, .inl (g.1, 12, .inl (fun _ => 0))), (q6, .inl (g.1, 12, .inl (fun _ => 0))), (q7, .inl (g.1, 2, .inl (upd (upd (fun _ => 0) (0 : Int32).toNatClampNeg 1) (1 : Int32).toNatClampNeg 1))), (q8, .inl (g.2.1, 4, .inr (.inr (.inr (.inl (vf_upd (vf_upd (vf_upd (vf_upd (fun _ => 0) (0 : Int32).toNatClampNeg FP.dconst1) (1 : Int32).toNatClampNeg FP.dconst1) (2 : Int32).toNatClampNeg FP.dconst1) (3 : Int32).toNatClampNeg FP.dconst1))))))]) H locs := ⟨h1, h2, h3⟩
  clear h1 h2 h3
  refine lv_aload_n hx hb d_M_init_95 rfl (lv_at hl 0 rfl) ?_
  refine lv_bipush (v := 12) hx hb d_M_init_96 (by decide) ?_
  refine g_newi (k := 12) hx hb (hts _ wG138) hK hw hA (by decide) (by decide) (Nat.le_of_ble_eq_true rfl) (Nat.le_of_ble_eq_true rfl) (Nat.le_of_ble_eq_true rfl) d_M_init_98 (fun q9 H hw => ?_)
  replace hw : GW D A s.heap ([(q, .inr (5, [.int 0, .int 0, .int (-1), .ref q1, .ref q2, .ref q3, .ref q4, .ref q5, .ref q6, .ref q7, .ref q8, .null, .null, .null, .null, .null])), (q1, .inl (g.1, 12, .inl (fun _ => 0))), (q2, .inl (g.1, 12, .inl (fun _ => 0))), (q3, .inl (g.1, 12, .inl (fun _ => 0))), (q4, .inl (g.1, 12, .inl (fun _ => 0))), (q5, .inl (g.1, 12, .inl (fun _ => 0))), (q6, .inl (g.1, 12, .inl (fun _ => 0))), (q7, .inl (g.1, 2, .inl (upd (upd (fun _ => 0) (0 : Int32).toNatClampNeg 1) (1 : Int32).toNatClampNeg 1))), (q8, .inl (g.2.1, 4, .inr (.inr (.inr (.inl (vf_upd (vf_upd (vf_upd (vf_upd (fun _ => 0) (0 : Int32).toNatClampNeg FP.dconst1) (1 : Int32).toNatClampNeg FP.dconst1) (2 : Int32).toNatClampNeg FP.dconst1) (3 : Int32).toNatClampNeg FP.dconst1)))))), (q9, .inl (g.1, 12, .inl (fun _ => 0)))]) H locs := hw
  refine va_putF (ty := (.array .int)) (D := D) (ci := 5) (v := .ref q9) (C := qR5) (T := qT5) (N := 16) hx hb hts qi5 qy5 qk5 qn5 hown hK hw.1 hw.2.1 hw.2.2 0 rfl rfl 11 (by decide) (hts _ wG743) (fun _ h9 => h9) rfl hin2 rfl (by decide +kernel) rfl rfl (Nat.le_of_ble_eq_true rfl) d_M_init_100 (fun H locs h1 h2 h3 => ?_)
  replace hw : GW D A s.heap ([(q, .inr (5, [.int 0, .int 0, .int (-1), .ref q1, .ref q2, .ref q3, .ref q4, .ref q5, .ref q6, .ref q7, .ref q8, .ref q9, .null, .null, .null, .null])), (q1, .inl (g.1, 12, .inl (fun _ => 0))), (q2, .inl (g.1, 12, .inl (fun _ => 0))), (q3, .inl (g.1, 12, .inl (fun _ => 0))), (q4, .inl (g.1, 12, .inl (fun _ => 0))), (q5, .inl (g.1, 12, .inl (fun _ => 0))), (q6, .inl (g.1, 12, .inl (fun _ => 0))), (q7, .inl (g.1, 2, .inl (upd (upd (fun _ => 0) (0 : Int32).toNatClampNeg 1) (1 : Int32).toNatClampNeg 1))), (q8, .inl (g.2.1, 4, .inr (.inr (.inr (.inl (vf_upd (vf_upd (vf_upd (vf_upd (fun _ => 0) (0 : Int32).toNatClampNeg FP.dconst1) (1 : Int32).toNatClampNeg FP.dconst1) (2 : Int32).toNatClampNeg FP.dconst1) (3 : Int32).toNatClampNeg FP.dconst1)))))), (q9, .inl (g.1, 12, .inl (fun _ => 0)))]) H locs := ⟨h1, h2, h3⟩
  clear h1 h2 h3
  refine lv_aload_n hx hb d_M_init_103 rfl (lv_at hl 0 rfl) ?_
  refine lv_sipush (v := 264) hx hb d_M_init_104 (by decide) ?_
  refine g_newi (k := 264) hx hb (hts _ wG138) hK hw hA (by decide) (by decide) (Nat.le_of_ble_eq_true rfl) (Nat.le_of_ble_eq_true rfl) (Nat.le_of_ble_eq_true rfl) d_M_init_107 (fun q10 H hw => ?_)
  replace hw : GW D A s.heap ([(q, .inr (5, [.int 0, .int 0, .int (-1), .ref q1, .ref q2, .ref q3, .ref q4, .ref q5, .ref q6, .ref q7, .ref q8, .ref q9, .null, .null, .null, .null])), (q1, .inl (g.1, 12, .inl (fun _ => 0))), (q2, .inl (g.1, 12, .inl (fun _ => 0))), (q3, .inl (g.1, 12, .inl (fun _ => 0))), (q4, .inl (g.1, 12, .inl (fun _ => 0))), (q5, .inl (g.1, 12, .inl (fun _ => 0))), (q6, .inl (g.1, 12, .inl (fun _ => 0))), (q7, .inl (g.1, 2, .inl (upd (upd (fun _ => 0) (0 : Int32).toNatClampNeg 1) (1 : Int32).toNatClampNeg 1))), (q8, .inl (g.2.1, 4, .inr (.inr (.inr (.inl (vf_upd (vf_upd (vf_upd (vf_upd (fun _ => 0) (0 : Int32).toNatClampNeg FP.dconst1) (1 : Int32).toNatClampNeg FP.dconst1) (2 : Int32).toNatClampNeg FP.dconst1) (3 : Int32).toNatClampNeg FP.dconst1)))))), (q9, .inl (g.1, 12, .inl (fun _ => 0))), (q10, .inl (g.1, 264, .inl (fun _ => 0)))]) H locs := hw
  refine va_putF (ty := (.array .int)) (D := D) (ci := 5) (v := .ref q10) (C := qR5) (T := qT5) (N := 16) hx hb hts qi5 qy5 qk5 qn5 hown hK hw.1 hw.2.1 hw.2.2 0 rfl rfl 12 (by decide) (hts _ wG744) (fun _ h9 => h9) rfl hin2 rfl (by decide +kernel) rfl rfl (Nat.le_of_ble_eq_true rfl) d_M_init_109 (fun H locs h1 h2 h3 => ?_)
  replace hw : GW D A s.heap ([(q, .inr (5, [.int 0, .int 0, .int (-1), .ref q1, .ref q2, .ref q3, .ref q4, .ref q5, .ref q6, .ref q7, .ref q8, .ref q9, .ref q10, .null, .null, .null])), (q1, .inl (g.1, 12, .inl (fun _ => 0))), (q2, .inl (g.1, 12, .inl (fun _ => 0))), (q3, .inl (g.1, 12, .inl (fun _ => 0))), (q4, .inl (g.1, 12, .inl (fun _ => 0))), (q5, .inl (g.1, 12, .inl (fun _ => 0))), (q6, .inl (g.1, 12, .inl (fun _ => 0))), (q7, .inl (g.1, 2, .inl (upd (upd (fun _ => 0) (0 : Int32).toNatClampNeg 1) (1 : Int32).toNatClampNeg 1))), (q8, .inl (g.2.1, 4, .inr (.inr (.inr (.inl (vf_upd (vf_upd (vf_upd (vf_upd (fun _ => 0) (0 : Int32).toNatClampNeg FP.dconst1) (1 : Int32).toNatClampNeg FP.dconst1) (2 : Int32).toNatClampNeg FP.dconst1) (3 : Int32).toNatClampNeg FP.dconst1)))))), (q9, .inl (g.1, 12, .inl (fun _ => 0))), (q10, .inl (g.1, 264, .inl (fun _ => 0)))]) H locs := ⟨h1, h2, h3⟩
  clear h1 h2 h3
  refine lv_aload_n hx hb d_M_init_112 rfl (lv_at hl 0 rfl) ?_
  refine lv_sipush (v := 528) hx hb d_M_init_113 (by decide) ?_
  refine g_newi (k := 528) hx hb (hts _ wG138) hK hw hA (by decide) (by decide) (Nat.le_of_ble_eq_true rfl) (Nat.le_of_ble_eq_true rfl) (Nat.le_of_ble_eq_true rfl) d_M_init_116 (fun q11 H hw => ?_)
  replace hw : GW D A s.heap ([(q, .inr (5, [.int 0, .int 0, .int (-1), .ref q1, .ref q2, .ref q3, .ref q4, .ref q5, .ref q6, .ref q7, .ref q8, .ref q9, .ref q10, .null, .null, .null])), (q1, .inl (g.1, 12, .inl (fun _ => 0))), (q2, .inl (g.1, 12, .inl (fun _ => 0))), (q3, .inl (g.1, 12, .inl (fun _ => 0))), (q4, .inl (g.1, 12, .inl (fun _ => 0))), (q5, .inl (g.1, 12, .inl (fun _ => 0))), (q6, .inl (g.1, 12, .inl (fun _ => 0))), (q7, .inl (g.1, 2, .inl (upd (upd (fun _ => 0) (0 : Int32).toNatClampNeg 1) (1 : Int32).toNatClampNeg 1))), (q8, .inl (g.2.1, 4, .inr (.inr (.inr (.inl (vf_upd (vf_upd (vf_upd (vf_upd (fun _ => 0) (0 : Int32).toNatClampNeg FP.dconst1) (1 : Int32).toNatClampNeg FP.dconst1) (2 : Int32).toNatClampNeg FP.dconst1) (3 : Int32).toNatClampNeg FP.dconst1)))))), (q9, .inl (g.1, 12, .inl (fun _ => 0))), (q10, .inl (g.1, 264, .inl (fun _ => 0))), (q11, .inl (g.1, 528, .inl (fun _ => 0)))]) H locs := hw
  refine va_putF (ty := (.array .int)) (D := D) (ci := 5) (v := .ref q11) (C := qR5) (T := qT5) (N := 16) hx hb hts qi5 qy5 qk5 qn5 hown hK hw.1 hw.2.1 hw.2.2 0 rfl rfl 13 (by decide) (hts _ wG745) (fun _ h9 => h9) rfl hin2 rfl (by decide +kernel) rfl rfl (Nat.le_of_ble_eq_true rfl) d_M_init_118 (fun H locs h1 h2 h3 => ?_)
  replace hw : GW D A s.heap ([(q, .inr (5, [.int 0, .int 0, .int (-1), .ref q1, .ref q2, .ref q3, .ref q4, .ref q5, .ref q6, .ref q7, .ref q8, .ref q9, .ref q10, .ref q11, .null, .null])), (q1, .inl (g.1, 12, .inl (fun _ => 0))), (q2, .inl (g.1, 12, .inl (fun _ => 0))), (q3, .inl (g.1, 12, .inl (fun _ => 0))), (q4, .inl (g.1, 12, .inl (fun _ => 0))), (q5, .inl (g.1, 12, .inl (fun _ => 0))), (q6, .inl (g.1, 12, .inl (fun _ => 0))), (q7, .inl (g.1, 2, .inl (upd (upd (fun _ => 0) (0 : Int32).toNatClampNeg 1) (1 : Int32).toNatClampNeg 1))), (q8, .inl (g.2.1, 4, .inr (.inr (.inr (.inl (vf_upd (vf_upd (vf_upd (vf_upd (fun _ => 0) (0 : Int32).toNatClampNeg FP.dconst1) (1 : Int32).toNatClampNeg FP.dconst1) (2 : Int32).toNatClampNeg FP.dconst1) (3 : Int32).toNatClampNeg FP.dconst1)))))), (q9, .inl (g.1, 12, .inl (fun _ => 0))), (q10, .inl (g.1, 264, .inl (fun _ => 0))), (q11, .inl (g.1, 528, .inl (fun _ => 0)))]) H locs := ⟨h1, h2, h3⟩
  clear h1 h2 h3
  refine lv_aload_n hx hb d_M_init_121 rfl (lv_at hl 0 rfl) ?_
  refine lv_bipush (v := 12) hx hb d_M_init_122 (by decide) ?_
  refine g_newd (k := 12) hx hb (hts _ wG218) hK hw hA (by decide) (by decide) (Nat.le_of_ble_eq_true rfl) (Nat.le_of_ble_eq_true rfl) (Nat.le_of_ble_eq_true rfl) d_M_init_124 (fun q12 H hw => ?_)
  replace hw : GW D A s.heap ([(q, .inr (5, [.int 0, .int 0, .int (-1), .ref q1, .ref q2, .ref q3, .ref q4, .ref q5, .ref q6, .ref q7, .ref q8, .ref q9, .ref q10, .ref q11, .null, .null])), (q1, .inl (g.1, 12, .inl (fun _ => 0))), (q2, .inl (g.1, 12, .inl (fun _ => 0))), (q3, .inl (g.1, 12, .inl (fun _ => 0))), (q4, .inl (g.1, 12, .inl (fun _ => 0))), (q5, .inl (g.1, 12, .inl (fun _ => 0))), (q6, .inl (g.1, 12, .inl (fun _ => 0))), (q7, .inl (g.1, 2, .inl (upd (upd (fun _ => 0) (0 : Int32).toNatClampNeg 1) (1 : Int32).toNatClampNeg 1))), (q8, .inl (g.2.1, 4, .inr (.inr (.inr (.inl (vf_upd (vf_upd (vf_upd (vf_upd (fun _ => 0) (0 : Int32).toNatClampNeg FP.dconst1) (1 : Int32).toNatClampNeg FP.dconst1) (2 : Int32).toNatClampNeg FP.dconst1) (3 : Int32).toNatClampNeg FP.dconst1)))))), (q9, .inl (g.1, 12, .inl (fun _ => 0))), (q10, .inl (g.1, 264, .inl (fun _ => 0))), (q11, .inl (g.1, 528, .inl (fun _ => 0))), (q12, .inl (g.2.1, 12, .inr (.inr (.inr (.inl (fun _ => 0))))))]) H locs := hw
  refine va_putF (ty := (.array .double)) (D := D) (ci := 5) (v := .ref q12) (C := qR5) (T := qT5) (N := 16) hx hb hts qi5 qy5 qk5 qn5 hown hK hw.1 hw.2.1 hw.2.2 0 rfl rfl 14 (by decide) (hts _ wG746) (fun _ h9 => h9) rfl hin2 rfl (by decide +kernel) rfl rfl (Nat.le_of_ble_eq_true rfl) d_M_init_126 (fun H locs h1 h2 h3 => ?_)
  replace hw : GW D A s.heap ([(q, .inr (5, [.int 0, .int 0, .int (-1), .ref q1, .ref q2, .ref q3, .ref q4, .ref q5, .ref q6, .ref q7, .ref q8, .ref q9, .ref q10, .ref q11, .ref q12, .null])), (q1, .inl (g.1, 12, .inl (fun _ => 0))), (q2, .inl (g.1, 12, .inl (fun _ => 0))), (q3, .inl (g.1, 12, .inl (fun _ => 0))), (q4, .inl (g.1, 12, .inl (fun _ => 0))), (q5, .inl (g.1, 12, .inl (fun _ => 0))), (q6, .inl (g.1, 12, .inl (fun _ => 0))), (q7, .inl (g.1, 2, .inl (upd (upd (fun _ => 0) (0 : Int32).toNatClampNeg 1) (1 : Int32).toNatClampNeg 1))), (q8, .inl (g.2.1, 4, .inr (.inr (.inr (.inl (vf_upd (vf_upd (vf_upd (vf_upd (fun _ => 0) (0 : Int32).toNatClampNeg FP.dconst1) (1 : Int32).toNatClampNeg FP.dconst1) (2 : Int32).toNatClampNeg FP.dconst1) (3 : Int32).toNatClampNeg FP.dconst1)))))), (q9, .inl (g.1, 12, .inl (fun _ => 0))), (q10, .inl (g.1, 264, .inl (fun _ => 0))), (q11, .inl (g.1, 528, .inl (fun _ => 0))), (q12, .inl (g.2.1, 12, .inr (.inr (.inr (.inl (fun _ => 0))))))]) H locs := ⟨h1, h2, h3⟩
  clear h1 h2 h3
  refine lv_aload_n hx hb d_M_init_129 rfl (lv_at hl 0 rfl) ?_
  refine lv_bipush (v := 12) hx hb d_M_init_130 (by decide) ?_
  refine g_newz (k := 12) hx hb (hts _ wG781) hK hw hA (by decide) (by decide) (Nat.le_of_ble_eq_true rfl) (Nat.le_of_ble_eq_true rfl) (Nat.le_of_ble_eq_true rfl) d_M_init_132 (fun q13 H hw => ?_)
  replace hw : GW D A s.heap ([(q, .inr (5, [.int 0, .int 0, .int (-1), .ref q1, .ref q2, .ref q3, .ref q4, .ref q5, .ref q6, .ref q7, .ref q8, .ref q9, .ref q10, .ref q11, .ref q12, .null])), (q1, .inl (g.1, 12, .inl (fun _ => 0))), (q2, .inl (g.1, 12, .inl (fun _ => 0))), (q3, .inl (g.1, 12, .inl (fun _ => 0))), (q4, .inl (g.1, 12, .inl (fun _ => 0))), (q5, .inl (g.1, 12, .inl (fun _ => 0))), (q6, .inl (g.1, 12, .inl (fun _ => 0))), (q7, .inl (g.1, 2, .inl (upd (upd (fun _ => 0) (0 : Int32).toNatClampNeg 1) (1 : Int32).toNatClampNeg 1))), (q8, .inl (g.2.1, 4, .inr (.inr (.inr (.inl (vf_upd (vf_upd (vf_upd (vf_upd (fun _ => 0) (0 : Int32).toNatClampNeg FP.dconst1) (1 : Int32).toNatClampNeg FP.dconst1) (2 : Int32).toNatClampNeg FP.dconst1) (3 : Int32).toNatClampNeg FP.dconst1)))))), (q9, .inl (g.1, 12, .inl (fun _ => 0))), (q10, .inl (g.1, 264, .inl (fun _ => 0))), (q11, .inl (g.1, 528, .inl (fun _ => 0))), (q12, .inl (g.2.1, 12, .inr (.inr (.inr (.inl (fun _ => 0)))))), (q13, .inl (g.2.2.2.1, 12, .inl (fun _ => 0)))]) H locs := hw
  refine va_putF (ty := (.array .boolean)) (D := D) (ci := 5) (v := .ref q13) (C := qR5) (T := qT5) (N := 16) hx hb hts qi5 qy5 qk5 qn5 hown hK hw.1 hw.2.1 hw.2.2 0 rfl rfl 15 (by decide) (hts _ wG747) (fun _ h9 => h9) rfl hin2 rfl (by decide +kernel) rfl rfl (Nat.le_of_ble_eq_true rfl) d_M_init_134 (fun H locs h1 h2 h3 => ?_)
  replace hw : GW D A s.heap ([(q, .inr (5, [.int 0, .int 0, .int (-1), .ref q1, .ref q2, .ref q3, .ref q4, .ref q5, .ref q6, .ref q7, .ref q8, .ref q9, .ref q10, .ref q11, .ref q12, .ref q13])), (q1, .inl (g.1, 12, .inl (fun _ => 0))), (q2, .inl (g.1, 12, .inl (fun _ => 0))), (q3, .inl (g.1, 12, .inl (fun _ => 0))), (q4, .inl (g.1, 12, .inl (fun _ => 0))), (q5, .inl (g.1, 12, .inl (fun _ => 0))), (q6, .inl (g.1, 12, .inl (fun _ => 0))), (q7, .inl (g.1, 2, .inl (upd (upd (fun _ => 0) (0 : Int32).toNatClampNeg 1) (1 : Int32).toNatClampNeg 1))), (q8, .inl (g.2.1, 4, .inr (.inr (.inr (.inl (vf_upd (vf_upd (vf_upd (vf_upd (fun _ => 0) (0 : Int32).toNatClampNeg FP.dconst1) (1 : Int32).toNatClampNeg FP.dconst1) (2 : Int32).toNatClampNeg FP.dconst1) (3 : Int32).toNatClampNeg FP.dconst1)))))), (q9, .inl (g.1, 12, .inl (fun _ => 0))), (q10, .inl (g.1, 264, .inl (fun _ => 0))), (q11, .inl (g.1, 528, .inl (fun _ => 0))), (q12, .inl (g.2.1, 12, .inr (.inr (.inr (.inl (fun _ => 0)))))), (q13, .inl (g.2.2.2.1, 12, .inl (fun _ => 0)))]) H locs := ⟨h1, h2, h3⟩
  clear h1 h2 h3
  refine W.widen (k := 13) (n := 906) (Nat.le_of_ble_eq_true rfl) (Nat.le_of_ble_eq_true rfl) ?_
  exact W.vret hx hb hr (fun t ht hW => ⟨⟨aMod q q1 q2 q3 q4 q5 q6 q7 q8 q9 q10 q11 q12 q13, rfl, rfl, by rw [ht]; exact hw.1.sub [0, 1, 2, 3, 4, 5, 6, 7, 8, 9, 10, 11, 12, 13] rfl, hw.2.1.sub [0, 1, 2, 3, 4, 5, 6, 7, 8, 9, 10, 11, 12, 13] rfl rfl⟩, hw.2.2.F ht⟩) hw.2.2.2.2 d_M_init_137
abbrev rm_F_init : Room := { frames := 3, cells := 39, slots := 1179, locals := 64 }
set_option maxHeartbeats 8000000 in
set_option maxRecDepth 100000 in
theorem c_F_init (l : Launch) (D : va_G) (g : gK) (q sz : Nat) (post : MI → MF → MG → Prop) (h : wp_N_removeAll zI zF zG (fun I F _ => post (fI I) (fF F) onesG)) : Met l y_F_init (.code y_F_init b_F_init 1 none :: lwG) rm_F_init (iPc D g [(q, .inr (0, [.null, .null, .null, .null, .int 0]))] sz [.ref q]) (va_Qv (fun (u : (Nat → Nat) × cM) => u.1 0 = q ∧ post u.2.1 u.2.2.1 u.2.2.2) (fun (u : (Nat → Nat) × cM) t => va_P D vwCl (WC (D, g.1, g.2.1, g.2.2.1, u.1) u.2.1 u.2.2.1 u.2.2.2) t.heap ∧ va_D (va_A [(q, .inr (0, [.null, .null, .null, .null, .int 0]))] sz) (WC (D, g.1, g.2.1, g.2.2.1, u.1) u.2.1 u.2.2.1 u.2.2.2)) (va_A [(q, .inr (0, [.null, .null, .null, .null, .int 0]))] sz)) 39 1179 (va_A [(q, .inr (0, [.null, .null, .null, .null, .int 0]))] sz) := by
  refine Met.ofW (cc := b_F_init) (maxL := 1) (ret := none) (by decide) rfl ?_
  intro p e s m args below meth c s₁ B hml hv
  obtain ⟨rfl, hsz, hP, hK, hD0, hN, hV⟩ := hv
  have xc : xC p s m _ meth c b_F_init 1 lwG qR0 none := ⟨B.exec, B.bytes, hml, findClass_of_methodNamed B.named, fun w h => atoms_spec (ws := (.code y_F_init b_F_init 1 none :: lwG)) B.pre w (List.mem_cons_of_mem _ h), B.returns, B.notSynchronized⟩
  have hin2 : meth.name = "<init>" := (name_of_methodNamed B.named B.method).1
  obtain ⟨hx, hb, hml, hown, hts, hr, hlocks⟩ := id xc
  subst hsz
  have hD : va_D (va_A [(q, .inr (0, [.null, .null, .null, .null, .int 0]))] s.heap.size) [(q, .inr (0, [.null, .null, .null, .null, .int 0]))] := hD0.self
  have hA0 : ∀ q9 : Nat, s.heap.size ≤ q9 → va_A [(q, .inr (0, [.null, .null, .null, .null, .int 0]))] s.heap.size q9 := fun q9 h9 => Or.inr h9
  generalize va_A [(q, .inr (0, [.null, .null, .null, .null, .int 0]))] s.heap.size = A at hD hA0 ⊢
  have hA := hA0
  have hw : GW D A s.heap [(q, .inr (0, [.null, .null, .null, .null, .int 0]))] s.heap [] := ⟨hP, hD, va_S.rf⟩
  have hl := lv_entry ([.ref q]) (n := 1) (Nat.le_of_ble_eq_true rfl)
  rw [lg_entry_eq]
  generalize (lg_sl ([.ref q]) ++ List.replicate (1 - (lg_sl ([.ref q])).length) Slot.unset).toArray = ls at hl ⊢
  have hl : lv_has ls 1 [(0, .ref q)] := hl
  generalize hloc : ([] : List Loc) = locs at hw ⊢
  clear hloc
  refine lv_aload_n hx hb d_F_init_0 rfl (lv_at hl 0 rfl) ?_
  refine W.objInit (g := F0 m 1 ls [.ref q]) hx hb hown (hts _ wG70) (hts _ wG71) (hts _ wG72) rfl (hl.1.trans hml.symm) rfl d_F_init_1 (Nat.le_of_ble_eq_true rfl) (Nat.le_of_ble_eq_true rfl) ?_
  show W _ _ _ _ _ _ _ _ _ _ _ _ _ _ _ (F0 m 4 ls [])
  refine lv_aload_n hx hb d_F_init_4 rfl (lv_at hl 0 rfl) ?_
  refine va_new (D := D) (ci := 1) (C := qR1) (T := qT1) (N := 13) hx hb hts qi1 qy1 qk1 hown (hts _ wG73) (hts _ wG74) (hts _ wG49) hK hw.1 hw.2.1 hw.2.2 hA rfl (fs := [.int 0, .null, .null, .null, .null, .null, .null, .null, .null, .null, .null, .null, .null]) (by decide +kernel) (Nat.le_of_ble_eq_true rfl) (Nat.le_of_ble_eq_true rfl) d_F_init_5 (fun q1 H h1 h2 h3 => ?_)
  replace hw : GW D A s.heap ([(q, .inr (0, [.null, .null, .null, .null, .int 0])), (q1, .inr (1, [.int 0, .null, .null, .null, .null, .null, .null, .null, .null, .null, .null, .null, .null]))]) H locs := ⟨h1, h2, h3⟩
  clear h1 h2 h3
  refine lv_dup hx hb d_F_init_8 rfl ?_
  have hCs : va_P D vwCl ([(q1, .inr (1, [.int 0, .null, .null, .null, .null, .null, .null, .null, .null, .null, .null, .null, .null]))]) H := hw.1.sub [1] rfl
  have hDs : va_D A ([(q1, .inr (1, [.int 0, .null, .null, .null, .null, .null, .null, .null, .null, .null, .null, .null, .null]))]) := hw.2.1.sub [1] rfl rfl
  have hfr := va_free hw.2.1 hw.2.2 hA [1] (wc := [(q1, .inr (1, [.int 0, .null, .null, .null, .null, .null, .null, .null, .null, .null, .null, .null, .null]))]) rfl
  refine va_callv (va_runI (As := []) (rest := [.ref q1, .ref q]) ⟨hx, hb, hml, hown, hts⟩ (c_N_init l D g q1 H.size _ h) (cwI 0 hts (gC wG77) rfl rfl rfl (hts _ wG49) (hts _ wG75) (hts _ wG76) rfl (by decide +kernel) ⟨Nat.le_of_ble_eq_true rfl, Nat.le_of_ble_eq_true rfl⟩) ⟨iPc_blind _ _ _ _ _, fun U hU hW => ⟨rfl, by rw [hU], by rw [hU]; exact hCs, va_K.moved hW.alike hK, hDs.weaken (fun _ _ _ _ => trivial), cNk.warm hW hN, gOv.warm hW hV⟩⟩ rfl rfl hl.1 rfl (lv_room (Nat.le_of_ble_eq_true rfl)) d_F_init_9 ⟨Nat.le_of_ble_eq_true rfl, Nat.le_of_ble_eq_true rfl⟩) hw.2.2 (fun q _ h9 => hfr q h9) hfr (fun u t H locs ht hal hp hB hz hk hS => ?_)
  obtain ⟨aN, IN, FN, GN⟩ := u
  obtain ⟨hq1, hp⟩ := hp
  have hq1 : aN 1 = q1 := hq1
  have hpN : post _ _ _ := hp
  have hj := va_join hw.1 hw.2.1 [1] [0] (wc := [(q1, .inr (1, [.int 0, .null, .null, .null, .null, .null, .null, .null, .null, .null, .null, .null, .null]))]) (wr := [(q, .inr (0, [.null, .null, .null, .null, .int 0]))]) rfl rfl (by decide) (by decide) hk hfr (by rw [← ht]; exact hB.1) hB.2
  subst hq1
  replace hw : GW D A s.heap ([(q, .inr (0, [.null, .null, .null, .null, .int 0]))] ++ WN (D, g.1, g.2.1, g.2.2.1, aN) IN FN GN) H locs := ⟨hj.1, hj.2, hS⟩
  clear hj hS hk hz hB ht hal hCs hDs hfr
  refine va_putF (ty := (.object "ChipForge$Netlist")) (D := D) (ci := 0) (v := .ref (aN 1)) (C := qR0) (T := qT0) (N := 5) hx hb hts qi0 qy0 qk0 qn0 hown hK hw.1 hw.2.1 hw.2.2 0 rfl rfl 0 (by decide) (hts _ wG219) (fun _ h9 => h9) rfl hin2 rfl (by decide +kernel) rfl rfl (Nat.le_of_ble_eq_true rfl) d_F_init_12 (fun H locs h1 h2 h3 => ?_)
  replace hw : GW D A s.heap ([(q, .inr (0, [.ref (aN 1), .null, .null, .null, .int 0]))] ++ WN (D, g.1, g.2.1, g.2.2.1, aN) IN FN GN) H locs := ⟨h1, h2, h3⟩
  clear h1 h2 h3
  refine lv_aload_n hx hb d_F_init_15 rfl (lv_at hl 0 rfl) ?_
  refine va_new (D := D) (ci := 2) (C := qR2) (T := qT2) (N := 3) hx hb hts qi2 qy2 qk2 hown (hts _ wG139) (hts _ wG140) (hts _ wG51) hK hw.1 hw.2.1 hw.2.2 hA rfl (fs := [.null, .int 0, .null]) (by decide +kernel) (Nat.le_of_ble_eq_true rfl) (Nat.le_of_ble_eq_true rfl) d_F_init_16 (fun q2 H h1 h2 h3 => ?_)
  replace hw : GW D A s.heap ([(q, .inr (0, [.ref (aN 1), .null, .null, .null, .int 0]))] ++ WN (D, g.1, g.2.1, g.2.2.1, aN) IN FN GN ++ [(q2, .inr (2, [.null, .int 0, .null]))]) H locs := ⟨h1, h2, h3⟩
  clear h1 h2 h3
  refine lv_dup hx hb d_F_init_19 rfl ?_
  refine lv_aload_n hx hb d_F_init_20 rfl (lv_at hl 0 rfl) ?_
  refine va_get (D := D) (ci := 0) (v := .ref (aN 1)) (C := qR0) (T := qT0) (N := 5) hx hb hts qi0 hown hK hw.1 0 rfl rfl 0 (by decide) (hts _ wG219) (fun _ h9 => h9) rfl d_F_init_21 ?_
  have hCs : va_P D vwCl ([(q2, .inr (2, [.null, .int 0, .null]))]) H := hw.1.sub [18] rfl
  have hDs : va_D A ([(q2, .inr (2, [.null, .int 0, .null]))]) := hw.2.1.sub [18] rfl rfl
  have hfr := va_free hw.2.1 hw.2.2 hA [18] (wc := [(q2, .inr (2, [.null, .int 0, .null]))]) rfl
  refine va_callv (va_runI (As := [.ref (aN 1)]) (rest := [.ref q2, .ref q]) ⟨hx, hb, hml, hown, hts⟩ (c_C_init l D g q2 ((aN 1)) H.size) (cwI 1 hts (gC wG143) rfl rfl rfl (hts _ wG51) (hts _ wG141) (hts _ wG142) rfl (by decide +kernel) ⟨Nat.le_of_ble_eq_true rfl, Nat.le_of_ble_eq_true rfl⟩) ⟨iPc_blind _ _ _ _ _, fun U hU hW => ⟨rfl, by rw [hU], by rw [hU]; exact hCs, va_K.moved hW.alike hK, hDs.weaken (fun _ _ _ _ => trivial), cNk.warm hW hN, gOv.warm hW hV⟩⟩ rfl rfl hl.1 rfl (lv_room (Nat.le_of_ble_eq_true rfl)) d_F_init_24 ⟨Nat.le_of_ble_eq_true rfl, Nat.le_of_ble_eq_true rfl⟩) hw.2.2 (fun q _ h9 => hfr q h9) hfr (fun tC3 t H locs ht hal hp hB hz hk hS => ?_)
  have hj := va_join hw.1 hw.2.1 [18] [0, 1, 2, 3, 4, 5, 6, 7, 8, 9, 10, 11, 12, 13, 14, 15, 16, 17] (wc := [(q2, .inr (2, [.null, .int 0, .null]))]) (wr := [(q, .inr (0, [.ref (aN 1), .null, .null, .null, .int 0]))] ++ WN (D, g.1, g.2.1, g.2.2.1, aN) IN FN GN) rfl rfl (by decide) (by decide) hk hfr (by rw [← ht]; exact hB.1) hB.2
  replace hw : GW D A s.heap ([(q, .inr (0, [.ref (aN 1), .null, .null, .null, .int 0]))] ++ WN (D, g.1, g.2.1, g.2.2.1, aN) IN FN GN ++ [(q2, .inr (2, [.ref ((aN 1)), .int 0, .ref tC3])), (tC3, .inl (g.1, 12, .inl (fun _ => 0)))]) H locs := ⟨hj.1, hj.2, hS⟩
  clear hj hS hk hz hB ht hal hCs hDs hfr
  refine va_putF (ty := (.object "ChipForge$Channel")) (D := D) (ci := 0) (v := .ref q2) (C := qR0) (T := qT0) (N := 5) hx hb hts qi0 qy0 qk0 qn0 hown hK hw.1 hw.2.1 hw.2.2 0 rfl rfl 1 (by decide) (hts _ wG220) (fun _ h9 => h9) rfl hin2 rfl (by decide +kernel) rfl rfl (Nat.le_of_ble_eq_true rfl) d_F_init_27 (fun H locs h1 h2 h3 => ?_)
  replace hw : GW D A s.heap ([(q, .inr (0, [.ref (aN 1), .ref q2, .null, .null, .int 0]))] ++ WN (D, g.1, g.2.1, g.2.2.1, aN) IN FN GN ++ [(q2, .inr (2, [.ref ((aN 1)), .int 0, .ref tC3])), (tC3, .inl (g.1, 12, .inl (fun _ => 0)))]) H locs := ⟨h1, h2, h3⟩
  clear h1 h2 h3
  refine lv_aload_n hx hb d_F_init_30 rfl (lv_at hl 0 rfl) ?_
  refine va_new (D := D) (ci := 3) (C := qR3) (T := qT3) (N := 7) hx hb hts qi3 qy3 qk3 hown (hts _ wG159) (hts _ wG160) (hts _ wG52) hK hw.1 hw.2.1 hw.2.2 hA rfl (fs := [.null, .null, .null, .null, .null, .null, .int 0]) (by decide +kernel) (Nat.le_of_ble_eq_true rfl) (Nat.le_of_ble_eq_true rfl) d_F_init_31 (fun q4 H h1 h2 h3 => ?_)
  replace hw : GW D A s.heap ([(q, .inr (0, [.ref (aN 1), .ref q2, .null, .null, .int 0]))] ++ WN (D, g.1, g.2.1, g.2.2.1, aN) IN FN GN ++ [(q2, .inr (2, [.ref ((aN 1)), .int 0, .ref tC3])), (tC3, .inl (g.1, 12, .inl (fun _ => 0))), (q4, .inr (3, [.null, .null, .null, .null, .null, .null, .int 0]))]) H locs := ⟨h1, h2, h3⟩
  clear h1 h2 h3
  refine lv_dup hx hb d_F_init_34 rfl ?_
  refine lv_aload_n hx hb d_F_init_35 rfl (lv_at hl 0 rfl) ?_
  refine va_get (D := D) (ci := 0) (v := .ref (aN 1)) (C := qR0) (T := qT0) (N := 5) hx hb hts qi0 hown hK hw.1 0 rfl rfl 0 (by decide) (hts _ wG219) (fun _ h9 => h9) rfl d_F_init_36 ?_
  refine lv_aload_n hx hb d_F_init_39 rfl (lv_at hl 0 rfl) ?_
  refine va_get (D := D) (ci := 0) (v := .ref q2) (C := qR0) (T := qT0) (N := 5) hx hb hts qi0 hown hK hw.1 0 rfl rfl 1 (by decide) (hts _ wG220) (fun _ h9 => h9) rfl d_F_init_40 ?_
  have hCs : va_P D vwCl ([(q4, .inr (3, [.null, .null, .null, .null, .null, .null, .int 0]))]) H := hw.1.sub [20] rfl
  have hDs : va_D A ([(q4, .inr (3, [.null, .null, .null, .null, .null, .null, .int 0]))]) := hw.2.1.sub [20] rfl rfl
  have hfr := va_free hw.2.1 hw.2.2 hA [20] (wc := [(q4, .inr (3, [.null, .null, .null, .null, .null, .null, .int 0]))]) rfl
  refine va_callv (va_runI (As := [.ref (aN 1), .ref q2]) (rest := [.ref q4, .ref q]) ⟨hx, hb, hml, hown, hts⟩ (c_D_init l D g q4 ((aN 1)) q2 H.size) (cwI 2 hts (gC wG163) rfl rfl rfl (hts _ wG52) (hts _ wG161) (hts _ wG162) rfl (by decide +kernel) ⟨Nat.le_of_ble_eq_true rfl, Nat.le_of_ble_eq_true rfl⟩) ⟨iPc_blind _ _ _ _ _, fun U hU hW => ⟨rfl, by rw [hU], by rw [hU]; exact hCs, va_K.moved hW.alike hK, hDs.weaken (fun _ _ _ _ => trivial), cNk.warm hW hN, gOv.warm hW hV⟩⟩ rfl rfl hl.1 rfl (lv_room (Nat.le_of_ble_eq_true rfl)) d_F_init_43 ⟨Nat.le_of_ble_eq_true rfl, Nat.le_of_ble_eq_true rfl⟩) hw.2.2 (fun q _ h9 => hfr q h9) hfr (fun u t H locs ht hal hp hB hz hk hS => ?_)
  obtain ⟨pD, lD, eD, gD⟩ := u
  have hj := va_join hw.1 hw.2.1 [20] [0, 1, 2, 3, 4, 5, 6, 7, 8, 9, 10, 11, 12, 13, 14, 15, 16, 17, 18, 19] (wc := [(q4, .inr (3, [.null, .null, .null, .null, .null, .null, .int 0]))]) (wr := [(q, .inr (0, [.ref (aN 1), .ref q2, .null, .null, .int 0]))] ++ WN (D, g.1, g.2.1, g.2.2.1, aN) IN FN GN ++ [(q2, .inr (2, [.ref ((aN 1)), .int 0, .ref tC3])), (tC3, .inl (g.1, 12, .inl (fun _ => 0)))]) rfl rfl (by decide) (by decide) hk hfr (by rw [← ht]; exact hB.1) hB.2
  replace hw : GW D A s.heap ([(q, .inr (0, [.ref (aN 1), .ref q2, .null, .null, .int 0]))] ++ WN (D, g.1, g.2.1, g.2.2.1, aN) IN FN GN ++ [(q2, .inr (2, [.ref ((aN 1)), .int 0, .ref tC3])), (tC3, .inl (g.1, 12, .inl (fun _ => 0))), (q4, .inr (3, [.ref ((aN 1)), .ref (q2), .ref pD, .ref lD, .ref eD, .ref gD, .int 0])), (pD, .inl (g.2.2.1, 11, .inr (.inr (.inr (.inr (fun i => some (pD + 1 + i))))))), (pD + 1 + 0, .inl (g.1, 24, .inl (fun _ => 0))), (pD + 1 + 1, .inl (g.1, 24, .inl (fun _ => 0))), (pD + 1 + 2, .inl (g.1, 24, .inl (fun _ => 0))), (pD + 1 + 3, .inl (g.1, 24, .inl (fun _ => 0))), (pD + 1 + 4, .inl (g.1, 24, .inl (fun _ => 0))), (pD + 1 + 5, .inl (g.1, 24, .inl (fun _ => 0))), (pD + 1 + 6, .inl (g.1, 24, .inl (fun _ => 0))), (pD + 1 + 7, .inl (g.1, 24, .inl (fun _ => 0))), (pD + 1 + 8, .inl (g.1, 24, .inl (fun _ => 0))), (pD + 1 + 9, .inl (g.1, 24, .inl (fun _ => 0))), (pD + 1 + 10, .inl (g.1, 24, .inl (fun _ => 0))), (lD, .inl (g.1, 528, .inl (fun _ => 0))), (eD, .inl (g.1, 60, .inl (fun _ => 0))), (gD, .inl (g.1, 60, .inl (fun _ => 0)))]) H locs := ⟨hj.1, hj.2, hS⟩
  clear hj hS hk hz hB ht hal hCs hDs hfr
  refine va_putF (ty := (.object "ChipForge$Drawing")) (D := D) (ci := 0) (v := .ref q4) (C := qR0) (T := qT0) (N := 5) hx hb hts qi0 qy0 qk0 qn0 hown hK hw.1 hw.2.1 hw.2.2 0 rfl rfl 2 (by decide) (hts _ wG221) (fun _ h9 => h9) rfl hin2 rfl (by decide +kernel) rfl rfl (Nat.le_of_ble_eq_true rfl) d_F_init_46 (fun H locs h1 h2 h3 => ?_)
  replace hw : GW D A s.heap ([(q, .inr (0, [.ref (aN 1), .ref q2, .ref q4, .null, .int 0]))] ++ WN (D, g.1, g.2.1, g.2.2.1, aN) IN FN GN ++ [(q2, .inr (2, [.ref ((aN 1)), .int 0, .ref tC3])), (tC3, .inl (g.1, 12, .inl (fun _ => 0))), (q4, .inr (3, [.ref ((aN 1)), .ref (q2), .ref pD, .ref lD, .ref eD, .ref gD, .int 0])), (pD, .inl (g.2.2.1, 11, .inr (.inr (.inr (.inr (fun i => some (pD + 1 + i))))))), (pD + 1 + 0, .inl (g.1, 24, .inl (fun _ => 0))), (pD + 1 + 1, .inl (g.1, 24, .inl (fun _ => 0))), (pD + 1 + 2, .inl (g.1, 24, .inl (fun _ => 0))), (pD + 1 + 3, .inl (g.1, 24, .inl (fun _ => 0))), (pD + 1 + 4, .inl (g.1, 24, .inl (fun _ => 0))), (pD + 1 + 5, .inl (g.1, 24, .inl (fun _ => 0))), (pD + 1 + 6, .inl (g.1, 24, .inl (fun _ => 0))), (pD + 1 + 7, .inl (g.1, 24, .inl (fun _ => 0))), (pD + 1 + 8, .inl (g.1, 24, .inl (fun _ => 0))), (pD + 1 + 9, .inl (g.1, 24, .inl (fun _ => 0))), (pD + 1 + 10, .inl (g.1, 24, .inl (fun _ => 0))), (lD, .inl (g.1, 528, .inl (fun _ => 0))), (eD, .inl (g.1, 60, .inl (fun _ => 0))), (gD, .inl (g.1, 60, .inl (fun _ => 0)))]) H locs := ⟨h1, h2, h3⟩
  clear h1 h2 h3
  refine lv_aload_n hx hb d_F_init_49 rfl (lv_at hl 0 rfl) ?_
  refine va_new (D := D) (ci := 4) (C := qR4) (T := qT4) (N := 7) hx hb hts qi4 qy4 qk4 hown (hts _ wG189) (hts _ wG190) (hts _ wG53) hK hw.1 hw.2.1 hw.2.2 hA rfl (fs := [.null, .null, .null, .null, .null, .int 0, .int 0]) (by decide +kernel) (Nat.le_of_ble_eq_true rfl) (Nat.le_of_ble_eq_true rfl) d_F_init_50 (fun q5 H h1 h2 h3 => ?_)
  replace hw : GW D A s.heap ([(q, .inr (0, [.ref (aN 1), .ref q2, .ref q4, .null, .int 0]))] ++ WN (D, g.1, g.2.1, g.2.2.1, aN) IN FN GN ++ [(q2, .inr (2, [.ref ((aN 1)), .int 0, .ref tC3])), (tC3, .inl (g.1, 12, .inl (fun _ => 0))), (q4, .inr (3, [.ref ((aN 1)), .ref (q2), .ref pD, .ref lD, .ref eD, .ref gD, .int 0])), (pD, .inl (g.2.2.1, 11, .inr (.inr (.inr (.inr (fun i => some (pD + 1 + i))))))), (pD + 1 + 0, .inl (g.1, 24, .inl (fun _ => 0))), (pD + 1 + 1, .inl (g.1, 24, .inl (fun _ => 0))), (pD + 1 + 2, .inl (g.1, 24, .inl (fun _ => 0))), (pD + 1 + 3, .inl (g.1, 24, .inl (fun _ => 0))), (pD + 1 + 4, .inl (g.1, 24, .inl (fun _ => 0))), (pD + 1 + 5, .inl (g.1, 24, .inl (fun _ => 0))), (pD + 1 + 6, .inl (g.1, 24, .inl (fun _ => 0))), (pD + 1 + 7, .inl (g.1, 24, .inl (fun _ => 0))), (pD + 1 + 8, .inl (g.1, 24, .inl (fun _ => 0))), (pD + 1 + 9, .inl (g.1, 24, .inl (fun _ => 0))), (pD + 1 + 10, .inl (g.1, 24, .inl (fun _ => 0))), (lD, .inl (g.1, 528, .inl (fun _ => 0))), (eD, .inl (g.1, 60, .inl (fun _ => 0))), (gD, .inl (g.1, 60, .inl (fun _ => 0))), (q5, .inr (4, [.null, .null, .null, .null, .null, .int 0, .int 0]))]) H locs := ⟨h1, h2, h3⟩
  clear h1 h2 h3
  refine lv_dup hx hb d_F_init_53 rfl ?_
  refine lv_aload_n hx hb d_F_init_54 rfl (lv_at hl 0 rfl) ?_
  refine va_get (D := D) (ci := 0) (v := .ref (aN 1)) (C := qR0) (T := qT0) (N := 5) hx hb hts qi0 hown hK hw.1 0 rfl rfl 0 (by decide) (hts _ wG219) (fun _ h9 => h9) rfl d_F_init_55 ?_
  refine lv_aload_n hx hb d_F_init_58 rfl (lv_at hl 0 rfl) ?_
  refine va_get (D := D) (ci := 0) (v := .ref q2) (C := qR0) (T := qT0) (N := 5) hx hb hts qi0 hown hK hw.1 0 rfl rfl 1 (by decide) (hts _ wG220) (fun _ h9 => h9) rfl d_F_init_59 ?_
  have hCs : va_P D vwCl ([(q5, .inr (4, [.null, .null, .null, .null, .null, .int 0, .int 0]))]) H := hw.1.sub [36] rfl
  have hDs : va_D A ([(q5, .inr (4, [.null, .null, .null, .null, .null, .int 0, .int 0]))]) := hw.2.1.sub [36] rfl rfl
  have hfr := va_free hw.2.1 hw.2.2 hA [36] (wc := [(q5, .inr (4, [.null, .null, .null, .null, .null, .int 0, .int 0]))]) rfl
  refine va_callv (va_runI (As := [.ref (aN 1), .ref q2]) (rest := [.ref q5, .ref q]) ⟨hx, hb, hml, hown, hts⟩ (c_S_init l D g q5 ((aN 1)) q2 H.size) (cwI 2 hts (gC wG193) rfl rfl rfl (hts _ wG53) (hts _ wG191) (hts _ wG192) rfl (by decide +kernel) ⟨Nat.le_of_ble_eq_true rfl, Nat.le_of_ble_eq_true rfl⟩) ⟨iPc_blind _ _ _ _ _, fun U hU hW => ⟨rfl, by rw [hU], by rw [hU]; exact hCs, va_K.moved hW.alike hK, hDs.weaken (fun _ _ _ _ => trivial), cNk.warm hW hN, gOv.warm hW hV⟩⟩ rfl rfl hl.1 rfl (lv_room (Nat.le_of_ble_eq_true rfl)) d_F_init_62 ⟨Nat.le_of_ble_eq_true rfl, Nat.le_of_ble_eq_true rfl⟩) hw.2.2 (fun q _ h9 => hfr q h9) hfr (fun u t H locs ht hal hp hB hz hk hS => ?_)
  obtain ⟨tS, aS, oS⟩ := u
  have hj := va_join hw.1 hw.2.1 [36] [0, 1, 2, 3, 4, 5, 6, 7, 8, 9, 10, 11, 12, 13, 14, 15, 16, 17, 18, 19, 20, 21, 22, 23, 24, 25, 26, 27, 28, 29, 30, 31, 32, 33, 34, 35] (wc := [(q5, .inr (4, [.null, .null, .null, .null, .null, .int 0, .int 0]))]) (wr := [(q, .inr (0, [.ref (aN 1), .ref q2, .ref q4, .null, .int 0]))] ++ WN (D, g.1, g.2.1, g.2.2.1, aN) IN FN GN ++ [(q2, .inr (2, [.ref ((aN 1)), .int 0, .ref tC3])), (tC3, .inl (g.1, 12, .inl (fun _ => 0))), (q4, .inr (3, [.ref ((aN 1)), .ref (q2), .ref pD, .ref lD, .ref eD, .ref gD, .int 0])), (pD, .inl (g.2.2.1, 11, .inr (.inr (.inr (.inr (fun i => some (pD + 1 + i))))))), (pD + 1 + 0, .inl (g.1, 24, .inl (fun _ => 0))), (pD + 1 + 1, .inl (g.1, 24, .inl (fun _ => 0))), (pD + 1 + 2, .inl (g.1, 24, .inl (fun _ => 0))), (pD + 1 + 3, .inl (g.1, 24, .inl (fun _ => 0))), (pD + 1 + 4, .inl (g.1, 24, .inl (fun _ => 0))), (pD + 1 + 5, .inl (g.1, 24, .inl (fun _ => 0))), (pD + 1 + 6, .inl (g.1, 24, .inl (fun _ => 0))), (pD + 1 + 7, .inl (g.1, 24, .inl (fun _ => 0))), (pD + 1 + 8, .inl (g.1, 24, .inl (fun _ => 0))), (pD + 1 + 9, .inl (g.1, 24, .inl (fun _ => 0))), (pD + 1 + 10, .inl (g.1, 24, .inl (fun _ => 0))), (lD, .inl (g.1, 528, .inl (fun _ => 0))), (eD, .inl (g.1, 60, .inl (fun _ => 0))), (gD, .inl (g.1, 60, .inl (fun _ => 0)))]) rfl rfl (by decide) (by decide) hk hfr (by rw [← ht]; exact hB.1) hB.2
  replace hw : GW D A s.heap ([(q, .inr (0, [.ref (aN 1), .ref q2, .ref q4, .null, .int 0]))] ++ WN (D, g.1, g.2.1, g.2.2.1, aN) IN FN GN ++ [(q2, .inr (2, [.ref ((aN 1)), .int 0, .ref tC3])), (tC3, .inl (g.1, 12, .inl (fun _ => 0))), (q4, .inr (3, [.ref ((aN 1)), .ref (q2), .ref pD, .ref lD, .ref eD, .ref gD, .int 0])), (pD, .inl (g.2.2.1, 11, .inr (.inr (.inr (.inr (fun i => some (pD + 1 + i))))))), (pD + 1 + 0, .inl (g.1, 24, .inl (fun _ => 0))), (pD + 1 + 1, .inl (g.1, 24, .inl (fun _ => 0))), (pD + 1 + 2, .inl (g.1, 24, .inl (fun _ => 0))), (pD + 1 + 3, .inl (g.1, 24, .inl (fun _ => 0))), (pD + 1 + 4, .inl (g.1, 24, .inl (fun _ => 0))), (pD + 1 + 5, .inl (g.1, 24, .inl (fun _ => 0))), (pD + 1 + 6, .inl (g.1, 24, .inl (fun _ => 0))), (pD + 1 + 7, .inl (g.1, 24, .inl (fun _ => 0))), (pD + 1 + 8, .inl (g.1, 24, .inl (fun _ => 0))), (pD + 1 + 9, .inl (g.1, 24, .inl (fun _ => 0))), (pD + 1 + 10, .inl (g.1, 24, .inl (fun _ => 0))), (lD, .inl (g.1, 528, .inl (fun _ => 0))), (eD, .inl (g.1, 60, .inl (fun _ => 0))), (gD, .inl (g.1, 60, .inl (fun _ => 0))), (q5, .inr (4, [.ref ((aN 1)), .ref (q2), .ref tS, .ref aS, .ref oS, .int 0, .int 0])), (tS, .inl (g.2.1, 4, .inr (.inr (.inr (.inl (vf_upd (vf_upd (vf_upd (vf_upd (fun _ => 0) (0 : Int32).toNatClampNeg FP.dconst1) (1 : Int32).toNatClampNeg FP.dconst1) (2 : Int32).toNatClampNeg FP.dconst1) (3 : Int32).toNatClampNeg FP.dconst1)))))), (aS, .inl (g.2.1, 12, .inr (.inr (.inr (.inl (fun _ => 0)))))), (oS, .inl (g.1, 12, .inl (fun _ => 0)))]) H locs := ⟨hj.1, hj.2, hS⟩
  clear hj hS hk hz hB ht hal hCs hDs hfr
  refine va_putF (ty := (.object "ChipForge$Signals")) (D := D) (ci := 0) (v := .ref q5) (C := qR0) (T := qT0) (N := 5) hx hb hts qi0 qy0 qk0 qn0 hown hK hw.1 hw.2.1 hw.2.2 0 rfl rfl 3 (by decide) (hts _ wG222) (fun _ h9 => h9) rfl hin2 rfl (by decide +kernel) rfl rfl (Nat.le_of_ble_eq_true rfl) d_F_init_65 (fun H locs h1 h2 h3 => ?_)
  replace hw : GW D A s.heap ([(q, .inr (0, [.ref (aN 1), .ref q2, .ref q4, .ref q5, .int 0]))] ++ WN (D, g.1, g.2.1, g.2.2.1, aN) IN FN GN ++ [(q2, .inr (2, [.ref ((aN 1)), .int 0, .ref tC3])), (tC3, .inl (g.1, 12, .inl (fun _ => 0))), (q4, .inr (3, [.ref ((aN 1)), .ref (q2), .ref pD, .ref lD, .ref eD, .ref gD, .int 0])), (pD, .inl (g.2.2.1, 11, .inr (.inr (.inr (.inr (fun i => some (pD + 1 + i))))))), (pD + 1 + 0, .inl (g.1, 24, .inl (fun _ => 0))), (pD + 1 + 1, .inl (g.1, 24, .inl (fun _ => 0))), (pD + 1 + 2, .inl (g.1, 24, .inl (fun _ => 0))), (pD + 1 + 3, .inl (g.1, 24, .inl (fun _ => 0))), (pD + 1 + 4, .inl (g.1, 24, .inl (fun _ => 0))), (pD + 1 + 5, .inl (g.1, 24, .inl (fun _ => 0))), (pD + 1 + 6, .inl (g.1, 24, .inl (fun _ => 0))), (pD + 1 + 7, .inl (g.1, 24, .inl (fun _ => 0))), (pD + 1 + 8, .inl (g.1, 24, .inl (fun _ => 0))), (pD + 1 + 9, .inl (g.1, 24, .inl (fun _ => 0))), (pD + 1 + 10, .inl (g.1, 24, .inl (fun _ => 0))), (lD, .inl (g.1, 528, .inl (fun _ => 0))), (eD, .inl (g.1, 60, .inl (fun _ => 0))), (gD, .inl (g.1, 60, .inl (fun _ => 0))), (q5, .inr (4, [.ref ((aN 1)), .ref (q2), .ref tS, .ref aS, .ref oS, .int 0, .int 0])), (tS, .inl (g.2.1, 4, .inr (.inr (.inr (.inl (vf_upd (vf_upd (vf_upd (vf_upd (fun _ => 0) (0 : Int32).toNatClampNeg FP.dconst1) (1 : Int32).toNatClampNeg FP.dconst1) (2 : Int32).toNatClampNeg FP.dconst1) (3 : Int32).toNatClampNeg FP.dconst1)))))), (aS, .inl (g.2.1, 12, .inr (.inr (.inr (.inl (fun _ => 0)))))), (oS, .inl (g.1, 12, .inl (fun _ => 0)))]) H locs := ⟨h1, h2, h3⟩
  clear h1 h2 h3
  refine lv_aload_n hx hb d_F_init_68 rfl (lv_at hl 0 rfl) ?_
  refine lv_iconst (v := 0) hx hb d_F_init_69 (by decide) ?_
  refine va_put (ty := .boolean) (D := D) (ci := 0) (v := .int 0) (C := qR0) (T := qT0) (N := 5) hx hb hts qi0 qy0 qk0 qn0 hown hK hw.1 hw.2.1 hw.2.2 0 rfl rfl 4 (by decide) (hts _ wG223) (fun _ h9 => h9) rfl (by decide +kernel) rfl rfl (Nat.le_of_ble_eq_true rfl) d_F_init_70 (fun H locs h1 h2 h3 => ?_)
  replace hw : GW D A s.heap ([(q, .inr (0, [.ref (aN 1), .ref q2, .ref q4, .ref q5, .int 0]))] ++ WN (D, g.1, g.2.1, g.2.2.1, aN) IN FN GN ++ [(q2, .inr (2, [.ref ((aN 1)), .int 0, .ref tC3])), (tC3, .inl (g.1, 12, .inl (fun _ => 0))), (q4, .inr (3, [.ref ((aN 1)), .ref (q2), .ref pD, .ref lD, .ref eD, .ref gD, .int 0])), (pD, .inl (g.2.2.1, 11, .inr (.inr (.inr (.inr (fun i => some (pD + 1 + i))))))), (pD + 1 + 0, .inl (g.1, 24, .inl (fun _ => 0))), (pD + 1 + 1, .inl (g.1, 24, .inl (fun _ => 0))), (pD + 1 + 2, .inl (g.1, 24, .inl (fun _ => 0))), (pD + 1 + 3, .inl (g.1, 24, .inl (fun _ => 0))), (pD + 1 + 4, .inl (g.1, 24, .inl (fun _ => 0))), (pD + 1 + 5, .inl (g.1, 24, .inl (fun _ => 0))), (pD + 1 + 6, .inl (g.1, 24, .inl (fun _ => 0))), (pD + 1 + 7, .inl (g.1, 24, .inl (fun _ => 0))), (pD + 1 + 8, .inl (g.1, 24, .inl (fun _ => 0))), (pD + 1 + 9, .inl (g.1, 24, .inl (fun _ => 0))), (pD + 1 + 10, .inl (g.1, 24, .inl (fun _ => 0))), (lD, .inl (g.1, 528, .inl (fun _ => 0))), (eD, .inl (g.1, 60, .inl (fun _ => 0))), (gD, .inl (g.1, 60, .inl (fun _ => 0))), (q5, .inr (4, [.ref ((aN 1)), .ref (q2), .ref tS, .ref aS, .ref oS, .int 0, .int 0])), (tS, .inl (g.2.1, 4, .inr (.inr (.inr (.inl (vf_upd (vf_upd (vf_upd (vf_upd (fun _ => 0) (0 : Int32).toNatClampNeg FP.dconst1) (1 : Int32).toNatClampNeg FP.dconst1) (2 : Int32).toNatClampNeg FP.dconst1) (3 : Int32).toNatClampNeg FP.dconst1)))))), (aS, .inl (g.2.1, 12, .inr (.inr (.inr (.inl (fun _ => 0)))))), (oS, .inl (g.1, 12, .inl (fun _ => 0)))]) H locs := ⟨h1, h2, h3⟩
  clear h1 h2 h3
  refine W.widen (k := 39) (n := 1179) (Nat.le_of_ble_eq_true rfl) (Nat.le_of_ble_eq_true rfl) ?_
  replace hw := hw.refs 1 (fun i => some (cA (D, g.1, g.2.1, g.2.2.1, (aAll aN q q2 q4 q5 pD lD eD gD tC3 tS aS oS)) (10 + (15 + i)))) rfl (fun i hi => by rcases (show i = 0 ∨ i = 1 by omega) with rfl | rfl <;> rfl)
  replace hw := hw.refs 3 (fun i => some (cA (D, g.1, g.2.1, g.2.2.1, (aAll aN q q2 q4 q5 pD lD eD gD tC3 tS aS oS)) (10 + (17 + i)))) rfl (fun i hi => by rcases (show i = 0 ∨ i = 1 by omega) with rfl | rfl <;> rfl)
  replace hw := hw.refs 21 (fun i => some (cA (D, g.1, g.2.1, g.2.2.1, (aAll aN q q2 q4 q5 pD lD eD gD tC3 tS aS oS)) (10 + (19 + i)))) rfl (fun i hi => by show some (pD + 1 + i) = some (aAll _ _ _ _ _ _ _ _ _ _ _ _ _ (10 + (19 + i))); unfold aAll; rw [if_neg (by omega)]; congr 1; omega)
  exact W.vret hx hb hr (fun t ht hW => ⟨⟨((aAll aN q q2 q4 q5 pD lD eD gD tC3 tS aS oS), fI IN, fF FN, onesG), rfl, ⟨rfl, hpN⟩, by rw [ht]; exact hw.1.sub [0, 2, 18, 20, 36, 1, 3, 21, 37, 38, 4, 5, 6, 7, 8, 9, 10, 11, 12, 13, 19, 33, 34, 35, 39, 14, 15, 16, 17, 22, 23, 24, 25, 26, 27, 28, 29, 30, 31, 32] rfl, hw.2.1.sub [0, 2, 18, 20, 36, 1, 3, 21, 37, 38, 4, 5, 6, 7, 8, 9, 10, 11, 12, 13, 19, 33, 34, 35, 39, 14, 15, 16, 17, 22, 23, 24, 25, 26, 27, 28, 29, 30, 31, 32] rfl rfl⟩, hw.2.2.F ht⟩) hw.2.2.2.2 d_F_init_73
