/-! the netlist alone: the world while its constructor runs -/
def nk (j : Nat) : Nat := if j < 10 then j else j + 5
def WN (L : cL) (I : MI) (F : MF) (G : MG) : va_W :=
  [(cA L 5, .inl (L.2.2.2.1, 2, .inr (.inr (.inr (.inr (fun i => some (cA L (10 + (15 + i))))))))),
   (cA L 1, .inr (1, [.int (I 1), .ref (cA L 10), .ref (cA L 11), .ref (cA L 12), .ref (cA L 13), .ref (cA L 14), .ref (cA L 15), .ref (cA L 16), .ref (cA L 5), .ref (cA L 6), .ref (cA L 17), .ref (cA L 18), .ref (cA L 19)])),
   (cA L 6, .inl (L.2.2.2.1, 2, .inr (.inr (.inr (.inr (fun i => some (cA L (10 + (17 + i)))))))))] ++ (List.range 14).map (fun j => (cA L (10 + nk j), .inl (L.2.1, cLen (nk j), .inl (F (nk j)))))
/-- where array k lies in it -/
def nP (k : Nat) : Nat := if k < 10 then 3 + k else k - 2
abbrev nOk (k : Nat) : Prop := k < 10 ∨ (15 ≤ k ∧ k < 19)
theorem nP_nk {k : Nat} (h : nOk k) : ∃ j, j < 14 ∧ nP k = 3 + j ∧ nk j = k := by
  rcases h with h | ⟨h1, h2⟩
  · exact ⟨k, by omega, by unfold nP; rw [if_pos h], by unfold nk; rw [if_pos h]⟩
  · exact ⟨k - 5, by omega, by unfold nP; rw [if_neg (by omega)]; omega, by unfold nk; rw [if_neg (by omega)]; omega⟩
theorem WN_int {L : cL} {I : MI} {F : MF} {G : MG} (k : Nat) (hk : nOk k) : (WN L I F G)[nP k]? = some (cA L (10 + k), .inl (L.2.1, cLen k, .inl (F k))) := by
  obtain ⟨j, hj, e1, e2⟩ := nP_nk hk
  rw [e1]
  unfold WN
  rw [List.getElem?_append_right (by simp)]
  simp only [List.length_cons, List.length_nil, List.getElem?_map]
  rw [show 3 + j - (0 + 1 + 1 + 1) = j by omega, List.getElem?_range hj]
  simp [e2]
theorem nk_inj {i j : Nat} (h : nk i = nk j) (hi : i < 14) (hj : j < 14) : i = j := by
  unfold nk at h
  split at h <;> split at h <;> omega
theorem WN_setInt {L : cL} {I : MI} {F : MF} {G : MG} (k : Nat) (hk : nOk k) (f : Nat → Int32) : (WN L I F G).set (nP k) (cA L (10 + k), .inl (L.2.1, cLen k, .inl f)) = WN L I (setF F k f) G := by
  obtain ⟨j, hj, e1, e2⟩ := nP_nk hk
  rw [e1]
  unfold WN
  rw [List.set_append_right _ _ (by simp)]
  congr 1
  simp only [List.length_cons, List.length_nil]
  rw [show 3 + j - (0 + 1 + 1 + 1) = j by omega, mapset]
  apply List.map_congr_left
  intro i hi
  have hi' : i < 14 := List.mem_range.mp hi
  by_cases e : i = j
  · subst e; simp [setF, e2]
  · have : nk i ≠ k := fun z => e (nk_inj (z.trans e2.symm) hi' hj)
    simp [setF, e, this]
def NW (L : cL) (A : Nat → Prop) (H0 : Heap) (I : MI) (F : MF) (G : MG) (H : Heap) (locs : List Loc) : Prop := va_P L.1 vwCl (WN L I F G) H ∧ va_D A (WN L I F G) ∧ va_S A H0 H locs
def nPm (L : cL) (I : MI) (F : MF) (G : MG) (sz : Nat) (av : List Value) : Array Value → State → Prop := va_Pc av (fun U => U.heap.size = sz ∧ va_P L.1 vwCl (WN L I F G) U.heap ∧ va_K L.1 vwCl (cTys L) U ∧ va_D (fun _ => True) (WN L I F G) ∧ cNk U)
def nB (L : cL) (A : Nat → Prop) (u : cM) (t : State) : Prop := va_P L.1 vwCl (WN L u.1 u.2.1 u.2.2) t.heap ∧ va_K L.1 vwCl (cTys L) t ∧ va_D A (WN L u.1 u.2.1 u.2.2)
abbrev nAA (L : cL) (I : MI) (F : MF) (G : MG) (sz : Nat) : Nat → Prop := va_A (WN L I F G) sz
abbrev nQv (L : cL) (A : Nat → Prop) (post : MI → MF → MG → Prop) (A1 : Nat → Prop) := va_Qv (fun (u : cM) => post u.1 u.2.1 u.2.2) (nB L A) A1
theorem nPm_blind (L : cL) (I : MI) (F : MF) (G : MG) (sz : Nat) (av : List Value) : FrameBlind (nPm L I F G sz av) := fun a U g mk h => ⟨h.1, h.2.1, h.2.2.1, va_K.moved (u := U) (U := U.calling g mk a) (Vm.Alike.refl U.vm) h.2.2.2.1, h.2.2.2.2.1, cNk.same rfl h.2.2.2.2.2⟩
section WNR
variable {p : Program} {l : Launch} {e : Env} {R : Room} {s : State} {m : MethodId} {args : Array Value} {below : List Frame} {meth : Method} {c : Code} {H : Heap} {locs : List Loc} {cells slots : Nat} {Q : State → Prop}
variable {cc : ByteArray} {pc nL : Nat} {ls : Array Slot} {rest st0 : List Value} {A : Nat → Prop} {H0 : Heap} {L : cL} {I : MI} {F : MF} {G : MG} {a : Array Value} {As : List Value}
theorem nfree (hw : NW L A s.heap I F G H locs) (hA : ∀ q, s.heap.size ≤ q → A q) : ∀ q, nAA L I F G H.size q → A q := fun q h => by
  rcases h with ⟨k, e, h⟩ | h
  · exact hw.2.1.2 k _ h
  · exact hA q (Nat.le_trans hw.2.2.1 h)
theorem n_iast (hx : p.tables.exec = Jvm.exec) (hb : c.code = cc) (hK : va_K L.1 vwCl (cTys L) s) (hw : NW L A H0 I F G H locs) (k : Nat) (hk : nOk k) {n : Nat} (hn : cLen k = n) {i v : Int32} (hin : vp_in i n) (hdg : decode cc pc = .ok (.iastore, 1))
    (kk : ∀ (H1 : Heap) (locs1 : List Loc), NW L A H0 I (setF F k (upd (F k) i.toNatClampNeg v)) G H1 locs1 → W p l e R s m args below meth c H1 locs1 cells slots Q (F0 m (pc + 1) ls rest)) : W p l e R s m args below meth c H locs cells slots Q (F0 m pc ls (.int v :: .int i :: .ref (cA L (10 + k)) :: rest)) := by
  refine va_iast hx hb hK hw.1 hw.2.1 hw.2.2 (nP k) 0 (WN_int k hk) rfl (by rw [hn]; exact hin) hdg (fun H1 locs1 h1 h2 h3 => kk H1 locs1 ?_)
  rw [WN_setInt k hk] at h1 h2
  exact ⟨h1, h2, h3⟩
theorem n_row5 (hx : p.tables.exec = Jvm.exec) (hb : c.code = cc) (hK : va_K L.1 vwCl (cTys L) s) (hP : va_P L.1 vwCl (WN L I F G) H) {i : Int32} (hin : vp_in i 2) (hdg : decode cc pc = .ok (.aaload, 1))
    (kk : W p l e R s m args below meth c H locs cells slots Q (F0 m (pc + 1) ls (.ref (cA L (10 + (15 + i.toNatClampNeg))) :: rest))) : W p l e R s m args below meth c H locs cells slots Q (F0 m pc ls (.int i :: .ref (cA L 5) :: rest)) :=
  gx_ald hx hb hK hP 0 2 (f := fun i => cA L (10 + (15 + i))) rfl rfl hin hdg kk
theorem n_row6 (hx : p.tables.exec = Jvm.exec) (hb : c.code = cc) (hK : va_K L.1 vwCl (cTys L) s) (hP : va_P L.1 vwCl (WN L I F G) H) {i : Int32} (hin : vp_in i 2) (hdg : decode cc pc = .ok (.aaload, 1))
    (kk : W p l e R s m args below meth c H locs cells slots Q (F0 m (pc + 1) ls (.ref (cA L (10 + (17 + i.toNatClampNeg))) :: rest))) : W p l e R s m args below meth c H locs cells slots Q (F0 m pc ls (.int i :: .ref (cA L 6) :: rest)) :=
  gx_ald hx hb hK hP 2 2 (f := fun i => cA L (10 + (17 + i))) rfl rfl hin hdg kk
theorem nPrm1 (hK : va_K L.1 vwCl (cTys L) s) (hN : cNk s) (hw : NW L A s.heap I F G H locs) : PreV s H qR1 (cA L 1) (nPm L I F G H.size (.ref (cA L 1) :: As)) As :=
  ⟨nPm_blind _ _ _ _ _ _, va_recv hK hw.1 (ci := 1) (q0 := 1) rfl rfl, fun U hU hW => ⟨rfl, by rw [hU], by rw [hU]; exact hw.1, va_K.moved hW.alike hK, hw.2.1.weaken (fun _ _ _ _ => trivial), cNk.warm hW hN⟩⟩
theorem n_back (hw : NW L A s.heap I F G H locs) (hA : ∀ q, s.heap.size ≤ q → A q) {u : cM} {t : State} {H1 : Heap} {locs1 : List Loc} (ht : t.heap = H1) (hB : nB L (nAA L I F G H.size) u t) (hS : va_S A s.heap H1 locs1) : NW L A s.heap u.1 u.2.1 u.2.2 H1 locs1 :=
  ⟨by rw [← ht]; exact hB.1, hB.2.2.weaken (fun _ _ _ h => nfree hw hA _ h), hS⟩
theorem n_callv {post : MI → MF → MG → Prop} (hr : va_Run p l e R s m args below meth c H locs cells slots 0 0 (F0 m pc ls st0) rest (nQv L (nAA L I F G H.size) post (nAA L I F G H.size) a) (nAA L I F G H.size)) (hw : NW L A s.heap I F G H locs) (hA : ∀ q, s.heap.size ≤ q → A q)
    (kk : ∀ (I1 : MI) (F1 : MF) (G1 : MG) (H1 : Heap) (locs1 : List Loc), post I1 F1 G1 → NW L A s.heap I1 F1 G1 H1 locs1 → W p l e R s m args below meth c H1 locs1 cells slots Q (F0 m (pc + 3) ls rest)) : W p l e R s m args below meth c H locs cells slots Q (F0 m pc ls st0) :=
  va_callv hr hw.2.2 (fun q _ h => nfree hw hA q h) (nfree hw hA) (fun u t H1 locs1 ht _ hp hB _ _ hS => kk u.1 u.2.1 u.2.2 H1 locs1 hp (n_back hw hA ht hB hS))
end WNR
set_option maxHeartbeats 4000000 in
set_option maxRecDepth 100000 in
theorem n_Wl_fill {p : Program} {l : Launch} {e : Env} {s : State} {m : MethodId} {args : Array Value} {below : List Frame} {meth : Method} {c : Code} {L : cL} {A : Nat → Prop} (xc : xC p s m args meth c b_JA_fill 4 lwG "java/util/Arrays" none) (hK : va_K L.1 vwCl (cTys L) s) {k n : Nat} (hk : nOk k) (hn : cLen k = n) (hn2 : n < 2 ^ 31) {v : Int32} {I : MI} {F : MF} {G : MG} {post : MI → MF → MG → Prop} (h : post I (setF F k (filled (F k) n v)) G) :
    ∀ (d i : Nat) (H : Heap) (locs : List Loc) (ls : Array Slot), i + d = n → NW L A s.heap I (setF F k (filled (F k) i v)) G H locs → lv_has ls 4 [(0, .ref (cA L (10 + k))), (1, .int v), (2, .int (nI i)), (3, .int (nI n))] →
      W p l e rm_JA_fill s m args below meth c H locs 0 0 (MQ below (nQv L A post A) args s 0 0 A) (F0 m 5 ls []) := by
  obtain ⟨hx, hb, hml, hown, hts, hr, hlocks⟩ := id xc
  intro d
  induction d with
  | zero =>
    intro i H locs ls hi hw hl
    have e : i = n := by omega
    subst e
    refine lv_iload_n hx hb d_JA_fill_5 rfl (lv_at hl 2 rfl) ?_
    refine lv_iload_n hx hb d_JA_fill_6 rfl (lv_at hl 3 rfl) ?_
    refine lv_icmp_ge (tgt := 20) hx hb d_JA_fill_7 (by decide) (fun _ => ?_) (fun q => absurd (Int32.le_refl _) q)
    exact W.vret hx hb hr (fun t ht hW => ⟨⟨(I, setF F k (filled (F k) i v), G), rfl, h, by rw [ht]; exact hw.1, va_K.moved hW.alike hK, hw.2.1⟩, hw.2.2.F ht⟩) hw.2.2.2.2 d_JA_fill_20
  | succ d ih =>
    intro i H locs ls hi hw hl
    refine lv_iload_n hx hb d_JA_fill_5 rfl (lv_at hl 2 rfl) ?_
    refine lv_iload_n hx hb d_JA_fill_6 rfl (lv_at hl 3 rfl) ?_
    refine lv_icmp_ge (tgt := 20) hx hb d_JA_fill_7 (by decide) (fun q => absurd q (nI_ge (by omega) hn2)) (fun _ => ?_)
    refine lv_aload_n hx hb d_JA_fill_10 rfl (lv_at hl 0 rfl) ?_
    refine lv_iload_n hx hb d_JA_fill_11 rfl (lv_at hl 2 rfl) ?_
    refine lv_iload_n hx hb d_JA_fill_12 rfl (lv_at hl 1 rfl) ?_
    refine n_iast hx hb hK hw k hk hn (show vp_in (nI i) n from nI_in (by omega) hn2) d_JA_fill_13 (fun H locs hw => ?_)
    rw [nI_clamp (by omega), setF_at, setF_setF, filled_s] at hw
    refine lv_iinc (v := nI (i + 1)) (lv' := [(2, .int (nI (i + 1))), (0, .ref (cA L (10 + k))), (1, .int v), (3, .int (nI n))]) hx hb d_JA_fill_14 hl (k := 2) rfl (by rw [nI_succ]; rfl) (by decide) rfl (fun ls hl => ?_)
    refine lv_goto (tgt := 5) hx hb d_JA_fill_17 (by decide) ?_
    exact ih (i + 1) H locs ls (by omega) hw (lv_sub hl [1, 2, 0, 3] rfl)
set_option maxHeartbeats 4000000 in
set_option maxRecDepth 100000 in
theorem n_JA_fill (l : Launch) (L : cL) (k n : Nat) (hk : nOk k) (hn : cLen k = n) (hn2 : n < 2 ^ 31) (v : Int32) (I : MI) (F : MF) (G : MG) (sz : Nat) (post : MI → MF → MG → Prop) (h : post I (setF F k (filled (F k) n v)) G) : Met l y_JA_fill (.code y_JA_fill b_JA_fill 4 none :: lwG) rm_JA_fill (nPm L I F G sz [.ref (cA L (10 + k)), .int v]) (nQv L (nAA L I F G sz) post (nAA L I F G sz)) 0 0 (nAA L I F G sz) := by
  refine Met.ofW (cc := b_JA_fill) (maxL := 4) (ret := none) (by decide) rfl ?_
  intro p e s m args below meth c s₁ B hml hv
  obtain ⟨rfl, hsz, hP, hK, hD0, hN⟩ := hv
  have xc : xC p s m _ meth c b_JA_fill 4 lwG "java/util/Arrays" none := ⟨B.exec, B.bytes, hml, findClass_of_methodNamed B.named, fun w h => atoms_spec (ws := (.code y_JA_fill b_JA_fill 4 none :: lwG)) B.pre w (List.mem_cons_of_mem _ h), B.returns, B.notSynchronized⟩
  obtain ⟨hx, hb, hml, hown, hts, hr, hlocks⟩ := id xc
  subst hsz
  have hD : va_D (nAA L I F G s.heap.size) (WN L I F G) := hD0.self
  generalize nAA L I F G s.heap.size = A at hD ⊢
  have hw : NW L A s.heap I F G s.heap [] := ⟨hP, hD, va_S.rf⟩
  have hl := lv_entry ([.ref (cA L (10 + k)), .int v]) (n := 4) (Nat.le_of_ble_eq_true rfl)
  rw [lg_entry_eq]
  generalize (lg_sl ([.ref (cA L (10 + k)), .int v]) ++ List.replicate (4 - (lg_sl ([.ref (cA L (10 + k)), .int v])).length) Slot.unset).toArray = ls at hl ⊢
  have hl : lv_has ls 4 [(0, .ref (cA L (10 + k))), (1, .int v)] := hl
  refine lv_iconst (v := nI 0) hx hb d_JA_fill_0 (by decide) ?_
  refine lv_istore_n (lv' := [(2, .int (nI 0)), (0, .ref (cA L (10 + k))), (1, .int v)]) hx hb d_JA_fill_1 rfl hl (by decide) rfl (fun ls hl => ?_)
  refine lv_aload_n hx hb d_JA_fill_2 rfl (lv_at hl 1 rfl) ?_
  refine va_alen hx hb hK hw.1 (nP k) 0 (WN_int k hk) rfl (v := nI n) (by show Int32.ofNat (cLen k) = _; rw [hn]; rfl) d_JA_fill_3 ?_
  refine lv_istore_n (lv' := [(3, .int (nI n)), (2, .int (nI 0)), (0, .ref (cA L (10 + k))), (1, .int v)]) hx hb d_JA_fill_4 rfl hl (by decide) rfl (fun ls hl => ?_)
  refine n_Wl_fill xc hK hk hn hn2 h n 0 _ _ ls (by omega) ?_ (lv_sub hl [2, 3, 1, 0] rfl)
  rw [filled_0, setF_self]
  exact hw
section NFILL
variable {p : Program} {l : Launch} {e : Env} {R : Room} {s : State} {m : MethodId} {args : Array Value} {below : List Frame} {meth : Method} {c : Code} {H : Heap} {locs : List Loc} {cells slots : Nat} {Q : State → Prop}
variable {cc : ByteArray} {pc nL : Nat} {ls : Array Slot} {rest : List Value} {A : Nat → Prop} {L : cL} {I : MI} {F : MF} {G : MG}
theorem n_fill {own : String} {index k n : Nat} {v : Int32} {Ts : List Cond} (S : CallFix p m c cc nL s args Ts own) (hK : va_K L.1 vwCl (cTys L) s) (hN : cNk s) (hw : NW L A s.heap I F G H locs) (hA : ∀ q, s.heap.size ≤ q → A q)
    (cw : CallB R s args own index y_JA_fill b_JA_fill 4 none (.code y_JA_fill b_JA_fill 4 none :: lwG) rm_JA_fill 0 0 2 ∧ (Cond.static y_JA_fill).before args s = true) (hk : nOk k) (hn : cLen k = n) (hn2 : n < 2 ^ 31) (hsz : ls.size = nL) (hW : 2 * (F0 m pc ls (.int v :: .ref (cA L (10 + k)) :: rest)).monitorRoom + (rest.map fun v => v.category).sum ≤ 8) (hdg : decode cc pc = .ok (.invokestatic index, 3)) (hf : cells + 0 ≤ R.cells ∧ slots + 0 ≤ R.slots)
    (kk : ∀ (H1 : Heap) (locs1 : List Loc), NW L A s.heap I (setF F k (filled (F k) n v)) G H1 locs1 → W p l e R s m args below meth c H1 locs1 cells slots Q (F0 m (pc + 3) ls rest)) : W p l e R s m args below meth c H locs cells slots Q (F0 m pc ls (.int v :: .ref (cA L (10 + k)) :: rest)) :=
  n_callv (va_runS (As := [.ref (cA L (10 + k)), .int v]) (rest := rest) S (n_JA_fill l L k n hk hn hn2 v I F G H.size (fun I1 F1 G1 => I1 = I ∧ F1 = setF F k (filled (F k) n v) ∧ G1 = G) ⟨rfl, rfl, rfl⟩) cw
    ⟨nPm_blind _ _ _ _ _ _, fun U hU hW => ⟨rfl, by rw [hU], by rw [hU]; exact hw.1, va_K.moved hW.alike hK, hw.2.1.weaken (fun _ _ _ _ => trivial), cNk.warm hW hN⟩⟩ rfl rfl hsz rfl hW hdg hf) hw hA
    (fun I1 F1 G1 H1 locs1 h hw1 => by obtain ⟨e1, e2, e3⟩ := h; rw [e1, e2, e3] at hw1; exact kk H1 locs1 hw1)
end NFILL
