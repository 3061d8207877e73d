/-! Arrays.fill over the class's world -/
def filled (f : Nat → Int32) (n : Nat) (v : Int32) : Nat → Int32 := fun j => if j < n then v else f j
theorem filled_0 (f : Nat → Int32) (v : Int32) : filled f 0 v = f := by funext j; simp [filled]
theorem filled_s (f : Nat → Int32) (i : Nat) (v : Int32) : upd (filled f i v) i v = filled f (i + 1) v := by
  funext j
  simp only [upd, filled]
  by_cases h : j = i
  · subst h; simp
  · simp only [h, if_false]
    by_cases h2 : j < i
    · rw [if_pos h2, if_pos (by omega)]
    · rw [if_neg h2, if_neg (by omega)]
theorem setF_setF (F : MF) (k : Nat) (f g : Nat → Int32) : setF (setF F k f) k g = setF F k g := by
  funext j; simp only [setF]; by_cases h : j = k <;> simp [h]
theorem setF_at (F : MF) (k : Nat) (f : Nat → Int32) : setF F k f k = f := by simp [setF]
theorem setF_ne (F : MF) {k j : Nat} (f : Nat → Int32) (h : j ≠ k) : setF F k f j = F j := by simp [setF, h]
theorem setF_self (F : MF) (k : Nat) : setF F k (F k) = F := by
  funext j; simp only [setF]; by_cases h : j = k
  · subst h; simp
  · simp [h]
abbrev rm_JA_fill : Room := { frames := 0, cells := 0, slots := 0, locals := 0 }
set_option maxHeartbeats 4000000 in
set_option maxRecDepth 100000 in
theorem Wl_fill {p : Program} {l : Launch} {e : Env} {s : State} {m : MethodId} {args : Array Value} {below : List Frame} {meth : Method} {c : Code} {L : cL} {A : Nat → Prop} (xc : xC p s m args meth c b_JA_fill 4 lwG "java/util/Arrays" none) (hK : va_K L.1 vwCl (cTys L) s) {k n : Nat} (hk : k < 30) (hn : cLen k = n) (hn2 : n < 2 ^ 31) {v : Int32} {I : MI} {F : MF} {G : MG} {post : MI → MF → MG → Prop} (h : post I (setF F k (filled (F k) n v)) G) :
    ∀ (d i : Nat) (H : Heap) (locs : List Loc) (ls : Array Slot), i + d = n → CW L A s.heap I (setF F k (filled (F k) i v)) G H locs → lv_has ls 4 [(0, .ref (cA L (10 + k))), (1, .int v), (2, .int (nI i)), (3, .int (nI n))] →
      W p l e rm_JA_fill s m args below meth c H locs 0 0 (MQ below (cQv L A post A) args s 0 0 A) (F0 m 5 ls []) := by
  obtain ⟨hx, hb, hml, hown, hts, hr, hlocks⟩ := id xc
  intro d
  induction d with
  | zero =>
    intro i H locs ls hi hw hl
    have e : i = n := by omega
    subst e
    refine lv_iload_n hx hb d_JA_fill_5 rfl (lv_at hl 2 rfl) ?_
    refine lv_iload_n hx hb d_JA_fill_6 rfl (lv_at hl 3 rfl) ?_
    refine lv_icmp_ge (tgt := 20) hx hb d_JA_fill_7 (by decide) (fun _ => ?_) (fun q => absurd (Int32.le_refl _) q)
    exact W.vret hx hb hr (fun t ht hW => ⟨⟨(I, setF F k (filled (F k) i v), G), rfl, h, by rw [ht]; exact hw.1, va_K.moved hW.alike hK, hw.2.1⟩, hw.2.2.F ht⟩) hw.2.2.2.2 d_JA_fill_20
  | succ d ih =>
    intro i H locs ls hi hw hl
    refine lv_iload_n hx hb d_JA_fill_5 rfl (lv_at hl 2 rfl) ?_
    refine lv_iload_n hx hb d_JA_fill_6 rfl (lv_at hl 3 rfl) ?_
    refine lv_icmp_ge (tgt := 20) hx hb d_JA_fill_7 (by decide) (fun q => absurd q (nI_ge (by omega) hn2)) (fun _ => ?_)
    refine lv_aload_n hx hb d_JA_fill_10 rfl (lv_at hl 0 rfl) ?_
    refine lv_iload_n hx hb d_JA_fill_11 rfl (lv_at hl 2 rfl) ?_
    refine lv_iload_n hx hb d_JA_fill_12 rfl (lv_at hl 1 rfl) ?_
    refine c_iast hx hb hK hw k hk hn (show vp_in (nI i) n from nI_in (by omega) hn2) d_JA_fill_13 (fun H locs hw => ?_)
    rw [nI_clamp (by omega), setF_at, setF_setF, filled_s] at hw
    refine lv_iinc (v := nI (i + 1)) (lv' := [(2, .int (nI (i + 1))), (0, .ref (cA L (10 + k))), (1, .int v), (3, .int (nI n))]) hx hb d_JA_fill_14 hl (k := 2) rfl (by rw [nI_succ]; rfl) (by decide) rfl (fun ls hl => ?_)
    refine lv_goto (tgt := 5) hx hb d_JA_fill_17 (by decide) ?_
    exact ih (i + 1) H locs ls (by omega) hw (lv_sub hl [1, 2, 0, 3] rfl)
set_option maxHeartbeats 4000000 in
set_option maxRecDepth 100000 in
theorem c_JA_fill (l : Launch) (L : cL) (k n : Nat) (hk : k < 30) (hn : cLen k = n) (hn2 : n < 2 ^ 31) (v : Int32) (I : MI) (F : MF) (G : MG) (sz : Nat) (post : MI → MF → MG → Prop) (h : post I (setF F k (filled (F k) n v)) G) : Met l y_JA_fill (.code y_JA_fill b_JA_fill 4 none :: lwG) rm_JA_fill (cPm L I F G sz [.ref (cA L (10 + k)), .int v]) (cQv L (cAA L I F G sz) post (cAA L I F G sz)) 0 0 (cAA L I F G sz) := by
  refine Met.ofW (cc := b_JA_fill) (maxL := 4) (ret := none) (by decide) rfl ?_
  intro p e s m args below meth c s₁ B hml hv
  obtain ⟨rfl, hsz, hP, hK, hD0, hN⟩ := hv
  have xc : xC p s m _ meth c b_JA_fill 4 lwG "java/util/Arrays" none := ⟨B.exec, B.bytes, hml, findClass_of_methodNamed B.named, fun w h => atoms_spec (ws := (.code y_JA_fill b_JA_fill 4 none :: lwG)) B.pre w (List.mem_cons_of_mem _ h), B.returns, B.notSynchronized⟩
  obtain ⟨hx, hb, hml, hown, hts, hr, hlocks⟩ := id xc
  subst hsz
  have hD : va_D (cAA L I F G s.heap.size) (WC L I F G) := hD0.self
  generalize cAA L I F G s.heap.size = A at hD ⊢
  have hw : CW L A s.heap I F G s.heap [] := ⟨hP, hD, va_S.rf⟩
  have hl := lv_entry ([.ref (cA L (10 + k)), .int v]) (n := 4) (Nat.le_of_ble_eq_true rfl)
  rw [lg_entry_eq]
  generalize (lg_sl ([.ref (cA L (10 + k)), .int v]) ++ List.replicate (4 - (lg_sl ([.ref (cA L (10 + k)), .int v])).length) Slot.unset).toArray = ls at hl ⊢
  have hl : lv_has ls 4 [(0, .ref (cA L (10 + k))), (1, .int v)] := hl
  refine lv_iconst (v := nI 0) hx hb d_JA_fill_0 (by decide) ?_
  refine lv_istore_n (lv' := [(2, .int (nI 0)), (0, .ref (cA L (10 + k))), (1, .int v)]) hx hb d_JA_fill_1 rfl hl (by decide) rfl (fun ls hl => ?_)
  refine lv_aload_n hx hb d_JA_fill_2 rfl (lv_at hl 1 rfl) ?_
  refine va_alen hx hb hK hw.1 (10 + k) 0 (WC_int k hk) rfl (v := nI n) (by show Int32.ofNat (cLen k) = _; rw [hn]; rfl) d_JA_fill_3 ?_
  refine lv_istore_n (lv' := [(3, .int (nI n)), (2, .int (nI 0)), (0, .ref (cA L (10 + k))), (1, .int v)]) hx hb d_JA_fill_4 rfl hl (by decide) rfl (fun ls hl => ?_)
  refine Wl_fill xc hK hk hn hn2 h n 0 _ _ ls (by omega) ?_ (lv_sub hl [2, 3, 1, 0] rfl)
  rw [filled_0, setF_self]
  exact hw
section FILL
variable {p : Program} {l : Launch} {e : Env} {R : Room} {s : State} {m : MethodId} {args : Array Value} {below : List Frame} {meth : Method} {c : Code} {H : Heap} {locs : List Loc} {cells slots : Nat} {Q : State → Prop}
variable {cc : ByteArray} {pc nL : Nat} {ls : Array Slot} {rest : List Value} {A : Nat → Prop} {L : cL} {I : MI} {F : MF} {G : MG}
theorem c_fill {own : String} {index k n : Nat} {v : Int32} {Ts : List Cond} (S : CallFix p m c cc nL s args Ts own) (hK : va_K L.1 vwCl (cTys L) s) (hN : cNk s) (hw : CW L A s.heap I F G H locs) (hA : ∀ q, s.heap.size ≤ q → A q)
    (cw : CallB R s args own index y_JA_fill b_JA_fill 4 none (.code y_JA_fill b_JA_fill 4 none :: lwG) rm_JA_fill 0 0 2 ∧ (Cond.static y_JA_fill).before args s = true) (hk : k < 30) (hn : cLen k = n) (hn2 : n < 2 ^ 31) (hsz : ls.size = nL) (hW : 2 * (F0 m pc ls (.int v :: .ref (cA L (10 + k)) :: rest)).monitorRoom + (rest.map fun v => v.category).sum ≤ 8) (hdg : decode cc pc = .ok (.invokestatic index, 3)) (hf : cells + 0 ≤ R.cells ∧ slots + 0 ≤ R.slots)
    (kk : ∀ (H1 : Heap) (locs1 : List Loc), CW L A s.heap I (setF F k (filled (F k) n v)) G H1 locs1 → W p l e R s m args below meth c H1 locs1 cells slots Q (F0 m (pc + 3) ls rest)) : W p l e R s m args below meth c H locs cells slots Q (F0 m pc ls (.int v :: .ref (cA L (10 + k)) :: rest)) :=
  c_callv (va_runS (As := [.ref (cA L (10 + k)), .int v]) (rest := rest) S (c_JA_fill l L k n hk hn hn2 v I F G H.size (fun I1 F1 G1 => I1 = I ∧ F1 = setF F k (filled (F k) n v) ∧ G1 = G) ⟨rfl, rfl, rfl⟩) cw
    ⟨cPm_blind _ _ _ _ _ _, fun U hU hW => ⟨rfl, by rw [hU], by rw [hU]; exact hw.1, va_K.moved hW.alike hK, hw.2.1.weaken (fun _ _ _ _ => trivial), cNk.warm hW hN⟩⟩ rfl rfl hsz rfl hW hdg hf) hw hA
    (fun I1 F1 G1 H1 locs1 h hw1 => by obtain ⟨e1, e2, e3⟩ := h; rw [e1, e2, e3] at hw1; exact kk H1 locs1 hw1)
end FILL
