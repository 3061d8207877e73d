/-! contracts of methods that may throw -/
/-- the constant texts: where they stand -/
def stL : List (String × Nat × String) := [("ChipForge", 51, "a kind, net or row that is not there"), ("ChipForge", 60, "the second input is no net"), ("ChipForge", 70, "no room for the gate, or its net is driven"), ("ChipForge$Channel", 41, "nets are above one another in a circle"), ("ChipForge$Channel", 48, "more than 9 tracks are needed"), ("ChipForge", 210, "no such pin"), ("ChipForge", 201, "nets are 0 to 11"), ("ChipForge", 128, "nothing of a net has this number"), ("ChipForge", 203, "nothing is routed"), ("ChipForge", 216, "no such point of the drawing"), ("ChipForge", 137, "a point holds 0 to 7"), ("ChipForge", 160, "no such kind, or a time that is not 0 to 100"), ("ChipForge", 178, "the arrival depends on itself"), ("ChipForge", 188, "a net depends on itself"), ("ChipForge", 199, "nothing that is counted has this number")]
def cSt (U : State) : Prop := (∀ q ∈ stL, ∃ sa, vk_R q.1 q.2.1 q.2.2 sa U) ∧ cDc U
theorem cSt.warm {s U : State} (hW : s.WarmedH U.vm) (h : cSt s) : cSt U := ⟨fun q hq => by obtain ⟨sa, h1⟩ := h.1 q hq; exact ⟨sa, vk_R.warm hW h1⟩, h.2.warm hW⟩
theorem cSt.same {s U : State} (hv : s.vm = U.vm) (h : cSt s) : cSt U := ⟨fun q hq => by obtain ⟨sa, h1⟩ := h.1 q hq; exact ⟨sa, vk_R.same hv.symm h1⟩, h.2.same hv⟩
def cPx (L : cL) (I : MI) (F : MF) (G : MG) (sz : Nat) (av : List Value) : Array Value → State → Prop := va_Pc av (fun U => U.heap.size = sz ∧ va_P L.1 vwCl (WC L I F G) U.heap ∧ va_K L.1 vwCl (cTys L) U ∧ va_D (fun _ => True) (WC L I F G) ∧ cNk U ∧ tx_Z (cAA L I F G sz) U U.heap ∧ cSt U)
theorem cPx_blind (L : cL) (I : MI) (F : MF) (G : MG) (sz : Nat) (av : List Value) : FrameBlind (cPx L I F G sz av) := fun a U g mk h => ⟨h.1, h.2.1, h.2.2.1, va_K.moved (u := U) (U := U.calling g mk a) (Vm.Alike.refl U.vm) h.2.2.2.1, h.2.2.2.2.1, cNk.same rfl h.2.2.2.2.2.1, tx_Z.moved (Vm.Alike.refl U.vm) h.2.2.2.2.2.2.1, cSt.same (s := U) (U := U.calling g mk a) rfl h.2.2.2.2.2.2.2⟩
abbrev cRi (L : cL) (A : Nat → Prop) (post : Int32 → MI → MF → MG → Prop) (A1 : Nat → Prop) := tx_R (fun v (u : cM) => ∃ r, v = some (.int r) ∧ post r u.1 u.2.1 u.2.2) (cB L A) A1
abbrev cRd (L : cL) (A : Nat → Prop) (post : UInt64 → MI → MF → MG → Prop) (A1 : Nat → Prop) := tx_R (fun v (u : cM) => ∃ r, v = some (.double r) ∧ post r u.1 u.2.1 u.2.2) (cB L A) A1
abbrev cRv (L : cL) (A : Nat → Prop) (post : MI → MF → MG → Prop) (A1 : Nat → Prop) := tx_R (fun v (u : cM) => v = none ∧ post u.1 u.2.1 u.2.2) (cB L A) A1
abbrev cX (L : cL) (A : Nat → Prop) (thr : String → MI → MF → MG → Prop) (A1 : Nat → Prop) := tx_X (fun E (u : cM) => thr E u.1 u.2.1 u.2.2) (cB L A) A1
section WCX
variable {s : State} {H : Heap} {locs : List Loc} {A : Nat → Prop} {L : cL} {I : MI} {F : MF} {G : MG} {As : List Value}
theorem cX_of {thr : String → MI → MF → MG → Prop} {E : String} (hw : CW L A s.heap I F G H locs) (hK : va_K L.1 vwCl (cTys L) s) (h : thr E I F G) : ∀ t : State, s.vm.Alike t.vm → H.size ≤ t.heap.size → (∀ q : Nat, q < H.size → t.heap[q]? = H[q]?) → cX L A thr A E s t := fun t hal hz hq =>
  ⟨⟨(I, F, G), h, hw.1.kept (fun k x hx => hq x.1 (hw.1 k x hx).lt), va_K.moved hal hK, hw.2.1⟩, Nat.le_trans hw.2.2.1 hz, fun q h1 h2 => (hq q (Nat.lt_of_lt_of_le h1 hw.2.2.1)).trans (hw.2.2.2.1 q h1 h2)⟩
theorem cZ_of (hw : CW L A s.heap I F G H locs) (hA : ∀ q, s.heap.size ≤ q → A q) (hz : tx_Z A s s.heap) {U : State} (hU : U.heap = H) (hal : s.vm.Alike U.vm) : tx_Z (cAA L I F G H.size) U U.heap := by
  rw [hU]
  exact tx_Z.moved hal ((hz.kept hw.2.2.1 hw.2.2.2.1).narrow (fun q _ h => cfree hw hA q h))
theorem cPrx0 (hK : va_K L.1 vwCl (cTys L) s) (hN : cNk s) (hw : CW L A s.heap I F G H locs) (hA : ∀ q, s.heap.size ≤ q → A q) (hz : tx_Z A s s.heap) (hsr : cSt s) : PreV s H qR0 (cA L 0) (cPx L I F G H.size (.ref (cA L 0) :: As)) As :=
  ⟨cPx_blind _ _ _ _ _ _, va_recv hK hw.1 (ci := 0) (q0 := 0) rfl rfl, fun U hU hW => ⟨rfl, by rw [hU], by rw [hU]; exact hw.1, va_K.moved hW.alike hK, hw.2.1.weaken (fun _ _ _ _ => trivial), cNk.warm hW hN, cZ_of hw hA hz hU hW.alike, cSt.warm hW hsr⟩⟩
theorem cPrx1 (hK : va_K L.1 vwCl (cTys L) s) (hN : cNk s) (hw : CW L A s.heap I F G H locs) (hA : ∀ q, s.heap.size ≤ q → A q) (hz : tx_Z A s s.heap) (hsr : cSt s) : PreV s H qR1 (cA L 1) (cPx L I F G H.size (.ref (cA L 1) :: As)) As :=
  ⟨cPx_blind _ _ _ _ _ _, va_recv hK hw.1 (ci := 1) (q0 := 1) rfl rfl, fun U hU hW => ⟨rfl, by rw [hU], by rw [hU]; exact hw.1, va_K.moved hW.alike hK, hw.2.1.weaken (fun _ _ _ _ => trivial), cNk.warm hW hN, cZ_of hw hA hz hU hW.alike, cSt.warm hW hsr⟩⟩
theorem cPrx2 (hK : va_K L.1 vwCl (cTys L) s) (hN : cNk s) (hw : CW L A s.heap I F G H locs) (hA : ∀ q, s.heap.size ≤ q → A q) (hz : tx_Z A s s.heap) (hsr : cSt s) : PreV s H qR2 (cA L 2) (cPx L I F G H.size (.ref (cA L 2) :: As)) As :=
  ⟨cPx_blind _ _ _ _ _ _, va_recv hK hw.1 (ci := 2) (q0 := 2) rfl rfl, fun U hU hW => ⟨rfl, by rw [hU], by rw [hU]; exact hw.1, va_K.moved hW.alike hK, hw.2.1.weaken (fun _ _ _ _ => trivial), cNk.warm hW hN, cZ_of hw hA hz hU hW.alike, cSt.warm hW hsr⟩⟩
theorem cPrx3 (hK : va_K L.1 vwCl (cTys L) s) (hN : cNk s) (hw : CW L A s.heap I F G H locs) (hA : ∀ q, s.heap.size ≤ q → A q) (hz : tx_Z A s s.heap) (hsr : cSt s) : PreV s H qR3 (cA L 3) (cPx L I F G H.size (.ref (cA L 3) :: As)) As :=
  ⟨cPx_blind _ _ _ _ _ _, va_recv hK hw.1 (ci := 3) (q0 := 3) rfl rfl, fun U hU hW => ⟨rfl, by rw [hU], by rw [hU]; exact hw.1, va_K.moved hW.alike hK, hw.2.1.weaken (fun _ _ _ _ => trivial), cNk.warm hW hN, cZ_of hw hA hz hU hW.alike, cSt.warm hW hsr⟩⟩
theorem cPrx4 (hK : va_K L.1 vwCl (cTys L) s) (hN : cNk s) (hw : CW L A s.heap I F G H locs) (hA : ∀ q, s.heap.size ≤ q → A q) (hz : tx_Z A s s.heap) (hsr : cSt s) : PreV s H qR4 (cA L 4) (cPx L I F G H.size (.ref (cA L 4) :: As)) As :=
  ⟨cPx_blind _ _ _ _ _ _, va_recv hK hw.1 (ci := 4) (q0 := 4) rfl rfl, fun U hU hW => ⟨rfl, by rw [hU], by rw [hU]; exact hw.1, va_K.moved hW.alike hK, hw.2.1.weaken (fun _ _ _ _ => trivial), cNk.warm hW hN, cZ_of hw hA hz hU hW.alike, cSt.warm hW hsr⟩⟩
end WCX
section WCY
variable {p : Program} {l : Launch} {e : Env} {R : Room} {s : State} {m : MethodId} {args : Array Value} {below : List Frame} {meth : Method} {c : Code} {H : Heap} {locs : List Loc} {cells slots mc ms mc0 ms0 : Nat} {Qc : Array Value → State → Outcome → State → Prop} {thr : String → MI → MF → MG → Prop}
variable {pc : Nat} {ls : Array Slot} {rest st0 : List Value} {A : Nat → Prop} {L : cL} {I : MI} {F : MF} {G : MG} {a : Array Value}
theorem c_outX (hw : CW L A s.heap I F G H locs) (hA : ∀ q, s.heap.size ≤ q → A q) (hK : va_K L.1 vwCl (cTys L) s) (hnt : ∀ x ∈ c.exceptionTable.toList, False) (hlocks : meth.locks = false) (h1 : cells ≤ mc0) (h2 : slots ≤ ms0)
    {q : Addr} {E : String} {ce : Cell} {u : cM} {t : State} {H1 : Heap} {locs1 : List Loc} (ht : t.heap = H1) (hp : thr E u.1 u.2.1 u.2.2) (hB : cB L (cAA L I F G H.size) u t) (hS : va_S A s.heap H1 locs1) (hq : H1[q]? = some ce) (hv : ce.vm = .none) (hcl : s.vm.findClass E = some ce.cls) :
    tx_W p l e R s m args below meth c H1 locs1 cells slots (tx_MQ below Qc (cX L A thr A) args s mc0 ms0 A) (F0 m pc ls rest) q := by
  have hw1 := c_back hw hA ht hB hS
  refine tx_wider h1 h2 (tx_out hnt hlocks hq hv hcl (fun t1 ht1 hW => ?_) hw1.2.2.2.2)
  exact ⟨⟨u, hp, by rw [ht1]; exact hw1.1, va_K.moved hW.alike hK, hw1.2.1⟩, hw1.2.2.F ht1⟩
theorem c_callXi {post : Int32 → MI → MF → MG → Prop} (hr : tx_Run p l e R s m args below meth c H locs cells slots mc ms (F0 m pc ls st0) rest (cRi L (cAA L I F G H.size) post (cAA L I F G H.size) a) (cX L (cAA L I F G H.size) thr (cAA L I F G H.size)) (cAA L I F G H.size)) (hw : CW L A s.heap I F G H locs) (hA : ∀ q, s.heap.size ≤ q → A q)
    (hK : va_K L.1 vwCl (cTys L) s) (hnt : ∀ x ∈ c.exceptionTable.toList, False) (hlocks : meth.locks = false) (h1 : cells + mc ≤ mc0) (h2 : slots + ms ≤ ms0)
    (kk : ∀ (r : Int32) (I1 : MI) (F1 : MF) (G1 : MG) (H1 : Heap) (locs1 : List Loc), post r I1 F1 G1 → CW L A s.heap I1 F1 G1 H1 locs1 → W p l e R s m args below meth c H1 locs1 (cells + mc) (slots + ms) (tx_MQ below Qc (cX L A thr A) args s mc0 ms0 A) (F0 m (pc + 3) ls (.int r :: rest))) :
    W p l e R s m args below meth c H locs cells slots (tx_MQ below Qc (cX L A thr A) args s mc0 ms0 A) (F0 m pc ls st0) :=
  tx_call hr hw.2.2 (fun q _ h => cfree hw hA q h) (cfree hw hA)
    (fun v u t H1 locs1 ht _ hp hB _ _ hS => by obtain ⟨r, rfl, hp⟩ := hp; exact kk r u.1 u.2.1 u.2.2 H1 locs1 hp (c_back hw hA ht hB hS))
    (fun q E ce u t H1 locs1 ht _ hp hB _ _ hS hq hv hcl => c_outX hw hA hK hnt hlocks h1 h2 ht hp hB hS hq hv hcl)
theorem c_callXd {post : UInt64 → MI → MF → MG → Prop} (hr : tx_Run p l e R s m args below meth c H locs cells slots mc ms (F0 m pc ls st0) rest (cRd L (cAA L I F G H.size) post (cAA L I F G H.size) a) (cX L (cAA L I F G H.size) thr (cAA L I F G H.size)) (cAA L I F G H.size)) (hw : CW L A s.heap I F G H locs) (hA : ∀ q, s.heap.size ≤ q → A q)
    (hK : va_K L.1 vwCl (cTys L) s) (hnt : ∀ x ∈ c.exceptionTable.toList, False) (hlocks : meth.locks = false) (h1 : cells + mc ≤ mc0) (h2 : slots + ms ≤ ms0)
    (kk : ∀ (r : UInt64) (I1 : MI) (F1 : MF) (G1 : MG) (H1 : Heap) (locs1 : List Loc), post r I1 F1 G1 → CW L A s.heap I1 F1 G1 H1 locs1 → W p l e R s m args below meth c H1 locs1 (cells + mc) (slots + ms) (tx_MQ below Qc (cX L A thr A) args s mc0 ms0 A) (F0 m (pc + 3) ls (.double r :: rest))) :
    W p l e R s m args below meth c H locs cells slots (tx_MQ below Qc (cX L A thr A) args s mc0 ms0 A) (F0 m pc ls st0) :=
  tx_call hr hw.2.2 (fun q _ h => cfree hw hA q h) (cfree hw hA)
    (fun v u t H1 locs1 ht _ hp hB _ _ hS => by obtain ⟨r, rfl, hp⟩ := hp; exact kk r u.1 u.2.1 u.2.2 H1 locs1 hp (c_back hw hA ht hB hS))
    (fun q E ce u t H1 locs1 ht _ hp hB _ _ hS hq hv hcl => c_outX hw hA hK hnt hlocks h1 h2 ht hp hB hS hq hv hcl)
theorem c_callXv {post : MI → MF → MG → Prop} (hr : tx_Run p l e R s m args below meth c H locs cells slots mc ms (F0 m pc ls st0) rest (cRv L (cAA L I F G H.size) post (cAA L I F G H.size) a) (cX L (cAA L I F G H.size) thr (cAA L I F G H.size)) (cAA L I F G H.size)) (hw : CW L A s.heap I F G H locs) (hA : ∀ q, s.heap.size ≤ q → A q)
    (hK : va_K L.1 vwCl (cTys L) s) (hnt : ∀ x ∈ c.exceptionTable.toList, False) (hlocks : meth.locks = false) (h1 : cells + mc ≤ mc0) (h2 : slots + ms ≤ ms0)
    (kk : ∀ (I1 : MI) (F1 : MF) (G1 : MG) (H1 : Heap) (locs1 : List Loc), post I1 F1 G1 → CW L A s.heap I1 F1 G1 H1 locs1 → W p l e R s m args below meth c H1 locs1 (cells + mc) (slots + ms) (tx_MQ below Qc (cX L A thr A) args s mc0 ms0 A) (F0 m (pc + 3) ls (rest))) :
    W p l e R s m args below meth c H locs cells slots (tx_MQ below Qc (cX L A thr A) args s mc0 ms0 A) (F0 m pc ls st0) :=
  tx_call hr hw.2.2 (fun q _ h => cfree hw hA q h) (cfree hw hA)
    (fun v u t H1 locs1 ht _ hp hB _ _ hS => by obtain ⟨rfl, hp⟩ := hp; exact kk u.1 u.2.1 u.2.2 H1 locs1 hp (c_back hw hA ht hB hS))
    (fun q E ce u t H1 locs1 ht _ hp hB _ _ hS hq hv hcl => c_outX hw hA hK hnt hlocks h1 h2 ht hp hB hS hq hv hcl)
end WCY
