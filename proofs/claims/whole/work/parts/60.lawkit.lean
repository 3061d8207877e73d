/-! the law's walk: worlds by permutation, calls and the rest -/
theorem fd_iff {A : Nat → Prop} {ws : va_W} : va_D A ws ↔ (∀ q ∈ ws, A q.1) ∧ ws.Pairwise (fun p q => p.1 ≠ q.1) := by
  constructor
  · intro h
    refine ⟨fun q hq => ?_, List.pairwise_iff_getElem.mpr fun i j hi hj hij e => ?_⟩
    · obtain ⟨i, hi⟩ := List.getElem?_of_mem hq
      exact h.2 i q hi
    · have := h.1 i j _ _ (List.getElem?_eq_getElem hi) (List.getElem?_eq_getElem hj) e
      omega
  · intro h
    refine ⟨fun i j p q hi hj e => ?_, fun k q hk => h.1 q (List.mem_of_getElem? hk)⟩
    obtain ⟨hi1, hi2⟩ := List.getElem?_eq_some_iff.mp hi
    obtain ⟨hj1, hj2⟩ := List.getElem?_eq_some_iff.mp hj
    have hp := List.pairwise_iff_getElem.mp h.2
    rcases Nat.lt_trichotomy i j with c | c | c
    · exact absurd (by rw [hi2, hj2]; exact e) (hp i j hi1 hj1 c)
    · exact c
    · exact absurd (by rw [hi2, hj2]; exact e.symm) (hp j i hj1 hi1 c)
theorem fd_perm {A : Nat → Prop} {ws ws' : va_W} (hp : ws.Perm ws') (h : va_D A ws) : va_D A ws' := by
  rw [fd_iff] at h ⊢
  exact ⟨fun q hq => h.1 q (hp.mem_iff.mpr hq), (hp.pairwise_iff (fun {x y} h => Ne.symm h)).mp h.2⟩
theorem fr_perm {D : va_G} {cl : List vw_C} {ws ws' : va_W} {H : Heap} (hp : ws.Perm ws') (h : va_P D cl ws H) : va_P D cl ws' H := by
  intro k q hk
  obtain ⟨i, hi⟩ := List.getElem?_of_mem (hp.mem_iff.mpr (List.mem_of_getElem? hk))
  exact h i q hi
theorem GW.perm {D : va_G} {A : Nat → Prop} {H0 H : Heap} {locs : List Loc} {ws ws' : va_W} (h : GW D A H0 ws H locs) (hp : ws.Perm ws') : GW D A H0 ws' H locs := ⟨fr_perm hp h.1, fd_perm hp h.2.1, h.2.2⟩
theorem pm_c {a b c d : va_W} : (a ++ (b ++ (c ++ d))).Perm ((a ++ c) ++ (b ++ d)) := by
  rw [List.append_assoc]
  exact (List.perm_append_comm_assoc b c d).append_left a
theorem pm_d {a b c d : va_W} : (a ++ (b ++ (c ++ d))).Perm ((a ++ d) ++ (b ++ c)) := by
  rw [List.append_assoc]
  refine List.Perm.append_left a ?_
  exact ((List.perm_append_comm (l₁ := c) (l₂ := d)).append_left b).trans (List.perm_append_comm_assoc b d c)
theorem pm_b {a b c d : va_W} : (a ++ (b ++ (c ++ d))).Perm (b ++ (a ++ (c ++ d))) := List.perm_append_comm_assoc a b (c ++ d)
section LFR
variable {p : Program} {l : Launch} {e : Env} {R : Room} {s : State} {m : MethodId} {args : Array Value} {below : List Frame} {meth : Method} {c : Code} {H : Heap} {locs : List Loc} {cells slots mc ms : Nat} {Q : State → Prop}
variable {cc : ByteArray} {pc : Nat} {ls : Array Slot} {rest st0 : List Value} {A : Nat → Prop} {D : va_G} {wc wr : va_W} {a : Array Value}
theorem l_fri {S : Type} {post : Int32 → S → Prop} {B : S → State → Prop} {w1 : S → va_W} (hr : va_Run p l e R s m args below meth c H locs cells slots mc ms (F0 m pc ls st0) rest (va_Qi post B (va_A wc H.size) a) (va_A wc H.size)) (hw : GW D A s.heap (wc ++ wr) H locs) (hA : ∀ q, s.heap.size ≤ q → A q)
    (hB : ∀ u t, B u t → va_P D vwCl (w1 u) t.heap ∧ va_D (va_A wc H.size) (w1 u))
    (kk : ∀ (r : Int32) (u : S) (H1 : Heap) (locs1 : List Loc), post r u → GW D A s.heap (w1 u ++ wr) H1 locs1 → W p l e R s m args below meth c H1 locs1 (cells + mc) (slots + ms) Q (F0 m (pc + 3) ls (.int r :: rest))) : W p l e R s m args below meth c H locs cells slots Q (F0 m pc ls st0) := by
  have hf := fr_free hw.2.1 hw.2.2 hA
  refine va_calli hr hw.2.2 (fun q _ h => hf q h) hf (fun r u t H1 locs1 ht _ hp hb _ hk hS => kk r u H1 locs1 hp ?_)
  have hb1 := hB u t hb
  rw [ht] at hb1
  have hj := fr_join hw.1 hw.2.1 hk hf hb1.1 hb1.2
  exact ⟨hj.1, hj.2, hS⟩
theorem l_frd {S : Type} {post : UInt64 → S → Prop} {B : S → State → Prop} {w1 : S → va_W} (hr : va_Run p l e R s m args below meth c H locs cells slots mc ms (F0 m pc ls st0) rest (va_Qd post B (va_A wc H.size) a) (va_A wc H.size)) (hw : GW D A s.heap (wc ++ wr) H locs) (hA : ∀ q, s.heap.size ≤ q → A q)
    (hB : ∀ u t, B u t → va_P D vwCl (w1 u) t.heap ∧ va_D (va_A wc H.size) (w1 u))
    (kk : ∀ (r : UInt64) (u : S) (H1 : Heap) (locs1 : List Loc), post r u → GW D A s.heap (w1 u ++ wr) H1 locs1 → W p l e R s m args below meth c H1 locs1 (cells + mc) (slots + ms) Q (F0 m (pc + 3) ls (.double r :: rest))) : W p l e R s m args below meth c H locs cells slots Q (F0 m pc ls st0) := by
  have hf := fr_free hw.2.1 hw.2.2 hA
  refine va_calld hr hw.2.2 (fun q _ h => hf q h) hf (fun r u t H1 locs1 ht _ hp hb _ hk hS => kk r u H1 locs1 hp ?_)
  have hb1 := hB u t hb
  rw [ht] at hb1
  have hj := fr_join hw.1 hw.2.1 hk hf hb1.1 hb1.2
  exact ⟨hj.1, hj.2, hS⟩
theorem l_frv {S : Type} {post : S → Prop} {B : S → State → Prop} {w1 : S → va_W} (hr : va_Run p l e R s m args below meth c H locs cells slots mc ms (F0 m pc ls st0) rest (va_Qv post B (va_A wc H.size) a) (va_A wc H.size)) (hw : GW D A s.heap (wc ++ wr) H locs) (hA : ∀ q, s.heap.size ≤ q → A q)
    (hB : ∀ u t, B u t → va_P D vwCl (w1 u) t.heap ∧ va_D (va_A wc H.size) (w1 u))
    (kk : ∀ (u : S) (H1 : Heap) (locs1 : List Loc), post u → GW D A s.heap (w1 u ++ wr) H1 locs1 → W p l e R s m args below meth c H1 locs1 (cells + mc) (slots + ms) Q (F0 m (pc + 3) ls rest)) : W p l e R s m args below meth c H locs cells slots Q (F0 m pc ls st0) := by
  have hf := fr_free hw.2.1 hw.2.2 hA
  refine va_callv hr hw.2.2 (fun q _ h => hf q h) hf (fun u t H1 locs1 ht _ hp hb _ hk hS => kk u H1 locs1 hp ?_)
  have hb1 := hB u t hb
  rw [ht] at hb1
  have hj := fr_join hw.1 hw.2.1 hk hf hb1.1 hb1.2
  exact ⟨hj.1, hj.2, hS⟩
theorem gZ_of {H : Heap} {locs : List Loc} (hS : va_S A s.heap H locs) (hF : ∀ q, va_A wc H.size q → A q) (hz : tx_Z A s s.heap) {U : State} (hU : U.heap = H) (hal : s.vm.Alike U.vm) : tx_Z (va_A wc H.size) U U.heap := by
  rw [hU]
  exact tx_Z.moved hal ((hz.kept hS.1 hS.2.1).narrow (fun q _ h => hF q h))
/-- a wrapper's start -/
theorem lPre {L : cL} {cJ : ClassId} {As : List Value} (hK : va_K L.1 vwCl (oT L cJ) s) (hN : cNk s) (hz : tx_Z A s s.heap) (hsr : cSt s) (hNc : cNcs s) (hA : ∀ q, s.heap.size ≤ q → A q) (hw : GW L.1 A s.heap (wc ++ wr) H locs) : PreS s H (wPc L cJ wc H.size As) As :=
  ⟨wPc_blind _ _ _ _ _, fun U hU hW => ⟨rfl, by rw [hU], by rw [hU]; exact fr_left hw.1, va_K.moved hW.alike hK, (fd_left hw.2.1).weaken (fun _ _ _ _ => trivial), cNk.warm hW hN, gZ_of hw.2.2 (fr_free hw.2.1 hw.2.2 hA) hz hU hW.alike, cSt.warm hW hsr, cNcs.moved hW.alike hNc⟩⟩
/-- script[i + k] -/
theorem la_arg (hx : p.tables.exec = Jvm.exec) (hb : c.code = cc) {b L j k : Nat} {xs : Nat → Int32} (hX : va_X b L xs s s.heap) (hbl : b < s.heap.size) (hbA : ¬ A b) (hS : va_S A s.heap H locs) (h0 : ls[0]? = some (.val (.ref b))) (h5 : ls[5]? = some (.val (.int (nI j)))) {ki : Int} (hk : Int32.ofInt ki = nI k) (hL : j + k < L) (hL2 : L < 2 ^ 31)
    (d0 : decode cc pc = .ok (.aload_n 0, 1)) (d1 : decode cc (pc + 1) = .ok (.iload 5, 2)) (d3 : decode cc (pc + 3) = .ok (.iconst ki, 1)) (d4 : decode cc (pc + 4) = .ok (.iadd, 1)) (d5 : decode cc (pc + 5) = .ok (.iaload, 1))
    (kk : W p l e R s m args below meth c H locs cells slots Q (F0 m (pc + 6) ls (.int (xs (j + k)) :: rest))) : W p l e R s m args below meth c H locs cells slots Q (F0 m pc ls rest) := by
  refine lv_aload_n hx hb d0 rfl h0 ?_
  refine lv_iload hx hb d1 h5 ?_
  refine lv_iconst (v := nI k) hx hb d3 hk ?_
  refine lv_iadd hx hb d4 ?_
  have e : nI j + nI k = nI (j + k) := by
    apply Int32.toInt_inj.mp
    rw [nI_toInt (by omega)]
    have h1 := Int32.toInt_add (nI j) (nI k)
    rw [h1, nI_toInt (by omega), nI_toInt (by omega)]
    have : ((j : Int) + (k : Int)) = ((j + k : Nat) : Int) := by omega
    rw [this]
    exact Int.bmod_eq_of_le (by omega) (by omega)
  rw [e]
  refine va_sld hx hb hX hbl hbA hS (show vp_in (nI (j + k)) L from nI_in hL hL2) d5 ?_
  rw [nI_clamp (by omega)]
  exact kk
end LFR
