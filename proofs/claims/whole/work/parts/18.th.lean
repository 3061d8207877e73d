/-! the words of a throw: the list's, and those of declared methods and casts, which no list hands on -/
def dcWord : Cond → Bool
  | .declares _ => true
  | .castable _ _ => true
  | _ => false
def lwD : List Cond := lw_tbl.filter dcWord
def lwH : List Cond := lwG ++ lwD
def cDc (U : State) : Prop := ∀ w ∈ lwD, va_Nw w U
theorem dc_spec {w : Cond} (h : dcWord w = true) : (∃ x, w = .declares x) ∨ ∃ C T, w = .castable C T := by
  cases w with
  | declares x => exact Or.inl ⟨x, rfl⟩
  | castable C T => exact Or.inr ⟨C, T, rfl⟩
  | _ => cases h
theorem cDc.warm {s U : State} (hW : s.WarmedH U.vm) (h : cDc s) : cDc U := by
  intro w hw
  have h1 := h w hw
  rcases dc_spec (List.mem_filter.mp hw).2 with ⟨x, rfl⟩ | ⟨C, T, rfl⟩
  · exact va_Nw.warmD hW h1
  · exact va_Nw.warmC hW h1
theorem cDc.same {s U : State} (hv : s.vm = U.vm) (h : cDc s) : cDc U := by
  intro w hw
  have h1 := h w hw
  rcases dc_spec (List.mem_filter.mp hw).2 with ⟨x, rfl⟩ | ⟨C, T, rfl⟩
  · exact va_Nw.same rfl hv h1
  · exact va_Nw.same rfl hv h1
theorem cHts {args : Array Value} {s : State} (hts : ∀ w ∈ lwG, w.before args s = true) (h : cDc s) : ∀ w ∈ lwH, w.before args s = true := by
  intro w hw
  rcases List.mem_append.mp hw with h1 | h1
  · exact hts w h1
  · rcases dc_spec (List.mem_filter.mp h1).2 with ⟨x, rfl⟩ | ⟨C, T, rfl⟩
    · exact va_Nw.use rfl (h _ h1)
    · exact va_Nw.use rfl (h _ h1)
theorem th_F_49_53 : (Cond.classLink qR0 49 "java/lang/IllegalArgumentException" :: Cond.initialized "java/lang/IllegalArgumentException" :: Bundle.ownAtoms qR0 53 "java/lang/IllegalArgumentException" ["java/lang/RuntimeException", "java/lang/Exception"]).all (fun w => (decide (w ∈ lwH) && w.onTables) || decide (w ∈ tx_four)) = true := by decide +kernel
theorem th_F_68_72 : (Cond.classLink qR0 68 "java/lang/IllegalStateException" :: Cond.initialized "java/lang/IllegalStateException" :: Bundle.ownAtoms qR0 72 "java/lang/IllegalStateException" ["java/lang/RuntimeException", "java/lang/Exception"]).all (fun w => (decide (w ∈ lwH) && w.onTables) || decide (w ∈ tx_four)) = true := by decide +kernel
theorem th_C_39_43 : (Cond.classLink qR2 39 "java/lang/UnsupportedOperationException" :: Cond.initialized "java/lang/UnsupportedOperationException" :: Bundle.ownAtoms qR2 43 "java/lang/UnsupportedOperationException" ["java/lang/RuntimeException", "java/lang/Exception"]).all (fun w => (decide (w ∈ lwH) && w.onTables) || decide (w ∈ tx_four)) = true := by decide +kernel
theorem th_C_46_50 : (Cond.classLink qR2 46 "java/lang/IllegalStateException" :: Cond.initialized "java/lang/IllegalStateException" :: Bundle.ownAtoms qR2 50 "java/lang/IllegalStateException" ["java/lang/RuntimeException", "java/lang/Exception"]).all (fun w => (decide (w ∈ lwH) && w.onTables) || decide (w ∈ tx_four)) = true := by decide +kernel
theorem th_F_208_212 : (Cond.classLink qR0 208 "java/lang/IndexOutOfBoundsException" :: Cond.initialized "java/lang/IndexOutOfBoundsException" :: Bundle.ownAtoms qR0 212 "java/lang/IndexOutOfBoundsException" ["java/lang/RuntimeException", "java/lang/Exception"]).all (fun w => (decide (w ∈ lwH) && w.onTables) || decide (w ∈ tx_four)) = true := by decide +kernel
theorem th_F_176_180 : (Cond.classLink qR0 176 "java/lang/ArithmeticException" :: Cond.initialized "java/lang/ArithmeticException" :: Bundle.ownAtoms qR0 180 "java/lang/ArithmeticException" ["java/lang/RuntimeException", "java/lang/Exception"]).all (fun w => (decide (w ∈ lwH) && w.onTables) || decide (w ∈ tx_four)) = true := by decide +kernel
