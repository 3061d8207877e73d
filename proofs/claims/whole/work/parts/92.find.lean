/-! what is joined: the reference's labels -/
def updN (m : Nat → Nat) (a x : Nat) : Nat → Nat := fun j => if j = a then x else m j
def sm (m : Nat → Nat) : Nat → Nat
  | 0 => 0
  | k + 1 => sm m k + m k
theorem sm_ge {m : Nat → Nat} {a x : Nat} : ∀ k, k ≤ a → sm (updN m a x) k = sm m k := by
  intro k
  induction k with
  | zero => intro _; rfl
  | succ k ih =>
    intro h
    show sm (updN m a x) k + updN m a x k = sm m k + m k
    rw [ih (by omega)]
    unfold updN
    rw [if_neg (by omega)]
theorem sm_upd {m : Nat → Nat} {a x : Nat} : ∀ k, a < k → sm (updN m a x) k + m a = sm m k + x := by
  intro k
  induction k with
  | zero => intro h; omega
  | succ k ih =>
    intro h
    show sm (updN m a x) k + updN m a x k + m a = sm m k + m k + x
    by_cases z : a = k
    · subst z
      rw [sm_ge a (Nat.le_refl _)]
      unfold updN
      rw [if_pos rfl]; omega
    · have := ih (by omega)
      have e : updN m a x k = m k := if_neg (by omega)
      rw [e]; omega
def ML (E : Nat → Nat → Prop) (S : Nat) (P : MF) (m : Nat → Nat) : Prop := ∀ i, i < S → P 9 i = nI (m i) ∧ m i ≤ i ∧ Cn E i (m i)
def DM (dw : Nat → Nat → Nat) (P : MF) : Prop := ∀ l, l < 11 → ∀ c, c < 24 → P 8 (24 * l + c) = nI (dw l c) ∧ dw l c < 8
theorem DM.ofP {dw : Nat → Nat → Nat} {P P' : MF} (h : DM dw P) (e : ∀ k, k ≠ 9 → P' k = P k) : DM dw P' := fun l hl c hc => by rw [e 8 (by omega)]; exact h l hl c hc
def Fl (S : Nat) (f : Bool) (P : MF) (m : Nat → Nat) (P' : MF) (m' : Nat → Nat) : Prop := (f = false → P' = P ∧ m' = m) ∧ (f = true → sm m' S < sm m S)
theorem Fl.r {S : Nat} {P : MF} {m : Nat → Nat} : Fl S false P m P m := ⟨fun _ => ⟨rfl, rfl⟩, fun z => absurd z (by decide)⟩
theorem Fl.tr {S : Nat} {f g : Bool} {P P' P'' : MF} {m m' m'' : Nat → Nat} (h : Fl S f P m P' m') (k : Fl S g P' m' P'' m'') : Fl S (f || g) P m P'' m'' := by
  cases f with
  | false =>
    obtain ⟨a, b⟩ := h.1 rfl
    subst a b
    rw [Bool.false_or]; exact k
  | true =>
    refine ⟨fun z => absurd z (by simp), fun _ => ?_⟩
    have h2 := h.2 rfl
    cases g with
    | false =>
      obtain ⟨a, b⟩ := k.1 rfl
      subst a b
      exact h2
    | true => have := k.2 rfl; omega
theorem bI_or (f g : Bool) : bI f ||| bI g = bI (f || g) := by cases f <;> cases g <;> decide
theorem bI_nar (f : Bool) : narrow .boolean (.int (bI f)) = .int (bI f) := by cases f <;> rfl
theorem mod24 : ∀ a, a < 264 → nI a - nI a / 24 * 24 = nI (a % 24) := by decide +kernel
section FND
variable {E : Nat → Nat → Prop} {T S : Nat} {dw : Nat → Nat → Nat} {J : MI} {N : MG}
theorem t_join {P : MF} {m : Nat → Nat} {a b : Nat} (hS : S ≤ 528) (ha : a < S) (hb : b < S) (hE : E a b) (hL : ML E S P m) {post : Int32 → MI → MF → MG → Prop} (h0 : m a = m b → post (bI false) J P N) (h1 : ∀ P' m', (∀ k, k ≠ 9 → P' k = P k) → ML E S P' m' → sm m' S < sm m S → post (bI true) J P' N) : wp_M_join (nI a) (nI b) J P N post := by
  obtain ⟨a1, a2, a3⟩ := hL a ha
  obtain ⟨b1, b2, b3⟩ := hL b hb
  have va := (nI_vp (a := a) (n := 528) (by omega)).mpr (by omega)
  have vb := (nI_vp (a := b) (n := 528) (by omega)).mpr (by omega)
  have key : ∀ x, m a ≠ m b → ((x = m a ∧ m a ≤ m b) ∨ (x = m b ∧ m b ≤ m a)) → ∀ P1 : MF, P1 = setF P 9 (upd (P 9) a (nI x)) → ∀ P2 : MF, P2 = setF P1 9 (upd (P1 9) b (nI x)) → post (bI true) J P2 N := by
    intro x hne hx P1 p1 P2 p2
    have hab : a ≠ b := fun z => hne (by rw [z])
    refine h1 P2 (updN (updN m a x) b x) (fun k hk => by rw [p2, p1]; simp only [setF_c]; rw [if_neg hk, if_neg hk]) (fun i hi => ?_) ?_
    · obtain ⟨c1, c2, c3⟩ := hL i hi
      rw [p2, p1]
      simp only [setF_c, if_true, upd_c, updN]
      by_cases zb : i = b
      · subst zb
        simp only [if_true]
        refine ⟨trivial, by rcases hx with z | z <;> omega, fun R hR => ?_⟩
        rcases hx with z | z
        · rw [z.1, ← hR _ _ hE]; exact a3 R hR
        · rw [z.1]; exact b3 R hR
      · simp only [if_neg zb]
        by_cases za : i = a
        · subst za
          simp only [if_true]
          refine ⟨trivial, by rcases hx with z | z <;> omega, fun R hR => ?_⟩
          rcases hx with z | z
          · rw [z.1]; exact a3 R hR
          · rw [z.1, hR _ _ hE]; exact b3 R hR
        · simp only [if_neg za]
          exact ⟨c1, c2, c3⟩
    · have u1 := sm_upd (m := m) (a := a) (x := x) S ha
      have u2 := sm_upd (m := updN m a x) (a := b) (x := x) S hb
      have u3 : updN m a x b = m b := if_neg (fun z => hab z.symm)
      rw [u3] at u2
      rcases hx with z | z <;> omega
  unfold wp_M_join
  rw [nI_clamp (n := a) (by omega), nI_clamp (n := b) (by omega), a1, b1, nI_eq_iff (by omega) (by omega), nI_le_iff (by omega) (by omega)]
  refine ⟨va, vb, fun c => ⟨va, vb, fun z => ⟨vb, fun x hx => ⟨va, fun P1 p1 => ⟨vb, fun P2 p2 => ?_⟩⟩⟩, fun z => ⟨va, fun x hx => ⟨va, fun P1 p1 => ⟨vb, fun P2 p2 => ?_⟩⟩⟩⟩, fun c => h0 c⟩
  · subst hx
    exact key (m b) c (Or.inr ⟨rfl, z⟩) P1 p1 P2 p2
  · subst hx
    exact key (m a) c (Or.inl ⟨rfl, by omega⟩) P1 p1 P2 p2
abbrev Mt3A (post : Int32 → MI → MF → MG → Prop) (a : Int32) (I : MI) (F : MF) (G : MG) : Prop := vp_in a 264 ∧ ((((F 8 a.toNatClampNeg) &&& 4) = 0 → post 0 I F G) ∧ (¬ ((F 8 a.toNatClampNeg) &&& 4) = 0 → wp_M_join (2 * a) ((2 * a) + 1) I F G (fun r I F G => ∀ x : Int32, x = 0 ||| r → narrow .boolean (.int x) = .int x ∧ post x I F G)))
abbrev Mt3B (post : Int32 → MI → MF → MG → Prop) (a y : Int32) (I : MI) (F : MF) (G : MG) : Prop := vp_in a 264 ∧ ((((F 8 a.toNatClampNeg) &&& 4) = 0 → narrow .boolean (.int y) = .int y ∧ post y I F G) ∧ (¬ ((F 8 a.toNatClampNeg) &&& 4) = 0 → wp_M_join (2 * a) ((2 * a) + 1) I F G (fun r I F G => ∀ x : Int32, x = y ||| r → narrow .boolean (.int x) = .int x ∧ post x I F G)))
abbrev Mt2A (post : Int32 → MI → MF → MG → Prop) (a b : Int32) (I : MI) (F : MF) (G : MG) : Prop := vp_in a 264 ∧ ((((F 8 a.toNatClampNeg) &&& 2) = 0 → Mt3A post a I F G) ∧ (¬ ((F 8 a.toNatClampNeg) &&& 2) = 0 → ((b ≤ (a + 24) → Mt3A post a I F G) ∧ (¬ b ≤ (a + 24) → wp_M_join ((2 * a) + 1) ((2 * (a + 24)) + 1) I F G (fun r I F G => ∀ x : Int32, x = 0 ||| r → Mt3B post a x I F G)))))
abbrev Mt2B (post : Int32 → MI → MF → MG → Prop) (a b y : Int32) (I : MI) (F : MF) (G : MG) : Prop := vp_in a 264 ∧ ((((F 8 a.toNatClampNeg) &&& 2) = 0 → Mt3B post a y I F G) ∧ (¬ ((F 8 a.toNatClampNeg) &&& 2) = 0 → ((b ≤ (a + 24) → Mt3B post a y I F G) ∧ (¬ b ≤ (a + 24) → wp_M_join ((2 * a) + 1) ((2 * (a + 24)) + 1) I F G (fun r I F G => ∀ x : Int32, x = y ||| r → Mt3B post a x I F G)))))
variable {l c : Nat}
abbrev pe1 (T : Nat) (dw : Nat → Nat → Nat) (l c : Nat) (m : Nat → Nat) : Prop := tb (dw l c) 1 = true → l + 1 < T + 2 → m (2 * (24 * l + c) + 1) = m (2 * (24 * (l + 1) + c) + 1)
abbrev pe2 (dw : Nat → Nat → Nat) (l c : Nat) (m : Nat → Nat) : Prop := tb (dw l c) 2 = true → m (2 * (24 * l + c)) = m (2 * (24 * l + c) + 1)
theorem t_st3B {P : MF} {m : Nat → Nat} {g : Bool} (hT : T ≤ 9) (hl : l < T + 2) (hc : c < 24) (hD : DM dw P) (hL : ML (Ed T dw) (48 * (T + 2)) P m) {post : Int32 → MI → MF → MG → Prop} (h : ∀ f P' m', (∀ k, k ≠ 9 → P' k = P k) → ML (Ed T dw) (48 * (T + 2)) P' m' → Fl (48 * (T + 2)) f P m P' m' → (f = false → pe2 dw l c m) → post (bI (g || f)) J P' N) : Mt3B post (nI (24 * l + c)) (bI g) J P N := by
  obtain ⟨e, hw⟩ := hD l (by omega) c hc
  unfold Mt3B
  rw [nI_clamp (by omega), e, tb_2 _ hw, i_2, nI_mul, i_1, nI_ad]
  refine ⟨(nI_vp (by omega)).mpr (by omega), fun z => ⟨bI_nar g, ?_⟩, fun z => ?_⟩
  · have := h false P m (fun _ _ => rfl) hL Fl.r (fun _ y => absurd (z.symm.trans y) (by decide))
    rw [Bool.or_false] at this; exact this
  · have z : tb (dw l c) 2 = true := by simpa using z
    refine t_join (by omega) (by omega) (by omega) ⟨l, c, hl, hc, Or.inr (Or.inr ⟨z, rfl, rfl⟩)⟩ hL (fun e x hx => ?_) (fun P' m' a1 a2 a3 x hx => ?_)
    · rw [hx, bI_or]
      exact ⟨bI_nar _, h false P m (fun _ _ => rfl) hL Fl.r (fun _ _ => e)⟩
    · rw [hx, bI_or]
      exact ⟨bI_nar _, h true P' m' a1 a2 ⟨fun y => absurd y (by decide), fun _ => a3⟩ (fun y => absurd y (by decide))⟩
theorem t_st3A {P : MF} {m : Nat → Nat} (hT : T ≤ 9) (hl : l < T + 2) (hc : c < 24) (hD : DM dw P) (hL : ML (Ed T dw) (48 * (T + 2)) P m) {post : Int32 → MI → MF → MG → Prop} (h : ∀ f P' m', (∀ k, k ≠ 9 → P' k = P k) → ML (Ed T dw) (48 * (T + 2)) P' m' → Fl (48 * (T + 2)) f P m P' m' → (f = false → pe2 dw l c m) → post (bI f) J P' N) : Mt3A post (nI (24 * l + c)) J P N := by
  have := t_st3B (g := false) (J := J) (N := N) (post := post) hT hl hc hD hL (fun f P' m' a1 a2 a3 a4 => by rw [Bool.false_or]; exact h f P' m' a1 a2 a3 a4)
  exact ⟨this.1, fun z => (this.2.1 z).2, this.2.2⟩
theorem t_st2B {P : MF} {m : Nat → Nat} {g : Bool} (hT : T ≤ 9) (hl : l < T + 2) (hc : c < 24) (hD : DM dw P) (hL : ML (Ed T dw) (48 * (T + 2)) P m) {post : Int32 → MI → MF → MG → Prop} (h : ∀ f P' m', (∀ k, k ≠ 9 → P' k = P k) → ML (Ed T dw) (48 * (T + 2)) P' m' → Fl (48 * (T + 2)) f P m P' m' → (f = false → pe1 T dw l c m ∧ pe2 dw l c m) → post (bI (g || f)) J P' N) : Mt2B post (nI (24 * l + c)) (nI (24 * (T + 2))) (bI g) J P N := by
  obtain ⟨e, hw⟩ := hD l (by omega) c hc
  unfold Mt2B
  rw [nI_clamp (n := 24 * l + c) (by omega), e, tb_1 _ hw]
  have b3 : ∀ z : (tb (dw l c) 1 = true → ¬ l + 1 < T + 2), Mt3B post (nI (24 * l + c)) (bI g) J P N := fun z => t_st3B hT hl hc hD hL (fun f P' m' a1 a2 a3 a4 => h f P' m' a1 a2 a3 (fun y => ⟨fun u v => absurd v (z u), a4 y⟩))
  refine ⟨(nI_vp (by omega)).mpr (by omega), fun z => b3 (fun y => absurd (z.symm.trans y) (by decide)), fun z => ?_⟩
  have z : tb (dw l c) 1 = true := by simpa using z
  have e24 : nI (24 * l + c) + 24 = nI (24 * (l + 1) + c) := by rw [i_24, nI_ad, show 24 * l + c + 24 = 24 * (l + 1) + c by omega]
  have e1 : 2 * nI (24 * l + c) + 1 = nI (2 * (24 * l + c) + 1) := by rw [i_2, nI_mul, i_1, nI_ad]
  have e2 : 2 * nI (24 * (l + 1) + c) + 1 = nI (2 * (24 * (l + 1) + c) + 1) := by rw [i_2, nI_mul, i_1, nI_ad]
  rw [e24, nI_le_iff (by omega) (by omega), e1, e2]
  refine ⟨fun y => b3 (fun _ => by omega), fun y => ?_⟩
  refine t_join (by omega) (by omega) (by omega) ⟨l, c, hl, hc, Or.inr (Or.inl ⟨z, by omega, rfl, rfl⟩)⟩ hL (fun e x hx => ?_) (fun P' m' a1 a2 a3 x hx => ?_)
  · rw [hx, bI_or, Bool.or_false]
    exact t_st3B hT hl hc hD hL (fun f P' m' a1 a2 a3 a4 => h f P' m' a1 a2 a3 (fun y => ⟨fun _ _ => e, a4 y⟩))
  · rw [hx, bI_or]
    refine t_st3B hT hl hc (hD.ofP a1) a2 (fun f P2 m2 b1 b2 b3 b4 => ?_)
    have := h (true || f) P2 m2 (fun k hk => (b1 k hk).trans (a1 k hk)) b2 (Fl.tr (f := true) ⟨fun y => absurd y (by decide), fun _ => a3⟩ b3) (fun y => absurd y (by simp))
    rw [← Bool.or_assoc] at this; exact this
theorem t_st2A {P : MF} {m : Nat → Nat} (hT : T ≤ 9) (hl : l < T + 2) (hc : c < 24) (hD : DM dw P) (hL : ML (Ed T dw) (48 * (T + 2)) P m) {post : Int32 → MI → MF → MG → Prop} (h : ∀ f P' m', (∀ k, k ≠ 9 → P' k = P k) → ML (Ed T dw) (48 * (T + 2)) P' m' → Fl (48 * (T + 2)) f P m P' m' → (f = false → pe1 T dw l c m ∧ pe2 dw l c m) → post (bI f) J P' N) : Mt2A post (nI (24 * l + c)) (nI (24 * (T + 2))) J P N := by
  have := t_st2B (g := false) (J := J) (N := N) (post := post) hT hl hc hD hL (fun f P' m' a1 a2 a3 a4 => by rw [Bool.false_or]; exact h f P' m' a1 a2 a3 a4)
  have k : Mt3B post (nI (24 * l + c)) (bI false) J P N → Mt3A post (nI (24 * l + c)) J P N := fun this => ⟨this.1, fun z => (this.2.1 z).2, this.2.2⟩
  exact ⟨this.1, fun z => k (this.2.1 z), fun z => ⟨fun y => k ((this.2.2 z).1 y), (this.2.2 z).2⟩⟩
theorem t_joinAt {P : MF} {m : Nat → Nat} (hT : T ≤ 9) (hl : l < T + 2) (hc : c < 24) (hD : DM dw P) (hL : ML (Ed T dw) (48 * (T + 2)) P m) {post : Int32 → MI → MF → MG → Prop} (h : ∀ f P' m', (∀ k, k ≠ 9 → P' k = P k) → ML (Ed T dw) (48 * (T + 2)) P' m' → Fl (48 * (T + 2)) f P m P' m' → (f = false → Eq3 T dw l c m) → post (bI f) J P' N) : wp_M_joinAt (nI (24 * l + c)) (nI (24 * (T + 2))) J P N post := by
  obtain ⟨e, hw⟩ := hD l (by omega) c hc
  have b2 : ∀ z : (tb (dw l c) 0 = true → ¬ c + 1 < 24), Mt2A post (nI (24 * l + c)) (nI (24 * (T + 2))) J P N := fun z => t_st2A hT hl hc hD hL (fun f P' m' a1 a2 a3 a4 => h f P' m' a1 a2 a3 (fun y => ⟨fun u v => absurd v (z u), a4 y⟩))
  have h23 : (23 : Int32) ≤ nI (24 * l + c) - nI (24 * l + c) / 24 * 24 ↔ 23 ≤ c := by rw [mod24 _ (by omega), i_23, nI_le_iff (by omega) (by omega)]; omega
  have hm : (P 8 (nI (24 * l + c)).toNatClampNeg &&& 1 = 0) ↔ tb (dw l c) 0 = false := by rw [nI_clamp (by omega), e, tb_0 _ hw]
  have e2 : 2 * nI (24 * l + c) = nI (2 * (24 * l + c)) := by rw [i_2, nI_mul]
  have e22 : 2 * nI (24 * l + c) + 2 = nI (2 * (24 * l + c) + 2) := by rw [e2, i_2, nI_ad]
  refine ⟨(nI_vp (by omega)).mpr (by omega), fun z => b2 (fun y => absurd ((hm.mp z).symm.trans y) (by decide)), fun z => ⟨fun y => b2 (fun _ => by have := h23.mp y; omega), fun y => ?_⟩⟩
  have z : tb (dw l c) 0 = true := by
    have := fun w => z (hm.mpr w)
    simpa using this
  have y : ¬ 23 ≤ c := fun w => y (h23.mpr w)
  have key : wp_M_join (nI (2 * (24 * l + c))) (nI (2 * (24 * l + c) + 2)) J P N (fun r I F G => Mt2B post (nI (24 * l + c)) (nI (24 * (T + 2))) r I F G) := by
    refine t_join (by omega) (by omega) (by omega) ⟨l, c, hl, hc, Or.inl ⟨z, by omega, rfl, rfl⟩⟩ hL (fun e => ?_) (fun P' m' a1 a2 a3 => ?_)
    · exact t_st2B hT hl hc hD hL (fun f P' m' a1 a2 a3 a4 => by rw [Bool.false_or]; exact h f P' m' a1 a2 a3 (fun y => ⟨fun _ _ => e, a4 y⟩))
    · refine t_st2B hT hl hc (hD.ofP a1) a2 (fun f P2 m2 b1 b2 b3 b4 => ?_)
      exact h (true || f) P2 m2 (fun k hk => (b1 k hk).trans (a1 k hk)) b2 (Fl.tr (f := true) ⟨fun y => absurd y (by decide), fun _ => a3⟩ b3) (fun y => absurd y (by simp))
  rw [← e2] at key
  rw [show nI (2 * (24 * l + c) + 2) = 2 * nI (24 * l + c) + 2 from e22.symm] at key
  exact key
theorem tl_fwd (hT : T ≤ 9) {post : MI → MF → MG → Prop} {K : Int32 → Int32 → MI → MF → MG → Prop} : ∀ (d i : Nat) (f : Bool) (P : MF) (m : Nat → Nat), i + d = 24 * (T + 2) → DM dw P → ML (Ed T dw) (48 * (T + 2)) P m → (∀ f' P' m', (∀ k, k ≠ 9 → P' k = P k) → ML (Ed T dw) (48 * (T + 2)) P' m' → Fl (48 * (T + 2)) f' P m P' m' → (f' = false → ∀ l c, i ≤ 24 * l + c → l < T + 2 → c < 24 → Eq3 T dw l c m) → K (bI (f || f')) (nI (24 * (T + 2))) J P' N) → wl_M_find_42 post K (nI (24 * (T + 2))) (d + 1) (bI f) (nI i) J P N := by
  intro d
  induction d with
  | zero =>
    intro i f P m hi hD hL h
    have e : i = 24 * (T + 2) := by omega
    subst e
    refine ⟨fun _ => ?_, fun c => absurd (nI_le (Nat.le_refl _) (by omega)) c⟩
    have := h false P m (fun _ _ => rfl) hL Fl.r (fun _ l c a b d => by omega)
    rw [Bool.or_false] at this; exact this
  | succ d ih =>
    intro i f P m hi hD hL h
    have hil : i = 24 * (i / 24) + i % 24 := by omega
    have hl : i / 24 < T + 2 := by omega
    have hc : i % 24 < 24 := by omega
    generalize i / 24 = l at hil hl
    generalize i % 24 = c at hil hc
    subst hil
    refine ⟨fun c => absurd c (nI_ge (by omega) (by omega)), fun _ => t_joinAt hT hl hc hD hL (fun f1 P1 m1 a1 a2 a3 a4 x hx y hy => ?_)⟩
    rw [hx, bI_or, hy, ← nI_succ]
    refine ih (24 * l + c + 1) (f || f1) P1 m1 (by omega) (hD.ofP a1) a2 (fun f2 P2 m2 b1 b2 b3 b4 => ?_)
    rw [Bool.or_assoc]
    refine h (f1 || f2) P2 m2 (fun k hk => (b1 k hk).trans (a1 k hk)) b2 (a3.tr b3) (fun z l' c' x1 x2 x3 => ?_)
    rw [Bool.or_eq_false_iff] at z
    obtain ⟨e1, e2⟩ := a3.1 z.1
    by_cases w : 24 * l' + c' = 24 * l + c
    · have q1 : l' = l := by omega
      have q2 : c' = c := by omega
      subst q1 q2
      exact a4 z.1
    · have := b4 z.2 l' c' (by omega) x2 x3
      rw [e2] at this; exact this
def ix (d : Nat) : Int32 := if d = 0 then nM else nI (d - 1)
theorem ix_s (d : Nat) : nI d + (-1) = ix d := by
  cases d with
  | zero => rfl
  | succ e =>
    show nI (e + 1) + (-1) = nI e
    rw [nI_succ, Int32.add_assoc, show (1 : Int32) + -1 = 0 from rfl, Int32.add_zero]
theorem tl_bwd (hT : T ≤ 9) {post : MI → MF → MG → Prop} {K : Int32 → Int32 → MI → MF → MG → Prop} : ∀ (d : Nat) (f : Bool) (P : MF) (m : Nat → Nat), d ≤ 24 * (T + 2) → DM dw P → ML (Ed T dw) (48 * (T + 2)) P m → (∀ f' P' m', (∀ k, k ≠ 9 → P' k = P k) → ML (Ed T dw) (48 * (T + 2)) P' m' → Fl (48 * (T + 2)) f' P m P' m' → K (bI (f || f')) nM J P' N) → wl_M_find_66 post K (nI (24 * (T + 2))) (d + 1) (bI f) (ix d) J P N := by
  intro d
  induction d with
  | zero =>
    intro f P m hi hD hL h
    refine ⟨fun _ => ?_, fun c => absurd (by decide) c⟩
    have := h false P m (fun _ _ => rfl) hL Fl.r
    rw [Bool.or_false] at this; exact this
  | succ d ih =>
    intro f P m hi hD hL h
    have hil : d = 24 * (d / 24) + d % 24 := by omega
    have hl : d / 24 < T + 2 := by omega
    have hc : d % 24 < 24 := by omega
    show wl_M_find_66 post K (nI (24 * (T + 2))) (d + 1 + 1) (bI f) (nI d) J P N
    refine ⟨fun c => absurd c (nI_pos (by omega)), fun _ => ?_⟩
    have key := t_joinAt (J := J) (N := N) (post := fun r_19 I_20 F_20 G_20 => ∀ x_21 : Int32, x_21 = bI f ||| r_19 → ∀ x_22 : Int32, x_22 = nI d + (-1) → wl_M_find_66 post K (nI (24 * (T + 2))) (d + 1) x_21 x_22 I_20 F_20 G_20) hT hl hc hD hL (fun f1 P1 m1 a1 a2 a3 a4 x hx y hy => ?_)
    · rw [← hil] at key; exact key
    · rw [hx, bI_or, hy, ix_s]
      refine ih (f || f1) P1 m1 (by omega) (hD.ofP a1) a2 (fun f2 P2 m2 b1 b2 b3 => ?_)
      rw [Bool.or_assoc]
      exact h (f1 || f2) P2 m2 (fun k hk => (b1 k hk).trans (a1 k hk)) b2 (a3.tr b3)
theorem tl_pass (hT : T ≤ 9) {post : MI → MF → MG → Prop} {K : Int32 → Int32 → MI → MF → MG → Prop} : ∀ (d : Nat) (f : Bool) (x : Int32) (P : MF) (m : Nat → Nat), DM dw P → ML (Ed T dw) (48 * (T + 2)) P m → (f = true → sm m (48 * (T + 2)) < d) → (f = false → ∀ l, l < T + 2 → ∀ c, c < 24 → Eq3 T dw l c m) → (∀ x P' m', (∀ k, k ≠ 9 → P' k = P k) → ML (Ed T dw) (48 * (T + 2)) P' m' → (∀ l, l < T + 2 → ∀ c, c < 24 → Eq3 T dw l c m') → K (bI false) x J P' N) → wl_M_find_34 post K (nI (24 * (T + 2))) (d + 1) (bI f) x J P N := by
  intro d
  induction d with
  | zero =>
    intro f x P m hD hL h1 h2 h
    cases f with
    | true => exact absurd (h1 rfl) (by omega)
    | false => exact br (b := false) (fun _ => h x P m (fun _ _ => rfl) hL (h2 rfl)) (fun z => absurd z (by decide))
  | succ d ih =>
    intro f x P m hD hL h1 h2 h
    cases f with
    | false => exact br (b := false) (fun _ => h x P m (fun _ _ => rfl) hL (h2 rfl)) (fun z => absurd z (by decide))
    | true =>
      have h1 := h1 rfl
      refine br (b := true) (fun z => absurd z (by decide)) (fun _ => ⟨24 * (T + 2) + 1, tl_fwd (f := false) hT (24 * (T + 2)) 0 P m (by omega) hD hL (fun f1 P1 m1 a1 a2 a3 a4 y hy => ⟨24 * (T + 2) + 1, ?_⟩)⟩)
      have ey : y = ix (24 * (T + 2)) := by
        rw [hy]
        show _ = nI (24 * (T + 2) - 1)
        rw [i_1, nI_sub (by omega)]
      rw [ey]
      refine tl_bwd hT (24 * (T + 2)) (false || f1) P1 m1 (Nat.le_refl _) (hD.ofP a1) a2 (fun f2 P2 m2 b1 b2 b3 => ?_)
      have hF := a3.tr b3
      rw [Bool.false_or]
      refine ih (f1 || f2) nM P2 m2 ((hD.ofP a1).ofP b1) b2 (fun z => ?_) (fun z l hl c hc => ?_) (fun x P' m' c1 c2 c3 => h x P' m' (fun k hk => (c1 k hk).trans ((b1 k hk).trans (a1 k hk))) c2 c3)
      · have := hF.2 z
        omega
      · rw [(hF.1 z).2]
        rw [Bool.or_eq_false_iff] at z
        exact a4 z.1 l c (by omega) hl hc
theorem tl_fi1 {a : Nat} (ha : 2 * a ≤ 528) {b : Int32} {post : MI → MF → MG → Prop} {K : Int32 → MI → MF → MG → Prop} : ∀ (d i : Nat) (P : MF), i + d = 2 * a → (∀ m, m < i → P 9 m = nI m) → (∀ P', (∀ k, k ≠ 9 → P' k = P k) → (∀ m, m < 2 * a → P' 9 m = nI m) → K (nI (2 * a)) J P' N) → wl_M_find_14 post K (nI a) b (d + 1) (nI i) J P N := by
  have e2 : 2 * nI a = nI (2 * a) := by rw [i_2, nI_mul]
  intro d
  induction d with
  | zero =>
    intro i P hi hS h
    have e : i = 2 * a := by omega
    subst e
    unfold wl_M_find_14
    rw [e2]
    exact ⟨fun _ => h P (fun _ _ => rfl) hS, fun c => absurd (nI_le (Nat.le_refl _) (by omega)) c⟩
  | succ d ih =>
    intro i P hi hS h
    unfold wl_M_find_14
    rw [nI_clamp (by omega), e2]
    refine ⟨fun c => absurd c (nI_ge (by omega) (by omega)), fun _ => ⟨(nI_vp (by omega)).mpr (by omega), fun P3 g3 x hx => ?_⟩⟩
    rw [hx, ← nI_succ]
    refine ih (i + 1) P3 (by omega) (fun m hm => ?_) (fun P' h1 h2 => h P' (fun k hk => by rw [h1 k hk, g3]; simp only [setF_c]; rw [if_neg hk]) h2)
    rw [g3]
    simp only [setF_c, if_true, upd_c]
    by_cases z : m = i
    · rw [if_pos z, z]
    · rw [if_neg z]; exact hS m (by omega)
theorem t_find {P : MF} (hT : T ≤ 9) (h2 : J 2 = nI T) (hD : DM dw P) {post : MI → MF → MG → Prop} (h : ∀ P' m, (∀ k, k ≠ 9 → P' k = P k) → ML (Ed T dw) (48 * (T + 2)) P' m → Gd (Ed T dw) m (48 * (T + 2)) → post J P' N) : wp_M_find J P N post := by
  unfold wp_M_find
  intro x hx
  have ex : x = nI (24 * (T + 2)) := by rw [hx, h2, i_2, nI_ad, i_24, nI_mul]
  subst ex
  refine ⟨2 * (24 * (T + 2)) + 1, tl_fi1 (by omega) _ 0 P (by omega) (fun m hm => by omega) (fun P1 a1 a2 => ⟨sm (fun i => i) (48 * (T + 2)) + 1 + 1, ?_⟩)⟩
  refine tl_pass (f := true) hT _ _ P1 (fun i => i) (hD.ofP a1) (fun i hi => ⟨a2 i (by omega), Nat.le_refl _, fun R _ => rfl⟩) (fun _ => by omega) (fun z => absurd z (by decide)) (fun y P2 m b1 b2 b3 => h P2 m (fun k hk => (b1 k hk).trans (a1 k hk)) b2 ⟨fun i hi => (b2 i hi).2.2, Eq3_Ed b3⟩)
end FND
