theorem g_objInit {G : Gl} {mi : MI} {h0 h : Hp} {P : Option Value → Hp → Prop} {pc : Nat} {L : List (Nat × Value)} {st : List Value} {idx a : Nat} (hlk : Cond.methodLink mi.1.cls idx objectInit ∈ lw_tb) (hi : Cond.instanceMethod objectInit ∈ lw_tb) (hcode : Cond.code objectInit ⟨#[0xb1]⟩ 1 none ∈ lw_tb) (hf : 1 ≤ mi.2.2.2.2.1) (hlo : (st.map fun v => v.category).sum + 12 ≤ mi.2.2.2.2.2) (hd : decode mi.2.1 pc = .ok (.invokespecial idx, 3))
    (k : Go G mi h0 P h (pc + 3) L st) : Go G mi h0 P h pc L (.ref a :: st) := by
  refine Go.step (Nat.le_refl _) (Nat.le_refl _) (fun p e R s m args below meth c Q H locs ls hC f1 f2 _ _ _ _ hR hL hl kk => ?_) k
  obtain ⟨hx, hb, hml, hown, hts, -, -, -, hKd⟩ := id hC
  exact W.objInit hx hb hown (hts _ hlk) (hts _ hi) (hts _ hcode) rfl (hl.1.trans hml.symm) rfl hd (by omega) (by show 2 * 0 + _ + 12 ≤ _; omega) (kk H locs ls hR hL hl)
theorem g_mmax {G : Gl} {mi : MI} {h0 h : Hp} {P : Option Value → Hp → Prop} {pc : Nat} {L : List (Nat × Value)} {st : List Value} {idx : Nat} {x y : Int32} (hlk : Cond.methodLink mi.1.cls idx Lib.Math.max.name ∈ lw_tb) (hs : Cond.static Lib.Math.max.name ∈ lw_tb) (hi : Cond.initialized "java/lang/Math" ∈ lw_tb) (hcode : Cond.code Lib.Math.max.name Lib.Math.max.code 2 (some .int) ∈ lw_tb) (hf : 1 ≤ mi.2.2.2.2.1) (hlo : (st.map fun v => v.category).sum + 13 ≤ mi.2.2.2.2.2) (hd : decode mi.2.1 pc = .ok (.invokestatic idx, 3))
    (k : Go G mi h0 P h (pc + 3) L (.int (if x < y then y else x) :: st)) : Go G mi h0 P h pc L (.int y :: .int x :: st) := by
  refine Go.step (Nat.le_refl _) (Nat.le_refl _) (fun p e R s m args below meth c Q H locs ls hC f1 f2 b1 b2 b3 b4 hR hL hl kk => ?_) k
  obtain ⟨hx, hb, hml, hown, hts, -, -, -, hKd⟩ := id hC
  exact va_mmax hx hb (hml.trans hl.1.symm) hown (hts _ hlk) (hts _ hs) (hts _ hi) (hts _ hcode) (by omega) (by omega) (by omega) (by omega) hd (kk H locs ls hR hL hl)
theorem g_mmin {G : Gl} {mi : MI} {h0 h : Hp} {P : Option Value → Hp → Prop} {pc : Nat} {L : List (Nat × Value)} {st : List Value} {idx : Nat} {x y : Int32} (hlk : Cond.methodLink mi.1.cls idx Lib.Math.min.name ∈ lw_tb) (hs : Cond.static Lib.Math.min.name ∈ lw_tb) (hi : Cond.initialized "java/lang/Math" ∈ lw_tb) (hcode : Cond.code Lib.Math.min.name Lib.Math.min.code 2 (some .int) ∈ lw_tb) (hf : 1 ≤ mi.2.2.2.2.1) (hlo : (st.map fun v => v.category).sum + 13 ≤ mi.2.2.2.2.2) (hd : decode mi.2.1 pc = .ok (.invokestatic idx, 3))
    (k : Go G mi h0 P h (pc + 3) L (.int (if y < x then y else x) :: st)) : Go G mi h0 P h pc L (.int y :: .int x :: st) := by
  refine Go.step (Nat.le_refl _) (Nat.le_refl _) (fun p e R s m args below meth c Q H locs ls hC f1 f2 b1 b2 b3 b4 hR hL hl kk => ?_) k
  obtain ⟨hx, hb, hml, hown, hts, -, -, -, hKd⟩ := id hC
  exact va_mmin hx hb (hml.trans hl.1.symm) hown (hts _ hlk) (hts _ hs) (hts _ hi) (hts _ hcode) (by omega) (by omega) (by omega) (by omega) hd (kk H locs ls hR hL hl)
/-- two pure heaps are the same -/
theorem Hp.ext {h g : Hp} (e1 : hT h = hT g) (e2 : hU h = hU g) (e3 : ∀ a, hK h a = hK g a) (e4 : ∀ a, hN h a = hN g a) (e5 : ∀ f a, hI h f a = hI g f a) (e6 : ∀ f a, hR h f a = hR g f a) (e7 : ∀ a i, hA h a i = hA g a i) (e8 : ∀ a i, hQ h a i = hQ g a i) (e9 : ∀ a i, hL h a i = hL g a i) : h = g := by
  obtain ⟨a1, a2, a3, a4, a5, a6, a7, a8, a9⟩ := h
  obtain ⟨b1, b2, b3, b4, b5, b6, b7, b8, b9⟩ := g
  have x3 : a3 = b3 := funext e3
  have x4 : a4 = b4 := funext e4
  have x5 : a5 = b5 := funext fun f => funext (e5 f)
  have x6 : a6 = b6 := funext fun f => funext (e6 f)
  have x7 : a7 = b7 := funext fun f => funext (e7 f)
  have x8 : a8 = b8 := funext fun f => funext (e8 f)
  have x9 : a9 = b9 := funext fun f => funext (e9 f)
  have x1 : a1 = b1 := e1
  have x2 : a2 = b2 := e2
  subst x1 x2 x3 x4 x5 x6 x7 x8 x9
  rfl
