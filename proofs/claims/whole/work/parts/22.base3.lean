/-! throws: the words beside the lists, texts, statics -/
def xIOB : String := "java/lang/IndexOutOfBoundsException"
def xISE : String := "java/lang/IllegalStateException"
def xIAE : String := "java/lang/IllegalArgumentException"
def XD (U : State) : Prop := va_Nw (.declares (Bundle.initS "java/lang/RuntimeException")) U ∧ va_Nw (.declares (Bundle.initS "java/lang/Exception")) U ∧ va_Nw (.declares (Bundle.initS Bundle.tN)) U ∧ va_Nw (.castable xIOB xIOB) U ∧ va_Nw (.castable xISE xISE) U ∧ va_Nw (.castable xIAE xIAE) U ∧ va_Nc xISE xIOB U ∧ va_Nc xIAE xIOB U ∧ va_Nc xIAE xISE U
theorem XD.warm {s U : State} (h : XD s) (hW : s.WarmedH U.vm) : XD U := by
  obtain ⟨h1, h2, h3, h4, h5, h6, h7, h8, h9⟩ := h
  exact ⟨h1.warmD hW, h2.warmD hW, h3.warmD hW, h4.warmC hW, h5.warmC hW, h6.warmC hW, h7.moved hW.alike, h8.moved hW.alike, h9.moved hW.alike⟩
theorem XD.same {u U : State} (h : XD u) (e : u.vm = U.vm) : XD U := by
  obtain ⟨h1, h2, h3, h4, h5, h6, h7, h8, h9⟩ := h
  have hal : u.vm.Alike U.vm := by rw [e]; exact Vm.Alike.refl U.vm
  exact ⟨h1.same rfl e, h2.same rfl e, h3.same rfl e, h4.same rfl e, h5.same rfl e, h6.same rfl e, h7.moved hal, h8.moved hal, h9.moved hal⟩
theorem XD.use {U : State} (h : XD U) {A : Array Value} : ∀ w ∈ [Cond.declares (Bundle.initS "java/lang/RuntimeException"), Cond.declares (Bundle.initS "java/lang/Exception"), Cond.declares (Bundle.initS Bundle.tN), Cond.castable xIOB xIOB, Cond.castable xISE xISE, Cond.castable xIAE xIAE], w.before A U = true := by
  obtain ⟨h1, h2, h3, h4, h5, h6, -⟩ := h
  exact vx_c (h1.use rfl) (vx_c (h2.use rfl) (vx_c (h3.use rfl) (vx_c (h4.use rfl) (vx_c (h5.use rfl) (vx_c (h6.use rfl) vx_n)))))
def SRk (k : Nat) (tx : String) (U : State) : Prop := ∃ a, vk_R RX4 k tx a U
def SR (U : State) : Prop := SRk 52 "no room for an input" U ∧ SRk 73 "no such net" U ∧ SRk 76 "no room for a gate" U ∧ SRk 80 "no such kind" U ∧ SRk 94 "no room for an output" U ∧ SRk 136 "no such what" U ∧ SRk 141 "no such pin" U ∧ SRk 179 "no such test" U ∧ SRk 184 "below 0" U ∧ SRk 205 "no such class" U ∧ SRk 207 "neither 0 nor 1" U
theorem SRk.warm {k : Nat} {tx : String} {s U : State} (h : SRk k tx s) (hW : s.WarmedH U.vm) : SRk k tx U := by
  obtain ⟨a, h⟩ := h
  exact ⟨a, h.warm hW⟩
theorem SRk.same {k : Nat} {tx : String} {u U : State} (h : SRk k tx u) (e : U.vm = u.vm) : SRk k tx U := by
  obtain ⟨a, h⟩ := h
  exact ⟨a, h.same e⟩
theorem SR.warm {s U : State} (h : SR s) (hW : s.WarmedH U.vm) : SR U := by
  obtain ⟨h1, h2, h3, h4, h5, h6, h7, h8, h9, h10, h11⟩ := h
  exact ⟨h1.warm hW, h2.warm hW, h3.warm hW, h4.warm hW, h5.warm hW, h6.warm hW, h7.warm hW, h8.warm hW, h9.warm hW, h10.warm hW, h11.warm hW⟩
theorem SR.same {u U : State} (h : SR u) (e : U.vm = u.vm) : SR U := by
  obtain ⟨h1, h2, h3, h4, h5, h6, h7, h8, h9, h10, h11⟩ := h
  exact ⟨h1.same e, h2.same e, h3.same e, h4.same e, h5.same e, h6.same e, h7.same e, h8.same e, h9.same e, h10.same e, h11.same e⟩
def GX (A : Nat → Prop) (U : State) : Prop := XD U ∧ SR U ∧ vx_Zq Bundle.tN "UNASSIGNED_STACK" Bundle.steD A U U.heap ∧ vx_Zq Bundle.tN "SUPPRESSED_SENTINEL" Bundle.listD A U U.heap
theorem GX.to {A A' : Nat → Prop} {s U : State} {H : Heap} {locs : List Loc} (h : GX A s) (hS : va_S A s.heap H locs) (hA : ∀ q, A' q → A q) (hU : U.heap = H) (hW : s.WarmedH U.vm) : GX A' U := by
  obtain ⟨h1, h2, h3, h4⟩ := h
  refine ⟨h1.warm hW, h2.warm hW, ?_, ?_⟩
  · rw [hU]; exact ((h3.moved hW.alike).kept (fun a b c => hS.2.1 a b c)).narrow hA
  · rw [hU]; exact ((h4.moved hW.alike).kept (fun a b c => hS.2.1 a b c)).narrow hA
theorem GX.call {A : Nat → Prop} {U : State} {g : JFrame} {mk : MethodId} {a : Array Value} (h : GX A U) : GX A (U.calling g mk a) := by
  obtain ⟨h1, h2, h3, h4⟩ := h
  exact ⟨h1.same rfl, h2.same rfl, h3.moved (u := U) (U := U.calling g mk a) (Vm.Alike.refl U.vm), h4.moved (u := U) (U := U.calling g mk a) (Vm.Alike.refl U.vm)⟩
def PX (D : va_G) (cI cJ cZ : ClassId) (ws : va_W) (sz : Nat) (U : State) : Prop := PW D cI cJ cZ ws sz U ∧ GX (va_A ws sz) U
theorem PX.blind {D : va_G} {cI cJ cZ : ClassId} {ws : va_W} {sz : Nat} {av : List Value} : FrameBlind (va_Pc av (PX D cI cJ cZ ws sz)) := fun a U g mk q => ⟨q.1, (PW.blind (av := av) a U g mk ⟨q.1, q.2.1⟩).2, q.2.2.call⟩
theorem PX.to {D : va_G} {cI cJ cZ : ClassId} {ws : va_W} {s U : State} {H : Heap} {locs : List Loc} {A : Nat → Prop} (hP : va_P D vwCl ws H) (hK : va_K D vwCl (tyL cI cJ cZ) s) (hN : NB s) (hD : va_D A ws) (hG : GX A s) (hS : va_S A s.heap H locs) (hF : ∀ q, va_A ws H.size q → A q) (hU : U.heap = H) (hW : s.WarmedH U.vm) : PX D cI cJ cZ ws H.size U := ⟨PW.to hP hK hN hD hU hW, hG.to hS hF hU hW⟩
/-- the table of input words -/
def IW (A : Nat → Prop) (U : State) : Prop := ∃ t : Nat, va_Z RX4 "INPUT_WORDS" "[J" (.ref t) A U U.heap ∧ va_T .long t 6 (fun k => .long (iwT k)) A U U.heap
theorem IW.to {A A' : Nat → Prop} {s U : State} {H : Heap} {locs : List Loc} (h : IW A s) (hS : va_S A s.heap H locs) (hA : ∀ q, A' q → A q) (hU : U.heap = H) (hW : s.WarmedH U.vm) : IW A' U := by
  obtain ⟨t, h1, h2⟩ := h
  refine ⟨t, ?_, ?_⟩
  · rw [hU]; exact ((h1.moved hW.alike).kept (fun a b c => hS.2.1 a b c)).narrow hA
  · rw [hU]; exact ((h2.moved hW.alike).kept (fun a b c => hS.2.1 a b c)).narrow hA
theorem IW.call {A : Nat → Prop} {U : State} {g : JFrame} {mk : MethodId} {a : Array Value} (h : IW A U) : IW A (U.calling g mk a) := by
  obtain ⟨t, h1, h2⟩ := h
  exact ⟨t, h1.moved (u := U) (U := U.calling g mk a) (Vm.Alike.refl U.vm), h2.moved (u := U) (U := U.calling g mk a) (Vm.Alike.refl U.vm)⟩
def PJ (U : State) : Prop := NB U ∧ IW (fun _ => False) U
theorem PJ.blind {av : List Value} : FrameBlind (va_Pc av PJ) := fun _ _ _ _ q => ⟨q.1, q.2.1.same rfl, q.2.2.call⟩
def PI (D : va_G) (cI cJ cZ : ClassId) (ws : va_W) (sz : Nat) (U : State) : Prop := PW D cI cJ cZ ws sz U ∧ IW (va_A ws sz) U
theorem PI.blind {D : va_G} {cI cJ cZ : ClassId} {ws : va_W} {sz : Nat} {av : List Value} : FrameBlind (va_Pc av (PI D cI cJ cZ ws sz)) := fun a U g mk q => ⟨q.1, (PW.blind (av := av) a U g mk ⟨q.1, q.2.1⟩).2, q.2.2.call⟩
theorem PI.to {D : va_G} {cI cJ cZ : ClassId} {ws : va_W} {s U : State} {H : Heap} {locs : List Loc} {A : Nat → Prop} (hP : va_P D vwCl ws H) (hK : va_K D vwCl (tyL cI cJ cZ) s) (hN : NB s) (hD : va_D A ws) (hG : IW A s) (hS : va_S A s.heap H locs) (hF : ∀ q, va_A ws H.size q → A q) (hU : U.heap = H) (hW : s.WarmedH U.vm) : PI D cI cJ cZ ws H.size U := ⟨PW.to hP hK hN hD hU hW, hG.to hS hF hU hW⟩
theorem zx_P {D : va_G} {ws : va_W} {H : Heap} {t : State} (hP : va_P D vwCl ws H) (hk : ∀ q : Nat, q < H.size → t.heap[q]? = H[q]?) : va_P D vwCl ws t.heap := hP.kept (fun k q h => hk q.1 (hP k q h).lt)
theorem zx_F {A : Nat → Prop} {s t : State} {H : Heap} {locs : List Loc} (hS : va_S A s.heap H locs) (hz : H.size ≤ t.heap.size) (hk : ∀ q : Nat, q < H.size → t.heap[q]? = H[q]?) : va_F A s t := ⟨Nat.le_trans hS.1 hz, fun q h1 h2 => by rw [hk q (Nat.lt_of_lt_of_le h1 hS.1)]; exact hS.2.1 q h1 h2⟩
theorem zc_fit {P : Prop} [Decidable P] : fits .boolean (.int (if P then (1 : Int32) else 0)) = true := by
  by_cases h : P
  · rw [if_pos h]; rfl
  · rw [if_neg h]; rfl
theorem zk_one {D : va_G} {cI cJ cZ cA : ClassId} {s : State} {ty : FieldType} (h : va_K D vwCl (tyL cI cJ cZ ++ [(cA, ty)]) s) : (ty = .int → cA = cI) ∧ (ty = .long → cA = cJ) ∧ (ty = .boolean → cA = cZ) := by
  have h3 := (h.2 3 (cA, ty) rfl).2
  refine ⟨fun e => ?_, fun e => ?_, fun e => ?_⟩
  · subst e
    have h0 := (h.2 0 (cI, .int) rfl).2
    exact Option.some.inj (Eq.trans (Eq.symm h3) h0)
  · subst e
    have h0 := (h.2 1 (cJ, .long) rfl).2
    exact Option.some.inj (Eq.trans (Eq.symm h3) h0)
  · subst e
    have h0 := (h.2 2 (cZ, .boolean) rfl).2
    exact Option.some.inj (Eq.trans (Eq.symm h3) h0)
