set_option maxHeartbeats 4000000 in
set_option maxRecDepth 100000 in
theorem c_X4_untestable (l : Launch) (D : va_G) (cI cJ cZ : ClassId) (qx : Nat) (qc : Nat) (qk : Nat) (q0 : Nat) (q1 : Nat) (qo : Nat) (qv : Nat) (kd : Nat → Int32) (s0 : Nat → Int32) (s1 : Nat → Int32) (on : Nat → Int32) (vl : Nat → Int64) (n : Nat) (ni : Nat) (no : Nat) (qC : Nat) (qpa : Nat) (qnu : Nat) (qfi : Nat) (qme : Nat) (qus : Nat) (pa : Nat → Int32) (nu : Nat → Int32) (fi : Nat → Int32) (me : Nat → Int32) (us : Nat → Int32) (cs : Nat) (qS : Nat) (qse : Nat) (qre : Nat) (qcg : Nat) (se : Nat → Int64) (re : Nat → Int32) (cg : Nat → Int64) (qP : Nat) (st : Nat) (sz : Nat) (A : Nat → Prop) (hAe : A = va_A [(qx, .inr (4, [.ref qc, .ref qC, .ref qS, .ref qP, .int (nI st)])), (qc, .inr (0, [.ref qk, .ref q0, .ref q1, .ref qo, .ref qv, .int (nI n), .int (nI ni), .int (nI no)])), (qk, .inl (cI, 100, .inl kd)), (q0, .inl (cI, 100, .inl s0)), (q1, .inl (cI, 100, .inl s1)), (qo, .inl (cI, 12, .inl on)), (qv, .inl (cJ, 1600, .inr (.inl vl))), (qC, .inr (1, [.ref qpa, .ref qnu, .ref qfi, .ref qme, .ref qus, .int (nI cs)])), (qpa, .inl (cI, 600, .inl pa)), (qnu, .inl (cI, 600, .inl nu)), (qfi, .inl (cI, 600, .inl fi)), (qme, .inl (cI, 600, .inl me)), (qus, .inl (cI, 100, .inl us)), (qS, .inr (3, [.ref qc, .ref qse, .ref qre, .ref qcg])), (qse, .inl (cJ, 1600, .inr (.inl se))), (qre, .inl (cZ, 100, .inl re)), (qcg, .inl (cJ, 100, .inr (.inl cg)))] sz) (hn : n ≤ 100) (hno : no ≤ 12) (hwf : WF n kd s0 s1) (hwo : WO n no on) (hst : st < 2) (hcs : CST kd s0 s1 on n no st nu fi me cs) (hni : ni ≤ 10) (hs : SOK kd s0 s1 on vl n ni no se re) : Met l yX4_untestable wsX4_untestable ({ frames := 5, cells := 0, slots := 0, locals := 159 } : Room) (va_Pc [.ref qx] (PW D cI cJ cZ [(qx, .inr (4, [.ref qc, .ref qC, .ref qS, .ref qP, .int (nI st)])), (qc, .inr (0, [.ref qk, .ref q0, .ref q1, .ref qo, .ref qv, .int (nI n), .int (nI ni), .int (nI no)])), (qk, .inl (cI, 100, .inl kd)), (q0, .inl (cI, 100, .inl s0)), (q1, .inl (cI, 100, .inl s1)), (qo, .inl (cI, 12, .inl on)), (qv, .inl (cJ, 1600, .inr (.inl vl))), (qC, .inr (1, [.ref qpa, .ref qnu, .ref qfi, .ref qme, .ref qus, .int (nI cs)])), (qpa, .inl (cI, 600, .inl pa)), (qnu, .inl (cI, 600, .inl nu)), (qfi, .inl (cI, 600, .inl fi)), (qme, .inl (cI, 600, .inl me)), (qus, .inl (cI, 100, .inl us)), (qS, .inr (3, [.ref qc, .ref qse, .ref qre, .ref qcg])), (qse, .inl (cJ, 1600, .inr (.inl se))), (qre, .inl (cZ, 100, .inl re)), (qcg, .inl (cJ, 100, .inr (.inl cg)))] sz)) (va_Qi (fun (r_9 : Int32) (u9 : (Nat → Int32) × (Nat → Int32) × (Nat → Int32) × (Nat → Int32) × (Nat → Int32) × Nat × (Nat → Int64) × (Nat → Int32) × (Nat → Int64)) => match u9 with | (pa2, nu2, fi2, me2, us2, cs2, se2, re2, cg2) => r_9 = (nI (cntF (fun k => decide ((fun k => leastF (fun w => shw kd s0 s1 on vl n ni no (cn (fi2 k)) w) (wordsN ni) 0) k = (-1))) cs2)) ∧ CGood kd s0 s1 on n no nu2 fi2 me2 cs2 ∧ SOK kd s0 s1 on vl n ni no se2 re2) (fun (u9 : (Nat → Int32) × (Nat → Int32) × (Nat → Int32) × (Nat → Int32) × (Nat → Int32) × Nat × (Nat → Int64) × (Nat → Int32) × (Nat → Int64)) t => match u9 with | (pa2, nu2, fi2, me2, us2, cs2, se2, re2, cg2) => PQ D A [(qx, .inr (4, [.ref qc, .ref qC, .ref qS, .ref qP, .int (nI 0)])), (qc, .inr (0, [.ref qk, .ref q0, .ref q1, .ref qo, .ref qv, .int (nI n), .int (nI ni), .int (nI no)])), (qk, .inl (cI, 100, .inl kd)), (q0, .inl (cI, 100, .inl s0)), (q1, .inl (cI, 100, .inl s1)), (qo, .inl (cI, 12, .inl on)), (qv, .inl (cJ, 1600, .inr (.inl vl))), (qC, .inr (1, [.ref qpa, .ref qnu, .ref qfi, .ref qme, .ref qus, .int (nI cs2)])), (qpa, .inl (cI, 600, .inl pa2)), (qnu, .inl (cI, 600, .inl nu2)), (qfi, .inl (cI, 600, .inl fi2)), (qme, .inl (cI, 600, .inl me2)), (qus, .inl (cI, 100, .inl us2)), (qS, .inr (3, [.ref qc, .ref qse, .ref qre, .ref qcg])), (qse, .inl (cJ, 1600, .inr (.inl se2))), (qre, .inl (cZ, 100, .inl re2)), (qcg, .inl (cJ, 100, .inr (.inl cg2)))] t) A) 0 0 A := by
  refine Met.ofW (cc := cX4_untestable) (maxL := 3) (ret := (some .int)) (by decide) rfl ?_
  intro p e s m args below meth c s₁ B hml hv
  obtain ⟨rfl, hsz, ⟨hP, hK, hNB⟩, hD0⟩ := hv
  have hx := B.exec
  have hb := B.bytes
  have hr := B.returns
  have hts := atoms_spec (ws := wsX4_untestable) B.pre
  have hown : s.vm.findClass RX4 = some m.cls := findClass_of_methodNamed B.named
  have hlocks := B.notSynchronized
  have hiX1 : ∀ w ∈ u_ws RX1 TX1 6, w ∈ wsX4_untestable := by decide +kernel
  have hiX4 : ∀ w ∈ u_ws RX4 TX4 5, w ∈ wsX4_untestable := by decide +kernel
  subst hsz
  have hD : va_D A [(qx, .inr (4, [.ref qc, .ref qC, .ref qS, .ref qP, .int (nI st)])), (qc, .inr (0, [.ref qk, .ref q0, .ref q1, .ref qo, .ref qv, .int (nI n), .int (nI ni), .int (nI no)])), (qk, .inl (cI, 100, .inl kd)), (q0, .inl (cI, 100, .inl s0)), (q1, .inl (cI, 100, .inl s1)), (qo, .inl (cI, 12, .inl on)), (qv, .inl (cJ, 1600, .inr (.inl vl))), (qC, .inr (1, [.ref qpa, .ref qnu, .ref qfi, .ref qme, .ref qus, .int (nI cs)])), (qpa, .inl (cI, 600, .inl pa)), (qnu, .inl (cI, 600, .inl nu)), (qfi, .inl (cI, 600, .inl fi)), (qme, .inl (cI, 600, .inl me)), (qus, .inl (cI, 100, .inl us)), (qS, .inr (3, [.ref qc, .ref qse, .ref qre, .ref qcg])), (qse, .inl (cJ, 1600, .inr (.inl se))), (qre, .inl (cZ, 100, .inl re)), (qcg, .inl (cJ, 100, .inr (.inl cg)))] := by rw [hAe]; exact hD0.self
  have hA : ∀ q : Nat, s.heap.size ≤ q → A q := fun q h => by rw [hAe]; exact Or.inr h
  have hS : va_S A s.heap s.heap [] := va_S.rf
  have hl := lv_entry ([.ref qx]) (n := 3) (Nat.le_of_ble_eq_true rfl)
  rw [lg_entry_eq]
  generalize (lg_sl ([.ref qx]) ++ List.replicate (3 - (lg_sl ([.ref qx])).length) Slot.unset).toArray = ls at hl ⊢
  have hl : lv_has ls 3 [(0, .ref qx)] := hl
  refine lv_aload_n hx hb dX4_untestable_0 rfl (lv_at hl 0 rfl) ?_
  have hPc := hP.sub (ws' := [(qx, .inr (4, [.ref qc, .ref qC, .ref qS, .ref qP, .int (nI st)])), (qc, .inr (0, [.ref qk, .ref q0, .ref q1, .ref qo, .ref qv, .int (nI n), .int (nI ni), .int (nI no)])), (qk, .inl (cI, 100, .inl kd)), (q0, .inl (cI, 100, .inl s0)), (q1, .inl (cI, 100, .inl s1)), (qo, .inl (cI, 12, .inl on)), (qv, .inl (cJ, 1600, .inr (.inl vl))), (qC, .inr (1, [.ref qpa, .ref qnu, .ref qfi, .ref qme, .ref qus, .int (nI cs)])), (qpa, .inl (cI, 600, .inl pa)), (qnu, .inl (cI, 600, .inl nu)), (qfi, .inl (cI, 600, .inl fi)), (qme, .inl (cI, 600, .inl me)), (qus, .inl (cI, 100, .inl us))]) [0, 1, 2, 3, 4, 5, 6, 7, 8, 9, 10, 11, 12] rfl
  have hDc := hD.sub (ws' := [(qx, .inr (4, [.ref qc, .ref qC, .ref qS, .ref qP, .int (nI st)])), (qc, .inr (0, [.ref qk, .ref q0, .ref q1, .ref qo, .ref qv, .int (nI n), .int (nI ni), .int (nI no)])), (qk, .inl (cI, 100, .inl kd)), (q0, .inl (cI, 100, .inl s0)), (q1, .inl (cI, 100, .inl s1)), (qo, .inl (cI, 12, .inl on)), (qv, .inl (cJ, 1600, .inr (.inl vl))), (qC, .inr (1, [.ref qpa, .ref qnu, .ref qfi, .ref qme, .ref qus, .int (nI cs)])), (qpa, .inl (cI, 600, .inl pa)), (qnu, .inl (cI, 600, .inl nu)), (qfi, .inl (cI, 600, .inl fi)), (qme, .inl (cI, 600, .inl me)), (qus, .inl (cI, 100, .inl us))]) [0, 1, 2, 3, 4, 5, 6, 7, 8, 9, 10, 11, 12] (by decide) rfl
  have hFc := va_free (wc := [(qx, .inr (4, [.ref qc, .ref qC, .ref qS, .ref qP, .int (nI st)])), (qc, .inr (0, [.ref qk, .ref q0, .ref q1, .ref qo, .ref qv, .int (nI n), .int (nI ni), .int (nI no)])), (qk, .inl (cI, 100, .inl kd)), (q0, .inl (cI, 100, .inl s0)), (q1, .inl (cI, 100, .inl s1)), (qo, .inl (cI, 12, .inl on)), (qv, .inl (cJ, 1600, .inr (.inl vl))), (qC, .inr (1, [.ref qpa, .ref qnu, .ref qfi, .ref qme, .ref qus, .int (nI cs)])), (qpa, .inl (cI, 600, .inl pa)), (qnu, .inl (cI, 600, .inl nu)), (qfi, .inl (cI, 600, .inl fi)), (qme, .inl (cI, 600, .inl me)), (qus, .inl (cI, 100, .inl us))]) hD hS hA [0, 1, 2, 3, 4, 5, 6, 7, 8, 9, 10, 11, 12] rfl
  refine va_callv (va_runV (As := []) (rest := []) ⟨hx, hb, hml, hown, hts⟩ (c_X4_refresh l D cI cJ cZ qx qc qk q0 q1 qo qv kd s0 s1 on vl n ni no qC qpa qnu qfi qme qus pa nu fi me us cs qS qP st s.heap.size _ rfl (by omega) (by omega) hwf hwo (by omega) hcs) (cwV 0 hts gX4_untestable_X4_refresh rfl rfl rfl (by decide +kernel) ⟨Nat.le_of_ble_eq_true rfl, Nat.le_of_ble_eq_true rfl⟩) ⟨PW.blind, va_recv hK hPc (ci := 4) (q0 := 0) rfl rfl, fun U hU hW => ⟨rfl, PW.to hPc hK hNB hDc hU hW⟩⟩ rfl rfl hl.1 rfl (lv_room (Nat.le_of_ble_eq_true rfl)) dX4_untestable_1 ⟨Nat.le_of_ble_eq_true rfl, Nat.le_of_ble_eq_true rfl⟩) hS (fun q _ h => hFc q h) hFc (fun u_9 t_9 H1_9 locs ht_9 hvm_9 hw_9 hB_9 hz1_9 hk1_9 hS => ?_)
  obtain ⟨pa2_2, nu2_3, fi2_4, me2_5, us2_6, cs2_7⟩ := u_9
  obtain ⟨hP1_9, hD1_9⟩ := hB_9
  rw [ht_9] at hP1_9
  have k_G := hw_9
  have k_G : CGood kd s0 s1 on n no nu2_3 fi2_4 me2_5 cs2_7 := k_G
  obtain ⟨hP, hD⟩ := va_join (wr := [(qS, .inr (3, [.ref qc, .ref qse, .ref qre, .ref qcg])), (qse, .inl (cJ, 1600, .inr (.inl se))), (qre, .inl (cZ, 100, .inl re)), (qcg, .inl (cJ, 100, .inr (.inl cg)))]) (w1 := [(qx, .inr (4, [.ref qc, .ref qC, .ref qS, .ref qP, .int (nI 0)])), (qc, .inr (0, [.ref qk, .ref q0, .ref q1, .ref qo, .ref qv, .int (nI n), .int (nI ni), .int (nI no)])), (qk, .inl (cI, 100, .inl kd)), (q0, .inl (cI, 100, .inl s0)), (q1, .inl (cI, 100, .inl s1)), (qo, .inl (cI, 12, .inl on)), (qv, .inl (cJ, 1600, .inr (.inl vl))), (qC, .inr (1, [.ref qpa, .ref qnu, .ref qfi, .ref qme, .ref qus, .int (nI cs2_7)])), (qpa, .inl (cI, 600, .inl pa2_2)), (qnu, .inl (cI, 600, .inl nu2_3)), (qfi, .inl (cI, 600, .inl fi2_4)), (qme, .inl (cI, 600, .inl me2_5)), (qus, .inl (cI, 100, .inl us2_6))]) hP hD [0, 1, 2, 3, 4, 5, 6, 7, 8, 9, 10, 11, 12] [13, 14, 15, 16] rfl rfl (by decide) (by decide) hk1_9 hFc hP1_9 hD1_9
  have hP := hP.sub (ws' := [(qx, .inr (4, [.ref qc, .ref qC, .ref qS, .ref qP, .int (nI 0)])), (qc, .inr (0, [.ref qk, .ref q0, .ref q1, .ref qo, .ref qv, .int (nI n), .int (nI ni), .int (nI no)])), (qk, .inl (cI, 100, .inl kd)), (q0, .inl (cI, 100, .inl s0)), (q1, .inl (cI, 100, .inl s1)), (qo, .inl (cI, 12, .inl on)), (qv, .inl (cJ, 1600, .inr (.inl vl))), (qC, .inr (1, [.ref qpa, .ref qnu, .ref qfi, .ref qme, .ref qus, .int (nI cs2_7)])), (qpa, .inl (cI, 600, .inl pa2_2)), (qnu, .inl (cI, 600, .inl nu2_3)), (qfi, .inl (cI, 600, .inl fi2_4)), (qme, .inl (cI, 600, .inl me2_5)), (qus, .inl (cI, 100, .inl us2_6)), (qS, .inr (3, [.ref qc, .ref qse, .ref qre, .ref qcg])), (qse, .inl (cJ, 1600, .inr (.inl se))), (qre, .inl (cZ, 100, .inl re)), (qcg, .inl (cJ, 100, .inr (.inl cg)))]) [4, 5, 6, 7, 8, 9, 10, 11, 12, 13, 14, 15, 16, 0, 1, 2, 3] rfl
  have hD := hD.sub (ws' := [(qx, .inr (4, [.ref qc, .ref qC, .ref qS, .ref qP, .int (nI 0)])), (qc, .inr (0, [.ref qk, .ref q0, .ref q1, .ref qo, .ref qv, .int (nI n), .int (nI ni), .int (nI no)])), (qk, .inl (cI, 100, .inl kd)), (q0, .inl (cI, 100, .inl s0)), (q1, .inl (cI, 100, .inl s1)), (qo, .inl (cI, 12, .inl on)), (qv, .inl (cJ, 1600, .inr (.inl vl))), (qC, .inr (1, [.ref qpa, .ref qnu, .ref qfi, .ref qme, .ref qus, .int (nI cs2_7)])), (qpa, .inl (cI, 600, .inl pa2_2)), (qnu, .inl (cI, 600, .inl nu2_3)), (qfi, .inl (cI, 600, .inl fi2_4)), (qme, .inl (cI, 600, .inl me2_5)), (qus, .inl (cI, 100, .inl us2_6)), (qS, .inr (3, [.ref qc, .ref qse, .ref qre, .ref qcg])), (qse, .inl (cJ, 1600, .inr (.inl se))), (qre, .inl (cZ, 100, .inl re)), (qcg, .inl (cJ, 100, .inr (.inl cg)))]) [4, 5, 6, 7, 8, 9, 10, 11, 12, 13, 14, 15, 16, 0, 1, 2, 3] (by decide) rfl
  generalize H1_9 = H at hP hS ⊢
  have hP : va_P D vwCl [(qx, .inr (4, [.ref qc, .ref qC, .ref qS, .ref qP, .int (nI 0)])), (qc, .inr (0, [.ref qk, .ref q0, .ref q1, .ref qo, .ref qv, .int (nI n), .int (nI ni), .int (nI no)])), (qk, .inl (cI, 100, .inl kd)), (q0, .inl (cI, 100, .inl s0)), (q1, .inl (cI, 100, .inl s1)), (qo, .inl (cI, 12, .inl on)), (qv, .inl (cJ, 1600, .inr (.inl vl))), (qC, .inr (1, [.ref qpa, .ref qnu, .ref qfi, .ref qme, .ref qus, .int (nI cs2_7)])), (qpa, .inl (cI, 600, .inl pa2_2)), (qnu, .inl (cI, 600, .inl nu2_3)), (qfi, .inl (cI, 600, .inl fi2_4)), (qme, .inl (cI, 600, .inl me2_5)), (qus, .inl (cI, 100, .inl us2_6)), (qS, .inr (3, [.ref qc, .ref qse, .ref qre, .ref qcg])), (qse, .inl (cJ, 1600, .inr (.inl se))), (qre, .inl (cZ, 100, .inl re)), (qcg, .inl (cJ, 100, .inr (.inl cg)))] H := hP
  have hD : va_D A [(qx, .inr (4, [.ref qc, .ref qC, .ref qS, .ref qP, .int (nI 0)])), (qc, .inr (0, [.ref qk, .ref q0, .ref q1, .ref qo, .ref qv, .int (nI n), .int (nI ni), .int (nI no)])), (qk, .inl (cI, 100, .inl kd)), (q0, .inl (cI, 100, .inl s0)), (q1, .inl (cI, 100, .inl s1)), (qo, .inl (cI, 12, .inl on)), (qv, .inl (cJ, 1600, .inr (.inl vl))), (qC, .inr (1, [.ref qpa, .ref qnu, .ref qfi, .ref qme, .ref qus, .int (nI cs2_7)])), (qpa, .inl (cI, 600, .inl pa2_2)), (qnu, .inl (cI, 600, .inl nu2_3)), (qfi, .inl (cI, 600, .inl fi2_4)), (qme, .inl (cI, 600, .inl me2_5)), (qus, .inl (cI, 100, .inl us2_6)), (qS, .inr (3, [.ref qc, .ref qse, .ref qre, .ref qcg])), (qse, .inl (cJ, 1600, .inr (.inl se))), (qre, .inl (cZ, 100, .inl re)), (qcg, .inl (cJ, 100, .inr (.inl cg)))] := hD
  have hG9 := k_G
  have hle9 := k_G.le hn
  refine lv_iconst (v := (nI 0)) hx hb dX4_untestable_4 (by decide) ?_
  refine lv_istore_n (lv' := [(1, .int (nI 0)), (0, .ref qx)]) hx hb dX4_untestable_5 rfl hl (by decide) rfl (fun ls hl => ?_)
  refine lv_iconst (v := (nI 0)) hx hb dX4_untestable_6 (by decide) ?_
  refine lv_istore_n (lv' := [(2, .int (nI 0)), (1, .int (nI 0)), (0, .ref qx)]) hx hb dX4_untestable_7 rfl hl (by decide) rfl (fun ls hl => ?_)
  have loop8 : ∀ (n8 : Nat) (k : Nat) (ac : Nat) (e1 : Nat → Int64) (r1 : Nat → Int32) (g1 : Nat → Int64) (hk : k ≤ cs2_7) (hac : ac = cntF (fun k => decide ((fun k => leastF (fun w => shw kd s0 s1 on vl n ni no (cn (fi2_4 k)) w) (wordsN ni) 0) k = (-1))) k) (hs1 : SOK kd s0 s1 on vl n ni no e1 r1), cs2_7 - k < n8 → ∀ (H : Heap) (locs : List Loc), va_P D vwCl [(qx, .inr (4, [.ref qc, .ref qC, .ref qS, .ref qP, .int (nI 0)])), (qc, .inr (0, [.ref qk, .ref q0, .ref q1, .ref qo, .ref qv, .int (nI n), .int (nI ni), .int (nI no)])), (qk, .inl (cI, 100, .inl kd)), (q0, .inl (cI, 100, .inl s0)), (q1, .inl (cI, 100, .inl s1)), (qo, .inl (cI, 12, .inl on)), (qv, .inl (cJ, 1600, .inr (.inl vl))), (qC, .inr (1, [.ref qpa, .ref qnu, .ref qfi, .ref qme, .ref qus, .int (nI cs2_7)])), (qpa, .inl (cI, 600, .inl pa2_2)), (qnu, .inl (cI, 600, .inl nu2_3)), (qfi, .inl (cI, 600, .inl fi2_4)), (qme, .inl (cI, 600, .inl me2_5)), (qus, .inl (cI, 100, .inl us2_6)), (qS, .inr (3, [.ref qc, .ref qse, .ref qre, .ref qcg])), (qse, .inl (cJ, 1600, .inr (.inl e1))), (qre, .inl (cZ, 100, .inl r1)), (qcg, .inl (cJ, 100, .inr (.inl g1)))] H → va_D A [(qx, .inr (4, [.ref qc, .ref qC, .ref qS, .ref qP, .int (nI 0)])), (qc, .inr (0, [.ref qk, .ref q0, .ref q1, .ref qo, .ref qv, .int (nI n), .int (nI ni), .int (nI no)])), (qk, .inl (cI, 100, .inl kd)), (q0, .inl (cI, 100, .inl s0)), (q1, .inl (cI, 100, .inl s1)), (qo, .inl (cI, 12, .inl on)), (qv, .inl (cJ, 1600, .inr (.inl vl))), (qC, .inr (1, [.ref qpa, .ref qnu, .ref qfi, .ref qme, .ref qus, .int (nI cs2_7)])), (qpa, .inl (cI, 600, .inl pa2_2)), (qnu, .inl (cI, 600, .inl nu2_3)), (qfi, .inl (cI, 600, .inl fi2_4)), (qme, .inl (cI, 600, .inl me2_5)), (qus, .inl (cI, 100, .inl us2_6)), (qS, .inr (3, [.ref qc, .ref qse, .ref qre, .ref qcg])), (qse, .inl (cJ, 1600, .inr (.inl e1))), (qre, .inl (cZ, 100, .inl r1)), (qcg, .inl (cJ, 100, .inr (.inl g1)))] → va_S A s.heap H locs → ∀ (ls : Array Slot), lv_has ls 3 [(0, .ref qx), (1, .int (nI ac)), (2, .int (nI k))] → W p l e (headSpec wsX4_untestable ({ frames := 5, cells := 0, slots := 0, locals := 159 } : Room)).room s m ([.ref qx] : List Value).toArray below meth c H locs 0 0 (MQ below (va_Qi (fun (r_9 : Int32) (u9 : (Nat → Int32) × (Nat → Int32) × (Nat → Int32) × (Nat → Int32) × (Nat → Int32) × Nat × (Nat → Int64) × (Nat → Int32) × (Nat → Int64)) => match u9 with | (pa2, nu2, fi2, me2, us2, cs2, se2, re2, cg2) => r_9 = (nI (cntF (fun k => decide ((fun k => leastF (fun w => shw kd s0 s1 on vl n ni no (cn (fi2 k)) w) (wordsN ni) 0) k = (-1))) cs2)) ∧ CGood kd s0 s1 on n no nu2 fi2 me2 cs2 ∧ SOK kd s0 s1 on vl n ni no se2 re2) (fun (u9 : (Nat → Int32) × (Nat → Int32) × (Nat → Int32) × (Nat → Int32) × (Nat → Int32) × Nat × (Nat → Int64) × (Nat → Int32) × (Nat → Int64)) t => match u9 with | (pa2, nu2, fi2, me2, us2, cs2, se2, re2, cg2) => PQ D A [(qx, .inr (4, [.ref qc, .ref qC, .ref qS, .ref qP, .int (nI 0)])), (qc, .inr (0, [.ref qk, .ref q0, .ref q1, .ref qo, .ref qv, .int (nI n), .int (nI ni), .int (nI no)])), (qk, .inl (cI, 100, .inl kd)), (q0, .inl (cI, 100, .inl s0)), (q1, .inl (cI, 100, .inl s1)), (qo, .inl (cI, 12, .inl on)), (qv, .inl (cJ, 1600, .inr (.inl vl))), (qC, .inr (1, [.ref qpa, .ref qnu, .ref qfi, .ref qme, .ref qus, .int (nI cs2)])), (qpa, .inl (cI, 600, .inl pa2)), (qnu, .inl (cI, 600, .inl nu2)), (qfi, .inl (cI, 600, .inl fi2)), (qme, .inl (cI, 600, .inl me2)), (qus, .inl (cI, 100, .inl us2)), (qS, .inr (3, [.ref qc, .ref qse, .ref qre, .ref qcg])), (qse, .inl (cJ, 1600, .inr (.inl se2))), (qre, .inl (cZ, 100, .inl re2)), (qcg, .inl (cJ, 100, .inr (.inl cg2)))] t) A) ([.ref qx] : List Value).toArray s 0 0 A) (F0 m 8 ls []) := by
    intro n8
    induction n8 with
    | zero => intro k ac e1 r1 g1 hk hac hs1 hm; exact absurd hm (Nat.not_lt_zero _)
    | succ n8 ih8 =>
      intro k ac e1 r1 g1 hk hac hs1 hm8 H locs hP hD hS ls hl
      refine lv_iload_n hx hb dX4_untestable_8 rfl (lv_at hl 2 rfl) ?_
      refine lv_aload_n hx hb dX4_untestable_9 rfl (lv_at hl 0 rfl) ?_
      refine va_get (D := D) (ci := 4) (v := .ref qC) (C := RX4) (T := TX4) (N := 5) hx hb hts hiX4 hown hK hP 0 rfl rfl 1 (by decide) (hts (.fieldLink RX4 19 "FaultSearch" "classes" "LFaultSearch$Classes;") (by decide +kernel)) (fun _ h9 => h9) rfl dX4_untestable_10 ?_
      refine va_get (D := D) (ci := 1) (v := .int (nI cs2_7)) (C := RX1) (T := TX1) (N := 6) hx hb hts hiX1 hown hK hP 7 rfl rfl 5 (by decide) (hts (.fieldLink RX4 114 "FaultSearch$Classes" "size" "I") (by decide +kernel)) (fun _ h9 => h9) rfl dX4_untestable_13 ?_
      refine lv_icmp_ge (tgt := 48) hx hb dX4_untestable_16 (by decide) (fun c_16 => ?_) (fun c_16 => ?_)
      · skip
        rw [zc_le (by omega) (by omega)] at c_16
        refine lv_iload_n hx hb dX4_untestable_48 rfl (lv_at hl 1 rfl) ?_
        exact W.iret (v := (nI ac)) hx hb hr (fun t_9 ht_9 hW_9 => ⟨⟨(nI ac), (pa2_2, nu2_3, fi2_4, me2_5, us2_6, cs2_7, e1, r1, g1), rfl, (show (nI ac) = (nI (cntF (fun k => decide ((fun k => leastF (fun w => shw kd s0 s1 on vl n ni no (cn (fi2_4 k)) w) (wordsN ni) 0) k = (-1))) cs2_7)) ∧ CGood kd s0 s1 on n no nu2_3 fi2_4 me2_5 cs2_7 ∧ SOK kd s0 s1 on vl n ni no e1 r1 from ⟨(by rw [hac, show k = cs2_7 by omega]), hG9, hs1⟩), ⟨by rw [ht_9]; exact hP, hD⟩⟩, hS.F ht_9⟩) hS.2.2 dX4_untestable_49
      · skip
        rw [zc_le (by omega) (by omega)] at c_16
        refine lv_aload_n hx hb dX4_untestable_19 rfl (lv_at hl 0 rfl) ?_
        refine va_get (D := D) (ci := 4) (v := .ref qS) (C := RX4) (T := TX4) (N := 5) hx hb hts hiX4 hown hK hP 0 rfl rfl 2 (by decide) (hts (.fieldLink RX4 28 "FaultSearch" "sight" "LFaultSearch$Sight;") (by decide +kernel)) (fun _ h9 => h9) rfl dX4_untestable_20 ?_
        refine lv_aload_n hx hb dX4_untestable_23 rfl (lv_at hl 0 rfl) ?_
        refine va_get (D := D) (ci := 4) (v := .ref qC) (C := RX4) (T := TX4) (N := 5) hx hb hts hiX4 hown hK hP 0 rfl rfl 1 (by decide) (hts (.fieldLink RX4 19 "FaultSearch" "classes" "LFaultSearch$Classes;") (by decide +kernel)) (fun _ h9 => h9) rfl dX4_untestable_24 ?_
        refine va_get (D := D) (ci := 1) (v := .ref qfi) (C := RX1) (T := TX1) (N := 6) hx hb hts hiX1 hown hK hP 7 rfl rfl 2 (by decide) (hts (.fieldLink RX4 120 "FaultSearch$Classes" "firsts" "[I") (by decide +kernel)) (fun _ h9 => h9) rfl dX4_untestable_27 ?_
        refine lv_iload_n hx hb dX4_untestable_30 rfl (lv_at hl 2 rfl) ?_
        refine zz_iald hx hb hK hP 10 0 rfl rfl (n := 600) (j := k) (by omega) (by decide) dX4_untestable_31 ?_
        refine zz_i (z := (nI (cn (fi2_4 k)))) (hG9.fi (by omega) hn).1 ?_
        have hPc := hP.sub (ws' := [(qS, .inr (3, [.ref qc, .ref qse, .ref qre, .ref qcg])), (qse, .inl (cJ, 1600, .inr (.inl e1))), (qre, .inl (cZ, 100, .inl r1)), (qcg, .inl (cJ, 100, .inr (.inl g1))), (qc, .inr (0, [.ref qk, .ref q0, .ref q1, .ref qo, .ref qv, .int (nI n), .int (nI ni), .int (nI no)])), (qk, .inl (cI, 100, .inl kd)), (q0, .inl (cI, 100, .inl s0)), (q1, .inl (cI, 100, .inl s1)), (qo, .inl (cI, 12, .inl on)), (qv, .inl (cJ, 1600, .inr (.inl vl)))]) [13, 14, 15, 16, 1, 2, 3, 4, 5, 6] rfl
        have hDc := hD.sub (ws' := [(qS, .inr (3, [.ref qc, .ref qse, .ref qre, .ref qcg])), (qse, .inl (cJ, 1600, .inr (.inl e1))), (qre, .inl (cZ, 100, .inl r1)), (qcg, .inl (cJ, 100, .inr (.inl g1))), (qc, .inr (0, [.ref qk, .ref q0, .ref q1, .ref qo, .ref qv, .int (nI n), .int (nI ni), .int (nI no)])), (qk, .inl (cI, 100, .inl kd)), (q0, .inl (cI, 100, .inl s0)), (q1, .inl (cI, 100, .inl s1)), (qo, .inl (cI, 12, .inl on)), (qv, .inl (cJ, 1600, .inr (.inl vl)))]) [13, 14, 15, 16, 1, 2, 3, 4, 5, 6] (by decide) rfl
        have hFc := va_free (wc := [(qS, .inr (3, [.ref qc, .ref qse, .ref qre, .ref qcg])), (qse, .inl (cJ, 1600, .inr (.inl e1))), (qre, .inl (cZ, 100, .inl r1)), (qcg, .inl (cJ, 100, .inr (.inl g1))), (qc, .inr (0, [.ref qk, .ref q0, .ref q1, .ref qo, .ref qv, .int (nI n), .int (nI ni), .int (nI no)])), (qk, .inl (cI, 100, .inl kd)), (q0, .inl (cI, 100, .inl s0)), (q1, .inl (cI, 100, .inl s1)), (qo, .inl (cI, 12, .inl on)), (qv, .inl (cJ, 1600, .inr (.inl vl)))]) hD hS hA [13, 14, 15, 16, 1, 2, 3, 4, 5, 6] rfl
        refine va_calli (va_runV (As := [.int (nI (cn (fi2_4 k)))]) (rest := []) ⟨hx, hb, hml, hown, hts⟩ (c_X3_least l D cI cJ cZ qc qk q0 q1 qo qv kd s0 s1 on vl n ni no qS qse qre qcg e1 r1 g1 (cn (fi2_4 k)) H.size _ rfl (by omega) (by omega) hwf hwo (by omega) (line_of (hG9.fi (by omega) hn).2.1).1 (line_of (hG9.fi (by omega) hn).2.1).2 hs1) (cwV 1 hts gX4_untestable_X3_least rfl rfl rfl (by decide +kernel) ⟨Nat.le_of_ble_eq_true rfl, Nat.le_of_ble_eq_true rfl⟩) ⟨PW.blind, va_recv hK hPc (ci := 3) (q0 := 0) rfl rfl, fun U hU hW => ⟨rfl, PW.to hPc hK hNB hDc hU hW⟩⟩ rfl rfl hl.1 rfl (lv_room (Nat.le_of_ble_eq_true rfl)) dX4_untestable_32 ⟨Nat.le_of_ble_eq_true rfl, Nat.le_of_ble_eq_true rfl⟩) hS (fun q _ h => hFc q h) hFc (fun r_8 u_9 t_9 H1_9 locs ht_9 hvm_9 hw_9 hB_9 hz1_9 hk1_9 hS => ?_)
        obtain ⟨se2_9, re2_10, cg2_11⟩ := u_9
        obtain ⟨hP1_9, hD1_9⟩ := hB_9
        rw [ht_9] at hP1_9
        obtain ⟨rfl, k_ok⟩ := hw_9
        have k_ok : SOK kd s0 s1 on vl n ni no se2_9 re2_10 := k_ok
        obtain ⟨hP, hD⟩ := va_join (wr := [(qx, .inr (4, [.ref qc, .ref qC, .ref qS, .ref qP, .int (nI 0)])), (qC, .inr (1, [.ref qpa, .ref qnu, .ref qfi, .ref qme, .ref qus, .int (nI cs2_7)])), (qpa, .inl (cI, 600, .inl pa2_2)), (qnu, .inl (cI, 600, .inl nu2_3)), (qfi, .inl (cI, 600, .inl fi2_4)), (qme, .inl (cI, 600, .inl me2_5)), (qus, .inl (cI, 100, .inl us2_6))]) (w1 := [(qS, .inr (3, [.ref qc, .ref qse, .ref qre, .ref qcg])), (qse, .inl (cJ, 1600, .inr (.inl se2_9))), (qre, .inl (cZ, 100, .inl re2_10)), (qcg, .inl (cJ, 100, .inr (.inl cg2_11))), (qc, .inr (0, [.ref qk, .ref q0, .ref q1, .ref qo, .ref qv, .int (nI n), .int (nI ni), .int (nI no)])), (qk, .inl (cI, 100, .inl kd)), (q0, .inl (cI, 100, .inl s0)), (q1, .inl (cI, 100, .inl s1)), (qo, .inl (cI, 12, .inl on)), (qv, .inl (cJ, 1600, .inr (.inl vl)))]) hP hD [13, 14, 15, 16, 1, 2, 3, 4, 5, 6] [0, 7, 8, 9, 10, 11, 12] rfl rfl (by decide) (by decide) hk1_9 hFc hP1_9 hD1_9
        have hP := hP.sub (ws' := [(qx, .inr (4, [.ref qc, .ref qC, .ref qS, .ref qP, .int (nI 0)])), (qc, .inr (0, [.ref qk, .ref q0, .ref q1, .ref qo, .ref qv, .int (nI n), .int (nI ni), .int (nI no)])), (qk, .inl (cI, 100, .inl kd)), (q0, .inl (cI, 100, .inl s0)), (q1, .inl (cI, 100, .inl s1)), (qo, .inl (cI, 12, .inl on)), (qv, .inl (cJ, 1600, .inr (.inl vl))), (qC, .inr (1, [.ref qpa, .ref qnu, .ref qfi, .ref qme, .ref qus, .int (nI cs2_7)])), (qpa, .inl (cI, 600, .inl pa2_2)), (qnu, .inl (cI, 600, .inl nu2_3)), (qfi, .inl (cI, 600, .inl fi2_4)), (qme, .inl (cI, 600, .inl me2_5)), (qus, .inl (cI, 100, .inl us2_6)), (qS, .inr (3, [.ref qc, .ref qse, .ref qre, .ref qcg])), (qse, .inl (cJ, 1600, .inr (.inl se2_9))), (qre, .inl (cZ, 100, .inl re2_10)), (qcg, .inl (cJ, 100, .inr (.inl cg2_11)))]) [0, 11, 12, 13, 14, 15, 16, 1, 2, 3, 4, 5, 6, 7, 8, 9, 10] rfl
        have hD := hD.sub (ws' := [(qx, .inr (4, [.ref qc, .ref qC, .ref qS, .ref qP, .int (nI 0)])), (qc, .inr (0, [.ref qk, .ref q0, .ref q1, .ref qo, .ref qv, .int (nI n), .int (nI ni), .int (nI no)])), (qk, .inl (cI, 100, .inl kd)), (q0, .inl (cI, 100, .inl s0)), (q1, .inl (cI, 100, .inl s1)), (qo, .inl (cI, 12, .inl on)), (qv, .inl (cJ, 1600, .inr (.inl vl))), (qC, .inr (1, [.ref qpa, .ref qnu, .ref qfi, .ref qme, .ref qus, .int (nI cs2_7)])), (qpa, .inl (cI, 600, .inl pa2_2)), (qnu, .inl (cI, 600, .inl nu2_3)), (qfi, .inl (cI, 600, .inl fi2_4)), (qme, .inl (cI, 600, .inl me2_5)), (qus, .inl (cI, 100, .inl us2_6)), (qS, .inr (3, [.ref qc, .ref qse, .ref qre, .ref qcg])), (qse, .inl (cJ, 1600, .inr (.inl se2_9))), (qre, .inl (cZ, 100, .inl re2_10)), (qcg, .inl (cJ, 100, .inr (.inl cg2_11)))]) [0, 11, 12, 13, 14, 15, 16, 1, 2, 3, 4, 5, 6, 7, 8, 9, 10] (by decide) rfl
        generalize H1_9 = H at hP hS ⊢
        have hP : va_P D vwCl [(qx, .inr (4, [.ref qc, .ref qC, .ref qS, .ref qP, .int (nI 0)])), (qc, .inr (0, [.ref qk, .ref q0, .ref q1, .ref qo, .ref qv, .int (nI n), .int (nI ni), .int (nI no)])), (qk, .inl (cI, 100, .inl kd)), (q0, .inl (cI, 100, .inl s0)), (q1, .inl (cI, 100, .inl s1)), (qo, .inl (cI, 12, .inl on)), (qv, .inl (cJ, 1600, .inr (.inl vl))), (qC, .inr (1, [.ref qpa, .ref qnu, .ref qfi, .ref qme, .ref qus, .int (nI cs2_7)])), (qpa, .inl (cI, 600, .inl pa2_2)), (qnu, .inl (cI, 600, .inl nu2_3)), (qfi, .inl (cI, 600, .inl fi2_4)), (qme, .inl (cI, 600, .inl me2_5)), (qus, .inl (cI, 100, .inl us2_6)), (qS, .inr (3, [.ref qc, .ref qse, .ref qre, .ref qcg])), (qse, .inl (cJ, 1600, .inr (.inl se2_9))), (qre, .inl (cZ, 100, .inl re2_10)), (qcg, .inl (cJ, 100, .inr (.inl cg2_11)))] H := hP
        have hD : va_D A [(qx, .inr (4, [.ref qc, .ref qC, .ref qS, .ref qP, .int (nI 0)])), (qc, .inr (0, [.ref qk, .ref q0, .ref q1, .ref qo, .ref qv, .int (nI n), .int (nI ni), .int (nI no)])), (qk, .inl (cI, 100, .inl kd)), (q0, .inl (cI, 100, .inl s0)), (q1, .inl (cI, 100, .inl s1)), (qo, .inl (cI, 12, .inl on)), (qv, .inl (cJ, 1600, .inr (.inl vl))), (qC, .inr (1, [.ref qpa, .ref qnu, .ref qfi, .ref qme, .ref qus, .int (nI cs2_7)])), (qpa, .inl (cI, 600, .inl pa2_2)), (qnu, .inl (cI, 600, .inl nu2_3)), (qfi, .inl (cI, 600, .inl fi2_4)), (qme, .inl (cI, 600, .inl me2_5)), (qus, .inl (cI, 100, .inl us2_6)), (qS, .inr (3, [.ref qc, .ref qse, .ref qre, .ref qcg])), (qse, .inl (cJ, 1600, .inr (.inl se2_9))), (qre, .inl (cZ, 100, .inl re2_10)), (qcg, .inl (cJ, 100, .inr (.inl cg2_11)))] := hD
        refine lv_iconst (v := (-1)) hx hb dX4_untestable_35 (by decide) ?_
        refine lv_icmp_ne (tgt := 42) hx hb dX4_untestable_36 (by decide) (fun c_36 => ?_) (fun c_36 => ?_)
        · skip
          refine lv_iinc (v := (nI (k + 1))) (lv' := [(2, .int (nI (k + 1))), (0, .ref qx), (1, .int (nI ac))]) hx hb dX4_untestable_42 hl (k := 2) rfl (nI_add _ 1) (by decide) rfl (fun ls hl => ?_)
          refine lv_goto (tgt := 8) hx hb dX4_untestable_45 (by decide) ?_
          exact ih8 (k + 1) ac se2_9 re2_10 cg2_11 (by omega) (by rw [cntF_s, ← hac]; first | (rw [if_pos (decide_eq_true c_36)]) | (rw [if_neg (by simpa using c_36), Nat.add_zero])) k_ok (by omega) _ _ hP hD hS ls (lv_sub hl [1, 2, 0] rfl)
        · skip
          refine lv_iinc (v := (nI (ac + 1))) (lv' := [(1, .int (nI (ac + 1))), (0, .ref qx), (2, .int (nI k))]) hx hb dX4_untestable_39 hl (k := 1) rfl (nI_add _ 1) (by decide) rfl (fun ls hl => ?_)
          refine lv_iinc (v := (nI (k + 1))) (lv' := [(2, .int (nI (k + 1))), (1, .int (nI (ac + 1))), (0, .ref qx)]) hx hb dX4_untestable_42 hl (k := 2) rfl (nI_add _ 1) (by decide) rfl (fun ls hl => ?_)
          refine lv_goto (tgt := 8) hx hb dX4_untestable_45 (by decide) ?_
          exact ih8 (k + 1) (ac + 1) se2_9 re2_10 cg2_11 (by omega) (by rw [cntF_s, ← hac]; first | (rw [if_pos (decide_eq_true c_36)]) | (rw [if_neg (by simpa using c_36), Nat.add_zero])) k_ok (by omega) _ _ hP hD hS ls (lv_sub hl [2, 1, 0] rfl)
  exact loop8 ((cs2_7 - 0) + 1) 0 0 se re cg (Nat.zero_le _) rfl hs (Nat.lt_succ_self _) _ _ hP hD hS ls (lv_sub hl [2, 1, 0] rfl)

set_option maxHeartbeats 4000000 in
set_option maxRecDepth 100000 in
theorem c_X4_pattern_ok (l : Launch) (D : va_G) (cI cJ cZ : ClassId) (qx : Nat) (qc : Nat) (qC : Nat) (qS : Nat) (qP : Nat) (qfo : Nat) (qte : Nat) (fd : Nat → Int32) (ts : Nat → Int32) (fc : Nat) (tc : Nat) (st : Nat) (i : Nat) (hi : i < tc) (htc : tc ≤ 600) : Met l yX4_pattern wsX4_pattern ({ frames := 0, cells := 0, slots := 0, locals := 0 } : Room) (va_Pc [.ref qx, .int (nI i)] (PR D cI cJ cZ [(qx, .inr (4, [.ref qc, .ref qC, .ref qS, .ref qP, .int (nI st)])), (qP, .inr (2, [.ref qfo, .ref qte, .int (nI fc), .int (nI tc)])), (qfo, .inl (cZ, 600, .inl fd)), (qte, .inl (cI, 600, .inl ts))])) (vp_Si (fun r_9 : Int32 => r_9 = (ts i))) 0 0 (fun _ => False) := by
  refine Met.ofW (cc := cX4_pattern) (maxL := 2) (ret := (some .int)) (by decide) rfl ?_
  intro p e s m args below meth c s₁ B hml hv
  obtain ⟨rfl, hP, hK, hNB⟩ := hv
  have hx := B.exec
  have hb := B.bytes
  have hr := B.returns
  have hts := atoms_spec (ws := wsX4_pattern) B.pre
  have hown : s.vm.findClass RX4 = some m.cls := findClass_of_methodNamed B.named
  have hlocks := B.notSynchronized
  have hiX2 : ∀ w ∈ u_ws RX2 TX2 4, w ∈ wsX4_pattern := by decide +kernel
  have hiX4 : ∀ w ∈ u_ws RX4 TX4 5, w ∈ wsX4_pattern := by decide +kernel
  have hl := lv_entry ([.ref qx, .int (nI i)]) (n := 2) (Nat.le_of_ble_eq_true rfl)
  rw [lg_entry_eq]
  generalize (lg_sl ([.ref qx, .int (nI i)]) ++ List.replicate (2 - (lg_sl ([.ref qx, .int (nI i)])).length) Slot.unset).toArray = ls at hl ⊢
  have hl : lv_has ls 2 [(0, .ref qx), (1, .int (nI i))] := hl
  refine lv_iload_n hx hb dX4_pattern_0 rfl (lv_at hl 1 rfl) ?_
  refine lv_if_lt (tgt := 15) hx hb dX4_pattern_1 (by decide) (fun c_1 => ?_) (fun c_1 => ?_)
  · skip
    rw [show (0 : Int32) = nI 0 from rfl, zc_lt (by omega) (by omega)] at c_1
    exact absurd c_1 (Nat.not_lt_zero _)
  · skip
    rw [show (0 : Int32) = nI 0 from rfl, zc_lt (by omega) (by omega)] at c_1
    refine lv_iload_n hx hb dX4_pattern_4 rfl (lv_at hl 1 rfl) ?_
    refine lv_aload_n hx hb dX4_pattern_5 rfl (lv_at hl 0 rfl) ?_
    refine va_get (D := D) (ci := 4) (v := .ref qP) (C := RX4) (T := TX4) (N := 5) hx hb hts hiX4 hown hK hP 0 rfl rfl 3 (by decide) (hts (.fieldLink RX4 35 "FaultSearch" "progress" "LFaultSearch$Progress;") (by decide +kernel)) (fun _ h9 => h9) rfl dX4_pattern_6 ?_
    refine va_get (D := D) (ci := 2) (v := .int (nI tc)) (C := RX2) (T := TX2) (N := 4) hx hb hts hiX2 hown hK hP 1 rfl rfl 3 (by decide) (hts (.fieldLink RX4 162 "FaultSearch$Progress" "testCount" "I") (by decide +kernel)) (fun _ h9 => h9) rfl dX4_pattern_9 ?_
    refine lv_icmp_lt (tgt := 25) hx hb dX4_pattern_12 (by decide) (fun c_12 => ?_) (fun c_12 => ?_)
    · skip
      rw [zc_lt (by omega) (by omega)] at c_12
      refine lv_aload_n hx hb dX4_pattern_25 rfl (lv_at hl 0 rfl) ?_
      refine va_get (D := D) (ci := 4) (v := .ref qP) (C := RX4) (T := TX4) (N := 5) hx hb hts hiX4 hown hK hP 0 rfl rfl 3 (by decide) (hts (.fieldLink RX4 35 "FaultSearch" "progress" "LFaultSearch$Progress;") (by decide +kernel)) (fun _ h9 => h9) rfl dX4_pattern_26 ?_
      refine va_get (D := D) (ci := 2) (v := .ref qte) (C := RX2) (T := TX2) (N := 4) hx hb hts hiX2 hown hK hP 1 rfl rfl 1 (by decide) (hts (.fieldLink RX4 181 "FaultSearch$Progress" "tests" "[I") (by decide +kernel)) (fun _ h9 => h9) rfl dX4_pattern_29 ?_
      refine lv_iload_n hx hb dX4_pattern_32 rfl (lv_at hl 1 rfl) ?_
      refine zz_iald hx hb hK hP 3 0 rfl rfl (n := 600) (j := i) (by omega) (by decide) dX4_pattern_33 ?_
      exact W.iret (v := (ts i)) hx hb hr (fun t_9 ht_9 hW_9 => ⟨(ts i), rfl, rfl, ht_9⟩) (fun q h => nomatch h) dX4_pattern_34
    · skip
      rw [zc_lt (by omega) (by omega)] at c_12
      exact absurd hi c_12

set_option maxHeartbeats 4000000 in
set_option maxRecDepth 100000 in
theorem c_X4_pattern_no (l : Launch) (hl0 : l.stackTraces = false) (D : va_G) (cI cJ cZ : ClassId) (qx : Nat) (qc : Nat) (qC : Nat) (qS : Nat) (qP : Nat) (qfo : Nat) (qte : Nat) (fd : Nat → Int32) (ts : Nat → Int32) (fc : Nat) (tc : Nat) (st : Nat) (i : Int32) (sz : Nat) (A : Nat → Prop) (hAe : A = va_A [(qx, .inr (4, [.ref qc, .ref qC, .ref qS, .ref qP, .int (nI st)])), (qP, .inr (2, [.ref qfo, .ref qte, .int (nI fc), .int (nI tc)])), (qfo, .inl (cZ, 600, .inl fd)), (qte, .inl (cI, 600, .inl ts))] sz) (h : ¬ isN tc i) : vx_Met l yX4_pattern wsX4_pattern ({ frames := 6, cells := 1, slots := 6, locals := 90 } : Room) (va_Pc [.ref qx, .int i] (PX D cI cJ cZ [(qx, .inr (4, [.ref qc, .ref qC, .ref qS, .ref qP, .int (nI st)])), (qP, .inr (2, [.ref qfo, .ref qte, .int (nI fc), .int (nI tc)])), (qfo, .inl (cZ, 600, .inl fd)), (qte, .inl (cI, 600, .inl ts))] sz)) (va_Qi (fun (_ : Int32) (_ : Unit) => False) (fun _ _ => True) A) (vx_X (fun _u9 : Unit => True) (fun E (_u9 : Unit) t => E = "java/lang/IndexOutOfBoundsException" ∧ PQ D A [(qx, .inr (4, [.ref qc, .ref qC, .ref qS, .ref qP, .int (nI st)])), (qP, .inr (2, [.ref qfo, .ref qte, .int (nI fc), .int (nI tc)])), (qfo, .inl (cZ, 600, .inl fd)), (qte, .inl (cI, 600, .inl ts))] t) A) 1 6 A := by
  refine vx_ofW (cc := cX4_pattern) (maxL := 2) (ret := (some .int)) (by decide) rfl ?_
  intro p e s m args below meth c s₁ B hml hxt hv
  obtain ⟨rfl, ⟨hsz, ⟨hP, hK, hNB⟩, hD0⟩, hGX⟩ := hv
  have hx := B.exec
  have hb := B.bytes
  have hr := B.returns
  have hts := atoms_spec (ws := wsX4_pattern) B.pre
  have hown : s.vm.findClass RX4 = some m.cls := findClass_of_methodNamed B.named
  have hlocks := B.notSynchronized
  have hiX2 : ∀ w ∈ u_ws RX2 TX2 4, w ∈ wsX4_pattern := by decide +kernel
  have hiX4 : ∀ w ∈ u_ws RX4 TX4 5, w ∈ wsX4_pattern := by decide +kernel
  subst hsz
  rw [← hAe] at hGX
  have hD : va_D A [(qx, .inr (4, [.ref qc, .ref qC, .ref qS, .ref qP, .int (nI st)])), (qP, .inr (2, [.ref qfo, .ref qte, .int (nI fc), .int (nI tc)])), (qfo, .inl (cZ, 600, .inl fd)), (qte, .inl (cI, 600, .inl ts))] := by rw [hAe]; exact hD0.self
  have hA : ∀ q : Nat, s.heap.size ≤ q → A q := fun q h => by rw [hAe]; exact Or.inr h
  have hS : va_S A s.heap s.heap [] := va_S.rf
  have hl := lv_entry ([.ref qx, .int i]) (n := 2) (Nat.le_of_ble_eq_true rfl)
  rw [lg_entry_eq]
  generalize (lg_sl ([.ref qx, .int i]) ++ List.replicate (2 - (lg_sl ([.ref qx, .int i])).length) Slot.unset).toArray = ls at hl ⊢
  have hl : lv_has ls 2 [(0, .ref qx), (1, .int i)] := hl
  refine lv_iload_n hx hb dX4_pattern_0 rfl (lv_at hl 1 rfl) ?_
  refine lv_if_lt (tgt := 15) hx hb dX4_pattern_1 (by decide) (fun c_1 => ?_) (fun c_1 => ?_)
  · skip
    obtain ⟨sa_9, hstr_9⟩ := hGX.2.1.2.2.2.2.2.2.2.1
    have hat_9 : ∀ w ∈ (vx_atS RX4 75 "java/lang/IndexOutOfBoundsException" ["java/lang/RuntimeException", "java/lang/Exception"]).filter goodWord, w ∈ wsX4_pattern := by decide +kernel
    exact vx_throwS (names := ["java/lang/RuntimeException", "java/lang/Exception"]) hx hb hl0 hown (by decide +kernel) (by decide +kernel) (hts (.classLink RX4 71 "java/lang/IndexOutOfBoundsException") (by decide +kernel)) (hts (.initialized "java/lang/IndexOutOfBoundsException") (by decide +kernel)) hstr_9 (vx_hat (fun w h => hts w (hat_9 w h)) (by decide +kernel) hGX.1.use) (by decide +kernel) hGX.2.2.1 hGX.2.2.2 hS (by rw [hml]; exact hl.1) dX4_pattern_15 dX4_pattern_18 dX4_pattern_19 dX4_pattern_21 dX4_pattern_24 (fun x h => (hxt x h).elim) (Nat.le_of_ble_eq_true rfl) (Nat.le_of_ble_eq_true rfl) (Nat.le_of_ble_eq_true rfl) (Nat.le_of_ble_eq_true rfl) hlocks (fun t_9 ha_9 hz_9 hk_9 => ⟨(), trivial, ⟨rfl, zx_P hP hk_9, hD⟩, zx_F hS hz_9 hk_9⟩) hS.2.2 (by decide) (by decide)
  · skip
    refine lv_iload_n hx hb dX4_pattern_4 rfl (lv_at hl 1 rfl) ?_
    refine lv_aload_n hx hb dX4_pattern_5 rfl (lv_at hl 0 rfl) ?_
    refine va_get (D := D) (ci := 4) (v := .ref qP) (C := RX4) (T := TX4) (N := 5) hx hb hts hiX4 hown hK hP 0 rfl rfl 3 (by decide) (hts (.fieldLink RX4 35 "FaultSearch" "progress" "LFaultSearch$Progress;") (by decide +kernel)) (fun _ h9 => h9) rfl dX4_pattern_6 ?_
    refine va_get (D := D) (ci := 2) (v := .int (nI tc)) (C := RX2) (T := TX2) (N := 4) hx hb hts hiX2 hown hK hP 1 rfl rfl 3 (by decide) (hts (.fieldLink RX4 162 "FaultSearch$Progress" "testCount" "I") (by decide +kernel)) (fun _ h9 => h9) rfl dX4_pattern_9 ?_
    refine lv_icmp_lt (tgt := 25) hx hb dX4_pattern_12 (by decide) (fun c_12 => ?_) (fun c_12 => ?_)
    · skip
      exact absurd ⟨c_1, fun h9 => absurd c_12 (Int32.not_lt.mpr h9)⟩ h
    · skip
      obtain ⟨sa_9, hstr_9⟩ := hGX.2.1.2.2.2.2.2.2.2.1
      have hat_9 : ∀ w ∈ (vx_atS RX4 75 "java/lang/IndexOutOfBoundsException" ["java/lang/RuntimeException", "java/lang/Exception"]).filter goodWord, w ∈ wsX4_pattern := by decide +kernel
      exact vx_throwS (names := ["java/lang/RuntimeException", "java/lang/Exception"]) hx hb hl0 hown (by decide +kernel) (by decide +kernel) (hts (.classLink RX4 71 "java/lang/IndexOutOfBoundsException") (by decide +kernel)) (hts (.initialized "java/lang/IndexOutOfBoundsException") (by decide +kernel)) hstr_9 (vx_hat (fun w h => hts w (hat_9 w h)) (by decide +kernel) hGX.1.use) (by decide +kernel) hGX.2.2.1 hGX.2.2.2 hS (by rw [hml]; exact hl.1) dX4_pattern_15 dX4_pattern_18 dX4_pattern_19 dX4_pattern_21 dX4_pattern_24 (fun x h => (hxt x h).elim) (Nat.le_of_ble_eq_true rfl) (Nat.le_of_ble_eq_true rfl) (Nat.le_of_ble_eq_true rfl) (Nat.le_of_ble_eq_true rfl) hlocks (fun t_9 ha_9 hz_9 hk_9 => ⟨(), trivial, ⟨rfl, zx_P hP hk_9, hD⟩, zx_F hS hz_9 hk_9⟩) hS.2.2 (by decide) (by decide)

set_option maxHeartbeats 4000000 in
set_option maxRecDepth 100000 in
theorem c_X4_left_ok (l : Launch) (D : va_G) (cI cJ cZ : ClassId) (qx : Nat) (qc : Nat) (qk : Nat) (q0 : Nat) (q1 : Nat) (qo : Nat) (qv : Nat) (kd : Nat → Int32) (s0 : Nat → Int32) (s1 : Nat → Int32) (on : Nat → Int32) (vl : Nat → Int64) (n : Nat) (ni : Nat) (no : Nat) (qC : Nat) (qpa : Nat) (qnu : Nat) (qfi : Nat) (qme : Nat) (qus : Nat) (pa : Nat → Int32) (nu : Nat → Int32) (fi : Nat → Int32) (me : Nat → Int32) (us : Nat → Int32) (cs : Nat) (qS : Nat) (qP : Nat) (qfo : Nat) (qte : Nat) (fd : Nat → Int32) (ts : Nat → Int32) (fc : Nat) (tc : Nat) (st : Nat) (i : Int32) (sz : Nat) (A : Nat → Prop) (hAe : A = va_A [(qx, .inr (4, [.ref qc, .ref qC, .ref qS, .ref qP, .int (nI st)])), (qc, .inr (0, [.ref qk, .ref q0, .ref q1, .ref qo, .ref qv, .int (nI n), .int (nI ni), .int (nI no)])), (qk, .inl (cI, 100, .inl kd)), (q0, .inl (cI, 100, .inl s0)), (q1, .inl (cI, 100, .inl s1)), (qo, .inl (cI, 12, .inl on)), (qv, .inl (cJ, 1600, .inr (.inl vl))), (qC, .inr (1, [.ref qpa, .ref qnu, .ref qfi, .ref qme, .ref qus, .int (nI cs)])), (qpa, .inl (cI, 600, .inl pa)), (qnu, .inl (cI, 600, .inl nu)), (qfi, .inl (cI, 600, .inl fi)), (qme, .inl (cI, 600, .inl me)), (qus, .inl (cI, 100, .inl us)), (qP, .inr (2, [.ref qfo, .ref qte, .int (nI fc), .int (nI tc)])), (qfo, .inl (cZ, 600, .inl fd)), (qte, .inl (cI, 600, .inl ts))] sz) (hn : n ≤ 100) (hno : no ≤ 12) (hwf : WF n kd s0 s1) (hwo : WO n no on) (hst : st < 2) (hcs : CST kd s0 s1 on n no st nu fi me cs) (h : ¬ i < 0) : Met l yX4_left wsX4_left ({ frames := 5, cells := 0, slots := 0, locals := 117 } : Room) (va_Pc [.ref qx, .int i] (PW D cI cJ cZ [(qx, .inr (4, [.ref qc, .ref qC, .ref qS, .ref qP, .int (nI st)])), (qc, .inr (0, [.ref qk, .ref q0, .ref q1, .ref qo, .ref qv, .int (nI n), .int (nI ni), .int (nI no)])), (qk, .inl (cI, 100, .inl kd)), (q0, .inl (cI, 100, .inl s0)), (q1, .inl (cI, 100, .inl s1)), (qo, .inl (cI, 12, .inl on)), (qv, .inl (cJ, 1600, .inr (.inl vl))), (qC, .inr (1, [.ref qpa, .ref qnu, .ref qfi, .ref qme, .ref qus, .int (nI cs)])), (qpa, .inl (cI, 600, .inl pa)), (qnu, .inl (cI, 600, .inl nu)), (qfi, .inl (cI, 600, .inl fi)), (qme, .inl (cI, 600, .inl me)), (qus, .inl (cI, 100, .inl us)), (qP, .inr (2, [.ref qfo, .ref qte, .int (nI fc), .int (nI tc)])), (qfo, .inl (cZ, 600, .inl fd)), (qte, .inl (cI, 600, .inl ts))] sz)) (va_Qi (fun (r_9 : Int32) (u9 : (Nat → Int32) × (Nat → Int32) × (Nat → Int32) × (Nat → Int32) × (Nat → Int32) × Nat) => match u9 with | (pa2, nu2, fi2, me2, us2, cs2) => r_9 = (missF fd i (cs2 - 0) 0 0) ∧ CGood kd s0 s1 on n no nu2 fi2 me2 cs2) (fun (u9 : (Nat → Int32) × (Nat → Int32) × (Nat → Int32) × (Nat → Int32) × (Nat → Int32) × Nat) t => match u9 with | (pa2, nu2, fi2, me2, us2, cs2) => PQ D A [(qx, .inr (4, [.ref qc, .ref qC, .ref qS, .ref qP, .int (nI 0)])), (qc, .inr (0, [.ref qk, .ref q0, .ref q1, .ref qo, .ref qv, .int (nI n), .int (nI ni), .int (nI no)])), (qk, .inl (cI, 100, .inl kd)), (q0, .inl (cI, 100, .inl s0)), (q1, .inl (cI, 100, .inl s1)), (qo, .inl (cI, 12, .inl on)), (qv, .inl (cJ, 1600, .inr (.inl vl))), (qC, .inr (1, [.ref qpa, .ref qnu, .ref qfi, .ref qme, .ref qus, .int (nI cs2)])), (qpa, .inl (cI, 600, .inl pa2)), (qnu, .inl (cI, 600, .inl nu2)), (qfi, .inl (cI, 600, .inl fi2)), (qme, .inl (cI, 600, .inl me2)), (qus, .inl (cI, 100, .inl us2)), (qP, .inr (2, [.ref qfo, .ref qte, .int (nI fc), .int (nI tc)])), (qfo, .inl (cZ, 600, .inl fd)), (qte, .inl (cI, 600, .inl ts))] t) A) 0 0 A := by
  refine Met.ofW (cc := cX4_left) (maxL := 2) (ret := (some .int)) (by decide) rfl ?_
  intro p e s m args below meth c s₁ B hml hv
  obtain ⟨rfl, hsz, ⟨hP, hK, hNB⟩, hD0⟩ := hv
  have hx := B.exec
  have hb := B.bytes
  have hr := B.returns
  have hts := atoms_spec (ws := wsX4_left) B.pre
  have hown : s.vm.findClass RX4 = some m.cls := findClass_of_methodNamed B.named
  have hlocks := B.notSynchronized
  have hiX1 : ∀ w ∈ u_ws RX1 TX1 6, w ∈ wsX4_left := by decide +kernel
  have hiX4 : ∀ w ∈ u_ws RX4 TX4 5, w ∈ wsX4_left := by decide +kernel
  subst hsz
  have hD : va_D A [(qx, .inr (4, [.ref qc, .ref qC, .ref qS, .ref qP, .int (nI st)])), (qc, .inr (0, [.ref qk, .ref q0, .ref q1, .ref qo, .ref qv, .int (nI n), .int (nI ni), .int (nI no)])), (qk, .inl (cI, 100, .inl kd)), (q0, .inl (cI, 100, .inl s0)), (q1, .inl (cI, 100, .inl s1)), (qo, .inl (cI, 12, .inl on)), (qv, .inl (cJ, 1600, .inr (.inl vl))), (qC, .inr (1, [.ref qpa, .ref qnu, .ref qfi, .ref qme, .ref qus, .int (nI cs)])), (qpa, .inl (cI, 600, .inl pa)), (qnu, .inl (cI, 600, .inl nu)), (qfi, .inl (cI, 600, .inl fi)), (qme, .inl (cI, 600, .inl me)), (qus, .inl (cI, 100, .inl us)), (qP, .inr (2, [.ref qfo, .ref qte, .int (nI fc), .int (nI tc)])), (qfo, .inl (cZ, 600, .inl fd)), (qte, .inl (cI, 600, .inl ts))] := by rw [hAe]; exact hD0.self
  have hA : ∀ q : Nat, s.heap.size ≤ q → A q := fun q h => by rw [hAe]; exact Or.inr h
  have hS : va_S A s.heap s.heap [] := va_S.rf
  have hl := lv_entry ([.ref qx, .int i]) (n := 2) (Nat.le_of_ble_eq_true rfl)
  rw [lg_entry_eq]
  generalize (lg_sl ([.ref qx, .int i]) ++ List.replicate (2 - (lg_sl ([.ref qx, .int i])).length) Slot.unset).toArray = ls at hl ⊢
  have hl : lv_has ls 2 [(0, .ref qx), (1, .int i)] := hl
  refine lv_iload_n hx hb dX4_left_0 rfl (lv_at hl 1 rfl) ?_
  refine lv_if_ge (tgt := 14) hx hb dX4_left_1 (by decide) (fun c_1 => ?_) (fun c_1 => ?_)
  · skip
    refine lv_aload_n hx hb dX4_left_14 rfl (lv_at hl 0 rfl) ?_
    have hPc := hP.sub (ws' := [(qx, .inr (4, [.ref qc, .ref qC, .ref qS, .ref qP, .int (nI st)])), (qc, .inr (0, [.ref qk, .ref q0, .ref q1, .ref qo, .ref qv, .int (nI n), .int (nI ni), .int (nI no)])), (qk, .inl (cI, 100, .inl kd)), (q0, .inl (cI, 100, .inl s0)), (q1, .inl (cI, 100, .inl s1)), (qo, .inl (cI, 12, .inl on)), (qv, .inl (cJ, 1600, .inr (.inl vl))), (qC, .inr (1, [.ref qpa, .ref qnu, .ref qfi, .ref qme, .ref qus, .int (nI cs)])), (qpa, .inl (cI, 600, .inl pa)), (qnu, .inl (cI, 600, .inl nu)), (qfi, .inl (cI, 600, .inl fi)), (qme, .inl (cI, 600, .inl me)), (qus, .inl (cI, 100, .inl us))]) [0, 1, 2, 3, 4, 5, 6, 7, 8, 9, 10, 11, 12] rfl
    have hDc := hD.sub (ws' := [(qx, .inr (4, [.ref qc, .ref qC, .ref qS, .ref qP, .int (nI st)])), (qc, .inr (0, [.ref qk, .ref q0, .ref q1, .ref qo, .ref qv, .int (nI n), .int (nI ni), .int (nI no)])), (qk, .inl (cI, 100, .inl kd)), (q0, .inl (cI, 100, .inl s0)), (q1, .inl (cI, 100, .inl s1)), (qo, .inl (cI, 12, .inl on)), (qv, .inl (cJ, 1600, .inr (.inl vl))), (qC, .inr (1, [.ref qpa, .ref qnu, .ref qfi, .ref qme, .ref qus, .int (nI cs)])), (qpa, .inl (cI, 600, .inl pa)), (qnu, .inl (cI, 600, .inl nu)), (qfi, .inl (cI, 600, .inl fi)), (qme, .inl (cI, 600, .inl me)), (qus, .inl (cI, 100, .inl us))]) [0, 1, 2, 3, 4, 5, 6, 7, 8, 9, 10, 11, 12] (by decide) rfl
    have hFc := va_free (wc := [(qx, .inr (4, [.ref qc, .ref qC, .ref qS, .ref qP, .int (nI st)])), (qc, .inr (0, [.ref qk, .ref q0, .ref q1, .ref qo, .ref qv, .int (nI n), .int (nI ni), .int (nI no)])), (qk, .inl (cI, 100, .inl kd)), (q0, .inl (cI, 100, .inl s0)), (q1, .inl (cI, 100, .inl s1)), (qo, .inl (cI, 12, .inl on)), (qv, .inl (cJ, 1600, .inr (.inl vl))), (qC, .inr (1, [.ref qpa, .ref qnu, .ref qfi, .ref qme, .ref qus, .int (nI cs)])), (qpa, .inl (cI, 600, .inl pa)), (qnu, .inl (cI, 600, .inl nu)), (qfi, .inl (cI, 600, .inl fi)), (qme, .inl (cI, 600, .inl me)), (qus, .inl (cI, 100, .inl us))]) hD hS hA [0, 1, 2, 3, 4, 5, 6, 7, 8, 9, 10, 11, 12] rfl
    refine va_callv (va_runV (As := []) (rest := []) ⟨hx, hb, hml, hown, hts⟩ (c_X4_refresh l D cI cJ cZ qx qc qk q0 q1 qo qv kd s0 s1 on vl n ni no qC qpa qnu qfi qme qus pa nu fi me us cs qS qP st s.heap.size _ rfl (by omega) (by omega) hwf hwo (by omega) hcs) (cwV 0 hts gX4_left_X4_refresh rfl rfl rfl (by decide +kernel) ⟨Nat.le_of_ble_eq_true rfl, Nat.le_of_ble_eq_true rfl⟩) ⟨PW.blind, va_recv hK hPc (ci := 4) (q0 := 0) rfl rfl, fun U hU hW => ⟨rfl, PW.to hPc hK hNB hDc hU hW⟩⟩ rfl rfl hl.1 rfl (lv_room (Nat.le_of_ble_eq_true rfl)) dX4_left_15 ⟨Nat.le_of_ble_eq_true rfl, Nat.le_of_ble_eq_true rfl⟩) hS (fun q _ h => hFc q h) hFc (fun u_9 t_9 H1_9 locs ht_9 hvm_9 hw_9 hB_9 hz1_9 hk1_9 hS => ?_)
    obtain ⟨pa2_2, nu2_3, fi2_4, me2_5, us2_6, cs2_7⟩ := u_9
    obtain ⟨hP1_9, hD1_9⟩ := hB_9
    rw [ht_9] at hP1_9
    have k_G := hw_9
    have k_G : CGood kd s0 s1 on n no nu2_3 fi2_4 me2_5 cs2_7 := k_G
    obtain ⟨hP, hD⟩ := va_join (wr := [(qP, .inr (2, [.ref qfo, .ref qte, .int (nI fc), .int (nI tc)])), (qfo, .inl (cZ, 600, .inl fd)), (qte, .inl (cI, 600, .inl ts))]) (w1 := [(qx, .inr (4, [.ref qc, .ref qC, .ref qS, .ref qP, .int (nI 0)])), (qc, .inr (0, [.ref qk, .ref q0, .ref q1, .ref qo, .ref qv, .int (nI n), .int (nI ni), .int (nI no)])), (qk, .inl (cI, 100, .inl kd)), (q0, .inl (cI, 100, .inl s0)), (q1, .inl (cI, 100, .inl s1)), (qo, .inl (cI, 12, .inl on)), (qv, .inl (cJ, 1600, .inr (.inl vl))), (qC, .inr (1, [.ref qpa, .ref qnu, .ref qfi, .ref qme, .ref qus, .int (nI cs2_7)])), (qpa, .inl (cI, 600, .inl pa2_2)), (qnu, .inl (cI, 600, .inl nu2_3)), (qfi, .inl (cI, 600, .inl fi2_4)), (qme, .inl (cI, 600, .inl me2_5)), (qus, .inl (cI, 100, .inl us2_6))]) hP hD [0, 1, 2, 3, 4, 5, 6, 7, 8, 9, 10, 11, 12] [13, 14, 15] rfl rfl (by decide) (by decide) hk1_9 hFc hP1_9 hD1_9
    have hP := hP.sub (ws' := [(qx, .inr (4, [.ref qc, .ref qC, .ref qS, .ref qP, .int (nI 0)])), (qc, .inr (0, [.ref qk, .ref q0, .ref q1, .ref qo, .ref qv, .int (nI n), .int (nI ni), .int (nI no)])), (qk, .inl (cI, 100, .inl kd)), (q0, .inl (cI, 100, .inl s0)), (q1, .inl (cI, 100, .inl s1)), (qo, .inl (cI, 12, .inl on)), (qv, .inl (cJ, 1600, .inr (.inl vl))), (qC, .inr (1, [.ref qpa, .ref qnu, .ref qfi, .ref qme, .ref qus, .int (nI cs2_7)])), (qpa, .inl (cI, 600, .inl pa2_2)), (qnu, .inl (cI, 600, .inl nu2_3)), (qfi, .inl (cI, 600, .inl fi2_4)), (qme, .inl (cI, 600, .inl me2_5)), (qus, .inl (cI, 100, .inl us2_6)), (qP, .inr (2, [.ref qfo, .ref qte, .int (nI fc), .int (nI tc)])), (qfo, .inl (cZ, 600, .inl fd)), (qte, .inl (cI, 600, .inl ts))]) [3, 4, 5, 6, 7, 8, 9, 10, 11, 12, 13, 14, 15, 0, 1, 2] rfl
    have hD := hD.sub (ws' := [(qx, .inr (4, [.ref qc, .ref qC, .ref qS, .ref qP, .int (nI 0)])), (qc, .inr (0, [.ref qk, .ref q0, .ref q1, .ref qo, .ref qv, .int (nI n), .int (nI ni), .int (nI no)])), (qk, .inl (cI, 100, .inl kd)), (q0, .inl (cI, 100, .inl s0)), (q1, .inl (cI, 100, .inl s1)), (qo, .inl (cI, 12, .inl on)), (qv, .inl (cJ, 1600, .inr (.inl vl))), (qC, .inr (1, [.ref qpa, .ref qnu, .ref qfi, .ref qme, .ref qus, .int (nI cs2_7)])), (qpa, .inl (cI, 600, .inl pa2_2)), (qnu, .inl (cI, 600, .inl nu2_3)), (qfi, .inl (cI, 600, .inl fi2_4)), (qme, .inl (cI, 600, .inl me2_5)), (qus, .inl (cI, 100, .inl us2_6)), (qP, .inr (2, [.ref qfo, .ref qte, .int (nI fc), .int (nI tc)])), (qfo, .inl (cZ, 600, .inl fd)), (qte, .inl (cI, 600, .inl ts))]) [3, 4, 5, 6, 7, 8, 9, 10, 11, 12, 13, 14, 15, 0, 1, 2] (by decide) rfl
    generalize H1_9 = H at hP hS ⊢
    have hP : va_P D vwCl [(qx, .inr (4, [.ref qc, .ref qC, .ref qS, .ref qP, .int (nI 0)])), (qc, .inr (0, [.ref qk, .ref q0, .ref q1, .ref qo, .ref qv, .int (nI n), .int (nI ni), .int (nI no)])), (qk, .inl (cI, 100, .inl kd)), (q0, .inl (cI, 100, .inl s0)), (q1, .inl (cI, 100, .inl s1)), (qo, .inl (cI, 12, .inl on)), (qv, .inl (cJ, 1600, .inr (.inl vl))), (qC, .inr (1, [.ref qpa, .ref qnu, .ref qfi, .ref qme, .ref qus, .int (nI cs2_7)])), (qpa, .inl (cI, 600, .inl pa2_2)), (qnu, .inl (cI, 600, .inl nu2_3)), (qfi, .inl (cI, 600, .inl fi2_4)), (qme, .inl (cI, 600, .inl me2_5)), (qus, .inl (cI, 100, .inl us2_6)), (qP, .inr (2, [.ref qfo, .ref qte, .int (nI fc), .int (nI tc)])), (qfo, .inl (cZ, 600, .inl fd)), (qte, .inl (cI, 600, .inl ts))] H := hP
    have hD : va_D A [(qx, .inr (4, [.ref qc, .ref qC, .ref qS, .ref qP, .int (nI 0)])), (qc, .inr (0, [.ref qk, .ref q0, .ref q1, .ref qo, .ref qv, .int (nI n), .int (nI ni), .int (nI no)])), (qk, .inl (cI, 100, .inl kd)), (q0, .inl (cI, 100, .inl s0)), (q1, .inl (cI, 100, .inl s1)), (qo, .inl (cI, 12, .inl on)), (qv, .inl (cJ, 1600, .inr (.inl vl))), (qC, .inr (1, [.ref qpa, .ref qnu, .ref qfi, .ref qme, .ref qus, .int (nI cs2_7)])), (qpa, .inl (cI, 600, .inl pa2_2)), (qnu, .inl (cI, 600, .inl nu2_3)), (qfi, .inl (cI, 600, .inl fi2_4)), (qme, .inl (cI, 600, .inl me2_5)), (qus, .inl (cI, 100, .inl us2_6)), (qP, .inr (2, [.ref qfo, .ref qte, .int (nI fc), .int (nI tc)])), (qfo, .inl (cZ, 600, .inl fd)), (qte, .inl (cI, 600, .inl ts))] := hD
    refine lv_aload_n hx hb dX4_left_18 rfl (lv_at hl 0 rfl) ?_
    refine va_get (D := D) (ci := 4) (v := .ref qP) (C := RX4) (T := TX4) (N := 5) hx hb hts hiX4 hown hK hP 0 rfl rfl 3 (by decide) (hts (.fieldLink RX4 35 "FaultSearch" "progress" "LFaultSearch$Progress;") (by decide +kernel)) (fun _ h9 => h9) rfl dX4_left_19 ?_
    refine lv_iload_n hx hb dX4_left_22 rfl (lv_at hl 1 rfl) ?_
    refine lv_aload_n hx hb dX4_left_23 rfl (lv_at hl 0 rfl) ?_
    refine va_get (D := D) (ci := 4) (v := .ref qC) (C := RX4) (T := TX4) (N := 5) hx hb hts hiX4 hown hK hP 0 rfl rfl 1 (by decide) (hts (.fieldLink RX4 19 "FaultSearch" "classes" "LFaultSearch$Classes;") (by decide +kernel)) (fun _ h9 => h9) rfl dX4_left_24 ?_
    refine va_get (D := D) (ci := 1) (v := .int (nI cs2_7)) (C := RX1) (T := TX1) (N := 6) hx hb hts hiX1 hown hK hP 7 rfl rfl 5 (by decide) (hts (.fieldLink RX4 114 "FaultSearch$Classes" "size" "I") (by decide +kernel)) (fun _ h9 => h9) rfl dX4_left_27 ?_
    have hle9 := k_G.le hn
    have hPc := hP.sub (ws' := [(qP, .inr (2, [.ref qfo, .ref qte, .int (nI fc), .int (nI tc)])), (qfo, .inl (cZ, 600, .inl fd)), (qte, .inl (cI, 600, .inl ts))]) [13, 14, 15] rfl
    refine vp_callSi (va_runV (As := [.int i, .int (nI cs2_7)]) (rest := []) ⟨hx, hb, hml, hown, hts⟩ (c_X2_missing l D cI cJ cZ qP qfo qte fd ts fc tc i cs2_7 hle9) (cwV 2 hts gX4_left_X2_missing rfl rfl rfl (by decide +kernel) ⟨Nat.le_of_ble_eq_true rfl, Nat.le_of_ble_eq_true rfl⟩) ⟨PR.blind, va_recv hK hPc (ci := 2) (q0 := 0) rfl rfl, fun U hU hW => ⟨rfl, PR.to hPc hK hNB hU hW⟩⟩ rfl rfl hl.1 rfl (lv_room (Nat.le_of_ble_eq_true rfl)) dX4_left_30 ⟨Nat.le_of_ble_eq_true rfl, Nat.le_of_ble_eq_true rfl⟩).run (fun r_8 hrr_8 => ?_)
    subst hrr_8
    exact W.iret (v := (missF fd i (cs2_7 - 0) 0 0)) hx hb hr (fun t_9 ht_9 hW_9 => ⟨⟨(missF fd i (cs2_7 - 0) 0 0), (pa2_2, nu2_3, fi2_4, me2_5, us2_6, cs2_7), rfl, (show (missF fd i (cs2_7 - 0) 0 0) = (missF fd i (cs2_7 - 0) 0 0) ∧ CGood kd s0 s1 on n no nu2_3 fi2_4 me2_5 cs2_7 from ⟨rfl, k_G⟩), ⟨by rw [ht_9]; exact hP, hD⟩⟩, hS.F ht_9⟩) hS.2.2 dX4_left_33
  · skip
    exact absurd (Int32.not_lt.mp h) c_1

set_option maxHeartbeats 4000000 in
set_option maxRecDepth 100000 in
theorem c_X4_left_no (l : Launch) (hl0 : l.stackTraces = false) (D : va_G) (cI cJ cZ : ClassId) (qx : Nat) (qc : Nat) (qC : Nat) (qS : Nat) (qP : Nat) (st : Nat) (i : Int32) (sz : Nat) (A : Nat → Prop) (hAe : A = va_A [(qx, .inr (4, [.ref qc, .ref qC, .ref qS, .ref qP, .int (nI st)]))] sz) (h : i < 0) : vx_Met l yX4_left wsX4_left ({ frames := 6, cells := 1, slots := 6, locals := 90 } : Room) (va_Pc [.ref qx, .int i] (PX D cI cJ cZ [(qx, .inr (4, [.ref qc, .ref qC, .ref qS, .ref qP, .int (nI st)]))] sz)) (va_Qi (fun (_ : Int32) (_ : Unit) => False) (fun _ _ => True) A) (vx_X (fun _u9 : Unit => True) (fun E (_u9 : Unit) t => E = "java/lang/IndexOutOfBoundsException" ∧ PQ D A [(qx, .inr (4, [.ref qc, .ref qC, .ref qS, .ref qP, .int (nI st)]))] t) A) 1 6 A := by
  refine vx_ofW (cc := cX4_left) (maxL := 2) (ret := (some .int)) (by decide) rfl ?_
  intro p e s m args below meth c s₁ B hml hxt hv
  obtain ⟨rfl, ⟨hsz, ⟨hP, hK, hNB⟩, hD0⟩, hGX⟩ := hv
  have hx := B.exec
  have hb := B.bytes
  have hr := B.returns
  have hts := atoms_spec (ws := wsX4_left) B.pre
  have hown : s.vm.findClass RX4 = some m.cls := findClass_of_methodNamed B.named
  have hlocks := B.notSynchronized
  subst hsz
  rw [← hAe] at hGX
  have hD : va_D A [(qx, .inr (4, [.ref qc, .ref qC, .ref qS, .ref qP, .int (nI st)]))] := by rw [hAe]; exact hD0.self
  have hA : ∀ q : Nat, s.heap.size ≤ q → A q := fun q h => by rw [hAe]; exact Or.inr h
  have hS : va_S A s.heap s.heap [] := va_S.rf
  have hl := lv_entry ([.ref qx, .int i]) (n := 2) (Nat.le_of_ble_eq_true rfl)
  rw [lg_entry_eq]
  generalize (lg_sl ([.ref qx, .int i]) ++ List.replicate (2 - (lg_sl ([.ref qx, .int i])).length) Slot.unset).toArray = ls at hl ⊢
  have hl : lv_has ls 2 [(0, .ref qx), (1, .int i)] := hl
  refine lv_iload_n hx hb dX4_left_0 rfl (lv_at hl 1 rfl) ?_
  refine lv_if_ge (tgt := 14) hx hb dX4_left_1 (by decide) (fun c_1 => ?_) (fun c_1 => ?_)
  · skip
    exact absurd h (Int32.not_lt.mpr c_1)
  · skip
    obtain ⟨sa_9, hstr_9⟩ := hGX.2.1.2.2.2.2.2.2.2.2.1
    have hat_9 : ∀ w ∈ (vx_atS RX4 75 "java/lang/IndexOutOfBoundsException" ["java/lang/RuntimeException", "java/lang/Exception"]).filter goodWord, w ∈ wsX4_left := by decide +kernel
    exact vx_throwS (names := ["java/lang/RuntimeException", "java/lang/Exception"]) hx hb hl0 hown (by decide +kernel) (by decide +kernel) (hts (.classLink RX4 71 "java/lang/IndexOutOfBoundsException") (by decide +kernel)) (hts (.initialized "java/lang/IndexOutOfBoundsException") (by decide +kernel)) hstr_9 (vx_hat (fun w h => hts w (hat_9 w h)) (by decide +kernel) hGX.1.use) (by decide +kernel) hGX.2.2.1 hGX.2.2.2 hS (by rw [hml]; exact hl.1) dX4_left_4 dX4_left_7 dX4_left_8 dX4_left_10 dX4_left_13 (fun x h => (hxt x h).elim) (Nat.le_of_ble_eq_true rfl) (Nat.le_of_ble_eq_true rfl) (Nat.le_of_ble_eq_true rfl) (Nat.le_of_ble_eq_true rfl) hlocks (fun t_9 ha_9 hz_9 hk_9 => ⟨(), trivial, ⟨rfl, zx_P hP hk_9, hD⟩, zx_F hS hz_9 hk_9⟩) hS.2.2 (by decide) (by decide)

set_option maxHeartbeats 4000000 in
set_option maxRecDepth 100000 in
theorem c_X4_reset (l : Launch) (D : va_G) (cI cJ cZ : ClassId) (qx : Nat) (qc : Nat) (qC : Nat) (qS : Nat) (qP : Nat) (qfo : Nat) (qte : Nat) (fd : Nat → Int32) (ts : Nat → Int32) (fc : Nat) (tc : Nat) (st : Nat) (sz : Nat) (A : Nat → Prop) (hAe : A = va_A [(qx, .inr (4, [.ref qc, .ref qC, .ref qS, .ref qP, .int (nI st)])), (qP, .inr (2, [.ref qfo, .ref qte, .int (nI fc), .int (nI tc)])), (qfo, .inl (cZ, 600, .inl fd)), (qte, .inl (cI, 600, .inl ts))] sz) : Met l yX4_reset wsX4_reset ({ frames := 1, cells := 0, slots := 0, locals := 21 } : Room) (va_Pc [.ref qx] (PW D cI cJ cZ [(qx, .inr (4, [.ref qc, .ref qC, .ref qS, .ref qP, .int (nI st)])), (qP, .inr (2, [.ref qfo, .ref qte, .int (nI fc), .int (nI tc)])), (qfo, .inl (cZ, 600, .inl fd)), (qte, .inl (cI, 600, .inl ts))] sz)) (va_Qv (fun _u9 : Unit => True) (fun (_u9 : Unit) t => PQ D A [(qx, .inr (4, [.ref qc, .ref qC, .ref qS, .ref qP, .int (nI st)])), (qP, .inr (2, [.ref qfo, .ref qte, .int (nI 0), .int (nI tc)])), (qfo, .inl (cZ, 600, .inl (clrF fd 600))), (qte, .inl (cI, 600, .inl ts))] t) A) 0 0 A := by
  refine Met.ofW (cc := cX4_reset) (maxL := 1) (ret := none) (by decide) rfl ?_
  intro p e s m args below meth c s₁ B hml hv
  obtain ⟨rfl, hsz, ⟨hP, hK, hNB⟩, hD0⟩ := hv
  have hx := B.exec
  have hb := B.bytes
  have hr := B.returns
  have hts := atoms_spec (ws := wsX4_reset) B.pre
  have hown : s.vm.findClass RX4 = some m.cls := findClass_of_methodNamed B.named
  have hlocks := B.notSynchronized
  have hiX4 : ∀ w ∈ u_ws RX4 TX4 5, w ∈ wsX4_reset := by decide +kernel
  subst hsz
  have hD : va_D A [(qx, .inr (4, [.ref qc, .ref qC, .ref qS, .ref qP, .int (nI st)])), (qP, .inr (2, [.ref qfo, .ref qte, .int (nI fc), .int (nI tc)])), (qfo, .inl (cZ, 600, .inl fd)), (qte, .inl (cI, 600, .inl ts))] := by rw [hAe]; exact hD0.self
  have hA : ∀ q : Nat, s.heap.size ≤ q → A q := fun q h => by rw [hAe]; exact Or.inr h
  have hS : va_S A s.heap s.heap [] := va_S.rf
  have hl := lv_entry ([.ref qx]) (n := 1) (Nat.le_of_ble_eq_true rfl)
  rw [lg_entry_eq]
  generalize (lg_sl ([.ref qx]) ++ List.replicate (1 - (lg_sl ([.ref qx])).length) Slot.unset).toArray = ls at hl ⊢
  have hl : lv_has ls 1 [(0, .ref qx)] := hl
  refine lv_aload_n hx hb dX4_reset_0 rfl (lv_at hl 0 rfl) ?_
  refine va_get (D := D) (ci := 4) (v := .ref qP) (C := RX4) (T := TX4) (N := 5) hx hb hts hiX4 hown hK hP 0 rfl rfl 3 (by decide) (hts (.fieldLink RX4 35 "FaultSearch" "progress" "LFaultSearch$Progress;") (by decide +kernel)) (fun _ h9 => h9) rfl dX4_reset_1 ?_
  have hPc := hP.sub (ws' := [(qP, .inr (2, [.ref qfo, .ref qte, .int (nI fc), .int (nI tc)])), (qfo, .inl (cZ, 600, .inl fd)), (qte, .inl (cI, 600, .inl ts))]) [1, 2, 3] rfl
  have hDc := hD.sub (ws' := [(qP, .inr (2, [.ref qfo, .ref qte, .int (nI fc), .int (nI tc)])), (qfo, .inl (cZ, 600, .inl fd)), (qte, .inl (cI, 600, .inl ts))]) [1, 2, 3] (by decide) rfl
  have hFc := va_free (wc := [(qP, .inr (2, [.ref qfo, .ref qte, .int (nI fc), .int (nI tc)])), (qfo, .inl (cZ, 600, .inl fd)), (qte, .inl (cI, 600, .inl ts))]) hD hS hA [1, 2, 3] rfl
  refine va_callv (va_runV (As := []) (rest := []) ⟨hx, hb, hml, hown, hts⟩ (c_X2_forgetFound l D cI cJ cZ qP qfo qte fd ts fc tc s.heap.size _ rfl) (cwV 0 hts gX4_reset_X2_forgetFound rfl rfl rfl (by decide +kernel) ⟨Nat.le_of_ble_eq_true rfl, Nat.le_of_ble_eq_true rfl⟩) ⟨PW.blind, va_recv hK hPc (ci := 2) (q0 := 0) rfl rfl, fun U hU hW => ⟨rfl, PW.to hPc hK hNB hDc hU hW⟩⟩ rfl rfl hl.1 rfl (lv_room (Nat.le_of_ble_eq_true rfl)) dX4_reset_4 ⟨Nat.le_of_ble_eq_true rfl, Nat.le_of_ble_eq_true rfl⟩) hS (fun q _ h => hFc q h) hFc (fun u_9 t_9 H1_9 locs ht_9 hvm_9 hw_9 hB_9 hz1_9 hk1_9 hS => ?_)
  obtain ⟨hP1_9, hD1_9⟩ := hB_9
  rw [ht_9] at hP1_9
  obtain ⟨hP, hD⟩ := va_join (wr := [(qx, .inr (4, [.ref qc, .ref qC, .ref qS, .ref qP, .int (nI st)]))]) (w1 := [(qP, .inr (2, [.ref qfo, .ref qte, .int (nI 0), .int (nI tc)])), (qfo, .inl (cZ, 600, .inl (clrF fd 600))), (qte, .inl (cI, 600, .inl ts))]) hP hD [1, 2, 3] [0] rfl rfl (by decide) (by decide) hk1_9 hFc hP1_9 hD1_9
  generalize H1_9 = H at hP hS ⊢
  have hP : va_P D vwCl [(qx, .inr (4, [.ref qc, .ref qC, .ref qS, .ref qP, .int (nI st)])), (qP, .inr (2, [.ref qfo, .ref qte, .int (nI 0), .int (nI tc)])), (qfo, .inl (cZ, 600, .inl (clrF fd 600))), (qte, .inl (cI, 600, .inl ts))] H := hP
  have hD : va_D A [(qx, .inr (4, [.ref qc, .ref qC, .ref qS, .ref qP, .int (nI st)])), (qP, .inr (2, [.ref qfo, .ref qte, .int (nI 0), .int (nI tc)])), (qfo, .inl (cZ, 600, .inl (clrF fd 600))), (qte, .inl (cI, 600, .inl ts))] := hD
  exact W.vret hx hb hr (fun t_9 ht_9 hW_9 => ⟨⟨(), rfl, trivial, ⟨by rw [ht_9]; exact hP, hD⟩⟩, hS.F ht_9⟩) hS.2.2 dX4_reset_7

set_option maxHeartbeats 4000000 in
set_option maxRecDepth 100000 in
theorem c_X4_clear (l : Launch) (D : va_G) (cI cJ cZ : ClassId) (qx : Nat) (qc : Nat) (qk : Nat) (q0 : Nat) (q1 : Nat) (qo : Nat) (qv : Nat) (kd : Nat → Int32) (s0 : Nat → Int32) (s1 : Nat → Int32) (on : Nat → Int32) (vl : Nat → Int64) (n : Nat) (ni : Nat) (no : Nat) (qC : Nat) (qpa : Nat) (qnu : Nat) (qfi : Nat) (qme : Nat) (qus : Nat) (pa : Nat → Int32) (nu : Nat → Int32) (fi : Nat → Int32) (me : Nat → Int32) (us : Nat → Int32) (cs : Nat) (qS : Nat) (qse : Nat) (qre : Nat) (qcg : Nat) (se : Nat → Int64) (re : Nat → Int32) (cg : Nat → Int64) (qP : Nat) (qfo : Nat) (qte : Nat) (fd : Nat → Int32) (ts : Nat → Int32) (fc : Nat) (tc : Nat) (st : Nat) (sz : Nat) (A : Nat → Prop) (hAe : A = va_A [(qx, .inr (4, [.ref qc, .ref qC, .ref qS, .ref qP, .int (nI st)])), (qc, .inr (0, [.ref qk, .ref q0, .ref q1, .ref qo, .ref qv, .int (nI n), .int (nI ni), .int (nI no)])), (qk, .inl (cI, 100, .inl kd)), (q0, .inl (cI, 100, .inl s0)), (q1, .inl (cI, 100, .inl s1)), (qo, .inl (cI, 12, .inl on)), (qv, .inl (cJ, 1600, .inr (.inl vl))), (qC, .inr (1, [.ref qpa, .ref qnu, .ref qfi, .ref qme, .ref qus, .int (nI cs)])), (qpa, .inl (cI, 600, .inl pa)), (qnu, .inl (cI, 600, .inl nu)), (qfi, .inl (cI, 600, .inl fi)), (qme, .inl (cI, 600, .inl me)), (qus, .inl (cI, 100, .inl us)), (qS, .inr (3, [.ref qc, .ref qse, .ref qre, .ref qcg])), (qse, .inl (cJ, 1600, .inr (.inl se))), (qre, .inl (cZ, 100, .inl re)), (qcg, .inl (cJ, 100, .inr (.inl cg))), (qP, .inr (2, [.ref qfo, .ref qte, .int (nI fc), .int (nI tc)])), (qfo, .inl (cZ, 600, .inl fd)), (qte, .inl (cI, 600, .inl ts))] sz) : Met l yX4_clear wsX4_clear ({ frames := 2, cells := 0, slots := 0, locals := 41 } : Room) (va_Pc [.ref qx] (PW D cI cJ cZ [(qx, .inr (4, [.ref qc, .ref qC, .ref qS, .ref qP, .int (nI st)])), (qc, .inr (0, [.ref qk, .ref q0, .ref q1, .ref qo, .ref qv, .int (nI n), .int (nI ni), .int (nI no)])), (qk, .inl (cI, 100, .inl kd)), (q0, .inl (cI, 100, .inl s0)), (q1, .inl (cI, 100, .inl s1)), (qo, .inl (cI, 12, .inl on)), (qv, .inl (cJ, 1600, .inr (.inl vl))), (qC, .inr (1, [.ref qpa, .ref qnu, .ref qfi, .ref qme, .ref qus, .int (nI cs)])), (qpa, .inl (cI, 600, .inl pa)), (qnu, .inl (cI, 600, .inl nu)), (qfi, .inl (cI, 600, .inl fi)), (qme, .inl (cI, 600, .inl me)), (qus, .inl (cI, 100, .inl us)), (qS, .inr (3, [.ref qc, .ref qse, .ref qre, .ref qcg])), (qse, .inl (cJ, 1600, .inr (.inl se))), (qre, .inl (cZ, 100, .inl re)), (qcg, .inl (cJ, 100, .inr (.inl cg))), (qP, .inr (2, [.ref qfo, .ref qte, .int (nI fc), .int (nI tc)])), (qfo, .inl (cZ, 600, .inl fd)), (qte, .inl (cI, 600, .inl ts))] sz)) (va_Qv (fun _u9 : Unit => True) (fun (_u9 : Unit) t => PQ D A [(qx, .inr (4, [.ref qc, .ref qC, .ref qS, .ref qP, .int (nI 1)])), (qc, .inr (0, [.ref qk, .ref q0, .ref q1, .ref qo, .ref qv, .int (nI 0), .int (nI 0), .int (nI 0)])), (qk, .inl (cI, 100, .inl kd)), (q0, .inl (cI, 100, .inl s0)), (q1, .inl (cI, 100, .inl s1)), (qo, .inl (cI, 12, .inl on)), (qv, .inl (cJ, 1600, .inr (.inl vl))), (qC, .inr (1, [.ref qpa, .ref qnu, .ref qfi, .ref qme, .ref qus, .int (nI cs)])), (qpa, .inl (cI, 600, .inl pa)), (qnu, .inl (cI, 600, .inl nu)), (qfi, .inl (cI, 600, .inl fi)), (qme, .inl (cI, 600, .inl me)), (qus, .inl (cI, 100, .inl us)), (qS, .inr (3, [.ref qc, .ref qse, .ref qre, .ref qcg])), (qse, .inl (cJ, 1600, .inr (.inl se))), (qre, .inl (cZ, 100, .inl (clrF re 100))), (qcg, .inl (cJ, 100, .inr (.inl cg))), (qP, .inr (2, [.ref qfo, .ref qte, .int (nI 0), .int (nI 0)])), (qfo, .inl (cZ, 600, .inl (clrF fd 600))), (qte, .inl (cI, 600, .inl ts))] t) A) 0 0 A := by
  refine Met.ofW (cc := cX4_clear) (maxL := 1) (ret := none) (by decide) rfl ?_
  intro p e s m args below meth c s₁ B hml hv
  obtain ⟨rfl, hsz, ⟨hP, hK, hNB⟩, hD0⟩ := hv
  have hx := B.exec
  have hb := B.bytes
  have hr := B.returns
  have hts := atoms_spec (ws := wsX4_clear) B.pre
  have hown : s.vm.findClass RX4 = some m.cls := findClass_of_methodNamed B.named
  have hlocks := B.notSynchronized
  have hiX4 : ∀ w ∈ u_ws RX4 TX4 5, w ∈ wsX4_clear := by decide +kernel
  subst hsz
  have hD : va_D A [(qx, .inr (4, [.ref qc, .ref qC, .ref qS, .ref qP, .int (nI st)])), (qc, .inr (0, [.ref qk, .ref q0, .ref q1, .ref qo, .ref qv, .int (nI n), .int (nI ni), .int (nI no)])), (qk, .inl (cI, 100, .inl kd)), (q0, .inl (cI, 100, .inl s0)), (q1, .inl (cI, 100, .inl s1)), (qo, .inl (cI, 12, .inl on)), (qv, .inl (cJ, 1600, .inr (.inl vl))), (qC, .inr (1, [.ref qpa, .ref qnu, .ref qfi, .ref qme, .ref qus, .int (nI cs)])), (qpa, .inl (cI, 600, .inl pa)), (qnu, .inl (cI, 600, .inl nu)), (qfi, .inl (cI, 600, .inl fi)), (qme, .inl (cI, 600, .inl me)), (qus, .inl (cI, 100, .inl us)), (qS, .inr (3, [.ref qc, .ref qse, .ref qre, .ref qcg])), (qse, .inl (cJ, 1600, .inr (.inl se))), (qre, .inl (cZ, 100, .inl re)), (qcg, .inl (cJ, 100, .inr (.inl cg))), (qP, .inr (2, [.ref qfo, .ref qte, .int (nI fc), .int (nI tc)])), (qfo, .inl (cZ, 600, .inl fd)), (qte, .inl (cI, 600, .inl ts))] := by rw [hAe]; exact hD0.self
  have hA : ∀ q : Nat, s.heap.size ≤ q → A q := fun q h => by rw [hAe]; exact Or.inr h
  have hS : va_S A s.heap s.heap [] := va_S.rf
  have hl := lv_entry ([.ref qx]) (n := 1) (Nat.le_of_ble_eq_true rfl)
  rw [lg_entry_eq]
  generalize (lg_sl ([.ref qx]) ++ List.replicate (1 - (lg_sl ([.ref qx])).length) Slot.unset).toArray = ls at hl ⊢
  have hl : lv_has ls 1 [(0, .ref qx)] := hl
  refine lv_aload_n hx hb dX4_clear_0 rfl (lv_at hl 0 rfl) ?_
  refine va_get (D := D) (ci := 4) (v := .ref qc) (C := RX4) (T := TX4) (N := 5) hx hb hts hiX4 hown hK hP 0 rfl rfl 0 (by decide) (hts (.fieldLink RX4 12 "FaultSearch" "chip" "LFaultSearch$Chip;") (by decide +kernel)) (fun _ h9 => h9) rfl dX4_clear_1 ?_
  have hPc := hP.sub (ws' := [(qc, .inr (0, [.ref qk, .ref q0, .ref q1, .ref qo, .ref qv, .int (nI n), .int (nI ni), .int (nI no)])), (qk, .inl (cI, 100, .inl kd)), (q0, .inl (cI, 100, .inl s0)), (q1, .inl (cI, 100, .inl s1)), (qo, .inl (cI, 12, .inl on)), (qv, .inl (cJ, 1600, .inr (.inl vl)))]) [1, 2, 3, 4, 5, 6] rfl
  have hDc := hD.sub (ws' := [(qc, .inr (0, [.ref qk, .ref q0, .ref q1, .ref qo, .ref qv, .int (nI n), .int (nI ni), .int (nI no)])), (qk, .inl (cI, 100, .inl kd)), (q0, .inl (cI, 100, .inl s0)), (q1, .inl (cI, 100, .inl s1)), (qo, .inl (cI, 12, .inl on)), (qv, .inl (cJ, 1600, .inr (.inl vl)))]) [1, 2, 3, 4, 5, 6] (by decide) rfl
  have hFc := va_free (wc := [(qc, .inr (0, [.ref qk, .ref q0, .ref q1, .ref qo, .ref qv, .int (nI n), .int (nI ni), .int (nI no)])), (qk, .inl (cI, 100, .inl kd)), (q0, .inl (cI, 100, .inl s0)), (q1, .inl (cI, 100, .inl s1)), (qo, .inl (cI, 12, .inl on)), (qv, .inl (cJ, 1600, .inr (.inl vl)))]) hD hS hA [1, 2, 3, 4, 5, 6] rfl
  refine va_callv (va_runV (As := []) (rest := []) ⟨hx, hb, hml, hown, hts⟩ (c_X0_empty l D cI cJ cZ qc qk q0 q1 qo qv kd s0 s1 on vl n ni no s.heap.size _ rfl) (cwV 0 hts gX4_clear_X0_empty rfl rfl rfl (by decide +kernel) ⟨Nat.le_of_ble_eq_true rfl, Nat.le_of_ble_eq_true rfl⟩) ⟨PW.blind, va_recv hK hPc (ci := 0) (q0 := 0) rfl rfl, fun U hU hW => ⟨rfl, PW.to hPc hK hNB hDc hU hW⟩⟩ rfl rfl hl.1 rfl (lv_room (Nat.le_of_ble_eq_true rfl)) dX4_clear_4 ⟨Nat.le_of_ble_eq_true rfl, Nat.le_of_ble_eq_true rfl⟩) hS (fun q _ h => hFc q h) hFc (fun u_9 t_9 H1_9 locs ht_9 hvm_9 hw_9 hB_9 hz1_9 hk1_9 hS => ?_)
  obtain ⟨hP1_9, hD1_9⟩ := hB_9
  rw [ht_9] at hP1_9
  obtain ⟨hP, hD⟩ := va_join (wr := [(qx, .inr (4, [.ref qc, .ref qC, .ref qS, .ref qP, .int (nI st)])), (qC, .inr (1, [.ref qpa, .ref qnu, .ref qfi, .ref qme, .ref qus, .int (nI cs)])), (qpa, .inl (cI, 600, .inl pa)), (qnu, .inl (cI, 600, .inl nu)), (qfi, .inl (cI, 600, .inl fi)), (qme, .inl (cI, 600, .inl me)), (qus, .inl (cI, 100, .inl us)), (qS, .inr (3, [.ref qc, .ref qse, .ref qre, .ref qcg])), (qse, .inl (cJ, 1600, .inr (.inl se))), (qre, .inl (cZ, 100, .inl re)), (qcg, .inl (cJ, 100, .inr (.inl cg))), (qP, .inr (2, [.ref qfo, .ref qte, .int (nI fc), .int (nI tc)])), (qfo, .inl (cZ, 600, .inl fd)), (qte, .inl (cI, 600, .inl ts))]) (w1 := [(qc, .inr (0, [.ref qk, .ref q0, .ref q1, .ref qo, .ref qv, .int (nI 0), .int (nI 0), .int (nI 0)])), (qk, .inl (cI, 100, .inl kd)), (q0, .inl (cI, 100, .inl s0)), (q1, .inl (cI, 100, .inl s1)), (qo, .inl (cI, 12, .inl on)), (qv, .inl (cJ, 1600, .inr (.inl vl)))]) hP hD [1, 2, 3, 4, 5, 6] [0, 7, 8, 9, 10, 11, 12, 13, 14, 15, 16, 17, 18, 19] rfl rfl (by decide) (by decide) hk1_9 hFc hP1_9 hD1_9
  have hP := hP.sub (ws' := [(qx, .inr (4, [.ref qc, .ref qC, .ref qS, .ref qP, .int (nI st)])), (qc, .inr (0, [.ref qk, .ref q0, .ref q1, .ref qo, .ref qv, .int (nI 0), .int (nI 0), .int (nI 0)])), (qk, .inl (cI, 100, .inl kd)), (q0, .inl (cI, 100, .inl s0)), (q1, .inl (cI, 100, .inl s1)), (qo, .inl (cI, 12, .inl on)), (qv, .inl (cJ, 1600, .inr (.inl vl))), (qC, .inr (1, [.ref qpa, .ref qnu, .ref qfi, .ref qme, .ref qus, .int (nI cs)])), (qpa, .inl (cI, 600, .inl pa)), (qnu, .inl (cI, 600, .inl nu)), (qfi, .inl (cI, 600, .inl fi)), (qme, .inl (cI, 600, .inl me)), (qus, .inl (cI, 100, .inl us)), (qS, .inr (3, [.ref qc, .ref qse, .ref qre, .ref qcg])), (qse, .inl (cJ, 1600, .inr (.inl se))), (qre, .inl (cZ, 100, .inl re)), (qcg, .inl (cJ, 100, .inr (.inl cg))), (qP, .inr (2, [.ref qfo, .ref qte, .int (nI fc), .int (nI tc)])), (qfo, .inl (cZ, 600, .inl fd)), (qte, .inl (cI, 600, .inl ts))]) [0, 14, 15, 16, 17, 18, 19, 1, 2, 3, 4, 5, 6, 7, 8, 9, 10, 11, 12, 13] rfl
  have hD := hD.sub (ws' := [(qx, .inr (4, [.ref qc, .ref qC, .ref qS, .ref qP, .int (nI st)])), (qc, .inr (0, [.ref qk, .ref q0, .ref q1, .ref qo, .ref qv, .int (nI 0), .int (nI 0), .int (nI 0)])), (qk, .inl (cI, 100, .inl kd)), (q0, .inl (cI, 100, .inl s0)), (q1, .inl (cI, 100, .inl s1)), (qo, .inl (cI, 12, .inl on)), (qv, .inl (cJ, 1600, .inr (.inl vl))), (qC, .inr (1, [.ref qpa, .ref qnu, .ref qfi, .ref qme, .ref qus, .int (nI cs)])), (qpa, .inl (cI, 600, .inl pa)), (qnu, .inl (cI, 600, .inl nu)), (qfi, .inl (cI, 600, .inl fi)), (qme, .inl (cI, 600, .inl me)), (qus, .inl (cI, 100, .inl us)), (qS, .inr (3, [.ref qc, .ref qse, .ref qre, .ref qcg])), (qse, .inl (cJ, 1600, .inr (.inl se))), (qre, .inl (cZ, 100, .inl re)), (qcg, .inl (cJ, 100, .inr (.inl cg))), (qP, .inr (2, [.ref qfo, .ref qte, .int (nI fc), .int (nI tc)])), (qfo, .inl (cZ, 600, .inl fd)), (qte, .inl (cI, 600, .inl ts))]) [0, 14, 15, 16, 17, 18, 19, 1, 2, 3, 4, 5, 6, 7, 8, 9, 10, 11, 12, 13] (by decide) rfl
  generalize H1_9 = H at hP hS ⊢
  have hP : va_P D vwCl [(qx, .inr (4, [.ref qc, .ref qC, .ref qS, .ref qP, .int (nI st)])), (qc, .inr (0, [.ref qk, .ref q0, .ref q1, .ref qo, .ref qv, .int (nI 0), .int (nI 0), .int (nI 0)])), (qk, .inl (cI, 100, .inl kd)), (q0, .inl (cI, 100, .inl s0)), (q1, .inl (cI, 100, .inl s1)), (qo, .inl (cI, 12, .inl on)), (qv, .inl (cJ, 1600, .inr (.inl vl))), (qC, .inr (1, [.ref qpa, .ref qnu, .ref qfi, .ref qme, .ref qus, .int (nI cs)])), (qpa, .inl (cI, 600, .inl pa)), (qnu, .inl (cI, 600, .inl nu)), (qfi, .inl (cI, 600, .inl fi)), (qme, .inl (cI, 600, .inl me)), (qus, .inl (cI, 100, .inl us)), (qS, .inr (3, [.ref qc, .ref qse, .ref qre, .ref qcg])), (qse, .inl (cJ, 1600, .inr (.inl se))), (qre, .inl (cZ, 100, .inl re)), (qcg, .inl (cJ, 100, .inr (.inl cg))), (qP, .inr (2, [.ref qfo, .ref qte, .int (nI fc), .int (nI tc)])), (qfo, .inl (cZ, 600, .inl fd)), (qte, .inl (cI, 600, .inl ts))] H := hP
  have hD : va_D A [(qx, .inr (4, [.ref qc, .ref qC, .ref qS, .ref qP, .int (nI st)])), (qc, .inr (0, [.ref qk, .ref q0, .ref q1, .ref qo, .ref qv, .int (nI 0), .int (nI 0), .int (nI 0)])), (qk, .inl (cI, 100, .inl kd)), (q0, .inl (cI, 100, .inl s0)), (q1, .inl (cI, 100, .inl s1)), (qo, .inl (cI, 12, .inl on)), (qv, .inl (cJ, 1600, .inr (.inl vl))), (qC, .inr (1, [.ref qpa, .ref qnu, .ref qfi, .ref qme, .ref qus, .int (nI cs)])), (qpa, .inl (cI, 600, .inl pa)), (qnu, .inl (cI, 600, .inl nu)), (qfi, .inl (cI, 600, .inl fi)), (qme, .inl (cI, 600, .inl me)), (qus, .inl (cI, 100, .inl us)), (qS, .inr (3, [.ref qc, .ref qse, .ref qre, .ref qcg])), (qse, .inl (cJ, 1600, .inr (.inl se))), (qre, .inl (cZ, 100, .inl re)), (qcg, .inl (cJ, 100, .inr (.inl cg))), (qP, .inr (2, [.ref qfo, .ref qte, .int (nI fc), .int (nI tc)])), (qfo, .inl (cZ, 600, .inl fd)), (qte, .inl (cI, 600, .inl ts))] := hD
  refine lv_aload_n hx hb dX4_clear_7 rfl (lv_at hl 0 rfl) ?_
  have hPc := hP.sub (ws' := [(qx, .inr (4, [.ref qc, .ref qC, .ref qS, .ref qP, .int (nI st)])), (qS, .inr (3, [.ref qc, .ref qse, .ref qre, .ref qcg])), (qse, .inl (cJ, 1600, .inr (.inl se))), (qre, .inl (cZ, 100, .inl re)), (qcg, .inl (cJ, 100, .inr (.inl cg))), (qP, .inr (2, [.ref qfo, .ref qte, .int (nI fc), .int (nI tc)])), (qfo, .inl (cZ, 600, .inl fd)), (qte, .inl (cI, 600, .inl ts))]) [0, 13, 14, 15, 16, 17, 18, 19] rfl
  have hDc := hD.sub (ws' := [(qx, .inr (4, [.ref qc, .ref qC, .ref qS, .ref qP, .int (nI st)])), (qS, .inr (3, [.ref qc, .ref qse, .ref qre, .ref qcg])), (qse, .inl (cJ, 1600, .inr (.inl se))), (qre, .inl (cZ, 100, .inl re)), (qcg, .inl (cJ, 100, .inr (.inl cg))), (qP, .inr (2, [.ref qfo, .ref qte, .int (nI fc), .int (nI tc)])), (qfo, .inl (cZ, 600, .inl fd)), (qte, .inl (cI, 600, .inl ts))]) [0, 13, 14, 15, 16, 17, 18, 19] (by decide) rfl
  have hFc := va_free (wc := [(qx, .inr (4, [.ref qc, .ref qC, .ref qS, .ref qP, .int (nI st)])), (qS, .inr (3, [.ref qc, .ref qse, .ref qre, .ref qcg])), (qse, .inl (cJ, 1600, .inr (.inl se))), (qre, .inl (cZ, 100, .inl re)), (qcg, .inl (cJ, 100, .inr (.inl cg))), (qP, .inr (2, [.ref qfo, .ref qte, .int (nI fc), .int (nI tc)])), (qfo, .inl (cZ, 600, .inl fd)), (qte, .inl (cI, 600, .inl ts))]) hD hS hA [0, 13, 14, 15, 16, 17, 18, 19] rfl
  refine va_callv (va_runV (As := []) (rest := []) ⟨hx, hb, hml, hown, hts⟩ (c_X4_forgetDerived l D cI cJ cZ qx qc qC qS qse qre qcg se re cg qP qfo qte fd ts fc tc st H.size _ rfl) (cwV 0 hts gX4_clear_X4_forgetDerived rfl rfl rfl (by decide +kernel) ⟨Nat.le_of_ble_eq_true rfl, Nat.le_of_ble_eq_true rfl⟩) ⟨PW.blind, va_recv hK hPc (ci := 4) (q0 := 0) rfl rfl, fun U hU hW => ⟨rfl, PW.to hPc hK hNB hDc hU hW⟩⟩ rfl rfl hl.1 rfl (lv_room (Nat.le_of_ble_eq_true rfl)) dX4_clear_8 ⟨Nat.le_of_ble_eq_true rfl, Nat.le_of_ble_eq_true rfl⟩) hS (fun q _ h => hFc q h) hFc (fun u_9 t_9 H1_9 locs ht_9 hvm_9 hw_9 hB_9 hz1_9 hk1_9 hS => ?_)
  obtain ⟨hP1_9, hD1_9⟩ := hB_9
  rw [ht_9] at hP1_9
  obtain ⟨hP, hD⟩ := va_join (wr := [(qc, .inr (0, [.ref qk, .ref q0, .ref q1, .ref qo, .ref qv, .int (nI 0), .int (nI 0), .int (nI 0)])), (qk, .inl (cI, 100, .inl kd)), (q0, .inl (cI, 100, .inl s0)), (q1, .inl (cI, 100, .inl s1)), (qo, .inl (cI, 12, .inl on)), (qv, .inl (cJ, 1600, .inr (.inl vl))), (qC, .inr (1, [.ref qpa, .ref qnu, .ref qfi, .ref qme, .ref qus, .int (nI cs)])), (qpa, .inl (cI, 600, .inl pa)), (qnu, .inl (cI, 600, .inl nu)), (qfi, .inl (cI, 600, .inl fi)), (qme, .inl (cI, 600, .inl me)), (qus, .inl (cI, 100, .inl us))]) (w1 := [(qx, .inr (4, [.ref qc, .ref qC, .ref qS, .ref qP, .int (nI 1)])), (qS, .inr (3, [.ref qc, .ref qse, .ref qre, .ref qcg])), (qse, .inl (cJ, 1600, .inr (.inl se))), (qre, .inl (cZ, 100, .inl (clrF re 100))), (qcg, .inl (cJ, 100, .inr (.inl cg))), (qP, .inr (2, [.ref qfo, .ref qte, .int (nI 0), .int (nI 0)])), (qfo, .inl (cZ, 600, .inl (clrF fd 600))), (qte, .inl (cI, 600, .inl ts))]) hP hD [0, 13, 14, 15, 16, 17, 18, 19] [1, 2, 3, 4, 5, 6, 7, 8, 9, 10, 11, 12] rfl rfl (by decide) (by decide) hk1_9 hFc hP1_9 hD1_9
  have hP := hP.sub (ws' := [(qx, .inr (4, [.ref qc, .ref qC, .ref qS, .ref qP, .int (nI 1)])), (qc, .inr (0, [.ref qk, .ref q0, .ref q1, .ref qo, .ref qv, .int (nI 0), .int (nI 0), .int (nI 0)])), (qk, .inl (cI, 100, .inl kd)), (q0, .inl (cI, 100, .inl s0)), (q1, .inl (cI, 100, .inl s1)), (qo, .inl (cI, 12, .inl on)), (qv, .inl (cJ, 1600, .inr (.inl vl))), (qC, .inr (1, [.ref qpa, .ref qnu, .ref qfi, .ref qme, .ref qus, .int (nI cs)])), (qpa, .inl (cI, 600, .inl pa)), (qnu, .inl (cI, 600, .inl nu)), (qfi, .inl (cI, 600, .inl fi)), (qme, .inl (cI, 600, .inl me)), (qus, .inl (cI, 100, .inl us)), (qS, .inr (3, [.ref qc, .ref qse, .ref qre, .ref qcg])), (qse, .inl (cJ, 1600, .inr (.inl se))), (qre, .inl (cZ, 100, .inl (clrF re 100))), (qcg, .inl (cJ, 100, .inr (.inl cg))), (qP, .inr (2, [.ref qfo, .ref qte, .int (nI 0), .int (nI 0)])), (qfo, .inl (cZ, 600, .inl (clrF fd 600))), (qte, .inl (cI, 600, .inl ts))]) [12, 0, 1, 2, 3, 4, 5, 6, 7, 8, 9, 10, 11, 13, 14, 15, 16, 17, 18, 19] rfl
  have hD := hD.sub (ws' := [(qx, .inr (4, [.ref qc, .ref qC, .ref qS, .ref qP, .int (nI 1)])), (qc, .inr (0, [.ref qk, .ref q0, .ref q1, .ref qo, .ref qv, .int (nI 0), .int (nI 0), .int (nI 0)])), (qk, .inl (cI, 100, .inl kd)), (q0, .inl (cI, 100, .inl s0)), (q1, .inl (cI, 100, .inl s1)), (qo, .inl (cI, 12, .inl on)), (qv, .inl (cJ, 1600, .inr (.inl vl))), (qC, .inr (1, [.ref qpa, .ref qnu, .ref qfi, .ref qme, .ref qus, .int (nI cs)])), (qpa, .inl (cI, 600, .inl pa)), (qnu, .inl (cI, 600, .inl nu)), (qfi, .inl (cI, 600, .inl fi)), (qme, .inl (cI, 600, .inl me)), (qus, .inl (cI, 100, .inl us)), (qS, .inr (3, [.ref qc, .ref qse, .ref qre, .ref qcg])), (qse, .inl (cJ, 1600, .inr (.inl se))), (qre, .inl (cZ, 100, .inl (clrF re 100))), (qcg, .inl (cJ, 100, .inr (.inl cg))), (qP, .inr (2, [.ref qfo, .ref qte, .int (nI 0), .int (nI 0)])), (qfo, .inl (cZ, 600, .inl (clrF fd 600))), (qte, .inl (cI, 600, .inl ts))]) [12, 0, 1, 2, 3, 4, 5, 6, 7, 8, 9, 10, 11, 13, 14, 15, 16, 17, 18, 19] (by decide) rfl
  generalize H1_9 = H at hP hS ⊢
  have hP : va_P D vwCl [(qx, .inr (4, [.ref qc, .ref qC, .ref qS, .ref qP, .int (nI 1)])), (qc, .inr (0, [.ref qk, .ref q0, .ref q1, .ref qo, .ref qv, .int (nI 0), .int (nI 0), .int (nI 0)])), (qk, .inl (cI, 100, .inl kd)), (q0, .inl (cI, 100, .inl s0)), (q1, .inl (cI, 100, .inl s1)), (qo, .inl (cI, 12, .inl on)), (qv, .inl (cJ, 1600, .inr (.inl vl))), (qC, .inr (1, [.ref qpa, .ref qnu, .ref qfi, .ref qme, .ref qus, .int (nI cs)])), (qpa, .inl (cI, 600, .inl pa)), (qnu, .inl (cI, 600, .inl nu)), (qfi, .inl (cI, 600, .inl fi)), (qme, .inl (cI, 600, .inl me)), (qus, .inl (cI, 100, .inl us)), (qS, .inr (3, [.ref qc, .ref qse, .ref qre, .ref qcg])), (qse, .inl (cJ, 1600, .inr (.inl se))), (qre, .inl (cZ, 100, .inl (clrF re 100))), (qcg, .inl (cJ, 100, .inr (.inl cg))), (qP, .inr (2, [.ref qfo, .ref qte, .int (nI 0), .int (nI 0)])), (qfo, .inl (cZ, 600, .inl (clrF fd 600))), (qte, .inl (cI, 600, .inl ts))] H := hP
  have hD : va_D A [(qx, .inr (4, [.ref qc, .ref qC, .ref qS, .ref qP, .int (nI 1)])), (qc, .inr (0, [.ref qk, .ref q0, .ref q1, .ref qo, .ref qv, .int (nI 0), .int (nI 0), .int (nI 0)])), (qk, .inl (cI, 100, .inl kd)), (q0, .inl (cI, 100, .inl s0)), (q1, .inl (cI, 100, .inl s1)), (qo, .inl (cI, 12, .inl on)), (qv, .inl (cJ, 1600, .inr (.inl vl))), (qC, .inr (1, [.ref qpa, .ref qnu, .ref qfi, .ref qme, .ref qus, .int (nI cs)])), (qpa, .inl (cI, 600, .inl pa)), (qnu, .inl (cI, 600, .inl nu)), (qfi, .inl (cI, 600, .inl fi)), (qme, .inl (cI, 600, .inl me)), (qus, .inl (cI, 100, .inl us)), (qS, .inr (3, [.ref qc, .ref qse, .ref qre, .ref qcg])), (qse, .inl (cJ, 1600, .inr (.inl se))), (qre, .inl (cZ, 100, .inl (clrF re 100))), (qcg, .inl (cJ, 100, .inr (.inl cg))), (qP, .inr (2, [.ref qfo, .ref qte, .int (nI 0), .int (nI 0)])), (qfo, .inl (cZ, 600, .inl (clrF fd 600))), (qte, .inl (cI, 600, .inl ts))] := hD
  exact W.vret hx hb hr (fun t_9 ht_9 hW_9 => ⟨⟨(), rfl, trivial, ⟨by rw [ht_9]; exact hP, hD⟩⟩, hS.F ht_9⟩) hS.2.2 dX4_clear_11

set_option maxHeartbeats 4000000 in
set_option maxRecDepth 100000 in
theorem c_X4_input_ok (l : Launch) (D : va_G) (cI cJ cZ : ClassId) (qx : Nat) (qc : Nat) (qk : Nat) (q0 : Nat) (q1 : Nat) (qo : Nat) (qv : Nat) (kd : Nat → Int32) (s0 : Nat → Int32) (s1 : Nat → Int32) (on : Nat → Int32) (vl : Nat → Int64) (n : Nat) (ni : Nat) (no : Nat) (qC : Nat) (qS : Nat) (qse : Nat) (qre : Nat) (qcg : Nat) (se : Nat → Int64) (re : Nat → Int32) (cg : Nat → Int64) (qP : Nat) (qfo : Nat) (qte : Nat) (fd : Nat → Int32) (ts : Nat → Int32) (fc : Nat) (tc : Nat) (st : Nat) (sz : Nat) (A : Nat → Prop) (hAe : A = va_A [(qx, .inr (4, [.ref qc, .ref qC, .ref qS, .ref qP, .int (nI st)])), (qc, .inr (0, [.ref qk, .ref q0, .ref q1, .ref qo, .ref qv, .int (nI n), .int (nI ni), .int (nI no)])), (qk, .inl (cI, 100, .inl kd)), (q0, .inl (cI, 100, .inl s0)), (q1, .inl (cI, 100, .inl s1)), (qo, .inl (cI, 12, .inl on)), (qv, .inl (cJ, 1600, .inr (.inl vl))), (qS, .inr (3, [.ref qc, .ref qse, .ref qre, .ref qcg])), (qse, .inl (cJ, 1600, .inr (.inl se))), (qre, .inl (cZ, 100, .inl re)), (qcg, .inl (cJ, 100, .inr (.inl cg))), (qP, .inr (2, [.ref qfo, .ref qte, .int (nI fc), .int (nI tc)])), (qfo, .inl (cZ, 600, .inl fd)), (qte, .inl (cI, 600, .inl ts))] sz) (h1 : ni < 10) (h2 : n < 100) : Met l yX4_input wsX4_input ({ frames := 3, cells := 0, slots := 0, locals := 63 } : Room) (va_Pc [.ref qx] (PI D cI cJ cZ [(qx, .inr (4, [.ref qc, .ref qC, .ref qS, .ref qP, .int (nI st)])), (qc, .inr (0, [.ref qk, .ref q0, .ref q1, .ref qo, .ref qv, .int (nI n), .int (nI ni), .int (nI no)])), (qk, .inl (cI, 100, .inl kd)), (q0, .inl (cI, 100, .inl s0)), (q1, .inl (cI, 100, .inl s1)), (qo, .inl (cI, 12, .inl on)), (qv, .inl (cJ, 1600, .inr (.inl vl))), (qS, .inr (3, [.ref qc, .ref qse, .ref qre, .ref qcg])), (qse, .inl (cJ, 1600, .inr (.inl se))), (qre, .inl (cZ, 100, .inl re)), (qcg, .inl (cJ, 100, .inr (.inl cg))), (qP, .inr (2, [.ref qfo, .ref qte, .int (nI fc), .int (nI tc)])), (qfo, .inl (cZ, 600, .inl fd)), (qte, .inl (cI, 600, .inl ts))] sz)) (va_Qi (fun (r_9 : Int32) (_u9 : Unit) => r_9 = (nI n)) (fun (_u9 : Unit) t => PQ D A [(qx, .inr (4, [.ref qc, .ref qC, .ref qS, .ref qP, .int (nI 1)])), (qc, .inr (0, [.ref qk, .ref q0, .ref q1, .ref qo, .ref qv, .int (nI (n + 1)), .int (nI (ni + 1)), .int (nI no)])), (qk, .inl (cI, 100, .inl (upd kd n (-1)))), (q0, .inl (cI, 100, .inl s0)), (q1, .inl (cI, 100, .inl s1)), (qo, .inl (cI, 12, .inl on)), (qv, .inl (cJ, 1600, .inr (.inl (addI ni n vl 16)))), (qS, .inr (3, [.ref qc, .ref qse, .ref qre, .ref qcg])), (qse, .inl (cJ, 1600, .inr (.inl se))), (qre, .inl (cZ, 100, .inl (clrF re 100))), (qcg, .inl (cJ, 100, .inr (.inl cg))), (qP, .inr (2, [.ref qfo, .ref qte, .int (nI 0), .int (nI 0)])), (qfo, .inl (cZ, 600, .inl (clrF fd 600))), (qte, .inl (cI, 600, .inl ts))] t) A) 0 0 A := by
  refine Met.ofW (cc := cX4_input) (maxL := 2) (ret := (some .int)) (by decide) rfl ?_
  intro p e s m args below meth c s₁ B hml hv
  obtain ⟨rfl, ⟨hsz, ⟨hP, hK, hNB⟩, hD0⟩, hIW⟩ := hv
  have hx := B.exec
  have hb := B.bytes
  have hr := B.returns
  have hts := atoms_spec (ws := wsX4_input) B.pre
  have hown : s.vm.findClass RX4 = some m.cls := findClass_of_methodNamed B.named
  have hlocks := B.notSynchronized
  have hiX0 : ∀ w ∈ u_ws RX0 TX0 8, w ∈ wsX4_input := by decide +kernel
  have hiX4 : ∀ w ∈ u_ws RX4 TX4 5, w ∈ wsX4_input := by decide +kernel
  subst hsz
  rw [← hAe] at hIW
  have hD : va_D A [(qx, .inr (4, [.ref qc, .ref qC, .ref qS, .ref qP, .int (nI st)])), (qc, .inr (0, [.ref qk, .ref q0, .ref q1, .ref qo, .ref qv, .int (nI n), .int (nI ni), .int (nI no)])), (qk, .inl (cI, 100, .inl kd)), (q0, .inl (cI, 100, .inl s0)), (q1, .inl (cI, 100, .inl s1)), (qo, .inl (cI, 12, .inl on)), (qv, .inl (cJ, 1600, .inr (.inl vl))), (qS, .inr (3, [.ref qc, .ref qse, .ref qre, .ref qcg])), (qse, .inl (cJ, 1600, .inr (.inl se))), (qre, .inl (cZ, 100, .inl re)), (qcg, .inl (cJ, 100, .inr (.inl cg))), (qP, .inr (2, [.ref qfo, .ref qte, .int (nI fc), .int (nI tc)])), (qfo, .inl (cZ, 600, .inl fd)), (qte, .inl (cI, 600, .inl ts))] := by rw [hAe]; exact hD0.self
  have hA : ∀ q : Nat, s.heap.size ≤ q → A q := fun q h => by rw [hAe]; exact Or.inr h
  have hS : va_S A s.heap s.heap [] := va_S.rf
  have hl := lv_entry ([.ref qx]) (n := 2) (Nat.le_of_ble_eq_true rfl)
  rw [lg_entry_eq]
  generalize (lg_sl ([.ref qx]) ++ List.replicate (2 - (lg_sl ([.ref qx])).length) Slot.unset).toArray = ls at hl ⊢
  have hl : lv_has ls 2 [(0, .ref qx)] := hl
  refine lv_aload_n hx hb dX4_input_0 rfl (lv_at hl 0 rfl) ?_
  refine va_get (D := D) (ci := 4) (v := .ref qc) (C := RX4) (T := TX4) (N := 5) hx hb hts hiX4 hown hK hP 0 rfl rfl 0 (by decide) (hts (.fieldLink RX4 12 "FaultSearch" "chip" "LFaultSearch$Chip;") (by decide +kernel)) (fun _ h9 => h9) rfl dX4_input_1 ?_
  refine va_get (D := D) (ci := 0) (v := .int (nI ni)) (C := RX0) (T := TX0) (N := 8) hx hb hts hiX0 hown hK hP 1 rfl rfl 6 (by decide) (hts (.fieldLink RX4 43 "FaultSearch$Chip" "inputs" "I") (by decide +kernel)) (fun _ h9 => h9) rfl dX4_input_4 ?_
  refine lv_bipush (v := (nI 10)) hx hb dX4_input_7 (by decide) ?_
  refine lv_icmp_ge (tgt := 24) hx hb dX4_input_9 (by decide) (fun c_9 => ?_) (fun c_9 => ?_)
  · skip
    rw [zc_le (by omega) (by omega)] at c_9
    exact absurd c_9 (by omega)
  · skip
    rw [zc_le (by omega) (by omega)] at c_9
    refine lv_aload_n hx hb dX4_input_12 rfl (lv_at hl 0 rfl) ?_
    refine va_get (D := D) (ci := 4) (v := .ref qc) (C := RX4) (T := TX4) (N := 5) hx hb hts hiX4 hown hK hP 0 rfl rfl 0 (by decide) (hts (.fieldLink RX4 12 "FaultSearch" "chip" "LFaultSearch$Chip;") (by decide +kernel)) (fun _ h9 => h9) rfl dX4_input_13 ?_
    refine va_get (D := D) (ci := 0) (v := .int (nI n)) (C := RX0) (T := TX0) (N := 8) hx hb hts hiX0 hown hK hP 1 rfl rfl 5 (by decide) (hts (.fieldLink RX4 47 "FaultSearch$Chip" "nets" "I") (by decide +kernel)) (fun _ h9 => h9) rfl dX4_input_16 ?_
    refine lv_bipush (v := (nI 100)) hx hb dX4_input_19 (by decide) ?_
    refine lv_icmp_lt (tgt := 34) hx hb dX4_input_21 (by decide) (fun c_21 => ?_) (fun c_21 => ?_)
    · skip
      rw [zc_lt (by omega) (by omega)] at c_21
      refine lv_aload_n hx hb dX4_input_34 rfl (lv_at hl 0 rfl) ?_
      refine va_get (D := D) (ci := 4) (v := .ref qc) (C := RX4) (T := TX4) (N := 5) hx hb hts hiX4 hown hK hP 0 rfl rfl 0 (by decide) (hts (.fieldLink RX4 12 "FaultSearch" "chip" "LFaultSearch$Chip;") (by decide +kernel)) (fun _ h9 => h9) rfl dX4_input_35 ?_
      have hPc := hP.sub (ws' := [(qc, .inr (0, [.ref qk, .ref q0, .ref q1, .ref qo, .ref qv, .int (nI n), .int (nI ni), .int (nI no)])), (qk, .inl (cI, 100, .inl kd)), (q0, .inl (cI, 100, .inl s0)), (q1, .inl (cI, 100, .inl s1)), (qo, .inl (cI, 12, .inl on)), (qv, .inl (cJ, 1600, .inr (.inl vl)))]) [1, 2, 3, 4, 5, 6] rfl
      have hDc := hD.sub (ws' := [(qc, .inr (0, [.ref qk, .ref q0, .ref q1, .ref qo, .ref qv, .int (nI n), .int (nI ni), .int (nI no)])), (qk, .inl (cI, 100, .inl kd)), (q0, .inl (cI, 100, .inl s0)), (q1, .inl (cI, 100, .inl s1)), (qo, .inl (cI, 12, .inl on)), (qv, .inl (cJ, 1600, .inr (.inl vl)))]) [1, 2, 3, 4, 5, 6] (by decide) rfl
      have hFc := va_free (wc := [(qc, .inr (0, [.ref qk, .ref q0, .ref q1, .ref qo, .ref qv, .int (nI n), .int (nI ni), .int (nI no)])), (qk, .inl (cI, 100, .inl kd)), (q0, .inl (cI, 100, .inl s0)), (q1, .inl (cI, 100, .inl s1)), (qo, .inl (cI, 12, .inl on)), (qv, .inl (cJ, 1600, .inr (.inl vl)))]) hD hS hA [1, 2, 3, 4, 5, 6] rfl
      refine va_calli (va_runV (As := []) (rest := []) ⟨hx, hb, hml, hown, hts⟩ (c_X0_addInput l D cI cJ cZ qc qk q0 q1 qo qv kd s0 s1 on vl n ni no s.heap.size _ rfl h2 h1) (cwV 0 hts gX4_input_X0_addInput rfl rfl rfl (by decide +kernel) ⟨Nat.le_of_ble_eq_true rfl, Nat.le_of_ble_eq_true rfl⟩) ⟨PI.blind, va_recv hK hPc (ci := 0) (q0 := 0) rfl rfl, fun U hU hW => ⟨rfl, PI.to hPc hK hNB hDc hIW hS hFc hU hW⟩⟩ rfl rfl hl.1 rfl (lv_room (Nat.le_of_ble_eq_true rfl)) dX4_input_38 ⟨Nat.le_of_ble_eq_true rfl, Nat.le_of_ble_eq_true rfl⟩) hS (fun q _ h => hFc q h) hFc (fun r_1 u_9 t_9 H1_9 locs ht_9 hvm_9 hw_9 hB_9 hz1_9 hk1_9 hS => ?_)
      obtain ⟨hP1_9, hD1_9⟩ := hB_9
      rw [ht_9] at hP1_9
      obtain rfl := hw_9
      obtain ⟨hP, hD⟩ := va_join (wr := [(qx, .inr (4, [.ref qc, .ref qC, .ref qS, .ref qP, .int (nI st)])), (qS, .inr (3, [.ref qc, .ref qse, .ref qre, .ref qcg])), (qse, .inl (cJ, 1600, .inr (.inl se))), (qre, .inl (cZ, 100, .inl re)), (qcg, .inl (cJ, 100, .inr (.inl cg))), (qP, .inr (2, [.ref qfo, .ref qte, .int (nI fc), .int (nI tc)])), (qfo, .inl (cZ, 600, .inl fd)), (qte, .inl (cI, 600, .inl ts))]) (w1 := [(qc, .inr (0, [.ref qk, .ref q0, .ref q1, .ref qo, .ref qv, .int (nI (n + 1)), .int (nI (ni + 1)), .int (nI no)])), (qk, .inl (cI, 100, .inl (upd kd n (-1)))), (q0, .inl (cI, 100, .inl s0)), (q1, .inl (cI, 100, .inl s1)), (qo, .inl (cI, 12, .inl on)), (qv, .inl (cJ, 1600, .inr (.inl (addI ni n vl 16))))]) hP hD [1, 2, 3, 4, 5, 6] [0, 7, 8, 9, 10, 11, 12, 13] rfl rfl (by decide) (by decide) hk1_9 hFc hP1_9 hD1_9
      have hP := hP.sub (ws' := [(qx, .inr (4, [.ref qc, .ref qC, .ref qS, .ref qP, .int (nI st)])), (qc, .inr (0, [.ref qk, .ref q0, .ref q1, .ref qo, .ref qv, .int (nI (n + 1)), .int (nI (ni + 1)), .int (nI no)])), (qk, .inl (cI, 100, .inl (upd kd n (-1)))), (q0, .inl (cI, 100, .inl s0)), (q1, .inl (cI, 100, .inl s1)), (qo, .inl (cI, 12, .inl on)), (qv, .inl (cJ, 1600, .inr (.inl (addI ni n vl 16)))), (qS, .inr (3, [.ref qc, .ref qse, .ref qre, .ref qcg])), (qse, .inl (cJ, 1600, .inr (.inl se))), (qre, .inl (cZ, 100, .inl re)), (qcg, .inl (cJ, 100, .inr (.inl cg))), (qP, .inr (2, [.ref qfo, .ref qte, .int (nI fc), .int (nI tc)])), (qfo, .inl (cZ, 600, .inl fd)), (qte, .inl (cI, 600, .inl ts))]) [0, 8, 9, 10, 11, 12, 13, 1, 2, 3, 4, 5, 6, 7] rfl
      have hD := hD.sub (ws' := [(qx, .inr (4, [.ref qc, .ref qC, .ref qS, .ref qP, .int (nI st)])), (qc, .inr (0, [.ref qk, .ref q0, .ref q1, .ref qo, .ref qv, .int (nI (n + 1)), .int (nI (ni + 1)), .int (nI no)])), (qk, .inl (cI, 100, .inl (upd kd n (-1)))), (q0, .inl (cI, 100, .inl s0)), (q1, .inl (cI, 100, .inl s1)), (qo, .inl (cI, 12, .inl on)), (qv, .inl (cJ, 1600, .inr (.inl (addI ni n vl 16)))), (qS, .inr (3, [.ref qc, .ref qse, .ref qre, .ref qcg])), (qse, .inl (cJ, 1600, .inr (.inl se))), (qre, .inl (cZ, 100, .inl re)), (qcg, .inl (cJ, 100, .inr (.inl cg))), (qP, .inr (2, [.ref qfo, .ref qte, .int (nI fc), .int (nI tc)])), (qfo, .inl (cZ, 600, .inl fd)), (qte, .inl (cI, 600, .inl ts))]) [0, 8, 9, 10, 11, 12, 13, 1, 2, 3, 4, 5, 6, 7] (by decide) rfl
      generalize H1_9 = H at hP hS ⊢
      have hP : va_P D vwCl [(qx, .inr (4, [.ref qc, .ref qC, .ref qS, .ref qP, .int (nI st)])), (qc, .inr (0, [.ref qk, .ref q0, .ref q1, .ref qo, .ref qv, .int (nI (n + 1)), .int (nI (ni + 1)), .int (nI no)])), (qk, .inl (cI, 100, .inl (upd kd n (-1)))), (q0, .inl (cI, 100, .inl s0)), (q1, .inl (cI, 100, .inl s1)), (qo, .inl (cI, 12, .inl on)), (qv, .inl (cJ, 1600, .inr (.inl (addI ni n vl 16)))), (qS, .inr (3, [.ref qc, .ref qse, .ref qre, .ref qcg])), (qse, .inl (cJ, 1600, .inr (.inl se))), (qre, .inl (cZ, 100, .inl re)), (qcg, .inl (cJ, 100, .inr (.inl cg))), (qP, .inr (2, [.ref qfo, .ref qte, .int (nI fc), .int (nI tc)])), (qfo, .inl (cZ, 600, .inl fd)), (qte, .inl (cI, 600, .inl ts))] H := hP
      have hD : va_D A [(qx, .inr (4, [.ref qc, .ref qC, .ref qS, .ref qP, .int (nI st)])), (qc, .inr (0, [.ref qk, .ref q0, .ref q1, .ref qo, .ref qv, .int (nI (n + 1)), .int (nI (ni + 1)), .int (nI no)])), (qk, .inl (cI, 100, .inl (upd kd n (-1)))), (q0, .inl (cI, 100, .inl s0)), (q1, .inl (cI, 100, .inl s1)), (qo, .inl (cI, 12, .inl on)), (qv, .inl (cJ, 1600, .inr (.inl (addI ni n vl 16)))), (qS, .inr (3, [.ref qc, .ref qse, .ref qre, .ref qcg])), (qse, .inl (cJ, 1600, .inr (.inl se))), (qre, .inl (cZ, 100, .inl re)), (qcg, .inl (cJ, 100, .inr (.inl cg))), (qP, .inr (2, [.ref qfo, .ref qte, .int (nI fc), .int (nI tc)])), (qfo, .inl (cZ, 600, .inl fd)), (qte, .inl (cI, 600, .inl ts))] := hD
      refine lv_istore_n (lv' := [(1, .int (nI n)), (0, .ref qx)]) hx hb dX4_input_41 rfl hl (by decide) rfl (fun ls hl => ?_)
      refine lv_aload_n hx hb dX4_input_42 rfl (lv_at hl 1 rfl) ?_
      have hPc := hP.sub (ws' := [(qx, .inr (4, [.ref qc, .ref qC, .ref qS, .ref qP, .int (nI st)])), (qS, .inr (3, [.ref qc, .ref qse, .ref qre, .ref qcg])), (qse, .inl (cJ, 1600, .inr (.inl se))), (qre, .inl (cZ, 100, .inl re)), (qcg, .inl (cJ, 100, .inr (.inl cg))), (qP, .inr (2, [.ref qfo, .ref qte, .int (nI fc), .int (nI tc)])), (qfo, .inl (cZ, 600, .inl fd)), (qte, .inl (cI, 600, .inl ts))]) [0, 7, 8, 9, 10, 11, 12, 13] rfl
      have hDc := hD.sub (ws' := [(qx, .inr (4, [.ref qc, .ref qC, .ref qS, .ref qP, .int (nI st)])), (qS, .inr (3, [.ref qc, .ref qse, .ref qre, .ref qcg])), (qse, .inl (cJ, 1600, .inr (.inl se))), (qre, .inl (cZ, 100, .inl re)), (qcg, .inl (cJ, 100, .inr (.inl cg))), (qP, .inr (2, [.ref qfo, .ref qte, .int (nI fc), .int (nI tc)])), (qfo, .inl (cZ, 600, .inl fd)), (qte, .inl (cI, 600, .inl ts))]) [0, 7, 8, 9, 10, 11, 12, 13] (by decide) rfl
      have hFc := va_free (wc := [(qx, .inr (4, [.ref qc, .ref qC, .ref qS, .ref qP, .int (nI st)])), (qS, .inr (3, [.ref qc, .ref qse, .ref qre, .ref qcg])), (qse, .inl (cJ, 1600, .inr (.inl se))), (qre, .inl (cZ, 100, .inl re)), (qcg, .inl (cJ, 100, .inr (.inl cg))), (qP, .inr (2, [.ref qfo, .ref qte, .int (nI fc), .int (nI tc)])), (qfo, .inl (cZ, 600, .inl fd)), (qte, .inl (cI, 600, .inl ts))]) hD hS hA [0, 7, 8, 9, 10, 11, 12, 13] rfl
      refine va_callv (va_runV (As := []) (rest := []) ⟨hx, hb, hml, hown, hts⟩ (c_X4_forgetDerived l D cI cJ cZ qx qc qC qS qse qre qcg se re cg qP qfo qte fd ts fc tc st H.size _ rfl) (cwV 0 hts gX4_input_X4_forgetDerived rfl rfl rfl (by decide +kernel) ⟨Nat.le_of_ble_eq_true rfl, Nat.le_of_ble_eq_true rfl⟩) ⟨PW.blind, va_recv hK hPc (ci := 4) (q0 := 0) rfl rfl, fun U hU hW => ⟨rfl, PW.to hPc hK hNB hDc hU hW⟩⟩ rfl rfl hl.1 rfl (lv_room (Nat.le_of_ble_eq_true rfl)) dX4_input_43 ⟨Nat.le_of_ble_eq_true rfl, Nat.le_of_ble_eq_true rfl⟩) hS (fun q _ h => hFc q h) hFc (fun u_9 t_9 H1_9 locs ht_9 hvm_9 hw_9 hB_9 hz1_9 hk1_9 hS => ?_)
      obtain ⟨hP1_9, hD1_9⟩ := hB_9
      rw [ht_9] at hP1_9
      obtain ⟨hP, hD⟩ := va_join (wr := [(qc, .inr (0, [.ref qk, .ref q0, .ref q1, .ref qo, .ref qv, .int (nI (n + 1)), .int (nI (ni + 1)), .int (nI no)])), (qk, .inl (cI, 100, .inl (upd kd n (-1)))), (q0, .inl (cI, 100, .inl s0)), (q1, .inl (cI, 100, .inl s1)), (qo, .inl (cI, 12, .inl on)), (qv, .inl (cJ, 1600, .inr (.inl (addI ni n vl 16))))]) (w1 := [(qx, .inr (4, [.ref qc, .ref qC, .ref qS, .ref qP, .int (nI 1)])), (qS, .inr (3, [.ref qc, .ref qse, .ref qre, .ref qcg])), (qse, .inl (cJ, 1600, .inr (.inl se))), (qre, .inl (cZ, 100, .inl (clrF re 100))), (qcg, .inl (cJ, 100, .inr (.inl cg))), (qP, .inr (2, [.ref qfo, .ref qte, .int (nI 0), .int (nI 0)])), (qfo, .inl (cZ, 600, .inl (clrF fd 600))), (qte, .inl (cI, 600, .inl ts))]) hP hD [0, 7, 8, 9, 10, 11, 12, 13] [1, 2, 3, 4, 5, 6] rfl rfl (by decide) (by decide) hk1_9 hFc hP1_9 hD1_9
      have hP := hP.sub (ws' := [(qx, .inr (4, [.ref qc, .ref qC, .ref qS, .ref qP, .int (nI 1)])), (qc, .inr (0, [.ref qk, .ref q0, .ref q1, .ref qo, .ref qv, .int (nI (n + 1)), .int (nI (ni + 1)), .int (nI no)])), (qk, .inl (cI, 100, .inl (upd kd n (-1)))), (q0, .inl (cI, 100, .inl s0)), (q1, .inl (cI, 100, .inl s1)), (qo, .inl (cI, 12, .inl on)), (qv, .inl (cJ, 1600, .inr (.inl (addI ni n vl 16)))), (qS, .inr (3, [.ref qc, .ref qse, .ref qre, .ref qcg])), (qse, .inl (cJ, 1600, .inr (.inl se))), (qre, .inl (cZ, 100, .inl (clrF re 100))), (qcg, .inl (cJ, 100, .inr (.inl cg))), (qP, .inr (2, [.ref qfo, .ref qte, .int (nI 0), .int (nI 0)])), (qfo, .inl (cZ, 600, .inl (clrF fd 600))), (qte, .inl (cI, 600, .inl ts))]) [6, 0, 1, 2, 3, 4, 5, 7, 8, 9, 10, 11, 12, 13] rfl
      have hD := hD.sub (ws' := [(qx, .inr (4, [.ref qc, .ref qC, .ref qS, .ref qP, .int (nI 1)])), (qc, .inr (0, [.ref qk, .ref q0, .ref q1, .ref qo, .ref qv, .int (nI (n + 1)), .int (nI (ni + 1)), .int (nI no)])), (qk, .inl (cI, 100, .inl (upd kd n (-1)))), (q0, .inl (cI, 100, .inl s0)), (q1, .inl (cI, 100, .inl s1)), (qo, .inl (cI, 12, .inl on)), (qv, .inl (cJ, 1600, .inr (.inl (addI ni n vl 16)))), (qS, .inr (3, [.ref qc, .ref qse, .ref qre, .ref qcg])), (qse, .inl (cJ, 1600, .inr (.inl se))), (qre, .inl (cZ, 100, .inl (clrF re 100))), (qcg, .inl (cJ, 100, .inr (.inl cg))), (qP, .inr (2, [.ref qfo, .ref qte, .int (nI 0), .int (nI 0)])), (qfo, .inl (cZ, 600, .inl (clrF fd 600))), (qte, .inl (cI, 600, .inl ts))]) [6, 0, 1, 2, 3, 4, 5, 7, 8, 9, 10, 11, 12, 13] (by decide) rfl
      generalize H1_9 = H at hP hS ⊢
      have hP : va_P D vwCl [(qx, .inr (4, [.ref qc, .ref qC, .ref qS, .ref qP, .int (nI 1)])), (qc, .inr (0, [.ref qk, .ref q0, .ref q1, .ref qo, .ref qv, .int (nI (n + 1)), .int (nI (ni + 1)), .int (nI no)])), (qk, .inl (cI, 100, .inl (upd kd n (-1)))), (q0, .inl (cI, 100, .inl s0)), (q1, .inl (cI, 100, .inl s1)), (qo, .inl (cI, 12, .inl on)), (qv, .inl (cJ, 1600, .inr (.inl (addI ni n vl 16)))), (qS, .inr (3, [.ref qc, .ref qse, .ref qre, .ref qcg])), (qse, .inl (cJ, 1600, .inr (.inl se))), (qre, .inl (cZ, 100, .inl (clrF re 100))), (qcg, .inl (cJ, 100, .inr (.inl cg))), (qP, .inr (2, [.ref qfo, .ref qte, .int (nI 0), .int (nI 0)])), (qfo, .inl (cZ, 600, .inl (clrF fd 600))), (qte, .inl (cI, 600, .inl ts))] H := hP
      have hD : va_D A [(qx, .inr (4, [.ref qc, .ref qC, .ref qS, .ref qP, .int (nI 1)])), (qc, .inr (0, [.ref qk, .ref q0, .ref q1, .ref qo, .ref qv, .int (nI (n + 1)), .int (nI (ni + 1)), .int (nI no)])), (qk, .inl (cI, 100, .inl (upd kd n (-1)))), (q0, .inl (cI, 100, .inl s0)), (q1, .inl (cI, 100, .inl s1)), (qo, .inl (cI, 12, .inl on)), (qv, .inl (cJ, 1600, .inr (.inl (addI ni n vl 16)))), (qS, .inr (3, [.ref qc, .ref qse, .ref qre, .ref qcg])), (qse, .inl (cJ, 1600, .inr (.inl se))), (qre, .inl (cZ, 100, .inl (clrF re 100))), (qcg, .inl (cJ, 100, .inr (.inl cg))), (qP, .inr (2, [.ref qfo, .ref qte, .int (nI 0), .int (nI 0)])), (qfo, .inl (cZ, 600, .inl (clrF fd 600))), (qte, .inl (cI, 600, .inl ts))] := hD
      refine lv_iload_n hx hb dX4_input_46 rfl (lv_at hl 0 rfl) ?_
      exact W.iret (v := (nI n)) hx hb hr (fun t_9 ht_9 hW_9 => ⟨⟨(nI n), (), rfl, rfl, ⟨by rw [ht_9]; exact hP, hD⟩⟩, hS.F ht_9⟩) hS.2.2 dX4_input_47
    · skip
      rw [zc_lt (by omega) (by omega)] at c_21
      exact absurd h2 c_21

set_option maxHeartbeats 4000000 in
set_option maxRecDepth 100000 in
theorem c_X4_input_no (l : Launch) (hl0 : l.stackTraces = false) (D : va_G) (cI cJ cZ : ClassId) (qx : Nat) (qc : Nat) (qk : Nat) (q0 : Nat) (q1 : Nat) (qo : Nat) (qv : Nat) (kd : Nat → Int32) (s0 : Nat → Int32) (s1 : Nat → Int32) (on : Nat → Int32) (vl : Nat → Int64) (n : Nat) (ni : Nat) (no : Nat) (qC : Nat) (qS : Nat) (qP : Nat) (st : Nat) (sz : Nat) (A : Nat → Prop) (hAe : A = va_A [(qx, .inr (4, [.ref qc, .ref qC, .ref qS, .ref qP, .int (nI st)])), (qc, .inr (0, [.ref qk, .ref q0, .ref q1, .ref qo, .ref qv, .int (nI n), .int (nI ni), .int (nI no)])), (qk, .inl (cI, 100, .inl kd)), (q0, .inl (cI, 100, .inl s0)), (q1, .inl (cI, 100, .inl s1)), (qo, .inl (cI, 12, .inl on)), (qv, .inl (cJ, 1600, .inr (.inl vl)))] sz) (h : ni = 10 ∨ n = 100) (h1 : ni ≤ 10) (h2 : n ≤ 100) : vx_Met l yX4_input wsX4_input ({ frames := 6, cells := 1, slots := 6, locals := 90 } : Room) (va_Pc [.ref qx] (PX D cI cJ cZ [(qx, .inr (4, [.ref qc, .ref qC, .ref qS, .ref qP, .int (nI st)])), (qc, .inr (0, [.ref qk, .ref q0, .ref q1, .ref qo, .ref qv, .int (nI n), .int (nI ni), .int (nI no)])), (qk, .inl (cI, 100, .inl kd)), (q0, .inl (cI, 100, .inl s0)), (q1, .inl (cI, 100, .inl s1)), (qo, .inl (cI, 12, .inl on)), (qv, .inl (cJ, 1600, .inr (.inl vl)))] sz)) (va_Qi (fun (_ : Int32) (_ : Unit) => False) (fun _ _ => True) A) (vx_X (fun _u9 : Unit => True) (fun E (_u9 : Unit) t => E = "java/lang/IllegalStateException" ∧ PQ D A [(qx, .inr (4, [.ref qc, .ref qC, .ref qS, .ref qP, .int (nI st)])), (qc, .inr (0, [.ref qk, .ref q0, .ref q1, .ref qo, .ref qv, .int (nI n), .int (nI ni), .int (nI no)])), (qk, .inl (cI, 100, .inl kd)), (q0, .inl (cI, 100, .inl s0)), (q1, .inl (cI, 100, .inl s1)), (qo, .inl (cI, 12, .inl on)), (qv, .inl (cJ, 1600, .inr (.inl vl)))] t) A) 1 6 A := by
  refine vx_ofW (cc := cX4_input) (maxL := 2) (ret := (some .int)) (by decide) rfl ?_
  intro p e s m args below meth c s₁ B hml hxt hv
  obtain ⟨rfl, ⟨hsz, ⟨hP, hK, hNB⟩, hD0⟩, hGX⟩ := hv
  have hx := B.exec
  have hb := B.bytes
  have hr := B.returns
  have hts := atoms_spec (ws := wsX4_input) B.pre
  have hown : s.vm.findClass RX4 = some m.cls := findClass_of_methodNamed B.named
  have hlocks := B.notSynchronized
  have hiX0 : ∀ w ∈ u_ws RX0 TX0 8, w ∈ wsX4_input := by decide +kernel
  have hiX4 : ∀ w ∈ u_ws RX4 TX4 5, w ∈ wsX4_input := by decide +kernel
  subst hsz
  rw [← hAe] at hGX
  have hD : va_D A [(qx, .inr (4, [.ref qc, .ref qC, .ref qS, .ref qP, .int (nI st)])), (qc, .inr (0, [.ref qk, .ref q0, .ref q1, .ref qo, .ref qv, .int (nI n), .int (nI ni), .int (nI no)])), (qk, .inl (cI, 100, .inl kd)), (q0, .inl (cI, 100, .inl s0)), (q1, .inl (cI, 100, .inl s1)), (qo, .inl (cI, 12, .inl on)), (qv, .inl (cJ, 1600, .inr (.inl vl)))] := by rw [hAe]; exact hD0.self
  have hA : ∀ q : Nat, s.heap.size ≤ q → A q := fun q h => by rw [hAe]; exact Or.inr h
  have hS : va_S A s.heap s.heap [] := va_S.rf
  have hl := lv_entry ([.ref qx]) (n := 2) (Nat.le_of_ble_eq_true rfl)
  rw [lg_entry_eq]
  generalize (lg_sl ([.ref qx]) ++ List.replicate (2 - (lg_sl ([.ref qx])).length) Slot.unset).toArray = ls at hl ⊢
  have hl : lv_has ls 2 [(0, .ref qx)] := hl
  refine lv_aload_n hx hb dX4_input_0 rfl (lv_at hl 0 rfl) ?_
  refine va_get (D := D) (ci := 4) (v := .ref qc) (C := RX4) (T := TX4) (N := 5) hx hb hts hiX4 hown hK hP 0 rfl rfl 0 (by decide) (hts (.fieldLink RX4 12 "FaultSearch" "chip" "LFaultSearch$Chip;") (by decide +kernel)) (fun _ h9 => h9) rfl dX4_input_1 ?_
  refine va_get (D := D) (ci := 0) (v := .int (nI ni)) (C := RX0) (T := TX0) (N := 8) hx hb hts hiX0 hown hK hP 1 rfl rfl 6 (by decide) (hts (.fieldLink RX4 43 "FaultSearch$Chip" "inputs" "I") (by decide +kernel)) (fun _ h9 => h9) rfl dX4_input_4 ?_
  refine lv_bipush (v := (nI 10)) hx hb dX4_input_7 (by decide) ?_
  refine lv_icmp_ge (tgt := 24) hx hb dX4_input_9 (by decide) (fun c_9 => ?_) (fun c_9 => ?_)
  · skip
    rw [zc_le (by omega) (by omega)] at c_9
    obtain ⟨sa_9, hstr_9⟩ := hGX.2.1.1
    have hat_9 : ∀ w ∈ (vx_atS RX4 54 "java/lang/IllegalStateException" ["java/lang/RuntimeException", "java/lang/Exception"]).filter goodWord, w ∈ wsX4_input := by decide +kernel
    exact vx_throwS (names := ["java/lang/RuntimeException", "java/lang/Exception"]) hx hb hl0 hown (by decide +kernel) (by decide +kernel) (hts (.classLink RX4 50 "java/lang/IllegalStateException") (by decide +kernel)) (hts (.initialized "java/lang/IllegalStateException") (by decide +kernel)) hstr_9 (vx_hat (fun w h => hts w (hat_9 w h)) (by decide +kernel) hGX.1.use) (by decide +kernel) hGX.2.2.1 hGX.2.2.2 hS (by rw [hml]; exact hl.1) dX4_input_24 dX4_input_27 dX4_input_28 dX4_input_30 dX4_input_33 (fun x h => (hxt x h).elim) (Nat.le_of_ble_eq_true rfl) (Nat.le_of_ble_eq_true rfl) (Nat.le_of_ble_eq_true rfl) (Nat.le_of_ble_eq_true rfl) hlocks (fun t_9 ha_9 hz_9 hk_9 => ⟨(), trivial, ⟨rfl, zx_P hP hk_9, hD⟩, zx_F hS hz_9 hk_9⟩) hS.2.2 (by decide) (by decide)
  · skip
    rw [zc_le (by omega) (by omega)] at c_9
    refine lv_aload_n hx hb dX4_input_12 rfl (lv_at hl 0 rfl) ?_
    refine va_get (D := D) (ci := 4) (v := .ref qc) (C := RX4) (T := TX4) (N := 5) hx hb hts hiX4 hown hK hP 0 rfl rfl 0 (by decide) (hts (.fieldLink RX4 12 "FaultSearch" "chip" "LFaultSearch$Chip;") (by decide +kernel)) (fun _ h9 => h9) rfl dX4_input_13 ?_
    refine va_get (D := D) (ci := 0) (v := .int (nI n)) (C := RX0) (T := TX0) (N := 8) hx hb hts hiX0 hown hK hP 1 rfl rfl 5 (by decide) (hts (.fieldLink RX4 47 "FaultSearch$Chip" "nets" "I") (by decide +kernel)) (fun _ h9 => h9) rfl dX4_input_16 ?_
    refine lv_bipush (v := (nI 100)) hx hb dX4_input_19 (by decide) ?_
    refine lv_icmp_lt (tgt := 34) hx hb dX4_input_21 (by decide) (fun c_21 => ?_) (fun c_21 => ?_)
    · skip
      rw [zc_lt (by omega) (by omega)] at c_21
      exact absurd h (by omega)
    · skip
      rw [zc_lt (by omega) (by omega)] at c_21
      obtain ⟨sa_9, hstr_9⟩ := hGX.2.1.1
      have hat_9 : ∀ w ∈ (vx_atS RX4 54 "java/lang/IllegalStateException" ["java/lang/RuntimeException", "java/lang/Exception"]).filter goodWord, w ∈ wsX4_input := by decide +kernel
      exact vx_throwS (names := ["java/lang/RuntimeException", "java/lang/Exception"]) hx hb hl0 hown (by decide +kernel) (by decide +kernel) (hts (.classLink RX4 50 "java/lang/IllegalStateException") (by decide +kernel)) (hts (.initialized "java/lang/IllegalStateException") (by decide +kernel)) hstr_9 (vx_hat (fun w h => hts w (hat_9 w h)) (by decide +kernel) hGX.1.use) (by decide +kernel) hGX.2.2.1 hGX.2.2.2 hS (by rw [hml]; exact hl.1) dX4_input_24 dX4_input_27 dX4_input_28 dX4_input_30 dX4_input_33 (fun x h => (hxt x h).elim) (Nat.le_of_ble_eq_true rfl) (Nat.le_of_ble_eq_true rfl) (Nat.le_of_ble_eq_true rfl) (Nat.le_of_ble_eq_true rfl) hlocks (fun t_9 ha_9 hz_9 hk_9 => ⟨(), trivial, ⟨rfl, zx_P hP hk_9, hD⟩, zx_F hS hz_9 hk_9⟩) hS.2.2 (by decide) (by decide)

set_option maxHeartbeats 4000000 in
set_option maxRecDepth 100000 in
theorem c_X4_output_ok (l : Launch) (D : va_G) (cI cJ cZ : ClassId) (qx : Nat) (qc : Nat) (qk : Nat) (q0 : Nat) (q1 : Nat) (qo : Nat) (qv : Nat) (kd : Nat → Int32) (s0 : Nat → Int32) (s1 : Nat → Int32) (on : Nat → Int32) (vl : Nat → Int64) (n : Nat) (ni : Nat) (no : Nat) (qC : Nat) (qS : Nat) (qse : Nat) (qre : Nat) (qcg : Nat) (se : Nat → Int64) (re : Nat → Int32) (cg : Nat → Int64) (qP : Nat) (qfo : Nat) (qte : Nat) (fd : Nat → Int32) (ts : Nat → Int32) (fc : Nat) (tc : Nat) (st : Nat) (a : Nat) (sz : Nat) (A : Nat → Prop) (hAe : A = va_A [(qx, .inr (4, [.ref qc, .ref qC, .ref qS, .ref qP, .int (nI st)])), (qc, .inr (0, [.ref qk, .ref q0, .ref q1, .ref qo, .ref qv, .int (nI n), .int (nI ni), .int (nI no)])), (qk, .inl (cI, 100, .inl kd)), (q0, .inl (cI, 100, .inl s0)), (q1, .inl (cI, 100, .inl s1)), (qo, .inl (cI, 12, .inl on)), (qv, .inl (cJ, 1600, .inr (.inl vl))), (qS, .inr (3, [.ref qc, .ref qse, .ref qre, .ref qcg])), (qse, .inl (cJ, 1600, .inr (.inl se))), (qre, .inl (cZ, 100, .inl re)), (qcg, .inl (cJ, 100, .inr (.inl cg))), (qP, .inr (2, [.ref qfo, .ref qte, .int (nI fc), .int (nI tc)])), (qfo, .inl (cZ, 600, .inl fd)), (qte, .inl (cI, 600, .inl ts))] sz) (hn : n ≤ 100) (h2 : no < 12) (ha : a < n) : Met l yX4_output wsX4_output ({ frames := 2, cells := 0, slots := 0, locals := 42 } : Room) (va_Pc [.ref qx, .int (nI a)] (PW D cI cJ cZ [(qx, .inr (4, [.ref qc, .ref qC, .ref qS, .ref qP, .int (nI st)])), (qc, .inr (0, [.ref qk, .ref q0, .ref q1, .ref qo, .ref qv, .int (nI n), .int (nI ni), .int (nI no)])), (qk, .inl (cI, 100, .inl kd)), (q0, .inl (cI, 100, .inl s0)), (q1, .inl (cI, 100, .inl s1)), (qo, .inl (cI, 12, .inl on)), (qv, .inl (cJ, 1600, .inr (.inl vl))), (qS, .inr (3, [.ref qc, .ref qse, .ref qre, .ref qcg])), (qse, .inl (cJ, 1600, .inr (.inl se))), (qre, .inl (cZ, 100, .inl re)), (qcg, .inl (cJ, 100, .inr (.inl cg))), (qP, .inr (2, [.ref qfo, .ref qte, .int (nI fc), .int (nI tc)])), (qfo, .inl (cZ, 600, .inl fd)), (qte, .inl (cI, 600, .inl ts))] sz)) (va_Qi (fun (r_9 : Int32) (_u9 : Unit) => r_9 = (nI no)) (fun (_u9 : Unit) t => PQ D A [(qx, .inr (4, [.ref qc, .ref qC, .ref qS, .ref qP, .int (nI 1)])), (qc, .inr (0, [.ref qk, .ref q0, .ref q1, .ref qo, .ref qv, .int (nI n), .int (nI ni), .int (nI (no + 1))])), (qk, .inl (cI, 100, .inl kd)), (q0, .inl (cI, 100, .inl s0)), (q1, .inl (cI, 100, .inl s1)), (qo, .inl (cI, 12, .inl (upd on no (nI a)))), (qv, .inl (cJ, 1600, .inr (.inl vl))), (qS, .inr (3, [.ref qc, .ref qse, .ref qre, .ref qcg])), (qse, .inl (cJ, 1600, .inr (.inl se))), (qre, .inl (cZ, 100, .inl (clrF re 100))), (qcg, .inl (cJ, 100, .inr (.inl cg))), (qP, .inr (2, [.ref qfo, .ref qte, .int (nI 0), .int (nI 0)])), (qfo, .inl (cZ, 600, .inl (clrF fd 600))), (qte, .inl (cI, 600, .inl ts))] t) A) 0 0 A := by
  refine Met.ofW (cc := cX4_output) (maxL := 3) (ret := (some .int)) (by decide) rfl ?_
  intro p e s m args below meth c s₁ B hml hv
  obtain ⟨rfl, hsz, ⟨hP, hK, hNB⟩, hD0⟩ := hv
  have hx := B.exec
  have hb := B.bytes
  have hr := B.returns
  have hts := atoms_spec (ws := wsX4_output) B.pre
  have hown : s.vm.findClass RX4 = some m.cls := findClass_of_methodNamed B.named
  have hlocks := B.notSynchronized
  have hiX0 : ∀ w ∈ u_ws RX0 TX0 8, w ∈ wsX4_output := by decide +kernel
  have hiX4 : ∀ w ∈ u_ws RX4 TX4 5, w ∈ wsX4_output := by decide +kernel
  subst hsz
  have hD : va_D A [(qx, .inr (4, [.ref qc, .ref qC, .ref qS, .ref qP, .int (nI st)])), (qc, .inr (0, [.ref qk, .ref q0, .ref q1, .ref qo, .ref qv, .int (nI n), .int (nI ni), .int (nI no)])), (qk, .inl (cI, 100, .inl kd)), (q0, .inl (cI, 100, .inl s0)), (q1, .inl (cI, 100, .inl s1)), (qo, .inl (cI, 12, .inl on)), (qv, .inl (cJ, 1600, .inr (.inl vl))), (qS, .inr (3, [.ref qc, .ref qse, .ref qre, .ref qcg])), (qse, .inl (cJ, 1600, .inr (.inl se))), (qre, .inl (cZ, 100, .inl re)), (qcg, .inl (cJ, 100, .inr (.inl cg))), (qP, .inr (2, [.ref qfo, .ref qte, .int (nI fc), .int (nI tc)])), (qfo, .inl (cZ, 600, .inl fd)), (qte, .inl (cI, 600, .inl ts))] := by rw [hAe]; exact hD0.self
  have hA : ∀ q : Nat, s.heap.size ≤ q → A q := fun q h => by rw [hAe]; exact Or.inr h
  have hS : va_S A s.heap s.heap [] := va_S.rf
  have hl := lv_entry ([.ref qx, .int (nI a)]) (n := 3) (Nat.le_of_ble_eq_true rfl)
  rw [lg_entry_eq]
  generalize (lg_sl ([.ref qx, .int (nI a)]) ++ List.replicate (3 - (lg_sl ([.ref qx, .int (nI a)])).length) Slot.unset).toArray = ls at hl ⊢
  have hl : lv_has ls 3 [(0, .ref qx), (1, .int (nI a))] := hl
  refine lv_aload_n hx hb dX4_output_0 rfl (lv_at hl 0 rfl) ?_
  refine lv_iload_n hx hb dX4_output_1 rfl (lv_at hl 1 rfl) ?_
  have hPc := hP.sub (ws' := [(qx, .inr (4, [.ref qc, .ref qC, .ref qS, .ref qP, .int (nI st)])), (qc, .inr (0, [.ref qk, .ref q0, .ref q1, .ref qo, .ref qv, .int (nI n), .int (nI ni), .int (nI no)])), (qk, .inl (cI, 100, .inl kd)), (q0, .inl (cI, 100, .inl s0)), (q1, .inl (cI, 100, .inl s1)), (qo, .inl (cI, 12, .inl on)), (qv, .inl (cJ, 1600, .inr (.inl vl)))]) [0, 1, 2, 3, 4, 5, 6] rfl
  refine va_csv (va_runV (As := [.int (nI a)]) (rest := []) ⟨hx, hb, hml, hown, hts⟩ (c_X4_requireNet_ok l D cI cJ cZ qx qc qk q0 q1 qo qv kd s0 s1 on vl n ni no qC qS qP st (nI a) (isN_nI (by omega) ha)) (cwV 1 hts gX4_output_X4_requireNet rfl rfl rfl (by decide +kernel) ⟨Nat.le_of_ble_eq_true rfl, Nat.le_of_ble_eq_true rfl⟩) ⟨PR.blind, va_recv hK hPc (ci := 4) (q0 := 0) rfl rfl, fun U hU hW => ⟨rfl, PR.to hPc hK hNB hU hW⟩⟩ rfl rfl hl.1 rfl (lv_room (Nat.le_of_ble_eq_true rfl)) dX4_output_2 ⟨Nat.le_of_ble_eq_true rfl, Nat.le_of_ble_eq_true rfl⟩).run (fun _ => ?_)
  refine lv_aload_n hx hb dX4_output_5 rfl (lv_at hl 0 rfl) ?_
  refine va_get (D := D) (ci := 4) (v := .ref qc) (C := RX4) (T := TX4) (N := 5) hx hb hts hiX4 hown hK hP 0 rfl rfl 0 (by decide) (hts (.fieldLink RX4 12 "FaultSearch" "chip" "LFaultSearch$Chip;") (by decide +kernel)) (fun _ h9 => h9) rfl dX4_output_6 ?_
  refine va_get (D := D) (ci := 0) (v := .int (nI no)) (C := RX0) (T := TX0) (N := 8) hx hb hts hiX0 hown hK hP 1 rfl rfl 7 (by decide) (hts (.fieldLink RX4 91 "FaultSearch$Chip" "outputs" "I") (by decide +kernel)) (fun _ h9 => h9) rfl dX4_output_9 ?_
  refine lv_bipush (v := (nI 12)) hx hb dX4_output_12 (by decide) ?_
  refine lv_icmp_lt (tgt := 27) hx hb dX4_output_14 (by decide) (fun c_14 => ?_) (fun c_14 => ?_)
  · skip
    rw [zc_lt (by omega) (by omega)] at c_14
    refine lv_aload_n hx hb dX4_output_27 rfl (lv_at hl 0 rfl) ?_
    refine va_get (D := D) (ci := 4) (v := .ref qc) (C := RX4) (T := TX4) (N := 5) hx hb hts hiX4 hown hK hP 0 rfl rfl 0 (by decide) (hts (.fieldLink RX4 12 "FaultSearch" "chip" "LFaultSearch$Chip;") (by decide +kernel)) (fun _ h9 => h9) rfl dX4_output_28 ?_
    refine lv_iload_n hx hb dX4_output_31 rfl (lv_at hl 1 rfl) ?_
    have hPc := hP.sub (ws' := [(qc, .inr (0, [.ref qk, .ref q0, .ref q1, .ref qo, .ref qv, .int (nI n), .int (nI ni), .int (nI no)])), (qk, .inl (cI, 100, .inl kd)), (q0, .inl (cI, 100, .inl s0)), (q1, .inl (cI, 100, .inl s1)), (qo, .inl (cI, 12, .inl on)), (qv, .inl (cJ, 1600, .inr (.inl vl)))]) [1, 2, 3, 4, 5, 6] rfl
    have hDc := hD.sub (ws' := [(qc, .inr (0, [.ref qk, .ref q0, .ref q1, .ref qo, .ref qv, .int (nI n), .int (nI ni), .int (nI no)])), (qk, .inl (cI, 100, .inl kd)), (q0, .inl (cI, 100, .inl s0)), (q1, .inl (cI, 100, .inl s1)), (qo, .inl (cI, 12, .inl on)), (qv, .inl (cJ, 1600, .inr (.inl vl)))]) [1, 2, 3, 4, 5, 6] (by decide) rfl
    have hFc := va_free (wc := [(qc, .inr (0, [.ref qk, .ref q0, .ref q1, .ref qo, .ref qv, .int (nI n), .int (nI ni), .int (nI no)])), (qk, .inl (cI, 100, .inl kd)), (q0, .inl (cI, 100, .inl s0)), (q1, .inl (cI, 100, .inl s1)), (qo, .inl (cI, 12, .inl on)), (qv, .inl (cJ, 1600, .inr (.inl vl)))]) hD hS hA [1, 2, 3, 4, 5, 6] rfl
    refine va_calli (va_runV (As := [.int (nI a)]) (rest := []) ⟨hx, hb, hml, hown, hts⟩ (c_X0_addOutput l D cI cJ cZ qc qk q0 q1 qo qv kd s0 s1 on vl n ni no (nI a) s.heap.size _ rfl h2) (cwV 1 hts gX4_output_X0_addOutput rfl rfl rfl (by decide +kernel) ⟨Nat.le_of_ble_eq_true rfl, Nat.le_of_ble_eq_true rfl⟩) ⟨PW.blind, va_recv hK hPc (ci := 0) (q0 := 0) rfl rfl, fun U hU hW => ⟨rfl, PW.to hPc hK hNB hDc hU hW⟩⟩ rfl rfl hl.1 rfl (lv_room (Nat.le_of_ble_eq_true rfl)) dX4_output_32 ⟨Nat.le_of_ble_eq_true rfl, Nat.le_of_ble_eq_true rfl⟩) hS (fun q _ h => hFc q h) hFc (fun r_2 u_9 t_9 H1_9 locs ht_9 hvm_9 hw_9 hB_9 hz1_9 hk1_9 hS => ?_)
    obtain ⟨hP1_9, hD1_9⟩ := hB_9
    rw [ht_9] at hP1_9
    obtain rfl := hw_9
    obtain ⟨hP, hD⟩ := va_join (wr := [(qx, .inr (4, [.ref qc, .ref qC, .ref qS, .ref qP, .int (nI st)])), (qS, .inr (3, [.ref qc, .ref qse, .ref qre, .ref qcg])), (qse, .inl (cJ, 1600, .inr (.inl se))), (qre, .inl (cZ, 100, .inl re)), (qcg, .inl (cJ, 100, .inr (.inl cg))), (qP, .inr (2, [.ref qfo, .ref qte, .int (nI fc), .int (nI tc)])), (qfo, .inl (cZ, 600, .inl fd)), (qte, .inl (cI, 600, .inl ts))]) (w1 := [(qc, .inr (0, [.ref qk, .ref q0, .ref q1, .ref qo, .ref qv, .int (nI n), .int (nI ni), .int (nI (no + 1))])), (qk, .inl (cI, 100, .inl kd)), (q0, .inl (cI, 100, .inl s0)), (q1, .inl (cI, 100, .inl s1)), (qo, .inl (cI, 12, .inl (upd on no (nI a)))), (qv, .inl (cJ, 1600, .inr (.inl vl)))]) hP hD [1, 2, 3, 4, 5, 6] [0, 7, 8, 9, 10, 11, 12, 13] rfl rfl (by decide) (by decide) hk1_9 hFc hP1_9 hD1_9
    have hP := hP.sub (ws' := [(qx, .inr (4, [.ref qc, .ref qC, .ref qS, .ref qP, .int (nI st)])), (qc, .inr (0, [.ref qk, .ref q0, .ref q1, .ref qo, .ref qv, .int (nI n), .int (nI ni), .int (nI (no + 1))])), (qk, .inl (cI, 100, .inl kd)), (q0, .inl (cI, 100, .inl s0)), (q1, .inl (cI, 100, .inl s1)), (qo, .inl (cI, 12, .inl (upd on no (nI a)))), (qv, .inl (cJ, 1600, .inr (.inl vl))), (qS, .inr (3, [.ref qc, .ref qse, .ref qre, .ref qcg])), (qse, .inl (cJ, 1600, .inr (.inl se))), (qre, .inl (cZ, 100, .inl re)), (qcg, .inl (cJ, 100, .inr (.inl cg))), (qP, .inr (2, [.ref qfo, .ref qte, .int (nI fc), .int (nI tc)])), (qfo, .inl (cZ, 600, .inl fd)), (qte, .inl (cI, 600, .inl ts))]) [0, 8, 9, 10, 11, 12, 13, 1, 2, 3, 4, 5, 6, 7] rfl
    have hD := hD.sub (ws' := [(qx, .inr (4, [.ref qc, .ref qC, .ref qS, .ref qP, .int (nI st)])), (qc, .inr (0, [.ref qk, .ref q0, .ref q1, .ref qo, .ref qv, .int (nI n), .int (nI ni), .int (nI (no + 1))])), (qk, .inl (cI, 100, .inl kd)), (q0, .inl (cI, 100, .inl s0)), (q1, .inl (cI, 100, .inl s1)), (qo, .inl (cI, 12, .inl (upd on no (nI a)))), (qv, .inl (cJ, 1600, .inr (.inl vl))), (qS, .inr (3, [.ref qc, .ref qse, .ref qre, .ref qcg])), (qse, .inl (cJ, 1600, .inr (.inl se))), (qre, .inl (cZ, 100, .inl re)), (qcg, .inl (cJ, 100, .inr (.inl cg))), (qP, .inr (2, [.ref qfo, .ref qte, .int (nI fc), .int (nI tc)])), (qfo, .inl (cZ, 600, .inl fd)), (qte, .inl (cI, 600, .inl ts))]) [0, 8, 9, 10, 11, 12, 13, 1, 2, 3, 4, 5, 6, 7] (by decide) rfl
    generalize H1_9 = H at hP hS ⊢
    have hP : va_P D vwCl [(qx, .inr (4, [.ref qc, .ref qC, .ref qS, .ref qP, .int (nI st)])), (qc, .inr (0, [.ref qk, .ref q0, .ref q1, .ref qo, .ref qv, .int (nI n), .int (nI ni), .int (nI (no + 1))])), (qk, .inl (cI, 100, .inl kd)), (q0, .inl (cI, 100, .inl s0)), (q1, .inl (cI, 100, .inl s1)), (qo, .inl (cI, 12, .inl (upd on no (nI a)))), (qv, .inl (cJ, 1600, .inr (.inl vl))), (qS, .inr (3, [.ref qc, .ref qse, .ref qre, .ref qcg])), (qse, .inl (cJ, 1600, .inr (.inl se))), (qre, .inl (cZ, 100, .inl re)), (qcg, .inl (cJ, 100, .inr (.inl cg))), (qP, .inr (2, [.ref qfo, .ref qte, .int (nI fc), .int (nI tc)])), (qfo, .inl (cZ, 600, .inl fd)), (qte, .inl (cI, 600, .inl ts))] H := hP
    have hD : va_D A [(qx, .inr (4, [.ref qc, .ref qC, .ref qS, .ref qP, .int (nI st)])), (qc, .inr (0, [.ref qk, .ref q0, .ref q1, .ref qo, .ref qv, .int (nI n), .int (nI ni), .int (nI (no + 1))])), (qk, .inl (cI, 100, .inl kd)), (q0, .inl (cI, 100, .inl s0)), (q1, .inl (cI, 100, .inl s1)), (qo, .inl (cI, 12, .inl (upd on no (nI a)))), (qv, .inl (cJ, 1600, .inr (.inl vl))), (qS, .inr (3, [.ref qc, .ref qse, .ref qre, .ref qcg])), (qse, .inl (cJ, 1600, .inr (.inl se))), (qre, .inl (cZ, 100, .inl re)), (qcg, .inl (cJ, 100, .inr (.inl cg))), (qP, .inr (2, [.ref qfo, .ref qte, .int (nI fc), .int (nI tc)])), (qfo, .inl (cZ, 600, .inl fd)), (qte, .inl (cI, 600, .inl ts))] := hD
    refine lv_istore_n (lv' := [(2, .int (nI no)), (0, .ref qx), (1, .int (nI a))]) hx hb dX4_output_35 rfl hl (by decide) rfl (fun ls hl => ?_)
    refine lv_aload_n hx hb dX4_output_36 rfl (lv_at hl 1 rfl) ?_
    have hPc := hP.sub (ws' := [(qx, .inr (4, [.ref qc, .ref qC, .ref qS, .ref qP, .int (nI st)])), (qS, .inr (3, [.ref qc, .ref qse, .ref qre, .ref qcg])), (qse, .inl (cJ, 1600, .inr (.inl se))), (qre, .inl (cZ, 100, .inl re)), (qcg, .inl (cJ, 100, .inr (.inl cg))), (qP, .inr (2, [.ref qfo, .ref qte, .int (nI fc), .int (nI tc)])), (qfo, .inl (cZ, 600, .inl fd)), (qte, .inl (cI, 600, .inl ts))]) [0, 7, 8, 9, 10, 11, 12, 13] rfl
    have hDc := hD.sub (ws' := [(qx, .inr (4, [.ref qc, .ref qC, .ref qS, .ref qP, .int (nI st)])), (qS, .inr (3, [.ref qc, .ref qse, .ref qre, .ref qcg])), (qse, .inl (cJ, 1600, .inr (.inl se))), (qre, .inl (cZ, 100, .inl re)), (qcg, .inl (cJ, 100, .inr (.inl cg))), (qP, .inr (2, [.ref qfo, .ref qte, .int (nI fc), .int (nI tc)])), (qfo, .inl (cZ, 600, .inl fd)), (qte, .inl (cI, 600, .inl ts))]) [0, 7, 8, 9, 10, 11, 12, 13] (by decide) rfl
    have hFc := va_free (wc := [(qx, .inr (4, [.ref qc, .ref qC, .ref qS, .ref qP, .int (nI st)])), (qS, .inr (3, [.ref qc, .ref qse, .ref qre, .ref qcg])), (qse, .inl (cJ, 1600, .inr (.inl se))), (qre, .inl (cZ, 100, .inl re)), (qcg, .inl (cJ, 100, .inr (.inl cg))), (qP, .inr (2, [.ref qfo, .ref qte, .int (nI fc), .int (nI tc)])), (qfo, .inl (cZ, 600, .inl fd)), (qte, .inl (cI, 600, .inl ts))]) hD hS hA [0, 7, 8, 9, 10, 11, 12, 13] rfl
    refine va_callv (va_runV (As := []) (rest := []) ⟨hx, hb, hml, hown, hts⟩ (c_X4_forgetDerived l D cI cJ cZ qx qc qC qS qse qre qcg se re cg qP qfo qte fd ts fc tc st H.size _ rfl) (cwV 0 hts gX4_output_X4_forgetDerived rfl rfl rfl (by decide +kernel) ⟨Nat.le_of_ble_eq_true rfl, Nat.le_of_ble_eq_true rfl⟩) ⟨PW.blind, va_recv hK hPc (ci := 4) (q0 := 0) rfl rfl, fun U hU hW => ⟨rfl, PW.to hPc hK hNB hDc hU hW⟩⟩ rfl rfl hl.1 rfl (lv_room (Nat.le_of_ble_eq_true rfl)) dX4_output_37 ⟨Nat.le_of_ble_eq_true rfl, Nat.le_of_ble_eq_true rfl⟩) hS (fun q _ h => hFc q h) hFc (fun u_9 t_9 H1_9 locs ht_9 hvm_9 hw_9 hB_9 hz1_9 hk1_9 hS => ?_)
    obtain ⟨hP1_9, hD1_9⟩ := hB_9
    rw [ht_9] at hP1_9
    obtain ⟨hP, hD⟩ := va_join (wr := [(qc, .inr (0, [.ref qk, .ref q0, .ref q1, .ref qo, .ref qv, .int (nI n), .int (nI ni), .int (nI (no + 1))])), (qk, .inl (cI, 100, .inl kd)), (q0, .inl (cI, 100, .inl s0)), (q1, .inl (cI, 100, .inl s1)), (qo, .inl (cI, 12, .inl (upd on no (nI a)))), (qv, .inl (cJ, 1600, .inr (.inl vl)))]) (w1 := [(qx, .inr (4, [.ref qc, .ref qC, .ref qS, .ref qP, .int (nI 1)])), (qS, .inr (3, [.ref qc, .ref qse, .ref qre, .ref qcg])), (qse, .inl (cJ, 1600, .inr (.inl se))), (qre, .inl (cZ, 100, .inl (clrF re 100))), (qcg, .inl (cJ, 100, .inr (.inl cg))), (qP, .inr (2, [.ref qfo, .ref qte, .int (nI 0), .int (nI 0)])), (qfo, .inl (cZ, 600, .inl (clrF fd 600))), (qte, .inl (cI, 600, .inl ts))]) hP hD [0, 7, 8, 9, 10, 11, 12, 13] [1, 2, 3, 4, 5, 6] rfl rfl (by decide) (by decide) hk1_9 hFc hP1_9 hD1_9
    have hP := hP.sub (ws' := [(qx, .inr (4, [.ref qc, .ref qC, .ref qS, .ref qP, .int (nI 1)])), (qc, .inr (0, [.ref qk, .ref q0, .ref q1, .ref qo, .ref qv, .int (nI n), .int (nI ni), .int (nI (no + 1))])), (qk, .inl (cI, 100, .inl kd)), (q0, .inl (cI, 100, .inl s0)), (q1, .inl (cI, 100, .inl s1)), (qo, .inl (cI, 12, .inl (upd on no (nI a)))), (qv, .inl (cJ, 1600, .inr (.inl vl))), (qS, .inr (3, [.ref qc, .ref qse, .ref qre, .ref qcg])), (qse, .inl (cJ, 1600, .inr (.inl se))), (qre, .inl (cZ, 100, .inl (clrF re 100))), (qcg, .inl (cJ, 100, .inr (.inl cg))), (qP, .inr (2, [.ref qfo, .ref qte, .int (nI 0), .int (nI 0)])), (qfo, .inl (cZ, 600, .inl (clrF fd 600))), (qte, .inl (cI, 600, .inl ts))]) [6, 0, 1, 2, 3, 4, 5, 7, 8, 9, 10, 11, 12, 13] rfl
    have hD := hD.sub (ws' := [(qx, .inr (4, [.ref qc, .ref qC, .ref qS, .ref qP, .int (nI 1)])), (qc, .inr (0, [.ref qk, .ref q0, .ref q1, .ref qo, .ref qv, .int (nI n), .int (nI ni), .int (nI (no + 1))])), (qk, .inl (cI, 100, .inl kd)), (q0, .inl (cI, 100, .inl s0)), (q1, .inl (cI, 100, .inl s1)), (qo, .inl (cI, 12, .inl (upd on no (nI a)))), (qv, .inl (cJ, 1600, .inr (.inl vl))), (qS, .inr (3, [.ref qc, .ref qse, .ref qre, .ref qcg])), (qse, .inl (cJ, 1600, .inr (.inl se))), (qre, .inl (cZ, 100, .inl (clrF re 100))), (qcg, .inl (cJ, 100, .inr (.inl cg))), (qP, .inr (2, [.ref qfo, .ref qte, .int (nI 0), .int (nI 0)])), (qfo, .inl (cZ, 600, .inl (clrF fd 600))), (qte, .inl (cI, 600, .inl ts))]) [6, 0, 1, 2, 3, 4, 5, 7, 8, 9, 10, 11, 12, 13] (by decide) rfl
    generalize H1_9 = H at hP hS ⊢
    have hP : va_P D vwCl [(qx, .inr (4, [.ref qc, .ref qC, .ref qS, .ref qP, .int (nI 1)])), (qc, .inr (0, [.ref qk, .ref q0, .ref q1, .ref qo, .ref qv, .int (nI n), .int (nI ni), .int (nI (no + 1))])), (qk, .inl (cI, 100, .inl kd)), (q0, .inl (cI, 100, .inl s0)), (q1, .inl (cI, 100, .inl s1)), (qo, .inl (cI, 12, .inl (upd on no (nI a)))), (qv, .inl (cJ, 1600, .inr (.inl vl))), (qS, .inr (3, [.ref qc, .ref qse, .ref qre, .ref qcg])), (qse, .inl (cJ, 1600, .inr (.inl se))), (qre, .inl (cZ, 100, .inl (clrF re 100))), (qcg, .inl (cJ, 100, .inr (.inl cg))), (qP, .inr (2, [.ref qfo, .ref qte, .int (nI 0), .int (nI 0)])), (qfo, .inl (cZ, 600, .inl (clrF fd 600))), (qte, .inl (cI, 600, .inl ts))] H := hP
    have hD : va_D A [(qx, .inr (4, [.ref qc, .ref qC, .ref qS, .ref qP, .int (nI 1)])), (qc, .inr (0, [.ref qk, .ref q0, .ref q1, .ref qo, .ref qv, .int (nI n), .int (nI ni), .int (nI (no + 1))])), (qk, .inl (cI, 100, .inl kd)), (q0, .inl (cI, 100, .inl s0)), (q1, .inl (cI, 100, .inl s1)), (qo, .inl (cI, 12, .inl (upd on no (nI a)))), (qv, .inl (cJ, 1600, .inr (.inl vl))), (qS, .inr (3, [.ref qc, .ref qse, .ref qre, .ref qcg])), (qse, .inl (cJ, 1600, .inr (.inl se))), (qre, .inl (cZ, 100, .inl (clrF re 100))), (qcg, .inl (cJ, 100, .inr (.inl cg))), (qP, .inr (2, [.ref qfo, .ref qte, .int (nI 0), .int (nI 0)])), (qfo, .inl (cZ, 600, .inl (clrF fd 600))), (qte, .inl (cI, 600, .inl ts))] := hD
    refine lv_iload_n hx hb dX4_output_40 rfl (lv_at hl 0 rfl) ?_
    exact W.iret (v := (nI no)) hx hb hr (fun t_9 ht_9 hW_9 => ⟨⟨(nI no), (), rfl, rfl, ⟨by rw [ht_9]; exact hP, hD⟩⟩, hS.F ht_9⟩) hS.2.2 dX4_output_41
  · skip
    rw [zc_lt (by omega) (by omega)] at c_14
    exact absurd h2 c_14

set_option maxHeartbeats 4000000 in
set_option maxRecDepth 100000 in
theorem c_X4_output_no1 (l : Launch) (hl0 : l.stackTraces = false) (D : va_G) (cI cJ cZ : ClassId) (qx : Nat) (qc : Nat) (qk : Nat) (q0 : Nat) (q1 : Nat) (qo : Nat) (qv : Nat) (kd : Nat → Int32) (s0 : Nat → Int32) (s1 : Nat → Int32) (on : Nat → Int32) (vl : Nat → Int64) (n : Nat) (ni : Nat) (no : Nat) (qC : Nat) (qS : Nat) (qP : Nat) (st : Nat) (a : Int32) (sz : Nat) (A : Nat → Prop) (hAe : A = va_A [(qx, .inr (4, [.ref qc, .ref qC, .ref qS, .ref qP, .int (nI st)])), (qc, .inr (0, [.ref qk, .ref q0, .ref q1, .ref qo, .ref qv, .int (nI n), .int (nI ni), .int (nI no)])), (qk, .inl (cI, 100, .inl kd)), (q0, .inl (cI, 100, .inl s0)), (q1, .inl (cI, 100, .inl s1)), (qo, .inl (cI, 12, .inl on)), (qv, .inl (cJ, 1600, .inr (.inl vl)))] sz) (h : oCode n no a = 1) : vx_Met l yX4_output wsX4_output ({ frames := 7, cells := 1, slots := 6, locals := 111 } : Room) (va_Pc [.ref qx, .int a] (PX D cI cJ cZ [(qx, .inr (4, [.ref qc, .ref qC, .ref qS, .ref qP, .int (nI st)])), (qc, .inr (0, [.ref qk, .ref q0, .ref q1, .ref qo, .ref qv, .int (nI n), .int (nI ni), .int (nI no)])), (qk, .inl (cI, 100, .inl kd)), (q0, .inl (cI, 100, .inl s0)), (q1, .inl (cI, 100, .inl s1)), (qo, .inl (cI, 12, .inl on)), (qv, .inl (cJ, 1600, .inr (.inl vl)))] sz)) (va_Qi (fun (_ : Int32) (_ : Unit) => False) (fun _ _ => True) A) (vx_X (fun _u9 : Unit => True) (fun E (_u9 : Unit) t => E = "java/lang/IndexOutOfBoundsException" ∧ PQ D A [(qx, .inr (4, [.ref qc, .ref qC, .ref qS, .ref qP, .int (nI st)])), (qc, .inr (0, [.ref qk, .ref q0, .ref q1, .ref qo, .ref qv, .int (nI n), .int (nI ni), .int (nI no)])), (qk, .inl (cI, 100, .inl kd)), (q0, .inl (cI, 100, .inl s0)), (q1, .inl (cI, 100, .inl s1)), (qo, .inl (cI, 12, .inl on)), (qv, .inl (cJ, 1600, .inr (.inl vl)))] t) A) 1 6 A := by
  refine vx_ofW (cc := cX4_output) (maxL := 3) (ret := (some .int)) (by decide) rfl ?_
  intro p e s m args below meth c s₁ B hml hxt hv
  obtain ⟨rfl, ⟨hsz, ⟨hP, hK, hNB⟩, hD0⟩, hGX⟩ := hv
  have hx := B.exec
  have hb := B.bytes
  have hr := B.returns
  have hts := atoms_spec (ws := wsX4_output) B.pre
  have hown : s.vm.findClass RX4 = some m.cls := findClass_of_methodNamed B.named
  have hlocks := B.notSynchronized
  subst hsz
  rw [← hAe] at hGX
  have hD : va_D A [(qx, .inr (4, [.ref qc, .ref qC, .ref qS, .ref qP, .int (nI st)])), (qc, .inr (0, [.ref qk, .ref q0, .ref q1, .ref qo, .ref qv, .int (nI n), .int (nI ni), .int (nI no)])), (qk, .inl (cI, 100, .inl kd)), (q0, .inl (cI, 100, .inl s0)), (q1, .inl (cI, 100, .inl s1)), (qo, .inl (cI, 12, .inl on)), (qv, .inl (cJ, 1600, .inr (.inl vl)))] := by rw [hAe]; exact hD0.self
  have hA : ∀ q : Nat, s.heap.size ≤ q → A q := fun q h => by rw [hAe]; exact Or.inr h
  have hS : va_S A s.heap s.heap [] := va_S.rf
  have hl := lv_entry ([.ref qx, .int a]) (n := 3) (Nat.le_of_ble_eq_true rfl)
  rw [lg_entry_eq]
  generalize (lg_sl ([.ref qx, .int a]) ++ List.replicate (3 - (lg_sl ([.ref qx, .int a])).length) Slot.unset).toArray = ls at hl ⊢
  have hl : lv_has ls 3 [(0, .ref qx), (1, .int a)] := hl
  refine lv_aload_n hx hb dX4_output_0 rfl (lv_at hl 0 rfl) ?_
  refine lv_iload_n hx hb dX4_output_1 rfl (lv_at hl 1 rfl) ?_
  have hPc := hP.sub (ws' := [(qx, .inr (4, [.ref qc, .ref qC, .ref qS, .ref qP, .int (nI st)])), (qc, .inr (0, [.ref qk, .ref q0, .ref q1, .ref qo, .ref qv, .int (nI n), .int (nI ni), .int (nI no)])), (qk, .inl (cI, 100, .inl kd)), (q0, .inl (cI, 100, .inl s0)), (q1, .inl (cI, 100, .inl s1)), (qo, .inl (cI, 12, .inl on)), (qv, .inl (cJ, 1600, .inr (.inl vl)))]) [0, 1, 2, 3, 4, 5, 6] rfl
  have hDc := hD.sub (ws' := [(qx, .inr (4, [.ref qc, .ref qC, .ref qS, .ref qP, .int (nI st)])), (qc, .inr (0, [.ref qk, .ref q0, .ref q1, .ref qo, .ref qv, .int (nI n), .int (nI ni), .int (nI no)])), (qk, .inl (cI, 100, .inl kd)), (q0, .inl (cI, 100, .inl s0)), (q1, .inl (cI, 100, .inl s1)), (qo, .inl (cI, 12, .inl on)), (qv, .inl (cJ, 1600, .inr (.inl vl)))]) [0, 1, 2, 3, 4, 5, 6] (by decide) rfl
  have hFc := va_free (wc := [(qx, .inr (4, [.ref qc, .ref qC, .ref qS, .ref qP, .int (nI st)])), (qc, .inr (0, [.ref qk, .ref q0, .ref q1, .ref qo, .ref qv, .int (nI n), .int (nI ni), .int (nI no)])), (qk, .inl (cI, 100, .inl kd)), (q0, .inl (cI, 100, .inl s0)), (q1, .inl (cI, 100, .inl s1)), (qo, .inl (cI, 12, .inl on)), (qv, .inl (cJ, 1600, .inr (.inl vl)))]) hD hS hA [0, 1, 2, 3, 4, 5, 6] rfl
  refine vx_callv (vx_runV (As := [.int a]) (rest := []) ⟨hx, hb, hml, hown, hts⟩ (c_X4_requireNet_no l hl0 D cI cJ cZ qx qc qk q0 q1 qo qv kd s0 s1 on vl n ni no qC qS qP st a s.heap.size _ rfl (by intro h9; unfold oCode at h; rw [if_neg (fun h8 => h8 h9)] at h; split at h; cases h; cases h)) (cwV 1 hts gX4_output_X4_requireNet rfl rfl rfl (by decide +kernel) ⟨Nat.le_of_ble_eq_true rfl, Nat.le_of_ble_eq_true rfl⟩) ⟨PX.blind, va_recv hK hPc (ci := 4) (q0 := 0) rfl rfl, fun U hU hW => ⟨rfl, PX.to hPc hK hNB hDc hGX hS hFc hU hW⟩⟩ rfl rfl hl.1 rfl (lv_room (Nat.le_of_ble_eq_true rfl)) dX4_output_2 ⟨Nat.le_of_ble_eq_true rfl, Nat.le_of_ble_eq_true rfl⟩) hS (fun q _ h => hFc q h) hFc (fun q _ h => hFc q h) (fun E_9 ce_9 q9_9 u_9 t_9 H1_9 locs ht_9 hvm_9 hw_9 hB_9 hz_9 hk1_9 hS hce_9 hcv_9 hcl_9 => ?_) (fun u_9 t_9 H1_9 locs ht_9 hvm_9 hw_9 hB_9 hz1_9 hk1_9 hS => hw_9.elim)
  obtain ⟨rfl, hP1_9, hD1_9⟩ := hB_9
  rw [ht_9] at hP1_9
  obtain ⟨hP, hD⟩ := va_join (wr := []) (w1 := [(qx, .inr (4, [.ref qc, .ref qC, .ref qS, .ref qP, .int (nI st)])), (qc, .inr (0, [.ref qk, .ref q0, .ref q1, .ref qo, .ref qv, .int (nI n), .int (nI ni), .int (nI no)])), (qk, .inl (cI, 100, .inl kd)), (q0, .inl (cI, 100, .inl s0)), (q1, .inl (cI, 100, .inl s1)), (qo, .inl (cI, 12, .inl on)), (qv, .inl (cJ, 1600, .inr (.inl vl)))]) hP hD [0, 1, 2, 3, 4, 5, 6] [] rfl rfl (by decide) (by decide) hk1_9 hFc hP1_9 hD1_9
  generalize H1_9 = H at hP hS hce_9 ⊢
  have hP : va_P D vwCl [(qx, .inr (4, [.ref qc, .ref qC, .ref qS, .ref qP, .int (nI st)])), (qc, .inr (0, [.ref qk, .ref q0, .ref q1, .ref qo, .ref qv, .int (nI n), .int (nI ni), .int (nI no)])), (qk, .inl (cI, 100, .inl kd)), (q0, .inl (cI, 100, .inl s0)), (q1, .inl (cI, 100, .inl s1)), (qo, .inl (cI, 12, .inl on)), (qv, .inl (cJ, 1600, .inr (.inl vl)))] H := hP
  have hD : va_D A [(qx, .inr (4, [.ref qc, .ref qC, .ref qS, .ref qP, .int (nI st)])), (qc, .inr (0, [.ref qk, .ref q0, .ref q1, .ref qo, .ref qv, .int (nI n), .int (nI ni), .int (nI no)])), (qk, .inl (cI, 100, .inl kd)), (q0, .inl (cI, 100, .inl s0)), (q1, .inl (cI, 100, .inl s1)), (qo, .inl (cI, 12, .inl on)), (qv, .inl (cJ, 1600, .inr (.inl vl)))] := hD
  exact vx_out (fun x h => (hxt x h).elim) hlocks hce_9 hcv_9 hcl_9 (fun t_8 ht_8 ha_8 => ⟨(), trivial, ⟨rfl, by rw [ht_8]; exact hP, hD⟩, hS.F ht_8⟩) hS.2.2 (by decide) (by decide)

set_option maxHeartbeats 4000000 in
set_option maxRecDepth 100000 in
theorem c_X4_output_no2 (l : Launch) (hl0 : l.stackTraces = false) (D : va_G) (cI cJ cZ : ClassId) (qx : Nat) (qc : Nat) (qk : Nat) (q0 : Nat) (q1 : Nat) (qo : Nat) (qv : Nat) (kd : Nat → Int32) (s0 : Nat → Int32) (s1 : Nat → Int32) (on : Nat → Int32) (vl : Nat → Int64) (n : Nat) (ni : Nat) (no : Nat) (qC : Nat) (qS : Nat) (qP : Nat) (st : Nat) (a : Int32) (sz : Nat) (A : Nat → Prop) (hAe : A = va_A [(qx, .inr (4, [.ref qc, .ref qC, .ref qS, .ref qP, .int (nI st)])), (qc, .inr (0, [.ref qk, .ref q0, .ref q1, .ref qo, .ref qv, .int (nI n), .int (nI ni), .int (nI no)])), (qk, .inl (cI, 100, .inl kd)), (q0, .inl (cI, 100, .inl s0)), (q1, .inl (cI, 100, .inl s1)), (qo, .inl (cI, 12, .inl on)), (qv, .inl (cJ, 1600, .inr (.inl vl)))] sz) (h : oCode n no a = 2) : vx_Met l yX4_output wsX4_output ({ frames := 6, cells := 1, slots := 6, locals := 90 } : Room) (va_Pc [.ref qx, .int a] (PX D cI cJ cZ [(qx, .inr (4, [.ref qc, .ref qC, .ref qS, .ref qP, .int (nI st)])), (qc, .inr (0, [.ref qk, .ref q0, .ref q1, .ref qo, .ref qv, .int (nI n), .int (nI ni), .int (nI no)])), (qk, .inl (cI, 100, .inl kd)), (q0, .inl (cI, 100, .inl s0)), (q1, .inl (cI, 100, .inl s1)), (qo, .inl (cI, 12, .inl on)), (qv, .inl (cJ, 1600, .inr (.inl vl)))] sz)) (va_Qi (fun (_ : Int32) (_ : Unit) => False) (fun _ _ => True) A) (vx_X (fun _u9 : Unit => True) (fun E (_u9 : Unit) t => E = "java/lang/IllegalStateException" ∧ PQ D A [(qx, .inr (4, [.ref qc, .ref qC, .ref qS, .ref qP, .int (nI st)])), (qc, .inr (0, [.ref qk, .ref q0, .ref q1, .ref qo, .ref qv, .int (nI n), .int (nI ni), .int (nI no)])), (qk, .inl (cI, 100, .inl kd)), (q0, .inl (cI, 100, .inl s0)), (q1, .inl (cI, 100, .inl s1)), (qo, .inl (cI, 12, .inl on)), (qv, .inl (cJ, 1600, .inr (.inl vl)))] t) A) 1 6 A := by
  refine vx_ofW (cc := cX4_output) (maxL := 3) (ret := (some .int)) (by decide) rfl ?_
  intro p e s m args below meth c s₁ B hml hxt hv
  obtain ⟨rfl, ⟨hsz, ⟨hP, hK, hNB⟩, hD0⟩, hGX⟩ := hv
  have hx := B.exec
  have hb := B.bytes
  have hr := B.returns
  have hts := atoms_spec (ws := wsX4_output) B.pre
  have hown : s.vm.findClass RX4 = some m.cls := findClass_of_methodNamed B.named
  have hlocks := B.notSynchronized
  have hiX0 : ∀ w ∈ u_ws RX0 TX0 8, w ∈ wsX4_output := by decide +kernel
  have hiX4 : ∀ w ∈ u_ws RX4 TX4 5, w ∈ wsX4_output := by decide +kernel
  subst hsz
  rw [← hAe] at hGX
  have hD : va_D A [(qx, .inr (4, [.ref qc, .ref qC, .ref qS, .ref qP, .int (nI st)])), (qc, .inr (0, [.ref qk, .ref q0, .ref q1, .ref qo, .ref qv, .int (nI n), .int (nI ni), .int (nI no)])), (qk, .inl (cI, 100, .inl kd)), (q0, .inl (cI, 100, .inl s0)), (q1, .inl (cI, 100, .inl s1)), (qo, .inl (cI, 12, .inl on)), (qv, .inl (cJ, 1600, .inr (.inl vl)))] := by rw [hAe]; exact hD0.self
  have hA : ∀ q : Nat, s.heap.size ≤ q → A q := fun q h => by rw [hAe]; exact Or.inr h
  have hS : va_S A s.heap s.heap [] := va_S.rf
  have hl := lv_entry ([.ref qx, .int a]) (n := 3) (Nat.le_of_ble_eq_true rfl)
  rw [lg_entry_eq]
  generalize (lg_sl ([.ref qx, .int a]) ++ List.replicate (3 - (lg_sl ([.ref qx, .int a])).length) Slot.unset).toArray = ls at hl ⊢
  have hl : lv_has ls 3 [(0, .ref qx), (1, .int a)] := hl
  have hna : isN n a := (by unfold oCode at h; by_cases h9 : isN n a; exact h9; rw [if_pos h9] at h; cases h)
  have hn12 : no = 12 := by unfold oCode at h; rw [if_neg (fun h8 => h8 hna)] at h; split at h; assumption; cases h
  refine lv_aload_n hx hb dX4_output_0 rfl (lv_at hl 0 rfl) ?_
  refine lv_iload_n hx hb dX4_output_1 rfl (lv_at hl 1 rfl) ?_
  have hPc := hP.sub (ws' := [(qx, .inr (4, [.ref qc, .ref qC, .ref qS, .ref qP, .int (nI st)])), (qc, .inr (0, [.ref qk, .ref q0, .ref q1, .ref qo, .ref qv, .int (nI n), .int (nI ni), .int (nI no)])), (qk, .inl (cI, 100, .inl kd)), (q0, .inl (cI, 100, .inl s0)), (q1, .inl (cI, 100, .inl s1)), (qo, .inl (cI, 12, .inl on)), (qv, .inl (cJ, 1600, .inr (.inl vl)))]) [0, 1, 2, 3, 4, 5, 6] rfl
  refine va_csv (va_runV (As := [.int a]) (rest := []) ⟨hx, hb, hml, hown, hts⟩ (c_X4_requireNet_ok l D cI cJ cZ qx qc qk q0 q1 qo qv kd s0 s1 on vl n ni no qC qS qP st a hna) (cwV 1 hts gX4_output_X4_requireNet rfl rfl rfl (by decide +kernel) ⟨Nat.le_of_ble_eq_true rfl, Nat.le_of_ble_eq_true rfl⟩) ⟨PR.blind, va_recv hK hPc (ci := 4) (q0 := 0) rfl rfl, fun U hU hW => ⟨rfl, PR.to hPc hK hNB hU hW⟩⟩ rfl rfl hl.1 rfl (lv_room (Nat.le_of_ble_eq_true rfl)) dX4_output_2 ⟨Nat.le_of_ble_eq_true rfl, Nat.le_of_ble_eq_true rfl⟩).run (fun _ => ?_)
  refine lv_aload_n hx hb dX4_output_5 rfl (lv_at hl 0 rfl) ?_
  refine va_get (D := D) (ci := 4) (v := .ref qc) (C := RX4) (T := TX4) (N := 5) hx hb hts hiX4 hown hK hP 0 rfl rfl 0 (by decide) (hts (.fieldLink RX4 12 "FaultSearch" "chip" "LFaultSearch$Chip;") (by decide +kernel)) (fun _ h9 => h9) rfl dX4_output_6 ?_
  refine va_get (D := D) (ci := 0) (v := .int (nI no)) (C := RX0) (T := TX0) (N := 8) hx hb hts hiX0 hown hK hP 1 rfl rfl 7 (by decide) (hts (.fieldLink RX4 91 "FaultSearch$Chip" "outputs" "I") (by decide +kernel)) (fun _ h9 => h9) rfl dX4_output_9 ?_
  refine lv_bipush (v := (nI 12)) hx hb dX4_output_12 (by decide) ?_
  refine lv_icmp_lt (tgt := 27) hx hb dX4_output_14 (by decide) (fun c_14 => ?_) (fun c_14 => ?_)
  · skip
    rw [zc_lt (by omega) (by omega)] at c_14
    exact absurd c_14 (by omega)
  · skip
    rw [zc_lt (by omega) (by omega)] at c_14
    obtain ⟨sa_9, hstr_9⟩ := hGX.2.1.2.2.2.2.1
    have hat_9 : ∀ w ∈ (vx_atS RX4 54 "java/lang/IllegalStateException" ["java/lang/RuntimeException", "java/lang/Exception"]).filter goodWord, w ∈ wsX4_output := by decide +kernel
    exact vx_throwS (names := ["java/lang/RuntimeException", "java/lang/Exception"]) hx hb hl0 hown (by decide +kernel) (by decide +kernel) (hts (.classLink RX4 50 "java/lang/IllegalStateException") (by decide +kernel)) (hts (.initialized "java/lang/IllegalStateException") (by decide +kernel)) hstr_9 (vx_hat (fun w h => hts w (hat_9 w h)) (by decide +kernel) hGX.1.use) (by decide +kernel) hGX.2.2.1 hGX.2.2.2 hS (by rw [hml]; exact hl.1) dX4_output_17 dX4_output_20 dX4_output_21 dX4_output_23 dX4_output_26 (fun x h => (hxt x h).elim) (Nat.le_of_ble_eq_true rfl) (Nat.le_of_ble_eq_true rfl) (Nat.le_of_ble_eq_true rfl) (Nat.le_of_ble_eq_true rfl) hlocks (fun t_9 ha_9 hz_9 hk_9 => ⟨(), trivial, ⟨rfl, zx_P hP hk_9, hD⟩, zx_F hS hz_9 hk_9⟩) hS.2.2 (by decide) (by decide)

set_option maxHeartbeats 4000000 in
set_option maxRecDepth 100000 in
theorem c_X4_slow_ok (l : Launch) (D : va_G) (cI cJ cZ : ClassId) (qx : Nat) (qc : Nat) (qk : Nat) (q0 : Nat) (q1 : Nat) (qo : Nat) (qv : Nat) (kd : Nat → Int32) (s0 : Nat → Int32) (s1 : Nat → Int32) (on : Nat → Int32) (vl : Nat → Int64) (n : Nat) (ni : Nat) (no : Nat) (qC : Nat) (qP : Nat) (qS : Nat) (qse : Nat) (qre : Nat) (qcg : Nat) (se : Nat → Int64) (re : Nat → Int32) (cg : Nat → Int64) (st : Nat) (j : Nat) (v : Nat) (wh : Nat) (sz : Nat) (A : Nat → Prop) (hAe : A = va_A [(qx, .inr (4, [.ref qc, .ref qC, .ref qS, .ref qP, .int (nI st)])), (qc, .inr (0, [.ref qk, .ref q0, .ref q1, .ref qo, .ref qv, .int (nI n), .int (nI ni), .int (nI no)])), (qk, .inl (cI, 100, .inl kd)), (q0, .inl (cI, 100, .inl s0)), (q1, .inl (cI, 100, .inl s1)), (qo, .inl (cI, 12, .inl on)), (qv, .inl (cJ, 1600, .inr (.inl vl))), (qS, .inr (3, [.ref qc, .ref qse, .ref qre, .ref qcg])), (qse, .inl (cJ, 1600, .inr (.inl se))), (qre, .inl (cZ, 100, .inl re)), (qcg, .inl (cJ, 100, .inr (.inl cg)))] sz) (hn : n ≤ 100) (hno : no ≤ 12) (hwf : WF n kd s0 s1) (hwo : WO n no on) (hni : ni ≤ 10) (hs : SOK kd s0 s1 on vl n ni no se re) (hj : j < n) (hv : v < 2) (hwh : wh < 2) : Met l yX4_slow wsX4_slow ({ frames := 5, cells := 0, slots := 0, locals := 159 } : Room) (va_Pc [.ref qx, .int (nI j), .int (nI v), .int (nI wh)] (PW D cI cJ cZ [(qx, .inr (4, [.ref qc, .ref qC, .ref qS, .ref qP, .int (nI st)])), (qc, .inr (0, [.ref qk, .ref q0, .ref q1, .ref qo, .ref qv, .int (nI n), .int (nI ni), .int (nI no)])), (qk, .inl (cI, 100, .inl kd)), (q0, .inl (cI, 100, .inl s0)), (q1, .inl (cI, 100, .inl s1)), (qo, .inl (cI, 12, .inl on)), (qv, .inl (cJ, 1600, .inr (.inl vl))), (qS, .inr (3, [.ref qc, .ref qse, .ref qre, .ref qcg])), (qse, .inl (cJ, 1600, .inr (.inl se))), (qre, .inl (cZ, 100, .inl re)), (qcg, .inl (cJ, 100, .inr (.inl cg)))] sz)) (va_Qi (fun (r_9 : Int32) (u9 : (Nat → Int64) × (Nat → Int32) × (Nat → Int64)) => match u9 with | (se2, re2, cg2) => r_9 = (slwF (leastF (fun w => shw kd s0 s1 on vl n ni no (j * 6 + 0 * 2 + (1 - v)) w) (wordsN ni) 0) (leastF (fun w => ((vl (w * 100 + j) ^^^ allW (nI (1 - v))) ^^^ (-1)) &&& maskW ni) (wordsN ni) 0) wh) ∧ SOK kd s0 s1 on vl n ni no se2 re2) (fun (u9 : (Nat → Int64) × (Nat → Int32) × (Nat → Int64)) t => match u9 with | (se2, re2, cg2) => PQ D A [(qx, .inr (4, [.ref qc, .ref qC, .ref qS, .ref qP, .int (nI st)])), (qc, .inr (0, [.ref qk, .ref q0, .ref q1, .ref qo, .ref qv, .int (nI n), .int (nI ni), .int (nI no)])), (qk, .inl (cI, 100, .inl kd)), (q0, .inl (cI, 100, .inl s0)), (q1, .inl (cI, 100, .inl s1)), (qo, .inl (cI, 12, .inl on)), (qv, .inl (cJ, 1600, .inr (.inl vl))), (qS, .inr (3, [.ref qc, .ref qse, .ref qre, .ref qcg])), (qse, .inl (cJ, 1600, .inr (.inl se2))), (qre, .inl (cZ, 100, .inl re2)), (qcg, .inl (cJ, 100, .inr (.inl cg2)))] t) A) 0 0 A := by
  refine Met.ofW (cc := cX4_slow) (maxL := 6) (ret := (some .int)) (by decide) rfl ?_
  intro p e s m args below meth c s₁ B hml hv
  obtain ⟨rfl, hsz, ⟨hP, hK, hNB⟩, hD0⟩ := hv
  have hx := B.exec
  have hb := B.bytes
  have hr := B.returns
  have hts := atoms_spec (ws := wsX4_slow) B.pre
  have hown : s.vm.findClass RX4 = some m.cls := findClass_of_methodNamed B.named
  have hlocks := B.notSynchronized
  have hiX4 : ∀ w ∈ u_ws RX4 TX4 5, w ∈ wsX4_slow := by decide +kernel
  subst hsz
  have hD : va_D A [(qx, .inr (4, [.ref qc, .ref qC, .ref qS, .ref qP, .int (nI st)])), (qc, .inr (0, [.ref qk, .ref q0, .ref q1, .ref qo, .ref qv, .int (nI n), .int (nI ni), .int (nI no)])), (qk, .inl (cI, 100, .inl kd)), (q0, .inl (cI, 100, .inl s0)), (q1, .inl (cI, 100, .inl s1)), (qo, .inl (cI, 12, .inl on)), (qv, .inl (cJ, 1600, .inr (.inl vl))), (qS, .inr (3, [.ref qc, .ref qse, .ref qre, .ref qcg])), (qse, .inl (cJ, 1600, .inr (.inl se))), (qre, .inl (cZ, 100, .inl re)), (qcg, .inl (cJ, 100, .inr (.inl cg)))] := by rw [hAe]; exact hD0.self
  have hA : ∀ q : Nat, s.heap.size ≤ q → A q := fun q h => by rw [hAe]; exact Or.inr h
  have hS : va_S A s.heap s.heap [] := va_S.rf
  have hl := lv_entry ([.ref qx, .int (nI j), .int (nI v), .int (nI wh)]) (n := 6) (Nat.le_of_ble_eq_true rfl)
  rw [lg_entry_eq]
  generalize (lg_sl ([.ref qx, .int (nI j), .int (nI v), .int (nI wh)]) ++ List.replicate (6 - (lg_sl ([.ref qx, .int (nI j), .int (nI v), .int (nI wh)])).length) Slot.unset).toArray = ls at hl ⊢
  have hl : lv_has ls 6 [(0, .ref qx), (1, .int (nI j)), (2, .int (nI v)), (3, .int (nI wh))] := hl
  refine lv_aload_n hx hb dX4_slow_0 rfl (lv_at hl 0 rfl) ?_
  refine lv_iload_n hx hb dX4_slow_1 rfl (lv_at hl 1 rfl) ?_
  have hPc := hP.sub (ws' := [(qx, .inr (4, [.ref qc, .ref qC, .ref qS, .ref qP, .int (nI st)])), (qc, .inr (0, [.ref qk, .ref q0, .ref q1, .ref qo, .ref qv, .int (nI n), .int (nI ni), .int (nI no)])), (qk, .inl (cI, 100, .inl kd)), (q0, .inl (cI, 100, .inl s0)), (q1, .inl (cI, 100, .inl s1)), (qo, .inl (cI, 12, .inl on)), (qv, .inl (cJ, 1600, .inr (.inl vl)))]) [0, 1, 2, 3, 4, 5, 6] rfl
  refine va_csv (va_runV (As := [.int (nI j)]) (rest := []) ⟨hx, hb, hml, hown, hts⟩ (c_X4_requireNet_ok l D cI cJ cZ qx qc qk q0 q1 qo qv kd s0 s1 on vl n ni no qC qS qP st (nI j) (isN_nI (by omega) hj)) (cwV 1 hts gX4_slow_X4_requireNet rfl rfl rfl (by decide +kernel) ⟨Nat.le_of_ble_eq_true rfl, Nat.le_of_ble_eq_true rfl⟩) ⟨PR.blind, va_recv hK hPc (ci := 4) (q0 := 0) rfl rfl, fun U hU hW => ⟨rfl, PR.to hPc hK hNB hU hW⟩⟩ rfl rfl hl.1 rfl (lv_room (Nat.le_of_ble_eq_true rfl)) dX4_slow_2 ⟨Nat.le_of_ble_eq_true rfl, Nat.le_of_ble_eq_true rfl⟩).run (fun _ => ?_)
  refine lv_iload_n hx hb dX4_slow_5 rfl (lv_at hl 2 rfl) ?_
  refine va_csv (va_runS (As := [.int (nI v)]) (rest := []) ⟨hx, hb, hml, hown, hts⟩ (c_X4_requireBit_ok l v (by omega)) (va_cwS 1 hts gX4_slow_X4_requireBit rfl rfl rfl (by decide +kernel) ⟨Nat.le_of_ble_eq_true rfl, Nat.le_of_ble_eq_true rfl⟩) ⟨zt_blind, fun U hU hW => ⟨rfl, trivial⟩⟩ rfl rfl hl.1 rfl (lv_room (Nat.le_of_ble_eq_true rfl)) dX4_slow_6 ⟨Nat.le_of_ble_eq_true rfl, Nat.le_of_ble_eq_true rfl⟩).run (fun _ => ?_)
  refine lv_iload_n hx hb dX4_slow_9 rfl (lv_at hl 3 rfl) ?_
  refine va_csv (va_runS (As := [.int (nI wh)]) (rest := []) ⟨hx, hb, hml, hown, hts⟩ (c_X4_requireBit_ok l wh (by omega)) (va_cwS 1 hts gX4_slow_X4_requireBit rfl rfl rfl (by decide +kernel) ⟨Nat.le_of_ble_eq_true rfl, Nat.le_of_ble_eq_true rfl⟩) ⟨zt_blind, fun U hU hW => ⟨rfl, trivial⟩⟩ rfl rfl hl.1 rfl (lv_room (Nat.le_of_ble_eq_true rfl)) dX4_slow_10 ⟨Nat.le_of_ble_eq_true rfl, Nat.le_of_ble_eq_true rfl⟩).run (fun _ => ?_)
  refine lv_aload_n hx hb dX4_slow_13 rfl (lv_at hl 0 rfl) ?_
  refine va_get (D := D) (ci := 4) (v := .ref qS) (C := RX4) (T := TX4) (N := 5) hx hb hts hiX4 hown hK hP 0 rfl rfl 2 (by decide) (hts (.fieldLink RX4 28 "FaultSearch" "sight" "LFaultSearch$Sight;") (by decide +kernel)) (fun _ h9 => h9) rfl dX4_slow_14 ?_
  refine lv_iload_n hx hb dX4_slow_17 rfl (lv_at hl 1 rfl) ?_
  refine lv_iconst (v := (-1)) hx hb dX4_slow_18 (by decide) ?_
  refine lv_iconst (v := (nI 1)) hx hb dX4_slow_19 (by decide) ?_
  refine lv_iload_n hx hb dX4_slow_20 rfl (lv_at hl 2 rfl) ?_
  refine lv_isub hx hb dX4_slow_21 ?_
  refine zz_i (z := (nI (1 - v))) (pk_sub (by omega)) ?_
  refine vp_callSi (va_runS (As := [.int (nI j), .int (-1), .int (nI (1 - v))]) (rest := [.ref qS]) ⟨hx, hb, hml, hown, hts⟩ (c_X4_faultOf l j (-1) 0 (1 - v) (by decide)) (va_cwS 3 hts gX4_slow_X4_faultOf rfl rfl rfl (by decide +kernel) ⟨Nat.le_of_ble_eq_true rfl, Nat.le_of_ble_eq_true rfl⟩) ⟨zt_blind, fun U hU hW => ⟨rfl, trivial⟩⟩ rfl rfl hl.1 rfl (lv_room (Nat.le_of_ble_eq_true rfl)) dX4_slow_22 ⟨Nat.le_of_ble_eq_true rfl, Nat.le_of_ble_eq_true rfl⟩).run (fun r_4 hrr_4 => ?_)
  subst hrr_4
  have hPc := hP.sub (ws' := [(qS, .inr (3, [.ref qc, .ref qse, .ref qre, .ref qcg])), (qse, .inl (cJ, 1600, .inr (.inl se))), (qre, .inl (cZ, 100, .inl re)), (qcg, .inl (cJ, 100, .inr (.inl cg))), (qc, .inr (0, [.ref qk, .ref q0, .ref q1, .ref qo, .ref qv, .int (nI n), .int (nI ni), .int (nI no)])), (qk, .inl (cI, 100, .inl kd)), (q0, .inl (cI, 100, .inl s0)), (q1, .inl (cI, 100, .inl s1)), (qo, .inl (cI, 12, .inl on)), (qv, .inl (cJ, 1600, .inr (.inl vl)))]) [7, 8, 9, 10, 1, 2, 3, 4, 5, 6] rfl
  have hDc := hD.sub (ws' := [(qS, .inr (3, [.ref qc, .ref qse, .ref qre, .ref qcg])), (qse, .inl (cJ, 1600, .inr (.inl se))), (qre, .inl (cZ, 100, .inl re)), (qcg, .inl (cJ, 100, .inr (.inl cg))), (qc, .inr (0, [.ref qk, .ref q0, .ref q1, .ref qo, .ref qv, .int (nI n), .int (nI ni), .int (nI no)])), (qk, .inl (cI, 100, .inl kd)), (q0, .inl (cI, 100, .inl s0)), (q1, .inl (cI, 100, .inl s1)), (qo, .inl (cI, 12, .inl on)), (qv, .inl (cJ, 1600, .inr (.inl vl)))]) [7, 8, 9, 10, 1, 2, 3, 4, 5, 6] (by decide) rfl
  have hFc := va_free (wc := [(qS, .inr (3, [.ref qc, .ref qse, .ref qre, .ref qcg])), (qse, .inl (cJ, 1600, .inr (.inl se))), (qre, .inl (cZ, 100, .inl re)), (qcg, .inl (cJ, 100, .inr (.inl cg))), (qc, .inr (0, [.ref qk, .ref q0, .ref q1, .ref qo, .ref qv, .int (nI n), .int (nI ni), .int (nI no)])), (qk, .inl (cI, 100, .inl kd)), (q0, .inl (cI, 100, .inl s0)), (q1, .inl (cI, 100, .inl s1)), (qo, .inl (cI, 12, .inl on)), (qv, .inl (cJ, 1600, .inr (.inl vl)))]) hD hS hA [7, 8, 9, 10, 1, 2, 3, 4, 5, 6] rfl
  refine va_calli (va_runV (As := [.int (nI (j * 6 + 0 * 2 + (1 - v)))]) (rest := []) ⟨hx, hb, hml, hown, hts⟩ (c_X3_least l D cI cJ cZ qc qk q0 q1 qo qv kd s0 s1 on vl n ni no qS qse qre qcg se re cg (j * 6 + 0 * 2 + (1 - v)) s.heap.size _ rfl (by omega) (by omega) hwf hwo (by omega) (by omega) (Or.inl (by omega)) hs) (cwV 1 hts gX4_slow_X3_least rfl rfl rfl (by decide +kernel) ⟨Nat.le_of_ble_eq_true rfl, Nat.le_of_ble_eq_true rfl⟩) ⟨PW.blind, va_recv hK hPc (ci := 3) (q0 := 0) rfl rfl, fun U hU hW => ⟨rfl, PW.to hPc hK hNB hDc hU hW⟩⟩ rfl rfl hl.1 rfl (lv_room (Nat.le_of_ble_eq_true rfl)) dX4_slow_25 ⟨Nat.le_of_ble_eq_true rfl, Nat.le_of_ble_eq_true rfl⟩) hS (fun q _ h => hFc q h) hFc (fun r_5 u_9 t_9 H1_9 locs ht_9 hvm_9 hw_9 hB_9 hz1_9 hk1_9 hS => ?_)
  obtain ⟨se2_6, re2_7, cg2_8⟩ := u_9
  obtain ⟨hP1_9, hD1_9⟩ := hB_9
  rw [ht_9] at hP1_9
  obtain ⟨rfl, k_ok⟩ := hw_9
  have k_ok : SOK kd s0 s1 on vl n ni no se2_6 re2_7 := k_ok
  obtain ⟨hP, hD⟩ := va_join (wr := [(qx, .inr (4, [.ref qc, .ref qC, .ref qS, .ref qP, .int (nI st)]))]) (w1 := [(qS, .inr (3, [.ref qc, .ref qse, .ref qre, .ref qcg])), (qse, .inl (cJ, 1600, .inr (.inl se2_6))), (qre, .inl (cZ, 100, .inl re2_7)), (qcg, .inl (cJ, 100, .inr (.inl cg2_8))), (qc, .inr (0, [.ref qk, .ref q0, .ref q1, .ref qo, .ref qv, .int (nI n), .int (nI ni), .int (nI no)])), (qk, .inl (cI, 100, .inl kd)), (q0, .inl (cI, 100, .inl s0)), (q1, .inl (cI, 100, .inl s1)), (qo, .inl (cI, 12, .inl on)), (qv, .inl (cJ, 1600, .inr (.inl vl)))]) hP hD [7, 8, 9, 10, 1, 2, 3, 4, 5, 6] [0] rfl rfl (by decide) (by decide) hk1_9 hFc hP1_9 hD1_9
  have hP := hP.sub (ws' := [(qx, .inr (4, [.ref qc, .ref qC, .ref qS, .ref qP, .int (nI st)])), (qc, .inr (0, [.ref qk, .ref q0, .ref q1, .ref qo, .ref qv, .int (nI n), .int (nI ni), .int (nI no)])), (qk, .inl (cI, 100, .inl kd)), (q0, .inl (cI, 100, .inl s0)), (q1, .inl (cI, 100, .inl s1)), (qo, .inl (cI, 12, .inl on)), (qv, .inl (cJ, 1600, .inr (.inl vl))), (qS, .inr (3, [.ref qc, .ref qse, .ref qre, .ref qcg])), (qse, .inl (cJ, 1600, .inr (.inl se2_6))), (qre, .inl (cZ, 100, .inl re2_7)), (qcg, .inl (cJ, 100, .inr (.inl cg2_8)))]) [0, 5, 6, 7, 8, 9, 10, 1, 2, 3, 4] rfl
  have hD := hD.sub (ws' := [(qx, .inr (4, [.ref qc, .ref qC, .ref qS, .ref qP, .int (nI st)])), (qc, .inr (0, [.ref qk, .ref q0, .ref q1, .ref qo, .ref qv, .int (nI n), .int (nI ni), .int (nI no)])), (qk, .inl (cI, 100, .inl kd)), (q0, .inl (cI, 100, .inl s0)), (q1, .inl (cI, 100, .inl s1)), (qo, .inl (cI, 12, .inl on)), (qv, .inl (cJ, 1600, .inr (.inl vl))), (qS, .inr (3, [.ref qc, .ref qse, .ref qre, .ref qcg])), (qse, .inl (cJ, 1600, .inr (.inl se2_6))), (qre, .inl (cZ, 100, .inl re2_7)), (qcg, .inl (cJ, 100, .inr (.inl cg2_8)))]) [0, 5, 6, 7, 8, 9, 10, 1, 2, 3, 4] (by decide) rfl
  generalize H1_9 = H at hP hS ⊢
  have hP : va_P D vwCl [(qx, .inr (4, [.ref qc, .ref qC, .ref qS, .ref qP, .int (nI st)])), (qc, .inr (0, [.ref qk, .ref q0, .ref q1, .ref qo, .ref qv, .int (nI n), .int (nI ni), .int (nI no)])), (qk, .inl (cI, 100, .inl kd)), (q0, .inl (cI, 100, .inl s0)), (q1, .inl (cI, 100, .inl s1)), (qo, .inl (cI, 12, .inl on)), (qv, .inl (cJ, 1600, .inr (.inl vl))), (qS, .inr (3, [.ref qc, .ref qse, .ref qre, .ref qcg])), (qse, .inl (cJ, 1600, .inr (.inl se2_6))), (qre, .inl (cZ, 100, .inl re2_7)), (qcg, .inl (cJ, 100, .inr (.inl cg2_8)))] H := hP
  have hD : va_D A [(qx, .inr (4, [.ref qc, .ref qC, .ref qS, .ref qP, .int (nI st)])), (qc, .inr (0, [.ref qk, .ref q0, .ref q1, .ref qo, .ref qv, .int (nI n), .int (nI ni), .int (nI no)])), (qk, .inl (cI, 100, .inl kd)), (q0, .inl (cI, 100, .inl s0)), (q1, .inl (cI, 100, .inl s1)), (qo, .inl (cI, 12, .inl on)), (qv, .inl (cJ, 1600, .inr (.inl vl))), (qS, .inr (3, [.ref qc, .ref qse, .ref qre, .ref qcg])), (qse, .inl (cJ, 1600, .inr (.inl se2_6))), (qre, .inl (cZ, 100, .inl re2_7)), (qcg, .inl (cJ, 100, .inr (.inl cg2_8)))] := hD
  refine lv_istore (lv' := [(4, .int (leastF (fun w => shw kd s0 s1 on vl n ni no (j * 6 + 0 * 2 + (1 - v)) w) (wordsN ni) 0)), (0, .ref qx), (1, .int (nI j)), (2, .int (nI v)), (3, .int (nI wh))]) hx hb dX4_slow_28 hl (by decide) rfl (fun ls hl => ?_)
  refine lv_aload_n hx hb dX4_slow_30 rfl (lv_at hl 1 rfl) ?_
  refine va_get (D := D) (ci := 4) (v := .ref qc) (C := RX4) (T := TX4) (N := 5) hx hb hts hiX4 hown hK hP 0 rfl rfl 0 (by decide) (hts (.fieldLink RX4 12 "FaultSearch" "chip" "LFaultSearch$Chip;") (by decide +kernel)) (fun _ h9 => h9) rfl dX4_slow_31 ?_
  refine lv_iload_n hx hb dX4_slow_34 rfl (lv_at hl 2 rfl) ?_
  refine lv_iconst (v := (nI 1)) hx hb dX4_slow_35 (by decide) ?_
  refine lv_iload_n hx hb dX4_slow_36 rfl (lv_at hl 3 rfl) ?_
  refine lv_isub hx hb dX4_slow_37 ?_
  refine zz_i (z := (nI (1 - v))) (pk_sub (by omega)) ?_
  have hPc := hP.sub (ws' := [(qc, .inr (0, [.ref qk, .ref q0, .ref q1, .ref qo, .ref qv, .int (nI n), .int (nI ni), .int (nI no)])), (qk, .inl (cI, 100, .inl kd)), (q0, .inl (cI, 100, .inl s0)), (q1, .inl (cI, 100, .inl s1)), (qo, .inl (cI, 12, .inl on)), (qv, .inl (cJ, 1600, .inr (.inl vl)))]) [1, 2, 3, 4, 5, 6] rfl
  refine vp_callSi (va_runV (As := [.int (nI j), .int (nI (1 - v))]) (rest := []) ⟨hx, hb, hml, hown, hts⟩ (c_X0_leastWith l D cI cJ cZ qc qk q0 q1 qo qv kd s0 s1 on vl n ni no j (1 - v) (by omega) (by omega)) (cwV 2 hts gX4_slow_X0_leastWith rfl rfl rfl (by decide +kernel) ⟨Nat.le_of_ble_eq_true rfl, Nat.le_of_ble_eq_true rfl⟩) ⟨PR.blind, va_recv hK hPc (ci := 0) (q0 := 0) rfl rfl, fun U hU hW => ⟨rfl, PR.to hPc hK hNB hU hW⟩⟩ rfl rfl hl.1 rfl (lv_room (Nat.le_of_ble_eq_true rfl)) dX4_slow_38 ⟨Nat.le_of_ble_eq_true rfl, Nat.le_of_ble_eq_true rfl⟩).run (fun r_9 hrr_9 => ?_)
  subst hrr_9
  refine lv_istore (lv' := [(5, .int (leastF (fun w => ((vl (w * 100 + j) ^^^ allW (nI (1 - v))) ^^^ (-1)) &&& maskW ni) (wordsN ni) 0)), (4, .int (leastF (fun w => shw kd s0 s1 on vl n ni no (j * 6 + 0 * 2 + (1 - v)) w) (wordsN ni) 0)), (0, .ref qx), (1, .int (nI j)), (2, .int (nI v)), (3, .int (nI wh))]) hx hb dX4_slow_41 hl (by decide) rfl (fun ls hl => ?_)
  refine lv_iload hx hb dX4_slow_43 (lv_at hl 1 rfl) ?_
  refine lv_iconst (v := (-1)) hx hb dX4_slow_45 (by decide) ?_
  refine lv_icmp_eq (tgt := 55) hx hb dX4_slow_46 (by decide) (fun c_46 => ?_) (fun c_46 => ?_)
  · skip
    refine lv_iconst (v := (-1)) hx hb dX4_slow_55 (by decide) ?_
    exact W.iret (v := (-1)) hx hb hr (fun t_9 ht_9 hW_9 => ⟨⟨(-1), (se2_6, re2_7, cg2_8), rfl, (show (-1) = (slwF (leastF (fun w => shw kd s0 s1 on vl n ni no (j * 6 + 0 * 2 + (1 - v)) w) (wordsN ni) 0) (leastF (fun w => ((vl (w * 100 + j) ^^^ allW (nI (1 - v))) ^^^ (-1)) &&& maskW ni) (wordsN ni) 0) wh) ∧ SOK kd s0 s1 on vl n ni no se2_6 re2_7 from ⟨(by unfold slwF; first | (rw [if_pos (Or.inl c_46)]) | (rw [if_pos (Or.inr c_52)]) | (rw [if_neg (by intro h9; rcases h9 with h9 | h9; exact c_46 h9; exact c_52 h9), if_pos c_58]) | (rw [if_neg (by intro h9; rcases h9 with h9 | h9; exact c_46 h9; exact c_52 h9), if_neg c_58])), k_ok⟩), ⟨by rw [ht_9]; exact hP, hD⟩⟩, hS.F ht_9⟩) hS.2.2 dX4_slow_56
  · skip
    refine lv_iload hx hb dX4_slow_49 (lv_at hl 0 rfl) ?_
    refine lv_iconst (v := (-1)) hx hb dX4_slow_51 (by decide) ?_
    refine lv_icmp_ne (tgt := 57) hx hb dX4_slow_52 (by decide) (fun c_52 => ?_) (fun c_52 => ?_)
    · skip
      refine lv_iload_n hx hb dX4_slow_57 rfl (lv_at hl 5 rfl) ?_
      refine lv_if_ne (tgt := 66) hx hb dX4_slow_58 (by decide) (fun c_58 => ?_) (fun c_58 => ?_)
      · skip
        rw [zc_eq0 (by omega)] at c_58
        refine lv_iload hx hb dX4_slow_66 (lv_at hl 1 rfl) ?_
        exact W.iret (v := (leastF (fun w => shw kd s0 s1 on vl n ni no (j * 6 + 0 * 2 + (1 - v)) w) (wordsN ni) 0)) hx hb hr (fun t_9 ht_9 hW_9 => ⟨⟨(leastF (fun w => shw kd s0 s1 on vl n ni no (j * 6 + 0 * 2 + (1 - v)) w) (wordsN ni) 0), (se2_6, re2_7, cg2_8), rfl, (show (leastF (fun w => shw kd s0 s1 on vl n ni no (j * 6 + 0 * 2 + (1 - v)) w) (wordsN ni) 0) = (slwF (leastF (fun w => shw kd s0 s1 on vl n ni no (j * 6 + 0 * 2 + (1 - v)) w) (wordsN ni) 0) (leastF (fun w => ((vl (w * 100 + j) ^^^ allW (nI (1 - v))) ^^^ (-1)) &&& maskW ni) (wordsN ni) 0) wh) ∧ SOK kd s0 s1 on vl n ni no se2_6 re2_7 from ⟨(by unfold slwF; first | (rw [if_pos (Or.inl c_46)]) | (rw [if_pos (Or.inr c_52)]) | (rw [if_neg (by intro h9; rcases h9 with h9 | h9; exact c_46 h9; exact c_52 h9), if_pos c_58]) | (rw [if_neg (by intro h9; rcases h9 with h9 | h9; exact c_46 h9; exact c_52 h9), if_neg c_58])), k_ok⟩), ⟨by rw [ht_9]; exact hP, hD⟩⟩, hS.F ht_9⟩) hS.2.2 dX4_slow_68
      · skip
        rw [zc_eq0 (by omega)] at c_58
        refine lv_iload hx hb dX4_slow_61 (lv_at hl 0 rfl) ?_
        refine lv_goto (tgt := 68) hx hb dX4_slow_63 (by decide) ?_
        exact W.iret (v := (leastF (fun w => ((vl (w * 100 + j) ^^^ allW (nI (1 - v))) ^^^ (-1)) &&& maskW ni) (wordsN ni) 0)) hx hb hr (fun t_9 ht_9 hW_9 => ⟨⟨(leastF (fun w => ((vl (w * 100 + j) ^^^ allW (nI (1 - v))) ^^^ (-1)) &&& maskW ni) (wordsN ni) 0), (se2_6, re2_7, cg2_8), rfl, (show (leastF (fun w => ((vl (w * 100 + j) ^^^ allW (nI (1 - v))) ^^^ (-1)) &&& maskW ni) (wordsN ni) 0) = (slwF (leastF (fun w => shw kd s0 s1 on vl n ni no (j * 6 + 0 * 2 + (1 - v)) w) (wordsN ni) 0) (leastF (fun w => ((vl (w * 100 + j) ^^^ allW (nI (1 - v))) ^^^ (-1)) &&& maskW ni) (wordsN ni) 0) wh) ∧ SOK kd s0 s1 on vl n ni no se2_6 re2_7 from ⟨(by unfold slwF; first | (rw [if_pos (Or.inl c_46)]) | (rw [if_pos (Or.inr c_52)]) | (rw [if_neg (by intro h9; rcases h9 with h9 | h9; exact c_46 h9; exact c_52 h9), if_pos c_58]) | (rw [if_neg (by intro h9; rcases h9 with h9 | h9; exact c_46 h9; exact c_52 h9), if_neg c_58])), k_ok⟩), ⟨by rw [ht_9]; exact hP, hD⟩⟩, hS.F ht_9⟩) hS.2.2 dX4_slow_68
    · skip
      refine lv_iconst (v := (-1)) hx hb dX4_slow_55 (by decide) ?_
      exact W.iret (v := (-1)) hx hb hr (fun t_9 ht_9 hW_9 => ⟨⟨(-1), (se2_6, re2_7, cg2_8), rfl, (show (-1) = (slwF (leastF (fun w => shw kd s0 s1 on vl n ni no (j * 6 + 0 * 2 + (1 - v)) w) (wordsN ni) 0) (leastF (fun w => ((vl (w * 100 + j) ^^^ allW (nI (1 - v))) ^^^ (-1)) &&& maskW ni) (wordsN ni) 0) wh) ∧ SOK kd s0 s1 on vl n ni no se2_6 re2_7 from ⟨(by unfold slwF; first | (rw [if_pos (Or.inl c_46)]) | (rw [if_pos (Or.inr c_52)]) | (rw [if_neg (by intro h9; rcases h9 with h9 | h9; exact c_46 h9; exact c_52 h9), if_pos c_58]) | (rw [if_neg (by intro h9; rcases h9 with h9 | h9; exact c_46 h9; exact c_52 h9), if_neg c_58])), k_ok⟩), ⟨by rw [ht_9]; exact hP, hD⟩⟩, hS.F ht_9⟩) hS.2.2 dX4_slow_56

set_option maxHeartbeats 4000000 in
set_option maxRecDepth 100000 in
theorem c_X4_slow_no (l : Launch) (hl0 : l.stackTraces = false) (D : va_G) (cI cJ cZ : ClassId) (qx : Nat) (qc : Nat) (qk : Nat) (q0 : Nat) (q1 : Nat) (qo : Nat) (qv : Nat) (kd : Nat → Int32) (s0 : Nat → Int32) (s1 : Nat → Int32) (on : Nat → Int32) (vl : Nat → Int64) (n : Nat) (ni : Nat) (no : Nat) (qC : Nat) (qS : Nat) (qP : Nat) (st : Nat) (net : Int32) (v : Int32) (wh : Int32) (sz : Nat) (A : Nat → Prop) (hAe : A = va_A [(qx, .inr (4, [.ref qc, .ref qC, .ref qS, .ref qP, .int (nI st)])), (qc, .inr (0, [.ref qk, .ref q0, .ref q1, .ref qo, .ref qv, .int (nI n), .int (nI ni), .int (nI no)])), (qk, .inl (cI, 100, .inl kd)), (q0, .inl (cI, 100, .inl s0)), (q1, .inl (cI, 100, .inl s1)), (qo, .inl (cI, 12, .inl on)), (qv, .inl (cJ, 1600, .inr (.inl vl)))] sz) (h : ¬ (isN n net ∧ ¬ v < 0 ∧ ¬ nI 1 < v ∧ ¬ wh < 0 ∧ wh ≤ nI 1)) : vx_Met l yX4_slow wsX4_slow ({ frames := 7, cells := 1, slots := 6, locals := 111 } : Room) (va_Pc [.ref qx, .int net, .int v, .int wh] (PX D cI cJ cZ [(qx, .inr (4, [.ref qc, .ref qC, .ref qS, .ref qP, .int (nI st)])), (qc, .inr (0, [.ref qk, .ref q0, .ref q1, .ref qo, .ref qv, .int (nI n), .int (nI ni), .int (nI no)])), (qk, .inl (cI, 100, .inl kd)), (q0, .inl (cI, 100, .inl s0)), (q1, .inl (cI, 100, .inl s1)), (qo, .inl (cI, 12, .inl on)), (qv, .inl (cJ, 1600, .inr (.inl vl)))] sz)) (va_Qi (fun (_ : Int32) (_ : Unit) => False) (fun _ _ => True) A) (vx_X (fun _u9 : Unit => True) (fun E (_u9 : Unit) t => E = "java/lang/IndexOutOfBoundsException" ∧ PQ D A [(qx, .inr (4, [.ref qc, .ref qC, .ref qS, .ref qP, .int (nI st)])), (qc, .inr (0, [.ref qk, .ref q0, .ref q1, .ref qo, .ref qv, .int (nI n), .int (nI ni), .int (nI no)])), (qk, .inl (cI, 100, .inl kd)), (q0, .inl (cI, 100, .inl s0)), (q1, .inl (cI, 100, .inl s1)), (qo, .inl (cI, 12, .inl on)), (qv, .inl (cJ, 1600, .inr (.inl vl)))] t) A) 1 6 A := by
  refine vx_ofW (cc := cX4_slow) (maxL := 6) (ret := (some .int)) (by decide) rfl ?_
  intro p e s m args below meth c s₁ B hml hxt hv
  obtain ⟨rfl, ⟨hsz, ⟨hP, hK, hNB⟩, hD0⟩, hGX⟩ := hv
  have hx := B.exec
  have hb := B.bytes
  have hr := B.returns
  have hts := atoms_spec (ws := wsX4_slow) B.pre
  have hown : s.vm.findClass RX4 = some m.cls := findClass_of_methodNamed B.named
  have hlocks := B.notSynchronized
  subst hsz
  rw [← hAe] at hGX
  have hD : va_D A [(qx, .inr (4, [.ref qc, .ref qC, .ref qS, .ref qP, .int (nI st)])), (qc, .inr (0, [.ref qk, .ref q0, .ref q1, .ref qo, .ref qv, .int (nI n), .int (nI ni), .int (nI no)])), (qk, .inl (cI, 100, .inl kd)), (q0, .inl (cI, 100, .inl s0)), (q1, .inl (cI, 100, .inl s1)), (qo, .inl (cI, 12, .inl on)), (qv, .inl (cJ, 1600, .inr (.inl vl)))] := by rw [hAe]; exact hD0.self
  have hA : ∀ q : Nat, s.heap.size ≤ q → A q := fun q h => by rw [hAe]; exact Or.inr h
  have hS : va_S A s.heap s.heap [] := va_S.rf
  have hl := lv_entry ([.ref qx, .int net, .int v, .int wh]) (n := 6) (Nat.le_of_ble_eq_true rfl)
  rw [lg_entry_eq]
  generalize (lg_sl ([.ref qx, .int net, .int v, .int wh]) ++ List.replicate (6 - (lg_sl ([.ref qx, .int net, .int v, .int wh])).length) Slot.unset).toArray = ls at hl ⊢
  have hl : lv_has ls 6 [(0, .ref qx), (1, .int net), (2, .int v), (3, .int wh)] := hl
  refine lv_aload_n hx hb dX4_slow_0 rfl (lv_at hl 0 rfl) ?_
  refine lv_iload_n hx hb dX4_slow_1 rfl (lv_at hl 1 rfl) ?_
  by_cases hnn : isN n net
  · skip
    have hPc := hP.sub (ws' := [(qx, .inr (4, [.ref qc, .ref qC, .ref qS, .ref qP, .int (nI st)])), (qc, .inr (0, [.ref qk, .ref q0, .ref q1, .ref qo, .ref qv, .int (nI n), .int (nI ni), .int (nI no)])), (qk, .inl (cI, 100, .inl kd)), (q0, .inl (cI, 100, .inl s0)), (q1, .inl (cI, 100, .inl s1)), (qo, .inl (cI, 12, .inl on)), (qv, .inl (cJ, 1600, .inr (.inl vl)))]) [0, 1, 2, 3, 4, 5, 6] rfl
    refine va_csv (va_runV (As := [.int net]) (rest := []) ⟨hx, hb, hml, hown, hts⟩ (c_X4_requireNet_ok l D cI cJ cZ qx qc qk q0 q1 qo qv kd s0 s1 on vl n ni no qC qS qP st net hnn) (cwV 1 hts gX4_slow_X4_requireNet rfl rfl rfl (by decide +kernel) ⟨Nat.le_of_ble_eq_true rfl, Nat.le_of_ble_eq_true rfl⟩) ⟨PR.blind, va_recv hK hPc (ci := 4) (q0 := 0) rfl rfl, fun U hU hW => ⟨rfl, PR.to hPc hK hNB hU hW⟩⟩ rfl rfl hl.1 rfl (lv_room (Nat.le_of_ble_eq_true rfl)) dX4_slow_2 ⟨Nat.le_of_ble_eq_true rfl, Nat.le_of_ble_eq_true rfl⟩).run (fun _ => ?_)
    refine lv_iload_n hx hb dX4_slow_5 rfl (lv_at hl 2 rfl) ?_
    by_cases hvb : v = 0 ∨ v = nI 1
    · skip
      obtain ⟨v8, hv8, ev8⟩ := bit_of hvb
      refine zz_i (z := (nI v8)) ev8 ?_
      refine va_csv (va_runS (As := [.int (nI v8)]) (rest := []) ⟨hx, hb, hml, hown, hts⟩ (c_X4_requireBit_ok l v8 hv8) (va_cwS 1 hts gX4_slow_X4_requireBit rfl rfl rfl (by decide +kernel) ⟨Nat.le_of_ble_eq_true rfl, Nat.le_of_ble_eq_true rfl⟩) ⟨zt_blind, fun U hU hW => ⟨rfl, trivial⟩⟩ rfl rfl hl.1 rfl (lv_room (Nat.le_of_ble_eq_true rfl)) dX4_slow_6 ⟨Nat.le_of_ble_eq_true rfl, Nat.le_of_ble_eq_true rfl⟩).run (fun _ => ?_)
      refine lv_iload_n hx hb dX4_slow_9 rfl (lv_at hl 3 rfl) ?_
      by_cases hwb : wh = 0 ∨ wh = nI 1
      · skip
        exact absurd (bits_ok hnn hvb hwb) h
      · skip
        have hPc := hP.sub (ws' := []) [] rfl
        have hDc := hD.sub (ws' := []) [] (by decide) rfl
        have hFc := va_free (wc := []) hD hS hA [] rfl
        refine vx_callv (vx_runS (As := [.int wh]) (rest := []) ⟨hx, hb, hml, hown, hts⟩ (c_X4_requireBit_no l hl0 D cI cJ cZ wh s.heap.size _ rfl hwb) (va_cwS 1 hts gX4_slow_X4_requireBit rfl rfl rfl (by decide +kernel) ⟨Nat.le_of_ble_eq_true rfl, Nat.le_of_ble_eq_true rfl⟩) ⟨PX.blind, fun U hU hW => ⟨rfl, PX.to hPc hK hNB hDc hGX hS hFc hU hW⟩⟩ rfl rfl hl.1 rfl (lv_room (Nat.le_of_ble_eq_true rfl)) dX4_slow_10 ⟨Nat.le_of_ble_eq_true rfl, Nat.le_of_ble_eq_true rfl⟩) hS (fun q _ h => hFc q h) hFc (fun q _ h => hFc q h) (fun E_9 ce_9 q9_9 u_9 t_9 H1_9 locs ht_9 hvm_9 hw_9 hB_9 hz_9 hk1_9 hS hce_9 hcv_9 hcl_9 => ?_) (fun u_9 t_9 H1_9 locs ht_9 hvm_9 hw_9 hB_9 hz1_9 hk1_9 hS => hw_9.elim)
        obtain ⟨rfl, hP1_9, hD1_9⟩ := hB_9
        rw [ht_9] at hP1_9
        obtain ⟨hP, hD⟩ := va_join (wr := [(qx, .inr (4, [.ref qc, .ref qC, .ref qS, .ref qP, .int (nI st)])), (qc, .inr (0, [.ref qk, .ref q0, .ref q1, .ref qo, .ref qv, .int (nI n), .int (nI ni), .int (nI no)])), (qk, .inl (cI, 100, .inl kd)), (q0, .inl (cI, 100, .inl s0)), (q1, .inl (cI, 100, .inl s1)), (qo, .inl (cI, 12, .inl on)), (qv, .inl (cJ, 1600, .inr (.inl vl)))]) (w1 := []) hP hD [] [0, 1, 2, 3, 4, 5, 6] rfl rfl (by decide) (by decide) hk1_9 hFc hP1_9 hD1_9
        generalize H1_9 = H at hP hS hce_9 ⊢
        have hP : va_P D vwCl [(qx, .inr (4, [.ref qc, .ref qC, .ref qS, .ref qP, .int (nI st)])), (qc, .inr (0, [.ref qk, .ref q0, .ref q1, .ref qo, .ref qv, .int (nI n), .int (nI ni), .int (nI no)])), (qk, .inl (cI, 100, .inl kd)), (q0, .inl (cI, 100, .inl s0)), (q1, .inl (cI, 100, .inl s1)), (qo, .inl (cI, 12, .inl on)), (qv, .inl (cJ, 1600, .inr (.inl vl)))] H := hP
        have hD : va_D A [(qx, .inr (4, [.ref qc, .ref qC, .ref qS, .ref qP, .int (nI st)])), (qc, .inr (0, [.ref qk, .ref q0, .ref q1, .ref qo, .ref qv, .int (nI n), .int (nI ni), .int (nI no)])), (qk, .inl (cI, 100, .inl kd)), (q0, .inl (cI, 100, .inl s0)), (q1, .inl (cI, 100, .inl s1)), (qo, .inl (cI, 12, .inl on)), (qv, .inl (cJ, 1600, .inr (.inl vl)))] := hD
        exact vx_out (fun x h => (hxt x h).elim) hlocks hce_9 hcv_9 hcl_9 (fun t_8 ht_8 ha_8 => ⟨(), trivial, ⟨rfl, by rw [ht_8]; exact hP, hD⟩, hS.F ht_8⟩) hS.2.2 (by decide) (by decide)
    · skip
      have hPc := hP.sub (ws' := []) [] rfl
      have hDc := hD.sub (ws' := []) [] (by decide) rfl
      have hFc := va_free (wc := []) hD hS hA [] rfl
      refine vx_callv (vx_runS (As := [.int v]) (rest := []) ⟨hx, hb, hml, hown, hts⟩ (c_X4_requireBit_no l hl0 D cI cJ cZ v s.heap.size _ rfl hvb) (va_cwS 1 hts gX4_slow_X4_requireBit rfl rfl rfl (by decide +kernel) ⟨Nat.le_of_ble_eq_true rfl, Nat.le_of_ble_eq_true rfl⟩) ⟨PX.blind, fun U hU hW => ⟨rfl, PX.to hPc hK hNB hDc hGX hS hFc hU hW⟩⟩ rfl rfl hl.1 rfl (lv_room (Nat.le_of_ble_eq_true rfl)) dX4_slow_6 ⟨Nat.le_of_ble_eq_true rfl, Nat.le_of_ble_eq_true rfl⟩) hS (fun q _ h => hFc q h) hFc (fun q _ h => hFc q h) (fun E_9 ce_9 q9_9 u_9 t_9 H1_9 locs ht_9 hvm_9 hw_9 hB_9 hz_9 hk1_9 hS hce_9 hcv_9 hcl_9 => ?_) (fun u_9 t_9 H1_9 locs ht_9 hvm_9 hw_9 hB_9 hz1_9 hk1_9 hS => hw_9.elim)
      obtain ⟨rfl, hP1_9, hD1_9⟩ := hB_9
      rw [ht_9] at hP1_9
      obtain ⟨hP, hD⟩ := va_join (wr := [(qx, .inr (4, [.ref qc, .ref qC, .ref qS, .ref qP, .int (nI st)])), (qc, .inr (0, [.ref qk, .ref q0, .ref q1, .ref qo, .ref qv, .int (nI n), .int (nI ni), .int (nI no)])), (qk, .inl (cI, 100, .inl kd)), (q0, .inl (cI, 100, .inl s0)), (q1, .inl (cI, 100, .inl s1)), (qo, .inl (cI, 12, .inl on)), (qv, .inl (cJ, 1600, .inr (.inl vl)))]) (w1 := []) hP hD [] [0, 1, 2, 3, 4, 5, 6] rfl rfl (by decide) (by decide) hk1_9 hFc hP1_9 hD1_9
      generalize H1_9 = H at hP hS hce_9 ⊢
      have hP : va_P D vwCl [(qx, .inr (4, [.ref qc, .ref qC, .ref qS, .ref qP, .int (nI st)])), (qc, .inr (0, [.ref qk, .ref q0, .ref q1, .ref qo, .ref qv, .int (nI n), .int (nI ni), .int (nI no)])), (qk, .inl (cI, 100, .inl kd)), (q0, .inl (cI, 100, .inl s0)), (q1, .inl (cI, 100, .inl s1)), (qo, .inl (cI, 12, .inl on)), (qv, .inl (cJ, 1600, .inr (.inl vl)))] H := hP
      have hD : va_D A [(qx, .inr (4, [.ref qc, .ref qC, .ref qS, .ref qP, .int (nI st)])), (qc, .inr (0, [.ref qk, .ref q0, .ref q1, .ref qo, .ref qv, .int (nI n), .int (nI ni), .int (nI no)])), (qk, .inl (cI, 100, .inl kd)), (q0, .inl (cI, 100, .inl s0)), (q1, .inl (cI, 100, .inl s1)), (qo, .inl (cI, 12, .inl on)), (qv, .inl (cJ, 1600, .inr (.inl vl)))] := hD
      exact vx_out (fun x h => (hxt x h).elim) hlocks hce_9 hcv_9 hcl_9 (fun t_8 ht_8 ha_8 => ⟨(), trivial, ⟨rfl, by rw [ht_8]; exact hP, hD⟩, hS.F ht_8⟩) hS.2.2 (by decide) (by decide)
  · skip
    have hPc := hP.sub (ws' := [(qx, .inr (4, [.ref qc, .ref qC, .ref qS, .ref qP, .int (nI st)])), (qc, .inr (0, [.ref qk, .ref q0, .ref q1, .ref qo, .ref qv, .int (nI n), .int (nI ni), .int (nI no)])), (qk, .inl (cI, 100, .inl kd)), (q0, .inl (cI, 100, .inl s0)), (q1, .inl (cI, 100, .inl s1)), (qo, .inl (cI, 12, .inl on)), (qv, .inl (cJ, 1600, .inr (.inl vl)))]) [0, 1, 2, 3, 4, 5, 6] rfl
    have hDc := hD.sub (ws' := [(qx, .inr (4, [.ref qc, .ref qC, .ref qS, .ref qP, .int (nI st)])), (qc, .inr (0, [.ref qk, .ref q0, .ref q1, .ref qo, .ref qv, .int (nI n), .int (nI ni), .int (nI no)])), (qk, .inl (cI, 100, .inl kd)), (q0, .inl (cI, 100, .inl s0)), (q1, .inl (cI, 100, .inl s1)), (qo, .inl (cI, 12, .inl on)), (qv, .inl (cJ, 1600, .inr (.inl vl)))]) [0, 1, 2, 3, 4, 5, 6] (by decide) rfl
    have hFc := va_free (wc := [(qx, .inr (4, [.ref qc, .ref qC, .ref qS, .ref qP, .int (nI st)])), (qc, .inr (0, [.ref qk, .ref q0, .ref q1, .ref qo, .ref qv, .int (nI n), .int (nI ni), .int (nI no)])), (qk, .inl (cI, 100, .inl kd)), (q0, .inl (cI, 100, .inl s0)), (q1, .inl (cI, 100, .inl s1)), (qo, .inl (cI, 12, .inl on)), (qv, .inl (cJ, 1600, .inr (.inl vl)))]) hD hS hA [0, 1, 2, 3, 4, 5, 6] rfl
    refine vx_callv (vx_runV (As := [.int net]) (rest := []) ⟨hx, hb, hml, hown, hts⟩ (c_X4_requireNet_no l hl0 D cI cJ cZ qx qc qk q0 q1 qo qv kd s0 s1 on vl n ni no qC qS qP st net s.heap.size _ rfl hnn) (cwV 1 hts gX4_slow_X4_requireNet rfl rfl rfl (by decide +kernel) ⟨Nat.le_of_ble_eq_true rfl, Nat.le_of_ble_eq_true rfl⟩) ⟨PX.blind, va_recv hK hPc (ci := 4) (q0 := 0) rfl rfl, fun U hU hW => ⟨rfl, PX.to hPc hK hNB hDc hGX hS hFc hU hW⟩⟩ rfl rfl hl.1 rfl (lv_room (Nat.le_of_ble_eq_true rfl)) dX4_slow_2 ⟨Nat.le_of_ble_eq_true rfl, Nat.le_of_ble_eq_true rfl⟩) hS (fun q _ h => hFc q h) hFc (fun q _ h => hFc q h) (fun E_9 ce_9 q9_9 u_9 t_9 H1_9 locs ht_9 hvm_9 hw_9 hB_9 hz_9 hk1_9 hS hce_9 hcv_9 hcl_9 => ?_) (fun u_9 t_9 H1_9 locs ht_9 hvm_9 hw_9 hB_9 hz1_9 hk1_9 hS => hw_9.elim)
    obtain ⟨rfl, hP1_9, hD1_9⟩ := hB_9
    rw [ht_9] at hP1_9
    obtain ⟨hP, hD⟩ := va_join (wr := []) (w1 := [(qx, .inr (4, [.ref qc, .ref qC, .ref qS, .ref qP, .int (nI st)])), (qc, .inr (0, [.ref qk, .ref q0, .ref q1, .ref qo, .ref qv, .int (nI n), .int (nI ni), .int (nI no)])), (qk, .inl (cI, 100, .inl kd)), (q0, .inl (cI, 100, .inl s0)), (q1, .inl (cI, 100, .inl s1)), (qo, .inl (cI, 12, .inl on)), (qv, .inl (cJ, 1600, .inr (.inl vl)))]) hP hD [0, 1, 2, 3, 4, 5, 6] [] rfl rfl (by decide) (by decide) hk1_9 hFc hP1_9 hD1_9
    generalize H1_9 = H at hP hS hce_9 ⊢
    have hP : va_P D vwCl [(qx, .inr (4, [.ref qc, .ref qC, .ref qS, .ref qP, .int (nI st)])), (qc, .inr (0, [.ref qk, .ref q0, .ref q1, .ref qo, .ref qv, .int (nI n), .int (nI ni), .int (nI no)])), (qk, .inl (cI, 100, .inl kd)), (q0, .inl (cI, 100, .inl s0)), (q1, .inl (cI, 100, .inl s1)), (qo, .inl (cI, 12, .inl on)), (qv, .inl (cJ, 1600, .inr (.inl vl)))] H := hP
    have hD : va_D A [(qx, .inr (4, [.ref qc, .ref qC, .ref qS, .ref qP, .int (nI st)])), (qc, .inr (0, [.ref qk, .ref q0, .ref q1, .ref qo, .ref qv, .int (nI n), .int (nI ni), .int (nI no)])), (qk, .inl (cI, 100, .inl kd)), (q0, .inl (cI, 100, .inl s0)), (q1, .inl (cI, 100, .inl s1)), (qo, .inl (cI, 12, .inl on)), (qv, .inl (cJ, 1600, .inr (.inl vl)))] := hD
    exact vx_out (fun x h => (hxt x h).elim) hlocks hce_9 hcv_9 hcl_9 (fun t_8 ht_8 ha_8 => ⟨(), trivial, ⟨rfl, by rw [ht_8]; exact hP, hD⟩, hS.F ht_8⟩) hS.2.2 (by decide) (by decide)

set_option maxHeartbeats 4000000 in
set_option maxRecDepth 100000 in
theorem c_X4_count_no (l : Launch) (hl0 : l.stackTraces = false) (D : va_G) (cI cJ cZ : ClassId) (qx : Nat) (qc : Nat) (qC : Nat) (qS : Nat) (qP : Nat) (st : Nat) (wh : Int32) (sz : Nat) (A : Nat → Prop) (hAe : A = va_A [(qx, .inr (4, [.ref qc, .ref qC, .ref qS, .ref qP, .int (nI st)]))] sz) (h : ¬ (¬ wh < 0 ∧ wh ≤ nI 5)) : vx_Met l yX4_count wsX4_count ({ frames := 6, cells := 1, slots := 6, locals := 90 } : Room) (va_Pc [.ref qx, .int wh] (PX D cI cJ cZ [(qx, .inr (4, [.ref qc, .ref qC, .ref qS, .ref qP, .int (nI st)]))] sz)) (va_Qi (fun (_ : Int32) (_ : Unit) => False) (fun _ _ => True) A) (vx_X (fun _u9 : Unit => True) (fun E (_u9 : Unit) t => E = "java/lang/IndexOutOfBoundsException" ∧ PQ D A [(qx, .inr (4, [.ref qc, .ref qC, .ref qS, .ref qP, .int (nI st)]))] t) A) 1 6 A := by
  refine vx_ofW (cc := cX4_count) (maxL := 2) (ret := (some .int)) (by decide) rfl ?_
  intro p e s m args below meth c s₁ B hml hxt hv
  obtain ⟨rfl, ⟨hsz, ⟨hP, hK, hNB⟩, hD0⟩, hGX⟩ := hv
  have hx := B.exec
  have hb := B.bytes
  have hr := B.returns
  have hts := atoms_spec (ws := wsX4_count) B.pre
  have hown : s.vm.findClass RX4 = some m.cls := findClass_of_methodNamed B.named
  have hlocks := B.notSynchronized
  subst hsz
  rw [← hAe] at hGX
  have hD : va_D A [(qx, .inr (4, [.ref qc, .ref qC, .ref qS, .ref qP, .int (nI st)]))] := by rw [hAe]; exact hD0.self
  have hA : ∀ q : Nat, s.heap.size ≤ q → A q := fun q h => by rw [hAe]; exact Or.inr h
  have hS : va_S A s.heap s.heap [] := va_S.rf
  have hl := lv_entry ([.ref qx, .int wh]) (n := 2) (Nat.le_of_ble_eq_true rfl)
  rw [lg_entry_eq]
  generalize (lg_sl ([.ref qx, .int wh]) ++ List.replicate (2 - (lg_sl ([.ref qx, .int wh])).length) Slot.unset).toArray = ls at hl ⊢
  have hl : lv_has ls 2 [(0, .ref qx), (1, .int wh)] := hl
  refine lv_iload_n hx hb dX4_count_0 rfl (lv_at hl 1 rfl) ?_
  by_cases k_0 : wh = nI 0
  · skip
    refine zz_i (z := nI 0) k_0 ?_
    refine lv_tableIn (off := 39) (tgt := 40) hx hb dX4_count_1 (by decide) (by decide) rfl (by decide) ?_
    exact absurd ⟨by rw [k_0]; decide, by rw [k_0]; decide⟩ h
  by_cases k_1 : wh = nI 1
  · skip
    refine zz_i (z := nI 1) k_1 ?_
    refine lv_tableIn (off := 47) (tgt := 48) hx hb dX4_count_1 (by decide) (by decide) rfl (by decide) ?_
    exact absurd ⟨by rw [k_1]; decide, by rw [k_1]; decide⟩ h
  by_cases k_2 : wh = nI 2
  · skip
    refine zz_i (z := nI 2) k_2 ?_
    refine lv_tableIn (off := 55) (tgt := 56) hx hb dX4_count_1 (by decide) (by decide) rfl (by decide) ?_
    exact absurd ⟨by rw [k_2]; decide, by rw [k_2]; decide⟩ h
  by_cases k_3 : wh = nI 3
  · skip
    refine zz_i (z := nI 3) k_3 ?_
    refine lv_tableIn (off := 63) (tgt := 64) hx hb dX4_count_1 (by decide) (by decide) rfl (by decide) ?_
    exact absurd ⟨by rw [k_3]; decide, by rw [k_3]; decide⟩ h
  by_cases k_4 : wh = nI 4
  · skip
    refine zz_i (z := nI 4) k_4 ?_
    refine lv_tableIn (off := 71) (tgt := 72) hx hb dX4_count_1 (by decide) (by decide) rfl (by decide) ?_
    exact absurd ⟨by rw [k_4]; decide, by rw [k_4]; decide⟩ h
  by_cases k_5 : wh = nI 5
  · skip
    refine zz_i (z := nI 5) k_5 ?_
    refine lv_tableIn (off := 79) (tgt := 80) hx hb dX4_count_1 (by decide) (by decide) rfl (by decide) ?_
    exact absurd ⟨by rw [k_5]; decide, by rw [k_5]; decide⟩ h
  refine lv_tableOut (tgt := 85) hx hb dX4_count_1 (zs_out (n := 6) (by decide) (fun j hj => by rcases (show j = 0 ∨ j = 1 ∨ j = 2 ∨ j = 3 ∨ j = 4 ∨ j = 5 by omega) with rfl | rfl | rfl | rfl | rfl | rfl <;> assumption)) (by decide) ?_
  obtain ⟨sa_9, hstr_9⟩ := hGX.2.1.2.2.2.2.2.1
  have hat_9 : ∀ w ∈ (vx_atS RX4 75 "java/lang/IndexOutOfBoundsException" ["java/lang/RuntimeException", "java/lang/Exception"]).filter goodWord, w ∈ wsX4_count := by decide +kernel
  exact vx_throwS (names := ["java/lang/RuntimeException", "java/lang/Exception"]) hx hb hl0 hown (by decide +kernel) (by decide +kernel) (hts (.classLink RX4 71 "java/lang/IndexOutOfBoundsException") (by decide +kernel)) (hts (.initialized "java/lang/IndexOutOfBoundsException") (by decide +kernel)) hstr_9 (vx_hat (fun w h => hts w (hat_9 w h)) (by decide +kernel) hGX.1.use) (by decide +kernel) hGX.2.2.1 hGX.2.2.2 hS (by rw [hml]; exact hl.1) dX4_count_85 dX4_count_88 dX4_count_89 dX4_count_91 dX4_count_94 (fun x h => (hxt x h).elim) (Nat.le_of_ble_eq_true rfl) (Nat.le_of_ble_eq_true rfl) (Nat.le_of_ble_eq_true rfl) (Nat.le_of_ble_eq_true rfl) hlocks (fun t_9 ha_9 hz_9 hk_9 => ⟨(), trivial, ⟨rfl, zx_P hP hk_9, hD⟩, zx_F hS hz_9 hk_9⟩) hS.2.2 (by decide) (by decide)

set_option maxHeartbeats 4000000 in
set_option maxRecDepth 100000 in
theorem c_X4_count_0 (l : Launch) (D : va_G) (cI cJ cZ : ClassId) (qx : Nat) (qc : Nat) (qk : Nat) (q0 : Nat) (q1 : Nat) (qo : Nat) (qv : Nat) (kd : Nat → Int32) (s0 : Nat → Int32) (s1 : Nat → Int32) (on : Nat → Int32) (vl : Nat → Int64) (n : Nat) (ni : Nat) (no : Nat) (qC : Nat) (qS : Nat) (qP : Nat) (st : Nat) : Met l yX4_count wsX4_count ({ frames := 0, cells := 0, slots := 0, locals := 0 } : Room) (va_Pc [.ref qx, .int (nI 0)] (PR D cI cJ cZ [(qx, .inr (4, [.ref qc, .ref qC, .ref qS, .ref qP, .int (nI st)])), (qc, .inr (0, [.ref qk, .ref q0, .ref q1, .ref qo, .ref qv, .int (nI n), .int (nI ni), .int (nI no)])), (qk, .inl (cI, 100, .inl kd)), (q0, .inl (cI, 100, .inl s0)), (q1, .inl (cI, 100, .inl s1)), (qo, .inl (cI, 12, .inl on)), (qv, .inl (cJ, 1600, .inr (.inl vl)))])) (vp_Si (fun r_9 : Int32 => r_9 = (nI n))) 0 0 (fun _ => False) := by
  refine Met.ofW (cc := cX4_count) (maxL := 2) (ret := (some .int)) (by decide) rfl ?_
  intro p e s m args below meth c s₁ B hml hv
  obtain ⟨rfl, hP, hK, hNB⟩ := hv
  have hx := B.exec
  have hb := B.bytes
  have hr := B.returns
  have hts := atoms_spec (ws := wsX4_count) B.pre
  have hown : s.vm.findClass RX4 = some m.cls := findClass_of_methodNamed B.named
  have hlocks := B.notSynchronized
  have hiX0 : ∀ w ∈ u_ws RX0 TX0 8, w ∈ wsX4_count := by decide +kernel
  have hiX4 : ∀ w ∈ u_ws RX4 TX4 5, w ∈ wsX4_count := by decide +kernel
  have hl := lv_entry ([.ref qx, .int (nI 0)]) (n := 2) (Nat.le_of_ble_eq_true rfl)
  rw [lg_entry_eq]
  generalize (lg_sl ([.ref qx, .int (nI 0)]) ++ List.replicate (2 - (lg_sl ([.ref qx, .int (nI 0)])).length) Slot.unset).toArray = ls at hl ⊢
  have hl : lv_has ls 2 [(0, .ref qx), (1, .int (nI 0))] := hl
  refine lv_iload_n hx hb dX4_count_0 rfl (lv_at hl 1 rfl) ?_
  refine lv_tableIn (off := 39) (tgt := 40) hx hb dX4_count_1 (by decide) (by decide) rfl (by decide) ?_
  refine lv_aload_n hx hb dX4_count_40 rfl (lv_at hl 0 rfl) ?_
  refine va_get (D := D) (ci := 4) (v := .ref qc) (C := RX4) (T := TX4) (N := 5) hx hb hts hiX4 hown hK hP 0 rfl rfl 0 (by decide) (hts (.fieldLink RX4 12 "FaultSearch" "chip" "LFaultSearch$Chip;") (by decide +kernel)) (fun _ h9 => h9) rfl dX4_count_41 ?_
  refine va_get (D := D) (ci := 0) (v := .int (nI n)) (C := RX0) (T := TX0) (N := 8) hx hb hts hiX0 hown hK hP 1 rfl rfl 5 (by decide) (hts (.fieldLink RX4 47 "FaultSearch$Chip" "nets" "I") (by decide +kernel)) (fun _ h9 => h9) rfl dX4_count_44 ?_
  exact W.iret (v := (nI n)) hx hb hr (fun t_9 ht_9 hW_9 => ⟨(nI n), rfl, rfl, ht_9⟩) (fun q h => nomatch h) dX4_count_47

set_option maxHeartbeats 4000000 in
set_option maxRecDepth 100000 in
theorem c_X4_count_1 (l : Launch) (D : va_G) (cI cJ cZ : ClassId) (qx : Nat) (qc : Nat) (qk : Nat) (q0 : Nat) (q1 : Nat) (qo : Nat) (qv : Nat) (kd : Nat → Int32) (s0 : Nat → Int32) (s1 : Nat → Int32) (on : Nat → Int32) (vl : Nat → Int64) (n : Nat) (ni : Nat) (no : Nat) (qC : Nat) (qS : Nat) (qP : Nat) (st : Nat) : Met l yX4_count wsX4_count ({ frames := 0, cells := 0, slots := 0, locals := 0 } : Room) (va_Pc [.ref qx, .int (nI 1)] (PR D cI cJ cZ [(qx, .inr (4, [.ref qc, .ref qC, .ref qS, .ref qP, .int (nI st)])), (qc, .inr (0, [.ref qk, .ref q0, .ref q1, .ref qo, .ref qv, .int (nI n), .int (nI ni), .int (nI no)])), (qk, .inl (cI, 100, .inl kd)), (q0, .inl (cI, 100, .inl s0)), (q1, .inl (cI, 100, .inl s1)), (qo, .inl (cI, 12, .inl on)), (qv, .inl (cJ, 1600, .inr (.inl vl)))])) (vp_Si (fun r_9 : Int32 => r_9 = (nI ni))) 0 0 (fun _ => False) := by
  refine Met.ofW (cc := cX4_count) (maxL := 2) (ret := (some .int)) (by decide) rfl ?_
  intro p e s m args below meth c s₁ B hml hv
  obtain ⟨rfl, hP, hK, hNB⟩ := hv
  have hx := B.exec
  have hb := B.bytes
  have hr := B.returns
  have hts := atoms_spec (ws := wsX4_count) B.pre
  have hown : s.vm.findClass RX4 = some m.cls := findClass_of_methodNamed B.named
  have hlocks := B.notSynchronized
  have hiX0 : ∀ w ∈ u_ws RX0 TX0 8, w ∈ wsX4_count := by decide +kernel
  have hiX4 : ∀ w ∈ u_ws RX4 TX4 5, w ∈ wsX4_count := by decide +kernel
  have hl := lv_entry ([.ref qx, .int (nI 1)]) (n := 2) (Nat.le_of_ble_eq_true rfl)
  rw [lg_entry_eq]
  generalize (lg_sl ([.ref qx, .int (nI 1)]) ++ List.replicate (2 - (lg_sl ([.ref qx, .int (nI 1)])).length) Slot.unset).toArray = ls at hl ⊢
  have hl : lv_has ls 2 [(0, .ref qx), (1, .int (nI 1))] := hl
  refine lv_iload_n hx hb dX4_count_0 rfl (lv_at hl 1 rfl) ?_
  refine lv_tableIn (off := 47) (tgt := 48) hx hb dX4_count_1 (by decide) (by decide) rfl (by decide) ?_
  refine lv_aload_n hx hb dX4_count_48 rfl (lv_at hl 0 rfl) ?_
  refine va_get (D := D) (ci := 4) (v := .ref qc) (C := RX4) (T := TX4) (N := 5) hx hb hts hiX4 hown hK hP 0 rfl rfl 0 (by decide) (hts (.fieldLink RX4 12 "FaultSearch" "chip" "LFaultSearch$Chip;") (by decide +kernel)) (fun _ h9 => h9) rfl dX4_count_49 ?_
  refine va_get (D := D) (ci := 0) (v := .int (nI ni)) (C := RX0) (T := TX0) (N := 8) hx hb hts hiX0 hown hK hP 1 rfl rfl 6 (by decide) (hts (.fieldLink RX4 43 "FaultSearch$Chip" "inputs" "I") (by decide +kernel)) (fun _ h9 => h9) rfl dX4_count_52 ?_
  exact W.iret (v := (nI ni)) hx hb hr (fun t_9 ht_9 hW_9 => ⟨(nI ni), rfl, rfl, ht_9⟩) (fun q h => nomatch h) dX4_count_55

set_option maxHeartbeats 4000000 in
set_option maxRecDepth 100000 in
theorem c_X4_count_2 (l : Launch) (D : va_G) (cI cJ cZ : ClassId) (qx : Nat) (qc : Nat) (qk : Nat) (q0 : Nat) (q1 : Nat) (qo : Nat) (qv : Nat) (kd : Nat → Int32) (s0 : Nat → Int32) (s1 : Nat → Int32) (on : Nat → Int32) (vl : Nat → Int64) (n : Nat) (ni : Nat) (no : Nat) (qC : Nat) (qS : Nat) (qP : Nat) (st : Nat) : Met l yX4_count wsX4_count ({ frames := 0, cells := 0, slots := 0, locals := 0 } : Room) (va_Pc [.ref qx, .int (nI 2)] (PR D cI cJ cZ [(qx, .inr (4, [.ref qc, .ref qC, .ref qS, .ref qP, .int (nI st)])), (qc, .inr (0, [.ref qk, .ref q0, .ref q1, .ref qo, .ref qv, .int (nI n), .int (nI ni), .int (nI no)])), (qk, .inl (cI, 100, .inl kd)), (q0, .inl (cI, 100, .inl s0)), (q1, .inl (cI, 100, .inl s1)), (qo, .inl (cI, 12, .inl on)), (qv, .inl (cJ, 1600, .inr (.inl vl)))])) (vp_Si (fun r_9 : Int32 => r_9 = (nI no))) 0 0 (fun _ => False) := by
  refine Met.ofW (cc := cX4_count) (maxL := 2) (ret := (some .int)) (by decide) rfl ?_
  intro p e s m args below meth c s₁ B hml hv
  obtain ⟨rfl, hP, hK, hNB⟩ := hv
  have hx := B.exec
  have hb := B.bytes
  have hr := B.returns
  have hts := atoms_spec (ws := wsX4_count) B.pre
  have hown : s.vm.findClass RX4 = some m.cls := findClass_of_methodNamed B.named
  have hlocks := B.notSynchronized
  have hiX0 : ∀ w ∈ u_ws RX0 TX0 8, w ∈ wsX4_count := by decide +kernel
  have hiX4 : ∀ w ∈ u_ws RX4 TX4 5, w ∈ wsX4_count := by decide +kernel
  have hl := lv_entry ([.ref qx, .int (nI 2)]) (n := 2) (Nat.le_of_ble_eq_true rfl)
  rw [lg_entry_eq]
  generalize (lg_sl ([.ref qx, .int (nI 2)]) ++ List.replicate (2 - (lg_sl ([.ref qx, .int (nI 2)])).length) Slot.unset).toArray = ls at hl ⊢
  have hl : lv_has ls 2 [(0, .ref qx), (1, .int (nI 2))] := hl
  refine lv_iload_n hx hb dX4_count_0 rfl (lv_at hl 1 rfl) ?_
  refine lv_tableIn (off := 55) (tgt := 56) hx hb dX4_count_1 (by decide) (by decide) rfl (by decide) ?_
  refine lv_aload_n hx hb dX4_count_56 rfl (lv_at hl 0 rfl) ?_
  refine va_get (D := D) (ci := 4) (v := .ref qc) (C := RX4) (T := TX4) (N := 5) hx hb hts hiX4 hown hK hP 0 rfl rfl 0 (by decide) (hts (.fieldLink RX4 12 "FaultSearch" "chip" "LFaultSearch$Chip;") (by decide +kernel)) (fun _ h9 => h9) rfl dX4_count_57 ?_
  refine va_get (D := D) (ci := 0) (v := .int (nI no)) (C := RX0) (T := TX0) (N := 8) hx hb hts hiX0 hown hK hP 1 rfl rfl 7 (by decide) (hts (.fieldLink RX4 91 "FaultSearch$Chip" "outputs" "I") (by decide +kernel)) (fun _ h9 => h9) rfl dX4_count_60 ?_
  exact W.iret (v := (nI no)) hx hb hr (fun t_9 ht_9 hW_9 => ⟨(nI no), rfl, rfl, ht_9⟩) (fun q h => nomatch h) dX4_count_63

set_option maxHeartbeats 4000000 in
set_option maxRecDepth 100000 in
theorem c_X4_count_3 (l : Launch) (D : va_G) (cI cJ cZ : ClassId) (qx : Nat) (qc : Nat) (qC : Nat) (qS : Nat) (qP : Nat) (qfo : Nat) (qte : Nat) (fd : Nat → Int32) (ts : Nat → Int32) (fc : Nat) (tc : Nat) (st : Nat) : Met l yX4_count wsX4_count ({ frames := 0, cells := 0, slots := 0, locals := 0 } : Room) (va_Pc [.ref qx, .int (nI 3)] (PR D cI cJ cZ [(qx, .inr (4, [.ref qc, .ref qC, .ref qS, .ref qP, .int (nI st)])), (qP, .inr (2, [.ref qfo, .ref qte, .int (nI fc), .int (nI tc)])), (qfo, .inl (cZ, 600, .inl fd)), (qte, .inl (cI, 600, .inl ts))])) (vp_Si (fun r_9 : Int32 => r_9 = (nI fc))) 0 0 (fun _ => False) := by
  refine Met.ofW (cc := cX4_count) (maxL := 2) (ret := (some .int)) (by decide) rfl ?_
  intro p e s m args below meth c s₁ B hml hv
  obtain ⟨rfl, hP, hK, hNB⟩ := hv
  have hx := B.exec
  have hb := B.bytes
  have hr := B.returns
  have hts := atoms_spec (ws := wsX4_count) B.pre
  have hown : s.vm.findClass RX4 = some m.cls := findClass_of_methodNamed B.named
  have hlocks := B.notSynchronized
  have hiX2 : ∀ w ∈ u_ws RX2 TX2 4, w ∈ wsX4_count := by decide +kernel
  have hiX4 : ∀ w ∈ u_ws RX4 TX4 5, w ∈ wsX4_count := by decide +kernel
  have hl := lv_entry ([.ref qx, .int (nI 3)]) (n := 2) (Nat.le_of_ble_eq_true rfl)
  rw [lg_entry_eq]
  generalize (lg_sl ([.ref qx, .int (nI 3)]) ++ List.replicate (2 - (lg_sl ([.ref qx, .int (nI 3)])).length) Slot.unset).toArray = ls at hl ⊢
  have hl : lv_has ls 2 [(0, .ref qx), (1, .int (nI 3))] := hl
  refine lv_iload_n hx hb dX4_count_0 rfl (lv_at hl 1 rfl) ?_
  refine lv_tableIn (off := 63) (tgt := 64) hx hb dX4_count_1 (by decide) (by decide) rfl (by decide) ?_
  refine lv_aload_n hx hb dX4_count_64 rfl (lv_at hl 0 rfl) ?_
  refine va_get (D := D) (ci := 4) (v := .ref qP) (C := RX4) (T := TX4) (N := 5) hx hb hts hiX4 hown hK hP 0 rfl rfl 3 (by decide) (hts (.fieldLink RX4 35 "FaultSearch" "progress" "LFaultSearch$Progress;") (by decide +kernel)) (fun _ h9 => h9) rfl dX4_count_65 ?_
  refine va_get (D := D) (ci := 2) (v := .int (nI fc)) (C := RX2) (T := TX2) (N := 4) hx hb hts hiX2 hown hK hP 1 rfl rfl 2 (by decide) (hts (.fieldLink RX4 196 "FaultSearch$Progress" "foundCount" "I") (by decide +kernel)) (fun _ h9 => h9) rfl dX4_count_68 ?_
  exact W.iret (v := (nI fc)) hx hb hr (fun t_9 ht_9 hW_9 => ⟨(nI fc), rfl, rfl, ht_9⟩) (fun q h => nomatch h) dX4_count_71

set_option maxHeartbeats 4000000 in
set_option maxRecDepth 100000 in
theorem c_X4_count_4 (l : Launch) (D : va_G) (cI cJ cZ : ClassId) (qx : Nat) (qc : Nat) (qC : Nat) (qS : Nat) (qP : Nat) (qfo : Nat) (qte : Nat) (fd : Nat → Int32) (ts : Nat → Int32) (fc : Nat) (tc : Nat) (st : Nat) : Met l yX4_count wsX4_count ({ frames := 0, cells := 0, slots := 0, locals := 0 } : Room) (va_Pc [.ref qx, .int (nI 4)] (PR D cI cJ cZ [(qx, .inr (4, [.ref qc, .ref qC, .ref qS, .ref qP, .int (nI st)])), (qP, .inr (2, [.ref qfo, .ref qte, .int (nI fc), .int (nI tc)])), (qfo, .inl (cZ, 600, .inl fd)), (qte, .inl (cI, 600, .inl ts))])) (vp_Si (fun r_9 : Int32 => r_9 = (nI tc))) 0 0 (fun _ => False) := by
  refine Met.ofW (cc := cX4_count) (maxL := 2) (ret := (some .int)) (by decide) rfl ?_
  intro p e s m args below meth c s₁ B hml hv
  obtain ⟨rfl, hP, hK, hNB⟩ := hv
  have hx := B.exec
  have hb := B.bytes
  have hr := B.returns
  have hts := atoms_spec (ws := wsX4_count) B.pre
  have hown : s.vm.findClass RX4 = some m.cls := findClass_of_methodNamed B.named
  have hlocks := B.notSynchronized
  have hiX2 : ∀ w ∈ u_ws RX2 TX2 4, w ∈ wsX4_count := by decide +kernel
  have hiX4 : ∀ w ∈ u_ws RX4 TX4 5, w ∈ wsX4_count := by decide +kernel
  have hl := lv_entry ([.ref qx, .int (nI 4)]) (n := 2) (Nat.le_of_ble_eq_true rfl)
  rw [lg_entry_eq]
  generalize (lg_sl ([.ref qx, .int (nI 4)]) ++ List.replicate (2 - (lg_sl ([.ref qx, .int (nI 4)])).length) Slot.unset).toArray = ls at hl ⊢
  have hl : lv_has ls 2 [(0, .ref qx), (1, .int (nI 4))] := hl
  refine lv_iload_n hx hb dX4_count_0 rfl (lv_at hl 1 rfl) ?_
  refine lv_tableIn (off := 71) (tgt := 72) hx hb dX4_count_1 (by decide) (by decide) rfl (by decide) ?_
  refine lv_aload_n hx hb dX4_count_72 rfl (lv_at hl 0 rfl) ?_
  refine va_get (D := D) (ci := 4) (v := .ref qP) (C := RX4) (T := TX4) (N := 5) hx hb hts hiX4 hown hK hP 0 rfl rfl 3 (by decide) (hts (.fieldLink RX4 35 "FaultSearch" "progress" "LFaultSearch$Progress;") (by decide +kernel)) (fun _ h9 => h9) rfl dX4_count_73 ?_
  refine va_get (D := D) (ci := 2) (v := .int (nI tc)) (C := RX2) (T := TX2) (N := 4) hx hb hts hiX2 hown hK hP 1 rfl rfl 3 (by decide) (hts (.fieldLink RX4 162 "FaultSearch$Progress" "testCount" "I") (by decide +kernel)) (fun _ h9 => h9) rfl dX4_count_76 ?_
  exact W.iret (v := (nI tc)) hx hb hr (fun t_9 ht_9 hW_9 => ⟨(nI tc), rfl, rfl, ht_9⟩) (fun q h => nomatch h) dX4_count_79

set_option maxHeartbeats 4000000 in
set_option maxRecDepth 100000 in
theorem c_X4_count_5 (l : Launch) (D : va_G) (cI cJ cZ : ClassId) (qx : Nat) (qc : Nat) (qk : Nat) (q0 : Nat) (q1 : Nat) (qo : Nat) (qv : Nat) (kd : Nat → Int32) (s0 : Nat → Int32) (s1 : Nat → Int32) (on : Nat → Int32) (vl : Nat → Int64) (n : Nat) (ni : Nat) (no : Nat) (qC : Nat) (qpa : Nat) (qnu : Nat) (qfi : Nat) (qme : Nat) (qus : Nat) (pa : Nat → Int32) (nu : Nat → Int32) (fi : Nat → Int32) (me : Nat → Int32) (us : Nat → Int32) (cs : Nat) (qS : Nat) (qse : Nat) (qre : Nat) (qcg : Nat) (se : Nat → Int64) (re : Nat → Int32) (cg : Nat → Int64) (qP : Nat) (st : Nat) (sz : Nat) (A : Nat → Prop) (hAe : A = va_A [(qx, .inr (4, [.ref qc, .ref qC, .ref qS, .ref qP, .int (nI st)])), (qc, .inr (0, [.ref qk, .ref q0, .ref q1, .ref qo, .ref qv, .int (nI n), .int (nI ni), .int (nI no)])), (qk, .inl (cI, 100, .inl kd)), (q0, .inl (cI, 100, .inl s0)), (q1, .inl (cI, 100, .inl s1)), (qo, .inl (cI, 12, .inl on)), (qv, .inl (cJ, 1600, .inr (.inl vl))), (qC, .inr (1, [.ref qpa, .ref qnu, .ref qfi, .ref qme, .ref qus, .int (nI cs)])), (qpa, .inl (cI, 600, .inl pa)), (qnu, .inl (cI, 600, .inl nu)), (qfi, .inl (cI, 600, .inl fi)), (qme, .inl (cI, 600, .inl me)), (qus, .inl (cI, 100, .inl us)), (qS, .inr (3, [.ref qc, .ref qse, .ref qre, .ref qcg])), (qse, .inl (cJ, 1600, .inr (.inl se))), (qre, .inl (cZ, 100, .inl re)), (qcg, .inl (cJ, 100, .inr (.inl cg)))] sz) (hn : n ≤ 100) (hno : no ≤ 12) (hwf : WF n kd s0 s1) (hwo : WO n no on) (hst : st < 2) (hcs : CST kd s0 s1 on n no st nu fi me cs) (hni : ni ≤ 10) (hs : SOK kd s0 s1 on vl n ni no se re) : Met l yX4_count wsX4_count ({ frames := 6, cells := 0, slots := 0, locals := 181 } : Room) (va_Pc [.ref qx, .int (nI 5)] (PW D cI cJ cZ [(qx, .inr (4, [.ref qc, .ref qC, .ref qS, .ref qP, .int (nI st)])), (qc, .inr (0, [.ref qk, .ref q0, .ref q1, .ref qo, .ref qv, .int (nI n), .int (nI ni), .int (nI no)])), (qk, .inl (cI, 100, .inl kd)), (q0, .inl (cI, 100, .inl s0)), (q1, .inl (cI, 100, .inl s1)), (qo, .inl (cI, 12, .inl on)), (qv, .inl (cJ, 1600, .inr (.inl vl))), (qC, .inr (1, [.ref qpa, .ref qnu, .ref qfi, .ref qme, .ref qus, .int (nI cs)])), (qpa, .inl (cI, 600, .inl pa)), (qnu, .inl (cI, 600, .inl nu)), (qfi, .inl (cI, 600, .inl fi)), (qme, .inl (cI, 600, .inl me)), (qus, .inl (cI, 100, .inl us)), (qS, .inr (3, [.ref qc, .ref qse, .ref qre, .ref qcg])), (qse, .inl (cJ, 1600, .inr (.inl se))), (qre, .inl (cZ, 100, .inl re)), (qcg, .inl (cJ, 100, .inr (.inl cg)))] sz)) (va_Qi (fun (r_9 : Int32) (u9 : (Nat → Int32) × (Nat → Int32) × (Nat → Int32) × (Nat → Int32) × (Nat → Int32) × Nat × (Nat → Int64) × (Nat → Int32) × (Nat → Int64)) => match u9 with | (pa2, nu2, fi2, me2, us2, cs2, se2, re2, cg2) => r_9 = (nI (cntF (fun k => decide ((fun k => leastF (fun w => shw kd s0 s1 on vl n ni no (cn (fi2 k)) w) (wordsN ni) 0) k = (-1))) cs2)) ∧ CGood kd s0 s1 on n no nu2 fi2 me2 cs2 ∧ SOK kd s0 s1 on vl n ni no se2 re2) (fun (u9 : (Nat → Int32) × (Nat → Int32) × (Nat → Int32) × (Nat → Int32) × (Nat → Int32) × Nat × (Nat → Int64) × (Nat → Int32) × (Nat → Int64)) t => match u9 with | (pa2, nu2, fi2, me2, us2, cs2, se2, re2, cg2) => PQ D A [(qx, .inr (4, [.ref qc, .ref qC, .ref qS, .ref qP, .int (nI 0)])), (qc, .inr (0, [.ref qk, .ref q0, .ref q1, .ref qo, .ref qv, .int (nI n), .int (nI ni), .int (nI no)])), (qk, .inl (cI, 100, .inl kd)), (q0, .inl (cI, 100, .inl s0)), (q1, .inl (cI, 100, .inl s1)), (qo, .inl (cI, 12, .inl on)), (qv, .inl (cJ, 1600, .inr (.inl vl))), (qC, .inr (1, [.ref qpa, .ref qnu, .ref qfi, .ref qme, .ref qus, .int (nI cs2)])), (qpa, .inl (cI, 600, .inl pa2)), (qnu, .inl (cI, 600, .inl nu2)), (qfi, .inl (cI, 600, .inl fi2)), (qme, .inl (cI, 600, .inl me2)), (qus, .inl (cI, 100, .inl us2)), (qS, .inr (3, [.ref qc, .ref qse, .ref qre, .ref qcg])), (qse, .inl (cJ, 1600, .inr (.inl se2))), (qre, .inl (cZ, 100, .inl re2)), (qcg, .inl (cJ, 100, .inr (.inl cg2)))] t) A) 0 0 A := by
  refine Met.ofW (cc := cX4_count) (maxL := 2) (ret := (some .int)) (by decide) rfl ?_
  intro p e s m args below meth c s₁ B hml hv
  obtain ⟨rfl, hsz, ⟨hP, hK, hNB⟩, hD0⟩ := hv
  have hx := B.exec
  have hb := B.bytes
  have hr := B.returns
  have hts := atoms_spec (ws := wsX4_count) B.pre
  have hown : s.vm.findClass RX4 = some m.cls := findClass_of_methodNamed B.named
  have hlocks := B.notSynchronized
  subst hsz
  have hD : va_D A [(qx, .inr (4, [.ref qc, .ref qC, .ref qS, .ref qP, .int (nI st)])), (qc, .inr (0, [.ref qk, .ref q0, .ref q1, .ref qo, .ref qv, .int (nI n), .int (nI ni), .int (nI no)])), (qk, .inl (cI, 100, .inl kd)), (q0, .inl (cI, 100, .inl s0)), (q1, .inl (cI, 100, .inl s1)), (qo, .inl (cI, 12, .inl on)), (qv, .inl (cJ, 1600, .inr (.inl vl))), (qC, .inr (1, [.ref qpa, .ref qnu, .ref qfi, .ref qme, .ref qus, .int (nI cs)])), (qpa, .inl (cI, 600, .inl pa)), (qnu, .inl (cI, 600, .inl nu)), (qfi, .inl (cI, 600, .inl fi)), (qme, .inl (cI, 600, .inl me)), (qus, .inl (cI, 100, .inl us)), (qS, .inr (3, [.ref qc, .ref qse, .ref qre, .ref qcg])), (qse, .inl (cJ, 1600, .inr (.inl se))), (qre, .inl (cZ, 100, .inl re)), (qcg, .inl (cJ, 100, .inr (.inl cg)))] := by rw [hAe]; exact hD0.self
  have hA : ∀ q : Nat, s.heap.size ≤ q → A q := fun q h => by rw [hAe]; exact Or.inr h
  have hS : va_S A s.heap s.heap [] := va_S.rf
  have hl := lv_entry ([.ref qx, .int (nI 5)]) (n := 2) (Nat.le_of_ble_eq_true rfl)
  rw [lg_entry_eq]
  generalize (lg_sl ([.ref qx, .int (nI 5)]) ++ List.replicate (2 - (lg_sl ([.ref qx, .int (nI 5)])).length) Slot.unset).toArray = ls at hl ⊢
  have hl : lv_has ls 2 [(0, .ref qx), (1, .int (nI 5))] := hl
  refine lv_iload_n hx hb dX4_count_0 rfl (lv_at hl 1 rfl) ?_
  refine lv_tableIn (off := 79) (tgt := 80) hx hb dX4_count_1 (by decide) (by decide) rfl (by decide) ?_
  refine lv_aload_n hx hb dX4_count_80 rfl (lv_at hl 0 rfl) ?_
  have hPc := hP.sub (ws' := [(qx, .inr (4, [.ref qc, .ref qC, .ref qS, .ref qP, .int (nI st)])), (qc, .inr (0, [.ref qk, .ref q0, .ref q1, .ref qo, .ref qv, .int (nI n), .int (nI ni), .int (nI no)])), (qk, .inl (cI, 100, .inl kd)), (q0, .inl (cI, 100, .inl s0)), (q1, .inl (cI, 100, .inl s1)), (qo, .inl (cI, 12, .inl on)), (qv, .inl (cJ, 1600, .inr (.inl vl))), (qC, .inr (1, [.ref qpa, .ref qnu, .ref qfi, .ref qme, .ref qus, .int (nI cs)])), (qpa, .inl (cI, 600, .inl pa)), (qnu, .inl (cI, 600, .inl nu)), (qfi, .inl (cI, 600, .inl fi)), (qme, .inl (cI, 600, .inl me)), (qus, .inl (cI, 100, .inl us)), (qS, .inr (3, [.ref qc, .ref qse, .ref qre, .ref qcg])), (qse, .inl (cJ, 1600, .inr (.inl se))), (qre, .inl (cZ, 100, .inl re)), (qcg, .inl (cJ, 100, .inr (.inl cg)))]) [0, 1, 2, 3, 4, 5, 6, 7, 8, 9, 10, 11, 12, 13, 14, 15, 16] rfl
  have hDc := hD.sub (ws' := [(qx, .inr (4, [.ref qc, .ref qC, .ref qS, .ref qP, .int (nI st)])), (qc, .inr (0, [.ref qk, .ref q0, .ref q1, .ref qo, .ref qv, .int (nI n), .int (nI ni), .int (nI no)])), (qk, .inl (cI, 100, .inl kd)), (q0, .inl (cI, 100, .inl s0)), (q1, .inl (cI, 100, .inl s1)), (qo, .inl (cI, 12, .inl on)), (qv, .inl (cJ, 1600, .inr (.inl vl))), (qC, .inr (1, [.ref qpa, .ref qnu, .ref qfi, .ref qme, .ref qus, .int (nI cs)])), (qpa, .inl (cI, 600, .inl pa)), (qnu, .inl (cI, 600, .inl nu)), (qfi, .inl (cI, 600, .inl fi)), (qme, .inl (cI, 600, .inl me)), (qus, .inl (cI, 100, .inl us)), (qS, .inr (3, [.ref qc, .ref qse, .ref qre, .ref qcg])), (qse, .inl (cJ, 1600, .inr (.inl se))), (qre, .inl (cZ, 100, .inl re)), (qcg, .inl (cJ, 100, .inr (.inl cg)))]) [0, 1, 2, 3, 4, 5, 6, 7, 8, 9, 10, 11, 12, 13, 14, 15, 16] (by decide) rfl
  have hFc := va_free (wc := [(qx, .inr (4, [.ref qc, .ref qC, .ref qS, .ref qP, .int (nI st)])), (qc, .inr (0, [.ref qk, .ref q0, .ref q1, .ref qo, .ref qv, .int (nI n), .int (nI ni), .int (nI no)])), (qk, .inl (cI, 100, .inl kd)), (q0, .inl (cI, 100, .inl s0)), (q1, .inl (cI, 100, .inl s1)), (qo, .inl (cI, 12, .inl on)), (qv, .inl (cJ, 1600, .inr (.inl vl))), (qC, .inr (1, [.ref qpa, .ref qnu, .ref qfi, .ref qme, .ref qus, .int (nI cs)])), (qpa, .inl (cI, 600, .inl pa)), (qnu, .inl (cI, 600, .inl nu)), (qfi, .inl (cI, 600, .inl fi)), (qme, .inl (cI, 600, .inl me)), (qus, .inl (cI, 100, .inl us)), (qS, .inr (3, [.ref qc, .ref qse, .ref qre, .ref qcg])), (qse, .inl (cJ, 1600, .inr (.inl se))), (qre, .inl (cZ, 100, .inl re)), (qcg, .inl (cJ, 100, .inr (.inl cg)))]) hD hS hA [0, 1, 2, 3, 4, 5, 6, 7, 8, 9, 10, 11, 12, 13, 14, 15, 16] rfl
  refine va_calli (va_runV (As := []) (rest := []) ⟨hx, hb, hml, hown, hts⟩ (c_X4_untestable l D cI cJ cZ qx qc qk q0 q1 qo qv kd s0 s1 on vl n ni no qC qpa qnu qfi qme qus pa nu fi me us cs qS qse qre qcg se re cg qP st s.heap.size _ rfl (by omega) (by omega) hwf hwo (by omega) hcs (by omega) hs) (cwV 0 hts gX4_count_X4_untestable rfl rfl rfl (by decide +kernel) ⟨Nat.le_of_ble_eq_true rfl, Nat.le_of_ble_eq_true rfl⟩) ⟨PW.blind, va_recv hK hPc (ci := 4) (q0 := 0) rfl rfl, fun U hU hW => ⟨rfl, PW.to hPc hK hNB hDc hU hW⟩⟩ rfl rfl hl.1 rfl (lv_room (Nat.le_of_ble_eq_true rfl)) dX4_count_81 ⟨Nat.le_of_ble_eq_true rfl, Nat.le_of_ble_eq_true rfl⟩) hS (fun q _ h => hFc q h) hFc (fun r_1 u_9 t_9 H1_9 locs ht_9 hvm_9 hw_9 hB_9 hz1_9 hk1_9 hS => ?_)
  obtain ⟨pa2_2, nu2_3, fi2_4, me2_5, us2_6, cs2_7, se2_8, re2_9, cg2_10⟩ := u_9
  obtain ⟨hP1_9, hD1_9⟩ := hB_9
  rw [ht_9] at hP1_9
  obtain ⟨rfl, k_G, k_ok⟩ := hw_9
  have k_G : CGood kd s0 s1 on n no nu2_3 fi2_4 me2_5 cs2_7 := k_G
  have k_ok : SOK kd s0 s1 on vl n ni no se2_8 re2_9 := k_ok
  obtain ⟨hP, hD⟩ := va_join (wr := []) (w1 := [(qx, .inr (4, [.ref qc, .ref qC, .ref qS, .ref qP, .int (nI 0)])), (qc, .inr (0, [.ref qk, .ref q0, .ref q1, .ref qo, .ref qv, .int (nI n), .int (nI ni), .int (nI no)])), (qk, .inl (cI, 100, .inl kd)), (q0, .inl (cI, 100, .inl s0)), (q1, .inl (cI, 100, .inl s1)), (qo, .inl (cI, 12, .inl on)), (qv, .inl (cJ, 1600, .inr (.inl vl))), (qC, .inr (1, [.ref qpa, .ref qnu, .ref qfi, .ref qme, .ref qus, .int (nI cs2_7)])), (qpa, .inl (cI, 600, .inl pa2_2)), (qnu, .inl (cI, 600, .inl nu2_3)), (qfi, .inl (cI, 600, .inl fi2_4)), (qme, .inl (cI, 600, .inl me2_5)), (qus, .inl (cI, 100, .inl us2_6)), (qS, .inr (3, [.ref qc, .ref qse, .ref qre, .ref qcg])), (qse, .inl (cJ, 1600, .inr (.inl se2_8))), (qre, .inl (cZ, 100, .inl re2_9)), (qcg, .inl (cJ, 100, .inr (.inl cg2_10)))]) hP hD [0, 1, 2, 3, 4, 5, 6, 7, 8, 9, 10, 11, 12, 13, 14, 15, 16] [] rfl rfl (by decide) (by decide) hk1_9 hFc hP1_9 hD1_9
  generalize H1_9 = H at hP hS ⊢
  have hP : va_P D vwCl [(qx, .inr (4, [.ref qc, .ref qC, .ref qS, .ref qP, .int (nI 0)])), (qc, .inr (0, [.ref qk, .ref q0, .ref q1, .ref qo, .ref qv, .int (nI n), .int (nI ni), .int (nI no)])), (qk, .inl (cI, 100, .inl kd)), (q0, .inl (cI, 100, .inl s0)), (q1, .inl (cI, 100, .inl s1)), (qo, .inl (cI, 12, .inl on)), (qv, .inl (cJ, 1600, .inr (.inl vl))), (qC, .inr (1, [.ref qpa, .ref qnu, .ref qfi, .ref qme, .ref qus, .int (nI cs2_7)])), (qpa, .inl (cI, 600, .inl pa2_2)), (qnu, .inl (cI, 600, .inl nu2_3)), (qfi, .inl (cI, 600, .inl fi2_4)), (qme, .inl (cI, 600, .inl me2_5)), (qus, .inl (cI, 100, .inl us2_6)), (qS, .inr (3, [.ref qc, .ref qse, .ref qre, .ref qcg])), (qse, .inl (cJ, 1600, .inr (.inl se2_8))), (qre, .inl (cZ, 100, .inl re2_9)), (qcg, .inl (cJ, 100, .inr (.inl cg2_10)))] H := hP
  have hD : va_D A [(qx, .inr (4, [.ref qc, .ref qC, .ref qS, .ref qP, .int (nI 0)])), (qc, .inr (0, [.ref qk, .ref q0, .ref q1, .ref qo, .ref qv, .int (nI n), .int (nI ni), .int (nI no)])), (qk, .inl (cI, 100, .inl kd)), (q0, .inl (cI, 100, .inl s0)), (q1, .inl (cI, 100, .inl s1)), (qo, .inl (cI, 12, .inl on)), (qv, .inl (cJ, 1600, .inr (.inl vl))), (qC, .inr (1, [.ref qpa, .ref qnu, .ref qfi, .ref qme, .ref qus, .int (nI cs2_7)])), (qpa, .inl (cI, 600, .inl pa2_2)), (qnu, .inl (cI, 600, .inl nu2_3)), (qfi, .inl (cI, 600, .inl fi2_4)), (qme, .inl (cI, 600, .inl me2_5)), (qus, .inl (cI, 100, .inl us2_6)), (qS, .inr (3, [.ref qc, .ref qse, .ref qre, .ref qcg])), (qse, .inl (cJ, 1600, .inr (.inl se2_8))), (qre, .inl (cZ, 100, .inl re2_9)), (qcg, .inl (cJ, 100, .inr (.inl cg2_10)))] := hD
  exact W.iret (v := (nI (cntF (fun k => decide ((fun k => leastF (fun w => shw kd s0 s1 on vl n ni no (cn (fi2_4 k)) w) (wordsN ni) 0) k = (-1))) cs2_7))) hx hb hr (fun t_9 ht_9 hW_9 => ⟨⟨(nI (cntF (fun k => decide ((fun k => leastF (fun w => shw kd s0 s1 on vl n ni no (cn (fi2_4 k)) w) (wordsN ni) 0) k = (-1))) cs2_7)), (pa2_2, nu2_3, fi2_4, me2_5, us2_6, cs2_7, se2_8, re2_9, cg2_10), rfl, (show (nI (cntF (fun k => decide ((fun k => leastF (fun w => shw kd s0 s1 on vl n ni no (cn (fi2_4 k)) w) (wordsN ni) 0) k = (-1))) cs2_7)) = (nI (cntF (fun k => decide ((fun k => leastF (fun w => shw kd s0 s1 on vl n ni no (cn (fi2_4 k)) w) (wordsN ni) 0) k = (-1))) cs2_7)) ∧ CGood kd s0 s1 on n no nu2_3 fi2_4 me2_5 cs2_7 ∧ SOK kd s0 s1 on vl n ni no se2_8 re2_9 from ⟨rfl, k_G, k_ok⟩), ⟨by rw [ht_9]; exact hP, hD⟩⟩, hS.F ht_9⟩) hS.2.2 dX4_count_84
