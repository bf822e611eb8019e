set_option maxHeartbeats 4000000 in
set_option maxRecDepth 100000 in
theorem c_X4_refresh (l : Launch) (D : va_G) (cI cJ cZ : ClassId) (qx : Nat) (qc : Nat) (qk : Nat) (q0 : Nat) (q1 : Nat) (qo : Nat) (qv : Nat) (kd : Nat → Int32) (s0 : Nat → Int32) (s1 : Nat → Int32) (on : Nat → Int32) (vl : Nat → Int64) (n : Nat) (ni : Nat) (no : Nat) (qC : Nat) (qpa : Nat) (qnu : Nat) (qfi : Nat) (qme : Nat) (qus : Nat) (pa : Nat → Int32) (nu : Nat → Int32) (fi : Nat → Int32) (me : Nat → Int32) (us : Nat → Int32) (cs : Nat) (qS : Nat) (qP : Nat) (st : Nat) (sz : Nat) (A : Nat → Prop) (hAe : A = va_A [(qx, .inr (4, [.ref qc, .ref qC, .ref qS, .ref qP, .int (nI st)])), (qc, .inr (0, [.ref qk, .ref q0, .ref q1, .ref qo, .ref qv, .int (nI n), .int (nI ni), .int (nI no)])), (qk, .inl (cI, 100, .inl kd)), (q0, .inl (cI, 100, .inl s0)), (q1, .inl (cI, 100, .inl s1)), (qo, .inl (cI, 12, .inl on)), (qv, .inl (cJ, 1600, .inr (.inl vl))), (qC, .inr (1, [.ref qpa, .ref qnu, .ref qfi, .ref qme, .ref qus, .int (nI cs)])), (qpa, .inl (cI, 600, .inl pa)), (qnu, .inl (cI, 600, .inl nu)), (qfi, .inl (cI, 600, .inl fi)), (qme, .inl (cI, 600, .inl me)), (qus, .inl (cI, 100, .inl us))] sz) (hn : n ≤ 100) (hno : no ≤ 12) (hwf : WF n kd s0 s1) (hwo : WO n no on) (hst : st < 2) (hcs : CST kd s0 s1 on n no st nu fi me cs) : Met l yX4_refresh wsX4_refresh ({ frames := 4, cells := 0, slots := 0, locals := 97 } : Room) (va_Pc [.ref qx] (PW D cI cJ cZ [(qx, .inr (4, [.ref qc, .ref qC, .ref qS, .ref qP, .int (nI st)])), (qc, .inr (0, [.ref qk, .ref q0, .ref q1, .ref qo, .ref qv, .int (nI n), .int (nI ni), .int (nI no)])), (qk, .inl (cI, 100, .inl kd)), (q0, .inl (cI, 100, .inl s0)), (q1, .inl (cI, 100, .inl s1)), (qo, .inl (cI, 12, .inl on)), (qv, .inl (cJ, 1600, .inr (.inl vl))), (qC, .inr (1, [.ref qpa, .ref qnu, .ref qfi, .ref qme, .ref qus, .int (nI cs)])), (qpa, .inl (cI, 600, .inl pa)), (qnu, .inl (cI, 600, .inl nu)), (qfi, .inl (cI, 600, .inl fi)), (qme, .inl (cI, 600, .inl me)), (qus, .inl (cI, 100, .inl us))] sz)) (va_Qv (fun u9 : (Nat → Int32) × (Nat → Int32) × (Nat → Int32) × (Nat → Int32) × (Nat → Int32) × Nat => match u9 with | (pa2, nu2, fi2, me2, us2, cs2) => CGood kd s0 s1 on n no nu2 fi2 me2 cs2) (fun (u9 : (Nat → Int32) × (Nat → Int32) × (Nat → Int32) × (Nat → Int32) × (Nat → Int32) × Nat) t => match u9 with | (pa2, nu2, fi2, me2, us2, cs2) => PQ D A [(qx, .inr (4, [.ref qc, .ref qC, .ref qS, .ref qP, .int (nI 0)])), (qc, .inr (0, [.ref qk, .ref q0, .ref q1, .ref qo, .ref qv, .int (nI n), .int (nI ni), .int (nI no)])), (qk, .inl (cI, 100, .inl kd)), (q0, .inl (cI, 100, .inl s0)), (q1, .inl (cI, 100, .inl s1)), (qo, .inl (cI, 12, .inl on)), (qv, .inl (cJ, 1600, .inr (.inl vl))), (qC, .inr (1, [.ref qpa, .ref qnu, .ref qfi, .ref qme, .ref qus, .int (nI cs2)])), (qpa, .inl (cI, 600, .inl pa2)), (qnu, .inl (cI, 600, .inl nu2)), (qfi, .inl (cI, 600, .inl fi2)), (qme, .inl (cI, 600, .inl me2)), (qus, .inl (cI, 100, .inl us2))] t) A) 0 0 A := by
  refine Met.ofW (cc := cX4_refresh) (maxL := 1) (ret := none) (by decide) rfl ?_
  intro p e s m args below meth c s₁ B hml hv
  obtain ⟨rfl, hsz, ⟨hP, hK, hNB⟩, hD0⟩ := hv
  have hx := B.exec
  have hb := B.bytes
  have hr := B.returns
  have hts := atoms_spec (ws := wsX4_refresh) B.pre
  have hown : s.vm.findClass RX4 = some m.cls := findClass_of_methodNamed B.named
  have hlocks := B.notSynchronized
  have hiX4 : ∀ w ∈ u_ws RX4 TX4 5, w ∈ wsX4_refresh := by decide +kernel
  subst hsz
  have hD : va_D A [(qx, .inr (4, [.ref qc, .ref qC, .ref qS, .ref qP, .int (nI st)])), (qc, .inr (0, [.ref qk, .ref q0, .ref q1, .ref qo, .ref qv, .int (nI n), .int (nI ni), .int (nI no)])), (qk, .inl (cI, 100, .inl kd)), (q0, .inl (cI, 100, .inl s0)), (q1, .inl (cI, 100, .inl s1)), (qo, .inl (cI, 12, .inl on)), (qv, .inl (cJ, 1600, .inr (.inl vl))), (qC, .inr (1, [.ref qpa, .ref qnu, .ref qfi, .ref qme, .ref qus, .int (nI cs)])), (qpa, .inl (cI, 600, .inl pa)), (qnu, .inl (cI, 600, .inl nu)), (qfi, .inl (cI, 600, .inl fi)), (qme, .inl (cI, 600, .inl me)), (qus, .inl (cI, 100, .inl us))] := by rw [hAe]; exact hD0.self
  have hA : ∀ q : Nat, s.heap.size ≤ q → A q := fun q h => by rw [hAe]; exact Or.inr h
  have hS : va_S A s.heap s.heap [] := va_S.rf
  have hl := lv_entry ([.ref qx]) (n := 1) (Nat.le_of_ble_eq_true rfl)
  rw [lg_entry_eq]
  generalize (lg_sl ([.ref qx]) ++ List.replicate (1 - (lg_sl ([.ref qx])).length) Slot.unset).toArray = ls at hl ⊢
  have hl : lv_has ls 1 [(0, .ref qx)] := hl
  refine lv_aload_n hx hb dX4_refresh_0 rfl (lv_at hl 0 rfl) ?_
  refine va_get (D := D) (ci := 4) (v := .int (nI st)) (C := RX4) (T := TX4) (N := 5) hx hb hts hiX4 hown hK hP 0 rfl rfl 4 (by decide) (hts (.fieldLink RX4 39 "FaultSearch" "stale" "Z") (by decide +kernel)) (fun _ h9 => h9) rfl dX4_refresh_1 ?_
  refine lv_if_eq (tgt := 23) hx hb dX4_refresh_4 (by decide) (fun c_4 => ?_) (fun c_4 => ?_)
  · skip
    rw [zc_eq0 (by omega)] at c_4
    obtain rfl : st = 0 := by omega
    exact W.vret hx hb hr (fun t_9 ht_9 hW_9 => ⟨⟨(pa, nu, fi, me, us, cs), rfl, (show CGood kd s0 s1 on n no nu fi me cs from (by rcases hcs with h9 | h9; omega; exact h9.2)), ⟨by rw [ht_9]; exact hP, hD⟩⟩, hS.F ht_9⟩) hS.2.2 dX4_refresh_23
  · skip
    rw [zc_eq0 (by omega)] at c_4
    refine lv_aload_n hx hb dX4_refresh_7 rfl (lv_at hl 0 rfl) ?_
    refine va_get (D := D) (ci := 4) (v := .ref qC) (C := RX4) (T := TX4) (N := 5) hx hb hts hiX4 hown hK hP 0 rfl rfl 1 (by decide) (hts (.fieldLink RX4 19 "FaultSearch" "classes" "LFaultSearch$Classes;") (by decide +kernel)) (fun _ h9 => h9) rfl dX4_refresh_8 ?_
    refine lv_aload_n hx hb dX4_refresh_11 rfl (lv_at hl 0 rfl) ?_
    refine va_get (D := D) (ci := 4) (v := .ref qc) (C := RX4) (T := TX4) (N := 5) hx hb hts hiX4 hown hK hP 0 rfl rfl 0 (by decide) (hts (.fieldLink RX4 12 "FaultSearch" "chip" "LFaultSearch$Chip;") (by decide +kernel)) (fun _ h9 => h9) rfl dX4_refresh_12 ?_
    have hPc := hP.sub (ws' := [(qC, .inr (1, [.ref qpa, .ref qnu, .ref qfi, .ref qme, .ref qus, .int (nI cs)])), (qpa, .inl (cI, 600, .inl pa)), (qnu, .inl (cI, 600, .inl nu)), (qfi, .inl (cI, 600, .inl fi)), (qme, .inl (cI, 600, .inl me)), (qus, .inl (cI, 100, .inl us)), (qc, .inr (0, [.ref qk, .ref q0, .ref q1, .ref qo, .ref qv, .int (nI n), .int (nI ni), .int (nI no)])), (qk, .inl (cI, 100, .inl kd)), (q0, .inl (cI, 100, .inl s0)), (q1, .inl (cI, 100, .inl s1)), (qo, .inl (cI, 12, .inl on)), (qv, .inl (cJ, 1600, .inr (.inl vl)))]) [7, 8, 9, 10, 11, 12, 1, 2, 3, 4, 5, 6] rfl
    have hDc := hD.sub (ws' := [(qC, .inr (1, [.ref qpa, .ref qnu, .ref qfi, .ref qme, .ref qus, .int (nI cs)])), (qpa, .inl (cI, 600, .inl pa)), (qnu, .inl (cI, 600, .inl nu)), (qfi, .inl (cI, 600, .inl fi)), (qme, .inl (cI, 600, .inl me)), (qus, .inl (cI, 100, .inl us)), (qc, .inr (0, [.ref qk, .ref q0, .ref q1, .ref qo, .ref qv, .int (nI n), .int (nI ni), .int (nI no)])), (qk, .inl (cI, 100, .inl kd)), (q0, .inl (cI, 100, .inl s0)), (q1, .inl (cI, 100, .inl s1)), (qo, .inl (cI, 12, .inl on)), (qv, .inl (cJ, 1600, .inr (.inl vl)))]) [7, 8, 9, 10, 11, 12, 1, 2, 3, 4, 5, 6] (by decide) rfl
    have hFc := va_free (wc := [(qC, .inr (1, [.ref qpa, .ref qnu, .ref qfi, .ref qme, .ref qus, .int (nI cs)])), (qpa, .inl (cI, 600, .inl pa)), (qnu, .inl (cI, 600, .inl nu)), (qfi, .inl (cI, 600, .inl fi)), (qme, .inl (cI, 600, .inl me)), (qus, .inl (cI, 100, .inl us)), (qc, .inr (0, [.ref qk, .ref q0, .ref q1, .ref qo, .ref qv, .int (nI n), .int (nI ni), .int (nI no)])), (qk, .inl (cI, 100, .inl kd)), (q0, .inl (cI, 100, .inl s0)), (q1, .inl (cI, 100, .inl s1)), (qo, .inl (cI, 12, .inl on)), (qv, .inl (cJ, 1600, .inr (.inl vl)))]) hD hS hA [7, 8, 9, 10, 11, 12, 1, 2, 3, 4, 5, 6] rfl
    refine va_callv (va_runV (As := [.ref qc]) (rest := []) ⟨hx, hb, hml, hown, hts⟩ (c_X1_sort l D cI cJ cZ qC qpa qnu qfi qme qus pa nu fi me us cs qc qk q0 q1 qo qv kd s0 s1 on vl n ni no s.heap.size _ rfl (by omega) (by omega) hwf hwo) (cwV 1 hts gX4_refresh_X1_sort rfl rfl rfl (by decide +kernel) ⟨Nat.le_of_ble_eq_true rfl, Nat.le_of_ble_eq_true rfl⟩) ⟨PW.blind, va_recv hK hPc (ci := 1) (q0 := 0) rfl rfl, fun U hU hW => ⟨rfl, PW.to hPc hK hNB hDc hU hW⟩⟩ rfl rfl hl.1 rfl (lv_room (Nat.le_of_ble_eq_true rfl)) dX4_refresh_15 ⟨Nat.le_of_ble_eq_true rfl, Nat.le_of_ble_eq_true rfl⟩) hS (fun q _ h => hFc q h) hFc (fun u_9 t_9 H1_9 locs ht_9 hvm_9 hw_9 hB_9 hz1_9 hk1_9 hS => ?_)
    obtain ⟨pa2_2, nu2_3, fi2_4, me2_5, us2_6, cs2_7⟩ := u_9
    obtain ⟨hP1_9, hD1_9⟩ := hB_9
    rw [ht_9] at hP1_9
    have k_E := hw_9
    have k_E : (nu2_3, fi2_4, me2_5, cs2_7) = enE (mrgs (srP kd s0 s1 on n no n) id) (lnL kd n) (nu, fi, me, 0) := k_E
    obtain ⟨hP, hD⟩ := va_join (wr := [(qx, .inr (4, [.ref qc, .ref qC, .ref qS, .ref qP, .int (nI st)]))]) (w1 := [(qC, .inr (1, [.ref qpa, .ref qnu, .ref qfi, .ref qme, .ref qus, .int (nI cs2_7)])), (qpa, .inl (cI, 600, .inl pa2_2)), (qnu, .inl (cI, 600, .inl nu2_3)), (qfi, .inl (cI, 600, .inl fi2_4)), (qme, .inl (cI, 600, .inl me2_5)), (qus, .inl (cI, 100, .inl us2_6)), (qc, .inr (0, [.ref qk, .ref q0, .ref q1, .ref qo, .ref qv, .int (nI n), .int (nI ni), .int (nI no)])), (qk, .inl (cI, 100, .inl kd)), (q0, .inl (cI, 100, .inl s0)), (q1, .inl (cI, 100, .inl s1)), (qo, .inl (cI, 12, .inl on)), (qv, .inl (cJ, 1600, .inr (.inl vl)))]) hP hD [7, 8, 9, 10, 11, 12, 1, 2, 3, 4, 5, 6] [0] rfl rfl (by decide) (by decide) hk1_9 hFc hP1_9 hD1_9
    have hP := hP.sub (ws' := [(qx, .inr (4, [.ref qc, .ref qC, .ref qS, .ref qP, .int (nI st)])), (qc, .inr (0, [.ref qk, .ref q0, .ref q1, .ref qo, .ref qv, .int (nI n), .int (nI ni), .int (nI no)])), (qk, .inl (cI, 100, .inl kd)), (q0, .inl (cI, 100, .inl s0)), (q1, .inl (cI, 100, .inl s1)), (qo, .inl (cI, 12, .inl on)), (qv, .inl (cJ, 1600, .inr (.inl vl))), (qC, .inr (1, [.ref qpa, .ref qnu, .ref qfi, .ref qme, .ref qus, .int (nI cs2_7)])), (qpa, .inl (cI, 600, .inl pa2_2)), (qnu, .inl (cI, 600, .inl nu2_3)), (qfi, .inl (cI, 600, .inl fi2_4)), (qme, .inl (cI, 600, .inl me2_5)), (qus, .inl (cI, 100, .inl us2_6))]) [0, 7, 8, 9, 10, 11, 12, 1, 2, 3, 4, 5, 6] rfl
    have hD := hD.sub (ws' := [(qx, .inr (4, [.ref qc, .ref qC, .ref qS, .ref qP, .int (nI st)])), (qc, .inr (0, [.ref qk, .ref q0, .ref q1, .ref qo, .ref qv, .int (nI n), .int (nI ni), .int (nI no)])), (qk, .inl (cI, 100, .inl kd)), (q0, .inl (cI, 100, .inl s0)), (q1, .inl (cI, 100, .inl s1)), (qo, .inl (cI, 12, .inl on)), (qv, .inl (cJ, 1600, .inr (.inl vl))), (qC, .inr (1, [.ref qpa, .ref qnu, .ref qfi, .ref qme, .ref qus, .int (nI cs2_7)])), (qpa, .inl (cI, 600, .inl pa2_2)), (qnu, .inl (cI, 600, .inl nu2_3)), (qfi, .inl (cI, 600, .inl fi2_4)), (qme, .inl (cI, 600, .inl me2_5)), (qus, .inl (cI, 100, .inl us2_6))]) [0, 7, 8, 9, 10, 11, 12, 1, 2, 3, 4, 5, 6] (by decide) rfl
    generalize H1_9 = H at hP hS ⊢
    have hP : va_P D vwCl [(qx, .inr (4, [.ref qc, .ref qC, .ref qS, .ref qP, .int (nI st)])), (qc, .inr (0, [.ref qk, .ref q0, .ref q1, .ref qo, .ref qv, .int (nI n), .int (nI ni), .int (nI no)])), (qk, .inl (cI, 100, .inl kd)), (q0, .inl (cI, 100, .inl s0)), (q1, .inl (cI, 100, .inl s1)), (qo, .inl (cI, 12, .inl on)), (qv, .inl (cJ, 1600, .inr (.inl vl))), (qC, .inr (1, [.ref qpa, .ref qnu, .ref qfi, .ref qme, .ref qus, .int (nI cs2_7)])), (qpa, .inl (cI, 600, .inl pa2_2)), (qnu, .inl (cI, 600, .inl nu2_3)), (qfi, .inl (cI, 600, .inl fi2_4)), (qme, .inl (cI, 600, .inl me2_5)), (qus, .inl (cI, 100, .inl us2_6))] H := hP
    have hD : va_D A [(qx, .inr (4, [.ref qc, .ref qC, .ref qS, .ref qP, .int (nI st)])), (qc, .inr (0, [.ref qk, .ref q0, .ref q1, .ref qo, .ref qv, .int (nI n), .int (nI ni), .int (nI no)])), (qk, .inl (cI, 100, .inl kd)), (q0, .inl (cI, 100, .inl s0)), (q1, .inl (cI, 100, .inl s1)), (qo, .inl (cI, 12, .inl on)), (qv, .inl (cJ, 1600, .inr (.inl vl))), (qC, .inr (1, [.ref qpa, .ref qnu, .ref qfi, .ref qme, .ref qus, .int (nI cs2_7)])), (qpa, .inl (cI, 600, .inl pa2_2)), (qnu, .inl (cI, 600, .inl nu2_3)), (qfi, .inl (cI, 600, .inl fi2_4)), (qme, .inl (cI, 600, .inl me2_5)), (qus, .inl (cI, 100, .inl us2_6))] := hD
    refine lv_aload_n hx hb dX4_refresh_18 rfl (lv_at hl 0 rfl) ?_
    refine lv_iconst (v := (nI 0)) hx hb dX4_refresh_19 (by decide) ?_
    refine va_put (D := D) (ci := 4) (v := .int (nI 0)) (ty := .boolean) (C := RX4) (T := TX4) (N := 5) hx hb hts hiX4 tyX4 tyX4_ok nmX4 hown hK hP hD hS 0 rfl rfl 4 (by decide) (hts (.fieldLink RX4 39 "FaultSearch" "stale" "Z") (by decide +kernel)) (fun _ h9 => h9) rfl (by decide +kernel) rfl rfl (Nat.le_of_ble_eq_true rfl) dX4_refresh_20 (fun H locs hP hD hS => ?_)
    have hP : va_P D vwCl [(qx, .inr (4, [.ref qc, .ref qC, .ref qS, .ref qP, .int (nI 0)])), (qc, .inr (0, [.ref qk, .ref q0, .ref q1, .ref qo, .ref qv, .int (nI n), .int (nI ni), .int (nI no)])), (qk, .inl (cI, 100, .inl kd)), (q0, .inl (cI, 100, .inl s0)), (q1, .inl (cI, 100, .inl s1)), (qo, .inl (cI, 12, .inl on)), (qv, .inl (cJ, 1600, .inr (.inl vl))), (qC, .inr (1, [.ref qpa, .ref qnu, .ref qfi, .ref qme, .ref qus, .int (nI cs2_7)])), (qpa, .inl (cI, 600, .inl pa2_2)), (qnu, .inl (cI, 600, .inl nu2_3)), (qfi, .inl (cI, 600, .inl fi2_4)), (qme, .inl (cI, 600, .inl me2_5)), (qus, .inl (cI, 100, .inl us2_6))] H := hP
    have hD : va_D A [(qx, .inr (4, [.ref qc, .ref qC, .ref qS, .ref qP, .int (nI 0)])), (qc, .inr (0, [.ref qk, .ref q0, .ref q1, .ref qo, .ref qv, .int (nI n), .int (nI ni), .int (nI no)])), (qk, .inl (cI, 100, .inl kd)), (q0, .inl (cI, 100, .inl s0)), (q1, .inl (cI, 100, .inl s1)), (qo, .inl (cI, 12, .inl on)), (qv, .inl (cJ, 1600, .inr (.inl vl))), (qC, .inr (1, [.ref qpa, .ref qnu, .ref qfi, .ref qme, .ref qus, .int (nI cs2_7)])), (qpa, .inl (cI, 600, .inl pa2_2)), (qnu, .inl (cI, 600, .inl nu2_3)), (qfi, .inl (cI, 600, .inl fi2_4)), (qme, .inl (cI, 600, .inl me2_5)), (qus, .inl (cI, 100, .inl us2_6))] := hD
    exact W.vret hx hb hr (fun t_9 ht_9 hW_9 => ⟨⟨(pa2_2, nu2_3, fi2_4, me2_5, us2_6, cs2_7), rfl, (show CGood kd s0 s1 on n no nu2_3 fi2_4 me2_5 cs2_7 from ⟨(nu, fi, me, 0), rfl, k_E⟩), ⟨by rw [ht_9]; exact hP, hD⟩⟩, hS.F ht_9⟩) hS.2.2 dX4_refresh_23

set_option maxHeartbeats 4000000 in
set_option maxRecDepth 100000 in
theorem c_X4_faults (l : Launch) (D : va_G) (cI cJ cZ : ClassId) (qx : Nat) (qc : Nat) (qk : Nat) (q0 : Nat) (q1 : Nat) (qo : Nat) (qv : Nat) (kd : Nat → Int32) (s0 : Nat → Int32) (s1 : Nat → Int32) (on : Nat → Int32) (vl : Nat → Int64) (n : Nat) (ni : Nat) (no : Nat) (qC : Nat) (qpa : Nat) (qnu : Nat) (qfi : Nat) (qme : Nat) (qus : Nat) (pa : Nat → Int32) (nu : Nat → Int32) (fi : Nat → Int32) (me : Nat → Int32) (us : Nat → Int32) (cs : Nat) (qS : Nat) (qP : Nat) (st : Nat) (sz : Nat) (A : Nat → Prop) (hAe : A = va_A [(qx, .inr (4, [.ref qc, .ref qC, .ref qS, .ref qP, .int (nI st)])), (qc, .inr (0, [.ref qk, .ref q0, .ref q1, .ref qo, .ref qv, .int (nI n), .int (nI ni), .int (nI no)])), (qk, .inl (cI, 100, .inl kd)), (q0, .inl (cI, 100, .inl s0)), (q1, .inl (cI, 100, .inl s1)), (qo, .inl (cI, 12, .inl on)), (qv, .inl (cJ, 1600, .inr (.inl vl))), (qC, .inr (1, [.ref qpa, .ref qnu, .ref qfi, .ref qme, .ref qus, .int (nI cs)])), (qpa, .inl (cI, 600, .inl pa)), (qnu, .inl (cI, 600, .inl nu)), (qfi, .inl (cI, 600, .inl fi)), (qme, .inl (cI, 600, .inl me)), (qus, .inl (cI, 100, .inl us))] sz) (hn : n ≤ 100) (hno : no ≤ 12) (hwf : WF n kd s0 s1) (hwo : WO n no on) (hst : st < 2) (hcs : CST kd s0 s1 on n no st nu fi me cs) : Met l yX4_faults wsX4_faults ({ frames := 5, cells := 0, slots := 0, locals := 117 } : Room) (va_Pc [.ref qx] (PW D cI cJ cZ [(qx, .inr (4, [.ref qc, .ref qC, .ref qS, .ref qP, .int (nI st)])), (qc, .inr (0, [.ref qk, .ref q0, .ref q1, .ref qo, .ref qv, .int (nI n), .int (nI ni), .int (nI no)])), (qk, .inl (cI, 100, .inl kd)), (q0, .inl (cI, 100, .inl s0)), (q1, .inl (cI, 100, .inl s1)), (qo, .inl (cI, 12, .inl on)), (qv, .inl (cJ, 1600, .inr (.inl vl))), (qC, .inr (1, [.ref qpa, .ref qnu, .ref qfi, .ref qme, .ref qus, .int (nI cs)])), (qpa, .inl (cI, 600, .inl pa)), (qnu, .inl (cI, 600, .inl nu)), (qfi, .inl (cI, 600, .inl fi)), (qme, .inl (cI, 600, .inl me)), (qus, .inl (cI, 100, .inl us))] sz)) (va_Qi (fun (r_9 : Int32) (u9 : (Nat → Int32) × (Nat → Int32) × (Nat → Int32) × (Nat → Int32) × (Nat → Int32) × Nat) => match u9 with | (pa2, nu2, fi2, me2, us2, cs2) => r_9 = (nI cs2) ∧ CGood kd s0 s1 on n no nu2 fi2 me2 cs2) (fun (u9 : (Nat → Int32) × (Nat → Int32) × (Nat → Int32) × (Nat → Int32) × (Nat → Int32) × Nat) t => match u9 with | (pa2, nu2, fi2, me2, us2, cs2) => PQ D A [(qx, .inr (4, [.ref qc, .ref qC, .ref qS, .ref qP, .int (nI 0)])), (qc, .inr (0, [.ref qk, .ref q0, .ref q1, .ref qo, .ref qv, .int (nI n), .int (nI ni), .int (nI no)])), (qk, .inl (cI, 100, .inl kd)), (q0, .inl (cI, 100, .inl s0)), (q1, .inl (cI, 100, .inl s1)), (qo, .inl (cI, 12, .inl on)), (qv, .inl (cJ, 1600, .inr (.inl vl))), (qC, .inr (1, [.ref qpa, .ref qnu, .ref qfi, .ref qme, .ref qus, .int (nI cs2)])), (qpa, .inl (cI, 600, .inl pa2)), (qnu, .inl (cI, 600, .inl nu2)), (qfi, .inl (cI, 600, .inl fi2)), (qme, .inl (cI, 600, .inl me2)), (qus, .inl (cI, 100, .inl us2))] t) A) 0 0 A := by
  refine Met.ofW (cc := cX4_faults) (maxL := 1) (ret := (some .int)) (by decide) rfl ?_
  intro p e s m args below meth c s₁ B hml hv
  obtain ⟨rfl, hsz, ⟨hP, hK, hNB⟩, hD0⟩ := hv
  have hx := B.exec
  have hb := B.bytes
  have hr := B.returns
  have hts := atoms_spec (ws := wsX4_faults) B.pre
  have hown : s.vm.findClass RX4 = some m.cls := findClass_of_methodNamed B.named
  have hlocks := B.notSynchronized
  have hiX1 : ∀ w ∈ u_ws RX1 TX1 6, w ∈ wsX4_faults := by decide +kernel
  have hiX4 : ∀ w ∈ u_ws RX4 TX4 5, w ∈ wsX4_faults := by decide +kernel
  subst hsz
  have hD : va_D A [(qx, .inr (4, [.ref qc, .ref qC, .ref qS, .ref qP, .int (nI st)])), (qc, .inr (0, [.ref qk, .ref q0, .ref q1, .ref qo, .ref qv, .int (nI n), .int (nI ni), .int (nI no)])), (qk, .inl (cI, 100, .inl kd)), (q0, .inl (cI, 100, .inl s0)), (q1, .inl (cI, 100, .inl s1)), (qo, .inl (cI, 12, .inl on)), (qv, .inl (cJ, 1600, .inr (.inl vl))), (qC, .inr (1, [.ref qpa, .ref qnu, .ref qfi, .ref qme, .ref qus, .int (nI cs)])), (qpa, .inl (cI, 600, .inl pa)), (qnu, .inl (cI, 600, .inl nu)), (qfi, .inl (cI, 600, .inl fi)), (qme, .inl (cI, 600, .inl me)), (qus, .inl (cI, 100, .inl us))] := by rw [hAe]; exact hD0.self
  have hA : ∀ q : Nat, s.heap.size ≤ q → A q := fun q h => by rw [hAe]; exact Or.inr h
  have hS : va_S A s.heap s.heap [] := va_S.rf
  have hl := lv_entry ([.ref qx]) (n := 1) (Nat.le_of_ble_eq_true rfl)
  rw [lg_entry_eq]
  generalize (lg_sl ([.ref qx]) ++ List.replicate (1 - (lg_sl ([.ref qx])).length) Slot.unset).toArray = ls at hl ⊢
  have hl : lv_has ls 1 [(0, .ref qx)] := hl
  refine lv_aload_n hx hb dX4_faults_0 rfl (lv_at hl 0 rfl) ?_
  have hPc := hP.sub (ws' := [(qx, .inr (4, [.ref qc, .ref qC, .ref qS, .ref qP, .int (nI st)])), (qc, .inr (0, [.ref qk, .ref q0, .ref q1, .ref qo, .ref qv, .int (nI n), .int (nI ni), .int (nI no)])), (qk, .inl (cI, 100, .inl kd)), (q0, .inl (cI, 100, .inl s0)), (q1, .inl (cI, 100, .inl s1)), (qo, .inl (cI, 12, .inl on)), (qv, .inl (cJ, 1600, .inr (.inl vl))), (qC, .inr (1, [.ref qpa, .ref qnu, .ref qfi, .ref qme, .ref qus, .int (nI cs)])), (qpa, .inl (cI, 600, .inl pa)), (qnu, .inl (cI, 600, .inl nu)), (qfi, .inl (cI, 600, .inl fi)), (qme, .inl (cI, 600, .inl me)), (qus, .inl (cI, 100, .inl us))]) [0, 1, 2, 3, 4, 5, 6, 7, 8, 9, 10, 11, 12] rfl
  have hDc := hD.sub (ws' := [(qx, .inr (4, [.ref qc, .ref qC, .ref qS, .ref qP, .int (nI st)])), (qc, .inr (0, [.ref qk, .ref q0, .ref q1, .ref qo, .ref qv, .int (nI n), .int (nI ni), .int (nI no)])), (qk, .inl (cI, 100, .inl kd)), (q0, .inl (cI, 100, .inl s0)), (q1, .inl (cI, 100, .inl s1)), (qo, .inl (cI, 12, .inl on)), (qv, .inl (cJ, 1600, .inr (.inl vl))), (qC, .inr (1, [.ref qpa, .ref qnu, .ref qfi, .ref qme, .ref qus, .int (nI cs)])), (qpa, .inl (cI, 600, .inl pa)), (qnu, .inl (cI, 600, .inl nu)), (qfi, .inl (cI, 600, .inl fi)), (qme, .inl (cI, 600, .inl me)), (qus, .inl (cI, 100, .inl us))]) [0, 1, 2, 3, 4, 5, 6, 7, 8, 9, 10, 11, 12] (by decide) rfl
  have hFc := va_free (wc := [(qx, .inr (4, [.ref qc, .ref qC, .ref qS, .ref qP, .int (nI st)])), (qc, .inr (0, [.ref qk, .ref q0, .ref q1, .ref qo, .ref qv, .int (nI n), .int (nI ni), .int (nI no)])), (qk, .inl (cI, 100, .inl kd)), (q0, .inl (cI, 100, .inl s0)), (q1, .inl (cI, 100, .inl s1)), (qo, .inl (cI, 12, .inl on)), (qv, .inl (cJ, 1600, .inr (.inl vl))), (qC, .inr (1, [.ref qpa, .ref qnu, .ref qfi, .ref qme, .ref qus, .int (nI cs)])), (qpa, .inl (cI, 600, .inl pa)), (qnu, .inl (cI, 600, .inl nu)), (qfi, .inl (cI, 600, .inl fi)), (qme, .inl (cI, 600, .inl me)), (qus, .inl (cI, 100, .inl us))]) hD hS hA [0, 1, 2, 3, 4, 5, 6, 7, 8, 9, 10, 11, 12] rfl
  refine va_callv (va_runV (As := []) (rest := []) ⟨hx, hb, hml, hown, hts⟩ (c_X4_refresh l D cI cJ cZ qx qc qk q0 q1 qo qv kd s0 s1 on vl n ni no qC qpa qnu qfi qme qus pa nu fi me us cs qS qP st s.heap.size _ rfl (by omega) (by omega) hwf hwo (by omega) hcs) (cwV 0 hts gX4_faults_X4_refresh rfl rfl rfl (by decide +kernel) ⟨Nat.le_of_ble_eq_true rfl, Nat.le_of_ble_eq_true rfl⟩) ⟨PW.blind, va_recv hK hPc (ci := 4) (q0 := 0) rfl rfl, fun U hU hW => ⟨rfl, PW.to hPc hK hNB hDc hU hW⟩⟩ rfl rfl hl.1 rfl (lv_room (Nat.le_of_ble_eq_true rfl)) dX4_faults_1 ⟨Nat.le_of_ble_eq_true rfl, Nat.le_of_ble_eq_true rfl⟩) hS (fun q _ h => hFc q h) hFc (fun u_9 t_9 H1_9 locs ht_9 hvm_9 hw_9 hB_9 hz1_9 hk1_9 hS => ?_)
  obtain ⟨pa2_2, nu2_3, fi2_4, me2_5, us2_6, cs2_7⟩ := u_9
  obtain ⟨hP1_9, hD1_9⟩ := hB_9
  rw [ht_9] at hP1_9
  have k_G := hw_9
  have k_G : CGood kd s0 s1 on n no nu2_3 fi2_4 me2_5 cs2_7 := k_G
  obtain ⟨hP, hD⟩ := va_join (wr := []) (w1 := [(qx, .inr (4, [.ref qc, .ref qC, .ref qS, .ref qP, .int (nI 0)])), (qc, .inr (0, [.ref qk, .ref q0, .ref q1, .ref qo, .ref qv, .int (nI n), .int (nI ni), .int (nI no)])), (qk, .inl (cI, 100, .inl kd)), (q0, .inl (cI, 100, .inl s0)), (q1, .inl (cI, 100, .inl s1)), (qo, .inl (cI, 12, .inl on)), (qv, .inl (cJ, 1600, .inr (.inl vl))), (qC, .inr (1, [.ref qpa, .ref qnu, .ref qfi, .ref qme, .ref qus, .int (nI cs2_7)])), (qpa, .inl (cI, 600, .inl pa2_2)), (qnu, .inl (cI, 600, .inl nu2_3)), (qfi, .inl (cI, 600, .inl fi2_4)), (qme, .inl (cI, 600, .inl me2_5)), (qus, .inl (cI, 100, .inl us2_6))]) hP hD [0, 1, 2, 3, 4, 5, 6, 7, 8, 9, 10, 11, 12] [] rfl rfl (by decide) (by decide) hk1_9 hFc hP1_9 hD1_9
  generalize H1_9 = H at hP hS ⊢
  have hP : va_P D vwCl [(qx, .inr (4, [.ref qc, .ref qC, .ref qS, .ref qP, .int (nI 0)])), (qc, .inr (0, [.ref qk, .ref q0, .ref q1, .ref qo, .ref qv, .int (nI n), .int (nI ni), .int (nI no)])), (qk, .inl (cI, 100, .inl kd)), (q0, .inl (cI, 100, .inl s0)), (q1, .inl (cI, 100, .inl s1)), (qo, .inl (cI, 12, .inl on)), (qv, .inl (cJ, 1600, .inr (.inl vl))), (qC, .inr (1, [.ref qpa, .ref qnu, .ref qfi, .ref qme, .ref qus, .int (nI cs2_7)])), (qpa, .inl (cI, 600, .inl pa2_2)), (qnu, .inl (cI, 600, .inl nu2_3)), (qfi, .inl (cI, 600, .inl fi2_4)), (qme, .inl (cI, 600, .inl me2_5)), (qus, .inl (cI, 100, .inl us2_6))] H := hP
  have hD : va_D A [(qx, .inr (4, [.ref qc, .ref qC, .ref qS, .ref qP, .int (nI 0)])), (qc, .inr (0, [.ref qk, .ref q0, .ref q1, .ref qo, .ref qv, .int (nI n), .int (nI ni), .int (nI no)])), (qk, .inl (cI, 100, .inl kd)), (q0, .inl (cI, 100, .inl s0)), (q1, .inl (cI, 100, .inl s1)), (qo, .inl (cI, 12, .inl on)), (qv, .inl (cJ, 1600, .inr (.inl vl))), (qC, .inr (1, [.ref qpa, .ref qnu, .ref qfi, .ref qme, .ref qus, .int (nI cs2_7)])), (qpa, .inl (cI, 600, .inl pa2_2)), (qnu, .inl (cI, 600, .inl nu2_3)), (qfi, .inl (cI, 600, .inl fi2_4)), (qme, .inl (cI, 600, .inl me2_5)), (qus, .inl (cI, 100, .inl us2_6))] := hD
  refine lv_aload_n hx hb dX4_faults_4 rfl (lv_at hl 0 rfl) ?_
  refine va_get (D := D) (ci := 4) (v := .ref qC) (C := RX4) (T := TX4) (N := 5) hx hb hts hiX4 hown hK hP 0 rfl rfl 1 (by decide) (hts (.fieldLink RX4 19 "FaultSearch" "classes" "LFaultSearch$Classes;") (by decide +kernel)) (fun _ h9 => h9) rfl dX4_faults_5 ?_
  refine va_get (D := D) (ci := 1) (v := .int (nI cs2_7)) (C := RX1) (T := TX1) (N := 6) hx hb hts hiX1 hown hK hP 7 rfl rfl 5 (by decide) (hts (.fieldLink RX4 114 "FaultSearch$Classes" "size" "I") (by decide +kernel)) (fun _ h9 => h9) rfl dX4_faults_8 ?_
  exact W.iret (v := (nI cs2_7)) hx hb hr (fun t_9 ht_9 hW_9 => ⟨⟨(nI cs2_7), (pa2_2, nu2_3, fi2_4, me2_5, us2_6, cs2_7), rfl, (show (nI cs2_7) = (nI cs2_7) ∧ CGood kd s0 s1 on n no nu2_3 fi2_4 me2_5 cs2_7 from ⟨rfl, k_G⟩), ⟨by rw [ht_9]; exact hP, hD⟩⟩, hS.F ht_9⟩) hS.2.2 dX4_faults_11

set_option maxHeartbeats 4000000 in
set_option maxRecDepth 100000 in
theorem c_X4_requireNet_ok (l : Launch) (D : va_G) (cI cJ cZ : ClassId) (qx : Nat) (qc : Nat) (qk : Nat) (q0 : Nat) (q1 : Nat) (qo : Nat) (qv : Nat) (kd : Nat → Int32) (s0 : Nat → Int32) (s1 : Nat → Int32) (on : Nat → Int32) (vl : Nat → Int64) (n : Nat) (ni : Nat) (no : Nat) (qC : Nat) (qS : Nat) (qP : Nat) (st : Nat) (a : Int32) (h : isN n a) : Met l yX4_requireNet wsX4_requireNet ({ frames := 1, cells := 0, slots := 0, locals := 21 } : Room) (va_Pc [.ref qx, .int a] (PR D cI cJ cZ [(qx, .inr (4, [.ref qc, .ref qC, .ref qS, .ref qP, .int (nI st)])), (qc, .inr (0, [.ref qk, .ref q0, .ref q1, .ref qo, .ref qv, .int (nI n), .int (nI ni), .int (nI no)])), (qk, .inl (cI, 100, .inl kd)), (q0, .inl (cI, 100, .inl s0)), (q1, .inl (cI, 100, .inl s1)), (qo, .inl (cI, 12, .inl on)), (qv, .inl (cJ, 1600, .inr (.inl vl)))])) (va_Sv (fun _ => True)) 0 0 (fun _ => False) := by
  refine Met.ofW (cc := cX4_requireNet) (maxL := 2) (ret := none) (by decide) rfl ?_
  intro p e s m args below meth c s₁ B hml hv
  obtain ⟨rfl, hP, hK, hNB⟩ := hv
  have hx := B.exec
  have hb := B.bytes
  have hr := B.returns
  have hts := atoms_spec (ws := wsX4_requireNet) B.pre
  have hown : s.vm.findClass RX4 = some m.cls := findClass_of_methodNamed B.named
  have hlocks := B.notSynchronized
  have hiX4 : ∀ w ∈ u_ws RX4 TX4 5, w ∈ wsX4_requireNet := by decide +kernel
  have hl := lv_entry ([.ref qx, .int a]) (n := 2) (Nat.le_of_ble_eq_true rfl)
  rw [lg_entry_eq]
  generalize (lg_sl ([.ref qx, .int a]) ++ List.replicate (2 - (lg_sl ([.ref qx, .int a])).length) Slot.unset).toArray = ls at hl ⊢
  have hl : lv_has ls 2 [(0, .ref qx), (1, .int a)] := hl
  refine lv_aload_n hx hb dX4_requireNet_0 rfl (lv_at hl 0 rfl) ?_
  refine va_get (D := D) (ci := 4) (v := .ref qc) (C := RX4) (T := TX4) (N := 5) hx hb hts hiX4 hown hK hP 0 rfl rfl 0 (by decide) (hts (.fieldLink RX4 12 "FaultSearch" "chip" "LFaultSearch$Chip;") (by decide +kernel)) (fun _ h9 => h9) rfl dX4_requireNet_1 ?_
  refine lv_iload_n hx hb dX4_requireNet_4 rfl (lv_at hl 1 rfl) ?_
  have hPc := hP.sub (ws' := [(qc, .inr (0, [.ref qk, .ref q0, .ref q1, .ref qo, .ref qv, .int (nI n), .int (nI ni), .int (nI no)])), (qk, .inl (cI, 100, .inl kd)), (q0, .inl (cI, 100, .inl s0)), (q1, .inl (cI, 100, .inl s1)), (qo, .inl (cI, 12, .inl on)), (qv, .inl (cJ, 1600, .inr (.inl vl)))]) [1, 2, 3, 4, 5, 6] rfl
  refine vp_callSi (va_runV (As := [.int a]) (rest := []) ⟨hx, hb, hml, hown, hts⟩ (c_X0_hasNet l D cI cJ cZ qc qk q0 q1 qo qv kd s0 s1 on vl n ni no a) (cwV 1 hts gX4_requireNet_X0_hasNet rfl rfl rfl (by decide +kernel) ⟨Nat.le_of_ble_eq_true rfl, Nat.le_of_ble_eq_true rfl⟩) ⟨PR.blind, va_recv hK hPc (ci := 0) (q0 := 0) rfl rfl, fun U hU hW => ⟨rfl, PR.to hPc hK hNB hU hW⟩⟩ rfl rfl hl.1 rfl (lv_room (Nat.le_of_ble_eq_true rfl)) dX4_requireNet_5 ⟨Nat.le_of_ble_eq_true rfl, Nat.le_of_ble_eq_true rfl⟩).run (fun r_1 hrr_1 => ?_)
  subst hrr_1
  refine lv_if_ne (tgt := 21) hx hb dX4_requireNet_8 (by decide) (fun c_8 => ?_) (fun c_8 => ?_)
  · skip
    rw [zc_if0] at c_8
    have c_8 := Classical.not_not.mp c_8
    exact W.vret hx hb hr (fun t_9 ht_9 hW_9 => ⟨rfl, trivial, ht_9⟩) (fun q h => nomatch h) dX4_requireNet_21
  · skip
    rw [zc_if0] at c_8
    exact absurd h c_8

set_option maxHeartbeats 4000000 in
set_option maxRecDepth 100000 in
theorem c_X4_requireNet_no (l : Launch) (hl0 : l.stackTraces = false) (D : va_G) (cI cJ cZ : ClassId) (qx : Nat) (qc : Nat) (qk : Nat) (q0 : Nat) (q1 : Nat) (qo : Nat) (qv : Nat) (kd : Nat → Int32) (s0 : Nat → Int32) (s1 : Nat → Int32) (on : Nat → Int32) (vl : Nat → Int64) (n : Nat) (ni : Nat) (no : Nat) (qC : Nat) (qS : Nat) (qP : Nat) (st : Nat) (a : Int32) (sz : Nat) (A : Nat → Prop) (hAe : A = va_A [(qx, .inr (4, [.ref qc, .ref qC, .ref qS, .ref qP, .int (nI st)])), (qc, .inr (0, [.ref qk, .ref q0, .ref q1, .ref qo, .ref qv, .int (nI n), .int (nI ni), .int (nI no)])), (qk, .inl (cI, 100, .inl kd)), (q0, .inl (cI, 100, .inl s0)), (q1, .inl (cI, 100, .inl s1)), (qo, .inl (cI, 12, .inl on)), (qv, .inl (cJ, 1600, .inr (.inl vl)))] sz) (h : ¬ isN n a) : vx_Met l yX4_requireNet wsX4_requireNet ({ frames := 6, cells := 1, slots := 6, locals := 90 } : Room) (va_Pc [.ref qx, .int a] (PX D cI cJ cZ [(qx, .inr (4, [.ref qc, .ref qC, .ref qS, .ref qP, .int (nI st)])), (qc, .inr (0, [.ref qk, .ref q0, .ref q1, .ref qo, .ref qv, .int (nI n), .int (nI ni), .int (nI no)])), (qk, .inl (cI, 100, .inl kd)), (q0, .inl (cI, 100, .inl s0)), (q1, .inl (cI, 100, .inl s1)), (qo, .inl (cI, 12, .inl on)), (qv, .inl (cJ, 1600, .inr (.inl vl)))] sz)) (va_Qv (fun (_ : Unit) => False) (fun _ _ => True) A) (vx_X (fun _u9 : Unit => True) (fun E (_u9 : Unit) t => E = "java/lang/IndexOutOfBoundsException" ∧ PQ D A [(qx, .inr (4, [.ref qc, .ref qC, .ref qS, .ref qP, .int (nI st)])), (qc, .inr (0, [.ref qk, .ref q0, .ref q1, .ref qo, .ref qv, .int (nI n), .int (nI ni), .int (nI no)])), (qk, .inl (cI, 100, .inl kd)), (q0, .inl (cI, 100, .inl s0)), (q1, .inl (cI, 100, .inl s1)), (qo, .inl (cI, 12, .inl on)), (qv, .inl (cJ, 1600, .inr (.inl vl)))] t) A) 1 6 A := by
  refine vx_ofW (cc := cX4_requireNet) (maxL := 2) (ret := none) (by decide) rfl ?_
  intro p e s m args below meth c s₁ B hml hxt hv
  obtain ⟨rfl, ⟨hsz, ⟨hP, hK, hNB⟩, hD0⟩, hGX⟩ := hv
  have hx := B.exec
  have hb := B.bytes
  have hr := B.returns
  have hts := atoms_spec (ws := wsX4_requireNet) B.pre
  have hown : s.vm.findClass RX4 = some m.cls := findClass_of_methodNamed B.named
  have hlocks := B.notSynchronized
  have hiX4 : ∀ w ∈ u_ws RX4 TX4 5, w ∈ wsX4_requireNet := by decide +kernel
  subst hsz
  rw [← hAe] at hGX
  have hD : va_D A [(qx, .inr (4, [.ref qc, .ref qC, .ref qS, .ref qP, .int (nI st)])), (qc, .inr (0, [.ref qk, .ref q0, .ref q1, .ref qo, .ref qv, .int (nI n), .int (nI ni), .int (nI no)])), (qk, .inl (cI, 100, .inl kd)), (q0, .inl (cI, 100, .inl s0)), (q1, .inl (cI, 100, .inl s1)), (qo, .inl (cI, 12, .inl on)), (qv, .inl (cJ, 1600, .inr (.inl vl)))] := by rw [hAe]; exact hD0.self
  have hA : ∀ q : Nat, s.heap.size ≤ q → A q := fun q h => by rw [hAe]; exact Or.inr h
  have hS : va_S A s.heap s.heap [] := va_S.rf
  have hl := lv_entry ([.ref qx, .int a]) (n := 2) (Nat.le_of_ble_eq_true rfl)
  rw [lg_entry_eq]
  generalize (lg_sl ([.ref qx, .int a]) ++ List.replicate (2 - (lg_sl ([.ref qx, .int a])).length) Slot.unset).toArray = ls at hl ⊢
  have hl : lv_has ls 2 [(0, .ref qx), (1, .int a)] := hl
  refine lv_aload_n hx hb dX4_requireNet_0 rfl (lv_at hl 0 rfl) ?_
  refine va_get (D := D) (ci := 4) (v := .ref qc) (C := RX4) (T := TX4) (N := 5) hx hb hts hiX4 hown hK hP 0 rfl rfl 0 (by decide) (hts (.fieldLink RX4 12 "FaultSearch" "chip" "LFaultSearch$Chip;") (by decide +kernel)) (fun _ h9 => h9) rfl dX4_requireNet_1 ?_
  refine lv_iload_n hx hb dX4_requireNet_4 rfl (lv_at hl 1 rfl) ?_
  have hPc := hP.sub (ws' := [(qc, .inr (0, [.ref qk, .ref q0, .ref q1, .ref qo, .ref qv, .int (nI n), .int (nI ni), .int (nI no)])), (qk, .inl (cI, 100, .inl kd)), (q0, .inl (cI, 100, .inl s0)), (q1, .inl (cI, 100, .inl s1)), (qo, .inl (cI, 12, .inl on)), (qv, .inl (cJ, 1600, .inr (.inl vl)))]) [1, 2, 3, 4, 5, 6] rfl
  refine vp_callSi (va_runV (As := [.int a]) (rest := []) ⟨hx, hb, hml, hown, hts⟩ (c_X0_hasNet l D cI cJ cZ qc qk q0 q1 qo qv kd s0 s1 on vl n ni no a) (cwV 1 hts gX4_requireNet_X0_hasNet rfl rfl rfl (by decide +kernel) ⟨Nat.le_of_ble_eq_true rfl, Nat.le_of_ble_eq_true rfl⟩) ⟨PR.blind, va_recv hK hPc (ci := 0) (q0 := 0) rfl rfl, fun U hU hW => ⟨rfl, PR.to hPc hK hNB hU hW⟩⟩ rfl rfl hl.1 rfl (lv_room (Nat.le_of_ble_eq_true rfl)) dX4_requireNet_5 ⟨Nat.le_of_ble_eq_true rfl, Nat.le_of_ble_eq_true rfl⟩).run (fun r_1 hrr_1 => ?_)
  subst hrr_1
  refine lv_if_ne (tgt := 21) hx hb dX4_requireNet_8 (by decide) (fun c_8 => ?_) (fun c_8 => ?_)
  · skip
    rw [zc_if0] at c_8
    have c_8 := Classical.not_not.mp c_8
    exact absurd c_8 h
  · skip
    rw [zc_if0] at c_8
    obtain ⟨sa_9, hstr_9⟩ := hGX.2.1.2.1
    have hat_9 : ∀ w ∈ (vx_atS RX4 75 "java/lang/IndexOutOfBoundsException" ["java/lang/RuntimeException", "java/lang/Exception"]).filter goodWord, w ∈ wsX4_requireNet := by decide +kernel
    exact vx_throwS (names := ["java/lang/RuntimeException", "java/lang/Exception"]) hx hb hl0 hown (by decide +kernel) (by decide +kernel) (hts (.classLink RX4 71 "java/lang/IndexOutOfBoundsException") (by decide +kernel)) (hts (.initialized "java/lang/IndexOutOfBoundsException") (by decide +kernel)) hstr_9 (vx_hat (fun w h => hts w (hat_9 w h)) (by decide +kernel) hGX.1.use) (by decide +kernel) hGX.2.2.1 hGX.2.2.2 hS (by rw [hml]; exact hl.1) dX4_requireNet_11 dX4_requireNet_14 dX4_requireNet_15 dX4_requireNet_17 dX4_requireNet_20 (fun x h => (hxt x h).elim) (Nat.le_of_ble_eq_true rfl) (Nat.le_of_ble_eq_true rfl) (Nat.le_of_ble_eq_true rfl) (Nat.le_of_ble_eq_true rfl) hlocks (fun t_9 ha_9 hz_9 hk_9 => ⟨(), trivial, ⟨rfl, zx_P hP hk_9, hD⟩, zx_F hS hz_9 hk_9⟩) hS.2.2 (by decide) (by decide)

set_option maxHeartbeats 4000000 in
set_option maxRecDepth 100000 in
theorem c_X4_requireBit_ok (l : Launch) (v : Nat) (hv : v < 2) : Met l yX4_requireBit wsX4_requireBit ({ frames := 0, cells := 0, slots := 0, locals := 0 } : Room) (va_Pc [.int (nI v)] (fun _ => True)) (va_Sv (fun _ => True)) 0 0 (fun _ => False) := by
  refine Met.ofW (cc := cX4_requireBit) (maxL := 1) (ret := none) (by decide) rfl ?_
  intro p e s m args below meth c s₁ B hml hv
  obtain ⟨rfl, -⟩ := hv
  have hx := B.exec
  have hb := B.bytes
  have hr := B.returns
  have hts := atoms_spec (ws := wsX4_requireBit) B.pre
  have hown : s.vm.findClass RX4 = some m.cls := findClass_of_methodNamed B.named
  have hlocks := B.notSynchronized
  have hl := lv_entry ([.int (nI v)]) (n := 1) (Nat.le_of_ble_eq_true rfl)
  rw [lg_entry_eq]
  generalize (lg_sl ([.int (nI v)]) ++ List.replicate (1 - (lg_sl ([.int (nI v)])).length) Slot.unset).toArray = ls at hl ⊢
  have hl : lv_has ls 1 [(0, .int (nI v))] := hl
  refine lv_iload_n hx hb dX4_requireBit_0 rfl (lv_at hl 0 rfl) ?_
  refine lv_if_eq (tgt := 19) hx hb dX4_requireBit_1 (by decide) (fun c_1 => ?_) (fun c_1 => ?_)
  · skip
    rw [zc_eq0 (by omega)] at c_1
    exact W.vret hx hb hr (fun t_9 ht_9 hW_9 => ⟨rfl, trivial, ht_9⟩) (fun q h => nomatch h) dX4_requireBit_19
  · skip
    rw [zc_eq0 (by omega)] at c_1
    refine lv_iload_n hx hb dX4_requireBit_4 rfl (lv_at hl 0 rfl) ?_
    refine lv_iconst (v := (nI 1)) hx hb dX4_requireBit_5 (by decide) ?_
    refine lv_icmp_eq (tgt := 19) hx hb dX4_requireBit_6 (by decide) (fun c_6 => ?_) (fun c_6 => ?_)
    · skip
      rw [zc_eq (by omega) (by omega)] at c_6
      exact W.vret hx hb hr (fun t_9 ht_9 hW_9 => ⟨rfl, trivial, ht_9⟩) (fun q h => nomatch h) dX4_requireBit_19
    · skip
      rw [zc_eq (by omega) (by omega)] at c_6
      exact absurd c_6 (by omega)

set_option maxHeartbeats 4000000 in
set_option maxRecDepth 100000 in
theorem c_X4_requireBit_no (l : Launch) (hl0 : l.stackTraces = false) (D : va_G) (cI cJ cZ : ClassId) (v : Int32) (sz : Nat) (A : Nat → Prop) (hAe : A = va_A [] sz) (h : ¬ (v = 0 ∨ v = nI 1)) : vx_Met l yX4_requireBit wsX4_requireBit ({ frames := 6, cells := 1, slots := 6, locals := 90 } : Room) (va_Pc [.int v] (PX D cI cJ cZ [] sz)) (va_Qv (fun (_ : Unit) => False) (fun _ _ => True) A) (vx_X (fun _u9 : Unit => True) (fun E (_u9 : Unit) t => E = "java/lang/IndexOutOfBoundsException" ∧ PQ D A [] t) A) 1 6 A := by
  refine vx_ofW (cc := cX4_requireBit) (maxL := 1) (ret := none) (by decide) rfl ?_
  intro p e s m args below meth c s₁ B hml hxt hv
  obtain ⟨rfl, ⟨hsz, ⟨hP, hK, hNB⟩, hD0⟩, hGX⟩ := hv
  have hx := B.exec
  have hb := B.bytes
  have hr := B.returns
  have hts := atoms_spec (ws := wsX4_requireBit) B.pre
  have hown : s.vm.findClass RX4 = some m.cls := findClass_of_methodNamed B.named
  have hlocks := B.notSynchronized
  subst hsz
  rw [← hAe] at hGX
  have hD : va_D A [] := by rw [hAe]; exact hD0.self
  have hA : ∀ q : Nat, s.heap.size ≤ q → A q := fun q h => by rw [hAe]; exact Or.inr h
  have hS : va_S A s.heap s.heap [] := va_S.rf
  have hl := lv_entry ([.int v]) (n := 1) (Nat.le_of_ble_eq_true rfl)
  rw [lg_entry_eq]
  generalize (lg_sl ([.int v]) ++ List.replicate (1 - (lg_sl ([.int v])).length) Slot.unset).toArray = ls at hl ⊢
  have hl : lv_has ls 1 [(0, .int v)] := hl
  refine lv_iload_n hx hb dX4_requireBit_0 rfl (lv_at hl 0 rfl) ?_
  refine lv_if_eq (tgt := 19) hx hb dX4_requireBit_1 (by decide) (fun c_1 => ?_) (fun c_1 => ?_)
  · skip
    exact absurd (Or.inl c_1) h
  · skip
    refine lv_iload_n hx hb dX4_requireBit_4 rfl (lv_at hl 0 rfl) ?_
    refine lv_iconst (v := (nI 1)) hx hb dX4_requireBit_5 (by decide) ?_
    refine lv_icmp_eq (tgt := 19) hx hb dX4_requireBit_6 (by decide) (fun c_6 => ?_) (fun c_6 => ?_)
    · skip
      exact absurd (Or.inr c_6) h
    · skip
      obtain ⟨sa_9, hstr_9⟩ := hGX.2.1.2.2.2.2.2.2.2.2.2.2
      have hat_9 : ∀ w ∈ (vx_atS RX4 75 "java/lang/IndexOutOfBoundsException" ["java/lang/RuntimeException", "java/lang/Exception"]).filter goodWord, w ∈ wsX4_requireBit := by decide +kernel
      exact vx_throwS (names := ["java/lang/RuntimeException", "java/lang/Exception"]) hx hb hl0 hown (by decide +kernel) (by decide +kernel) (hts (.classLink RX4 71 "java/lang/IndexOutOfBoundsException") (by decide +kernel)) (hts (.initialized "java/lang/IndexOutOfBoundsException") (by decide +kernel)) hstr_9 (vx_hat (fun w h => hts w (hat_9 w h)) (by decide +kernel) hGX.1.use) (by decide +kernel) hGX.2.2.1 hGX.2.2.2 hS (by rw [hml]; exact hl.1) dX4_requireBit_9 dX4_requireBit_12 dX4_requireBit_13 dX4_requireBit_15 dX4_requireBit_18 (fun x h => (hxt x h).elim) (Nat.le_of_ble_eq_true rfl) (Nat.le_of_ble_eq_true rfl) (Nat.le_of_ble_eq_true rfl) (Nat.le_of_ble_eq_true rfl) hlocks (fun t_9 ha_9 hz_9 hk_9 => ⟨(), trivial, ⟨rfl, zx_P hP hk_9, hD⟩, zx_F hS hz_9 hk_9⟩) hS.2.2 (by decide) (by decide)

set_option maxHeartbeats 4000000 in
set_option maxRecDepth 100000 in
theorem c_X4_requireClass_ok (l : Launch) (D : va_G) (cI cJ cZ : ClassId) (qx : Nat) (qc : Nat) (qk : Nat) (q0 : Nat) (q1 : Nat) (qo : Nat) (qv : Nat) (kd : Nat → Int32) (s0 : Nat → Int32) (s1 : Nat → Int32) (on : Nat → Int32) (vl : Nat → Int64) (n : Nat) (ni : Nat) (no : Nat) (qC : Nat) (qpa : Nat) (qnu : Nat) (qfi : Nat) (qme : Nat) (qus : Nat) (pa : Nat → Int32) (nu : Nat → Int32) (fi : Nat → Int32) (me : Nat → Int32) (us : Nat → Int32) (cs : Nat) (qS : Nat) (qP : Nat) (st : Nat) (k : Nat) (sz : Nat) (A : Nat → Prop) (hAe : A = va_A [(qx, .inr (4, [.ref qc, .ref qC, .ref qS, .ref qP, .int (nI st)])), (qc, .inr (0, [.ref qk, .ref q0, .ref q1, .ref qo, .ref qv, .int (nI n), .int (nI ni), .int (nI no)])), (qk, .inl (cI, 100, .inl kd)), (q0, .inl (cI, 100, .inl s0)), (q1, .inl (cI, 100, .inl s1)), (qo, .inl (cI, 12, .inl on)), (qv, .inl (cJ, 1600, .inr (.inl vl))), (qC, .inr (1, [.ref qpa, .ref qnu, .ref qfi, .ref qme, .ref qus, .int (nI cs)])), (qpa, .inl (cI, 600, .inl pa)), (qnu, .inl (cI, 600, .inl nu)), (qfi, .inl (cI, 600, .inl fi)), (qme, .inl (cI, 600, .inl me)), (qus, .inl (cI, 100, .inl us))] sz) (hn : n ≤ 100) (hno : no ≤ 12) (hwf : WF n kd s0 s1) (hwo : WO n no on) (hst : st < 2) (hcs : CST kd s0 s1 on n no st nu fi me cs) (hk : k < ncl kd s0 s1 on n no) (hk2 : k < 600) : Met l yX4_requireClass wsX4_requireClass ({ frames := 5, cells := 0, slots := 0, locals := 117 } : Room) (va_Pc [.ref qx, .int (nI k)] (PW D cI cJ cZ [(qx, .inr (4, [.ref qc, .ref qC, .ref qS, .ref qP, .int (nI st)])), (qc, .inr (0, [.ref qk, .ref q0, .ref q1, .ref qo, .ref qv, .int (nI n), .int (nI ni), .int (nI no)])), (qk, .inl (cI, 100, .inl kd)), (q0, .inl (cI, 100, .inl s0)), (q1, .inl (cI, 100, .inl s1)), (qo, .inl (cI, 12, .inl on)), (qv, .inl (cJ, 1600, .inr (.inl vl))), (qC, .inr (1, [.ref qpa, .ref qnu, .ref qfi, .ref qme, .ref qus, .int (nI cs)])), (qpa, .inl (cI, 600, .inl pa)), (qnu, .inl (cI, 600, .inl nu)), (qfi, .inl (cI, 600, .inl fi)), (qme, .inl (cI, 600, .inl me)), (qus, .inl (cI, 100, .inl us))] sz)) (va_Qv (fun u9 : (Nat → Int32) × (Nat → Int32) × (Nat → Int32) × (Nat → Int32) × (Nat → Int32) × Nat => match u9 with | (pa2, nu2, fi2, me2, us2, cs2) => CGood kd s0 s1 on n no nu2 fi2 me2 cs2) (fun (u9 : (Nat → Int32) × (Nat → Int32) × (Nat → Int32) × (Nat → Int32) × (Nat → Int32) × Nat) t => match u9 with | (pa2, nu2, fi2, me2, us2, cs2) => PQ D A [(qx, .inr (4, [.ref qc, .ref qC, .ref qS, .ref qP, .int (nI 0)])), (qc, .inr (0, [.ref qk, .ref q0, .ref q1, .ref qo, .ref qv, .int (nI n), .int (nI ni), .int (nI no)])), (qk, .inl (cI, 100, .inl kd)), (q0, .inl (cI, 100, .inl s0)), (q1, .inl (cI, 100, .inl s1)), (qo, .inl (cI, 12, .inl on)), (qv, .inl (cJ, 1600, .inr (.inl vl))), (qC, .inr (1, [.ref qpa, .ref qnu, .ref qfi, .ref qme, .ref qus, .int (nI cs2)])), (qpa, .inl (cI, 600, .inl pa2)), (qnu, .inl (cI, 600, .inl nu2)), (qfi, .inl (cI, 600, .inl fi2)), (qme, .inl (cI, 600, .inl me2)), (qus, .inl (cI, 100, .inl us2))] t) A) 0 0 A := by
  refine Met.ofW (cc := cX4_requireClass) (maxL := 2) (ret := none) (by decide) rfl ?_
  intro p e s m args below meth c s₁ B hml hv
  obtain ⟨rfl, hsz, ⟨hP, hK, hNB⟩, hD0⟩ := hv
  have hx := B.exec
  have hb := B.bytes
  have hr := B.returns
  have hts := atoms_spec (ws := wsX4_requireClass) B.pre
  have hown : s.vm.findClass RX4 = some m.cls := findClass_of_methodNamed B.named
  have hlocks := B.notSynchronized
  have hiX1 : ∀ w ∈ u_ws RX1 TX1 6, w ∈ wsX4_requireClass := by decide +kernel
  have hiX4 : ∀ w ∈ u_ws RX4 TX4 5, w ∈ wsX4_requireClass := by decide +kernel
  subst hsz
  have hD : va_D A [(qx, .inr (4, [.ref qc, .ref qC, .ref qS, .ref qP, .int (nI st)])), (qc, .inr (0, [.ref qk, .ref q0, .ref q1, .ref qo, .ref qv, .int (nI n), .int (nI ni), .int (nI no)])), (qk, .inl (cI, 100, .inl kd)), (q0, .inl (cI, 100, .inl s0)), (q1, .inl (cI, 100, .inl s1)), (qo, .inl (cI, 12, .inl on)), (qv, .inl (cJ, 1600, .inr (.inl vl))), (qC, .inr (1, [.ref qpa, .ref qnu, .ref qfi, .ref qme, .ref qus, .int (nI cs)])), (qpa, .inl (cI, 600, .inl pa)), (qnu, .inl (cI, 600, .inl nu)), (qfi, .inl (cI, 600, .inl fi)), (qme, .inl (cI, 600, .inl me)), (qus, .inl (cI, 100, .inl us))] := by rw [hAe]; exact hD0.self
  have hA : ∀ q : Nat, s.heap.size ≤ q → A q := fun q h => by rw [hAe]; exact Or.inr h
  have hS : va_S A s.heap s.heap [] := va_S.rf
  have hl := lv_entry ([.ref qx, .int (nI k)]) (n := 2) (Nat.le_of_ble_eq_true rfl)
  rw [lg_entry_eq]
  generalize (lg_sl ([.ref qx, .int (nI k)]) ++ List.replicate (2 - (lg_sl ([.ref qx, .int (nI k)])).length) Slot.unset).toArray = ls at hl ⊢
  have hl : lv_has ls 2 [(0, .ref qx), (1, .int (nI k))] := hl
  refine lv_aload_n hx hb dX4_requireClass_0 rfl (lv_at hl 0 rfl) ?_
  have hPc := hP.sub (ws' := [(qx, .inr (4, [.ref qc, .ref qC, .ref qS, .ref qP, .int (nI st)])), (qc, .inr (0, [.ref qk, .ref q0, .ref q1, .ref qo, .ref qv, .int (nI n), .int (nI ni), .int (nI no)])), (qk, .inl (cI, 100, .inl kd)), (q0, .inl (cI, 100, .inl s0)), (q1, .inl (cI, 100, .inl s1)), (qo, .inl (cI, 12, .inl on)), (qv, .inl (cJ, 1600, .inr (.inl vl))), (qC, .inr (1, [.ref qpa, .ref qnu, .ref qfi, .ref qme, .ref qus, .int (nI cs)])), (qpa, .inl (cI, 600, .inl pa)), (qnu, .inl (cI, 600, .inl nu)), (qfi, .inl (cI, 600, .inl fi)), (qme, .inl (cI, 600, .inl me)), (qus, .inl (cI, 100, .inl us))]) [0, 1, 2, 3, 4, 5, 6, 7, 8, 9, 10, 11, 12] rfl
  have hDc := hD.sub (ws' := [(qx, .inr (4, [.ref qc, .ref qC, .ref qS, .ref qP, .int (nI st)])), (qc, .inr (0, [.ref qk, .ref q0, .ref q1, .ref qo, .ref qv, .int (nI n), .int (nI ni), .int (nI no)])), (qk, .inl (cI, 100, .inl kd)), (q0, .inl (cI, 100, .inl s0)), (q1, .inl (cI, 100, .inl s1)), (qo, .inl (cI, 12, .inl on)), (qv, .inl (cJ, 1600, .inr (.inl vl))), (qC, .inr (1, [.ref qpa, .ref qnu, .ref qfi, .ref qme, .ref qus, .int (nI cs)])), (qpa, .inl (cI, 600, .inl pa)), (qnu, .inl (cI, 600, .inl nu)), (qfi, .inl (cI, 600, .inl fi)), (qme, .inl (cI, 600, .inl me)), (qus, .inl (cI, 100, .inl us))]) [0, 1, 2, 3, 4, 5, 6, 7, 8, 9, 10, 11, 12] (by decide) rfl
  have hFc := va_free (wc := [(qx, .inr (4, [.ref qc, .ref qC, .ref qS, .ref qP, .int (nI st)])), (qc, .inr (0, [.ref qk, .ref q0, .ref q1, .ref qo, .ref qv, .int (nI n), .int (nI ni), .int (nI no)])), (qk, .inl (cI, 100, .inl kd)), (q0, .inl (cI, 100, .inl s0)), (q1, .inl (cI, 100, .inl s1)), (qo, .inl (cI, 12, .inl on)), (qv, .inl (cJ, 1600, .inr (.inl vl))), (qC, .inr (1, [.ref qpa, .ref qnu, .ref qfi, .ref qme, .ref qus, .int (nI cs)])), (qpa, .inl (cI, 600, .inl pa)), (qnu, .inl (cI, 600, .inl nu)), (qfi, .inl (cI, 600, .inl fi)), (qme, .inl (cI, 600, .inl me)), (qus, .inl (cI, 100, .inl us))]) hD hS hA [0, 1, 2, 3, 4, 5, 6, 7, 8, 9, 10, 11, 12] rfl
  refine va_callv (va_runV (As := []) (rest := []) ⟨hx, hb, hml, hown, hts⟩ (c_X4_refresh l D cI cJ cZ qx qc qk q0 q1 qo qv kd s0 s1 on vl n ni no qC qpa qnu qfi qme qus pa nu fi me us cs qS qP st s.heap.size _ rfl (by omega) (by omega) hwf hwo (by omega) hcs) (cwV 0 hts gX4_requireClass_X4_refresh rfl rfl rfl (by decide +kernel) ⟨Nat.le_of_ble_eq_true rfl, Nat.le_of_ble_eq_true rfl⟩) ⟨PW.blind, va_recv hK hPc (ci := 4) (q0 := 0) rfl rfl, fun U hU hW => ⟨rfl, PW.to hPc hK hNB hDc hU hW⟩⟩ rfl rfl hl.1 rfl (lv_room (Nat.le_of_ble_eq_true rfl)) dX4_requireClass_1 ⟨Nat.le_of_ble_eq_true rfl, Nat.le_of_ble_eq_true rfl⟩) hS (fun q _ h => hFc q h) hFc (fun u_9 t_9 H1_9 locs ht_9 hvm_9 hw_9 hB_9 hz1_9 hk1_9 hS => ?_)
  obtain ⟨pa2_2, nu2_3, fi2_4, me2_5, us2_6, cs2_7⟩ := u_9
  obtain ⟨hP1_9, hD1_9⟩ := hB_9
  rw [ht_9] at hP1_9
  have k_G := hw_9
  have k_G : CGood kd s0 s1 on n no nu2_3 fi2_4 me2_5 cs2_7 := k_G
  obtain ⟨hP, hD⟩ := va_join (wr := []) (w1 := [(qx, .inr (4, [.ref qc, .ref qC, .ref qS, .ref qP, .int (nI 0)])), (qc, .inr (0, [.ref qk, .ref q0, .ref q1, .ref qo, .ref qv, .int (nI n), .int (nI ni), .int (nI no)])), (qk, .inl (cI, 100, .inl kd)), (q0, .inl (cI, 100, .inl s0)), (q1, .inl (cI, 100, .inl s1)), (qo, .inl (cI, 12, .inl on)), (qv, .inl (cJ, 1600, .inr (.inl vl))), (qC, .inr (1, [.ref qpa, .ref qnu, .ref qfi, .ref qme, .ref qus, .int (nI cs2_7)])), (qpa, .inl (cI, 600, .inl pa2_2)), (qnu, .inl (cI, 600, .inl nu2_3)), (qfi, .inl (cI, 600, .inl fi2_4)), (qme, .inl (cI, 600, .inl me2_5)), (qus, .inl (cI, 100, .inl us2_6))]) hP hD [0, 1, 2, 3, 4, 5, 6, 7, 8, 9, 10, 11, 12] [] rfl rfl (by decide) (by decide) hk1_9 hFc hP1_9 hD1_9
  generalize H1_9 = H at hP hS ⊢
  have hP : va_P D vwCl [(qx, .inr (4, [.ref qc, .ref qC, .ref qS, .ref qP, .int (nI 0)])), (qc, .inr (0, [.ref qk, .ref q0, .ref q1, .ref qo, .ref qv, .int (nI n), .int (nI ni), .int (nI no)])), (qk, .inl (cI, 100, .inl kd)), (q0, .inl (cI, 100, .inl s0)), (q1, .inl (cI, 100, .inl s1)), (qo, .inl (cI, 12, .inl on)), (qv, .inl (cJ, 1600, .inr (.inl vl))), (qC, .inr (1, [.ref qpa, .ref qnu, .ref qfi, .ref qme, .ref qus, .int (nI cs2_7)])), (qpa, .inl (cI, 600, .inl pa2_2)), (qnu, .inl (cI, 600, .inl nu2_3)), (qfi, .inl (cI, 600, .inl fi2_4)), (qme, .inl (cI, 600, .inl me2_5)), (qus, .inl (cI, 100, .inl us2_6))] H := hP
  have hD : va_D A [(qx, .inr (4, [.ref qc, .ref qC, .ref qS, .ref qP, .int (nI 0)])), (qc, .inr (0, [.ref qk, .ref q0, .ref q1, .ref qo, .ref qv, .int (nI n), .int (nI ni), .int (nI no)])), (qk, .inl (cI, 100, .inl kd)), (q0, .inl (cI, 100, .inl s0)), (q1, .inl (cI, 100, .inl s1)), (qo, .inl (cI, 12, .inl on)), (qv, .inl (cJ, 1600, .inr (.inl vl))), (qC, .inr (1, [.ref qpa, .ref qnu, .ref qfi, .ref qme, .ref qus, .int (nI cs2_7)])), (qpa, .inl (cI, 600, .inl pa2_2)), (qnu, .inl (cI, 600, .inl nu2_3)), (qfi, .inl (cI, 600, .inl fi2_4)), (qme, .inl (cI, 600, .inl me2_5)), (qus, .inl (cI, 100, .inl us2_6))] := hD
  have hcl9 := k_G.le hn
  refine lv_iload_n hx hb dX4_requireClass_4 rfl (lv_at hl 1 rfl) ?_
  refine lv_if_lt (tgt := 19) hx hb dX4_requireClass_5 (by decide) (fun c_5 => ?_) (fun c_5 => ?_)
  · skip
    rw [show (0 : Int32) = nI 0 from rfl, zc_lt (by omega) (by omega)] at c_5
    exact absurd c_5 (Nat.not_lt_zero _)
  · skip
    rw [show (0 : Int32) = nI 0 from rfl, zc_lt (by omega) (by omega)] at c_5
    refine lv_iload_n hx hb dX4_requireClass_8 rfl (lv_at hl 1 rfl) ?_
    refine lv_aload_n hx hb dX4_requireClass_9 rfl (lv_at hl 0 rfl) ?_
    refine va_get (D := D) (ci := 4) (v := .ref qC) (C := RX4) (T := TX4) (N := 5) hx hb hts hiX4 hown hK hP 0 rfl rfl 1 (by decide) (hts (.fieldLink RX4 19 "FaultSearch" "classes" "LFaultSearch$Classes;") (by decide +kernel)) (fun _ h9 => h9) rfl dX4_requireClass_10 ?_
    refine va_get (D := D) (ci := 1) (v := .int (nI cs2_7)) (C := RX1) (T := TX1) (N := 6) hx hb hts hiX1 hown hK hP 7 rfl rfl 5 (by decide) (hts (.fieldLink RX4 114 "FaultSearch$Classes" "size" "I") (by decide +kernel)) (fun _ h9 => h9) rfl dX4_requireClass_13 ?_
    refine lv_icmp_lt (tgt := 29) hx hb dX4_requireClass_16 (by decide) (fun c_16 => ?_) (fun c_16 => ?_)
    · skip
      rw [zc_lt (by omega) (by omega)] at c_16
      exact W.vret hx hb hr (fun t_9 ht_9 hW_9 => ⟨⟨(pa2_2, nu2_3, fi2_4, me2_5, us2_6, cs2_7), rfl, (show CGood kd s0 s1 on n no nu2_3 fi2_4 me2_5 cs2_7 from k_G), ⟨by rw [ht_9]; exact hP, hD⟩⟩, hS.F ht_9⟩) hS.2.2 dX4_requireClass_29
    · skip
      rw [zc_lt (by omega) (by omega)] at c_16
      exact absurd (by rw [k_G.cs]; exact hk) c_16

set_option maxHeartbeats 4000000 in
set_option maxRecDepth 100000 in
theorem c_X4_requireClass_no (l : Launch) (hl0 : l.stackTraces = false) (D : va_G) (cI cJ cZ : ClassId) (qx : Nat) (qc : Nat) (qk : Nat) (q0 : Nat) (q1 : Nat) (qo : Nat) (qv : Nat) (kd : Nat → Int32) (s0 : Nat → Int32) (s1 : Nat → Int32) (on : Nat → Int32) (vl : Nat → Int64) (n : Nat) (ni : Nat) (no : Nat) (qC : Nat) (qpa : Nat) (qnu : Nat) (qfi : Nat) (qme : Nat) (qus : Nat) (pa : Nat → Int32) (nu : Nat → Int32) (fi : Nat → Int32) (me : Nat → Int32) (us : Nat → Int32) (cs : Nat) (qS : Nat) (qP : Nat) (st : Nat) (k : Int32) (sz : Nat) (A : Nat → Prop) (hAe : A = va_A [(qx, .inr (4, [.ref qc, .ref qC, .ref qS, .ref qP, .int (nI st)])), (qc, .inr (0, [.ref qk, .ref q0, .ref q1, .ref qo, .ref qv, .int (nI n), .int (nI ni), .int (nI no)])), (qk, .inl (cI, 100, .inl kd)), (q0, .inl (cI, 100, .inl s0)), (q1, .inl (cI, 100, .inl s1)), (qo, .inl (cI, 12, .inl on)), (qv, .inl (cJ, 1600, .inr (.inl vl))), (qC, .inr (1, [.ref qpa, .ref qnu, .ref qfi, .ref qme, .ref qus, .int (nI cs)])), (qpa, .inl (cI, 600, .inl pa)), (qnu, .inl (cI, 600, .inl nu)), (qfi, .inl (cI, 600, .inl fi)), (qme, .inl (cI, 600, .inl me)), (qus, .inl (cI, 100, .inl us))] sz) (hn : n ≤ 100) (hno : no ≤ 12) (hwf : WF n kd s0 s1) (hwo : WO n no on) (hst : st < 2) (hcs : CST kd s0 s1 on n no st nu fi me cs) (h : ¬ isN (ncl kd s0 s1 on n no) k) : vx_Met l yX4_requireClass wsX4_requireClass ({ frames := 6, cells := 1, slots := 6, locals := 117 } : Room) (va_Pc [.ref qx, .int k] (PX D cI cJ cZ [(qx, .inr (4, [.ref qc, .ref qC, .ref qS, .ref qP, .int (nI st)])), (qc, .inr (0, [.ref qk, .ref q0, .ref q1, .ref qo, .ref qv, .int (nI n), .int (nI ni), .int (nI no)])), (qk, .inl (cI, 100, .inl kd)), (q0, .inl (cI, 100, .inl s0)), (q1, .inl (cI, 100, .inl s1)), (qo, .inl (cI, 12, .inl on)), (qv, .inl (cJ, 1600, .inr (.inl vl))), (qC, .inr (1, [.ref qpa, .ref qnu, .ref qfi, .ref qme, .ref qus, .int (nI cs)])), (qpa, .inl (cI, 600, .inl pa)), (qnu, .inl (cI, 600, .inl nu)), (qfi, .inl (cI, 600, .inl fi)), (qme, .inl (cI, 600, .inl me)), (qus, .inl (cI, 100, .inl us))] sz)) (va_Qv (fun (_ : Unit) => False) (fun _ _ => True) A) (vx_X (fun u9 : (Nat → Int32) × (Nat → Int32) × (Nat → Int32) × (Nat → Int32) × (Nat → Int32) × Nat => match u9 with | (pa2, nu2, fi2, me2, us2, cs2) => CGood kd s0 s1 on n no nu2 fi2 me2 cs2) (fun E (u9 : (Nat → Int32) × (Nat → Int32) × (Nat → Int32) × (Nat → Int32) × (Nat → Int32) × Nat) t => E = "java/lang/IndexOutOfBoundsException" ∧ match u9 with | (pa2, nu2, fi2, me2, us2, cs2) => PQ D A [(qx, .inr (4, [.ref qc, .ref qC, .ref qS, .ref qP, .int (nI 0)])), (qc, .inr (0, [.ref qk, .ref q0, .ref q1, .ref qo, .ref qv, .int (nI n), .int (nI ni), .int (nI no)])), (qk, .inl (cI, 100, .inl kd)), (q0, .inl (cI, 100, .inl s0)), (q1, .inl (cI, 100, .inl s1)), (qo, .inl (cI, 12, .inl on)), (qv, .inl (cJ, 1600, .inr (.inl vl))), (qC, .inr (1, [.ref qpa, .ref qnu, .ref qfi, .ref qme, .ref qus, .int (nI cs2)])), (qpa, .inl (cI, 600, .inl pa2)), (qnu, .inl (cI, 600, .inl nu2)), (qfi, .inl (cI, 600, .inl fi2)), (qme, .inl (cI, 600, .inl me2)), (qus, .inl (cI, 100, .inl us2))] t) A) 1 6 A := by
  refine vx_ofW (cc := cX4_requireClass) (maxL := 2) (ret := none) (by decide) rfl ?_
  intro p e s m args below meth c s₁ B hml hxt hv
  obtain ⟨rfl, ⟨hsz, ⟨hP, hK, hNB⟩, hD0⟩, hGX⟩ := hv
  have hx := B.exec
  have hb := B.bytes
  have hr := B.returns
  have hts := atoms_spec (ws := wsX4_requireClass) B.pre
  have hown : s.vm.findClass RX4 = some m.cls := findClass_of_methodNamed B.named
  have hlocks := B.notSynchronized
  have hiX1 : ∀ w ∈ u_ws RX1 TX1 6, w ∈ wsX4_requireClass := by decide +kernel
  have hiX4 : ∀ w ∈ u_ws RX4 TX4 5, w ∈ wsX4_requireClass := by decide +kernel
  subst hsz
  rw [← hAe] at hGX
  have hD : va_D A [(qx, .inr (4, [.ref qc, .ref qC, .ref qS, .ref qP, .int (nI st)])), (qc, .inr (0, [.ref qk, .ref q0, .ref q1, .ref qo, .ref qv, .int (nI n), .int (nI ni), .int (nI no)])), (qk, .inl (cI, 100, .inl kd)), (q0, .inl (cI, 100, .inl s0)), (q1, .inl (cI, 100, .inl s1)), (qo, .inl (cI, 12, .inl on)), (qv, .inl (cJ, 1600, .inr (.inl vl))), (qC, .inr (1, [.ref qpa, .ref qnu, .ref qfi, .ref qme, .ref qus, .int (nI cs)])), (qpa, .inl (cI, 600, .inl pa)), (qnu, .inl (cI, 600, .inl nu)), (qfi, .inl (cI, 600, .inl fi)), (qme, .inl (cI, 600, .inl me)), (qus, .inl (cI, 100, .inl us))] := by rw [hAe]; exact hD0.self
  have hA : ∀ q : Nat, s.heap.size ≤ q → A q := fun q h => by rw [hAe]; exact Or.inr h
  have hS : va_S A s.heap s.heap [] := va_S.rf
  have hl := lv_entry ([.ref qx, .int k]) (n := 2) (Nat.le_of_ble_eq_true rfl)
  rw [lg_entry_eq]
  generalize (lg_sl ([.ref qx, .int k]) ++ List.replicate (2 - (lg_sl ([.ref qx, .int k])).length) Slot.unset).toArray = ls at hl ⊢
  have hl : lv_has ls 2 [(0, .ref qx), (1, .int k)] := hl
  refine lv_aload_n hx hb dX4_requireClass_0 rfl (lv_at hl 0 rfl) ?_
  have hPc := hP.sub (ws' := [(qx, .inr (4, [.ref qc, .ref qC, .ref qS, .ref qP, .int (nI st)])), (qc, .inr (0, [.ref qk, .ref q0, .ref q1, .ref qo, .ref qv, .int (nI n), .int (nI ni), .int (nI no)])), (qk, .inl (cI, 100, .inl kd)), (q0, .inl (cI, 100, .inl s0)), (q1, .inl (cI, 100, .inl s1)), (qo, .inl (cI, 12, .inl on)), (qv, .inl (cJ, 1600, .inr (.inl vl))), (qC, .inr (1, [.ref qpa, .ref qnu, .ref qfi, .ref qme, .ref qus, .int (nI cs)])), (qpa, .inl (cI, 600, .inl pa)), (qnu, .inl (cI, 600, .inl nu)), (qfi, .inl (cI, 600, .inl fi)), (qme, .inl (cI, 600, .inl me)), (qus, .inl (cI, 100, .inl us))]) [0, 1, 2, 3, 4, 5, 6, 7, 8, 9, 10, 11, 12] rfl
  have hDc := hD.sub (ws' := [(qx, .inr (4, [.ref qc, .ref qC, .ref qS, .ref qP, .int (nI st)])), (qc, .inr (0, [.ref qk, .ref q0, .ref q1, .ref qo, .ref qv, .int (nI n), .int (nI ni), .int (nI no)])), (qk, .inl (cI, 100, .inl kd)), (q0, .inl (cI, 100, .inl s0)), (q1, .inl (cI, 100, .inl s1)), (qo, .inl (cI, 12, .inl on)), (qv, .inl (cJ, 1600, .inr (.inl vl))), (qC, .inr (1, [.ref qpa, .ref qnu, .ref qfi, .ref qme, .ref qus, .int (nI cs)])), (qpa, .inl (cI, 600, .inl pa)), (qnu, .inl (cI, 600, .inl nu)), (qfi, .inl (cI, 600, .inl fi)), (qme, .inl (cI, 600, .inl me)), (qus, .inl (cI, 100, .inl us))]) [0, 1, 2, 3, 4, 5, 6, 7, 8, 9, 10, 11, 12] (by decide) rfl
  have hFc := va_free (wc := [(qx, .inr (4, [.ref qc, .ref qC, .ref qS, .ref qP, .int (nI st)])), (qc, .inr (0, [.ref qk, .ref q0, .ref q1, .ref qo, .ref qv, .int (nI n), .int (nI ni), .int (nI no)])), (qk, .inl (cI, 100, .inl kd)), (q0, .inl (cI, 100, .inl s0)), (q1, .inl (cI, 100, .inl s1)), (qo, .inl (cI, 12, .inl on)), (qv, .inl (cJ, 1600, .inr (.inl vl))), (qC, .inr (1, [.ref qpa, .ref qnu, .ref qfi, .ref qme, .ref qus, .int (nI cs)])), (qpa, .inl (cI, 600, .inl pa)), (qnu, .inl (cI, 600, .inl nu)), (qfi, .inl (cI, 600, .inl fi)), (qme, .inl (cI, 600, .inl me)), (qus, .inl (cI, 100, .inl us))]) hD hS hA [0, 1, 2, 3, 4, 5, 6, 7, 8, 9, 10, 11, 12] rfl
  refine va_callv (va_runV (As := []) (rest := []) ⟨hx, hb, hml, hown, hts⟩ (c_X4_refresh l D cI cJ cZ qx qc qk q0 q1 qo qv kd s0 s1 on vl n ni no qC qpa qnu qfi qme qus pa nu fi me us cs qS qP st s.heap.size _ rfl (by omega) (by omega) hwf hwo (by omega) hcs) (cwV 0 hts gX4_requireClass_X4_refresh rfl rfl rfl (by decide +kernel) ⟨Nat.le_of_ble_eq_true rfl, Nat.le_of_ble_eq_true rfl⟩) ⟨PW.blind, va_recv hK hPc (ci := 4) (q0 := 0) rfl rfl, fun U hU hW => ⟨rfl, PW.to hPc hK hNB hDc hU hW⟩⟩ rfl rfl hl.1 rfl (lv_room (Nat.le_of_ble_eq_true rfl)) dX4_requireClass_1 ⟨Nat.le_of_ble_eq_true rfl, Nat.le_of_ble_eq_true rfl⟩) hS (fun q _ h => hFc q h) hFc (fun u_9 t_9 H1_9 locs ht_9 hvm_9 hw_9 hB_9 hz1_9 hk1_9 hS => ?_)
  obtain ⟨pa2_2, nu2_3, fi2_4, me2_5, us2_6, cs2_7⟩ := u_9
  obtain ⟨hP1_9, hD1_9⟩ := hB_9
  rw [ht_9] at hP1_9
  have k_G := hw_9
  have k_G : CGood kd s0 s1 on n no nu2_3 fi2_4 me2_5 cs2_7 := k_G
  obtain ⟨hP, hD⟩ := va_join (wr := []) (w1 := [(qx, .inr (4, [.ref qc, .ref qC, .ref qS, .ref qP, .int (nI 0)])), (qc, .inr (0, [.ref qk, .ref q0, .ref q1, .ref qo, .ref qv, .int (nI n), .int (nI ni), .int (nI no)])), (qk, .inl (cI, 100, .inl kd)), (q0, .inl (cI, 100, .inl s0)), (q1, .inl (cI, 100, .inl s1)), (qo, .inl (cI, 12, .inl on)), (qv, .inl (cJ, 1600, .inr (.inl vl))), (qC, .inr (1, [.ref qpa, .ref qnu, .ref qfi, .ref qme, .ref qus, .int (nI cs2_7)])), (qpa, .inl (cI, 600, .inl pa2_2)), (qnu, .inl (cI, 600, .inl nu2_3)), (qfi, .inl (cI, 600, .inl fi2_4)), (qme, .inl (cI, 600, .inl me2_5)), (qus, .inl (cI, 100, .inl us2_6))]) hP hD [0, 1, 2, 3, 4, 5, 6, 7, 8, 9, 10, 11, 12] [] rfl rfl (by decide) (by decide) hk1_9 hFc hP1_9 hD1_9
  generalize H1_9 = H at hP hS ⊢
  have hP : va_P D vwCl [(qx, .inr (4, [.ref qc, .ref qC, .ref qS, .ref qP, .int (nI 0)])), (qc, .inr (0, [.ref qk, .ref q0, .ref q1, .ref qo, .ref qv, .int (nI n), .int (nI ni), .int (nI no)])), (qk, .inl (cI, 100, .inl kd)), (q0, .inl (cI, 100, .inl s0)), (q1, .inl (cI, 100, .inl s1)), (qo, .inl (cI, 12, .inl on)), (qv, .inl (cJ, 1600, .inr (.inl vl))), (qC, .inr (1, [.ref qpa, .ref qnu, .ref qfi, .ref qme, .ref qus, .int (nI cs2_7)])), (qpa, .inl (cI, 600, .inl pa2_2)), (qnu, .inl (cI, 600, .inl nu2_3)), (qfi, .inl (cI, 600, .inl fi2_4)), (qme, .inl (cI, 600, .inl me2_5)), (qus, .inl (cI, 100, .inl us2_6))] H := hP
  have hD : va_D A [(qx, .inr (4, [.ref qc, .ref qC, .ref qS, .ref qP, .int (nI 0)])), (qc, .inr (0, [.ref qk, .ref q0, .ref q1, .ref qo, .ref qv, .int (nI n), .int (nI ni), .int (nI no)])), (qk, .inl (cI, 100, .inl kd)), (q0, .inl (cI, 100, .inl s0)), (q1, .inl (cI, 100, .inl s1)), (qo, .inl (cI, 12, .inl on)), (qv, .inl (cJ, 1600, .inr (.inl vl))), (qC, .inr (1, [.ref qpa, .ref qnu, .ref qfi, .ref qme, .ref qus, .int (nI cs2_7)])), (qpa, .inl (cI, 600, .inl pa2_2)), (qnu, .inl (cI, 600, .inl nu2_3)), (qfi, .inl (cI, 600, .inl fi2_4)), (qme, .inl (cI, 600, .inl me2_5)), (qus, .inl (cI, 100, .inl us2_6))] := hD
  refine lv_iload_n hx hb dX4_requireClass_4 rfl (lv_at hl 1 rfl) ?_
  refine lv_if_lt (tgt := 19) hx hb dX4_requireClass_5 (by decide) (fun c_5 => ?_) (fun c_5 => ?_)
  · skip
    obtain ⟨sa_9, hstr_9⟩ := hGX.2.1.2.2.2.2.2.2.2.2.2.1
    have hat_9 : ∀ w ∈ (vx_atS RX4 75 "java/lang/IndexOutOfBoundsException" ["java/lang/RuntimeException", "java/lang/Exception"]).filter goodWord, w ∈ wsX4_requireClass := by decide +kernel
    exact vx_throwS (names := ["java/lang/RuntimeException", "java/lang/Exception"]) hx hb hl0 hown (by decide +kernel) (by decide +kernel) (hts (.classLink RX4 71 "java/lang/IndexOutOfBoundsException") (by decide +kernel)) (hts (.initialized "java/lang/IndexOutOfBoundsException") (by decide +kernel)) hstr_9 (vx_hat (fun w h => hts w (hat_9 w h)) (by decide +kernel) hGX.1.use) (by decide +kernel) hGX.2.2.1 hGX.2.2.2 hS (by rw [hml]; exact hl.1) dX4_requireClass_19 dX4_requireClass_22 dX4_requireClass_23 dX4_requireClass_25 dX4_requireClass_28 (fun x h => (hxt x h).elim) (Nat.le_of_ble_eq_true rfl) (Nat.le_of_ble_eq_true rfl) (Nat.le_of_ble_eq_true rfl) (Nat.le_of_ble_eq_true rfl) hlocks (fun t_9 ha_9 hz_9 hk_9 => ⟨(pa2_2, nu2_3, fi2_4, me2_5, us2_6, cs2_7), (show CGood kd s0 s1 on n no nu2_3 fi2_4 me2_5 cs2_7 from k_G), ⟨rfl, zx_P hP hk_9, hD⟩, zx_F hS hz_9 hk_9⟩) hS.2.2 (by decide) (by decide)
  · skip
    refine lv_iload_n hx hb dX4_requireClass_8 rfl (lv_at hl 1 rfl) ?_
    refine lv_aload_n hx hb dX4_requireClass_9 rfl (lv_at hl 0 rfl) ?_
    refine va_get (D := D) (ci := 4) (v := .ref qC) (C := RX4) (T := TX4) (N := 5) hx hb hts hiX4 hown hK hP 0 rfl rfl 1 (by decide) (hts (.fieldLink RX4 19 "FaultSearch" "classes" "LFaultSearch$Classes;") (by decide +kernel)) (fun _ h9 => h9) rfl dX4_requireClass_10 ?_
    refine va_get (D := D) (ci := 1) (v := .int (nI cs2_7)) (C := RX1) (T := TX1) (N := 6) hx hb hts hiX1 hown hK hP 7 rfl rfl 5 (by decide) (hts (.fieldLink RX4 114 "FaultSearch$Classes" "size" "I") (by decide +kernel)) (fun _ h9 => h9) rfl dX4_requireClass_13 ?_
    refine lv_icmp_lt (tgt := 29) hx hb dX4_requireClass_16 (by decide) (fun c_16 => ?_) (fun c_16 => ?_)
    · skip
      exact absurd ⟨c_5, by rw [← k_G.cs]; exact fun h9 => absurd c_16 (Int32.not_lt.mpr h9)⟩ h
    · skip
      obtain ⟨sa_9, hstr_9⟩ := hGX.2.1.2.2.2.2.2.2.2.2.2.1
      have hat_9 : ∀ w ∈ (vx_atS RX4 75 "java/lang/IndexOutOfBoundsException" ["java/lang/RuntimeException", "java/lang/Exception"]).filter goodWord, w ∈ wsX4_requireClass := by decide +kernel
      exact vx_throwS (names := ["java/lang/RuntimeException", "java/lang/Exception"]) hx hb hl0 hown (by decide +kernel) (by decide +kernel) (hts (.classLink RX4 71 "java/lang/IndexOutOfBoundsException") (by decide +kernel)) (hts (.initialized "java/lang/IndexOutOfBoundsException") (by decide +kernel)) hstr_9 (vx_hat (fun w h => hts w (hat_9 w h)) (by decide +kernel) hGX.1.use) (by decide +kernel) hGX.2.2.1 hGX.2.2.2 hS (by rw [hml]; exact hl.1) dX4_requireClass_19 dX4_requireClass_22 dX4_requireClass_23 dX4_requireClass_25 dX4_requireClass_28 (fun x h => (hxt x h).elim) (Nat.le_of_ble_eq_true rfl) (Nat.le_of_ble_eq_true rfl) (Nat.le_of_ble_eq_true rfl) (Nat.le_of_ble_eq_true rfl) hlocks (fun t_9 ha_9 hz_9 hk_9 => ⟨(pa2_2, nu2_3, fi2_4, me2_5, us2_6, cs2_7), (show CGood kd s0 s1 on n no nu2_3 fi2_4 me2_5 cs2_7 from k_G), ⟨rfl, zx_P hP hk_9, hD⟩, zx_F hS hz_9 hk_9⟩) hS.2.2 (by decide) (by decide)

set_option maxHeartbeats 4000000 in
set_option maxRecDepth 100000 in
theorem c_X4_forgetDerived (l : Launch) (D : va_G) (cI cJ cZ : ClassId) (qx : Nat) (qc : Nat) (qC : Nat) (qS : Nat) (qse : Nat) (qre : Nat) (qcg : Nat) (se : Nat → Int64) (re : Nat → Int32) (cg : Nat → Int64) (qP : Nat) (qfo : Nat) (qte : Nat) (fd : Nat → Int32) (ts : Nat → Int32) (fc : Nat) (tc : Nat) (st : Nat) (sz : Nat) (A : Nat → Prop) (hAe : A = va_A [(qx, .inr (4, [.ref qc, .ref qC, .ref qS, .ref qP, .int (nI st)])), (qS, .inr (3, [.ref qc, .ref qse, .ref qre, .ref qcg])), (qse, .inl (cJ, 1600, .inr (.inl se))), (qre, .inl (cZ, 100, .inl re)), (qcg, .inl (cJ, 100, .inr (.inl cg))), (qP, .inr (2, [.ref qfo, .ref qte, .int (nI fc), .int (nI tc)])), (qfo, .inl (cZ, 600, .inl fd)), (qte, .inl (cI, 600, .inl ts))] sz) : Met l yX4_forgetDerived wsX4_forgetDerived ({ frames := 1, cells := 0, slots := 0, locals := 21 } : Room) (va_Pc [.ref qx] (PW D cI cJ cZ [(qx, .inr (4, [.ref qc, .ref qC, .ref qS, .ref qP, .int (nI st)])), (qS, .inr (3, [.ref qc, .ref qse, .ref qre, .ref qcg])), (qse, .inl (cJ, 1600, .inr (.inl se))), (qre, .inl (cZ, 100, .inl re)), (qcg, .inl (cJ, 100, .inr (.inl cg))), (qP, .inr (2, [.ref qfo, .ref qte, .int (nI fc), .int (nI tc)])), (qfo, .inl (cZ, 600, .inl fd)), (qte, .inl (cI, 600, .inl ts))] sz)) (va_Qv (fun _u9 : Unit => True) (fun (_u9 : Unit) t => PQ D A [(qx, .inr (4, [.ref qc, .ref qC, .ref qS, .ref qP, .int (nI 1)])), (qS, .inr (3, [.ref qc, .ref qse, .ref qre, .ref qcg])), (qse, .inl (cJ, 1600, .inr (.inl se))), (qre, .inl (cZ, 100, .inl (clrF re 100))), (qcg, .inl (cJ, 100, .inr (.inl cg))), (qP, .inr (2, [.ref qfo, .ref qte, .int (nI 0), .int (nI 0)])), (qfo, .inl (cZ, 600, .inl (clrF fd 600))), (qte, .inl (cI, 600, .inl ts))] t) A) 0 0 A := by
  refine Met.ofW (cc := cX4_forgetDerived) (maxL := 1) (ret := none) (by decide) rfl ?_
  intro p e s m args below meth c s₁ B hml hv
  obtain ⟨rfl, hsz, ⟨hP, hK, hNB⟩, hD0⟩ := hv
  have hx := B.exec
  have hb := B.bytes
  have hr := B.returns
  have hts := atoms_spec (ws := wsX4_forgetDerived) B.pre
  have hown : s.vm.findClass RX4 = some m.cls := findClass_of_methodNamed B.named
  have hlocks := B.notSynchronized
  have hiX2 : ∀ w ∈ u_ws RX2 TX2 4, w ∈ wsX4_forgetDerived := by decide +kernel
  have hiX4 : ∀ w ∈ u_ws RX4 TX4 5, w ∈ wsX4_forgetDerived := by decide +kernel
  subst hsz
  have hD : va_D A [(qx, .inr (4, [.ref qc, .ref qC, .ref qS, .ref qP, .int (nI st)])), (qS, .inr (3, [.ref qc, .ref qse, .ref qre, .ref qcg])), (qse, .inl (cJ, 1600, .inr (.inl se))), (qre, .inl (cZ, 100, .inl re)), (qcg, .inl (cJ, 100, .inr (.inl cg))), (qP, .inr (2, [.ref qfo, .ref qte, .int (nI fc), .int (nI tc)])), (qfo, .inl (cZ, 600, .inl fd)), (qte, .inl (cI, 600, .inl ts))] := by rw [hAe]; exact hD0.self
  have hA : ∀ q : Nat, s.heap.size ≤ q → A q := fun q h => by rw [hAe]; exact Or.inr h
  have hS : va_S A s.heap s.heap [] := va_S.rf
  have hl := lv_entry ([.ref qx]) (n := 1) (Nat.le_of_ble_eq_true rfl)
  rw [lg_entry_eq]
  generalize (lg_sl ([.ref qx]) ++ List.replicate (1 - (lg_sl ([.ref qx])).length) Slot.unset).toArray = ls at hl ⊢
  have hl : lv_has ls 1 [(0, .ref qx)] := hl
  refine lv_aload_n hx hb dX4_forgetDerived_0 rfl (lv_at hl 0 rfl) ?_
  refine lv_iconst (v := (nI 1)) hx hb dX4_forgetDerived_1 (by decide) ?_
  refine va_put (D := D) (ci := 4) (v := .int (nI 1)) (ty := .boolean) (C := RX4) (T := TX4) (N := 5) hx hb hts hiX4 tyX4 tyX4_ok nmX4 hown hK hP hD hS 0 rfl rfl 4 (by decide) (hts (.fieldLink RX4 39 "FaultSearch" "stale" "Z") (by decide +kernel)) (fun _ h9 => h9) rfl (by decide +kernel) rfl rfl (Nat.le_of_ble_eq_true rfl) dX4_forgetDerived_2 (fun H locs hP hD hS => ?_)
  have hP : va_P D vwCl [(qx, .inr (4, [.ref qc, .ref qC, .ref qS, .ref qP, .int (nI 1)])), (qS, .inr (3, [.ref qc, .ref qse, .ref qre, .ref qcg])), (qse, .inl (cJ, 1600, .inr (.inl se))), (qre, .inl (cZ, 100, .inl re)), (qcg, .inl (cJ, 100, .inr (.inl cg))), (qP, .inr (2, [.ref qfo, .ref qte, .int (nI fc), .int (nI tc)])), (qfo, .inl (cZ, 600, .inl fd)), (qte, .inl (cI, 600, .inl ts))] H := hP
  have hD : va_D A [(qx, .inr (4, [.ref qc, .ref qC, .ref qS, .ref qP, .int (nI 1)])), (qS, .inr (3, [.ref qc, .ref qse, .ref qre, .ref qcg])), (qse, .inl (cJ, 1600, .inr (.inl se))), (qre, .inl (cZ, 100, .inl re)), (qcg, .inl (cJ, 100, .inr (.inl cg))), (qP, .inr (2, [.ref qfo, .ref qte, .int (nI fc), .int (nI tc)])), (qfo, .inl (cZ, 600, .inl fd)), (qte, .inl (cI, 600, .inl ts))] := hD
  refine lv_aload_n hx hb dX4_forgetDerived_5 rfl (lv_at hl 0 rfl) ?_
  refine va_get (D := D) (ci := 4) (v := .ref qS) (C := RX4) (T := TX4) (N := 5) hx hb hts hiX4 hown hK hP 0 rfl rfl 2 (by decide) (hts (.fieldLink RX4 28 "FaultSearch" "sight" "LFaultSearch$Sight;") (by decide +kernel)) (fun _ h9 => h9) rfl dX4_forgetDerived_6 ?_
  have hPc := hP.sub (ws' := [(qS, .inr (3, [.ref qc, .ref qse, .ref qre, .ref qcg])), (qse, .inl (cJ, 1600, .inr (.inl se))), (qre, .inl (cZ, 100, .inl re)), (qcg, .inl (cJ, 100, .inr (.inl cg)))]) [1, 2, 3, 4] rfl
  have hDc := hD.sub (ws' := [(qS, .inr (3, [.ref qc, .ref qse, .ref qre, .ref qcg])), (qse, .inl (cJ, 1600, .inr (.inl se))), (qre, .inl (cZ, 100, .inl re)), (qcg, .inl (cJ, 100, .inr (.inl cg)))]) [1, 2, 3, 4] (by decide) rfl
  have hFc := va_free (wc := [(qS, .inr (3, [.ref qc, .ref qse, .ref qre, .ref qcg])), (qse, .inl (cJ, 1600, .inr (.inl se))), (qre, .inl (cZ, 100, .inl re)), (qcg, .inl (cJ, 100, .inr (.inl cg)))]) hD hS hA [1, 2, 3, 4] rfl
  refine va_callv (va_runV (As := []) (rest := []) ⟨hx, hb, hml, hown, hts⟩ (c_X3_forget l D cI cJ cZ qc qS qse qre qcg se re cg H.size _ rfl) (cwV 0 hts gX4_forgetDerived_X3_forget rfl rfl rfl (by decide +kernel) ⟨Nat.le_of_ble_eq_true rfl, Nat.le_of_ble_eq_true rfl⟩) ⟨PW.blind, va_recv hK hPc (ci := 3) (q0 := 0) rfl rfl, fun U hU hW => ⟨rfl, PW.to hPc hK hNB hDc hU hW⟩⟩ rfl rfl hl.1 rfl (lv_room (Nat.le_of_ble_eq_true rfl)) dX4_forgetDerived_9 ⟨Nat.le_of_ble_eq_true rfl, Nat.le_of_ble_eq_true rfl⟩) hS (fun q _ h => hFc q h) hFc (fun u_9 t_9 H1_9 locs ht_9 hvm_9 hw_9 hB_9 hz1_9 hk1_9 hS => ?_)
  obtain ⟨hP1_9, hD1_9⟩ := hB_9
  rw [ht_9] at hP1_9
  obtain ⟨hP, hD⟩ := va_join (wr := [(qx, .inr (4, [.ref qc, .ref qC, .ref qS, .ref qP, .int (nI 1)])), (qP, .inr (2, [.ref qfo, .ref qte, .int (nI fc), .int (nI tc)])), (qfo, .inl (cZ, 600, .inl fd)), (qte, .inl (cI, 600, .inl ts))]) (w1 := [(qS, .inr (3, [.ref qc, .ref qse, .ref qre, .ref qcg])), (qse, .inl (cJ, 1600, .inr (.inl se))), (qre, .inl (cZ, 100, .inl (clrF re 100))), (qcg, .inl (cJ, 100, .inr (.inl cg)))]) hP hD [1, 2, 3, 4] [0, 5, 6, 7] rfl rfl (by decide) (by decide) hk1_9 hFc hP1_9 hD1_9
  have hP := hP.sub (ws' := [(qx, .inr (4, [.ref qc, .ref qC, .ref qS, .ref qP, .int (nI 1)])), (qS, .inr (3, [.ref qc, .ref qse, .ref qre, .ref qcg])), (qse, .inl (cJ, 1600, .inr (.inl se))), (qre, .inl (cZ, 100, .inl (clrF re 100))), (qcg, .inl (cJ, 100, .inr (.inl cg))), (qP, .inr (2, [.ref qfo, .ref qte, .int (nI fc), .int (nI tc)])), (qfo, .inl (cZ, 600, .inl fd)), (qte, .inl (cI, 600, .inl ts))]) [0, 4, 5, 6, 7, 1, 2, 3] rfl
  have hD := hD.sub (ws' := [(qx, .inr (4, [.ref qc, .ref qC, .ref qS, .ref qP, .int (nI 1)])), (qS, .inr (3, [.ref qc, .ref qse, .ref qre, .ref qcg])), (qse, .inl (cJ, 1600, .inr (.inl se))), (qre, .inl (cZ, 100, .inl (clrF re 100))), (qcg, .inl (cJ, 100, .inr (.inl cg))), (qP, .inr (2, [.ref qfo, .ref qte, .int (nI fc), .int (nI tc)])), (qfo, .inl (cZ, 600, .inl fd)), (qte, .inl (cI, 600, .inl ts))]) [0, 4, 5, 6, 7, 1, 2, 3] (by decide) rfl
  generalize H1_9 = H at hP hS ⊢
  have hP : va_P D vwCl [(qx, .inr (4, [.ref qc, .ref qC, .ref qS, .ref qP, .int (nI 1)])), (qS, .inr (3, [.ref qc, .ref qse, .ref qre, .ref qcg])), (qse, .inl (cJ, 1600, .inr (.inl se))), (qre, .inl (cZ, 100, .inl (clrF re 100))), (qcg, .inl (cJ, 100, .inr (.inl cg))), (qP, .inr (2, [.ref qfo, .ref qte, .int (nI fc), .int (nI tc)])), (qfo, .inl (cZ, 600, .inl fd)), (qte, .inl (cI, 600, .inl ts))] H := hP
  have hD : va_D A [(qx, .inr (4, [.ref qc, .ref qC, .ref qS, .ref qP, .int (nI 1)])), (qS, .inr (3, [.ref qc, .ref qse, .ref qre, .ref qcg])), (qse, .inl (cJ, 1600, .inr (.inl se))), (qre, .inl (cZ, 100, .inl (clrF re 100))), (qcg, .inl (cJ, 100, .inr (.inl cg))), (qP, .inr (2, [.ref qfo, .ref qte, .int (nI fc), .int (nI tc)])), (qfo, .inl (cZ, 600, .inl fd)), (qte, .inl (cI, 600, .inl ts))] := hD
  refine lv_aload_n hx hb dX4_forgetDerived_12 rfl (lv_at hl 0 rfl) ?_
  refine va_get (D := D) (ci := 4) (v := .ref qP) (C := RX4) (T := TX4) (N := 5) hx hb hts hiX4 hown hK hP 0 rfl rfl 3 (by decide) (hts (.fieldLink RX4 35 "FaultSearch" "progress" "LFaultSearch$Progress;") (by decide +kernel)) (fun _ h9 => h9) rfl dX4_forgetDerived_13 ?_
  have hPc := hP.sub (ws' := [(qP, .inr (2, [.ref qfo, .ref qte, .int (nI fc), .int (nI tc)])), (qfo, .inl (cZ, 600, .inl fd)), (qte, .inl (cI, 600, .inl ts))]) [5, 6, 7] rfl
  have hDc := hD.sub (ws' := [(qP, .inr (2, [.ref qfo, .ref qte, .int (nI fc), .int (nI tc)])), (qfo, .inl (cZ, 600, .inl fd)), (qte, .inl (cI, 600, .inl ts))]) [5, 6, 7] (by decide) rfl
  have hFc := va_free (wc := [(qP, .inr (2, [.ref qfo, .ref qte, .int (nI fc), .int (nI tc)])), (qfo, .inl (cZ, 600, .inl fd)), (qte, .inl (cI, 600, .inl ts))]) hD hS hA [5, 6, 7] rfl
  refine va_callv (va_runV (As := []) (rest := []) ⟨hx, hb, hml, hown, hts⟩ (c_X2_forgetFound l D cI cJ cZ qP qfo qte fd ts fc tc H.size _ rfl) (cwV 0 hts gX4_forgetDerived_X2_forgetFound rfl rfl rfl (by decide +kernel) ⟨Nat.le_of_ble_eq_true rfl, Nat.le_of_ble_eq_true rfl⟩) ⟨PW.blind, va_recv hK hPc (ci := 2) (q0 := 0) rfl rfl, fun U hU hW => ⟨rfl, PW.to hPc hK hNB hDc hU hW⟩⟩ rfl rfl hl.1 rfl (lv_room (Nat.le_of_ble_eq_true rfl)) dX4_forgetDerived_16 ⟨Nat.le_of_ble_eq_true rfl, Nat.le_of_ble_eq_true rfl⟩) hS (fun q _ h => hFc q h) hFc (fun u_9 t_9 H1_9 locs ht_9 hvm_9 hw_9 hB_9 hz1_9 hk1_9 hS => ?_)
  obtain ⟨hP1_9, hD1_9⟩ := hB_9
  rw [ht_9] at hP1_9
  obtain ⟨hP, hD⟩ := va_join (wr := [(qx, .inr (4, [.ref qc, .ref qC, .ref qS, .ref qP, .int (nI 1)])), (qS, .inr (3, [.ref qc, .ref qse, .ref qre, .ref qcg])), (qse, .inl (cJ, 1600, .inr (.inl se))), (qre, .inl (cZ, 100, .inl (clrF re 100))), (qcg, .inl (cJ, 100, .inr (.inl cg)))]) (w1 := [(qP, .inr (2, [.ref qfo, .ref qte, .int (nI 0), .int (nI tc)])), (qfo, .inl (cZ, 600, .inl (clrF fd 600))), (qte, .inl (cI, 600, .inl ts))]) hP hD [5, 6, 7] [0, 1, 2, 3, 4] rfl rfl (by decide) (by decide) hk1_9 hFc hP1_9 hD1_9
  generalize H1_9 = H at hP hS ⊢
  have hP : va_P D vwCl [(qx, .inr (4, [.ref qc, .ref qC, .ref qS, .ref qP, .int (nI 1)])), (qS, .inr (3, [.ref qc, .ref qse, .ref qre, .ref qcg])), (qse, .inl (cJ, 1600, .inr (.inl se))), (qre, .inl (cZ, 100, .inl (clrF re 100))), (qcg, .inl (cJ, 100, .inr (.inl cg))), (qP, .inr (2, [.ref qfo, .ref qte, .int (nI 0), .int (nI tc)])), (qfo, .inl (cZ, 600, .inl (clrF fd 600))), (qte, .inl (cI, 600, .inl ts))] H := hP
  have hD : va_D A [(qx, .inr (4, [.ref qc, .ref qC, .ref qS, .ref qP, .int (nI 1)])), (qS, .inr (3, [.ref qc, .ref qse, .ref qre, .ref qcg])), (qse, .inl (cJ, 1600, .inr (.inl se))), (qre, .inl (cZ, 100, .inl (clrF re 100))), (qcg, .inl (cJ, 100, .inr (.inl cg))), (qP, .inr (2, [.ref qfo, .ref qte, .int (nI 0), .int (nI tc)])), (qfo, .inl (cZ, 600, .inl (clrF fd 600))), (qte, .inl (cI, 600, .inl ts))] := hD
  refine lv_aload_n hx hb dX4_forgetDerived_19 rfl (lv_at hl 0 rfl) ?_
  refine va_get (D := D) (ci := 4) (v := .ref qP) (C := RX4) (T := TX4) (N := 5) hx hb hts hiX4 hown hK hP 0 rfl rfl 3 (by decide) (hts (.fieldLink RX4 35 "FaultSearch" "progress" "LFaultSearch$Progress;") (by decide +kernel)) (fun _ h9 => h9) rfl dX4_forgetDerived_20 ?_
  refine lv_iconst (v := (nI 0)) hx hb dX4_forgetDerived_23 (by decide) ?_
  refine va_put (D := D) (ci := 2) (v := .int (nI 0)) (ty := .int) (C := RX2) (T := TX2) (N := 4) hx hb hts hiX2 tyX2 tyX2_ok nmX2 hown hK hP hD hS 5 rfl rfl 3 (by decide) (hts (.fieldLink RX4 162 "FaultSearch$Progress" "testCount" "I") (by decide +kernel)) (fun _ h9 => h9) rfl (by decide +kernel) rfl rfl (Nat.le_of_ble_eq_true rfl) dX4_forgetDerived_24 (fun H locs hP hD hS => ?_)
  have hP : va_P D vwCl [(qx, .inr (4, [.ref qc, .ref qC, .ref qS, .ref qP, .int (nI 1)])), (qS, .inr (3, [.ref qc, .ref qse, .ref qre, .ref qcg])), (qse, .inl (cJ, 1600, .inr (.inl se))), (qre, .inl (cZ, 100, .inl (clrF re 100))), (qcg, .inl (cJ, 100, .inr (.inl cg))), (qP, .inr (2, [.ref qfo, .ref qte, .int (nI 0), .int (nI 0)])), (qfo, .inl (cZ, 600, .inl (clrF fd 600))), (qte, .inl (cI, 600, .inl ts))] H := hP
  have hD : va_D A [(qx, .inr (4, [.ref qc, .ref qC, .ref qS, .ref qP, .int (nI 1)])), (qS, .inr (3, [.ref qc, .ref qse, .ref qre, .ref qcg])), (qse, .inl (cJ, 1600, .inr (.inl se))), (qre, .inl (cZ, 100, .inl (clrF re 100))), (qcg, .inl (cJ, 100, .inr (.inl cg))), (qP, .inr (2, [.ref qfo, .ref qte, .int (nI 0), .int (nI 0)])), (qfo, .inl (cZ, 600, .inl (clrF fd 600))), (qte, .inl (cI, 600, .inl ts))] := hD
  exact W.vret hx hb hr (fun t_9 ht_9 hW_9 => ⟨⟨(), rfl, trivial, ⟨by rw [ht_9]; exact hP, hD⟩⟩, hS.F ht_9⟩) hS.2.2 dX4_forgetDerived_27

set_option maxHeartbeats 4000000 in
set_option maxRecDepth 100000 in
theorem c_X4_value_ok (l : Launch) (D : va_G) (cI cJ cZ : ClassId) (qx : Nat) (qc : Nat) (qk : Nat) (q0 : Nat) (q1 : Nat) (qo : Nat) (qv : Nat) (kd : Nat → Int32) (s0 : Nat → Int32) (s1 : Nat → Int32) (on : Nat → Int32) (vl : Nat → Int64) (n : Nat) (ni : Nat) (no : Nat) (qC : Nat) (qS : Nat) (qP : Nat) (st : Nat) (j : Nat) (a : Int32) (hn : n ≤ 100) (hni : ni ≤ 10) (hj : j < n) : Met l yX4_value wsX4_value ({ frames := 2, cells := 0, slots := 0, locals := 42 } : Room) (va_Pc [.ref qx, .int (nI j), .int a] (PR D cI cJ cZ [(qx, .inr (4, [.ref qc, .ref qC, .ref qS, .ref qP, .int (nI st)])), (qc, .inr (0, [.ref qk, .ref q0, .ref q1, .ref qo, .ref qv, .int (nI n), .int (nI ni), .int (nI no)])), (qk, .inl (cI, 100, .inl kd)), (q0, .inl (cI, 100, .inl s0)), (q1, .inl (cI, 100, .inl s1)), (qo, .inl (cI, 12, .inl on)), (qv, .inl (cJ, 1600, .inr (.inl vl)))])) (vp_Si (fun r_9 : Int32 => r_9 = (bitW (vl (knownN ni a / 64 * 100 + j)) (nI (knownN ni a))))) 0 0 (fun _ => False) := by
  refine Met.ofW (cc := cX4_value) (maxL := 4) (ret := (some .int)) (by decide) rfl ?_
  intro p e s m args below meth c s₁ B hml hv
  obtain ⟨rfl, hP, hK, hNB⟩ := hv
  have hx := B.exec
  have hb := B.bytes
  have hr := B.returns
  have hts := atoms_spec (ws := wsX4_value) B.pre
  have hown : s.vm.findClass RX4 = some m.cls := findClass_of_methodNamed B.named
  have hlocks := B.notSynchronized
  have hiX4 : ∀ w ∈ u_ws RX4 TX4 5, w ∈ wsX4_value := by decide +kernel
  have hl := lv_entry ([.ref qx, .int (nI j), .int a]) (n := 4) (Nat.le_of_ble_eq_true rfl)
  rw [lg_entry_eq]
  generalize (lg_sl ([.ref qx, .int (nI j), .int a]) ++ List.replicate (4 - (lg_sl ([.ref qx, .int (nI j), .int a])).length) Slot.unset).toArray = ls at hl ⊢
  have hl : lv_has ls 4 [(0, .ref qx), (1, .int (nI j)), (2, .int a)] := hl
  have hw16 := wordsN_le hni
  have hkw := knownN_w hni a
  have hkl := knownN_lt hni a
  have h2p : 2 ^ ni ≤ 2 ^ 10 := Nat.pow_le_pow_right (by decide) hni
  refine lv_aload_n hx hb dX4_value_0 rfl (lv_at hl 0 rfl) ?_
  refine lv_iload_n hx hb dX4_value_1 rfl (lv_at hl 1 rfl) ?_
  have hPc := hP.sub (ws' := [(qx, .inr (4, [.ref qc, .ref qC, .ref qS, .ref qP, .int (nI st)])), (qc, .inr (0, [.ref qk, .ref q0, .ref q1, .ref qo, .ref qv, .int (nI n), .int (nI ni), .int (nI no)])), (qk, .inl (cI, 100, .inl kd)), (q0, .inl (cI, 100, .inl s0)), (q1, .inl (cI, 100, .inl s1)), (qo, .inl (cI, 12, .inl on)), (qv, .inl (cJ, 1600, .inr (.inl vl)))]) [0, 1, 2, 3, 4, 5, 6] rfl
  refine va_csv (va_runV (As := [.int (nI j)]) (rest := []) ⟨hx, hb, hml, hown, hts⟩ (c_X4_requireNet_ok l D cI cJ cZ qx qc qk q0 q1 qo qv kd s0 s1 on vl n ni no qC qS qP st (nI j) (isN_nI (by omega) hj)) (cwV 1 hts gX4_value_X4_requireNet rfl rfl rfl (by decide +kernel) ⟨Nat.le_of_ble_eq_true rfl, Nat.le_of_ble_eq_true rfl⟩) ⟨PR.blind, va_recv hK hPc (ci := 4) (q0 := 0) rfl rfl, fun U hU hW => ⟨rfl, PR.to hPc hK hNB hU hW⟩⟩ rfl rfl hl.1 rfl (lv_room (Nat.le_of_ble_eq_true rfl)) dX4_value_2 ⟨Nat.le_of_ble_eq_true rfl, Nat.le_of_ble_eq_true rfl⟩).run (fun _ => ?_)
  refine lv_aload_n hx hb dX4_value_5 rfl (lv_at hl 0 rfl) ?_
  refine va_get (D := D) (ci := 4) (v := .ref qc) (C := RX4) (T := TX4) (N := 5) hx hb hts hiX4 hown hK hP 0 rfl rfl 0 (by decide) (hts (.fieldLink RX4 12 "FaultSearch" "chip" "LFaultSearch$Chip;") (by decide +kernel)) (fun _ h9 => h9) rfl dX4_value_6 ?_
  refine lv_iload_n hx hb dX4_value_9 rfl (lv_at hl 2 rfl) ?_
  have hPc := hP.sub (ws' := [(qc, .inr (0, [.ref qk, .ref q0, .ref q1, .ref qo, .ref qv, .int (nI n), .int (nI ni), .int (nI no)])), (qk, .inl (cI, 100, .inl kd)), (q0, .inl (cI, 100, .inl s0)), (q1, .inl (cI, 100, .inl s1)), (qo, .inl (cI, 12, .inl on)), (qv, .inl (cJ, 1600, .inr (.inl vl)))]) [1, 2, 3, 4, 5, 6] rfl
  refine vp_callSi (va_runV (As := [.int a]) (rest := []) ⟨hx, hb, hml, hown, hts⟩ (c_X0_known l D cI cJ cZ qc qk q0 q1 qo qv kd s0 s1 on vl n ni no a (by omega)) (cwV 1 hts gX4_value_X0_known rfl rfl rfl (by decide +kernel) ⟨Nat.le_of_ble_eq_true rfl, Nat.le_of_ble_eq_true rfl⟩) ⟨PR.blind, va_recv hK hPc (ci := 0) (q0 := 0) rfl rfl, fun U hU hW => ⟨rfl, PR.to hPc hK hNB hU hW⟩⟩ rfl rfl hl.1 rfl (lv_room (Nat.le_of_ble_eq_true rfl)) dX4_value_10 ⟨Nat.le_of_ble_eq_true rfl, Nat.le_of_ble_eq_true rfl⟩).run (fun r_2 hrr_2 => ?_)
  subst hrr_2
  refine lv_istore_n (lv' := [(3, .int (nI (knownN ni a))), (0, .ref qx), (1, .int (nI j)), (2, .int a)]) hx hb dX4_value_13 rfl hl (by decide) rfl (fun ls hl => ?_)
  refine lv_aload_n hx hb dX4_value_14 rfl (lv_at hl 1 rfl) ?_
  refine va_get (D := D) (ci := 4) (v := .ref qc) (C := RX4) (T := TX4) (N := 5) hx hb hts hiX4 hown hK hP 0 rfl rfl 0 (by decide) (hts (.fieldLink RX4 12 "FaultSearch" "chip" "LFaultSearch$Chip;") (by decide +kernel)) (fun _ h9 => h9) rfl dX4_value_15 ?_
  refine lv_iload_n hx hb dX4_value_18 rfl (lv_at hl 2 rfl) ?_
  refine lv_iload_n hx hb dX4_value_19 rfl (lv_at hl 0 rfl) ?_
  refine lv_bipush (v := (nI 64)) hx hb dX4_value_20 (by decide) ?_
  refine lv_idiv hx hb dX4_value_22 (by decide) ?_
  refine zz_i (z := (nI ((knownN ni a) / 64))) (pk_div (by omega) (by decide) (by decide)) ?_
  have hPc := hP.sub (ws' := [(qc, .inr (0, [.ref qk, .ref q0, .ref q1, .ref qo, .ref qv, .int (nI n), .int (nI ni), .int (nI no)])), (qk, .inl (cI, 100, .inl kd)), (q0, .inl (cI, 100, .inl s0)), (q1, .inl (cI, 100, .inl s1)), (qo, .inl (cI, 12, .inl on)), (qv, .inl (cJ, 1600, .inr (.inl vl)))]) [1, 2, 3, 4, 5, 6] rfl
  refine vp_callSl (va_runV (As := [.int (nI j), .int (nI ((knownN ni a) / 64))]) (rest := []) ⟨hx, hb, hml, hown, hts⟩ (c_X0_wordOf l D cI cJ cZ qc qk q0 q1 qo qv kd s0 s1 on vl n ni no j ((knownN ni a) / 64) (by omega) (by omega)) (cwV 2 hts gX4_value_X0_wordOf rfl rfl rfl (by decide +kernel) ⟨Nat.le_of_ble_eq_true rfl, Nat.le_of_ble_eq_true rfl⟩) ⟨PR.blind, va_recv hK hPc (ci := 0) (q0 := 0) rfl rfl, fun U hU hW => ⟨rfl, PR.to hPc hK hNB hU hW⟩⟩ rfl rfl hl.1 rfl (lv_room (Nat.le_of_ble_eq_true rfl)) dX4_value_23 ⟨Nat.le_of_ble_eq_true rfl, Nat.le_of_ble_eq_true rfl⟩).run (fun r_3 hrr_3 => ?_)
  subst hrr_3
  refine lv_iload_n hx hb dX4_value_26 rfl (lv_at hl 0 rfl) ?_
  refine vp_callSi (va_runS (As := [.long (vl (((knownN ni a) / 64) * 100 + j)), .int (nI (knownN ni a))]) (rest := []) ⟨hx, hb, hml, hown, hts⟩ (c_X4_bitOf l (vl (((knownN ni a) / 64) * 100 + j)) (nI (knownN ni a))) (va_cwS 2 hts gX4_value_X4_bitOf rfl rfl rfl (by decide +kernel) ⟨Nat.le_of_ble_eq_true rfl, Nat.le_of_ble_eq_true rfl⟩) ⟨zt_blind, fun U hU hW => ⟨rfl, trivial⟩⟩ rfl rfl hl.1 rfl (lv_room (Nat.le_of_ble_eq_true rfl)) dX4_value_27 ⟨Nat.le_of_ble_eq_true rfl, Nat.le_of_ble_eq_true rfl⟩).run (fun r_4 hrr_4 => ?_)
  subst hrr_4
  exact W.iret (v := (bitW (vl (((knownN ni a) / 64) * 100 + j)) (nI (knownN ni a)))) hx hb hr (fun t_9 ht_9 hW_9 => ⟨(bitW (vl (((knownN ni a) / 64) * 100 + j)) (nI (knownN ni a))), rfl, rfl, ht_9⟩) (fun q h => nomatch h) dX4_value_30

set_option maxHeartbeats 4000000 in
set_option maxRecDepth 100000 in
theorem c_X4_value_no (l : Launch) (hl0 : l.stackTraces = false) (D : va_G) (cI cJ cZ : ClassId) (qx : Nat) (qc : Nat) (qk : Nat) (q0 : Nat) (q1 : Nat) (qo : Nat) (qv : Nat) (kd : Nat → Int32) (s0 : Nat → Int32) (s1 : Nat → Int32) (on : Nat → Int32) (vl : Nat → Int64) (n : Nat) (ni : Nat) (no : Nat) (qC : Nat) (qS : Nat) (qP : Nat) (st : Nat) (a : Int32) (b : Int32) (sz : Nat) (A : Nat → Prop) (hAe : A = va_A [(qx, .inr (4, [.ref qc, .ref qC, .ref qS, .ref qP, .int (nI st)])), (qc, .inr (0, [.ref qk, .ref q0, .ref q1, .ref qo, .ref qv, .int (nI n), .int (nI ni), .int (nI no)])), (qk, .inl (cI, 100, .inl kd)), (q0, .inl (cI, 100, .inl s0)), (q1, .inl (cI, 100, .inl s1)), (qo, .inl (cI, 12, .inl on)), (qv, .inl (cJ, 1600, .inr (.inl vl)))] sz) (h : ¬ isN n a) : vx_Met l yX4_value wsX4_value ({ frames := 7, cells := 1, slots := 6, locals := 111 } : Room) (va_Pc [.ref qx, .int a, .int b] (PX D cI cJ cZ [(qx, .inr (4, [.ref qc, .ref qC, .ref qS, .ref qP, .int (nI st)])), (qc, .inr (0, [.ref qk, .ref q0, .ref q1, .ref qo, .ref qv, .int (nI n), .int (nI ni), .int (nI no)])), (qk, .inl (cI, 100, .inl kd)), (q0, .inl (cI, 100, .inl s0)), (q1, .inl (cI, 100, .inl s1)), (qo, .inl (cI, 12, .inl on)), (qv, .inl (cJ, 1600, .inr (.inl vl)))] sz)) (va_Qi (fun (_ : Int32) (_ : Unit) => False) (fun _ _ => True) A) (vx_X (fun _u9 : Unit => True) (fun E (_u9 : Unit) t => E = "java/lang/IndexOutOfBoundsException" ∧ PQ D A [(qx, .inr (4, [.ref qc, .ref qC, .ref qS, .ref qP, .int (nI st)])), (qc, .inr (0, [.ref qk, .ref q0, .ref q1, .ref qo, .ref qv, .int (nI n), .int (nI ni), .int (nI no)])), (qk, .inl (cI, 100, .inl kd)), (q0, .inl (cI, 100, .inl s0)), (q1, .inl (cI, 100, .inl s1)), (qo, .inl (cI, 12, .inl on)), (qv, .inl (cJ, 1600, .inr (.inl vl)))] t) A) 1 6 A := by
  refine vx_ofW (cc := cX4_value) (maxL := 4) (ret := (some .int)) (by decide) rfl ?_
  intro p e s m args below meth c s₁ B hml hxt hv
  obtain ⟨rfl, ⟨hsz, ⟨hP, hK, hNB⟩, hD0⟩, hGX⟩ := hv
  have hx := B.exec
  have hb := B.bytes
  have hr := B.returns
  have hts := atoms_spec (ws := wsX4_value) B.pre
  have hown : s.vm.findClass RX4 = some m.cls := findClass_of_methodNamed B.named
  have hlocks := B.notSynchronized
  subst hsz
  rw [← hAe] at hGX
  have hD : va_D A [(qx, .inr (4, [.ref qc, .ref qC, .ref qS, .ref qP, .int (nI st)])), (qc, .inr (0, [.ref qk, .ref q0, .ref q1, .ref qo, .ref qv, .int (nI n), .int (nI ni), .int (nI no)])), (qk, .inl (cI, 100, .inl kd)), (q0, .inl (cI, 100, .inl s0)), (q1, .inl (cI, 100, .inl s1)), (qo, .inl (cI, 12, .inl on)), (qv, .inl (cJ, 1600, .inr (.inl vl)))] := by rw [hAe]; exact hD0.self
  have hA : ∀ q : Nat, s.heap.size ≤ q → A q := fun q h => by rw [hAe]; exact Or.inr h
  have hS : va_S A s.heap s.heap [] := va_S.rf
  have hl := lv_entry ([.ref qx, .int a, .int b]) (n := 4) (Nat.le_of_ble_eq_true rfl)
  rw [lg_entry_eq]
  generalize (lg_sl ([.ref qx, .int a, .int b]) ++ List.replicate (4 - (lg_sl ([.ref qx, .int a, .int b])).length) Slot.unset).toArray = ls at hl ⊢
  have hl : lv_has ls 4 [(0, .ref qx), (1, .int a), (2, .int b)] := hl
  refine lv_aload_n hx hb dX4_value_0 rfl (lv_at hl 0 rfl) ?_
  refine lv_iload_n hx hb dX4_value_1 rfl (lv_at hl 1 rfl) ?_
  have hPc := hP.sub (ws' := [(qx, .inr (4, [.ref qc, .ref qC, .ref qS, .ref qP, .int (nI st)])), (qc, .inr (0, [.ref qk, .ref q0, .ref q1, .ref qo, .ref qv, .int (nI n), .int (nI ni), .int (nI no)])), (qk, .inl (cI, 100, .inl kd)), (q0, .inl (cI, 100, .inl s0)), (q1, .inl (cI, 100, .inl s1)), (qo, .inl (cI, 12, .inl on)), (qv, .inl (cJ, 1600, .inr (.inl vl)))]) [0, 1, 2, 3, 4, 5, 6] rfl
  have hDc := hD.sub (ws' := [(qx, .inr (4, [.ref qc, .ref qC, .ref qS, .ref qP, .int (nI st)])), (qc, .inr (0, [.ref qk, .ref q0, .ref q1, .ref qo, .ref qv, .int (nI n), .int (nI ni), .int (nI no)])), (qk, .inl (cI, 100, .inl kd)), (q0, .inl (cI, 100, .inl s0)), (q1, .inl (cI, 100, .inl s1)), (qo, .inl (cI, 12, .inl on)), (qv, .inl (cJ, 1600, .inr (.inl vl)))]) [0, 1, 2, 3, 4, 5, 6] (by decide) rfl
  have hFc := va_free (wc := [(qx, .inr (4, [.ref qc, .ref qC, .ref qS, .ref qP, .int (nI st)])), (qc, .inr (0, [.ref qk, .ref q0, .ref q1, .ref qo, .ref qv, .int (nI n), .int (nI ni), .int (nI no)])), (qk, .inl (cI, 100, .inl kd)), (q0, .inl (cI, 100, .inl s0)), (q1, .inl (cI, 100, .inl s1)), (qo, .inl (cI, 12, .inl on)), (qv, .inl (cJ, 1600, .inr (.inl vl)))]) hD hS hA [0, 1, 2, 3, 4, 5, 6] rfl
  refine vx_callv (vx_runV (As := [.int a]) (rest := []) ⟨hx, hb, hml, hown, hts⟩ (c_X4_requireNet_no l hl0 D cI cJ cZ qx qc qk q0 q1 qo qv kd s0 s1 on vl n ni no qC qS qP st a s.heap.size _ rfl h) (cwV 1 hts gX4_value_X4_requireNet rfl rfl rfl (by decide +kernel) ⟨Nat.le_of_ble_eq_true rfl, Nat.le_of_ble_eq_true rfl⟩) ⟨PX.blind, va_recv hK hPc (ci := 4) (q0 := 0) rfl rfl, fun U hU hW => ⟨rfl, PX.to hPc hK hNB hDc hGX hS hFc hU hW⟩⟩ rfl rfl hl.1 rfl (lv_room (Nat.le_of_ble_eq_true rfl)) dX4_value_2 ⟨Nat.le_of_ble_eq_true rfl, Nat.le_of_ble_eq_true rfl⟩) hS (fun q _ h => hFc q h) hFc (fun q _ h => hFc q h) (fun E_9 ce_9 q9_9 u_9 t_9 H1_9 locs ht_9 hvm_9 hw_9 hB_9 hz_9 hk1_9 hS hce_9 hcv_9 hcl_9 => ?_) (fun u_9 t_9 H1_9 locs ht_9 hvm_9 hw_9 hB_9 hz1_9 hk1_9 hS => hw_9.elim)
  obtain ⟨rfl, hP1_9, hD1_9⟩ := hB_9
  rw [ht_9] at hP1_9
  obtain ⟨hP, hD⟩ := va_join (wr := []) (w1 := [(qx, .inr (4, [.ref qc, .ref qC, .ref qS, .ref qP, .int (nI st)])), (qc, .inr (0, [.ref qk, .ref q0, .ref q1, .ref qo, .ref qv, .int (nI n), .int (nI ni), .int (nI no)])), (qk, .inl (cI, 100, .inl kd)), (q0, .inl (cI, 100, .inl s0)), (q1, .inl (cI, 100, .inl s1)), (qo, .inl (cI, 12, .inl on)), (qv, .inl (cJ, 1600, .inr (.inl vl)))]) hP hD [0, 1, 2, 3, 4, 5, 6] [] rfl rfl (by decide) (by decide) hk1_9 hFc hP1_9 hD1_9
  generalize H1_9 = H at hP hS hce_9 ⊢
  have hP : va_P D vwCl [(qx, .inr (4, [.ref qc, .ref qC, .ref qS, .ref qP, .int (nI st)])), (qc, .inr (0, [.ref qk, .ref q0, .ref q1, .ref qo, .ref qv, .int (nI n), .int (nI ni), .int (nI no)])), (qk, .inl (cI, 100, .inl kd)), (q0, .inl (cI, 100, .inl s0)), (q1, .inl (cI, 100, .inl s1)), (qo, .inl (cI, 12, .inl on)), (qv, .inl (cJ, 1600, .inr (.inl vl)))] H := hP
  have hD : va_D A [(qx, .inr (4, [.ref qc, .ref qC, .ref qS, .ref qP, .int (nI st)])), (qc, .inr (0, [.ref qk, .ref q0, .ref q1, .ref qo, .ref qv, .int (nI n), .int (nI ni), .int (nI no)])), (qk, .inl (cI, 100, .inl kd)), (q0, .inl (cI, 100, .inl s0)), (q1, .inl (cI, 100, .inl s1)), (qo, .inl (cI, 12, .inl on)), (qv, .inl (cJ, 1600, .inr (.inl vl)))] := hD
  exact vx_out (fun x h => (hxt x h).elim) hlocks hce_9 hcv_9 hcl_9 (fun t_8 ht_8 ha_8 => ⟨(), trivial, ⟨rfl, by rw [ht_8]; exact hP, hD⟩, hS.F ht_8⟩) hS.2.2 (by decide) (by decide)

set_option maxHeartbeats 4000000 in
set_option maxRecDepth 100000 in
theorem c_X4_fault_ok (l : Launch) (D : va_G) (cI cJ cZ : ClassId) (qx : Nat) (qc : Nat) (qk : Nat) (q0 : Nat) (q1 : Nat) (qo : Nat) (qv : Nat) (kd : Nat → Int32) (s0 : Nat → Int32) (s1 : Nat → Int32) (on : Nat → Int32) (vl : Nat → Int64) (n : Nat) (ni : Nat) (no : Nat) (qC : Nat) (qpa : Nat) (qnu : Nat) (qfi : Nat) (qme : Nat) (qus : Nat) (pa : Nat → Int32) (nu : Nat → Int32) (fi : Nat → Int32) (me : Nat → Int32) (us : Nat → Int32) (cs : Nat) (qS : Nat) (qP : Nat) (st : Nat) (k : Nat) (wh : Nat) (sz : Nat) (A : Nat → Prop) (hAe : A = va_A [(qx, .inr (4, [.ref qc, .ref qC, .ref qS, .ref qP, .int (nI st)])), (qc, .inr (0, [.ref qk, .ref q0, .ref q1, .ref qo, .ref qv, .int (nI n), .int (nI ni), .int (nI no)])), (qk, .inl (cI, 100, .inl kd)), (q0, .inl (cI, 100, .inl s0)), (q1, .inl (cI, 100, .inl s1)), (qo, .inl (cI, 12, .inl on)), (qv, .inl (cJ, 1600, .inr (.inl vl))), (qC, .inr (1, [.ref qpa, .ref qnu, .ref qfi, .ref qme, .ref qus, .int (nI cs)])), (qpa, .inl (cI, 600, .inl pa)), (qnu, .inl (cI, 600, .inl nu)), (qfi, .inl (cI, 600, .inl fi)), (qme, .inl (cI, 600, .inl me)), (qus, .inl (cI, 100, .inl us))] sz) (hn : n ≤ 100) (hno : no ≤ 12) (hwf : WF n kd s0 s1) (hwo : WO n no on) (hst : st < 2) (hcs : CST kd s0 s1 on n no st nu fi me cs) (hk : k < ncl kd s0 s1 on n no) (hk2 : k < 600) (hwh : wh < 4) : Met l yX4_fault wsX4_fault ({ frames := 6, cells := 0, slots := 0, locals := 138 } : Room) (va_Pc [.ref qx, .int (nI k), .int (nI wh)] (PW D cI cJ cZ [(qx, .inr (4, [.ref qc, .ref qC, .ref qS, .ref qP, .int (nI st)])), (qc, .inr (0, [.ref qk, .ref q0, .ref q1, .ref qo, .ref qv, .int (nI n), .int (nI ni), .int (nI no)])), (qk, .inl (cI, 100, .inl kd)), (q0, .inl (cI, 100, .inl s0)), (q1, .inl (cI, 100, .inl s1)), (qo, .inl (cI, 12, .inl on)), (qv, .inl (cJ, 1600, .inr (.inl vl))), (qC, .inr (1, [.ref qpa, .ref qnu, .ref qfi, .ref qme, .ref qus, .int (nI cs)])), (qpa, .inl (cI, 600, .inl pa)), (qnu, .inl (cI, 600, .inl nu)), (qfi, .inl (cI, 600, .inl fi)), (qme, .inl (cI, 600, .inl me)), (qus, .inl (cI, 100, .inl us))] sz)) (va_Qi (fun (r_9 : Int32) (u9 : (Nat → Int32) × (Nat → Int32) × (Nat → Int32) × (Nat → Int32) × (Nat → Int32) × Nat) => match u9 with | (pa2, nu2, fi2, me2, us2, cs2) => r_9 = (fltI (cn (fi2 k)) wh (me2 k)) ∧ CGood kd s0 s1 on n no nu2 fi2 me2 cs2) (fun (u9 : (Nat → Int32) × (Nat → Int32) × (Nat → Int32) × (Nat → Int32) × (Nat → Int32) × Nat) t => match u9 with | (pa2, nu2, fi2, me2, us2, cs2) => PQ D A [(qx, .inr (4, [.ref qc, .ref qC, .ref qS, .ref qP, .int (nI 0)])), (qc, .inr (0, [.ref qk, .ref q0, .ref q1, .ref qo, .ref qv, .int (nI n), .int (nI ni), .int (nI no)])), (qk, .inl (cI, 100, .inl kd)), (q0, .inl (cI, 100, .inl s0)), (q1, .inl (cI, 100, .inl s1)), (qo, .inl (cI, 12, .inl on)), (qv, .inl (cJ, 1600, .inr (.inl vl))), (qC, .inr (1, [.ref qpa, .ref qnu, .ref qfi, .ref qme, .ref qus, .int (nI cs2)])), (qpa, .inl (cI, 600, .inl pa2)), (qnu, .inl (cI, 600, .inl nu2)), (qfi, .inl (cI, 600, .inl fi2)), (qme, .inl (cI, 600, .inl me2)), (qus, .inl (cI, 100, .inl us2))] t) A) 0 0 A := by
  refine Met.ofW (cc := cX4_fault) (maxL := 4) (ret := (some .int)) (by decide) rfl ?_
  intro p e s m args below meth c s₁ B hml hv
  obtain ⟨rfl, hsz, ⟨hP, hK, hNB⟩, hD0⟩ := hv
  have hx := B.exec
  have hb := B.bytes
  have hr := B.returns
  have hts := atoms_spec (ws := wsX4_fault) B.pre
  have hown : s.vm.findClass RX4 = some m.cls := findClass_of_methodNamed B.named
  have hlocks := B.notSynchronized
  have hiX1 : ∀ w ∈ u_ws RX1 TX1 6, w ∈ wsX4_fault := by decide +kernel
  have hiX4 : ∀ w ∈ u_ws RX4 TX4 5, w ∈ wsX4_fault := by decide +kernel
  subst hsz
  have hD : va_D A [(qx, .inr (4, [.ref qc, .ref qC, .ref qS, .ref qP, .int (nI st)])), (qc, .inr (0, [.ref qk, .ref q0, .ref q1, .ref qo, .ref qv, .int (nI n), .int (nI ni), .int (nI no)])), (qk, .inl (cI, 100, .inl kd)), (q0, .inl (cI, 100, .inl s0)), (q1, .inl (cI, 100, .inl s1)), (qo, .inl (cI, 12, .inl on)), (qv, .inl (cJ, 1600, .inr (.inl vl))), (qC, .inr (1, [.ref qpa, .ref qnu, .ref qfi, .ref qme, .ref qus, .int (nI cs)])), (qpa, .inl (cI, 600, .inl pa)), (qnu, .inl (cI, 600, .inl nu)), (qfi, .inl (cI, 600, .inl fi)), (qme, .inl (cI, 600, .inl me)), (qus, .inl (cI, 100, .inl us))] := by rw [hAe]; exact hD0.self
  have hA : ∀ q : Nat, s.heap.size ≤ q → A q := fun q h => by rw [hAe]; exact Or.inr h
  have hS : va_S A s.heap s.heap [] := va_S.rf
  have hl := lv_entry ([.ref qx, .int (nI k), .int (nI wh)]) (n := 4) (Nat.le_of_ble_eq_true rfl)
  rw [lg_entry_eq]
  generalize (lg_sl ([.ref qx, .int (nI k), .int (nI wh)]) ++ List.replicate (4 - (lg_sl ([.ref qx, .int (nI k), .int (nI wh)])).length) Slot.unset).toArray = ls at hl ⊢
  have hl : lv_has ls 4 [(0, .ref qx), (1, .int (nI k)), (2, .int (nI wh))] := hl
  refine lv_aload_n hx hb dX4_fault_0 rfl (lv_at hl 0 rfl) ?_
  refine lv_iload_n hx hb dX4_fault_1 rfl (lv_at hl 1 rfl) ?_
  have hPc := hP.sub (ws' := [(qx, .inr (4, [.ref qc, .ref qC, .ref qS, .ref qP, .int (nI st)])), (qc, .inr (0, [.ref qk, .ref q0, .ref q1, .ref qo, .ref qv, .int (nI n), .int (nI ni), .int (nI no)])), (qk, .inl (cI, 100, .inl kd)), (q0, .inl (cI, 100, .inl s0)), (q1, .inl (cI, 100, .inl s1)), (qo, .inl (cI, 12, .inl on)), (qv, .inl (cJ, 1600, .inr (.inl vl))), (qC, .inr (1, [.ref qpa, .ref qnu, .ref qfi, .ref qme, .ref qus, .int (nI cs)])), (qpa, .inl (cI, 600, .inl pa)), (qnu, .inl (cI, 600, .inl nu)), (qfi, .inl (cI, 600, .inl fi)), (qme, .inl (cI, 600, .inl me)), (qus, .inl (cI, 100, .inl us))]) [0, 1, 2, 3, 4, 5, 6, 7, 8, 9, 10, 11, 12] rfl
  have hDc := hD.sub (ws' := [(qx, .inr (4, [.ref qc, .ref qC, .ref qS, .ref qP, .int (nI st)])), (qc, .inr (0, [.ref qk, .ref q0, .ref q1, .ref qo, .ref qv, .int (nI n), .int (nI ni), .int (nI no)])), (qk, .inl (cI, 100, .inl kd)), (q0, .inl (cI, 100, .inl s0)), (q1, .inl (cI, 100, .inl s1)), (qo, .inl (cI, 12, .inl on)), (qv, .inl (cJ, 1600, .inr (.inl vl))), (qC, .inr (1, [.ref qpa, .ref qnu, .ref qfi, .ref qme, .ref qus, .int (nI cs)])), (qpa, .inl (cI, 600, .inl pa)), (qnu, .inl (cI, 600, .inl nu)), (qfi, .inl (cI, 600, .inl fi)), (qme, .inl (cI, 600, .inl me)), (qus, .inl (cI, 100, .inl us))]) [0, 1, 2, 3, 4, 5, 6, 7, 8, 9, 10, 11, 12] (by decide) rfl
  have hFc := va_free (wc := [(qx, .inr (4, [.ref qc, .ref qC, .ref qS, .ref qP, .int (nI st)])), (qc, .inr (0, [.ref qk, .ref q0, .ref q1, .ref qo, .ref qv, .int (nI n), .int (nI ni), .int (nI no)])), (qk, .inl (cI, 100, .inl kd)), (q0, .inl (cI, 100, .inl s0)), (q1, .inl (cI, 100, .inl s1)), (qo, .inl (cI, 12, .inl on)), (qv, .inl (cJ, 1600, .inr (.inl vl))), (qC, .inr (1, [.ref qpa, .ref qnu, .ref qfi, .ref qme, .ref qus, .int (nI cs)])), (qpa, .inl (cI, 600, .inl pa)), (qnu, .inl (cI, 600, .inl nu)), (qfi, .inl (cI, 600, .inl fi)), (qme, .inl (cI, 600, .inl me)), (qus, .inl (cI, 100, .inl us))]) hD hS hA [0, 1, 2, 3, 4, 5, 6, 7, 8, 9, 10, 11, 12] rfl
  refine va_callv (va_runV (As := [.int (nI k)]) (rest := []) ⟨hx, hb, hml, hown, hts⟩ (c_X4_requireClass_ok l D cI cJ cZ qx qc qk q0 q1 qo qv kd s0 s1 on vl n ni no qC qpa qnu qfi qme qus pa nu fi me us cs qS qP st k s.heap.size _ rfl (by omega) (by omega) hwf hwo (by omega) hcs hk (by omega)) (cwV 1 hts gX4_fault_X4_requireClass rfl rfl rfl (by decide +kernel) ⟨Nat.le_of_ble_eq_true rfl, Nat.le_of_ble_eq_true rfl⟩) ⟨PW.blind, va_recv hK hPc (ci := 4) (q0 := 0) rfl rfl, fun U hU hW => ⟨rfl, PW.to hPc hK hNB hDc hU hW⟩⟩ rfl rfl hl.1 rfl (lv_room (Nat.le_of_ble_eq_true rfl)) dX4_fault_2 ⟨Nat.le_of_ble_eq_true rfl, Nat.le_of_ble_eq_true rfl⟩) hS (fun q _ h => hFc q h) hFc (fun u_9 t_9 H1_9 locs ht_9 hvm_9 hw_9 hB_9 hz1_9 hk1_9 hS => ?_)
  obtain ⟨pa2_2, nu2_3, fi2_4, me2_5, us2_6, cs2_7⟩ := u_9
  obtain ⟨hP1_9, hD1_9⟩ := hB_9
  rw [ht_9] at hP1_9
  have k_G := hw_9
  have k_G : CGood kd s0 s1 on n no nu2_3 fi2_4 me2_5 cs2_7 := k_G
  obtain ⟨hP, hD⟩ := va_join (wr := []) (w1 := [(qx, .inr (4, [.ref qc, .ref qC, .ref qS, .ref qP, .int (nI 0)])), (qc, .inr (0, [.ref qk, .ref q0, .ref q1, .ref qo, .ref qv, .int (nI n), .int (nI ni), .int (nI no)])), (qk, .inl (cI, 100, .inl kd)), (q0, .inl (cI, 100, .inl s0)), (q1, .inl (cI, 100, .inl s1)), (qo, .inl (cI, 12, .inl on)), (qv, .inl (cJ, 1600, .inr (.inl vl))), (qC, .inr (1, [.ref qpa, .ref qnu, .ref qfi, .ref qme, .ref qus, .int (nI cs2_7)])), (qpa, .inl (cI, 600, .inl pa2_2)), (qnu, .inl (cI, 600, .inl nu2_3)), (qfi, .inl (cI, 600, .inl fi2_4)), (qme, .inl (cI, 600, .inl me2_5)), (qus, .inl (cI, 100, .inl us2_6))]) hP hD [0, 1, 2, 3, 4, 5, 6, 7, 8, 9, 10, 11, 12] [] rfl rfl (by decide) (by decide) hk1_9 hFc hP1_9 hD1_9
  generalize H1_9 = H at hP hS ⊢
  have hP : va_P D vwCl [(qx, .inr (4, [.ref qc, .ref qC, .ref qS, .ref qP, .int (nI 0)])), (qc, .inr (0, [.ref qk, .ref q0, .ref q1, .ref qo, .ref qv, .int (nI n), .int (nI ni), .int (nI no)])), (qk, .inl (cI, 100, .inl kd)), (q0, .inl (cI, 100, .inl s0)), (q1, .inl (cI, 100, .inl s1)), (qo, .inl (cI, 12, .inl on)), (qv, .inl (cJ, 1600, .inr (.inl vl))), (qC, .inr (1, [.ref qpa, .ref qnu, .ref qfi, .ref qme, .ref qus, .int (nI cs2_7)])), (qpa, .inl (cI, 600, .inl pa2_2)), (qnu, .inl (cI, 600, .inl nu2_3)), (qfi, .inl (cI, 600, .inl fi2_4)), (qme, .inl (cI, 600, .inl me2_5)), (qus, .inl (cI, 100, .inl us2_6))] H := hP
  have hD : va_D A [(qx, .inr (4, [.ref qc, .ref qC, .ref qS, .ref qP, .int (nI 0)])), (qc, .inr (0, [.ref qk, .ref q0, .ref q1, .ref qo, .ref qv, .int (nI n), .int (nI ni), .int (nI no)])), (qk, .inl (cI, 100, .inl kd)), (q0, .inl (cI, 100, .inl s0)), (q1, .inl (cI, 100, .inl s1)), (qo, .inl (cI, 12, .inl on)), (qv, .inl (cJ, 1600, .inr (.inl vl))), (qC, .inr (1, [.ref qpa, .ref qnu, .ref qfi, .ref qme, .ref qus, .int (nI cs2_7)])), (qpa, .inl (cI, 600, .inl pa2_2)), (qnu, .inl (cI, 600, .inl nu2_3)), (qfi, .inl (cI, 600, .inl fi2_4)), (qme, .inl (cI, 600, .inl me2_5)), (qus, .inl (cI, 100, .inl us2_6))] := hD
  have hcs9 : k < cs2_7 := by rw [k_G.cs]; exact hk
  have hfi9 := k_G.fi hcs9 hn
  have hln9 := line_of hfi9.2.1
  have hle9 := k_G.le hn
  refine lv_aload_n hx hb dX4_fault_5 rfl (lv_at hl 0 rfl) ?_
  refine va_get (D := D) (ci := 4) (v := .ref qC) (C := RX4) (T := TX4) (N := 5) hx hb hts hiX4 hown hK hP 0 rfl rfl 1 (by decide) (hts (.fieldLink RX4 19 "FaultSearch" "classes" "LFaultSearch$Classes;") (by decide +kernel)) (fun _ h9 => h9) rfl dX4_fault_6 ?_
  refine va_get (D := D) (ci := 1) (v := .ref qfi) (C := RX1) (T := TX1) (N := 6) hx hb hts hiX1 hown hK hP 7 rfl rfl 2 (by decide) (hts (.fieldLink RX4 120 "FaultSearch$Classes" "firsts" "[I") (by decide +kernel)) (fun _ h9 => h9) rfl dX4_fault_9 ?_
  refine lv_iload_n hx hb dX4_fault_12 rfl (lv_at hl 1 rfl) ?_
  refine zz_iald hx hb hK hP 10 0 rfl rfl (n := 600) (j := k) (by omega) (by decide) dX4_fault_13 ?_
  refine zz_i (z := (nI (cn (fi2_4 k)))) hfi9.1 ?_
  refine lv_istore_n (lv' := [(3, .int (nI (cn (fi2_4 k)))), (0, .ref qx), (1, .int (nI k)), (2, .int (nI wh))]) hx hb dX4_fault_14 rfl hl (by decide) rfl (fun ls hl => ?_)
  refine lv_iload_n hx hb dX4_fault_15 rfl (lv_at hl 3 rfl) ?_
  by_cases k_0 : (nI wh) = nI 0
  · skip
    refine zz_i (z := nI 0) k_0 ?_
    refine lv_tableIn (off := 32) (tgt := 48) hx hb dX4_fault_16 (by decide) (by decide) rfl (by decide) ?_
    refine lv_iload_n hx hb dX4_fault_48 rfl (lv_at hl 0 rfl) ?_
    refine vp_callSi (va_runS (As := [.int (nI (cn (fi2_4 k)))]) (rest := []) ⟨hx, hb, hml, hown, hts⟩ (c_X4_netOf l (cn (fi2_4 k)) (by omega)) (va_cwS 1 hts gX4_fault_X4_netOf rfl rfl rfl (by decide +kernel) ⟨Nat.le_of_ble_eq_true rfl, Nat.le_of_ble_eq_true rfl⟩) ⟨zt_blind, fun U hU hW => ⟨rfl, trivial⟩⟩ rfl rfl hl.1 rfl (lv_room (Nat.le_of_ble_eq_true rfl)) dX4_fault_49 ⟨Nat.le_of_ble_eq_true rfl, Nat.le_of_ble_eq_true rfl⟩).run (fun r_8 hrr_8 => ?_)
    subst hrr_8
    exact W.iret (v := (nI ((cn (fi2_4 k)) / 6))) hx hb hr (fun t_9 ht_9 hW_9 => ⟨⟨(nI ((cn (fi2_4 k)) / 6)), (pa2_2, nu2_3, fi2_4, me2_5, us2_6, cs2_7), rfl, (show (nI ((cn (fi2_4 k)) / 6)) = (fltI (cn (fi2_4 k)) wh (me2_5 k)) ∧ CGood kd s0 s1 on n no nu2_3 fi2_4 me2_5 cs2_7 from ⟨(by have e9 : wh = 0 := (nI_eq (by omega) (by decide)).mp k_0; subst e9; rfl), k_G⟩), ⟨by rw [ht_9]; exact hP, hD⟩⟩, hS.F ht_9⟩) hS.2.2 dX4_fault_52
  by_cases k_1 : (nI wh) = nI 1
  · skip
    refine zz_i (z := nI 1) k_1 ?_
    refine lv_tableIn (off := 37) (tgt := 53) hx hb dX4_fault_16 (by decide) (by decide) rfl (by decide) ?_
    refine lv_iload_n hx hb dX4_fault_53 rfl (lv_at hl 0 rfl) ?_
    refine vp_callSi (va_runS (As := [.int (nI (cn (fi2_4 k)))]) (rest := []) ⟨hx, hb, hml, hown, hts⟩ (c_X4_pinOf l (cn (fi2_4 k)) (by omega)) (va_cwS 1 hts gX4_fault_X4_pinOf rfl rfl rfl (by decide +kernel) ⟨Nat.le_of_ble_eq_true rfl, Nat.le_of_ble_eq_true rfl⟩) ⟨zt_blind, fun U hU hW => ⟨rfl, trivial⟩⟩ rfl rfl hl.1 rfl (lv_room (Nat.le_of_ble_eq_true rfl)) dX4_fault_54 ⟨Nat.le_of_ble_eq_true rfl, Nat.le_of_ble_eq_true rfl⟩).run (fun r_9 hrr_9 => ?_)
    subst hrr_9
    exact W.iret (v := (nI ((cn (fi2_4 k)) % 6 / 2) - nI 1)) hx hb hr (fun t_9 ht_9 hW_9 => ⟨⟨(nI ((cn (fi2_4 k)) % 6 / 2) - nI 1), (pa2_2, nu2_3, fi2_4, me2_5, us2_6, cs2_7), rfl, (show (nI ((cn (fi2_4 k)) % 6 / 2) - nI 1) = (fltI (cn (fi2_4 k)) wh (me2_5 k)) ∧ CGood kd s0 s1 on n no nu2_3 fi2_4 me2_5 cs2_7 from ⟨(by have e9 : wh = 1 := (nI_eq (by omega) (by decide)).mp k_1; subst e9; rfl), k_G⟩), ⟨by rw [ht_9]; exact hP, hD⟩⟩, hS.F ht_9⟩) hS.2.2 dX4_fault_57
  by_cases k_2 : (nI wh) = nI 2
  · skip
    refine zz_i (z := nI 2) k_2 ?_
    refine lv_tableIn (off := 42) (tgt := 58) hx hb dX4_fault_16 (by decide) (by decide) rfl (by decide) ?_
    refine lv_iload_n hx hb dX4_fault_58 rfl (lv_at hl 0 rfl) ?_
    refine vp_callSi (va_runS (As := [.int (nI (cn (fi2_4 k)))]) (rest := []) ⟨hx, hb, hml, hown, hts⟩ (c_X4_stuckOf l (cn (fi2_4 k)) (by omega)) (va_cwS 1 hts gX4_fault_X4_stuckOf rfl rfl rfl (by decide +kernel) ⟨Nat.le_of_ble_eq_true rfl, Nat.le_of_ble_eq_true rfl⟩) ⟨zt_blind, fun U hU hW => ⟨rfl, trivial⟩⟩ rfl rfl hl.1 rfl (lv_room (Nat.le_of_ble_eq_true rfl)) dX4_fault_59 ⟨Nat.le_of_ble_eq_true rfl, Nat.le_of_ble_eq_true rfl⟩).run (fun r_10 hrr_10 => ?_)
    subst hrr_10
    exact W.iret (v := (nI ((cn (fi2_4 k)) % 2))) hx hb hr (fun t_9 ht_9 hW_9 => ⟨⟨(nI ((cn (fi2_4 k)) % 2)), (pa2_2, nu2_3, fi2_4, me2_5, us2_6, cs2_7), rfl, (show (nI ((cn (fi2_4 k)) % 2)) = (fltI (cn (fi2_4 k)) wh (me2_5 k)) ∧ CGood kd s0 s1 on n no nu2_3 fi2_4 me2_5 cs2_7 from ⟨(by have e9 : wh = 2 := (nI_eq (by omega) (by decide)).mp k_2; subst e9; rfl), k_G⟩), ⟨by rw [ht_9]; exact hP, hD⟩⟩, hS.F ht_9⟩) hS.2.2 dX4_fault_62
  by_cases k_3 : (nI wh) = nI 3
  · skip
    refine zz_i (z := nI 3) k_3 ?_
    refine lv_tableIn (off := 47) (tgt := 63) hx hb dX4_fault_16 (by decide) (by decide) rfl (by decide) ?_
    refine lv_aload_n hx hb dX4_fault_63 rfl (lv_at hl 1 rfl) ?_
    refine va_get (D := D) (ci := 4) (v := .ref qC) (C := RX4) (T := TX4) (N := 5) hx hb hts hiX4 hown hK hP 0 rfl rfl 1 (by decide) (hts (.fieldLink RX4 19 "FaultSearch" "classes" "LFaultSearch$Classes;") (by decide +kernel)) (fun _ h9 => h9) rfl dX4_fault_64 ?_
    refine va_get (D := D) (ci := 1) (v := .ref qme) (C := RX1) (T := TX1) (N := 6) hx hb hts hiX1 hown hK hP 7 rfl rfl 3 (by decide) (hts (.fieldLink RX4 133 "FaultSearch$Classes" "members" "[I") (by decide +kernel)) (fun _ h9 => h9) rfl dX4_fault_67 ?_
    refine lv_iload_n hx hb dX4_fault_70 rfl (lv_at hl 2 rfl) ?_
    refine zz_iald hx hb hK hP 11 0 rfl rfl (n := 600) (j := k) (by omega) (by decide) dX4_fault_71 ?_
    exact W.iret (v := (me2_5 k)) hx hb hr (fun t_9 ht_9 hW_9 => ⟨⟨(me2_5 k), (pa2_2, nu2_3, fi2_4, me2_5, us2_6, cs2_7), rfl, (show (me2_5 k) = (fltI (cn (fi2_4 k)) wh (me2_5 k)) ∧ CGood kd s0 s1 on n no nu2_3 fi2_4 me2_5 cs2_7 from ⟨(by have e9 : wh = 3 := (nI_eq (by omega) (by decide)).mp k_3; subst e9; rfl), k_G⟩), ⟨by rw [ht_9]; exact hP, hD⟩⟩, hS.F ht_9⟩) hS.2.2 dX4_fault_72
  refine lv_tableOut (tgt := 73) hx hb dX4_fault_16 (zs_out (n := 4) (by decide) (fun j hj => by rcases (show j = 0 ∨ j = 1 ∨ j = 2 ∨ j = 3 by omega) with rfl | rfl | rfl | rfl <;> assumption)) (by decide) ?_
  exact absurd hwh (fun h9 => by rcases (show wh = 0 ∨ wh = 1 ∨ wh = 2 ∨ wh = 3 by omega) with e9 | e9 | e9 | e9; exact k_0 (by rw [e9]); exact k_1 (by rw [e9]); exact k_2 (by rw [e9]); exact k_3 (by rw [e9]))

set_option maxHeartbeats 4000000 in
set_option maxRecDepth 100000 in
theorem c_X4_fault_no (l : Launch) (hl0 : l.stackTraces = false) (D : va_G) (cI cJ cZ : ClassId) (qx : Nat) (qc : Nat) (qk : Nat) (q0 : Nat) (q1 : Nat) (qo : Nat) (qv : Nat) (kd : Nat → Int32) (s0 : Nat → Int32) (s1 : Nat → Int32) (on : Nat → Int32) (vl : Nat → Int64) (n : Nat) (ni : Nat) (no : Nat) (qC : Nat) (qpa : Nat) (qnu : Nat) (qfi : Nat) (qme : Nat) (qus : Nat) (pa : Nat → Int32) (nu : Nat → Int32) (fi : Nat → Int32) (me : Nat → Int32) (us : Nat → Int32) (cs : Nat) (qS : Nat) (qP : Nat) (st : Nat) (k : Int32) (wh : Int32) (sz : Nat) (A : Nat → Prop) (hAe : A = va_A [(qx, .inr (4, [.ref qc, .ref qC, .ref qS, .ref qP, .int (nI st)])), (qc, .inr (0, [.ref qk, .ref q0, .ref q1, .ref qo, .ref qv, .int (nI n), .int (nI ni), .int (nI no)])), (qk, .inl (cI, 100, .inl kd)), (q0, .inl (cI, 100, .inl s0)), (q1, .inl (cI, 100, .inl s1)), (qo, .inl (cI, 12, .inl on)), (qv, .inl (cJ, 1600, .inr (.inl vl))), (qC, .inr (1, [.ref qpa, .ref qnu, .ref qfi, .ref qme, .ref qus, .int (nI cs)])), (qpa, .inl (cI, 600, .inl pa)), (qnu, .inl (cI, 600, .inl nu)), (qfi, .inl (cI, 600, .inl fi)), (qme, .inl (cI, 600, .inl me)), (qus, .inl (cI, 100, .inl us))] sz) (hn : n ≤ 100) (hno : no ≤ 12) (hwf : WF n kd s0 s1) (hwo : WO n no on) (hst : st < 2) (hcs : CST kd s0 s1 on n no st nu fi me cs) (h : ¬ (isN (ncl kd s0 s1 on n no) k ∧ ¬ wh < 0 ∧ wh ≤ nI 3)) : vx_Met l yX4_fault wsX4_fault ({ frames := 7, cells := 1, slots := 6, locals := 138 } : Room) (va_Pc [.ref qx, .int k, .int wh] (PX D cI cJ cZ [(qx, .inr (4, [.ref qc, .ref qC, .ref qS, .ref qP, .int (nI st)])), (qc, .inr (0, [.ref qk, .ref q0, .ref q1, .ref qo, .ref qv, .int (nI n), .int (nI ni), .int (nI no)])), (qk, .inl (cI, 100, .inl kd)), (q0, .inl (cI, 100, .inl s0)), (q1, .inl (cI, 100, .inl s1)), (qo, .inl (cI, 12, .inl on)), (qv, .inl (cJ, 1600, .inr (.inl vl))), (qC, .inr (1, [.ref qpa, .ref qnu, .ref qfi, .ref qme, .ref qus, .int (nI cs)])), (qpa, .inl (cI, 600, .inl pa)), (qnu, .inl (cI, 600, .inl nu)), (qfi, .inl (cI, 600, .inl fi)), (qme, .inl (cI, 600, .inl me)), (qus, .inl (cI, 100, .inl us))] sz)) (va_Qi (fun (_ : Int32) (_ : Unit) => False) (fun _ _ => True) A) (vx_X (fun u9 : (Nat → Int32) × (Nat → Int32) × (Nat → Int32) × (Nat → Int32) × (Nat → Int32) × Nat => match u9 with | (pa2, nu2, fi2, me2, us2, cs2) => CGood kd s0 s1 on n no nu2 fi2 me2 cs2) (fun E (u9 : (Nat → Int32) × (Nat → Int32) × (Nat → Int32) × (Nat → Int32) × (Nat → Int32) × Nat) t => E = "java/lang/IndexOutOfBoundsException" ∧ match u9 with | (pa2, nu2, fi2, me2, us2, cs2) => PQ D A [(qx, .inr (4, [.ref qc, .ref qC, .ref qS, .ref qP, .int (nI 0)])), (qc, .inr (0, [.ref qk, .ref q0, .ref q1, .ref qo, .ref qv, .int (nI n), .int (nI ni), .int (nI no)])), (qk, .inl (cI, 100, .inl kd)), (q0, .inl (cI, 100, .inl s0)), (q1, .inl (cI, 100, .inl s1)), (qo, .inl (cI, 12, .inl on)), (qv, .inl (cJ, 1600, .inr (.inl vl))), (qC, .inr (1, [.ref qpa, .ref qnu, .ref qfi, .ref qme, .ref qus, .int (nI cs2)])), (qpa, .inl (cI, 600, .inl pa2)), (qnu, .inl (cI, 600, .inl nu2)), (qfi, .inl (cI, 600, .inl fi2)), (qme, .inl (cI, 600, .inl me2)), (qus, .inl (cI, 100, .inl us2))] t) A) 1 6 A := by
  refine vx_ofW (cc := cX4_fault) (maxL := 4) (ret := (some .int)) (by decide) rfl ?_
  intro p e s m args below meth c s₁ B hml hxt hv
  obtain ⟨rfl, ⟨hsz, ⟨hP, hK, hNB⟩, hD0⟩, hGX⟩ := hv
  have hx := B.exec
  have hb := B.bytes
  have hr := B.returns
  have hts := atoms_spec (ws := wsX4_fault) B.pre
  have hown : s.vm.findClass RX4 = some m.cls := findClass_of_methodNamed B.named
  have hlocks := B.notSynchronized
  have hiX1 : ∀ w ∈ u_ws RX1 TX1 6, w ∈ wsX4_fault := by decide +kernel
  have hiX4 : ∀ w ∈ u_ws RX4 TX4 5, w ∈ wsX4_fault := by decide +kernel
  subst hsz
  rw [← hAe] at hGX
  have hD : va_D A [(qx, .inr (4, [.ref qc, .ref qC, .ref qS, .ref qP, .int (nI st)])), (qc, .inr (0, [.ref qk, .ref q0, .ref q1, .ref qo, .ref qv, .int (nI n), .int (nI ni), .int (nI no)])), (qk, .inl (cI, 100, .inl kd)), (q0, .inl (cI, 100, .inl s0)), (q1, .inl (cI, 100, .inl s1)), (qo, .inl (cI, 12, .inl on)), (qv, .inl (cJ, 1600, .inr (.inl vl))), (qC, .inr (1, [.ref qpa, .ref qnu, .ref qfi, .ref qme, .ref qus, .int (nI cs)])), (qpa, .inl (cI, 600, .inl pa)), (qnu, .inl (cI, 600, .inl nu)), (qfi, .inl (cI, 600, .inl fi)), (qme, .inl (cI, 600, .inl me)), (qus, .inl (cI, 100, .inl us))] := by rw [hAe]; exact hD0.self
  have hA : ∀ q : Nat, s.heap.size ≤ q → A q := fun q h => by rw [hAe]; exact Or.inr h
  have hS : va_S A s.heap s.heap [] := va_S.rf
  have hl := lv_entry ([.ref qx, .int k, .int wh]) (n := 4) (Nat.le_of_ble_eq_true rfl)
  rw [lg_entry_eq]
  generalize (lg_sl ([.ref qx, .int k, .int wh]) ++ List.replicate (4 - (lg_sl ([.ref qx, .int k, .int wh])).length) Slot.unset).toArray = ls at hl ⊢
  have hl : lv_has ls 4 [(0, .ref qx), (1, .int k), (2, .int wh)] := hl
  refine lv_aload_n hx hb dX4_fault_0 rfl (lv_at hl 0 rfl) ?_
  refine lv_iload_n hx hb dX4_fault_1 rfl (lv_at hl 1 rfl) ?_
  by_cases hkn : isN (ncl kd s0 s1 on n no) k
  · skip
    have hle8 := ncl_le (kd := kd) (s0 := s0) (s1 := s1) (on := on) (no := no) hn
    obtain ⟨k8, hk8, ek8⟩ := isN_of (by omega) hkn
    refine zz_i (z := (nI k8)) ek8 ?_
    have hPc := hP.sub (ws' := [(qx, .inr (4, [.ref qc, .ref qC, .ref qS, .ref qP, .int (nI st)])), (qc, .inr (0, [.ref qk, .ref q0, .ref q1, .ref qo, .ref qv, .int (nI n), .int (nI ni), .int (nI no)])), (qk, .inl (cI, 100, .inl kd)), (q0, .inl (cI, 100, .inl s0)), (q1, .inl (cI, 100, .inl s1)), (qo, .inl (cI, 12, .inl on)), (qv, .inl (cJ, 1600, .inr (.inl vl))), (qC, .inr (1, [.ref qpa, .ref qnu, .ref qfi, .ref qme, .ref qus, .int (nI cs)])), (qpa, .inl (cI, 600, .inl pa)), (qnu, .inl (cI, 600, .inl nu)), (qfi, .inl (cI, 600, .inl fi)), (qme, .inl (cI, 600, .inl me)), (qus, .inl (cI, 100, .inl us))]) [0, 1, 2, 3, 4, 5, 6, 7, 8, 9, 10, 11, 12] rfl
    have hDc := hD.sub (ws' := [(qx, .inr (4, [.ref qc, .ref qC, .ref qS, .ref qP, .int (nI st)])), (qc, .inr (0, [.ref qk, .ref q0, .ref q1, .ref qo, .ref qv, .int (nI n), .int (nI ni), .int (nI no)])), (qk, .inl (cI, 100, .inl kd)), (q0, .inl (cI, 100, .inl s0)), (q1, .inl (cI, 100, .inl s1)), (qo, .inl (cI, 12, .inl on)), (qv, .inl (cJ, 1600, .inr (.inl vl))), (qC, .inr (1, [.ref qpa, .ref qnu, .ref qfi, .ref qme, .ref qus, .int (nI cs)])), (qpa, .inl (cI, 600, .inl pa)), (qnu, .inl (cI, 600, .inl nu)), (qfi, .inl (cI, 600, .inl fi)), (qme, .inl (cI, 600, .inl me)), (qus, .inl (cI, 100, .inl us))]) [0, 1, 2, 3, 4, 5, 6, 7, 8, 9, 10, 11, 12] (by decide) rfl
    have hFc := va_free (wc := [(qx, .inr (4, [.ref qc, .ref qC, .ref qS, .ref qP, .int (nI st)])), (qc, .inr (0, [.ref qk, .ref q0, .ref q1, .ref qo, .ref qv, .int (nI n), .int (nI ni), .int (nI no)])), (qk, .inl (cI, 100, .inl kd)), (q0, .inl (cI, 100, .inl s0)), (q1, .inl (cI, 100, .inl s1)), (qo, .inl (cI, 12, .inl on)), (qv, .inl (cJ, 1600, .inr (.inl vl))), (qC, .inr (1, [.ref qpa, .ref qnu, .ref qfi, .ref qme, .ref qus, .int (nI cs)])), (qpa, .inl (cI, 600, .inl pa)), (qnu, .inl (cI, 600, .inl nu)), (qfi, .inl (cI, 600, .inl fi)), (qme, .inl (cI, 600, .inl me)), (qus, .inl (cI, 100, .inl us))]) hD hS hA [0, 1, 2, 3, 4, 5, 6, 7, 8, 9, 10, 11, 12] rfl
    refine va_callv (va_runV (As := [.int (nI k8)]) (rest := []) ⟨hx, hb, hml, hown, hts⟩ (c_X4_requireClass_ok l D cI cJ cZ qx qc qk q0 q1 qo qv kd s0 s1 on vl n ni no qC qpa qnu qfi qme qus pa nu fi me us cs qS qP st k8 s.heap.size _ rfl (by omega) (by omega) hwf hwo (by omega) hcs hk8 (by omega)) (cwV 1 hts gX4_fault_X4_requireClass rfl rfl rfl (by decide +kernel) ⟨Nat.le_of_ble_eq_true rfl, Nat.le_of_ble_eq_true rfl⟩) ⟨PW.blind, va_recv hK hPc (ci := 4) (q0 := 0) rfl rfl, fun U hU hW => ⟨rfl, PW.to hPc hK hNB hDc hU hW⟩⟩ rfl rfl hl.1 rfl (lv_room (Nat.le_of_ble_eq_true rfl)) dX4_fault_2 ⟨Nat.le_of_ble_eq_true rfl, Nat.le_of_ble_eq_true rfl⟩) hS (fun q _ h => hFc q h) hFc (fun u_9 t_9 H1_9 locs ht_9 hvm_9 hw_9 hB_9 hz1_9 hk1_9 hS => ?_)
    obtain ⟨pa2_2, nu2_3, fi2_4, me2_5, us2_6, cs2_7⟩ := u_9
    obtain ⟨hP1_9, hD1_9⟩ := hB_9
    rw [ht_9] at hP1_9
    have k_G := hw_9
    have k_G : CGood kd s0 s1 on n no nu2_3 fi2_4 me2_5 cs2_7 := k_G
    obtain ⟨hP, hD⟩ := va_join (wr := []) (w1 := [(qx, .inr (4, [.ref qc, .ref qC, .ref qS, .ref qP, .int (nI 0)])), (qc, .inr (0, [.ref qk, .ref q0, .ref q1, .ref qo, .ref qv, .int (nI n), .int (nI ni), .int (nI no)])), (qk, .inl (cI, 100, .inl kd)), (q0, .inl (cI, 100, .inl s0)), (q1, .inl (cI, 100, .inl s1)), (qo, .inl (cI, 12, .inl on)), (qv, .inl (cJ, 1600, .inr (.inl vl))), (qC, .inr (1, [.ref qpa, .ref qnu, .ref qfi, .ref qme, .ref qus, .int (nI cs2_7)])), (qpa, .inl (cI, 600, .inl pa2_2)), (qnu, .inl (cI, 600, .inl nu2_3)), (qfi, .inl (cI, 600, .inl fi2_4)), (qme, .inl (cI, 600, .inl me2_5)), (qus, .inl (cI, 100, .inl us2_6))]) hP hD [0, 1, 2, 3, 4, 5, 6, 7, 8, 9, 10, 11, 12] [] rfl rfl (by decide) (by decide) hk1_9 hFc hP1_9 hD1_9
    generalize H1_9 = H at hP hS ⊢
    have hP : va_P D vwCl [(qx, .inr (4, [.ref qc, .ref qC, .ref qS, .ref qP, .int (nI 0)])), (qc, .inr (0, [.ref qk, .ref q0, .ref q1, .ref qo, .ref qv, .int (nI n), .int (nI ni), .int (nI no)])), (qk, .inl (cI, 100, .inl kd)), (q0, .inl (cI, 100, .inl s0)), (q1, .inl (cI, 100, .inl s1)), (qo, .inl (cI, 12, .inl on)), (qv, .inl (cJ, 1600, .inr (.inl vl))), (qC, .inr (1, [.ref qpa, .ref qnu, .ref qfi, .ref qme, .ref qus, .int (nI cs2_7)])), (qpa, .inl (cI, 600, .inl pa2_2)), (qnu, .inl (cI, 600, .inl nu2_3)), (qfi, .inl (cI, 600, .inl fi2_4)), (qme, .inl (cI, 600, .inl me2_5)), (qus, .inl (cI, 100, .inl us2_6))] H := hP
    have hD : va_D A [(qx, .inr (4, [.ref qc, .ref qC, .ref qS, .ref qP, .int (nI 0)])), (qc, .inr (0, [.ref qk, .ref q0, .ref q1, .ref qo, .ref qv, .int (nI n), .int (nI ni), .int (nI no)])), (qk, .inl (cI, 100, .inl kd)), (q0, .inl (cI, 100, .inl s0)), (q1, .inl (cI, 100, .inl s1)), (qo, .inl (cI, 12, .inl on)), (qv, .inl (cJ, 1600, .inr (.inl vl))), (qC, .inr (1, [.ref qpa, .ref qnu, .ref qfi, .ref qme, .ref qus, .int (nI cs2_7)])), (qpa, .inl (cI, 600, .inl pa2_2)), (qnu, .inl (cI, 600, .inl nu2_3)), (qfi, .inl (cI, 600, .inl fi2_4)), (qme, .inl (cI, 600, .inl me2_5)), (qus, .inl (cI, 100, .inl us2_6))] := hD
    have hcs9 : k8 < cs2_7 := by rw [k_G.cs]; exact hk8
    have hfi9 := k_G.fi hcs9 hn
    have hle9 := k_G.le hn
    refine lv_aload_n hx hb dX4_fault_5 rfl (lv_at hl 0 rfl) ?_
    refine va_get (D := D) (ci := 4) (v := .ref qC) (C := RX4) (T := TX4) (N := 5) hx hb hts hiX4 hown hK hP 0 rfl rfl 1 (by decide) (hts (.fieldLink RX4 19 "FaultSearch" "classes" "LFaultSearch$Classes;") (by decide +kernel)) (fun _ h9 => h9) rfl dX4_fault_6 ?_
    refine va_get (D := D) (ci := 1) (v := .ref qfi) (C := RX1) (T := TX1) (N := 6) hx hb hts hiX1 hown hK hP 7 rfl rfl 2 (by decide) (hts (.fieldLink RX4 120 "FaultSearch$Classes" "firsts" "[I") (by decide +kernel)) (fun _ h9 => h9) rfl dX4_fault_9 ?_
    refine lv_iload_n hx hb dX4_fault_12 rfl (lv_at hl 1 rfl) ?_
    refine zz_i (z := (nI k8)) ek8 ?_
    refine zz_iald hx hb hK hP 10 0 rfl rfl (n := 600) (j := k8) (by omega) (by decide) dX4_fault_13 ?_
    refine zz_i (z := (nI (cn (fi2_4 k8)))) hfi9.1 ?_
    refine lv_istore_n (lv' := [(3, .int (nI (cn (fi2_4 k8)))), (0, .ref qx), (1, .int k), (2, .int wh)]) hx hb dX4_fault_14 rfl hl (by decide) rfl (fun ls hl => ?_)
    refine lv_iload_n hx hb dX4_fault_15 rfl (lv_at hl 3 rfl) ?_
    by_cases k_0 : wh = nI 0
    · skip
      refine zz_i (z := nI 0) k_0 ?_
      refine lv_tableIn (off := 32) (tgt := 48) hx hb dX4_fault_16 (by decide) (by decide) rfl (by decide) ?_
      exact absurd ⟨hkn, by rw [k_0]; decide, by rw [k_0]; decide⟩ h
    by_cases k_1 : wh = nI 1
    · skip
      refine zz_i (z := nI 1) k_1 ?_
      refine lv_tableIn (off := 37) (tgt := 53) hx hb dX4_fault_16 (by decide) (by decide) rfl (by decide) ?_
      exact absurd ⟨hkn, by rw [k_1]; decide, by rw [k_1]; decide⟩ h
    by_cases k_2 : wh = nI 2
    · skip
      refine zz_i (z := nI 2) k_2 ?_
      refine lv_tableIn (off := 42) (tgt := 58) hx hb dX4_fault_16 (by decide) (by decide) rfl (by decide) ?_
      exact absurd ⟨hkn, by rw [k_2]; decide, by rw [k_2]; decide⟩ h
    by_cases k_3 : wh = nI 3
    · skip
      refine zz_i (z := nI 3) k_3 ?_
      refine lv_tableIn (off := 47) (tgt := 63) hx hb dX4_fault_16 (by decide) (by decide) rfl (by decide) ?_
      exact absurd ⟨hkn, by rw [k_3]; decide, by rw [k_3]; decide⟩ h
    refine lv_tableOut (tgt := 73) hx hb dX4_fault_16 (zs_out (n := 4) (by decide) (fun j hj => by rcases (show j = 0 ∨ j = 1 ∨ j = 2 ∨ j = 3 by omega) with rfl | rfl | rfl | rfl <;> assumption)) (by decide) ?_
    obtain ⟨sa_9, hstr_9⟩ := hGX.2.1.2.2.2.2.2.1
    have hat_9 : ∀ w ∈ (vx_atS RX4 75 "java/lang/IndexOutOfBoundsException" ["java/lang/RuntimeException", "java/lang/Exception"]).filter goodWord, w ∈ wsX4_fault := by decide +kernel
    exact vx_throwS (names := ["java/lang/RuntimeException", "java/lang/Exception"]) hx hb hl0 hown (by decide +kernel) (by decide +kernel) (hts (.classLink RX4 71 "java/lang/IndexOutOfBoundsException") (by decide +kernel)) (hts (.initialized "java/lang/IndexOutOfBoundsException") (by decide +kernel)) hstr_9 (vx_hat (fun w h => hts w (hat_9 w h)) (by decide +kernel) hGX.1.use) (by decide +kernel) hGX.2.2.1 hGX.2.2.2 hS (by rw [hml]; exact hl.1) dX4_fault_73 dX4_fault_76 dX4_fault_77 dX4_fault_79 dX4_fault_82 (fun x h => (hxt x h).elim) (Nat.le_of_ble_eq_true rfl) (Nat.le_of_ble_eq_true rfl) (Nat.le_of_ble_eq_true rfl) (Nat.le_of_ble_eq_true rfl) hlocks (fun t_9 ha_9 hz_9 hk_9 => ⟨(pa2_2, nu2_3, fi2_4, me2_5, us2_6, cs2_7), (show CGood kd s0 s1 on n no nu2_3 fi2_4 me2_5 cs2_7 from k_G), ⟨rfl, zx_P hP hk_9, hD⟩, zx_F hS hz_9 hk_9⟩) hS.2.2 (by decide) (by decide)
  · skip
    have hPc := hP.sub (ws' := [(qx, .inr (4, [.ref qc, .ref qC, .ref qS, .ref qP, .int (nI st)])), (qc, .inr (0, [.ref qk, .ref q0, .ref q1, .ref qo, .ref qv, .int (nI n), .int (nI ni), .int (nI no)])), (qk, .inl (cI, 100, .inl kd)), (q0, .inl (cI, 100, .inl s0)), (q1, .inl (cI, 100, .inl s1)), (qo, .inl (cI, 12, .inl on)), (qv, .inl (cJ, 1600, .inr (.inl vl))), (qC, .inr (1, [.ref qpa, .ref qnu, .ref qfi, .ref qme, .ref qus, .int (nI cs)])), (qpa, .inl (cI, 600, .inl pa)), (qnu, .inl (cI, 600, .inl nu)), (qfi, .inl (cI, 600, .inl fi)), (qme, .inl (cI, 600, .inl me)), (qus, .inl (cI, 100, .inl us))]) [0, 1, 2, 3, 4, 5, 6, 7, 8, 9, 10, 11, 12] rfl
    have hDc := hD.sub (ws' := [(qx, .inr (4, [.ref qc, .ref qC, .ref qS, .ref qP, .int (nI st)])), (qc, .inr (0, [.ref qk, .ref q0, .ref q1, .ref qo, .ref qv, .int (nI n), .int (nI ni), .int (nI no)])), (qk, .inl (cI, 100, .inl kd)), (q0, .inl (cI, 100, .inl s0)), (q1, .inl (cI, 100, .inl s1)), (qo, .inl (cI, 12, .inl on)), (qv, .inl (cJ, 1600, .inr (.inl vl))), (qC, .inr (1, [.ref qpa, .ref qnu, .ref qfi, .ref qme, .ref qus, .int (nI cs)])), (qpa, .inl (cI, 600, .inl pa)), (qnu, .inl (cI, 600, .inl nu)), (qfi, .inl (cI, 600, .inl fi)), (qme, .inl (cI, 600, .inl me)), (qus, .inl (cI, 100, .inl us))]) [0, 1, 2, 3, 4, 5, 6, 7, 8, 9, 10, 11, 12] (by decide) rfl
    have hFc := va_free (wc := [(qx, .inr (4, [.ref qc, .ref qC, .ref qS, .ref qP, .int (nI st)])), (qc, .inr (0, [.ref qk, .ref q0, .ref q1, .ref qo, .ref qv, .int (nI n), .int (nI ni), .int (nI no)])), (qk, .inl (cI, 100, .inl kd)), (q0, .inl (cI, 100, .inl s0)), (q1, .inl (cI, 100, .inl s1)), (qo, .inl (cI, 12, .inl on)), (qv, .inl (cJ, 1600, .inr (.inl vl))), (qC, .inr (1, [.ref qpa, .ref qnu, .ref qfi, .ref qme, .ref qus, .int (nI cs)])), (qpa, .inl (cI, 600, .inl pa)), (qnu, .inl (cI, 600, .inl nu)), (qfi, .inl (cI, 600, .inl fi)), (qme, .inl (cI, 600, .inl me)), (qus, .inl (cI, 100, .inl us))]) hD hS hA [0, 1, 2, 3, 4, 5, 6, 7, 8, 9, 10, 11, 12] rfl
    refine vx_callv (vx_runV (As := [.int k]) (rest := []) ⟨hx, hb, hml, hown, hts⟩ (c_X4_requireClass_no l hl0 D cI cJ cZ qx qc qk q0 q1 qo qv kd s0 s1 on vl n ni no qC qpa qnu qfi qme qus pa nu fi me us cs qS qP st k s.heap.size _ rfl (by omega) (by omega) hwf hwo (by omega) hcs hkn) (cwV 1 hts gX4_fault_X4_requireClass rfl rfl rfl (by decide +kernel) ⟨Nat.le_of_ble_eq_true rfl, Nat.le_of_ble_eq_true rfl⟩) ⟨PX.blind, va_recv hK hPc (ci := 4) (q0 := 0) rfl rfl, fun U hU hW => ⟨rfl, PX.to hPc hK hNB hDc hGX hS hFc hU hW⟩⟩ rfl rfl hl.1 rfl (lv_room (Nat.le_of_ble_eq_true rfl)) dX4_fault_2 ⟨Nat.le_of_ble_eq_true rfl, Nat.le_of_ble_eq_true rfl⟩) hS (fun q _ h => hFc q h) hFc (fun q _ h => hFc q h) (fun E_9 ce_9 q9_9 u_9 t_9 H1_9 locs ht_9 hvm_9 hw_9 hB_9 hz_9 hk1_9 hS hce_9 hcv_9 hcl_9 => ?_) (fun u_9 t_9 H1_9 locs ht_9 hvm_9 hw_9 hB_9 hz1_9 hk1_9 hS => hw_9.elim)
    obtain ⟨pa2_9, nu2_10, fi2_11, me2_12, us2_13, cs2_14⟩ := u_9
    obtain ⟨rfl, hP1_9, hD1_9⟩ := hB_9
    rw [ht_9] at hP1_9
    have k_G := hw_9
    have k_G : CGood kd s0 s1 on n no nu2_10 fi2_11 me2_12 cs2_14 := k_G
    obtain ⟨hP, hD⟩ := va_join (wr := []) (w1 := [(qx, .inr (4, [.ref qc, .ref qC, .ref qS, .ref qP, .int (nI 0)])), (qc, .inr (0, [.ref qk, .ref q0, .ref q1, .ref qo, .ref qv, .int (nI n), .int (nI ni), .int (nI no)])), (qk, .inl (cI, 100, .inl kd)), (q0, .inl (cI, 100, .inl s0)), (q1, .inl (cI, 100, .inl s1)), (qo, .inl (cI, 12, .inl on)), (qv, .inl (cJ, 1600, .inr (.inl vl))), (qC, .inr (1, [.ref qpa, .ref qnu, .ref qfi, .ref qme, .ref qus, .int (nI cs2_14)])), (qpa, .inl (cI, 600, .inl pa2_9)), (qnu, .inl (cI, 600, .inl nu2_10)), (qfi, .inl (cI, 600, .inl fi2_11)), (qme, .inl (cI, 600, .inl me2_12)), (qus, .inl (cI, 100, .inl us2_13))]) hP hD [0, 1, 2, 3, 4, 5, 6, 7, 8, 9, 10, 11, 12] [] rfl rfl (by decide) (by decide) hk1_9 hFc hP1_9 hD1_9
    generalize H1_9 = H at hP hS hce_9 ⊢
    have hP : va_P D vwCl [(qx, .inr (4, [.ref qc, .ref qC, .ref qS, .ref qP, .int (nI 0)])), (qc, .inr (0, [.ref qk, .ref q0, .ref q1, .ref qo, .ref qv, .int (nI n), .int (nI ni), .int (nI no)])), (qk, .inl (cI, 100, .inl kd)), (q0, .inl (cI, 100, .inl s0)), (q1, .inl (cI, 100, .inl s1)), (qo, .inl (cI, 12, .inl on)), (qv, .inl (cJ, 1600, .inr (.inl vl))), (qC, .inr (1, [.ref qpa, .ref qnu, .ref qfi, .ref qme, .ref qus, .int (nI cs2_14)])), (qpa, .inl (cI, 600, .inl pa2_9)), (qnu, .inl (cI, 600, .inl nu2_10)), (qfi, .inl (cI, 600, .inl fi2_11)), (qme, .inl (cI, 600, .inl me2_12)), (qus, .inl (cI, 100, .inl us2_13))] H := hP
    have hD : va_D A [(qx, .inr (4, [.ref qc, .ref qC, .ref qS, .ref qP, .int (nI 0)])), (qc, .inr (0, [.ref qk, .ref q0, .ref q1, .ref qo, .ref qv, .int (nI n), .int (nI ni), .int (nI no)])), (qk, .inl (cI, 100, .inl kd)), (q0, .inl (cI, 100, .inl s0)), (q1, .inl (cI, 100, .inl s1)), (qo, .inl (cI, 12, .inl on)), (qv, .inl (cJ, 1600, .inr (.inl vl))), (qC, .inr (1, [.ref qpa, .ref qnu, .ref qfi, .ref qme, .ref qus, .int (nI cs2_14)])), (qpa, .inl (cI, 600, .inl pa2_9)), (qnu, .inl (cI, 600, .inl nu2_10)), (qfi, .inl (cI, 600, .inl fi2_11)), (qme, .inl (cI, 600, .inl me2_12)), (qus, .inl (cI, 100, .inl us2_13))] := hD
    exact vx_out (fun x h => (hxt x h).elim) hlocks hce_9 hcv_9 hcl_9 (fun t_8 ht_8 ha_8 => ⟨(pa2_9, nu2_10, fi2_11, me2_12, us2_13, cs2_14), (show CGood kd s0 s1 on n no nu2_10 fi2_11 me2_12 cs2_14 from k_G), ⟨rfl, by rw [ht_8]; exact hP, hD⟩, hS.F ht_8⟩) hS.2.2 (by decide) (by decide)
