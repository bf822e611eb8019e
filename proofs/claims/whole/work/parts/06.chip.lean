set_option maxHeartbeats 4000000 in
set_option maxRecDepth 100000 in
theorem c_X0_empty (l : Launch) (D : va_G) (cI cJ cZ : ClassId) (qc : Nat) (qk : Nat) (q0 : Nat) (q1 : Nat) (qo : Nat) (qv : Nat) (kd : Nat → Int32) (s0 : Nat → Int32) (s1 : Nat → Int32) (on : Nat → Int32) (vl : Nat → Int64) (n : Nat) (ni : Nat) (no : Nat) (sz : Nat) (A : Nat → Prop) (hAe : A = va_A [(qc, .inr (0, [.ref qk, .ref q0, .ref q1, .ref qo, .ref qv, .int (nI n), .int (nI ni), .int (nI no)])), (qk, .inl (cI, 100, .inl kd)), (q0, .inl (cI, 100, .inl s0)), (q1, .inl (cI, 100, .inl s1)), (qo, .inl (cI, 12, .inl on)), (qv, .inl (cJ, 1600, .inr (.inl vl)))] sz) : Met l yX0_empty wsX0_empty ({ frames := 0, cells := 0, slots := 0, locals := 0 } : Room) (va_Pc [.ref qc] (PW D cI cJ cZ [(qc, .inr (0, [.ref qk, .ref q0, .ref q1, .ref qo, .ref qv, .int (nI n), .int (nI ni), .int (nI no)])), (qk, .inl (cI, 100, .inl kd)), (q0, .inl (cI, 100, .inl s0)), (q1, .inl (cI, 100, .inl s1)), (qo, .inl (cI, 12, .inl on)), (qv, .inl (cJ, 1600, .inr (.inl vl)))] sz)) (va_Qv (fun _u9 : Unit => True) (fun (_u9 : Unit) t => PQ D A [(qc, .inr (0, [.ref qk, .ref q0, .ref q1, .ref qo, .ref qv, .int (nI 0), .int (nI 0), .int (nI 0)])), (qk, .inl (cI, 100, .inl kd)), (q0, .inl (cI, 100, .inl s0)), (q1, .inl (cI, 100, .inl s1)), (qo, .inl (cI, 12, .inl on)), (qv, .inl (cJ, 1600, .inr (.inl vl)))] t) A) 0 0 A := by
  refine Met.ofW (cc := cX0_empty) (maxL := 1) (ret := none) (by decide) rfl ?_
  intro p e s m args below meth c s₁ B hml hv
  obtain ⟨rfl, hsz, ⟨hP, hK, hNB⟩, hD0⟩ := hv
  have hx := B.exec
  have hb := B.bytes
  have hr := B.returns
  have hts := atoms_spec (ws := wsX0_empty) B.pre
  have hown : s.vm.findClass RX0 = some m.cls := findClass_of_methodNamed B.named
  have hlocks := B.notSynchronized
  have hiX0 : ∀ w ∈ u_ws RX0 TX0 8, w ∈ wsX0_empty := by decide +kernel
  subst hsz
  have hD : va_D A [(qc, .inr (0, [.ref qk, .ref q0, .ref q1, .ref qo, .ref qv, .int (nI n), .int (nI ni), .int (nI no)])), (qk, .inl (cI, 100, .inl kd)), (q0, .inl (cI, 100, .inl s0)), (q1, .inl (cI, 100, .inl s1)), (qo, .inl (cI, 12, .inl on)), (qv, .inl (cJ, 1600, .inr (.inl vl)))] := by rw [hAe]; exact hD0.self
  have hA : ∀ q : Nat, s.heap.size ≤ q → A q := fun q h => by rw [hAe]; exact Or.inr h
  have hS : va_S A s.heap s.heap [] := va_S.rf
  have hl := lv_entry ([.ref qc]) (n := 1) (Nat.le_of_ble_eq_true rfl)
  rw [lg_entry_eq]
  generalize (lg_sl ([.ref qc]) ++ List.replicate (1 - (lg_sl ([.ref qc])).length) Slot.unset).toArray = ls at hl ⊢
  have hl : lv_has ls 1 [(0, .ref qc)] := hl
  refine lv_aload_n hx hb dX0_empty_0 rfl (lv_at hl 0 rfl) ?_
  refine lv_iconst (v := (nI 0)) hx hb dX0_empty_1 (by decide) ?_
  refine va_put (D := D) (ci := 0) (v := .int (nI 0)) (ty := .int) (C := RX0) (T := TX0) (N := 8) hx hb hts hiX0 tyX0 tyX0_ok nmX0 hown hK hP hD hS 0 rfl rfl 5 (by decide) (hts (.fieldLink RX0 28 "FaultSearch$Chip" "nets" "I") (by decide +kernel)) (fun _ h9 => h9) rfl (by decide +kernel) rfl rfl (Nat.le_of_ble_eq_true rfl) dX0_empty_2 (fun H locs hP hD hS => ?_)
  have hP : va_P D vwCl [(qc, .inr (0, [.ref qk, .ref q0, .ref q1, .ref qo, .ref qv, .int (nI 0), .int (nI ni), .int (nI no)])), (qk, .inl (cI, 100, .inl kd)), (q0, .inl (cI, 100, .inl s0)), (q1, .inl (cI, 100, .inl s1)), (qo, .inl (cI, 12, .inl on)), (qv, .inl (cJ, 1600, .inr (.inl vl)))] H := hP
  have hD : va_D A [(qc, .inr (0, [.ref qk, .ref q0, .ref q1, .ref qo, .ref qv, .int (nI 0), .int (nI ni), .int (nI no)])), (qk, .inl (cI, 100, .inl kd)), (q0, .inl (cI, 100, .inl s0)), (q1, .inl (cI, 100, .inl s1)), (qo, .inl (cI, 12, .inl on)), (qv, .inl (cJ, 1600, .inr (.inl vl)))] := hD
  refine lv_aload_n hx hb dX0_empty_5 rfl (lv_at hl 0 rfl) ?_
  refine lv_iconst (v := (nI 0)) hx hb dX0_empty_6 (by decide) ?_
  refine va_put (D := D) (ci := 0) (v := .int (nI 0)) (ty := .int) (C := RX0) (T := TX0) (N := 8) hx hb hts hiX0 tyX0 tyX0_ok nmX0 hown hK hP hD hS 0 rfl rfl 6 (by decide) (hts (.fieldLink RX0 32 "FaultSearch$Chip" "inputs" "I") (by decide +kernel)) (fun _ h9 => h9) rfl (by decide +kernel) rfl rfl (Nat.le_of_ble_eq_true rfl) dX0_empty_7 (fun H locs hP hD hS => ?_)
  have hP : va_P D vwCl [(qc, .inr (0, [.ref qk, .ref q0, .ref q1, .ref qo, .ref qv, .int (nI 0), .int (nI 0), .int (nI no)])), (qk, .inl (cI, 100, .inl kd)), (q0, .inl (cI, 100, .inl s0)), (q1, .inl (cI, 100, .inl s1)), (qo, .inl (cI, 12, .inl on)), (qv, .inl (cJ, 1600, .inr (.inl vl)))] H := hP
  have hD : va_D A [(qc, .inr (0, [.ref qk, .ref q0, .ref q1, .ref qo, .ref qv, .int (nI 0), .int (nI 0), .int (nI no)])), (qk, .inl (cI, 100, .inl kd)), (q0, .inl (cI, 100, .inl s0)), (q1, .inl (cI, 100, .inl s1)), (qo, .inl (cI, 12, .inl on)), (qv, .inl (cJ, 1600, .inr (.inl vl)))] := hD
  refine lv_aload_n hx hb dX0_empty_10 rfl (lv_at hl 0 rfl) ?_
  refine lv_iconst (v := (nI 0)) hx hb dX0_empty_11 (by decide) ?_
  refine va_put (D := D) (ci := 0) (v := .int (nI 0)) (ty := .int) (C := RX0) (T := TX0) (N := 8) hx hb hts hiX0 tyX0 tyX0_ok nmX0 hown hK hP hD hS 0 rfl rfl 7 (by decide) (hts (.fieldLink RX0 35 "FaultSearch$Chip" "outputs" "I") (by decide +kernel)) (fun _ h9 => h9) rfl (by decide +kernel) rfl rfl (Nat.le_of_ble_eq_true rfl) dX0_empty_12 (fun H locs hP hD hS => ?_)
  have hP : va_P D vwCl [(qc, .inr (0, [.ref qk, .ref q0, .ref q1, .ref qo, .ref qv, .int (nI 0), .int (nI 0), .int (nI 0)])), (qk, .inl (cI, 100, .inl kd)), (q0, .inl (cI, 100, .inl s0)), (q1, .inl (cI, 100, .inl s1)), (qo, .inl (cI, 12, .inl on)), (qv, .inl (cJ, 1600, .inr (.inl vl)))] H := hP
  have hD : va_D A [(qc, .inr (0, [.ref qk, .ref q0, .ref q1, .ref qo, .ref qv, .int (nI 0), .int (nI 0), .int (nI 0)])), (qk, .inl (cI, 100, .inl kd)), (q0, .inl (cI, 100, .inl s0)), (q1, .inl (cI, 100, .inl s1)), (qo, .inl (cI, 12, .inl on)), (qv, .inl (cJ, 1600, .inr (.inl vl)))] := hD
  exact W.vret hx hb hr (fun t_9 ht_9 hW_9 => ⟨⟨(), rfl, trivial, ⟨by rw [ht_9]; exact hP, hD⟩⟩, hS.F ht_9⟩) hS.2.2 dX0_empty_15

set_option maxHeartbeats 4000000 in
set_option maxRecDepth 100000 in
theorem c_X0_hasNet (l : Launch) (D : va_G) (cI cJ cZ : ClassId) (qc : Nat) (qk : Nat) (q0 : Nat) (q1 : Nat) (qo : Nat) (qv : Nat) (kd : Nat → Int32) (s0 : Nat → Int32) (s1 : Nat → Int32) (on : Nat → Int32) (vl : Nat → Int64) (n : Nat) (ni : Nat) (no : Nat) (a : Int32) : Met l yX0_hasNet wsX0_hasNet ({ frames := 0, cells := 0, slots := 0, locals := 0 } : Room) (va_Pc [.ref qc, .int a] (PR D cI cJ cZ [(qc, .inr (0, [.ref qk, .ref q0, .ref q1, .ref qo, .ref qv, .int (nI n), .int (nI ni), .int (nI no)])), (qk, .inl (cI, 100, .inl kd)), (q0, .inl (cI, 100, .inl s0)), (q1, .inl (cI, 100, .inl s1)), (qo, .inl (cI, 12, .inl on)), (qv, .inl (cJ, 1600, .inr (.inl vl)))])) (vp_Si (fun r_9 : Int32 => r_9 = (if isN n a then (1 : Int32) else 0))) 0 0 (fun _ => False) := by
  refine Met.ofW (cc := cX0_hasNet) (maxL := 2) (ret := (some .boolean)) (by decide) rfl ?_
  intro p e s m args below meth c s₁ B hml hv
  obtain ⟨rfl, hP, hK, hNB⟩ := hv
  have hx := B.exec
  have hb := B.bytes
  have hr := B.returns
  have hts := atoms_spec (ws := wsX0_hasNet) B.pre
  have hown : s.vm.findClass RX0 = some m.cls := findClass_of_methodNamed B.named
  have hlocks := B.notSynchronized
  have hiX0 : ∀ w ∈ u_ws RX0 TX0 8, w ∈ wsX0_hasNet := by decide +kernel
  have hl := lv_entry ([.ref qc, .int a]) (n := 2) (Nat.le_of_ble_eq_true rfl)
  rw [lg_entry_eq]
  generalize (lg_sl ([.ref qc, .int a]) ++ List.replicate (2 - (lg_sl ([.ref qc, .int a])).length) Slot.unset).toArray = ls at hl ⊢
  have hl : lv_has ls 2 [(0, .ref qc), (1, .int a)] := hl
  refine lv_iload_n hx hb dX0_hasNet_0 rfl (lv_at hl 1 rfl) ?_
  refine lv_if_lt (tgt := 16) hx hb dX0_hasNet_1 (by decide) (fun c_1 => ?_) (fun c_1 => ?_)
  · skip
    refine lv_iconst (v := (nI 0)) hx hb dX0_hasNet_16 (by decide) ?_
    exact W.zret (v := (nI 0)) hx hb hr (rfl) (fun t_9 ht_9 hW_9 => ⟨(nI 0), rfl, (by first | exact (if_pos (by simp_all [onePin, isN])).symm | exact (if_neg (by simp_all [onePin, isN])).symm), ht_9⟩) (fun q h => nomatch h) dX0_hasNet_17
  · skip
    refine lv_iload_n hx hb dX0_hasNet_4 rfl (lv_at hl 1 rfl) ?_
    refine lv_aload_n hx hb dX0_hasNet_5 rfl (lv_at hl 0 rfl) ?_
    refine va_get (D := D) (ci := 0) (v := .int (nI n)) (C := RX0) (T := TX0) (N := 8) hx hb hts hiX0 hown hK hP 0 rfl rfl 5 (by decide) (hts (.fieldLink RX0 28 "FaultSearch$Chip" "nets" "I") (by decide +kernel)) (fun _ h9 => h9) rfl dX0_hasNet_6 ?_
    refine lv_icmp_ge (tgt := 16) hx hb dX0_hasNet_9 (by decide) (fun c_9 => ?_) (fun c_9 => ?_)
    · skip
      refine lv_iconst (v := (nI 0)) hx hb dX0_hasNet_16 (by decide) ?_
      exact W.zret (v := (nI 0)) hx hb hr (rfl) (fun t_9 ht_9 hW_9 => ⟨(nI 0), rfl, (by first | exact (if_pos (by simp_all [onePin, isN])).symm | exact (if_neg (by simp_all [onePin, isN])).symm), ht_9⟩) (fun q h => nomatch h) dX0_hasNet_17
    · skip
      refine lv_iconst (v := (nI 1)) hx hb dX0_hasNet_12 (by decide) ?_
      refine lv_goto (tgt := 17) hx hb dX0_hasNet_13 (by decide) ?_
      exact W.zret (v := (nI 1)) hx hb hr (rfl) (fun t_9 ht_9 hW_9 => ⟨(nI 1), rfl, (by first | exact (if_pos (by simp_all [onePin, isN])).symm | exact (if_neg (by simp_all [onePin, isN])).symm), ht_9⟩) (fun q h => nomatch h) dX0_hasNet_17

set_option maxHeartbeats 4000000 in
set_option maxRecDepth 100000 in
theorem c_X0_pins (l : Launch) (D : va_G) (cI cJ cZ : ClassId) (qc : Nat) (qk : Nat) (q0 : Nat) (q1 : Nat) (qo : Nat) (qv : Nat) (kd : Nat → Int32) (s0 : Nat → Int32) (s1 : Nat → Int32) (on : Nat → Int32) (vl : Nat → Int64) (n : Nat) (ni : Nat) (no : Nat) (j : Nat) (hj : j < 100) : Met l yX0_pins wsX0_pins ({ frames := 1, cells := 0, slots := 0, locals := 20 } : Room) (va_Pc [.ref qc, .int (nI j)] (PR D cI cJ cZ [(qc, .inr (0, [.ref qk, .ref q0, .ref q1, .ref qo, .ref qv, .int (nI n), .int (nI ni), .int (nI no)])), (qk, .inl (cI, 100, .inl kd)), (q0, .inl (cI, 100, .inl s0)), (q1, .inl (cI, 100, .inl s1)), (qo, .inl (cI, 12, .inl on)), (qv, .inl (cJ, 1600, .inr (.inl vl)))])) (vp_Si (fun r_9 : Int32 => r_9 = (nI (pinsN (kd j))))) 0 0 (fun _ => False) := by
  refine Met.ofW (cc := cX0_pins) (maxL := 2) (ret := (some .int)) (by decide) rfl ?_
  intro p e s m args below meth c s₁ B hml hv
  obtain ⟨rfl, hP, hK, hNB⟩ := hv
  have hx := B.exec
  have hb := B.bytes
  have hr := B.returns
  have hts := atoms_spec (ws := wsX0_pins) B.pre
  have hown : s.vm.findClass RX0 = some m.cls := findClass_of_methodNamed B.named
  have hlocks := B.notSynchronized
  have hiX0 : ∀ w ∈ u_ws RX0 TX0 8, w ∈ wsX0_pins := by decide +kernel
  have hl := lv_entry ([.ref qc, .int (nI j)]) (n := 2) (Nat.le_of_ble_eq_true rfl)
  rw [lg_entry_eq]
  generalize (lg_sl ([.ref qc, .int (nI j)]) ++ List.replicate (2 - (lg_sl ([.ref qc, .int (nI j)])).length) Slot.unset).toArray = ls at hl ⊢
  have hl : lv_has ls 2 [(0, .ref qc), (1, .int (nI j))] := hl
  refine lv_aload_n hx hb dX0_pins_0 rfl (lv_at hl 0 rfl) ?_
  refine va_get (D := D) (ci := 0) (v := .ref qk) (C := RX0) (T := TX0) (N := 8) hx hb hts hiX0 hown hK hP 0 rfl rfl 0 (by decide) (hts (.fieldLink RX0 9 "FaultSearch$Chip" "kinds" "[I") (by decide +kernel)) (fun _ h9 => h9) rfl dX0_pins_1 ?_
  refine lv_iload_n hx hb dX0_pins_4 rfl (lv_at hl 1 rfl) ?_
  refine zz_iald hx hb hK hP 1 0 rfl rfl (n := 100) (j := j) (by omega) (by decide) dX0_pins_5 ?_
  refine lv_iconst (v := (-1)) hx hb dX0_pins_6 (by decide) ?_
  refine lv_icmp_ne (tgt := 12) hx hb dX0_pins_7 (by decide) (fun c_7 => ?_) (fun c_7 => ?_)
  · skip
    refine lv_aload_n hx hb dX0_pins_12 rfl (lv_at hl 0 rfl) ?_
    refine va_get (D := D) (ci := 0) (v := .ref qk) (C := RX0) (T := TX0) (N := 8) hx hb hts hiX0 hown hK hP 0 rfl rfl 0 (by decide) (hts (.fieldLink RX0 9 "FaultSearch$Chip" "kinds" "[I") (by decide +kernel)) (fun _ h9 => h9) rfl dX0_pins_13 ?_
    refine lv_iload_n hx hb dX0_pins_16 rfl (lv_at hl 1 rfl) ?_
    refine zz_iald hx hb hK hP 1 0 rfl rfl (n := 100) (j := j) (by omega) (by decide) dX0_pins_17 ?_
    refine vp_callSi (va_runSN (As := [.int (kd j)]) (rest := []) ⟨hx, hb, hml, hown, hts⟩ (c_X4_isOnePin l (kd j)) ⟨(va_cnB 1 hts gX0_pins_X4_isOnePin_n38 rfl rfl rfl hNB.1 (hts (.initialized RX4) (by decide +kernel)) (by decide +kernel) ⟨Nat.le_of_ble_eq_true rfl, Nat.le_of_ble_eq_true rfl⟩), hts (.static yX4_isOnePin) (by decide +kernel), trivial⟩ ⟨zt_blind, fun U hU hW => ⟨rfl, trivial⟩⟩ rfl rfl hl.1 rfl (lv_room (Nat.le_of_ble_eq_true rfl)) dX0_pins_18 ⟨Nat.le_of_ble_eq_true rfl, Nat.le_of_ble_eq_true rfl⟩).run (fun r_1 hrr_1 => ?_)
    subst hrr_1
    refine lv_if_eq (tgt := 28) hx hb dX0_pins_21 (by decide) (fun c_21 => ?_) (fun c_21 => ?_)
    · skip
      rw [zc_if0] at c_21
      refine lv_iconst (v := (nI 2)) hx hb dX0_pins_28 (by decide) ?_
      exact W.iret (v := (nI 2)) hx hb hr (fun t_9 ht_9 hW_9 => ⟨(nI 2), rfl, (by simp_all [pinsN, onePin]), ht_9⟩) (fun q h => nomatch h) dX0_pins_29
    · skip
      rw [zc_if0] at c_21
      have c_21 := Classical.not_not.mp c_21
      refine lv_iconst (v := (nI 1)) hx hb dX0_pins_24 (by decide) ?_
      refine lv_goto (tgt := 29) hx hb dX0_pins_25 (by decide) ?_
      exact W.iret (v := (nI 1)) hx hb hr (fun t_9 ht_9 hW_9 => ⟨(nI 1), rfl, (by simp_all [pinsN, onePin]), ht_9⟩) (fun q h => nomatch h) dX0_pins_29
  · skip
    refine lv_iconst (v := (nI 0)) hx hb dX0_pins_10 (by decide) ?_
    exact W.iret (v := (nI 0)) hx hb hr (fun t_9 ht_9 hW_9 => ⟨(nI 0), rfl, (by simp_all [pinsN, onePin]), ht_9⟩) (fun q h => nomatch h) dX0_pins_11

set_option maxHeartbeats 4000000 in
set_option maxRecDepth 100000 in
theorem c_X0_source (l : Launch) (D : va_G) (cI cJ cZ : ClassId) (qc : Nat) (qk : Nat) (q0 : Nat) (q1 : Nat) (qo : Nat) (qv : Nat) (kd : Nat → Int32) (s0 : Nat → Int32) (s1 : Nat → Int32) (on : Nat → Int32) (vl : Nat → Int64) (n : Nat) (ni : Nat) (no : Nat) (j : Nat) (pn : Nat) (hj : j < 100) (hpn : pn < 2) : Met l yX0_source wsX0_source ({ frames := 0, cells := 0, slots := 0, locals := 0 } : Room) (va_Pc [.ref qc, .int (nI j), .int (nI pn)] (PR D cI cJ cZ [(qc, .inr (0, [.ref qk, .ref q0, .ref q1, .ref qo, .ref qv, .int (nI n), .int (nI ni), .int (nI no)])), (qk, .inl (cI, 100, .inl kd)), (q0, .inl (cI, 100, .inl s0)), (q1, .inl (cI, 100, .inl s1)), (qo, .inl (cI, 12, .inl on)), (qv, .inl (cJ, 1600, .inr (.inl vl)))])) (vp_Si (fun r_9 : Int32 => r_9 = (srcF s0 s1 j pn))) 0 0 (fun _ => False) := by
  refine Met.ofW (cc := cX0_source) (maxL := 3) (ret := (some .int)) (by decide) rfl ?_
  intro p e s m args below meth c s₁ B hml hv
  obtain ⟨rfl, hP, hK, hNB⟩ := hv
  have hx := B.exec
  have hb := B.bytes
  have hr := B.returns
  have hts := atoms_spec (ws := wsX0_source) B.pre
  have hown : s.vm.findClass RX0 = some m.cls := findClass_of_methodNamed B.named
  have hlocks := B.notSynchronized
  have hiX0 : ∀ w ∈ u_ws RX0 TX0 8, w ∈ wsX0_source := by decide +kernel
  have hl := lv_entry ([.ref qc, .int (nI j), .int (nI pn)]) (n := 3) (Nat.le_of_ble_eq_true rfl)
  rw [lg_entry_eq]
  generalize (lg_sl ([.ref qc, .int (nI j), .int (nI pn)]) ++ List.replicate (3 - (lg_sl ([.ref qc, .int (nI j), .int (nI pn)])).length) Slot.unset).toArray = ls at hl ⊢
  have hl : lv_has ls 3 [(0, .ref qc), (1, .int (nI j)), (2, .int (nI pn))] := hl
  refine lv_iload_n hx hb dX0_source_0 rfl (lv_at hl 2 rfl) ?_
  refine lv_if_ne (tgt := 13) hx hb dX0_source_1 (by decide) (fun c_1 => ?_) (fun c_1 => ?_)
  · skip
    rw [zc_eq0 (by omega)] at c_1
    refine lv_aload_n hx hb dX0_source_13 rfl (lv_at hl 0 rfl) ?_
    refine va_get (D := D) (ci := 0) (v := .ref q1) (C := RX0) (T := TX0) (N := 8) hx hb hts hiX0 hown hK hP 0 rfl rfl 2 (by decide) (hts (.fieldLink RX0 18 "FaultSearch$Chip" "sources1" "[I") (by decide +kernel)) (fun _ h9 => h9) rfl dX0_source_14 ?_
    refine lv_iload_n hx hb dX0_source_17 rfl (lv_at hl 1 rfl) ?_
    refine zz_iald hx hb hK hP 3 0 rfl rfl (n := 100) (j := j) (by omega) (by decide) dX0_source_18 ?_
    exact W.iret (v := (s1 j)) hx hb hr (fun t_9 ht_9 hW_9 => ⟨(s1 j), rfl, (by simp_all [srcF]), ht_9⟩) (fun q h => nomatch h) dX0_source_19
  · skip
    rw [zc_eq0 (by omega)] at c_1
    refine lv_aload_n hx hb dX0_source_4 rfl (lv_at hl 0 rfl) ?_
    refine va_get (D := D) (ci := 0) (v := .ref q0) (C := RX0) (T := TX0) (N := 8) hx hb hts hiX0 hown hK hP 0 rfl rfl 1 (by decide) (hts (.fieldLink RX0 15 "FaultSearch$Chip" "sources0" "[I") (by decide +kernel)) (fun _ h9 => h9) rfl dX0_source_5 ?_
    refine lv_iload_n hx hb dX0_source_8 rfl (lv_at hl 1 rfl) ?_
    refine zz_iald hx hb hK hP 2 0 rfl rfl (n := 100) (j := j) (by omega) (by decide) dX0_source_9 ?_
    refine lv_goto (tgt := 19) hx hb dX0_source_10 (by decide) ?_
    exact W.iret (v := (s0 j)) hx hb hr (fun t_9 ht_9 hW_9 => ⟨(s0 j), rfl, (by simp_all [srcF]), ht_9⟩) (fun q h => nomatch h) dX0_source_19

set_option maxHeartbeats 4000000 in
set_option maxRecDepth 100000 in
theorem c_X0_wordOf (l : Launch) (D : va_G) (cI cJ cZ : ClassId) (qc : Nat) (qk : Nat) (q0 : Nat) (q1 : Nat) (qo : Nat) (qv : Nat) (kd : Nat → Int32) (s0 : Nat → Int32) (s1 : Nat → Int32) (on : Nat → Int32) (vl : Nat → Int64) (n : Nat) (ni : Nat) (no : Nat) (j : Nat) (w : Nat) (hj : j < 100) (hw : w < 16) : Met l yX0_wordOf wsX0_wordOf ({ frames := 0, cells := 0, slots := 0, locals := 0 } : Room) (va_Pc [.ref qc, .int (nI j), .int (nI w)] (PR D cI cJ cZ [(qc, .inr (0, [.ref qk, .ref q0, .ref q1, .ref qo, .ref qv, .int (nI n), .int (nI ni), .int (nI no)])), (qk, .inl (cI, 100, .inl kd)), (q0, .inl (cI, 100, .inl s0)), (q1, .inl (cI, 100, .inl s1)), (qo, .inl (cI, 12, .inl on)), (qv, .inl (cJ, 1600, .inr (.inl vl)))])) (vp_Sl (fun r_9 : Int64 => r_9 = (vl (w * 100 + j)))) 0 0 (fun _ => False) := by
  refine Met.ofW (cc := cX0_wordOf) (maxL := 3) (ret := (some .long)) (by decide) rfl ?_
  intro p e s m args below meth c s₁ B hml hv
  obtain ⟨rfl, hP, hK, hNB⟩ := hv
  have hx := B.exec
  have hb := B.bytes
  have hr := B.returns
  have hts := atoms_spec (ws := wsX0_wordOf) B.pre
  have hown : s.vm.findClass RX0 = some m.cls := findClass_of_methodNamed B.named
  have hlocks := B.notSynchronized
  have hiX0 : ∀ w ∈ u_ws RX0 TX0 8, w ∈ wsX0_wordOf := by decide +kernel
  have hl := lv_entry ([.ref qc, .int (nI j), .int (nI w)]) (n := 3) (Nat.le_of_ble_eq_true rfl)
  rw [lg_entry_eq]
  generalize (lg_sl ([.ref qc, .int (nI j), .int (nI w)]) ++ List.replicate (3 - (lg_sl ([.ref qc, .int (nI j), .int (nI w)])).length) Slot.unset).toArray = ls at hl ⊢
  have hl : lv_has ls 3 [(0, .ref qc), (1, .int (nI j)), (2, .int (nI w))] := hl
  refine lv_aload_n hx hb dX0_wordOf_0 rfl (lv_at hl 0 rfl) ?_
  refine va_get (D := D) (ci := 0) (v := .ref qv) (C := RX0) (T := TX0) (N := 8) hx hb hts hiX0 hown hK hP 0 rfl rfl 4 (by decide) (hts (.fieldLink RX0 24 "FaultSearch$Chip" "values" "[J") (by decide +kernel)) (fun _ h9 => h9) rfl dX0_wordOf_1 ?_
  refine lv_iload_n hx hb dX0_wordOf_4 rfl (lv_at hl 2 rfl) ?_
  refine lv_bipush (v := (nI 100)) hx hb dX0_wordOf_5 (by decide) ?_
  refine lv_imul hx hb dX0_wordOf_7 ?_
  refine zz_i (z := (nI (w * 100))) (pk_mul _ _) ?_
  refine lv_iload_n hx hb dX0_wordOf_8 rfl (lv_at hl 1 rfl) ?_
  refine lv_iadd hx hb dX0_wordOf_9 ?_
  refine zz_i (z := (nI ((w * 100) + j))) (nI_add _ _) ?_
  refine zz_lald hx hb hK hP 5 1 rfl rfl (n := 1600) (j := ((w * 100) + j)) (by omega) (by decide) dX0_wordOf_10 ?_
  exact W.lret (v := (vl ((w * 100) + j))) hx hb hr (fun t_9 ht_9 hW_9 => ⟨(vl ((w * 100) + j)), rfl, rfl, ht_9⟩) (fun q h => nomatch h) dX0_wordOf_11

set_option maxHeartbeats 4000000 in
set_option maxRecDepth 100000 in
theorem c_X0_words (l : Launch) (D : va_G) (cI cJ cZ : ClassId) (qc : Nat) (qk : Nat) (q0 : Nat) (q1 : Nat) (qo : Nat) (qv : Nat) (kd : Nat → Int32) (s0 : Nat → Int32) (s1 : Nat → Int32) (on : Nat → Int32) (vl : Nat → Int64) (n : Nat) (ni : Nat) (no : Nat) (hni : ni ≤ 10) : Met l yX0_words wsX0_words ({ frames := 0, cells := 0, slots := 0, locals := 0 } : Room) (va_Pc [.ref qc] (PR D cI cJ cZ [(qc, .inr (0, [.ref qk, .ref q0, .ref q1, .ref qo, .ref qv, .int (nI n), .int (nI ni), .int (nI no)])), (qk, .inl (cI, 100, .inl kd)), (q0, .inl (cI, 100, .inl s0)), (q1, .inl (cI, 100, .inl s1)), (qo, .inl (cI, 12, .inl on)), (qv, .inl (cJ, 1600, .inr (.inl vl)))])) (vp_Si (fun r_9 : Int32 => r_9 = (nI (wordsN ni)))) 0 0 (fun _ => False) := by
  refine Met.ofW (cc := cX0_words) (maxL := 1) (ret := (some .int)) (by decide) rfl ?_
  intro p e s m args below meth c s₁ B hml hv
  obtain ⟨rfl, hP, hK, hNB⟩ := hv
  have hx := B.exec
  have hb := B.bytes
  have hr := B.returns
  have hts := atoms_spec (ws := wsX0_words) B.pre
  have hown : s.vm.findClass RX0 = some m.cls := findClass_of_methodNamed B.named
  have hlocks := B.notSynchronized
  have hiX0 : ∀ w ∈ u_ws RX0 TX0 8, w ∈ wsX0_words := by decide +kernel
  have hl := lv_entry ([.ref qc]) (n := 1) (Nat.le_of_ble_eq_true rfl)
  rw [lg_entry_eq]
  generalize (lg_sl ([.ref qc]) ++ List.replicate (1 - (lg_sl ([.ref qc])).length) Slot.unset).toArray = ls at hl ⊢
  have hl : lv_has ls 1 [(0, .ref qc)] := hl
  refine lv_aload_n hx hb dX0_words_0 rfl (lv_at hl 0 rfl) ?_
  refine va_get (D := D) (ci := 0) (v := .int (nI ni)) (C := RX0) (T := TX0) (N := 8) hx hb hts hiX0 hown hK hP 0 rfl rfl 6 (by decide) (hts (.fieldLink RX0 32 "FaultSearch$Chip" "inputs" "I") (by decide +kernel)) (fun _ h9 => h9) rfl dX0_words_1 ?_
  refine lv_bipush (v := (nI 6)) hx hb dX0_words_4 (by decide) ?_
  refine lv_icmp_gt (tgt := 13) hx hb dX0_words_6 (by decide) (fun c_6 => ?_) (fun c_6 => ?_)
  · skip
    rw [zc_lt (by omega) (by omega)] at c_6
    refine lv_iconst (v := (nI 1)) hx hb dX0_words_13 (by decide) ?_
    refine lv_aload_n hx hb dX0_words_14 rfl (lv_at hl 0 rfl) ?_
    refine va_get (D := D) (ci := 0) (v := .int (nI ni)) (C := RX0) (T := TX0) (N := 8) hx hb hts hiX0 hown hK hP 0 rfl rfl 6 (by decide) (hts (.fieldLink RX0 32 "FaultSearch$Chip" "inputs" "I") (by decide +kernel)) (fun _ h9 => h9) rfl dX0_words_15 ?_
    refine lv_bipush (v := (nI 6)) hx hb dX0_words_18 (by decide) ?_
    refine lv_isub hx hb dX0_words_20 ?_
    refine zz_i (z := (nI (ni - 6))) (pk_sub (by omega)) ?_
    refine lv_ishl hx hb dX0_words_21 ?_
    exact W.iret (v := ((nI 1) <<< ((nI (ni - 6)) &&& 31))) hx hb hr (fun t_9 ht_9 hW_9 => ⟨((nI 1) <<< ((nI (ni - 6)) &&& 31)), rfl, (by rw [zs_shl1 _ (by omega), wordsN, if_neg (by omega)]), ht_9⟩) (fun q h => nomatch h) dX0_words_22
  · skip
    rw [zc_lt (by omega) (by omega)] at c_6
    refine lv_iconst (v := (nI 1)) hx hb dX0_words_9 (by decide) ?_
    refine lv_goto (tgt := 22) hx hb dX0_words_10 (by decide) ?_
    exact W.iret (v := (nI 1)) hx hb hr (fun t_9 ht_9 hW_9 => ⟨(nI 1), rfl, (by rw [wordsN, if_pos (by omega)]), ht_9⟩) (fun q h => nomatch h) dX0_words_22

set_option maxHeartbeats 4000000 in
set_option maxRecDepth 100000 in
theorem c_X0_mask (l : Launch) (D : va_G) (cI cJ cZ : ClassId) (qc : Nat) (qk : Nat) (q0 : Nat) (q1 : Nat) (qo : Nat) (qv : Nat) (kd : Nat → Int32) (s0 : Nat → Int32) (s1 : Nat → Int32) (on : Nat → Int32) (vl : Nat → Int64) (n : Nat) (ni : Nat) (no : Nat) (hni : ni ≤ 10) : Met l yX0_mask wsX0_mask ({ frames := 0, cells := 0, slots := 0, locals := 0 } : Room) (va_Pc [.ref qc] (PR D cI cJ cZ [(qc, .inr (0, [.ref qk, .ref q0, .ref q1, .ref qo, .ref qv, .int (nI n), .int (nI ni), .int (nI no)])), (qk, .inl (cI, 100, .inl kd)), (q0, .inl (cI, 100, .inl s0)), (q1, .inl (cI, 100, .inl s1)), (qo, .inl (cI, 12, .inl on)), (qv, .inl (cJ, 1600, .inr (.inl vl)))])) (vp_Sl (fun r_9 : Int64 => r_9 = (maskW ni))) 0 0 (fun _ => False) := by
  refine Met.ofW (cc := cX0_mask) (maxL := 1) (ret := (some .long)) (by decide) rfl ?_
  intro p e s m args below meth c s₁ B hml hv
  obtain ⟨rfl, hP, hK, hNB⟩ := hv
  have hx := B.exec
  have hb := B.bytes
  have hr := B.returns
  have hts := atoms_spec (ws := wsX0_mask) B.pre
  have hown : s.vm.findClass RX0 = some m.cls := findClass_of_methodNamed B.named
  have hlocks := B.notSynchronized
  have hiX0 : ∀ w ∈ u_ws RX0 TX0 8, w ∈ wsX0_mask := by decide +kernel
  have hl := lv_entry ([.ref qc]) (n := 1) (Nat.le_of_ble_eq_true rfl)
  rw [lg_entry_eq]
  generalize (lg_sl ([.ref qc]) ++ List.replicate (1 - (lg_sl ([.ref qc])).length) Slot.unset).toArray = ls at hl ⊢
  have hl : lv_has ls 1 [(0, .ref qc)] := hl
  refine lv_aload_n hx hb dX0_mask_0 rfl (lv_at hl 0 rfl) ?_
  refine va_get (D := D) (ci := 0) (v := .int (nI ni)) (C := RX0) (T := TX0) (N := 8) hx hb hts hiX0 hown hK hP 0 rfl rfl 6 (by decide) (hts (.fieldLink RX0 32 "FaultSearch$Chip" "inputs" "I") (by decide +kernel)) (fun _ h9 => h9) rfl dX0_mask_1 ?_
  refine lv_bipush (v := (nI 6)) hx hb dX0_mask_4 (by decide) ?_
  refine lv_icmp_lt (tgt := 15) hx hb dX0_mask_6 (by decide) (fun c_6 => ?_) (fun c_6 => ?_)
  · skip
    rw [zc_lt (by omega) (by omega)] at c_6
    refine lv_lconst (v := 1) hx hb dX0_mask_15 (by decide) ?_
    refine lv_iconst (v := (nI 1)) hx hb dX0_mask_16 (by decide) ?_
    refine lv_aload_n hx hb dX0_mask_17 rfl (lv_at hl 0 rfl) ?_
    refine va_get (D := D) (ci := 0) (v := .int (nI ni)) (C := RX0) (T := TX0) (N := 8) hx hb hts hiX0 hown hK hP 0 rfl rfl 6 (by decide) (hts (.fieldLink RX0 32 "FaultSearch$Chip" "inputs" "I") (by decide +kernel)) (fun _ h9 => h9) rfl dX0_mask_18 ?_
    refine lv_ishl hx hb dX0_mask_21 ?_
    refine zz_i (z := (nI (2 ^ ni))) (zs_shl1 _ (by omega)) ?_
    refine lv_lshl hx hb dX0_mask_22 rfl ?_
    refine lv_lconst (v := 1) hx hb dX0_mask_23 (by decide) ?_
    refine lv_lsub hx hb dX0_mask_24 ?_
    exact W.lret (v := ((1 <<< ((nI (2 ^ ni)).toInt64 &&& 63)) - 1)) hx hb hr (fun t_9 ht_9 hW_9 => ⟨((1 <<< ((nI (2 ^ ni)).toInt64 &&& 63)) - 1), rfl, (by rw [maskW, if_neg (by omega)]), ht_9⟩) (fun q h => nomatch h) dX0_mask_25
  · skip
    rw [zc_lt (by omega) (by omega)] at c_6
    refine lv_ldc2 (v := (-1)) hx hb hown (hts (.constantLong RX0 53 (-1)) (by decide +kernel)) dX0_mask_9 ?_
    refine lv_goto (tgt := 25) hx hb dX0_mask_12 (by decide) ?_
    exact W.lret (v := (-1)) hx hb hr (fun t_9 ht_9 hW_9 => ⟨(-1), rfl, (by rw [maskW, if_pos (by omega)]), ht_9⟩) (fun q h => nomatch h) dX0_mask_25

set_option maxHeartbeats 4000000 in
set_option maxRecDepth 100000 in
theorem c_X0_known (l : Launch) (D : va_G) (cI cJ cZ : ClassId) (qc : Nat) (qk : Nat) (q0 : Nat) (q1 : Nat) (qo : Nat) (qv : Nat) (kd : Nat → Int32) (s0 : Nat → Int32) (s1 : Nat → Int32) (on : Nat → Int32) (vl : Nat → Int64) (n : Nat) (ni : Nat) (no : Nat) (a : Int32) (hni : ni ≤ 10) : Met l yX0_known wsX0_known ({ frames := 0, cells := 0, slots := 0, locals := 0 } : Room) (va_Pc [.ref qc, .int a] (PR D cI cJ cZ [(qc, .inr (0, [.ref qk, .ref q0, .ref q1, .ref qo, .ref qv, .int (nI n), .int (nI ni), .int (nI no)])), (qk, .inl (cI, 100, .inl kd)), (q0, .inl (cI, 100, .inl s0)), (q1, .inl (cI, 100, .inl s1)), (qo, .inl (cI, 12, .inl on)), (qv, .inl (cJ, 1600, .inr (.inl vl)))])) (vp_Si (fun r_9 : Int32 => r_9 = (nI (knownN ni a)))) 0 0 (fun _ => False) := by
  refine Met.ofW (cc := cX0_known) (maxL := 2) (ret := (some .int)) (by decide) rfl ?_
  intro p e s m args below meth c s₁ B hml hv
  obtain ⟨rfl, hP, hK, hNB⟩ := hv
  have hx := B.exec
  have hb := B.bytes
  have hr := B.returns
  have hts := atoms_spec (ws := wsX0_known) B.pre
  have hown : s.vm.findClass RX0 = some m.cls := findClass_of_methodNamed B.named
  have hlocks := B.notSynchronized
  have hiX0 : ∀ w ∈ u_ws RX0 TX0 8, w ∈ wsX0_known := by decide +kernel
  have hl := lv_entry ([.ref qc, .int a]) (n := 2) (Nat.le_of_ble_eq_true rfl)
  rw [lg_entry_eq]
  generalize (lg_sl ([.ref qc, .int a]) ++ List.replicate (2 - (lg_sl ([.ref qc, .int a])).length) Slot.unset).toArray = ls at hl ⊢
  have hl : lv_has ls 2 [(0, .ref qc), (1, .int a)] := hl
  refine lv_iload_n hx hb dX0_known_0 rfl (lv_at hl 1 rfl) ?_
  refine lv_iconst (v := (nI 1)) hx hb dX0_known_1 (by decide) ?_
  refine lv_aload_n hx hb dX0_known_2 rfl (lv_at hl 0 rfl) ?_
  refine va_get (D := D) (ci := 0) (v := .int (nI ni)) (C := RX0) (T := TX0) (N := 8) hx hb hts hiX0 hown hK hP 0 rfl rfl 6 (by decide) (hts (.fieldLink RX0 32 "FaultSearch$Chip" "inputs" "I") (by decide +kernel)) (fun _ h9 => h9) rfl dX0_known_3 ?_
  refine lv_ishl hx hb dX0_known_6 ?_
  refine zz_i (z := (nI (2 ^ ni))) (zs_shl1 _ (by omega)) ?_
  refine lv_iconst (v := (nI 1)) hx hb dX0_known_7 (by decide) ?_
  refine lv_isub hx hb dX0_known_8 ?_
  refine lv_iand hx hb dX0_known_9 ?_
  refine zz_i (z := (nI (knownN ni a))) (zs_known hni a) ?_
  exact W.iret (v := (nI (knownN ni a))) hx hb hr (fun t_9 ht_9 hW_9 => ⟨(nI (knownN ni a)), rfl, rfl, ht_9⟩) (fun q h => nomatch h) dX0_known_10

set_option maxHeartbeats 4000000 in
set_option maxRecDepth 100000 in
theorem c_X0_addOutput (l : Launch) (D : va_G) (cI cJ cZ : ClassId) (qc : Nat) (qk : Nat) (q0 : Nat) (q1 : Nat) (qo : Nat) (qv : Nat) (kd : Nat → Int32) (s0 : Nat → Int32) (s1 : Nat → Int32) (on : Nat → Int32) (vl : Nat → Int64) (n : Nat) (ni : Nat) (no : Nat) (a : Int32) (sz : Nat) (A : Nat → Prop) (hAe : A = va_A [(qc, .inr (0, [.ref qk, .ref q0, .ref q1, .ref qo, .ref qv, .int (nI n), .int (nI ni), .int (nI no)])), (qk, .inl (cI, 100, .inl kd)), (q0, .inl (cI, 100, .inl s0)), (q1, .inl (cI, 100, .inl s1)), (qo, .inl (cI, 12, .inl on)), (qv, .inl (cJ, 1600, .inr (.inl vl)))] sz) (hno : no < 12) : Met l yX0_addOutput wsX0_addOutput ({ frames := 0, cells := 0, slots := 0, locals := 0 } : Room) (va_Pc [.ref qc, .int a] (PW D cI cJ cZ [(qc, .inr (0, [.ref qk, .ref q0, .ref q1, .ref qo, .ref qv, .int (nI n), .int (nI ni), .int (nI no)])), (qk, .inl (cI, 100, .inl kd)), (q0, .inl (cI, 100, .inl s0)), (q1, .inl (cI, 100, .inl s1)), (qo, .inl (cI, 12, .inl on)), (qv, .inl (cJ, 1600, .inr (.inl vl)))] sz)) (va_Qi (fun (r_9 : Int32) (_u9 : Unit) => r_9 = (nI no)) (fun (_u9 : Unit) t => PQ D A [(qc, .inr (0, [.ref qk, .ref q0, .ref q1, .ref qo, .ref qv, .int (nI n), .int (nI ni), .int (nI (no + 1))])), (qk, .inl (cI, 100, .inl kd)), (q0, .inl (cI, 100, .inl s0)), (q1, .inl (cI, 100, .inl s1)), (qo, .inl (cI, 12, .inl (upd on no a))), (qv, .inl (cJ, 1600, .inr (.inl vl)))] t) A) 0 0 A := by
  refine Met.ofW (cc := cX0_addOutput) (maxL := 3) (ret := (some .int)) (by decide) rfl ?_
  intro p e s m args below meth c s₁ B hml hv
  obtain ⟨rfl, hsz, ⟨hP, hK, hNB⟩, hD0⟩ := hv
  have hx := B.exec
  have hb := B.bytes
  have hr := B.returns
  have hts := atoms_spec (ws := wsX0_addOutput) B.pre
  have hown : s.vm.findClass RX0 = some m.cls := findClass_of_methodNamed B.named
  have hlocks := B.notSynchronized
  have hiX0 : ∀ w ∈ u_ws RX0 TX0 8, w ∈ wsX0_addOutput := by decide +kernel
  subst hsz
  have hD : va_D A [(qc, .inr (0, [.ref qk, .ref q0, .ref q1, .ref qo, .ref qv, .int (nI n), .int (nI ni), .int (nI no)])), (qk, .inl (cI, 100, .inl kd)), (q0, .inl (cI, 100, .inl s0)), (q1, .inl (cI, 100, .inl s1)), (qo, .inl (cI, 12, .inl on)), (qv, .inl (cJ, 1600, .inr (.inl vl)))] := by rw [hAe]; exact hD0.self
  have hA : ∀ q : Nat, s.heap.size ≤ q → A q := fun q h => by rw [hAe]; exact Or.inr h
  have hS : va_S A s.heap s.heap [] := va_S.rf
  have hl := lv_entry ([.ref qc, .int a]) (n := 3) (Nat.le_of_ble_eq_true rfl)
  rw [lg_entry_eq]
  generalize (lg_sl ([.ref qc, .int a]) ++ List.replicate (3 - (lg_sl ([.ref qc, .int a])).length) Slot.unset).toArray = ls at hl ⊢
  have hl : lv_has ls 3 [(0, .ref qc), (1, .int a)] := hl
  refine lv_aload_n hx hb dX0_addOutput_0 rfl (lv_at hl 0 rfl) ?_
  refine va_get (D := D) (ci := 0) (v := .int (nI no)) (C := RX0) (T := TX0) (N := 8) hx hb hts hiX0 hown hK hP 0 rfl rfl 7 (by decide) (hts (.fieldLink RX0 35 "FaultSearch$Chip" "outputs" "I") (by decide +kernel)) (fun _ h9 => h9) rfl dX0_addOutput_1 ?_
  refine lv_istore_n (lv' := [(2, .int (nI no)), (0, .ref qc), (1, .int a)]) hx hb dX0_addOutput_4 rfl hl (by decide) rfl (fun ls hl => ?_)
  refine lv_aload_n hx hb dX0_addOutput_5 rfl (lv_at hl 1 rfl) ?_
  refine va_get (D := D) (ci := 0) (v := .ref qo) (C := RX0) (T := TX0) (N := 8) hx hb hts hiX0 hown hK hP 0 rfl rfl 3 (by decide) (hts (.fieldLink RX0 21 "FaultSearch$Chip" "outputNets" "[I") (by decide +kernel)) (fun _ h9 => h9) rfl dX0_addOutput_6 ?_
  refine lv_iload_n hx hb dX0_addOutput_9 rfl (lv_at hl 0 rfl) ?_
  refine lv_iload_n hx hb dX0_addOutput_10 rfl (lv_at hl 2 rfl) ?_
  refine zz_iast hx hb hK hP hD hS 4 0 rfl rfl (n := 12) (j := no) (by omega) (by decide) dX0_addOutput_11 (fun H locs hP hD hS => ?_)
  have hP : va_P D vwCl [(qc, .inr (0, [.ref qk, .ref q0, .ref q1, .ref qo, .ref qv, .int (nI n), .int (nI ni), .int (nI no)])), (qk, .inl (cI, 100, .inl kd)), (q0, .inl (cI, 100, .inl s0)), (q1, .inl (cI, 100, .inl s1)), (qo, .inl (cI, 12, .inl (upd on no a))), (qv, .inl (cJ, 1600, .inr (.inl vl)))] H := hP
  have hD : va_D A [(qc, .inr (0, [.ref qk, .ref q0, .ref q1, .ref qo, .ref qv, .int (nI n), .int (nI ni), .int (nI no)])), (qk, .inl (cI, 100, .inl kd)), (q0, .inl (cI, 100, .inl s0)), (q1, .inl (cI, 100, .inl s1)), (qo, .inl (cI, 12, .inl (upd on no a))), (qv, .inl (cJ, 1600, .inr (.inl vl)))] := hD
  refine lv_aload_n hx hb dX0_addOutput_12 rfl (lv_at hl 1 rfl) ?_
  refine lv_dup hx hb dX0_addOutput_13 rfl ?_
  refine va_get (D := D) (ci := 0) (v := .int (nI no)) (C := RX0) (T := TX0) (N := 8) hx hb hts hiX0 hown hK hP 0 rfl rfl 7 (by decide) (hts (.fieldLink RX0 35 "FaultSearch$Chip" "outputs" "I") (by decide +kernel)) (fun _ h9 => h9) rfl dX0_addOutput_14 ?_
  refine lv_iconst (v := (nI 1)) hx hb dX0_addOutput_17 (by decide) ?_
  refine lv_iadd hx hb dX0_addOutput_18 ?_
  refine zz_i (z := (nI (no + 1))) (nI_add _ _) ?_
  refine va_put (D := D) (ci := 0) (v := .int (nI (no + 1))) (ty := .int) (C := RX0) (T := TX0) (N := 8) hx hb hts hiX0 tyX0 tyX0_ok nmX0 hown hK hP hD hS 0 rfl rfl 7 (by decide) (hts (.fieldLink RX0 35 "FaultSearch$Chip" "outputs" "I") (by decide +kernel)) (fun _ h9 => h9) rfl (by decide +kernel) rfl rfl (Nat.le_of_ble_eq_true rfl) dX0_addOutput_19 (fun H locs hP hD hS => ?_)
  have hP : va_P D vwCl [(qc, .inr (0, [.ref qk, .ref q0, .ref q1, .ref qo, .ref qv, .int (nI n), .int (nI ni), .int (nI (no + 1))])), (qk, .inl (cI, 100, .inl kd)), (q0, .inl (cI, 100, .inl s0)), (q1, .inl (cI, 100, .inl s1)), (qo, .inl (cI, 12, .inl (upd on no a))), (qv, .inl (cJ, 1600, .inr (.inl vl)))] H := hP
  have hD : va_D A [(qc, .inr (0, [.ref qk, .ref q0, .ref q1, .ref qo, .ref qv, .int (nI n), .int (nI ni), .int (nI (no + 1))])), (qk, .inl (cI, 100, .inl kd)), (q0, .inl (cI, 100, .inl s0)), (q1, .inl (cI, 100, .inl s1)), (qo, .inl (cI, 12, .inl (upd on no a))), (qv, .inl (cJ, 1600, .inr (.inl vl)))] := hD
  refine lv_iload_n hx hb dX0_addOutput_22 rfl (lv_at hl 0 rfl) ?_
  exact W.iret (v := (nI no)) hx hb hr (fun t_9 ht_9 hW_9 => ⟨⟨(nI no), (), rfl, rfl, ⟨by rw [ht_9]; exact hP, hD⟩⟩, hS.F ht_9⟩) hS.2.2 dX0_addOutput_23

set_option maxHeartbeats 4000000 in
set_option maxRecDepth 100000 in
theorem c_X0_addGate (l : Launch) (D : va_G) (cI cJ cZ : ClassId) (qc : Nat) (qk : Nat) (q0 : Nat) (q1 : Nat) (qo : Nat) (qv : Nat) (kd : Nat → Int32) (s0 : Nat → Int32) (s1 : Nat → Int32) (on : Nat → Int32) (vl : Nat → Int64) (n : Nat) (ni : Nat) (no : Nat) (k : Int32) (a : Nat) (b : Nat) (sz : Nat) (A : Nat → Prop) (hAe : A = va_A [(qc, .inr (0, [.ref qk, .ref q0, .ref q1, .ref qo, .ref qv, .int (nI n), .int (nI ni), .int (nI no)])), (qk, .inl (cI, 100, .inl kd)), (q0, .inl (cI, 100, .inl s0)), (q1, .inl (cI, 100, .inl s1)), (qo, .inl (cI, 12, .inl on)), (qv, .inl (cJ, 1600, .inr (.inl vl)))] sz) (hn : n < 100) (ha : a < n) (hb2 : b < n) : Met l yX0_addGate wsX0_addGate ({ frames := 1, cells := 0, slots := 0, locals := 24 } : Room) (va_Pc [.ref qc, .int k, .int (nI a), .int (nI b)] (PW D cI cJ cZ [(qc, .inr (0, [.ref qk, .ref q0, .ref q1, .ref qo, .ref qv, .int (nI n), .int (nI ni), .int (nI no)])), (qk, .inl (cI, 100, .inl kd)), (q0, .inl (cI, 100, .inl s0)), (q1, .inl (cI, 100, .inl s1)), (qo, .inl (cI, 12, .inl on)), (qv, .inl (cJ, 1600, .inr (.inl vl)))] sz)) (va_Qi (fun (r_9 : Int32) (_u9 : Unit) => r_9 = (nI n)) (fun (_u9 : Unit) t => PQ D A [(qc, .inr (0, [.ref qk, .ref q0, .ref q1, .ref qo, .ref qv, .int (nI (n + 1)), .int (nI ni), .int (nI no)])), (qk, .inl (cI, 100, .inl (upd kd n k))), (q0, .inl (cI, 100, .inl (upd s0 n (nI a)))), (q1, .inl (cI, 100, .inl (upd s1 n (nI b)))), (qo, .inl (cI, 12, .inl on)), (qv, .inl (cJ, 1600, .inr (.inl (addV k a b n vl 16))))] t) A) 0 0 A := by
  refine Met.ofW (cc := cX0_addGate) (maxL := 6) (ret := (some .int)) (by decide) rfl ?_
  intro p e s m args below meth c s₁ B hml hv
  obtain ⟨rfl, hsz, ⟨hP, hK, hNB⟩, hD0⟩ := hv
  have hx := B.exec
  have hb := B.bytes
  have hr := B.returns
  have hts := atoms_spec (ws := wsX0_addGate) B.pre
  have hown : s.vm.findClass RX0 = some m.cls := findClass_of_methodNamed B.named
  have hlocks := B.notSynchronized
  have hiX0 : ∀ w ∈ u_ws RX0 TX0 8, w ∈ wsX0_addGate := by decide +kernel
  subst hsz
  have hD : va_D A [(qc, .inr (0, [.ref qk, .ref q0, .ref q1, .ref qo, .ref qv, .int (nI n), .int (nI ni), .int (nI no)])), (qk, .inl (cI, 100, .inl kd)), (q0, .inl (cI, 100, .inl s0)), (q1, .inl (cI, 100, .inl s1)), (qo, .inl (cI, 12, .inl on)), (qv, .inl (cJ, 1600, .inr (.inl vl)))] := by rw [hAe]; exact hD0.self
  have hA : ∀ q : Nat, s.heap.size ≤ q → A q := fun q h => by rw [hAe]; exact Or.inr h
  have hS : va_S A s.heap s.heap [] := va_S.rf
  have hl := lv_entry ([.ref qc, .int k, .int (nI a), .int (nI b)]) (n := 6) (Nat.le_of_ble_eq_true rfl)
  rw [lg_entry_eq]
  generalize (lg_sl ([.ref qc, .int k, .int (nI a), .int (nI b)]) ++ List.replicate (6 - (lg_sl ([.ref qc, .int k, .int (nI a), .int (nI b)])).length) Slot.unset).toArray = ls at hl ⊢
  have hl : lv_has ls 6 [(0, .ref qc), (1, .int k), (2, .int (nI a)), (3, .int (nI b))] := hl
  refine lv_aload_n hx hb dX0_addGate_0 rfl (lv_at hl 0 rfl) ?_
  refine va_get (D := D) (ci := 0) (v := .int (nI n)) (C := RX0) (T := TX0) (N := 8) hx hb hts hiX0 hown hK hP 0 rfl rfl 5 (by decide) (hts (.fieldLink RX0 28 "FaultSearch$Chip" "nets" "I") (by decide +kernel)) (fun _ h9 => h9) rfl dX0_addGate_1 ?_
  refine lv_istore (lv' := [(4, .int (nI n)), (0, .ref qc), (1, .int k), (2, .int (nI a)), (3, .int (nI b))]) hx hb dX0_addGate_4 hl (by decide) rfl (fun ls hl => ?_)
  refine lv_aload_n hx hb dX0_addGate_6 rfl (lv_at hl 1 rfl) ?_
  refine va_get (D := D) (ci := 0) (v := .ref qk) (C := RX0) (T := TX0) (N := 8) hx hb hts hiX0 hown hK hP 0 rfl rfl 0 (by decide) (hts (.fieldLink RX0 9 "FaultSearch$Chip" "kinds" "[I") (by decide +kernel)) (fun _ h9 => h9) rfl dX0_addGate_7 ?_
  refine lv_iload hx hb dX0_addGate_10 (lv_at hl 0 rfl) ?_
  refine lv_iload_n hx hb dX0_addGate_12 rfl (lv_at hl 2 rfl) ?_
  refine zz_iast hx hb hK hP hD hS 1 0 rfl rfl (n := 100) (j := n) (by omega) (by decide) dX0_addGate_13 (fun H locs hP hD hS => ?_)
  have hP : va_P D vwCl [(qc, .inr (0, [.ref qk, .ref q0, .ref q1, .ref qo, .ref qv, .int (nI n), .int (nI ni), .int (nI no)])), (qk, .inl (cI, 100, .inl (upd kd n k))), (q0, .inl (cI, 100, .inl s0)), (q1, .inl (cI, 100, .inl s1)), (qo, .inl (cI, 12, .inl on)), (qv, .inl (cJ, 1600, .inr (.inl vl)))] H := hP
  have hD : va_D A [(qc, .inr (0, [.ref qk, .ref q0, .ref q1, .ref qo, .ref qv, .int (nI n), .int (nI ni), .int (nI no)])), (qk, .inl (cI, 100, .inl (upd kd n k))), (q0, .inl (cI, 100, .inl s0)), (q1, .inl (cI, 100, .inl s1)), (qo, .inl (cI, 12, .inl on)), (qv, .inl (cJ, 1600, .inr (.inl vl)))] := hD
  refine lv_aload_n hx hb dX0_addGate_14 rfl (lv_at hl 1 rfl) ?_
  refine va_get (D := D) (ci := 0) (v := .ref q0) (C := RX0) (T := TX0) (N := 8) hx hb hts hiX0 hown hK hP 0 rfl rfl 1 (by decide) (hts (.fieldLink RX0 15 "FaultSearch$Chip" "sources0" "[I") (by decide +kernel)) (fun _ h9 => h9) rfl dX0_addGate_15 ?_
  refine lv_iload hx hb dX0_addGate_18 (lv_at hl 0 rfl) ?_
  refine lv_iload_n hx hb dX0_addGate_20 rfl (lv_at hl 3 rfl) ?_
  refine zz_iast hx hb hK hP hD hS 2 0 rfl rfl (n := 100) (j := n) (by omega) (by decide) dX0_addGate_21 (fun H locs hP hD hS => ?_)
  have hP : va_P D vwCl [(qc, .inr (0, [.ref qk, .ref q0, .ref q1, .ref qo, .ref qv, .int (nI n), .int (nI ni), .int (nI no)])), (qk, .inl (cI, 100, .inl (upd kd n k))), (q0, .inl (cI, 100, .inl (upd s0 n (nI a)))), (q1, .inl (cI, 100, .inl s1)), (qo, .inl (cI, 12, .inl on)), (qv, .inl (cJ, 1600, .inr (.inl vl)))] H := hP
  have hD : va_D A [(qc, .inr (0, [.ref qk, .ref q0, .ref q1, .ref qo, .ref qv, .int (nI n), .int (nI ni), .int (nI no)])), (qk, .inl (cI, 100, .inl (upd kd n k))), (q0, .inl (cI, 100, .inl (upd s0 n (nI a)))), (q1, .inl (cI, 100, .inl s1)), (qo, .inl (cI, 12, .inl on)), (qv, .inl (cJ, 1600, .inr (.inl vl)))] := hD
  refine lv_aload_n hx hb dX0_addGate_22 rfl (lv_at hl 1 rfl) ?_
  refine va_get (D := D) (ci := 0) (v := .ref q1) (C := RX0) (T := TX0) (N := 8) hx hb hts hiX0 hown hK hP 0 rfl rfl 2 (by decide) (hts (.fieldLink RX0 18 "FaultSearch$Chip" "sources1" "[I") (by decide +kernel)) (fun _ h9 => h9) rfl dX0_addGate_23 ?_
  refine lv_iload hx hb dX0_addGate_26 (lv_at hl 0 rfl) ?_
  refine lv_iload_n hx hb dX0_addGate_28 rfl (lv_at hl 4 rfl) ?_
  refine zz_iast hx hb hK hP hD hS 3 0 rfl rfl (n := 100) (j := n) (by omega) (by decide) dX0_addGate_29 (fun H locs hP hD hS => ?_)
  have hP : va_P D vwCl [(qc, .inr (0, [.ref qk, .ref q0, .ref q1, .ref qo, .ref qv, .int (nI n), .int (nI ni), .int (nI no)])), (qk, .inl (cI, 100, .inl (upd kd n k))), (q0, .inl (cI, 100, .inl (upd s0 n (nI a)))), (q1, .inl (cI, 100, .inl (upd s1 n (nI b)))), (qo, .inl (cI, 12, .inl on)), (qv, .inl (cJ, 1600, .inr (.inl vl)))] H := hP
  have hD : va_D A [(qc, .inr (0, [.ref qk, .ref q0, .ref q1, .ref qo, .ref qv, .int (nI n), .int (nI ni), .int (nI no)])), (qk, .inl (cI, 100, .inl (upd kd n k))), (q0, .inl (cI, 100, .inl (upd s0 n (nI a)))), (q1, .inl (cI, 100, .inl (upd s1 n (nI b)))), (qo, .inl (cI, 12, .inl on)), (qv, .inl (cJ, 1600, .inr (.inl vl)))] := hD
  refine lv_iconst (v := (nI 0)) hx hb dX0_addGate_30 (by decide) ?_
  refine lv_istore (lv' := [(5, .int (nI 0)), (4, .int (nI n)), (0, .ref qc), (1, .int k), (2, .int (nI a)), (3, .int (nI b))]) hx hb dX0_addGate_31 hl (by decide) rfl (fun ls hl => ?_)
  have loop33 : ∀ (n33 : Nat) (i : Nat) (v : Nat → Int64) (hi : i ≤ 16) (hv : v = addV k a b n vl i), 16 - i < n33 → ∀ (H : Heap) (locs : List Loc), va_P D vwCl [(qc, .inr (0, [.ref qk, .ref q0, .ref q1, .ref qo, .ref qv, .int (nI n), .int (nI ni), .int (nI no)])), (qk, .inl (cI, 100, .inl (upd kd n k))), (q0, .inl (cI, 100, .inl (upd s0 n (nI a)))), (q1, .inl (cI, 100, .inl (upd s1 n (nI b)))), (qo, .inl (cI, 12, .inl on)), (qv, .inl (cJ, 1600, .inr (.inl v)))] H → va_D A [(qc, .inr (0, [.ref qk, .ref q0, .ref q1, .ref qo, .ref qv, .int (nI n), .int (nI ni), .int (nI no)])), (qk, .inl (cI, 100, .inl (upd kd n k))), (q0, .inl (cI, 100, .inl (upd s0 n (nI a)))), (q1, .inl (cI, 100, .inl (upd s1 n (nI b)))), (qo, .inl (cI, 12, .inl on)), (qv, .inl (cJ, 1600, .inr (.inl v)))] → va_S A s.heap H locs → ∀ (ls : Array Slot), lv_has ls 6 [(0, .ref qc), (1, .int k), (2, .int (nI a)), (3, .int (nI b)), (4, .int (nI n)), (5, .int (nI i))] → W p l e (headSpec wsX0_addGate ({ frames := 1, cells := 0, slots := 0, locals := 24 } : Room)).room s m ([.ref qc, .int k, .int (nI a), .int (nI b)] : List Value).toArray below meth c H locs 0 0 (MQ below (va_Qi (fun (r_9 : Int32) (_u9 : Unit) => r_9 = (nI n)) (fun (_u9 : Unit) t => PQ D A [(qc, .inr (0, [.ref qk, .ref q0, .ref q1, .ref qo, .ref qv, .int (nI (n + 1)), .int (nI ni), .int (nI no)])), (qk, .inl (cI, 100, .inl (upd kd n k))), (q0, .inl (cI, 100, .inl (upd s0 n (nI a)))), (q1, .inl (cI, 100, .inl (upd s1 n (nI b)))), (qo, .inl (cI, 12, .inl on)), (qv, .inl (cJ, 1600, .inr (.inl (addV k a b n vl 16))))] t) A) ([.ref qc, .int k, .int (nI a), .int (nI b)] : List Value).toArray s 0 0 A) (F0 m 33 ls []) := by
    intro n33
    induction n33 with
    | zero => intro i v hi hv hm; exact absurd hm (Nat.not_lt_zero _)
    | succ n33 ih33 =>
      intro i v hi hv hm33 H locs hP hD hS ls hl
      refine lv_iload hx hb dX0_addGate_33 (lv_at hl 5 rfl) ?_
      refine lv_bipush (v := (nI 16)) hx hb dX0_addGate_35 (by decide) ?_
      refine lv_icmp_ge (tgt := 77) hx hb dX0_addGate_37 (by decide) (fun c_37 => ?_) (fun c_37 => ?_)
      · skip
        rw [zc_le (by omega) (by omega)] at c_37
        refine lv_aload_n hx hb dX0_addGate_77 rfl (lv_at hl 0 rfl) ?_
        refine lv_dup hx hb dX0_addGate_78 rfl ?_
        refine va_get (D := D) (ci := 0) (v := .int (nI n)) (C := RX0) (T := TX0) (N := 8) hx hb hts hiX0 hown hK hP 0 rfl rfl 5 (by decide) (hts (.fieldLink RX0 28 "FaultSearch$Chip" "nets" "I") (by decide +kernel)) (fun _ h9 => h9) rfl dX0_addGate_79 ?_
        refine lv_iconst (v := (nI 1)) hx hb dX0_addGate_82 (by decide) ?_
        refine lv_iadd hx hb dX0_addGate_83 ?_
        refine zz_i (z := (nI (n + 1))) (nI_add _ _) ?_
        refine va_put (D := D) (ci := 0) (v := .int (nI (n + 1))) (ty := .int) (C := RX0) (T := TX0) (N := 8) hx hb hts hiX0 tyX0 tyX0_ok nmX0 hown hK hP hD hS 0 rfl rfl 5 (by decide) (hts (.fieldLink RX0 28 "FaultSearch$Chip" "nets" "I") (by decide +kernel)) (fun _ h9 => h9) rfl (by decide +kernel) rfl rfl (Nat.le_of_ble_eq_true rfl) dX0_addGate_84 (fun H locs hP hD hS => ?_)
        have hP : va_P D vwCl [(qc, .inr (0, [.ref qk, .ref q0, .ref q1, .ref qo, .ref qv, .int (nI (n + 1)), .int (nI ni), .int (nI no)])), (qk, .inl (cI, 100, .inl (upd kd n k))), (q0, .inl (cI, 100, .inl (upd s0 n (nI a)))), (q1, .inl (cI, 100, .inl (upd s1 n (nI b)))), (qo, .inl (cI, 12, .inl on)), (qv, .inl (cJ, 1600, .inr (.inl v)))] H := hP
        have hD : va_D A [(qc, .inr (0, [.ref qk, .ref q0, .ref q1, .ref qo, .ref qv, .int (nI (n + 1)), .int (nI ni), .int (nI no)])), (qk, .inl (cI, 100, .inl (upd kd n k))), (q0, .inl (cI, 100, .inl (upd s0 n (nI a)))), (q1, .inl (cI, 100, .inl (upd s1 n (nI b)))), (qo, .inl (cI, 12, .inl on)), (qv, .inl (cJ, 1600, .inr (.inl v)))] := hD
        refine lv_iload hx hb dX0_addGate_87 (lv_at hl 4 rfl) ?_
        obtain rfl : i = 16 := by omega
        subst hv
        exact W.iret (v := (nI n)) hx hb hr (fun t_9 ht_9 hW_9 => ⟨⟨(nI n), (), rfl, rfl, ⟨by rw [ht_9]; exact hP, hD⟩⟩, hS.F ht_9⟩) hS.2.2 dX0_addGate_89
      · skip
        rw [zc_le (by omega) (by omega)] at c_37
        refine lv_aload_n hx hb dX0_addGate_40 rfl (lv_at hl 0 rfl) ?_
        refine va_get (D := D) (ci := 0) (v := .ref qv) (C := RX0) (T := TX0) (N := 8) hx hb hts hiX0 hown hK hP 0 rfl rfl 4 (by decide) (hts (.fieldLink RX0 24 "FaultSearch$Chip" "values" "[J") (by decide +kernel)) (fun _ h9 => h9) rfl dX0_addGate_41 ?_
        refine lv_iload hx hb dX0_addGate_44 (lv_at hl 5 rfl) ?_
        refine lv_bipush (v := (nI 100)) hx hb dX0_addGate_46 (by decide) ?_
        refine lv_imul hx hb dX0_addGate_48 ?_
        refine zz_i (z := (nI (i * 100))) (pk_mul _ _) ?_
        refine lv_iload hx hb dX0_addGate_49 (lv_at hl 4 rfl) ?_
        refine lv_iadd hx hb dX0_addGate_51 ?_
        refine zz_i (z := (nI ((i * 100) + n))) (nI_add _ _) ?_
        refine lv_iload_n hx hb dX0_addGate_52 rfl (lv_at hl 1 rfl) ?_
        refine lv_aload_n hx hb dX0_addGate_53 rfl (lv_at hl 0 rfl) ?_
        refine lv_iload_n hx hb dX0_addGate_54 rfl (lv_at hl 2 rfl) ?_
        refine lv_iload hx hb dX0_addGate_55 (lv_at hl 5 rfl) ?_
        have hPc := hP.sub (ws' := [(qc, .inr (0, [.ref qk, .ref q0, .ref q1, .ref qo, .ref qv, .int (nI n), .int (nI ni), .int (nI no)])), (qk, .inl (cI, 100, .inl (upd kd n k))), (q0, .inl (cI, 100, .inl (upd s0 n (nI a)))), (q1, .inl (cI, 100, .inl (upd s1 n (nI b)))), (qo, .inl (cI, 12, .inl on)), (qv, .inl (cJ, 1600, .inr (.inl v)))]) [0, 1, 2, 3, 4, 5] rfl
        refine vp_callSl (va_runV (As := [.int (nI a), .int (nI i)]) (rest := [.int k, .int (nI ((i * 100) + n)), .ref qv]) ⟨hx, hb, hml, hown, hts⟩ (c_X0_wordOf l D cI cJ cZ qc qk q0 q1 qo qv (upd kd n k) (upd s0 n (nI a)) (upd s1 n (nI b)) on v n ni no a i (by omega) (by omega)) (cwV 2 hts gX0_addGate_X0_wordOf rfl rfl rfl (by decide +kernel) ⟨Nat.le_of_ble_eq_true rfl, Nat.le_of_ble_eq_true rfl⟩) ⟨PR.blind, va_recv hK hPc (ci := 0) (q0 := 0) rfl rfl, fun U hU hW => ⟨rfl, PR.to hPc hK hNB hU hW⟩⟩ rfl rfl hl.1 rfl (lv_room (Nat.le_of_ble_eq_true rfl)) dX0_addGate_57 ⟨Nat.le_of_ble_eq_true rfl, Nat.le_of_ble_eq_true rfl⟩).run (fun r_1 hrr_1 => ?_)
        subst hrr_1
        refine lv_aload_n hx hb dX0_addGate_60 rfl (lv_at hl 0 rfl) ?_
        refine lv_iload_n hx hb dX0_addGate_61 rfl (lv_at hl 3 rfl) ?_
        refine lv_iload hx hb dX0_addGate_62 (lv_at hl 5 rfl) ?_
        have hPc := hP.sub (ws' := [(qc, .inr (0, [.ref qk, .ref q0, .ref q1, .ref qo, .ref qv, .int (nI n), .int (nI ni), .int (nI no)])), (qk, .inl (cI, 100, .inl (upd kd n k))), (q0, .inl (cI, 100, .inl (upd s0 n (nI a)))), (q1, .inl (cI, 100, .inl (upd s1 n (nI b)))), (qo, .inl (cI, 12, .inl on)), (qv, .inl (cJ, 1600, .inr (.inl v)))]) [0, 1, 2, 3, 4, 5] rfl
        refine vp_callSl (va_runV (As := [.int (nI b), .int (nI i)]) (rest := [.long (v (i * 100 + a)), .int k, .int (nI ((i * 100) + n)), .ref qv]) ⟨hx, hb, hml, hown, hts⟩ (c_X0_wordOf l D cI cJ cZ qc qk q0 q1 qo qv (upd kd n k) (upd s0 n (nI a)) (upd s1 n (nI b)) on v n ni no b i (by omega) (by omega)) (cwV 2 hts gX0_addGate_X0_wordOf rfl rfl rfl (by decide +kernel) ⟨Nat.le_of_ble_eq_true rfl, Nat.le_of_ble_eq_true rfl⟩) ⟨PR.blind, va_recv hK hPc (ci := 0) (q0 := 0) rfl rfl, fun U hU hW => ⟨rfl, PR.to hPc hK hNB hU hW⟩⟩ rfl rfl hl.1 rfl (lv_room (Nat.le_of_ble_eq_true rfl)) dX0_addGate_64 ⟨Nat.le_of_ble_eq_true rfl, Nat.le_of_ble_eq_true rfl⟩).run (fun r_2 hrr_2 => ?_)
        subst hrr_2
        refine vp_callSl (va_runSN (As := [.int k, .long (v (i * 100 + a)), .long (v (i * 100 + b))]) (rest := [.int (nI ((i * 100) + n)), .ref qv]) ⟨hx, hb, hml, hown, hts⟩ (c_X4_gateWord l k (v (i * 100 + a)) (v (i * 100 + b))) ⟨(va_cnB 3 hts gX0_addGate_X4_gateWord_n49 rfl rfl rfl hNB.2.1 (hts (.initialized RX4) (by decide +kernel)) (by decide +kernel) ⟨Nat.le_of_ble_eq_true rfl, Nat.le_of_ble_eq_true rfl⟩), hts (.static yX4_gateWord) (by decide +kernel), trivial⟩ ⟨zt_blind, fun U hU hW => ⟨rfl, trivial⟩⟩ rfl rfl hl.1 rfl (lv_room (Nat.le_of_ble_eq_true rfl)) dX0_addGate_67 ⟨Nat.le_of_ble_eq_true rfl, Nat.le_of_ble_eq_true rfl⟩).run (fun r_3 hrr_3 => ?_)
        subst hrr_3
        refine zz_last hx hb hK hP hD hS 5 1 rfl rfl (n := 1600) (j := ((i * 100) + n)) (by omega) (by decide) dX0_addGate_70 (fun H locs hP hD hS => ?_)
        have hP : va_P D vwCl [(qc, .inr (0, [.ref qk, .ref q0, .ref q1, .ref qo, .ref qv, .int (nI n), .int (nI ni), .int (nI no)])), (qk, .inl (cI, 100, .inl (upd kd n k))), (q0, .inl (cI, 100, .inl (upd s0 n (nI a)))), (q1, .inl (cI, 100, .inl (upd s1 n (nI b)))), (qo, .inl (cI, 12, .inl on)), (qv, .inl (cJ, 1600, .inr (.inl (vp_updL v ((i * 100) + n) (gw k (v (i * 100 + a)) (v (i * 100 + b)))))))] H := hP
        have hD : va_D A [(qc, .inr (0, [.ref qk, .ref q0, .ref q1, .ref qo, .ref qv, .int (nI n), .int (nI ni), .int (nI no)])), (qk, .inl (cI, 100, .inl (upd kd n k))), (q0, .inl (cI, 100, .inl (upd s0 n (nI a)))), (q1, .inl (cI, 100, .inl (upd s1 n (nI b)))), (qo, .inl (cI, 12, .inl on)), (qv, .inl (cJ, 1600, .inr (.inl (vp_updL v ((i * 100) + n) (gw k (v (i * 100 + a)) (v (i * 100 + b)))))))] := hD
        refine lv_iinc (v := (nI (i + 1))) (lv' := [(5, .int (nI (i + 1))), (0, .ref qc), (1, .int k), (2, .int (nI a)), (3, .int (nI b)), (4, .int (nI n))]) hx hb dX0_addGate_71 hl (k := 5) rfl (nI_add _ 1) (by decide) rfl (fun ls hl => ?_)
        refine lv_goto (tgt := 33) hx hb dX0_addGate_74 (by decide) ?_
        exact ih33 (i + 1) (vp_updL v ((i * 100) + n) (gw k (v (i * 100 + a)) (v (i * 100 + b)))) (by omega) (by rw [hv]; rfl) (by omega) _ _ hP hD hS ls (lv_sub hl [1, 2, 3, 4, 5, 0] rfl)
  exact loop33 ((16 - 0) + 1) 0 vl (by omega) rfl (Nat.lt_succ_self _) _ _ hP hD hS ls (lv_sub hl [2, 3, 4, 5, 1, 0] rfl)

set_option maxHeartbeats 4000000 in
set_option maxRecDepth 100000 in
theorem c_X0_leastWith (l : Launch) (D : va_G) (cI cJ cZ : ClassId) (qc : Nat) (qk : Nat) (q0 : Nat) (q1 : Nat) (qo : Nat) (qv : Nat) (kd : Nat → Int32) (s0 : Nat → Int32) (s1 : Nat → Int32) (on : Nat → Int32) (vl : Nat → Int64) (n : Nat) (ni : Nat) (no : Nat) (j : Nat) (v : Nat) (hj : j < 100) (hni : ni ≤ 10) : Met l yX0_leastWith wsX0_leastWith ({ frames := 2, cells := 0, slots := 0, locals := 42 } : Room) (va_Pc [.ref qc, .int (nI j), .int (nI v)] (PR D cI cJ cZ [(qc, .inr (0, [.ref qk, .ref q0, .ref q1, .ref qo, .ref qv, .int (nI n), .int (nI ni), .int (nI no)])), (qk, .inl (cI, 100, .inl kd)), (q0, .inl (cI, 100, .inl s0)), (q1, .inl (cI, 100, .inl s1)), (qo, .inl (cI, 12, .inl on)), (qv, .inl (cJ, 1600, .inr (.inl vl)))])) (vp_Si (fun r_9 : Int32 => r_9 = (leastF (fun w => ((vl (w * 100 + j) ^^^ allW (nI v)) ^^^ (-1)) &&& maskW ni) (wordsN ni) 0))) 0 0 (fun _ => False) := by
  refine Met.ofW (cc := cX0_leastWith) (maxL := 6) (ret := (some .int)) (by decide) rfl ?_
  intro p e s m args below meth c s₁ B hml hv
  obtain ⟨rfl, hP, hK, hNB⟩ := hv
  have hx := B.exec
  have hb := B.bytes
  have hr := B.returns
  have hts := atoms_spec (ws := wsX0_leastWith) B.pre
  have hown : s.vm.findClass RX0 = some m.cls := findClass_of_methodNamed B.named
  have hlocks := B.notSynchronized
  have hl := lv_entry ([.ref qc, .int (nI j), .int (nI v)]) (n := 6) (Nat.le_of_ble_eq_true rfl)
  rw [lg_entry_eq]
  generalize (lg_sl ([.ref qc, .int (nI j), .int (nI v)]) ++ List.replicate (6 - (lg_sl ([.ref qc, .int (nI j), .int (nI v)])).length) Slot.unset).toArray = ls at hl ⊢
  have hl : lv_has ls 6 [(0, .ref qc), (1, .int (nI j)), (2, .int (nI v))] := hl
  have hw16 := wordsN_le hni
  refine lv_iconst (v := (nI 0)) hx hb dX0_leastWith_0 (by decide) ?_
  refine lv_istore_n (lv' := [(3, .int (nI 0)), (0, .ref qc), (1, .int (nI j)), (2, .int (nI v))]) hx hb dX0_leastWith_1 rfl hl (by decide) rfl (fun ls hl => ?_)
  have loop2 : ∀ (n2 : Nat) (i : Nat) (hi : i ≤ wordsN ni) (hg : leastF (fun w => ((vl (w * 100 + j) ^^^ allW (nI v)) ^^^ (-1)) &&& maskW ni) (wordsN ni) 0 = leastF (fun w => ((vl (w * 100 + j) ^^^ allW (nI v)) ^^^ (-1)) &&& maskW ni) (wordsN ni - i) i), wordsN ni - i < n2 → ∀ (ls : Array Slot), lv_has ls 6 [(0, .ref qc), (1, .int (nI j)), (2, .int (nI v)), (3, .int (nI i))] → W p l e (headSpec wsX0_leastWith ({ frames := 2, cells := 0, slots := 0, locals := 42 } : Room)).room s m ([.ref qc, .int (nI j), .int (nI v)] : List Value).toArray below meth c s.heap [] 0 0 (MQ below (vp_Si (fun r_9 : Int32 => r_9 = (leastF (fun w => ((vl (w * 100 + j) ^^^ allW (nI v)) ^^^ (-1)) &&& maskW ni) (wordsN ni) 0))) ([.ref qc, .int (nI j), .int (nI v)] : List Value).toArray s 0 0 (fun _ => False)) (F0 m 2 ls []) := by
    intro n2
    induction n2 with
    | zero => intro i hi hg hm; exact absurd hm (Nat.not_lt_zero _)
    | succ n2 ih2 =>
      intro i hi hg hm2 ls hl
      refine lv_iload_n hx hb dX0_leastWith_2 rfl (lv_at hl 3 rfl) ?_
      refine lv_aload_n hx hb dX0_leastWith_3 rfl (lv_at hl 0 rfl) ?_
      have hPc := hP.sub (ws' := [(qc, .inr (0, [.ref qk, .ref q0, .ref q1, .ref qo, .ref qv, .int (nI n), .int (nI ni), .int (nI no)])), (qk, .inl (cI, 100, .inl kd)), (q0, .inl (cI, 100, .inl s0)), (q1, .inl (cI, 100, .inl s1)), (qo, .inl (cI, 12, .inl on)), (qv, .inl (cJ, 1600, .inr (.inl vl)))]) [0, 1, 2, 3, 4, 5] rfl
      refine vp_callSi (va_runV (As := []) (rest := [.int (nI i)]) ⟨hx, hb, hml, hown, hts⟩ (c_X0_words l D cI cJ cZ qc qk q0 q1 qo qv kd s0 s1 on vl n ni no (by omega)) (cwV 0 hts gX0_leastWith_X0_words rfl rfl rfl (by decide +kernel) ⟨Nat.le_of_ble_eq_true rfl, Nat.le_of_ble_eq_true rfl⟩) ⟨PR.blind, va_recv hK hPc (ci := 0) (q0 := 0) rfl rfl, fun U hU hW => ⟨rfl, PR.to hPc hK hNB hU hW⟩⟩ rfl rfl hl.1 rfl (lv_room (Nat.le_of_ble_eq_true rfl)) dX0_leastWith_4 ⟨Nat.le_of_ble_eq_true rfl, Nat.le_of_ble_eq_true rfl⟩).run (fun r_1 hrr_1 => ?_)
      subst hrr_1
      refine lv_icmp_ge (tgt := 56) hx hb dX0_leastWith_7 (by decide) (fun c_7 => ?_) (fun c_7 => ?_)
      · skip
        rw [zc_le (by omega) (by omega)] at c_7
        refine lv_iconst (v := (-1)) hx hb dX0_leastWith_56 (by decide) ?_
        exact W.iret (v := (-1)) hx hb hr (fun t_9 ht_9 hW_9 => ⟨(-1), rfl, (hg.trans (leastF_end (by omega))).symm, ht_9⟩) (fun q h => nomatch h) dX0_leastWith_57
      · skip
        rw [zc_le (by omega) (by omega)] at c_7
        refine lv_aload_n hx hb dX0_leastWith_10 rfl (lv_at hl 0 rfl) ?_
        refine lv_iload_n hx hb dX0_leastWith_11 rfl (lv_at hl 1 rfl) ?_
        refine lv_iload_n hx hb dX0_leastWith_12 rfl (lv_at hl 3 rfl) ?_
        have hPc := hP.sub (ws' := [(qc, .inr (0, [.ref qk, .ref q0, .ref q1, .ref qo, .ref qv, .int (nI n), .int (nI ni), .int (nI no)])), (qk, .inl (cI, 100, .inl kd)), (q0, .inl (cI, 100, .inl s0)), (q1, .inl (cI, 100, .inl s1)), (qo, .inl (cI, 12, .inl on)), (qv, .inl (cJ, 1600, .inr (.inl vl)))]) [0, 1, 2, 3, 4, 5] rfl
        refine vp_callSl (va_runV (As := [.int (nI j), .int (nI i)]) (rest := []) ⟨hx, hb, hml, hown, hts⟩ (c_X0_wordOf l D cI cJ cZ qc qk q0 q1 qo qv kd s0 s1 on vl n ni no j i (by omega) (by omega)) (cwV 2 hts gX0_leastWith_X0_wordOf rfl rfl rfl (by decide +kernel) ⟨Nat.le_of_ble_eq_true rfl, Nat.le_of_ble_eq_true rfl⟩) ⟨PR.blind, va_recv hK hPc (ci := 0) (q0 := 0) rfl rfl, fun U hU hW => ⟨rfl, PR.to hPc hK hNB hU hW⟩⟩ rfl rfl hl.1 rfl (lv_room (Nat.le_of_ble_eq_true rfl)) dX0_leastWith_13 ⟨Nat.le_of_ble_eq_true rfl, Nat.le_of_ble_eq_true rfl⟩).run (fun r_2 hrr_2 => ?_)
        subst hrr_2
        refine lv_iload_n hx hb dX0_leastWith_16 rfl (lv_at hl 2 rfl) ?_
        refine vp_callSl (va_runSN (As := [.int (nI v)]) (rest := [.long (vl (i * 100 + j))]) ⟨hx, hb, hml, hown, hts⟩ (c_X4_allOf l (nI v)) ⟨(va_cnB 1 hts gX0_leastWith_X4_allOf_n59 rfl rfl rfl hNB.2.2.1 (hts (.initialized RX4) (by decide +kernel)) (by decide +kernel) ⟨Nat.le_of_ble_eq_true rfl, Nat.le_of_ble_eq_true rfl⟩), hts (.static yX4_allOf) (by decide +kernel), trivial⟩ ⟨zt_blind, fun U hU hW => ⟨rfl, trivial⟩⟩ rfl rfl hl.1 rfl (lv_room (Nat.le_of_ble_eq_true rfl)) dX0_leastWith_17 ⟨Nat.le_of_ble_eq_true rfl, Nat.le_of_ble_eq_true rfl⟩).run (fun r_3 hrr_3 => ?_)
        subst hrr_3
        refine lv_lxor hx hb dX0_leastWith_20 ?_
        refine lv_ldc2 (v := (-1)) hx hb hown (hts (.constantLong RX0 53 (-1)) (by decide +kernel)) dX0_leastWith_21 ?_
        refine lv_lxor hx hb dX0_leastWith_24 ?_
        refine lv_aload_n hx hb dX0_leastWith_25 rfl (lv_at hl 0 rfl) ?_
        have hPc := hP.sub (ws' := [(qc, .inr (0, [.ref qk, .ref q0, .ref q1, .ref qo, .ref qv, .int (nI n), .int (nI ni), .int (nI no)])), (qk, .inl (cI, 100, .inl kd)), (q0, .inl (cI, 100, .inl s0)), (q1, .inl (cI, 100, .inl s1)), (qo, .inl (cI, 12, .inl on)), (qv, .inl (cJ, 1600, .inr (.inl vl)))]) [0, 1, 2, 3, 4, 5] rfl
        refine vp_callSl (va_runV (As := []) (rest := [.long (((vl (i * 100 + j)) ^^^ (allW (nI v))) ^^^ (-1))]) ⟨hx, hb, hml, hown, hts⟩ (c_X0_mask l D cI cJ cZ qc qk q0 q1 qo qv kd s0 s1 on vl n ni no (by omega)) (cwV 0 hts gX0_leastWith_X0_mask rfl rfl rfl (by decide +kernel) ⟨Nat.le_of_ble_eq_true rfl, Nat.le_of_ble_eq_true rfl⟩) ⟨PR.blind, va_recv hK hPc (ci := 0) (q0 := 0) rfl rfl, fun U hU hW => ⟨rfl, PR.to hPc hK hNB hU hW⟩⟩ rfl rfl hl.1 rfl (lv_room (Nat.le_of_ble_eq_true rfl)) dX0_leastWith_26 ⟨Nat.le_of_ble_eq_true rfl, Nat.le_of_ble_eq_true rfl⟩).run (fun r_4 hrr_4 => ?_)
        subst hrr_4
        refine lv_land hx hb dX0_leastWith_29 ?_
        refine lv_lstore (lv' := [(4, .long ((((vl (i * 100 + j)) ^^^ (allW (nI v))) ^^^ (-1)) &&& (maskW ni))), (0, .ref qc), (1, .int (nI j)), (2, .int (nI v)), (3, .int (nI i))]) hx hb dX0_leastWith_30 hl (by decide) rfl (fun ls hl => ?_)
        refine lv_lload hx hb dX0_leastWith_32 (lv_at hl 0 rfl) ?_
        refine lv_lconst (v := 0) hx hb dX0_leastWith_34 (by decide) ?_
        refine W.lcmp hx hb dX0_leastWith_35 ?_
        refine lv_if_eq (tgt := 50) hx hb dX0_leastWith_36 (by decide) (fun c_36 => ?_) (fun c_36 => ?_)
        · skip
          rw [zc_lcmp] at c_36
          refine lv_iinc (v := (nI (i + 1))) (lv' := [(3, .int (nI (i + 1))), (4, .long ((((vl (i * 100 + j)) ^^^ (allW (nI v))) ^^^ (-1)) &&& (maskW ni))), (0, .ref qc), (1, .int (nI j)), (2, .int (nI v))]) hx hb dX0_leastWith_50 hl (k := 4) rfl (nI_add _ 1) (by decide) rfl (fun ls hl => ?_)
          refine lv_goto (tgt := 2) hx hb dX0_leastWith_53 (by decide) ?_
          exact ih2 (i + 1) (by omega) (hg.trans (leastF_next (by omega) c_36)) (by omega) ls (lv_sub hl [2, 3, 4, 0] rfl)
        · skip
          rw [zc_lcmp] at c_36
          refine lv_iload_n hx hb dX0_leastWith_39 rfl (lv_at hl 4 rfl) ?_
          refine lv_bipush (v := (nI 64)) hx hb dX0_leastWith_40 (by decide) ?_
          refine lv_imul hx hb dX0_leastWith_42 ?_
          refine zz_i (z := (nI (i * 64))) (pk_mul _ _) ?_
          refine lv_lload hx hb dX0_leastWith_43 (lv_at hl 0 rfl) ?_
          refine vp_callSi (va_runSN (As := [.long ((((vl (i * 100 + j)) ^^^ (allW (nI v))) ^^^ (-1)) &&& (maskW ni))]) (rest := [.int (nI (i * 64))]) ⟨hx, hb, hml, hown, hts⟩ (c_X4_lowestBit l ((((vl (i * 100 + j)) ^^^ (allW (nI v))) ^^^ (-1)) &&& (maskW ni)) c_36) ⟨(va_cnB 1 hts gX0_leastWith_X4_lowestBit_n67 rfl rfl rfl hNB.2.2.2.1 (hts (.initialized RX4) (by decide +kernel)) (by decide +kernel) ⟨Nat.le_of_ble_eq_true rfl, Nat.le_of_ble_eq_true rfl⟩), hts (.static yX4_lowestBit) (by decide +kernel), trivial⟩ ⟨zt_blind, fun U hU hW => ⟨rfl, trivial⟩⟩ rfl rfl hl.1 rfl (lv_room (Nat.le_of_ble_eq_true rfl)) dX0_leastWith_45 ⟨Nat.le_of_ble_eq_true rfl, Nat.le_of_ble_eq_true rfl⟩).run (fun r_5 hrr_5 => ?_)
          subst hrr_5
          refine lv_iadd hx hb dX0_leastWith_48 ?_
          refine zz_i (z := (nI ((i * 64) + (lowN ((((vl (i * 100 + j)) ^^^ (allW (nI v))) ^^^ (-1)) &&& (maskW ni)))))) (nI_add _ _) ?_
          exact W.iret (v := (nI ((i * 64) + (lowN ((((vl (i * 100 + j)) ^^^ (allW (nI v))) ^^^ (-1)) &&& (maskW ni)))))) hx hb hr (fun t_9 ht_9 hW_9 => ⟨(nI ((i * 64) + (lowN ((((vl (i * 100 + j)) ^^^ (allW (nI v))) ^^^ (-1)) &&& (maskW ni))))), rfl, (hg.trans (leastF_hit (by omega) c_36)).symm, ht_9⟩) (fun q h => nomatch h) dX0_leastWith_49
  exact loop2 ((wordsN ni - 0) + 1) 0 (Nat.zero_le _) rfl (Nat.lt_succ_self _) ls (lv_sub hl [1, 2, 3, 0] rfl)
