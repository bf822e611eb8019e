set_option maxHeartbeats 4000000 in
set_option maxRecDepth 100000 in
theorem c_X1_root (l : Launch) (D : va_G) (cI cJ cZ : ClassId) (qC : Nat) (qpa : Nat) (qnu : Nat) (qfi : Nat) (qme : Nat) (qus : Nat) (pa : Nat → Int32) (nu : Nat → Int32) (fi : Nat → Int32) (me : Nat → Int32) (us : Nat → Int32) (cs : Nat) (r : Nat → Nat) (f : Nat) (hR : RootOf pa r) (hf : f < 600) : Met l yX1_root wsX1_root ({ frames := 0, cells := 0, slots := 0, locals := 0 } : Room) (va_Pc [.ref qC, .int (nI f)] (PR D cI cJ cZ [(qC, .inr (1, [.ref qpa, .ref qnu, .ref qfi, .ref qme, .ref qus, .int (nI cs)])), (qpa, .inl (cI, 600, .inl pa)), (qnu, .inl (cI, 600, .inl nu)), (qfi, .inl (cI, 600, .inl fi)), (qme, .inl (cI, 600, .inl me)), (qus, .inl (cI, 100, .inl us))])) (vp_Si (fun r_9 : Int32 => r_9 = (nI (r f)))) 0 0 (fun _ => False) := by
  refine Met.ofW (cc := cX1_root) (maxL := 4) (ret := (some .int)) (by decide) rfl ?_
  intro p e s m args below meth c s₁ B hml hv
  obtain ⟨rfl, hP, hK, hNB⟩ := hv
  have hx := B.exec
  have hb := B.bytes
  have hr := B.returns
  have hts := atoms_spec (ws := wsX1_root) B.pre
  have hown : s.vm.findClass RX1 = some m.cls := findClass_of_methodNamed B.named
  have hlocks := B.notSynchronized
  have hiX1 : ∀ w ∈ u_ws RX1 TX1 6, w ∈ wsX1_root := by decide +kernel
  have hl := lv_entry ([.ref qC, .int (nI f)]) (n := 4) (Nat.le_of_ble_eq_true rfl)
  rw [lg_entry_eq]
  generalize (lg_sl ([.ref qC, .int (nI f)]) ++ List.replicate (4 - (lg_sl ([.ref qC, .int (nI f)])).length) Slot.unset).toArray = ls at hl ⊢
  have hl : lv_has ls 4 [(0, .ref qC), (1, .int (nI f))] := hl
  refine lv_iload_n hx hb dX1_root_0 rfl (lv_at hl 1 rfl) ?_
  refine lv_istore_n (lv' := [(2, .int (nI f)), (0, .ref qC), (1, .int (nI f))]) hx hb dX1_root_1 rfl hl (by decide) rfl (fun ls hl => ?_)
  refine lv_iconst (v := (nI 0)) hx hb dX1_root_2 (by decide) ?_
  refine lv_istore_n (lv' := [(3, .int (nI 0)), (2, .int (nI f)), (0, .ref qC), (1, .int (nI f))]) hx hb dX1_root_3 rfl hl (by decide) rfl (fun ls hl => ?_)
  have loop4 : ∀ (n4 : Nat) (a : Nat) (t : Nat) (ha : a + t ≤ f) (hr9 : r a = r f), 600 - t < n4 → ∀ (ls : Array Slot), lv_has ls 4 [(0, .ref qC), (1, .int (nI f)), (2, .int (nI a)), (3, .int (nI t))] → W p l e (headSpec wsX1_root ({ frames := 0, cells := 0, slots := 0, locals := 0 } : Room)).room s m ([.ref qC, .int (nI f)] : List Value).toArray below meth c s.heap [] 0 0 (MQ below (vp_Si (fun r_9 : Int32 => r_9 = (nI (r f)))) ([.ref qC, .int (nI f)] : List Value).toArray s 0 0 (fun _ => False)) (F0 m 4 ls []) := by
    intro n4
    induction n4 with
    | zero => intro a t ha hr9 hm; exact absurd hm (Nat.not_lt_zero _)
    | succ n4 ih4 =>
      intro a t ha hr9 hm4 ls hl
      refine lv_iload_n hx hb dX1_root_4 rfl (lv_at hl 3 rfl) ?_
      refine lv_sipush (v := (nI 600)) hx hb dX1_root_5 (by decide) ?_
      refine lv_icmp_ge (tgt := 34) hx hb dX1_root_8 (by decide) (fun c_8 => ?_) (fun c_8 => ?_)
      · skip
        rw [zc_le (by omega) (by omega)] at c_8
        exact absurd c_8 (by omega)
      · skip
        rw [zc_le (by omega) (by omega)] at c_8
        refine lv_aload_n hx hb dX1_root_11 rfl (lv_at hl 0 rfl) ?_
        refine va_get (D := D) (ci := 1) (v := .ref qpa) (C := RX1) (T := TX1) (N := 6) hx hb hts hiX1 hown hK hP 0 rfl rfl 0 (by decide) (hts (.fieldLink RX1 9 "FaultSearch$Classes" "parents" "[I") (by decide +kernel)) (fun _ h9 => h9) rfl dX1_root_12 ?_
        refine lv_iload_n hx hb dX1_root_15 rfl (lv_at hl 2 rfl) ?_
        refine zz_iald hx hb hK hP 1 0 rfl rfl (n := 600) (j := a) (by omega) (by decide) dX1_root_16 ?_
        obtain ⟨q9, hq1, hq2, hq3⟩ := hR a (by omega)
        refine zz_i (z := (nI q9)) hq1 ?_
        refine lv_iload_n hx hb dX1_root_17 rfl (lv_at hl 2 rfl) ?_
        refine lv_icmp_eq (tgt := 34) hx hb dX1_root_18 (by decide) (fun c_18 => ?_) (fun c_18 => ?_)
        · skip
          rw [zc_eq (by omega) (by omega)] at c_18
          refine lv_iload_n hx hb dX1_root_34 rfl (lv_at hl 2 rfl) ?_
          exact W.iret (v := (nI a)) hx hb hr (fun t_9 ht_9 hW_9 => ⟨(nI a), rfl, (by rw [← hr9, hq3, if_pos c_18]), ht_9⟩) (fun q h => nomatch h) dX1_root_35
        · skip
          rw [zc_eq (by omega) (by omega)] at c_18
          refine lv_aload_n hx hb dX1_root_21 rfl (lv_at hl 0 rfl) ?_
          refine va_get (D := D) (ci := 1) (v := .ref qpa) (C := RX1) (T := TX1) (N := 6) hx hb hts hiX1 hown hK hP 0 rfl rfl 0 (by decide) (hts (.fieldLink RX1 9 "FaultSearch$Classes" "parents" "[I") (by decide +kernel)) (fun _ h9 => h9) rfl dX1_root_22 ?_
          refine lv_iload_n hx hb dX1_root_25 rfl (lv_at hl 2 rfl) ?_
          refine zz_iald hx hb hK hP 1 0 rfl rfl (n := 600) (j := a) (by omega) (by decide) dX1_root_26 ?_
          refine zz_i (z := (nI q9)) hq1 ?_
          refine lv_istore_n (lv' := [(2, .int (nI q9)), (0, .ref qC), (1, .int (nI f)), (3, .int (nI t))]) hx hb dX1_root_27 rfl hl (by decide) rfl (fun ls hl => ?_)
          refine lv_iinc (v := (nI (t + 1))) (lv' := [(3, .int (nI (t + 1))), (2, .int (nI q9)), (0, .ref qC), (1, .int (nI f))]) hx hb dX1_root_28 hl (k := 3) rfl (nI_add _ 1) (by decide) rfl (fun ls hl => ?_)
          refine lv_goto (tgt := 4) hx hb dX1_root_31 (by decide) ?_
          exact ih4 q9 (t + 1) (by omega) (by rw [← hr9, hq3, if_neg c_18]) (by omega) ls (lv_sub hl [2, 3, 1, 0] rfl)
  exact loop4 ((600 - 0) + 1) f 0 (by omega) rfl (Nat.lt_succ_self _) ls (lv_sub hl [2, 3, 1, 0] rfl)

set_option maxHeartbeats 4000000 in
set_option maxRecDepth 100000 in
theorem c_X1_joinLines (l : Launch) (D : va_G) (cI cJ cZ : ClassId) (qC : Nat) (qpa : Nat) (qnu : Nat) (qfi : Nat) (qme : Nat) (qus : Nat) (pa : Nat → Int32) (nu : Nat → Int32) (fi : Nat → Int32) (me : Nat → Int32) (us : Nat → Int32) (cs : Nat) (r : Nat → Nat) (net : Nat) (pin : Int32) (p1 : Nat) (v : Nat) (onet : Nat) (opin : Int32) (op1 : Nat) (ov : Nat) (sz : Nat) (A : Nat → Prop) (hAe : A = va_A [(qC, .inr (1, [.ref qpa, .ref qnu, .ref qfi, .ref qme, .ref qus, .int (nI cs)])), (qpa, .inl (cI, 600, .inl pa)), (qnu, .inl (cI, 600, .inl nu)), (qfi, .inl (cI, 600, .inl fi)), (qme, .inl (cI, 600, .inl me)), (qus, .inl (cI, 100, .inl us))] sz) (hR : RootOf pa r) (hp : pin + nI 1 = nI p1) (hop : opin + nI 1 = nI op1) (hf : net * 6 + p1 * 2 + v < 600) (hg : onet * 6 + op1 * 2 + ov < 600) : Met l yX1_joinLines wsX1_joinLines ({ frames := 1, cells := 0, slots := 0, locals := 23 } : Room) (va_Pc [.ref qC, .int (nI net), .int pin, .int (nI v), .int (nI onet), .int opin, .int (nI ov)] (PW D cI cJ cZ [(qC, .inr (1, [.ref qpa, .ref qnu, .ref qfi, .ref qme, .ref qus, .int (nI cs)])), (qpa, .inl (cI, 600, .inl pa)), (qnu, .inl (cI, 600, .inl nu)), (qfi, .inl (cI, 600, .inl fi)), (qme, .inl (cI, 600, .inl me)), (qus, .inl (cI, 100, .inl us))] sz)) (va_Qv (fun _u9 : Unit => True) (fun (_u9 : Unit) t => PQ D A [(qC, .inr (1, [.ref qpa, .ref qnu, .ref qfi, .ref qme, .ref qus, .int (nI cs)])), (qpa, .inl (cI, 600, .inl (upd pa (max (r (net * 6 + p1 * 2 + v)) (r (onet * 6 + op1 * 2 + ov))) (nI (min (r (net * 6 + p1 * 2 + v)) (r (onet * 6 + op1 * 2 + ov))))))), (qnu, .inl (cI, 600, .inl nu)), (qfi, .inl (cI, 600, .inl fi)), (qme, .inl (cI, 600, .inl me)), (qus, .inl (cI, 100, .inl us))] t) A) 0 0 A := by
  refine Met.ofW (cc := cX1_joinLines) (maxL := 9) (ret := none) (by decide) rfl ?_
  intro p e s m args below meth c s₁ B hml hv
  obtain ⟨rfl, hsz, ⟨hP, hK, hNB⟩, hD0⟩ := hv
  have hx := B.exec
  have hb := B.bytes
  have hr := B.returns
  have hts := atoms_spec (ws := wsX1_joinLines) B.pre
  have hown : s.vm.findClass RX1 = some m.cls := findClass_of_methodNamed B.named
  have hlocks := B.notSynchronized
  have hiX1 : ∀ w ∈ u_ws RX1 TX1 6, w ∈ wsX1_joinLines := by decide +kernel
  subst hsz
  have hD : va_D A [(qC, .inr (1, [.ref qpa, .ref qnu, .ref qfi, .ref qme, .ref qus, .int (nI cs)])), (qpa, .inl (cI, 600, .inl pa)), (qnu, .inl (cI, 600, .inl nu)), (qfi, .inl (cI, 600, .inl fi)), (qme, .inl (cI, 600, .inl me)), (qus, .inl (cI, 100, .inl us))] := by rw [hAe]; exact hD0.self
  have hA : ∀ q : Nat, s.heap.size ≤ q → A q := fun q h => by rw [hAe]; exact Or.inr h
  have hS : va_S A s.heap s.heap [] := va_S.rf
  have hl := lv_entry ([.ref qC, .int (nI net), .int pin, .int (nI v), .int (nI onet), .int opin, .int (nI ov)]) (n := 9) (Nat.le_of_ble_eq_true rfl)
  rw [lg_entry_eq]
  generalize (lg_sl ([.ref qC, .int (nI net), .int pin, .int (nI v), .int (nI onet), .int opin, .int (nI ov)]) ++ List.replicate (9 - (lg_sl ([.ref qC, .int (nI net), .int pin, .int (nI v), .int (nI onet), .int opin, .int (nI ov)])).length) Slot.unset).toArray = ls at hl ⊢
  have hl : lv_has ls 9 [(0, .ref qC), (1, .int (nI net)), (2, .int pin), (3, .int (nI v)), (4, .int (nI onet)), (5, .int opin), (6, .int (nI ov))] := hl
  refine lv_aload_n hx hb dX1_joinLines_0 rfl (lv_at hl 0 rfl) ?_
  refine lv_iload_n hx hb dX1_joinLines_1 rfl (lv_at hl 1 rfl) ?_
  refine lv_iload_n hx hb dX1_joinLines_2 rfl (lv_at hl 2 rfl) ?_
  refine lv_iload_n hx hb dX1_joinLines_3 rfl (lv_at hl 3 rfl) ?_
  refine vp_callSi (va_runSN (As := [.int (nI net), .int pin, .int (nI v)]) (rest := [.ref qC]) ⟨hx, hb, hml, hown, hts⟩ (c_X4_faultOf l net pin p1 v hp) ⟨(va_cnB 3 hts gX1_joinLines_X4_faultOf_n58 rfl rfl rfl hNB.2.2.2.2.1 (hts (.initialized RX4) (by decide +kernel)) (by decide +kernel) ⟨Nat.le_of_ble_eq_true rfl, Nat.le_of_ble_eq_true rfl⟩), hts (.static yX4_faultOf) (by decide +kernel), trivial⟩ ⟨zt_blind, fun U hU hW => ⟨rfl, trivial⟩⟩ rfl rfl hl.1 rfl (lv_room (Nat.le_of_ble_eq_true rfl)) dX1_joinLines_4 ⟨Nat.le_of_ble_eq_true rfl, Nat.le_of_ble_eq_true rfl⟩).run (fun r_1 hrr_1 => ?_)
  subst hrr_1
  have hPc := hP.sub (ws' := [(qC, .inr (1, [.ref qpa, .ref qnu, .ref qfi, .ref qme, .ref qus, .int (nI cs)])), (qpa, .inl (cI, 600, .inl pa)), (qnu, .inl (cI, 600, .inl nu)), (qfi, .inl (cI, 600, .inl fi)), (qme, .inl (cI, 600, .inl me)), (qus, .inl (cI, 100, .inl us))]) [0, 1, 2, 3, 4, 5] rfl
  refine vp_callSi (va_runV (As := [.int (nI (net * 6 + p1 * 2 + v))]) (rest := []) ⟨hx, hb, hml, hown, hts⟩ (c_X1_root l D cI cJ cZ qC qpa qnu qfi qme qus pa nu fi me us cs r (net * 6 + p1 * 2 + v) hR hf) (cwV 1 hts gX1_joinLines_X1_root rfl rfl rfl (by decide +kernel) ⟨Nat.le_of_ble_eq_true rfl, Nat.le_of_ble_eq_true rfl⟩) ⟨PR.blind, va_recv hK hPc (ci := 1) (q0 := 0) rfl rfl, fun U hU hW => ⟨rfl, PR.to hPc hK hNB hU hW⟩⟩ rfl rfl hl.1 rfl (lv_room (Nat.le_of_ble_eq_true rfl)) dX1_joinLines_7 ⟨Nat.le_of_ble_eq_true rfl, Nat.le_of_ble_eq_true rfl⟩).run (fun r_2 hrr_2 => ?_)
  subst hrr_2
  refine lv_istore (lv' := [(7, .int (nI (r (net * 6 + p1 * 2 + v)))), (0, .ref qC), (1, .int (nI net)), (2, .int pin), (3, .int (nI v)), (4, .int (nI onet)), (5, .int opin), (6, .int (nI ov))]) hx hb dX1_joinLines_10 hl (by decide) rfl (fun ls hl => ?_)
  refine lv_aload_n hx hb dX1_joinLines_12 rfl (lv_at hl 1 rfl) ?_
  refine lv_iload hx hb dX1_joinLines_13 (lv_at hl 5 rfl) ?_
  refine lv_iload hx hb dX1_joinLines_15 (lv_at hl 6 rfl) ?_
  refine lv_iload hx hb dX1_joinLines_17 (lv_at hl 7 rfl) ?_
  refine vp_callSi (va_runSN (As := [.int (nI onet), .int opin, .int (nI ov)]) (rest := [.ref qC]) ⟨hx, hb, hml, hown, hts⟩ (c_X4_faultOf l onet opin op1 ov hop) ⟨(va_cnB 3 hts gX1_joinLines_X4_faultOf_n58 rfl rfl rfl hNB.2.2.2.2.1 (hts (.initialized RX4) (by decide +kernel)) (by decide +kernel) ⟨Nat.le_of_ble_eq_true rfl, Nat.le_of_ble_eq_true rfl⟩), hts (.static yX4_faultOf) (by decide +kernel), trivial⟩ ⟨zt_blind, fun U hU hW => ⟨rfl, trivial⟩⟩ rfl rfl hl.1 rfl (lv_room (Nat.le_of_ble_eq_true rfl)) dX1_joinLines_19 ⟨Nat.le_of_ble_eq_true rfl, Nat.le_of_ble_eq_true rfl⟩).run (fun r_3 hrr_3 => ?_)
  subst hrr_3
  have hPc := hP.sub (ws' := [(qC, .inr (1, [.ref qpa, .ref qnu, .ref qfi, .ref qme, .ref qus, .int (nI cs)])), (qpa, .inl (cI, 600, .inl pa)), (qnu, .inl (cI, 600, .inl nu)), (qfi, .inl (cI, 600, .inl fi)), (qme, .inl (cI, 600, .inl me)), (qus, .inl (cI, 100, .inl us))]) [0, 1, 2, 3, 4, 5] rfl
  refine vp_callSi (va_runV (As := [.int (nI (onet * 6 + op1 * 2 + ov))]) (rest := []) ⟨hx, hb, hml, hown, hts⟩ (c_X1_root l D cI cJ cZ qC qpa qnu qfi qme qus pa nu fi me us cs r (onet * 6 + op1 * 2 + ov) hR hg) (cwV 1 hts gX1_joinLines_X1_root rfl rfl rfl (by decide +kernel) ⟨Nat.le_of_ble_eq_true rfl, Nat.le_of_ble_eq_true rfl⟩) ⟨PR.blind, va_recv hK hPc (ci := 1) (q0 := 0) rfl rfl, fun U hU hW => ⟨rfl, PR.to hPc hK hNB hU hW⟩⟩ rfl rfl hl.1 rfl (lv_room (Nat.le_of_ble_eq_true rfl)) dX1_joinLines_22 ⟨Nat.le_of_ble_eq_true rfl, Nat.le_of_ble_eq_true rfl⟩).run (fun r_4 hrr_4 => ?_)
  subst hrr_4
  refine lv_istore (lv' := [(8, .int (nI (r (onet * 6 + op1 * 2 + ov)))), (7, .int (nI (r (net * 6 + p1 * 2 + v)))), (0, .ref qC), (1, .int (nI net)), (2, .int pin), (3, .int (nI v)), (4, .int (nI onet)), (5, .int opin), (6, .int (nI ov))]) hx hb dX1_joinLines_25 hl (by decide) rfl (fun ls hl => ?_)
  refine lv_aload_n hx hb dX1_joinLines_27 rfl (lv_at hl 2 rfl) ?_
  refine va_get (D := D) (ci := 1) (v := .ref qpa) (C := RX1) (T := TX1) (N := 6) hx hb hts hiX1 hown hK hP 0 rfl rfl 0 (by decide) (hts (.fieldLink RX1 9 "FaultSearch$Classes" "parents" "[I") (by decide +kernel)) (fun _ h9 => h9) rfl dX1_joinLines_28 ?_
  refine lv_iload hx hb dX1_joinLines_31 (lv_at hl 1 rfl) ?_
  refine lv_iload hx hb dX1_joinLines_33 (lv_at hl 0 rfl) ?_
  refine va_mmax hx hb (by rw [hml]; exact hl.1.symm) hown (hts (.methodLink RX1 79 Lib.Math.max.name) (by decide +kernel)) (hts (.static Lib.Math.max.name) (by decide +kernel)) (hts (.initialized "java/lang/Math") (by decide +kernel)) (hts (.code Lib.Math.max.name Lib.Math.max.code 2 (some .int)) (by decide +kernel)) (Nat.le_of_ble_eq_true rfl) (Nat.le_of_ble_eq_true rfl) (Nat.zero_le _) (Nat.zero_le _) dX1_joinLines_35 ?_
  refine zz_i (z := (nI (max (r (net * 6 + p1 * 2 + v)) (r (onet * 6 + op1 * 2 + ov))))) (zs_max (by have := (hR.le _ hf).1; omega) (by have := (hR.le _ hg).1; omega)) ?_
  refine lv_iload hx hb dX1_joinLines_38 (lv_at hl 1 rfl) ?_
  refine lv_iload hx hb dX1_joinLines_40 (lv_at hl 0 rfl) ?_
  refine va_mmin hx hb (by rw [hml]; exact hl.1.symm) hown (hts (.methodLink RX1 84 Lib.Math.min.name) (by decide +kernel)) (hts (.static Lib.Math.min.name) (by decide +kernel)) (hts (.initialized "java/lang/Math") (by decide +kernel)) (hts (.code Lib.Math.min.name Lib.Math.min.code 2 (some .int)) (by decide +kernel)) (Nat.le_of_ble_eq_true rfl) (Nat.le_of_ble_eq_true rfl) (Nat.zero_le _) (Nat.zero_le _) dX1_joinLines_42 ?_
  refine zz_i (z := (nI (min (r (net * 6 + p1 * 2 + v)) (r (onet * 6 + op1 * 2 + ov))))) (zs_min (by have := (hR.le _ hf).1; omega) (by have := (hR.le _ hg).1; omega)) ?_
  refine zz_iast hx hb hK hP hD hS 1 0 rfl rfl (n := 600) (j := (max (r (net * 6 + p1 * 2 + v)) (r (onet * 6 + op1 * 2 + ov)))) (by have := (hR.le _ hf).1; have := (hR.le _ hg).1; omega) (by decide) dX1_joinLines_45 (fun H locs hP hD hS => ?_)
  have hP : va_P D vwCl [(qC, .inr (1, [.ref qpa, .ref qnu, .ref qfi, .ref qme, .ref qus, .int (nI cs)])), (qpa, .inl (cI, 600, .inl (upd pa (max (r (net * 6 + p1 * 2 + v)) (r (onet * 6 + op1 * 2 + ov))) (nI (min (r (net * 6 + p1 * 2 + v)) (r (onet * 6 + op1 * 2 + ov))))))), (qnu, .inl (cI, 600, .inl nu)), (qfi, .inl (cI, 600, .inl fi)), (qme, .inl (cI, 600, .inl me)), (qus, .inl (cI, 100, .inl us))] H := hP
  have hD : va_D A [(qC, .inr (1, [.ref qpa, .ref qnu, .ref qfi, .ref qme, .ref qus, .int (nI cs)])), (qpa, .inl (cI, 600, .inl (upd pa (max (r (net * 6 + p1 * 2 + v)) (r (onet * 6 + op1 * 2 + ov))) (nI (min (r (net * 6 + p1 * 2 + v)) (r (onet * 6 + op1 * 2 + ov))))))), (qnu, .inl (cI, 600, .inl nu)), (qfi, .inl (cI, 600, .inl fi)), (qme, .inl (cI, 600, .inl me)), (qus, .inl (cI, 100, .inl us))] := hD
  exact W.vret hx hb hr (fun t_9 ht_9 hW_9 => ⟨⟨(), rfl, trivial, ⟨by rw [ht_9]; exact hP, hD⟩⟩, hS.F ht_9⟩) hS.2.2 dX1_joinLines_46

set_option maxHeartbeats 4000000 in
set_option maxRecDepth 100000 in
theorem c_X1_joinGate (l : Launch) (D : va_G) (cI cJ cZ : ClassId) (qC : Nat) (qpa : Nat) (qnu : Nat) (qfi : Nat) (qme : Nat) (qus : Nat) (pa : Nat → Int32) (nu : Nat → Int32) (fi : Nat → Int32) (me : Nat → Int32) (us : Nat → Int32) (cs : Nat) (r : Nat → Nat) (k : Int32) (net : Nat) (pn : Nat) (sz : Nat) (A : Nat → Prop) (hAe : A = va_A [(qC, .inr (1, [.ref qpa, .ref qnu, .ref qfi, .ref qme, .ref qus, .int (nI cs)])), (qpa, .inl (cI, 600, .inl pa)), (qnu, .inl (cI, 600, .inl nu)), (qfi, .inl (cI, 600, .inl fi)), (qme, .inl (cI, 600, .inl me)), (qus, .inl (cI, 100, .inl us))] sz) (hR : RootOf pa r) (hnet : net < 100) (hpn : pn < 2) : Met l yX1_joinGate wsX1_joinGate ({ frames := 2, cells := 0, slots := 0, locals := 51 } : Room) (va_Pc [.ref qC, .int k, .int (nI net), .int (nI pn)] (PW D cI cJ cZ [(qC, .inr (1, [.ref qpa, .ref qnu, .ref qfi, .ref qme, .ref qus, .int (nI cs)])), (qpa, .inl (cI, 600, .inl pa)), (qnu, .inl (cI, 600, .inl nu)), (qfi, .inl (cI, 600, .inl fi)), (qme, .inl (cI, 600, .inl me)), (qus, .inl (cI, 100, .inl us))] sz)) (va_Qv (fun u9 : (Nat → Int32) => match u9 with | pa2 => RootOf pa2 (mrgs (gP k net pn) r)) (fun (u9 : (Nat → Int32)) t => match u9 with | pa2 => PQ D A [(qC, .inr (1, [.ref qpa, .ref qnu, .ref qfi, .ref qme, .ref qus, .int (nI cs)])), (qpa, .inl (cI, 600, .inl pa2)), (qnu, .inl (cI, 600, .inl nu)), (qfi, .inl (cI, 600, .inl fi)), (qme, .inl (cI, 600, .inl me)), (qus, .inl (cI, 100, .inl us))] t) A) 0 0 A := by
  refine Met.ofW (cc := cX1_joinGate) (maxL := 4) (ret := none) (by decide) rfl ?_
  intro p e s m args below meth c s₁ B hml hv
  obtain ⟨rfl, hsz, ⟨hP, hK, hNB⟩, hD0⟩ := hv
  have hx := B.exec
  have hb := B.bytes
  have hr := B.returns
  have hts := atoms_spec (ws := wsX1_joinGate) B.pre
  have hown : s.vm.findClass RX1 = some m.cls := findClass_of_methodNamed B.named
  have hlocks := B.notSynchronized
  subst hsz
  have hD : va_D A [(qC, .inr (1, [.ref qpa, .ref qnu, .ref qfi, .ref qme, .ref qus, .int (nI cs)])), (qpa, .inl (cI, 600, .inl pa)), (qnu, .inl (cI, 600, .inl nu)), (qfi, .inl (cI, 600, .inl fi)), (qme, .inl (cI, 600, .inl me)), (qus, .inl (cI, 100, .inl us))] := by rw [hAe]; exact hD0.self
  have hA : ∀ q : Nat, s.heap.size ≤ q → A q := fun q h => by rw [hAe]; exact Or.inr h
  have hS : va_S A s.heap s.heap [] := va_S.rf
  have hl := lv_entry ([.ref qC, .int k, .int (nI net), .int (nI pn)]) (n := 4) (Nat.le_of_ble_eq_true rfl)
  rw [lg_entry_eq]
  generalize (lg_sl ([.ref qC, .int k, .int (nI net), .int (nI pn)]) ++ List.replicate (4 - (lg_sl ([.ref qC, .int k, .int (nI net), .int (nI pn)])).length) Slot.unset).toArray = ls at hl ⊢
  have hl : lv_has ls 4 [(0, .ref qC), (1, .int k), (2, .int (nI net)), (3, .int (nI pn))] := hl
  refine lv_iload_n hx hb dX1_joinGate_0 rfl (lv_at hl 1 rfl) ?_
  by_cases k_0 : k = nI 0
  · skip
    refine zz_i (z := nI 0) k_0 ?_
    refine lv_tableIn (off := 43) (tgt := 44) hx hb dX1_joinGate_1 (by decide) (by decide) rfl (by decide) ?_
    refine lv_aload_n hx hb dX1_joinGate_44 rfl (lv_at hl 0 rfl) ?_
    refine lv_iload_n hx hb dX1_joinGate_45 rfl (lv_at hl 2 rfl) ?_
    refine lv_iload_n hx hb dX1_joinGate_46 rfl (lv_at hl 3 rfl) ?_
    refine lv_iconst (v := (nI 0)) hx hb dX1_joinGate_47 (by decide) ?_
    refine lv_iload_n hx hb dX1_joinGate_48 rfl (lv_at hl 2 rfl) ?_
    refine lv_iconst (v := (-1)) hx hb dX1_joinGate_49 (by decide) ?_
    refine lv_iconst (v := (nI 0)) hx hb dX1_joinGate_50 (by decide) ?_
    have hPc := hP.sub (ws' := [(qC, .inr (1, [.ref qpa, .ref qnu, .ref qfi, .ref qme, .ref qus, .int (nI cs)])), (qpa, .inl (cI, 600, .inl pa)), (qnu, .inl (cI, 600, .inl nu)), (qfi, .inl (cI, 600, .inl fi)), (qme, .inl (cI, 600, .inl me)), (qus, .inl (cI, 100, .inl us))]) [0, 1, 2, 3, 4, 5] rfl
    have hDc := hD.sub (ws' := [(qC, .inr (1, [.ref qpa, .ref qnu, .ref qfi, .ref qme, .ref qus, .int (nI cs)])), (qpa, .inl (cI, 600, .inl pa)), (qnu, .inl (cI, 600, .inl nu)), (qfi, .inl (cI, 600, .inl fi)), (qme, .inl (cI, 600, .inl me)), (qus, .inl (cI, 100, .inl us))]) [0, 1, 2, 3, 4, 5] (by decide) rfl
    have hFc := va_free (wc := [(qC, .inr (1, [.ref qpa, .ref qnu, .ref qfi, .ref qme, .ref qus, .int (nI cs)])), (qpa, .inl (cI, 600, .inl pa)), (qnu, .inl (cI, 600, .inl nu)), (qfi, .inl (cI, 600, .inl fi)), (qme, .inl (cI, 600, .inl me)), (qus, .inl (cI, 100, .inl us))]) hD hS hA [0, 1, 2, 3, 4, 5] rfl
    refine va_callv (va_runV (As := [.int (nI net), .int (nI pn), .int (nI 0), .int (nI net), .int (-1), .int (nI 0)]) (rest := []) ⟨hx, hb, hml, hown, hts⟩ (c_X1_joinLines l D cI cJ cZ qC qpa qnu qfi qme qus pa nu fi me us cs r net (nI pn) (pn + 1) 0 net (-1) 0 0 s.heap.size _ rfl hR (nI_add _ _) (by decide) (by omega) (by omega)) (cwV 6 hts gX1_joinGate_X1_joinLines rfl rfl rfl (by decide +kernel) ⟨Nat.le_of_ble_eq_true rfl, Nat.le_of_ble_eq_true rfl⟩) ⟨PW.blind, va_recv hK hPc (ci := 1) (q0 := 0) rfl rfl, fun U hU hW => ⟨rfl, PW.to hPc hK hNB hDc hU hW⟩⟩ rfl rfl hl.1 rfl (lv_room (Nat.le_of_ble_eq_true rfl)) dX1_joinGate_51 ⟨Nat.le_of_ble_eq_true rfl, Nat.le_of_ble_eq_true rfl⟩) hS (fun q _ h => hFc q h) hFc (fun u_9 t_9 H1_9 locs ht_9 hvm_9 hw_9 hB_9 hz1_9 hk1_9 hS => ?_)
    obtain ⟨hP1_9, hD1_9⟩ := hB_9
    rw [ht_9] at hP1_9
    obtain ⟨hP, hD⟩ := va_join (wr := []) (w1 := [(qC, .inr (1, [.ref qpa, .ref qnu, .ref qfi, .ref qme, .ref qus, .int (nI cs)])), (qpa, .inl (cI, 600, .inl (upd pa (max (r (net * 6 + (pn + 1) * 2 + 0)) (r (net * 6 + 0 * 2 + 0))) (nI (min (r (net * 6 + (pn + 1) * 2 + 0)) (r (net * 6 + 0 * 2 + 0))))))), (qnu, .inl (cI, 600, .inl nu)), (qfi, .inl (cI, 600, .inl fi)), (qme, .inl (cI, 600, .inl me)), (qus, .inl (cI, 100, .inl us))]) hP hD [0, 1, 2, 3, 4, 5] [] rfl rfl (by decide) (by decide) hk1_9 hFc hP1_9 hD1_9
    generalize H1_9 = H at hP hS ⊢
    have hP : va_P D vwCl [(qC, .inr (1, [.ref qpa, .ref qnu, .ref qfi, .ref qme, .ref qus, .int (nI cs)])), (qpa, .inl (cI, 600, .inl (upd pa (max (r (net * 6 + (pn + 1) * 2 + 0)) (r (net * 6 + 0 * 2 + 0))) (nI (min (r (net * 6 + (pn + 1) * 2 + 0)) (r (net * 6 + 0 * 2 + 0))))))), (qnu, .inl (cI, 600, .inl nu)), (qfi, .inl (cI, 600, .inl fi)), (qme, .inl (cI, 600, .inl me)), (qus, .inl (cI, 100, .inl us))] H := hP
    have hD : va_D A [(qC, .inr (1, [.ref qpa, .ref qnu, .ref qfi, .ref qme, .ref qus, .int (nI cs)])), (qpa, .inl (cI, 600, .inl (upd pa (max (r (net * 6 + (pn + 1) * 2 + 0)) (r (net * 6 + 0 * 2 + 0))) (nI (min (r (net * 6 + (pn + 1) * 2 + 0)) (r (net * 6 + 0 * 2 + 0))))))), (qnu, .inl (cI, 600, .inl nu)), (qfi, .inl (cI, 600, .inl fi)), (qme, .inl (cI, 600, .inl me)), (qus, .inl (cI, 100, .inl us))] := hD
    refine lv_goto (tgt := 142) hx hb dX1_joinGate_54 (by decide) ?_
    exact W.vret hx hb hr (fun t_9 ht_9 hW_9 => ⟨⟨upd pa (max (r (net * 6 + (pn + 1) * 2 + 0)) (r (net * 6 + 0 * 2 + 0))) (nI (min (r (net * 6 + (pn + 1) * 2 + 0)) (r (net * 6 + 0 * 2 + 0)))), rfl, (show RootOf (upd pa (max (r (net * 6 + (pn + 1) * 2 + 0)) (r (net * 6 + 0 * 2 + 0))) (nI (min (r (net * 6 + (pn + 1) * 2 + 0)) (r (net * 6 + 0 * 2 + 0))))) (mrgs (gP k net pn) r) from (by rw [k_0]; exact hR.join (f := FO net (pn + 1) 0) (g := FO net 0 0) (by unfold FO; omega) (by unfold FO; omega))), ⟨by rw [ht_9]; exact hP, hD⟩⟩, hS.F ht_9⟩) hS.2.2 dX1_joinGate_142
  by_cases k_1 : k = nI 1
  · skip
    refine zz_i (z := nI 1) k_1 ?_
    refine lv_tableIn (off := 56) (tgt := 57) hx hb dX1_joinGate_1 (by decide) (by decide) rfl (by decide) ?_
    refine lv_aload_n hx hb dX1_joinGate_57 rfl (lv_at hl 0 rfl) ?_
    refine lv_iload_n hx hb dX1_joinGate_58 rfl (lv_at hl 2 rfl) ?_
    refine lv_iload_n hx hb dX1_joinGate_59 rfl (lv_at hl 3 rfl) ?_
    refine lv_iconst (v := (nI 1)) hx hb dX1_joinGate_60 (by decide) ?_
    refine lv_iload_n hx hb dX1_joinGate_61 rfl (lv_at hl 2 rfl) ?_
    refine lv_iconst (v := (-1)) hx hb dX1_joinGate_62 (by decide) ?_
    refine lv_iconst (v := (nI 1)) hx hb dX1_joinGate_63 (by decide) ?_
    have hPc := hP.sub (ws' := [(qC, .inr (1, [.ref qpa, .ref qnu, .ref qfi, .ref qme, .ref qus, .int (nI cs)])), (qpa, .inl (cI, 600, .inl pa)), (qnu, .inl (cI, 600, .inl nu)), (qfi, .inl (cI, 600, .inl fi)), (qme, .inl (cI, 600, .inl me)), (qus, .inl (cI, 100, .inl us))]) [0, 1, 2, 3, 4, 5] rfl
    have hDc := hD.sub (ws' := [(qC, .inr (1, [.ref qpa, .ref qnu, .ref qfi, .ref qme, .ref qus, .int (nI cs)])), (qpa, .inl (cI, 600, .inl pa)), (qnu, .inl (cI, 600, .inl nu)), (qfi, .inl (cI, 600, .inl fi)), (qme, .inl (cI, 600, .inl me)), (qus, .inl (cI, 100, .inl us))]) [0, 1, 2, 3, 4, 5] (by decide) rfl
    have hFc := va_free (wc := [(qC, .inr (1, [.ref qpa, .ref qnu, .ref qfi, .ref qme, .ref qus, .int (nI cs)])), (qpa, .inl (cI, 600, .inl pa)), (qnu, .inl (cI, 600, .inl nu)), (qfi, .inl (cI, 600, .inl fi)), (qme, .inl (cI, 600, .inl me)), (qus, .inl (cI, 100, .inl us))]) hD hS hA [0, 1, 2, 3, 4, 5] rfl
    refine va_callv (va_runV (As := [.int (nI net), .int (nI pn), .int (nI 1), .int (nI net), .int (-1), .int (nI 1)]) (rest := []) ⟨hx, hb, hml, hown, hts⟩ (c_X1_joinLines l D cI cJ cZ qC qpa qnu qfi qme qus pa nu fi me us cs r net (nI pn) (pn + 1) 1 net (-1) 0 1 s.heap.size _ rfl hR (nI_add _ _) (by decide) (by omega) (by omega)) (cwV 6 hts gX1_joinGate_X1_joinLines rfl rfl rfl (by decide +kernel) ⟨Nat.le_of_ble_eq_true rfl, Nat.le_of_ble_eq_true rfl⟩) ⟨PW.blind, va_recv hK hPc (ci := 1) (q0 := 0) rfl rfl, fun U hU hW => ⟨rfl, PW.to hPc hK hNB hDc hU hW⟩⟩ rfl rfl hl.1 rfl (lv_room (Nat.le_of_ble_eq_true rfl)) dX1_joinGate_64 ⟨Nat.le_of_ble_eq_true rfl, Nat.le_of_ble_eq_true rfl⟩) hS (fun q _ h => hFc q h) hFc (fun u_9 t_9 H1_9 locs ht_9 hvm_9 hw_9 hB_9 hz1_9 hk1_9 hS => ?_)
    obtain ⟨hP1_9, hD1_9⟩ := hB_9
    rw [ht_9] at hP1_9
    obtain ⟨hP, hD⟩ := va_join (wr := []) (w1 := [(qC, .inr (1, [.ref qpa, .ref qnu, .ref qfi, .ref qme, .ref qus, .int (nI cs)])), (qpa, .inl (cI, 600, .inl (upd pa (max (r (net * 6 + (pn + 1) * 2 + 1)) (r (net * 6 + 0 * 2 + 1))) (nI (min (r (net * 6 + (pn + 1) * 2 + 1)) (r (net * 6 + 0 * 2 + 1))))))), (qnu, .inl (cI, 600, .inl nu)), (qfi, .inl (cI, 600, .inl fi)), (qme, .inl (cI, 600, .inl me)), (qus, .inl (cI, 100, .inl us))]) hP hD [0, 1, 2, 3, 4, 5] [] rfl rfl (by decide) (by decide) hk1_9 hFc hP1_9 hD1_9
    generalize H1_9 = H at hP hS ⊢
    have hP : va_P D vwCl [(qC, .inr (1, [.ref qpa, .ref qnu, .ref qfi, .ref qme, .ref qus, .int (nI cs)])), (qpa, .inl (cI, 600, .inl (upd pa (max (r (net * 6 + (pn + 1) * 2 + 1)) (r (net * 6 + 0 * 2 + 1))) (nI (min (r (net * 6 + (pn + 1) * 2 + 1)) (r (net * 6 + 0 * 2 + 1))))))), (qnu, .inl (cI, 600, .inl nu)), (qfi, .inl (cI, 600, .inl fi)), (qme, .inl (cI, 600, .inl me)), (qus, .inl (cI, 100, .inl us))] H := hP
    have hD : va_D A [(qC, .inr (1, [.ref qpa, .ref qnu, .ref qfi, .ref qme, .ref qus, .int (nI cs)])), (qpa, .inl (cI, 600, .inl (upd pa (max (r (net * 6 + (pn + 1) * 2 + 1)) (r (net * 6 + 0 * 2 + 1))) (nI (min (r (net * 6 + (pn + 1) * 2 + 1)) (r (net * 6 + 0 * 2 + 1))))))), (qnu, .inl (cI, 600, .inl nu)), (qfi, .inl (cI, 600, .inl fi)), (qme, .inl (cI, 600, .inl me)), (qus, .inl (cI, 100, .inl us))] := hD
    refine lv_goto (tgt := 142) hx hb dX1_joinGate_67 (by decide) ?_
    exact W.vret hx hb hr (fun t_9 ht_9 hW_9 => ⟨⟨upd pa (max (r (net * 6 + (pn + 1) * 2 + 1)) (r (net * 6 + 0 * 2 + 1))) (nI (min (r (net * 6 + (pn + 1) * 2 + 1)) (r (net * 6 + 0 * 2 + 1)))), rfl, (show RootOf (upd pa (max (r (net * 6 + (pn + 1) * 2 + 1)) (r (net * 6 + 0 * 2 + 1))) (nI (min (r (net * 6 + (pn + 1) * 2 + 1)) (r (net * 6 + 0 * 2 + 1))))) (mrgs (gP k net pn) r) from (by rw [k_1]; exact hR.join (f := FO net (pn + 1) 1) (g := FO net 0 1) (by unfold FO; omega) (by unfold FO; omega))), ⟨by rw [ht_9]; exact hP, hD⟩⟩, hS.F ht_9⟩) hS.2.2 dX1_joinGate_142
  by_cases k_2 : k = nI 2
  · skip
    refine zz_i (z := nI 2) k_2 ?_
    refine lv_tableIn (off := 141) (tgt := 142) hx hb dX1_joinGate_1 (by decide) (by decide) rfl (by decide) ?_
    exact W.vret hx hb hr (fun t_9 ht_9 hW_9 => ⟨⟨pa, rfl, (show RootOf pa (mrgs (gP k net pn) r) from (by rw [k_2]; exact hR)), ⟨by rw [ht_9]; exact hP, hD⟩⟩, hS.F ht_9⟩) hS.2.2 dX1_joinGate_142
  by_cases k_3 : k = nI 3
  · skip
    refine zz_i (z := nI 3) k_3 ?_
    refine lv_tableIn (off := 69) (tgt := 70) hx hb dX1_joinGate_1 (by decide) (by decide) rfl (by decide) ?_
    refine lv_aload_n hx hb dX1_joinGate_70 rfl (lv_at hl 0 rfl) ?_
    refine lv_iload_n hx hb dX1_joinGate_71 rfl (lv_at hl 2 rfl) ?_
    refine lv_iload_n hx hb dX1_joinGate_72 rfl (lv_at hl 3 rfl) ?_
    refine lv_iconst (v := (nI 0)) hx hb dX1_joinGate_73 (by decide) ?_
    refine lv_iload_n hx hb dX1_joinGate_74 rfl (lv_at hl 2 rfl) ?_
    refine lv_iconst (v := (-1)) hx hb dX1_joinGate_75 (by decide) ?_
    refine lv_iconst (v := (nI 1)) hx hb dX1_joinGate_76 (by decide) ?_
    have hPc := hP.sub (ws' := [(qC, .inr (1, [.ref qpa, .ref qnu, .ref qfi, .ref qme, .ref qus, .int (nI cs)])), (qpa, .inl (cI, 600, .inl pa)), (qnu, .inl (cI, 600, .inl nu)), (qfi, .inl (cI, 600, .inl fi)), (qme, .inl (cI, 600, .inl me)), (qus, .inl (cI, 100, .inl us))]) [0, 1, 2, 3, 4, 5] rfl
    have hDc := hD.sub (ws' := [(qC, .inr (1, [.ref qpa, .ref qnu, .ref qfi, .ref qme, .ref qus, .int (nI cs)])), (qpa, .inl (cI, 600, .inl pa)), (qnu, .inl (cI, 600, .inl nu)), (qfi, .inl (cI, 600, .inl fi)), (qme, .inl (cI, 600, .inl me)), (qus, .inl (cI, 100, .inl us))]) [0, 1, 2, 3, 4, 5] (by decide) rfl
    have hFc := va_free (wc := [(qC, .inr (1, [.ref qpa, .ref qnu, .ref qfi, .ref qme, .ref qus, .int (nI cs)])), (qpa, .inl (cI, 600, .inl pa)), (qnu, .inl (cI, 600, .inl nu)), (qfi, .inl (cI, 600, .inl fi)), (qme, .inl (cI, 600, .inl me)), (qus, .inl (cI, 100, .inl us))]) hD hS hA [0, 1, 2, 3, 4, 5] rfl
    refine va_callv (va_runV (As := [.int (nI net), .int (nI pn), .int (nI 0), .int (nI net), .int (-1), .int (nI 1)]) (rest := []) ⟨hx, hb, hml, hown, hts⟩ (c_X1_joinLines l D cI cJ cZ qC qpa qnu qfi qme qus pa nu fi me us cs r net (nI pn) (pn + 1) 0 net (-1) 0 1 s.heap.size _ rfl hR (nI_add _ _) (by decide) (by omega) (by omega)) (cwV 6 hts gX1_joinGate_X1_joinLines rfl rfl rfl (by decide +kernel) ⟨Nat.le_of_ble_eq_true rfl, Nat.le_of_ble_eq_true rfl⟩) ⟨PW.blind, va_recv hK hPc (ci := 1) (q0 := 0) rfl rfl, fun U hU hW => ⟨rfl, PW.to hPc hK hNB hDc hU hW⟩⟩ rfl rfl hl.1 rfl (lv_room (Nat.le_of_ble_eq_true rfl)) dX1_joinGate_77 ⟨Nat.le_of_ble_eq_true rfl, Nat.le_of_ble_eq_true rfl⟩) hS (fun q _ h => hFc q h) hFc (fun u_9 t_9 H1_9 locs ht_9 hvm_9 hw_9 hB_9 hz1_9 hk1_9 hS => ?_)
    obtain ⟨hP1_9, hD1_9⟩ := hB_9
    rw [ht_9] at hP1_9
    obtain ⟨hP, hD⟩ := va_join (wr := []) (w1 := [(qC, .inr (1, [.ref qpa, .ref qnu, .ref qfi, .ref qme, .ref qus, .int (nI cs)])), (qpa, .inl (cI, 600, .inl (upd pa (max (r (net * 6 + (pn + 1) * 2 + 0)) (r (net * 6 + 0 * 2 + 1))) (nI (min (r (net * 6 + (pn + 1) * 2 + 0)) (r (net * 6 + 0 * 2 + 1))))))), (qnu, .inl (cI, 600, .inl nu)), (qfi, .inl (cI, 600, .inl fi)), (qme, .inl (cI, 600, .inl me)), (qus, .inl (cI, 100, .inl us))]) hP hD [0, 1, 2, 3, 4, 5] [] rfl rfl (by decide) (by decide) hk1_9 hFc hP1_9 hD1_9
    generalize H1_9 = H at hP hS ⊢
    have hP : va_P D vwCl [(qC, .inr (1, [.ref qpa, .ref qnu, .ref qfi, .ref qme, .ref qus, .int (nI cs)])), (qpa, .inl (cI, 600, .inl (upd pa (max (r (net * 6 + (pn + 1) * 2 + 0)) (r (net * 6 + 0 * 2 + 1))) (nI (min (r (net * 6 + (pn + 1) * 2 + 0)) (r (net * 6 + 0 * 2 + 1))))))), (qnu, .inl (cI, 600, .inl nu)), (qfi, .inl (cI, 600, .inl fi)), (qme, .inl (cI, 600, .inl me)), (qus, .inl (cI, 100, .inl us))] H := hP
    have hD : va_D A [(qC, .inr (1, [.ref qpa, .ref qnu, .ref qfi, .ref qme, .ref qus, .int (nI cs)])), (qpa, .inl (cI, 600, .inl (upd pa (max (r (net * 6 + (pn + 1) * 2 + 0)) (r (net * 6 + 0 * 2 + 1))) (nI (min (r (net * 6 + (pn + 1) * 2 + 0)) (r (net * 6 + 0 * 2 + 1))))))), (qnu, .inl (cI, 600, .inl nu)), (qfi, .inl (cI, 600, .inl fi)), (qme, .inl (cI, 600, .inl me)), (qus, .inl (cI, 100, .inl us))] := hD
    refine lv_goto (tgt := 142) hx hb dX1_joinGate_80 (by decide) ?_
    exact W.vret hx hb hr (fun t_9 ht_9 hW_9 => ⟨⟨upd pa (max (r (net * 6 + (pn + 1) * 2 + 0)) (r (net * 6 + 0 * 2 + 1))) (nI (min (r (net * 6 + (pn + 1) * 2 + 0)) (r (net * 6 + 0 * 2 + 1)))), rfl, (show RootOf (upd pa (max (r (net * 6 + (pn + 1) * 2 + 0)) (r (net * 6 + 0 * 2 + 1))) (nI (min (r (net * 6 + (pn + 1) * 2 + 0)) (r (net * 6 + 0 * 2 + 1))))) (mrgs (gP k net pn) r) from (by rw [k_3]; exact hR.join (f := FO net (pn + 1) 0) (g := FO net 0 1) (by unfold FO; omega) (by unfold FO; omega))), ⟨by rw [ht_9]; exact hP, hD⟩⟩, hS.F ht_9⟩) hS.2.2 dX1_joinGate_142
  by_cases k_4 : k = nI 4
  · skip
    refine zz_i (z := nI 4) k_4 ?_
    refine lv_tableIn (off := 82) (tgt := 83) hx hb dX1_joinGate_1 (by decide) (by decide) rfl (by decide) ?_
    refine lv_aload_n hx hb dX1_joinGate_83 rfl (lv_at hl 0 rfl) ?_
    refine lv_iload_n hx hb dX1_joinGate_84 rfl (lv_at hl 2 rfl) ?_
    refine lv_iload_n hx hb dX1_joinGate_85 rfl (lv_at hl 3 rfl) ?_
    refine lv_iconst (v := (nI 1)) hx hb dX1_joinGate_86 (by decide) ?_
    refine lv_iload_n hx hb dX1_joinGate_87 rfl (lv_at hl 2 rfl) ?_
    refine lv_iconst (v := (-1)) hx hb dX1_joinGate_88 (by decide) ?_
    refine lv_iconst (v := (nI 0)) hx hb dX1_joinGate_89 (by decide) ?_
    have hPc := hP.sub (ws' := [(qC, .inr (1, [.ref qpa, .ref qnu, .ref qfi, .ref qme, .ref qus, .int (nI cs)])), (qpa, .inl (cI, 600, .inl pa)), (qnu, .inl (cI, 600, .inl nu)), (qfi, .inl (cI, 600, .inl fi)), (qme, .inl (cI, 600, .inl me)), (qus, .inl (cI, 100, .inl us))]) [0, 1, 2, 3, 4, 5] rfl
    have hDc := hD.sub (ws' := [(qC, .inr (1, [.ref qpa, .ref qnu, .ref qfi, .ref qme, .ref qus, .int (nI cs)])), (qpa, .inl (cI, 600, .inl pa)), (qnu, .inl (cI, 600, .inl nu)), (qfi, .inl (cI, 600, .inl fi)), (qme, .inl (cI, 600, .inl me)), (qus, .inl (cI, 100, .inl us))]) [0, 1, 2, 3, 4, 5] (by decide) rfl
    have hFc := va_free (wc := [(qC, .inr (1, [.ref qpa, .ref qnu, .ref qfi, .ref qme, .ref qus, .int (nI cs)])), (qpa, .inl (cI, 600, .inl pa)), (qnu, .inl (cI, 600, .inl nu)), (qfi, .inl (cI, 600, .inl fi)), (qme, .inl (cI, 600, .inl me)), (qus, .inl (cI, 100, .inl us))]) hD hS hA [0, 1, 2, 3, 4, 5] rfl
    refine va_callv (va_runV (As := [.int (nI net), .int (nI pn), .int (nI 1), .int (nI net), .int (-1), .int (nI 0)]) (rest := []) ⟨hx, hb, hml, hown, hts⟩ (c_X1_joinLines l D cI cJ cZ qC qpa qnu qfi qme qus pa nu fi me us cs r net (nI pn) (pn + 1) 1 net (-1) 0 0 s.heap.size _ rfl hR (nI_add _ _) (by decide) (by omega) (by omega)) (cwV 6 hts gX1_joinGate_X1_joinLines rfl rfl rfl (by decide +kernel) ⟨Nat.le_of_ble_eq_true rfl, Nat.le_of_ble_eq_true rfl⟩) ⟨PW.blind, va_recv hK hPc (ci := 1) (q0 := 0) rfl rfl, fun U hU hW => ⟨rfl, PW.to hPc hK hNB hDc hU hW⟩⟩ rfl rfl hl.1 rfl (lv_room (Nat.le_of_ble_eq_true rfl)) dX1_joinGate_90 ⟨Nat.le_of_ble_eq_true rfl, Nat.le_of_ble_eq_true rfl⟩) hS (fun q _ h => hFc q h) hFc (fun u_9 t_9 H1_9 locs ht_9 hvm_9 hw_9 hB_9 hz1_9 hk1_9 hS => ?_)
    obtain ⟨hP1_9, hD1_9⟩ := hB_9
    rw [ht_9] at hP1_9
    obtain ⟨hP, hD⟩ := va_join (wr := []) (w1 := [(qC, .inr (1, [.ref qpa, .ref qnu, .ref qfi, .ref qme, .ref qus, .int (nI cs)])), (qpa, .inl (cI, 600, .inl (upd pa (max (r (net * 6 + (pn + 1) * 2 + 1)) (r (net * 6 + 0 * 2 + 0))) (nI (min (r (net * 6 + (pn + 1) * 2 + 1)) (r (net * 6 + 0 * 2 + 0))))))), (qnu, .inl (cI, 600, .inl nu)), (qfi, .inl (cI, 600, .inl fi)), (qme, .inl (cI, 600, .inl me)), (qus, .inl (cI, 100, .inl us))]) hP hD [0, 1, 2, 3, 4, 5] [] rfl rfl (by decide) (by decide) hk1_9 hFc hP1_9 hD1_9
    generalize H1_9 = H at hP hS ⊢
    have hP : va_P D vwCl [(qC, .inr (1, [.ref qpa, .ref qnu, .ref qfi, .ref qme, .ref qus, .int (nI cs)])), (qpa, .inl (cI, 600, .inl (upd pa (max (r (net * 6 + (pn + 1) * 2 + 1)) (r (net * 6 + 0 * 2 + 0))) (nI (min (r (net * 6 + (pn + 1) * 2 + 1)) (r (net * 6 + 0 * 2 + 0))))))), (qnu, .inl (cI, 600, .inl nu)), (qfi, .inl (cI, 600, .inl fi)), (qme, .inl (cI, 600, .inl me)), (qus, .inl (cI, 100, .inl us))] H := hP
    have hD : va_D A [(qC, .inr (1, [.ref qpa, .ref qnu, .ref qfi, .ref qme, .ref qus, .int (nI cs)])), (qpa, .inl (cI, 600, .inl (upd pa (max (r (net * 6 + (pn + 1) * 2 + 1)) (r (net * 6 + 0 * 2 + 0))) (nI (min (r (net * 6 + (pn + 1) * 2 + 1)) (r (net * 6 + 0 * 2 + 0))))))), (qnu, .inl (cI, 600, .inl nu)), (qfi, .inl (cI, 600, .inl fi)), (qme, .inl (cI, 600, .inl me)), (qus, .inl (cI, 100, .inl us))] := hD
    refine lv_goto (tgt := 142) hx hb dX1_joinGate_93 (by decide) ?_
    exact W.vret hx hb hr (fun t_9 ht_9 hW_9 => ⟨⟨upd pa (max (r (net * 6 + (pn + 1) * 2 + 1)) (r (net * 6 + 0 * 2 + 0))) (nI (min (r (net * 6 + (pn + 1) * 2 + 1)) (r (net * 6 + 0 * 2 + 0)))), rfl, (show RootOf (upd pa (max (r (net * 6 + (pn + 1) * 2 + 1)) (r (net * 6 + 0 * 2 + 0))) (nI (min (r (net * 6 + (pn + 1) * 2 + 1)) (r (net * 6 + 0 * 2 + 0))))) (mrgs (gP k net pn) r) from (by rw [k_4]; exact hR.join (f := FO net (pn + 1) 1) (g := FO net 0 0) (by unfold FO; omega) (by unfold FO; omega))), ⟨by rw [ht_9]; exact hP, hD⟩⟩, hS.F ht_9⟩) hS.2.2 dX1_joinGate_142
  by_cases k_5 : k = nI 5
  · skip
    refine zz_i (z := nI 5) k_5 ?_
    refine lv_tableIn (off := 95) (tgt := 96) hx hb dX1_joinGate_1 (by decide) (by decide) rfl (by decide) ?_
    refine lv_aload_n hx hb dX1_joinGate_96 rfl (lv_at hl 0 rfl) ?_
    refine lv_iload_n hx hb dX1_joinGate_97 rfl (lv_at hl 2 rfl) ?_
    refine lv_iload_n hx hb dX1_joinGate_98 rfl (lv_at hl 3 rfl) ?_
    refine lv_iconst (v := (nI 0)) hx hb dX1_joinGate_99 (by decide) ?_
    refine lv_iload_n hx hb dX1_joinGate_100 rfl (lv_at hl 2 rfl) ?_
    refine lv_iconst (v := (-1)) hx hb dX1_joinGate_101 (by decide) ?_
    refine lv_iconst (v := (nI 1)) hx hb dX1_joinGate_102 (by decide) ?_
    have hPc := hP.sub (ws' := [(qC, .inr (1, [.ref qpa, .ref qnu, .ref qfi, .ref qme, .ref qus, .int (nI cs)])), (qpa, .inl (cI, 600, .inl pa)), (qnu, .inl (cI, 600, .inl nu)), (qfi, .inl (cI, 600, .inl fi)), (qme, .inl (cI, 600, .inl me)), (qus, .inl (cI, 100, .inl us))]) [0, 1, 2, 3, 4, 5] rfl
    have hDc := hD.sub (ws' := [(qC, .inr (1, [.ref qpa, .ref qnu, .ref qfi, .ref qme, .ref qus, .int (nI cs)])), (qpa, .inl (cI, 600, .inl pa)), (qnu, .inl (cI, 600, .inl nu)), (qfi, .inl (cI, 600, .inl fi)), (qme, .inl (cI, 600, .inl me)), (qus, .inl (cI, 100, .inl us))]) [0, 1, 2, 3, 4, 5] (by decide) rfl
    have hFc := va_free (wc := [(qC, .inr (1, [.ref qpa, .ref qnu, .ref qfi, .ref qme, .ref qus, .int (nI cs)])), (qpa, .inl (cI, 600, .inl pa)), (qnu, .inl (cI, 600, .inl nu)), (qfi, .inl (cI, 600, .inl fi)), (qme, .inl (cI, 600, .inl me)), (qus, .inl (cI, 100, .inl us))]) hD hS hA [0, 1, 2, 3, 4, 5] rfl
    refine va_callv (va_runV (As := [.int (nI net), .int (nI pn), .int (nI 0), .int (nI net), .int (-1), .int (nI 1)]) (rest := []) ⟨hx, hb, hml, hown, hts⟩ (c_X1_joinLines l D cI cJ cZ qC qpa qnu qfi qme qus pa nu fi me us cs r net (nI pn) (pn + 1) 0 net (-1) 0 1 s.heap.size _ rfl hR (nI_add _ _) (by decide) (by omega) (by omega)) (cwV 6 hts gX1_joinGate_X1_joinLines rfl rfl rfl (by decide +kernel) ⟨Nat.le_of_ble_eq_true rfl, Nat.le_of_ble_eq_true rfl⟩) ⟨PW.blind, va_recv hK hPc (ci := 1) (q0 := 0) rfl rfl, fun U hU hW => ⟨rfl, PW.to hPc hK hNB hDc hU hW⟩⟩ rfl rfl hl.1 rfl (lv_room (Nat.le_of_ble_eq_true rfl)) dX1_joinGate_103 ⟨Nat.le_of_ble_eq_true rfl, Nat.le_of_ble_eq_true rfl⟩) hS (fun q _ h => hFc q h) hFc (fun u_9 t_9 H1_9 locs ht_9 hvm_9 hw_9 hB_9 hz1_9 hk1_9 hS => ?_)
    obtain ⟨hP1_9, hD1_9⟩ := hB_9
    rw [ht_9] at hP1_9
    obtain ⟨hP, hD⟩ := va_join (wr := []) (w1 := [(qC, .inr (1, [.ref qpa, .ref qnu, .ref qfi, .ref qme, .ref qus, .int (nI cs)])), (qpa, .inl (cI, 600, .inl (upd pa (max (r (net * 6 + (pn + 1) * 2 + 0)) (r (net * 6 + 0 * 2 + 1))) (nI (min (r (net * 6 + (pn + 1) * 2 + 0)) (r (net * 6 + 0 * 2 + 1))))))), (qnu, .inl (cI, 600, .inl nu)), (qfi, .inl (cI, 600, .inl fi)), (qme, .inl (cI, 600, .inl me)), (qus, .inl (cI, 100, .inl us))]) hP hD [0, 1, 2, 3, 4, 5] [] rfl rfl (by decide) (by decide) hk1_9 hFc hP1_9 hD1_9
    generalize H1_9 = H at hP hS ⊢
    have hP : va_P D vwCl [(qC, .inr (1, [.ref qpa, .ref qnu, .ref qfi, .ref qme, .ref qus, .int (nI cs)])), (qpa, .inl (cI, 600, .inl (upd pa (max (r (net * 6 + (pn + 1) * 2 + 0)) (r (net * 6 + 0 * 2 + 1))) (nI (min (r (net * 6 + (pn + 1) * 2 + 0)) (r (net * 6 + 0 * 2 + 1))))))), (qnu, .inl (cI, 600, .inl nu)), (qfi, .inl (cI, 600, .inl fi)), (qme, .inl (cI, 600, .inl me)), (qus, .inl (cI, 100, .inl us))] H := hP
    have hD : va_D A [(qC, .inr (1, [.ref qpa, .ref qnu, .ref qfi, .ref qme, .ref qus, .int (nI cs)])), (qpa, .inl (cI, 600, .inl (upd pa (max (r (net * 6 + (pn + 1) * 2 + 0)) (r (net * 6 + 0 * 2 + 1))) (nI (min (r (net * 6 + (pn + 1) * 2 + 0)) (r (net * 6 + 0 * 2 + 1))))))), (qnu, .inl (cI, 600, .inl nu)), (qfi, .inl (cI, 600, .inl fi)), (qme, .inl (cI, 600, .inl me)), (qus, .inl (cI, 100, .inl us))] := hD
    refine lv_aload_n hx hb dX1_joinGate_106 rfl (lv_at hl 0 rfl) ?_
    refine lv_iload_n hx hb dX1_joinGate_107 rfl (lv_at hl 2 rfl) ?_
    refine lv_iload_n hx hb dX1_joinGate_108 rfl (lv_at hl 3 rfl) ?_
    refine lv_iconst (v := (nI 1)) hx hb dX1_joinGate_109 (by decide) ?_
    refine lv_iload_n hx hb dX1_joinGate_110 rfl (lv_at hl 2 rfl) ?_
    refine lv_iconst (v := (-1)) hx hb dX1_joinGate_111 (by decide) ?_
    refine lv_iconst (v := (nI 0)) hx hb dX1_joinGate_112 (by decide) ?_
    have hPc := hP.sub (ws' := [(qC, .inr (1, [.ref qpa, .ref qnu, .ref qfi, .ref qme, .ref qus, .int (nI cs)])), (qpa, .inl (cI, 600, .inl (upd pa (max (r (net * 6 + (pn + 1) * 2 + 0)) (r (net * 6 + 0 * 2 + 1))) (nI (min (r (net * 6 + (pn + 1) * 2 + 0)) (r (net * 6 + 0 * 2 + 1))))))), (qnu, .inl (cI, 600, .inl nu)), (qfi, .inl (cI, 600, .inl fi)), (qme, .inl (cI, 600, .inl me)), (qus, .inl (cI, 100, .inl us))]) [0, 1, 2, 3, 4, 5] rfl
    have hDc := hD.sub (ws' := [(qC, .inr (1, [.ref qpa, .ref qnu, .ref qfi, .ref qme, .ref qus, .int (nI cs)])), (qpa, .inl (cI, 600, .inl (upd pa (max (r (net * 6 + (pn + 1) * 2 + 0)) (r (net * 6 + 0 * 2 + 1))) (nI (min (r (net * 6 + (pn + 1) * 2 + 0)) (r (net * 6 + 0 * 2 + 1))))))), (qnu, .inl (cI, 600, .inl nu)), (qfi, .inl (cI, 600, .inl fi)), (qme, .inl (cI, 600, .inl me)), (qus, .inl (cI, 100, .inl us))]) [0, 1, 2, 3, 4, 5] (by decide) rfl
    have hFc := va_free (wc := [(qC, .inr (1, [.ref qpa, .ref qnu, .ref qfi, .ref qme, .ref qus, .int (nI cs)])), (qpa, .inl (cI, 600, .inl (upd pa (max (r (net * 6 + (pn + 1) * 2 + 0)) (r (net * 6 + 0 * 2 + 1))) (nI (min (r (net * 6 + (pn + 1) * 2 + 0)) (r (net * 6 + 0 * 2 + 1))))))), (qnu, .inl (cI, 600, .inl nu)), (qfi, .inl (cI, 600, .inl fi)), (qme, .inl (cI, 600, .inl me)), (qus, .inl (cI, 100, .inl us))]) hD hS hA [0, 1, 2, 3, 4, 5] rfl
    refine va_callv (va_runV (As := [.int (nI net), .int (nI pn), .int (nI 1), .int (nI net), .int (-1), .int (nI 0)]) (rest := []) ⟨hx, hb, hml, hown, hts⟩ (c_X1_joinLines l D cI cJ cZ qC qpa qnu qfi qme qus (upd pa (max (r (net * 6 + (pn + 1) * 2 + 0)) (r (net * 6 + 0 * 2 + 1))) (nI (min (r (net * 6 + (pn + 1) * 2 + 0)) (r (net * 6 + 0 * 2 + 1))))) nu fi me us cs (mrg r (net * 6 + (pn + 1) * 2 + 0) (net * 6 + 0 * 2 + 1)) net (nI pn) (pn + 1) 1 net (-1) 0 0 H.size _ rfl (hR.join (by omega) (by omega)) (nI_add _ _) (by decide) (by omega) (by omega)) (cwV 6 hts gX1_joinGate_X1_joinLines rfl rfl rfl (by decide +kernel) ⟨Nat.le_of_ble_eq_true rfl, Nat.le_of_ble_eq_true rfl⟩) ⟨PW.blind, va_recv hK hPc (ci := 1) (q0 := 0) rfl rfl, fun U hU hW => ⟨rfl, PW.to hPc hK hNB hDc hU hW⟩⟩ rfl rfl hl.1 rfl (lv_room (Nat.le_of_ble_eq_true rfl)) dX1_joinGate_113 ⟨Nat.le_of_ble_eq_true rfl, Nat.le_of_ble_eq_true rfl⟩) hS (fun q _ h => hFc q h) hFc (fun u_9 t_9 H1_9 locs ht_9 hvm_9 hw_9 hB_9 hz1_9 hk1_9 hS => ?_)
    obtain ⟨hP1_9, hD1_9⟩ := hB_9
    rw [ht_9] at hP1_9
    obtain ⟨hP, hD⟩ := va_join (wr := []) (w1 := [(qC, .inr (1, [.ref qpa, .ref qnu, .ref qfi, .ref qme, .ref qus, .int (nI cs)])), (qpa, .inl (cI, 600, .inl (upd (upd pa (max (r (net * 6 + (pn + 1) * 2 + 0)) (r (net * 6 + 0 * 2 + 1))) (nI (min (r (net * 6 + (pn + 1) * 2 + 0)) (r (net * 6 + 0 * 2 + 1))))) (max ((mrg r (net * 6 + (pn + 1) * 2 + 0) (net * 6 + 0 * 2 + 1)) (net * 6 + (pn + 1) * 2 + 1)) ((mrg r (net * 6 + (pn + 1) * 2 + 0) (net * 6 + 0 * 2 + 1)) (net * 6 + 0 * 2 + 0))) (nI (min ((mrg r (net * 6 + (pn + 1) * 2 + 0) (net * 6 + 0 * 2 + 1)) (net * 6 + (pn + 1) * 2 + 1)) ((mrg r (net * 6 + (pn + 1) * 2 + 0) (net * 6 + 0 * 2 + 1)) (net * 6 + 0 * 2 + 0))))))), (qnu, .inl (cI, 600, .inl nu)), (qfi, .inl (cI, 600, .inl fi)), (qme, .inl (cI, 600, .inl me)), (qus, .inl (cI, 100, .inl us))]) hP hD [0, 1, 2, 3, 4, 5] [] rfl rfl (by decide) (by decide) hk1_9 hFc hP1_9 hD1_9
    generalize H1_9 = H at hP hS ⊢
    have hP : va_P D vwCl [(qC, .inr (1, [.ref qpa, .ref qnu, .ref qfi, .ref qme, .ref qus, .int (nI cs)])), (qpa, .inl (cI, 600, .inl (upd (upd pa (max (r (net * 6 + (pn + 1) * 2 + 0)) (r (net * 6 + 0 * 2 + 1))) (nI (min (r (net * 6 + (pn + 1) * 2 + 0)) (r (net * 6 + 0 * 2 + 1))))) (max ((mrg r (net * 6 + (pn + 1) * 2 + 0) (net * 6 + 0 * 2 + 1)) (net * 6 + (pn + 1) * 2 + 1)) ((mrg r (net * 6 + (pn + 1) * 2 + 0) (net * 6 + 0 * 2 + 1)) (net * 6 + 0 * 2 + 0))) (nI (min ((mrg r (net * 6 + (pn + 1) * 2 + 0) (net * 6 + 0 * 2 + 1)) (net * 6 + (pn + 1) * 2 + 1)) ((mrg r (net * 6 + (pn + 1) * 2 + 0) (net * 6 + 0 * 2 + 1)) (net * 6 + 0 * 2 + 0))))))), (qnu, .inl (cI, 600, .inl nu)), (qfi, .inl (cI, 600, .inl fi)), (qme, .inl (cI, 600, .inl me)), (qus, .inl (cI, 100, .inl us))] H := hP
    have hD : va_D A [(qC, .inr (1, [.ref qpa, .ref qnu, .ref qfi, .ref qme, .ref qus, .int (nI cs)])), (qpa, .inl (cI, 600, .inl (upd (upd pa (max (r (net * 6 + (pn + 1) * 2 + 0)) (r (net * 6 + 0 * 2 + 1))) (nI (min (r (net * 6 + (pn + 1) * 2 + 0)) (r (net * 6 + 0 * 2 + 1))))) (max ((mrg r (net * 6 + (pn + 1) * 2 + 0) (net * 6 + 0 * 2 + 1)) (net * 6 + (pn + 1) * 2 + 1)) ((mrg r (net * 6 + (pn + 1) * 2 + 0) (net * 6 + 0 * 2 + 1)) (net * 6 + 0 * 2 + 0))) (nI (min ((mrg r (net * 6 + (pn + 1) * 2 + 0) (net * 6 + 0 * 2 + 1)) (net * 6 + (pn + 1) * 2 + 1)) ((mrg r (net * 6 + (pn + 1) * 2 + 0) (net * 6 + 0 * 2 + 1)) (net * 6 + 0 * 2 + 0))))))), (qnu, .inl (cI, 600, .inl nu)), (qfi, .inl (cI, 600, .inl fi)), (qme, .inl (cI, 600, .inl me)), (qus, .inl (cI, 100, .inl us))] := hD
    refine lv_goto (tgt := 142) hx hb dX1_joinGate_116 (by decide) ?_
    exact W.vret hx hb hr (fun t_9 ht_9 hW_9 => ⟨⟨upd (upd pa (max (r (net * 6 + (pn + 1) * 2 + 0)) (r (net * 6 + 0 * 2 + 1))) (nI (min (r (net * 6 + (pn + 1) * 2 + 0)) (r (net * 6 + 0 * 2 + 1))))) (max ((mrg r (net * 6 + (pn + 1) * 2 + 0) (net * 6 + 0 * 2 + 1)) (net * 6 + (pn + 1) * 2 + 1)) ((mrg r (net * 6 + (pn + 1) * 2 + 0) (net * 6 + 0 * 2 + 1)) (net * 6 + 0 * 2 + 0))) (nI (min ((mrg r (net * 6 + (pn + 1) * 2 + 0) (net * 6 + 0 * 2 + 1)) (net * 6 + (pn + 1) * 2 + 1)) ((mrg r (net * 6 + (pn + 1) * 2 + 0) (net * 6 + 0 * 2 + 1)) (net * 6 + 0 * 2 + 0)))), rfl, (show RootOf (upd (upd pa (max (r (net * 6 + (pn + 1) * 2 + 0)) (r (net * 6 + 0 * 2 + 1))) (nI (min (r (net * 6 + (pn + 1) * 2 + 0)) (r (net * 6 + 0 * 2 + 1))))) (max ((mrg r (net * 6 + (pn + 1) * 2 + 0) (net * 6 + 0 * 2 + 1)) (net * 6 + (pn + 1) * 2 + 1)) ((mrg r (net * 6 + (pn + 1) * 2 + 0) (net * 6 + 0 * 2 + 1)) (net * 6 + 0 * 2 + 0))) (nI (min ((mrg r (net * 6 + (pn + 1) * 2 + 0) (net * 6 + 0 * 2 + 1)) (net * 6 + (pn + 1) * 2 + 1)) ((mrg r (net * 6 + (pn + 1) * 2 + 0) (net * 6 + 0 * 2 + 1)) (net * 6 + 0 * 2 + 0))))) (mrgs (gP k net pn) r) from (by rw [k_5]; exact (hR.join (f := FO net (pn + 1) 0) (g := FO net 0 1) (by unfold FO; omega) (by unfold FO; omega)).join (f := FO net (pn + 1) 1) (g := FO net 0 0) (by unfold FO; omega) (by unfold FO; omega))), ⟨by rw [ht_9]; exact hP, hD⟩⟩, hS.F ht_9⟩) hS.2.2 dX1_joinGate_142
  by_cases k_6 : k = nI 6
  · skip
    refine zz_i (z := nI 6) k_6 ?_
    refine lv_tableIn (off := 118) (tgt := 119) hx hb dX1_joinGate_1 (by decide) (by decide) rfl (by decide) ?_
    refine lv_aload_n hx hb dX1_joinGate_119 rfl (lv_at hl 0 rfl) ?_
    refine lv_iload_n hx hb dX1_joinGate_120 rfl (lv_at hl 2 rfl) ?_
    refine lv_iload_n hx hb dX1_joinGate_121 rfl (lv_at hl 3 rfl) ?_
    refine lv_iconst (v := (nI 0)) hx hb dX1_joinGate_122 (by decide) ?_
    refine lv_iload_n hx hb dX1_joinGate_123 rfl (lv_at hl 2 rfl) ?_
    refine lv_iconst (v := (-1)) hx hb dX1_joinGate_124 (by decide) ?_
    refine lv_iconst (v := (nI 0)) hx hb dX1_joinGate_125 (by decide) ?_
    have hPc := hP.sub (ws' := [(qC, .inr (1, [.ref qpa, .ref qnu, .ref qfi, .ref qme, .ref qus, .int (nI cs)])), (qpa, .inl (cI, 600, .inl pa)), (qnu, .inl (cI, 600, .inl nu)), (qfi, .inl (cI, 600, .inl fi)), (qme, .inl (cI, 600, .inl me)), (qus, .inl (cI, 100, .inl us))]) [0, 1, 2, 3, 4, 5] rfl
    have hDc := hD.sub (ws' := [(qC, .inr (1, [.ref qpa, .ref qnu, .ref qfi, .ref qme, .ref qus, .int (nI cs)])), (qpa, .inl (cI, 600, .inl pa)), (qnu, .inl (cI, 600, .inl nu)), (qfi, .inl (cI, 600, .inl fi)), (qme, .inl (cI, 600, .inl me)), (qus, .inl (cI, 100, .inl us))]) [0, 1, 2, 3, 4, 5] (by decide) rfl
    have hFc := va_free (wc := [(qC, .inr (1, [.ref qpa, .ref qnu, .ref qfi, .ref qme, .ref qus, .int (nI cs)])), (qpa, .inl (cI, 600, .inl pa)), (qnu, .inl (cI, 600, .inl nu)), (qfi, .inl (cI, 600, .inl fi)), (qme, .inl (cI, 600, .inl me)), (qus, .inl (cI, 100, .inl us))]) hD hS hA [0, 1, 2, 3, 4, 5] rfl
    refine va_callv (va_runV (As := [.int (nI net), .int (nI pn), .int (nI 0), .int (nI net), .int (-1), .int (nI 0)]) (rest := []) ⟨hx, hb, hml, hown, hts⟩ (c_X1_joinLines l D cI cJ cZ qC qpa qnu qfi qme qus pa nu fi me us cs r net (nI pn) (pn + 1) 0 net (-1) 0 0 s.heap.size _ rfl hR (nI_add _ _) (by decide) (by omega) (by omega)) (cwV 6 hts gX1_joinGate_X1_joinLines rfl rfl rfl (by decide +kernel) ⟨Nat.le_of_ble_eq_true rfl, Nat.le_of_ble_eq_true rfl⟩) ⟨PW.blind, va_recv hK hPc (ci := 1) (q0 := 0) rfl rfl, fun U hU hW => ⟨rfl, PW.to hPc hK hNB hDc hU hW⟩⟩ rfl rfl hl.1 rfl (lv_room (Nat.le_of_ble_eq_true rfl)) dX1_joinGate_126 ⟨Nat.le_of_ble_eq_true rfl, Nat.le_of_ble_eq_true rfl⟩) hS (fun q _ h => hFc q h) hFc (fun u_9 t_9 H1_9 locs ht_9 hvm_9 hw_9 hB_9 hz1_9 hk1_9 hS => ?_)
    obtain ⟨hP1_9, hD1_9⟩ := hB_9
    rw [ht_9] at hP1_9
    obtain ⟨hP, hD⟩ := va_join (wr := []) (w1 := [(qC, .inr (1, [.ref qpa, .ref qnu, .ref qfi, .ref qme, .ref qus, .int (nI cs)])), (qpa, .inl (cI, 600, .inl (upd pa (max (r (net * 6 + (pn + 1) * 2 + 0)) (r (net * 6 + 0 * 2 + 0))) (nI (min (r (net * 6 + (pn + 1) * 2 + 0)) (r (net * 6 + 0 * 2 + 0))))))), (qnu, .inl (cI, 600, .inl nu)), (qfi, .inl (cI, 600, .inl fi)), (qme, .inl (cI, 600, .inl me)), (qus, .inl (cI, 100, .inl us))]) hP hD [0, 1, 2, 3, 4, 5] [] rfl rfl (by decide) (by decide) hk1_9 hFc hP1_9 hD1_9
    generalize H1_9 = H at hP hS ⊢
    have hP : va_P D vwCl [(qC, .inr (1, [.ref qpa, .ref qnu, .ref qfi, .ref qme, .ref qus, .int (nI cs)])), (qpa, .inl (cI, 600, .inl (upd pa (max (r (net * 6 + (pn + 1) * 2 + 0)) (r (net * 6 + 0 * 2 + 0))) (nI (min (r (net * 6 + (pn + 1) * 2 + 0)) (r (net * 6 + 0 * 2 + 0))))))), (qnu, .inl (cI, 600, .inl nu)), (qfi, .inl (cI, 600, .inl fi)), (qme, .inl (cI, 600, .inl me)), (qus, .inl (cI, 100, .inl us))] H := hP
    have hD : va_D A [(qC, .inr (1, [.ref qpa, .ref qnu, .ref qfi, .ref qme, .ref qus, .int (nI cs)])), (qpa, .inl (cI, 600, .inl (upd pa (max (r (net * 6 + (pn + 1) * 2 + 0)) (r (net * 6 + 0 * 2 + 0))) (nI (min (r (net * 6 + (pn + 1) * 2 + 0)) (r (net * 6 + 0 * 2 + 0))))))), (qnu, .inl (cI, 600, .inl nu)), (qfi, .inl (cI, 600, .inl fi)), (qme, .inl (cI, 600, .inl me)), (qus, .inl (cI, 100, .inl us))] := hD
    refine lv_aload_n hx hb dX1_joinGate_129 rfl (lv_at hl 0 rfl) ?_
    refine lv_iload_n hx hb dX1_joinGate_130 rfl (lv_at hl 2 rfl) ?_
    refine lv_iload_n hx hb dX1_joinGate_131 rfl (lv_at hl 3 rfl) ?_
    refine lv_iconst (v := (nI 1)) hx hb dX1_joinGate_132 (by decide) ?_
    refine lv_iload_n hx hb dX1_joinGate_133 rfl (lv_at hl 2 rfl) ?_
    refine lv_iconst (v := (-1)) hx hb dX1_joinGate_134 (by decide) ?_
    refine lv_iconst (v := (nI 1)) hx hb dX1_joinGate_135 (by decide) ?_
    have hPc := hP.sub (ws' := [(qC, .inr (1, [.ref qpa, .ref qnu, .ref qfi, .ref qme, .ref qus, .int (nI cs)])), (qpa, .inl (cI, 600, .inl (upd pa (max (r (net * 6 + (pn + 1) * 2 + 0)) (r (net * 6 + 0 * 2 + 0))) (nI (min (r (net * 6 + (pn + 1) * 2 + 0)) (r (net * 6 + 0 * 2 + 0))))))), (qnu, .inl (cI, 600, .inl nu)), (qfi, .inl (cI, 600, .inl fi)), (qme, .inl (cI, 600, .inl me)), (qus, .inl (cI, 100, .inl us))]) [0, 1, 2, 3, 4, 5] rfl
    have hDc := hD.sub (ws' := [(qC, .inr (1, [.ref qpa, .ref qnu, .ref qfi, .ref qme, .ref qus, .int (nI cs)])), (qpa, .inl (cI, 600, .inl (upd pa (max (r (net * 6 + (pn + 1) * 2 + 0)) (r (net * 6 + 0 * 2 + 0))) (nI (min (r (net * 6 + (pn + 1) * 2 + 0)) (r (net * 6 + 0 * 2 + 0))))))), (qnu, .inl (cI, 600, .inl nu)), (qfi, .inl (cI, 600, .inl fi)), (qme, .inl (cI, 600, .inl me)), (qus, .inl (cI, 100, .inl us))]) [0, 1, 2, 3, 4, 5] (by decide) rfl
    have hFc := va_free (wc := [(qC, .inr (1, [.ref qpa, .ref qnu, .ref qfi, .ref qme, .ref qus, .int (nI cs)])), (qpa, .inl (cI, 600, .inl (upd pa (max (r (net * 6 + (pn + 1) * 2 + 0)) (r (net * 6 + 0 * 2 + 0))) (nI (min (r (net * 6 + (pn + 1) * 2 + 0)) (r (net * 6 + 0 * 2 + 0))))))), (qnu, .inl (cI, 600, .inl nu)), (qfi, .inl (cI, 600, .inl fi)), (qme, .inl (cI, 600, .inl me)), (qus, .inl (cI, 100, .inl us))]) hD hS hA [0, 1, 2, 3, 4, 5] rfl
    refine va_callv (va_runV (As := [.int (nI net), .int (nI pn), .int (nI 1), .int (nI net), .int (-1), .int (nI 1)]) (rest := []) ⟨hx, hb, hml, hown, hts⟩ (c_X1_joinLines l D cI cJ cZ qC qpa qnu qfi qme qus (upd pa (max (r (net * 6 + (pn + 1) * 2 + 0)) (r (net * 6 + 0 * 2 + 0))) (nI (min (r (net * 6 + (pn + 1) * 2 + 0)) (r (net * 6 + 0 * 2 + 0))))) nu fi me us cs (mrg r (net * 6 + (pn + 1) * 2 + 0) (net * 6 + 0 * 2 + 0)) net (nI pn) (pn + 1) 1 net (-1) 0 1 H.size _ rfl (hR.join (by omega) (by omega)) (nI_add _ _) (by decide) (by omega) (by omega)) (cwV 6 hts gX1_joinGate_X1_joinLines rfl rfl rfl (by decide +kernel) ⟨Nat.le_of_ble_eq_true rfl, Nat.le_of_ble_eq_true rfl⟩) ⟨PW.blind, va_recv hK hPc (ci := 1) (q0 := 0) rfl rfl, fun U hU hW => ⟨rfl, PW.to hPc hK hNB hDc hU hW⟩⟩ rfl rfl hl.1 rfl (lv_room (Nat.le_of_ble_eq_true rfl)) dX1_joinGate_136 ⟨Nat.le_of_ble_eq_true rfl, Nat.le_of_ble_eq_true rfl⟩) hS (fun q _ h => hFc q h) hFc (fun u_9 t_9 H1_9 locs ht_9 hvm_9 hw_9 hB_9 hz1_9 hk1_9 hS => ?_)
    obtain ⟨hP1_9, hD1_9⟩ := hB_9
    rw [ht_9] at hP1_9
    obtain ⟨hP, hD⟩ := va_join (wr := []) (w1 := [(qC, .inr (1, [.ref qpa, .ref qnu, .ref qfi, .ref qme, .ref qus, .int (nI cs)])), (qpa, .inl (cI, 600, .inl (upd (upd pa (max (r (net * 6 + (pn + 1) * 2 + 0)) (r (net * 6 + 0 * 2 + 0))) (nI (min (r (net * 6 + (pn + 1) * 2 + 0)) (r (net * 6 + 0 * 2 + 0))))) (max ((mrg r (net * 6 + (pn + 1) * 2 + 0) (net * 6 + 0 * 2 + 0)) (net * 6 + (pn + 1) * 2 + 1)) ((mrg r (net * 6 + (pn + 1) * 2 + 0) (net * 6 + 0 * 2 + 0)) (net * 6 + 0 * 2 + 1))) (nI (min ((mrg r (net * 6 + (pn + 1) * 2 + 0) (net * 6 + 0 * 2 + 0)) (net * 6 + (pn + 1) * 2 + 1)) ((mrg r (net * 6 + (pn + 1) * 2 + 0) (net * 6 + 0 * 2 + 0)) (net * 6 + 0 * 2 + 1))))))), (qnu, .inl (cI, 600, .inl nu)), (qfi, .inl (cI, 600, .inl fi)), (qme, .inl (cI, 600, .inl me)), (qus, .inl (cI, 100, .inl us))]) hP hD [0, 1, 2, 3, 4, 5] [] rfl rfl (by decide) (by decide) hk1_9 hFc hP1_9 hD1_9
    generalize H1_9 = H at hP hS ⊢
    have hP : va_P D vwCl [(qC, .inr (1, [.ref qpa, .ref qnu, .ref qfi, .ref qme, .ref qus, .int (nI cs)])), (qpa, .inl (cI, 600, .inl (upd (upd pa (max (r (net * 6 + (pn + 1) * 2 + 0)) (r (net * 6 + 0 * 2 + 0))) (nI (min (r (net * 6 + (pn + 1) * 2 + 0)) (r (net * 6 + 0 * 2 + 0))))) (max ((mrg r (net * 6 + (pn + 1) * 2 + 0) (net * 6 + 0 * 2 + 0)) (net * 6 + (pn + 1) * 2 + 1)) ((mrg r (net * 6 + (pn + 1) * 2 + 0) (net * 6 + 0 * 2 + 0)) (net * 6 + 0 * 2 + 1))) (nI (min ((mrg r (net * 6 + (pn + 1) * 2 + 0) (net * 6 + 0 * 2 + 0)) (net * 6 + (pn + 1) * 2 + 1)) ((mrg r (net * 6 + (pn + 1) * 2 + 0) (net * 6 + 0 * 2 + 0)) (net * 6 + 0 * 2 + 1))))))), (qnu, .inl (cI, 600, .inl nu)), (qfi, .inl (cI, 600, .inl fi)), (qme, .inl (cI, 600, .inl me)), (qus, .inl (cI, 100, .inl us))] H := hP
    have hD : va_D A [(qC, .inr (1, [.ref qpa, .ref qnu, .ref qfi, .ref qme, .ref qus, .int (nI cs)])), (qpa, .inl (cI, 600, .inl (upd (upd pa (max (r (net * 6 + (pn + 1) * 2 + 0)) (r (net * 6 + 0 * 2 + 0))) (nI (min (r (net * 6 + (pn + 1) * 2 + 0)) (r (net * 6 + 0 * 2 + 0))))) (max ((mrg r (net * 6 + (pn + 1) * 2 + 0) (net * 6 + 0 * 2 + 0)) (net * 6 + (pn + 1) * 2 + 1)) ((mrg r (net * 6 + (pn + 1) * 2 + 0) (net * 6 + 0 * 2 + 0)) (net * 6 + 0 * 2 + 1))) (nI (min ((mrg r (net * 6 + (pn + 1) * 2 + 0) (net * 6 + 0 * 2 + 0)) (net * 6 + (pn + 1) * 2 + 1)) ((mrg r (net * 6 + (pn + 1) * 2 + 0) (net * 6 + 0 * 2 + 0)) (net * 6 + 0 * 2 + 1))))))), (qnu, .inl (cI, 600, .inl nu)), (qfi, .inl (cI, 600, .inl fi)), (qme, .inl (cI, 600, .inl me)), (qus, .inl (cI, 100, .inl us))] := hD
    refine lv_goto (tgt := 142) hx hb dX1_joinGate_139 (by decide) ?_
    exact W.vret hx hb hr (fun t_9 ht_9 hW_9 => ⟨⟨upd (upd pa (max (r (net * 6 + (pn + 1) * 2 + 0)) (r (net * 6 + 0 * 2 + 0))) (nI (min (r (net * 6 + (pn + 1) * 2 + 0)) (r (net * 6 + 0 * 2 + 0))))) (max ((mrg r (net * 6 + (pn + 1) * 2 + 0) (net * 6 + 0 * 2 + 0)) (net * 6 + (pn + 1) * 2 + 1)) ((mrg r (net * 6 + (pn + 1) * 2 + 0) (net * 6 + 0 * 2 + 0)) (net * 6 + 0 * 2 + 1))) (nI (min ((mrg r (net * 6 + (pn + 1) * 2 + 0) (net * 6 + 0 * 2 + 0)) (net * 6 + (pn + 1) * 2 + 1)) ((mrg r (net * 6 + (pn + 1) * 2 + 0) (net * 6 + 0 * 2 + 0)) (net * 6 + 0 * 2 + 1)))), rfl, (show RootOf (upd (upd pa (max (r (net * 6 + (pn + 1) * 2 + 0)) (r (net * 6 + 0 * 2 + 0))) (nI (min (r (net * 6 + (pn + 1) * 2 + 0)) (r (net * 6 + 0 * 2 + 0))))) (max ((mrg r (net * 6 + (pn + 1) * 2 + 0) (net * 6 + 0 * 2 + 0)) (net * 6 + (pn + 1) * 2 + 1)) ((mrg r (net * 6 + (pn + 1) * 2 + 0) (net * 6 + 0 * 2 + 0)) (net * 6 + 0 * 2 + 1))) (nI (min ((mrg r (net * 6 + (pn + 1) * 2 + 0) (net * 6 + 0 * 2 + 0)) (net * 6 + (pn + 1) * 2 + 1)) ((mrg r (net * 6 + (pn + 1) * 2 + 0) (net * 6 + 0 * 2 + 0)) (net * 6 + 0 * 2 + 1))))) (mrgs (gP k net pn) r) from (by rw [k_6]; exact (hR.join (f := FO net (pn + 1) 0) (g := FO net 0 0) (by unfold FO; omega) (by unfold FO; omega)).join (f := FO net (pn + 1) 1) (g := FO net 0 1) (by unfold FO; omega) (by unfold FO; omega))), ⟨by rw [ht_9]; exact hP, hD⟩⟩, hS.F ht_9⟩) hS.2.2 dX1_joinGate_142
  refine lv_tableOut (tgt := 142) hx hb dX1_joinGate_1 (zs_out (n := 7) (by decide) (fun j hj => by rcases (show j = 0 ∨ j = 1 ∨ j = 2 ∨ j = 3 ∨ j = 4 ∨ j = 5 ∨ j = 6 by omega) with rfl | rfl | rfl | rfl | rfl | rfl | rfl <;> assumption)) (by decide) ?_
  exact W.vret hx hb hr (fun t_9 ht_9 hW_9 => ⟨⟨pa, rfl, (show RootOf pa (mrgs (gP k net pn) r) from (by rw [gP_o k_0 k_1 k_3 k_4 k_5 k_6]; exact hR)), ⟨by rw [ht_9]; exact hP, hD⟩⟩, hS.F ht_9⟩) hS.2.2 dX1_joinGate_142

set_option maxHeartbeats 4000000 in
set_option maxRecDepth 100000 in
theorem c_X1_joinSource (l : Launch) (D : va_G) (cI cJ cZ : ClassId) (qC : Nat) (qpa : Nat) (qnu : Nat) (qfi : Nat) (qme : Nat) (qus : Nat) (pa : Nat → Int32) (nu : Nat → Int32) (fi : Nat → Int32) (me : Nat → Int32) (us : Nat → Int32) (cs : Nat) (r : Nat → Nat) (q : Nat) (net : Nat) (pn : Nat) (u : Nat) (sz : Nat) (A : Nat → Prop) (hAe : A = va_A [(qC, .inr (1, [.ref qpa, .ref qnu, .ref qfi, .ref qme, .ref qus, .int (nI cs)])), (qpa, .inl (cI, 600, .inl pa)), (qnu, .inl (cI, 600, .inl nu)), (qfi, .inl (cI, 600, .inl fi)), (qme, .inl (cI, 600, .inl me)), (qus, .inl (cI, 100, .inl us))] sz) (hR : RootOf pa r) (hq : q < 100) (hnet : net < 100) (hpn : pn < 2) (hu : us q = nI u) (hu2 : u < 2 ^ 31) : Met l yX1_joinSource wsX1_joinSource ({ frames := 2, cells := 0, slots := 0, locals := 51 } : Room) (va_Pc [.ref qC, .int (nI q), .int (nI net), .int (nI pn)] (PW D cI cJ cZ [(qC, .inr (1, [.ref qpa, .ref qnu, .ref qfi, .ref qme, .ref qus, .int (nI cs)])), (qpa, .inl (cI, 600, .inl pa)), (qnu, .inl (cI, 600, .inl nu)), (qfi, .inl (cI, 600, .inl fi)), (qme, .inl (cI, 600, .inl me)), (qus, .inl (cI, 100, .inl us))] sz)) (va_Qv (fun u9 : (Nat → Int32) => match u9 with | pa2 => RootOf pa2 (mrgs (sP u q net pn) r)) (fun (u9 : (Nat → Int32)) t => match u9 with | pa2 => PQ D A [(qC, .inr (1, [.ref qpa, .ref qnu, .ref qfi, .ref qme, .ref qus, .int (nI cs)])), (qpa, .inl (cI, 600, .inl pa2)), (qnu, .inl (cI, 600, .inl nu)), (qfi, .inl (cI, 600, .inl fi)), (qme, .inl (cI, 600, .inl me)), (qus, .inl (cI, 100, .inl us))] t) A) 0 0 A := by
  refine Met.ofW (cc := cX1_joinSource) (maxL := 4) (ret := none) (by decide) rfl ?_
  intro p e s m args below meth c s₁ B hml hv
  obtain ⟨rfl, hsz, ⟨hP, hK, hNB⟩, hD0⟩ := hv
  have hx := B.exec
  have hb := B.bytes
  have hr := B.returns
  have hts := atoms_spec (ws := wsX1_joinSource) B.pre
  have hown : s.vm.findClass RX1 = some m.cls := findClass_of_methodNamed B.named
  have hlocks := B.notSynchronized
  have hiX1 : ∀ w ∈ u_ws RX1 TX1 6, w ∈ wsX1_joinSource := by decide +kernel
  subst hsz
  have hD : va_D A [(qC, .inr (1, [.ref qpa, .ref qnu, .ref qfi, .ref qme, .ref qus, .int (nI cs)])), (qpa, .inl (cI, 600, .inl pa)), (qnu, .inl (cI, 600, .inl nu)), (qfi, .inl (cI, 600, .inl fi)), (qme, .inl (cI, 600, .inl me)), (qus, .inl (cI, 100, .inl us))] := by rw [hAe]; exact hD0.self
  have hA : ∀ q : Nat, s.heap.size ≤ q → A q := fun q h => by rw [hAe]; exact Or.inr h
  have hS : va_S A s.heap s.heap [] := va_S.rf
  have hl := lv_entry ([.ref qC, .int (nI q), .int (nI net), .int (nI pn)]) (n := 4) (Nat.le_of_ble_eq_true rfl)
  rw [lg_entry_eq]
  generalize (lg_sl ([.ref qC, .int (nI q), .int (nI net), .int (nI pn)]) ++ List.replicate (4 - (lg_sl ([.ref qC, .int (nI q), .int (nI net), .int (nI pn)])).length) Slot.unset).toArray = ls at hl ⊢
  have hl : lv_has ls 4 [(0, .ref qC), (1, .int (nI q)), (2, .int (nI net)), (3, .int (nI pn))] := hl
  refine lv_aload_n hx hb dX1_joinSource_0 rfl (lv_at hl 0 rfl) ?_
  refine va_get (D := D) (ci := 1) (v := .ref qus) (C := RX1) (T := TX1) (N := 6) hx hb hts hiX1 hown hK hP 0 rfl rfl 4 (by decide) (hts (.fieldLink RX1 24 "FaultSearch$Classes" "uses" "[I") (by decide +kernel)) (fun _ h9 => h9) rfl dX1_joinSource_1 ?_
  refine lv_iload_n hx hb dX1_joinSource_4 rfl (lv_at hl 1 rfl) ?_
  refine zz_iald hx hb hK hP 5 0 rfl rfl (n := 100) (j := q) (by omega) (by decide) dX1_joinSource_5 ?_
  refine lv_iconst (v := (nI 1)) hx hb dX1_joinSource_6 (by decide) ?_
  refine lv_icmp_ne (tgt := 30) hx hb dX1_joinSource_7 (by decide) (fun c_7 => ?_) (fun c_7 => ?_)
  · skip
    exact W.vret hx hb hr (fun t_9 ht_9 hW_9 => ⟨⟨pa, rfl, (show RootOf pa (mrgs (sP u q net pn) r) from (by rw [sP, if_neg (fun e => c_7 (by rw [hu, e]))]; exact hR)), ⟨by rw [ht_9]; exact hP, hD⟩⟩, hS.F ht_9⟩) hS.2.2 dX1_joinSource_30
  · skip
    refine lv_aload_n hx hb dX1_joinSource_10 rfl (lv_at hl 0 rfl) ?_
    refine lv_iload_n hx hb dX1_joinSource_11 rfl (lv_at hl 1 rfl) ?_
    refine lv_iconst (v := (-1)) hx hb dX1_joinSource_12 (by decide) ?_
    refine lv_iconst (v := (nI 0)) hx hb dX1_joinSource_13 (by decide) ?_
    refine lv_iload_n hx hb dX1_joinSource_14 rfl (lv_at hl 2 rfl) ?_
    refine lv_iload_n hx hb dX1_joinSource_15 rfl (lv_at hl 3 rfl) ?_
    refine lv_iconst (v := (nI 0)) hx hb dX1_joinSource_16 (by decide) ?_
    have hPc := hP.sub (ws' := [(qC, .inr (1, [.ref qpa, .ref qnu, .ref qfi, .ref qme, .ref qus, .int (nI cs)])), (qpa, .inl (cI, 600, .inl pa)), (qnu, .inl (cI, 600, .inl nu)), (qfi, .inl (cI, 600, .inl fi)), (qme, .inl (cI, 600, .inl me)), (qus, .inl (cI, 100, .inl us))]) [0, 1, 2, 3, 4, 5] rfl
    have hDc := hD.sub (ws' := [(qC, .inr (1, [.ref qpa, .ref qnu, .ref qfi, .ref qme, .ref qus, .int (nI cs)])), (qpa, .inl (cI, 600, .inl pa)), (qnu, .inl (cI, 600, .inl nu)), (qfi, .inl (cI, 600, .inl fi)), (qme, .inl (cI, 600, .inl me)), (qus, .inl (cI, 100, .inl us))]) [0, 1, 2, 3, 4, 5] (by decide) rfl
    have hFc := va_free (wc := [(qC, .inr (1, [.ref qpa, .ref qnu, .ref qfi, .ref qme, .ref qus, .int (nI cs)])), (qpa, .inl (cI, 600, .inl pa)), (qnu, .inl (cI, 600, .inl nu)), (qfi, .inl (cI, 600, .inl fi)), (qme, .inl (cI, 600, .inl me)), (qus, .inl (cI, 100, .inl us))]) hD hS hA [0, 1, 2, 3, 4, 5] rfl
    refine va_callv (va_runV (As := [.int (nI q), .int (-1), .int (nI 0), .int (nI net), .int (nI pn), .int (nI 0)]) (rest := []) ⟨hx, hb, hml, hown, hts⟩ (c_X1_joinLines l D cI cJ cZ qC qpa qnu qfi qme qus pa nu fi me us cs r q (-1) 0 0 net (nI pn) (pn + 1) 0 s.heap.size _ rfl hR (by decide) (nI_add _ _) (by omega) (by omega)) (cwV 6 hts gX1_joinSource_X1_joinLines rfl rfl rfl (by decide +kernel) ⟨Nat.le_of_ble_eq_true rfl, Nat.le_of_ble_eq_true rfl⟩) ⟨PW.blind, va_recv hK hPc (ci := 1) (q0 := 0) rfl rfl, fun U hU hW => ⟨rfl, PW.to hPc hK hNB hDc hU hW⟩⟩ rfl rfl hl.1 rfl (lv_room (Nat.le_of_ble_eq_true rfl)) dX1_joinSource_17 ⟨Nat.le_of_ble_eq_true rfl, Nat.le_of_ble_eq_true rfl⟩) hS (fun q _ h => hFc q h) hFc (fun u_9 t_9 H1_9 locs ht_9 hvm_9 hw_9 hB_9 hz1_9 hk1_9 hS => ?_)
    obtain ⟨hP1_9, hD1_9⟩ := hB_9
    rw [ht_9] at hP1_9
    obtain ⟨hP, hD⟩ := va_join (wr := []) (w1 := [(qC, .inr (1, [.ref qpa, .ref qnu, .ref qfi, .ref qme, .ref qus, .int (nI cs)])), (qpa, .inl (cI, 600, .inl (upd pa (max (r (q * 6 + 0 * 2 + 0)) (r (net * 6 + (pn + 1) * 2 + 0))) (nI (min (r (q * 6 + 0 * 2 + 0)) (r (net * 6 + (pn + 1) * 2 + 0))))))), (qnu, .inl (cI, 600, .inl nu)), (qfi, .inl (cI, 600, .inl fi)), (qme, .inl (cI, 600, .inl me)), (qus, .inl (cI, 100, .inl us))]) hP hD [0, 1, 2, 3, 4, 5] [] rfl rfl (by decide) (by decide) hk1_9 hFc hP1_9 hD1_9
    generalize H1_9 = H at hP hS ⊢
    have hP : va_P D vwCl [(qC, .inr (1, [.ref qpa, .ref qnu, .ref qfi, .ref qme, .ref qus, .int (nI cs)])), (qpa, .inl (cI, 600, .inl (upd pa (max (r (q * 6 + 0 * 2 + 0)) (r (net * 6 + (pn + 1) * 2 + 0))) (nI (min (r (q * 6 + 0 * 2 + 0)) (r (net * 6 + (pn + 1) * 2 + 0))))))), (qnu, .inl (cI, 600, .inl nu)), (qfi, .inl (cI, 600, .inl fi)), (qme, .inl (cI, 600, .inl me)), (qus, .inl (cI, 100, .inl us))] H := hP
    have hD : va_D A [(qC, .inr (1, [.ref qpa, .ref qnu, .ref qfi, .ref qme, .ref qus, .int (nI cs)])), (qpa, .inl (cI, 600, .inl (upd pa (max (r (q * 6 + 0 * 2 + 0)) (r (net * 6 + (pn + 1) * 2 + 0))) (nI (min (r (q * 6 + 0 * 2 + 0)) (r (net * 6 + (pn + 1) * 2 + 0))))))), (qnu, .inl (cI, 600, .inl nu)), (qfi, .inl (cI, 600, .inl fi)), (qme, .inl (cI, 600, .inl me)), (qus, .inl (cI, 100, .inl us))] := hD
    refine lv_aload_n hx hb dX1_joinSource_20 rfl (lv_at hl 0 rfl) ?_
    refine lv_iload_n hx hb dX1_joinSource_21 rfl (lv_at hl 1 rfl) ?_
    refine lv_iconst (v := (-1)) hx hb dX1_joinSource_22 (by decide) ?_
    refine lv_iconst (v := (nI 1)) hx hb dX1_joinSource_23 (by decide) ?_
    refine lv_iload_n hx hb dX1_joinSource_24 rfl (lv_at hl 2 rfl) ?_
    refine lv_iload_n hx hb dX1_joinSource_25 rfl (lv_at hl 3 rfl) ?_
    refine lv_iconst (v := (nI 1)) hx hb dX1_joinSource_26 (by decide) ?_
    have hPc := hP.sub (ws' := [(qC, .inr (1, [.ref qpa, .ref qnu, .ref qfi, .ref qme, .ref qus, .int (nI cs)])), (qpa, .inl (cI, 600, .inl (upd pa (max (r (q * 6 + 0 * 2 + 0)) (r (net * 6 + (pn + 1) * 2 + 0))) (nI (min (r (q * 6 + 0 * 2 + 0)) (r (net * 6 + (pn + 1) * 2 + 0))))))), (qnu, .inl (cI, 600, .inl nu)), (qfi, .inl (cI, 600, .inl fi)), (qme, .inl (cI, 600, .inl me)), (qus, .inl (cI, 100, .inl us))]) [0, 1, 2, 3, 4, 5] rfl
    have hDc := hD.sub (ws' := [(qC, .inr (1, [.ref qpa, .ref qnu, .ref qfi, .ref qme, .ref qus, .int (nI cs)])), (qpa, .inl (cI, 600, .inl (upd pa (max (r (q * 6 + 0 * 2 + 0)) (r (net * 6 + (pn + 1) * 2 + 0))) (nI (min (r (q * 6 + 0 * 2 + 0)) (r (net * 6 + (pn + 1) * 2 + 0))))))), (qnu, .inl (cI, 600, .inl nu)), (qfi, .inl (cI, 600, .inl fi)), (qme, .inl (cI, 600, .inl me)), (qus, .inl (cI, 100, .inl us))]) [0, 1, 2, 3, 4, 5] (by decide) rfl
    have hFc := va_free (wc := [(qC, .inr (1, [.ref qpa, .ref qnu, .ref qfi, .ref qme, .ref qus, .int (nI cs)])), (qpa, .inl (cI, 600, .inl (upd pa (max (r (q * 6 + 0 * 2 + 0)) (r (net * 6 + (pn + 1) * 2 + 0))) (nI (min (r (q * 6 + 0 * 2 + 0)) (r (net * 6 + (pn + 1) * 2 + 0))))))), (qnu, .inl (cI, 600, .inl nu)), (qfi, .inl (cI, 600, .inl fi)), (qme, .inl (cI, 600, .inl me)), (qus, .inl (cI, 100, .inl us))]) hD hS hA [0, 1, 2, 3, 4, 5] rfl
    refine va_callv (va_runV (As := [.int (nI q), .int (-1), .int (nI 1), .int (nI net), .int (nI pn), .int (nI 1)]) (rest := []) ⟨hx, hb, hml, hown, hts⟩ (c_X1_joinLines l D cI cJ cZ qC qpa qnu qfi qme qus (upd pa (max (r (q * 6 + 0 * 2 + 0)) (r (net * 6 + (pn + 1) * 2 + 0))) (nI (min (r (q * 6 + 0 * 2 + 0)) (r (net * 6 + (pn + 1) * 2 + 0))))) nu fi me us cs (mrg r (q * 6 + 0 * 2 + 0) (net * 6 + (pn + 1) * 2 + 0)) q (-1) 0 1 net (nI pn) (pn + 1) 1 H.size _ rfl (hR.join (by omega) (by omega)) (by decide) (nI_add _ _) (by omega) (by omega)) (cwV 6 hts gX1_joinSource_X1_joinLines rfl rfl rfl (by decide +kernel) ⟨Nat.le_of_ble_eq_true rfl, Nat.le_of_ble_eq_true rfl⟩) ⟨PW.blind, va_recv hK hPc (ci := 1) (q0 := 0) rfl rfl, fun U hU hW => ⟨rfl, PW.to hPc hK hNB hDc hU hW⟩⟩ rfl rfl hl.1 rfl (lv_room (Nat.le_of_ble_eq_true rfl)) dX1_joinSource_27 ⟨Nat.le_of_ble_eq_true rfl, Nat.le_of_ble_eq_true rfl⟩) hS (fun q _ h => hFc q h) hFc (fun u_9 t_9 H1_9 locs ht_9 hvm_9 hw_9 hB_9 hz1_9 hk1_9 hS => ?_)
    obtain ⟨hP1_9, hD1_9⟩ := hB_9
    rw [ht_9] at hP1_9
    obtain ⟨hP, hD⟩ := va_join (wr := []) (w1 := [(qC, .inr (1, [.ref qpa, .ref qnu, .ref qfi, .ref qme, .ref qus, .int (nI cs)])), (qpa, .inl (cI, 600, .inl (upd (upd pa (max (r (q * 6 + 0 * 2 + 0)) (r (net * 6 + (pn + 1) * 2 + 0))) (nI (min (r (q * 6 + 0 * 2 + 0)) (r (net * 6 + (pn + 1) * 2 + 0))))) (max ((mrg r (q * 6 + 0 * 2 + 0) (net * 6 + (pn + 1) * 2 + 0)) (q * 6 + 0 * 2 + 1)) ((mrg r (q * 6 + 0 * 2 + 0) (net * 6 + (pn + 1) * 2 + 0)) (net * 6 + (pn + 1) * 2 + 1))) (nI (min ((mrg r (q * 6 + 0 * 2 + 0) (net * 6 + (pn + 1) * 2 + 0)) (q * 6 + 0 * 2 + 1)) ((mrg r (q * 6 + 0 * 2 + 0) (net * 6 + (pn + 1) * 2 + 0)) (net * 6 + (pn + 1) * 2 + 1))))))), (qnu, .inl (cI, 600, .inl nu)), (qfi, .inl (cI, 600, .inl fi)), (qme, .inl (cI, 600, .inl me)), (qus, .inl (cI, 100, .inl us))]) hP hD [0, 1, 2, 3, 4, 5] [] rfl rfl (by decide) (by decide) hk1_9 hFc hP1_9 hD1_9
    generalize H1_9 = H at hP hS ⊢
    have hP : va_P D vwCl [(qC, .inr (1, [.ref qpa, .ref qnu, .ref qfi, .ref qme, .ref qus, .int (nI cs)])), (qpa, .inl (cI, 600, .inl (upd (upd pa (max (r (q * 6 + 0 * 2 + 0)) (r (net * 6 + (pn + 1) * 2 + 0))) (nI (min (r (q * 6 + 0 * 2 + 0)) (r (net * 6 + (pn + 1) * 2 + 0))))) (max ((mrg r (q * 6 + 0 * 2 + 0) (net * 6 + (pn + 1) * 2 + 0)) (q * 6 + 0 * 2 + 1)) ((mrg r (q * 6 + 0 * 2 + 0) (net * 6 + (pn + 1) * 2 + 0)) (net * 6 + (pn + 1) * 2 + 1))) (nI (min ((mrg r (q * 6 + 0 * 2 + 0) (net * 6 + (pn + 1) * 2 + 0)) (q * 6 + 0 * 2 + 1)) ((mrg r (q * 6 + 0 * 2 + 0) (net * 6 + (pn + 1) * 2 + 0)) (net * 6 + (pn + 1) * 2 + 1))))))), (qnu, .inl (cI, 600, .inl nu)), (qfi, .inl (cI, 600, .inl fi)), (qme, .inl (cI, 600, .inl me)), (qus, .inl (cI, 100, .inl us))] H := hP
    have hD : va_D A [(qC, .inr (1, [.ref qpa, .ref qnu, .ref qfi, .ref qme, .ref qus, .int (nI cs)])), (qpa, .inl (cI, 600, .inl (upd (upd pa (max (r (q * 6 + 0 * 2 + 0)) (r (net * 6 + (pn + 1) * 2 + 0))) (nI (min (r (q * 6 + 0 * 2 + 0)) (r (net * 6 + (pn + 1) * 2 + 0))))) (max ((mrg r (q * 6 + 0 * 2 + 0) (net * 6 + (pn + 1) * 2 + 0)) (q * 6 + 0 * 2 + 1)) ((mrg r (q * 6 + 0 * 2 + 0) (net * 6 + (pn + 1) * 2 + 0)) (net * 6 + (pn + 1) * 2 + 1))) (nI (min ((mrg r (q * 6 + 0 * 2 + 0) (net * 6 + (pn + 1) * 2 + 0)) (q * 6 + 0 * 2 + 1)) ((mrg r (q * 6 + 0 * 2 + 0) (net * 6 + (pn + 1) * 2 + 0)) (net * 6 + (pn + 1) * 2 + 1))))))), (qnu, .inl (cI, 600, .inl nu)), (qfi, .inl (cI, 600, .inl fi)), (qme, .inl (cI, 600, .inl me)), (qus, .inl (cI, 100, .inl us))] := hD
    exact W.vret hx hb hr (fun t_9 ht_9 hW_9 => ⟨⟨upd (upd pa (max (r (q * 6 + 0 * 2 + 0)) (r (net * 6 + (pn + 1) * 2 + 0))) (nI (min (r (q * 6 + 0 * 2 + 0)) (r (net * 6 + (pn + 1) * 2 + 0))))) (max ((mrg r (q * 6 + 0 * 2 + 0) (net * 6 + (pn + 1) * 2 + 0)) (q * 6 + 0 * 2 + 1)) ((mrg r (q * 6 + 0 * 2 + 0) (net * 6 + (pn + 1) * 2 + 0)) (net * 6 + (pn + 1) * 2 + 1))) (nI (min ((mrg r (q * 6 + 0 * 2 + 0) (net * 6 + (pn + 1) * 2 + 0)) (q * 6 + 0 * 2 + 1)) ((mrg r (q * 6 + 0 * 2 + 0) (net * 6 + (pn + 1) * 2 + 0)) (net * 6 + (pn + 1) * 2 + 1)))), rfl, (show RootOf (upd (upd pa (max (r (q * 6 + 0 * 2 + 0)) (r (net * 6 + (pn + 1) * 2 + 0))) (nI (min (r (q * 6 + 0 * 2 + 0)) (r (net * 6 + (pn + 1) * 2 + 0))))) (max ((mrg r (q * 6 + 0 * 2 + 0) (net * 6 + (pn + 1) * 2 + 0)) (q * 6 + 0 * 2 + 1)) ((mrg r (q * 6 + 0 * 2 + 0) (net * 6 + (pn + 1) * 2 + 0)) (net * 6 + (pn + 1) * 2 + 1))) (nI (min ((mrg r (q * 6 + 0 * 2 + 0) (net * 6 + (pn + 1) * 2 + 0)) (q * 6 + 0 * 2 + 1)) ((mrg r (q * 6 + 0 * 2 + 0) (net * 6 + (pn + 1) * 2 + 0)) (net * 6 + (pn + 1) * 2 + 1))))) (mrgs (sP u q net pn) r) from (by rw [sP, if_pos ((nI_eq (by omega) (by decide)).mp (hu.symm.trans c_7))]; exact (hR.join (f := FO q 0 0) (g := FO net (pn + 1) 0) (by unfold FO; omega) (by unfold FO; omega)).join (f := FO q 0 1) (g := FO net (pn + 1) 1) (by unfold FO; omega) (by unfold FO; omega))), ⟨by rw [ht_9]; exact hP, hD⟩⟩, hS.F ht_9⟩) hS.2.2 dX1_joinSource_30

set_option maxHeartbeats 4000000 in
set_option maxRecDepth 100000 in
theorem c_X1_countUses (l : Launch) (D : va_G) (cI cJ cZ : ClassId) (qC : Nat) (qpa : Nat) (qnu : Nat) (qfi : Nat) (qme : Nat) (qus : Nat) (pa : Nat → Int32) (nu : Nat → Int32) (fi : Nat → Int32) (me : Nat → Int32) (us : Nat → Int32) (cs : Nat) (qc : Nat) (qk : Nat) (q0 : Nat) (q1 : Nat) (qo : Nat) (qv : Nat) (kd : Nat → Int32) (s0 : Nat → Int32) (s1 : Nat → Int32) (on : Nat → Int32) (vl : Nat → Int64) (n : Nat) (ni : Nat) (no : Nat) (sz : Nat) (A : Nat → Prop) (hAe : A = va_A [(qC, .inr (1, [.ref qpa, .ref qnu, .ref qfi, .ref qme, .ref qus, .int (nI cs)])), (qpa, .inl (cI, 600, .inl pa)), (qnu, .inl (cI, 600, .inl nu)), (qfi, .inl (cI, 600, .inl fi)), (qme, .inl (cI, 600, .inl me)), (qus, .inl (cI, 100, .inl us)), (qc, .inr (0, [.ref qk, .ref q0, .ref q1, .ref qo, .ref qv, .int (nI n), .int (nI ni), .int (nI no)])), (qk, .inl (cI, 100, .inl kd)), (q0, .inl (cI, 100, .inl s0)), (q1, .inl (cI, 100, .inl s1)), (qo, .inl (cI, 12, .inl on)), (qv, .inl (cJ, 1600, .inr (.inl vl)))] sz) (hn : n ≤ 100) (hno : no ≤ 12) (hwf : WF n kd s0 s1) (hwo : WO n no on) : Met l yX1_countUses wsX1_countUses ({ frames := 2, cells := 0, slots := 0, locals := 41 } : Room) (va_Pc [.ref qC, .ref qc] (PW D cI cJ cZ [(qC, .inr (1, [.ref qpa, .ref qnu, .ref qfi, .ref qme, .ref qus, .int (nI cs)])), (qpa, .inl (cI, 600, .inl pa)), (qnu, .inl (cI, 600, .inl nu)), (qfi, .inl (cI, 600, .inl fi)), (qme, .inl (cI, 600, .inl me)), (qus, .inl (cI, 100, .inl us)), (qc, .inr (0, [.ref qk, .ref q0, .ref q1, .ref qo, .ref qv, .int (nI n), .int (nI ni), .int (nI no)])), (qk, .inl (cI, 100, .inl kd)), (q0, .inl (cI, 100, .inl s0)), (q1, .inl (cI, 100, .inl s1)), (qo, .inl (cI, 12, .inl on)), (qv, .inl (cJ, 1600, .inr (.inl vl)))] sz)) (va_Qv (fun u9 : (Nat → Int32) => match u9 with | us2 => ∀ q, q < 100 → us2 q = nI (uC kd s0 s1 on n no q)) (fun (u9 : (Nat → Int32)) t => match u9 with | us2 => PQ D A [(qC, .inr (1, [.ref qpa, .ref qnu, .ref qfi, .ref qme, .ref qus, .int (nI cs)])), (qpa, .inl (cI, 600, .inl pa)), (qnu, .inl (cI, 600, .inl nu)), (qfi, .inl (cI, 600, .inl fi)), (qme, .inl (cI, 600, .inl me)), (qus, .inl (cI, 100, .inl us2)), (qc, .inr (0, [.ref qk, .ref q0, .ref q1, .ref qo, .ref qv, .int (nI n), .int (nI ni), .int (nI no)])), (qk, .inl (cI, 100, .inl kd)), (q0, .inl (cI, 100, .inl s0)), (q1, .inl (cI, 100, .inl s1)), (qo, .inl (cI, 12, .inl on)), (qv, .inl (cJ, 1600, .inr (.inl vl)))] t) A) 0 0 A := by
  refine Met.ofW (cc := cX1_countUses) (maxL := 4) (ret := none) (by decide) rfl ?_
  intro p e s m args below meth c s₁ B hml hv
  obtain ⟨rfl, hsz, ⟨hP, hK, hNB⟩, hD0⟩ := hv
  have hx := B.exec
  have hb := B.bytes
  have hr := B.returns
  have hts := atoms_spec (ws := wsX1_countUses) B.pre
  have hown : s.vm.findClass RX1 = some m.cls := findClass_of_methodNamed B.named
  have hlocks := B.notSynchronized
  have hiX0 : ∀ w ∈ u_ws RX0 TX0 8, w ∈ wsX1_countUses := by decide +kernel
  have hiX1 : ∀ w ∈ u_ws RX1 TX1 6, w ∈ wsX1_countUses := by decide +kernel
  subst hsz
  have hD : va_D A [(qC, .inr (1, [.ref qpa, .ref qnu, .ref qfi, .ref qme, .ref qus, .int (nI cs)])), (qpa, .inl (cI, 600, .inl pa)), (qnu, .inl (cI, 600, .inl nu)), (qfi, .inl (cI, 600, .inl fi)), (qme, .inl (cI, 600, .inl me)), (qus, .inl (cI, 100, .inl us)), (qc, .inr (0, [.ref qk, .ref q0, .ref q1, .ref qo, .ref qv, .int (nI n), .int (nI ni), .int (nI no)])), (qk, .inl (cI, 100, .inl kd)), (q0, .inl (cI, 100, .inl s0)), (q1, .inl (cI, 100, .inl s1)), (qo, .inl (cI, 12, .inl on)), (qv, .inl (cJ, 1600, .inr (.inl vl)))] := by rw [hAe]; exact hD0.self
  have hA : ∀ q : Nat, s.heap.size ≤ q → A q := fun q h => by rw [hAe]; exact Or.inr h
  have hS : va_S A s.heap s.heap [] := va_S.rf
  have hl := lv_entry ([.ref qC, .ref qc]) (n := 4) (Nat.le_of_ble_eq_true rfl)
  rw [lg_entry_eq]
  generalize (lg_sl ([.ref qC, .ref qc]) ++ List.replicate (4 - (lg_sl ([.ref qC, .ref qc])).length) Slot.unset).toArray = ls at hl ⊢
  have hl : lv_has ls 4 [(0, .ref qC), (1, .ref qc)] := hl
  refine lv_iconst (v := (nI 0)) hx hb dX1_countUses_0 (by decide) ?_
  refine lv_istore_n (lv' := [(2, .int (nI 0)), (0, .ref qC), (1, .ref qc)]) hx hb dX1_countUses_1 rfl hl (by decide) rfl (fun ls hl => ?_)
  have loop2 : ∀ (n2 : Nat) (i : Nat) (u : Nat → Int32) (hi : i ≤ 100) (hu : ∀ j, j < i → u j = nI 0), 100 - i < n2 → ∀ (H : Heap) (locs : List Loc), va_P D vwCl [(qC, .inr (1, [.ref qpa, .ref qnu, .ref qfi, .ref qme, .ref qus, .int (nI cs)])), (qpa, .inl (cI, 600, .inl pa)), (qnu, .inl (cI, 600, .inl nu)), (qfi, .inl (cI, 600, .inl fi)), (qme, .inl (cI, 600, .inl me)), (qus, .inl (cI, 100, .inl u)), (qc, .inr (0, [.ref qk, .ref q0, .ref q1, .ref qo, .ref qv, .int (nI n), .int (nI ni), .int (nI no)])), (qk, .inl (cI, 100, .inl kd)), (q0, .inl (cI, 100, .inl s0)), (q1, .inl (cI, 100, .inl s1)), (qo, .inl (cI, 12, .inl on)), (qv, .inl (cJ, 1600, .inr (.inl vl)))] H → va_D A [(qC, .inr (1, [.ref qpa, .ref qnu, .ref qfi, .ref qme, .ref qus, .int (nI cs)])), (qpa, .inl (cI, 600, .inl pa)), (qnu, .inl (cI, 600, .inl nu)), (qfi, .inl (cI, 600, .inl fi)), (qme, .inl (cI, 600, .inl me)), (qus, .inl (cI, 100, .inl u)), (qc, .inr (0, [.ref qk, .ref q0, .ref q1, .ref qo, .ref qv, .int (nI n), .int (nI ni), .int (nI no)])), (qk, .inl (cI, 100, .inl kd)), (q0, .inl (cI, 100, .inl s0)), (q1, .inl (cI, 100, .inl s1)), (qo, .inl (cI, 12, .inl on)), (qv, .inl (cJ, 1600, .inr (.inl vl)))] → va_S A s.heap H locs → ∀ (ls : Array Slot), lv_has ls 4 [(0, .ref qC), (1, .ref qc), (2, .int (nI i))] → W p l e (headSpec wsX1_countUses ({ frames := 2, cells := 0, slots := 0, locals := 41 } : Room)).room s m ([.ref qC, .ref qc] : List Value).toArray below meth c H locs 0 0 (MQ below (va_Qv (fun u9 : (Nat → Int32) => match u9 with | us2 => ∀ q, q < 100 → us2 q = nI (uC kd s0 s1 on n no q)) (fun (u9 : (Nat → Int32)) t => match u9 with | us2 => PQ D A [(qC, .inr (1, [.ref qpa, .ref qnu, .ref qfi, .ref qme, .ref qus, .int (nI cs)])), (qpa, .inl (cI, 600, .inl pa)), (qnu, .inl (cI, 600, .inl nu)), (qfi, .inl (cI, 600, .inl fi)), (qme, .inl (cI, 600, .inl me)), (qus, .inl (cI, 100, .inl us2)), (qc, .inr (0, [.ref qk, .ref q0, .ref q1, .ref qo, .ref qv, .int (nI n), .int (nI ni), .int (nI no)])), (qk, .inl (cI, 100, .inl kd)), (q0, .inl (cI, 100, .inl s0)), (q1, .inl (cI, 100, .inl s1)), (qo, .inl (cI, 12, .inl on)), (qv, .inl (cJ, 1600, .inr (.inl vl)))] t) A) ([.ref qC, .ref qc] : List Value).toArray s 0 0 A) (F0 m 2 ls []) := by
    intro n2
    induction n2 with
    | zero => intro i u hi hu hm; exact absurd hm (Nat.not_lt_zero _)
    | succ n2 ih2 =>
      intro i u hi hu hm2 H locs hP hD hS ls hl
      refine lv_iload_n hx hb dX1_countUses_2 rfl (lv_at hl 2 rfl) ?_
      refine lv_bipush (v := (nI 100)) hx hb dX1_countUses_3 (by decide) ?_
      refine lv_icmp_ge (tgt := 21) hx hb dX1_countUses_5 (by decide) (fun c_5 => ?_) (fun c_5 => ?_)
      · skip
        rw [zc_le (by omega) (by omega)] at c_5
        refine lv_iconst (v := (nI 0)) hx hb dX1_countUses_21 (by decide) ?_
        refine lv_istore_n (lv' := [(2, .int (nI 0)), (0, .ref qC), (1, .ref qc)]) hx hb dX1_countUses_22 rfl hl (by decide) rfl (fun ls hl => ?_)
        have loop23 : ∀ (n23 : Nat) (t : Nat) (u : Nat → Int32) (ht : t ≤ n) (hu : ∀ q, q < 100 → u q = nI (List.count q (uL kd s0 s1 t))), n - t < n23 → ∀ (H : Heap) (locs : List Loc), va_P D vwCl [(qC, .inr (1, [.ref qpa, .ref qnu, .ref qfi, .ref qme, .ref qus, .int (nI cs)])), (qpa, .inl (cI, 600, .inl pa)), (qnu, .inl (cI, 600, .inl nu)), (qfi, .inl (cI, 600, .inl fi)), (qme, .inl (cI, 600, .inl me)), (qus, .inl (cI, 100, .inl u)), (qc, .inr (0, [.ref qk, .ref q0, .ref q1, .ref qo, .ref qv, .int (nI n), .int (nI ni), .int (nI no)])), (qk, .inl (cI, 100, .inl kd)), (q0, .inl (cI, 100, .inl s0)), (q1, .inl (cI, 100, .inl s1)), (qo, .inl (cI, 12, .inl on)), (qv, .inl (cJ, 1600, .inr (.inl vl)))] H → va_D A [(qC, .inr (1, [.ref qpa, .ref qnu, .ref qfi, .ref qme, .ref qus, .int (nI cs)])), (qpa, .inl (cI, 600, .inl pa)), (qnu, .inl (cI, 600, .inl nu)), (qfi, .inl (cI, 600, .inl fi)), (qme, .inl (cI, 600, .inl me)), (qus, .inl (cI, 100, .inl u)), (qc, .inr (0, [.ref qk, .ref q0, .ref q1, .ref qo, .ref qv, .int (nI n), .int (nI ni), .int (nI no)])), (qk, .inl (cI, 100, .inl kd)), (q0, .inl (cI, 100, .inl s0)), (q1, .inl (cI, 100, .inl s1)), (qo, .inl (cI, 12, .inl on)), (qv, .inl (cJ, 1600, .inr (.inl vl)))] → va_S A s.heap H locs → ∀ (ls : Array Slot), lv_has ls 4 [(0, .ref qC), (1, .ref qc), (2, .int (nI t))] → W p l e (headSpec wsX1_countUses ({ frames := 2, cells := 0, slots := 0, locals := 41 } : Room)).room s m ([.ref qC, .ref qc] : List Value).toArray below meth c H locs 0 0 (MQ below (va_Qv (fun u9 : (Nat → Int32) => match u9 with | us2 => ∀ q, q < 100 → us2 q = nI (uC kd s0 s1 on n no q)) (fun (u9 : (Nat → Int32)) t => match u9 with | us2 => PQ D A [(qC, .inr (1, [.ref qpa, .ref qnu, .ref qfi, .ref qme, .ref qus, .int (nI cs)])), (qpa, .inl (cI, 600, .inl pa)), (qnu, .inl (cI, 600, .inl nu)), (qfi, .inl (cI, 600, .inl fi)), (qme, .inl (cI, 600, .inl me)), (qus, .inl (cI, 100, .inl us2)), (qc, .inr (0, [.ref qk, .ref q0, .ref q1, .ref qo, .ref qv, .int (nI n), .int (nI ni), .int (nI no)])), (qk, .inl (cI, 100, .inl kd)), (q0, .inl (cI, 100, .inl s0)), (q1, .inl (cI, 100, .inl s1)), (qo, .inl (cI, 12, .inl on)), (qv, .inl (cJ, 1600, .inr (.inl vl)))] t) A) ([.ref qC, .ref qc] : List Value).toArray s 0 0 A) (F0 m 23 ls []) := by
          intro n23
          induction n23 with
          | zero => intro t u ht hu hm; exact absurd hm (Nat.not_lt_zero _)
          | succ n23 ih23 =>
            intro t u ht hu hm23 H locs hP hD hS ls hl
            refine lv_iload_n hx hb dX1_countUses_23 rfl (lv_at hl 2 rfl) ?_
            refine lv_aload_n hx hb dX1_countUses_24 rfl (lv_at hl 1 rfl) ?_
            refine va_get (D := D) (ci := 0) (v := .int (nI n)) (C := RX0) (T := TX0) (N := 8) hx hb hts hiX0 hown hK hP 6 rfl rfl 5 (by decide) (hts (.fieldLink RX1 31 "FaultSearch$Chip" "nets" "I") (by decide +kernel)) (fun _ h9 => h9) rfl dX1_countUses_25 ?_
            refine lv_icmp_ge (tgt := 69) hx hb dX1_countUses_28 (by decide) (fun c_28 => ?_) (fun c_28 => ?_)
            · skip
              rw [zc_le (by omega) (by omega)] at c_28
              refine lv_iconst (v := (nI 0)) hx hb dX1_countUses_69 (by decide) ?_
              refine lv_istore_n (lv' := [(2, .int (nI 0)), (0, .ref qC), (1, .ref qc)]) hx hb dX1_countUses_70 rfl hl (by decide) rfl (fun ls hl => ?_)
              have loop71 : ∀ (n71 : Nat) (o : Nat) (u : Nat → Int32) (ho : o ≤ no) (hu : ∀ q, q < 100 → u q = nI (List.count q (uL kd s0 s1 n ++ uO on o))), no - o < n71 → ∀ (H : Heap) (locs : List Loc), va_P D vwCl [(qC, .inr (1, [.ref qpa, .ref qnu, .ref qfi, .ref qme, .ref qus, .int (nI cs)])), (qpa, .inl (cI, 600, .inl pa)), (qnu, .inl (cI, 600, .inl nu)), (qfi, .inl (cI, 600, .inl fi)), (qme, .inl (cI, 600, .inl me)), (qus, .inl (cI, 100, .inl u)), (qc, .inr (0, [.ref qk, .ref q0, .ref q1, .ref qo, .ref qv, .int (nI n), .int (nI ni), .int (nI no)])), (qk, .inl (cI, 100, .inl kd)), (q0, .inl (cI, 100, .inl s0)), (q1, .inl (cI, 100, .inl s1)), (qo, .inl (cI, 12, .inl on)), (qv, .inl (cJ, 1600, .inr (.inl vl)))] H → va_D A [(qC, .inr (1, [.ref qpa, .ref qnu, .ref qfi, .ref qme, .ref qus, .int (nI cs)])), (qpa, .inl (cI, 600, .inl pa)), (qnu, .inl (cI, 600, .inl nu)), (qfi, .inl (cI, 600, .inl fi)), (qme, .inl (cI, 600, .inl me)), (qus, .inl (cI, 100, .inl u)), (qc, .inr (0, [.ref qk, .ref q0, .ref q1, .ref qo, .ref qv, .int (nI n), .int (nI ni), .int (nI no)])), (qk, .inl (cI, 100, .inl kd)), (q0, .inl (cI, 100, .inl s0)), (q1, .inl (cI, 100, .inl s1)), (qo, .inl (cI, 12, .inl on)), (qv, .inl (cJ, 1600, .inr (.inl vl)))] → va_S A s.heap H locs → ∀ (ls : Array Slot), lv_has ls 4 [(0, .ref qC), (1, .ref qc), (2, .int (nI o))] → W p l e (headSpec wsX1_countUses ({ frames := 2, cells := 0, slots := 0, locals := 41 } : Room)).room s m ([.ref qC, .ref qc] : List Value).toArray below meth c H locs 0 0 (MQ below (va_Qv (fun u9 : (Nat → Int32) => match u9 with | us2 => ∀ q, q < 100 → us2 q = nI (uC kd s0 s1 on n no q)) (fun (u9 : (Nat → Int32)) t => match u9 with | us2 => PQ D A [(qC, .inr (1, [.ref qpa, .ref qnu, .ref qfi, .ref qme, .ref qus, .int (nI cs)])), (qpa, .inl (cI, 600, .inl pa)), (qnu, .inl (cI, 600, .inl nu)), (qfi, .inl (cI, 600, .inl fi)), (qme, .inl (cI, 600, .inl me)), (qus, .inl (cI, 100, .inl us2)), (qc, .inr (0, [.ref qk, .ref q0, .ref q1, .ref qo, .ref qv, .int (nI n), .int (nI ni), .int (nI no)])), (qk, .inl (cI, 100, .inl kd)), (q0, .inl (cI, 100, .inl s0)), (q1, .inl (cI, 100, .inl s1)), (qo, .inl (cI, 12, .inl on)), (qv, .inl (cJ, 1600, .inr (.inl vl)))] t) A) ([.ref qC, .ref qc] : List Value).toArray s 0 0 A) (F0 m 71 ls []) := by
                intro n71
                induction n71 with
                | zero => intro o u ho hu hm; exact absurd hm (Nat.not_lt_zero _)
                | succ n71 ih71 =>
                  intro o u ho hu hm71 H locs hP hD hS ls hl
                  refine lv_iload_n hx hb dX1_countUses_71 rfl (lv_at hl 2 rfl) ?_
                  refine lv_aload_n hx hb dX1_countUses_72 rfl (lv_at hl 1 rfl) ?_
                  refine va_get (D := D) (ci := 0) (v := .int (nI no)) (C := RX0) (T := TX0) (N := 8) hx hb hts hiX0 hown hK hP 6 rfl rfl 7 (by decide) (hts (.fieldLink RX1 66 "FaultSearch$Chip" "outputs" "I") (by decide +kernel)) (fun _ h9 => h9) rfl dX1_countUses_73 ?_
                  refine lv_icmp_ge (tgt := 100) hx hb dX1_countUses_76 (by decide) (fun c_76 => ?_) (fun c_76 => ?_)
                  · skip
                    rw [zc_le (by omega) (by omega)] at c_76
                    exact W.vret hx hb hr (fun t_9 ht_9 hW_9 => ⟨⟨u, rfl, (show ∀ q, q < 100 → u q = nI (uC kd s0 s1 on n no q) from (fun q h => by rw [hu q h, show o = no by omega]; rfl)), ⟨by rw [ht_9]; exact hP, hD⟩⟩, hS.F ht_9⟩) hS.2.2 dX1_countUses_100
                  · skip
                    rw [zc_le (by omega) (by omega)] at c_76
                    refine lv_aload_n hx hb dX1_countUses_79 rfl (lv_at hl 0 rfl) ?_
                    refine va_get (D := D) (ci := 1) (v := .ref qus) (C := RX1) (T := TX1) (N := 6) hx hb hts hiX1 hown hK hP 0 rfl rfl 4 (by decide) (hts (.fieldLink RX1 24 "FaultSearch$Classes" "uses" "[I") (by decide +kernel)) (fun _ h9 => h9) rfl dX1_countUses_80 ?_
                    refine lv_aload_n hx hb dX1_countUses_83 rfl (lv_at hl 1 rfl) ?_
                    refine va_get (D := D) (ci := 0) (v := .ref qo) (C := RX0) (T := TX0) (N := 8) hx hb hts hiX0 hown hK hP 6 rfl rfl 3 (by decide) (hts (.fieldLink RX1 69 "FaultSearch$Chip" "outputNets" "[I") (by decide +kernel)) (fun _ h9 => h9) rfl dX1_countUses_84 ?_
                    refine lv_iload_n hx hb dX1_countUses_87 rfl (lv_at hl 2 rfl) ?_
                    refine zz_iald hx hb hK hP 10 0 rfl rfl (n := 12) (j := o) (by omega) (by decide) dX1_countUses_88 ?_
                    refine zz_i (z := (nI (cn (on o)))) (hwo o (by omega)).1 ?_
                    refine lv_dup2_11 hx hb dX1_countUses_89 rfl rfl ?_
                    refine zz_iald hx hb hK hP 5 0 rfl rfl (n := 100) (j := (cn (on o))) (by have := (hwo o (by omega)).2; omega) (by decide) dX1_countUses_90 ?_
                    refine lv_iconst (v := (nI 1)) hx hb dX1_countUses_91 (by decide) ?_
                    refine lv_iadd hx hb dX1_countUses_92 ?_
                    refine zz_iast hx hb hK hP hD hS 5 0 rfl rfl (n := 100) (j := (cn (on o))) (by have := (hwo o (by omega)).2; omega) (by decide) dX1_countUses_93 (fun H locs hP hD hS => ?_)
                    have hP : va_P D vwCl [(qC, .inr (1, [.ref qpa, .ref qnu, .ref qfi, .ref qme, .ref qus, .int (nI cs)])), (qpa, .inl (cI, 600, .inl pa)), (qnu, .inl (cI, 600, .inl nu)), (qfi, .inl (cI, 600, .inl fi)), (qme, .inl (cI, 600, .inl me)), (qus, .inl (cI, 100, .inl (upd u (cn (on o)) ((u (cn (on o))) + (nI 1))))), (qc, .inr (0, [.ref qk, .ref q0, .ref q1, .ref qo, .ref qv, .int (nI n), .int (nI ni), .int (nI no)])), (qk, .inl (cI, 100, .inl kd)), (q0, .inl (cI, 100, .inl s0)), (q1, .inl (cI, 100, .inl s1)), (qo, .inl (cI, 12, .inl on)), (qv, .inl (cJ, 1600, .inr (.inl vl)))] H := hP
                    have hD : va_D A [(qC, .inr (1, [.ref qpa, .ref qnu, .ref qfi, .ref qme, .ref qus, .int (nI cs)])), (qpa, .inl (cI, 600, .inl pa)), (qnu, .inl (cI, 600, .inl nu)), (qfi, .inl (cI, 600, .inl fi)), (qme, .inl (cI, 600, .inl me)), (qus, .inl (cI, 100, .inl (upd u (cn (on o)) ((u (cn (on o))) + (nI 1))))), (qc, .inr (0, [.ref qk, .ref q0, .ref q1, .ref qo, .ref qv, .int (nI n), .int (nI ni), .int (nI no)])), (qk, .inl (cI, 100, .inl kd)), (q0, .inl (cI, 100, .inl s0)), (q1, .inl (cI, 100, .inl s1)), (qo, .inl (cI, 12, .inl on)), (qv, .inl (cJ, 1600, .inr (.inl vl)))] := hD
                    refine lv_iinc (v := (nI (o + 1))) (lv' := [(2, .int (nI (o + 1))), (0, .ref qC), (1, .ref qc)]) hx hb dX1_countUses_94 hl (k := 2) rfl (nI_add _ 1) (by decide) rfl (fun ls hl => ?_)
                    refine lv_goto (tgt := 71) hx hb dX1_countUses_97 (by decide) ?_
                    exact ih71 (o + 1) (upd u (cn (on o)) ((u (cn (on o))) + (nI 1))) (by omega) (fun q h => by rw [uO_s, ← List.append_assoc]; exact cnt_s hu (by have := (hwo o (by omega)).2; omega) h) (by omega) _ _ hP hD hS ls (lv_sub hl [1, 2, 0] rfl)
              exact loop71 ((no - 0) + 1) 0 u (Nat.zero_le _) (fun q h => by rw [hu q h, show t = n by omega]; simp [uO]) (Nat.lt_succ_self _) _ _ hP hD hS ls (lv_sub hl [1, 2, 0] rfl)
            · skip
              rw [zc_le (by omega) (by omega)] at c_28
              refine lv_iconst (v := (nI 0)) hx hb dX1_countUses_31 (by decide) ?_
              refine lv_istore_n (lv' := [(3, .int (nI 0)), (0, .ref qC), (1, .ref qc), (2, .int (nI t))]) hx hb dX1_countUses_32 rfl hl (by decide) rfl (fun ls hl => ?_)
              have loop33 : ∀ (n33 : Nat) (k : Nat) (u : Nat → Int32) (hk : k ≤ pinsN (kd t)) (hu : ∀ q, q < 100 → u q = nI (List.count q (uL kd s0 s1 t ++ uP s0 s1 t k))), pinsN (kd t) - k < n33 → ∀ (H : Heap) (locs : List Loc), va_P D vwCl [(qC, .inr (1, [.ref qpa, .ref qnu, .ref qfi, .ref qme, .ref qus, .int (nI cs)])), (qpa, .inl (cI, 600, .inl pa)), (qnu, .inl (cI, 600, .inl nu)), (qfi, .inl (cI, 600, .inl fi)), (qme, .inl (cI, 600, .inl me)), (qus, .inl (cI, 100, .inl u)), (qc, .inr (0, [.ref qk, .ref q0, .ref q1, .ref qo, .ref qv, .int (nI n), .int (nI ni), .int (nI no)])), (qk, .inl (cI, 100, .inl kd)), (q0, .inl (cI, 100, .inl s0)), (q1, .inl (cI, 100, .inl s1)), (qo, .inl (cI, 12, .inl on)), (qv, .inl (cJ, 1600, .inr (.inl vl)))] H → va_D A [(qC, .inr (1, [.ref qpa, .ref qnu, .ref qfi, .ref qme, .ref qus, .int (nI cs)])), (qpa, .inl (cI, 600, .inl pa)), (qnu, .inl (cI, 600, .inl nu)), (qfi, .inl (cI, 600, .inl fi)), (qme, .inl (cI, 600, .inl me)), (qus, .inl (cI, 100, .inl u)), (qc, .inr (0, [.ref qk, .ref q0, .ref q1, .ref qo, .ref qv, .int (nI n), .int (nI ni), .int (nI no)])), (qk, .inl (cI, 100, .inl kd)), (q0, .inl (cI, 100, .inl s0)), (q1, .inl (cI, 100, .inl s1)), (qo, .inl (cI, 12, .inl on)), (qv, .inl (cJ, 1600, .inr (.inl vl)))] → va_S A s.heap H locs → ∀ (ls : Array Slot), lv_has ls 4 [(0, .ref qC), (1, .ref qc), (2, .int (nI t)), (3, .int (nI k))] → W p l e (headSpec wsX1_countUses ({ frames := 2, cells := 0, slots := 0, locals := 41 } : Room)).room s m ([.ref qC, .ref qc] : List Value).toArray below meth c H locs 0 0 (MQ below (va_Qv (fun u9 : (Nat → Int32) => match u9 with | us2 => ∀ q, q < 100 → us2 q = nI (uC kd s0 s1 on n no q)) (fun (u9 : (Nat → Int32)) t => match u9 with | us2 => PQ D A [(qC, .inr (1, [.ref qpa, .ref qnu, .ref qfi, .ref qme, .ref qus, .int (nI cs)])), (qpa, .inl (cI, 600, .inl pa)), (qnu, .inl (cI, 600, .inl nu)), (qfi, .inl (cI, 600, .inl fi)), (qme, .inl (cI, 600, .inl me)), (qus, .inl (cI, 100, .inl us2)), (qc, .inr (0, [.ref qk, .ref q0, .ref q1, .ref qo, .ref qv, .int (nI n), .int (nI ni), .int (nI no)])), (qk, .inl (cI, 100, .inl kd)), (q0, .inl (cI, 100, .inl s0)), (q1, .inl (cI, 100, .inl s1)), (qo, .inl (cI, 12, .inl on)), (qv, .inl (cJ, 1600, .inr (.inl vl)))] t) A) ([.ref qC, .ref qc] : List Value).toArray s 0 0 A) (F0 m 33 ls []) := by
                intro n33
                induction n33 with
                | zero => intro k u hk hu hm; exact absurd hm (Nat.not_lt_zero _)
                | succ n33 ih33 =>
                  intro k u hk hu hm33 H locs hP hD hS ls hl
                  have hp2 := pinsN_le (kd t)
                  refine lv_iload_n hx hb dX1_countUses_33 rfl (lv_at hl 3 rfl) ?_
                  refine lv_aload_n hx hb dX1_countUses_34 rfl (lv_at hl 1 rfl) ?_
                  refine lv_iload_n hx hb dX1_countUses_35 rfl (lv_at hl 2 rfl) ?_
                  have hPc := hP.sub (ws' := [(qc, .inr (0, [.ref qk, .ref q0, .ref q1, .ref qo, .ref qv, .int (nI n), .int (nI ni), .int (nI no)])), (qk, .inl (cI, 100, .inl kd)), (q0, .inl (cI, 100, .inl s0)), (q1, .inl (cI, 100, .inl s1)), (qo, .inl (cI, 12, .inl on)), (qv, .inl (cJ, 1600, .inr (.inl vl)))]) [6, 7, 8, 9, 10, 11] rfl
                  refine vp_callSi (va_runV (As := [.int (nI t)]) (rest := [.int (nI k)]) ⟨hx, hb, hml, hown, hts⟩ (c_X0_pins l D cI cJ cZ qc qk q0 q1 qo qv kd s0 s1 on vl n ni no t (by omega)) (cwV 1 hts gX1_countUses_X0_pins rfl rfl rfl (by decide +kernel) ⟨Nat.le_of_ble_eq_true rfl, Nat.le_of_ble_eq_true rfl⟩) ⟨PR.blind, va_recv hK hPc (ci := 0) (q0 := 0) rfl rfl, fun U hU hW => ⟨rfl, PR.to hPc hK hNB hU hW⟩⟩ rfl rfl hl.1 rfl (lv_room (Nat.le_of_ble_eq_true rfl)) dX1_countUses_36 ⟨Nat.le_of_ble_eq_true rfl, Nat.le_of_ble_eq_true rfl⟩).run (fun r_1 hrr_1 => ?_)
                  subst hrr_1
                  refine lv_icmp_ge (tgt := 63) hx hb dX1_countUses_39 (by decide) (fun c_39 => ?_) (fun c_39 => ?_)
                  · skip
                    rw [zc_le (by omega) (by omega)] at c_39
                    refine lv_iinc (v := (nI (t + 1))) (lv' := [(2, .int (nI (t + 1))), (0, .ref qC), (1, .ref qc), (3, .int (nI k))]) hx hb dX1_countUses_63 hl (k := 2) rfl (nI_add _ 1) (by decide) rfl (fun ls hl => ?_)
                    refine lv_goto (tgt := 23) hx hb dX1_countUses_66 (by decide) ?_
                    exact ih23 (t + 1) u (by omega) (fun q h => by rw [uL_s, ← show k = pinsN (kd t) by omega]; exact hu q h) (by omega) _ _ hP hD hS ls (lv_sub hl [1, 2, 0] rfl)
                  · skip
                    rw [zc_le (by omega) (by omega)] at c_39
                    refine lv_aload_n hx hb dX1_countUses_42 rfl (lv_at hl 0 rfl) ?_
                    refine va_get (D := D) (ci := 1) (v := .ref qus) (C := RX1) (T := TX1) (N := 6) hx hb hts hiX1 hown hK hP 0 rfl rfl 4 (by decide) (hts (.fieldLink RX1 24 "FaultSearch$Classes" "uses" "[I") (by decide +kernel)) (fun _ h9 => h9) rfl dX1_countUses_43 ?_
                    refine lv_aload_n hx hb dX1_countUses_46 rfl (lv_at hl 1 rfl) ?_
                    refine lv_iload_n hx hb dX1_countUses_47 rfl (lv_at hl 2 rfl) ?_
                    refine lv_iload_n hx hb dX1_countUses_48 rfl (lv_at hl 3 rfl) ?_
                    have hPc := hP.sub (ws' := [(qc, .inr (0, [.ref qk, .ref q0, .ref q1, .ref qo, .ref qv, .int (nI n), .int (nI ni), .int (nI no)])), (qk, .inl (cI, 100, .inl kd)), (q0, .inl (cI, 100, .inl s0)), (q1, .inl (cI, 100, .inl s1)), (qo, .inl (cI, 12, .inl on)), (qv, .inl (cJ, 1600, .inr (.inl vl)))]) [6, 7, 8, 9, 10, 11] rfl
                    refine vp_callSi (va_runV (As := [.int (nI t), .int (nI k)]) (rest := [.ref qus]) ⟨hx, hb, hml, hown, hts⟩ (c_X0_source l D cI cJ cZ qc qk q0 q1 qo qv kd s0 s1 on vl n ni no t k (by omega) (by omega)) (cwV 2 hts gX1_countUses_X0_source rfl rfl rfl (by decide +kernel) ⟨Nat.le_of_ble_eq_true rfl, Nat.le_of_ble_eq_true rfl⟩) ⟨PR.blind, va_recv hK hPc (ci := 0) (q0 := 0) rfl rfl, fun U hU hW => ⟨rfl, PR.to hPc hK hNB hU hW⟩⟩ rfl rfl hl.1 rfl (lv_room (Nat.le_of_ble_eq_true rfl)) dX1_countUses_49 ⟨Nat.le_of_ble_eq_true rfl, Nat.le_of_ble_eq_true rfl⟩).run (fun r_2 hrr_2 => ?_)
                    subst hrr_2
                    refine zz_i (z := (nI (cn (srcF s0 s1 t k)))) (hwf.src (by omega) (pinsN_gate (show k < pinsN (kd t) by omega))).1 ?_
                    refine lv_dup2_11 hx hb dX1_countUses_52 rfl rfl ?_
                    refine zz_iald hx hb hK hP 5 0 rfl rfl (n := 100) (j := (cn (srcF s0 s1 t k))) (by have := (hwf.src (pn := k) (show t < n by omega) (pinsN_gate (show k < pinsN (kd t) by omega))).2; omega) (by decide) dX1_countUses_53 ?_
                    refine lv_iconst (v := (nI 1)) hx hb dX1_countUses_54 (by decide) ?_
                    refine lv_iadd hx hb dX1_countUses_55 ?_
                    refine zz_iast hx hb hK hP hD hS 5 0 rfl rfl (n := 100) (j := (cn (srcF s0 s1 t k))) (by have := (hwf.src (pn := k) (show t < n by omega) (pinsN_gate (show k < pinsN (kd t) by omega))).2; omega) (by decide) dX1_countUses_56 (fun H locs hP hD hS => ?_)
                    have hP : va_P D vwCl [(qC, .inr (1, [.ref qpa, .ref qnu, .ref qfi, .ref qme, .ref qus, .int (nI cs)])), (qpa, .inl (cI, 600, .inl pa)), (qnu, .inl (cI, 600, .inl nu)), (qfi, .inl (cI, 600, .inl fi)), (qme, .inl (cI, 600, .inl me)), (qus, .inl (cI, 100, .inl (upd u (cn (srcF s0 s1 t k)) ((u (cn (srcF s0 s1 t k))) + (nI 1))))), (qc, .inr (0, [.ref qk, .ref q0, .ref q1, .ref qo, .ref qv, .int (nI n), .int (nI ni), .int (nI no)])), (qk, .inl (cI, 100, .inl kd)), (q0, .inl (cI, 100, .inl s0)), (q1, .inl (cI, 100, .inl s1)), (qo, .inl (cI, 12, .inl on)), (qv, .inl (cJ, 1600, .inr (.inl vl)))] H := hP
                    have hD : va_D A [(qC, .inr (1, [.ref qpa, .ref qnu, .ref qfi, .ref qme, .ref qus, .int (nI cs)])), (qpa, .inl (cI, 600, .inl pa)), (qnu, .inl (cI, 600, .inl nu)), (qfi, .inl (cI, 600, .inl fi)), (qme, .inl (cI, 600, .inl me)), (qus, .inl (cI, 100, .inl (upd u (cn (srcF s0 s1 t k)) ((u (cn (srcF s0 s1 t k))) + (nI 1))))), (qc, .inr (0, [.ref qk, .ref q0, .ref q1, .ref qo, .ref qv, .int (nI n), .int (nI ni), .int (nI no)])), (qk, .inl (cI, 100, .inl kd)), (q0, .inl (cI, 100, .inl s0)), (q1, .inl (cI, 100, .inl s1)), (qo, .inl (cI, 12, .inl on)), (qv, .inl (cJ, 1600, .inr (.inl vl)))] := hD
                    refine lv_iinc (v := (nI (k + 1))) (lv' := [(3, .int (nI (k + 1))), (0, .ref qC), (1, .ref qc), (2, .int (nI t))]) hx hb dX1_countUses_57 hl (k := 3) rfl (nI_add _ 1) (by decide) rfl (fun ls hl => ?_)
                    refine lv_goto (tgt := 33) hx hb dX1_countUses_60 (by decide) ?_
                    exact ih33 (k + 1) (upd u (cn (srcF s0 s1 t k)) ((u (cn (srcF s0 s1 t k))) + (nI 1))) (by omega) (fun q h => by rw [uP_s, ← List.append_assoc]; exact cnt_s hu (by have := (hwf.src (pn := k) (show t < n by omega) (pinsN_gate (show k < pinsN (kd t) by omega))).2; omega) h) (by omega) _ _ hP hD hS ls (lv_sub hl [1, 2, 3, 0] rfl)
              exact loop33 ((pinsN (kd t) - 0) + 1) 0 u (Nat.zero_le _) (fun q h => by rw [hu q h]; simp [uP]) (Nat.lt_succ_self _) _ _ hP hD hS ls (lv_sub hl [1, 2, 3, 0] rfl)
        exact loop23 ((n - 0) + 1) 0 u (by omega) (fun q h => hu q (by omega)) (Nat.lt_succ_self _) _ _ hP hD hS ls (lv_sub hl [1, 2, 0] rfl)
      · skip
        rw [zc_le (by omega) (by omega)] at c_5
        refine lv_aload_n hx hb dX1_countUses_8 rfl (lv_at hl 0 rfl) ?_
        refine va_get (D := D) (ci := 1) (v := .ref qus) (C := RX1) (T := TX1) (N := 6) hx hb hts hiX1 hown hK hP 0 rfl rfl 4 (by decide) (hts (.fieldLink RX1 24 "FaultSearch$Classes" "uses" "[I") (by decide +kernel)) (fun _ h9 => h9) rfl dX1_countUses_9 ?_
        refine lv_iload_n hx hb dX1_countUses_12 rfl (lv_at hl 2 rfl) ?_
        refine lv_iconst (v := (nI 0)) hx hb dX1_countUses_13 (by decide) ?_
        refine zz_iast hx hb hK hP hD hS 5 0 rfl rfl (n := 100) (j := i) (by omega) (by decide) dX1_countUses_14 (fun H locs hP hD hS => ?_)
        have hP : va_P D vwCl [(qC, .inr (1, [.ref qpa, .ref qnu, .ref qfi, .ref qme, .ref qus, .int (nI cs)])), (qpa, .inl (cI, 600, .inl pa)), (qnu, .inl (cI, 600, .inl nu)), (qfi, .inl (cI, 600, .inl fi)), (qme, .inl (cI, 600, .inl me)), (qus, .inl (cI, 100, .inl (upd u i (nI 0)))), (qc, .inr (0, [.ref qk, .ref q0, .ref q1, .ref qo, .ref qv, .int (nI n), .int (nI ni), .int (nI no)])), (qk, .inl (cI, 100, .inl kd)), (q0, .inl (cI, 100, .inl s0)), (q1, .inl (cI, 100, .inl s1)), (qo, .inl (cI, 12, .inl on)), (qv, .inl (cJ, 1600, .inr (.inl vl)))] H := hP
        have hD : va_D A [(qC, .inr (1, [.ref qpa, .ref qnu, .ref qfi, .ref qme, .ref qus, .int (nI cs)])), (qpa, .inl (cI, 600, .inl pa)), (qnu, .inl (cI, 600, .inl nu)), (qfi, .inl (cI, 600, .inl fi)), (qme, .inl (cI, 600, .inl me)), (qus, .inl (cI, 100, .inl (upd u i (nI 0)))), (qc, .inr (0, [.ref qk, .ref q0, .ref q1, .ref qo, .ref qv, .int (nI n), .int (nI ni), .int (nI no)])), (qk, .inl (cI, 100, .inl kd)), (q0, .inl (cI, 100, .inl s0)), (q1, .inl (cI, 100, .inl s1)), (qo, .inl (cI, 12, .inl on)), (qv, .inl (cJ, 1600, .inr (.inl vl)))] := hD
        refine lv_iinc (v := (nI (i + 1))) (lv' := [(2, .int (nI (i + 1))), (0, .ref qC), (1, .ref qc)]) hx hb dX1_countUses_15 hl (k := 2) rfl (nI_add _ 1) (by decide) rfl (fun ls hl => ?_)
        refine lv_goto (tgt := 2) hx hb dX1_countUses_18 (by decide) ?_
        exact ih2 (i + 1) (upd u i (nI 0)) (by omega) (fun j h => by by_cases e : j = i; subst e; exact pk_us; rw [pk_un e]; exact hu j (by omega)) (by omega) _ _ hP hD hS ls (lv_sub hl [1, 2, 0] rfl)
  exact loop2 ((100 - 0) + 1) 0 us (by omega) (fun j h => absurd h (Nat.not_lt_zero _)) (Nat.lt_succ_self _) _ _ hP hD hS ls (lv_sub hl [1, 2, 0] rfl)

set_option maxHeartbeats 4000000 in
set_option maxRecDepth 100000 in
theorem c_X1_enter (l : Launch) (D : va_G) (cI cJ cZ : ClassId) (qC : Nat) (qpa : Nat) (qnu : Nat) (qfi : Nat) (qme : Nat) (qus : Nat) (pa : Nat → Int32) (nu : Nat → Int32) (fi : Nat → Int32) (me : Nat → Int32) (us : Nat → Int32) (cs : Nat) (r : Nat → Nat) (f : Nat) (sz : Nat) (A : Nat → Prop) (hAe : A = va_A [(qC, .inr (1, [.ref qpa, .ref qnu, .ref qfi, .ref qme, .ref qus, .int (nI cs)])), (qpa, .inl (cI, 600, .inl pa)), (qnu, .inl (cI, 600, .inl nu)), (qfi, .inl (cI, 600, .inl fi)), (qme, .inl (cI, 600, .inl me)), (qus, .inl (cI, 100, .inl us))] sz) (hR : RootOf pa r) (hf : f < 600) (hcs : cs ≤ f) (hk : ¬ r f = f → ∃ k9, k9 < cs ∧ nu (r f) = nI k9) : Met l yX1_enter wsX1_enter ({ frames := 1, cells := 0, slots := 0, locals := 23 } : Room) (va_Pc [.ref qC, .int (nI f)] (PW D cI cJ cZ [(qC, .inr (1, [.ref qpa, .ref qnu, .ref qfi, .ref qme, .ref qus, .int (nI cs)])), (qpa, .inl (cI, 600, .inl pa)), (qnu, .inl (cI, 600, .inl nu)), (qfi, .inl (cI, 600, .inl fi)), (qme, .inl (cI, 600, .inl me)), (qus, .inl (cI, 100, .inl us))] sz)) (va_Qv (fun u9 : (Nat → Int32) × (Nat → Int32) × (Nat → Int32) × Nat => match u9 with | (nu2, fi2, me2, cs2) => (nu2, fi2, me2, cs2) = entE r f (nu, fi, me, cs)) (fun (u9 : (Nat → Int32) × (Nat → Int32) × (Nat → Int32) × Nat) t => match u9 with | (nu2, fi2, me2, cs2) => PQ D A [(qC, .inr (1, [.ref qpa, .ref qnu, .ref qfi, .ref qme, .ref qus, .int (nI cs2)])), (qpa, .inl (cI, 600, .inl pa)), (qnu, .inl (cI, 600, .inl nu2)), (qfi, .inl (cI, 600, .inl fi2)), (qme, .inl (cI, 600, .inl me2)), (qus, .inl (cI, 100, .inl us))] t) A) 0 0 A := by
  refine Met.ofW (cc := cX1_enter) (maxL := 4) (ret := none) (by decide) rfl ?_
  intro p e s m args below meth c s₁ B hml hv
  obtain ⟨rfl, hsz, ⟨hP, hK, hNB⟩, hD0⟩ := hv
  have hx := B.exec
  have hb := B.bytes
  have hr := B.returns
  have hts := atoms_spec (ws := wsX1_enter) B.pre
  have hown : s.vm.findClass RX1 = some m.cls := findClass_of_methodNamed B.named
  have hlocks := B.notSynchronized
  have hiX1 : ∀ w ∈ u_ws RX1 TX1 6, w ∈ wsX1_enter := by decide +kernel
  subst hsz
  have hD : va_D A [(qC, .inr (1, [.ref qpa, .ref qnu, .ref qfi, .ref qme, .ref qus, .int (nI cs)])), (qpa, .inl (cI, 600, .inl pa)), (qnu, .inl (cI, 600, .inl nu)), (qfi, .inl (cI, 600, .inl fi)), (qme, .inl (cI, 600, .inl me)), (qus, .inl (cI, 100, .inl us))] := by rw [hAe]; exact hD0.self
  have hA : ∀ q : Nat, s.heap.size ≤ q → A q := fun q h => by rw [hAe]; exact Or.inr h
  have hS : va_S A s.heap s.heap [] := va_S.rf
  have hl := lv_entry ([.ref qC, .int (nI f)]) (n := 4) (Nat.le_of_ble_eq_true rfl)
  rw [lg_entry_eq]
  generalize (lg_sl ([.ref qC, .int (nI f)]) ++ List.replicate (4 - (lg_sl ([.ref qC, .int (nI f)])).length) Slot.unset).toArray = ls at hl ⊢
  have hl : lv_has ls 4 [(0, .ref qC), (1, .int (nI f))] := hl
  have hrf := (hR.le f hf).1
  refine lv_aload_n hx hb dX1_enter_0 rfl (lv_at hl 0 rfl) ?_
  refine lv_iload_n hx hb dX1_enter_1 rfl (lv_at hl 1 rfl) ?_
  have hPc := hP.sub (ws' := [(qC, .inr (1, [.ref qpa, .ref qnu, .ref qfi, .ref qme, .ref qus, .int (nI cs)])), (qpa, .inl (cI, 600, .inl pa)), (qnu, .inl (cI, 600, .inl nu)), (qfi, .inl (cI, 600, .inl fi)), (qme, .inl (cI, 600, .inl me)), (qus, .inl (cI, 100, .inl us))]) [0, 1, 2, 3, 4, 5] rfl
  refine vp_callSi (va_runV (As := [.int (nI f)]) (rest := []) ⟨hx, hb, hml, hown, hts⟩ (c_X1_root l D cI cJ cZ qC qpa qnu qfi qme qus pa nu fi me us cs r f hR hf) (cwV 1 hts gX1_enter_X1_root rfl rfl rfl (by decide +kernel) ⟨Nat.le_of_ble_eq_true rfl, Nat.le_of_ble_eq_true rfl⟩) ⟨PR.blind, va_recv hK hPc (ci := 1) (q0 := 0) rfl rfl, fun U hU hW => ⟨rfl, PR.to hPc hK hNB hU hW⟩⟩ rfl rfl hl.1 rfl (lv_room (Nat.le_of_ble_eq_true rfl)) dX1_enter_2 ⟨Nat.le_of_ble_eq_true rfl, Nat.le_of_ble_eq_true rfl⟩).run (fun r_1 hrr_1 => ?_)
  subst hrr_1
  refine lv_istore_n (lv' := [(2, .int (nI (r f))), (0, .ref qC), (1, .int (nI f))]) hx hb dX1_enter_5 rfl hl (by decide) rfl (fun ls hl => ?_)
  refine lv_iload_n hx hb dX1_enter_6 rfl (lv_at hl 0 rfl) ?_
  refine lv_iload_n hx hb dX1_enter_7 rfl (lv_at hl 2 rfl) ?_
  refine lv_icmp_ne (tgt := 51) hx hb dX1_enter_8 (by decide) (fun c_8 => ?_) (fun c_8 => ?_)
  · skip
    rw [zc_eq (by omega) (by omega)] at c_8
    refine lv_aload_n hx hb dX1_enter_51 rfl (lv_at hl 1 rfl) ?_
    refine va_get (D := D) (ci := 1) (v := .ref qnu) (C := RX1) (T := TX1) (N := 6) hx hb hts hiX1 hown hK hP 0 rfl rfl 1 (by decide) (hts (.fieldLink RX1 15 "FaultSearch$Classes" "numbers" "[I") (by decide +kernel)) (fun _ h9 => h9) rfl dX1_enter_52 ?_
    refine lv_iload_n hx hb dX1_enter_55 rfl (lv_at hl 0 rfl) ?_
    refine zz_iald hx hb hK hP 2 0 rfl rfl (n := 600) (j := (r f)) (by omega) (by decide) dX1_enter_56 ?_
    have hnum : ∃ k9, k9 < 600 ∧ (nu (r f)) = nI k9 := by
      obtain ⟨k9, h1, h2⟩ := hk c_8; exact ⟨k9, by omega, h2⟩
    obtain ⟨k9, hk9, hnum⟩ := hnum
    refine zz_i (z := (nI k9)) hnum ?_
    refine lv_istore_n (lv' := [(3, .int (nI k9)), (2, .int (nI (r f))), (0, .ref qC), (1, .int (nI f))]) hx hb dX1_enter_57 rfl hl (by decide) rfl (fun ls hl => ?_)
    refine lv_aload_n hx hb dX1_enter_58 rfl (lv_at hl 2 rfl) ?_
    refine va_get (D := D) (ci := 1) (v := .ref qnu) (C := RX1) (T := TX1) (N := 6) hx hb hts hiX1 hown hK hP 0 rfl rfl 1 (by decide) (hts (.fieldLink RX1 15 "FaultSearch$Classes" "numbers" "[I") (by decide +kernel)) (fun _ h9 => h9) rfl dX1_enter_59 ?_
    refine lv_iload_n hx hb dX1_enter_62 rfl (lv_at hl 3 rfl) ?_
    refine lv_iload_n hx hb dX1_enter_63 rfl (lv_at hl 0 rfl) ?_
    refine zz_iast hx hb hK hP hD hS 2 0 rfl rfl (n := 600) (j := f) (by omega) (by decide) dX1_enter_64 (fun H locs hP hD hS => ?_)
    have hP : va_P D vwCl [(qC, .inr (1, [.ref qpa, .ref qnu, .ref qfi, .ref qme, .ref qus, .int (nI cs)])), (qpa, .inl (cI, 600, .inl pa)), (qnu, .inl (cI, 600, .inl (upd nu f (nI k9)))), (qfi, .inl (cI, 600, .inl fi)), (qme, .inl (cI, 600, .inl me)), (qus, .inl (cI, 100, .inl us))] H := hP
    have hD : va_D A [(qC, .inr (1, [.ref qpa, .ref qnu, .ref qfi, .ref qme, .ref qus, .int (nI cs)])), (qpa, .inl (cI, 600, .inl pa)), (qnu, .inl (cI, 600, .inl (upd nu f (nI k9)))), (qfi, .inl (cI, 600, .inl fi)), (qme, .inl (cI, 600, .inl me)), (qus, .inl (cI, 100, .inl us))] := hD
    refine lv_aload_n hx hb dX1_enter_65 rfl (lv_at hl 2 rfl) ?_
    refine va_get (D := D) (ci := 1) (v := .ref qme) (C := RX1) (T := TX1) (N := 6) hx hb hts hiX1 hown hK hP 0 rfl rfl 3 (by decide) (hts (.fieldLink RX1 21 "FaultSearch$Classes" "members" "[I") (by decide +kernel)) (fun _ h9 => h9) rfl dX1_enter_66 ?_
    refine lv_iload_n hx hb dX1_enter_69 rfl (lv_at hl 0 rfl) ?_
    refine lv_dup2_11 hx hb dX1_enter_70 rfl rfl ?_
    refine zz_iald hx hb hK hP 4 0 rfl rfl (n := 600) (j := k9) (by omega) (by decide) dX1_enter_71 ?_
    refine lv_iconst (v := (nI 1)) hx hb dX1_enter_72 (by decide) ?_
    refine lv_iadd hx hb dX1_enter_73 ?_
    refine zz_iast hx hb hK hP hD hS 4 0 rfl rfl (n := 600) (j := k9) (by omega) (by decide) dX1_enter_74 (fun H locs hP hD hS => ?_)
    have hP : va_P D vwCl [(qC, .inr (1, [.ref qpa, .ref qnu, .ref qfi, .ref qme, .ref qus, .int (nI cs)])), (qpa, .inl (cI, 600, .inl pa)), (qnu, .inl (cI, 600, .inl (upd nu f (nI k9)))), (qfi, .inl (cI, 600, .inl fi)), (qme, .inl (cI, 600, .inl (upd me k9 ((me k9) + (nI 1))))), (qus, .inl (cI, 100, .inl us))] H := hP
    have hD : va_D A [(qC, .inr (1, [.ref qpa, .ref qnu, .ref qfi, .ref qme, .ref qus, .int (nI cs)])), (qpa, .inl (cI, 600, .inl pa)), (qnu, .inl (cI, 600, .inl (upd nu f (nI k9)))), (qfi, .inl (cI, 600, .inl fi)), (qme, .inl (cI, 600, .inl (upd me k9 ((me k9) + (nI 1))))), (qus, .inl (cI, 100, .inl us))] := hD
    exact W.vret hx hb hr (fun t_9 ht_9 hW_9 => ⟨⟨(upd nu f (nI k9), fi, upd me k9 ((me k9) + (nI 1)), cs), rfl, (show ((upd nu f (nI k9)), fi, (upd me k9 ((me k9) + (nI 1))), cs) = entE r f (nu, fi, me, cs) from (by rw [entE, if_neg c_8]; simp only []; rw [hnum, show cn (nI k9) = k9 from nI_clamp (by omega)])), ⟨by rw [ht_9]; exact hP, hD⟩⟩, hS.F ht_9⟩) hS.2.2 dX1_enter_75
  · skip
    rw [zc_eq (by omega) (by omega)] at c_8
    refine lv_aload_n hx hb dX1_enter_11 rfl (lv_at hl 1 rfl) ?_
    refine va_get (D := D) (ci := 1) (v := .ref qnu) (C := RX1) (T := TX1) (N := 6) hx hb hts hiX1 hown hK hP 0 rfl rfl 1 (by decide) (hts (.fieldLink RX1 15 "FaultSearch$Classes" "numbers" "[I") (by decide +kernel)) (fun _ h9 => h9) rfl dX1_enter_12 ?_
    refine lv_iload_n hx hb dX1_enter_15 rfl (lv_at hl 2 rfl) ?_
    refine lv_aload_n hx hb dX1_enter_16 rfl (lv_at hl 1 rfl) ?_
    refine va_get (D := D) (ci := 1) (v := .int (nI cs)) (C := RX1) (T := TX1) (N := 6) hx hb hts hiX1 hown hK hP 0 rfl rfl 5 (by decide) (hts (.fieldLink RX1 55 "FaultSearch$Classes" "size" "I") (by decide +kernel)) (fun _ h9 => h9) rfl dX1_enter_17 ?_
    refine zz_iast hx hb hK hP hD hS 2 0 rfl rfl (n := 600) (j := f) (by omega) (by decide) dX1_enter_20 (fun H locs hP hD hS => ?_)
    have hP : va_P D vwCl [(qC, .inr (1, [.ref qpa, .ref qnu, .ref qfi, .ref qme, .ref qus, .int (nI cs)])), (qpa, .inl (cI, 600, .inl pa)), (qnu, .inl (cI, 600, .inl (upd nu f (nI cs)))), (qfi, .inl (cI, 600, .inl fi)), (qme, .inl (cI, 600, .inl me)), (qus, .inl (cI, 100, .inl us))] H := hP
    have hD : va_D A [(qC, .inr (1, [.ref qpa, .ref qnu, .ref qfi, .ref qme, .ref qus, .int (nI cs)])), (qpa, .inl (cI, 600, .inl pa)), (qnu, .inl (cI, 600, .inl (upd nu f (nI cs)))), (qfi, .inl (cI, 600, .inl fi)), (qme, .inl (cI, 600, .inl me)), (qus, .inl (cI, 100, .inl us))] := hD
    refine lv_aload_n hx hb dX1_enter_21 rfl (lv_at hl 1 rfl) ?_
    refine va_get (D := D) (ci := 1) (v := .ref qfi) (C := RX1) (T := TX1) (N := 6) hx hb hts hiX1 hown hK hP 0 rfl rfl 2 (by decide) (hts (.fieldLink RX1 18 "FaultSearch$Classes" "firsts" "[I") (by decide +kernel)) (fun _ h9 => h9) rfl dX1_enter_22 ?_
    refine lv_aload_n hx hb dX1_enter_25 rfl (lv_at hl 1 rfl) ?_
    refine va_get (D := D) (ci := 1) (v := .int (nI cs)) (C := RX1) (T := TX1) (N := 6) hx hb hts hiX1 hown hK hP 0 rfl rfl 5 (by decide) (hts (.fieldLink RX1 55 "FaultSearch$Classes" "size" "I") (by decide +kernel)) (fun _ h9 => h9) rfl dX1_enter_26 ?_
    refine lv_iload_n hx hb dX1_enter_29 rfl (lv_at hl 2 rfl) ?_
    refine zz_iast hx hb hK hP hD hS 3 0 rfl rfl (n := 600) (j := cs) (by omega) (by decide) dX1_enter_30 (fun H locs hP hD hS => ?_)
    have hP : va_P D vwCl [(qC, .inr (1, [.ref qpa, .ref qnu, .ref qfi, .ref qme, .ref qus, .int (nI cs)])), (qpa, .inl (cI, 600, .inl pa)), (qnu, .inl (cI, 600, .inl (upd nu f (nI cs)))), (qfi, .inl (cI, 600, .inl (upd fi cs (nI f)))), (qme, .inl (cI, 600, .inl me)), (qus, .inl (cI, 100, .inl us))] H := hP
    have hD : va_D A [(qC, .inr (1, [.ref qpa, .ref qnu, .ref qfi, .ref qme, .ref qus, .int (nI cs)])), (qpa, .inl (cI, 600, .inl pa)), (qnu, .inl (cI, 600, .inl (upd nu f (nI cs)))), (qfi, .inl (cI, 600, .inl (upd fi cs (nI f)))), (qme, .inl (cI, 600, .inl me)), (qus, .inl (cI, 100, .inl us))] := hD
    refine lv_aload_n hx hb dX1_enter_31 rfl (lv_at hl 1 rfl) ?_
    refine va_get (D := D) (ci := 1) (v := .ref qme) (C := RX1) (T := TX1) (N := 6) hx hb hts hiX1 hown hK hP 0 rfl rfl 3 (by decide) (hts (.fieldLink RX1 21 "FaultSearch$Classes" "members" "[I") (by decide +kernel)) (fun _ h9 => h9) rfl dX1_enter_32 ?_
    refine lv_aload_n hx hb dX1_enter_35 rfl (lv_at hl 1 rfl) ?_
    refine va_get (D := D) (ci := 1) (v := .int (nI cs)) (C := RX1) (T := TX1) (N := 6) hx hb hts hiX1 hown hK hP 0 rfl rfl 5 (by decide) (hts (.fieldLink RX1 55 "FaultSearch$Classes" "size" "I") (by decide +kernel)) (fun _ h9 => h9) rfl dX1_enter_36 ?_
    refine lv_iconst (v := (nI 0)) hx hb dX1_enter_39 (by decide) ?_
    refine zz_iast hx hb hK hP hD hS 4 0 rfl rfl (n := 600) (j := cs) (by omega) (by decide) dX1_enter_40 (fun H locs hP hD hS => ?_)
    have hP : va_P D vwCl [(qC, .inr (1, [.ref qpa, .ref qnu, .ref qfi, .ref qme, .ref qus, .int (nI cs)])), (qpa, .inl (cI, 600, .inl pa)), (qnu, .inl (cI, 600, .inl (upd nu f (nI cs)))), (qfi, .inl (cI, 600, .inl (upd fi cs (nI f)))), (qme, .inl (cI, 600, .inl (upd me cs (nI 0)))), (qus, .inl (cI, 100, .inl us))] H := hP
    have hD : va_D A [(qC, .inr (1, [.ref qpa, .ref qnu, .ref qfi, .ref qme, .ref qus, .int (nI cs)])), (qpa, .inl (cI, 600, .inl pa)), (qnu, .inl (cI, 600, .inl (upd nu f (nI cs)))), (qfi, .inl (cI, 600, .inl (upd fi cs (nI f)))), (qme, .inl (cI, 600, .inl (upd me cs (nI 0)))), (qus, .inl (cI, 100, .inl us))] := hD
    refine lv_aload_n hx hb dX1_enter_41 rfl (lv_at hl 1 rfl) ?_
    refine lv_dup hx hb dX1_enter_42 rfl ?_
    refine va_get (D := D) (ci := 1) (v := .int (nI cs)) (C := RX1) (T := TX1) (N := 6) hx hb hts hiX1 hown hK hP 0 rfl rfl 5 (by decide) (hts (.fieldLink RX1 55 "FaultSearch$Classes" "size" "I") (by decide +kernel)) (fun _ h9 => h9) rfl dX1_enter_43 ?_
    refine lv_iconst (v := (nI 1)) hx hb dX1_enter_46 (by decide) ?_
    refine lv_iadd hx hb dX1_enter_47 ?_
    refine zz_i (z := (nI (cs + 1))) (nI_add _ _) ?_
    refine va_put (D := D) (ci := 1) (v := .int (nI (cs + 1))) (ty := .int) (C := RX1) (T := TX1) (N := 6) hx hb hts hiX1 tyX1 tyX1_ok nmX1 hown hK hP hD hS 0 rfl rfl 5 (by decide) (hts (.fieldLink RX1 55 "FaultSearch$Classes" "size" "I") (by decide +kernel)) (fun _ h9 => h9) rfl (by decide +kernel) rfl rfl (Nat.le_of_ble_eq_true rfl) dX1_enter_48 (fun H locs hP hD hS => ?_)
    have hP : va_P D vwCl [(qC, .inr (1, [.ref qpa, .ref qnu, .ref qfi, .ref qme, .ref qus, .int (nI (cs + 1))])), (qpa, .inl (cI, 600, .inl pa)), (qnu, .inl (cI, 600, .inl (upd nu f (nI cs)))), (qfi, .inl (cI, 600, .inl (upd fi cs (nI f)))), (qme, .inl (cI, 600, .inl (upd me cs (nI 0)))), (qus, .inl (cI, 100, .inl us))] H := hP
    have hD : va_D A [(qC, .inr (1, [.ref qpa, .ref qnu, .ref qfi, .ref qme, .ref qus, .int (nI (cs + 1))])), (qpa, .inl (cI, 600, .inl pa)), (qnu, .inl (cI, 600, .inl (upd nu f (nI cs)))), (qfi, .inl (cI, 600, .inl (upd fi cs (nI f)))), (qme, .inl (cI, 600, .inl (upd me cs (nI 0)))), (qus, .inl (cI, 100, .inl us))] := hD
    refine lv_aload_n hx hb dX1_enter_51 rfl (lv_at hl 1 rfl) ?_
    refine va_get (D := D) (ci := 1) (v := .ref qnu) (C := RX1) (T := TX1) (N := 6) hx hb hts hiX1 hown hK hP 0 rfl rfl 1 (by decide) (hts (.fieldLink RX1 15 "FaultSearch$Classes" "numbers" "[I") (by decide +kernel)) (fun _ h9 => h9) rfl dX1_enter_52 ?_
    refine lv_iload_n hx hb dX1_enter_55 rfl (lv_at hl 0 rfl) ?_
    refine zz_iald hx hb hK hP 2 0 rfl rfl (n := 600) (j := (r f)) (by omega) (by decide) dX1_enter_56 ?_
    have hnum : ∃ k9, k9 < 600 ∧ ((upd nu f (nI cs)) (r f)) = nI k9 := by
      exact ⟨cs, by omega, by rw [c_8]; exact pk_us⟩
    obtain ⟨k9, hk9, hnum⟩ := hnum
    refine zz_i (z := (nI k9)) hnum ?_
    refine lv_istore_n (lv' := [(3, .int (nI k9)), (2, .int (nI (r f))), (0, .ref qC), (1, .int (nI f))]) hx hb dX1_enter_57 rfl hl (by decide) rfl (fun ls hl => ?_)
    refine lv_aload_n hx hb dX1_enter_58 rfl (lv_at hl 2 rfl) ?_
    refine va_get (D := D) (ci := 1) (v := .ref qnu) (C := RX1) (T := TX1) (N := 6) hx hb hts hiX1 hown hK hP 0 rfl rfl 1 (by decide) (hts (.fieldLink RX1 15 "FaultSearch$Classes" "numbers" "[I") (by decide +kernel)) (fun _ h9 => h9) rfl dX1_enter_59 ?_
    refine lv_iload_n hx hb dX1_enter_62 rfl (lv_at hl 3 rfl) ?_
    refine lv_iload_n hx hb dX1_enter_63 rfl (lv_at hl 0 rfl) ?_
    refine zz_iast hx hb hK hP hD hS 2 0 rfl rfl (n := 600) (j := f) (by omega) (by decide) dX1_enter_64 (fun H locs hP hD hS => ?_)
    have hP : va_P D vwCl [(qC, .inr (1, [.ref qpa, .ref qnu, .ref qfi, .ref qme, .ref qus, .int (nI (cs + 1))])), (qpa, .inl (cI, 600, .inl pa)), (qnu, .inl (cI, 600, .inl (upd (upd nu f (nI cs)) f (nI k9)))), (qfi, .inl (cI, 600, .inl (upd fi cs (nI f)))), (qme, .inl (cI, 600, .inl (upd me cs (nI 0)))), (qus, .inl (cI, 100, .inl us))] H := hP
    have hD : va_D A [(qC, .inr (1, [.ref qpa, .ref qnu, .ref qfi, .ref qme, .ref qus, .int (nI (cs + 1))])), (qpa, .inl (cI, 600, .inl pa)), (qnu, .inl (cI, 600, .inl (upd (upd nu f (nI cs)) f (nI k9)))), (qfi, .inl (cI, 600, .inl (upd fi cs (nI f)))), (qme, .inl (cI, 600, .inl (upd me cs (nI 0)))), (qus, .inl (cI, 100, .inl us))] := hD
    refine lv_aload_n hx hb dX1_enter_65 rfl (lv_at hl 2 rfl) ?_
    refine va_get (D := D) (ci := 1) (v := .ref qme) (C := RX1) (T := TX1) (N := 6) hx hb hts hiX1 hown hK hP 0 rfl rfl 3 (by decide) (hts (.fieldLink RX1 21 "FaultSearch$Classes" "members" "[I") (by decide +kernel)) (fun _ h9 => h9) rfl dX1_enter_66 ?_
    refine lv_iload_n hx hb dX1_enter_69 rfl (lv_at hl 0 rfl) ?_
    refine lv_dup2_11 hx hb dX1_enter_70 rfl rfl ?_
    refine zz_iald hx hb hK hP 4 0 rfl rfl (n := 600) (j := k9) (by omega) (by decide) dX1_enter_71 ?_
    refine lv_iconst (v := (nI 1)) hx hb dX1_enter_72 (by decide) ?_
    refine lv_iadd hx hb dX1_enter_73 ?_
    refine zz_iast hx hb hK hP hD hS 4 0 rfl rfl (n := 600) (j := k9) (by omega) (by decide) dX1_enter_74 (fun H locs hP hD hS => ?_)
    have hP : va_P D vwCl [(qC, .inr (1, [.ref qpa, .ref qnu, .ref qfi, .ref qme, .ref qus, .int (nI (cs + 1))])), (qpa, .inl (cI, 600, .inl pa)), (qnu, .inl (cI, 600, .inl (upd (upd nu f (nI cs)) f (nI k9)))), (qfi, .inl (cI, 600, .inl (upd fi cs (nI f)))), (qme, .inl (cI, 600, .inl (upd (upd me cs (nI 0)) k9 (((upd me cs (nI 0)) k9) + (nI 1))))), (qus, .inl (cI, 100, .inl us))] H := hP
    have hD : va_D A [(qC, .inr (1, [.ref qpa, .ref qnu, .ref qfi, .ref qme, .ref qus, .int (nI (cs + 1))])), (qpa, .inl (cI, 600, .inl pa)), (qnu, .inl (cI, 600, .inl (upd (upd nu f (nI cs)) f (nI k9)))), (qfi, .inl (cI, 600, .inl (upd fi cs (nI f)))), (qme, .inl (cI, 600, .inl (upd (upd me cs (nI 0)) k9 (((upd me cs (nI 0)) k9) + (nI 1))))), (qus, .inl (cI, 100, .inl us))] := hD
    exact W.vret hx hb hr (fun t_9 ht_9 hW_9 => ⟨⟨(upd (upd nu f (nI cs)) f (nI k9), upd fi cs (nI f), upd (upd me cs (nI 0)) k9 (((upd me cs (nI 0)) k9) + (nI 1)), cs + 1), rfl, (show ((upd (upd nu f (nI cs)) f (nI k9)), (upd fi cs (nI f)), (upd (upd me cs (nI 0)) k9 (((upd me cs (nI 0)) k9) + (nI 1))), (cs + 1)) = entE r f (nu, fi, me, cs) from (by rw [entE, if_pos c_8]; have e9 : k9 = cs := (nI_eq (by omega) (by omega)).mp (hnum.symm.trans (by rw [c_8]; exact pk_us)); rw [e9, upd_upd, upd_upd, pk_us]; rfl)), ⟨by rw [ht_9]; exact hP, hD⟩⟩, hS.F ht_9⟩) hS.2.2 dX1_enter_75
