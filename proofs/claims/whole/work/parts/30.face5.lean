set_option maxHeartbeats 4000000 in
set_option maxRecDepth 100000 in
theorem c_X4_gate_ok (l : Launch) (D : va_G) (cI cJ cZ : ClassId) (qx : Nat) (qc : Nat) (qk : Nat) (q0 : Nat) (q1 : Nat) (qo : Nat) (qv : Nat) (kd : Nat → Int32) (s0 : Nat → Int32) (s1 : Nat → Int32) (on : Nat → Int32) (vl : Nat → Int64) (n : Nat) (ni : Nat) (no : Nat) (qC : Nat) (qS : Nat) (qse : Nat) (qre : Nat) (qcg : Nat) (se : Nat → Int64) (re : Nat → Int32) (cg : Nat → Int64) (qP : Nat) (qfo : Nat) (qte : Nat) (fd : Nat → Int32) (ts : Nat → Int32) (fc : Nat) (tc : Nat) (st : Nat) (k : Int32) (a : Nat) (b : Int32) (bb : Nat) (sz : Nat) (A : Nat → Prop) (hAe : A = va_A [(qx, .inr (4, [.ref qc, .ref qC, .ref qS, .ref qP, .int (nI st)])), (qc, .inr (0, [.ref qk, .ref q0, .ref q1, .ref qo, .ref qv, .int (nI n), .int (nI ni), .int (nI no)])), (qk, .inl (cI, 100, .inl kd)), (q0, .inl (cI, 100, .inl s0)), (q1, .inl (cI, 100, .inl s1)), (qo, .inl (cI, 12, .inl on)), (qv, .inl (cJ, 1600, .inr (.inl vl))), (qS, .inr (3, [.ref qc, .ref qse, .ref qre, .ref qcg])), (qse, .inl (cJ, 1600, .inr (.inl se))), (qre, .inl (cZ, 100, .inl re)), (qcg, .inl (cJ, 100, .inr (.inl cg))), (qP, .inr (2, [.ref qfo, .ref qte, .int (nI fc), .int (nI tc)])), (qfo, .inl (cZ, 600, .inl fd)), (qte, .inl (cI, 600, .inl ts))] sz) (h2 : n < 100) (ha : a < n) (hb2 : bb < n) (hbb : (if onePin k then nI a else b) = nI bb) (hk1 : ¬ k < 0) (hk2 : k ≤ nI 6) : Met l yX4_gate wsX4_gate ({ frames := 2, cells := 0, slots := 0, locals := 49 } : Room) (va_Pc [.ref qx, .int k, .int (nI a), .int b] (PW D cI cJ cZ [(qx, .inr (4, [.ref qc, .ref qC, .ref qS, .ref qP, .int (nI st)])), (qc, .inr (0, [.ref qk, .ref q0, .ref q1, .ref qo, .ref qv, .int (nI n), .int (nI ni), .int (nI no)])), (qk, .inl (cI, 100, .inl kd)), (q0, .inl (cI, 100, .inl s0)), (q1, .inl (cI, 100, .inl s1)), (qo, .inl (cI, 12, .inl on)), (qv, .inl (cJ, 1600, .inr (.inl vl))), (qS, .inr (3, [.ref qc, .ref qse, .ref qre, .ref qcg])), (qse, .inl (cJ, 1600, .inr (.inl se))), (qre, .inl (cZ, 100, .inl re)), (qcg, .inl (cJ, 100, .inr (.inl cg))), (qP, .inr (2, [.ref qfo, .ref qte, .int (nI fc), .int (nI tc)])), (qfo, .inl (cZ, 600, .inl fd)), (qte, .inl (cI, 600, .inl ts))] sz)) (va_Qi (fun (r_9 : Int32) (_u9 : Unit) => r_9 = (nI n)) (fun (_u9 : Unit) t => PQ D A [(qx, .inr (4, [.ref qc, .ref qC, .ref qS, .ref qP, .int (nI 1)])), (qc, .inr (0, [.ref qk, .ref q0, .ref q1, .ref qo, .ref qv, .int (nI (n + 1)), .int (nI ni), .int (nI no)])), (qk, .inl (cI, 100, .inl (upd kd n k))), (q0, .inl (cI, 100, .inl (upd s0 n (nI a)))), (q1, .inl (cI, 100, .inl (upd s1 n (nI bb)))), (qo, .inl (cI, 12, .inl on)), (qv, .inl (cJ, 1600, .inr (.inl (addV k a bb n vl 16)))), (qS, .inr (3, [.ref qc, .ref qse, .ref qre, .ref qcg])), (qse, .inl (cJ, 1600, .inr (.inl se))), (qre, .inl (cZ, 100, .inl (clrF re 100))), (qcg, .inl (cJ, 100, .inr (.inl cg))), (qP, .inr (2, [.ref qfo, .ref qte, .int (nI 0), .int (nI 0)])), (qfo, .inl (cZ, 600, .inl (clrF fd 600))), (qte, .inl (cI, 600, .inl ts))] t) A) 0 0 A := by
  refine Met.ofW (cc := cX4_gate) (maxL := 5) (ret := (some .int)) (by decide) rfl ?_
  intro p e s m args below meth c s₁ B hml hv
  obtain ⟨rfl, hsz, ⟨hP, hK, hNB⟩, hD0⟩ := hv
  have hx := B.exec
  have hb := B.bytes
  have hr := B.returns
  have hts := atoms_spec (ws := wsX4_gate) B.pre
  have hown : s.vm.findClass RX4 = some m.cls := findClass_of_methodNamed B.named
  have hlocks := B.notSynchronized
  have hiX0 : ∀ w ∈ u_ws RX0 TX0 8, w ∈ wsX4_gate := by decide +kernel
  have hiX4 : ∀ w ∈ u_ws RX4 TX4 5, w ∈ wsX4_gate := by decide +kernel
  subst hsz
  have hD : va_D A [(qx, .inr (4, [.ref qc, .ref qC, .ref qS, .ref qP, .int (nI st)])), (qc, .inr (0, [.ref qk, .ref q0, .ref q1, .ref qo, .ref qv, .int (nI n), .int (nI ni), .int (nI no)])), (qk, .inl (cI, 100, .inl kd)), (q0, .inl (cI, 100, .inl s0)), (q1, .inl (cI, 100, .inl s1)), (qo, .inl (cI, 12, .inl on)), (qv, .inl (cJ, 1600, .inr (.inl vl))), (qS, .inr (3, [.ref qc, .ref qse, .ref qre, .ref qcg])), (qse, .inl (cJ, 1600, .inr (.inl se))), (qre, .inl (cZ, 100, .inl re)), (qcg, .inl (cJ, 100, .inr (.inl cg))), (qP, .inr (2, [.ref qfo, .ref qte, .int (nI fc), .int (nI tc)])), (qfo, .inl (cZ, 600, .inl fd)), (qte, .inl (cI, 600, .inl ts))] := by rw [hAe]; exact hD0.self
  have hA : ∀ q : Nat, s.heap.size ≤ q → A q := fun q h => by rw [hAe]; exact Or.inr h
  have hS : va_S A s.heap s.heap [] := va_S.rf
  have hl := lv_entry ([.ref qx, .int k, .int (nI a), .int b]) (n := 5) (Nat.le_of_ble_eq_true rfl)
  rw [lg_entry_eq]
  generalize (lg_sl ([.ref qx, .int k, .int (nI a), .int b]) ++ List.replicate (5 - (lg_sl ([.ref qx, .int k, .int (nI a), .int b])).length) Slot.unset).toArray = ls at hl ⊢
  have hl : lv_has ls 5 [(0, .ref qx), (1, .int k), (2, .int (nI a)), (3, .int b)] := hl
  refine lv_aload_n hx hb dX4_gate_0 rfl (lv_at hl 0 rfl) ?_
  refine va_get (D := D) (ci := 4) (v := .ref qc) (C := RX4) (T := TX4) (N := 5) hx hb hts hiX4 hown hK hP 0 rfl rfl 0 (by decide) (hts (.fieldLink RX4 12 "FaultSearch" "chip" "LFaultSearch$Chip;") (by decide +kernel)) (fun _ h9 => h9) rfl dX4_gate_1 ?_
  refine lv_iload_n hx hb dX4_gate_4 rfl (lv_at hl 2 rfl) ?_
  have hPc := hP.sub (ws' := [(qc, .inr (0, [.ref qk, .ref q0, .ref q1, .ref qo, .ref qv, .int (nI n), .int (nI ni), .int (nI no)])), (qk, .inl (cI, 100, .inl kd)), (q0, .inl (cI, 100, .inl s0)), (q1, .inl (cI, 100, .inl s1)), (qo, .inl (cI, 12, .inl on)), (qv, .inl (cJ, 1600, .inr (.inl vl)))]) [1, 2, 3, 4, 5, 6] rfl
  refine vp_callSi (va_runV (As := [.int (nI a)]) (rest := []) ⟨hx, hb, hml, hown, hts⟩ (c_X0_hasNet l D cI cJ cZ qc qk q0 q1 qo qv kd s0 s1 on vl n ni no (nI a)) (cwV 1 hts gX4_gate_X0_hasNet rfl rfl rfl (by decide +kernel) ⟨Nat.le_of_ble_eq_true rfl, Nat.le_of_ble_eq_true rfl⟩) ⟨PR.blind, va_recv hK hPc (ci := 0) (q0 := 0) rfl rfl, fun U hU hW => ⟨rfl, PR.to hPc hK hNB hU hW⟩⟩ rfl rfl hl.1 rfl (lv_room (Nat.le_of_ble_eq_true rfl)) dX4_gate_5 ⟨Nat.le_of_ble_eq_true rfl, Nat.le_of_ble_eq_true rfl⟩).run (fun r_1 hrr_1 => ?_)
  subst hrr_1
  refine lv_if_eq (tgt := 29) hx hb dX4_gate_8 (by decide) (fun c_8 => ?_) (fun c_8 => ?_)
  · skip
    rw [zc_if0] at c_8
    exact absurd (isN_nI (by omega) ha) c_8
  · skip
    rw [zc_if0] at c_8
    have c_8 := Classical.not_not.mp c_8
    refine lv_iload_n hx hb dX4_gate_11 rfl (lv_at hl 1 rfl) ?_
    refine vp_callSi (va_runS (As := [.int k]) (rest := []) ⟨hx, hb, hml, hown, hts⟩ (c_X4_isOnePin l k) (va_cwS 1 hts gX4_gate_X4_isOnePin rfl rfl rfl (by decide +kernel) ⟨Nat.le_of_ble_eq_true rfl, Nat.le_of_ble_eq_true rfl⟩) ⟨zt_blind, fun U hU hW => ⟨rfl, trivial⟩⟩ rfl rfl hl.1 rfl (lv_room (Nat.le_of_ble_eq_true rfl)) dX4_gate_12 ⟨Nat.le_of_ble_eq_true rfl, Nat.le_of_ble_eq_true rfl⟩).run (fun r_2 hrr_2 => ?_)
    subst hrr_2
    refine lv_if_ne (tgt := 39) hx hb dX4_gate_15 (by decide) (fun c_15 => ?_) (fun c_15 => ?_)
    · skip
      rw [zc_if0] at c_15
      have c_15 := Classical.not_not.mp c_15
      refine lv_aload_n hx hb dX4_gate_39 rfl (lv_at hl 0 rfl) ?_
      refine va_get (D := D) (ci := 4) (v := .ref qc) (C := RX4) (T := TX4) (N := 5) hx hb hts hiX4 hown hK hP 0 rfl rfl 0 (by decide) (hts (.fieldLink RX4 12 "FaultSearch" "chip" "LFaultSearch$Chip;") (by decide +kernel)) (fun _ h9 => h9) rfl dX4_gate_40 ?_
      refine va_get (D := D) (ci := 0) (v := .int (nI n)) (C := RX0) (T := TX0) (N := 8) hx hb hts hiX0 hown hK hP 1 rfl rfl 5 (by decide) (hts (.fieldLink RX4 47 "FaultSearch$Chip" "nets" "I") (by decide +kernel)) (fun _ h9 => h9) rfl dX4_gate_43 ?_
      refine lv_bipush (v := (nI 100)) hx hb dX4_gate_46 (by decide) ?_
      refine lv_icmp_lt (tgt := 61) hx hb dX4_gate_48 (by decide) (fun c_48 => ?_) (fun c_48 => ?_)
      · skip
        rw [zc_lt (by omega) (by omega)] at c_48
        refine lv_iload_n hx hb dX4_gate_61 rfl (lv_at hl 1 rfl) ?_
        refine lv_if_lt (tgt := 71) hx hb dX4_gate_62 (by decide) (fun c_62 => ?_) (fun c_62 => ?_)
        · skip
          exact absurd c_62 hk1
        · skip
          refine lv_iload_n hx hb dX4_gate_65 rfl (lv_at hl 1 rfl) ?_
          refine lv_bipush (v := (nI 6)) hx hb dX4_gate_66 (by decide) ?_
          refine lv_icmp_le (tgt := 81) hx hb dX4_gate_68 (by decide) (fun c_68 => ?_) (fun c_68 => ?_)
          · skip
            refine lv_aload_n hx hb dX4_gate_81 rfl (lv_at hl 0 rfl) ?_
            refine va_get (D := D) (ci := 4) (v := .ref qc) (C := RX4) (T := TX4) (N := 5) hx hb hts hiX4 hown hK hP 0 rfl rfl 0 (by decide) (hts (.fieldLink RX4 12 "FaultSearch" "chip" "LFaultSearch$Chip;") (by decide +kernel)) (fun _ h9 => h9) rfl dX4_gate_82 ?_
            refine lv_iload_n hx hb dX4_gate_85 rfl (lv_at hl 1 rfl) ?_
            refine lv_iload_n hx hb dX4_gate_86 rfl (lv_at hl 2 rfl) ?_
            refine lv_iload_n hx hb dX4_gate_87 rfl (lv_at hl 1 rfl) ?_
            refine vp_callSi (va_runS (As := [.int k]) (rest := [.int (nI a), .int k, .ref qc]) ⟨hx, hb, hml, hown, hts⟩ (c_X4_isOnePin l k) (va_cwS 1 hts gX4_gate_X4_isOnePin rfl rfl rfl (by decide +kernel) ⟨Nat.le_of_ble_eq_true rfl, Nat.le_of_ble_eq_true rfl⟩) ⟨zt_blind, fun U hU hW => ⟨rfl, trivial⟩⟩ rfl rfl hl.1 rfl (lv_room (Nat.le_of_ble_eq_true rfl)) dX4_gate_88 ⟨Nat.le_of_ble_eq_true rfl, Nat.le_of_ble_eq_true rfl⟩).run (fun r_3 hrr_3 => ?_)
            subst hrr_3
            refine lv_if_eq (tgt := 98) hx hb dX4_gate_91 (by decide) (fun c_91 => ?_) (fun c_91 => ?_)
            · skip
              rw [zc_if0] at c_91
              refine lv_iload_n hx hb dX4_gate_98 rfl (lv_at hl 3 rfl) ?_
              refine zz_i (z := (nI bb)) (by have h9 := hbb; rw [if_neg c_91] at h9; exact h9) ?_
              have hPc := hP.sub (ws' := [(qc, .inr (0, [.ref qk, .ref q0, .ref q1, .ref qo, .ref qv, .int (nI n), .int (nI ni), .int (nI no)])), (qk, .inl (cI, 100, .inl kd)), (q0, .inl (cI, 100, .inl s0)), (q1, .inl (cI, 100, .inl s1)), (qo, .inl (cI, 12, .inl on)), (qv, .inl (cJ, 1600, .inr (.inl vl)))]) [1, 2, 3, 4, 5, 6] rfl
              have hDc := hD.sub (ws' := [(qc, .inr (0, [.ref qk, .ref q0, .ref q1, .ref qo, .ref qv, .int (nI n), .int (nI ni), .int (nI no)])), (qk, .inl (cI, 100, .inl kd)), (q0, .inl (cI, 100, .inl s0)), (q1, .inl (cI, 100, .inl s1)), (qo, .inl (cI, 12, .inl on)), (qv, .inl (cJ, 1600, .inr (.inl vl)))]) [1, 2, 3, 4, 5, 6] (by decide) rfl
              have hFc := va_free (wc := [(qc, .inr (0, [.ref qk, .ref q0, .ref q1, .ref qo, .ref qv, .int (nI n), .int (nI ni), .int (nI no)])), (qk, .inl (cI, 100, .inl kd)), (q0, .inl (cI, 100, .inl s0)), (q1, .inl (cI, 100, .inl s1)), (qo, .inl (cI, 12, .inl on)), (qv, .inl (cJ, 1600, .inr (.inl vl)))]) hD hS hA [1, 2, 3, 4, 5, 6] rfl
              refine va_calli (va_runV (As := [.int k, .int (nI a), .int (nI bb)]) (rest := []) ⟨hx, hb, hml, hown, hts⟩ (c_X0_addGate l D cI cJ cZ qc qk q0 q1 qo qv kd s0 s1 on vl n ni no k a bb s.heap.size _ rfl h2 ha hb2) (cwV 3 hts gX4_gate_X0_addGate rfl rfl rfl (by decide +kernel) ⟨Nat.le_of_ble_eq_true rfl, Nat.le_of_ble_eq_true rfl⟩) ⟨PW.blind, va_recv hK hPc (ci := 0) (q0 := 0) rfl rfl, fun U hU hW => ⟨rfl, PW.to hPc hK hNB hDc hU hW⟩⟩ rfl rfl hl.1 rfl (lv_room (Nat.le_of_ble_eq_true rfl)) dX4_gate_99 ⟨Nat.le_of_ble_eq_true rfl, Nat.le_of_ble_eq_true rfl⟩) hS (fun q _ h => hFc q h) hFc (fun r_4 u_9 t_9 H1_9 locs ht_9 hvm_9 hw_9 hB_9 hz1_9 hk1_9 hS => ?_)
              obtain ⟨hP1_9, hD1_9⟩ := hB_9
              rw [ht_9] at hP1_9
              obtain rfl := hw_9
              obtain ⟨hP, hD⟩ := va_join (wr := [(qx, .inr (4, [.ref qc, .ref qC, .ref qS, .ref qP, .int (nI st)])), (qS, .inr (3, [.ref qc, .ref qse, .ref qre, .ref qcg])), (qse, .inl (cJ, 1600, .inr (.inl se))), (qre, .inl (cZ, 100, .inl re)), (qcg, .inl (cJ, 100, .inr (.inl cg))), (qP, .inr (2, [.ref qfo, .ref qte, .int (nI fc), .int (nI tc)])), (qfo, .inl (cZ, 600, .inl fd)), (qte, .inl (cI, 600, .inl ts))]) (w1 := [(qc, .inr (0, [.ref qk, .ref q0, .ref q1, .ref qo, .ref qv, .int (nI (n + 1)), .int (nI ni), .int (nI no)])), (qk, .inl (cI, 100, .inl (upd kd n k))), (q0, .inl (cI, 100, .inl (upd s0 n (nI a)))), (q1, .inl (cI, 100, .inl (upd s1 n (nI bb)))), (qo, .inl (cI, 12, .inl on)), (qv, .inl (cJ, 1600, .inr (.inl (addV k a bb n vl 16))))]) hP hD [1, 2, 3, 4, 5, 6] [0, 7, 8, 9, 10, 11, 12, 13] rfl rfl (by decide) (by decide) hk1_9 hFc hP1_9 hD1_9
              have hP := hP.sub (ws' := [(qx, .inr (4, [.ref qc, .ref qC, .ref qS, .ref qP, .int (nI st)])), (qc, .inr (0, [.ref qk, .ref q0, .ref q1, .ref qo, .ref qv, .int (nI (n + 1)), .int (nI ni), .int (nI no)])), (qk, .inl (cI, 100, .inl (upd kd n k))), (q0, .inl (cI, 100, .inl (upd s0 n (nI a)))), (q1, .inl (cI, 100, .inl (upd s1 n (nI bb)))), (qo, .inl (cI, 12, .inl on)), (qv, .inl (cJ, 1600, .inr (.inl (addV k a bb n vl 16)))), (qS, .inr (3, [.ref qc, .ref qse, .ref qre, .ref qcg])), (qse, .inl (cJ, 1600, .inr (.inl se))), (qre, .inl (cZ, 100, .inl re)), (qcg, .inl (cJ, 100, .inr (.inl cg))), (qP, .inr (2, [.ref qfo, .ref qte, .int (nI fc), .int (nI tc)])), (qfo, .inl (cZ, 600, .inl fd)), (qte, .inl (cI, 600, .inl ts))]) [0, 8, 9, 10, 11, 12, 13, 1, 2, 3, 4, 5, 6, 7] rfl
              have hD := hD.sub (ws' := [(qx, .inr (4, [.ref qc, .ref qC, .ref qS, .ref qP, .int (nI st)])), (qc, .inr (0, [.ref qk, .ref q0, .ref q1, .ref qo, .ref qv, .int (nI (n + 1)), .int (nI ni), .int (nI no)])), (qk, .inl (cI, 100, .inl (upd kd n k))), (q0, .inl (cI, 100, .inl (upd s0 n (nI a)))), (q1, .inl (cI, 100, .inl (upd s1 n (nI bb)))), (qo, .inl (cI, 12, .inl on)), (qv, .inl (cJ, 1600, .inr (.inl (addV k a bb n vl 16)))), (qS, .inr (3, [.ref qc, .ref qse, .ref qre, .ref qcg])), (qse, .inl (cJ, 1600, .inr (.inl se))), (qre, .inl (cZ, 100, .inl re)), (qcg, .inl (cJ, 100, .inr (.inl cg))), (qP, .inr (2, [.ref qfo, .ref qte, .int (nI fc), .int (nI tc)])), (qfo, .inl (cZ, 600, .inl fd)), (qte, .inl (cI, 600, .inl ts))]) [0, 8, 9, 10, 11, 12, 13, 1, 2, 3, 4, 5, 6, 7] (by decide) rfl
              generalize H1_9 = H at hP hS ⊢
              have hP : va_P D vwCl [(qx, .inr (4, [.ref qc, .ref qC, .ref qS, .ref qP, .int (nI st)])), (qc, .inr (0, [.ref qk, .ref q0, .ref q1, .ref qo, .ref qv, .int (nI (n + 1)), .int (nI ni), .int (nI no)])), (qk, .inl (cI, 100, .inl (upd kd n k))), (q0, .inl (cI, 100, .inl (upd s0 n (nI a)))), (q1, .inl (cI, 100, .inl (upd s1 n (nI bb)))), (qo, .inl (cI, 12, .inl on)), (qv, .inl (cJ, 1600, .inr (.inl (addV k a bb n vl 16)))), (qS, .inr (3, [.ref qc, .ref qse, .ref qre, .ref qcg])), (qse, .inl (cJ, 1600, .inr (.inl se))), (qre, .inl (cZ, 100, .inl re)), (qcg, .inl (cJ, 100, .inr (.inl cg))), (qP, .inr (2, [.ref qfo, .ref qte, .int (nI fc), .int (nI tc)])), (qfo, .inl (cZ, 600, .inl fd)), (qte, .inl (cI, 600, .inl ts))] H := hP
              have hD : va_D A [(qx, .inr (4, [.ref qc, .ref qC, .ref qS, .ref qP, .int (nI st)])), (qc, .inr (0, [.ref qk, .ref q0, .ref q1, .ref qo, .ref qv, .int (nI (n + 1)), .int (nI ni), .int (nI no)])), (qk, .inl (cI, 100, .inl (upd kd n k))), (q0, .inl (cI, 100, .inl (upd s0 n (nI a)))), (q1, .inl (cI, 100, .inl (upd s1 n (nI bb)))), (qo, .inl (cI, 12, .inl on)), (qv, .inl (cJ, 1600, .inr (.inl (addV k a bb n vl 16)))), (qS, .inr (3, [.ref qc, .ref qse, .ref qre, .ref qcg])), (qse, .inl (cJ, 1600, .inr (.inl se))), (qre, .inl (cZ, 100, .inl re)), (qcg, .inl (cJ, 100, .inr (.inl cg))), (qP, .inr (2, [.ref qfo, .ref qte, .int (nI fc), .int (nI tc)])), (qfo, .inl (cZ, 600, .inl fd)), (qte, .inl (cI, 600, .inl ts))] := hD
              refine lv_istore (lv' := [(4, .int (nI n)), (0, .ref qx), (1, .int k), (2, .int (nI a)), (3, .int b)]) hx hb dX4_gate_102 hl (by decide) rfl (fun ls hl => ?_)
              refine lv_aload_n hx hb dX4_gate_104 rfl (lv_at hl 1 rfl) ?_
              have hPc := hP.sub (ws' := [(qx, .inr (4, [.ref qc, .ref qC, .ref qS, .ref qP, .int (nI st)])), (qS, .inr (3, [.ref qc, .ref qse, .ref qre, .ref qcg])), (qse, .inl (cJ, 1600, .inr (.inl se))), (qre, .inl (cZ, 100, .inl re)), (qcg, .inl (cJ, 100, .inr (.inl cg))), (qP, .inr (2, [.ref qfo, .ref qte, .int (nI fc), .int (nI tc)])), (qfo, .inl (cZ, 600, .inl fd)), (qte, .inl (cI, 600, .inl ts))]) [0, 7, 8, 9, 10, 11, 12, 13] rfl
              have hDc := hD.sub (ws' := [(qx, .inr (4, [.ref qc, .ref qC, .ref qS, .ref qP, .int (nI st)])), (qS, .inr (3, [.ref qc, .ref qse, .ref qre, .ref qcg])), (qse, .inl (cJ, 1600, .inr (.inl se))), (qre, .inl (cZ, 100, .inl re)), (qcg, .inl (cJ, 100, .inr (.inl cg))), (qP, .inr (2, [.ref qfo, .ref qte, .int (nI fc), .int (nI tc)])), (qfo, .inl (cZ, 600, .inl fd)), (qte, .inl (cI, 600, .inl ts))]) [0, 7, 8, 9, 10, 11, 12, 13] (by decide) rfl
              have hFc := va_free (wc := [(qx, .inr (4, [.ref qc, .ref qC, .ref qS, .ref qP, .int (nI st)])), (qS, .inr (3, [.ref qc, .ref qse, .ref qre, .ref qcg])), (qse, .inl (cJ, 1600, .inr (.inl se))), (qre, .inl (cZ, 100, .inl re)), (qcg, .inl (cJ, 100, .inr (.inl cg))), (qP, .inr (2, [.ref qfo, .ref qte, .int (nI fc), .int (nI tc)])), (qfo, .inl (cZ, 600, .inl fd)), (qte, .inl (cI, 600, .inl ts))]) hD hS hA [0, 7, 8, 9, 10, 11, 12, 13] rfl
              refine va_callv (va_runV (As := []) (rest := []) ⟨hx, hb, hml, hown, hts⟩ (c_X4_forgetDerived l D cI cJ cZ qx qc qC qS qse qre qcg se re cg qP qfo qte fd ts fc tc st H.size _ rfl) (cwV 0 hts gX4_gate_X4_forgetDerived rfl rfl rfl (by decide +kernel) ⟨Nat.le_of_ble_eq_true rfl, Nat.le_of_ble_eq_true rfl⟩) ⟨PW.blind, va_recv hK hPc (ci := 4) (q0 := 0) rfl rfl, fun U hU hW => ⟨rfl, PW.to hPc hK hNB hDc hU hW⟩⟩ rfl rfl hl.1 rfl (lv_room (Nat.le_of_ble_eq_true rfl)) dX4_gate_105 ⟨Nat.le_of_ble_eq_true rfl, Nat.le_of_ble_eq_true rfl⟩) hS (fun q _ h => hFc q h) hFc (fun u_9 t_9 H1_9 locs ht_9 hvm_9 hw_9 hB_9 hz1_9 hk1_9 hS => ?_)
              obtain ⟨hP1_9, hD1_9⟩ := hB_9
              rw [ht_9] at hP1_9
              obtain ⟨hP, hD⟩ := va_join (wr := [(qc, .inr (0, [.ref qk, .ref q0, .ref q1, .ref qo, .ref qv, .int (nI (n + 1)), .int (nI ni), .int (nI no)])), (qk, .inl (cI, 100, .inl (upd kd n k))), (q0, .inl (cI, 100, .inl (upd s0 n (nI a)))), (q1, .inl (cI, 100, .inl (upd s1 n (nI bb)))), (qo, .inl (cI, 12, .inl on)), (qv, .inl (cJ, 1600, .inr (.inl (addV k a bb n vl 16))))]) (w1 := [(qx, .inr (4, [.ref qc, .ref qC, .ref qS, .ref qP, .int (nI 1)])), (qS, .inr (3, [.ref qc, .ref qse, .ref qre, .ref qcg])), (qse, .inl (cJ, 1600, .inr (.inl se))), (qre, .inl (cZ, 100, .inl (clrF re 100))), (qcg, .inl (cJ, 100, .inr (.inl cg))), (qP, .inr (2, [.ref qfo, .ref qte, .int (nI 0), .int (nI 0)])), (qfo, .inl (cZ, 600, .inl (clrF fd 600))), (qte, .inl (cI, 600, .inl ts))]) hP hD [0, 7, 8, 9, 10, 11, 12, 13] [1, 2, 3, 4, 5, 6] rfl rfl (by decide) (by decide) hk1_9 hFc hP1_9 hD1_9
              have hP := hP.sub (ws' := [(qx, .inr (4, [.ref qc, .ref qC, .ref qS, .ref qP, .int (nI 1)])), (qc, .inr (0, [.ref qk, .ref q0, .ref q1, .ref qo, .ref qv, .int (nI (n + 1)), .int (nI ni), .int (nI no)])), (qk, .inl (cI, 100, .inl (upd kd n k))), (q0, .inl (cI, 100, .inl (upd s0 n (nI a)))), (q1, .inl (cI, 100, .inl (upd s1 n (nI bb)))), (qo, .inl (cI, 12, .inl on)), (qv, .inl (cJ, 1600, .inr (.inl (addV k a bb n vl 16)))), (qS, .inr (3, [.ref qc, .ref qse, .ref qre, .ref qcg])), (qse, .inl (cJ, 1600, .inr (.inl se))), (qre, .inl (cZ, 100, .inl (clrF re 100))), (qcg, .inl (cJ, 100, .inr (.inl cg))), (qP, .inr (2, [.ref qfo, .ref qte, .int (nI 0), .int (nI 0)])), (qfo, .inl (cZ, 600, .inl (clrF fd 600))), (qte, .inl (cI, 600, .inl ts))]) [6, 0, 1, 2, 3, 4, 5, 7, 8, 9, 10, 11, 12, 13] rfl
              have hD := hD.sub (ws' := [(qx, .inr (4, [.ref qc, .ref qC, .ref qS, .ref qP, .int (nI 1)])), (qc, .inr (0, [.ref qk, .ref q0, .ref q1, .ref qo, .ref qv, .int (nI (n + 1)), .int (nI ni), .int (nI no)])), (qk, .inl (cI, 100, .inl (upd kd n k))), (q0, .inl (cI, 100, .inl (upd s0 n (nI a)))), (q1, .inl (cI, 100, .inl (upd s1 n (nI bb)))), (qo, .inl (cI, 12, .inl on)), (qv, .inl (cJ, 1600, .inr (.inl (addV k a bb n vl 16)))), (qS, .inr (3, [.ref qc, .ref qse, .ref qre, .ref qcg])), (qse, .inl (cJ, 1600, .inr (.inl se))), (qre, .inl (cZ, 100, .inl (clrF re 100))), (qcg, .inl (cJ, 100, .inr (.inl cg))), (qP, .inr (2, [.ref qfo, .ref qte, .int (nI 0), .int (nI 0)])), (qfo, .inl (cZ, 600, .inl (clrF fd 600))), (qte, .inl (cI, 600, .inl ts))]) [6, 0, 1, 2, 3, 4, 5, 7, 8, 9, 10, 11, 12, 13] (by decide) rfl
              generalize H1_9 = H at hP hS ⊢
              have hP : va_P D vwCl [(qx, .inr (4, [.ref qc, .ref qC, .ref qS, .ref qP, .int (nI 1)])), (qc, .inr (0, [.ref qk, .ref q0, .ref q1, .ref qo, .ref qv, .int (nI (n + 1)), .int (nI ni), .int (nI no)])), (qk, .inl (cI, 100, .inl (upd kd n k))), (q0, .inl (cI, 100, .inl (upd s0 n (nI a)))), (q1, .inl (cI, 100, .inl (upd s1 n (nI bb)))), (qo, .inl (cI, 12, .inl on)), (qv, .inl (cJ, 1600, .inr (.inl (addV k a bb n vl 16)))), (qS, .inr (3, [.ref qc, .ref qse, .ref qre, .ref qcg])), (qse, .inl (cJ, 1600, .inr (.inl se))), (qre, .inl (cZ, 100, .inl (clrF re 100))), (qcg, .inl (cJ, 100, .inr (.inl cg))), (qP, .inr (2, [.ref qfo, .ref qte, .int (nI 0), .int (nI 0)])), (qfo, .inl (cZ, 600, .inl (clrF fd 600))), (qte, .inl (cI, 600, .inl ts))] H := hP
              have hD : va_D A [(qx, .inr (4, [.ref qc, .ref qC, .ref qS, .ref qP, .int (nI 1)])), (qc, .inr (0, [.ref qk, .ref q0, .ref q1, .ref qo, .ref qv, .int (nI (n + 1)), .int (nI ni), .int (nI no)])), (qk, .inl (cI, 100, .inl (upd kd n k))), (q0, .inl (cI, 100, .inl (upd s0 n (nI a)))), (q1, .inl (cI, 100, .inl (upd s1 n (nI bb)))), (qo, .inl (cI, 12, .inl on)), (qv, .inl (cJ, 1600, .inr (.inl (addV k a bb n vl 16)))), (qS, .inr (3, [.ref qc, .ref qse, .ref qre, .ref qcg])), (qse, .inl (cJ, 1600, .inr (.inl se))), (qre, .inl (cZ, 100, .inl (clrF re 100))), (qcg, .inl (cJ, 100, .inr (.inl cg))), (qP, .inr (2, [.ref qfo, .ref qte, .int (nI 0), .int (nI 0)])), (qfo, .inl (cZ, 600, .inl (clrF fd 600))), (qte, .inl (cI, 600, .inl ts))] := hD
              refine lv_iload hx hb dX4_gate_108 (lv_at hl 0 rfl) ?_
              exact W.iret (v := (nI n)) hx hb hr (fun t_9 ht_9 hW_9 => ⟨⟨(nI n), (), rfl, rfl, ⟨by rw [ht_9]; exact hP, hD⟩⟩, hS.F ht_9⟩) hS.2.2 dX4_gate_110
            · skip
              rw [zc_if0] at c_91
              have c_91 := Classical.not_not.mp c_91
              refine lv_iload_n hx hb dX4_gate_94 rfl (lv_at hl 2 rfl) ?_
              refine lv_goto (tgt := 99) hx hb dX4_gate_95 (by decide) ?_
              refine zz_i (z := (nI bb)) (by have h9 := hbb; rw [if_pos c_91] at h9; exact h9) ?_
              have hPc := hP.sub (ws' := [(qc, .inr (0, [.ref qk, .ref q0, .ref q1, .ref qo, .ref qv, .int (nI n), .int (nI ni), .int (nI no)])), (qk, .inl (cI, 100, .inl kd)), (q0, .inl (cI, 100, .inl s0)), (q1, .inl (cI, 100, .inl s1)), (qo, .inl (cI, 12, .inl on)), (qv, .inl (cJ, 1600, .inr (.inl vl)))]) [1, 2, 3, 4, 5, 6] rfl
              have hDc := hD.sub (ws' := [(qc, .inr (0, [.ref qk, .ref q0, .ref q1, .ref qo, .ref qv, .int (nI n), .int (nI ni), .int (nI no)])), (qk, .inl (cI, 100, .inl kd)), (q0, .inl (cI, 100, .inl s0)), (q1, .inl (cI, 100, .inl s1)), (qo, .inl (cI, 12, .inl on)), (qv, .inl (cJ, 1600, .inr (.inl vl)))]) [1, 2, 3, 4, 5, 6] (by decide) rfl
              have hFc := va_free (wc := [(qc, .inr (0, [.ref qk, .ref q0, .ref q1, .ref qo, .ref qv, .int (nI n), .int (nI ni), .int (nI no)])), (qk, .inl (cI, 100, .inl kd)), (q0, .inl (cI, 100, .inl s0)), (q1, .inl (cI, 100, .inl s1)), (qo, .inl (cI, 12, .inl on)), (qv, .inl (cJ, 1600, .inr (.inl vl)))]) hD hS hA [1, 2, 3, 4, 5, 6] rfl
              refine va_calli (va_runV (As := [.int k, .int (nI a), .int (nI bb)]) (rest := []) ⟨hx, hb, hml, hown, hts⟩ (c_X0_addGate l D cI cJ cZ qc qk q0 q1 qo qv kd s0 s1 on vl n ni no k a bb s.heap.size _ rfl h2 ha hb2) (cwV 3 hts gX4_gate_X0_addGate rfl rfl rfl (by decide +kernel) ⟨Nat.le_of_ble_eq_true rfl, Nat.le_of_ble_eq_true rfl⟩) ⟨PW.blind, va_recv hK hPc (ci := 0) (q0 := 0) rfl rfl, fun U hU hW => ⟨rfl, PW.to hPc hK hNB hDc hU hW⟩⟩ rfl rfl hl.1 rfl (lv_room (Nat.le_of_ble_eq_true rfl)) dX4_gate_99 ⟨Nat.le_of_ble_eq_true rfl, Nat.le_of_ble_eq_true rfl⟩) hS (fun q _ h => hFc q h) hFc (fun r_6 u_9 t_9 H1_9 locs ht_9 hvm_9 hw_9 hB_9 hz1_9 hk1_9 hS => ?_)
              obtain ⟨hP1_9, hD1_9⟩ := hB_9
              rw [ht_9] at hP1_9
              obtain rfl := hw_9
              obtain ⟨hP, hD⟩ := va_join (wr := [(qx, .inr (4, [.ref qc, .ref qC, .ref qS, .ref qP, .int (nI st)])), (qS, .inr (3, [.ref qc, .ref qse, .ref qre, .ref qcg])), (qse, .inl (cJ, 1600, .inr (.inl se))), (qre, .inl (cZ, 100, .inl re)), (qcg, .inl (cJ, 100, .inr (.inl cg))), (qP, .inr (2, [.ref qfo, .ref qte, .int (nI fc), .int (nI tc)])), (qfo, .inl (cZ, 600, .inl fd)), (qte, .inl (cI, 600, .inl ts))]) (w1 := [(qc, .inr (0, [.ref qk, .ref q0, .ref q1, .ref qo, .ref qv, .int (nI (n + 1)), .int (nI ni), .int (nI no)])), (qk, .inl (cI, 100, .inl (upd kd n k))), (q0, .inl (cI, 100, .inl (upd s0 n (nI a)))), (q1, .inl (cI, 100, .inl (upd s1 n (nI bb)))), (qo, .inl (cI, 12, .inl on)), (qv, .inl (cJ, 1600, .inr (.inl (addV k a bb n vl 16))))]) hP hD [1, 2, 3, 4, 5, 6] [0, 7, 8, 9, 10, 11, 12, 13] rfl rfl (by decide) (by decide) hk1_9 hFc hP1_9 hD1_9
              have hP := hP.sub (ws' := [(qx, .inr (4, [.ref qc, .ref qC, .ref qS, .ref qP, .int (nI st)])), (qc, .inr (0, [.ref qk, .ref q0, .ref q1, .ref qo, .ref qv, .int (nI (n + 1)), .int (nI ni), .int (nI no)])), (qk, .inl (cI, 100, .inl (upd kd n k))), (q0, .inl (cI, 100, .inl (upd s0 n (nI a)))), (q1, .inl (cI, 100, .inl (upd s1 n (nI bb)))), (qo, .inl (cI, 12, .inl on)), (qv, .inl (cJ, 1600, .inr (.inl (addV k a bb n vl 16)))), (qS, .inr (3, [.ref qc, .ref qse, .ref qre, .ref qcg])), (qse, .inl (cJ, 1600, .inr (.inl se))), (qre, .inl (cZ, 100, .inl re)), (qcg, .inl (cJ, 100, .inr (.inl cg))), (qP, .inr (2, [.ref qfo, .ref qte, .int (nI fc), .int (nI tc)])), (qfo, .inl (cZ, 600, .inl fd)), (qte, .inl (cI, 600, .inl ts))]) [0, 8, 9, 10, 11, 12, 13, 1, 2, 3, 4, 5, 6, 7] rfl
              have hD := hD.sub (ws' := [(qx, .inr (4, [.ref qc, .ref qC, .ref qS, .ref qP, .int (nI st)])), (qc, .inr (0, [.ref qk, .ref q0, .ref q1, .ref qo, .ref qv, .int (nI (n + 1)), .int (nI ni), .int (nI no)])), (qk, .inl (cI, 100, .inl (upd kd n k))), (q0, .inl (cI, 100, .inl (upd s0 n (nI a)))), (q1, .inl (cI, 100, .inl (upd s1 n (nI bb)))), (qo, .inl (cI, 12, .inl on)), (qv, .inl (cJ, 1600, .inr (.inl (addV k a bb n vl 16)))), (qS, .inr (3, [.ref qc, .ref qse, .ref qre, .ref qcg])), (qse, .inl (cJ, 1600, .inr (.inl se))), (qre, .inl (cZ, 100, .inl re)), (qcg, .inl (cJ, 100, .inr (.inl cg))), (qP, .inr (2, [.ref qfo, .ref qte, .int (nI fc), .int (nI tc)])), (qfo, .inl (cZ, 600, .inl fd)), (qte, .inl (cI, 600, .inl ts))]) [0, 8, 9, 10, 11, 12, 13, 1, 2, 3, 4, 5, 6, 7] (by decide) rfl
              generalize H1_9 = H at hP hS ⊢
              have hP : va_P D vwCl [(qx, .inr (4, [.ref qc, .ref qC, .ref qS, .ref qP, .int (nI st)])), (qc, .inr (0, [.ref qk, .ref q0, .ref q1, .ref qo, .ref qv, .int (nI (n + 1)), .int (nI ni), .int (nI no)])), (qk, .inl (cI, 100, .inl (upd kd n k))), (q0, .inl (cI, 100, .inl (upd s0 n (nI a)))), (q1, .inl (cI, 100, .inl (upd s1 n (nI bb)))), (qo, .inl (cI, 12, .inl on)), (qv, .inl (cJ, 1600, .inr (.inl (addV k a bb n vl 16)))), (qS, .inr (3, [.ref qc, .ref qse, .ref qre, .ref qcg])), (qse, .inl (cJ, 1600, .inr (.inl se))), (qre, .inl (cZ, 100, .inl re)), (qcg, .inl (cJ, 100, .inr (.inl cg))), (qP, .inr (2, [.ref qfo, .ref qte, .int (nI fc), .int (nI tc)])), (qfo, .inl (cZ, 600, .inl fd)), (qte, .inl (cI, 600, .inl ts))] H := hP
              have hD : va_D A [(qx, .inr (4, [.ref qc, .ref qC, .ref qS, .ref qP, .int (nI st)])), (qc, .inr (0, [.ref qk, .ref q0, .ref q1, .ref qo, .ref qv, .int (nI (n + 1)), .int (nI ni), .int (nI no)])), (qk, .inl (cI, 100, .inl (upd kd n k))), (q0, .inl (cI, 100, .inl (upd s0 n (nI a)))), (q1, .inl (cI, 100, .inl (upd s1 n (nI bb)))), (qo, .inl (cI, 12, .inl on)), (qv, .inl (cJ, 1600, .inr (.inl (addV k a bb n vl 16)))), (qS, .inr (3, [.ref qc, .ref qse, .ref qre, .ref qcg])), (qse, .inl (cJ, 1600, .inr (.inl se))), (qre, .inl (cZ, 100, .inl re)), (qcg, .inl (cJ, 100, .inr (.inl cg))), (qP, .inr (2, [.ref qfo, .ref qte, .int (nI fc), .int (nI tc)])), (qfo, .inl (cZ, 600, .inl fd)), (qte, .inl (cI, 600, .inl ts))] := hD
              refine lv_istore (lv' := [(4, .int (nI n)), (0, .ref qx), (1, .int k), (2, .int (nI a)), (3, .int b)]) hx hb dX4_gate_102 hl (by decide) rfl (fun ls hl => ?_)
              refine lv_aload_n hx hb dX4_gate_104 rfl (lv_at hl 1 rfl) ?_
              have hPc := hP.sub (ws' := [(qx, .inr (4, [.ref qc, .ref qC, .ref qS, .ref qP, .int (nI st)])), (qS, .inr (3, [.ref qc, .ref qse, .ref qre, .ref qcg])), (qse, .inl (cJ, 1600, .inr (.inl se))), (qre, .inl (cZ, 100, .inl re)), (qcg, .inl (cJ, 100, .inr (.inl cg))), (qP, .inr (2, [.ref qfo, .ref qte, .int (nI fc), .int (nI tc)])), (qfo, .inl (cZ, 600, .inl fd)), (qte, .inl (cI, 600, .inl ts))]) [0, 7, 8, 9, 10, 11, 12, 13] rfl
              have hDc := hD.sub (ws' := [(qx, .inr (4, [.ref qc, .ref qC, .ref qS, .ref qP, .int (nI st)])), (qS, .inr (3, [.ref qc, .ref qse, .ref qre, .ref qcg])), (qse, .inl (cJ, 1600, .inr (.inl se))), (qre, .inl (cZ, 100, .inl re)), (qcg, .inl (cJ, 100, .inr (.inl cg))), (qP, .inr (2, [.ref qfo, .ref qte, .int (nI fc), .int (nI tc)])), (qfo, .inl (cZ, 600, .inl fd)), (qte, .inl (cI, 600, .inl ts))]) [0, 7, 8, 9, 10, 11, 12, 13] (by decide) rfl
              have hFc := va_free (wc := [(qx, .inr (4, [.ref qc, .ref qC, .ref qS, .ref qP, .int (nI st)])), (qS, .inr (3, [.ref qc, .ref qse, .ref qre, .ref qcg])), (qse, .inl (cJ, 1600, .inr (.inl se))), (qre, .inl (cZ, 100, .inl re)), (qcg, .inl (cJ, 100, .inr (.inl cg))), (qP, .inr (2, [.ref qfo, .ref qte, .int (nI fc), .int (nI tc)])), (qfo, .inl (cZ, 600, .inl fd)), (qte, .inl (cI, 600, .inl ts))]) hD hS hA [0, 7, 8, 9, 10, 11, 12, 13] rfl
              refine va_callv (va_runV (As := []) (rest := []) ⟨hx, hb, hml, hown, hts⟩ (c_X4_forgetDerived l D cI cJ cZ qx qc qC qS qse qre qcg se re cg qP qfo qte fd ts fc tc st H.size _ rfl) (cwV 0 hts gX4_gate_X4_forgetDerived rfl rfl rfl (by decide +kernel) ⟨Nat.le_of_ble_eq_true rfl, Nat.le_of_ble_eq_true rfl⟩) ⟨PW.blind, va_recv hK hPc (ci := 4) (q0 := 0) rfl rfl, fun U hU hW => ⟨rfl, PW.to hPc hK hNB hDc hU hW⟩⟩ rfl rfl hl.1 rfl (lv_room (Nat.le_of_ble_eq_true rfl)) dX4_gate_105 ⟨Nat.le_of_ble_eq_true rfl, Nat.le_of_ble_eq_true rfl⟩) hS (fun q _ h => hFc q h) hFc (fun u_9 t_9 H1_9 locs ht_9 hvm_9 hw_9 hB_9 hz1_9 hk1_9 hS => ?_)
              obtain ⟨hP1_9, hD1_9⟩ := hB_9
              rw [ht_9] at hP1_9
              obtain ⟨hP, hD⟩ := va_join (wr := [(qc, .inr (0, [.ref qk, .ref q0, .ref q1, .ref qo, .ref qv, .int (nI (n + 1)), .int (nI ni), .int (nI no)])), (qk, .inl (cI, 100, .inl (upd kd n k))), (q0, .inl (cI, 100, .inl (upd s0 n (nI a)))), (q1, .inl (cI, 100, .inl (upd s1 n (nI bb)))), (qo, .inl (cI, 12, .inl on)), (qv, .inl (cJ, 1600, .inr (.inl (addV k a bb n vl 16))))]) (w1 := [(qx, .inr (4, [.ref qc, .ref qC, .ref qS, .ref qP, .int (nI 1)])), (qS, .inr (3, [.ref qc, .ref qse, .ref qre, .ref qcg])), (qse, .inl (cJ, 1600, .inr (.inl se))), (qre, .inl (cZ, 100, .inl (clrF re 100))), (qcg, .inl (cJ, 100, .inr (.inl cg))), (qP, .inr (2, [.ref qfo, .ref qte, .int (nI 0), .int (nI 0)])), (qfo, .inl (cZ, 600, .inl (clrF fd 600))), (qte, .inl (cI, 600, .inl ts))]) hP hD [0, 7, 8, 9, 10, 11, 12, 13] [1, 2, 3, 4, 5, 6] rfl rfl (by decide) (by decide) hk1_9 hFc hP1_9 hD1_9
              have hP := hP.sub (ws' := [(qx, .inr (4, [.ref qc, .ref qC, .ref qS, .ref qP, .int (nI 1)])), (qc, .inr (0, [.ref qk, .ref q0, .ref q1, .ref qo, .ref qv, .int (nI (n + 1)), .int (nI ni), .int (nI no)])), (qk, .inl (cI, 100, .inl (upd kd n k))), (q0, .inl (cI, 100, .inl (upd s0 n (nI a)))), (q1, .inl (cI, 100, .inl (upd s1 n (nI bb)))), (qo, .inl (cI, 12, .inl on)), (qv, .inl (cJ, 1600, .inr (.inl (addV k a bb n vl 16)))), (qS, .inr (3, [.ref qc, .ref qse, .ref qre, .ref qcg])), (qse, .inl (cJ, 1600, .inr (.inl se))), (qre, .inl (cZ, 100, .inl (clrF re 100))), (qcg, .inl (cJ, 100, .inr (.inl cg))), (qP, .inr (2, [.ref qfo, .ref qte, .int (nI 0), .int (nI 0)])), (qfo, .inl (cZ, 600, .inl (clrF fd 600))), (qte, .inl (cI, 600, .inl ts))]) [6, 0, 1, 2, 3, 4, 5, 7, 8, 9, 10, 11, 12, 13] rfl
              have hD := hD.sub (ws' := [(qx, .inr (4, [.ref qc, .ref qC, .ref qS, .ref qP, .int (nI 1)])), (qc, .inr (0, [.ref qk, .ref q0, .ref q1, .ref qo, .ref qv, .int (nI (n + 1)), .int (nI ni), .int (nI no)])), (qk, .inl (cI, 100, .inl (upd kd n k))), (q0, .inl (cI, 100, .inl (upd s0 n (nI a)))), (q1, .inl (cI, 100, .inl (upd s1 n (nI bb)))), (qo, .inl (cI, 12, .inl on)), (qv, .inl (cJ, 1600, .inr (.inl (addV k a bb n vl 16)))), (qS, .inr (3, [.ref qc, .ref qse, .ref qre, .ref qcg])), (qse, .inl (cJ, 1600, .inr (.inl se))), (qre, .inl (cZ, 100, .inl (clrF re 100))), (qcg, .inl (cJ, 100, .inr (.inl cg))), (qP, .inr (2, [.ref qfo, .ref qte, .int (nI 0), .int (nI 0)])), (qfo, .inl (cZ, 600, .inl (clrF fd 600))), (qte, .inl (cI, 600, .inl ts))]) [6, 0, 1, 2, 3, 4, 5, 7, 8, 9, 10, 11, 12, 13] (by decide) rfl
              generalize H1_9 = H at hP hS ⊢
              have hP : va_P D vwCl [(qx, .inr (4, [.ref qc, .ref qC, .ref qS, .ref qP, .int (nI 1)])), (qc, .inr (0, [.ref qk, .ref q0, .ref q1, .ref qo, .ref qv, .int (nI (n + 1)), .int (nI ni), .int (nI no)])), (qk, .inl (cI, 100, .inl (upd kd n k))), (q0, .inl (cI, 100, .inl (upd s0 n (nI a)))), (q1, .inl (cI, 100, .inl (upd s1 n (nI bb)))), (qo, .inl (cI, 12, .inl on)), (qv, .inl (cJ, 1600, .inr (.inl (addV k a bb n vl 16)))), (qS, .inr (3, [.ref qc, .ref qse, .ref qre, .ref qcg])), (qse, .inl (cJ, 1600, .inr (.inl se))), (qre, .inl (cZ, 100, .inl (clrF re 100))), (qcg, .inl (cJ, 100, .inr (.inl cg))), (qP, .inr (2, [.ref qfo, .ref qte, .int (nI 0), .int (nI 0)])), (qfo, .inl (cZ, 600, .inl (clrF fd 600))), (qte, .inl (cI, 600, .inl ts))] H := hP
              have hD : va_D A [(qx, .inr (4, [.ref qc, .ref qC, .ref qS, .ref qP, .int (nI 1)])), (qc, .inr (0, [.ref qk, .ref q0, .ref q1, .ref qo, .ref qv, .int (nI (n + 1)), .int (nI ni), .int (nI no)])), (qk, .inl (cI, 100, .inl (upd kd n k))), (q0, .inl (cI, 100, .inl (upd s0 n (nI a)))), (q1, .inl (cI, 100, .inl (upd s1 n (nI bb)))), (qo, .inl (cI, 12, .inl on)), (qv, .inl (cJ, 1600, .inr (.inl (addV k a bb n vl 16)))), (qS, .inr (3, [.ref qc, .ref qse, .ref qre, .ref qcg])), (qse, .inl (cJ, 1600, .inr (.inl se))), (qre, .inl (cZ, 100, .inl (clrF re 100))), (qcg, .inl (cJ, 100, .inr (.inl cg))), (qP, .inr (2, [.ref qfo, .ref qte, .int (nI 0), .int (nI 0)])), (qfo, .inl (cZ, 600, .inl (clrF fd 600))), (qte, .inl (cI, 600, .inl ts))] := hD
              refine lv_iload hx hb dX4_gate_108 (lv_at hl 0 rfl) ?_
              exact W.iret (v := (nI n)) hx hb hr (fun t_9 ht_9 hW_9 => ⟨⟨(nI n), (), rfl, rfl, ⟨by rw [ht_9]; exact hP, hD⟩⟩, hS.F ht_9⟩) hS.2.2 dX4_gate_110
          · skip
            exact absurd hk2 c_68
      · skip
        rw [zc_lt (by omega) (by omega)] at c_48
        exact absurd h2 c_48
    · skip
      rw [zc_if0] at c_15
      refine lv_aload_n hx hb dX4_gate_18 rfl (lv_at hl 0 rfl) ?_
      refine va_get (D := D) (ci := 4) (v := .ref qc) (C := RX4) (T := TX4) (N := 5) hx hb hts hiX4 hown hK hP 0 rfl rfl 0 (by decide) (hts (.fieldLink RX4 12 "FaultSearch" "chip" "LFaultSearch$Chip;") (by decide +kernel)) (fun _ h9 => h9) rfl dX4_gate_19 ?_
      refine lv_iload_n hx hb dX4_gate_22 rfl (lv_at hl 3 rfl) ?_
      have hPc := hP.sub (ws' := [(qc, .inr (0, [.ref qk, .ref q0, .ref q1, .ref qo, .ref qv, .int (nI n), .int (nI ni), .int (nI no)])), (qk, .inl (cI, 100, .inl kd)), (q0, .inl (cI, 100, .inl s0)), (q1, .inl (cI, 100, .inl s1)), (qo, .inl (cI, 12, .inl on)), (qv, .inl (cJ, 1600, .inr (.inl vl)))]) [1, 2, 3, 4, 5, 6] rfl
      refine vp_callSi (va_runV (As := [.int b]) (rest := []) ⟨hx, hb, hml, hown, hts⟩ (c_X0_hasNet l D cI cJ cZ qc qk q0 q1 qo qv kd s0 s1 on vl n ni no b) (cwV 1 hts gX4_gate_X0_hasNet rfl rfl rfl (by decide +kernel) ⟨Nat.le_of_ble_eq_true rfl, Nat.le_of_ble_eq_true rfl⟩) ⟨PR.blind, va_recv hK hPc (ci := 0) (q0 := 0) rfl rfl, fun U hU hW => ⟨rfl, PR.to hPc hK hNB hU hW⟩⟩ rfl rfl hl.1 rfl (lv_room (Nat.le_of_ble_eq_true rfl)) dX4_gate_23 ⟨Nat.le_of_ble_eq_true rfl, Nat.le_of_ble_eq_true rfl⟩).run (fun r_8 hrr_8 => ?_)
      subst hrr_8
      refine lv_if_ne (tgt := 39) hx hb dX4_gate_26 (by decide) (fun c_26 => ?_) (fun c_26 => ?_)
      · skip
        rw [zc_if0] at c_26
        have c_26 := Classical.not_not.mp c_26
        refine lv_aload_n hx hb dX4_gate_39 rfl (lv_at hl 0 rfl) ?_
        refine va_get (D := D) (ci := 4) (v := .ref qc) (C := RX4) (T := TX4) (N := 5) hx hb hts hiX4 hown hK hP 0 rfl rfl 0 (by decide) (hts (.fieldLink RX4 12 "FaultSearch" "chip" "LFaultSearch$Chip;") (by decide +kernel)) (fun _ h9 => h9) rfl dX4_gate_40 ?_
        refine va_get (D := D) (ci := 0) (v := .int (nI n)) (C := RX0) (T := TX0) (N := 8) hx hb hts hiX0 hown hK hP 1 rfl rfl 5 (by decide) (hts (.fieldLink RX4 47 "FaultSearch$Chip" "nets" "I") (by decide +kernel)) (fun _ h9 => h9) rfl dX4_gate_43 ?_
        refine lv_bipush (v := (nI 100)) hx hb dX4_gate_46 (by decide) ?_
        refine lv_icmp_lt (tgt := 61) hx hb dX4_gate_48 (by decide) (fun c_48 => ?_) (fun c_48 => ?_)
        · skip
          rw [zc_lt (by omega) (by omega)] at c_48
          refine lv_iload_n hx hb dX4_gate_61 rfl (lv_at hl 1 rfl) ?_
          refine lv_if_lt (tgt := 71) hx hb dX4_gate_62 (by decide) (fun c_62 => ?_) (fun c_62 => ?_)
          · skip
            exact absurd c_62 hk1
          · skip
            refine lv_iload_n hx hb dX4_gate_65 rfl (lv_at hl 1 rfl) ?_
            refine lv_bipush (v := (nI 6)) hx hb dX4_gate_66 (by decide) ?_
            refine lv_icmp_le (tgt := 81) hx hb dX4_gate_68 (by decide) (fun c_68 => ?_) (fun c_68 => ?_)
            · skip
              refine lv_aload_n hx hb dX4_gate_81 rfl (lv_at hl 0 rfl) ?_
              refine va_get (D := D) (ci := 4) (v := .ref qc) (C := RX4) (T := TX4) (N := 5) hx hb hts hiX4 hown hK hP 0 rfl rfl 0 (by decide) (hts (.fieldLink RX4 12 "FaultSearch" "chip" "LFaultSearch$Chip;") (by decide +kernel)) (fun _ h9 => h9) rfl dX4_gate_82 ?_
              refine lv_iload_n hx hb dX4_gate_85 rfl (lv_at hl 1 rfl) ?_
              refine lv_iload_n hx hb dX4_gate_86 rfl (lv_at hl 2 rfl) ?_
              refine lv_iload_n hx hb dX4_gate_87 rfl (lv_at hl 1 rfl) ?_
              refine vp_callSi (va_runS (As := [.int k]) (rest := [.int (nI a), .int k, .ref qc]) ⟨hx, hb, hml, hown, hts⟩ (c_X4_isOnePin l k) (va_cwS 1 hts gX4_gate_X4_isOnePin rfl rfl rfl (by decide +kernel) ⟨Nat.le_of_ble_eq_true rfl, Nat.le_of_ble_eq_true rfl⟩) ⟨zt_blind, fun U hU hW => ⟨rfl, trivial⟩⟩ rfl rfl hl.1 rfl (lv_room (Nat.le_of_ble_eq_true rfl)) dX4_gate_88 ⟨Nat.le_of_ble_eq_true rfl, Nat.le_of_ble_eq_true rfl⟩).run (fun r_9 hrr_9 => ?_)
              subst hrr_9
              refine lv_if_eq (tgt := 98) hx hb dX4_gate_91 (by decide) (fun c_91 => ?_) (fun c_91 => ?_)
              · skip
                rw [zc_if0] at c_91
                refine lv_iload_n hx hb dX4_gate_98 rfl (lv_at hl 3 rfl) ?_
                refine zz_i (z := (nI bb)) (by have h9 := hbb; rw [if_neg c_91] at h9; exact h9) ?_
                have hPc := hP.sub (ws' := [(qc, .inr (0, [.ref qk, .ref q0, .ref q1, .ref qo, .ref qv, .int (nI n), .int (nI ni), .int (nI no)])), (qk, .inl (cI, 100, .inl kd)), (q0, .inl (cI, 100, .inl s0)), (q1, .inl (cI, 100, .inl s1)), (qo, .inl (cI, 12, .inl on)), (qv, .inl (cJ, 1600, .inr (.inl vl)))]) [1, 2, 3, 4, 5, 6] rfl
                have hDc := hD.sub (ws' := [(qc, .inr (0, [.ref qk, .ref q0, .ref q1, .ref qo, .ref qv, .int (nI n), .int (nI ni), .int (nI no)])), (qk, .inl (cI, 100, .inl kd)), (q0, .inl (cI, 100, .inl s0)), (q1, .inl (cI, 100, .inl s1)), (qo, .inl (cI, 12, .inl on)), (qv, .inl (cJ, 1600, .inr (.inl vl)))]) [1, 2, 3, 4, 5, 6] (by decide) rfl
                have hFc := va_free (wc := [(qc, .inr (0, [.ref qk, .ref q0, .ref q1, .ref qo, .ref qv, .int (nI n), .int (nI ni), .int (nI no)])), (qk, .inl (cI, 100, .inl kd)), (q0, .inl (cI, 100, .inl s0)), (q1, .inl (cI, 100, .inl s1)), (qo, .inl (cI, 12, .inl on)), (qv, .inl (cJ, 1600, .inr (.inl vl)))]) hD hS hA [1, 2, 3, 4, 5, 6] rfl
                refine va_calli (va_runV (As := [.int k, .int (nI a), .int (nI bb)]) (rest := []) ⟨hx, hb, hml, hown, hts⟩ (c_X0_addGate l D cI cJ cZ qc qk q0 q1 qo qv kd s0 s1 on vl n ni no k a bb s.heap.size _ rfl h2 ha hb2) (cwV 3 hts gX4_gate_X0_addGate rfl rfl rfl (by decide +kernel) ⟨Nat.le_of_ble_eq_true rfl, Nat.le_of_ble_eq_true rfl⟩) ⟨PW.blind, va_recv hK hPc (ci := 0) (q0 := 0) rfl rfl, fun U hU hW => ⟨rfl, PW.to hPc hK hNB hDc hU hW⟩⟩ rfl rfl hl.1 rfl (lv_room (Nat.le_of_ble_eq_true rfl)) dX4_gate_99 ⟨Nat.le_of_ble_eq_true rfl, Nat.le_of_ble_eq_true rfl⟩) hS (fun q _ h => hFc q h) hFc (fun r_10 u_9 t_9 H1_9 locs ht_9 hvm_9 hw_9 hB_9 hz1_9 hk1_9 hS => ?_)
                obtain ⟨hP1_9, hD1_9⟩ := hB_9
                rw [ht_9] at hP1_9
                obtain rfl := hw_9
                obtain ⟨hP, hD⟩ := va_join (wr := [(qx, .inr (4, [.ref qc, .ref qC, .ref qS, .ref qP, .int (nI st)])), (qS, .inr (3, [.ref qc, .ref qse, .ref qre, .ref qcg])), (qse, .inl (cJ, 1600, .inr (.inl se))), (qre, .inl (cZ, 100, .inl re)), (qcg, .inl (cJ, 100, .inr (.inl cg))), (qP, .inr (2, [.ref qfo, .ref qte, .int (nI fc), .int (nI tc)])), (qfo, .inl (cZ, 600, .inl fd)), (qte, .inl (cI, 600, .inl ts))]) (w1 := [(qc, .inr (0, [.ref qk, .ref q0, .ref q1, .ref qo, .ref qv, .int (nI (n + 1)), .int (nI ni), .int (nI no)])), (qk, .inl (cI, 100, .inl (upd kd n k))), (q0, .inl (cI, 100, .inl (upd s0 n (nI a)))), (q1, .inl (cI, 100, .inl (upd s1 n (nI bb)))), (qo, .inl (cI, 12, .inl on)), (qv, .inl (cJ, 1600, .inr (.inl (addV k a bb n vl 16))))]) hP hD [1, 2, 3, 4, 5, 6] [0, 7, 8, 9, 10, 11, 12, 13] rfl rfl (by decide) (by decide) hk1_9 hFc hP1_9 hD1_9
                have hP := hP.sub (ws' := [(qx, .inr (4, [.ref qc, .ref qC, .ref qS, .ref qP, .int (nI st)])), (qc, .inr (0, [.ref qk, .ref q0, .ref q1, .ref qo, .ref qv, .int (nI (n + 1)), .int (nI ni), .int (nI no)])), (qk, .inl (cI, 100, .inl (upd kd n k))), (q0, .inl (cI, 100, .inl (upd s0 n (nI a)))), (q1, .inl (cI, 100, .inl (upd s1 n (nI bb)))), (qo, .inl (cI, 12, .inl on)), (qv, .inl (cJ, 1600, .inr (.inl (addV k a bb n vl 16)))), (qS, .inr (3, [.ref qc, .ref qse, .ref qre, .ref qcg])), (qse, .inl (cJ, 1600, .inr (.inl se))), (qre, .inl (cZ, 100, .inl re)), (qcg, .inl (cJ, 100, .inr (.inl cg))), (qP, .inr (2, [.ref qfo, .ref qte, .int (nI fc), .int (nI tc)])), (qfo, .inl (cZ, 600, .inl fd)), (qte, .inl (cI, 600, .inl ts))]) [0, 8, 9, 10, 11, 12, 13, 1, 2, 3, 4, 5, 6, 7] rfl
                have hD := hD.sub (ws' := [(qx, .inr (4, [.ref qc, .ref qC, .ref qS, .ref qP, .int (nI st)])), (qc, .inr (0, [.ref qk, .ref q0, .ref q1, .ref qo, .ref qv, .int (nI (n + 1)), .int (nI ni), .int (nI no)])), (qk, .inl (cI, 100, .inl (upd kd n k))), (q0, .inl (cI, 100, .inl (upd s0 n (nI a)))), (q1, .inl (cI, 100, .inl (upd s1 n (nI bb)))), (qo, .inl (cI, 12, .inl on)), (qv, .inl (cJ, 1600, .inr (.inl (addV k a bb n vl 16)))), (qS, .inr (3, [.ref qc, .ref qse, .ref qre, .ref qcg])), (qse, .inl (cJ, 1600, .inr (.inl se))), (qre, .inl (cZ, 100, .inl re)), (qcg, .inl (cJ, 100, .inr (.inl cg))), (qP, .inr (2, [.ref qfo, .ref qte, .int (nI fc), .int (nI tc)])), (qfo, .inl (cZ, 600, .inl fd)), (qte, .inl (cI, 600, .inl ts))]) [0, 8, 9, 10, 11, 12, 13, 1, 2, 3, 4, 5, 6, 7] (by decide) rfl
                generalize H1_9 = H at hP hS ⊢
                have hP : va_P D vwCl [(qx, .inr (4, [.ref qc, .ref qC, .ref qS, .ref qP, .int (nI st)])), (qc, .inr (0, [.ref qk, .ref q0, .ref q1, .ref qo, .ref qv, .int (nI (n + 1)), .int (nI ni), .int (nI no)])), (qk, .inl (cI, 100, .inl (upd kd n k))), (q0, .inl (cI, 100, .inl (upd s0 n (nI a)))), (q1, .inl (cI, 100, .inl (upd s1 n (nI bb)))), (qo, .inl (cI, 12, .inl on)), (qv, .inl (cJ, 1600, .inr (.inl (addV k a bb n vl 16)))), (qS, .inr (3, [.ref qc, .ref qse, .ref qre, .ref qcg])), (qse, .inl (cJ, 1600, .inr (.inl se))), (qre, .inl (cZ, 100, .inl re)), (qcg, .inl (cJ, 100, .inr (.inl cg))), (qP, .inr (2, [.ref qfo, .ref qte, .int (nI fc), .int (nI tc)])), (qfo, .inl (cZ, 600, .inl fd)), (qte, .inl (cI, 600, .inl ts))] H := hP
                have hD : va_D A [(qx, .inr (4, [.ref qc, .ref qC, .ref qS, .ref qP, .int (nI st)])), (qc, .inr (0, [.ref qk, .ref q0, .ref q1, .ref qo, .ref qv, .int (nI (n + 1)), .int (nI ni), .int (nI no)])), (qk, .inl (cI, 100, .inl (upd kd n k))), (q0, .inl (cI, 100, .inl (upd s0 n (nI a)))), (q1, .inl (cI, 100, .inl (upd s1 n (nI bb)))), (qo, .inl (cI, 12, .inl on)), (qv, .inl (cJ, 1600, .inr (.inl (addV k a bb n vl 16)))), (qS, .inr (3, [.ref qc, .ref qse, .ref qre, .ref qcg])), (qse, .inl (cJ, 1600, .inr (.inl se))), (qre, .inl (cZ, 100, .inl re)), (qcg, .inl (cJ, 100, .inr (.inl cg))), (qP, .inr (2, [.ref qfo, .ref qte, .int (nI fc), .int (nI tc)])), (qfo, .inl (cZ, 600, .inl fd)), (qte, .inl (cI, 600, .inl ts))] := hD
                refine lv_istore (lv' := [(4, .int (nI n)), (0, .ref qx), (1, .int k), (2, .int (nI a)), (3, .int b)]) hx hb dX4_gate_102 hl (by decide) rfl (fun ls hl => ?_)
                refine lv_aload_n hx hb dX4_gate_104 rfl (lv_at hl 1 rfl) ?_
                have hPc := hP.sub (ws' := [(qx, .inr (4, [.ref qc, .ref qC, .ref qS, .ref qP, .int (nI st)])), (qS, .inr (3, [.ref qc, .ref qse, .ref qre, .ref qcg])), (qse, .inl (cJ, 1600, .inr (.inl se))), (qre, .inl (cZ, 100, .inl re)), (qcg, .inl (cJ, 100, .inr (.inl cg))), (qP, .inr (2, [.ref qfo, .ref qte, .int (nI fc), .int (nI tc)])), (qfo, .inl (cZ, 600, .inl fd)), (qte, .inl (cI, 600, .inl ts))]) [0, 7, 8, 9, 10, 11, 12, 13] rfl
                have hDc := hD.sub (ws' := [(qx, .inr (4, [.ref qc, .ref qC, .ref qS, .ref qP, .int (nI st)])), (qS, .inr (3, [.ref qc, .ref qse, .ref qre, .ref qcg])), (qse, .inl (cJ, 1600, .inr (.inl se))), (qre, .inl (cZ, 100, .inl re)), (qcg, .inl (cJ, 100, .inr (.inl cg))), (qP, .inr (2, [.ref qfo, .ref qte, .int (nI fc), .int (nI tc)])), (qfo, .inl (cZ, 600, .inl fd)), (qte, .inl (cI, 600, .inl ts))]) [0, 7, 8, 9, 10, 11, 12, 13] (by decide) rfl
                have hFc := va_free (wc := [(qx, .inr (4, [.ref qc, .ref qC, .ref qS, .ref qP, .int (nI st)])), (qS, .inr (3, [.ref qc, .ref qse, .ref qre, .ref qcg])), (qse, .inl (cJ, 1600, .inr (.inl se))), (qre, .inl (cZ, 100, .inl re)), (qcg, .inl (cJ, 100, .inr (.inl cg))), (qP, .inr (2, [.ref qfo, .ref qte, .int (nI fc), .int (nI tc)])), (qfo, .inl (cZ, 600, .inl fd)), (qte, .inl (cI, 600, .inl ts))]) hD hS hA [0, 7, 8, 9, 10, 11, 12, 13] rfl
                refine va_callv (va_runV (As := []) (rest := []) ⟨hx, hb, hml, hown, hts⟩ (c_X4_forgetDerived l D cI cJ cZ qx qc qC qS qse qre qcg se re cg qP qfo qte fd ts fc tc st H.size _ rfl) (cwV 0 hts gX4_gate_X4_forgetDerived rfl rfl rfl (by decide +kernel) ⟨Nat.le_of_ble_eq_true rfl, Nat.le_of_ble_eq_true rfl⟩) ⟨PW.blind, va_recv hK hPc (ci := 4) (q0 := 0) rfl rfl, fun U hU hW => ⟨rfl, PW.to hPc hK hNB hDc hU hW⟩⟩ rfl rfl hl.1 rfl (lv_room (Nat.le_of_ble_eq_true rfl)) dX4_gate_105 ⟨Nat.le_of_ble_eq_true rfl, Nat.le_of_ble_eq_true rfl⟩) hS (fun q _ h => hFc q h) hFc (fun u_9 t_9 H1_9 locs ht_9 hvm_9 hw_9 hB_9 hz1_9 hk1_9 hS => ?_)
                obtain ⟨hP1_9, hD1_9⟩ := hB_9
                rw [ht_9] at hP1_9
                obtain ⟨hP, hD⟩ := va_join (wr := [(qc, .inr (0, [.ref qk, .ref q0, .ref q1, .ref qo, .ref qv, .int (nI (n + 1)), .int (nI ni), .int (nI no)])), (qk, .inl (cI, 100, .inl (upd kd n k))), (q0, .inl (cI, 100, .inl (upd s0 n (nI a)))), (q1, .inl (cI, 100, .inl (upd s1 n (nI bb)))), (qo, .inl (cI, 12, .inl on)), (qv, .inl (cJ, 1600, .inr (.inl (addV k a bb n vl 16))))]) (w1 := [(qx, .inr (4, [.ref qc, .ref qC, .ref qS, .ref qP, .int (nI 1)])), (qS, .inr (3, [.ref qc, .ref qse, .ref qre, .ref qcg])), (qse, .inl (cJ, 1600, .inr (.inl se))), (qre, .inl (cZ, 100, .inl (clrF re 100))), (qcg, .inl (cJ, 100, .inr (.inl cg))), (qP, .inr (2, [.ref qfo, .ref qte, .int (nI 0), .int (nI 0)])), (qfo, .inl (cZ, 600, .inl (clrF fd 600))), (qte, .inl (cI, 600, .inl ts))]) hP hD [0, 7, 8, 9, 10, 11, 12, 13] [1, 2, 3, 4, 5, 6] rfl rfl (by decide) (by decide) hk1_9 hFc hP1_9 hD1_9
                have hP := hP.sub (ws' := [(qx, .inr (4, [.ref qc, .ref qC, .ref qS, .ref qP, .int (nI 1)])), (qc, .inr (0, [.ref qk, .ref q0, .ref q1, .ref qo, .ref qv, .int (nI (n + 1)), .int (nI ni), .int (nI no)])), (qk, .inl (cI, 100, .inl (upd kd n k))), (q0, .inl (cI, 100, .inl (upd s0 n (nI a)))), (q1, .inl (cI, 100, .inl (upd s1 n (nI bb)))), (qo, .inl (cI, 12, .inl on)), (qv, .inl (cJ, 1600, .inr (.inl (addV k a bb n vl 16)))), (qS, .inr (3, [.ref qc, .ref qse, .ref qre, .ref qcg])), (qse, .inl (cJ, 1600, .inr (.inl se))), (qre, .inl (cZ, 100, .inl (clrF re 100))), (qcg, .inl (cJ, 100, .inr (.inl cg))), (qP, .inr (2, [.ref qfo, .ref qte, .int (nI 0), .int (nI 0)])), (qfo, .inl (cZ, 600, .inl (clrF fd 600))), (qte, .inl (cI, 600, .inl ts))]) [6, 0, 1, 2, 3, 4, 5, 7, 8, 9, 10, 11, 12, 13] rfl
                have hD := hD.sub (ws' := [(qx, .inr (4, [.ref qc, .ref qC, .ref qS, .ref qP, .int (nI 1)])), (qc, .inr (0, [.ref qk, .ref q0, .ref q1, .ref qo, .ref qv, .int (nI (n + 1)), .int (nI ni), .int (nI no)])), (qk, .inl (cI, 100, .inl (upd kd n k))), (q0, .inl (cI, 100, .inl (upd s0 n (nI a)))), (q1, .inl (cI, 100, .inl (upd s1 n (nI bb)))), (qo, .inl (cI, 12, .inl on)), (qv, .inl (cJ, 1600, .inr (.inl (addV k a bb n vl 16)))), (qS, .inr (3, [.ref qc, .ref qse, .ref qre, .ref qcg])), (qse, .inl (cJ, 1600, .inr (.inl se))), (qre, .inl (cZ, 100, .inl (clrF re 100))), (qcg, .inl (cJ, 100, .inr (.inl cg))), (qP, .inr (2, [.ref qfo, .ref qte, .int (nI 0), .int (nI 0)])), (qfo, .inl (cZ, 600, .inl (clrF fd 600))), (qte, .inl (cI, 600, .inl ts))]) [6, 0, 1, 2, 3, 4, 5, 7, 8, 9, 10, 11, 12, 13] (by decide) rfl
                generalize H1_9 = H at hP hS ⊢
                have hP : va_P D vwCl [(qx, .inr (4, [.ref qc, .ref qC, .ref qS, .ref qP, .int (nI 1)])), (qc, .inr (0, [.ref qk, .ref q0, .ref q1, .ref qo, .ref qv, .int (nI (n + 1)), .int (nI ni), .int (nI no)])), (qk, .inl (cI, 100, .inl (upd kd n k))), (q0, .inl (cI, 100, .inl (upd s0 n (nI a)))), (q1, .inl (cI, 100, .inl (upd s1 n (nI bb)))), (qo, .inl (cI, 12, .inl on)), (qv, .inl (cJ, 1600, .inr (.inl (addV k a bb n vl 16)))), (qS, .inr (3, [.ref qc, .ref qse, .ref qre, .ref qcg])), (qse, .inl (cJ, 1600, .inr (.inl se))), (qre, .inl (cZ, 100, .inl (clrF re 100))), (qcg, .inl (cJ, 100, .inr (.inl cg))), (qP, .inr (2, [.ref qfo, .ref qte, .int (nI 0), .int (nI 0)])), (qfo, .inl (cZ, 600, .inl (clrF fd 600))), (qte, .inl (cI, 600, .inl ts))] H := hP
                have hD : va_D A [(qx, .inr (4, [.ref qc, .ref qC, .ref qS, .ref qP, .int (nI 1)])), (qc, .inr (0, [.ref qk, .ref q0, .ref q1, .ref qo, .ref qv, .int (nI (n + 1)), .int (nI ni), .int (nI no)])), (qk, .inl (cI, 100, .inl (upd kd n k))), (q0, .inl (cI, 100, .inl (upd s0 n (nI a)))), (q1, .inl (cI, 100, .inl (upd s1 n (nI bb)))), (qo, .inl (cI, 12, .inl on)), (qv, .inl (cJ, 1600, .inr (.inl (addV k a bb n vl 16)))), (qS, .inr (3, [.ref qc, .ref qse, .ref qre, .ref qcg])), (qse, .inl (cJ, 1600, .inr (.inl se))), (qre, .inl (cZ, 100, .inl (clrF re 100))), (qcg, .inl (cJ, 100, .inr (.inl cg))), (qP, .inr (2, [.ref qfo, .ref qte, .int (nI 0), .int (nI 0)])), (qfo, .inl (cZ, 600, .inl (clrF fd 600))), (qte, .inl (cI, 600, .inl ts))] := hD
                refine lv_iload hx hb dX4_gate_108 (lv_at hl 0 rfl) ?_
                exact W.iret (v := (nI n)) hx hb hr (fun t_9 ht_9 hW_9 => ⟨⟨(nI n), (), rfl, rfl, ⟨by rw [ht_9]; exact hP, hD⟩⟩, hS.F ht_9⟩) hS.2.2 dX4_gate_110
              · skip
                rw [zc_if0] at c_91
                have c_91 := Classical.not_not.mp c_91
                refine lv_iload_n hx hb dX4_gate_94 rfl (lv_at hl 2 rfl) ?_
                refine lv_goto (tgt := 99) hx hb dX4_gate_95 (by decide) ?_
                refine zz_i (z := (nI bb)) (by have h9 := hbb; rw [if_pos c_91] at h9; exact h9) ?_
                have hPc := hP.sub (ws' := [(qc, .inr (0, [.ref qk, .ref q0, .ref q1, .ref qo, .ref qv, .int (nI n), .int (nI ni), .int (nI no)])), (qk, .inl (cI, 100, .inl kd)), (q0, .inl (cI, 100, .inl s0)), (q1, .inl (cI, 100, .inl s1)), (qo, .inl (cI, 12, .inl on)), (qv, .inl (cJ, 1600, .inr (.inl vl)))]) [1, 2, 3, 4, 5, 6] rfl
                have hDc := hD.sub (ws' := [(qc, .inr (0, [.ref qk, .ref q0, .ref q1, .ref qo, .ref qv, .int (nI n), .int (nI ni), .int (nI no)])), (qk, .inl (cI, 100, .inl kd)), (q0, .inl (cI, 100, .inl s0)), (q1, .inl (cI, 100, .inl s1)), (qo, .inl (cI, 12, .inl on)), (qv, .inl (cJ, 1600, .inr (.inl vl)))]) [1, 2, 3, 4, 5, 6] (by decide) rfl
                have hFc := va_free (wc := [(qc, .inr (0, [.ref qk, .ref q0, .ref q1, .ref qo, .ref qv, .int (nI n), .int (nI ni), .int (nI no)])), (qk, .inl (cI, 100, .inl kd)), (q0, .inl (cI, 100, .inl s0)), (q1, .inl (cI, 100, .inl s1)), (qo, .inl (cI, 12, .inl on)), (qv, .inl (cJ, 1600, .inr (.inl vl)))]) hD hS hA [1, 2, 3, 4, 5, 6] rfl
                refine va_calli (va_runV (As := [.int k, .int (nI a), .int (nI bb)]) (rest := []) ⟨hx, hb, hml, hown, hts⟩ (c_X0_addGate l D cI cJ cZ qc qk q0 q1 qo qv kd s0 s1 on vl n ni no k a bb s.heap.size _ rfl h2 ha hb2) (cwV 3 hts gX4_gate_X0_addGate rfl rfl rfl (by decide +kernel) ⟨Nat.le_of_ble_eq_true rfl, Nat.le_of_ble_eq_true rfl⟩) ⟨PW.blind, va_recv hK hPc (ci := 0) (q0 := 0) rfl rfl, fun U hU hW => ⟨rfl, PW.to hPc hK hNB hDc hU hW⟩⟩ rfl rfl hl.1 rfl (lv_room (Nat.le_of_ble_eq_true rfl)) dX4_gate_99 ⟨Nat.le_of_ble_eq_true rfl, Nat.le_of_ble_eq_true rfl⟩) hS (fun q _ h => hFc q h) hFc (fun r_12 u_9 t_9 H1_9 locs ht_9 hvm_9 hw_9 hB_9 hz1_9 hk1_9 hS => ?_)
                obtain ⟨hP1_9, hD1_9⟩ := hB_9
                rw [ht_9] at hP1_9
                obtain rfl := hw_9
                obtain ⟨hP, hD⟩ := va_join (wr := [(qx, .inr (4, [.ref qc, .ref qC, .ref qS, .ref qP, .int (nI st)])), (qS, .inr (3, [.ref qc, .ref qse, .ref qre, .ref qcg])), (qse, .inl (cJ, 1600, .inr (.inl se))), (qre, .inl (cZ, 100, .inl re)), (qcg, .inl (cJ, 100, .inr (.inl cg))), (qP, .inr (2, [.ref qfo, .ref qte, .int (nI fc), .int (nI tc)])), (qfo, .inl (cZ, 600, .inl fd)), (qte, .inl (cI, 600, .inl ts))]) (w1 := [(qc, .inr (0, [.ref qk, .ref q0, .ref q1, .ref qo, .ref qv, .int (nI (n + 1)), .int (nI ni), .int (nI no)])), (qk, .inl (cI, 100, .inl (upd kd n k))), (q0, .inl (cI, 100, .inl (upd s0 n (nI a)))), (q1, .inl (cI, 100, .inl (upd s1 n (nI bb)))), (qo, .inl (cI, 12, .inl on)), (qv, .inl (cJ, 1600, .inr (.inl (addV k a bb n vl 16))))]) hP hD [1, 2, 3, 4, 5, 6] [0, 7, 8, 9, 10, 11, 12, 13] rfl rfl (by decide) (by decide) hk1_9 hFc hP1_9 hD1_9
                have hP := hP.sub (ws' := [(qx, .inr (4, [.ref qc, .ref qC, .ref qS, .ref qP, .int (nI st)])), (qc, .inr (0, [.ref qk, .ref q0, .ref q1, .ref qo, .ref qv, .int (nI (n + 1)), .int (nI ni), .int (nI no)])), (qk, .inl (cI, 100, .inl (upd kd n k))), (q0, .inl (cI, 100, .inl (upd s0 n (nI a)))), (q1, .inl (cI, 100, .inl (upd s1 n (nI bb)))), (qo, .inl (cI, 12, .inl on)), (qv, .inl (cJ, 1600, .inr (.inl (addV k a bb n vl 16)))), (qS, .inr (3, [.ref qc, .ref qse, .ref qre, .ref qcg])), (qse, .inl (cJ, 1600, .inr (.inl se))), (qre, .inl (cZ, 100, .inl re)), (qcg, .inl (cJ, 100, .inr (.inl cg))), (qP, .inr (2, [.ref qfo, .ref qte, .int (nI fc), .int (nI tc)])), (qfo, .inl (cZ, 600, .inl fd)), (qte, .inl (cI, 600, .inl ts))]) [0, 8, 9, 10, 11, 12, 13, 1, 2, 3, 4, 5, 6, 7] rfl
                have hD := hD.sub (ws' := [(qx, .inr (4, [.ref qc, .ref qC, .ref qS, .ref qP, .int (nI st)])), (qc, .inr (0, [.ref qk, .ref q0, .ref q1, .ref qo, .ref qv, .int (nI (n + 1)), .int (nI ni), .int (nI no)])), (qk, .inl (cI, 100, .inl (upd kd n k))), (q0, .inl (cI, 100, .inl (upd s0 n (nI a)))), (q1, .inl (cI, 100, .inl (upd s1 n (nI bb)))), (qo, .inl (cI, 12, .inl on)), (qv, .inl (cJ, 1600, .inr (.inl (addV k a bb n vl 16)))), (qS, .inr (3, [.ref qc, .ref qse, .ref qre, .ref qcg])), (qse, .inl (cJ, 1600, .inr (.inl se))), (qre, .inl (cZ, 100, .inl re)), (qcg, .inl (cJ, 100, .inr (.inl cg))), (qP, .inr (2, [.ref qfo, .ref qte, .int (nI fc), .int (nI tc)])), (qfo, .inl (cZ, 600, .inl fd)), (qte, .inl (cI, 600, .inl ts))]) [0, 8, 9, 10, 11, 12, 13, 1, 2, 3, 4, 5, 6, 7] (by decide) rfl
                generalize H1_9 = H at hP hS ⊢
                have hP : va_P D vwCl [(qx, .inr (4, [.ref qc, .ref qC, .ref qS, .ref qP, .int (nI st)])), (qc, .inr (0, [.ref qk, .ref q0, .ref q1, .ref qo, .ref qv, .int (nI (n + 1)), .int (nI ni), .int (nI no)])), (qk, .inl (cI, 100, .inl (upd kd n k))), (q0, .inl (cI, 100, .inl (upd s0 n (nI a)))), (q1, .inl (cI, 100, .inl (upd s1 n (nI bb)))), (qo, .inl (cI, 12, .inl on)), (qv, .inl (cJ, 1600, .inr (.inl (addV k a bb n vl 16)))), (qS, .inr (3, [.ref qc, .ref qse, .ref qre, .ref qcg])), (qse, .inl (cJ, 1600, .inr (.inl se))), (qre, .inl (cZ, 100, .inl re)), (qcg, .inl (cJ, 100, .inr (.inl cg))), (qP, .inr (2, [.ref qfo, .ref qte, .int (nI fc), .int (nI tc)])), (qfo, .inl (cZ, 600, .inl fd)), (qte, .inl (cI, 600, .inl ts))] H := hP
                have hD : va_D A [(qx, .inr (4, [.ref qc, .ref qC, .ref qS, .ref qP, .int (nI st)])), (qc, .inr (0, [.ref qk, .ref q0, .ref q1, .ref qo, .ref qv, .int (nI (n + 1)), .int (nI ni), .int (nI no)])), (qk, .inl (cI, 100, .inl (upd kd n k))), (q0, .inl (cI, 100, .inl (upd s0 n (nI a)))), (q1, .inl (cI, 100, .inl (upd s1 n (nI bb)))), (qo, .inl (cI, 12, .inl on)), (qv, .inl (cJ, 1600, .inr (.inl (addV k a bb n vl 16)))), (qS, .inr (3, [.ref qc, .ref qse, .ref qre, .ref qcg])), (qse, .inl (cJ, 1600, .inr (.inl se))), (qre, .inl (cZ, 100, .inl re)), (qcg, .inl (cJ, 100, .inr (.inl cg))), (qP, .inr (2, [.ref qfo, .ref qte, .int (nI fc), .int (nI tc)])), (qfo, .inl (cZ, 600, .inl fd)), (qte, .inl (cI, 600, .inl ts))] := hD
                refine lv_istore (lv' := [(4, .int (nI n)), (0, .ref qx), (1, .int k), (2, .int (nI a)), (3, .int b)]) hx hb dX4_gate_102 hl (by decide) rfl (fun ls hl => ?_)
                refine lv_aload_n hx hb dX4_gate_104 rfl (lv_at hl 1 rfl) ?_
                have hPc := hP.sub (ws' := [(qx, .inr (4, [.ref qc, .ref qC, .ref qS, .ref qP, .int (nI st)])), (qS, .inr (3, [.ref qc, .ref qse, .ref qre, .ref qcg])), (qse, .inl (cJ, 1600, .inr (.inl se))), (qre, .inl (cZ, 100, .inl re)), (qcg, .inl (cJ, 100, .inr (.inl cg))), (qP, .inr (2, [.ref qfo, .ref qte, .int (nI fc), .int (nI tc)])), (qfo, .inl (cZ, 600, .inl fd)), (qte, .inl (cI, 600, .inl ts))]) [0, 7, 8, 9, 10, 11, 12, 13] rfl
                have hDc := hD.sub (ws' := [(qx, .inr (4, [.ref qc, .ref qC, .ref qS, .ref qP, .int (nI st)])), (qS, .inr (3, [.ref qc, .ref qse, .ref qre, .ref qcg])), (qse, .inl (cJ, 1600, .inr (.inl se))), (qre, .inl (cZ, 100, .inl re)), (qcg, .inl (cJ, 100, .inr (.inl cg))), (qP, .inr (2, [.ref qfo, .ref qte, .int (nI fc), .int (nI tc)])), (qfo, .inl (cZ, 600, .inl fd)), (qte, .inl (cI, 600, .inl ts))]) [0, 7, 8, 9, 10, 11, 12, 13] (by decide) rfl
                have hFc := va_free (wc := [(qx, .inr (4, [.ref qc, .ref qC, .ref qS, .ref qP, .int (nI st)])), (qS, .inr (3, [.ref qc, .ref qse, .ref qre, .ref qcg])), (qse, .inl (cJ, 1600, .inr (.inl se))), (qre, .inl (cZ, 100, .inl re)), (qcg, .inl (cJ, 100, .inr (.inl cg))), (qP, .inr (2, [.ref qfo, .ref qte, .int (nI fc), .int (nI tc)])), (qfo, .inl (cZ, 600, .inl fd)), (qte, .inl (cI, 600, .inl ts))]) hD hS hA [0, 7, 8, 9, 10, 11, 12, 13] rfl
                refine va_callv (va_runV (As := []) (rest := []) ⟨hx, hb, hml, hown, hts⟩ (c_X4_forgetDerived l D cI cJ cZ qx qc qC qS qse qre qcg se re cg qP qfo qte fd ts fc tc st H.size _ rfl) (cwV 0 hts gX4_gate_X4_forgetDerived rfl rfl rfl (by decide +kernel) ⟨Nat.le_of_ble_eq_true rfl, Nat.le_of_ble_eq_true rfl⟩) ⟨PW.blind, va_recv hK hPc (ci := 4) (q0 := 0) rfl rfl, fun U hU hW => ⟨rfl, PW.to hPc hK hNB hDc hU hW⟩⟩ rfl rfl hl.1 rfl (lv_room (Nat.le_of_ble_eq_true rfl)) dX4_gate_105 ⟨Nat.le_of_ble_eq_true rfl, Nat.le_of_ble_eq_true rfl⟩) hS (fun q _ h => hFc q h) hFc (fun u_9 t_9 H1_9 locs ht_9 hvm_9 hw_9 hB_9 hz1_9 hk1_9 hS => ?_)
                obtain ⟨hP1_9, hD1_9⟩ := hB_9
                rw [ht_9] at hP1_9
                obtain ⟨hP, hD⟩ := va_join (wr := [(qc, .inr (0, [.ref qk, .ref q0, .ref q1, .ref qo, .ref qv, .int (nI (n + 1)), .int (nI ni), .int (nI no)])), (qk, .inl (cI, 100, .inl (upd kd n k))), (q0, .inl (cI, 100, .inl (upd s0 n (nI a)))), (q1, .inl (cI, 100, .inl (upd s1 n (nI bb)))), (qo, .inl (cI, 12, .inl on)), (qv, .inl (cJ, 1600, .inr (.inl (addV k a bb n vl 16))))]) (w1 := [(qx, .inr (4, [.ref qc, .ref qC, .ref qS, .ref qP, .int (nI 1)])), (qS, .inr (3, [.ref qc, .ref qse, .ref qre, .ref qcg])), (qse, .inl (cJ, 1600, .inr (.inl se))), (qre, .inl (cZ, 100, .inl (clrF re 100))), (qcg, .inl (cJ, 100, .inr (.inl cg))), (qP, .inr (2, [.ref qfo, .ref qte, .int (nI 0), .int (nI 0)])), (qfo, .inl (cZ, 600, .inl (clrF fd 600))), (qte, .inl (cI, 600, .inl ts))]) hP hD [0, 7, 8, 9, 10, 11, 12, 13] [1, 2, 3, 4, 5, 6] rfl rfl (by decide) (by decide) hk1_9 hFc hP1_9 hD1_9
                have hP := hP.sub (ws' := [(qx, .inr (4, [.ref qc, .ref qC, .ref qS, .ref qP, .int (nI 1)])), (qc, .inr (0, [.ref qk, .ref q0, .ref q1, .ref qo, .ref qv, .int (nI (n + 1)), .int (nI ni), .int (nI no)])), (qk, .inl (cI, 100, .inl (upd kd n k))), (q0, .inl (cI, 100, .inl (upd s0 n (nI a)))), (q1, .inl (cI, 100, .inl (upd s1 n (nI bb)))), (qo, .inl (cI, 12, .inl on)), (qv, .inl (cJ, 1600, .inr (.inl (addV k a bb n vl 16)))), (qS, .inr (3, [.ref qc, .ref qse, .ref qre, .ref qcg])), (qse, .inl (cJ, 1600, .inr (.inl se))), (qre, .inl (cZ, 100, .inl (clrF re 100))), (qcg, .inl (cJ, 100, .inr (.inl cg))), (qP, .inr (2, [.ref qfo, .ref qte, .int (nI 0), .int (nI 0)])), (qfo, .inl (cZ, 600, .inl (clrF fd 600))), (qte, .inl (cI, 600, .inl ts))]) [6, 0, 1, 2, 3, 4, 5, 7, 8, 9, 10, 11, 12, 13] rfl
                have hD := hD.sub (ws' := [(qx, .inr (4, [.ref qc, .ref qC, .ref qS, .ref qP, .int (nI 1)])), (qc, .inr (0, [.ref qk, .ref q0, .ref q1, .ref qo, .ref qv, .int (nI (n + 1)), .int (nI ni), .int (nI no)])), (qk, .inl (cI, 100, .inl (upd kd n k))), (q0, .inl (cI, 100, .inl (upd s0 n (nI a)))), (q1, .inl (cI, 100, .inl (upd s1 n (nI bb)))), (qo, .inl (cI, 12, .inl on)), (qv, .inl (cJ, 1600, .inr (.inl (addV k a bb n vl 16)))), (qS, .inr (3, [.ref qc, .ref qse, .ref qre, .ref qcg])), (qse, .inl (cJ, 1600, .inr (.inl se))), (qre, .inl (cZ, 100, .inl (clrF re 100))), (qcg, .inl (cJ, 100, .inr (.inl cg))), (qP, .inr (2, [.ref qfo, .ref qte, .int (nI 0), .int (nI 0)])), (qfo, .inl (cZ, 600, .inl (clrF fd 600))), (qte, .inl (cI, 600, .inl ts))]) [6, 0, 1, 2, 3, 4, 5, 7, 8, 9, 10, 11, 12, 13] (by decide) rfl
                generalize H1_9 = H at hP hS ⊢
                have hP : va_P D vwCl [(qx, .inr (4, [.ref qc, .ref qC, .ref qS, .ref qP, .int (nI 1)])), (qc, .inr (0, [.ref qk, .ref q0, .ref q1, .ref qo, .ref qv, .int (nI (n + 1)), .int (nI ni), .int (nI no)])), (qk, .inl (cI, 100, .inl (upd kd n k))), (q0, .inl (cI, 100, .inl (upd s0 n (nI a)))), (q1, .inl (cI, 100, .inl (upd s1 n (nI bb)))), (qo, .inl (cI, 12, .inl on)), (qv, .inl (cJ, 1600, .inr (.inl (addV k a bb n vl 16)))), (qS, .inr (3, [.ref qc, .ref qse, .ref qre, .ref qcg])), (qse, .inl (cJ, 1600, .inr (.inl se))), (qre, .inl (cZ, 100, .inl (clrF re 100))), (qcg, .inl (cJ, 100, .inr (.inl cg))), (qP, .inr (2, [.ref qfo, .ref qte, .int (nI 0), .int (nI 0)])), (qfo, .inl (cZ, 600, .inl (clrF fd 600))), (qte, .inl (cI, 600, .inl ts))] H := hP
                have hD : va_D A [(qx, .inr (4, [.ref qc, .ref qC, .ref qS, .ref qP, .int (nI 1)])), (qc, .inr (0, [.ref qk, .ref q0, .ref q1, .ref qo, .ref qv, .int (nI (n + 1)), .int (nI ni), .int (nI no)])), (qk, .inl (cI, 100, .inl (upd kd n k))), (q0, .inl (cI, 100, .inl (upd s0 n (nI a)))), (q1, .inl (cI, 100, .inl (upd s1 n (nI bb)))), (qo, .inl (cI, 12, .inl on)), (qv, .inl (cJ, 1600, .inr (.inl (addV k a bb n vl 16)))), (qS, .inr (3, [.ref qc, .ref qse, .ref qre, .ref qcg])), (qse, .inl (cJ, 1600, .inr (.inl se))), (qre, .inl (cZ, 100, .inl (clrF re 100))), (qcg, .inl (cJ, 100, .inr (.inl cg))), (qP, .inr (2, [.ref qfo, .ref qte, .int (nI 0), .int (nI 0)])), (qfo, .inl (cZ, 600, .inl (clrF fd 600))), (qte, .inl (cI, 600, .inl ts))] := hD
                refine lv_iload hx hb dX4_gate_108 (lv_at hl 0 rfl) ?_
                exact W.iret (v := (nI n)) hx hb hr (fun t_9 ht_9 hW_9 => ⟨⟨(nI n), (), rfl, rfl, ⟨by rw [ht_9]; exact hP, hD⟩⟩, hS.F ht_9⟩) hS.2.2 dX4_gate_110
            · skip
              exact absurd hk2 c_68
        · skip
          rw [zc_lt (by omega) (by omega)] at c_48
          exact absurd h2 c_48
      · skip
        rw [zc_if0] at c_26
        exact absurd (by have h9 := hbb; rw [if_neg c_15] at h9; rw [h9]; exact isN_nI (by omega) hb2) c_26

set_option maxHeartbeats 4000000 in
set_option maxRecDepth 100000 in
theorem c_X4_gate_no1 (l : Launch) (hl0 : l.stackTraces = false) (D : va_G) (cI cJ cZ : ClassId) (qx : Nat) (qc : Nat) (qk : Nat) (q0 : Nat) (q1 : Nat) (qo : Nat) (qv : Nat) (kd : Nat → Int32) (s0 : Nat → Int32) (s1 : Nat → Int32) (on : Nat → Int32) (vl : Nat → Int64) (n : Nat) (ni : Nat) (no : Nat) (qC : Nat) (qS : Nat) (qP : Nat) (st : Nat) (k : Int32) (a : Int32) (b : Int32) (sz : Nat) (A : Nat → Prop) (hAe : A = va_A [(qx, .inr (4, [.ref qc, .ref qC, .ref qS, .ref qP, .int (nI st)])), (qc, .inr (0, [.ref qk, .ref q0, .ref q1, .ref qo, .ref qv, .int (nI n), .int (nI ni), .int (nI no)])), (qk, .inl (cI, 100, .inl kd)), (q0, .inl (cI, 100, .inl s0)), (q1, .inl (cI, 100, .inl s1)), (qo, .inl (cI, 12, .inl on)), (qv, .inl (cJ, 1600, .inr (.inl vl)))] sz) (h : gCode n k a b = 1) : vx_Met l yX4_gate wsX4_gate ({ frames := 6, cells := 1, slots := 6, locals := 90 } : Room) (va_Pc [.ref qx, .int k, .int a, .int b] (PX D cI cJ cZ [(qx, .inr (4, [.ref qc, .ref qC, .ref qS, .ref qP, .int (nI st)])), (qc, .inr (0, [.ref qk, .ref q0, .ref q1, .ref qo, .ref qv, .int (nI n), .int (nI ni), .int (nI no)])), (qk, .inl (cI, 100, .inl kd)), (q0, .inl (cI, 100, .inl s0)), (q1, .inl (cI, 100, .inl s1)), (qo, .inl (cI, 12, .inl on)), (qv, .inl (cJ, 1600, .inr (.inl vl)))] sz)) (va_Qi (fun (_ : Int32) (_ : Unit) => False) (fun _ _ => True) A) (vx_X (fun _u9 : Unit => True) (fun E (_u9 : Unit) t => E = "java/lang/IndexOutOfBoundsException" ∧ PQ D A [(qx, .inr (4, [.ref qc, .ref qC, .ref qS, .ref qP, .int (nI st)])), (qc, .inr (0, [.ref qk, .ref q0, .ref q1, .ref qo, .ref qv, .int (nI n), .int (nI ni), .int (nI no)])), (qk, .inl (cI, 100, .inl kd)), (q0, .inl (cI, 100, .inl s0)), (q1, .inl (cI, 100, .inl s1)), (qo, .inl (cI, 12, .inl on)), (qv, .inl (cJ, 1600, .inr (.inl vl)))] t) A) 1 6 A := by
  refine vx_ofW (cc := cX4_gate) (maxL := 5) (ret := (some .int)) (by decide) rfl ?_
  intro p e s m args below meth c s₁ B hml hxt hv
  obtain ⟨rfl, ⟨hsz, ⟨hP, hK, hNB⟩, hD0⟩, hGX⟩ := hv
  have hx := B.exec
  have hb := B.bytes
  have hr := B.returns
  have hts := atoms_spec (ws := wsX4_gate) B.pre
  have hown : s.vm.findClass RX4 = some m.cls := findClass_of_methodNamed B.named
  have hlocks := B.notSynchronized
  have hiX4 : ∀ w ∈ u_ws RX4 TX4 5, w ∈ wsX4_gate := by decide +kernel
  subst hsz
  rw [← hAe] at hGX
  have hD : va_D A [(qx, .inr (4, [.ref qc, .ref qC, .ref qS, .ref qP, .int (nI st)])), (qc, .inr (0, [.ref qk, .ref q0, .ref q1, .ref qo, .ref qv, .int (nI n), .int (nI ni), .int (nI no)])), (qk, .inl (cI, 100, .inl kd)), (q0, .inl (cI, 100, .inl s0)), (q1, .inl (cI, 100, .inl s1)), (qo, .inl (cI, 12, .inl on)), (qv, .inl (cJ, 1600, .inr (.inl vl)))] := by rw [hAe]; exact hD0.self
  have hA : ∀ q : Nat, s.heap.size ≤ q → A q := fun q h => by rw [hAe]; exact Or.inr h
  have hS : va_S A s.heap s.heap [] := va_S.rf
  have hl := lv_entry ([.ref qx, .int k, .int a, .int b]) (n := 5) (Nat.le_of_ble_eq_true rfl)
  rw [lg_entry_eq]
  generalize (lg_sl ([.ref qx, .int k, .int a, .int b]) ++ List.replicate (5 - (lg_sl ([.ref qx, .int k, .int a, .int b])).length) Slot.unset).toArray = ls at hl ⊢
  have hl : lv_has ls 5 [(0, .ref qx), (1, .int k), (2, .int a), (3, .int b)] := hl
  refine lv_aload_n hx hb dX4_gate_0 rfl (lv_at hl 0 rfl) ?_
  refine va_get (D := D) (ci := 4) (v := .ref qc) (C := RX4) (T := TX4) (N := 5) hx hb hts hiX4 hown hK hP 0 rfl rfl 0 (by decide) (hts (.fieldLink RX4 12 "FaultSearch" "chip" "LFaultSearch$Chip;") (by decide +kernel)) (fun _ h9 => h9) rfl dX4_gate_1 ?_
  refine lv_iload_n hx hb dX4_gate_4 rfl (lv_at hl 2 rfl) ?_
  have hPc := hP.sub (ws' := [(qc, .inr (0, [.ref qk, .ref q0, .ref q1, .ref qo, .ref qv, .int (nI n), .int (nI ni), .int (nI no)])), (qk, .inl (cI, 100, .inl kd)), (q0, .inl (cI, 100, .inl s0)), (q1, .inl (cI, 100, .inl s1)), (qo, .inl (cI, 12, .inl on)), (qv, .inl (cJ, 1600, .inr (.inl vl)))]) [1, 2, 3, 4, 5, 6] rfl
  refine vp_callSi (va_runV (As := [.int a]) (rest := []) ⟨hx, hb, hml, hown, hts⟩ (c_X0_hasNet l D cI cJ cZ qc qk q0 q1 qo qv kd s0 s1 on vl n ni no a) (cwV 1 hts gX4_gate_X0_hasNet rfl rfl rfl (by decide +kernel) ⟨Nat.le_of_ble_eq_true rfl, Nat.le_of_ble_eq_true rfl⟩) ⟨PR.blind, va_recv hK hPc (ci := 0) (q0 := 0) rfl rfl, fun U hU hW => ⟨rfl, PR.to hPc hK hNB hU hW⟩⟩ rfl rfl hl.1 rfl (lv_room (Nat.le_of_ble_eq_true rfl)) dX4_gate_5 ⟨Nat.le_of_ble_eq_true rfl, Nat.le_of_ble_eq_true rfl⟩).run (fun r_1 hrr_1 => ?_)
  subst hrr_1
  refine lv_if_eq (tgt := 29) hx hb dX4_gate_8 (by decide) (fun c_8 => ?_) (fun c_8 => ?_)
  · skip
    rw [zc_if0] at c_8
    obtain ⟨sa_9, hstr_9⟩ := hGX.2.1.2.1
    have hat_9 : ∀ w ∈ (vx_atS RX4 75 "java/lang/IndexOutOfBoundsException" ["java/lang/RuntimeException", "java/lang/Exception"]).filter goodWord, w ∈ wsX4_gate := by decide +kernel
    exact vx_throwS (names := ["java/lang/RuntimeException", "java/lang/Exception"]) hx hb hl0 hown (by decide +kernel) (by decide +kernel) (hts (.classLink RX4 71 "java/lang/IndexOutOfBoundsException") (by decide +kernel)) (hts (.initialized "java/lang/IndexOutOfBoundsException") (by decide +kernel)) hstr_9 (vx_hat (fun w h => hts w (hat_9 w h)) (by decide +kernel) hGX.1.use) (by decide +kernel) hGX.2.2.1 hGX.2.2.2 hS (by rw [hml]; exact hl.1) dX4_gate_29 dX4_gate_32 dX4_gate_33 dX4_gate_35 dX4_gate_38 (fun x h => (hxt x h).elim) (Nat.le_of_ble_eq_true rfl) (Nat.le_of_ble_eq_true rfl) (Nat.le_of_ble_eq_true rfl) (Nat.le_of_ble_eq_true rfl) hlocks (fun t_9 ha_9 hz_9 hk_9 => ⟨(), trivial, ⟨rfl, zx_P hP hk_9, hD⟩, zx_F hS hz_9 hk_9⟩) hS.2.2 (by decide) (by decide)
  · skip
    rw [zc_if0] at c_8
    have c_8 := Classical.not_not.mp c_8
    refine lv_iload_n hx hb dX4_gate_11 rfl (lv_at hl 1 rfl) ?_
    refine vp_callSi (va_runS (As := [.int k]) (rest := []) ⟨hx, hb, hml, hown, hts⟩ (c_X4_isOnePin l k) (va_cwS 1 hts gX4_gate_X4_isOnePin rfl rfl rfl (by decide +kernel) ⟨Nat.le_of_ble_eq_true rfl, Nat.le_of_ble_eq_true rfl⟩) ⟨zt_blind, fun U hU hW => ⟨rfl, trivial⟩⟩ rfl rfl hl.1 rfl (lv_room (Nat.le_of_ble_eq_true rfl)) dX4_gate_12 ⟨Nat.le_of_ble_eq_true rfl, Nat.le_of_ble_eq_true rfl⟩).run (fun r_2 hrr_2 => ?_)
    subst hrr_2
    refine lv_if_ne (tgt := 39) hx hb dX4_gate_15 (by decide) (fun c_15 => ?_) (fun c_15 => ?_)
    · skip
      rw [zc_if0] at c_15
      have c_15 := Classical.not_not.mp c_15
      exact absurd (gCode_1 h) (by intro h9; rcases h9 with h9 | h9; exact h9 c_8; first | exact h9.1 c_15 | exact h9.2 c_26)
    · skip
      rw [zc_if0] at c_15
      refine lv_aload_n hx hb dX4_gate_18 rfl (lv_at hl 0 rfl) ?_
      refine va_get (D := D) (ci := 4) (v := .ref qc) (C := RX4) (T := TX4) (N := 5) hx hb hts hiX4 hown hK hP 0 rfl rfl 0 (by decide) (hts (.fieldLink RX4 12 "FaultSearch" "chip" "LFaultSearch$Chip;") (by decide +kernel)) (fun _ h9 => h9) rfl dX4_gate_19 ?_
      refine lv_iload_n hx hb dX4_gate_22 rfl (lv_at hl 3 rfl) ?_
      have hPc := hP.sub (ws' := [(qc, .inr (0, [.ref qk, .ref q0, .ref q1, .ref qo, .ref qv, .int (nI n), .int (nI ni), .int (nI no)])), (qk, .inl (cI, 100, .inl kd)), (q0, .inl (cI, 100, .inl s0)), (q1, .inl (cI, 100, .inl s1)), (qo, .inl (cI, 12, .inl on)), (qv, .inl (cJ, 1600, .inr (.inl vl)))]) [1, 2, 3, 4, 5, 6] rfl
      refine vp_callSi (va_runV (As := [.int b]) (rest := []) ⟨hx, hb, hml, hown, hts⟩ (c_X0_hasNet l D cI cJ cZ qc qk q0 q1 qo qv kd s0 s1 on vl n ni no b) (cwV 1 hts gX4_gate_X0_hasNet rfl rfl rfl (by decide +kernel) ⟨Nat.le_of_ble_eq_true rfl, Nat.le_of_ble_eq_true rfl⟩) ⟨PR.blind, va_recv hK hPc (ci := 0) (q0 := 0) rfl rfl, fun U hU hW => ⟨rfl, PR.to hPc hK hNB hU hW⟩⟩ rfl rfl hl.1 rfl (lv_room (Nat.le_of_ble_eq_true rfl)) dX4_gate_23 ⟨Nat.le_of_ble_eq_true rfl, Nat.le_of_ble_eq_true rfl⟩).run (fun r_3 hrr_3 => ?_)
      subst hrr_3
      refine lv_if_ne (tgt := 39) hx hb dX4_gate_26 (by decide) (fun c_26 => ?_) (fun c_26 => ?_)
      · skip
        rw [zc_if0] at c_26
        have c_26 := Classical.not_not.mp c_26
        exact absurd (gCode_1 h) (by intro h9; rcases h9 with h9 | h9; exact h9 c_8; first | exact h9.1 c_15 | exact h9.2 c_26)
      · skip
        rw [zc_if0] at c_26
        obtain ⟨sa_9, hstr_9⟩ := hGX.2.1.2.1
        have hat_9 : ∀ w ∈ (vx_atS RX4 75 "java/lang/IndexOutOfBoundsException" ["java/lang/RuntimeException", "java/lang/Exception"]).filter goodWord, w ∈ wsX4_gate := by decide +kernel
        exact vx_throwS (names := ["java/lang/RuntimeException", "java/lang/Exception"]) hx hb hl0 hown (by decide +kernel) (by decide +kernel) (hts (.classLink RX4 71 "java/lang/IndexOutOfBoundsException") (by decide +kernel)) (hts (.initialized "java/lang/IndexOutOfBoundsException") (by decide +kernel)) hstr_9 (vx_hat (fun w h => hts w (hat_9 w h)) (by decide +kernel) hGX.1.use) (by decide +kernel) hGX.2.2.1 hGX.2.2.2 hS (by rw [hml]; exact hl.1) dX4_gate_29 dX4_gate_32 dX4_gate_33 dX4_gate_35 dX4_gate_38 (fun x h => (hxt x h).elim) (Nat.le_of_ble_eq_true rfl) (Nat.le_of_ble_eq_true rfl) (Nat.le_of_ble_eq_true rfl) (Nat.le_of_ble_eq_true rfl) hlocks (fun t_9 ha_9 hz_9 hk_9 => ⟨(), trivial, ⟨rfl, zx_P hP hk_9, hD⟩, zx_F hS hz_9 hk_9⟩) hS.2.2 (by decide) (by decide)

set_option maxHeartbeats 4000000 in
set_option maxRecDepth 100000 in
theorem c_X4_gate_no2 (l : Launch) (hl0 : l.stackTraces = false) (D : va_G) (cI cJ cZ : ClassId) (qx : Nat) (qc : Nat) (qk : Nat) (q0 : Nat) (q1 : Nat) (qo : Nat) (qv : Nat) (kd : Nat → Int32) (s0 : Nat → Int32) (s1 : Nat → Int32) (on : Nat → Int32) (vl : Nat → Int64) (n : Nat) (ni : Nat) (no : Nat) (qC : Nat) (qS : Nat) (qP : Nat) (st : Nat) (k : Int32) (a : Int32) (b : Int32) (sz : Nat) (A : Nat → Prop) (hAe : A = va_A [(qx, .inr (4, [.ref qc, .ref qC, .ref qS, .ref qP, .int (nI st)])), (qc, .inr (0, [.ref qk, .ref q0, .ref q1, .ref qo, .ref qv, .int (nI n), .int (nI ni), .int (nI no)])), (qk, .inl (cI, 100, .inl kd)), (q0, .inl (cI, 100, .inl s0)), (q1, .inl (cI, 100, .inl s1)), (qo, .inl (cI, 12, .inl on)), (qv, .inl (cJ, 1600, .inr (.inl vl)))] sz) (h : gCode n k a b = 2) (h2 : n ≤ 100) : vx_Met l yX4_gate wsX4_gate ({ frames := 6, cells := 1, slots := 6, locals := 90 } : Room) (va_Pc [.ref qx, .int k, .int a, .int b] (PX D cI cJ cZ [(qx, .inr (4, [.ref qc, .ref qC, .ref qS, .ref qP, .int (nI st)])), (qc, .inr (0, [.ref qk, .ref q0, .ref q1, .ref qo, .ref qv, .int (nI n), .int (nI ni), .int (nI no)])), (qk, .inl (cI, 100, .inl kd)), (q0, .inl (cI, 100, .inl s0)), (q1, .inl (cI, 100, .inl s1)), (qo, .inl (cI, 12, .inl on)), (qv, .inl (cJ, 1600, .inr (.inl vl)))] sz)) (va_Qi (fun (_ : Int32) (_ : Unit) => False) (fun _ _ => True) A) (vx_X (fun _u9 : Unit => True) (fun E (_u9 : Unit) t => E = "java/lang/IllegalStateException" ∧ PQ D A [(qx, .inr (4, [.ref qc, .ref qC, .ref qS, .ref qP, .int (nI st)])), (qc, .inr (0, [.ref qk, .ref q0, .ref q1, .ref qo, .ref qv, .int (nI n), .int (nI ni), .int (nI no)])), (qk, .inl (cI, 100, .inl kd)), (q0, .inl (cI, 100, .inl s0)), (q1, .inl (cI, 100, .inl s1)), (qo, .inl (cI, 12, .inl on)), (qv, .inl (cJ, 1600, .inr (.inl vl)))] t) A) 1 6 A := by
  refine vx_ofW (cc := cX4_gate) (maxL := 5) (ret := (some .int)) (by decide) rfl ?_
  intro p e s m args below meth c s₁ B hml hxt hv
  obtain ⟨rfl, ⟨hsz, ⟨hP, hK, hNB⟩, hD0⟩, hGX⟩ := hv
  have hx := B.exec
  have hb := B.bytes
  have hr := B.returns
  have hts := atoms_spec (ws := wsX4_gate) B.pre
  have hown : s.vm.findClass RX4 = some m.cls := findClass_of_methodNamed B.named
  have hlocks := B.notSynchronized
  have hiX0 : ∀ w ∈ u_ws RX0 TX0 8, w ∈ wsX4_gate := by decide +kernel
  have hiX4 : ∀ w ∈ u_ws RX4 TX4 5, w ∈ wsX4_gate := by decide +kernel
  subst hsz
  rw [← hAe] at hGX
  have hD : va_D A [(qx, .inr (4, [.ref qc, .ref qC, .ref qS, .ref qP, .int (nI st)])), (qc, .inr (0, [.ref qk, .ref q0, .ref q1, .ref qo, .ref qv, .int (nI n), .int (nI ni), .int (nI no)])), (qk, .inl (cI, 100, .inl kd)), (q0, .inl (cI, 100, .inl s0)), (q1, .inl (cI, 100, .inl s1)), (qo, .inl (cI, 12, .inl on)), (qv, .inl (cJ, 1600, .inr (.inl vl)))] := by rw [hAe]; exact hD0.self
  have hA : ∀ q : Nat, s.heap.size ≤ q → A q := fun q h => by rw [hAe]; exact Or.inr h
  have hS : va_S A s.heap s.heap [] := va_S.rf
  have hl := lv_entry ([.ref qx, .int k, .int a, .int b]) (n := 5) (Nat.le_of_ble_eq_true rfl)
  rw [lg_entry_eq]
  generalize (lg_sl ([.ref qx, .int k, .int a, .int b]) ++ List.replicate (5 - (lg_sl ([.ref qx, .int k, .int a, .int b])).length) Slot.unset).toArray = ls at hl ⊢
  have hl : lv_has ls 5 [(0, .ref qx), (1, .int k), (2, .int a), (3, .int b)] := hl
  refine lv_aload_n hx hb dX4_gate_0 rfl (lv_at hl 0 rfl) ?_
  refine va_get (D := D) (ci := 4) (v := .ref qc) (C := RX4) (T := TX4) (N := 5) hx hb hts hiX4 hown hK hP 0 rfl rfl 0 (by decide) (hts (.fieldLink RX4 12 "FaultSearch" "chip" "LFaultSearch$Chip;") (by decide +kernel)) (fun _ h9 => h9) rfl dX4_gate_1 ?_
  refine lv_iload_n hx hb dX4_gate_4 rfl (lv_at hl 2 rfl) ?_
  have hPc := hP.sub (ws' := [(qc, .inr (0, [.ref qk, .ref q0, .ref q1, .ref qo, .ref qv, .int (nI n), .int (nI ni), .int (nI no)])), (qk, .inl (cI, 100, .inl kd)), (q0, .inl (cI, 100, .inl s0)), (q1, .inl (cI, 100, .inl s1)), (qo, .inl (cI, 12, .inl on)), (qv, .inl (cJ, 1600, .inr (.inl vl)))]) [1, 2, 3, 4, 5, 6] rfl
  refine vp_callSi (va_runV (As := [.int a]) (rest := []) ⟨hx, hb, hml, hown, hts⟩ (c_X0_hasNet l D cI cJ cZ qc qk q0 q1 qo qv kd s0 s1 on vl n ni no a) (cwV 1 hts gX4_gate_X0_hasNet rfl rfl rfl (by decide +kernel) ⟨Nat.le_of_ble_eq_true rfl, Nat.le_of_ble_eq_true rfl⟩) ⟨PR.blind, va_recv hK hPc (ci := 0) (q0 := 0) rfl rfl, fun U hU hW => ⟨rfl, PR.to hPc hK hNB hU hW⟩⟩ rfl rfl hl.1 rfl (lv_room (Nat.le_of_ble_eq_true rfl)) dX4_gate_5 ⟨Nat.le_of_ble_eq_true rfl, Nat.le_of_ble_eq_true rfl⟩).run (fun r_1 hrr_1 => ?_)
  subst hrr_1
  refine lv_if_eq (tgt := 29) hx hb dX4_gate_8 (by decide) (fun c_8 => ?_) (fun c_8 => ?_)
  · skip
    rw [zc_if0] at c_8
    exact absurd (gCode_a h (by decide)) (by intro h9; first | exact c_8 h9.1 | (rcases h9.2 with h8 | h8; exact c_15 h8; exact c_26 h8))
  · skip
    rw [zc_if0] at c_8
    have c_8 := Classical.not_not.mp c_8
    refine lv_iload_n hx hb dX4_gate_11 rfl (lv_at hl 1 rfl) ?_
    refine vp_callSi (va_runS (As := [.int k]) (rest := []) ⟨hx, hb, hml, hown, hts⟩ (c_X4_isOnePin l k) (va_cwS 1 hts gX4_gate_X4_isOnePin rfl rfl rfl (by decide +kernel) ⟨Nat.le_of_ble_eq_true rfl, Nat.le_of_ble_eq_true rfl⟩) ⟨zt_blind, fun U hU hW => ⟨rfl, trivial⟩⟩ rfl rfl hl.1 rfl (lv_room (Nat.le_of_ble_eq_true rfl)) dX4_gate_12 ⟨Nat.le_of_ble_eq_true rfl, Nat.le_of_ble_eq_true rfl⟩).run (fun r_2 hrr_2 => ?_)
    subst hrr_2
    refine lv_if_ne (tgt := 39) hx hb dX4_gate_15 (by decide) (fun c_15 => ?_) (fun c_15 => ?_)
    · skip
      rw [zc_if0] at c_15
      have c_15 := Classical.not_not.mp c_15
      refine lv_aload_n hx hb dX4_gate_39 rfl (lv_at hl 0 rfl) ?_
      refine va_get (D := D) (ci := 4) (v := .ref qc) (C := RX4) (T := TX4) (N := 5) hx hb hts hiX4 hown hK hP 0 rfl rfl 0 (by decide) (hts (.fieldLink RX4 12 "FaultSearch" "chip" "LFaultSearch$Chip;") (by decide +kernel)) (fun _ h9 => h9) rfl dX4_gate_40 ?_
      refine va_get (D := D) (ci := 0) (v := .int (nI n)) (C := RX0) (T := TX0) (N := 8) hx hb hts hiX0 hown hK hP 1 rfl rfl 5 (by decide) (hts (.fieldLink RX4 47 "FaultSearch$Chip" "nets" "I") (by decide +kernel)) (fun _ h9 => h9) rfl dX4_gate_43 ?_
      refine lv_bipush (v := (nI 100)) hx hb dX4_gate_46 (by decide) ?_
      refine lv_icmp_lt (tgt := 61) hx hb dX4_gate_48 (by decide) (fun c_48 => ?_) (fun c_48 => ?_)
      · skip
        rw [zc_lt (by omega) (by omega)] at c_48
        exact absurd (gCode_2 h) (by omega)
      · skip
        rw [zc_lt (by omega) (by omega)] at c_48
        obtain ⟨sa_9, hstr_9⟩ := hGX.2.1.2.2.1
        have hat_9 : ∀ w ∈ (vx_atS RX4 54 "java/lang/IllegalStateException" ["java/lang/RuntimeException", "java/lang/Exception"]).filter goodWord, w ∈ wsX4_gate := by decide +kernel
        exact vx_throwS (names := ["java/lang/RuntimeException", "java/lang/Exception"]) hx hb hl0 hown (by decide +kernel) (by decide +kernel) (hts (.classLink RX4 50 "java/lang/IllegalStateException") (by decide +kernel)) (hts (.initialized "java/lang/IllegalStateException") (by decide +kernel)) hstr_9 (vx_hat (fun w h => hts w (hat_9 w h)) (by decide +kernel) hGX.1.use) (by decide +kernel) hGX.2.2.1 hGX.2.2.2 hS (by rw [hml]; exact hl.1) dX4_gate_51 dX4_gate_54 dX4_gate_55 dX4_gate_57 dX4_gate_60 (fun x h => (hxt x h).elim) (Nat.le_of_ble_eq_true rfl) (Nat.le_of_ble_eq_true rfl) (Nat.le_of_ble_eq_true rfl) (Nat.le_of_ble_eq_true rfl) hlocks (fun t_9 ha_9 hz_9 hk_9 => ⟨(), trivial, ⟨rfl, zx_P hP hk_9, hD⟩, zx_F hS hz_9 hk_9⟩) hS.2.2 (by decide) (by decide)
    · skip
      rw [zc_if0] at c_15
      refine lv_aload_n hx hb dX4_gate_18 rfl (lv_at hl 0 rfl) ?_
      refine va_get (D := D) (ci := 4) (v := .ref qc) (C := RX4) (T := TX4) (N := 5) hx hb hts hiX4 hown hK hP 0 rfl rfl 0 (by decide) (hts (.fieldLink RX4 12 "FaultSearch" "chip" "LFaultSearch$Chip;") (by decide +kernel)) (fun _ h9 => h9) rfl dX4_gate_19 ?_
      refine lv_iload_n hx hb dX4_gate_22 rfl (lv_at hl 3 rfl) ?_
      have hPc := hP.sub (ws' := [(qc, .inr (0, [.ref qk, .ref q0, .ref q1, .ref qo, .ref qv, .int (nI n), .int (nI ni), .int (nI no)])), (qk, .inl (cI, 100, .inl kd)), (q0, .inl (cI, 100, .inl s0)), (q1, .inl (cI, 100, .inl s1)), (qo, .inl (cI, 12, .inl on)), (qv, .inl (cJ, 1600, .inr (.inl vl)))]) [1, 2, 3, 4, 5, 6] rfl
      refine vp_callSi (va_runV (As := [.int b]) (rest := []) ⟨hx, hb, hml, hown, hts⟩ (c_X0_hasNet l D cI cJ cZ qc qk q0 q1 qo qv kd s0 s1 on vl n ni no b) (cwV 1 hts gX4_gate_X0_hasNet rfl rfl rfl (by decide +kernel) ⟨Nat.le_of_ble_eq_true rfl, Nat.le_of_ble_eq_true rfl⟩) ⟨PR.blind, va_recv hK hPc (ci := 0) (q0 := 0) rfl rfl, fun U hU hW => ⟨rfl, PR.to hPc hK hNB hU hW⟩⟩ rfl rfl hl.1 rfl (lv_room (Nat.le_of_ble_eq_true rfl)) dX4_gate_23 ⟨Nat.le_of_ble_eq_true rfl, Nat.le_of_ble_eq_true rfl⟩).run (fun r_3 hrr_3 => ?_)
      subst hrr_3
      refine lv_if_ne (tgt := 39) hx hb dX4_gate_26 (by decide) (fun c_26 => ?_) (fun c_26 => ?_)
      · skip
        rw [zc_if0] at c_26
        have c_26 := Classical.not_not.mp c_26
        refine lv_aload_n hx hb dX4_gate_39 rfl (lv_at hl 0 rfl) ?_
        refine va_get (D := D) (ci := 4) (v := .ref qc) (C := RX4) (T := TX4) (N := 5) hx hb hts hiX4 hown hK hP 0 rfl rfl 0 (by decide) (hts (.fieldLink RX4 12 "FaultSearch" "chip" "LFaultSearch$Chip;") (by decide +kernel)) (fun _ h9 => h9) rfl dX4_gate_40 ?_
        refine va_get (D := D) (ci := 0) (v := .int (nI n)) (C := RX0) (T := TX0) (N := 8) hx hb hts hiX0 hown hK hP 1 rfl rfl 5 (by decide) (hts (.fieldLink RX4 47 "FaultSearch$Chip" "nets" "I") (by decide +kernel)) (fun _ h9 => h9) rfl dX4_gate_43 ?_
        refine lv_bipush (v := (nI 100)) hx hb dX4_gate_46 (by decide) ?_
        refine lv_icmp_lt (tgt := 61) hx hb dX4_gate_48 (by decide) (fun c_48 => ?_) (fun c_48 => ?_)
        · skip
          rw [zc_lt (by omega) (by omega)] at c_48
          exact absurd (gCode_2 h) (by omega)
        · skip
          rw [zc_lt (by omega) (by omega)] at c_48
          obtain ⟨sa_9, hstr_9⟩ := hGX.2.1.2.2.1
          have hat_9 : ∀ w ∈ (vx_atS RX4 54 "java/lang/IllegalStateException" ["java/lang/RuntimeException", "java/lang/Exception"]).filter goodWord, w ∈ wsX4_gate := by decide +kernel
          exact vx_throwS (names := ["java/lang/RuntimeException", "java/lang/Exception"]) hx hb hl0 hown (by decide +kernel) (by decide +kernel) (hts (.classLink RX4 50 "java/lang/IllegalStateException") (by decide +kernel)) (hts (.initialized "java/lang/IllegalStateException") (by decide +kernel)) hstr_9 (vx_hat (fun w h => hts w (hat_9 w h)) (by decide +kernel) hGX.1.use) (by decide +kernel) hGX.2.2.1 hGX.2.2.2 hS (by rw [hml]; exact hl.1) dX4_gate_51 dX4_gate_54 dX4_gate_55 dX4_gate_57 dX4_gate_60 (fun x h => (hxt x h).elim) (Nat.le_of_ble_eq_true rfl) (Nat.le_of_ble_eq_true rfl) (Nat.le_of_ble_eq_true rfl) (Nat.le_of_ble_eq_true rfl) hlocks (fun t_9 ha_9 hz_9 hk_9 => ⟨(), trivial, ⟨rfl, zx_P hP hk_9, hD⟩, zx_F hS hz_9 hk_9⟩) hS.2.2 (by decide) (by decide)
      · skip
        rw [zc_if0] at c_26
        exact absurd (gCode_a h (by decide)) (by intro h9; first | exact c_8 h9.1 | (rcases h9.2 with h8 | h8; exact c_15 h8; exact c_26 h8))

set_option maxHeartbeats 4000000 in
set_option maxRecDepth 100000 in
theorem c_X4_gate_no3 (l : Launch) (hl0 : l.stackTraces = false) (D : va_G) (cI cJ cZ : ClassId) (qx : Nat) (qc : Nat) (qk : Nat) (q0 : Nat) (q1 : Nat) (qo : Nat) (qv : Nat) (kd : Nat → Int32) (s0 : Nat → Int32) (s1 : Nat → Int32) (on : Nat → Int32) (vl : Nat → Int64) (n : Nat) (ni : Nat) (no : Nat) (qC : Nat) (qS : Nat) (qP : Nat) (st : Nat) (k : Int32) (a : Int32) (b : Int32) (sz : Nat) (A : Nat → Prop) (hAe : A = va_A [(qx, .inr (4, [.ref qc, .ref qC, .ref qS, .ref qP, .int (nI st)])), (qc, .inr (0, [.ref qk, .ref q0, .ref q1, .ref qo, .ref qv, .int (nI n), .int (nI ni), .int (nI no)])), (qk, .inl (cI, 100, .inl kd)), (q0, .inl (cI, 100, .inl s0)), (q1, .inl (cI, 100, .inl s1)), (qo, .inl (cI, 12, .inl on)), (qv, .inl (cJ, 1600, .inr (.inl vl)))] sz) (h : gCode n k a b = 3) (h2 : n ≤ 100) : vx_Met l yX4_gate wsX4_gate ({ frames := 6, cells := 1, slots := 6, locals := 90 } : Room) (va_Pc [.ref qx, .int k, .int a, .int b] (PX D cI cJ cZ [(qx, .inr (4, [.ref qc, .ref qC, .ref qS, .ref qP, .int (nI st)])), (qc, .inr (0, [.ref qk, .ref q0, .ref q1, .ref qo, .ref qv, .int (nI n), .int (nI ni), .int (nI no)])), (qk, .inl (cI, 100, .inl kd)), (q0, .inl (cI, 100, .inl s0)), (q1, .inl (cI, 100, .inl s1)), (qo, .inl (cI, 12, .inl on)), (qv, .inl (cJ, 1600, .inr (.inl vl)))] sz)) (va_Qi (fun (_ : Int32) (_ : Unit) => False) (fun _ _ => True) A) (vx_X (fun _u9 : Unit => True) (fun E (_u9 : Unit) t => E = "java/lang/IllegalArgumentException" ∧ PQ D A [(qx, .inr (4, [.ref qc, .ref qC, .ref qS, .ref qP, .int (nI st)])), (qc, .inr (0, [.ref qk, .ref q0, .ref q1, .ref qo, .ref qv, .int (nI n), .int (nI ni), .int (nI no)])), (qk, .inl (cI, 100, .inl kd)), (q0, .inl (cI, 100, .inl s0)), (q1, .inl (cI, 100, .inl s1)), (qo, .inl (cI, 12, .inl on)), (qv, .inl (cJ, 1600, .inr (.inl vl)))] t) A) 1 6 A := by
  refine vx_ofW (cc := cX4_gate) (maxL := 5) (ret := (some .int)) (by decide) rfl ?_
  intro p e s m args below meth c s₁ B hml hxt hv
  obtain ⟨rfl, ⟨hsz, ⟨hP, hK, hNB⟩, hD0⟩, hGX⟩ := hv
  have hx := B.exec
  have hb := B.bytes
  have hr := B.returns
  have hts := atoms_spec (ws := wsX4_gate) B.pre
  have hown : s.vm.findClass RX4 = some m.cls := findClass_of_methodNamed B.named
  have hlocks := B.notSynchronized
  have hiX0 : ∀ w ∈ u_ws RX0 TX0 8, w ∈ wsX4_gate := by decide +kernel
  have hiX4 : ∀ w ∈ u_ws RX4 TX4 5, w ∈ wsX4_gate := by decide +kernel
  subst hsz
  rw [← hAe] at hGX
  have hD : va_D A [(qx, .inr (4, [.ref qc, .ref qC, .ref qS, .ref qP, .int (nI st)])), (qc, .inr (0, [.ref qk, .ref q0, .ref q1, .ref qo, .ref qv, .int (nI n), .int (nI ni), .int (nI no)])), (qk, .inl (cI, 100, .inl kd)), (q0, .inl (cI, 100, .inl s0)), (q1, .inl (cI, 100, .inl s1)), (qo, .inl (cI, 12, .inl on)), (qv, .inl (cJ, 1600, .inr (.inl vl)))] := by rw [hAe]; exact hD0.self
  have hA : ∀ q : Nat, s.heap.size ≤ q → A q := fun q h => by rw [hAe]; exact Or.inr h
  have hS : va_S A s.heap s.heap [] := va_S.rf
  have hl := lv_entry ([.ref qx, .int k, .int a, .int b]) (n := 5) (Nat.le_of_ble_eq_true rfl)
  rw [lg_entry_eq]
  generalize (lg_sl ([.ref qx, .int k, .int a, .int b]) ++ List.replicate (5 - (lg_sl ([.ref qx, .int k, .int a, .int b])).length) Slot.unset).toArray = ls at hl ⊢
  have hl : lv_has ls 5 [(0, .ref qx), (1, .int k), (2, .int a), (3, .int b)] := hl
  refine lv_aload_n hx hb dX4_gate_0 rfl (lv_at hl 0 rfl) ?_
  refine va_get (D := D) (ci := 4) (v := .ref qc) (C := RX4) (T := TX4) (N := 5) hx hb hts hiX4 hown hK hP 0 rfl rfl 0 (by decide) (hts (.fieldLink RX4 12 "FaultSearch" "chip" "LFaultSearch$Chip;") (by decide +kernel)) (fun _ h9 => h9) rfl dX4_gate_1 ?_
  refine lv_iload_n hx hb dX4_gate_4 rfl (lv_at hl 2 rfl) ?_
  have hPc := hP.sub (ws' := [(qc, .inr (0, [.ref qk, .ref q0, .ref q1, .ref qo, .ref qv, .int (nI n), .int (nI ni), .int (nI no)])), (qk, .inl (cI, 100, .inl kd)), (q0, .inl (cI, 100, .inl s0)), (q1, .inl (cI, 100, .inl s1)), (qo, .inl (cI, 12, .inl on)), (qv, .inl (cJ, 1600, .inr (.inl vl)))]) [1, 2, 3, 4, 5, 6] rfl
  refine vp_callSi (va_runV (As := [.int a]) (rest := []) ⟨hx, hb, hml, hown, hts⟩ (c_X0_hasNet l D cI cJ cZ qc qk q0 q1 qo qv kd s0 s1 on vl n ni no a) (cwV 1 hts gX4_gate_X0_hasNet rfl rfl rfl (by decide +kernel) ⟨Nat.le_of_ble_eq_true rfl, Nat.le_of_ble_eq_true rfl⟩) ⟨PR.blind, va_recv hK hPc (ci := 0) (q0 := 0) rfl rfl, fun U hU hW => ⟨rfl, PR.to hPc hK hNB hU hW⟩⟩ rfl rfl hl.1 rfl (lv_room (Nat.le_of_ble_eq_true rfl)) dX4_gate_5 ⟨Nat.le_of_ble_eq_true rfl, Nat.le_of_ble_eq_true rfl⟩).run (fun r_1 hrr_1 => ?_)
  subst hrr_1
  refine lv_if_eq (tgt := 29) hx hb dX4_gate_8 (by decide) (fun c_8 => ?_) (fun c_8 => ?_)
  · skip
    rw [zc_if0] at c_8
    exact absurd (gCode_a h (by decide)) (by intro h9; first | exact c_8 h9.1 | (rcases h9.2 with h8 | h8; exact c_15 h8; exact c_26 h8))
  · skip
    rw [zc_if0] at c_8
    have c_8 := Classical.not_not.mp c_8
    refine lv_iload_n hx hb dX4_gate_11 rfl (lv_at hl 1 rfl) ?_
    refine vp_callSi (va_runS (As := [.int k]) (rest := []) ⟨hx, hb, hml, hown, hts⟩ (c_X4_isOnePin l k) (va_cwS 1 hts gX4_gate_X4_isOnePin rfl rfl rfl (by decide +kernel) ⟨Nat.le_of_ble_eq_true rfl, Nat.le_of_ble_eq_true rfl⟩) ⟨zt_blind, fun U hU hW => ⟨rfl, trivial⟩⟩ rfl rfl hl.1 rfl (lv_room (Nat.le_of_ble_eq_true rfl)) dX4_gate_12 ⟨Nat.le_of_ble_eq_true rfl, Nat.le_of_ble_eq_true rfl⟩).run (fun r_2 hrr_2 => ?_)
    subst hrr_2
    refine lv_if_ne (tgt := 39) hx hb dX4_gate_15 (by decide) (fun c_15 => ?_) (fun c_15 => ?_)
    · skip
      rw [zc_if0] at c_15
      have c_15 := Classical.not_not.mp c_15
      refine lv_aload_n hx hb dX4_gate_39 rfl (lv_at hl 0 rfl) ?_
      refine va_get (D := D) (ci := 4) (v := .ref qc) (C := RX4) (T := TX4) (N := 5) hx hb hts hiX4 hown hK hP 0 rfl rfl 0 (by decide) (hts (.fieldLink RX4 12 "FaultSearch" "chip" "LFaultSearch$Chip;") (by decide +kernel)) (fun _ h9 => h9) rfl dX4_gate_40 ?_
      refine va_get (D := D) (ci := 0) (v := .int (nI n)) (C := RX0) (T := TX0) (N := 8) hx hb hts hiX0 hown hK hP 1 rfl rfl 5 (by decide) (hts (.fieldLink RX4 47 "FaultSearch$Chip" "nets" "I") (by decide +kernel)) (fun _ h9 => h9) rfl dX4_gate_43 ?_
      refine lv_bipush (v := (nI 100)) hx hb dX4_gate_46 (by decide) ?_
      refine lv_icmp_lt (tgt := 61) hx hb dX4_gate_48 (by decide) (fun c_48 => ?_) (fun c_48 => ?_)
      · skip
        rw [zc_lt (by omega) (by omega)] at c_48
        refine lv_iload_n hx hb dX4_gate_61 rfl (lv_at hl 1 rfl) ?_
        refine lv_if_lt (tgt := 71) hx hb dX4_gate_62 (by decide) (fun c_62 => ?_) (fun c_62 => ?_)
        · skip
          obtain ⟨sa_9, hstr_9⟩ := hGX.2.1.2.2.2.1
          have hat_9 : ∀ w ∈ (vx_atS RX4 82 "java/lang/IllegalArgumentException" ["java/lang/RuntimeException", "java/lang/Exception"]).filter goodWord, w ∈ wsX4_gate := by decide +kernel
          exact vx_throwS (names := ["java/lang/RuntimeException", "java/lang/Exception"]) hx hb hl0 hown (by decide +kernel) (by decide +kernel) (hts (.classLink RX4 78 "java/lang/IllegalArgumentException") (by decide +kernel)) (hts (.initialized "java/lang/IllegalArgumentException") (by decide +kernel)) hstr_9 (vx_hat (fun w h => hts w (hat_9 w h)) (by decide +kernel) hGX.1.use) (by decide +kernel) hGX.2.2.1 hGX.2.2.2 hS (by rw [hml]; exact hl.1) dX4_gate_71 dX4_gate_74 dX4_gate_75 dX4_gate_77 dX4_gate_80 (fun x h => (hxt x h).elim) (Nat.le_of_ble_eq_true rfl) (Nat.le_of_ble_eq_true rfl) (Nat.le_of_ble_eq_true rfl) (Nat.le_of_ble_eq_true rfl) hlocks (fun t_9 ha_9 hz_9 hk_9 => ⟨(), trivial, ⟨rfl, zx_P hP hk_9, hD⟩, zx_F hS hz_9 hk_9⟩) hS.2.2 (by decide) (by decide)
        · skip
          refine lv_iload_n hx hb dX4_gate_65 rfl (lv_at hl 1 rfl) ?_
          refine lv_bipush (v := (nI 6)) hx hb dX4_gate_66 (by decide) ?_
          refine lv_icmp_le (tgt := 81) hx hb dX4_gate_68 (by decide) (fun c_68 => ?_) (fun c_68 => ?_)
          · skip
            exact absurd (gCode_3 h).2 (by intro h9; rcases h9 with h9 | h9; exact c_62 h9; exact h9 c_68)
          · skip
            obtain ⟨sa_9, hstr_9⟩ := hGX.2.1.2.2.2.1
            have hat_9 : ∀ w ∈ (vx_atS RX4 82 "java/lang/IllegalArgumentException" ["java/lang/RuntimeException", "java/lang/Exception"]).filter goodWord, w ∈ wsX4_gate := by decide +kernel
            exact vx_throwS (names := ["java/lang/RuntimeException", "java/lang/Exception"]) hx hb hl0 hown (by decide +kernel) (by decide +kernel) (hts (.classLink RX4 78 "java/lang/IllegalArgumentException") (by decide +kernel)) (hts (.initialized "java/lang/IllegalArgumentException") (by decide +kernel)) hstr_9 (vx_hat (fun w h => hts w (hat_9 w h)) (by decide +kernel) hGX.1.use) (by decide +kernel) hGX.2.2.1 hGX.2.2.2 hS (by rw [hml]; exact hl.1) dX4_gate_71 dX4_gate_74 dX4_gate_75 dX4_gate_77 dX4_gate_80 (fun x h => (hxt x h).elim) (Nat.le_of_ble_eq_true rfl) (Nat.le_of_ble_eq_true rfl) (Nat.le_of_ble_eq_true rfl) (Nat.le_of_ble_eq_true rfl) hlocks (fun t_9 ha_9 hz_9 hk_9 => ⟨(), trivial, ⟨rfl, zx_P hP hk_9, hD⟩, zx_F hS hz_9 hk_9⟩) hS.2.2 (by decide) (by decide)
      · skip
        rw [zc_lt (by omega) (by omega)] at c_48
        exact absurd (by omega) (gCode_3 h).1
    · skip
      rw [zc_if0] at c_15
      refine lv_aload_n hx hb dX4_gate_18 rfl (lv_at hl 0 rfl) ?_
      refine va_get (D := D) (ci := 4) (v := .ref qc) (C := RX4) (T := TX4) (N := 5) hx hb hts hiX4 hown hK hP 0 rfl rfl 0 (by decide) (hts (.fieldLink RX4 12 "FaultSearch" "chip" "LFaultSearch$Chip;") (by decide +kernel)) (fun _ h9 => h9) rfl dX4_gate_19 ?_
      refine lv_iload_n hx hb dX4_gate_22 rfl (lv_at hl 3 rfl) ?_
      have hPc := hP.sub (ws' := [(qc, .inr (0, [.ref qk, .ref q0, .ref q1, .ref qo, .ref qv, .int (nI n), .int (nI ni), .int (nI no)])), (qk, .inl (cI, 100, .inl kd)), (q0, .inl (cI, 100, .inl s0)), (q1, .inl (cI, 100, .inl s1)), (qo, .inl (cI, 12, .inl on)), (qv, .inl (cJ, 1600, .inr (.inl vl)))]) [1, 2, 3, 4, 5, 6] rfl
      refine vp_callSi (va_runV (As := [.int b]) (rest := []) ⟨hx, hb, hml, hown, hts⟩ (c_X0_hasNet l D cI cJ cZ qc qk q0 q1 qo qv kd s0 s1 on vl n ni no b) (cwV 1 hts gX4_gate_X0_hasNet rfl rfl rfl (by decide +kernel) ⟨Nat.le_of_ble_eq_true rfl, Nat.le_of_ble_eq_true rfl⟩) ⟨PR.blind, va_recv hK hPc (ci := 0) (q0 := 0) rfl rfl, fun U hU hW => ⟨rfl, PR.to hPc hK hNB hU hW⟩⟩ rfl rfl hl.1 rfl (lv_room (Nat.le_of_ble_eq_true rfl)) dX4_gate_23 ⟨Nat.le_of_ble_eq_true rfl, Nat.le_of_ble_eq_true rfl⟩).run (fun r_3 hrr_3 => ?_)
      subst hrr_3
      refine lv_if_ne (tgt := 39) hx hb dX4_gate_26 (by decide) (fun c_26 => ?_) (fun c_26 => ?_)
      · skip
        rw [zc_if0] at c_26
        have c_26 := Classical.not_not.mp c_26
        refine lv_aload_n hx hb dX4_gate_39 rfl (lv_at hl 0 rfl) ?_
        refine va_get (D := D) (ci := 4) (v := .ref qc) (C := RX4) (T := TX4) (N := 5) hx hb hts hiX4 hown hK hP 0 rfl rfl 0 (by decide) (hts (.fieldLink RX4 12 "FaultSearch" "chip" "LFaultSearch$Chip;") (by decide +kernel)) (fun _ h9 => h9) rfl dX4_gate_40 ?_
        refine va_get (D := D) (ci := 0) (v := .int (nI n)) (C := RX0) (T := TX0) (N := 8) hx hb hts hiX0 hown hK hP 1 rfl rfl 5 (by decide) (hts (.fieldLink RX4 47 "FaultSearch$Chip" "nets" "I") (by decide +kernel)) (fun _ h9 => h9) rfl dX4_gate_43 ?_
        refine lv_bipush (v := (nI 100)) hx hb dX4_gate_46 (by decide) ?_
        refine lv_icmp_lt (tgt := 61) hx hb dX4_gate_48 (by decide) (fun c_48 => ?_) (fun c_48 => ?_)
        · skip
          rw [zc_lt (by omega) (by omega)] at c_48
          refine lv_iload_n hx hb dX4_gate_61 rfl (lv_at hl 1 rfl) ?_
          refine lv_if_lt (tgt := 71) hx hb dX4_gate_62 (by decide) (fun c_62 => ?_) (fun c_62 => ?_)
          · skip
            obtain ⟨sa_9, hstr_9⟩ := hGX.2.1.2.2.2.1
            have hat_9 : ∀ w ∈ (vx_atS RX4 82 "java/lang/IllegalArgumentException" ["java/lang/RuntimeException", "java/lang/Exception"]).filter goodWord, w ∈ wsX4_gate := by decide +kernel
            exact vx_throwS (names := ["java/lang/RuntimeException", "java/lang/Exception"]) hx hb hl0 hown (by decide +kernel) (by decide +kernel) (hts (.classLink RX4 78 "java/lang/IllegalArgumentException") (by decide +kernel)) (hts (.initialized "java/lang/IllegalArgumentException") (by decide +kernel)) hstr_9 (vx_hat (fun w h => hts w (hat_9 w h)) (by decide +kernel) hGX.1.use) (by decide +kernel) hGX.2.2.1 hGX.2.2.2 hS (by rw [hml]; exact hl.1) dX4_gate_71 dX4_gate_74 dX4_gate_75 dX4_gate_77 dX4_gate_80 (fun x h => (hxt x h).elim) (Nat.le_of_ble_eq_true rfl) (Nat.le_of_ble_eq_true rfl) (Nat.le_of_ble_eq_true rfl) (Nat.le_of_ble_eq_true rfl) hlocks (fun t_9 ha_9 hz_9 hk_9 => ⟨(), trivial, ⟨rfl, zx_P hP hk_9, hD⟩, zx_F hS hz_9 hk_9⟩) hS.2.2 (by decide) (by decide)
          · skip
            refine lv_iload_n hx hb dX4_gate_65 rfl (lv_at hl 1 rfl) ?_
            refine lv_bipush (v := (nI 6)) hx hb dX4_gate_66 (by decide) ?_
            refine lv_icmp_le (tgt := 81) hx hb dX4_gate_68 (by decide) (fun c_68 => ?_) (fun c_68 => ?_)
            · skip
              exact absurd (gCode_3 h).2 (by intro h9; rcases h9 with h9 | h9; exact c_62 h9; exact h9 c_68)
            · skip
              obtain ⟨sa_9, hstr_9⟩ := hGX.2.1.2.2.2.1
              have hat_9 : ∀ w ∈ (vx_atS RX4 82 "java/lang/IllegalArgumentException" ["java/lang/RuntimeException", "java/lang/Exception"]).filter goodWord, w ∈ wsX4_gate := by decide +kernel
              exact vx_throwS (names := ["java/lang/RuntimeException", "java/lang/Exception"]) hx hb hl0 hown (by decide +kernel) (by decide +kernel) (hts (.classLink RX4 78 "java/lang/IllegalArgumentException") (by decide +kernel)) (hts (.initialized "java/lang/IllegalArgumentException") (by decide +kernel)) hstr_9 (vx_hat (fun w h => hts w (hat_9 w h)) (by decide +kernel) hGX.1.use) (by decide +kernel) hGX.2.2.1 hGX.2.2.2 hS (by rw [hml]; exact hl.1) dX4_gate_71 dX4_gate_74 dX4_gate_75 dX4_gate_77 dX4_gate_80 (fun x h => (hxt x h).elim) (Nat.le_of_ble_eq_true rfl) (Nat.le_of_ble_eq_true rfl) (Nat.le_of_ble_eq_true rfl) (Nat.le_of_ble_eq_true rfl) hlocks (fun t_9 ha_9 hz_9 hk_9 => ⟨(), trivial, ⟨rfl, zx_P hP hk_9, hD⟩, zx_F hS hz_9 hk_9⟩) hS.2.2 (by decide) (by decide)
        · skip
          rw [zc_lt (by omega) (by omega)] at c_48
          exact absurd (by omega) (gCode_3 h).1
      · skip
        rw [zc_if0] at c_26
        exact absurd (gCode_a h (by decide)) (by intro h9; first | exact c_8 h9.1 | (rcases h9.2 with h8 | h8; exact c_15 h8; exact c_26 h8))
