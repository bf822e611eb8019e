set_option maxHeartbeats 4000000 in
set_option maxRecDepth 100000 in
theorem c_X5_input_no (l : Launch) (D : va_G) (cI cJ cZ : ClassId) (qm : Nat) (mk : Nat) (m0 : Nat) (m1 : Nat) (mi : Nat) (mo : Nat) (ml : Nat) (mf : Nat) (ma : Nat) (mfd : Nat) (mts : Nat) (mg : Nat) (mb : Nat) (cd : Int32) (n : Nat) (ni : Nat) (no : Nat) (cl : Nat) (tc : Nat) (sz : Nat) (A : Nat → Prop) (hAe : A = va_A [(qm, .inr (5, [.int cd, .int (nI n), .int (nI ni), .int (nI no), .ref mk, .ref m0, .ref m1, .ref mi, .ref mo, .ref ml, .ref mf, .ref ma, .int (nI cl), .ref mfd, .ref mts, .int (nI tc), .ref mg, .ref mb]))] sz) (h : ni = 10 ∨ n = 100) (h1 : ni ≤ 10) (h2 : n ≤ 100) : Met l yX5_input wsX5_input ({ frames := 1, cells := 0, slots := 0, locals := 21 } : Room) (va_Pc [.ref qm] (PW D cI cJ cZ [(qm, .inr (5, [.int cd, .int (nI n), .int (nI ni), .int (nI no), .ref mk, .ref m0, .ref m1, .ref mi, .ref mo, .ref ml, .ref mf, .ref ma, .int (nI cl), .ref mfd, .ref mts, .int (nI tc), .ref mg, .ref mb]))] sz)) (va_Qi (fun (r_9 : Int32) (_u9 : Unit) => r_9 = (nI 0)) (fun (_u9 : Unit) t => PQ D A [(qm, .inr (5, [.int (nI 1), .int (nI n), .int (nI ni), .int (nI no), .ref mk, .ref m0, .ref m1, .ref mi, .ref mo, .ref ml, .ref mf, .ref ma, .int (nI cl), .ref mfd, .ref mts, .int (nI tc), .ref mg, .ref mb]))] t) A) 0 0 A := by
  refine Met.ofW (cc := cX5_input) (maxL := 1) (ret := (some .int)) (by decide) rfl ?_
  intro p e s m args below meth c s₁ B hml hv
  obtain ⟨rfl, hsz, ⟨hP, hK, hNB⟩, hD0⟩ := hv
  have hx := B.exec
  have hb := B.bytes
  have hr := B.returns
  have hts := atoms_spec (ws := wsX5_input) B.pre
  have hown : s.vm.findClass RX5 = some m.cls := findClass_of_methodNamed B.named
  have hlocks := B.notSynchronized
  have hiX5 : ∀ w ∈ u_ws RX5 TX5 18, w ∈ wsX5_input := by decide +kernel
  subst hsz
  have hD : va_D A [(qm, .inr (5, [.int cd, .int (nI n), .int (nI ni), .int (nI no), .ref mk, .ref m0, .ref m1, .ref mi, .ref mo, .ref ml, .ref mf, .ref ma, .int (nI cl), .ref mfd, .ref mts, .int (nI tc), .ref mg, .ref mb]))] := by rw [hAe]; exact hD0.self
  have hA : ∀ q : Nat, s.heap.size ≤ q → A q := fun q h => by rw [hAe]; exact Or.inr h
  have hS : va_S A s.heap s.heap [] := va_S.rf
  have hl := lv_entry ([.ref qm]) (n := 1) (Nat.le_of_ble_eq_true rfl)
  rw [lg_entry_eq]
  generalize (lg_sl ([.ref qm]) ++ List.replicate (1 - (lg_sl ([.ref qm])).length) Slot.unset).toArray = ls at hl ⊢
  have hl : lv_has ls 1 [(0, .ref qm)] := hl
  refine lv_aload_n hx hb dX5_input_0 rfl (lv_at hl 0 rfl) ?_
  refine lv_aload_n hx hb dX5_input_1 rfl (lv_at hl 0 rfl) ?_
  refine va_get (D := D) (ci := 5) (v := .int (nI ni)) (C := RX5) (T := TX5) (N := 18) hx hb hts hiX5 hown hK hP 0 rfl rfl 2 (by decide) (hts (.fieldLink RX5 55 "FaultSearchModel" "inputs" "I") (by decide +kernel)) (fun _ h9 => h9) rfl dX5_input_2 ?_
  refine lv_bipush (v := (nI 10)) hx hb dX5_input_5 (by decide) ?_
  refine lv_icmp_eq (tgt := 19) hx hb dX5_input_7 (by decide) (fun c_7 => ?_) (fun c_7 => ?_)
  · skip
    rw [zc_eq (by omega) (by omega)] at c_7
    refine lv_iconst (v := (nI 1)) hx hb dX5_input_19 (by decide) ?_
    refine lv_goto (tgt := 24) hx hb dX5_input_20 (by decide) ?_
    have hPc := hP.sub (ws' := [(qm, .inr (5, [.int cd, .int (nI n), .int (nI ni), .int (nI no), .ref mk, .ref m0, .ref m1, .ref mi, .ref mo, .ref ml, .ref mf, .ref ma, .int (nI cl), .ref mfd, .ref mts, .int (nI tc), .ref mg, .ref mb]))]) [0] rfl
    have hDc := hD.sub (ws' := [(qm, .inr (5, [.int cd, .int (nI n), .int (nI ni), .int (nI no), .ref mk, .ref m0, .ref m1, .ref mi, .ref mo, .ref ml, .ref mf, .ref ma, .int (nI cl), .ref mfd, .ref mts, .int (nI tc), .ref mg, .ref mb]))]) [0] (by decide) rfl
    have hFc := va_free (wc := [(qm, .inr (5, [.int cd, .int (nI n), .int (nI ni), .int (nI no), .ref mk, .ref m0, .ref m1, .ref mi, .ref mo, .ref ml, .ref mf, .ref ma, .int (nI cl), .ref mfd, .ref mts, .int (nI tc), .ref mg, .ref mb]))]) hD hS hA [0] rfl
    refine va_calli (va_runV (As := [.int (nI 1)]) (rest := []) ⟨hx, hb, hml, hown, hts⟩ (c_X5_refuses l D cI cJ cZ qm mk m0 m1 mi mo ml mf ma mfd mts mg mb cd n ni no cl tc 1 s.heap.size _ rfl (by omega)) (cwV 1 hts gX5_input_X5_refuses rfl rfl rfl (by decide +kernel) ⟨Nat.le_of_ble_eq_true rfl, Nat.le_of_ble_eq_true rfl⟩) ⟨PW.blind, va_recv hK hPc (ci := 5) (q0 := 0) rfl rfl, fun U hU hW => ⟨rfl, PW.to hPc hK hNB hDc hU hW⟩⟩ rfl rfl hl.1 rfl (lv_room (Nat.le_of_ble_eq_true rfl)) dX5_input_24 ⟨Nat.le_of_ble_eq_true rfl, Nat.le_of_ble_eq_true rfl⟩) hS (fun q _ h => hFc q h) hFc (fun r_1 u_9 t_9 H1_9 locs ht_9 hvm_9 hw_9 hB_9 hz1_9 hk1_9 hS => ?_)
    obtain ⟨hP1_9, hD1_9⟩ := hB_9
    rw [ht_9] at hP1_9
    obtain rfl := hw_9
    obtain ⟨hP, hD⟩ := va_join (wr := []) (w1 := [(qm, .inr (5, [.int (nI 1), .int (nI n), .int (nI ni), .int (nI no), .ref mk, .ref m0, .ref m1, .ref mi, .ref mo, .ref ml, .ref mf, .ref ma, .int (nI cl), .ref mfd, .ref mts, .int (nI tc), .ref mg, .ref mb]))]) hP hD [0] [] rfl rfl (by decide) (by decide) hk1_9 hFc hP1_9 hD1_9
    generalize H1_9 = H at hP hS ⊢
    have hP : va_P D vwCl [(qm, .inr (5, [.int (nI 1), .int (nI n), .int (nI ni), .int (nI no), .ref mk, .ref m0, .ref m1, .ref mi, .ref mo, .ref ml, .ref mf, .ref ma, .int (nI cl), .ref mfd, .ref mts, .int (nI tc), .ref mg, .ref mb]))] H := hP
    have hD : va_D A [(qm, .inr (5, [.int (nI 1), .int (nI n), .int (nI ni), .int (nI no), .ref mk, .ref m0, .ref m1, .ref mi, .ref mo, .ref ml, .ref mf, .ref ma, .int (nI cl), .ref mfd, .ref mts, .int (nI tc), .ref mg, .ref mb]))] := hD
    refine lv_if_eq (tgt := 32) hx hb dX5_input_27 (by decide) (fun c_27 => ?_) (fun c_27 => ?_)
    · skip
      rw [zc_if0] at c_27
      exact absurd (by decide) c_27
    · skip
      rw [zc_if0] at c_27
      have c_27 := Classical.not_not.mp c_27
      refine lv_iconst (v := (nI 0)) hx hb dX5_input_30 (by decide) ?_
      exact W.iret (v := (nI 0)) hx hb hr (fun t_9 ht_9 hW_9 => ⟨⟨(nI 0), (), rfl, rfl, ⟨by rw [ht_9]; exact hP, hD⟩⟩, hS.F ht_9⟩) hS.2.2 dX5_input_31
  · skip
    rw [zc_eq (by omega) (by omega)] at c_7
    refine lv_aload_n hx hb dX5_input_10 rfl (lv_at hl 0 rfl) ?_
    refine va_get (D := D) (ci := 5) (v := .int (nI n)) (C := RX5) (T := TX5) (N := 18) hx hb hts hiX5 hown hK hP 0 rfl rfl 1 (by decide) (hts (.fieldLink RX5 52 "FaultSearchModel" "nets" "I") (by decide +kernel)) (fun _ h9 => h9) rfl dX5_input_11 ?_
    refine lv_bipush (v := (nI 100)) hx hb dX5_input_14 (by decide) ?_
    refine lv_icmp_ne (tgt := 23) hx hb dX5_input_16 (by decide) (fun c_16 => ?_) (fun c_16 => ?_)
    · skip
      rw [zc_eq (by omega) (by omega)] at c_16
      exact absurd h (by omega)
    · skip
      rw [zc_eq (by omega) (by omega)] at c_16
      refine lv_iconst (v := (nI 1)) hx hb dX5_input_19 (by decide) ?_
      refine lv_goto (tgt := 24) hx hb dX5_input_20 (by decide) ?_
      have hPc := hP.sub (ws' := [(qm, .inr (5, [.int cd, .int (nI n), .int (nI ni), .int (nI no), .ref mk, .ref m0, .ref m1, .ref mi, .ref mo, .ref ml, .ref mf, .ref ma, .int (nI cl), .ref mfd, .ref mts, .int (nI tc), .ref mg, .ref mb]))]) [0] rfl
      have hDc := hD.sub (ws' := [(qm, .inr (5, [.int cd, .int (nI n), .int (nI ni), .int (nI no), .ref mk, .ref m0, .ref m1, .ref mi, .ref mo, .ref ml, .ref mf, .ref ma, .int (nI cl), .ref mfd, .ref mts, .int (nI tc), .ref mg, .ref mb]))]) [0] (by decide) rfl
      have hFc := va_free (wc := [(qm, .inr (5, [.int cd, .int (nI n), .int (nI ni), .int (nI no), .ref mk, .ref m0, .ref m1, .ref mi, .ref mo, .ref ml, .ref mf, .ref ma, .int (nI cl), .ref mfd, .ref mts, .int (nI tc), .ref mg, .ref mb]))]) hD hS hA [0] rfl
      refine va_calli (va_runV (As := [.int (nI 1)]) (rest := []) ⟨hx, hb, hml, hown, hts⟩ (c_X5_refuses l D cI cJ cZ qm mk m0 m1 mi mo ml mf ma mfd mts mg mb cd n ni no cl tc 1 s.heap.size _ rfl (by omega)) (cwV 1 hts gX5_input_X5_refuses rfl rfl rfl (by decide +kernel) ⟨Nat.le_of_ble_eq_true rfl, Nat.le_of_ble_eq_true rfl⟩) ⟨PW.blind, va_recv hK hPc (ci := 5) (q0 := 0) rfl rfl, fun U hU hW => ⟨rfl, PW.to hPc hK hNB hDc hU hW⟩⟩ rfl rfl hl.1 rfl (lv_room (Nat.le_of_ble_eq_true rfl)) dX5_input_24 ⟨Nat.le_of_ble_eq_true rfl, Nat.le_of_ble_eq_true rfl⟩) hS (fun q _ h => hFc q h) hFc (fun r_2 u_9 t_9 H1_9 locs ht_9 hvm_9 hw_9 hB_9 hz1_9 hk1_9 hS => ?_)
      obtain ⟨hP1_9, hD1_9⟩ := hB_9
      rw [ht_9] at hP1_9
      obtain rfl := hw_9
      obtain ⟨hP, hD⟩ := va_join (wr := []) (w1 := [(qm, .inr (5, [.int (nI 1), .int (nI n), .int (nI ni), .int (nI no), .ref mk, .ref m0, .ref m1, .ref mi, .ref mo, .ref ml, .ref mf, .ref ma, .int (nI cl), .ref mfd, .ref mts, .int (nI tc), .ref mg, .ref mb]))]) hP hD [0] [] rfl rfl (by decide) (by decide) hk1_9 hFc hP1_9 hD1_9
      generalize H1_9 = H at hP hS ⊢
      have hP : va_P D vwCl [(qm, .inr (5, [.int (nI 1), .int (nI n), .int (nI ni), .int (nI no), .ref mk, .ref m0, .ref m1, .ref mi, .ref mo, .ref ml, .ref mf, .ref ma, .int (nI cl), .ref mfd, .ref mts, .int (nI tc), .ref mg, .ref mb]))] H := hP
      have hD : va_D A [(qm, .inr (5, [.int (nI 1), .int (nI n), .int (nI ni), .int (nI no), .ref mk, .ref m0, .ref m1, .ref mi, .ref mo, .ref ml, .ref mf, .ref ma, .int (nI cl), .ref mfd, .ref mts, .int (nI tc), .ref mg, .ref mb]))] := hD
      refine lv_if_eq (tgt := 32) hx hb dX5_input_27 (by decide) (fun c_27 => ?_) (fun c_27 => ?_)
      · skip
        rw [zc_if0] at c_27
        exact absurd (by decide) c_27
      · skip
        rw [zc_if0] at c_27
        have c_27 := Classical.not_not.mp c_27
        refine lv_iconst (v := (nI 0)) hx hb dX5_input_30 (by decide) ?_
        exact W.iret (v := (nI 0)) hx hb hr (fun t_9 ht_9 hW_9 => ⟨⟨(nI 0), (), rfl, rfl, ⟨by rw [ht_9]; exact hP, hD⟩⟩, hS.F ht_9⟩) hS.2.2 dX5_input_31

set_option maxHeartbeats 4000000 in
set_option maxRecDepth 100000 in
theorem c_X5_input_ok (l : Launch) (D : va_G) (cI cJ cZ : ClassId) (qm : Nat) (mk : Nat) (m0 : Nat) (m1 : Nat) (mi : Nat) (mo : Nat) (ml : Nat) (mf : Nat) (ma : Nat) (mfd : Nat) (mts : Nat) (mg : Nat) (mb : Nat) (cd : Int32) (n : Nat) (ni : Nat) (no : Nat) (cl : Nat) (tc : Nat) (kd : Nat → Int32) (s0 : Nat → Int32) (s1 : Nat → Int32) (io : Nat → Int32) (on : Nat → Int32) (le : Nat → Int32) (cf : Nat → Int32) (ca : Nat → Int32) (fd : Nat → Int32) (sz : Nat) (A : Nat → Prop) (hAe : A = va_A [(qm, .inr (5, [.int cd, .int (nI n), .int (nI ni), .int (nI no), .ref mk, .ref m0, .ref m1, .ref mi, .ref mo, .ref ml, .ref mf, .ref ma, .int (nI cl), .ref mfd, .ref mts, .int (nI tc), .ref mg, .ref mb])), (mk, .inl (cI, 100, .inl kd)), (m0, .inl (cI, 100, .inl s0)), (m1, .inl (cI, 100, .inl s1)), (mi, .inl (cI, 100, .inl io)), (mo, .inl (cI, 12, .inl on)), (ml, .inl (cI, 600, .inl le)), (mf, .inl (cI, 600, .inl cf)), (ma, .inl (cI, 600, .inl ca)), (mfd, .inl (cZ, 600, .inl fd))] sz) (hn : n ≤ 100) (hno : no ≤ 12) (hwf : WF n kd s0 s1) (hwo : WO n no on) (hkd : KD n kd) (h1 : ni < 10) (h2 : n < 100) : Met l yX5_input wsX5_input ({ frames := 3, cells := 0, slots := 0, locals := 71 } : Room) (va_Pc [.ref qm] (PW D cI cJ cZ [(qm, .inr (5, [.int cd, .int (nI n), .int (nI ni), .int (nI no), .ref mk, .ref m0, .ref m1, .ref mi, .ref mo, .ref ml, .ref mf, .ref ma, .int (nI cl), .ref mfd, .ref mts, .int (nI tc), .ref mg, .ref mb])), (mk, .inl (cI, 100, .inl kd)), (m0, .inl (cI, 100, .inl s0)), (m1, .inl (cI, 100, .inl s1)), (mi, .inl (cI, 100, .inl io)), (mo, .inl (cI, 12, .inl on)), (ml, .inl (cI, 600, .inl le)), (mf, .inl (cI, 600, .inl cf)), (ma, .inl (cI, 600, .inl ca)), (mfd, .inl (cZ, 600, .inl fd))] sz)) (va_Qi (fun (r_9 : Int32) (u9 : (Nat → Int32) × (Nat → Int32) × (Nat → Int32) × Nat) => match u9 with | (le2, ca2, cf2, cl2) => r_9 = (nI n) ∧ (ca2, cf2, cl2) = mE (mrgs (srP (upd kd n (-1)) s0 s1 on (n + 1) no (n + 1)) id) (lnF (upd kd n (-1)) (n + 1) 600) (ca, cf, 0) ∧ cl2 ≤ 600) (fun (u9 : (Nat → Int32) × (Nat → Int32) × (Nat → Int32) × Nat) t => match u9 with | (le2, ca2, cf2, cl2) => PQ D A [(qm, .inr (5, [.int (nI 0), .int (nI (n + 1)), .int (nI (ni + 1)), .int (nI no), .ref mk, .ref m0, .ref m1, .ref mi, .ref mo, .ref ml, .ref mf, .ref ma, .int (nI cl2), .ref mfd, .ref mts, .int (nI 0), .ref mg, .ref mb])), (mk, .inl (cI, 100, .inl (upd kd n (-1)))), (m0, .inl (cI, 100, .inl s0)), (m1, .inl (cI, 100, .inl s1)), (mi, .inl (cI, 100, .inl (upd io n (nI ni)))), (mo, .inl (cI, 12, .inl on)), (ml, .inl (cI, 600, .inl le2)), (mf, .inl (cI, 600, .inl cf2)), (ma, .inl (cI, 600, .inl ca2)), (mfd, .inl (cZ, 600, .inl (clrF fd 600)))] t) A) 0 0 A := by
  refine Met.ofW (cc := cX5_input) (maxL := 1) (ret := (some .int)) (by decide) rfl ?_
  intro p e s m args below meth c s₁ B hml hv
  obtain ⟨rfl, hsz, ⟨hP, hK, hNB⟩, hD0⟩ := hv
  have hx := B.exec
  have hb := B.bytes
  have hr := B.returns
  have hts := atoms_spec (ws := wsX5_input) B.pre
  have hown : s.vm.findClass RX5 = some m.cls := findClass_of_methodNamed B.named
  have hlocks := B.notSynchronized
  have hiX5 : ∀ w ∈ u_ws RX5 TX5 18, w ∈ wsX5_input := by decide +kernel
  subst hsz
  have hD : va_D A [(qm, .inr (5, [.int cd, .int (nI n), .int (nI ni), .int (nI no), .ref mk, .ref m0, .ref m1, .ref mi, .ref mo, .ref ml, .ref mf, .ref ma, .int (nI cl), .ref mfd, .ref mts, .int (nI tc), .ref mg, .ref mb])), (mk, .inl (cI, 100, .inl kd)), (m0, .inl (cI, 100, .inl s0)), (m1, .inl (cI, 100, .inl s1)), (mi, .inl (cI, 100, .inl io)), (mo, .inl (cI, 12, .inl on)), (ml, .inl (cI, 600, .inl le)), (mf, .inl (cI, 600, .inl cf)), (ma, .inl (cI, 600, .inl ca)), (mfd, .inl (cZ, 600, .inl fd))] := by rw [hAe]; exact hD0.self
  have hA : ∀ q : Nat, s.heap.size ≤ q → A q := fun q h => by rw [hAe]; exact Or.inr h
  have hS : va_S A s.heap s.heap [] := va_S.rf
  have hl := lv_entry ([.ref qm]) (n := 1) (Nat.le_of_ble_eq_true rfl)
  rw [lg_entry_eq]
  generalize (lg_sl ([.ref qm]) ++ List.replicate (1 - (lg_sl ([.ref qm])).length) Slot.unset).toArray = ls at hl ⊢
  have hl : lv_has ls 1 [(0, .ref qm)] := hl
  refine lv_aload_n hx hb dX5_input_0 rfl (lv_at hl 0 rfl) ?_
  refine lv_aload_n hx hb dX5_input_1 rfl (lv_at hl 0 rfl) ?_
  refine va_get (D := D) (ci := 5) (v := .int (nI ni)) (C := RX5) (T := TX5) (N := 18) hx hb hts hiX5 hown hK hP 0 rfl rfl 2 (by decide) (hts (.fieldLink RX5 55 "FaultSearchModel" "inputs" "I") (by decide +kernel)) (fun _ h9 => h9) rfl dX5_input_2 ?_
  refine lv_bipush (v := (nI 10)) hx hb dX5_input_5 (by decide) ?_
  refine lv_icmp_eq (tgt := 19) hx hb dX5_input_7 (by decide) (fun c_7 => ?_) (fun c_7 => ?_)
  · skip
    rw [zc_eq (by omega) (by omega)] at c_7
    exact absurd c_7 (by omega)
  · skip
    rw [zc_eq (by omega) (by omega)] at c_7
    refine lv_aload_n hx hb dX5_input_10 rfl (lv_at hl 0 rfl) ?_
    refine va_get (D := D) (ci := 5) (v := .int (nI n)) (C := RX5) (T := TX5) (N := 18) hx hb hts hiX5 hown hK hP 0 rfl rfl 1 (by decide) (hts (.fieldLink RX5 52 "FaultSearchModel" "nets" "I") (by decide +kernel)) (fun _ h9 => h9) rfl dX5_input_11 ?_
    refine lv_bipush (v := (nI 100)) hx hb dX5_input_14 (by decide) ?_
    refine lv_icmp_ne (tgt := 23) hx hb dX5_input_16 (by decide) (fun c_16 => ?_) (fun c_16 => ?_)
    · skip
      rw [zc_eq (by omega) (by omega)] at c_16
      refine lv_iconst (v := (nI 0)) hx hb dX5_input_23 (by decide) ?_
      have hPc := hP.sub (ws' := [(qm, .inr (5, [.int cd, .int (nI n), .int (nI ni), .int (nI no), .ref mk, .ref m0, .ref m1, .ref mi, .ref mo, .ref ml, .ref mf, .ref ma, .int (nI cl), .ref mfd, .ref mts, .int (nI tc), .ref mg, .ref mb]))]) [0] rfl
      have hDc := hD.sub (ws' := [(qm, .inr (5, [.int cd, .int (nI n), .int (nI ni), .int (nI no), .ref mk, .ref m0, .ref m1, .ref mi, .ref mo, .ref ml, .ref mf, .ref ma, .int (nI cl), .ref mfd, .ref mts, .int (nI tc), .ref mg, .ref mb]))]) [0] (by decide) rfl
      have hFc := va_free (wc := [(qm, .inr (5, [.int cd, .int (nI n), .int (nI ni), .int (nI no), .ref mk, .ref m0, .ref m1, .ref mi, .ref mo, .ref ml, .ref mf, .ref ma, .int (nI cl), .ref mfd, .ref mts, .int (nI tc), .ref mg, .ref mb]))]) hD hS hA [0] rfl
      refine va_calli (va_runV (As := [.int (nI 0)]) (rest := []) ⟨hx, hb, hml, hown, hts⟩ (c_X5_refuses l D cI cJ cZ qm mk m0 m1 mi mo ml mf ma mfd mts mg mb cd n ni no cl tc 0 s.heap.size _ rfl (by omega)) (cwV 1 hts gX5_input_X5_refuses rfl rfl rfl (by decide +kernel) ⟨Nat.le_of_ble_eq_true rfl, Nat.le_of_ble_eq_true rfl⟩) ⟨PW.blind, va_recv hK hPc (ci := 5) (q0 := 0) rfl rfl, fun U hU hW => ⟨rfl, PW.to hPc hK hNB hDc hU hW⟩⟩ rfl rfl hl.1 rfl (lv_room (Nat.le_of_ble_eq_true rfl)) dX5_input_24 ⟨Nat.le_of_ble_eq_true rfl, Nat.le_of_ble_eq_true rfl⟩) hS (fun q _ h => hFc q h) hFc (fun r_1 u_9 t_9 H1_9 locs ht_9 hvm_9 hw_9 hB_9 hz1_9 hk1_9 hS => ?_)
      obtain ⟨hP1_9, hD1_9⟩ := hB_9
      rw [ht_9] at hP1_9
      obtain rfl := hw_9
      obtain ⟨hP, hD⟩ := va_join (wr := [(mk, .inl (cI, 100, .inl kd)), (m0, .inl (cI, 100, .inl s0)), (m1, .inl (cI, 100, .inl s1)), (mi, .inl (cI, 100, .inl io)), (mo, .inl (cI, 12, .inl on)), (ml, .inl (cI, 600, .inl le)), (mf, .inl (cI, 600, .inl cf)), (ma, .inl (cI, 600, .inl ca)), (mfd, .inl (cZ, 600, .inl fd))]) (w1 := [(qm, .inr (5, [.int (nI 0), .int (nI n), .int (nI ni), .int (nI no), .ref mk, .ref m0, .ref m1, .ref mi, .ref mo, .ref ml, .ref mf, .ref ma, .int (nI cl), .ref mfd, .ref mts, .int (nI tc), .ref mg, .ref mb]))]) hP hD [0] [1, 2, 3, 4, 5, 6, 7, 8, 9] rfl rfl (by decide) (by decide) hk1_9 hFc hP1_9 hD1_9
      have hP := hP.sub (ws' := [(qm, .inr (5, [.int (nI 0), .int (nI n), .int (nI ni), .int (nI no), .ref mk, .ref m0, .ref m1, .ref mi, .ref mo, .ref ml, .ref mf, .ref ma, .int (nI cl), .ref mfd, .ref mts, .int (nI tc), .ref mg, .ref mb])), (mk, .inl (cI, 100, .inl kd)), (m0, .inl (cI, 100, .inl s0)), (m1, .inl (cI, 100, .inl s1)), (mi, .inl (cI, 100, .inl io)), (mo, .inl (cI, 12, .inl on)), (ml, .inl (cI, 600, .inl le)), (mf, .inl (cI, 600, .inl cf)), (ma, .inl (cI, 600, .inl ca)), (mfd, .inl (cZ, 600, .inl fd))]) [9, 0, 1, 2, 3, 4, 5, 6, 7, 8] rfl
      have hD := hD.sub (ws' := [(qm, .inr (5, [.int (nI 0), .int (nI n), .int (nI ni), .int (nI no), .ref mk, .ref m0, .ref m1, .ref mi, .ref mo, .ref ml, .ref mf, .ref ma, .int (nI cl), .ref mfd, .ref mts, .int (nI tc), .ref mg, .ref mb])), (mk, .inl (cI, 100, .inl kd)), (m0, .inl (cI, 100, .inl s0)), (m1, .inl (cI, 100, .inl s1)), (mi, .inl (cI, 100, .inl io)), (mo, .inl (cI, 12, .inl on)), (ml, .inl (cI, 600, .inl le)), (mf, .inl (cI, 600, .inl cf)), (ma, .inl (cI, 600, .inl ca)), (mfd, .inl (cZ, 600, .inl fd))]) [9, 0, 1, 2, 3, 4, 5, 6, 7, 8] (by decide) rfl
      generalize H1_9 = H at hP hS ⊢
      have hP : va_P D vwCl [(qm, .inr (5, [.int (nI 0), .int (nI n), .int (nI ni), .int (nI no), .ref mk, .ref m0, .ref m1, .ref mi, .ref mo, .ref ml, .ref mf, .ref ma, .int (nI cl), .ref mfd, .ref mts, .int (nI tc), .ref mg, .ref mb])), (mk, .inl (cI, 100, .inl kd)), (m0, .inl (cI, 100, .inl s0)), (m1, .inl (cI, 100, .inl s1)), (mi, .inl (cI, 100, .inl io)), (mo, .inl (cI, 12, .inl on)), (ml, .inl (cI, 600, .inl le)), (mf, .inl (cI, 600, .inl cf)), (ma, .inl (cI, 600, .inl ca)), (mfd, .inl (cZ, 600, .inl fd))] H := hP
      have hD : va_D A [(qm, .inr (5, [.int (nI 0), .int (nI n), .int (nI ni), .int (nI no), .ref mk, .ref m0, .ref m1, .ref mi, .ref mo, .ref ml, .ref mf, .ref ma, .int (nI cl), .ref mfd, .ref mts, .int (nI tc), .ref mg, .ref mb])), (mk, .inl (cI, 100, .inl kd)), (m0, .inl (cI, 100, .inl s0)), (m1, .inl (cI, 100, .inl s1)), (mi, .inl (cI, 100, .inl io)), (mo, .inl (cI, 12, .inl on)), (ml, .inl (cI, 600, .inl le)), (mf, .inl (cI, 600, .inl cf)), (ma, .inl (cI, 600, .inl ca)), (mfd, .inl (cZ, 600, .inl fd))] := hD
      refine lv_if_eq (tgt := 32) hx hb dX5_input_27 (by decide) (fun c_27 => ?_) (fun c_27 => ?_)
      · skip
        rw [zc_if0] at c_27
        refine lv_aload_n hx hb dX5_input_32 rfl (lv_at hl 0 rfl) ?_
        refine va_get (D := D) (ci := 5) (v := .ref mk) (C := RX5) (T := TX5) (N := 18) hx hb hts hiX5 hown hK hP 0 rfl rfl 4 (by decide) (hts (.fieldLink RX5 7 "FaultSearchModel" "kinds" "[I") (by decide +kernel)) (fun _ h9 => h9) rfl dX5_input_33 ?_
        refine lv_aload_n hx hb dX5_input_36 rfl (lv_at hl 0 rfl) ?_
        refine va_get (D := D) (ci := 5) (v := .int (nI n)) (C := RX5) (T := TX5) (N := 18) hx hb hts hiX5 hown hK hP 0 rfl rfl 1 (by decide) (hts (.fieldLink RX5 52 "FaultSearchModel" "nets" "I") (by decide +kernel)) (fun _ h9 => h9) rfl dX5_input_37 ?_
        refine lv_iconst (v := (-1)) hx hb dX5_input_40 (by decide) ?_
        refine zz_iast hx hb hK hP hD hS 1 0 rfl rfl (n := 100) (j := n) (by omega) (by decide) dX5_input_41 (fun H locs hP hD hS => ?_)
        have hP : va_P D vwCl [(qm, .inr (5, [.int (nI 0), .int (nI n), .int (nI ni), .int (nI no), .ref mk, .ref m0, .ref m1, .ref mi, .ref mo, .ref ml, .ref mf, .ref ma, .int (nI cl), .ref mfd, .ref mts, .int (nI tc), .ref mg, .ref mb])), (mk, .inl (cI, 100, .inl (upd kd n (-1)))), (m0, .inl (cI, 100, .inl s0)), (m1, .inl (cI, 100, .inl s1)), (mi, .inl (cI, 100, .inl io)), (mo, .inl (cI, 12, .inl on)), (ml, .inl (cI, 600, .inl le)), (mf, .inl (cI, 600, .inl cf)), (ma, .inl (cI, 600, .inl ca)), (mfd, .inl (cZ, 600, .inl fd))] H := hP
        have hD : va_D A [(qm, .inr (5, [.int (nI 0), .int (nI n), .int (nI ni), .int (nI no), .ref mk, .ref m0, .ref m1, .ref mi, .ref mo, .ref ml, .ref mf, .ref ma, .int (nI cl), .ref mfd, .ref mts, .int (nI tc), .ref mg, .ref mb])), (mk, .inl (cI, 100, .inl (upd kd n (-1)))), (m0, .inl (cI, 100, .inl s0)), (m1, .inl (cI, 100, .inl s1)), (mi, .inl (cI, 100, .inl io)), (mo, .inl (cI, 12, .inl on)), (ml, .inl (cI, 600, .inl le)), (mf, .inl (cI, 600, .inl cf)), (ma, .inl (cI, 600, .inl ca)), (mfd, .inl (cZ, 600, .inl fd))] := hD
        refine lv_aload_n hx hb dX5_input_42 rfl (lv_at hl 0 rfl) ?_
        refine va_get (D := D) (ci := 5) (v := .ref mi) (C := RX5) (T := TX5) (N := 18) hx hb hts hiX5 hown hK hP 0 rfl rfl 7 (by decide) (hts (.fieldLink RX5 19 "FaultSearchModel" "inputOf" "[I") (by decide +kernel)) (fun _ h9 => h9) rfl dX5_input_43 ?_
        refine lv_aload_n hx hb dX5_input_46 rfl (lv_at hl 0 rfl) ?_
        refine va_get (D := D) (ci := 5) (v := .int (nI n)) (C := RX5) (T := TX5) (N := 18) hx hb hts hiX5 hown hK hP 0 rfl rfl 1 (by decide) (hts (.fieldLink RX5 52 "FaultSearchModel" "nets" "I") (by decide +kernel)) (fun _ h9 => h9) rfl dX5_input_47 ?_
        refine lv_aload_n hx hb dX5_input_50 rfl (lv_at hl 0 rfl) ?_
        refine va_get (D := D) (ci := 5) (v := .int (nI ni)) (C := RX5) (T := TX5) (N := 18) hx hb hts hiX5 hown hK hP 0 rfl rfl 2 (by decide) (hts (.fieldLink RX5 55 "FaultSearchModel" "inputs" "I") (by decide +kernel)) (fun _ h9 => h9) rfl dX5_input_51 ?_
        refine zz_iast hx hb hK hP hD hS 4 0 rfl rfl (n := 100) (j := n) (by omega) (by decide) dX5_input_54 (fun H locs hP hD hS => ?_)
        have hP : va_P D vwCl [(qm, .inr (5, [.int (nI 0), .int (nI n), .int (nI ni), .int (nI no), .ref mk, .ref m0, .ref m1, .ref mi, .ref mo, .ref ml, .ref mf, .ref ma, .int (nI cl), .ref mfd, .ref mts, .int (nI tc), .ref mg, .ref mb])), (mk, .inl (cI, 100, .inl (upd kd n (-1)))), (m0, .inl (cI, 100, .inl s0)), (m1, .inl (cI, 100, .inl s1)), (mi, .inl (cI, 100, .inl (upd io n (nI ni)))), (mo, .inl (cI, 12, .inl on)), (ml, .inl (cI, 600, .inl le)), (mf, .inl (cI, 600, .inl cf)), (ma, .inl (cI, 600, .inl ca)), (mfd, .inl (cZ, 600, .inl fd))] H := hP
        have hD : va_D A [(qm, .inr (5, [.int (nI 0), .int (nI n), .int (nI ni), .int (nI no), .ref mk, .ref m0, .ref m1, .ref mi, .ref mo, .ref ml, .ref mf, .ref ma, .int (nI cl), .ref mfd, .ref mts, .int (nI tc), .ref mg, .ref mb])), (mk, .inl (cI, 100, .inl (upd kd n (-1)))), (m0, .inl (cI, 100, .inl s0)), (m1, .inl (cI, 100, .inl s1)), (mi, .inl (cI, 100, .inl (upd io n (nI ni)))), (mo, .inl (cI, 12, .inl on)), (ml, .inl (cI, 600, .inl le)), (mf, .inl (cI, 600, .inl cf)), (ma, .inl (cI, 600, .inl ca)), (mfd, .inl (cZ, 600, .inl fd))] := hD
        refine lv_aload_n hx hb dX5_input_55 rfl (lv_at hl 0 rfl) ?_
        refine lv_dup hx hb dX5_input_56 rfl ?_
        refine va_get (D := D) (ci := 5) (v := .int (nI ni)) (C := RX5) (T := TX5) (N := 18) hx hb hts hiX5 hown hK hP 0 rfl rfl 2 (by decide) (hts (.fieldLink RX5 55 "FaultSearchModel" "inputs" "I") (by decide +kernel)) (fun _ h9 => h9) rfl dX5_input_57 ?_
        refine lv_iconst (v := (nI 1)) hx hb dX5_input_60 (by decide) ?_
        refine lv_iadd hx hb dX5_input_61 ?_
        refine zz_i (z := (nI (ni + 1))) (nI_add _ _) ?_
        refine va_put (D := D) (ci := 5) (v := .int (nI (ni + 1))) (ty := .int) (C := RX5) (T := TX5) (N := 18) hx hb hts hiX5 tyX5 tyX5_ok nmX5 hown hK hP hD hS 0 rfl rfl 2 (by decide) (hts (.fieldLink RX5 55 "FaultSearchModel" "inputs" "I") (by decide +kernel)) (fun _ h9 => h9) rfl (by decide +kernel) rfl rfl (Nat.le_of_ble_eq_true rfl) dX5_input_62 (fun H locs hP hD hS => ?_)
        have hP : va_P D vwCl [(qm, .inr (5, [.int (nI 0), .int (nI n), .int (nI (ni + 1)), .int (nI no), .ref mk, .ref m0, .ref m1, .ref mi, .ref mo, .ref ml, .ref mf, .ref ma, .int (nI cl), .ref mfd, .ref mts, .int (nI tc), .ref mg, .ref mb])), (mk, .inl (cI, 100, .inl (upd kd n (-1)))), (m0, .inl (cI, 100, .inl s0)), (m1, .inl (cI, 100, .inl s1)), (mi, .inl (cI, 100, .inl (upd io n (nI ni)))), (mo, .inl (cI, 12, .inl on)), (ml, .inl (cI, 600, .inl le)), (mf, .inl (cI, 600, .inl cf)), (ma, .inl (cI, 600, .inl ca)), (mfd, .inl (cZ, 600, .inl fd))] H := hP
        have hD : va_D A [(qm, .inr (5, [.int (nI 0), .int (nI n), .int (nI (ni + 1)), .int (nI no), .ref mk, .ref m0, .ref m1, .ref mi, .ref mo, .ref ml, .ref mf, .ref ma, .int (nI cl), .ref mfd, .ref mts, .int (nI tc), .ref mg, .ref mb])), (mk, .inl (cI, 100, .inl (upd kd n (-1)))), (m0, .inl (cI, 100, .inl s0)), (m1, .inl (cI, 100, .inl s1)), (mi, .inl (cI, 100, .inl (upd io n (nI ni)))), (mo, .inl (cI, 12, .inl on)), (ml, .inl (cI, 600, .inl le)), (mf, .inl (cI, 600, .inl cf)), (ma, .inl (cI, 600, .inl ca)), (mfd, .inl (cZ, 600, .inl fd))] := hD
        refine lv_aload_n hx hb dX5_input_65 rfl (lv_at hl 0 rfl) ?_
        refine lv_dup hx hb dX5_input_66 rfl ?_
        refine va_get (D := D) (ci := 5) (v := .int (nI n)) (C := RX5) (T := TX5) (N := 18) hx hb hts hiX5 hown hK hP 0 rfl rfl 1 (by decide) (hts (.fieldLink RX5 52 "FaultSearchModel" "nets" "I") (by decide +kernel)) (fun _ h9 => h9) rfl dX5_input_67 ?_
        refine lv_iconst (v := (nI 1)) hx hb dX5_input_70 (by decide) ?_
        refine lv_iadd hx hb dX5_input_71 ?_
        refine zz_i (z := (nI (n + 1))) (nI_add _ _) ?_
        refine va_put (D := D) (ci := 5) (v := .int (nI (n + 1))) (ty := .int) (C := RX5) (T := TX5) (N := 18) hx hb hts hiX5 tyX5 tyX5_ok nmX5 hown hK hP hD hS 0 rfl rfl 1 (by decide) (hts (.fieldLink RX5 52 "FaultSearchModel" "nets" "I") (by decide +kernel)) (fun _ h9 => h9) rfl (by decide +kernel) rfl rfl (Nat.le_of_ble_eq_true rfl) dX5_input_72 (fun H locs hP hD hS => ?_)
        have hP : va_P D vwCl [(qm, .inr (5, [.int (nI 0), .int (nI (n + 1)), .int (nI (ni + 1)), .int (nI no), .ref mk, .ref m0, .ref m1, .ref mi, .ref mo, .ref ml, .ref mf, .ref ma, .int (nI cl), .ref mfd, .ref mts, .int (nI tc), .ref mg, .ref mb])), (mk, .inl (cI, 100, .inl (upd kd n (-1)))), (m0, .inl (cI, 100, .inl s0)), (m1, .inl (cI, 100, .inl s1)), (mi, .inl (cI, 100, .inl (upd io n (nI ni)))), (mo, .inl (cI, 12, .inl on)), (ml, .inl (cI, 600, .inl le)), (mf, .inl (cI, 600, .inl cf)), (ma, .inl (cI, 600, .inl ca)), (mfd, .inl (cZ, 600, .inl fd))] H := hP
        have hD : va_D A [(qm, .inr (5, [.int (nI 0), .int (nI (n + 1)), .int (nI (ni + 1)), .int (nI no), .ref mk, .ref m0, .ref m1, .ref mi, .ref mo, .ref ml, .ref mf, .ref ma, .int (nI cl), .ref mfd, .ref mts, .int (nI tc), .ref mg, .ref mb])), (mk, .inl (cI, 100, .inl (upd kd n (-1)))), (m0, .inl (cI, 100, .inl s0)), (m1, .inl (cI, 100, .inl s1)), (mi, .inl (cI, 100, .inl (upd io n (nI ni)))), (mo, .inl (cI, 12, .inl on)), (ml, .inl (cI, 600, .inl le)), (mf, .inl (cI, 600, .inl cf)), (ma, .inl (cI, 600, .inl ca)), (mfd, .inl (cZ, 600, .inl fd))] := hD
        refine lv_aload_n hx hb dX5_input_75 rfl (lv_at hl 0 rfl) ?_
        have hPc := hP.sub (ws' := [(qm, .inr (5, [.int (nI 0), .int (nI (n + 1)), .int (nI (ni + 1)), .int (nI no), .ref mk, .ref m0, .ref m1, .ref mi, .ref mo, .ref ml, .ref mf, .ref ma, .int (nI cl), .ref mfd, .ref mts, .int (nI tc), .ref mg, .ref mb])), (mk, .inl (cI, 100, .inl (upd kd n (-1)))), (m0, .inl (cI, 100, .inl s0)), (m1, .inl (cI, 100, .inl s1)), (mo, .inl (cI, 12, .inl on)), (ml, .inl (cI, 600, .inl le)), (mf, .inl (cI, 600, .inl cf)), (ma, .inl (cI, 600, .inl ca)), (mfd, .inl (cZ, 600, .inl fd))]) [0, 1, 2, 3, 5, 6, 7, 8, 9] rfl
        have hDc := hD.sub (ws' := [(qm, .inr (5, [.int (nI 0), .int (nI (n + 1)), .int (nI (ni + 1)), .int (nI no), .ref mk, .ref m0, .ref m1, .ref mi, .ref mo, .ref ml, .ref mf, .ref ma, .int (nI cl), .ref mfd, .ref mts, .int (nI tc), .ref mg, .ref mb])), (mk, .inl (cI, 100, .inl (upd kd n (-1)))), (m0, .inl (cI, 100, .inl s0)), (m1, .inl (cI, 100, .inl s1)), (mo, .inl (cI, 12, .inl on)), (ml, .inl (cI, 600, .inl le)), (mf, .inl (cI, 600, .inl cf)), (ma, .inl (cI, 600, .inl ca)), (mfd, .inl (cZ, 600, .inl fd))]) [0, 1, 2, 3, 5, 6, 7, 8, 9] (by decide) rfl
        have hFc := va_free (wc := [(qm, .inr (5, [.int (nI 0), .int (nI (n + 1)), .int (nI (ni + 1)), .int (nI no), .ref mk, .ref m0, .ref m1, .ref mi, .ref mo, .ref ml, .ref mf, .ref ma, .int (nI cl), .ref mfd, .ref mts, .int (nI tc), .ref mg, .ref mb])), (mk, .inl (cI, 100, .inl (upd kd n (-1)))), (m0, .inl (cI, 100, .inl s0)), (m1, .inl (cI, 100, .inl s1)), (mo, .inl (cI, 12, .inl on)), (ml, .inl (cI, 600, .inl le)), (mf, .inl (cI, 600, .inl cf)), (ma, .inl (cI, 600, .inl ca)), (mfd, .inl (cZ, 600, .inl fd))]) hD hS hA [0, 1, 2, 3, 5, 6, 7, 8, 9] rfl
        refine va_callv (va_runV (As := []) (rest := []) ⟨hx, hb, hml, hown, hts⟩ (c_X5_build l D cI cJ cZ qm mk m0 m1 mi mo ml mf ma mfd mts mg mb (nI 0) (n + 1) (ni + 1) no cl tc (upd kd n (-1)) s0 s1 on le cf ca fd H.size _ rfl (by omega) (by omega) hwf.inp (hwo.grow (by omega)) hkd.inp) (cwV 0 hts gX5_input_X5_build rfl rfl rfl (by decide +kernel) ⟨Nat.le_of_ble_eq_true rfl, Nat.le_of_ble_eq_true rfl⟩) ⟨PW.blind, va_recv hK hPc (ci := 5) (q0 := 0) rfl rfl, fun U hU hW => ⟨rfl, PW.to hPc hK hNB hDc hU hW⟩⟩ rfl rfl hl.1 rfl (lv_room (Nat.le_of_ble_eq_true rfl)) dX5_input_76 ⟨Nat.le_of_ble_eq_true rfl, Nat.le_of_ble_eq_true rfl⟩) hS (fun q _ h => hFc q h) hFc (fun u_9 t_9 H1_9 locs ht_9 hvm_9 hw_9 hB_9 hz1_9 hk1_9 hS => ?_)
        obtain ⟨le2_3, ca2_4, cf2_5, cl2_6⟩ := u_9
        obtain ⟨hP1_9, hD1_9⟩ := hB_9
        rw [ht_9] at hP1_9
        obtain ⟨k_E, k_C⟩ := hw_9
        have k_E : (ca2_4, cf2_5, cl2_6) = mE (mrgs (srP (upd kd n (-1)) s0 s1 on (n + 1) no (n + 1)) id) (lnF (upd kd n (-1)) (n + 1) 600) (ca, cf, 0) := k_E
        have k_C : cl2_6 ≤ 600 := k_C
        obtain ⟨hP, hD⟩ := va_join (wr := [(mi, .inl (cI, 100, .inl (upd io n (nI ni))))]) (w1 := [(qm, .inr (5, [.int (nI 0), .int (nI (n + 1)), .int (nI (ni + 1)), .int (nI no), .ref mk, .ref m0, .ref m1, .ref mi, .ref mo, .ref ml, .ref mf, .ref ma, .int (nI cl2_6), .ref mfd, .ref mts, .int (nI 0), .ref mg, .ref mb])), (mk, .inl (cI, 100, .inl (upd kd n (-1)))), (m0, .inl (cI, 100, .inl s0)), (m1, .inl (cI, 100, .inl s1)), (mo, .inl (cI, 12, .inl on)), (ml, .inl (cI, 600, .inl le2_3)), (mf, .inl (cI, 600, .inl cf2_5)), (ma, .inl (cI, 600, .inl ca2_4)), (mfd, .inl (cZ, 600, .inl (clrF fd 600)))]) hP hD [0, 1, 2, 3, 5, 6, 7, 8, 9] [4] rfl rfl (by decide) (by decide) hk1_9 hFc hP1_9 hD1_9
        have hP := hP.sub (ws' := [(qm, .inr (5, [.int (nI 0), .int (nI (n + 1)), .int (nI (ni + 1)), .int (nI no), .ref mk, .ref m0, .ref m1, .ref mi, .ref mo, .ref ml, .ref mf, .ref ma, .int (nI cl2_6), .ref mfd, .ref mts, .int (nI 0), .ref mg, .ref mb])), (mk, .inl (cI, 100, .inl (upd kd n (-1)))), (m0, .inl (cI, 100, .inl s0)), (m1, .inl (cI, 100, .inl s1)), (mi, .inl (cI, 100, .inl (upd io n (nI ni)))), (mo, .inl (cI, 12, .inl on)), (ml, .inl (cI, 600, .inl le2_3)), (mf, .inl (cI, 600, .inl cf2_5)), (ma, .inl (cI, 600, .inl ca2_4)), (mfd, .inl (cZ, 600, .inl (clrF fd 600)))]) [1, 2, 3, 4, 0, 5, 6, 7, 8, 9] rfl
        have hD := hD.sub (ws' := [(qm, .inr (5, [.int (nI 0), .int (nI (n + 1)), .int (nI (ni + 1)), .int (nI no), .ref mk, .ref m0, .ref m1, .ref mi, .ref mo, .ref ml, .ref mf, .ref ma, .int (nI cl2_6), .ref mfd, .ref mts, .int (nI 0), .ref mg, .ref mb])), (mk, .inl (cI, 100, .inl (upd kd n (-1)))), (m0, .inl (cI, 100, .inl s0)), (m1, .inl (cI, 100, .inl s1)), (mi, .inl (cI, 100, .inl (upd io n (nI ni)))), (mo, .inl (cI, 12, .inl on)), (ml, .inl (cI, 600, .inl le2_3)), (mf, .inl (cI, 600, .inl cf2_5)), (ma, .inl (cI, 600, .inl ca2_4)), (mfd, .inl (cZ, 600, .inl (clrF fd 600)))]) [1, 2, 3, 4, 0, 5, 6, 7, 8, 9] (by decide) rfl
        generalize H1_9 = H at hP hS ⊢
        have hP : va_P D vwCl [(qm, .inr (5, [.int (nI 0), .int (nI (n + 1)), .int (nI (ni + 1)), .int (nI no), .ref mk, .ref m0, .ref m1, .ref mi, .ref mo, .ref ml, .ref mf, .ref ma, .int (nI cl2_6), .ref mfd, .ref mts, .int (nI 0), .ref mg, .ref mb])), (mk, .inl (cI, 100, .inl (upd kd n (-1)))), (m0, .inl (cI, 100, .inl s0)), (m1, .inl (cI, 100, .inl s1)), (mi, .inl (cI, 100, .inl (upd io n (nI ni)))), (mo, .inl (cI, 12, .inl on)), (ml, .inl (cI, 600, .inl le2_3)), (mf, .inl (cI, 600, .inl cf2_5)), (ma, .inl (cI, 600, .inl ca2_4)), (mfd, .inl (cZ, 600, .inl (clrF fd 600)))] H := hP
        have hD : va_D A [(qm, .inr (5, [.int (nI 0), .int (nI (n + 1)), .int (nI (ni + 1)), .int (nI no), .ref mk, .ref m0, .ref m1, .ref mi, .ref mo, .ref ml, .ref mf, .ref ma, .int (nI cl2_6), .ref mfd, .ref mts, .int (nI 0), .ref mg, .ref mb])), (mk, .inl (cI, 100, .inl (upd kd n (-1)))), (m0, .inl (cI, 100, .inl s0)), (m1, .inl (cI, 100, .inl s1)), (mi, .inl (cI, 100, .inl (upd io n (nI ni)))), (mo, .inl (cI, 12, .inl on)), (ml, .inl (cI, 600, .inl le2_3)), (mf, .inl (cI, 600, .inl cf2_5)), (ma, .inl (cI, 600, .inl ca2_4)), (mfd, .inl (cZ, 600, .inl (clrF fd 600)))] := hD
        refine lv_aload_n hx hb dX5_input_79 rfl (lv_at hl 0 rfl) ?_
        refine va_get (D := D) (ci := 5) (v := .int (nI (n + 1))) (C := RX5) (T := TX5) (N := 18) hx hb hts hiX5 hown hK hP 0 rfl rfl 1 (by decide) (hts (.fieldLink RX5 52 "FaultSearchModel" "nets" "I") (by decide +kernel)) (fun _ h9 => h9) rfl dX5_input_80 ?_
        refine lv_iconst (v := (nI 1)) hx hb dX5_input_83 (by decide) ?_
        refine lv_isub hx hb dX5_input_84 ?_
        refine zz_i (z := (nI ((n + 1) - 1))) (pk_sub (by omega)) ?_
        exact W.iret (v := (nI ((n + 1) - 1))) hx hb hr (fun t_9 ht_9 hW_9 => ⟨⟨(nI ((n + 1) - 1)), (le2_3, ca2_4, cf2_5, cl2_6), rfl, (show (nI ((n + 1) - 1)) = (nI n) ∧ (ca2_4, cf2_5, cl2_6) = mE (mrgs (srP (upd kd n (-1)) s0 s1 on (n + 1) no (n + 1)) id) (lnF (upd kd n (-1)) (n + 1) 600) (ca, cf, 0) ∧ cl2_6 ≤ 600 from ⟨(congrArg nI (by omega)), k_E, k_C⟩), ⟨by rw [ht_9]; exact hP, hD⟩⟩, hS.F ht_9⟩) hS.2.2 dX5_input_85
      · skip
        rw [zc_if0] at c_27
        have c_27 := Classical.not_not.mp c_27
        exact absurd c_27 (by decide)
    · skip
      rw [zc_eq (by omega) (by omega)] at c_16
      exact absurd c_16 (by omega)

set_option maxHeartbeats 4000000 in
set_option maxRecDepth 100000 in
theorem c_X5_gate_no (l : Launch) (D : va_G) (cI cJ cZ : ClassId) (qm : Nat) (mk : Nat) (m0 : Nat) (m1 : Nat) (mi : Nat) (mo : Nat) (ml : Nat) (mf : Nat) (ma : Nat) (mfd : Nat) (mts : Nat) (mg : Nat) (mb : Nat) (cd : Int32) (n : Nat) (ni : Nat) (no : Nat) (cl : Nat) (tc : Nat) (k : Int32) (a : Int32) (b : Int32) (sz : Nat) (A : Nat → Prop) (hAe : A = va_A [(qm, .inr (5, [.int cd, .int (nI n), .int (nI ni), .int (nI no), .ref mk, .ref m0, .ref m1, .ref mi, .ref mo, .ref ml, .ref mf, .ref ma, .int (nI cl), .ref mfd, .ref mts, .int (nI tc), .ref mg, .ref mb]))] sz) (h : ¬ gCode n k a b = 0) (h2 : n ≤ 100) : Met l yX5_gate wsX5_gate ({ frames := 1, cells := 0, slots := 0, locals := 21 } : Room) (va_Pc [.ref qm, .int k, .int a, .int b] (PW D cI cJ cZ [(qm, .inr (5, [.int cd, .int (nI n), .int (nI ni), .int (nI no), .ref mk, .ref m0, .ref m1, .ref mi, .ref mo, .ref ml, .ref mf, .ref ma, .int (nI cl), .ref mfd, .ref mts, .int (nI tc), .ref mg, .ref mb]))] sz)) (va_Qi (fun (r_9 : Int32) (u9 : Nat) => match u9 with | w2 => r_9 = (nI 0) ∧ w2 = gCode n k a b) (fun (u9 : Nat) t => match u9 with | w2 => PQ D A [(qm, .inr (5, [.int (nI w2), .int (nI n), .int (nI ni), .int (nI no), .ref mk, .ref m0, .ref m1, .ref mi, .ref mo, .ref ml, .ref mf, .ref ma, .int (nI cl), .ref mfd, .ref mts, .int (nI tc), .ref mg, .ref mb]))] t) A) 0 0 A := by
  refine Met.ofW (cc := cX5_gate) (maxL := 5) (ret := (some .int)) (by decide) rfl ?_
  intro p e s m args below meth c s₁ B hml hv
  obtain ⟨rfl, hsz, ⟨hP, hK, hNB⟩, hD0⟩ := hv
  have hx := B.exec
  have hb := B.bytes
  have hr := B.returns
  have hts := atoms_spec (ws := wsX5_gate) B.pre
  have hown : s.vm.findClass RX5 = some m.cls := findClass_of_methodNamed B.named
  have hlocks := B.notSynchronized
  have hiX5 : ∀ w ∈ u_ws RX5 TX5 18, w ∈ wsX5_gate := by decide +kernel
  subst hsz
  have hD : va_D A [(qm, .inr (5, [.int cd, .int (nI n), .int (nI ni), .int (nI no), .ref mk, .ref m0, .ref m1, .ref mi, .ref mo, .ref ml, .ref mf, .ref ma, .int (nI cl), .ref mfd, .ref mts, .int (nI tc), .ref mg, .ref mb]))] := by rw [hAe]; exact hD0.self
  have hA : ∀ q : Nat, s.heap.size ≤ q → A q := fun q h => by rw [hAe]; exact Or.inr h
  have hS : va_S A s.heap s.heap [] := va_S.rf
  have hl := lv_entry ([.ref qm, .int k, .int a, .int b]) (n := 5) (Nat.le_of_ble_eq_true rfl)
  rw [lg_entry_eq]
  generalize (lg_sl ([.ref qm, .int k, .int a, .int b]) ++ List.replicate (5 - (lg_sl ([.ref qm, .int k, .int a, .int b])).length) Slot.unset).toArray = ls at hl ⊢
  have hl : lv_has ls 5 [(0, .ref qm), (1, .int k), (2, .int a), (3, .int b)] := hl
  refine lv_iload_n hx hb dX5_gate_0 rfl (lv_at hl 1 rfl) ?_
  refine lv_iconst (v := (nI 5)) hx hb dX5_gate_1 (by decide) ?_
  refine lv_icmp_eq (tgt := 11) hx hb dX5_gate_2 (by decide) (fun c_2 => ?_) (fun c_2 => ?_)
  · skip
    refine lv_iconst (v := (nI 1)) hx hb dX5_gate_11 (by decide) ?_
    refine lv_goto (tgt := 16) hx hb dX5_gate_12 (by decide) ?_
    refine lv_istore (lv' := [(4, .int (nI 1)), (0, .ref qm), (1, .int k), (2, .int a), (3, .int b)]) hx hb dX5_gate_16 hl (by decide) rfl (fun ls hl => ?_)
    refine lv_aload_n hx hb dX5_gate_18 rfl (lv_at hl 1 rfl) ?_
    refine lv_aload_n hx hb dX5_gate_19 rfl (lv_at hl 1 rfl) ?_
    refine lv_iload_n hx hb dX5_gate_20 rfl (lv_at hl 3 rfl) ?_
    have hPc := hP.sub (ws' := [(qm, .inr (5, [.int cd, .int (nI n), .int (nI ni), .int (nI no), .ref mk, .ref m0, .ref m1, .ref mi, .ref mo, .ref ml, .ref mf, .ref ma, .int (nI cl), .ref mfd, .ref mts, .int (nI tc), .ref mg, .ref mb]))]) [0] rfl
    refine vp_callSi (va_runV (As := [.int a]) (rest := [.ref qm]) ⟨hx, hb, hml, hown, hts⟩ (c_X5_isNet l D cI cJ cZ qm mk m0 m1 mi mo ml mf ma mfd mts mg mb cd n ni no cl tc a) (cwV 1 hts gX5_gate_X5_isNet rfl rfl rfl (by decide +kernel) ⟨Nat.le_of_ble_eq_true rfl, Nat.le_of_ble_eq_true rfl⟩) ⟨PR.blind, va_recv hK hPc (ci := 5) (q0 := 0) rfl rfl, fun U hU hW => ⟨rfl, PR.to hPc hK hNB hU hW⟩⟩ rfl rfl hl.1 rfl (lv_room (Nat.le_of_ble_eq_true rfl)) dX5_gate_21 ⟨Nat.le_of_ble_eq_true rfl, Nat.le_of_ble_eq_true rfl⟩).run (fun r_1 hrr_1 => ?_)
    subst hrr_1
    refine lv_if_eq (tgt := 40) hx hb dX5_gate_24 (by decide) (fun c_24 => ?_) (fun c_24 => ?_)
    · skip
      rw [zc_if0] at c_24
      refine lv_iconst (v := (nI 1)) hx hb dX5_gate_40 (by decide) ?_
      refine lv_goto (tgt := 72) hx hb dX5_gate_41 (by decide) ?_
      have hPc := hP.sub (ws' := [(qm, .inr (5, [.int cd, .int (nI n), .int (nI ni), .int (nI no), .ref mk, .ref m0, .ref m1, .ref mi, .ref mo, .ref ml, .ref mf, .ref ma, .int (nI cl), .ref mfd, .ref mts, .int (nI tc), .ref mg, .ref mb]))]) [0] rfl
      have hDc := hD.sub (ws' := [(qm, .inr (5, [.int cd, .int (nI n), .int (nI ni), .int (nI no), .ref mk, .ref m0, .ref m1, .ref mi, .ref mo, .ref ml, .ref mf, .ref ma, .int (nI cl), .ref mfd, .ref mts, .int (nI tc), .ref mg, .ref mb]))]) [0] (by decide) rfl
      have hFc := va_free (wc := [(qm, .inr (5, [.int cd, .int (nI n), .int (nI ni), .int (nI no), .ref mk, .ref m0, .ref m1, .ref mi, .ref mo, .ref ml, .ref mf, .ref ma, .int (nI cl), .ref mfd, .ref mts, .int (nI tc), .ref mg, .ref mb]))]) hD hS hA [0] rfl
      refine va_calli (va_runV (As := [.int (nI 1)]) (rest := []) ⟨hx, hb, hml, hown, hts⟩ (c_X5_refuses l D cI cJ cZ qm mk m0 m1 mi mo ml mf ma mfd mts mg mb cd n ni no cl tc 1 s.heap.size _ rfl (by omega)) (cwV 1 hts gX5_gate_X5_refuses rfl rfl rfl (by decide +kernel) ⟨Nat.le_of_ble_eq_true rfl, Nat.le_of_ble_eq_true rfl⟩) ⟨PW.blind, va_recv hK hPc (ci := 5) (q0 := 0) rfl rfl, fun U hU hW => ⟨rfl, PW.to hPc hK hNB hDc hU hW⟩⟩ rfl rfl hl.1 rfl (lv_room (Nat.le_of_ble_eq_true rfl)) dX5_gate_72 ⟨Nat.le_of_ble_eq_true rfl, Nat.le_of_ble_eq_true rfl⟩) hS (fun q _ h => hFc q h) hFc (fun r_2 u_9 t_9 H1_9 locs ht_9 hvm_9 hw_9 hB_9 hz1_9 hk1_9 hS => ?_)
      obtain ⟨hP1_9, hD1_9⟩ := hB_9
      rw [ht_9] at hP1_9
      obtain rfl := hw_9
      obtain ⟨hP, hD⟩ := va_join (wr := []) (w1 := [(qm, .inr (5, [.int (nI 1), .int (nI n), .int (nI ni), .int (nI no), .ref mk, .ref m0, .ref m1, .ref mi, .ref mo, .ref ml, .ref mf, .ref ma, .int (nI cl), .ref mfd, .ref mts, .int (nI tc), .ref mg, .ref mb]))]) hP hD [0] [] rfl rfl (by decide) (by decide) hk1_9 hFc hP1_9 hD1_9
      generalize H1_9 = H at hP hS ⊢
      have hP : va_P D vwCl [(qm, .inr (5, [.int (nI 1), .int (nI n), .int (nI ni), .int (nI no), .ref mk, .ref m0, .ref m1, .ref mi, .ref mo, .ref ml, .ref mf, .ref ma, .int (nI cl), .ref mfd, .ref mts, .int (nI tc), .ref mg, .ref mb]))] H := hP
      have hD : va_D A [(qm, .inr (5, [.int (nI 1), .int (nI n), .int (nI ni), .int (nI no), .ref mk, .ref m0, .ref m1, .ref mi, .ref mo, .ref ml, .ref mf, .ref ma, .int (nI cl), .ref mfd, .ref mts, .int (nI tc), .ref mg, .ref mb]))] := hD
      refine lv_if_eq (tgt := 80) hx hb dX5_gate_75 (by decide) (fun c_75 => ?_) (fun c_75 => ?_)
      · skip
        rw [zc_if0] at c_75
        exact absurd (by decide) c_75
      · skip
        rw [zc_if0] at c_75
        have c_75 := Classical.not_not.mp c_75
        refine lv_iconst (v := (nI 0)) hx hb dX5_gate_78 (by decide) ?_
        exact W.iret (v := (nI 0)) hx hb hr (fun t_9 ht_9 hW_9 => ⟨⟨(nI 0), 1, rfl, (show (nI 0) = (nI 0) ∧ 1 = gCode n k a b from ⟨rfl, (by simp_all [gCode, onePin, isN])⟩), ⟨by rw [ht_9]; exact hP, hD⟩⟩, hS.F ht_9⟩) hS.2.2 dX5_gate_79
    · skip
      rw [zc_if0] at c_24
      have c_24 := Classical.not_not.mp c_24
      refine lv_iload hx hb dX5_gate_27 (lv_at hl 0 rfl) ?_
      refine lv_if_ne (tgt := 44) hx hb dX5_gate_29 (by decide) (fun c_29 => ?_) (fun c_29 => ?_)
      · skip
        refine lv_aload_n hx hb dX5_gate_44 rfl (lv_at hl 1 rfl) ?_
        refine va_get (D := D) (ci := 5) (v := .int (nI n)) (C := RX5) (T := TX5) (N := 18) hx hb hts hiX5 hown hK hP 0 rfl rfl 1 (by decide) (hts (.fieldLink RX5 52 "FaultSearchModel" "nets" "I") (by decide +kernel)) (fun _ h9 => h9) rfl dX5_gate_45 ?_
        refine lv_bipush (v := (nI 100)) hx hb dX5_gate_48 (by decide) ?_
        refine lv_icmp_ne (tgt := 57) hx hb dX5_gate_50 (by decide) (fun c_50 => ?_) (fun c_50 => ?_)
        · skip
          rw [zc_eq (by omega) (by omega)] at c_50
          refine lv_iload_n hx hb dX5_gate_57 rfl (lv_at hl 2 rfl) ?_
          refine lv_if_lt (tgt := 67) hx hb dX5_gate_58 (by decide) (fun c_58 => ?_) (fun c_58 => ?_)
          · skip
            refine lv_iconst (v := (nI 3)) hx hb dX5_gate_67 (by decide) ?_
            refine lv_goto (tgt := 72) hx hb dX5_gate_68 (by decide) ?_
            have hPc := hP.sub (ws' := [(qm, .inr (5, [.int cd, .int (nI n), .int (nI ni), .int (nI no), .ref mk, .ref m0, .ref m1, .ref mi, .ref mo, .ref ml, .ref mf, .ref ma, .int (nI cl), .ref mfd, .ref mts, .int (nI tc), .ref mg, .ref mb]))]) [0] rfl
            have hDc := hD.sub (ws' := [(qm, .inr (5, [.int cd, .int (nI n), .int (nI ni), .int (nI no), .ref mk, .ref m0, .ref m1, .ref mi, .ref mo, .ref ml, .ref mf, .ref ma, .int (nI cl), .ref mfd, .ref mts, .int (nI tc), .ref mg, .ref mb]))]) [0] (by decide) rfl
            have hFc := va_free (wc := [(qm, .inr (5, [.int cd, .int (nI n), .int (nI ni), .int (nI no), .ref mk, .ref m0, .ref m1, .ref mi, .ref mo, .ref ml, .ref mf, .ref ma, .int (nI cl), .ref mfd, .ref mts, .int (nI tc), .ref mg, .ref mb]))]) hD hS hA [0] rfl
            refine va_calli (va_runV (As := [.int (nI 3)]) (rest := []) ⟨hx, hb, hml, hown, hts⟩ (c_X5_refuses l D cI cJ cZ qm mk m0 m1 mi mo ml mf ma mfd mts mg mb cd n ni no cl tc 3 s.heap.size _ rfl (by omega)) (cwV 1 hts gX5_gate_X5_refuses rfl rfl rfl (by decide +kernel) ⟨Nat.le_of_ble_eq_true rfl, Nat.le_of_ble_eq_true rfl⟩) ⟨PW.blind, va_recv hK hPc (ci := 5) (q0 := 0) rfl rfl, fun U hU hW => ⟨rfl, PW.to hPc hK hNB hDc hU hW⟩⟩ rfl rfl hl.1 rfl (lv_room (Nat.le_of_ble_eq_true rfl)) dX5_gate_72 ⟨Nat.le_of_ble_eq_true rfl, Nat.le_of_ble_eq_true rfl⟩) hS (fun q _ h => hFc q h) hFc (fun r_3 u_9 t_9 H1_9 locs ht_9 hvm_9 hw_9 hB_9 hz1_9 hk1_9 hS => ?_)
            obtain ⟨hP1_9, hD1_9⟩ := hB_9
            rw [ht_9] at hP1_9
            obtain rfl := hw_9
            obtain ⟨hP, hD⟩ := va_join (wr := []) (w1 := [(qm, .inr (5, [.int (nI 3), .int (nI n), .int (nI ni), .int (nI no), .ref mk, .ref m0, .ref m1, .ref mi, .ref mo, .ref ml, .ref mf, .ref ma, .int (nI cl), .ref mfd, .ref mts, .int (nI tc), .ref mg, .ref mb]))]) hP hD [0] [] rfl rfl (by decide) (by decide) hk1_9 hFc hP1_9 hD1_9
            generalize H1_9 = H at hP hS ⊢
            have hP : va_P D vwCl [(qm, .inr (5, [.int (nI 3), .int (nI n), .int (nI ni), .int (nI no), .ref mk, .ref m0, .ref m1, .ref mi, .ref mo, .ref ml, .ref mf, .ref ma, .int (nI cl), .ref mfd, .ref mts, .int (nI tc), .ref mg, .ref mb]))] H := hP
            have hD : va_D A [(qm, .inr (5, [.int (nI 3), .int (nI n), .int (nI ni), .int (nI no), .ref mk, .ref m0, .ref m1, .ref mi, .ref mo, .ref ml, .ref mf, .ref ma, .int (nI cl), .ref mfd, .ref mts, .int (nI tc), .ref mg, .ref mb]))] := hD
            refine lv_if_eq (tgt := 80) hx hb dX5_gate_75 (by decide) (fun c_75 => ?_) (fun c_75 => ?_)
            · skip
              rw [zc_if0] at c_75
              exact absurd (by decide) c_75
            · skip
              rw [zc_if0] at c_75
              have c_75 := Classical.not_not.mp c_75
              refine lv_iconst (v := (nI 0)) hx hb dX5_gate_78 (by decide) ?_
              exact W.iret (v := (nI 0)) hx hb hr (fun t_9 ht_9 hW_9 => ⟨⟨(nI 0), 3, rfl, (show (nI 0) = (nI 0) ∧ 3 = gCode n k a b from ⟨rfl, (by simp_all [gCode, onePin, isN])⟩), ⟨by rw [ht_9]; exact hP, hD⟩⟩, hS.F ht_9⟩) hS.2.2 dX5_gate_79
          · skip
            refine lv_iload_n hx hb dX5_gate_61 rfl (lv_at hl 2 rfl) ?_
            refine lv_bipush (v := (nI 6)) hx hb dX5_gate_62 (by decide) ?_
            refine lv_icmp_le (tgt := 71) hx hb dX5_gate_64 (by decide) (fun c_64 => ?_) (fun c_64 => ?_)
            · skip
              exact absurd (by simp_all [gCode, onePin, isN]) h
            · skip
              refine lv_iconst (v := (nI 3)) hx hb dX5_gate_67 (by decide) ?_
              refine lv_goto (tgt := 72) hx hb dX5_gate_68 (by decide) ?_
              have hPc := hP.sub (ws' := [(qm, .inr (5, [.int cd, .int (nI n), .int (nI ni), .int (nI no), .ref mk, .ref m0, .ref m1, .ref mi, .ref mo, .ref ml, .ref mf, .ref ma, .int (nI cl), .ref mfd, .ref mts, .int (nI tc), .ref mg, .ref mb]))]) [0] rfl
              have hDc := hD.sub (ws' := [(qm, .inr (5, [.int cd, .int (nI n), .int (nI ni), .int (nI no), .ref mk, .ref m0, .ref m1, .ref mi, .ref mo, .ref ml, .ref mf, .ref ma, .int (nI cl), .ref mfd, .ref mts, .int (nI tc), .ref mg, .ref mb]))]) [0] (by decide) rfl
              have hFc := va_free (wc := [(qm, .inr (5, [.int cd, .int (nI n), .int (nI ni), .int (nI no), .ref mk, .ref m0, .ref m1, .ref mi, .ref mo, .ref ml, .ref mf, .ref ma, .int (nI cl), .ref mfd, .ref mts, .int (nI tc), .ref mg, .ref mb]))]) hD hS hA [0] rfl
              refine va_calli (va_runV (As := [.int (nI 3)]) (rest := []) ⟨hx, hb, hml, hown, hts⟩ (c_X5_refuses l D cI cJ cZ qm mk m0 m1 mi mo ml mf ma mfd mts mg mb cd n ni no cl tc 3 s.heap.size _ rfl (by omega)) (cwV 1 hts gX5_gate_X5_refuses rfl rfl rfl (by decide +kernel) ⟨Nat.le_of_ble_eq_true rfl, Nat.le_of_ble_eq_true rfl⟩) ⟨PW.blind, va_recv hK hPc (ci := 5) (q0 := 0) rfl rfl, fun U hU hW => ⟨rfl, PW.to hPc hK hNB hDc hU hW⟩⟩ rfl rfl hl.1 rfl (lv_room (Nat.le_of_ble_eq_true rfl)) dX5_gate_72 ⟨Nat.le_of_ble_eq_true rfl, Nat.le_of_ble_eq_true rfl⟩) hS (fun q _ h => hFc q h) hFc (fun r_4 u_9 t_9 H1_9 locs ht_9 hvm_9 hw_9 hB_9 hz1_9 hk1_9 hS => ?_)
              obtain ⟨hP1_9, hD1_9⟩ := hB_9
              rw [ht_9] at hP1_9
              obtain rfl := hw_9
              obtain ⟨hP, hD⟩ := va_join (wr := []) (w1 := [(qm, .inr (5, [.int (nI 3), .int (nI n), .int (nI ni), .int (nI no), .ref mk, .ref m0, .ref m1, .ref mi, .ref mo, .ref ml, .ref mf, .ref ma, .int (nI cl), .ref mfd, .ref mts, .int (nI tc), .ref mg, .ref mb]))]) hP hD [0] [] rfl rfl (by decide) (by decide) hk1_9 hFc hP1_9 hD1_9
              generalize H1_9 = H at hP hS ⊢
              have hP : va_P D vwCl [(qm, .inr (5, [.int (nI 3), .int (nI n), .int (nI ni), .int (nI no), .ref mk, .ref m0, .ref m1, .ref mi, .ref mo, .ref ml, .ref mf, .ref ma, .int (nI cl), .ref mfd, .ref mts, .int (nI tc), .ref mg, .ref mb]))] H := hP
              have hD : va_D A [(qm, .inr (5, [.int (nI 3), .int (nI n), .int (nI ni), .int (nI no), .ref mk, .ref m0, .ref m1, .ref mi, .ref mo, .ref ml, .ref mf, .ref ma, .int (nI cl), .ref mfd, .ref mts, .int (nI tc), .ref mg, .ref mb]))] := hD
              refine lv_if_eq (tgt := 80) hx hb dX5_gate_75 (by decide) (fun c_75 => ?_) (fun c_75 => ?_)
              · skip
                rw [zc_if0] at c_75
                exact absurd (by decide) c_75
              · skip
                rw [zc_if0] at c_75
                have c_75 := Classical.not_not.mp c_75
                refine lv_iconst (v := (nI 0)) hx hb dX5_gate_78 (by decide) ?_
                exact W.iret (v := (nI 0)) hx hb hr (fun t_9 ht_9 hW_9 => ⟨⟨(nI 0), 3, rfl, (show (nI 0) = (nI 0) ∧ 3 = gCode n k a b from ⟨rfl, (by simp_all [gCode, onePin, isN])⟩), ⟨by rw [ht_9]; exact hP, hD⟩⟩, hS.F ht_9⟩) hS.2.2 dX5_gate_79
        · skip
          rw [zc_eq (by omega) (by omega)] at c_50
          refine lv_iconst (v := (nI 2)) hx hb dX5_gate_53 (by decide) ?_
          refine lv_goto (tgt := 72) hx hb dX5_gate_54 (by decide) ?_
          have hPc := hP.sub (ws' := [(qm, .inr (5, [.int cd, .int (nI n), .int (nI ni), .int (nI no), .ref mk, .ref m0, .ref m1, .ref mi, .ref mo, .ref ml, .ref mf, .ref ma, .int (nI cl), .ref mfd, .ref mts, .int (nI tc), .ref mg, .ref mb]))]) [0] rfl
          have hDc := hD.sub (ws' := [(qm, .inr (5, [.int cd, .int (nI n), .int (nI ni), .int (nI no), .ref mk, .ref m0, .ref m1, .ref mi, .ref mo, .ref ml, .ref mf, .ref ma, .int (nI cl), .ref mfd, .ref mts, .int (nI tc), .ref mg, .ref mb]))]) [0] (by decide) rfl
          have hFc := va_free (wc := [(qm, .inr (5, [.int cd, .int (nI n), .int (nI ni), .int (nI no), .ref mk, .ref m0, .ref m1, .ref mi, .ref mo, .ref ml, .ref mf, .ref ma, .int (nI cl), .ref mfd, .ref mts, .int (nI tc), .ref mg, .ref mb]))]) hD hS hA [0] rfl
          refine va_calli (va_runV (As := [.int (nI 2)]) (rest := []) ⟨hx, hb, hml, hown, hts⟩ (c_X5_refuses l D cI cJ cZ qm mk m0 m1 mi mo ml mf ma mfd mts mg mb cd n ni no cl tc 2 s.heap.size _ rfl (by omega)) (cwV 1 hts gX5_gate_X5_refuses rfl rfl rfl (by decide +kernel) ⟨Nat.le_of_ble_eq_true rfl, Nat.le_of_ble_eq_true rfl⟩) ⟨PW.blind, va_recv hK hPc (ci := 5) (q0 := 0) rfl rfl, fun U hU hW => ⟨rfl, PW.to hPc hK hNB hDc hU hW⟩⟩ rfl rfl hl.1 rfl (lv_room (Nat.le_of_ble_eq_true rfl)) dX5_gate_72 ⟨Nat.le_of_ble_eq_true rfl, Nat.le_of_ble_eq_true rfl⟩) hS (fun q _ h => hFc q h) hFc (fun r_5 u_9 t_9 H1_9 locs ht_9 hvm_9 hw_9 hB_9 hz1_9 hk1_9 hS => ?_)
          obtain ⟨hP1_9, hD1_9⟩ := hB_9
          rw [ht_9] at hP1_9
          obtain rfl := hw_9
          obtain ⟨hP, hD⟩ := va_join (wr := []) (w1 := [(qm, .inr (5, [.int (nI 2), .int (nI n), .int (nI ni), .int (nI no), .ref mk, .ref m0, .ref m1, .ref mi, .ref mo, .ref ml, .ref mf, .ref ma, .int (nI cl), .ref mfd, .ref mts, .int (nI tc), .ref mg, .ref mb]))]) hP hD [0] [] rfl rfl (by decide) (by decide) hk1_9 hFc hP1_9 hD1_9
          generalize H1_9 = H at hP hS ⊢
          have hP : va_P D vwCl [(qm, .inr (5, [.int (nI 2), .int (nI n), .int (nI ni), .int (nI no), .ref mk, .ref m0, .ref m1, .ref mi, .ref mo, .ref ml, .ref mf, .ref ma, .int (nI cl), .ref mfd, .ref mts, .int (nI tc), .ref mg, .ref mb]))] H := hP
          have hD : va_D A [(qm, .inr (5, [.int (nI 2), .int (nI n), .int (nI ni), .int (nI no), .ref mk, .ref m0, .ref m1, .ref mi, .ref mo, .ref ml, .ref mf, .ref ma, .int (nI cl), .ref mfd, .ref mts, .int (nI tc), .ref mg, .ref mb]))] := hD
          refine lv_if_eq (tgt := 80) hx hb dX5_gate_75 (by decide) (fun c_75 => ?_) (fun c_75 => ?_)
          · skip
            rw [zc_if0] at c_75
            exact absurd (by decide) c_75
          · skip
            rw [zc_if0] at c_75
            have c_75 := Classical.not_not.mp c_75
            refine lv_iconst (v := (nI 0)) hx hb dX5_gate_78 (by decide) ?_
            exact W.iret (v := (nI 0)) hx hb hr (fun t_9 ht_9 hW_9 => ⟨⟨(nI 0), 2, rfl, (show (nI 0) = (nI 0) ∧ 2 = gCode n k a b from ⟨rfl, (by simp_all [gCode, onePin, isN])⟩), ⟨by rw [ht_9]; exact hP, hD⟩⟩, hS.F ht_9⟩) hS.2.2 dX5_gate_79
      · skip
        exact absurd c_29 (by decide)
  · skip
    refine lv_iload_n hx hb dX5_gate_5 rfl (lv_at hl 1 rfl) ?_
    refine lv_bipush (v := (nI 6)) hx hb dX5_gate_6 (by decide) ?_
    refine lv_icmp_ne (tgt := 15) hx hb dX5_gate_8 (by decide) (fun c_8 => ?_) (fun c_8 => ?_)
    · skip
      refine lv_iconst (v := (nI 0)) hx hb dX5_gate_15 (by decide) ?_
      refine lv_istore (lv' := [(4, .int (nI 0)), (0, .ref qm), (1, .int k), (2, .int a), (3, .int b)]) hx hb dX5_gate_16 hl (by decide) rfl (fun ls hl => ?_)
      refine lv_aload_n hx hb dX5_gate_18 rfl (lv_at hl 1 rfl) ?_
      refine lv_aload_n hx hb dX5_gate_19 rfl (lv_at hl 1 rfl) ?_
      refine lv_iload_n hx hb dX5_gate_20 rfl (lv_at hl 3 rfl) ?_
      have hPc := hP.sub (ws' := [(qm, .inr (5, [.int cd, .int (nI n), .int (nI ni), .int (nI no), .ref mk, .ref m0, .ref m1, .ref mi, .ref mo, .ref ml, .ref mf, .ref ma, .int (nI cl), .ref mfd, .ref mts, .int (nI tc), .ref mg, .ref mb]))]) [0] rfl
      refine vp_callSi (va_runV (As := [.int a]) (rest := [.ref qm]) ⟨hx, hb, hml, hown, hts⟩ (c_X5_isNet l D cI cJ cZ qm mk m0 m1 mi mo ml mf ma mfd mts mg mb cd n ni no cl tc a) (cwV 1 hts gX5_gate_X5_isNet rfl rfl rfl (by decide +kernel) ⟨Nat.le_of_ble_eq_true rfl, Nat.le_of_ble_eq_true rfl⟩) ⟨PR.blind, va_recv hK hPc (ci := 5) (q0 := 0) rfl rfl, fun U hU hW => ⟨rfl, PR.to hPc hK hNB hU hW⟩⟩ rfl rfl hl.1 rfl (lv_room (Nat.le_of_ble_eq_true rfl)) dX5_gate_21 ⟨Nat.le_of_ble_eq_true rfl, Nat.le_of_ble_eq_true rfl⟩).run (fun r_6 hrr_6 => ?_)
      subst hrr_6
      refine lv_if_eq (tgt := 40) hx hb dX5_gate_24 (by decide) (fun c_24 => ?_) (fun c_24 => ?_)
      · skip
        rw [zc_if0] at c_24
        refine lv_iconst (v := (nI 1)) hx hb dX5_gate_40 (by decide) ?_
        refine lv_goto (tgt := 72) hx hb dX5_gate_41 (by decide) ?_
        have hPc := hP.sub (ws' := [(qm, .inr (5, [.int cd, .int (nI n), .int (nI ni), .int (nI no), .ref mk, .ref m0, .ref m1, .ref mi, .ref mo, .ref ml, .ref mf, .ref ma, .int (nI cl), .ref mfd, .ref mts, .int (nI tc), .ref mg, .ref mb]))]) [0] rfl
        have hDc := hD.sub (ws' := [(qm, .inr (5, [.int cd, .int (nI n), .int (nI ni), .int (nI no), .ref mk, .ref m0, .ref m1, .ref mi, .ref mo, .ref ml, .ref mf, .ref ma, .int (nI cl), .ref mfd, .ref mts, .int (nI tc), .ref mg, .ref mb]))]) [0] (by decide) rfl
        have hFc := va_free (wc := [(qm, .inr (5, [.int cd, .int (nI n), .int (nI ni), .int (nI no), .ref mk, .ref m0, .ref m1, .ref mi, .ref mo, .ref ml, .ref mf, .ref ma, .int (nI cl), .ref mfd, .ref mts, .int (nI tc), .ref mg, .ref mb]))]) hD hS hA [0] rfl
        refine va_calli (va_runV (As := [.int (nI 1)]) (rest := []) ⟨hx, hb, hml, hown, hts⟩ (c_X5_refuses l D cI cJ cZ qm mk m0 m1 mi mo ml mf ma mfd mts mg mb cd n ni no cl tc 1 s.heap.size _ rfl (by omega)) (cwV 1 hts gX5_gate_X5_refuses rfl rfl rfl (by decide +kernel) ⟨Nat.le_of_ble_eq_true rfl, Nat.le_of_ble_eq_true rfl⟩) ⟨PW.blind, va_recv hK hPc (ci := 5) (q0 := 0) rfl rfl, fun U hU hW => ⟨rfl, PW.to hPc hK hNB hDc hU hW⟩⟩ rfl rfl hl.1 rfl (lv_room (Nat.le_of_ble_eq_true rfl)) dX5_gate_72 ⟨Nat.le_of_ble_eq_true rfl, Nat.le_of_ble_eq_true rfl⟩) hS (fun q _ h => hFc q h) hFc (fun r_7 u_9 t_9 H1_9 locs ht_9 hvm_9 hw_9 hB_9 hz1_9 hk1_9 hS => ?_)
        obtain ⟨hP1_9, hD1_9⟩ := hB_9
        rw [ht_9] at hP1_9
        obtain rfl := hw_9
        obtain ⟨hP, hD⟩ := va_join (wr := []) (w1 := [(qm, .inr (5, [.int (nI 1), .int (nI n), .int (nI ni), .int (nI no), .ref mk, .ref m0, .ref m1, .ref mi, .ref mo, .ref ml, .ref mf, .ref ma, .int (nI cl), .ref mfd, .ref mts, .int (nI tc), .ref mg, .ref mb]))]) hP hD [0] [] rfl rfl (by decide) (by decide) hk1_9 hFc hP1_9 hD1_9
        generalize H1_9 = H at hP hS ⊢
        have hP : va_P D vwCl [(qm, .inr (5, [.int (nI 1), .int (nI n), .int (nI ni), .int (nI no), .ref mk, .ref m0, .ref m1, .ref mi, .ref mo, .ref ml, .ref mf, .ref ma, .int (nI cl), .ref mfd, .ref mts, .int (nI tc), .ref mg, .ref mb]))] H := hP
        have hD : va_D A [(qm, .inr (5, [.int (nI 1), .int (nI n), .int (nI ni), .int (nI no), .ref mk, .ref m0, .ref m1, .ref mi, .ref mo, .ref ml, .ref mf, .ref ma, .int (nI cl), .ref mfd, .ref mts, .int (nI tc), .ref mg, .ref mb]))] := hD
        refine lv_if_eq (tgt := 80) hx hb dX5_gate_75 (by decide) (fun c_75 => ?_) (fun c_75 => ?_)
        · skip
          rw [zc_if0] at c_75
          exact absurd (by decide) c_75
        · skip
          rw [zc_if0] at c_75
          have c_75 := Classical.not_not.mp c_75
          refine lv_iconst (v := (nI 0)) hx hb dX5_gate_78 (by decide) ?_
          exact W.iret (v := (nI 0)) hx hb hr (fun t_9 ht_9 hW_9 => ⟨⟨(nI 0), 1, rfl, (show (nI 0) = (nI 0) ∧ 1 = gCode n k a b from ⟨rfl, (by simp_all [gCode, onePin, isN])⟩), ⟨by rw [ht_9]; exact hP, hD⟩⟩, hS.F ht_9⟩) hS.2.2 dX5_gate_79
      · skip
        rw [zc_if0] at c_24
        have c_24 := Classical.not_not.mp c_24
        refine lv_iload hx hb dX5_gate_27 (lv_at hl 0 rfl) ?_
        refine lv_if_ne (tgt := 44) hx hb dX5_gate_29 (by decide) (fun c_29 => ?_) (fun c_29 => ?_)
        · skip
          exact absurd c_29 (by decide)
        · skip
          refine lv_aload_n hx hb dX5_gate_32 rfl (lv_at hl 1 rfl) ?_
          refine lv_iload_n hx hb dX5_gate_33 rfl (lv_at hl 4 rfl) ?_
          have hPc := hP.sub (ws' := [(qm, .inr (5, [.int cd, .int (nI n), .int (nI ni), .int (nI no), .ref mk, .ref m0, .ref m1, .ref mi, .ref mo, .ref ml, .ref mf, .ref ma, .int (nI cl), .ref mfd, .ref mts, .int (nI tc), .ref mg, .ref mb]))]) [0] rfl
          refine vp_callSi (va_runV (As := [.int b]) (rest := [.ref qm]) ⟨hx, hb, hml, hown, hts⟩ (c_X5_isNet l D cI cJ cZ qm mk m0 m1 mi mo ml mf ma mfd mts mg mb cd n ni no cl tc b) (cwV 1 hts gX5_gate_X5_isNet rfl rfl rfl (by decide +kernel) ⟨Nat.le_of_ble_eq_true rfl, Nat.le_of_ble_eq_true rfl⟩) ⟨PR.blind, va_recv hK hPc (ci := 5) (q0 := 0) rfl rfl, fun U hU hW => ⟨rfl, PR.to hPc hK hNB hU hW⟩⟩ rfl rfl hl.1 rfl (lv_room (Nat.le_of_ble_eq_true rfl)) dX5_gate_34 ⟨Nat.le_of_ble_eq_true rfl, Nat.le_of_ble_eq_true rfl⟩).run (fun r_8 hrr_8 => ?_)
          subst hrr_8
          refine lv_if_ne (tgt := 44) hx hb dX5_gate_37 (by decide) (fun c_37 => ?_) (fun c_37 => ?_)
          · skip
            rw [zc_if0] at c_37
            have c_37 := Classical.not_not.mp c_37
            refine lv_aload_n hx hb dX5_gate_44 rfl (lv_at hl 1 rfl) ?_
            refine va_get (D := D) (ci := 5) (v := .int (nI n)) (C := RX5) (T := TX5) (N := 18) hx hb hts hiX5 hown hK hP 0 rfl rfl 1 (by decide) (hts (.fieldLink RX5 52 "FaultSearchModel" "nets" "I") (by decide +kernel)) (fun _ h9 => h9) rfl dX5_gate_45 ?_
            refine lv_bipush (v := (nI 100)) hx hb dX5_gate_48 (by decide) ?_
            refine lv_icmp_ne (tgt := 57) hx hb dX5_gate_50 (by decide) (fun c_50 => ?_) (fun c_50 => ?_)
            · skip
              rw [zc_eq (by omega) (by omega)] at c_50
              refine lv_iload_n hx hb dX5_gate_57 rfl (lv_at hl 2 rfl) ?_
              refine lv_if_lt (tgt := 67) hx hb dX5_gate_58 (by decide) (fun c_58 => ?_) (fun c_58 => ?_)
              · skip
                refine lv_iconst (v := (nI 3)) hx hb dX5_gate_67 (by decide) ?_
                refine lv_goto (tgt := 72) hx hb dX5_gate_68 (by decide) ?_
                have hPc := hP.sub (ws' := [(qm, .inr (5, [.int cd, .int (nI n), .int (nI ni), .int (nI no), .ref mk, .ref m0, .ref m1, .ref mi, .ref mo, .ref ml, .ref mf, .ref ma, .int (nI cl), .ref mfd, .ref mts, .int (nI tc), .ref mg, .ref mb]))]) [0] rfl
                have hDc := hD.sub (ws' := [(qm, .inr (5, [.int cd, .int (nI n), .int (nI ni), .int (nI no), .ref mk, .ref m0, .ref m1, .ref mi, .ref mo, .ref ml, .ref mf, .ref ma, .int (nI cl), .ref mfd, .ref mts, .int (nI tc), .ref mg, .ref mb]))]) [0] (by decide) rfl
                have hFc := va_free (wc := [(qm, .inr (5, [.int cd, .int (nI n), .int (nI ni), .int (nI no), .ref mk, .ref m0, .ref m1, .ref mi, .ref mo, .ref ml, .ref mf, .ref ma, .int (nI cl), .ref mfd, .ref mts, .int (nI tc), .ref mg, .ref mb]))]) hD hS hA [0] rfl
                refine va_calli (va_runV (As := [.int (nI 3)]) (rest := []) ⟨hx, hb, hml, hown, hts⟩ (c_X5_refuses l D cI cJ cZ qm mk m0 m1 mi mo ml mf ma mfd mts mg mb cd n ni no cl tc 3 s.heap.size _ rfl (by omega)) (cwV 1 hts gX5_gate_X5_refuses rfl rfl rfl (by decide +kernel) ⟨Nat.le_of_ble_eq_true rfl, Nat.le_of_ble_eq_true rfl⟩) ⟨PW.blind, va_recv hK hPc (ci := 5) (q0 := 0) rfl rfl, fun U hU hW => ⟨rfl, PW.to hPc hK hNB hDc hU hW⟩⟩ rfl rfl hl.1 rfl (lv_room (Nat.le_of_ble_eq_true rfl)) dX5_gate_72 ⟨Nat.le_of_ble_eq_true rfl, Nat.le_of_ble_eq_true rfl⟩) hS (fun q _ h => hFc q h) hFc (fun r_9 u_9 t_9 H1_9 locs ht_9 hvm_9 hw_9 hB_9 hz1_9 hk1_9 hS => ?_)
                obtain ⟨hP1_9, hD1_9⟩ := hB_9
                rw [ht_9] at hP1_9
                obtain rfl := hw_9
                obtain ⟨hP, hD⟩ := va_join (wr := []) (w1 := [(qm, .inr (5, [.int (nI 3), .int (nI n), .int (nI ni), .int (nI no), .ref mk, .ref m0, .ref m1, .ref mi, .ref mo, .ref ml, .ref mf, .ref ma, .int (nI cl), .ref mfd, .ref mts, .int (nI tc), .ref mg, .ref mb]))]) hP hD [0] [] rfl rfl (by decide) (by decide) hk1_9 hFc hP1_9 hD1_9
                generalize H1_9 = H at hP hS ⊢
                have hP : va_P D vwCl [(qm, .inr (5, [.int (nI 3), .int (nI n), .int (nI ni), .int (nI no), .ref mk, .ref m0, .ref m1, .ref mi, .ref mo, .ref ml, .ref mf, .ref ma, .int (nI cl), .ref mfd, .ref mts, .int (nI tc), .ref mg, .ref mb]))] H := hP
                have hD : va_D A [(qm, .inr (5, [.int (nI 3), .int (nI n), .int (nI ni), .int (nI no), .ref mk, .ref m0, .ref m1, .ref mi, .ref mo, .ref ml, .ref mf, .ref ma, .int (nI cl), .ref mfd, .ref mts, .int (nI tc), .ref mg, .ref mb]))] := hD
                refine lv_if_eq (tgt := 80) hx hb dX5_gate_75 (by decide) (fun c_75 => ?_) (fun c_75 => ?_)
                · skip
                  rw [zc_if0] at c_75
                  exact absurd (by decide) c_75
                · skip
                  rw [zc_if0] at c_75
                  have c_75 := Classical.not_not.mp c_75
                  refine lv_iconst (v := (nI 0)) hx hb dX5_gate_78 (by decide) ?_
                  exact W.iret (v := (nI 0)) hx hb hr (fun t_9 ht_9 hW_9 => ⟨⟨(nI 0), 3, rfl, (show (nI 0) = (nI 0) ∧ 3 = gCode n k a b from ⟨rfl, (by simp_all [gCode, onePin, isN])⟩), ⟨by rw [ht_9]; exact hP, hD⟩⟩, hS.F ht_9⟩) hS.2.2 dX5_gate_79
              · skip
                refine lv_iload_n hx hb dX5_gate_61 rfl (lv_at hl 2 rfl) ?_
                refine lv_bipush (v := (nI 6)) hx hb dX5_gate_62 (by decide) ?_
                refine lv_icmp_le (tgt := 71) hx hb dX5_gate_64 (by decide) (fun c_64 => ?_) (fun c_64 => ?_)
                · skip
                  exact absurd (by simp_all [gCode, onePin, isN]) h
                · skip
                  refine lv_iconst (v := (nI 3)) hx hb dX5_gate_67 (by decide) ?_
                  refine lv_goto (tgt := 72) hx hb dX5_gate_68 (by decide) ?_
                  have hPc := hP.sub (ws' := [(qm, .inr (5, [.int cd, .int (nI n), .int (nI ni), .int (nI no), .ref mk, .ref m0, .ref m1, .ref mi, .ref mo, .ref ml, .ref mf, .ref ma, .int (nI cl), .ref mfd, .ref mts, .int (nI tc), .ref mg, .ref mb]))]) [0] rfl
                  have hDc := hD.sub (ws' := [(qm, .inr (5, [.int cd, .int (nI n), .int (nI ni), .int (nI no), .ref mk, .ref m0, .ref m1, .ref mi, .ref mo, .ref ml, .ref mf, .ref ma, .int (nI cl), .ref mfd, .ref mts, .int (nI tc), .ref mg, .ref mb]))]) [0] (by decide) rfl
                  have hFc := va_free (wc := [(qm, .inr (5, [.int cd, .int (nI n), .int (nI ni), .int (nI no), .ref mk, .ref m0, .ref m1, .ref mi, .ref mo, .ref ml, .ref mf, .ref ma, .int (nI cl), .ref mfd, .ref mts, .int (nI tc), .ref mg, .ref mb]))]) hD hS hA [0] rfl
                  refine va_calli (va_runV (As := [.int (nI 3)]) (rest := []) ⟨hx, hb, hml, hown, hts⟩ (c_X5_refuses l D cI cJ cZ qm mk m0 m1 mi mo ml mf ma mfd mts mg mb cd n ni no cl tc 3 s.heap.size _ rfl (by omega)) (cwV 1 hts gX5_gate_X5_refuses rfl rfl rfl (by decide +kernel) ⟨Nat.le_of_ble_eq_true rfl, Nat.le_of_ble_eq_true rfl⟩) ⟨PW.blind, va_recv hK hPc (ci := 5) (q0 := 0) rfl rfl, fun U hU hW => ⟨rfl, PW.to hPc hK hNB hDc hU hW⟩⟩ rfl rfl hl.1 rfl (lv_room (Nat.le_of_ble_eq_true rfl)) dX5_gate_72 ⟨Nat.le_of_ble_eq_true rfl, Nat.le_of_ble_eq_true rfl⟩) hS (fun q _ h => hFc q h) hFc (fun r_10 u_9 t_9 H1_9 locs ht_9 hvm_9 hw_9 hB_9 hz1_9 hk1_9 hS => ?_)
                  obtain ⟨hP1_9, hD1_9⟩ := hB_9
                  rw [ht_9] at hP1_9
                  obtain rfl := hw_9
                  obtain ⟨hP, hD⟩ := va_join (wr := []) (w1 := [(qm, .inr (5, [.int (nI 3), .int (nI n), .int (nI ni), .int (nI no), .ref mk, .ref m0, .ref m1, .ref mi, .ref mo, .ref ml, .ref mf, .ref ma, .int (nI cl), .ref mfd, .ref mts, .int (nI tc), .ref mg, .ref mb]))]) hP hD [0] [] rfl rfl (by decide) (by decide) hk1_9 hFc hP1_9 hD1_9
                  generalize H1_9 = H at hP hS ⊢
                  have hP : va_P D vwCl [(qm, .inr (5, [.int (nI 3), .int (nI n), .int (nI ni), .int (nI no), .ref mk, .ref m0, .ref m1, .ref mi, .ref mo, .ref ml, .ref mf, .ref ma, .int (nI cl), .ref mfd, .ref mts, .int (nI tc), .ref mg, .ref mb]))] H := hP
                  have hD : va_D A [(qm, .inr (5, [.int (nI 3), .int (nI n), .int (nI ni), .int (nI no), .ref mk, .ref m0, .ref m1, .ref mi, .ref mo, .ref ml, .ref mf, .ref ma, .int (nI cl), .ref mfd, .ref mts, .int (nI tc), .ref mg, .ref mb]))] := hD
                  refine lv_if_eq (tgt := 80) hx hb dX5_gate_75 (by decide) (fun c_75 => ?_) (fun c_75 => ?_)
                  · skip
                    rw [zc_if0] at c_75
                    exact absurd (by decide) c_75
                  · skip
                    rw [zc_if0] at c_75
                    have c_75 := Classical.not_not.mp c_75
                    refine lv_iconst (v := (nI 0)) hx hb dX5_gate_78 (by decide) ?_
                    exact W.iret (v := (nI 0)) hx hb hr (fun t_9 ht_9 hW_9 => ⟨⟨(nI 0), 3, rfl, (show (nI 0) = (nI 0) ∧ 3 = gCode n k a b from ⟨rfl, (by simp_all [gCode, onePin, isN])⟩), ⟨by rw [ht_9]; exact hP, hD⟩⟩, hS.F ht_9⟩) hS.2.2 dX5_gate_79
            · skip
              rw [zc_eq (by omega) (by omega)] at c_50
              refine lv_iconst (v := (nI 2)) hx hb dX5_gate_53 (by decide) ?_
              refine lv_goto (tgt := 72) hx hb dX5_gate_54 (by decide) ?_
              have hPc := hP.sub (ws' := [(qm, .inr (5, [.int cd, .int (nI n), .int (nI ni), .int (nI no), .ref mk, .ref m0, .ref m1, .ref mi, .ref mo, .ref ml, .ref mf, .ref ma, .int (nI cl), .ref mfd, .ref mts, .int (nI tc), .ref mg, .ref mb]))]) [0] rfl
              have hDc := hD.sub (ws' := [(qm, .inr (5, [.int cd, .int (nI n), .int (nI ni), .int (nI no), .ref mk, .ref m0, .ref m1, .ref mi, .ref mo, .ref ml, .ref mf, .ref ma, .int (nI cl), .ref mfd, .ref mts, .int (nI tc), .ref mg, .ref mb]))]) [0] (by decide) rfl
              have hFc := va_free (wc := [(qm, .inr (5, [.int cd, .int (nI n), .int (nI ni), .int (nI no), .ref mk, .ref m0, .ref m1, .ref mi, .ref mo, .ref ml, .ref mf, .ref ma, .int (nI cl), .ref mfd, .ref mts, .int (nI tc), .ref mg, .ref mb]))]) hD hS hA [0] rfl
              refine va_calli (va_runV (As := [.int (nI 2)]) (rest := []) ⟨hx, hb, hml, hown, hts⟩ (c_X5_refuses l D cI cJ cZ qm mk m0 m1 mi mo ml mf ma mfd mts mg mb cd n ni no cl tc 2 s.heap.size _ rfl (by omega)) (cwV 1 hts gX5_gate_X5_refuses rfl rfl rfl (by decide +kernel) ⟨Nat.le_of_ble_eq_true rfl, Nat.le_of_ble_eq_true rfl⟩) ⟨PW.blind, va_recv hK hPc (ci := 5) (q0 := 0) rfl rfl, fun U hU hW => ⟨rfl, PW.to hPc hK hNB hDc hU hW⟩⟩ rfl rfl hl.1 rfl (lv_room (Nat.le_of_ble_eq_true rfl)) dX5_gate_72 ⟨Nat.le_of_ble_eq_true rfl, Nat.le_of_ble_eq_true rfl⟩) hS (fun q _ h => hFc q h) hFc (fun r_11 u_9 t_9 H1_9 locs ht_9 hvm_9 hw_9 hB_9 hz1_9 hk1_9 hS => ?_)
              obtain ⟨hP1_9, hD1_9⟩ := hB_9
              rw [ht_9] at hP1_9
              obtain rfl := hw_9
              obtain ⟨hP, hD⟩ := va_join (wr := []) (w1 := [(qm, .inr (5, [.int (nI 2), .int (nI n), .int (nI ni), .int (nI no), .ref mk, .ref m0, .ref m1, .ref mi, .ref mo, .ref ml, .ref mf, .ref ma, .int (nI cl), .ref mfd, .ref mts, .int (nI tc), .ref mg, .ref mb]))]) hP hD [0] [] rfl rfl (by decide) (by decide) hk1_9 hFc hP1_9 hD1_9
              generalize H1_9 = H at hP hS ⊢
              have hP : va_P D vwCl [(qm, .inr (5, [.int (nI 2), .int (nI n), .int (nI ni), .int (nI no), .ref mk, .ref m0, .ref m1, .ref mi, .ref mo, .ref ml, .ref mf, .ref ma, .int (nI cl), .ref mfd, .ref mts, .int (nI tc), .ref mg, .ref mb]))] H := hP
              have hD : va_D A [(qm, .inr (5, [.int (nI 2), .int (nI n), .int (nI ni), .int (nI no), .ref mk, .ref m0, .ref m1, .ref mi, .ref mo, .ref ml, .ref mf, .ref ma, .int (nI cl), .ref mfd, .ref mts, .int (nI tc), .ref mg, .ref mb]))] := hD
              refine lv_if_eq (tgt := 80) hx hb dX5_gate_75 (by decide) (fun c_75 => ?_) (fun c_75 => ?_)
              · skip
                rw [zc_if0] at c_75
                exact absurd (by decide) c_75
              · skip
                rw [zc_if0] at c_75
                have c_75 := Classical.not_not.mp c_75
                refine lv_iconst (v := (nI 0)) hx hb dX5_gate_78 (by decide) ?_
                exact W.iret (v := (nI 0)) hx hb hr (fun t_9 ht_9 hW_9 => ⟨⟨(nI 0), 2, rfl, (show (nI 0) = (nI 0) ∧ 2 = gCode n k a b from ⟨rfl, (by simp_all [gCode, onePin, isN])⟩), ⟨by rw [ht_9]; exact hP, hD⟩⟩, hS.F ht_9⟩) hS.2.2 dX5_gate_79
          · skip
            rw [zc_if0] at c_37
            refine lv_iconst (v := (nI 1)) hx hb dX5_gate_40 (by decide) ?_
            refine lv_goto (tgt := 72) hx hb dX5_gate_41 (by decide) ?_
            have hPc := hP.sub (ws' := [(qm, .inr (5, [.int cd, .int (nI n), .int (nI ni), .int (nI no), .ref mk, .ref m0, .ref m1, .ref mi, .ref mo, .ref ml, .ref mf, .ref ma, .int (nI cl), .ref mfd, .ref mts, .int (nI tc), .ref mg, .ref mb]))]) [0] rfl
            have hDc := hD.sub (ws' := [(qm, .inr (5, [.int cd, .int (nI n), .int (nI ni), .int (nI no), .ref mk, .ref m0, .ref m1, .ref mi, .ref mo, .ref ml, .ref mf, .ref ma, .int (nI cl), .ref mfd, .ref mts, .int (nI tc), .ref mg, .ref mb]))]) [0] (by decide) rfl
            have hFc := va_free (wc := [(qm, .inr (5, [.int cd, .int (nI n), .int (nI ni), .int (nI no), .ref mk, .ref m0, .ref m1, .ref mi, .ref mo, .ref ml, .ref mf, .ref ma, .int (nI cl), .ref mfd, .ref mts, .int (nI tc), .ref mg, .ref mb]))]) hD hS hA [0] rfl
            refine va_calli (va_runV (As := [.int (nI 1)]) (rest := []) ⟨hx, hb, hml, hown, hts⟩ (c_X5_refuses l D cI cJ cZ qm mk m0 m1 mi mo ml mf ma mfd mts mg mb cd n ni no cl tc 1 s.heap.size _ rfl (by omega)) (cwV 1 hts gX5_gate_X5_refuses rfl rfl rfl (by decide +kernel) ⟨Nat.le_of_ble_eq_true rfl, Nat.le_of_ble_eq_true rfl⟩) ⟨PW.blind, va_recv hK hPc (ci := 5) (q0 := 0) rfl rfl, fun U hU hW => ⟨rfl, PW.to hPc hK hNB hDc hU hW⟩⟩ rfl rfl hl.1 rfl (lv_room (Nat.le_of_ble_eq_true rfl)) dX5_gate_72 ⟨Nat.le_of_ble_eq_true rfl, Nat.le_of_ble_eq_true rfl⟩) hS (fun q _ h => hFc q h) hFc (fun r_12 u_9 t_9 H1_9 locs ht_9 hvm_9 hw_9 hB_9 hz1_9 hk1_9 hS => ?_)
            obtain ⟨hP1_9, hD1_9⟩ := hB_9
            rw [ht_9] at hP1_9
            obtain rfl := hw_9
            obtain ⟨hP, hD⟩ := va_join (wr := []) (w1 := [(qm, .inr (5, [.int (nI 1), .int (nI n), .int (nI ni), .int (nI no), .ref mk, .ref m0, .ref m1, .ref mi, .ref mo, .ref ml, .ref mf, .ref ma, .int (nI cl), .ref mfd, .ref mts, .int (nI tc), .ref mg, .ref mb]))]) hP hD [0] [] rfl rfl (by decide) (by decide) hk1_9 hFc hP1_9 hD1_9
            generalize H1_9 = H at hP hS ⊢
            have hP : va_P D vwCl [(qm, .inr (5, [.int (nI 1), .int (nI n), .int (nI ni), .int (nI no), .ref mk, .ref m0, .ref m1, .ref mi, .ref mo, .ref ml, .ref mf, .ref ma, .int (nI cl), .ref mfd, .ref mts, .int (nI tc), .ref mg, .ref mb]))] H := hP
            have hD : va_D A [(qm, .inr (5, [.int (nI 1), .int (nI n), .int (nI ni), .int (nI no), .ref mk, .ref m0, .ref m1, .ref mi, .ref mo, .ref ml, .ref mf, .ref ma, .int (nI cl), .ref mfd, .ref mts, .int (nI tc), .ref mg, .ref mb]))] := hD
            refine lv_if_eq (tgt := 80) hx hb dX5_gate_75 (by decide) (fun c_75 => ?_) (fun c_75 => ?_)
            · skip
              rw [zc_if0] at c_75
              exact absurd (by decide) c_75
            · skip
              rw [zc_if0] at c_75
              have c_75 := Classical.not_not.mp c_75
              refine lv_iconst (v := (nI 0)) hx hb dX5_gate_78 (by decide) ?_
              exact W.iret (v := (nI 0)) hx hb hr (fun t_9 ht_9 hW_9 => ⟨⟨(nI 0), 1, rfl, (show (nI 0) = (nI 0) ∧ 1 = gCode n k a b from ⟨rfl, (by simp_all [gCode, onePin, isN])⟩), ⟨by rw [ht_9]; exact hP, hD⟩⟩, hS.F ht_9⟩) hS.2.2 dX5_gate_79
    · skip
      refine lv_iconst (v := (nI 1)) hx hb dX5_gate_11 (by decide) ?_
      refine lv_goto (tgt := 16) hx hb dX5_gate_12 (by decide) ?_
      refine lv_istore (lv' := [(4, .int (nI 1)), (0, .ref qm), (1, .int k), (2, .int a), (3, .int b)]) hx hb dX5_gate_16 hl (by decide) rfl (fun ls hl => ?_)
      refine lv_aload_n hx hb dX5_gate_18 rfl (lv_at hl 1 rfl) ?_
      refine lv_aload_n hx hb dX5_gate_19 rfl (lv_at hl 1 rfl) ?_
      refine lv_iload_n hx hb dX5_gate_20 rfl (lv_at hl 3 rfl) ?_
      have hPc := hP.sub (ws' := [(qm, .inr (5, [.int cd, .int (nI n), .int (nI ni), .int (nI no), .ref mk, .ref m0, .ref m1, .ref mi, .ref mo, .ref ml, .ref mf, .ref ma, .int (nI cl), .ref mfd, .ref mts, .int (nI tc), .ref mg, .ref mb]))]) [0] rfl
      refine vp_callSi (va_runV (As := [.int a]) (rest := [.ref qm]) ⟨hx, hb, hml, hown, hts⟩ (c_X5_isNet l D cI cJ cZ qm mk m0 m1 mi mo ml mf ma mfd mts mg mb cd n ni no cl tc a) (cwV 1 hts gX5_gate_X5_isNet rfl rfl rfl (by decide +kernel) ⟨Nat.le_of_ble_eq_true rfl, Nat.le_of_ble_eq_true rfl⟩) ⟨PR.blind, va_recv hK hPc (ci := 5) (q0 := 0) rfl rfl, fun U hU hW => ⟨rfl, PR.to hPc hK hNB hU hW⟩⟩ rfl rfl hl.1 rfl (lv_room (Nat.le_of_ble_eq_true rfl)) dX5_gate_21 ⟨Nat.le_of_ble_eq_true rfl, Nat.le_of_ble_eq_true rfl⟩).run (fun r_13 hrr_13 => ?_)
      subst hrr_13
      refine lv_if_eq (tgt := 40) hx hb dX5_gate_24 (by decide) (fun c_24 => ?_) (fun c_24 => ?_)
      · skip
        rw [zc_if0] at c_24
        refine lv_iconst (v := (nI 1)) hx hb dX5_gate_40 (by decide) ?_
        refine lv_goto (tgt := 72) hx hb dX5_gate_41 (by decide) ?_
        have hPc := hP.sub (ws' := [(qm, .inr (5, [.int cd, .int (nI n), .int (nI ni), .int (nI no), .ref mk, .ref m0, .ref m1, .ref mi, .ref mo, .ref ml, .ref mf, .ref ma, .int (nI cl), .ref mfd, .ref mts, .int (nI tc), .ref mg, .ref mb]))]) [0] rfl
        have hDc := hD.sub (ws' := [(qm, .inr (5, [.int cd, .int (nI n), .int (nI ni), .int (nI no), .ref mk, .ref m0, .ref m1, .ref mi, .ref mo, .ref ml, .ref mf, .ref ma, .int (nI cl), .ref mfd, .ref mts, .int (nI tc), .ref mg, .ref mb]))]) [0] (by decide) rfl
        have hFc := va_free (wc := [(qm, .inr (5, [.int cd, .int (nI n), .int (nI ni), .int (nI no), .ref mk, .ref m0, .ref m1, .ref mi, .ref mo, .ref ml, .ref mf, .ref ma, .int (nI cl), .ref mfd, .ref mts, .int (nI tc), .ref mg, .ref mb]))]) hD hS hA [0] rfl
        refine va_calli (va_runV (As := [.int (nI 1)]) (rest := []) ⟨hx, hb, hml, hown, hts⟩ (c_X5_refuses l D cI cJ cZ qm mk m0 m1 mi mo ml mf ma mfd mts mg mb cd n ni no cl tc 1 s.heap.size _ rfl (by omega)) (cwV 1 hts gX5_gate_X5_refuses rfl rfl rfl (by decide +kernel) ⟨Nat.le_of_ble_eq_true rfl, Nat.le_of_ble_eq_true rfl⟩) ⟨PW.blind, va_recv hK hPc (ci := 5) (q0 := 0) rfl rfl, fun U hU hW => ⟨rfl, PW.to hPc hK hNB hDc hU hW⟩⟩ rfl rfl hl.1 rfl (lv_room (Nat.le_of_ble_eq_true rfl)) dX5_gate_72 ⟨Nat.le_of_ble_eq_true rfl, Nat.le_of_ble_eq_true rfl⟩) hS (fun q _ h => hFc q h) hFc (fun r_14 u_9 t_9 H1_9 locs ht_9 hvm_9 hw_9 hB_9 hz1_9 hk1_9 hS => ?_)
        obtain ⟨hP1_9, hD1_9⟩ := hB_9
        rw [ht_9] at hP1_9
        obtain rfl := hw_9
        obtain ⟨hP, hD⟩ := va_join (wr := []) (w1 := [(qm, .inr (5, [.int (nI 1), .int (nI n), .int (nI ni), .int (nI no), .ref mk, .ref m0, .ref m1, .ref mi, .ref mo, .ref ml, .ref mf, .ref ma, .int (nI cl), .ref mfd, .ref mts, .int (nI tc), .ref mg, .ref mb]))]) hP hD [0] [] rfl rfl (by decide) (by decide) hk1_9 hFc hP1_9 hD1_9
        generalize H1_9 = H at hP hS ⊢
        have hP : va_P D vwCl [(qm, .inr (5, [.int (nI 1), .int (nI n), .int (nI ni), .int (nI no), .ref mk, .ref m0, .ref m1, .ref mi, .ref mo, .ref ml, .ref mf, .ref ma, .int (nI cl), .ref mfd, .ref mts, .int (nI tc), .ref mg, .ref mb]))] H := hP
        have hD : va_D A [(qm, .inr (5, [.int (nI 1), .int (nI n), .int (nI ni), .int (nI no), .ref mk, .ref m0, .ref m1, .ref mi, .ref mo, .ref ml, .ref mf, .ref ma, .int (nI cl), .ref mfd, .ref mts, .int (nI tc), .ref mg, .ref mb]))] := hD
        refine lv_if_eq (tgt := 80) hx hb dX5_gate_75 (by decide) (fun c_75 => ?_) (fun c_75 => ?_)
        · skip
          rw [zc_if0] at c_75
          exact absurd (by decide) c_75
        · skip
          rw [zc_if0] at c_75
          have c_75 := Classical.not_not.mp c_75
          refine lv_iconst (v := (nI 0)) hx hb dX5_gate_78 (by decide) ?_
          exact W.iret (v := (nI 0)) hx hb hr (fun t_9 ht_9 hW_9 => ⟨⟨(nI 0), 1, rfl, (show (nI 0) = (nI 0) ∧ 1 = gCode n k a b from ⟨rfl, (by simp_all [gCode, onePin, isN])⟩), ⟨by rw [ht_9]; exact hP, hD⟩⟩, hS.F ht_9⟩) hS.2.2 dX5_gate_79
      · skip
        rw [zc_if0] at c_24
        have c_24 := Classical.not_not.mp c_24
        refine lv_iload hx hb dX5_gate_27 (lv_at hl 0 rfl) ?_
        refine lv_if_ne (tgt := 44) hx hb dX5_gate_29 (by decide) (fun c_29 => ?_) (fun c_29 => ?_)
        · skip
          refine lv_aload_n hx hb dX5_gate_44 rfl (lv_at hl 1 rfl) ?_
          refine va_get (D := D) (ci := 5) (v := .int (nI n)) (C := RX5) (T := TX5) (N := 18) hx hb hts hiX5 hown hK hP 0 rfl rfl 1 (by decide) (hts (.fieldLink RX5 52 "FaultSearchModel" "nets" "I") (by decide +kernel)) (fun _ h9 => h9) rfl dX5_gate_45 ?_
          refine lv_bipush (v := (nI 100)) hx hb dX5_gate_48 (by decide) ?_
          refine lv_icmp_ne (tgt := 57) hx hb dX5_gate_50 (by decide) (fun c_50 => ?_) (fun c_50 => ?_)
          · skip
            rw [zc_eq (by omega) (by omega)] at c_50
            refine lv_iload_n hx hb dX5_gate_57 rfl (lv_at hl 2 rfl) ?_
            refine lv_if_lt (tgt := 67) hx hb dX5_gate_58 (by decide) (fun c_58 => ?_) (fun c_58 => ?_)
            · skip
              refine lv_iconst (v := (nI 3)) hx hb dX5_gate_67 (by decide) ?_
              refine lv_goto (tgt := 72) hx hb dX5_gate_68 (by decide) ?_
              have hPc := hP.sub (ws' := [(qm, .inr (5, [.int cd, .int (nI n), .int (nI ni), .int (nI no), .ref mk, .ref m0, .ref m1, .ref mi, .ref mo, .ref ml, .ref mf, .ref ma, .int (nI cl), .ref mfd, .ref mts, .int (nI tc), .ref mg, .ref mb]))]) [0] rfl
              have hDc := hD.sub (ws' := [(qm, .inr (5, [.int cd, .int (nI n), .int (nI ni), .int (nI no), .ref mk, .ref m0, .ref m1, .ref mi, .ref mo, .ref ml, .ref mf, .ref ma, .int (nI cl), .ref mfd, .ref mts, .int (nI tc), .ref mg, .ref mb]))]) [0] (by decide) rfl
              have hFc := va_free (wc := [(qm, .inr (5, [.int cd, .int (nI n), .int (nI ni), .int (nI no), .ref mk, .ref m0, .ref m1, .ref mi, .ref mo, .ref ml, .ref mf, .ref ma, .int (nI cl), .ref mfd, .ref mts, .int (nI tc), .ref mg, .ref mb]))]) hD hS hA [0] rfl
              refine va_calli (va_runV (As := [.int (nI 3)]) (rest := []) ⟨hx, hb, hml, hown, hts⟩ (c_X5_refuses l D cI cJ cZ qm mk m0 m1 mi mo ml mf ma mfd mts mg mb cd n ni no cl tc 3 s.heap.size _ rfl (by omega)) (cwV 1 hts gX5_gate_X5_refuses rfl rfl rfl (by decide +kernel) ⟨Nat.le_of_ble_eq_true rfl, Nat.le_of_ble_eq_true rfl⟩) ⟨PW.blind, va_recv hK hPc (ci := 5) (q0 := 0) rfl rfl, fun U hU hW => ⟨rfl, PW.to hPc hK hNB hDc hU hW⟩⟩ rfl rfl hl.1 rfl (lv_room (Nat.le_of_ble_eq_true rfl)) dX5_gate_72 ⟨Nat.le_of_ble_eq_true rfl, Nat.le_of_ble_eq_true rfl⟩) hS (fun q _ h => hFc q h) hFc (fun r_15 u_9 t_9 H1_9 locs ht_9 hvm_9 hw_9 hB_9 hz1_9 hk1_9 hS => ?_)
              obtain ⟨hP1_9, hD1_9⟩ := hB_9
              rw [ht_9] at hP1_9
              obtain rfl := hw_9
              obtain ⟨hP, hD⟩ := va_join (wr := []) (w1 := [(qm, .inr (5, [.int (nI 3), .int (nI n), .int (nI ni), .int (nI no), .ref mk, .ref m0, .ref m1, .ref mi, .ref mo, .ref ml, .ref mf, .ref ma, .int (nI cl), .ref mfd, .ref mts, .int (nI tc), .ref mg, .ref mb]))]) hP hD [0] [] rfl rfl (by decide) (by decide) hk1_9 hFc hP1_9 hD1_9
              generalize H1_9 = H at hP hS ⊢
              have hP : va_P D vwCl [(qm, .inr (5, [.int (nI 3), .int (nI n), .int (nI ni), .int (nI no), .ref mk, .ref m0, .ref m1, .ref mi, .ref mo, .ref ml, .ref mf, .ref ma, .int (nI cl), .ref mfd, .ref mts, .int (nI tc), .ref mg, .ref mb]))] H := hP
              have hD : va_D A [(qm, .inr (5, [.int (nI 3), .int (nI n), .int (nI ni), .int (nI no), .ref mk, .ref m0, .ref m1, .ref mi, .ref mo, .ref ml, .ref mf, .ref ma, .int (nI cl), .ref mfd, .ref mts, .int (nI tc), .ref mg, .ref mb]))] := hD
              refine lv_if_eq (tgt := 80) hx hb dX5_gate_75 (by decide) (fun c_75 => ?_) (fun c_75 => ?_)
              · skip
                rw [zc_if0] at c_75
                exact absurd (by decide) c_75
              · skip
                rw [zc_if0] at c_75
                have c_75 := Classical.not_not.mp c_75
                refine lv_iconst (v := (nI 0)) hx hb dX5_gate_78 (by decide) ?_
                exact W.iret (v := (nI 0)) hx hb hr (fun t_9 ht_9 hW_9 => ⟨⟨(nI 0), 3, rfl, (show (nI 0) = (nI 0) ∧ 3 = gCode n k a b from ⟨rfl, (by simp_all [gCode, onePin, isN])⟩), ⟨by rw [ht_9]; exact hP, hD⟩⟩, hS.F ht_9⟩) hS.2.2 dX5_gate_79
            · skip
              refine lv_iload_n hx hb dX5_gate_61 rfl (lv_at hl 2 rfl) ?_
              refine lv_bipush (v := (nI 6)) hx hb dX5_gate_62 (by decide) ?_
              refine lv_icmp_le (tgt := 71) hx hb dX5_gate_64 (by decide) (fun c_64 => ?_) (fun c_64 => ?_)
              · skip
                exact absurd (by simp_all [gCode, onePin, isN]) h
              · skip
                refine lv_iconst (v := (nI 3)) hx hb dX5_gate_67 (by decide) ?_
                refine lv_goto (tgt := 72) hx hb dX5_gate_68 (by decide) ?_
                have hPc := hP.sub (ws' := [(qm, .inr (5, [.int cd, .int (nI n), .int (nI ni), .int (nI no), .ref mk, .ref m0, .ref m1, .ref mi, .ref mo, .ref ml, .ref mf, .ref ma, .int (nI cl), .ref mfd, .ref mts, .int (nI tc), .ref mg, .ref mb]))]) [0] rfl
                have hDc := hD.sub (ws' := [(qm, .inr (5, [.int cd, .int (nI n), .int (nI ni), .int (nI no), .ref mk, .ref m0, .ref m1, .ref mi, .ref mo, .ref ml, .ref mf, .ref ma, .int (nI cl), .ref mfd, .ref mts, .int (nI tc), .ref mg, .ref mb]))]) [0] (by decide) rfl
                have hFc := va_free (wc := [(qm, .inr (5, [.int cd, .int (nI n), .int (nI ni), .int (nI no), .ref mk, .ref m0, .ref m1, .ref mi, .ref mo, .ref ml, .ref mf, .ref ma, .int (nI cl), .ref mfd, .ref mts, .int (nI tc), .ref mg, .ref mb]))]) hD hS hA [0] rfl
                refine va_calli (va_runV (As := [.int (nI 3)]) (rest := []) ⟨hx, hb, hml, hown, hts⟩ (c_X5_refuses l D cI cJ cZ qm mk m0 m1 mi mo ml mf ma mfd mts mg mb cd n ni no cl tc 3 s.heap.size _ rfl (by omega)) (cwV 1 hts gX5_gate_X5_refuses rfl rfl rfl (by decide +kernel) ⟨Nat.le_of_ble_eq_true rfl, Nat.le_of_ble_eq_true rfl⟩) ⟨PW.blind, va_recv hK hPc (ci := 5) (q0 := 0) rfl rfl, fun U hU hW => ⟨rfl, PW.to hPc hK hNB hDc hU hW⟩⟩ rfl rfl hl.1 rfl (lv_room (Nat.le_of_ble_eq_true rfl)) dX5_gate_72 ⟨Nat.le_of_ble_eq_true rfl, Nat.le_of_ble_eq_true rfl⟩) hS (fun q _ h => hFc q h) hFc (fun r_16 u_9 t_9 H1_9 locs ht_9 hvm_9 hw_9 hB_9 hz1_9 hk1_9 hS => ?_)
                obtain ⟨hP1_9, hD1_9⟩ := hB_9
                rw [ht_9] at hP1_9
                obtain rfl := hw_9
                obtain ⟨hP, hD⟩ := va_join (wr := []) (w1 := [(qm, .inr (5, [.int (nI 3), .int (nI n), .int (nI ni), .int (nI no), .ref mk, .ref m0, .ref m1, .ref mi, .ref mo, .ref ml, .ref mf, .ref ma, .int (nI cl), .ref mfd, .ref mts, .int (nI tc), .ref mg, .ref mb]))]) hP hD [0] [] rfl rfl (by decide) (by decide) hk1_9 hFc hP1_9 hD1_9
                generalize H1_9 = H at hP hS ⊢
                have hP : va_P D vwCl [(qm, .inr (5, [.int (nI 3), .int (nI n), .int (nI ni), .int (nI no), .ref mk, .ref m0, .ref m1, .ref mi, .ref mo, .ref ml, .ref mf, .ref ma, .int (nI cl), .ref mfd, .ref mts, .int (nI tc), .ref mg, .ref mb]))] H := hP
                have hD : va_D A [(qm, .inr (5, [.int (nI 3), .int (nI n), .int (nI ni), .int (nI no), .ref mk, .ref m0, .ref m1, .ref mi, .ref mo, .ref ml, .ref mf, .ref ma, .int (nI cl), .ref mfd, .ref mts, .int (nI tc), .ref mg, .ref mb]))] := hD
                refine lv_if_eq (tgt := 80) hx hb dX5_gate_75 (by decide) (fun c_75 => ?_) (fun c_75 => ?_)
                · skip
                  rw [zc_if0] at c_75
                  exact absurd (by decide) c_75
                · skip
                  rw [zc_if0] at c_75
                  have c_75 := Classical.not_not.mp c_75
                  refine lv_iconst (v := (nI 0)) hx hb dX5_gate_78 (by decide) ?_
                  exact W.iret (v := (nI 0)) hx hb hr (fun t_9 ht_9 hW_9 => ⟨⟨(nI 0), 3, rfl, (show (nI 0) = (nI 0) ∧ 3 = gCode n k a b from ⟨rfl, (by simp_all [gCode, onePin, isN])⟩), ⟨by rw [ht_9]; exact hP, hD⟩⟩, hS.F ht_9⟩) hS.2.2 dX5_gate_79
          · skip
            rw [zc_eq (by omega) (by omega)] at c_50
            refine lv_iconst (v := (nI 2)) hx hb dX5_gate_53 (by decide) ?_
            refine lv_goto (tgt := 72) hx hb dX5_gate_54 (by decide) ?_
            have hPc := hP.sub (ws' := [(qm, .inr (5, [.int cd, .int (nI n), .int (nI ni), .int (nI no), .ref mk, .ref m0, .ref m1, .ref mi, .ref mo, .ref ml, .ref mf, .ref ma, .int (nI cl), .ref mfd, .ref mts, .int (nI tc), .ref mg, .ref mb]))]) [0] rfl
            have hDc := hD.sub (ws' := [(qm, .inr (5, [.int cd, .int (nI n), .int (nI ni), .int (nI no), .ref mk, .ref m0, .ref m1, .ref mi, .ref mo, .ref ml, .ref mf, .ref ma, .int (nI cl), .ref mfd, .ref mts, .int (nI tc), .ref mg, .ref mb]))]) [0] (by decide) rfl
            have hFc := va_free (wc := [(qm, .inr (5, [.int cd, .int (nI n), .int (nI ni), .int (nI no), .ref mk, .ref m0, .ref m1, .ref mi, .ref mo, .ref ml, .ref mf, .ref ma, .int (nI cl), .ref mfd, .ref mts, .int (nI tc), .ref mg, .ref mb]))]) hD hS hA [0] rfl
            refine va_calli (va_runV (As := [.int (nI 2)]) (rest := []) ⟨hx, hb, hml, hown, hts⟩ (c_X5_refuses l D cI cJ cZ qm mk m0 m1 mi mo ml mf ma mfd mts mg mb cd n ni no cl tc 2 s.heap.size _ rfl (by omega)) (cwV 1 hts gX5_gate_X5_refuses rfl rfl rfl (by decide +kernel) ⟨Nat.le_of_ble_eq_true rfl, Nat.le_of_ble_eq_true rfl⟩) ⟨PW.blind, va_recv hK hPc (ci := 5) (q0 := 0) rfl rfl, fun U hU hW => ⟨rfl, PW.to hPc hK hNB hDc hU hW⟩⟩ rfl rfl hl.1 rfl (lv_room (Nat.le_of_ble_eq_true rfl)) dX5_gate_72 ⟨Nat.le_of_ble_eq_true rfl, Nat.le_of_ble_eq_true rfl⟩) hS (fun q _ h => hFc q h) hFc (fun r_17 u_9 t_9 H1_9 locs ht_9 hvm_9 hw_9 hB_9 hz1_9 hk1_9 hS => ?_)
            obtain ⟨hP1_9, hD1_9⟩ := hB_9
            rw [ht_9] at hP1_9
            obtain rfl := hw_9
            obtain ⟨hP, hD⟩ := va_join (wr := []) (w1 := [(qm, .inr (5, [.int (nI 2), .int (nI n), .int (nI ni), .int (nI no), .ref mk, .ref m0, .ref m1, .ref mi, .ref mo, .ref ml, .ref mf, .ref ma, .int (nI cl), .ref mfd, .ref mts, .int (nI tc), .ref mg, .ref mb]))]) hP hD [0] [] rfl rfl (by decide) (by decide) hk1_9 hFc hP1_9 hD1_9
            generalize H1_9 = H at hP hS ⊢
            have hP : va_P D vwCl [(qm, .inr (5, [.int (nI 2), .int (nI n), .int (nI ni), .int (nI no), .ref mk, .ref m0, .ref m1, .ref mi, .ref mo, .ref ml, .ref mf, .ref ma, .int (nI cl), .ref mfd, .ref mts, .int (nI tc), .ref mg, .ref mb]))] H := hP
            have hD : va_D A [(qm, .inr (5, [.int (nI 2), .int (nI n), .int (nI ni), .int (nI no), .ref mk, .ref m0, .ref m1, .ref mi, .ref mo, .ref ml, .ref mf, .ref ma, .int (nI cl), .ref mfd, .ref mts, .int (nI tc), .ref mg, .ref mb]))] := hD
            refine lv_if_eq (tgt := 80) hx hb dX5_gate_75 (by decide) (fun c_75 => ?_) (fun c_75 => ?_)
            · skip
              rw [zc_if0] at c_75
              exact absurd (by decide) c_75
            · skip
              rw [zc_if0] at c_75
              have c_75 := Classical.not_not.mp c_75
              refine lv_iconst (v := (nI 0)) hx hb dX5_gate_78 (by decide) ?_
              exact W.iret (v := (nI 0)) hx hb hr (fun t_9 ht_9 hW_9 => ⟨⟨(nI 0), 2, rfl, (show (nI 0) = (nI 0) ∧ 2 = gCode n k a b from ⟨rfl, (by simp_all [gCode, onePin, isN])⟩), ⟨by rw [ht_9]; exact hP, hD⟩⟩, hS.F ht_9⟩) hS.2.2 dX5_gate_79
        · skip
          exact absurd c_29 (by decide)

set_option maxHeartbeats 4000000 in
set_option maxRecDepth 100000 in
theorem c_X5_gate_ok (l : Launch) (D : va_G) (cI cJ cZ : ClassId) (qm : Nat) (mk : Nat) (m0 : Nat) (m1 : Nat) (mi : Nat) (mo : Nat) (ml : Nat) (mf : Nat) (ma : Nat) (mfd : Nat) (mts : Nat) (mg : Nat) (mb : Nat) (cd : Int32) (n : Nat) (ni : Nat) (no : Nat) (cl : Nat) (tc : Nat) (kd : Nat → Int32) (s0 : Nat → Int32) (s1 : Nat → Int32) (on : Nat → Int32) (le : Nat → Int32) (cf : Nat → Int32) (ca : Nat → Int32) (fd : Nat → Int32) (k : Int32) (a : Nat) (b : Int32) (bb : Nat) (sz : Nat) (A : Nat → Prop) (hAe : A = va_A [(qm, .inr (5, [.int cd, .int (nI n), .int (nI ni), .int (nI no), .ref mk, .ref m0, .ref m1, .ref mi, .ref mo, .ref ml, .ref mf, .ref ma, .int (nI cl), .ref mfd, .ref mts, .int (nI tc), .ref mg, .ref mb])), (mk, .inl (cI, 100, .inl kd)), (m0, .inl (cI, 100, .inl s0)), (m1, .inl (cI, 100, .inl s1)), (mo, .inl (cI, 12, .inl on)), (ml, .inl (cI, 600, .inl le)), (mf, .inl (cI, 600, .inl cf)), (ma, .inl (cI, 600, .inl ca)), (mfd, .inl (cZ, 600, .inl fd))] sz) (hn : n ≤ 100) (hno : no ≤ 12) (hwf : WF n kd s0 s1) (hwo : WO n no on) (hkd : KD n kd) (h2 : n < 100) (ha : a < n) (hb2 : bb < n) (hbb : (if onePin k then nI a else b) = nI bb) (hk1 : ¬ k < 0) (hk2 : k ≤ nI 6) (hkk : KDk k) : Met l yX5_gate wsX5_gate ({ frames := 3, cells := 0, slots := 0, locals := 71 } : Room) (va_Pc [.ref qm, .int k, .int (nI a), .int b] (PW D cI cJ cZ [(qm, .inr (5, [.int cd, .int (nI n), .int (nI ni), .int (nI no), .ref mk, .ref m0, .ref m1, .ref mi, .ref mo, .ref ml, .ref mf, .ref ma, .int (nI cl), .ref mfd, .ref mts, .int (nI tc), .ref mg, .ref mb])), (mk, .inl (cI, 100, .inl kd)), (m0, .inl (cI, 100, .inl s0)), (m1, .inl (cI, 100, .inl s1)), (mo, .inl (cI, 12, .inl on)), (ml, .inl (cI, 600, .inl le)), (mf, .inl (cI, 600, .inl cf)), (ma, .inl (cI, 600, .inl ca)), (mfd, .inl (cZ, 600, .inl fd))] sz)) (va_Qi (fun (r_9 : Int32) (u9 : (Nat → Int32) × (Nat → Int32) × (Nat → Int32) × Nat) => match u9 with | (le2, ca2, cf2, cl2) => r_9 = (nI n) ∧ (ca2, cf2, cl2) = mE (mrgs (srP (upd kd n k) (upd s0 n (nI a)) (upd s1 n (nI bb)) on (n + 1) no (n + 1)) id) (lnF (upd kd n k) (n + 1) 600) (ca, cf, 0) ∧ cl2 ≤ 600) (fun (u9 : (Nat → Int32) × (Nat → Int32) × (Nat → Int32) × Nat) t => match u9 with | (le2, ca2, cf2, cl2) => PQ D A [(qm, .inr (5, [.int (nI 0), .int (nI (n + 1)), .int (nI ni), .int (nI no), .ref mk, .ref m0, .ref m1, .ref mi, .ref mo, .ref ml, .ref mf, .ref ma, .int (nI cl2), .ref mfd, .ref mts, .int (nI 0), .ref mg, .ref mb])), (mk, .inl (cI, 100, .inl (upd kd n k))), (m0, .inl (cI, 100, .inl (upd s0 n (nI a)))), (m1, .inl (cI, 100, .inl (upd s1 n (nI bb)))), (mo, .inl (cI, 12, .inl on)), (ml, .inl (cI, 600, .inl le2)), (mf, .inl (cI, 600, .inl cf2)), (ma, .inl (cI, 600, .inl ca2)), (mfd, .inl (cZ, 600, .inl (clrF fd 600)))] t) A) 0 0 A := by
  refine Met.ofW (cc := cX5_gate) (maxL := 5) (ret := (some .int)) (by decide) rfl ?_
  intro p e s m args below meth c s₁ B hml hv
  obtain ⟨rfl, hsz, ⟨hP, hK, hNB⟩, hD0⟩ := hv
  have hx := B.exec
  have hb := B.bytes
  have hr := B.returns
  have hts := atoms_spec (ws := wsX5_gate) B.pre
  have hown : s.vm.findClass RX5 = some m.cls := findClass_of_methodNamed B.named
  have hlocks := B.notSynchronized
  have hiX5 : ∀ w ∈ u_ws RX5 TX5 18, w ∈ wsX5_gate := by decide +kernel
  subst hsz
  have hD : va_D A [(qm, .inr (5, [.int cd, .int (nI n), .int (nI ni), .int (nI no), .ref mk, .ref m0, .ref m1, .ref mi, .ref mo, .ref ml, .ref mf, .ref ma, .int (nI cl), .ref mfd, .ref mts, .int (nI tc), .ref mg, .ref mb])), (mk, .inl (cI, 100, .inl kd)), (m0, .inl (cI, 100, .inl s0)), (m1, .inl (cI, 100, .inl s1)), (mo, .inl (cI, 12, .inl on)), (ml, .inl (cI, 600, .inl le)), (mf, .inl (cI, 600, .inl cf)), (ma, .inl (cI, 600, .inl ca)), (mfd, .inl (cZ, 600, .inl fd))] := by rw [hAe]; exact hD0.self
  have hA : ∀ q : Nat, s.heap.size ≤ q → A q := fun q h => by rw [hAe]; exact Or.inr h
  have hS : va_S A s.heap s.heap [] := va_S.rf
  have hl := lv_entry ([.ref qm, .int k, .int (nI a), .int b]) (n := 5) (Nat.le_of_ble_eq_true rfl)
  rw [lg_entry_eq]
  generalize (lg_sl ([.ref qm, .int k, .int (nI a), .int b]) ++ List.replicate (5 - (lg_sl ([.ref qm, .int k, .int (nI a), .int b])).length) Slot.unset).toArray = ls at hl ⊢
  have hl : lv_has ls 5 [(0, .ref qm), (1, .int k), (2, .int (nI a)), (3, .int b)] := hl
  refine lv_iload_n hx hb dX5_gate_0 rfl (lv_at hl 1 rfl) ?_
  refine lv_iconst (v := (nI 5)) hx hb dX5_gate_1 (by decide) ?_
  refine lv_icmp_eq (tgt := 11) hx hb dX5_gate_2 (by decide) (fun c_2 => ?_) (fun c_2 => ?_)
  · skip
    refine lv_iconst (v := (nI 1)) hx hb dX5_gate_11 (by decide) ?_
    refine lv_goto (tgt := 16) hx hb dX5_gate_12 (by decide) ?_
    refine lv_istore (lv' := [(4, .int (nI 1)), (0, .ref qm), (1, .int k), (2, .int (nI a)), (3, .int b)]) hx hb dX5_gate_16 hl (by decide) rfl (fun ls hl => ?_)
    refine lv_aload_n hx hb dX5_gate_18 rfl (lv_at hl 1 rfl) ?_
    refine lv_aload_n hx hb dX5_gate_19 rfl (lv_at hl 1 rfl) ?_
    refine lv_iload_n hx hb dX5_gate_20 rfl (lv_at hl 3 rfl) ?_
    have hPc := hP.sub (ws' := [(qm, .inr (5, [.int cd, .int (nI n), .int (nI ni), .int (nI no), .ref mk, .ref m0, .ref m1, .ref mi, .ref mo, .ref ml, .ref mf, .ref ma, .int (nI cl), .ref mfd, .ref mts, .int (nI tc), .ref mg, .ref mb]))]) [0] rfl
    refine vp_callSi (va_runV (As := [.int (nI a)]) (rest := [.ref qm]) ⟨hx, hb, hml, hown, hts⟩ (c_X5_isNet l D cI cJ cZ qm mk m0 m1 mi mo ml mf ma mfd mts mg mb cd n ni no cl tc (nI a)) (cwV 1 hts gX5_gate_X5_isNet rfl rfl rfl (by decide +kernel) ⟨Nat.le_of_ble_eq_true rfl, Nat.le_of_ble_eq_true rfl⟩) ⟨PR.blind, va_recv hK hPc (ci := 5) (q0 := 0) rfl rfl, fun U hU hW => ⟨rfl, PR.to hPc hK hNB hU hW⟩⟩ rfl rfl hl.1 rfl (lv_room (Nat.le_of_ble_eq_true rfl)) dX5_gate_21 ⟨Nat.le_of_ble_eq_true rfl, Nat.le_of_ble_eq_true rfl⟩).run (fun r_1 hrr_1 => ?_)
    subst hrr_1
    refine lv_if_eq (tgt := 40) hx hb dX5_gate_24 (by decide) (fun c_24 => ?_) (fun c_24 => ?_)
    · skip
      rw [zc_if0] at c_24
      exact absurd (isN_nI (by omega) ha) c_24
    · skip
      rw [zc_if0] at c_24
      have c_24 := Classical.not_not.mp c_24
      refine lv_iload hx hb dX5_gate_27 (lv_at hl 0 rfl) ?_
      refine lv_if_ne (tgt := 44) hx hb dX5_gate_29 (by decide) (fun c_29 => ?_) (fun c_29 => ?_)
      · skip
        refine lv_aload_n hx hb dX5_gate_44 rfl (lv_at hl 1 rfl) ?_
        refine va_get (D := D) (ci := 5) (v := .int (nI n)) (C := RX5) (T := TX5) (N := 18) hx hb hts hiX5 hown hK hP 0 rfl rfl 1 (by decide) (hts (.fieldLink RX5 52 "FaultSearchModel" "nets" "I") (by decide +kernel)) (fun _ h9 => h9) rfl dX5_gate_45 ?_
        refine lv_bipush (v := (nI 100)) hx hb dX5_gate_48 (by decide) ?_
        refine lv_icmp_ne (tgt := 57) hx hb dX5_gate_50 (by decide) (fun c_50 => ?_) (fun c_50 => ?_)
        · skip
          rw [zc_eq (by omega) (by omega)] at c_50
          refine lv_iload_n hx hb dX5_gate_57 rfl (lv_at hl 2 rfl) ?_
          refine lv_if_lt (tgt := 67) hx hb dX5_gate_58 (by decide) (fun c_58 => ?_) (fun c_58 => ?_)
          · skip
            exact absurd c_58 hk1
          · skip
            refine lv_iload_n hx hb dX5_gate_61 rfl (lv_at hl 2 rfl) ?_
            refine lv_bipush (v := (nI 6)) hx hb dX5_gate_62 (by decide) ?_
            refine lv_icmp_le (tgt := 71) hx hb dX5_gate_64 (by decide) (fun c_64 => ?_) (fun c_64 => ?_)
            · skip
              refine lv_iconst (v := (nI 0)) hx hb dX5_gate_71 (by decide) ?_
              have hPc := hP.sub (ws' := [(qm, .inr (5, [.int cd, .int (nI n), .int (nI ni), .int (nI no), .ref mk, .ref m0, .ref m1, .ref mi, .ref mo, .ref ml, .ref mf, .ref ma, .int (nI cl), .ref mfd, .ref mts, .int (nI tc), .ref mg, .ref mb]))]) [0] rfl
              have hDc := hD.sub (ws' := [(qm, .inr (5, [.int cd, .int (nI n), .int (nI ni), .int (nI no), .ref mk, .ref m0, .ref m1, .ref mi, .ref mo, .ref ml, .ref mf, .ref ma, .int (nI cl), .ref mfd, .ref mts, .int (nI tc), .ref mg, .ref mb]))]) [0] (by decide) rfl
              have hFc := va_free (wc := [(qm, .inr (5, [.int cd, .int (nI n), .int (nI ni), .int (nI no), .ref mk, .ref m0, .ref m1, .ref mi, .ref mo, .ref ml, .ref mf, .ref ma, .int (nI cl), .ref mfd, .ref mts, .int (nI tc), .ref mg, .ref mb]))]) hD hS hA [0] rfl
              refine va_calli (va_runV (As := [.int (nI 0)]) (rest := []) ⟨hx, hb, hml, hown, hts⟩ (c_X5_refuses l D cI cJ cZ qm mk m0 m1 mi mo ml mf ma mfd mts mg mb cd n ni no cl tc 0 s.heap.size _ rfl (by omega)) (cwV 1 hts gX5_gate_X5_refuses rfl rfl rfl (by decide +kernel) ⟨Nat.le_of_ble_eq_true rfl, Nat.le_of_ble_eq_true rfl⟩) ⟨PW.blind, va_recv hK hPc (ci := 5) (q0 := 0) rfl rfl, fun U hU hW => ⟨rfl, PW.to hPc hK hNB hDc hU hW⟩⟩ rfl rfl hl.1 rfl (lv_room (Nat.le_of_ble_eq_true rfl)) dX5_gate_72 ⟨Nat.le_of_ble_eq_true rfl, Nat.le_of_ble_eq_true rfl⟩) hS (fun q _ h => hFc q h) hFc (fun r_2 u_9 t_9 H1_9 locs ht_9 hvm_9 hw_9 hB_9 hz1_9 hk1_9 hS => ?_)
              obtain ⟨hP1_9, hD1_9⟩ := hB_9
              rw [ht_9] at hP1_9
              obtain rfl := hw_9
              obtain ⟨hP, hD⟩ := va_join (wr := [(mk, .inl (cI, 100, .inl kd)), (m0, .inl (cI, 100, .inl s0)), (m1, .inl (cI, 100, .inl s1)), (mo, .inl (cI, 12, .inl on)), (ml, .inl (cI, 600, .inl le)), (mf, .inl (cI, 600, .inl cf)), (ma, .inl (cI, 600, .inl ca)), (mfd, .inl (cZ, 600, .inl fd))]) (w1 := [(qm, .inr (5, [.int (nI 0), .int (nI n), .int (nI ni), .int (nI no), .ref mk, .ref m0, .ref m1, .ref mi, .ref mo, .ref ml, .ref mf, .ref ma, .int (nI cl), .ref mfd, .ref mts, .int (nI tc), .ref mg, .ref mb]))]) hP hD [0] [1, 2, 3, 4, 5, 6, 7, 8] rfl rfl (by decide) (by decide) hk1_9 hFc hP1_9 hD1_9
              have hP := hP.sub (ws' := [(qm, .inr (5, [.int (nI 0), .int (nI n), .int (nI ni), .int (nI no), .ref mk, .ref m0, .ref m1, .ref mi, .ref mo, .ref ml, .ref mf, .ref ma, .int (nI cl), .ref mfd, .ref mts, .int (nI tc), .ref mg, .ref mb])), (mk, .inl (cI, 100, .inl kd)), (m0, .inl (cI, 100, .inl s0)), (m1, .inl (cI, 100, .inl s1)), (mo, .inl (cI, 12, .inl on)), (ml, .inl (cI, 600, .inl le)), (mf, .inl (cI, 600, .inl cf)), (ma, .inl (cI, 600, .inl ca)), (mfd, .inl (cZ, 600, .inl fd))]) [8, 0, 1, 2, 3, 4, 5, 6, 7] rfl
              have hD := hD.sub (ws' := [(qm, .inr (5, [.int (nI 0), .int (nI n), .int (nI ni), .int (nI no), .ref mk, .ref m0, .ref m1, .ref mi, .ref mo, .ref ml, .ref mf, .ref ma, .int (nI cl), .ref mfd, .ref mts, .int (nI tc), .ref mg, .ref mb])), (mk, .inl (cI, 100, .inl kd)), (m0, .inl (cI, 100, .inl s0)), (m1, .inl (cI, 100, .inl s1)), (mo, .inl (cI, 12, .inl on)), (ml, .inl (cI, 600, .inl le)), (mf, .inl (cI, 600, .inl cf)), (ma, .inl (cI, 600, .inl ca)), (mfd, .inl (cZ, 600, .inl fd))]) [8, 0, 1, 2, 3, 4, 5, 6, 7] (by decide) rfl
              generalize H1_9 = H at hP hS ⊢
              have hP : va_P D vwCl [(qm, .inr (5, [.int (nI 0), .int (nI n), .int (nI ni), .int (nI no), .ref mk, .ref m0, .ref m1, .ref mi, .ref mo, .ref ml, .ref mf, .ref ma, .int (nI cl), .ref mfd, .ref mts, .int (nI tc), .ref mg, .ref mb])), (mk, .inl (cI, 100, .inl kd)), (m0, .inl (cI, 100, .inl s0)), (m1, .inl (cI, 100, .inl s1)), (mo, .inl (cI, 12, .inl on)), (ml, .inl (cI, 600, .inl le)), (mf, .inl (cI, 600, .inl cf)), (ma, .inl (cI, 600, .inl ca)), (mfd, .inl (cZ, 600, .inl fd))] H := hP
              have hD : va_D A [(qm, .inr (5, [.int (nI 0), .int (nI n), .int (nI ni), .int (nI no), .ref mk, .ref m0, .ref m1, .ref mi, .ref mo, .ref ml, .ref mf, .ref ma, .int (nI cl), .ref mfd, .ref mts, .int (nI tc), .ref mg, .ref mb])), (mk, .inl (cI, 100, .inl kd)), (m0, .inl (cI, 100, .inl s0)), (m1, .inl (cI, 100, .inl s1)), (mo, .inl (cI, 12, .inl on)), (ml, .inl (cI, 600, .inl le)), (mf, .inl (cI, 600, .inl cf)), (ma, .inl (cI, 600, .inl ca)), (mfd, .inl (cZ, 600, .inl fd))] := hD
              refine lv_if_eq (tgt := 80) hx hb dX5_gate_75 (by decide) (fun c_75 => ?_) (fun c_75 => ?_)
              · skip
                rw [zc_if0] at c_75
                refine lv_aload_n hx hb dX5_gate_80 rfl (lv_at hl 1 rfl) ?_
                refine va_get (D := D) (ci := 5) (v := .ref mk) (C := RX5) (T := TX5) (N := 18) hx hb hts hiX5 hown hK hP 0 rfl rfl 4 (by decide) (hts (.fieldLink RX5 7 "FaultSearchModel" "kinds" "[I") (by decide +kernel)) (fun _ h9 => h9) rfl dX5_gate_81 ?_
                refine lv_aload_n hx hb dX5_gate_84 rfl (lv_at hl 1 rfl) ?_
                refine va_get (D := D) (ci := 5) (v := .int (nI n)) (C := RX5) (T := TX5) (N := 18) hx hb hts hiX5 hown hK hP 0 rfl rfl 1 (by decide) (hts (.fieldLink RX5 52 "FaultSearchModel" "nets" "I") (by decide +kernel)) (fun _ h9 => h9) rfl dX5_gate_85 ?_
                refine lv_iload_n hx hb dX5_gate_88 rfl (lv_at hl 2 rfl) ?_
                refine zz_iast hx hb hK hP hD hS 1 0 rfl rfl (n := 100) (j := n) (by omega) (by decide) dX5_gate_89 (fun H locs hP hD hS => ?_)
                have hP : va_P D vwCl [(qm, .inr (5, [.int (nI 0), .int (nI n), .int (nI ni), .int (nI no), .ref mk, .ref m0, .ref m1, .ref mi, .ref mo, .ref ml, .ref mf, .ref ma, .int (nI cl), .ref mfd, .ref mts, .int (nI tc), .ref mg, .ref mb])), (mk, .inl (cI, 100, .inl (upd kd n k))), (m0, .inl (cI, 100, .inl s0)), (m1, .inl (cI, 100, .inl s1)), (mo, .inl (cI, 12, .inl on)), (ml, .inl (cI, 600, .inl le)), (mf, .inl (cI, 600, .inl cf)), (ma, .inl (cI, 600, .inl ca)), (mfd, .inl (cZ, 600, .inl fd))] H := hP
                have hD : va_D A [(qm, .inr (5, [.int (nI 0), .int (nI n), .int (nI ni), .int (nI no), .ref mk, .ref m0, .ref m1, .ref mi, .ref mo, .ref ml, .ref mf, .ref ma, .int (nI cl), .ref mfd, .ref mts, .int (nI tc), .ref mg, .ref mb])), (mk, .inl (cI, 100, .inl (upd kd n k))), (m0, .inl (cI, 100, .inl s0)), (m1, .inl (cI, 100, .inl s1)), (mo, .inl (cI, 12, .inl on)), (ml, .inl (cI, 600, .inl le)), (mf, .inl (cI, 600, .inl cf)), (ma, .inl (cI, 600, .inl ca)), (mfd, .inl (cZ, 600, .inl fd))] := hD
                refine lv_aload_n hx hb dX5_gate_90 rfl (lv_at hl 1 rfl) ?_
                refine va_get (D := D) (ci := 5) (v := .ref m0) (C := RX5) (T := TX5) (N := 18) hx hb hts hiX5 hown hK hP 0 rfl rfl 5 (by decide) (hts (.fieldLink RX5 13 "FaultSearchModel" "firsts" "[I") (by decide +kernel)) (fun _ h9 => h9) rfl dX5_gate_91 ?_
                refine lv_aload_n hx hb dX5_gate_94 rfl (lv_at hl 1 rfl) ?_
                refine va_get (D := D) (ci := 5) (v := .int (nI n)) (C := RX5) (T := TX5) (N := 18) hx hb hts hiX5 hown hK hP 0 rfl rfl 1 (by decide) (hts (.fieldLink RX5 52 "FaultSearchModel" "nets" "I") (by decide +kernel)) (fun _ h9 => h9) rfl dX5_gate_95 ?_
                refine lv_iload_n hx hb dX5_gate_98 rfl (lv_at hl 3 rfl) ?_
                refine zz_iast hx hb hK hP hD hS 2 0 rfl rfl (n := 100) (j := n) (by omega) (by decide) dX5_gate_99 (fun H locs hP hD hS => ?_)
                have hP : va_P D vwCl [(qm, .inr (5, [.int (nI 0), .int (nI n), .int (nI ni), .int (nI no), .ref mk, .ref m0, .ref m1, .ref mi, .ref mo, .ref ml, .ref mf, .ref ma, .int (nI cl), .ref mfd, .ref mts, .int (nI tc), .ref mg, .ref mb])), (mk, .inl (cI, 100, .inl (upd kd n k))), (m0, .inl (cI, 100, .inl (upd s0 n (nI a)))), (m1, .inl (cI, 100, .inl s1)), (mo, .inl (cI, 12, .inl on)), (ml, .inl (cI, 600, .inl le)), (mf, .inl (cI, 600, .inl cf)), (ma, .inl (cI, 600, .inl ca)), (mfd, .inl (cZ, 600, .inl fd))] H := hP
                have hD : va_D A [(qm, .inr (5, [.int (nI 0), .int (nI n), .int (nI ni), .int (nI no), .ref mk, .ref m0, .ref m1, .ref mi, .ref mo, .ref ml, .ref mf, .ref ma, .int (nI cl), .ref mfd, .ref mts, .int (nI tc), .ref mg, .ref mb])), (mk, .inl (cI, 100, .inl (upd kd n k))), (m0, .inl (cI, 100, .inl (upd s0 n (nI a)))), (m1, .inl (cI, 100, .inl s1)), (mo, .inl (cI, 12, .inl on)), (ml, .inl (cI, 600, .inl le)), (mf, .inl (cI, 600, .inl cf)), (ma, .inl (cI, 600, .inl ca)), (mfd, .inl (cZ, 600, .inl fd))] := hD
                refine lv_aload_n hx hb dX5_gate_100 rfl (lv_at hl 1 rfl) ?_
                refine va_get (D := D) (ci := 5) (v := .ref m1) (C := RX5) (T := TX5) (N := 18) hx hb hts hiX5 hown hK hP 0 rfl rfl 6 (by decide) (hts (.fieldLink RX5 16 "FaultSearchModel" "seconds" "[I") (by decide +kernel)) (fun _ h9 => h9) rfl dX5_gate_101 ?_
                refine lv_aload_n hx hb dX5_gate_104 rfl (lv_at hl 1 rfl) ?_
                refine va_get (D := D) (ci := 5) (v := .int (nI n)) (C := RX5) (T := TX5) (N := 18) hx hb hts hiX5 hown hK hP 0 rfl rfl 1 (by decide) (hts (.fieldLink RX5 52 "FaultSearchModel" "nets" "I") (by decide +kernel)) (fun _ h9 => h9) rfl dX5_gate_105 ?_
                refine lv_iload hx hb dX5_gate_108 (lv_at hl 0 rfl) ?_
                refine lv_if_eq (tgt := 117) hx hb dX5_gate_110 (by decide) (fun c_110 => ?_) (fun c_110 => ?_)
                · skip
                  exact absurd c_110 (by decide)
                · skip
                  refine lv_iload_n hx hb dX5_gate_113 rfl (lv_at hl 3 rfl) ?_
                  refine lv_goto (tgt := 118) hx hb dX5_gate_114 (by decide) ?_
                  refine zz_i (z := (nI bb)) (by have h9 := hbb; rw [if_pos (by simp_all [onePin])] at h9; exact h9) ?_
                  refine zz_iast hx hb hK hP hD hS 3 0 rfl rfl (n := 100) (j := n) (by omega) (by decide) dX5_gate_118 (fun H locs hP hD hS => ?_)
                  have hP : va_P D vwCl [(qm, .inr (5, [.int (nI 0), .int (nI n), .int (nI ni), .int (nI no), .ref mk, .ref m0, .ref m1, .ref mi, .ref mo, .ref ml, .ref mf, .ref ma, .int (nI cl), .ref mfd, .ref mts, .int (nI tc), .ref mg, .ref mb])), (mk, .inl (cI, 100, .inl (upd kd n k))), (m0, .inl (cI, 100, .inl (upd s0 n (nI a)))), (m1, .inl (cI, 100, .inl (upd s1 n (nI bb)))), (mo, .inl (cI, 12, .inl on)), (ml, .inl (cI, 600, .inl le)), (mf, .inl (cI, 600, .inl cf)), (ma, .inl (cI, 600, .inl ca)), (mfd, .inl (cZ, 600, .inl fd))] H := hP
                  have hD : va_D A [(qm, .inr (5, [.int (nI 0), .int (nI n), .int (nI ni), .int (nI no), .ref mk, .ref m0, .ref m1, .ref mi, .ref mo, .ref ml, .ref mf, .ref ma, .int (nI cl), .ref mfd, .ref mts, .int (nI tc), .ref mg, .ref mb])), (mk, .inl (cI, 100, .inl (upd kd n k))), (m0, .inl (cI, 100, .inl (upd s0 n (nI a)))), (m1, .inl (cI, 100, .inl (upd s1 n (nI bb)))), (mo, .inl (cI, 12, .inl on)), (ml, .inl (cI, 600, .inl le)), (mf, .inl (cI, 600, .inl cf)), (ma, .inl (cI, 600, .inl ca)), (mfd, .inl (cZ, 600, .inl fd))] := hD
                  refine lv_aload_n hx hb dX5_gate_119 rfl (lv_at hl 1 rfl) ?_
                  refine lv_dup hx hb dX5_gate_120 rfl ?_
                  refine va_get (D := D) (ci := 5) (v := .int (nI n)) (C := RX5) (T := TX5) (N := 18) hx hb hts hiX5 hown hK hP 0 rfl rfl 1 (by decide) (hts (.fieldLink RX5 52 "FaultSearchModel" "nets" "I") (by decide +kernel)) (fun _ h9 => h9) rfl dX5_gate_121 ?_
                  refine lv_iconst (v := (nI 1)) hx hb dX5_gate_124 (by decide) ?_
                  refine lv_iadd hx hb dX5_gate_125 ?_
                  refine zz_i (z := (nI (n + 1))) (nI_add _ _) ?_
                  refine va_put (D := D) (ci := 5) (v := .int (nI (n + 1))) (ty := .int) (C := RX5) (T := TX5) (N := 18) hx hb hts hiX5 tyX5 tyX5_ok nmX5 hown hK hP hD hS 0 rfl rfl 1 (by decide) (hts (.fieldLink RX5 52 "FaultSearchModel" "nets" "I") (by decide +kernel)) (fun _ h9 => h9) rfl (by decide +kernel) rfl rfl (Nat.le_of_ble_eq_true rfl) dX5_gate_126 (fun H locs hP hD hS => ?_)
                  have hP : va_P D vwCl [(qm, .inr (5, [.int (nI 0), .int (nI (n + 1)), .int (nI ni), .int (nI no), .ref mk, .ref m0, .ref m1, .ref mi, .ref mo, .ref ml, .ref mf, .ref ma, .int (nI cl), .ref mfd, .ref mts, .int (nI tc), .ref mg, .ref mb])), (mk, .inl (cI, 100, .inl (upd kd n k))), (m0, .inl (cI, 100, .inl (upd s0 n (nI a)))), (m1, .inl (cI, 100, .inl (upd s1 n (nI bb)))), (mo, .inl (cI, 12, .inl on)), (ml, .inl (cI, 600, .inl le)), (mf, .inl (cI, 600, .inl cf)), (ma, .inl (cI, 600, .inl ca)), (mfd, .inl (cZ, 600, .inl fd))] H := hP
                  have hD : va_D A [(qm, .inr (5, [.int (nI 0), .int (nI (n + 1)), .int (nI ni), .int (nI no), .ref mk, .ref m0, .ref m1, .ref mi, .ref mo, .ref ml, .ref mf, .ref ma, .int (nI cl), .ref mfd, .ref mts, .int (nI tc), .ref mg, .ref mb])), (mk, .inl (cI, 100, .inl (upd kd n k))), (m0, .inl (cI, 100, .inl (upd s0 n (nI a)))), (m1, .inl (cI, 100, .inl (upd s1 n (nI bb)))), (mo, .inl (cI, 12, .inl on)), (ml, .inl (cI, 600, .inl le)), (mf, .inl (cI, 600, .inl cf)), (ma, .inl (cI, 600, .inl ca)), (mfd, .inl (cZ, 600, .inl fd))] := hD
                  refine lv_aload_n hx hb dX5_gate_129 rfl (lv_at hl 1 rfl) ?_
                  have hPc := hP.sub (ws' := [(qm, .inr (5, [.int (nI 0), .int (nI (n + 1)), .int (nI ni), .int (nI no), .ref mk, .ref m0, .ref m1, .ref mi, .ref mo, .ref ml, .ref mf, .ref ma, .int (nI cl), .ref mfd, .ref mts, .int (nI tc), .ref mg, .ref mb])), (mk, .inl (cI, 100, .inl (upd kd n k))), (m0, .inl (cI, 100, .inl (upd s0 n (nI a)))), (m1, .inl (cI, 100, .inl (upd s1 n (nI bb)))), (mo, .inl (cI, 12, .inl on)), (ml, .inl (cI, 600, .inl le)), (mf, .inl (cI, 600, .inl cf)), (ma, .inl (cI, 600, .inl ca)), (mfd, .inl (cZ, 600, .inl fd))]) [0, 1, 2, 3, 4, 5, 6, 7, 8] rfl
                  have hDc := hD.sub (ws' := [(qm, .inr (5, [.int (nI 0), .int (nI (n + 1)), .int (nI ni), .int (nI no), .ref mk, .ref m0, .ref m1, .ref mi, .ref mo, .ref ml, .ref mf, .ref ma, .int (nI cl), .ref mfd, .ref mts, .int (nI tc), .ref mg, .ref mb])), (mk, .inl (cI, 100, .inl (upd kd n k))), (m0, .inl (cI, 100, .inl (upd s0 n (nI a)))), (m1, .inl (cI, 100, .inl (upd s1 n (nI bb)))), (mo, .inl (cI, 12, .inl on)), (ml, .inl (cI, 600, .inl le)), (mf, .inl (cI, 600, .inl cf)), (ma, .inl (cI, 600, .inl ca)), (mfd, .inl (cZ, 600, .inl fd))]) [0, 1, 2, 3, 4, 5, 6, 7, 8] (by decide) rfl
                  have hFc := va_free (wc := [(qm, .inr (5, [.int (nI 0), .int (nI (n + 1)), .int (nI ni), .int (nI no), .ref mk, .ref m0, .ref m1, .ref mi, .ref mo, .ref ml, .ref mf, .ref ma, .int (nI cl), .ref mfd, .ref mts, .int (nI tc), .ref mg, .ref mb])), (mk, .inl (cI, 100, .inl (upd kd n k))), (m0, .inl (cI, 100, .inl (upd s0 n (nI a)))), (m1, .inl (cI, 100, .inl (upd s1 n (nI bb)))), (mo, .inl (cI, 12, .inl on)), (ml, .inl (cI, 600, .inl le)), (mf, .inl (cI, 600, .inl cf)), (ma, .inl (cI, 600, .inl ca)), (mfd, .inl (cZ, 600, .inl fd))]) hD hS hA [0, 1, 2, 3, 4, 5, 6, 7, 8] rfl
                  refine va_callv (va_runV (As := []) (rest := []) ⟨hx, hb, hml, hown, hts⟩ (c_X5_build l D cI cJ cZ qm mk m0 m1 mi mo ml mf ma mfd mts mg mb (nI 0) (n + 1) ni no cl tc (upd kd n k) (upd s0 n (nI a)) (upd s1 n (nI bb)) on le cf ca fd H.size _ rfl (by omega) (by omega) (hwf.gat ha hb2 h2) (hwo.grow (by omega)) (hkd.gat hkk)) (cwV 0 hts gX5_gate_X5_build rfl rfl rfl (by decide +kernel) ⟨Nat.le_of_ble_eq_true rfl, Nat.le_of_ble_eq_true rfl⟩) ⟨PW.blind, va_recv hK hPc (ci := 5) (q0 := 0) rfl rfl, fun U hU hW => ⟨rfl, PW.to hPc hK hNB hDc hU hW⟩⟩ rfl rfl hl.1 rfl (lv_room (Nat.le_of_ble_eq_true rfl)) dX5_gate_130 ⟨Nat.le_of_ble_eq_true rfl, Nat.le_of_ble_eq_true rfl⟩) hS (fun q _ h => hFc q h) hFc (fun u_9 t_9 H1_9 locs ht_9 hvm_9 hw_9 hB_9 hz1_9 hk1_9 hS => ?_)
                  obtain ⟨le2_4, ca2_5, cf2_6, cl2_7⟩ := u_9
                  obtain ⟨hP1_9, hD1_9⟩ := hB_9
                  rw [ht_9] at hP1_9
                  obtain ⟨k_E, k_C⟩ := hw_9
                  have k_E : (ca2_5, cf2_6, cl2_7) = mE (mrgs (srP (upd kd n k) (upd s0 n (nI a)) (upd s1 n (nI bb)) on (n + 1) no (n + 1)) id) (lnF (upd kd n k) (n + 1) 600) (ca, cf, 0) := k_E
                  have k_C : cl2_7 ≤ 600 := k_C
                  obtain ⟨hP, hD⟩ := va_join (wr := []) (w1 := [(qm, .inr (5, [.int (nI 0), .int (nI (n + 1)), .int (nI ni), .int (nI no), .ref mk, .ref m0, .ref m1, .ref mi, .ref mo, .ref ml, .ref mf, .ref ma, .int (nI cl2_7), .ref mfd, .ref mts, .int (nI 0), .ref mg, .ref mb])), (mk, .inl (cI, 100, .inl (upd kd n k))), (m0, .inl (cI, 100, .inl (upd s0 n (nI a)))), (m1, .inl (cI, 100, .inl (upd s1 n (nI bb)))), (mo, .inl (cI, 12, .inl on)), (ml, .inl (cI, 600, .inl le2_4)), (mf, .inl (cI, 600, .inl cf2_6)), (ma, .inl (cI, 600, .inl ca2_5)), (mfd, .inl (cZ, 600, .inl (clrF fd 600)))]) hP hD [0, 1, 2, 3, 4, 5, 6, 7, 8] [] rfl rfl (by decide) (by decide) hk1_9 hFc hP1_9 hD1_9
                  generalize H1_9 = H at hP hS ⊢
                  have hP : va_P D vwCl [(qm, .inr (5, [.int (nI 0), .int (nI (n + 1)), .int (nI ni), .int (nI no), .ref mk, .ref m0, .ref m1, .ref mi, .ref mo, .ref ml, .ref mf, .ref ma, .int (nI cl2_7), .ref mfd, .ref mts, .int (nI 0), .ref mg, .ref mb])), (mk, .inl (cI, 100, .inl (upd kd n k))), (m0, .inl (cI, 100, .inl (upd s0 n (nI a)))), (m1, .inl (cI, 100, .inl (upd s1 n (nI bb)))), (mo, .inl (cI, 12, .inl on)), (ml, .inl (cI, 600, .inl le2_4)), (mf, .inl (cI, 600, .inl cf2_6)), (ma, .inl (cI, 600, .inl ca2_5)), (mfd, .inl (cZ, 600, .inl (clrF fd 600)))] H := hP
                  have hD : va_D A [(qm, .inr (5, [.int (nI 0), .int (nI (n + 1)), .int (nI ni), .int (nI no), .ref mk, .ref m0, .ref m1, .ref mi, .ref mo, .ref ml, .ref mf, .ref ma, .int (nI cl2_7), .ref mfd, .ref mts, .int (nI 0), .ref mg, .ref mb])), (mk, .inl (cI, 100, .inl (upd kd n k))), (m0, .inl (cI, 100, .inl (upd s0 n (nI a)))), (m1, .inl (cI, 100, .inl (upd s1 n (nI bb)))), (mo, .inl (cI, 12, .inl on)), (ml, .inl (cI, 600, .inl le2_4)), (mf, .inl (cI, 600, .inl cf2_6)), (ma, .inl (cI, 600, .inl ca2_5)), (mfd, .inl (cZ, 600, .inl (clrF fd 600)))] := hD
                  refine lv_aload_n hx hb dX5_gate_133 rfl (lv_at hl 1 rfl) ?_
                  refine va_get (D := D) (ci := 5) (v := .int (nI (n + 1))) (C := RX5) (T := TX5) (N := 18) hx hb hts hiX5 hown hK hP 0 rfl rfl 1 (by decide) (hts (.fieldLink RX5 52 "FaultSearchModel" "nets" "I") (by decide +kernel)) (fun _ h9 => h9) rfl dX5_gate_134 ?_
                  refine lv_iconst (v := (nI 1)) hx hb dX5_gate_137 (by decide) ?_
                  refine lv_isub hx hb dX5_gate_138 ?_
                  refine zz_i (z := (nI ((n + 1) - 1))) (pk_sub (by omega)) ?_
                  exact W.iret (v := (nI ((n + 1) - 1))) hx hb hr (fun t_9 ht_9 hW_9 => ⟨⟨(nI ((n + 1) - 1)), (le2_4, ca2_5, cf2_6, cl2_7), rfl, (show (nI ((n + 1) - 1)) = (nI n) ∧ (ca2_5, cf2_6, cl2_7) = mE (mrgs (srP (upd kd n k) (upd s0 n (nI a)) (upd s1 n (nI bb)) on (n + 1) no (n + 1)) id) (lnF (upd kd n k) (n + 1) 600) (ca, cf, 0) ∧ cl2_7 ≤ 600 from ⟨(congrArg nI (by omega)), k_E, k_C⟩), ⟨by rw [ht_9]; exact hP, hD⟩⟩, hS.F ht_9⟩) hS.2.2 dX5_gate_139
              · skip
                rw [zc_if0] at c_75
                have c_75 := Classical.not_not.mp c_75
                exact absurd c_75 (by decide)
            · skip
              exact absurd hk2 c_64
        · skip
          rw [zc_eq (by omega) (by omega)] at c_50
          exact absurd c_50 (by omega)
      · skip
        exact absurd c_29 (by decide)
  · skip
    refine lv_iload_n hx hb dX5_gate_5 rfl (lv_at hl 1 rfl) ?_
    refine lv_bipush (v := (nI 6)) hx hb dX5_gate_6 (by decide) ?_
    refine lv_icmp_ne (tgt := 15) hx hb dX5_gate_8 (by decide) (fun c_8 => ?_) (fun c_8 => ?_)
    · skip
      refine lv_iconst (v := (nI 0)) hx hb dX5_gate_15 (by decide) ?_
      refine lv_istore (lv' := [(4, .int (nI 0)), (0, .ref qm), (1, .int k), (2, .int (nI a)), (3, .int b)]) hx hb dX5_gate_16 hl (by decide) rfl (fun ls hl => ?_)
      refine lv_aload_n hx hb dX5_gate_18 rfl (lv_at hl 1 rfl) ?_
      refine lv_aload_n hx hb dX5_gate_19 rfl (lv_at hl 1 rfl) ?_
      refine lv_iload_n hx hb dX5_gate_20 rfl (lv_at hl 3 rfl) ?_
      have hPc := hP.sub (ws' := [(qm, .inr (5, [.int cd, .int (nI n), .int (nI ni), .int (nI no), .ref mk, .ref m0, .ref m1, .ref mi, .ref mo, .ref ml, .ref mf, .ref ma, .int (nI cl), .ref mfd, .ref mts, .int (nI tc), .ref mg, .ref mb]))]) [0] rfl
      refine vp_callSi (va_runV (As := [.int (nI a)]) (rest := [.ref qm]) ⟨hx, hb, hml, hown, hts⟩ (c_X5_isNet l D cI cJ cZ qm mk m0 m1 mi mo ml mf ma mfd mts mg mb cd n ni no cl tc (nI a)) (cwV 1 hts gX5_gate_X5_isNet rfl rfl rfl (by decide +kernel) ⟨Nat.le_of_ble_eq_true rfl, Nat.le_of_ble_eq_true rfl⟩) ⟨PR.blind, va_recv hK hPc (ci := 5) (q0 := 0) rfl rfl, fun U hU hW => ⟨rfl, PR.to hPc hK hNB hU hW⟩⟩ rfl rfl hl.1 rfl (lv_room (Nat.le_of_ble_eq_true rfl)) dX5_gate_21 ⟨Nat.le_of_ble_eq_true rfl, Nat.le_of_ble_eq_true rfl⟩).run (fun r_8 hrr_8 => ?_)
      subst hrr_8
      refine lv_if_eq (tgt := 40) hx hb dX5_gate_24 (by decide) (fun c_24 => ?_) (fun c_24 => ?_)
      · skip
        rw [zc_if0] at c_24
        exact absurd (isN_nI (by omega) ha) c_24
      · skip
        rw [zc_if0] at c_24
        have c_24 := Classical.not_not.mp c_24
        refine lv_iload hx hb dX5_gate_27 (lv_at hl 0 rfl) ?_
        refine lv_if_ne (tgt := 44) hx hb dX5_gate_29 (by decide) (fun c_29 => ?_) (fun c_29 => ?_)
        · skip
          exact absurd c_29 (by decide)
        · skip
          refine lv_aload_n hx hb dX5_gate_32 rfl (lv_at hl 1 rfl) ?_
          refine lv_iload_n hx hb dX5_gate_33 rfl (lv_at hl 4 rfl) ?_
          have hPc := hP.sub (ws' := [(qm, .inr (5, [.int cd, .int (nI n), .int (nI ni), .int (nI no), .ref mk, .ref m0, .ref m1, .ref mi, .ref mo, .ref ml, .ref mf, .ref ma, .int (nI cl), .ref mfd, .ref mts, .int (nI tc), .ref mg, .ref mb]))]) [0] rfl
          refine vp_callSi (va_runV (As := [.int b]) (rest := [.ref qm]) ⟨hx, hb, hml, hown, hts⟩ (c_X5_isNet l D cI cJ cZ qm mk m0 m1 mi mo ml mf ma mfd mts mg mb cd n ni no cl tc b) (cwV 1 hts gX5_gate_X5_isNet rfl rfl rfl (by decide +kernel) ⟨Nat.le_of_ble_eq_true rfl, Nat.le_of_ble_eq_true rfl⟩) ⟨PR.blind, va_recv hK hPc (ci := 5) (q0 := 0) rfl rfl, fun U hU hW => ⟨rfl, PR.to hPc hK hNB hU hW⟩⟩ rfl rfl hl.1 rfl (lv_room (Nat.le_of_ble_eq_true rfl)) dX5_gate_34 ⟨Nat.le_of_ble_eq_true rfl, Nat.le_of_ble_eq_true rfl⟩).run (fun r_9 hrr_9 => ?_)
          subst hrr_9
          refine lv_if_ne (tgt := 44) hx hb dX5_gate_37 (by decide) (fun c_37 => ?_) (fun c_37 => ?_)
          · skip
            rw [zc_if0] at c_37
            have c_37 := Classical.not_not.mp c_37
            refine lv_aload_n hx hb dX5_gate_44 rfl (lv_at hl 1 rfl) ?_
            refine va_get (D := D) (ci := 5) (v := .int (nI n)) (C := RX5) (T := TX5) (N := 18) hx hb hts hiX5 hown hK hP 0 rfl rfl 1 (by decide) (hts (.fieldLink RX5 52 "FaultSearchModel" "nets" "I") (by decide +kernel)) (fun _ h9 => h9) rfl dX5_gate_45 ?_
            refine lv_bipush (v := (nI 100)) hx hb dX5_gate_48 (by decide) ?_
            refine lv_icmp_ne (tgt := 57) hx hb dX5_gate_50 (by decide) (fun c_50 => ?_) (fun c_50 => ?_)
            · skip
              rw [zc_eq (by omega) (by omega)] at c_50
              refine lv_iload_n hx hb dX5_gate_57 rfl (lv_at hl 2 rfl) ?_
              refine lv_if_lt (tgt := 67) hx hb dX5_gate_58 (by decide) (fun c_58 => ?_) (fun c_58 => ?_)
              · skip
                exact absurd c_58 hk1
              · skip
                refine lv_iload_n hx hb dX5_gate_61 rfl (lv_at hl 2 rfl) ?_
                refine lv_bipush (v := (nI 6)) hx hb dX5_gate_62 (by decide) ?_
                refine lv_icmp_le (tgt := 71) hx hb dX5_gate_64 (by decide) (fun c_64 => ?_) (fun c_64 => ?_)
                · skip
                  refine lv_iconst (v := (nI 0)) hx hb dX5_gate_71 (by decide) ?_
                  have hPc := hP.sub (ws' := [(qm, .inr (5, [.int cd, .int (nI n), .int (nI ni), .int (nI no), .ref mk, .ref m0, .ref m1, .ref mi, .ref mo, .ref ml, .ref mf, .ref ma, .int (nI cl), .ref mfd, .ref mts, .int (nI tc), .ref mg, .ref mb]))]) [0] rfl
                  have hDc := hD.sub (ws' := [(qm, .inr (5, [.int cd, .int (nI n), .int (nI ni), .int (nI no), .ref mk, .ref m0, .ref m1, .ref mi, .ref mo, .ref ml, .ref mf, .ref ma, .int (nI cl), .ref mfd, .ref mts, .int (nI tc), .ref mg, .ref mb]))]) [0] (by decide) rfl
                  have hFc := va_free (wc := [(qm, .inr (5, [.int cd, .int (nI n), .int (nI ni), .int (nI no), .ref mk, .ref m0, .ref m1, .ref mi, .ref mo, .ref ml, .ref mf, .ref ma, .int (nI cl), .ref mfd, .ref mts, .int (nI tc), .ref mg, .ref mb]))]) hD hS hA [0] rfl
                  refine va_calli (va_runV (As := [.int (nI 0)]) (rest := []) ⟨hx, hb, hml, hown, hts⟩ (c_X5_refuses l D cI cJ cZ qm mk m0 m1 mi mo ml mf ma mfd mts mg mb cd n ni no cl tc 0 s.heap.size _ rfl (by omega)) (cwV 1 hts gX5_gate_X5_refuses rfl rfl rfl (by decide +kernel) ⟨Nat.le_of_ble_eq_true rfl, Nat.le_of_ble_eq_true rfl⟩) ⟨PW.blind, va_recv hK hPc (ci := 5) (q0 := 0) rfl rfl, fun U hU hW => ⟨rfl, PW.to hPc hK hNB hDc hU hW⟩⟩ rfl rfl hl.1 rfl (lv_room (Nat.le_of_ble_eq_true rfl)) dX5_gate_72 ⟨Nat.le_of_ble_eq_true rfl, Nat.le_of_ble_eq_true rfl⟩) hS (fun q _ h => hFc q h) hFc (fun r_10 u_9 t_9 H1_9 locs ht_9 hvm_9 hw_9 hB_9 hz1_9 hk1_9 hS => ?_)
                  obtain ⟨hP1_9, hD1_9⟩ := hB_9
                  rw [ht_9] at hP1_9
                  obtain rfl := hw_9
                  obtain ⟨hP, hD⟩ := va_join (wr := [(mk, .inl (cI, 100, .inl kd)), (m0, .inl (cI, 100, .inl s0)), (m1, .inl (cI, 100, .inl s1)), (mo, .inl (cI, 12, .inl on)), (ml, .inl (cI, 600, .inl le)), (mf, .inl (cI, 600, .inl cf)), (ma, .inl (cI, 600, .inl ca)), (mfd, .inl (cZ, 600, .inl fd))]) (w1 := [(qm, .inr (5, [.int (nI 0), .int (nI n), .int (nI ni), .int (nI no), .ref mk, .ref m0, .ref m1, .ref mi, .ref mo, .ref ml, .ref mf, .ref ma, .int (nI cl), .ref mfd, .ref mts, .int (nI tc), .ref mg, .ref mb]))]) hP hD [0] [1, 2, 3, 4, 5, 6, 7, 8] rfl rfl (by decide) (by decide) hk1_9 hFc hP1_9 hD1_9
                  have hP := hP.sub (ws' := [(qm, .inr (5, [.int (nI 0), .int (nI n), .int (nI ni), .int (nI no), .ref mk, .ref m0, .ref m1, .ref mi, .ref mo, .ref ml, .ref mf, .ref ma, .int (nI cl), .ref mfd, .ref mts, .int (nI tc), .ref mg, .ref mb])), (mk, .inl (cI, 100, .inl kd)), (m0, .inl (cI, 100, .inl s0)), (m1, .inl (cI, 100, .inl s1)), (mo, .inl (cI, 12, .inl on)), (ml, .inl (cI, 600, .inl le)), (mf, .inl (cI, 600, .inl cf)), (ma, .inl (cI, 600, .inl ca)), (mfd, .inl (cZ, 600, .inl fd))]) [8, 0, 1, 2, 3, 4, 5, 6, 7] rfl
                  have hD := hD.sub (ws' := [(qm, .inr (5, [.int (nI 0), .int (nI n), .int (nI ni), .int (nI no), .ref mk, .ref m0, .ref m1, .ref mi, .ref mo, .ref ml, .ref mf, .ref ma, .int (nI cl), .ref mfd, .ref mts, .int (nI tc), .ref mg, .ref mb])), (mk, .inl (cI, 100, .inl kd)), (m0, .inl (cI, 100, .inl s0)), (m1, .inl (cI, 100, .inl s1)), (mo, .inl (cI, 12, .inl on)), (ml, .inl (cI, 600, .inl le)), (mf, .inl (cI, 600, .inl cf)), (ma, .inl (cI, 600, .inl ca)), (mfd, .inl (cZ, 600, .inl fd))]) [8, 0, 1, 2, 3, 4, 5, 6, 7] (by decide) rfl
                  generalize H1_9 = H at hP hS ⊢
                  have hP : va_P D vwCl [(qm, .inr (5, [.int (nI 0), .int (nI n), .int (nI ni), .int (nI no), .ref mk, .ref m0, .ref m1, .ref mi, .ref mo, .ref ml, .ref mf, .ref ma, .int (nI cl), .ref mfd, .ref mts, .int (nI tc), .ref mg, .ref mb])), (mk, .inl (cI, 100, .inl kd)), (m0, .inl (cI, 100, .inl s0)), (m1, .inl (cI, 100, .inl s1)), (mo, .inl (cI, 12, .inl on)), (ml, .inl (cI, 600, .inl le)), (mf, .inl (cI, 600, .inl cf)), (ma, .inl (cI, 600, .inl ca)), (mfd, .inl (cZ, 600, .inl fd))] H := hP
                  have hD : va_D A [(qm, .inr (5, [.int (nI 0), .int (nI n), .int (nI ni), .int (nI no), .ref mk, .ref m0, .ref m1, .ref mi, .ref mo, .ref ml, .ref mf, .ref ma, .int (nI cl), .ref mfd, .ref mts, .int (nI tc), .ref mg, .ref mb])), (mk, .inl (cI, 100, .inl kd)), (m0, .inl (cI, 100, .inl s0)), (m1, .inl (cI, 100, .inl s1)), (mo, .inl (cI, 12, .inl on)), (ml, .inl (cI, 600, .inl le)), (mf, .inl (cI, 600, .inl cf)), (ma, .inl (cI, 600, .inl ca)), (mfd, .inl (cZ, 600, .inl fd))] := hD
                  refine lv_if_eq (tgt := 80) hx hb dX5_gate_75 (by decide) (fun c_75 => ?_) (fun c_75 => ?_)
                  · skip
                    rw [zc_if0] at c_75
                    refine lv_aload_n hx hb dX5_gate_80 rfl (lv_at hl 1 rfl) ?_
                    refine va_get (D := D) (ci := 5) (v := .ref mk) (C := RX5) (T := TX5) (N := 18) hx hb hts hiX5 hown hK hP 0 rfl rfl 4 (by decide) (hts (.fieldLink RX5 7 "FaultSearchModel" "kinds" "[I") (by decide +kernel)) (fun _ h9 => h9) rfl dX5_gate_81 ?_
                    refine lv_aload_n hx hb dX5_gate_84 rfl (lv_at hl 1 rfl) ?_
                    refine va_get (D := D) (ci := 5) (v := .int (nI n)) (C := RX5) (T := TX5) (N := 18) hx hb hts hiX5 hown hK hP 0 rfl rfl 1 (by decide) (hts (.fieldLink RX5 52 "FaultSearchModel" "nets" "I") (by decide +kernel)) (fun _ h9 => h9) rfl dX5_gate_85 ?_
                    refine lv_iload_n hx hb dX5_gate_88 rfl (lv_at hl 2 rfl) ?_
                    refine zz_iast hx hb hK hP hD hS 1 0 rfl rfl (n := 100) (j := n) (by omega) (by decide) dX5_gate_89 (fun H locs hP hD hS => ?_)
                    have hP : va_P D vwCl [(qm, .inr (5, [.int (nI 0), .int (nI n), .int (nI ni), .int (nI no), .ref mk, .ref m0, .ref m1, .ref mi, .ref mo, .ref ml, .ref mf, .ref ma, .int (nI cl), .ref mfd, .ref mts, .int (nI tc), .ref mg, .ref mb])), (mk, .inl (cI, 100, .inl (upd kd n k))), (m0, .inl (cI, 100, .inl s0)), (m1, .inl (cI, 100, .inl s1)), (mo, .inl (cI, 12, .inl on)), (ml, .inl (cI, 600, .inl le)), (mf, .inl (cI, 600, .inl cf)), (ma, .inl (cI, 600, .inl ca)), (mfd, .inl (cZ, 600, .inl fd))] H := hP
                    have hD : va_D A [(qm, .inr (5, [.int (nI 0), .int (nI n), .int (nI ni), .int (nI no), .ref mk, .ref m0, .ref m1, .ref mi, .ref mo, .ref ml, .ref mf, .ref ma, .int (nI cl), .ref mfd, .ref mts, .int (nI tc), .ref mg, .ref mb])), (mk, .inl (cI, 100, .inl (upd kd n k))), (m0, .inl (cI, 100, .inl s0)), (m1, .inl (cI, 100, .inl s1)), (mo, .inl (cI, 12, .inl on)), (ml, .inl (cI, 600, .inl le)), (mf, .inl (cI, 600, .inl cf)), (ma, .inl (cI, 600, .inl ca)), (mfd, .inl (cZ, 600, .inl fd))] := hD
                    refine lv_aload_n hx hb dX5_gate_90 rfl (lv_at hl 1 rfl) ?_
                    refine va_get (D := D) (ci := 5) (v := .ref m0) (C := RX5) (T := TX5) (N := 18) hx hb hts hiX5 hown hK hP 0 rfl rfl 5 (by decide) (hts (.fieldLink RX5 13 "FaultSearchModel" "firsts" "[I") (by decide +kernel)) (fun _ h9 => h9) rfl dX5_gate_91 ?_
                    refine lv_aload_n hx hb dX5_gate_94 rfl (lv_at hl 1 rfl) ?_
                    refine va_get (D := D) (ci := 5) (v := .int (nI n)) (C := RX5) (T := TX5) (N := 18) hx hb hts hiX5 hown hK hP 0 rfl rfl 1 (by decide) (hts (.fieldLink RX5 52 "FaultSearchModel" "nets" "I") (by decide +kernel)) (fun _ h9 => h9) rfl dX5_gate_95 ?_
                    refine lv_iload_n hx hb dX5_gate_98 rfl (lv_at hl 3 rfl) ?_
                    refine zz_iast hx hb hK hP hD hS 2 0 rfl rfl (n := 100) (j := n) (by omega) (by decide) dX5_gate_99 (fun H locs hP hD hS => ?_)
                    have hP : va_P D vwCl [(qm, .inr (5, [.int (nI 0), .int (nI n), .int (nI ni), .int (nI no), .ref mk, .ref m0, .ref m1, .ref mi, .ref mo, .ref ml, .ref mf, .ref ma, .int (nI cl), .ref mfd, .ref mts, .int (nI tc), .ref mg, .ref mb])), (mk, .inl (cI, 100, .inl (upd kd n k))), (m0, .inl (cI, 100, .inl (upd s0 n (nI a)))), (m1, .inl (cI, 100, .inl s1)), (mo, .inl (cI, 12, .inl on)), (ml, .inl (cI, 600, .inl le)), (mf, .inl (cI, 600, .inl cf)), (ma, .inl (cI, 600, .inl ca)), (mfd, .inl (cZ, 600, .inl fd))] H := hP
                    have hD : va_D A [(qm, .inr (5, [.int (nI 0), .int (nI n), .int (nI ni), .int (nI no), .ref mk, .ref m0, .ref m1, .ref mi, .ref mo, .ref ml, .ref mf, .ref ma, .int (nI cl), .ref mfd, .ref mts, .int (nI tc), .ref mg, .ref mb])), (mk, .inl (cI, 100, .inl (upd kd n k))), (m0, .inl (cI, 100, .inl (upd s0 n (nI a)))), (m1, .inl (cI, 100, .inl s1)), (mo, .inl (cI, 12, .inl on)), (ml, .inl (cI, 600, .inl le)), (mf, .inl (cI, 600, .inl cf)), (ma, .inl (cI, 600, .inl ca)), (mfd, .inl (cZ, 600, .inl fd))] := hD
                    refine lv_aload_n hx hb dX5_gate_100 rfl (lv_at hl 1 rfl) ?_
                    refine va_get (D := D) (ci := 5) (v := .ref m1) (C := RX5) (T := TX5) (N := 18) hx hb hts hiX5 hown hK hP 0 rfl rfl 6 (by decide) (hts (.fieldLink RX5 16 "FaultSearchModel" "seconds" "[I") (by decide +kernel)) (fun _ h9 => h9) rfl dX5_gate_101 ?_
                    refine lv_aload_n hx hb dX5_gate_104 rfl (lv_at hl 1 rfl) ?_
                    refine va_get (D := D) (ci := 5) (v := .int (nI n)) (C := RX5) (T := TX5) (N := 18) hx hb hts hiX5 hown hK hP 0 rfl rfl 1 (by decide) (hts (.fieldLink RX5 52 "FaultSearchModel" "nets" "I") (by decide +kernel)) (fun _ h9 => h9) rfl dX5_gate_105 ?_
                    refine lv_iload hx hb dX5_gate_108 (lv_at hl 0 rfl) ?_
                    refine lv_if_eq (tgt := 117) hx hb dX5_gate_110 (by decide) (fun c_110 => ?_) (fun c_110 => ?_)
                    · skip
                      refine lv_iload_n hx hb dX5_gate_117 rfl (lv_at hl 4 rfl) ?_
                      refine zz_i (z := (nI bb)) (by have h9 := hbb; rw [if_neg (by simp_all [onePin])] at h9; exact h9) ?_
                      refine zz_iast hx hb hK hP hD hS 3 0 rfl rfl (n := 100) (j := n) (by omega) (by decide) dX5_gate_118 (fun H locs hP hD hS => ?_)
                      have hP : va_P D vwCl [(qm, .inr (5, [.int (nI 0), .int (nI n), .int (nI ni), .int (nI no), .ref mk, .ref m0, .ref m1, .ref mi, .ref mo, .ref ml, .ref mf, .ref ma, .int (nI cl), .ref mfd, .ref mts, .int (nI tc), .ref mg, .ref mb])), (mk, .inl (cI, 100, .inl (upd kd n k))), (m0, .inl (cI, 100, .inl (upd s0 n (nI a)))), (m1, .inl (cI, 100, .inl (upd s1 n (nI bb)))), (mo, .inl (cI, 12, .inl on)), (ml, .inl (cI, 600, .inl le)), (mf, .inl (cI, 600, .inl cf)), (ma, .inl (cI, 600, .inl ca)), (mfd, .inl (cZ, 600, .inl fd))] H := hP
                      have hD : va_D A [(qm, .inr (5, [.int (nI 0), .int (nI n), .int (nI ni), .int (nI no), .ref mk, .ref m0, .ref m1, .ref mi, .ref mo, .ref ml, .ref mf, .ref ma, .int (nI cl), .ref mfd, .ref mts, .int (nI tc), .ref mg, .ref mb])), (mk, .inl (cI, 100, .inl (upd kd n k))), (m0, .inl (cI, 100, .inl (upd s0 n (nI a)))), (m1, .inl (cI, 100, .inl (upd s1 n (nI bb)))), (mo, .inl (cI, 12, .inl on)), (ml, .inl (cI, 600, .inl le)), (mf, .inl (cI, 600, .inl cf)), (ma, .inl (cI, 600, .inl ca)), (mfd, .inl (cZ, 600, .inl fd))] := hD
                      refine lv_aload_n hx hb dX5_gate_119 rfl (lv_at hl 1 rfl) ?_
                      refine lv_dup hx hb dX5_gate_120 rfl ?_
                      refine va_get (D := D) (ci := 5) (v := .int (nI n)) (C := RX5) (T := TX5) (N := 18) hx hb hts hiX5 hown hK hP 0 rfl rfl 1 (by decide) (hts (.fieldLink RX5 52 "FaultSearchModel" "nets" "I") (by decide +kernel)) (fun _ h9 => h9) rfl dX5_gate_121 ?_
                      refine lv_iconst (v := (nI 1)) hx hb dX5_gate_124 (by decide) ?_
                      refine lv_iadd hx hb dX5_gate_125 ?_
                      refine zz_i (z := (nI (n + 1))) (nI_add _ _) ?_
                      refine va_put (D := D) (ci := 5) (v := .int (nI (n + 1))) (ty := .int) (C := RX5) (T := TX5) (N := 18) hx hb hts hiX5 tyX5 tyX5_ok nmX5 hown hK hP hD hS 0 rfl rfl 1 (by decide) (hts (.fieldLink RX5 52 "FaultSearchModel" "nets" "I") (by decide +kernel)) (fun _ h9 => h9) rfl (by decide +kernel) rfl rfl (Nat.le_of_ble_eq_true rfl) dX5_gate_126 (fun H locs hP hD hS => ?_)
                      have hP : va_P D vwCl [(qm, .inr (5, [.int (nI 0), .int (nI (n + 1)), .int (nI ni), .int (nI no), .ref mk, .ref m0, .ref m1, .ref mi, .ref mo, .ref ml, .ref mf, .ref ma, .int (nI cl), .ref mfd, .ref mts, .int (nI tc), .ref mg, .ref mb])), (mk, .inl (cI, 100, .inl (upd kd n k))), (m0, .inl (cI, 100, .inl (upd s0 n (nI a)))), (m1, .inl (cI, 100, .inl (upd s1 n (nI bb)))), (mo, .inl (cI, 12, .inl on)), (ml, .inl (cI, 600, .inl le)), (mf, .inl (cI, 600, .inl cf)), (ma, .inl (cI, 600, .inl ca)), (mfd, .inl (cZ, 600, .inl fd))] H := hP
                      have hD : va_D A [(qm, .inr (5, [.int (nI 0), .int (nI (n + 1)), .int (nI ni), .int (nI no), .ref mk, .ref m0, .ref m1, .ref mi, .ref mo, .ref ml, .ref mf, .ref ma, .int (nI cl), .ref mfd, .ref mts, .int (nI tc), .ref mg, .ref mb])), (mk, .inl (cI, 100, .inl (upd kd n k))), (m0, .inl (cI, 100, .inl (upd s0 n (nI a)))), (m1, .inl (cI, 100, .inl (upd s1 n (nI bb)))), (mo, .inl (cI, 12, .inl on)), (ml, .inl (cI, 600, .inl le)), (mf, .inl (cI, 600, .inl cf)), (ma, .inl (cI, 600, .inl ca)), (mfd, .inl (cZ, 600, .inl fd))] := hD
                      refine lv_aload_n hx hb dX5_gate_129 rfl (lv_at hl 1 rfl) ?_
                      have hPc := hP.sub (ws' := [(qm, .inr (5, [.int (nI 0), .int (nI (n + 1)), .int (nI ni), .int (nI no), .ref mk, .ref m0, .ref m1, .ref mi, .ref mo, .ref ml, .ref mf, .ref ma, .int (nI cl), .ref mfd, .ref mts, .int (nI tc), .ref mg, .ref mb])), (mk, .inl (cI, 100, .inl (upd kd n k))), (m0, .inl (cI, 100, .inl (upd s0 n (nI a)))), (m1, .inl (cI, 100, .inl (upd s1 n (nI bb)))), (mo, .inl (cI, 12, .inl on)), (ml, .inl (cI, 600, .inl le)), (mf, .inl (cI, 600, .inl cf)), (ma, .inl (cI, 600, .inl ca)), (mfd, .inl (cZ, 600, .inl fd))]) [0, 1, 2, 3, 4, 5, 6, 7, 8] rfl
                      have hDc := hD.sub (ws' := [(qm, .inr (5, [.int (nI 0), .int (nI (n + 1)), .int (nI ni), .int (nI no), .ref mk, .ref m0, .ref m1, .ref mi, .ref mo, .ref ml, .ref mf, .ref ma, .int (nI cl), .ref mfd, .ref mts, .int (nI tc), .ref mg, .ref mb])), (mk, .inl (cI, 100, .inl (upd kd n k))), (m0, .inl (cI, 100, .inl (upd s0 n (nI a)))), (m1, .inl (cI, 100, .inl (upd s1 n (nI bb)))), (mo, .inl (cI, 12, .inl on)), (ml, .inl (cI, 600, .inl le)), (mf, .inl (cI, 600, .inl cf)), (ma, .inl (cI, 600, .inl ca)), (mfd, .inl (cZ, 600, .inl fd))]) [0, 1, 2, 3, 4, 5, 6, 7, 8] (by decide) rfl
                      have hFc := va_free (wc := [(qm, .inr (5, [.int (nI 0), .int (nI (n + 1)), .int (nI ni), .int (nI no), .ref mk, .ref m0, .ref m1, .ref mi, .ref mo, .ref ml, .ref mf, .ref ma, .int (nI cl), .ref mfd, .ref mts, .int (nI tc), .ref mg, .ref mb])), (mk, .inl (cI, 100, .inl (upd kd n k))), (m0, .inl (cI, 100, .inl (upd s0 n (nI a)))), (m1, .inl (cI, 100, .inl (upd s1 n (nI bb)))), (mo, .inl (cI, 12, .inl on)), (ml, .inl (cI, 600, .inl le)), (mf, .inl (cI, 600, .inl cf)), (ma, .inl (cI, 600, .inl ca)), (mfd, .inl (cZ, 600, .inl fd))]) hD hS hA [0, 1, 2, 3, 4, 5, 6, 7, 8] rfl
                      refine va_callv (va_runV (As := []) (rest := []) ⟨hx, hb, hml, hown, hts⟩ (c_X5_build l D cI cJ cZ qm mk m0 m1 mi mo ml mf ma mfd mts mg mb (nI 0) (n + 1) ni no cl tc (upd kd n k) (upd s0 n (nI a)) (upd s1 n (nI bb)) on le cf ca fd H.size _ rfl (by omega) (by omega) (hwf.gat ha hb2 h2) (hwo.grow (by omega)) (hkd.gat hkk)) (cwV 0 hts gX5_gate_X5_build rfl rfl rfl (by decide +kernel) ⟨Nat.le_of_ble_eq_true rfl, Nat.le_of_ble_eq_true rfl⟩) ⟨PW.blind, va_recv hK hPc (ci := 5) (q0 := 0) rfl rfl, fun U hU hW => ⟨rfl, PW.to hPc hK hNB hDc hU hW⟩⟩ rfl rfl hl.1 rfl (lv_room (Nat.le_of_ble_eq_true rfl)) dX5_gate_130 ⟨Nat.le_of_ble_eq_true rfl, Nat.le_of_ble_eq_true rfl⟩) hS (fun q _ h => hFc q h) hFc (fun u_9 t_9 H1_9 locs ht_9 hvm_9 hw_9 hB_9 hz1_9 hk1_9 hS => ?_)
                      obtain ⟨le2_12, ca2_13, cf2_14, cl2_15⟩ := u_9
                      obtain ⟨hP1_9, hD1_9⟩ := hB_9
                      rw [ht_9] at hP1_9
                      obtain ⟨k_E, k_C⟩ := hw_9
                      have k_E : (ca2_13, cf2_14, cl2_15) = mE (mrgs (srP (upd kd n k) (upd s0 n (nI a)) (upd s1 n (nI bb)) on (n + 1) no (n + 1)) id) (lnF (upd kd n k) (n + 1) 600) (ca, cf, 0) := k_E
                      have k_C : cl2_15 ≤ 600 := k_C
                      obtain ⟨hP, hD⟩ := va_join (wr := []) (w1 := [(qm, .inr (5, [.int (nI 0), .int (nI (n + 1)), .int (nI ni), .int (nI no), .ref mk, .ref m0, .ref m1, .ref mi, .ref mo, .ref ml, .ref mf, .ref ma, .int (nI cl2_15), .ref mfd, .ref mts, .int (nI 0), .ref mg, .ref mb])), (mk, .inl (cI, 100, .inl (upd kd n k))), (m0, .inl (cI, 100, .inl (upd s0 n (nI a)))), (m1, .inl (cI, 100, .inl (upd s1 n (nI bb)))), (mo, .inl (cI, 12, .inl on)), (ml, .inl (cI, 600, .inl le2_12)), (mf, .inl (cI, 600, .inl cf2_14)), (ma, .inl (cI, 600, .inl ca2_13)), (mfd, .inl (cZ, 600, .inl (clrF fd 600)))]) hP hD [0, 1, 2, 3, 4, 5, 6, 7, 8] [] rfl rfl (by decide) (by decide) hk1_9 hFc hP1_9 hD1_9
                      generalize H1_9 = H at hP hS ⊢
                      have hP : va_P D vwCl [(qm, .inr (5, [.int (nI 0), .int (nI (n + 1)), .int (nI ni), .int (nI no), .ref mk, .ref m0, .ref m1, .ref mi, .ref mo, .ref ml, .ref mf, .ref ma, .int (nI cl2_15), .ref mfd, .ref mts, .int (nI 0), .ref mg, .ref mb])), (mk, .inl (cI, 100, .inl (upd kd n k))), (m0, .inl (cI, 100, .inl (upd s0 n (nI a)))), (m1, .inl (cI, 100, .inl (upd s1 n (nI bb)))), (mo, .inl (cI, 12, .inl on)), (ml, .inl (cI, 600, .inl le2_12)), (mf, .inl (cI, 600, .inl cf2_14)), (ma, .inl (cI, 600, .inl ca2_13)), (mfd, .inl (cZ, 600, .inl (clrF fd 600)))] H := hP
                      have hD : va_D A [(qm, .inr (5, [.int (nI 0), .int (nI (n + 1)), .int (nI ni), .int (nI no), .ref mk, .ref m0, .ref m1, .ref mi, .ref mo, .ref ml, .ref mf, .ref ma, .int (nI cl2_15), .ref mfd, .ref mts, .int (nI 0), .ref mg, .ref mb])), (mk, .inl (cI, 100, .inl (upd kd n k))), (m0, .inl (cI, 100, .inl (upd s0 n (nI a)))), (m1, .inl (cI, 100, .inl (upd s1 n (nI bb)))), (mo, .inl (cI, 12, .inl on)), (ml, .inl (cI, 600, .inl le2_12)), (mf, .inl (cI, 600, .inl cf2_14)), (ma, .inl (cI, 600, .inl ca2_13)), (mfd, .inl (cZ, 600, .inl (clrF fd 600)))] := hD
                      refine lv_aload_n hx hb dX5_gate_133 rfl (lv_at hl 1 rfl) ?_
                      refine va_get (D := D) (ci := 5) (v := .int (nI (n + 1))) (C := RX5) (T := TX5) (N := 18) hx hb hts hiX5 hown hK hP 0 rfl rfl 1 (by decide) (hts (.fieldLink RX5 52 "FaultSearchModel" "nets" "I") (by decide +kernel)) (fun _ h9 => h9) rfl dX5_gate_134 ?_
                      refine lv_iconst (v := (nI 1)) hx hb dX5_gate_137 (by decide) ?_
                      refine lv_isub hx hb dX5_gate_138 ?_
                      refine zz_i (z := (nI ((n + 1) - 1))) (pk_sub (by omega)) ?_
                      exact W.iret (v := (nI ((n + 1) - 1))) hx hb hr (fun t_9 ht_9 hW_9 => ⟨⟨(nI ((n + 1) - 1)), (le2_12, ca2_13, cf2_14, cl2_15), rfl, (show (nI ((n + 1) - 1)) = (nI n) ∧ (ca2_13, cf2_14, cl2_15) = mE (mrgs (srP (upd kd n k) (upd s0 n (nI a)) (upd s1 n (nI bb)) on (n + 1) no (n + 1)) id) (lnF (upd kd n k) (n + 1) 600) (ca, cf, 0) ∧ cl2_15 ≤ 600 from ⟨(congrArg nI (by omega)), k_E, k_C⟩), ⟨by rw [ht_9]; exact hP, hD⟩⟩, hS.F ht_9⟩) hS.2.2 dX5_gate_139
                    · skip
                      exact absurd (by decide) c_110
                  · skip
                    rw [zc_if0] at c_75
                    have c_75 := Classical.not_not.mp c_75
                    exact absurd c_75 (by decide)
                · skip
                  exact absurd hk2 c_64
            · skip
              rw [zc_eq (by omega) (by omega)] at c_50
              exact absurd c_50 (by omega)
          · skip
            rw [zc_if0] at c_37
            exact absurd (by have h9 := hbb; rw [if_neg (by simp_all [onePin])] at h9; rw [h9]; exact isN_nI (by omega) hb2) c_37
    · skip
      refine lv_iconst (v := (nI 1)) hx hb dX5_gate_11 (by decide) ?_
      refine lv_goto (tgt := 16) hx hb dX5_gate_12 (by decide) ?_
      refine lv_istore (lv' := [(4, .int (nI 1)), (0, .ref qm), (1, .int k), (2, .int (nI a)), (3, .int b)]) hx hb dX5_gate_16 hl (by decide) rfl (fun ls hl => ?_)
      refine lv_aload_n hx hb dX5_gate_18 rfl (lv_at hl 1 rfl) ?_
      refine lv_aload_n hx hb dX5_gate_19 rfl (lv_at hl 1 rfl) ?_
      refine lv_iload_n hx hb dX5_gate_20 rfl (lv_at hl 3 rfl) ?_
      have hPc := hP.sub (ws' := [(qm, .inr (5, [.int cd, .int (nI n), .int (nI ni), .int (nI no), .ref mk, .ref m0, .ref m1, .ref mi, .ref mo, .ref ml, .ref mf, .ref ma, .int (nI cl), .ref mfd, .ref mts, .int (nI tc), .ref mg, .ref mb]))]) [0] rfl
      refine vp_callSi (va_runV (As := [.int (nI a)]) (rest := [.ref qm]) ⟨hx, hb, hml, hown, hts⟩ (c_X5_isNet l D cI cJ cZ qm mk m0 m1 mi mo ml mf ma mfd mts mg mb cd n ni no cl tc (nI a)) (cwV 1 hts gX5_gate_X5_isNet rfl rfl rfl (by decide +kernel) ⟨Nat.le_of_ble_eq_true rfl, Nat.le_of_ble_eq_true rfl⟩) ⟨PR.blind, va_recv hK hPc (ci := 5) (q0 := 0) rfl rfl, fun U hU hW => ⟨rfl, PR.to hPc hK hNB hU hW⟩⟩ rfl rfl hl.1 rfl (lv_room (Nat.le_of_ble_eq_true rfl)) dX5_gate_21 ⟨Nat.le_of_ble_eq_true rfl, Nat.le_of_ble_eq_true rfl⟩).run (fun r_16 hrr_16 => ?_)
      subst hrr_16
      refine lv_if_eq (tgt := 40) hx hb dX5_gate_24 (by decide) (fun c_24 => ?_) (fun c_24 => ?_)
      · skip
        rw [zc_if0] at c_24
        exact absurd (isN_nI (by omega) ha) c_24
      · skip
        rw [zc_if0] at c_24
        have c_24 := Classical.not_not.mp c_24
        refine lv_iload hx hb dX5_gate_27 (lv_at hl 0 rfl) ?_
        refine lv_if_ne (tgt := 44) hx hb dX5_gate_29 (by decide) (fun c_29 => ?_) (fun c_29 => ?_)
        · skip
          refine lv_aload_n hx hb dX5_gate_44 rfl (lv_at hl 1 rfl) ?_
          refine va_get (D := D) (ci := 5) (v := .int (nI n)) (C := RX5) (T := TX5) (N := 18) hx hb hts hiX5 hown hK hP 0 rfl rfl 1 (by decide) (hts (.fieldLink RX5 52 "FaultSearchModel" "nets" "I") (by decide +kernel)) (fun _ h9 => h9) rfl dX5_gate_45 ?_
          refine lv_bipush (v := (nI 100)) hx hb dX5_gate_48 (by decide) ?_
          refine lv_icmp_ne (tgt := 57) hx hb dX5_gate_50 (by decide) (fun c_50 => ?_) (fun c_50 => ?_)
          · skip
            rw [zc_eq (by omega) (by omega)] at c_50
            refine lv_iload_n hx hb dX5_gate_57 rfl (lv_at hl 2 rfl) ?_
            refine lv_if_lt (tgt := 67) hx hb dX5_gate_58 (by decide) (fun c_58 => ?_) (fun c_58 => ?_)
            · skip
              exact absurd c_58 hk1
            · skip
              refine lv_iload_n hx hb dX5_gate_61 rfl (lv_at hl 2 rfl) ?_
              refine lv_bipush (v := (nI 6)) hx hb dX5_gate_62 (by decide) ?_
              refine lv_icmp_le (tgt := 71) hx hb dX5_gate_64 (by decide) (fun c_64 => ?_) (fun c_64 => ?_)
              · skip
                refine lv_iconst (v := (nI 0)) hx hb dX5_gate_71 (by decide) ?_
                have hPc := hP.sub (ws' := [(qm, .inr (5, [.int cd, .int (nI n), .int (nI ni), .int (nI no), .ref mk, .ref m0, .ref m1, .ref mi, .ref mo, .ref ml, .ref mf, .ref ma, .int (nI cl), .ref mfd, .ref mts, .int (nI tc), .ref mg, .ref mb]))]) [0] rfl
                have hDc := hD.sub (ws' := [(qm, .inr (5, [.int cd, .int (nI n), .int (nI ni), .int (nI no), .ref mk, .ref m0, .ref m1, .ref mi, .ref mo, .ref ml, .ref mf, .ref ma, .int (nI cl), .ref mfd, .ref mts, .int (nI tc), .ref mg, .ref mb]))]) [0] (by decide) rfl
                have hFc := va_free (wc := [(qm, .inr (5, [.int cd, .int (nI n), .int (nI ni), .int (nI no), .ref mk, .ref m0, .ref m1, .ref mi, .ref mo, .ref ml, .ref mf, .ref ma, .int (nI cl), .ref mfd, .ref mts, .int (nI tc), .ref mg, .ref mb]))]) hD hS hA [0] rfl
                refine va_calli (va_runV (As := [.int (nI 0)]) (rest := []) ⟨hx, hb, hml, hown, hts⟩ (c_X5_refuses l D cI cJ cZ qm mk m0 m1 mi mo ml mf ma mfd mts mg mb cd n ni no cl tc 0 s.heap.size _ rfl (by omega)) (cwV 1 hts gX5_gate_X5_refuses rfl rfl rfl (by decide +kernel) ⟨Nat.le_of_ble_eq_true rfl, Nat.le_of_ble_eq_true rfl⟩) ⟨PW.blind, va_recv hK hPc (ci := 5) (q0 := 0) rfl rfl, fun U hU hW => ⟨rfl, PW.to hPc hK hNB hDc hU hW⟩⟩ rfl rfl hl.1 rfl (lv_room (Nat.le_of_ble_eq_true rfl)) dX5_gate_72 ⟨Nat.le_of_ble_eq_true rfl, Nat.le_of_ble_eq_true rfl⟩) hS (fun q _ h => hFc q h) hFc (fun r_17 u_9 t_9 H1_9 locs ht_9 hvm_9 hw_9 hB_9 hz1_9 hk1_9 hS => ?_)
                obtain ⟨hP1_9, hD1_9⟩ := hB_9
                rw [ht_9] at hP1_9
                obtain rfl := hw_9
                obtain ⟨hP, hD⟩ := va_join (wr := [(mk, .inl (cI, 100, .inl kd)), (m0, .inl (cI, 100, .inl s0)), (m1, .inl (cI, 100, .inl s1)), (mo, .inl (cI, 12, .inl on)), (ml, .inl (cI, 600, .inl le)), (mf, .inl (cI, 600, .inl cf)), (ma, .inl (cI, 600, .inl ca)), (mfd, .inl (cZ, 600, .inl fd))]) (w1 := [(qm, .inr (5, [.int (nI 0), .int (nI n), .int (nI ni), .int (nI no), .ref mk, .ref m0, .ref m1, .ref mi, .ref mo, .ref ml, .ref mf, .ref ma, .int (nI cl), .ref mfd, .ref mts, .int (nI tc), .ref mg, .ref mb]))]) hP hD [0] [1, 2, 3, 4, 5, 6, 7, 8] rfl rfl (by decide) (by decide) hk1_9 hFc hP1_9 hD1_9
                have hP := hP.sub (ws' := [(qm, .inr (5, [.int (nI 0), .int (nI n), .int (nI ni), .int (nI no), .ref mk, .ref m0, .ref m1, .ref mi, .ref mo, .ref ml, .ref mf, .ref ma, .int (nI cl), .ref mfd, .ref mts, .int (nI tc), .ref mg, .ref mb])), (mk, .inl (cI, 100, .inl kd)), (m0, .inl (cI, 100, .inl s0)), (m1, .inl (cI, 100, .inl s1)), (mo, .inl (cI, 12, .inl on)), (ml, .inl (cI, 600, .inl le)), (mf, .inl (cI, 600, .inl cf)), (ma, .inl (cI, 600, .inl ca)), (mfd, .inl (cZ, 600, .inl fd))]) [8, 0, 1, 2, 3, 4, 5, 6, 7] rfl
                have hD := hD.sub (ws' := [(qm, .inr (5, [.int (nI 0), .int (nI n), .int (nI ni), .int (nI no), .ref mk, .ref m0, .ref m1, .ref mi, .ref mo, .ref ml, .ref mf, .ref ma, .int (nI cl), .ref mfd, .ref mts, .int (nI tc), .ref mg, .ref mb])), (mk, .inl (cI, 100, .inl kd)), (m0, .inl (cI, 100, .inl s0)), (m1, .inl (cI, 100, .inl s1)), (mo, .inl (cI, 12, .inl on)), (ml, .inl (cI, 600, .inl le)), (mf, .inl (cI, 600, .inl cf)), (ma, .inl (cI, 600, .inl ca)), (mfd, .inl (cZ, 600, .inl fd))]) [8, 0, 1, 2, 3, 4, 5, 6, 7] (by decide) rfl
                generalize H1_9 = H at hP hS ⊢
                have hP : va_P D vwCl [(qm, .inr (5, [.int (nI 0), .int (nI n), .int (nI ni), .int (nI no), .ref mk, .ref m0, .ref m1, .ref mi, .ref mo, .ref ml, .ref mf, .ref ma, .int (nI cl), .ref mfd, .ref mts, .int (nI tc), .ref mg, .ref mb])), (mk, .inl (cI, 100, .inl kd)), (m0, .inl (cI, 100, .inl s0)), (m1, .inl (cI, 100, .inl s1)), (mo, .inl (cI, 12, .inl on)), (ml, .inl (cI, 600, .inl le)), (mf, .inl (cI, 600, .inl cf)), (ma, .inl (cI, 600, .inl ca)), (mfd, .inl (cZ, 600, .inl fd))] H := hP
                have hD : va_D A [(qm, .inr (5, [.int (nI 0), .int (nI n), .int (nI ni), .int (nI no), .ref mk, .ref m0, .ref m1, .ref mi, .ref mo, .ref ml, .ref mf, .ref ma, .int (nI cl), .ref mfd, .ref mts, .int (nI tc), .ref mg, .ref mb])), (mk, .inl (cI, 100, .inl kd)), (m0, .inl (cI, 100, .inl s0)), (m1, .inl (cI, 100, .inl s1)), (mo, .inl (cI, 12, .inl on)), (ml, .inl (cI, 600, .inl le)), (mf, .inl (cI, 600, .inl cf)), (ma, .inl (cI, 600, .inl ca)), (mfd, .inl (cZ, 600, .inl fd))] := hD
                refine lv_if_eq (tgt := 80) hx hb dX5_gate_75 (by decide) (fun c_75 => ?_) (fun c_75 => ?_)
                · skip
                  rw [zc_if0] at c_75
                  refine lv_aload_n hx hb dX5_gate_80 rfl (lv_at hl 1 rfl) ?_
                  refine va_get (D := D) (ci := 5) (v := .ref mk) (C := RX5) (T := TX5) (N := 18) hx hb hts hiX5 hown hK hP 0 rfl rfl 4 (by decide) (hts (.fieldLink RX5 7 "FaultSearchModel" "kinds" "[I") (by decide +kernel)) (fun _ h9 => h9) rfl dX5_gate_81 ?_
                  refine lv_aload_n hx hb dX5_gate_84 rfl (lv_at hl 1 rfl) ?_
                  refine va_get (D := D) (ci := 5) (v := .int (nI n)) (C := RX5) (T := TX5) (N := 18) hx hb hts hiX5 hown hK hP 0 rfl rfl 1 (by decide) (hts (.fieldLink RX5 52 "FaultSearchModel" "nets" "I") (by decide +kernel)) (fun _ h9 => h9) rfl dX5_gate_85 ?_
                  refine lv_iload_n hx hb dX5_gate_88 rfl (lv_at hl 2 rfl) ?_
                  refine zz_iast hx hb hK hP hD hS 1 0 rfl rfl (n := 100) (j := n) (by omega) (by decide) dX5_gate_89 (fun H locs hP hD hS => ?_)
                  have hP : va_P D vwCl [(qm, .inr (5, [.int (nI 0), .int (nI n), .int (nI ni), .int (nI no), .ref mk, .ref m0, .ref m1, .ref mi, .ref mo, .ref ml, .ref mf, .ref ma, .int (nI cl), .ref mfd, .ref mts, .int (nI tc), .ref mg, .ref mb])), (mk, .inl (cI, 100, .inl (upd kd n k))), (m0, .inl (cI, 100, .inl s0)), (m1, .inl (cI, 100, .inl s1)), (mo, .inl (cI, 12, .inl on)), (ml, .inl (cI, 600, .inl le)), (mf, .inl (cI, 600, .inl cf)), (ma, .inl (cI, 600, .inl ca)), (mfd, .inl (cZ, 600, .inl fd))] H := hP
                  have hD : va_D A [(qm, .inr (5, [.int (nI 0), .int (nI n), .int (nI ni), .int (nI no), .ref mk, .ref m0, .ref m1, .ref mi, .ref mo, .ref ml, .ref mf, .ref ma, .int (nI cl), .ref mfd, .ref mts, .int (nI tc), .ref mg, .ref mb])), (mk, .inl (cI, 100, .inl (upd kd n k))), (m0, .inl (cI, 100, .inl s0)), (m1, .inl (cI, 100, .inl s1)), (mo, .inl (cI, 12, .inl on)), (ml, .inl (cI, 600, .inl le)), (mf, .inl (cI, 600, .inl cf)), (ma, .inl (cI, 600, .inl ca)), (mfd, .inl (cZ, 600, .inl fd))] := hD
                  refine lv_aload_n hx hb dX5_gate_90 rfl (lv_at hl 1 rfl) ?_
                  refine va_get (D := D) (ci := 5) (v := .ref m0) (C := RX5) (T := TX5) (N := 18) hx hb hts hiX5 hown hK hP 0 rfl rfl 5 (by decide) (hts (.fieldLink RX5 13 "FaultSearchModel" "firsts" "[I") (by decide +kernel)) (fun _ h9 => h9) rfl dX5_gate_91 ?_
                  refine lv_aload_n hx hb dX5_gate_94 rfl (lv_at hl 1 rfl) ?_
                  refine va_get (D := D) (ci := 5) (v := .int (nI n)) (C := RX5) (T := TX5) (N := 18) hx hb hts hiX5 hown hK hP 0 rfl rfl 1 (by decide) (hts (.fieldLink RX5 52 "FaultSearchModel" "nets" "I") (by decide +kernel)) (fun _ h9 => h9) rfl dX5_gate_95 ?_
                  refine lv_iload_n hx hb dX5_gate_98 rfl (lv_at hl 3 rfl) ?_
                  refine zz_iast hx hb hK hP hD hS 2 0 rfl rfl (n := 100) (j := n) (by omega) (by decide) dX5_gate_99 (fun H locs hP hD hS => ?_)
                  have hP : va_P D vwCl [(qm, .inr (5, [.int (nI 0), .int (nI n), .int (nI ni), .int (nI no), .ref mk, .ref m0, .ref m1, .ref mi, .ref mo, .ref ml, .ref mf, .ref ma, .int (nI cl), .ref mfd, .ref mts, .int (nI tc), .ref mg, .ref mb])), (mk, .inl (cI, 100, .inl (upd kd n k))), (m0, .inl (cI, 100, .inl (upd s0 n (nI a)))), (m1, .inl (cI, 100, .inl s1)), (mo, .inl (cI, 12, .inl on)), (ml, .inl (cI, 600, .inl le)), (mf, .inl (cI, 600, .inl cf)), (ma, .inl (cI, 600, .inl ca)), (mfd, .inl (cZ, 600, .inl fd))] H := hP
                  have hD : va_D A [(qm, .inr (5, [.int (nI 0), .int (nI n), .int (nI ni), .int (nI no), .ref mk, .ref m0, .ref m1, .ref mi, .ref mo, .ref ml, .ref mf, .ref ma, .int (nI cl), .ref mfd, .ref mts, .int (nI tc), .ref mg, .ref mb])), (mk, .inl (cI, 100, .inl (upd kd n k))), (m0, .inl (cI, 100, .inl (upd s0 n (nI a)))), (m1, .inl (cI, 100, .inl s1)), (mo, .inl (cI, 12, .inl on)), (ml, .inl (cI, 600, .inl le)), (mf, .inl (cI, 600, .inl cf)), (ma, .inl (cI, 600, .inl ca)), (mfd, .inl (cZ, 600, .inl fd))] := hD
                  refine lv_aload_n hx hb dX5_gate_100 rfl (lv_at hl 1 rfl) ?_
                  refine va_get (D := D) (ci := 5) (v := .ref m1) (C := RX5) (T := TX5) (N := 18) hx hb hts hiX5 hown hK hP 0 rfl rfl 6 (by decide) (hts (.fieldLink RX5 16 "FaultSearchModel" "seconds" "[I") (by decide +kernel)) (fun _ h9 => h9) rfl dX5_gate_101 ?_
                  refine lv_aload_n hx hb dX5_gate_104 rfl (lv_at hl 1 rfl) ?_
                  refine va_get (D := D) (ci := 5) (v := .int (nI n)) (C := RX5) (T := TX5) (N := 18) hx hb hts hiX5 hown hK hP 0 rfl rfl 1 (by decide) (hts (.fieldLink RX5 52 "FaultSearchModel" "nets" "I") (by decide +kernel)) (fun _ h9 => h9) rfl dX5_gate_105 ?_
                  refine lv_iload hx hb dX5_gate_108 (lv_at hl 0 rfl) ?_
                  refine lv_if_eq (tgt := 117) hx hb dX5_gate_110 (by decide) (fun c_110 => ?_) (fun c_110 => ?_)
                  · skip
                    exact absurd c_110 (by decide)
                  · skip
                    refine lv_iload_n hx hb dX5_gate_113 rfl (lv_at hl 3 rfl) ?_
                    refine lv_goto (tgt := 118) hx hb dX5_gate_114 (by decide) ?_
                    refine zz_i (z := (nI bb)) (by have h9 := hbb; rw [if_pos (by simp_all [onePin])] at h9; exact h9) ?_
                    refine zz_iast hx hb hK hP hD hS 3 0 rfl rfl (n := 100) (j := n) (by omega) (by decide) dX5_gate_118 (fun H locs hP hD hS => ?_)
                    have hP : va_P D vwCl [(qm, .inr (5, [.int (nI 0), .int (nI n), .int (nI ni), .int (nI no), .ref mk, .ref m0, .ref m1, .ref mi, .ref mo, .ref ml, .ref mf, .ref ma, .int (nI cl), .ref mfd, .ref mts, .int (nI tc), .ref mg, .ref mb])), (mk, .inl (cI, 100, .inl (upd kd n k))), (m0, .inl (cI, 100, .inl (upd s0 n (nI a)))), (m1, .inl (cI, 100, .inl (upd s1 n (nI bb)))), (mo, .inl (cI, 12, .inl on)), (ml, .inl (cI, 600, .inl le)), (mf, .inl (cI, 600, .inl cf)), (ma, .inl (cI, 600, .inl ca)), (mfd, .inl (cZ, 600, .inl fd))] H := hP
                    have hD : va_D A [(qm, .inr (5, [.int (nI 0), .int (nI n), .int (nI ni), .int (nI no), .ref mk, .ref m0, .ref m1, .ref mi, .ref mo, .ref ml, .ref mf, .ref ma, .int (nI cl), .ref mfd, .ref mts, .int (nI tc), .ref mg, .ref mb])), (mk, .inl (cI, 100, .inl (upd kd n k))), (m0, .inl (cI, 100, .inl (upd s0 n (nI a)))), (m1, .inl (cI, 100, .inl (upd s1 n (nI bb)))), (mo, .inl (cI, 12, .inl on)), (ml, .inl (cI, 600, .inl le)), (mf, .inl (cI, 600, .inl cf)), (ma, .inl (cI, 600, .inl ca)), (mfd, .inl (cZ, 600, .inl fd))] := hD
                    refine lv_aload_n hx hb dX5_gate_119 rfl (lv_at hl 1 rfl) ?_
                    refine lv_dup hx hb dX5_gate_120 rfl ?_
                    refine va_get (D := D) (ci := 5) (v := .int (nI n)) (C := RX5) (T := TX5) (N := 18) hx hb hts hiX5 hown hK hP 0 rfl rfl 1 (by decide) (hts (.fieldLink RX5 52 "FaultSearchModel" "nets" "I") (by decide +kernel)) (fun _ h9 => h9) rfl dX5_gate_121 ?_
                    refine lv_iconst (v := (nI 1)) hx hb dX5_gate_124 (by decide) ?_
                    refine lv_iadd hx hb dX5_gate_125 ?_
                    refine zz_i (z := (nI (n + 1))) (nI_add _ _) ?_
                    refine va_put (D := D) (ci := 5) (v := .int (nI (n + 1))) (ty := .int) (C := RX5) (T := TX5) (N := 18) hx hb hts hiX5 tyX5 tyX5_ok nmX5 hown hK hP hD hS 0 rfl rfl 1 (by decide) (hts (.fieldLink RX5 52 "FaultSearchModel" "nets" "I") (by decide +kernel)) (fun _ h9 => h9) rfl (by decide +kernel) rfl rfl (Nat.le_of_ble_eq_true rfl) dX5_gate_126 (fun H locs hP hD hS => ?_)
                    have hP : va_P D vwCl [(qm, .inr (5, [.int (nI 0), .int (nI (n + 1)), .int (nI ni), .int (nI no), .ref mk, .ref m0, .ref m1, .ref mi, .ref mo, .ref ml, .ref mf, .ref ma, .int (nI cl), .ref mfd, .ref mts, .int (nI tc), .ref mg, .ref mb])), (mk, .inl (cI, 100, .inl (upd kd n k))), (m0, .inl (cI, 100, .inl (upd s0 n (nI a)))), (m1, .inl (cI, 100, .inl (upd s1 n (nI bb)))), (mo, .inl (cI, 12, .inl on)), (ml, .inl (cI, 600, .inl le)), (mf, .inl (cI, 600, .inl cf)), (ma, .inl (cI, 600, .inl ca)), (mfd, .inl (cZ, 600, .inl fd))] H := hP
                    have hD : va_D A [(qm, .inr (5, [.int (nI 0), .int (nI (n + 1)), .int (nI ni), .int (nI no), .ref mk, .ref m0, .ref m1, .ref mi, .ref mo, .ref ml, .ref mf, .ref ma, .int (nI cl), .ref mfd, .ref mts, .int (nI tc), .ref mg, .ref mb])), (mk, .inl (cI, 100, .inl (upd kd n k))), (m0, .inl (cI, 100, .inl (upd s0 n (nI a)))), (m1, .inl (cI, 100, .inl (upd s1 n (nI bb)))), (mo, .inl (cI, 12, .inl on)), (ml, .inl (cI, 600, .inl le)), (mf, .inl (cI, 600, .inl cf)), (ma, .inl (cI, 600, .inl ca)), (mfd, .inl (cZ, 600, .inl fd))] := hD
                    refine lv_aload_n hx hb dX5_gate_129 rfl (lv_at hl 1 rfl) ?_
                    have hPc := hP.sub (ws' := [(qm, .inr (5, [.int (nI 0), .int (nI (n + 1)), .int (nI ni), .int (nI no), .ref mk, .ref m0, .ref m1, .ref mi, .ref mo, .ref ml, .ref mf, .ref ma, .int (nI cl), .ref mfd, .ref mts, .int (nI tc), .ref mg, .ref mb])), (mk, .inl (cI, 100, .inl (upd kd n k))), (m0, .inl (cI, 100, .inl (upd s0 n (nI a)))), (m1, .inl (cI, 100, .inl (upd s1 n (nI bb)))), (mo, .inl (cI, 12, .inl on)), (ml, .inl (cI, 600, .inl le)), (mf, .inl (cI, 600, .inl cf)), (ma, .inl (cI, 600, .inl ca)), (mfd, .inl (cZ, 600, .inl fd))]) [0, 1, 2, 3, 4, 5, 6, 7, 8] rfl
                    have hDc := hD.sub (ws' := [(qm, .inr (5, [.int (nI 0), .int (nI (n + 1)), .int (nI ni), .int (nI no), .ref mk, .ref m0, .ref m1, .ref mi, .ref mo, .ref ml, .ref mf, .ref ma, .int (nI cl), .ref mfd, .ref mts, .int (nI tc), .ref mg, .ref mb])), (mk, .inl (cI, 100, .inl (upd kd n k))), (m0, .inl (cI, 100, .inl (upd s0 n (nI a)))), (m1, .inl (cI, 100, .inl (upd s1 n (nI bb)))), (mo, .inl (cI, 12, .inl on)), (ml, .inl (cI, 600, .inl le)), (mf, .inl (cI, 600, .inl cf)), (ma, .inl (cI, 600, .inl ca)), (mfd, .inl (cZ, 600, .inl fd))]) [0, 1, 2, 3, 4, 5, 6, 7, 8] (by decide) rfl
                    have hFc := va_free (wc := [(qm, .inr (5, [.int (nI 0), .int (nI (n + 1)), .int (nI ni), .int (nI no), .ref mk, .ref m0, .ref m1, .ref mi, .ref mo, .ref ml, .ref mf, .ref ma, .int (nI cl), .ref mfd, .ref mts, .int (nI tc), .ref mg, .ref mb])), (mk, .inl (cI, 100, .inl (upd kd n k))), (m0, .inl (cI, 100, .inl (upd s0 n (nI a)))), (m1, .inl (cI, 100, .inl (upd s1 n (nI bb)))), (mo, .inl (cI, 12, .inl on)), (ml, .inl (cI, 600, .inl le)), (mf, .inl (cI, 600, .inl cf)), (ma, .inl (cI, 600, .inl ca)), (mfd, .inl (cZ, 600, .inl fd))]) hD hS hA [0, 1, 2, 3, 4, 5, 6, 7, 8] rfl
                    refine va_callv (va_runV (As := []) (rest := []) ⟨hx, hb, hml, hown, hts⟩ (c_X5_build l D cI cJ cZ qm mk m0 m1 mi mo ml mf ma mfd mts mg mb (nI 0) (n + 1) ni no cl tc (upd kd n k) (upd s0 n (nI a)) (upd s1 n (nI bb)) on le cf ca fd H.size _ rfl (by omega) (by omega) (hwf.gat ha hb2 h2) (hwo.grow (by omega)) (hkd.gat hkk)) (cwV 0 hts gX5_gate_X5_build rfl rfl rfl (by decide +kernel) ⟨Nat.le_of_ble_eq_true rfl, Nat.le_of_ble_eq_true rfl⟩) ⟨PW.blind, va_recv hK hPc (ci := 5) (q0 := 0) rfl rfl, fun U hU hW => ⟨rfl, PW.to hPc hK hNB hDc hU hW⟩⟩ rfl rfl hl.1 rfl (lv_room (Nat.le_of_ble_eq_true rfl)) dX5_gate_130 ⟨Nat.le_of_ble_eq_true rfl, Nat.le_of_ble_eq_true rfl⟩) hS (fun q _ h => hFc q h) hFc (fun u_9 t_9 H1_9 locs ht_9 hvm_9 hw_9 hB_9 hz1_9 hk1_9 hS => ?_)
                    obtain ⟨le2_19, ca2_20, cf2_21, cl2_22⟩ := u_9
                    obtain ⟨hP1_9, hD1_9⟩ := hB_9
                    rw [ht_9] at hP1_9
                    obtain ⟨k_E, k_C⟩ := hw_9
                    have k_E : (ca2_20, cf2_21, cl2_22) = mE (mrgs (srP (upd kd n k) (upd s0 n (nI a)) (upd s1 n (nI bb)) on (n + 1) no (n + 1)) id) (lnF (upd kd n k) (n + 1) 600) (ca, cf, 0) := k_E
                    have k_C : cl2_22 ≤ 600 := k_C
                    obtain ⟨hP, hD⟩ := va_join (wr := []) (w1 := [(qm, .inr (5, [.int (nI 0), .int (nI (n + 1)), .int (nI ni), .int (nI no), .ref mk, .ref m0, .ref m1, .ref mi, .ref mo, .ref ml, .ref mf, .ref ma, .int (nI cl2_22), .ref mfd, .ref mts, .int (nI 0), .ref mg, .ref mb])), (mk, .inl (cI, 100, .inl (upd kd n k))), (m0, .inl (cI, 100, .inl (upd s0 n (nI a)))), (m1, .inl (cI, 100, .inl (upd s1 n (nI bb)))), (mo, .inl (cI, 12, .inl on)), (ml, .inl (cI, 600, .inl le2_19)), (mf, .inl (cI, 600, .inl cf2_21)), (ma, .inl (cI, 600, .inl ca2_20)), (mfd, .inl (cZ, 600, .inl (clrF fd 600)))]) hP hD [0, 1, 2, 3, 4, 5, 6, 7, 8] [] rfl rfl (by decide) (by decide) hk1_9 hFc hP1_9 hD1_9
                    generalize H1_9 = H at hP hS ⊢
                    have hP : va_P D vwCl [(qm, .inr (5, [.int (nI 0), .int (nI (n + 1)), .int (nI ni), .int (nI no), .ref mk, .ref m0, .ref m1, .ref mi, .ref mo, .ref ml, .ref mf, .ref ma, .int (nI cl2_22), .ref mfd, .ref mts, .int (nI 0), .ref mg, .ref mb])), (mk, .inl (cI, 100, .inl (upd kd n k))), (m0, .inl (cI, 100, .inl (upd s0 n (nI a)))), (m1, .inl (cI, 100, .inl (upd s1 n (nI bb)))), (mo, .inl (cI, 12, .inl on)), (ml, .inl (cI, 600, .inl le2_19)), (mf, .inl (cI, 600, .inl cf2_21)), (ma, .inl (cI, 600, .inl ca2_20)), (mfd, .inl (cZ, 600, .inl (clrF fd 600)))] H := hP
                    have hD : va_D A [(qm, .inr (5, [.int (nI 0), .int (nI (n + 1)), .int (nI ni), .int (nI no), .ref mk, .ref m0, .ref m1, .ref mi, .ref mo, .ref ml, .ref mf, .ref ma, .int (nI cl2_22), .ref mfd, .ref mts, .int (nI 0), .ref mg, .ref mb])), (mk, .inl (cI, 100, .inl (upd kd n k))), (m0, .inl (cI, 100, .inl (upd s0 n (nI a)))), (m1, .inl (cI, 100, .inl (upd s1 n (nI bb)))), (mo, .inl (cI, 12, .inl on)), (ml, .inl (cI, 600, .inl le2_19)), (mf, .inl (cI, 600, .inl cf2_21)), (ma, .inl (cI, 600, .inl ca2_20)), (mfd, .inl (cZ, 600, .inl (clrF fd 600)))] := hD
                    refine lv_aload_n hx hb dX5_gate_133 rfl (lv_at hl 1 rfl) ?_
                    refine va_get (D := D) (ci := 5) (v := .int (nI (n + 1))) (C := RX5) (T := TX5) (N := 18) hx hb hts hiX5 hown hK hP 0 rfl rfl 1 (by decide) (hts (.fieldLink RX5 52 "FaultSearchModel" "nets" "I") (by decide +kernel)) (fun _ h9 => h9) rfl dX5_gate_134 ?_
                    refine lv_iconst (v := (nI 1)) hx hb dX5_gate_137 (by decide) ?_
                    refine lv_isub hx hb dX5_gate_138 ?_
                    refine zz_i (z := (nI ((n + 1) - 1))) (pk_sub (by omega)) ?_
                    exact W.iret (v := (nI ((n + 1) - 1))) hx hb hr (fun t_9 ht_9 hW_9 => ⟨⟨(nI ((n + 1) - 1)), (le2_19, ca2_20, cf2_21, cl2_22), rfl, (show (nI ((n + 1) - 1)) = (nI n) ∧ (ca2_20, cf2_21, cl2_22) = mE (mrgs (srP (upd kd n k) (upd s0 n (nI a)) (upd s1 n (nI bb)) on (n + 1) no (n + 1)) id) (lnF (upd kd n k) (n + 1) 600) (ca, cf, 0) ∧ cl2_22 ≤ 600 from ⟨(congrArg nI (by omega)), k_E, k_C⟩), ⟨by rw [ht_9]; exact hP, hD⟩⟩, hS.F ht_9⟩) hS.2.2 dX5_gate_139
                · skip
                  rw [zc_if0] at c_75
                  have c_75 := Classical.not_not.mp c_75
                  exact absurd c_75 (by decide)
              · skip
                exact absurd hk2 c_64
          · skip
            rw [zc_eq (by omega) (by omega)] at c_50
            exact absurd c_50 (by omega)
        · skip
          exact absurd c_29 (by decide)

set_option maxHeartbeats 4000000 in
set_option maxRecDepth 100000 in
theorem c_X5_output_no (l : Launch) (D : va_G) (cI cJ cZ : ClassId) (qm : Nat) (mk : Nat) (m0 : Nat) (m1 : Nat) (mi : Nat) (mo : Nat) (ml : Nat) (mf : Nat) (ma : Nat) (mfd : Nat) (mts : Nat) (mg : Nat) (mb : Nat) (cd : Int32) (n : Nat) (ni : Nat) (no : Nat) (cl : Nat) (tc : Nat) (a : Int32) (sz : Nat) (A : Nat → Prop) (hAe : A = va_A [(qm, .inr (5, [.int cd, .int (nI n), .int (nI ni), .int (nI no), .ref mk, .ref m0, .ref m1, .ref mi, .ref mo, .ref ml, .ref mf, .ref ma, .int (nI cl), .ref mfd, .ref mts, .int (nI tc), .ref mg, .ref mb]))] sz) (h : ¬ oCode n no a = 0) (h2 : no ≤ 12) : Met l yX5_output wsX5_output ({ frames := 1, cells := 0, slots := 0, locals := 21 } : Room) (va_Pc [.ref qm, .int a] (PW D cI cJ cZ [(qm, .inr (5, [.int cd, .int (nI n), .int (nI ni), .int (nI no), .ref mk, .ref m0, .ref m1, .ref mi, .ref mo, .ref ml, .ref mf, .ref ma, .int (nI cl), .ref mfd, .ref mts, .int (nI tc), .ref mg, .ref mb]))] sz)) (va_Qi (fun (r_9 : Int32) (u9 : Nat) => match u9 with | w2 => r_9 = (nI 0) ∧ w2 = oCode n no a) (fun (u9 : Nat) t => match u9 with | w2 => PQ D A [(qm, .inr (5, [.int (nI w2), .int (nI n), .int (nI ni), .int (nI no), .ref mk, .ref m0, .ref m1, .ref mi, .ref mo, .ref ml, .ref mf, .ref ma, .int (nI cl), .ref mfd, .ref mts, .int (nI tc), .ref mg, .ref mb]))] t) A) 0 0 A := by
  refine Met.ofW (cc := cX5_output) (maxL := 2) (ret := (some .int)) (by decide) rfl ?_
  intro p e s m args below meth c s₁ B hml hv
  obtain ⟨rfl, hsz, ⟨hP, hK, hNB⟩, hD0⟩ := hv
  have hx := B.exec
  have hb := B.bytes
  have hr := B.returns
  have hts := atoms_spec (ws := wsX5_output) B.pre
  have hown : s.vm.findClass RX5 = some m.cls := findClass_of_methodNamed B.named
  have hlocks := B.notSynchronized
  have hiX5 : ∀ w ∈ u_ws RX5 TX5 18, w ∈ wsX5_output := by decide +kernel
  subst hsz
  have hD : va_D A [(qm, .inr (5, [.int cd, .int (nI n), .int (nI ni), .int (nI no), .ref mk, .ref m0, .ref m1, .ref mi, .ref mo, .ref ml, .ref mf, .ref ma, .int (nI cl), .ref mfd, .ref mts, .int (nI tc), .ref mg, .ref mb]))] := by rw [hAe]; exact hD0.self
  have hA : ∀ q : Nat, s.heap.size ≤ q → A q := fun q h => by rw [hAe]; exact Or.inr h
  have hS : va_S A s.heap s.heap [] := va_S.rf
  have hl := lv_entry ([.ref qm, .int a]) (n := 2) (Nat.le_of_ble_eq_true rfl)
  rw [lg_entry_eq]
  generalize (lg_sl ([.ref qm, .int a]) ++ List.replicate (2 - (lg_sl ([.ref qm, .int a])).length) Slot.unset).toArray = ls at hl ⊢
  have hl : lv_has ls 2 [(0, .ref qm), (1, .int a)] := hl
  refine lv_aload_n hx hb dX5_output_0 rfl (lv_at hl 0 rfl) ?_
  refine lv_aload_n hx hb dX5_output_1 rfl (lv_at hl 0 rfl) ?_
  refine lv_iload_n hx hb dX5_output_2 rfl (lv_at hl 1 rfl) ?_
  have hPc := hP.sub (ws' := [(qm, .inr (5, [.int cd, .int (nI n), .int (nI ni), .int (nI no), .ref mk, .ref m0, .ref m1, .ref mi, .ref mo, .ref ml, .ref mf, .ref ma, .int (nI cl), .ref mfd, .ref mts, .int (nI tc), .ref mg, .ref mb]))]) [0] rfl
  refine vp_callSi (va_runV (As := [.int a]) (rest := [.ref qm]) ⟨hx, hb, hml, hown, hts⟩ (c_X5_isNet l D cI cJ cZ qm mk m0 m1 mi mo ml mf ma mfd mts mg mb cd n ni no cl tc a) (cwV 1 hts gX5_output_X5_isNet rfl rfl rfl (by decide +kernel) ⟨Nat.le_of_ble_eq_true rfl, Nat.le_of_ble_eq_true rfl⟩) ⟨PR.blind, va_recv hK hPc (ci := 5) (q0 := 0) rfl rfl, fun U hU hW => ⟨rfl, PR.to hPc hK hNB hU hW⟩⟩ rfl rfl hl.1 rfl (lv_room (Nat.le_of_ble_eq_true rfl)) dX5_output_3 ⟨Nat.le_of_ble_eq_true rfl, Nat.le_of_ble_eq_true rfl⟩).run (fun r_1 hrr_1 => ?_)
  subst hrr_1
  refine lv_if_ne (tgt := 13) hx hb dX5_output_6 (by decide) (fun c_6 => ?_) (fun c_6 => ?_)
  · skip
    rw [zc_if0] at c_6
    have c_6 := Classical.not_not.mp c_6
    refine lv_aload_n hx hb dX5_output_13 rfl (lv_at hl 0 rfl) ?_
    refine va_get (D := D) (ci := 5) (v := .int (nI no)) (C := RX5) (T := TX5) (N := 18) hx hb hts hiX5 hown hK hP 0 rfl rfl 3 (by decide) (hts (.fieldLink RX5 68 "FaultSearchModel" "outputs" "I") (by decide +kernel)) (fun _ h9 => h9) rfl dX5_output_14 ?_
    refine lv_bipush (v := (nI 12)) hx hb dX5_output_17 (by decide) ?_
    refine lv_icmp_ne (tgt := 26) hx hb dX5_output_19 (by decide) (fun c_19 => ?_) (fun c_19 => ?_)
    · skip
      rw [zc_eq (by omega) (by omega)] at c_19
      exact absurd (by simp_all [oCode]) h
    · skip
      rw [zc_eq (by omega) (by omega)] at c_19
      refine lv_iconst (v := (nI 2)) hx hb dX5_output_22 (by decide) ?_
      refine lv_goto (tgt := 27) hx hb dX5_output_23 (by decide) ?_
      have hPc := hP.sub (ws' := [(qm, .inr (5, [.int cd, .int (nI n), .int (nI ni), .int (nI no), .ref mk, .ref m0, .ref m1, .ref mi, .ref mo, .ref ml, .ref mf, .ref ma, .int (nI cl), .ref mfd, .ref mts, .int (nI tc), .ref mg, .ref mb]))]) [0] rfl
      have hDc := hD.sub (ws' := [(qm, .inr (5, [.int cd, .int (nI n), .int (nI ni), .int (nI no), .ref mk, .ref m0, .ref m1, .ref mi, .ref mo, .ref ml, .ref mf, .ref ma, .int (nI cl), .ref mfd, .ref mts, .int (nI tc), .ref mg, .ref mb]))]) [0] (by decide) rfl
      have hFc := va_free (wc := [(qm, .inr (5, [.int cd, .int (nI n), .int (nI ni), .int (nI no), .ref mk, .ref m0, .ref m1, .ref mi, .ref mo, .ref ml, .ref mf, .ref ma, .int (nI cl), .ref mfd, .ref mts, .int (nI tc), .ref mg, .ref mb]))]) hD hS hA [0] rfl
      refine va_calli (va_runV (As := [.int (nI 2)]) (rest := []) ⟨hx, hb, hml, hown, hts⟩ (c_X5_refuses l D cI cJ cZ qm mk m0 m1 mi mo ml mf ma mfd mts mg mb cd n ni no cl tc 2 s.heap.size _ rfl (by omega)) (cwV 1 hts gX5_output_X5_refuses rfl rfl rfl (by decide +kernel) ⟨Nat.le_of_ble_eq_true rfl, Nat.le_of_ble_eq_true rfl⟩) ⟨PW.blind, va_recv hK hPc (ci := 5) (q0 := 0) rfl rfl, fun U hU hW => ⟨rfl, PW.to hPc hK hNB hDc hU hW⟩⟩ rfl rfl hl.1 rfl (lv_room (Nat.le_of_ble_eq_true rfl)) dX5_output_27 ⟨Nat.le_of_ble_eq_true rfl, Nat.le_of_ble_eq_true rfl⟩) hS (fun q _ h => hFc q h) hFc (fun r_2 u_9 t_9 H1_9 locs ht_9 hvm_9 hw_9 hB_9 hz1_9 hk1_9 hS => ?_)
      obtain ⟨hP1_9, hD1_9⟩ := hB_9
      rw [ht_9] at hP1_9
      obtain rfl := hw_9
      obtain ⟨hP, hD⟩ := va_join (wr := []) (w1 := [(qm, .inr (5, [.int (nI 2), .int (nI n), .int (nI ni), .int (nI no), .ref mk, .ref m0, .ref m1, .ref mi, .ref mo, .ref ml, .ref mf, .ref ma, .int (nI cl), .ref mfd, .ref mts, .int (nI tc), .ref mg, .ref mb]))]) hP hD [0] [] rfl rfl (by decide) (by decide) hk1_9 hFc hP1_9 hD1_9
      generalize H1_9 = H at hP hS ⊢
      have hP : va_P D vwCl [(qm, .inr (5, [.int (nI 2), .int (nI n), .int (nI ni), .int (nI no), .ref mk, .ref m0, .ref m1, .ref mi, .ref mo, .ref ml, .ref mf, .ref ma, .int (nI cl), .ref mfd, .ref mts, .int (nI tc), .ref mg, .ref mb]))] H := hP
      have hD : va_D A [(qm, .inr (5, [.int (nI 2), .int (nI n), .int (nI ni), .int (nI no), .ref mk, .ref m0, .ref m1, .ref mi, .ref mo, .ref ml, .ref mf, .ref ma, .int (nI cl), .ref mfd, .ref mts, .int (nI tc), .ref mg, .ref mb]))] := hD
      refine lv_if_eq (tgt := 35) hx hb dX5_output_30 (by decide) (fun c_30 => ?_) (fun c_30 => ?_)
      · skip
        rw [zc_if0] at c_30
        exact absurd (by decide) c_30
      · skip
        rw [zc_if0] at c_30
        have c_30 := Classical.not_not.mp c_30
        refine lv_iconst (v := (nI 0)) hx hb dX5_output_33 (by decide) ?_
        exact W.iret (v := (nI 0)) hx hb hr (fun t_9 ht_9 hW_9 => ⟨⟨(nI 0), 2, rfl, (show (nI 0) = (nI 0) ∧ 2 = oCode n no a from ⟨rfl, (by simp_all [oCode])⟩), ⟨by rw [ht_9]; exact hP, hD⟩⟩, hS.F ht_9⟩) hS.2.2 dX5_output_34
  · skip
    rw [zc_if0] at c_6
    refine lv_iconst (v := (nI 1)) hx hb dX5_output_9 (by decide) ?_
    refine lv_goto (tgt := 27) hx hb dX5_output_10 (by decide) ?_
    have hPc := hP.sub (ws' := [(qm, .inr (5, [.int cd, .int (nI n), .int (nI ni), .int (nI no), .ref mk, .ref m0, .ref m1, .ref mi, .ref mo, .ref ml, .ref mf, .ref ma, .int (nI cl), .ref mfd, .ref mts, .int (nI tc), .ref mg, .ref mb]))]) [0] rfl
    have hDc := hD.sub (ws' := [(qm, .inr (5, [.int cd, .int (nI n), .int (nI ni), .int (nI no), .ref mk, .ref m0, .ref m1, .ref mi, .ref mo, .ref ml, .ref mf, .ref ma, .int (nI cl), .ref mfd, .ref mts, .int (nI tc), .ref mg, .ref mb]))]) [0] (by decide) rfl
    have hFc := va_free (wc := [(qm, .inr (5, [.int cd, .int (nI n), .int (nI ni), .int (nI no), .ref mk, .ref m0, .ref m1, .ref mi, .ref mo, .ref ml, .ref mf, .ref ma, .int (nI cl), .ref mfd, .ref mts, .int (nI tc), .ref mg, .ref mb]))]) hD hS hA [0] rfl
    refine va_calli (va_runV (As := [.int (nI 1)]) (rest := []) ⟨hx, hb, hml, hown, hts⟩ (c_X5_refuses l D cI cJ cZ qm mk m0 m1 mi mo ml mf ma mfd mts mg mb cd n ni no cl tc 1 s.heap.size _ rfl (by omega)) (cwV 1 hts gX5_output_X5_refuses rfl rfl rfl (by decide +kernel) ⟨Nat.le_of_ble_eq_true rfl, Nat.le_of_ble_eq_true rfl⟩) ⟨PW.blind, va_recv hK hPc (ci := 5) (q0 := 0) rfl rfl, fun U hU hW => ⟨rfl, PW.to hPc hK hNB hDc hU hW⟩⟩ rfl rfl hl.1 rfl (lv_room (Nat.le_of_ble_eq_true rfl)) dX5_output_27 ⟨Nat.le_of_ble_eq_true rfl, Nat.le_of_ble_eq_true rfl⟩) hS (fun q _ h => hFc q h) hFc (fun r_3 u_9 t_9 H1_9 locs ht_9 hvm_9 hw_9 hB_9 hz1_9 hk1_9 hS => ?_)
    obtain ⟨hP1_9, hD1_9⟩ := hB_9
    rw [ht_9] at hP1_9
    obtain rfl := hw_9
    obtain ⟨hP, hD⟩ := va_join (wr := []) (w1 := [(qm, .inr (5, [.int (nI 1), .int (nI n), .int (nI ni), .int (nI no), .ref mk, .ref m0, .ref m1, .ref mi, .ref mo, .ref ml, .ref mf, .ref ma, .int (nI cl), .ref mfd, .ref mts, .int (nI tc), .ref mg, .ref mb]))]) hP hD [0] [] rfl rfl (by decide) (by decide) hk1_9 hFc hP1_9 hD1_9
    generalize H1_9 = H at hP hS ⊢
    have hP : va_P D vwCl [(qm, .inr (5, [.int (nI 1), .int (nI n), .int (nI ni), .int (nI no), .ref mk, .ref m0, .ref m1, .ref mi, .ref mo, .ref ml, .ref mf, .ref ma, .int (nI cl), .ref mfd, .ref mts, .int (nI tc), .ref mg, .ref mb]))] H := hP
    have hD : va_D A [(qm, .inr (5, [.int (nI 1), .int (nI n), .int (nI ni), .int (nI no), .ref mk, .ref m0, .ref m1, .ref mi, .ref mo, .ref ml, .ref mf, .ref ma, .int (nI cl), .ref mfd, .ref mts, .int (nI tc), .ref mg, .ref mb]))] := hD
    refine lv_if_eq (tgt := 35) hx hb dX5_output_30 (by decide) (fun c_30 => ?_) (fun c_30 => ?_)
    · skip
      rw [zc_if0] at c_30
      exact absurd (by decide) c_30
    · skip
      rw [zc_if0] at c_30
      have c_30 := Classical.not_not.mp c_30
      refine lv_iconst (v := (nI 0)) hx hb dX5_output_33 (by decide) ?_
      exact W.iret (v := (nI 0)) hx hb hr (fun t_9 ht_9 hW_9 => ⟨⟨(nI 0), 1, rfl, (show (nI 0) = (nI 0) ∧ 1 = oCode n no a from ⟨rfl, (by simp_all [oCode])⟩), ⟨by rw [ht_9]; exact hP, hD⟩⟩, hS.F ht_9⟩) hS.2.2 dX5_output_34

set_option maxHeartbeats 4000000 in
set_option maxRecDepth 100000 in
theorem c_X5_output_ok (l : Launch) (D : va_G) (cI cJ cZ : ClassId) (qm : Nat) (mk : Nat) (m0 : Nat) (m1 : Nat) (mi : Nat) (mo : Nat) (ml : Nat) (mf : Nat) (ma : Nat) (mfd : Nat) (mts : Nat) (mg : Nat) (mb : Nat) (cd : Int32) (n : Nat) (ni : Nat) (no : Nat) (cl : Nat) (tc : Nat) (kd : Nat → Int32) (s0 : Nat → Int32) (s1 : Nat → Int32) (on : Nat → Int32) (le : Nat → Int32) (cf : Nat → Int32) (ca : Nat → Int32) (fd : Nat → Int32) (a : Nat) (sz : Nat) (A : Nat → Prop) (hAe : A = va_A [(qm, .inr (5, [.int cd, .int (nI n), .int (nI ni), .int (nI no), .ref mk, .ref m0, .ref m1, .ref mi, .ref mo, .ref ml, .ref mf, .ref ma, .int (nI cl), .ref mfd, .ref mts, .int (nI tc), .ref mg, .ref mb])), (mk, .inl (cI, 100, .inl kd)), (m0, .inl (cI, 100, .inl s0)), (m1, .inl (cI, 100, .inl s1)), (mo, .inl (cI, 12, .inl on)), (ml, .inl (cI, 600, .inl le)), (mf, .inl (cI, 600, .inl cf)), (ma, .inl (cI, 600, .inl ca)), (mfd, .inl (cZ, 600, .inl fd))] sz) (hn : n ≤ 100) (hno : no ≤ 12) (hwf : WF n kd s0 s1) (hwo : WO n no on) (hkd : KD n kd) (h2 : no < 12) (ha : a < n) : Met l yX5_output wsX5_output ({ frames := 3, cells := 0, slots := 0, locals := 71 } : Room) (va_Pc [.ref qm, .int (nI a)] (PW D cI cJ cZ [(qm, .inr (5, [.int cd, .int (nI n), .int (nI ni), .int (nI no), .ref mk, .ref m0, .ref m1, .ref mi, .ref mo, .ref ml, .ref mf, .ref ma, .int (nI cl), .ref mfd, .ref mts, .int (nI tc), .ref mg, .ref mb])), (mk, .inl (cI, 100, .inl kd)), (m0, .inl (cI, 100, .inl s0)), (m1, .inl (cI, 100, .inl s1)), (mo, .inl (cI, 12, .inl on)), (ml, .inl (cI, 600, .inl le)), (mf, .inl (cI, 600, .inl cf)), (ma, .inl (cI, 600, .inl ca)), (mfd, .inl (cZ, 600, .inl fd))] sz)) (va_Qi (fun (r_9 : Int32) (u9 : (Nat → Int32) × (Nat → Int32) × (Nat → Int32) × Nat) => match u9 with | (le2, ca2, cf2, cl2) => r_9 = (nI no) ∧ (ca2, cf2, cl2) = mE (mrgs (srP kd s0 s1 (upd on no (nI a)) n (no + 1) n) id) (lnF kd n 600) (ca, cf, 0) ∧ cl2 ≤ 600) (fun (u9 : (Nat → Int32) × (Nat → Int32) × (Nat → Int32) × Nat) t => match u9 with | (le2, ca2, cf2, cl2) => PQ D A [(qm, .inr (5, [.int (nI 0), .int (nI n), .int (nI ni), .int (nI (no + 1)), .ref mk, .ref m0, .ref m1, .ref mi, .ref mo, .ref ml, .ref mf, .ref ma, .int (nI cl2), .ref mfd, .ref mts, .int (nI 0), .ref mg, .ref mb])), (mk, .inl (cI, 100, .inl kd)), (m0, .inl (cI, 100, .inl s0)), (m1, .inl (cI, 100, .inl s1)), (mo, .inl (cI, 12, .inl (upd on no (nI a)))), (ml, .inl (cI, 600, .inl le2)), (mf, .inl (cI, 600, .inl cf2)), (ma, .inl (cI, 600, .inl ca2)), (mfd, .inl (cZ, 600, .inl (clrF fd 600)))] t) A) 0 0 A := by
  refine Met.ofW (cc := cX5_output) (maxL := 2) (ret := (some .int)) (by decide) rfl ?_
  intro p e s m args below meth c s₁ B hml hv
  obtain ⟨rfl, hsz, ⟨hP, hK, hNB⟩, hD0⟩ := hv
  have hx := B.exec
  have hb := B.bytes
  have hr := B.returns
  have hts := atoms_spec (ws := wsX5_output) B.pre
  have hown : s.vm.findClass RX5 = some m.cls := findClass_of_methodNamed B.named
  have hlocks := B.notSynchronized
  have hiX5 : ∀ w ∈ u_ws RX5 TX5 18, w ∈ wsX5_output := by decide +kernel
  subst hsz
  have hD : va_D A [(qm, .inr (5, [.int cd, .int (nI n), .int (nI ni), .int (nI no), .ref mk, .ref m0, .ref m1, .ref mi, .ref mo, .ref ml, .ref mf, .ref ma, .int (nI cl), .ref mfd, .ref mts, .int (nI tc), .ref mg, .ref mb])), (mk, .inl (cI, 100, .inl kd)), (m0, .inl (cI, 100, .inl s0)), (m1, .inl (cI, 100, .inl s1)), (mo, .inl (cI, 12, .inl on)), (ml, .inl (cI, 600, .inl le)), (mf, .inl (cI, 600, .inl cf)), (ma, .inl (cI, 600, .inl ca)), (mfd, .inl (cZ, 600, .inl fd))] := by rw [hAe]; exact hD0.self
  have hA : ∀ q : Nat, s.heap.size ≤ q → A q := fun q h => by rw [hAe]; exact Or.inr h
  have hS : va_S A s.heap s.heap [] := va_S.rf
  have hl := lv_entry ([.ref qm, .int (nI a)]) (n := 2) (Nat.le_of_ble_eq_true rfl)
  rw [lg_entry_eq]
  generalize (lg_sl ([.ref qm, .int (nI a)]) ++ List.replicate (2 - (lg_sl ([.ref qm, .int (nI a)])).length) Slot.unset).toArray = ls at hl ⊢
  have hl : lv_has ls 2 [(0, .ref qm), (1, .int (nI a))] := hl
  refine lv_aload_n hx hb dX5_output_0 rfl (lv_at hl 0 rfl) ?_
  refine lv_aload_n hx hb dX5_output_1 rfl (lv_at hl 0 rfl) ?_
  refine lv_iload_n hx hb dX5_output_2 rfl (lv_at hl 1 rfl) ?_
  have hPc := hP.sub (ws' := [(qm, .inr (5, [.int cd, .int (nI n), .int (nI ni), .int (nI no), .ref mk, .ref m0, .ref m1, .ref mi, .ref mo, .ref ml, .ref mf, .ref ma, .int (nI cl), .ref mfd, .ref mts, .int (nI tc), .ref mg, .ref mb]))]) [0] rfl
  refine vp_callSi (va_runV (As := [.int (nI a)]) (rest := [.ref qm]) ⟨hx, hb, hml, hown, hts⟩ (c_X5_isNet l D cI cJ cZ qm mk m0 m1 mi mo ml mf ma mfd mts mg mb cd n ni no cl tc (nI a)) (cwV 1 hts gX5_output_X5_isNet rfl rfl rfl (by decide +kernel) ⟨Nat.le_of_ble_eq_true rfl, Nat.le_of_ble_eq_true rfl⟩) ⟨PR.blind, va_recv hK hPc (ci := 5) (q0 := 0) rfl rfl, fun U hU hW => ⟨rfl, PR.to hPc hK hNB hU hW⟩⟩ rfl rfl hl.1 rfl (lv_room (Nat.le_of_ble_eq_true rfl)) dX5_output_3 ⟨Nat.le_of_ble_eq_true rfl, Nat.le_of_ble_eq_true rfl⟩).run (fun r_1 hrr_1 => ?_)
  subst hrr_1
  refine lv_if_ne (tgt := 13) hx hb dX5_output_6 (by decide) (fun c_6 => ?_) (fun c_6 => ?_)
  · skip
    rw [zc_if0] at c_6
    have c_6 := Classical.not_not.mp c_6
    refine lv_aload_n hx hb dX5_output_13 rfl (lv_at hl 0 rfl) ?_
    refine va_get (D := D) (ci := 5) (v := .int (nI no)) (C := RX5) (T := TX5) (N := 18) hx hb hts hiX5 hown hK hP 0 rfl rfl 3 (by decide) (hts (.fieldLink RX5 68 "FaultSearchModel" "outputs" "I") (by decide +kernel)) (fun _ h9 => h9) rfl dX5_output_14 ?_
    refine lv_bipush (v := (nI 12)) hx hb dX5_output_17 (by decide) ?_
    refine lv_icmp_ne (tgt := 26) hx hb dX5_output_19 (by decide) (fun c_19 => ?_) (fun c_19 => ?_)
    · skip
      rw [zc_eq (by omega) (by omega)] at c_19
      refine lv_iconst (v := (nI 0)) hx hb dX5_output_26 (by decide) ?_
      have hPc := hP.sub (ws' := [(qm, .inr (5, [.int cd, .int (nI n), .int (nI ni), .int (nI no), .ref mk, .ref m0, .ref m1, .ref mi, .ref mo, .ref ml, .ref mf, .ref ma, .int (nI cl), .ref mfd, .ref mts, .int (nI tc), .ref mg, .ref mb]))]) [0] rfl
      have hDc := hD.sub (ws' := [(qm, .inr (5, [.int cd, .int (nI n), .int (nI ni), .int (nI no), .ref mk, .ref m0, .ref m1, .ref mi, .ref mo, .ref ml, .ref mf, .ref ma, .int (nI cl), .ref mfd, .ref mts, .int (nI tc), .ref mg, .ref mb]))]) [0] (by decide) rfl
      have hFc := va_free (wc := [(qm, .inr (5, [.int cd, .int (nI n), .int (nI ni), .int (nI no), .ref mk, .ref m0, .ref m1, .ref mi, .ref mo, .ref ml, .ref mf, .ref ma, .int (nI cl), .ref mfd, .ref mts, .int (nI tc), .ref mg, .ref mb]))]) hD hS hA [0] rfl
      refine va_calli (va_runV (As := [.int (nI 0)]) (rest := []) ⟨hx, hb, hml, hown, hts⟩ (c_X5_refuses l D cI cJ cZ qm mk m0 m1 mi mo ml mf ma mfd mts mg mb cd n ni no cl tc 0 s.heap.size _ rfl (by omega)) (cwV 1 hts gX5_output_X5_refuses rfl rfl rfl (by decide +kernel) ⟨Nat.le_of_ble_eq_true rfl, Nat.le_of_ble_eq_true rfl⟩) ⟨PW.blind, va_recv hK hPc (ci := 5) (q0 := 0) rfl rfl, fun U hU hW => ⟨rfl, PW.to hPc hK hNB hDc hU hW⟩⟩ rfl rfl hl.1 rfl (lv_room (Nat.le_of_ble_eq_true rfl)) dX5_output_27 ⟨Nat.le_of_ble_eq_true rfl, Nat.le_of_ble_eq_true rfl⟩) hS (fun q _ h => hFc q h) hFc (fun r_2 u_9 t_9 H1_9 locs ht_9 hvm_9 hw_9 hB_9 hz1_9 hk1_9 hS => ?_)
      obtain ⟨hP1_9, hD1_9⟩ := hB_9
      rw [ht_9] at hP1_9
      obtain rfl := hw_9
      obtain ⟨hP, hD⟩ := va_join (wr := [(mk, .inl (cI, 100, .inl kd)), (m0, .inl (cI, 100, .inl s0)), (m1, .inl (cI, 100, .inl s1)), (mo, .inl (cI, 12, .inl on)), (ml, .inl (cI, 600, .inl le)), (mf, .inl (cI, 600, .inl cf)), (ma, .inl (cI, 600, .inl ca)), (mfd, .inl (cZ, 600, .inl fd))]) (w1 := [(qm, .inr (5, [.int (nI 0), .int (nI n), .int (nI ni), .int (nI no), .ref mk, .ref m0, .ref m1, .ref mi, .ref mo, .ref ml, .ref mf, .ref ma, .int (nI cl), .ref mfd, .ref mts, .int (nI tc), .ref mg, .ref mb]))]) hP hD [0] [1, 2, 3, 4, 5, 6, 7, 8] rfl rfl (by decide) (by decide) hk1_9 hFc hP1_9 hD1_9
      have hP := hP.sub (ws' := [(qm, .inr (5, [.int (nI 0), .int (nI n), .int (nI ni), .int (nI no), .ref mk, .ref m0, .ref m1, .ref mi, .ref mo, .ref ml, .ref mf, .ref ma, .int (nI cl), .ref mfd, .ref mts, .int (nI tc), .ref mg, .ref mb])), (mk, .inl (cI, 100, .inl kd)), (m0, .inl (cI, 100, .inl s0)), (m1, .inl (cI, 100, .inl s1)), (mo, .inl (cI, 12, .inl on)), (ml, .inl (cI, 600, .inl le)), (mf, .inl (cI, 600, .inl cf)), (ma, .inl (cI, 600, .inl ca)), (mfd, .inl (cZ, 600, .inl fd))]) [8, 0, 1, 2, 3, 4, 5, 6, 7] rfl
      have hD := hD.sub (ws' := [(qm, .inr (5, [.int (nI 0), .int (nI n), .int (nI ni), .int (nI no), .ref mk, .ref m0, .ref m1, .ref mi, .ref mo, .ref ml, .ref mf, .ref ma, .int (nI cl), .ref mfd, .ref mts, .int (nI tc), .ref mg, .ref mb])), (mk, .inl (cI, 100, .inl kd)), (m0, .inl (cI, 100, .inl s0)), (m1, .inl (cI, 100, .inl s1)), (mo, .inl (cI, 12, .inl on)), (ml, .inl (cI, 600, .inl le)), (mf, .inl (cI, 600, .inl cf)), (ma, .inl (cI, 600, .inl ca)), (mfd, .inl (cZ, 600, .inl fd))]) [8, 0, 1, 2, 3, 4, 5, 6, 7] (by decide) rfl
      generalize H1_9 = H at hP hS ⊢
      have hP : va_P D vwCl [(qm, .inr (5, [.int (nI 0), .int (nI n), .int (nI ni), .int (nI no), .ref mk, .ref m0, .ref m1, .ref mi, .ref mo, .ref ml, .ref mf, .ref ma, .int (nI cl), .ref mfd, .ref mts, .int (nI tc), .ref mg, .ref mb])), (mk, .inl (cI, 100, .inl kd)), (m0, .inl (cI, 100, .inl s0)), (m1, .inl (cI, 100, .inl s1)), (mo, .inl (cI, 12, .inl on)), (ml, .inl (cI, 600, .inl le)), (mf, .inl (cI, 600, .inl cf)), (ma, .inl (cI, 600, .inl ca)), (mfd, .inl (cZ, 600, .inl fd))] H := hP
      have hD : va_D A [(qm, .inr (5, [.int (nI 0), .int (nI n), .int (nI ni), .int (nI no), .ref mk, .ref m0, .ref m1, .ref mi, .ref mo, .ref ml, .ref mf, .ref ma, .int (nI cl), .ref mfd, .ref mts, .int (nI tc), .ref mg, .ref mb])), (mk, .inl (cI, 100, .inl kd)), (m0, .inl (cI, 100, .inl s0)), (m1, .inl (cI, 100, .inl s1)), (mo, .inl (cI, 12, .inl on)), (ml, .inl (cI, 600, .inl le)), (mf, .inl (cI, 600, .inl cf)), (ma, .inl (cI, 600, .inl ca)), (mfd, .inl (cZ, 600, .inl fd))] := hD
      refine lv_if_eq (tgt := 35) hx hb dX5_output_30 (by decide) (fun c_30 => ?_) (fun c_30 => ?_)
      · skip
        rw [zc_if0] at c_30
        refine lv_aload_n hx hb dX5_output_35 rfl (lv_at hl 0 rfl) ?_
        refine va_get (D := D) (ci := 5) (v := .ref mo) (C := RX5) (T := TX5) (N := 18) hx hb hts hiX5 hown hK hP 0 rfl rfl 8 (by decide) (hts (.fieldLink RX5 22 "FaultSearchModel" "outs" "[I") (by decide +kernel)) (fun _ h9 => h9) rfl dX5_output_36 ?_
        refine lv_aload_n hx hb dX5_output_39 rfl (lv_at hl 0 rfl) ?_
        refine va_get (D := D) (ci := 5) (v := .int (nI no)) (C := RX5) (T := TX5) (N := 18) hx hb hts hiX5 hown hK hP 0 rfl rfl 3 (by decide) (hts (.fieldLink RX5 68 "FaultSearchModel" "outputs" "I") (by decide +kernel)) (fun _ h9 => h9) rfl dX5_output_40 ?_
        refine lv_iload_n hx hb dX5_output_43 rfl (lv_at hl 1 rfl) ?_
        refine zz_iast hx hb hK hP hD hS 4 0 rfl rfl (n := 12) (j := no) (by omega) (by decide) dX5_output_44 (fun H locs hP hD hS => ?_)
        have hP : va_P D vwCl [(qm, .inr (5, [.int (nI 0), .int (nI n), .int (nI ni), .int (nI no), .ref mk, .ref m0, .ref m1, .ref mi, .ref mo, .ref ml, .ref mf, .ref ma, .int (nI cl), .ref mfd, .ref mts, .int (nI tc), .ref mg, .ref mb])), (mk, .inl (cI, 100, .inl kd)), (m0, .inl (cI, 100, .inl s0)), (m1, .inl (cI, 100, .inl s1)), (mo, .inl (cI, 12, .inl (upd on no (nI a)))), (ml, .inl (cI, 600, .inl le)), (mf, .inl (cI, 600, .inl cf)), (ma, .inl (cI, 600, .inl ca)), (mfd, .inl (cZ, 600, .inl fd))] H := hP
        have hD : va_D A [(qm, .inr (5, [.int (nI 0), .int (nI n), .int (nI ni), .int (nI no), .ref mk, .ref m0, .ref m1, .ref mi, .ref mo, .ref ml, .ref mf, .ref ma, .int (nI cl), .ref mfd, .ref mts, .int (nI tc), .ref mg, .ref mb])), (mk, .inl (cI, 100, .inl kd)), (m0, .inl (cI, 100, .inl s0)), (m1, .inl (cI, 100, .inl s1)), (mo, .inl (cI, 12, .inl (upd on no (nI a)))), (ml, .inl (cI, 600, .inl le)), (mf, .inl (cI, 600, .inl cf)), (ma, .inl (cI, 600, .inl ca)), (mfd, .inl (cZ, 600, .inl fd))] := hD
        refine lv_aload_n hx hb dX5_output_45 rfl (lv_at hl 0 rfl) ?_
        refine lv_dup hx hb dX5_output_46 rfl ?_
        refine va_get (D := D) (ci := 5) (v := .int (nI no)) (C := RX5) (T := TX5) (N := 18) hx hb hts hiX5 hown hK hP 0 rfl rfl 3 (by decide) (hts (.fieldLink RX5 68 "FaultSearchModel" "outputs" "I") (by decide +kernel)) (fun _ h9 => h9) rfl dX5_output_47 ?_
        refine lv_iconst (v := (nI 1)) hx hb dX5_output_50 (by decide) ?_
        refine lv_iadd hx hb dX5_output_51 ?_
        refine zz_i (z := (nI (no + 1))) (nI_add _ _) ?_
        refine va_put (D := D) (ci := 5) (v := .int (nI (no + 1))) (ty := .int) (C := RX5) (T := TX5) (N := 18) hx hb hts hiX5 tyX5 tyX5_ok nmX5 hown hK hP hD hS 0 rfl rfl 3 (by decide) (hts (.fieldLink RX5 68 "FaultSearchModel" "outputs" "I") (by decide +kernel)) (fun _ h9 => h9) rfl (by decide +kernel) rfl rfl (Nat.le_of_ble_eq_true rfl) dX5_output_52 (fun H locs hP hD hS => ?_)
        have hP : va_P D vwCl [(qm, .inr (5, [.int (nI 0), .int (nI n), .int (nI ni), .int (nI (no + 1)), .ref mk, .ref m0, .ref m1, .ref mi, .ref mo, .ref ml, .ref mf, .ref ma, .int (nI cl), .ref mfd, .ref mts, .int (nI tc), .ref mg, .ref mb])), (mk, .inl (cI, 100, .inl kd)), (m0, .inl (cI, 100, .inl s0)), (m1, .inl (cI, 100, .inl s1)), (mo, .inl (cI, 12, .inl (upd on no (nI a)))), (ml, .inl (cI, 600, .inl le)), (mf, .inl (cI, 600, .inl cf)), (ma, .inl (cI, 600, .inl ca)), (mfd, .inl (cZ, 600, .inl fd))] H := hP
        have hD : va_D A [(qm, .inr (5, [.int (nI 0), .int (nI n), .int (nI ni), .int (nI (no + 1)), .ref mk, .ref m0, .ref m1, .ref mi, .ref mo, .ref ml, .ref mf, .ref ma, .int (nI cl), .ref mfd, .ref mts, .int (nI tc), .ref mg, .ref mb])), (mk, .inl (cI, 100, .inl kd)), (m0, .inl (cI, 100, .inl s0)), (m1, .inl (cI, 100, .inl s1)), (mo, .inl (cI, 12, .inl (upd on no (nI a)))), (ml, .inl (cI, 600, .inl le)), (mf, .inl (cI, 600, .inl cf)), (ma, .inl (cI, 600, .inl ca)), (mfd, .inl (cZ, 600, .inl fd))] := hD
        refine lv_aload_n hx hb dX5_output_55 rfl (lv_at hl 0 rfl) ?_
        have hPc := hP.sub (ws' := [(qm, .inr (5, [.int (nI 0), .int (nI n), .int (nI ni), .int (nI (no + 1)), .ref mk, .ref m0, .ref m1, .ref mi, .ref mo, .ref ml, .ref mf, .ref ma, .int (nI cl), .ref mfd, .ref mts, .int (nI tc), .ref mg, .ref mb])), (mk, .inl (cI, 100, .inl kd)), (m0, .inl (cI, 100, .inl s0)), (m1, .inl (cI, 100, .inl s1)), (mo, .inl (cI, 12, .inl (upd on no (nI a)))), (ml, .inl (cI, 600, .inl le)), (mf, .inl (cI, 600, .inl cf)), (ma, .inl (cI, 600, .inl ca)), (mfd, .inl (cZ, 600, .inl fd))]) [0, 1, 2, 3, 4, 5, 6, 7, 8] rfl
        have hDc := hD.sub (ws' := [(qm, .inr (5, [.int (nI 0), .int (nI n), .int (nI ni), .int (nI (no + 1)), .ref mk, .ref m0, .ref m1, .ref mi, .ref mo, .ref ml, .ref mf, .ref ma, .int (nI cl), .ref mfd, .ref mts, .int (nI tc), .ref mg, .ref mb])), (mk, .inl (cI, 100, .inl kd)), (m0, .inl (cI, 100, .inl s0)), (m1, .inl (cI, 100, .inl s1)), (mo, .inl (cI, 12, .inl (upd on no (nI a)))), (ml, .inl (cI, 600, .inl le)), (mf, .inl (cI, 600, .inl cf)), (ma, .inl (cI, 600, .inl ca)), (mfd, .inl (cZ, 600, .inl fd))]) [0, 1, 2, 3, 4, 5, 6, 7, 8] (by decide) rfl
        have hFc := va_free (wc := [(qm, .inr (5, [.int (nI 0), .int (nI n), .int (nI ni), .int (nI (no + 1)), .ref mk, .ref m0, .ref m1, .ref mi, .ref mo, .ref ml, .ref mf, .ref ma, .int (nI cl), .ref mfd, .ref mts, .int (nI tc), .ref mg, .ref mb])), (mk, .inl (cI, 100, .inl kd)), (m0, .inl (cI, 100, .inl s0)), (m1, .inl (cI, 100, .inl s1)), (mo, .inl (cI, 12, .inl (upd on no (nI a)))), (ml, .inl (cI, 600, .inl le)), (mf, .inl (cI, 600, .inl cf)), (ma, .inl (cI, 600, .inl ca)), (mfd, .inl (cZ, 600, .inl fd))]) hD hS hA [0, 1, 2, 3, 4, 5, 6, 7, 8] rfl
        refine va_callv (va_runV (As := []) (rest := []) ⟨hx, hb, hml, hown, hts⟩ (c_X5_build l D cI cJ cZ qm mk m0 m1 mi mo ml mf ma mfd mts mg mb (nI 0) n ni (no + 1) cl tc kd s0 s1 (upd on no (nI a)) le cf ca fd H.size _ rfl (by omega) (by omega) hwf (hwo.out ha hn) hkd) (cwV 0 hts gX5_output_X5_build rfl rfl rfl (by decide +kernel) ⟨Nat.le_of_ble_eq_true rfl, Nat.le_of_ble_eq_true rfl⟩) ⟨PW.blind, va_recv hK hPc (ci := 5) (q0 := 0) rfl rfl, fun U hU hW => ⟨rfl, PW.to hPc hK hNB hDc hU hW⟩⟩ rfl rfl hl.1 rfl (lv_room (Nat.le_of_ble_eq_true rfl)) dX5_output_56 ⟨Nat.le_of_ble_eq_true rfl, Nat.le_of_ble_eq_true rfl⟩) hS (fun q _ h => hFc q h) hFc (fun u_9 t_9 H1_9 locs ht_9 hvm_9 hw_9 hB_9 hz1_9 hk1_9 hS => ?_)
        obtain ⟨le2_4, ca2_5, cf2_6, cl2_7⟩ := u_9
        obtain ⟨hP1_9, hD1_9⟩ := hB_9
        rw [ht_9] at hP1_9
        obtain ⟨k_E, k_C⟩ := hw_9
        have k_E : (ca2_5, cf2_6, cl2_7) = mE (mrgs (srP kd s0 s1 (upd on no (nI a)) n (no + 1) n) id) (lnF kd n 600) (ca, cf, 0) := k_E
        have k_C : cl2_7 ≤ 600 := k_C
        obtain ⟨hP, hD⟩ := va_join (wr := []) (w1 := [(qm, .inr (5, [.int (nI 0), .int (nI n), .int (nI ni), .int (nI (no + 1)), .ref mk, .ref m0, .ref m1, .ref mi, .ref mo, .ref ml, .ref mf, .ref ma, .int (nI cl2_7), .ref mfd, .ref mts, .int (nI 0), .ref mg, .ref mb])), (mk, .inl (cI, 100, .inl kd)), (m0, .inl (cI, 100, .inl s0)), (m1, .inl (cI, 100, .inl s1)), (mo, .inl (cI, 12, .inl (upd on no (nI a)))), (ml, .inl (cI, 600, .inl le2_4)), (mf, .inl (cI, 600, .inl cf2_6)), (ma, .inl (cI, 600, .inl ca2_5)), (mfd, .inl (cZ, 600, .inl (clrF fd 600)))]) hP hD [0, 1, 2, 3, 4, 5, 6, 7, 8] [] rfl rfl (by decide) (by decide) hk1_9 hFc hP1_9 hD1_9
        generalize H1_9 = H at hP hS ⊢
        have hP : va_P D vwCl [(qm, .inr (5, [.int (nI 0), .int (nI n), .int (nI ni), .int (nI (no + 1)), .ref mk, .ref m0, .ref m1, .ref mi, .ref mo, .ref ml, .ref mf, .ref ma, .int (nI cl2_7), .ref mfd, .ref mts, .int (nI 0), .ref mg, .ref mb])), (mk, .inl (cI, 100, .inl kd)), (m0, .inl (cI, 100, .inl s0)), (m1, .inl (cI, 100, .inl s1)), (mo, .inl (cI, 12, .inl (upd on no (nI a)))), (ml, .inl (cI, 600, .inl le2_4)), (mf, .inl (cI, 600, .inl cf2_6)), (ma, .inl (cI, 600, .inl ca2_5)), (mfd, .inl (cZ, 600, .inl (clrF fd 600)))] H := hP
        have hD : va_D A [(qm, .inr (5, [.int (nI 0), .int (nI n), .int (nI ni), .int (nI (no + 1)), .ref mk, .ref m0, .ref m1, .ref mi, .ref mo, .ref ml, .ref mf, .ref ma, .int (nI cl2_7), .ref mfd, .ref mts, .int (nI 0), .ref mg, .ref mb])), (mk, .inl (cI, 100, .inl kd)), (m0, .inl (cI, 100, .inl s0)), (m1, .inl (cI, 100, .inl s1)), (mo, .inl (cI, 12, .inl (upd on no (nI a)))), (ml, .inl (cI, 600, .inl le2_4)), (mf, .inl (cI, 600, .inl cf2_6)), (ma, .inl (cI, 600, .inl ca2_5)), (mfd, .inl (cZ, 600, .inl (clrF fd 600)))] := hD
        refine lv_aload_n hx hb dX5_output_59 rfl (lv_at hl 0 rfl) ?_
        refine va_get (D := D) (ci := 5) (v := .int (nI (no + 1))) (C := RX5) (T := TX5) (N := 18) hx hb hts hiX5 hown hK hP 0 rfl rfl 3 (by decide) (hts (.fieldLink RX5 68 "FaultSearchModel" "outputs" "I") (by decide +kernel)) (fun _ h9 => h9) rfl dX5_output_60 ?_
        refine lv_iconst (v := (nI 1)) hx hb dX5_output_63 (by decide) ?_
        refine lv_isub hx hb dX5_output_64 ?_
        refine zz_i (z := (nI ((no + 1) - 1))) (pk_sub (by omega)) ?_
        exact W.iret (v := (nI ((no + 1) - 1))) hx hb hr (fun t_9 ht_9 hW_9 => ⟨⟨(nI ((no + 1) - 1)), (le2_4, ca2_5, cf2_6, cl2_7), rfl, (show (nI ((no + 1) - 1)) = (nI no) ∧ (ca2_5, cf2_6, cl2_7) = mE (mrgs (srP kd s0 s1 (upd on no (nI a)) n (no + 1) n) id) (lnF kd n 600) (ca, cf, 0) ∧ cl2_7 ≤ 600 from ⟨(congrArg nI (by omega)), k_E, k_C⟩), ⟨by rw [ht_9]; exact hP, hD⟩⟩, hS.F ht_9⟩) hS.2.2 dX5_output_65
      · skip
        rw [zc_if0] at c_30
        have c_30 := Classical.not_not.mp c_30
        exact absurd c_30 (by decide)
    · skip
      rw [zc_eq (by omega) (by omega)] at c_19
      exact absurd c_19 (by omega)
  · skip
    rw [zc_if0] at c_6
    exact absurd (isN_nI (by omega) ha) c_6

set_option maxHeartbeats 4000000 in
set_option maxRecDepth 100000 in
theorem c_X5_clear (l : Launch) (D : va_G) (cI cJ cZ : ClassId) (qm : Nat) (mk : Nat) (m0 : Nat) (m1 : Nat) (mi : Nat) (mo : Nat) (ml : Nat) (mf : Nat) (ma : Nat) (mfd : Nat) (mts : Nat) (mg : Nat) (mb : Nat) (cd : Int32) (n : Nat) (ni : Nat) (no : Nat) (cl : Nat) (tc : Nat) (kd : Nat → Int32) (s0 : Nat → Int32) (s1 : Nat → Int32) (on : Nat → Int32) (le : Nat → Int32) (cf : Nat → Int32) (ca : Nat → Int32) (fd : Nat → Int32) (sz : Nat) (A : Nat → Prop) (hAe : A = va_A [(qm, .inr (5, [.int cd, .int (nI n), .int (nI ni), .int (nI no), .ref mk, .ref m0, .ref m1, .ref mi, .ref mo, .ref ml, .ref mf, .ref ma, .int (nI cl), .ref mfd, .ref mts, .int (nI tc), .ref mg, .ref mb])), (mk, .inl (cI, 100, .inl kd)), (m0, .inl (cI, 100, .inl s0)), (m1, .inl (cI, 100, .inl s1)), (mo, .inl (cI, 12, .inl on)), (ml, .inl (cI, 600, .inl le)), (mf, .inl (cI, 600, .inl cf)), (ma, .inl (cI, 600, .inl ca)), (mfd, .inl (cZ, 600, .inl fd))] sz) : Met l yX5_clear wsX5_clear ({ frames := 3, cells := 0, slots := 0, locals := 71 } : Room) (va_Pc [.ref qm] (PW D cI cJ cZ [(qm, .inr (5, [.int cd, .int (nI n), .int (nI ni), .int (nI no), .ref mk, .ref m0, .ref m1, .ref mi, .ref mo, .ref ml, .ref mf, .ref ma, .int (nI cl), .ref mfd, .ref mts, .int (nI tc), .ref mg, .ref mb])), (mk, .inl (cI, 100, .inl kd)), (m0, .inl (cI, 100, .inl s0)), (m1, .inl (cI, 100, .inl s1)), (mo, .inl (cI, 12, .inl on)), (ml, .inl (cI, 600, .inl le)), (mf, .inl (cI, 600, .inl cf)), (ma, .inl (cI, 600, .inl ca)), (mfd, .inl (cZ, 600, .inl fd))] sz)) (va_Qv (fun u9 : (Nat → Int32) × (Nat → Int32) × (Nat → Int32) × Nat => match u9 with | (le2, ca2, cf2, cl2) => (ca2, cf2, cl2) = mE (mrgs (srP kd s0 s1 on 0 0 0) id) (lnF kd 0 600) (ca, cf, 0) ∧ cl2 ≤ 600) (fun (u9 : (Nat → Int32) × (Nat → Int32) × (Nat → Int32) × Nat) t => match u9 with | (le2, ca2, cf2, cl2) => PQ D A [(qm, .inr (5, [.int (nI 0), .int (nI 0), .int (nI 0), .int (nI 0), .ref mk, .ref m0, .ref m1, .ref mi, .ref mo, .ref ml, .ref mf, .ref ma, .int (nI cl2), .ref mfd, .ref mts, .int (nI 0), .ref mg, .ref mb])), (mk, .inl (cI, 100, .inl kd)), (m0, .inl (cI, 100, .inl s0)), (m1, .inl (cI, 100, .inl s1)), (mo, .inl (cI, 12, .inl on)), (ml, .inl (cI, 600, .inl le2)), (mf, .inl (cI, 600, .inl cf2)), (ma, .inl (cI, 600, .inl ca2)), (mfd, .inl (cZ, 600, .inl (clrF fd 600)))] t) A) 0 0 A := by
  refine Met.ofW (cc := cX5_clear) (maxL := 1) (ret := none) (by decide) rfl ?_
  intro p e s m args below meth c s₁ B hml hv
  obtain ⟨rfl, hsz, ⟨hP, hK, hNB⟩, hD0⟩ := hv
  have hx := B.exec
  have hb := B.bytes
  have hr := B.returns
  have hts := atoms_spec (ws := wsX5_clear) B.pre
  have hown : s.vm.findClass RX5 = some m.cls := findClass_of_methodNamed B.named
  have hlocks := B.notSynchronized
  have hiX5 : ∀ w ∈ u_ws RX5 TX5 18, w ∈ wsX5_clear := by decide +kernel
  subst hsz
  have hD : va_D A [(qm, .inr (5, [.int cd, .int (nI n), .int (nI ni), .int (nI no), .ref mk, .ref m0, .ref m1, .ref mi, .ref mo, .ref ml, .ref mf, .ref ma, .int (nI cl), .ref mfd, .ref mts, .int (nI tc), .ref mg, .ref mb])), (mk, .inl (cI, 100, .inl kd)), (m0, .inl (cI, 100, .inl s0)), (m1, .inl (cI, 100, .inl s1)), (mo, .inl (cI, 12, .inl on)), (ml, .inl (cI, 600, .inl le)), (mf, .inl (cI, 600, .inl cf)), (ma, .inl (cI, 600, .inl ca)), (mfd, .inl (cZ, 600, .inl fd))] := by rw [hAe]; exact hD0.self
  have hA : ∀ q : Nat, s.heap.size ≤ q → A q := fun q h => by rw [hAe]; exact Or.inr h
  have hS : va_S A s.heap s.heap [] := va_S.rf
  have hl := lv_entry ([.ref qm]) (n := 1) (Nat.le_of_ble_eq_true rfl)
  rw [lg_entry_eq]
  generalize (lg_sl ([.ref qm]) ++ List.replicate (1 - (lg_sl ([.ref qm])).length) Slot.unset).toArray = ls at hl ⊢
  have hl : lv_has ls 1 [(0, .ref qm)] := hl
  refine lv_aload_n hx hb dX5_clear_0 rfl (lv_at hl 0 rfl) ?_
  refine lv_iconst (v := (nI 0)) hx hb dX5_clear_1 (by decide) ?_
  refine va_put (D := D) (ci := 5) (v := .int (nI 0)) (ty := .int) (C := RX5) (T := TX5) (N := 18) hx hb hts hiX5 tyX5 tyX5_ok nmX5 hown hK hP hD hS 0 rfl rfl 0 (by decide) (hts (.fieldLink RX5 48 "FaultSearchModel" "code" "I") (by decide +kernel)) (fun _ h9 => h9) rfl (by decide +kernel) rfl rfl (Nat.le_of_ble_eq_true rfl) dX5_clear_2 (fun H locs hP hD hS => ?_)
  have hP : va_P D vwCl [(qm, .inr (5, [.int (nI 0), .int (nI n), .int (nI ni), .int (nI no), .ref mk, .ref m0, .ref m1, .ref mi, .ref mo, .ref ml, .ref mf, .ref ma, .int (nI cl), .ref mfd, .ref mts, .int (nI tc), .ref mg, .ref mb])), (mk, .inl (cI, 100, .inl kd)), (m0, .inl (cI, 100, .inl s0)), (m1, .inl (cI, 100, .inl s1)), (mo, .inl (cI, 12, .inl on)), (ml, .inl (cI, 600, .inl le)), (mf, .inl (cI, 600, .inl cf)), (ma, .inl (cI, 600, .inl ca)), (mfd, .inl (cZ, 600, .inl fd))] H := hP
  have hD : va_D A [(qm, .inr (5, [.int (nI 0), .int (nI n), .int (nI ni), .int (nI no), .ref mk, .ref m0, .ref m1, .ref mi, .ref mo, .ref ml, .ref mf, .ref ma, .int (nI cl), .ref mfd, .ref mts, .int (nI tc), .ref mg, .ref mb])), (mk, .inl (cI, 100, .inl kd)), (m0, .inl (cI, 100, .inl s0)), (m1, .inl (cI, 100, .inl s1)), (mo, .inl (cI, 12, .inl on)), (ml, .inl (cI, 600, .inl le)), (mf, .inl (cI, 600, .inl cf)), (ma, .inl (cI, 600, .inl ca)), (mfd, .inl (cZ, 600, .inl fd))] := hD
  refine lv_aload_n hx hb dX5_clear_5 rfl (lv_at hl 0 rfl) ?_
  refine lv_iconst (v := (nI 0)) hx hb dX5_clear_6 (by decide) ?_
  refine va_put (D := D) (ci := 5) (v := .int (nI 0)) (ty := .int) (C := RX5) (T := TX5) (N := 18) hx hb hts hiX5 tyX5 tyX5_ok nmX5 hown hK hP hD hS 0 rfl rfl 1 (by decide) (hts (.fieldLink RX5 52 "FaultSearchModel" "nets" "I") (by decide +kernel)) (fun _ h9 => h9) rfl (by decide +kernel) rfl rfl (Nat.le_of_ble_eq_true rfl) dX5_clear_7 (fun H locs hP hD hS => ?_)
  have hP : va_P D vwCl [(qm, .inr (5, [.int (nI 0), .int (nI 0), .int (nI ni), .int (nI no), .ref mk, .ref m0, .ref m1, .ref mi, .ref mo, .ref ml, .ref mf, .ref ma, .int (nI cl), .ref mfd, .ref mts, .int (nI tc), .ref mg, .ref mb])), (mk, .inl (cI, 100, .inl kd)), (m0, .inl (cI, 100, .inl s0)), (m1, .inl (cI, 100, .inl s1)), (mo, .inl (cI, 12, .inl on)), (ml, .inl (cI, 600, .inl le)), (mf, .inl (cI, 600, .inl cf)), (ma, .inl (cI, 600, .inl ca)), (mfd, .inl (cZ, 600, .inl fd))] H := hP
  have hD : va_D A [(qm, .inr (5, [.int (nI 0), .int (nI 0), .int (nI ni), .int (nI no), .ref mk, .ref m0, .ref m1, .ref mi, .ref mo, .ref ml, .ref mf, .ref ma, .int (nI cl), .ref mfd, .ref mts, .int (nI tc), .ref mg, .ref mb])), (mk, .inl (cI, 100, .inl kd)), (m0, .inl (cI, 100, .inl s0)), (m1, .inl (cI, 100, .inl s1)), (mo, .inl (cI, 12, .inl on)), (ml, .inl (cI, 600, .inl le)), (mf, .inl (cI, 600, .inl cf)), (ma, .inl (cI, 600, .inl ca)), (mfd, .inl (cZ, 600, .inl fd))] := hD
  refine lv_aload_n hx hb dX5_clear_10 rfl (lv_at hl 0 rfl) ?_
  refine lv_iconst (v := (nI 0)) hx hb dX5_clear_11 (by decide) ?_
  refine va_put (D := D) (ci := 5) (v := .int (nI 0)) (ty := .int) (C := RX5) (T := TX5) (N := 18) hx hb hts hiX5 tyX5 tyX5_ok nmX5 hown hK hP hD hS 0 rfl rfl 2 (by decide) (hts (.fieldLink RX5 55 "FaultSearchModel" "inputs" "I") (by decide +kernel)) (fun _ h9 => h9) rfl (by decide +kernel) rfl rfl (Nat.le_of_ble_eq_true rfl) dX5_clear_12 (fun H locs hP hD hS => ?_)
  have hP : va_P D vwCl [(qm, .inr (5, [.int (nI 0), .int (nI 0), .int (nI 0), .int (nI no), .ref mk, .ref m0, .ref m1, .ref mi, .ref mo, .ref ml, .ref mf, .ref ma, .int (nI cl), .ref mfd, .ref mts, .int (nI tc), .ref mg, .ref mb])), (mk, .inl (cI, 100, .inl kd)), (m0, .inl (cI, 100, .inl s0)), (m1, .inl (cI, 100, .inl s1)), (mo, .inl (cI, 12, .inl on)), (ml, .inl (cI, 600, .inl le)), (mf, .inl (cI, 600, .inl cf)), (ma, .inl (cI, 600, .inl ca)), (mfd, .inl (cZ, 600, .inl fd))] H := hP
  have hD : va_D A [(qm, .inr (5, [.int (nI 0), .int (nI 0), .int (nI 0), .int (nI no), .ref mk, .ref m0, .ref m1, .ref mi, .ref mo, .ref ml, .ref mf, .ref ma, .int (nI cl), .ref mfd, .ref mts, .int (nI tc), .ref mg, .ref mb])), (mk, .inl (cI, 100, .inl kd)), (m0, .inl (cI, 100, .inl s0)), (m1, .inl (cI, 100, .inl s1)), (mo, .inl (cI, 12, .inl on)), (ml, .inl (cI, 600, .inl le)), (mf, .inl (cI, 600, .inl cf)), (ma, .inl (cI, 600, .inl ca)), (mfd, .inl (cZ, 600, .inl fd))] := hD
  refine lv_aload_n hx hb dX5_clear_15 rfl (lv_at hl 0 rfl) ?_
  refine lv_iconst (v := (nI 0)) hx hb dX5_clear_16 (by decide) ?_
  refine va_put (D := D) (ci := 5) (v := .int (nI 0)) (ty := .int) (C := RX5) (T := TX5) (N := 18) hx hb hts hiX5 tyX5 tyX5_ok nmX5 hown hK hP hD hS 0 rfl rfl 3 (by decide) (hts (.fieldLink RX5 68 "FaultSearchModel" "outputs" "I") (by decide +kernel)) (fun _ h9 => h9) rfl (by decide +kernel) rfl rfl (Nat.le_of_ble_eq_true rfl) dX5_clear_17 (fun H locs hP hD hS => ?_)
  have hP : va_P D vwCl [(qm, .inr (5, [.int (nI 0), .int (nI 0), .int (nI 0), .int (nI 0), .ref mk, .ref m0, .ref m1, .ref mi, .ref mo, .ref ml, .ref mf, .ref ma, .int (nI cl), .ref mfd, .ref mts, .int (nI tc), .ref mg, .ref mb])), (mk, .inl (cI, 100, .inl kd)), (m0, .inl (cI, 100, .inl s0)), (m1, .inl (cI, 100, .inl s1)), (mo, .inl (cI, 12, .inl on)), (ml, .inl (cI, 600, .inl le)), (mf, .inl (cI, 600, .inl cf)), (ma, .inl (cI, 600, .inl ca)), (mfd, .inl (cZ, 600, .inl fd))] H := hP
  have hD : va_D A [(qm, .inr (5, [.int (nI 0), .int (nI 0), .int (nI 0), .int (nI 0), .ref mk, .ref m0, .ref m1, .ref mi, .ref mo, .ref ml, .ref mf, .ref ma, .int (nI cl), .ref mfd, .ref mts, .int (nI tc), .ref mg, .ref mb])), (mk, .inl (cI, 100, .inl kd)), (m0, .inl (cI, 100, .inl s0)), (m1, .inl (cI, 100, .inl s1)), (mo, .inl (cI, 12, .inl on)), (ml, .inl (cI, 600, .inl le)), (mf, .inl (cI, 600, .inl cf)), (ma, .inl (cI, 600, .inl ca)), (mfd, .inl (cZ, 600, .inl fd))] := hD
  refine lv_aload_n hx hb dX5_clear_20 rfl (lv_at hl 0 rfl) ?_
  have hPc := hP.sub (ws' := [(qm, .inr (5, [.int (nI 0), .int (nI 0), .int (nI 0), .int (nI 0), .ref mk, .ref m0, .ref m1, .ref mi, .ref mo, .ref ml, .ref mf, .ref ma, .int (nI cl), .ref mfd, .ref mts, .int (nI tc), .ref mg, .ref mb])), (mk, .inl (cI, 100, .inl kd)), (m0, .inl (cI, 100, .inl s0)), (m1, .inl (cI, 100, .inl s1)), (mo, .inl (cI, 12, .inl on)), (ml, .inl (cI, 600, .inl le)), (mf, .inl (cI, 600, .inl cf)), (ma, .inl (cI, 600, .inl ca)), (mfd, .inl (cZ, 600, .inl fd))]) [0, 1, 2, 3, 4, 5, 6, 7, 8] rfl
  have hDc := hD.sub (ws' := [(qm, .inr (5, [.int (nI 0), .int (nI 0), .int (nI 0), .int (nI 0), .ref mk, .ref m0, .ref m1, .ref mi, .ref mo, .ref ml, .ref mf, .ref ma, .int (nI cl), .ref mfd, .ref mts, .int (nI tc), .ref mg, .ref mb])), (mk, .inl (cI, 100, .inl kd)), (m0, .inl (cI, 100, .inl s0)), (m1, .inl (cI, 100, .inl s1)), (mo, .inl (cI, 12, .inl on)), (ml, .inl (cI, 600, .inl le)), (mf, .inl (cI, 600, .inl cf)), (ma, .inl (cI, 600, .inl ca)), (mfd, .inl (cZ, 600, .inl fd))]) [0, 1, 2, 3, 4, 5, 6, 7, 8] (by decide) rfl
  have hFc := va_free (wc := [(qm, .inr (5, [.int (nI 0), .int (nI 0), .int (nI 0), .int (nI 0), .ref mk, .ref m0, .ref m1, .ref mi, .ref mo, .ref ml, .ref mf, .ref ma, .int (nI cl), .ref mfd, .ref mts, .int (nI tc), .ref mg, .ref mb])), (mk, .inl (cI, 100, .inl kd)), (m0, .inl (cI, 100, .inl s0)), (m1, .inl (cI, 100, .inl s1)), (mo, .inl (cI, 12, .inl on)), (ml, .inl (cI, 600, .inl le)), (mf, .inl (cI, 600, .inl cf)), (ma, .inl (cI, 600, .inl ca)), (mfd, .inl (cZ, 600, .inl fd))]) hD hS hA [0, 1, 2, 3, 4, 5, 6, 7, 8] rfl
  refine va_callv (va_runV (As := []) (rest := []) ⟨hx, hb, hml, hown, hts⟩ (c_X5_build l D cI cJ cZ qm mk m0 m1 mi mo ml mf ma mfd mts mg mb (nI 0) 0 0 0 cl tc kd s0 s1 on le cf ca fd H.size _ rfl (by omega) (by omega) WF.zero WO.zero KD.zero) (cwV 0 hts gX5_clear_X5_build rfl rfl rfl (by decide +kernel) ⟨Nat.le_of_ble_eq_true rfl, Nat.le_of_ble_eq_true rfl⟩) ⟨PW.blind, va_recv hK hPc (ci := 5) (q0 := 0) rfl rfl, fun U hU hW => ⟨rfl, PW.to hPc hK hNB hDc hU hW⟩⟩ rfl rfl hl.1 rfl (lv_room (Nat.le_of_ble_eq_true rfl)) dX5_clear_21 ⟨Nat.le_of_ble_eq_true rfl, Nat.le_of_ble_eq_true rfl⟩) hS (fun q _ h => hFc q h) hFc (fun u_9 t_9 H1_9 locs ht_9 hvm_9 hw_9 hB_9 hz1_9 hk1_9 hS => ?_)
  obtain ⟨le2_2, ca2_3, cf2_4, cl2_5⟩ := u_9
  obtain ⟨hP1_9, hD1_9⟩ := hB_9
  rw [ht_9] at hP1_9
  obtain ⟨k_E, k_C⟩ := hw_9
  have k_E : (ca2_3, cf2_4, cl2_5) = mE (mrgs (srP kd s0 s1 on 0 0 0) id) (lnF kd 0 600) (ca, cf, 0) := k_E
  have k_C : cl2_5 ≤ 600 := k_C
  obtain ⟨hP, hD⟩ := va_join (wr := []) (w1 := [(qm, .inr (5, [.int (nI 0), .int (nI 0), .int (nI 0), .int (nI 0), .ref mk, .ref m0, .ref m1, .ref mi, .ref mo, .ref ml, .ref mf, .ref ma, .int (nI cl2_5), .ref mfd, .ref mts, .int (nI 0), .ref mg, .ref mb])), (mk, .inl (cI, 100, .inl kd)), (m0, .inl (cI, 100, .inl s0)), (m1, .inl (cI, 100, .inl s1)), (mo, .inl (cI, 12, .inl on)), (ml, .inl (cI, 600, .inl le2_2)), (mf, .inl (cI, 600, .inl cf2_4)), (ma, .inl (cI, 600, .inl ca2_3)), (mfd, .inl (cZ, 600, .inl (clrF fd 600)))]) hP hD [0, 1, 2, 3, 4, 5, 6, 7, 8] [] rfl rfl (by decide) (by decide) hk1_9 hFc hP1_9 hD1_9
  generalize H1_9 = H at hP hS ⊢
  have hP : va_P D vwCl [(qm, .inr (5, [.int (nI 0), .int (nI 0), .int (nI 0), .int (nI 0), .ref mk, .ref m0, .ref m1, .ref mi, .ref mo, .ref ml, .ref mf, .ref ma, .int (nI cl2_5), .ref mfd, .ref mts, .int (nI 0), .ref mg, .ref mb])), (mk, .inl (cI, 100, .inl kd)), (m0, .inl (cI, 100, .inl s0)), (m1, .inl (cI, 100, .inl s1)), (mo, .inl (cI, 12, .inl on)), (ml, .inl (cI, 600, .inl le2_2)), (mf, .inl (cI, 600, .inl cf2_4)), (ma, .inl (cI, 600, .inl ca2_3)), (mfd, .inl (cZ, 600, .inl (clrF fd 600)))] H := hP
  have hD : va_D A [(qm, .inr (5, [.int (nI 0), .int (nI 0), .int (nI 0), .int (nI 0), .ref mk, .ref m0, .ref m1, .ref mi, .ref mo, .ref ml, .ref mf, .ref ma, .int (nI cl2_5), .ref mfd, .ref mts, .int (nI 0), .ref mg, .ref mb])), (mk, .inl (cI, 100, .inl kd)), (m0, .inl (cI, 100, .inl s0)), (m1, .inl (cI, 100, .inl s1)), (mo, .inl (cI, 12, .inl on)), (ml, .inl (cI, 600, .inl le2_2)), (mf, .inl (cI, 600, .inl cf2_4)), (ma, .inl (cI, 600, .inl ca2_3)), (mfd, .inl (cZ, 600, .inl (clrF fd 600)))] := hD
  exact W.vret hx hb hr (fun t_9 ht_9 hW_9 => ⟨⟨(le2_2, ca2_3, cf2_4, cl2_5), rfl, (show (ca2_3, cf2_4, cl2_5) = mE (mrgs (srP kd s0 s1 on 0 0 0) id) (lnF kd 0 600) (ca, cf, 0) ∧ cl2_5 ≤ 600 from ⟨k_E, k_C⟩), ⟨by rw [ht_9]; exact hP, hD⟩⟩, hS.F ht_9⟩) hS.2.2 dX5_clear_24

set_option maxHeartbeats 4000000 in
set_option maxRecDepth 100000 in
theorem c_X5_faults (l : Launch) (D : va_G) (cI cJ cZ : ClassId) (qm : Nat) (mk : Nat) (m0 : Nat) (m1 : Nat) (mi : Nat) (mo : Nat) (ml : Nat) (mf : Nat) (ma : Nat) (mfd : Nat) (mts : Nat) (mg : Nat) (mb : Nat) (cd : Int32) (n : Nat) (ni : Nat) (no : Nat) (cl : Nat) (tc : Nat) (sz : Nat) (A : Nat → Prop) (hAe : A = va_A [(qm, .inr (5, [.int cd, .int (nI n), .int (nI ni), .int (nI no), .ref mk, .ref m0, .ref m1, .ref mi, .ref mo, .ref ml, .ref mf, .ref ma, .int (nI cl), .ref mfd, .ref mts, .int (nI tc), .ref mg, .ref mb]))] sz) : Met l yX5_faults wsX5_faults ({ frames := 0, cells := 0, slots := 0, locals := 0 } : Room) (va_Pc [.ref qm] (PW D cI cJ cZ [(qm, .inr (5, [.int cd, .int (nI n), .int (nI ni), .int (nI no), .ref mk, .ref m0, .ref m1, .ref mi, .ref mo, .ref ml, .ref mf, .ref ma, .int (nI cl), .ref mfd, .ref mts, .int (nI tc), .ref mg, .ref mb]))] sz)) (va_Qi (fun (r_9 : Int32) (_u9 : Unit) => r_9 = (nI cl)) (fun (_u9 : Unit) t => PQ D A [(qm, .inr (5, [.int (nI 0), .int (nI n), .int (nI ni), .int (nI no), .ref mk, .ref m0, .ref m1, .ref mi, .ref mo, .ref ml, .ref mf, .ref ma, .int (nI cl), .ref mfd, .ref mts, .int (nI tc), .ref mg, .ref mb]))] t) A) 0 0 A := by
  refine Met.ofW (cc := cX5_faults) (maxL := 1) (ret := (some .int)) (by decide) rfl ?_
  intro p e s m args below meth c s₁ B hml hv
  obtain ⟨rfl, hsz, ⟨hP, hK, hNB⟩, hD0⟩ := hv
  have hx := B.exec
  have hb := B.bytes
  have hr := B.returns
  have hts := atoms_spec (ws := wsX5_faults) B.pre
  have hown : s.vm.findClass RX5 = some m.cls := findClass_of_methodNamed B.named
  have hlocks := B.notSynchronized
  have hiX5 : ∀ w ∈ u_ws RX5 TX5 18, w ∈ wsX5_faults := by decide +kernel
  subst hsz
  have hD : va_D A [(qm, .inr (5, [.int cd, .int (nI n), .int (nI ni), .int (nI no), .ref mk, .ref m0, .ref m1, .ref mi, .ref mo, .ref ml, .ref mf, .ref ma, .int (nI cl), .ref mfd, .ref mts, .int (nI tc), .ref mg, .ref mb]))] := by rw [hAe]; exact hD0.self
  have hA : ∀ q : Nat, s.heap.size ≤ q → A q := fun q h => by rw [hAe]; exact Or.inr h
  have hS : va_S A s.heap s.heap [] := va_S.rf
  have hl := lv_entry ([.ref qm]) (n := 1) (Nat.le_of_ble_eq_true rfl)
  rw [lg_entry_eq]
  generalize (lg_sl ([.ref qm]) ++ List.replicate (1 - (lg_sl ([.ref qm])).length) Slot.unset).toArray = ls at hl ⊢
  have hl : lv_has ls 1 [(0, .ref qm)] := hl
  refine lv_aload_n hx hb dX5_faults_0 rfl (lv_at hl 0 rfl) ?_
  refine lv_iconst (v := (nI 0)) hx hb dX5_faults_1 (by decide) ?_
  refine va_put (D := D) (ci := 5) (v := .int (nI 0)) (ty := .int) (C := RX5) (T := TX5) (N := 18) hx hb hts hiX5 tyX5 tyX5_ok nmX5 hown hK hP hD hS 0 rfl rfl 0 (by decide) (hts (.fieldLink RX5 48 "FaultSearchModel" "code" "I") (by decide +kernel)) (fun _ h9 => h9) rfl (by decide +kernel) rfl rfl (Nat.le_of_ble_eq_true rfl) dX5_faults_2 (fun H locs hP hD hS => ?_)
  have hP : va_P D vwCl [(qm, .inr (5, [.int (nI 0), .int (nI n), .int (nI ni), .int (nI no), .ref mk, .ref m0, .ref m1, .ref mi, .ref mo, .ref ml, .ref mf, .ref ma, .int (nI cl), .ref mfd, .ref mts, .int (nI tc), .ref mg, .ref mb]))] H := hP
  have hD : va_D A [(qm, .inr (5, [.int (nI 0), .int (nI n), .int (nI ni), .int (nI no), .ref mk, .ref m0, .ref m1, .ref mi, .ref mo, .ref ml, .ref mf, .ref ma, .int (nI cl), .ref mfd, .ref mts, .int (nI tc), .ref mg, .ref mb]))] := hD
  refine lv_aload_n hx hb dX5_faults_5 rfl (lv_at hl 0 rfl) ?_
  refine va_get (D := D) (ci := 5) (v := .int (nI cl)) (C := RX5) (T := TX5) (N := 18) hx hb hts hiX5 hown hK hP 0 rfl rfl 12 (by decide) (hts (.fieldLink RX5 94 "FaultSearchModel" "classes" "I") (by decide +kernel)) (fun _ h9 => h9) rfl dX5_faults_6 ?_
  exact W.iret (v := (nI cl)) hx hb hr (fun t_9 ht_9 hW_9 => ⟨⟨(nI cl), (), rfl, rfl, ⟨by rw [ht_9]; exact hP, hD⟩⟩, hS.F ht_9⟩) hS.2.2 dX5_faults_9

set_option maxHeartbeats 4000000 in
set_option maxRecDepth 100000 in
theorem c_X5_fault_no (l : Launch) (D : va_G) (cI cJ cZ : ClassId) (qm : Nat) (mk : Nat) (m0 : Nat) (m1 : Nat) (mi : Nat) (mo : Nat) (ml : Nat) (mf : Nat) (ma : Nat) (mfd : Nat) (mts : Nat) (mg : Nat) (mb : Nat) (cd : Int32) (n : Nat) (ni : Nat) (no : Nat) (cl : Nat) (tc : Nat) (k : Int32) (wh : Int32) (sz : Nat) (A : Nat → Prop) (hAe : A = va_A [(qm, .inr (5, [.int cd, .int (nI n), .int (nI ni), .int (nI no), .ref mk, .ref m0, .ref m1, .ref mi, .ref mo, .ref ml, .ref mf, .ref ma, .int (nI cl), .ref mfd, .ref mts, .int (nI tc), .ref mg, .ref mb]))] sz) (h : ¬ (isN cl k ∧ ¬ wh < 0 ∧ wh ≤ nI 3)) : Met l yX5_fault wsX5_fault ({ frames := 1, cells := 0, slots := 0, locals := 21 } : Room) (va_Pc [.ref qm, .int k, .int wh] (PW D cI cJ cZ [(qm, .inr (5, [.int cd, .int (nI n), .int (nI ni), .int (nI no), .ref mk, .ref m0, .ref m1, .ref mi, .ref mo, .ref ml, .ref mf, .ref ma, .int (nI cl), .ref mfd, .ref mts, .int (nI tc), .ref mg, .ref mb]))] sz)) (va_Qi (fun (r_9 : Int32) (_u9 : Unit) => r_9 = (nI 0)) (fun (_u9 : Unit) t => PQ D A [(qm, .inr (5, [.int (nI 1), .int (nI n), .int (nI ni), .int (nI no), .ref mk, .ref m0, .ref m1, .ref mi, .ref mo, .ref ml, .ref mf, .ref ma, .int (nI cl), .ref mfd, .ref mts, .int (nI tc), .ref mg, .ref mb]))] t) A) 0 0 A := by
  refine Met.ofW (cc := cX5_fault) (maxL := 6) (ret := (some .int)) (by decide) rfl ?_
  intro p e s m args below meth c s₁ B hml hv
  obtain ⟨rfl, hsz, ⟨hP, hK, hNB⟩, hD0⟩ := hv
  have hx := B.exec
  have hb := B.bytes
  have hr := B.returns
  have hts := atoms_spec (ws := wsX5_fault) B.pre
  have hown : s.vm.findClass RX5 = some m.cls := findClass_of_methodNamed B.named
  have hlocks := B.notSynchronized
  subst hsz
  have hD : va_D A [(qm, .inr (5, [.int cd, .int (nI n), .int (nI ni), .int (nI no), .ref mk, .ref m0, .ref m1, .ref mi, .ref mo, .ref ml, .ref mf, .ref ma, .int (nI cl), .ref mfd, .ref mts, .int (nI tc), .ref mg, .ref mb]))] := by rw [hAe]; exact hD0.self
  have hA : ∀ q : Nat, s.heap.size ≤ q → A q := fun q h => by rw [hAe]; exact Or.inr h
  have hS : va_S A s.heap s.heap [] := va_S.rf
  have hl := lv_entry ([.ref qm, .int k, .int wh]) (n := 6) (Nat.le_of_ble_eq_true rfl)
  rw [lg_entry_eq]
  generalize (lg_sl ([.ref qm, .int k, .int wh]) ++ List.replicate (6 - (lg_sl ([.ref qm, .int k, .int wh])).length) Slot.unset).toArray = ls at hl ⊢
  have hl : lv_has ls 6 [(0, .ref qm), (1, .int k), (2, .int wh)] := hl
  refine lv_aload_n hx hb dX5_fault_0 rfl (lv_at hl 0 rfl) ?_
  refine lv_aload_n hx hb dX5_fault_1 rfl (lv_at hl 0 rfl) ?_
  refine lv_iload_n hx hb dX5_fault_2 rfl (lv_at hl 1 rfl) ?_
  have hPc := hP.sub (ws' := [(qm, .inr (5, [.int cd, .int (nI n), .int (nI ni), .int (nI no), .ref mk, .ref m0, .ref m1, .ref mi, .ref mo, .ref ml, .ref mf, .ref ma, .int (nI cl), .ref mfd, .ref mts, .int (nI tc), .ref mg, .ref mb]))]) [0] rfl
  refine vp_callSi (va_runV (As := [.int k]) (rest := [.ref qm]) ⟨hx, hb, hml, hown, hts⟩ (c_X5_isClass l D cI cJ cZ qm mk m0 m1 mi mo ml mf ma mfd mts mg mb cd n ni no cl tc k) (cwV 1 hts gX5_fault_X5_isClass rfl rfl rfl (by decide +kernel) ⟨Nat.le_of_ble_eq_true rfl, Nat.le_of_ble_eq_true rfl⟩) ⟨PR.blind, va_recv hK hPc (ci := 5) (q0 := 0) rfl rfl, fun U hU hW => ⟨rfl, PR.to hPc hK hNB hU hW⟩⟩ rfl rfl hl.1 rfl (lv_room (Nat.le_of_ble_eq_true rfl)) dX5_fault_3 ⟨Nat.le_of_ble_eq_true rfl, Nat.le_of_ble_eq_true rfl⟩).run (fun r_1 hrr_1 => ?_)
  subst hrr_1
  refine lv_if_eq (tgt := 18) hx hb dX5_fault_6 (by decide) (fun c_6 => ?_) (fun c_6 => ?_)
  · skip
    rw [zc_if0] at c_6
    refine lv_iconst (v := (nI 1)) hx hb dX5_fault_18 (by decide) ?_
    refine lv_goto (tgt := 23) hx hb dX5_fault_19 (by decide) ?_
    have hPc := hP.sub (ws' := [(qm, .inr (5, [.int cd, .int (nI n), .int (nI ni), .int (nI no), .ref mk, .ref m0, .ref m1, .ref mi, .ref mo, .ref ml, .ref mf, .ref ma, .int (nI cl), .ref mfd, .ref mts, .int (nI tc), .ref mg, .ref mb]))]) [0] rfl
    have hDc := hD.sub (ws' := [(qm, .inr (5, [.int cd, .int (nI n), .int (nI ni), .int (nI no), .ref mk, .ref m0, .ref m1, .ref mi, .ref mo, .ref ml, .ref mf, .ref ma, .int (nI cl), .ref mfd, .ref mts, .int (nI tc), .ref mg, .ref mb]))]) [0] (by decide) rfl
    have hFc := va_free (wc := [(qm, .inr (5, [.int cd, .int (nI n), .int (nI ni), .int (nI no), .ref mk, .ref m0, .ref m1, .ref mi, .ref mo, .ref ml, .ref mf, .ref ma, .int (nI cl), .ref mfd, .ref mts, .int (nI tc), .ref mg, .ref mb]))]) hD hS hA [0] rfl
    refine va_calli (va_runV (As := [.int (nI 1)]) (rest := []) ⟨hx, hb, hml, hown, hts⟩ (c_X5_refuses l D cI cJ cZ qm mk m0 m1 mi mo ml mf ma mfd mts mg mb cd n ni no cl tc 1 s.heap.size _ rfl (by omega)) (cwV 1 hts gX5_fault_X5_refuses rfl rfl rfl (by decide +kernel) ⟨Nat.le_of_ble_eq_true rfl, Nat.le_of_ble_eq_true rfl⟩) ⟨PW.blind, va_recv hK hPc (ci := 5) (q0 := 0) rfl rfl, fun U hU hW => ⟨rfl, PW.to hPc hK hNB hDc hU hW⟩⟩ rfl rfl hl.1 rfl (lv_room (Nat.le_of_ble_eq_true rfl)) dX5_fault_23 ⟨Nat.le_of_ble_eq_true rfl, Nat.le_of_ble_eq_true rfl⟩) hS (fun q _ h => hFc q h) hFc (fun r_2 u_9 t_9 H1_9 locs ht_9 hvm_9 hw_9 hB_9 hz1_9 hk1_9 hS => ?_)
    obtain ⟨hP1_9, hD1_9⟩ := hB_9
    rw [ht_9] at hP1_9
    obtain rfl := hw_9
    obtain ⟨hP, hD⟩ := va_join (wr := []) (w1 := [(qm, .inr (5, [.int (nI 1), .int (nI n), .int (nI ni), .int (nI no), .ref mk, .ref m0, .ref m1, .ref mi, .ref mo, .ref ml, .ref mf, .ref ma, .int (nI cl), .ref mfd, .ref mts, .int (nI tc), .ref mg, .ref mb]))]) hP hD [0] [] rfl rfl (by decide) (by decide) hk1_9 hFc hP1_9 hD1_9
    generalize H1_9 = H at hP hS ⊢
    have hP : va_P D vwCl [(qm, .inr (5, [.int (nI 1), .int (nI n), .int (nI ni), .int (nI no), .ref mk, .ref m0, .ref m1, .ref mi, .ref mo, .ref ml, .ref mf, .ref ma, .int (nI cl), .ref mfd, .ref mts, .int (nI tc), .ref mg, .ref mb]))] H := hP
    have hD : va_D A [(qm, .inr (5, [.int (nI 1), .int (nI n), .int (nI ni), .int (nI no), .ref mk, .ref m0, .ref m1, .ref mi, .ref mo, .ref ml, .ref mf, .ref ma, .int (nI cl), .ref mfd, .ref mts, .int (nI tc), .ref mg, .ref mb]))] := hD
    refine lv_if_eq (tgt := 31) hx hb dX5_fault_26 (by decide) (fun c_26 => ?_) (fun c_26 => ?_)
    · skip
      rw [zc_if0] at c_26
      exact absurd (by decide) c_26
    · skip
      rw [zc_if0] at c_26
      have c_26 := Classical.not_not.mp c_26
      refine lv_iconst (v := (nI 0)) hx hb dX5_fault_29 (by decide) ?_
      exact W.iret (v := (nI 0)) hx hb hr (fun t_9 ht_9 hW_9 => ⟨⟨(nI 0), (), rfl, rfl, ⟨by rw [ht_9]; exact hP, hD⟩⟩, hS.F ht_9⟩) hS.2.2 dX5_fault_30
  · skip
    rw [zc_if0] at c_6
    have c_6 := Classical.not_not.mp c_6
    refine lv_iload_n hx hb dX5_fault_9 rfl (lv_at hl 2 rfl) ?_
    refine lv_if_lt (tgt := 18) hx hb dX5_fault_10 (by decide) (fun c_10 => ?_) (fun c_10 => ?_)
    · skip
      refine lv_iconst (v := (nI 1)) hx hb dX5_fault_18 (by decide) ?_
      refine lv_goto (tgt := 23) hx hb dX5_fault_19 (by decide) ?_
      have hPc := hP.sub (ws' := [(qm, .inr (5, [.int cd, .int (nI n), .int (nI ni), .int (nI no), .ref mk, .ref m0, .ref m1, .ref mi, .ref mo, .ref ml, .ref mf, .ref ma, .int (nI cl), .ref mfd, .ref mts, .int (nI tc), .ref mg, .ref mb]))]) [0] rfl
      have hDc := hD.sub (ws' := [(qm, .inr (5, [.int cd, .int (nI n), .int (nI ni), .int (nI no), .ref mk, .ref m0, .ref m1, .ref mi, .ref mo, .ref ml, .ref mf, .ref ma, .int (nI cl), .ref mfd, .ref mts, .int (nI tc), .ref mg, .ref mb]))]) [0] (by decide) rfl
      have hFc := va_free (wc := [(qm, .inr (5, [.int cd, .int (nI n), .int (nI ni), .int (nI no), .ref mk, .ref m0, .ref m1, .ref mi, .ref mo, .ref ml, .ref mf, .ref ma, .int (nI cl), .ref mfd, .ref mts, .int (nI tc), .ref mg, .ref mb]))]) hD hS hA [0] rfl
      refine va_calli (va_runV (As := [.int (nI 1)]) (rest := []) ⟨hx, hb, hml, hown, hts⟩ (c_X5_refuses l D cI cJ cZ qm mk m0 m1 mi mo ml mf ma mfd mts mg mb cd n ni no cl tc 1 s.heap.size _ rfl (by omega)) (cwV 1 hts gX5_fault_X5_refuses rfl rfl rfl (by decide +kernel) ⟨Nat.le_of_ble_eq_true rfl, Nat.le_of_ble_eq_true rfl⟩) ⟨PW.blind, va_recv hK hPc (ci := 5) (q0 := 0) rfl rfl, fun U hU hW => ⟨rfl, PW.to hPc hK hNB hDc hU hW⟩⟩ rfl rfl hl.1 rfl (lv_room (Nat.le_of_ble_eq_true rfl)) dX5_fault_23 ⟨Nat.le_of_ble_eq_true rfl, Nat.le_of_ble_eq_true rfl⟩) hS (fun q _ h => hFc q h) hFc (fun r_3 u_9 t_9 H1_9 locs ht_9 hvm_9 hw_9 hB_9 hz1_9 hk1_9 hS => ?_)
      obtain ⟨hP1_9, hD1_9⟩ := hB_9
      rw [ht_9] at hP1_9
      obtain rfl := hw_9
      obtain ⟨hP, hD⟩ := va_join (wr := []) (w1 := [(qm, .inr (5, [.int (nI 1), .int (nI n), .int (nI ni), .int (nI no), .ref mk, .ref m0, .ref m1, .ref mi, .ref mo, .ref ml, .ref mf, .ref ma, .int (nI cl), .ref mfd, .ref mts, .int (nI tc), .ref mg, .ref mb]))]) hP hD [0] [] rfl rfl (by decide) (by decide) hk1_9 hFc hP1_9 hD1_9
      generalize H1_9 = H at hP hS ⊢
      have hP : va_P D vwCl [(qm, .inr (5, [.int (nI 1), .int (nI n), .int (nI ni), .int (nI no), .ref mk, .ref m0, .ref m1, .ref mi, .ref mo, .ref ml, .ref mf, .ref ma, .int (nI cl), .ref mfd, .ref mts, .int (nI tc), .ref mg, .ref mb]))] H := hP
      have hD : va_D A [(qm, .inr (5, [.int (nI 1), .int (nI n), .int (nI ni), .int (nI no), .ref mk, .ref m0, .ref m1, .ref mi, .ref mo, .ref ml, .ref mf, .ref ma, .int (nI cl), .ref mfd, .ref mts, .int (nI tc), .ref mg, .ref mb]))] := hD
      refine lv_if_eq (tgt := 31) hx hb dX5_fault_26 (by decide) (fun c_26 => ?_) (fun c_26 => ?_)
      · skip
        rw [zc_if0] at c_26
        exact absurd (by decide) c_26
      · skip
        rw [zc_if0] at c_26
        have c_26 := Classical.not_not.mp c_26
        refine lv_iconst (v := (nI 0)) hx hb dX5_fault_29 (by decide) ?_
        exact W.iret (v := (nI 0)) hx hb hr (fun t_9 ht_9 hW_9 => ⟨⟨(nI 0), (), rfl, rfl, ⟨by rw [ht_9]; exact hP, hD⟩⟩, hS.F ht_9⟩) hS.2.2 dX5_fault_30
    · skip
      refine lv_iload_n hx hb dX5_fault_13 rfl (lv_at hl 2 rfl) ?_
      refine lv_iconst (v := (nI 3)) hx hb dX5_fault_14 (by decide) ?_
      refine lv_icmp_le (tgt := 22) hx hb dX5_fault_15 (by decide) (fun c_15 => ?_) (fun c_15 => ?_)
      · skip
        exact absurd ⟨c_6, c_10, c_15⟩ h
      · skip
        refine lv_iconst (v := (nI 1)) hx hb dX5_fault_18 (by decide) ?_
        refine lv_goto (tgt := 23) hx hb dX5_fault_19 (by decide) ?_
        have hPc := hP.sub (ws' := [(qm, .inr (5, [.int cd, .int (nI n), .int (nI ni), .int (nI no), .ref mk, .ref m0, .ref m1, .ref mi, .ref mo, .ref ml, .ref mf, .ref ma, .int (nI cl), .ref mfd, .ref mts, .int (nI tc), .ref mg, .ref mb]))]) [0] rfl
        have hDc := hD.sub (ws' := [(qm, .inr (5, [.int cd, .int (nI n), .int (nI ni), .int (nI no), .ref mk, .ref m0, .ref m1, .ref mi, .ref mo, .ref ml, .ref mf, .ref ma, .int (nI cl), .ref mfd, .ref mts, .int (nI tc), .ref mg, .ref mb]))]) [0] (by decide) rfl
        have hFc := va_free (wc := [(qm, .inr (5, [.int cd, .int (nI n), .int (nI ni), .int (nI no), .ref mk, .ref m0, .ref m1, .ref mi, .ref mo, .ref ml, .ref mf, .ref ma, .int (nI cl), .ref mfd, .ref mts, .int (nI tc), .ref mg, .ref mb]))]) hD hS hA [0] rfl
        refine va_calli (va_runV (As := [.int (nI 1)]) (rest := []) ⟨hx, hb, hml, hown, hts⟩ (c_X5_refuses l D cI cJ cZ qm mk m0 m1 mi mo ml mf ma mfd mts mg mb cd n ni no cl tc 1 s.heap.size _ rfl (by omega)) (cwV 1 hts gX5_fault_X5_refuses rfl rfl rfl (by decide +kernel) ⟨Nat.le_of_ble_eq_true rfl, Nat.le_of_ble_eq_true rfl⟩) ⟨PW.blind, va_recv hK hPc (ci := 5) (q0 := 0) rfl rfl, fun U hU hW => ⟨rfl, PW.to hPc hK hNB hDc hU hW⟩⟩ rfl rfl hl.1 rfl (lv_room (Nat.le_of_ble_eq_true rfl)) dX5_fault_23 ⟨Nat.le_of_ble_eq_true rfl, Nat.le_of_ble_eq_true rfl⟩) hS (fun q _ h => hFc q h) hFc (fun r_4 u_9 t_9 H1_9 locs ht_9 hvm_9 hw_9 hB_9 hz1_9 hk1_9 hS => ?_)
        obtain ⟨hP1_9, hD1_9⟩ := hB_9
        rw [ht_9] at hP1_9
        obtain rfl := hw_9
        obtain ⟨hP, hD⟩ := va_join (wr := []) (w1 := [(qm, .inr (5, [.int (nI 1), .int (nI n), .int (nI ni), .int (nI no), .ref mk, .ref m0, .ref m1, .ref mi, .ref mo, .ref ml, .ref mf, .ref ma, .int (nI cl), .ref mfd, .ref mts, .int (nI tc), .ref mg, .ref mb]))]) hP hD [0] [] rfl rfl (by decide) (by decide) hk1_9 hFc hP1_9 hD1_9
        generalize H1_9 = H at hP hS ⊢
        have hP : va_P D vwCl [(qm, .inr (5, [.int (nI 1), .int (nI n), .int (nI ni), .int (nI no), .ref mk, .ref m0, .ref m1, .ref mi, .ref mo, .ref ml, .ref mf, .ref ma, .int (nI cl), .ref mfd, .ref mts, .int (nI tc), .ref mg, .ref mb]))] H := hP
        have hD : va_D A [(qm, .inr (5, [.int (nI 1), .int (nI n), .int (nI ni), .int (nI no), .ref mk, .ref m0, .ref m1, .ref mi, .ref mo, .ref ml, .ref mf, .ref ma, .int (nI cl), .ref mfd, .ref mts, .int (nI tc), .ref mg, .ref mb]))] := hD
        refine lv_if_eq (tgt := 31) hx hb dX5_fault_26 (by decide) (fun c_26 => ?_) (fun c_26 => ?_)
        · skip
          rw [zc_if0] at c_26
          exact absurd (by decide) c_26
        · skip
          rw [zc_if0] at c_26
          have c_26 := Classical.not_not.mp c_26
          refine lv_iconst (v := (nI 0)) hx hb dX5_fault_29 (by decide) ?_
          exact W.iret (v := (nI 0)) hx hb hr (fun t_9 ht_9 hW_9 => ⟨⟨(nI 0), (), rfl, rfl, ⟨by rw [ht_9]; exact hP, hD⟩⟩, hS.F ht_9⟩) hS.2.2 dX5_fault_30

set_option maxHeartbeats 4000000 in
set_option maxRecDepth 100000 in
theorem c_X5_fault_ok (l : Launch) (D : va_G) (cI cJ cZ : ClassId) (qm : Nat) (mk : Nat) (m0 : Nat) (m1 : Nat) (mi : Nat) (mo : Nat) (ml : Nat) (mf : Nat) (ma : Nat) (mfd : Nat) (mts : Nat) (mg : Nat) (mb : Nat) (cd : Int32) (n : Nat) (ni : Nat) (no : Nat) (cl : Nat) (tc : Nat) (kd : Nat → Int32) (cf : Nat → Int32) (ca : Nat → Int32) (k : Nat) (wh : Nat) (f0 : Nat) (sz : Nat) (A : Nat → Prop) (hAe : A = va_A [(qm, .inr (5, [.int cd, .int (nI n), .int (nI ni), .int (nI no), .ref mk, .ref m0, .ref m1, .ref mi, .ref mo, .ref ml, .ref mf, .ref ma, .int (nI cl), .ref mfd, .ref mts, .int (nI tc), .ref mg, .ref mb])), (mk, .inl (cI, 100, .inl kd)), (mf, .inl (cI, 600, .inl cf)), (ma, .inl (cI, 600, .inl ca))] sz) (hn : n ≤ 100) (hkd : KD n kd) (hcl : cl ≤ 600) (hk : k < cl) (hwh : wh < 4) (hf0 : cf k = nI f0) (hf1 : f0 < 600) : Met l yX5_fault wsX5_fault ({ frames := 2, cells := 0, slots := 0, locals := 42 } : Room) (va_Pc [.ref qm, .int (nI k), .int (nI wh)] (PW D cI cJ cZ [(qm, .inr (5, [.int cd, .int (nI n), .int (nI ni), .int (nI no), .ref mk, .ref m0, .ref m1, .ref mi, .ref mo, .ref ml, .ref mf, .ref ma, .int (nI cl), .ref mfd, .ref mts, .int (nI tc), .ref mg, .ref mb])), (mk, .inl (cI, 100, .inl kd)), (mf, .inl (cI, 600, .inl cf)), (ma, .inl (cI, 600, .inl ca))] sz)) (va_Qi (fun (r_9 : Int32) (_u9 : Unit) => r_9 = (fltF f0 wh (clsC kd ca n k 600))) (fun (_u9 : Unit) t => PQ D A [(qm, .inr (5, [.int (nI 0), .int (nI n), .int (nI ni), .int (nI no), .ref mk, .ref m0, .ref m1, .ref mi, .ref mo, .ref ml, .ref mf, .ref ma, .int (nI cl), .ref mfd, .ref mts, .int (nI tc), .ref mg, .ref mb])), (mk, .inl (cI, 100, .inl kd)), (mf, .inl (cI, 600, .inl cf)), (ma, .inl (cI, 600, .inl ca))] t) A) 0 0 A := by
  refine Met.ofW (cc := cX5_fault) (maxL := 6) (ret := (some .int)) (by decide) rfl ?_
  intro p e s m args below meth c s₁ B hml hv
  obtain ⟨rfl, hsz, ⟨hP, hK, hNB⟩, hD0⟩ := hv
  have hx := B.exec
  have hb := B.bytes
  have hr := B.returns
  have hts := atoms_spec (ws := wsX5_fault) B.pre
  have hown : s.vm.findClass RX5 = some m.cls := findClass_of_methodNamed B.named
  have hlocks := B.notSynchronized
  have hiX5 : ∀ w ∈ u_ws RX5 TX5 18, w ∈ wsX5_fault := by decide +kernel
  subst hsz
  have hD : va_D A [(qm, .inr (5, [.int cd, .int (nI n), .int (nI ni), .int (nI no), .ref mk, .ref m0, .ref m1, .ref mi, .ref mo, .ref ml, .ref mf, .ref ma, .int (nI cl), .ref mfd, .ref mts, .int (nI tc), .ref mg, .ref mb])), (mk, .inl (cI, 100, .inl kd)), (mf, .inl (cI, 600, .inl cf)), (ma, .inl (cI, 600, .inl ca))] := by rw [hAe]; exact hD0.self
  have hA : ∀ q : Nat, s.heap.size ≤ q → A q := fun q h => by rw [hAe]; exact Or.inr h
  have hS : va_S A s.heap s.heap [] := va_S.rf
  have hl := lv_entry ([.ref qm, .int (nI k), .int (nI wh)]) (n := 6) (Nat.le_of_ble_eq_true rfl)
  rw [lg_entry_eq]
  generalize (lg_sl ([.ref qm, .int (nI k), .int (nI wh)]) ++ List.replicate (6 - (lg_sl ([.ref qm, .int (nI k), .int (nI wh)])).length) Slot.unset).toArray = ls at hl ⊢
  have hl : lv_has ls 6 [(0, .ref qm), (1, .int (nI k)), (2, .int (nI wh))] := hl
  refine lv_aload_n hx hb dX5_fault_0 rfl (lv_at hl 0 rfl) ?_
  refine lv_aload_n hx hb dX5_fault_1 rfl (lv_at hl 0 rfl) ?_
  refine lv_iload_n hx hb dX5_fault_2 rfl (lv_at hl 1 rfl) ?_
  have hPc := hP.sub (ws' := [(qm, .inr (5, [.int cd, .int (nI n), .int (nI ni), .int (nI no), .ref mk, .ref m0, .ref m1, .ref mi, .ref mo, .ref ml, .ref mf, .ref ma, .int (nI cl), .ref mfd, .ref mts, .int (nI tc), .ref mg, .ref mb]))]) [0] rfl
  refine vp_callSi (va_runV (As := [.int (nI k)]) (rest := [.ref qm]) ⟨hx, hb, hml, hown, hts⟩ (c_X5_isClass l D cI cJ cZ qm mk m0 m1 mi mo ml mf ma mfd mts mg mb cd n ni no cl tc (nI k)) (cwV 1 hts gX5_fault_X5_isClass rfl rfl rfl (by decide +kernel) ⟨Nat.le_of_ble_eq_true rfl, Nat.le_of_ble_eq_true rfl⟩) ⟨PR.blind, va_recv hK hPc (ci := 5) (q0 := 0) rfl rfl, fun U hU hW => ⟨rfl, PR.to hPc hK hNB hU hW⟩⟩ rfl rfl hl.1 rfl (lv_room (Nat.le_of_ble_eq_true rfl)) dX5_fault_3 ⟨Nat.le_of_ble_eq_true rfl, Nat.le_of_ble_eq_true rfl⟩).run (fun r_1 hrr_1 => ?_)
  subst hrr_1
  refine lv_if_eq (tgt := 18) hx hb dX5_fault_6 (by decide) (fun c_6 => ?_) (fun c_6 => ?_)
  · skip
    rw [zc_if0] at c_6
    exact absurd (isN_nI (by omega) hk) c_6
  · skip
    rw [zc_if0] at c_6
    have c_6 := Classical.not_not.mp c_6
    refine lv_iload_n hx hb dX5_fault_9 rfl (lv_at hl 2 rfl) ?_
    refine lv_if_lt (tgt := 18) hx hb dX5_fault_10 (by decide) (fun c_10 => ?_) (fun c_10 => ?_)
    · skip
      rw [show (0 : Int32) = nI 0 from rfl, zc_lt (by omega) (by omega)] at c_10
      exact absurd c_10 (Nat.not_lt_zero _)
    · skip
      rw [show (0 : Int32) = nI 0 from rfl, zc_lt (by omega) (by omega)] at c_10
      refine lv_iload_n hx hb dX5_fault_13 rfl (lv_at hl 2 rfl) ?_
      refine lv_iconst (v := (nI 3)) hx hb dX5_fault_14 (by decide) ?_
      refine lv_icmp_le (tgt := 22) hx hb dX5_fault_15 (by decide) (fun c_15 => ?_) (fun c_15 => ?_)
      · skip
        rw [zc_le (by omega) (by omega)] at c_15
        refine lv_iconst (v := (nI 0)) hx hb dX5_fault_22 (by decide) ?_
        have hPc := hP.sub (ws' := [(qm, .inr (5, [.int cd, .int (nI n), .int (nI ni), .int (nI no), .ref mk, .ref m0, .ref m1, .ref mi, .ref mo, .ref ml, .ref mf, .ref ma, .int (nI cl), .ref mfd, .ref mts, .int (nI tc), .ref mg, .ref mb]))]) [0] rfl
        have hDc := hD.sub (ws' := [(qm, .inr (5, [.int cd, .int (nI n), .int (nI ni), .int (nI no), .ref mk, .ref m0, .ref m1, .ref mi, .ref mo, .ref ml, .ref mf, .ref ma, .int (nI cl), .ref mfd, .ref mts, .int (nI tc), .ref mg, .ref mb]))]) [0] (by decide) rfl
        have hFc := va_free (wc := [(qm, .inr (5, [.int cd, .int (nI n), .int (nI ni), .int (nI no), .ref mk, .ref m0, .ref m1, .ref mi, .ref mo, .ref ml, .ref mf, .ref ma, .int (nI cl), .ref mfd, .ref mts, .int (nI tc), .ref mg, .ref mb]))]) hD hS hA [0] rfl
        refine va_calli (va_runV (As := [.int (nI 0)]) (rest := []) ⟨hx, hb, hml, hown, hts⟩ (c_X5_refuses l D cI cJ cZ qm mk m0 m1 mi mo ml mf ma mfd mts mg mb cd n ni no cl tc 0 s.heap.size _ rfl (by omega)) (cwV 1 hts gX5_fault_X5_refuses rfl rfl rfl (by decide +kernel) ⟨Nat.le_of_ble_eq_true rfl, Nat.le_of_ble_eq_true rfl⟩) ⟨PW.blind, va_recv hK hPc (ci := 5) (q0 := 0) rfl rfl, fun U hU hW => ⟨rfl, PW.to hPc hK hNB hDc hU hW⟩⟩ rfl rfl hl.1 rfl (lv_room (Nat.le_of_ble_eq_true rfl)) dX5_fault_23 ⟨Nat.le_of_ble_eq_true rfl, Nat.le_of_ble_eq_true rfl⟩) hS (fun q _ h => hFc q h) hFc (fun r_2 u_9 t_9 H1_9 locs ht_9 hvm_9 hw_9 hB_9 hz1_9 hk1_9 hS => ?_)
        obtain ⟨hP1_9, hD1_9⟩ := hB_9
        rw [ht_9] at hP1_9
        obtain rfl := hw_9
        obtain ⟨hP, hD⟩ := va_join (wr := [(mk, .inl (cI, 100, .inl kd)), (mf, .inl (cI, 600, .inl cf)), (ma, .inl (cI, 600, .inl ca))]) (w1 := [(qm, .inr (5, [.int (nI 0), .int (nI n), .int (nI ni), .int (nI no), .ref mk, .ref m0, .ref m1, .ref mi, .ref mo, .ref ml, .ref mf, .ref ma, .int (nI cl), .ref mfd, .ref mts, .int (nI tc), .ref mg, .ref mb]))]) hP hD [0] [1, 2, 3] rfl rfl (by decide) (by decide) hk1_9 hFc hP1_9 hD1_9
        have hP := hP.sub (ws' := [(qm, .inr (5, [.int (nI 0), .int (nI n), .int (nI ni), .int (nI no), .ref mk, .ref m0, .ref m1, .ref mi, .ref mo, .ref ml, .ref mf, .ref ma, .int (nI cl), .ref mfd, .ref mts, .int (nI tc), .ref mg, .ref mb])), (mk, .inl (cI, 100, .inl kd)), (mf, .inl (cI, 600, .inl cf)), (ma, .inl (cI, 600, .inl ca))]) [3, 0, 1, 2] rfl
        have hD := hD.sub (ws' := [(qm, .inr (5, [.int (nI 0), .int (nI n), .int (nI ni), .int (nI no), .ref mk, .ref m0, .ref m1, .ref mi, .ref mo, .ref ml, .ref mf, .ref ma, .int (nI cl), .ref mfd, .ref mts, .int (nI tc), .ref mg, .ref mb])), (mk, .inl (cI, 100, .inl kd)), (mf, .inl (cI, 600, .inl cf)), (ma, .inl (cI, 600, .inl ca))]) [3, 0, 1, 2] (by decide) rfl
        generalize H1_9 = H at hP hS ⊢
        have hP : va_P D vwCl [(qm, .inr (5, [.int (nI 0), .int (nI n), .int (nI ni), .int (nI no), .ref mk, .ref m0, .ref m1, .ref mi, .ref mo, .ref ml, .ref mf, .ref ma, .int (nI cl), .ref mfd, .ref mts, .int (nI tc), .ref mg, .ref mb])), (mk, .inl (cI, 100, .inl kd)), (mf, .inl (cI, 600, .inl cf)), (ma, .inl (cI, 600, .inl ca))] H := hP
        have hD : va_D A [(qm, .inr (5, [.int (nI 0), .int (nI n), .int (nI ni), .int (nI no), .ref mk, .ref m0, .ref m1, .ref mi, .ref mo, .ref ml, .ref mf, .ref ma, .int (nI cl), .ref mfd, .ref mts, .int (nI tc), .ref mg, .ref mb])), (mk, .inl (cI, 100, .inl kd)), (mf, .inl (cI, 600, .inl cf)), (ma, .inl (cI, 600, .inl ca))] := hD
        refine lv_if_eq (tgt := 31) hx hb dX5_fault_26 (by decide) (fun c_26 => ?_) (fun c_26 => ?_)
        · skip
          rw [zc_if0] at c_26
          refine lv_aload_n hx hb dX5_fault_31 rfl (lv_at hl 0 rfl) ?_
          refine va_get (D := D) (ci := 5) (v := .ref mf) (C := RX5) (T := TX5) (N := 18) hx hb hts hiX5 hown hK hP 0 rfl rfl 10 (by decide) (hts (.fieldLink RX5 28 "FaultSearchModel" "classFirst" "[I") (by decide +kernel)) (fun _ h9 => h9) rfl dX5_fault_32 ?_
          refine lv_iload_n hx hb dX5_fault_35 rfl (lv_at hl 1 rfl) ?_
          refine zz_iald hx hb hK hP 2 0 rfl rfl (n := 600) (j := k) (by omega) (by decide) dX5_fault_36 ?_
          refine zz_i (z := (nI f0)) hf0 ?_
          refine lv_istore_n (lv' := [(3, .int (nI f0)), (0, .ref qm), (1, .int (nI k)), (2, .int (nI wh))]) hx hb dX5_fault_37 rfl hl (by decide) rfl (fun ls hl => ?_)
          refine lv_iload_n hx hb dX5_fault_38 rfl (lv_at hl 3 rfl) ?_
          refine lv_iconst (v := (nI 3)) hx hb dX5_fault_39 (by decide) ?_
          refine lv_icmp_ge (tgt := 74) hx hb dX5_fault_40 (by decide) (fun c_40 => ?_) (fun c_40 => ?_)
          · skip
            rw [zc_le (by omega) (by omega)] at c_40
            refine lv_iconst (v := (nI 0)) hx hb dX5_fault_74 (by decide) ?_
            refine lv_istore (lv' := [(4, .int (nI 0)), (3, .int (nI f0)), (0, .ref qm), (1, .int (nI k)), (2, .int (nI wh))]) hx hb dX5_fault_75 hl (by decide) rfl (fun ls hl => ?_)
            refine lv_iconst (v := (nI 0)) hx hb dX5_fault_77 (by decide) ?_
            refine lv_istore (lv' := [(5, .int (nI 0)), (4, .int (nI 0)), (3, .int (nI f0)), (0, .ref qm), (1, .int (nI k)), (2, .int (nI wh))]) hx hb dX5_fault_78 hl (by decide) rfl (fun ls hl => ?_)
            have loop80 : ∀ (n80 : Nat) (g : Nat) (ac : Nat) (hg : g ≤ 600) (hac : ac = clsC kd ca n k g), 600 - g < n80 → ∀ (H : Heap) (locs : List Loc), va_P D vwCl [(qm, .inr (5, [.int (nI 0), .int (nI n), .int (nI ni), .int (nI no), .ref mk, .ref m0, .ref m1, .ref mi, .ref mo, .ref ml, .ref mf, .ref ma, .int (nI cl), .ref mfd, .ref mts, .int (nI tc), .ref mg, .ref mb])), (mk, .inl (cI, 100, .inl kd)), (mf, .inl (cI, 600, .inl cf)), (ma, .inl (cI, 600, .inl ca))] H → va_D A [(qm, .inr (5, [.int (nI 0), .int (nI n), .int (nI ni), .int (nI no), .ref mk, .ref m0, .ref m1, .ref mi, .ref mo, .ref ml, .ref mf, .ref ma, .int (nI cl), .ref mfd, .ref mts, .int (nI tc), .ref mg, .ref mb])), (mk, .inl (cI, 100, .inl kd)), (mf, .inl (cI, 600, .inl cf)), (ma, .inl (cI, 600, .inl ca))] → va_S A s.heap H locs → ∀ (ls : Array Slot), lv_has ls 6 [(0, .ref qm), (1, .int (nI k)), (2, .int (nI wh)), (3, .int (nI f0)), (4, .int (nI ac)), (5, .int (nI g))] → W p l e (headSpec wsX5_fault ({ frames := 2, cells := 0, slots := 0, locals := 42 } : Room)).room s m ([.ref qm, .int (nI k), .int (nI wh)] : List Value).toArray below meth c H locs 0 0 (MQ below (va_Qi (fun (r_9 : Int32) (_u9 : Unit) => r_9 = (fltF f0 wh (clsC kd ca n k 600))) (fun (_u9 : Unit) t => PQ D A [(qm, .inr (5, [.int (nI 0), .int (nI n), .int (nI ni), .int (nI no), .ref mk, .ref m0, .ref m1, .ref mi, .ref mo, .ref ml, .ref mf, .ref ma, .int (nI cl), .ref mfd, .ref mts, .int (nI tc), .ref mg, .ref mb])), (mk, .inl (cI, 100, .inl kd)), (mf, .inl (cI, 600, .inl cf)), (ma, .inl (cI, 600, .inl ca))] t) A) ([.ref qm, .int (nI k), .int (nI wh)] : List Value).toArray s 0 0 A) (F0 m 80 ls []) := by
              intro n80
              induction n80 with
              | zero => intro g ac hg hac hm; exact absurd hm (Nat.not_lt_zero _)
              | succ n80 ih80 =>
                intro g ac hg hac hm80 H locs hP hD hS ls hl
                refine lv_iload hx hb dX5_fault_80 (lv_at hl 5 rfl) ?_
                refine lv_sipush (v := (nI 600)) hx hb dX5_fault_82 (by decide) ?_
                refine lv_icmp_ge (tgt := 124) hx hb dX5_fault_85 (by decide) (fun c_85 => ?_) (fun c_85 => ?_)
                · skip
                  rw [zc_le (by omega) (by omega)] at c_85
                  refine lv_iload hx hb dX5_fault_124 (lv_at hl 4 rfl) ?_
                  exact W.iret (v := (nI ac)) hx hb hr (fun t_9 ht_9 hW_9 => ⟨⟨(nI ac), (), rfl, (by rw [fltF, if_neg (by omega), if_neg (by omega), if_neg (by omega), hac, show g = 600 by omega]), ⟨by rw [ht_9]; exact hP, hD⟩⟩, hS.F ht_9⟩) hS.2.2 dX5_fault_126
                · skip
                  rw [zc_le (by omega) (by omega)] at c_85
                  refine lv_iload hx hb dX5_fault_88 (lv_at hl 4 rfl) ?_
                  refine lv_aload_n hx hb dX5_fault_90 rfl (lv_at hl 0 rfl) ?_
                  refine lv_iload hx hb dX5_fault_91 (lv_at hl 5 rfl) ?_
                  have hPc := hP.sub (ws' := [(qm, .inr (5, [.int (nI 0), .int (nI n), .int (nI ni), .int (nI no), .ref mk, .ref m0, .ref m1, .ref mi, .ref mo, .ref ml, .ref mf, .ref ma, .int (nI cl), .ref mfd, .ref mts, .int (nI tc), .ref mg, .ref mb])), (mk, .inl (cI, 100, .inl kd))]) [0, 1] rfl
                  refine vp_callSi (va_runV (As := [.int (nI g)]) (rest := [.int (nI ac)]) ⟨hx, hb, hml, hown, hts⟩ (c_X5_isLine l D cI cJ cZ qm mk m0 m1 mi mo ml mf ma mfd mts mg mb (nI 0) n ni no cl tc kd g (by omega) (by omega) hkd) (cwV 1 hts gX5_fault_X5_isLine rfl rfl rfl (by decide +kernel) ⟨Nat.le_of_ble_eq_true rfl, Nat.le_of_ble_eq_true rfl⟩) ⟨PR.blind, va_recv hK hPc (ci := 5) (q0 := 0) rfl rfl, fun U hU hW => ⟨rfl, PR.to hPc hK hNB hU hW⟩⟩ rfl rfl hl.1 rfl (lv_room (Nat.le_of_ble_eq_true rfl)) dX5_fault_93 ⟨Nat.le_of_ble_eq_true rfl, Nat.le_of_ble_eq_true rfl⟩).run (fun r_3 hrr_3 => ?_)
                  subst hrr_3
                  refine lv_if_eq (tgt := 114) hx hb dX5_fault_96 (by decide) (fun c_96 => ?_) (fun c_96 => ?_)
                  · skip
                    rw [zc_if0] at c_96
                    refine lv_iconst (v := (nI 0)) hx hb dX5_fault_114 (by decide) ?_
                    refine lv_iadd hx hb dX5_fault_115 ?_
                    refine zz_i (z := (nI (ac + 0))) (nI_add _ _) ?_
                    refine lv_istore (lv' := [(4, .int (nI (ac + 0))), (0, .ref qm), (1, .int (nI k)), (2, .int (nI wh)), (3, .int (nI f0)), (5, .int (nI g))]) hx hb dX5_fault_116 hl (by decide) rfl (fun ls hl => ?_)
                    refine lv_iinc (v := (nI (g + 1))) (lv' := [(5, .int (nI (g + 1))), (4, .int (nI (ac + 0))), (0, .ref qm), (1, .int (nI k)), (2, .int (nI wh)), (3, .int (nI f0))]) hx hb dX5_fault_118 hl (k := 5) rfl (nI_add _ 1) (by decide) rfl (fun ls hl => ?_)
                    refine lv_goto (tgt := 80) hx hb dX5_fault_121 (by decide) ?_
                    exact ih80 (g + 1) (ac + 0) (by omega) (by first | (rw [clsC_y c_96 c_107, hac]) | (rw [Nat.add_zero, clsC_n (fun h => c_107 h.2)]; exact hac) | (rw [Nat.add_zero, clsC_n (fun h => c_96 h.1)]; exact hac)) (by omega) _ _ hP hD hS ls (lv_sub hl [2, 3, 4, 5, 1, 0] rfl)
                  · skip
                    rw [zc_if0] at c_96
                    have c_96 := Classical.not_not.mp c_96
                    refine lv_aload_n hx hb dX5_fault_99 rfl (lv_at hl 0 rfl) ?_
                    refine va_get (D := D) (ci := 5) (v := .ref ma) (C := RX5) (T := TX5) (N := 18) hx hb hts hiX5 hown hK hP 0 rfl rfl 11 (by decide) (hts (.fieldLink RX5 31 "FaultSearchModel" "classAt" "[I") (by decide +kernel)) (fun _ h9 => h9) rfl dX5_fault_100 ?_
                    refine lv_iload hx hb dX5_fault_103 (lv_at hl 5 rfl) ?_
                    refine zz_iald hx hb hK hP 3 0 rfl rfl (n := 600) (j := g) (by omega) (by decide) dX5_fault_105 ?_
                    refine lv_iload_n hx hb dX5_fault_106 rfl (lv_at hl 1 rfl) ?_
                    refine lv_icmp_ne (tgt := 114) hx hb dX5_fault_107 (by decide) (fun c_107 => ?_) (fun c_107 => ?_)
                    · skip
                      refine lv_iconst (v := (nI 0)) hx hb dX5_fault_114 (by decide) ?_
                      refine lv_iadd hx hb dX5_fault_115 ?_
                      refine zz_i (z := (nI (ac + 0))) (nI_add _ _) ?_
                      refine lv_istore (lv' := [(4, .int (nI (ac + 0))), (0, .ref qm), (1, .int (nI k)), (2, .int (nI wh)), (3, .int (nI f0)), (5, .int (nI g))]) hx hb dX5_fault_116 hl (by decide) rfl (fun ls hl => ?_)
                      refine lv_iinc (v := (nI (g + 1))) (lv' := [(5, .int (nI (g + 1))), (4, .int (nI (ac + 0))), (0, .ref qm), (1, .int (nI k)), (2, .int (nI wh)), (3, .int (nI f0))]) hx hb dX5_fault_118 hl (k := 5) rfl (nI_add _ 1) (by decide) rfl (fun ls hl => ?_)
                      refine lv_goto (tgt := 80) hx hb dX5_fault_121 (by decide) ?_
                      exact ih80 (g + 1) (ac + 0) (by omega) (by first | (rw [clsC_y c_96 c_107, hac]) | (rw [Nat.add_zero, clsC_n (fun h => c_107 h.2)]; exact hac) | (rw [Nat.add_zero, clsC_n (fun h => c_96 h.1)]; exact hac)) (by omega) _ _ hP hD hS ls (lv_sub hl [2, 3, 4, 5, 1, 0] rfl)
                    · skip
                      refine lv_iconst (v := (nI 1)) hx hb dX5_fault_110 (by decide) ?_
                      refine lv_goto (tgt := 115) hx hb dX5_fault_111 (by decide) ?_
                      refine lv_iadd hx hb dX5_fault_115 ?_
                      refine zz_i (z := (nI (ac + 1))) (nI_add _ _) ?_
                      refine lv_istore (lv' := [(4, .int (nI (ac + 1))), (0, .ref qm), (1, .int (nI k)), (2, .int (nI wh)), (3, .int (nI f0)), (5, .int (nI g))]) hx hb dX5_fault_116 hl (by decide) rfl (fun ls hl => ?_)
                      refine lv_iinc (v := (nI (g + 1))) (lv' := [(5, .int (nI (g + 1))), (4, .int (nI (ac + 1))), (0, .ref qm), (1, .int (nI k)), (2, .int (nI wh)), (3, .int (nI f0))]) hx hb dX5_fault_118 hl (k := 5) rfl (nI_add _ 1) (by decide) rfl (fun ls hl => ?_)
                      refine lv_goto (tgt := 80) hx hb dX5_fault_121 (by decide) ?_
                      exact ih80 (g + 1) (ac + 1) (by omega) (by first | (rw [clsC_y c_96 c_107, hac]) | (rw [Nat.add_zero, clsC_n (fun h => c_107 h.2)]; exact hac) | (rw [Nat.add_zero, clsC_n (fun h => c_96 h.1)]; exact hac)) (by omega) _ _ hP hD hS ls (lv_sub hl [2, 3, 4, 5, 1, 0] rfl)
            exact loop80 ((600 - 0) + 1) 0 0 (by omega) rfl (Nat.lt_succ_self _) _ _ hP hD hS ls (lv_sub hl [3, 4, 5, 2, 1, 0] rfl)
          · skip
            rw [zc_le (by omega) (by omega)] at c_40
            refine lv_iload_n hx hb dX5_fault_43 rfl (lv_at hl 3 rfl) ?_
            refine lv_if_ne (tgt := 54) hx hb dX5_fault_44 (by decide) (fun c_44 => ?_) (fun c_44 => ?_)
            · skip
              rw [zc_eq0 (by omega)] at c_44
              refine lv_iload_n hx hb dX5_fault_54 rfl (lv_at hl 3 rfl) ?_
              refine lv_iconst (v := (nI 1)) hx hb dX5_fault_55 (by decide) ?_
              refine lv_icmp_ne (tgt := 70) hx hb dX5_fault_56 (by decide) (fun c_56 => ?_) (fun c_56 => ?_)
              · skip
                rw [zc_eq (by omega) (by omega)] at c_56
                refine lv_iload_n hx hb dX5_fault_70 rfl (lv_at hl 0 rfl) ?_
                refine lv_iconst (v := (nI 2)) hx hb dX5_fault_71 (by decide) ?_
                refine lv_irem hx hb dX5_fault_72 (by decide) ?_
                refine zz_i (z := (nI (f0 % 2))) (pk_rem (by omega) (by decide) (by decide)) ?_
                exact W.iret (v := (nI (f0 % 2))) hx hb hr (fun t_9 ht_9 hW_9 => ⟨⟨(nI (f0 % 2)), (), rfl, (by first | (rw [fltF, if_pos c_44]) | (rw [fltF, if_neg c_44, if_pos c_56]) | (rw [fltF, if_neg c_44, if_neg c_56, if_pos (by omega)])), ⟨by rw [ht_9]; exact hP, hD⟩⟩, hS.F ht_9⟩) hS.2.2 dX5_fault_73
              · skip
                rw [zc_eq (by omega) (by omega)] at c_56
                refine lv_iload_n hx hb dX5_fault_59 rfl (lv_at hl 0 rfl) ?_
                refine lv_bipush (v := (nI 6)) hx hb dX5_fault_60 (by decide) ?_
                refine lv_irem hx hb dX5_fault_62 (by decide) ?_
                refine zz_i (z := (nI (f0 % 6))) (pk_rem (by omega) (by decide) (by decide)) ?_
                refine lv_iconst (v := (nI 2)) hx hb dX5_fault_63 (by decide) ?_
                refine lv_idiv hx hb dX5_fault_64 (by decide) ?_
                refine zz_i (z := (nI ((f0 % 6) / 2))) (pk_div (by omega) (by decide) (by decide)) ?_
                refine lv_iconst (v := (nI 1)) hx hb dX5_fault_65 (by decide) ?_
                refine lv_isub hx hb dX5_fault_66 ?_
                refine lv_goto (tgt := 73) hx hb dX5_fault_67 (by decide) ?_
                exact W.iret (v := ((nI ((f0 % 6) / 2)) - (nI 1))) hx hb hr (fun t_9 ht_9 hW_9 => ⟨⟨((nI ((f0 % 6) / 2)) - (nI 1)), (), rfl, (by first | (rw [fltF, if_pos c_44]) | (rw [fltF, if_neg c_44, if_pos c_56]) | (rw [fltF, if_neg c_44, if_neg c_56, if_pos (by omega)])), ⟨by rw [ht_9]; exact hP, hD⟩⟩, hS.F ht_9⟩) hS.2.2 dX5_fault_73
            · skip
              rw [zc_eq0 (by omega)] at c_44
              refine lv_iload_n hx hb dX5_fault_47 rfl (lv_at hl 0 rfl) ?_
              refine lv_bipush (v := (nI 6)) hx hb dX5_fault_48 (by decide) ?_
              refine lv_idiv hx hb dX5_fault_50 (by decide) ?_
              refine zz_i (z := (nI (f0 / 6))) (pk_div (by omega) (by decide) (by decide)) ?_
              refine lv_goto (tgt := 73) hx hb dX5_fault_51 (by decide) ?_
              exact W.iret (v := (nI (f0 / 6))) hx hb hr (fun t_9 ht_9 hW_9 => ⟨⟨(nI (f0 / 6)), (), rfl, (by first | (rw [fltF, if_pos c_44]) | (rw [fltF, if_neg c_44, if_pos c_56]) | (rw [fltF, if_neg c_44, if_neg c_56, if_pos (by omega)])), ⟨by rw [ht_9]; exact hP, hD⟩⟩, hS.F ht_9⟩) hS.2.2 dX5_fault_73
        · skip
          rw [zc_if0] at c_26
          have c_26 := Classical.not_not.mp c_26
          exact absurd c_26 (by decide)
      · skip
        rw [zc_le (by omega) (by omega)] at c_15
        exact absurd (by omega) c_15

set_option maxHeartbeats 4000000 in
set_option maxRecDepth 100000 in
theorem c_X5_classOf_no (l : Launch) (D : va_G) (cI cJ cZ : ClassId) (qm : Nat) (mk : Nat) (m0 : Nat) (m1 : Nat) (mi : Nat) (mo : Nat) (ml : Nat) (mf : Nat) (ma : Nat) (mfd : Nat) (mts : Nat) (mg : Nat) (mb : Nat) (cd : Int32) (n : Nat) (ni : Nat) (no : Nat) (cl : Nat) (tc : Nat) (kd : Nat → Int32) (net : Int32) (pin : Int32) (v : Int32) (sz : Nat) (A : Nat → Prop) (hAe : A = va_A [(qm, .inr (5, [.int cd, .int (nI n), .int (nI ni), .int (nI no), .ref mk, .ref m0, .ref m1, .ref mi, .ref mo, .ref ml, .ref mf, .ref ma, .int (nI cl), .ref mfd, .ref mts, .int (nI tc), .ref mg, .ref mb])), (mk, .inl (cI, 100, .inl kd))] sz) (hn : n ≤ 100) (hkd : KD n kd) (h : ¬ clOk n kd net pin v) : Met l yX5_classOf wsX5_classOf ({ frames := 1, cells := 0, slots := 0, locals := 21 } : Room) (va_Pc [.ref qm, .int net, .int pin, .int v] (PW D cI cJ cZ [(qm, .inr (5, [.int cd, .int (nI n), .int (nI ni), .int (nI no), .ref mk, .ref m0, .ref m1, .ref mi, .ref mo, .ref ml, .ref mf, .ref ma, .int (nI cl), .ref mfd, .ref mts, .int (nI tc), .ref mg, .ref mb])), (mk, .inl (cI, 100, .inl kd))] sz)) (va_Qi (fun (r_9 : Int32) (_u9 : Unit) => r_9 = (nI 0)) (fun (_u9 : Unit) t => PQ D A [(qm, .inr (5, [.int (nI 1), .int (nI n), .int (nI ni), .int (nI no), .ref mk, .ref m0, .ref m1, .ref mi, .ref mo, .ref ml, .ref mf, .ref ma, .int (nI cl), .ref mfd, .ref mts, .int (nI tc), .ref mg, .ref mb])), (mk, .inl (cI, 100, .inl kd))] t) A) 0 0 A := by
  refine Met.ofW (cc := cX5_classOf) (maxL := 5) (ret := (some .int)) (by decide) rfl ?_
  intro p e s m args below meth c s₁ B hml hv
  obtain ⟨rfl, hsz, ⟨hP, hK, hNB⟩, hD0⟩ := hv
  have hx := B.exec
  have hb := B.bytes
  have hr := B.returns
  have hts := atoms_spec (ws := wsX5_classOf) B.pre
  have hown : s.vm.findClass RX5 = some m.cls := findClass_of_methodNamed B.named
  have hlocks := B.notSynchronized
  subst hsz
  have hD : va_D A [(qm, .inr (5, [.int cd, .int (nI n), .int (nI ni), .int (nI no), .ref mk, .ref m0, .ref m1, .ref mi, .ref mo, .ref ml, .ref mf, .ref ma, .int (nI cl), .ref mfd, .ref mts, .int (nI tc), .ref mg, .ref mb])), (mk, .inl (cI, 100, .inl kd))] := by rw [hAe]; exact hD0.self
  have hA : ∀ q : Nat, s.heap.size ≤ q → A q := fun q h => by rw [hAe]; exact Or.inr h
  have hS : va_S A s.heap s.heap [] := va_S.rf
  have hl := lv_entry ([.ref qm, .int net, .int pin, .int v]) (n := 5) (Nat.le_of_ble_eq_true rfl)
  rw [lg_entry_eq]
  generalize (lg_sl ([.ref qm, .int net, .int pin, .int v]) ++ List.replicate (5 - (lg_sl ([.ref qm, .int net, .int pin, .int v])).length) Slot.unset).toArray = ls at hl ⊢
  have hl : lv_has ls 5 [(0, .ref qm), (1, .int net), (2, .int pin), (3, .int v)] := hl
  refine lv_aload_n hx hb dX5_classOf_0 rfl (lv_at hl 0 rfl) ?_
  refine lv_iload_n hx hb dX5_classOf_1 rfl (lv_at hl 1 rfl) ?_
  have hPc := hP.sub (ws' := [(qm, .inr (5, [.int cd, .int (nI n), .int (nI ni), .int (nI no), .ref mk, .ref m0, .ref m1, .ref mi, .ref mo, .ref ml, .ref mf, .ref ma, .int (nI cl), .ref mfd, .ref mts, .int (nI tc), .ref mg, .ref mb]))]) [0] rfl
  refine vp_callSi (va_runV (As := [.int net]) (rest := []) ⟨hx, hb, hml, hown, hts⟩ (c_X5_isNet l D cI cJ cZ qm mk m0 m1 mi mo ml mf ma mfd mts mg mb cd n ni no cl tc net) (cwV 1 hts gX5_classOf_X5_isNet rfl rfl rfl (by decide +kernel) ⟨Nat.le_of_ble_eq_true rfl, Nat.le_of_ble_eq_true rfl⟩) ⟨PR.blind, va_recv hK hPc (ci := 5) (q0 := 0) rfl rfl, fun U hU hW => ⟨rfl, PR.to hPc hK hNB hU hW⟩⟩ rfl rfl hl.1 rfl (lv_room (Nat.le_of_ble_eq_true rfl)) dX5_classOf_2 ⟨Nat.le_of_ble_eq_true rfl, Nat.le_of_ble_eq_true rfl⟩).run (fun r_1 hrr_1 => ?_)
  subst hrr_1
  refine lv_if_eq (tgt := 31) hx hb dX5_classOf_5 (by decide) (fun c_5 => ?_) (fun c_5 => ?_)
  · skip
    rw [zc_if0] at c_5
    refine lv_iconst (v := (nI 0)) hx hb dX5_classOf_31 (by decide) ?_
    refine lv_istore (lv' := [(4, .int (nI 0)), (0, .ref qm), (1, .int net), (2, .int pin), (3, .int v)]) hx hb dX5_classOf_32 hl (by decide) rfl (fun ls hl => ?_)
    refine lv_aload_n hx hb dX5_classOf_34 rfl (lv_at hl 1 rfl) ?_
    refine lv_iload hx hb dX5_classOf_35 (lv_at hl 0 rfl) ?_
    refine lv_if_eq (tgt := 49) hx hb dX5_classOf_37 (by decide) (fun c_37 => ?_) (fun c_37 => ?_)
    · skip
      refine lv_iconst (v := (nI 1)) hx hb dX5_classOf_49 (by decide) ?_
      refine lv_goto (tgt := 54) hx hb dX5_classOf_50 (by decide) ?_
      have hPc := hP.sub (ws' := [(qm, .inr (5, [.int cd, .int (nI n), .int (nI ni), .int (nI no), .ref mk, .ref m0, .ref m1, .ref mi, .ref mo, .ref ml, .ref mf, .ref ma, .int (nI cl), .ref mfd, .ref mts, .int (nI tc), .ref mg, .ref mb]))]) [0] rfl
      have hDc := hD.sub (ws' := [(qm, .inr (5, [.int cd, .int (nI n), .int (nI ni), .int (nI no), .ref mk, .ref m0, .ref m1, .ref mi, .ref mo, .ref ml, .ref mf, .ref ma, .int (nI cl), .ref mfd, .ref mts, .int (nI tc), .ref mg, .ref mb]))]) [0] (by decide) rfl
      have hFc := va_free (wc := [(qm, .inr (5, [.int cd, .int (nI n), .int (nI ni), .int (nI no), .ref mk, .ref m0, .ref m1, .ref mi, .ref mo, .ref ml, .ref mf, .ref ma, .int (nI cl), .ref mfd, .ref mts, .int (nI tc), .ref mg, .ref mb]))]) hD hS hA [0] rfl
      refine va_calli (va_runV (As := [.int (nI 1)]) (rest := []) ⟨hx, hb, hml, hown, hts⟩ (c_X5_refuses l D cI cJ cZ qm mk m0 m1 mi mo ml mf ma mfd mts mg mb cd n ni no cl tc 1 s.heap.size _ rfl (by omega)) (cwV 1 hts gX5_classOf_X5_refuses rfl rfl rfl (by decide +kernel) ⟨Nat.le_of_ble_eq_true rfl, Nat.le_of_ble_eq_true rfl⟩) ⟨PW.blind, va_recv hK hPc (ci := 5) (q0 := 0) rfl rfl, fun U hU hW => ⟨rfl, PW.to hPc hK hNB hDc hU hW⟩⟩ rfl rfl hl.1 rfl (lv_room (Nat.le_of_ble_eq_true rfl)) dX5_classOf_54 ⟨Nat.le_of_ble_eq_true rfl, Nat.le_of_ble_eq_true rfl⟩) hS (fun q _ h => hFc q h) hFc (fun r_2 u_9 t_9 H1_9 locs ht_9 hvm_9 hw_9 hB_9 hz1_9 hk1_9 hS => ?_)
      obtain ⟨hP1_9, hD1_9⟩ := hB_9
      rw [ht_9] at hP1_9
      obtain rfl := hw_9
      obtain ⟨hP, hD⟩ := va_join (wr := [(mk, .inl (cI, 100, .inl kd))]) (w1 := [(qm, .inr (5, [.int (nI 1), .int (nI n), .int (nI ni), .int (nI no), .ref mk, .ref m0, .ref m1, .ref mi, .ref mo, .ref ml, .ref mf, .ref ma, .int (nI cl), .ref mfd, .ref mts, .int (nI tc), .ref mg, .ref mb]))]) hP hD [0] [1] rfl rfl (by decide) (by decide) hk1_9 hFc hP1_9 hD1_9
      have hP := hP.sub (ws' := [(qm, .inr (5, [.int (nI 1), .int (nI n), .int (nI ni), .int (nI no), .ref mk, .ref m0, .ref m1, .ref mi, .ref mo, .ref ml, .ref mf, .ref ma, .int (nI cl), .ref mfd, .ref mts, .int (nI tc), .ref mg, .ref mb])), (mk, .inl (cI, 100, .inl kd))]) [1, 0] rfl
      have hD := hD.sub (ws' := [(qm, .inr (5, [.int (nI 1), .int (nI n), .int (nI ni), .int (nI no), .ref mk, .ref m0, .ref m1, .ref mi, .ref mo, .ref ml, .ref mf, .ref ma, .int (nI cl), .ref mfd, .ref mts, .int (nI tc), .ref mg, .ref mb])), (mk, .inl (cI, 100, .inl kd))]) [1, 0] (by decide) rfl
      generalize H1_9 = H at hP hS ⊢
      have hP : va_P D vwCl [(qm, .inr (5, [.int (nI 1), .int (nI n), .int (nI ni), .int (nI no), .ref mk, .ref m0, .ref m1, .ref mi, .ref mo, .ref ml, .ref mf, .ref ma, .int (nI cl), .ref mfd, .ref mts, .int (nI tc), .ref mg, .ref mb])), (mk, .inl (cI, 100, .inl kd))] H := hP
      have hD : va_D A [(qm, .inr (5, [.int (nI 1), .int (nI n), .int (nI ni), .int (nI no), .ref mk, .ref m0, .ref m1, .ref mi, .ref mo, .ref ml, .ref mf, .ref ma, .int (nI cl), .ref mfd, .ref mts, .int (nI tc), .ref mg, .ref mb])), (mk, .inl (cI, 100, .inl kd))] := hD
      refine lv_if_eq (tgt := 62) hx hb dX5_classOf_57 (by decide) (fun c_57 => ?_) (fun c_57 => ?_)
      · skip
        rw [zc_if0] at c_57
        exact absurd (by decide) c_57
      · skip
        rw [zc_if0] at c_57
        have c_57 := Classical.not_not.mp c_57
        refine lv_iconst (v := (nI 0)) hx hb dX5_classOf_60 (by decide) ?_
        exact W.iret (v := (nI 0)) hx hb hr (fun t_9 ht_9 hW_9 => ⟨⟨(nI 0), (), rfl, rfl, ⟨by rw [ht_9]; exact hP, hD⟩⟩, hS.F ht_9⟩) hS.2.2 dX5_classOf_61
    · skip
      exact absurd (by decide) c_37
  · skip
    rw [zc_if0] at c_5
    have c_5 := Classical.not_not.mp c_5
    refine lv_iload_n hx hb dX5_classOf_8 rfl (lv_at hl 2 rfl) ?_
    refine lv_iconst (v := (-1)) hx hb dX5_classOf_9 (by decide) ?_
    refine lv_icmp_lt (tgt := 31) hx hb dX5_classOf_10 (by decide) (fun c_10 => ?_) (fun c_10 => ?_)
    · skip
      refine lv_iconst (v := (nI 0)) hx hb dX5_classOf_31 (by decide) ?_
      refine lv_istore (lv' := [(4, .int (nI 0)), (0, .ref qm), (1, .int net), (2, .int pin), (3, .int v)]) hx hb dX5_classOf_32 hl (by decide) rfl (fun ls hl => ?_)
      refine lv_aload_n hx hb dX5_classOf_34 rfl (lv_at hl 1 rfl) ?_
      refine lv_iload hx hb dX5_classOf_35 (lv_at hl 0 rfl) ?_
      refine lv_if_eq (tgt := 49) hx hb dX5_classOf_37 (by decide) (fun c_37 => ?_) (fun c_37 => ?_)
      · skip
        refine lv_iconst (v := (nI 1)) hx hb dX5_classOf_49 (by decide) ?_
        refine lv_goto (tgt := 54) hx hb dX5_classOf_50 (by decide) ?_
        have hPc := hP.sub (ws' := [(qm, .inr (5, [.int cd, .int (nI n), .int (nI ni), .int (nI no), .ref mk, .ref m0, .ref m1, .ref mi, .ref mo, .ref ml, .ref mf, .ref ma, .int (nI cl), .ref mfd, .ref mts, .int (nI tc), .ref mg, .ref mb]))]) [0] rfl
        have hDc := hD.sub (ws' := [(qm, .inr (5, [.int cd, .int (nI n), .int (nI ni), .int (nI no), .ref mk, .ref m0, .ref m1, .ref mi, .ref mo, .ref ml, .ref mf, .ref ma, .int (nI cl), .ref mfd, .ref mts, .int (nI tc), .ref mg, .ref mb]))]) [0] (by decide) rfl
        have hFc := va_free (wc := [(qm, .inr (5, [.int cd, .int (nI n), .int (nI ni), .int (nI no), .ref mk, .ref m0, .ref m1, .ref mi, .ref mo, .ref ml, .ref mf, .ref ma, .int (nI cl), .ref mfd, .ref mts, .int (nI tc), .ref mg, .ref mb]))]) hD hS hA [0] rfl
        refine va_calli (va_runV (As := [.int (nI 1)]) (rest := []) ⟨hx, hb, hml, hown, hts⟩ (c_X5_refuses l D cI cJ cZ qm mk m0 m1 mi mo ml mf ma mfd mts mg mb cd n ni no cl tc 1 s.heap.size _ rfl (by omega)) (cwV 1 hts gX5_classOf_X5_refuses rfl rfl rfl (by decide +kernel) ⟨Nat.le_of_ble_eq_true rfl, Nat.le_of_ble_eq_true rfl⟩) ⟨PW.blind, va_recv hK hPc (ci := 5) (q0 := 0) rfl rfl, fun U hU hW => ⟨rfl, PW.to hPc hK hNB hDc hU hW⟩⟩ rfl rfl hl.1 rfl (lv_room (Nat.le_of_ble_eq_true rfl)) dX5_classOf_54 ⟨Nat.le_of_ble_eq_true rfl, Nat.le_of_ble_eq_true rfl⟩) hS (fun q _ h => hFc q h) hFc (fun r_3 u_9 t_9 H1_9 locs ht_9 hvm_9 hw_9 hB_9 hz1_9 hk1_9 hS => ?_)
        obtain ⟨hP1_9, hD1_9⟩ := hB_9
        rw [ht_9] at hP1_9
        obtain rfl := hw_9
        obtain ⟨hP, hD⟩ := va_join (wr := [(mk, .inl (cI, 100, .inl kd))]) (w1 := [(qm, .inr (5, [.int (nI 1), .int (nI n), .int (nI ni), .int (nI no), .ref mk, .ref m0, .ref m1, .ref mi, .ref mo, .ref ml, .ref mf, .ref ma, .int (nI cl), .ref mfd, .ref mts, .int (nI tc), .ref mg, .ref mb]))]) hP hD [0] [1] rfl rfl (by decide) (by decide) hk1_9 hFc hP1_9 hD1_9
        have hP := hP.sub (ws' := [(qm, .inr (5, [.int (nI 1), .int (nI n), .int (nI ni), .int (nI no), .ref mk, .ref m0, .ref m1, .ref mi, .ref mo, .ref ml, .ref mf, .ref ma, .int (nI cl), .ref mfd, .ref mts, .int (nI tc), .ref mg, .ref mb])), (mk, .inl (cI, 100, .inl kd))]) [1, 0] rfl
        have hD := hD.sub (ws' := [(qm, .inr (5, [.int (nI 1), .int (nI n), .int (nI ni), .int (nI no), .ref mk, .ref m0, .ref m1, .ref mi, .ref mo, .ref ml, .ref mf, .ref ma, .int (nI cl), .ref mfd, .ref mts, .int (nI tc), .ref mg, .ref mb])), (mk, .inl (cI, 100, .inl kd))]) [1, 0] (by decide) rfl
        generalize H1_9 = H at hP hS ⊢
        have hP : va_P D vwCl [(qm, .inr (5, [.int (nI 1), .int (nI n), .int (nI ni), .int (nI no), .ref mk, .ref m0, .ref m1, .ref mi, .ref mo, .ref ml, .ref mf, .ref ma, .int (nI cl), .ref mfd, .ref mts, .int (nI tc), .ref mg, .ref mb])), (mk, .inl (cI, 100, .inl kd))] H := hP
        have hD : va_D A [(qm, .inr (5, [.int (nI 1), .int (nI n), .int (nI ni), .int (nI no), .ref mk, .ref m0, .ref m1, .ref mi, .ref mo, .ref ml, .ref mf, .ref ma, .int (nI cl), .ref mfd, .ref mts, .int (nI tc), .ref mg, .ref mb])), (mk, .inl (cI, 100, .inl kd))] := hD
        refine lv_if_eq (tgt := 62) hx hb dX5_classOf_57 (by decide) (fun c_57 => ?_) (fun c_57 => ?_)
        · skip
          rw [zc_if0] at c_57
          exact absurd (by decide) c_57
        · skip
          rw [zc_if0] at c_57
          have c_57 := Classical.not_not.mp c_57
          refine lv_iconst (v := (nI 0)) hx hb dX5_classOf_60 (by decide) ?_
          exact W.iret (v := (nI 0)) hx hb hr (fun t_9 ht_9 hW_9 => ⟨⟨(nI 0), (), rfl, rfl, ⟨by rw [ht_9]; exact hP, hD⟩⟩, hS.F ht_9⟩) hS.2.2 dX5_classOf_61
      · skip
        exact absurd (by decide) c_37
    · skip
      refine lv_iload_n hx hb dX5_classOf_13 rfl (lv_at hl 2 rfl) ?_
      refine lv_iconst (v := (nI 2)) hx hb dX5_classOf_14 (by decide) ?_
      refine lv_icmp_ge (tgt := 31) hx hb dX5_classOf_15 (by decide) (fun c_15 => ?_) (fun c_15 => ?_)
      · skip
        refine lv_iconst (v := (nI 0)) hx hb dX5_classOf_31 (by decide) ?_
        refine lv_istore (lv' := [(4, .int (nI 0)), (0, .ref qm), (1, .int net), (2, .int pin), (3, .int v)]) hx hb dX5_classOf_32 hl (by decide) rfl (fun ls hl => ?_)
        refine lv_aload_n hx hb dX5_classOf_34 rfl (lv_at hl 1 rfl) ?_
        refine lv_iload hx hb dX5_classOf_35 (lv_at hl 0 rfl) ?_
        refine lv_if_eq (tgt := 49) hx hb dX5_classOf_37 (by decide) (fun c_37 => ?_) (fun c_37 => ?_)
        · skip
          refine lv_iconst (v := (nI 1)) hx hb dX5_classOf_49 (by decide) ?_
          refine lv_goto (tgt := 54) hx hb dX5_classOf_50 (by decide) ?_
          have hPc := hP.sub (ws' := [(qm, .inr (5, [.int cd, .int (nI n), .int (nI ni), .int (nI no), .ref mk, .ref m0, .ref m1, .ref mi, .ref mo, .ref ml, .ref mf, .ref ma, .int (nI cl), .ref mfd, .ref mts, .int (nI tc), .ref mg, .ref mb]))]) [0] rfl
          have hDc := hD.sub (ws' := [(qm, .inr (5, [.int cd, .int (nI n), .int (nI ni), .int (nI no), .ref mk, .ref m0, .ref m1, .ref mi, .ref mo, .ref ml, .ref mf, .ref ma, .int (nI cl), .ref mfd, .ref mts, .int (nI tc), .ref mg, .ref mb]))]) [0] (by decide) rfl
          have hFc := va_free (wc := [(qm, .inr (5, [.int cd, .int (nI n), .int (nI ni), .int (nI no), .ref mk, .ref m0, .ref m1, .ref mi, .ref mo, .ref ml, .ref mf, .ref ma, .int (nI cl), .ref mfd, .ref mts, .int (nI tc), .ref mg, .ref mb]))]) hD hS hA [0] rfl
          refine va_calli (va_runV (As := [.int (nI 1)]) (rest := []) ⟨hx, hb, hml, hown, hts⟩ (c_X5_refuses l D cI cJ cZ qm mk m0 m1 mi mo ml mf ma mfd mts mg mb cd n ni no cl tc 1 s.heap.size _ rfl (by omega)) (cwV 1 hts gX5_classOf_X5_refuses rfl rfl rfl (by decide +kernel) ⟨Nat.le_of_ble_eq_true rfl, Nat.le_of_ble_eq_true rfl⟩) ⟨PW.blind, va_recv hK hPc (ci := 5) (q0 := 0) rfl rfl, fun U hU hW => ⟨rfl, PW.to hPc hK hNB hDc hU hW⟩⟩ rfl rfl hl.1 rfl (lv_room (Nat.le_of_ble_eq_true rfl)) dX5_classOf_54 ⟨Nat.le_of_ble_eq_true rfl, Nat.le_of_ble_eq_true rfl⟩) hS (fun q _ h => hFc q h) hFc (fun r_4 u_9 t_9 H1_9 locs ht_9 hvm_9 hw_9 hB_9 hz1_9 hk1_9 hS => ?_)
          obtain ⟨hP1_9, hD1_9⟩ := hB_9
          rw [ht_9] at hP1_9
          obtain rfl := hw_9
          obtain ⟨hP, hD⟩ := va_join (wr := [(mk, .inl (cI, 100, .inl kd))]) (w1 := [(qm, .inr (5, [.int (nI 1), .int (nI n), .int (nI ni), .int (nI no), .ref mk, .ref m0, .ref m1, .ref mi, .ref mo, .ref ml, .ref mf, .ref ma, .int (nI cl), .ref mfd, .ref mts, .int (nI tc), .ref mg, .ref mb]))]) hP hD [0] [1] rfl rfl (by decide) (by decide) hk1_9 hFc hP1_9 hD1_9
          have hP := hP.sub (ws' := [(qm, .inr (5, [.int (nI 1), .int (nI n), .int (nI ni), .int (nI no), .ref mk, .ref m0, .ref m1, .ref mi, .ref mo, .ref ml, .ref mf, .ref ma, .int (nI cl), .ref mfd, .ref mts, .int (nI tc), .ref mg, .ref mb])), (mk, .inl (cI, 100, .inl kd))]) [1, 0] rfl
          have hD := hD.sub (ws' := [(qm, .inr (5, [.int (nI 1), .int (nI n), .int (nI ni), .int (nI no), .ref mk, .ref m0, .ref m1, .ref mi, .ref mo, .ref ml, .ref mf, .ref ma, .int (nI cl), .ref mfd, .ref mts, .int (nI tc), .ref mg, .ref mb])), (mk, .inl (cI, 100, .inl kd))]) [1, 0] (by decide) rfl
          generalize H1_9 = H at hP hS ⊢
          have hP : va_P D vwCl [(qm, .inr (5, [.int (nI 1), .int (nI n), .int (nI ni), .int (nI no), .ref mk, .ref m0, .ref m1, .ref mi, .ref mo, .ref ml, .ref mf, .ref ma, .int (nI cl), .ref mfd, .ref mts, .int (nI tc), .ref mg, .ref mb])), (mk, .inl (cI, 100, .inl kd))] H := hP
          have hD : va_D A [(qm, .inr (5, [.int (nI 1), .int (nI n), .int (nI ni), .int (nI no), .ref mk, .ref m0, .ref m1, .ref mi, .ref mo, .ref ml, .ref mf, .ref ma, .int (nI cl), .ref mfd, .ref mts, .int (nI tc), .ref mg, .ref mb])), (mk, .inl (cI, 100, .inl kd))] := hD
          refine lv_if_eq (tgt := 62) hx hb dX5_classOf_57 (by decide) (fun c_57 => ?_) (fun c_57 => ?_)
          · skip
            rw [zc_if0] at c_57
            exact absurd (by decide) c_57
          · skip
            rw [zc_if0] at c_57
            have c_57 := Classical.not_not.mp c_57
            refine lv_iconst (v := (nI 0)) hx hb dX5_classOf_60 (by decide) ?_
            exact W.iret (v := (nI 0)) hx hb hr (fun t_9 ht_9 hW_9 => ⟨⟨(nI 0), (), rfl, rfl, ⟨by rw [ht_9]; exact hP, hD⟩⟩, hS.F ht_9⟩) hS.2.2 dX5_classOf_61
        · skip
          exact absurd (by decide) c_37
      · skip
        refine lv_iload_n hx hb dX5_classOf_18 rfl (lv_at hl 3 rfl) ?_
        refine lv_if_eq (tgt := 27) hx hb dX5_classOf_19 (by decide) (fun c_19 => ?_) (fun c_19 => ?_)
        · skip
          refine lv_iconst (v := (nI 1)) hx hb dX5_classOf_27 (by decide) ?_
          refine lv_goto (tgt := 32) hx hb dX5_classOf_28 (by decide) ?_
          refine lv_istore (lv' := [(4, .int (nI 1)), (0, .ref qm), (1, .int net), (2, .int pin), (3, .int v)]) hx hb dX5_classOf_32 hl (by decide) rfl (fun ls hl => ?_)
          refine lv_aload_n hx hb dX5_classOf_34 rfl (lv_at hl 1 rfl) ?_
          refine lv_iload hx hb dX5_classOf_35 (lv_at hl 0 rfl) ?_
          refine lv_if_eq (tgt := 49) hx hb dX5_classOf_37 (by decide) (fun c_37 => ?_) (fun c_37 => ?_)
          · skip
            exact absurd c_37 (by decide)
          · skip
            refine lv_iload_n hx hb dX5_classOf_40 rfl (lv_at hl 3 rfl) ?_
            refine lv_aload_n hx hb dX5_classOf_41 rfl (lv_at hl 1 rfl) ?_
            refine lv_iload_n hx hb dX5_classOf_42 rfl (lv_at hl 2 rfl) ?_
            obtain ⟨j9, hj9, ej9⟩ := isN_of (by omega) c_5
            refine zz_i (z := (nI j9)) ej9 ?_
            have hPc := hP.sub (ws' := [(qm, .inr (5, [.int cd, .int (nI n), .int (nI ni), .int (nI no), .ref mk, .ref m0, .ref m1, .ref mi, .ref mo, .ref ml, .ref mf, .ref ma, .int (nI cl), .ref mfd, .ref mts, .int (nI tc), .ref mg, .ref mb])), (mk, .inl (cI, 100, .inl kd))]) [0, 1] rfl
            refine vp_callSi (va_runV (As := [.int (nI j9)]) (rest := [.int pin, .ref qm]) ⟨hx, hb, hml, hown, hts⟩ (c_X5_pinsOf l D cI cJ cZ qm mk m0 m1 mi mo ml mf ma mfd mts mg mb cd n ni no cl tc kd j9 (by omega) (hkd j9 hj9)) (cwV 1 hts gX5_classOf_X5_pinsOf rfl rfl rfl (by decide +kernel) ⟨Nat.le_of_ble_eq_true rfl, Nat.le_of_ble_eq_true rfl⟩) ⟨PR.blind, va_recv hK hPc (ci := 5) (q0 := 0) rfl rfl, fun U hU hW => ⟨rfl, PR.to hPc hK hNB hU hW⟩⟩ rfl rfl hl.1 rfl (lv_room (Nat.le_of_ble_eq_true rfl)) dX5_classOf_43 ⟨Nat.le_of_ble_eq_true rfl, Nat.le_of_ble_eq_true rfl⟩).run (fun r_5 hrr_5 => ?_)
            subst hrr_5
            refine lv_icmp_lt (tgt := 53) hx hb dX5_classOf_46 (by decide) (fun c_46 => ?_) (fun c_46 => ?_)
            · skip
              exact absurd (clOk_of hj9 ej9 c_10 c_46 (by first | exact Or.inl c_19 | exact Or.inr c_24)) h
            · skip
              refine lv_iconst (v := (nI 1)) hx hb dX5_classOf_49 (by decide) ?_
              refine lv_goto (tgt := 54) hx hb dX5_classOf_50 (by decide) ?_
              have hPc := hP.sub (ws' := [(qm, .inr (5, [.int cd, .int (nI n), .int (nI ni), .int (nI no), .ref mk, .ref m0, .ref m1, .ref mi, .ref mo, .ref ml, .ref mf, .ref ma, .int (nI cl), .ref mfd, .ref mts, .int (nI tc), .ref mg, .ref mb]))]) [0] rfl
              have hDc := hD.sub (ws' := [(qm, .inr (5, [.int cd, .int (nI n), .int (nI ni), .int (nI no), .ref mk, .ref m0, .ref m1, .ref mi, .ref mo, .ref ml, .ref mf, .ref ma, .int (nI cl), .ref mfd, .ref mts, .int (nI tc), .ref mg, .ref mb]))]) [0] (by decide) rfl
              have hFc := va_free (wc := [(qm, .inr (5, [.int cd, .int (nI n), .int (nI ni), .int (nI no), .ref mk, .ref m0, .ref m1, .ref mi, .ref mo, .ref ml, .ref mf, .ref ma, .int (nI cl), .ref mfd, .ref mts, .int (nI tc), .ref mg, .ref mb]))]) hD hS hA [0] rfl
              refine va_calli (va_runV (As := [.int (nI 1)]) (rest := []) ⟨hx, hb, hml, hown, hts⟩ (c_X5_refuses l D cI cJ cZ qm mk m0 m1 mi mo ml mf ma mfd mts mg mb cd n ni no cl tc 1 s.heap.size _ rfl (by omega)) (cwV 1 hts gX5_classOf_X5_refuses rfl rfl rfl (by decide +kernel) ⟨Nat.le_of_ble_eq_true rfl, Nat.le_of_ble_eq_true rfl⟩) ⟨PW.blind, va_recv hK hPc (ci := 5) (q0 := 0) rfl rfl, fun U hU hW => ⟨rfl, PW.to hPc hK hNB hDc hU hW⟩⟩ rfl rfl hl.1 rfl (lv_room (Nat.le_of_ble_eq_true rfl)) dX5_classOf_54 ⟨Nat.le_of_ble_eq_true rfl, Nat.le_of_ble_eq_true rfl⟩) hS (fun q _ h => hFc q h) hFc (fun r_6 u_9 t_9 H1_9 locs ht_9 hvm_9 hw_9 hB_9 hz1_9 hk1_9 hS => ?_)
              obtain ⟨hP1_9, hD1_9⟩ := hB_9
              rw [ht_9] at hP1_9
              obtain rfl := hw_9
              obtain ⟨hP, hD⟩ := va_join (wr := [(mk, .inl (cI, 100, .inl kd))]) (w1 := [(qm, .inr (5, [.int (nI 1), .int (nI n), .int (nI ni), .int (nI no), .ref mk, .ref m0, .ref m1, .ref mi, .ref mo, .ref ml, .ref mf, .ref ma, .int (nI cl), .ref mfd, .ref mts, .int (nI tc), .ref mg, .ref mb]))]) hP hD [0] [1] rfl rfl (by decide) (by decide) hk1_9 hFc hP1_9 hD1_9
              have hP := hP.sub (ws' := [(qm, .inr (5, [.int (nI 1), .int (nI n), .int (nI ni), .int (nI no), .ref mk, .ref m0, .ref m1, .ref mi, .ref mo, .ref ml, .ref mf, .ref ma, .int (nI cl), .ref mfd, .ref mts, .int (nI tc), .ref mg, .ref mb])), (mk, .inl (cI, 100, .inl kd))]) [1, 0] rfl
              have hD := hD.sub (ws' := [(qm, .inr (5, [.int (nI 1), .int (nI n), .int (nI ni), .int (nI no), .ref mk, .ref m0, .ref m1, .ref mi, .ref mo, .ref ml, .ref mf, .ref ma, .int (nI cl), .ref mfd, .ref mts, .int (nI tc), .ref mg, .ref mb])), (mk, .inl (cI, 100, .inl kd))]) [1, 0] (by decide) rfl
              generalize H1_9 = H at hP hS ⊢
              have hP : va_P D vwCl [(qm, .inr (5, [.int (nI 1), .int (nI n), .int (nI ni), .int (nI no), .ref mk, .ref m0, .ref m1, .ref mi, .ref mo, .ref ml, .ref mf, .ref ma, .int (nI cl), .ref mfd, .ref mts, .int (nI tc), .ref mg, .ref mb])), (mk, .inl (cI, 100, .inl kd))] H := hP
              have hD : va_D A [(qm, .inr (5, [.int (nI 1), .int (nI n), .int (nI ni), .int (nI no), .ref mk, .ref m0, .ref m1, .ref mi, .ref mo, .ref ml, .ref mf, .ref ma, .int (nI cl), .ref mfd, .ref mts, .int (nI tc), .ref mg, .ref mb])), (mk, .inl (cI, 100, .inl kd))] := hD
              refine lv_if_eq (tgt := 62) hx hb dX5_classOf_57 (by decide) (fun c_57 => ?_) (fun c_57 => ?_)
              · skip
                rw [zc_if0] at c_57
                exact absurd (by decide) c_57
              · skip
                rw [zc_if0] at c_57
                have c_57 := Classical.not_not.mp c_57
                refine lv_iconst (v := (nI 0)) hx hb dX5_classOf_60 (by decide) ?_
                exact W.iret (v := (nI 0)) hx hb hr (fun t_9 ht_9 hW_9 => ⟨⟨(nI 0), (), rfl, rfl, ⟨by rw [ht_9]; exact hP, hD⟩⟩, hS.F ht_9⟩) hS.2.2 dX5_classOf_61
        · skip
          refine lv_iload_n hx hb dX5_classOf_22 rfl (lv_at hl 3 rfl) ?_
          refine lv_iconst (v := (nI 1)) hx hb dX5_classOf_23 (by decide) ?_
          refine lv_icmp_ne (tgt := 31) hx hb dX5_classOf_24 (by decide) (fun c_24 => ?_) (fun c_24 => ?_)
          · skip
            refine lv_iconst (v := (nI 0)) hx hb dX5_classOf_31 (by decide) ?_
            refine lv_istore (lv' := [(4, .int (nI 0)), (0, .ref qm), (1, .int net), (2, .int pin), (3, .int v)]) hx hb dX5_classOf_32 hl (by decide) rfl (fun ls hl => ?_)
            refine lv_aload_n hx hb dX5_classOf_34 rfl (lv_at hl 1 rfl) ?_
            refine lv_iload hx hb dX5_classOf_35 (lv_at hl 0 rfl) ?_
            refine lv_if_eq (tgt := 49) hx hb dX5_classOf_37 (by decide) (fun c_37 => ?_) (fun c_37 => ?_)
            · skip
              refine lv_iconst (v := (nI 1)) hx hb dX5_classOf_49 (by decide) ?_
              refine lv_goto (tgt := 54) hx hb dX5_classOf_50 (by decide) ?_
              have hPc := hP.sub (ws' := [(qm, .inr (5, [.int cd, .int (nI n), .int (nI ni), .int (nI no), .ref mk, .ref m0, .ref m1, .ref mi, .ref mo, .ref ml, .ref mf, .ref ma, .int (nI cl), .ref mfd, .ref mts, .int (nI tc), .ref mg, .ref mb]))]) [0] rfl
              have hDc := hD.sub (ws' := [(qm, .inr (5, [.int cd, .int (nI n), .int (nI ni), .int (nI no), .ref mk, .ref m0, .ref m1, .ref mi, .ref mo, .ref ml, .ref mf, .ref ma, .int (nI cl), .ref mfd, .ref mts, .int (nI tc), .ref mg, .ref mb]))]) [0] (by decide) rfl
              have hFc := va_free (wc := [(qm, .inr (5, [.int cd, .int (nI n), .int (nI ni), .int (nI no), .ref mk, .ref m0, .ref m1, .ref mi, .ref mo, .ref ml, .ref mf, .ref ma, .int (nI cl), .ref mfd, .ref mts, .int (nI tc), .ref mg, .ref mb]))]) hD hS hA [0] rfl
              refine va_calli (va_runV (As := [.int (nI 1)]) (rest := []) ⟨hx, hb, hml, hown, hts⟩ (c_X5_refuses l D cI cJ cZ qm mk m0 m1 mi mo ml mf ma mfd mts mg mb cd n ni no cl tc 1 s.heap.size _ rfl (by omega)) (cwV 1 hts gX5_classOf_X5_refuses rfl rfl rfl (by decide +kernel) ⟨Nat.le_of_ble_eq_true rfl, Nat.le_of_ble_eq_true rfl⟩) ⟨PW.blind, va_recv hK hPc (ci := 5) (q0 := 0) rfl rfl, fun U hU hW => ⟨rfl, PW.to hPc hK hNB hDc hU hW⟩⟩ rfl rfl hl.1 rfl (lv_room (Nat.le_of_ble_eq_true rfl)) dX5_classOf_54 ⟨Nat.le_of_ble_eq_true rfl, Nat.le_of_ble_eq_true rfl⟩) hS (fun q _ h => hFc q h) hFc (fun r_7 u_9 t_9 H1_9 locs ht_9 hvm_9 hw_9 hB_9 hz1_9 hk1_9 hS => ?_)
              obtain ⟨hP1_9, hD1_9⟩ := hB_9
              rw [ht_9] at hP1_9
              obtain rfl := hw_9
              obtain ⟨hP, hD⟩ := va_join (wr := [(mk, .inl (cI, 100, .inl kd))]) (w1 := [(qm, .inr (5, [.int (nI 1), .int (nI n), .int (nI ni), .int (nI no), .ref mk, .ref m0, .ref m1, .ref mi, .ref mo, .ref ml, .ref mf, .ref ma, .int (nI cl), .ref mfd, .ref mts, .int (nI tc), .ref mg, .ref mb]))]) hP hD [0] [1] rfl rfl (by decide) (by decide) hk1_9 hFc hP1_9 hD1_9
              have hP := hP.sub (ws' := [(qm, .inr (5, [.int (nI 1), .int (nI n), .int (nI ni), .int (nI no), .ref mk, .ref m0, .ref m1, .ref mi, .ref mo, .ref ml, .ref mf, .ref ma, .int (nI cl), .ref mfd, .ref mts, .int (nI tc), .ref mg, .ref mb])), (mk, .inl (cI, 100, .inl kd))]) [1, 0] rfl
              have hD := hD.sub (ws' := [(qm, .inr (5, [.int (nI 1), .int (nI n), .int (nI ni), .int (nI no), .ref mk, .ref m0, .ref m1, .ref mi, .ref mo, .ref ml, .ref mf, .ref ma, .int (nI cl), .ref mfd, .ref mts, .int (nI tc), .ref mg, .ref mb])), (mk, .inl (cI, 100, .inl kd))]) [1, 0] (by decide) rfl
              generalize H1_9 = H at hP hS ⊢
              have hP : va_P D vwCl [(qm, .inr (5, [.int (nI 1), .int (nI n), .int (nI ni), .int (nI no), .ref mk, .ref m0, .ref m1, .ref mi, .ref mo, .ref ml, .ref mf, .ref ma, .int (nI cl), .ref mfd, .ref mts, .int (nI tc), .ref mg, .ref mb])), (mk, .inl (cI, 100, .inl kd))] H := hP
              have hD : va_D A [(qm, .inr (5, [.int (nI 1), .int (nI n), .int (nI ni), .int (nI no), .ref mk, .ref m0, .ref m1, .ref mi, .ref mo, .ref ml, .ref mf, .ref ma, .int (nI cl), .ref mfd, .ref mts, .int (nI tc), .ref mg, .ref mb])), (mk, .inl (cI, 100, .inl kd))] := hD
              refine lv_if_eq (tgt := 62) hx hb dX5_classOf_57 (by decide) (fun c_57 => ?_) (fun c_57 => ?_)
              · skip
                rw [zc_if0] at c_57
                exact absurd (by decide) c_57
              · skip
                rw [zc_if0] at c_57
                have c_57 := Classical.not_not.mp c_57
                refine lv_iconst (v := (nI 0)) hx hb dX5_classOf_60 (by decide) ?_
                exact W.iret (v := (nI 0)) hx hb hr (fun t_9 ht_9 hW_9 => ⟨⟨(nI 0), (), rfl, rfl, ⟨by rw [ht_9]; exact hP, hD⟩⟩, hS.F ht_9⟩) hS.2.2 dX5_classOf_61
            · skip
              exact absurd (by decide) c_37
          · skip
            refine lv_iconst (v := (nI 1)) hx hb dX5_classOf_27 (by decide) ?_
            refine lv_goto (tgt := 32) hx hb dX5_classOf_28 (by decide) ?_
            refine lv_istore (lv' := [(4, .int (nI 1)), (0, .ref qm), (1, .int net), (2, .int pin), (3, .int v)]) hx hb dX5_classOf_32 hl (by decide) rfl (fun ls hl => ?_)
            refine lv_aload_n hx hb dX5_classOf_34 rfl (lv_at hl 1 rfl) ?_
            refine lv_iload hx hb dX5_classOf_35 (lv_at hl 0 rfl) ?_
            refine lv_if_eq (tgt := 49) hx hb dX5_classOf_37 (by decide) (fun c_37 => ?_) (fun c_37 => ?_)
            · skip
              exact absurd c_37 (by decide)
            · skip
              refine lv_iload_n hx hb dX5_classOf_40 rfl (lv_at hl 3 rfl) ?_
              refine lv_aload_n hx hb dX5_classOf_41 rfl (lv_at hl 1 rfl) ?_
              refine lv_iload_n hx hb dX5_classOf_42 rfl (lv_at hl 2 rfl) ?_
              obtain ⟨j9, hj9, ej9⟩ := isN_of (by omega) c_5
              refine zz_i (z := (nI j9)) ej9 ?_
              have hPc := hP.sub (ws' := [(qm, .inr (5, [.int cd, .int (nI n), .int (nI ni), .int (nI no), .ref mk, .ref m0, .ref m1, .ref mi, .ref mo, .ref ml, .ref mf, .ref ma, .int (nI cl), .ref mfd, .ref mts, .int (nI tc), .ref mg, .ref mb])), (mk, .inl (cI, 100, .inl kd))]) [0, 1] rfl
              refine vp_callSi (va_runV (As := [.int (nI j9)]) (rest := [.int pin, .ref qm]) ⟨hx, hb, hml, hown, hts⟩ (c_X5_pinsOf l D cI cJ cZ qm mk m0 m1 mi mo ml mf ma mfd mts mg mb cd n ni no cl tc kd j9 (by omega) (hkd j9 hj9)) (cwV 1 hts gX5_classOf_X5_pinsOf rfl rfl rfl (by decide +kernel) ⟨Nat.le_of_ble_eq_true rfl, Nat.le_of_ble_eq_true rfl⟩) ⟨PR.blind, va_recv hK hPc (ci := 5) (q0 := 0) rfl rfl, fun U hU hW => ⟨rfl, PR.to hPc hK hNB hU hW⟩⟩ rfl rfl hl.1 rfl (lv_room (Nat.le_of_ble_eq_true rfl)) dX5_classOf_43 ⟨Nat.le_of_ble_eq_true rfl, Nat.le_of_ble_eq_true rfl⟩).run (fun r_8 hrr_8 => ?_)
              subst hrr_8
              refine lv_icmp_lt (tgt := 53) hx hb dX5_classOf_46 (by decide) (fun c_46 => ?_) (fun c_46 => ?_)
              · skip
                exact absurd (clOk_of hj9 ej9 c_10 c_46 (by first | exact Or.inl c_19 | exact Or.inr c_24)) h
              · skip
                refine lv_iconst (v := (nI 1)) hx hb dX5_classOf_49 (by decide) ?_
                refine lv_goto (tgt := 54) hx hb dX5_classOf_50 (by decide) ?_
                have hPc := hP.sub (ws' := [(qm, .inr (5, [.int cd, .int (nI n), .int (nI ni), .int (nI no), .ref mk, .ref m0, .ref m1, .ref mi, .ref mo, .ref ml, .ref mf, .ref ma, .int (nI cl), .ref mfd, .ref mts, .int (nI tc), .ref mg, .ref mb]))]) [0] rfl
                have hDc := hD.sub (ws' := [(qm, .inr (5, [.int cd, .int (nI n), .int (nI ni), .int (nI no), .ref mk, .ref m0, .ref m1, .ref mi, .ref mo, .ref ml, .ref mf, .ref ma, .int (nI cl), .ref mfd, .ref mts, .int (nI tc), .ref mg, .ref mb]))]) [0] (by decide) rfl
                have hFc := va_free (wc := [(qm, .inr (5, [.int cd, .int (nI n), .int (nI ni), .int (nI no), .ref mk, .ref m0, .ref m1, .ref mi, .ref mo, .ref ml, .ref mf, .ref ma, .int (nI cl), .ref mfd, .ref mts, .int (nI tc), .ref mg, .ref mb]))]) hD hS hA [0] rfl
                refine va_calli (va_runV (As := [.int (nI 1)]) (rest := []) ⟨hx, hb, hml, hown, hts⟩ (c_X5_refuses l D cI cJ cZ qm mk m0 m1 mi mo ml mf ma mfd mts mg mb cd n ni no cl tc 1 s.heap.size _ rfl (by omega)) (cwV 1 hts gX5_classOf_X5_refuses rfl rfl rfl (by decide +kernel) ⟨Nat.le_of_ble_eq_true rfl, Nat.le_of_ble_eq_true rfl⟩) ⟨PW.blind, va_recv hK hPc (ci := 5) (q0 := 0) rfl rfl, fun U hU hW => ⟨rfl, PW.to hPc hK hNB hDc hU hW⟩⟩ rfl rfl hl.1 rfl (lv_room (Nat.le_of_ble_eq_true rfl)) dX5_classOf_54 ⟨Nat.le_of_ble_eq_true rfl, Nat.le_of_ble_eq_true rfl⟩) hS (fun q _ h => hFc q h) hFc (fun r_9 u_9 t_9 H1_9 locs ht_9 hvm_9 hw_9 hB_9 hz1_9 hk1_9 hS => ?_)
                obtain ⟨hP1_9, hD1_9⟩ := hB_9
                rw [ht_9] at hP1_9
                obtain rfl := hw_9
                obtain ⟨hP, hD⟩ := va_join (wr := [(mk, .inl (cI, 100, .inl kd))]) (w1 := [(qm, .inr (5, [.int (nI 1), .int (nI n), .int (nI ni), .int (nI no), .ref mk, .ref m0, .ref m1, .ref mi, .ref mo, .ref ml, .ref mf, .ref ma, .int (nI cl), .ref mfd, .ref mts, .int (nI tc), .ref mg, .ref mb]))]) hP hD [0] [1] rfl rfl (by decide) (by decide) hk1_9 hFc hP1_9 hD1_9
                have hP := hP.sub (ws' := [(qm, .inr (5, [.int (nI 1), .int (nI n), .int (nI ni), .int (nI no), .ref mk, .ref m0, .ref m1, .ref mi, .ref mo, .ref ml, .ref mf, .ref ma, .int (nI cl), .ref mfd, .ref mts, .int (nI tc), .ref mg, .ref mb])), (mk, .inl (cI, 100, .inl kd))]) [1, 0] rfl
                have hD := hD.sub (ws' := [(qm, .inr (5, [.int (nI 1), .int (nI n), .int (nI ni), .int (nI no), .ref mk, .ref m0, .ref m1, .ref mi, .ref mo, .ref ml, .ref mf, .ref ma, .int (nI cl), .ref mfd, .ref mts, .int (nI tc), .ref mg, .ref mb])), (mk, .inl (cI, 100, .inl kd))]) [1, 0] (by decide) rfl
                generalize H1_9 = H at hP hS ⊢
                have hP : va_P D vwCl [(qm, .inr (5, [.int (nI 1), .int (nI n), .int (nI ni), .int (nI no), .ref mk, .ref m0, .ref m1, .ref mi, .ref mo, .ref ml, .ref mf, .ref ma, .int (nI cl), .ref mfd, .ref mts, .int (nI tc), .ref mg, .ref mb])), (mk, .inl (cI, 100, .inl kd))] H := hP
                have hD : va_D A [(qm, .inr (5, [.int (nI 1), .int (nI n), .int (nI ni), .int (nI no), .ref mk, .ref m0, .ref m1, .ref mi, .ref mo, .ref ml, .ref mf, .ref ma, .int (nI cl), .ref mfd, .ref mts, .int (nI tc), .ref mg, .ref mb])), (mk, .inl (cI, 100, .inl kd))] := hD
                refine lv_if_eq (tgt := 62) hx hb dX5_classOf_57 (by decide) (fun c_57 => ?_) (fun c_57 => ?_)
                · skip
                  rw [zc_if0] at c_57
                  exact absurd (by decide) c_57
                · skip
                  rw [zc_if0] at c_57
                  have c_57 := Classical.not_not.mp c_57
                  refine lv_iconst (v := (nI 0)) hx hb dX5_classOf_60 (by decide) ?_
                  exact W.iret (v := (nI 0)) hx hb hr (fun t_9 ht_9 hW_9 => ⟨⟨(nI 0), (), rfl, rfl, ⟨by rw [ht_9]; exact hP, hD⟩⟩, hS.F ht_9⟩) hS.2.2 dX5_classOf_61

set_option maxHeartbeats 4000000 in
set_option maxRecDepth 100000 in
theorem c_X5_classOf_ok (l : Launch) (D : va_G) (cI cJ cZ : ClassId) (qm : Nat) (mk : Nat) (m0 : Nat) (m1 : Nat) (mi : Nat) (mo : Nat) (ml : Nat) (mf : Nat) (ma : Nat) (mfd : Nat) (mts : Nat) (mg : Nat) (mb : Nat) (cd : Int32) (n : Nat) (ni : Nat) (no : Nat) (cl : Nat) (tc : Nat) (kd : Nat → Int32) (ca : Nat → Int32) (j : Nat) (p1 : Nat) (v : Nat) (sz : Nat) (A : Nat → Prop) (hAe : A = va_A [(qm, .inr (5, [.int cd, .int (nI n), .int (nI ni), .int (nI no), .ref mk, .ref m0, .ref m1, .ref mi, .ref mo, .ref ml, .ref mf, .ref ma, .int (nI cl), .ref mfd, .ref mts, .int (nI tc), .ref mg, .ref mb])), (mk, .inl (cI, 100, .inl kd)), (ma, .inl (cI, 600, .inl ca))] sz) (hn : n ≤ 100) (hkd : KD n kd) (hj : j < n) (hp1 : p1 < pinsN (kd j) + 1) (hv : v < 2) : Met l yX5_classOf wsX5_classOf ({ frames := 1, cells := 0, slots := 0, locals := 22 } : Room) (va_Pc [.ref qm, .int (nI j), .int (nI p1 - nI 1), .int (nI v)] (PW D cI cJ cZ [(qm, .inr (5, [.int cd, .int (nI n), .int (nI ni), .int (nI no), .ref mk, .ref m0, .ref m1, .ref mi, .ref mo, .ref ml, .ref mf, .ref ma, .int (nI cl), .ref mfd, .ref mts, .int (nI tc), .ref mg, .ref mb])), (mk, .inl (cI, 100, .inl kd)), (ma, .inl (cI, 600, .inl ca))] sz)) (va_Qi (fun (r_9 : Int32) (_u9 : Unit) => r_9 = (ca (j * 6 + p1 * 2 + v))) (fun (_u9 : Unit) t => PQ D A [(qm, .inr (5, [.int (nI 0), .int (nI n), .int (nI ni), .int (nI no), .ref mk, .ref m0, .ref m1, .ref mi, .ref mo, .ref ml, .ref mf, .ref ma, .int (nI cl), .ref mfd, .ref mts, .int (nI tc), .ref mg, .ref mb])), (mk, .inl (cI, 100, .inl kd)), (ma, .inl (cI, 600, .inl ca))] t) A) 0 0 A := by
  refine Met.ofW (cc := cX5_classOf) (maxL := 5) (ret := (some .int)) (by decide) rfl ?_
  intro p e s m args below meth c s₁ B hml hv
  obtain ⟨rfl, hsz, ⟨hP, hK, hNB⟩, hD0⟩ := hv
  have hx := B.exec
  have hb := B.bytes
  have hr := B.returns
  have hts := atoms_spec (ws := wsX5_classOf) B.pre
  have hown : s.vm.findClass RX5 = some m.cls := findClass_of_methodNamed B.named
  have hlocks := B.notSynchronized
  have hiX5 : ∀ w ∈ u_ws RX5 TX5 18, w ∈ wsX5_classOf := by decide +kernel
  subst hsz
  have hD : va_D A [(qm, .inr (5, [.int cd, .int (nI n), .int (nI ni), .int (nI no), .ref mk, .ref m0, .ref m1, .ref mi, .ref mo, .ref ml, .ref mf, .ref ma, .int (nI cl), .ref mfd, .ref mts, .int (nI tc), .ref mg, .ref mb])), (mk, .inl (cI, 100, .inl kd)), (ma, .inl (cI, 600, .inl ca))] := by rw [hAe]; exact hD0.self
  have hA : ∀ q : Nat, s.heap.size ≤ q → A q := fun q h => by rw [hAe]; exact Or.inr h
  have hS : va_S A s.heap s.heap [] := va_S.rf
  have hl := lv_entry ([.ref qm, .int (nI j), .int (nI p1 - nI 1), .int (nI v)]) (n := 5) (Nat.le_of_ble_eq_true rfl)
  rw [lg_entry_eq]
  generalize (lg_sl ([.ref qm, .int (nI j), .int (nI p1 - nI 1), .int (nI v)]) ++ List.replicate (5 - (lg_sl ([.ref qm, .int (nI j), .int (nI p1 - nI 1), .int (nI v)])).length) Slot.unset).toArray = ls at hl ⊢
  have hl : lv_has ls 5 [(0, .ref qm), (1, .int (nI j)), (2, .int (nI p1 - nI 1)), (3, .int (nI v))] := hl
  have hp2 := pinsN_le (kd j)
  refine lv_aload_n hx hb dX5_classOf_0 rfl (lv_at hl 0 rfl) ?_
  refine lv_iload_n hx hb dX5_classOf_1 rfl (lv_at hl 1 rfl) ?_
  have hPc := hP.sub (ws' := [(qm, .inr (5, [.int cd, .int (nI n), .int (nI ni), .int (nI no), .ref mk, .ref m0, .ref m1, .ref mi, .ref mo, .ref ml, .ref mf, .ref ma, .int (nI cl), .ref mfd, .ref mts, .int (nI tc), .ref mg, .ref mb]))]) [0] rfl
  refine vp_callSi (va_runV (As := [.int (nI j)]) (rest := []) ⟨hx, hb, hml, hown, hts⟩ (c_X5_isNet l D cI cJ cZ qm mk m0 m1 mi mo ml mf ma mfd mts mg mb cd n ni no cl tc (nI j)) (cwV 1 hts gX5_classOf_X5_isNet rfl rfl rfl (by decide +kernel) ⟨Nat.le_of_ble_eq_true rfl, Nat.le_of_ble_eq_true rfl⟩) ⟨PR.blind, va_recv hK hPc (ci := 5) (q0 := 0) rfl rfl, fun U hU hW => ⟨rfl, PR.to hPc hK hNB hU hW⟩⟩ rfl rfl hl.1 rfl (lv_room (Nat.le_of_ble_eq_true rfl)) dX5_classOf_2 ⟨Nat.le_of_ble_eq_true rfl, Nat.le_of_ble_eq_true rfl⟩).run (fun r_1 hrr_1 => ?_)
  subst hrr_1
  refine lv_if_eq (tgt := 31) hx hb dX5_classOf_5 (by decide) (fun c_5 => ?_) (fun c_5 => ?_)
  · skip
    rw [zc_if0] at c_5
    exact absurd (isN_nI (by omega) hj) c_5
  · skip
    rw [zc_if0] at c_5
    have c_5 := Classical.not_not.mp c_5
    refine lv_iload_n hx hb dX5_classOf_8 rfl (lv_at hl 2 rfl) ?_
    refine lv_iconst (v := (-1)) hx hb dX5_classOf_9 (by decide) ?_
    refine lv_icmp_lt (tgt := 31) hx hb dX5_classOf_10 (by decide) (fun c_10 => ?_) (fun c_10 => ?_)
    · skip
      exact absurd c_10 (zs_pinl (by omega))
    · skip
      refine lv_iload_n hx hb dX5_classOf_13 rfl (lv_at hl 2 rfl) ?_
      refine lv_iconst (v := (nI 2)) hx hb dX5_classOf_14 (by decide) ?_
      refine lv_icmp_ge (tgt := 31) hx hb dX5_classOf_15 (by decide) (fun c_15 => ?_) (fun c_15 => ?_)
      · skip
        exact absurd c_15 (zs_pinh (by omega))
      · skip
        refine lv_iload_n hx hb dX5_classOf_18 rfl (lv_at hl 3 rfl) ?_
        refine lv_if_eq (tgt := 27) hx hb dX5_classOf_19 (by decide) (fun c_19 => ?_) (fun c_19 => ?_)
        · skip
          rw [zc_eq0 (by omega)] at c_19
          refine lv_iconst (v := (nI 1)) hx hb dX5_classOf_27 (by decide) ?_
          refine lv_goto (tgt := 32) hx hb dX5_classOf_28 (by decide) ?_
          refine lv_istore (lv' := [(4, .int (nI 1)), (0, .ref qm), (1, .int (nI j)), (2, .int (nI p1 - nI 1)), (3, .int (nI v))]) hx hb dX5_classOf_32 hl (by decide) rfl (fun ls hl => ?_)
          refine lv_aload_n hx hb dX5_classOf_34 rfl (lv_at hl 1 rfl) ?_
          refine lv_iload hx hb dX5_classOf_35 (lv_at hl 0 rfl) ?_
          refine lv_if_eq (tgt := 49) hx hb dX5_classOf_37 (by decide) (fun c_37 => ?_) (fun c_37 => ?_)
          · skip
            exact absurd c_37 (by decide)
          · skip
            refine lv_iload_n hx hb dX5_classOf_40 rfl (lv_at hl 3 rfl) ?_
            refine lv_aload_n hx hb dX5_classOf_41 rfl (lv_at hl 1 rfl) ?_
            refine lv_iload_n hx hb dX5_classOf_42 rfl (lv_at hl 2 rfl) ?_
            have hPc := hP.sub (ws' := [(qm, .inr (5, [.int cd, .int (nI n), .int (nI ni), .int (nI no), .ref mk, .ref m0, .ref m1, .ref mi, .ref mo, .ref ml, .ref mf, .ref ma, .int (nI cl), .ref mfd, .ref mts, .int (nI tc), .ref mg, .ref mb])), (mk, .inl (cI, 100, .inl kd))]) [0, 1] rfl
            refine vp_callSi (va_runV (As := [.int (nI j)]) (rest := [.int (nI p1 - nI 1), .ref qm]) ⟨hx, hb, hml, hown, hts⟩ (c_X5_pinsOf l D cI cJ cZ qm mk m0 m1 mi mo ml mf ma mfd mts mg mb cd n ni no cl tc kd j (by omega) (hkd j hj)) (cwV 1 hts gX5_classOf_X5_pinsOf rfl rfl rfl (by decide +kernel) ⟨Nat.le_of_ble_eq_true rfl, Nat.le_of_ble_eq_true rfl⟩) ⟨PR.blind, va_recv hK hPc (ci := 5) (q0 := 0) rfl rfl, fun U hU hW => ⟨rfl, PR.to hPc hK hNB hU hW⟩⟩ rfl rfl hl.1 rfl (lv_room (Nat.le_of_ble_eq_true rfl)) dX5_classOf_43 ⟨Nat.le_of_ble_eq_true rfl, Nat.le_of_ble_eq_true rfl⟩).run (fun r_2 hrr_2 => ?_)
            subst hrr_2
            refine lv_icmp_lt (tgt := 53) hx hb dX5_classOf_46 (by decide) (fun c_46 => ?_) (fun c_46 => ?_)
            · skip
              refine lv_iconst (v := (nI 0)) hx hb dX5_classOf_53 (by decide) ?_
              have hPc := hP.sub (ws' := [(qm, .inr (5, [.int cd, .int (nI n), .int (nI ni), .int (nI no), .ref mk, .ref m0, .ref m1, .ref mi, .ref mo, .ref ml, .ref mf, .ref ma, .int (nI cl), .ref mfd, .ref mts, .int (nI tc), .ref mg, .ref mb]))]) [0] rfl
              have hDc := hD.sub (ws' := [(qm, .inr (5, [.int cd, .int (nI n), .int (nI ni), .int (nI no), .ref mk, .ref m0, .ref m1, .ref mi, .ref mo, .ref ml, .ref mf, .ref ma, .int (nI cl), .ref mfd, .ref mts, .int (nI tc), .ref mg, .ref mb]))]) [0] (by decide) rfl
              have hFc := va_free (wc := [(qm, .inr (5, [.int cd, .int (nI n), .int (nI ni), .int (nI no), .ref mk, .ref m0, .ref m1, .ref mi, .ref mo, .ref ml, .ref mf, .ref ma, .int (nI cl), .ref mfd, .ref mts, .int (nI tc), .ref mg, .ref mb]))]) hD hS hA [0] rfl
              refine va_calli (va_runV (As := [.int (nI 0)]) (rest := []) ⟨hx, hb, hml, hown, hts⟩ (c_X5_refuses l D cI cJ cZ qm mk m0 m1 mi mo ml mf ma mfd mts mg mb cd n ni no cl tc 0 s.heap.size _ rfl (by omega)) (cwV 1 hts gX5_classOf_X5_refuses rfl rfl rfl (by decide +kernel) ⟨Nat.le_of_ble_eq_true rfl, Nat.le_of_ble_eq_true rfl⟩) ⟨PW.blind, va_recv hK hPc (ci := 5) (q0 := 0) rfl rfl, fun U hU hW => ⟨rfl, PW.to hPc hK hNB hDc hU hW⟩⟩ rfl rfl hl.1 rfl (lv_room (Nat.le_of_ble_eq_true rfl)) dX5_classOf_54 ⟨Nat.le_of_ble_eq_true rfl, Nat.le_of_ble_eq_true rfl⟩) hS (fun q _ h => hFc q h) hFc (fun r_3 u_9 t_9 H1_9 locs ht_9 hvm_9 hw_9 hB_9 hz1_9 hk1_9 hS => ?_)
              obtain ⟨hP1_9, hD1_9⟩ := hB_9
              rw [ht_9] at hP1_9
              obtain rfl := hw_9
              obtain ⟨hP, hD⟩ := va_join (wr := [(mk, .inl (cI, 100, .inl kd)), (ma, .inl (cI, 600, .inl ca))]) (w1 := [(qm, .inr (5, [.int (nI 0), .int (nI n), .int (nI ni), .int (nI no), .ref mk, .ref m0, .ref m1, .ref mi, .ref mo, .ref ml, .ref mf, .ref ma, .int (nI cl), .ref mfd, .ref mts, .int (nI tc), .ref mg, .ref mb]))]) hP hD [0] [1, 2] rfl rfl (by decide) (by decide) hk1_9 hFc hP1_9 hD1_9
              have hP := hP.sub (ws' := [(qm, .inr (5, [.int (nI 0), .int (nI n), .int (nI ni), .int (nI no), .ref mk, .ref m0, .ref m1, .ref mi, .ref mo, .ref ml, .ref mf, .ref ma, .int (nI cl), .ref mfd, .ref mts, .int (nI tc), .ref mg, .ref mb])), (mk, .inl (cI, 100, .inl kd)), (ma, .inl (cI, 600, .inl ca))]) [2, 0, 1] rfl
              have hD := hD.sub (ws' := [(qm, .inr (5, [.int (nI 0), .int (nI n), .int (nI ni), .int (nI no), .ref mk, .ref m0, .ref m1, .ref mi, .ref mo, .ref ml, .ref mf, .ref ma, .int (nI cl), .ref mfd, .ref mts, .int (nI tc), .ref mg, .ref mb])), (mk, .inl (cI, 100, .inl kd)), (ma, .inl (cI, 600, .inl ca))]) [2, 0, 1] (by decide) rfl
              generalize H1_9 = H at hP hS ⊢
              have hP : va_P D vwCl [(qm, .inr (5, [.int (nI 0), .int (nI n), .int (nI ni), .int (nI no), .ref mk, .ref m0, .ref m1, .ref mi, .ref mo, .ref ml, .ref mf, .ref ma, .int (nI cl), .ref mfd, .ref mts, .int (nI tc), .ref mg, .ref mb])), (mk, .inl (cI, 100, .inl kd)), (ma, .inl (cI, 600, .inl ca))] H := hP
              have hD : va_D A [(qm, .inr (5, [.int (nI 0), .int (nI n), .int (nI ni), .int (nI no), .ref mk, .ref m0, .ref m1, .ref mi, .ref mo, .ref ml, .ref mf, .ref ma, .int (nI cl), .ref mfd, .ref mts, .int (nI tc), .ref mg, .ref mb])), (mk, .inl (cI, 100, .inl kd)), (ma, .inl (cI, 600, .inl ca))] := hD
              refine lv_if_eq (tgt := 62) hx hb dX5_classOf_57 (by decide) (fun c_57 => ?_) (fun c_57 => ?_)
              · skip
                rw [zc_if0] at c_57
                refine lv_aload_n hx hb dX5_classOf_62 rfl (lv_at hl 1 rfl) ?_
                refine va_get (D := D) (ci := 5) (v := .ref ma) (C := RX5) (T := TX5) (N := 18) hx hb hts hiX5 hown hK hP 0 rfl rfl 11 (by decide) (hts (.fieldLink RX5 31 "FaultSearchModel" "classAt" "[I") (by decide +kernel)) (fun _ h9 => h9) rfl dX5_classOf_63 ?_
                refine lv_iload_n hx hb dX5_classOf_66 rfl (lv_at hl 2 rfl) ?_
                refine lv_iload_n hx hb dX5_classOf_67 rfl (lv_at hl 3 rfl) ?_
                refine lv_iload_n hx hb dX5_classOf_68 rfl (lv_at hl 4 rfl) ?_
                refine vp_callSi (va_runS (As := [.int (nI j), .int (nI p1 - nI 1), .int (nI v)]) (rest := [.ref ma]) ⟨hx, hb, hml, hown, hts⟩ (c_X5_faultOf l j (nI p1 - nI 1) p1 v (zs_pin1 p1)) (va_cwS 3 hts gX5_classOf_X5_faultOf rfl rfl rfl (by decide +kernel) ⟨Nat.le_of_ble_eq_true rfl, Nat.le_of_ble_eq_true rfl⟩) ⟨zt_blind, fun U hU hW => ⟨rfl, trivial⟩⟩ rfl rfl hl.1 rfl (lv_room (Nat.le_of_ble_eq_true rfl)) dX5_classOf_69 ⟨Nat.le_of_ble_eq_true rfl, Nat.le_of_ble_eq_true rfl⟩).run (fun r_4 hrr_4 => ?_)
                subst hrr_4
                refine zz_iald hx hb hK hP 2 0 rfl rfl (n := 600) (j := (j * 6 + p1 * 2 + v)) (by omega) (by decide) dX5_classOf_72 ?_
                exact W.iret (v := (ca (j * 6 + p1 * 2 + v))) hx hb hr (fun t_9 ht_9 hW_9 => ⟨⟨(ca (j * 6 + p1 * 2 + v)), (), rfl, rfl, ⟨by rw [ht_9]; exact hP, hD⟩⟩, hS.F ht_9⟩) hS.2.2 dX5_classOf_73
              · skip
                rw [zc_if0] at c_57
                have c_57 := Classical.not_not.mp c_57
                exact absurd c_57 (by decide)
            · skip
              exact absurd (zs_pinp (by omega) (by omega) hp1) c_46
        · skip
          rw [zc_eq0 (by omega)] at c_19
          refine lv_iload_n hx hb dX5_classOf_22 rfl (lv_at hl 3 rfl) ?_
          refine lv_iconst (v := (nI 1)) hx hb dX5_classOf_23 (by decide) ?_
          refine lv_icmp_ne (tgt := 31) hx hb dX5_classOf_24 (by decide) (fun c_24 => ?_) (fun c_24 => ?_)
          · skip
            rw [zc_eq (by omega) (by omega)] at c_24
            exact absurd c_24 (by omega)
          · skip
            rw [zc_eq (by omega) (by omega)] at c_24
            refine lv_iconst (v := (nI 1)) hx hb dX5_classOf_27 (by decide) ?_
            refine lv_goto (tgt := 32) hx hb dX5_classOf_28 (by decide) ?_
            refine lv_istore (lv' := [(4, .int (nI 1)), (0, .ref qm), (1, .int (nI j)), (2, .int (nI p1 - nI 1)), (3, .int (nI v))]) hx hb dX5_classOf_32 hl (by decide) rfl (fun ls hl => ?_)
            refine lv_aload_n hx hb dX5_classOf_34 rfl (lv_at hl 1 rfl) ?_
            refine lv_iload hx hb dX5_classOf_35 (lv_at hl 0 rfl) ?_
            refine lv_if_eq (tgt := 49) hx hb dX5_classOf_37 (by decide) (fun c_37 => ?_) (fun c_37 => ?_)
            · skip
              exact absurd c_37 (by decide)
            · skip
              refine lv_iload_n hx hb dX5_classOf_40 rfl (lv_at hl 3 rfl) ?_
              refine lv_aload_n hx hb dX5_classOf_41 rfl (lv_at hl 1 rfl) ?_
              refine lv_iload_n hx hb dX5_classOf_42 rfl (lv_at hl 2 rfl) ?_
              have hPc := hP.sub (ws' := [(qm, .inr (5, [.int cd, .int (nI n), .int (nI ni), .int (nI no), .ref mk, .ref m0, .ref m1, .ref mi, .ref mo, .ref ml, .ref mf, .ref ma, .int (nI cl), .ref mfd, .ref mts, .int (nI tc), .ref mg, .ref mb])), (mk, .inl (cI, 100, .inl kd))]) [0, 1] rfl
              refine vp_callSi (va_runV (As := [.int (nI j)]) (rest := [.int (nI p1 - nI 1), .ref qm]) ⟨hx, hb, hml, hown, hts⟩ (c_X5_pinsOf l D cI cJ cZ qm mk m0 m1 mi mo ml mf ma mfd mts mg mb cd n ni no cl tc kd j (by omega) (hkd j hj)) (cwV 1 hts gX5_classOf_X5_pinsOf rfl rfl rfl (by decide +kernel) ⟨Nat.le_of_ble_eq_true rfl, Nat.le_of_ble_eq_true rfl⟩) ⟨PR.blind, va_recv hK hPc (ci := 5) (q0 := 0) rfl rfl, fun U hU hW => ⟨rfl, PR.to hPc hK hNB hU hW⟩⟩ rfl rfl hl.1 rfl (lv_room (Nat.le_of_ble_eq_true rfl)) dX5_classOf_43 ⟨Nat.le_of_ble_eq_true rfl, Nat.le_of_ble_eq_true rfl⟩).run (fun r_5 hrr_5 => ?_)
              subst hrr_5
              refine lv_icmp_lt (tgt := 53) hx hb dX5_classOf_46 (by decide) (fun c_46 => ?_) (fun c_46 => ?_)
              · skip
                refine lv_iconst (v := (nI 0)) hx hb dX5_classOf_53 (by decide) ?_
                have hPc := hP.sub (ws' := [(qm, .inr (5, [.int cd, .int (nI n), .int (nI ni), .int (nI no), .ref mk, .ref m0, .ref m1, .ref mi, .ref mo, .ref ml, .ref mf, .ref ma, .int (nI cl), .ref mfd, .ref mts, .int (nI tc), .ref mg, .ref mb]))]) [0] rfl
                have hDc := hD.sub (ws' := [(qm, .inr (5, [.int cd, .int (nI n), .int (nI ni), .int (nI no), .ref mk, .ref m0, .ref m1, .ref mi, .ref mo, .ref ml, .ref mf, .ref ma, .int (nI cl), .ref mfd, .ref mts, .int (nI tc), .ref mg, .ref mb]))]) [0] (by decide) rfl
                have hFc := va_free (wc := [(qm, .inr (5, [.int cd, .int (nI n), .int (nI ni), .int (nI no), .ref mk, .ref m0, .ref m1, .ref mi, .ref mo, .ref ml, .ref mf, .ref ma, .int (nI cl), .ref mfd, .ref mts, .int (nI tc), .ref mg, .ref mb]))]) hD hS hA [0] rfl
                refine va_calli (va_runV (As := [.int (nI 0)]) (rest := []) ⟨hx, hb, hml, hown, hts⟩ (c_X5_refuses l D cI cJ cZ qm mk m0 m1 mi mo ml mf ma mfd mts mg mb cd n ni no cl tc 0 s.heap.size _ rfl (by omega)) (cwV 1 hts gX5_classOf_X5_refuses rfl rfl rfl (by decide +kernel) ⟨Nat.le_of_ble_eq_true rfl, Nat.le_of_ble_eq_true rfl⟩) ⟨PW.blind, va_recv hK hPc (ci := 5) (q0 := 0) rfl rfl, fun U hU hW => ⟨rfl, PW.to hPc hK hNB hDc hU hW⟩⟩ rfl rfl hl.1 rfl (lv_room (Nat.le_of_ble_eq_true rfl)) dX5_classOf_54 ⟨Nat.le_of_ble_eq_true rfl, Nat.le_of_ble_eq_true rfl⟩) hS (fun q _ h => hFc q h) hFc (fun r_6 u_9 t_9 H1_9 locs ht_9 hvm_9 hw_9 hB_9 hz1_9 hk1_9 hS => ?_)
                obtain ⟨hP1_9, hD1_9⟩ := hB_9
                rw [ht_9] at hP1_9
                obtain rfl := hw_9
                obtain ⟨hP, hD⟩ := va_join (wr := [(mk, .inl (cI, 100, .inl kd)), (ma, .inl (cI, 600, .inl ca))]) (w1 := [(qm, .inr (5, [.int (nI 0), .int (nI n), .int (nI ni), .int (nI no), .ref mk, .ref m0, .ref m1, .ref mi, .ref mo, .ref ml, .ref mf, .ref ma, .int (nI cl), .ref mfd, .ref mts, .int (nI tc), .ref mg, .ref mb]))]) hP hD [0] [1, 2] rfl rfl (by decide) (by decide) hk1_9 hFc hP1_9 hD1_9
                have hP := hP.sub (ws' := [(qm, .inr (5, [.int (nI 0), .int (nI n), .int (nI ni), .int (nI no), .ref mk, .ref m0, .ref m1, .ref mi, .ref mo, .ref ml, .ref mf, .ref ma, .int (nI cl), .ref mfd, .ref mts, .int (nI tc), .ref mg, .ref mb])), (mk, .inl (cI, 100, .inl kd)), (ma, .inl (cI, 600, .inl ca))]) [2, 0, 1] rfl
                have hD := hD.sub (ws' := [(qm, .inr (5, [.int (nI 0), .int (nI n), .int (nI ni), .int (nI no), .ref mk, .ref m0, .ref m1, .ref mi, .ref mo, .ref ml, .ref mf, .ref ma, .int (nI cl), .ref mfd, .ref mts, .int (nI tc), .ref mg, .ref mb])), (mk, .inl (cI, 100, .inl kd)), (ma, .inl (cI, 600, .inl ca))]) [2, 0, 1] (by decide) rfl
                generalize H1_9 = H at hP hS ⊢
                have hP : va_P D vwCl [(qm, .inr (5, [.int (nI 0), .int (nI n), .int (nI ni), .int (nI no), .ref mk, .ref m0, .ref m1, .ref mi, .ref mo, .ref ml, .ref mf, .ref ma, .int (nI cl), .ref mfd, .ref mts, .int (nI tc), .ref mg, .ref mb])), (mk, .inl (cI, 100, .inl kd)), (ma, .inl (cI, 600, .inl ca))] H := hP
                have hD : va_D A [(qm, .inr (5, [.int (nI 0), .int (nI n), .int (nI ni), .int (nI no), .ref mk, .ref m0, .ref m1, .ref mi, .ref mo, .ref ml, .ref mf, .ref ma, .int (nI cl), .ref mfd, .ref mts, .int (nI tc), .ref mg, .ref mb])), (mk, .inl (cI, 100, .inl kd)), (ma, .inl (cI, 600, .inl ca))] := hD
                refine lv_if_eq (tgt := 62) hx hb dX5_classOf_57 (by decide) (fun c_57 => ?_) (fun c_57 => ?_)
                · skip
                  rw [zc_if0] at c_57
                  refine lv_aload_n hx hb dX5_classOf_62 rfl (lv_at hl 1 rfl) ?_
                  refine va_get (D := D) (ci := 5) (v := .ref ma) (C := RX5) (T := TX5) (N := 18) hx hb hts hiX5 hown hK hP 0 rfl rfl 11 (by decide) (hts (.fieldLink RX5 31 "FaultSearchModel" "classAt" "[I") (by decide +kernel)) (fun _ h9 => h9) rfl dX5_classOf_63 ?_
                  refine lv_iload_n hx hb dX5_classOf_66 rfl (lv_at hl 2 rfl) ?_
                  refine lv_iload_n hx hb dX5_classOf_67 rfl (lv_at hl 3 rfl) ?_
                  refine lv_iload_n hx hb dX5_classOf_68 rfl (lv_at hl 4 rfl) ?_
                  refine vp_callSi (va_runS (As := [.int (nI j), .int (nI p1 - nI 1), .int (nI v)]) (rest := [.ref ma]) ⟨hx, hb, hml, hown, hts⟩ (c_X5_faultOf l j (nI p1 - nI 1) p1 v (zs_pin1 p1)) (va_cwS 3 hts gX5_classOf_X5_faultOf rfl rfl rfl (by decide +kernel) ⟨Nat.le_of_ble_eq_true rfl, Nat.le_of_ble_eq_true rfl⟩) ⟨zt_blind, fun U hU hW => ⟨rfl, trivial⟩⟩ rfl rfl hl.1 rfl (lv_room (Nat.le_of_ble_eq_true rfl)) dX5_classOf_69 ⟨Nat.le_of_ble_eq_true rfl, Nat.le_of_ble_eq_true rfl⟩).run (fun r_7 hrr_7 => ?_)
                  subst hrr_7
                  refine zz_iald hx hb hK hP 2 0 rfl rfl (n := 600) (j := (j * 6 + p1 * 2 + v)) (by omega) (by decide) dX5_classOf_72 ?_
                  exact W.iret (v := (ca (j * 6 + p1 * 2 + v))) hx hb hr (fun t_9 ht_9 hW_9 => ⟨⟨(ca (j * 6 + p1 * 2 + v)), (), rfl, rfl, ⟨by rw [ht_9]; exact hP, hD⟩⟩, hS.F ht_9⟩) hS.2.2 dX5_classOf_73
                · skip
                  rw [zc_if0] at c_57
                  have c_57 := Classical.not_not.mp c_57
                  exact absurd c_57 (by decide)
              · skip
                exact absurd (zs_pinp (by omega) (by omega) hp1) c_46

set_option maxHeartbeats 4000000 in
set_option maxRecDepth 100000 in
theorem c_X5_value_no (l : Launch) (D : va_G) (cI cJ cZ : ClassId) (qm : Nat) (mk : Nat) (m0 : Nat) (m1 : Nat) (mi : Nat) (mo : Nat) (ml : Nat) (mf : Nat) (ma : Nat) (mfd : Nat) (mts : Nat) (mg : Nat) (mb : Nat) (cd : Int32) (n : Nat) (ni : Nat) (no : Nat) (cl : Nat) (tc : Nat) (a : Int32) (b : Int32) (sz : Nat) (A : Nat → Prop) (hAe : A = va_A [(qm, .inr (5, [.int cd, .int (nI n), .int (nI ni), .int (nI no), .ref mk, .ref m0, .ref m1, .ref mi, .ref mo, .ref ml, .ref mf, .ref ma, .int (nI cl), .ref mfd, .ref mts, .int (nI tc), .ref mg, .ref mb]))] sz) (h : ¬ isN n a) : Met l yX5_value wsX5_value ({ frames := 1, cells := 0, slots := 0, locals := 21 } : Room) (va_Pc [.ref qm, .int a, .int b] (PW D cI cJ cZ [(qm, .inr (5, [.int cd, .int (nI n), .int (nI ni), .int (nI no), .ref mk, .ref m0, .ref m1, .ref mi, .ref mo, .ref ml, .ref mf, .ref ma, .int (nI cl), .ref mfd, .ref mts, .int (nI tc), .ref mg, .ref mb]))] sz)) (va_Qi (fun (r_9 : Int32) (_u9 : Unit) => r_9 = (nI 0)) (fun (_u9 : Unit) t => PQ D A [(qm, .inr (5, [.int (nI 1), .int (nI n), .int (nI ni), .int (nI no), .ref mk, .ref m0, .ref m1, .ref mi, .ref mo, .ref ml, .ref mf, .ref ma, .int (nI cl), .ref mfd, .ref mts, .int (nI tc), .ref mg, .ref mb]))] t) A) 0 0 A := by
  refine Met.ofW (cc := cX5_value) (maxL := 4) (ret := (some .int)) (by decide) rfl ?_
  intro p e s m args below meth c s₁ B hml hv
  obtain ⟨rfl, hsz, ⟨hP, hK, hNB⟩, hD0⟩ := hv
  have hx := B.exec
  have hb := B.bytes
  have hr := B.returns
  have hts := atoms_spec (ws := wsX5_value) B.pre
  have hown : s.vm.findClass RX5 = some m.cls := findClass_of_methodNamed B.named
  have hlocks := B.notSynchronized
  subst hsz
  have hD : va_D A [(qm, .inr (5, [.int cd, .int (nI n), .int (nI ni), .int (nI no), .ref mk, .ref m0, .ref m1, .ref mi, .ref mo, .ref ml, .ref mf, .ref ma, .int (nI cl), .ref mfd, .ref mts, .int (nI tc), .ref mg, .ref mb]))] := by rw [hAe]; exact hD0.self
  have hA : ∀ q : Nat, s.heap.size ≤ q → A q := fun q h => by rw [hAe]; exact Or.inr h
  have hS : va_S A s.heap s.heap [] := va_S.rf
  have hl := lv_entry ([.ref qm, .int a, .int b]) (n := 4) (Nat.le_of_ble_eq_true rfl)
  rw [lg_entry_eq]
  generalize (lg_sl ([.ref qm, .int a, .int b]) ++ List.replicate (4 - (lg_sl ([.ref qm, .int a, .int b])).length) Slot.unset).toArray = ls at hl ⊢
  have hl : lv_has ls 4 [(0, .ref qm), (1, .int a), (2, .int b)] := hl
  refine lv_aload_n hx hb dX5_value_0 rfl (lv_at hl 0 rfl) ?_
  refine lv_aload_n hx hb dX5_value_1 rfl (lv_at hl 0 rfl) ?_
  refine lv_iload_n hx hb dX5_value_2 rfl (lv_at hl 1 rfl) ?_
  have hPc := hP.sub (ws' := [(qm, .inr (5, [.int cd, .int (nI n), .int (nI ni), .int (nI no), .ref mk, .ref m0, .ref m1, .ref mi, .ref mo, .ref ml, .ref mf, .ref ma, .int (nI cl), .ref mfd, .ref mts, .int (nI tc), .ref mg, .ref mb]))]) [0] rfl
  refine vp_callSi (va_runV (As := [.int a]) (rest := [.ref qm]) ⟨hx, hb, hml, hown, hts⟩ (c_X5_isNet l D cI cJ cZ qm mk m0 m1 mi mo ml mf ma mfd mts mg mb cd n ni no cl tc a) (cwV 1 hts gX5_value_X5_isNet rfl rfl rfl (by decide +kernel) ⟨Nat.le_of_ble_eq_true rfl, Nat.le_of_ble_eq_true rfl⟩) ⟨PR.blind, va_recv hK hPc (ci := 5) (q0 := 0) rfl rfl, fun U hU hW => ⟨rfl, PR.to hPc hK hNB hU hW⟩⟩ rfl rfl hl.1 rfl (lv_room (Nat.le_of_ble_eq_true rfl)) dX5_value_3 ⟨Nat.le_of_ble_eq_true rfl, Nat.le_of_ble_eq_true rfl⟩).run (fun r_1 hrr_1 => ?_)
  subst hrr_1
  refine lv_if_eq (tgt := 13) hx hb dX5_value_6 (by decide) (fun c_6 => ?_) (fun c_6 => ?_)
  · skip
    rw [zc_if0] at c_6
    refine lv_iconst (v := (nI 1)) hx hb dX5_value_13 (by decide) ?_
    have hPc := hP.sub (ws' := [(qm, .inr (5, [.int cd, .int (nI n), .int (nI ni), .int (nI no), .ref mk, .ref m0, .ref m1, .ref mi, .ref mo, .ref ml, .ref mf, .ref ma, .int (nI cl), .ref mfd, .ref mts, .int (nI tc), .ref mg, .ref mb]))]) [0] rfl
    have hDc := hD.sub (ws' := [(qm, .inr (5, [.int cd, .int (nI n), .int (nI ni), .int (nI no), .ref mk, .ref m0, .ref m1, .ref mi, .ref mo, .ref ml, .ref mf, .ref ma, .int (nI cl), .ref mfd, .ref mts, .int (nI tc), .ref mg, .ref mb]))]) [0] (by decide) rfl
    have hFc := va_free (wc := [(qm, .inr (5, [.int cd, .int (nI n), .int (nI ni), .int (nI no), .ref mk, .ref m0, .ref m1, .ref mi, .ref mo, .ref ml, .ref mf, .ref ma, .int (nI cl), .ref mfd, .ref mts, .int (nI tc), .ref mg, .ref mb]))]) hD hS hA [0] rfl
    refine va_calli (va_runV (As := [.int (nI 1)]) (rest := []) ⟨hx, hb, hml, hown, hts⟩ (c_X5_refuses l D cI cJ cZ qm mk m0 m1 mi mo ml mf ma mfd mts mg mb cd n ni no cl tc 1 s.heap.size _ rfl (by omega)) (cwV 1 hts gX5_value_X5_refuses rfl rfl rfl (by decide +kernel) ⟨Nat.le_of_ble_eq_true rfl, Nat.le_of_ble_eq_true rfl⟩) ⟨PW.blind, va_recv hK hPc (ci := 5) (q0 := 0) rfl rfl, fun U hU hW => ⟨rfl, PW.to hPc hK hNB hDc hU hW⟩⟩ rfl rfl hl.1 rfl (lv_room (Nat.le_of_ble_eq_true rfl)) dX5_value_14 ⟨Nat.le_of_ble_eq_true rfl, Nat.le_of_ble_eq_true rfl⟩) hS (fun q _ h => hFc q h) hFc (fun r_2 u_9 t_9 H1_9 locs ht_9 hvm_9 hw_9 hB_9 hz1_9 hk1_9 hS => ?_)
    obtain ⟨hP1_9, hD1_9⟩ := hB_9
    rw [ht_9] at hP1_9
    obtain rfl := hw_9
    obtain ⟨hP, hD⟩ := va_join (wr := []) (w1 := [(qm, .inr (5, [.int (nI 1), .int (nI n), .int (nI ni), .int (nI no), .ref mk, .ref m0, .ref m1, .ref mi, .ref mo, .ref ml, .ref mf, .ref ma, .int (nI cl), .ref mfd, .ref mts, .int (nI tc), .ref mg, .ref mb]))]) hP hD [0] [] rfl rfl (by decide) (by decide) hk1_9 hFc hP1_9 hD1_9
    generalize H1_9 = H at hP hS ⊢
    have hP : va_P D vwCl [(qm, .inr (5, [.int (nI 1), .int (nI n), .int (nI ni), .int (nI no), .ref mk, .ref m0, .ref m1, .ref mi, .ref mo, .ref ml, .ref mf, .ref ma, .int (nI cl), .ref mfd, .ref mts, .int (nI tc), .ref mg, .ref mb]))] H := hP
    have hD : va_D A [(qm, .inr (5, [.int (nI 1), .int (nI n), .int (nI ni), .int (nI no), .ref mk, .ref m0, .ref m1, .ref mi, .ref mo, .ref ml, .ref mf, .ref ma, .int (nI cl), .ref mfd, .ref mts, .int (nI tc), .ref mg, .ref mb]))] := hD
    refine lv_if_eq (tgt := 22) hx hb dX5_value_17 (by decide) (fun c_17 => ?_) (fun c_17 => ?_)
    · skip
      rw [zc_if0] at c_17
      exact absurd (by decide) c_17
    · skip
      rw [zc_if0] at c_17
      have c_17 := Classical.not_not.mp c_17
      refine lv_iconst (v := (nI 0)) hx hb dX5_value_20 (by decide) ?_
      exact W.iret (v := (nI 0)) hx hb hr (fun t_9 ht_9 hW_9 => ⟨⟨(nI 0), (), rfl, rfl, ⟨by rw [ht_9]; exact hP, hD⟩⟩, hS.F ht_9⟩) hS.2.2 dX5_value_21
  · skip
    rw [zc_if0] at c_6
    have c_6 := Classical.not_not.mp c_6
    exact absurd c_6 h

set_option maxHeartbeats 4000000 in
set_option maxRecDepth 100000 in
theorem c_X5_test_no (l : Launch) (D : va_G) (cI cJ cZ : ClassId) (qm : Nat) (mk : Nat) (m0 : Nat) (m1 : Nat) (mi : Nat) (mo : Nat) (ml : Nat) (mf : Nat) (ma : Nat) (mfd : Nat) (mts : Nat) (mg : Nat) (mb : Nat) (cd : Int32) (n : Nat) (ni : Nat) (no : Nat) (cl : Nat) (tc : Nat) (k : Int32) (sz : Nat) (A : Nat → Prop) (hAe : A = va_A [(qm, .inr (5, [.int cd, .int (nI n), .int (nI ni), .int (nI no), .ref mk, .ref m0, .ref m1, .ref mi, .ref mo, .ref ml, .ref mf, .ref ma, .int (nI cl), .ref mfd, .ref mts, .int (nI tc), .ref mg, .ref mb]))] sz) (h : ¬ isN cl k) : Met l yX5_test wsX5_test ({ frames := 1, cells := 0, slots := 0, locals := 21 } : Room) (va_Pc [.ref qm, .int k] (PW D cI cJ cZ [(qm, .inr (5, [.int cd, .int (nI n), .int (nI ni), .int (nI no), .ref mk, .ref m0, .ref m1, .ref mi, .ref mo, .ref ml, .ref mf, .ref ma, .int (nI cl), .ref mfd, .ref mts, .int (nI tc), .ref mg, .ref mb]))] sz)) (va_Qi (fun (r_9 : Int32) (_u9 : Unit) => r_9 = (nI 0)) (fun (_u9 : Unit) t => PQ D A [(qm, .inr (5, [.int (nI 1), .int (nI n), .int (nI ni), .int (nI no), .ref mk, .ref m0, .ref m1, .ref mi, .ref mo, .ref ml, .ref mf, .ref ma, .int (nI cl), .ref mfd, .ref mts, .int (nI tc), .ref mg, .ref mb]))] t) A) 0 0 A := by
  refine Met.ofW (cc := cX5_test) (maxL := 2) (ret := (some .int)) (by decide) rfl ?_
  intro p e s m args below meth c s₁ B hml hv
  obtain ⟨rfl, hsz, ⟨hP, hK, hNB⟩, hD0⟩ := hv
  have hx := B.exec
  have hb := B.bytes
  have hr := B.returns
  have hts := atoms_spec (ws := wsX5_test) B.pre
  have hown : s.vm.findClass RX5 = some m.cls := findClass_of_methodNamed B.named
  have hlocks := B.notSynchronized
  subst hsz
  have hD : va_D A [(qm, .inr (5, [.int cd, .int (nI n), .int (nI ni), .int (nI no), .ref mk, .ref m0, .ref m1, .ref mi, .ref mo, .ref ml, .ref mf, .ref ma, .int (nI cl), .ref mfd, .ref mts, .int (nI tc), .ref mg, .ref mb]))] := by rw [hAe]; exact hD0.self
  have hA : ∀ q : Nat, s.heap.size ≤ q → A q := fun q h => by rw [hAe]; exact Or.inr h
  have hS : va_S A s.heap s.heap [] := va_S.rf
  have hl := lv_entry ([.ref qm, .int k]) (n := 2) (Nat.le_of_ble_eq_true rfl)
  rw [lg_entry_eq]
  generalize (lg_sl ([.ref qm, .int k]) ++ List.replicate (2 - (lg_sl ([.ref qm, .int k])).length) Slot.unset).toArray = ls at hl ⊢
  have hl : lv_has ls 2 [(0, .ref qm), (1, .int k)] := hl
  refine lv_aload_n hx hb dX5_test_0 rfl (lv_at hl 0 rfl) ?_
  refine lv_aload_n hx hb dX5_test_1 rfl (lv_at hl 0 rfl) ?_
  refine lv_iload_n hx hb dX5_test_2 rfl (lv_at hl 1 rfl) ?_
  have hPc := hP.sub (ws' := [(qm, .inr (5, [.int cd, .int (nI n), .int (nI ni), .int (nI no), .ref mk, .ref m0, .ref m1, .ref mi, .ref mo, .ref ml, .ref mf, .ref ma, .int (nI cl), .ref mfd, .ref mts, .int (nI tc), .ref mg, .ref mb]))]) [0] rfl
  refine vp_callSi (va_runV (As := [.int k]) (rest := [.ref qm]) ⟨hx, hb, hml, hown, hts⟩ (c_X5_isClass l D cI cJ cZ qm mk m0 m1 mi mo ml mf ma mfd mts mg mb cd n ni no cl tc k) (cwV 1 hts gX5_test_X5_isClass rfl rfl rfl (by decide +kernel) ⟨Nat.le_of_ble_eq_true rfl, Nat.le_of_ble_eq_true rfl⟩) ⟨PR.blind, va_recv hK hPc (ci := 5) (q0 := 0) rfl rfl, fun U hU hW => ⟨rfl, PR.to hPc hK hNB hU hW⟩⟩ rfl rfl hl.1 rfl (lv_room (Nat.le_of_ble_eq_true rfl)) dX5_test_3 ⟨Nat.le_of_ble_eq_true rfl, Nat.le_of_ble_eq_true rfl⟩).run (fun r_1 hrr_1 => ?_)
  subst hrr_1
  refine lv_if_eq (tgt := 13) hx hb dX5_test_6 (by decide) (fun c_6 => ?_) (fun c_6 => ?_)
  · skip
    rw [zc_if0] at c_6
    refine lv_iconst (v := (nI 1)) hx hb dX5_test_13 (by decide) ?_
    have hPc := hP.sub (ws' := [(qm, .inr (5, [.int cd, .int (nI n), .int (nI ni), .int (nI no), .ref mk, .ref m0, .ref m1, .ref mi, .ref mo, .ref ml, .ref mf, .ref ma, .int (nI cl), .ref mfd, .ref mts, .int (nI tc), .ref mg, .ref mb]))]) [0] rfl
    have hDc := hD.sub (ws' := [(qm, .inr (5, [.int cd, .int (nI n), .int (nI ni), .int (nI no), .ref mk, .ref m0, .ref m1, .ref mi, .ref mo, .ref ml, .ref mf, .ref ma, .int (nI cl), .ref mfd, .ref mts, .int (nI tc), .ref mg, .ref mb]))]) [0] (by decide) rfl
    have hFc := va_free (wc := [(qm, .inr (5, [.int cd, .int (nI n), .int (nI ni), .int (nI no), .ref mk, .ref m0, .ref m1, .ref mi, .ref mo, .ref ml, .ref mf, .ref ma, .int (nI cl), .ref mfd, .ref mts, .int (nI tc), .ref mg, .ref mb]))]) hD hS hA [0] rfl
    refine va_calli (va_runV (As := [.int (nI 1)]) (rest := []) ⟨hx, hb, hml, hown, hts⟩ (c_X5_refuses l D cI cJ cZ qm mk m0 m1 mi mo ml mf ma mfd mts mg mb cd n ni no cl tc 1 s.heap.size _ rfl (by omega)) (cwV 1 hts gX5_test_X5_refuses rfl rfl rfl (by decide +kernel) ⟨Nat.le_of_ble_eq_true rfl, Nat.le_of_ble_eq_true rfl⟩) ⟨PW.blind, va_recv hK hPc (ci := 5) (q0 := 0) rfl rfl, fun U hU hW => ⟨rfl, PW.to hPc hK hNB hDc hU hW⟩⟩ rfl rfl hl.1 rfl (lv_room (Nat.le_of_ble_eq_true rfl)) dX5_test_14 ⟨Nat.le_of_ble_eq_true rfl, Nat.le_of_ble_eq_true rfl⟩) hS (fun q _ h => hFc q h) hFc (fun r_2 u_9 t_9 H1_9 locs ht_9 hvm_9 hw_9 hB_9 hz1_9 hk1_9 hS => ?_)
    obtain ⟨hP1_9, hD1_9⟩ := hB_9
    rw [ht_9] at hP1_9
    obtain rfl := hw_9
    obtain ⟨hP, hD⟩ := va_join (wr := []) (w1 := [(qm, .inr (5, [.int (nI 1), .int (nI n), .int (nI ni), .int (nI no), .ref mk, .ref m0, .ref m1, .ref mi, .ref mo, .ref ml, .ref mf, .ref ma, .int (nI cl), .ref mfd, .ref mts, .int (nI tc), .ref mg, .ref mb]))]) hP hD [0] [] rfl rfl (by decide) (by decide) hk1_9 hFc hP1_9 hD1_9
    generalize H1_9 = H at hP hS ⊢
    have hP : va_P D vwCl [(qm, .inr (5, [.int (nI 1), .int (nI n), .int (nI ni), .int (nI no), .ref mk, .ref m0, .ref m1, .ref mi, .ref mo, .ref ml, .ref mf, .ref ma, .int (nI cl), .ref mfd, .ref mts, .int (nI tc), .ref mg, .ref mb]))] H := hP
    have hD : va_D A [(qm, .inr (5, [.int (nI 1), .int (nI n), .int (nI ni), .int (nI no), .ref mk, .ref m0, .ref m1, .ref mi, .ref mo, .ref ml, .ref mf, .ref ma, .int (nI cl), .ref mfd, .ref mts, .int (nI tc), .ref mg, .ref mb]))] := hD
    refine lv_if_eq (tgt := 24) hx hb dX5_test_17 (by decide) (fun c_17 => ?_) (fun c_17 => ?_)
    · skip
      rw [zc_if0] at c_17
      exact absurd (by decide) c_17
    · skip
      rw [zc_if0] at c_17
      have c_17 := Classical.not_not.mp c_17
      refine lv_iconst (v := (nI 0)) hx hb dX5_test_20 (by decide) ?_
      refine lv_goto (tgt := 34) hx hb dX5_test_21 (by decide) ?_
      exact W.iret (v := (nI 0)) hx hb hr (fun t_9 ht_9 hW_9 => ⟨⟨(nI 0), (), rfl, rfl, ⟨by rw [ht_9]; exact hP, hD⟩⟩, hS.F ht_9⟩) hS.2.2 dX5_test_34
  · skip
    rw [zc_if0] at c_6
    have c_6 := Classical.not_not.mp c_6
    exact absurd c_6 h

set_option maxHeartbeats 4000000 in
set_option maxRecDepth 100000 in
theorem c_X5_shown_no (l : Launch) (D : va_G) (cI cJ cZ : ClassId) (qm : Nat) (mk : Nat) (m0 : Nat) (m1 : Nat) (mi : Nat) (mo : Nat) (ml : Nat) (mf : Nat) (ma : Nat) (mfd : Nat) (mts : Nat) (mg : Nat) (mb : Nat) (cd : Int32) (n : Nat) (ni : Nat) (no : Nat) (cl : Nat) (tc : Nat) (k : Int32) (sz : Nat) (A : Nat → Prop) (hAe : A = va_A [(qm, .inr (5, [.int cd, .int (nI n), .int (nI ni), .int (nI no), .ref mk, .ref m0, .ref m1, .ref mi, .ref mo, .ref ml, .ref mf, .ref ma, .int (nI cl), .ref mfd, .ref mts, .int (nI tc), .ref mg, .ref mb]))] sz) (h : ¬ isN cl k) : Met l yX5_shown wsX5_shown ({ frames := 1, cells := 0, slots := 0, locals := 21 } : Room) (va_Pc [.ref qm, .int k] (PW D cI cJ cZ [(qm, .inr (5, [.int cd, .int (nI n), .int (nI ni), .int (nI no), .ref mk, .ref m0, .ref m1, .ref mi, .ref mo, .ref ml, .ref mf, .ref ma, .int (nI cl), .ref mfd, .ref mts, .int (nI tc), .ref mg, .ref mb]))] sz)) (va_Qi (fun (r_9 : Int32) (_u9 : Unit) => r_9 = (nI 0)) (fun (_u9 : Unit) t => PQ D A [(qm, .inr (5, [.int (nI 1), .int (nI n), .int (nI ni), .int (nI no), .ref mk, .ref m0, .ref m1, .ref mi, .ref mo, .ref ml, .ref mf, .ref ma, .int (nI cl), .ref mfd, .ref mts, .int (nI tc), .ref mg, .ref mb]))] t) A) 0 0 A := by
  refine Met.ofW (cc := cX5_shown) (maxL := 6) (ret := (some .int)) (by decide) rfl ?_
  intro p e s m args below meth c s₁ B hml hv
  obtain ⟨rfl, hsz, ⟨hP, hK, hNB⟩, hD0⟩ := hv
  have hx := B.exec
  have hb := B.bytes
  have hr := B.returns
  have hts := atoms_spec (ws := wsX5_shown) B.pre
  have hown : s.vm.findClass RX5 = some m.cls := findClass_of_methodNamed B.named
  have hlocks := B.notSynchronized
  subst hsz
  have hD : va_D A [(qm, .inr (5, [.int cd, .int (nI n), .int (nI ni), .int (nI no), .ref mk, .ref m0, .ref m1, .ref mi, .ref mo, .ref ml, .ref mf, .ref ma, .int (nI cl), .ref mfd, .ref mts, .int (nI tc), .ref mg, .ref mb]))] := by rw [hAe]; exact hD0.self
  have hA : ∀ q : Nat, s.heap.size ≤ q → A q := fun q h => by rw [hAe]; exact Or.inr h
  have hS : va_S A s.heap s.heap [] := va_S.rf
  have hl := lv_entry ([.ref qm, .int k]) (n := 6) (Nat.le_of_ble_eq_true rfl)
  rw [lg_entry_eq]
  generalize (lg_sl ([.ref qm, .int k]) ++ List.replicate (6 - (lg_sl ([.ref qm, .int k])).length) Slot.unset).toArray = ls at hl ⊢
  have hl : lv_has ls 6 [(0, .ref qm), (1, .int k)] := hl
  refine lv_aload_n hx hb dX5_shown_0 rfl (lv_at hl 0 rfl) ?_
  refine lv_aload_n hx hb dX5_shown_1 rfl (lv_at hl 0 rfl) ?_
  refine lv_iload_n hx hb dX5_shown_2 rfl (lv_at hl 1 rfl) ?_
  have hPc := hP.sub (ws' := [(qm, .inr (5, [.int cd, .int (nI n), .int (nI ni), .int (nI no), .ref mk, .ref m0, .ref m1, .ref mi, .ref mo, .ref ml, .ref mf, .ref ma, .int (nI cl), .ref mfd, .ref mts, .int (nI tc), .ref mg, .ref mb]))]) [0] rfl
  refine vp_callSi (va_runV (As := [.int k]) (rest := [.ref qm]) ⟨hx, hb, hml, hown, hts⟩ (c_X5_isClass l D cI cJ cZ qm mk m0 m1 mi mo ml mf ma mfd mts mg mb cd n ni no cl tc k) (cwV 1 hts gX5_shown_X5_isClass rfl rfl rfl (by decide +kernel) ⟨Nat.le_of_ble_eq_true rfl, Nat.le_of_ble_eq_true rfl⟩) ⟨PR.blind, va_recv hK hPc (ci := 5) (q0 := 0) rfl rfl, fun U hU hW => ⟨rfl, PR.to hPc hK hNB hU hW⟩⟩ rfl rfl hl.1 rfl (lv_room (Nat.le_of_ble_eq_true rfl)) dX5_shown_3 ⟨Nat.le_of_ble_eq_true rfl, Nat.le_of_ble_eq_true rfl⟩).run (fun r_1 hrr_1 => ?_)
  subst hrr_1
  refine lv_if_eq (tgt := 13) hx hb dX5_shown_6 (by decide) (fun c_6 => ?_) (fun c_6 => ?_)
  · skip
    rw [zc_if0] at c_6
    refine lv_iconst (v := (nI 1)) hx hb dX5_shown_13 (by decide) ?_
    have hPc := hP.sub (ws' := [(qm, .inr (5, [.int cd, .int (nI n), .int (nI ni), .int (nI no), .ref mk, .ref m0, .ref m1, .ref mi, .ref mo, .ref ml, .ref mf, .ref ma, .int (nI cl), .ref mfd, .ref mts, .int (nI tc), .ref mg, .ref mb]))]) [0] rfl
    have hDc := hD.sub (ws' := [(qm, .inr (5, [.int cd, .int (nI n), .int (nI ni), .int (nI no), .ref mk, .ref m0, .ref m1, .ref mi, .ref mo, .ref ml, .ref mf, .ref ma, .int (nI cl), .ref mfd, .ref mts, .int (nI tc), .ref mg, .ref mb]))]) [0] (by decide) rfl
    have hFc := va_free (wc := [(qm, .inr (5, [.int cd, .int (nI n), .int (nI ni), .int (nI no), .ref mk, .ref m0, .ref m1, .ref mi, .ref mo, .ref ml, .ref mf, .ref ma, .int (nI cl), .ref mfd, .ref mts, .int (nI tc), .ref mg, .ref mb]))]) hD hS hA [0] rfl
    refine va_calli (va_runV (As := [.int (nI 1)]) (rest := []) ⟨hx, hb, hml, hown, hts⟩ (c_X5_refuses l D cI cJ cZ qm mk m0 m1 mi mo ml mf ma mfd mts mg mb cd n ni no cl tc 1 s.heap.size _ rfl (by omega)) (cwV 1 hts gX5_shown_X5_refuses rfl rfl rfl (by decide +kernel) ⟨Nat.le_of_ble_eq_true rfl, Nat.le_of_ble_eq_true rfl⟩) ⟨PW.blind, va_recv hK hPc (ci := 5) (q0 := 0) rfl rfl, fun U hU hW => ⟨rfl, PW.to hPc hK hNB hDc hU hW⟩⟩ rfl rfl hl.1 rfl (lv_room (Nat.le_of_ble_eq_true rfl)) dX5_shown_14 ⟨Nat.le_of_ble_eq_true rfl, Nat.le_of_ble_eq_true rfl⟩) hS (fun q _ h => hFc q h) hFc (fun r_2 u_9 t_9 H1_9 locs ht_9 hvm_9 hw_9 hB_9 hz1_9 hk1_9 hS => ?_)
    obtain ⟨hP1_9, hD1_9⟩ := hB_9
    rw [ht_9] at hP1_9
    obtain rfl := hw_9
    obtain ⟨hP, hD⟩ := va_join (wr := []) (w1 := [(qm, .inr (5, [.int (nI 1), .int (nI n), .int (nI ni), .int (nI no), .ref mk, .ref m0, .ref m1, .ref mi, .ref mo, .ref ml, .ref mf, .ref ma, .int (nI cl), .ref mfd, .ref mts, .int (nI tc), .ref mg, .ref mb]))]) hP hD [0] [] rfl rfl (by decide) (by decide) hk1_9 hFc hP1_9 hD1_9
    generalize H1_9 = H at hP hS ⊢
    have hP : va_P D vwCl [(qm, .inr (5, [.int (nI 1), .int (nI n), .int (nI ni), .int (nI no), .ref mk, .ref m0, .ref m1, .ref mi, .ref mo, .ref ml, .ref mf, .ref ma, .int (nI cl), .ref mfd, .ref mts, .int (nI tc), .ref mg, .ref mb]))] H := hP
    have hD : va_D A [(qm, .inr (5, [.int (nI 1), .int (nI n), .int (nI ni), .int (nI no), .ref mk, .ref m0, .ref m1, .ref mi, .ref mo, .ref ml, .ref mf, .ref ma, .int (nI cl), .ref mfd, .ref mts, .int (nI tc), .ref mg, .ref mb]))] := hD
    refine lv_if_eq (tgt := 22) hx hb dX5_shown_17 (by decide) (fun c_17 => ?_) (fun c_17 => ?_)
    · skip
      rw [zc_if0] at c_17
      exact absurd (by decide) c_17
    · skip
      rw [zc_if0] at c_17
      have c_17 := Classical.not_not.mp c_17
      refine lv_iconst (v := (nI 0)) hx hb dX5_shown_20 (by decide) ?_
      exact W.iret (v := (nI 0)) hx hb hr (fun t_9 ht_9 hW_9 => ⟨⟨(nI 0), (), rfl, rfl, ⟨by rw [ht_9]; exact hP, hD⟩⟩, hS.F ht_9⟩) hS.2.2 dX5_shown_21
  · skip
    rw [zc_if0] at c_6
    have c_6 := Classical.not_not.mp c_6
    exact absurd c_6 h

set_option maxHeartbeats 4000000 in
set_option maxRecDepth 100000 in
theorem c_X5_shows_no (l : Launch) (D : va_G) (cI cJ cZ : ClassId) (qm : Nat) (mk : Nat) (m0 : Nat) (m1 : Nat) (mi : Nat) (mo : Nat) (ml : Nat) (mf : Nat) (ma : Nat) (mfd : Nat) (mts : Nat) (mg : Nat) (mb : Nat) (cd : Int32) (n : Nat) (ni : Nat) (no : Nat) (cl : Nat) (tc : Nat) (b : Int32) (k : Int32) (sz : Nat) (A : Nat → Prop) (hAe : A = va_A [(qm, .inr (5, [.int cd, .int (nI n), .int (nI ni), .int (nI no), .ref mk, .ref m0, .ref m1, .ref mi, .ref mo, .ref ml, .ref mf, .ref ma, .int (nI cl), .ref mfd, .ref mts, .int (nI tc), .ref mg, .ref mb]))] sz) (h : ¬ isN cl k) : Met l yX5_shows wsX5_shows ({ frames := 1, cells := 0, slots := 0, locals := 21 } : Room) (va_Pc [.ref qm, .int b, .int k] (PW D cI cJ cZ [(qm, .inr (5, [.int cd, .int (nI n), .int (nI ni), .int (nI no), .ref mk, .ref m0, .ref m1, .ref mi, .ref mo, .ref ml, .ref mf, .ref ma, .int (nI cl), .ref mfd, .ref mts, .int (nI tc), .ref mg, .ref mb]))] sz)) (va_Qi (fun (r_9 : Int32) (_u9 : Unit) => r_9 = (nI 0)) (fun (_u9 : Unit) t => PQ D A [(qm, .inr (5, [.int (nI 1), .int (nI n), .int (nI ni), .int (nI no), .ref mk, .ref m0, .ref m1, .ref mi, .ref mo, .ref ml, .ref mf, .ref ma, .int (nI cl), .ref mfd, .ref mts, .int (nI tc), .ref mg, .ref mb]))] t) A) 0 0 A := by
  refine Met.ofW (cc := cX5_shows) (maxL := 3) (ret := (some .boolean)) (by decide) rfl ?_
  intro p e s m args below meth c s₁ B hml hv
  obtain ⟨rfl, hsz, ⟨hP, hK, hNB⟩, hD0⟩ := hv
  have hx := B.exec
  have hb := B.bytes
  have hr := B.returns
  have hts := atoms_spec (ws := wsX5_shows) B.pre
  have hown : s.vm.findClass RX5 = some m.cls := findClass_of_methodNamed B.named
  have hlocks := B.notSynchronized
  subst hsz
  have hD : va_D A [(qm, .inr (5, [.int cd, .int (nI n), .int (nI ni), .int (nI no), .ref mk, .ref m0, .ref m1, .ref mi, .ref mo, .ref ml, .ref mf, .ref ma, .int (nI cl), .ref mfd, .ref mts, .int (nI tc), .ref mg, .ref mb]))] := by rw [hAe]; exact hD0.self
  have hA : ∀ q : Nat, s.heap.size ≤ q → A q := fun q h => by rw [hAe]; exact Or.inr h
  have hS : va_S A s.heap s.heap [] := va_S.rf
  have hl := lv_entry ([.ref qm, .int b, .int k]) (n := 3) (Nat.le_of_ble_eq_true rfl)
  rw [lg_entry_eq]
  generalize (lg_sl ([.ref qm, .int b, .int k]) ++ List.replicate (3 - (lg_sl ([.ref qm, .int b, .int k])).length) Slot.unset).toArray = ls at hl ⊢
  have hl : lv_has ls 3 [(0, .ref qm), (1, .int b), (2, .int k)] := hl
  refine lv_aload_n hx hb dX5_shows_0 rfl (lv_at hl 0 rfl) ?_
  refine lv_aload_n hx hb dX5_shows_1 rfl (lv_at hl 0 rfl) ?_
  refine lv_iload_n hx hb dX5_shows_2 rfl (lv_at hl 2 rfl) ?_
  have hPc := hP.sub (ws' := [(qm, .inr (5, [.int cd, .int (nI n), .int (nI ni), .int (nI no), .ref mk, .ref m0, .ref m1, .ref mi, .ref mo, .ref ml, .ref mf, .ref ma, .int (nI cl), .ref mfd, .ref mts, .int (nI tc), .ref mg, .ref mb]))]) [0] rfl
  refine vp_callSi (va_runV (As := [.int k]) (rest := [.ref qm]) ⟨hx, hb, hml, hown, hts⟩ (c_X5_isClass l D cI cJ cZ qm mk m0 m1 mi mo ml mf ma mfd mts mg mb cd n ni no cl tc k) (cwV 1 hts gX5_shows_X5_isClass rfl rfl rfl (by decide +kernel) ⟨Nat.le_of_ble_eq_true rfl, Nat.le_of_ble_eq_true rfl⟩) ⟨PR.blind, va_recv hK hPc (ci := 5) (q0 := 0) rfl rfl, fun U hU hW => ⟨rfl, PR.to hPc hK hNB hU hW⟩⟩ rfl rfl hl.1 rfl (lv_room (Nat.le_of_ble_eq_true rfl)) dX5_shows_3 ⟨Nat.le_of_ble_eq_true rfl, Nat.le_of_ble_eq_true rfl⟩).run (fun r_1 hrr_1 => ?_)
  subst hrr_1
  refine lv_if_eq (tgt := 13) hx hb dX5_shows_6 (by decide) (fun c_6 => ?_) (fun c_6 => ?_)
  · skip
    rw [zc_if0] at c_6
    refine lv_iconst (v := (nI 1)) hx hb dX5_shows_13 (by decide) ?_
    have hPc := hP.sub (ws' := [(qm, .inr (5, [.int cd, .int (nI n), .int (nI ni), .int (nI no), .ref mk, .ref m0, .ref m1, .ref mi, .ref mo, .ref ml, .ref mf, .ref ma, .int (nI cl), .ref mfd, .ref mts, .int (nI tc), .ref mg, .ref mb]))]) [0] rfl
    have hDc := hD.sub (ws' := [(qm, .inr (5, [.int cd, .int (nI n), .int (nI ni), .int (nI no), .ref mk, .ref m0, .ref m1, .ref mi, .ref mo, .ref ml, .ref mf, .ref ma, .int (nI cl), .ref mfd, .ref mts, .int (nI tc), .ref mg, .ref mb]))]) [0] (by decide) rfl
    have hFc := va_free (wc := [(qm, .inr (5, [.int cd, .int (nI n), .int (nI ni), .int (nI no), .ref mk, .ref m0, .ref m1, .ref mi, .ref mo, .ref ml, .ref mf, .ref ma, .int (nI cl), .ref mfd, .ref mts, .int (nI tc), .ref mg, .ref mb]))]) hD hS hA [0] rfl
    refine va_calli (va_runV (As := [.int (nI 1)]) (rest := []) ⟨hx, hb, hml, hown, hts⟩ (c_X5_refuses l D cI cJ cZ qm mk m0 m1 mi mo ml mf ma mfd mts mg mb cd n ni no cl tc 1 s.heap.size _ rfl (by omega)) (cwV 1 hts gX5_shows_X5_refuses rfl rfl rfl (by decide +kernel) ⟨Nat.le_of_ble_eq_true rfl, Nat.le_of_ble_eq_true rfl⟩) ⟨PW.blind, va_recv hK hPc (ci := 5) (q0 := 0) rfl rfl, fun U hU hW => ⟨rfl, PW.to hPc hK hNB hDc hU hW⟩⟩ rfl rfl hl.1 rfl (lv_room (Nat.le_of_ble_eq_true rfl)) dX5_shows_14 ⟨Nat.le_of_ble_eq_true rfl, Nat.le_of_ble_eq_true rfl⟩) hS (fun q _ h => hFc q h) hFc (fun r_2 u_9 t_9 H1_9 locs ht_9 hvm_9 hw_9 hB_9 hz1_9 hk1_9 hS => ?_)
    obtain ⟨hP1_9, hD1_9⟩ := hB_9
    rw [ht_9] at hP1_9
    obtain rfl := hw_9
    obtain ⟨hP, hD⟩ := va_join (wr := []) (w1 := [(qm, .inr (5, [.int (nI 1), .int (nI n), .int (nI ni), .int (nI no), .ref mk, .ref m0, .ref m1, .ref mi, .ref mo, .ref ml, .ref mf, .ref ma, .int (nI cl), .ref mfd, .ref mts, .int (nI tc), .ref mg, .ref mb]))]) hP hD [0] [] rfl rfl (by decide) (by decide) hk1_9 hFc hP1_9 hD1_9
    generalize H1_9 = H at hP hS ⊢
    have hP : va_P D vwCl [(qm, .inr (5, [.int (nI 1), .int (nI n), .int (nI ni), .int (nI no), .ref mk, .ref m0, .ref m1, .ref mi, .ref mo, .ref ml, .ref mf, .ref ma, .int (nI cl), .ref mfd, .ref mts, .int (nI tc), .ref mg, .ref mb]))] H := hP
    have hD : va_D A [(qm, .inr (5, [.int (nI 1), .int (nI n), .int (nI ni), .int (nI no), .ref mk, .ref m0, .ref m1, .ref mi, .ref mo, .ref ml, .ref mf, .ref ma, .int (nI cl), .ref mfd, .ref mts, .int (nI tc), .ref mg, .ref mb]))] := hD
    refine lv_if_ne (tgt := 38) hx hb dX5_shows_17 (by decide) (fun c_17 => ?_) (fun c_17 => ?_)
    · skip
      rw [zc_if0] at c_17
      have c_17 := Classical.not_not.mp c_17
      refine lv_iconst (v := (nI 0)) hx hb dX5_shows_38 (by decide) ?_
      exact W.zret (v := (nI 0)) hx hb hr (rfl) (fun t_9 ht_9 hW_9 => ⟨⟨(nI 0), (), rfl, rfl, ⟨by rw [ht_9]; exact hP, hD⟩⟩, hS.F ht_9⟩) hS.2.2 dX5_shows_39
    · skip
      rw [zc_if0] at c_17
      exact absurd (by decide) c_17
  · skip
    rw [zc_if0] at c_6
    have c_6 := Classical.not_not.mp c_6
    exact absurd c_6 h

set_option maxHeartbeats 4000000 in
set_option maxRecDepth 100000 in
theorem c_X5_value_ok (l : Launch) (D : va_G) (cI cJ cZ : ClassId) (qm : Nat) (mk : Nat) (m0 : Nat) (m1 : Nat) (mi : Nat) (mo : Nat) (ml : Nat) (mf : Nat) (ma : Nat) (mfd : Nat) (mts : Nat) (mg : Nat) (mb : Nat) (cd : Int32) (n : Nat) (ni : Nat) (no : Nat) (cl : Nat) (tc : Nat) (kd : Nat → Int32) (s0 : Nat → Int32) (s1 : Nat → Int32) (io : Nat → Int32) (gd : Nat → Int64) (vl : Nat → Int64) (j : Nat) (a : Int32) (sz : Nat) (A : Nat → Prop) (hAe : A = va_A [(qm, .inr (5, [.int cd, .int (nI n), .int (nI ni), .int (nI no), .ref mk, .ref m0, .ref m1, .ref mi, .ref mo, .ref ml, .ref mf, .ref ma, .int (nI cl), .ref mfd, .ref mts, .int (nI tc), .ref mg, .ref mb])), (mk, .inl (cI, 100, .inl kd)), (m0, .inl (cI, 100, .inl s0)), (m1, .inl (cI, 100, .inl s1)), (mi, .inl (cI, 100, .inl io)), (mg, .inl (cJ, 100, .inr (.inl gd)))] sz) (hn : n ≤ 100) (hwf : WF n kd s0 s1) (hkd : KD n kd) (hio : IOK n kd io) (hV : VOK n kd s0 s1 io vl) (hni : ni ≤ 10) (hj : j < n) : Met l yX5_value wsX5_value ({ frames := 2, cells := 0, slots := 0, locals := 55 } : Room) (va_Pc [.ref qm, .int (nI j), .int a] (PW D cI cJ cZ [(qm, .inr (5, [.int cd, .int (nI n), .int (nI ni), .int (nI no), .ref mk, .ref m0, .ref m1, .ref mi, .ref mo, .ref ml, .ref mf, .ref ma, .int (nI cl), .ref mfd, .ref mts, .int (nI tc), .ref mg, .ref mb])), (mk, .inl (cI, 100, .inl kd)), (m0, .inl (cI, 100, .inl s0)), (m1, .inl (cI, 100, .inl s1)), (mi, .inl (cI, 100, .inl io)), (mg, .inl (cJ, 100, .inr (.inl gd)))] sz)) (va_Qi (fun (r_9 : Int32) (u9 : (Nat → Int64)) => match u9 with | gd2 => r_9 = (bitW (vl (knownN ni a / 64 * 100 + j)) (nI (knownN ni a)))) (fun (u9 : (Nat → Int64)) t => match u9 with | gd2 => PQ D A [(qm, .inr (5, [.int (nI 0), .int (nI n), .int (nI ni), .int (nI no), .ref mk, .ref m0, .ref m1, .ref mi, .ref mo, .ref ml, .ref mf, .ref ma, .int (nI cl), .ref mfd, .ref mts, .int (nI tc), .ref mg, .ref mb])), (mk, .inl (cI, 100, .inl kd)), (m0, .inl (cI, 100, .inl s0)), (m1, .inl (cI, 100, .inl s1)), (mi, .inl (cI, 100, .inl io)), (mg, .inl (cJ, 100, .inr (.inl gd2)))] t) A) 0 0 A := by
  refine Met.ofW (cc := cX5_value) (maxL := 4) (ret := (some .int)) (by decide) rfl ?_
  intro p e s m args below meth c s₁ B hml hv
  obtain ⟨rfl, hsz, ⟨hP, hK, hNB⟩, hD0⟩ := hv
  have hx := B.exec
  have hb := B.bytes
  have hr := B.returns
  have hts := atoms_spec (ws := wsX5_value) B.pre
  have hown : s.vm.findClass RX5 = some m.cls := findClass_of_methodNamed B.named
  have hlocks := B.notSynchronized
  have hiX5 : ∀ w ∈ u_ws RX5 TX5 18, w ∈ wsX5_value := by decide +kernel
  subst hsz
  have hD : va_D A [(qm, .inr (5, [.int cd, .int (nI n), .int (nI ni), .int (nI no), .ref mk, .ref m0, .ref m1, .ref mi, .ref mo, .ref ml, .ref mf, .ref ma, .int (nI cl), .ref mfd, .ref mts, .int (nI tc), .ref mg, .ref mb])), (mk, .inl (cI, 100, .inl kd)), (m0, .inl (cI, 100, .inl s0)), (m1, .inl (cI, 100, .inl s1)), (mi, .inl (cI, 100, .inl io)), (mg, .inl (cJ, 100, .inr (.inl gd)))] := by rw [hAe]; exact hD0.self
  have hA : ∀ q : Nat, s.heap.size ≤ q → A q := fun q h => by rw [hAe]; exact Or.inr h
  have hS : va_S A s.heap s.heap [] := va_S.rf
  have hl := lv_entry ([.ref qm, .int (nI j), .int a]) (n := 4) (Nat.le_of_ble_eq_true rfl)
  rw [lg_entry_eq]
  generalize (lg_sl ([.ref qm, .int (nI j), .int a]) ++ List.replicate (4 - (lg_sl ([.ref qm, .int (nI j), .int a])).length) Slot.unset).toArray = ls at hl ⊢
  have hl : lv_has ls 4 [(0, .ref qm), (1, .int (nI j)), (2, .int a)] := hl
  have hw16 := wordsN_le hni
  have hkw := knownN_w hni a
  have hkl := knownN_lt hni a
  have h2p : 2 ^ ni ≤ 2 ^ 10 := Nat.pow_le_pow_right (by decide) hni
  refine lv_aload_n hx hb dX5_value_0 rfl (lv_at hl 0 rfl) ?_
  refine lv_aload_n hx hb dX5_value_1 rfl (lv_at hl 0 rfl) ?_
  refine lv_iload_n hx hb dX5_value_2 rfl (lv_at hl 1 rfl) ?_
  have hPc := hP.sub (ws' := [(qm, .inr (5, [.int cd, .int (nI n), .int (nI ni), .int (nI no), .ref mk, .ref m0, .ref m1, .ref mi, .ref mo, .ref ml, .ref mf, .ref ma, .int (nI cl), .ref mfd, .ref mts, .int (nI tc), .ref mg, .ref mb]))]) [0] rfl
  refine vp_callSi (va_runV (As := [.int (nI j)]) (rest := [.ref qm]) ⟨hx, hb, hml, hown, hts⟩ (c_X5_isNet l D cI cJ cZ qm mk m0 m1 mi mo ml mf ma mfd mts mg mb cd n ni no cl tc (nI j)) (cwV 1 hts gX5_value_X5_isNet rfl rfl rfl (by decide +kernel) ⟨Nat.le_of_ble_eq_true rfl, Nat.le_of_ble_eq_true rfl⟩) ⟨PR.blind, va_recv hK hPc (ci := 5) (q0 := 0) rfl rfl, fun U hU hW => ⟨rfl, PR.to hPc hK hNB hU hW⟩⟩ rfl rfl hl.1 rfl (lv_room (Nat.le_of_ble_eq_true rfl)) dX5_value_3 ⟨Nat.le_of_ble_eq_true rfl, Nat.le_of_ble_eq_true rfl⟩).run (fun r_1 hrr_1 => ?_)
  subst hrr_1
  refine lv_if_eq (tgt := 13) hx hb dX5_value_6 (by decide) (fun c_6 => ?_) (fun c_6 => ?_)
  · skip
    rw [zc_if0] at c_6
    exact absurd (isN_nI (by omega) hj) c_6
  · skip
    rw [zc_if0] at c_6
    have c_6 := Classical.not_not.mp c_6
    refine lv_iconst (v := (nI 0)) hx hb dX5_value_9 (by decide) ?_
    refine lv_goto (tgt := 14) hx hb dX5_value_10 (by decide) ?_
    have hPc := hP.sub (ws' := [(qm, .inr (5, [.int cd, .int (nI n), .int (nI ni), .int (nI no), .ref mk, .ref m0, .ref m1, .ref mi, .ref mo, .ref ml, .ref mf, .ref ma, .int (nI cl), .ref mfd, .ref mts, .int (nI tc), .ref mg, .ref mb]))]) [0] rfl
    have hDc := hD.sub (ws' := [(qm, .inr (5, [.int cd, .int (nI n), .int (nI ni), .int (nI no), .ref mk, .ref m0, .ref m1, .ref mi, .ref mo, .ref ml, .ref mf, .ref ma, .int (nI cl), .ref mfd, .ref mts, .int (nI tc), .ref mg, .ref mb]))]) [0] (by decide) rfl
    have hFc := va_free (wc := [(qm, .inr (5, [.int cd, .int (nI n), .int (nI ni), .int (nI no), .ref mk, .ref m0, .ref m1, .ref mi, .ref mo, .ref ml, .ref mf, .ref ma, .int (nI cl), .ref mfd, .ref mts, .int (nI tc), .ref mg, .ref mb]))]) hD hS hA [0] rfl
    refine va_calli (va_runV (As := [.int (nI 0)]) (rest := []) ⟨hx, hb, hml, hown, hts⟩ (c_X5_refuses l D cI cJ cZ qm mk m0 m1 mi mo ml mf ma mfd mts mg mb cd n ni no cl tc 0 s.heap.size _ rfl (by omega)) (cwV 1 hts gX5_value_X5_refuses rfl rfl rfl (by decide +kernel) ⟨Nat.le_of_ble_eq_true rfl, Nat.le_of_ble_eq_true rfl⟩) ⟨PW.blind, va_recv hK hPc (ci := 5) (q0 := 0) rfl rfl, fun U hU hW => ⟨rfl, PW.to hPc hK hNB hDc hU hW⟩⟩ rfl rfl hl.1 rfl (lv_room (Nat.le_of_ble_eq_true rfl)) dX5_value_14 ⟨Nat.le_of_ble_eq_true rfl, Nat.le_of_ble_eq_true rfl⟩) hS (fun q _ h => hFc q h) hFc (fun r_2 u_9 t_9 H1_9 locs ht_9 hvm_9 hw_9 hB_9 hz1_9 hk1_9 hS => ?_)
    obtain ⟨hP1_9, hD1_9⟩ := hB_9
    rw [ht_9] at hP1_9
    obtain rfl := hw_9
    obtain ⟨hP, hD⟩ := va_join (wr := [(mk, .inl (cI, 100, .inl kd)), (m0, .inl (cI, 100, .inl s0)), (m1, .inl (cI, 100, .inl s1)), (mi, .inl (cI, 100, .inl io)), (mg, .inl (cJ, 100, .inr (.inl gd)))]) (w1 := [(qm, .inr (5, [.int (nI 0), .int (nI n), .int (nI ni), .int (nI no), .ref mk, .ref m0, .ref m1, .ref mi, .ref mo, .ref ml, .ref mf, .ref ma, .int (nI cl), .ref mfd, .ref mts, .int (nI tc), .ref mg, .ref mb]))]) hP hD [0] [1, 2, 3, 4, 5] rfl rfl (by decide) (by decide) hk1_9 hFc hP1_9 hD1_9
    have hP := hP.sub (ws' := [(qm, .inr (5, [.int (nI 0), .int (nI n), .int (nI ni), .int (nI no), .ref mk, .ref m0, .ref m1, .ref mi, .ref mo, .ref ml, .ref mf, .ref ma, .int (nI cl), .ref mfd, .ref mts, .int (nI tc), .ref mg, .ref mb])), (mk, .inl (cI, 100, .inl kd)), (m0, .inl (cI, 100, .inl s0)), (m1, .inl (cI, 100, .inl s1)), (mi, .inl (cI, 100, .inl io)), (mg, .inl (cJ, 100, .inr (.inl gd)))]) [5, 0, 1, 2, 3, 4] rfl
    have hD := hD.sub (ws' := [(qm, .inr (5, [.int (nI 0), .int (nI n), .int (nI ni), .int (nI no), .ref mk, .ref m0, .ref m1, .ref mi, .ref mo, .ref ml, .ref mf, .ref ma, .int (nI cl), .ref mfd, .ref mts, .int (nI tc), .ref mg, .ref mb])), (mk, .inl (cI, 100, .inl kd)), (m0, .inl (cI, 100, .inl s0)), (m1, .inl (cI, 100, .inl s1)), (mi, .inl (cI, 100, .inl io)), (mg, .inl (cJ, 100, .inr (.inl gd)))]) [5, 0, 1, 2, 3, 4] (by decide) rfl
    generalize H1_9 = H at hP hS ⊢
    have hP : va_P D vwCl [(qm, .inr (5, [.int (nI 0), .int (nI n), .int (nI ni), .int (nI no), .ref mk, .ref m0, .ref m1, .ref mi, .ref mo, .ref ml, .ref mf, .ref ma, .int (nI cl), .ref mfd, .ref mts, .int (nI tc), .ref mg, .ref mb])), (mk, .inl (cI, 100, .inl kd)), (m0, .inl (cI, 100, .inl s0)), (m1, .inl (cI, 100, .inl s1)), (mi, .inl (cI, 100, .inl io)), (mg, .inl (cJ, 100, .inr (.inl gd)))] H := hP
    have hD : va_D A [(qm, .inr (5, [.int (nI 0), .int (nI n), .int (nI ni), .int (nI no), .ref mk, .ref m0, .ref m1, .ref mi, .ref mo, .ref ml, .ref mf, .ref ma, .int (nI cl), .ref mfd, .ref mts, .int (nI tc), .ref mg, .ref mb])), (mk, .inl (cI, 100, .inl kd)), (m0, .inl (cI, 100, .inl s0)), (m1, .inl (cI, 100, .inl s1)), (mi, .inl (cI, 100, .inl io)), (mg, .inl (cJ, 100, .inr (.inl gd)))] := hD
    refine lv_if_eq (tgt := 22) hx hb dX5_value_17 (by decide) (fun c_17 => ?_) (fun c_17 => ?_)
    · skip
      rw [zc_if0] at c_17
      refine lv_iload_n hx hb dX5_value_22 rfl (lv_at hl 2 rfl) ?_
      refine lv_aload_n hx hb dX5_value_23 rfl (lv_at hl 0 rfl) ?_
      have hPc := hP.sub (ws' := [(qm, .inr (5, [.int (nI 0), .int (nI n), .int (nI ni), .int (nI no), .ref mk, .ref m0, .ref m1, .ref mi, .ref mo, .ref ml, .ref mf, .ref ma, .int (nI cl), .ref mfd, .ref mts, .int (nI tc), .ref mg, .ref mb]))]) [0] rfl
      refine vp_callSi (va_runV (As := []) (rest := [.int a]) ⟨hx, hb, hml, hown, hts⟩ (c_X5_all l D cI cJ cZ qm mk m0 m1 mi mo ml mf ma mfd mts mg mb (nI 0) n ni no cl tc (by omega)) (cwV 0 hts gX5_value_X5_all rfl rfl rfl (by decide +kernel) ⟨Nat.le_of_ble_eq_true rfl, Nat.le_of_ble_eq_true rfl⟩) ⟨PR.blind, va_recv hK hPc (ci := 5) (q0 := 0) rfl rfl, fun U hU hW => ⟨rfl, PR.to hPc hK hNB hU hW⟩⟩ rfl rfl hl.1 rfl (lv_room (Nat.le_of_ble_eq_true rfl)) dX5_value_24 ⟨Nat.le_of_ble_eq_true rfl, Nat.le_of_ble_eq_true rfl⟩).run (fun r_3 hrr_3 => ?_)
      subst hrr_3
      refine lv_iconst (v := (nI 1)) hx hb dX5_value_27 (by decide) ?_
      refine lv_isub hx hb dX5_value_28 ?_
      refine lv_iand hx hb dX5_value_29 ?_
      refine zz_i (z := (nI (knownN ni a))) (zs_known hni a) ?_
      refine lv_istore_n (lv' := [(3, .int (nI (knownN ni a))), (0, .ref qm), (1, .int (nI j)), (2, .int a)]) hx hb dX5_value_30 rfl hl (by decide) rfl (fun ls hl => ?_)
      refine lv_aload_n hx hb dX5_value_31 rfl (lv_at hl 1 rfl) ?_
      refine lv_aload_n hx hb dX5_value_32 rfl (lv_at hl 1 rfl) ?_
      refine va_get (D := D) (ci := 5) (v := .ref mg) (C := RX5) (T := TX5) (N := 18) hx hb hts hiX5 hown hK hP 0 rfl rfl 16 (by decide) (hts (.fieldLink RX5 41 "FaultSearchModel" "good" "[J") (by decide +kernel)) (fun _ h9 => h9) rfl dX5_value_33 ?_
      refine lv_iload_n hx hb dX5_value_36 rfl (lv_at hl 0 rfl) ?_
      refine lv_bipush (v := (nI 64)) hx hb dX5_value_37 (by decide) ?_
      refine lv_idiv hx hb dX5_value_39 (by decide) ?_
      refine zz_i (z := (nI ((knownN ni a) / 64))) (pk_div (by omega) (by decide) (by decide)) ?_
      refine lv_iconst (v := (-1)) hx hb dX5_value_40 (by decide) ?_
      have hPc := hP.sub (ws' := [(qm, .inr (5, [.int (nI 0), .int (nI n), .int (nI ni), .int (nI no), .ref mk, .ref m0, .ref m1, .ref mi, .ref mo, .ref ml, .ref mf, .ref ma, .int (nI cl), .ref mfd, .ref mts, .int (nI tc), .ref mg, .ref mb])), (mk, .inl (cI, 100, .inl kd)), (m0, .inl (cI, 100, .inl s0)), (m1, .inl (cI, 100, .inl s1)), (mi, .inl (cI, 100, .inl io)), (mg, .inl (cJ, 100, .inr (.inl gd)))]) [0, 1, 2, 3, 4, 5] rfl
      have hDc := hD.sub (ws' := [(qm, .inr (5, [.int (nI 0), .int (nI n), .int (nI ni), .int (nI no), .ref mk, .ref m0, .ref m1, .ref mi, .ref mo, .ref ml, .ref mf, .ref ma, .int (nI cl), .ref mfd, .ref mts, .int (nI tc), .ref mg, .ref mb])), (mk, .inl (cI, 100, .inl kd)), (m0, .inl (cI, 100, .inl s0)), (m1, .inl (cI, 100, .inl s1)), (mi, .inl (cI, 100, .inl io)), (mg, .inl (cJ, 100, .inr (.inl gd)))]) [0, 1, 2, 3, 4, 5] (by decide) rfl
      have hFc := va_free (wc := [(qm, .inr (5, [.int (nI 0), .int (nI n), .int (nI ni), .int (nI no), .ref mk, .ref m0, .ref m1, .ref mi, .ref mo, .ref ml, .ref mf, .ref ma, .int (nI cl), .ref mfd, .ref mts, .int (nI tc), .ref mg, .ref mb])), (mk, .inl (cI, 100, .inl kd)), (m0, .inl (cI, 100, .inl s0)), (m1, .inl (cI, 100, .inl s1)), (mi, .inl (cI, 100, .inl io)), (mg, .inl (cJ, 100, .inr (.inl gd)))]) hD hS hA [0, 1, 2, 3, 4, 5] rfl
      refine va_callv (va_runV (As := [.ref mg, .int (nI ((knownN ni a) / 64)), .int (-1)]) (rest := []) ⟨hx, hb, hml, hown, hts⟩ (c_X5_tellG l D cI cJ cZ qm mk m0 m1 mi mo ml mf ma mfd mts mg mb (nI 0) n ni no cl tc kd s0 s1 io mg gd ((knownN ni a) / 64) (fun j => vl (knownN ni a / 64 * 100 + j)) H.size _ rfl (by omega) hwf hkd hio (by omega) (hV _ (by omega))) (cwV 3 hts gX5_value_X5_tell rfl rfl rfl (by decide +kernel) ⟨Nat.le_of_ble_eq_true rfl, Nat.le_of_ble_eq_true rfl⟩) ⟨PW.blind, va_recv hK hPc (ci := 5) (q0 := 0) rfl rfl, fun U hU hW => ⟨rfl, PW.to hPc hK hNB hDc hU hW⟩⟩ rfl rfl hl.1 rfl (lv_room (Nat.le_of_ble_eq_true rfl)) dX5_value_41 ⟨Nat.le_of_ble_eq_true rfl, Nat.le_of_ble_eq_true rfl⟩) hS (fun q _ h => hFc q h) hFc (fun u_9 t_9 H1_9 locs ht_9 hvm_9 hw_9 hB_9 hz1_9 hk1_9 hS => ?_)
      obtain ⟨tv2_5, rfl⟩ : ∃ z, z = u_9 := ⟨_, rfl⟩
      obtain ⟨hP1_9, hD1_9⟩ := hB_9
      rw [ht_9] at hP1_9
      have k_T := hw_9
      have k_T : ∀ j, j < n → tv2_5 j = (fun j => vl (knownN ni a / 64 * 100 + j)) j := k_T
      obtain ⟨hP, hD⟩ := va_join (wr := []) (w1 := [(qm, .inr (5, [.int (nI 0), .int (nI n), .int (nI ni), .int (nI no), .ref mk, .ref m0, .ref m1, .ref mi, .ref mo, .ref ml, .ref mf, .ref ma, .int (nI cl), .ref mfd, .ref mts, .int (nI tc), .ref mg, .ref mb])), (mk, .inl (cI, 100, .inl kd)), (m0, .inl (cI, 100, .inl s0)), (m1, .inl (cI, 100, .inl s1)), (mi, .inl (cI, 100, .inl io)), (mg, .inl (cJ, 100, .inr (.inl tv2_5)))]) hP hD [0, 1, 2, 3, 4, 5] [] rfl rfl (by decide) (by decide) hk1_9 hFc hP1_9 hD1_9
      generalize H1_9 = H at hP hS ⊢
      have hP : va_P D vwCl [(qm, .inr (5, [.int (nI 0), .int (nI n), .int (nI ni), .int (nI no), .ref mk, .ref m0, .ref m1, .ref mi, .ref mo, .ref ml, .ref mf, .ref ma, .int (nI cl), .ref mfd, .ref mts, .int (nI tc), .ref mg, .ref mb])), (mk, .inl (cI, 100, .inl kd)), (m0, .inl (cI, 100, .inl s0)), (m1, .inl (cI, 100, .inl s1)), (mi, .inl (cI, 100, .inl io)), (mg, .inl (cJ, 100, .inr (.inl tv2_5)))] H := hP
      have hD : va_D A [(qm, .inr (5, [.int (nI 0), .int (nI n), .int (nI ni), .int (nI no), .ref mk, .ref m0, .ref m1, .ref mi, .ref mo, .ref ml, .ref mf, .ref ma, .int (nI cl), .ref mfd, .ref mts, .int (nI tc), .ref mg, .ref mb])), (mk, .inl (cI, 100, .inl kd)), (m0, .inl (cI, 100, .inl s0)), (m1, .inl (cI, 100, .inl s1)), (mi, .inl (cI, 100, .inl io)), (mg, .inl (cJ, 100, .inr (.inl tv2_5)))] := hD
      refine lv_aload_n hx hb dX5_value_44 rfl (lv_at hl 1 rfl) ?_
      refine va_get (D := D) (ci := 5) (v := .ref mg) (C := RX5) (T := TX5) (N := 18) hx hb hts hiX5 hown hK hP 0 rfl rfl 16 (by decide) (hts (.fieldLink RX5 41 "FaultSearchModel" "good" "[J") (by decide +kernel)) (fun _ h9 => h9) rfl dX5_value_45 ?_
      refine lv_iload_n hx hb dX5_value_48 rfl (lv_at hl 2 rfl) ?_
      refine zz_lald hx hb hK hP 5 1 rfl rfl (n := 100) (j := j) (by omega) (by decide) dX5_value_49 ?_
      refine lv_iload_n hx hb dX5_value_50 rfl (lv_at hl 0 rfl) ?_
      refine lv_bipush (v := (nI 64)) hx hb dX5_value_51 (by decide) ?_
      refine lv_irem hx hb dX5_value_53 (by decide) ?_
      refine zz_i (z := (nI ((knownN ni a) % 64))) (pk_rem (by omega) (by decide) (by decide)) ?_
      refine lv_lshr hx hb dX5_value_54 rfl ?_
      refine lv_lconst (v := 1) hx hb dX5_value_55 (by decide) ?_
      refine lv_land hx hb dX5_value_56 ?_
      refine lv_l2i hx hb dX5_value_57 rfl ?_
      exact W.iret (v := ((((tv2_5 j) >>> ((nI ((knownN ni a) % 64)).toInt64 &&& 63)) &&& 1).toInt32)) hx hb hr (fun t_9 ht_9 hW_9 => ⟨⟨((((tv2_5 j) >>> ((nI ((knownN ni a) % 64)).toInt64 &&& 63)) &&& 1).toInt32), tv2_5, rfl, (show ((((tv2_5 j) >>> ((nI ((knownN ni a) % 64)).toInt64 &&& 63)) &&& 1).toInt32) = (bitW (vl (knownN ni a / 64 * 100 + j)) (nI (knownN ni a))) from (by rw [k_T j hj]; exact shW (by omega))), ⟨by rw [ht_9]; exact hP, hD⟩⟩, hS.F ht_9⟩) hS.2.2 dX5_value_58
    · skip
      rw [zc_if0] at c_17
      have c_17 := Classical.not_not.mp c_17
      exact absurd c_17 (by decide)

set_option maxHeartbeats 4000000 in
set_option maxRecDepth 100000 in
theorem c_X5_test_ok (l : Launch) (D : va_G) (cI cJ cZ : ClassId) (qm : Nat) (mk : Nat) (m0 : Nat) (m1 : Nat) (mi : Nat) (mo : Nat) (ml : Nat) (mf : Nat) (ma : Nat) (mfd : Nat) (mts : Nat) (mg : Nat) (mb : Nat) (cd : Int32) (n : Nat) (ni : Nat) (no : Nat) (cl : Nat) (tc : Nat) (kd : Nat → Int32) (s0 : Nat → Int32) (s1 : Nat → Int32) (io : Nat → Int32) (on : Nat → Int32) (cf : Nat → Int32) (gd : Nat → Int64) (bd : Nat → Int64) (vl : Nat → Int64) (k : Nat) (sz : Nat) (A : Nat → Prop) (hAe : A = va_A [(qm, .inr (5, [.int cd, .int (nI n), .int (nI ni), .int (nI no), .ref mk, .ref m0, .ref m1, .ref mi, .ref mo, .ref ml, .ref mf, .ref ma, .int (nI cl), .ref mfd, .ref mts, .int (nI tc), .ref mg, .ref mb])), (mk, .inl (cI, 100, .inl kd)), (m0, .inl (cI, 100, .inl s0)), (m1, .inl (cI, 100, .inl s1)), (mi, .inl (cI, 100, .inl io)), (mo, .inl (cI, 12, .inl on)), (mf, .inl (cI, 600, .inl cf)), (mg, .inl (cJ, 100, .inr (.inl gd))), (mb, .inl (cJ, 100, .inr (.inl bd)))] sz) (hn : n ≤ 100) (hno : no ≤ 12) (hwf : WF n kd s0 s1) (hwo : WO n no on) (hkd : KD n kd) (hio : IOK n kd io) (hV : VOK n kd s0 s1 io vl) (hni : ni ≤ 10) (hcl : cl ≤ 600) (hcf : CFOK n kd cl cf) (hk : k < cl) : Met l yX5_test wsX5_test ({ frames := 4, cells := 0, slots := 0, locals := 104 } : Room) (va_Pc [.ref qm, .int (nI k)] (PW D cI cJ cZ [(qm, .inr (5, [.int cd, .int (nI n), .int (nI ni), .int (nI no), .ref mk, .ref m0, .ref m1, .ref mi, .ref mo, .ref ml, .ref mf, .ref ma, .int (nI cl), .ref mfd, .ref mts, .int (nI tc), .ref mg, .ref mb])), (mk, .inl (cI, 100, .inl kd)), (m0, .inl (cI, 100, .inl s0)), (m1, .inl (cI, 100, .inl s1)), (mi, .inl (cI, 100, .inl io)), (mo, .inl (cI, 12, .inl on)), (mf, .inl (cI, 600, .inl cf)), (mg, .inl (cJ, 100, .inr (.inl gd))), (mb, .inl (cJ, 100, .inr (.inl bd)))] sz)) (va_Qi (fun (r_9 : Int32) (u9 : (Nat → Int64) × (Nat → Int64)) => match u9 with | (gd2, bd2) => r_9 = (leastF (fun w => shw kd s0 s1 on vl n ni no (cn (cf k)) w) (wordsN ni) 0)) (fun (u9 : (Nat → Int64) × (Nat → Int64)) t => match u9 with | (gd2, bd2) => PQ D A [(qm, .inr (5, [.int (nI 0), .int (nI n), .int (nI ni), .int (nI no), .ref mk, .ref m0, .ref m1, .ref mi, .ref mo, .ref ml, .ref mf, .ref ma, .int (nI cl), .ref mfd, .ref mts, .int (nI tc), .ref mg, .ref mb])), (mk, .inl (cI, 100, .inl kd)), (m0, .inl (cI, 100, .inl s0)), (m1, .inl (cI, 100, .inl s1)), (mi, .inl (cI, 100, .inl io)), (mo, .inl (cI, 12, .inl on)), (mf, .inl (cI, 600, .inl cf)), (mg, .inl (cJ, 100, .inr (.inl gd2))), (mb, .inl (cJ, 100, .inr (.inl bd2)))] t) A) 0 0 A := by
  refine Met.ofW (cc := cX5_test) (maxL := 2) (ret := (some .int)) (by decide) rfl ?_
  intro p e s m args below meth c s₁ B hml hv
  obtain ⟨rfl, hsz, ⟨hP, hK, hNB⟩, hD0⟩ := hv
  have hx := B.exec
  have hb := B.bytes
  have hr := B.returns
  have hts := atoms_spec (ws := wsX5_test) B.pre
  have hown : s.vm.findClass RX5 = some m.cls := findClass_of_methodNamed B.named
  have hlocks := B.notSynchronized
  have hiX5 : ∀ w ∈ u_ws RX5 TX5 18, w ∈ wsX5_test := by decide +kernel
  subst hsz
  have hD : va_D A [(qm, .inr (5, [.int cd, .int (nI n), .int (nI ni), .int (nI no), .ref mk, .ref m0, .ref m1, .ref mi, .ref mo, .ref ml, .ref mf, .ref ma, .int (nI cl), .ref mfd, .ref mts, .int (nI tc), .ref mg, .ref mb])), (mk, .inl (cI, 100, .inl kd)), (m0, .inl (cI, 100, .inl s0)), (m1, .inl (cI, 100, .inl s1)), (mi, .inl (cI, 100, .inl io)), (mo, .inl (cI, 12, .inl on)), (mf, .inl (cI, 600, .inl cf)), (mg, .inl (cJ, 100, .inr (.inl gd))), (mb, .inl (cJ, 100, .inr (.inl bd)))] := by rw [hAe]; exact hD0.self
  have hA : ∀ q : Nat, s.heap.size ≤ q → A q := fun q h => by rw [hAe]; exact Or.inr h
  have hS : va_S A s.heap s.heap [] := va_S.rf
  have hl := lv_entry ([.ref qm, .int (nI k)]) (n := 2) (Nat.le_of_ble_eq_true rfl)
  rw [lg_entry_eq]
  generalize (lg_sl ([.ref qm, .int (nI k)]) ++ List.replicate (2 - (lg_sl ([.ref qm, .int (nI k)])).length) Slot.unset).toArray = ls at hl ⊢
  have hl : lv_has ls 2 [(0, .ref qm), (1, .int (nI k))] := hl
  refine lv_aload_n hx hb dX5_test_0 rfl (lv_at hl 0 rfl) ?_
  refine lv_aload_n hx hb dX5_test_1 rfl (lv_at hl 0 rfl) ?_
  refine lv_iload_n hx hb dX5_test_2 rfl (lv_at hl 1 rfl) ?_
  have hPc := hP.sub (ws' := [(qm, .inr (5, [.int cd, .int (nI n), .int (nI ni), .int (nI no), .ref mk, .ref m0, .ref m1, .ref mi, .ref mo, .ref ml, .ref mf, .ref ma, .int (nI cl), .ref mfd, .ref mts, .int (nI tc), .ref mg, .ref mb]))]) [0] rfl
  refine vp_callSi (va_runV (As := [.int (nI k)]) (rest := [.ref qm]) ⟨hx, hb, hml, hown, hts⟩ (c_X5_isClass l D cI cJ cZ qm mk m0 m1 mi mo ml mf ma mfd mts mg mb cd n ni no cl tc (nI k)) (cwV 1 hts gX5_test_X5_isClass rfl rfl rfl (by decide +kernel) ⟨Nat.le_of_ble_eq_true rfl, Nat.le_of_ble_eq_true rfl⟩) ⟨PR.blind, va_recv hK hPc (ci := 5) (q0 := 0) rfl rfl, fun U hU hW => ⟨rfl, PR.to hPc hK hNB hU hW⟩⟩ rfl rfl hl.1 rfl (lv_room (Nat.le_of_ble_eq_true rfl)) dX5_test_3 ⟨Nat.le_of_ble_eq_true rfl, Nat.le_of_ble_eq_true rfl⟩).run (fun r_1 hrr_1 => ?_)
  subst hrr_1
  refine lv_if_eq (tgt := 13) hx hb dX5_test_6 (by decide) (fun c_6 => ?_) (fun c_6 => ?_)
  · skip
    rw [zc_if0] at c_6
    exact absurd (isN_nI (by omega) hk) c_6
  · skip
    rw [zc_if0] at c_6
    have c_6 := Classical.not_not.mp c_6
    refine lv_iconst (v := (nI 0)) hx hb dX5_test_9 (by decide) ?_
    refine lv_goto (tgt := 14) hx hb dX5_test_10 (by decide) ?_
    have hPc := hP.sub (ws' := [(qm, .inr (5, [.int cd, .int (nI n), .int (nI ni), .int (nI no), .ref mk, .ref m0, .ref m1, .ref mi, .ref mo, .ref ml, .ref mf, .ref ma, .int (nI cl), .ref mfd, .ref mts, .int (nI tc), .ref mg, .ref mb]))]) [0] rfl
    have hDc := hD.sub (ws' := [(qm, .inr (5, [.int cd, .int (nI n), .int (nI ni), .int (nI no), .ref mk, .ref m0, .ref m1, .ref mi, .ref mo, .ref ml, .ref mf, .ref ma, .int (nI cl), .ref mfd, .ref mts, .int (nI tc), .ref mg, .ref mb]))]) [0] (by decide) rfl
    have hFc := va_free (wc := [(qm, .inr (5, [.int cd, .int (nI n), .int (nI ni), .int (nI no), .ref mk, .ref m0, .ref m1, .ref mi, .ref mo, .ref ml, .ref mf, .ref ma, .int (nI cl), .ref mfd, .ref mts, .int (nI tc), .ref mg, .ref mb]))]) hD hS hA [0] rfl
    refine va_calli (va_runV (As := [.int (nI 0)]) (rest := []) ⟨hx, hb, hml, hown, hts⟩ (c_X5_refuses l D cI cJ cZ qm mk m0 m1 mi mo ml mf ma mfd mts mg mb cd n ni no cl tc 0 s.heap.size _ rfl (by omega)) (cwV 1 hts gX5_test_X5_refuses rfl rfl rfl (by decide +kernel) ⟨Nat.le_of_ble_eq_true rfl, Nat.le_of_ble_eq_true rfl⟩) ⟨PW.blind, va_recv hK hPc (ci := 5) (q0 := 0) rfl rfl, fun U hU hW => ⟨rfl, PW.to hPc hK hNB hDc hU hW⟩⟩ rfl rfl hl.1 rfl (lv_room (Nat.le_of_ble_eq_true rfl)) dX5_test_14 ⟨Nat.le_of_ble_eq_true rfl, Nat.le_of_ble_eq_true rfl⟩) hS (fun q _ h => hFc q h) hFc (fun r_2 u_9 t_9 H1_9 locs ht_9 hvm_9 hw_9 hB_9 hz1_9 hk1_9 hS => ?_)
    obtain ⟨hP1_9, hD1_9⟩ := hB_9
    rw [ht_9] at hP1_9
    obtain rfl := hw_9
    obtain ⟨hP, hD⟩ := va_join (wr := [(mk, .inl (cI, 100, .inl kd)), (m0, .inl (cI, 100, .inl s0)), (m1, .inl (cI, 100, .inl s1)), (mi, .inl (cI, 100, .inl io)), (mo, .inl (cI, 12, .inl on)), (mf, .inl (cI, 600, .inl cf)), (mg, .inl (cJ, 100, .inr (.inl gd))), (mb, .inl (cJ, 100, .inr (.inl bd)))]) (w1 := [(qm, .inr (5, [.int (nI 0), .int (nI n), .int (nI ni), .int (nI no), .ref mk, .ref m0, .ref m1, .ref mi, .ref mo, .ref ml, .ref mf, .ref ma, .int (nI cl), .ref mfd, .ref mts, .int (nI tc), .ref mg, .ref mb]))]) hP hD [0] [1, 2, 3, 4, 5, 6, 7, 8] rfl rfl (by decide) (by decide) hk1_9 hFc hP1_9 hD1_9
    have hP := hP.sub (ws' := [(qm, .inr (5, [.int (nI 0), .int (nI n), .int (nI ni), .int (nI no), .ref mk, .ref m0, .ref m1, .ref mi, .ref mo, .ref ml, .ref mf, .ref ma, .int (nI cl), .ref mfd, .ref mts, .int (nI tc), .ref mg, .ref mb])), (mk, .inl (cI, 100, .inl kd)), (m0, .inl (cI, 100, .inl s0)), (m1, .inl (cI, 100, .inl s1)), (mi, .inl (cI, 100, .inl io)), (mo, .inl (cI, 12, .inl on)), (mf, .inl (cI, 600, .inl cf)), (mg, .inl (cJ, 100, .inr (.inl gd))), (mb, .inl (cJ, 100, .inr (.inl bd)))]) [8, 0, 1, 2, 3, 4, 5, 6, 7] rfl
    have hD := hD.sub (ws' := [(qm, .inr (5, [.int (nI 0), .int (nI n), .int (nI ni), .int (nI no), .ref mk, .ref m0, .ref m1, .ref mi, .ref mo, .ref ml, .ref mf, .ref ma, .int (nI cl), .ref mfd, .ref mts, .int (nI tc), .ref mg, .ref mb])), (mk, .inl (cI, 100, .inl kd)), (m0, .inl (cI, 100, .inl s0)), (m1, .inl (cI, 100, .inl s1)), (mi, .inl (cI, 100, .inl io)), (mo, .inl (cI, 12, .inl on)), (mf, .inl (cI, 600, .inl cf)), (mg, .inl (cJ, 100, .inr (.inl gd))), (mb, .inl (cJ, 100, .inr (.inl bd)))]) [8, 0, 1, 2, 3, 4, 5, 6, 7] (by decide) rfl
    generalize H1_9 = H at hP hS ⊢
    have hP : va_P D vwCl [(qm, .inr (5, [.int (nI 0), .int (nI n), .int (nI ni), .int (nI no), .ref mk, .ref m0, .ref m1, .ref mi, .ref mo, .ref ml, .ref mf, .ref ma, .int (nI cl), .ref mfd, .ref mts, .int (nI tc), .ref mg, .ref mb])), (mk, .inl (cI, 100, .inl kd)), (m0, .inl (cI, 100, .inl s0)), (m1, .inl (cI, 100, .inl s1)), (mi, .inl (cI, 100, .inl io)), (mo, .inl (cI, 12, .inl on)), (mf, .inl (cI, 600, .inl cf)), (mg, .inl (cJ, 100, .inr (.inl gd))), (mb, .inl (cJ, 100, .inr (.inl bd)))] H := hP
    have hD : va_D A [(qm, .inr (5, [.int (nI 0), .int (nI n), .int (nI ni), .int (nI no), .ref mk, .ref m0, .ref m1, .ref mi, .ref mo, .ref ml, .ref mf, .ref ma, .int (nI cl), .ref mfd, .ref mts, .int (nI tc), .ref mg, .ref mb])), (mk, .inl (cI, 100, .inl kd)), (m0, .inl (cI, 100, .inl s0)), (m1, .inl (cI, 100, .inl s1)), (mi, .inl (cI, 100, .inl io)), (mo, .inl (cI, 12, .inl on)), (mf, .inl (cI, 600, .inl cf)), (mg, .inl (cJ, 100, .inr (.inl gd))), (mb, .inl (cJ, 100, .inr (.inl bd)))] := hD
    refine lv_if_eq (tgt := 24) hx hb dX5_test_17 (by decide) (fun c_17 => ?_) (fun c_17 => ?_)
    · skip
      rw [zc_if0] at c_17
      refine lv_aload_n hx hb dX5_test_24 rfl (lv_at hl 0 rfl) ?_
      refine lv_aload_n hx hb dX5_test_25 rfl (lv_at hl 0 rfl) ?_
      refine va_get (D := D) (ci := 5) (v := .ref mf) (C := RX5) (T := TX5) (N := 18) hx hb hts hiX5 hown hK hP 0 rfl rfl 10 (by decide) (hts (.fieldLink RX5 28 "FaultSearchModel" "classFirst" "[I") (by decide +kernel)) (fun _ h9 => h9) rfl dX5_test_26 ?_
      refine lv_iload_n hx hb dX5_test_29 rfl (lv_at hl 1 rfl) ?_
      refine zz_iald hx hb hK hP 6 0 rfl rfl (n := 600) (j := k) (by omega) (by decide) dX5_test_30 ?_
      refine zz_i (z := (nI (cn (cf k)))) (hcf k hk).1 ?_
      have hPc := hP.sub (ws' := [(qm, .inr (5, [.int (nI 0), .int (nI n), .int (nI ni), .int (nI no), .ref mk, .ref m0, .ref m1, .ref mi, .ref mo, .ref ml, .ref mf, .ref ma, .int (nI cl), .ref mfd, .ref mts, .int (nI tc), .ref mg, .ref mb])), (mk, .inl (cI, 100, .inl kd)), (m0, .inl (cI, 100, .inl s0)), (m1, .inl (cI, 100, .inl s1)), (mi, .inl (cI, 100, .inl io)), (mo, .inl (cI, 12, .inl on)), (mg, .inl (cJ, 100, .inr (.inl gd))), (mb, .inl (cJ, 100, .inr (.inl bd)))]) [0, 1, 2, 3, 4, 5, 7, 8] rfl
      have hDc := hD.sub (ws' := [(qm, .inr (5, [.int (nI 0), .int (nI n), .int (nI ni), .int (nI no), .ref mk, .ref m0, .ref m1, .ref mi, .ref mo, .ref ml, .ref mf, .ref ma, .int (nI cl), .ref mfd, .ref mts, .int (nI tc), .ref mg, .ref mb])), (mk, .inl (cI, 100, .inl kd)), (m0, .inl (cI, 100, .inl s0)), (m1, .inl (cI, 100, .inl s1)), (mi, .inl (cI, 100, .inl io)), (mo, .inl (cI, 12, .inl on)), (mg, .inl (cJ, 100, .inr (.inl gd))), (mb, .inl (cJ, 100, .inr (.inl bd)))]) [0, 1, 2, 3, 4, 5, 7, 8] (by decide) rfl
      have hFc := va_free (wc := [(qm, .inr (5, [.int (nI 0), .int (nI n), .int (nI ni), .int (nI no), .ref mk, .ref m0, .ref m1, .ref mi, .ref mo, .ref ml, .ref mf, .ref ma, .int (nI cl), .ref mfd, .ref mts, .int (nI tc), .ref mg, .ref mb])), (mk, .inl (cI, 100, .inl kd)), (m0, .inl (cI, 100, .inl s0)), (m1, .inl (cI, 100, .inl s1)), (mi, .inl (cI, 100, .inl io)), (mo, .inl (cI, 12, .inl on)), (mg, .inl (cJ, 100, .inr (.inl gd))), (mb, .inl (cJ, 100, .inr (.inl bd)))]) hD hS hA [0, 1, 2, 3, 4, 5, 7, 8] rfl
      refine va_calli (va_runV (As := [.int (nI (cn (cf k)))]) (rest := []) ⟨hx, hb, hml, hown, hts⟩ (c_X5_testOf l D cI cJ cZ qm mk m0 m1 mi mo ml mf ma mfd mts mg mb (nI 0) n ni no cl tc kd s0 s1 io on gd bd vl (cn (cf k)) H.size _ rfl (by omega) (by omega) hwf hwo hkd hio hV (by omega) (hcf k hk).2.1 (hcf k hk).2.2.1) (cwV 1 hts gX5_test_X5_testOf rfl rfl rfl (by decide +kernel) ⟨Nat.le_of_ble_eq_true rfl, Nat.le_of_ble_eq_true rfl⟩) ⟨PW.blind, va_recv hK hPc (ci := 5) (q0 := 0) rfl rfl, fun U hU hW => ⟨rfl, PW.to hPc hK hNB hDc hU hW⟩⟩ rfl rfl hl.1 rfl (lv_room (Nat.le_of_ble_eq_true rfl)) dX5_test_31 ⟨Nat.le_of_ble_eq_true rfl, Nat.le_of_ble_eq_true rfl⟩) hS (fun q _ h => hFc q h) hFc (fun r_3 u_9 t_9 H1_9 locs ht_9 hvm_9 hw_9 hB_9 hz1_9 hk1_9 hS => ?_)
      obtain ⟨gd2_4, bd2_5⟩ := u_9
      obtain ⟨hP1_9, hD1_9⟩ := hB_9
      rw [ht_9] at hP1_9
      obtain rfl := hw_9
      obtain ⟨hP, hD⟩ := va_join (wr := [(mf, .inl (cI, 600, .inl cf))]) (w1 := [(qm, .inr (5, [.int (nI 0), .int (nI n), .int (nI ni), .int (nI no), .ref mk, .ref m0, .ref m1, .ref mi, .ref mo, .ref ml, .ref mf, .ref ma, .int (nI cl), .ref mfd, .ref mts, .int (nI tc), .ref mg, .ref mb])), (mk, .inl (cI, 100, .inl kd)), (m0, .inl (cI, 100, .inl s0)), (m1, .inl (cI, 100, .inl s1)), (mi, .inl (cI, 100, .inl io)), (mo, .inl (cI, 12, .inl on)), (mg, .inl (cJ, 100, .inr (.inl gd2_4))), (mb, .inl (cJ, 100, .inr (.inl bd2_5)))]) hP hD [0, 1, 2, 3, 4, 5, 7, 8] [6] rfl rfl (by decide) (by decide) hk1_9 hFc hP1_9 hD1_9
      have hP := hP.sub (ws' := [(qm, .inr (5, [.int (nI 0), .int (nI n), .int (nI ni), .int (nI no), .ref mk, .ref m0, .ref m1, .ref mi, .ref mo, .ref ml, .ref mf, .ref ma, .int (nI cl), .ref mfd, .ref mts, .int (nI tc), .ref mg, .ref mb])), (mk, .inl (cI, 100, .inl kd)), (m0, .inl (cI, 100, .inl s0)), (m1, .inl (cI, 100, .inl s1)), (mi, .inl (cI, 100, .inl io)), (mo, .inl (cI, 12, .inl on)), (mf, .inl (cI, 600, .inl cf)), (mg, .inl (cJ, 100, .inr (.inl gd2_4))), (mb, .inl (cJ, 100, .inr (.inl bd2_5)))]) [1, 2, 3, 4, 5, 6, 0, 7, 8] rfl
      have hD := hD.sub (ws' := [(qm, .inr (5, [.int (nI 0), .int (nI n), .int (nI ni), .int (nI no), .ref mk, .ref m0, .ref m1, .ref mi, .ref mo, .ref ml, .ref mf, .ref ma, .int (nI cl), .ref mfd, .ref mts, .int (nI tc), .ref mg, .ref mb])), (mk, .inl (cI, 100, .inl kd)), (m0, .inl (cI, 100, .inl s0)), (m1, .inl (cI, 100, .inl s1)), (mi, .inl (cI, 100, .inl io)), (mo, .inl (cI, 12, .inl on)), (mf, .inl (cI, 600, .inl cf)), (mg, .inl (cJ, 100, .inr (.inl gd2_4))), (mb, .inl (cJ, 100, .inr (.inl bd2_5)))]) [1, 2, 3, 4, 5, 6, 0, 7, 8] (by decide) rfl
      generalize H1_9 = H at hP hS ⊢
      have hP : va_P D vwCl [(qm, .inr (5, [.int (nI 0), .int (nI n), .int (nI ni), .int (nI no), .ref mk, .ref m0, .ref m1, .ref mi, .ref mo, .ref ml, .ref mf, .ref ma, .int (nI cl), .ref mfd, .ref mts, .int (nI tc), .ref mg, .ref mb])), (mk, .inl (cI, 100, .inl kd)), (m0, .inl (cI, 100, .inl s0)), (m1, .inl (cI, 100, .inl s1)), (mi, .inl (cI, 100, .inl io)), (mo, .inl (cI, 12, .inl on)), (mf, .inl (cI, 600, .inl cf)), (mg, .inl (cJ, 100, .inr (.inl gd2_4))), (mb, .inl (cJ, 100, .inr (.inl bd2_5)))] H := hP
      have hD : va_D A [(qm, .inr (5, [.int (nI 0), .int (nI n), .int (nI ni), .int (nI no), .ref mk, .ref m0, .ref m1, .ref mi, .ref mo, .ref ml, .ref mf, .ref ma, .int (nI cl), .ref mfd, .ref mts, .int (nI tc), .ref mg, .ref mb])), (mk, .inl (cI, 100, .inl kd)), (m0, .inl (cI, 100, .inl s0)), (m1, .inl (cI, 100, .inl s1)), (mi, .inl (cI, 100, .inl io)), (mo, .inl (cI, 12, .inl on)), (mf, .inl (cI, 600, .inl cf)), (mg, .inl (cJ, 100, .inr (.inl gd2_4))), (mb, .inl (cJ, 100, .inr (.inl bd2_5)))] := hD
      exact W.iret (v := (leastF (fun w => shw kd s0 s1 on vl n ni no (cn (cf k)) w) (wordsN ni) 0)) hx hb hr (fun t_9 ht_9 hW_9 => ⟨⟨(leastF (fun w => shw kd s0 s1 on vl n ni no (cn (cf k)) w) (wordsN ni) 0), (gd2_4, bd2_5), rfl, (show (leastF (fun w => shw kd s0 s1 on vl n ni no (cn (cf k)) w) (wordsN ni) 0) = (leastF (fun w => shw kd s0 s1 on vl n ni no (cn (cf k)) w) (wordsN ni) 0) from rfl), ⟨by rw [ht_9]; exact hP, hD⟩⟩, hS.F ht_9⟩) hS.2.2 dX5_test_34
    · skip
      rw [zc_if0] at c_17
      have c_17 := Classical.not_not.mp c_17
      exact absurd c_17 (by decide)

set_option maxHeartbeats 4000000 in
set_option maxRecDepth 100000 in
theorem c_X5_shows_ok (l : Launch) (D : va_G) (cI cJ cZ : ClassId) (qm : Nat) (mk : Nat) (m0 : Nat) (m1 : Nat) (mi : Nat) (mo : Nat) (ml : Nat) (mf : Nat) (ma : Nat) (mfd : Nat) (mts : Nat) (mg : Nat) (mb : Nat) (cd : Int32) (n : Nat) (ni : Nat) (no : Nat) (cl : Nat) (tc : Nat) (kd : Nat → Int32) (s0 : Nat → Int32) (s1 : Nat → Int32) (io : Nat → Int32) (on : Nat → Int32) (cf : Nat → Int32) (gd : Nat → Int64) (bd : Nat → Int64) (vl : Nat → Int64) (a : Int32) (k : Nat) (sz : Nat) (A : Nat → Prop) (hAe : A = va_A [(qm, .inr (5, [.int cd, .int (nI n), .int (nI ni), .int (nI no), .ref mk, .ref m0, .ref m1, .ref mi, .ref mo, .ref ml, .ref mf, .ref ma, .int (nI cl), .ref mfd, .ref mts, .int (nI tc), .ref mg, .ref mb])), (mk, .inl (cI, 100, .inl kd)), (m0, .inl (cI, 100, .inl s0)), (m1, .inl (cI, 100, .inl s1)), (mi, .inl (cI, 100, .inl io)), (mo, .inl (cI, 12, .inl on)), (mf, .inl (cI, 600, .inl cf)), (mg, .inl (cJ, 100, .inr (.inl gd))), (mb, .inl (cJ, 100, .inr (.inl bd)))] sz) (hn : n ≤ 100) (hno : no ≤ 12) (hwf : WF n kd s0 s1) (hwo : WO n no on) (hkd : KD n kd) (hio : IOK n kd io) (hV : VOK n kd s0 s1 io vl) (hni : ni ≤ 10) (hcl : cl ≤ 600) (hcf : CFOK n kd cl cf) (hk : k < cl) : Met l yX5_shows wsX5_shows ({ frames := 4, cells := 0, slots := 0, locals := 103 } : Room) (va_Pc [.ref qm, .int a, .int (nI k)] (PW D cI cJ cZ [(qm, .inr (5, [.int cd, .int (nI n), .int (nI ni), .int (nI no), .ref mk, .ref m0, .ref m1, .ref mi, .ref mo, .ref ml, .ref mf, .ref ma, .int (nI cl), .ref mfd, .ref mts, .int (nI tc), .ref mg, .ref mb])), (mk, .inl (cI, 100, .inl kd)), (m0, .inl (cI, 100, .inl s0)), (m1, .inl (cI, 100, .inl s1)), (mi, .inl (cI, 100, .inl io)), (mo, .inl (cI, 12, .inl on)), (mf, .inl (cI, 600, .inl cf)), (mg, .inl (cJ, 100, .inr (.inl gd))), (mb, .inl (cJ, 100, .inr (.inl bd)))] sz)) (va_Qi (fun (r_9 : Int32) (u9 : (Nat → Int64) × (Nat → Int64)) => match u9 with | (gd2, bd2) => r_9 = (if bitW (shw kd s0 s1 on vl n ni no (cn (cf k)) (knownN ni a / 64)) (nI (knownN ni a)) = nI 1 then (1 : Int32) else 0)) (fun (u9 : (Nat → Int64) × (Nat → Int64)) t => match u9 with | (gd2, bd2) => PQ D A [(qm, .inr (5, [.int (nI 0), .int (nI n), .int (nI ni), .int (nI no), .ref mk, .ref m0, .ref m1, .ref mi, .ref mo, .ref ml, .ref mf, .ref ma, .int (nI cl), .ref mfd, .ref mts, .int (nI tc), .ref mg, .ref mb])), (mk, .inl (cI, 100, .inl kd)), (m0, .inl (cI, 100, .inl s0)), (m1, .inl (cI, 100, .inl s1)), (mi, .inl (cI, 100, .inl io)), (mo, .inl (cI, 12, .inl on)), (mf, .inl (cI, 600, .inl cf)), (mg, .inl (cJ, 100, .inr (.inl gd2))), (mb, .inl (cJ, 100, .inr (.inl bd2)))] t) A) 0 0 A := by
  refine Met.ofW (cc := cX5_shows) (maxL := 3) (ret := (some .boolean)) (by decide) rfl ?_
  intro p e s m args below meth c s₁ B hml hv
  obtain ⟨rfl, hsz, ⟨hP, hK, hNB⟩, hD0⟩ := hv
  have hx := B.exec
  have hb := B.bytes
  have hr := B.returns
  have hts := atoms_spec (ws := wsX5_shows) B.pre
  have hown : s.vm.findClass RX5 = some m.cls := findClass_of_methodNamed B.named
  have hlocks := B.notSynchronized
  have hiX5 : ∀ w ∈ u_ws RX5 TX5 18, w ∈ wsX5_shows := by decide +kernel
  subst hsz
  have hD : va_D A [(qm, .inr (5, [.int cd, .int (nI n), .int (nI ni), .int (nI no), .ref mk, .ref m0, .ref m1, .ref mi, .ref mo, .ref ml, .ref mf, .ref ma, .int (nI cl), .ref mfd, .ref mts, .int (nI tc), .ref mg, .ref mb])), (mk, .inl (cI, 100, .inl kd)), (m0, .inl (cI, 100, .inl s0)), (m1, .inl (cI, 100, .inl s1)), (mi, .inl (cI, 100, .inl io)), (mo, .inl (cI, 12, .inl on)), (mf, .inl (cI, 600, .inl cf)), (mg, .inl (cJ, 100, .inr (.inl gd))), (mb, .inl (cJ, 100, .inr (.inl bd)))] := by rw [hAe]; exact hD0.self
  have hA : ∀ q : Nat, s.heap.size ≤ q → A q := fun q h => by rw [hAe]; exact Or.inr h
  have hS : va_S A s.heap s.heap [] := va_S.rf
  have hl := lv_entry ([.ref qm, .int a, .int (nI k)]) (n := 3) (Nat.le_of_ble_eq_true rfl)
  rw [lg_entry_eq]
  generalize (lg_sl ([.ref qm, .int a, .int (nI k)]) ++ List.replicate (3 - (lg_sl ([.ref qm, .int a, .int (nI k)])).length) Slot.unset).toArray = ls at hl ⊢
  have hl : lv_has ls 3 [(0, .ref qm), (1, .int a), (2, .int (nI k))] := hl
  refine lv_aload_n hx hb dX5_shows_0 rfl (lv_at hl 0 rfl) ?_
  refine lv_aload_n hx hb dX5_shows_1 rfl (lv_at hl 0 rfl) ?_
  refine lv_iload_n hx hb dX5_shows_2 rfl (lv_at hl 2 rfl) ?_
  have hPc := hP.sub (ws' := [(qm, .inr (5, [.int cd, .int (nI n), .int (nI ni), .int (nI no), .ref mk, .ref m0, .ref m1, .ref mi, .ref mo, .ref ml, .ref mf, .ref ma, .int (nI cl), .ref mfd, .ref mts, .int (nI tc), .ref mg, .ref mb]))]) [0] rfl
  refine vp_callSi (va_runV (As := [.int (nI k)]) (rest := [.ref qm]) ⟨hx, hb, hml, hown, hts⟩ (c_X5_isClass l D cI cJ cZ qm mk m0 m1 mi mo ml mf ma mfd mts mg mb cd n ni no cl tc (nI k)) (cwV 1 hts gX5_shows_X5_isClass rfl rfl rfl (by decide +kernel) ⟨Nat.le_of_ble_eq_true rfl, Nat.le_of_ble_eq_true rfl⟩) ⟨PR.blind, va_recv hK hPc (ci := 5) (q0 := 0) rfl rfl, fun U hU hW => ⟨rfl, PR.to hPc hK hNB hU hW⟩⟩ rfl rfl hl.1 rfl (lv_room (Nat.le_of_ble_eq_true rfl)) dX5_shows_3 ⟨Nat.le_of_ble_eq_true rfl, Nat.le_of_ble_eq_true rfl⟩).run (fun r_1 hrr_1 => ?_)
  subst hrr_1
  refine lv_if_eq (tgt := 13) hx hb dX5_shows_6 (by decide) (fun c_6 => ?_) (fun c_6 => ?_)
  · skip
    rw [zc_if0] at c_6
    exact absurd (isN_nI (by omega) hk) c_6
  · skip
    rw [zc_if0] at c_6
    have c_6 := Classical.not_not.mp c_6
    refine lv_iconst (v := (nI 0)) hx hb dX5_shows_9 (by decide) ?_
    refine lv_goto (tgt := 14) hx hb dX5_shows_10 (by decide) ?_
    have hPc := hP.sub (ws' := [(qm, .inr (5, [.int cd, .int (nI n), .int (nI ni), .int (nI no), .ref mk, .ref m0, .ref m1, .ref mi, .ref mo, .ref ml, .ref mf, .ref ma, .int (nI cl), .ref mfd, .ref mts, .int (nI tc), .ref mg, .ref mb]))]) [0] rfl
    have hDc := hD.sub (ws' := [(qm, .inr (5, [.int cd, .int (nI n), .int (nI ni), .int (nI no), .ref mk, .ref m0, .ref m1, .ref mi, .ref mo, .ref ml, .ref mf, .ref ma, .int (nI cl), .ref mfd, .ref mts, .int (nI tc), .ref mg, .ref mb]))]) [0] (by decide) rfl
    have hFc := va_free (wc := [(qm, .inr (5, [.int cd, .int (nI n), .int (nI ni), .int (nI no), .ref mk, .ref m0, .ref m1, .ref mi, .ref mo, .ref ml, .ref mf, .ref ma, .int (nI cl), .ref mfd, .ref mts, .int (nI tc), .ref mg, .ref mb]))]) hD hS hA [0] rfl
    refine va_calli (va_runV (As := [.int (nI 0)]) (rest := []) ⟨hx, hb, hml, hown, hts⟩ (c_X5_refuses l D cI cJ cZ qm mk m0 m1 mi mo ml mf ma mfd mts mg mb cd n ni no cl tc 0 s.heap.size _ rfl (by omega)) (cwV 1 hts gX5_shows_X5_refuses rfl rfl rfl (by decide +kernel) ⟨Nat.le_of_ble_eq_true rfl, Nat.le_of_ble_eq_true rfl⟩) ⟨PW.blind, va_recv hK hPc (ci := 5) (q0 := 0) rfl rfl, fun U hU hW => ⟨rfl, PW.to hPc hK hNB hDc hU hW⟩⟩ rfl rfl hl.1 rfl (lv_room (Nat.le_of_ble_eq_true rfl)) dX5_shows_14 ⟨Nat.le_of_ble_eq_true rfl, Nat.le_of_ble_eq_true rfl⟩) hS (fun q _ h => hFc q h) hFc (fun r_2 u_9 t_9 H1_9 locs ht_9 hvm_9 hw_9 hB_9 hz1_9 hk1_9 hS => ?_)
    obtain ⟨hP1_9, hD1_9⟩ := hB_9
    rw [ht_9] at hP1_9
    obtain rfl := hw_9
    obtain ⟨hP, hD⟩ := va_join (wr := [(mk, .inl (cI, 100, .inl kd)), (m0, .inl (cI, 100, .inl s0)), (m1, .inl (cI, 100, .inl s1)), (mi, .inl (cI, 100, .inl io)), (mo, .inl (cI, 12, .inl on)), (mf, .inl (cI, 600, .inl cf)), (mg, .inl (cJ, 100, .inr (.inl gd))), (mb, .inl (cJ, 100, .inr (.inl bd)))]) (w1 := [(qm, .inr (5, [.int (nI 0), .int (nI n), .int (nI ni), .int (nI no), .ref mk, .ref m0, .ref m1, .ref mi, .ref mo, .ref ml, .ref mf, .ref ma, .int (nI cl), .ref mfd, .ref mts, .int (nI tc), .ref mg, .ref mb]))]) hP hD [0] [1, 2, 3, 4, 5, 6, 7, 8] rfl rfl (by decide) (by decide) hk1_9 hFc hP1_9 hD1_9
    have hP := hP.sub (ws' := [(qm, .inr (5, [.int (nI 0), .int (nI n), .int (nI ni), .int (nI no), .ref mk, .ref m0, .ref m1, .ref mi, .ref mo, .ref ml, .ref mf, .ref ma, .int (nI cl), .ref mfd, .ref mts, .int (nI tc), .ref mg, .ref mb])), (mk, .inl (cI, 100, .inl kd)), (m0, .inl (cI, 100, .inl s0)), (m1, .inl (cI, 100, .inl s1)), (mi, .inl (cI, 100, .inl io)), (mo, .inl (cI, 12, .inl on)), (mf, .inl (cI, 600, .inl cf)), (mg, .inl (cJ, 100, .inr (.inl gd))), (mb, .inl (cJ, 100, .inr (.inl bd)))]) [8, 0, 1, 2, 3, 4, 5, 6, 7] rfl
    have hD := hD.sub (ws' := [(qm, .inr (5, [.int (nI 0), .int (nI n), .int (nI ni), .int (nI no), .ref mk, .ref m0, .ref m1, .ref mi, .ref mo, .ref ml, .ref mf, .ref ma, .int (nI cl), .ref mfd, .ref mts, .int (nI tc), .ref mg, .ref mb])), (mk, .inl (cI, 100, .inl kd)), (m0, .inl (cI, 100, .inl s0)), (m1, .inl (cI, 100, .inl s1)), (mi, .inl (cI, 100, .inl io)), (mo, .inl (cI, 12, .inl on)), (mf, .inl (cI, 600, .inl cf)), (mg, .inl (cJ, 100, .inr (.inl gd))), (mb, .inl (cJ, 100, .inr (.inl bd)))]) [8, 0, 1, 2, 3, 4, 5, 6, 7] (by decide) rfl
    generalize H1_9 = H at hP hS ⊢
    have hP : va_P D vwCl [(qm, .inr (5, [.int (nI 0), .int (nI n), .int (nI ni), .int (nI no), .ref mk, .ref m0, .ref m1, .ref mi, .ref mo, .ref ml, .ref mf, .ref ma, .int (nI cl), .ref mfd, .ref mts, .int (nI tc), .ref mg, .ref mb])), (mk, .inl (cI, 100, .inl kd)), (m0, .inl (cI, 100, .inl s0)), (m1, .inl (cI, 100, .inl s1)), (mi, .inl (cI, 100, .inl io)), (mo, .inl (cI, 12, .inl on)), (mf, .inl (cI, 600, .inl cf)), (mg, .inl (cJ, 100, .inr (.inl gd))), (mb, .inl (cJ, 100, .inr (.inl bd)))] H := hP
    have hD : va_D A [(qm, .inr (5, [.int (nI 0), .int (nI n), .int (nI ni), .int (nI no), .ref mk, .ref m0, .ref m1, .ref mi, .ref mo, .ref ml, .ref mf, .ref ma, .int (nI cl), .ref mfd, .ref mts, .int (nI tc), .ref mg, .ref mb])), (mk, .inl (cI, 100, .inl kd)), (m0, .inl (cI, 100, .inl s0)), (m1, .inl (cI, 100, .inl s1)), (mi, .inl (cI, 100, .inl io)), (mo, .inl (cI, 12, .inl on)), (mf, .inl (cI, 600, .inl cf)), (mg, .inl (cJ, 100, .inr (.inl gd))), (mb, .inl (cJ, 100, .inr (.inl bd)))] := hD
    refine lv_if_ne (tgt := 38) hx hb dX5_shows_17 (by decide) (fun c_17 => ?_) (fun c_17 => ?_)
    · skip
      rw [zc_if0] at c_17
      have c_17 := Classical.not_not.mp c_17
      exact absurd c_17 (by decide)
    · skip
      rw [zc_if0] at c_17
      refine lv_aload_n hx hb dX5_shows_20 rfl (lv_at hl 0 rfl) ?_
      refine lv_aload_n hx hb dX5_shows_21 rfl (lv_at hl 0 rfl) ?_
      refine va_get (D := D) (ci := 5) (v := .ref mf) (C := RX5) (T := TX5) (N := 18) hx hb hts hiX5 hown hK hP 0 rfl rfl 10 (by decide) (hts (.fieldLink RX5 28 "FaultSearchModel" "classFirst" "[I") (by decide +kernel)) (fun _ h9 => h9) rfl dX5_shows_22 ?_
      refine lv_iload_n hx hb dX5_shows_25 rfl (lv_at hl 2 rfl) ?_
      refine zz_iald hx hb hK hP 6 0 rfl rfl (n := 600) (j := k) (by omega) (by decide) dX5_shows_26 ?_
      refine zz_i (z := (nI (cn (cf k)))) (hcf k hk).1 ?_
      refine lv_iload_n hx hb dX5_shows_27 rfl (lv_at hl 1 rfl) ?_
      have hPc := hP.sub (ws' := [(qm, .inr (5, [.int (nI 0), .int (nI n), .int (nI ni), .int (nI no), .ref mk, .ref m0, .ref m1, .ref mi, .ref mo, .ref ml, .ref mf, .ref ma, .int (nI cl), .ref mfd, .ref mts, .int (nI tc), .ref mg, .ref mb])), (mk, .inl (cI, 100, .inl kd)), (m0, .inl (cI, 100, .inl s0)), (m1, .inl (cI, 100, .inl s1)), (mi, .inl (cI, 100, .inl io)), (mo, .inl (cI, 12, .inl on)), (mg, .inl (cJ, 100, .inr (.inl gd))), (mb, .inl (cJ, 100, .inr (.inl bd)))]) [0, 1, 2, 3, 4, 5, 7, 8] rfl
      have hDc := hD.sub (ws' := [(qm, .inr (5, [.int (nI 0), .int (nI n), .int (nI ni), .int (nI no), .ref mk, .ref m0, .ref m1, .ref mi, .ref mo, .ref ml, .ref mf, .ref ma, .int (nI cl), .ref mfd, .ref mts, .int (nI tc), .ref mg, .ref mb])), (mk, .inl (cI, 100, .inl kd)), (m0, .inl (cI, 100, .inl s0)), (m1, .inl (cI, 100, .inl s1)), (mi, .inl (cI, 100, .inl io)), (mo, .inl (cI, 12, .inl on)), (mg, .inl (cJ, 100, .inr (.inl gd))), (mb, .inl (cJ, 100, .inr (.inl bd)))]) [0, 1, 2, 3, 4, 5, 7, 8] (by decide) rfl
      have hFc := va_free (wc := [(qm, .inr (5, [.int (nI 0), .int (nI n), .int (nI ni), .int (nI no), .ref mk, .ref m0, .ref m1, .ref mi, .ref mo, .ref ml, .ref mf, .ref ma, .int (nI cl), .ref mfd, .ref mts, .int (nI tc), .ref mg, .ref mb])), (mk, .inl (cI, 100, .inl kd)), (m0, .inl (cI, 100, .inl s0)), (m1, .inl (cI, 100, .inl s1)), (mi, .inl (cI, 100, .inl io)), (mo, .inl (cI, 12, .inl on)), (mg, .inl (cJ, 100, .inr (.inl gd))), (mb, .inl (cJ, 100, .inr (.inl bd)))]) hD hS hA [0, 1, 2, 3, 4, 5, 7, 8] rfl
      refine va_calli (va_runV (As := [.int (nI (cn (cf k))), .int a]) (rest := []) ⟨hx, hb, hml, hown, hts⟩ (c_X5_isShown l D cI cJ cZ qm mk m0 m1 mi mo ml mf ma mfd mts mg mb (nI 0) n ni no cl tc kd s0 s1 io on gd bd vl (cn (cf k)) a H.size _ rfl (by omega) (by omega) hwf hwo hkd hio hV (by omega) (hcf k hk).2.1 (hcf k hk).2.2.1) (cwV 2 hts gX5_shows_X5_isShown rfl rfl rfl (by decide +kernel) ⟨Nat.le_of_ble_eq_true rfl, Nat.le_of_ble_eq_true rfl⟩) ⟨PW.blind, va_recv hK hPc (ci := 5) (q0 := 0) rfl rfl, fun U hU hW => ⟨rfl, PW.to hPc hK hNB hDc hU hW⟩⟩ rfl rfl hl.1 rfl (lv_room (Nat.le_of_ble_eq_true rfl)) dX5_shows_28 ⟨Nat.le_of_ble_eq_true rfl, Nat.le_of_ble_eq_true rfl⟩) hS (fun q _ h => hFc q h) hFc (fun r_3 u_9 t_9 H1_9 locs ht_9 hvm_9 hw_9 hB_9 hz1_9 hk1_9 hS => ?_)
      obtain ⟨gd2_4, bd2_5⟩ := u_9
      obtain ⟨hP1_9, hD1_9⟩ := hB_9
      rw [ht_9] at hP1_9
      obtain rfl := hw_9
      obtain ⟨hP, hD⟩ := va_join (wr := [(mf, .inl (cI, 600, .inl cf))]) (w1 := [(qm, .inr (5, [.int (nI 0), .int (nI n), .int (nI ni), .int (nI no), .ref mk, .ref m0, .ref m1, .ref mi, .ref mo, .ref ml, .ref mf, .ref ma, .int (nI cl), .ref mfd, .ref mts, .int (nI tc), .ref mg, .ref mb])), (mk, .inl (cI, 100, .inl kd)), (m0, .inl (cI, 100, .inl s0)), (m1, .inl (cI, 100, .inl s1)), (mi, .inl (cI, 100, .inl io)), (mo, .inl (cI, 12, .inl on)), (mg, .inl (cJ, 100, .inr (.inl gd2_4))), (mb, .inl (cJ, 100, .inr (.inl bd2_5)))]) hP hD [0, 1, 2, 3, 4, 5, 7, 8] [6] rfl rfl (by decide) (by decide) hk1_9 hFc hP1_9 hD1_9
      have hP := hP.sub (ws' := [(qm, .inr (5, [.int (nI 0), .int (nI n), .int (nI ni), .int (nI no), .ref mk, .ref m0, .ref m1, .ref mi, .ref mo, .ref ml, .ref mf, .ref ma, .int (nI cl), .ref mfd, .ref mts, .int (nI tc), .ref mg, .ref mb])), (mk, .inl (cI, 100, .inl kd)), (m0, .inl (cI, 100, .inl s0)), (m1, .inl (cI, 100, .inl s1)), (mi, .inl (cI, 100, .inl io)), (mo, .inl (cI, 12, .inl on)), (mf, .inl (cI, 600, .inl cf)), (mg, .inl (cJ, 100, .inr (.inl gd2_4))), (mb, .inl (cJ, 100, .inr (.inl bd2_5)))]) [1, 2, 3, 4, 5, 6, 0, 7, 8] rfl
      have hD := hD.sub (ws' := [(qm, .inr (5, [.int (nI 0), .int (nI n), .int (nI ni), .int (nI no), .ref mk, .ref m0, .ref m1, .ref mi, .ref mo, .ref ml, .ref mf, .ref ma, .int (nI cl), .ref mfd, .ref mts, .int (nI tc), .ref mg, .ref mb])), (mk, .inl (cI, 100, .inl kd)), (m0, .inl (cI, 100, .inl s0)), (m1, .inl (cI, 100, .inl s1)), (mi, .inl (cI, 100, .inl io)), (mo, .inl (cI, 12, .inl on)), (mf, .inl (cI, 600, .inl cf)), (mg, .inl (cJ, 100, .inr (.inl gd2_4))), (mb, .inl (cJ, 100, .inr (.inl bd2_5)))]) [1, 2, 3, 4, 5, 6, 0, 7, 8] (by decide) rfl
      generalize H1_9 = H at hP hS ⊢
      have hP : va_P D vwCl [(qm, .inr (5, [.int (nI 0), .int (nI n), .int (nI ni), .int (nI no), .ref mk, .ref m0, .ref m1, .ref mi, .ref mo, .ref ml, .ref mf, .ref ma, .int (nI cl), .ref mfd, .ref mts, .int (nI tc), .ref mg, .ref mb])), (mk, .inl (cI, 100, .inl kd)), (m0, .inl (cI, 100, .inl s0)), (m1, .inl (cI, 100, .inl s1)), (mi, .inl (cI, 100, .inl io)), (mo, .inl (cI, 12, .inl on)), (mf, .inl (cI, 600, .inl cf)), (mg, .inl (cJ, 100, .inr (.inl gd2_4))), (mb, .inl (cJ, 100, .inr (.inl bd2_5)))] H := hP
      have hD : va_D A [(qm, .inr (5, [.int (nI 0), .int (nI n), .int (nI ni), .int (nI no), .ref mk, .ref m0, .ref m1, .ref mi, .ref mo, .ref ml, .ref mf, .ref ma, .int (nI cl), .ref mfd, .ref mts, .int (nI tc), .ref mg, .ref mb])), (mk, .inl (cI, 100, .inl kd)), (m0, .inl (cI, 100, .inl s0)), (m1, .inl (cI, 100, .inl s1)), (mi, .inl (cI, 100, .inl io)), (mo, .inl (cI, 12, .inl on)), (mf, .inl (cI, 600, .inl cf)), (mg, .inl (cJ, 100, .inr (.inl gd2_4))), (mb, .inl (cJ, 100, .inr (.inl bd2_5)))] := hD
      refine lv_if_eq (tgt := 38) hx hb dX5_shows_31 (by decide) (fun c_31 => ?_) (fun c_31 => ?_)
      · skip
        rw [zc_if0] at c_31
        refine lv_iconst (v := (nI 0)) hx hb dX5_shows_38 (by decide) ?_
        exact W.zret (v := (nI 0)) hx hb hr (rfl) (fun t_9 ht_9 hW_9 => ⟨⟨(nI 0), (gd2_4, bd2_5), rfl, (show (nI 0) = (if bitW (shw kd s0 s1 on vl n ni no (cn (cf k)) (knownN ni a / 64)) (nI (knownN ni a)) = nI 1 then (1 : Int32) else 0) from (by first | exact (if_pos c_31).symm | exact (if_neg c_31).symm)), ⟨by rw [ht_9]; exact hP, hD⟩⟩, hS.F ht_9⟩) hS.2.2 dX5_shows_39
      · skip
        rw [zc_if0] at c_31
        have c_31 := Classical.not_not.mp c_31
        refine lv_iconst (v := (nI 1)) hx hb dX5_shows_34 (by decide) ?_
        refine lv_goto (tgt := 39) hx hb dX5_shows_35 (by decide) ?_
        exact W.zret (v := (nI 1)) hx hb hr (rfl) (fun t_9 ht_9 hW_9 => ⟨⟨(nI 1), (gd2_4, bd2_5), rfl, (show (nI 1) = (if bitW (shw kd s0 s1 on vl n ni no (cn (cf k)) (knownN ni a / 64)) (nI (knownN ni a)) = nI 1 then (1 : Int32) else 0) from (by first | exact (if_pos c_31).symm | exact (if_neg c_31).symm)), ⟨by rw [ht_9]; exact hP, hD⟩⟩, hS.F ht_9⟩) hS.2.2 dX5_shows_39

set_option maxHeartbeats 4000000 in
set_option maxRecDepth 100000 in
theorem c_X5_shown_ok (l : Launch) (D : va_G) (cI cJ cZ : ClassId) (qm : Nat) (mk : Nat) (m0 : Nat) (m1 : Nat) (mi : Nat) (mo : Nat) (ml : Nat) (mf : Nat) (ma : Nat) (mfd : Nat) (mts : Nat) (mg : Nat) (mb : Nat) (cd : Int32) (n : Nat) (ni : Nat) (no : Nat) (cl : Nat) (tc : Nat) (kd : Nat → Int32) (s0 : Nat → Int32) (s1 : Nat → Int32) (io : Nat → Int32) (on : Nat → Int32) (cf : Nat → Int32) (gd : Nat → Int64) (bd : Nat → Int64) (vl : Nat → Int64) (k : Nat) (sz : Nat) (A : Nat → Prop) (hAe : A = va_A [(qm, .inr (5, [.int cd, .int (nI n), .int (nI ni), .int (nI no), .ref mk, .ref m0, .ref m1, .ref mi, .ref mo, .ref ml, .ref mf, .ref ma, .int (nI cl), .ref mfd, .ref mts, .int (nI tc), .ref mg, .ref mb])), (mk, .inl (cI, 100, .inl kd)), (m0, .inl (cI, 100, .inl s0)), (m1, .inl (cI, 100, .inl s1)), (mi, .inl (cI, 100, .inl io)), (mo, .inl (cI, 12, .inl on)), (mf, .inl (cI, 600, .inl cf)), (mg, .inl (cJ, 100, .inr (.inl gd))), (mb, .inl (cJ, 100, .inr (.inl bd)))] sz) (hn : n ≤ 100) (hno : no ≤ 12) (hwf : WF n kd s0 s1) (hwo : WO n no on) (hkd : KD n kd) (hio : IOK n kd io) (hV : VOK n kd s0 s1 io vl) (hni : ni ≤ 10) (hcl : cl ≤ 600) (hcf : CFOK n kd cl cf) (hk : k < cl) : Met l yX5_shown wsX5_shown ({ frames := 3, cells := 0, slots := 0, locals := 80 } : Room) (va_Pc [.ref qm, .int (nI k)] (PW D cI cJ cZ [(qm, .inr (5, [.int cd, .int (nI n), .int (nI ni), .int (nI no), .ref mk, .ref m0, .ref m1, .ref mi, .ref mo, .ref ml, .ref mf, .ref ma, .int (nI cl), .ref mfd, .ref mts, .int (nI tc), .ref mg, .ref mb])), (mk, .inl (cI, 100, .inl kd)), (m0, .inl (cI, 100, .inl s0)), (m1, .inl (cI, 100, .inl s1)), (mi, .inl (cI, 100, .inl io)), (mo, .inl (cI, 12, .inl on)), (mf, .inl (cI, 600, .inl cf)), (mg, .inl (cJ, 100, .inr (.inl gd))), (mb, .inl (cJ, 100, .inr (.inl bd)))] sz)) (va_Qi (fun (r_9 : Int32) (u9 : (Nat → Int64) × (Nat → Int64)) => match u9 with | (gd2, bd2) => r_9 = (nI (sumF (fun w => popN (shw kd s0 s1 on vl n ni no (cn (cf k)) w)) (wordsN ni)))) (fun (u9 : (Nat → Int64) × (Nat → Int64)) t => match u9 with | (gd2, bd2) => PQ D A [(qm, .inr (5, [.int (nI 0), .int (nI n), .int (nI ni), .int (nI no), .ref mk, .ref m0, .ref m1, .ref mi, .ref mo, .ref ml, .ref mf, .ref ma, .int (nI cl), .ref mfd, .ref mts, .int (nI tc), .ref mg, .ref mb])), (mk, .inl (cI, 100, .inl kd)), (m0, .inl (cI, 100, .inl s0)), (m1, .inl (cI, 100, .inl s1)), (mi, .inl (cI, 100, .inl io)), (mo, .inl (cI, 12, .inl on)), (mf, .inl (cI, 600, .inl cf)), (mg, .inl (cJ, 100, .inr (.inl gd2))), (mb, .inl (cJ, 100, .inr (.inl bd2)))] t) A) 0 0 A := by
  refine Met.ofW (cc := cX5_shown) (maxL := 6) (ret := (some .int)) (by decide) rfl ?_
  intro p e s m args below meth c s₁ B hml hv
  obtain ⟨rfl, hsz, ⟨hP, hK, hNB⟩, hD0⟩ := hv
  have hx := B.exec
  have hb := B.bytes
  have hr := B.returns
  have hts := atoms_spec (ws := wsX5_shown) B.pre
  have hown : s.vm.findClass RX5 = some m.cls := findClass_of_methodNamed B.named
  have hlocks := B.notSynchronized
  have hiX5 : ∀ w ∈ u_ws RX5 TX5 18, w ∈ wsX5_shown := by decide +kernel
  subst hsz
  have hD : va_D A [(qm, .inr (5, [.int cd, .int (nI n), .int (nI ni), .int (nI no), .ref mk, .ref m0, .ref m1, .ref mi, .ref mo, .ref ml, .ref mf, .ref ma, .int (nI cl), .ref mfd, .ref mts, .int (nI tc), .ref mg, .ref mb])), (mk, .inl (cI, 100, .inl kd)), (m0, .inl (cI, 100, .inl s0)), (m1, .inl (cI, 100, .inl s1)), (mi, .inl (cI, 100, .inl io)), (mo, .inl (cI, 12, .inl on)), (mf, .inl (cI, 600, .inl cf)), (mg, .inl (cJ, 100, .inr (.inl gd))), (mb, .inl (cJ, 100, .inr (.inl bd)))] := by rw [hAe]; exact hD0.self
  have hA : ∀ q : Nat, s.heap.size ≤ q → A q := fun q h => by rw [hAe]; exact Or.inr h
  have hS : va_S A s.heap s.heap [] := va_S.rf
  have hl := lv_entry ([.ref qm, .int (nI k)]) (n := 6) (Nat.le_of_ble_eq_true rfl)
  rw [lg_entry_eq]
  generalize (lg_sl ([.ref qm, .int (nI k)]) ++ List.replicate (6 - (lg_sl ([.ref qm, .int (nI k)])).length) Slot.unset).toArray = ls at hl ⊢
  have hl : lv_has ls 6 [(0, .ref qm), (1, .int (nI k))] := hl
  have hw16 := wordsN_le hni
  refine lv_aload_n hx hb dX5_shown_0 rfl (lv_at hl 0 rfl) ?_
  refine lv_aload_n hx hb dX5_shown_1 rfl (lv_at hl 0 rfl) ?_
  refine lv_iload_n hx hb dX5_shown_2 rfl (lv_at hl 1 rfl) ?_
  have hPc := hP.sub (ws' := [(qm, .inr (5, [.int cd, .int (nI n), .int (nI ni), .int (nI no), .ref mk, .ref m0, .ref m1, .ref mi, .ref mo, .ref ml, .ref mf, .ref ma, .int (nI cl), .ref mfd, .ref mts, .int (nI tc), .ref mg, .ref mb]))]) [0] rfl
  refine vp_callSi (va_runV (As := [.int (nI k)]) (rest := [.ref qm]) ⟨hx, hb, hml, hown, hts⟩ (c_X5_isClass l D cI cJ cZ qm mk m0 m1 mi mo ml mf ma mfd mts mg mb cd n ni no cl tc (nI k)) (cwV 1 hts gX5_shown_X5_isClass rfl rfl rfl (by decide +kernel) ⟨Nat.le_of_ble_eq_true rfl, Nat.le_of_ble_eq_true rfl⟩) ⟨PR.blind, va_recv hK hPc (ci := 5) (q0 := 0) rfl rfl, fun U hU hW => ⟨rfl, PR.to hPc hK hNB hU hW⟩⟩ rfl rfl hl.1 rfl (lv_room (Nat.le_of_ble_eq_true rfl)) dX5_shown_3 ⟨Nat.le_of_ble_eq_true rfl, Nat.le_of_ble_eq_true rfl⟩).run (fun r_1 hrr_1 => ?_)
  subst hrr_1
  refine lv_if_eq (tgt := 13) hx hb dX5_shown_6 (by decide) (fun c_6 => ?_) (fun c_6 => ?_)
  · skip
    rw [zc_if0] at c_6
    exact absurd (isN_nI (by omega) hk) c_6
  · skip
    rw [zc_if0] at c_6
    have c_6 := Classical.not_not.mp c_6
    refine lv_iconst (v := (nI 0)) hx hb dX5_shown_9 (by decide) ?_
    refine lv_goto (tgt := 14) hx hb dX5_shown_10 (by decide) ?_
    have hPc := hP.sub (ws' := [(qm, .inr (5, [.int cd, .int (nI n), .int (nI ni), .int (nI no), .ref mk, .ref m0, .ref m1, .ref mi, .ref mo, .ref ml, .ref mf, .ref ma, .int (nI cl), .ref mfd, .ref mts, .int (nI tc), .ref mg, .ref mb]))]) [0] rfl
    have hDc := hD.sub (ws' := [(qm, .inr (5, [.int cd, .int (nI n), .int (nI ni), .int (nI no), .ref mk, .ref m0, .ref m1, .ref mi, .ref mo, .ref ml, .ref mf, .ref ma, .int (nI cl), .ref mfd, .ref mts, .int (nI tc), .ref mg, .ref mb]))]) [0] (by decide) rfl
    have hFc := va_free (wc := [(qm, .inr (5, [.int cd, .int (nI n), .int (nI ni), .int (nI no), .ref mk, .ref m0, .ref m1, .ref mi, .ref mo, .ref ml, .ref mf, .ref ma, .int (nI cl), .ref mfd, .ref mts, .int (nI tc), .ref mg, .ref mb]))]) hD hS hA [0] rfl
    refine va_calli (va_runV (As := [.int (nI 0)]) (rest := []) ⟨hx, hb, hml, hown, hts⟩ (c_X5_refuses l D cI cJ cZ qm mk m0 m1 mi mo ml mf ma mfd mts mg mb cd n ni no cl tc 0 s.heap.size _ rfl (by omega)) (cwV 1 hts gX5_shown_X5_refuses rfl rfl rfl (by decide +kernel) ⟨Nat.le_of_ble_eq_true rfl, Nat.le_of_ble_eq_true rfl⟩) ⟨PW.blind, va_recv hK hPc (ci := 5) (q0 := 0) rfl rfl, fun U hU hW => ⟨rfl, PW.to hPc hK hNB hDc hU hW⟩⟩ rfl rfl hl.1 rfl (lv_room (Nat.le_of_ble_eq_true rfl)) dX5_shown_14 ⟨Nat.le_of_ble_eq_true rfl, Nat.le_of_ble_eq_true rfl⟩) hS (fun q _ h => hFc q h) hFc (fun r_2 u_9 t_9 H1_9 locs ht_9 hvm_9 hw_9 hB_9 hz1_9 hk1_9 hS => ?_)
    obtain ⟨hP1_9, hD1_9⟩ := hB_9
    rw [ht_9] at hP1_9
    obtain rfl := hw_9
    obtain ⟨hP, hD⟩ := va_join (wr := [(mk, .inl (cI, 100, .inl kd)), (m0, .inl (cI, 100, .inl s0)), (m1, .inl (cI, 100, .inl s1)), (mi, .inl (cI, 100, .inl io)), (mo, .inl (cI, 12, .inl on)), (mf, .inl (cI, 600, .inl cf)), (mg, .inl (cJ, 100, .inr (.inl gd))), (mb, .inl (cJ, 100, .inr (.inl bd)))]) (w1 := [(qm, .inr (5, [.int (nI 0), .int (nI n), .int (nI ni), .int (nI no), .ref mk, .ref m0, .ref m1, .ref mi, .ref mo, .ref ml, .ref mf, .ref ma, .int (nI cl), .ref mfd, .ref mts, .int (nI tc), .ref mg, .ref mb]))]) hP hD [0] [1, 2, 3, 4, 5, 6, 7, 8] rfl rfl (by decide) (by decide) hk1_9 hFc hP1_9 hD1_9
    have hP := hP.sub (ws' := [(qm, .inr (5, [.int (nI 0), .int (nI n), .int (nI ni), .int (nI no), .ref mk, .ref m0, .ref m1, .ref mi, .ref mo, .ref ml, .ref mf, .ref ma, .int (nI cl), .ref mfd, .ref mts, .int (nI tc), .ref mg, .ref mb])), (mk, .inl (cI, 100, .inl kd)), (m0, .inl (cI, 100, .inl s0)), (m1, .inl (cI, 100, .inl s1)), (mi, .inl (cI, 100, .inl io)), (mo, .inl (cI, 12, .inl on)), (mf, .inl (cI, 600, .inl cf)), (mg, .inl (cJ, 100, .inr (.inl gd))), (mb, .inl (cJ, 100, .inr (.inl bd)))]) [8, 0, 1, 2, 3, 4, 5, 6, 7] rfl
    have hD := hD.sub (ws' := [(qm, .inr (5, [.int (nI 0), .int (nI n), .int (nI ni), .int (nI no), .ref mk, .ref m0, .ref m1, .ref mi, .ref mo, .ref ml, .ref mf, .ref ma, .int (nI cl), .ref mfd, .ref mts, .int (nI tc), .ref mg, .ref mb])), (mk, .inl (cI, 100, .inl kd)), (m0, .inl (cI, 100, .inl s0)), (m1, .inl (cI, 100, .inl s1)), (mi, .inl (cI, 100, .inl io)), (mo, .inl (cI, 12, .inl on)), (mf, .inl (cI, 600, .inl cf)), (mg, .inl (cJ, 100, .inr (.inl gd))), (mb, .inl (cJ, 100, .inr (.inl bd)))]) [8, 0, 1, 2, 3, 4, 5, 6, 7] (by decide) rfl
    generalize H1_9 = H at hP hS ⊢
    have hP : va_P D vwCl [(qm, .inr (5, [.int (nI 0), .int (nI n), .int (nI ni), .int (nI no), .ref mk, .ref m0, .ref m1, .ref mi, .ref mo, .ref ml, .ref mf, .ref ma, .int (nI cl), .ref mfd, .ref mts, .int (nI tc), .ref mg, .ref mb])), (mk, .inl (cI, 100, .inl kd)), (m0, .inl (cI, 100, .inl s0)), (m1, .inl (cI, 100, .inl s1)), (mi, .inl (cI, 100, .inl io)), (mo, .inl (cI, 12, .inl on)), (mf, .inl (cI, 600, .inl cf)), (mg, .inl (cJ, 100, .inr (.inl gd))), (mb, .inl (cJ, 100, .inr (.inl bd)))] H := hP
    have hD : va_D A [(qm, .inr (5, [.int (nI 0), .int (nI n), .int (nI ni), .int (nI no), .ref mk, .ref m0, .ref m1, .ref mi, .ref mo, .ref ml, .ref mf, .ref ma, .int (nI cl), .ref mfd, .ref mts, .int (nI tc), .ref mg, .ref mb])), (mk, .inl (cI, 100, .inl kd)), (m0, .inl (cI, 100, .inl s0)), (m1, .inl (cI, 100, .inl s1)), (mi, .inl (cI, 100, .inl io)), (mo, .inl (cI, 12, .inl on)), (mf, .inl (cI, 600, .inl cf)), (mg, .inl (cJ, 100, .inr (.inl gd))), (mb, .inl (cJ, 100, .inr (.inl bd)))] := hD
    refine lv_if_eq (tgt := 22) hx hb dX5_shown_17 (by decide) (fun c_17 => ?_) (fun c_17 => ?_)
    · skip
      rw [zc_if0] at c_17
      refine lv_iconst (v := (nI 0)) hx hb dX5_shown_22 (by decide) ?_
      refine lv_istore_n (lv' := [(2, .int (nI 0)), (0, .ref qm), (1, .int (nI k))]) hx hb dX5_shown_23 rfl hl (by decide) rfl (fun ls hl => ?_)
      refine lv_iconst (v := (nI 0)) hx hb dX5_shown_24 (by decide) ?_
      refine lv_istore_n (lv' := [(3, .int (nI 0)), (2, .int (nI 0)), (0, .ref qm), (1, .int (nI k))]) hx hb dX5_shown_25 rfl hl (by decide) rfl (fun ls hl => ?_)
      have loop26 : ∀ (n26 : Nat) (i : Nat) (ac : Nat) (g1 : Nat → Int64) (b1 : Nat → Int64) (hi : i ≤ wordsN ni) (hac : ac = sumF (fun w => popN (shw kd s0 s1 on vl n ni no (cn (cf k)) w)) i), wordsN ni - i < n26 → ∀ (H : Heap) (locs : List Loc), va_P D vwCl [(qm, .inr (5, [.int (nI 0), .int (nI n), .int (nI ni), .int (nI no), .ref mk, .ref m0, .ref m1, .ref mi, .ref mo, .ref ml, .ref mf, .ref ma, .int (nI cl), .ref mfd, .ref mts, .int (nI tc), .ref mg, .ref mb])), (mk, .inl (cI, 100, .inl kd)), (m0, .inl (cI, 100, .inl s0)), (m1, .inl (cI, 100, .inl s1)), (mi, .inl (cI, 100, .inl io)), (mo, .inl (cI, 12, .inl on)), (mf, .inl (cI, 600, .inl cf)), (mg, .inl (cJ, 100, .inr (.inl g1))), (mb, .inl (cJ, 100, .inr (.inl b1)))] H → va_D A [(qm, .inr (5, [.int (nI 0), .int (nI n), .int (nI ni), .int (nI no), .ref mk, .ref m0, .ref m1, .ref mi, .ref mo, .ref ml, .ref mf, .ref ma, .int (nI cl), .ref mfd, .ref mts, .int (nI tc), .ref mg, .ref mb])), (mk, .inl (cI, 100, .inl kd)), (m0, .inl (cI, 100, .inl s0)), (m1, .inl (cI, 100, .inl s1)), (mi, .inl (cI, 100, .inl io)), (mo, .inl (cI, 12, .inl on)), (mf, .inl (cI, 600, .inl cf)), (mg, .inl (cJ, 100, .inr (.inl g1))), (mb, .inl (cJ, 100, .inr (.inl b1)))] → va_S A s.heap H locs → ∀ (ls : Array Slot), lv_has ls 6 [(0, .ref qm), (1, .int (nI k)), (2, .int (nI ac)), (3, .int (nI i))] → W p l e (headSpec wsX5_shown ({ frames := 3, cells := 0, slots := 0, locals := 80 } : Room)).room s m ([.ref qm, .int (nI k)] : List Value).toArray below meth c H locs 0 0 (MQ below (va_Qi (fun (r_9 : Int32) (u9 : (Nat → Int64) × (Nat → Int64)) => match u9 with | (gd2, bd2) => r_9 = (nI (sumF (fun w => popN (shw kd s0 s1 on vl n ni no (cn (cf k)) w)) (wordsN ni)))) (fun (u9 : (Nat → Int64) × (Nat → Int64)) t => match u9 with | (gd2, bd2) => PQ D A [(qm, .inr (5, [.int (nI 0), .int (nI n), .int (nI ni), .int (nI no), .ref mk, .ref m0, .ref m1, .ref mi, .ref mo, .ref ml, .ref mf, .ref ma, .int (nI cl), .ref mfd, .ref mts, .int (nI tc), .ref mg, .ref mb])), (mk, .inl (cI, 100, .inl kd)), (m0, .inl (cI, 100, .inl s0)), (m1, .inl (cI, 100, .inl s1)), (mi, .inl (cI, 100, .inl io)), (mo, .inl (cI, 12, .inl on)), (mf, .inl (cI, 600, .inl cf)), (mg, .inl (cJ, 100, .inr (.inl gd2))), (mb, .inl (cJ, 100, .inr (.inl bd2)))] t) A) ([.ref qm, .int (nI k)] : List Value).toArray s 0 0 A) (F0 m 26 ls []) := by
        intro n26
        induction n26 with
        | zero => intro i ac g1 b1 hi hac hm; exact absurd hm (Nat.not_lt_zero _)
        | succ n26 ih26 =>
          intro i ac g1 b1 hi hac hm26 H locs hP hD hS ls hl
          refine lv_iload_n hx hb dX5_shown_26 rfl (lv_at hl 3 rfl) ?_
          refine lv_aload_n hx hb dX5_shown_27 rfl (lv_at hl 0 rfl) ?_
          have hPc := hP.sub (ws' := [(qm, .inr (5, [.int (nI 0), .int (nI n), .int (nI ni), .int (nI no), .ref mk, .ref m0, .ref m1, .ref mi, .ref mo, .ref ml, .ref mf, .ref ma, .int (nI cl), .ref mfd, .ref mts, .int (nI tc), .ref mg, .ref mb]))]) [0] rfl
          refine vp_callSi (va_runV (As := []) (rest := [.int (nI i)]) ⟨hx, hb, hml, hown, hts⟩ (c_X5_blocks l D cI cJ cZ qm mk m0 m1 mi mo ml mf ma mfd mts mg mb (nI 0) n ni no cl tc (by omega)) (cwV 0 hts gX5_shown_X5_blocks rfl rfl rfl (by decide +kernel) ⟨Nat.le_of_ble_eq_true rfl, Nat.le_of_ble_eq_true rfl⟩) ⟨PR.blind, va_recv hK hPc (ci := 5) (q0 := 0) rfl rfl, fun U hU hW => ⟨rfl, PR.to hPc hK hNB hU hW⟩⟩ rfl rfl hl.1 rfl (lv_room (Nat.le_of_ble_eq_true rfl)) dX5_shown_28 ⟨Nat.le_of_ble_eq_true rfl, Nat.le_of_ble_eq_true rfl⟩).run (fun r_3 hrr_3 => ?_)
          subst hrr_3
          refine lv_icmp_ge (tgt := 75) hx hb dX5_shown_31 (by decide) (fun c_31 => ?_) (fun c_31 => ?_)
          · skip
            rw [zc_le (by omega) (by omega)] at c_31
            refine lv_iload_n hx hb dX5_shown_75 rfl (lv_at hl 2 rfl) ?_
            exact W.iret (v := (nI ac)) hx hb hr (fun t_9 ht_9 hW_9 => ⟨⟨(nI ac), (g1, b1), rfl, (show (nI ac) = (nI (sumF (fun w => popN (shw kd s0 s1 on vl n ni no (cn (cf k)) w)) (wordsN ni))) from (by rw [hac, show i = wordsN ni by omega])), ⟨by rw [ht_9]; exact hP, hD⟩⟩, hS.F ht_9⟩) hS.2.2 dX5_shown_76
          · skip
            rw [zc_le (by omega) (by omega)] at c_31
            refine lv_aload_n hx hb dX5_shown_34 rfl (lv_at hl 0 rfl) ?_
            refine lv_aload_n hx hb dX5_shown_35 rfl (lv_at hl 0 rfl) ?_
            refine va_get (D := D) (ci := 5) (v := .ref mf) (C := RX5) (T := TX5) (N := 18) hx hb hts hiX5 hown hK hP 0 rfl rfl 10 (by decide) (hts (.fieldLink RX5 28 "FaultSearchModel" "classFirst" "[I") (by decide +kernel)) (fun _ h9 => h9) rfl dX5_shown_36 ?_
            refine lv_iload_n hx hb dX5_shown_39 rfl (lv_at hl 1 rfl) ?_
            refine zz_iald hx hb hK hP 6 0 rfl rfl (n := 600) (j := k) (by omega) (by decide) dX5_shown_40 ?_
            refine zz_i (z := (nI (cn (cf k)))) (hcf k hk).1 ?_
            refine lv_iload_n hx hb dX5_shown_41 rfl (lv_at hl 3 rfl) ?_
            have hPc := hP.sub (ws' := [(qm, .inr (5, [.int (nI 0), .int (nI n), .int (nI ni), .int (nI no), .ref mk, .ref m0, .ref m1, .ref mi, .ref mo, .ref ml, .ref mf, .ref ma, .int (nI cl), .ref mfd, .ref mts, .int (nI tc), .ref mg, .ref mb])), (mk, .inl (cI, 100, .inl kd)), (m0, .inl (cI, 100, .inl s0)), (m1, .inl (cI, 100, .inl s1)), (mi, .inl (cI, 100, .inl io)), (mo, .inl (cI, 12, .inl on)), (mg, .inl (cJ, 100, .inr (.inl g1))), (mb, .inl (cJ, 100, .inr (.inl b1)))]) [0, 1, 2, 3, 4, 5, 7, 8] rfl
            have hDc := hD.sub (ws' := [(qm, .inr (5, [.int (nI 0), .int (nI n), .int (nI ni), .int (nI no), .ref mk, .ref m0, .ref m1, .ref mi, .ref mo, .ref ml, .ref mf, .ref ma, .int (nI cl), .ref mfd, .ref mts, .int (nI tc), .ref mg, .ref mb])), (mk, .inl (cI, 100, .inl kd)), (m0, .inl (cI, 100, .inl s0)), (m1, .inl (cI, 100, .inl s1)), (mi, .inl (cI, 100, .inl io)), (mo, .inl (cI, 12, .inl on)), (mg, .inl (cJ, 100, .inr (.inl g1))), (mb, .inl (cJ, 100, .inr (.inl b1)))]) [0, 1, 2, 3, 4, 5, 7, 8] (by decide) rfl
            have hFc := va_free (wc := [(qm, .inr (5, [.int (nI 0), .int (nI n), .int (nI ni), .int (nI no), .ref mk, .ref m0, .ref m1, .ref mi, .ref mo, .ref ml, .ref mf, .ref ma, .int (nI cl), .ref mfd, .ref mts, .int (nI tc), .ref mg, .ref mb])), (mk, .inl (cI, 100, .inl kd)), (m0, .inl (cI, 100, .inl s0)), (m1, .inl (cI, 100, .inl s1)), (mi, .inl (cI, 100, .inl io)), (mo, .inl (cI, 12, .inl on)), (mg, .inl (cJ, 100, .inr (.inl g1))), (mb, .inl (cJ, 100, .inr (.inl b1)))]) hD hS hA [0, 1, 2, 3, 4, 5, 7, 8] rfl
            refine va_calll (va_runV (As := [.int (nI (cn (cf k))), .int (nI i)]) (rest := []) ⟨hx, hb, hml, hown, hts⟩ (c_X5_showing l D cI cJ cZ qm mk m0 m1 mi mo ml mf ma mfd mts mg mb (nI 0) n ni no cl tc kd s0 s1 io on g1 b1 vl (cn (cf k)) i H.size _ rfl (by omega) (by omega) hwf hwo hkd hio hV (by omega) (hcf k hk).2.1 (hcf k hk).2.2.1 (by omega)) (cwV 2 hts gX5_shown_X5_showing rfl rfl rfl (by decide +kernel) ⟨Nat.le_of_ble_eq_true rfl, Nat.le_of_ble_eq_true rfl⟩) ⟨PW.blind, va_recv hK hPc (ci := 5) (q0 := 0) rfl rfl, fun U hU hW => ⟨rfl, PW.to hPc hK hNB hDc hU hW⟩⟩ rfl rfl hl.1 rfl (lv_room (Nat.le_of_ble_eq_true rfl)) dX5_shown_42 ⟨Nat.le_of_ble_eq_true rfl, Nat.le_of_ble_eq_true rfl⟩) hS (fun q _ h => hFc q h) hFc (fun r_4 u_9 t_9 H1_9 locs ht_9 hvm_9 hw_9 hB_9 hz1_9 hk1_9 hS => ?_)
            obtain ⟨gd2_5, bd2_6⟩ := u_9
            obtain ⟨hP1_9, hD1_9⟩ := hB_9
            rw [ht_9] at hP1_9
            obtain rfl := hw_9
            obtain ⟨hP, hD⟩ := va_join (wr := [(mf, .inl (cI, 600, .inl cf))]) (w1 := [(qm, .inr (5, [.int (nI 0), .int (nI n), .int (nI ni), .int (nI no), .ref mk, .ref m0, .ref m1, .ref mi, .ref mo, .ref ml, .ref mf, .ref ma, .int (nI cl), .ref mfd, .ref mts, .int (nI tc), .ref mg, .ref mb])), (mk, .inl (cI, 100, .inl kd)), (m0, .inl (cI, 100, .inl s0)), (m1, .inl (cI, 100, .inl s1)), (mi, .inl (cI, 100, .inl io)), (mo, .inl (cI, 12, .inl on)), (mg, .inl (cJ, 100, .inr (.inl gd2_5))), (mb, .inl (cJ, 100, .inr (.inl bd2_6)))]) hP hD [0, 1, 2, 3, 4, 5, 7, 8] [6] rfl rfl (by decide) (by decide) hk1_9 hFc hP1_9 hD1_9
            have hP := hP.sub (ws' := [(qm, .inr (5, [.int (nI 0), .int (nI n), .int (nI ni), .int (nI no), .ref mk, .ref m0, .ref m1, .ref mi, .ref mo, .ref ml, .ref mf, .ref ma, .int (nI cl), .ref mfd, .ref mts, .int (nI tc), .ref mg, .ref mb])), (mk, .inl (cI, 100, .inl kd)), (m0, .inl (cI, 100, .inl s0)), (m1, .inl (cI, 100, .inl s1)), (mi, .inl (cI, 100, .inl io)), (mo, .inl (cI, 12, .inl on)), (mf, .inl (cI, 600, .inl cf)), (mg, .inl (cJ, 100, .inr (.inl gd2_5))), (mb, .inl (cJ, 100, .inr (.inl bd2_6)))]) [1, 2, 3, 4, 5, 6, 0, 7, 8] rfl
            have hD := hD.sub (ws' := [(qm, .inr (5, [.int (nI 0), .int (nI n), .int (nI ni), .int (nI no), .ref mk, .ref m0, .ref m1, .ref mi, .ref mo, .ref ml, .ref mf, .ref ma, .int (nI cl), .ref mfd, .ref mts, .int (nI tc), .ref mg, .ref mb])), (mk, .inl (cI, 100, .inl kd)), (m0, .inl (cI, 100, .inl s0)), (m1, .inl (cI, 100, .inl s1)), (mi, .inl (cI, 100, .inl io)), (mo, .inl (cI, 12, .inl on)), (mf, .inl (cI, 600, .inl cf)), (mg, .inl (cJ, 100, .inr (.inl gd2_5))), (mb, .inl (cJ, 100, .inr (.inl bd2_6)))]) [1, 2, 3, 4, 5, 6, 0, 7, 8] (by decide) rfl
            generalize H1_9 = H at hP hS ⊢
            have hP : va_P D vwCl [(qm, .inr (5, [.int (nI 0), .int (nI n), .int (nI ni), .int (nI no), .ref mk, .ref m0, .ref m1, .ref mi, .ref mo, .ref ml, .ref mf, .ref ma, .int (nI cl), .ref mfd, .ref mts, .int (nI tc), .ref mg, .ref mb])), (mk, .inl (cI, 100, .inl kd)), (m0, .inl (cI, 100, .inl s0)), (m1, .inl (cI, 100, .inl s1)), (mi, .inl (cI, 100, .inl io)), (mo, .inl (cI, 12, .inl on)), (mf, .inl (cI, 600, .inl cf)), (mg, .inl (cJ, 100, .inr (.inl gd2_5))), (mb, .inl (cJ, 100, .inr (.inl bd2_6)))] H := hP
            have hD : va_D A [(qm, .inr (5, [.int (nI 0), .int (nI n), .int (nI ni), .int (nI no), .ref mk, .ref m0, .ref m1, .ref mi, .ref mo, .ref ml, .ref mf, .ref ma, .int (nI cl), .ref mfd, .ref mts, .int (nI tc), .ref mg, .ref mb])), (mk, .inl (cI, 100, .inl kd)), (m0, .inl (cI, 100, .inl s0)), (m1, .inl (cI, 100, .inl s1)), (mi, .inl (cI, 100, .inl io)), (mo, .inl (cI, 12, .inl on)), (mf, .inl (cI, 600, .inl cf)), (mg, .inl (cJ, 100, .inr (.inl gd2_5))), (mb, .inl (cJ, 100, .inr (.inl bd2_6)))] := hD
            refine lv_lstore (lv' := [(4, .long (shw kd s0 s1 on vl n ni no (cn (cf k)) i)), (0, .ref qm), (1, .int (nI k)), (2, .int (nI ac)), (3, .int (nI i))]) hx hb dX5_shown_45 hl (by decide) rfl (fun ls hl => ?_)
            have loop47 : ∀ (n47 : Nat) (ac2 : Nat) (bt : Int64) (hin : ac2 + popN bt = ac + popN (shw kd s0 s1 on vl n ni no (cn (cf k)) i)), popN bt < n47 → ∀ (H : Heap) (locs : List Loc), va_P D vwCl [(qm, .inr (5, [.int (nI 0), .int (nI n), .int (nI ni), .int (nI no), .ref mk, .ref m0, .ref m1, .ref mi, .ref mo, .ref ml, .ref mf, .ref ma, .int (nI cl), .ref mfd, .ref mts, .int (nI tc), .ref mg, .ref mb])), (mk, .inl (cI, 100, .inl kd)), (m0, .inl (cI, 100, .inl s0)), (m1, .inl (cI, 100, .inl s1)), (mi, .inl (cI, 100, .inl io)), (mo, .inl (cI, 12, .inl on)), (mf, .inl (cI, 600, .inl cf)), (mg, .inl (cJ, 100, .inr (.inl gd2_5))), (mb, .inl (cJ, 100, .inr (.inl bd2_6)))] H → va_D A [(qm, .inr (5, [.int (nI 0), .int (nI n), .int (nI ni), .int (nI no), .ref mk, .ref m0, .ref m1, .ref mi, .ref mo, .ref ml, .ref mf, .ref ma, .int (nI cl), .ref mfd, .ref mts, .int (nI tc), .ref mg, .ref mb])), (mk, .inl (cI, 100, .inl kd)), (m0, .inl (cI, 100, .inl s0)), (m1, .inl (cI, 100, .inl s1)), (mi, .inl (cI, 100, .inl io)), (mo, .inl (cI, 12, .inl on)), (mf, .inl (cI, 600, .inl cf)), (mg, .inl (cJ, 100, .inr (.inl gd2_5))), (mb, .inl (cJ, 100, .inr (.inl bd2_6)))] → va_S A s.heap H locs → ∀ (ls : Array Slot), lv_has ls 6 [(0, .ref qm), (1, .int (nI k)), (2, .int (nI ac2)), (3, .int (nI i)), (4, .long bt)] → W p l e (headSpec wsX5_shown ({ frames := 3, cells := 0, slots := 0, locals := 80 } : Room)).room s m ([.ref qm, .int (nI k)] : List Value).toArray below meth c H locs 0 0 (MQ below (va_Qi (fun (r_9 : Int32) (u9 : (Nat → Int64) × (Nat → Int64)) => match u9 with | (gd2, bd2) => r_9 = (nI (sumF (fun w => popN (shw kd s0 s1 on vl n ni no (cn (cf k)) w)) (wordsN ni)))) (fun (u9 : (Nat → Int64) × (Nat → Int64)) t => match u9 with | (gd2, bd2) => PQ D A [(qm, .inr (5, [.int (nI 0), .int (nI n), .int (nI ni), .int (nI no), .ref mk, .ref m0, .ref m1, .ref mi, .ref mo, .ref ml, .ref mf, .ref ma, .int (nI cl), .ref mfd, .ref mts, .int (nI tc), .ref mg, .ref mb])), (mk, .inl (cI, 100, .inl kd)), (m0, .inl (cI, 100, .inl s0)), (m1, .inl (cI, 100, .inl s1)), (mi, .inl (cI, 100, .inl io)), (mo, .inl (cI, 12, .inl on)), (mf, .inl (cI, 600, .inl cf)), (mg, .inl (cJ, 100, .inr (.inl gd2))), (mb, .inl (cJ, 100, .inr (.inl bd2)))] t) A) ([.ref qm, .int (nI k)] : List Value).toArray s 0 0 A) (F0 m 47 ls []) := by
              intro n47
              induction n47 with
              | zero => intro ac2 bt hin hm; exact absurd hm (Nat.not_lt_zero _)
              | succ n47 ih47 =>
                intro ac2 bt hin hm47 H locs hP hD hS ls hl
                refine lv_lload hx hb dX5_shown_47 (lv_at hl 4 rfl) ?_
                refine lv_lconst (v := 0) hx hb dX5_shown_49 (by decide) ?_
                refine W.lcmp hx hb dX5_shown_50 ?_
                refine lv_if_eq (tgt := 69) hx hb dX5_shown_51 (by decide) (fun c_51 => ?_) (fun c_51 => ?_)
                · skip
                  rw [zc_lcmp] at c_51
                  refine lv_iinc (v := (nI (i + 1))) (lv' := [(3, .int (nI (i + 1))), (0, .ref qm), (1, .int (nI k)), (2, .int (nI ac2)), (4, .long bt)]) hx hb dX5_shown_69 hl (k := 3) rfl (nI_add _ 1) (by decide) rfl (fun ls hl => ?_)
                  refine lv_goto (tgt := 26) hx hb dX5_shown_72 (by decide) ?_
                  exact ih26 (i + 1) ac2 gd2_5 bd2_6 (by omega) (by rw [sumF_s, ← hac]; rw [c_51, show popN 0 = 0 by decide] at hin; exact hin) (by omega) _ _ hP hD hS ls (lv_sub hl [1, 2, 3, 0] rfl)
                · skip
                  rw [zc_lcmp] at c_51
                  refine lv_iinc (v := (nI (ac2 + 1))) (lv' := [(2, .int (nI (ac2 + 1))), (0, .ref qm), (1, .int (nI k)), (3, .int (nI i)), (4, .long bt)]) hx hb dX5_shown_54 hl (k := 2) rfl (nI_add _ 1) (by decide) rfl (fun ls hl => ?_)
                  refine lv_lload hx hb dX5_shown_57 (lv_at hl 4 rfl) ?_
                  refine lv_lload hx hb dX5_shown_59 (lv_at hl 4 rfl) ?_
                  refine lv_lconst (v := 1) hx hb dX5_shown_61 (by decide) ?_
                  refine lv_lsub hx hb dX5_shown_62 ?_
                  refine lv_land hx hb dX5_shown_63 ?_
                  refine lv_lstore (lv' := [(4, .long (bt &&& (bt - 1))), (2, .int (nI (ac2 + 1))), (0, .ref qm), (1, .int (nI k)), (3, .int (nI i))]) hx hb dX5_shown_64 hl (by decide) rfl (fun ls hl => ?_)
                  refine lv_goto (tgt := 47) hx hb dX5_shown_66 (by decide) ?_
                  exact ih47 (ac2 + 1) (bt &&& (bt - 1)) (by have := popN_step c_51; omega) (by have := popN_step c_51; omega) _ _ hP hD hS ls (lv_sub hl [2, 3, 1, 4, 0] rfl)
            exact loop47 ((popN (shw kd s0 s1 on vl n ni no (cn (cf k)) i)) + 1) ac (shw kd s0 s1 on vl n ni no (cn (cf k)) i) rfl (Nat.lt_succ_self _) _ _ hP hD hS ls (lv_sub hl [1, 2, 3, 4, 0] rfl)
      exact loop26 ((wordsN ni - 0) + 1) 0 0 gd bd (Nat.zero_le _) rfl (Nat.lt_succ_self _) _ _ hP hD hS ls (lv_sub hl [2, 3, 1, 0] rfl)
    · skip
      rw [zc_if0] at c_17
      have c_17 := Classical.not_not.mp c_17
      exact absurd c_17 (by decide)
