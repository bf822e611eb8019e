set_option maxHeartbeats 4000000 in
set_option maxRecDepth 100000 in
theorem c_X5_thrown (l : Launch) (D : va_G) (cI cJ cZ : ClassId) (qm : Nat) (mk : Nat) (m0 : Nat) (m1 : Nat) (mi : Nat) (mo : Nat) (ml : Nat) (mf : Nat) (ma : Nat) (mfd : Nat) (mts : Nat) (mg : Nat) (mb : Nat) (cd : Int32) (n : Nat) (ni : Nat) (no : Nat) (cl : Nat) (tc : Nat) : Met l yX5_thrown wsX5_thrown ({ frames := 0, cells := 0, slots := 0, locals := 0 } : Room) (va_Pc [.ref qm] (PR D cI cJ cZ [(qm, .inr (5, [.int cd, .int (nI n), .int (nI ni), .int (nI no), .ref mk, .ref m0, .ref m1, .ref mi, .ref mo, .ref ml, .ref mf, .ref ma, .int (nI cl), .ref mfd, .ref mts, .int (nI tc), .ref mg, .ref mb]))])) (vp_Si (fun r_9 : Int32 => r_9 = cd)) 0 0 (fun _ => False) := by
  refine Met.ofW (cc := cX5_thrown) (maxL := 1) (ret := (some .int)) (by decide) rfl ?_
  intro p e s m args below meth c s₁ B hml hv
  obtain ⟨rfl, hP, hK, hNB⟩ := hv
  have hx := B.exec
  have hb := B.bytes
  have hr := B.returns
  have hts := atoms_spec (ws := wsX5_thrown) B.pre
  have hown : s.vm.findClass RX5 = some m.cls := findClass_of_methodNamed B.named
  have hlocks := B.notSynchronized
  have hiX5 : ∀ w ∈ u_ws RX5 TX5 18, w ∈ wsX5_thrown := by decide +kernel
  have hl := lv_entry ([.ref qm]) (n := 1) (Nat.le_of_ble_eq_true rfl)
  rw [lg_entry_eq]
  generalize (lg_sl ([.ref qm]) ++ List.replicate (1 - (lg_sl ([.ref qm])).length) Slot.unset).toArray = ls at hl ⊢
  have hl : lv_has ls 1 [(0, .ref qm)] := hl
  refine lv_aload_n hx hb dX5_thrown_0 rfl (lv_at hl 0 rfl) ?_
  refine va_get (D := D) (ci := 5) (v := .int cd) (C := RX5) (T := TX5) (N := 18) hx hb hts hiX5 hown hK hP 0 rfl rfl 0 (by decide) (hts (.fieldLink RX5 48 "FaultSearchModel" "code" "I") (by decide +kernel)) (fun _ h9 => h9) rfl dX5_thrown_1 ?_
  exact W.iret (v := cd) hx hb hr (fun t_9 ht_9 hW_9 => ⟨cd, rfl, rfl, ht_9⟩) (fun q h => nomatch h) dX5_thrown_4

set_option maxHeartbeats 4000000 in
set_option maxRecDepth 100000 in
theorem c_X5_refuses (l : Launch) (D : va_G) (cI cJ cZ : ClassId) (qm : Nat) (mk : Nat) (m0 : Nat) (m1 : Nat) (mi : Nat) (mo : Nat) (ml : Nat) (mf : Nat) (ma : Nat) (mfd : Nat) (mts : Nat) (mg : Nat) (mb : Nat) (cd : Int32) (n : Nat) (ni : Nat) (no : Nat) (cl : Nat) (tc : Nat) (w : Nat) (sz : Nat) (A : Nat → Prop) (hAe : A = va_A [(qm, .inr (5, [.int cd, .int (nI n), .int (nI ni), .int (nI no), .ref mk, .ref m0, .ref m1, .ref mi, .ref mo, .ref ml, .ref mf, .ref ma, .int (nI cl), .ref mfd, .ref mts, .int (nI tc), .ref mg, .ref mb]))] sz) (hw : w < 2 ^ 31) : Met l yX5_refuses wsX5_refuses ({ frames := 0, cells := 0, slots := 0, locals := 0 } : Room) (va_Pc [.ref qm, .int (nI w)] (PW D cI cJ cZ [(qm, .inr (5, [.int cd, .int (nI n), .int (nI ni), .int (nI no), .ref mk, .ref m0, .ref m1, .ref mi, .ref mo, .ref ml, .ref mf, .ref ma, .int (nI cl), .ref mfd, .ref mts, .int (nI tc), .ref mg, .ref mb]))] sz)) (va_Qi (fun (r_9 : Int32) (_u9 : Unit) => r_9 = (if 0 < w then (1 : Int32) else 0)) (fun (_u9 : Unit) t => PQ D A [(qm, .inr (5, [.int (nI w), .int (nI n), .int (nI ni), .int (nI no), .ref mk, .ref m0, .ref m1, .ref mi, .ref mo, .ref ml, .ref mf, .ref ma, .int (nI cl), .ref mfd, .ref mts, .int (nI tc), .ref mg, .ref mb]))] t) A) 0 0 A := by
  refine Met.ofW (cc := cX5_refuses) (maxL := 2) (ret := (some .boolean)) (by decide) rfl ?_
  intro p e s m args below meth c s₁ B hml hv
  obtain ⟨rfl, hsz, ⟨hP, hK, hNB⟩, hD0⟩ := hv
  have hx := B.exec
  have hb := B.bytes
  have hr := B.returns
  have hts := atoms_spec (ws := wsX5_refuses) B.pre
  have hown : s.vm.findClass RX5 = some m.cls := findClass_of_methodNamed B.named
  have hlocks := B.notSynchronized
  have hiX5 : ∀ w ∈ u_ws RX5 TX5 18, w ∈ wsX5_refuses := by decide +kernel
  subst hsz
  have hD : va_D A [(qm, .inr (5, [.int cd, .int (nI n), .int (nI ni), .int (nI no), .ref mk, .ref m0, .ref m1, .ref mi, .ref mo, .ref ml, .ref mf, .ref ma, .int (nI cl), .ref mfd, .ref mts, .int (nI tc), .ref mg, .ref mb]))] := by rw [hAe]; exact hD0.self
  have hA : ∀ q : Nat, s.heap.size ≤ q → A q := fun q h => by rw [hAe]; exact Or.inr h
  have hS : va_S A s.heap s.heap [] := va_S.rf
  have hl := lv_entry ([.ref qm, .int (nI w)]) (n := 2) (Nat.le_of_ble_eq_true rfl)
  rw [lg_entry_eq]
  generalize (lg_sl ([.ref qm, .int (nI w)]) ++ List.replicate (2 - (lg_sl ([.ref qm, .int (nI w)])).length) Slot.unset).toArray = ls at hl ⊢
  have hl : lv_has ls 2 [(0, .ref qm), (1, .int (nI w))] := hl
  refine lv_aload_n hx hb dX5_refuses_0 rfl (lv_at hl 0 rfl) ?_
  refine lv_iload_n hx hb dX5_refuses_1 rfl (lv_at hl 1 rfl) ?_
  refine va_put (D := D) (ci := 5) (v := .int (nI w)) (ty := .int) (C := RX5) (T := TX5) (N := 18) hx hb hts hiX5 tyX5 tyX5_ok nmX5 hown hK hP hD hS 0 rfl rfl 0 (by decide) (hts (.fieldLink RX5 48 "FaultSearchModel" "code" "I") (by decide +kernel)) (fun _ h9 => h9) rfl (by decide +kernel) rfl rfl (Nat.le_of_ble_eq_true rfl) dX5_refuses_2 (fun H locs hP hD hS => ?_)
  have hP : va_P D vwCl [(qm, .inr (5, [.int (nI w), .int (nI n), .int (nI ni), .int (nI no), .ref mk, .ref m0, .ref m1, .ref mi, .ref mo, .ref ml, .ref mf, .ref ma, .int (nI cl), .ref mfd, .ref mts, .int (nI tc), .ref mg, .ref mb]))] H := hP
  have hD : va_D A [(qm, .inr (5, [.int (nI w), .int (nI n), .int (nI ni), .int (nI no), .ref mk, .ref m0, .ref m1, .ref mi, .ref mo, .ref ml, .ref mf, .ref ma, .int (nI cl), .ref mfd, .ref mts, .int (nI tc), .ref mg, .ref mb]))] := hD
  refine lv_iload_n hx hb dX5_refuses_5 rfl (lv_at hl 1 rfl) ?_
  refine lv_if_le (tgt := 13) hx hb dX5_refuses_6 (by decide) (fun c_6 => ?_) (fun c_6 => ?_)
  · skip
    rw [show (0 : Int32) = nI 0 from rfl, zc_le (by omega) (by omega)] at c_6
    refine lv_iconst (v := (nI 0)) hx hb dX5_refuses_13 (by decide) ?_
    exact W.zret (v := (nI 0)) hx hb hr (rfl) (fun t_9 ht_9 hW_9 => ⟨⟨(nI 0), (), rfl, (by first | exact (if_pos (by omega)).symm | exact (if_neg (by omega)).symm), ⟨by rw [ht_9]; exact hP, hD⟩⟩, hS.F ht_9⟩) hS.2.2 dX5_refuses_14
  · skip
    rw [show (0 : Int32) = nI 0 from rfl, zc_le (by omega) (by omega)] at c_6
    refine lv_iconst (v := (nI 1)) hx hb dX5_refuses_9 (by decide) ?_
    refine lv_goto (tgt := 14) hx hb dX5_refuses_10 (by decide) ?_
    exact W.zret (v := (nI 1)) hx hb hr (rfl) (fun t_9 ht_9 hW_9 => ⟨⟨(nI 1), (), rfl, (by first | exact (if_pos (by omega)).symm | exact (if_neg (by omega)).symm), ⟨by rw [ht_9]; exact hP, hD⟩⟩, hS.F ht_9⟩) hS.2.2 dX5_refuses_14

set_option maxHeartbeats 4000000 in
set_option maxRecDepth 100000 in
theorem c_X5_isNet (l : Launch) (D : va_G) (cI cJ cZ : ClassId) (qm : Nat) (mk : Nat) (m0 : Nat) (m1 : Nat) (mi : Nat) (mo : Nat) (ml : Nat) (mf : Nat) (ma : Nat) (mfd : Nat) (mts : Nat) (mg : Nat) (mb : Nat) (cd : Int32) (n : Nat) (ni : Nat) (no : Nat) (cl : Nat) (tc : Nat) (a : Int32) : Met l yX5_isNet wsX5_isNet ({ frames := 0, cells := 0, slots := 0, locals := 0 } : Room) (va_Pc [.ref qm, .int a] (PR D cI cJ cZ [(qm, .inr (5, [.int cd, .int (nI n), .int (nI ni), .int (nI no), .ref mk, .ref m0, .ref m1, .ref mi, .ref mo, .ref ml, .ref mf, .ref ma, .int (nI cl), .ref mfd, .ref mts, .int (nI tc), .ref mg, .ref mb]))])) (vp_Si (fun r_9 : Int32 => r_9 = (if isN n a then (1 : Int32) else 0))) 0 0 (fun _ => False) := by
  refine Met.ofW (cc := cX5_isNet) (maxL := 2) (ret := (some .boolean)) (by decide) rfl ?_
  intro p e s m args below meth c s₁ B hml hv
  obtain ⟨rfl, hP, hK, hNB⟩ := hv
  have hx := B.exec
  have hb := B.bytes
  have hr := B.returns
  have hts := atoms_spec (ws := wsX5_isNet) B.pre
  have hown : s.vm.findClass RX5 = some m.cls := findClass_of_methodNamed B.named
  have hlocks := B.notSynchronized
  have hiX5 : ∀ w ∈ u_ws RX5 TX5 18, w ∈ wsX5_isNet := by decide +kernel
  have hl := lv_entry ([.ref qm, .int a]) (n := 2) (Nat.le_of_ble_eq_true rfl)
  rw [lg_entry_eq]
  generalize (lg_sl ([.ref qm, .int a]) ++ List.replicate (2 - (lg_sl ([.ref qm, .int a])).length) Slot.unset).toArray = ls at hl ⊢
  have hl : lv_has ls 2 [(0, .ref qm), (1, .int a)] := hl
  refine lv_iload_n hx hb dX5_isNet_0 rfl (lv_at hl 1 rfl) ?_
  refine lv_if_lt (tgt := 16) hx hb dX5_isNet_1 (by decide) (fun c_1 => ?_) (fun c_1 => ?_)
  · skip
    refine lv_iconst (v := (nI 0)) hx hb dX5_isNet_16 (by decide) ?_
    exact W.zret (v := (nI 0)) hx hb hr (rfl) (fun t_9 ht_9 hW_9 => ⟨(nI 0), rfl, (by first | exact (if_pos (by simp_all [onePin, isN])).symm | exact (if_neg (by simp_all [onePin, isN])).symm), ht_9⟩) (fun q h => nomatch h) dX5_isNet_17
  · skip
    refine lv_iload_n hx hb dX5_isNet_4 rfl (lv_at hl 1 rfl) ?_
    refine lv_aload_n hx hb dX5_isNet_5 rfl (lv_at hl 0 rfl) ?_
    refine va_get (D := D) (ci := 5) (v := .int (nI n)) (C := RX5) (T := TX5) (N := 18) hx hb hts hiX5 hown hK hP 0 rfl rfl 1 (by decide) (hts (.fieldLink RX5 52 "FaultSearchModel" "nets" "I") (by decide +kernel)) (fun _ h9 => h9) rfl dX5_isNet_6 ?_
    refine lv_icmp_ge (tgt := 16) hx hb dX5_isNet_9 (by decide) (fun c_9 => ?_) (fun c_9 => ?_)
    · skip
      refine lv_iconst (v := (nI 0)) hx hb dX5_isNet_16 (by decide) ?_
      exact W.zret (v := (nI 0)) hx hb hr (rfl) (fun t_9 ht_9 hW_9 => ⟨(nI 0), rfl, (by first | exact (if_pos (by simp_all [onePin, isN])).symm | exact (if_neg (by simp_all [onePin, isN])).symm), ht_9⟩) (fun q h => nomatch h) dX5_isNet_17
    · skip
      refine lv_iconst (v := (nI 1)) hx hb dX5_isNet_12 (by decide) ?_
      refine lv_goto (tgt := 17) hx hb dX5_isNet_13 (by decide) ?_
      exact W.zret (v := (nI 1)) hx hb hr (rfl) (fun t_9 ht_9 hW_9 => ⟨(nI 1), rfl, (by first | exact (if_pos (by simp_all [onePin, isN])).symm | exact (if_neg (by simp_all [onePin, isN])).symm), ht_9⟩) (fun q h => nomatch h) dX5_isNet_17

set_option maxHeartbeats 4000000 in
set_option maxRecDepth 100000 in
theorem c_X5_isClass (l : Launch) (D : va_G) (cI cJ cZ : ClassId) (qm : Nat) (mk : Nat) (m0 : Nat) (m1 : Nat) (mi : Nat) (mo : Nat) (ml : Nat) (mf : Nat) (ma : Nat) (mfd : Nat) (mts : Nat) (mg : Nat) (mb : Nat) (cd : Int32) (n : Nat) (ni : Nat) (no : Nat) (cl : Nat) (tc : Nat) (a : Int32) : Met l yX5_isClass wsX5_isClass ({ frames := 0, cells := 0, slots := 0, locals := 0 } : Room) (va_Pc [.ref qm, .int a] (PR D cI cJ cZ [(qm, .inr (5, [.int cd, .int (nI n), .int (nI ni), .int (nI no), .ref mk, .ref m0, .ref m1, .ref mi, .ref mo, .ref ml, .ref mf, .ref ma, .int (nI cl), .ref mfd, .ref mts, .int (nI tc), .ref mg, .ref mb]))])) (vp_Si (fun r_9 : Int32 => r_9 = (if isN cl a then (1 : Int32) else 0))) 0 0 (fun _ => False) := by
  refine Met.ofW (cc := cX5_isClass) (maxL := 2) (ret := (some .boolean)) (by decide) rfl ?_
  intro p e s m args below meth c s₁ B hml hv
  obtain ⟨rfl, hP, hK, hNB⟩ := hv
  have hx := B.exec
  have hb := B.bytes
  have hr := B.returns
  have hts := atoms_spec (ws := wsX5_isClass) B.pre
  have hown : s.vm.findClass RX5 = some m.cls := findClass_of_methodNamed B.named
  have hlocks := B.notSynchronized
  have hiX5 : ∀ w ∈ u_ws RX5 TX5 18, w ∈ wsX5_isClass := by decide +kernel
  have hl := lv_entry ([.ref qm, .int a]) (n := 2) (Nat.le_of_ble_eq_true rfl)
  rw [lg_entry_eq]
  generalize (lg_sl ([.ref qm, .int a]) ++ List.replicate (2 - (lg_sl ([.ref qm, .int a])).length) Slot.unset).toArray = ls at hl ⊢
  have hl : lv_has ls 2 [(0, .ref qm), (1, .int a)] := hl
  refine lv_iload_n hx hb dX5_isClass_0 rfl (lv_at hl 1 rfl) ?_
  refine lv_if_lt (tgt := 16) hx hb dX5_isClass_1 (by decide) (fun c_1 => ?_) (fun c_1 => ?_)
  · skip
    refine lv_iconst (v := (nI 0)) hx hb dX5_isClass_16 (by decide) ?_
    exact W.zret (v := (nI 0)) hx hb hr (rfl) (fun t_9 ht_9 hW_9 => ⟨(nI 0), rfl, (by first | exact (if_pos (by simp_all [onePin, isN])).symm | exact (if_neg (by simp_all [onePin, isN])).symm), ht_9⟩) (fun q h => nomatch h) dX5_isClass_17
  · skip
    refine lv_iload_n hx hb dX5_isClass_4 rfl (lv_at hl 1 rfl) ?_
    refine lv_aload_n hx hb dX5_isClass_5 rfl (lv_at hl 0 rfl) ?_
    refine va_get (D := D) (ci := 5) (v := .int (nI cl)) (C := RX5) (T := TX5) (N := 18) hx hb hts hiX5 hown hK hP 0 rfl rfl 12 (by decide) (hts (.fieldLink RX5 94 "FaultSearchModel" "classes" "I") (by decide +kernel)) (fun _ h9 => h9) rfl dX5_isClass_6 ?_
    refine lv_icmp_ge (tgt := 16) hx hb dX5_isClass_9 (by decide) (fun c_9 => ?_) (fun c_9 => ?_)
    · skip
      refine lv_iconst (v := (nI 0)) hx hb dX5_isClass_16 (by decide) ?_
      exact W.zret (v := (nI 0)) hx hb hr (rfl) (fun t_9 ht_9 hW_9 => ⟨(nI 0), rfl, (by first | exact (if_pos (by simp_all [onePin, isN])).symm | exact (if_neg (by simp_all [onePin, isN])).symm), ht_9⟩) (fun q h => nomatch h) dX5_isClass_17
    · skip
      refine lv_iconst (v := (nI 1)) hx hb dX5_isClass_12 (by decide) ?_
      refine lv_goto (tgt := 17) hx hb dX5_isClass_13 (by decide) ?_
      exact W.zret (v := (nI 1)) hx hb hr (rfl) (fun t_9 ht_9 hW_9 => ⟨(nI 1), rfl, (by first | exact (if_pos (by simp_all [onePin, isN])).symm | exact (if_neg (by simp_all [onePin, isN])).symm), ht_9⟩) (fun q h => nomatch h) dX5_isClass_17

set_option maxHeartbeats 4000000 in
set_option maxRecDepth 100000 in
theorem c_X5_pinsOf (l : Launch) (D : va_G) (cI cJ cZ : ClassId) (qm : Nat) (mk : Nat) (m0 : Nat) (m1 : Nat) (mi : Nat) (mo : Nat) (ml : Nat) (mf : Nat) (ma : Nat) (mfd : Nat) (mts : Nat) (mg : Nat) (mb : Nat) (cd : Int32) (n : Nat) (ni : Nat) (no : Nat) (cl : Nat) (tc : Nat) (kd : Nat → Int32) (j : Nat) (hj : j < 100) (hk : KDk (kd j)) : Met l yX5_pinsOf wsX5_pinsOf ({ frames := 0, cells := 0, slots := 0, locals := 0 } : Room) (va_Pc [.ref qm, .int (nI j)] (PR D cI cJ cZ [(qm, .inr (5, [.int cd, .int (nI n), .int (nI ni), .int (nI no), .ref mk, .ref m0, .ref m1, .ref mi, .ref mo, .ref ml, .ref mf, .ref ma, .int (nI cl), .ref mfd, .ref mts, .int (nI tc), .ref mg, .ref mb])), (mk, .inl (cI, 100, .inl kd))])) (vp_Si (fun r_9 : Int32 => r_9 = (nI (pinsN (kd j))))) 0 0 (fun _ => False) := by
  refine Met.ofW (cc := cX5_pinsOf) (maxL := 2) (ret := (some .int)) (by decide) rfl ?_
  intro p e s m args below meth c s₁ B hml hv
  obtain ⟨rfl, hP, hK, hNB⟩ := hv
  have hx := B.exec
  have hb := B.bytes
  have hr := B.returns
  have hts := atoms_spec (ws := wsX5_pinsOf) B.pre
  have hown : s.vm.findClass RX5 = some m.cls := findClass_of_methodNamed B.named
  have hlocks := B.notSynchronized
  have hiX5 : ∀ w ∈ u_ws RX5 TX5 18, w ∈ wsX5_pinsOf := by decide +kernel
  have hl := lv_entry ([.ref qm, .int (nI j)]) (n := 2) (Nat.le_of_ble_eq_true rfl)
  rw [lg_entry_eq]
  generalize (lg_sl ([.ref qm, .int (nI j)]) ++ List.replicate (2 - (lg_sl ([.ref qm, .int (nI j)])).length) Slot.unset).toArray = ls at hl ⊢
  have hl : lv_has ls 2 [(0, .ref qm), (1, .int (nI j))] := hl
  refine lv_aload_n hx hb dX5_pinsOf_0 rfl (lv_at hl 0 rfl) ?_
  refine va_get (D := D) (ci := 5) (v := .ref mk) (C := RX5) (T := TX5) (N := 18) hx hb hts hiX5 hown hK hP 0 rfl rfl 4 (by decide) (hts (.fieldLink RX5 7 "FaultSearchModel" "kinds" "[I") (by decide +kernel)) (fun _ h9 => h9) rfl dX5_pinsOf_1 ?_
  refine lv_iload_n hx hb dX5_pinsOf_4 rfl (lv_at hl 1 rfl) ?_
  refine zz_iald hx hb hK hP 1 0 rfl rfl (n := 100) (j := j) (by omega) (by decide) dX5_pinsOf_5 ?_
  refine lv_if_ge (tgt := 13) hx hb dX5_pinsOf_6 (by decide) (fun c_6 => ?_) (fun c_6 => ?_)
  · skip
    refine lv_aload_n hx hb dX5_pinsOf_13 rfl (lv_at hl 0 rfl) ?_
    refine va_get (D := D) (ci := 5) (v := .ref mk) (C := RX5) (T := TX5) (N := 18) hx hb hts hiX5 hown hK hP 0 rfl rfl 4 (by decide) (hts (.fieldLink RX5 7 "FaultSearchModel" "kinds" "[I") (by decide +kernel)) (fun _ h9 => h9) rfl dX5_pinsOf_14 ?_
    refine lv_iload_n hx hb dX5_pinsOf_17 rfl (lv_at hl 1 rfl) ?_
    refine zz_iald hx hb hK hP 1 0 rfl rfl (n := 100) (j := j) (by omega) (by decide) dX5_pinsOf_18 ?_
    refine lv_iconst (v := (nI 4)) hx hb dX5_pinsOf_19 (by decide) ?_
    refine lv_icmp_le (tgt := 27) hx hb dX5_pinsOf_20 (by decide) (fun c_20 => ?_) (fun c_20 => ?_)
    · skip
      refine lv_iconst (v := (nI 2)) hx hb dX5_pinsOf_27 (by decide) ?_
      exact W.iret (v := (nI 2)) hx hb hr (fun t_9 ht_9 hW_9 => ⟨(nI 2), rfl, (by rw [pinsN_m hk c_6, if_pos c_20]), ht_9⟩) (fun q h => nomatch h) dX5_pinsOf_28
    · skip
      refine lv_iconst (v := (nI 1)) hx hb dX5_pinsOf_23 (by decide) ?_
      refine lv_goto (tgt := 28) hx hb dX5_pinsOf_24 (by decide) ?_
      exact W.iret (v := (nI 1)) hx hb hr (fun t_9 ht_9 hW_9 => ⟨(nI 1), rfl, (by rw [pinsN_m hk c_6, if_neg c_20]), ht_9⟩) (fun q h => nomatch h) dX5_pinsOf_28
  · skip
    refine lv_iconst (v := (nI 0)) hx hb dX5_pinsOf_9 (by decide) ?_
    refine lv_goto (tgt := 28) hx hb dX5_pinsOf_10 (by decide) ?_
    exact W.iret (v := (nI 0)) hx hb hr (fun t_9 ht_9 hW_9 => ⟨(nI 0), rfl, (by rw [pinsN_neg hk c_6]), ht_9⟩) (fun q h => nomatch h) dX5_pinsOf_28

set_option maxHeartbeats 4000000 in
set_option maxRecDepth 100000 in
theorem c_X5_takenBy (l : Launch) (D : va_G) (cI cJ cZ : ClassId) (qm : Nat) (mk : Nat) (m0 : Nat) (m1 : Nat) (mi : Nat) (mo : Nat) (ml : Nat) (mf : Nat) (ma : Nat) (mfd : Nat) (mts : Nat) (mg : Nat) (mb : Nat) (cd : Int32) (n : Nat) (ni : Nat) (no : Nat) (cl : Nat) (tc : Nat) (s0 : Nat → Int32) (s1 : Nat → Int32) (j : Nat) (pn : Nat) (hj : j < 100) (hpn : pn < 2) : Met l yX5_takenBy wsX5_takenBy ({ frames := 0, cells := 0, slots := 0, locals := 0 } : Room) (va_Pc [.ref qm, .int (nI j), .int (nI pn)] (PR D cI cJ cZ [(qm, .inr (5, [.int cd, .int (nI n), .int (nI ni), .int (nI no), .ref mk, .ref m0, .ref m1, .ref mi, .ref mo, .ref ml, .ref mf, .ref ma, .int (nI cl), .ref mfd, .ref mts, .int (nI tc), .ref mg, .ref mb])), (m0, .inl (cI, 100, .inl s0)), (m1, .inl (cI, 100, .inl s1))])) (vp_Si (fun r_9 : Int32 => r_9 = (srcF s0 s1 j pn))) 0 0 (fun _ => False) := by
  refine Met.ofW (cc := cX5_takenBy) (maxL := 3) (ret := (some .int)) (by decide) rfl ?_
  intro p e s m args below meth c s₁ B hml hv
  obtain ⟨rfl, hP, hK, hNB⟩ := hv
  have hx := B.exec
  have hb := B.bytes
  have hr := B.returns
  have hts := atoms_spec (ws := wsX5_takenBy) B.pre
  have hown : s.vm.findClass RX5 = some m.cls := findClass_of_methodNamed B.named
  have hlocks := B.notSynchronized
  have hiX5 : ∀ w ∈ u_ws RX5 TX5 18, w ∈ wsX5_takenBy := by decide +kernel
  have hl := lv_entry ([.ref qm, .int (nI j), .int (nI pn)]) (n := 3) (Nat.le_of_ble_eq_true rfl)
  rw [lg_entry_eq]
  generalize (lg_sl ([.ref qm, .int (nI j), .int (nI pn)]) ++ List.replicate (3 - (lg_sl ([.ref qm, .int (nI j), .int (nI pn)])).length) Slot.unset).toArray = ls at hl ⊢
  have hl : lv_has ls 3 [(0, .ref qm), (1, .int (nI j)), (2, .int (nI pn))] := hl
  refine lv_iload_n hx hb dX5_takenBy_0 rfl (lv_at hl 2 rfl) ?_
  refine lv_if_ne (tgt := 13) hx hb dX5_takenBy_1 (by decide) (fun c_1 => ?_) (fun c_1 => ?_)
  · skip
    rw [zc_eq0 (by omega)] at c_1
    refine lv_aload_n hx hb dX5_takenBy_13 rfl (lv_at hl 0 rfl) ?_
    refine va_get (D := D) (ci := 5) (v := .ref m1) (C := RX5) (T := TX5) (N := 18) hx hb hts hiX5 hown hK hP 0 rfl rfl 6 (by decide) (hts (.fieldLink RX5 16 "FaultSearchModel" "seconds" "[I") (by decide +kernel)) (fun _ h9 => h9) rfl dX5_takenBy_14 ?_
    refine lv_iload_n hx hb dX5_takenBy_17 rfl (lv_at hl 1 rfl) ?_
    refine zz_iald hx hb hK hP 2 0 rfl rfl (n := 100) (j := j) (by omega) (by decide) dX5_takenBy_18 ?_
    exact W.iret (v := (s1 j)) hx hb hr (fun t_9 ht_9 hW_9 => ⟨(s1 j), rfl, (by simp_all [srcF]), ht_9⟩) (fun q h => nomatch h) dX5_takenBy_19
  · skip
    rw [zc_eq0 (by omega)] at c_1
    refine lv_aload_n hx hb dX5_takenBy_4 rfl (lv_at hl 0 rfl) ?_
    refine va_get (D := D) (ci := 5) (v := .ref m0) (C := RX5) (T := TX5) (N := 18) hx hb hts hiX5 hown hK hP 0 rfl rfl 5 (by decide) (hts (.fieldLink RX5 13 "FaultSearchModel" "firsts" "[I") (by decide +kernel)) (fun _ h9 => h9) rfl dX5_takenBy_5 ?_
    refine lv_iload_n hx hb dX5_takenBy_8 rfl (lv_at hl 1 rfl) ?_
    refine zz_iald hx hb hK hP 1 0 rfl rfl (n := 100) (j := j) (by omega) (by decide) dX5_takenBy_9 ?_
    refine lv_goto (tgt := 19) hx hb dX5_takenBy_10 (by decide) ?_
    exact W.iret (v := (s0 j)) hx hb hr (fun t_9 ht_9 hW_9 => ⟨(s0 j), rfl, (by simp_all [srcF]), ht_9⟩) (fun q h => nomatch h) dX5_takenBy_19

set_option maxHeartbeats 4000000 in
set_option maxRecDepth 100000 in
theorem c_X5_faultOf (l : Launch) (net : Nat) (pin : Int32) (p1 : Nat) (v : Nat) (hp : pin + nI 1 = nI p1) : Met l yX5_faultOf wsX5_faultOf ({ frames := 0, cells := 0, slots := 0, locals := 0 } : Room) (va_Pc [.int (nI net), .int pin, .int (nI v)] (fun _ => True)) (vp_Si (fun r_9 : Int32 => r_9 = (nI (net * 6 + p1 * 2 + v)))) 0 0 (fun _ => False) := by
  refine Met.ofW (cc := cX5_faultOf) (maxL := 3) (ret := (some .int)) (by decide) rfl ?_
  intro p e s m args below meth c s₁ B hml hv
  obtain ⟨rfl, -⟩ := hv
  have hx := B.exec
  have hb := B.bytes
  have hr := B.returns
  have hts := atoms_spec (ws := wsX5_faultOf) B.pre
  have hown : s.vm.findClass RX5 = some m.cls := findClass_of_methodNamed B.named
  have hlocks := B.notSynchronized
  have hl := lv_entry ([.int (nI net), .int pin, .int (nI v)]) (n := 3) (Nat.le_of_ble_eq_true rfl)
  rw [lg_entry_eq]
  generalize (lg_sl ([.int (nI net), .int pin, .int (nI v)]) ++ List.replicate (3 - (lg_sl ([.int (nI net), .int pin, .int (nI v)])).length) Slot.unset).toArray = ls at hl ⊢
  have hl : lv_has ls 3 [(0, .int (nI net)), (1, .int pin), (2, .int (nI v))] := hl
  refine lv_bipush (v := (nI 6)) hx hb dX5_faultOf_0 (by decide) ?_
  refine lv_iload_n hx hb dX5_faultOf_2 rfl (lv_at hl 0 rfl) ?_
  refine lv_imul hx hb dX5_faultOf_3 ?_
  refine zz_i (z := (nI (6 * net))) (pk_mul _ _) ?_
  refine lv_iconst (v := (nI 2)) hx hb dX5_faultOf_4 (by decide) ?_
  refine lv_iload_n hx hb dX5_faultOf_5 rfl (lv_at hl 1 rfl) ?_
  refine lv_iconst (v := (nI 1)) hx hb dX5_faultOf_6 (by decide) ?_
  refine lv_iadd hx hb dX5_faultOf_7 ?_
  refine zz_i (z := (nI p1)) hp ?_
  refine lv_imul hx hb dX5_faultOf_8 ?_
  refine zz_i (z := (nI (2 * p1))) (pk_mul _ _) ?_
  refine lv_iadd hx hb dX5_faultOf_9 ?_
  refine zz_i (z := (nI ((6 * net) + (2 * p1)))) (nI_add _ _) ?_
  refine lv_iload_n hx hb dX5_faultOf_10 rfl (lv_at hl 2 rfl) ?_
  refine lv_iadd hx hb dX5_faultOf_11 ?_
  refine zz_i (z := (nI (((6 * net) + (2 * p1)) + v))) (nI_add _ _) ?_
  exact W.iret (v := (nI (((6 * net) + (2 * p1)) + v))) hx hb hr (fun t_9 ht_9 hW_9 => ⟨(nI (((6 * net) + (2 * p1)) + v)), rfl, (congrArg nI (by omega)), ht_9⟩) (fun q h => nomatch h) dX5_faultOf_12

set_option maxHeartbeats 4000000 in
set_option maxRecDepth 100000 in
theorem c_X5_isLine (l : Launch) (D : va_G) (cI cJ cZ : ClassId) (qm : Nat) (mk : Nat) (m0 : Nat) (m1 : Nat) (mi : Nat) (mo : Nat) (ml : Nat) (mf : Nat) (ma : Nat) (mfd : Nat) (mts : Nat) (mg : Nat) (mb : Nat) (cd : Int32) (n : Nat) (ni : Nat) (no : Nat) (cl : Nat) (tc : Nat) (kd : Nat → Int32) (f : Nat) (hf : f < 600) (hn : n ≤ 100) (hkd : KD n kd) : Met l yX5_isLine wsX5_isLine ({ frames := 1, cells := 0, slots := 0, locals := 21 } : Room) (va_Pc [.ref qm, .int (nI f)] (PR D cI cJ cZ [(qm, .inr (5, [.int cd, .int (nI n), .int (nI ni), .int (nI no), .ref mk, .ref m0, .ref m1, .ref mi, .ref mo, .ref ml, .ref mf, .ref ma, .int (nI cl), .ref mfd, .ref mts, .int (nI tc), .ref mg, .ref mb])), (mk, .inl (cI, 100, .inl kd))])) (vp_Si (fun r_9 : Int32 => r_9 = (if isLn kd n f then (1 : Int32) else 0))) 0 0 (fun _ => False) := by
  refine Met.ofW (cc := cX5_isLine) (maxL := 2) (ret := (some .boolean)) (by decide) rfl ?_
  intro p e s m args below meth c s₁ B hml hv
  obtain ⟨rfl, hP, hK, hNB⟩ := hv
  have hx := B.exec
  have hb := B.bytes
  have hr := B.returns
  have hts := atoms_spec (ws := wsX5_isLine) B.pre
  have hown : s.vm.findClass RX5 = some m.cls := findClass_of_methodNamed B.named
  have hlocks := B.notSynchronized
  have hiX5 : ∀ w ∈ u_ws RX5 TX5 18, w ∈ wsX5_isLine := by decide +kernel
  have hl := lv_entry ([.ref qm, .int (nI f)]) (n := 2) (Nat.le_of_ble_eq_true rfl)
  rw [lg_entry_eq]
  generalize (lg_sl ([.ref qm, .int (nI f)]) ++ List.replicate (2 - (lg_sl ([.ref qm, .int (nI f)])).length) Slot.unset).toArray = ls at hl ⊢
  have hl : lv_has ls 2 [(0, .ref qm), (1, .int (nI f))] := hl
  refine lv_iload_n hx hb dX5_isLine_0 rfl (lv_at hl 1 rfl) ?_
  refine lv_bipush (v := (nI 6)) hx hb dX5_isLine_1 (by decide) ?_
  refine lv_idiv hx hb dX5_isLine_3 (by decide) ?_
  refine zz_i (z := (nI (f / 6))) (pk_div (by omega) (by decide) (by decide)) ?_
  refine lv_aload_n hx hb dX5_isLine_4 rfl (lv_at hl 0 rfl) ?_
  refine va_get (D := D) (ci := 5) (v := .int (nI n)) (C := RX5) (T := TX5) (N := 18) hx hb hts hiX5 hown hK hP 0 rfl rfl 1 (by decide) (hts (.fieldLink RX5 52 "FaultSearchModel" "nets" "I") (by decide +kernel)) (fun _ h9 => h9) rfl dX5_isLine_5 ?_
  refine lv_icmp_ge (tgt := 34) hx hb dX5_isLine_8 (by decide) (fun c_8 => ?_) (fun c_8 => ?_)
  · skip
    rw [zc_le (by omega) (by omega)] at c_8
    refine lv_iconst (v := (nI 0)) hx hb dX5_isLine_34 (by decide) ?_
    exact W.zret (v := (nI 0)) hx hb hr (rfl) (fun t_9 ht_9 hW_9 => ⟨(nI 0), rfl, (by first | exact (if_pos ⟨by omega, by omega⟩).symm | exact (if_neg (fun h => by have := h.1; omega)).symm | exact (if_neg (fun h => by have := h.2; omega)).symm), ht_9⟩) (fun q h => nomatch h) dX5_isLine_35
  · skip
    rw [zc_le (by omega) (by omega)] at c_8
    refine lv_iload_n hx hb dX5_isLine_11 rfl (lv_at hl 1 rfl) ?_
    refine lv_bipush (v := (nI 6)) hx hb dX5_isLine_12 (by decide) ?_
    refine lv_irem hx hb dX5_isLine_14 (by decide) ?_
    refine zz_i (z := (nI (f % 6))) (pk_rem (by omega) (by decide) (by decide)) ?_
    refine lv_iconst (v := (nI 2)) hx hb dX5_isLine_15 (by decide) ?_
    refine lv_idiv hx hb dX5_isLine_16 (by decide) ?_
    refine zz_i (z := (nI ((f % 6) / 2))) (pk_div (by omega) (by decide) (by decide)) ?_
    refine lv_iconst (v := (nI 1)) hx hb dX5_isLine_17 (by decide) ?_
    refine lv_isub hx hb dX5_isLine_18 ?_
    refine lv_aload_n hx hb dX5_isLine_19 rfl (lv_at hl 0 rfl) ?_
    refine lv_iload_n hx hb dX5_isLine_20 rfl (lv_at hl 1 rfl) ?_
    refine lv_bipush (v := (nI 6)) hx hb dX5_isLine_21 (by decide) ?_
    refine lv_idiv hx hb dX5_isLine_23 (by decide) ?_
    refine zz_i (z := (nI (f / 6))) (pk_div (by omega) (by decide) (by decide)) ?_
    have hPc := hP.sub (ws' := [(qm, .inr (5, [.int cd, .int (nI n), .int (nI ni), .int (nI no), .ref mk, .ref m0, .ref m1, .ref mi, .ref mo, .ref ml, .ref mf, .ref ma, .int (nI cl), .ref mfd, .ref mts, .int (nI tc), .ref mg, .ref mb])), (mk, .inl (cI, 100, .inl kd))]) [0, 1] rfl
    refine vp_callSi (va_runV (As := [.int (nI (f / 6))]) (rest := [.int ((nI ((f % 6) / 2)) - (nI 1))]) ⟨hx, hb, hml, hown, hts⟩ (c_X5_pinsOf l D cI cJ cZ qm mk m0 m1 mi mo ml mf ma mfd mts mg mb cd n ni no cl tc kd (f / 6) (by omega) (hkd _ (by omega))) (cwV 1 hts gX5_isLine_X5_pinsOf rfl rfl rfl (by decide +kernel) ⟨Nat.le_of_ble_eq_true rfl, Nat.le_of_ble_eq_true rfl⟩) ⟨PR.blind, va_recv hK hPc (ci := 5) (q0 := 0) rfl rfl, fun U hU hW => ⟨rfl, PR.to hPc hK hNB hU hW⟩⟩ rfl rfl hl.1 rfl (lv_room (Nat.le_of_ble_eq_true rfl)) dX5_isLine_24 ⟨Nat.le_of_ble_eq_true rfl, Nat.le_of_ble_eq_true rfl⟩).run (fun r_1 hrr_1 => ?_)
    subst hrr_1
    refine lv_icmp_ge (tgt := 34) hx hb dX5_isLine_27 (by decide) (fun c_27 => ?_) (fun c_27 => ?_)
    · skip
      rw [zs_pin (pinsN_le _) (by omega)] at c_27
      refine lv_iconst (v := (nI 0)) hx hb dX5_isLine_34 (by decide) ?_
      exact W.zret (v := (nI 0)) hx hb hr (rfl) (fun t_9 ht_9 hW_9 => ⟨(nI 0), rfl, (by first | exact (if_pos ⟨by omega, by omega⟩).symm | exact (if_neg (fun h => by have := h.1; omega)).symm | exact (if_neg (fun h => by have := h.2; omega)).symm), ht_9⟩) (fun q h => nomatch h) dX5_isLine_35
    · skip
      rw [zs_pin (pinsN_le _) (by omega)] at c_27
      refine lv_iconst (v := (nI 1)) hx hb dX5_isLine_30 (by decide) ?_
      refine lv_goto (tgt := 35) hx hb dX5_isLine_31 (by decide) ?_
      exact W.zret (v := (nI 1)) hx hb hr (rfl) (fun t_9 ht_9 hW_9 => ⟨(nI 1), rfl, (by first | exact (if_pos ⟨by omega, by omega⟩).symm | exact (if_neg (fun h => by have := h.1; omega)).symm | exact (if_neg (fun h => by have := h.2; omega)).symm), ht_9⟩) (fun q h => nomatch h) dX5_isLine_35

set_option maxHeartbeats 4000000 in
set_option maxRecDepth 100000 in
theorem c_X5_put (l : Launch) (D : va_G) (cI cJ cZ : ClassId) (qm : Nat) (mk : Nat) (m0 : Nat) (m1 : Nat) (mi : Nat) (mo : Nat) (ml : Nat) (mf : Nat) (ma : Nat) (mfd : Nat) (mts : Nat) (mg : Nat) (mb : Nat) (cd : Int32) (n : Nat) (ni : Nat) (no : Nat) (cl : Nat) (tc : Nat) (le : Nat → Int32) (r : Nat → Nat) (f : Nat) (g : Nat) (sz : Nat) (A : Nat → Prop) (hAe : A = va_A [(qm, .inr (5, [.int cd, .int (nI n), .int (nI ni), .int (nI no), .ref mk, .ref m0, .ref m1, .ref mi, .ref mo, .ref ml, .ref mf, .ref ma, .int (nI cl), .ref mfd, .ref mts, .int (nI tc), .ref mg, .ref mb])), (ml, .inl (cI, 600, .inl le))] sz) (hL : LeOf le r) (hB : mrgB r) (hf : f < 600) (hg : g < 600) : Met l yX5_put wsX5_put ({ frames := 0, cells := 0, slots := 0, locals := 0 } : Room) (va_Pc [.ref qm, .int (nI f), .int (nI g)] (PW D cI cJ cZ [(qm, .inr (5, [.int cd, .int (nI n), .int (nI ni), .int (nI no), .ref mk, .ref m0, .ref m1, .ref mi, .ref mo, .ref ml, .ref mf, .ref ma, .int (nI cl), .ref mfd, .ref mts, .int (nI tc), .ref mg, .ref mb])), (ml, .inl (cI, 600, .inl le))] sz)) (va_Qv (fun u9 : (Nat → Int32) => match u9 with | le2 => LeOf le2 (mrg r f g) ∧ mrgB (mrg r f g)) (fun (u9 : (Nat → Int32)) t => match u9 with | le2 => PQ D A [(qm, .inr (5, [.int cd, .int (nI n), .int (nI ni), .int (nI no), .ref mk, .ref m0, .ref m1, .ref mi, .ref mo, .ref ml, .ref mf, .ref ma, .int (nI cl), .ref mfd, .ref mts, .int (nI tc), .ref mg, .ref mb])), (ml, .inl (cI, 600, .inl le2))] t) A) 0 0 A := by
  refine Met.ofW (cc := cX5_put) (maxL := 6) (ret := none) (by decide) rfl ?_
  intro p e s m args below meth c s₁ B hml hv
  obtain ⟨rfl, hsz, ⟨hP, hK, hNB⟩, hD0⟩ := hv
  have hx := B.exec
  have hb := B.bytes
  have hr := B.returns
  have hts := atoms_spec (ws := wsX5_put) B.pre
  have hown : s.vm.findClass RX5 = some m.cls := findClass_of_methodNamed B.named
  have hlocks := B.notSynchronized
  have hiX5 : ∀ w ∈ u_ws RX5 TX5 18, w ∈ wsX5_put := by decide +kernel
  subst hsz
  have hD : va_D A [(qm, .inr (5, [.int cd, .int (nI n), .int (nI ni), .int (nI no), .ref mk, .ref m0, .ref m1, .ref mi, .ref mo, .ref ml, .ref mf, .ref ma, .int (nI cl), .ref mfd, .ref mts, .int (nI tc), .ref mg, .ref mb])), (ml, .inl (cI, 600, .inl le))] := by rw [hAe]; exact hD0.self
  have hA : ∀ q : Nat, s.heap.size ≤ q → A q := fun q h => by rw [hAe]; exact Or.inr h
  have hS : va_S A s.heap s.heap [] := va_S.rf
  have hl := lv_entry ([.ref qm, .int (nI f), .int (nI g)]) (n := 6) (Nat.le_of_ble_eq_true rfl)
  rw [lg_entry_eq]
  generalize (lg_sl ([.ref qm, .int (nI f), .int (nI g)]) ++ List.replicate (6 - (lg_sl ([.ref qm, .int (nI f), .int (nI g)])).length) Slot.unset).toArray = ls at hl ⊢
  have hl : lv_has ls 6 [(0, .ref qm), (1, .int (nI f)), (2, .int (nI g))] := hl
  have hrf := hB f hf
  have hrg := hB g hg
  refine lv_aload_n hx hb dX5_put_0 rfl (lv_at hl 0 rfl) ?_
  refine va_get (D := D) (ci := 5) (v := .ref ml) (C := RX5) (T := TX5) (N := 18) hx hb hts hiX5 hown hK hP 0 rfl rfl 9 (by decide) (hts (.fieldLink RX5 25 "FaultSearchModel" "least" "[I") (by decide +kernel)) (fun _ h9 => h9) rfl dX5_put_1 ?_
  refine lv_iload_n hx hb dX5_put_4 rfl (lv_at hl 1 rfl) ?_
  refine zz_iald hx hb hK hP 1 0 rfl rfl (n := 600) (j := f) (by omega) (by decide) dX5_put_5 ?_
  refine zz_i (z := (nI (r f))) (hL f hf) ?_
  refine lv_istore_n (lv' := [(3, .int (nI (r f))), (0, .ref qm), (1, .int (nI f)), (2, .int (nI g))]) hx hb dX5_put_6 rfl hl (by decide) rfl (fun ls hl => ?_)
  refine lv_aload_n hx hb dX5_put_7 rfl (lv_at hl 1 rfl) ?_
  refine va_get (D := D) (ci := 5) (v := .ref ml) (C := RX5) (T := TX5) (N := 18) hx hb hts hiX5 hown hK hP 0 rfl rfl 9 (by decide) (hts (.fieldLink RX5 25 "FaultSearchModel" "least" "[I") (by decide +kernel)) (fun _ h9 => h9) rfl dX5_put_8 ?_
  refine lv_iload_n hx hb dX5_put_11 rfl (lv_at hl 3 rfl) ?_
  refine zz_iald hx hb hK hP 1 0 rfl rfl (n := 600) (j := g) (by omega) (by decide) dX5_put_12 ?_
  refine zz_i (z := (nI (r g))) (hL g hg) ?_
  refine lv_istore (lv' := [(4, .int (nI (r g))), (3, .int (nI (r f))), (0, .ref qm), (1, .int (nI f)), (2, .int (nI g))]) hx hb dX5_put_13 hl (by decide) rfl (fun ls hl => ?_)
  refine lv_iconst (v := (nI 0)) hx hb dX5_put_15 (by decide) ?_
  refine lv_istore (lv' := [(5, .int (nI 0)), (4, .int (nI (r g))), (3, .int (nI (r f))), (0, .ref qm), (1, .int (nI f)), (2, .int (nI g))]) hx hb dX5_put_16 hl (by decide) rfl (fun ls hl => ?_)
  have loop18 : ∀ (n18 : Nat) (k : Nat) (v : Nat → Int32) (hk : k ≤ 600) (hv : LeOf v (mrgK r f g k)), 600 - k < n18 → ∀ (H : Heap) (locs : List Loc), va_P D vwCl [(qm, .inr (5, [.int cd, .int (nI n), .int (nI ni), .int (nI no), .ref mk, .ref m0, .ref m1, .ref mi, .ref mo, .ref ml, .ref mf, .ref ma, .int (nI cl), .ref mfd, .ref mts, .int (nI tc), .ref mg, .ref mb])), (ml, .inl (cI, 600, .inl v))] H → va_D A [(qm, .inr (5, [.int cd, .int (nI n), .int (nI ni), .int (nI no), .ref mk, .ref m0, .ref m1, .ref mi, .ref mo, .ref ml, .ref mf, .ref ma, .int (nI cl), .ref mfd, .ref mts, .int (nI tc), .ref mg, .ref mb])), (ml, .inl (cI, 600, .inl v))] → va_S A s.heap H locs → ∀ (ls : Array Slot), lv_has ls 6 [(0, .ref qm), (1, .int (nI f)), (2, .int (nI g)), (3, .int (nI (r f))), (4, .int (nI (r g))), (5, .int (nI k))] → W p l e (headSpec wsX5_put ({ frames := 0, cells := 0, slots := 0, locals := 0 } : Room)).room s m ([.ref qm, .int (nI f), .int (nI g)] : List Value).toArray below meth c H locs 0 0 (MQ below (va_Qv (fun u9 : (Nat → Int32) => match u9 with | le2 => LeOf le2 (mrg r f g) ∧ mrgB (mrg r f g)) (fun (u9 : (Nat → Int32)) t => match u9 with | le2 => PQ D A [(qm, .inr (5, [.int cd, .int (nI n), .int (nI ni), .int (nI no), .ref mk, .ref m0, .ref m1, .ref mi, .ref mo, .ref ml, .ref mf, .ref ma, .int (nI cl), .ref mfd, .ref mts, .int (nI tc), .ref mg, .ref mb])), (ml, .inl (cI, 600, .inl le2))] t) A) ([.ref qm, .int (nI f), .int (nI g)] : List Value).toArray s 0 0 A) (F0 m 18 ls []) := by
    intro n18
    induction n18 with
    | zero => intro k v hk hv hm; exact absurd hm (Nat.not_lt_zero _)
    | succ n18 ih18 =>
      intro k v hk hv hm18 H locs hP hD hS ls hl
      have hrf := hB f hf
      have hrg := hB g hg
      refine lv_iload hx hb dX5_put_18 (lv_at hl 5 rfl) ?_
      refine lv_sipush (v := (nI 600)) hx hb dX5_put_20 (by decide) ?_
      refine lv_icmp_ge (tgt := 84) hx hb dX5_put_23 (by decide) (fun c_23 => ?_) (fun c_23 => ?_)
      · skip
        rw [zc_le (by omega) (by omega)] at c_23
        exact W.vret hx hb hr (fun t_9 ht_9 hW_9 => ⟨⟨v, rfl, (show LeOf v (mrg r f g) ∧ mrgB (mrg r f g) from ⟨mrgK_end (by rw [show k = 600 by omega] at hv; exact hv), hB.join hf hg⟩), ⟨by rw [ht_9]; exact hP, hD⟩⟩, hS.F ht_9⟩) hS.2.2 dX5_put_84
      · skip
        rw [zc_le (by omega) (by omega)] at c_23
        refine lv_aload_n hx hb dX5_put_26 rfl (lv_at hl 0 rfl) ?_
        refine va_get (D := D) (ci := 5) (v := .ref ml) (C := RX5) (T := TX5) (N := 18) hx hb hts hiX5 hown hK hP 0 rfl rfl 9 (by decide) (hts (.fieldLink RX5 25 "FaultSearchModel" "least" "[I") (by decide +kernel)) (fun _ h9 => h9) rfl dX5_put_27 ?_
        refine lv_iload hx hb dX5_put_30 (lv_at hl 5 rfl) ?_
        refine lv_aload_n hx hb dX5_put_32 rfl (lv_at hl 0 rfl) ?_
        refine va_get (D := D) (ci := 5) (v := .ref ml) (C := RX5) (T := TX5) (N := 18) hx hb hts hiX5 hown hK hP 0 rfl rfl 9 (by decide) (hts (.fieldLink RX5 25 "FaultSearchModel" "least" "[I") (by decide +kernel)) (fun _ h9 => h9) rfl dX5_put_33 ?_
        refine lv_iload hx hb dX5_put_36 (lv_at hl 5 rfl) ?_
        refine zz_iald hx hb hK hP 1 0 rfl rfl (n := 600) (j := k) (by omega) (by decide) dX5_put_38 ?_
        refine zz_i (z := (nI (r k))) ((hv k (by omega)).trans (congrArg nI mrgK_at)) ?_
        have hrk := hB k (by omega)
        refine lv_iload_n hx hb dX5_put_39 rfl (lv_at hl 3 rfl) ?_
        refine lv_icmp_eq (tgt := 55) hx hb dX5_put_40 (by decide) (fun c_40 => ?_) (fun c_40 => ?_)
        · skip
          rw [zc_eq (by omega) (by omega)] at c_40
          refine lv_iload_n hx hb dX5_put_55 rfl (lv_at hl 3 rfl) ?_
          refine lv_iload hx hb dX5_put_56 (lv_at hl 4 rfl) ?_
          refine lv_icmp_ge (tgt := 65) hx hb dX5_put_58 (by decide) (fun c_58 => ?_) (fun c_58 => ?_)
          · skip
            rw [zc_le (by omega) (by omega)] at c_58
            refine lv_iload hx hb dX5_put_65 (lv_at hl 4 rfl) ?_
            refine lv_goto (tgt := 77) hx hb dX5_put_67 (by decide) ?_
            refine zz_iast hx hb hK hP hD hS 1 0 rfl rfl (n := 600) (j := k) (by omega) (by decide) dX5_put_77 (fun H locs hP hD hS => ?_)
            have hP : va_P D vwCl [(qm, .inr (5, [.int cd, .int (nI n), .int (nI ni), .int (nI no), .ref mk, .ref m0, .ref m1, .ref mi, .ref mo, .ref ml, .ref mf, .ref ma, .int (nI cl), .ref mfd, .ref mts, .int (nI tc), .ref mg, .ref mb])), (ml, .inl (cI, 600, .inl (upd v k (nI (r g)))))] H := hP
            have hD : va_D A [(qm, .inr (5, [.int cd, .int (nI n), .int (nI ni), .int (nI no), .ref mk, .ref m0, .ref m1, .ref mi, .ref mo, .ref ml, .ref mf, .ref ma, .int (nI cl), .ref mfd, .ref mts, .int (nI tc), .ref mg, .ref mb])), (ml, .inl (cI, 600, .inl (upd v k (nI (r g)))))] := hD
            refine lv_iinc (v := (nI (k + 1))) (lv' := [(5, .int (nI (k + 1))), (0, .ref qm), (1, .int (nI f)), (2, .int (nI g)), (3, .int (nI (r f))), (4, .int (nI (r g)))]) hx hb dX5_put_78 hl (k := 5) rfl (nI_add _ 1) (by decide) rfl (fun ls hl => ?_)
            refine lv_goto (tgt := 18) hx hb dX5_put_81 (by decide) ?_
            exact ih18 (k + 1) (upd v k (nI (r g))) (by omega) (mrgK_s hv (by unfold mrg; first | (rw [if_pos (Or.inl c_40)]; omega) | (rw [if_pos (Or.inr c_52)]; omega) | (rw [if_neg (by intro h; rcases h with h | h; exact c_40 h; exact c_52 h)]))) (by omega) _ _ hP hD hS ls (lv_sub hl [1, 2, 3, 4, 5, 0] rfl)
          · skip
            rw [zc_le (by omega) (by omega)] at c_58
            refine lv_iload_n hx hb dX5_put_61 rfl (lv_at hl 3 rfl) ?_
            refine lv_goto (tgt := 77) hx hb dX5_put_62 (by decide) ?_
            refine zz_iast hx hb hK hP hD hS 1 0 rfl rfl (n := 600) (j := k) (by omega) (by decide) dX5_put_77 (fun H locs hP hD hS => ?_)
            have hP : va_P D vwCl [(qm, .inr (5, [.int cd, .int (nI n), .int (nI ni), .int (nI no), .ref mk, .ref m0, .ref m1, .ref mi, .ref mo, .ref ml, .ref mf, .ref ma, .int (nI cl), .ref mfd, .ref mts, .int (nI tc), .ref mg, .ref mb])), (ml, .inl (cI, 600, .inl (upd v k (nI (r f)))))] H := hP
            have hD : va_D A [(qm, .inr (5, [.int cd, .int (nI n), .int (nI ni), .int (nI no), .ref mk, .ref m0, .ref m1, .ref mi, .ref mo, .ref ml, .ref mf, .ref ma, .int (nI cl), .ref mfd, .ref mts, .int (nI tc), .ref mg, .ref mb])), (ml, .inl (cI, 600, .inl (upd v k (nI (r f)))))] := hD
            refine lv_iinc (v := (nI (k + 1))) (lv' := [(5, .int (nI (k + 1))), (0, .ref qm), (1, .int (nI f)), (2, .int (nI g)), (3, .int (nI (r f))), (4, .int (nI (r g)))]) hx hb dX5_put_78 hl (k := 5) rfl (nI_add _ 1) (by decide) rfl (fun ls hl => ?_)
            refine lv_goto (tgt := 18) hx hb dX5_put_81 (by decide) ?_
            exact ih18 (k + 1) (upd v k (nI (r f))) (by omega) (mrgK_s hv (by unfold mrg; first | (rw [if_pos (Or.inl c_40)]; omega) | (rw [if_pos (Or.inr c_52)]; omega) | (rw [if_neg (by intro h; rcases h with h | h; exact c_40 h; exact c_52 h)]))) (by omega) _ _ hP hD hS ls (lv_sub hl [1, 2, 3, 4, 5, 0] rfl)
        · skip
          rw [zc_eq (by omega) (by omega)] at c_40
          refine lv_aload_n hx hb dX5_put_43 rfl (lv_at hl 0 rfl) ?_
          refine va_get (D := D) (ci := 5) (v := .ref ml) (C := RX5) (T := TX5) (N := 18) hx hb hts hiX5 hown hK hP 0 rfl rfl 9 (by decide) (hts (.fieldLink RX5 25 "FaultSearchModel" "least" "[I") (by decide +kernel)) (fun _ h9 => h9) rfl dX5_put_44 ?_
          refine lv_iload hx hb dX5_put_47 (lv_at hl 5 rfl) ?_
          refine zz_iald hx hb hK hP 1 0 rfl rfl (n := 600) (j := k) (by omega) (by decide) dX5_put_49 ?_
          refine zz_i (z := (nI (r k))) ((hv k (by omega)).trans (congrArg nI mrgK_at)) ?_
          refine lv_iload hx hb dX5_put_50 (lv_at hl 4 rfl) ?_
          refine lv_icmp_ne (tgt := 70) hx hb dX5_put_52 (by decide) (fun c_52 => ?_) (fun c_52 => ?_)
          · skip
            rw [zc_eq (by omega) (by omega)] at c_52
            refine lv_aload_n hx hb dX5_put_70 rfl (lv_at hl 0 rfl) ?_
            refine va_get (D := D) (ci := 5) (v := .ref ml) (C := RX5) (T := TX5) (N := 18) hx hb hts hiX5 hown hK hP 0 rfl rfl 9 (by decide) (hts (.fieldLink RX5 25 "FaultSearchModel" "least" "[I") (by decide +kernel)) (fun _ h9 => h9) rfl dX5_put_71 ?_
            refine lv_iload hx hb dX5_put_74 (lv_at hl 5 rfl) ?_
            refine zz_iald hx hb hK hP 1 0 rfl rfl (n := 600) (j := k) (by omega) (by decide) dX5_put_76 ?_
            refine zz_i (z := (nI (r k))) ((hv k (by omega)).trans (congrArg nI mrgK_at)) ?_
            refine zz_iast hx hb hK hP hD hS 1 0 rfl rfl (n := 600) (j := k) (by omega) (by decide) dX5_put_77 (fun H locs hP hD hS => ?_)
            have hP : va_P D vwCl [(qm, .inr (5, [.int cd, .int (nI n), .int (nI ni), .int (nI no), .ref mk, .ref m0, .ref m1, .ref mi, .ref mo, .ref ml, .ref mf, .ref ma, .int (nI cl), .ref mfd, .ref mts, .int (nI tc), .ref mg, .ref mb])), (ml, .inl (cI, 600, .inl (upd v k (nI (r k)))))] H := hP
            have hD : va_D A [(qm, .inr (5, [.int cd, .int (nI n), .int (nI ni), .int (nI no), .ref mk, .ref m0, .ref m1, .ref mi, .ref mo, .ref ml, .ref mf, .ref ma, .int (nI cl), .ref mfd, .ref mts, .int (nI tc), .ref mg, .ref mb])), (ml, .inl (cI, 600, .inl (upd v k (nI (r k)))))] := hD
            refine lv_iinc (v := (nI (k + 1))) (lv' := [(5, .int (nI (k + 1))), (0, .ref qm), (1, .int (nI f)), (2, .int (nI g)), (3, .int (nI (r f))), (4, .int (nI (r g)))]) hx hb dX5_put_78 hl (k := 5) rfl (nI_add _ 1) (by decide) rfl (fun ls hl => ?_)
            refine lv_goto (tgt := 18) hx hb dX5_put_81 (by decide) ?_
            exact ih18 (k + 1) (upd v k (nI (r k))) (by omega) (mrgK_s hv (by unfold mrg; first | (rw [if_pos (Or.inl c_40)]; omega) | (rw [if_pos (Or.inr c_52)]; omega) | (rw [if_neg (by intro h; rcases h with h | h; exact c_40 h; exact c_52 h)]))) (by omega) _ _ hP hD hS ls (lv_sub hl [1, 2, 3, 4, 5, 0] rfl)
          · skip
            rw [zc_eq (by omega) (by omega)] at c_52
            refine lv_iload_n hx hb dX5_put_55 rfl (lv_at hl 3 rfl) ?_
            refine lv_iload hx hb dX5_put_56 (lv_at hl 4 rfl) ?_
            refine lv_icmp_ge (tgt := 65) hx hb dX5_put_58 (by decide) (fun c_58 => ?_) (fun c_58 => ?_)
            · skip
              rw [zc_le (by omega) (by omega)] at c_58
              refine lv_iload hx hb dX5_put_65 (lv_at hl 4 rfl) ?_
              refine lv_goto (tgt := 77) hx hb dX5_put_67 (by decide) ?_
              refine zz_iast hx hb hK hP hD hS 1 0 rfl rfl (n := 600) (j := k) (by omega) (by decide) dX5_put_77 (fun H locs hP hD hS => ?_)
              have hP : va_P D vwCl [(qm, .inr (5, [.int cd, .int (nI n), .int (nI ni), .int (nI no), .ref mk, .ref m0, .ref m1, .ref mi, .ref mo, .ref ml, .ref mf, .ref ma, .int (nI cl), .ref mfd, .ref mts, .int (nI tc), .ref mg, .ref mb])), (ml, .inl (cI, 600, .inl (upd v k (nI (r g)))))] H := hP
              have hD : va_D A [(qm, .inr (5, [.int cd, .int (nI n), .int (nI ni), .int (nI no), .ref mk, .ref m0, .ref m1, .ref mi, .ref mo, .ref ml, .ref mf, .ref ma, .int (nI cl), .ref mfd, .ref mts, .int (nI tc), .ref mg, .ref mb])), (ml, .inl (cI, 600, .inl (upd v k (nI (r g)))))] := hD
              refine lv_iinc (v := (nI (k + 1))) (lv' := [(5, .int (nI (k + 1))), (0, .ref qm), (1, .int (nI f)), (2, .int (nI g)), (3, .int (nI (r f))), (4, .int (nI (r g)))]) hx hb dX5_put_78 hl (k := 5) rfl (nI_add _ 1) (by decide) rfl (fun ls hl => ?_)
              refine lv_goto (tgt := 18) hx hb dX5_put_81 (by decide) ?_
              exact ih18 (k + 1) (upd v k (nI (r g))) (by omega) (mrgK_s hv (by unfold mrg; first | (rw [if_pos (Or.inl c_40)]; omega) | (rw [if_pos (Or.inr c_52)]; omega) | (rw [if_neg (by intro h; rcases h with h | h; exact c_40 h; exact c_52 h)]))) (by omega) _ _ hP hD hS ls (lv_sub hl [1, 2, 3, 4, 5, 0] rfl)
            · skip
              rw [zc_le (by omega) (by omega)] at c_58
              refine lv_iload_n hx hb dX5_put_61 rfl (lv_at hl 3 rfl) ?_
              refine lv_goto (tgt := 77) hx hb dX5_put_62 (by decide) ?_
              refine zz_iast hx hb hK hP hD hS 1 0 rfl rfl (n := 600) (j := k) (by omega) (by decide) dX5_put_77 (fun H locs hP hD hS => ?_)
              have hP : va_P D vwCl [(qm, .inr (5, [.int cd, .int (nI n), .int (nI ni), .int (nI no), .ref mk, .ref m0, .ref m1, .ref mi, .ref mo, .ref ml, .ref mf, .ref ma, .int (nI cl), .ref mfd, .ref mts, .int (nI tc), .ref mg, .ref mb])), (ml, .inl (cI, 600, .inl (upd v k (nI (r f)))))] H := hP
              have hD : va_D A [(qm, .inr (5, [.int cd, .int (nI n), .int (nI ni), .int (nI no), .ref mk, .ref m0, .ref m1, .ref mi, .ref mo, .ref ml, .ref mf, .ref ma, .int (nI cl), .ref mfd, .ref mts, .int (nI tc), .ref mg, .ref mb])), (ml, .inl (cI, 600, .inl (upd v k (nI (r f)))))] := hD
              refine lv_iinc (v := (nI (k + 1))) (lv' := [(5, .int (nI (k + 1))), (0, .ref qm), (1, .int (nI f)), (2, .int (nI g)), (3, .int (nI (r f))), (4, .int (nI (r g)))]) hx hb dX5_put_78 hl (k := 5) rfl (nI_add _ 1) (by decide) rfl (fun ls hl => ?_)
              refine lv_goto (tgt := 18) hx hb dX5_put_81 (by decide) ?_
              exact ih18 (k + 1) (upd v k (nI (r f))) (by omega) (mrgK_s hv (by unfold mrg; first | (rw [if_pos (Or.inl c_40)]; omega) | (rw [if_pos (Or.inr c_52)]; omega) | (rw [if_neg (by intro h; rcases h with h | h; exact c_40 h; exact c_52 h)]))) (by omega) _ _ hP hD hS ls (lv_sub hl [1, 2, 3, 4, 5, 0] rfl)
  exact loop18 ((600 - 0) + 1) 0 le (by omega) (mrgK_0 r f g hL) (Nat.lt_succ_self _) _ _ hP hD hS ls (lv_sub hl [3, 4, 5, 2, 1, 0] rfl)

set_option maxHeartbeats 4000000 in
set_option maxRecDepth 100000 in
theorem c_X5_joinGate (l : Launch) (D : va_G) (cI cJ cZ : ClassId) (qm : Nat) (mk : Nat) (m0 : Nat) (m1 : Nat) (mi : Nat) (mo : Nat) (ml : Nat) (mf : Nat) (ma : Nat) (mfd : Nat) (mts : Nat) (mg : Nat) (mb : Nat) (cd : Int32) (n : Nat) (ni : Nat) (no : Nat) (cl : Nat) (tc : Nat) (kd : Nat → Int32) (le : Nat → Int32) (r : Nat → Nat) (j : Nat) (sz : Nat) (A : Nat → Prop) (hAe : A = va_A [(qm, .inr (5, [.int cd, .int (nI n), .int (nI ni), .int (nI no), .ref mk, .ref m0, .ref m1, .ref mi, .ref mo, .ref ml, .ref mf, .ref ma, .int (nI cl), .ref mfd, .ref mts, .int (nI tc), .ref mg, .ref mb])), (mk, .inl (cI, 100, .inl kd)), (ml, .inl (cI, 600, .inl le))] sz) (hL : LeOf le r) (hB : mrgB r) (hj : j < 100) (hk : KDk (kd j)) : Met l yX5_joinGate wsX5_joinGate ({ frames := 1, cells := 0, slots := 0, locals := 25 } : Room) (va_Pc [.ref qm, .int (nI j)] (PW D cI cJ cZ [(qm, .inr (5, [.int cd, .int (nI n), .int (nI ni), .int (nI no), .ref mk, .ref m0, .ref m1, .ref mi, .ref mo, .ref ml, .ref mf, .ref ma, .int (nI cl), .ref mfd, .ref mts, .int (nI tc), .ref mg, .ref mb])), (mk, .inl (cI, 100, .inl kd)), (ml, .inl (cI, 600, .inl le))] sz)) (va_Qv (fun u9 : (Nat → Int32) => match u9 with | le2 => LeOf le2 (mrgs (gNs (kd j) j (pinsN (kd j))) r) ∧ mrgB (mrgs (gNs (kd j) j (pinsN (kd j))) r)) (fun (u9 : (Nat → Int32)) t => match u9 with | le2 => PQ D A [(qm, .inr (5, [.int cd, .int (nI n), .int (nI ni), .int (nI no), .ref mk, .ref m0, .ref m1, .ref mi, .ref mo, .ref ml, .ref mf, .ref ma, .int (nI cl), .ref mfd, .ref mts, .int (nI tc), .ref mg, .ref mb])), (mk, .inl (cI, 100, .inl kd)), (ml, .inl (cI, 600, .inl le2))] t) A) 0 0 A := by
  refine Met.ofW (cc := cX5_joinGate) (maxL := 5) (ret := none) (by decide) rfl ?_
  intro p e s m args below meth c s₁ B hml hv
  obtain ⟨rfl, hsz, ⟨hP, hK, hNB⟩, hD0⟩ := hv
  have hx := B.exec
  have hb := B.bytes
  have hr := B.returns
  have hts := atoms_spec (ws := wsX5_joinGate) B.pre
  have hown : s.vm.findClass RX5 = some m.cls := findClass_of_methodNamed B.named
  have hlocks := B.notSynchronized
  have hiX5 : ∀ w ∈ u_ws RX5 TX5 18, w ∈ wsX5_joinGate := by decide +kernel
  subst hsz
  have hD : va_D A [(qm, .inr (5, [.int cd, .int (nI n), .int (nI ni), .int (nI no), .ref mk, .ref m0, .ref m1, .ref mi, .ref mo, .ref ml, .ref mf, .ref ma, .int (nI cl), .ref mfd, .ref mts, .int (nI tc), .ref mg, .ref mb])), (mk, .inl (cI, 100, .inl kd)), (ml, .inl (cI, 600, .inl le))] := by rw [hAe]; exact hD0.self
  have hA : ∀ q : Nat, s.heap.size ≤ q → A q := fun q h => by rw [hAe]; exact Or.inr h
  have hS : va_S A s.heap s.heap [] := va_S.rf
  have hl := lv_entry ([.ref qm, .int (nI j)]) (n := 5) (Nat.le_of_ble_eq_true rfl)
  rw [lg_entry_eq]
  generalize (lg_sl ([.ref qm, .int (nI j)]) ++ List.replicate (5 - (lg_sl ([.ref qm, .int (nI j)])).length) Slot.unset).toArray = ls at hl ⊢
  have hl : lv_has ls 5 [(0, .ref qm), (1, .int (nI j))] := hl
  have hp2 := pinsN_le (kd j)
  refine lv_iconst (v := (nI 0)) hx hb dX5_joinGate_0 (by decide) ?_
  refine lv_istore_n (lv' := [(2, .int (nI 0)), (0, .ref qm), (1, .int (nI j))]) hx hb dX5_joinGate_1 rfl hl (by decide) rfl (fun ls hl => ?_)
  have loop2 : ∀ (n2 : Nat) (pn : Nat) (v1 : Nat → Int32) (hpn : pn ≤ pinsN (kd j)) (hL1 : LeOf v1 (mrgs (gNs (kd j) j pn) r)) (hB1 : mrgB (mrgs (gNs (kd j) j pn) r)), pinsN (kd j) - pn < n2 → ∀ (H : Heap) (locs : List Loc), va_P D vwCl [(qm, .inr (5, [.int cd, .int (nI n), .int (nI ni), .int (nI no), .ref mk, .ref m0, .ref m1, .ref mi, .ref mo, .ref ml, .ref mf, .ref ma, .int (nI cl), .ref mfd, .ref mts, .int (nI tc), .ref mg, .ref mb])), (mk, .inl (cI, 100, .inl kd)), (ml, .inl (cI, 600, .inl v1))] H → va_D A [(qm, .inr (5, [.int cd, .int (nI n), .int (nI ni), .int (nI no), .ref mk, .ref m0, .ref m1, .ref mi, .ref mo, .ref ml, .ref mf, .ref ma, .int (nI cl), .ref mfd, .ref mts, .int (nI tc), .ref mg, .ref mb])), (mk, .inl (cI, 100, .inl kd)), (ml, .inl (cI, 600, .inl v1))] → va_S A s.heap H locs → ∀ (ls : Array Slot), lv_has ls 5 [(0, .ref qm), (1, .int (nI j)), (2, .int (nI pn))] → W p l e (headSpec wsX5_joinGate ({ frames := 1, cells := 0, slots := 0, locals := 25 } : Room)).room s m ([.ref qm, .int (nI j)] : List Value).toArray below meth c H locs 0 0 (MQ below (va_Qv (fun u9 : (Nat → Int32) => match u9 with | le2 => LeOf le2 (mrgs (gNs (kd j) j (pinsN (kd j))) r) ∧ mrgB (mrgs (gNs (kd j) j (pinsN (kd j))) r)) (fun (u9 : (Nat → Int32)) t => match u9 with | le2 => PQ D A [(qm, .inr (5, [.int cd, .int (nI n), .int (nI ni), .int (nI no), .ref mk, .ref m0, .ref m1, .ref mi, .ref mo, .ref ml, .ref mf, .ref ma, .int (nI cl), .ref mfd, .ref mts, .int (nI tc), .ref mg, .ref mb])), (mk, .inl (cI, 100, .inl kd)), (ml, .inl (cI, 600, .inl le2))] t) A) ([.ref qm, .int (nI j)] : List Value).toArray s 0 0 A) (F0 m 2 ls []) := by
    intro n2
    induction n2 with
    | zero => intro pn v1 hpn hL1 hB1 hm; exact absurd hm (Nat.not_lt_zero _)
    | succ n2 ih2 =>
      intro pn v1 hpn hL1 hB1 hm2 H locs hP hD hS ls hl
      refine lv_iload_n hx hb dX5_joinGate_2 rfl (lv_at hl 2 rfl) ?_
      refine lv_aload_n hx hb dX5_joinGate_3 rfl (lv_at hl 0 rfl) ?_
      refine lv_iload_n hx hb dX5_joinGate_4 rfl (lv_at hl 1 rfl) ?_
      have hPc := hP.sub (ws' := [(qm, .inr (5, [.int cd, .int (nI n), .int (nI ni), .int (nI no), .ref mk, .ref m0, .ref m1, .ref mi, .ref mo, .ref ml, .ref mf, .ref ma, .int (nI cl), .ref mfd, .ref mts, .int (nI tc), .ref mg, .ref mb])), (mk, .inl (cI, 100, .inl kd))]) [0, 1] rfl
      refine vp_callSi (va_runV (As := [.int (nI j)]) (rest := [.int (nI pn)]) ⟨hx, hb, hml, hown, hts⟩ (c_X5_pinsOf l D cI cJ cZ qm mk m0 m1 mi mo ml mf ma mfd mts mg mb cd n ni no cl tc kd j (by omega) hk) (cwV 1 hts gX5_joinGate_X5_pinsOf rfl rfl rfl (by decide +kernel) ⟨Nat.le_of_ble_eq_true rfl, Nat.le_of_ble_eq_true rfl⟩) ⟨PR.blind, va_recv hK hPc (ci := 5) (q0 := 0) rfl rfl, fun U hU hW => ⟨rfl, PR.to hPc hK hNB hU hW⟩⟩ rfl rfl hl.1 rfl (lv_room (Nat.le_of_ble_eq_true rfl)) dX5_joinGate_5 ⟨Nat.le_of_ble_eq_true rfl, Nat.le_of_ble_eq_true rfl⟩).run (fun r_1 hrr_1 => ?_)
      subst hrr_1
      refine lv_icmp_ge (tgt := 175) hx hb dX5_joinGate_8 (by decide) (fun c_8 => ?_) (fun c_8 => ?_)
      · skip
        rw [zc_le (by omega) (by omega)] at c_8
        exact W.vret hx hb hr (fun t_9 ht_9 hW_9 => ⟨⟨v1, rfl, (show LeOf v1 (mrgs (gNs (kd j) j (pinsN (kd j))) r) ∧ mrgB (mrgs (gNs (kd j) j (pinsN (kd j))) r) from (by rw [← show pn = pinsN (kd j) by omega]; exact ⟨hL1, hB1⟩)), ⟨by rw [ht_9]; exact hP, hD⟩⟩, hS.F ht_9⟩) hS.2.2 dX5_joinGate_175
      · skip
        rw [zc_le (by omega) (by omega)] at c_8
        refine lv_iconst (v := (nI 0)) hx hb dX5_joinGate_11 (by decide) ?_
        refine lv_istore_n (lv' := [(3, .int (nI 0)), (0, .ref qm), (1, .int (nI j)), (2, .int (nI pn))]) hx hb dX5_joinGate_12 rfl hl (by decide) rfl (fun ls hl => ?_)
        have loop13 : ∀ (n13 : Nat) (v : Nat) (v2 : Nat → Int32) (hv : v ≤ 2) (hL2 : LeOf v2 (mrgs (gVs (kd j) j pn v) (mrgs (gNs (kd j) j pn) r))) (hB2 : mrgB (mrgs (gVs (kd j) j pn v) (mrgs (gNs (kd j) j pn) r))), 2 - v < n13 → ∀ (H : Heap) (locs : List Loc), va_P D vwCl [(qm, .inr (5, [.int cd, .int (nI n), .int (nI ni), .int (nI no), .ref mk, .ref m0, .ref m1, .ref mi, .ref mo, .ref ml, .ref mf, .ref ma, .int (nI cl), .ref mfd, .ref mts, .int (nI tc), .ref mg, .ref mb])), (mk, .inl (cI, 100, .inl kd)), (ml, .inl (cI, 600, .inl v2))] H → va_D A [(qm, .inr (5, [.int cd, .int (nI n), .int (nI ni), .int (nI no), .ref mk, .ref m0, .ref m1, .ref mi, .ref mo, .ref ml, .ref mf, .ref ma, .int (nI cl), .ref mfd, .ref mts, .int (nI tc), .ref mg, .ref mb])), (mk, .inl (cI, 100, .inl kd)), (ml, .inl (cI, 600, .inl v2))] → va_S A s.heap H locs → ∀ (ls : Array Slot), lv_has ls 5 [(0, .ref qm), (1, .int (nI j)), (2, .int (nI pn)), (3, .int (nI v))] → W p l e (headSpec wsX5_joinGate ({ frames := 1, cells := 0, slots := 0, locals := 25 } : Room)).room s m ([.ref qm, .int (nI j)] : List Value).toArray below meth c H locs 0 0 (MQ below (va_Qv (fun u9 : (Nat → Int32) => match u9 with | le2 => LeOf le2 (mrgs (gNs (kd j) j (pinsN (kd j))) r) ∧ mrgB (mrgs (gNs (kd j) j (pinsN (kd j))) r)) (fun (u9 : (Nat → Int32)) t => match u9 with | le2 => PQ D A [(qm, .inr (5, [.int cd, .int (nI n), .int (nI ni), .int (nI no), .ref mk, .ref m0, .ref m1, .ref mi, .ref mo, .ref ml, .ref mf, .ref ma, .int (nI cl), .ref mfd, .ref mts, .int (nI tc), .ref mg, .ref mb])), (mk, .inl (cI, 100, .inl kd)), (ml, .inl (cI, 600, .inl le2))] t) A) ([.ref qm, .int (nI j)] : List Value).toArray s 0 0 A) (F0 m 13 ls []) := by
          intro n13
          induction n13 with
          | zero => intro v v2 hv hL2 hB2 hm; exact absurd hm (Nat.not_lt_zero _)
          | succ n13 ih13 =>
            intro v v2 hv hL2 hB2 hm13 H locs hP hD hS ls hl
            refine lv_iload_n hx hb dX5_joinGate_13 rfl (lv_at hl 3 rfl) ?_
            refine lv_iconst (v := (nI 2)) hx hb dX5_joinGate_14 (by decide) ?_
            refine lv_icmp_ge (tgt := 169) hx hb dX5_joinGate_15 (by decide) (fun c_15 => ?_) (fun c_15 => ?_)
            · skip
              rw [zc_le (by omega) (by omega)] at c_15
              refine lv_iinc (v := (nI (pn + 1))) (lv' := [(2, .int (nI (pn + 1))), (0, .ref qm), (1, .int (nI j)), (3, .int (nI v))]) hx hb dX5_joinGate_169 hl (k := 2) rfl (nI_add _ 1) (by decide) rfl (fun ls hl => ?_)
              refine lv_goto (tgt := 2) hx hb dX5_joinGate_172 (by decide) ?_
              exact ih2 (pn + 1) v2 (by omega) (by rw [gNs_s, ← show v = 2 by omega, mrgs_app]; exact hL2) (by rw [gNs_s, ← show v = 2 by omega, mrgs_app]; exact hB2) (by omega) _ _ hP hD hS ls (lv_sub hl [1, 2, 0] rfl)
            · skip
              rw [zc_le (by omega) (by omega)] at c_15
              refine lv_iconst (v := (-1)) hx hb dX5_joinGate_18 (by decide) ?_
              refine lv_istore (lv' := [(4, .int (-1)), (0, .ref qm), (1, .int (nI j)), (2, .int (nI pn)), (3, .int (nI v))]) hx hb dX5_joinGate_19 hl (by decide) rfl (fun ls hl => ?_)
              refine lv_aload_n hx hb dX5_joinGate_21 rfl (lv_at hl 1 rfl) ?_
              refine va_get (D := D) (ci := 5) (v := .ref mk) (C := RX5) (T := TX5) (N := 18) hx hb hts hiX5 hown hK hP 0 rfl rfl 4 (by decide) (hts (.fieldLink RX5 7 "FaultSearchModel" "kinds" "[I") (by decide +kernel)) (fun _ h9 => h9) rfl dX5_joinGate_22 ?_
              refine lv_iload_n hx hb dX5_joinGate_25 rfl (lv_at hl 2 rfl) ?_
              refine zz_iald hx hb hK hP 1 0 rfl rfl (n := 100) (j := j) (by omega) (by decide) dX5_joinGate_26 ?_
              by_cases k_0 : (kd j) = nI 0
              · skip
                refine zz_i (z := nI 0) k_0 ?_
                refine lv_tableIn (off := 41) (tgt := 68) hx hb dX5_joinGate_27 (by decide) (by decide) rfl (by decide) ?_
                refine lv_iload_n hx hb dX5_joinGate_68 rfl (lv_at hl 4 rfl) ?_
                refine lv_if_ne (tgt := 76) hx hb dX5_joinGate_69 (by decide) (fun c_69 => ?_) (fun c_69 => ?_)
                · skip
                  rw [zc_eq0 (by omega)] at c_69
                  refine lv_iconst (v := (-1)) hx hb dX5_joinGate_76 (by decide) ?_
                  refine lv_istore (lv' := [(4, .int (-1)), (0, .ref qm), (1, .int (nI j)), (2, .int (nI pn)), (3, .int (nI v))]) hx hb dX5_joinGate_77 hl (by decide) rfl (fun ls hl => ?_)
                  refine lv_goto (tgt := 140) hx hb dX5_joinGate_79 (by decide) ?_
                  have hto : gPt (kd j) v = none := by rw [k_0]; show (if v = 0 then some 0 else none) = none; first | exact if_pos (by omega) | exact if_neg (by omega)
                  refine lv_iload hx hb dX5_joinGate_140 (lv_at hl 0 rfl) ?_
                  refine lv_iconst (v := (-1)) hx hb dX5_joinGate_142 (by decide) ?_
                  refine lv_icmp_eq (tgt := 163) hx hb dX5_joinGate_143 (by decide) (fun c_143 => ?_) (fun c_143 => ?_)
                  · skip
                    refine lv_iinc (v := (nI (v + 1))) (lv' := [(3, .int (nI (v + 1))), (4, .int (-1)), (0, .ref qm), (1, .int (nI j)), (2, .int (nI pn))]) hx hb dX5_joinGate_163 hl (k := 4) rfl (nI_add _ 1) (by decide) rfl (fun ls hl => ?_)
                    refine lv_goto (tgt := 13) hx hb dX5_joinGate_166 (by decide) ?_
                    exact ih13 (v + 1) v2 (by omega) (by rw [gVs_s, mrgs_app, (gPv_none hto)]; exact hL2) (by rw [gVs_s, mrgs_app, (gPv_none hto)]; exact hB2) (by omega) _ _ hP hD hS ls (lv_sub hl [2, 3, 4, 0] rfl)
                  · skip
                    exact absurd (by decide) c_143
                · skip
                  rw [zc_eq0 (by omega)] at c_69
                  refine lv_iconst (v := (nI 0)) hx hb dX5_joinGate_72 (by decide) ?_
                  refine lv_goto (tgt := 77) hx hb dX5_joinGate_73 (by decide) ?_
                  refine lv_istore (lv' := [(4, .int (nI 0)), (0, .ref qm), (1, .int (nI j)), (2, .int (nI pn)), (3, .int (nI v))]) hx hb dX5_joinGate_77 hl (by decide) rfl (fun ls hl => ?_)
                  refine lv_goto (tgt := 140) hx hb dX5_joinGate_79 (by decide) ?_
                  have hto : gPt (kd j) v = some (0) := by rw [k_0]; show (if v = 0 then some 0 else none) = some (0); first | exact if_pos (by omega) | exact if_neg (by omega)
                  refine lv_iload hx hb dX5_joinGate_140 (lv_at hl 0 rfl) ?_
                  refine lv_iconst (v := (-1)) hx hb dX5_joinGate_142 (by decide) ?_
                  refine lv_icmp_eq (tgt := 163) hx hb dX5_joinGate_143 (by decide) (fun c_143 => ?_) (fun c_143 => ?_)
                  · skip
                    exact absurd c_143 (by decide)
                  · skip
                    refine lv_aload_n hx hb dX5_joinGate_146 rfl (lv_at hl 1 rfl) ?_
                    refine lv_iload_n hx hb dX5_joinGate_147 rfl (lv_at hl 2 rfl) ?_
                    refine lv_iload_n hx hb dX5_joinGate_148 rfl (lv_at hl 3 rfl) ?_
                    refine lv_iload_n hx hb dX5_joinGate_149 rfl (lv_at hl 4 rfl) ?_
                    refine vp_callSi (va_runS (As := [.int (nI j), .int (nI pn), .int (nI v)]) (rest := [.ref qm]) ⟨hx, hb, hml, hown, hts⟩ (c_X5_faultOf l j (nI pn) (pn + 1) v (nI_add _ _)) (va_cwS 3 hts gX5_joinGate_X5_faultOf rfl rfl rfl (by decide +kernel) ⟨Nat.le_of_ble_eq_true rfl, Nat.le_of_ble_eq_true rfl⟩) ⟨zt_blind, fun U hU hW => ⟨rfl, trivial⟩⟩ rfl rfl hl.1 rfl (lv_room (Nat.le_of_ble_eq_true rfl)) dX5_joinGate_150 ⟨Nat.le_of_ble_eq_true rfl, Nat.le_of_ble_eq_true rfl⟩).run (fun r_2 hrr_2 => ?_)
                    subst hrr_2
                    refine lv_iload_n hx hb dX5_joinGate_153 rfl (lv_at hl 2 rfl) ?_
                    refine lv_iconst (v := (-1)) hx hb dX5_joinGate_154 (by decide) ?_
                    refine lv_iload hx hb dX5_joinGate_155 (lv_at hl 0 rfl) ?_
                    refine vp_callSi (va_runS (As := [.int (nI j), .int (-1), .int (nI 0)]) (rest := [.int (nI (j * 6 + (pn + 1) * 2 + v)), .ref qm]) ⟨hx, hb, hml, hown, hts⟩ (c_X5_faultOf l j (-1) 0 0 (by decide)) (va_cwS 3 hts gX5_joinGate_X5_faultOf rfl rfl rfl (by decide +kernel) ⟨Nat.le_of_ble_eq_true rfl, Nat.le_of_ble_eq_true rfl⟩) ⟨zt_blind, fun U hU hW => ⟨rfl, trivial⟩⟩ rfl rfl hl.1 rfl (lv_room (Nat.le_of_ble_eq_true rfl)) dX5_joinGate_157 ⟨Nat.le_of_ble_eq_true rfl, Nat.le_of_ble_eq_true rfl⟩).run (fun r_3 hrr_3 => ?_)
                    subst hrr_3
                    have hPc := hP.sub (ws' := [(qm, .inr (5, [.int cd, .int (nI n), .int (nI ni), .int (nI no), .ref mk, .ref m0, .ref m1, .ref mi, .ref mo, .ref ml, .ref mf, .ref ma, .int (nI cl), .ref mfd, .ref mts, .int (nI tc), .ref mg, .ref mb])), (ml, .inl (cI, 600, .inl v2))]) [0, 2] rfl
                    have hDc := hD.sub (ws' := [(qm, .inr (5, [.int cd, .int (nI n), .int (nI ni), .int (nI no), .ref mk, .ref m0, .ref m1, .ref mi, .ref mo, .ref ml, .ref mf, .ref ma, .int (nI cl), .ref mfd, .ref mts, .int (nI tc), .ref mg, .ref mb])), (ml, .inl (cI, 600, .inl v2))]) [0, 2] (by decide) rfl
                    have hFc := va_free (wc := [(qm, .inr (5, [.int cd, .int (nI n), .int (nI ni), .int (nI no), .ref mk, .ref m0, .ref m1, .ref mi, .ref mo, .ref ml, .ref mf, .ref ma, .int (nI cl), .ref mfd, .ref mts, .int (nI tc), .ref mg, .ref mb])), (ml, .inl (cI, 600, .inl v2))]) hD hS hA [0, 2] rfl
                    refine va_callv (va_runV (As := [.int (nI (j * 6 + (pn + 1) * 2 + v)), .int (nI (j * 6 + 0 * 2 + 0))]) (rest := []) ⟨hx, hb, hml, hown, hts⟩ (c_X5_put l D cI cJ cZ qm mk m0 m1 mi mo ml mf ma mfd mts mg mb cd n ni no cl tc v2 (mrgs (gVs (kd j) j pn v) (mrgs (gNs (kd j) j pn) r)) (j * 6 + (pn + 1) * 2 + v) (j * 6 + 0 * 2 + 0) H.size _ rfl hL2 hB2 (by omega) (by omega)) (cwV 2 hts gX5_joinGate_X5_put rfl rfl rfl (by decide +kernel) ⟨Nat.le_of_ble_eq_true rfl, Nat.le_of_ble_eq_true rfl⟩) ⟨PW.blind, va_recv hK hPc (ci := 5) (q0 := 0) rfl rfl, fun U hU hW => ⟨rfl, PW.to hPc hK hNB hDc hU hW⟩⟩ rfl rfl hl.1 rfl (lv_room (Nat.le_of_ble_eq_true rfl)) dX5_joinGate_160 ⟨Nat.le_of_ble_eq_true rfl, Nat.le_of_ble_eq_true rfl⟩) hS (fun q _ h => hFc q h) hFc (fun u_9 t_9 H1_9 locs ht_9 hvm_9 hw_9 hB_9 hz1_9 hk1_9 hS => ?_)
                    obtain ⟨le2_5, rfl⟩ : ∃ z, z = u_9 := ⟨_, rfl⟩
                    obtain ⟨hP1_9, hD1_9⟩ := hB_9
                    rw [ht_9] at hP1_9
                    obtain ⟨k_L, k_B⟩ := hw_9
                    have k_L : LeOf le2_5 (mrg (mrgs (gVs (kd j) j pn v) (mrgs (gNs (kd j) j pn) r)) (j * 6 + (pn + 1) * 2 + v) (j * 6 + 0 * 2 + 0)) := k_L
                    have k_B : mrgB (mrg (mrgs (gVs (kd j) j pn v) (mrgs (gNs (kd j) j pn) r)) (j * 6 + (pn + 1) * 2 + v) (j * 6 + 0 * 2 + 0)) := k_B
                    obtain ⟨hP, hD⟩ := va_join (wr := [(mk, .inl (cI, 100, .inl kd))]) (w1 := [(qm, .inr (5, [.int cd, .int (nI n), .int (nI ni), .int (nI no), .ref mk, .ref m0, .ref m1, .ref mi, .ref mo, .ref ml, .ref mf, .ref ma, .int (nI cl), .ref mfd, .ref mts, .int (nI tc), .ref mg, .ref mb])), (ml, .inl (cI, 600, .inl le2_5))]) hP hD [0, 2] [1] rfl rfl (by decide) (by decide) hk1_9 hFc hP1_9 hD1_9
                    have hP := hP.sub (ws' := [(qm, .inr (5, [.int cd, .int (nI n), .int (nI ni), .int (nI no), .ref mk, .ref m0, .ref m1, .ref mi, .ref mo, .ref ml, .ref mf, .ref ma, .int (nI cl), .ref mfd, .ref mts, .int (nI tc), .ref mg, .ref mb])), (mk, .inl (cI, 100, .inl kd)), (ml, .inl (cI, 600, .inl le2_5))]) [1, 0, 2] rfl
                    have hD := hD.sub (ws' := [(qm, .inr (5, [.int cd, .int (nI n), .int (nI ni), .int (nI no), .ref mk, .ref m0, .ref m1, .ref mi, .ref mo, .ref ml, .ref mf, .ref ma, .int (nI cl), .ref mfd, .ref mts, .int (nI tc), .ref mg, .ref mb])), (mk, .inl (cI, 100, .inl kd)), (ml, .inl (cI, 600, .inl le2_5))]) [1, 0, 2] (by decide) rfl
                    generalize H1_9 = H at hP hS ⊢
                    have hP : va_P D vwCl [(qm, .inr (5, [.int cd, .int (nI n), .int (nI ni), .int (nI no), .ref mk, .ref m0, .ref m1, .ref mi, .ref mo, .ref ml, .ref mf, .ref ma, .int (nI cl), .ref mfd, .ref mts, .int (nI tc), .ref mg, .ref mb])), (mk, .inl (cI, 100, .inl kd)), (ml, .inl (cI, 600, .inl le2_5))] H := hP
                    have hD : va_D A [(qm, .inr (5, [.int cd, .int (nI n), .int (nI ni), .int (nI no), .ref mk, .ref m0, .ref m1, .ref mi, .ref mo, .ref ml, .ref mf, .ref ma, .int (nI cl), .ref mfd, .ref mts, .int (nI tc), .ref mg, .ref mb])), (mk, .inl (cI, 100, .inl kd)), (ml, .inl (cI, 600, .inl le2_5))] := hD
                    refine lv_iinc (v := (nI (v + 1))) (lv' := [(3, .int (nI (v + 1))), (4, .int (nI 0)), (0, .ref qm), (1, .int (nI j)), (2, .int (nI pn))]) hx hb dX5_joinGate_163 hl (k := 4) rfl (nI_add _ 1) (by decide) rfl (fun ls hl => ?_)
                    refine lv_goto (tgt := 13) hx hb dX5_joinGate_166 (by decide) ?_
                    exact ih13 (v + 1) le2_5 (by omega) (by rw [gVs_s, mrgs_app, (gPv_some (w := 0) hto)]; exact k_L) (by rw [gVs_s, mrgs_app, (gPv_some (w := 0) hto)]; exact k_B) (by omega) _ _ hP hD hS ls (lv_sub hl [2, 3, 4, 0] rfl)
              by_cases k_1 : (kd j) = nI 1
              · skip
                refine zz_i (z := nI 1) k_1 ?_
                refine lv_tableIn (off := 55) (tgt := 82) hx hb dX5_joinGate_27 (by decide) (by decide) rfl (by decide) ?_
                refine lv_iload_n hx hb dX5_joinGate_82 rfl (lv_at hl 4 rfl) ?_
                refine lv_iconst (v := (nI 1)) hx hb dX5_joinGate_83 (by decide) ?_
                refine lv_icmp_ne (tgt := 91) hx hb dX5_joinGate_84 (by decide) (fun c_84 => ?_) (fun c_84 => ?_)
                · skip
                  rw [zc_eq (by omega) (by omega)] at c_84
                  refine lv_iconst (v := (-1)) hx hb dX5_joinGate_91 (by decide) ?_
                  refine lv_istore (lv' := [(4, .int (-1)), (0, .ref qm), (1, .int (nI j)), (2, .int (nI pn)), (3, .int (nI v))]) hx hb dX5_joinGate_92 hl (by decide) rfl (fun ls hl => ?_)
                  refine lv_goto (tgt := 140) hx hb dX5_joinGate_94 (by decide) ?_
                  have hto : gPt (kd j) v = none := by rw [k_1]; show (if v = 1 then some 1 else none) = none; first | exact if_pos (by omega) | exact if_neg (by omega)
                  refine lv_iload hx hb dX5_joinGate_140 (lv_at hl 0 rfl) ?_
                  refine lv_iconst (v := (-1)) hx hb dX5_joinGate_142 (by decide) ?_
                  refine lv_icmp_eq (tgt := 163) hx hb dX5_joinGate_143 (by decide) (fun c_143 => ?_) (fun c_143 => ?_)
                  · skip
                    refine lv_iinc (v := (nI (v + 1))) (lv' := [(3, .int (nI (v + 1))), (4, .int (-1)), (0, .ref qm), (1, .int (nI j)), (2, .int (nI pn))]) hx hb dX5_joinGate_163 hl (k := 4) rfl (nI_add _ 1) (by decide) rfl (fun ls hl => ?_)
                    refine lv_goto (tgt := 13) hx hb dX5_joinGate_166 (by decide) ?_
                    exact ih13 (v + 1) v2 (by omega) (by rw [gVs_s, mrgs_app, (gPv_none hto)]; exact hL2) (by rw [gVs_s, mrgs_app, (gPv_none hto)]; exact hB2) (by omega) _ _ hP hD hS ls (lv_sub hl [2, 3, 4, 0] rfl)
                  · skip
                    exact absurd (by decide) c_143
                · skip
                  rw [zc_eq (by omega) (by omega)] at c_84
                  refine lv_iconst (v := (nI 1)) hx hb dX5_joinGate_87 (by decide) ?_
                  refine lv_goto (tgt := 92) hx hb dX5_joinGate_88 (by decide) ?_
                  refine lv_istore (lv' := [(4, .int (nI 1)), (0, .ref qm), (1, .int (nI j)), (2, .int (nI pn)), (3, .int (nI v))]) hx hb dX5_joinGate_92 hl (by decide) rfl (fun ls hl => ?_)
                  refine lv_goto (tgt := 140) hx hb dX5_joinGate_94 (by decide) ?_
                  have hto : gPt (kd j) v = some (1) := by rw [k_1]; show (if v = 1 then some 1 else none) = some (1); first | exact if_pos (by omega) | exact if_neg (by omega)
                  refine lv_iload hx hb dX5_joinGate_140 (lv_at hl 0 rfl) ?_
                  refine lv_iconst (v := (-1)) hx hb dX5_joinGate_142 (by decide) ?_
                  refine lv_icmp_eq (tgt := 163) hx hb dX5_joinGate_143 (by decide) (fun c_143 => ?_) (fun c_143 => ?_)
                  · skip
                    exact absurd c_143 (by decide)
                  · skip
                    refine lv_aload_n hx hb dX5_joinGate_146 rfl (lv_at hl 1 rfl) ?_
                    refine lv_iload_n hx hb dX5_joinGate_147 rfl (lv_at hl 2 rfl) ?_
                    refine lv_iload_n hx hb dX5_joinGate_148 rfl (lv_at hl 3 rfl) ?_
                    refine lv_iload_n hx hb dX5_joinGate_149 rfl (lv_at hl 4 rfl) ?_
                    refine vp_callSi (va_runS (As := [.int (nI j), .int (nI pn), .int (nI v)]) (rest := [.ref qm]) ⟨hx, hb, hml, hown, hts⟩ (c_X5_faultOf l j (nI pn) (pn + 1) v (nI_add _ _)) (va_cwS 3 hts gX5_joinGate_X5_faultOf rfl rfl rfl (by decide +kernel) ⟨Nat.le_of_ble_eq_true rfl, Nat.le_of_ble_eq_true rfl⟩) ⟨zt_blind, fun U hU hW => ⟨rfl, trivial⟩⟩ rfl rfl hl.1 rfl (lv_room (Nat.le_of_ble_eq_true rfl)) dX5_joinGate_150 ⟨Nat.le_of_ble_eq_true rfl, Nat.le_of_ble_eq_true rfl⟩).run (fun r_6 hrr_6 => ?_)
                    subst hrr_6
                    refine lv_iload_n hx hb dX5_joinGate_153 rfl (lv_at hl 2 rfl) ?_
                    refine lv_iconst (v := (-1)) hx hb dX5_joinGate_154 (by decide) ?_
                    refine lv_iload hx hb dX5_joinGate_155 (lv_at hl 0 rfl) ?_
                    refine vp_callSi (va_runS (As := [.int (nI j), .int (-1), .int (nI 1)]) (rest := [.int (nI (j * 6 + (pn + 1) * 2 + v)), .ref qm]) ⟨hx, hb, hml, hown, hts⟩ (c_X5_faultOf l j (-1) 0 1 (by decide)) (va_cwS 3 hts gX5_joinGate_X5_faultOf rfl rfl rfl (by decide +kernel) ⟨Nat.le_of_ble_eq_true rfl, Nat.le_of_ble_eq_true rfl⟩) ⟨zt_blind, fun U hU hW => ⟨rfl, trivial⟩⟩ rfl rfl hl.1 rfl (lv_room (Nat.le_of_ble_eq_true rfl)) dX5_joinGate_157 ⟨Nat.le_of_ble_eq_true rfl, Nat.le_of_ble_eq_true rfl⟩).run (fun r_7 hrr_7 => ?_)
                    subst hrr_7
                    have hPc := hP.sub (ws' := [(qm, .inr (5, [.int cd, .int (nI n), .int (nI ni), .int (nI no), .ref mk, .ref m0, .ref m1, .ref mi, .ref mo, .ref ml, .ref mf, .ref ma, .int (nI cl), .ref mfd, .ref mts, .int (nI tc), .ref mg, .ref mb])), (ml, .inl (cI, 600, .inl v2))]) [0, 2] rfl
                    have hDc := hD.sub (ws' := [(qm, .inr (5, [.int cd, .int (nI n), .int (nI ni), .int (nI no), .ref mk, .ref m0, .ref m1, .ref mi, .ref mo, .ref ml, .ref mf, .ref ma, .int (nI cl), .ref mfd, .ref mts, .int (nI tc), .ref mg, .ref mb])), (ml, .inl (cI, 600, .inl v2))]) [0, 2] (by decide) rfl
                    have hFc := va_free (wc := [(qm, .inr (5, [.int cd, .int (nI n), .int (nI ni), .int (nI no), .ref mk, .ref m0, .ref m1, .ref mi, .ref mo, .ref ml, .ref mf, .ref ma, .int (nI cl), .ref mfd, .ref mts, .int (nI tc), .ref mg, .ref mb])), (ml, .inl (cI, 600, .inl v2))]) hD hS hA [0, 2] rfl
                    refine va_callv (va_runV (As := [.int (nI (j * 6 + (pn + 1) * 2 + v)), .int (nI (j * 6 + 0 * 2 + 1))]) (rest := []) ⟨hx, hb, hml, hown, hts⟩ (c_X5_put l D cI cJ cZ qm mk m0 m1 mi mo ml mf ma mfd mts mg mb cd n ni no cl tc v2 (mrgs (gVs (kd j) j pn v) (mrgs (gNs (kd j) j pn) r)) (j * 6 + (pn + 1) * 2 + v) (j * 6 + 0 * 2 + 1) H.size _ rfl hL2 hB2 (by omega) (by omega)) (cwV 2 hts gX5_joinGate_X5_put rfl rfl rfl (by decide +kernel) ⟨Nat.le_of_ble_eq_true rfl, Nat.le_of_ble_eq_true rfl⟩) ⟨PW.blind, va_recv hK hPc (ci := 5) (q0 := 0) rfl rfl, fun U hU hW => ⟨rfl, PW.to hPc hK hNB hDc hU hW⟩⟩ rfl rfl hl.1 rfl (lv_room (Nat.le_of_ble_eq_true rfl)) dX5_joinGate_160 ⟨Nat.le_of_ble_eq_true rfl, Nat.le_of_ble_eq_true rfl⟩) hS (fun q _ h => hFc q h) hFc (fun u_9 t_9 H1_9 locs ht_9 hvm_9 hw_9 hB_9 hz1_9 hk1_9 hS => ?_)
                    obtain ⟨le2_9, rfl⟩ : ∃ z, z = u_9 := ⟨_, rfl⟩
                    obtain ⟨hP1_9, hD1_9⟩ := hB_9
                    rw [ht_9] at hP1_9
                    obtain ⟨k_L, k_B⟩ := hw_9
                    have k_L : LeOf le2_9 (mrg (mrgs (gVs (kd j) j pn v) (mrgs (gNs (kd j) j pn) r)) (j * 6 + (pn + 1) * 2 + v) (j * 6 + 0 * 2 + 1)) := k_L
                    have k_B : mrgB (mrg (mrgs (gVs (kd j) j pn v) (mrgs (gNs (kd j) j pn) r)) (j * 6 + (pn + 1) * 2 + v) (j * 6 + 0 * 2 + 1)) := k_B
                    obtain ⟨hP, hD⟩ := va_join (wr := [(mk, .inl (cI, 100, .inl kd))]) (w1 := [(qm, .inr (5, [.int cd, .int (nI n), .int (nI ni), .int (nI no), .ref mk, .ref m0, .ref m1, .ref mi, .ref mo, .ref ml, .ref mf, .ref ma, .int (nI cl), .ref mfd, .ref mts, .int (nI tc), .ref mg, .ref mb])), (ml, .inl (cI, 600, .inl le2_9))]) hP hD [0, 2] [1] rfl rfl (by decide) (by decide) hk1_9 hFc hP1_9 hD1_9
                    have hP := hP.sub (ws' := [(qm, .inr (5, [.int cd, .int (nI n), .int (nI ni), .int (nI no), .ref mk, .ref m0, .ref m1, .ref mi, .ref mo, .ref ml, .ref mf, .ref ma, .int (nI cl), .ref mfd, .ref mts, .int (nI tc), .ref mg, .ref mb])), (mk, .inl (cI, 100, .inl kd)), (ml, .inl (cI, 600, .inl le2_9))]) [1, 0, 2] rfl
                    have hD := hD.sub (ws' := [(qm, .inr (5, [.int cd, .int (nI n), .int (nI ni), .int (nI no), .ref mk, .ref m0, .ref m1, .ref mi, .ref mo, .ref ml, .ref mf, .ref ma, .int (nI cl), .ref mfd, .ref mts, .int (nI tc), .ref mg, .ref mb])), (mk, .inl (cI, 100, .inl kd)), (ml, .inl (cI, 600, .inl le2_9))]) [1, 0, 2] (by decide) rfl
                    generalize H1_9 = H at hP hS ⊢
                    have hP : va_P D vwCl [(qm, .inr (5, [.int cd, .int (nI n), .int (nI ni), .int (nI no), .ref mk, .ref m0, .ref m1, .ref mi, .ref mo, .ref ml, .ref mf, .ref ma, .int (nI cl), .ref mfd, .ref mts, .int (nI tc), .ref mg, .ref mb])), (mk, .inl (cI, 100, .inl kd)), (ml, .inl (cI, 600, .inl le2_9))] H := hP
                    have hD : va_D A [(qm, .inr (5, [.int cd, .int (nI n), .int (nI ni), .int (nI no), .ref mk, .ref m0, .ref m1, .ref mi, .ref mo, .ref ml, .ref mf, .ref ma, .int (nI cl), .ref mfd, .ref mts, .int (nI tc), .ref mg, .ref mb])), (mk, .inl (cI, 100, .inl kd)), (ml, .inl (cI, 600, .inl le2_9))] := hD
                    refine lv_iinc (v := (nI (v + 1))) (lv' := [(3, .int (nI (v + 1))), (4, .int (nI 1)), (0, .ref qm), (1, .int (nI j)), (2, .int (nI pn))]) hx hb dX5_joinGate_163 hl (k := 4) rfl (nI_add _ 1) (by decide) rfl (fun ls hl => ?_)
                    refine lv_goto (tgt := 13) hx hb dX5_joinGate_166 (by decide) ?_
                    exact ih13 (v + 1) le2_9 (by omega) (by rw [gVs_s, mrgs_app, (gPv_some (w := 1) hto)]; exact k_L) (by rw [gVs_s, mrgs_app, (gPv_some (w := 1) hto)]; exact k_B) (by omega) _ _ hP hD hS ls (lv_sub hl [2, 3, 4, 0] rfl)
              by_cases k_2 : (kd j) = nI 2
              · skip
                refine zz_i (z := nI 2) k_2 ?_
                refine lv_tableIn (off := 113) (tgt := 140) hx hb dX5_joinGate_27 (by decide) (by decide) rfl (by decide) ?_
                have hto : gPt (kd j) v = none := by rw [k_2]; rfl
                refine lv_iload hx hb dX5_joinGate_140 (lv_at hl 0 rfl) ?_
                refine lv_iconst (v := (-1)) hx hb dX5_joinGate_142 (by decide) ?_
                refine lv_icmp_eq (tgt := 163) hx hb dX5_joinGate_143 (by decide) (fun c_143 => ?_) (fun c_143 => ?_)
                · skip
                  refine lv_iinc (v := (nI (v + 1))) (lv' := [(3, .int (nI (v + 1))), (4, .int (-1)), (0, .ref qm), (1, .int (nI j)), (2, .int (nI pn))]) hx hb dX5_joinGate_163 hl (k := 4) rfl (nI_add _ 1) (by decide) rfl (fun ls hl => ?_)
                  refine lv_goto (tgt := 13) hx hb dX5_joinGate_166 (by decide) ?_
                  exact ih13 (v + 1) v2 (by omega) (by rw [gVs_s, mrgs_app, (gPv_none hto)]; exact hL2) (by rw [gVs_s, mrgs_app, (gPv_none hto)]; exact hB2) (by omega) _ _ hP hD hS ls (lv_sub hl [2, 3, 4, 0] rfl)
                · skip
                  exact absurd (by decide) c_143
              by_cases k_3 : (kd j) = nI 3
              · skip
                refine zz_i (z := nI 3) k_3 ?_
                refine lv_tableIn (off := 70) (tgt := 97) hx hb dX5_joinGate_27 (by decide) (by decide) rfl (by decide) ?_
                refine lv_iload_n hx hb dX5_joinGate_97 rfl (lv_at hl 4 rfl) ?_
                refine lv_if_ne (tgt := 105) hx hb dX5_joinGate_98 (by decide) (fun c_98 => ?_) (fun c_98 => ?_)
                · skip
                  rw [zc_eq0 (by omega)] at c_98
                  refine lv_iconst (v := (-1)) hx hb dX5_joinGate_105 (by decide) ?_
                  refine lv_istore (lv' := [(4, .int (-1)), (0, .ref qm), (1, .int (nI j)), (2, .int (nI pn)), (3, .int (nI v))]) hx hb dX5_joinGate_106 hl (by decide) rfl (fun ls hl => ?_)
                  refine lv_goto (tgt := 140) hx hb dX5_joinGate_108 (by decide) ?_
                  have hto : gPt (kd j) v = none := by rw [k_3]; show (if v = 0 then some 1 else none) = none; first | exact if_pos (by omega) | exact if_neg (by omega)
                  refine lv_iload hx hb dX5_joinGate_140 (lv_at hl 0 rfl) ?_
                  refine lv_iconst (v := (-1)) hx hb dX5_joinGate_142 (by decide) ?_
                  refine lv_icmp_eq (tgt := 163) hx hb dX5_joinGate_143 (by decide) (fun c_143 => ?_) (fun c_143 => ?_)
                  · skip
                    refine lv_iinc (v := (nI (v + 1))) (lv' := [(3, .int (nI (v + 1))), (4, .int (-1)), (0, .ref qm), (1, .int (nI j)), (2, .int (nI pn))]) hx hb dX5_joinGate_163 hl (k := 4) rfl (nI_add _ 1) (by decide) rfl (fun ls hl => ?_)
                    refine lv_goto (tgt := 13) hx hb dX5_joinGate_166 (by decide) ?_
                    exact ih13 (v + 1) v2 (by omega) (by rw [gVs_s, mrgs_app, (gPv_none hto)]; exact hL2) (by rw [gVs_s, mrgs_app, (gPv_none hto)]; exact hB2) (by omega) _ _ hP hD hS ls (lv_sub hl [2, 3, 4, 0] rfl)
                  · skip
                    exact absurd (by decide) c_143
                · skip
                  rw [zc_eq0 (by omega)] at c_98
                  refine lv_iconst (v := (nI 1)) hx hb dX5_joinGate_101 (by decide) ?_
                  refine lv_goto (tgt := 106) hx hb dX5_joinGate_102 (by decide) ?_
                  refine lv_istore (lv' := [(4, .int (nI 1)), (0, .ref qm), (1, .int (nI j)), (2, .int (nI pn)), (3, .int (nI v))]) hx hb dX5_joinGate_106 hl (by decide) rfl (fun ls hl => ?_)
                  refine lv_goto (tgt := 140) hx hb dX5_joinGate_108 (by decide) ?_
                  have hto : gPt (kd j) v = some (1) := by rw [k_3]; show (if v = 0 then some 1 else none) = some (1); first | exact if_pos (by omega) | exact if_neg (by omega)
                  refine lv_iload hx hb dX5_joinGate_140 (lv_at hl 0 rfl) ?_
                  refine lv_iconst (v := (-1)) hx hb dX5_joinGate_142 (by decide) ?_
                  refine lv_icmp_eq (tgt := 163) hx hb dX5_joinGate_143 (by decide) (fun c_143 => ?_) (fun c_143 => ?_)
                  · skip
                    exact absurd c_143 (by decide)
                  · skip
                    refine lv_aload_n hx hb dX5_joinGate_146 rfl (lv_at hl 1 rfl) ?_
                    refine lv_iload_n hx hb dX5_joinGate_147 rfl (lv_at hl 2 rfl) ?_
                    refine lv_iload_n hx hb dX5_joinGate_148 rfl (lv_at hl 3 rfl) ?_
                    refine lv_iload_n hx hb dX5_joinGate_149 rfl (lv_at hl 4 rfl) ?_
                    refine vp_callSi (va_runS (As := [.int (nI j), .int (nI pn), .int (nI v)]) (rest := [.ref qm]) ⟨hx, hb, hml, hown, hts⟩ (c_X5_faultOf l j (nI pn) (pn + 1) v (nI_add _ _)) (va_cwS 3 hts gX5_joinGate_X5_faultOf rfl rfl rfl (by decide +kernel) ⟨Nat.le_of_ble_eq_true rfl, Nat.le_of_ble_eq_true rfl⟩) ⟨zt_blind, fun U hU hW => ⟨rfl, trivial⟩⟩ rfl rfl hl.1 rfl (lv_room (Nat.le_of_ble_eq_true rfl)) dX5_joinGate_150 ⟨Nat.le_of_ble_eq_true rfl, Nat.le_of_ble_eq_true rfl⟩).run (fun r_10 hrr_10 => ?_)
                    subst hrr_10
                    refine lv_iload_n hx hb dX5_joinGate_153 rfl (lv_at hl 2 rfl) ?_
                    refine lv_iconst (v := (-1)) hx hb dX5_joinGate_154 (by decide) ?_
                    refine lv_iload hx hb dX5_joinGate_155 (lv_at hl 0 rfl) ?_
                    refine vp_callSi (va_runS (As := [.int (nI j), .int (-1), .int (nI 1)]) (rest := [.int (nI (j * 6 + (pn + 1) * 2 + v)), .ref qm]) ⟨hx, hb, hml, hown, hts⟩ (c_X5_faultOf l j (-1) 0 1 (by decide)) (va_cwS 3 hts gX5_joinGate_X5_faultOf rfl rfl rfl (by decide +kernel) ⟨Nat.le_of_ble_eq_true rfl, Nat.le_of_ble_eq_true rfl⟩) ⟨zt_blind, fun U hU hW => ⟨rfl, trivial⟩⟩ rfl rfl hl.1 rfl (lv_room (Nat.le_of_ble_eq_true rfl)) dX5_joinGate_157 ⟨Nat.le_of_ble_eq_true rfl, Nat.le_of_ble_eq_true rfl⟩).run (fun r_11 hrr_11 => ?_)
                    subst hrr_11
                    have hPc := hP.sub (ws' := [(qm, .inr (5, [.int cd, .int (nI n), .int (nI ni), .int (nI no), .ref mk, .ref m0, .ref m1, .ref mi, .ref mo, .ref ml, .ref mf, .ref ma, .int (nI cl), .ref mfd, .ref mts, .int (nI tc), .ref mg, .ref mb])), (ml, .inl (cI, 600, .inl v2))]) [0, 2] rfl
                    have hDc := hD.sub (ws' := [(qm, .inr (5, [.int cd, .int (nI n), .int (nI ni), .int (nI no), .ref mk, .ref m0, .ref m1, .ref mi, .ref mo, .ref ml, .ref mf, .ref ma, .int (nI cl), .ref mfd, .ref mts, .int (nI tc), .ref mg, .ref mb])), (ml, .inl (cI, 600, .inl v2))]) [0, 2] (by decide) rfl
                    have hFc := va_free (wc := [(qm, .inr (5, [.int cd, .int (nI n), .int (nI ni), .int (nI no), .ref mk, .ref m0, .ref m1, .ref mi, .ref mo, .ref ml, .ref mf, .ref ma, .int (nI cl), .ref mfd, .ref mts, .int (nI tc), .ref mg, .ref mb])), (ml, .inl (cI, 600, .inl v2))]) hD hS hA [0, 2] rfl
                    refine va_callv (va_runV (As := [.int (nI (j * 6 + (pn + 1) * 2 + v)), .int (nI (j * 6 + 0 * 2 + 1))]) (rest := []) ⟨hx, hb, hml, hown, hts⟩ (c_X5_put l D cI cJ cZ qm mk m0 m1 mi mo ml mf ma mfd mts mg mb cd n ni no cl tc v2 (mrgs (gVs (kd j) j pn v) (mrgs (gNs (kd j) j pn) r)) (j * 6 + (pn + 1) * 2 + v) (j * 6 + 0 * 2 + 1) H.size _ rfl hL2 hB2 (by omega) (by omega)) (cwV 2 hts gX5_joinGate_X5_put rfl rfl rfl (by decide +kernel) ⟨Nat.le_of_ble_eq_true rfl, Nat.le_of_ble_eq_true rfl⟩) ⟨PW.blind, va_recv hK hPc (ci := 5) (q0 := 0) rfl rfl, fun U hU hW => ⟨rfl, PW.to hPc hK hNB hDc hU hW⟩⟩ rfl rfl hl.1 rfl (lv_room (Nat.le_of_ble_eq_true rfl)) dX5_joinGate_160 ⟨Nat.le_of_ble_eq_true rfl, Nat.le_of_ble_eq_true rfl⟩) hS (fun q _ h => hFc q h) hFc (fun u_9 t_9 H1_9 locs ht_9 hvm_9 hw_9 hB_9 hz1_9 hk1_9 hS => ?_)
                    obtain ⟨le2_13, rfl⟩ : ∃ z, z = u_9 := ⟨_, rfl⟩
                    obtain ⟨hP1_9, hD1_9⟩ := hB_9
                    rw [ht_9] at hP1_9
                    obtain ⟨k_L, k_B⟩ := hw_9
                    have k_L : LeOf le2_13 (mrg (mrgs (gVs (kd j) j pn v) (mrgs (gNs (kd j) j pn) r)) (j * 6 + (pn + 1) * 2 + v) (j * 6 + 0 * 2 + 1)) := k_L
                    have k_B : mrgB (mrg (mrgs (gVs (kd j) j pn v) (mrgs (gNs (kd j) j pn) r)) (j * 6 + (pn + 1) * 2 + v) (j * 6 + 0 * 2 + 1)) := k_B
                    obtain ⟨hP, hD⟩ := va_join (wr := [(mk, .inl (cI, 100, .inl kd))]) (w1 := [(qm, .inr (5, [.int cd, .int (nI n), .int (nI ni), .int (nI no), .ref mk, .ref m0, .ref m1, .ref mi, .ref mo, .ref ml, .ref mf, .ref ma, .int (nI cl), .ref mfd, .ref mts, .int (nI tc), .ref mg, .ref mb])), (ml, .inl (cI, 600, .inl le2_13))]) hP hD [0, 2] [1] rfl rfl (by decide) (by decide) hk1_9 hFc hP1_9 hD1_9
                    have hP := hP.sub (ws' := [(qm, .inr (5, [.int cd, .int (nI n), .int (nI ni), .int (nI no), .ref mk, .ref m0, .ref m1, .ref mi, .ref mo, .ref ml, .ref mf, .ref ma, .int (nI cl), .ref mfd, .ref mts, .int (nI tc), .ref mg, .ref mb])), (mk, .inl (cI, 100, .inl kd)), (ml, .inl (cI, 600, .inl le2_13))]) [1, 0, 2] rfl
                    have hD := hD.sub (ws' := [(qm, .inr (5, [.int cd, .int (nI n), .int (nI ni), .int (nI no), .ref mk, .ref m0, .ref m1, .ref mi, .ref mo, .ref ml, .ref mf, .ref ma, .int (nI cl), .ref mfd, .ref mts, .int (nI tc), .ref mg, .ref mb])), (mk, .inl (cI, 100, .inl kd)), (ml, .inl (cI, 600, .inl le2_13))]) [1, 0, 2] (by decide) rfl
                    generalize H1_9 = H at hP hS ⊢
                    have hP : va_P D vwCl [(qm, .inr (5, [.int cd, .int (nI n), .int (nI ni), .int (nI no), .ref mk, .ref m0, .ref m1, .ref mi, .ref mo, .ref ml, .ref mf, .ref ma, .int (nI cl), .ref mfd, .ref mts, .int (nI tc), .ref mg, .ref mb])), (mk, .inl (cI, 100, .inl kd)), (ml, .inl (cI, 600, .inl le2_13))] H := hP
                    have hD : va_D A [(qm, .inr (5, [.int cd, .int (nI n), .int (nI ni), .int (nI no), .ref mk, .ref m0, .ref m1, .ref mi, .ref mo, .ref ml, .ref mf, .ref ma, .int (nI cl), .ref mfd, .ref mts, .int (nI tc), .ref mg, .ref mb])), (mk, .inl (cI, 100, .inl kd)), (ml, .inl (cI, 600, .inl le2_13))] := hD
                    refine lv_iinc (v := (nI (v + 1))) (lv' := [(3, .int (nI (v + 1))), (4, .int (nI 1)), (0, .ref qm), (1, .int (nI j)), (2, .int (nI pn))]) hx hb dX5_joinGate_163 hl (k := 4) rfl (nI_add _ 1) (by decide) rfl (fun ls hl => ?_)
                    refine lv_goto (tgt := 13) hx hb dX5_joinGate_166 (by decide) ?_
                    exact ih13 (v + 1) le2_13 (by omega) (by rw [gVs_s, mrgs_app, (gPv_some (w := 1) hto)]; exact k_L) (by rw [gVs_s, mrgs_app, (gPv_some (w := 1) hto)]; exact k_B) (by omega) _ _ hP hD hS ls (lv_sub hl [2, 3, 4, 0] rfl)
              by_cases k_4 : (kd j) = nI 4
              · skip
                refine zz_i (z := nI 4) k_4 ?_
                refine lv_tableIn (off := 84) (tgt := 111) hx hb dX5_joinGate_27 (by decide) (by decide) rfl (by decide) ?_
                refine lv_iload_n hx hb dX5_joinGate_111 rfl (lv_at hl 4 rfl) ?_
                refine lv_iconst (v := (nI 1)) hx hb dX5_joinGate_112 (by decide) ?_
                refine lv_icmp_ne (tgt := 120) hx hb dX5_joinGate_113 (by decide) (fun c_113 => ?_) (fun c_113 => ?_)
                · skip
                  rw [zc_eq (by omega) (by omega)] at c_113
                  refine lv_iconst (v := (-1)) hx hb dX5_joinGate_120 (by decide) ?_
                  refine lv_istore (lv' := [(4, .int (-1)), (0, .ref qm), (1, .int (nI j)), (2, .int (nI pn)), (3, .int (nI v))]) hx hb dX5_joinGate_121 hl (by decide) rfl (fun ls hl => ?_)
                  refine lv_goto (tgt := 140) hx hb dX5_joinGate_123 (by decide) ?_
                  have hto : gPt (kd j) v = none := by rw [k_4]; show (if v = 1 then some 0 else none) = none; first | exact if_pos (by omega) | exact if_neg (by omega)
                  refine lv_iload hx hb dX5_joinGate_140 (lv_at hl 0 rfl) ?_
                  refine lv_iconst (v := (-1)) hx hb dX5_joinGate_142 (by decide) ?_
                  refine lv_icmp_eq (tgt := 163) hx hb dX5_joinGate_143 (by decide) (fun c_143 => ?_) (fun c_143 => ?_)
                  · skip
                    refine lv_iinc (v := (nI (v + 1))) (lv' := [(3, .int (nI (v + 1))), (4, .int (-1)), (0, .ref qm), (1, .int (nI j)), (2, .int (nI pn))]) hx hb dX5_joinGate_163 hl (k := 4) rfl (nI_add _ 1) (by decide) rfl (fun ls hl => ?_)
                    refine lv_goto (tgt := 13) hx hb dX5_joinGate_166 (by decide) ?_
                    exact ih13 (v + 1) v2 (by omega) (by rw [gVs_s, mrgs_app, (gPv_none hto)]; exact hL2) (by rw [gVs_s, mrgs_app, (gPv_none hto)]; exact hB2) (by omega) _ _ hP hD hS ls (lv_sub hl [2, 3, 4, 0] rfl)
                  · skip
                    exact absurd (by decide) c_143
                · skip
                  rw [zc_eq (by omega) (by omega)] at c_113
                  refine lv_iconst (v := (nI 0)) hx hb dX5_joinGate_116 (by decide) ?_
                  refine lv_goto (tgt := 121) hx hb dX5_joinGate_117 (by decide) ?_
                  refine lv_istore (lv' := [(4, .int (nI 0)), (0, .ref qm), (1, .int (nI j)), (2, .int (nI pn)), (3, .int (nI v))]) hx hb dX5_joinGate_121 hl (by decide) rfl (fun ls hl => ?_)
                  refine lv_goto (tgt := 140) hx hb dX5_joinGate_123 (by decide) ?_
                  have hto : gPt (kd j) v = some (0) := by rw [k_4]; show (if v = 1 then some 0 else none) = some (0); first | exact if_pos (by omega) | exact if_neg (by omega)
                  refine lv_iload hx hb dX5_joinGate_140 (lv_at hl 0 rfl) ?_
                  refine lv_iconst (v := (-1)) hx hb dX5_joinGate_142 (by decide) ?_
                  refine lv_icmp_eq (tgt := 163) hx hb dX5_joinGate_143 (by decide) (fun c_143 => ?_) (fun c_143 => ?_)
                  · skip
                    exact absurd c_143 (by decide)
                  · skip
                    refine lv_aload_n hx hb dX5_joinGate_146 rfl (lv_at hl 1 rfl) ?_
                    refine lv_iload_n hx hb dX5_joinGate_147 rfl (lv_at hl 2 rfl) ?_
                    refine lv_iload_n hx hb dX5_joinGate_148 rfl (lv_at hl 3 rfl) ?_
                    refine lv_iload_n hx hb dX5_joinGate_149 rfl (lv_at hl 4 rfl) ?_
                    refine vp_callSi (va_runS (As := [.int (nI j), .int (nI pn), .int (nI v)]) (rest := [.ref qm]) ⟨hx, hb, hml, hown, hts⟩ (c_X5_faultOf l j (nI pn) (pn + 1) v (nI_add _ _)) (va_cwS 3 hts gX5_joinGate_X5_faultOf rfl rfl rfl (by decide +kernel) ⟨Nat.le_of_ble_eq_true rfl, Nat.le_of_ble_eq_true rfl⟩) ⟨zt_blind, fun U hU hW => ⟨rfl, trivial⟩⟩ rfl rfl hl.1 rfl (lv_room (Nat.le_of_ble_eq_true rfl)) dX5_joinGate_150 ⟨Nat.le_of_ble_eq_true rfl, Nat.le_of_ble_eq_true rfl⟩).run (fun r_14 hrr_14 => ?_)
                    subst hrr_14
                    refine lv_iload_n hx hb dX5_joinGate_153 rfl (lv_at hl 2 rfl) ?_
                    refine lv_iconst (v := (-1)) hx hb dX5_joinGate_154 (by decide) ?_
                    refine lv_iload hx hb dX5_joinGate_155 (lv_at hl 0 rfl) ?_
                    refine vp_callSi (va_runS (As := [.int (nI j), .int (-1), .int (nI 0)]) (rest := [.int (nI (j * 6 + (pn + 1) * 2 + v)), .ref qm]) ⟨hx, hb, hml, hown, hts⟩ (c_X5_faultOf l j (-1) 0 0 (by decide)) (va_cwS 3 hts gX5_joinGate_X5_faultOf rfl rfl rfl (by decide +kernel) ⟨Nat.le_of_ble_eq_true rfl, Nat.le_of_ble_eq_true rfl⟩) ⟨zt_blind, fun U hU hW => ⟨rfl, trivial⟩⟩ rfl rfl hl.1 rfl (lv_room (Nat.le_of_ble_eq_true rfl)) dX5_joinGate_157 ⟨Nat.le_of_ble_eq_true rfl, Nat.le_of_ble_eq_true rfl⟩).run (fun r_15 hrr_15 => ?_)
                    subst hrr_15
                    have hPc := hP.sub (ws' := [(qm, .inr (5, [.int cd, .int (nI n), .int (nI ni), .int (nI no), .ref mk, .ref m0, .ref m1, .ref mi, .ref mo, .ref ml, .ref mf, .ref ma, .int (nI cl), .ref mfd, .ref mts, .int (nI tc), .ref mg, .ref mb])), (ml, .inl (cI, 600, .inl v2))]) [0, 2] rfl
                    have hDc := hD.sub (ws' := [(qm, .inr (5, [.int cd, .int (nI n), .int (nI ni), .int (nI no), .ref mk, .ref m0, .ref m1, .ref mi, .ref mo, .ref ml, .ref mf, .ref ma, .int (nI cl), .ref mfd, .ref mts, .int (nI tc), .ref mg, .ref mb])), (ml, .inl (cI, 600, .inl v2))]) [0, 2] (by decide) rfl
                    have hFc := va_free (wc := [(qm, .inr (5, [.int cd, .int (nI n), .int (nI ni), .int (nI no), .ref mk, .ref m0, .ref m1, .ref mi, .ref mo, .ref ml, .ref mf, .ref ma, .int (nI cl), .ref mfd, .ref mts, .int (nI tc), .ref mg, .ref mb])), (ml, .inl (cI, 600, .inl v2))]) hD hS hA [0, 2] rfl
                    refine va_callv (va_runV (As := [.int (nI (j * 6 + (pn + 1) * 2 + v)), .int (nI (j * 6 + 0 * 2 + 0))]) (rest := []) ⟨hx, hb, hml, hown, hts⟩ (c_X5_put l D cI cJ cZ qm mk m0 m1 mi mo ml mf ma mfd mts mg mb cd n ni no cl tc v2 (mrgs (gVs (kd j) j pn v) (mrgs (gNs (kd j) j pn) r)) (j * 6 + (pn + 1) * 2 + v) (j * 6 + 0 * 2 + 0) H.size _ rfl hL2 hB2 (by omega) (by omega)) (cwV 2 hts gX5_joinGate_X5_put rfl rfl rfl (by decide +kernel) ⟨Nat.le_of_ble_eq_true rfl, Nat.le_of_ble_eq_true rfl⟩) ⟨PW.blind, va_recv hK hPc (ci := 5) (q0 := 0) rfl rfl, fun U hU hW => ⟨rfl, PW.to hPc hK hNB hDc hU hW⟩⟩ rfl rfl hl.1 rfl (lv_room (Nat.le_of_ble_eq_true rfl)) dX5_joinGate_160 ⟨Nat.le_of_ble_eq_true rfl, Nat.le_of_ble_eq_true rfl⟩) hS (fun q _ h => hFc q h) hFc (fun u_9 t_9 H1_9 locs ht_9 hvm_9 hw_9 hB_9 hz1_9 hk1_9 hS => ?_)
                    obtain ⟨le2_17, rfl⟩ : ∃ z, z = u_9 := ⟨_, rfl⟩
                    obtain ⟨hP1_9, hD1_9⟩ := hB_9
                    rw [ht_9] at hP1_9
                    obtain ⟨k_L, k_B⟩ := hw_9
                    have k_L : LeOf le2_17 (mrg (mrgs (gVs (kd j) j pn v) (mrgs (gNs (kd j) j pn) r)) (j * 6 + (pn + 1) * 2 + v) (j * 6 + 0 * 2 + 0)) := k_L
                    have k_B : mrgB (mrg (mrgs (gVs (kd j) j pn v) (mrgs (gNs (kd j) j pn) r)) (j * 6 + (pn + 1) * 2 + v) (j * 6 + 0 * 2 + 0)) := k_B
                    obtain ⟨hP, hD⟩ := va_join (wr := [(mk, .inl (cI, 100, .inl kd))]) (w1 := [(qm, .inr (5, [.int cd, .int (nI n), .int (nI ni), .int (nI no), .ref mk, .ref m0, .ref m1, .ref mi, .ref mo, .ref ml, .ref mf, .ref ma, .int (nI cl), .ref mfd, .ref mts, .int (nI tc), .ref mg, .ref mb])), (ml, .inl (cI, 600, .inl le2_17))]) hP hD [0, 2] [1] rfl rfl (by decide) (by decide) hk1_9 hFc hP1_9 hD1_9
                    have hP := hP.sub (ws' := [(qm, .inr (5, [.int cd, .int (nI n), .int (nI ni), .int (nI no), .ref mk, .ref m0, .ref m1, .ref mi, .ref mo, .ref ml, .ref mf, .ref ma, .int (nI cl), .ref mfd, .ref mts, .int (nI tc), .ref mg, .ref mb])), (mk, .inl (cI, 100, .inl kd)), (ml, .inl (cI, 600, .inl le2_17))]) [1, 0, 2] rfl
                    have hD := hD.sub (ws' := [(qm, .inr (5, [.int cd, .int (nI n), .int (nI ni), .int (nI no), .ref mk, .ref m0, .ref m1, .ref mi, .ref mo, .ref ml, .ref mf, .ref ma, .int (nI cl), .ref mfd, .ref mts, .int (nI tc), .ref mg, .ref mb])), (mk, .inl (cI, 100, .inl kd)), (ml, .inl (cI, 600, .inl le2_17))]) [1, 0, 2] (by decide) rfl
                    generalize H1_9 = H at hP hS ⊢
                    have hP : va_P D vwCl [(qm, .inr (5, [.int cd, .int (nI n), .int (nI ni), .int (nI no), .ref mk, .ref m0, .ref m1, .ref mi, .ref mo, .ref ml, .ref mf, .ref ma, .int (nI cl), .ref mfd, .ref mts, .int (nI tc), .ref mg, .ref mb])), (mk, .inl (cI, 100, .inl kd)), (ml, .inl (cI, 600, .inl le2_17))] H := hP
                    have hD : va_D A [(qm, .inr (5, [.int cd, .int (nI n), .int (nI ni), .int (nI no), .ref mk, .ref m0, .ref m1, .ref mi, .ref mo, .ref ml, .ref mf, .ref ma, .int (nI cl), .ref mfd, .ref mts, .int (nI tc), .ref mg, .ref mb])), (mk, .inl (cI, 100, .inl kd)), (ml, .inl (cI, 600, .inl le2_17))] := hD
                    refine lv_iinc (v := (nI (v + 1))) (lv' := [(3, .int (nI (v + 1))), (4, .int (nI 0)), (0, .ref qm), (1, .int (nI j)), (2, .int (nI pn))]) hx hb dX5_joinGate_163 hl (k := 4) rfl (nI_add _ 1) (by decide) rfl (fun ls hl => ?_)
                    refine lv_goto (tgt := 13) hx hb dX5_joinGate_166 (by decide) ?_
                    exact ih13 (v + 1) le2_17 (by omega) (by rw [gVs_s, mrgs_app, (gPv_some (w := 0) hto)]; exact k_L) (by rw [gVs_s, mrgs_app, (gPv_some (w := 0) hto)]; exact k_B) (by omega) _ _ hP hD hS ls (lv_sub hl [2, 3, 4, 0] rfl)
              by_cases k_5 : (kd j) = nI 5
              · skip
                refine zz_i (z := nI 5) k_5 ?_
                refine lv_tableIn (off := 99) (tgt := 126) hx hb dX5_joinGate_27 (by decide) (by decide) rfl (by decide) ?_
                refine lv_iconst (v := (nI 1)) hx hb dX5_joinGate_126 (by decide) ?_
                refine lv_iload_n hx hb dX5_joinGate_127 rfl (lv_at hl 4 rfl) ?_
                refine lv_isub hx hb dX5_joinGate_128 ?_
                refine zz_i (z := (nI (1 - v))) (pk_sub (by omega)) ?_
                refine lv_istore (lv' := [(4, .int (nI (1 - v))), (0, .ref qm), (1, .int (nI j)), (2, .int (nI pn)), (3, .int (nI v))]) hx hb dX5_joinGate_129 hl (by decide) rfl (fun ls hl => ?_)
                refine lv_goto (tgt := 140) hx hb dX5_joinGate_131 (by decide) ?_
                have hto : gPt (kd j) v = some (1 - v) := by rw [k_5]; rfl
                refine lv_iload hx hb dX5_joinGate_140 (lv_at hl 0 rfl) ?_
                refine lv_iconst (v := (-1)) hx hb dX5_joinGate_142 (by decide) ?_
                refine lv_icmp_eq (tgt := 163) hx hb dX5_joinGate_143 (by decide) (fun c_143 => ?_) (fun c_143 => ?_)
                · skip
                  exact absurd c_143 (zn_ne (by omega))
                · skip
                  refine lv_aload_n hx hb dX5_joinGate_146 rfl (lv_at hl 1 rfl) ?_
                  refine lv_iload_n hx hb dX5_joinGate_147 rfl (lv_at hl 2 rfl) ?_
                  refine lv_iload_n hx hb dX5_joinGate_148 rfl (lv_at hl 3 rfl) ?_
                  refine lv_iload_n hx hb dX5_joinGate_149 rfl (lv_at hl 4 rfl) ?_
                  refine vp_callSi (va_runS (As := [.int (nI j), .int (nI pn), .int (nI v)]) (rest := [.ref qm]) ⟨hx, hb, hml, hown, hts⟩ (c_X5_faultOf l j (nI pn) (pn + 1) v (nI_add _ _)) (va_cwS 3 hts gX5_joinGate_X5_faultOf rfl rfl rfl (by decide +kernel) ⟨Nat.le_of_ble_eq_true rfl, Nat.le_of_ble_eq_true rfl⟩) ⟨zt_blind, fun U hU hW => ⟨rfl, trivial⟩⟩ rfl rfl hl.1 rfl (lv_room (Nat.le_of_ble_eq_true rfl)) dX5_joinGate_150 ⟨Nat.le_of_ble_eq_true rfl, Nat.le_of_ble_eq_true rfl⟩).run (fun r_18 hrr_18 => ?_)
                  subst hrr_18
                  refine lv_iload_n hx hb dX5_joinGate_153 rfl (lv_at hl 2 rfl) ?_
                  refine lv_iconst (v := (-1)) hx hb dX5_joinGate_154 (by decide) ?_
                  refine lv_iload hx hb dX5_joinGate_155 (lv_at hl 0 rfl) ?_
                  refine vp_callSi (va_runS (As := [.int (nI j), .int (-1), .int (nI (1 - v))]) (rest := [.int (nI (j * 6 + (pn + 1) * 2 + v)), .ref qm]) ⟨hx, hb, hml, hown, hts⟩ (c_X5_faultOf l j (-1) 0 (1 - v) (by decide)) (va_cwS 3 hts gX5_joinGate_X5_faultOf rfl rfl rfl (by decide +kernel) ⟨Nat.le_of_ble_eq_true rfl, Nat.le_of_ble_eq_true rfl⟩) ⟨zt_blind, fun U hU hW => ⟨rfl, trivial⟩⟩ rfl rfl hl.1 rfl (lv_room (Nat.le_of_ble_eq_true rfl)) dX5_joinGate_157 ⟨Nat.le_of_ble_eq_true rfl, Nat.le_of_ble_eq_true rfl⟩).run (fun r_19 hrr_19 => ?_)
                  subst hrr_19
                  have hPc := hP.sub (ws' := [(qm, .inr (5, [.int cd, .int (nI n), .int (nI ni), .int (nI no), .ref mk, .ref m0, .ref m1, .ref mi, .ref mo, .ref ml, .ref mf, .ref ma, .int (nI cl), .ref mfd, .ref mts, .int (nI tc), .ref mg, .ref mb])), (ml, .inl (cI, 600, .inl v2))]) [0, 2] rfl
                  have hDc := hD.sub (ws' := [(qm, .inr (5, [.int cd, .int (nI n), .int (nI ni), .int (nI no), .ref mk, .ref m0, .ref m1, .ref mi, .ref mo, .ref ml, .ref mf, .ref ma, .int (nI cl), .ref mfd, .ref mts, .int (nI tc), .ref mg, .ref mb])), (ml, .inl (cI, 600, .inl v2))]) [0, 2] (by decide) rfl
                  have hFc := va_free (wc := [(qm, .inr (5, [.int cd, .int (nI n), .int (nI ni), .int (nI no), .ref mk, .ref m0, .ref m1, .ref mi, .ref mo, .ref ml, .ref mf, .ref ma, .int (nI cl), .ref mfd, .ref mts, .int (nI tc), .ref mg, .ref mb])), (ml, .inl (cI, 600, .inl v2))]) hD hS hA [0, 2] rfl
                  refine va_callv (va_runV (As := [.int (nI (j * 6 + (pn + 1) * 2 + v)), .int (nI (j * 6 + 0 * 2 + (1 - v)))]) (rest := []) ⟨hx, hb, hml, hown, hts⟩ (c_X5_put l D cI cJ cZ qm mk m0 m1 mi mo ml mf ma mfd mts mg mb cd n ni no cl tc v2 (mrgs (gVs (kd j) j pn v) (mrgs (gNs (kd j) j pn) r)) (j * 6 + (pn + 1) * 2 + v) (j * 6 + 0 * 2 + (1 - v)) H.size _ rfl hL2 hB2 (by omega) (by omega)) (cwV 2 hts gX5_joinGate_X5_put rfl rfl rfl (by decide +kernel) ⟨Nat.le_of_ble_eq_true rfl, Nat.le_of_ble_eq_true rfl⟩) ⟨PW.blind, va_recv hK hPc (ci := 5) (q0 := 0) rfl rfl, fun U hU hW => ⟨rfl, PW.to hPc hK hNB hDc hU hW⟩⟩ rfl rfl hl.1 rfl (lv_room (Nat.le_of_ble_eq_true rfl)) dX5_joinGate_160 ⟨Nat.le_of_ble_eq_true rfl, Nat.le_of_ble_eq_true rfl⟩) hS (fun q _ h => hFc q h) hFc (fun u_9 t_9 H1_9 locs ht_9 hvm_9 hw_9 hB_9 hz1_9 hk1_9 hS => ?_)
                  obtain ⟨le2_21, rfl⟩ : ∃ z, z = u_9 := ⟨_, rfl⟩
                  obtain ⟨hP1_9, hD1_9⟩ := hB_9
                  rw [ht_9] at hP1_9
                  obtain ⟨k_L, k_B⟩ := hw_9
                  have k_L : LeOf le2_21 (mrg (mrgs (gVs (kd j) j pn v) (mrgs (gNs (kd j) j pn) r)) (j * 6 + (pn + 1) * 2 + v) (j * 6 + 0 * 2 + (1 - v))) := k_L
                  have k_B : mrgB (mrg (mrgs (gVs (kd j) j pn v) (mrgs (gNs (kd j) j pn) r)) (j * 6 + (pn + 1) * 2 + v) (j * 6 + 0 * 2 + (1 - v))) := k_B
                  obtain ⟨hP, hD⟩ := va_join (wr := [(mk, .inl (cI, 100, .inl kd))]) (w1 := [(qm, .inr (5, [.int cd, .int (nI n), .int (nI ni), .int (nI no), .ref mk, .ref m0, .ref m1, .ref mi, .ref mo, .ref ml, .ref mf, .ref ma, .int (nI cl), .ref mfd, .ref mts, .int (nI tc), .ref mg, .ref mb])), (ml, .inl (cI, 600, .inl le2_21))]) hP hD [0, 2] [1] rfl rfl (by decide) (by decide) hk1_9 hFc hP1_9 hD1_9
                  have hP := hP.sub (ws' := [(qm, .inr (5, [.int cd, .int (nI n), .int (nI ni), .int (nI no), .ref mk, .ref m0, .ref m1, .ref mi, .ref mo, .ref ml, .ref mf, .ref ma, .int (nI cl), .ref mfd, .ref mts, .int (nI tc), .ref mg, .ref mb])), (mk, .inl (cI, 100, .inl kd)), (ml, .inl (cI, 600, .inl le2_21))]) [1, 0, 2] rfl
                  have hD := hD.sub (ws' := [(qm, .inr (5, [.int cd, .int (nI n), .int (nI ni), .int (nI no), .ref mk, .ref m0, .ref m1, .ref mi, .ref mo, .ref ml, .ref mf, .ref ma, .int (nI cl), .ref mfd, .ref mts, .int (nI tc), .ref mg, .ref mb])), (mk, .inl (cI, 100, .inl kd)), (ml, .inl (cI, 600, .inl le2_21))]) [1, 0, 2] (by decide) rfl
                  generalize H1_9 = H at hP hS ⊢
                  have hP : va_P D vwCl [(qm, .inr (5, [.int cd, .int (nI n), .int (nI ni), .int (nI no), .ref mk, .ref m0, .ref m1, .ref mi, .ref mo, .ref ml, .ref mf, .ref ma, .int (nI cl), .ref mfd, .ref mts, .int (nI tc), .ref mg, .ref mb])), (mk, .inl (cI, 100, .inl kd)), (ml, .inl (cI, 600, .inl le2_21))] H := hP
                  have hD : va_D A [(qm, .inr (5, [.int cd, .int (nI n), .int (nI ni), .int (nI no), .ref mk, .ref m0, .ref m1, .ref mi, .ref mo, .ref ml, .ref mf, .ref ma, .int (nI cl), .ref mfd, .ref mts, .int (nI tc), .ref mg, .ref mb])), (mk, .inl (cI, 100, .inl kd)), (ml, .inl (cI, 600, .inl le2_21))] := hD
                  refine lv_iinc (v := (nI (v + 1))) (lv' := [(3, .int (nI (v + 1))), (4, .int (nI (1 - v))), (0, .ref qm), (1, .int (nI j)), (2, .int (nI pn))]) hx hb dX5_joinGate_163 hl (k := 4) rfl (nI_add _ 1) (by decide) rfl (fun ls hl => ?_)
                  refine lv_goto (tgt := 13) hx hb dX5_joinGate_166 (by decide) ?_
                  exact ih13 (v + 1) le2_21 (by omega) (by rw [gVs_s, mrgs_app, (gPv_some (w := 1 - v) hto)]; exact k_L) (by rw [gVs_s, mrgs_app, (gPv_some (w := 1 - v) hto)]; exact k_B) (by omega) _ _ hP hD hS ls (lv_sub hl [2, 3, 4, 0] rfl)
              by_cases k_6 : (kd j) = nI 6
              · skip
                refine zz_i (z := nI 6) k_6 ?_
                refine lv_tableIn (off := 107) (tgt := 134) hx hb dX5_joinGate_27 (by decide) (by decide) rfl (by decide) ?_
                refine lv_iload_n hx hb dX5_joinGate_134 rfl (lv_at hl 4 rfl) ?_
                refine lv_istore (lv' := [(4, .int (nI v)), (0, .ref qm), (1, .int (nI j)), (2, .int (nI pn)), (3, .int (nI v))]) hx hb dX5_joinGate_135 hl (by decide) rfl (fun ls hl => ?_)
                refine lv_goto (tgt := 140) hx hb dX5_joinGate_137 (by decide) ?_
                have hto : gPt (kd j) v = some (v) := by rw [k_6]; rfl
                refine lv_iload hx hb dX5_joinGate_140 (lv_at hl 0 rfl) ?_
                refine lv_iconst (v := (-1)) hx hb dX5_joinGate_142 (by decide) ?_
                refine lv_icmp_eq (tgt := 163) hx hb dX5_joinGate_143 (by decide) (fun c_143 => ?_) (fun c_143 => ?_)
                · skip
                  exact absurd c_143 (zn_ne (by omega))
                · skip
                  refine lv_aload_n hx hb dX5_joinGate_146 rfl (lv_at hl 1 rfl) ?_
                  refine lv_iload_n hx hb dX5_joinGate_147 rfl (lv_at hl 2 rfl) ?_
                  refine lv_iload_n hx hb dX5_joinGate_148 rfl (lv_at hl 3 rfl) ?_
                  refine lv_iload_n hx hb dX5_joinGate_149 rfl (lv_at hl 4 rfl) ?_
                  refine vp_callSi (va_runS (As := [.int (nI j), .int (nI pn), .int (nI v)]) (rest := [.ref qm]) ⟨hx, hb, hml, hown, hts⟩ (c_X5_faultOf l j (nI pn) (pn + 1) v (nI_add _ _)) (va_cwS 3 hts gX5_joinGate_X5_faultOf rfl rfl rfl (by decide +kernel) ⟨Nat.le_of_ble_eq_true rfl, Nat.le_of_ble_eq_true rfl⟩) ⟨zt_blind, fun U hU hW => ⟨rfl, trivial⟩⟩ rfl rfl hl.1 rfl (lv_room (Nat.le_of_ble_eq_true rfl)) dX5_joinGate_150 ⟨Nat.le_of_ble_eq_true rfl, Nat.le_of_ble_eq_true rfl⟩).run (fun r_22 hrr_22 => ?_)
                  subst hrr_22
                  refine lv_iload_n hx hb dX5_joinGate_153 rfl (lv_at hl 2 rfl) ?_
                  refine lv_iconst (v := (-1)) hx hb dX5_joinGate_154 (by decide) ?_
                  refine lv_iload hx hb dX5_joinGate_155 (lv_at hl 0 rfl) ?_
                  refine vp_callSi (va_runS (As := [.int (nI j), .int (-1), .int (nI v)]) (rest := [.int (nI (j * 6 + (pn + 1) * 2 + v)), .ref qm]) ⟨hx, hb, hml, hown, hts⟩ (c_X5_faultOf l j (-1) 0 v (by decide)) (va_cwS 3 hts gX5_joinGate_X5_faultOf rfl rfl rfl (by decide +kernel) ⟨Nat.le_of_ble_eq_true rfl, Nat.le_of_ble_eq_true rfl⟩) ⟨zt_blind, fun U hU hW => ⟨rfl, trivial⟩⟩ rfl rfl hl.1 rfl (lv_room (Nat.le_of_ble_eq_true rfl)) dX5_joinGate_157 ⟨Nat.le_of_ble_eq_true rfl, Nat.le_of_ble_eq_true rfl⟩).run (fun r_23 hrr_23 => ?_)
                  subst hrr_23
                  have hPc := hP.sub (ws' := [(qm, .inr (5, [.int cd, .int (nI n), .int (nI ni), .int (nI no), .ref mk, .ref m0, .ref m1, .ref mi, .ref mo, .ref ml, .ref mf, .ref ma, .int (nI cl), .ref mfd, .ref mts, .int (nI tc), .ref mg, .ref mb])), (ml, .inl (cI, 600, .inl v2))]) [0, 2] rfl
                  have hDc := hD.sub (ws' := [(qm, .inr (5, [.int cd, .int (nI n), .int (nI ni), .int (nI no), .ref mk, .ref m0, .ref m1, .ref mi, .ref mo, .ref ml, .ref mf, .ref ma, .int (nI cl), .ref mfd, .ref mts, .int (nI tc), .ref mg, .ref mb])), (ml, .inl (cI, 600, .inl v2))]) [0, 2] (by decide) rfl
                  have hFc := va_free (wc := [(qm, .inr (5, [.int cd, .int (nI n), .int (nI ni), .int (nI no), .ref mk, .ref m0, .ref m1, .ref mi, .ref mo, .ref ml, .ref mf, .ref ma, .int (nI cl), .ref mfd, .ref mts, .int (nI tc), .ref mg, .ref mb])), (ml, .inl (cI, 600, .inl v2))]) hD hS hA [0, 2] rfl
                  refine va_callv (va_runV (As := [.int (nI (j * 6 + (pn + 1) * 2 + v)), .int (nI (j * 6 + 0 * 2 + v))]) (rest := []) ⟨hx, hb, hml, hown, hts⟩ (c_X5_put l D cI cJ cZ qm mk m0 m1 mi mo ml mf ma mfd mts mg mb cd n ni no cl tc v2 (mrgs (gVs (kd j) j pn v) (mrgs (gNs (kd j) j pn) r)) (j * 6 + (pn + 1) * 2 + v) (j * 6 + 0 * 2 + v) H.size _ rfl hL2 hB2 (by omega) (by omega)) (cwV 2 hts gX5_joinGate_X5_put rfl rfl rfl (by decide +kernel) ⟨Nat.le_of_ble_eq_true rfl, Nat.le_of_ble_eq_true rfl⟩) ⟨PW.blind, va_recv hK hPc (ci := 5) (q0 := 0) rfl rfl, fun U hU hW => ⟨rfl, PW.to hPc hK hNB hDc hU hW⟩⟩ rfl rfl hl.1 rfl (lv_room (Nat.le_of_ble_eq_true rfl)) dX5_joinGate_160 ⟨Nat.le_of_ble_eq_true rfl, Nat.le_of_ble_eq_true rfl⟩) hS (fun q _ h => hFc q h) hFc (fun u_9 t_9 H1_9 locs ht_9 hvm_9 hw_9 hB_9 hz1_9 hk1_9 hS => ?_)
                  obtain ⟨le2_25, rfl⟩ : ∃ z, z = u_9 := ⟨_, rfl⟩
                  obtain ⟨hP1_9, hD1_9⟩ := hB_9
                  rw [ht_9] at hP1_9
                  obtain ⟨k_L, k_B⟩ := hw_9
                  have k_L : LeOf le2_25 (mrg (mrgs (gVs (kd j) j pn v) (mrgs (gNs (kd j) j pn) r)) (j * 6 + (pn + 1) * 2 + v) (j * 6 + 0 * 2 + v)) := k_L
                  have k_B : mrgB (mrg (mrgs (gVs (kd j) j pn v) (mrgs (gNs (kd j) j pn) r)) (j * 6 + (pn + 1) * 2 + v) (j * 6 + 0 * 2 + v)) := k_B
                  obtain ⟨hP, hD⟩ := va_join (wr := [(mk, .inl (cI, 100, .inl kd))]) (w1 := [(qm, .inr (5, [.int cd, .int (nI n), .int (nI ni), .int (nI no), .ref mk, .ref m0, .ref m1, .ref mi, .ref mo, .ref ml, .ref mf, .ref ma, .int (nI cl), .ref mfd, .ref mts, .int (nI tc), .ref mg, .ref mb])), (ml, .inl (cI, 600, .inl le2_25))]) hP hD [0, 2] [1] rfl rfl (by decide) (by decide) hk1_9 hFc hP1_9 hD1_9
                  have hP := hP.sub (ws' := [(qm, .inr (5, [.int cd, .int (nI n), .int (nI ni), .int (nI no), .ref mk, .ref m0, .ref m1, .ref mi, .ref mo, .ref ml, .ref mf, .ref ma, .int (nI cl), .ref mfd, .ref mts, .int (nI tc), .ref mg, .ref mb])), (mk, .inl (cI, 100, .inl kd)), (ml, .inl (cI, 600, .inl le2_25))]) [1, 0, 2] rfl
                  have hD := hD.sub (ws' := [(qm, .inr (5, [.int cd, .int (nI n), .int (nI ni), .int (nI no), .ref mk, .ref m0, .ref m1, .ref mi, .ref mo, .ref ml, .ref mf, .ref ma, .int (nI cl), .ref mfd, .ref mts, .int (nI tc), .ref mg, .ref mb])), (mk, .inl (cI, 100, .inl kd)), (ml, .inl (cI, 600, .inl le2_25))]) [1, 0, 2] (by decide) rfl
                  generalize H1_9 = H at hP hS ⊢
                  have hP : va_P D vwCl [(qm, .inr (5, [.int cd, .int (nI n), .int (nI ni), .int (nI no), .ref mk, .ref m0, .ref m1, .ref mi, .ref mo, .ref ml, .ref mf, .ref ma, .int (nI cl), .ref mfd, .ref mts, .int (nI tc), .ref mg, .ref mb])), (mk, .inl (cI, 100, .inl kd)), (ml, .inl (cI, 600, .inl le2_25))] H := hP
                  have hD : va_D A [(qm, .inr (5, [.int cd, .int (nI n), .int (nI ni), .int (nI no), .ref mk, .ref m0, .ref m1, .ref mi, .ref mo, .ref ml, .ref mf, .ref ma, .int (nI cl), .ref mfd, .ref mts, .int (nI tc), .ref mg, .ref mb])), (mk, .inl (cI, 100, .inl kd)), (ml, .inl (cI, 600, .inl le2_25))] := hD
                  refine lv_iinc (v := (nI (v + 1))) (lv' := [(3, .int (nI (v + 1))), (4, .int (nI v)), (0, .ref qm), (1, .int (nI j)), (2, .int (nI pn))]) hx hb dX5_joinGate_163 hl (k := 4) rfl (nI_add _ 1) (by decide) rfl (fun ls hl => ?_)
                  refine lv_goto (tgt := 13) hx hb dX5_joinGate_166 (by decide) ?_
                  exact ih13 (v + 1) le2_25 (by omega) (by rw [gVs_s, mrgs_app, (gPv_some (w := v) hto)]; exact k_L) (by rw [gVs_s, mrgs_app, (gPv_some (w := v) hto)]; exact k_B) (by omega) _ _ hP hD hS ls (lv_sub hl [2, 3, 4, 0] rfl)
              refine lv_tableOut (tgt := 140) hx hb dX5_joinGate_27 (zs_out (n := 7) (by decide) (fun j hj => by rcases (show j = 0 ∨ j = 1 ∨ j = 2 ∨ j = 3 ∨ j = 4 ∨ j = 5 ∨ j = 6 by omega) with rfl | rfl | rfl | rfl | rfl | rfl | rfl <;> assumption)) (by decide) ?_
              have hto : gPt (kd j) v = none := gPt_o k_0 k_1 k_3 k_4 k_5 k_6
              refine lv_iload hx hb dX5_joinGate_140 (lv_at hl 0 rfl) ?_
              refine lv_iconst (v := (-1)) hx hb dX5_joinGate_142 (by decide) ?_
              refine lv_icmp_eq (tgt := 163) hx hb dX5_joinGate_143 (by decide) (fun c_143 => ?_) (fun c_143 => ?_)
              · skip
                refine lv_iinc (v := (nI (v + 1))) (lv' := [(3, .int (nI (v + 1))), (4, .int (-1)), (0, .ref qm), (1, .int (nI j)), (2, .int (nI pn))]) hx hb dX5_joinGate_163 hl (k := 4) rfl (nI_add _ 1) (by decide) rfl (fun ls hl => ?_)
                refine lv_goto (tgt := 13) hx hb dX5_joinGate_166 (by decide) ?_
                exact ih13 (v + 1) v2 (by omega) (by rw [gVs_s, mrgs_app, (gPv_none hto)]; exact hL2) (by rw [gVs_s, mrgs_app, (gPv_none hto)]; exact hB2) (by omega) _ _ hP hD hS ls (lv_sub hl [2, 3, 4, 0] rfl)
              · skip
                exact absurd (by decide) c_143
        exact loop13 ((2 - 0) + 1) 0 v1 (by omega) hL1 hB1 (Nat.lt_succ_self _) _ _ hP hD hS ls (lv_sub hl [1, 2, 3, 0] rfl)
  exact loop2 ((pinsN (kd j) - 0) + 1) 0 le (Nat.zero_le _) hL hB (Nat.lt_succ_self _) _ _ hP hD hS ls (lv_sub hl [1, 2, 0] rfl)

set_option maxHeartbeats 4000000 in
set_option maxRecDepth 100000 in
theorem c_X5_joinNet (l : Launch) (D : va_G) (cI cJ cZ : ClassId) (qm : Nat) (mk : Nat) (m0 : Nat) (m1 : Nat) (mi : Nat) (mo : Nat) (ml : Nat) (mf : Nat) (ma : Nat) (mfd : Nat) (mts : Nat) (mg : Nat) (mb : Nat) (cd : Int32) (n : Nat) (ni : Nat) (no : Nat) (cl : Nat) (tc : Nat) (kd : Nat → Int32) (s0 : Nat → Int32) (s1 : Nat → Int32) (on : Nat → Int32) (le : Nat → Int32) (r : Nat → Nat) (q : Nat) (sz : Nat) (A : Nat → Prop) (hAe : A = va_A [(qm, .inr (5, [.int cd, .int (nI n), .int (nI ni), .int (nI no), .ref mk, .ref m0, .ref m1, .ref mi, .ref mo, .ref ml, .ref mf, .ref ma, .int (nI cl), .ref mfd, .ref mts, .int (nI tc), .ref mg, .ref mb])), (mk, .inl (cI, 100, .inl kd)), (m0, .inl (cI, 100, .inl s0)), (m1, .inl (cI, 100, .inl s1)), (mo, .inl (cI, 12, .inl on)), (ml, .inl (cI, 600, .inl le))] sz) (hn : n ≤ 100) (hno : no ≤ 12) (hwf : WF n kd s0 s1) (hwo : WO n no on) (hkd : KD n kd) (hL : LeOf le r) (hB : mrgB r) (hq : q < n) : Met l yX5_joinNet wsX5_joinNet ({ frames := 1, cells := 0, slots := 0, locals := 25 } : Room) (va_Pc [.ref qm, .int (nI q)] (PW D cI cJ cZ [(qm, .inr (5, [.int cd, .int (nI n), .int (nI ni), .int (nI no), .ref mk, .ref m0, .ref m1, .ref mi, .ref mo, .ref ml, .ref mf, .ref ma, .int (nI cl), .ref mfd, .ref mts, .int (nI tc), .ref mg, .ref mb])), (mk, .inl (cI, 100, .inl kd)), (m0, .inl (cI, 100, .inl s0)), (m1, .inl (cI, 100, .inl s1)), (mo, .inl (cI, 12, .inl on)), (ml, .inl (cI, 600, .inl le))] sz)) (va_Qv (fun u9 : (Nat → Int32) × (List (Nat × Nat)) => match u9 with | (le2, M) => LeOf le2 (mrgs M r) ∧ mrgB (mrgs M r) ∧ MPq kd s0 s1 on n no q M) (fun (u9 : (Nat → Int32) × (List (Nat × Nat))) t => match u9 with | (le2, M) => PQ D A [(qm, .inr (5, [.int cd, .int (nI n), .int (nI ni), .int (nI no), .ref mk, .ref m0, .ref m1, .ref mi, .ref mo, .ref ml, .ref mf, .ref ma, .int (nI cl), .ref mfd, .ref mts, .int (nI tc), .ref mg, .ref mb])), (mk, .inl (cI, 100, .inl kd)), (m0, .inl (cI, 100, .inl s0)), (m1, .inl (cI, 100, .inl s1)), (mo, .inl (cI, 12, .inl on)), (ml, .inl (cI, 600, .inl le2))] t) A) 0 0 A := by
  refine Met.ofW (cc := cX5_joinNet) (maxL := 6) (ret := none) (by decide) rfl ?_
  intro p e s m args below meth c s₁ B hml hv
  obtain ⟨rfl, hsz, ⟨hP, hK, hNB⟩, hD0⟩ := hv
  have hx := B.exec
  have hb := B.bytes
  have hr := B.returns
  have hts := atoms_spec (ws := wsX5_joinNet) B.pre
  have hown : s.vm.findClass RX5 = some m.cls := findClass_of_methodNamed B.named
  have hlocks := B.notSynchronized
  have hiX5 : ∀ w ∈ u_ws RX5 TX5 18, w ∈ wsX5_joinNet := by decide +kernel
  subst hsz
  have hD : va_D A [(qm, .inr (5, [.int cd, .int (nI n), .int (nI ni), .int (nI no), .ref mk, .ref m0, .ref m1, .ref mi, .ref mo, .ref ml, .ref mf, .ref ma, .int (nI cl), .ref mfd, .ref mts, .int (nI tc), .ref mg, .ref mb])), (mk, .inl (cI, 100, .inl kd)), (m0, .inl (cI, 100, .inl s0)), (m1, .inl (cI, 100, .inl s1)), (mo, .inl (cI, 12, .inl on)), (ml, .inl (cI, 600, .inl le))] := by rw [hAe]; exact hD0.self
  have hA : ∀ q : Nat, s.heap.size ≤ q → A q := fun q h => by rw [hAe]; exact Or.inr h
  have hS : va_S A s.heap s.heap [] := va_S.rf
  have hl := lv_entry ([.ref qm, .int (nI q)]) (n := 6) (Nat.le_of_ble_eq_true rfl)
  rw [lg_entry_eq]
  generalize (lg_sl ([.ref qm, .int (nI q)]) ++ List.replicate (6 - (lg_sl ([.ref qm, .int (nI q)])).length) Slot.unset).toArray = ls at hl ⊢
  have hl : lv_has ls 6 [(0, .ref qm), (1, .int (nI q))] := hl
  refine lv_iconst (v := (nI 0)) hx hb dX5_joinNet_0 (by decide) ?_
  refine lv_istore_n (lv' := [(2, .int (nI 0)), (0, .ref qm), (1, .int (nI q))]) hx hb dX5_joinNet_1 rfl hl (by decide) rfl (fun ls hl => ?_)
  refine lv_iconst (v := (nI 0)) hx hb dX5_joinNet_2 (by decide) ?_
  refine lv_istore_n (lv' := [(3, .int (nI 0)), (2, .int (nI 0)), (0, .ref qm), (1, .int (nI q))]) hx hb dX5_joinNet_3 rfl hl (by decide) rfl (fun ls hl => ?_)
  refine lv_iconst (v := (nI 0)) hx hb dX5_joinNet_4 (by decide) ?_
  refine lv_istore (lv' := [(4, .int (nI 0)), (3, .int (nI 0)), (2, .int (nI 0)), (0, .ref qm), (1, .int (nI q))]) hx hb dX5_joinNet_5 hl (by decide) rfl (fun ls hl => ?_)
  have loop7 : ∀ (n7 : Nat) (t : Nat) (tk : Nat) (at0 : Nat) (ht : t ≤ n) (hT : TKq kd s0 s1 q t 0 tk at0), n - t < n7 → ∀ (H : Heap) (locs : List Loc), va_P D vwCl [(qm, .inr (5, [.int cd, .int (nI n), .int (nI ni), .int (nI no), .ref mk, .ref m0, .ref m1, .ref mi, .ref mo, .ref ml, .ref mf, .ref ma, .int (nI cl), .ref mfd, .ref mts, .int (nI tc), .ref mg, .ref mb])), (mk, .inl (cI, 100, .inl kd)), (m0, .inl (cI, 100, .inl s0)), (m1, .inl (cI, 100, .inl s1)), (mo, .inl (cI, 12, .inl on)), (ml, .inl (cI, 600, .inl le))] H → va_D A [(qm, .inr (5, [.int cd, .int (nI n), .int (nI ni), .int (nI no), .ref mk, .ref m0, .ref m1, .ref mi, .ref mo, .ref ml, .ref mf, .ref ma, .int (nI cl), .ref mfd, .ref mts, .int (nI tc), .ref mg, .ref mb])), (mk, .inl (cI, 100, .inl kd)), (m0, .inl (cI, 100, .inl s0)), (m1, .inl (cI, 100, .inl s1)), (mo, .inl (cI, 12, .inl on)), (ml, .inl (cI, 600, .inl le))] → va_S A s.heap H locs → ∀ (ls : Array Slot), lv_has ls 6 [(0, .ref qm), (1, .int (nI q)), (2, .int (nI tk)), (3, .int (nI at0)), (4, .int (nI t))] → W p l e (headSpec wsX5_joinNet ({ frames := 1, cells := 0, slots := 0, locals := 25 } : Room)).room s m ([.ref qm, .int (nI q)] : List Value).toArray below meth c H locs 0 0 (MQ below (va_Qv (fun u9 : (Nat → Int32) × (List (Nat × Nat)) => match u9 with | (le2, M) => LeOf le2 (mrgs M r) ∧ mrgB (mrgs M r) ∧ MPq kd s0 s1 on n no q M) (fun (u9 : (Nat → Int32) × (List (Nat × Nat))) t => match u9 with | (le2, M) => PQ D A [(qm, .inr (5, [.int cd, .int (nI n), .int (nI ni), .int (nI no), .ref mk, .ref m0, .ref m1, .ref mi, .ref mo, .ref ml, .ref mf, .ref ma, .int (nI cl), .ref mfd, .ref mts, .int (nI tc), .ref mg, .ref mb])), (mk, .inl (cI, 100, .inl kd)), (m0, .inl (cI, 100, .inl s0)), (m1, .inl (cI, 100, .inl s1)), (mo, .inl (cI, 12, .inl on)), (ml, .inl (cI, 600, .inl le2))] t) A) ([.ref qm, .int (nI q)] : List Value).toArray s 0 0 A) (F0 m 7 ls []) := by
    intro n7
    induction n7 with
    | zero => intro t tk at0 ht hT hm; exact absurd hm (Nat.not_lt_zero _)
    | succ n7 ih7 =>
      intro t tk at0 ht hT hm7 H locs hP hD hS ls hl
      refine lv_iload hx hb dX5_joinNet_7 (lv_at hl 4 rfl) ?_
      refine lv_aload_n hx hb dX5_joinNet_9 rfl (lv_at hl 0 rfl) ?_
      refine va_get (D := D) (ci := 5) (v := .int (nI n)) (C := RX5) (T := TX5) (N := 18) hx hb hts hiX5 hown hK hP 0 rfl rfl 1 (by decide) (hts (.fieldLink RX5 52 "FaultSearchModel" "nets" "I") (by decide +kernel)) (fun _ h9 => h9) rfl dX5_joinNet_10 ?_
      refine lv_icmp_ge (tgt := 66) hx hb dX5_joinNet_13 (by decide) (fun c_13 => ?_) (fun c_13 => ?_)
      · skip
        rw [zc_le (by omega) (by omega)] at c_13
        have htn : t = n := by omega
        rw [htn] at hT
        refine lv_iconst (v := (nI 0)) hx hb dX5_joinNet_66 (by decide) ?_
        refine lv_istore (lv' := [(4, .int (nI 0)), (0, .ref qm), (1, .int (nI q)), (2, .int (nI tk)), (3, .int (nI at0))]) hx hb dX5_joinNet_67 hl (by decide) rfl (fun ls hl => ?_)
        refine lv_iconst (v := (nI 0)) hx hb dX5_joinNet_69 (by decide) ?_
        refine lv_istore (lv' := [(5, .int (nI 0)), (4, .int (nI 0)), (0, .ref qm), (1, .int (nI q)), (2, .int (nI tk)), (3, .int (nI at0))]) hx hb dX5_joinNet_70 hl (by decide) rfl (fun ls hl => ?_)
        have loop72 : ∀ (n72 : Nat) (o : Nat) (ob : Nat) (ho : o ≤ no) (hob2 : ob < 2) (hob : ob = 0 ↔ (uO on o).count q = 0), no - o < n72 → ∀ (H : Heap) (locs : List Loc), va_P D vwCl [(qm, .inr (5, [.int cd, .int (nI n), .int (nI ni), .int (nI no), .ref mk, .ref m0, .ref m1, .ref mi, .ref mo, .ref ml, .ref mf, .ref ma, .int (nI cl), .ref mfd, .ref mts, .int (nI tc), .ref mg, .ref mb])), (mk, .inl (cI, 100, .inl kd)), (m0, .inl (cI, 100, .inl s0)), (m1, .inl (cI, 100, .inl s1)), (mo, .inl (cI, 12, .inl on)), (ml, .inl (cI, 600, .inl le))] H → va_D A [(qm, .inr (5, [.int cd, .int (nI n), .int (nI ni), .int (nI no), .ref mk, .ref m0, .ref m1, .ref mi, .ref mo, .ref ml, .ref mf, .ref ma, .int (nI cl), .ref mfd, .ref mts, .int (nI tc), .ref mg, .ref mb])), (mk, .inl (cI, 100, .inl kd)), (m0, .inl (cI, 100, .inl s0)), (m1, .inl (cI, 100, .inl s1)), (mo, .inl (cI, 12, .inl on)), (ml, .inl (cI, 600, .inl le))] → va_S A s.heap H locs → ∀ (ls : Array Slot), lv_has ls 6 [(0, .ref qm), (1, .int (nI q)), (2, .int (nI tk)), (3, .int (nI at0)), (4, .int (nI ob)), (5, .int (nI o))] → W p l e (headSpec wsX5_joinNet ({ frames := 1, cells := 0, slots := 0, locals := 25 } : Room)).room s m ([.ref qm, .int (nI q)] : List Value).toArray below meth c H locs 0 0 (MQ below (va_Qv (fun u9 : (Nat → Int32) × (List (Nat × Nat)) => match u9 with | (le2, M) => LeOf le2 (mrgs M r) ∧ mrgB (mrgs M r) ∧ MPq kd s0 s1 on n no q M) (fun (u9 : (Nat → Int32) × (List (Nat × Nat))) t => match u9 with | (le2, M) => PQ D A [(qm, .inr (5, [.int cd, .int (nI n), .int (nI ni), .int (nI no), .ref mk, .ref m0, .ref m1, .ref mi, .ref mo, .ref ml, .ref mf, .ref ma, .int (nI cl), .ref mfd, .ref mts, .int (nI tc), .ref mg, .ref mb])), (mk, .inl (cI, 100, .inl kd)), (m0, .inl (cI, 100, .inl s0)), (m1, .inl (cI, 100, .inl s1)), (mo, .inl (cI, 12, .inl on)), (ml, .inl (cI, 600, .inl le2))] t) A) ([.ref qm, .int (nI q)] : List Value).toArray s 0 0 A) (F0 m 72 ls []) := by
          intro n72
          induction n72 with
          | zero => intro o ob ho hob2 hob hm; exact absurd hm (Nat.not_lt_zero _)
          | succ n72 ih72 =>
            intro o ob ho hob2 hob hm72 H locs hP hD hS ls hl
            refine lv_iload hx hb dX5_joinNet_72 (lv_at hl 5 rfl) ?_
            refine lv_aload_n hx hb dX5_joinNet_74 rfl (lv_at hl 0 rfl) ?_
            refine va_get (D := D) (ci := 5) (v := .int (nI no)) (C := RX5) (T := TX5) (N := 18) hx hb hts hiX5 hown hK hP 0 rfl rfl 3 (by decide) (hts (.fieldLink RX5 68 "FaultSearchModel" "outputs" "I") (by decide +kernel)) (fun _ h9 => h9) rfl dX5_joinNet_75 ?_
            refine lv_icmp_ge (tgt := 110) hx hb dX5_joinNet_78 (by decide) (fun c_78 => ?_) (fun c_78 => ?_)
            · skip
              rw [zc_le (by omega) (by omega)] at c_78
              have htl := hT.le (by omega) (by omega)
              refine lv_iload_n hx hb dX5_joinNet_110 rfl (lv_at hl 2 rfl) ?_
              refine lv_iconst (v := (nI 1)) hx hb dX5_joinNet_111 (by decide) ?_
              refine lv_icmp_ne (tgt := 144) hx hb dX5_joinNet_112 (by decide) (fun c_112 => ?_) (fun c_112 => ?_)
              · skip
                rw [zc_eq (by omega) (by omega)] at c_112
                exact W.vret hx hb hr (fun t_9 ht_9 hW_9 => ⟨⟨(le, []), rfl, (show LeOf le (mrgs ([]) r) ∧ mrgB (mrgs ([]) r) ∧ MPq kd s0 s1 on n no q ([]) from ⟨hL, hB, hT.none (fun h => by first | exact c_112 h.1 | exact c_117 (hob.mpr (by rw [show o = no by omega]; exact h.2)))⟩), ⟨by rw [ht_9]; exact hP, hD⟩⟩, hS.F ht_9⟩) hS.2.2 dX5_joinNet_144
              · skip
                rw [zc_eq (by omega) (by omega)] at c_112
                refine lv_iload hx hb dX5_joinNet_115 (lv_at hl 4 rfl) ?_
                refine lv_if_ne (tgt := 144) hx hb dX5_joinNet_117 (by decide) (fun c_117 => ?_) (fun c_117 => ?_)
                · skip
                  rw [zc_eq0 (by omega)] at c_117
                  exact W.vret hx hb hr (fun t_9 ht_9 hW_9 => ⟨⟨(le, []), rfl, (show LeOf le (mrgs ([]) r) ∧ mrgB (mrgs ([]) r) ∧ MPq kd s0 s1 on n no q ([]) from ⟨hL, hB, hT.none (fun h => by first | exact c_112 h.1 | exact c_117 (hob.mpr (by rw [show o = no by omega]; exact h.2)))⟩), ⟨by rw [ht_9]; exact hP, hD⟩⟩, hS.F ht_9⟩) hS.2.2 dX5_joinNet_144
                · skip
                  rw [zc_eq0 (by omega)] at c_117
                  refine lv_aload_n hx hb dX5_joinNet_120 rfl (lv_at hl 0 rfl) ?_
                  refine lv_iload_n hx hb dX5_joinNet_121 rfl (lv_at hl 1 rfl) ?_
                  refine lv_iconst (v := (-1)) hx hb dX5_joinNet_122 (by decide) ?_
                  refine lv_iconst (v := (nI 0)) hx hb dX5_joinNet_123 (by decide) ?_
                  refine vp_callSi (va_runS (As := [.int (nI q), .int (-1), .int (nI 0)]) (rest := [.ref qm]) ⟨hx, hb, hml, hown, hts⟩ (c_X5_faultOf l q (-1) 0 0 (by decide)) (va_cwS 3 hts gX5_joinNet_X5_faultOf rfl rfl rfl (by decide +kernel) ⟨Nat.le_of_ble_eq_true rfl, Nat.le_of_ble_eq_true rfl⟩) ⟨zt_blind, fun U hU hW => ⟨rfl, trivial⟩⟩ rfl rfl hl.1 rfl (lv_room (Nat.le_of_ble_eq_true rfl)) dX5_joinNet_124 ⟨Nat.le_of_ble_eq_true rfl, Nat.le_of_ble_eq_true rfl⟩).run (fun r_1 hrr_1 => ?_)
                  subst hrr_1
                  refine lv_iload_n hx hb dX5_joinNet_127 rfl (lv_at hl 3 rfl) ?_
                  have hat := hT.at_lt (by omega) (Nat.le_refl n) hn rfl
                  have hPc := hP.sub (ws' := [(qm, .inr (5, [.int cd, .int (nI n), .int (nI ni), .int (nI no), .ref mk, .ref m0, .ref m1, .ref mi, .ref mo, .ref ml, .ref mf, .ref ma, .int (nI cl), .ref mfd, .ref mts, .int (nI tc), .ref mg, .ref mb])), (ml, .inl (cI, 600, .inl le))]) [0, 5] rfl
                  have hDc := hD.sub (ws' := [(qm, .inr (5, [.int cd, .int (nI n), .int (nI ni), .int (nI no), .ref mk, .ref m0, .ref m1, .ref mi, .ref mo, .ref ml, .ref mf, .ref ma, .int (nI cl), .ref mfd, .ref mts, .int (nI tc), .ref mg, .ref mb])), (ml, .inl (cI, 600, .inl le))]) [0, 5] (by decide) rfl
                  have hFc := va_free (wc := [(qm, .inr (5, [.int cd, .int (nI n), .int (nI ni), .int (nI no), .ref mk, .ref m0, .ref m1, .ref mi, .ref mo, .ref ml, .ref mf, .ref ma, .int (nI cl), .ref mfd, .ref mts, .int (nI tc), .ref mg, .ref mb])), (ml, .inl (cI, 600, .inl le))]) hD hS hA [0, 5] rfl
                  refine va_callv (va_runV (As := [.int (nI (q * 6 + 0 * 2 + 0)), .int (nI at0)]) (rest := []) ⟨hx, hb, hml, hown, hts⟩ (c_X5_put l D cI cJ cZ qm mk m0 m1 mi mo ml mf ma mfd mts mg mb cd n ni no cl tc le r (q * 6 + 0 * 2 + 0) at0 H.size _ rfl hL hB (by omega) (by omega)) (cwV 2 hts gX5_joinNet_X5_put rfl rfl rfl (by decide +kernel) ⟨Nat.le_of_ble_eq_true rfl, Nat.le_of_ble_eq_true rfl⟩) ⟨PW.blind, va_recv hK hPc (ci := 5) (q0 := 0) rfl rfl, fun U hU hW => ⟨rfl, PW.to hPc hK hNB hDc hU hW⟩⟩ rfl rfl hl.1 rfl (lv_room (Nat.le_of_ble_eq_true rfl)) dX5_joinNet_128 ⟨Nat.le_of_ble_eq_true rfl, Nat.le_of_ble_eq_true rfl⟩) hS (fun q _ h => hFc q h) hFc (fun u_9 t_9 H1_9 locs ht_9 hvm_9 hw_9 hB_9 hz1_9 hk1_9 hS => ?_)
                  obtain ⟨le2_3, rfl⟩ : ∃ z, z = u_9 := ⟨_, rfl⟩
                  obtain ⟨hP1_9, hD1_9⟩ := hB_9
                  rw [ht_9] at hP1_9
                  obtain ⟨k_L, k_B⟩ := hw_9
                  have k_L : LeOf le2_3 (mrg r (q * 6 + 0 * 2 + 0) at0) := k_L
                  have k_B : mrgB (mrg r (q * 6 + 0 * 2 + 0) at0) := k_B
                  obtain ⟨hP, hD⟩ := va_join (wr := [(mk, .inl (cI, 100, .inl kd)), (m0, .inl (cI, 100, .inl s0)), (m1, .inl (cI, 100, .inl s1)), (mo, .inl (cI, 12, .inl on))]) (w1 := [(qm, .inr (5, [.int cd, .int (nI n), .int (nI ni), .int (nI no), .ref mk, .ref m0, .ref m1, .ref mi, .ref mo, .ref ml, .ref mf, .ref ma, .int (nI cl), .ref mfd, .ref mts, .int (nI tc), .ref mg, .ref mb])), (ml, .inl (cI, 600, .inl le2_3))]) hP hD [0, 5] [1, 2, 3, 4] rfl rfl (by decide) (by decide) hk1_9 hFc hP1_9 hD1_9
                  have hP := hP.sub (ws' := [(qm, .inr (5, [.int cd, .int (nI n), .int (nI ni), .int (nI no), .ref mk, .ref m0, .ref m1, .ref mi, .ref mo, .ref ml, .ref mf, .ref ma, .int (nI cl), .ref mfd, .ref mts, .int (nI tc), .ref mg, .ref mb])), (mk, .inl (cI, 100, .inl kd)), (m0, .inl (cI, 100, .inl s0)), (m1, .inl (cI, 100, .inl s1)), (mo, .inl (cI, 12, .inl on)), (ml, .inl (cI, 600, .inl le2_3))]) [4, 0, 1, 2, 3, 5] rfl
                  have hD := hD.sub (ws' := [(qm, .inr (5, [.int cd, .int (nI n), .int (nI ni), .int (nI no), .ref mk, .ref m0, .ref m1, .ref mi, .ref mo, .ref ml, .ref mf, .ref ma, .int (nI cl), .ref mfd, .ref mts, .int (nI tc), .ref mg, .ref mb])), (mk, .inl (cI, 100, .inl kd)), (m0, .inl (cI, 100, .inl s0)), (m1, .inl (cI, 100, .inl s1)), (mo, .inl (cI, 12, .inl on)), (ml, .inl (cI, 600, .inl le2_3))]) [4, 0, 1, 2, 3, 5] (by decide) rfl
                  generalize H1_9 = H at hP hS ⊢
                  have hP : va_P D vwCl [(qm, .inr (5, [.int cd, .int (nI n), .int (nI ni), .int (nI no), .ref mk, .ref m0, .ref m1, .ref mi, .ref mo, .ref ml, .ref mf, .ref ma, .int (nI cl), .ref mfd, .ref mts, .int (nI tc), .ref mg, .ref mb])), (mk, .inl (cI, 100, .inl kd)), (m0, .inl (cI, 100, .inl s0)), (m1, .inl (cI, 100, .inl s1)), (mo, .inl (cI, 12, .inl on)), (ml, .inl (cI, 600, .inl le2_3))] H := hP
                  have hD : va_D A [(qm, .inr (5, [.int cd, .int (nI n), .int (nI ni), .int (nI no), .ref mk, .ref m0, .ref m1, .ref mi, .ref mo, .ref ml, .ref mf, .ref ma, .int (nI cl), .ref mfd, .ref mts, .int (nI tc), .ref mg, .ref mb])), (mk, .inl (cI, 100, .inl kd)), (m0, .inl (cI, 100, .inl s0)), (m1, .inl (cI, 100, .inl s1)), (mo, .inl (cI, 12, .inl on)), (ml, .inl (cI, 600, .inl le2_3))] := hD
                  refine lv_aload_n hx hb dX5_joinNet_131 rfl (lv_at hl 0 rfl) ?_
                  refine lv_iload_n hx hb dX5_joinNet_132 rfl (lv_at hl 1 rfl) ?_
                  refine lv_iconst (v := (-1)) hx hb dX5_joinNet_133 (by decide) ?_
                  refine lv_iconst (v := (nI 1)) hx hb dX5_joinNet_134 (by decide) ?_
                  refine vp_callSi (va_runS (As := [.int (nI q), .int (-1), .int (nI 1)]) (rest := [.ref qm]) ⟨hx, hb, hml, hown, hts⟩ (c_X5_faultOf l q (-1) 0 1 (by decide)) (va_cwS 3 hts gX5_joinNet_X5_faultOf rfl rfl rfl (by decide +kernel) ⟨Nat.le_of_ble_eq_true rfl, Nat.le_of_ble_eq_true rfl⟩) ⟨zt_blind, fun U hU hW => ⟨rfl, trivial⟩⟩ rfl rfl hl.1 rfl (lv_room (Nat.le_of_ble_eq_true rfl)) dX5_joinNet_135 ⟨Nat.le_of_ble_eq_true rfl, Nat.le_of_ble_eq_true rfl⟩).run (fun r_4 hrr_4 => ?_)
                  subst hrr_4
                  refine lv_iload_n hx hb dX5_joinNet_138 rfl (lv_at hl 3 rfl) ?_
                  refine lv_iconst (v := (nI 1)) hx hb dX5_joinNet_139 (by decide) ?_
                  refine lv_iadd hx hb dX5_joinNet_140 ?_
                  refine zz_i (z := (nI (at0 + 1))) (nI_add _ _) ?_
                  have hPc := hP.sub (ws' := [(qm, .inr (5, [.int cd, .int (nI n), .int (nI ni), .int (nI no), .ref mk, .ref m0, .ref m1, .ref mi, .ref mo, .ref ml, .ref mf, .ref ma, .int (nI cl), .ref mfd, .ref mts, .int (nI tc), .ref mg, .ref mb])), (ml, .inl (cI, 600, .inl le2_3))]) [0, 5] rfl
                  have hDc := hD.sub (ws' := [(qm, .inr (5, [.int cd, .int (nI n), .int (nI ni), .int (nI no), .ref mk, .ref m0, .ref m1, .ref mi, .ref mo, .ref ml, .ref mf, .ref ma, .int (nI cl), .ref mfd, .ref mts, .int (nI tc), .ref mg, .ref mb])), (ml, .inl (cI, 600, .inl le2_3))]) [0, 5] (by decide) rfl
                  have hFc := va_free (wc := [(qm, .inr (5, [.int cd, .int (nI n), .int (nI ni), .int (nI no), .ref mk, .ref m0, .ref m1, .ref mi, .ref mo, .ref ml, .ref mf, .ref ma, .int (nI cl), .ref mfd, .ref mts, .int (nI tc), .ref mg, .ref mb])), (ml, .inl (cI, 600, .inl le2_3))]) hD hS hA [0, 5] rfl
                  refine va_callv (va_runV (As := [.int (nI (q * 6 + 0 * 2 + 1)), .int (nI (at0 + 1))]) (rest := []) ⟨hx, hb, hml, hown, hts⟩ (c_X5_put l D cI cJ cZ qm mk m0 m1 mi mo ml mf ma mfd mts mg mb cd n ni no cl tc le2_3 (mrg r (q * 6 + 0 * 2 + 0) at0) (q * 6 + 0 * 2 + 1) (at0 + 1) H.size _ rfl k_L k_B (by omega) (by omega)) (cwV 2 hts gX5_joinNet_X5_put rfl rfl rfl (by decide +kernel) ⟨Nat.le_of_ble_eq_true rfl, Nat.le_of_ble_eq_true rfl⟩) ⟨PW.blind, va_recv hK hPc (ci := 5) (q0 := 0) rfl rfl, fun U hU hW => ⟨rfl, PW.to hPc hK hNB hDc hU hW⟩⟩ rfl rfl hl.1 rfl (lv_room (Nat.le_of_ble_eq_true rfl)) dX5_joinNet_141 ⟨Nat.le_of_ble_eq_true rfl, Nat.le_of_ble_eq_true rfl⟩) hS (fun q _ h => hFc q h) hFc (fun u_9 t_9 H1_9 locs ht_9 hvm_9 hw_9 hB_9 hz1_9 hk1_9 hS => ?_)
                  obtain ⟨le2_6, rfl⟩ : ∃ z, z = u_9 := ⟨_, rfl⟩
                  obtain ⟨hP1_9, hD1_9⟩ := hB_9
                  rw [ht_9] at hP1_9
                  obtain ⟨k_L, k_B⟩ := hw_9
                  have k_L : LeOf le2_6 (mrg (mrg r (q * 6 + 0 * 2 + 0) at0) (q * 6 + 0 * 2 + 1) (at0 + 1)) := k_L
                  have k_B : mrgB (mrg (mrg r (q * 6 + 0 * 2 + 0) at0) (q * 6 + 0 * 2 + 1) (at0 + 1)) := k_B
                  obtain ⟨hP, hD⟩ := va_join (wr := [(mk, .inl (cI, 100, .inl kd)), (m0, .inl (cI, 100, .inl s0)), (m1, .inl (cI, 100, .inl s1)), (mo, .inl (cI, 12, .inl on))]) (w1 := [(qm, .inr (5, [.int cd, .int (nI n), .int (nI ni), .int (nI no), .ref mk, .ref m0, .ref m1, .ref mi, .ref mo, .ref ml, .ref mf, .ref ma, .int (nI cl), .ref mfd, .ref mts, .int (nI tc), .ref mg, .ref mb])), (ml, .inl (cI, 600, .inl le2_6))]) hP hD [0, 5] [1, 2, 3, 4] rfl rfl (by decide) (by decide) hk1_9 hFc hP1_9 hD1_9
                  have hP := hP.sub (ws' := [(qm, .inr (5, [.int cd, .int (nI n), .int (nI ni), .int (nI no), .ref mk, .ref m0, .ref m1, .ref mi, .ref mo, .ref ml, .ref mf, .ref ma, .int (nI cl), .ref mfd, .ref mts, .int (nI tc), .ref mg, .ref mb])), (mk, .inl (cI, 100, .inl kd)), (m0, .inl (cI, 100, .inl s0)), (m1, .inl (cI, 100, .inl s1)), (mo, .inl (cI, 12, .inl on)), (ml, .inl (cI, 600, .inl le2_6))]) [4, 0, 1, 2, 3, 5] rfl
                  have hD := hD.sub (ws' := [(qm, .inr (5, [.int cd, .int (nI n), .int (nI ni), .int (nI no), .ref mk, .ref m0, .ref m1, .ref mi, .ref mo, .ref ml, .ref mf, .ref ma, .int (nI cl), .ref mfd, .ref mts, .int (nI tc), .ref mg, .ref mb])), (mk, .inl (cI, 100, .inl kd)), (m0, .inl (cI, 100, .inl s0)), (m1, .inl (cI, 100, .inl s1)), (mo, .inl (cI, 12, .inl on)), (ml, .inl (cI, 600, .inl le2_6))]) [4, 0, 1, 2, 3, 5] (by decide) rfl
                  generalize H1_9 = H at hP hS ⊢
                  have hP : va_P D vwCl [(qm, .inr (5, [.int cd, .int (nI n), .int (nI ni), .int (nI no), .ref mk, .ref m0, .ref m1, .ref mi, .ref mo, .ref ml, .ref mf, .ref ma, .int (nI cl), .ref mfd, .ref mts, .int (nI tc), .ref mg, .ref mb])), (mk, .inl (cI, 100, .inl kd)), (m0, .inl (cI, 100, .inl s0)), (m1, .inl (cI, 100, .inl s1)), (mo, .inl (cI, 12, .inl on)), (ml, .inl (cI, 600, .inl le2_6))] H := hP
                  have hD : va_D A [(qm, .inr (5, [.int cd, .int (nI n), .int (nI ni), .int (nI no), .ref mk, .ref m0, .ref m1, .ref mi, .ref mo, .ref ml, .ref mf, .ref ma, .int (nI cl), .ref mfd, .ref mts, .int (nI tc), .ref mg, .ref mb])), (mk, .inl (cI, 100, .inl kd)), (m0, .inl (cI, 100, .inl s0)), (m1, .inl (cI, 100, .inl s1)), (mo, .inl (cI, 12, .inl on)), (ml, .inl (cI, 600, .inl le2_6))] := hD
                  exact W.vret hx hb hr (fun t_9 ht_9 hW_9 => ⟨⟨(le2_6, [(FO q 0 0, at0), (FO q 0 1, at0 + 1)]), rfl, (show LeOf le2_6 (mrgs ([(FO q 0 0, at0), (FO q 0 1, at0 + 1)]) r) ∧ mrgB (mrgs ([(FO q 0 0, at0), (FO q 0 1, at0 + 1)]) r) ∧ MPq kd s0 s1 on n no q ([(FO q 0 0, at0), (FO q 0 1, at0 + 1)]) from ⟨k_L, k_B, hT.pairs c_112 (by rw [← show o = no by omega]; exact hob.mp c_117)⟩), ⟨by rw [ht_9]; exact hP, hD⟩⟩, hS.F ht_9⟩) hS.2.2 dX5_joinNet_144
            · skip
              rw [zc_le (by omega) (by omega)] at c_78
              refine lv_iload hx hb dX5_joinNet_81 (lv_at hl 4 rfl) ?_
              refine lv_if_ne (tgt := 97) hx hb dX5_joinNet_83 (by decide) (fun c_83 => ?_) (fun c_83 => ?_)
              · skip
                rw [zc_eq0 (by omega)] at c_83
                refine lv_iconst (v := (nI 1)) hx hb dX5_joinNet_97 (by decide) ?_
                refine lv_goto (tgt := 102) hx hb dX5_joinNet_98 (by decide) ?_
                refine lv_istore (lv' := [(4, .int (nI 1)), (0, .ref qm), (1, .int (nI q)), (2, .int (nI tk)), (3, .int (nI at0)), (5, .int (nI o))]) hx hb dX5_joinNet_102 hl (by decide) rfl (fun ls hl => ?_)
                refine lv_iinc (v := (nI (o + 1))) (lv' := [(5, .int (nI (o + 1))), (4, .int (nI 1)), (0, .ref qm), (1, .int (nI q)), (2, .int (nI tk)), (3, .int (nI at0))]) hx hb dX5_joinNet_104 hl (k := 5) rfl (nI_add _ 1) (by decide) rfl (fun ls hl => ?_)
                refine lv_goto (tgt := 72) hx hb dX5_joinNet_107 (by decide) ?_
                exact ih72 (o + 1) 1 (by omega) (by decide) (by rw [uO_s, List.count_append, List.count_singleton]; first | (simp only [show (cn (on o) == q) = true from beq_iff_eq.mpr c_94]; simp) | (simp only [show (cn (on o) == q) = false from by simpa using c_94]; simpa using hob.mp c_83) | (have := fun h => c_83 (hob.mpr h); constructor; intro h; exact absurd h (by decide); intro h; omega)) (by omega) _ _ hP hD hS ls (lv_sub hl [2, 3, 4, 5, 1, 0] rfl)
              · skip
                rw [zc_eq0 (by omega)] at c_83
                refine lv_aload_n hx hb dX5_joinNet_86 rfl (lv_at hl 0 rfl) ?_
                refine va_get (D := D) (ci := 5) (v := .ref mo) (C := RX5) (T := TX5) (N := 18) hx hb hts hiX5 hown hK hP 0 rfl rfl 8 (by decide) (hts (.fieldLink RX5 22 "FaultSearchModel" "outs" "[I") (by decide +kernel)) (fun _ h9 => h9) rfl dX5_joinNet_87 ?_
                refine lv_iload hx hb dX5_joinNet_90 (lv_at hl 5 rfl) ?_
                refine zz_iald hx hb hK hP 4 0 rfl rfl (n := 12) (j := o) (by omega) (by decide) dX5_joinNet_92 ?_
                refine zz_i (z := (nI (cn (on o)))) (hwo o (by omega)).1 ?_
                have hol := (hwo o (by omega)).2
                refine lv_iload_n hx hb dX5_joinNet_93 rfl (lv_at hl 1 rfl) ?_
                refine lv_icmp_ne (tgt := 101) hx hb dX5_joinNet_94 (by decide) (fun c_94 => ?_) (fun c_94 => ?_)
                · skip
                  rw [zc_eq (by omega) (by omega)] at c_94
                  refine lv_iconst (v := (nI 0)) hx hb dX5_joinNet_101 (by decide) ?_
                  refine lv_istore (lv' := [(4, .int (nI 0)), (0, .ref qm), (1, .int (nI q)), (2, .int (nI tk)), (3, .int (nI at0)), (5, .int (nI o))]) hx hb dX5_joinNet_102 hl (by decide) rfl (fun ls hl => ?_)
                  refine lv_iinc (v := (nI (o + 1))) (lv' := [(5, .int (nI (o + 1))), (4, .int (nI 0)), (0, .ref qm), (1, .int (nI q)), (2, .int (nI tk)), (3, .int (nI at0))]) hx hb dX5_joinNet_104 hl (k := 5) rfl (nI_add _ 1) (by decide) rfl (fun ls hl => ?_)
                  refine lv_goto (tgt := 72) hx hb dX5_joinNet_107 (by decide) ?_
                  exact ih72 (o + 1) 0 (by omega) (by decide) (by rw [uO_s, List.count_append, List.count_singleton]; first | (simp only [show (cn (on o) == q) = true from beq_iff_eq.mpr c_94]; simp) | (simp only [show (cn (on o) == q) = false from by simpa using c_94]; simpa using hob.mp c_83) | (have := fun h => c_83 (hob.mpr h); constructor; intro h; exact absurd h (by decide); intro h; omega)) (by omega) _ _ hP hD hS ls (lv_sub hl [2, 3, 4, 5, 1, 0] rfl)
                · skip
                  rw [zc_eq (by omega) (by omega)] at c_94
                  refine lv_iconst (v := (nI 1)) hx hb dX5_joinNet_97 (by decide) ?_
                  refine lv_goto (tgt := 102) hx hb dX5_joinNet_98 (by decide) ?_
                  refine lv_istore (lv' := [(4, .int (nI 1)), (0, .ref qm), (1, .int (nI q)), (2, .int (nI tk)), (3, .int (nI at0)), (5, .int (nI o))]) hx hb dX5_joinNet_102 hl (by decide) rfl (fun ls hl => ?_)
                  refine lv_iinc (v := (nI (o + 1))) (lv' := [(5, .int (nI (o + 1))), (4, .int (nI 1)), (0, .ref qm), (1, .int (nI q)), (2, .int (nI tk)), (3, .int (nI at0))]) hx hb dX5_joinNet_104 hl (k := 5) rfl (nI_add _ 1) (by decide) rfl (fun ls hl => ?_)
                  refine lv_goto (tgt := 72) hx hb dX5_joinNet_107 (by decide) ?_
                  exact ih72 (o + 1) 1 (by omega) (by decide) (by rw [uO_s, List.count_append, List.count_singleton]; first | (simp only [show (cn (on o) == q) = true from beq_iff_eq.mpr c_94]; simp) | (simp only [show (cn (on o) == q) = false from by simpa using c_94]; simpa using hob.mp c_83) | (have := fun h => c_83 (hob.mpr h); constructor; intro h; exact absurd h (by decide); intro h; omega)) (by omega) _ _ hP hD hS ls (lv_sub hl [2, 3, 4, 5, 1, 0] rfl)
        exact loop72 ((no - 0) + 1) 0 0 (Nat.zero_le _) (by decide) (by simp [uO]) (Nat.lt_succ_self _) _ _ hP hD hS ls (lv_sub hl [2, 3, 4, 5, 1, 0] rfl)
      · skip
        rw [zc_le (by omega) (by omega)] at c_13
        refine lv_iconst (v := (nI 0)) hx hb dX5_joinNet_16 (by decide) ?_
        refine lv_istore (lv' := [(5, .int (nI 0)), (0, .ref qm), (1, .int (nI q)), (2, .int (nI tk)), (3, .int (nI at0)), (4, .int (nI t))]) hx hb dX5_joinNet_17 hl (by decide) rfl (fun ls hl => ?_)
        have loop19 : ∀ (n19 : Nat) (k : Nat) (tk2 : Nat) (at2 : Nat) (hk : k ≤ pinsN (kd t)) (hT2 : TKq kd s0 s1 q t k tk2 at2), pinsN (kd t) - k < n19 → ∀ (H : Heap) (locs : List Loc), va_P D vwCl [(qm, .inr (5, [.int cd, .int (nI n), .int (nI ni), .int (nI no), .ref mk, .ref m0, .ref m1, .ref mi, .ref mo, .ref ml, .ref mf, .ref ma, .int (nI cl), .ref mfd, .ref mts, .int (nI tc), .ref mg, .ref mb])), (mk, .inl (cI, 100, .inl kd)), (m0, .inl (cI, 100, .inl s0)), (m1, .inl (cI, 100, .inl s1)), (mo, .inl (cI, 12, .inl on)), (ml, .inl (cI, 600, .inl le))] H → va_D A [(qm, .inr (5, [.int cd, .int (nI n), .int (nI ni), .int (nI no), .ref mk, .ref m0, .ref m1, .ref mi, .ref mo, .ref ml, .ref mf, .ref ma, .int (nI cl), .ref mfd, .ref mts, .int (nI tc), .ref mg, .ref mb])), (mk, .inl (cI, 100, .inl kd)), (m0, .inl (cI, 100, .inl s0)), (m1, .inl (cI, 100, .inl s1)), (mo, .inl (cI, 12, .inl on)), (ml, .inl (cI, 600, .inl le))] → va_S A s.heap H locs → ∀ (ls : Array Slot), lv_has ls 6 [(0, .ref qm), (1, .int (nI q)), (2, .int (nI tk2)), (3, .int (nI at2)), (4, .int (nI t)), (5, .int (nI k))] → W p l e (headSpec wsX5_joinNet ({ frames := 1, cells := 0, slots := 0, locals := 25 } : Room)).room s m ([.ref qm, .int (nI q)] : List Value).toArray below meth c H locs 0 0 (MQ below (va_Qv (fun u9 : (Nat → Int32) × (List (Nat × Nat)) => match u9 with | (le2, M) => LeOf le2 (mrgs M r) ∧ mrgB (mrgs M r) ∧ MPq kd s0 s1 on n no q M) (fun (u9 : (Nat → Int32) × (List (Nat × Nat))) t => match u9 with | (le2, M) => PQ D A [(qm, .inr (5, [.int cd, .int (nI n), .int (nI ni), .int (nI no), .ref mk, .ref m0, .ref m1, .ref mi, .ref mo, .ref ml, .ref mf, .ref ma, .int (nI cl), .ref mfd, .ref mts, .int (nI tc), .ref mg, .ref mb])), (mk, .inl (cI, 100, .inl kd)), (m0, .inl (cI, 100, .inl s0)), (m1, .inl (cI, 100, .inl s1)), (mo, .inl (cI, 12, .inl on)), (ml, .inl (cI, 600, .inl le2))] t) A) ([.ref qm, .int (nI q)] : List Value).toArray s 0 0 A) (F0 m 19 ls []) := by
          intro n19
          induction n19 with
          | zero => intro k tk2 at2 hk hT2 hm; exact absurd hm (Nat.not_lt_zero _)
          | succ n19 ih19 =>
            intro k tk2 at2 hk hT2 hm19 H locs hP hD hS ls hl
            have hp2 := pinsN_le (kd t)
            have htl := hT2.le (by omega) (by omega)
            refine lv_iload hx hb dX5_joinNet_19 (lv_at hl 5 rfl) ?_
            refine lv_aload_n hx hb dX5_joinNet_21 rfl (lv_at hl 0 rfl) ?_
            refine lv_iload hx hb dX5_joinNet_22 (lv_at hl 4 rfl) ?_
            have hPc := hP.sub (ws' := [(qm, .inr (5, [.int cd, .int (nI n), .int (nI ni), .int (nI no), .ref mk, .ref m0, .ref m1, .ref mi, .ref mo, .ref ml, .ref mf, .ref ma, .int (nI cl), .ref mfd, .ref mts, .int (nI tc), .ref mg, .ref mb])), (mk, .inl (cI, 100, .inl kd))]) [0, 1] rfl
            refine vp_callSi (va_runV (As := [.int (nI t)]) (rest := [.int (nI k)]) ⟨hx, hb, hml, hown, hts⟩ (c_X5_pinsOf l D cI cJ cZ qm mk m0 m1 mi mo ml mf ma mfd mts mg mb cd n ni no cl tc kd t (by omega) (hkd t (by omega))) (cwV 1 hts gX5_joinNet_X5_pinsOf rfl rfl rfl (by decide +kernel) ⟨Nat.le_of_ble_eq_true rfl, Nat.le_of_ble_eq_true rfl⟩) ⟨PR.blind, va_recv hK hPc (ci := 5) (q0 := 0) rfl rfl, fun U hU hW => ⟨rfl, PR.to hPc hK hNB hU hW⟩⟩ rfl rfl hl.1 rfl (lv_room (Nat.le_of_ble_eq_true rfl)) dX5_joinNet_24 ⟨Nat.le_of_ble_eq_true rfl, Nat.le_of_ble_eq_true rfl⟩).run (fun r_7 hrr_7 => ?_)
            subst hrr_7
            refine lv_icmp_ge (tgt := 60) hx hb dX5_joinNet_27 (by decide) (fun c_27 => ?_) (fun c_27 => ?_)
            · skip
              rw [zc_le (by omega) (by omega)] at c_27
              refine lv_iinc (v := (nI (t + 1))) (lv' := [(4, .int (nI (t + 1))), (0, .ref qm), (1, .int (nI q)), (2, .int (nI tk2)), (3, .int (nI at2)), (5, .int (nI k))]) hx hb dX5_joinNet_60 hl (k := 4) rfl (nI_add _ 1) (by decide) rfl (fun ls hl => ?_)
              refine lv_goto (tgt := 7) hx hb dX5_joinNet_63 (by decide) ?_
              exact ih7 (t + 1) tk2 at2 (by omega) (hT2.gate (by omega)) (by omega) _ _ hP hD hS ls (lv_sub hl [1, 2, 3, 4, 0] rfl)
            · skip
              rw [zc_le (by omega) (by omega)] at c_27
              refine lv_aload_n hx hb dX5_joinNet_30 rfl (lv_at hl 0 rfl) ?_
              refine lv_iload hx hb dX5_joinNet_31 (lv_at hl 4 rfl) ?_
              refine lv_iload hx hb dX5_joinNet_33 (lv_at hl 5 rfl) ?_
              have hPc := hP.sub (ws' := [(qm, .inr (5, [.int cd, .int (nI n), .int (nI ni), .int (nI no), .ref mk, .ref m0, .ref m1, .ref mi, .ref mo, .ref ml, .ref mf, .ref ma, .int (nI cl), .ref mfd, .ref mts, .int (nI tc), .ref mg, .ref mb])), (m0, .inl (cI, 100, .inl s0)), (m1, .inl (cI, 100, .inl s1))]) [0, 2, 3] rfl
              refine vp_callSi (va_runV (As := [.int (nI t), .int (nI k)]) (rest := []) ⟨hx, hb, hml, hown, hts⟩ (c_X5_takenBy l D cI cJ cZ qm mk m0 m1 mi mo ml mf ma mfd mts mg mb cd n ni no cl tc s0 s1 t k (by omega) (by omega)) (cwV 2 hts gX5_joinNet_X5_takenBy rfl rfl rfl (by decide +kernel) ⟨Nat.le_of_ble_eq_true rfl, Nat.le_of_ble_eq_true rfl⟩) ⟨PR.blind, va_recv hK hPc (ci := 5) (q0 := 0) rfl rfl, fun U hU hW => ⟨rfl, PR.to hPc hK hNB hU hW⟩⟩ rfl rfl hl.1 rfl (lv_room (Nat.le_of_ble_eq_true rfl)) dX5_joinNet_35 ⟨Nat.le_of_ble_eq_true rfl, Nat.le_of_ble_eq_true rfl⟩).run (fun r_8 hrr_8 => ?_)
              subst hrr_8
              refine zz_i (z := (nI (cn (srcF s0 s1 t k)))) (hwf.src (by omega) (pinsN_gate (show k < pinsN (kd t) by omega))).1 ?_
              have hsl := (hwf.src (pn := k) (show t < n by omega) (pinsN_gate (show k < pinsN (kd t) by omega))).2
              refine lv_iload_n hx hb dX5_joinNet_38 rfl (lv_at hl 1 rfl) ?_
              refine lv_icmp_ne (tgt := 54) hx hb dX5_joinNet_39 (by decide) (fun c_39 => ?_) (fun c_39 => ?_)
              · skip
                rw [zc_eq (by omega) (by omega)] at c_39
                refine lv_iinc (v := (nI (k + 1))) (lv' := [(5, .int (nI (k + 1))), (0, .ref qm), (1, .int (nI q)), (2, .int (nI tk2)), (3, .int (nI at2)), (4, .int (nI t))]) hx hb dX5_joinNet_54 hl (k := 5) rfl (nI_add _ 1) (by decide) rfl (fun ls hl => ?_)
                refine lv_goto (tgt := 19) hx hb dX5_joinNet_57 (by decide) ?_
                exact ih19 (k + 1) tk2 at2 (by omega) (hT2.miss c_39) (by omega) _ _ hP hD hS ls (lv_sub hl [1, 2, 3, 4, 5, 0] rfl)
              · skip
                rw [zc_eq (by omega) (by omega)] at c_39
                refine lv_iinc (v := (nI (tk2 + 1))) (lv' := [(2, .int (nI (tk2 + 1))), (0, .ref qm), (1, .int (nI q)), (3, .int (nI at2)), (4, .int (nI t)), (5, .int (nI k))]) hx hb dX5_joinNet_42 hl (k := 2) rfl (nI_add _ 1) (by decide) rfl (fun ls hl => ?_)
                refine lv_iload hx hb dX5_joinNet_45 (lv_at hl 4 rfl) ?_
                refine lv_iload hx hb dX5_joinNet_47 (lv_at hl 5 rfl) ?_
                refine lv_iconst (v := (nI 0)) hx hb dX5_joinNet_49 (by decide) ?_
                refine vp_callSi (va_runS (As := [.int (nI t), .int (nI k), .int (nI 0)]) (rest := []) ⟨hx, hb, hml, hown, hts⟩ (c_X5_faultOf l t (nI k) (k + 1) 0 (nI_add _ _)) (va_cwS 3 hts gX5_joinNet_X5_faultOf rfl rfl rfl (by decide +kernel) ⟨Nat.le_of_ble_eq_true rfl, Nat.le_of_ble_eq_true rfl⟩) ⟨zt_blind, fun U hU hW => ⟨rfl, trivial⟩⟩ rfl rfl hl.1 rfl (lv_room (Nat.le_of_ble_eq_true rfl)) dX5_joinNet_50 ⟨Nat.le_of_ble_eq_true rfl, Nat.le_of_ble_eq_true rfl⟩).run (fun r_9 hrr_9 => ?_)
                subst hrr_9
                refine lv_istore_n (lv' := [(3, .int (nI (t * 6 + (k + 1) * 2 + 0))), (2, .int (nI (tk2 + 1))), (0, .ref qm), (1, .int (nI q)), (4, .int (nI t)), (5, .int (nI k))]) hx hb dX5_joinNet_53 rfl hl (by decide) rfl (fun ls hl => ?_)
                refine lv_iinc (v := (nI (k + 1))) (lv' := [(5, .int (nI (k + 1))), (3, .int (nI (t * 6 + (k + 1) * 2 + 0))), (2, .int (nI (tk2 + 1))), (0, .ref qm), (1, .int (nI q)), (4, .int (nI t))]) hx hb dX5_joinNet_54 hl (k := 5) rfl (nI_add _ 1) (by decide) rfl (fun ls hl => ?_)
                refine lv_goto (tgt := 19) hx hb dX5_joinNet_57 (by decide) ?_
                exact ih19 (k + 1) (tk2 + 1) (t * 6 + (k + 1) * 2 + 0) (by omega) (hT2.hit c_39) (by omega) _ _ hP hD hS ls (lv_sub hl [3, 4, 2, 1, 5, 0] rfl)
        exact loop19 ((pinsN (kd t) - 0) + 1) 0 tk at0 (Nat.zero_le _) hT (Nat.lt_succ_self _) _ _ hP hD hS ls (lv_sub hl [1, 2, 3, 4, 5, 0] rfl)
  exact loop7 ((n - 0) + 1) 0 0 0 (Nat.zero_le _) TKq.zero (Nat.lt_succ_self _) _ _ hP hD hS ls (lv_sub hl [3, 4, 2, 1, 0] rfl)
