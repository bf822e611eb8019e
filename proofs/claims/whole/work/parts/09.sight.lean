set_option maxHeartbeats 4000000 in
set_option maxRecDepth 100000 in
theorem c_X2_forgetFound (l : Launch) (D : va_G) (cI cJ cZ : ClassId) (qP : Nat) (qfo : Nat) (qte : Nat) (fd : Nat → Int32) (ts : Nat → Int32) (fc : Nat) (tc : Nat) (sz : Nat) (A : Nat → Prop) (hAe : A = va_A [(qP, .inr (2, [.ref qfo, .ref qte, .int (nI fc), .int (nI tc)])), (qfo, .inl (cZ, 600, .inl fd)), (qte, .inl (cI, 600, .inl ts))] sz) : Met l yX2_forgetFound wsX2_forgetFound ({ frames := 0, cells := 0, slots := 0, locals := 0 } : Room) (va_Pc [.ref qP] (PW D cI cJ cZ [(qP, .inr (2, [.ref qfo, .ref qte, .int (nI fc), .int (nI tc)])), (qfo, .inl (cZ, 600, .inl fd)), (qte, .inl (cI, 600, .inl ts))] sz)) (va_Qv (fun _u9 : Unit => True) (fun (_u9 : Unit) t => PQ D A [(qP, .inr (2, [.ref qfo, .ref qte, .int (nI 0), .int (nI tc)])), (qfo, .inl (cZ, 600, .inl (clrF fd 600))), (qte, .inl (cI, 600, .inl ts))] t) A) 0 0 A := by
  refine Met.ofW (cc := cX2_forgetFound) (maxL := 2) (ret := none) (by decide) rfl ?_
  intro p e s m args below meth c s₁ B hml hv
  obtain ⟨rfl, hsz, ⟨hP, hK, hNB⟩, hD0⟩ := hv
  have hx := B.exec
  have hb := B.bytes
  have hr := B.returns
  have hts := atoms_spec (ws := wsX2_forgetFound) B.pre
  have hown : s.vm.findClass RX2 = some m.cls := findClass_of_methodNamed B.named
  have hlocks := B.notSynchronized
  have hiX2 : ∀ w ∈ u_ws RX2 TX2 4, w ∈ wsX2_forgetFound := by decide +kernel
  subst hsz
  have hD : va_D A [(qP, .inr (2, [.ref qfo, .ref qte, .int (nI fc), .int (nI tc)])), (qfo, .inl (cZ, 600, .inl fd)), (qte, .inl (cI, 600, .inl ts))] := by rw [hAe]; exact hD0.self
  have hA : ∀ q : Nat, s.heap.size ≤ q → A q := fun q h => by rw [hAe]; exact Or.inr h
  have hS : va_S A s.heap s.heap [] := va_S.rf
  have hl := lv_entry ([.ref qP]) (n := 2) (Nat.le_of_ble_eq_true rfl)
  rw [lg_entry_eq]
  generalize (lg_sl ([.ref qP]) ++ List.replicate (2 - (lg_sl ([.ref qP])).length) Slot.unset).toArray = ls at hl ⊢
  have hl : lv_has ls 2 [(0, .ref qP)] := hl
  refine lv_iconst (v := (nI 0)) hx hb dX2_forgetFound_0 (by decide) ?_
  refine lv_istore_n (lv' := [(1, .int (nI 0)), (0, .ref qP)]) hx hb dX2_forgetFound_1 rfl hl (by decide) rfl (fun ls hl => ?_)
  have loop2 : ∀ (n2 : Nat) (i : Nat) (v : Nat → Int32) (hi : i ≤ 600) (hv : v = clrF fd i), 600 - i < n2 → ∀ (H : Heap) (locs : List Loc), va_P D vwCl [(qP, .inr (2, [.ref qfo, .ref qte, .int (nI fc), .int (nI tc)])), (qfo, .inl (cZ, 600, .inl v)), (qte, .inl (cI, 600, .inl ts))] H → va_D A [(qP, .inr (2, [.ref qfo, .ref qte, .int (nI fc), .int (nI tc)])), (qfo, .inl (cZ, 600, .inl v)), (qte, .inl (cI, 600, .inl ts))] → va_S A s.heap H locs → ∀ (ls : Array Slot), lv_has ls 2 [(0, .ref qP), (1, .int (nI i))] → W p l e (headSpec wsX2_forgetFound ({ frames := 0, cells := 0, slots := 0, locals := 0 } : Room)).room s m ([.ref qP] : List Value).toArray below meth c H locs 0 0 (MQ below (va_Qv (fun _u9 : Unit => True) (fun (_u9 : Unit) t => PQ D A [(qP, .inr (2, [.ref qfo, .ref qte, .int (nI 0), .int (nI tc)])), (qfo, .inl (cZ, 600, .inl (clrF fd 600))), (qte, .inl (cI, 600, .inl ts))] t) A) ([.ref qP] : List Value).toArray s 0 0 A) (F0 m 2 ls []) := by
    intro n2
    induction n2 with
    | zero => intro i v hi hv hm; exact absurd hm (Nat.not_lt_zero _)
    | succ n2 ih2 =>
      intro i v hi hv hm2 H locs hP hD hS ls hl
      refine lv_iload_n hx hb dX2_forgetFound_2 rfl (lv_at hl 1 rfl) ?_
      refine lv_sipush (v := (nI 600)) hx hb dX2_forgetFound_3 (by decide) ?_
      refine lv_icmp_ge (tgt := 22) hx hb dX2_forgetFound_6 (by decide) (fun c_6 => ?_) (fun c_6 => ?_)
      · skip
        rw [zc_le (by omega) (by omega)] at c_6
        obtain rfl : i = 600 := by omega
        subst hv
        refine lv_aload_n hx hb dX2_forgetFound_22 rfl (lv_at hl 0 rfl) ?_
        refine lv_iconst (v := (nI 0)) hx hb dX2_forgetFound_23 (by decide) ?_
        refine va_put (D := D) (ci := 2) (v := .int (nI 0)) (ty := .int) (C := RX2) (T := TX2) (N := 4) hx hb hts hiX2 tyX2 tyX2_ok nmX2 hown hK hP hD hS 0 rfl rfl 2 (by decide) (hts (.fieldLink RX2 19 "FaultSearch$Progress" "foundCount" "I") (by decide +kernel)) (fun _ h9 => h9) rfl (by decide +kernel) rfl rfl (Nat.le_of_ble_eq_true rfl) dX2_forgetFound_24 (fun H locs hP hD hS => ?_)
        have hP : va_P D vwCl [(qP, .inr (2, [.ref qfo, .ref qte, .int (nI 0), .int (nI tc)])), (qfo, .inl (cZ, 600, .inl (clrF fd 600))), (qte, .inl (cI, 600, .inl ts))] H := hP
        have hD : va_D A [(qP, .inr (2, [.ref qfo, .ref qte, .int (nI 0), .int (nI tc)])), (qfo, .inl (cZ, 600, .inl (clrF fd 600))), (qte, .inl (cI, 600, .inl ts))] := hD
        exact W.vret hx hb hr (fun t_9 ht_9 hW_9 => ⟨⟨(), rfl, trivial, ⟨by rw [ht_9]; exact hP, hD⟩⟩, hS.F ht_9⟩) hS.2.2 dX2_forgetFound_27
      · skip
        rw [zc_le (by omega) (by omega)] at c_6
        refine lv_aload_n hx hb dX2_forgetFound_9 rfl (lv_at hl 0 rfl) ?_
        refine va_get (D := D) (ci := 2) (v := .ref qfo) (C := RX2) (T := TX2) (N := 4) hx hb hts hiX2 hown hK hP 0 rfl rfl 0 (by decide) (hts (.fieldLink RX2 9 "FaultSearch$Progress" "found" "[Z") (by decide +kernel)) (fun _ h9 => h9) rfl dX2_forgetFound_10 ?_
        refine lv_iload_n hx hb dX2_forgetFound_13 rfl (lv_at hl 1 rfl) ?_
        refine lv_iconst (v := (nI 0)) hx hb dX2_forgetFound_14 (by decide) ?_
        refine zz_zast hx hb hK hP hD hS 1 2 rfl rfl (by decide) (n := 600) (j := i) (by omega) (by decide) dX2_forgetFound_15 (fun H locs hP hD hS => ?_)
        have hP : va_P D vwCl [(qP, .inr (2, [.ref qfo, .ref qte, .int (nI fc), .int (nI tc)])), (qfo, .inl (cZ, 600, .inl (upd v i (nI 0)))), (qte, .inl (cI, 600, .inl ts))] H := hP
        have hD : va_D A [(qP, .inr (2, [.ref qfo, .ref qte, .int (nI fc), .int (nI tc)])), (qfo, .inl (cZ, 600, .inl (upd v i (nI 0)))), (qte, .inl (cI, 600, .inl ts))] := hD
        refine lv_iinc (v := (nI (i + 1))) (lv' := [(1, .int (nI (i + 1))), (0, .ref qP)]) hx hb dX2_forgetFound_16 hl (k := 1) rfl (nI_add _ 1) (by decide) rfl (fun ls hl => ?_)
        refine lv_goto (tgt := 2) hx hb dX2_forgetFound_19 (by decide) ?_
        exact ih2 (i + 1) (upd v i (nI 0)) (by omega) (by rw [hv]; exact clrF_s fd i) (by omega) _ _ hP hD hS ls (lv_sub hl [1, 0] rfl)
  exact loop2 ((600 - 0) + 1) 0 fd (by omega) (clrF_0 fd).symm (Nat.lt_succ_self _) _ _ hP hD hS ls (lv_sub hl [1, 0] rfl)

set_option maxHeartbeats 4000000 in
set_option maxRecDepth 100000 in
theorem c_X2_hasRoom (l : Launch) (D : va_G) (cI cJ cZ : ClassId) (qP : Nat) (qfo : Nat) (qte : Nat) (fd : Nat → Int32) (ts : Nat → Int32) (fc : Nat) (tc : Nat) (htc : tc < 2 ^ 31) : Met l yX2_hasRoom wsX2_hasRoom ({ frames := 0, cells := 0, slots := 0, locals := 0 } : Room) (va_Pc [.ref qP] (PR D cI cJ cZ [(qP, .inr (2, [.ref qfo, .ref qte, .int (nI fc), .int (nI tc)])), (qfo, .inl (cZ, 600, .inl fd)), (qte, .inl (cI, 600, .inl ts))])) (vp_Si (fun r_9 : Int32 => r_9 = (if tc < 600 then (1 : Int32) else 0))) 0 0 (fun _ => False) := by
  refine Met.ofW (cc := cX2_hasRoom) (maxL := 1) (ret := (some .boolean)) (by decide) rfl ?_
  intro p e s m args below meth c s₁ B hml hv
  obtain ⟨rfl, hP, hK, hNB⟩ := hv
  have hx := B.exec
  have hb := B.bytes
  have hr := B.returns
  have hts := atoms_spec (ws := wsX2_hasRoom) B.pre
  have hown : s.vm.findClass RX2 = some m.cls := findClass_of_methodNamed B.named
  have hlocks := B.notSynchronized
  have hiX2 : ∀ w ∈ u_ws RX2 TX2 4, w ∈ wsX2_hasRoom := by decide +kernel
  have hl := lv_entry ([.ref qP]) (n := 1) (Nat.le_of_ble_eq_true rfl)
  rw [lg_entry_eq]
  generalize (lg_sl ([.ref qP]) ++ List.replicate (1 - (lg_sl ([.ref qP])).length) Slot.unset).toArray = ls at hl ⊢
  have hl : lv_has ls 1 [(0, .ref qP)] := hl
  refine lv_aload_n hx hb dX2_hasRoom_0 rfl (lv_at hl 0 rfl) ?_
  refine va_get (D := D) (ci := 2) (v := .int (nI tc)) (C := RX2) (T := TX2) (N := 4) hx hb hts hiX2 hown hK hP 0 rfl rfl 3 (by decide) (hts (.fieldLink RX2 23 "FaultSearch$Progress" "testCount" "I") (by decide +kernel)) (fun _ h9 => h9) rfl dX2_hasRoom_1 ?_
  refine lv_sipush (v := (nI 600)) hx hb dX2_hasRoom_4 (by decide) ?_
  refine lv_icmp_ge (tgt := 14) hx hb dX2_hasRoom_7 (by decide) (fun c_7 => ?_) (fun c_7 => ?_)
  · skip
    rw [zc_le (by omega) (by omega)] at c_7
    refine lv_iconst (v := (nI 0)) hx hb dX2_hasRoom_14 (by decide) ?_
    exact W.zret (v := (nI 0)) hx hb hr (rfl) (fun t_9 ht_9 hW_9 => ⟨(nI 0), rfl, (by first | exact (if_pos (by omega)).symm | exact (if_neg (by omega)).symm), ht_9⟩) (fun q h => nomatch h) dX2_hasRoom_15
  · skip
    rw [zc_le (by omega) (by omega)] at c_7
    refine lv_iconst (v := (nI 1)) hx hb dX2_hasRoom_10 (by decide) ?_
    refine lv_goto (tgt := 15) hx hb dX2_hasRoom_11 (by decide) ?_
    exact W.zret (v := (nI 1)) hx hb hr (rfl) (fun t_9 ht_9 hW_9 => ⟨(nI 1), rfl, (by first | exact (if_pos (by omega)).symm | exact (if_neg (by omega)).symm), ht_9⟩) (fun q h => nomatch h) dX2_hasRoom_15

set_option maxHeartbeats 4000000 in
set_option maxRecDepth 100000 in
theorem c_X2_addTest (l : Launch) (D : va_G) (cI cJ cZ : ClassId) (qP : Nat) (qfo : Nat) (qte : Nat) (fd : Nat → Int32) (ts : Nat → Int32) (fc : Nat) (tc : Nat) (a : Int32) (sz : Nat) (A : Nat → Prop) (hAe : A = va_A [(qP, .inr (2, [.ref qfo, .ref qte, .int (nI fc), .int (nI tc)])), (qfo, .inl (cZ, 600, .inl fd)), (qte, .inl (cI, 600, .inl ts))] sz) (htc : tc < 600) : Met l yX2_addTest wsX2_addTest ({ frames := 0, cells := 0, slots := 0, locals := 0 } : Room) (va_Pc [.ref qP, .int a] (PW D cI cJ cZ [(qP, .inr (2, [.ref qfo, .ref qte, .int (nI fc), .int (nI tc)])), (qfo, .inl (cZ, 600, .inl fd)), (qte, .inl (cI, 600, .inl ts))] sz)) (va_Qv (fun _u9 : Unit => True) (fun (_u9 : Unit) t => PQ D A [(qP, .inr (2, [.ref qfo, .ref qte, .int (nI fc), .int (nI (tc + 1))])), (qfo, .inl (cZ, 600, .inl fd)), (qte, .inl (cI, 600, .inl (upd ts tc a)))] t) A) 0 0 A := by
  refine Met.ofW (cc := cX2_addTest) (maxL := 2) (ret := none) (by decide) rfl ?_
  intro p e s m args below meth c s₁ B hml hv
  obtain ⟨rfl, hsz, ⟨hP, hK, hNB⟩, hD0⟩ := hv
  have hx := B.exec
  have hb := B.bytes
  have hr := B.returns
  have hts := atoms_spec (ws := wsX2_addTest) B.pre
  have hown : s.vm.findClass RX2 = some m.cls := findClass_of_methodNamed B.named
  have hlocks := B.notSynchronized
  have hiX2 : ∀ w ∈ u_ws RX2 TX2 4, w ∈ wsX2_addTest := by decide +kernel
  subst hsz
  have hD : va_D A [(qP, .inr (2, [.ref qfo, .ref qte, .int (nI fc), .int (nI tc)])), (qfo, .inl (cZ, 600, .inl fd)), (qte, .inl (cI, 600, .inl ts))] := by rw [hAe]; exact hD0.self
  have hA : ∀ q : Nat, s.heap.size ≤ q → A q := fun q h => by rw [hAe]; exact Or.inr h
  have hS : va_S A s.heap s.heap [] := va_S.rf
  have hl := lv_entry ([.ref qP, .int a]) (n := 2) (Nat.le_of_ble_eq_true rfl)
  rw [lg_entry_eq]
  generalize (lg_sl ([.ref qP, .int a]) ++ List.replicate (2 - (lg_sl ([.ref qP, .int a])).length) Slot.unset).toArray = ls at hl ⊢
  have hl : lv_has ls 2 [(0, .ref qP), (1, .int a)] := hl
  refine lv_aload_n hx hb dX2_addTest_0 rfl (lv_at hl 0 rfl) ?_
  refine va_get (D := D) (ci := 2) (v := .ref qte) (C := RX2) (T := TX2) (N := 4) hx hb hts hiX2 hown hK hP 0 rfl rfl 1 (by decide) (hts (.fieldLink RX2 15 "FaultSearch$Progress" "tests" "[I") (by decide +kernel)) (fun _ h9 => h9) rfl dX2_addTest_1 ?_
  refine lv_aload_n hx hb dX2_addTest_4 rfl (lv_at hl 0 rfl) ?_
  refine va_get (D := D) (ci := 2) (v := .int (nI tc)) (C := RX2) (T := TX2) (N := 4) hx hb hts hiX2 hown hK hP 0 rfl rfl 3 (by decide) (hts (.fieldLink RX2 23 "FaultSearch$Progress" "testCount" "I") (by decide +kernel)) (fun _ h9 => h9) rfl dX2_addTest_5 ?_
  refine lv_iload_n hx hb dX2_addTest_8 rfl (lv_at hl 1 rfl) ?_
  refine zz_iast hx hb hK hP hD hS 2 0 rfl rfl (n := 600) (j := tc) (by omega) (by decide) dX2_addTest_9 (fun H locs hP hD hS => ?_)
  have hP : va_P D vwCl [(qP, .inr (2, [.ref qfo, .ref qte, .int (nI fc), .int (nI tc)])), (qfo, .inl (cZ, 600, .inl fd)), (qte, .inl (cI, 600, .inl (upd ts tc a)))] H := hP
  have hD : va_D A [(qP, .inr (2, [.ref qfo, .ref qte, .int (nI fc), .int (nI tc)])), (qfo, .inl (cZ, 600, .inl fd)), (qte, .inl (cI, 600, .inl (upd ts tc a)))] := hD
  refine lv_aload_n hx hb dX2_addTest_10 rfl (lv_at hl 0 rfl) ?_
  refine lv_dup hx hb dX2_addTest_11 rfl ?_
  refine va_get (D := D) (ci := 2) (v := .int (nI tc)) (C := RX2) (T := TX2) (N := 4) hx hb hts hiX2 hown hK hP 0 rfl rfl 3 (by decide) (hts (.fieldLink RX2 23 "FaultSearch$Progress" "testCount" "I") (by decide +kernel)) (fun _ h9 => h9) rfl dX2_addTest_12 ?_
  refine lv_iconst (v := (nI 1)) hx hb dX2_addTest_15 (by decide) ?_
  refine lv_iadd hx hb dX2_addTest_16 ?_
  refine zz_i (z := (nI (tc + 1))) (nI_add _ _) ?_
  refine va_put (D := D) (ci := 2) (v := .int (nI (tc + 1))) (ty := .int) (C := RX2) (T := TX2) (N := 4) hx hb hts hiX2 tyX2 tyX2_ok nmX2 hown hK hP hD hS 0 rfl rfl 3 (by decide) (hts (.fieldLink RX2 23 "FaultSearch$Progress" "testCount" "I") (by decide +kernel)) (fun _ h9 => h9) rfl (by decide +kernel) rfl rfl (Nat.le_of_ble_eq_true rfl) dX2_addTest_17 (fun H locs hP hD hS => ?_)
  have hP : va_P D vwCl [(qP, .inr (2, [.ref qfo, .ref qte, .int (nI fc), .int (nI (tc + 1))])), (qfo, .inl (cZ, 600, .inl fd)), (qte, .inl (cI, 600, .inl (upd ts tc a)))] H := hP
  have hD : va_D A [(qP, .inr (2, [.ref qfo, .ref qte, .int (nI fc), .int (nI (tc + 1))])), (qfo, .inl (cZ, 600, .inl fd)), (qte, .inl (cI, 600, .inl (upd ts tc a)))] := hD
  exact W.vret hx hb hr (fun t_9 ht_9 hW_9 => ⟨⟨(), rfl, trivial, ⟨by rw [ht_9]; exact hP, hD⟩⟩, hS.F ht_9⟩) hS.2.2 dX2_addTest_20

set_option maxHeartbeats 4000000 in
set_option maxRecDepth 100000 in
theorem c_X2_missing (l : Launch) (D : va_G) (cI cJ cZ : ClassId) (qP : Nat) (qfo : Nat) (qte : Nat) (fd : Nat → Int32) (ts : Nat → Int32) (fc : Nat) (tc : Nat) (i : Int32) (sz0 : Nat) (hsz : sz0 ≤ 600) : Met l yX2_missing wsX2_missing ({ frames := 0, cells := 0, slots := 0, locals := 0 } : Room) (va_Pc [.ref qP, .int i, .int (nI sz0)] (PR D cI cJ cZ [(qP, .inr (2, [.ref qfo, .ref qte, .int (nI fc), .int (nI tc)])), (qfo, .inl (cZ, 600, .inl fd)), (qte, .inl (cI, 600, .inl ts))])) (vp_Si (fun r_9 : Int32 => r_9 = (missF fd i (sz0 - 0) 0 0))) 0 0 (fun _ => False) := by
  refine Met.ofW (cc := cX2_missing) (maxL := 5) (ret := (some .int)) (by decide) rfl ?_
  intro p e s m args below meth c s₁ B hml hv
  obtain ⟨rfl, hP, hK, hNB⟩ := hv
  have hx := B.exec
  have hb := B.bytes
  have hr := B.returns
  have hts := atoms_spec (ws := wsX2_missing) B.pre
  have hown : s.vm.findClass RX2 = some m.cls := findClass_of_methodNamed B.named
  have hlocks := B.notSynchronized
  have hiX2 : ∀ w ∈ u_ws RX2 TX2 4, w ∈ wsX2_missing := by decide +kernel
  have hl := lv_entry ([.ref qP, .int i, .int (nI sz0)]) (n := 5) (Nat.le_of_ble_eq_true rfl)
  rw [lg_entry_eq]
  generalize (lg_sl ([.ref qP, .int i, .int (nI sz0)]) ++ List.replicate (5 - (lg_sl ([.ref qP, .int i, .int (nI sz0)])).length) Slot.unset).toArray = ls at hl ⊢
  have hl : lv_has ls 5 [(0, .ref qP), (1, .int i), (2, .int (nI sz0))] := hl
  refine lv_iconst (v := (nI 0)) hx hb dX2_missing_0 (by decide) ?_
  refine lv_istore_n (lv' := [(3, .int (nI 0)), (0, .ref qP), (1, .int i), (2, .int (nI sz0))]) hx hb dX2_missing_1 rfl hl (by decide) rfl (fun ls hl => ?_)
  refine lv_iconst (v := (nI 0)) hx hb dX2_missing_2 (by decide) ?_
  refine lv_istore (lv' := [(4, .int (nI 0)), (3, .int (nI 0)), (0, .ref qP), (1, .int i), (2, .int (nI sz0))]) hx hb dX2_missing_3 hl (by decide) rfl (fun ls hl => ?_)
  have loop5 : ∀ (n5 : Nat) (k : Nat) (b : Nat) (hk : k ≤ sz0) (hg : missF fd i (sz0 - 0) 0 0 = missF fd i (sz0 - k) k b), sz0 - k < n5 → ∀ (ls : Array Slot), lv_has ls 5 [(0, .ref qP), (1, .int i), (2, .int (nI sz0)), (3, .int (nI b)), (4, .int (nI k))] → W p l e (headSpec wsX2_missing ({ frames := 0, cells := 0, slots := 0, locals := 0 } : Room)).room s m ([.ref qP, .int i, .int (nI sz0)] : List Value).toArray below meth c s.heap [] 0 0 (MQ below (vp_Si (fun r_9 : Int32 => r_9 = (missF fd i (sz0 - 0) 0 0))) ([.ref qP, .int i, .int (nI sz0)] : List Value).toArray s 0 0 (fun _ => False)) (F0 m 5 ls []) := by
    intro n5
    induction n5 with
    | zero => intro k b hk hg hm; exact absurd hm (Nat.not_lt_zero _)
    | succ n5 ih5 =>
      intro k b hk hg hm5 ls hl
      refine lv_iload hx hb dX2_missing_5 (lv_at hl 4 rfl) ?_
      refine lv_iload_n hx hb dX2_missing_7 rfl (lv_at hl 2 rfl) ?_
      refine lv_icmp_ge (tgt := 38) hx hb dX2_missing_8 (by decide) (fun c_8 => ?_) (fun c_8 => ?_)
      · skip
        rw [zc_le (by omega) (by omega)] at c_8
        refine lv_iconst (v := (-1)) hx hb dX2_missing_38 (by decide) ?_
        exact W.iret (v := (-1)) hx hb hr (fun t_9 ht_9 hW_9 => ⟨(-1), rfl, (hg.trans (missF_end (by omega))).symm, ht_9⟩) (fun q h => nomatch h) dX2_missing_39
      · skip
        rw [zc_le (by omega) (by omega)] at c_8
        refine lv_aload_n hx hb dX2_missing_11 rfl (lv_at hl 0 rfl) ?_
        refine va_get (D := D) (ci := 2) (v := .ref qfo) (C := RX2) (T := TX2) (N := 4) hx hb hts hiX2 hown hK hP 0 rfl rfl 0 (by decide) (hts (.fieldLink RX2 9 "FaultSearch$Progress" "found" "[Z") (by decide +kernel)) (fun _ h9 => h9) rfl dX2_missing_12 ?_
        refine lv_iload hx hb dX2_missing_15 (lv_at hl 4 rfl) ?_
        refine zz_zald hx hb hK hP 1 2 rfl rfl (n := 600) (j := k) (by omega) (by decide) dX2_missing_17 ?_
        refine lv_if_ne (tgt := 32) hx hb dX2_missing_18 (by decide) (fun c_18 => ?_) (fun c_18 => ?_)
        · skip
          refine lv_iinc (v := (nI (k + 1))) (lv' := [(4, .int (nI (k + 1))), (0, .ref qP), (1, .int i), (2, .int (nI sz0)), (3, .int (nI b))]) hx hb dX2_missing_32 hl (k := 4) rfl (nI_add _ 1) (by decide) rfl (fun ls hl => ?_)
          refine lv_goto (tgt := 5) hx hb dX2_missing_35 (by decide) ?_
          exact ih5 (k + 1) b (by omega) (hg.trans (missF_n0 (by omega) c_18)) (by omega) ls (lv_sub hl [1, 2, 3, 4, 0] rfl)
        · skip
          refine lv_iload_n hx hb dX2_missing_21 rfl (lv_at hl 3 rfl) ?_
          refine lv_iload_n hx hb dX2_missing_22 rfl (lv_at hl 1 rfl) ?_
          refine lv_icmp_ne (tgt := 29) hx hb dX2_missing_23 (by decide) (fun c_23 => ?_) (fun c_23 => ?_)
          · skip
            refine lv_iinc (v := (nI (b + 1))) (lv' := [(3, .int (nI (b + 1))), (0, .ref qP), (1, .int i), (2, .int (nI sz0)), (4, .int (nI k))]) hx hb dX2_missing_29 hl (k := 3) rfl (nI_add _ 1) (by decide) rfl (fun ls hl => ?_)
            refine lv_iinc (v := (nI (k + 1))) (lv' := [(4, .int (nI (k + 1))), (3, .int (nI (b + 1))), (0, .ref qP), (1, .int i), (2, .int (nI sz0))]) hx hb dX2_missing_32 hl (k := 4) rfl (nI_add _ 1) (by decide) rfl (fun ls hl => ?_)
            refine lv_goto (tgt := 5) hx hb dX2_missing_35 (by decide) ?_
            exact ih5 (k + 1) (b + 1) (by omega) (hg.trans (missF_n1 (by omega) c_18 c_23)) (by omega) ls (lv_sub hl [2, 3, 4, 1, 0] rfl)
          · skip
            refine lv_iload hx hb dX2_missing_26 (lv_at hl 4 rfl) ?_
            exact W.iret (v := (nI k)) hx hb hr (fun t_9 ht_9 hW_9 => ⟨(nI k), rfl, (hg.trans (missF_hit (by omega) c_18 c_23)).symm, ht_9⟩) (fun q h => nomatch h) dX2_missing_28
  exact loop5 ((sz0 - 0) + 1) 0 0 (by omega) rfl (Nat.lt_succ_self _) ls (lv_sub hl [2, 3, 4, 1, 0] rfl)

set_option maxHeartbeats 4000000 in
set_option maxRecDepth 100000 in
theorem c_X3_forget (l : Launch) (D : va_G) (cI cJ cZ : ClassId) (qc : Nat) (qS : Nat) (qse : Nat) (qre : Nat) (qcg : Nat) (se : Nat → Int64) (re : Nat → Int32) (cg : Nat → Int64) (sz : Nat) (A : Nat → Prop) (hAe : A = va_A [(qS, .inr (3, [.ref qc, .ref qse, .ref qre, .ref qcg])), (qse, .inl (cJ, 1600, .inr (.inl se))), (qre, .inl (cZ, 100, .inl re)), (qcg, .inl (cJ, 100, .inr (.inl cg)))] sz) : Met l yX3_forget wsX3_forget ({ frames := 0, cells := 0, slots := 0, locals := 0 } : Room) (va_Pc [.ref qS] (PW D cI cJ cZ [(qS, .inr (3, [.ref qc, .ref qse, .ref qre, .ref qcg])), (qse, .inl (cJ, 1600, .inr (.inl se))), (qre, .inl (cZ, 100, .inl re)), (qcg, .inl (cJ, 100, .inr (.inl cg)))] sz)) (va_Qv (fun _u9 : Unit => True) (fun (_u9 : Unit) t => PQ D A [(qS, .inr (3, [.ref qc, .ref qse, .ref qre, .ref qcg])), (qse, .inl (cJ, 1600, .inr (.inl se))), (qre, .inl (cZ, 100, .inl (clrF re 100))), (qcg, .inl (cJ, 100, .inr (.inl cg)))] t) A) 0 0 A := by
  refine Met.ofW (cc := cX3_forget) (maxL := 2) (ret := none) (by decide) rfl ?_
  intro p e s m args below meth c s₁ B hml hv
  obtain ⟨rfl, hsz, ⟨hP, hK, hNB⟩, hD0⟩ := hv
  have hx := B.exec
  have hb := B.bytes
  have hr := B.returns
  have hts := atoms_spec (ws := wsX3_forget) B.pre
  have hown : s.vm.findClass RX3 = some m.cls := findClass_of_methodNamed B.named
  have hlocks := B.notSynchronized
  have hiX3 : ∀ w ∈ u_ws RX3 TX3 4, w ∈ wsX3_forget := by decide +kernel
  subst hsz
  have hD : va_D A [(qS, .inr (3, [.ref qc, .ref qse, .ref qre, .ref qcg])), (qse, .inl (cJ, 1600, .inr (.inl se))), (qre, .inl (cZ, 100, .inl re)), (qcg, .inl (cJ, 100, .inr (.inl cg)))] := by rw [hAe]; exact hD0.self
  have hA : ∀ q : Nat, s.heap.size ≤ q → A q := fun q h => by rw [hAe]; exact Or.inr h
  have hS : va_S A s.heap s.heap [] := va_S.rf
  have hl := lv_entry ([.ref qS]) (n := 2) (Nat.le_of_ble_eq_true rfl)
  rw [lg_entry_eq]
  generalize (lg_sl ([.ref qS]) ++ List.replicate (2 - (lg_sl ([.ref qS])).length) Slot.unset).toArray = ls at hl ⊢
  have hl : lv_has ls 2 [(0, .ref qS)] := hl
  refine lv_iconst (v := (nI 0)) hx hb dX3_forget_0 (by decide) ?_
  refine lv_istore_n (lv' := [(1, .int (nI 0)), (0, .ref qS)]) hx hb dX3_forget_1 rfl hl (by decide) rfl (fun ls hl => ?_)
  have loop2 : ∀ (n2 : Nat) (i : Nat) (v : Nat → Int32) (hi : i ≤ 100) (hv : v = clrF re i), 100 - i < n2 → ∀ (H : Heap) (locs : List Loc), va_P D vwCl [(qS, .inr (3, [.ref qc, .ref qse, .ref qre, .ref qcg])), (qse, .inl (cJ, 1600, .inr (.inl se))), (qre, .inl (cZ, 100, .inl v)), (qcg, .inl (cJ, 100, .inr (.inl cg)))] H → va_D A [(qS, .inr (3, [.ref qc, .ref qse, .ref qre, .ref qcg])), (qse, .inl (cJ, 1600, .inr (.inl se))), (qre, .inl (cZ, 100, .inl v)), (qcg, .inl (cJ, 100, .inr (.inl cg)))] → va_S A s.heap H locs → ∀ (ls : Array Slot), lv_has ls 2 [(0, .ref qS), (1, .int (nI i))] → W p l e (headSpec wsX3_forget ({ frames := 0, cells := 0, slots := 0, locals := 0 } : Room)).room s m ([.ref qS] : List Value).toArray below meth c H locs 0 0 (MQ below (va_Qv (fun _u9 : Unit => True) (fun (_u9 : Unit) t => PQ D A [(qS, .inr (3, [.ref qc, .ref qse, .ref qre, .ref qcg])), (qse, .inl (cJ, 1600, .inr (.inl se))), (qre, .inl (cZ, 100, .inl (clrF re 100))), (qcg, .inl (cJ, 100, .inr (.inl cg)))] t) A) ([.ref qS] : List Value).toArray s 0 0 A) (F0 m 2 ls []) := by
    intro n2
    induction n2 with
    | zero => intro i v hi hv hm; exact absurd hm (Nat.not_lt_zero _)
    | succ n2 ih2 =>
      intro i v hi hv hm2 H locs hP hD hS ls hl
      refine lv_iload_n hx hb dX3_forget_2 rfl (lv_at hl 1 rfl) ?_
      refine lv_bipush (v := (nI 100)) hx hb dX3_forget_3 (by decide) ?_
      refine lv_icmp_ge (tgt := 21) hx hb dX3_forget_5 (by decide) (fun c_5 => ?_) (fun c_5 => ?_)
      · skip
        rw [zc_le (by omega) (by omega)] at c_5
        obtain rfl : i = 100 := by omega
        subst hv
        exact W.vret hx hb hr (fun t_9 ht_9 hW_9 => ⟨⟨(), rfl, trivial, ⟨by rw [ht_9]; exact hP, hD⟩⟩, hS.F ht_9⟩) hS.2.2 dX3_forget_21
      · skip
        rw [zc_le (by omega) (by omega)] at c_5
        refine lv_aload_n hx hb dX3_forget_8 rfl (lv_at hl 0 rfl) ?_
        refine va_get (D := D) (ci := 3) (v := .ref qre) (C := RX3) (T := TX3) (N := 4) hx hb hts hiX3 hown hK hP 0 rfl rfl 2 (by decide) (hts (.fieldLink RX3 15 "FaultSearch$Sight" "ready" "[Z") (by decide +kernel)) (fun _ h9 => h9) rfl dX3_forget_9 ?_
        refine lv_iload_n hx hb dX3_forget_12 rfl (lv_at hl 1 rfl) ?_
        refine lv_iconst (v := (nI 0)) hx hb dX3_forget_13 (by decide) ?_
        refine zz_zast hx hb hK hP hD hS 2 2 rfl rfl (by decide) (n := 100) (j := i) (by omega) (by decide) dX3_forget_14 (fun H locs hP hD hS => ?_)
        have hP : va_P D vwCl [(qS, .inr (3, [.ref qc, .ref qse, .ref qre, .ref qcg])), (qse, .inl (cJ, 1600, .inr (.inl se))), (qre, .inl (cZ, 100, .inl (upd v i (nI 0)))), (qcg, .inl (cJ, 100, .inr (.inl cg)))] H := hP
        have hD : va_D A [(qS, .inr (3, [.ref qc, .ref qse, .ref qre, .ref qcg])), (qse, .inl (cJ, 1600, .inr (.inl se))), (qre, .inl (cZ, 100, .inl (upd v i (nI 0)))), (qcg, .inl (cJ, 100, .inr (.inl cg)))] := hD
        refine lv_iinc (v := (nI (i + 1))) (lv' := [(1, .int (nI (i + 1))), (0, .ref qS)]) hx hb dX3_forget_15 hl (k := 1) rfl (nI_add _ 1) (by decide) rfl (fun ls hl => ?_)
        refine lv_goto (tgt := 2) hx hb dX3_forget_18 (by decide) ?_
        exact ih2 (i + 1) (upd v i (nI 0)) (by omega) (by rw [hv]; exact clrF_s re i) (by omega) _ _ hP hD hS ls (lv_sub hl [1, 0] rfl)
  exact loop2 ((100 - 0) + 1) 0 re (by omega) (clrF_0 re).symm (Nat.lt_succ_self _) _ _ hP hD hS ls (lv_sub hl [1, 0] rfl)

set_option maxHeartbeats 4000000 in
set_option maxRecDepth 100000 in
theorem c_X3_effectOfChange (l : Launch) (D : va_G) (cI cJ cZ : ClassId) (qc : Nat) (qk : Nat) (q0 : Nat) (q1 : Nat) (qo : Nat) (qv : Nat) (kd : Nat → Int32) (s0 : Nat → Int32) (s1 : Nat → Int32) (on : Nat → Int32) (vl : Nat → Int64) (n : Nat) (ni : Nat) (no : Nat) (qS : Nat) (qse : Nat) (qre : Nat) (qcg : Nat) (se : Nat → Int64) (re : Nat → Int32) (cg : Nat → Int64) (net : Nat) (w : Nat) (sz : Nat) (A : Nat → Prop) (hAe : A = va_A [(qS, .inr (3, [.ref qc, .ref qse, .ref qre, .ref qcg])), (qse, .inl (cJ, 1600, .inr (.inl se))), (qre, .inl (cZ, 100, .inl re)), (qcg, .inl (cJ, 100, .inr (.inl cg))), (qc, .inr (0, [.ref qk, .ref q0, .ref q1, .ref qo, .ref qv, .int (nI n), .int (nI ni), .int (nI no)])), (qk, .inl (cI, 100, .inl kd)), (q0, .inl (cI, 100, .inl s0)), (q1, .inl (cI, 100, .inl s1)), (qo, .inl (cI, 12, .inl on)), (qv, .inl (cJ, 1600, .inr (.inl vl)))] sz) (hn : n ≤ 100) (hno : no ≤ 12) (hwf : WF n kd s0 s1) (hwo : WO n no on) (hnet : net < n) (hw : w < 16) : Met l yX3_effectOfChange wsX3_effectOfChange ({ frames := 1, cells := 0, slots := 0, locals := 60 } : Room) (va_Pc [.ref qS, .int (nI net), .int (nI w)] (PW D cI cJ cZ [(qS, .inr (3, [.ref qc, .ref qse, .ref qre, .ref qcg])), (qse, .inl (cJ, 1600, .inr (.inl se))), (qre, .inl (cZ, 100, .inl re)), (qcg, .inl (cJ, 100, .inr (.inl cg))), (qc, .inr (0, [.ref qk, .ref q0, .ref q1, .ref qo, .ref qv, .int (nI n), .int (nI ni), .int (nI no)])), (qk, .inl (cI, 100, .inl kd)), (q0, .inl (cI, 100, .inl s0)), (q1, .inl (cI, 100, .inl s1)), (qo, .inl (cI, 12, .inl on)), (qv, .inl (cJ, 1600, .inr (.inl vl)))] sz)) (va_Ql (fun (r_9 : Int64) (u9 : (Nat → Int64)) => match u9 with | cg2 => r_9 = (eff kd s0 s1 on vl n no w net)) (fun (u9 : (Nat → Int64)) t => match u9 with | cg2 => PQ D A [(qS, .inr (3, [.ref qc, .ref qse, .ref qre, .ref qcg])), (qse, .inl (cJ, 1600, .inr (.inl se))), (qre, .inl (cZ, 100, .inl re)), (qcg, .inl (cJ, 100, .inr (.inl cg2))), (qc, .inr (0, [.ref qk, .ref q0, .ref q1, .ref qo, .ref qv, .int (nI n), .int (nI ni), .int (nI no)])), (qk, .inl (cI, 100, .inl kd)), (q0, .inl (cI, 100, .inl s0)), (q1, .inl (cI, 100, .inl s1)), (qo, .inl (cI, 12, .inl on)), (qv, .inl (cJ, 1600, .inr (.inl vl)))] t) A) 0 0 A := by
  refine Met.ofW (cc := cX3_effectOfChange) (maxL := 9) (ret := (some .long)) (by decide) rfl ?_
  intro p e s m args below meth c s₁ B hml hv
  obtain ⟨rfl, hsz, ⟨hP, hK, hNB⟩, hD0⟩ := hv
  have hx := B.exec
  have hb := B.bytes
  have hr := B.returns
  have hts := atoms_spec (ws := wsX3_effectOfChange) B.pre
  have hown : s.vm.findClass RX3 = some m.cls := findClass_of_methodNamed B.named
  have hlocks := B.notSynchronized
  have hiX0 : ∀ w ∈ u_ws RX0 TX0 8, w ∈ wsX3_effectOfChange := by decide +kernel
  have hiX3 : ∀ w ∈ u_ws RX3 TX3 4, w ∈ wsX3_effectOfChange := by decide +kernel
  subst hsz
  have hD : va_D A [(qS, .inr (3, [.ref qc, .ref qse, .ref qre, .ref qcg])), (qse, .inl (cJ, 1600, .inr (.inl se))), (qre, .inl (cZ, 100, .inl re)), (qcg, .inl (cJ, 100, .inr (.inl cg))), (qc, .inr (0, [.ref qk, .ref q0, .ref q1, .ref qo, .ref qv, .int (nI n), .int (nI ni), .int (nI no)])), (qk, .inl (cI, 100, .inl kd)), (q0, .inl (cI, 100, .inl s0)), (q1, .inl (cI, 100, .inl s1)), (qo, .inl (cI, 12, .inl on)), (qv, .inl (cJ, 1600, .inr (.inl vl)))] := by rw [hAe]; exact hD0.self
  have hA : ∀ q : Nat, s.heap.size ≤ q → A q := fun q h => by rw [hAe]; exact Or.inr h
  have hS : va_S A s.heap s.heap [] := va_S.rf
  have hl := lv_entry ([.ref qS, .int (nI net), .int (nI w)]) (n := 9) (Nat.le_of_ble_eq_true rfl)
  rw [lg_entry_eq]
  generalize (lg_sl ([.ref qS, .int (nI net), .int (nI w)]) ++ List.replicate (9 - (lg_sl ([.ref qS, .int (nI net), .int (nI w)])).length) Slot.unset).toArray = ls at hl ⊢
  have hl : lv_has ls 9 [(0, .ref qS), (1, .int (nI net)), (2, .int (nI w))] := hl
  have hnet100 : net < 100 := by omega
  refine lv_aload_n hx hb dX3_effectOfChange_0 rfl (lv_at hl 0 rfl) ?_
  refine va_get (D := D) (ci := 3) (v := .ref qc) (C := RX3) (T := TX3) (N := 4) hx hb hts hiX3 hown hK hP 0 rfl rfl 0 (by decide) (hts (.fieldLink RX3 22 "FaultSearch$Sight" "chip" "LFaultSearch$Chip;") (by decide +kernel)) (fun _ h9 => h9) rfl dX3_effectOfChange_1 ?_
  refine va_get (D := D) (ci := 0) (v := .ref qv) (C := RX0) (T := TX0) (N := 8) hx hb hts hiX0 hown hK hP 4 rfl rfl 4 (by decide) (hts (.fieldLink RX3 92 "FaultSearch$Chip" "values" "[J") (by decide +kernel)) (fun _ h9 => h9) rfl dX3_effectOfChange_4 ?_
  refine lv_iload_n hx hb dX3_effectOfChange_7 rfl (lv_at hl 2 rfl) ?_
  refine lv_bipush (v := (nI 100)) hx hb dX3_effectOfChange_8 (by decide) ?_
  refine lv_imul hx hb dX3_effectOfChange_10 ?_
  refine zz_i (z := (nI (w * 100))) (pk_mul _ _) ?_
  refine lv_aload_n hx hb dX3_effectOfChange_11 rfl (lv_at hl 0 rfl) ?_
  refine va_get (D := D) (ci := 3) (v := .ref qcg) (C := RX3) (T := TX3) (N := 4) hx hb hts hiX3 hown hK hP 0 rfl rfl 3 (by decide) (hts (.fieldLink RX3 19 "FaultSearch$Sight" "changed" "[J") (by decide +kernel)) (fun _ h9 => h9) rfl dX3_effectOfChange_12 ?_
  refine lv_iconst (v := (nI 0)) hx hb dX3_effectOfChange_15 (by decide) ?_
  refine lv_bipush (v := (nI 100)) hx hb dX3_effectOfChange_16 (by decide) ?_
  refine zz_copyl hx hb (by rw [hml]; exact hl.1.symm) hown (hts (.methodLink RX3 95 arraycopyName) (by decide +kernel)) (hts (.native arraycopyName) (by decide +kernel)) (hts (.static arraycopyName) (by decide +kernel)) (hts (.initialized "java/lang/System") (by decide +kernel)) hK hP hD hS 9 3 1 1 rfl rfl rfl rfl (sp := (w * 100)) (dp := 0) (n := 100) (by omega) (by omega) (by decide) (by decide) (Nat.le_of_ble_eq_true rfl) (Nat.le_of_ble_eq_true rfl) dX3_effectOfChange_18 (fun H locs hP hD hS => ?_)
  have hP : va_P D vwCl [(qS, .inr (3, [.ref qc, .ref qse, .ref qre, .ref qcg])), (qse, .inl (cJ, 1600, .inr (.inl se))), (qre, .inl (cZ, 100, .inl re)), (qcg, .inl (cJ, 100, .inr (.inl (va_cpy vl cg (w * 100) 0 100)))), (qc, .inr (0, [.ref qk, .ref q0, .ref q1, .ref qo, .ref qv, .int (nI n), .int (nI ni), .int (nI no)])), (qk, .inl (cI, 100, .inl kd)), (q0, .inl (cI, 100, .inl s0)), (q1, .inl (cI, 100, .inl s1)), (qo, .inl (cI, 12, .inl on)), (qv, .inl (cJ, 1600, .inr (.inl vl)))] H := hP
  have hD : va_D A [(qS, .inr (3, [.ref qc, .ref qse, .ref qre, .ref qcg])), (qse, .inl (cJ, 1600, .inr (.inl se))), (qre, .inl (cZ, 100, .inl re)), (qcg, .inl (cJ, 100, .inr (.inl (va_cpy vl cg (w * 100) 0 100)))), (qc, .inr (0, [.ref qk, .ref q0, .ref q1, .ref qo, .ref qv, .int (nI n), .int (nI ni), .int (nI no)])), (qk, .inl (cI, 100, .inl kd)), (q0, .inl (cI, 100, .inl s0)), (q1, .inl (cI, 100, .inl s1)), (qo, .inl (cI, 12, .inl on)), (qv, .inl (cJ, 1600, .inr (.inl vl)))] := hD
  refine lv_aload_n hx hb dX3_effectOfChange_21 rfl (lv_at hl 0 rfl) ?_
  refine va_get (D := D) (ci := 3) (v := .ref qcg) (C := RX3) (T := TX3) (N := 4) hx hb hts hiX3 hown hK hP 0 rfl rfl 3 (by decide) (hts (.fieldLink RX3 19 "FaultSearch$Sight" "changed" "[J") (by decide +kernel)) (fun _ h9 => h9) rfl dX3_effectOfChange_22 ?_
  refine lv_iload_n hx hb dX3_effectOfChange_25 rfl (lv_at hl 1 rfl) ?_
  refine lv_aload_n hx hb dX3_effectOfChange_26 rfl (lv_at hl 0 rfl) ?_
  refine va_get (D := D) (ci := 3) (v := .ref qcg) (C := RX3) (T := TX3) (N := 4) hx hb hts hiX3 hown hK hP 0 rfl rfl 3 (by decide) (hts (.fieldLink RX3 19 "FaultSearch$Sight" "changed" "[J") (by decide +kernel)) (fun _ h9 => h9) rfl dX3_effectOfChange_27 ?_
  refine lv_iload_n hx hb dX3_effectOfChange_30 rfl (lv_at hl 1 rfl) ?_
  refine zz_lald hx hb hK hP 3 1 rfl rfl (n := 100) (j := net) (by omega) (by decide) dX3_effectOfChange_31 ?_
  refine lv_ldc2 (v := (-1)) hx hb hown (hts (.constantLong RX3 101 (-1)) (by decide +kernel)) dX3_effectOfChange_32 ?_
  refine lv_lxor hx hb dX3_effectOfChange_35 ?_
  refine zz_last hx hb hK hP hD hS 3 1 rfl rfl (n := 100) (j := net) (by omega) (by decide) dX3_effectOfChange_36 (fun H locs hP hD hS => ?_)
  have hP : va_P D vwCl [(qS, .inr (3, [.ref qc, .ref qse, .ref qre, .ref qcg])), (qse, .inl (cJ, 1600, .inr (.inl se))), (qre, .inl (cZ, 100, .inl re)), (qcg, .inl (cJ, 100, .inr (.inl (vp_updL (va_cpy vl cg (w * 100) 0 100) net (((va_cpy vl cg (w * 100) 0 100) net) ^^^ (-1)))))), (qc, .inr (0, [.ref qk, .ref q0, .ref q1, .ref qo, .ref qv, .int (nI n), .int (nI ni), .int (nI no)])), (qk, .inl (cI, 100, .inl kd)), (q0, .inl (cI, 100, .inl s0)), (q1, .inl (cI, 100, .inl s1)), (qo, .inl (cI, 12, .inl on)), (qv, .inl (cJ, 1600, .inr (.inl vl)))] H := hP
  have hD : va_D A [(qS, .inr (3, [.ref qc, .ref qse, .ref qre, .ref qcg])), (qse, .inl (cJ, 1600, .inr (.inl se))), (qre, .inl (cZ, 100, .inl re)), (qcg, .inl (cJ, 100, .inr (.inl (vp_updL (va_cpy vl cg (w * 100) 0 100) net (((va_cpy vl cg (w * 100) 0 100) net) ^^^ (-1)))))), (qc, .inr (0, [.ref qk, .ref q0, .ref q1, .ref qo, .ref qv, .int (nI n), .int (nI ni), .int (nI no)])), (qk, .inl (cI, 100, .inl kd)), (q0, .inl (cI, 100, .inl s0)), (q1, .inl (cI, 100, .inl s1)), (qo, .inl (cI, 12, .inl on)), (qv, .inl (cJ, 1600, .inr (.inl vl)))] := hD
  refine lv_iload_n hx hb dX3_effectOfChange_37 rfl (lv_at hl 1 rfl) ?_
  refine lv_iconst (v := (nI 1)) hx hb dX3_effectOfChange_38 (by decide) ?_
  refine lv_iadd hx hb dX3_effectOfChange_39 ?_
  refine zz_i (z := (nI (net + 1))) (nI_add _ _) ?_
  refine lv_istore_n (lv' := [(3, .int (nI (net + 1))), (0, .ref qS), (1, .int (nI net)), (2, .int (nI w))]) hx hb dX3_effectOfChange_40 rfl hl (by decide) rfl (fun ls hl => ?_)
  have loop41 : ∀ (n41 : Nat) (t : Nat) (v : Nat → Int64) (ht0 : net < t) (ht1 : t ≤ n) (hv : ∀ j, j < 100 → v j = chgT kd s0 s1 vl w net t j), n - t < n41 → ∀ (H : Heap) (locs : List Loc), va_P D vwCl [(qS, .inr (3, [.ref qc, .ref qse, .ref qre, .ref qcg])), (qse, .inl (cJ, 1600, .inr (.inl se))), (qre, .inl (cZ, 100, .inl re)), (qcg, .inl (cJ, 100, .inr (.inl v))), (qc, .inr (0, [.ref qk, .ref q0, .ref q1, .ref qo, .ref qv, .int (nI n), .int (nI ni), .int (nI no)])), (qk, .inl (cI, 100, .inl kd)), (q0, .inl (cI, 100, .inl s0)), (q1, .inl (cI, 100, .inl s1)), (qo, .inl (cI, 12, .inl on)), (qv, .inl (cJ, 1600, .inr (.inl vl)))] H → va_D A [(qS, .inr (3, [.ref qc, .ref qse, .ref qre, .ref qcg])), (qse, .inl (cJ, 1600, .inr (.inl se))), (qre, .inl (cZ, 100, .inl re)), (qcg, .inl (cJ, 100, .inr (.inl v))), (qc, .inr (0, [.ref qk, .ref q0, .ref q1, .ref qo, .ref qv, .int (nI n), .int (nI ni), .int (nI no)])), (qk, .inl (cI, 100, .inl kd)), (q0, .inl (cI, 100, .inl s0)), (q1, .inl (cI, 100, .inl s1)), (qo, .inl (cI, 12, .inl on)), (qv, .inl (cJ, 1600, .inr (.inl vl)))] → va_S A s.heap H locs → ∀ (ls : Array Slot), lv_has ls 9 [(0, .ref qS), (1, .int (nI net)), (2, .int (nI w)), (3, .int (nI t))] → W p l e (headSpec wsX3_effectOfChange ({ frames := 1, cells := 0, slots := 0, locals := 60 } : Room)).room s m ([.ref qS, .int (nI net), .int (nI w)] : List Value).toArray below meth c H locs 0 0 (MQ below (va_Ql (fun (r_9 : Int64) (u9 : (Nat → Int64)) => match u9 with | cg2 => r_9 = (eff kd s0 s1 on vl n no w net)) (fun (u9 : (Nat → Int64)) t => match u9 with | cg2 => PQ D A [(qS, .inr (3, [.ref qc, .ref qse, .ref qre, .ref qcg])), (qse, .inl (cJ, 1600, .inr (.inl se))), (qre, .inl (cZ, 100, .inl re)), (qcg, .inl (cJ, 100, .inr (.inl cg2))), (qc, .inr (0, [.ref qk, .ref q0, .ref q1, .ref qo, .ref qv, .int (nI n), .int (nI ni), .int (nI no)])), (qk, .inl (cI, 100, .inl kd)), (q0, .inl (cI, 100, .inl s0)), (q1, .inl (cI, 100, .inl s1)), (qo, .inl (cI, 12, .inl on)), (qv, .inl (cJ, 1600, .inr (.inl vl)))] t) A) ([.ref qS, .int (nI net), .int (nI w)] : List Value).toArray s 0 0 A) (F0 m 41 ls []) := by
    intro n41
    induction n41 with
    | zero => intro t v ht0 ht1 hv hm; exact absurd hm (Nat.not_lt_zero _)
    | succ n41 ih41 =>
      intro t v ht0 ht1 hv hm41 H locs hP hD hS ls hl
      refine lv_iload_n hx hb dX3_effectOfChange_41 rfl (lv_at hl 3 rfl) ?_
      refine lv_aload_n hx hb dX3_effectOfChange_42 rfl (lv_at hl 0 rfl) ?_
      refine va_get (D := D) (ci := 3) (v := .ref qc) (C := RX3) (T := TX3) (N := 4) hx hb hts hiX3 hown hK hP 0 rfl rfl 0 (by decide) (hts (.fieldLink RX3 22 "FaultSearch$Sight" "chip" "LFaultSearch$Chip;") (by decide +kernel)) (fun _ h9 => h9) rfl dX3_effectOfChange_43 ?_
      refine va_get (D := D) (ci := 0) (v := .int (nI n)) (C := RX0) (T := TX0) (N := 8) hx hb hts hiX0 hown hK hP 4 rfl rfl 5 (by decide) (hts (.fieldLink RX3 103 "FaultSearch$Chip" "nets" "I") (by decide +kernel)) (fun _ h9 => h9) rfl dX3_effectOfChange_46 ?_
      refine lv_icmp_ge (tgt := 122) hx hb dX3_effectOfChange_49 (by decide) (fun c_49 => ?_) (fun c_49 => ?_)
      · skip
        rw [zc_le (by omega) (by omega)] at c_49
        refine lv_lconst (v := 0) hx hb dX3_effectOfChange_122 (by decide) ?_
        refine lv_lstore_n (lv' := [(3, .long 0), (0, .ref qS), (1, .int (nI net)), (2, .int (nI w))]) hx hb dX3_effectOfChange_123 rfl hl (by decide) rfl (fun ls hl => ?_)
        refine lv_iconst (v := (nI 0)) hx hb dX3_effectOfChange_124 (by decide) ?_
        refine lv_istore (lv' := [(5, .int (nI 0)), (3, .long 0), (0, .ref qS), (1, .int (nI net)), (2, .int (nI w))]) hx hb dX3_effectOfChange_125 hl (by decide) rfl (fun ls hl => ?_)
        have loop127 : ∀ (n127 : Nat) (o : Nat) (ac : Int64) (ho : o ≤ no) (hac : ac = effO (chgT kd s0 s1 vl w net n) vl w on o), no - o < n127 → ∀ (H : Heap) (locs : List Loc), va_P D vwCl [(qS, .inr (3, [.ref qc, .ref qse, .ref qre, .ref qcg])), (qse, .inl (cJ, 1600, .inr (.inl se))), (qre, .inl (cZ, 100, .inl re)), (qcg, .inl (cJ, 100, .inr (.inl v))), (qc, .inr (0, [.ref qk, .ref q0, .ref q1, .ref qo, .ref qv, .int (nI n), .int (nI ni), .int (nI no)])), (qk, .inl (cI, 100, .inl kd)), (q0, .inl (cI, 100, .inl s0)), (q1, .inl (cI, 100, .inl s1)), (qo, .inl (cI, 12, .inl on)), (qv, .inl (cJ, 1600, .inr (.inl vl)))] H → va_D A [(qS, .inr (3, [.ref qc, .ref qse, .ref qre, .ref qcg])), (qse, .inl (cJ, 1600, .inr (.inl se))), (qre, .inl (cZ, 100, .inl re)), (qcg, .inl (cJ, 100, .inr (.inl v))), (qc, .inr (0, [.ref qk, .ref q0, .ref q1, .ref qo, .ref qv, .int (nI n), .int (nI ni), .int (nI no)])), (qk, .inl (cI, 100, .inl kd)), (q0, .inl (cI, 100, .inl s0)), (q1, .inl (cI, 100, .inl s1)), (qo, .inl (cI, 12, .inl on)), (qv, .inl (cJ, 1600, .inr (.inl vl)))] → va_S A s.heap H locs → ∀ (ls : Array Slot), lv_has ls 9 [(0, .ref qS), (1, .int (nI net)), (2, .int (nI w)), (3, .long ac), (5, .int (nI o))] → W p l e (headSpec wsX3_effectOfChange ({ frames := 1, cells := 0, slots := 0, locals := 60 } : Room)).room s m ([.ref qS, .int (nI net), .int (nI w)] : List Value).toArray below meth c H locs 0 0 (MQ below (va_Ql (fun (r_9 : Int64) (u9 : (Nat → Int64)) => match u9 with | cg2 => r_9 = (eff kd s0 s1 on vl n no w net)) (fun (u9 : (Nat → Int64)) t => match u9 with | cg2 => PQ D A [(qS, .inr (3, [.ref qc, .ref qse, .ref qre, .ref qcg])), (qse, .inl (cJ, 1600, .inr (.inl se))), (qre, .inl (cZ, 100, .inl re)), (qcg, .inl (cJ, 100, .inr (.inl cg2))), (qc, .inr (0, [.ref qk, .ref q0, .ref q1, .ref qo, .ref qv, .int (nI n), .int (nI ni), .int (nI no)])), (qk, .inl (cI, 100, .inl kd)), (q0, .inl (cI, 100, .inl s0)), (q1, .inl (cI, 100, .inl s1)), (qo, .inl (cI, 12, .inl on)), (qv, .inl (cJ, 1600, .inr (.inl vl)))] t) A) ([.ref qS, .int (nI net), .int (nI w)] : List Value).toArray s 0 0 A) (F0 m 127 ls []) := by
          intro n127
          induction n127 with
          | zero => intro o ac ho hac hm; exact absurd hm (Nat.not_lt_zero _)
          | succ n127 ih127 =>
            intro o ac ho hac hm127 H locs hP hD hS ls hl
            refine lv_iload hx hb dX3_effectOfChange_127 (lv_at hl 4 rfl) ?_
            refine lv_aload_n hx hb dX3_effectOfChange_129 rfl (lv_at hl 0 rfl) ?_
            refine va_get (D := D) (ci := 3) (v := .ref qc) (C := RX3) (T := TX3) (N := 4) hx hb hts hiX3 hown hK hP 0 rfl rfl 0 (by decide) (hts (.fieldLink RX3 22 "FaultSearch$Sight" "chip" "LFaultSearch$Chip;") (by decide +kernel)) (fun _ h9 => h9) rfl dX3_effectOfChange_130 ?_
            refine va_get (D := D) (ci := 0) (v := .int (nI no)) (C := RX0) (T := TX0) (N := 8) hx hb hts hiX0 hown hK hP 4 rfl rfl 7 (by decide) (hts (.fieldLink RX3 107 "FaultSearch$Chip" "outputs" "I") (by decide +kernel)) (fun _ h9 => h9) rfl dX3_effectOfChange_133 ?_
            refine lv_icmp_ge (tgt := 178) hx hb dX3_effectOfChange_136 (by decide) (fun c_136 => ?_) (fun c_136 => ?_)
            · skip
              rw [zc_le (by omega) (by omega)] at c_136
              refine lv_lload_n hx hb dX3_effectOfChange_178 rfl (lv_at hl 3 rfl) ?_
              exact W.lret (v := ac) hx hb hr (fun t_9 ht_9 hW_9 => ⟨⟨ac, v, rfl, (show ac = (eff kd s0 s1 on vl n no w net) from (by rw [hac, show o = no by omega]; rfl)), ⟨by rw [ht_9]; exact hP, hD⟩⟩, hS.F ht_9⟩) hS.2.2 dX3_effectOfChange_179
            · skip
              rw [zc_le (by omega) (by omega)] at c_136
              refine lv_aload_n hx hb dX3_effectOfChange_139 rfl (lv_at hl 0 rfl) ?_
              refine va_get (D := D) (ci := 3) (v := .ref qc) (C := RX3) (T := TX3) (N := 4) hx hb hts hiX3 hown hK hP 0 rfl rfl 0 (by decide) (hts (.fieldLink RX3 22 "FaultSearch$Sight" "chip" "LFaultSearch$Chip;") (by decide +kernel)) (fun _ h9 => h9) rfl dX3_effectOfChange_140 ?_
              refine va_get (D := D) (ci := 0) (v := .ref qo) (C := RX0) (T := TX0) (N := 8) hx hb hts hiX0 hown hK hP 4 rfl rfl 3 (by decide) (hts (.fieldLink RX3 110 "FaultSearch$Chip" "outputNets" "[I") (by decide +kernel)) (fun _ h9 => h9) rfl dX3_effectOfChange_143 ?_
              refine lv_iload hx hb dX3_effectOfChange_146 (lv_at hl 4 rfl) ?_
              refine zz_iald hx hb hK hP 8 0 rfl rfl (n := 12) (j := o) (by omega) (by decide) dX3_effectOfChange_148 ?_
              refine zz_i (z := (nI (cn (on o)))) (hwo o (by omega)).1 ?_
              refine lv_istore (lv' := [(6, .int (nI (cn (on o)))), (0, .ref qS), (1, .int (nI net)), (2, .int (nI w)), (3, .long ac), (5, .int (nI o))]) hx hb dX3_effectOfChange_149 hl (by decide) rfl (fun ls hl => ?_)
              refine lv_lload_n hx hb dX3_effectOfChange_151 rfl (lv_at hl 4 rfl) ?_
              refine lv_aload_n hx hb dX3_effectOfChange_152 rfl (lv_at hl 1 rfl) ?_
              refine va_get (D := D) (ci := 3) (v := .ref qcg) (C := RX3) (T := TX3) (N := 4) hx hb hts hiX3 hown hK hP 0 rfl rfl 3 (by decide) (hts (.fieldLink RX3 19 "FaultSearch$Sight" "changed" "[J") (by decide +kernel)) (fun _ h9 => h9) rfl dX3_effectOfChange_153 ?_
              refine lv_iload hx hb dX3_effectOfChange_156 (lv_at hl 0 rfl) ?_
              refine zz_lald hx hb hK hP 3 1 rfl rfl (n := 100) (j := (cn (on o))) (by have := (hwo o (by omega)).2; omega) (by decide) dX3_effectOfChange_158 ?_
              refine lv_aload_n hx hb dX3_effectOfChange_159 rfl (lv_at hl 1 rfl) ?_
              refine va_get (D := D) (ci := 3) (v := .ref qc) (C := RX3) (T := TX3) (N := 4) hx hb hts hiX3 hown hK hP 0 rfl rfl 0 (by decide) (hts (.fieldLink RX3 22 "FaultSearch$Sight" "chip" "LFaultSearch$Chip;") (by decide +kernel)) (fun _ h9 => h9) rfl dX3_effectOfChange_160 ?_
              refine lv_iload hx hb dX3_effectOfChange_163 (lv_at hl 0 rfl) ?_
              refine lv_iload_n hx hb dX3_effectOfChange_165 rfl (lv_at hl 3 rfl) ?_
              have hPc := hP.sub (ws' := [(qc, .inr (0, [.ref qk, .ref q0, .ref q1, .ref qo, .ref qv, .int (nI n), .int (nI ni), .int (nI no)])), (qk, .inl (cI, 100, .inl kd)), (q0, .inl (cI, 100, .inl s0)), (q1, .inl (cI, 100, .inl s1)), (qo, .inl (cI, 12, .inl on)), (qv, .inl (cJ, 1600, .inr (.inl vl)))]) [4, 5, 6, 7, 8, 9] rfl
              refine vp_callSl (va_runV (As := [.int (nI (cn (on o))), .int (nI w)]) (rest := [.long (v (cn (on o))), .long ac]) ⟨hx, hb, hml, hown, hts⟩ (c_X0_wordOf l D cI cJ cZ qc qk q0 q1 qo qv kd s0 s1 on vl n ni no (cn (on o)) w (by have := (hwo o (by omega)).2; omega) hw) (cwV 2 hts gX3_effectOfChange_X0_wordOf rfl rfl rfl (by decide +kernel) ⟨Nat.le_of_ble_eq_true rfl, Nat.le_of_ble_eq_true rfl⟩) ⟨PR.blind, va_recv hK hPc (ci := 0) (q0 := 0) rfl rfl, fun U hU hW => ⟨rfl, PR.to hPc hK hNB hU hW⟩⟩ rfl rfl hl.1 rfl (lv_room (Nat.le_of_ble_eq_true rfl)) dX3_effectOfChange_166 ⟨Nat.le_of_ble_eq_true rfl, Nat.le_of_ble_eq_true rfl⟩).run (fun r_1 hrr_1 => ?_)
              subst hrr_1
              refine lv_lxor hx hb dX3_effectOfChange_169 ?_
              refine lv_lor hx hb dX3_effectOfChange_170 ?_
              refine lv_lstore_n (lv' := [(3, .long (ac ||| ((v (cn (on o))) ^^^ (vl (w * 100 + (cn (on o))))))), (6, .int (nI (cn (on o)))), (0, .ref qS), (1, .int (nI net)), (2, .int (nI w)), (5, .int (nI o))]) hx hb dX3_effectOfChange_171 rfl hl (by decide) rfl (fun ls hl => ?_)
              refine lv_iinc (v := (nI (o + 1))) (lv' := [(5, .int (nI (o + 1))), (3, .long (ac ||| ((v (cn (on o))) ^^^ (vl (w * 100 + (cn (on o))))))), (6, .int (nI (cn (on o)))), (0, .ref qS), (1, .int (nI net)), (2, .int (nI w))]) hx hb dX3_effectOfChange_172 hl (k := 5) rfl (nI_add _ 1) (by decide) rfl (fun ls hl => ?_)
              refine lv_goto (tgt := 127) hx hb dX3_effectOfChange_175 (by decide) ?_
              exact ih127 (o + 1) (ac ||| ((v (cn (on o))) ^^^ (vl (w * 100 + (cn (on o)))))) (by omega) (by rw [hac, effO, hv _ (by have := (hwo o (by omega)).2; omega), show t = n by omega]) (by omega) _ _ hP hD hS ls (lv_sub hl [3, 4, 5, 1, 0] rfl)
        exact loop127 ((no - 0) + 1) 0 0 (by omega) rfl (Nat.lt_succ_self _) _ _ hP hD hS ls (lv_sub hl [2, 3, 4, 1, 0] rfl)
      · skip
        rw [zc_le (by omega) (by omega)] at c_49
        refine lv_aload_n hx hb dX3_effectOfChange_52 rfl (lv_at hl 0 rfl) ?_
        refine va_get (D := D) (ci := 3) (v := .ref qc) (C := RX3) (T := TX3) (N := 4) hx hb hts hiX3 hown hK hP 0 rfl rfl 0 (by decide) (hts (.fieldLink RX3 22 "FaultSearch$Sight" "chip" "LFaultSearch$Chip;") (by decide +kernel)) (fun _ h9 => h9) rfl dX3_effectOfChange_53 ?_
        refine va_get (D := D) (ci := 0) (v := .ref qk) (C := RX0) (T := TX0) (N := 8) hx hb hts hiX0 hown hK hP 4 rfl rfl 0 (by decide) (hts (.fieldLink RX3 81 "FaultSearch$Chip" "kinds" "[I") (by decide +kernel)) (fun _ h9 => h9) rfl dX3_effectOfChange_56 ?_
        refine lv_iload_n hx hb dX3_effectOfChange_59 rfl (lv_at hl 3 rfl) ?_
        refine zz_iald hx hb hK hP 5 0 rfl rfl (n := 100) (j := t) (by omega) (by decide) dX3_effectOfChange_60 ?_
        refine lv_istore (lv' := [(4, .int (kd t)), (0, .ref qS), (1, .int (nI net)), (2, .int (nI w)), (3, .int (nI t))]) hx hb dX3_effectOfChange_61 hl (by decide) rfl (fun ls hl => ?_)
        refine lv_iload hx hb dX3_effectOfChange_63 (lv_at hl 0 rfl) ?_
        refine lv_iconst (v := (-1)) hx hb dX3_effectOfChange_65 (by decide) ?_
        refine lv_icmp_eq (tgt := 116) hx hb dX3_effectOfChange_66 (by decide) (fun c_66 => ?_) (fun c_66 => ?_)
        · skip
          refine lv_iinc (v := (nI (t + 1))) (lv' := [(3, .int (nI (t + 1))), (4, .int (kd t)), (0, .ref qS), (1, .int (nI net)), (2, .int (nI w))]) hx hb dX3_effectOfChange_116 hl (k := 4) rfl (nI_add _ 1) (by decide) rfl (fun ls hl => ?_)
          refine lv_goto (tgt := 41) hx hb dX3_effectOfChange_119 (by decide) ?_
          exact ih41 (t + 1) v (by omega) (by omega) (fun j hj => by rw [chgT_i c_66]; exact hv j hj) (by omega) _ _ hP hD hS ls (lv_sub hl [2, 3, 4, 0] rfl)
        · skip
          refine lv_aload_n hx hb dX3_effectOfChange_69 rfl (lv_at hl 1 rfl) ?_
          refine va_get (D := D) (ci := 3) (v := .ref qcg) (C := RX3) (T := TX3) (N := 4) hx hb hts hiX3 hown hK hP 0 rfl rfl 3 (by decide) (hts (.fieldLink RX3 19 "FaultSearch$Sight" "changed" "[J") (by decide +kernel)) (fun _ h9 => h9) rfl dX3_effectOfChange_70 ?_
          refine lv_aload_n hx hb dX3_effectOfChange_73 rfl (lv_at hl 1 rfl) ?_
          refine va_get (D := D) (ci := 3) (v := .ref qc) (C := RX3) (T := TX3) (N := 4) hx hb hts hiX3 hown hK hP 0 rfl rfl 0 (by decide) (hts (.fieldLink RX3 22 "FaultSearch$Sight" "chip" "LFaultSearch$Chip;") (by decide +kernel)) (fun _ h9 => h9) rfl dX3_effectOfChange_74 ?_
          refine lv_iload_n hx hb dX3_effectOfChange_77 rfl (lv_at hl 4 rfl) ?_
          refine lv_iconst (v := (nI 0)) hx hb dX3_effectOfChange_78 (by decide) ?_
          have hPc := hP.sub (ws' := [(qc, .inr (0, [.ref qk, .ref q0, .ref q1, .ref qo, .ref qv, .int (nI n), .int (nI ni), .int (nI no)])), (qk, .inl (cI, 100, .inl kd)), (q0, .inl (cI, 100, .inl s0)), (q1, .inl (cI, 100, .inl s1)), (qo, .inl (cI, 12, .inl on)), (qv, .inl (cJ, 1600, .inr (.inl vl)))]) [4, 5, 6, 7, 8, 9] rfl
          refine vp_callSi (va_runV (As := [.int (nI t), .int (nI 0)]) (rest := [.ref qcg]) ⟨hx, hb, hml, hown, hts⟩ (c_X0_source l D cI cJ cZ qc qk q0 q1 qo qv kd s0 s1 on vl n ni no t 0 (by omega) (by omega)) (cwV 2 hts gX3_effectOfChange_X0_source rfl rfl rfl (by decide +kernel) ⟨Nat.le_of_ble_eq_true rfl, Nat.le_of_ble_eq_true rfl⟩) ⟨PR.blind, va_recv hK hPc (ci := 0) (q0 := 0) rfl rfl, fun U hU hW => ⟨rfl, PR.to hPc hK hNB hU hW⟩⟩ rfl rfl hl.1 rfl (lv_room (Nat.le_of_ble_eq_true rfl)) dX3_effectOfChange_79 ⟨Nat.le_of_ble_eq_true rfl, Nat.le_of_ble_eq_true rfl⟩).run (fun r_2 hrr_2 => ?_)
          subst hrr_2
          refine zz_i (z := (nI (cn (srcF s0 s1 t 0)))) (hwf.src (by omega) c_66).1 ?_
          refine zz_lald hx hb hK hP 3 1 rfl rfl (n := 100) (j := (cn (srcF s0 s1 t 0))) (by have := (hwf.src (pn := 0) (show t < n by omega) c_66).2; omega) (by decide) dX3_effectOfChange_82 ?_
          refine lv_lstore (lv' := [(5, .long (v (cn (srcF s0 s1 t 0)))), (4, .int (kd t)), (0, .ref qS), (1, .int (nI net)), (2, .int (nI w)), (3, .int (nI t))]) hx hb dX3_effectOfChange_83 hl (by decide) rfl (fun ls hl => ?_)
          refine lv_aload_n hx hb dX3_effectOfChange_85 rfl (lv_at hl 2 rfl) ?_
          refine va_get (D := D) (ci := 3) (v := .ref qcg) (C := RX3) (T := TX3) (N := 4) hx hb hts hiX3 hown hK hP 0 rfl rfl 3 (by decide) (hts (.fieldLink RX3 19 "FaultSearch$Sight" "changed" "[J") (by decide +kernel)) (fun _ h9 => h9) rfl dX3_effectOfChange_86 ?_
          refine lv_aload_n hx hb dX3_effectOfChange_89 rfl (lv_at hl 2 rfl) ?_
          refine va_get (D := D) (ci := 3) (v := .ref qc) (C := RX3) (T := TX3) (N := 4) hx hb hts hiX3 hown hK hP 0 rfl rfl 0 (by decide) (hts (.fieldLink RX3 22 "FaultSearch$Sight" "chip" "LFaultSearch$Chip;") (by decide +kernel)) (fun _ h9 => h9) rfl dX3_effectOfChange_90 ?_
          refine lv_iload_n hx hb dX3_effectOfChange_93 rfl (lv_at hl 5 rfl) ?_
          refine lv_iconst (v := (nI 1)) hx hb dX3_effectOfChange_94 (by decide) ?_
          have hPc := hP.sub (ws' := [(qc, .inr (0, [.ref qk, .ref q0, .ref q1, .ref qo, .ref qv, .int (nI n), .int (nI ni), .int (nI no)])), (qk, .inl (cI, 100, .inl kd)), (q0, .inl (cI, 100, .inl s0)), (q1, .inl (cI, 100, .inl s1)), (qo, .inl (cI, 12, .inl on)), (qv, .inl (cJ, 1600, .inr (.inl vl)))]) [4, 5, 6, 7, 8, 9] rfl
          refine vp_callSi (va_runV (As := [.int (nI t), .int (nI 1)]) (rest := [.ref qcg]) ⟨hx, hb, hml, hown, hts⟩ (c_X0_source l D cI cJ cZ qc qk q0 q1 qo qv kd s0 s1 on vl n ni no t 1 (by omega) (by omega)) (cwV 2 hts gX3_effectOfChange_X0_source rfl rfl rfl (by decide +kernel) ⟨Nat.le_of_ble_eq_true rfl, Nat.le_of_ble_eq_true rfl⟩) ⟨PR.blind, va_recv hK hPc (ci := 0) (q0 := 0) rfl rfl, fun U hU hW => ⟨rfl, PR.to hPc hK hNB hU hW⟩⟩ rfl rfl hl.1 rfl (lv_room (Nat.le_of_ble_eq_true rfl)) dX3_effectOfChange_95 ⟨Nat.le_of_ble_eq_true rfl, Nat.le_of_ble_eq_true rfl⟩).run (fun r_3 hrr_3 => ?_)
          subst hrr_3
          refine zz_i (z := (nI (cn (srcF s0 s1 t 1)))) (hwf.src (by omega) c_66).1 ?_
          refine zz_lald hx hb hK hP 3 1 rfl rfl (n := 100) (j := (cn (srcF s0 s1 t 1))) (by have := (hwf.src (pn := 1) (show t < n by omega) c_66).2; omega) (by decide) dX3_effectOfChange_98 ?_
          refine lv_lstore (lv' := [(7, .long (v (cn (srcF s0 s1 t 1)))), (5, .long (v (cn (srcF s0 s1 t 0)))), (4, .int (kd t)), (0, .ref qS), (1, .int (nI net)), (2, .int (nI w)), (3, .int (nI t))]) hx hb dX3_effectOfChange_99 hl (by decide) rfl (fun ls hl => ?_)
          refine lv_aload_n hx hb dX3_effectOfChange_101 rfl (lv_at hl 3 rfl) ?_
          refine va_get (D := D) (ci := 3) (v := .ref qcg) (C := RX3) (T := TX3) (N := 4) hx hb hts hiX3 hown hK hP 0 rfl rfl 3 (by decide) (hts (.fieldLink RX3 19 "FaultSearch$Sight" "changed" "[J") (by decide +kernel)) (fun _ h9 => h9) rfl dX3_effectOfChange_102 ?_
          refine lv_iload_n hx hb dX3_effectOfChange_105 rfl (lv_at hl 6 rfl) ?_
          refine lv_iload hx hb dX3_effectOfChange_106 (lv_at hl 2 rfl) ?_
          refine lv_lload hx hb dX3_effectOfChange_108 (lv_at hl 1 rfl) ?_
          refine lv_lload hx hb dX3_effectOfChange_110 (lv_at hl 0 rfl) ?_
          refine vp_callSl (va_runSN (As := [.int (kd t), .long (v (cn (srcF s0 s1 t 0))), .long (v (cn (srcF s0 s1 t 1)))]) (rest := [.int (nI t), .ref qcg]) ⟨hx, hb, hml, hown, hts⟩ (c_X4_gateWord l (kd t) (v (cn (srcF s0 s1 t 0))) (v (cn (srcF s0 s1 t 1)))) ⟨(va_cnB 3 hts gX3_effectOfChange_X4_gateWord_n85 rfl rfl rfl hNB.2.2.2.2.2.2.2.2.2.2.2.1 (hts (.initialized RX4) (by decide +kernel)) (by decide +kernel) ⟨Nat.le_of_ble_eq_true rfl, Nat.le_of_ble_eq_true rfl⟩), hts (.static yX4_gateWord) (by decide +kernel), trivial⟩ ⟨zt_blind, fun U hU hW => ⟨rfl, trivial⟩⟩ rfl rfl hl.1 rfl (lv_room (Nat.le_of_ble_eq_true rfl)) dX3_effectOfChange_112 ⟨Nat.le_of_ble_eq_true rfl, Nat.le_of_ble_eq_true rfl⟩).run (fun r_4 hrr_4 => ?_)
          subst hrr_4
          refine zz_last hx hb hK hP hD hS 3 1 rfl rfl (n := 100) (j := t) (by omega) (by decide) dX3_effectOfChange_115 (fun H locs hP hD hS => ?_)
          have hP : va_P D vwCl [(qS, .inr (3, [.ref qc, .ref qse, .ref qre, .ref qcg])), (qse, .inl (cJ, 1600, .inr (.inl se))), (qre, .inl (cZ, 100, .inl re)), (qcg, .inl (cJ, 100, .inr (.inl (vp_updL v t (gw (kd t) (v (cn (srcF s0 s1 t 0))) (v (cn (srcF s0 s1 t 1)))))))), (qc, .inr (0, [.ref qk, .ref q0, .ref q1, .ref qo, .ref qv, .int (nI n), .int (nI ni), .int (nI no)])), (qk, .inl (cI, 100, .inl kd)), (q0, .inl (cI, 100, .inl s0)), (q1, .inl (cI, 100, .inl s1)), (qo, .inl (cI, 12, .inl on)), (qv, .inl (cJ, 1600, .inr (.inl vl)))] H := hP
          have hD : va_D A [(qS, .inr (3, [.ref qc, .ref qse, .ref qre, .ref qcg])), (qse, .inl (cJ, 1600, .inr (.inl se))), (qre, .inl (cZ, 100, .inl re)), (qcg, .inl (cJ, 100, .inr (.inl (vp_updL v t (gw (kd t) (v (cn (srcF s0 s1 t 0))) (v (cn (srcF s0 s1 t 1)))))))), (qc, .inr (0, [.ref qk, .ref q0, .ref q1, .ref qo, .ref qv, .int (nI n), .int (nI ni), .int (nI no)])), (qk, .inl (cI, 100, .inl kd)), (q0, .inl (cI, 100, .inl s0)), (q1, .inl (cI, 100, .inl s1)), (qo, .inl (cI, 12, .inl on)), (qv, .inl (cJ, 1600, .inr (.inl vl)))] := hD
          refine lv_iinc (v := (nI (t + 1))) (lv' := [(3, .int (nI (t + 1))), (7, .long (v (cn (srcF s0 s1 t 1)))), (5, .long (v (cn (srcF s0 s1 t 0)))), (4, .int (kd t)), (0, .ref qS), (1, .int (nI net)), (2, .int (nI w))]) hx hb dX3_effectOfChange_116 hl (k := 6) rfl (nI_add _ 1) (by decide) rfl (fun ls hl => ?_)
          refine lv_goto (tgt := 41) hx hb dX3_effectOfChange_119 (by decide) ?_
          exact ih41 (t + 1) (vp_updL v t (gw (kd t) (v (cn (srcF s0 s1 t 0))) (v (cn (srcF s0 s1 t 1))))) (by omega) (by omega) (chg_next (n := n) hwf hn ht0 (by omega) c_66 hv) (by omega) _ _ hP hD hS ls (lv_sub hl [4, 5, 6, 0] rfl)
  exact loop41 ((n - (net + 1)) + 1) (net + 1) (vp_updL (va_cpy vl cg (w * 100) 0 100) net (((va_cpy vl cg (w * 100) 0 100) net) ^^^ (-1))) (by omega) (by omega) (fun j hj => by rw [chgT_0 _ (Nat.le_refl _)]; exact chg_cpy hj hnet100) (Nat.lt_succ_self _) _ _ hP hD hS ls (lv_sub hl [1, 2, 3, 0] rfl)

set_option maxHeartbeats 4000000 in
set_option maxRecDepth 100000 in
theorem c_X3_prepare (l : Launch) (D : va_G) (cI cJ cZ : ClassId) (qc : Nat) (qk : Nat) (q0 : Nat) (q1 : Nat) (qo : Nat) (qv : Nat) (kd : Nat → Int32) (s0 : Nat → Int32) (s1 : Nat → Int32) (on : Nat → Int32) (vl : Nat → Int64) (n : Nat) (ni : Nat) (no : Nat) (qS : Nat) (qse : Nat) (qre : Nat) (qcg : Nat) (se : Nat → Int64) (re : Nat → Int32) (cg : Nat → Int64) (net : Nat) (sz : Nat) (A : Nat → Prop) (hAe : A = va_A [(qS, .inr (3, [.ref qc, .ref qse, .ref qre, .ref qcg])), (qse, .inl (cJ, 1600, .inr (.inl se))), (qre, .inl (cZ, 100, .inl re)), (qcg, .inl (cJ, 100, .inr (.inl cg))), (qc, .inr (0, [.ref qk, .ref q0, .ref q1, .ref qo, .ref qv, .int (nI n), .int (nI ni), .int (nI no)])), (qk, .inl (cI, 100, .inl kd)), (q0, .inl (cI, 100, .inl s0)), (q1, .inl (cI, 100, .inl s1)), (qo, .inl (cI, 12, .inl on)), (qv, .inl (cJ, 1600, .inr (.inl vl)))] sz) (hn : n ≤ 100) (hno : no ≤ 12) (hwf : WF n kd s0 s1) (hwo : WO n no on) (hni : ni ≤ 10) (hnet : net < n) : Met l yX3_prepare wsX3_prepare ({ frames := 2, cells := 0, slots := 0, locals := 88 } : Room) (va_Pc [.ref qS, .int (nI net)] (PW D cI cJ cZ [(qS, .inr (3, [.ref qc, .ref qse, .ref qre, .ref qcg])), (qse, .inl (cJ, 1600, .inr (.inl se))), (qre, .inl (cZ, 100, .inl re)), (qcg, .inl (cJ, 100, .inr (.inl cg))), (qc, .inr (0, [.ref qk, .ref q0, .ref q1, .ref qo, .ref qv, .int (nI n), .int (nI ni), .int (nI no)])), (qk, .inl (cI, 100, .inl kd)), (q0, .inl (cI, 100, .inl s0)), (q1, .inl (cI, 100, .inl s1)), (qo, .inl (cI, 12, .inl on)), (qv, .inl (cJ, 1600, .inr (.inl vl)))] sz)) (va_Qv (fun u9 : (Nat → Int64) => match u9 with | cg2 => True) (fun (u9 : (Nat → Int64)) t => match u9 with | cg2 => PQ D A [(qS, .inr (3, [.ref qc, .ref qse, .ref qre, .ref qcg])), (qse, .inl (cJ, 1600, .inr (.inl (prepF kd s0 s1 on vl n no net se (wordsN ni))))), (qre, .inl (cZ, 100, .inl (upd re net (nI 1)))), (qcg, .inl (cJ, 100, .inr (.inl cg2))), (qc, .inr (0, [.ref qk, .ref q0, .ref q1, .ref qo, .ref qv, .int (nI n), .int (nI ni), .int (nI no)])), (qk, .inl (cI, 100, .inl kd)), (q0, .inl (cI, 100, .inl s0)), (q1, .inl (cI, 100, .inl s1)), (qo, .inl (cI, 12, .inl on)), (qv, .inl (cJ, 1600, .inr (.inl vl)))] t) A) 0 0 A := by
  refine Met.ofW (cc := cX3_prepare) (maxL := 3) (ret := none) (by decide) rfl ?_
  intro p e s m args below meth c s₁ B hml hv
  obtain ⟨rfl, hsz, ⟨hP, hK, hNB⟩, hD0⟩ := hv
  have hx := B.exec
  have hb := B.bytes
  have hr := B.returns
  have hts := atoms_spec (ws := wsX3_prepare) B.pre
  have hown : s.vm.findClass RX3 = some m.cls := findClass_of_methodNamed B.named
  have hlocks := B.notSynchronized
  have hiX3 : ∀ w ∈ u_ws RX3 TX3 4, w ∈ wsX3_prepare := by decide +kernel
  subst hsz
  have hD : va_D A [(qS, .inr (3, [.ref qc, .ref qse, .ref qre, .ref qcg])), (qse, .inl (cJ, 1600, .inr (.inl se))), (qre, .inl (cZ, 100, .inl re)), (qcg, .inl (cJ, 100, .inr (.inl cg))), (qc, .inr (0, [.ref qk, .ref q0, .ref q1, .ref qo, .ref qv, .int (nI n), .int (nI ni), .int (nI no)])), (qk, .inl (cI, 100, .inl kd)), (q0, .inl (cI, 100, .inl s0)), (q1, .inl (cI, 100, .inl s1)), (qo, .inl (cI, 12, .inl on)), (qv, .inl (cJ, 1600, .inr (.inl vl)))] := by rw [hAe]; exact hD0.self
  have hA : ∀ q : Nat, s.heap.size ≤ q → A q := fun q h => by rw [hAe]; exact Or.inr h
  have hS : va_S A s.heap s.heap [] := va_S.rf
  have hl := lv_entry ([.ref qS, .int (nI net)]) (n := 3) (Nat.le_of_ble_eq_true rfl)
  rw [lg_entry_eq]
  generalize (lg_sl ([.ref qS, .int (nI net)]) ++ List.replicate (3 - (lg_sl ([.ref qS, .int (nI net)])).length) Slot.unset).toArray = ls at hl ⊢
  have hl : lv_has ls 3 [(0, .ref qS), (1, .int (nI net))] := hl
  have hw16 := wordsN_le hni
  refine lv_iconst (v := (nI 0)) hx hb dX3_prepare_0 (by decide) ?_
  refine lv_istore_n (lv' := [(2, .int (nI 0)), (0, .ref qS), (1, .int (nI net))]) hx hb dX3_prepare_1 rfl hl (by decide) rfl (fun ls hl => ?_)
  have loop2 : ∀ (n2 : Nat) (i : Nat) (v : Nat → Int64) (g1 : Nat → Int64) (hi : i ≤ wordsN ni) (hv : v = prepF kd s0 s1 on vl n no net se i), wordsN ni - i < n2 → ∀ (H : Heap) (locs : List Loc), va_P D vwCl [(qS, .inr (3, [.ref qc, .ref qse, .ref qre, .ref qcg])), (qse, .inl (cJ, 1600, .inr (.inl v))), (qre, .inl (cZ, 100, .inl re)), (qcg, .inl (cJ, 100, .inr (.inl g1))), (qc, .inr (0, [.ref qk, .ref q0, .ref q1, .ref qo, .ref qv, .int (nI n), .int (nI ni), .int (nI no)])), (qk, .inl (cI, 100, .inl kd)), (q0, .inl (cI, 100, .inl s0)), (q1, .inl (cI, 100, .inl s1)), (qo, .inl (cI, 12, .inl on)), (qv, .inl (cJ, 1600, .inr (.inl vl)))] H → va_D A [(qS, .inr (3, [.ref qc, .ref qse, .ref qre, .ref qcg])), (qse, .inl (cJ, 1600, .inr (.inl v))), (qre, .inl (cZ, 100, .inl re)), (qcg, .inl (cJ, 100, .inr (.inl g1))), (qc, .inr (0, [.ref qk, .ref q0, .ref q1, .ref qo, .ref qv, .int (nI n), .int (nI ni), .int (nI no)])), (qk, .inl (cI, 100, .inl kd)), (q0, .inl (cI, 100, .inl s0)), (q1, .inl (cI, 100, .inl s1)), (qo, .inl (cI, 12, .inl on)), (qv, .inl (cJ, 1600, .inr (.inl vl)))] → va_S A s.heap H locs → ∀ (ls : Array Slot), lv_has ls 3 [(0, .ref qS), (1, .int (nI net)), (2, .int (nI i))] → W p l e (headSpec wsX3_prepare ({ frames := 2, cells := 0, slots := 0, locals := 88 } : Room)).room s m ([.ref qS, .int (nI net)] : List Value).toArray below meth c H locs 0 0 (MQ below (va_Qv (fun u9 : (Nat → Int64) => match u9 with | cg2 => True) (fun (u9 : (Nat → Int64)) t => match u9 with | cg2 => PQ D A [(qS, .inr (3, [.ref qc, .ref qse, .ref qre, .ref qcg])), (qse, .inl (cJ, 1600, .inr (.inl (prepF kd s0 s1 on vl n no net se (wordsN ni))))), (qre, .inl (cZ, 100, .inl (upd re net (nI 1)))), (qcg, .inl (cJ, 100, .inr (.inl cg2))), (qc, .inr (0, [.ref qk, .ref q0, .ref q1, .ref qo, .ref qv, .int (nI n), .int (nI ni), .int (nI no)])), (qk, .inl (cI, 100, .inl kd)), (q0, .inl (cI, 100, .inl s0)), (q1, .inl (cI, 100, .inl s1)), (qo, .inl (cI, 12, .inl on)), (qv, .inl (cJ, 1600, .inr (.inl vl)))] t) A) ([.ref qS, .int (nI net)] : List Value).toArray s 0 0 A) (F0 m 2 ls []) := by
    intro n2
    induction n2 with
    | zero => intro i v g1 hi hv hm; exact absurd hm (Nat.not_lt_zero _)
    | succ n2 ih2 =>
      intro i v g1 hi hv hm2 H locs hP hD hS ls hl
      refine lv_iload_n hx hb dX3_prepare_2 rfl (lv_at hl 2 rfl) ?_
      refine lv_aload_n hx hb dX3_prepare_3 rfl (lv_at hl 0 rfl) ?_
      refine va_get (D := D) (ci := 3) (v := .ref qc) (C := RX3) (T := TX3) (N := 4) hx hb hts hiX3 hown hK hP 0 rfl rfl 0 (by decide) (hts (.fieldLink RX3 22 "FaultSearch$Sight" "chip" "LFaultSearch$Chip;") (by decide +kernel)) (fun _ h9 => h9) rfl dX3_prepare_4 ?_
      have hPc := hP.sub (ws' := [(qc, .inr (0, [.ref qk, .ref q0, .ref q1, .ref qo, .ref qv, .int (nI n), .int (nI ni), .int (nI no)])), (qk, .inl (cI, 100, .inl kd)), (q0, .inl (cI, 100, .inl s0)), (q1, .inl (cI, 100, .inl s1)), (qo, .inl (cI, 12, .inl on)), (qv, .inl (cJ, 1600, .inr (.inl vl)))]) [4, 5, 6, 7, 8, 9] rfl
      refine vp_callSi (va_runV (As := []) (rest := [.int (nI i)]) ⟨hx, hb, hml, hown, hts⟩ (c_X0_words l D cI cJ cZ qc qk q0 q1 qo qv kd s0 s1 on vl n ni no (by omega)) (cwV 0 hts gX3_prepare_X0_words rfl rfl rfl (by decide +kernel) ⟨Nat.le_of_ble_eq_true rfl, Nat.le_of_ble_eq_true rfl⟩) ⟨PR.blind, va_recv hK hPc (ci := 0) (q0 := 0) rfl rfl, fun U hU hW => ⟨rfl, PR.to hPc hK hNB hU hW⟩⟩ rfl rfl hl.1 rfl (lv_room (Nat.le_of_ble_eq_true rfl)) dX3_prepare_7 ⟨Nat.le_of_ble_eq_true rfl, Nat.le_of_ble_eq_true rfl⟩).run (fun r_1 hrr_1 => ?_)
      subst hrr_1
      refine lv_icmp_ge (tgt := 36) hx hb dX3_prepare_10 (by decide) (fun c_10 => ?_) (fun c_10 => ?_)
      · skip
        rw [zc_le (by omega) (by omega)] at c_10
        refine lv_aload_n hx hb dX3_prepare_36 rfl (lv_at hl 0 rfl) ?_
        refine va_get (D := D) (ci := 3) (v := .ref qre) (C := RX3) (T := TX3) (N := 4) hx hb hts hiX3 hown hK hP 0 rfl rfl 2 (by decide) (hts (.fieldLink RX3 15 "FaultSearch$Sight" "ready" "[Z") (by decide +kernel)) (fun _ h9 => h9) rfl dX3_prepare_37 ?_
        refine lv_iload_n hx hb dX3_prepare_40 rfl (lv_at hl 1 rfl) ?_
        refine lv_iconst (v := (nI 1)) hx hb dX3_prepare_41 (by decide) ?_
        refine zz_zast hx hb hK hP hD hS 2 2 rfl rfl (by decide) (n := 100) (j := net) (by omega) (by decide) dX3_prepare_42 (fun H locs hP hD hS => ?_)
        have hP : va_P D vwCl [(qS, .inr (3, [.ref qc, .ref qse, .ref qre, .ref qcg])), (qse, .inl (cJ, 1600, .inr (.inl v))), (qre, .inl (cZ, 100, .inl (upd re net (nI 1)))), (qcg, .inl (cJ, 100, .inr (.inl g1))), (qc, .inr (0, [.ref qk, .ref q0, .ref q1, .ref qo, .ref qv, .int (nI n), .int (nI ni), .int (nI no)])), (qk, .inl (cI, 100, .inl kd)), (q0, .inl (cI, 100, .inl s0)), (q1, .inl (cI, 100, .inl s1)), (qo, .inl (cI, 12, .inl on)), (qv, .inl (cJ, 1600, .inr (.inl vl)))] H := hP
        have hD : va_D A [(qS, .inr (3, [.ref qc, .ref qse, .ref qre, .ref qcg])), (qse, .inl (cJ, 1600, .inr (.inl v))), (qre, .inl (cZ, 100, .inl (upd re net (nI 1)))), (qcg, .inl (cJ, 100, .inr (.inl g1))), (qc, .inr (0, [.ref qk, .ref q0, .ref q1, .ref qo, .ref qv, .int (nI n), .int (nI ni), .int (nI no)])), (qk, .inl (cI, 100, .inl kd)), (q0, .inl (cI, 100, .inl s0)), (q1, .inl (cI, 100, .inl s1)), (qo, .inl (cI, 12, .inl on)), (qv, .inl (cJ, 1600, .inr (.inl vl)))] := hD
        obtain rfl : i = wordsN ni := by omega
        subst hv
        exact W.vret hx hb hr (fun t_9 ht_9 hW_9 => ⟨⟨g1, rfl, trivial, ⟨by rw [ht_9]; exact hP, hD⟩⟩, hS.F ht_9⟩) hS.2.2 dX3_prepare_43
      · skip
        rw [zc_le (by omega) (by omega)] at c_10
        refine lv_aload_n hx hb dX3_prepare_13 rfl (lv_at hl 0 rfl) ?_
        refine va_get (D := D) (ci := 3) (v := .ref qse) (C := RX3) (T := TX3) (N := 4) hx hb hts hiX3 hown hK hP 0 rfl rfl 1 (by decide) (hts (.fieldLink RX3 9 "FaultSearch$Sight" "seen" "[J") (by decide +kernel)) (fun _ h9 => h9) rfl dX3_prepare_14 ?_
        refine lv_iload_n hx hb dX3_prepare_17 rfl (lv_at hl 2 rfl) ?_
        refine lv_bipush (v := (nI 100)) hx hb dX3_prepare_18 (by decide) ?_
        refine lv_imul hx hb dX3_prepare_20 ?_
        refine zz_i (z := (nI (i * 100))) (pk_mul _ _) ?_
        refine lv_iload_n hx hb dX3_prepare_21 rfl (lv_at hl 1 rfl) ?_
        refine lv_iadd hx hb dX3_prepare_22 ?_
        refine zz_i (z := (nI ((i * 100) + net))) (nI_add _ _) ?_
        refine lv_aload_n hx hb dX3_prepare_23 rfl (lv_at hl 0 rfl) ?_
        refine lv_iload_n hx hb dX3_prepare_24 rfl (lv_at hl 1 rfl) ?_
        refine lv_iload_n hx hb dX3_prepare_25 rfl (lv_at hl 2 rfl) ?_
        have hPc := hP.sub (ws' := [(qS, .inr (3, [.ref qc, .ref qse, .ref qre, .ref qcg])), (qse, .inl (cJ, 1600, .inr (.inl v))), (qre, .inl (cZ, 100, .inl re)), (qcg, .inl (cJ, 100, .inr (.inl g1))), (qc, .inr (0, [.ref qk, .ref q0, .ref q1, .ref qo, .ref qv, .int (nI n), .int (nI ni), .int (nI no)])), (qk, .inl (cI, 100, .inl kd)), (q0, .inl (cI, 100, .inl s0)), (q1, .inl (cI, 100, .inl s1)), (qo, .inl (cI, 12, .inl on)), (qv, .inl (cJ, 1600, .inr (.inl vl)))]) [0, 1, 2, 3, 4, 5, 6, 7, 8, 9] rfl
        have hDc := hD.sub (ws' := [(qS, .inr (3, [.ref qc, .ref qse, .ref qre, .ref qcg])), (qse, .inl (cJ, 1600, .inr (.inl v))), (qre, .inl (cZ, 100, .inl re)), (qcg, .inl (cJ, 100, .inr (.inl g1))), (qc, .inr (0, [.ref qk, .ref q0, .ref q1, .ref qo, .ref qv, .int (nI n), .int (nI ni), .int (nI no)])), (qk, .inl (cI, 100, .inl kd)), (q0, .inl (cI, 100, .inl s0)), (q1, .inl (cI, 100, .inl s1)), (qo, .inl (cI, 12, .inl on)), (qv, .inl (cJ, 1600, .inr (.inl vl)))]) [0, 1, 2, 3, 4, 5, 6, 7, 8, 9] (by decide) rfl
        have hFc := va_free (wc := [(qS, .inr (3, [.ref qc, .ref qse, .ref qre, .ref qcg])), (qse, .inl (cJ, 1600, .inr (.inl v))), (qre, .inl (cZ, 100, .inl re)), (qcg, .inl (cJ, 100, .inr (.inl g1))), (qc, .inr (0, [.ref qk, .ref q0, .ref q1, .ref qo, .ref qv, .int (nI n), .int (nI ni), .int (nI no)])), (qk, .inl (cI, 100, .inl kd)), (q0, .inl (cI, 100, .inl s0)), (q1, .inl (cI, 100, .inl s1)), (qo, .inl (cI, 12, .inl on)), (qv, .inl (cJ, 1600, .inr (.inl vl)))]) hD hS hA [0, 1, 2, 3, 4, 5, 6, 7, 8, 9] rfl
        refine va_calll (va_runV (As := [.int (nI net), .int (nI i)]) (rest := [.int (nI ((i * 100) + net)), .ref qse]) ⟨hx, hb, hml, hown, hts⟩ (c_X3_effectOfChange l D cI cJ cZ qc qk q0 q1 qo qv kd s0 s1 on vl n ni no qS qse qre qcg v re g1 net i H.size _ rfl (by omega) (by omega) hwf hwo (by omega) (by omega)) (cwV 2 hts gX3_prepare_X3_effectOfChange rfl rfl rfl (by decide +kernel) ⟨Nat.le_of_ble_eq_true rfl, Nat.le_of_ble_eq_true rfl⟩) ⟨PW.blind, va_recv hK hPc (ci := 3) (q0 := 0) rfl rfl, fun U hU hW => ⟨rfl, PW.to hPc hK hNB hDc hU hW⟩⟩ rfl rfl hl.1 rfl (lv_room (Nat.le_of_ble_eq_true rfl)) dX3_prepare_26 ⟨Nat.le_of_ble_eq_true rfl, Nat.le_of_ble_eq_true rfl⟩) hS (fun q _ h => hFc q h) hFc (fun r_2 u_9 t_9 H1_9 locs ht_9 hvm_9 hw_9 hB_9 hz1_9 hk1_9 hS => ?_)
        obtain ⟨cg2_3, rfl⟩ : ∃ z, z = u_9 := ⟨_, rfl⟩
        obtain ⟨hP1_9, hD1_9⟩ := hB_9
        rw [ht_9] at hP1_9
        obtain rfl := hw_9
        obtain ⟨hP, hD⟩ := va_join (wr := []) (w1 := [(qS, .inr (3, [.ref qc, .ref qse, .ref qre, .ref qcg])), (qse, .inl (cJ, 1600, .inr (.inl v))), (qre, .inl (cZ, 100, .inl re)), (qcg, .inl (cJ, 100, .inr (.inl cg2_3))), (qc, .inr (0, [.ref qk, .ref q0, .ref q1, .ref qo, .ref qv, .int (nI n), .int (nI ni), .int (nI no)])), (qk, .inl (cI, 100, .inl kd)), (q0, .inl (cI, 100, .inl s0)), (q1, .inl (cI, 100, .inl s1)), (qo, .inl (cI, 12, .inl on)), (qv, .inl (cJ, 1600, .inr (.inl vl)))]) hP hD [0, 1, 2, 3, 4, 5, 6, 7, 8, 9] [] rfl rfl (by decide) (by decide) hk1_9 hFc hP1_9 hD1_9
        generalize H1_9 = H at hP hS ⊢
        have hP : va_P D vwCl [(qS, .inr (3, [.ref qc, .ref qse, .ref qre, .ref qcg])), (qse, .inl (cJ, 1600, .inr (.inl v))), (qre, .inl (cZ, 100, .inl re)), (qcg, .inl (cJ, 100, .inr (.inl cg2_3))), (qc, .inr (0, [.ref qk, .ref q0, .ref q1, .ref qo, .ref qv, .int (nI n), .int (nI ni), .int (nI no)])), (qk, .inl (cI, 100, .inl kd)), (q0, .inl (cI, 100, .inl s0)), (q1, .inl (cI, 100, .inl s1)), (qo, .inl (cI, 12, .inl on)), (qv, .inl (cJ, 1600, .inr (.inl vl)))] H := hP
        have hD : va_D A [(qS, .inr (3, [.ref qc, .ref qse, .ref qre, .ref qcg])), (qse, .inl (cJ, 1600, .inr (.inl v))), (qre, .inl (cZ, 100, .inl re)), (qcg, .inl (cJ, 100, .inr (.inl cg2_3))), (qc, .inr (0, [.ref qk, .ref q0, .ref q1, .ref qo, .ref qv, .int (nI n), .int (nI ni), .int (nI no)])), (qk, .inl (cI, 100, .inl kd)), (q0, .inl (cI, 100, .inl s0)), (q1, .inl (cI, 100, .inl s1)), (qo, .inl (cI, 12, .inl on)), (qv, .inl (cJ, 1600, .inr (.inl vl)))] := hD
        refine zz_last hx hb hK hP hD hS 1 1 rfl rfl (n := 1600) (j := ((i * 100) + net)) (by omega) (by decide) dX3_prepare_29 (fun H locs hP hD hS => ?_)
        have hP : va_P D vwCl [(qS, .inr (3, [.ref qc, .ref qse, .ref qre, .ref qcg])), (qse, .inl (cJ, 1600, .inr (.inl (vp_updL v ((i * 100) + net) (eff kd s0 s1 on vl n no i net))))), (qre, .inl (cZ, 100, .inl re)), (qcg, .inl (cJ, 100, .inr (.inl cg2_3))), (qc, .inr (0, [.ref qk, .ref q0, .ref q1, .ref qo, .ref qv, .int (nI n), .int (nI ni), .int (nI no)])), (qk, .inl (cI, 100, .inl kd)), (q0, .inl (cI, 100, .inl s0)), (q1, .inl (cI, 100, .inl s1)), (qo, .inl (cI, 12, .inl on)), (qv, .inl (cJ, 1600, .inr (.inl vl)))] H := hP
        have hD : va_D A [(qS, .inr (3, [.ref qc, .ref qse, .ref qre, .ref qcg])), (qse, .inl (cJ, 1600, .inr (.inl (vp_updL v ((i * 100) + net) (eff kd s0 s1 on vl n no i net))))), (qre, .inl (cZ, 100, .inl re)), (qcg, .inl (cJ, 100, .inr (.inl cg2_3))), (qc, .inr (0, [.ref qk, .ref q0, .ref q1, .ref qo, .ref qv, .int (nI n), .int (nI ni), .int (nI no)])), (qk, .inl (cI, 100, .inl kd)), (q0, .inl (cI, 100, .inl s0)), (q1, .inl (cI, 100, .inl s1)), (qo, .inl (cI, 12, .inl on)), (qv, .inl (cJ, 1600, .inr (.inl vl)))] := hD
        refine lv_iinc (v := (nI (i + 1))) (lv' := [(2, .int (nI (i + 1))), (0, .ref qS), (1, .int (nI net))]) hx hb dX3_prepare_30 hl (k := 2) rfl (nI_add _ 1) (by decide) rfl (fun ls hl => ?_)
        refine lv_goto (tgt := 2) hx hb dX3_prepare_33 (by decide) ?_
        exact ih2 (i + 1) (vp_updL v ((i * 100) + net) (eff kd s0 s1 on vl n no i net)) cg2_3 (by omega) (by rw [hv]; rfl) (by omega) _ _ hP hD hS ls (lv_sub hl [1, 2, 0] rfl)
  exact loop2 ((wordsN ni - 0) + 1) 0 se cg (Nat.zero_le _) rfl (Nat.lt_succ_self _) _ _ hP hD hS ls (lv_sub hl [1, 2, 0] rfl)

set_option maxHeartbeats 4000000 in
set_option maxRecDepth 100000 in
theorem c_X3_faultyWord (l : Launch) (D : va_G) (cI cJ cZ : ClassId) (qc : Nat) (qk : Nat) (q0 : Nat) (q1 : Nat) (qo : Nat) (qv : Nat) (kd : Nat → Int32) (s0 : Nat → Int32) (s1 : Nat → Int32) (on : Nat → Int32) (vl : Nat → Int64) (n : Nat) (ni : Nat) (no : Nat) (qS : Nat) (qse : Nat) (qre : Nat) (qcg : Nat) (se : Nat → Int64) (re : Nat → Int32) (cg : Nat → Int64) (f : Nat) (w : Nat) (hn : n ≤ 100) (hno : no ≤ 12) (hwf : WF n kd s0 s1) (hwo : WO n no on) (hnet : f / 6 < n) (hw : w < 16) (hline : f % 6 / 2 = 0 ∨ ¬ kd (f / 6) = (-1)) : Met l yX3_faultyWord wsX3_faultyWord ({ frames := 1, cells := 0, slots := 0, locals := 24 } : Room) (va_Pc [.ref qS, .int (nI f), .int (nI w)] (PR D cI cJ cZ [(qS, .inr (3, [.ref qc, .ref qse, .ref qre, .ref qcg])), (qse, .inl (cJ, 1600, .inr (.inl se))), (qre, .inl (cZ, 100, .inl re)), (qcg, .inl (cJ, 100, .inr (.inl cg))), (qc, .inr (0, [.ref qk, .ref q0, .ref q1, .ref qo, .ref qv, .int (nI n), .int (nI ni), .int (nI no)])), (qk, .inl (cI, 100, .inl kd)), (q0, .inl (cI, 100, .inl s0)), (q1, .inl (cI, 100, .inl s1)), (qo, .inl (cI, 12, .inl on)), (qv, .inl (cJ, 1600, .inr (.inl vl)))])) (vp_Sl (fun r_9 : Int64 => r_9 = (fwF kd s0 s1 vl f w))) 0 0 (fun _ => False) := by
  refine Met.ofW (cc := cX3_faultyWord) (maxL := 11) (ret := (some .long)) (by decide) rfl ?_
  intro p e s m args below meth c s₁ B hml hv
  obtain ⟨rfl, hP, hK, hNB⟩ := hv
  have hx := B.exec
  have hb := B.bytes
  have hr := B.returns
  have hts := atoms_spec (ws := wsX3_faultyWord) B.pre
  have hown : s.vm.findClass RX3 = some m.cls := findClass_of_methodNamed B.named
  have hlocks := B.notSynchronized
  have hiX0 : ∀ w ∈ u_ws RX0 TX0 8, w ∈ wsX3_faultyWord := by decide +kernel
  have hiX3 : ∀ w ∈ u_ws RX3 TX3 4, w ∈ wsX3_faultyWord := by decide +kernel
  have hl := lv_entry ([.ref qS, .int (nI f), .int (nI w)]) (n := 11) (Nat.le_of_ble_eq_true rfl)
  rw [lg_entry_eq]
  generalize (lg_sl ([.ref qS, .int (nI f), .int (nI w)]) ++ List.replicate (11 - (lg_sl ([.ref qS, .int (nI f), .int (nI w)])).length) Slot.unset).toArray = ls at hl ⊢
  have hl : lv_has ls 11 [(0, .ref qS), (1, .int (nI f)), (2, .int (nI w))] := hl
  refine lv_iload_n hx hb dX3_faultyWord_0 rfl (lv_at hl 1 rfl) ?_
  refine vp_callSi (va_runSN (As := [.int (nI f)]) (rest := []) ⟨hx, hb, hml, hown, hts⟩ (c_X4_netOf l f (by omega)) ⟨(va_cnB 1 hts gX3_faultyWord_X4_netOf_n49 rfl rfl rfl hNB.2.2.2.2.2.2.2.1 (hts (.initialized RX4) (by decide +kernel)) (by decide +kernel) ⟨Nat.le_of_ble_eq_true rfl, Nat.le_of_ble_eq_true rfl⟩), hts (.static yX4_netOf) (by decide +kernel), trivial⟩ ⟨zt_blind, fun U hU hW => ⟨rfl, trivial⟩⟩ rfl rfl hl.1 rfl (lv_room (Nat.le_of_ble_eq_true rfl)) dX3_faultyWord_1 ⟨Nat.le_of_ble_eq_true rfl, Nat.le_of_ble_eq_true rfl⟩).run (fun r_1 hrr_1 => ?_)
  subst hrr_1
  refine lv_istore_n (lv' := [(3, .int (nI (f / 6))), (0, .ref qS), (1, .int (nI f)), (2, .int (nI w))]) hx hb dX3_faultyWord_4 rfl hl (by decide) rfl (fun ls hl => ?_)
  refine lv_iload_n hx hb dX3_faultyWord_5 rfl (lv_at hl 2 rfl) ?_
  refine vp_callSi (va_runSN (As := [.int (nI f)]) (rest := []) ⟨hx, hb, hml, hown, hts⟩ (c_X4_pinOf l f (by omega)) ⟨(va_cnB 1 hts gX3_faultyWord_X4_pinOf_n67 rfl rfl rfl hNB.2.2.2.2.2.2.2.2.1 (hts (.initialized RX4) (by decide +kernel)) (by decide +kernel) ⟨Nat.le_of_ble_eq_true rfl, Nat.le_of_ble_eq_true rfl⟩), hts (.static yX4_pinOf) (by decide +kernel), trivial⟩ ⟨zt_blind, fun U hU hW => ⟨rfl, trivial⟩⟩ rfl rfl hl.1 rfl (lv_room (Nat.le_of_ble_eq_true rfl)) dX3_faultyWord_6 ⟨Nat.le_of_ble_eq_true rfl, Nat.le_of_ble_eq_true rfl⟩).run (fun r_2 hrr_2 => ?_)
  subst hrr_2
  rcases (show f % 6 / 2 = 0 ∨ f % 6 / 2 = 1 ∨ f % 6 / 2 = 2 by omega) with hq | hq | hq
  · skip
    refine zz_i (z := (-1)) (by rw [hq]; rfl) ?_
    have hgt : f % 6 / 2 = 0 ∨ ¬ kd (f / 6) = (-1) := hline
    refine lv_istore (lv' := [(4, .int (-1)), (3, .int (nI (f / 6))), (0, .ref qS), (1, .int (nI f)), (2, .int (nI w))]) hx hb dX3_faultyWord_9 hl (by decide) rfl (fun ls hl => ?_)
    refine lv_iload_n hx hb dX3_faultyWord_11 rfl (lv_at hl 3 rfl) ?_
    refine vp_callSi (va_runSN (As := [.int (nI f)]) (rest := []) ⟨hx, hb, hml, hown, hts⟩ (c_X4_stuckOf l f (by omega)) ⟨(va_cnB 1 hts gX3_faultyWord_X4_stuckOf_n70 rfl rfl rfl hNB.2.2.2.2.2.2.2.2.2.1 (hts (.initialized RX4) (by decide +kernel)) (by decide +kernel) ⟨Nat.le_of_ble_eq_true rfl, Nat.le_of_ble_eq_true rfl⟩), hts (.static yX4_stuckOf) (by decide +kernel), trivial⟩ ⟨zt_blind, fun U hU hW => ⟨rfl, trivial⟩⟩ rfl rfl hl.1 rfl (lv_room (Nat.le_of_ble_eq_true rfl)) dX3_faultyWord_12 ⟨Nat.le_of_ble_eq_true rfl, Nat.le_of_ble_eq_true rfl⟩).run (fun r_3 hrr_3 => ?_)
    subst hrr_3
    refine vp_callSl (va_runSN (As := [.int (nI (f % 2))]) (rest := []) ⟨hx, hb, hml, hown, hts⟩ (c_X4_allOf l (nI (f % 2))) ⟨(va_cnB 1 hts gX3_faultyWord_X4_allOf_n73 rfl rfl rfl hNB.2.2.2.2.2.2.2.2.2.2.1 (hts (.initialized RX4) (by decide +kernel)) (by decide +kernel) ⟨Nat.le_of_ble_eq_true rfl, Nat.le_of_ble_eq_true rfl⟩), hts (.static yX4_allOf) (by decide +kernel), trivial⟩ ⟨zt_blind, fun U hU hW => ⟨rfl, trivial⟩⟩ rfl rfl hl.1 rfl (lv_room (Nat.le_of_ble_eq_true rfl)) dX3_faultyWord_15 ⟨Nat.le_of_ble_eq_true rfl, Nat.le_of_ble_eq_true rfl⟩).run (fun r_4 hrr_4 => ?_)
    subst hrr_4
    refine lv_lstore (lv' := [(5, .long (allW (nI (f % 2)))), (4, .int (-1)), (3, .int (nI (f / 6))), (0, .ref qS), (1, .int (nI f)), (2, .int (nI w))]) hx hb dX3_faultyWord_18 hl (by decide) rfl (fun ls hl => ?_)
    refine lv_iload hx hb dX3_faultyWord_20 (lv_at hl 1 rfl) ?_
    refine lv_iconst (v := (-1)) hx hb dX3_faultyWord_22 (by decide) ?_
    refine lv_icmp_ne (tgt := 29) hx hb dX3_faultyWord_23 (by decide) (fun c_23 => ?_) (fun c_23 => ?_)
    · skip
      exact absurd c_23 (by decide)
    · skip
      refine lv_lload hx hb dX3_faultyWord_26 (lv_at hl 0 rfl) ?_
      exact W.lret (v := (allW (nI (f % 2)))) hx hb hr (fun t_9 ht_9 hW_9 => ⟨(allW (nI (f % 2))), rfl, (by unfold fwF; rw [hq]; rfl), ht_9⟩) (fun q h => nomatch h) dX3_faultyWord_28
  · skip
    refine zz_i (z := (nI 0)) (by rw [hq]; rfl) ?_
    have hgt : f % 6 / 2 = 0 ∨ ¬ kd (f / 6) = (-1) := hline
    have hgt : ¬ kd (f / 6) = (-1) := hline.resolve_left (by omega)
    refine lv_istore (lv' := [(4, .int (nI 0)), (3, .int (nI (f / 6))), (0, .ref qS), (1, .int (nI f)), (2, .int (nI w))]) hx hb dX3_faultyWord_9 hl (by decide) rfl (fun ls hl => ?_)
    refine lv_iload_n hx hb dX3_faultyWord_11 rfl (lv_at hl 3 rfl) ?_
    refine vp_callSi (va_runSN (As := [.int (nI f)]) (rest := []) ⟨hx, hb, hml, hown, hts⟩ (c_X4_stuckOf l f (by omega)) ⟨(va_cnB 1 hts gX3_faultyWord_X4_stuckOf_n70 rfl rfl rfl hNB.2.2.2.2.2.2.2.2.2.1 (hts (.initialized RX4) (by decide +kernel)) (by decide +kernel) ⟨Nat.le_of_ble_eq_true rfl, Nat.le_of_ble_eq_true rfl⟩), hts (.static yX4_stuckOf) (by decide +kernel), trivial⟩ ⟨zt_blind, fun U hU hW => ⟨rfl, trivial⟩⟩ rfl rfl hl.1 rfl (lv_room (Nat.le_of_ble_eq_true rfl)) dX3_faultyWord_12 ⟨Nat.le_of_ble_eq_true rfl, Nat.le_of_ble_eq_true rfl⟩).run (fun r_5 hrr_5 => ?_)
    subst hrr_5
    refine vp_callSl (va_runSN (As := [.int (nI (f % 2))]) (rest := []) ⟨hx, hb, hml, hown, hts⟩ (c_X4_allOf l (nI (f % 2))) ⟨(va_cnB 1 hts gX3_faultyWord_X4_allOf_n73 rfl rfl rfl hNB.2.2.2.2.2.2.2.2.2.2.1 (hts (.initialized RX4) (by decide +kernel)) (by decide +kernel) ⟨Nat.le_of_ble_eq_true rfl, Nat.le_of_ble_eq_true rfl⟩), hts (.static yX4_allOf) (by decide +kernel), trivial⟩ ⟨zt_blind, fun U hU hW => ⟨rfl, trivial⟩⟩ rfl rfl hl.1 rfl (lv_room (Nat.le_of_ble_eq_true rfl)) dX3_faultyWord_15 ⟨Nat.le_of_ble_eq_true rfl, Nat.le_of_ble_eq_true rfl⟩).run (fun r_6 hrr_6 => ?_)
    subst hrr_6
    refine lv_lstore (lv' := [(5, .long (allW (nI (f % 2)))), (4, .int (nI 0)), (3, .int (nI (f / 6))), (0, .ref qS), (1, .int (nI f)), (2, .int (nI w))]) hx hb dX3_faultyWord_18 hl (by decide) rfl (fun ls hl => ?_)
    refine lv_iload hx hb dX3_faultyWord_20 (lv_at hl 1 rfl) ?_
    refine lv_iconst (v := (-1)) hx hb dX3_faultyWord_22 (by decide) ?_
    refine lv_icmp_ne (tgt := 29) hx hb dX3_faultyWord_23 (by decide) (fun c_23 => ?_) (fun c_23 => ?_)
    · skip
      refine lv_iload hx hb dX3_faultyWord_29 (lv_at hl 1 rfl) ?_
      refine lv_if_ne (tgt := 39) hx hb dX3_faultyWord_31 (by decide) (fun c_31 => ?_) (fun c_31 => ?_)
      · skip
        exact absurd c_31 (by decide)
      · skip
        refine lv_lload hx hb dX3_faultyWord_34 (lv_at hl 0 rfl) ?_
        refine lv_goto (tgt := 56) hx hb dX3_faultyWord_36 (by decide) ?_
        refine lv_lstore (lv' := [(7, .long (allW (nI (f % 2)))), (5, .long (allW (nI (f % 2)))), (4, .int (nI 0)), (3, .int (nI (f / 6))), (0, .ref qS), (1, .int (nI f)), (2, .int (nI w))]) hx hb dX3_faultyWord_56 hl (by decide) rfl (fun ls hl => ?_)
        refine lv_iload hx hb dX3_faultyWord_58 (lv_at hl 2 rfl) ?_
        refine lv_iconst (v := (nI 1)) hx hb dX3_faultyWord_60 (by decide) ?_
        refine lv_icmp_ne (tgt := 69) hx hb dX3_faultyWord_61 (by decide) (fun c_61 => ?_) (fun c_61 => ?_)
        · skip
          refine lv_aload_n hx hb dX3_faultyWord_69 rfl (lv_at hl 4 rfl) ?_
          refine va_get (D := D) (ci := 3) (v := .ref qc) (C := RX3) (T := TX3) (N := 4) hx hb hts hiX3 hown hK hP 0 rfl rfl 0 (by decide) (hts (.fieldLink RX3 22 "FaultSearch$Sight" "chip" "LFaultSearch$Chip;") (by decide +kernel)) (fun _ h9 => h9) rfl dX3_faultyWord_70 ?_
          refine lv_aload_n hx hb dX3_faultyWord_73 rfl (lv_at hl 4 rfl) ?_
          refine va_get (D := D) (ci := 3) (v := .ref qc) (C := RX3) (T := TX3) (N := 4) hx hb hts hiX3 hown hK hP 0 rfl rfl 0 (by decide) (hts (.fieldLink RX3 22 "FaultSearch$Sight" "chip" "LFaultSearch$Chip;") (by decide +kernel)) (fun _ h9 => h9) rfl dX3_faultyWord_74 ?_
          refine lv_iload_n hx hb dX3_faultyWord_77 rfl (lv_at hl 3 rfl) ?_
          refine lv_iconst (v := (nI 1)) hx hb dX3_faultyWord_78 (by decide) ?_
          have hPc := hP.sub (ws' := [(qc, .inr (0, [.ref qk, .ref q0, .ref q1, .ref qo, .ref qv, .int (nI n), .int (nI ni), .int (nI no)])), (qk, .inl (cI, 100, .inl kd)), (q0, .inl (cI, 100, .inl s0)), (q1, .inl (cI, 100, .inl s1)), (qo, .inl (cI, 12, .inl on)), (qv, .inl (cJ, 1600, .inr (.inl vl)))]) [4, 5, 6, 7, 8, 9] rfl
          refine vp_callSi (va_runV (As := [.int (nI (f / 6)), .int (nI 1)]) (rest := [.ref qc]) ⟨hx, hb, hml, hown, hts⟩ (c_X0_source l D cI cJ cZ qc qk q0 q1 qo qv kd s0 s1 on vl n ni no (f / 6) 1 (by omega) (by omega)) (cwV 2 hts gX3_faultyWord_X0_source rfl rfl rfl (by decide +kernel) ⟨Nat.le_of_ble_eq_true rfl, Nat.le_of_ble_eq_true rfl⟩) ⟨PR.blind, va_recv hK hPc (ci := 0) (q0 := 0) rfl rfl, fun U hU hW => ⟨rfl, PR.to hPc hK hNB hU hW⟩⟩ rfl rfl hl.1 rfl (lv_room (Nat.le_of_ble_eq_true rfl)) dX3_faultyWord_79 ⟨Nat.le_of_ble_eq_true rfl, Nat.le_of_ble_eq_true rfl⟩).run (fun r_7 hrr_7 => ?_)
          subst hrr_7
          refine zz_i (z := (nI (cn (srcF s0 s1 (f / 6) 1)))) (hwf.src hnet hgt).1 ?_
          refine lv_iload_n hx hb dX3_faultyWord_82 rfl (lv_at hl 6 rfl) ?_
          have hPc := hP.sub (ws' := [(qc, .inr (0, [.ref qk, .ref q0, .ref q1, .ref qo, .ref qv, .int (nI n), .int (nI ni), .int (nI no)])), (qk, .inl (cI, 100, .inl kd)), (q0, .inl (cI, 100, .inl s0)), (q1, .inl (cI, 100, .inl s1)), (qo, .inl (cI, 12, .inl on)), (qv, .inl (cJ, 1600, .inr (.inl vl)))]) [4, 5, 6, 7, 8, 9] rfl
          refine vp_callSl (va_runV (As := [.int (nI (cn (srcF s0 s1 (f / 6) 1))), .int (nI w)]) (rest := []) ⟨hx, hb, hml, hown, hts⟩ (c_X0_wordOf l D cI cJ cZ qc qk q0 q1 qo qv kd s0 s1 on vl n ni no (cn (srcF s0 s1 (f / 6) 1)) w (by have := (hwf.src (pn := 1) hnet hgt).2; omega) hw) (cwV 2 hts gX3_faultyWord_X0_wordOf rfl rfl rfl (by decide +kernel) ⟨Nat.le_of_ble_eq_true rfl, Nat.le_of_ble_eq_true rfl⟩) ⟨PR.blind, va_recv hK hPc (ci := 0) (q0 := 0) rfl rfl, fun U hU hW => ⟨rfl, PR.to hPc hK hNB hU hW⟩⟩ rfl rfl hl.1 rfl (lv_room (Nat.le_of_ble_eq_true rfl)) dX3_faultyWord_83 ⟨Nat.le_of_ble_eq_true rfl, Nat.le_of_ble_eq_true rfl⟩).run (fun r_8 hrr_8 => ?_)
          subst hrr_8
          refine lv_lstore (lv' := [(9, .long (vl (w * 100 + (cn (srcF s0 s1 (f / 6) 1))))), (7, .long (allW (nI (f % 2)))), (5, .long (allW (nI (f % 2)))), (4, .int (nI 0)), (3, .int (nI (f / 6))), (0, .ref qS), (1, .int (nI f)), (2, .int (nI w))]) hx hb dX3_faultyWord_86 hl (by decide) rfl (fun ls hl => ?_)
          refine lv_aload_n hx hb dX3_faultyWord_88 rfl (lv_at hl 5 rfl) ?_
          refine va_get (D := D) (ci := 3) (v := .ref qc) (C := RX3) (T := TX3) (N := 4) hx hb hts hiX3 hown hK hP 0 rfl rfl 0 (by decide) (hts (.fieldLink RX3 22 "FaultSearch$Sight" "chip" "LFaultSearch$Chip;") (by decide +kernel)) (fun _ h9 => h9) rfl dX3_faultyWord_89 ?_
          refine va_get (D := D) (ci := 0) (v := .ref qk) (C := RX0) (T := TX0) (N := 8) hx hb hts hiX0 hown hK hP 4 rfl rfl 0 (by decide) (hts (.fieldLink RX3 81 "FaultSearch$Chip" "kinds" "[I") (by decide +kernel)) (fun _ h9 => h9) rfl dX3_faultyWord_92 ?_
          refine lv_iload_n hx hb dX3_faultyWord_95 rfl (lv_at hl 4 rfl) ?_
          refine zz_iald hx hb hK hP 5 0 rfl rfl (n := 100) (j := (f / 6)) (by omega) (by decide) dX3_faultyWord_96 ?_
          refine lv_lload hx hb dX3_faultyWord_97 (lv_at hl 1 rfl) ?_
          refine lv_lload hx hb dX3_faultyWord_99 (lv_at hl 0 rfl) ?_
          refine vp_callSl (va_runSN (As := [.int (kd (f / 6)), .long (allW (nI (f % 2))), .long (vl (w * 100 + (cn (srcF s0 s1 (f / 6) 1))))]) (rest := []) ⟨hx, hb, hml, hown, hts⟩ (c_X4_gateWord l (kd (f / 6)) (allW (nI (f % 2))) (vl (w * 100 + (cn (srcF s0 s1 (f / 6) 1))))) ⟨(va_cnB 3 hts gX3_faultyWord_X4_gateWord_n85 rfl rfl rfl hNB.2.2.2.2.2.2.2.2.2.2.2.1 (hts (.initialized RX4) (by decide +kernel)) (by decide +kernel) ⟨Nat.le_of_ble_eq_true rfl, Nat.le_of_ble_eq_true rfl⟩), hts (.static yX4_gateWord) (by decide +kernel), trivial⟩ ⟨zt_blind, fun U hU hW => ⟨rfl, trivial⟩⟩ rfl rfl hl.1 rfl (lv_room (Nat.le_of_ble_eq_true rfl)) dX3_faultyWord_101 ⟨Nat.le_of_ble_eq_true rfl, Nat.le_of_ble_eq_true rfl⟩).run (fun r_9 hrr_9 => ?_)
          subst hrr_9
          exact W.lret (v := (gw (kd (f / 6)) (allW (nI (f % 2))) (vl (w * 100 + (cn (srcF s0 s1 (f / 6) 1)))))) hx hb hr (fun t_9 ht_9 hW_9 => ⟨(gw (kd (f / 6)) (allW (nI (f % 2))) (vl (w * 100 + (cn (srcF s0 s1 (f / 6) 1))))), rfl, (by unfold fwF; rw [hq]; rfl), ht_9⟩) (fun q h => nomatch h) dX3_faultyWord_104
        · skip
          exact absurd c_61 (by decide)
    · skip
      exact absurd c_23 (by decide)
  · skip
    refine zz_i (z := (nI 1)) (by rw [hq]; rfl) ?_
    have hgt : f % 6 / 2 = 0 ∨ ¬ kd (f / 6) = (-1) := hline
    have hgt : ¬ kd (f / 6) = (-1) := hline.resolve_left (by omega)
    refine lv_istore (lv' := [(4, .int (nI 1)), (3, .int (nI (f / 6))), (0, .ref qS), (1, .int (nI f)), (2, .int (nI w))]) hx hb dX3_faultyWord_9 hl (by decide) rfl (fun ls hl => ?_)
    refine lv_iload_n hx hb dX3_faultyWord_11 rfl (lv_at hl 3 rfl) ?_
    refine vp_callSi (va_runSN (As := [.int (nI f)]) (rest := []) ⟨hx, hb, hml, hown, hts⟩ (c_X4_stuckOf l f (by omega)) ⟨(va_cnB 1 hts gX3_faultyWord_X4_stuckOf_n70 rfl rfl rfl hNB.2.2.2.2.2.2.2.2.2.1 (hts (.initialized RX4) (by decide +kernel)) (by decide +kernel) ⟨Nat.le_of_ble_eq_true rfl, Nat.le_of_ble_eq_true rfl⟩), hts (.static yX4_stuckOf) (by decide +kernel), trivial⟩ ⟨zt_blind, fun U hU hW => ⟨rfl, trivial⟩⟩ rfl rfl hl.1 rfl (lv_room (Nat.le_of_ble_eq_true rfl)) dX3_faultyWord_12 ⟨Nat.le_of_ble_eq_true rfl, Nat.le_of_ble_eq_true rfl⟩).run (fun r_10 hrr_10 => ?_)
    subst hrr_10
    refine vp_callSl (va_runSN (As := [.int (nI (f % 2))]) (rest := []) ⟨hx, hb, hml, hown, hts⟩ (c_X4_allOf l (nI (f % 2))) ⟨(va_cnB 1 hts gX3_faultyWord_X4_allOf_n73 rfl rfl rfl hNB.2.2.2.2.2.2.2.2.2.2.1 (hts (.initialized RX4) (by decide +kernel)) (by decide +kernel) ⟨Nat.le_of_ble_eq_true rfl, Nat.le_of_ble_eq_true rfl⟩), hts (.static yX4_allOf) (by decide +kernel), trivial⟩ ⟨zt_blind, fun U hU hW => ⟨rfl, trivial⟩⟩ rfl rfl hl.1 rfl (lv_room (Nat.le_of_ble_eq_true rfl)) dX3_faultyWord_15 ⟨Nat.le_of_ble_eq_true rfl, Nat.le_of_ble_eq_true rfl⟩).run (fun r_11 hrr_11 => ?_)
    subst hrr_11
    refine lv_lstore (lv' := [(5, .long (allW (nI (f % 2)))), (4, .int (nI 1)), (3, .int (nI (f / 6))), (0, .ref qS), (1, .int (nI f)), (2, .int (nI w))]) hx hb dX3_faultyWord_18 hl (by decide) rfl (fun ls hl => ?_)
    refine lv_iload hx hb dX3_faultyWord_20 (lv_at hl 1 rfl) ?_
    refine lv_iconst (v := (-1)) hx hb dX3_faultyWord_22 (by decide) ?_
    refine lv_icmp_ne (tgt := 29) hx hb dX3_faultyWord_23 (by decide) (fun c_23 => ?_) (fun c_23 => ?_)
    · skip
      refine lv_iload hx hb dX3_faultyWord_29 (lv_at hl 1 rfl) ?_
      refine lv_if_ne (tgt := 39) hx hb dX3_faultyWord_31 (by decide) (fun c_31 => ?_) (fun c_31 => ?_)
      · skip
        refine lv_aload_n hx hb dX3_faultyWord_39 rfl (lv_at hl 3 rfl) ?_
        refine va_get (D := D) (ci := 3) (v := .ref qc) (C := RX3) (T := TX3) (N := 4) hx hb hts hiX3 hown hK hP 0 rfl rfl 0 (by decide) (hts (.fieldLink RX3 22 "FaultSearch$Sight" "chip" "LFaultSearch$Chip;") (by decide +kernel)) (fun _ h9 => h9) rfl dX3_faultyWord_40 ?_
        refine lv_aload_n hx hb dX3_faultyWord_43 rfl (lv_at hl 3 rfl) ?_
        refine va_get (D := D) (ci := 3) (v := .ref qc) (C := RX3) (T := TX3) (N := 4) hx hb hts hiX3 hown hK hP 0 rfl rfl 0 (by decide) (hts (.fieldLink RX3 22 "FaultSearch$Sight" "chip" "LFaultSearch$Chip;") (by decide +kernel)) (fun _ h9 => h9) rfl dX3_faultyWord_44 ?_
        refine lv_iload_n hx hb dX3_faultyWord_47 rfl (lv_at hl 2 rfl) ?_
        refine lv_iconst (v := (nI 0)) hx hb dX3_faultyWord_48 (by decide) ?_
        have hPc := hP.sub (ws' := [(qc, .inr (0, [.ref qk, .ref q0, .ref q1, .ref qo, .ref qv, .int (nI n), .int (nI ni), .int (nI no)])), (qk, .inl (cI, 100, .inl kd)), (q0, .inl (cI, 100, .inl s0)), (q1, .inl (cI, 100, .inl s1)), (qo, .inl (cI, 12, .inl on)), (qv, .inl (cJ, 1600, .inr (.inl vl)))]) [4, 5, 6, 7, 8, 9] rfl
        refine vp_callSi (va_runV (As := [.int (nI (f / 6)), .int (nI 0)]) (rest := [.ref qc]) ⟨hx, hb, hml, hown, hts⟩ (c_X0_source l D cI cJ cZ qc qk q0 q1 qo qv kd s0 s1 on vl n ni no (f / 6) 0 (by omega) (by omega)) (cwV 2 hts gX3_faultyWord_X0_source rfl rfl rfl (by decide +kernel) ⟨Nat.le_of_ble_eq_true rfl, Nat.le_of_ble_eq_true rfl⟩) ⟨PR.blind, va_recv hK hPc (ci := 0) (q0 := 0) rfl rfl, fun U hU hW => ⟨rfl, PR.to hPc hK hNB hU hW⟩⟩ rfl rfl hl.1 rfl (lv_room (Nat.le_of_ble_eq_true rfl)) dX3_faultyWord_49 ⟨Nat.le_of_ble_eq_true rfl, Nat.le_of_ble_eq_true rfl⟩).run (fun r_12 hrr_12 => ?_)
        subst hrr_12
        refine zz_i (z := (nI (cn (srcF s0 s1 (f / 6) 0)))) (hwf.src hnet hgt).1 ?_
        refine lv_iload_n hx hb dX3_faultyWord_52 rfl (lv_at hl 5 rfl) ?_
        have hPc := hP.sub (ws' := [(qc, .inr (0, [.ref qk, .ref q0, .ref q1, .ref qo, .ref qv, .int (nI n), .int (nI ni), .int (nI no)])), (qk, .inl (cI, 100, .inl kd)), (q0, .inl (cI, 100, .inl s0)), (q1, .inl (cI, 100, .inl s1)), (qo, .inl (cI, 12, .inl on)), (qv, .inl (cJ, 1600, .inr (.inl vl)))]) [4, 5, 6, 7, 8, 9] rfl
        refine vp_callSl (va_runV (As := [.int (nI (cn (srcF s0 s1 (f / 6) 0))), .int (nI w)]) (rest := []) ⟨hx, hb, hml, hown, hts⟩ (c_X0_wordOf l D cI cJ cZ qc qk q0 q1 qo qv kd s0 s1 on vl n ni no (cn (srcF s0 s1 (f / 6) 0)) w (by have := (hwf.src (pn := 0) hnet hgt).2; omega) hw) (cwV 2 hts gX3_faultyWord_X0_wordOf rfl rfl rfl (by decide +kernel) ⟨Nat.le_of_ble_eq_true rfl, Nat.le_of_ble_eq_true rfl⟩) ⟨PR.blind, va_recv hK hPc (ci := 0) (q0 := 0) rfl rfl, fun U hU hW => ⟨rfl, PR.to hPc hK hNB hU hW⟩⟩ rfl rfl hl.1 rfl (lv_room (Nat.le_of_ble_eq_true rfl)) dX3_faultyWord_53 ⟨Nat.le_of_ble_eq_true rfl, Nat.le_of_ble_eq_true rfl⟩).run (fun r_13 hrr_13 => ?_)
        subst hrr_13
        refine lv_lstore (lv' := [(7, .long (vl (w * 100 + (cn (srcF s0 s1 (f / 6) 0))))), (5, .long (allW (nI (f % 2)))), (4, .int (nI 1)), (3, .int (nI (f / 6))), (0, .ref qS), (1, .int (nI f)), (2, .int (nI w))]) hx hb dX3_faultyWord_56 hl (by decide) rfl (fun ls hl => ?_)
        refine lv_iload hx hb dX3_faultyWord_58 (lv_at hl 2 rfl) ?_
        refine lv_iconst (v := (nI 1)) hx hb dX3_faultyWord_60 (by decide) ?_
        refine lv_icmp_ne (tgt := 69) hx hb dX3_faultyWord_61 (by decide) (fun c_61 => ?_) (fun c_61 => ?_)
        · skip
          exact absurd c_61 (by decide)
        · skip
          refine lv_lload hx hb dX3_faultyWord_64 (lv_at hl 1 rfl) ?_
          refine lv_goto (tgt := 86) hx hb dX3_faultyWord_66 (by decide) ?_
          refine lv_lstore (lv' := [(9, .long (allW (nI (f % 2)))), (7, .long (vl (w * 100 + (cn (srcF s0 s1 (f / 6) 0))))), (5, .long (allW (nI (f % 2)))), (4, .int (nI 1)), (3, .int (nI (f / 6))), (0, .ref qS), (1, .int (nI f)), (2, .int (nI w))]) hx hb dX3_faultyWord_86 hl (by decide) rfl (fun ls hl => ?_)
          refine lv_aload_n hx hb dX3_faultyWord_88 rfl (lv_at hl 5 rfl) ?_
          refine va_get (D := D) (ci := 3) (v := .ref qc) (C := RX3) (T := TX3) (N := 4) hx hb hts hiX3 hown hK hP 0 rfl rfl 0 (by decide) (hts (.fieldLink RX3 22 "FaultSearch$Sight" "chip" "LFaultSearch$Chip;") (by decide +kernel)) (fun _ h9 => h9) rfl dX3_faultyWord_89 ?_
          refine va_get (D := D) (ci := 0) (v := .ref qk) (C := RX0) (T := TX0) (N := 8) hx hb hts hiX0 hown hK hP 4 rfl rfl 0 (by decide) (hts (.fieldLink RX3 81 "FaultSearch$Chip" "kinds" "[I") (by decide +kernel)) (fun _ h9 => h9) rfl dX3_faultyWord_92 ?_
          refine lv_iload_n hx hb dX3_faultyWord_95 rfl (lv_at hl 4 rfl) ?_
          refine zz_iald hx hb hK hP 5 0 rfl rfl (n := 100) (j := (f / 6)) (by omega) (by decide) dX3_faultyWord_96 ?_
          refine lv_lload hx hb dX3_faultyWord_97 (lv_at hl 1 rfl) ?_
          refine lv_lload hx hb dX3_faultyWord_99 (lv_at hl 0 rfl) ?_
          refine vp_callSl (va_runSN (As := [.int (kd (f / 6)), .long (vl (w * 100 + (cn (srcF s0 s1 (f / 6) 0)))), .long (allW (nI (f % 2)))]) (rest := []) ⟨hx, hb, hml, hown, hts⟩ (c_X4_gateWord l (kd (f / 6)) (vl (w * 100 + (cn (srcF s0 s1 (f / 6) 0)))) (allW (nI (f % 2)))) ⟨(va_cnB 3 hts gX3_faultyWord_X4_gateWord_n85 rfl rfl rfl hNB.2.2.2.2.2.2.2.2.2.2.2.1 (hts (.initialized RX4) (by decide +kernel)) (by decide +kernel) ⟨Nat.le_of_ble_eq_true rfl, Nat.le_of_ble_eq_true rfl⟩), hts (.static yX4_gateWord) (by decide +kernel), trivial⟩ ⟨zt_blind, fun U hU hW => ⟨rfl, trivial⟩⟩ rfl rfl hl.1 rfl (lv_room (Nat.le_of_ble_eq_true rfl)) dX3_faultyWord_101 ⟨Nat.le_of_ble_eq_true rfl, Nat.le_of_ble_eq_true rfl⟩).run (fun r_14 hrr_14 => ?_)
          subst hrr_14
          exact W.lret (v := (gw (kd (f / 6)) (vl (w * 100 + (cn (srcF s0 s1 (f / 6) 0)))) (allW (nI (f % 2))))) hx hb hr (fun t_9 ht_9 hW_9 => ⟨(gw (kd (f / 6)) (vl (w * 100 + (cn (srcF s0 s1 (f / 6) 0)))) (allW (nI (f % 2)))), rfl, (by unfold fwF; rw [hq]; rfl), ht_9⟩) (fun q h => nomatch h) dX3_faultyWord_104
      · skip
        exact absurd c_31 (by decide)
    · skip
      exact absurd c_23 (by decide)

set_option maxHeartbeats 4000000 in
set_option maxRecDepth 100000 in
theorem c_X3_showing (l : Launch) (D : va_G) (cI cJ cZ : ClassId) (qc : Nat) (qk : Nat) (q0 : Nat) (q1 : Nat) (qo : Nat) (qv : Nat) (kd : Nat → Int32) (s0 : Nat → Int32) (s1 : Nat → Int32) (on : Nat → Int32) (vl : Nat → Int64) (n : Nat) (ni : Nat) (no : Nat) (qS : Nat) (qse : Nat) (qre : Nat) (qcg : Nat) (se : Nat → Int64) (re : Nat → Int32) (cg : Nat → Int64) (f : Nat) (w : Nat) (sz : Nat) (A : Nat → Prop) (hAe : A = va_A [(qS, .inr (3, [.ref qc, .ref qse, .ref qre, .ref qcg])), (qse, .inl (cJ, 1600, .inr (.inl se))), (qre, .inl (cZ, 100, .inl re)), (qcg, .inl (cJ, 100, .inr (.inl cg))), (qc, .inr (0, [.ref qk, .ref q0, .ref q1, .ref qo, .ref qv, .int (nI n), .int (nI ni), .int (nI no)])), (qk, .inl (cI, 100, .inl kd)), (q0, .inl (cI, 100, .inl s0)), (q1, .inl (cI, 100, .inl s1)), (qo, .inl (cI, 12, .inl on)), (qv, .inl (cJ, 1600, .inr (.inl vl)))] sz) (hn : n ≤ 100) (hno : no ≤ 12) (hwf : WF n kd s0 s1) (hwo : WO n no on) (hni : ni ≤ 10) (hnet : f / 6 < n) (hline : f % 6 / 2 = 0 ∨ ¬ kd (f / 6) = (-1)) (hs : SOK kd s0 s1 on vl n ni no se re) (hw : w < wordsN ni) : Met l yX3_showing wsX3_showing ({ frames := 3, cells := 0, slots := 0, locals := 110 } : Room) (va_Pc [.ref qS, .int (nI f), .int (nI w)] (PW D cI cJ cZ [(qS, .inr (3, [.ref qc, .ref qse, .ref qre, .ref qcg])), (qse, .inl (cJ, 1600, .inr (.inl se))), (qre, .inl (cZ, 100, .inl re)), (qcg, .inl (cJ, 100, .inr (.inl cg))), (qc, .inr (0, [.ref qk, .ref q0, .ref q1, .ref qo, .ref qv, .int (nI n), .int (nI ni), .int (nI no)])), (qk, .inl (cI, 100, .inl kd)), (q0, .inl (cI, 100, .inl s0)), (q1, .inl (cI, 100, .inl s1)), (qo, .inl (cI, 12, .inl on)), (qv, .inl (cJ, 1600, .inr (.inl vl)))] sz)) (va_Ql (fun (r_9 : Int64) (u9 : (Nat → Int64) × (Nat → Int32) × (Nat → Int64)) => match u9 with | (se2, re2, cg2) => r_9 = (shw kd s0 s1 on vl n ni no f w) ∧ SOK kd s0 s1 on vl n ni no se2 re2) (fun (u9 : (Nat → Int64) × (Nat → Int32) × (Nat → Int64)) t => match u9 with | (se2, re2, cg2) => PQ D A [(qS, .inr (3, [.ref qc, .ref qse, .ref qre, .ref qcg])), (qse, .inl (cJ, 1600, .inr (.inl se2))), (qre, .inl (cZ, 100, .inl re2)), (qcg, .inl (cJ, 100, .inr (.inl cg2))), (qc, .inr (0, [.ref qk, .ref q0, .ref q1, .ref qo, .ref qv, .int (nI n), .int (nI ni), .int (nI no)])), (qk, .inl (cI, 100, .inl kd)), (q0, .inl (cI, 100, .inl s0)), (q1, .inl (cI, 100, .inl s1)), (qo, .inl (cI, 12, .inl on)), (qv, .inl (cJ, 1600, .inr (.inl vl)))] t) A) 0 0 A := by
  refine Met.ofW (cc := cX3_showing) (maxL := 6) (ret := (some .long)) (by decide) rfl ?_
  intro p e s m args below meth c s₁ B hml hv
  obtain ⟨rfl, hsz, ⟨hP, hK, hNB⟩, hD0⟩ := hv
  have hx := B.exec
  have hb := B.bytes
  have hr := B.returns
  have hts := atoms_spec (ws := wsX3_showing) B.pre
  have hown : s.vm.findClass RX3 = some m.cls := findClass_of_methodNamed B.named
  have hlocks := B.notSynchronized
  have hiX3 : ∀ w ∈ u_ws RX3 TX3 4, w ∈ wsX3_showing := by decide +kernel
  subst hsz
  have hD : va_D A [(qS, .inr (3, [.ref qc, .ref qse, .ref qre, .ref qcg])), (qse, .inl (cJ, 1600, .inr (.inl se))), (qre, .inl (cZ, 100, .inl re)), (qcg, .inl (cJ, 100, .inr (.inl cg))), (qc, .inr (0, [.ref qk, .ref q0, .ref q1, .ref qo, .ref qv, .int (nI n), .int (nI ni), .int (nI no)])), (qk, .inl (cI, 100, .inl kd)), (q0, .inl (cI, 100, .inl s0)), (q1, .inl (cI, 100, .inl s1)), (qo, .inl (cI, 12, .inl on)), (qv, .inl (cJ, 1600, .inr (.inl vl)))] := by rw [hAe]; exact hD0.self
  have hA : ∀ q : Nat, s.heap.size ≤ q → A q := fun q h => by rw [hAe]; exact Or.inr h
  have hS : va_S A s.heap s.heap [] := va_S.rf
  have hl := lv_entry ([.ref qS, .int (nI f), .int (nI w)]) (n := 6) (Nat.le_of_ble_eq_true rfl)
  rw [lg_entry_eq]
  generalize (lg_sl ([.ref qS, .int (nI f), .int (nI w)]) ++ List.replicate (6 - (lg_sl ([.ref qS, .int (nI f), .int (nI w)])).length) Slot.unset).toArray = ls at hl ⊢
  have hl : lv_has ls 6 [(0, .ref qS), (1, .int (nI f)), (2, .int (nI w))] := hl
  have hw16 := wordsN_le hni
  refine lv_iload_n hx hb dX3_showing_0 rfl (lv_at hl 1 rfl) ?_
  refine vp_callSi (va_runSN (As := [.int (nI f)]) (rest := []) ⟨hx, hb, hml, hown, hts⟩ (c_X4_netOf l f (by omega)) ⟨(va_cnB 1 hts gX3_showing_X4_netOf_n49 rfl rfl rfl hNB.2.2.2.2.2.2.2.1 (hts (.initialized RX4) (by decide +kernel)) (by decide +kernel) ⟨Nat.le_of_ble_eq_true rfl, Nat.le_of_ble_eq_true rfl⟩), hts (.static yX4_netOf) (by decide +kernel), trivial⟩ ⟨zt_blind, fun U hU hW => ⟨rfl, trivial⟩⟩ rfl rfl hl.1 rfl (lv_room (Nat.le_of_ble_eq_true rfl)) dX3_showing_1 ⟨Nat.le_of_ble_eq_true rfl, Nat.le_of_ble_eq_true rfl⟩).run (fun r_1 hrr_1 => ?_)
  subst hrr_1
  refine lv_istore_n (lv' := [(3, .int (nI (f / 6))), (0, .ref qS), (1, .int (nI f)), (2, .int (nI w))]) hx hb dX3_showing_4 rfl hl (by decide) rfl (fun ls hl => ?_)
  refine lv_aload_n hx hb dX3_showing_5 rfl (lv_at hl 1 rfl) ?_
  refine va_get (D := D) (ci := 3) (v := .ref qre) (C := RX3) (T := TX3) (N := 4) hx hb hts hiX3 hown hK hP 0 rfl rfl 2 (by decide) (hts (.fieldLink RX3 15 "FaultSearch$Sight" "ready" "[Z") (by decide +kernel)) (fun _ h9 => h9) rfl dX3_showing_6 ?_
  refine lv_iload_n hx hb dX3_showing_9 rfl (lv_at hl 0 rfl) ?_
  refine zz_zald hx hb hK hP 2 2 rfl rfl (n := 100) (j := (f / 6)) (by omega) (by decide) dX3_showing_10 ?_
  refine lv_if_ne (tgt := 19) hx hb dX3_showing_11 (by decide) (fun c_11 => ?_) (fun c_11 => ?_)
  · skip
    refine lv_aload_n hx hb dX3_showing_19 rfl (lv_at hl 1 rfl) ?_
    refine lv_iload_n hx hb dX3_showing_20 rfl (lv_at hl 2 rfl) ?_
    refine lv_iload_n hx hb dX3_showing_21 rfl (lv_at hl 3 rfl) ?_
    have hPc := hP.sub (ws' := [(qS, .inr (3, [.ref qc, .ref qse, .ref qre, .ref qcg])), (qse, .inl (cJ, 1600, .inr (.inl se))), (qre, .inl (cZ, 100, .inl re)), (qcg, .inl (cJ, 100, .inr (.inl cg))), (qc, .inr (0, [.ref qk, .ref q0, .ref q1, .ref qo, .ref qv, .int (nI n), .int (nI ni), .int (nI no)])), (qk, .inl (cI, 100, .inl kd)), (q0, .inl (cI, 100, .inl s0)), (q1, .inl (cI, 100, .inl s1)), (qo, .inl (cI, 12, .inl on)), (qv, .inl (cJ, 1600, .inr (.inl vl)))]) [0, 1, 2, 3, 4, 5, 6, 7, 8, 9] rfl
    refine vp_callSl (va_runV (As := [.int (nI f), .int (nI w)]) (rest := []) ⟨hx, hb, hml, hown, hts⟩ (c_X3_faultyWord l D cI cJ cZ qc qk q0 q1 qo qv kd s0 s1 on vl n ni no qS qse qre qcg se re cg f w (by omega) (by omega) hwf hwo hnet (by omega) hline) (cwV 2 hts gX3_showing_X3_faultyWord rfl rfl rfl (by decide +kernel) ⟨Nat.le_of_ble_eq_true rfl, Nat.le_of_ble_eq_true rfl⟩) ⟨PR.blind, va_recv hK hPc (ci := 3) (q0 := 0) rfl rfl, fun U hU hW => ⟨rfl, PR.to hPc hK hNB hU hW⟩⟩ rfl rfl hl.1 rfl (lv_room (Nat.le_of_ble_eq_true rfl)) dX3_showing_22 ⟨Nat.le_of_ble_eq_true rfl, Nat.le_of_ble_eq_true rfl⟩).run (fun r_2 hrr_2 => ?_)
    subst hrr_2
    refine lv_aload_n hx hb dX3_showing_25 rfl (lv_at hl 1 rfl) ?_
    refine va_get (D := D) (ci := 3) (v := .ref qc) (C := RX3) (T := TX3) (N := 4) hx hb hts hiX3 hown hK hP 0 rfl rfl 0 (by decide) (hts (.fieldLink RX3 22 "FaultSearch$Sight" "chip" "LFaultSearch$Chip;") (by decide +kernel)) (fun _ h9 => h9) rfl dX3_showing_26 ?_
    refine lv_iload_n hx hb dX3_showing_29 rfl (lv_at hl 0 rfl) ?_
    refine lv_iload_n hx hb dX3_showing_30 rfl (lv_at hl 3 rfl) ?_
    have hPc := hP.sub (ws' := [(qc, .inr (0, [.ref qk, .ref q0, .ref q1, .ref qo, .ref qv, .int (nI n), .int (nI ni), .int (nI no)])), (qk, .inl (cI, 100, .inl kd)), (q0, .inl (cI, 100, .inl s0)), (q1, .inl (cI, 100, .inl s1)), (qo, .inl (cI, 12, .inl on)), (qv, .inl (cJ, 1600, .inr (.inl vl)))]) [4, 5, 6, 7, 8, 9] rfl
    refine vp_callSl (va_runV (As := [.int (nI (f / 6)), .int (nI w)]) (rest := [.long (fwF kd s0 s1 vl f w)]) ⟨hx, hb, hml, hown, hts⟩ (c_X0_wordOf l D cI cJ cZ qc qk q0 q1 qo qv kd s0 s1 on vl n ni no (f / 6) w (by omega) (by omega)) (cwV 2 hts gX3_showing_X0_wordOf rfl rfl rfl (by decide +kernel) ⟨Nat.le_of_ble_eq_true rfl, Nat.le_of_ble_eq_true rfl⟩) ⟨PR.blind, va_recv hK hPc (ci := 0) (q0 := 0) rfl rfl, fun U hU hW => ⟨rfl, PR.to hPc hK hNB hU hW⟩⟩ rfl rfl hl.1 rfl (lv_room (Nat.le_of_ble_eq_true rfl)) dX3_showing_31 ⟨Nat.le_of_ble_eq_true rfl, Nat.le_of_ble_eq_true rfl⟩).run (fun r_3 hrr_3 => ?_)
    subst hrr_3
    refine lv_lxor hx hb dX3_showing_34 ?_
    refine lv_lstore (lv' := [(4, .long ((fwF kd s0 s1 vl f w) ^^^ (vl (w * 100 + (f / 6))))), (3, .int (nI (f / 6))), (0, .ref qS), (1, .int (nI f)), (2, .int (nI w))]) hx hb dX3_showing_35 hl (by decide) rfl (fun ls hl => ?_)
    refine lv_lload hx hb dX3_showing_37 (lv_at hl 0 rfl) ?_
    refine lv_aload_n hx hb dX3_showing_39 rfl (lv_at hl 2 rfl) ?_
    refine va_get (D := D) (ci := 3) (v := .ref qse) (C := RX3) (T := TX3) (N := 4) hx hb hts hiX3 hown hK hP 0 rfl rfl 1 (by decide) (hts (.fieldLink RX3 9 "FaultSearch$Sight" "seen" "[J") (by decide +kernel)) (fun _ h9 => h9) rfl dX3_showing_40 ?_
    refine lv_iload_n hx hb dX3_showing_43 rfl (lv_at hl 4 rfl) ?_
    refine lv_bipush (v := (nI 100)) hx hb dX3_showing_44 (by decide) ?_
    refine lv_imul hx hb dX3_showing_46 ?_
    refine zz_i (z := (nI (w * 100))) (pk_mul _ _) ?_
    refine lv_iload_n hx hb dX3_showing_47 rfl (lv_at hl 1 rfl) ?_
    refine lv_iadd hx hb dX3_showing_48 ?_
    refine zz_i (z := (nI ((w * 100) + (f / 6)))) (nI_add _ _) ?_
    refine zz_lald hx hb hK hP 1 1 rfl rfl (n := 1600) (j := ((w * 100) + (f / 6))) (by omega) (by decide) dX3_showing_49 ?_
    refine lv_land hx hb dX3_showing_50 ?_
    refine lv_aload_n hx hb dX3_showing_51 rfl (lv_at hl 2 rfl) ?_
    refine va_get (D := D) (ci := 3) (v := .ref qc) (C := RX3) (T := TX3) (N := 4) hx hb hts hiX3 hown hK hP 0 rfl rfl 0 (by decide) (hts (.fieldLink RX3 22 "FaultSearch$Sight" "chip" "LFaultSearch$Chip;") (by decide +kernel)) (fun _ h9 => h9) rfl dX3_showing_52 ?_
    have hPc := hP.sub (ws' := [(qc, .inr (0, [.ref qk, .ref q0, .ref q1, .ref qo, .ref qv, .int (nI n), .int (nI ni), .int (nI no)])), (qk, .inl (cI, 100, .inl kd)), (q0, .inl (cI, 100, .inl s0)), (q1, .inl (cI, 100, .inl s1)), (qo, .inl (cI, 12, .inl on)), (qv, .inl (cJ, 1600, .inr (.inl vl)))]) [4, 5, 6, 7, 8, 9] rfl
    refine vp_callSl (va_runV (As := []) (rest := [.long (((fwF kd s0 s1 vl f w) ^^^ (vl (w * 100 + (f / 6)))) &&& (se ((w * 100) + (f / 6))))]) ⟨hx, hb, hml, hown, hts⟩ (c_X0_mask l D cI cJ cZ qc qk q0 q1 qo qv kd s0 s1 on vl n ni no (by omega)) (cwV 0 hts gX3_showing_X0_mask rfl rfl rfl (by decide +kernel) ⟨Nat.le_of_ble_eq_true rfl, Nat.le_of_ble_eq_true rfl⟩) ⟨PR.blind, va_recv hK hPc (ci := 0) (q0 := 0) rfl rfl, fun U hU hW => ⟨rfl, PR.to hPc hK hNB hU hW⟩⟩ rfl rfl hl.1 rfl (lv_room (Nat.le_of_ble_eq_true rfl)) dX3_showing_55 ⟨Nat.le_of_ble_eq_true rfl, Nat.le_of_ble_eq_true rfl⟩).run (fun r_4 hrr_4 => ?_)
    subst hrr_4
    refine lv_land hx hb dX3_showing_58 ?_
    exact W.lret (v := ((((fwF kd s0 s1 vl f w) ^^^ (vl (w * 100 + (f / 6)))) &&& (se ((w * 100) + (f / 6)))) &&& (maskW ni))) hx hb hr (fun t_9 ht_9 hW_9 => ⟨⟨((((fwF kd s0 s1 vl f w) ^^^ (vl (w * 100 + (f / 6)))) &&& (se ((w * 100) + (f / 6)))) &&& (maskW ni)), (se, re, cg), rfl, (show ((((fwF kd s0 s1 vl f w) ^^^ (vl (w * 100 + (f / 6)))) &&& (se ((w * 100) + (f / 6)))) &&& (maskW ni)) = (shw kd s0 s1 on vl n ni no f w) ∧ SOK kd s0 s1 on vl n ni no se re from ⟨(by unfold shw; rw [hs (f / 6) hnet c_11 w hw]), hs⟩), ⟨by rw [ht_9]; exact hP, hD⟩⟩, hS.F ht_9⟩) hS.2.2 dX3_showing_59
  · skip
    refine lv_aload_n hx hb dX3_showing_14 rfl (lv_at hl 1 rfl) ?_
    refine lv_iload_n hx hb dX3_showing_15 rfl (lv_at hl 0 rfl) ?_
    have hPc := hP.sub (ws' := [(qS, .inr (3, [.ref qc, .ref qse, .ref qre, .ref qcg])), (qse, .inl (cJ, 1600, .inr (.inl se))), (qre, .inl (cZ, 100, .inl re)), (qcg, .inl (cJ, 100, .inr (.inl cg))), (qc, .inr (0, [.ref qk, .ref q0, .ref q1, .ref qo, .ref qv, .int (nI n), .int (nI ni), .int (nI no)])), (qk, .inl (cI, 100, .inl kd)), (q0, .inl (cI, 100, .inl s0)), (q1, .inl (cI, 100, .inl s1)), (qo, .inl (cI, 12, .inl on)), (qv, .inl (cJ, 1600, .inr (.inl vl)))]) [0, 1, 2, 3, 4, 5, 6, 7, 8, 9] rfl
    have hDc := hD.sub (ws' := [(qS, .inr (3, [.ref qc, .ref qse, .ref qre, .ref qcg])), (qse, .inl (cJ, 1600, .inr (.inl se))), (qre, .inl (cZ, 100, .inl re)), (qcg, .inl (cJ, 100, .inr (.inl cg))), (qc, .inr (0, [.ref qk, .ref q0, .ref q1, .ref qo, .ref qv, .int (nI n), .int (nI ni), .int (nI no)])), (qk, .inl (cI, 100, .inl kd)), (q0, .inl (cI, 100, .inl s0)), (q1, .inl (cI, 100, .inl s1)), (qo, .inl (cI, 12, .inl on)), (qv, .inl (cJ, 1600, .inr (.inl vl)))]) [0, 1, 2, 3, 4, 5, 6, 7, 8, 9] (by decide) rfl
    have hFc := va_free (wc := [(qS, .inr (3, [.ref qc, .ref qse, .ref qre, .ref qcg])), (qse, .inl (cJ, 1600, .inr (.inl se))), (qre, .inl (cZ, 100, .inl re)), (qcg, .inl (cJ, 100, .inr (.inl cg))), (qc, .inr (0, [.ref qk, .ref q0, .ref q1, .ref qo, .ref qv, .int (nI n), .int (nI ni), .int (nI no)])), (qk, .inl (cI, 100, .inl kd)), (q0, .inl (cI, 100, .inl s0)), (q1, .inl (cI, 100, .inl s1)), (qo, .inl (cI, 12, .inl on)), (qv, .inl (cJ, 1600, .inr (.inl vl)))]) hD hS hA [0, 1, 2, 3, 4, 5, 6, 7, 8, 9] rfl
    refine va_callv (va_runV (As := [.int (nI (f / 6))]) (rest := []) ⟨hx, hb, hml, hown, hts⟩ (c_X3_prepare l D cI cJ cZ qc qk q0 q1 qo qv kd s0 s1 on vl n ni no qS qse qre qcg se re cg (f / 6) s.heap.size _ rfl (by omega) (by omega) hwf hwo (by omega) hnet) (cwV 1 hts gX3_showing_X3_prepare rfl rfl rfl (by decide +kernel) ⟨Nat.le_of_ble_eq_true rfl, Nat.le_of_ble_eq_true rfl⟩) ⟨PW.blind, va_recv hK hPc (ci := 3) (q0 := 0) rfl rfl, fun U hU hW => ⟨rfl, PW.to hPc hK hNB hDc hU hW⟩⟩ rfl rfl hl.1 rfl (lv_room (Nat.le_of_ble_eq_true rfl)) dX3_showing_16 ⟨Nat.le_of_ble_eq_true rfl, Nat.le_of_ble_eq_true rfl⟩) hS (fun q _ h => hFc q h) hFc (fun u_9 t_9 H1_9 locs ht_9 hvm_9 hw_9 hB_9 hz1_9 hk1_9 hS => ?_)
    obtain ⟨cg2_6, rfl⟩ : ∃ z, z = u_9 := ⟨_, rfl⟩
    obtain ⟨hP1_9, hD1_9⟩ := hB_9
    rw [ht_9] at hP1_9
    obtain ⟨hP, hD⟩ := va_join (wr := []) (w1 := [(qS, .inr (3, [.ref qc, .ref qse, .ref qre, .ref qcg])), (qse, .inl (cJ, 1600, .inr (.inl (prepF kd s0 s1 on vl n no (f / 6) se (wordsN ni))))), (qre, .inl (cZ, 100, .inl (upd re (f / 6) (nI 1)))), (qcg, .inl (cJ, 100, .inr (.inl cg2_6))), (qc, .inr (0, [.ref qk, .ref q0, .ref q1, .ref qo, .ref qv, .int (nI n), .int (nI ni), .int (nI no)])), (qk, .inl (cI, 100, .inl kd)), (q0, .inl (cI, 100, .inl s0)), (q1, .inl (cI, 100, .inl s1)), (qo, .inl (cI, 12, .inl on)), (qv, .inl (cJ, 1600, .inr (.inl vl)))]) hP hD [0, 1, 2, 3, 4, 5, 6, 7, 8, 9] [] rfl rfl (by decide) (by decide) hk1_9 hFc hP1_9 hD1_9
    generalize H1_9 = H at hP hS ⊢
    have hP : va_P D vwCl [(qS, .inr (3, [.ref qc, .ref qse, .ref qre, .ref qcg])), (qse, .inl (cJ, 1600, .inr (.inl (prepF kd s0 s1 on vl n no (f / 6) se (wordsN ni))))), (qre, .inl (cZ, 100, .inl (upd re (f / 6) (nI 1)))), (qcg, .inl (cJ, 100, .inr (.inl cg2_6))), (qc, .inr (0, [.ref qk, .ref q0, .ref q1, .ref qo, .ref qv, .int (nI n), .int (nI ni), .int (nI no)])), (qk, .inl (cI, 100, .inl kd)), (q0, .inl (cI, 100, .inl s0)), (q1, .inl (cI, 100, .inl s1)), (qo, .inl (cI, 12, .inl on)), (qv, .inl (cJ, 1600, .inr (.inl vl)))] H := hP
    have hD : va_D A [(qS, .inr (3, [.ref qc, .ref qse, .ref qre, .ref qcg])), (qse, .inl (cJ, 1600, .inr (.inl (prepF kd s0 s1 on vl n no (f / 6) se (wordsN ni))))), (qre, .inl (cZ, 100, .inl (upd re (f / 6) (nI 1)))), (qcg, .inl (cJ, 100, .inr (.inl cg2_6))), (qc, .inr (0, [.ref qk, .ref q0, .ref q1, .ref qo, .ref qv, .int (nI n), .int (nI ni), .int (nI no)])), (qk, .inl (cI, 100, .inl kd)), (q0, .inl (cI, 100, .inl s0)), (q1, .inl (cI, 100, .inl s1)), (qo, .inl (cI, 12, .inl on)), (qv, .inl (cJ, 1600, .inr (.inl vl)))] := hD
    refine lv_aload_n hx hb dX3_showing_19 rfl (lv_at hl 1 rfl) ?_
    refine lv_iload_n hx hb dX3_showing_20 rfl (lv_at hl 2 rfl) ?_
    refine lv_iload_n hx hb dX3_showing_21 rfl (lv_at hl 3 rfl) ?_
    have hPc := hP.sub (ws' := [(qS, .inr (3, [.ref qc, .ref qse, .ref qre, .ref qcg])), (qse, .inl (cJ, 1600, .inr (.inl (prepF kd s0 s1 on vl n no (f / 6) se (wordsN ni))))), (qre, .inl (cZ, 100, .inl (upd re (f / 6) (nI 1)))), (qcg, .inl (cJ, 100, .inr (.inl cg2_6))), (qc, .inr (0, [.ref qk, .ref q0, .ref q1, .ref qo, .ref qv, .int (nI n), .int (nI ni), .int (nI no)])), (qk, .inl (cI, 100, .inl kd)), (q0, .inl (cI, 100, .inl s0)), (q1, .inl (cI, 100, .inl s1)), (qo, .inl (cI, 12, .inl on)), (qv, .inl (cJ, 1600, .inr (.inl vl)))]) [0, 1, 2, 3, 4, 5, 6, 7, 8, 9] rfl
    refine vp_callSl (va_runV (As := [.int (nI f), .int (nI w)]) (rest := []) ⟨hx, hb, hml, hown, hts⟩ (c_X3_faultyWord l D cI cJ cZ qc qk q0 q1 qo qv kd s0 s1 on vl n ni no qS qse qre qcg (prepF kd s0 s1 on vl n no (f / 6) se (wordsN ni)) (upd re (f / 6) (nI 1)) cg2_6 f w (by omega) (by omega) hwf hwo hnet (by omega) hline) (cwV 2 hts gX3_showing_X3_faultyWord rfl rfl rfl (by decide +kernel) ⟨Nat.le_of_ble_eq_true rfl, Nat.le_of_ble_eq_true rfl⟩) ⟨PR.blind, va_recv hK hPc (ci := 3) (q0 := 0) rfl rfl, fun U hU hW => ⟨rfl, PR.to hPc hK hNB hU hW⟩⟩ rfl rfl hl.1 rfl (lv_room (Nat.le_of_ble_eq_true rfl)) dX3_showing_22 ⟨Nat.le_of_ble_eq_true rfl, Nat.le_of_ble_eq_true rfl⟩).run (fun r_7 hrr_7 => ?_)
    subst hrr_7
    refine lv_aload_n hx hb dX3_showing_25 rfl (lv_at hl 1 rfl) ?_
    refine va_get (D := D) (ci := 3) (v := .ref qc) (C := RX3) (T := TX3) (N := 4) hx hb hts hiX3 hown hK hP 0 rfl rfl 0 (by decide) (hts (.fieldLink RX3 22 "FaultSearch$Sight" "chip" "LFaultSearch$Chip;") (by decide +kernel)) (fun _ h9 => h9) rfl dX3_showing_26 ?_
    refine lv_iload_n hx hb dX3_showing_29 rfl (lv_at hl 0 rfl) ?_
    refine lv_iload_n hx hb dX3_showing_30 rfl (lv_at hl 3 rfl) ?_
    have hPc := hP.sub (ws' := [(qc, .inr (0, [.ref qk, .ref q0, .ref q1, .ref qo, .ref qv, .int (nI n), .int (nI ni), .int (nI no)])), (qk, .inl (cI, 100, .inl kd)), (q0, .inl (cI, 100, .inl s0)), (q1, .inl (cI, 100, .inl s1)), (qo, .inl (cI, 12, .inl on)), (qv, .inl (cJ, 1600, .inr (.inl vl)))]) [4, 5, 6, 7, 8, 9] rfl
    refine vp_callSl (va_runV (As := [.int (nI (f / 6)), .int (nI w)]) (rest := [.long (fwF kd s0 s1 vl f w)]) ⟨hx, hb, hml, hown, hts⟩ (c_X0_wordOf l D cI cJ cZ qc qk q0 q1 qo qv kd s0 s1 on vl n ni no (f / 6) w (by omega) (by omega)) (cwV 2 hts gX3_showing_X0_wordOf rfl rfl rfl (by decide +kernel) ⟨Nat.le_of_ble_eq_true rfl, Nat.le_of_ble_eq_true rfl⟩) ⟨PR.blind, va_recv hK hPc (ci := 0) (q0 := 0) rfl rfl, fun U hU hW => ⟨rfl, PR.to hPc hK hNB hU hW⟩⟩ rfl rfl hl.1 rfl (lv_room (Nat.le_of_ble_eq_true rfl)) dX3_showing_31 ⟨Nat.le_of_ble_eq_true rfl, Nat.le_of_ble_eq_true rfl⟩).run (fun r_8 hrr_8 => ?_)
    subst hrr_8
    refine lv_lxor hx hb dX3_showing_34 ?_
    refine lv_lstore (lv' := [(4, .long ((fwF kd s0 s1 vl f w) ^^^ (vl (w * 100 + (f / 6))))), (3, .int (nI (f / 6))), (0, .ref qS), (1, .int (nI f)), (2, .int (nI w))]) hx hb dX3_showing_35 hl (by decide) rfl (fun ls hl => ?_)
    refine lv_lload hx hb dX3_showing_37 (lv_at hl 0 rfl) ?_
    refine lv_aload_n hx hb dX3_showing_39 rfl (lv_at hl 2 rfl) ?_
    refine va_get (D := D) (ci := 3) (v := .ref qse) (C := RX3) (T := TX3) (N := 4) hx hb hts hiX3 hown hK hP 0 rfl rfl 1 (by decide) (hts (.fieldLink RX3 9 "FaultSearch$Sight" "seen" "[J") (by decide +kernel)) (fun _ h9 => h9) rfl dX3_showing_40 ?_
    refine lv_iload_n hx hb dX3_showing_43 rfl (lv_at hl 4 rfl) ?_
    refine lv_bipush (v := (nI 100)) hx hb dX3_showing_44 (by decide) ?_
    refine lv_imul hx hb dX3_showing_46 ?_
    refine zz_i (z := (nI (w * 100))) (pk_mul _ _) ?_
    refine lv_iload_n hx hb dX3_showing_47 rfl (lv_at hl 1 rfl) ?_
    refine lv_iadd hx hb dX3_showing_48 ?_
    refine zz_i (z := (nI ((w * 100) + (f / 6)))) (nI_add _ _) ?_
    refine zz_lald hx hb hK hP 1 1 rfl rfl (n := 1600) (j := ((w * 100) + (f / 6))) (by omega) (by decide) dX3_showing_49 ?_
    refine lv_land hx hb dX3_showing_50 ?_
    refine lv_aload_n hx hb dX3_showing_51 rfl (lv_at hl 2 rfl) ?_
    refine va_get (D := D) (ci := 3) (v := .ref qc) (C := RX3) (T := TX3) (N := 4) hx hb hts hiX3 hown hK hP 0 rfl rfl 0 (by decide) (hts (.fieldLink RX3 22 "FaultSearch$Sight" "chip" "LFaultSearch$Chip;") (by decide +kernel)) (fun _ h9 => h9) rfl dX3_showing_52 ?_
    have hPc := hP.sub (ws' := [(qc, .inr (0, [.ref qk, .ref q0, .ref q1, .ref qo, .ref qv, .int (nI n), .int (nI ni), .int (nI no)])), (qk, .inl (cI, 100, .inl kd)), (q0, .inl (cI, 100, .inl s0)), (q1, .inl (cI, 100, .inl s1)), (qo, .inl (cI, 12, .inl on)), (qv, .inl (cJ, 1600, .inr (.inl vl)))]) [4, 5, 6, 7, 8, 9] rfl
    refine vp_callSl (va_runV (As := []) (rest := [.long (((fwF kd s0 s1 vl f w) ^^^ (vl (w * 100 + (f / 6)))) &&& ((prepF kd s0 s1 on vl n no (f / 6) se (wordsN ni)) ((w * 100) + (f / 6))))]) ⟨hx, hb, hml, hown, hts⟩ (c_X0_mask l D cI cJ cZ qc qk q0 q1 qo qv kd s0 s1 on vl n ni no (by omega)) (cwV 0 hts gX3_showing_X0_mask rfl rfl rfl (by decide +kernel) ⟨Nat.le_of_ble_eq_true rfl, Nat.le_of_ble_eq_true rfl⟩) ⟨PR.blind, va_recv hK hPc (ci := 0) (q0 := 0) rfl rfl, fun U hU hW => ⟨rfl, PR.to hPc hK hNB hU hW⟩⟩ rfl rfl hl.1 rfl (lv_room (Nat.le_of_ble_eq_true rfl)) dX3_showing_55 ⟨Nat.le_of_ble_eq_true rfl, Nat.le_of_ble_eq_true rfl⟩).run (fun r_9 hrr_9 => ?_)
    subst hrr_9
    refine lv_land hx hb dX3_showing_58 ?_
    exact W.lret (v := ((((fwF kd s0 s1 vl f w) ^^^ (vl (w * 100 + (f / 6)))) &&& ((prepF kd s0 s1 on vl n no (f / 6) se (wordsN ni)) ((w * 100) + (f / 6)))) &&& (maskW ni))) hx hb hr (fun t_9 ht_9 hW_9 => ⟨⟨((((fwF kd s0 s1 vl f w) ^^^ (vl (w * 100 + (f / 6)))) &&& ((prepF kd s0 s1 on vl n no (f / 6) se (wordsN ni)) ((w * 100) + (f / 6)))) &&& (maskW ni)), (prepF kd s0 s1 on vl n no (f / 6) se (wordsN ni), upd re (f / 6) (nI 1), cg2_6), rfl, (show ((((fwF kd s0 s1 vl f w) ^^^ (vl (w * 100 + (f / 6)))) &&& ((prepF kd s0 s1 on vl n no (f / 6) se (wordsN ni)) ((w * 100) + (f / 6)))) &&& (maskW ni)) = (shw kd s0 s1 on vl n ni no f w) ∧ SOK kd s0 s1 on vl n ni no (prepF kd s0 s1 on vl n no (f / 6) se (wordsN ni)) (upd re (f / 6) (nI 1)) from ⟨(by unfold shw; rw [(hs.prep hn hnet) (f / 6) hnet (by rw [show upd re (f / 6) (nI 1) (f / 6) = nI 1 from pk_us]; decide) w hw]), (hs.prep hn hnet)⟩), ⟨by rw [ht_9]; exact hP, hD⟩⟩, hS.F ht_9⟩) hS.2.2 dX3_showing_59

set_option maxHeartbeats 4000000 in
set_option maxRecDepth 100000 in
theorem c_X3_least (l : Launch) (D : va_G) (cI cJ cZ : ClassId) (qc : Nat) (qk : Nat) (q0 : Nat) (q1 : Nat) (qo : Nat) (qv : Nat) (kd : Nat → Int32) (s0 : Nat → Int32) (s1 : Nat → Int32) (on : Nat → Int32) (vl : Nat → Int64) (n : Nat) (ni : Nat) (no : Nat) (qS : Nat) (qse : Nat) (qre : Nat) (qcg : Nat) (se : Nat → Int64) (re : Nat → Int32) (cg : Nat → Int64) (f : Nat) (sz : Nat) (A : Nat → Prop) (hAe : A = va_A [(qS, .inr (3, [.ref qc, .ref qse, .ref qre, .ref qcg])), (qse, .inl (cJ, 1600, .inr (.inl se))), (qre, .inl (cZ, 100, .inl re)), (qcg, .inl (cJ, 100, .inr (.inl cg))), (qc, .inr (0, [.ref qk, .ref q0, .ref q1, .ref qo, .ref qv, .int (nI n), .int (nI ni), .int (nI no)])), (qk, .inl (cI, 100, .inl kd)), (q0, .inl (cI, 100, .inl s0)), (q1, .inl (cI, 100, .inl s1)), (qo, .inl (cI, 12, .inl on)), (qv, .inl (cJ, 1600, .inr (.inl vl)))] sz) (hn : n ≤ 100) (hno : no ≤ 12) (hwf : WF n kd s0 s1) (hwo : WO n no on) (hni : ni ≤ 10) (hnet : f / 6 < n) (hline : f % 6 / 2 = 0 ∨ ¬ kd (f / 6) = (-1)) (hs : SOK kd s0 s1 on vl n ni no se re) : Met l yX3_least wsX3_least ({ frames := 4, cells := 0, slots := 0, locals := 135 } : Room) (va_Pc [.ref qS, .int (nI f)] (PW D cI cJ cZ [(qS, .inr (3, [.ref qc, .ref qse, .ref qre, .ref qcg])), (qse, .inl (cJ, 1600, .inr (.inl se))), (qre, .inl (cZ, 100, .inl re)), (qcg, .inl (cJ, 100, .inr (.inl cg))), (qc, .inr (0, [.ref qk, .ref q0, .ref q1, .ref qo, .ref qv, .int (nI n), .int (nI ni), .int (nI no)])), (qk, .inl (cI, 100, .inl kd)), (q0, .inl (cI, 100, .inl s0)), (q1, .inl (cI, 100, .inl s1)), (qo, .inl (cI, 12, .inl on)), (qv, .inl (cJ, 1600, .inr (.inl vl)))] sz)) (va_Qi (fun (r_9 : Int32) (u9 : (Nat → Int64) × (Nat → Int32) × (Nat → Int64)) => match u9 with | (se2, re2, cg2) => r_9 = (leastF (fun w => shw kd s0 s1 on vl n ni no f w) (wordsN ni) 0) ∧ SOK kd s0 s1 on vl n ni no se2 re2) (fun (u9 : (Nat → Int64) × (Nat → Int32) × (Nat → Int64)) t => match u9 with | (se2, re2, cg2) => PQ D A [(qS, .inr (3, [.ref qc, .ref qse, .ref qre, .ref qcg])), (qse, .inl (cJ, 1600, .inr (.inl se2))), (qre, .inl (cZ, 100, .inl re2)), (qcg, .inl (cJ, 100, .inr (.inl cg2))), (qc, .inr (0, [.ref qk, .ref q0, .ref q1, .ref qo, .ref qv, .int (nI n), .int (nI ni), .int (nI no)])), (qk, .inl (cI, 100, .inl kd)), (q0, .inl (cI, 100, .inl s0)), (q1, .inl (cI, 100, .inl s1)), (qo, .inl (cI, 12, .inl on)), (qv, .inl (cJ, 1600, .inr (.inl vl)))] t) A) 0 0 A := by
  refine Met.ofW (cc := cX3_least) (maxL := 5) (ret := (some .int)) (by decide) rfl ?_
  intro p e s m args below meth c s₁ B hml hv
  obtain ⟨rfl, hsz, ⟨hP, hK, hNB⟩, hD0⟩ := hv
  have hx := B.exec
  have hb := B.bytes
  have hr := B.returns
  have hts := atoms_spec (ws := wsX3_least) B.pre
  have hown : s.vm.findClass RX3 = some m.cls := findClass_of_methodNamed B.named
  have hlocks := B.notSynchronized
  have hiX3 : ∀ w ∈ u_ws RX3 TX3 4, w ∈ wsX3_least := by decide +kernel
  subst hsz
  have hD : va_D A [(qS, .inr (3, [.ref qc, .ref qse, .ref qre, .ref qcg])), (qse, .inl (cJ, 1600, .inr (.inl se))), (qre, .inl (cZ, 100, .inl re)), (qcg, .inl (cJ, 100, .inr (.inl cg))), (qc, .inr (0, [.ref qk, .ref q0, .ref q1, .ref qo, .ref qv, .int (nI n), .int (nI ni), .int (nI no)])), (qk, .inl (cI, 100, .inl kd)), (q0, .inl (cI, 100, .inl s0)), (q1, .inl (cI, 100, .inl s1)), (qo, .inl (cI, 12, .inl on)), (qv, .inl (cJ, 1600, .inr (.inl vl)))] := by rw [hAe]; exact hD0.self
  have hA : ∀ q : Nat, s.heap.size ≤ q → A q := fun q h => by rw [hAe]; exact Or.inr h
  have hS : va_S A s.heap s.heap [] := va_S.rf
  have hl := lv_entry ([.ref qS, .int (nI f)]) (n := 5) (Nat.le_of_ble_eq_true rfl)
  rw [lg_entry_eq]
  generalize (lg_sl ([.ref qS, .int (nI f)]) ++ List.replicate (5 - (lg_sl ([.ref qS, .int (nI f)])).length) Slot.unset).toArray = ls at hl ⊢
  have hl : lv_has ls 5 [(0, .ref qS), (1, .int (nI f))] := hl
  have hw16 := wordsN_le hni
  refine lv_iconst (v := (nI 0)) hx hb dX3_least_0 (by decide) ?_
  refine lv_istore_n (lv' := [(2, .int (nI 0)), (0, .ref qS), (1, .int (nI f))]) hx hb dX3_least_1 rfl hl (by decide) rfl (fun ls hl => ?_)
  have loop2 : ∀ (n2 : Nat) (i : Nat) (e1 : Nat → Int64) (r1 : Nat → Int32) (g1 : Nat → Int64) (hi : i ≤ wordsN ni) (hg : leastF (fun w => shw kd s0 s1 on vl n ni no f w) (wordsN ni) 0 = leastF (fun w => shw kd s0 s1 on vl n ni no f w) (wordsN ni - i) i) (hs1 : SOK kd s0 s1 on vl n ni no e1 r1), wordsN ni - i < n2 → ∀ (H : Heap) (locs : List Loc), va_P D vwCl [(qS, .inr (3, [.ref qc, .ref qse, .ref qre, .ref qcg])), (qse, .inl (cJ, 1600, .inr (.inl e1))), (qre, .inl (cZ, 100, .inl r1)), (qcg, .inl (cJ, 100, .inr (.inl g1))), (qc, .inr (0, [.ref qk, .ref q0, .ref q1, .ref qo, .ref qv, .int (nI n), .int (nI ni), .int (nI no)])), (qk, .inl (cI, 100, .inl kd)), (q0, .inl (cI, 100, .inl s0)), (q1, .inl (cI, 100, .inl s1)), (qo, .inl (cI, 12, .inl on)), (qv, .inl (cJ, 1600, .inr (.inl vl)))] H → va_D A [(qS, .inr (3, [.ref qc, .ref qse, .ref qre, .ref qcg])), (qse, .inl (cJ, 1600, .inr (.inl e1))), (qre, .inl (cZ, 100, .inl r1)), (qcg, .inl (cJ, 100, .inr (.inl g1))), (qc, .inr (0, [.ref qk, .ref q0, .ref q1, .ref qo, .ref qv, .int (nI n), .int (nI ni), .int (nI no)])), (qk, .inl (cI, 100, .inl kd)), (q0, .inl (cI, 100, .inl s0)), (q1, .inl (cI, 100, .inl s1)), (qo, .inl (cI, 12, .inl on)), (qv, .inl (cJ, 1600, .inr (.inl vl)))] → va_S A s.heap H locs → ∀ (ls : Array Slot), lv_has ls 5 [(0, .ref qS), (1, .int (nI f)), (2, .int (nI i))] → W p l e (headSpec wsX3_least ({ frames := 4, cells := 0, slots := 0, locals := 135 } : Room)).room s m ([.ref qS, .int (nI f)] : List Value).toArray below meth c H locs 0 0 (MQ below (va_Qi (fun (r_9 : Int32) (u9 : (Nat → Int64) × (Nat → Int32) × (Nat → Int64)) => match u9 with | (se2, re2, cg2) => r_9 = (leastF (fun w => shw kd s0 s1 on vl n ni no f w) (wordsN ni) 0) ∧ SOK kd s0 s1 on vl n ni no se2 re2) (fun (u9 : (Nat → Int64) × (Nat → Int32) × (Nat → Int64)) t => match u9 with | (se2, re2, cg2) => PQ D A [(qS, .inr (3, [.ref qc, .ref qse, .ref qre, .ref qcg])), (qse, .inl (cJ, 1600, .inr (.inl se2))), (qre, .inl (cZ, 100, .inl re2)), (qcg, .inl (cJ, 100, .inr (.inl cg2))), (qc, .inr (0, [.ref qk, .ref q0, .ref q1, .ref qo, .ref qv, .int (nI n), .int (nI ni), .int (nI no)])), (qk, .inl (cI, 100, .inl kd)), (q0, .inl (cI, 100, .inl s0)), (q1, .inl (cI, 100, .inl s1)), (qo, .inl (cI, 12, .inl on)), (qv, .inl (cJ, 1600, .inr (.inl vl)))] t) A) ([.ref qS, .int (nI f)] : List Value).toArray s 0 0 A) (F0 m 2 ls []) := by
    intro n2
    induction n2 with
    | zero => intro i e1 r1 g1 hi hg hs1 hm; exact absurd hm (Nat.not_lt_zero _)
    | succ n2 ih2 =>
      intro i e1 r1 g1 hi hg hs1 hm2 H locs hP hD hS ls hl
      refine lv_iload_n hx hb dX3_least_2 rfl (lv_at hl 2 rfl) ?_
      refine lv_aload_n hx hb dX3_least_3 rfl (lv_at hl 0 rfl) ?_
      refine va_get (D := D) (ci := 3) (v := .ref qc) (C := RX3) (T := TX3) (N := 4) hx hb hts hiX3 hown hK hP 0 rfl rfl 0 (by decide) (hts (.fieldLink RX3 22 "FaultSearch$Sight" "chip" "LFaultSearch$Chip;") (by decide +kernel)) (fun _ h9 => h9) rfl dX3_least_4 ?_
      have hPc := hP.sub (ws' := [(qc, .inr (0, [.ref qk, .ref q0, .ref q1, .ref qo, .ref qv, .int (nI n), .int (nI ni), .int (nI no)])), (qk, .inl (cI, 100, .inl kd)), (q0, .inl (cI, 100, .inl s0)), (q1, .inl (cI, 100, .inl s1)), (qo, .inl (cI, 12, .inl on)), (qv, .inl (cJ, 1600, .inr (.inl vl)))]) [4, 5, 6, 7, 8, 9] rfl
      refine vp_callSi (va_runV (As := []) (rest := [.int (nI i)]) ⟨hx, hb, hml, hown, hts⟩ (c_X0_words l D cI cJ cZ qc qk q0 q1 qo qv kd s0 s1 on vl n ni no (by omega)) (cwV 0 hts gX3_least_X0_words rfl rfl rfl (by decide +kernel) ⟨Nat.le_of_ble_eq_true rfl, Nat.le_of_ble_eq_true rfl⟩) ⟨PR.blind, va_recv hK hPc (ci := 0) (q0 := 0) rfl rfl, fun U hU hW => ⟨rfl, PR.to hPc hK hNB hU hW⟩⟩ rfl rfl hl.1 rfl (lv_room (Nat.le_of_ble_eq_true rfl)) dX3_least_7 ⟨Nat.le_of_ble_eq_true rfl, Nat.le_of_ble_eq_true rfl⟩).run (fun r_1 hrr_1 => ?_)
      subst hrr_1
      refine lv_icmp_ge (tgt := 42) hx hb dX3_least_10 (by decide) (fun c_10 => ?_) (fun c_10 => ?_)
      · skip
        rw [zc_le (by omega) (by omega)] at c_10
        refine lv_iconst (v := (-1)) hx hb dX3_least_42 (by decide) ?_
        exact W.iret (v := (-1)) hx hb hr (fun t_9 ht_9 hW_9 => ⟨⟨(-1), (e1, r1, g1), rfl, (show (-1) = (leastF (fun w => shw kd s0 s1 on vl n ni no f w) (wordsN ni) 0) ∧ SOK kd s0 s1 on vl n ni no e1 r1 from ⟨(hg.trans (leastF_end (by omega))).symm, hs1⟩), ⟨by rw [ht_9]; exact hP, hD⟩⟩, hS.F ht_9⟩) hS.2.2 dX3_least_43
      · skip
        rw [zc_le (by omega) (by omega)] at c_10
        refine lv_aload_n hx hb dX3_least_13 rfl (lv_at hl 0 rfl) ?_
        refine lv_iload_n hx hb dX3_least_14 rfl (lv_at hl 1 rfl) ?_
        refine lv_iload_n hx hb dX3_least_15 rfl (lv_at hl 2 rfl) ?_
        have hPc := hP.sub (ws' := [(qS, .inr (3, [.ref qc, .ref qse, .ref qre, .ref qcg])), (qse, .inl (cJ, 1600, .inr (.inl e1))), (qre, .inl (cZ, 100, .inl r1)), (qcg, .inl (cJ, 100, .inr (.inl g1))), (qc, .inr (0, [.ref qk, .ref q0, .ref q1, .ref qo, .ref qv, .int (nI n), .int (nI ni), .int (nI no)])), (qk, .inl (cI, 100, .inl kd)), (q0, .inl (cI, 100, .inl s0)), (q1, .inl (cI, 100, .inl s1)), (qo, .inl (cI, 12, .inl on)), (qv, .inl (cJ, 1600, .inr (.inl vl)))]) [0, 1, 2, 3, 4, 5, 6, 7, 8, 9] rfl
        have hDc := hD.sub (ws' := [(qS, .inr (3, [.ref qc, .ref qse, .ref qre, .ref qcg])), (qse, .inl (cJ, 1600, .inr (.inl e1))), (qre, .inl (cZ, 100, .inl r1)), (qcg, .inl (cJ, 100, .inr (.inl g1))), (qc, .inr (0, [.ref qk, .ref q0, .ref q1, .ref qo, .ref qv, .int (nI n), .int (nI ni), .int (nI no)])), (qk, .inl (cI, 100, .inl kd)), (q0, .inl (cI, 100, .inl s0)), (q1, .inl (cI, 100, .inl s1)), (qo, .inl (cI, 12, .inl on)), (qv, .inl (cJ, 1600, .inr (.inl vl)))]) [0, 1, 2, 3, 4, 5, 6, 7, 8, 9] (by decide) rfl
        have hFc := va_free (wc := [(qS, .inr (3, [.ref qc, .ref qse, .ref qre, .ref qcg])), (qse, .inl (cJ, 1600, .inr (.inl e1))), (qre, .inl (cZ, 100, .inl r1)), (qcg, .inl (cJ, 100, .inr (.inl g1))), (qc, .inr (0, [.ref qk, .ref q0, .ref q1, .ref qo, .ref qv, .int (nI n), .int (nI ni), .int (nI no)])), (qk, .inl (cI, 100, .inl kd)), (q0, .inl (cI, 100, .inl s0)), (q1, .inl (cI, 100, .inl s1)), (qo, .inl (cI, 12, .inl on)), (qv, .inl (cJ, 1600, .inr (.inl vl)))]) hD hS hA [0, 1, 2, 3, 4, 5, 6, 7, 8, 9] rfl
        refine va_calll (va_runV (As := [.int (nI f), .int (nI i)]) (rest := []) ⟨hx, hb, hml, hown, hts⟩ (c_X3_showing l D cI cJ cZ qc qk q0 q1 qo qv kd s0 s1 on vl n ni no qS qse qre qcg e1 r1 g1 f i H.size _ rfl (by omega) (by omega) hwf hwo (by omega) hnet hline hs1 (by omega)) (cwV 2 hts gX3_least_X3_showing rfl rfl rfl (by decide +kernel) ⟨Nat.le_of_ble_eq_true rfl, Nat.le_of_ble_eq_true rfl⟩) ⟨PW.blind, va_recv hK hPc (ci := 3) (q0 := 0) rfl rfl, fun U hU hW => ⟨rfl, PW.to hPc hK hNB hDc hU hW⟩⟩ rfl rfl hl.1 rfl (lv_room (Nat.le_of_ble_eq_true rfl)) dX3_least_16 ⟨Nat.le_of_ble_eq_true rfl, Nat.le_of_ble_eq_true rfl⟩) hS (fun q _ h => hFc q h) hFc (fun r_2 u_9 t_9 H1_9 locs ht_9 hvm_9 hw_9 hB_9 hz1_9 hk1_9 hS => ?_)
        obtain ⟨se2_3, re2_4, cg2_5⟩ := u_9
        obtain ⟨hP1_9, hD1_9⟩ := hB_9
        rw [ht_9] at hP1_9
        obtain ⟨rfl, k_ok⟩ := hw_9
        have k_ok : SOK kd s0 s1 on vl n ni no se2_3 re2_4 := k_ok
        obtain ⟨hP, hD⟩ := va_join (wr := []) (w1 := [(qS, .inr (3, [.ref qc, .ref qse, .ref qre, .ref qcg])), (qse, .inl (cJ, 1600, .inr (.inl se2_3))), (qre, .inl (cZ, 100, .inl re2_4)), (qcg, .inl (cJ, 100, .inr (.inl cg2_5))), (qc, .inr (0, [.ref qk, .ref q0, .ref q1, .ref qo, .ref qv, .int (nI n), .int (nI ni), .int (nI no)])), (qk, .inl (cI, 100, .inl kd)), (q0, .inl (cI, 100, .inl s0)), (q1, .inl (cI, 100, .inl s1)), (qo, .inl (cI, 12, .inl on)), (qv, .inl (cJ, 1600, .inr (.inl vl)))]) hP hD [0, 1, 2, 3, 4, 5, 6, 7, 8, 9] [] rfl rfl (by decide) (by decide) hk1_9 hFc hP1_9 hD1_9
        generalize H1_9 = H at hP hS ⊢
        have hP : va_P D vwCl [(qS, .inr (3, [.ref qc, .ref qse, .ref qre, .ref qcg])), (qse, .inl (cJ, 1600, .inr (.inl se2_3))), (qre, .inl (cZ, 100, .inl re2_4)), (qcg, .inl (cJ, 100, .inr (.inl cg2_5))), (qc, .inr (0, [.ref qk, .ref q0, .ref q1, .ref qo, .ref qv, .int (nI n), .int (nI ni), .int (nI no)])), (qk, .inl (cI, 100, .inl kd)), (q0, .inl (cI, 100, .inl s0)), (q1, .inl (cI, 100, .inl s1)), (qo, .inl (cI, 12, .inl on)), (qv, .inl (cJ, 1600, .inr (.inl vl)))] H := hP
        have hD : va_D A [(qS, .inr (3, [.ref qc, .ref qse, .ref qre, .ref qcg])), (qse, .inl (cJ, 1600, .inr (.inl se2_3))), (qre, .inl (cZ, 100, .inl re2_4)), (qcg, .inl (cJ, 100, .inr (.inl cg2_5))), (qc, .inr (0, [.ref qk, .ref q0, .ref q1, .ref qo, .ref qv, .int (nI n), .int (nI ni), .int (nI no)])), (qk, .inl (cI, 100, .inl kd)), (q0, .inl (cI, 100, .inl s0)), (q1, .inl (cI, 100, .inl s1)), (qo, .inl (cI, 12, .inl on)), (qv, .inl (cJ, 1600, .inr (.inl vl)))] := hD
        refine lv_lstore_n (lv' := [(3, .long (shw kd s0 s1 on vl n ni no f i)), (0, .ref qS), (1, .int (nI f)), (2, .int (nI i))]) hx hb dX3_least_19 rfl hl (by decide) rfl (fun ls hl => ?_)
        refine lv_lload_n hx hb dX3_least_20 rfl (lv_at hl 0 rfl) ?_
        refine lv_lconst (v := 0) hx hb dX3_least_21 (by decide) ?_
        refine W.lcmp hx hb dX3_least_22 ?_
        refine lv_if_eq (tgt := 36) hx hb dX3_least_23 (by decide) (fun c_23 => ?_) (fun c_23 => ?_)
        · skip
          rw [zc_lcmp] at c_23
          refine lv_iinc (v := (nI (i + 1))) (lv' := [(2, .int (nI (i + 1))), (3, .long (shw kd s0 s1 on vl n ni no f i)), (0, .ref qS), (1, .int (nI f))]) hx hb dX3_least_36 hl (k := 3) rfl (nI_add _ 1) (by decide) rfl (fun ls hl => ?_)
          refine lv_goto (tgt := 2) hx hb dX3_least_39 (by decide) ?_
          exact ih2 (i + 1) se2_3 re2_4 cg2_5 (by omega) (hg.trans (leastF_next (by omega) c_23)) k_ok (by omega) _ _ hP hD hS ls (lv_sub hl [2, 3, 0] rfl)
        · skip
          rw [zc_lcmp] at c_23
          refine lv_iload_n hx hb dX3_least_26 rfl (lv_at hl 3 rfl) ?_
          refine lv_bipush (v := (nI 64)) hx hb dX3_least_27 (by decide) ?_
          refine lv_imul hx hb dX3_least_29 ?_
          refine zz_i (z := (nI (i * 64))) (pk_mul _ _) ?_
          refine lv_lload_n hx hb dX3_least_30 rfl (lv_at hl 0 rfl) ?_
          refine vp_callSi (va_runSN (As := [.long (shw kd s0 s1 on vl n ni no f i)]) (rest := [.int (nI (i * 64))]) ⟨hx, hb, hml, hown, hts⟩ (c_X4_lowestBit l (shw kd s0 s1 on vl n ni no f i) c_23) ⟨(va_cnB 1 hts gX3_least_X4_lowestBit_n36 rfl rfl rfl hNB.2.2.2.2.2.1 (hts (.initialized RX4) (by decide +kernel)) (by decide +kernel) ⟨Nat.le_of_ble_eq_true rfl, Nat.le_of_ble_eq_true rfl⟩), hts (.static yX4_lowestBit) (by decide +kernel), trivial⟩ ⟨zt_blind, fun U hU hW => ⟨rfl, trivial⟩⟩ rfl rfl hl.1 rfl (lv_room (Nat.le_of_ble_eq_true rfl)) dX3_least_31 ⟨Nat.le_of_ble_eq_true rfl, Nat.le_of_ble_eq_true rfl⟩).run (fun r_6 hrr_6 => ?_)
          subst hrr_6
          refine lv_iadd hx hb dX3_least_34 ?_
          refine zz_i (z := (nI ((i * 64) + (lowN (shw kd s0 s1 on vl n ni no f i))))) (nI_add _ _) ?_
          exact W.iret (v := (nI ((i * 64) + (lowN (shw kd s0 s1 on vl n ni no f i))))) hx hb hr (fun t_9 ht_9 hW_9 => ⟨⟨(nI ((i * 64) + (lowN (shw kd s0 s1 on vl n ni no f i)))), (se2_3, re2_4, cg2_5), rfl, (show (nI ((i * 64) + (lowN (shw kd s0 s1 on vl n ni no f i)))) = (leastF (fun w => shw kd s0 s1 on vl n ni no f w) (wordsN ni) 0) ∧ SOK kd s0 s1 on vl n ni no se2_3 re2_4 from ⟨(hg.trans (leastF_hit (by omega) c_23)).symm, k_ok⟩), ⟨by rw [ht_9]; exact hP, hD⟩⟩, hS.F ht_9⟩) hS.2.2 dX3_least_35
  exact loop2 ((wordsN ni - 0) + 1) 0 se re cg (Nat.zero_le _) rfl hs (Nat.lt_succ_self _) _ _ hP hD hS ls (lv_sub hl [1, 2, 0] rfl)

set_option maxHeartbeats 4000000 in
set_option maxRecDepth 100000 in
theorem c_X3_howMany (l : Launch) (D : va_G) (cI cJ cZ : ClassId) (qc : Nat) (qk : Nat) (q0 : Nat) (q1 : Nat) (qo : Nat) (qv : Nat) (kd : Nat → Int32) (s0 : Nat → Int32) (s1 : Nat → Int32) (on : Nat → Int32) (vl : Nat → Int64) (n : Nat) (ni : Nat) (no : Nat) (qS : Nat) (qse : Nat) (qre : Nat) (qcg : Nat) (se : Nat → Int64) (re : Nat → Int32) (cg : Nat → Int64) (f : Nat) (sz : Nat) (A : Nat → Prop) (hAe : A = va_A [(qS, .inr (3, [.ref qc, .ref qse, .ref qre, .ref qcg])), (qse, .inl (cJ, 1600, .inr (.inl se))), (qre, .inl (cZ, 100, .inl re)), (qcg, .inl (cJ, 100, .inr (.inl cg))), (qc, .inr (0, [.ref qk, .ref q0, .ref q1, .ref qo, .ref qv, .int (nI n), .int (nI ni), .int (nI no)])), (qk, .inl (cI, 100, .inl kd)), (q0, .inl (cI, 100, .inl s0)), (q1, .inl (cI, 100, .inl s1)), (qo, .inl (cI, 12, .inl on)), (qv, .inl (cJ, 1600, .inr (.inl vl)))] sz) (hn : n ≤ 100) (hno : no ≤ 12) (hwf : WF n kd s0 s1) (hwo : WO n no on) (hni : ni ≤ 10) (hnet : f / 6 < n) (hline : f % 6 / 2 = 0 ∨ ¬ kd (f / 6) = (-1)) (hs : SOK kd s0 s1 on vl n ni no se re) : Met l yX3_howMany wsX3_howMany ({ frames := 4, cells := 0, slots := 0, locals := 135 } : Room) (va_Pc [.ref qS, .int (nI f)] (PW D cI cJ cZ [(qS, .inr (3, [.ref qc, .ref qse, .ref qre, .ref qcg])), (qse, .inl (cJ, 1600, .inr (.inl se))), (qre, .inl (cZ, 100, .inl re)), (qcg, .inl (cJ, 100, .inr (.inl cg))), (qc, .inr (0, [.ref qk, .ref q0, .ref q1, .ref qo, .ref qv, .int (nI n), .int (nI ni), .int (nI no)])), (qk, .inl (cI, 100, .inl kd)), (q0, .inl (cI, 100, .inl s0)), (q1, .inl (cI, 100, .inl s1)), (qo, .inl (cI, 12, .inl on)), (qv, .inl (cJ, 1600, .inr (.inl vl)))] sz)) (va_Qi (fun (r_9 : Int32) (u9 : (Nat → Int64) × (Nat → Int32) × (Nat → Int64)) => match u9 with | (se2, re2, cg2) => r_9 = (nI (sumF (fun w => popN (shw kd s0 s1 on vl n ni no f w)) (wordsN ni))) ∧ SOK kd s0 s1 on vl n ni no se2 re2) (fun (u9 : (Nat → Int64) × (Nat → Int32) × (Nat → Int64)) t => match u9 with | (se2, re2, cg2) => PQ D A [(qS, .inr (3, [.ref qc, .ref qse, .ref qre, .ref qcg])), (qse, .inl (cJ, 1600, .inr (.inl se2))), (qre, .inl (cZ, 100, .inl re2)), (qcg, .inl (cJ, 100, .inr (.inl cg2))), (qc, .inr (0, [.ref qk, .ref q0, .ref q1, .ref qo, .ref qv, .int (nI n), .int (nI ni), .int (nI no)])), (qk, .inl (cI, 100, .inl kd)), (q0, .inl (cI, 100, .inl s0)), (q1, .inl (cI, 100, .inl s1)), (qo, .inl (cI, 12, .inl on)), (qv, .inl (cJ, 1600, .inr (.inl vl)))] t) A) 0 0 A := by
  refine Met.ofW (cc := cX3_howMany) (maxL := 4) (ret := (some .int)) (by decide) rfl ?_
  intro p e s m args below meth c s₁ B hml hv
  obtain ⟨rfl, hsz, ⟨hP, hK, hNB⟩, hD0⟩ := hv
  have hx := B.exec
  have hb := B.bytes
  have hr := B.returns
  have hts := atoms_spec (ws := wsX3_howMany) B.pre
  have hown : s.vm.findClass RX3 = some m.cls := findClass_of_methodNamed B.named
  have hlocks := B.notSynchronized
  have hiX3 : ∀ w ∈ u_ws RX3 TX3 4, w ∈ wsX3_howMany := by decide +kernel
  subst hsz
  have hD : va_D A [(qS, .inr (3, [.ref qc, .ref qse, .ref qre, .ref qcg])), (qse, .inl (cJ, 1600, .inr (.inl se))), (qre, .inl (cZ, 100, .inl re)), (qcg, .inl (cJ, 100, .inr (.inl cg))), (qc, .inr (0, [.ref qk, .ref q0, .ref q1, .ref qo, .ref qv, .int (nI n), .int (nI ni), .int (nI no)])), (qk, .inl (cI, 100, .inl kd)), (q0, .inl (cI, 100, .inl s0)), (q1, .inl (cI, 100, .inl s1)), (qo, .inl (cI, 12, .inl on)), (qv, .inl (cJ, 1600, .inr (.inl vl)))] := by rw [hAe]; exact hD0.self
  have hA : ∀ q : Nat, s.heap.size ≤ q → A q := fun q h => by rw [hAe]; exact Or.inr h
  have hS : va_S A s.heap s.heap [] := va_S.rf
  have hl := lv_entry ([.ref qS, .int (nI f)]) (n := 4) (Nat.le_of_ble_eq_true rfl)
  rw [lg_entry_eq]
  generalize (lg_sl ([.ref qS, .int (nI f)]) ++ List.replicate (4 - (lg_sl ([.ref qS, .int (nI f)])).length) Slot.unset).toArray = ls at hl ⊢
  have hl : lv_has ls 4 [(0, .ref qS), (1, .int (nI f))] := hl
  have hw16 := wordsN_le hni
  refine lv_iconst (v := (nI 0)) hx hb dX3_howMany_0 (by decide) ?_
  refine lv_istore_n (lv' := [(2, .int (nI 0)), (0, .ref qS), (1, .int (nI f))]) hx hb dX3_howMany_1 rfl hl (by decide) rfl (fun ls hl => ?_)
  refine lv_iconst (v := (nI 0)) hx hb dX3_howMany_2 (by decide) ?_
  refine lv_istore_n (lv' := [(3, .int (nI 0)), (2, .int (nI 0)), (0, .ref qS), (1, .int (nI f))]) hx hb dX3_howMany_3 rfl hl (by decide) rfl (fun ls hl => ?_)
  have loop4 : ∀ (n4 : Nat) (i : Nat) (ac : Nat) (e1 : Nat → Int64) (r1 : Nat → Int32) (g1 : Nat → Int64) (hi : i ≤ wordsN ni) (hac : ac = sumF (fun w => popN (shw kd s0 s1 on vl n ni no f w)) i) (hs1 : SOK kd s0 s1 on vl n ni no e1 r1), wordsN ni - i < n4 → ∀ (H : Heap) (locs : List Loc), va_P D vwCl [(qS, .inr (3, [.ref qc, .ref qse, .ref qre, .ref qcg])), (qse, .inl (cJ, 1600, .inr (.inl e1))), (qre, .inl (cZ, 100, .inl r1)), (qcg, .inl (cJ, 100, .inr (.inl g1))), (qc, .inr (0, [.ref qk, .ref q0, .ref q1, .ref qo, .ref qv, .int (nI n), .int (nI ni), .int (nI no)])), (qk, .inl (cI, 100, .inl kd)), (q0, .inl (cI, 100, .inl s0)), (q1, .inl (cI, 100, .inl s1)), (qo, .inl (cI, 12, .inl on)), (qv, .inl (cJ, 1600, .inr (.inl vl)))] H → va_D A [(qS, .inr (3, [.ref qc, .ref qse, .ref qre, .ref qcg])), (qse, .inl (cJ, 1600, .inr (.inl e1))), (qre, .inl (cZ, 100, .inl r1)), (qcg, .inl (cJ, 100, .inr (.inl g1))), (qc, .inr (0, [.ref qk, .ref q0, .ref q1, .ref qo, .ref qv, .int (nI n), .int (nI ni), .int (nI no)])), (qk, .inl (cI, 100, .inl kd)), (q0, .inl (cI, 100, .inl s0)), (q1, .inl (cI, 100, .inl s1)), (qo, .inl (cI, 12, .inl on)), (qv, .inl (cJ, 1600, .inr (.inl vl)))] → va_S A s.heap H locs → ∀ (ls : Array Slot), lv_has ls 4 [(0, .ref qS), (1, .int (nI f)), (2, .int (nI ac)), (3, .int (nI i))] → W p l e (headSpec wsX3_howMany ({ frames := 4, cells := 0, slots := 0, locals := 135 } : Room)).room s m ([.ref qS, .int (nI f)] : List Value).toArray below meth c H locs 0 0 (MQ below (va_Qi (fun (r_9 : Int32) (u9 : (Nat → Int64) × (Nat → Int32) × (Nat → Int64)) => match u9 with | (se2, re2, cg2) => r_9 = (nI (sumF (fun w => popN (shw kd s0 s1 on vl n ni no f w)) (wordsN ni))) ∧ SOK kd s0 s1 on vl n ni no se2 re2) (fun (u9 : (Nat → Int64) × (Nat → Int32) × (Nat → Int64)) t => match u9 with | (se2, re2, cg2) => PQ D A [(qS, .inr (3, [.ref qc, .ref qse, .ref qre, .ref qcg])), (qse, .inl (cJ, 1600, .inr (.inl se2))), (qre, .inl (cZ, 100, .inl re2)), (qcg, .inl (cJ, 100, .inr (.inl cg2))), (qc, .inr (0, [.ref qk, .ref q0, .ref q1, .ref qo, .ref qv, .int (nI n), .int (nI ni), .int (nI no)])), (qk, .inl (cI, 100, .inl kd)), (q0, .inl (cI, 100, .inl s0)), (q1, .inl (cI, 100, .inl s1)), (qo, .inl (cI, 12, .inl on)), (qv, .inl (cJ, 1600, .inr (.inl vl)))] t) A) ([.ref qS, .int (nI f)] : List Value).toArray s 0 0 A) (F0 m 4 ls []) := by
    intro n4
    induction n4 with
    | zero => intro i ac e1 r1 g1 hi hac hs1 hm; exact absurd hm (Nat.not_lt_zero _)
    | succ n4 ih4 =>
      intro i ac e1 r1 g1 hi hac hs1 hm4 H locs hP hD hS ls hl
      refine lv_iload_n hx hb dX3_howMany_4 rfl (lv_at hl 3 rfl) ?_
      refine lv_aload_n hx hb dX3_howMany_5 rfl (lv_at hl 0 rfl) ?_
      refine va_get (D := D) (ci := 3) (v := .ref qc) (C := RX3) (T := TX3) (N := 4) hx hb hts hiX3 hown hK hP 0 rfl rfl 0 (by decide) (hts (.fieldLink RX3 22 "FaultSearch$Sight" "chip" "LFaultSearch$Chip;") (by decide +kernel)) (fun _ h9 => h9) rfl dX3_howMany_6 ?_
      have hPc := hP.sub (ws' := [(qc, .inr (0, [.ref qk, .ref q0, .ref q1, .ref qo, .ref qv, .int (nI n), .int (nI ni), .int (nI no)])), (qk, .inl (cI, 100, .inl kd)), (q0, .inl (cI, 100, .inl s0)), (q1, .inl (cI, 100, .inl s1)), (qo, .inl (cI, 12, .inl on)), (qv, .inl (cJ, 1600, .inr (.inl vl)))]) [4, 5, 6, 7, 8, 9] rfl
      refine vp_callSi (va_runV (As := []) (rest := [.int (nI i)]) ⟨hx, hb, hml, hown, hts⟩ (c_X0_words l D cI cJ cZ qc qk q0 q1 qo qv kd s0 s1 on vl n ni no (by omega)) (cwV 0 hts gX3_howMany_X0_words rfl rfl rfl (by decide +kernel) ⟨Nat.le_of_ble_eq_true rfl, Nat.le_of_ble_eq_true rfl⟩) ⟨PR.blind, va_recv hK hPc (ci := 0) (q0 := 0) rfl rfl, fun U hU hW => ⟨rfl, PR.to hPc hK hNB hU hW⟩⟩ rfl rfl hl.1 rfl (lv_room (Nat.le_of_ble_eq_true rfl)) dX3_howMany_9 ⟨Nat.le_of_ble_eq_true rfl, Nat.le_of_ble_eq_true rfl⟩).run (fun r_1 hrr_1 => ?_)
      subst hrr_1
      refine lv_icmp_ge (tgt := 33) hx hb dX3_howMany_12 (by decide) (fun c_12 => ?_) (fun c_12 => ?_)
      · skip
        rw [zc_le (by omega) (by omega)] at c_12
        refine lv_iload_n hx hb dX3_howMany_33 rfl (lv_at hl 2 rfl) ?_
        exact W.iret (v := (nI ac)) hx hb hr (fun t_9 ht_9 hW_9 => ⟨⟨(nI ac), (e1, r1, g1), rfl, (show (nI ac) = (nI (sumF (fun w => popN (shw kd s0 s1 on vl n ni no f w)) (wordsN ni))) ∧ SOK kd s0 s1 on vl n ni no e1 r1 from ⟨(by rw [hac, show i = wordsN ni by omega]), hs1⟩), ⟨by rw [ht_9]; exact hP, hD⟩⟩, hS.F ht_9⟩) hS.2.2 dX3_howMany_34
      · skip
        rw [zc_le (by omega) (by omega)] at c_12
        refine lv_iload_n hx hb dX3_howMany_15 rfl (lv_at hl 2 rfl) ?_
        refine lv_aload_n hx hb dX3_howMany_16 rfl (lv_at hl 0 rfl) ?_
        refine lv_iload_n hx hb dX3_howMany_17 rfl (lv_at hl 1 rfl) ?_
        refine lv_iload_n hx hb dX3_howMany_18 rfl (lv_at hl 3 rfl) ?_
        have hPc := hP.sub (ws' := [(qS, .inr (3, [.ref qc, .ref qse, .ref qre, .ref qcg])), (qse, .inl (cJ, 1600, .inr (.inl e1))), (qre, .inl (cZ, 100, .inl r1)), (qcg, .inl (cJ, 100, .inr (.inl g1))), (qc, .inr (0, [.ref qk, .ref q0, .ref q1, .ref qo, .ref qv, .int (nI n), .int (nI ni), .int (nI no)])), (qk, .inl (cI, 100, .inl kd)), (q0, .inl (cI, 100, .inl s0)), (q1, .inl (cI, 100, .inl s1)), (qo, .inl (cI, 12, .inl on)), (qv, .inl (cJ, 1600, .inr (.inl vl)))]) [0, 1, 2, 3, 4, 5, 6, 7, 8, 9] rfl
        have hDc := hD.sub (ws' := [(qS, .inr (3, [.ref qc, .ref qse, .ref qre, .ref qcg])), (qse, .inl (cJ, 1600, .inr (.inl e1))), (qre, .inl (cZ, 100, .inl r1)), (qcg, .inl (cJ, 100, .inr (.inl g1))), (qc, .inr (0, [.ref qk, .ref q0, .ref q1, .ref qo, .ref qv, .int (nI n), .int (nI ni), .int (nI no)])), (qk, .inl (cI, 100, .inl kd)), (q0, .inl (cI, 100, .inl s0)), (q1, .inl (cI, 100, .inl s1)), (qo, .inl (cI, 12, .inl on)), (qv, .inl (cJ, 1600, .inr (.inl vl)))]) [0, 1, 2, 3, 4, 5, 6, 7, 8, 9] (by decide) rfl
        have hFc := va_free (wc := [(qS, .inr (3, [.ref qc, .ref qse, .ref qre, .ref qcg])), (qse, .inl (cJ, 1600, .inr (.inl e1))), (qre, .inl (cZ, 100, .inl r1)), (qcg, .inl (cJ, 100, .inr (.inl g1))), (qc, .inr (0, [.ref qk, .ref q0, .ref q1, .ref qo, .ref qv, .int (nI n), .int (nI ni), .int (nI no)])), (qk, .inl (cI, 100, .inl kd)), (q0, .inl (cI, 100, .inl s0)), (q1, .inl (cI, 100, .inl s1)), (qo, .inl (cI, 12, .inl on)), (qv, .inl (cJ, 1600, .inr (.inl vl)))]) hD hS hA [0, 1, 2, 3, 4, 5, 6, 7, 8, 9] rfl
        refine va_calll (va_runV (As := [.int (nI f), .int (nI i)]) (rest := [.int (nI ac)]) ⟨hx, hb, hml, hown, hts⟩ (c_X3_showing l D cI cJ cZ qc qk q0 q1 qo qv kd s0 s1 on vl n ni no qS qse qre qcg e1 r1 g1 f i H.size _ rfl (by omega) (by omega) hwf hwo (by omega) hnet hline hs1 (by omega)) (cwV 2 hts gX3_howMany_X3_showing rfl rfl rfl (by decide +kernel) ⟨Nat.le_of_ble_eq_true rfl, Nat.le_of_ble_eq_true rfl⟩) ⟨PW.blind, va_recv hK hPc (ci := 3) (q0 := 0) rfl rfl, fun U hU hW => ⟨rfl, PW.to hPc hK hNB hDc hU hW⟩⟩ rfl rfl hl.1 rfl (lv_room (Nat.le_of_ble_eq_true rfl)) dX3_howMany_19 ⟨Nat.le_of_ble_eq_true rfl, Nat.le_of_ble_eq_true rfl⟩) hS (fun q _ h => hFc q h) hFc (fun r_2 u_9 t_9 H1_9 locs ht_9 hvm_9 hw_9 hB_9 hz1_9 hk1_9 hS => ?_)
        obtain ⟨se2_3, re2_4, cg2_5⟩ := u_9
        obtain ⟨hP1_9, hD1_9⟩ := hB_9
        rw [ht_9] at hP1_9
        obtain ⟨rfl, k_ok⟩ := hw_9
        have k_ok : SOK kd s0 s1 on vl n ni no se2_3 re2_4 := k_ok
        obtain ⟨hP, hD⟩ := va_join (wr := []) (w1 := [(qS, .inr (3, [.ref qc, .ref qse, .ref qre, .ref qcg])), (qse, .inl (cJ, 1600, .inr (.inl se2_3))), (qre, .inl (cZ, 100, .inl re2_4)), (qcg, .inl (cJ, 100, .inr (.inl cg2_5))), (qc, .inr (0, [.ref qk, .ref q0, .ref q1, .ref qo, .ref qv, .int (nI n), .int (nI ni), .int (nI no)])), (qk, .inl (cI, 100, .inl kd)), (q0, .inl (cI, 100, .inl s0)), (q1, .inl (cI, 100, .inl s1)), (qo, .inl (cI, 12, .inl on)), (qv, .inl (cJ, 1600, .inr (.inl vl)))]) hP hD [0, 1, 2, 3, 4, 5, 6, 7, 8, 9] [] rfl rfl (by decide) (by decide) hk1_9 hFc hP1_9 hD1_9
        generalize H1_9 = H at hP hS ⊢
        have hP : va_P D vwCl [(qS, .inr (3, [.ref qc, .ref qse, .ref qre, .ref qcg])), (qse, .inl (cJ, 1600, .inr (.inl se2_3))), (qre, .inl (cZ, 100, .inl re2_4)), (qcg, .inl (cJ, 100, .inr (.inl cg2_5))), (qc, .inr (0, [.ref qk, .ref q0, .ref q1, .ref qo, .ref qv, .int (nI n), .int (nI ni), .int (nI no)])), (qk, .inl (cI, 100, .inl kd)), (q0, .inl (cI, 100, .inl s0)), (q1, .inl (cI, 100, .inl s1)), (qo, .inl (cI, 12, .inl on)), (qv, .inl (cJ, 1600, .inr (.inl vl)))] H := hP
        have hD : va_D A [(qS, .inr (3, [.ref qc, .ref qse, .ref qre, .ref qcg])), (qse, .inl (cJ, 1600, .inr (.inl se2_3))), (qre, .inl (cZ, 100, .inl re2_4)), (qcg, .inl (cJ, 100, .inr (.inl cg2_5))), (qc, .inr (0, [.ref qk, .ref q0, .ref q1, .ref qo, .ref qv, .int (nI n), .int (nI ni), .int (nI no)])), (qk, .inl (cI, 100, .inl kd)), (q0, .inl (cI, 100, .inl s0)), (q1, .inl (cI, 100, .inl s1)), (qo, .inl (cI, 12, .inl on)), (qv, .inl (cJ, 1600, .inr (.inl vl)))] := hD
        refine vp_callSi (va_runS (As := [.long (shw kd s0 s1 on vl n ni no f i)]) (rest := [.int (nI ac)]) ⟨hx, hb, hml, hown, hts⟩ (c_J13_bitCount_95d88 l (shw kd s0 s1 on vl n ni no f i)) (va_cwS 1 hts gX3_howMany_J13_bitCount_95d88 rfl rfl rfl (by decide +kernel) ⟨Nat.le_of_ble_eq_true rfl, Nat.le_of_ble_eq_true rfl⟩) ⟨zt_blind, fun U hU hW => ⟨rfl, trivial⟩⟩ rfl rfl hl.1 rfl (lv_room (Nat.le_of_ble_eq_true rfl)) dX3_howMany_22 ⟨Nat.le_of_ble_eq_true rfl, Nat.le_of_ble_eq_true rfl⟩).run (fun r_6 hrr_6 => ?_)
        subst hrr_6
        refine lv_iadd hx hb dX3_howMany_25 ?_
        refine zz_i (z := (nI (ac + (popN (shw kd s0 s1 on vl n ni no f i))))) (nI_add _ _) ?_
        refine lv_istore_n (lv' := [(2, .int (nI (ac + (popN (shw kd s0 s1 on vl n ni no f i))))), (0, .ref qS), (1, .int (nI f)), (3, .int (nI i))]) hx hb dX3_howMany_26 rfl hl (by decide) rfl (fun ls hl => ?_)
        refine lv_iinc (v := (nI (i + 1))) (lv' := [(3, .int (nI (i + 1))), (2, .int (nI (ac + (popN (shw kd s0 s1 on vl n ni no f i))))), (0, .ref qS), (1, .int (nI f))]) hx hb dX3_howMany_27 hl (k := 3) rfl (nI_add _ 1) (by decide) rfl (fun ls hl => ?_)
        refine lv_goto (tgt := 4) hx hb dX3_howMany_30 (by decide) ?_
        exact ih4 (i + 1) (ac + (popN (shw kd s0 s1 on vl n ni no f i))) se2_3 re2_4 cg2_5 (by omega) (by rw [hac]; rfl) k_ok (by omega) _ _ hP hD hS ls (lv_sub hl [2, 3, 1, 0] rfl)
  exact loop4 ((wordsN ni - 0) + 1) 0 0 se re cg (Nat.zero_le _) rfl hs (Nat.lt_succ_self _) _ _ hP hD hS ls (lv_sub hl [2, 3, 1, 0] rfl)

set_option maxHeartbeats 4000000 in
set_option maxRecDepth 100000 in
theorem c_X3_isSeen (l : Launch) (D : va_G) (cI cJ cZ : ClassId) (qc : Nat) (qk : Nat) (q0 : Nat) (q1 : Nat) (qo : Nat) (qv : Nat) (kd : Nat → Int32) (s0 : Nat → Int32) (s1 : Nat → Int32) (on : Nat → Int32) (vl : Nat → Int64) (n : Nat) (ni : Nat) (no : Nat) (qS : Nat) (qse : Nat) (qre : Nat) (qcg : Nat) (se : Nat → Int64) (re : Nat → Int32) (cg : Nat → Int64) (f : Nat) (a : Nat) (sz : Nat) (A : Nat → Prop) (hAe : A = va_A [(qS, .inr (3, [.ref qc, .ref qse, .ref qre, .ref qcg])), (qse, .inl (cJ, 1600, .inr (.inl se))), (qre, .inl (cZ, 100, .inl re)), (qcg, .inl (cJ, 100, .inr (.inl cg))), (qc, .inr (0, [.ref qk, .ref q0, .ref q1, .ref qo, .ref qv, .int (nI n), .int (nI ni), .int (nI no)])), (qk, .inl (cI, 100, .inl kd)), (q0, .inl (cI, 100, .inl s0)), (q1, .inl (cI, 100, .inl s1)), (qo, .inl (cI, 12, .inl on)), (qv, .inl (cJ, 1600, .inr (.inl vl)))] sz) (hn : n ≤ 100) (hno : no ≤ 12) (hwf : WF n kd s0 s1) (hwo : WO n no on) (hni : ni ≤ 10) (hnet : f / 6 < n) (hline : f % 6 / 2 = 0 ∨ ¬ kd (f / 6) = (-1)) (hs : SOK kd s0 s1 on vl n ni no se re) (ha : a / 64 < wordsN ni) (ha2 : a < 2 ^ 31) : Met l yX3_isSeen wsX3_isSeen ({ frames := 4, cells := 0, slots := 0, locals := 135 } : Room) (va_Pc [.ref qS, .int (nI f), .int (nI a)] (PW D cI cJ cZ [(qS, .inr (3, [.ref qc, .ref qse, .ref qre, .ref qcg])), (qse, .inl (cJ, 1600, .inr (.inl se))), (qre, .inl (cZ, 100, .inl re)), (qcg, .inl (cJ, 100, .inr (.inl cg))), (qc, .inr (0, [.ref qk, .ref q0, .ref q1, .ref qo, .ref qv, .int (nI n), .int (nI ni), .int (nI no)])), (qk, .inl (cI, 100, .inl kd)), (q0, .inl (cI, 100, .inl s0)), (q1, .inl (cI, 100, .inl s1)), (qo, .inl (cI, 12, .inl on)), (qv, .inl (cJ, 1600, .inr (.inl vl)))] sz)) (va_Qi (fun (r_9 : Int32) (u9 : (Nat → Int64) × (Nat → Int32) × (Nat → Int64)) => match u9 with | (se2, re2, cg2) => r_9 = (if bitW (shw kd s0 s1 on vl n ni no f (a / 64)) (nI a) = nI 1 then (1 : Int32) else 0) ∧ SOK kd s0 s1 on vl n ni no se2 re2) (fun (u9 : (Nat → Int64) × (Nat → Int32) × (Nat → Int64)) t => match u9 with | (se2, re2, cg2) => PQ D A [(qS, .inr (3, [.ref qc, .ref qse, .ref qre, .ref qcg])), (qse, .inl (cJ, 1600, .inr (.inl se2))), (qre, .inl (cZ, 100, .inl re2)), (qcg, .inl (cJ, 100, .inr (.inl cg2))), (qc, .inr (0, [.ref qk, .ref q0, .ref q1, .ref qo, .ref qv, .int (nI n), .int (nI ni), .int (nI no)])), (qk, .inl (cI, 100, .inl kd)), (q0, .inl (cI, 100, .inl s0)), (q1, .inl (cI, 100, .inl s1)), (qo, .inl (cI, 12, .inl on)), (qv, .inl (cJ, 1600, .inr (.inl vl)))] t) A) 0 0 A := by
  refine Met.ofW (cc := cX3_isSeen) (maxL := 3) (ret := (some .boolean)) (by decide) rfl ?_
  intro p e s m args below meth c s₁ B hml hv
  obtain ⟨rfl, hsz, ⟨hP, hK, hNB⟩, hD0⟩ := hv
  have hx := B.exec
  have hb := B.bytes
  have hr := B.returns
  have hts := atoms_spec (ws := wsX3_isSeen) B.pre
  have hown : s.vm.findClass RX3 = some m.cls := findClass_of_methodNamed B.named
  have hlocks := B.notSynchronized
  subst hsz
  have hD : va_D A [(qS, .inr (3, [.ref qc, .ref qse, .ref qre, .ref qcg])), (qse, .inl (cJ, 1600, .inr (.inl se))), (qre, .inl (cZ, 100, .inl re)), (qcg, .inl (cJ, 100, .inr (.inl cg))), (qc, .inr (0, [.ref qk, .ref q0, .ref q1, .ref qo, .ref qv, .int (nI n), .int (nI ni), .int (nI no)])), (qk, .inl (cI, 100, .inl kd)), (q0, .inl (cI, 100, .inl s0)), (q1, .inl (cI, 100, .inl s1)), (qo, .inl (cI, 12, .inl on)), (qv, .inl (cJ, 1600, .inr (.inl vl)))] := by rw [hAe]; exact hD0.self
  have hA : ∀ q : Nat, s.heap.size ≤ q → A q := fun q h => by rw [hAe]; exact Or.inr h
  have hS : va_S A s.heap s.heap [] := va_S.rf
  have hl := lv_entry ([.ref qS, .int (nI f), .int (nI a)]) (n := 3) (Nat.le_of_ble_eq_true rfl)
  rw [lg_entry_eq]
  generalize (lg_sl ([.ref qS, .int (nI f), .int (nI a)]) ++ List.replicate (3 - (lg_sl ([.ref qS, .int (nI f), .int (nI a)])).length) Slot.unset).toArray = ls at hl ⊢
  have hl : lv_has ls 3 [(0, .ref qS), (1, .int (nI f)), (2, .int (nI a))] := hl
  refine lv_aload_n hx hb dX3_isSeen_0 rfl (lv_at hl 0 rfl) ?_
  refine lv_iload_n hx hb dX3_isSeen_1 rfl (lv_at hl 1 rfl) ?_
  refine lv_iload_n hx hb dX3_isSeen_2 rfl (lv_at hl 2 rfl) ?_
  refine lv_bipush (v := (nI 64)) hx hb dX3_isSeen_3 (by decide) ?_
  refine lv_idiv hx hb dX3_isSeen_5 (by decide) ?_
  refine zz_i (z := (nI (a / 64))) (pk_div (by omega) (by decide) (by decide)) ?_
  have hPc := hP.sub (ws' := [(qS, .inr (3, [.ref qc, .ref qse, .ref qre, .ref qcg])), (qse, .inl (cJ, 1600, .inr (.inl se))), (qre, .inl (cZ, 100, .inl re)), (qcg, .inl (cJ, 100, .inr (.inl cg))), (qc, .inr (0, [.ref qk, .ref q0, .ref q1, .ref qo, .ref qv, .int (nI n), .int (nI ni), .int (nI no)])), (qk, .inl (cI, 100, .inl kd)), (q0, .inl (cI, 100, .inl s0)), (q1, .inl (cI, 100, .inl s1)), (qo, .inl (cI, 12, .inl on)), (qv, .inl (cJ, 1600, .inr (.inl vl)))]) [0, 1, 2, 3, 4, 5, 6, 7, 8, 9] rfl
  have hDc := hD.sub (ws' := [(qS, .inr (3, [.ref qc, .ref qse, .ref qre, .ref qcg])), (qse, .inl (cJ, 1600, .inr (.inl se))), (qre, .inl (cZ, 100, .inl re)), (qcg, .inl (cJ, 100, .inr (.inl cg))), (qc, .inr (0, [.ref qk, .ref q0, .ref q1, .ref qo, .ref qv, .int (nI n), .int (nI ni), .int (nI no)])), (qk, .inl (cI, 100, .inl kd)), (q0, .inl (cI, 100, .inl s0)), (q1, .inl (cI, 100, .inl s1)), (qo, .inl (cI, 12, .inl on)), (qv, .inl (cJ, 1600, .inr (.inl vl)))]) [0, 1, 2, 3, 4, 5, 6, 7, 8, 9] (by decide) rfl
  have hFc := va_free (wc := [(qS, .inr (3, [.ref qc, .ref qse, .ref qre, .ref qcg])), (qse, .inl (cJ, 1600, .inr (.inl se))), (qre, .inl (cZ, 100, .inl re)), (qcg, .inl (cJ, 100, .inr (.inl cg))), (qc, .inr (0, [.ref qk, .ref q0, .ref q1, .ref qo, .ref qv, .int (nI n), .int (nI ni), .int (nI no)])), (qk, .inl (cI, 100, .inl kd)), (q0, .inl (cI, 100, .inl s0)), (q1, .inl (cI, 100, .inl s1)), (qo, .inl (cI, 12, .inl on)), (qv, .inl (cJ, 1600, .inr (.inl vl)))]) hD hS hA [0, 1, 2, 3, 4, 5, 6, 7, 8, 9] rfl
  refine va_calll (va_runV (As := [.int (nI f), .int (nI (a / 64))]) (rest := []) ⟨hx, hb, hml, hown, hts⟩ (c_X3_showing l D cI cJ cZ qc qk q0 q1 qo qv kd s0 s1 on vl n ni no qS qse qre qcg se re cg f (a / 64) s.heap.size _ rfl (by omega) (by omega) hwf hwo (by omega) hnet hline hs (by omega)) (cwV 2 hts gX3_isSeen_X3_showing rfl rfl rfl (by decide +kernel) ⟨Nat.le_of_ble_eq_true rfl, Nat.le_of_ble_eq_true rfl⟩) ⟨PW.blind, va_recv hK hPc (ci := 3) (q0 := 0) rfl rfl, fun U hU hW => ⟨rfl, PW.to hPc hK hNB hDc hU hW⟩⟩ rfl rfl hl.1 rfl (lv_room (Nat.le_of_ble_eq_true rfl)) dX3_isSeen_6 ⟨Nat.le_of_ble_eq_true rfl, Nat.le_of_ble_eq_true rfl⟩) hS (fun q _ h => hFc q h) hFc (fun r_1 u_9 t_9 H1_9 locs ht_9 hvm_9 hw_9 hB_9 hz1_9 hk1_9 hS => ?_)
  obtain ⟨se2_2, re2_3, cg2_4⟩ := u_9
  obtain ⟨hP1_9, hD1_9⟩ := hB_9
  rw [ht_9] at hP1_9
  obtain ⟨rfl, k_ok⟩ := hw_9
  have k_ok : SOK kd s0 s1 on vl n ni no se2_2 re2_3 := k_ok
  obtain ⟨hP, hD⟩ := va_join (wr := []) (w1 := [(qS, .inr (3, [.ref qc, .ref qse, .ref qre, .ref qcg])), (qse, .inl (cJ, 1600, .inr (.inl se2_2))), (qre, .inl (cZ, 100, .inl re2_3)), (qcg, .inl (cJ, 100, .inr (.inl cg2_4))), (qc, .inr (0, [.ref qk, .ref q0, .ref q1, .ref qo, .ref qv, .int (nI n), .int (nI ni), .int (nI no)])), (qk, .inl (cI, 100, .inl kd)), (q0, .inl (cI, 100, .inl s0)), (q1, .inl (cI, 100, .inl s1)), (qo, .inl (cI, 12, .inl on)), (qv, .inl (cJ, 1600, .inr (.inl vl)))]) hP hD [0, 1, 2, 3, 4, 5, 6, 7, 8, 9] [] rfl rfl (by decide) (by decide) hk1_9 hFc hP1_9 hD1_9
  generalize H1_9 = H at hP hS ⊢
  have hP : va_P D vwCl [(qS, .inr (3, [.ref qc, .ref qse, .ref qre, .ref qcg])), (qse, .inl (cJ, 1600, .inr (.inl se2_2))), (qre, .inl (cZ, 100, .inl re2_3)), (qcg, .inl (cJ, 100, .inr (.inl cg2_4))), (qc, .inr (0, [.ref qk, .ref q0, .ref q1, .ref qo, .ref qv, .int (nI n), .int (nI ni), .int (nI no)])), (qk, .inl (cI, 100, .inl kd)), (q0, .inl (cI, 100, .inl s0)), (q1, .inl (cI, 100, .inl s1)), (qo, .inl (cI, 12, .inl on)), (qv, .inl (cJ, 1600, .inr (.inl vl)))] H := hP
  have hD : va_D A [(qS, .inr (3, [.ref qc, .ref qse, .ref qre, .ref qcg])), (qse, .inl (cJ, 1600, .inr (.inl se2_2))), (qre, .inl (cZ, 100, .inl re2_3)), (qcg, .inl (cJ, 100, .inr (.inl cg2_4))), (qc, .inr (0, [.ref qk, .ref q0, .ref q1, .ref qo, .ref qv, .int (nI n), .int (nI ni), .int (nI no)])), (qk, .inl (cI, 100, .inl kd)), (q0, .inl (cI, 100, .inl s0)), (q1, .inl (cI, 100, .inl s1)), (qo, .inl (cI, 12, .inl on)), (qv, .inl (cJ, 1600, .inr (.inl vl)))] := hD
  refine lv_iload_n hx hb dX3_isSeen_9 rfl (lv_at hl 2 rfl) ?_
  refine vp_callSi (va_runSN (As := [.long (shw kd s0 s1 on vl n ni no f (a / 64)), .int (nI a)]) (rest := []) ⟨hx, hb, hml, hown, hts⟩ (c_X4_bitOf l (shw kd s0 s1 on vl n ni no f (a / 64)) (nI a)) ⟨(va_cnB 2 hts gX3_isSeen_X4_bitOf_n45 rfl rfl rfl hNB.2.2.2.2.2.2.1 (hts (.initialized RX4) (by decide +kernel)) (by decide +kernel) ⟨Nat.le_of_ble_eq_true rfl, Nat.le_of_ble_eq_true rfl⟩), hts (.static yX4_bitOf) (by decide +kernel), trivial⟩ ⟨zt_blind, fun U hU hW => ⟨rfl, trivial⟩⟩ rfl rfl hl.1 rfl (lv_room (Nat.le_of_ble_eq_true rfl)) dX3_isSeen_10 ⟨Nat.le_of_ble_eq_true rfl, Nat.le_of_ble_eq_true rfl⟩).run (fun r_5 hrr_5 => ?_)
  subst hrr_5
  refine lv_iconst (v := (nI 1)) hx hb dX3_isSeen_13 (by decide) ?_
  refine lv_icmp_ne (tgt := 21) hx hb dX3_isSeen_14 (by decide) (fun c_14 => ?_) (fun c_14 => ?_)
  · skip
    refine lv_iconst (v := (nI 0)) hx hb dX3_isSeen_21 (by decide) ?_
    exact W.zret (v := (nI 0)) hx hb hr (rfl) (fun t_9 ht_9 hW_9 => ⟨⟨(nI 0), (se2_2, re2_3, cg2_4), rfl, (show (nI 0) = (if bitW (shw kd s0 s1 on vl n ni no f (a / 64)) (nI a) = nI 1 then (1 : Int32) else 0) ∧ SOK kd s0 s1 on vl n ni no se2_2 re2_3 from ⟨(by first | exact (if_pos c_14).symm | exact (if_neg c_14).symm), k_ok⟩), ⟨by rw [ht_9]; exact hP, hD⟩⟩, hS.F ht_9⟩) hS.2.2 dX3_isSeen_22
  · skip
    refine lv_iconst (v := (nI 1)) hx hb dX3_isSeen_17 (by decide) ?_
    refine lv_goto (tgt := 22) hx hb dX3_isSeen_18 (by decide) ?_
    exact W.zret (v := (nI 1)) hx hb hr (rfl) (fun t_9 ht_9 hW_9 => ⟨⟨(nI 1), (se2_2, re2_3, cg2_4), rfl, (show (nI 1) = (if bitW (shw kd s0 s1 on vl n ni no f (a / 64)) (nI a) = nI 1 then (1 : Int32) else 0) ∧ SOK kd s0 s1 on vl n ni no se2_2 re2_3 from ⟨(by first | exact (if_pos c_14).symm | exact (if_neg c_14).symm), k_ok⟩), ⟨by rw [ht_9]; exact hP, hD⟩⟩, hS.F ht_9⟩) hS.2.2 dX3_isSeen_22
