set_option maxHeartbeats 4000000 in
set_option maxRecDepth 100000 in
theorem c_X4_isOnePin (l : Launch) (k : Int32) : Met l yX4_isOnePin wsX4_isOnePin ({ frames := 0, cells := 0, slots := 0, locals := 0 } : Room) (va_Pc [.int k] (fun _ => True)) (vp_Si (fun r_9 : Int32 => r_9 = (if onePin k then (1 : Int32) else 0))) 0 0 (fun _ => False) := by
  refine Met.ofW (cc := cX4_isOnePin) (maxL := 1) (ret := (some .boolean)) (by decide) rfl ?_
  intro p e s m args below meth c s₁ B hml hv
  obtain ⟨rfl, -⟩ := hv
  have hx := B.exec
  have hb := B.bytes
  have hr := B.returns
  have hts := atoms_spec (ws := wsX4_isOnePin) B.pre
  have hown : s.vm.findClass RX4 = some m.cls := findClass_of_methodNamed B.named
  have hlocks := B.notSynchronized
  have hl := lv_entry ([.int k]) (n := 1) (Nat.le_of_ble_eq_true rfl)
  rw [lg_entry_eq]
  generalize (lg_sl ([.int k]) ++ List.replicate (1 - (lg_sl ([.int k])).length) Slot.unset).toArray = ls at hl ⊢
  have hl : lv_has ls 1 [(0, .int k)] := hl
  refine lv_iload_n hx hb dX4_isOnePin_0 rfl (lv_at hl 0 rfl) ?_
  refine lv_iconst (v := (nI 5)) hx hb dX4_isOnePin_1 (by decide) ?_
  refine lv_icmp_eq (tgt := 11) hx hb dX4_isOnePin_2 (by decide) (fun c_2 => ?_) (fun c_2 => ?_)
  · skip
    refine lv_iconst (v := (nI 1)) hx hb dX4_isOnePin_11 (by decide) ?_
    refine lv_goto (tgt := 16) hx hb dX4_isOnePin_12 (by decide) ?_
    exact W.zret (v := (nI 1)) hx hb hr (rfl) (fun t_9 ht_9 hW_9 => ⟨(nI 1), rfl, (by first | exact (if_pos (by simp_all [onePin, isN])).symm | exact (if_neg (by simp_all [onePin, isN])).symm), ht_9⟩) (fun q h => nomatch h) dX4_isOnePin_16
  · skip
    refine lv_iload_n hx hb dX4_isOnePin_5 rfl (lv_at hl 0 rfl) ?_
    refine lv_bipush (v := (nI 6)) hx hb dX4_isOnePin_6 (by decide) ?_
    refine lv_icmp_ne (tgt := 15) hx hb dX4_isOnePin_8 (by decide) (fun c_8 => ?_) (fun c_8 => ?_)
    · skip
      refine lv_iconst (v := (nI 0)) hx hb dX4_isOnePin_15 (by decide) ?_
      exact W.zret (v := (nI 0)) hx hb hr (rfl) (fun t_9 ht_9 hW_9 => ⟨(nI 0), rfl, (by first | exact (if_pos (by simp_all [onePin, isN])).symm | exact (if_neg (by simp_all [onePin, isN])).symm), ht_9⟩) (fun q h => nomatch h) dX4_isOnePin_16
    · skip
      refine lv_iconst (v := (nI 1)) hx hb dX4_isOnePin_11 (by decide) ?_
      refine lv_goto (tgt := 16) hx hb dX4_isOnePin_12 (by decide) ?_
      exact W.zret (v := (nI 1)) hx hb hr (rfl) (fun t_9 ht_9 hW_9 => ⟨(nI 1), rfl, (by first | exact (if_pos (by simp_all [onePin, isN])).symm | exact (if_neg (by simp_all [onePin, isN])).symm), ht_9⟩) (fun q h => nomatch h) dX4_isOnePin_16

set_option maxHeartbeats 4000000 in
set_option maxRecDepth 100000 in
theorem c_X4_faultOf (l : Launch) (net : Nat) (pin : Int32) (p1 : Nat) (v : Nat) (hp : pin + nI 1 = nI p1) : Met l yX4_faultOf wsX4_faultOf ({ frames := 0, cells := 0, slots := 0, locals := 0 } : Room) (va_Pc [.int (nI net), .int pin, .int (nI v)] (fun _ => True)) (vp_Si (fun r_9 : Int32 => r_9 = (nI (net * 6 + p1 * 2 + v)))) 0 0 (fun _ => False) := by
  refine Met.ofW (cc := cX4_faultOf) (maxL := 3) (ret := (some .int)) (by decide) rfl ?_
  intro p e s m args below meth c s₁ B hml hv
  obtain ⟨rfl, -⟩ := hv
  have hx := B.exec
  have hb := B.bytes
  have hr := B.returns
  have hts := atoms_spec (ws := wsX4_faultOf) B.pre
  have hown : s.vm.findClass RX4 = some m.cls := findClass_of_methodNamed B.named
  have hlocks := B.notSynchronized
  have hl := lv_entry ([.int (nI net), .int pin, .int (nI v)]) (n := 3) (Nat.le_of_ble_eq_true rfl)
  rw [lg_entry_eq]
  generalize (lg_sl ([.int (nI net), .int pin, .int (nI v)]) ++ List.replicate (3 - (lg_sl ([.int (nI net), .int pin, .int (nI v)])).length) Slot.unset).toArray = ls at hl ⊢
  have hl : lv_has ls 3 [(0, .int (nI net)), (1, .int pin), (2, .int (nI v))] := hl
  refine lv_iload_n hx hb dX4_faultOf_0 rfl (lv_at hl 0 rfl) ?_
  refine lv_bipush (v := (nI 6)) hx hb dX4_faultOf_1 (by decide) ?_
  refine lv_imul hx hb dX4_faultOf_3 ?_
  refine zz_i (z := (nI (net * 6))) (pk_mul _ _) ?_
  refine lv_iload_n hx hb dX4_faultOf_4 rfl (lv_at hl 1 rfl) ?_
  refine lv_iconst (v := (nI 1)) hx hb dX4_faultOf_5 (by decide) ?_
  refine lv_iadd hx hb dX4_faultOf_6 ?_
  refine zz_i (z := (nI p1)) hp ?_
  refine lv_iconst (v := (nI 2)) hx hb dX4_faultOf_7 (by decide) ?_
  refine lv_imul hx hb dX4_faultOf_8 ?_
  refine zz_i (z := (nI (p1 * 2))) (pk_mul _ _) ?_
  refine lv_iadd hx hb dX4_faultOf_9 ?_
  refine zz_i (z := (nI ((net * 6) + (p1 * 2)))) (nI_add _ _) ?_
  refine lv_iload_n hx hb dX4_faultOf_10 rfl (lv_at hl 2 rfl) ?_
  refine lv_iadd hx hb dX4_faultOf_11 ?_
  refine zz_i (z := (nI (((net * 6) + (p1 * 2)) + v))) (nI_add _ _) ?_
  exact W.iret (v := (nI (((net * 6) + (p1 * 2)) + v))) hx hb hr (fun t_9 ht_9 hW_9 => ⟨(nI (((net * 6) + (p1 * 2)) + v)), rfl, rfl, ht_9⟩) (fun q h => nomatch h) dX4_faultOf_12

set_option maxHeartbeats 4000000 in
set_option maxRecDepth 100000 in
theorem c_X4_netOf (l : Launch) (f : Nat) (hf : f < 2 ^ 31) : Met l yX4_netOf wsX4_netOf ({ frames := 0, cells := 0, slots := 0, locals := 0 } : Room) (va_Pc [.int (nI f)] (fun _ => True)) (vp_Si (fun r_9 : Int32 => r_9 = (nI (f / 6)))) 0 0 (fun _ => False) := by
  refine Met.ofW (cc := cX4_netOf) (maxL := 1) (ret := (some .int)) (by decide) rfl ?_
  intro p e s m args below meth c s₁ B hml hv
  obtain ⟨rfl, -⟩ := hv
  have hx := B.exec
  have hb := B.bytes
  have hr := B.returns
  have hts := atoms_spec (ws := wsX4_netOf) B.pre
  have hown : s.vm.findClass RX4 = some m.cls := findClass_of_methodNamed B.named
  have hlocks := B.notSynchronized
  have hl := lv_entry ([.int (nI f)]) (n := 1) (Nat.le_of_ble_eq_true rfl)
  rw [lg_entry_eq]
  generalize (lg_sl ([.int (nI f)]) ++ List.replicate (1 - (lg_sl ([.int (nI f)])).length) Slot.unset).toArray = ls at hl ⊢
  have hl : lv_has ls 1 [(0, .int (nI f))] := hl
  refine lv_iload_n hx hb dX4_netOf_0 rfl (lv_at hl 0 rfl) ?_
  refine lv_bipush (v := (nI 6)) hx hb dX4_netOf_1 (by decide) ?_
  refine lv_idiv hx hb dX4_netOf_3 (by decide) ?_
  refine zz_i (z := (nI (f / 6))) (pk_div (by omega) (by decide) (by decide)) ?_
  exact W.iret (v := (nI (f / 6))) hx hb hr (fun t_9 ht_9 hW_9 => ⟨(nI (f / 6)), rfl, rfl, ht_9⟩) (fun q h => nomatch h) dX4_netOf_4

set_option maxHeartbeats 4000000 in
set_option maxRecDepth 100000 in
theorem c_X4_pinOf (l : Launch) (f : Nat) (hf : f < 2 ^ 31) : Met l yX4_pinOf wsX4_pinOf ({ frames := 0, cells := 0, slots := 0, locals := 0 } : Room) (va_Pc [.int (nI f)] (fun _ => True)) (vp_Si (fun r_9 : Int32 => r_9 = (nI (f % 6 / 2) - nI 1))) 0 0 (fun _ => False) := by
  refine Met.ofW (cc := cX4_pinOf) (maxL := 1) (ret := (some .int)) (by decide) rfl ?_
  intro p e s m args below meth c s₁ B hml hv
  obtain ⟨rfl, -⟩ := hv
  have hx := B.exec
  have hb := B.bytes
  have hr := B.returns
  have hts := atoms_spec (ws := wsX4_pinOf) B.pre
  have hown : s.vm.findClass RX4 = some m.cls := findClass_of_methodNamed B.named
  have hlocks := B.notSynchronized
  have hl := lv_entry ([.int (nI f)]) (n := 1) (Nat.le_of_ble_eq_true rfl)
  rw [lg_entry_eq]
  generalize (lg_sl ([.int (nI f)]) ++ List.replicate (1 - (lg_sl ([.int (nI f)])).length) Slot.unset).toArray = ls at hl ⊢
  have hl : lv_has ls 1 [(0, .int (nI f))] := hl
  refine lv_iload_n hx hb dX4_pinOf_0 rfl (lv_at hl 0 rfl) ?_
  refine lv_bipush (v := (nI 6)) hx hb dX4_pinOf_1 (by decide) ?_
  refine lv_irem hx hb dX4_pinOf_3 (by decide) ?_
  refine zz_i (z := (nI (f % 6))) (pk_rem (by omega) (by decide) (by decide)) ?_
  refine lv_iconst (v := (nI 2)) hx hb dX4_pinOf_4 (by decide) ?_
  refine lv_idiv hx hb dX4_pinOf_5 (by decide) ?_
  refine zz_i (z := (nI ((f % 6) / 2))) (pk_div (by omega) (by decide) (by decide)) ?_
  refine lv_iconst (v := (nI 1)) hx hb dX4_pinOf_6 (by decide) ?_
  refine lv_isub hx hb dX4_pinOf_7 ?_
  exact W.iret (v := ((nI ((f % 6) / 2)) - (nI 1))) hx hb hr (fun t_9 ht_9 hW_9 => ⟨((nI ((f % 6) / 2)) - (nI 1)), rfl, rfl, ht_9⟩) (fun q h => nomatch h) dX4_pinOf_8

set_option maxHeartbeats 4000000 in
set_option maxRecDepth 100000 in
theorem c_X4_stuckOf (l : Launch) (f : Nat) (hf : f < 2 ^ 31) : Met l yX4_stuckOf wsX4_stuckOf ({ frames := 0, cells := 0, slots := 0, locals := 0 } : Room) (va_Pc [.int (nI f)] (fun _ => True)) (vp_Si (fun r_9 : Int32 => r_9 = (nI (f % 2)))) 0 0 (fun _ => False) := by
  refine Met.ofW (cc := cX4_stuckOf) (maxL := 1) (ret := (some .int)) (by decide) rfl ?_
  intro p e s m args below meth c s₁ B hml hv
  obtain ⟨rfl, -⟩ := hv
  have hx := B.exec
  have hb := B.bytes
  have hr := B.returns
  have hts := atoms_spec (ws := wsX4_stuckOf) B.pre
  have hown : s.vm.findClass RX4 = some m.cls := findClass_of_methodNamed B.named
  have hlocks := B.notSynchronized
  have hl := lv_entry ([.int (nI f)]) (n := 1) (Nat.le_of_ble_eq_true rfl)
  rw [lg_entry_eq]
  generalize (lg_sl ([.int (nI f)]) ++ List.replicate (1 - (lg_sl ([.int (nI f)])).length) Slot.unset).toArray = ls at hl ⊢
  have hl : lv_has ls 1 [(0, .int (nI f))] := hl
  refine lv_iload_n hx hb dX4_stuckOf_0 rfl (lv_at hl 0 rfl) ?_
  refine lv_iconst (v := (nI 2)) hx hb dX4_stuckOf_1 (by decide) ?_
  refine lv_irem hx hb dX4_stuckOf_2 (by decide) ?_
  refine zz_i (z := (nI (f % 2))) (pk_rem (by omega) (by decide) (by decide)) ?_
  exact W.iret (v := (nI (f % 2))) hx hb hr (fun t_9 ht_9 hW_9 => ⟨(nI (f % 2)), rfl, rfl, ht_9⟩) (fun q h => nomatch h) dX4_stuckOf_3

set_option maxHeartbeats 4000000 in
set_option maxRecDepth 100000 in
theorem c_X4_allOf (l : Launch) (v : Int32) : Met l yX4_allOf wsX4_allOf ({ frames := 0, cells := 0, slots := 0, locals := 0 } : Room) (va_Pc [.int v] (fun _ => True)) (vp_Sl (fun r_9 : Int64 => r_9 = (allW v))) 0 0 (fun _ => False) := by
  refine Met.ofW (cc := cX4_allOf) (maxL := 1) (ret := (some .long)) (by decide) rfl ?_
  intro p e s m args below meth c s₁ B hml hv
  obtain ⟨rfl, -⟩ := hv
  have hx := B.exec
  have hb := B.bytes
  have hr := B.returns
  have hts := atoms_spec (ws := wsX4_allOf) B.pre
  have hown : s.vm.findClass RX4 = some m.cls := findClass_of_methodNamed B.named
  have hlocks := B.notSynchronized
  have hl := lv_entry ([.int v]) (n := 1) (Nat.le_of_ble_eq_true rfl)
  rw [lg_entry_eq]
  generalize (lg_sl ([.int v]) ++ List.replicate (1 - (lg_sl ([.int v])).length) Slot.unset).toArray = ls at hl ⊢
  have hl : lv_has ls 1 [(0, .int v)] := hl
  refine lv_iload_n hx hb dX4_allOf_0 rfl (lv_at hl 0 rfl) ?_
  refine lv_if_ne (tgt := 8) hx hb dX4_allOf_1 (by decide) (fun c_1 => ?_) (fun c_1 => ?_)
  · skip
    refine lv_ldc2 (v := (-1)) hx hb hown (hts (.constantLong RX4 215 (-1)) (by decide +kernel)) dX4_allOf_8 ?_
    exact W.lret (v := (-1)) hx hb hr (fun t_9 ht_9 hW_9 => ⟨(-1), rfl, (by simp_all [allW]), ht_9⟩) (fun q h => nomatch h) dX4_allOf_11
  · skip
    refine lv_lconst (v := 0) hx hb dX4_allOf_4 (by decide) ?_
    refine lv_goto (tgt := 11) hx hb dX4_allOf_5 (by decide) ?_
    exact W.lret (v := 0) hx hb hr (fun t_9 ht_9 hW_9 => ⟨0, rfl, (by simp_all [allW]), ht_9⟩) (fun q h => nomatch h) dX4_allOf_11

set_option maxHeartbeats 4000000 in
set_option maxRecDepth 100000 in
theorem c_X4_bitOf (l : Launch) (w : Int64) (a : Int32) : Met l yX4_bitOf wsX4_bitOf ({ frames := 0, cells := 0, slots := 0, locals := 0 } : Room) (va_Pc [.long w, .int a] (fun _ => True)) (vp_Si (fun r_9 : Int32 => r_9 = (bitW w a))) 0 0 (fun _ => False) := by
  refine Met.ofW (cc := cX4_bitOf) (maxL := 3) (ret := (some .int)) (by decide) rfl ?_
  intro p e s m args below meth c s₁ B hml hv
  obtain ⟨rfl, -⟩ := hv
  have hx := B.exec
  have hb := B.bytes
  have hr := B.returns
  have hts := atoms_spec (ws := wsX4_bitOf) B.pre
  have hown : s.vm.findClass RX4 = some m.cls := findClass_of_methodNamed B.named
  have hlocks := B.notSynchronized
  have hl := lv_entry ([.long w, .int a]) (n := 3) (Nat.le_of_ble_eq_true rfl)
  rw [lg_entry_eq]
  generalize (lg_sl ([.long w, .int a]) ++ List.replicate (3 - (lg_sl ([.long w, .int a])).length) Slot.unset).toArray = ls at hl ⊢
  have hl : lv_has ls 3 [(0, .long w), (2, .int a)] := hl
  refine lv_lload_n hx hb dX4_bitOf_0 rfl (lv_at hl 0 rfl) ?_
  refine lv_iload_n hx hb dX4_bitOf_1 rfl (lv_at hl 1 rfl) ?_
  refine lv_lushr hx hb dX4_bitOf_2 rfl ?_
  refine lv_lconst (v := 1) hx hb dX4_bitOf_3 (by decide) ?_
  refine lv_land hx hb dX4_bitOf_4 ?_
  refine lv_l2i hx hb dX4_bitOf_5 rfl ?_
  exact W.iret (v := ((((w.toUInt64 >>> (a.toInt64.toUInt64 &&& Int64.toUInt64 63)).toInt64) &&& 1).toInt32)) hx hb hr (fun t_9 ht_9 hW_9 => ⟨((((w.toUInt64 >>> (a.toInt64.toUInt64 &&& Int64.toUInt64 63)).toInt64) &&& 1).toInt32), rfl, rfl, ht_9⟩) (fun q h => nomatch h) dX4_bitOf_6

set_option maxHeartbeats 4000000 in
set_option maxRecDepth 100000 in
theorem c_X4_gateWord (l : Launch) (k : Int32) (a : Int64) (b : Int64) : Met l yX4_gateWord wsX4_gateWord ({ frames := 0, cells := 0, slots := 0, locals := 0 } : Room) (va_Pc [.int k, .long a, .long b] (fun _ => True)) (vp_Sl (fun r_9 : Int64 => r_9 = (gw k a b))) 0 0 (fun _ => False) := by
  refine Met.ofW (cc := cX4_gateWord) (maxL := 5) (ret := (some .long)) (by decide) rfl ?_
  intro p e s m args below meth c s₁ B hml hv
  obtain ⟨rfl, -⟩ := hv
  have hx := B.exec
  have hb := B.bytes
  have hr := B.returns
  have hts := atoms_spec (ws := wsX4_gateWord) B.pre
  have hown : s.vm.findClass RX4 = some m.cls := findClass_of_methodNamed B.named
  have hlocks := B.notSynchronized
  have hl := lv_entry ([.int k, .long a, .long b]) (n := 5) (Nat.le_of_ble_eq_true rfl)
  rw [lg_entry_eq]
  generalize (lg_sl ([.int k, .long a, .long b]) ++ List.replicate (5 - (lg_sl ([.int k, .long a, .long b])).length) Slot.unset).toArray = ls at hl ⊢
  have hl : lv_has ls 5 [(0, .int k), (1, .long a), (3, .long b)] := hl
  refine lv_iload_n hx hb dX4_gateWord_0 rfl (lv_at hl 0 rfl) ?_
  by_cases k_0 : k = nI 0
  · skip
    refine zz_i (z := nI 0) k_0 ?_
    refine lv_tableIn (off := 39) (tgt := 40) hx hb dX4_gateWord_1 (by decide) (by decide) rfl (by decide) ?_
    refine lv_lload_n hx hb dX4_gateWord_40 rfl (lv_at hl 1 rfl) ?_
    refine lv_lload_n hx hb dX4_gateWord_41 rfl (lv_at hl 2 rfl) ?_
    refine lv_land hx hb dX4_gateWord_42 ?_
    exact W.lret (v := (a &&& b)) hx hb hr (fun t_9 ht_9 hW_9 => ⟨(a &&& b), rfl, (by simp_all [gw]), ht_9⟩) (fun q h => nomatch h) dX4_gateWord_43
  by_cases k_1 : k = nI 1
  · skip
    refine zz_i (z := nI 1) k_1 ?_
    refine lv_tableIn (off := 43) (tgt := 44) hx hb dX4_gateWord_1 (by decide) (by decide) rfl (by decide) ?_
    refine lv_lload_n hx hb dX4_gateWord_44 rfl (lv_at hl 1 rfl) ?_
    refine lv_lload_n hx hb dX4_gateWord_45 rfl (lv_at hl 2 rfl) ?_
    refine lv_lor hx hb dX4_gateWord_46 ?_
    exact W.lret (v := (a ||| b)) hx hb hr (fun t_9 ht_9 hW_9 => ⟨(a ||| b), rfl, (by simp_all [gw]), ht_9⟩) (fun q h => nomatch h) dX4_gateWord_47
  by_cases k_2 : k = nI 2
  · skip
    refine zz_i (z := nI 2) k_2 ?_
    refine lv_tableIn (off := 47) (tgt := 48) hx hb dX4_gateWord_1 (by decide) (by decide) rfl (by decide) ?_
    refine lv_lload_n hx hb dX4_gateWord_48 rfl (lv_at hl 1 rfl) ?_
    refine lv_lload_n hx hb dX4_gateWord_49 rfl (lv_at hl 2 rfl) ?_
    refine lv_lxor hx hb dX4_gateWord_50 ?_
    exact W.lret (v := (a ^^^ b)) hx hb hr (fun t_9 ht_9 hW_9 => ⟨(a ^^^ b), rfl, (by simp_all [gw]), ht_9⟩) (fun q h => nomatch h) dX4_gateWord_51
  by_cases k_3 : k = nI 3
  · skip
    refine zz_i (z := nI 3) k_3 ?_
    refine lv_tableIn (off := 51) (tgt := 52) hx hb dX4_gateWord_1 (by decide) (by decide) rfl (by decide) ?_
    refine lv_lload_n hx hb dX4_gateWord_52 rfl (lv_at hl 1 rfl) ?_
    refine lv_lload_n hx hb dX4_gateWord_53 rfl (lv_at hl 2 rfl) ?_
    refine lv_land hx hb dX4_gateWord_54 ?_
    refine lv_ldc2 (v := (-1)) hx hb hown (hts (.constantLong RX4 215 (-1)) (by decide +kernel)) dX4_gateWord_55 ?_
    refine lv_lxor hx hb dX4_gateWord_58 ?_
    exact W.lret (v := ((a &&& b) ^^^ (-1))) hx hb hr (fun t_9 ht_9 hW_9 => ⟨((a &&& b) ^^^ (-1)), rfl, (by simp_all [gw]), ht_9⟩) (fun q h => nomatch h) dX4_gateWord_59
  by_cases k_4 : k = nI 4
  · skip
    refine zz_i (z := nI 4) k_4 ?_
    refine lv_tableIn (off := 59) (tgt := 60) hx hb dX4_gateWord_1 (by decide) (by decide) rfl (by decide) ?_
    refine lv_lload_n hx hb dX4_gateWord_60 rfl (lv_at hl 1 rfl) ?_
    refine lv_lload_n hx hb dX4_gateWord_61 rfl (lv_at hl 2 rfl) ?_
    refine lv_lor hx hb dX4_gateWord_62 ?_
    refine lv_ldc2 (v := (-1)) hx hb hown (hts (.constantLong RX4 215 (-1)) (by decide +kernel)) dX4_gateWord_63 ?_
    refine lv_lxor hx hb dX4_gateWord_66 ?_
    exact W.lret (v := ((a ||| b) ^^^ (-1))) hx hb hr (fun t_9 ht_9 hW_9 => ⟨((a ||| b) ^^^ (-1)), rfl, (by simp_all [gw]), ht_9⟩) (fun q h => nomatch h) dX4_gateWord_67
  by_cases k_5 : k = nI 5
  · skip
    refine zz_i (z := nI 5) k_5 ?_
    refine lv_tableIn (off := 67) (tgt := 68) hx hb dX4_gateWord_1 (by decide) (by decide) rfl (by decide) ?_
    refine lv_lload_n hx hb dX4_gateWord_68 rfl (lv_at hl 1 rfl) ?_
    refine lv_ldc2 (v := (-1)) hx hb hown (hts (.constantLong RX4 215 (-1)) (by decide +kernel)) dX4_gateWord_69 ?_
    refine lv_lxor hx hb dX4_gateWord_72 ?_
    exact W.lret (v := (a ^^^ (-1))) hx hb hr (fun t_9 ht_9 hW_9 => ⟨(a ^^^ (-1)), rfl, (by simp_all [gw]), ht_9⟩) (fun q h => nomatch h) dX4_gateWord_73
  refine lv_tableOut (tgt := 74) hx hb dX4_gateWord_1 (zs_out (n := 6) (by decide) (fun j hj => by rcases (show j = 0 ∨ j = 1 ∨ j = 2 ∨ j = 3 ∨ j = 4 ∨ j = 5 by omega) with rfl | rfl | rfl | rfl | rfl | rfl <;> assumption)) (by decide) ?_
  refine lv_lload_n hx hb dX4_gateWord_74 rfl (lv_at hl 1 rfl) ?_
  exact W.lret (v := a) hx hb hr (fun t_9 ht_9 hW_9 => ⟨a, rfl, (by simp_all [gw]), ht_9⟩) (fun q h => nomatch h) dX4_gateWord_75

set_option maxHeartbeats 4000000 in
set_option maxRecDepth 100000 in
theorem c_J13_bitCount_95d88 (l : Launch) (x : Int64) : Met l yJ13_bitCount_95d88 wsJ13_bitCount_95d88 ({ frames := 0, cells := 0, slots := 0, locals := 0 } : Room) (va_Pc [.long x] (fun _ => True)) (vp_Si (fun r_9 : Int32 => r_9 = (nI (popN x)))) 0 0 (fun _ => False) := by
  refine Met.ofW (cc := cJ13_bitCount_95d88) (maxL := 2) (ret := (some .int)) (by decide) rfl ?_
  intro p e s m args below meth c s₁ B hml hv
  obtain ⟨rfl, -⟩ := hv
  have hx := B.exec
  have hb := B.bytes
  have hr := B.returns
  have hts := atoms_spec (ws := wsJ13_bitCount_95d88) B.pre
  have hown : s.vm.findClass RJ13 = some m.cls := findClass_of_methodNamed B.named
  have hlocks := B.notSynchronized
  have hl := lv_entry ([.long x]) (n := 2) (Nat.le_of_ble_eq_true rfl)
  rw [lg_entry_eq]
  generalize (lg_sl ([.long x]) ++ List.replicate (2 - (lg_sl ([.long x])).length) Slot.unset).toArray = ls at hl ⊢
  have hl : lv_has ls 2 [(0, .long x)] := hl
  refine lv_lload_n hx hb dJ13_bitCount_95d88_0 rfl (lv_at hl 0 rfl) ?_
  refine lv_lload_n hx hb dJ13_bitCount_95d88_1 rfl (lv_at hl 0 rfl) ?_
  refine lv_iconst (v := (nI 1)) hx hb dJ13_bitCount_95d88_2 (by decide) ?_
  refine lv_lushr hx hb dJ13_bitCount_95d88_3 rfl ?_
  refine lv_ldc2 (v := (6148914691236517205)) hx hb hown (hts (.constantLong RJ13 314 (6148914691236517205)) (by decide +kernel)) dJ13_bitCount_95d88_4 ?_
  refine lv_land hx hb dJ13_bitCount_95d88_7 ?_
  refine lv_lsub hx hb dJ13_bitCount_95d88_8 ?_
  refine lv_topl (fun y_1 ey_1 => ?_)
  refine lv_lstore_n (lv' := [(0, .long y_1)]) hx hb dJ13_bitCount_95d88_9 rfl hl (by decide) rfl (fun ls hl => ?_)
  refine lv_lload_n hx hb dJ13_bitCount_95d88_10 rfl (lv_at hl 0 rfl) ?_
  refine lv_ldc2 (v := (3689348814741910323)) hx hb hown (hts (.constantLong RJ13 316 (3689348814741910323)) (by decide +kernel)) dJ13_bitCount_95d88_11 ?_
  refine lv_land hx hb dJ13_bitCount_95d88_14 ?_
  refine lv_lload_n hx hb dJ13_bitCount_95d88_15 rfl (lv_at hl 0 rfl) ?_
  refine lv_iconst (v := (nI 2)) hx hb dJ13_bitCount_95d88_16 (by decide) ?_
  refine lv_lushr hx hb dJ13_bitCount_95d88_17 rfl ?_
  refine lv_ldc2 (v := (3689348814741910323)) hx hb hown (hts (.constantLong RJ13 316 (3689348814741910323)) (by decide +kernel)) dJ13_bitCount_95d88_18 ?_
  refine lv_land hx hb dJ13_bitCount_95d88_21 ?_
  refine lv_ladd hx hb dJ13_bitCount_95d88_22 ?_
  refine lv_topl (fun y_2 ey_2 => ?_)
  refine lv_lstore_n (lv' := [(0, .long y_2)]) hx hb dJ13_bitCount_95d88_23 rfl hl (by decide) rfl (fun ls hl => ?_)
  refine lv_lload_n hx hb dJ13_bitCount_95d88_24 rfl (lv_at hl 0 rfl) ?_
  refine lv_lload_n hx hb dJ13_bitCount_95d88_25 rfl (lv_at hl 0 rfl) ?_
  refine lv_iconst (v := (nI 4)) hx hb dJ13_bitCount_95d88_26 (by decide) ?_
  refine lv_lushr hx hb dJ13_bitCount_95d88_27 rfl ?_
  refine lv_ladd hx hb dJ13_bitCount_95d88_28 ?_
  refine lv_ldc2 (v := (1085102592571150095)) hx hb hown (hts (.constantLong RJ13 318 (1085102592571150095)) (by decide +kernel)) dJ13_bitCount_95d88_29 ?_
  refine lv_land hx hb dJ13_bitCount_95d88_32 ?_
  refine lv_topl (fun y_3 ey_3 => ?_)
  refine lv_lstore_n (lv' := [(0, .long y_3)]) hx hb dJ13_bitCount_95d88_33 rfl hl (by decide) rfl (fun ls hl => ?_)
  refine lv_lload_n hx hb dJ13_bitCount_95d88_34 rfl (lv_at hl 0 rfl) ?_
  refine lv_lload_n hx hb dJ13_bitCount_95d88_35 rfl (lv_at hl 0 rfl) ?_
  refine lv_bipush (v := (nI 8)) hx hb dJ13_bitCount_95d88_36 (by decide) ?_
  refine lv_lushr hx hb dJ13_bitCount_95d88_38 rfl ?_
  refine lv_ladd hx hb dJ13_bitCount_95d88_39 ?_
  refine lv_topl (fun y_4 ey_4 => ?_)
  refine lv_lstore_n (lv' := [(0, .long y_4)]) hx hb dJ13_bitCount_95d88_40 rfl hl (by decide) rfl (fun ls hl => ?_)
  refine lv_lload_n hx hb dJ13_bitCount_95d88_41 rfl (lv_at hl 0 rfl) ?_
  refine lv_lload_n hx hb dJ13_bitCount_95d88_42 rfl (lv_at hl 0 rfl) ?_
  refine lv_bipush (v := (nI 16)) hx hb dJ13_bitCount_95d88_43 (by decide) ?_
  refine lv_lushr hx hb dJ13_bitCount_95d88_45 rfl ?_
  refine lv_ladd hx hb dJ13_bitCount_95d88_46 ?_
  refine lv_topl (fun y_5 ey_5 => ?_)
  refine lv_lstore_n (lv' := [(0, .long y_5)]) hx hb dJ13_bitCount_95d88_47 rfl hl (by decide) rfl (fun ls hl => ?_)
  refine lv_lload_n hx hb dJ13_bitCount_95d88_48 rfl (lv_at hl 0 rfl) ?_
  refine lv_lload_n hx hb dJ13_bitCount_95d88_49 rfl (lv_at hl 0 rfl) ?_
  refine lv_bipush (v := (nI 32)) hx hb dJ13_bitCount_95d88_50 (by decide) ?_
  refine lv_lushr hx hb dJ13_bitCount_95d88_52 rfl ?_
  refine lv_ladd hx hb dJ13_bitCount_95d88_53 ?_
  refine lv_topl (fun y_6 ey_6 => ?_)
  refine lv_lstore_n (lv' := [(0, .long y_6)]) hx hb dJ13_bitCount_95d88_54 rfl hl (by decide) rfl (fun ls hl => ?_)
  refine lv_lload_n hx hb dJ13_bitCount_95d88_55 rfl (lv_at hl 0 rfl) ?_
  refine lv_l2i hx hb dJ13_bitCount_95d88_56 rfl ?_
  refine lv_bipush (v := (nI 127)) hx hb dJ13_bitCount_95d88_57 (by decide) ?_
  refine lv_iand hx hb dJ13_bitCount_95d88_59 ?_
  exact W.iret (v := (y_6.toInt32 &&& (nI 127))) hx hb hr (fun t_9 ht_9 hW_9 => ⟨(y_6.toInt32 &&& (nI 127)), rfl, (by rw [← popW_pop]; unfold popW pwk pw3 pw2 pw1 ushr; subst_vars; rfl), ht_9⟩) (fun q h => nomatch h) dJ13_bitCount_95d88_60

set_option maxHeartbeats 4000000 in
set_option maxRecDepth 100000 in
theorem c_X4_lowestBit (l : Launch) (x : Int64) (hx0 : ¬ x = 0) : Met l yX4_lowestBit wsX4_lowestBit ({ frames := 1, cells := 0, slots := 0, locals := 21 } : Room) (va_Pc [.long x] (fun _ => True)) (vp_Si (fun r_9 : Int32 => r_9 = (nI (lowN x)))) 0 0 (fun _ => False) := by
  refine Met.ofW (cc := cX4_lowestBit) (maxL := 2) (ret := (some .int)) (by decide) rfl ?_
  intro p e s m args below meth c s₁ B hml hv
  obtain ⟨rfl, -⟩ := hv
  have hx := B.exec
  have hb := B.bytes
  have hr := B.returns
  have hts := atoms_spec (ws := wsX4_lowestBit) B.pre
  have hown : s.vm.findClass RX4 = some m.cls := findClass_of_methodNamed B.named
  have hlocks := B.notSynchronized
  have hl := lv_entry ([.long x]) (n := 2) (Nat.le_of_ble_eq_true rfl)
  rw [lg_entry_eq]
  generalize (lg_sl ([.long x]) ++ List.replicate (2 - (lg_sl ([.long x])).length) Slot.unset).toArray = ls at hl ⊢
  have hl : lv_has ls 2 [(0, .long x)] := hl
  refine lv_lload_n hx hb dX4_lowestBit_0 rfl (lv_at hl 0 rfl) ?_
  refine lv_lload_n hx hb dX4_lowestBit_1 rfl (lv_at hl 0 rfl) ?_
  refine lv_lneg hx hb dX4_lowestBit_2 ?_
  refine lv_land hx hb dX4_lowestBit_3 ?_
  refine lv_lconst (v := 1) hx hb dX4_lowestBit_4 (by decide) ?_
  refine lv_lsub hx hb dX4_lowestBit_5 ?_
  refine vp_callSi (va_runS (As := [.long ((x &&& (-x)) - 1)]) (rest := []) ⟨hx, hb, hml, hown, hts⟩ (c_J13_bitCount_95d88 l ((x &&& (-x)) - 1)) (va_cwS 1 hts gX4_lowestBit_J13_bitCount_95d88 rfl rfl rfl (by decide +kernel) ⟨Nat.le_of_ble_eq_true rfl, Nat.le_of_ble_eq_true rfl⟩) ⟨zt_blind, fun U hU hW => ⟨rfl, trivial⟩⟩ rfl rfl hl.1 rfl (lv_room (Nat.le_of_ble_eq_true rfl)) dX4_lowestBit_6 ⟨Nat.le_of_ble_eq_true rfl, Nat.le_of_ble_eq_true rfl⟩).run (fun r_1 hrr_1 => ?_)
  subst hrr_1
  exact W.iret (v := (nI (popN ((x &&& (-x)) - 1)))) hx hb hr (fun t_9 ht_9 hW_9 => ⟨(nI (popN ((x &&& (-x)) - 1))), rfl, (by rw [← popW_low hx0, popW_pop]), ht_9⟩) (fun q h => nomatch h) dX4_lowestBit_9
