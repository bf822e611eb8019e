set_option maxHeartbeats 4000000 in
set_option maxRecDepth 100000 in
theorem c_X5_inputAt (l : Launch) (k : Nat) (w : Nat) (hk : k < 10) (hw : w < 16) : Met l yX5_inputAt wsX5_inputAt ({ frames := 0, cells := 0, slots := 0, locals := 0 } : Room) (va_Pc [.int (nI k), .int (nI w)] (fun _ => True)) (vp_Sl (fun r_9 : Int64 => r_9 = (inW k w))) 0 0 (fun _ => False) := by
  refine Met.ofW (cc := cX5_inputAt) (maxL := 2) (ret := (some .long)) (by decide) rfl ?_
  intro p e s m args below meth c s₁ B hml hv
  obtain ⟨rfl, -⟩ := hv
  have hx := B.exec
  have hb := B.bytes
  have hr := B.returns
  have hts := atoms_spec (ws := wsX5_inputAt) B.pre
  have hown : s.vm.findClass RX5 = some m.cls := findClass_of_methodNamed B.named
  have hlocks := B.notSynchronized
  have hl := lv_entry ([.int (nI k), .int (nI w)]) (n := 2) (Nat.le_of_ble_eq_true rfl)
  rw [lg_entry_eq]
  generalize (lg_sl ([.int (nI k), .int (nI w)]) ++ List.replicate (2 - (lg_sl ([.int (nI k), .int (nI w)])).length) Slot.unset).toArray = ls at hl ⊢
  have hl : lv_has ls 2 [(0, .int (nI k)), (1, .int (nI w))] := hl
  refine lv_iload_n hx hb dX5_inputAt_0 rfl (lv_at hl 0 rfl) ?_
  by_cases k_0 : (nI k) = nI 0
  · skip
    refine zz_i (z := nI 0) k_0 ?_
    refine lv_tableIn (off := 39) (tgt := 40) hx hb dX5_inputAt_1 (by decide) (by decide) rfl (by decide) ?_
    refine lv_ldc2 (v := (-6148914691236517206)) hx hb hown (hts (.constantLong RX5 106 (-6148914691236517206)) (by decide +kernel)) dX5_inputAt_40 ?_
    exact W.lret (v := (-6148914691236517206)) hx hb hr (fun t_9 ht_9 hW_9 => ⟨(-6148914691236517206), rfl, (by have e : k = 0 := (nI_eq (by omega) (by decide)).mp k_0; subst e; rfl), ht_9⟩) (fun q h => nomatch h) dX5_inputAt_43
  by_cases k_1 : (nI k) = nI 1
  · skip
    refine zz_i (z := nI 1) k_1 ?_
    refine lv_tableIn (off := 43) (tgt := 44) hx hb dX5_inputAt_1 (by decide) (by decide) rfl (by decide) ?_
    refine lv_ldc2 (v := (-3689348814741910324)) hx hb hown (hts (.constantLong RX5 108 (-3689348814741910324)) (by decide +kernel)) dX5_inputAt_44 ?_
    exact W.lret (v := (-3689348814741910324)) hx hb hr (fun t_9 ht_9 hW_9 => ⟨(-3689348814741910324), rfl, (by have e : k = 1 := (nI_eq (by omega) (by decide)).mp k_1; subst e; rfl), ht_9⟩) (fun q h => nomatch h) dX5_inputAt_47
  by_cases k_2 : (nI k) = nI 2
  · skip
    refine zz_i (z := nI 2) k_2 ?_
    refine lv_tableIn (off := 47) (tgt := 48) hx hb dX5_inputAt_1 (by decide) (by decide) rfl (by decide) ?_
    refine lv_ldc2 (v := (-1085102592571150096)) hx hb hown (hts (.constantLong RX5 110 (-1085102592571150096)) (by decide +kernel)) dX5_inputAt_48 ?_
    exact W.lret (v := (-1085102592571150096)) hx hb hr (fun t_9 ht_9 hW_9 => ⟨(-1085102592571150096), rfl, (by have e : k = 2 := (nI_eq (by omega) (by decide)).mp k_2; subst e; rfl), ht_9⟩) (fun q h => nomatch h) dX5_inputAt_51
  by_cases k_3 : (nI k) = nI 3
  · skip
    refine zz_i (z := nI 3) k_3 ?_
    refine lv_tableIn (off := 51) (tgt := 52) hx hb dX5_inputAt_1 (by decide) (by decide) rfl (by decide) ?_
    refine lv_ldc2 (v := (-71777214294589696)) hx hb hown (hts (.constantLong RX5 112 (-71777214294589696)) (by decide +kernel)) dX5_inputAt_52 ?_
    exact W.lret (v := (-71777214294589696)) hx hb hr (fun t_9 ht_9 hW_9 => ⟨(-71777214294589696), rfl, (by have e : k = 3 := (nI_eq (by omega) (by decide)).mp k_3; subst e; rfl), ht_9⟩) (fun q h => nomatch h) dX5_inputAt_55
  by_cases k_4 : (nI k) = nI 4
  · skip
    refine zz_i (z := nI 4) k_4 ?_
    refine lv_tableIn (off := 55) (tgt := 56) hx hb dX5_inputAt_1 (by decide) (by decide) rfl (by decide) ?_
    refine lv_ldc2 (v := (-281470681808896)) hx hb hown (hts (.constantLong RX5 114 (-281470681808896)) (by decide +kernel)) dX5_inputAt_56 ?_
    exact W.lret (v := (-281470681808896)) hx hb hr (fun t_9 ht_9 hW_9 => ⟨(-281470681808896), rfl, (by have e : k = 4 := (nI_eq (by omega) (by decide)).mp k_4; subst e; rfl), ht_9⟩) (fun q h => nomatch h) dX5_inputAt_59
  by_cases k_5 : (nI k) = nI 5
  · skip
    refine zz_i (z := nI 5) k_5 ?_
    refine lv_tableIn (off := 59) (tgt := 60) hx hb dX5_inputAt_1 (by decide) (by decide) rfl (by decide) ?_
    refine lv_ldc2 (v := (-4294967296)) hx hb hown (hts (.constantLong RX5 116 (-4294967296)) (by decide +kernel)) dX5_inputAt_60 ?_
    exact W.lret (v := (-4294967296)) hx hb hr (fun t_9 ht_9 hW_9 => ⟨(-4294967296), rfl, (by have e : k = 5 := (nI_eq (by omega) (by decide)).mp k_5; subst e; rfl), ht_9⟩) (fun q h => nomatch h) dX5_inputAt_63
  refine lv_tableOut (tgt := 64) hx hb dX5_inputAt_1 (zs_out (n := 6) (by decide) (fun j hj => by rcases (show j = 0 ∨ j = 1 ∨ j = 2 ∨ j = 3 ∨ j = 4 ∨ j = 5 by omega) with rfl | rfl | rfl | rfl | rfl | rfl <;> assumption)) (by decide) ?_
  have e0 : ¬ k = 0 := fun e => k_0 (by rw [e])
  have e1 : ¬ k = 1 := fun e => k_1 (by rw [e])
  have e2 : ¬ k = 2 := fun e => k_2 (by rw [e])
  have e3 : ¬ k = 3 := fun e => k_3 (by rw [e])
  have e4 : ¬ k = 4 := fun e => k_4 (by rw [e])
  have e5 : ¬ k = 5 := fun e => k_5 (by rw [e])
  refine lv_iload_n hx hb dX5_inputAt_64 rfl (lv_at hl 1 rfl) ?_
  refine lv_iload_n hx hb dX5_inputAt_65 rfl (lv_at hl 0 rfl) ?_
  refine lv_bipush (v := (nI 6)) hx hb dX5_inputAt_66 (by decide) ?_
  refine lv_isub hx hb dX5_inputAt_68 ?_
  refine zz_i (z := (nI (k - 6))) (pk_sub (by omega)) ?_
  refine lv_ishr hx hb dX5_inputAt_69 ?_
  refine zz_i (z := (nI (w / 2 ^ (k - 6)))) (zs_shr (by omega) (by omega)) ?_
  refine lv_iconst (v := (nI 1)) hx hb dX5_inputAt_70 (by decide) ?_
  refine lv_iand hx hb dX5_inputAt_71 ?_
  refine zz_i (z := (nI (w / 2 ^ (k - 6) % 2))) (zs_and1 (Nat.lt_of_le_of_lt (Nat.div_le_self _ _) (by omega))) ?_
  refine lv_iconst (v := (nI 1)) hx hb dX5_inputAt_72 (by decide) ?_
  refine lv_icmp_ne (tgt := 82) hx hb dX5_inputAt_73 (by decide) (fun c_73 => ?_) (fun c_73 => ?_)
  · skip
    rw [zc_eq (by omega) (by omega)] at c_73
    refine lv_lconst (v := 0) hx hb dX5_inputAt_82 (by decide) ?_
    exact W.lret (v := 0) hx hb hr (fun t_9 ht_9 hW_9 => ⟨0, rfl, (by rw [inW, if_neg (by omega)]; first | rw [if_pos c_73] | rw [if_neg c_73]), ht_9⟩) (fun q h => nomatch h) dX5_inputAt_83
  · skip
    rw [zc_eq (by omega) (by omega)] at c_73
    refine lv_ldc2 (v := (-1)) hx hb hown (hts (.constantLong RX5 118 (-1)) (by decide +kernel)) dX5_inputAt_76 ?_
    refine lv_goto (tgt := 83) hx hb dX5_inputAt_79 (by decide) ?_
    exact W.lret (v := (-1)) hx hb hr (fun t_9 ht_9 hW_9 => ⟨(-1), rfl, (by rw [inW, if_neg (by omega)]; first | rw [if_pos c_73] | rw [if_neg c_73]), ht_9⟩) (fun q h => nomatch h) dX5_inputAt_83

set_option maxHeartbeats 4000000 in
set_option maxRecDepth 100000 in
theorem c_X5_gateOf (l : Launch) (k : Int32) (a : Int64) (b : Int64) : Met l yX5_gateOf wsX5_gateOf ({ frames := 0, cells := 0, slots := 0, locals := 0 } : Room) (va_Pc [.int k, .long a, .long b] (fun _ => True)) (vp_Sl (fun r_9 : Int64 => r_9 = (gw k a b))) 0 0 (fun _ => False) := by
  refine Met.ofW (cc := cX5_gateOf) (maxL := 5) (ret := (some .long)) (by decide) rfl ?_
  intro p e s m args below meth c s₁ B hml hv
  obtain ⟨rfl, -⟩ := hv
  have hx := B.exec
  have hb := B.bytes
  have hr := B.returns
  have hts := atoms_spec (ws := wsX5_gateOf) B.pre
  have hown : s.vm.findClass RX5 = some m.cls := findClass_of_methodNamed B.named
  have hlocks := B.notSynchronized
  have hl := lv_entry ([.int k, .long a, .long b]) (n := 5) (Nat.le_of_ble_eq_true rfl)
  rw [lg_entry_eq]
  generalize (lg_sl ([.int k, .long a, .long b]) ++ List.replicate (5 - (lg_sl ([.int k, .long a, .long b])).length) Slot.unset).toArray = ls at hl ⊢
  have hl : lv_has ls 5 [(0, .int k), (1, .long a), (3, .long b)] := hl
  refine lv_iload_n hx hb dX5_gateOf_0 rfl (lv_at hl 0 rfl) ?_
  by_cases k_0 : k = nI 0
  · skip
    refine zz_i (z := nI 0) k_0 ?_
    refine lv_tableIn (off := 39) (tgt := 40) hx hb dX5_gateOf_1 (by decide) (by decide) rfl (by decide) ?_
    refine lv_lload_n hx hb dX5_gateOf_40 rfl (lv_at hl 1 rfl) ?_
    refine lv_lload_n hx hb dX5_gateOf_41 rfl (lv_at hl 2 rfl) ?_
    refine lv_land hx hb dX5_gateOf_42 ?_
    exact W.lret (v := (a &&& b)) hx hb hr (fun t_9 ht_9 hW_9 => ⟨(a &&& b), rfl, (by simp_all [gw]), ht_9⟩) (fun q h => nomatch h) dX5_gateOf_43
  by_cases k_1 : k = nI 1
  · skip
    refine zz_i (z := nI 1) k_1 ?_
    refine lv_tableIn (off := 43) (tgt := 44) hx hb dX5_gateOf_1 (by decide) (by decide) rfl (by decide) ?_
    refine lv_lload_n hx hb dX5_gateOf_44 rfl (lv_at hl 1 rfl) ?_
    refine lv_lload_n hx hb dX5_gateOf_45 rfl (lv_at hl 2 rfl) ?_
    refine lv_lor hx hb dX5_gateOf_46 ?_
    exact W.lret (v := (a ||| b)) hx hb hr (fun t_9 ht_9 hW_9 => ⟨(a ||| b), rfl, (by simp_all [gw]), ht_9⟩) (fun q h => nomatch h) dX5_gateOf_47
  by_cases k_2 : k = nI 2
  · skip
    refine zz_i (z := nI 2) k_2 ?_
    refine lv_tableIn (off := 47) (tgt := 48) hx hb dX5_gateOf_1 (by decide) (by decide) rfl (by decide) ?_
    refine lv_lload_n hx hb dX5_gateOf_48 rfl (lv_at hl 1 rfl) ?_
    refine lv_lload_n hx hb dX5_gateOf_49 rfl (lv_at hl 2 rfl) ?_
    refine lv_lxor hx hb dX5_gateOf_50 ?_
    exact W.lret (v := (a ^^^ b)) hx hb hr (fun t_9 ht_9 hW_9 => ⟨(a ^^^ b), rfl, (by simp_all [gw]), ht_9⟩) (fun q h => nomatch h) dX5_gateOf_51
  by_cases k_3 : k = nI 3
  · skip
    refine zz_i (z := nI 3) k_3 ?_
    refine lv_tableIn (off := 51) (tgt := 52) hx hb dX5_gateOf_1 (by decide) (by decide) rfl (by decide) ?_
    refine lv_lload_n hx hb dX5_gateOf_52 rfl (lv_at hl 1 rfl) ?_
    refine lv_lload_n hx hb dX5_gateOf_53 rfl (lv_at hl 2 rfl) ?_
    refine lv_land hx hb dX5_gateOf_54 ?_
    refine lv_ldc2 (v := (-1)) hx hb hown (hts (.constantLong RX5 118 (-1)) (by decide +kernel)) dX5_gateOf_55 ?_
    refine lv_lxor hx hb dX5_gateOf_58 ?_
    exact W.lret (v := ((a &&& b) ^^^ (-1))) hx hb hr (fun t_9 ht_9 hW_9 => ⟨((a &&& b) ^^^ (-1)), rfl, (by simp_all [gw]), ht_9⟩) (fun q h => nomatch h) dX5_gateOf_59
  by_cases k_4 : k = nI 4
  · skip
    refine zz_i (z := nI 4) k_4 ?_
    refine lv_tableIn (off := 59) (tgt := 60) hx hb dX5_gateOf_1 (by decide) (by decide) rfl (by decide) ?_
    refine lv_lload_n hx hb dX5_gateOf_60 rfl (lv_at hl 1 rfl) ?_
    refine lv_lload_n hx hb dX5_gateOf_61 rfl (lv_at hl 2 rfl) ?_
    refine lv_lor hx hb dX5_gateOf_62 ?_
    refine lv_ldc2 (v := (-1)) hx hb hown (hts (.constantLong RX5 118 (-1)) (by decide +kernel)) dX5_gateOf_63 ?_
    refine lv_lxor hx hb dX5_gateOf_66 ?_
    exact W.lret (v := ((a ||| b) ^^^ (-1))) hx hb hr (fun t_9 ht_9 hW_9 => ⟨((a ||| b) ^^^ (-1)), rfl, (by simp_all [gw]), ht_9⟩) (fun q h => nomatch h) dX5_gateOf_67
  by_cases k_5 : k = nI 5
  · skip
    refine zz_i (z := nI 5) k_5 ?_
    refine lv_tableIn (off := 67) (tgt := 68) hx hb dX5_gateOf_1 (by decide) (by decide) rfl (by decide) ?_
    refine lv_lload_n hx hb dX5_gateOf_68 rfl (lv_at hl 1 rfl) ?_
    refine lv_ldc2 (v := (-1)) hx hb hown (hts (.constantLong RX5 118 (-1)) (by decide +kernel)) dX5_gateOf_69 ?_
    refine lv_lxor hx hb dX5_gateOf_72 ?_
    exact W.lret (v := (a ^^^ (-1))) hx hb hr (fun t_9 ht_9 hW_9 => ⟨(a ^^^ (-1)), rfl, (by simp_all [gw]), ht_9⟩) (fun q h => nomatch h) dX5_gateOf_73
  refine lv_tableOut (tgt := 74) hx hb dX5_gateOf_1 (zs_out (n := 6) (by decide) (fun j hj => by rcases (show j = 0 ∨ j = 1 ∨ j = 2 ∨ j = 3 ∨ j = 4 ∨ j = 5 by omega) with rfl | rfl | rfl | rfl | rfl | rfl <;> assumption)) (by decide) ?_
  refine lv_lload_n hx hb dX5_gateOf_74 rfl (lv_at hl 1 rfl) ?_
  exact W.lret (v := a) hx hb hr (fun t_9 ht_9 hW_9 => ⟨a, rfl, (by simp_all [gw]), ht_9⟩) (fun q h => nomatch h) dX5_gateOf_75

set_option maxHeartbeats 4000000 in
set_option maxRecDepth 100000 in
theorem c_X5_tellG (l : Launch) (D : va_G) (cI cJ cZ : ClassId) (qm : Nat) (mk : Nat) (m0 : Nat) (m1 : Nat) (mi : Nat) (mo : Nat) (ml : Nat) (mf : Nat) (ma : Nat) (mfd : Nat) (mts : Nat) (mg : Nat) (mb : Nat) (cd : Int32) (n : Nat) (ni : Nat) (no : Nat) (cl : Nat) (tc : Nat) (kd : Nat → Int32) (s0 : Nat → Int32) (s1 : Nat → Int32) (io : Nat → Int32) (qt : Nat) (tv : Nat → Int64) (w : Nat) (G : Nat → Int64) (sz : Nat) (A : Nat → Prop) (hAe : A = va_A [(qm, .inr (5, [.int cd, .int (nI n), .int (nI ni), .int (nI no), .ref mk, .ref m0, .ref m1, .ref mi, .ref mo, .ref ml, .ref mf, .ref ma, .int (nI cl), .ref mfd, .ref mts, .int (nI tc), .ref mg, .ref mb])), (mk, .inl (cI, 100, .inl kd)), (m0, .inl (cI, 100, .inl s0)), (m1, .inl (cI, 100, .inl s1)), (mi, .inl (cI, 100, .inl io)), (qt, .inl (cJ, 100, .inr (.inl tv)))] sz) (hn : n ≤ 100) (hwf : WF n kd s0 s1) (hkd : KD n kd) (hio : IOK n kd io) (hw : w < 16) (hG : GOK n kd s0 s1 io w G) : Met l yX5_tell wsX5_tell ({ frames := 1, cells := 0, slots := 0, locals := 24 } : Room) (va_Pc [.ref qm, .ref qt, .int (nI w), .int (-1)] (PW D cI cJ cZ [(qm, .inr (5, [.int cd, .int (nI n), .int (nI ni), .int (nI no), .ref mk, .ref m0, .ref m1, .ref mi, .ref mo, .ref ml, .ref mf, .ref ma, .int (nI cl), .ref mfd, .ref mts, .int (nI tc), .ref mg, .ref mb])), (mk, .inl (cI, 100, .inl kd)), (m0, .inl (cI, 100, .inl s0)), (m1, .inl (cI, 100, .inl s1)), (mi, .inl (cI, 100, .inl io)), (qt, .inl (cJ, 100, .inr (.inl tv)))] sz)) (va_Qv (fun u9 : (Nat → Int64) => match u9 with | tv2 => ∀ j, j < n → tv2 j = G j) (fun (u9 : (Nat → Int64)) t => match u9 with | tv2 => PQ D A [(qm, .inr (5, [.int cd, .int (nI n), .int (nI ni), .int (nI no), .ref mk, .ref m0, .ref m1, .ref mi, .ref mo, .ref ml, .ref mf, .ref ma, .int (nI cl), .ref mfd, .ref mts, .int (nI tc), .ref mg, .ref mb])), (mk, .inl (cI, 100, .inl kd)), (m0, .inl (cI, 100, .inl s0)), (m1, .inl (cI, 100, .inl s1)), (mi, .inl (cI, 100, .inl io)), (qt, .inl (cJ, 100, .inr (.inl tv2)))] t) A) 0 0 A := by
  refine Met.ofW (cc := cX5_tell) (maxL := 12) (ret := none) (by decide) rfl ?_
  intro p e s m args below meth c s₁ B hml hv
  obtain ⟨rfl, hsz, ⟨hP, hK, hNB⟩, hD0⟩ := hv
  have hx := B.exec
  have hb := B.bytes
  have hr := B.returns
  have hts := atoms_spec (ws := wsX5_tell) B.pre
  have hown : s.vm.findClass RX5 = some m.cls := findClass_of_methodNamed B.named
  have hlocks := B.notSynchronized
  have hiX5 : ∀ w ∈ u_ws RX5 TX5 18, w ∈ wsX5_tell := by decide +kernel
  subst hsz
  have hD : va_D A [(qm, .inr (5, [.int cd, .int (nI n), .int (nI ni), .int (nI no), .ref mk, .ref m0, .ref m1, .ref mi, .ref mo, .ref ml, .ref mf, .ref ma, .int (nI cl), .ref mfd, .ref mts, .int (nI tc), .ref mg, .ref mb])), (mk, .inl (cI, 100, .inl kd)), (m0, .inl (cI, 100, .inl s0)), (m1, .inl (cI, 100, .inl s1)), (mi, .inl (cI, 100, .inl io)), (qt, .inl (cJ, 100, .inr (.inl tv)))] := by rw [hAe]; exact hD0.self
  have hA : ∀ q : Nat, s.heap.size ≤ q → A q := fun q h => by rw [hAe]; exact Or.inr h
  have hS : va_S A s.heap s.heap [] := va_S.rf
  have hl := lv_entry ([.ref qm, .ref qt, .int (nI w), .int (-1)]) (n := 12) (Nat.le_of_ble_eq_true rfl)
  rw [lg_entry_eq]
  generalize (lg_sl ([.ref qm, .ref qt, .int (nI w), .int (-1)]) ++ List.replicate (12 - (lg_sl ([.ref qm, .ref qt, .int (nI w), .int (-1)])).length) Slot.unset).toArray = ls at hl ⊢
  have hl : lv_has ls 12 [(0, .ref qm), (1, .ref qt), (2, .int (nI w)), (3, .int (-1))] := hl
  refine lv_iload_n hx hb dX5_tell_0 rfl (lv_at hl 3 rfl) ?_
  refine lv_if_ge (tgt := 8) hx hb dX5_tell_1 (by decide) (fun c_1 => ?_) (fun c_1 => ?_)
  · skip
    exact absurd c_1 (by decide)
  · skip
    refine lv_iconst (v := (-1)) hx hb dX5_tell_4 (by decide) ?_
    refine lv_goto (tgt := 11) hx hb dX5_tell_5 (by decide) ?_
    refine lv_istore (lv' := [(4, .int (-1)), (0, .ref qm), (1, .ref qt), (2, .int (nI w)), (3, .int (-1))]) hx hb dX5_tell_11 hl (by decide) rfl (fun ls hl => ?_)
    refine lv_iload_n hx hb dX5_tell_13 rfl (lv_at hl 4 rfl) ?_
    refine lv_if_lt (tgt := 30) hx hb dX5_tell_14 (by decide) (fun c_14 => ?_) (fun c_14 => ?_)
    · skip
      refine lv_lconst (v := 0) hx hb dX5_tell_30 (by decide) ?_
      refine lv_lstore (lv' := [(5, .long 0), (4, .int (-1)), (0, .ref qm), (1, .ref qt), (2, .int (nI w)), (3, .int (-1))]) hx hb dX5_tell_31 hl (by decide) rfl (fun ls hl => ?_)
      refine lv_iconst (v := (nI 0)) hx hb dX5_tell_33 (by decide) ?_
      refine lv_istore (lv' := [(7, .int (nI 0)), (5, .long 0), (4, .int (-1)), (0, .ref qm), (1, .ref qt), (2, .int (nI w)), (3, .int (-1))]) hx hb dX5_tell_34 hl (by decide) rfl (fun ls hl => ?_)
      have loop36 : ∀ (n36 : Nat) (t : Nat) (v : Nat → Int64) (ht : t ≤ n) (hv : ∀ j, j < t → v j = G j), n - t < n36 → ∀ (H : Heap) (locs : List Loc), va_P D vwCl [(qm, .inr (5, [.int cd, .int (nI n), .int (nI ni), .int (nI no), .ref mk, .ref m0, .ref m1, .ref mi, .ref mo, .ref ml, .ref mf, .ref ma, .int (nI cl), .ref mfd, .ref mts, .int (nI tc), .ref mg, .ref mb])), (mk, .inl (cI, 100, .inl kd)), (m0, .inl (cI, 100, .inl s0)), (m1, .inl (cI, 100, .inl s1)), (mi, .inl (cI, 100, .inl io)), (qt, .inl (cJ, 100, .inr (.inl v)))] H → va_D A [(qm, .inr (5, [.int cd, .int (nI n), .int (nI ni), .int (nI no), .ref mk, .ref m0, .ref m1, .ref mi, .ref mo, .ref ml, .ref mf, .ref ma, .int (nI cl), .ref mfd, .ref mts, .int (nI tc), .ref mg, .ref mb])), (mk, .inl (cI, 100, .inl kd)), (m0, .inl (cI, 100, .inl s0)), (m1, .inl (cI, 100, .inl s1)), (mi, .inl (cI, 100, .inl io)), (qt, .inl (cJ, 100, .inr (.inl v)))] → va_S A s.heap H locs → ∀ (ls : Array Slot), lv_has ls 12 [(0, .ref qm), (1, .ref qt), (2, .int (nI w)), (3, .int (-1)), (4, .int (-1)), (5, .long 0), (7, .int (nI t))] → W p l e (headSpec wsX5_tell ({ frames := 1, cells := 0, slots := 0, locals := 24 } : Room)).room s m ([.ref qm, .ref qt, .int (nI w), .int (-1)] : List Value).toArray below meth c H locs 0 0 (MQ below (va_Qv (fun u9 : (Nat → Int64) => match u9 with | tv2 => ∀ j, j < n → tv2 j = G j) (fun (u9 : (Nat → Int64)) t => match u9 with | tv2 => PQ D A [(qm, .inr (5, [.int cd, .int (nI n), .int (nI ni), .int (nI no), .ref mk, .ref m0, .ref m1, .ref mi, .ref mo, .ref ml, .ref mf, .ref ma, .int (nI cl), .ref mfd, .ref mts, .int (nI tc), .ref mg, .ref mb])), (mk, .inl (cI, 100, .inl kd)), (m0, .inl (cI, 100, .inl s0)), (m1, .inl (cI, 100, .inl s1)), (mi, .inl (cI, 100, .inl io)), (qt, .inl (cJ, 100, .inr (.inl tv2)))] t) A) ([.ref qm, .ref qt, .int (nI w), .int (-1)] : List Value).toArray s 0 0 A) (F0 m 36 ls []) := by
        intro n36
        induction n36 with
        | zero => intro t v ht hv hm; exact absurd hm (Nat.not_lt_zero _)
        | succ n36 ih36 =>
          intro t v ht hv hm36 H locs hP hD hS ls hl
          refine lv_iload hx hb dX5_tell_36 (lv_at hl 6 rfl) ?_
          refine lv_aload_n hx hb dX5_tell_38 rfl (lv_at hl 0 rfl) ?_
          refine va_get (D := D) (ci := 5) (v := .int (nI n)) (C := RX5) (T := TX5) (N := 18) hx hb hts hiX5 hown hK hP 0 rfl rfl 1 (by decide) (hts (.fieldLink RX5 52 "FaultSearchModel" "nets" "I") (by decide +kernel)) (fun _ h9 => h9) rfl dX5_tell_39 ?_
          refine lv_icmp_ge (tgt := 173) hx hb dX5_tell_42 (by decide) (fun c_42 => ?_) (fun c_42 => ?_)
          · skip
            rw [zc_le (by omega) (by omega)] at c_42
            exact W.vret hx hb hr (fun t_9 ht_9 hW_9 => ⟨⟨v, rfl, (show ∀ j, j < n → v j = G j from (fun j h => hv j (by omega))), ⟨by rw [ht_9]; exact hP, hD⟩⟩, hS.F ht_9⟩) hS.2.2 dX5_tell_173
          · skip
            rw [zc_le (by omega) (by omega)] at c_42
            refine lv_aload_n hx hb dX5_tell_45 rfl (lv_at hl 0 rfl) ?_
            refine va_get (D := D) (ci := 5) (v := .ref mk) (C := RX5) (T := TX5) (N := 18) hx hb hts hiX5 hown hK hP 0 rfl rfl 4 (by decide) (hts (.fieldLink RX5 7 "FaultSearchModel" "kinds" "[I") (by decide +kernel)) (fun _ h9 => h9) rfl dX5_tell_46 ?_
            refine lv_iload hx hb dX5_tell_49 (lv_at hl 6 rfl) ?_
            refine zz_iald hx hb hK hP 1 0 rfl rfl (n := 100) (j := t) (by omega) (by decide) dX5_tell_51 ?_
            refine lv_if_ge (tgt := 73) hx hb dX5_tell_52 (by decide) (fun c_52 => ?_) (fun c_52 => ?_)
            · skip
              have hg : ¬ kd t = (-1) := fun e => absurd c_52 (by rw [e]; decide)
              refine lv_iload hx hb dX5_tell_73 (lv_at hl 4 rfl) ?_
              refine lv_iconst (v := (nI 3)) hx hb dX5_tell_75 (by decide) ?_
              refine lv_iload hx hb dX5_tell_76 (lv_at hl 6 rfl) ?_
              refine lv_imul hx hb dX5_tell_78 ?_
              refine zz_i (z := (nI (3 * t))) (pk_mul _ _) ?_
              refine lv_iconst (v := (nI 1)) hx hb dX5_tell_79 (by decide) ?_
              refine lv_iadd hx hb dX5_tell_80 ?_
              refine zz_i (z := (nI ((3 * t) + 1))) (nI_add _ _) ?_
              refine lv_icmp_ne (tgt := 89) hx hb dX5_tell_81 (by decide) (fun c_81 => ?_) (fun c_81 => ?_)
              · skip
                refine lv_aload_n hx hb dX5_tell_89 rfl (lv_at hl 1 rfl) ?_
                refine lv_aload_n hx hb dX5_tell_90 rfl (lv_at hl 0 rfl) ?_
                refine va_get (D := D) (ci := 5) (v := .ref m0) (C := RX5) (T := TX5) (N := 18) hx hb hts hiX5 hown hK hP 0 rfl rfl 5 (by decide) (hts (.fieldLink RX5 13 "FaultSearchModel" "firsts" "[I") (by decide +kernel)) (fun _ h9 => h9) rfl dX5_tell_91 ?_
                refine lv_iload hx hb dX5_tell_94 (lv_at hl 6 rfl) ?_
                refine zz_iald hx hb hK hP 2 0 rfl rfl (n := 100) (j := t) (by omega) (by decide) dX5_tell_96 ?_
                refine zz_i (z := (nI (cn (s0 t)))) (hwf t (by omega) hg).1.1 ?_
                refine zz_lald hx hb hK hP 5 1 rfl rfl (n := 100) (j := (cn (s0 t))) (by have := (hwf t (by omega) hg).1.2; omega) (by decide) dX5_tell_97 ?_
                refine lv_lstore (lv' := [(8, .long (v (cn (s0 t)))), (0, .ref qm), (1, .ref qt), (2, .int (nI w)), (3, .int (-1)), (4, .int (-1)), (5, .long 0), (7, .int (nI t))]) hx hb dX5_tell_98 hl (by decide) rfl (fun ls hl => ?_)
                refine lv_iload hx hb dX5_tell_100 (lv_at hl 5 rfl) ?_
                refine lv_iconst (v := (nI 3)) hx hb dX5_tell_102 (by decide) ?_
                refine lv_iload hx hb dX5_tell_103 (lv_at hl 7 rfl) ?_
                refine lv_imul hx hb dX5_tell_105 ?_
                refine zz_i (z := (nI (3 * t))) (pk_mul _ _) ?_
                refine lv_iconst (v := (nI 2)) hx hb dX5_tell_106 (by decide) ?_
                refine lv_iadd hx hb dX5_tell_107 ?_
                refine zz_i (z := (nI ((3 * t) + 2))) (nI_add _ _) ?_
                refine lv_icmp_ne (tgt := 116) hx hb dX5_tell_108 (by decide) (fun c_108 => ?_) (fun c_108 => ?_)
                · skip
                  refine lv_aload_n hx hb dX5_tell_116 rfl (lv_at hl 2 rfl) ?_
                  refine lv_aload_n hx hb dX5_tell_117 rfl (lv_at hl 1 rfl) ?_
                  refine va_get (D := D) (ci := 5) (v := .ref m1) (C := RX5) (T := TX5) (N := 18) hx hb hts hiX5 hown hK hP 0 rfl rfl 6 (by decide) (hts (.fieldLink RX5 16 "FaultSearchModel" "seconds" "[I") (by decide +kernel)) (fun _ h9 => h9) rfl dX5_tell_118 ?_
                  refine lv_iload hx hb dX5_tell_121 (lv_at hl 7 rfl) ?_
                  refine zz_iald hx hb hK hP 3 0 rfl rfl (n := 100) (j := t) (by omega) (by decide) dX5_tell_123 ?_
                  refine zz_i (z := (nI (cn (s1 t)))) (hwf t (by omega) hg).2.1 ?_
                  refine zz_lald hx hb hK hP 5 1 rfl rfl (n := 100) (j := (cn (s1 t))) (by have := (hwf t (by omega) hg).2.2; omega) (by decide) dX5_tell_124 ?_
                  refine lv_lstore (lv' := [(10, .long (v (cn (s1 t)))), (8, .long (v (cn (s0 t)))), (0, .ref qm), (1, .ref qt), (2, .int (nI w)), (3, .int (-1)), (4, .int (-1)), (5, .long 0), (7, .int (nI t))]) hx hb dX5_tell_125 hl (by decide) rfl (fun ls hl => ?_)
                  refine lv_aload_n hx hb dX5_tell_127 rfl (lv_at hl 3 rfl) ?_
                  refine lv_iload hx hb dX5_tell_128 (lv_at hl 8 rfl) ?_
                  refine lv_aload_n hx hb dX5_tell_130 rfl (lv_at hl 2 rfl) ?_
                  refine va_get (D := D) (ci := 5) (v := .ref mk) (C := RX5) (T := TX5) (N := 18) hx hb hts hiX5 hown hK hP 0 rfl rfl 4 (by decide) (hts (.fieldLink RX5 7 "FaultSearchModel" "kinds" "[I") (by decide +kernel)) (fun _ h9 => h9) rfl dX5_tell_131 ?_
                  refine lv_iload hx hb dX5_tell_134 (lv_at hl 8 rfl) ?_
                  refine zz_iald hx hb hK hP 1 0 rfl rfl (n := 100) (j := t) (by omega) (by decide) dX5_tell_136 ?_
                  refine lv_lload hx hb dX5_tell_137 (lv_at hl 1 rfl) ?_
                  refine lv_lload hx hb dX5_tell_139 (lv_at hl 0 rfl) ?_
                  refine vp_callSl (va_runS (As := [.int (kd t), .long (v (cn (s0 t))), .long (v (cn (s1 t)))]) (rest := [.int (nI t), .ref qt]) ⟨hx, hb, hml, hown, hts⟩ (c_X5_gateOf l (kd t) (v (cn (s0 t))) (v (cn (s1 t)))) (va_cwS 3 hts gX5_tell_X5_gateOf rfl rfl rfl (by decide +kernel) ⟨Nat.le_of_ble_eq_true rfl, Nat.le_of_ble_eq_true rfl⟩) ⟨zt_blind, fun U hU hW => ⟨rfl, trivial⟩⟩ rfl rfl hl.1 rfl (lv_room (Nat.le_of_ble_eq_true rfl)) dX5_tell_141 ⟨Nat.le_of_ble_eq_true rfl, Nat.le_of_ble_eq_true rfl⟩).run (fun r_1 hrr_1 => ?_)
                  subst hrr_1
                  refine zz_last hx hb hK hP hD hS 5 1 rfl rfl (n := 100) (j := t) (by omega) (by decide) dX5_tell_144 (fun H locs hP hD hS => ?_)
                  have hP : va_P D vwCl [(qm, .inr (5, [.int cd, .int (nI n), .int (nI ni), .int (nI no), .ref mk, .ref m0, .ref m1, .ref mi, .ref mo, .ref ml, .ref mf, .ref ma, .int (nI cl), .ref mfd, .ref mts, .int (nI tc), .ref mg, .ref mb])), (mk, .inl (cI, 100, .inl kd)), (m0, .inl (cI, 100, .inl s0)), (m1, .inl (cI, 100, .inl s1)), (mi, .inl (cI, 100, .inl io)), (qt, .inl (cJ, 100, .inr (.inl (vp_updL v t (gw (kd t) (v (cn (s0 t))) (v (cn (s1 t))))))))] H := hP
                  have hD : va_D A [(qm, .inr (5, [.int cd, .int (nI n), .int (nI ni), .int (nI no), .ref mk, .ref m0, .ref m1, .ref mi, .ref mo, .ref ml, .ref mf, .ref ma, .int (nI cl), .ref mfd, .ref mts, .int (nI tc), .ref mg, .ref mb])), (mk, .inl (cI, 100, .inl kd)), (m0, .inl (cI, 100, .inl s0)), (m1, .inl (cI, 100, .inl s1)), (mi, .inl (cI, 100, .inl io)), (qt, .inl (cJ, 100, .inr (.inl (vp_updL v t (gw (kd t) (v (cn (s0 t))) (v (cn (s1 t))))))))] := hD
                  refine lv_aload_n hx hb dX5_tell_145 rfl (lv_at hl 3 rfl) ?_
                  refine lv_iload hx hb dX5_tell_146 (lv_at hl 8 rfl) ?_
                  refine lv_iload hx hb dX5_tell_148 (lv_at hl 6 rfl) ?_
                  refine lv_iconst (v := (nI 3)) hx hb dX5_tell_150 (by decide) ?_
                  refine lv_iload hx hb dX5_tell_151 (lv_at hl 8 rfl) ?_
                  refine lv_imul hx hb dX5_tell_153 ?_
                  refine zz_i (z := (nI (3 * t))) (pk_mul _ _) ?_
                  refine lv_icmp_ne (tgt := 162) hx hb dX5_tell_154 (by decide) (fun c_154 => ?_) (fun c_154 => ?_)
                  · skip
                    refine lv_aload_n hx hb dX5_tell_162 rfl (lv_at hl 3 rfl) ?_
                    refine lv_iload hx hb dX5_tell_163 (lv_at hl 8 rfl) ?_
                    refine zz_lald hx hb hK hP 5 1 rfl rfl (n := 100) (j := t) (by omega) (by decide) dX5_tell_165 ?_
                    refine zz_last hx hb hK hP hD hS 5 1 rfl rfl (n := 100) (j := t) (by omega) (by decide) dX5_tell_166 (fun H locs hP hD hS => ?_)
                    have hP : va_P D vwCl [(qm, .inr (5, [.int cd, .int (nI n), .int (nI ni), .int (nI no), .ref mk, .ref m0, .ref m1, .ref mi, .ref mo, .ref ml, .ref mf, .ref ma, .int (nI cl), .ref mfd, .ref mts, .int (nI tc), .ref mg, .ref mb])), (mk, .inl (cI, 100, .inl kd)), (m0, .inl (cI, 100, .inl s0)), (m1, .inl (cI, 100, .inl s1)), (mi, .inl (cI, 100, .inl io)), (qt, .inl (cJ, 100, .inr (.inl (vp_updL (vp_updL v t (gw (kd t) (v (cn (s0 t))) (v (cn (s1 t))))) t ((vp_updL v t (gw (kd t) (v (cn (s0 t))) (v (cn (s1 t))))) t)))))] H := hP
                    have hD : va_D A [(qm, .inr (5, [.int cd, .int (nI n), .int (nI ni), .int (nI no), .ref mk, .ref m0, .ref m1, .ref mi, .ref mo, .ref ml, .ref mf, .ref ma, .int (nI cl), .ref mfd, .ref mts, .int (nI tc), .ref mg, .ref mb])), (mk, .inl (cI, 100, .inl kd)), (m0, .inl (cI, 100, .inl s0)), (m1, .inl (cI, 100, .inl s1)), (mi, .inl (cI, 100, .inl io)), (qt, .inl (cJ, 100, .inr (.inl (vp_updL (vp_updL v t (gw (kd t) (v (cn (s0 t))) (v (cn (s1 t))))) t ((vp_updL v t (gw (kd t) (v (cn (s0 t))) (v (cn (s1 t))))) t)))))] := hD
                    refine lv_iinc (v := (nI (t + 1))) (lv' := [(7, .int (nI (t + 1))), (10, .long (v (cn (s1 t)))), (8, .long (v (cn (s0 t)))), (0, .ref qm), (1, .ref qt), (2, .int (nI w)), (3, .int (-1)), (4, .int (-1)), (5, .long 0)]) hx hb dX5_tell_167 hl (k := 8) rfl (nI_add _ 1) (by decide) rfl (fun ls hl => ?_)
                    refine lv_goto (tgt := 36) hx hb dX5_tell_170 (by decide) ?_
                    exact ih36 (t + 1) (vp_updL (vp_updL v t (gw (kd t) (v (cn (s0 t))) (v (cn (s1 t))))) t ((vp_updL v t (gw (kd t) (v (cn (s0 t))) (v (cn (s1 t))))) t)) (by omega) (tell_s hv (fun j => uLs2) (by rw [hG t (by omega), if_neg hg, hv _ (hwf t (by omega) hg).1.2, hv _ (hwf t (by omega) hg).2.2])) (by omega) _ _ hP hD hS ls (lv_sub hl [3, 4, 5, 6, 7, 8, 0] rfl)
                  · skip
                    exact absurd c_154 (fun h => zn_ne (by omega) h.symm)
                · skip
                  exact absurd c_108 (fun h => zn_ne (by omega) h.symm)
              · skip
                exact absurd c_81 (fun h => zn_ne (by omega) h.symm)
            · skip
              have hm : kd t = (-1) := (hkd t (by omega)).lt.mp (Int32.not_le.mp c_52)
              refine lv_aload_n hx hb dX5_tell_55 rfl (lv_at hl 1 rfl) ?_
              refine lv_iload hx hb dX5_tell_56 (lv_at hl 6 rfl) ?_
              refine lv_aload_n hx hb dX5_tell_58 rfl (lv_at hl 0 rfl) ?_
              refine va_get (D := D) (ci := 5) (v := .ref mi) (C := RX5) (T := TX5) (N := 18) hx hb hts hiX5 hown hK hP 0 rfl rfl 7 (by decide) (hts (.fieldLink RX5 19 "FaultSearchModel" "inputOf" "[I") (by decide +kernel)) (fun _ h9 => h9) rfl dX5_tell_59 ?_
              refine lv_iload hx hb dX5_tell_62 (lv_at hl 6 rfl) ?_
              refine zz_iald hx hb hK hP 4 0 rfl rfl (n := 100) (j := t) (by omega) (by decide) dX5_tell_64 ?_
              refine zz_i (z := (nI (cn (io t)))) (hio t (by omega) hm).1 ?_
              refine lv_iload_n hx hb dX5_tell_65 rfl (lv_at hl 2 rfl) ?_
              refine vp_callSl (va_runS (As := [.int (nI (cn (io t))), .int (nI w)]) (rest := [.int (nI t), .ref qt]) ⟨hx, hb, hml, hown, hts⟩ (c_X5_inputAt l (cn (io t)) w (hio t (by omega) hm).2 hw) (va_cwS 2 hts gX5_tell_X5_inputAt rfl rfl rfl (by decide +kernel) ⟨Nat.le_of_ble_eq_true rfl, Nat.le_of_ble_eq_true rfl⟩) ⟨zt_blind, fun U hU hW => ⟨rfl, trivial⟩⟩ rfl rfl hl.1 rfl (lv_room (Nat.le_of_ble_eq_true rfl)) dX5_tell_66 ⟨Nat.le_of_ble_eq_true rfl, Nat.le_of_ble_eq_true rfl⟩).run (fun r_2 hrr_2 => ?_)
              subst hrr_2
              refine zz_last hx hb hK hP hD hS 5 1 rfl rfl (n := 100) (j := t) (by omega) (by decide) dX5_tell_69 (fun H locs hP hD hS => ?_)
              have hP : va_P D vwCl [(qm, .inr (5, [.int cd, .int (nI n), .int (nI ni), .int (nI no), .ref mk, .ref m0, .ref m1, .ref mi, .ref mo, .ref ml, .ref mf, .ref ma, .int (nI cl), .ref mfd, .ref mts, .int (nI tc), .ref mg, .ref mb])), (mk, .inl (cI, 100, .inl kd)), (m0, .inl (cI, 100, .inl s0)), (m1, .inl (cI, 100, .inl s1)), (mi, .inl (cI, 100, .inl io)), (qt, .inl (cJ, 100, .inr (.inl (vp_updL v t (inW (cn (io t)) w)))))] H := hP
              have hD : va_D A [(qm, .inr (5, [.int cd, .int (nI n), .int (nI ni), .int (nI no), .ref mk, .ref m0, .ref m1, .ref mi, .ref mo, .ref ml, .ref mf, .ref ma, .int (nI cl), .ref mfd, .ref mts, .int (nI tc), .ref mg, .ref mb])), (mk, .inl (cI, 100, .inl kd)), (m0, .inl (cI, 100, .inl s0)), (m1, .inl (cI, 100, .inl s1)), (mi, .inl (cI, 100, .inl io)), (qt, .inl (cJ, 100, .inr (.inl (vp_updL v t (inW (cn (io t)) w)))))] := hD
              refine lv_goto (tgt := 145) hx hb dX5_tell_70 (by decide) ?_
              refine lv_aload_n hx hb dX5_tell_145 rfl (lv_at hl 1 rfl) ?_
              refine lv_iload hx hb dX5_tell_146 (lv_at hl 6 rfl) ?_
              refine lv_iload hx hb dX5_tell_148 (lv_at hl 4 rfl) ?_
              refine lv_iconst (v := (nI 3)) hx hb dX5_tell_150 (by decide) ?_
              refine lv_iload hx hb dX5_tell_151 (lv_at hl 6 rfl) ?_
              refine lv_imul hx hb dX5_tell_153 ?_
              refine zz_i (z := (nI (3 * t))) (pk_mul _ _) ?_
              refine lv_icmp_ne (tgt := 162) hx hb dX5_tell_154 (by decide) (fun c_154 => ?_) (fun c_154 => ?_)
              · skip
                refine lv_aload_n hx hb dX5_tell_162 rfl (lv_at hl 1 rfl) ?_
                refine lv_iload hx hb dX5_tell_163 (lv_at hl 6 rfl) ?_
                refine zz_lald hx hb hK hP 5 1 rfl rfl (n := 100) (j := t) (by omega) (by decide) dX5_tell_165 ?_
                refine zz_last hx hb hK hP hD hS 5 1 rfl rfl (n := 100) (j := t) (by omega) (by decide) dX5_tell_166 (fun H locs hP hD hS => ?_)
                have hP : va_P D vwCl [(qm, .inr (5, [.int cd, .int (nI n), .int (nI ni), .int (nI no), .ref mk, .ref m0, .ref m1, .ref mi, .ref mo, .ref ml, .ref mf, .ref ma, .int (nI cl), .ref mfd, .ref mts, .int (nI tc), .ref mg, .ref mb])), (mk, .inl (cI, 100, .inl kd)), (m0, .inl (cI, 100, .inl s0)), (m1, .inl (cI, 100, .inl s1)), (mi, .inl (cI, 100, .inl io)), (qt, .inl (cJ, 100, .inr (.inl (vp_updL (vp_updL v t (inW (cn (io t)) w)) t ((vp_updL v t (inW (cn (io t)) w)) t)))))] H := hP
                have hD : va_D A [(qm, .inr (5, [.int cd, .int (nI n), .int (nI ni), .int (nI no), .ref mk, .ref m0, .ref m1, .ref mi, .ref mo, .ref ml, .ref mf, .ref ma, .int (nI cl), .ref mfd, .ref mts, .int (nI tc), .ref mg, .ref mb])), (mk, .inl (cI, 100, .inl kd)), (m0, .inl (cI, 100, .inl s0)), (m1, .inl (cI, 100, .inl s1)), (mi, .inl (cI, 100, .inl io)), (qt, .inl (cJ, 100, .inr (.inl (vp_updL (vp_updL v t (inW (cn (io t)) w)) t ((vp_updL v t (inW (cn (io t)) w)) t)))))] := hD
                refine lv_iinc (v := (nI (t + 1))) (lv' := [(7, .int (nI (t + 1))), (0, .ref qm), (1, .ref qt), (2, .int (nI w)), (3, .int (-1)), (4, .int (-1)), (5, .long 0)]) hx hb dX5_tell_167 hl (k := 6) rfl (nI_add _ 1) (by decide) rfl (fun ls hl => ?_)
                refine lv_goto (tgt := 36) hx hb dX5_tell_170 (by decide) ?_
                exact ih36 (t + 1) (vp_updL (vp_updL v t (inW (cn (io t)) w)) t ((vp_updL v t (inW (cn (io t)) w)) t)) (by omega) (tell_s hv (fun j => uLs2) (by rw [hG t (by omega), if_pos hm])) (by omega) _ _ hP hD hS ls (lv_sub hl [1, 2, 3, 4, 5, 6, 0] rfl)
              · skip
                exact absurd c_154 (fun h => zn_ne (by omega) h.symm)
      exact loop36 ((n - 0) + 1) 0 tv (Nat.zero_le _) (fun j h => absurd h (Nat.not_lt_zero _)) (Nat.lt_succ_self _) _ _ hP hD hS ls (lv_sub hl [3, 4, 5, 6, 2, 1, 0] rfl)
    · skip
      exact absurd (by decide) c_14

set_option maxHeartbeats 4000000 in
set_option maxRecDepth 100000 in
theorem c_X5_tellB (l : Launch) (D : va_G) (cI cJ cZ : ClassId) (qm : Nat) (mk : Nat) (m0 : Nat) (m1 : Nat) (mi : Nat) (mo : Nat) (ml : Nat) (mf : Nat) (ma : Nat) (mfd : Nat) (mts : Nat) (mg : Nat) (mb : Nat) (cd : Int32) (n : Nat) (ni : Nat) (no : Nat) (cl : Nat) (tc : Nat) (kd : Nat → Int32) (s0 : Nat → Int32) (s1 : Nat → Int32) (io : Nat → Int32) (qt : Nat) (tv : Nat → Int64) (w : Nat) (f : Nat) (Bf : Nat → Int64) (sz : Nat) (A : Nat → Prop) (hAe : A = va_A [(qm, .inr (5, [.int cd, .int (nI n), .int (nI ni), .int (nI no), .ref mk, .ref m0, .ref m1, .ref mi, .ref mo, .ref ml, .ref mf, .ref ma, .int (nI cl), .ref mfd, .ref mts, .int (nI tc), .ref mg, .ref mb])), (mk, .inl (cI, 100, .inl kd)), (m0, .inl (cI, 100, .inl s0)), (m1, .inl (cI, 100, .inl s1)), (mi, .inl (cI, 100, .inl io)), (qt, .inl (cJ, 100, .inr (.inl tv)))] sz) (hn : n ≤ 100) (hwf : WF n kd s0 s1) (hkd : KD n kd) (hio : IOK n kd io) (hw : w < 16) (hf : f < 600) (hBf : BOK n kd s0 s1 io w f Bf) : Met l yX5_tell wsX5_tell ({ frames := 1, cells := 0, slots := 0, locals := 24 } : Room) (va_Pc [.ref qm, .ref qt, .int (nI w), .int (nI f)] (PW D cI cJ cZ [(qm, .inr (5, [.int cd, .int (nI n), .int (nI ni), .int (nI no), .ref mk, .ref m0, .ref m1, .ref mi, .ref mo, .ref ml, .ref mf, .ref ma, .int (nI cl), .ref mfd, .ref mts, .int (nI tc), .ref mg, .ref mb])), (mk, .inl (cI, 100, .inl kd)), (m0, .inl (cI, 100, .inl s0)), (m1, .inl (cI, 100, .inl s1)), (mi, .inl (cI, 100, .inl io)), (qt, .inl (cJ, 100, .inr (.inl tv)))] sz)) (va_Qv (fun u9 : (Nat → Int64) => match u9 with | tv2 => ∀ j, j < n → tv2 j = Bf j) (fun (u9 : (Nat → Int64)) t => match u9 with | tv2 => PQ D A [(qm, .inr (5, [.int cd, .int (nI n), .int (nI ni), .int (nI no), .ref mk, .ref m0, .ref m1, .ref mi, .ref mo, .ref ml, .ref mf, .ref ma, .int (nI cl), .ref mfd, .ref mts, .int (nI tc), .ref mg, .ref mb])), (mk, .inl (cI, 100, .inl kd)), (m0, .inl (cI, 100, .inl s0)), (m1, .inl (cI, 100, .inl s1)), (mi, .inl (cI, 100, .inl io)), (qt, .inl (cJ, 100, .inr (.inl tv2)))] t) A) 0 0 A := by
  refine Met.ofW (cc := cX5_tell) (maxL := 12) (ret := none) (by decide) rfl ?_
  intro p e s m args below meth c s₁ B hml hv
  obtain ⟨rfl, hsz, ⟨hP, hK, hNB⟩, hD0⟩ := hv
  have hx := B.exec
  have hb := B.bytes
  have hr := B.returns
  have hts := atoms_spec (ws := wsX5_tell) B.pre
  have hown : s.vm.findClass RX5 = some m.cls := findClass_of_methodNamed B.named
  have hlocks := B.notSynchronized
  have hiX5 : ∀ w ∈ u_ws RX5 TX5 18, w ∈ wsX5_tell := by decide +kernel
  subst hsz
  have hD : va_D A [(qm, .inr (5, [.int cd, .int (nI n), .int (nI ni), .int (nI no), .ref mk, .ref m0, .ref m1, .ref mi, .ref mo, .ref ml, .ref mf, .ref ma, .int (nI cl), .ref mfd, .ref mts, .int (nI tc), .ref mg, .ref mb])), (mk, .inl (cI, 100, .inl kd)), (m0, .inl (cI, 100, .inl s0)), (m1, .inl (cI, 100, .inl s1)), (mi, .inl (cI, 100, .inl io)), (qt, .inl (cJ, 100, .inr (.inl tv)))] := by rw [hAe]; exact hD0.self
  have hA : ∀ q : Nat, s.heap.size ≤ q → A q := fun q h => by rw [hAe]; exact Or.inr h
  have hS : va_S A s.heap s.heap [] := va_S.rf
  have hl := lv_entry ([.ref qm, .ref qt, .int (nI w), .int (nI f)]) (n := 12) (Nat.le_of_ble_eq_true rfl)
  rw [lg_entry_eq]
  generalize (lg_sl ([.ref qm, .ref qt, .int (nI w), .int (nI f)]) ++ List.replicate (12 - (lg_sl ([.ref qm, .ref qt, .int (nI w), .int (nI f)])).length) Slot.unset).toArray = ls at hl ⊢
  have hl : lv_has ls 12 [(0, .ref qm), (1, .ref qt), (2, .int (nI w)), (3, .int (nI f))] := hl
  refine lv_iload_n hx hb dX5_tell_0 rfl (lv_at hl 3 rfl) ?_
  refine lv_if_ge (tgt := 8) hx hb dX5_tell_1 (by decide) (fun c_1 => ?_) (fun c_1 => ?_)
  · skip
    rw [show (0 : Int32) = nI 0 from rfl, zc_le (by omega) (by omega)] at c_1
    refine lv_iload_n hx hb dX5_tell_8 rfl (lv_at hl 3 rfl) ?_
    refine lv_iconst (v := (nI 2)) hx hb dX5_tell_9 (by decide) ?_
    refine lv_idiv hx hb dX5_tell_10 (by decide) ?_
    refine zz_i (z := (nI (f / 2))) (pk_div (by omega) (by decide) (by decide)) ?_
    refine lv_istore (lv' := [(4, .int (nI (f / 2))), (0, .ref qm), (1, .ref qt), (2, .int (nI w)), (3, .int (nI f))]) hx hb dX5_tell_11 hl (by decide) rfl (fun ls hl => ?_)
    refine lv_iload_n hx hb dX5_tell_13 rfl (lv_at hl 4 rfl) ?_
    refine lv_if_lt (tgt := 30) hx hb dX5_tell_14 (by decide) (fun c_14 => ?_) (fun c_14 => ?_)
    · skip
      rw [show (0 : Int32) = nI 0 from rfl, zc_lt (by omega) (by omega)] at c_14
      exact absurd c_14 (Nat.not_lt_zero _)
    · skip
      rw [show (0 : Int32) = nI 0 from rfl, zc_lt (by omega) (by omega)] at c_14
      refine lv_iload_n hx hb dX5_tell_17 rfl (lv_at hl 4 rfl) ?_
      refine lv_iconst (v := (nI 2)) hx hb dX5_tell_18 (by decide) ?_
      refine lv_irem hx hb dX5_tell_19 (by decide) ?_
      refine zz_i (z := (nI (f % 2))) (pk_rem (by omega) (by decide) (by decide)) ?_
      refine lv_iconst (v := (nI 1)) hx hb dX5_tell_20 (by decide) ?_
      refine lv_icmp_ne (tgt := 30) hx hb dX5_tell_21 (by decide) (fun c_21 => ?_) (fun c_21 => ?_)
      · skip
        rw [zc_eq (by omega) (by omega)] at c_21
        refine lv_lconst (v := 0) hx hb dX5_tell_30 (by decide) ?_
        refine zz_l (z := (allW (nI (f % 2)))) (by first | (rw [c_21]; rfl) | (rw [show f % 2 = 0 by omega]; rfl)) ?_
        refine lv_lstore (lv' := [(5, .long (allW (nI (f % 2)))), (4, .int (nI (f / 2))), (0, .ref qm), (1, .ref qt), (2, .int (nI w)), (3, .int (nI f))]) hx hb dX5_tell_31 hl (by decide) rfl (fun ls hl => ?_)
        refine lv_iconst (v := (nI 0)) hx hb dX5_tell_33 (by decide) ?_
        refine lv_istore (lv' := [(7, .int (nI 0)), (5, .long (allW (nI (f % 2)))), (4, .int (nI (f / 2))), (0, .ref qm), (1, .ref qt), (2, .int (nI w)), (3, .int (nI f))]) hx hb dX5_tell_34 hl (by decide) rfl (fun ls hl => ?_)
        have loop36 : ∀ (n36 : Nat) (t : Nat) (v : Nat → Int64) (ht : t ≤ n) (hv : ∀ j, j < t → v j = Bf j), n - t < n36 → ∀ (H : Heap) (locs : List Loc), va_P D vwCl [(qm, .inr (5, [.int cd, .int (nI n), .int (nI ni), .int (nI no), .ref mk, .ref m0, .ref m1, .ref mi, .ref mo, .ref ml, .ref mf, .ref ma, .int (nI cl), .ref mfd, .ref mts, .int (nI tc), .ref mg, .ref mb])), (mk, .inl (cI, 100, .inl kd)), (m0, .inl (cI, 100, .inl s0)), (m1, .inl (cI, 100, .inl s1)), (mi, .inl (cI, 100, .inl io)), (qt, .inl (cJ, 100, .inr (.inl v)))] H → va_D A [(qm, .inr (5, [.int cd, .int (nI n), .int (nI ni), .int (nI no), .ref mk, .ref m0, .ref m1, .ref mi, .ref mo, .ref ml, .ref mf, .ref ma, .int (nI cl), .ref mfd, .ref mts, .int (nI tc), .ref mg, .ref mb])), (mk, .inl (cI, 100, .inl kd)), (m0, .inl (cI, 100, .inl s0)), (m1, .inl (cI, 100, .inl s1)), (mi, .inl (cI, 100, .inl io)), (qt, .inl (cJ, 100, .inr (.inl v)))] → va_S A s.heap H locs → ∀ (ls : Array Slot), lv_has ls 12 [(0, .ref qm), (1, .ref qt), (2, .int (nI w)), (3, .int (nI f)), (4, .int (nI (f / 2))), (5, .long (allW (nI (f % 2)))), (7, .int (nI t))] → W p l e (headSpec wsX5_tell ({ frames := 1, cells := 0, slots := 0, locals := 24 } : Room)).room s m ([.ref qm, .ref qt, .int (nI w), .int (nI f)] : List Value).toArray below meth c H locs 0 0 (MQ below (va_Qv (fun u9 : (Nat → Int64) => match u9 with | tv2 => ∀ j, j < n → tv2 j = Bf j) (fun (u9 : (Nat → Int64)) t => match u9 with | tv2 => PQ D A [(qm, .inr (5, [.int cd, .int (nI n), .int (nI ni), .int (nI no), .ref mk, .ref m0, .ref m1, .ref mi, .ref mo, .ref ml, .ref mf, .ref ma, .int (nI cl), .ref mfd, .ref mts, .int (nI tc), .ref mg, .ref mb])), (mk, .inl (cI, 100, .inl kd)), (m0, .inl (cI, 100, .inl s0)), (m1, .inl (cI, 100, .inl s1)), (mi, .inl (cI, 100, .inl io)), (qt, .inl (cJ, 100, .inr (.inl tv2)))] t) A) ([.ref qm, .ref qt, .int (nI w), .int (nI f)] : List Value).toArray s 0 0 A) (F0 m 36 ls []) := by
          intro n36
          induction n36 with
          | zero => intro t v ht hv hm; exact absurd hm (Nat.not_lt_zero _)
          | succ n36 ih36 =>
            intro t v ht hv hm36 H locs hP hD hS ls hl
            refine lv_iload hx hb dX5_tell_36 (lv_at hl 6 rfl) ?_
            refine lv_aload_n hx hb dX5_tell_38 rfl (lv_at hl 0 rfl) ?_
            refine va_get (D := D) (ci := 5) (v := .int (nI n)) (C := RX5) (T := TX5) (N := 18) hx hb hts hiX5 hown hK hP 0 rfl rfl 1 (by decide) (hts (.fieldLink RX5 52 "FaultSearchModel" "nets" "I") (by decide +kernel)) (fun _ h9 => h9) rfl dX5_tell_39 ?_
            refine lv_icmp_ge (tgt := 173) hx hb dX5_tell_42 (by decide) (fun c_42 => ?_) (fun c_42 => ?_)
            · skip
              rw [zc_le (by omega) (by omega)] at c_42
              exact W.vret hx hb hr (fun t_9 ht_9 hW_9 => ⟨⟨v, rfl, (show ∀ j, j < n → v j = Bf j from (fun j h => hv j (by omega))), ⟨by rw [ht_9]; exact hP, hD⟩⟩, hS.F ht_9⟩) hS.2.2 dX5_tell_173
            · skip
              rw [zc_le (by omega) (by omega)] at c_42
              refine lv_aload_n hx hb dX5_tell_45 rfl (lv_at hl 0 rfl) ?_
              refine va_get (D := D) (ci := 5) (v := .ref mk) (C := RX5) (T := TX5) (N := 18) hx hb hts hiX5 hown hK hP 0 rfl rfl 4 (by decide) (hts (.fieldLink RX5 7 "FaultSearchModel" "kinds" "[I") (by decide +kernel)) (fun _ h9 => h9) rfl dX5_tell_46 ?_
              refine lv_iload hx hb dX5_tell_49 (lv_at hl 6 rfl) ?_
              refine zz_iald hx hb hK hP 1 0 rfl rfl (n := 100) (j := t) (by omega) (by decide) dX5_tell_51 ?_
              refine lv_if_ge (tgt := 73) hx hb dX5_tell_52 (by decide) (fun c_52 => ?_) (fun c_52 => ?_)
              · skip
                have hg : ¬ kd t = (-1) := fun e => absurd c_52 (by rw [e]; decide)
                refine lv_iload hx hb dX5_tell_73 (lv_at hl 4 rfl) ?_
                refine lv_iconst (v := (nI 3)) hx hb dX5_tell_75 (by decide) ?_
                refine lv_iload hx hb dX5_tell_76 (lv_at hl 6 rfl) ?_
                refine lv_imul hx hb dX5_tell_78 ?_
                refine zz_i (z := (nI (3 * t))) (pk_mul _ _) ?_
                refine lv_iconst (v := (nI 1)) hx hb dX5_tell_79 (by decide) ?_
                refine lv_iadd hx hb dX5_tell_80 ?_
                refine zz_i (z := (nI ((3 * t) + 1))) (nI_add _ _) ?_
                refine lv_icmp_ne (tgt := 89) hx hb dX5_tell_81 (by decide) (fun c_81 => ?_) (fun c_81 => ?_)
                · skip
                  rw [zc_eq (by omega) (by omega)] at c_81
                  refine lv_aload_n hx hb dX5_tell_89 rfl (lv_at hl 1 rfl) ?_
                  refine lv_aload_n hx hb dX5_tell_90 rfl (lv_at hl 0 rfl) ?_
                  refine va_get (D := D) (ci := 5) (v := .ref m0) (C := RX5) (T := TX5) (N := 18) hx hb hts hiX5 hown hK hP 0 rfl rfl 5 (by decide) (hts (.fieldLink RX5 13 "FaultSearchModel" "firsts" "[I") (by decide +kernel)) (fun _ h9 => h9) rfl dX5_tell_91 ?_
                  refine lv_iload hx hb dX5_tell_94 (lv_at hl 6 rfl) ?_
                  refine zz_iald hx hb hK hP 2 0 rfl rfl (n := 100) (j := t) (by omega) (by decide) dX5_tell_96 ?_
                  refine zz_i (z := (nI (cn (s0 t)))) (hwf t (by omega) hg).1.1 ?_
                  refine zz_lald hx hb hK hP 5 1 rfl rfl (n := 100) (j := (cn (s0 t))) (by have := (hwf t (by omega) hg).1.2; omega) (by decide) dX5_tell_97 ?_
                  refine lv_lstore (lv' := [(8, .long (v (cn (s0 t)))), (0, .ref qm), (1, .ref qt), (2, .int (nI w)), (3, .int (nI f)), (4, .int (nI (f / 2))), (5, .long (allW (nI (f % 2)))), (7, .int (nI t))]) hx hb dX5_tell_98 hl (by decide) rfl (fun ls hl => ?_)
                  refine lv_iload hx hb dX5_tell_100 (lv_at hl 5 rfl) ?_
                  refine lv_iconst (v := (nI 3)) hx hb dX5_tell_102 (by decide) ?_
                  refine lv_iload hx hb dX5_tell_103 (lv_at hl 7 rfl) ?_
                  refine lv_imul hx hb dX5_tell_105 ?_
                  refine zz_i (z := (nI (3 * t))) (pk_mul _ _) ?_
                  refine lv_iconst (v := (nI 2)) hx hb dX5_tell_106 (by decide) ?_
                  refine lv_iadd hx hb dX5_tell_107 ?_
                  refine zz_i (z := (nI ((3 * t) + 2))) (nI_add _ _) ?_
                  refine lv_icmp_ne (tgt := 116) hx hb dX5_tell_108 (by decide) (fun c_108 => ?_) (fun c_108 => ?_)
                  · skip
                    rw [zc_eq (by omega) (by omega)] at c_108
                    refine lv_aload_n hx hb dX5_tell_116 rfl (lv_at hl 2 rfl) ?_
                    refine lv_aload_n hx hb dX5_tell_117 rfl (lv_at hl 1 rfl) ?_
                    refine va_get (D := D) (ci := 5) (v := .ref m1) (C := RX5) (T := TX5) (N := 18) hx hb hts hiX5 hown hK hP 0 rfl rfl 6 (by decide) (hts (.fieldLink RX5 16 "FaultSearchModel" "seconds" "[I") (by decide +kernel)) (fun _ h9 => h9) rfl dX5_tell_118 ?_
                    refine lv_iload hx hb dX5_tell_121 (lv_at hl 7 rfl) ?_
                    refine zz_iald hx hb hK hP 3 0 rfl rfl (n := 100) (j := t) (by omega) (by decide) dX5_tell_123 ?_
                    refine zz_i (z := (nI (cn (s1 t)))) (hwf t (by omega) hg).2.1 ?_
                    refine zz_lald hx hb hK hP 5 1 rfl rfl (n := 100) (j := (cn (s1 t))) (by have := (hwf t (by omega) hg).2.2; omega) (by decide) dX5_tell_124 ?_
                    refine lv_lstore (lv' := [(10, .long (v (cn (s1 t)))), (8, .long (v (cn (s0 t)))), (0, .ref qm), (1, .ref qt), (2, .int (nI w)), (3, .int (nI f)), (4, .int (nI (f / 2))), (5, .long (allW (nI (f % 2)))), (7, .int (nI t))]) hx hb dX5_tell_125 hl (by decide) rfl (fun ls hl => ?_)
                    refine lv_aload_n hx hb dX5_tell_127 rfl (lv_at hl 3 rfl) ?_
                    refine lv_iload hx hb dX5_tell_128 (lv_at hl 8 rfl) ?_
                    refine lv_aload_n hx hb dX5_tell_130 rfl (lv_at hl 2 rfl) ?_
                    refine va_get (D := D) (ci := 5) (v := .ref mk) (C := RX5) (T := TX5) (N := 18) hx hb hts hiX5 hown hK hP 0 rfl rfl 4 (by decide) (hts (.fieldLink RX5 7 "FaultSearchModel" "kinds" "[I") (by decide +kernel)) (fun _ h9 => h9) rfl dX5_tell_131 ?_
                    refine lv_iload hx hb dX5_tell_134 (lv_at hl 8 rfl) ?_
                    refine zz_iald hx hb hK hP 1 0 rfl rfl (n := 100) (j := t) (by omega) (by decide) dX5_tell_136 ?_
                    refine lv_lload hx hb dX5_tell_137 (lv_at hl 1 rfl) ?_
                    refine lv_lload hx hb dX5_tell_139 (lv_at hl 0 rfl) ?_
                    refine vp_callSl (va_runS (As := [.int (kd t), .long (v (cn (s0 t))), .long (v (cn (s1 t)))]) (rest := [.int (nI t), .ref qt]) ⟨hx, hb, hml, hown, hts⟩ (c_X5_gateOf l (kd t) (v (cn (s0 t))) (v (cn (s1 t)))) (va_cwS 3 hts gX5_tell_X5_gateOf rfl rfl rfl (by decide +kernel) ⟨Nat.le_of_ble_eq_true rfl, Nat.le_of_ble_eq_true rfl⟩) ⟨zt_blind, fun U hU hW => ⟨rfl, trivial⟩⟩ rfl rfl hl.1 rfl (lv_room (Nat.le_of_ble_eq_true rfl)) dX5_tell_141 ⟨Nat.le_of_ble_eq_true rfl, Nat.le_of_ble_eq_true rfl⟩).run (fun r_1 hrr_1 => ?_)
                    subst hrr_1
                    refine zz_last hx hb hK hP hD hS 5 1 rfl rfl (n := 100) (j := t) (by omega) (by decide) dX5_tell_144 (fun H locs hP hD hS => ?_)
                    have hP : va_P D vwCl [(qm, .inr (5, [.int cd, .int (nI n), .int (nI ni), .int (nI no), .ref mk, .ref m0, .ref m1, .ref mi, .ref mo, .ref ml, .ref mf, .ref ma, .int (nI cl), .ref mfd, .ref mts, .int (nI tc), .ref mg, .ref mb])), (mk, .inl (cI, 100, .inl kd)), (m0, .inl (cI, 100, .inl s0)), (m1, .inl (cI, 100, .inl s1)), (mi, .inl (cI, 100, .inl io)), (qt, .inl (cJ, 100, .inr (.inl (vp_updL v t (gw (kd t) (v (cn (s0 t))) (v (cn (s1 t))))))))] H := hP
                    have hD : va_D A [(qm, .inr (5, [.int cd, .int (nI n), .int (nI ni), .int (nI no), .ref mk, .ref m0, .ref m1, .ref mi, .ref mo, .ref ml, .ref mf, .ref ma, .int (nI cl), .ref mfd, .ref mts, .int (nI tc), .ref mg, .ref mb])), (mk, .inl (cI, 100, .inl kd)), (m0, .inl (cI, 100, .inl s0)), (m1, .inl (cI, 100, .inl s1)), (mi, .inl (cI, 100, .inl io)), (qt, .inl (cJ, 100, .inr (.inl (vp_updL v t (gw (kd t) (v (cn (s0 t))) (v (cn (s1 t))))))))] := hD
                    refine lv_aload_n hx hb dX5_tell_145 rfl (lv_at hl 3 rfl) ?_
                    refine lv_iload hx hb dX5_tell_146 (lv_at hl 8 rfl) ?_
                    refine lv_iload hx hb dX5_tell_148 (lv_at hl 6 rfl) ?_
                    refine lv_iconst (v := (nI 3)) hx hb dX5_tell_150 (by decide) ?_
                    refine lv_iload hx hb dX5_tell_151 (lv_at hl 8 rfl) ?_
                    refine lv_imul hx hb dX5_tell_153 ?_
                    refine zz_i (z := (nI (3 * t))) (pk_mul _ _) ?_
                    refine lv_icmp_ne (tgt := 162) hx hb dX5_tell_154 (by decide) (fun c_154 => ?_) (fun c_154 => ?_)
                    · skip
                      rw [zc_eq (by omega) (by omega)] at c_154
                      refine lv_aload_n hx hb dX5_tell_162 rfl (lv_at hl 3 rfl) ?_
                      refine lv_iload hx hb dX5_tell_163 (lv_at hl 8 rfl) ?_
                      refine zz_lald hx hb hK hP 5 1 rfl rfl (n := 100) (j := t) (by omega) (by decide) dX5_tell_165 ?_
                      refine zz_last hx hb hK hP hD hS 5 1 rfl rfl (n := 100) (j := t) (by omega) (by decide) dX5_tell_166 (fun H locs hP hD hS => ?_)
                      have hP : va_P D vwCl [(qm, .inr (5, [.int cd, .int (nI n), .int (nI ni), .int (nI no), .ref mk, .ref m0, .ref m1, .ref mi, .ref mo, .ref ml, .ref mf, .ref ma, .int (nI cl), .ref mfd, .ref mts, .int (nI tc), .ref mg, .ref mb])), (mk, .inl (cI, 100, .inl kd)), (m0, .inl (cI, 100, .inl s0)), (m1, .inl (cI, 100, .inl s1)), (mi, .inl (cI, 100, .inl io)), (qt, .inl (cJ, 100, .inr (.inl (vp_updL (vp_updL v t (gw (kd t) (v (cn (s0 t))) (v (cn (s1 t))))) t ((vp_updL v t (gw (kd t) (v (cn (s0 t))) (v (cn (s1 t))))) t)))))] H := hP
                      have hD : va_D A [(qm, .inr (5, [.int cd, .int (nI n), .int (nI ni), .int (nI no), .ref mk, .ref m0, .ref m1, .ref mi, .ref mo, .ref ml, .ref mf, .ref ma, .int (nI cl), .ref mfd, .ref mts, .int (nI tc), .ref mg, .ref mb])), (mk, .inl (cI, 100, .inl kd)), (m0, .inl (cI, 100, .inl s0)), (m1, .inl (cI, 100, .inl s1)), (mi, .inl (cI, 100, .inl io)), (qt, .inl (cJ, 100, .inr (.inl (vp_updL (vp_updL v t (gw (kd t) (v (cn (s0 t))) (v (cn (s1 t))))) t ((vp_updL v t (gw (kd t) (v (cn (s0 t))) (v (cn (s1 t))))) t)))))] := hD
                      refine lv_iinc (v := (nI (t + 1))) (lv' := [(7, .int (nI (t + 1))), (10, .long (v (cn (s1 t)))), (8, .long (v (cn (s0 t)))), (0, .ref qm), (1, .ref qt), (2, .int (nI w)), (3, .int (nI f)), (4, .int (nI (f / 2))), (5, .long (allW (nI (f % 2))))]) hx hb dX5_tell_167 hl (k := 8) rfl (nI_add _ 1) (by decide) rfl (fun ls hl => ?_)
                      refine lv_goto (tgt := 36) hx hb dX5_tell_170 (by decide) ?_
                      exact ih36 (t + 1) (vp_updL (vp_updL v t (gw (kd t) (v (cn (s0 t))) (v (cn (s1 t))))) t ((vp_updL v t (gw (kd t) (v (cn (s0 t))) (v (cn (s1 t))))) t)) (by omega) (tell_s hv (fun j => uLs2) (by rw [hBf t (by omega)]; (first | rw [if_pos c_154] | rw [if_neg c_154]); rw [if_neg hg]; (first | rw [if_pos c_81] | rw [if_neg c_81, hv _ (hwf t (by omega) hg).1.2]); (first | rw [if_pos c_108] | rw [if_neg c_108, hv _ (hwf t (by omega) hg).2.2]))) (by omega) _ _ hP hD hS ls (lv_sub hl [3, 4, 5, 6, 7, 8, 0] rfl)
                    · skip
                      rw [zc_eq (by omega) (by omega)] at c_154
                      refine lv_lload hx hb dX5_tell_157 (lv_at hl 7 rfl) ?_
                      refine lv_goto (tgt := 166) hx hb dX5_tell_159 (by decide) ?_
                      refine zz_last hx hb hK hP hD hS 5 1 rfl rfl (n := 100) (j := t) (by omega) (by decide) dX5_tell_166 (fun H locs hP hD hS => ?_)
                      have hP : va_P D vwCl [(qm, .inr (5, [.int cd, .int (nI n), .int (nI ni), .int (nI no), .ref mk, .ref m0, .ref m1, .ref mi, .ref mo, .ref ml, .ref mf, .ref ma, .int (nI cl), .ref mfd, .ref mts, .int (nI tc), .ref mg, .ref mb])), (mk, .inl (cI, 100, .inl kd)), (m0, .inl (cI, 100, .inl s0)), (m1, .inl (cI, 100, .inl s1)), (mi, .inl (cI, 100, .inl io)), (qt, .inl (cJ, 100, .inr (.inl (vp_updL (vp_updL v t (gw (kd t) (v (cn (s0 t))) (v (cn (s1 t))))) t (allW (nI (f % 2)))))))] H := hP
                      have hD : va_D A [(qm, .inr (5, [.int cd, .int (nI n), .int (nI ni), .int (nI no), .ref mk, .ref m0, .ref m1, .ref mi, .ref mo, .ref ml, .ref mf, .ref ma, .int (nI cl), .ref mfd, .ref mts, .int (nI tc), .ref mg, .ref mb])), (mk, .inl (cI, 100, .inl kd)), (m0, .inl (cI, 100, .inl s0)), (m1, .inl (cI, 100, .inl s1)), (mi, .inl (cI, 100, .inl io)), (qt, .inl (cJ, 100, .inr (.inl (vp_updL (vp_updL v t (gw (kd t) (v (cn (s0 t))) (v (cn (s1 t))))) t (allW (nI (f % 2)))))))] := hD
                      refine lv_iinc (v := (nI (t + 1))) (lv' := [(7, .int (nI (t + 1))), (10, .long (v (cn (s1 t)))), (8, .long (v (cn (s0 t)))), (0, .ref qm), (1, .ref qt), (2, .int (nI w)), (3, .int (nI f)), (4, .int (nI (f / 2))), (5, .long (allW (nI (f % 2))))]) hx hb dX5_tell_167 hl (k := 8) rfl (nI_add _ 1) (by decide) rfl (fun ls hl => ?_)
                      refine lv_goto (tgt := 36) hx hb dX5_tell_170 (by decide) ?_
                      exact ih36 (t + 1) (vp_updL (vp_updL v t (gw (kd t) (v (cn (s0 t))) (v (cn (s1 t))))) t (allW (nI (f % 2)))) (by omega) (tell_s hv (fun j => uLs3) (by rw [hBf t (by omega)]; (first | rw [if_pos c_154] | rw [if_neg c_154]))) (by omega) _ _ hP hD hS ls (lv_sub hl [3, 4, 5, 6, 7, 8, 0] rfl)
                  · skip
                    rw [zc_eq (by omega) (by omega)] at c_108
                    refine lv_lload hx hb dX5_tell_111 (lv_at hl 6 rfl) ?_
                    refine lv_goto (tgt := 125) hx hb dX5_tell_113 (by decide) ?_
                    refine lv_lstore (lv' := [(10, .long (allW (nI (f % 2)))), (8, .long (v (cn (s0 t)))), (0, .ref qm), (1, .ref qt), (2, .int (nI w)), (3, .int (nI f)), (4, .int (nI (f / 2))), (5, .long (allW (nI (f % 2)))), (7, .int (nI t))]) hx hb dX5_tell_125 hl (by decide) rfl (fun ls hl => ?_)
                    refine lv_aload_n hx hb dX5_tell_127 rfl (lv_at hl 3 rfl) ?_
                    refine lv_iload hx hb dX5_tell_128 (lv_at hl 8 rfl) ?_
                    refine lv_aload_n hx hb dX5_tell_130 rfl (lv_at hl 2 rfl) ?_
                    refine va_get (D := D) (ci := 5) (v := .ref mk) (C := RX5) (T := TX5) (N := 18) hx hb hts hiX5 hown hK hP 0 rfl rfl 4 (by decide) (hts (.fieldLink RX5 7 "FaultSearchModel" "kinds" "[I") (by decide +kernel)) (fun _ h9 => h9) rfl dX5_tell_131 ?_
                    refine lv_iload hx hb dX5_tell_134 (lv_at hl 8 rfl) ?_
                    refine zz_iald hx hb hK hP 1 0 rfl rfl (n := 100) (j := t) (by omega) (by decide) dX5_tell_136 ?_
                    refine lv_lload hx hb dX5_tell_137 (lv_at hl 1 rfl) ?_
                    refine lv_lload hx hb dX5_tell_139 (lv_at hl 0 rfl) ?_
                    refine vp_callSl (va_runS (As := [.int (kd t), .long (v (cn (s0 t))), .long (allW (nI (f % 2)))]) (rest := [.int (nI t), .ref qt]) ⟨hx, hb, hml, hown, hts⟩ (c_X5_gateOf l (kd t) (v (cn (s0 t))) (allW (nI (f % 2)))) (va_cwS 3 hts gX5_tell_X5_gateOf rfl rfl rfl (by decide +kernel) ⟨Nat.le_of_ble_eq_true rfl, Nat.le_of_ble_eq_true rfl⟩) ⟨zt_blind, fun U hU hW => ⟨rfl, trivial⟩⟩ rfl rfl hl.1 rfl (lv_room (Nat.le_of_ble_eq_true rfl)) dX5_tell_141 ⟨Nat.le_of_ble_eq_true rfl, Nat.le_of_ble_eq_true rfl⟩).run (fun r_2 hrr_2 => ?_)
                    subst hrr_2
                    refine zz_last hx hb hK hP hD hS 5 1 rfl rfl (n := 100) (j := t) (by omega) (by decide) dX5_tell_144 (fun H locs hP hD hS => ?_)
                    have hP : va_P D vwCl [(qm, .inr (5, [.int cd, .int (nI n), .int (nI ni), .int (nI no), .ref mk, .ref m0, .ref m1, .ref mi, .ref mo, .ref ml, .ref mf, .ref ma, .int (nI cl), .ref mfd, .ref mts, .int (nI tc), .ref mg, .ref mb])), (mk, .inl (cI, 100, .inl kd)), (m0, .inl (cI, 100, .inl s0)), (m1, .inl (cI, 100, .inl s1)), (mi, .inl (cI, 100, .inl io)), (qt, .inl (cJ, 100, .inr (.inl (vp_updL v t (gw (kd t) (v (cn (s0 t))) (allW (nI (f % 2))))))))] H := hP
                    have hD : va_D A [(qm, .inr (5, [.int cd, .int (nI n), .int (nI ni), .int (nI no), .ref mk, .ref m0, .ref m1, .ref mi, .ref mo, .ref ml, .ref mf, .ref ma, .int (nI cl), .ref mfd, .ref mts, .int (nI tc), .ref mg, .ref mb])), (mk, .inl (cI, 100, .inl kd)), (m0, .inl (cI, 100, .inl s0)), (m1, .inl (cI, 100, .inl s1)), (mi, .inl (cI, 100, .inl io)), (qt, .inl (cJ, 100, .inr (.inl (vp_updL v t (gw (kd t) (v (cn (s0 t))) (allW (nI (f % 2))))))))] := hD
                    refine lv_aload_n hx hb dX5_tell_145 rfl (lv_at hl 3 rfl) ?_
                    refine lv_iload hx hb dX5_tell_146 (lv_at hl 8 rfl) ?_
                    refine lv_iload hx hb dX5_tell_148 (lv_at hl 6 rfl) ?_
                    refine lv_iconst (v := (nI 3)) hx hb dX5_tell_150 (by decide) ?_
                    refine lv_iload hx hb dX5_tell_151 (lv_at hl 8 rfl) ?_
                    refine lv_imul hx hb dX5_tell_153 ?_
                    refine zz_i (z := (nI (3 * t))) (pk_mul _ _) ?_
                    refine lv_icmp_ne (tgt := 162) hx hb dX5_tell_154 (by decide) (fun c_154 => ?_) (fun c_154 => ?_)
                    · skip
                      rw [zc_eq (by omega) (by omega)] at c_154
                      refine lv_aload_n hx hb dX5_tell_162 rfl (lv_at hl 3 rfl) ?_
                      refine lv_iload hx hb dX5_tell_163 (lv_at hl 8 rfl) ?_
                      refine zz_lald hx hb hK hP 5 1 rfl rfl (n := 100) (j := t) (by omega) (by decide) dX5_tell_165 ?_
                      refine zz_last hx hb hK hP hD hS 5 1 rfl rfl (n := 100) (j := t) (by omega) (by decide) dX5_tell_166 (fun H locs hP hD hS => ?_)
                      have hP : va_P D vwCl [(qm, .inr (5, [.int cd, .int (nI n), .int (nI ni), .int (nI no), .ref mk, .ref m0, .ref m1, .ref mi, .ref mo, .ref ml, .ref mf, .ref ma, .int (nI cl), .ref mfd, .ref mts, .int (nI tc), .ref mg, .ref mb])), (mk, .inl (cI, 100, .inl kd)), (m0, .inl (cI, 100, .inl s0)), (m1, .inl (cI, 100, .inl s1)), (mi, .inl (cI, 100, .inl io)), (qt, .inl (cJ, 100, .inr (.inl (vp_updL (vp_updL v t (gw (kd t) (v (cn (s0 t))) (allW (nI (f % 2))))) t ((vp_updL v t (gw (kd t) (v (cn (s0 t))) (allW (nI (f % 2))))) t)))))] H := hP
                      have hD : va_D A [(qm, .inr (5, [.int cd, .int (nI n), .int (nI ni), .int (nI no), .ref mk, .ref m0, .ref m1, .ref mi, .ref mo, .ref ml, .ref mf, .ref ma, .int (nI cl), .ref mfd, .ref mts, .int (nI tc), .ref mg, .ref mb])), (mk, .inl (cI, 100, .inl kd)), (m0, .inl (cI, 100, .inl s0)), (m1, .inl (cI, 100, .inl s1)), (mi, .inl (cI, 100, .inl io)), (qt, .inl (cJ, 100, .inr (.inl (vp_updL (vp_updL v t (gw (kd t) (v (cn (s0 t))) (allW (nI (f % 2))))) t ((vp_updL v t (gw (kd t) (v (cn (s0 t))) (allW (nI (f % 2))))) t)))))] := hD
                      refine lv_iinc (v := (nI (t + 1))) (lv' := [(7, .int (nI (t + 1))), (10, .long (allW (nI (f % 2)))), (8, .long (v (cn (s0 t)))), (0, .ref qm), (1, .ref qt), (2, .int (nI w)), (3, .int (nI f)), (4, .int (nI (f / 2))), (5, .long (allW (nI (f % 2))))]) hx hb dX5_tell_167 hl (k := 8) rfl (nI_add _ 1) (by decide) rfl (fun ls hl => ?_)
                      refine lv_goto (tgt := 36) hx hb dX5_tell_170 (by decide) ?_
                      exact ih36 (t + 1) (vp_updL (vp_updL v t (gw (kd t) (v (cn (s0 t))) (allW (nI (f % 2))))) t ((vp_updL v t (gw (kd t) (v (cn (s0 t))) (allW (nI (f % 2))))) t)) (by omega) (tell_s hv (fun j => uLs2) (by rw [hBf t (by omega)]; (first | rw [if_pos c_154] | rw [if_neg c_154]); rw [if_neg hg]; (first | rw [if_pos c_81] | rw [if_neg c_81, hv _ (hwf t (by omega) hg).1.2]); (first | rw [if_pos c_108] | rw [if_neg c_108, hv _ (hwf t (by omega) hg).2.2]))) (by omega) _ _ hP hD hS ls (lv_sub hl [3, 4, 5, 6, 7, 8, 0] rfl)
                    · skip
                      rw [zc_eq (by omega) (by omega)] at c_154
                      refine lv_lload hx hb dX5_tell_157 (lv_at hl 7 rfl) ?_
                      refine lv_goto (tgt := 166) hx hb dX5_tell_159 (by decide) ?_
                      refine zz_last hx hb hK hP hD hS 5 1 rfl rfl (n := 100) (j := t) (by omega) (by decide) dX5_tell_166 (fun H locs hP hD hS => ?_)
                      have hP : va_P D vwCl [(qm, .inr (5, [.int cd, .int (nI n), .int (nI ni), .int (nI no), .ref mk, .ref m0, .ref m1, .ref mi, .ref mo, .ref ml, .ref mf, .ref ma, .int (nI cl), .ref mfd, .ref mts, .int (nI tc), .ref mg, .ref mb])), (mk, .inl (cI, 100, .inl kd)), (m0, .inl (cI, 100, .inl s0)), (m1, .inl (cI, 100, .inl s1)), (mi, .inl (cI, 100, .inl io)), (qt, .inl (cJ, 100, .inr (.inl (vp_updL (vp_updL v t (gw (kd t) (v (cn (s0 t))) (allW (nI (f % 2))))) t (allW (nI (f % 2)))))))] H := hP
                      have hD : va_D A [(qm, .inr (5, [.int cd, .int (nI n), .int (nI ni), .int (nI no), .ref mk, .ref m0, .ref m1, .ref mi, .ref mo, .ref ml, .ref mf, .ref ma, .int (nI cl), .ref mfd, .ref mts, .int (nI tc), .ref mg, .ref mb])), (mk, .inl (cI, 100, .inl kd)), (m0, .inl (cI, 100, .inl s0)), (m1, .inl (cI, 100, .inl s1)), (mi, .inl (cI, 100, .inl io)), (qt, .inl (cJ, 100, .inr (.inl (vp_updL (vp_updL v t (gw (kd t) (v (cn (s0 t))) (allW (nI (f % 2))))) t (allW (nI (f % 2)))))))] := hD
                      refine lv_iinc (v := (nI (t + 1))) (lv' := [(7, .int (nI (t + 1))), (10, .long (allW (nI (f % 2)))), (8, .long (v (cn (s0 t)))), (0, .ref qm), (1, .ref qt), (2, .int (nI w)), (3, .int (nI f)), (4, .int (nI (f / 2))), (5, .long (allW (nI (f % 2))))]) hx hb dX5_tell_167 hl (k := 8) rfl (nI_add _ 1) (by decide) rfl (fun ls hl => ?_)
                      refine lv_goto (tgt := 36) hx hb dX5_tell_170 (by decide) ?_
                      exact ih36 (t + 1) (vp_updL (vp_updL v t (gw (kd t) (v (cn (s0 t))) (allW (nI (f % 2))))) t (allW (nI (f % 2)))) (by omega) (tell_s hv (fun j => uLs3) (by rw [hBf t (by omega)]; (first | rw [if_pos c_154] | rw [if_neg c_154]))) (by omega) _ _ hP hD hS ls (lv_sub hl [3, 4, 5, 6, 7, 8, 0] rfl)
                · skip
                  rw [zc_eq (by omega) (by omega)] at c_81
                  refine lv_lload hx hb dX5_tell_84 (lv_at hl 5 rfl) ?_
                  refine lv_goto (tgt := 98) hx hb dX5_tell_86 (by decide) ?_
                  refine lv_lstore (lv' := [(8, .long (allW (nI (f % 2)))), (0, .ref qm), (1, .ref qt), (2, .int (nI w)), (3, .int (nI f)), (4, .int (nI (f / 2))), (5, .long (allW (nI (f % 2)))), (7, .int (nI t))]) hx hb dX5_tell_98 hl (by decide) rfl (fun ls hl => ?_)
                  refine lv_iload hx hb dX5_tell_100 (lv_at hl 5 rfl) ?_
                  refine lv_iconst (v := (nI 3)) hx hb dX5_tell_102 (by decide) ?_
                  refine lv_iload hx hb dX5_tell_103 (lv_at hl 7 rfl) ?_
                  refine lv_imul hx hb dX5_tell_105 ?_
                  refine zz_i (z := (nI (3 * t))) (pk_mul _ _) ?_
                  refine lv_iconst (v := (nI 2)) hx hb dX5_tell_106 (by decide) ?_
                  refine lv_iadd hx hb dX5_tell_107 ?_
                  refine zz_i (z := (nI ((3 * t) + 2))) (nI_add _ _) ?_
                  refine lv_icmp_ne (tgt := 116) hx hb dX5_tell_108 (by decide) (fun c_108 => ?_) (fun c_108 => ?_)
                  · skip
                    rw [zc_eq (by omega) (by omega)] at c_108
                    refine lv_aload_n hx hb dX5_tell_116 rfl (lv_at hl 2 rfl) ?_
                    refine lv_aload_n hx hb dX5_tell_117 rfl (lv_at hl 1 rfl) ?_
                    refine va_get (D := D) (ci := 5) (v := .ref m1) (C := RX5) (T := TX5) (N := 18) hx hb hts hiX5 hown hK hP 0 rfl rfl 6 (by decide) (hts (.fieldLink RX5 16 "FaultSearchModel" "seconds" "[I") (by decide +kernel)) (fun _ h9 => h9) rfl dX5_tell_118 ?_
                    refine lv_iload hx hb dX5_tell_121 (lv_at hl 7 rfl) ?_
                    refine zz_iald hx hb hK hP 3 0 rfl rfl (n := 100) (j := t) (by omega) (by decide) dX5_tell_123 ?_
                    refine zz_i (z := (nI (cn (s1 t)))) (hwf t (by omega) hg).2.1 ?_
                    refine zz_lald hx hb hK hP 5 1 rfl rfl (n := 100) (j := (cn (s1 t))) (by have := (hwf t (by omega) hg).2.2; omega) (by decide) dX5_tell_124 ?_
                    refine lv_lstore (lv' := [(10, .long (v (cn (s1 t)))), (8, .long (allW (nI (f % 2)))), (0, .ref qm), (1, .ref qt), (2, .int (nI w)), (3, .int (nI f)), (4, .int (nI (f / 2))), (5, .long (allW (nI (f % 2)))), (7, .int (nI t))]) hx hb dX5_tell_125 hl (by decide) rfl (fun ls hl => ?_)
                    refine lv_aload_n hx hb dX5_tell_127 rfl (lv_at hl 3 rfl) ?_
                    refine lv_iload hx hb dX5_tell_128 (lv_at hl 8 rfl) ?_
                    refine lv_aload_n hx hb dX5_tell_130 rfl (lv_at hl 2 rfl) ?_
                    refine va_get (D := D) (ci := 5) (v := .ref mk) (C := RX5) (T := TX5) (N := 18) hx hb hts hiX5 hown hK hP 0 rfl rfl 4 (by decide) (hts (.fieldLink RX5 7 "FaultSearchModel" "kinds" "[I") (by decide +kernel)) (fun _ h9 => h9) rfl dX5_tell_131 ?_
                    refine lv_iload hx hb dX5_tell_134 (lv_at hl 8 rfl) ?_
                    refine zz_iald hx hb hK hP 1 0 rfl rfl (n := 100) (j := t) (by omega) (by decide) dX5_tell_136 ?_
                    refine lv_lload hx hb dX5_tell_137 (lv_at hl 1 rfl) ?_
                    refine lv_lload hx hb dX5_tell_139 (lv_at hl 0 rfl) ?_
                    refine vp_callSl (va_runS (As := [.int (kd t), .long (allW (nI (f % 2))), .long (v (cn (s1 t)))]) (rest := [.int (nI t), .ref qt]) ⟨hx, hb, hml, hown, hts⟩ (c_X5_gateOf l (kd t) (allW (nI (f % 2))) (v (cn (s1 t)))) (va_cwS 3 hts gX5_tell_X5_gateOf rfl rfl rfl (by decide +kernel) ⟨Nat.le_of_ble_eq_true rfl, Nat.le_of_ble_eq_true rfl⟩) ⟨zt_blind, fun U hU hW => ⟨rfl, trivial⟩⟩ rfl rfl hl.1 rfl (lv_room (Nat.le_of_ble_eq_true rfl)) dX5_tell_141 ⟨Nat.le_of_ble_eq_true rfl, Nat.le_of_ble_eq_true rfl⟩).run (fun r_3 hrr_3 => ?_)
                    subst hrr_3
                    refine zz_last hx hb hK hP hD hS 5 1 rfl rfl (n := 100) (j := t) (by omega) (by decide) dX5_tell_144 (fun H locs hP hD hS => ?_)
                    have hP : va_P D vwCl [(qm, .inr (5, [.int cd, .int (nI n), .int (nI ni), .int (nI no), .ref mk, .ref m0, .ref m1, .ref mi, .ref mo, .ref ml, .ref mf, .ref ma, .int (nI cl), .ref mfd, .ref mts, .int (nI tc), .ref mg, .ref mb])), (mk, .inl (cI, 100, .inl kd)), (m0, .inl (cI, 100, .inl s0)), (m1, .inl (cI, 100, .inl s1)), (mi, .inl (cI, 100, .inl io)), (qt, .inl (cJ, 100, .inr (.inl (vp_updL v t (gw (kd t) (allW (nI (f % 2))) (v (cn (s1 t))))))))] H := hP
                    have hD : va_D A [(qm, .inr (5, [.int cd, .int (nI n), .int (nI ni), .int (nI no), .ref mk, .ref m0, .ref m1, .ref mi, .ref mo, .ref ml, .ref mf, .ref ma, .int (nI cl), .ref mfd, .ref mts, .int (nI tc), .ref mg, .ref mb])), (mk, .inl (cI, 100, .inl kd)), (m0, .inl (cI, 100, .inl s0)), (m1, .inl (cI, 100, .inl s1)), (mi, .inl (cI, 100, .inl io)), (qt, .inl (cJ, 100, .inr (.inl (vp_updL v t (gw (kd t) (allW (nI (f % 2))) (v (cn (s1 t))))))))] := hD
                    refine lv_aload_n hx hb dX5_tell_145 rfl (lv_at hl 3 rfl) ?_
                    refine lv_iload hx hb dX5_tell_146 (lv_at hl 8 rfl) ?_
                    refine lv_iload hx hb dX5_tell_148 (lv_at hl 6 rfl) ?_
                    refine lv_iconst (v := (nI 3)) hx hb dX5_tell_150 (by decide) ?_
                    refine lv_iload hx hb dX5_tell_151 (lv_at hl 8 rfl) ?_
                    refine lv_imul hx hb dX5_tell_153 ?_
                    refine zz_i (z := (nI (3 * t))) (pk_mul _ _) ?_
                    refine lv_icmp_ne (tgt := 162) hx hb dX5_tell_154 (by decide) (fun c_154 => ?_) (fun c_154 => ?_)
                    · skip
                      rw [zc_eq (by omega) (by omega)] at c_154
                      refine lv_aload_n hx hb dX5_tell_162 rfl (lv_at hl 3 rfl) ?_
                      refine lv_iload hx hb dX5_tell_163 (lv_at hl 8 rfl) ?_
                      refine zz_lald hx hb hK hP 5 1 rfl rfl (n := 100) (j := t) (by omega) (by decide) dX5_tell_165 ?_
                      refine zz_last hx hb hK hP hD hS 5 1 rfl rfl (n := 100) (j := t) (by omega) (by decide) dX5_tell_166 (fun H locs hP hD hS => ?_)
                      have hP : va_P D vwCl [(qm, .inr (5, [.int cd, .int (nI n), .int (nI ni), .int (nI no), .ref mk, .ref m0, .ref m1, .ref mi, .ref mo, .ref ml, .ref mf, .ref ma, .int (nI cl), .ref mfd, .ref mts, .int (nI tc), .ref mg, .ref mb])), (mk, .inl (cI, 100, .inl kd)), (m0, .inl (cI, 100, .inl s0)), (m1, .inl (cI, 100, .inl s1)), (mi, .inl (cI, 100, .inl io)), (qt, .inl (cJ, 100, .inr (.inl (vp_updL (vp_updL v t (gw (kd t) (allW (nI (f % 2))) (v (cn (s1 t))))) t ((vp_updL v t (gw (kd t) (allW (nI (f % 2))) (v (cn (s1 t))))) t)))))] H := hP
                      have hD : va_D A [(qm, .inr (5, [.int cd, .int (nI n), .int (nI ni), .int (nI no), .ref mk, .ref m0, .ref m1, .ref mi, .ref mo, .ref ml, .ref mf, .ref ma, .int (nI cl), .ref mfd, .ref mts, .int (nI tc), .ref mg, .ref mb])), (mk, .inl (cI, 100, .inl kd)), (m0, .inl (cI, 100, .inl s0)), (m1, .inl (cI, 100, .inl s1)), (mi, .inl (cI, 100, .inl io)), (qt, .inl (cJ, 100, .inr (.inl (vp_updL (vp_updL v t (gw (kd t) (allW (nI (f % 2))) (v (cn (s1 t))))) t ((vp_updL v t (gw (kd t) (allW (nI (f % 2))) (v (cn (s1 t))))) t)))))] := hD
                      refine lv_iinc (v := (nI (t + 1))) (lv' := [(7, .int (nI (t + 1))), (10, .long (v (cn (s1 t)))), (8, .long (allW (nI (f % 2)))), (0, .ref qm), (1, .ref qt), (2, .int (nI w)), (3, .int (nI f)), (4, .int (nI (f / 2))), (5, .long (allW (nI (f % 2))))]) hx hb dX5_tell_167 hl (k := 8) rfl (nI_add _ 1) (by decide) rfl (fun ls hl => ?_)
                      refine lv_goto (tgt := 36) hx hb dX5_tell_170 (by decide) ?_
                      exact ih36 (t + 1) (vp_updL (vp_updL v t (gw (kd t) (allW (nI (f % 2))) (v (cn (s1 t))))) t ((vp_updL v t (gw (kd t) (allW (nI (f % 2))) (v (cn (s1 t))))) t)) (by omega) (tell_s hv (fun j => uLs2) (by rw [hBf t (by omega)]; (first | rw [if_pos c_154] | rw [if_neg c_154]); rw [if_neg hg]; (first | rw [if_pos c_81] | rw [if_neg c_81, hv _ (hwf t (by omega) hg).1.2]); (first | rw [if_pos c_108] | rw [if_neg c_108, hv _ (hwf t (by omega) hg).2.2]))) (by omega) _ _ hP hD hS ls (lv_sub hl [3, 4, 5, 6, 7, 8, 0] rfl)
                    · skip
                      rw [zc_eq (by omega) (by omega)] at c_154
                      refine lv_lload hx hb dX5_tell_157 (lv_at hl 7 rfl) ?_
                      refine lv_goto (tgt := 166) hx hb dX5_tell_159 (by decide) ?_
                      refine zz_last hx hb hK hP hD hS 5 1 rfl rfl (n := 100) (j := t) (by omega) (by decide) dX5_tell_166 (fun H locs hP hD hS => ?_)
                      have hP : va_P D vwCl [(qm, .inr (5, [.int cd, .int (nI n), .int (nI ni), .int (nI no), .ref mk, .ref m0, .ref m1, .ref mi, .ref mo, .ref ml, .ref mf, .ref ma, .int (nI cl), .ref mfd, .ref mts, .int (nI tc), .ref mg, .ref mb])), (mk, .inl (cI, 100, .inl kd)), (m0, .inl (cI, 100, .inl s0)), (m1, .inl (cI, 100, .inl s1)), (mi, .inl (cI, 100, .inl io)), (qt, .inl (cJ, 100, .inr (.inl (vp_updL (vp_updL v t (gw (kd t) (allW (nI (f % 2))) (v (cn (s1 t))))) t (allW (nI (f % 2)))))))] H := hP
                      have hD : va_D A [(qm, .inr (5, [.int cd, .int (nI n), .int (nI ni), .int (nI no), .ref mk, .ref m0, .ref m1, .ref mi, .ref mo, .ref ml, .ref mf, .ref ma, .int (nI cl), .ref mfd, .ref mts, .int (nI tc), .ref mg, .ref mb])), (mk, .inl (cI, 100, .inl kd)), (m0, .inl (cI, 100, .inl s0)), (m1, .inl (cI, 100, .inl s1)), (mi, .inl (cI, 100, .inl io)), (qt, .inl (cJ, 100, .inr (.inl (vp_updL (vp_updL v t (gw (kd t) (allW (nI (f % 2))) (v (cn (s1 t))))) t (allW (nI (f % 2)))))))] := hD
                      refine lv_iinc (v := (nI (t + 1))) (lv' := [(7, .int (nI (t + 1))), (10, .long (v (cn (s1 t)))), (8, .long (allW (nI (f % 2)))), (0, .ref qm), (1, .ref qt), (2, .int (nI w)), (3, .int (nI f)), (4, .int (nI (f / 2))), (5, .long (allW (nI (f % 2))))]) hx hb dX5_tell_167 hl (k := 8) rfl (nI_add _ 1) (by decide) rfl (fun ls hl => ?_)
                      refine lv_goto (tgt := 36) hx hb dX5_tell_170 (by decide) ?_
                      exact ih36 (t + 1) (vp_updL (vp_updL v t (gw (kd t) (allW (nI (f % 2))) (v (cn (s1 t))))) t (allW (nI (f % 2)))) (by omega) (tell_s hv (fun j => uLs3) (by rw [hBf t (by omega)]; (first | rw [if_pos c_154] | rw [if_neg c_154]))) (by omega) _ _ hP hD hS ls (lv_sub hl [3, 4, 5, 6, 7, 8, 0] rfl)
                  · skip
                    rw [zc_eq (by omega) (by omega)] at c_108
                    refine lv_lload hx hb dX5_tell_111 (lv_at hl 6 rfl) ?_
                    refine lv_goto (tgt := 125) hx hb dX5_tell_113 (by decide) ?_
                    refine lv_lstore (lv' := [(10, .long (allW (nI (f % 2)))), (8, .long (allW (nI (f % 2)))), (0, .ref qm), (1, .ref qt), (2, .int (nI w)), (3, .int (nI f)), (4, .int (nI (f / 2))), (5, .long (allW (nI (f % 2)))), (7, .int (nI t))]) hx hb dX5_tell_125 hl (by decide) rfl (fun ls hl => ?_)
                    refine lv_aload_n hx hb dX5_tell_127 rfl (lv_at hl 3 rfl) ?_
                    refine lv_iload hx hb dX5_tell_128 (lv_at hl 8 rfl) ?_
                    refine lv_aload_n hx hb dX5_tell_130 rfl (lv_at hl 2 rfl) ?_
                    refine va_get (D := D) (ci := 5) (v := .ref mk) (C := RX5) (T := TX5) (N := 18) hx hb hts hiX5 hown hK hP 0 rfl rfl 4 (by decide) (hts (.fieldLink RX5 7 "FaultSearchModel" "kinds" "[I") (by decide +kernel)) (fun _ h9 => h9) rfl dX5_tell_131 ?_
                    refine lv_iload hx hb dX5_tell_134 (lv_at hl 8 rfl) ?_
                    refine zz_iald hx hb hK hP 1 0 rfl rfl (n := 100) (j := t) (by omega) (by decide) dX5_tell_136 ?_
                    refine lv_lload hx hb dX5_tell_137 (lv_at hl 1 rfl) ?_
                    refine lv_lload hx hb dX5_tell_139 (lv_at hl 0 rfl) ?_
                    refine vp_callSl (va_runS (As := [.int (kd t), .long (allW (nI (f % 2))), .long (allW (nI (f % 2)))]) (rest := [.int (nI t), .ref qt]) ⟨hx, hb, hml, hown, hts⟩ (c_X5_gateOf l (kd t) (allW (nI (f % 2))) (allW (nI (f % 2)))) (va_cwS 3 hts gX5_tell_X5_gateOf rfl rfl rfl (by decide +kernel) ⟨Nat.le_of_ble_eq_true rfl, Nat.le_of_ble_eq_true rfl⟩) ⟨zt_blind, fun U hU hW => ⟨rfl, trivial⟩⟩ rfl rfl hl.1 rfl (lv_room (Nat.le_of_ble_eq_true rfl)) dX5_tell_141 ⟨Nat.le_of_ble_eq_true rfl, Nat.le_of_ble_eq_true rfl⟩).run (fun r_4 hrr_4 => ?_)
                    subst hrr_4
                    refine zz_last hx hb hK hP hD hS 5 1 rfl rfl (n := 100) (j := t) (by omega) (by decide) dX5_tell_144 (fun H locs hP hD hS => ?_)
                    have hP : va_P D vwCl [(qm, .inr (5, [.int cd, .int (nI n), .int (nI ni), .int (nI no), .ref mk, .ref m0, .ref m1, .ref mi, .ref mo, .ref ml, .ref mf, .ref ma, .int (nI cl), .ref mfd, .ref mts, .int (nI tc), .ref mg, .ref mb])), (mk, .inl (cI, 100, .inl kd)), (m0, .inl (cI, 100, .inl s0)), (m1, .inl (cI, 100, .inl s1)), (mi, .inl (cI, 100, .inl io)), (qt, .inl (cJ, 100, .inr (.inl (vp_updL v t (gw (kd t) (allW (nI (f % 2))) (allW (nI (f % 2))))))))] H := hP
                    have hD : va_D A [(qm, .inr (5, [.int cd, .int (nI n), .int (nI ni), .int (nI no), .ref mk, .ref m0, .ref m1, .ref mi, .ref mo, .ref ml, .ref mf, .ref ma, .int (nI cl), .ref mfd, .ref mts, .int (nI tc), .ref mg, .ref mb])), (mk, .inl (cI, 100, .inl kd)), (m0, .inl (cI, 100, .inl s0)), (m1, .inl (cI, 100, .inl s1)), (mi, .inl (cI, 100, .inl io)), (qt, .inl (cJ, 100, .inr (.inl (vp_updL v t (gw (kd t) (allW (nI (f % 2))) (allW (nI (f % 2))))))))] := hD
                    refine lv_aload_n hx hb dX5_tell_145 rfl (lv_at hl 3 rfl) ?_
                    refine lv_iload hx hb dX5_tell_146 (lv_at hl 8 rfl) ?_
                    refine lv_iload hx hb dX5_tell_148 (lv_at hl 6 rfl) ?_
                    refine lv_iconst (v := (nI 3)) hx hb dX5_tell_150 (by decide) ?_
                    refine lv_iload hx hb dX5_tell_151 (lv_at hl 8 rfl) ?_
                    refine lv_imul hx hb dX5_tell_153 ?_
                    refine zz_i (z := (nI (3 * t))) (pk_mul _ _) ?_
                    refine lv_icmp_ne (tgt := 162) hx hb dX5_tell_154 (by decide) (fun c_154 => ?_) (fun c_154 => ?_)
                    · skip
                      rw [zc_eq (by omega) (by omega)] at c_154
                      refine lv_aload_n hx hb dX5_tell_162 rfl (lv_at hl 3 rfl) ?_
                      refine lv_iload hx hb dX5_tell_163 (lv_at hl 8 rfl) ?_
                      refine zz_lald hx hb hK hP 5 1 rfl rfl (n := 100) (j := t) (by omega) (by decide) dX5_tell_165 ?_
                      refine zz_last hx hb hK hP hD hS 5 1 rfl rfl (n := 100) (j := t) (by omega) (by decide) dX5_tell_166 (fun H locs hP hD hS => ?_)
                      have hP : va_P D vwCl [(qm, .inr (5, [.int cd, .int (nI n), .int (nI ni), .int (nI no), .ref mk, .ref m0, .ref m1, .ref mi, .ref mo, .ref ml, .ref mf, .ref ma, .int (nI cl), .ref mfd, .ref mts, .int (nI tc), .ref mg, .ref mb])), (mk, .inl (cI, 100, .inl kd)), (m0, .inl (cI, 100, .inl s0)), (m1, .inl (cI, 100, .inl s1)), (mi, .inl (cI, 100, .inl io)), (qt, .inl (cJ, 100, .inr (.inl (vp_updL (vp_updL v t (gw (kd t) (allW (nI (f % 2))) (allW (nI (f % 2))))) t ((vp_updL v t (gw (kd t) (allW (nI (f % 2))) (allW (nI (f % 2))))) t)))))] H := hP
                      have hD : va_D A [(qm, .inr (5, [.int cd, .int (nI n), .int (nI ni), .int (nI no), .ref mk, .ref m0, .ref m1, .ref mi, .ref mo, .ref ml, .ref mf, .ref ma, .int (nI cl), .ref mfd, .ref mts, .int (nI tc), .ref mg, .ref mb])), (mk, .inl (cI, 100, .inl kd)), (m0, .inl (cI, 100, .inl s0)), (m1, .inl (cI, 100, .inl s1)), (mi, .inl (cI, 100, .inl io)), (qt, .inl (cJ, 100, .inr (.inl (vp_updL (vp_updL v t (gw (kd t) (allW (nI (f % 2))) (allW (nI (f % 2))))) t ((vp_updL v t (gw (kd t) (allW (nI (f % 2))) (allW (nI (f % 2))))) t)))))] := hD
                      refine lv_iinc (v := (nI (t + 1))) (lv' := [(7, .int (nI (t + 1))), (10, .long (allW (nI (f % 2)))), (8, .long (allW (nI (f % 2)))), (0, .ref qm), (1, .ref qt), (2, .int (nI w)), (3, .int (nI f)), (4, .int (nI (f / 2))), (5, .long (allW (nI (f % 2))))]) hx hb dX5_tell_167 hl (k := 8) rfl (nI_add _ 1) (by decide) rfl (fun ls hl => ?_)
                      refine lv_goto (tgt := 36) hx hb dX5_tell_170 (by decide) ?_
                      exact ih36 (t + 1) (vp_updL (vp_updL v t (gw (kd t) (allW (nI (f % 2))) (allW (nI (f % 2))))) t ((vp_updL v t (gw (kd t) (allW (nI (f % 2))) (allW (nI (f % 2))))) t)) (by omega) (tell_s hv (fun j => uLs2) (by rw [hBf t (by omega)]; (first | rw [if_pos c_154] | rw [if_neg c_154]); rw [if_neg hg]; (first | rw [if_pos c_81] | rw [if_neg c_81, hv _ (hwf t (by omega) hg).1.2]); (first | rw [if_pos c_108] | rw [if_neg c_108, hv _ (hwf t (by omega) hg).2.2]))) (by omega) _ _ hP hD hS ls (lv_sub hl [3, 4, 5, 6, 7, 8, 0] rfl)
                    · skip
                      rw [zc_eq (by omega) (by omega)] at c_154
                      refine lv_lload hx hb dX5_tell_157 (lv_at hl 7 rfl) ?_
                      refine lv_goto (tgt := 166) hx hb dX5_tell_159 (by decide) ?_
                      refine zz_last hx hb hK hP hD hS 5 1 rfl rfl (n := 100) (j := t) (by omega) (by decide) dX5_tell_166 (fun H locs hP hD hS => ?_)
                      have hP : va_P D vwCl [(qm, .inr (5, [.int cd, .int (nI n), .int (nI ni), .int (nI no), .ref mk, .ref m0, .ref m1, .ref mi, .ref mo, .ref ml, .ref mf, .ref ma, .int (nI cl), .ref mfd, .ref mts, .int (nI tc), .ref mg, .ref mb])), (mk, .inl (cI, 100, .inl kd)), (m0, .inl (cI, 100, .inl s0)), (m1, .inl (cI, 100, .inl s1)), (mi, .inl (cI, 100, .inl io)), (qt, .inl (cJ, 100, .inr (.inl (vp_updL (vp_updL v t (gw (kd t) (allW (nI (f % 2))) (allW (nI (f % 2))))) t (allW (nI (f % 2)))))))] H := hP
                      have hD : va_D A [(qm, .inr (5, [.int cd, .int (nI n), .int (nI ni), .int (nI no), .ref mk, .ref m0, .ref m1, .ref mi, .ref mo, .ref ml, .ref mf, .ref ma, .int (nI cl), .ref mfd, .ref mts, .int (nI tc), .ref mg, .ref mb])), (mk, .inl (cI, 100, .inl kd)), (m0, .inl (cI, 100, .inl s0)), (m1, .inl (cI, 100, .inl s1)), (mi, .inl (cI, 100, .inl io)), (qt, .inl (cJ, 100, .inr (.inl (vp_updL (vp_updL v t (gw (kd t) (allW (nI (f % 2))) (allW (nI (f % 2))))) t (allW (nI (f % 2)))))))] := hD
                      refine lv_iinc (v := (nI (t + 1))) (lv' := [(7, .int (nI (t + 1))), (10, .long (allW (nI (f % 2)))), (8, .long (allW (nI (f % 2)))), (0, .ref qm), (1, .ref qt), (2, .int (nI w)), (3, .int (nI f)), (4, .int (nI (f / 2))), (5, .long (allW (nI (f % 2))))]) hx hb dX5_tell_167 hl (k := 8) rfl (nI_add _ 1) (by decide) rfl (fun ls hl => ?_)
                      refine lv_goto (tgt := 36) hx hb dX5_tell_170 (by decide) ?_
                      exact ih36 (t + 1) (vp_updL (vp_updL v t (gw (kd t) (allW (nI (f % 2))) (allW (nI (f % 2))))) t (allW (nI (f % 2)))) (by omega) (tell_s hv (fun j => uLs3) (by rw [hBf t (by omega)]; (first | rw [if_pos c_154] | rw [if_neg c_154]))) (by omega) _ _ hP hD hS ls (lv_sub hl [3, 4, 5, 6, 7, 8, 0] rfl)
              · skip
                have hm : kd t = (-1) := (hkd t (by omega)).lt.mp (Int32.not_le.mp c_52)
                refine lv_aload_n hx hb dX5_tell_55 rfl (lv_at hl 1 rfl) ?_
                refine lv_iload hx hb dX5_tell_56 (lv_at hl 6 rfl) ?_
                refine lv_aload_n hx hb dX5_tell_58 rfl (lv_at hl 0 rfl) ?_
                refine va_get (D := D) (ci := 5) (v := .ref mi) (C := RX5) (T := TX5) (N := 18) hx hb hts hiX5 hown hK hP 0 rfl rfl 7 (by decide) (hts (.fieldLink RX5 19 "FaultSearchModel" "inputOf" "[I") (by decide +kernel)) (fun _ h9 => h9) rfl dX5_tell_59 ?_
                refine lv_iload hx hb dX5_tell_62 (lv_at hl 6 rfl) ?_
                refine zz_iald hx hb hK hP 4 0 rfl rfl (n := 100) (j := t) (by omega) (by decide) dX5_tell_64 ?_
                refine zz_i (z := (nI (cn (io t)))) (hio t (by omega) hm).1 ?_
                refine lv_iload_n hx hb dX5_tell_65 rfl (lv_at hl 2 rfl) ?_
                refine vp_callSl (va_runS (As := [.int (nI (cn (io t))), .int (nI w)]) (rest := [.int (nI t), .ref qt]) ⟨hx, hb, hml, hown, hts⟩ (c_X5_inputAt l (cn (io t)) w (hio t (by omega) hm).2 hw) (va_cwS 2 hts gX5_tell_X5_inputAt rfl rfl rfl (by decide +kernel) ⟨Nat.le_of_ble_eq_true rfl, Nat.le_of_ble_eq_true rfl⟩) ⟨zt_blind, fun U hU hW => ⟨rfl, trivial⟩⟩ rfl rfl hl.1 rfl (lv_room (Nat.le_of_ble_eq_true rfl)) dX5_tell_66 ⟨Nat.le_of_ble_eq_true rfl, Nat.le_of_ble_eq_true rfl⟩).run (fun r_5 hrr_5 => ?_)
                subst hrr_5
                refine zz_last hx hb hK hP hD hS 5 1 rfl rfl (n := 100) (j := t) (by omega) (by decide) dX5_tell_69 (fun H locs hP hD hS => ?_)
                have hP : va_P D vwCl [(qm, .inr (5, [.int cd, .int (nI n), .int (nI ni), .int (nI no), .ref mk, .ref m0, .ref m1, .ref mi, .ref mo, .ref ml, .ref mf, .ref ma, .int (nI cl), .ref mfd, .ref mts, .int (nI tc), .ref mg, .ref mb])), (mk, .inl (cI, 100, .inl kd)), (m0, .inl (cI, 100, .inl s0)), (m1, .inl (cI, 100, .inl s1)), (mi, .inl (cI, 100, .inl io)), (qt, .inl (cJ, 100, .inr (.inl (vp_updL v t (inW (cn (io t)) w)))))] H := hP
                have hD : va_D A [(qm, .inr (5, [.int cd, .int (nI n), .int (nI ni), .int (nI no), .ref mk, .ref m0, .ref m1, .ref mi, .ref mo, .ref ml, .ref mf, .ref ma, .int (nI cl), .ref mfd, .ref mts, .int (nI tc), .ref mg, .ref mb])), (mk, .inl (cI, 100, .inl kd)), (m0, .inl (cI, 100, .inl s0)), (m1, .inl (cI, 100, .inl s1)), (mi, .inl (cI, 100, .inl io)), (qt, .inl (cJ, 100, .inr (.inl (vp_updL v t (inW (cn (io t)) w)))))] := hD
                refine lv_goto (tgt := 145) hx hb dX5_tell_70 (by decide) ?_
                refine lv_aload_n hx hb dX5_tell_145 rfl (lv_at hl 1 rfl) ?_
                refine lv_iload hx hb dX5_tell_146 (lv_at hl 6 rfl) ?_
                refine lv_iload hx hb dX5_tell_148 (lv_at hl 4 rfl) ?_
                refine lv_iconst (v := (nI 3)) hx hb dX5_tell_150 (by decide) ?_
                refine lv_iload hx hb dX5_tell_151 (lv_at hl 6 rfl) ?_
                refine lv_imul hx hb dX5_tell_153 ?_
                refine zz_i (z := (nI (3 * t))) (pk_mul _ _) ?_
                refine lv_icmp_ne (tgt := 162) hx hb dX5_tell_154 (by decide) (fun c_154 => ?_) (fun c_154 => ?_)
                · skip
                  rw [zc_eq (by omega) (by omega)] at c_154
                  refine lv_aload_n hx hb dX5_tell_162 rfl (lv_at hl 1 rfl) ?_
                  refine lv_iload hx hb dX5_tell_163 (lv_at hl 6 rfl) ?_
                  refine zz_lald hx hb hK hP 5 1 rfl rfl (n := 100) (j := t) (by omega) (by decide) dX5_tell_165 ?_
                  refine zz_last hx hb hK hP hD hS 5 1 rfl rfl (n := 100) (j := t) (by omega) (by decide) dX5_tell_166 (fun H locs hP hD hS => ?_)
                  have hP : va_P D vwCl [(qm, .inr (5, [.int cd, .int (nI n), .int (nI ni), .int (nI no), .ref mk, .ref m0, .ref m1, .ref mi, .ref mo, .ref ml, .ref mf, .ref ma, .int (nI cl), .ref mfd, .ref mts, .int (nI tc), .ref mg, .ref mb])), (mk, .inl (cI, 100, .inl kd)), (m0, .inl (cI, 100, .inl s0)), (m1, .inl (cI, 100, .inl s1)), (mi, .inl (cI, 100, .inl io)), (qt, .inl (cJ, 100, .inr (.inl (vp_updL (vp_updL v t (inW (cn (io t)) w)) t ((vp_updL v t (inW (cn (io t)) w)) t)))))] H := hP
                  have hD : va_D A [(qm, .inr (5, [.int cd, .int (nI n), .int (nI ni), .int (nI no), .ref mk, .ref m0, .ref m1, .ref mi, .ref mo, .ref ml, .ref mf, .ref ma, .int (nI cl), .ref mfd, .ref mts, .int (nI tc), .ref mg, .ref mb])), (mk, .inl (cI, 100, .inl kd)), (m0, .inl (cI, 100, .inl s0)), (m1, .inl (cI, 100, .inl s1)), (mi, .inl (cI, 100, .inl io)), (qt, .inl (cJ, 100, .inr (.inl (vp_updL (vp_updL v t (inW (cn (io t)) w)) t ((vp_updL v t (inW (cn (io t)) w)) t)))))] := hD
                  refine lv_iinc (v := (nI (t + 1))) (lv' := [(7, .int (nI (t + 1))), (0, .ref qm), (1, .ref qt), (2, .int (nI w)), (3, .int (nI f)), (4, .int (nI (f / 2))), (5, .long (allW (nI (f % 2))))]) hx hb dX5_tell_167 hl (k := 6) rfl (nI_add _ 1) (by decide) rfl (fun ls hl => ?_)
                  refine lv_goto (tgt := 36) hx hb dX5_tell_170 (by decide) ?_
                  exact ih36 (t + 1) (vp_updL (vp_updL v t (inW (cn (io t)) w)) t ((vp_updL v t (inW (cn (io t)) w)) t)) (by omega) (tell_s hv (fun j => uLs2) (by rw [hBf t (by omega)]; (first | rw [if_pos c_154] | rw [if_neg c_154]); rw [if_pos hm])) (by omega) _ _ hP hD hS ls (lv_sub hl [1, 2, 3, 4, 5, 6, 0] rfl)
                · skip
                  rw [zc_eq (by omega) (by omega)] at c_154
                  refine lv_lload hx hb dX5_tell_157 (lv_at hl 5 rfl) ?_
                  refine lv_goto (tgt := 166) hx hb dX5_tell_159 (by decide) ?_
                  refine zz_last hx hb hK hP hD hS 5 1 rfl rfl (n := 100) (j := t) (by omega) (by decide) dX5_tell_166 (fun H locs hP hD hS => ?_)
                  have hP : va_P D vwCl [(qm, .inr (5, [.int cd, .int (nI n), .int (nI ni), .int (nI no), .ref mk, .ref m0, .ref m1, .ref mi, .ref mo, .ref ml, .ref mf, .ref ma, .int (nI cl), .ref mfd, .ref mts, .int (nI tc), .ref mg, .ref mb])), (mk, .inl (cI, 100, .inl kd)), (m0, .inl (cI, 100, .inl s0)), (m1, .inl (cI, 100, .inl s1)), (mi, .inl (cI, 100, .inl io)), (qt, .inl (cJ, 100, .inr (.inl (vp_updL (vp_updL v t (inW (cn (io t)) w)) t (allW (nI (f % 2)))))))] H := hP
                  have hD : va_D A [(qm, .inr (5, [.int cd, .int (nI n), .int (nI ni), .int (nI no), .ref mk, .ref m0, .ref m1, .ref mi, .ref mo, .ref ml, .ref mf, .ref ma, .int (nI cl), .ref mfd, .ref mts, .int (nI tc), .ref mg, .ref mb])), (mk, .inl (cI, 100, .inl kd)), (m0, .inl (cI, 100, .inl s0)), (m1, .inl (cI, 100, .inl s1)), (mi, .inl (cI, 100, .inl io)), (qt, .inl (cJ, 100, .inr (.inl (vp_updL (vp_updL v t (inW (cn (io t)) w)) t (allW (nI (f % 2)))))))] := hD
                  refine lv_iinc (v := (nI (t + 1))) (lv' := [(7, .int (nI (t + 1))), (0, .ref qm), (1, .ref qt), (2, .int (nI w)), (3, .int (nI f)), (4, .int (nI (f / 2))), (5, .long (allW (nI (f % 2))))]) hx hb dX5_tell_167 hl (k := 6) rfl (nI_add _ 1) (by decide) rfl (fun ls hl => ?_)
                  refine lv_goto (tgt := 36) hx hb dX5_tell_170 (by decide) ?_
                  exact ih36 (t + 1) (vp_updL (vp_updL v t (inW (cn (io t)) w)) t (allW (nI (f % 2)))) (by omega) (tell_s hv (fun j => uLs3) (by rw [hBf t (by omega)]; (first | rw [if_pos c_154] | rw [if_neg c_154]))) (by omega) _ _ hP hD hS ls (lv_sub hl [1, 2, 3, 4, 5, 6, 0] rfl)
        exact loop36 ((n - 0) + 1) 0 tv (Nat.zero_le _) (fun j h => absurd h (Nat.not_lt_zero _)) (Nat.lt_succ_self _) _ _ hP hD hS ls (lv_sub hl [3, 4, 5, 6, 2, 1, 0] rfl)
      · skip
        rw [zc_eq (by omega) (by omega)] at c_21
        refine lv_ldc2 (v := (-1)) hx hb hown (hts (.constantLong RX5 118 (-1)) (by decide +kernel)) dX5_tell_24 ?_
        refine lv_goto (tgt := 31) hx hb dX5_tell_27 (by decide) ?_
        refine zz_l (z := (allW (nI (f % 2)))) (by first | (rw [c_21]; rfl) | (rw [show f % 2 = 0 by omega]; rfl)) ?_
        refine lv_lstore (lv' := [(5, .long (allW (nI (f % 2)))), (4, .int (nI (f / 2))), (0, .ref qm), (1, .ref qt), (2, .int (nI w)), (3, .int (nI f))]) hx hb dX5_tell_31 hl (by decide) rfl (fun ls hl => ?_)
        refine lv_iconst (v := (nI 0)) hx hb dX5_tell_33 (by decide) ?_
        refine lv_istore (lv' := [(7, .int (nI 0)), (5, .long (allW (nI (f % 2)))), (4, .int (nI (f / 2))), (0, .ref qm), (1, .ref qt), (2, .int (nI w)), (3, .int (nI f))]) hx hb dX5_tell_34 hl (by decide) rfl (fun ls hl => ?_)
        have loop36 : ∀ (n36 : Nat) (t : Nat) (v : Nat → Int64) (ht : t ≤ n) (hv : ∀ j, j < t → v j = Bf j), n - t < n36 → ∀ (H : Heap) (locs : List Loc), va_P D vwCl [(qm, .inr (5, [.int cd, .int (nI n), .int (nI ni), .int (nI no), .ref mk, .ref m0, .ref m1, .ref mi, .ref mo, .ref ml, .ref mf, .ref ma, .int (nI cl), .ref mfd, .ref mts, .int (nI tc), .ref mg, .ref mb])), (mk, .inl (cI, 100, .inl kd)), (m0, .inl (cI, 100, .inl s0)), (m1, .inl (cI, 100, .inl s1)), (mi, .inl (cI, 100, .inl io)), (qt, .inl (cJ, 100, .inr (.inl v)))] H → va_D A [(qm, .inr (5, [.int cd, .int (nI n), .int (nI ni), .int (nI no), .ref mk, .ref m0, .ref m1, .ref mi, .ref mo, .ref ml, .ref mf, .ref ma, .int (nI cl), .ref mfd, .ref mts, .int (nI tc), .ref mg, .ref mb])), (mk, .inl (cI, 100, .inl kd)), (m0, .inl (cI, 100, .inl s0)), (m1, .inl (cI, 100, .inl s1)), (mi, .inl (cI, 100, .inl io)), (qt, .inl (cJ, 100, .inr (.inl v)))] → va_S A s.heap H locs → ∀ (ls : Array Slot), lv_has ls 12 [(0, .ref qm), (1, .ref qt), (2, .int (nI w)), (3, .int (nI f)), (4, .int (nI (f / 2))), (5, .long (allW (nI (f % 2)))), (7, .int (nI t))] → W p l e (headSpec wsX5_tell ({ frames := 1, cells := 0, slots := 0, locals := 24 } : Room)).room s m ([.ref qm, .ref qt, .int (nI w), .int (nI f)] : List Value).toArray below meth c H locs 0 0 (MQ below (va_Qv (fun u9 : (Nat → Int64) => match u9 with | tv2 => ∀ j, j < n → tv2 j = Bf j) (fun (u9 : (Nat → Int64)) t => match u9 with | tv2 => PQ D A [(qm, .inr (5, [.int cd, .int (nI n), .int (nI ni), .int (nI no), .ref mk, .ref m0, .ref m1, .ref mi, .ref mo, .ref ml, .ref mf, .ref ma, .int (nI cl), .ref mfd, .ref mts, .int (nI tc), .ref mg, .ref mb])), (mk, .inl (cI, 100, .inl kd)), (m0, .inl (cI, 100, .inl s0)), (m1, .inl (cI, 100, .inl s1)), (mi, .inl (cI, 100, .inl io)), (qt, .inl (cJ, 100, .inr (.inl tv2)))] t) A) ([.ref qm, .ref qt, .int (nI w), .int (nI f)] : List Value).toArray s 0 0 A) (F0 m 36 ls []) := by
          intro n36
          induction n36 with
          | zero => intro t v ht hv hm; exact absurd hm (Nat.not_lt_zero _)
          | succ n36 ih36 =>
            intro t v ht hv hm36 H locs hP hD hS ls hl
            refine lv_iload hx hb dX5_tell_36 (lv_at hl 6 rfl) ?_
            refine lv_aload_n hx hb dX5_tell_38 rfl (lv_at hl 0 rfl) ?_
            refine va_get (D := D) (ci := 5) (v := .int (nI n)) (C := RX5) (T := TX5) (N := 18) hx hb hts hiX5 hown hK hP 0 rfl rfl 1 (by decide) (hts (.fieldLink RX5 52 "FaultSearchModel" "nets" "I") (by decide +kernel)) (fun _ h9 => h9) rfl dX5_tell_39 ?_
            refine lv_icmp_ge (tgt := 173) hx hb dX5_tell_42 (by decide) (fun c_42 => ?_) (fun c_42 => ?_)
            · skip
              rw [zc_le (by omega) (by omega)] at c_42
              exact W.vret hx hb hr (fun t_9 ht_9 hW_9 => ⟨⟨v, rfl, (show ∀ j, j < n → v j = Bf j from (fun j h => hv j (by omega))), ⟨by rw [ht_9]; exact hP, hD⟩⟩, hS.F ht_9⟩) hS.2.2 dX5_tell_173
            · skip
              rw [zc_le (by omega) (by omega)] at c_42
              refine lv_aload_n hx hb dX5_tell_45 rfl (lv_at hl 0 rfl) ?_
              refine va_get (D := D) (ci := 5) (v := .ref mk) (C := RX5) (T := TX5) (N := 18) hx hb hts hiX5 hown hK hP 0 rfl rfl 4 (by decide) (hts (.fieldLink RX5 7 "FaultSearchModel" "kinds" "[I") (by decide +kernel)) (fun _ h9 => h9) rfl dX5_tell_46 ?_
              refine lv_iload hx hb dX5_tell_49 (lv_at hl 6 rfl) ?_
              refine zz_iald hx hb hK hP 1 0 rfl rfl (n := 100) (j := t) (by omega) (by decide) dX5_tell_51 ?_
              refine lv_if_ge (tgt := 73) hx hb dX5_tell_52 (by decide) (fun c_52 => ?_) (fun c_52 => ?_)
              · skip
                have hg : ¬ kd t = (-1) := fun e => absurd c_52 (by rw [e]; decide)
                refine lv_iload hx hb dX5_tell_73 (lv_at hl 4 rfl) ?_
                refine lv_iconst (v := (nI 3)) hx hb dX5_tell_75 (by decide) ?_
                refine lv_iload hx hb dX5_tell_76 (lv_at hl 6 rfl) ?_
                refine lv_imul hx hb dX5_tell_78 ?_
                refine zz_i (z := (nI (3 * t))) (pk_mul _ _) ?_
                refine lv_iconst (v := (nI 1)) hx hb dX5_tell_79 (by decide) ?_
                refine lv_iadd hx hb dX5_tell_80 ?_
                refine zz_i (z := (nI ((3 * t) + 1))) (nI_add _ _) ?_
                refine lv_icmp_ne (tgt := 89) hx hb dX5_tell_81 (by decide) (fun c_81 => ?_) (fun c_81 => ?_)
                · skip
                  rw [zc_eq (by omega) (by omega)] at c_81
                  refine lv_aload_n hx hb dX5_tell_89 rfl (lv_at hl 1 rfl) ?_
                  refine lv_aload_n hx hb dX5_tell_90 rfl (lv_at hl 0 rfl) ?_
                  refine va_get (D := D) (ci := 5) (v := .ref m0) (C := RX5) (T := TX5) (N := 18) hx hb hts hiX5 hown hK hP 0 rfl rfl 5 (by decide) (hts (.fieldLink RX5 13 "FaultSearchModel" "firsts" "[I") (by decide +kernel)) (fun _ h9 => h9) rfl dX5_tell_91 ?_
                  refine lv_iload hx hb dX5_tell_94 (lv_at hl 6 rfl) ?_
                  refine zz_iald hx hb hK hP 2 0 rfl rfl (n := 100) (j := t) (by omega) (by decide) dX5_tell_96 ?_
                  refine zz_i (z := (nI (cn (s0 t)))) (hwf t (by omega) hg).1.1 ?_
                  refine zz_lald hx hb hK hP 5 1 rfl rfl (n := 100) (j := (cn (s0 t))) (by have := (hwf t (by omega) hg).1.2; omega) (by decide) dX5_tell_97 ?_
                  refine lv_lstore (lv' := [(8, .long (v (cn (s0 t)))), (0, .ref qm), (1, .ref qt), (2, .int (nI w)), (3, .int (nI f)), (4, .int (nI (f / 2))), (5, .long (allW (nI (f % 2)))), (7, .int (nI t))]) hx hb dX5_tell_98 hl (by decide) rfl (fun ls hl => ?_)
                  refine lv_iload hx hb dX5_tell_100 (lv_at hl 5 rfl) ?_
                  refine lv_iconst (v := (nI 3)) hx hb dX5_tell_102 (by decide) ?_
                  refine lv_iload hx hb dX5_tell_103 (lv_at hl 7 rfl) ?_
                  refine lv_imul hx hb dX5_tell_105 ?_
                  refine zz_i (z := (nI (3 * t))) (pk_mul _ _) ?_
                  refine lv_iconst (v := (nI 2)) hx hb dX5_tell_106 (by decide) ?_
                  refine lv_iadd hx hb dX5_tell_107 ?_
                  refine zz_i (z := (nI ((3 * t) + 2))) (nI_add _ _) ?_
                  refine lv_icmp_ne (tgt := 116) hx hb dX5_tell_108 (by decide) (fun c_108 => ?_) (fun c_108 => ?_)
                  · skip
                    rw [zc_eq (by omega) (by omega)] at c_108
                    refine lv_aload_n hx hb dX5_tell_116 rfl (lv_at hl 2 rfl) ?_
                    refine lv_aload_n hx hb dX5_tell_117 rfl (lv_at hl 1 rfl) ?_
                    refine va_get (D := D) (ci := 5) (v := .ref m1) (C := RX5) (T := TX5) (N := 18) hx hb hts hiX5 hown hK hP 0 rfl rfl 6 (by decide) (hts (.fieldLink RX5 16 "FaultSearchModel" "seconds" "[I") (by decide +kernel)) (fun _ h9 => h9) rfl dX5_tell_118 ?_
                    refine lv_iload hx hb dX5_tell_121 (lv_at hl 7 rfl) ?_
                    refine zz_iald hx hb hK hP 3 0 rfl rfl (n := 100) (j := t) (by omega) (by decide) dX5_tell_123 ?_
                    refine zz_i (z := (nI (cn (s1 t)))) (hwf t (by omega) hg).2.1 ?_
                    refine zz_lald hx hb hK hP 5 1 rfl rfl (n := 100) (j := (cn (s1 t))) (by have := (hwf t (by omega) hg).2.2; omega) (by decide) dX5_tell_124 ?_
                    refine lv_lstore (lv' := [(10, .long (v (cn (s1 t)))), (8, .long (v (cn (s0 t)))), (0, .ref qm), (1, .ref qt), (2, .int (nI w)), (3, .int (nI f)), (4, .int (nI (f / 2))), (5, .long (allW (nI (f % 2)))), (7, .int (nI t))]) hx hb dX5_tell_125 hl (by decide) rfl (fun ls hl => ?_)
                    refine lv_aload_n hx hb dX5_tell_127 rfl (lv_at hl 3 rfl) ?_
                    refine lv_iload hx hb dX5_tell_128 (lv_at hl 8 rfl) ?_
                    refine lv_aload_n hx hb dX5_tell_130 rfl (lv_at hl 2 rfl) ?_
                    refine va_get (D := D) (ci := 5) (v := .ref mk) (C := RX5) (T := TX5) (N := 18) hx hb hts hiX5 hown hK hP 0 rfl rfl 4 (by decide) (hts (.fieldLink RX5 7 "FaultSearchModel" "kinds" "[I") (by decide +kernel)) (fun _ h9 => h9) rfl dX5_tell_131 ?_
                    refine lv_iload hx hb dX5_tell_134 (lv_at hl 8 rfl) ?_
                    refine zz_iald hx hb hK hP 1 0 rfl rfl (n := 100) (j := t) (by omega) (by decide) dX5_tell_136 ?_
                    refine lv_lload hx hb dX5_tell_137 (lv_at hl 1 rfl) ?_
                    refine lv_lload hx hb dX5_tell_139 (lv_at hl 0 rfl) ?_
                    refine vp_callSl (va_runS (As := [.int (kd t), .long (v (cn (s0 t))), .long (v (cn (s1 t)))]) (rest := [.int (nI t), .ref qt]) ⟨hx, hb, hml, hown, hts⟩ (c_X5_gateOf l (kd t) (v (cn (s0 t))) (v (cn (s1 t)))) (va_cwS 3 hts gX5_tell_X5_gateOf rfl rfl rfl (by decide +kernel) ⟨Nat.le_of_ble_eq_true rfl, Nat.le_of_ble_eq_true rfl⟩) ⟨zt_blind, fun U hU hW => ⟨rfl, trivial⟩⟩ rfl rfl hl.1 rfl (lv_room (Nat.le_of_ble_eq_true rfl)) dX5_tell_141 ⟨Nat.le_of_ble_eq_true rfl, Nat.le_of_ble_eq_true rfl⟩).run (fun r_6 hrr_6 => ?_)
                    subst hrr_6
                    refine zz_last hx hb hK hP hD hS 5 1 rfl rfl (n := 100) (j := t) (by omega) (by decide) dX5_tell_144 (fun H locs hP hD hS => ?_)
                    have hP : va_P D vwCl [(qm, .inr (5, [.int cd, .int (nI n), .int (nI ni), .int (nI no), .ref mk, .ref m0, .ref m1, .ref mi, .ref mo, .ref ml, .ref mf, .ref ma, .int (nI cl), .ref mfd, .ref mts, .int (nI tc), .ref mg, .ref mb])), (mk, .inl (cI, 100, .inl kd)), (m0, .inl (cI, 100, .inl s0)), (m1, .inl (cI, 100, .inl s1)), (mi, .inl (cI, 100, .inl io)), (qt, .inl (cJ, 100, .inr (.inl (vp_updL v t (gw (kd t) (v (cn (s0 t))) (v (cn (s1 t))))))))] H := hP
                    have hD : va_D A [(qm, .inr (5, [.int cd, .int (nI n), .int (nI ni), .int (nI no), .ref mk, .ref m0, .ref m1, .ref mi, .ref mo, .ref ml, .ref mf, .ref ma, .int (nI cl), .ref mfd, .ref mts, .int (nI tc), .ref mg, .ref mb])), (mk, .inl (cI, 100, .inl kd)), (m0, .inl (cI, 100, .inl s0)), (m1, .inl (cI, 100, .inl s1)), (mi, .inl (cI, 100, .inl io)), (qt, .inl (cJ, 100, .inr (.inl (vp_updL v t (gw (kd t) (v (cn (s0 t))) (v (cn (s1 t))))))))] := hD
                    refine lv_aload_n hx hb dX5_tell_145 rfl (lv_at hl 3 rfl) ?_
                    refine lv_iload hx hb dX5_tell_146 (lv_at hl 8 rfl) ?_
                    refine lv_iload hx hb dX5_tell_148 (lv_at hl 6 rfl) ?_
                    refine lv_iconst (v := (nI 3)) hx hb dX5_tell_150 (by decide) ?_
                    refine lv_iload hx hb dX5_tell_151 (lv_at hl 8 rfl) ?_
                    refine lv_imul hx hb dX5_tell_153 ?_
                    refine zz_i (z := (nI (3 * t))) (pk_mul _ _) ?_
                    refine lv_icmp_ne (tgt := 162) hx hb dX5_tell_154 (by decide) (fun c_154 => ?_) (fun c_154 => ?_)
                    · skip
                      rw [zc_eq (by omega) (by omega)] at c_154
                      refine lv_aload_n hx hb dX5_tell_162 rfl (lv_at hl 3 rfl) ?_
                      refine lv_iload hx hb dX5_tell_163 (lv_at hl 8 rfl) ?_
                      refine zz_lald hx hb hK hP 5 1 rfl rfl (n := 100) (j := t) (by omega) (by decide) dX5_tell_165 ?_
                      refine zz_last hx hb hK hP hD hS 5 1 rfl rfl (n := 100) (j := t) (by omega) (by decide) dX5_tell_166 (fun H locs hP hD hS => ?_)
                      have hP : va_P D vwCl [(qm, .inr (5, [.int cd, .int (nI n), .int (nI ni), .int (nI no), .ref mk, .ref m0, .ref m1, .ref mi, .ref mo, .ref ml, .ref mf, .ref ma, .int (nI cl), .ref mfd, .ref mts, .int (nI tc), .ref mg, .ref mb])), (mk, .inl (cI, 100, .inl kd)), (m0, .inl (cI, 100, .inl s0)), (m1, .inl (cI, 100, .inl s1)), (mi, .inl (cI, 100, .inl io)), (qt, .inl (cJ, 100, .inr (.inl (vp_updL (vp_updL v t (gw (kd t) (v (cn (s0 t))) (v (cn (s1 t))))) t ((vp_updL v t (gw (kd t) (v (cn (s0 t))) (v (cn (s1 t))))) t)))))] H := hP
                      have hD : va_D A [(qm, .inr (5, [.int cd, .int (nI n), .int (nI ni), .int (nI no), .ref mk, .ref m0, .ref m1, .ref mi, .ref mo, .ref ml, .ref mf, .ref ma, .int (nI cl), .ref mfd, .ref mts, .int (nI tc), .ref mg, .ref mb])), (mk, .inl (cI, 100, .inl kd)), (m0, .inl (cI, 100, .inl s0)), (m1, .inl (cI, 100, .inl s1)), (mi, .inl (cI, 100, .inl io)), (qt, .inl (cJ, 100, .inr (.inl (vp_updL (vp_updL v t (gw (kd t) (v (cn (s0 t))) (v (cn (s1 t))))) t ((vp_updL v t (gw (kd t) (v (cn (s0 t))) (v (cn (s1 t))))) t)))))] := hD
                      refine lv_iinc (v := (nI (t + 1))) (lv' := [(7, .int (nI (t + 1))), (10, .long (v (cn (s1 t)))), (8, .long (v (cn (s0 t)))), (0, .ref qm), (1, .ref qt), (2, .int (nI w)), (3, .int (nI f)), (4, .int (nI (f / 2))), (5, .long (allW (nI (f % 2))))]) hx hb dX5_tell_167 hl (k := 8) rfl (nI_add _ 1) (by decide) rfl (fun ls hl => ?_)
                      refine lv_goto (tgt := 36) hx hb dX5_tell_170 (by decide) ?_
                      exact ih36 (t + 1) (vp_updL (vp_updL v t (gw (kd t) (v (cn (s0 t))) (v (cn (s1 t))))) t ((vp_updL v t (gw (kd t) (v (cn (s0 t))) (v (cn (s1 t))))) t)) (by omega) (tell_s hv (fun j => uLs2) (by rw [hBf t (by omega)]; (first | rw [if_pos c_154] | rw [if_neg c_154]); rw [if_neg hg]; (first | rw [if_pos c_81] | rw [if_neg c_81, hv _ (hwf t (by omega) hg).1.2]); (first | rw [if_pos c_108] | rw [if_neg c_108, hv _ (hwf t (by omega) hg).2.2]))) (by omega) _ _ hP hD hS ls (lv_sub hl [3, 4, 5, 6, 7, 8, 0] rfl)
                    · skip
                      rw [zc_eq (by omega) (by omega)] at c_154
                      refine lv_lload hx hb dX5_tell_157 (lv_at hl 7 rfl) ?_
                      refine lv_goto (tgt := 166) hx hb dX5_tell_159 (by decide) ?_
                      refine zz_last hx hb hK hP hD hS 5 1 rfl rfl (n := 100) (j := t) (by omega) (by decide) dX5_tell_166 (fun H locs hP hD hS => ?_)
                      have hP : va_P D vwCl [(qm, .inr (5, [.int cd, .int (nI n), .int (nI ni), .int (nI no), .ref mk, .ref m0, .ref m1, .ref mi, .ref mo, .ref ml, .ref mf, .ref ma, .int (nI cl), .ref mfd, .ref mts, .int (nI tc), .ref mg, .ref mb])), (mk, .inl (cI, 100, .inl kd)), (m0, .inl (cI, 100, .inl s0)), (m1, .inl (cI, 100, .inl s1)), (mi, .inl (cI, 100, .inl io)), (qt, .inl (cJ, 100, .inr (.inl (vp_updL (vp_updL v t (gw (kd t) (v (cn (s0 t))) (v (cn (s1 t))))) t (allW (nI (f % 2)))))))] H := hP
                      have hD : va_D A [(qm, .inr (5, [.int cd, .int (nI n), .int (nI ni), .int (nI no), .ref mk, .ref m0, .ref m1, .ref mi, .ref mo, .ref ml, .ref mf, .ref ma, .int (nI cl), .ref mfd, .ref mts, .int (nI tc), .ref mg, .ref mb])), (mk, .inl (cI, 100, .inl kd)), (m0, .inl (cI, 100, .inl s0)), (m1, .inl (cI, 100, .inl s1)), (mi, .inl (cI, 100, .inl io)), (qt, .inl (cJ, 100, .inr (.inl (vp_updL (vp_updL v t (gw (kd t) (v (cn (s0 t))) (v (cn (s1 t))))) t (allW (nI (f % 2)))))))] := hD
                      refine lv_iinc (v := (nI (t + 1))) (lv' := [(7, .int (nI (t + 1))), (10, .long (v (cn (s1 t)))), (8, .long (v (cn (s0 t)))), (0, .ref qm), (1, .ref qt), (2, .int (nI w)), (3, .int (nI f)), (4, .int (nI (f / 2))), (5, .long (allW (nI (f % 2))))]) hx hb dX5_tell_167 hl (k := 8) rfl (nI_add _ 1) (by decide) rfl (fun ls hl => ?_)
                      refine lv_goto (tgt := 36) hx hb dX5_tell_170 (by decide) ?_
                      exact ih36 (t + 1) (vp_updL (vp_updL v t (gw (kd t) (v (cn (s0 t))) (v (cn (s1 t))))) t (allW (nI (f % 2)))) (by omega) (tell_s hv (fun j => uLs3) (by rw [hBf t (by omega)]; (first | rw [if_pos c_154] | rw [if_neg c_154]))) (by omega) _ _ hP hD hS ls (lv_sub hl [3, 4, 5, 6, 7, 8, 0] rfl)
                  · skip
                    rw [zc_eq (by omega) (by omega)] at c_108
                    refine lv_lload hx hb dX5_tell_111 (lv_at hl 6 rfl) ?_
                    refine lv_goto (tgt := 125) hx hb dX5_tell_113 (by decide) ?_
                    refine lv_lstore (lv' := [(10, .long (allW (nI (f % 2)))), (8, .long (v (cn (s0 t)))), (0, .ref qm), (1, .ref qt), (2, .int (nI w)), (3, .int (nI f)), (4, .int (nI (f / 2))), (5, .long (allW (nI (f % 2)))), (7, .int (nI t))]) hx hb dX5_tell_125 hl (by decide) rfl (fun ls hl => ?_)
                    refine lv_aload_n hx hb dX5_tell_127 rfl (lv_at hl 3 rfl) ?_
                    refine lv_iload hx hb dX5_tell_128 (lv_at hl 8 rfl) ?_
                    refine lv_aload_n hx hb dX5_tell_130 rfl (lv_at hl 2 rfl) ?_
                    refine va_get (D := D) (ci := 5) (v := .ref mk) (C := RX5) (T := TX5) (N := 18) hx hb hts hiX5 hown hK hP 0 rfl rfl 4 (by decide) (hts (.fieldLink RX5 7 "FaultSearchModel" "kinds" "[I") (by decide +kernel)) (fun _ h9 => h9) rfl dX5_tell_131 ?_
                    refine lv_iload hx hb dX5_tell_134 (lv_at hl 8 rfl) ?_
                    refine zz_iald hx hb hK hP 1 0 rfl rfl (n := 100) (j := t) (by omega) (by decide) dX5_tell_136 ?_
                    refine lv_lload hx hb dX5_tell_137 (lv_at hl 1 rfl) ?_
                    refine lv_lload hx hb dX5_tell_139 (lv_at hl 0 rfl) ?_
                    refine vp_callSl (va_runS (As := [.int (kd t), .long (v (cn (s0 t))), .long (allW (nI (f % 2)))]) (rest := [.int (nI t), .ref qt]) ⟨hx, hb, hml, hown, hts⟩ (c_X5_gateOf l (kd t) (v (cn (s0 t))) (allW (nI (f % 2)))) (va_cwS 3 hts gX5_tell_X5_gateOf rfl rfl rfl (by decide +kernel) ⟨Nat.le_of_ble_eq_true rfl, Nat.le_of_ble_eq_true rfl⟩) ⟨zt_blind, fun U hU hW => ⟨rfl, trivial⟩⟩ rfl rfl hl.1 rfl (lv_room (Nat.le_of_ble_eq_true rfl)) dX5_tell_141 ⟨Nat.le_of_ble_eq_true rfl, Nat.le_of_ble_eq_true rfl⟩).run (fun r_7 hrr_7 => ?_)
                    subst hrr_7
                    refine zz_last hx hb hK hP hD hS 5 1 rfl rfl (n := 100) (j := t) (by omega) (by decide) dX5_tell_144 (fun H locs hP hD hS => ?_)
                    have hP : va_P D vwCl [(qm, .inr (5, [.int cd, .int (nI n), .int (nI ni), .int (nI no), .ref mk, .ref m0, .ref m1, .ref mi, .ref mo, .ref ml, .ref mf, .ref ma, .int (nI cl), .ref mfd, .ref mts, .int (nI tc), .ref mg, .ref mb])), (mk, .inl (cI, 100, .inl kd)), (m0, .inl (cI, 100, .inl s0)), (m1, .inl (cI, 100, .inl s1)), (mi, .inl (cI, 100, .inl io)), (qt, .inl (cJ, 100, .inr (.inl (vp_updL v t (gw (kd t) (v (cn (s0 t))) (allW (nI (f % 2))))))))] H := hP
                    have hD : va_D A [(qm, .inr (5, [.int cd, .int (nI n), .int (nI ni), .int (nI no), .ref mk, .ref m0, .ref m1, .ref mi, .ref mo, .ref ml, .ref mf, .ref ma, .int (nI cl), .ref mfd, .ref mts, .int (nI tc), .ref mg, .ref mb])), (mk, .inl (cI, 100, .inl kd)), (m0, .inl (cI, 100, .inl s0)), (m1, .inl (cI, 100, .inl s1)), (mi, .inl (cI, 100, .inl io)), (qt, .inl (cJ, 100, .inr (.inl (vp_updL v t (gw (kd t) (v (cn (s0 t))) (allW (nI (f % 2))))))))] := hD
                    refine lv_aload_n hx hb dX5_tell_145 rfl (lv_at hl 3 rfl) ?_
                    refine lv_iload hx hb dX5_tell_146 (lv_at hl 8 rfl) ?_
                    refine lv_iload hx hb dX5_tell_148 (lv_at hl 6 rfl) ?_
                    refine lv_iconst (v := (nI 3)) hx hb dX5_tell_150 (by decide) ?_
                    refine lv_iload hx hb dX5_tell_151 (lv_at hl 8 rfl) ?_
                    refine lv_imul hx hb dX5_tell_153 ?_
                    refine zz_i (z := (nI (3 * t))) (pk_mul _ _) ?_
                    refine lv_icmp_ne (tgt := 162) hx hb dX5_tell_154 (by decide) (fun c_154 => ?_) (fun c_154 => ?_)
                    · skip
                      rw [zc_eq (by omega) (by omega)] at c_154
                      refine lv_aload_n hx hb dX5_tell_162 rfl (lv_at hl 3 rfl) ?_
                      refine lv_iload hx hb dX5_tell_163 (lv_at hl 8 rfl) ?_
                      refine zz_lald hx hb hK hP 5 1 rfl rfl (n := 100) (j := t) (by omega) (by decide) dX5_tell_165 ?_
                      refine zz_last hx hb hK hP hD hS 5 1 rfl rfl (n := 100) (j := t) (by omega) (by decide) dX5_tell_166 (fun H locs hP hD hS => ?_)
                      have hP : va_P D vwCl [(qm, .inr (5, [.int cd, .int (nI n), .int (nI ni), .int (nI no), .ref mk, .ref m0, .ref m1, .ref mi, .ref mo, .ref ml, .ref mf, .ref ma, .int (nI cl), .ref mfd, .ref mts, .int (nI tc), .ref mg, .ref mb])), (mk, .inl (cI, 100, .inl kd)), (m0, .inl (cI, 100, .inl s0)), (m1, .inl (cI, 100, .inl s1)), (mi, .inl (cI, 100, .inl io)), (qt, .inl (cJ, 100, .inr (.inl (vp_updL (vp_updL v t (gw (kd t) (v (cn (s0 t))) (allW (nI (f % 2))))) t ((vp_updL v t (gw (kd t) (v (cn (s0 t))) (allW (nI (f % 2))))) t)))))] H := hP
                      have hD : va_D A [(qm, .inr (5, [.int cd, .int (nI n), .int (nI ni), .int (nI no), .ref mk, .ref m0, .ref m1, .ref mi, .ref mo, .ref ml, .ref mf, .ref ma, .int (nI cl), .ref mfd, .ref mts, .int (nI tc), .ref mg, .ref mb])), (mk, .inl (cI, 100, .inl kd)), (m0, .inl (cI, 100, .inl s0)), (m1, .inl (cI, 100, .inl s1)), (mi, .inl (cI, 100, .inl io)), (qt, .inl (cJ, 100, .inr (.inl (vp_updL (vp_updL v t (gw (kd t) (v (cn (s0 t))) (allW (nI (f % 2))))) t ((vp_updL v t (gw (kd t) (v (cn (s0 t))) (allW (nI (f % 2))))) t)))))] := hD
                      refine lv_iinc (v := (nI (t + 1))) (lv' := [(7, .int (nI (t + 1))), (10, .long (allW (nI (f % 2)))), (8, .long (v (cn (s0 t)))), (0, .ref qm), (1, .ref qt), (2, .int (nI w)), (3, .int (nI f)), (4, .int (nI (f / 2))), (5, .long (allW (nI (f % 2))))]) hx hb dX5_tell_167 hl (k := 8) rfl (nI_add _ 1) (by decide) rfl (fun ls hl => ?_)
                      refine lv_goto (tgt := 36) hx hb dX5_tell_170 (by decide) ?_
                      exact ih36 (t + 1) (vp_updL (vp_updL v t (gw (kd t) (v (cn (s0 t))) (allW (nI (f % 2))))) t ((vp_updL v t (gw (kd t) (v (cn (s0 t))) (allW (nI (f % 2))))) t)) (by omega) (tell_s hv (fun j => uLs2) (by rw [hBf t (by omega)]; (first | rw [if_pos c_154] | rw [if_neg c_154]); rw [if_neg hg]; (first | rw [if_pos c_81] | rw [if_neg c_81, hv _ (hwf t (by omega) hg).1.2]); (first | rw [if_pos c_108] | rw [if_neg c_108, hv _ (hwf t (by omega) hg).2.2]))) (by omega) _ _ hP hD hS ls (lv_sub hl [3, 4, 5, 6, 7, 8, 0] rfl)
                    · skip
                      rw [zc_eq (by omega) (by omega)] at c_154
                      refine lv_lload hx hb dX5_tell_157 (lv_at hl 7 rfl) ?_
                      refine lv_goto (tgt := 166) hx hb dX5_tell_159 (by decide) ?_
                      refine zz_last hx hb hK hP hD hS 5 1 rfl rfl (n := 100) (j := t) (by omega) (by decide) dX5_tell_166 (fun H locs hP hD hS => ?_)
                      have hP : va_P D vwCl [(qm, .inr (5, [.int cd, .int (nI n), .int (nI ni), .int (nI no), .ref mk, .ref m0, .ref m1, .ref mi, .ref mo, .ref ml, .ref mf, .ref ma, .int (nI cl), .ref mfd, .ref mts, .int (nI tc), .ref mg, .ref mb])), (mk, .inl (cI, 100, .inl kd)), (m0, .inl (cI, 100, .inl s0)), (m1, .inl (cI, 100, .inl s1)), (mi, .inl (cI, 100, .inl io)), (qt, .inl (cJ, 100, .inr (.inl (vp_updL (vp_updL v t (gw (kd t) (v (cn (s0 t))) (allW (nI (f % 2))))) t (allW (nI (f % 2)))))))] H := hP
                      have hD : va_D A [(qm, .inr (5, [.int cd, .int (nI n), .int (nI ni), .int (nI no), .ref mk, .ref m0, .ref m1, .ref mi, .ref mo, .ref ml, .ref mf, .ref ma, .int (nI cl), .ref mfd, .ref mts, .int (nI tc), .ref mg, .ref mb])), (mk, .inl (cI, 100, .inl kd)), (m0, .inl (cI, 100, .inl s0)), (m1, .inl (cI, 100, .inl s1)), (mi, .inl (cI, 100, .inl io)), (qt, .inl (cJ, 100, .inr (.inl (vp_updL (vp_updL v t (gw (kd t) (v (cn (s0 t))) (allW (nI (f % 2))))) t (allW (nI (f % 2)))))))] := hD
                      refine lv_iinc (v := (nI (t + 1))) (lv' := [(7, .int (nI (t + 1))), (10, .long (allW (nI (f % 2)))), (8, .long (v (cn (s0 t)))), (0, .ref qm), (1, .ref qt), (2, .int (nI w)), (3, .int (nI f)), (4, .int (nI (f / 2))), (5, .long (allW (nI (f % 2))))]) hx hb dX5_tell_167 hl (k := 8) rfl (nI_add _ 1) (by decide) rfl (fun ls hl => ?_)
                      refine lv_goto (tgt := 36) hx hb dX5_tell_170 (by decide) ?_
                      exact ih36 (t + 1) (vp_updL (vp_updL v t (gw (kd t) (v (cn (s0 t))) (allW (nI (f % 2))))) t (allW (nI (f % 2)))) (by omega) (tell_s hv (fun j => uLs3) (by rw [hBf t (by omega)]; (first | rw [if_pos c_154] | rw [if_neg c_154]))) (by omega) _ _ hP hD hS ls (lv_sub hl [3, 4, 5, 6, 7, 8, 0] rfl)
                · skip
                  rw [zc_eq (by omega) (by omega)] at c_81
                  refine lv_lload hx hb dX5_tell_84 (lv_at hl 5 rfl) ?_
                  refine lv_goto (tgt := 98) hx hb dX5_tell_86 (by decide) ?_
                  refine lv_lstore (lv' := [(8, .long (allW (nI (f % 2)))), (0, .ref qm), (1, .ref qt), (2, .int (nI w)), (3, .int (nI f)), (4, .int (nI (f / 2))), (5, .long (allW (nI (f % 2)))), (7, .int (nI t))]) hx hb dX5_tell_98 hl (by decide) rfl (fun ls hl => ?_)
                  refine lv_iload hx hb dX5_tell_100 (lv_at hl 5 rfl) ?_
                  refine lv_iconst (v := (nI 3)) hx hb dX5_tell_102 (by decide) ?_
                  refine lv_iload hx hb dX5_tell_103 (lv_at hl 7 rfl) ?_
                  refine lv_imul hx hb dX5_tell_105 ?_
                  refine zz_i (z := (nI (3 * t))) (pk_mul _ _) ?_
                  refine lv_iconst (v := (nI 2)) hx hb dX5_tell_106 (by decide) ?_
                  refine lv_iadd hx hb dX5_tell_107 ?_
                  refine zz_i (z := (nI ((3 * t) + 2))) (nI_add _ _) ?_
                  refine lv_icmp_ne (tgt := 116) hx hb dX5_tell_108 (by decide) (fun c_108 => ?_) (fun c_108 => ?_)
                  · skip
                    rw [zc_eq (by omega) (by omega)] at c_108
                    refine lv_aload_n hx hb dX5_tell_116 rfl (lv_at hl 2 rfl) ?_
                    refine lv_aload_n hx hb dX5_tell_117 rfl (lv_at hl 1 rfl) ?_
                    refine va_get (D := D) (ci := 5) (v := .ref m1) (C := RX5) (T := TX5) (N := 18) hx hb hts hiX5 hown hK hP 0 rfl rfl 6 (by decide) (hts (.fieldLink RX5 16 "FaultSearchModel" "seconds" "[I") (by decide +kernel)) (fun _ h9 => h9) rfl dX5_tell_118 ?_
                    refine lv_iload hx hb dX5_tell_121 (lv_at hl 7 rfl) ?_
                    refine zz_iald hx hb hK hP 3 0 rfl rfl (n := 100) (j := t) (by omega) (by decide) dX5_tell_123 ?_
                    refine zz_i (z := (nI (cn (s1 t)))) (hwf t (by omega) hg).2.1 ?_
                    refine zz_lald hx hb hK hP 5 1 rfl rfl (n := 100) (j := (cn (s1 t))) (by have := (hwf t (by omega) hg).2.2; omega) (by decide) dX5_tell_124 ?_
                    refine lv_lstore (lv' := [(10, .long (v (cn (s1 t)))), (8, .long (allW (nI (f % 2)))), (0, .ref qm), (1, .ref qt), (2, .int (nI w)), (3, .int (nI f)), (4, .int (nI (f / 2))), (5, .long (allW (nI (f % 2)))), (7, .int (nI t))]) hx hb dX5_tell_125 hl (by decide) rfl (fun ls hl => ?_)
                    refine lv_aload_n hx hb dX5_tell_127 rfl (lv_at hl 3 rfl) ?_
                    refine lv_iload hx hb dX5_tell_128 (lv_at hl 8 rfl) ?_
                    refine lv_aload_n hx hb dX5_tell_130 rfl (lv_at hl 2 rfl) ?_
                    refine va_get (D := D) (ci := 5) (v := .ref mk) (C := RX5) (T := TX5) (N := 18) hx hb hts hiX5 hown hK hP 0 rfl rfl 4 (by decide) (hts (.fieldLink RX5 7 "FaultSearchModel" "kinds" "[I") (by decide +kernel)) (fun _ h9 => h9) rfl dX5_tell_131 ?_
                    refine lv_iload hx hb dX5_tell_134 (lv_at hl 8 rfl) ?_
                    refine zz_iald hx hb hK hP 1 0 rfl rfl (n := 100) (j := t) (by omega) (by decide) dX5_tell_136 ?_
                    refine lv_lload hx hb dX5_tell_137 (lv_at hl 1 rfl) ?_
                    refine lv_lload hx hb dX5_tell_139 (lv_at hl 0 rfl) ?_
                    refine vp_callSl (va_runS (As := [.int (kd t), .long (allW (nI (f % 2))), .long (v (cn (s1 t)))]) (rest := [.int (nI t), .ref qt]) ⟨hx, hb, hml, hown, hts⟩ (c_X5_gateOf l (kd t) (allW (nI (f % 2))) (v (cn (s1 t)))) (va_cwS 3 hts gX5_tell_X5_gateOf rfl rfl rfl (by decide +kernel) ⟨Nat.le_of_ble_eq_true rfl, Nat.le_of_ble_eq_true rfl⟩) ⟨zt_blind, fun U hU hW => ⟨rfl, trivial⟩⟩ rfl rfl hl.1 rfl (lv_room (Nat.le_of_ble_eq_true rfl)) dX5_tell_141 ⟨Nat.le_of_ble_eq_true rfl, Nat.le_of_ble_eq_true rfl⟩).run (fun r_8 hrr_8 => ?_)
                    subst hrr_8
                    refine zz_last hx hb hK hP hD hS 5 1 rfl rfl (n := 100) (j := t) (by omega) (by decide) dX5_tell_144 (fun H locs hP hD hS => ?_)
                    have hP : va_P D vwCl [(qm, .inr (5, [.int cd, .int (nI n), .int (nI ni), .int (nI no), .ref mk, .ref m0, .ref m1, .ref mi, .ref mo, .ref ml, .ref mf, .ref ma, .int (nI cl), .ref mfd, .ref mts, .int (nI tc), .ref mg, .ref mb])), (mk, .inl (cI, 100, .inl kd)), (m0, .inl (cI, 100, .inl s0)), (m1, .inl (cI, 100, .inl s1)), (mi, .inl (cI, 100, .inl io)), (qt, .inl (cJ, 100, .inr (.inl (vp_updL v t (gw (kd t) (allW (nI (f % 2))) (v (cn (s1 t))))))))] H := hP
                    have hD : va_D A [(qm, .inr (5, [.int cd, .int (nI n), .int (nI ni), .int (nI no), .ref mk, .ref m0, .ref m1, .ref mi, .ref mo, .ref ml, .ref mf, .ref ma, .int (nI cl), .ref mfd, .ref mts, .int (nI tc), .ref mg, .ref mb])), (mk, .inl (cI, 100, .inl kd)), (m0, .inl (cI, 100, .inl s0)), (m1, .inl (cI, 100, .inl s1)), (mi, .inl (cI, 100, .inl io)), (qt, .inl (cJ, 100, .inr (.inl (vp_updL v t (gw (kd t) (allW (nI (f % 2))) (v (cn (s1 t))))))))] := hD
                    refine lv_aload_n hx hb dX5_tell_145 rfl (lv_at hl 3 rfl) ?_
                    refine lv_iload hx hb dX5_tell_146 (lv_at hl 8 rfl) ?_
                    refine lv_iload hx hb dX5_tell_148 (lv_at hl 6 rfl) ?_
                    refine lv_iconst (v := (nI 3)) hx hb dX5_tell_150 (by decide) ?_
                    refine lv_iload hx hb dX5_tell_151 (lv_at hl 8 rfl) ?_
                    refine lv_imul hx hb dX5_tell_153 ?_
                    refine zz_i (z := (nI (3 * t))) (pk_mul _ _) ?_
                    refine lv_icmp_ne (tgt := 162) hx hb dX5_tell_154 (by decide) (fun c_154 => ?_) (fun c_154 => ?_)
                    · skip
                      rw [zc_eq (by omega) (by omega)] at c_154
                      refine lv_aload_n hx hb dX5_tell_162 rfl (lv_at hl 3 rfl) ?_
                      refine lv_iload hx hb dX5_tell_163 (lv_at hl 8 rfl) ?_
                      refine zz_lald hx hb hK hP 5 1 rfl rfl (n := 100) (j := t) (by omega) (by decide) dX5_tell_165 ?_
                      refine zz_last hx hb hK hP hD hS 5 1 rfl rfl (n := 100) (j := t) (by omega) (by decide) dX5_tell_166 (fun H locs hP hD hS => ?_)
                      have hP : va_P D vwCl [(qm, .inr (5, [.int cd, .int (nI n), .int (nI ni), .int (nI no), .ref mk, .ref m0, .ref m1, .ref mi, .ref mo, .ref ml, .ref mf, .ref ma, .int (nI cl), .ref mfd, .ref mts, .int (nI tc), .ref mg, .ref mb])), (mk, .inl (cI, 100, .inl kd)), (m0, .inl (cI, 100, .inl s0)), (m1, .inl (cI, 100, .inl s1)), (mi, .inl (cI, 100, .inl io)), (qt, .inl (cJ, 100, .inr (.inl (vp_updL (vp_updL v t (gw (kd t) (allW (nI (f % 2))) (v (cn (s1 t))))) t ((vp_updL v t (gw (kd t) (allW (nI (f % 2))) (v (cn (s1 t))))) t)))))] H := hP
                      have hD : va_D A [(qm, .inr (5, [.int cd, .int (nI n), .int (nI ni), .int (nI no), .ref mk, .ref m0, .ref m1, .ref mi, .ref mo, .ref ml, .ref mf, .ref ma, .int (nI cl), .ref mfd, .ref mts, .int (nI tc), .ref mg, .ref mb])), (mk, .inl (cI, 100, .inl kd)), (m0, .inl (cI, 100, .inl s0)), (m1, .inl (cI, 100, .inl s1)), (mi, .inl (cI, 100, .inl io)), (qt, .inl (cJ, 100, .inr (.inl (vp_updL (vp_updL v t (gw (kd t) (allW (nI (f % 2))) (v (cn (s1 t))))) t ((vp_updL v t (gw (kd t) (allW (nI (f % 2))) (v (cn (s1 t))))) t)))))] := hD
                      refine lv_iinc (v := (nI (t + 1))) (lv' := [(7, .int (nI (t + 1))), (10, .long (v (cn (s1 t)))), (8, .long (allW (nI (f % 2)))), (0, .ref qm), (1, .ref qt), (2, .int (nI w)), (3, .int (nI f)), (4, .int (nI (f / 2))), (5, .long (allW (nI (f % 2))))]) hx hb dX5_tell_167 hl (k := 8) rfl (nI_add _ 1) (by decide) rfl (fun ls hl => ?_)
                      refine lv_goto (tgt := 36) hx hb dX5_tell_170 (by decide) ?_
                      exact ih36 (t + 1) (vp_updL (vp_updL v t (gw (kd t) (allW (nI (f % 2))) (v (cn (s1 t))))) t ((vp_updL v t (gw (kd t) (allW (nI (f % 2))) (v (cn (s1 t))))) t)) (by omega) (tell_s hv (fun j => uLs2) (by rw [hBf t (by omega)]; (first | rw [if_pos c_154] | rw [if_neg c_154]); rw [if_neg hg]; (first | rw [if_pos c_81] | rw [if_neg c_81, hv _ (hwf t (by omega) hg).1.2]); (first | rw [if_pos c_108] | rw [if_neg c_108, hv _ (hwf t (by omega) hg).2.2]))) (by omega) _ _ hP hD hS ls (lv_sub hl [3, 4, 5, 6, 7, 8, 0] rfl)
                    · skip
                      rw [zc_eq (by omega) (by omega)] at c_154
                      refine lv_lload hx hb dX5_tell_157 (lv_at hl 7 rfl) ?_
                      refine lv_goto (tgt := 166) hx hb dX5_tell_159 (by decide) ?_
                      refine zz_last hx hb hK hP hD hS 5 1 rfl rfl (n := 100) (j := t) (by omega) (by decide) dX5_tell_166 (fun H locs hP hD hS => ?_)
                      have hP : va_P D vwCl [(qm, .inr (5, [.int cd, .int (nI n), .int (nI ni), .int (nI no), .ref mk, .ref m0, .ref m1, .ref mi, .ref mo, .ref ml, .ref mf, .ref ma, .int (nI cl), .ref mfd, .ref mts, .int (nI tc), .ref mg, .ref mb])), (mk, .inl (cI, 100, .inl kd)), (m0, .inl (cI, 100, .inl s0)), (m1, .inl (cI, 100, .inl s1)), (mi, .inl (cI, 100, .inl io)), (qt, .inl (cJ, 100, .inr (.inl (vp_updL (vp_updL v t (gw (kd t) (allW (nI (f % 2))) (v (cn (s1 t))))) t (allW (nI (f % 2)))))))] H := hP
                      have hD : va_D A [(qm, .inr (5, [.int cd, .int (nI n), .int (nI ni), .int (nI no), .ref mk, .ref m0, .ref m1, .ref mi, .ref mo, .ref ml, .ref mf, .ref ma, .int (nI cl), .ref mfd, .ref mts, .int (nI tc), .ref mg, .ref mb])), (mk, .inl (cI, 100, .inl kd)), (m0, .inl (cI, 100, .inl s0)), (m1, .inl (cI, 100, .inl s1)), (mi, .inl (cI, 100, .inl io)), (qt, .inl (cJ, 100, .inr (.inl (vp_updL (vp_updL v t (gw (kd t) (allW (nI (f % 2))) (v (cn (s1 t))))) t (allW (nI (f % 2)))))))] := hD
                      refine lv_iinc (v := (nI (t + 1))) (lv' := [(7, .int (nI (t + 1))), (10, .long (v (cn (s1 t)))), (8, .long (allW (nI (f % 2)))), (0, .ref qm), (1, .ref qt), (2, .int (nI w)), (3, .int (nI f)), (4, .int (nI (f / 2))), (5, .long (allW (nI (f % 2))))]) hx hb dX5_tell_167 hl (k := 8) rfl (nI_add _ 1) (by decide) rfl (fun ls hl => ?_)
                      refine lv_goto (tgt := 36) hx hb dX5_tell_170 (by decide) ?_
                      exact ih36 (t + 1) (vp_updL (vp_updL v t (gw (kd t) (allW (nI (f % 2))) (v (cn (s1 t))))) t (allW (nI (f % 2)))) (by omega) (tell_s hv (fun j => uLs3) (by rw [hBf t (by omega)]; (first | rw [if_pos c_154] | rw [if_neg c_154]))) (by omega) _ _ hP hD hS ls (lv_sub hl [3, 4, 5, 6, 7, 8, 0] rfl)
                  · skip
                    rw [zc_eq (by omega) (by omega)] at c_108
                    refine lv_lload hx hb dX5_tell_111 (lv_at hl 6 rfl) ?_
                    refine lv_goto (tgt := 125) hx hb dX5_tell_113 (by decide) ?_
                    refine lv_lstore (lv' := [(10, .long (allW (nI (f % 2)))), (8, .long (allW (nI (f % 2)))), (0, .ref qm), (1, .ref qt), (2, .int (nI w)), (3, .int (nI f)), (4, .int (nI (f / 2))), (5, .long (allW (nI (f % 2)))), (7, .int (nI t))]) hx hb dX5_tell_125 hl (by decide) rfl (fun ls hl => ?_)
                    refine lv_aload_n hx hb dX5_tell_127 rfl (lv_at hl 3 rfl) ?_
                    refine lv_iload hx hb dX5_tell_128 (lv_at hl 8 rfl) ?_
                    refine lv_aload_n hx hb dX5_tell_130 rfl (lv_at hl 2 rfl) ?_
                    refine va_get (D := D) (ci := 5) (v := .ref mk) (C := RX5) (T := TX5) (N := 18) hx hb hts hiX5 hown hK hP 0 rfl rfl 4 (by decide) (hts (.fieldLink RX5 7 "FaultSearchModel" "kinds" "[I") (by decide +kernel)) (fun _ h9 => h9) rfl dX5_tell_131 ?_
                    refine lv_iload hx hb dX5_tell_134 (lv_at hl 8 rfl) ?_
                    refine zz_iald hx hb hK hP 1 0 rfl rfl (n := 100) (j := t) (by omega) (by decide) dX5_tell_136 ?_
                    refine lv_lload hx hb dX5_tell_137 (lv_at hl 1 rfl) ?_
                    refine lv_lload hx hb dX5_tell_139 (lv_at hl 0 rfl) ?_
                    refine vp_callSl (va_runS (As := [.int (kd t), .long (allW (nI (f % 2))), .long (allW (nI (f % 2)))]) (rest := [.int (nI t), .ref qt]) ⟨hx, hb, hml, hown, hts⟩ (c_X5_gateOf l (kd t) (allW (nI (f % 2))) (allW (nI (f % 2)))) (va_cwS 3 hts gX5_tell_X5_gateOf rfl rfl rfl (by decide +kernel) ⟨Nat.le_of_ble_eq_true rfl, Nat.le_of_ble_eq_true rfl⟩) ⟨zt_blind, fun U hU hW => ⟨rfl, trivial⟩⟩ rfl rfl hl.1 rfl (lv_room (Nat.le_of_ble_eq_true rfl)) dX5_tell_141 ⟨Nat.le_of_ble_eq_true rfl, Nat.le_of_ble_eq_true rfl⟩).run (fun r_9 hrr_9 => ?_)
                    subst hrr_9
                    refine zz_last hx hb hK hP hD hS 5 1 rfl rfl (n := 100) (j := t) (by omega) (by decide) dX5_tell_144 (fun H locs hP hD hS => ?_)
                    have hP : va_P D vwCl [(qm, .inr (5, [.int cd, .int (nI n), .int (nI ni), .int (nI no), .ref mk, .ref m0, .ref m1, .ref mi, .ref mo, .ref ml, .ref mf, .ref ma, .int (nI cl), .ref mfd, .ref mts, .int (nI tc), .ref mg, .ref mb])), (mk, .inl (cI, 100, .inl kd)), (m0, .inl (cI, 100, .inl s0)), (m1, .inl (cI, 100, .inl s1)), (mi, .inl (cI, 100, .inl io)), (qt, .inl (cJ, 100, .inr (.inl (vp_updL v t (gw (kd t) (allW (nI (f % 2))) (allW (nI (f % 2))))))))] H := hP
                    have hD : va_D A [(qm, .inr (5, [.int cd, .int (nI n), .int (nI ni), .int (nI no), .ref mk, .ref m0, .ref m1, .ref mi, .ref mo, .ref ml, .ref mf, .ref ma, .int (nI cl), .ref mfd, .ref mts, .int (nI tc), .ref mg, .ref mb])), (mk, .inl (cI, 100, .inl kd)), (m0, .inl (cI, 100, .inl s0)), (m1, .inl (cI, 100, .inl s1)), (mi, .inl (cI, 100, .inl io)), (qt, .inl (cJ, 100, .inr (.inl (vp_updL v t (gw (kd t) (allW (nI (f % 2))) (allW (nI (f % 2))))))))] := hD
                    refine lv_aload_n hx hb dX5_tell_145 rfl (lv_at hl 3 rfl) ?_
                    refine lv_iload hx hb dX5_tell_146 (lv_at hl 8 rfl) ?_
                    refine lv_iload hx hb dX5_tell_148 (lv_at hl 6 rfl) ?_
                    refine lv_iconst (v := (nI 3)) hx hb dX5_tell_150 (by decide) ?_
                    refine lv_iload hx hb dX5_tell_151 (lv_at hl 8 rfl) ?_
                    refine lv_imul hx hb dX5_tell_153 ?_
                    refine zz_i (z := (nI (3 * t))) (pk_mul _ _) ?_
                    refine lv_icmp_ne (tgt := 162) hx hb dX5_tell_154 (by decide) (fun c_154 => ?_) (fun c_154 => ?_)
                    · skip
                      rw [zc_eq (by omega) (by omega)] at c_154
                      refine lv_aload_n hx hb dX5_tell_162 rfl (lv_at hl 3 rfl) ?_
                      refine lv_iload hx hb dX5_tell_163 (lv_at hl 8 rfl) ?_
                      refine zz_lald hx hb hK hP 5 1 rfl rfl (n := 100) (j := t) (by omega) (by decide) dX5_tell_165 ?_
                      refine zz_last hx hb hK hP hD hS 5 1 rfl rfl (n := 100) (j := t) (by omega) (by decide) dX5_tell_166 (fun H locs hP hD hS => ?_)
                      have hP : va_P D vwCl [(qm, .inr (5, [.int cd, .int (nI n), .int (nI ni), .int (nI no), .ref mk, .ref m0, .ref m1, .ref mi, .ref mo, .ref ml, .ref mf, .ref ma, .int (nI cl), .ref mfd, .ref mts, .int (nI tc), .ref mg, .ref mb])), (mk, .inl (cI, 100, .inl kd)), (m0, .inl (cI, 100, .inl s0)), (m1, .inl (cI, 100, .inl s1)), (mi, .inl (cI, 100, .inl io)), (qt, .inl (cJ, 100, .inr (.inl (vp_updL (vp_updL v t (gw (kd t) (allW (nI (f % 2))) (allW (nI (f % 2))))) t ((vp_updL v t (gw (kd t) (allW (nI (f % 2))) (allW (nI (f % 2))))) t)))))] H := hP
                      have hD : va_D A [(qm, .inr (5, [.int cd, .int (nI n), .int (nI ni), .int (nI no), .ref mk, .ref m0, .ref m1, .ref mi, .ref mo, .ref ml, .ref mf, .ref ma, .int (nI cl), .ref mfd, .ref mts, .int (nI tc), .ref mg, .ref mb])), (mk, .inl (cI, 100, .inl kd)), (m0, .inl (cI, 100, .inl s0)), (m1, .inl (cI, 100, .inl s1)), (mi, .inl (cI, 100, .inl io)), (qt, .inl (cJ, 100, .inr (.inl (vp_updL (vp_updL v t (gw (kd t) (allW (nI (f % 2))) (allW (nI (f % 2))))) t ((vp_updL v t (gw (kd t) (allW (nI (f % 2))) (allW (nI (f % 2))))) t)))))] := hD
                      refine lv_iinc (v := (nI (t + 1))) (lv' := [(7, .int (nI (t + 1))), (10, .long (allW (nI (f % 2)))), (8, .long (allW (nI (f % 2)))), (0, .ref qm), (1, .ref qt), (2, .int (nI w)), (3, .int (nI f)), (4, .int (nI (f / 2))), (5, .long (allW (nI (f % 2))))]) hx hb dX5_tell_167 hl (k := 8) rfl (nI_add _ 1) (by decide) rfl (fun ls hl => ?_)
                      refine lv_goto (tgt := 36) hx hb dX5_tell_170 (by decide) ?_
                      exact ih36 (t + 1) (vp_updL (vp_updL v t (gw (kd t) (allW (nI (f % 2))) (allW (nI (f % 2))))) t ((vp_updL v t (gw (kd t) (allW (nI (f % 2))) (allW (nI (f % 2))))) t)) (by omega) (tell_s hv (fun j => uLs2) (by rw [hBf t (by omega)]; (first | rw [if_pos c_154] | rw [if_neg c_154]); rw [if_neg hg]; (first | rw [if_pos c_81] | rw [if_neg c_81, hv _ (hwf t (by omega) hg).1.2]); (first | rw [if_pos c_108] | rw [if_neg c_108, hv _ (hwf t (by omega) hg).2.2]))) (by omega) _ _ hP hD hS ls (lv_sub hl [3, 4, 5, 6, 7, 8, 0] rfl)
                    · skip
                      rw [zc_eq (by omega) (by omega)] at c_154
                      refine lv_lload hx hb dX5_tell_157 (lv_at hl 7 rfl) ?_
                      refine lv_goto (tgt := 166) hx hb dX5_tell_159 (by decide) ?_
                      refine zz_last hx hb hK hP hD hS 5 1 rfl rfl (n := 100) (j := t) (by omega) (by decide) dX5_tell_166 (fun H locs hP hD hS => ?_)
                      have hP : va_P D vwCl [(qm, .inr (5, [.int cd, .int (nI n), .int (nI ni), .int (nI no), .ref mk, .ref m0, .ref m1, .ref mi, .ref mo, .ref ml, .ref mf, .ref ma, .int (nI cl), .ref mfd, .ref mts, .int (nI tc), .ref mg, .ref mb])), (mk, .inl (cI, 100, .inl kd)), (m0, .inl (cI, 100, .inl s0)), (m1, .inl (cI, 100, .inl s1)), (mi, .inl (cI, 100, .inl io)), (qt, .inl (cJ, 100, .inr (.inl (vp_updL (vp_updL v t (gw (kd t) (allW (nI (f % 2))) (allW (nI (f % 2))))) t (allW (nI (f % 2)))))))] H := hP
                      have hD : va_D A [(qm, .inr (5, [.int cd, .int (nI n), .int (nI ni), .int (nI no), .ref mk, .ref m0, .ref m1, .ref mi, .ref mo, .ref ml, .ref mf, .ref ma, .int (nI cl), .ref mfd, .ref mts, .int (nI tc), .ref mg, .ref mb])), (mk, .inl (cI, 100, .inl kd)), (m0, .inl (cI, 100, .inl s0)), (m1, .inl (cI, 100, .inl s1)), (mi, .inl (cI, 100, .inl io)), (qt, .inl (cJ, 100, .inr (.inl (vp_updL (vp_updL v t (gw (kd t) (allW (nI (f % 2))) (allW (nI (f % 2))))) t (allW (nI (f % 2)))))))] := hD
                      refine lv_iinc (v := (nI (t + 1))) (lv' := [(7, .int (nI (t + 1))), (10, .long (allW (nI (f % 2)))), (8, .long (allW (nI (f % 2)))), (0, .ref qm), (1, .ref qt), (2, .int (nI w)), (3, .int (nI f)), (4, .int (nI (f / 2))), (5, .long (allW (nI (f % 2))))]) hx hb dX5_tell_167 hl (k := 8) rfl (nI_add _ 1) (by decide) rfl (fun ls hl => ?_)
                      refine lv_goto (tgt := 36) hx hb dX5_tell_170 (by decide) ?_
                      exact ih36 (t + 1) (vp_updL (vp_updL v t (gw (kd t) (allW (nI (f % 2))) (allW (nI (f % 2))))) t (allW (nI (f % 2)))) (by omega) (tell_s hv (fun j => uLs3) (by rw [hBf t (by omega)]; (first | rw [if_pos c_154] | rw [if_neg c_154]))) (by omega) _ _ hP hD hS ls (lv_sub hl [3, 4, 5, 6, 7, 8, 0] rfl)
              · skip
                have hm : kd t = (-1) := (hkd t (by omega)).lt.mp (Int32.not_le.mp c_52)
                refine lv_aload_n hx hb dX5_tell_55 rfl (lv_at hl 1 rfl) ?_
                refine lv_iload hx hb dX5_tell_56 (lv_at hl 6 rfl) ?_
                refine lv_aload_n hx hb dX5_tell_58 rfl (lv_at hl 0 rfl) ?_
                refine va_get (D := D) (ci := 5) (v := .ref mi) (C := RX5) (T := TX5) (N := 18) hx hb hts hiX5 hown hK hP 0 rfl rfl 7 (by decide) (hts (.fieldLink RX5 19 "FaultSearchModel" "inputOf" "[I") (by decide +kernel)) (fun _ h9 => h9) rfl dX5_tell_59 ?_
                refine lv_iload hx hb dX5_tell_62 (lv_at hl 6 rfl) ?_
                refine zz_iald hx hb hK hP 4 0 rfl rfl (n := 100) (j := t) (by omega) (by decide) dX5_tell_64 ?_
                refine zz_i (z := (nI (cn (io t)))) (hio t (by omega) hm).1 ?_
                refine lv_iload_n hx hb dX5_tell_65 rfl (lv_at hl 2 rfl) ?_
                refine vp_callSl (va_runS (As := [.int (nI (cn (io t))), .int (nI w)]) (rest := [.int (nI t), .ref qt]) ⟨hx, hb, hml, hown, hts⟩ (c_X5_inputAt l (cn (io t)) w (hio t (by omega) hm).2 hw) (va_cwS 2 hts gX5_tell_X5_inputAt rfl rfl rfl (by decide +kernel) ⟨Nat.le_of_ble_eq_true rfl, Nat.le_of_ble_eq_true rfl⟩) ⟨zt_blind, fun U hU hW => ⟨rfl, trivial⟩⟩ rfl rfl hl.1 rfl (lv_room (Nat.le_of_ble_eq_true rfl)) dX5_tell_66 ⟨Nat.le_of_ble_eq_true rfl, Nat.le_of_ble_eq_true rfl⟩).run (fun r_10 hrr_10 => ?_)
                subst hrr_10
                refine zz_last hx hb hK hP hD hS 5 1 rfl rfl (n := 100) (j := t) (by omega) (by decide) dX5_tell_69 (fun H locs hP hD hS => ?_)
                have hP : va_P D vwCl [(qm, .inr (5, [.int cd, .int (nI n), .int (nI ni), .int (nI no), .ref mk, .ref m0, .ref m1, .ref mi, .ref mo, .ref ml, .ref mf, .ref ma, .int (nI cl), .ref mfd, .ref mts, .int (nI tc), .ref mg, .ref mb])), (mk, .inl (cI, 100, .inl kd)), (m0, .inl (cI, 100, .inl s0)), (m1, .inl (cI, 100, .inl s1)), (mi, .inl (cI, 100, .inl io)), (qt, .inl (cJ, 100, .inr (.inl (vp_updL v t (inW (cn (io t)) w)))))] H := hP
                have hD : va_D A [(qm, .inr (5, [.int cd, .int (nI n), .int (nI ni), .int (nI no), .ref mk, .ref m0, .ref m1, .ref mi, .ref mo, .ref ml, .ref mf, .ref ma, .int (nI cl), .ref mfd, .ref mts, .int (nI tc), .ref mg, .ref mb])), (mk, .inl (cI, 100, .inl kd)), (m0, .inl (cI, 100, .inl s0)), (m1, .inl (cI, 100, .inl s1)), (mi, .inl (cI, 100, .inl io)), (qt, .inl (cJ, 100, .inr (.inl (vp_updL v t (inW (cn (io t)) w)))))] := hD
                refine lv_goto (tgt := 145) hx hb dX5_tell_70 (by decide) ?_
                refine lv_aload_n hx hb dX5_tell_145 rfl (lv_at hl 1 rfl) ?_
                refine lv_iload hx hb dX5_tell_146 (lv_at hl 6 rfl) ?_
                refine lv_iload hx hb dX5_tell_148 (lv_at hl 4 rfl) ?_
                refine lv_iconst (v := (nI 3)) hx hb dX5_tell_150 (by decide) ?_
                refine lv_iload hx hb dX5_tell_151 (lv_at hl 6 rfl) ?_
                refine lv_imul hx hb dX5_tell_153 ?_
                refine zz_i (z := (nI (3 * t))) (pk_mul _ _) ?_
                refine lv_icmp_ne (tgt := 162) hx hb dX5_tell_154 (by decide) (fun c_154 => ?_) (fun c_154 => ?_)
                · skip
                  rw [zc_eq (by omega) (by omega)] at c_154
                  refine lv_aload_n hx hb dX5_tell_162 rfl (lv_at hl 1 rfl) ?_
                  refine lv_iload hx hb dX5_tell_163 (lv_at hl 6 rfl) ?_
                  refine zz_lald hx hb hK hP 5 1 rfl rfl (n := 100) (j := t) (by omega) (by decide) dX5_tell_165 ?_
                  refine zz_last hx hb hK hP hD hS 5 1 rfl rfl (n := 100) (j := t) (by omega) (by decide) dX5_tell_166 (fun H locs hP hD hS => ?_)
                  have hP : va_P D vwCl [(qm, .inr (5, [.int cd, .int (nI n), .int (nI ni), .int (nI no), .ref mk, .ref m0, .ref m1, .ref mi, .ref mo, .ref ml, .ref mf, .ref ma, .int (nI cl), .ref mfd, .ref mts, .int (nI tc), .ref mg, .ref mb])), (mk, .inl (cI, 100, .inl kd)), (m0, .inl (cI, 100, .inl s0)), (m1, .inl (cI, 100, .inl s1)), (mi, .inl (cI, 100, .inl io)), (qt, .inl (cJ, 100, .inr (.inl (vp_updL (vp_updL v t (inW (cn (io t)) w)) t ((vp_updL v t (inW (cn (io t)) w)) t)))))] H := hP
                  have hD : va_D A [(qm, .inr (5, [.int cd, .int (nI n), .int (nI ni), .int (nI no), .ref mk, .ref m0, .ref m1, .ref mi, .ref mo, .ref ml, .ref mf, .ref ma, .int (nI cl), .ref mfd, .ref mts, .int (nI tc), .ref mg, .ref mb])), (mk, .inl (cI, 100, .inl kd)), (m0, .inl (cI, 100, .inl s0)), (m1, .inl (cI, 100, .inl s1)), (mi, .inl (cI, 100, .inl io)), (qt, .inl (cJ, 100, .inr (.inl (vp_updL (vp_updL v t (inW (cn (io t)) w)) t ((vp_updL v t (inW (cn (io t)) w)) t)))))] := hD
                  refine lv_iinc (v := (nI (t + 1))) (lv' := [(7, .int (nI (t + 1))), (0, .ref qm), (1, .ref qt), (2, .int (nI w)), (3, .int (nI f)), (4, .int (nI (f / 2))), (5, .long (allW (nI (f % 2))))]) hx hb dX5_tell_167 hl (k := 6) rfl (nI_add _ 1) (by decide) rfl (fun ls hl => ?_)
                  refine lv_goto (tgt := 36) hx hb dX5_tell_170 (by decide) ?_
                  exact ih36 (t + 1) (vp_updL (vp_updL v t (inW (cn (io t)) w)) t ((vp_updL v t (inW (cn (io t)) w)) t)) (by omega) (tell_s hv (fun j => uLs2) (by rw [hBf t (by omega)]; (first | rw [if_pos c_154] | rw [if_neg c_154]); rw [if_pos hm])) (by omega) _ _ hP hD hS ls (lv_sub hl [1, 2, 3, 4, 5, 6, 0] rfl)
                · skip
                  rw [zc_eq (by omega) (by omega)] at c_154
                  refine lv_lload hx hb dX5_tell_157 (lv_at hl 5 rfl) ?_
                  refine lv_goto (tgt := 166) hx hb dX5_tell_159 (by decide) ?_
                  refine zz_last hx hb hK hP hD hS 5 1 rfl rfl (n := 100) (j := t) (by omega) (by decide) dX5_tell_166 (fun H locs hP hD hS => ?_)
                  have hP : va_P D vwCl [(qm, .inr (5, [.int cd, .int (nI n), .int (nI ni), .int (nI no), .ref mk, .ref m0, .ref m1, .ref mi, .ref mo, .ref ml, .ref mf, .ref ma, .int (nI cl), .ref mfd, .ref mts, .int (nI tc), .ref mg, .ref mb])), (mk, .inl (cI, 100, .inl kd)), (m0, .inl (cI, 100, .inl s0)), (m1, .inl (cI, 100, .inl s1)), (mi, .inl (cI, 100, .inl io)), (qt, .inl (cJ, 100, .inr (.inl (vp_updL (vp_updL v t (inW (cn (io t)) w)) t (allW (nI (f % 2)))))))] H := hP
                  have hD : va_D A [(qm, .inr (5, [.int cd, .int (nI n), .int (nI ni), .int (nI no), .ref mk, .ref m0, .ref m1, .ref mi, .ref mo, .ref ml, .ref mf, .ref ma, .int (nI cl), .ref mfd, .ref mts, .int (nI tc), .ref mg, .ref mb])), (mk, .inl (cI, 100, .inl kd)), (m0, .inl (cI, 100, .inl s0)), (m1, .inl (cI, 100, .inl s1)), (mi, .inl (cI, 100, .inl io)), (qt, .inl (cJ, 100, .inr (.inl (vp_updL (vp_updL v t (inW (cn (io t)) w)) t (allW (nI (f % 2)))))))] := hD
                  refine lv_iinc (v := (nI (t + 1))) (lv' := [(7, .int (nI (t + 1))), (0, .ref qm), (1, .ref qt), (2, .int (nI w)), (3, .int (nI f)), (4, .int (nI (f / 2))), (5, .long (allW (nI (f % 2))))]) hx hb dX5_tell_167 hl (k := 6) rfl (nI_add _ 1) (by decide) rfl (fun ls hl => ?_)
                  refine lv_goto (tgt := 36) hx hb dX5_tell_170 (by decide) ?_
                  exact ih36 (t + 1) (vp_updL (vp_updL v t (inW (cn (io t)) w)) t (allW (nI (f % 2)))) (by omega) (tell_s hv (fun j => uLs3) (by rw [hBf t (by omega)]; (first | rw [if_pos c_154] | rw [if_neg c_154]))) (by omega) _ _ hP hD hS ls (lv_sub hl [1, 2, 3, 4, 5, 6, 0] rfl)
        exact loop36 ((n - 0) + 1) 0 tv (Nat.zero_le _) (fun j h => absurd h (Nat.not_lt_zero _)) (Nat.lt_succ_self _) _ _ hP hD hS ls (lv_sub hl [3, 4, 5, 6, 2, 1, 0] rfl)
  · skip
    rw [show (0 : Int32) = nI 0 from rfl, zc_le (by omega) (by omega)] at c_1
    exact absurd (Nat.zero_le _) c_1

set_option maxHeartbeats 4000000 in
set_option maxRecDepth 100000 in
theorem c_X5_all (l : Launch) (D : va_G) (cI cJ cZ : ClassId) (qm : Nat) (mk : Nat) (m0 : Nat) (m1 : Nat) (mi : Nat) (mo : Nat) (ml : Nat) (mf : Nat) (ma : Nat) (mfd : Nat) (mts : Nat) (mg : Nat) (mb : Nat) (cd : Int32) (n : Nat) (ni : Nat) (no : Nat) (cl : Nat) (tc : Nat) (hni : ni ≤ 10) : Met l yX5_all wsX5_all ({ frames := 0, cells := 0, slots := 0, locals := 0 } : Room) (va_Pc [.ref qm] (PR D cI cJ cZ [(qm, .inr (5, [.int cd, .int (nI n), .int (nI ni), .int (nI no), .ref mk, .ref m0, .ref m1, .ref mi, .ref mo, .ref ml, .ref mf, .ref ma, .int (nI cl), .ref mfd, .ref mts, .int (nI tc), .ref mg, .ref mb]))])) (vp_Si (fun r_9 : Int32 => r_9 = (nI (2 ^ ni)))) 0 0 (fun _ => False) := by
  refine Met.ofW (cc := cX5_all) (maxL := 1) (ret := (some .int)) (by decide) rfl ?_
  intro p e s m args below meth c s₁ B hml hv
  obtain ⟨rfl, hP, hK, hNB⟩ := hv
  have hx := B.exec
  have hb := B.bytes
  have hr := B.returns
  have hts := atoms_spec (ws := wsX5_all) B.pre
  have hown : s.vm.findClass RX5 = some m.cls := findClass_of_methodNamed B.named
  have hlocks := B.notSynchronized
  have hiX5 : ∀ w ∈ u_ws RX5 TX5 18, w ∈ wsX5_all := by decide +kernel
  have hl := lv_entry ([.ref qm]) (n := 1) (Nat.le_of_ble_eq_true rfl)
  rw [lg_entry_eq]
  generalize (lg_sl ([.ref qm]) ++ List.replicate (1 - (lg_sl ([.ref qm])).length) Slot.unset).toArray = ls at hl ⊢
  have hl : lv_has ls 1 [(0, .ref qm)] := hl
  refine lv_iconst (v := (nI 1)) hx hb dX5_all_0 (by decide) ?_
  refine lv_aload_n hx hb dX5_all_1 rfl (lv_at hl 0 rfl) ?_
  refine va_get (D := D) (ci := 5) (v := .int (nI ni)) (C := RX5) (T := TX5) (N := 18) hx hb hts hiX5 hown hK hP 0 rfl rfl 2 (by decide) (hts (.fieldLink RX5 55 "FaultSearchModel" "inputs" "I") (by decide +kernel)) (fun _ h9 => h9) rfl dX5_all_2 ?_
  refine lv_ishl hx hb dX5_all_5 ?_
  exact W.iret (v := ((nI 1) <<< ((nI ni) &&& 31))) hx hb hr (fun t_9 ht_9 hW_9 => ⟨((nI 1) <<< ((nI ni) &&& 31)), rfl, (zs_shl1 _ (by omega)), ht_9⟩) (fun q h => nomatch h) dX5_all_6

set_option maxHeartbeats 4000000 in
set_option maxRecDepth 100000 in
theorem c_X5_blocks (l : Launch) (D : va_G) (cI cJ cZ : ClassId) (qm : Nat) (mk : Nat) (m0 : Nat) (m1 : Nat) (mi : Nat) (mo : Nat) (ml : Nat) (mf : Nat) (ma : Nat) (mfd : Nat) (mts : Nat) (mg : Nat) (mb : Nat) (cd : Int32) (n : Nat) (ni : Nat) (no : Nat) (cl : Nat) (tc : Nat) (hni : ni ≤ 10) : Met l yX5_blocks wsX5_blocks ({ frames := 1, cells := 0, slots := 0, locals := 20 } : Room) (va_Pc [.ref qm] (PR D cI cJ cZ [(qm, .inr (5, [.int cd, .int (nI n), .int (nI ni), .int (nI no), .ref mk, .ref m0, .ref m1, .ref mi, .ref mo, .ref ml, .ref mf, .ref ma, .int (nI cl), .ref mfd, .ref mts, .int (nI tc), .ref mg, .ref mb]))])) (vp_Si (fun r_9 : Int32 => r_9 = (nI (wordsN ni)))) 0 0 (fun _ => False) := by
  refine Met.ofW (cc := cX5_blocks) (maxL := 1) (ret := (some .int)) (by decide) rfl ?_
  intro p e s m args below meth c s₁ B hml hv
  obtain ⟨rfl, hP, hK, hNB⟩ := hv
  have hx := B.exec
  have hb := B.bytes
  have hr := B.returns
  have hts := atoms_spec (ws := wsX5_blocks) B.pre
  have hown : s.vm.findClass RX5 = some m.cls := findClass_of_methodNamed B.named
  have hlocks := B.notSynchronized
  have hiX5 : ∀ w ∈ u_ws RX5 TX5 18, w ∈ wsX5_blocks := by decide +kernel
  have hl := lv_entry ([.ref qm]) (n := 1) (Nat.le_of_ble_eq_true rfl)
  rw [lg_entry_eq]
  generalize (lg_sl ([.ref qm]) ++ List.replicate (1 - (lg_sl ([.ref qm])).length) Slot.unset).toArray = ls at hl ⊢
  have hl : lv_has ls 1 [(0, .ref qm)] := hl
  have h2p : 2 ^ ni ≤ 2 ^ 10 := Nat.pow_le_pow_right (by decide) hni
  refine lv_aload_n hx hb dX5_blocks_0 rfl (lv_at hl 0 rfl) ?_
  refine va_get (D := D) (ci := 5) (v := .int (nI ni)) (C := RX5) (T := TX5) (N := 18) hx hb hts hiX5 hown hK hP 0 rfl rfl 2 (by decide) (hts (.fieldLink RX5 55 "FaultSearchModel" "inputs" "I") (by decide +kernel)) (fun _ h9 => h9) rfl dX5_blocks_1 ?_
  refine lv_bipush (v := (nI 6)) hx hb dX5_blocks_4 (by decide) ?_
  refine lv_icmp_le (tgt := 19) hx hb dX5_blocks_6 (by decide) (fun c_6 => ?_) (fun c_6 => ?_)
  · skip
    rw [zc_le (by omega) (by omega)] at c_6
    refine lv_iconst (v := (nI 1)) hx hb dX5_blocks_19 (by decide) ?_
    exact W.iret (v := (nI 1)) hx hb hr (fun t_9 ht_9 hW_9 => ⟨(nI 1), rfl, (by rw [wordsN, if_pos (by omega)]), ht_9⟩) (fun q h => nomatch h) dX5_blocks_20
  · skip
    rw [zc_le (by omega) (by omega)] at c_6
    refine lv_aload_n hx hb dX5_blocks_9 rfl (lv_at hl 0 rfl) ?_
    have hPc := hP.sub (ws' := [(qm, .inr (5, [.int cd, .int (nI n), .int (nI ni), .int (nI no), .ref mk, .ref m0, .ref m1, .ref mi, .ref mo, .ref ml, .ref mf, .ref ma, .int (nI cl), .ref mfd, .ref mts, .int (nI tc), .ref mg, .ref mb]))]) [0] rfl
    refine vp_callSi (va_runV (As := []) (rest := []) ⟨hx, hb, hml, hown, hts⟩ (c_X5_all l D cI cJ cZ qm mk m0 m1 mi mo ml mf ma mfd mts mg mb cd n ni no cl tc (by omega)) (cwV 0 hts gX5_blocks_X5_all rfl rfl rfl (by decide +kernel) ⟨Nat.le_of_ble_eq_true rfl, Nat.le_of_ble_eq_true rfl⟩) ⟨PR.blind, va_recv hK hPc (ci := 5) (q0 := 0) rfl rfl, fun U hU hW => ⟨rfl, PR.to hPc hK hNB hU hW⟩⟩ rfl rfl hl.1 rfl (lv_room (Nat.le_of_ble_eq_true rfl)) dX5_blocks_10 ⟨Nat.le_of_ble_eq_true rfl, Nat.le_of_ble_eq_true rfl⟩).run (fun r_1 hrr_1 => ?_)
    subst hrr_1
    refine lv_bipush (v := (nI 64)) hx hb dX5_blocks_13 (by decide) ?_
    refine lv_idiv hx hb dX5_blocks_15 (by decide) ?_
    refine zz_i (z := (nI ((2 ^ ni) / 64))) (pk_div (by omega) (by decide) (by decide)) ?_
    refine lv_goto (tgt := 20) hx hb dX5_blocks_16 (by decide) ?_
    exact W.iret (v := (nI ((2 ^ ni) / 64))) hx hb hr (fun t_9 ht_9 hW_9 => ⟨(nI ((2 ^ ni) / 64)), rfl, (congrArg nI (wordsN_div (by omega)).symm), ht_9⟩) (fun q h => nomatch h) dX5_blocks_20

set_option maxHeartbeats 4000000 in
set_option maxRecDepth 100000 in
theorem c_X5_there (l : Launch) (D : va_G) (cI cJ cZ : ClassId) (qm : Nat) (mk : Nat) (m0 : Nat) (m1 : Nat) (mi : Nat) (mo : Nat) (ml : Nat) (mf : Nat) (ma : Nat) (mfd : Nat) (mts : Nat) (mg : Nat) (mb : Nat) (cd : Int32) (n : Nat) (ni : Nat) (no : Nat) (cl : Nat) (tc : Nat) (hni : ni ≤ 10) : Met l yX5_there wsX5_there ({ frames := 1, cells := 0, slots := 0, locals := 20 } : Room) (va_Pc [.ref qm] (PR D cI cJ cZ [(qm, .inr (5, [.int cd, .int (nI n), .int (nI ni), .int (nI no), .ref mk, .ref m0, .ref m1, .ref mi, .ref mo, .ref ml, .ref mf, .ref ma, .int (nI cl), .ref mfd, .ref mts, .int (nI tc), .ref mg, .ref mb]))])) (vp_Sl (fun r_9 : Int64 => r_9 = (maskW ni))) 0 0 (fun _ => False) := by
  refine Met.ofW (cc := cX5_there) (maxL := 1) (ret := (some .long)) (by decide) rfl ?_
  intro p e s m args below meth c s₁ B hml hv
  obtain ⟨rfl, hP, hK, hNB⟩ := hv
  have hx := B.exec
  have hb := B.bytes
  have hr := B.returns
  have hts := atoms_spec (ws := wsX5_there) B.pre
  have hown : s.vm.findClass RX5 = some m.cls := findClass_of_methodNamed B.named
  have hlocks := B.notSynchronized
  have hiX5 : ∀ w ∈ u_ws RX5 TX5 18, w ∈ wsX5_there := by decide +kernel
  have hl := lv_entry ([.ref qm]) (n := 1) (Nat.le_of_ble_eq_true rfl)
  rw [lg_entry_eq]
  generalize (lg_sl ([.ref qm]) ++ List.replicate (1 - (lg_sl ([.ref qm])).length) Slot.unset).toArray = ls at hl ⊢
  have hl : lv_has ls 1 [(0, .ref qm)] := hl
  refine lv_aload_n hx hb dX5_there_0 rfl (lv_at hl 0 rfl) ?_
  refine va_get (D := D) (ci := 5) (v := .int (nI ni)) (C := RX5) (T := TX5) (N := 18) hx hb hts hiX5 hown hK hP 0 rfl rfl 2 (by decide) (hts (.fieldLink RX5 55 "FaultSearchModel" "inputs" "I") (by decide +kernel)) (fun _ h9 => h9) rfl dX5_there_1 ?_
  refine lv_iconst (v := (nI 5)) hx hb dX5_there_4 (by decide) ?_
  refine lv_icmp_le (tgt := 14) hx hb dX5_there_5 (by decide) (fun c_5 => ?_) (fun c_5 => ?_)
  · skip
    rw [zc_le (by omega) (by omega)] at c_5
    refine lv_lconst (v := 1) hx hb dX5_there_14 (by decide) ?_
    refine lv_aload_n hx hb dX5_there_15 rfl (lv_at hl 0 rfl) ?_
    have hPc := hP.sub (ws' := [(qm, .inr (5, [.int cd, .int (nI n), .int (nI ni), .int (nI no), .ref mk, .ref m0, .ref m1, .ref mi, .ref mo, .ref ml, .ref mf, .ref ma, .int (nI cl), .ref mfd, .ref mts, .int (nI tc), .ref mg, .ref mb]))]) [0] rfl
    refine vp_callSi (va_runV (As := []) (rest := [.long 1]) ⟨hx, hb, hml, hown, hts⟩ (c_X5_all l D cI cJ cZ qm mk m0 m1 mi mo ml mf ma mfd mts mg mb cd n ni no cl tc (by omega)) (cwV 0 hts gX5_there_X5_all rfl rfl rfl (by decide +kernel) ⟨Nat.le_of_ble_eq_true rfl, Nat.le_of_ble_eq_true rfl⟩) ⟨PR.blind, va_recv hK hPc (ci := 5) (q0 := 0) rfl rfl, fun U hU hW => ⟨rfl, PR.to hPc hK hNB hU hW⟩⟩ rfl rfl hl.1 rfl (lv_room (Nat.le_of_ble_eq_true rfl)) dX5_there_16 ⟨Nat.le_of_ble_eq_true rfl, Nat.le_of_ble_eq_true rfl⟩).run (fun r_1 hrr_1 => ?_)
    subst hrr_1
    refine lv_lshl hx hb dX5_there_19 rfl ?_
    refine lv_lconst (v := 1) hx hb dX5_there_20 (by decide) ?_
    refine lv_lsub hx hb dX5_there_21 ?_
    exact W.lret (v := ((1 <<< ((nI (2 ^ ni)).toInt64 &&& 63)) - 1)) hx hb hr (fun t_9 ht_9 hW_9 => ⟨((1 <<< ((nI (2 ^ ni)).toInt64 &&& 63)) - 1), rfl, (by rw [maskW, if_neg (by omega)]), ht_9⟩) (fun q h => nomatch h) dX5_there_22
  · skip
    rw [zc_le (by omega) (by omega)] at c_5
    refine lv_ldc2 (v := (-1)) hx hb hown (hts (.constantLong RX5 118 (-1)) (by decide +kernel)) dX5_there_8 ?_
    refine lv_goto (tgt := 22) hx hb dX5_there_11 (by decide) ?_
    exact W.lret (v := (-1)) hx hb hr (fun t_9 ht_9 hW_9 => ⟨(-1), rfl, (by rw [maskW, if_pos (by omega)]), ht_9⟩) (fun q h => nomatch h) dX5_there_22

set_option maxHeartbeats 4000000 in
set_option maxRecDepth 100000 in
theorem c_X5_firstOf (l : Launch) (x : Int64) (hx0 : ¬ x = 0) : Met l yX5_firstOf wsX5_firstOf ({ frames := 0, cells := 0, slots := 0, locals := 0 } : Room) (va_Pc [.long x] (fun _ => True)) (vp_Si (fun r_9 : Int32 => r_9 = (nI (lowN x)))) 0 0 (fun _ => False) := by
  refine Met.ofW (cc := cX5_firstOf) (maxL := 3) (ret := (some .int)) (by decide) rfl ?_
  intro p e s m args below meth c s₁ B hml hv
  obtain ⟨rfl, -⟩ := hv
  have hx := B.exec
  have hb := B.bytes
  have hr := B.returns
  have hts := atoms_spec (ws := wsX5_firstOf) B.pre
  have hown : s.vm.findClass RX5 = some m.cls := findClass_of_methodNamed B.named
  have hlocks := B.notSynchronized
  have hl := lv_entry ([.long x]) (n := 3) (Nat.le_of_ble_eq_true rfl)
  rw [lg_entry_eq]
  generalize (lg_sl ([.long x]) ++ List.replicate (3 - (lg_sl ([.long x])).length) Slot.unset).toArray = ls at hl ⊢
  have hl : lv_has ls 3 [(0, .long x)] := hl
  refine lv_iconst (v := (nI 0)) hx hb dX5_firstOf_0 (by decide) ?_
  refine lv_istore_n (lv' := [(2, .int (nI 0)), (0, .long x)]) hx hb dX5_firstOf_1 rfl hl (by decide) rfl (fun ls hl => ?_)
  have loop2 : ∀ (n2 : Nat) (k : Nat) (hk : k < 64) (hz : ∀ j, j < k → bitB x j = false), 64 - k < n2 → ∀ (ls : Array Slot), lv_has ls 3 [(0, .long x), (2, .int (nI k))] → W p l e (headSpec wsX5_firstOf ({ frames := 0, cells := 0, slots := 0, locals := 0 } : Room)).room s m ([.long x] : List Value).toArray below meth c s.heap [] 0 0 (MQ below (vp_Si (fun r_9 : Int32 => r_9 = (nI (lowN x)))) ([.long x] : List Value).toArray s 0 0 (fun _ => False)) (F0 m 2 ls []) := by
    intro n2
    induction n2 with
    | zero => intro k hk hz hm; exact absurd hm (Nat.not_lt_zero _)
    | succ n2 ih2 =>
      intro k hk hz hm2 ls hl
      refine lv_lload_n hx hb dX5_firstOf_2 rfl (lv_at hl 0 rfl) ?_
      refine lv_iload_n hx hb dX5_firstOf_3 rfl (lv_at hl 1 rfl) ?_
      refine lv_lshr hx hb dX5_firstOf_4 rfl ?_
      refine lv_lconst (v := 1) hx hb dX5_firstOf_5 (by decide) ?_
      refine lv_land hx hb dX5_firstOf_6 ?_
      refine lv_lconst (v := 0) hx hb dX5_firstOf_7 (by decide) ?_
      refine W.lcmp hx hb dX5_firstOf_8 ?_
      refine lv_if_ne (tgt := 18) hx hb dX5_firstOf_9 (by decide) (fun c_9 => ?_) (fun c_9 => ?_)
      · skip
        rw [zc_lcmp] at c_9
        refine lv_iload_n hx hb dX5_firstOf_18 rfl (lv_at hl 1 rfl) ?_
        exact W.iret (v := (nI k)) hx hb hr (fun t_9 ht_9 hW_9 => ⟨(nI k), rfl, (congrArg nI (lowN_eq hk (by cases e : bitB x k; exact absurd ((sh0 hk).mpr e) c_9; rfl) hz).symm), ht_9⟩) (fun q h => nomatch h) dX5_firstOf_19
      · skip
        rw [zc_lcmp] at c_9
        refine lv_iinc (v := (nI (k + 1))) (lv' := [(2, .int (nI (k + 1))), (0, .long x)]) hx hb dX5_firstOf_12 hl (k := 1) rfl (nI_add _ 1) (by decide) rfl (fun ls hl => ?_)
        refine lv_goto (tgt := 2) hx hb dX5_firstOf_15 (by decide) ?_
        exact ih2 (k + 1) (by rcases Nat.lt_or_ge (k + 1) 64 with h | h; exact h; obtain ⟨j, h1, h2⟩ := bitB_ex hx0; by_cases e : j = k; rw [e, (sh0 hk).mp c_9] at h2; cases h2; rw [hz j (by omega)] at h2; cases h2) (fun j h => by by_cases e : j = k; rw [e]; exact (sh0 hk).mp c_9; exact hz j (by omega)) (by omega) ls (lv_sub hl [1, 0] rfl)
  exact loop2 ((64 - 0) + 1) 0 (by decide) (fun j h => absurd h (Nat.not_lt_zero _)) (Nat.lt_succ_self _) ls (lv_sub hl [1, 0] rfl)

set_option maxHeartbeats 4000000 in
set_option maxRecDepth 100000 in
theorem c_X5_showing (l : Launch) (D : va_G) (cI cJ cZ : ClassId) (qm : Nat) (mk : Nat) (m0 : Nat) (m1 : Nat) (mi : Nat) (mo : Nat) (ml : Nat) (mf : Nat) (ma : Nat) (mfd : Nat) (mts : Nat) (mg : Nat) (mb : Nat) (cd : Int32) (n : Nat) (ni : Nat) (no : Nat) (cl : Nat) (tc : Nat) (kd : Nat → Int32) (s0 : Nat → Int32) (s1 : Nat → Int32) (io : Nat → Int32) (on : Nat → Int32) (gd : Nat → Int64) (bd : Nat → Int64) (vl : Nat → Int64) (f : Nat) (w : Nat) (sz : Nat) (A : Nat → Prop) (hAe : A = va_A [(qm, .inr (5, [.int cd, .int (nI n), .int (nI ni), .int (nI no), .ref mk, .ref m0, .ref m1, .ref mi, .ref mo, .ref ml, .ref mf, .ref ma, .int (nI cl), .ref mfd, .ref mts, .int (nI tc), .ref mg, .ref mb])), (mk, .inl (cI, 100, .inl kd)), (m0, .inl (cI, 100, .inl s0)), (m1, .inl (cI, 100, .inl s1)), (mi, .inl (cI, 100, .inl io)), (mo, .inl (cI, 12, .inl on)), (mg, .inl (cJ, 100, .inr (.inl gd))), (mb, .inl (cJ, 100, .inr (.inl bd)))] sz) (hn : n ≤ 100) (hno : no ≤ 12) (hwf : WF n kd s0 s1) (hwo : WO n no on) (hkd : KD n kd) (hio : IOK n kd io) (hV : VOK n kd s0 s1 io vl) (hni : ni ≤ 10) (hnet : f / 6 < n) (hline : f % 6 / 2 = 0 ∨ ¬ kd (f / 6) = (-1)) (hw : w < 16) : Met l yX5_showing wsX5_showing ({ frames := 2, cells := 0, slots := 0, locals := 55 } : Room) (va_Pc [.ref qm, .int (nI f), .int (nI w)] (PW D cI cJ cZ [(qm, .inr (5, [.int cd, .int (nI n), .int (nI ni), .int (nI no), .ref mk, .ref m0, .ref m1, .ref mi, .ref mo, .ref ml, .ref mf, .ref ma, .int (nI cl), .ref mfd, .ref mts, .int (nI tc), .ref mg, .ref mb])), (mk, .inl (cI, 100, .inl kd)), (m0, .inl (cI, 100, .inl s0)), (m1, .inl (cI, 100, .inl s1)), (mi, .inl (cI, 100, .inl io)), (mo, .inl (cI, 12, .inl on)), (mg, .inl (cJ, 100, .inr (.inl gd))), (mb, .inl (cJ, 100, .inr (.inl bd)))] sz)) (va_Ql (fun (r_9 : Int64) (u9 : (Nat → Int64) × (Nat → Int64)) => match u9 with | (gd2, bd2) => r_9 = (shw kd s0 s1 on vl n ni no f w)) (fun (u9 : (Nat → Int64) × (Nat → Int64)) t => match u9 with | (gd2, bd2) => PQ D A [(qm, .inr (5, [.int cd, .int (nI n), .int (nI ni), .int (nI no), .ref mk, .ref m0, .ref m1, .ref mi, .ref mo, .ref ml, .ref mf, .ref ma, .int (nI cl), .ref mfd, .ref mts, .int (nI tc), .ref mg, .ref mb])), (mk, .inl (cI, 100, .inl kd)), (m0, .inl (cI, 100, .inl s0)), (m1, .inl (cI, 100, .inl s1)), (mi, .inl (cI, 100, .inl io)), (mo, .inl (cI, 12, .inl on)), (mg, .inl (cJ, 100, .inr (.inl gd2))), (mb, .inl (cJ, 100, .inr (.inl bd2)))] t) A) 0 0 A := by
  refine Met.ofW (cc := cX5_showing) (maxL := 6) (ret := (some .long)) (by decide) rfl ?_
  intro p e s m args below meth c s₁ B hml hv
  obtain ⟨rfl, hsz, ⟨hP, hK, hNB⟩, hD0⟩ := hv
  have hx := B.exec
  have hb := B.bytes
  have hr := B.returns
  have hts := atoms_spec (ws := wsX5_showing) B.pre
  have hown : s.vm.findClass RX5 = some m.cls := findClass_of_methodNamed B.named
  have hlocks := B.notSynchronized
  have hiX5 : ∀ w ∈ u_ws RX5 TX5 18, w ∈ wsX5_showing := by decide +kernel
  subst hsz
  have hD : va_D A [(qm, .inr (5, [.int cd, .int (nI n), .int (nI ni), .int (nI no), .ref mk, .ref m0, .ref m1, .ref mi, .ref mo, .ref ml, .ref mf, .ref ma, .int (nI cl), .ref mfd, .ref mts, .int (nI tc), .ref mg, .ref mb])), (mk, .inl (cI, 100, .inl kd)), (m0, .inl (cI, 100, .inl s0)), (m1, .inl (cI, 100, .inl s1)), (mi, .inl (cI, 100, .inl io)), (mo, .inl (cI, 12, .inl on)), (mg, .inl (cJ, 100, .inr (.inl gd))), (mb, .inl (cJ, 100, .inr (.inl bd)))] := by rw [hAe]; exact hD0.self
  have hA : ∀ q : Nat, s.heap.size ≤ q → A q := fun q h => by rw [hAe]; exact Or.inr h
  have hS : va_S A s.heap s.heap [] := va_S.rf
  have hl := lv_entry ([.ref qm, .int (nI f), .int (nI w)]) (n := 6) (Nat.le_of_ble_eq_true rfl)
  rw [lg_entry_eq]
  generalize (lg_sl ([.ref qm, .int (nI f), .int (nI w)]) ++ List.replicate (6 - (lg_sl ([.ref qm, .int (nI f), .int (nI w)])).length) Slot.unset).toArray = ls at hl ⊢
  have hl : lv_has ls 6 [(0, .ref qm), (1, .int (nI f)), (2, .int (nI w))] := hl
  refine lv_aload_n hx hb dX5_showing_0 rfl (lv_at hl 0 rfl) ?_
  refine lv_aload_n hx hb dX5_showing_1 rfl (lv_at hl 0 rfl) ?_
  refine va_get (D := D) (ci := 5) (v := .ref mg) (C := RX5) (T := TX5) (N := 18) hx hb hts hiX5 hown hK hP 0 rfl rfl 16 (by decide) (hts (.fieldLink RX5 41 "FaultSearchModel" "good" "[J") (by decide +kernel)) (fun _ h9 => h9) rfl dX5_showing_2 ?_
  refine lv_iload_n hx hb dX5_showing_5 rfl (lv_at hl 2 rfl) ?_
  refine lv_iconst (v := (-1)) hx hb dX5_showing_6 (by decide) ?_
  have hPc := hP.sub (ws' := [(qm, .inr (5, [.int cd, .int (nI n), .int (nI ni), .int (nI no), .ref mk, .ref m0, .ref m1, .ref mi, .ref mo, .ref ml, .ref mf, .ref ma, .int (nI cl), .ref mfd, .ref mts, .int (nI tc), .ref mg, .ref mb])), (mk, .inl (cI, 100, .inl kd)), (m0, .inl (cI, 100, .inl s0)), (m1, .inl (cI, 100, .inl s1)), (mi, .inl (cI, 100, .inl io)), (mg, .inl (cJ, 100, .inr (.inl gd)))]) [0, 1, 2, 3, 4, 6] rfl
  have hDc := hD.sub (ws' := [(qm, .inr (5, [.int cd, .int (nI n), .int (nI ni), .int (nI no), .ref mk, .ref m0, .ref m1, .ref mi, .ref mo, .ref ml, .ref mf, .ref ma, .int (nI cl), .ref mfd, .ref mts, .int (nI tc), .ref mg, .ref mb])), (mk, .inl (cI, 100, .inl kd)), (m0, .inl (cI, 100, .inl s0)), (m1, .inl (cI, 100, .inl s1)), (mi, .inl (cI, 100, .inl io)), (mg, .inl (cJ, 100, .inr (.inl gd)))]) [0, 1, 2, 3, 4, 6] (by decide) rfl
  have hFc := va_free (wc := [(qm, .inr (5, [.int cd, .int (nI n), .int (nI ni), .int (nI no), .ref mk, .ref m0, .ref m1, .ref mi, .ref mo, .ref ml, .ref mf, .ref ma, .int (nI cl), .ref mfd, .ref mts, .int (nI tc), .ref mg, .ref mb])), (mk, .inl (cI, 100, .inl kd)), (m0, .inl (cI, 100, .inl s0)), (m1, .inl (cI, 100, .inl s1)), (mi, .inl (cI, 100, .inl io)), (mg, .inl (cJ, 100, .inr (.inl gd)))]) hD hS hA [0, 1, 2, 3, 4, 6] rfl
  refine va_callv (va_runV (As := [.ref mg, .int (nI w), .int (-1)]) (rest := []) ⟨hx, hb, hml, hown, hts⟩ (c_X5_tellG l D cI cJ cZ qm mk m0 m1 mi mo ml mf ma mfd mts mg mb cd n ni no cl tc kd s0 s1 io mg gd w (fun j => vl (w * 100 + j)) s.heap.size _ rfl (by omega) hwf hkd hio (by omega) (hV w (by omega))) (cwV 3 hts gX5_showing_X5_tell rfl rfl rfl (by decide +kernel) ⟨Nat.le_of_ble_eq_true rfl, Nat.le_of_ble_eq_true rfl⟩) ⟨PW.blind, va_recv hK hPc (ci := 5) (q0 := 0) rfl rfl, fun U hU hW => ⟨rfl, PW.to hPc hK hNB hDc hU hW⟩⟩ rfl rfl hl.1 rfl (lv_room (Nat.le_of_ble_eq_true rfl)) dX5_showing_7 ⟨Nat.le_of_ble_eq_true rfl, Nat.le_of_ble_eq_true rfl⟩) hS (fun q _ h => hFc q h) hFc (fun u_9 t_9 H1_9 locs ht_9 hvm_9 hw_9 hB_9 hz1_9 hk1_9 hS => ?_)
  obtain ⟨tv2_2, rfl⟩ : ∃ z, z = u_9 := ⟨_, rfl⟩
  obtain ⟨hP1_9, hD1_9⟩ := hB_9
  rw [ht_9] at hP1_9
  have k_T := hw_9
  have k_T : ∀ j, j < n → tv2_2 j = (fun j => vl (w * 100 + j)) j := k_T
  obtain ⟨hP, hD⟩ := va_join (wr := [(mo, .inl (cI, 12, .inl on)), (mb, .inl (cJ, 100, .inr (.inl bd)))]) (w1 := [(qm, .inr (5, [.int cd, .int (nI n), .int (nI ni), .int (nI no), .ref mk, .ref m0, .ref m1, .ref mi, .ref mo, .ref ml, .ref mf, .ref ma, .int (nI cl), .ref mfd, .ref mts, .int (nI tc), .ref mg, .ref mb])), (mk, .inl (cI, 100, .inl kd)), (m0, .inl (cI, 100, .inl s0)), (m1, .inl (cI, 100, .inl s1)), (mi, .inl (cI, 100, .inl io)), (mg, .inl (cJ, 100, .inr (.inl tv2_2)))]) hP hD [0, 1, 2, 3, 4, 6] [5, 7] rfl rfl (by decide) (by decide) hk1_9 hFc hP1_9 hD1_9
  have hP := hP.sub (ws' := [(qm, .inr (5, [.int cd, .int (nI n), .int (nI ni), .int (nI no), .ref mk, .ref m0, .ref m1, .ref mi, .ref mo, .ref ml, .ref mf, .ref ma, .int (nI cl), .ref mfd, .ref mts, .int (nI tc), .ref mg, .ref mb])), (mk, .inl (cI, 100, .inl kd)), (m0, .inl (cI, 100, .inl s0)), (m1, .inl (cI, 100, .inl s1)), (mi, .inl (cI, 100, .inl io)), (mo, .inl (cI, 12, .inl on)), (mg, .inl (cJ, 100, .inr (.inl tv2_2))), (mb, .inl (cJ, 100, .inr (.inl bd)))]) [2, 3, 4, 5, 6, 0, 7, 1] rfl
  have hD := hD.sub (ws' := [(qm, .inr (5, [.int cd, .int (nI n), .int (nI ni), .int (nI no), .ref mk, .ref m0, .ref m1, .ref mi, .ref mo, .ref ml, .ref mf, .ref ma, .int (nI cl), .ref mfd, .ref mts, .int (nI tc), .ref mg, .ref mb])), (mk, .inl (cI, 100, .inl kd)), (m0, .inl (cI, 100, .inl s0)), (m1, .inl (cI, 100, .inl s1)), (mi, .inl (cI, 100, .inl io)), (mo, .inl (cI, 12, .inl on)), (mg, .inl (cJ, 100, .inr (.inl tv2_2))), (mb, .inl (cJ, 100, .inr (.inl bd)))]) [2, 3, 4, 5, 6, 0, 7, 1] (by decide) rfl
  generalize H1_9 = H at hP hS ⊢
  have hP : va_P D vwCl [(qm, .inr (5, [.int cd, .int (nI n), .int (nI ni), .int (nI no), .ref mk, .ref m0, .ref m1, .ref mi, .ref mo, .ref ml, .ref mf, .ref ma, .int (nI cl), .ref mfd, .ref mts, .int (nI tc), .ref mg, .ref mb])), (mk, .inl (cI, 100, .inl kd)), (m0, .inl (cI, 100, .inl s0)), (m1, .inl (cI, 100, .inl s1)), (mi, .inl (cI, 100, .inl io)), (mo, .inl (cI, 12, .inl on)), (mg, .inl (cJ, 100, .inr (.inl tv2_2))), (mb, .inl (cJ, 100, .inr (.inl bd)))] H := hP
  have hD : va_D A [(qm, .inr (5, [.int cd, .int (nI n), .int (nI ni), .int (nI no), .ref mk, .ref m0, .ref m1, .ref mi, .ref mo, .ref ml, .ref mf, .ref ma, .int (nI cl), .ref mfd, .ref mts, .int (nI tc), .ref mg, .ref mb])), (mk, .inl (cI, 100, .inl kd)), (m0, .inl (cI, 100, .inl s0)), (m1, .inl (cI, 100, .inl s1)), (mi, .inl (cI, 100, .inl io)), (mo, .inl (cI, 12, .inl on)), (mg, .inl (cJ, 100, .inr (.inl tv2_2))), (mb, .inl (cJ, 100, .inr (.inl bd)))] := hD
  refine lv_aload_n hx hb dX5_showing_10 rfl (lv_at hl 0 rfl) ?_
  refine lv_aload_n hx hb dX5_showing_11 rfl (lv_at hl 0 rfl) ?_
  refine va_get (D := D) (ci := 5) (v := .ref mb) (C := RX5) (T := TX5) (N := 18) hx hb hts hiX5 hown hK hP 0 rfl rfl 17 (by decide) (hts (.fieldLink RX5 45 "FaultSearchModel" "bad" "[J") (by decide +kernel)) (fun _ h9 => h9) rfl dX5_showing_12 ?_
  refine lv_iload_n hx hb dX5_showing_15 rfl (lv_at hl 2 rfl) ?_
  refine lv_iload_n hx hb dX5_showing_16 rfl (lv_at hl 1 rfl) ?_
  have hTG := k_T
  have hPc := hP.sub (ws' := [(qm, .inr (5, [.int cd, .int (nI n), .int (nI ni), .int (nI no), .ref mk, .ref m0, .ref m1, .ref mi, .ref mo, .ref ml, .ref mf, .ref ma, .int (nI cl), .ref mfd, .ref mts, .int (nI tc), .ref mg, .ref mb])), (mk, .inl (cI, 100, .inl kd)), (m0, .inl (cI, 100, .inl s0)), (m1, .inl (cI, 100, .inl s1)), (mi, .inl (cI, 100, .inl io)), (mb, .inl (cJ, 100, .inr (.inl bd)))]) [0, 1, 2, 3, 4, 7] rfl
  have hDc := hD.sub (ws' := [(qm, .inr (5, [.int cd, .int (nI n), .int (nI ni), .int (nI no), .ref mk, .ref m0, .ref m1, .ref mi, .ref mo, .ref ml, .ref mf, .ref ma, .int (nI cl), .ref mfd, .ref mts, .int (nI tc), .ref mg, .ref mb])), (mk, .inl (cI, 100, .inl kd)), (m0, .inl (cI, 100, .inl s0)), (m1, .inl (cI, 100, .inl s1)), (mi, .inl (cI, 100, .inl io)), (mb, .inl (cJ, 100, .inr (.inl bd)))]) [0, 1, 2, 3, 4, 7] (by decide) rfl
  have hFc := va_free (wc := [(qm, .inr (5, [.int cd, .int (nI n), .int (nI ni), .int (nI no), .ref mk, .ref m0, .ref m1, .ref mi, .ref mo, .ref ml, .ref mf, .ref ma, .int (nI cl), .ref mfd, .ref mts, .int (nI tc), .ref mg, .ref mb])), (mk, .inl (cI, 100, .inl kd)), (m0, .inl (cI, 100, .inl s0)), (m1, .inl (cI, 100, .inl s1)), (mi, .inl (cI, 100, .inl io)), (mb, .inl (cJ, 100, .inr (.inl bd)))]) hD hS hA [0, 1, 2, 3, 4, 7] rfl
  refine va_callv (va_runV (As := [.ref mb, .int (nI w), .int (nI f)]) (rest := []) ⟨hx, hb, hml, hown, hts⟩ (c_X5_tellB l D cI cJ cZ qm mk m0 m1 mi mo ml mf ma mfd mts mg mb cd n ni no cl tc kd s0 s1 io mb bd w f (badF kd s0 s1 vl w f) H.size _ rfl (by omega) hwf hkd hio (by omega) (by omega) (badF_ok hwf (hV w (by omega)) hnet hline)) (cwV 3 hts gX5_showing_X5_tell rfl rfl rfl (by decide +kernel) ⟨Nat.le_of_ble_eq_true rfl, Nat.le_of_ble_eq_true rfl⟩) ⟨PW.blind, va_recv hK hPc (ci := 5) (q0 := 0) rfl rfl, fun U hU hW => ⟨rfl, PW.to hPc hK hNB hDc hU hW⟩⟩ rfl rfl hl.1 rfl (lv_room (Nat.le_of_ble_eq_true rfl)) dX5_showing_17 ⟨Nat.le_of_ble_eq_true rfl, Nat.le_of_ble_eq_true rfl⟩) hS (fun q _ h => hFc q h) hFc (fun u_9 t_9 H1_9 locs ht_9 hvm_9 hw_9 hB_9 hz1_9 hk1_9 hS => ?_)
  obtain ⟨tv2_4, rfl⟩ : ∃ z, z = u_9 := ⟨_, rfl⟩
  obtain ⟨hP1_9, hD1_9⟩ := hB_9
  rw [ht_9] at hP1_9
  have k_T := hw_9
  have k_T : ∀ j, j < n → tv2_4 j = (badF kd s0 s1 vl w f) j := k_T
  obtain ⟨hP, hD⟩ := va_join (wr := [(mo, .inl (cI, 12, .inl on)), (mg, .inl (cJ, 100, .inr (.inl tv2_2)))]) (w1 := [(qm, .inr (5, [.int cd, .int (nI n), .int (nI ni), .int (nI no), .ref mk, .ref m0, .ref m1, .ref mi, .ref mo, .ref ml, .ref mf, .ref ma, .int (nI cl), .ref mfd, .ref mts, .int (nI tc), .ref mg, .ref mb])), (mk, .inl (cI, 100, .inl kd)), (m0, .inl (cI, 100, .inl s0)), (m1, .inl (cI, 100, .inl s1)), (mi, .inl (cI, 100, .inl io)), (mb, .inl (cJ, 100, .inr (.inl tv2_4)))]) hP hD [0, 1, 2, 3, 4, 7] [5, 6] rfl rfl (by decide) (by decide) hk1_9 hFc hP1_9 hD1_9
  have hP := hP.sub (ws' := [(qm, .inr (5, [.int cd, .int (nI n), .int (nI ni), .int (nI no), .ref mk, .ref m0, .ref m1, .ref mi, .ref mo, .ref ml, .ref mf, .ref ma, .int (nI cl), .ref mfd, .ref mts, .int (nI tc), .ref mg, .ref mb])), (mk, .inl (cI, 100, .inl kd)), (m0, .inl (cI, 100, .inl s0)), (m1, .inl (cI, 100, .inl s1)), (mi, .inl (cI, 100, .inl io)), (mo, .inl (cI, 12, .inl on)), (mg, .inl (cJ, 100, .inr (.inl tv2_2))), (mb, .inl (cJ, 100, .inr (.inl tv2_4)))]) [2, 3, 4, 5, 6, 0, 1, 7] rfl
  have hD := hD.sub (ws' := [(qm, .inr (5, [.int cd, .int (nI n), .int (nI ni), .int (nI no), .ref mk, .ref m0, .ref m1, .ref mi, .ref mo, .ref ml, .ref mf, .ref ma, .int (nI cl), .ref mfd, .ref mts, .int (nI tc), .ref mg, .ref mb])), (mk, .inl (cI, 100, .inl kd)), (m0, .inl (cI, 100, .inl s0)), (m1, .inl (cI, 100, .inl s1)), (mi, .inl (cI, 100, .inl io)), (mo, .inl (cI, 12, .inl on)), (mg, .inl (cJ, 100, .inr (.inl tv2_2))), (mb, .inl (cJ, 100, .inr (.inl tv2_4)))]) [2, 3, 4, 5, 6, 0, 1, 7] (by decide) rfl
  generalize H1_9 = H at hP hS ⊢
  have hP : va_P D vwCl [(qm, .inr (5, [.int cd, .int (nI n), .int (nI ni), .int (nI no), .ref mk, .ref m0, .ref m1, .ref mi, .ref mo, .ref ml, .ref mf, .ref ma, .int (nI cl), .ref mfd, .ref mts, .int (nI tc), .ref mg, .ref mb])), (mk, .inl (cI, 100, .inl kd)), (m0, .inl (cI, 100, .inl s0)), (m1, .inl (cI, 100, .inl s1)), (mi, .inl (cI, 100, .inl io)), (mo, .inl (cI, 12, .inl on)), (mg, .inl (cJ, 100, .inr (.inl tv2_2))), (mb, .inl (cJ, 100, .inr (.inl tv2_4)))] H := hP
  have hD : va_D A [(qm, .inr (5, [.int cd, .int (nI n), .int (nI ni), .int (nI no), .ref mk, .ref m0, .ref m1, .ref mi, .ref mo, .ref ml, .ref mf, .ref ma, .int (nI cl), .ref mfd, .ref mts, .int (nI tc), .ref mg, .ref mb])), (mk, .inl (cI, 100, .inl kd)), (m0, .inl (cI, 100, .inl s0)), (m1, .inl (cI, 100, .inl s1)), (mi, .inl (cI, 100, .inl io)), (mo, .inl (cI, 12, .inl on)), (mg, .inl (cJ, 100, .inr (.inl tv2_2))), (mb, .inl (cJ, 100, .inr (.inl tv2_4)))] := hD
  have hTB := k_T
  refine lv_lconst (v := 0) hx hb dX5_showing_20 (by decide) ?_
  refine lv_lstore_n (lv' := [(3, .long 0), (0, .ref qm), (1, .int (nI f)), (2, .int (nI w))]) hx hb dX5_showing_21 rfl hl (by decide) rfl (fun ls hl => ?_)
  refine lv_iconst (v := (nI 0)) hx hb dX5_showing_22 (by decide) ?_
  refine lv_istore (lv' := [(5, .int (nI 0)), (3, .long 0), (0, .ref qm), (1, .int (nI f)), (2, .int (nI w))]) hx hb dX5_showing_23 hl (by decide) rfl (fun ls hl => ?_)
  have loop25 : ∀ (n25 : Nat) (o : Nat) (ac : Int64) (ho : o ≤ no) (hac : ac = shO (fun j => vl (w * 100 + j)) (badF kd s0 s1 vl w f) on o), no - o < n25 → ∀ (H : Heap) (locs : List Loc), va_P D vwCl [(qm, .inr (5, [.int cd, .int (nI n), .int (nI ni), .int (nI no), .ref mk, .ref m0, .ref m1, .ref mi, .ref mo, .ref ml, .ref mf, .ref ma, .int (nI cl), .ref mfd, .ref mts, .int (nI tc), .ref mg, .ref mb])), (mk, .inl (cI, 100, .inl kd)), (m0, .inl (cI, 100, .inl s0)), (m1, .inl (cI, 100, .inl s1)), (mi, .inl (cI, 100, .inl io)), (mo, .inl (cI, 12, .inl on)), (mg, .inl (cJ, 100, .inr (.inl tv2_2))), (mb, .inl (cJ, 100, .inr (.inl tv2_4)))] H → va_D A [(qm, .inr (5, [.int cd, .int (nI n), .int (nI ni), .int (nI no), .ref mk, .ref m0, .ref m1, .ref mi, .ref mo, .ref ml, .ref mf, .ref ma, .int (nI cl), .ref mfd, .ref mts, .int (nI tc), .ref mg, .ref mb])), (mk, .inl (cI, 100, .inl kd)), (m0, .inl (cI, 100, .inl s0)), (m1, .inl (cI, 100, .inl s1)), (mi, .inl (cI, 100, .inl io)), (mo, .inl (cI, 12, .inl on)), (mg, .inl (cJ, 100, .inr (.inl tv2_2))), (mb, .inl (cJ, 100, .inr (.inl tv2_4)))] → va_S A s.heap H locs → ∀ (ls : Array Slot), lv_has ls 6 [(0, .ref qm), (1, .int (nI f)), (2, .int (nI w)), (3, .long ac), (5, .int (nI o))] → W p l e (headSpec wsX5_showing ({ frames := 2, cells := 0, slots := 0, locals := 55 } : Room)).room s m ([.ref qm, .int (nI f), .int (nI w)] : List Value).toArray below meth c H locs 0 0 (MQ below (va_Ql (fun (r_9 : Int64) (u9 : (Nat → Int64) × (Nat → Int64)) => match u9 with | (gd2, bd2) => r_9 = (shw kd s0 s1 on vl n ni no f w)) (fun (u9 : (Nat → Int64) × (Nat → Int64)) t => match u9 with | (gd2, bd2) => PQ D A [(qm, .inr (5, [.int cd, .int (nI n), .int (nI ni), .int (nI no), .ref mk, .ref m0, .ref m1, .ref mi, .ref mo, .ref ml, .ref mf, .ref ma, .int (nI cl), .ref mfd, .ref mts, .int (nI tc), .ref mg, .ref mb])), (mk, .inl (cI, 100, .inl kd)), (m0, .inl (cI, 100, .inl s0)), (m1, .inl (cI, 100, .inl s1)), (mi, .inl (cI, 100, .inl io)), (mo, .inl (cI, 12, .inl on)), (mg, .inl (cJ, 100, .inr (.inl gd2))), (mb, .inl (cJ, 100, .inr (.inl bd2)))] t) A) ([.ref qm, .int (nI f), .int (nI w)] : List Value).toArray s 0 0 A) (F0 m 25 ls []) := by
    intro n25
    induction n25 with
    | zero => intro o ac ho hac hm; exact absurd hm (Nat.not_lt_zero _)
    | succ n25 ih25 =>
      intro o ac ho hac hm25 H locs hP hD hS ls hl
      refine lv_iload hx hb dX5_showing_25 (lv_at hl 4 rfl) ?_
      refine lv_aload_n hx hb dX5_showing_27 rfl (lv_at hl 0 rfl) ?_
      refine va_get (D := D) (ci := 5) (v := .int (nI no)) (C := RX5) (T := TX5) (N := 18) hx hb hts hiX5 hown hK hP 0 rfl rfl 3 (by decide) (hts (.fieldLink RX5 68 "FaultSearchModel" "outputs" "I") (by decide +kernel)) (fun _ h9 => h9) rfl dX5_showing_28 ?_
      refine lv_icmp_ge (tgt := 68) hx hb dX5_showing_31 (by decide) (fun c_31 => ?_) (fun c_31 => ?_)
      · skip
        rw [zc_le (by omega) (by omega)] at c_31
        refine lv_lload_n hx hb dX5_showing_68 rfl (lv_at hl 3 rfl) ?_
        refine lv_aload_n hx hb dX5_showing_69 rfl (lv_at hl 0 rfl) ?_
        have hPc := hP.sub (ws' := [(qm, .inr (5, [.int cd, .int (nI n), .int (nI ni), .int (nI no), .ref mk, .ref m0, .ref m1, .ref mi, .ref mo, .ref ml, .ref mf, .ref ma, .int (nI cl), .ref mfd, .ref mts, .int (nI tc), .ref mg, .ref mb]))]) [0] rfl
        refine vp_callSl (va_runV (As := []) (rest := [.long ac]) ⟨hx, hb, hml, hown, hts⟩ (c_X5_there l D cI cJ cZ qm mk m0 m1 mi mo ml mf ma mfd mts mg mb cd n ni no cl tc (by omega)) (cwV 0 hts gX5_showing_X5_there rfl rfl rfl (by decide +kernel) ⟨Nat.le_of_ble_eq_true rfl, Nat.le_of_ble_eq_true rfl⟩) ⟨PR.blind, va_recv hK hPc (ci := 5) (q0 := 0) rfl rfl, fun U hU hW => ⟨rfl, PR.to hPc hK hNB hU hW⟩⟩ rfl rfl hl.1 rfl (lv_room (Nat.le_of_ble_eq_true rfl)) dX5_showing_70 ⟨Nat.le_of_ble_eq_true rfl, Nat.le_of_ble_eq_true rfl⟩).run (fun r_5 hrr_5 => ?_)
        subst hrr_5
        refine lv_land hx hb dX5_showing_73 ?_
        exact W.lret (v := (ac &&& (maskW ni))) hx hb hr (fun t_9 ht_9 hW_9 => ⟨⟨(ac &&& (maskW ni)), (tv2_2, tv2_4), rfl, (show (ac &&& (maskW ni)) = (shw kd s0 s1 on vl n ni no f w) from (by rw [hac, show o = no by omega, shO_eff hwo _ (Nat.le_refl _)]; rfl)), ⟨by rw [ht_9]; exact hP, hD⟩⟩, hS.F ht_9⟩) hS.2.2 dX5_showing_74
      · skip
        rw [zc_le (by omega) (by omega)] at c_31
        refine lv_lload_n hx hb dX5_showing_34 rfl (lv_at hl 3 rfl) ?_
        refine lv_aload_n hx hb dX5_showing_35 rfl (lv_at hl 0 rfl) ?_
        refine va_get (D := D) (ci := 5) (v := .ref mg) (C := RX5) (T := TX5) (N := 18) hx hb hts hiX5 hown hK hP 0 rfl rfl 16 (by decide) (hts (.fieldLink RX5 41 "FaultSearchModel" "good" "[J") (by decide +kernel)) (fun _ h9 => h9) rfl dX5_showing_36 ?_
        refine lv_aload_n hx hb dX5_showing_39 rfl (lv_at hl 0 rfl) ?_
        refine va_get (D := D) (ci := 5) (v := .ref mo) (C := RX5) (T := TX5) (N := 18) hx hb hts hiX5 hown hK hP 0 rfl rfl 8 (by decide) (hts (.fieldLink RX5 22 "FaultSearchModel" "outs" "[I") (by decide +kernel)) (fun _ h9 => h9) rfl dX5_showing_40 ?_
        refine lv_iload hx hb dX5_showing_43 (lv_at hl 4 rfl) ?_
        refine zz_iald hx hb hK hP 5 0 rfl rfl (n := 12) (j := o) (by omega) (by decide) dX5_showing_45 ?_
        refine zz_i (z := (nI (cn (on o)))) (hwo o (by omega)).1 ?_
        refine zz_lald hx hb hK hP 6 1 rfl rfl (n := 100) (j := (cn (on o))) (by have := (hwo o (by omega)).2; omega) (by decide) dX5_showing_46 ?_
        refine lv_aload_n hx hb dX5_showing_47 rfl (lv_at hl 0 rfl) ?_
        refine va_get (D := D) (ci := 5) (v := .ref mb) (C := RX5) (T := TX5) (N := 18) hx hb hts hiX5 hown hK hP 0 rfl rfl 17 (by decide) (hts (.fieldLink RX5 45 "FaultSearchModel" "bad" "[J") (by decide +kernel)) (fun _ h9 => h9) rfl dX5_showing_48 ?_
        refine lv_aload_n hx hb dX5_showing_51 rfl (lv_at hl 0 rfl) ?_
        refine va_get (D := D) (ci := 5) (v := .ref mo) (C := RX5) (T := TX5) (N := 18) hx hb hts hiX5 hown hK hP 0 rfl rfl 8 (by decide) (hts (.fieldLink RX5 22 "FaultSearchModel" "outs" "[I") (by decide +kernel)) (fun _ h9 => h9) rfl dX5_showing_52 ?_
        refine lv_iload hx hb dX5_showing_55 (lv_at hl 4 rfl) ?_
        refine zz_iald hx hb hK hP 5 0 rfl rfl (n := 12) (j := o) (by omega) (by decide) dX5_showing_57 ?_
        refine zz_i (z := (nI (cn (on o)))) (hwo o (by omega)).1 ?_
        refine zz_lald hx hb hK hP 7 1 rfl rfl (n := 100) (j := (cn (on o))) (by have := (hwo o (by omega)).2; omega) (by decide) dX5_showing_58 ?_
        refine lv_lxor hx hb dX5_showing_59 ?_
        refine lv_lor hx hb dX5_showing_60 ?_
        refine lv_lstore_n (lv' := [(3, .long (ac ||| ((tv2_2 (cn (on o))) ^^^ (tv2_4 (cn (on o)))))), (0, .ref qm), (1, .int (nI f)), (2, .int (nI w)), (5, .int (nI o))]) hx hb dX5_showing_61 rfl hl (by decide) rfl (fun ls hl => ?_)
        refine lv_iinc (v := (nI (o + 1))) (lv' := [(5, .int (nI (o + 1))), (3, .long (ac ||| ((tv2_2 (cn (on o))) ^^^ (tv2_4 (cn (on o)))))), (0, .ref qm), (1, .int (nI f)), (2, .int (nI w))]) hx hb dX5_showing_62 hl (k := 4) rfl (nI_add _ 1) (by decide) rfl (fun ls hl => ?_)
        refine lv_goto (tgt := 25) hx hb dX5_showing_65 (by decide) ?_
        exact ih25 (o + 1) (ac ||| ((tv2_2 (cn (on o))) ^^^ (tv2_4 (cn (on o))))) (by omega) (by rw [hac, shO, hTG _ (hwo o (by omega)).2, hTB _ (hwo o (by omega)).2]) (by omega) _ _ hP hD hS ls (lv_sub hl [2, 3, 4, 1, 0] rfl)
  exact loop25 ((no - 0) + 1) 0 0 (Nat.zero_le _) rfl (Nat.lt_succ_self _) _ _ hP hD hS ls (lv_sub hl [2, 3, 4, 1, 0] rfl)

set_option maxHeartbeats 4000000 in
set_option maxRecDepth 100000 in
theorem c_X5_testOf (l : Launch) (D : va_G) (cI cJ cZ : ClassId) (qm : Nat) (mk : Nat) (m0 : Nat) (m1 : Nat) (mi : Nat) (mo : Nat) (ml : Nat) (mf : Nat) (ma : Nat) (mfd : Nat) (mts : Nat) (mg : Nat) (mb : Nat) (cd : Int32) (n : Nat) (ni : Nat) (no : Nat) (cl : Nat) (tc : Nat) (kd : Nat → Int32) (s0 : Nat → Int32) (s1 : Nat → Int32) (io : Nat → Int32) (on : Nat → Int32) (gd : Nat → Int64) (bd : Nat → Int64) (vl : Nat → Int64) (f : Nat) (sz : Nat) (A : Nat → Prop) (hAe : A = va_A [(qm, .inr (5, [.int cd, .int (nI n), .int (nI ni), .int (nI no), .ref mk, .ref m0, .ref m1, .ref mi, .ref mo, .ref ml, .ref mf, .ref ma, .int (nI cl), .ref mfd, .ref mts, .int (nI tc), .ref mg, .ref mb])), (mk, .inl (cI, 100, .inl kd)), (m0, .inl (cI, 100, .inl s0)), (m1, .inl (cI, 100, .inl s1)), (mi, .inl (cI, 100, .inl io)), (mo, .inl (cI, 12, .inl on)), (mg, .inl (cJ, 100, .inr (.inl gd))), (mb, .inl (cJ, 100, .inr (.inl bd)))] sz) (hn : n ≤ 100) (hno : no ≤ 12) (hwf : WF n kd s0 s1) (hwo : WO n no on) (hkd : KD n kd) (hio : IOK n kd io) (hV : VOK n kd s0 s1 io vl) (hni : ni ≤ 10) (hnet : f / 6 < n) (hline : f % 6 / 2 = 0 ∨ ¬ kd (f / 6) = (-1)) : Met l yX5_testOf wsX5_testOf ({ frames := 3, cells := 0, slots := 0, locals := 80 } : Room) (va_Pc [.ref qm, .int (nI f)] (PW D cI cJ cZ [(qm, .inr (5, [.int cd, .int (nI n), .int (nI ni), .int (nI no), .ref mk, .ref m0, .ref m1, .ref mi, .ref mo, .ref ml, .ref mf, .ref ma, .int (nI cl), .ref mfd, .ref mts, .int (nI tc), .ref mg, .ref mb])), (mk, .inl (cI, 100, .inl kd)), (m0, .inl (cI, 100, .inl s0)), (m1, .inl (cI, 100, .inl s1)), (mi, .inl (cI, 100, .inl io)), (mo, .inl (cI, 12, .inl on)), (mg, .inl (cJ, 100, .inr (.inl gd))), (mb, .inl (cJ, 100, .inr (.inl bd)))] sz)) (va_Qi (fun (r_9 : Int32) (u9 : (Nat → Int64) × (Nat → Int64)) => match u9 with | (gd2, bd2) => r_9 = (leastF (fun w => shw kd s0 s1 on vl n ni no f w) (wordsN ni) 0)) (fun (u9 : (Nat → Int64) × (Nat → Int64)) t => match u9 with | (gd2, bd2) => PQ D A [(qm, .inr (5, [.int cd, .int (nI n), .int (nI ni), .int (nI no), .ref mk, .ref m0, .ref m1, .ref mi, .ref mo, .ref ml, .ref mf, .ref ma, .int (nI cl), .ref mfd, .ref mts, .int (nI tc), .ref mg, .ref mb])), (mk, .inl (cI, 100, .inl kd)), (m0, .inl (cI, 100, .inl s0)), (m1, .inl (cI, 100, .inl s1)), (mi, .inl (cI, 100, .inl io)), (mo, .inl (cI, 12, .inl on)), (mg, .inl (cJ, 100, .inr (.inl gd2))), (mb, .inl (cJ, 100, .inr (.inl bd2)))] t) A) 0 0 A := by
  refine Met.ofW (cc := cX5_testOf) (maxL := 5) (ret := (some .int)) (by decide) rfl ?_
  intro p e s m args below meth c s₁ B hml hv
  obtain ⟨rfl, hsz, ⟨hP, hK, hNB⟩, hD0⟩ := hv
  have hx := B.exec
  have hb := B.bytes
  have hr := B.returns
  have hts := atoms_spec (ws := wsX5_testOf) B.pre
  have hown : s.vm.findClass RX5 = some m.cls := findClass_of_methodNamed B.named
  have hlocks := B.notSynchronized
  subst hsz
  have hD : va_D A [(qm, .inr (5, [.int cd, .int (nI n), .int (nI ni), .int (nI no), .ref mk, .ref m0, .ref m1, .ref mi, .ref mo, .ref ml, .ref mf, .ref ma, .int (nI cl), .ref mfd, .ref mts, .int (nI tc), .ref mg, .ref mb])), (mk, .inl (cI, 100, .inl kd)), (m0, .inl (cI, 100, .inl s0)), (m1, .inl (cI, 100, .inl s1)), (mi, .inl (cI, 100, .inl io)), (mo, .inl (cI, 12, .inl on)), (mg, .inl (cJ, 100, .inr (.inl gd))), (mb, .inl (cJ, 100, .inr (.inl bd)))] := by rw [hAe]; exact hD0.self
  have hA : ∀ q : Nat, s.heap.size ≤ q → A q := fun q h => by rw [hAe]; exact Or.inr h
  have hS : va_S A s.heap s.heap [] := va_S.rf
  have hl := lv_entry ([.ref qm, .int (nI f)]) (n := 5) (Nat.le_of_ble_eq_true rfl)
  rw [lg_entry_eq]
  generalize (lg_sl ([.ref qm, .int (nI f)]) ++ List.replicate (5 - (lg_sl ([.ref qm, .int (nI f)])).length) Slot.unset).toArray = ls at hl ⊢
  have hl : lv_has ls 5 [(0, .ref qm), (1, .int (nI f))] := hl
  have hw16 := wordsN_le hni
  refine lv_iconst (v := (nI 0)) hx hb dX5_testOf_0 (by decide) ?_
  refine lv_istore_n (lv' := [(2, .int (nI 0)), (0, .ref qm), (1, .int (nI f))]) hx hb dX5_testOf_1 rfl hl (by decide) rfl (fun ls hl => ?_)
  have loop2 : ∀ (n2 : Nat) (i : Nat) (g1 : Nat → Int64) (b1 : Nat → Int64) (hi : i ≤ wordsN ni) (hg : leastF (fun w => shw kd s0 s1 on vl n ni no f w) (wordsN ni) 0 = leastF (fun w => shw kd s0 s1 on vl n ni no f w) (wordsN ni - i) i), wordsN ni - i < n2 → ∀ (H : Heap) (locs : List Loc), va_P D vwCl [(qm, .inr (5, [.int cd, .int (nI n), .int (nI ni), .int (nI no), .ref mk, .ref m0, .ref m1, .ref mi, .ref mo, .ref ml, .ref mf, .ref ma, .int (nI cl), .ref mfd, .ref mts, .int (nI tc), .ref mg, .ref mb])), (mk, .inl (cI, 100, .inl kd)), (m0, .inl (cI, 100, .inl s0)), (m1, .inl (cI, 100, .inl s1)), (mi, .inl (cI, 100, .inl io)), (mo, .inl (cI, 12, .inl on)), (mg, .inl (cJ, 100, .inr (.inl g1))), (mb, .inl (cJ, 100, .inr (.inl b1)))] H → va_D A [(qm, .inr (5, [.int cd, .int (nI n), .int (nI ni), .int (nI no), .ref mk, .ref m0, .ref m1, .ref mi, .ref mo, .ref ml, .ref mf, .ref ma, .int (nI cl), .ref mfd, .ref mts, .int (nI tc), .ref mg, .ref mb])), (mk, .inl (cI, 100, .inl kd)), (m0, .inl (cI, 100, .inl s0)), (m1, .inl (cI, 100, .inl s1)), (mi, .inl (cI, 100, .inl io)), (mo, .inl (cI, 12, .inl on)), (mg, .inl (cJ, 100, .inr (.inl g1))), (mb, .inl (cJ, 100, .inr (.inl b1)))] → va_S A s.heap H locs → ∀ (ls : Array Slot), lv_has ls 5 [(0, .ref qm), (1, .int (nI f)), (2, .int (nI i))] → W p l e (headSpec wsX5_testOf ({ frames := 3, cells := 0, slots := 0, locals := 80 } : Room)).room s m ([.ref qm, .int (nI f)] : List Value).toArray below meth c H locs 0 0 (MQ below (va_Qi (fun (r_9 : Int32) (u9 : (Nat → Int64) × (Nat → Int64)) => match u9 with | (gd2, bd2) => r_9 = (leastF (fun w => shw kd s0 s1 on vl n ni no f w) (wordsN ni) 0)) (fun (u9 : (Nat → Int64) × (Nat → Int64)) t => match u9 with | (gd2, bd2) => PQ D A [(qm, .inr (5, [.int cd, .int (nI n), .int (nI ni), .int (nI no), .ref mk, .ref m0, .ref m1, .ref mi, .ref mo, .ref ml, .ref mf, .ref ma, .int (nI cl), .ref mfd, .ref mts, .int (nI tc), .ref mg, .ref mb])), (mk, .inl (cI, 100, .inl kd)), (m0, .inl (cI, 100, .inl s0)), (m1, .inl (cI, 100, .inl s1)), (mi, .inl (cI, 100, .inl io)), (mo, .inl (cI, 12, .inl on)), (mg, .inl (cJ, 100, .inr (.inl gd2))), (mb, .inl (cJ, 100, .inr (.inl bd2)))] t) A) ([.ref qm, .int (nI f)] : List Value).toArray s 0 0 A) (F0 m 2 ls []) := by
    intro n2
    induction n2 with
    | zero => intro i g1 b1 hi hg hm; exact absurd hm (Nat.not_lt_zero _)
    | succ n2 ih2 =>
      intro i g1 b1 hi hg hm2 H locs hP hD hS ls hl
      refine lv_iload_n hx hb dX5_testOf_2 rfl (lv_at hl 2 rfl) ?_
      refine lv_aload_n hx hb dX5_testOf_3 rfl (lv_at hl 0 rfl) ?_
      have hPc := hP.sub (ws' := [(qm, .inr (5, [.int cd, .int (nI n), .int (nI ni), .int (nI no), .ref mk, .ref m0, .ref m1, .ref mi, .ref mo, .ref ml, .ref mf, .ref ma, .int (nI cl), .ref mfd, .ref mts, .int (nI tc), .ref mg, .ref mb]))]) [0] rfl
      refine vp_callSi (va_runV (As := []) (rest := [.int (nI i)]) ⟨hx, hb, hml, hown, hts⟩ (c_X5_blocks l D cI cJ cZ qm mk m0 m1 mi mo ml mf ma mfd mts mg mb cd n ni no cl tc (by omega)) (cwV 0 hts gX5_testOf_X5_blocks rfl rfl rfl (by decide +kernel) ⟨Nat.le_of_ble_eq_true rfl, Nat.le_of_ble_eq_true rfl⟩) ⟨PR.blind, va_recv hK hPc (ci := 5) (q0 := 0) rfl rfl, fun U hU hW => ⟨rfl, PR.to hPc hK hNB hU hW⟩⟩ rfl rfl hl.1 rfl (lv_room (Nat.le_of_ble_eq_true rfl)) dX5_testOf_4 ⟨Nat.le_of_ble_eq_true rfl, Nat.le_of_ble_eq_true rfl⟩).run (fun r_1 hrr_1 => ?_)
      subst hrr_1
      refine lv_icmp_ge (tgt := 39) hx hb dX5_testOf_7 (by decide) (fun c_7 => ?_) (fun c_7 => ?_)
      · skip
        rw [zc_le (by omega) (by omega)] at c_7
        refine lv_iconst (v := (-1)) hx hb dX5_testOf_39 (by decide) ?_
        exact W.iret (v := (-1)) hx hb hr (fun t_9 ht_9 hW_9 => ⟨⟨(-1), (g1, b1), rfl, (show (-1) = (leastF (fun w => shw kd s0 s1 on vl n ni no f w) (wordsN ni) 0) from (hg.trans (leastF_end (by omega))).symm), ⟨by rw [ht_9]; exact hP, hD⟩⟩, hS.F ht_9⟩) hS.2.2 dX5_testOf_40
      · skip
        rw [zc_le (by omega) (by omega)] at c_7
        refine lv_aload_n hx hb dX5_testOf_10 rfl (lv_at hl 0 rfl) ?_
        refine lv_iload_n hx hb dX5_testOf_11 rfl (lv_at hl 1 rfl) ?_
        refine lv_iload_n hx hb dX5_testOf_12 rfl (lv_at hl 2 rfl) ?_
        have hPc := hP.sub (ws' := [(qm, .inr (5, [.int cd, .int (nI n), .int (nI ni), .int (nI no), .ref mk, .ref m0, .ref m1, .ref mi, .ref mo, .ref ml, .ref mf, .ref ma, .int (nI cl), .ref mfd, .ref mts, .int (nI tc), .ref mg, .ref mb])), (mk, .inl (cI, 100, .inl kd)), (m0, .inl (cI, 100, .inl s0)), (m1, .inl (cI, 100, .inl s1)), (mi, .inl (cI, 100, .inl io)), (mo, .inl (cI, 12, .inl on)), (mg, .inl (cJ, 100, .inr (.inl g1))), (mb, .inl (cJ, 100, .inr (.inl b1)))]) [0, 1, 2, 3, 4, 5, 6, 7] rfl
        have hDc := hD.sub (ws' := [(qm, .inr (5, [.int cd, .int (nI n), .int (nI ni), .int (nI no), .ref mk, .ref m0, .ref m1, .ref mi, .ref mo, .ref ml, .ref mf, .ref ma, .int (nI cl), .ref mfd, .ref mts, .int (nI tc), .ref mg, .ref mb])), (mk, .inl (cI, 100, .inl kd)), (m0, .inl (cI, 100, .inl s0)), (m1, .inl (cI, 100, .inl s1)), (mi, .inl (cI, 100, .inl io)), (mo, .inl (cI, 12, .inl on)), (mg, .inl (cJ, 100, .inr (.inl g1))), (mb, .inl (cJ, 100, .inr (.inl b1)))]) [0, 1, 2, 3, 4, 5, 6, 7] (by decide) rfl
        have hFc := va_free (wc := [(qm, .inr (5, [.int cd, .int (nI n), .int (nI ni), .int (nI no), .ref mk, .ref m0, .ref m1, .ref mi, .ref mo, .ref ml, .ref mf, .ref ma, .int (nI cl), .ref mfd, .ref mts, .int (nI tc), .ref mg, .ref mb])), (mk, .inl (cI, 100, .inl kd)), (m0, .inl (cI, 100, .inl s0)), (m1, .inl (cI, 100, .inl s1)), (mi, .inl (cI, 100, .inl io)), (mo, .inl (cI, 12, .inl on)), (mg, .inl (cJ, 100, .inr (.inl g1))), (mb, .inl (cJ, 100, .inr (.inl b1)))]) hD hS hA [0, 1, 2, 3, 4, 5, 6, 7] rfl
        refine va_calll (va_runV (As := [.int (nI f), .int (nI i)]) (rest := []) ⟨hx, hb, hml, hown, hts⟩ (c_X5_showing l D cI cJ cZ qm mk m0 m1 mi mo ml mf ma mfd mts mg mb cd n ni no cl tc kd s0 s1 io on g1 b1 vl f i H.size _ rfl (by omega) (by omega) hwf hwo hkd hio hV (by omega) hnet hline (by omega)) (cwV 2 hts gX5_testOf_X5_showing rfl rfl rfl (by decide +kernel) ⟨Nat.le_of_ble_eq_true rfl, Nat.le_of_ble_eq_true rfl⟩) ⟨PW.blind, va_recv hK hPc (ci := 5) (q0 := 0) rfl rfl, fun U hU hW => ⟨rfl, PW.to hPc hK hNB hDc hU hW⟩⟩ rfl rfl hl.1 rfl (lv_room (Nat.le_of_ble_eq_true rfl)) dX5_testOf_13 ⟨Nat.le_of_ble_eq_true rfl, Nat.le_of_ble_eq_true rfl⟩) hS (fun q _ h => hFc q h) hFc (fun r_2 u_9 t_9 H1_9 locs ht_9 hvm_9 hw_9 hB_9 hz1_9 hk1_9 hS => ?_)
        obtain ⟨gd2_3, bd2_4⟩ := u_9
        obtain ⟨hP1_9, hD1_9⟩ := hB_9
        rw [ht_9] at hP1_9
        obtain rfl := hw_9
        obtain ⟨hP, hD⟩ := va_join (wr := []) (w1 := [(qm, .inr (5, [.int cd, .int (nI n), .int (nI ni), .int (nI no), .ref mk, .ref m0, .ref m1, .ref mi, .ref mo, .ref ml, .ref mf, .ref ma, .int (nI cl), .ref mfd, .ref mts, .int (nI tc), .ref mg, .ref mb])), (mk, .inl (cI, 100, .inl kd)), (m0, .inl (cI, 100, .inl s0)), (m1, .inl (cI, 100, .inl s1)), (mi, .inl (cI, 100, .inl io)), (mo, .inl (cI, 12, .inl on)), (mg, .inl (cJ, 100, .inr (.inl gd2_3))), (mb, .inl (cJ, 100, .inr (.inl bd2_4)))]) hP hD [0, 1, 2, 3, 4, 5, 6, 7] [] rfl rfl (by decide) (by decide) hk1_9 hFc hP1_9 hD1_9
        generalize H1_9 = H at hP hS ⊢
        have hP : va_P D vwCl [(qm, .inr (5, [.int cd, .int (nI n), .int (nI ni), .int (nI no), .ref mk, .ref m0, .ref m1, .ref mi, .ref mo, .ref ml, .ref mf, .ref ma, .int (nI cl), .ref mfd, .ref mts, .int (nI tc), .ref mg, .ref mb])), (mk, .inl (cI, 100, .inl kd)), (m0, .inl (cI, 100, .inl s0)), (m1, .inl (cI, 100, .inl s1)), (mi, .inl (cI, 100, .inl io)), (mo, .inl (cI, 12, .inl on)), (mg, .inl (cJ, 100, .inr (.inl gd2_3))), (mb, .inl (cJ, 100, .inr (.inl bd2_4)))] H := hP
        have hD : va_D A [(qm, .inr (5, [.int cd, .int (nI n), .int (nI ni), .int (nI no), .ref mk, .ref m0, .ref m1, .ref mi, .ref mo, .ref ml, .ref mf, .ref ma, .int (nI cl), .ref mfd, .ref mts, .int (nI tc), .ref mg, .ref mb])), (mk, .inl (cI, 100, .inl kd)), (m0, .inl (cI, 100, .inl s0)), (m1, .inl (cI, 100, .inl s1)), (mi, .inl (cI, 100, .inl io)), (mo, .inl (cI, 12, .inl on)), (mg, .inl (cJ, 100, .inr (.inl gd2_3))), (mb, .inl (cJ, 100, .inr (.inl bd2_4)))] := hD
        refine lv_lstore_n (lv' := [(3, .long (shw kd s0 s1 on vl n ni no f i)), (0, .ref qm), (1, .int (nI f)), (2, .int (nI i))]) hx hb dX5_testOf_16 rfl hl (by decide) rfl (fun ls hl => ?_)
        refine lv_lload_n hx hb dX5_testOf_17 rfl (lv_at hl 0 rfl) ?_
        refine lv_lconst (v := 0) hx hb dX5_testOf_18 (by decide) ?_
        refine W.lcmp hx hb dX5_testOf_19 ?_
        refine lv_if_eq (tgt := 33) hx hb dX5_testOf_20 (by decide) (fun c_20 => ?_) (fun c_20 => ?_)
        · skip
          rw [zc_lcmp] at c_20
          refine lv_iinc (v := (nI (i + 1))) (lv' := [(2, .int (nI (i + 1))), (3, .long (shw kd s0 s1 on vl n ni no f i)), (0, .ref qm), (1, .int (nI f))]) hx hb dX5_testOf_33 hl (k := 3) rfl (nI_add _ 1) (by decide) rfl (fun ls hl => ?_)
          refine lv_goto (tgt := 2) hx hb dX5_testOf_36 (by decide) ?_
          exact ih2 (i + 1) gd2_3 bd2_4 (by omega) (hg.trans (leastF_next (by omega) c_20)) (by omega) _ _ hP hD hS ls (lv_sub hl [2, 3, 0] rfl)
        · skip
          rw [zc_lcmp] at c_20
          refine lv_bipush (v := (nI 64)) hx hb dX5_testOf_23 (by decide) ?_
          refine lv_iload_n hx hb dX5_testOf_25 rfl (lv_at hl 3 rfl) ?_
          refine lv_imul hx hb dX5_testOf_26 ?_
          refine zz_i (z := (nI (64 * i))) (pk_mul _ _) ?_
          refine lv_lload_n hx hb dX5_testOf_27 rfl (lv_at hl 0 rfl) ?_
          refine vp_callSi (va_runS (As := [.long (shw kd s0 s1 on vl n ni no f i)]) (rest := [.int (nI (64 * i))]) ⟨hx, hb, hml, hown, hts⟩ (c_X5_firstOf l (shw kd s0 s1 on vl n ni no f i) c_20) (va_cwS 1 hts gX5_testOf_X5_firstOf rfl rfl rfl (by decide +kernel) ⟨Nat.le_of_ble_eq_true rfl, Nat.le_of_ble_eq_true rfl⟩) ⟨zt_blind, fun U hU hW => ⟨rfl, trivial⟩⟩ rfl rfl hl.1 rfl (lv_room (Nat.le_of_ble_eq_true rfl)) dX5_testOf_28 ⟨Nat.le_of_ble_eq_true rfl, Nat.le_of_ble_eq_true rfl⟩).run (fun r_5 hrr_5 => ?_)
          subst hrr_5
          refine lv_iadd hx hb dX5_testOf_31 ?_
          refine zz_i (z := (nI ((64 * i) + (lowN (shw kd s0 s1 on vl n ni no f i))))) (nI_add _ _) ?_
          exact W.iret (v := (nI ((64 * i) + (lowN (shw kd s0 s1 on vl n ni no f i))))) hx hb hr (fun t_9 ht_9 hW_9 => ⟨⟨(nI ((64 * i) + (lowN (shw kd s0 s1 on vl n ni no f i)))), (gd2_3, bd2_4), rfl, (show (nI ((64 * i) + (lowN (shw kd s0 s1 on vl n ni no f i)))) = (leastF (fun w => shw kd s0 s1 on vl n ni no f w) (wordsN ni) 0) from (by rw [hg, leastF_hit (by omega) c_20, Nat.mul_comm 64 i])), ⟨by rw [ht_9]; exact hP, hD⟩⟩, hS.F ht_9⟩) hS.2.2 dX5_testOf_32
  exact loop2 ((wordsN ni - 0) + 1) 0 gd bd (Nat.zero_le _) rfl (Nat.lt_succ_self _) _ _ hP hD hS ls (lv_sub hl [1, 2, 0] rfl)

set_option maxHeartbeats 4000000 in
set_option maxRecDepth 100000 in
theorem c_X5_isShown (l : Launch) (D : va_G) (cI cJ cZ : ClassId) (qm : Nat) (mk : Nat) (m0 : Nat) (m1 : Nat) (mi : Nat) (mo : Nat) (ml : Nat) (mf : Nat) (ma : Nat) (mfd : Nat) (mts : Nat) (mg : Nat) (mb : Nat) (cd : Int32) (n : Nat) (ni : Nat) (no : Nat) (cl : Nat) (tc : Nat) (kd : Nat → Int32) (s0 : Nat → Int32) (s1 : Nat → Int32) (io : Nat → Int32) (on : Nat → Int32) (gd : Nat → Int64) (bd : Nat → Int64) (vl : Nat → Int64) (f : Nat) (a : Int32) (sz : Nat) (A : Nat → Prop) (hAe : A = va_A [(qm, .inr (5, [.int cd, .int (nI n), .int (nI ni), .int (nI no), .ref mk, .ref m0, .ref m1, .ref mi, .ref mo, .ref ml, .ref mf, .ref ma, .int (nI cl), .ref mfd, .ref mts, .int (nI tc), .ref mg, .ref mb])), (mk, .inl (cI, 100, .inl kd)), (m0, .inl (cI, 100, .inl s0)), (m1, .inl (cI, 100, .inl s1)), (mi, .inl (cI, 100, .inl io)), (mo, .inl (cI, 12, .inl on)), (mg, .inl (cJ, 100, .inr (.inl gd))), (mb, .inl (cJ, 100, .inr (.inl bd)))] sz) (hn : n ≤ 100) (hno : no ≤ 12) (hwf : WF n kd s0 s1) (hwo : WO n no on) (hkd : KD n kd) (hio : IOK n kd io) (hV : VOK n kd s0 s1 io vl) (hni : ni ≤ 10) (hnet : f / 6 < n) (hline : f % 6 / 2 = 0 ∨ ¬ kd (f / 6) = (-1)) : Met l yX5_isShown wsX5_isShown ({ frames := 3, cells := 0, slots := 0, locals := 80 } : Room) (va_Pc [.ref qm, .int (nI f), .int a] (PW D cI cJ cZ [(qm, .inr (5, [.int cd, .int (nI n), .int (nI ni), .int (nI no), .ref mk, .ref m0, .ref m1, .ref mi, .ref mo, .ref ml, .ref mf, .ref ma, .int (nI cl), .ref mfd, .ref mts, .int (nI tc), .ref mg, .ref mb])), (mk, .inl (cI, 100, .inl kd)), (m0, .inl (cI, 100, .inl s0)), (m1, .inl (cI, 100, .inl s1)), (mi, .inl (cI, 100, .inl io)), (mo, .inl (cI, 12, .inl on)), (mg, .inl (cJ, 100, .inr (.inl gd))), (mb, .inl (cJ, 100, .inr (.inl bd)))] sz)) (va_Qi (fun (r_9 : Int32) (u9 : (Nat → Int64) × (Nat → Int64)) => match u9 with | (gd2, bd2) => r_9 = (if bitW (shw kd s0 s1 on vl n ni no f (knownN ni a / 64)) (nI (knownN ni a)) = nI 1 then (1 : Int32) else 0)) (fun (u9 : (Nat → Int64) × (Nat → Int64)) t => match u9 with | (gd2, bd2) => PQ D A [(qm, .inr (5, [.int cd, .int (nI n), .int (nI ni), .int (nI no), .ref mk, .ref m0, .ref m1, .ref mi, .ref mo, .ref ml, .ref mf, .ref ma, .int (nI cl), .ref mfd, .ref mts, .int (nI tc), .ref mg, .ref mb])), (mk, .inl (cI, 100, .inl kd)), (m0, .inl (cI, 100, .inl s0)), (m1, .inl (cI, 100, .inl s1)), (mi, .inl (cI, 100, .inl io)), (mo, .inl (cI, 12, .inl on)), (mg, .inl (cJ, 100, .inr (.inl gd2))), (mb, .inl (cJ, 100, .inr (.inl bd2)))] t) A) 0 0 A := by
  refine Met.ofW (cc := cX5_isShown) (maxL := 4) (ret := (some .boolean)) (by decide) rfl ?_
  intro p e s m args below meth c s₁ B hml hv
  obtain ⟨rfl, hsz, ⟨hP, hK, hNB⟩, hD0⟩ := hv
  have hx := B.exec
  have hb := B.bytes
  have hr := B.returns
  have hts := atoms_spec (ws := wsX5_isShown) B.pre
  have hown : s.vm.findClass RX5 = some m.cls := findClass_of_methodNamed B.named
  have hlocks := B.notSynchronized
  subst hsz
  have hD : va_D A [(qm, .inr (5, [.int cd, .int (nI n), .int (nI ni), .int (nI no), .ref mk, .ref m0, .ref m1, .ref mi, .ref mo, .ref ml, .ref mf, .ref ma, .int (nI cl), .ref mfd, .ref mts, .int (nI tc), .ref mg, .ref mb])), (mk, .inl (cI, 100, .inl kd)), (m0, .inl (cI, 100, .inl s0)), (m1, .inl (cI, 100, .inl s1)), (mi, .inl (cI, 100, .inl io)), (mo, .inl (cI, 12, .inl on)), (mg, .inl (cJ, 100, .inr (.inl gd))), (mb, .inl (cJ, 100, .inr (.inl bd)))] := by rw [hAe]; exact hD0.self
  have hA : ∀ q : Nat, s.heap.size ≤ q → A q := fun q h => by rw [hAe]; exact Or.inr h
  have hS : va_S A s.heap s.heap [] := va_S.rf
  have hl := lv_entry ([.ref qm, .int (nI f), .int a]) (n := 4) (Nat.le_of_ble_eq_true rfl)
  rw [lg_entry_eq]
  generalize (lg_sl ([.ref qm, .int (nI f), .int a]) ++ List.replicate (4 - (lg_sl ([.ref qm, .int (nI f), .int a])).length) Slot.unset).toArray = ls at hl ⊢
  have hl : lv_has ls 4 [(0, .ref qm), (1, .int (nI f)), (2, .int a)] := hl
  have hw16 := wordsN_le hni
  have hkw := knownN_w hni a
  have hkl := knownN_lt hni a
  have h2p : 2 ^ ni ≤ 2 ^ 10 := Nat.pow_le_pow_right (by decide) hni
  refine lv_iload_n hx hb dX5_isShown_0 rfl (lv_at hl 2 rfl) ?_
  refine lv_aload_n hx hb dX5_isShown_1 rfl (lv_at hl 0 rfl) ?_
  have hPc := hP.sub (ws' := [(qm, .inr (5, [.int cd, .int (nI n), .int (nI ni), .int (nI no), .ref mk, .ref m0, .ref m1, .ref mi, .ref mo, .ref ml, .ref mf, .ref ma, .int (nI cl), .ref mfd, .ref mts, .int (nI tc), .ref mg, .ref mb]))]) [0] rfl
  refine vp_callSi (va_runV (As := []) (rest := [.int a]) ⟨hx, hb, hml, hown, hts⟩ (c_X5_all l D cI cJ cZ qm mk m0 m1 mi mo ml mf ma mfd mts mg mb cd n ni no cl tc (by omega)) (cwV 0 hts gX5_isShown_X5_all rfl rfl rfl (by decide +kernel) ⟨Nat.le_of_ble_eq_true rfl, Nat.le_of_ble_eq_true rfl⟩) ⟨PR.blind, va_recv hK hPc (ci := 5) (q0 := 0) rfl rfl, fun U hU hW => ⟨rfl, PR.to hPc hK hNB hU hW⟩⟩ rfl rfl hl.1 rfl (lv_room (Nat.le_of_ble_eq_true rfl)) dX5_isShown_2 ⟨Nat.le_of_ble_eq_true rfl, Nat.le_of_ble_eq_true rfl⟩).run (fun r_1 hrr_1 => ?_)
  subst hrr_1
  refine lv_iconst (v := (nI 1)) hx hb dX5_isShown_5 (by decide) ?_
  refine lv_isub hx hb dX5_isShown_6 ?_
  refine lv_iand hx hb dX5_isShown_7 ?_
  refine zz_i (z := (nI (knownN ni a))) (zs_known hni a) ?_
  refine lv_istore_n (lv' := [(3, .int (nI (knownN ni a))), (0, .ref qm), (1, .int (nI f)), (2, .int a)]) hx hb dX5_isShown_8 rfl hl (by decide) rfl (fun ls hl => ?_)
  refine lv_aload_n hx hb dX5_isShown_9 rfl (lv_at hl 1 rfl) ?_
  refine lv_iload_n hx hb dX5_isShown_10 rfl (lv_at hl 2 rfl) ?_
  refine lv_iload_n hx hb dX5_isShown_11 rfl (lv_at hl 0 rfl) ?_
  refine lv_bipush (v := (nI 64)) hx hb dX5_isShown_12 (by decide) ?_
  refine lv_idiv hx hb dX5_isShown_14 (by decide) ?_
  refine zz_i (z := (nI ((knownN ni a) / 64))) (pk_div (by omega) (by decide) (by decide)) ?_
  have hPc := hP.sub (ws' := [(qm, .inr (5, [.int cd, .int (nI n), .int (nI ni), .int (nI no), .ref mk, .ref m0, .ref m1, .ref mi, .ref mo, .ref ml, .ref mf, .ref ma, .int (nI cl), .ref mfd, .ref mts, .int (nI tc), .ref mg, .ref mb])), (mk, .inl (cI, 100, .inl kd)), (m0, .inl (cI, 100, .inl s0)), (m1, .inl (cI, 100, .inl s1)), (mi, .inl (cI, 100, .inl io)), (mo, .inl (cI, 12, .inl on)), (mg, .inl (cJ, 100, .inr (.inl gd))), (mb, .inl (cJ, 100, .inr (.inl bd)))]) [0, 1, 2, 3, 4, 5, 6, 7] rfl
  have hDc := hD.sub (ws' := [(qm, .inr (5, [.int cd, .int (nI n), .int (nI ni), .int (nI no), .ref mk, .ref m0, .ref m1, .ref mi, .ref mo, .ref ml, .ref mf, .ref ma, .int (nI cl), .ref mfd, .ref mts, .int (nI tc), .ref mg, .ref mb])), (mk, .inl (cI, 100, .inl kd)), (m0, .inl (cI, 100, .inl s0)), (m1, .inl (cI, 100, .inl s1)), (mi, .inl (cI, 100, .inl io)), (mo, .inl (cI, 12, .inl on)), (mg, .inl (cJ, 100, .inr (.inl gd))), (mb, .inl (cJ, 100, .inr (.inl bd)))]) [0, 1, 2, 3, 4, 5, 6, 7] (by decide) rfl
  have hFc := va_free (wc := [(qm, .inr (5, [.int cd, .int (nI n), .int (nI ni), .int (nI no), .ref mk, .ref m0, .ref m1, .ref mi, .ref mo, .ref ml, .ref mf, .ref ma, .int (nI cl), .ref mfd, .ref mts, .int (nI tc), .ref mg, .ref mb])), (mk, .inl (cI, 100, .inl kd)), (m0, .inl (cI, 100, .inl s0)), (m1, .inl (cI, 100, .inl s1)), (mi, .inl (cI, 100, .inl io)), (mo, .inl (cI, 12, .inl on)), (mg, .inl (cJ, 100, .inr (.inl gd))), (mb, .inl (cJ, 100, .inr (.inl bd)))]) hD hS hA [0, 1, 2, 3, 4, 5, 6, 7] rfl
  refine va_calll (va_runV (As := [.int (nI f), .int (nI ((knownN ni a) / 64))]) (rest := []) ⟨hx, hb, hml, hown, hts⟩ (c_X5_showing l D cI cJ cZ qm mk m0 m1 mi mo ml mf ma mfd mts mg mb cd n ni no cl tc kd s0 s1 io on gd bd vl f ((knownN ni a) / 64) s.heap.size _ rfl (by omega) (by omega) hwf hwo hkd hio hV (by omega) hnet hline (by omega)) (cwV 2 hts gX5_isShown_X5_showing rfl rfl rfl (by decide +kernel) ⟨Nat.le_of_ble_eq_true rfl, Nat.le_of_ble_eq_true rfl⟩) ⟨PW.blind, va_recv hK hPc (ci := 5) (q0 := 0) rfl rfl, fun U hU hW => ⟨rfl, PW.to hPc hK hNB hDc hU hW⟩⟩ rfl rfl hl.1 rfl (lv_room (Nat.le_of_ble_eq_true rfl)) dX5_isShown_15 ⟨Nat.le_of_ble_eq_true rfl, Nat.le_of_ble_eq_true rfl⟩) hS (fun q _ h => hFc q h) hFc (fun r_2 u_9 t_9 H1_9 locs ht_9 hvm_9 hw_9 hB_9 hz1_9 hk1_9 hS => ?_)
  obtain ⟨gd2_3, bd2_4⟩ := u_9
  obtain ⟨hP1_9, hD1_9⟩ := hB_9
  rw [ht_9] at hP1_9
  obtain rfl := hw_9
  obtain ⟨hP, hD⟩ := va_join (wr := []) (w1 := [(qm, .inr (5, [.int cd, .int (nI n), .int (nI ni), .int (nI no), .ref mk, .ref m0, .ref m1, .ref mi, .ref mo, .ref ml, .ref mf, .ref ma, .int (nI cl), .ref mfd, .ref mts, .int (nI tc), .ref mg, .ref mb])), (mk, .inl (cI, 100, .inl kd)), (m0, .inl (cI, 100, .inl s0)), (m1, .inl (cI, 100, .inl s1)), (mi, .inl (cI, 100, .inl io)), (mo, .inl (cI, 12, .inl on)), (mg, .inl (cJ, 100, .inr (.inl gd2_3))), (mb, .inl (cJ, 100, .inr (.inl bd2_4)))]) hP hD [0, 1, 2, 3, 4, 5, 6, 7] [] rfl rfl (by decide) (by decide) hk1_9 hFc hP1_9 hD1_9
  generalize H1_9 = H at hP hS ⊢
  have hP : va_P D vwCl [(qm, .inr (5, [.int cd, .int (nI n), .int (nI ni), .int (nI no), .ref mk, .ref m0, .ref m1, .ref mi, .ref mo, .ref ml, .ref mf, .ref ma, .int (nI cl), .ref mfd, .ref mts, .int (nI tc), .ref mg, .ref mb])), (mk, .inl (cI, 100, .inl kd)), (m0, .inl (cI, 100, .inl s0)), (m1, .inl (cI, 100, .inl s1)), (mi, .inl (cI, 100, .inl io)), (mo, .inl (cI, 12, .inl on)), (mg, .inl (cJ, 100, .inr (.inl gd2_3))), (mb, .inl (cJ, 100, .inr (.inl bd2_4)))] H := hP
  have hD : va_D A [(qm, .inr (5, [.int cd, .int (nI n), .int (nI ni), .int (nI no), .ref mk, .ref m0, .ref m1, .ref mi, .ref mo, .ref ml, .ref mf, .ref ma, .int (nI cl), .ref mfd, .ref mts, .int (nI tc), .ref mg, .ref mb])), (mk, .inl (cI, 100, .inl kd)), (m0, .inl (cI, 100, .inl s0)), (m1, .inl (cI, 100, .inl s1)), (mi, .inl (cI, 100, .inl io)), (mo, .inl (cI, 12, .inl on)), (mg, .inl (cJ, 100, .inr (.inl gd2_3))), (mb, .inl (cJ, 100, .inr (.inl bd2_4)))] := hD
  refine lv_iload_n hx hb dX5_isShown_18 rfl (lv_at hl 0 rfl) ?_
  refine lv_bipush (v := (nI 64)) hx hb dX5_isShown_19 (by decide) ?_
  refine lv_irem hx hb dX5_isShown_21 (by decide) ?_
  refine zz_i (z := (nI ((knownN ni a) % 64))) (pk_rem (by omega) (by decide) (by decide)) ?_
  refine lv_lshr hx hb dX5_isShown_22 rfl ?_
  refine lv_lconst (v := 1) hx hb dX5_isShown_23 (by decide) ?_
  refine lv_land hx hb dX5_isShown_24 ?_
  refine lv_lconst (v := 1) hx hb dX5_isShown_25 (by decide) ?_
  refine W.lcmp hx hb dX5_isShown_26 ?_
  refine lv_if_ne (tgt := 34) hx hb dX5_isShown_27 (by decide) (fun c_27 => ?_) (fun c_27 => ?_)
  · skip
    rw [zc_lcmp] at c_27
    refine lv_iconst (v := (nI 0)) hx hb dX5_isShown_34 (by decide) ?_
    exact W.zret (v := (nI 0)) hx hb hr (rfl) (fun t_9 ht_9 hW_9 => ⟨⟨(nI 0), (gd2_3, bd2_4), rfl, (show (nI 0) = (if bitW (shw kd s0 s1 on vl n ni no f (knownN ni a / 64)) (nI (knownN ni a)) = nI 1 then (1 : Int32) else 0) from (by first | exact (if_pos ((shB (by omega)).mp c_27)).symm | exact (if_neg (fun h => c_27 ((shB (by omega)).mpr h))).symm)), ⟨by rw [ht_9]; exact hP, hD⟩⟩, hS.F ht_9⟩) hS.2.2 dX5_isShown_35
  · skip
    rw [zc_lcmp] at c_27
    refine lv_iconst (v := (nI 1)) hx hb dX5_isShown_30 (by decide) ?_
    refine lv_goto (tgt := 35) hx hb dX5_isShown_31 (by decide) ?_
    exact W.zret (v := (nI 1)) hx hb hr (rfl) (fun t_9 ht_9 hW_9 => ⟨⟨(nI 1), (gd2_3, bd2_4), rfl, (show (nI 1) = (if bitW (shw kd s0 s1 on vl n ni no f (knownN ni a / 64)) (nI (knownN ni a)) = nI 1 then (1 : Int32) else 0) from (by first | exact (if_pos ((shB (by omega)).mp c_27)).symm | exact (if_neg (fun h => c_27 ((shB (by omega)).mpr h))).symm)), ⟨by rw [ht_9]; exact hP, hD⟩⟩, hS.F ht_9⟩) hS.2.2 dX5_isShown_35

set_option maxHeartbeats 4000000 in
set_option maxRecDepth 100000 in
theorem c_X5_leastWith (l : Launch) (D : va_G) (cI cJ cZ : ClassId) (qm : Nat) (mk : Nat) (m0 : Nat) (m1 : Nat) (mi : Nat) (mo : Nat) (ml : Nat) (mf : Nat) (ma : Nat) (mfd : Nat) (mts : Nat) (mg : Nat) (mb : Nat) (cd : Int32) (n : Nat) (ni : Nat) (no : Nat) (cl : Nat) (tc : Nat) (kd : Nat → Int32) (s0 : Nat → Int32) (s1 : Nat → Int32) (io : Nat → Int32) (on : Nat → Int32) (gd : Nat → Int64) (bd : Nat → Int64) (vl : Nat → Int64) (j : Nat) (v : Nat) (sz : Nat) (A : Nat → Prop) (hAe : A = va_A [(qm, .inr (5, [.int cd, .int (nI n), .int (nI ni), .int (nI no), .ref mk, .ref m0, .ref m1, .ref mi, .ref mo, .ref ml, .ref mf, .ref ma, .int (nI cl), .ref mfd, .ref mts, .int (nI tc), .ref mg, .ref mb])), (mk, .inl (cI, 100, .inl kd)), (m0, .inl (cI, 100, .inl s0)), (m1, .inl (cI, 100, .inl s1)), (mi, .inl (cI, 100, .inl io)), (mo, .inl (cI, 12, .inl on)), (mg, .inl (cJ, 100, .inr (.inl gd))), (mb, .inl (cJ, 100, .inr (.inl bd)))] sz) (hn : n ≤ 100) (hno : no ≤ 12) (hwf : WF n kd s0 s1) (hwo : WO n no on) (hkd : KD n kd) (hio : IOK n kd io) (hV : VOK n kd s0 s1 io vl) (hni : ni ≤ 10) (hj : j < n) (hv : v < 2) : Met l yX5_leastWith wsX5_leastWith ({ frames := 2, cells := 0, slots := 0, locals := 55 } : Room) (va_Pc [.ref qm, .int (nI j), .int (nI v)] (PW D cI cJ cZ [(qm, .inr (5, [.int cd, .int (nI n), .int (nI ni), .int (nI no), .ref mk, .ref m0, .ref m1, .ref mi, .ref mo, .ref ml, .ref mf, .ref ma, .int (nI cl), .ref mfd, .ref mts, .int (nI tc), .ref mg, .ref mb])), (mk, .inl (cI, 100, .inl kd)), (m0, .inl (cI, 100, .inl s0)), (m1, .inl (cI, 100, .inl s1)), (mi, .inl (cI, 100, .inl io)), (mo, .inl (cI, 12, .inl on)), (mg, .inl (cJ, 100, .inr (.inl gd))), (mb, .inl (cJ, 100, .inr (.inl bd)))] sz)) (va_Qi (fun (r_9 : Int32) (u9 : (Nat → Int64) × (Nat → Int64)) => match u9 with | (gd2, bd2) => r_9 = (leastF (fun w => ((vl (w * 100 + j) ^^^ allW (nI v)) ^^^ (-1)) &&& maskW ni) (wordsN ni) 0)) (fun (u9 : (Nat → Int64) × (Nat → Int64)) t => match u9 with | (gd2, bd2) => PQ D A [(qm, .inr (5, [.int cd, .int (nI n), .int (nI ni), .int (nI no), .ref mk, .ref m0, .ref m1, .ref mi, .ref mo, .ref ml, .ref mf, .ref ma, .int (nI cl), .ref mfd, .ref mts, .int (nI tc), .ref mg, .ref mb])), (mk, .inl (cI, 100, .inl kd)), (m0, .inl (cI, 100, .inl s0)), (m1, .inl (cI, 100, .inl s1)), (mi, .inl (cI, 100, .inl io)), (mo, .inl (cI, 12, .inl on)), (mg, .inl (cJ, 100, .inr (.inl gd2))), (mb, .inl (cJ, 100, .inr (.inl bd2)))] t) A) 0 0 A := by
  refine Met.ofW (cc := cX5_leastWith) (maxL := 6) (ret := (some .int)) (by decide) rfl ?_
  intro p e s m args below meth c s₁ B hml hv
  obtain ⟨rfl, hsz, ⟨hP, hK, hNB⟩, hD0⟩ := hv
  have hx := B.exec
  have hb := B.bytes
  have hr := B.returns
  have hts := atoms_spec (ws := wsX5_leastWith) B.pre
  have hown : s.vm.findClass RX5 = some m.cls := findClass_of_methodNamed B.named
  have hlocks := B.notSynchronized
  have hiX5 : ∀ w ∈ u_ws RX5 TX5 18, w ∈ wsX5_leastWith := by decide +kernel
  subst hsz
  have hD : va_D A [(qm, .inr (5, [.int cd, .int (nI n), .int (nI ni), .int (nI no), .ref mk, .ref m0, .ref m1, .ref mi, .ref mo, .ref ml, .ref mf, .ref ma, .int (nI cl), .ref mfd, .ref mts, .int (nI tc), .ref mg, .ref mb])), (mk, .inl (cI, 100, .inl kd)), (m0, .inl (cI, 100, .inl s0)), (m1, .inl (cI, 100, .inl s1)), (mi, .inl (cI, 100, .inl io)), (mo, .inl (cI, 12, .inl on)), (mg, .inl (cJ, 100, .inr (.inl gd))), (mb, .inl (cJ, 100, .inr (.inl bd)))] := by rw [hAe]; exact hD0.self
  have hA : ∀ q : Nat, s.heap.size ≤ q → A q := fun q h => by rw [hAe]; exact Or.inr h
  have hS : va_S A s.heap s.heap [] := va_S.rf
  have hl := lv_entry ([.ref qm, .int (nI j), .int (nI v)]) (n := 6) (Nat.le_of_ble_eq_true rfl)
  rw [lg_entry_eq]
  generalize (lg_sl ([.ref qm, .int (nI j), .int (nI v)]) ++ List.replicate (6 - (lg_sl ([.ref qm, .int (nI j), .int (nI v)])).length) Slot.unset).toArray = ls at hl ⊢
  have hl : lv_has ls 6 [(0, .ref qm), (1, .int (nI j)), (2, .int (nI v))] := hl
  have hw16 := wordsN_le hni
  refine lv_iconst (v := (nI 0)) hx hb dX5_leastWith_0 (by decide) ?_
  refine lv_istore_n (lv' := [(3, .int (nI 0)), (0, .ref qm), (1, .int (nI j)), (2, .int (nI v))]) hx hb dX5_leastWith_1 rfl hl (by decide) rfl (fun ls hl => ?_)
  have loop2 : ∀ (n2 : Nat) (i : Nat) (g1 : Nat → Int64) (b1 : Nat → Int64) (hi : i ≤ wordsN ni) (hg : leastF (fun w => ((vl (w * 100 + j) ^^^ allW (nI v)) ^^^ (-1)) &&& maskW ni) (wordsN ni) 0 = leastF (fun w => ((vl (w * 100 + j) ^^^ allW (nI v)) ^^^ (-1)) &&& maskW ni) (wordsN ni - i) i), wordsN ni - i < n2 → ∀ (H : Heap) (locs : List Loc), va_P D vwCl [(qm, .inr (5, [.int cd, .int (nI n), .int (nI ni), .int (nI no), .ref mk, .ref m0, .ref m1, .ref mi, .ref mo, .ref ml, .ref mf, .ref ma, .int (nI cl), .ref mfd, .ref mts, .int (nI tc), .ref mg, .ref mb])), (mk, .inl (cI, 100, .inl kd)), (m0, .inl (cI, 100, .inl s0)), (m1, .inl (cI, 100, .inl s1)), (mi, .inl (cI, 100, .inl io)), (mo, .inl (cI, 12, .inl on)), (mg, .inl (cJ, 100, .inr (.inl g1))), (mb, .inl (cJ, 100, .inr (.inl b1)))] H → va_D A [(qm, .inr (5, [.int cd, .int (nI n), .int (nI ni), .int (nI no), .ref mk, .ref m0, .ref m1, .ref mi, .ref mo, .ref ml, .ref mf, .ref ma, .int (nI cl), .ref mfd, .ref mts, .int (nI tc), .ref mg, .ref mb])), (mk, .inl (cI, 100, .inl kd)), (m0, .inl (cI, 100, .inl s0)), (m1, .inl (cI, 100, .inl s1)), (mi, .inl (cI, 100, .inl io)), (mo, .inl (cI, 12, .inl on)), (mg, .inl (cJ, 100, .inr (.inl g1))), (mb, .inl (cJ, 100, .inr (.inl b1)))] → va_S A s.heap H locs → ∀ (ls : Array Slot), lv_has ls 6 [(0, .ref qm), (1, .int (nI j)), (2, .int (nI v)), (3, .int (nI i))] → W p l e (headSpec wsX5_leastWith ({ frames := 2, cells := 0, slots := 0, locals := 55 } : Room)).room s m ([.ref qm, .int (nI j), .int (nI v)] : List Value).toArray below meth c H locs 0 0 (MQ below (va_Qi (fun (r_9 : Int32) (u9 : (Nat → Int64) × (Nat → Int64)) => match u9 with | (gd2, bd2) => r_9 = (leastF (fun w => ((vl (w * 100 + j) ^^^ allW (nI v)) ^^^ (-1)) &&& maskW ni) (wordsN ni) 0)) (fun (u9 : (Nat → Int64) × (Nat → Int64)) t => match u9 with | (gd2, bd2) => PQ D A [(qm, .inr (5, [.int cd, .int (nI n), .int (nI ni), .int (nI no), .ref mk, .ref m0, .ref m1, .ref mi, .ref mo, .ref ml, .ref mf, .ref ma, .int (nI cl), .ref mfd, .ref mts, .int (nI tc), .ref mg, .ref mb])), (mk, .inl (cI, 100, .inl kd)), (m0, .inl (cI, 100, .inl s0)), (m1, .inl (cI, 100, .inl s1)), (mi, .inl (cI, 100, .inl io)), (mo, .inl (cI, 12, .inl on)), (mg, .inl (cJ, 100, .inr (.inl gd2))), (mb, .inl (cJ, 100, .inr (.inl bd2)))] t) A) ([.ref qm, .int (nI j), .int (nI v)] : List Value).toArray s 0 0 A) (F0 m 2 ls []) := by
    intro n2
    induction n2 with
    | zero => intro i g1 b1 hi hg hm; exact absurd hm (Nat.not_lt_zero _)
    | succ n2 ih2 =>
      intro i g1 b1 hi hg hm2 H locs hP hD hS ls hl
      refine lv_iload_n hx hb dX5_leastWith_2 rfl (lv_at hl 3 rfl) ?_
      refine lv_aload_n hx hb dX5_leastWith_3 rfl (lv_at hl 0 rfl) ?_
      have hPc := hP.sub (ws' := [(qm, .inr (5, [.int cd, .int (nI n), .int (nI ni), .int (nI no), .ref mk, .ref m0, .ref m1, .ref mi, .ref mo, .ref ml, .ref mf, .ref ma, .int (nI cl), .ref mfd, .ref mts, .int (nI tc), .ref mg, .ref mb]))]) [0] rfl
      refine vp_callSi (va_runV (As := []) (rest := [.int (nI i)]) ⟨hx, hb, hml, hown, hts⟩ (c_X5_blocks l D cI cJ cZ qm mk m0 m1 mi mo ml mf ma mfd mts mg mb cd n ni no cl tc (by omega)) (cwV 0 hts gX5_leastWith_X5_blocks rfl rfl rfl (by decide +kernel) ⟨Nat.le_of_ble_eq_true rfl, Nat.le_of_ble_eq_true rfl⟩) ⟨PR.blind, va_recv hK hPc (ci := 5) (q0 := 0) rfl rfl, fun U hU hW => ⟨rfl, PR.to hPc hK hNB hU hW⟩⟩ rfl rfl hl.1 rfl (lv_room (Nat.le_of_ble_eq_true rfl)) dX5_leastWith_4 ⟨Nat.le_of_ble_eq_true rfl, Nat.le_of_ble_eq_true rfl⟩).run (fun r_1 hrr_1 => ?_)
      subst hrr_1
      refine lv_icmp_ge (tgt := 75) hx hb dX5_leastWith_7 (by decide) (fun c_7 => ?_) (fun c_7 => ?_)
      · skip
        rw [zc_le (by omega) (by omega)] at c_7
        refine lv_iconst (v := (-1)) hx hb dX5_leastWith_75 (by decide) ?_
        exact W.iret (v := (-1)) hx hb hr (fun t_9 ht_9 hW_9 => ⟨⟨(-1), (g1, b1), rfl, (show (-1) = (leastF (fun w => ((vl (w * 100 + j) ^^^ allW (nI v)) ^^^ (-1)) &&& maskW ni) (wordsN ni) 0) from (hg.trans (leastF_end (by omega))).symm), ⟨by rw [ht_9]; exact hP, hD⟩⟩, hS.F ht_9⟩) hS.2.2 dX5_leastWith_76
      · skip
        rw [zc_le (by omega) (by omega)] at c_7
        refine lv_aload_n hx hb dX5_leastWith_10 rfl (lv_at hl 0 rfl) ?_
        refine lv_aload_n hx hb dX5_leastWith_11 rfl (lv_at hl 0 rfl) ?_
        refine va_get (D := D) (ci := 5) (v := .ref mg) (C := RX5) (T := TX5) (N := 18) hx hb hts hiX5 hown hK hP 0 rfl rfl 16 (by decide) (hts (.fieldLink RX5 41 "FaultSearchModel" "good" "[J") (by decide +kernel)) (fun _ h9 => h9) rfl dX5_leastWith_12 ?_
        refine lv_iload_n hx hb dX5_leastWith_15 rfl (lv_at hl 3 rfl) ?_
        refine lv_iconst (v := (-1)) hx hb dX5_leastWith_16 (by decide) ?_
        have hPc := hP.sub (ws' := [(qm, .inr (5, [.int cd, .int (nI n), .int (nI ni), .int (nI no), .ref mk, .ref m0, .ref m1, .ref mi, .ref mo, .ref ml, .ref mf, .ref ma, .int (nI cl), .ref mfd, .ref mts, .int (nI tc), .ref mg, .ref mb])), (mk, .inl (cI, 100, .inl kd)), (m0, .inl (cI, 100, .inl s0)), (m1, .inl (cI, 100, .inl s1)), (mi, .inl (cI, 100, .inl io)), (mg, .inl (cJ, 100, .inr (.inl g1)))]) [0, 1, 2, 3, 4, 6] rfl
        have hDc := hD.sub (ws' := [(qm, .inr (5, [.int cd, .int (nI n), .int (nI ni), .int (nI no), .ref mk, .ref m0, .ref m1, .ref mi, .ref mo, .ref ml, .ref mf, .ref ma, .int (nI cl), .ref mfd, .ref mts, .int (nI tc), .ref mg, .ref mb])), (mk, .inl (cI, 100, .inl kd)), (m0, .inl (cI, 100, .inl s0)), (m1, .inl (cI, 100, .inl s1)), (mi, .inl (cI, 100, .inl io)), (mg, .inl (cJ, 100, .inr (.inl g1)))]) [0, 1, 2, 3, 4, 6] (by decide) rfl
        have hFc := va_free (wc := [(qm, .inr (5, [.int cd, .int (nI n), .int (nI ni), .int (nI no), .ref mk, .ref m0, .ref m1, .ref mi, .ref mo, .ref ml, .ref mf, .ref ma, .int (nI cl), .ref mfd, .ref mts, .int (nI tc), .ref mg, .ref mb])), (mk, .inl (cI, 100, .inl kd)), (m0, .inl (cI, 100, .inl s0)), (m1, .inl (cI, 100, .inl s1)), (mi, .inl (cI, 100, .inl io)), (mg, .inl (cJ, 100, .inr (.inl g1)))]) hD hS hA [0, 1, 2, 3, 4, 6] rfl
        refine va_callv (va_runV (As := [.ref mg, .int (nI i), .int (-1)]) (rest := []) ⟨hx, hb, hml, hown, hts⟩ (c_X5_tellG l D cI cJ cZ qm mk m0 m1 mi mo ml mf ma mfd mts mg mb cd n ni no cl tc kd s0 s1 io mg g1 i (fun j => vl (i * 100 + j)) H.size _ rfl (by omega) hwf hkd hio (by omega) (hV i (by omega))) (cwV 3 hts gX5_leastWith_X5_tell rfl rfl rfl (by decide +kernel) ⟨Nat.le_of_ble_eq_true rfl, Nat.le_of_ble_eq_true rfl⟩) ⟨PW.blind, va_recv hK hPc (ci := 5) (q0 := 0) rfl rfl, fun U hU hW => ⟨rfl, PW.to hPc hK hNB hDc hU hW⟩⟩ rfl rfl hl.1 rfl (lv_room (Nat.le_of_ble_eq_true rfl)) dX5_leastWith_17 ⟨Nat.le_of_ble_eq_true rfl, Nat.le_of_ble_eq_true rfl⟩) hS (fun q _ h => hFc q h) hFc (fun u_9 t_9 H1_9 locs ht_9 hvm_9 hw_9 hB_9 hz1_9 hk1_9 hS => ?_)
        obtain ⟨tv2_3, rfl⟩ : ∃ z, z = u_9 := ⟨_, rfl⟩
        obtain ⟨hP1_9, hD1_9⟩ := hB_9
        rw [ht_9] at hP1_9
        have k_T := hw_9
        have k_T : ∀ j, j < n → tv2_3 j = (fun j => vl (i * 100 + j)) j := k_T
        obtain ⟨hP, hD⟩ := va_join (wr := [(mo, .inl (cI, 12, .inl on)), (mb, .inl (cJ, 100, .inr (.inl b1)))]) (w1 := [(qm, .inr (5, [.int cd, .int (nI n), .int (nI ni), .int (nI no), .ref mk, .ref m0, .ref m1, .ref mi, .ref mo, .ref ml, .ref mf, .ref ma, .int (nI cl), .ref mfd, .ref mts, .int (nI tc), .ref mg, .ref mb])), (mk, .inl (cI, 100, .inl kd)), (m0, .inl (cI, 100, .inl s0)), (m1, .inl (cI, 100, .inl s1)), (mi, .inl (cI, 100, .inl io)), (mg, .inl (cJ, 100, .inr (.inl tv2_3)))]) hP hD [0, 1, 2, 3, 4, 6] [5, 7] rfl rfl (by decide) (by decide) hk1_9 hFc hP1_9 hD1_9
        have hP := hP.sub (ws' := [(qm, .inr (5, [.int cd, .int (nI n), .int (nI ni), .int (nI no), .ref mk, .ref m0, .ref m1, .ref mi, .ref mo, .ref ml, .ref mf, .ref ma, .int (nI cl), .ref mfd, .ref mts, .int (nI tc), .ref mg, .ref mb])), (mk, .inl (cI, 100, .inl kd)), (m0, .inl (cI, 100, .inl s0)), (m1, .inl (cI, 100, .inl s1)), (mi, .inl (cI, 100, .inl io)), (mo, .inl (cI, 12, .inl on)), (mg, .inl (cJ, 100, .inr (.inl tv2_3))), (mb, .inl (cJ, 100, .inr (.inl b1)))]) [2, 3, 4, 5, 6, 0, 7, 1] rfl
        have hD := hD.sub (ws' := [(qm, .inr (5, [.int cd, .int (nI n), .int (nI ni), .int (nI no), .ref mk, .ref m0, .ref m1, .ref mi, .ref mo, .ref ml, .ref mf, .ref ma, .int (nI cl), .ref mfd, .ref mts, .int (nI tc), .ref mg, .ref mb])), (mk, .inl (cI, 100, .inl kd)), (m0, .inl (cI, 100, .inl s0)), (m1, .inl (cI, 100, .inl s1)), (mi, .inl (cI, 100, .inl io)), (mo, .inl (cI, 12, .inl on)), (mg, .inl (cJ, 100, .inr (.inl tv2_3))), (mb, .inl (cJ, 100, .inr (.inl b1)))]) [2, 3, 4, 5, 6, 0, 7, 1] (by decide) rfl
        generalize H1_9 = H at hP hS ⊢
        have hP : va_P D vwCl [(qm, .inr (5, [.int cd, .int (nI n), .int (nI ni), .int (nI no), .ref mk, .ref m0, .ref m1, .ref mi, .ref mo, .ref ml, .ref mf, .ref ma, .int (nI cl), .ref mfd, .ref mts, .int (nI tc), .ref mg, .ref mb])), (mk, .inl (cI, 100, .inl kd)), (m0, .inl (cI, 100, .inl s0)), (m1, .inl (cI, 100, .inl s1)), (mi, .inl (cI, 100, .inl io)), (mo, .inl (cI, 12, .inl on)), (mg, .inl (cJ, 100, .inr (.inl tv2_3))), (mb, .inl (cJ, 100, .inr (.inl b1)))] H := hP
        have hD : va_D A [(qm, .inr (5, [.int cd, .int (nI n), .int (nI ni), .int (nI no), .ref mk, .ref m0, .ref m1, .ref mi, .ref mo, .ref ml, .ref mf, .ref ma, .int (nI cl), .ref mfd, .ref mts, .int (nI tc), .ref mg, .ref mb])), (mk, .inl (cI, 100, .inl kd)), (m0, .inl (cI, 100, .inl s0)), (m1, .inl (cI, 100, .inl s1)), (mi, .inl (cI, 100, .inl io)), (mo, .inl (cI, 12, .inl on)), (mg, .inl (cJ, 100, .inr (.inl tv2_3))), (mb, .inl (cJ, 100, .inr (.inl b1)))] := hD
        refine lv_iload_n hx hb dX5_leastWith_20 rfl (lv_at hl 2 rfl) ?_
        refine lv_iconst (v := (nI 1)) hx hb dX5_leastWith_21 (by decide) ?_
        refine lv_icmp_ne (tgt := 34) hx hb dX5_leastWith_22 (by decide) (fun c_22 => ?_) (fun c_22 => ?_)
        · skip
          rw [zc_eq (by omega) (by omega)] at c_22
          refine lv_aload_n hx hb dX5_leastWith_34 rfl (lv_at hl 0 rfl) ?_
          refine va_get (D := D) (ci := 5) (v := .ref mg) (C := RX5) (T := TX5) (N := 18) hx hb hts hiX5 hown hK hP 0 rfl rfl 16 (by decide) (hts (.fieldLink RX5 41 "FaultSearchModel" "good" "[J") (by decide +kernel)) (fun _ h9 => h9) rfl dX5_leastWith_35 ?_
          refine lv_iload_n hx hb dX5_leastWith_38 rfl (lv_at hl 1 rfl) ?_
          refine zz_lald hx hb hK hP 6 1 rfl rfl (n := 100) (j := j) (by omega) (by decide) dX5_leastWith_39 ?_
          refine lv_ldc2 (v := (-1)) hx hb hown (hts (.constantLong RX5 118 (-1)) (by decide +kernel)) dX5_leastWith_40 ?_
          refine lv_lxor hx hb dX5_leastWith_43 ?_
          refine zz_l (z := ((vl (i * 100 + j) ^^^ allW (nI v)) ^^^ (-1))) (by rw [k_T j hj]; first | exact lw_y c_22 | exact lw_n (by omega)) ?_
          refine lv_aload_n hx hb dX5_leastWith_44 rfl (lv_at hl 0 rfl) ?_
          have hPc := hP.sub (ws' := [(qm, .inr (5, [.int cd, .int (nI n), .int (nI ni), .int (nI no), .ref mk, .ref m0, .ref m1, .ref mi, .ref mo, .ref ml, .ref mf, .ref ma, .int (nI cl), .ref mfd, .ref mts, .int (nI tc), .ref mg, .ref mb]))]) [0] rfl
          refine vp_callSl (va_runV (As := []) (rest := [.long ((vl (i * 100 + j) ^^^ allW (nI v)) ^^^ (-1))]) ⟨hx, hb, hml, hown, hts⟩ (c_X5_there l D cI cJ cZ qm mk m0 m1 mi mo ml mf ma mfd mts mg mb cd n ni no cl tc (by omega)) (cwV 0 hts gX5_leastWith_X5_there rfl rfl rfl (by decide +kernel) ⟨Nat.le_of_ble_eq_true rfl, Nat.le_of_ble_eq_true rfl⟩) ⟨PR.blind, va_recv hK hPc (ci := 5) (q0 := 0) rfl rfl, fun U hU hW => ⟨rfl, PR.to hPc hK hNB hU hW⟩⟩ rfl rfl hl.1 rfl (lv_room (Nat.le_of_ble_eq_true rfl)) dX5_leastWith_45 ⟨Nat.le_of_ble_eq_true rfl, Nat.le_of_ble_eq_true rfl⟩).run (fun r_4 hrr_4 => ?_)
          subst hrr_4
          refine lv_land hx hb dX5_leastWith_48 ?_
          refine lv_lstore (lv' := [(4, .long (((vl (i * 100 + j) ^^^ allW (nI v)) ^^^ (-1)) &&& (maskW ni))), (0, .ref qm), (1, .int (nI j)), (2, .int (nI v)), (3, .int (nI i))]) hx hb dX5_leastWith_49 hl (by decide) rfl (fun ls hl => ?_)
          refine lv_lload hx hb dX5_leastWith_51 (lv_at hl 0 rfl) ?_
          refine lv_lconst (v := 0) hx hb dX5_leastWith_53 (by decide) ?_
          refine W.lcmp hx hb dX5_leastWith_54 ?_
          refine lv_if_eq (tgt := 69) hx hb dX5_leastWith_55 (by decide) (fun c_55 => ?_) (fun c_55 => ?_)
          · skip
            rw [zc_lcmp] at c_55
            refine lv_iinc (v := (nI (i + 1))) (lv' := [(3, .int (nI (i + 1))), (4, .long (((vl (i * 100 + j) ^^^ allW (nI v)) ^^^ (-1)) &&& (maskW ni))), (0, .ref qm), (1, .int (nI j)), (2, .int (nI v))]) hx hb dX5_leastWith_69 hl (k := 4) rfl (nI_add _ 1) (by decide) rfl (fun ls hl => ?_)
            refine lv_goto (tgt := 2) hx hb dX5_leastWith_72 (by decide) ?_
            exact ih2 (i + 1) tv2_3 b1 (by omega) (hg.trans (leastF_next (by omega) c_55)) (by omega) _ _ hP hD hS ls (lv_sub hl [2, 3, 4, 0] rfl)
          · skip
            rw [zc_lcmp] at c_55
            refine lv_bipush (v := (nI 64)) hx hb dX5_leastWith_58 (by decide) ?_
            refine lv_iload_n hx hb dX5_leastWith_60 rfl (lv_at hl 4 rfl) ?_
            refine lv_imul hx hb dX5_leastWith_61 ?_
            refine zz_i (z := (nI (64 * i))) (pk_mul _ _) ?_
            refine lv_lload hx hb dX5_leastWith_62 (lv_at hl 0 rfl) ?_
            refine vp_callSi (va_runS (As := [.long (((vl (i * 100 + j) ^^^ allW (nI v)) ^^^ (-1)) &&& (maskW ni))]) (rest := [.int (nI (64 * i))]) ⟨hx, hb, hml, hown, hts⟩ (c_X5_firstOf l (((vl (i * 100 + j) ^^^ allW (nI v)) ^^^ (-1)) &&& (maskW ni)) c_55) (va_cwS 1 hts gX5_leastWith_X5_firstOf rfl rfl rfl (by decide +kernel) ⟨Nat.le_of_ble_eq_true rfl, Nat.le_of_ble_eq_true rfl⟩) ⟨zt_blind, fun U hU hW => ⟨rfl, trivial⟩⟩ rfl rfl hl.1 rfl (lv_room (Nat.le_of_ble_eq_true rfl)) dX5_leastWith_64 ⟨Nat.le_of_ble_eq_true rfl, Nat.le_of_ble_eq_true rfl⟩).run (fun r_5 hrr_5 => ?_)
            subst hrr_5
            refine lv_iadd hx hb dX5_leastWith_67 ?_
            refine zz_i (z := (nI ((64 * i) + (lowN (((vl (i * 100 + j) ^^^ allW (nI v)) ^^^ (-1)) &&& (maskW ni)))))) (nI_add _ _) ?_
            exact W.iret (v := (nI ((64 * i) + (lowN (((vl (i * 100 + j) ^^^ allW (nI v)) ^^^ (-1)) &&& (maskW ni)))))) hx hb hr (fun t_9 ht_9 hW_9 => ⟨⟨(nI ((64 * i) + (lowN (((vl (i * 100 + j) ^^^ allW (nI v)) ^^^ (-1)) &&& (maskW ni))))), (tv2_3, b1), rfl, (show (nI ((64 * i) + (lowN (((vl (i * 100 + j) ^^^ allW (nI v)) ^^^ (-1)) &&& (maskW ni))))) = (leastF (fun w => ((vl (w * 100 + j) ^^^ allW (nI v)) ^^^ (-1)) &&& maskW ni) (wordsN ni) 0) from (by rw [hg, leastF_hit (by omega) c_55, Nat.mul_comm 64 i])), ⟨by rw [ht_9]; exact hP, hD⟩⟩, hS.F ht_9⟩) hS.2.2 dX5_leastWith_68
        · skip
          rw [zc_eq (by omega) (by omega)] at c_22
          refine lv_aload_n hx hb dX5_leastWith_25 rfl (lv_at hl 0 rfl) ?_
          refine va_get (D := D) (ci := 5) (v := .ref mg) (C := RX5) (T := TX5) (N := 18) hx hb hts hiX5 hown hK hP 0 rfl rfl 16 (by decide) (hts (.fieldLink RX5 41 "FaultSearchModel" "good" "[J") (by decide +kernel)) (fun _ h9 => h9) rfl dX5_leastWith_26 ?_
          refine lv_iload_n hx hb dX5_leastWith_29 rfl (lv_at hl 1 rfl) ?_
          refine zz_lald hx hb hK hP 6 1 rfl rfl (n := 100) (j := j) (by omega) (by decide) dX5_leastWith_30 ?_
          refine lv_goto (tgt := 44) hx hb dX5_leastWith_31 (by decide) ?_
          refine zz_l (z := ((vl (i * 100 + j) ^^^ allW (nI v)) ^^^ (-1))) (by rw [k_T j hj]; first | exact lw_y c_22 | exact lw_n (by omega)) ?_
          refine lv_aload_n hx hb dX5_leastWith_44 rfl (lv_at hl 0 rfl) ?_
          have hPc := hP.sub (ws' := [(qm, .inr (5, [.int cd, .int (nI n), .int (nI ni), .int (nI no), .ref mk, .ref m0, .ref m1, .ref mi, .ref mo, .ref ml, .ref mf, .ref ma, .int (nI cl), .ref mfd, .ref mts, .int (nI tc), .ref mg, .ref mb]))]) [0] rfl
          refine vp_callSl (va_runV (As := []) (rest := [.long ((vl (i * 100 + j) ^^^ allW (nI v)) ^^^ (-1))]) ⟨hx, hb, hml, hown, hts⟩ (c_X5_there l D cI cJ cZ qm mk m0 m1 mi mo ml mf ma mfd mts mg mb cd n ni no cl tc (by omega)) (cwV 0 hts gX5_leastWith_X5_there rfl rfl rfl (by decide +kernel) ⟨Nat.le_of_ble_eq_true rfl, Nat.le_of_ble_eq_true rfl⟩) ⟨PR.blind, va_recv hK hPc (ci := 5) (q0 := 0) rfl rfl, fun U hU hW => ⟨rfl, PR.to hPc hK hNB hU hW⟩⟩ rfl rfl hl.1 rfl (lv_room (Nat.le_of_ble_eq_true rfl)) dX5_leastWith_45 ⟨Nat.le_of_ble_eq_true rfl, Nat.le_of_ble_eq_true rfl⟩).run (fun r_6 hrr_6 => ?_)
          subst hrr_6
          refine lv_land hx hb dX5_leastWith_48 ?_
          refine lv_lstore (lv' := [(4, .long (((vl (i * 100 + j) ^^^ allW (nI v)) ^^^ (-1)) &&& (maskW ni))), (0, .ref qm), (1, .int (nI j)), (2, .int (nI v)), (3, .int (nI i))]) hx hb dX5_leastWith_49 hl (by decide) rfl (fun ls hl => ?_)
          refine lv_lload hx hb dX5_leastWith_51 (lv_at hl 0 rfl) ?_
          refine lv_lconst (v := 0) hx hb dX5_leastWith_53 (by decide) ?_
          refine W.lcmp hx hb dX5_leastWith_54 ?_
          refine lv_if_eq (tgt := 69) hx hb dX5_leastWith_55 (by decide) (fun c_55 => ?_) (fun c_55 => ?_)
          · skip
            rw [zc_lcmp] at c_55
            refine lv_iinc (v := (nI (i + 1))) (lv' := [(3, .int (nI (i + 1))), (4, .long (((vl (i * 100 + j) ^^^ allW (nI v)) ^^^ (-1)) &&& (maskW ni))), (0, .ref qm), (1, .int (nI j)), (2, .int (nI v))]) hx hb dX5_leastWith_69 hl (k := 4) rfl (nI_add _ 1) (by decide) rfl (fun ls hl => ?_)
            refine lv_goto (tgt := 2) hx hb dX5_leastWith_72 (by decide) ?_
            exact ih2 (i + 1) tv2_3 b1 (by omega) (hg.trans (leastF_next (by omega) c_55)) (by omega) _ _ hP hD hS ls (lv_sub hl [2, 3, 4, 0] rfl)
          · skip
            rw [zc_lcmp] at c_55
            refine lv_bipush (v := (nI 64)) hx hb dX5_leastWith_58 (by decide) ?_
            refine lv_iload_n hx hb dX5_leastWith_60 rfl (lv_at hl 4 rfl) ?_
            refine lv_imul hx hb dX5_leastWith_61 ?_
            refine zz_i (z := (nI (64 * i))) (pk_mul _ _) ?_
            refine lv_lload hx hb dX5_leastWith_62 (lv_at hl 0 rfl) ?_
            refine vp_callSi (va_runS (As := [.long (((vl (i * 100 + j) ^^^ allW (nI v)) ^^^ (-1)) &&& (maskW ni))]) (rest := [.int (nI (64 * i))]) ⟨hx, hb, hml, hown, hts⟩ (c_X5_firstOf l (((vl (i * 100 + j) ^^^ allW (nI v)) ^^^ (-1)) &&& (maskW ni)) c_55) (va_cwS 1 hts gX5_leastWith_X5_firstOf rfl rfl rfl (by decide +kernel) ⟨Nat.le_of_ble_eq_true rfl, Nat.le_of_ble_eq_true rfl⟩) ⟨zt_blind, fun U hU hW => ⟨rfl, trivial⟩⟩ rfl rfl hl.1 rfl (lv_room (Nat.le_of_ble_eq_true rfl)) dX5_leastWith_64 ⟨Nat.le_of_ble_eq_true rfl, Nat.le_of_ble_eq_true rfl⟩).run (fun r_7 hrr_7 => ?_)
            subst hrr_7
            refine lv_iadd hx hb dX5_leastWith_67 ?_
            refine zz_i (z := (nI ((64 * i) + (lowN (((vl (i * 100 + j) ^^^ allW (nI v)) ^^^ (-1)) &&& (maskW ni)))))) (nI_add _ _) ?_
            exact W.iret (v := (nI ((64 * i) + (lowN (((vl (i * 100 + j) ^^^ allW (nI v)) ^^^ (-1)) &&& (maskW ni)))))) hx hb hr (fun t_9 ht_9 hW_9 => ⟨⟨(nI ((64 * i) + (lowN (((vl (i * 100 + j) ^^^ allW (nI v)) ^^^ (-1)) &&& (maskW ni))))), (tv2_3, b1), rfl, (show (nI ((64 * i) + (lowN (((vl (i * 100 + j) ^^^ allW (nI v)) ^^^ (-1)) &&& (maskW ni))))) = (leastF (fun w => ((vl (w * 100 + j) ^^^ allW (nI v)) ^^^ (-1)) &&& maskW ni) (wordsN ni) 0) from (by rw [hg, leastF_hit (by omega) c_55, Nat.mul_comm 64 i])), ⟨by rw [ht_9]; exact hP, hD⟩⟩, hS.F ht_9⟩) hS.2.2 dX5_leastWith_68
  exact loop2 ((wordsN ni - 0) + 1) 0 gd bd (Nat.zero_le _) rfl (Nat.lt_succ_self _) _ _ hP hD hS ls (lv_sub hl [1, 2, 3, 0] rfl)
