set_option maxHeartbeats 4000000 in
set_option maxRecDepth 100000 in
theorem c_X5_find (l : Launch) (D : va_G) (cI cJ cZ : ClassId) (qm : Nat) (mk : Nat) (m0 : Nat) (m1 : Nat) (mi : Nat) (mo : Nat) (ml : Nat) (mf : Nat) (ma : Nat) (mfd : Nat) (mts : Nat) (mg : Nat) (mb : Nat) (cd : Int32) (n : Nat) (ni : Nat) (no : Nat) (cl : Nat) (tc : Nat) (kd : Nat → Int32) (s0 : Nat → Int32) (s1 : Nat → Int32) (io : Nat → Int32) (on : Nat → Int32) (cf : Nat → Int32) (fd : Nat → Int32) (gd : Nat → Int64) (bd : Nat → Int64) (vl : Nat → Int64) (a : Int32) (sz : Nat) (A : Nat → Prop) (hAe : A = va_A [(qm, .inr (5, [.int cd, .int (nI n), .int (nI ni), .int (nI no), .ref mk, .ref m0, .ref m1, .ref mi, .ref mo, .ref ml, .ref mf, .ref ma, .int (nI cl), .ref mfd, .ref mts, .int (nI tc), .ref mg, .ref mb])), (mk, .inl (cI, 100, .inl kd)), (m0, .inl (cI, 100, .inl s0)), (m1, .inl (cI, 100, .inl s1)), (mi, .inl (cI, 100, .inl io)), (mo, .inl (cI, 12, .inl on)), (mf, .inl (cI, 600, .inl cf)), (mfd, .inl (cZ, 600, .inl fd)), (mg, .inl (cJ, 100, .inr (.inl gd))), (mb, .inl (cJ, 100, .inr (.inl bd)))] sz) (hn : n ≤ 100) (hno : no ≤ 12) (hwf : WF n kd s0 s1) (hwo : WO n no on) (hkd : KD n kd) (hio : IOK n kd io) (hV : VOK n kd s0 s1 io vl) (hni : ni ≤ 10) (hcl : cl ≤ 600) (hcf : CFOK n kd cl cf) : Met l yX5_find wsX5_find ({ frames := 4, cells := 0, slots := 0, locals := 103 } : Room) (va_Pc [.ref qm, .int a] (PW D cI cJ cZ [(qm, .inr (5, [.int cd, .int (nI n), .int (nI ni), .int (nI no), .ref mk, .ref m0, .ref m1, .ref mi, .ref mo, .ref ml, .ref mf, .ref ma, .int (nI cl), .ref mfd, .ref mts, .int (nI tc), .ref mg, .ref mb])), (mk, .inl (cI, 100, .inl kd)), (m0, .inl (cI, 100, .inl s0)), (m1, .inl (cI, 100, .inl s1)), (mi, .inl (cI, 100, .inl io)), (mo, .inl (cI, 12, .inl on)), (mf, .inl (cI, 600, .inl cf)), (mfd, .inl (cZ, 600, .inl fd)), (mg, .inl (cJ, 100, .inr (.inl gd))), (mb, .inl (cJ, 100, .inr (.inl bd)))] sz)) (va_Qi (fun (r_9 : Int32) (u9 : (Nat → Int64) × (Nat → Int64) × (Nat → Int32)) => match u9 with | (gd2, bd2, fd2) => r_9 = (nI ((fndF (sawB kd s0 s1 on vl n ni no cf (knownN ni a)) fd cl).2)) ∧ fd2 = (fndF (sawB kd s0 s1 on vl n ni no cf (knownN ni a)) fd cl).1) (fun (u9 : (Nat → Int64) × (Nat → Int64) × (Nat → Int32)) t => match u9 with | (gd2, bd2, fd2) => PQ D A [(qm, .inr (5, [.int cd, .int (nI n), .int (nI ni), .int (nI no), .ref mk, .ref m0, .ref m1, .ref mi, .ref mo, .ref ml, .ref mf, .ref ma, .int (nI cl), .ref mfd, .ref mts, .int (nI tc), .ref mg, .ref mb])), (mk, .inl (cI, 100, .inl kd)), (m0, .inl (cI, 100, .inl s0)), (m1, .inl (cI, 100, .inl s1)), (mi, .inl (cI, 100, .inl io)), (mo, .inl (cI, 12, .inl on)), (mf, .inl (cI, 600, .inl cf)), (mfd, .inl (cZ, 600, .inl fd2)), (mg, .inl (cJ, 100, .inr (.inl gd2))), (mb, .inl (cJ, 100, .inr (.inl bd2)))] t) A) 0 0 A := by
  refine Met.ofW (cc := cX5_find) (maxL := 4) (ret := (some .int)) (by decide) rfl ?_
  intro p e s m args below meth c s₁ B hml hv
  obtain ⟨rfl, hsz, ⟨hP, hK, hNB⟩, hD0⟩ := hv
  have hx := B.exec
  have hb := B.bytes
  have hr := B.returns
  have hts := atoms_spec (ws := wsX5_find) B.pre
  have hown : s.vm.findClass RX5 = some m.cls := findClass_of_methodNamed B.named
  have hlocks := B.notSynchronized
  have hiX5 : ∀ w ∈ u_ws RX5 TX5 18, w ∈ wsX5_find := by decide +kernel
  subst hsz
  have hD : va_D A [(qm, .inr (5, [.int cd, .int (nI n), .int (nI ni), .int (nI no), .ref mk, .ref m0, .ref m1, .ref mi, .ref mo, .ref ml, .ref mf, .ref ma, .int (nI cl), .ref mfd, .ref mts, .int (nI tc), .ref mg, .ref mb])), (mk, .inl (cI, 100, .inl kd)), (m0, .inl (cI, 100, .inl s0)), (m1, .inl (cI, 100, .inl s1)), (mi, .inl (cI, 100, .inl io)), (mo, .inl (cI, 12, .inl on)), (mf, .inl (cI, 600, .inl cf)), (mfd, .inl (cZ, 600, .inl fd)), (mg, .inl (cJ, 100, .inr (.inl gd))), (mb, .inl (cJ, 100, .inr (.inl bd)))] := by rw [hAe]; exact hD0.self
  have hA : ∀ q : Nat, s.heap.size ≤ q → A q := fun q h => by rw [hAe]; exact Or.inr h
  have hS : va_S A s.heap s.heap [] := va_S.rf
  have hl := lv_entry ([.ref qm, .int a]) (n := 4) (Nat.le_of_ble_eq_true rfl)
  rw [lg_entry_eq]
  generalize (lg_sl ([.ref qm, .int a]) ++ List.replicate (4 - (lg_sl ([.ref qm, .int a])).length) Slot.unset).toArray = ls at hl ⊢
  have hl : lv_has ls 4 [(0, .ref qm), (1, .int a)] := hl
  refine lv_iconst (v := (nI 0)) hx hb dX5_find_0 (by decide) ?_
  refine lv_istore_n (lv' := [(2, .int (nI 0)), (0, .ref qm), (1, .int a)]) hx hb dX5_find_1 rfl hl (by decide) rfl (fun ls hl => ?_)
  refine lv_iconst (v := (nI 0)) hx hb dX5_find_2 (by decide) ?_
  refine lv_istore_n (lv' := [(3, .int (nI 0)), (2, .int (nI 0)), (0, .ref qm), (1, .int a)]) hx hb dX5_find_3 rfl hl (by decide) rfl (fun ls hl => ?_)
  have loop4 : ∀ (n4 : Nat) (k : Nat) (ac : Nat) (f1 : Nat → Int32) (g1 : Nat → Int64) (b1 : Nat → Int64) (hk : k ≤ cl) (hF : (f1, ac) = fndF (sawB kd s0 s1 on vl n ni no cf (knownN ni a)) fd k), cl - k < n4 → ∀ (H : Heap) (locs : List Loc), va_P D vwCl [(qm, .inr (5, [.int cd, .int (nI n), .int (nI ni), .int (nI no), .ref mk, .ref m0, .ref m1, .ref mi, .ref mo, .ref ml, .ref mf, .ref ma, .int (nI cl), .ref mfd, .ref mts, .int (nI tc), .ref mg, .ref mb])), (mk, .inl (cI, 100, .inl kd)), (m0, .inl (cI, 100, .inl s0)), (m1, .inl (cI, 100, .inl s1)), (mi, .inl (cI, 100, .inl io)), (mo, .inl (cI, 12, .inl on)), (mf, .inl (cI, 600, .inl cf)), (mfd, .inl (cZ, 600, .inl f1)), (mg, .inl (cJ, 100, .inr (.inl g1))), (mb, .inl (cJ, 100, .inr (.inl b1)))] H → va_D A [(qm, .inr (5, [.int cd, .int (nI n), .int (nI ni), .int (nI no), .ref mk, .ref m0, .ref m1, .ref mi, .ref mo, .ref ml, .ref mf, .ref ma, .int (nI cl), .ref mfd, .ref mts, .int (nI tc), .ref mg, .ref mb])), (mk, .inl (cI, 100, .inl kd)), (m0, .inl (cI, 100, .inl s0)), (m1, .inl (cI, 100, .inl s1)), (mi, .inl (cI, 100, .inl io)), (mo, .inl (cI, 12, .inl on)), (mf, .inl (cI, 600, .inl cf)), (mfd, .inl (cZ, 600, .inl f1)), (mg, .inl (cJ, 100, .inr (.inl g1))), (mb, .inl (cJ, 100, .inr (.inl b1)))] → va_S A s.heap H locs → ∀ (ls : Array Slot), lv_has ls 4 [(0, .ref qm), (1, .int a), (2, .int (nI ac)), (3, .int (nI k))] → W p l e (headSpec wsX5_find ({ frames := 4, cells := 0, slots := 0, locals := 103 } : Room)).room s m ([.ref qm, .int a] : List Value).toArray below meth c H locs 0 0 (MQ below (va_Qi (fun (r_9 : Int32) (u9 : (Nat → Int64) × (Nat → Int64) × (Nat → Int32)) => match u9 with | (gd2, bd2, fd2) => r_9 = (nI ((fndF (sawB kd s0 s1 on vl n ni no cf (knownN ni a)) fd cl).2)) ∧ fd2 = (fndF (sawB kd s0 s1 on vl n ni no cf (knownN ni a)) fd cl).1) (fun (u9 : (Nat → Int64) × (Nat → Int64) × (Nat → Int32)) t => match u9 with | (gd2, bd2, fd2) => PQ D A [(qm, .inr (5, [.int cd, .int (nI n), .int (nI ni), .int (nI no), .ref mk, .ref m0, .ref m1, .ref mi, .ref mo, .ref ml, .ref mf, .ref ma, .int (nI cl), .ref mfd, .ref mts, .int (nI tc), .ref mg, .ref mb])), (mk, .inl (cI, 100, .inl kd)), (m0, .inl (cI, 100, .inl s0)), (m1, .inl (cI, 100, .inl s1)), (mi, .inl (cI, 100, .inl io)), (mo, .inl (cI, 12, .inl on)), (mf, .inl (cI, 600, .inl cf)), (mfd, .inl (cZ, 600, .inl fd2)), (mg, .inl (cJ, 100, .inr (.inl gd2))), (mb, .inl (cJ, 100, .inr (.inl bd2)))] t) A) ([.ref qm, .int a] : List Value).toArray s 0 0 A) (F0 m 4 ls []) := by
    intro n4
    induction n4 with
    | zero => intro k ac f1 g1 b1 hk hF hm; exact absurd hm (Nat.not_lt_zero _)
    | succ n4 ih4 =>
      intro k ac f1 g1 b1 hk hF hm4 H locs hP hD hS ls hl
      refine lv_iload_n hx hb dX5_find_4 rfl (lv_at hl 3 rfl) ?_
      refine lv_aload_n hx hb dX5_find_5 rfl (lv_at hl 0 rfl) ?_
      refine va_get (D := D) (ci := 5) (v := .int (nI cl)) (C := RX5) (T := TX5) (N := 18) hx hb hts hiX5 hown hK hP 0 rfl rfl 12 (by decide) (hts (.fieldLink RX5 94 "FaultSearchModel" "classes" "I") (by decide +kernel)) (fun _ h9 => h9) rfl dX5_find_6 ?_
      refine lv_icmp_ge (tgt := 51) hx hb dX5_find_9 (by decide) (fun c_9 => ?_) (fun c_9 => ?_)
      · skip
        rw [zc_le (by omega) (by omega)] at c_9
        refine lv_iload_n hx hb dX5_find_51 rfl (lv_at hl 2 rfl) ?_
        exact W.iret (v := (nI ac)) hx hb hr (fun t_9 ht_9 hW_9 => ⟨⟨(nI ac), (g1, b1, f1), rfl, (show (nI ac) = (nI ((fndF (sawB kd s0 s1 on vl n ni no cf (knownN ni a)) fd cl).2)) ∧ f1 = (fndF (sawB kd s0 s1 on vl n ni no cf (knownN ni a)) fd cl).1 from ⟨(by rw [← show k = cl by omega, ← hF]), (by rw [← show k = cl by omega, ← hF])⟩), ⟨by rw [ht_9]; exact hP, hD⟩⟩, hS.F ht_9⟩) hS.2.2 dX5_find_52
      · skip
        rw [zc_le (by omega) (by omega)] at c_9
        refine lv_aload_n hx hb dX5_find_12 rfl (lv_at hl 0 rfl) ?_
        refine va_get (D := D) (ci := 5) (v := .ref mfd) (C := RX5) (T := TX5) (N := 18) hx hb hts hiX5 hown hK hP 0 rfl rfl 13 (by decide) (hts (.fieldLink RX5 34 "FaultSearchModel" "found" "[Z") (by decide +kernel)) (fun _ h9 => h9) rfl dX5_find_13 ?_
        refine lv_iload_n hx hb dX5_find_16 rfl (lv_at hl 3 rfl) ?_
        refine zz_zald hx hb hK hP 7 2 rfl rfl (n := 600) (j := k) (by omega) (by decide) dX5_find_17 ?_
        refine lv_if_ne (tgt := 45) hx hb dX5_find_18 (by decide) (fun c_18 => ?_) (fun c_18 => ?_)
        · skip
          refine lv_iinc (v := (nI (k + 1))) (lv' := [(3, .int (nI (k + 1))), (0, .ref qm), (1, .int a), (2, .int (nI ac))]) hx hb dX5_find_45 hl (k := 3) rfl (nI_add _ 1) (by decide) rfl (fun ls hl => ?_)
          refine lv_goto (tgt := 4) hx hb dX5_find_48 (by decide) ?_
          exact ih4 (k + 1) ac f1 g1 b1 (by omega) (fndF_n hF (fun h => by first | exact c_18 h.1 | exact c_32 (of_decide_eq_true h.2))) (by omega) _ _ hP hD hS ls (lv_sub hl [1, 2, 3, 0] rfl)
        · skip
          refine lv_aload_n hx hb dX5_find_21 rfl (lv_at hl 0 rfl) ?_
          refine lv_aload_n hx hb dX5_find_22 rfl (lv_at hl 0 rfl) ?_
          refine va_get (D := D) (ci := 5) (v := .ref mf) (C := RX5) (T := TX5) (N := 18) hx hb hts hiX5 hown hK hP 0 rfl rfl 10 (by decide) (hts (.fieldLink RX5 28 "FaultSearchModel" "classFirst" "[I") (by decide +kernel)) (fun _ h9 => h9) rfl dX5_find_23 ?_
          refine lv_iload_n hx hb dX5_find_26 rfl (lv_at hl 3 rfl) ?_
          refine zz_iald hx hb hK hP 6 0 rfl rfl (n := 600) (j := k) (by omega) (by decide) dX5_find_27 ?_
          refine zz_i (z := (nI (cn (cf k)))) (hcf k (by omega)).1 ?_
          refine lv_iload_n hx hb dX5_find_28 rfl (lv_at hl 1 rfl) ?_
          have hPc := hP.sub (ws' := [(qm, .inr (5, [.int cd, .int (nI n), .int (nI ni), .int (nI no), .ref mk, .ref m0, .ref m1, .ref mi, .ref mo, .ref ml, .ref mf, .ref ma, .int (nI cl), .ref mfd, .ref mts, .int (nI tc), .ref mg, .ref mb])), (mk, .inl (cI, 100, .inl kd)), (m0, .inl (cI, 100, .inl s0)), (m1, .inl (cI, 100, .inl s1)), (mi, .inl (cI, 100, .inl io)), (mo, .inl (cI, 12, .inl on)), (mg, .inl (cJ, 100, .inr (.inl g1))), (mb, .inl (cJ, 100, .inr (.inl b1)))]) [0, 1, 2, 3, 4, 5, 8, 9] rfl
          have hDc := hD.sub (ws' := [(qm, .inr (5, [.int cd, .int (nI n), .int (nI ni), .int (nI no), .ref mk, .ref m0, .ref m1, .ref mi, .ref mo, .ref ml, .ref mf, .ref ma, .int (nI cl), .ref mfd, .ref mts, .int (nI tc), .ref mg, .ref mb])), (mk, .inl (cI, 100, .inl kd)), (m0, .inl (cI, 100, .inl s0)), (m1, .inl (cI, 100, .inl s1)), (mi, .inl (cI, 100, .inl io)), (mo, .inl (cI, 12, .inl on)), (mg, .inl (cJ, 100, .inr (.inl g1))), (mb, .inl (cJ, 100, .inr (.inl b1)))]) [0, 1, 2, 3, 4, 5, 8, 9] (by decide) rfl
          have hFc := va_free (wc := [(qm, .inr (5, [.int cd, .int (nI n), .int (nI ni), .int (nI no), .ref mk, .ref m0, .ref m1, .ref mi, .ref mo, .ref ml, .ref mf, .ref ma, .int (nI cl), .ref mfd, .ref mts, .int (nI tc), .ref mg, .ref mb])), (mk, .inl (cI, 100, .inl kd)), (m0, .inl (cI, 100, .inl s0)), (m1, .inl (cI, 100, .inl s1)), (mi, .inl (cI, 100, .inl io)), (mo, .inl (cI, 12, .inl on)), (mg, .inl (cJ, 100, .inr (.inl g1))), (mb, .inl (cJ, 100, .inr (.inl b1)))]) hD hS hA [0, 1, 2, 3, 4, 5, 8, 9] rfl
          refine va_calli (va_runV (As := [.int (nI (cn (cf k))), .int a]) (rest := []) ⟨hx, hb, hml, hown, hts⟩ (c_X5_isShown l D cI cJ cZ qm mk m0 m1 mi mo ml mf ma mfd mts mg mb cd n ni no cl tc kd s0 s1 io on g1 b1 vl (cn (cf k)) a H.size _ rfl (by omega) (by omega) hwf hwo hkd hio hV (by omega) (hcf k (by omega)).2.1 (hcf k (by omega)).2.2.1) (cwV 2 hts gX5_find_X5_isShown rfl rfl rfl (by decide +kernel) ⟨Nat.le_of_ble_eq_true rfl, Nat.le_of_ble_eq_true rfl⟩) ⟨PW.blind, va_recv hK hPc (ci := 5) (q0 := 0) rfl rfl, fun U hU hW => ⟨rfl, PW.to hPc hK hNB hDc hU hW⟩⟩ rfl rfl hl.1 rfl (lv_room (Nat.le_of_ble_eq_true rfl)) dX5_find_29 ⟨Nat.le_of_ble_eq_true rfl, Nat.le_of_ble_eq_true rfl⟩) hS (fun q _ h => hFc q h) hFc (fun r_1 u_9 t_9 H1_9 locs ht_9 hvm_9 hw_9 hB_9 hz1_9 hk1_9 hS => ?_)
          obtain ⟨gd2_2, bd2_3⟩ := u_9
          obtain ⟨hP1_9, hD1_9⟩ := hB_9
          rw [ht_9] at hP1_9
          obtain rfl := hw_9
          obtain ⟨hP, hD⟩ := va_join (wr := [(mf, .inl (cI, 600, .inl cf)), (mfd, .inl (cZ, 600, .inl f1))]) (w1 := [(qm, .inr (5, [.int cd, .int (nI n), .int (nI ni), .int (nI no), .ref mk, .ref m0, .ref m1, .ref mi, .ref mo, .ref ml, .ref mf, .ref ma, .int (nI cl), .ref mfd, .ref mts, .int (nI tc), .ref mg, .ref mb])), (mk, .inl (cI, 100, .inl kd)), (m0, .inl (cI, 100, .inl s0)), (m1, .inl (cI, 100, .inl s1)), (mi, .inl (cI, 100, .inl io)), (mo, .inl (cI, 12, .inl on)), (mg, .inl (cJ, 100, .inr (.inl gd2_2))), (mb, .inl (cJ, 100, .inr (.inl bd2_3)))]) hP hD [0, 1, 2, 3, 4, 5, 8, 9] [6, 7] rfl rfl (by decide) (by decide) hk1_9 hFc hP1_9 hD1_9
          have hP := hP.sub (ws' := [(qm, .inr (5, [.int cd, .int (nI n), .int (nI ni), .int (nI no), .ref mk, .ref m0, .ref m1, .ref mi, .ref mo, .ref ml, .ref mf, .ref ma, .int (nI cl), .ref mfd, .ref mts, .int (nI tc), .ref mg, .ref mb])), (mk, .inl (cI, 100, .inl kd)), (m0, .inl (cI, 100, .inl s0)), (m1, .inl (cI, 100, .inl s1)), (mi, .inl (cI, 100, .inl io)), (mo, .inl (cI, 12, .inl on)), (mf, .inl (cI, 600, .inl cf)), (mfd, .inl (cZ, 600, .inl f1)), (mg, .inl (cJ, 100, .inr (.inl gd2_2))), (mb, .inl (cJ, 100, .inr (.inl bd2_3)))]) [2, 3, 4, 5, 6, 7, 0, 1, 8, 9] rfl
          have hD := hD.sub (ws' := [(qm, .inr (5, [.int cd, .int (nI n), .int (nI ni), .int (nI no), .ref mk, .ref m0, .ref m1, .ref mi, .ref mo, .ref ml, .ref mf, .ref ma, .int (nI cl), .ref mfd, .ref mts, .int (nI tc), .ref mg, .ref mb])), (mk, .inl (cI, 100, .inl kd)), (m0, .inl (cI, 100, .inl s0)), (m1, .inl (cI, 100, .inl s1)), (mi, .inl (cI, 100, .inl io)), (mo, .inl (cI, 12, .inl on)), (mf, .inl (cI, 600, .inl cf)), (mfd, .inl (cZ, 600, .inl f1)), (mg, .inl (cJ, 100, .inr (.inl gd2_2))), (mb, .inl (cJ, 100, .inr (.inl bd2_3)))]) [2, 3, 4, 5, 6, 7, 0, 1, 8, 9] (by decide) rfl
          generalize H1_9 = H at hP hS ⊢
          have hP : va_P D vwCl [(qm, .inr (5, [.int cd, .int (nI n), .int (nI ni), .int (nI no), .ref mk, .ref m0, .ref m1, .ref mi, .ref mo, .ref ml, .ref mf, .ref ma, .int (nI cl), .ref mfd, .ref mts, .int (nI tc), .ref mg, .ref mb])), (mk, .inl (cI, 100, .inl kd)), (m0, .inl (cI, 100, .inl s0)), (m1, .inl (cI, 100, .inl s1)), (mi, .inl (cI, 100, .inl io)), (mo, .inl (cI, 12, .inl on)), (mf, .inl (cI, 600, .inl cf)), (mfd, .inl (cZ, 600, .inl f1)), (mg, .inl (cJ, 100, .inr (.inl gd2_2))), (mb, .inl (cJ, 100, .inr (.inl bd2_3)))] H := hP
          have hD : va_D A [(qm, .inr (5, [.int cd, .int (nI n), .int (nI ni), .int (nI no), .ref mk, .ref m0, .ref m1, .ref mi, .ref mo, .ref ml, .ref mf, .ref ma, .int (nI cl), .ref mfd, .ref mts, .int (nI tc), .ref mg, .ref mb])), (mk, .inl (cI, 100, .inl kd)), (m0, .inl (cI, 100, .inl s0)), (m1, .inl (cI, 100, .inl s1)), (mi, .inl (cI, 100, .inl io)), (mo, .inl (cI, 12, .inl on)), (mf, .inl (cI, 600, .inl cf)), (mfd, .inl (cZ, 600, .inl f1)), (mg, .inl (cJ, 100, .inr (.inl gd2_2))), (mb, .inl (cJ, 100, .inr (.inl bd2_3)))] := hD
          refine lv_if_eq (tgt := 45) hx hb dX5_find_32 (by decide) (fun c_32 => ?_) (fun c_32 => ?_)
          · skip
            rw [zc_if0] at c_32
            refine lv_iinc (v := (nI (k + 1))) (lv' := [(3, .int (nI (k + 1))), (0, .ref qm), (1, .int a), (2, .int (nI ac))]) hx hb dX5_find_45 hl (k := 3) rfl (nI_add _ 1) (by decide) rfl (fun ls hl => ?_)
            refine lv_goto (tgt := 4) hx hb dX5_find_48 (by decide) ?_
            exact ih4 (k + 1) ac f1 gd2_2 bd2_3 (by omega) (fndF_n hF (fun h => by first | exact c_18 h.1 | exact c_32 (of_decide_eq_true h.2))) (by omega) _ _ hP hD hS ls (lv_sub hl [1, 2, 3, 0] rfl)
          · skip
            rw [zc_if0] at c_32
            have c_32 := Classical.not_not.mp c_32
            refine lv_aload_n hx hb dX5_find_35 rfl (lv_at hl 0 rfl) ?_
            refine va_get (D := D) (ci := 5) (v := .ref mfd) (C := RX5) (T := TX5) (N := 18) hx hb hts hiX5 hown hK hP 0 rfl rfl 13 (by decide) (hts (.fieldLink RX5 34 "FaultSearchModel" "found" "[Z") (by decide +kernel)) (fun _ h9 => h9) rfl dX5_find_36 ?_
            refine lv_iload_n hx hb dX5_find_39 rfl (lv_at hl 3 rfl) ?_
            refine lv_iconst (v := (nI 1)) hx hb dX5_find_40 (by decide) ?_
            refine zz_zast hx hb hK hP hD hS 7 2 rfl rfl (by decide) (n := 600) (j := k) (by omega) (by decide) dX5_find_41 (fun H locs hP hD hS => ?_)
            have hP : va_P D vwCl [(qm, .inr (5, [.int cd, .int (nI n), .int (nI ni), .int (nI no), .ref mk, .ref m0, .ref m1, .ref mi, .ref mo, .ref ml, .ref mf, .ref ma, .int (nI cl), .ref mfd, .ref mts, .int (nI tc), .ref mg, .ref mb])), (mk, .inl (cI, 100, .inl kd)), (m0, .inl (cI, 100, .inl s0)), (m1, .inl (cI, 100, .inl s1)), (mi, .inl (cI, 100, .inl io)), (mo, .inl (cI, 12, .inl on)), (mf, .inl (cI, 600, .inl cf)), (mfd, .inl (cZ, 600, .inl (upd f1 k (nI 1)))), (mg, .inl (cJ, 100, .inr (.inl gd2_2))), (mb, .inl (cJ, 100, .inr (.inl bd2_3)))] H := hP
            have hD : va_D A [(qm, .inr (5, [.int cd, .int (nI n), .int (nI ni), .int (nI no), .ref mk, .ref m0, .ref m1, .ref mi, .ref mo, .ref ml, .ref mf, .ref ma, .int (nI cl), .ref mfd, .ref mts, .int (nI tc), .ref mg, .ref mb])), (mk, .inl (cI, 100, .inl kd)), (m0, .inl (cI, 100, .inl s0)), (m1, .inl (cI, 100, .inl s1)), (mi, .inl (cI, 100, .inl io)), (mo, .inl (cI, 12, .inl on)), (mf, .inl (cI, 600, .inl cf)), (mfd, .inl (cZ, 600, .inl (upd f1 k (nI 1)))), (mg, .inl (cJ, 100, .inr (.inl gd2_2))), (mb, .inl (cJ, 100, .inr (.inl bd2_3)))] := hD
            refine lv_iinc (v := (nI (ac + 1))) (lv' := [(2, .int (nI (ac + 1))), (0, .ref qm), (1, .int a), (3, .int (nI k))]) hx hb dX5_find_42 hl (k := 2) rfl (nI_add _ 1) (by decide) rfl (fun ls hl => ?_)
            refine lv_iinc (v := (nI (k + 1))) (lv' := [(3, .int (nI (k + 1))), (2, .int (nI (ac + 1))), (0, .ref qm), (1, .int a)]) hx hb dX5_find_45 hl (k := 3) rfl (nI_add _ 1) (by decide) rfl (fun ls hl => ?_)
            refine lv_goto (tgt := 4) hx hb dX5_find_48 (by decide) ?_
            exact ih4 (k + 1) (ac + 1) (upd f1 k (nI 1)) gd2_2 bd2_3 (by omega) (fndF_y hF c_18 (decide_eq_true c_32)) (by omega) _ _ hP hD hS ls (lv_sub hl [2, 3, 1, 0] rfl)
  exact loop4 ((cl - 0) + 1) 0 0 fd gd bd (Nat.zero_le _) rfl (Nat.lt_succ_self _) _ _ hP hD hS ls (lv_sub hl [2, 3, 1, 0] rfl)

set_option maxHeartbeats 4000000 in
set_option maxRecDepth 100000 in
theorem c_X5_run (l : Launch) (D : va_G) (cI cJ cZ : ClassId) (qm : Nat) (mk : Nat) (m0 : Nat) (m1 : Nat) (mi : Nat) (mo : Nat) (ml : Nat) (mf : Nat) (ma : Nat) (mfd : Nat) (mts : Nat) (mg : Nat) (mb : Nat) (cd : Int32) (n : Nat) (ni : Nat) (no : Nat) (cl : Nat) (tc : Nat) (kd : Nat → Int32) (s0 : Nat → Int32) (s1 : Nat → Int32) (io : Nat → Int32) (on : Nat → Int32) (cf : Nat → Int32) (fd : Nat → Int32) (ts : Nat → Int32) (gd : Nat → Int64) (bd : Nat → Int64) (vl : Nat → Int64) (sz : Nat) (A : Nat → Prop) (hAe : A = va_A [(qm, .inr (5, [.int cd, .int (nI n), .int (nI ni), .int (nI no), .ref mk, .ref m0, .ref m1, .ref mi, .ref mo, .ref ml, .ref mf, .ref ma, .int (nI cl), .ref mfd, .ref mts, .int (nI tc), .ref mg, .ref mb])), (mk, .inl (cI, 100, .inl kd)), (m0, .inl (cI, 100, .inl s0)), (m1, .inl (cI, 100, .inl s1)), (mi, .inl (cI, 100, .inl io)), (mo, .inl (cI, 12, .inl on)), (mf, .inl (cI, 600, .inl cf)), (mfd, .inl (cZ, 600, .inl fd)), (mts, .inl (cI, 600, .inl ts)), (mg, .inl (cJ, 100, .inr (.inl gd))), (mb, .inl (cJ, 100, .inr (.inl bd)))] sz) (hn : n ≤ 100) (hno : no ≤ 12) (hwf : WF n kd s0 s1) (hwo : WO n no on) (hkd : KD n kd) (hio : IOK n kd io) (hV : VOK n kd s0 s1 io vl) (hni : ni ≤ 10) (hcl : cl ≤ 600) (hcf : CFOK n kd cl cf) : Met l yX5_run wsX5_run ({ frames := 5, cells := 0, slots := 0, locals := 126 } : Room) (va_Pc [.ref qm] (PW D cI cJ cZ [(qm, .inr (5, [.int cd, .int (nI n), .int (nI ni), .int (nI no), .ref mk, .ref m0, .ref m1, .ref mi, .ref mo, .ref ml, .ref mf, .ref ma, .int (nI cl), .ref mfd, .ref mts, .int (nI tc), .ref mg, .ref mb])), (mk, .inl (cI, 100, .inl kd)), (m0, .inl (cI, 100, .inl s0)), (m1, .inl (cI, 100, .inl s1)), (mi, .inl (cI, 100, .inl io)), (mo, .inl (cI, 12, .inl on)), (mf, .inl (cI, 600, .inl cf)), (mfd, .inl (cZ, 600, .inl fd)), (mts, .inl (cI, 600, .inl ts)), (mg, .inl (cJ, 100, .inr (.inl gd))), (mb, .inl (cJ, 100, .inr (.inl bd)))] sz)) (va_Qi (fun (r_9 : Int32) (u9 : (Nat → Int64) × (Nat → Int64) × (Nat → Int32) × (Nat → Int32) × Nat) => match u9 with | (gd2, bd2, fd2, ts2, tc2) => r_9 = (nI tc2) ∧ (fd2, ts2, tc2) = rnF (fun a k => sawB kd s0 s1 on vl n ni no cf a k) (fun k => leastF (fun w => shw kd s0 s1 on vl n ni no (cn (cf k)) w) (wordsN ni) 0) ni cl fd ts cl) (fun (u9 : (Nat → Int64) × (Nat → Int64) × (Nat → Int32) × (Nat → Int32) × Nat) t => match u9 with | (gd2, bd2, fd2, ts2, tc2) => PQ D A [(qm, .inr (5, [.int (nI 0), .int (nI n), .int (nI ni), .int (nI no), .ref mk, .ref m0, .ref m1, .ref mi, .ref mo, .ref ml, .ref mf, .ref ma, .int (nI cl), .ref mfd, .ref mts, .int (nI tc2), .ref mg, .ref mb])), (mk, .inl (cI, 100, .inl kd)), (m0, .inl (cI, 100, .inl s0)), (m1, .inl (cI, 100, .inl s1)), (mi, .inl (cI, 100, .inl io)), (mo, .inl (cI, 12, .inl on)), (mf, .inl (cI, 600, .inl cf)), (mfd, .inl (cZ, 600, .inl fd2)), (mts, .inl (cI, 600, .inl ts2)), (mg, .inl (cJ, 100, .inr (.inl gd2))), (mb, .inl (cJ, 100, .inr (.inl bd2)))] t) A) 0 0 A := by
  refine Met.ofW (cc := cX5_run) (maxL := 3) (ret := (some .int)) (by decide) rfl ?_
  intro p e s m args below meth c s₁ B hml hv
  obtain ⟨rfl, hsz, ⟨hP, hK, hNB⟩, hD0⟩ := hv
  have hx := B.exec
  have hb := B.bytes
  have hr := B.returns
  have hts := atoms_spec (ws := wsX5_run) B.pre
  have hown : s.vm.findClass RX5 = some m.cls := findClass_of_methodNamed B.named
  have hlocks := B.notSynchronized
  have hiX5 : ∀ w ∈ u_ws RX5 TX5 18, w ∈ wsX5_run := by decide +kernel
  subst hsz
  have hD : va_D A [(qm, .inr (5, [.int cd, .int (nI n), .int (nI ni), .int (nI no), .ref mk, .ref m0, .ref m1, .ref mi, .ref mo, .ref ml, .ref mf, .ref ma, .int (nI cl), .ref mfd, .ref mts, .int (nI tc), .ref mg, .ref mb])), (mk, .inl (cI, 100, .inl kd)), (m0, .inl (cI, 100, .inl s0)), (m1, .inl (cI, 100, .inl s1)), (mi, .inl (cI, 100, .inl io)), (mo, .inl (cI, 12, .inl on)), (mf, .inl (cI, 600, .inl cf)), (mfd, .inl (cZ, 600, .inl fd)), (mts, .inl (cI, 600, .inl ts)), (mg, .inl (cJ, 100, .inr (.inl gd))), (mb, .inl (cJ, 100, .inr (.inl bd)))] := by rw [hAe]; exact hD0.self
  have hA : ∀ q : Nat, s.heap.size ≤ q → A q := fun q h => by rw [hAe]; exact Or.inr h
  have hS : va_S A s.heap s.heap [] := va_S.rf
  have hl := lv_entry ([.ref qm]) (n := 3) (Nat.le_of_ble_eq_true rfl)
  rw [lg_entry_eq]
  generalize (lg_sl ([.ref qm]) ++ List.replicate (3 - (lg_sl ([.ref qm])).length) Slot.unset).toArray = ls at hl ⊢
  have hl : lv_has ls 3 [(0, .ref qm)] := hl
  refine lv_aload_n hx hb dX5_run_0 rfl (lv_at hl 0 rfl) ?_
  refine lv_iconst (v := (nI 0)) hx hb dX5_run_1 (by decide) ?_
  refine va_put (D := D) (ci := 5) (v := .int (nI 0)) (ty := .int) (C := RX5) (T := TX5) (N := 18) hx hb hts hiX5 tyX5 tyX5_ok nmX5 hown hK hP hD hS 0 rfl rfl 0 (by decide) (hts (.fieldLink RX5 48 "FaultSearchModel" "code" "I") (by decide +kernel)) (fun _ h9 => h9) rfl (by decide +kernel) rfl rfl (Nat.le_of_ble_eq_true rfl) dX5_run_2 (fun H locs hP hD hS => ?_)
  have hP : va_P D vwCl [(qm, .inr (5, [.int (nI 0), .int (nI n), .int (nI ni), .int (nI no), .ref mk, .ref m0, .ref m1, .ref mi, .ref mo, .ref ml, .ref mf, .ref ma, .int (nI cl), .ref mfd, .ref mts, .int (nI tc), .ref mg, .ref mb])), (mk, .inl (cI, 100, .inl kd)), (m0, .inl (cI, 100, .inl s0)), (m1, .inl (cI, 100, .inl s1)), (mi, .inl (cI, 100, .inl io)), (mo, .inl (cI, 12, .inl on)), (mf, .inl (cI, 600, .inl cf)), (mfd, .inl (cZ, 600, .inl fd)), (mts, .inl (cI, 600, .inl ts)), (mg, .inl (cJ, 100, .inr (.inl gd))), (mb, .inl (cJ, 100, .inr (.inl bd)))] H := hP
  have hD : va_D A [(qm, .inr (5, [.int (nI 0), .int (nI n), .int (nI ni), .int (nI no), .ref mk, .ref m0, .ref m1, .ref mi, .ref mo, .ref ml, .ref mf, .ref ma, .int (nI cl), .ref mfd, .ref mts, .int (nI tc), .ref mg, .ref mb])), (mk, .inl (cI, 100, .inl kd)), (m0, .inl (cI, 100, .inl s0)), (m1, .inl (cI, 100, .inl s1)), (mi, .inl (cI, 100, .inl io)), (mo, .inl (cI, 12, .inl on)), (mf, .inl (cI, 600, .inl cf)), (mfd, .inl (cZ, 600, .inl fd)), (mts, .inl (cI, 600, .inl ts)), (mg, .inl (cJ, 100, .inr (.inl gd))), (mb, .inl (cJ, 100, .inr (.inl bd)))] := hD
  refine lv_aload_n hx hb dX5_run_5 rfl (lv_at hl 0 rfl) ?_
  refine lv_iconst (v := (nI 0)) hx hb dX5_run_6 (by decide) ?_
  refine va_put (D := D) (ci := 5) (v := .int (nI 0)) (ty := .int) (C := RX5) (T := TX5) (N := 18) hx hb hts hiX5 tyX5 tyX5_ok nmX5 hown hK hP hD hS 0 rfl rfl 15 (by decide) (hts (.fieldLink RX5 100 "FaultSearchModel" "testCount" "I") (by decide +kernel)) (fun _ h9 => h9) rfl (by decide +kernel) rfl rfl (Nat.le_of_ble_eq_true rfl) dX5_run_7 (fun H locs hP hD hS => ?_)
  have hP : va_P D vwCl [(qm, .inr (5, [.int (nI 0), .int (nI n), .int (nI ni), .int (nI no), .ref mk, .ref m0, .ref m1, .ref mi, .ref mo, .ref ml, .ref mf, .ref ma, .int (nI cl), .ref mfd, .ref mts, .int (nI 0), .ref mg, .ref mb])), (mk, .inl (cI, 100, .inl kd)), (m0, .inl (cI, 100, .inl s0)), (m1, .inl (cI, 100, .inl s1)), (mi, .inl (cI, 100, .inl io)), (mo, .inl (cI, 12, .inl on)), (mf, .inl (cI, 600, .inl cf)), (mfd, .inl (cZ, 600, .inl fd)), (mts, .inl (cI, 600, .inl ts)), (mg, .inl (cJ, 100, .inr (.inl gd))), (mb, .inl (cJ, 100, .inr (.inl bd)))] H := hP
  have hD : va_D A [(qm, .inr (5, [.int (nI 0), .int (nI n), .int (nI ni), .int (nI no), .ref mk, .ref m0, .ref m1, .ref mi, .ref mo, .ref ml, .ref mf, .ref ma, .int (nI cl), .ref mfd, .ref mts, .int (nI 0), .ref mg, .ref mb])), (mk, .inl (cI, 100, .inl kd)), (m0, .inl (cI, 100, .inl s0)), (m1, .inl (cI, 100, .inl s1)), (mi, .inl (cI, 100, .inl io)), (mo, .inl (cI, 12, .inl on)), (mf, .inl (cI, 600, .inl cf)), (mfd, .inl (cZ, 600, .inl fd)), (mts, .inl (cI, 600, .inl ts)), (mg, .inl (cJ, 100, .inr (.inl gd))), (mb, .inl (cJ, 100, .inr (.inl bd)))] := hD
  refine lv_iconst (v := (nI 0)) hx hb dX5_run_10 (by decide) ?_
  refine lv_istore_n (lv' := [(1, .int (nI 0)), (0, .ref qm)]) hx hb dX5_run_11 rfl hl (by decide) rfl (fun ls hl => ?_)
  have loop12 : ∀ (n12 : Nat) (k : Nat) (f1 : Nat → Int32) (t1 : Nat → Int32) (c1 : Nat) (g1 : Nat → Int64) (b1 : Nat → Int64) (hk : k ≤ cl) (hc1 : c1 ≤ k) (hF : (f1, t1, c1) = rnF (fun a k => sawB kd s0 s1 on vl n ni no cf a k) (fun k => leastF (fun w => shw kd s0 s1 on vl n ni no (cn (cf k)) w) (wordsN ni) 0) ni cl fd ts k), cl - k < n12 → ∀ (H : Heap) (locs : List Loc), va_P D vwCl [(qm, .inr (5, [.int (nI 0), .int (nI n), .int (nI ni), .int (nI no), .ref mk, .ref m0, .ref m1, .ref mi, .ref mo, .ref ml, .ref mf, .ref ma, .int (nI cl), .ref mfd, .ref mts, .int (nI c1), .ref mg, .ref mb])), (mk, .inl (cI, 100, .inl kd)), (m0, .inl (cI, 100, .inl s0)), (m1, .inl (cI, 100, .inl s1)), (mi, .inl (cI, 100, .inl io)), (mo, .inl (cI, 12, .inl on)), (mf, .inl (cI, 600, .inl cf)), (mfd, .inl (cZ, 600, .inl f1)), (mts, .inl (cI, 600, .inl t1)), (mg, .inl (cJ, 100, .inr (.inl g1))), (mb, .inl (cJ, 100, .inr (.inl b1)))] H → va_D A [(qm, .inr (5, [.int (nI 0), .int (nI n), .int (nI ni), .int (nI no), .ref mk, .ref m0, .ref m1, .ref mi, .ref mo, .ref ml, .ref mf, .ref ma, .int (nI cl), .ref mfd, .ref mts, .int (nI c1), .ref mg, .ref mb])), (mk, .inl (cI, 100, .inl kd)), (m0, .inl (cI, 100, .inl s0)), (m1, .inl (cI, 100, .inl s1)), (mi, .inl (cI, 100, .inl io)), (mo, .inl (cI, 12, .inl on)), (mf, .inl (cI, 600, .inl cf)), (mfd, .inl (cZ, 600, .inl f1)), (mts, .inl (cI, 600, .inl t1)), (mg, .inl (cJ, 100, .inr (.inl g1))), (mb, .inl (cJ, 100, .inr (.inl b1)))] → va_S A s.heap H locs → ∀ (ls : Array Slot), lv_has ls 3 [(0, .ref qm), (1, .int (nI k))] → W p l e (headSpec wsX5_run ({ frames := 5, cells := 0, slots := 0, locals := 126 } : Room)).room s m ([.ref qm] : List Value).toArray below meth c H locs 0 0 (MQ below (va_Qi (fun (r_9 : Int32) (u9 : (Nat → Int64) × (Nat → Int64) × (Nat → Int32) × (Nat → Int32) × Nat) => match u9 with | (gd2, bd2, fd2, ts2, tc2) => r_9 = (nI tc2) ∧ (fd2, ts2, tc2) = rnF (fun a k => sawB kd s0 s1 on vl n ni no cf a k) (fun k => leastF (fun w => shw kd s0 s1 on vl n ni no (cn (cf k)) w) (wordsN ni) 0) ni cl fd ts cl) (fun (u9 : (Nat → Int64) × (Nat → Int64) × (Nat → Int32) × (Nat → Int32) × Nat) t => match u9 with | (gd2, bd2, fd2, ts2, tc2) => PQ D A [(qm, .inr (5, [.int (nI 0), .int (nI n), .int (nI ni), .int (nI no), .ref mk, .ref m0, .ref m1, .ref mi, .ref mo, .ref ml, .ref mf, .ref ma, .int (nI cl), .ref mfd, .ref mts, .int (nI tc2), .ref mg, .ref mb])), (mk, .inl (cI, 100, .inl kd)), (m0, .inl (cI, 100, .inl s0)), (m1, .inl (cI, 100, .inl s1)), (mi, .inl (cI, 100, .inl io)), (mo, .inl (cI, 12, .inl on)), (mf, .inl (cI, 600, .inl cf)), (mfd, .inl (cZ, 600, .inl fd2)), (mts, .inl (cI, 600, .inl ts2)), (mg, .inl (cJ, 100, .inr (.inl gd2))), (mb, .inl (cJ, 100, .inr (.inl bd2)))] t) A) ([.ref qm] : List Value).toArray s 0 0 A) (F0 m 12 ls []) := by
    intro n12
    induction n12 with
    | zero => intro k f1 t1 c1 g1 b1 hk hc1 hF hm; exact absurd hm (Nat.not_lt_zero _)
    | succ n12 ih12 =>
      intro k f1 t1 c1 g1 b1 hk hc1 hF hm12 H locs hP hD hS ls hl
      refine lv_iload_n hx hb dX5_run_12 rfl (lv_at hl 1 rfl) ?_
      refine lv_aload_n hx hb dX5_run_13 rfl (lv_at hl 0 rfl) ?_
      refine va_get (D := D) (ci := 5) (v := .int (nI cl)) (C := RX5) (T := TX5) (N := 18) hx hb hts hiX5 hown hK hP 0 rfl rfl 12 (by decide) (hts (.fieldLink RX5 94 "FaultSearchModel" "classes" "I") (by decide +kernel)) (fun _ h9 => h9) rfl dX5_run_14 ?_
      refine lv_icmp_ge (tgt := 81) hx hb dX5_run_17 (by decide) (fun c_17 => ?_) (fun c_17 => ?_)
      · skip
        rw [zc_le (by omega) (by omega)] at c_17
        refine lv_aload_n hx hb dX5_run_81 rfl (lv_at hl 0 rfl) ?_
        refine va_get (D := D) (ci := 5) (v := .int (nI c1)) (C := RX5) (T := TX5) (N := 18) hx hb hts hiX5 hown hK hP 0 rfl rfl 15 (by decide) (hts (.fieldLink RX5 100 "FaultSearchModel" "testCount" "I") (by decide +kernel)) (fun _ h9 => h9) rfl dX5_run_82 ?_
        exact W.iret (v := (nI c1)) hx hb hr (fun t_9 ht_9 hW_9 => ⟨⟨(nI c1), (g1, b1, f1, t1, c1), rfl, (show (nI c1) = (nI c1) ∧ (f1, t1, c1) = rnF (fun a k => sawB kd s0 s1 on vl n ni no cf a k) (fun k => leastF (fun w => shw kd s0 s1 on vl n ni no (cn (cf k)) w) (wordsN ni) 0) ni cl fd ts cl from ⟨rfl, (by rw [hF, show k = cl by omega])⟩), ⟨by rw [ht_9]; exact hP, hD⟩⟩, hS.F ht_9⟩) hS.2.2 dX5_run_85
      · skip
        rw [zc_le (by omega) (by omega)] at c_17
        refine lv_aload_n hx hb dX5_run_20 rfl (lv_at hl 0 rfl) ?_
        refine va_get (D := D) (ci := 5) (v := .ref mfd) (C := RX5) (T := TX5) (N := 18) hx hb hts hiX5 hown hK hP 0 rfl rfl 13 (by decide) (hts (.fieldLink RX5 34 "FaultSearchModel" "found" "[Z") (by decide +kernel)) (fun _ h9 => h9) rfl dX5_run_21 ?_
        refine lv_iload_n hx hb dX5_run_24 rfl (lv_at hl 1 rfl) ?_
        refine zz_zald hx hb hK hP 7 2 rfl rfl (n := 600) (j := k) (by omega) (by decide) dX5_run_25 ?_
        refine lv_if_eq (tgt := 33) hx hb dX5_run_26 (by decide) (fun c_26 => ?_) (fun c_26 => ?_)
        · skip
          refine lv_aload_n hx hb dX5_run_33 rfl (lv_at hl 0 rfl) ?_
          refine lv_aload_n hx hb dX5_run_34 rfl (lv_at hl 0 rfl) ?_
          refine va_get (D := D) (ci := 5) (v := .ref mf) (C := RX5) (T := TX5) (N := 18) hx hb hts hiX5 hown hK hP 0 rfl rfl 10 (by decide) (hts (.fieldLink RX5 28 "FaultSearchModel" "classFirst" "[I") (by decide +kernel)) (fun _ h9 => h9) rfl dX5_run_35 ?_
          refine lv_iload_n hx hb dX5_run_38 rfl (lv_at hl 1 rfl) ?_
          refine zz_iald hx hb hK hP 6 0 rfl rfl (n := 600) (j := k) (by omega) (by decide) dX5_run_39 ?_
          refine zz_i (z := (nI (cn (cf k)))) (hcf k (by omega)).1 ?_
          have hPc := hP.sub (ws' := [(qm, .inr (5, [.int (nI 0), .int (nI n), .int (nI ni), .int (nI no), .ref mk, .ref m0, .ref m1, .ref mi, .ref mo, .ref ml, .ref mf, .ref ma, .int (nI cl), .ref mfd, .ref mts, .int (nI c1), .ref mg, .ref mb])), (mk, .inl (cI, 100, .inl kd)), (m0, .inl (cI, 100, .inl s0)), (m1, .inl (cI, 100, .inl s1)), (mi, .inl (cI, 100, .inl io)), (mo, .inl (cI, 12, .inl on)), (mg, .inl (cJ, 100, .inr (.inl g1))), (mb, .inl (cJ, 100, .inr (.inl b1)))]) [0, 1, 2, 3, 4, 5, 9, 10] rfl
          have hDc := hD.sub (ws' := [(qm, .inr (5, [.int (nI 0), .int (nI n), .int (nI ni), .int (nI no), .ref mk, .ref m0, .ref m1, .ref mi, .ref mo, .ref ml, .ref mf, .ref ma, .int (nI cl), .ref mfd, .ref mts, .int (nI c1), .ref mg, .ref mb])), (mk, .inl (cI, 100, .inl kd)), (m0, .inl (cI, 100, .inl s0)), (m1, .inl (cI, 100, .inl s1)), (mi, .inl (cI, 100, .inl io)), (mo, .inl (cI, 12, .inl on)), (mg, .inl (cJ, 100, .inr (.inl g1))), (mb, .inl (cJ, 100, .inr (.inl b1)))]) [0, 1, 2, 3, 4, 5, 9, 10] (by decide) rfl
          have hFc := va_free (wc := [(qm, .inr (5, [.int (nI 0), .int (nI n), .int (nI ni), .int (nI no), .ref mk, .ref m0, .ref m1, .ref mi, .ref mo, .ref ml, .ref mf, .ref ma, .int (nI cl), .ref mfd, .ref mts, .int (nI c1), .ref mg, .ref mb])), (mk, .inl (cI, 100, .inl kd)), (m0, .inl (cI, 100, .inl s0)), (m1, .inl (cI, 100, .inl s1)), (mi, .inl (cI, 100, .inl io)), (mo, .inl (cI, 12, .inl on)), (mg, .inl (cJ, 100, .inr (.inl g1))), (mb, .inl (cJ, 100, .inr (.inl b1)))]) hD hS hA [0, 1, 2, 3, 4, 5, 9, 10] rfl
          refine va_calli (va_runV (As := [.int (nI (cn (cf k)))]) (rest := []) ⟨hx, hb, hml, hown, hts⟩ (c_X5_testOf l D cI cJ cZ qm mk m0 m1 mi mo ml mf ma mfd mts mg mb (nI 0) n ni no cl c1 kd s0 s1 io on g1 b1 vl (cn (cf k)) H.size _ rfl (by omega) (by omega) hwf hwo hkd hio hV (by omega) (hcf k (by omega)).2.1 (hcf k (by omega)).2.2.1) (cwV 1 hts gX5_run_X5_testOf rfl rfl rfl (by decide +kernel) ⟨Nat.le_of_ble_eq_true rfl, Nat.le_of_ble_eq_true rfl⟩) ⟨PW.blind, va_recv hK hPc (ci := 5) (q0 := 0) rfl rfl, fun U hU hW => ⟨rfl, PW.to hPc hK hNB hDc hU hW⟩⟩ rfl rfl hl.1 rfl (lv_room (Nat.le_of_ble_eq_true rfl)) dX5_run_40 ⟨Nat.le_of_ble_eq_true rfl, Nat.le_of_ble_eq_true rfl⟩) hS (fun q _ h => hFc q h) hFc (fun r_1 u_9 t_9 H1_9 locs ht_9 hvm_9 hw_9 hB_9 hz1_9 hk1_9 hS => ?_)
          obtain ⟨gd2_2, bd2_3⟩ := u_9
          obtain ⟨hP1_9, hD1_9⟩ := hB_9
          rw [ht_9] at hP1_9
          obtain rfl := hw_9
          obtain ⟨hP, hD⟩ := va_join (wr := [(mf, .inl (cI, 600, .inl cf)), (mfd, .inl (cZ, 600, .inl f1)), (mts, .inl (cI, 600, .inl t1))]) (w1 := [(qm, .inr (5, [.int (nI 0), .int (nI n), .int (nI ni), .int (nI no), .ref mk, .ref m0, .ref m1, .ref mi, .ref mo, .ref ml, .ref mf, .ref ma, .int (nI cl), .ref mfd, .ref mts, .int (nI c1), .ref mg, .ref mb])), (mk, .inl (cI, 100, .inl kd)), (m0, .inl (cI, 100, .inl s0)), (m1, .inl (cI, 100, .inl s1)), (mi, .inl (cI, 100, .inl io)), (mo, .inl (cI, 12, .inl on)), (mg, .inl (cJ, 100, .inr (.inl gd2_2))), (mb, .inl (cJ, 100, .inr (.inl bd2_3)))]) hP hD [0, 1, 2, 3, 4, 5, 9, 10] [6, 7, 8] rfl rfl (by decide) (by decide) hk1_9 hFc hP1_9 hD1_9
          have hP := hP.sub (ws' := [(qm, .inr (5, [.int (nI 0), .int (nI n), .int (nI ni), .int (nI no), .ref mk, .ref m0, .ref m1, .ref mi, .ref mo, .ref ml, .ref mf, .ref ma, .int (nI cl), .ref mfd, .ref mts, .int (nI c1), .ref mg, .ref mb])), (mk, .inl (cI, 100, .inl kd)), (m0, .inl (cI, 100, .inl s0)), (m1, .inl (cI, 100, .inl s1)), (mi, .inl (cI, 100, .inl io)), (mo, .inl (cI, 12, .inl on)), (mf, .inl (cI, 600, .inl cf)), (mfd, .inl (cZ, 600, .inl f1)), (mts, .inl (cI, 600, .inl t1)), (mg, .inl (cJ, 100, .inr (.inl gd2_2))), (mb, .inl (cJ, 100, .inr (.inl bd2_3)))]) [3, 4, 5, 6, 7, 8, 0, 1, 2, 9, 10] rfl
          have hD := hD.sub (ws' := [(qm, .inr (5, [.int (nI 0), .int (nI n), .int (nI ni), .int (nI no), .ref mk, .ref m0, .ref m1, .ref mi, .ref mo, .ref ml, .ref mf, .ref ma, .int (nI cl), .ref mfd, .ref mts, .int (nI c1), .ref mg, .ref mb])), (mk, .inl (cI, 100, .inl kd)), (m0, .inl (cI, 100, .inl s0)), (m1, .inl (cI, 100, .inl s1)), (mi, .inl (cI, 100, .inl io)), (mo, .inl (cI, 12, .inl on)), (mf, .inl (cI, 600, .inl cf)), (mfd, .inl (cZ, 600, .inl f1)), (mts, .inl (cI, 600, .inl t1)), (mg, .inl (cJ, 100, .inr (.inl gd2_2))), (mb, .inl (cJ, 100, .inr (.inl bd2_3)))]) [3, 4, 5, 6, 7, 8, 0, 1, 2, 9, 10] (by decide) rfl
          generalize H1_9 = H at hP hS ⊢
          have hP : va_P D vwCl [(qm, .inr (5, [.int (nI 0), .int (nI n), .int (nI ni), .int (nI no), .ref mk, .ref m0, .ref m1, .ref mi, .ref mo, .ref ml, .ref mf, .ref ma, .int (nI cl), .ref mfd, .ref mts, .int (nI c1), .ref mg, .ref mb])), (mk, .inl (cI, 100, .inl kd)), (m0, .inl (cI, 100, .inl s0)), (m1, .inl (cI, 100, .inl s1)), (mi, .inl (cI, 100, .inl io)), (mo, .inl (cI, 12, .inl on)), (mf, .inl (cI, 600, .inl cf)), (mfd, .inl (cZ, 600, .inl f1)), (mts, .inl (cI, 600, .inl t1)), (mg, .inl (cJ, 100, .inr (.inl gd2_2))), (mb, .inl (cJ, 100, .inr (.inl bd2_3)))] H := hP
          have hD : va_D A [(qm, .inr (5, [.int (nI 0), .int (nI n), .int (nI ni), .int (nI no), .ref mk, .ref m0, .ref m1, .ref mi, .ref mo, .ref ml, .ref mf, .ref ma, .int (nI cl), .ref mfd, .ref mts, .int (nI c1), .ref mg, .ref mb])), (mk, .inl (cI, 100, .inl kd)), (m0, .inl (cI, 100, .inl s0)), (m1, .inl (cI, 100, .inl s1)), (mi, .inl (cI, 100, .inl io)), (mo, .inl (cI, 12, .inl on)), (mf, .inl (cI, 600, .inl cf)), (mfd, .inl (cZ, 600, .inl f1)), (mts, .inl (cI, 600, .inl t1)), (mg, .inl (cJ, 100, .inr (.inl gd2_2))), (mb, .inl (cJ, 100, .inr (.inl bd2_3)))] := hD
          refine lv_istore_n (lv' := [(2, .int (leastF (fun w => shw kd s0 s1 on vl n ni no (cn (cf k)) w) (wordsN ni) 0)), (0, .ref qm), (1, .int (nI k))]) hx hb dX5_run_43 rfl hl (by decide) rfl (fun ls hl => ?_)
          refine lv_iload_n hx hb dX5_run_44 rfl (lv_at hl 0 rfl) ?_
          refine lv_iconst (v := (-1)) hx hb dX5_run_45 (by decide) ?_
          refine lv_icmp_eq (tgt := 75) hx hb dX5_run_46 (by decide) (fun c_46 => ?_) (fun c_46 => ?_)
          · skip
            refine lv_iinc (v := (nI (k + 1))) (lv' := [(1, .int (nI (k + 1))), (2, .int (leastF (fun w => shw kd s0 s1 on vl n ni no (cn (cf k)) w) (wordsN ni) 0)), (0, .ref qm)]) hx hb dX5_run_75 hl (k := 2) rfl (nI_add _ 1) (by decide) rfl (fun ls hl => ?_)
            refine lv_goto (tgt := 12) hx hb dX5_run_78 (by decide) ?_
            exact ih12 (k + 1) f1 t1 c1 gd2_2 bd2_3 (by omega) (by omega) (rnF_n hF (fun h => by first | exact c_26 h.1 | exact h.2 c_46)) (by omega) _ _ hP hD hS ls (lv_sub hl [2, 0] rfl)
          · skip
            refine lv_aload_n hx hb dX5_run_49 rfl (lv_at hl 1 rfl) ?_
            refine va_get (D := D) (ci := 5) (v := .ref mts) (C := RX5) (T := TX5) (N := 18) hx hb hts hiX5 hown hK hP 0 rfl rfl 14 (by decide) (hts (.fieldLink RX5 38 "FaultSearchModel" "tests" "[I") (by decide +kernel)) (fun _ h9 => h9) rfl dX5_run_50 ?_
            refine lv_aload_n hx hb dX5_run_53 rfl (lv_at hl 1 rfl) ?_
            refine va_get (D := D) (ci := 5) (v := .int (nI c1)) (C := RX5) (T := TX5) (N := 18) hx hb hts hiX5 hown hK hP 0 rfl rfl 15 (by decide) (hts (.fieldLink RX5 100 "FaultSearchModel" "testCount" "I") (by decide +kernel)) (fun _ h9 => h9) rfl dX5_run_54 ?_
            refine lv_iload_n hx hb dX5_run_57 rfl (lv_at hl 0 rfl) ?_
            refine zz_iast hx hb hK hP hD hS 8 0 rfl rfl (n := 600) (j := c1) (by omega) (by decide) dX5_run_58 (fun H locs hP hD hS => ?_)
            have hP : va_P D vwCl [(qm, .inr (5, [.int (nI 0), .int (nI n), .int (nI ni), .int (nI no), .ref mk, .ref m0, .ref m1, .ref mi, .ref mo, .ref ml, .ref mf, .ref ma, .int (nI cl), .ref mfd, .ref mts, .int (nI c1), .ref mg, .ref mb])), (mk, .inl (cI, 100, .inl kd)), (m0, .inl (cI, 100, .inl s0)), (m1, .inl (cI, 100, .inl s1)), (mi, .inl (cI, 100, .inl io)), (mo, .inl (cI, 12, .inl on)), (mf, .inl (cI, 600, .inl cf)), (mfd, .inl (cZ, 600, .inl f1)), (mts, .inl (cI, 600, .inl (upd t1 c1 (leastF (fun w => shw kd s0 s1 on vl n ni no (cn (cf k)) w) (wordsN ni) 0)))), (mg, .inl (cJ, 100, .inr (.inl gd2_2))), (mb, .inl (cJ, 100, .inr (.inl bd2_3)))] H := hP
            have hD : va_D A [(qm, .inr (5, [.int (nI 0), .int (nI n), .int (nI ni), .int (nI no), .ref mk, .ref m0, .ref m1, .ref mi, .ref mo, .ref ml, .ref mf, .ref ma, .int (nI cl), .ref mfd, .ref mts, .int (nI c1), .ref mg, .ref mb])), (mk, .inl (cI, 100, .inl kd)), (m0, .inl (cI, 100, .inl s0)), (m1, .inl (cI, 100, .inl s1)), (mi, .inl (cI, 100, .inl io)), (mo, .inl (cI, 12, .inl on)), (mf, .inl (cI, 600, .inl cf)), (mfd, .inl (cZ, 600, .inl f1)), (mts, .inl (cI, 600, .inl (upd t1 c1 (leastF (fun w => shw kd s0 s1 on vl n ni no (cn (cf k)) w) (wordsN ni) 0)))), (mg, .inl (cJ, 100, .inr (.inl gd2_2))), (mb, .inl (cJ, 100, .inr (.inl bd2_3)))] := hD
            refine lv_aload_n hx hb dX5_run_59 rfl (lv_at hl 1 rfl) ?_
            refine lv_dup hx hb dX5_run_60 rfl ?_
            refine va_get (D := D) (ci := 5) (v := .int (nI c1)) (C := RX5) (T := TX5) (N := 18) hx hb hts hiX5 hown hK hP 0 rfl rfl 15 (by decide) (hts (.fieldLink RX5 100 "FaultSearchModel" "testCount" "I") (by decide +kernel)) (fun _ h9 => h9) rfl dX5_run_61 ?_
            refine lv_iconst (v := (nI 1)) hx hb dX5_run_64 (by decide) ?_
            refine lv_iadd hx hb dX5_run_65 ?_
            refine zz_i (z := (nI (c1 + 1))) (nI_add _ _) ?_
            refine va_put (D := D) (ci := 5) (v := .int (nI (c1 + 1))) (ty := .int) (C := RX5) (T := TX5) (N := 18) hx hb hts hiX5 tyX5 tyX5_ok nmX5 hown hK hP hD hS 0 rfl rfl 15 (by decide) (hts (.fieldLink RX5 100 "FaultSearchModel" "testCount" "I") (by decide +kernel)) (fun _ h9 => h9) rfl (by decide +kernel) rfl rfl (Nat.le_of_ble_eq_true rfl) dX5_run_66 (fun H locs hP hD hS => ?_)
            have hP : va_P D vwCl [(qm, .inr (5, [.int (nI 0), .int (nI n), .int (nI ni), .int (nI no), .ref mk, .ref m0, .ref m1, .ref mi, .ref mo, .ref ml, .ref mf, .ref ma, .int (nI cl), .ref mfd, .ref mts, .int (nI (c1 + 1)), .ref mg, .ref mb])), (mk, .inl (cI, 100, .inl kd)), (m0, .inl (cI, 100, .inl s0)), (m1, .inl (cI, 100, .inl s1)), (mi, .inl (cI, 100, .inl io)), (mo, .inl (cI, 12, .inl on)), (mf, .inl (cI, 600, .inl cf)), (mfd, .inl (cZ, 600, .inl f1)), (mts, .inl (cI, 600, .inl (upd t1 c1 (leastF (fun w => shw kd s0 s1 on vl n ni no (cn (cf k)) w) (wordsN ni) 0)))), (mg, .inl (cJ, 100, .inr (.inl gd2_2))), (mb, .inl (cJ, 100, .inr (.inl bd2_3)))] H := hP
            have hD : va_D A [(qm, .inr (5, [.int (nI 0), .int (nI n), .int (nI ni), .int (nI no), .ref mk, .ref m0, .ref m1, .ref mi, .ref mo, .ref ml, .ref mf, .ref ma, .int (nI cl), .ref mfd, .ref mts, .int (nI (c1 + 1)), .ref mg, .ref mb])), (mk, .inl (cI, 100, .inl kd)), (m0, .inl (cI, 100, .inl s0)), (m1, .inl (cI, 100, .inl s1)), (mi, .inl (cI, 100, .inl io)), (mo, .inl (cI, 12, .inl on)), (mf, .inl (cI, 600, .inl cf)), (mfd, .inl (cZ, 600, .inl f1)), (mts, .inl (cI, 600, .inl (upd t1 c1 (leastF (fun w => shw kd s0 s1 on vl n ni no (cn (cf k)) w) (wordsN ni) 0)))), (mg, .inl (cJ, 100, .inr (.inl gd2_2))), (mb, .inl (cJ, 100, .inr (.inl bd2_3)))] := hD
            refine lv_aload_n hx hb dX5_run_69 rfl (lv_at hl 1 rfl) ?_
            refine lv_iload_n hx hb dX5_run_70 rfl (lv_at hl 0 rfl) ?_
            have hPc := hP.sub (ws' := [(qm, .inr (5, [.int (nI 0), .int (nI n), .int (nI ni), .int (nI no), .ref mk, .ref m0, .ref m1, .ref mi, .ref mo, .ref ml, .ref mf, .ref ma, .int (nI cl), .ref mfd, .ref mts, .int (nI (c1 + 1)), .ref mg, .ref mb])), (mk, .inl (cI, 100, .inl kd)), (m0, .inl (cI, 100, .inl s0)), (m1, .inl (cI, 100, .inl s1)), (mi, .inl (cI, 100, .inl io)), (mo, .inl (cI, 12, .inl on)), (mf, .inl (cI, 600, .inl cf)), (mfd, .inl (cZ, 600, .inl f1)), (mg, .inl (cJ, 100, .inr (.inl gd2_2))), (mb, .inl (cJ, 100, .inr (.inl bd2_3)))]) [0, 1, 2, 3, 4, 5, 6, 7, 9, 10] rfl
            have hDc := hD.sub (ws' := [(qm, .inr (5, [.int (nI 0), .int (nI n), .int (nI ni), .int (nI no), .ref mk, .ref m0, .ref m1, .ref mi, .ref mo, .ref ml, .ref mf, .ref ma, .int (nI cl), .ref mfd, .ref mts, .int (nI (c1 + 1)), .ref mg, .ref mb])), (mk, .inl (cI, 100, .inl kd)), (m0, .inl (cI, 100, .inl s0)), (m1, .inl (cI, 100, .inl s1)), (mi, .inl (cI, 100, .inl io)), (mo, .inl (cI, 12, .inl on)), (mf, .inl (cI, 600, .inl cf)), (mfd, .inl (cZ, 600, .inl f1)), (mg, .inl (cJ, 100, .inr (.inl gd2_2))), (mb, .inl (cJ, 100, .inr (.inl bd2_3)))]) [0, 1, 2, 3, 4, 5, 6, 7, 9, 10] (by decide) rfl
            have hFc := va_free (wc := [(qm, .inr (5, [.int (nI 0), .int (nI n), .int (nI ni), .int (nI no), .ref mk, .ref m0, .ref m1, .ref mi, .ref mo, .ref ml, .ref mf, .ref ma, .int (nI cl), .ref mfd, .ref mts, .int (nI (c1 + 1)), .ref mg, .ref mb])), (mk, .inl (cI, 100, .inl kd)), (m0, .inl (cI, 100, .inl s0)), (m1, .inl (cI, 100, .inl s1)), (mi, .inl (cI, 100, .inl io)), (mo, .inl (cI, 12, .inl on)), (mf, .inl (cI, 600, .inl cf)), (mfd, .inl (cZ, 600, .inl f1)), (mg, .inl (cJ, 100, .inr (.inl gd2_2))), (mb, .inl (cJ, 100, .inr (.inl bd2_3)))]) hD hS hA [0, 1, 2, 3, 4, 5, 6, 7, 9, 10] rfl
            refine va_calli (va_runV (As := [.int (leastF (fun w => shw kd s0 s1 on vl n ni no (cn (cf k)) w) (wordsN ni) 0)]) (rest := []) ⟨hx, hb, hml, hown, hts⟩ (c_X5_find l D cI cJ cZ qm mk m0 m1 mi mo ml mf ma mfd mts mg mb (nI 0) n ni no cl (c1 + 1) kd s0 s1 io on cf f1 gd2_2 bd2_3 vl (leastF (fun w => shw kd s0 s1 on vl n ni no (cn (cf k)) w) (wordsN ni) 0) H.size _ rfl (by omega) (by omega) hwf hwo hkd hio hV (by omega) (by omega) hcf) (cwV 1 hts gX5_run_X5_find rfl rfl rfl (by decide +kernel) ⟨Nat.le_of_ble_eq_true rfl, Nat.le_of_ble_eq_true rfl⟩) ⟨PW.blind, va_recv hK hPc (ci := 5) (q0 := 0) rfl rfl, fun U hU hW => ⟨rfl, PW.to hPc hK hNB hDc hU hW⟩⟩ rfl rfl hl.1 rfl (lv_room (Nat.le_of_ble_eq_true rfl)) dX5_run_71 ⟨Nat.le_of_ble_eq_true rfl, Nat.le_of_ble_eq_true rfl⟩) hS (fun q _ h => hFc q h) hFc (fun r_4 u_9 t_9 H1_9 locs ht_9 hvm_9 hw_9 hB_9 hz1_9 hk1_9 hS => ?_)
            obtain ⟨gd2_5, bd2_6, fd2_7⟩ := u_9
            obtain ⟨hP1_9, hD1_9⟩ := hB_9
            rw [ht_9] at hP1_9
            obtain ⟨rfl, k_F⟩ := hw_9
            have k_F : fd2_7 = (fndF (sawB kd s0 s1 on vl n ni no cf (knownN ni (leastF (fun w => shw kd s0 s1 on vl n ni no (cn (cf k)) w) (wordsN ni) 0))) f1 cl).1 := k_F
            obtain ⟨hP, hD⟩ := va_join (wr := [(mts, .inl (cI, 600, .inl (upd t1 c1 (leastF (fun w => shw kd s0 s1 on vl n ni no (cn (cf k)) w) (wordsN ni) 0))))]) (w1 := [(qm, .inr (5, [.int (nI 0), .int (nI n), .int (nI ni), .int (nI no), .ref mk, .ref m0, .ref m1, .ref mi, .ref mo, .ref ml, .ref mf, .ref ma, .int (nI cl), .ref mfd, .ref mts, .int (nI (c1 + 1)), .ref mg, .ref mb])), (mk, .inl (cI, 100, .inl kd)), (m0, .inl (cI, 100, .inl s0)), (m1, .inl (cI, 100, .inl s1)), (mi, .inl (cI, 100, .inl io)), (mo, .inl (cI, 12, .inl on)), (mf, .inl (cI, 600, .inl cf)), (mfd, .inl (cZ, 600, .inl fd2_7)), (mg, .inl (cJ, 100, .inr (.inl gd2_5))), (mb, .inl (cJ, 100, .inr (.inl bd2_6)))]) hP hD [0, 1, 2, 3, 4, 5, 6, 7, 9, 10] [8] rfl rfl (by decide) (by decide) hk1_9 hFc hP1_9 hD1_9
            have hP := hP.sub (ws' := [(qm, .inr (5, [.int (nI 0), .int (nI n), .int (nI ni), .int (nI no), .ref mk, .ref m0, .ref m1, .ref mi, .ref mo, .ref ml, .ref mf, .ref ma, .int (nI cl), .ref mfd, .ref mts, .int (nI (c1 + 1)), .ref mg, .ref mb])), (mk, .inl (cI, 100, .inl kd)), (m0, .inl (cI, 100, .inl s0)), (m1, .inl (cI, 100, .inl s1)), (mi, .inl (cI, 100, .inl io)), (mo, .inl (cI, 12, .inl on)), (mf, .inl (cI, 600, .inl cf)), (mfd, .inl (cZ, 600, .inl fd2_7)), (mts, .inl (cI, 600, .inl (upd t1 c1 (leastF (fun w => shw kd s0 s1 on vl n ni no (cn (cf k)) w) (wordsN ni) 0)))), (mg, .inl (cJ, 100, .inr (.inl gd2_5))), (mb, .inl (cJ, 100, .inr (.inl bd2_6)))]) [1, 2, 3, 4, 5, 6, 7, 8, 0, 9, 10] rfl
            have hD := hD.sub (ws' := [(qm, .inr (5, [.int (nI 0), .int (nI n), .int (nI ni), .int (nI no), .ref mk, .ref m0, .ref m1, .ref mi, .ref mo, .ref ml, .ref mf, .ref ma, .int (nI cl), .ref mfd, .ref mts, .int (nI (c1 + 1)), .ref mg, .ref mb])), (mk, .inl (cI, 100, .inl kd)), (m0, .inl (cI, 100, .inl s0)), (m1, .inl (cI, 100, .inl s1)), (mi, .inl (cI, 100, .inl io)), (mo, .inl (cI, 12, .inl on)), (mf, .inl (cI, 600, .inl cf)), (mfd, .inl (cZ, 600, .inl fd2_7)), (mts, .inl (cI, 600, .inl (upd t1 c1 (leastF (fun w => shw kd s0 s1 on vl n ni no (cn (cf k)) w) (wordsN ni) 0)))), (mg, .inl (cJ, 100, .inr (.inl gd2_5))), (mb, .inl (cJ, 100, .inr (.inl bd2_6)))]) [1, 2, 3, 4, 5, 6, 7, 8, 0, 9, 10] (by decide) rfl
            generalize H1_9 = H at hP hS ⊢
            have hP : va_P D vwCl [(qm, .inr (5, [.int (nI 0), .int (nI n), .int (nI ni), .int (nI no), .ref mk, .ref m0, .ref m1, .ref mi, .ref mo, .ref ml, .ref mf, .ref ma, .int (nI cl), .ref mfd, .ref mts, .int (nI (c1 + 1)), .ref mg, .ref mb])), (mk, .inl (cI, 100, .inl kd)), (m0, .inl (cI, 100, .inl s0)), (m1, .inl (cI, 100, .inl s1)), (mi, .inl (cI, 100, .inl io)), (mo, .inl (cI, 12, .inl on)), (mf, .inl (cI, 600, .inl cf)), (mfd, .inl (cZ, 600, .inl fd2_7)), (mts, .inl (cI, 600, .inl (upd t1 c1 (leastF (fun w => shw kd s0 s1 on vl n ni no (cn (cf k)) w) (wordsN ni) 0)))), (mg, .inl (cJ, 100, .inr (.inl gd2_5))), (mb, .inl (cJ, 100, .inr (.inl bd2_6)))] H := hP
            have hD : va_D A [(qm, .inr (5, [.int (nI 0), .int (nI n), .int (nI ni), .int (nI no), .ref mk, .ref m0, .ref m1, .ref mi, .ref mo, .ref ml, .ref mf, .ref ma, .int (nI cl), .ref mfd, .ref mts, .int (nI (c1 + 1)), .ref mg, .ref mb])), (mk, .inl (cI, 100, .inl kd)), (m0, .inl (cI, 100, .inl s0)), (m1, .inl (cI, 100, .inl s1)), (mi, .inl (cI, 100, .inl io)), (mo, .inl (cI, 12, .inl on)), (mf, .inl (cI, 600, .inl cf)), (mfd, .inl (cZ, 600, .inl fd2_7)), (mts, .inl (cI, 600, .inl (upd t1 c1 (leastF (fun w => shw kd s0 s1 on vl n ni no (cn (cf k)) w) (wordsN ni) 0)))), (mg, .inl (cJ, 100, .inr (.inl gd2_5))), (mb, .inl (cJ, 100, .inr (.inl bd2_6)))] := hD
            refine lv_pop hx hb dX5_run_74 rfl ?_
            refine lv_iinc (v := (nI (k + 1))) (lv' := [(1, .int (nI (k + 1))), (2, .int (leastF (fun w => shw kd s0 s1 on vl n ni no (cn (cf k)) w) (wordsN ni) 0)), (0, .ref qm)]) hx hb dX5_run_75 hl (k := 2) rfl (nI_add _ 1) (by decide) rfl (fun ls hl => ?_)
            refine lv_goto (tgt := 12) hx hb dX5_run_78 (by decide) ?_
            exact ih12 (k + 1) fd2_7 (upd t1 c1 (leastF (fun w => shw kd s0 s1 on vl n ni no (cn (cf k)) w) (wordsN ni) 0)) (c1 + 1) gd2_5 bd2_6 (by omega) (by omega) (by rw [k_F]; exact rnF_y hF c_26 c_46) (by omega) _ _ hP hD hS ls (lv_sub hl [2, 0] rfl)
        · skip
          refine lv_iconst (v := (-1)) hx hb dX5_run_29 (by decide) ?_
          refine lv_goto (tgt := 43) hx hb dX5_run_30 (by decide) ?_
          refine lv_istore_n (lv' := [(2, .int (-1)), (0, .ref qm), (1, .int (nI k))]) hx hb dX5_run_43 rfl hl (by decide) rfl (fun ls hl => ?_)
          refine lv_iload_n hx hb dX5_run_44 rfl (lv_at hl 0 rfl) ?_
          refine lv_iconst (v := (-1)) hx hb dX5_run_45 (by decide) ?_
          refine lv_icmp_eq (tgt := 75) hx hb dX5_run_46 (by decide) (fun c_46 => ?_) (fun c_46 => ?_)
          · skip
            refine lv_iinc (v := (nI (k + 1))) (lv' := [(1, .int (nI (k + 1))), (2, .int (-1)), (0, .ref qm)]) hx hb dX5_run_75 hl (k := 2) rfl (nI_add _ 1) (by decide) rfl (fun ls hl => ?_)
            refine lv_goto (tgt := 12) hx hb dX5_run_78 (by decide) ?_
            exact ih12 (k + 1) f1 t1 c1 g1 b1 (by omega) (by omega) (rnF_n hF (fun h => by first | exact c_26 h.1 | exact h.2 c_46)) (by omega) _ _ hP hD hS ls (lv_sub hl [2, 0] rfl)
          · skip
            exact absurd (by decide) c_46
  exact loop12 ((cl - 0) + 1) 0 fd ts 0 gd bd (Nat.zero_le _) (Nat.le_refl _) rfl (Nat.lt_succ_self _) _ _ hP hD hS ls (lv_sub hl [1, 0] rfl)

set_option maxHeartbeats 4000000 in
set_option maxRecDepth 100000 in
theorem c_X5_simulate (l : Launch) (D : va_G) (cI cJ cZ : ClassId) (qm : Nat) (mk : Nat) (m0 : Nat) (m1 : Nat) (mi : Nat) (mo : Nat) (ml : Nat) (mf : Nat) (ma : Nat) (mfd : Nat) (mts : Nat) (mg : Nat) (mb : Nat) (cd : Int32) (n : Nat) (ni : Nat) (no : Nat) (cl : Nat) (tc : Nat) (kd : Nat → Int32) (s0 : Nat → Int32) (s1 : Nat → Int32) (io : Nat → Int32) (on : Nat → Int32) (cf : Nat → Int32) (fd : Nat → Int32) (gd : Nat → Int64) (bd : Nat → Int64) (vl : Nat → Int64) (a : Int32) (sz : Nat) (A : Nat → Prop) (hAe : A = va_A [(qm, .inr (5, [.int cd, .int (nI n), .int (nI ni), .int (nI no), .ref mk, .ref m0, .ref m1, .ref mi, .ref mo, .ref ml, .ref mf, .ref ma, .int (nI cl), .ref mfd, .ref mts, .int (nI tc), .ref mg, .ref mb])), (mk, .inl (cI, 100, .inl kd)), (m0, .inl (cI, 100, .inl s0)), (m1, .inl (cI, 100, .inl s1)), (mi, .inl (cI, 100, .inl io)), (mo, .inl (cI, 12, .inl on)), (mf, .inl (cI, 600, .inl cf)), (mfd, .inl (cZ, 600, .inl fd)), (mg, .inl (cJ, 100, .inr (.inl gd))), (mb, .inl (cJ, 100, .inr (.inl bd)))] sz) (hn : n ≤ 100) (hno : no ≤ 12) (hwf : WF n kd s0 s1) (hwo : WO n no on) (hkd : KD n kd) (hio : IOK n kd io) (hV : VOK n kd s0 s1 io vl) (hni : ni ≤ 10) (hcl : cl ≤ 600) (hcf : CFOK n kd cl cf) : Met l yX5_simulate wsX5_simulate ({ frames := 5, cells := 0, slots := 0, locals := 126 } : Room) (va_Pc [.ref qm, .int a] (PW D cI cJ cZ [(qm, .inr (5, [.int cd, .int (nI n), .int (nI ni), .int (nI no), .ref mk, .ref m0, .ref m1, .ref mi, .ref mo, .ref ml, .ref mf, .ref ma, .int (nI cl), .ref mfd, .ref mts, .int (nI tc), .ref mg, .ref mb])), (mk, .inl (cI, 100, .inl kd)), (m0, .inl (cI, 100, .inl s0)), (m1, .inl (cI, 100, .inl s1)), (mi, .inl (cI, 100, .inl io)), (mo, .inl (cI, 12, .inl on)), (mf, .inl (cI, 600, .inl cf)), (mfd, .inl (cZ, 600, .inl fd)), (mg, .inl (cJ, 100, .inr (.inl gd))), (mb, .inl (cJ, 100, .inr (.inl bd)))] sz)) (va_Qi (fun (r_9 : Int32) (u9 : (Nat → Int64) × (Nat → Int64) × (Nat → Int32)) => match u9 with | (gd2, bd2, fd2) => r_9 = (nI ((fndF (sawB kd s0 s1 on vl n ni no cf (knownN ni a)) fd cl).2)) ∧ fd2 = (fndF (sawB kd s0 s1 on vl n ni no cf (knownN ni a)) fd cl).1) (fun (u9 : (Nat → Int64) × (Nat → Int64) × (Nat → Int32)) t => match u9 with | (gd2, bd2, fd2) => PQ D A [(qm, .inr (5, [.int (nI 0), .int (nI n), .int (nI ni), .int (nI no), .ref mk, .ref m0, .ref m1, .ref mi, .ref mo, .ref ml, .ref mf, .ref ma, .int (nI cl), .ref mfd, .ref mts, .int (nI tc), .ref mg, .ref mb])), (mk, .inl (cI, 100, .inl kd)), (m0, .inl (cI, 100, .inl s0)), (m1, .inl (cI, 100, .inl s1)), (mi, .inl (cI, 100, .inl io)), (mo, .inl (cI, 12, .inl on)), (mf, .inl (cI, 600, .inl cf)), (mfd, .inl (cZ, 600, .inl fd2)), (mg, .inl (cJ, 100, .inr (.inl gd2))), (mb, .inl (cJ, 100, .inr (.inl bd2)))] t) A) 0 0 A := by
  refine Met.ofW (cc := cX5_simulate) (maxL := 2) (ret := (some .int)) (by decide) rfl ?_
  intro p e s m args below meth c s₁ B hml hv
  obtain ⟨rfl, hsz, ⟨hP, hK, hNB⟩, hD0⟩ := hv
  have hx := B.exec
  have hb := B.bytes
  have hr := B.returns
  have hts := atoms_spec (ws := wsX5_simulate) B.pre
  have hown : s.vm.findClass RX5 = some m.cls := findClass_of_methodNamed B.named
  have hlocks := B.notSynchronized
  have hiX5 : ∀ w ∈ u_ws RX5 TX5 18, w ∈ wsX5_simulate := by decide +kernel
  subst hsz
  have hD : va_D A [(qm, .inr (5, [.int cd, .int (nI n), .int (nI ni), .int (nI no), .ref mk, .ref m0, .ref m1, .ref mi, .ref mo, .ref ml, .ref mf, .ref ma, .int (nI cl), .ref mfd, .ref mts, .int (nI tc), .ref mg, .ref mb])), (mk, .inl (cI, 100, .inl kd)), (m0, .inl (cI, 100, .inl s0)), (m1, .inl (cI, 100, .inl s1)), (mi, .inl (cI, 100, .inl io)), (mo, .inl (cI, 12, .inl on)), (mf, .inl (cI, 600, .inl cf)), (mfd, .inl (cZ, 600, .inl fd)), (mg, .inl (cJ, 100, .inr (.inl gd))), (mb, .inl (cJ, 100, .inr (.inl bd)))] := by rw [hAe]; exact hD0.self
  have hA : ∀ q : Nat, s.heap.size ≤ q → A q := fun q h => by rw [hAe]; exact Or.inr h
  have hS : va_S A s.heap s.heap [] := va_S.rf
  have hl := lv_entry ([.ref qm, .int a]) (n := 2) (Nat.le_of_ble_eq_true rfl)
  rw [lg_entry_eq]
  generalize (lg_sl ([.ref qm, .int a]) ++ List.replicate (2 - (lg_sl ([.ref qm, .int a])).length) Slot.unset).toArray = ls at hl ⊢
  have hl : lv_has ls 2 [(0, .ref qm), (1, .int a)] := hl
  refine lv_aload_n hx hb dX5_simulate_0 rfl (lv_at hl 0 rfl) ?_
  refine lv_iconst (v := (nI 0)) hx hb dX5_simulate_1 (by decide) ?_
  refine va_put (D := D) (ci := 5) (v := .int (nI 0)) (ty := .int) (C := RX5) (T := TX5) (N := 18) hx hb hts hiX5 tyX5 tyX5_ok nmX5 hown hK hP hD hS 0 rfl rfl 0 (by decide) (hts (.fieldLink RX5 48 "FaultSearchModel" "code" "I") (by decide +kernel)) (fun _ h9 => h9) rfl (by decide +kernel) rfl rfl (Nat.le_of_ble_eq_true rfl) dX5_simulate_2 (fun H locs hP hD hS => ?_)
  have hP : va_P D vwCl [(qm, .inr (5, [.int (nI 0), .int (nI n), .int (nI ni), .int (nI no), .ref mk, .ref m0, .ref m1, .ref mi, .ref mo, .ref ml, .ref mf, .ref ma, .int (nI cl), .ref mfd, .ref mts, .int (nI tc), .ref mg, .ref mb])), (mk, .inl (cI, 100, .inl kd)), (m0, .inl (cI, 100, .inl s0)), (m1, .inl (cI, 100, .inl s1)), (mi, .inl (cI, 100, .inl io)), (mo, .inl (cI, 12, .inl on)), (mf, .inl (cI, 600, .inl cf)), (mfd, .inl (cZ, 600, .inl fd)), (mg, .inl (cJ, 100, .inr (.inl gd))), (mb, .inl (cJ, 100, .inr (.inl bd)))] H := hP
  have hD : va_D A [(qm, .inr (5, [.int (nI 0), .int (nI n), .int (nI ni), .int (nI no), .ref mk, .ref m0, .ref m1, .ref mi, .ref mo, .ref ml, .ref mf, .ref ma, .int (nI cl), .ref mfd, .ref mts, .int (nI tc), .ref mg, .ref mb])), (mk, .inl (cI, 100, .inl kd)), (m0, .inl (cI, 100, .inl s0)), (m1, .inl (cI, 100, .inl s1)), (mi, .inl (cI, 100, .inl io)), (mo, .inl (cI, 12, .inl on)), (mf, .inl (cI, 600, .inl cf)), (mfd, .inl (cZ, 600, .inl fd)), (mg, .inl (cJ, 100, .inr (.inl gd))), (mb, .inl (cJ, 100, .inr (.inl bd)))] := hD
  refine lv_aload_n hx hb dX5_simulate_5 rfl (lv_at hl 0 rfl) ?_
  refine lv_iload_n hx hb dX5_simulate_6 rfl (lv_at hl 1 rfl) ?_
  have hPc := hP.sub (ws' := [(qm, .inr (5, [.int (nI 0), .int (nI n), .int (nI ni), .int (nI no), .ref mk, .ref m0, .ref m1, .ref mi, .ref mo, .ref ml, .ref mf, .ref ma, .int (nI cl), .ref mfd, .ref mts, .int (nI tc), .ref mg, .ref mb])), (mk, .inl (cI, 100, .inl kd)), (m0, .inl (cI, 100, .inl s0)), (m1, .inl (cI, 100, .inl s1)), (mi, .inl (cI, 100, .inl io)), (mo, .inl (cI, 12, .inl on)), (mf, .inl (cI, 600, .inl cf)), (mfd, .inl (cZ, 600, .inl fd)), (mg, .inl (cJ, 100, .inr (.inl gd))), (mb, .inl (cJ, 100, .inr (.inl bd)))]) [0, 1, 2, 3, 4, 5, 6, 7, 8, 9] rfl
  have hDc := hD.sub (ws' := [(qm, .inr (5, [.int (nI 0), .int (nI n), .int (nI ni), .int (nI no), .ref mk, .ref m0, .ref m1, .ref mi, .ref mo, .ref ml, .ref mf, .ref ma, .int (nI cl), .ref mfd, .ref mts, .int (nI tc), .ref mg, .ref mb])), (mk, .inl (cI, 100, .inl kd)), (m0, .inl (cI, 100, .inl s0)), (m1, .inl (cI, 100, .inl s1)), (mi, .inl (cI, 100, .inl io)), (mo, .inl (cI, 12, .inl on)), (mf, .inl (cI, 600, .inl cf)), (mfd, .inl (cZ, 600, .inl fd)), (mg, .inl (cJ, 100, .inr (.inl gd))), (mb, .inl (cJ, 100, .inr (.inl bd)))]) [0, 1, 2, 3, 4, 5, 6, 7, 8, 9] (by decide) rfl
  have hFc := va_free (wc := [(qm, .inr (5, [.int (nI 0), .int (nI n), .int (nI ni), .int (nI no), .ref mk, .ref m0, .ref m1, .ref mi, .ref mo, .ref ml, .ref mf, .ref ma, .int (nI cl), .ref mfd, .ref mts, .int (nI tc), .ref mg, .ref mb])), (mk, .inl (cI, 100, .inl kd)), (m0, .inl (cI, 100, .inl s0)), (m1, .inl (cI, 100, .inl s1)), (mi, .inl (cI, 100, .inl io)), (mo, .inl (cI, 12, .inl on)), (mf, .inl (cI, 600, .inl cf)), (mfd, .inl (cZ, 600, .inl fd)), (mg, .inl (cJ, 100, .inr (.inl gd))), (mb, .inl (cJ, 100, .inr (.inl bd)))]) hD hS hA [0, 1, 2, 3, 4, 5, 6, 7, 8, 9] rfl
  refine va_calli (va_runV (As := [.int a]) (rest := []) ⟨hx, hb, hml, hown, hts⟩ (c_X5_find l D cI cJ cZ qm mk m0 m1 mi mo ml mf ma mfd mts mg mb (nI 0) n ni no cl tc kd s0 s1 io on cf fd gd bd vl a H.size _ rfl (by omega) (by omega) hwf hwo hkd hio hV (by omega) (by omega) hcf) (cwV 1 hts gX5_simulate_X5_find rfl rfl rfl (by decide +kernel) ⟨Nat.le_of_ble_eq_true rfl, Nat.le_of_ble_eq_true rfl⟩) ⟨PW.blind, va_recv hK hPc (ci := 5) (q0 := 0) rfl rfl, fun U hU hW => ⟨rfl, PW.to hPc hK hNB hDc hU hW⟩⟩ rfl rfl hl.1 rfl (lv_room (Nat.le_of_ble_eq_true rfl)) dX5_simulate_7 ⟨Nat.le_of_ble_eq_true rfl, Nat.le_of_ble_eq_true rfl⟩) hS (fun q _ h => hFc q h) hFc (fun r_1 u_9 t_9 H1_9 locs ht_9 hvm_9 hw_9 hB_9 hz1_9 hk1_9 hS => ?_)
  obtain ⟨gd2_2, bd2_3, fd2_4⟩ := u_9
  obtain ⟨hP1_9, hD1_9⟩ := hB_9
  rw [ht_9] at hP1_9
  obtain ⟨rfl, k_F⟩ := hw_9
  have k_F : fd2_4 = (fndF (sawB kd s0 s1 on vl n ni no cf (knownN ni a)) fd cl).1 := k_F
  obtain ⟨hP, hD⟩ := va_join (wr := []) (w1 := [(qm, .inr (5, [.int (nI 0), .int (nI n), .int (nI ni), .int (nI no), .ref mk, .ref m0, .ref m1, .ref mi, .ref mo, .ref ml, .ref mf, .ref ma, .int (nI cl), .ref mfd, .ref mts, .int (nI tc), .ref mg, .ref mb])), (mk, .inl (cI, 100, .inl kd)), (m0, .inl (cI, 100, .inl s0)), (m1, .inl (cI, 100, .inl s1)), (mi, .inl (cI, 100, .inl io)), (mo, .inl (cI, 12, .inl on)), (mf, .inl (cI, 600, .inl cf)), (mfd, .inl (cZ, 600, .inl fd2_4)), (mg, .inl (cJ, 100, .inr (.inl gd2_2))), (mb, .inl (cJ, 100, .inr (.inl bd2_3)))]) hP hD [0, 1, 2, 3, 4, 5, 6, 7, 8, 9] [] rfl rfl (by decide) (by decide) hk1_9 hFc hP1_9 hD1_9
  generalize H1_9 = H at hP hS ⊢
  have hP : va_P D vwCl [(qm, .inr (5, [.int (nI 0), .int (nI n), .int (nI ni), .int (nI no), .ref mk, .ref m0, .ref m1, .ref mi, .ref mo, .ref ml, .ref mf, .ref ma, .int (nI cl), .ref mfd, .ref mts, .int (nI tc), .ref mg, .ref mb])), (mk, .inl (cI, 100, .inl kd)), (m0, .inl (cI, 100, .inl s0)), (m1, .inl (cI, 100, .inl s1)), (mi, .inl (cI, 100, .inl io)), (mo, .inl (cI, 12, .inl on)), (mf, .inl (cI, 600, .inl cf)), (mfd, .inl (cZ, 600, .inl fd2_4)), (mg, .inl (cJ, 100, .inr (.inl gd2_2))), (mb, .inl (cJ, 100, .inr (.inl bd2_3)))] H := hP
  have hD : va_D A [(qm, .inr (5, [.int (nI 0), .int (nI n), .int (nI ni), .int (nI no), .ref mk, .ref m0, .ref m1, .ref mi, .ref mo, .ref ml, .ref mf, .ref ma, .int (nI cl), .ref mfd, .ref mts, .int (nI tc), .ref mg, .ref mb])), (mk, .inl (cI, 100, .inl kd)), (m0, .inl (cI, 100, .inl s0)), (m1, .inl (cI, 100, .inl s1)), (mi, .inl (cI, 100, .inl io)), (mo, .inl (cI, 12, .inl on)), (mf, .inl (cI, 600, .inl cf)), (mfd, .inl (cZ, 600, .inl fd2_4)), (mg, .inl (cJ, 100, .inr (.inl gd2_2))), (mb, .inl (cJ, 100, .inr (.inl bd2_3)))] := hD
  exact W.iret (v := (nI ((fndF (sawB kd s0 s1 on vl n ni no cf (knownN ni a)) fd cl).2))) hx hb hr (fun t_9 ht_9 hW_9 => ⟨⟨(nI ((fndF (sawB kd s0 s1 on vl n ni no cf (knownN ni a)) fd cl).2)), (gd2_2, bd2_3, fd2_4), rfl, (show (nI ((fndF (sawB kd s0 s1 on vl n ni no cf (knownN ni a)) fd cl).2)) = (nI ((fndF (sawB kd s0 s1 on vl n ni no cf (knownN ni a)) fd cl).2)) ∧ fd2_4 = (fndF (sawB kd s0 s1 on vl n ni no cf (knownN ni a)) fd cl).1 from ⟨rfl, k_F⟩), ⟨by rw [ht_9]; exact hP, hD⟩⟩, hS.F ht_9⟩) hS.2.2 dX5_simulate_10

set_option maxHeartbeats 4000000 in
set_option maxRecDepth 100000 in
theorem c_X5_pattern_no (l : Launch) (D : va_G) (cI cJ cZ : ClassId) (qm : Nat) (mk : Nat) (m0 : Nat) (m1 : Nat) (mi : Nat) (mo : Nat) (ml : Nat) (mf : Nat) (ma : Nat) (mfd : Nat) (mts : Nat) (mg : Nat) (mb : Nat) (cd : Int32) (n : Nat) (ni : Nat) (no : Nat) (cl : Nat) (tc : Nat) (i : Int32) (sz : Nat) (A : Nat → Prop) (hAe : A = va_A [(qm, .inr (5, [.int cd, .int (nI n), .int (nI ni), .int (nI no), .ref mk, .ref m0, .ref m1, .ref mi, .ref mo, .ref ml, .ref mf, .ref ma, .int (nI cl), .ref mfd, .ref mts, .int (nI tc), .ref mg, .ref mb]))] sz) (h : ¬ isN tc i) : Met l yX5_pattern wsX5_pattern ({ frames := 1, cells := 0, slots := 0, locals := 21 } : Room) (va_Pc [.ref qm, .int i] (PW D cI cJ cZ [(qm, .inr (5, [.int cd, .int (nI n), .int (nI ni), .int (nI no), .ref mk, .ref m0, .ref m1, .ref mi, .ref mo, .ref ml, .ref mf, .ref ma, .int (nI cl), .ref mfd, .ref mts, .int (nI tc), .ref mg, .ref mb]))] sz)) (va_Qi (fun (r_9 : Int32) (_u9 : Unit) => r_9 = (nI 0)) (fun (_u9 : Unit) t => PQ D A [(qm, .inr (5, [.int (nI 1), .int (nI n), .int (nI ni), .int (nI no), .ref mk, .ref m0, .ref m1, .ref mi, .ref mo, .ref ml, .ref mf, .ref ma, .int (nI cl), .ref mfd, .ref mts, .int (nI tc), .ref mg, .ref mb]))] t) A) 0 0 A := by
  refine Met.ofW (cc := cX5_pattern) (maxL := 2) (ret := (some .int)) (by decide) rfl ?_
  intro p e s m args below meth c s₁ B hml hv
  obtain ⟨rfl, hsz, ⟨hP, hK, hNB⟩, hD0⟩ := hv
  have hx := B.exec
  have hb := B.bytes
  have hr := B.returns
  have hts := atoms_spec (ws := wsX5_pattern) B.pre
  have hown : s.vm.findClass RX5 = some m.cls := findClass_of_methodNamed B.named
  have hlocks := B.notSynchronized
  have hiX5 : ∀ w ∈ u_ws RX5 TX5 18, w ∈ wsX5_pattern := by decide +kernel
  subst hsz
  have hD : va_D A [(qm, .inr (5, [.int cd, .int (nI n), .int (nI ni), .int (nI no), .ref mk, .ref m0, .ref m1, .ref mi, .ref mo, .ref ml, .ref mf, .ref ma, .int (nI cl), .ref mfd, .ref mts, .int (nI tc), .ref mg, .ref mb]))] := by rw [hAe]; exact hD0.self
  have hA : ∀ q : Nat, s.heap.size ≤ q → A q := fun q h => by rw [hAe]; exact Or.inr h
  have hS : va_S A s.heap s.heap [] := va_S.rf
  have hl := lv_entry ([.ref qm, .int i]) (n := 2) (Nat.le_of_ble_eq_true rfl)
  rw [lg_entry_eq]
  generalize (lg_sl ([.ref qm, .int i]) ++ List.replicate (2 - (lg_sl ([.ref qm, .int i])).length) Slot.unset).toArray = ls at hl ⊢
  have hl : lv_has ls 2 [(0, .ref qm), (1, .int i)] := hl
  refine lv_aload_n hx hb dX5_pattern_0 rfl (lv_at hl 0 rfl) ?_
  refine lv_iload_n hx hb dX5_pattern_1 rfl (lv_at hl 1 rfl) ?_
  refine lv_if_lt (tgt := 13) hx hb dX5_pattern_2 (by decide) (fun c_2 => ?_) (fun c_2 => ?_)
  · skip
    refine lv_iconst (v := (nI 1)) hx hb dX5_pattern_13 (by decide) ?_
    refine lv_goto (tgt := 18) hx hb dX5_pattern_14 (by decide) ?_
    have hPc := hP.sub (ws' := [(qm, .inr (5, [.int cd, .int (nI n), .int (nI ni), .int (nI no), .ref mk, .ref m0, .ref m1, .ref mi, .ref mo, .ref ml, .ref mf, .ref ma, .int (nI cl), .ref mfd, .ref mts, .int (nI tc), .ref mg, .ref mb]))]) [0] rfl
    have hDc := hD.sub (ws' := [(qm, .inr (5, [.int cd, .int (nI n), .int (nI ni), .int (nI no), .ref mk, .ref m0, .ref m1, .ref mi, .ref mo, .ref ml, .ref mf, .ref ma, .int (nI cl), .ref mfd, .ref mts, .int (nI tc), .ref mg, .ref mb]))]) [0] (by decide) rfl
    have hFc := va_free (wc := [(qm, .inr (5, [.int cd, .int (nI n), .int (nI ni), .int (nI no), .ref mk, .ref m0, .ref m1, .ref mi, .ref mo, .ref ml, .ref mf, .ref ma, .int (nI cl), .ref mfd, .ref mts, .int (nI tc), .ref mg, .ref mb]))]) hD hS hA [0] rfl
    refine va_calli (va_runV (As := [.int (nI 1)]) (rest := []) ⟨hx, hb, hml, hown, hts⟩ (c_X5_refuses l D cI cJ cZ qm mk m0 m1 mi mo ml mf ma mfd mts mg mb cd n ni no cl tc 1 s.heap.size _ rfl (by omega)) (cwV 1 hts gX5_pattern_X5_refuses rfl rfl rfl (by decide +kernel) ⟨Nat.le_of_ble_eq_true rfl, Nat.le_of_ble_eq_true rfl⟩) ⟨PW.blind, va_recv hK hPc (ci := 5) (q0 := 0) rfl rfl, fun U hU hW => ⟨rfl, PW.to hPc hK hNB hDc hU hW⟩⟩ rfl rfl hl.1 rfl (lv_room (Nat.le_of_ble_eq_true rfl)) dX5_pattern_18 ⟨Nat.le_of_ble_eq_true rfl, Nat.le_of_ble_eq_true rfl⟩) hS (fun q _ h => hFc q h) hFc (fun r_1 u_9 t_9 H1_9 locs ht_9 hvm_9 hw_9 hB_9 hz1_9 hk1_9 hS => ?_)
    obtain ⟨hP1_9, hD1_9⟩ := hB_9
    rw [ht_9] at hP1_9
    obtain rfl := hw_9
    obtain ⟨hP, hD⟩ := va_join (wr := []) (w1 := [(qm, .inr (5, [.int (nI 1), .int (nI n), .int (nI ni), .int (nI no), .ref mk, .ref m0, .ref m1, .ref mi, .ref mo, .ref ml, .ref mf, .ref ma, .int (nI cl), .ref mfd, .ref mts, .int (nI tc), .ref mg, .ref mb]))]) hP hD [0] [] rfl rfl (by decide) (by decide) hk1_9 hFc hP1_9 hD1_9
    generalize H1_9 = H at hP hS ⊢
    have hP : va_P D vwCl [(qm, .inr (5, [.int (nI 1), .int (nI n), .int (nI ni), .int (nI no), .ref mk, .ref m0, .ref m1, .ref mi, .ref mo, .ref ml, .ref mf, .ref ma, .int (nI cl), .ref mfd, .ref mts, .int (nI tc), .ref mg, .ref mb]))] H := hP
    have hD : va_D A [(qm, .inr (5, [.int (nI 1), .int (nI n), .int (nI ni), .int (nI no), .ref mk, .ref m0, .ref m1, .ref mi, .ref mo, .ref ml, .ref mf, .ref ma, .int (nI cl), .ref mfd, .ref mts, .int (nI tc), .ref mg, .ref mb]))] := hD
    refine lv_if_eq (tgt := 28) hx hb dX5_pattern_21 (by decide) (fun c_21 => ?_) (fun c_21 => ?_)
    · skip
      rw [zc_if0] at c_21
      exact absurd (by decide) c_21
    · skip
      rw [zc_if0] at c_21
      have c_21 := Classical.not_not.mp c_21
      refine lv_iconst (v := (nI 0)) hx hb dX5_pattern_24 (by decide) ?_
      refine lv_goto (tgt := 34) hx hb dX5_pattern_25 (by decide) ?_
      exact W.iret (v := (nI 0)) hx hb hr (fun t_9 ht_9 hW_9 => ⟨⟨(nI 0), (), rfl, rfl, ⟨by rw [ht_9]; exact hP, hD⟩⟩, hS.F ht_9⟩) hS.2.2 dX5_pattern_34
  · skip
    refine lv_iload_n hx hb dX5_pattern_5 rfl (lv_at hl 1 rfl) ?_
    refine lv_aload_n hx hb dX5_pattern_6 rfl (lv_at hl 0 rfl) ?_
    refine va_get (D := D) (ci := 5) (v := .int (nI tc)) (C := RX5) (T := TX5) (N := 18) hx hb hts hiX5 hown hK hP 0 rfl rfl 15 (by decide) (hts (.fieldLink RX5 100 "FaultSearchModel" "testCount" "I") (by decide +kernel)) (fun _ h9 => h9) rfl dX5_pattern_7 ?_
    refine lv_icmp_lt (tgt := 17) hx hb dX5_pattern_10 (by decide) (fun c_10 => ?_) (fun c_10 => ?_)
    · skip
      exact absurd ⟨c_2, fun h9 => absurd c_10 (Int32.not_lt.mpr h9)⟩ h
    · skip
      refine lv_iconst (v := (nI 1)) hx hb dX5_pattern_13 (by decide) ?_
      refine lv_goto (tgt := 18) hx hb dX5_pattern_14 (by decide) ?_
      have hPc := hP.sub (ws' := [(qm, .inr (5, [.int cd, .int (nI n), .int (nI ni), .int (nI no), .ref mk, .ref m0, .ref m1, .ref mi, .ref mo, .ref ml, .ref mf, .ref ma, .int (nI cl), .ref mfd, .ref mts, .int (nI tc), .ref mg, .ref mb]))]) [0] rfl
      have hDc := hD.sub (ws' := [(qm, .inr (5, [.int cd, .int (nI n), .int (nI ni), .int (nI no), .ref mk, .ref m0, .ref m1, .ref mi, .ref mo, .ref ml, .ref mf, .ref ma, .int (nI cl), .ref mfd, .ref mts, .int (nI tc), .ref mg, .ref mb]))]) [0] (by decide) rfl
      have hFc := va_free (wc := [(qm, .inr (5, [.int cd, .int (nI n), .int (nI ni), .int (nI no), .ref mk, .ref m0, .ref m1, .ref mi, .ref mo, .ref ml, .ref mf, .ref ma, .int (nI cl), .ref mfd, .ref mts, .int (nI tc), .ref mg, .ref mb]))]) hD hS hA [0] rfl
      refine va_calli (va_runV (As := [.int (nI 1)]) (rest := []) ⟨hx, hb, hml, hown, hts⟩ (c_X5_refuses l D cI cJ cZ qm mk m0 m1 mi mo ml mf ma mfd mts mg mb cd n ni no cl tc 1 s.heap.size _ rfl (by omega)) (cwV 1 hts gX5_pattern_X5_refuses rfl rfl rfl (by decide +kernel) ⟨Nat.le_of_ble_eq_true rfl, Nat.le_of_ble_eq_true rfl⟩) ⟨PW.blind, va_recv hK hPc (ci := 5) (q0 := 0) rfl rfl, fun U hU hW => ⟨rfl, PW.to hPc hK hNB hDc hU hW⟩⟩ rfl rfl hl.1 rfl (lv_room (Nat.le_of_ble_eq_true rfl)) dX5_pattern_18 ⟨Nat.le_of_ble_eq_true rfl, Nat.le_of_ble_eq_true rfl⟩) hS (fun q _ h => hFc q h) hFc (fun r_2 u_9 t_9 H1_9 locs ht_9 hvm_9 hw_9 hB_9 hz1_9 hk1_9 hS => ?_)
      obtain ⟨hP1_9, hD1_9⟩ := hB_9
      rw [ht_9] at hP1_9
      obtain rfl := hw_9
      obtain ⟨hP, hD⟩ := va_join (wr := []) (w1 := [(qm, .inr (5, [.int (nI 1), .int (nI n), .int (nI ni), .int (nI no), .ref mk, .ref m0, .ref m1, .ref mi, .ref mo, .ref ml, .ref mf, .ref ma, .int (nI cl), .ref mfd, .ref mts, .int (nI tc), .ref mg, .ref mb]))]) hP hD [0] [] rfl rfl (by decide) (by decide) hk1_9 hFc hP1_9 hD1_9
      generalize H1_9 = H at hP hS ⊢
      have hP : va_P D vwCl [(qm, .inr (5, [.int (nI 1), .int (nI n), .int (nI ni), .int (nI no), .ref mk, .ref m0, .ref m1, .ref mi, .ref mo, .ref ml, .ref mf, .ref ma, .int (nI cl), .ref mfd, .ref mts, .int (nI tc), .ref mg, .ref mb]))] H := hP
      have hD : va_D A [(qm, .inr (5, [.int (nI 1), .int (nI n), .int (nI ni), .int (nI no), .ref mk, .ref m0, .ref m1, .ref mi, .ref mo, .ref ml, .ref mf, .ref ma, .int (nI cl), .ref mfd, .ref mts, .int (nI tc), .ref mg, .ref mb]))] := hD
      refine lv_if_eq (tgt := 28) hx hb dX5_pattern_21 (by decide) (fun c_21 => ?_) (fun c_21 => ?_)
      · skip
        rw [zc_if0] at c_21
        exact absurd (by decide) c_21
      · skip
        rw [zc_if0] at c_21
        have c_21 := Classical.not_not.mp c_21
        refine lv_iconst (v := (nI 0)) hx hb dX5_pattern_24 (by decide) ?_
        refine lv_goto (tgt := 34) hx hb dX5_pattern_25 (by decide) ?_
        exact W.iret (v := (nI 0)) hx hb hr (fun t_9 ht_9 hW_9 => ⟨⟨(nI 0), (), rfl, rfl, ⟨by rw [ht_9]; exact hP, hD⟩⟩, hS.F ht_9⟩) hS.2.2 dX5_pattern_34

set_option maxHeartbeats 4000000 in
set_option maxRecDepth 100000 in
theorem c_X5_pattern_ok (l : Launch) (D : va_G) (cI cJ cZ : ClassId) (qm : Nat) (mk : Nat) (m0 : Nat) (m1 : Nat) (mi : Nat) (mo : Nat) (ml : Nat) (mf : Nat) (ma : Nat) (mfd : Nat) (mts : Nat) (mg : Nat) (mb : Nat) (cd : Int32) (n : Nat) (ni : Nat) (no : Nat) (cl : Nat) (tc : Nat) (ts : Nat → Int32) (i : Nat) (sz : Nat) (A : Nat → Prop) (hAe : A = va_A [(qm, .inr (5, [.int cd, .int (nI n), .int (nI ni), .int (nI no), .ref mk, .ref m0, .ref m1, .ref mi, .ref mo, .ref ml, .ref mf, .ref ma, .int (nI cl), .ref mfd, .ref mts, .int (nI tc), .ref mg, .ref mb])), (mts, .inl (cI, 600, .inl ts))] sz) (hi : i < tc) (htc : tc ≤ 600) : Met l yX5_pattern wsX5_pattern ({ frames := 1, cells := 0, slots := 0, locals := 21 } : Room) (va_Pc [.ref qm, .int (nI i)] (PW D cI cJ cZ [(qm, .inr (5, [.int cd, .int (nI n), .int (nI ni), .int (nI no), .ref mk, .ref m0, .ref m1, .ref mi, .ref mo, .ref ml, .ref mf, .ref ma, .int (nI cl), .ref mfd, .ref mts, .int (nI tc), .ref mg, .ref mb])), (mts, .inl (cI, 600, .inl ts))] sz)) (va_Qi (fun (r_9 : Int32) (_u9 : Unit) => r_9 = (ts i)) (fun (_u9 : Unit) t => PQ D A [(qm, .inr (5, [.int (nI 0), .int (nI n), .int (nI ni), .int (nI no), .ref mk, .ref m0, .ref m1, .ref mi, .ref mo, .ref ml, .ref mf, .ref ma, .int (nI cl), .ref mfd, .ref mts, .int (nI tc), .ref mg, .ref mb])), (mts, .inl (cI, 600, .inl ts))] t) A) 0 0 A := by
  refine Met.ofW (cc := cX5_pattern) (maxL := 2) (ret := (some .int)) (by decide) rfl ?_
  intro p e s m args below meth c s₁ B hml hv
  obtain ⟨rfl, hsz, ⟨hP, hK, hNB⟩, hD0⟩ := hv
  have hx := B.exec
  have hb := B.bytes
  have hr := B.returns
  have hts := atoms_spec (ws := wsX5_pattern) B.pre
  have hown : s.vm.findClass RX5 = some m.cls := findClass_of_methodNamed B.named
  have hlocks := B.notSynchronized
  have hiX5 : ∀ w ∈ u_ws RX5 TX5 18, w ∈ wsX5_pattern := by decide +kernel
  subst hsz
  have hD : va_D A [(qm, .inr (5, [.int cd, .int (nI n), .int (nI ni), .int (nI no), .ref mk, .ref m0, .ref m1, .ref mi, .ref mo, .ref ml, .ref mf, .ref ma, .int (nI cl), .ref mfd, .ref mts, .int (nI tc), .ref mg, .ref mb])), (mts, .inl (cI, 600, .inl ts))] := by rw [hAe]; exact hD0.self
  have hA : ∀ q : Nat, s.heap.size ≤ q → A q := fun q h => by rw [hAe]; exact Or.inr h
  have hS : va_S A s.heap s.heap [] := va_S.rf
  have hl := lv_entry ([.ref qm, .int (nI i)]) (n := 2) (Nat.le_of_ble_eq_true rfl)
  rw [lg_entry_eq]
  generalize (lg_sl ([.ref qm, .int (nI i)]) ++ List.replicate (2 - (lg_sl ([.ref qm, .int (nI i)])).length) Slot.unset).toArray = ls at hl ⊢
  have hl : lv_has ls 2 [(0, .ref qm), (1, .int (nI i))] := hl
  refine lv_aload_n hx hb dX5_pattern_0 rfl (lv_at hl 0 rfl) ?_
  refine lv_iload_n hx hb dX5_pattern_1 rfl (lv_at hl 1 rfl) ?_
  refine lv_if_lt (tgt := 13) hx hb dX5_pattern_2 (by decide) (fun c_2 => ?_) (fun c_2 => ?_)
  · skip
    rw [show (0 : Int32) = nI 0 from rfl, zc_lt (by omega) (by omega)] at c_2
    exact absurd c_2 (Nat.not_lt_zero _)
  · skip
    rw [show (0 : Int32) = nI 0 from rfl, zc_lt (by omega) (by omega)] at c_2
    refine lv_iload_n hx hb dX5_pattern_5 rfl (lv_at hl 1 rfl) ?_
    refine lv_aload_n hx hb dX5_pattern_6 rfl (lv_at hl 0 rfl) ?_
    refine va_get (D := D) (ci := 5) (v := .int (nI tc)) (C := RX5) (T := TX5) (N := 18) hx hb hts hiX5 hown hK hP 0 rfl rfl 15 (by decide) (hts (.fieldLink RX5 100 "FaultSearchModel" "testCount" "I") (by decide +kernel)) (fun _ h9 => h9) rfl dX5_pattern_7 ?_
    refine lv_icmp_lt (tgt := 17) hx hb dX5_pattern_10 (by decide) (fun c_10 => ?_) (fun c_10 => ?_)
    · skip
      rw [zc_lt (by omega) (by omega)] at c_10
      refine lv_iconst (v := (nI 0)) hx hb dX5_pattern_17 (by decide) ?_
      have hPc := hP.sub (ws' := [(qm, .inr (5, [.int cd, .int (nI n), .int (nI ni), .int (nI no), .ref mk, .ref m0, .ref m1, .ref mi, .ref mo, .ref ml, .ref mf, .ref ma, .int (nI cl), .ref mfd, .ref mts, .int (nI tc), .ref mg, .ref mb]))]) [0] rfl
      have hDc := hD.sub (ws' := [(qm, .inr (5, [.int cd, .int (nI n), .int (nI ni), .int (nI no), .ref mk, .ref m0, .ref m1, .ref mi, .ref mo, .ref ml, .ref mf, .ref ma, .int (nI cl), .ref mfd, .ref mts, .int (nI tc), .ref mg, .ref mb]))]) [0] (by decide) rfl
      have hFc := va_free (wc := [(qm, .inr (5, [.int cd, .int (nI n), .int (nI ni), .int (nI no), .ref mk, .ref m0, .ref m1, .ref mi, .ref mo, .ref ml, .ref mf, .ref ma, .int (nI cl), .ref mfd, .ref mts, .int (nI tc), .ref mg, .ref mb]))]) hD hS hA [0] rfl
      refine va_calli (va_runV (As := [.int (nI 0)]) (rest := []) ⟨hx, hb, hml, hown, hts⟩ (c_X5_refuses l D cI cJ cZ qm mk m0 m1 mi mo ml mf ma mfd mts mg mb cd n ni no cl tc 0 s.heap.size _ rfl (by omega)) (cwV 1 hts gX5_pattern_X5_refuses rfl rfl rfl (by decide +kernel) ⟨Nat.le_of_ble_eq_true rfl, Nat.le_of_ble_eq_true rfl⟩) ⟨PW.blind, va_recv hK hPc (ci := 5) (q0 := 0) rfl rfl, fun U hU hW => ⟨rfl, PW.to hPc hK hNB hDc hU hW⟩⟩ rfl rfl hl.1 rfl (lv_room (Nat.le_of_ble_eq_true rfl)) dX5_pattern_18 ⟨Nat.le_of_ble_eq_true rfl, Nat.le_of_ble_eq_true rfl⟩) hS (fun q _ h => hFc q h) hFc (fun r_1 u_9 t_9 H1_9 locs ht_9 hvm_9 hw_9 hB_9 hz1_9 hk1_9 hS => ?_)
      obtain ⟨hP1_9, hD1_9⟩ := hB_9
      rw [ht_9] at hP1_9
      obtain rfl := hw_9
      obtain ⟨hP, hD⟩ := va_join (wr := [(mts, .inl (cI, 600, .inl ts))]) (w1 := [(qm, .inr (5, [.int (nI 0), .int (nI n), .int (nI ni), .int (nI no), .ref mk, .ref m0, .ref m1, .ref mi, .ref mo, .ref ml, .ref mf, .ref ma, .int (nI cl), .ref mfd, .ref mts, .int (nI tc), .ref mg, .ref mb]))]) hP hD [0] [1] rfl rfl (by decide) (by decide) hk1_9 hFc hP1_9 hD1_9
      have hP := hP.sub (ws' := [(qm, .inr (5, [.int (nI 0), .int (nI n), .int (nI ni), .int (nI no), .ref mk, .ref m0, .ref m1, .ref mi, .ref mo, .ref ml, .ref mf, .ref ma, .int (nI cl), .ref mfd, .ref mts, .int (nI tc), .ref mg, .ref mb])), (mts, .inl (cI, 600, .inl ts))]) [1, 0] rfl
      have hD := hD.sub (ws' := [(qm, .inr (5, [.int (nI 0), .int (nI n), .int (nI ni), .int (nI no), .ref mk, .ref m0, .ref m1, .ref mi, .ref mo, .ref ml, .ref mf, .ref ma, .int (nI cl), .ref mfd, .ref mts, .int (nI tc), .ref mg, .ref mb])), (mts, .inl (cI, 600, .inl ts))]) [1, 0] (by decide) rfl
      generalize H1_9 = H at hP hS ⊢
      have hP : va_P D vwCl [(qm, .inr (5, [.int (nI 0), .int (nI n), .int (nI ni), .int (nI no), .ref mk, .ref m0, .ref m1, .ref mi, .ref mo, .ref ml, .ref mf, .ref ma, .int (nI cl), .ref mfd, .ref mts, .int (nI tc), .ref mg, .ref mb])), (mts, .inl (cI, 600, .inl ts))] H := hP
      have hD : va_D A [(qm, .inr (5, [.int (nI 0), .int (nI n), .int (nI ni), .int (nI no), .ref mk, .ref m0, .ref m1, .ref mi, .ref mo, .ref ml, .ref mf, .ref ma, .int (nI cl), .ref mfd, .ref mts, .int (nI tc), .ref mg, .ref mb])), (mts, .inl (cI, 600, .inl ts))] := hD
      refine lv_if_eq (tgt := 28) hx hb dX5_pattern_21 (by decide) (fun c_21 => ?_) (fun c_21 => ?_)
      · skip
        rw [zc_if0] at c_21
        refine lv_aload_n hx hb dX5_pattern_28 rfl (lv_at hl 0 rfl) ?_
        refine va_get (D := D) (ci := 5) (v := .ref mts) (C := RX5) (T := TX5) (N := 18) hx hb hts hiX5 hown hK hP 0 rfl rfl 14 (by decide) (hts (.fieldLink RX5 38 "FaultSearchModel" "tests" "[I") (by decide +kernel)) (fun _ h9 => h9) rfl dX5_pattern_29 ?_
        refine lv_iload_n hx hb dX5_pattern_32 rfl (lv_at hl 1 rfl) ?_
        refine zz_iald hx hb hK hP 1 0 rfl rfl (n := 600) (j := i) (by omega) (by decide) dX5_pattern_33 ?_
        exact W.iret (v := (ts i)) hx hb hr (fun t_9 ht_9 hW_9 => ⟨⟨(ts i), (), rfl, rfl, ⟨by rw [ht_9]; exact hP, hD⟩⟩, hS.F ht_9⟩) hS.2.2 dX5_pattern_34
      · skip
        rw [zc_if0] at c_21
        have c_21 := Classical.not_not.mp c_21
        exact absurd c_21 (by decide)
    · skip
      rw [zc_lt (by omega) (by omega)] at c_10
      exact absurd hi c_10

set_option maxHeartbeats 4000000 in
set_option maxRecDepth 100000 in
theorem c_X5_left_no (l : Launch) (D : va_G) (cI cJ cZ : ClassId) (qm : Nat) (mk : Nat) (m0 : Nat) (m1 : Nat) (mi : Nat) (mo : Nat) (ml : Nat) (mf : Nat) (ma : Nat) (mfd : Nat) (mts : Nat) (mg : Nat) (mb : Nat) (cd : Int32) (n : Nat) (ni : Nat) (no : Nat) (cl : Nat) (tc : Nat) (i : Int32) (sz : Nat) (A : Nat → Prop) (hAe : A = va_A [(qm, .inr (5, [.int cd, .int (nI n), .int (nI ni), .int (nI no), .ref mk, .ref m0, .ref m1, .ref mi, .ref mo, .ref ml, .ref mf, .ref ma, .int (nI cl), .ref mfd, .ref mts, .int (nI tc), .ref mg, .ref mb]))] sz) (h : i < 0) : Met l yX5_left wsX5_left ({ frames := 1, cells := 0, slots := 0, locals := 21 } : Room) (va_Pc [.ref qm, .int i] (PW D cI cJ cZ [(qm, .inr (5, [.int cd, .int (nI n), .int (nI ni), .int (nI no), .ref mk, .ref m0, .ref m1, .ref mi, .ref mo, .ref ml, .ref mf, .ref ma, .int (nI cl), .ref mfd, .ref mts, .int (nI tc), .ref mg, .ref mb]))] sz)) (va_Qi (fun (r_9 : Int32) (_u9 : Unit) => r_9 = (nI 0)) (fun (_u9 : Unit) t => PQ D A [(qm, .inr (5, [.int (nI 1), .int (nI n), .int (nI ni), .int (nI no), .ref mk, .ref m0, .ref m1, .ref mi, .ref mo, .ref ml, .ref mf, .ref ma, .int (nI cl), .ref mfd, .ref mts, .int (nI tc), .ref mg, .ref mb]))] t) A) 0 0 A := by
  refine Met.ofW (cc := cX5_left) (maxL := 4) (ret := (some .int)) (by decide) rfl ?_
  intro p e s m args below meth c s₁ B hml hv
  obtain ⟨rfl, hsz, ⟨hP, hK, hNB⟩, hD0⟩ := hv
  have hx := B.exec
  have hb := B.bytes
  have hr := B.returns
  have hts := atoms_spec (ws := wsX5_left) B.pre
  have hown : s.vm.findClass RX5 = some m.cls := findClass_of_methodNamed B.named
  have hlocks := B.notSynchronized
  subst hsz
  have hD : va_D A [(qm, .inr (5, [.int cd, .int (nI n), .int (nI ni), .int (nI no), .ref mk, .ref m0, .ref m1, .ref mi, .ref mo, .ref ml, .ref mf, .ref ma, .int (nI cl), .ref mfd, .ref mts, .int (nI tc), .ref mg, .ref mb]))] := by rw [hAe]; exact hD0.self
  have hA : ∀ q : Nat, s.heap.size ≤ q → A q := fun q h => by rw [hAe]; exact Or.inr h
  have hS : va_S A s.heap s.heap [] := va_S.rf
  have hl := lv_entry ([.ref qm, .int i]) (n := 4) (Nat.le_of_ble_eq_true rfl)
  rw [lg_entry_eq]
  generalize (lg_sl ([.ref qm, .int i]) ++ List.replicate (4 - (lg_sl ([.ref qm, .int i])).length) Slot.unset).toArray = ls at hl ⊢
  have hl : lv_has ls 4 [(0, .ref qm), (1, .int i)] := hl
  refine lv_aload_n hx hb dX5_left_0 rfl (lv_at hl 0 rfl) ?_
  refine lv_iload_n hx hb dX5_left_1 rfl (lv_at hl 1 rfl) ?_
  refine lv_if_ge (tgt := 9) hx hb dX5_left_2 (by decide) (fun c_2 => ?_) (fun c_2 => ?_)
  · skip
    exact absurd h (Int32.not_lt.mpr c_2)
  · skip
    refine lv_iconst (v := (nI 1)) hx hb dX5_left_5 (by decide) ?_
    refine lv_goto (tgt := 10) hx hb dX5_left_6 (by decide) ?_
    have hPc := hP.sub (ws' := [(qm, .inr (5, [.int cd, .int (nI n), .int (nI ni), .int (nI no), .ref mk, .ref m0, .ref m1, .ref mi, .ref mo, .ref ml, .ref mf, .ref ma, .int (nI cl), .ref mfd, .ref mts, .int (nI tc), .ref mg, .ref mb]))]) [0] rfl
    have hDc := hD.sub (ws' := [(qm, .inr (5, [.int cd, .int (nI n), .int (nI ni), .int (nI no), .ref mk, .ref m0, .ref m1, .ref mi, .ref mo, .ref ml, .ref mf, .ref ma, .int (nI cl), .ref mfd, .ref mts, .int (nI tc), .ref mg, .ref mb]))]) [0] (by decide) rfl
    have hFc := va_free (wc := [(qm, .inr (5, [.int cd, .int (nI n), .int (nI ni), .int (nI no), .ref mk, .ref m0, .ref m1, .ref mi, .ref mo, .ref ml, .ref mf, .ref ma, .int (nI cl), .ref mfd, .ref mts, .int (nI tc), .ref mg, .ref mb]))]) hD hS hA [0] rfl
    refine va_calli (va_runV (As := [.int (nI 1)]) (rest := []) ⟨hx, hb, hml, hown, hts⟩ (c_X5_refuses l D cI cJ cZ qm mk m0 m1 mi mo ml mf ma mfd mts mg mb cd n ni no cl tc 1 s.heap.size _ rfl (by omega)) (cwV 1 hts gX5_left_X5_refuses rfl rfl rfl (by decide +kernel) ⟨Nat.le_of_ble_eq_true rfl, Nat.le_of_ble_eq_true rfl⟩) ⟨PW.blind, va_recv hK hPc (ci := 5) (q0 := 0) rfl rfl, fun U hU hW => ⟨rfl, PW.to hPc hK hNB hDc hU hW⟩⟩ rfl rfl hl.1 rfl (lv_room (Nat.le_of_ble_eq_true rfl)) dX5_left_10 ⟨Nat.le_of_ble_eq_true rfl, Nat.le_of_ble_eq_true rfl⟩) hS (fun q _ h => hFc q h) hFc (fun r_1 u_9 t_9 H1_9 locs ht_9 hvm_9 hw_9 hB_9 hz1_9 hk1_9 hS => ?_)
    obtain ⟨hP1_9, hD1_9⟩ := hB_9
    rw [ht_9] at hP1_9
    obtain rfl := hw_9
    obtain ⟨hP, hD⟩ := va_join (wr := []) (w1 := [(qm, .inr (5, [.int (nI 1), .int (nI n), .int (nI ni), .int (nI no), .ref mk, .ref m0, .ref m1, .ref mi, .ref mo, .ref ml, .ref mf, .ref ma, .int (nI cl), .ref mfd, .ref mts, .int (nI tc), .ref mg, .ref mb]))]) hP hD [0] [] rfl rfl (by decide) (by decide) hk1_9 hFc hP1_9 hD1_9
    generalize H1_9 = H at hP hS ⊢
    have hP : va_P D vwCl [(qm, .inr (5, [.int (nI 1), .int (nI n), .int (nI ni), .int (nI no), .ref mk, .ref m0, .ref m1, .ref mi, .ref mo, .ref ml, .ref mf, .ref ma, .int (nI cl), .ref mfd, .ref mts, .int (nI tc), .ref mg, .ref mb]))] H := hP
    have hD : va_D A [(qm, .inr (5, [.int (nI 1), .int (nI n), .int (nI ni), .int (nI no), .ref mk, .ref m0, .ref m1, .ref mi, .ref mo, .ref ml, .ref mf, .ref ma, .int (nI cl), .ref mfd, .ref mts, .int (nI tc), .ref mg, .ref mb]))] := hD
    refine lv_if_eq (tgt := 18) hx hb dX5_left_13 (by decide) (fun c_13 => ?_) (fun c_13 => ?_)
    · skip
      rw [zc_if0] at c_13
      exact absurd (by decide) c_13
    · skip
      rw [zc_if0] at c_13
      have c_13 := Classical.not_not.mp c_13
      refine lv_iconst (v := (nI 0)) hx hb dX5_left_16 (by decide) ?_
      exact W.iret (v := (nI 0)) hx hb hr (fun t_9 ht_9 hW_9 => ⟨⟨(nI 0), (), rfl, rfl, ⟨by rw [ht_9]; exact hP, hD⟩⟩, hS.F ht_9⟩) hS.2.2 dX5_left_17

set_option maxHeartbeats 4000000 in
set_option maxRecDepth 100000 in
theorem c_X5_left_ok (l : Launch) (D : va_G) (cI cJ cZ : ClassId) (qm : Nat) (mk : Nat) (m0 : Nat) (m1 : Nat) (mi : Nat) (mo : Nat) (ml : Nat) (mf : Nat) (ma : Nat) (mfd : Nat) (mts : Nat) (mg : Nat) (mb : Nat) (cd : Int32) (n : Nat) (ni : Nat) (no : Nat) (cl : Nat) (tc : Nat) (fd : Nat → Int32) (i : Int32) (sz : Nat) (A : Nat → Prop) (hAe : A = va_A [(qm, .inr (5, [.int cd, .int (nI n), .int (nI ni), .int (nI no), .ref mk, .ref m0, .ref m1, .ref mi, .ref mo, .ref ml, .ref mf, .ref ma, .int (nI cl), .ref mfd, .ref mts, .int (nI tc), .ref mg, .ref mb])), (mfd, .inl (cZ, 600, .inl fd))] sz) (h : ¬ i < 0) (hcl : cl ≤ 600) : Met l yX5_left wsX5_left ({ frames := 1, cells := 0, slots := 0, locals := 21 } : Room) (va_Pc [.ref qm, .int i] (PW D cI cJ cZ [(qm, .inr (5, [.int cd, .int (nI n), .int (nI ni), .int (nI no), .ref mk, .ref m0, .ref m1, .ref mi, .ref mo, .ref ml, .ref mf, .ref ma, .int (nI cl), .ref mfd, .ref mts, .int (nI tc), .ref mg, .ref mb])), (mfd, .inl (cZ, 600, .inl fd))] sz)) (va_Qi (fun (r_9 : Int32) (_u9 : Unit) => r_9 = (missF fd i (cl - 0) 0 0)) (fun (_u9 : Unit) t => PQ D A [(qm, .inr (5, [.int (nI 0), .int (nI n), .int (nI ni), .int (nI no), .ref mk, .ref m0, .ref m1, .ref mi, .ref mo, .ref ml, .ref mf, .ref ma, .int (nI cl), .ref mfd, .ref mts, .int (nI tc), .ref mg, .ref mb])), (mfd, .inl (cZ, 600, .inl fd))] t) A) 0 0 A := by
  refine Met.ofW (cc := cX5_left) (maxL := 4) (ret := (some .int)) (by decide) rfl ?_
  intro p e s m args below meth c s₁ B hml hv
  obtain ⟨rfl, hsz, ⟨hP, hK, hNB⟩, hD0⟩ := hv
  have hx := B.exec
  have hb := B.bytes
  have hr := B.returns
  have hts := atoms_spec (ws := wsX5_left) B.pre
  have hown : s.vm.findClass RX5 = some m.cls := findClass_of_methodNamed B.named
  have hlocks := B.notSynchronized
  have hiX5 : ∀ w ∈ u_ws RX5 TX5 18, w ∈ wsX5_left := by decide +kernel
  subst hsz
  have hD : va_D A [(qm, .inr (5, [.int cd, .int (nI n), .int (nI ni), .int (nI no), .ref mk, .ref m0, .ref m1, .ref mi, .ref mo, .ref ml, .ref mf, .ref ma, .int (nI cl), .ref mfd, .ref mts, .int (nI tc), .ref mg, .ref mb])), (mfd, .inl (cZ, 600, .inl fd))] := by rw [hAe]; exact hD0.self
  have hA : ∀ q : Nat, s.heap.size ≤ q → A q := fun q h => by rw [hAe]; exact Or.inr h
  have hS : va_S A s.heap s.heap [] := va_S.rf
  have hl := lv_entry ([.ref qm, .int i]) (n := 4) (Nat.le_of_ble_eq_true rfl)
  rw [lg_entry_eq]
  generalize (lg_sl ([.ref qm, .int i]) ++ List.replicate (4 - (lg_sl ([.ref qm, .int i])).length) Slot.unset).toArray = ls at hl ⊢
  have hl : lv_has ls 4 [(0, .ref qm), (1, .int i)] := hl
  refine lv_aload_n hx hb dX5_left_0 rfl (lv_at hl 0 rfl) ?_
  refine lv_iload_n hx hb dX5_left_1 rfl (lv_at hl 1 rfl) ?_
  refine lv_if_ge (tgt := 9) hx hb dX5_left_2 (by decide) (fun c_2 => ?_) (fun c_2 => ?_)
  · skip
    refine lv_iconst (v := (nI 0)) hx hb dX5_left_9 (by decide) ?_
    have hPc := hP.sub (ws' := [(qm, .inr (5, [.int cd, .int (nI n), .int (nI ni), .int (nI no), .ref mk, .ref m0, .ref m1, .ref mi, .ref mo, .ref ml, .ref mf, .ref ma, .int (nI cl), .ref mfd, .ref mts, .int (nI tc), .ref mg, .ref mb]))]) [0] rfl
    have hDc := hD.sub (ws' := [(qm, .inr (5, [.int cd, .int (nI n), .int (nI ni), .int (nI no), .ref mk, .ref m0, .ref m1, .ref mi, .ref mo, .ref ml, .ref mf, .ref ma, .int (nI cl), .ref mfd, .ref mts, .int (nI tc), .ref mg, .ref mb]))]) [0] (by decide) rfl
    have hFc := va_free (wc := [(qm, .inr (5, [.int cd, .int (nI n), .int (nI ni), .int (nI no), .ref mk, .ref m0, .ref m1, .ref mi, .ref mo, .ref ml, .ref mf, .ref ma, .int (nI cl), .ref mfd, .ref mts, .int (nI tc), .ref mg, .ref mb]))]) hD hS hA [0] rfl
    refine va_calli (va_runV (As := [.int (nI 0)]) (rest := []) ⟨hx, hb, hml, hown, hts⟩ (c_X5_refuses l D cI cJ cZ qm mk m0 m1 mi mo ml mf ma mfd mts mg mb cd n ni no cl tc 0 s.heap.size _ rfl (by omega)) (cwV 1 hts gX5_left_X5_refuses rfl rfl rfl (by decide +kernel) ⟨Nat.le_of_ble_eq_true rfl, Nat.le_of_ble_eq_true rfl⟩) ⟨PW.blind, va_recv hK hPc (ci := 5) (q0 := 0) rfl rfl, fun U hU hW => ⟨rfl, PW.to hPc hK hNB hDc hU hW⟩⟩ rfl rfl hl.1 rfl (lv_room (Nat.le_of_ble_eq_true rfl)) dX5_left_10 ⟨Nat.le_of_ble_eq_true rfl, Nat.le_of_ble_eq_true rfl⟩) hS (fun q _ h => hFc q h) hFc (fun r_1 u_9 t_9 H1_9 locs ht_9 hvm_9 hw_9 hB_9 hz1_9 hk1_9 hS => ?_)
    obtain ⟨hP1_9, hD1_9⟩ := hB_9
    rw [ht_9] at hP1_9
    obtain rfl := hw_9
    obtain ⟨hP, hD⟩ := va_join (wr := [(mfd, .inl (cZ, 600, .inl fd))]) (w1 := [(qm, .inr (5, [.int (nI 0), .int (nI n), .int (nI ni), .int (nI no), .ref mk, .ref m0, .ref m1, .ref mi, .ref mo, .ref ml, .ref mf, .ref ma, .int (nI cl), .ref mfd, .ref mts, .int (nI tc), .ref mg, .ref mb]))]) hP hD [0] [1] rfl rfl (by decide) (by decide) hk1_9 hFc hP1_9 hD1_9
    have hP := hP.sub (ws' := [(qm, .inr (5, [.int (nI 0), .int (nI n), .int (nI ni), .int (nI no), .ref mk, .ref m0, .ref m1, .ref mi, .ref mo, .ref ml, .ref mf, .ref ma, .int (nI cl), .ref mfd, .ref mts, .int (nI tc), .ref mg, .ref mb])), (mfd, .inl (cZ, 600, .inl fd))]) [1, 0] rfl
    have hD := hD.sub (ws' := [(qm, .inr (5, [.int (nI 0), .int (nI n), .int (nI ni), .int (nI no), .ref mk, .ref m0, .ref m1, .ref mi, .ref mo, .ref ml, .ref mf, .ref ma, .int (nI cl), .ref mfd, .ref mts, .int (nI tc), .ref mg, .ref mb])), (mfd, .inl (cZ, 600, .inl fd))]) [1, 0] (by decide) rfl
    generalize H1_9 = H at hP hS ⊢
    have hP : va_P D vwCl [(qm, .inr (5, [.int (nI 0), .int (nI n), .int (nI ni), .int (nI no), .ref mk, .ref m0, .ref m1, .ref mi, .ref mo, .ref ml, .ref mf, .ref ma, .int (nI cl), .ref mfd, .ref mts, .int (nI tc), .ref mg, .ref mb])), (mfd, .inl (cZ, 600, .inl fd))] H := hP
    have hD : va_D A [(qm, .inr (5, [.int (nI 0), .int (nI n), .int (nI ni), .int (nI no), .ref mk, .ref m0, .ref m1, .ref mi, .ref mo, .ref ml, .ref mf, .ref ma, .int (nI cl), .ref mfd, .ref mts, .int (nI tc), .ref mg, .ref mb])), (mfd, .inl (cZ, 600, .inl fd))] := hD
    refine lv_if_eq (tgt := 18) hx hb dX5_left_13 (by decide) (fun c_13 => ?_) (fun c_13 => ?_)
    · skip
      rw [zc_if0] at c_13
      refine lv_iconst (v := (nI 0)) hx hb dX5_left_18 (by decide) ?_
      refine lv_istore_n (lv' := [(2, .int (nI 0)), (0, .ref qm), (1, .int i)]) hx hb dX5_left_19 rfl hl (by decide) rfl (fun ls hl => ?_)
      refine lv_iconst (v := (nI 0)) hx hb dX5_left_20 (by decide) ?_
      refine lv_istore_n (lv' := [(3, .int (nI 0)), (2, .int (nI 0)), (0, .ref qm), (1, .int i)]) hx hb dX5_left_21 rfl hl (by decide) rfl (fun ls hl => ?_)
      have loop22 : ∀ (n22 : Nat) (k : Nat) (b : Nat) (hk : k ≤ cl) (hg : missF fd i (cl - 0) 0 0 = missF fd i (cl - k) k b), cl - k < n22 → ∀ (H : Heap) (locs : List Loc), va_P D vwCl [(qm, .inr (5, [.int (nI 0), .int (nI n), .int (nI ni), .int (nI no), .ref mk, .ref m0, .ref m1, .ref mi, .ref mo, .ref ml, .ref mf, .ref ma, .int (nI cl), .ref mfd, .ref mts, .int (nI tc), .ref mg, .ref mb])), (mfd, .inl (cZ, 600, .inl fd))] H → va_D A [(qm, .inr (5, [.int (nI 0), .int (nI n), .int (nI ni), .int (nI no), .ref mk, .ref m0, .ref m1, .ref mi, .ref mo, .ref ml, .ref mf, .ref ma, .int (nI cl), .ref mfd, .ref mts, .int (nI tc), .ref mg, .ref mb])), (mfd, .inl (cZ, 600, .inl fd))] → va_S A s.heap H locs → ∀ (ls : Array Slot), lv_has ls 4 [(0, .ref qm), (1, .int i), (2, .int (nI b)), (3, .int (nI k))] → W p l e (headSpec wsX5_left ({ frames := 1, cells := 0, slots := 0, locals := 21 } : Room)).room s m ([.ref qm, .int i] : List Value).toArray below meth c H locs 0 0 (MQ below (va_Qi (fun (r_9 : Int32) (_u9 : Unit) => r_9 = (missF fd i (cl - 0) 0 0)) (fun (_u9 : Unit) t => PQ D A [(qm, .inr (5, [.int (nI 0), .int (nI n), .int (nI ni), .int (nI no), .ref mk, .ref m0, .ref m1, .ref mi, .ref mo, .ref ml, .ref mf, .ref ma, .int (nI cl), .ref mfd, .ref mts, .int (nI tc), .ref mg, .ref mb])), (mfd, .inl (cZ, 600, .inl fd))] t) A) ([.ref qm, .int i] : List Value).toArray s 0 0 A) (F0 m 22 ls []) := by
        intro n22
        induction n22 with
        | zero => intro k b hk hg hm; exact absurd hm (Nat.not_lt_zero _)
        | succ n22 ih22 =>
          intro k b hk hg hm22 H locs hP hD hS ls hl
          refine lv_iload_n hx hb dX5_left_22 rfl (lv_at hl 3 rfl) ?_
          refine lv_aload_n hx hb dX5_left_23 rfl (lv_at hl 0 rfl) ?_
          refine va_get (D := D) (ci := 5) (v := .int (nI cl)) (C := RX5) (T := TX5) (N := 18) hx hb hts hiX5 hown hK hP 0 rfl rfl 12 (by decide) (hts (.fieldLink RX5 94 "FaultSearchModel" "classes" "I") (by decide +kernel)) (fun _ h9 => h9) rfl dX5_left_24 ?_
          refine lv_icmp_ge (tgt := 55) hx hb dX5_left_27 (by decide) (fun c_27 => ?_) (fun c_27 => ?_)
          · skip
            rw [zc_le (by omega) (by omega)] at c_27
            refine lv_iconst (v := (-1)) hx hb dX5_left_55 (by decide) ?_
            exact W.iret (v := (-1)) hx hb hr (fun t_9 ht_9 hW_9 => ⟨⟨(-1), (), rfl, (hg.trans (missF_end (by omega))).symm, ⟨by rw [ht_9]; exact hP, hD⟩⟩, hS.F ht_9⟩) hS.2.2 dX5_left_56
          · skip
            rw [zc_le (by omega) (by omega)] at c_27
            refine lv_aload_n hx hb dX5_left_30 rfl (lv_at hl 0 rfl) ?_
            refine va_get (D := D) (ci := 5) (v := .ref mfd) (C := RX5) (T := TX5) (N := 18) hx hb hts hiX5 hown hK hP 0 rfl rfl 13 (by decide) (hts (.fieldLink RX5 34 "FaultSearchModel" "found" "[Z") (by decide +kernel)) (fun _ h9 => h9) rfl dX5_left_31 ?_
            refine lv_iload_n hx hb dX5_left_34 rfl (lv_at hl 3 rfl) ?_
            refine zz_zald hx hb hK hP 1 2 rfl rfl (n := 600) (j := k) (by omega) (by decide) dX5_left_35 ?_
            refine lv_if_ne (tgt := 49) hx hb dX5_left_36 (by decide) (fun c_36 => ?_) (fun c_36 => ?_)
            · skip
              refine lv_iinc (v := (nI (k + 1))) (lv' := [(3, .int (nI (k + 1))), (0, .ref qm), (1, .int i), (2, .int (nI b))]) hx hb dX5_left_49 hl (k := 3) rfl (nI_add _ 1) (by decide) rfl (fun ls hl => ?_)
              refine lv_goto (tgt := 22) hx hb dX5_left_52 (by decide) ?_
              exact ih22 (k + 1) b (by omega) (hg.trans (missF_n0 (by omega) c_36)) (by omega) _ _ hP hD hS ls (lv_sub hl [1, 2, 3, 0] rfl)
            · skip
              refine lv_iload_n hx hb dX5_left_39 rfl (lv_at hl 2 rfl) ?_
              refine lv_iload_n hx hb dX5_left_40 rfl (lv_at hl 1 rfl) ?_
              refine lv_icmp_ne (tgt := 46) hx hb dX5_left_41 (by decide) (fun c_41 => ?_) (fun c_41 => ?_)
              · skip
                refine lv_iinc (v := (nI (b + 1))) (lv' := [(2, .int (nI (b + 1))), (0, .ref qm), (1, .int i), (3, .int (nI k))]) hx hb dX5_left_46 hl (k := 2) rfl (nI_add _ 1) (by decide) rfl (fun ls hl => ?_)
                refine lv_iinc (v := (nI (k + 1))) (lv' := [(3, .int (nI (k + 1))), (2, .int (nI (b + 1))), (0, .ref qm), (1, .int i)]) hx hb dX5_left_49 hl (k := 3) rfl (nI_add _ 1) (by decide) rfl (fun ls hl => ?_)
                refine lv_goto (tgt := 22) hx hb dX5_left_52 (by decide) ?_
                exact ih22 (k + 1) (b + 1) (by omega) (hg.trans (missF_n1 (by omega) c_36 c_41)) (by omega) _ _ hP hD hS ls (lv_sub hl [2, 3, 1, 0] rfl)
              · skip
                refine lv_iload_n hx hb dX5_left_44 rfl (lv_at hl 3 rfl) ?_
                exact W.iret (v := (nI k)) hx hb hr (fun t_9 ht_9 hW_9 => ⟨⟨(nI k), (), rfl, (hg.trans (missF_hit (by omega) c_36 c_41)).symm, ⟨by rw [ht_9]; exact hP, hD⟩⟩, hS.F ht_9⟩) hS.2.2 dX5_left_45
      exact loop22 ((cl - 0) + 1) 0 0 (Nat.zero_le _) rfl (Nat.lt_succ_self _) _ _ hP hD hS ls (lv_sub hl [2, 3, 1, 0] rfl)
    · skip
      rw [zc_if0] at c_13
      have c_13 := Classical.not_not.mp c_13
      exact absurd c_13 (by decide)
  · skip
    exact absurd (Int32.not_lt.mp h) c_2

set_option maxHeartbeats 4000000 in
set_option maxRecDepth 100000 in
theorem c_X5_reset (l : Launch) (D : va_G) (cI cJ cZ : ClassId) (qm : Nat) (mk : Nat) (m0 : Nat) (m1 : Nat) (mi : Nat) (mo : Nat) (ml : Nat) (mf : Nat) (ma : Nat) (mfd : Nat) (mts : Nat) (mg : Nat) (mb : Nat) (cd : Int32) (n : Nat) (ni : Nat) (no : Nat) (cl : Nat) (tc : Nat) (fd : Nat → Int32) (sz : Nat) (A : Nat → Prop) (hAe : A = va_A [(qm, .inr (5, [.int cd, .int (nI n), .int (nI ni), .int (nI no), .ref mk, .ref m0, .ref m1, .ref mi, .ref mo, .ref ml, .ref mf, .ref ma, .int (nI cl), .ref mfd, .ref mts, .int (nI tc), .ref mg, .ref mb])), (mfd, .inl (cZ, 600, .inl fd))] sz) : Met l yX5_reset wsX5_reset ({ frames := 0, cells := 0, slots := 0, locals := 0 } : Room) (va_Pc [.ref qm] (PW D cI cJ cZ [(qm, .inr (5, [.int cd, .int (nI n), .int (nI ni), .int (nI no), .ref mk, .ref m0, .ref m1, .ref mi, .ref mo, .ref ml, .ref mf, .ref ma, .int (nI cl), .ref mfd, .ref mts, .int (nI tc), .ref mg, .ref mb])), (mfd, .inl (cZ, 600, .inl fd))] sz)) (va_Qv (fun _u9 : Unit => True) (fun (_u9 : Unit) t => PQ D A [(qm, .inr (5, [.int (nI 0), .int (nI n), .int (nI ni), .int (nI no), .ref mk, .ref m0, .ref m1, .ref mi, .ref mo, .ref ml, .ref mf, .ref ma, .int (nI cl), .ref mfd, .ref mts, .int (nI tc), .ref mg, .ref mb])), (mfd, .inl (cZ, 600, .inl (clrF fd 600)))] t) A) 0 0 A := by
  refine Met.ofW (cc := cX5_reset) (maxL := 2) (ret := none) (by decide) rfl ?_
  intro p e s m args below meth c s₁ B hml hv
  obtain ⟨rfl, hsz, ⟨hP, hK, hNB⟩, hD0⟩ := hv
  have hx := B.exec
  have hb := B.bytes
  have hr := B.returns
  have hts := atoms_spec (ws := wsX5_reset) B.pre
  have hown : s.vm.findClass RX5 = some m.cls := findClass_of_methodNamed B.named
  have hlocks := B.notSynchronized
  have hiX5 : ∀ w ∈ u_ws RX5 TX5 18, w ∈ wsX5_reset := by decide +kernel
  subst hsz
  have hD : va_D A [(qm, .inr (5, [.int cd, .int (nI n), .int (nI ni), .int (nI no), .ref mk, .ref m0, .ref m1, .ref mi, .ref mo, .ref ml, .ref mf, .ref ma, .int (nI cl), .ref mfd, .ref mts, .int (nI tc), .ref mg, .ref mb])), (mfd, .inl (cZ, 600, .inl fd))] := by rw [hAe]; exact hD0.self
  have hA : ∀ q : Nat, s.heap.size ≤ q → A q := fun q h => by rw [hAe]; exact Or.inr h
  have hS : va_S A s.heap s.heap [] := va_S.rf
  have hl := lv_entry ([.ref qm]) (n := 2) (Nat.le_of_ble_eq_true rfl)
  rw [lg_entry_eq]
  generalize (lg_sl ([.ref qm]) ++ List.replicate (2 - (lg_sl ([.ref qm])).length) Slot.unset).toArray = ls at hl ⊢
  have hl : lv_has ls 2 [(0, .ref qm)] := hl
  refine lv_aload_n hx hb dX5_reset_0 rfl (lv_at hl 0 rfl) ?_
  refine lv_iconst (v := (nI 0)) hx hb dX5_reset_1 (by decide) ?_
  refine va_put (D := D) (ci := 5) (v := .int (nI 0)) (ty := .int) (C := RX5) (T := TX5) (N := 18) hx hb hts hiX5 tyX5 tyX5_ok nmX5 hown hK hP hD hS 0 rfl rfl 0 (by decide) (hts (.fieldLink RX5 48 "FaultSearchModel" "code" "I") (by decide +kernel)) (fun _ h9 => h9) rfl (by decide +kernel) rfl rfl (Nat.le_of_ble_eq_true rfl) dX5_reset_2 (fun H locs hP hD hS => ?_)
  have hP : va_P D vwCl [(qm, .inr (5, [.int (nI 0), .int (nI n), .int (nI ni), .int (nI no), .ref mk, .ref m0, .ref m1, .ref mi, .ref mo, .ref ml, .ref mf, .ref ma, .int (nI cl), .ref mfd, .ref mts, .int (nI tc), .ref mg, .ref mb])), (mfd, .inl (cZ, 600, .inl fd))] H := hP
  have hD : va_D A [(qm, .inr (5, [.int (nI 0), .int (nI n), .int (nI ni), .int (nI no), .ref mk, .ref m0, .ref m1, .ref mi, .ref mo, .ref ml, .ref mf, .ref ma, .int (nI cl), .ref mfd, .ref mts, .int (nI tc), .ref mg, .ref mb])), (mfd, .inl (cZ, 600, .inl fd))] := hD
  refine lv_iconst (v := (nI 0)) hx hb dX5_reset_5 (by decide) ?_
  refine lv_istore_n (lv' := [(1, .int (nI 0)), (0, .ref qm)]) hx hb dX5_reset_6 rfl hl (by decide) rfl (fun ls hl => ?_)
  have loop7 : ∀ (n7 : Nat) (i : Nat) (v : Nat → Int32) (hi : i ≤ 600) (hv : v = clrF fd i), 600 - i < n7 → ∀ (H : Heap) (locs : List Loc), va_P D vwCl [(qm, .inr (5, [.int (nI 0), .int (nI n), .int (nI ni), .int (nI no), .ref mk, .ref m0, .ref m1, .ref mi, .ref mo, .ref ml, .ref mf, .ref ma, .int (nI cl), .ref mfd, .ref mts, .int (nI tc), .ref mg, .ref mb])), (mfd, .inl (cZ, 600, .inl v))] H → va_D A [(qm, .inr (5, [.int (nI 0), .int (nI n), .int (nI ni), .int (nI no), .ref mk, .ref m0, .ref m1, .ref mi, .ref mo, .ref ml, .ref mf, .ref ma, .int (nI cl), .ref mfd, .ref mts, .int (nI tc), .ref mg, .ref mb])), (mfd, .inl (cZ, 600, .inl v))] → va_S A s.heap H locs → ∀ (ls : Array Slot), lv_has ls 2 [(0, .ref qm), (1, .int (nI i))] → W p l e (headSpec wsX5_reset ({ frames := 0, cells := 0, slots := 0, locals := 0 } : Room)).room s m ([.ref qm] : List Value).toArray below meth c H locs 0 0 (MQ below (va_Qv (fun _u9 : Unit => True) (fun (_u9 : Unit) t => PQ D A [(qm, .inr (5, [.int (nI 0), .int (nI n), .int (nI ni), .int (nI no), .ref mk, .ref m0, .ref m1, .ref mi, .ref mo, .ref ml, .ref mf, .ref ma, .int (nI cl), .ref mfd, .ref mts, .int (nI tc), .ref mg, .ref mb])), (mfd, .inl (cZ, 600, .inl (clrF fd 600)))] t) A) ([.ref qm] : List Value).toArray s 0 0 A) (F0 m 7 ls []) := by
    intro n7
    induction n7 with
    | zero => intro i v hi hv hm; exact absurd hm (Nat.not_lt_zero _)
    | succ n7 ih7 =>
      intro i v hi hv hm7 H locs hP hD hS ls hl
      refine lv_iload_n hx hb dX5_reset_7 rfl (lv_at hl 1 rfl) ?_
      refine lv_sipush (v := (nI 600)) hx hb dX5_reset_8 (by decide) ?_
      refine lv_icmp_ge (tgt := 27) hx hb dX5_reset_11 (by decide) (fun c_11 => ?_) (fun c_11 => ?_)
      · skip
        rw [zc_le (by omega) (by omega)] at c_11
        obtain rfl : i = 600 := by omega
        subst hv
        exact W.vret hx hb hr (fun t_9 ht_9 hW_9 => ⟨⟨(), rfl, trivial, ⟨by rw [ht_9]; exact hP, hD⟩⟩, hS.F ht_9⟩) hS.2.2 dX5_reset_27
      · skip
        rw [zc_le (by omega) (by omega)] at c_11
        refine lv_aload_n hx hb dX5_reset_14 rfl (lv_at hl 0 rfl) ?_
        refine va_get (D := D) (ci := 5) (v := .ref mfd) (C := RX5) (T := TX5) (N := 18) hx hb hts hiX5 hown hK hP 0 rfl rfl 13 (by decide) (hts (.fieldLink RX5 34 "FaultSearchModel" "found" "[Z") (by decide +kernel)) (fun _ h9 => h9) rfl dX5_reset_15 ?_
        refine lv_iload_n hx hb dX5_reset_18 rfl (lv_at hl 1 rfl) ?_
        refine lv_iconst (v := (nI 0)) hx hb dX5_reset_19 (by decide) ?_
        refine zz_zast hx hb hK hP hD hS 1 2 rfl rfl (by decide) (n := 600) (j := i) (by omega) (by decide) dX5_reset_20 (fun H locs hP hD hS => ?_)
        have hP : va_P D vwCl [(qm, .inr (5, [.int (nI 0), .int (nI n), .int (nI ni), .int (nI no), .ref mk, .ref m0, .ref m1, .ref mi, .ref mo, .ref ml, .ref mf, .ref ma, .int (nI cl), .ref mfd, .ref mts, .int (nI tc), .ref mg, .ref mb])), (mfd, .inl (cZ, 600, .inl (upd v i (nI 0))))] H := hP
        have hD : va_D A [(qm, .inr (5, [.int (nI 0), .int (nI n), .int (nI ni), .int (nI no), .ref mk, .ref m0, .ref m1, .ref mi, .ref mo, .ref ml, .ref mf, .ref ma, .int (nI cl), .ref mfd, .ref mts, .int (nI tc), .ref mg, .ref mb])), (mfd, .inl (cZ, 600, .inl (upd v i (nI 0))))] := hD
        refine lv_iinc (v := (nI (i + 1))) (lv' := [(1, .int (nI (i + 1))), (0, .ref qm)]) hx hb dX5_reset_21 hl (k := 1) rfl (nI_add _ 1) (by decide) rfl (fun ls hl => ?_)
        refine lv_goto (tgt := 7) hx hb dX5_reset_24 (by decide) ?_
        exact ih7 (i + 1) (upd v i (nI 0)) (by omega) (by rw [hv]; exact clrF_s fd i) (by omega) _ _ hP hD hS ls (lv_sub hl [1, 0] rfl)
  exact loop7 ((600 - 0) + 1) 0 fd (by omega) (clrF_0 fd).symm (Nat.lt_succ_self _) _ _ hP hD hS ls (lv_sub hl [1, 0] rfl)

set_option maxHeartbeats 4000000 in
set_option maxRecDepth 100000 in
theorem c_X5_slow_no (l : Launch) (D : va_G) (cI cJ cZ : ClassId) (qm : Nat) (mk : Nat) (m0 : Nat) (m1 : Nat) (mi : Nat) (mo : Nat) (ml : Nat) (mf : Nat) (ma : Nat) (mfd : Nat) (mts : Nat) (mg : Nat) (mb : Nat) (cd : Int32) (n : Nat) (ni : Nat) (no : Nat) (cl : Nat) (tc : Nat) (net : Int32) (v : Int32) (wh : Int32) (sz : Nat) (A : Nat → Prop) (hAe : A = va_A [(qm, .inr (5, [.int cd, .int (nI n), .int (nI ni), .int (nI no), .ref mk, .ref m0, .ref m1, .ref mi, .ref mo, .ref ml, .ref mf, .ref ma, .int (nI cl), .ref mfd, .ref mts, .int (nI tc), .ref mg, .ref mb]))] sz) (h : ¬ (isN n net ∧ ¬ v < 0 ∧ ¬ nI 1 < v ∧ ¬ wh < 0 ∧ wh ≤ nI 1)) : Met l yX5_slow wsX5_slow ({ frames := 1, cells := 0, slots := 0, locals := 21 } : Room) (va_Pc [.ref qm, .int net, .int v, .int wh] (PW D cI cJ cZ [(qm, .inr (5, [.int cd, .int (nI n), .int (nI ni), .int (nI no), .ref mk, .ref m0, .ref m1, .ref mi, .ref mo, .ref ml, .ref mf, .ref ma, .int (nI cl), .ref mfd, .ref mts, .int (nI tc), .ref mg, .ref mb]))] sz)) (va_Qi (fun (r_9 : Int32) (_u9 : Unit) => r_9 = (nI 0)) (fun (_u9 : Unit) t => PQ D A [(qm, .inr (5, [.int (nI 1), .int (nI n), .int (nI ni), .int (nI no), .ref mk, .ref m0, .ref m1, .ref mi, .ref mo, .ref ml, .ref mf, .ref ma, .int (nI cl), .ref mfd, .ref mts, .int (nI tc), .ref mg, .ref mb]))] t) A) 0 0 A := by
  refine Met.ofW (cc := cX5_slow) (maxL := 6) (ret := (some .int)) (by decide) rfl ?_
  intro p e s m args below meth c s₁ B hml hv
  obtain ⟨rfl, hsz, ⟨hP, hK, hNB⟩, hD0⟩ := hv
  have hx := B.exec
  have hb := B.bytes
  have hr := B.returns
  have hts := atoms_spec (ws := wsX5_slow) B.pre
  have hown : s.vm.findClass RX5 = some m.cls := findClass_of_methodNamed B.named
  have hlocks := B.notSynchronized
  subst hsz
  have hD : va_D A [(qm, .inr (5, [.int cd, .int (nI n), .int (nI ni), .int (nI no), .ref mk, .ref m0, .ref m1, .ref mi, .ref mo, .ref ml, .ref mf, .ref ma, .int (nI cl), .ref mfd, .ref mts, .int (nI tc), .ref mg, .ref mb]))] := by rw [hAe]; exact hD0.self
  have hA : ∀ q : Nat, s.heap.size ≤ q → A q := fun q h => by rw [hAe]; exact Or.inr h
  have hS : va_S A s.heap s.heap [] := va_S.rf
  have hl := lv_entry ([.ref qm, .int net, .int v, .int wh]) (n := 6) (Nat.le_of_ble_eq_true rfl)
  rw [lg_entry_eq]
  generalize (lg_sl ([.ref qm, .int net, .int v, .int wh]) ++ List.replicate (6 - (lg_sl ([.ref qm, .int net, .int v, .int wh])).length) Slot.unset).toArray = ls at hl ⊢
  have hl : lv_has ls 6 [(0, .ref qm), (1, .int net), (2, .int v), (3, .int wh)] := hl
  refine lv_aload_n hx hb dX5_slow_0 rfl (lv_at hl 0 rfl) ?_
  refine lv_aload_n hx hb dX5_slow_1 rfl (lv_at hl 0 rfl) ?_
  refine lv_iload_n hx hb dX5_slow_2 rfl (lv_at hl 1 rfl) ?_
  have hPc := hP.sub (ws' := [(qm, .inr (5, [.int cd, .int (nI n), .int (nI ni), .int (nI no), .ref mk, .ref m0, .ref m1, .ref mi, .ref mo, .ref ml, .ref mf, .ref ma, .int (nI cl), .ref mfd, .ref mts, .int (nI tc), .ref mg, .ref mb]))]) [0] rfl
  refine vp_callSi (va_runV (As := [.int net]) (rest := [.ref qm]) ⟨hx, hb, hml, hown, hts⟩ (c_X5_isNet l D cI cJ cZ qm mk m0 m1 mi mo ml mf ma mfd mts mg mb cd n ni no cl tc net) (cwV 1 hts gX5_slow_X5_isNet rfl rfl rfl (by decide +kernel) ⟨Nat.le_of_ble_eq_true rfl, Nat.le_of_ble_eq_true rfl⟩) ⟨PR.blind, va_recv hK hPc (ci := 5) (q0 := 0) rfl rfl, fun U hU hW => ⟨rfl, PR.to hPc hK hNB hU hW⟩⟩ rfl rfl hl.1 rfl (lv_room (Nat.le_of_ble_eq_true rfl)) dX5_slow_3 ⟨Nat.le_of_ble_eq_true rfl, Nat.le_of_ble_eq_true rfl⟩).run (fun r_1 hrr_1 => ?_)
  subst hrr_1
  refine lv_if_eq (tgt := 27) hx hb dX5_slow_6 (by decide) (fun c_6 => ?_) (fun c_6 => ?_)
  · skip
    rw [zc_if0] at c_6
    refine lv_iconst (v := (nI 1)) hx hb dX5_slow_27 (by decide) ?_
    refine lv_goto (tgt := 32) hx hb dX5_slow_28 (by decide) ?_
    have hPc := hP.sub (ws' := [(qm, .inr (5, [.int cd, .int (nI n), .int (nI ni), .int (nI no), .ref mk, .ref m0, .ref m1, .ref mi, .ref mo, .ref ml, .ref mf, .ref ma, .int (nI cl), .ref mfd, .ref mts, .int (nI tc), .ref mg, .ref mb]))]) [0] rfl
    have hDc := hD.sub (ws' := [(qm, .inr (5, [.int cd, .int (nI n), .int (nI ni), .int (nI no), .ref mk, .ref m0, .ref m1, .ref mi, .ref mo, .ref ml, .ref mf, .ref ma, .int (nI cl), .ref mfd, .ref mts, .int (nI tc), .ref mg, .ref mb]))]) [0] (by decide) rfl
    have hFc := va_free (wc := [(qm, .inr (5, [.int cd, .int (nI n), .int (nI ni), .int (nI no), .ref mk, .ref m0, .ref m1, .ref mi, .ref mo, .ref ml, .ref mf, .ref ma, .int (nI cl), .ref mfd, .ref mts, .int (nI tc), .ref mg, .ref mb]))]) hD hS hA [0] rfl
    refine va_calli (va_runV (As := [.int (nI 1)]) (rest := []) ⟨hx, hb, hml, hown, hts⟩ (c_X5_refuses l D cI cJ cZ qm mk m0 m1 mi mo ml mf ma mfd mts mg mb cd n ni no cl tc 1 s.heap.size _ rfl (by omega)) (cwV 1 hts gX5_slow_X5_refuses rfl rfl rfl (by decide +kernel) ⟨Nat.le_of_ble_eq_true rfl, Nat.le_of_ble_eq_true rfl⟩) ⟨PW.blind, va_recv hK hPc (ci := 5) (q0 := 0) rfl rfl, fun U hU hW => ⟨rfl, PW.to hPc hK hNB hDc hU hW⟩⟩ rfl rfl hl.1 rfl (lv_room (Nat.le_of_ble_eq_true rfl)) dX5_slow_32 ⟨Nat.le_of_ble_eq_true rfl, Nat.le_of_ble_eq_true rfl⟩) hS (fun q _ h => hFc q h) hFc (fun r_2 u_9 t_9 H1_9 locs ht_9 hvm_9 hw_9 hB_9 hz1_9 hk1_9 hS => ?_)
    obtain ⟨hP1_9, hD1_9⟩ := hB_9
    rw [ht_9] at hP1_9
    obtain rfl := hw_9
    obtain ⟨hP, hD⟩ := va_join (wr := []) (w1 := [(qm, .inr (5, [.int (nI 1), .int (nI n), .int (nI ni), .int (nI no), .ref mk, .ref m0, .ref m1, .ref mi, .ref mo, .ref ml, .ref mf, .ref ma, .int (nI cl), .ref mfd, .ref mts, .int (nI tc), .ref mg, .ref mb]))]) hP hD [0] [] rfl rfl (by decide) (by decide) hk1_9 hFc hP1_9 hD1_9
    generalize H1_9 = H at hP hS ⊢
    have hP : va_P D vwCl [(qm, .inr (5, [.int (nI 1), .int (nI n), .int (nI ni), .int (nI no), .ref mk, .ref m0, .ref m1, .ref mi, .ref mo, .ref ml, .ref mf, .ref ma, .int (nI cl), .ref mfd, .ref mts, .int (nI tc), .ref mg, .ref mb]))] H := hP
    have hD : va_D A [(qm, .inr (5, [.int (nI 1), .int (nI n), .int (nI ni), .int (nI no), .ref mk, .ref m0, .ref m1, .ref mi, .ref mo, .ref ml, .ref mf, .ref ma, .int (nI cl), .ref mfd, .ref mts, .int (nI tc), .ref mg, .ref mb]))] := hD
    refine lv_if_eq (tgt := 40) hx hb dX5_slow_35 (by decide) (fun c_35 => ?_) (fun c_35 => ?_)
    · skip
      rw [zc_if0] at c_35
      exact absurd (by decide) c_35
    · skip
      rw [zc_if0] at c_35
      have c_35 := Classical.not_not.mp c_35
      refine lv_iconst (v := (nI 0)) hx hb dX5_slow_38 (by decide) ?_
      exact W.iret (v := (nI 0)) hx hb hr (fun t_9 ht_9 hW_9 => ⟨⟨(nI 0), (), rfl, rfl, ⟨by rw [ht_9]; exact hP, hD⟩⟩, hS.F ht_9⟩) hS.2.2 dX5_slow_39
  · skip
    rw [zc_if0] at c_6
    have c_6 := Classical.not_not.mp c_6
    refine lv_iload_n hx hb dX5_slow_9 rfl (lv_at hl 2 rfl) ?_
    refine lv_if_lt (tgt := 27) hx hb dX5_slow_10 (by decide) (fun c_10 => ?_) (fun c_10 => ?_)
    · skip
      refine lv_iconst (v := (nI 1)) hx hb dX5_slow_27 (by decide) ?_
      refine lv_goto (tgt := 32) hx hb dX5_slow_28 (by decide) ?_
      have hPc := hP.sub (ws' := [(qm, .inr (5, [.int cd, .int (nI n), .int (nI ni), .int (nI no), .ref mk, .ref m0, .ref m1, .ref mi, .ref mo, .ref ml, .ref mf, .ref ma, .int (nI cl), .ref mfd, .ref mts, .int (nI tc), .ref mg, .ref mb]))]) [0] rfl
      have hDc := hD.sub (ws' := [(qm, .inr (5, [.int cd, .int (nI n), .int (nI ni), .int (nI no), .ref mk, .ref m0, .ref m1, .ref mi, .ref mo, .ref ml, .ref mf, .ref ma, .int (nI cl), .ref mfd, .ref mts, .int (nI tc), .ref mg, .ref mb]))]) [0] (by decide) rfl
      have hFc := va_free (wc := [(qm, .inr (5, [.int cd, .int (nI n), .int (nI ni), .int (nI no), .ref mk, .ref m0, .ref m1, .ref mi, .ref mo, .ref ml, .ref mf, .ref ma, .int (nI cl), .ref mfd, .ref mts, .int (nI tc), .ref mg, .ref mb]))]) hD hS hA [0] rfl
      refine va_calli (va_runV (As := [.int (nI 1)]) (rest := []) ⟨hx, hb, hml, hown, hts⟩ (c_X5_refuses l D cI cJ cZ qm mk m0 m1 mi mo ml mf ma mfd mts mg mb cd n ni no cl tc 1 s.heap.size _ rfl (by omega)) (cwV 1 hts gX5_slow_X5_refuses rfl rfl rfl (by decide +kernel) ⟨Nat.le_of_ble_eq_true rfl, Nat.le_of_ble_eq_true rfl⟩) ⟨PW.blind, va_recv hK hPc (ci := 5) (q0 := 0) rfl rfl, fun U hU hW => ⟨rfl, PW.to hPc hK hNB hDc hU hW⟩⟩ rfl rfl hl.1 rfl (lv_room (Nat.le_of_ble_eq_true rfl)) dX5_slow_32 ⟨Nat.le_of_ble_eq_true rfl, Nat.le_of_ble_eq_true rfl⟩) hS (fun q _ h => hFc q h) hFc (fun r_3 u_9 t_9 H1_9 locs ht_9 hvm_9 hw_9 hB_9 hz1_9 hk1_9 hS => ?_)
      obtain ⟨hP1_9, hD1_9⟩ := hB_9
      rw [ht_9] at hP1_9
      obtain rfl := hw_9
      obtain ⟨hP, hD⟩ := va_join (wr := []) (w1 := [(qm, .inr (5, [.int (nI 1), .int (nI n), .int (nI ni), .int (nI no), .ref mk, .ref m0, .ref m1, .ref mi, .ref mo, .ref ml, .ref mf, .ref ma, .int (nI cl), .ref mfd, .ref mts, .int (nI tc), .ref mg, .ref mb]))]) hP hD [0] [] rfl rfl (by decide) (by decide) hk1_9 hFc hP1_9 hD1_9
      generalize H1_9 = H at hP hS ⊢
      have hP : va_P D vwCl [(qm, .inr (5, [.int (nI 1), .int (nI n), .int (nI ni), .int (nI no), .ref mk, .ref m0, .ref m1, .ref mi, .ref mo, .ref ml, .ref mf, .ref ma, .int (nI cl), .ref mfd, .ref mts, .int (nI tc), .ref mg, .ref mb]))] H := hP
      have hD : va_D A [(qm, .inr (5, [.int (nI 1), .int (nI n), .int (nI ni), .int (nI no), .ref mk, .ref m0, .ref m1, .ref mi, .ref mo, .ref ml, .ref mf, .ref ma, .int (nI cl), .ref mfd, .ref mts, .int (nI tc), .ref mg, .ref mb]))] := hD
      refine lv_if_eq (tgt := 40) hx hb dX5_slow_35 (by decide) (fun c_35 => ?_) (fun c_35 => ?_)
      · skip
        rw [zc_if0] at c_35
        exact absurd (by decide) c_35
      · skip
        rw [zc_if0] at c_35
        have c_35 := Classical.not_not.mp c_35
        refine lv_iconst (v := (nI 0)) hx hb dX5_slow_38 (by decide) ?_
        exact W.iret (v := (nI 0)) hx hb hr (fun t_9 ht_9 hW_9 => ⟨⟨(nI 0), (), rfl, rfl, ⟨by rw [ht_9]; exact hP, hD⟩⟩, hS.F ht_9⟩) hS.2.2 dX5_slow_39
    · skip
      refine lv_iload_n hx hb dX5_slow_13 rfl (lv_at hl 2 rfl) ?_
      refine lv_iconst (v := (nI 1)) hx hb dX5_slow_14 (by decide) ?_
      refine lv_icmp_gt (tgt := 27) hx hb dX5_slow_15 (by decide) (fun c_15 => ?_) (fun c_15 => ?_)
      · skip
        refine lv_iconst (v := (nI 1)) hx hb dX5_slow_27 (by decide) ?_
        refine lv_goto (tgt := 32) hx hb dX5_slow_28 (by decide) ?_
        have hPc := hP.sub (ws' := [(qm, .inr (5, [.int cd, .int (nI n), .int (nI ni), .int (nI no), .ref mk, .ref m0, .ref m1, .ref mi, .ref mo, .ref ml, .ref mf, .ref ma, .int (nI cl), .ref mfd, .ref mts, .int (nI tc), .ref mg, .ref mb]))]) [0] rfl
        have hDc := hD.sub (ws' := [(qm, .inr (5, [.int cd, .int (nI n), .int (nI ni), .int (nI no), .ref mk, .ref m0, .ref m1, .ref mi, .ref mo, .ref ml, .ref mf, .ref ma, .int (nI cl), .ref mfd, .ref mts, .int (nI tc), .ref mg, .ref mb]))]) [0] (by decide) rfl
        have hFc := va_free (wc := [(qm, .inr (5, [.int cd, .int (nI n), .int (nI ni), .int (nI no), .ref mk, .ref m0, .ref m1, .ref mi, .ref mo, .ref ml, .ref mf, .ref ma, .int (nI cl), .ref mfd, .ref mts, .int (nI tc), .ref mg, .ref mb]))]) hD hS hA [0] rfl
        refine va_calli (va_runV (As := [.int (nI 1)]) (rest := []) ⟨hx, hb, hml, hown, hts⟩ (c_X5_refuses l D cI cJ cZ qm mk m0 m1 mi mo ml mf ma mfd mts mg mb cd n ni no cl tc 1 s.heap.size _ rfl (by omega)) (cwV 1 hts gX5_slow_X5_refuses rfl rfl rfl (by decide +kernel) ⟨Nat.le_of_ble_eq_true rfl, Nat.le_of_ble_eq_true rfl⟩) ⟨PW.blind, va_recv hK hPc (ci := 5) (q0 := 0) rfl rfl, fun U hU hW => ⟨rfl, PW.to hPc hK hNB hDc hU hW⟩⟩ rfl rfl hl.1 rfl (lv_room (Nat.le_of_ble_eq_true rfl)) dX5_slow_32 ⟨Nat.le_of_ble_eq_true rfl, Nat.le_of_ble_eq_true rfl⟩) hS (fun q _ h => hFc q h) hFc (fun r_4 u_9 t_9 H1_9 locs ht_9 hvm_9 hw_9 hB_9 hz1_9 hk1_9 hS => ?_)
        obtain ⟨hP1_9, hD1_9⟩ := hB_9
        rw [ht_9] at hP1_9
        obtain rfl := hw_9
        obtain ⟨hP, hD⟩ := va_join (wr := []) (w1 := [(qm, .inr (5, [.int (nI 1), .int (nI n), .int (nI ni), .int (nI no), .ref mk, .ref m0, .ref m1, .ref mi, .ref mo, .ref ml, .ref mf, .ref ma, .int (nI cl), .ref mfd, .ref mts, .int (nI tc), .ref mg, .ref mb]))]) hP hD [0] [] rfl rfl (by decide) (by decide) hk1_9 hFc hP1_9 hD1_9
        generalize H1_9 = H at hP hS ⊢
        have hP : va_P D vwCl [(qm, .inr (5, [.int (nI 1), .int (nI n), .int (nI ni), .int (nI no), .ref mk, .ref m0, .ref m1, .ref mi, .ref mo, .ref ml, .ref mf, .ref ma, .int (nI cl), .ref mfd, .ref mts, .int (nI tc), .ref mg, .ref mb]))] H := hP
        have hD : va_D A [(qm, .inr (5, [.int (nI 1), .int (nI n), .int (nI ni), .int (nI no), .ref mk, .ref m0, .ref m1, .ref mi, .ref mo, .ref ml, .ref mf, .ref ma, .int (nI cl), .ref mfd, .ref mts, .int (nI tc), .ref mg, .ref mb]))] := hD
        refine lv_if_eq (tgt := 40) hx hb dX5_slow_35 (by decide) (fun c_35 => ?_) (fun c_35 => ?_)
        · skip
          rw [zc_if0] at c_35
          exact absurd (by decide) c_35
        · skip
          rw [zc_if0] at c_35
          have c_35 := Classical.not_not.mp c_35
          refine lv_iconst (v := (nI 0)) hx hb dX5_slow_38 (by decide) ?_
          exact W.iret (v := (nI 0)) hx hb hr (fun t_9 ht_9 hW_9 => ⟨⟨(nI 0), (), rfl, rfl, ⟨by rw [ht_9]; exact hP, hD⟩⟩, hS.F ht_9⟩) hS.2.2 dX5_slow_39
      · skip
        refine lv_iload_n hx hb dX5_slow_18 rfl (lv_at hl 3 rfl) ?_
        refine lv_if_lt (tgt := 27) hx hb dX5_slow_19 (by decide) (fun c_19 => ?_) (fun c_19 => ?_)
        · skip
          refine lv_iconst (v := (nI 1)) hx hb dX5_slow_27 (by decide) ?_
          refine lv_goto (tgt := 32) hx hb dX5_slow_28 (by decide) ?_
          have hPc := hP.sub (ws' := [(qm, .inr (5, [.int cd, .int (nI n), .int (nI ni), .int (nI no), .ref mk, .ref m0, .ref m1, .ref mi, .ref mo, .ref ml, .ref mf, .ref ma, .int (nI cl), .ref mfd, .ref mts, .int (nI tc), .ref mg, .ref mb]))]) [0] rfl
          have hDc := hD.sub (ws' := [(qm, .inr (5, [.int cd, .int (nI n), .int (nI ni), .int (nI no), .ref mk, .ref m0, .ref m1, .ref mi, .ref mo, .ref ml, .ref mf, .ref ma, .int (nI cl), .ref mfd, .ref mts, .int (nI tc), .ref mg, .ref mb]))]) [0] (by decide) rfl
          have hFc := va_free (wc := [(qm, .inr (5, [.int cd, .int (nI n), .int (nI ni), .int (nI no), .ref mk, .ref m0, .ref m1, .ref mi, .ref mo, .ref ml, .ref mf, .ref ma, .int (nI cl), .ref mfd, .ref mts, .int (nI tc), .ref mg, .ref mb]))]) hD hS hA [0] rfl
          refine va_calli (va_runV (As := [.int (nI 1)]) (rest := []) ⟨hx, hb, hml, hown, hts⟩ (c_X5_refuses l D cI cJ cZ qm mk m0 m1 mi mo ml mf ma mfd mts mg mb cd n ni no cl tc 1 s.heap.size _ rfl (by omega)) (cwV 1 hts gX5_slow_X5_refuses rfl rfl rfl (by decide +kernel) ⟨Nat.le_of_ble_eq_true rfl, Nat.le_of_ble_eq_true rfl⟩) ⟨PW.blind, va_recv hK hPc (ci := 5) (q0 := 0) rfl rfl, fun U hU hW => ⟨rfl, PW.to hPc hK hNB hDc hU hW⟩⟩ rfl rfl hl.1 rfl (lv_room (Nat.le_of_ble_eq_true rfl)) dX5_slow_32 ⟨Nat.le_of_ble_eq_true rfl, Nat.le_of_ble_eq_true rfl⟩) hS (fun q _ h => hFc q h) hFc (fun r_5 u_9 t_9 H1_9 locs ht_9 hvm_9 hw_9 hB_9 hz1_9 hk1_9 hS => ?_)
          obtain ⟨hP1_9, hD1_9⟩ := hB_9
          rw [ht_9] at hP1_9
          obtain rfl := hw_9
          obtain ⟨hP, hD⟩ := va_join (wr := []) (w1 := [(qm, .inr (5, [.int (nI 1), .int (nI n), .int (nI ni), .int (nI no), .ref mk, .ref m0, .ref m1, .ref mi, .ref mo, .ref ml, .ref mf, .ref ma, .int (nI cl), .ref mfd, .ref mts, .int (nI tc), .ref mg, .ref mb]))]) hP hD [0] [] rfl rfl (by decide) (by decide) hk1_9 hFc hP1_9 hD1_9
          generalize H1_9 = H at hP hS ⊢
          have hP : va_P D vwCl [(qm, .inr (5, [.int (nI 1), .int (nI n), .int (nI ni), .int (nI no), .ref mk, .ref m0, .ref m1, .ref mi, .ref mo, .ref ml, .ref mf, .ref ma, .int (nI cl), .ref mfd, .ref mts, .int (nI tc), .ref mg, .ref mb]))] H := hP
          have hD : va_D A [(qm, .inr (5, [.int (nI 1), .int (nI n), .int (nI ni), .int (nI no), .ref mk, .ref m0, .ref m1, .ref mi, .ref mo, .ref ml, .ref mf, .ref ma, .int (nI cl), .ref mfd, .ref mts, .int (nI tc), .ref mg, .ref mb]))] := hD
          refine lv_if_eq (tgt := 40) hx hb dX5_slow_35 (by decide) (fun c_35 => ?_) (fun c_35 => ?_)
          · skip
            rw [zc_if0] at c_35
            exact absurd (by decide) c_35
          · skip
            rw [zc_if0] at c_35
            have c_35 := Classical.not_not.mp c_35
            refine lv_iconst (v := (nI 0)) hx hb dX5_slow_38 (by decide) ?_
            exact W.iret (v := (nI 0)) hx hb hr (fun t_9 ht_9 hW_9 => ⟨⟨(nI 0), (), rfl, rfl, ⟨by rw [ht_9]; exact hP, hD⟩⟩, hS.F ht_9⟩) hS.2.2 dX5_slow_39
        · skip
          refine lv_iload_n hx hb dX5_slow_22 rfl (lv_at hl 3 rfl) ?_
          refine lv_iconst (v := (nI 1)) hx hb dX5_slow_23 (by decide) ?_
          refine lv_icmp_le (tgt := 31) hx hb dX5_slow_24 (by decide) (fun c_24 => ?_) (fun c_24 => ?_)
          · skip
            exact absurd ⟨c_6, c_10, c_15, c_19, c_24⟩ h
          · skip
            refine lv_iconst (v := (nI 1)) hx hb dX5_slow_27 (by decide) ?_
            refine lv_goto (tgt := 32) hx hb dX5_slow_28 (by decide) ?_
            have hPc := hP.sub (ws' := [(qm, .inr (5, [.int cd, .int (nI n), .int (nI ni), .int (nI no), .ref mk, .ref m0, .ref m1, .ref mi, .ref mo, .ref ml, .ref mf, .ref ma, .int (nI cl), .ref mfd, .ref mts, .int (nI tc), .ref mg, .ref mb]))]) [0] rfl
            have hDc := hD.sub (ws' := [(qm, .inr (5, [.int cd, .int (nI n), .int (nI ni), .int (nI no), .ref mk, .ref m0, .ref m1, .ref mi, .ref mo, .ref ml, .ref mf, .ref ma, .int (nI cl), .ref mfd, .ref mts, .int (nI tc), .ref mg, .ref mb]))]) [0] (by decide) rfl
            have hFc := va_free (wc := [(qm, .inr (5, [.int cd, .int (nI n), .int (nI ni), .int (nI no), .ref mk, .ref m0, .ref m1, .ref mi, .ref mo, .ref ml, .ref mf, .ref ma, .int (nI cl), .ref mfd, .ref mts, .int (nI tc), .ref mg, .ref mb]))]) hD hS hA [0] rfl
            refine va_calli (va_runV (As := [.int (nI 1)]) (rest := []) ⟨hx, hb, hml, hown, hts⟩ (c_X5_refuses l D cI cJ cZ qm mk m0 m1 mi mo ml mf ma mfd mts mg mb cd n ni no cl tc 1 s.heap.size _ rfl (by omega)) (cwV 1 hts gX5_slow_X5_refuses rfl rfl rfl (by decide +kernel) ⟨Nat.le_of_ble_eq_true rfl, Nat.le_of_ble_eq_true rfl⟩) ⟨PW.blind, va_recv hK hPc (ci := 5) (q0 := 0) rfl rfl, fun U hU hW => ⟨rfl, PW.to hPc hK hNB hDc hU hW⟩⟩ rfl rfl hl.1 rfl (lv_room (Nat.le_of_ble_eq_true rfl)) dX5_slow_32 ⟨Nat.le_of_ble_eq_true rfl, Nat.le_of_ble_eq_true rfl⟩) hS (fun q _ h => hFc q h) hFc (fun r_6 u_9 t_9 H1_9 locs ht_9 hvm_9 hw_9 hB_9 hz1_9 hk1_9 hS => ?_)
            obtain ⟨hP1_9, hD1_9⟩ := hB_9
            rw [ht_9] at hP1_9
            obtain rfl := hw_9
            obtain ⟨hP, hD⟩ := va_join (wr := []) (w1 := [(qm, .inr (5, [.int (nI 1), .int (nI n), .int (nI ni), .int (nI no), .ref mk, .ref m0, .ref m1, .ref mi, .ref mo, .ref ml, .ref mf, .ref ma, .int (nI cl), .ref mfd, .ref mts, .int (nI tc), .ref mg, .ref mb]))]) hP hD [0] [] rfl rfl (by decide) (by decide) hk1_9 hFc hP1_9 hD1_9
            generalize H1_9 = H at hP hS ⊢
            have hP : va_P D vwCl [(qm, .inr (5, [.int (nI 1), .int (nI n), .int (nI ni), .int (nI no), .ref mk, .ref m0, .ref m1, .ref mi, .ref mo, .ref ml, .ref mf, .ref ma, .int (nI cl), .ref mfd, .ref mts, .int (nI tc), .ref mg, .ref mb]))] H := hP
            have hD : va_D A [(qm, .inr (5, [.int (nI 1), .int (nI n), .int (nI ni), .int (nI no), .ref mk, .ref m0, .ref m1, .ref mi, .ref mo, .ref ml, .ref mf, .ref ma, .int (nI cl), .ref mfd, .ref mts, .int (nI tc), .ref mg, .ref mb]))] := hD
            refine lv_if_eq (tgt := 40) hx hb dX5_slow_35 (by decide) (fun c_35 => ?_) (fun c_35 => ?_)
            · skip
              rw [zc_if0] at c_35
              exact absurd (by decide) c_35
            · skip
              rw [zc_if0] at c_35
              have c_35 := Classical.not_not.mp c_35
              refine lv_iconst (v := (nI 0)) hx hb dX5_slow_38 (by decide) ?_
              exact W.iret (v := (nI 0)) hx hb hr (fun t_9 ht_9 hW_9 => ⟨⟨(nI 0), (), rfl, rfl, ⟨by rw [ht_9]; exact hP, hD⟩⟩, hS.F ht_9⟩) hS.2.2 dX5_slow_39

set_option maxHeartbeats 4000000 in
set_option maxRecDepth 100000 in
theorem c_X5_slow_ok (l : Launch) (D : va_G) (cI cJ cZ : ClassId) (qm : Nat) (mk : Nat) (m0 : Nat) (m1 : Nat) (mi : Nat) (mo : Nat) (ml : Nat) (mf : Nat) (ma : Nat) (mfd : Nat) (mts : Nat) (mg : Nat) (mb : Nat) (cd : Int32) (n : Nat) (ni : Nat) (no : Nat) (cl : Nat) (tc : Nat) (kd : Nat → Int32) (s0 : Nat → Int32) (s1 : Nat → Int32) (io : Nat → Int32) (on : Nat → Int32) (gd : Nat → Int64) (bd : Nat → Int64) (vl : Nat → Int64) (j : Nat) (v : Nat) (wh : Nat) (sz : Nat) (A : Nat → Prop) (hAe : A = va_A [(qm, .inr (5, [.int cd, .int (nI n), .int (nI ni), .int (nI no), .ref mk, .ref m0, .ref m1, .ref mi, .ref mo, .ref ml, .ref mf, .ref ma, .int (nI cl), .ref mfd, .ref mts, .int (nI tc), .ref mg, .ref mb])), (mk, .inl (cI, 100, .inl kd)), (m0, .inl (cI, 100, .inl s0)), (m1, .inl (cI, 100, .inl s1)), (mi, .inl (cI, 100, .inl io)), (mo, .inl (cI, 12, .inl on)), (mg, .inl (cJ, 100, .inr (.inl gd))), (mb, .inl (cJ, 100, .inr (.inl bd)))] sz) (hn : n ≤ 100) (hno : no ≤ 12) (hwf : WF n kd s0 s1) (hwo : WO n no on) (hkd : KD n kd) (hio : IOK n kd io) (hV : VOK n kd s0 s1 io vl) (hni : ni ≤ 10) (hj : j < n) (hv : v < 2) (hwh : wh < 2) : Met l yX5_slow wsX5_slow ({ frames := 4, cells := 0, slots := 0, locals := 104 } : Room) (va_Pc [.ref qm, .int (nI j), .int (nI v), .int (nI wh)] (PW D cI cJ cZ [(qm, .inr (5, [.int cd, .int (nI n), .int (nI ni), .int (nI no), .ref mk, .ref m0, .ref m1, .ref mi, .ref mo, .ref ml, .ref mf, .ref ma, .int (nI cl), .ref mfd, .ref mts, .int (nI tc), .ref mg, .ref mb])), (mk, .inl (cI, 100, .inl kd)), (m0, .inl (cI, 100, .inl s0)), (m1, .inl (cI, 100, .inl s1)), (mi, .inl (cI, 100, .inl io)), (mo, .inl (cI, 12, .inl on)), (mg, .inl (cJ, 100, .inr (.inl gd))), (mb, .inl (cJ, 100, .inr (.inl bd)))] sz)) (va_Qi (fun (r_9 : Int32) (u9 : (Nat → Int64) × (Nat → Int64)) => match u9 with | (gd2, bd2) => r_9 = (slwF (leastF (fun w => shw kd s0 s1 on vl n ni no (j * 6 + 0 * 2 + (1 - v)) w) (wordsN ni) 0) (leastF (fun w => ((vl (w * 100 + j) ^^^ allW (nI (1 - v))) ^^^ (-1)) &&& maskW ni) (wordsN ni) 0) wh)) (fun (u9 : (Nat → Int64) × (Nat → Int64)) t => match u9 with | (gd2, bd2) => PQ D A [(qm, .inr (5, [.int (nI 0), .int (nI n), .int (nI ni), .int (nI no), .ref mk, .ref m0, .ref m1, .ref mi, .ref mo, .ref ml, .ref mf, .ref ma, .int (nI cl), .ref mfd, .ref mts, .int (nI tc), .ref mg, .ref mb])), (mk, .inl (cI, 100, .inl kd)), (m0, .inl (cI, 100, .inl s0)), (m1, .inl (cI, 100, .inl s1)), (mi, .inl (cI, 100, .inl io)), (mo, .inl (cI, 12, .inl on)), (mg, .inl (cJ, 100, .inr (.inl gd2))), (mb, .inl (cJ, 100, .inr (.inl bd2)))] t) A) 0 0 A := by
  refine Met.ofW (cc := cX5_slow) (maxL := 6) (ret := (some .int)) (by decide) rfl ?_
  intro p e s m args below meth c s₁ B hml hv
  obtain ⟨rfl, hsz, ⟨hP, hK, hNB⟩, hD0⟩ := hv
  have hx := B.exec
  have hb := B.bytes
  have hr := B.returns
  have hts := atoms_spec (ws := wsX5_slow) B.pre
  have hown : s.vm.findClass RX5 = some m.cls := findClass_of_methodNamed B.named
  have hlocks := B.notSynchronized
  subst hsz
  have hD : va_D A [(qm, .inr (5, [.int cd, .int (nI n), .int (nI ni), .int (nI no), .ref mk, .ref m0, .ref m1, .ref mi, .ref mo, .ref ml, .ref mf, .ref ma, .int (nI cl), .ref mfd, .ref mts, .int (nI tc), .ref mg, .ref mb])), (mk, .inl (cI, 100, .inl kd)), (m0, .inl (cI, 100, .inl s0)), (m1, .inl (cI, 100, .inl s1)), (mi, .inl (cI, 100, .inl io)), (mo, .inl (cI, 12, .inl on)), (mg, .inl (cJ, 100, .inr (.inl gd))), (mb, .inl (cJ, 100, .inr (.inl bd)))] := by rw [hAe]; exact hD0.self
  have hA : ∀ q : Nat, s.heap.size ≤ q → A q := fun q h => by rw [hAe]; exact Or.inr h
  have hS : va_S A s.heap s.heap [] := va_S.rf
  have hl := lv_entry ([.ref qm, .int (nI j), .int (nI v), .int (nI wh)]) (n := 6) (Nat.le_of_ble_eq_true rfl)
  rw [lg_entry_eq]
  generalize (lg_sl ([.ref qm, .int (nI j), .int (nI v), .int (nI wh)]) ++ List.replicate (6 - (lg_sl ([.ref qm, .int (nI j), .int (nI v), .int (nI wh)])).length) Slot.unset).toArray = ls at hl ⊢
  have hl : lv_has ls 6 [(0, .ref qm), (1, .int (nI j)), (2, .int (nI v)), (3, .int (nI wh))] := hl
  refine lv_aload_n hx hb dX5_slow_0 rfl (lv_at hl 0 rfl) ?_
  refine lv_aload_n hx hb dX5_slow_1 rfl (lv_at hl 0 rfl) ?_
  refine lv_iload_n hx hb dX5_slow_2 rfl (lv_at hl 1 rfl) ?_
  have hPc := hP.sub (ws' := [(qm, .inr (5, [.int cd, .int (nI n), .int (nI ni), .int (nI no), .ref mk, .ref m0, .ref m1, .ref mi, .ref mo, .ref ml, .ref mf, .ref ma, .int (nI cl), .ref mfd, .ref mts, .int (nI tc), .ref mg, .ref mb]))]) [0] rfl
  refine vp_callSi (va_runV (As := [.int (nI j)]) (rest := [.ref qm]) ⟨hx, hb, hml, hown, hts⟩ (c_X5_isNet l D cI cJ cZ qm mk m0 m1 mi mo ml mf ma mfd mts mg mb cd n ni no cl tc (nI j)) (cwV 1 hts gX5_slow_X5_isNet rfl rfl rfl (by decide +kernel) ⟨Nat.le_of_ble_eq_true rfl, Nat.le_of_ble_eq_true rfl⟩) ⟨PR.blind, va_recv hK hPc (ci := 5) (q0 := 0) rfl rfl, fun U hU hW => ⟨rfl, PR.to hPc hK hNB hU hW⟩⟩ rfl rfl hl.1 rfl (lv_room (Nat.le_of_ble_eq_true rfl)) dX5_slow_3 ⟨Nat.le_of_ble_eq_true rfl, Nat.le_of_ble_eq_true rfl⟩).run (fun r_1 hrr_1 => ?_)
  subst hrr_1
  refine lv_if_eq (tgt := 27) hx hb dX5_slow_6 (by decide) (fun c_6 => ?_) (fun c_6 => ?_)
  · skip
    rw [zc_if0] at c_6
    exact absurd (isN_nI (by omega) hj) c_6
  · skip
    rw [zc_if0] at c_6
    have c_6 := Classical.not_not.mp c_6
    refine lv_iload_n hx hb dX5_slow_9 rfl (lv_at hl 2 rfl) ?_
    refine lv_if_lt (tgt := 27) hx hb dX5_slow_10 (by decide) (fun c_10 => ?_) (fun c_10 => ?_)
    · skip
      rw [show (0 : Int32) = nI 0 from rfl, zc_lt (by omega) (by omega)] at c_10
      exact absurd c_10 (Nat.not_lt_zero _)
    · skip
      rw [show (0 : Int32) = nI 0 from rfl, zc_lt (by omega) (by omega)] at c_10
      refine lv_iload_n hx hb dX5_slow_13 rfl (lv_at hl 2 rfl) ?_
      refine lv_iconst (v := (nI 1)) hx hb dX5_slow_14 (by decide) ?_
      refine lv_icmp_gt (tgt := 27) hx hb dX5_slow_15 (by decide) (fun c_15 => ?_) (fun c_15 => ?_)
      · skip
        rw [zc_lt (by omega) (by omega)] at c_15
        exact absurd c_15 (by omega)
      · skip
        rw [zc_lt (by omega) (by omega)] at c_15
        refine lv_iload_n hx hb dX5_slow_18 rfl (lv_at hl 3 rfl) ?_
        refine lv_if_lt (tgt := 27) hx hb dX5_slow_19 (by decide) (fun c_19 => ?_) (fun c_19 => ?_)
        · skip
          rw [show (0 : Int32) = nI 0 from rfl, zc_lt (by omega) (by omega)] at c_19
          exact absurd c_19 (Nat.not_lt_zero _)
        · skip
          rw [show (0 : Int32) = nI 0 from rfl, zc_lt (by omega) (by omega)] at c_19
          refine lv_iload_n hx hb dX5_slow_22 rfl (lv_at hl 3 rfl) ?_
          refine lv_iconst (v := (nI 1)) hx hb dX5_slow_23 (by decide) ?_
          refine lv_icmp_le (tgt := 31) hx hb dX5_slow_24 (by decide) (fun c_24 => ?_) (fun c_24 => ?_)
          · skip
            rw [zc_le (by omega) (by omega)] at c_24
            refine lv_iconst (v := (nI 0)) hx hb dX5_slow_31 (by decide) ?_
            have hPc := hP.sub (ws' := [(qm, .inr (5, [.int cd, .int (nI n), .int (nI ni), .int (nI no), .ref mk, .ref m0, .ref m1, .ref mi, .ref mo, .ref ml, .ref mf, .ref ma, .int (nI cl), .ref mfd, .ref mts, .int (nI tc), .ref mg, .ref mb]))]) [0] rfl
            have hDc := hD.sub (ws' := [(qm, .inr (5, [.int cd, .int (nI n), .int (nI ni), .int (nI no), .ref mk, .ref m0, .ref m1, .ref mi, .ref mo, .ref ml, .ref mf, .ref ma, .int (nI cl), .ref mfd, .ref mts, .int (nI tc), .ref mg, .ref mb]))]) [0] (by decide) rfl
            have hFc := va_free (wc := [(qm, .inr (5, [.int cd, .int (nI n), .int (nI ni), .int (nI no), .ref mk, .ref m0, .ref m1, .ref mi, .ref mo, .ref ml, .ref mf, .ref ma, .int (nI cl), .ref mfd, .ref mts, .int (nI tc), .ref mg, .ref mb]))]) hD hS hA [0] rfl
            refine va_calli (va_runV (As := [.int (nI 0)]) (rest := []) ⟨hx, hb, hml, hown, hts⟩ (c_X5_refuses l D cI cJ cZ qm mk m0 m1 mi mo ml mf ma mfd mts mg mb cd n ni no cl tc 0 s.heap.size _ rfl (by omega)) (cwV 1 hts gX5_slow_X5_refuses rfl rfl rfl (by decide +kernel) ⟨Nat.le_of_ble_eq_true rfl, Nat.le_of_ble_eq_true rfl⟩) ⟨PW.blind, va_recv hK hPc (ci := 5) (q0 := 0) rfl rfl, fun U hU hW => ⟨rfl, PW.to hPc hK hNB hDc hU hW⟩⟩ rfl rfl hl.1 rfl (lv_room (Nat.le_of_ble_eq_true rfl)) dX5_slow_32 ⟨Nat.le_of_ble_eq_true rfl, Nat.le_of_ble_eq_true rfl⟩) hS (fun q _ h => hFc q h) hFc (fun r_2 u_9 t_9 H1_9 locs ht_9 hvm_9 hw_9 hB_9 hz1_9 hk1_9 hS => ?_)
            obtain ⟨hP1_9, hD1_9⟩ := hB_9
            rw [ht_9] at hP1_9
            obtain rfl := hw_9
            obtain ⟨hP, hD⟩ := va_join (wr := [(mk, .inl (cI, 100, .inl kd)), (m0, .inl (cI, 100, .inl s0)), (m1, .inl (cI, 100, .inl s1)), (mi, .inl (cI, 100, .inl io)), (mo, .inl (cI, 12, .inl on)), (mg, .inl (cJ, 100, .inr (.inl gd))), (mb, .inl (cJ, 100, .inr (.inl bd)))]) (w1 := [(qm, .inr (5, [.int (nI 0), .int (nI n), .int (nI ni), .int (nI no), .ref mk, .ref m0, .ref m1, .ref mi, .ref mo, .ref ml, .ref mf, .ref ma, .int (nI cl), .ref mfd, .ref mts, .int (nI tc), .ref mg, .ref mb]))]) hP hD [0] [1, 2, 3, 4, 5, 6, 7] rfl rfl (by decide) (by decide) hk1_9 hFc hP1_9 hD1_9
            have hP := hP.sub (ws' := [(qm, .inr (5, [.int (nI 0), .int (nI n), .int (nI ni), .int (nI no), .ref mk, .ref m0, .ref m1, .ref mi, .ref mo, .ref ml, .ref mf, .ref ma, .int (nI cl), .ref mfd, .ref mts, .int (nI tc), .ref mg, .ref mb])), (mk, .inl (cI, 100, .inl kd)), (m0, .inl (cI, 100, .inl s0)), (m1, .inl (cI, 100, .inl s1)), (mi, .inl (cI, 100, .inl io)), (mo, .inl (cI, 12, .inl on)), (mg, .inl (cJ, 100, .inr (.inl gd))), (mb, .inl (cJ, 100, .inr (.inl bd)))]) [7, 0, 1, 2, 3, 4, 5, 6] rfl
            have hD := hD.sub (ws' := [(qm, .inr (5, [.int (nI 0), .int (nI n), .int (nI ni), .int (nI no), .ref mk, .ref m0, .ref m1, .ref mi, .ref mo, .ref ml, .ref mf, .ref ma, .int (nI cl), .ref mfd, .ref mts, .int (nI tc), .ref mg, .ref mb])), (mk, .inl (cI, 100, .inl kd)), (m0, .inl (cI, 100, .inl s0)), (m1, .inl (cI, 100, .inl s1)), (mi, .inl (cI, 100, .inl io)), (mo, .inl (cI, 12, .inl on)), (mg, .inl (cJ, 100, .inr (.inl gd))), (mb, .inl (cJ, 100, .inr (.inl bd)))]) [7, 0, 1, 2, 3, 4, 5, 6] (by decide) rfl
            generalize H1_9 = H at hP hS ⊢
            have hP : va_P D vwCl [(qm, .inr (5, [.int (nI 0), .int (nI n), .int (nI ni), .int (nI no), .ref mk, .ref m0, .ref m1, .ref mi, .ref mo, .ref ml, .ref mf, .ref ma, .int (nI cl), .ref mfd, .ref mts, .int (nI tc), .ref mg, .ref mb])), (mk, .inl (cI, 100, .inl kd)), (m0, .inl (cI, 100, .inl s0)), (m1, .inl (cI, 100, .inl s1)), (mi, .inl (cI, 100, .inl io)), (mo, .inl (cI, 12, .inl on)), (mg, .inl (cJ, 100, .inr (.inl gd))), (mb, .inl (cJ, 100, .inr (.inl bd)))] H := hP
            have hD : va_D A [(qm, .inr (5, [.int (nI 0), .int (nI n), .int (nI ni), .int (nI no), .ref mk, .ref m0, .ref m1, .ref mi, .ref mo, .ref ml, .ref mf, .ref ma, .int (nI cl), .ref mfd, .ref mts, .int (nI tc), .ref mg, .ref mb])), (mk, .inl (cI, 100, .inl kd)), (m0, .inl (cI, 100, .inl s0)), (m1, .inl (cI, 100, .inl s1)), (mi, .inl (cI, 100, .inl io)), (mo, .inl (cI, 12, .inl on)), (mg, .inl (cJ, 100, .inr (.inl gd))), (mb, .inl (cJ, 100, .inr (.inl bd)))] := hD
            refine lv_if_eq (tgt := 40) hx hb dX5_slow_35 (by decide) (fun c_35 => ?_) (fun c_35 => ?_)
            · skip
              rw [zc_if0] at c_35
              refine lv_aload_n hx hb dX5_slow_40 rfl (lv_at hl 0 rfl) ?_
              refine lv_iload_n hx hb dX5_slow_41 rfl (lv_at hl 1 rfl) ?_
              refine lv_iconst (v := (-1)) hx hb dX5_slow_42 (by decide) ?_
              refine lv_iconst (v := (nI 1)) hx hb dX5_slow_43 (by decide) ?_
              refine lv_iload_n hx hb dX5_slow_44 rfl (lv_at hl 2 rfl) ?_
              refine lv_isub hx hb dX5_slow_45 ?_
              refine zz_i (z := (nI (1 - v))) (pk_sub (by omega)) ?_
              refine vp_callSi (va_runS (As := [.int (nI j), .int (-1), .int (nI (1 - v))]) (rest := [.ref qm]) ⟨hx, hb, hml, hown, hts⟩ (c_X5_faultOf l j (-1) 0 (1 - v) (by decide)) (va_cwS 3 hts gX5_slow_X5_faultOf rfl rfl rfl (by decide +kernel) ⟨Nat.le_of_ble_eq_true rfl, Nat.le_of_ble_eq_true rfl⟩) ⟨zt_blind, fun U hU hW => ⟨rfl, trivial⟩⟩ rfl rfl hl.1 rfl (lv_room (Nat.le_of_ble_eq_true rfl)) dX5_slow_46 ⟨Nat.le_of_ble_eq_true rfl, Nat.le_of_ble_eq_true rfl⟩).run (fun r_3 hrr_3 => ?_)
              subst hrr_3
              have hPc := hP.sub (ws' := [(qm, .inr (5, [.int (nI 0), .int (nI n), .int (nI ni), .int (nI no), .ref mk, .ref m0, .ref m1, .ref mi, .ref mo, .ref ml, .ref mf, .ref ma, .int (nI cl), .ref mfd, .ref mts, .int (nI tc), .ref mg, .ref mb])), (mk, .inl (cI, 100, .inl kd)), (m0, .inl (cI, 100, .inl s0)), (m1, .inl (cI, 100, .inl s1)), (mi, .inl (cI, 100, .inl io)), (mo, .inl (cI, 12, .inl on)), (mg, .inl (cJ, 100, .inr (.inl gd))), (mb, .inl (cJ, 100, .inr (.inl bd)))]) [0, 1, 2, 3, 4, 5, 6, 7] rfl
              have hDc := hD.sub (ws' := [(qm, .inr (5, [.int (nI 0), .int (nI n), .int (nI ni), .int (nI no), .ref mk, .ref m0, .ref m1, .ref mi, .ref mo, .ref ml, .ref mf, .ref ma, .int (nI cl), .ref mfd, .ref mts, .int (nI tc), .ref mg, .ref mb])), (mk, .inl (cI, 100, .inl kd)), (m0, .inl (cI, 100, .inl s0)), (m1, .inl (cI, 100, .inl s1)), (mi, .inl (cI, 100, .inl io)), (mo, .inl (cI, 12, .inl on)), (mg, .inl (cJ, 100, .inr (.inl gd))), (mb, .inl (cJ, 100, .inr (.inl bd)))]) [0, 1, 2, 3, 4, 5, 6, 7] (by decide) rfl
              have hFc := va_free (wc := [(qm, .inr (5, [.int (nI 0), .int (nI n), .int (nI ni), .int (nI no), .ref mk, .ref m0, .ref m1, .ref mi, .ref mo, .ref ml, .ref mf, .ref ma, .int (nI cl), .ref mfd, .ref mts, .int (nI tc), .ref mg, .ref mb])), (mk, .inl (cI, 100, .inl kd)), (m0, .inl (cI, 100, .inl s0)), (m1, .inl (cI, 100, .inl s1)), (mi, .inl (cI, 100, .inl io)), (mo, .inl (cI, 12, .inl on)), (mg, .inl (cJ, 100, .inr (.inl gd))), (mb, .inl (cJ, 100, .inr (.inl bd)))]) hD hS hA [0, 1, 2, 3, 4, 5, 6, 7] rfl
              refine va_calli (va_runV (As := [.int (nI (j * 6 + 0 * 2 + (1 - v)))]) (rest := []) ⟨hx, hb, hml, hown, hts⟩ (c_X5_testOf l D cI cJ cZ qm mk m0 m1 mi mo ml mf ma mfd mts mg mb (nI 0) n ni no cl tc kd s0 s1 io on gd bd vl (j * 6 + 0 * 2 + (1 - v)) H.size _ rfl (by omega) (by omega) hwf hwo hkd hio hV (by omega) (by omega) (Or.inl (by omega))) (cwV 1 hts gX5_slow_X5_testOf rfl rfl rfl (by decide +kernel) ⟨Nat.le_of_ble_eq_true rfl, Nat.le_of_ble_eq_true rfl⟩) ⟨PW.blind, va_recv hK hPc (ci := 5) (q0 := 0) rfl rfl, fun U hU hW => ⟨rfl, PW.to hPc hK hNB hDc hU hW⟩⟩ rfl rfl hl.1 rfl (lv_room (Nat.le_of_ble_eq_true rfl)) dX5_slow_49 ⟨Nat.le_of_ble_eq_true rfl, Nat.le_of_ble_eq_true rfl⟩) hS (fun q _ h => hFc q h) hFc (fun r_4 u_9 t_9 H1_9 locs ht_9 hvm_9 hw_9 hB_9 hz1_9 hk1_9 hS => ?_)
              obtain ⟨gd2_5, bd2_6⟩ := u_9
              obtain ⟨hP1_9, hD1_9⟩ := hB_9
              rw [ht_9] at hP1_9
              obtain rfl := hw_9
              obtain ⟨hP, hD⟩ := va_join (wr := []) (w1 := [(qm, .inr (5, [.int (nI 0), .int (nI n), .int (nI ni), .int (nI no), .ref mk, .ref m0, .ref m1, .ref mi, .ref mo, .ref ml, .ref mf, .ref ma, .int (nI cl), .ref mfd, .ref mts, .int (nI tc), .ref mg, .ref mb])), (mk, .inl (cI, 100, .inl kd)), (m0, .inl (cI, 100, .inl s0)), (m1, .inl (cI, 100, .inl s1)), (mi, .inl (cI, 100, .inl io)), (mo, .inl (cI, 12, .inl on)), (mg, .inl (cJ, 100, .inr (.inl gd2_5))), (mb, .inl (cJ, 100, .inr (.inl bd2_6)))]) hP hD [0, 1, 2, 3, 4, 5, 6, 7] [] rfl rfl (by decide) (by decide) hk1_9 hFc hP1_9 hD1_9
              generalize H1_9 = H at hP hS ⊢
              have hP : va_P D vwCl [(qm, .inr (5, [.int (nI 0), .int (nI n), .int (nI ni), .int (nI no), .ref mk, .ref m0, .ref m1, .ref mi, .ref mo, .ref ml, .ref mf, .ref ma, .int (nI cl), .ref mfd, .ref mts, .int (nI tc), .ref mg, .ref mb])), (mk, .inl (cI, 100, .inl kd)), (m0, .inl (cI, 100, .inl s0)), (m1, .inl (cI, 100, .inl s1)), (mi, .inl (cI, 100, .inl io)), (mo, .inl (cI, 12, .inl on)), (mg, .inl (cJ, 100, .inr (.inl gd2_5))), (mb, .inl (cJ, 100, .inr (.inl bd2_6)))] H := hP
              have hD : va_D A [(qm, .inr (5, [.int (nI 0), .int (nI n), .int (nI ni), .int (nI no), .ref mk, .ref m0, .ref m1, .ref mi, .ref mo, .ref ml, .ref mf, .ref ma, .int (nI cl), .ref mfd, .ref mts, .int (nI tc), .ref mg, .ref mb])), (mk, .inl (cI, 100, .inl kd)), (m0, .inl (cI, 100, .inl s0)), (m1, .inl (cI, 100, .inl s1)), (mi, .inl (cI, 100, .inl io)), (mo, .inl (cI, 12, .inl on)), (mg, .inl (cJ, 100, .inr (.inl gd2_5))), (mb, .inl (cJ, 100, .inr (.inl bd2_6)))] := hD
              refine lv_istore (lv' := [(4, .int (leastF (fun w => shw kd s0 s1 on vl n ni no (j * 6 + 0 * 2 + (1 - v)) w) (wordsN ni) 0)), (0, .ref qm), (1, .int (nI j)), (2, .int (nI v)), (3, .int (nI wh))]) hx hb dX5_slow_52 hl (by decide) rfl (fun ls hl => ?_)
              refine lv_aload_n hx hb dX5_slow_54 rfl (lv_at hl 1 rfl) ?_
              refine lv_iload_n hx hb dX5_slow_55 rfl (lv_at hl 2 rfl) ?_
              refine lv_iconst (v := (nI 1)) hx hb dX5_slow_56 (by decide) ?_
              refine lv_iload_n hx hb dX5_slow_57 rfl (lv_at hl 3 rfl) ?_
              refine lv_isub hx hb dX5_slow_58 ?_
              refine zz_i (z := (nI (1 - v))) (pk_sub (by omega)) ?_
              have hPc := hP.sub (ws' := [(qm, .inr (5, [.int (nI 0), .int (nI n), .int (nI ni), .int (nI no), .ref mk, .ref m0, .ref m1, .ref mi, .ref mo, .ref ml, .ref mf, .ref ma, .int (nI cl), .ref mfd, .ref mts, .int (nI tc), .ref mg, .ref mb])), (mk, .inl (cI, 100, .inl kd)), (m0, .inl (cI, 100, .inl s0)), (m1, .inl (cI, 100, .inl s1)), (mi, .inl (cI, 100, .inl io)), (mo, .inl (cI, 12, .inl on)), (mg, .inl (cJ, 100, .inr (.inl gd2_5))), (mb, .inl (cJ, 100, .inr (.inl bd2_6)))]) [0, 1, 2, 3, 4, 5, 6, 7] rfl
              have hDc := hD.sub (ws' := [(qm, .inr (5, [.int (nI 0), .int (nI n), .int (nI ni), .int (nI no), .ref mk, .ref m0, .ref m1, .ref mi, .ref mo, .ref ml, .ref mf, .ref ma, .int (nI cl), .ref mfd, .ref mts, .int (nI tc), .ref mg, .ref mb])), (mk, .inl (cI, 100, .inl kd)), (m0, .inl (cI, 100, .inl s0)), (m1, .inl (cI, 100, .inl s1)), (mi, .inl (cI, 100, .inl io)), (mo, .inl (cI, 12, .inl on)), (mg, .inl (cJ, 100, .inr (.inl gd2_5))), (mb, .inl (cJ, 100, .inr (.inl bd2_6)))]) [0, 1, 2, 3, 4, 5, 6, 7] (by decide) rfl
              have hFc := va_free (wc := [(qm, .inr (5, [.int (nI 0), .int (nI n), .int (nI ni), .int (nI no), .ref mk, .ref m0, .ref m1, .ref mi, .ref mo, .ref ml, .ref mf, .ref ma, .int (nI cl), .ref mfd, .ref mts, .int (nI tc), .ref mg, .ref mb])), (mk, .inl (cI, 100, .inl kd)), (m0, .inl (cI, 100, .inl s0)), (m1, .inl (cI, 100, .inl s1)), (mi, .inl (cI, 100, .inl io)), (mo, .inl (cI, 12, .inl on)), (mg, .inl (cJ, 100, .inr (.inl gd2_5))), (mb, .inl (cJ, 100, .inr (.inl bd2_6)))]) hD hS hA [0, 1, 2, 3, 4, 5, 6, 7] rfl
              refine va_calli (va_runV (As := [.int (nI j), .int (nI (1 - v))]) (rest := []) ⟨hx, hb, hml, hown, hts⟩ (c_X5_leastWith l D cI cJ cZ qm mk m0 m1 mi mo ml mf ma mfd mts mg mb (nI 0) n ni no cl tc kd s0 s1 io on gd2_5 bd2_6 vl j (1 - v) H.size _ rfl (by omega) (by omega) hwf hwo hkd hio hV (by omega) hj (by omega)) (cwV 2 hts gX5_slow_X5_leastWith rfl rfl rfl (by decide +kernel) ⟨Nat.le_of_ble_eq_true rfl, Nat.le_of_ble_eq_true rfl⟩) ⟨PW.blind, va_recv hK hPc (ci := 5) (q0 := 0) rfl rfl, fun U hU hW => ⟨rfl, PW.to hPc hK hNB hDc hU hW⟩⟩ rfl rfl hl.1 rfl (lv_room (Nat.le_of_ble_eq_true rfl)) dX5_slow_59 ⟨Nat.le_of_ble_eq_true rfl, Nat.le_of_ble_eq_true rfl⟩) hS (fun q _ h => hFc q h) hFc (fun r_7 u_9 t_9 H1_9 locs ht_9 hvm_9 hw_9 hB_9 hz1_9 hk1_9 hS => ?_)
              obtain ⟨gd2_8, bd2_9⟩ := u_9
              obtain ⟨hP1_9, hD1_9⟩ := hB_9
              rw [ht_9] at hP1_9
              obtain rfl := hw_9
              obtain ⟨hP, hD⟩ := va_join (wr := []) (w1 := [(qm, .inr (5, [.int (nI 0), .int (nI n), .int (nI ni), .int (nI no), .ref mk, .ref m0, .ref m1, .ref mi, .ref mo, .ref ml, .ref mf, .ref ma, .int (nI cl), .ref mfd, .ref mts, .int (nI tc), .ref mg, .ref mb])), (mk, .inl (cI, 100, .inl kd)), (m0, .inl (cI, 100, .inl s0)), (m1, .inl (cI, 100, .inl s1)), (mi, .inl (cI, 100, .inl io)), (mo, .inl (cI, 12, .inl on)), (mg, .inl (cJ, 100, .inr (.inl gd2_8))), (mb, .inl (cJ, 100, .inr (.inl bd2_9)))]) hP hD [0, 1, 2, 3, 4, 5, 6, 7] [] rfl rfl (by decide) (by decide) hk1_9 hFc hP1_9 hD1_9
              generalize H1_9 = H at hP hS ⊢
              have hP : va_P D vwCl [(qm, .inr (5, [.int (nI 0), .int (nI n), .int (nI ni), .int (nI no), .ref mk, .ref m0, .ref m1, .ref mi, .ref mo, .ref ml, .ref mf, .ref ma, .int (nI cl), .ref mfd, .ref mts, .int (nI tc), .ref mg, .ref mb])), (mk, .inl (cI, 100, .inl kd)), (m0, .inl (cI, 100, .inl s0)), (m1, .inl (cI, 100, .inl s1)), (mi, .inl (cI, 100, .inl io)), (mo, .inl (cI, 12, .inl on)), (mg, .inl (cJ, 100, .inr (.inl gd2_8))), (mb, .inl (cJ, 100, .inr (.inl bd2_9)))] H := hP
              have hD : va_D A [(qm, .inr (5, [.int (nI 0), .int (nI n), .int (nI ni), .int (nI no), .ref mk, .ref m0, .ref m1, .ref mi, .ref mo, .ref ml, .ref mf, .ref ma, .int (nI cl), .ref mfd, .ref mts, .int (nI tc), .ref mg, .ref mb])), (mk, .inl (cI, 100, .inl kd)), (m0, .inl (cI, 100, .inl s0)), (m1, .inl (cI, 100, .inl s1)), (mi, .inl (cI, 100, .inl io)), (mo, .inl (cI, 12, .inl on)), (mg, .inl (cJ, 100, .inr (.inl gd2_8))), (mb, .inl (cJ, 100, .inr (.inl bd2_9)))] := hD
              refine lv_istore (lv' := [(5, .int (leastF (fun w => ((vl (w * 100 + j) ^^^ allW (nI (1 - v))) ^^^ (-1)) &&& maskW ni) (wordsN ni) 0)), (4, .int (leastF (fun w => shw kd s0 s1 on vl n ni no (j * 6 + 0 * 2 + (1 - v)) w) (wordsN ni) 0)), (0, .ref qm), (1, .int (nI j)), (2, .int (nI v)), (3, .int (nI wh))]) hx hb dX5_slow_62 hl (by decide) rfl (fun ls hl => ?_)
              refine lv_iload hx hb dX5_slow_64 (lv_at hl 1 rfl) ?_
              refine lv_iconst (v := (-1)) hx hb dX5_slow_66 (by decide) ?_
              refine lv_icmp_eq (tgt := 76) hx hb dX5_slow_67 (by decide) (fun c_67 => ?_) (fun c_67 => ?_)
              · skip
                refine lv_iconst (v := (-1)) hx hb dX5_slow_76 (by decide) ?_
                refine lv_goto (tgt := 91) hx hb dX5_slow_77 (by decide) ?_
                exact W.iret (v := (-1)) hx hb hr (fun t_9 ht_9 hW_9 => ⟨⟨(-1), (gd2_8, bd2_9), rfl, (show (-1) = (slwF (leastF (fun w => shw kd s0 s1 on vl n ni no (j * 6 + 0 * 2 + (1 - v)) w) (wordsN ni) 0) (leastF (fun w => ((vl (w * 100 + j) ^^^ allW (nI (1 - v))) ^^^ (-1)) &&& maskW ni) (wordsN ni) 0) wh) from (by unfold slwF; first | (rw [if_pos (Or.inl c_67)]) | (rw [if_pos (Or.inr c_73)]) | (rw [if_neg (by intro h9; rcases h9 with h9 | h9; exact c_67 h9; exact c_73 h9), if_pos c_81]) | (rw [if_neg (by intro h9; rcases h9 with h9 | h9; exact c_67 h9; exact c_73 h9), if_neg c_81]))), ⟨by rw [ht_9]; exact hP, hD⟩⟩, hS.F ht_9⟩) hS.2.2 dX5_slow_91
              · skip
                refine lv_iload hx hb dX5_slow_70 (lv_at hl 0 rfl) ?_
                refine lv_iconst (v := (-1)) hx hb dX5_slow_72 (by decide) ?_
                refine lv_icmp_ne (tgt := 80) hx hb dX5_slow_73 (by decide) (fun c_73 => ?_) (fun c_73 => ?_)
                · skip
                  refine lv_iload_n hx hb dX5_slow_80 rfl (lv_at hl 5 rfl) ?_
                  refine lv_if_ne (tgt := 89) hx hb dX5_slow_81 (by decide) (fun c_81 => ?_) (fun c_81 => ?_)
                  · skip
                    rw [zc_eq0 (by omega)] at c_81
                    refine lv_iload hx hb dX5_slow_89 (lv_at hl 1 rfl) ?_
                    exact W.iret (v := (leastF (fun w => shw kd s0 s1 on vl n ni no (j * 6 + 0 * 2 + (1 - v)) w) (wordsN ni) 0)) hx hb hr (fun t_9 ht_9 hW_9 => ⟨⟨(leastF (fun w => shw kd s0 s1 on vl n ni no (j * 6 + 0 * 2 + (1 - v)) w) (wordsN ni) 0), (gd2_8, bd2_9), rfl, (show (leastF (fun w => shw kd s0 s1 on vl n ni no (j * 6 + 0 * 2 + (1 - v)) w) (wordsN ni) 0) = (slwF (leastF (fun w => shw kd s0 s1 on vl n ni no (j * 6 + 0 * 2 + (1 - v)) w) (wordsN ni) 0) (leastF (fun w => ((vl (w * 100 + j) ^^^ allW (nI (1 - v))) ^^^ (-1)) &&& maskW ni) (wordsN ni) 0) wh) from (by unfold slwF; first | (rw [if_pos (Or.inl c_67)]) | (rw [if_pos (Or.inr c_73)]) | (rw [if_neg (by intro h9; rcases h9 with h9 | h9; exact c_67 h9; exact c_73 h9), if_pos c_81]) | (rw [if_neg (by intro h9; rcases h9 with h9 | h9; exact c_67 h9; exact c_73 h9), if_neg c_81]))), ⟨by rw [ht_9]; exact hP, hD⟩⟩, hS.F ht_9⟩) hS.2.2 dX5_slow_91
                  · skip
                    rw [zc_eq0 (by omega)] at c_81
                    refine lv_iload hx hb dX5_slow_84 (lv_at hl 0 rfl) ?_
                    refine lv_goto (tgt := 91) hx hb dX5_slow_86 (by decide) ?_
                    exact W.iret (v := (leastF (fun w => ((vl (w * 100 + j) ^^^ allW (nI (1 - v))) ^^^ (-1)) &&& maskW ni) (wordsN ni) 0)) hx hb hr (fun t_9 ht_9 hW_9 => ⟨⟨(leastF (fun w => ((vl (w * 100 + j) ^^^ allW (nI (1 - v))) ^^^ (-1)) &&& maskW ni) (wordsN ni) 0), (gd2_8, bd2_9), rfl, (show (leastF (fun w => ((vl (w * 100 + j) ^^^ allW (nI (1 - v))) ^^^ (-1)) &&& maskW ni) (wordsN ni) 0) = (slwF (leastF (fun w => shw kd s0 s1 on vl n ni no (j * 6 + 0 * 2 + (1 - v)) w) (wordsN ni) 0) (leastF (fun w => ((vl (w * 100 + j) ^^^ allW (nI (1 - v))) ^^^ (-1)) &&& maskW ni) (wordsN ni) 0) wh) from (by unfold slwF; first | (rw [if_pos (Or.inl c_67)]) | (rw [if_pos (Or.inr c_73)]) | (rw [if_neg (by intro h9; rcases h9 with h9 | h9; exact c_67 h9; exact c_73 h9), if_pos c_81]) | (rw [if_neg (by intro h9; rcases h9 with h9 | h9; exact c_67 h9; exact c_73 h9), if_neg c_81]))), ⟨by rw [ht_9]; exact hP, hD⟩⟩, hS.F ht_9⟩) hS.2.2 dX5_slow_91
                · skip
                  refine lv_iconst (v := (-1)) hx hb dX5_slow_76 (by decide) ?_
                  refine lv_goto (tgt := 91) hx hb dX5_slow_77 (by decide) ?_
                  exact W.iret (v := (-1)) hx hb hr (fun t_9 ht_9 hW_9 => ⟨⟨(-1), (gd2_8, bd2_9), rfl, (show (-1) = (slwF (leastF (fun w => shw kd s0 s1 on vl n ni no (j * 6 + 0 * 2 + (1 - v)) w) (wordsN ni) 0) (leastF (fun w => ((vl (w * 100 + j) ^^^ allW (nI (1 - v))) ^^^ (-1)) &&& maskW ni) (wordsN ni) 0) wh) from (by unfold slwF; first | (rw [if_pos (Or.inl c_67)]) | (rw [if_pos (Or.inr c_73)]) | (rw [if_neg (by intro h9; rcases h9 with h9 | h9; exact c_67 h9; exact c_73 h9), if_pos c_81]) | (rw [if_neg (by intro h9; rcases h9 with h9 | h9; exact c_67 h9; exact c_73 h9), if_neg c_81]))), ⟨by rw [ht_9]; exact hP, hD⟩⟩, hS.F ht_9⟩) hS.2.2 dX5_slow_91
            · skip
              rw [zc_if0] at c_35
              have c_35 := Classical.not_not.mp c_35
              exact absurd c_35 (by decide)
          · skip
            rw [zc_le (by omega) (by omega)] at c_24
            exact absurd (by omega) c_24

set_option maxHeartbeats 4000000 in
set_option maxRecDepth 100000 in
theorem c_X5_count_no (l : Launch) (D : va_G) (cI cJ cZ : ClassId) (qm : Nat) (mk : Nat) (m0 : Nat) (m1 : Nat) (mi : Nat) (mo : Nat) (ml : Nat) (mf : Nat) (ma : Nat) (mfd : Nat) (mts : Nat) (mg : Nat) (mb : Nat) (cd : Int32) (n : Nat) (ni : Nat) (no : Nat) (cl : Nat) (tc : Nat) (wh : Int32) (sz : Nat) (A : Nat → Prop) (hAe : A = va_A [(qm, .inr (5, [.int cd, .int (nI n), .int (nI ni), .int (nI no), .ref mk, .ref m0, .ref m1, .ref mi, .ref mo, .ref ml, .ref mf, .ref ma, .int (nI cl), .ref mfd, .ref mts, .int (nI tc), .ref mg, .ref mb]))] sz) (h : ¬ (¬ wh < 0 ∧ wh ≤ nI 5)) : Met l yX5_count wsX5_count ({ frames := 1, cells := 0, slots := 0, locals := 21 } : Room) (va_Pc [.ref qm, .int wh] (PW D cI cJ cZ [(qm, .inr (5, [.int cd, .int (nI n), .int (nI ni), .int (nI no), .ref mk, .ref m0, .ref m1, .ref mi, .ref mo, .ref ml, .ref mf, .ref ma, .int (nI cl), .ref mfd, .ref mts, .int (nI tc), .ref mg, .ref mb]))] sz)) (va_Qi (fun (r_9 : Int32) (_u9 : Unit) => r_9 = (nI 0)) (fun (_u9 : Unit) t => PQ D A [(qm, .inr (5, [.int (nI 1), .int (nI n), .int (nI ni), .int (nI no), .ref mk, .ref m0, .ref m1, .ref mi, .ref mo, .ref ml, .ref mf, .ref ma, .int (nI cl), .ref mfd, .ref mts, .int (nI tc), .ref mg, .ref mb]))] t) A) 0 0 A := by
  refine Met.ofW (cc := cX5_count) (maxL := 5) (ret := (some .int)) (by decide) rfl ?_
  intro p e s m args below meth c s₁ B hml hv
  obtain ⟨rfl, hsz, ⟨hP, hK, hNB⟩, hD0⟩ := hv
  have hx := B.exec
  have hb := B.bytes
  have hr := B.returns
  have hts := atoms_spec (ws := wsX5_count) B.pre
  have hown : s.vm.findClass RX5 = some m.cls := findClass_of_methodNamed B.named
  have hlocks := B.notSynchronized
  subst hsz
  have hD : va_D A [(qm, .inr (5, [.int cd, .int (nI n), .int (nI ni), .int (nI no), .ref mk, .ref m0, .ref m1, .ref mi, .ref mo, .ref ml, .ref mf, .ref ma, .int (nI cl), .ref mfd, .ref mts, .int (nI tc), .ref mg, .ref mb]))] := by rw [hAe]; exact hD0.self
  have hA : ∀ q : Nat, s.heap.size ≤ q → A q := fun q h => by rw [hAe]; exact Or.inr h
  have hS : va_S A s.heap s.heap [] := va_S.rf
  have hl := lv_entry ([.ref qm, .int wh]) (n := 5) (Nat.le_of_ble_eq_true rfl)
  rw [lg_entry_eq]
  generalize (lg_sl ([.ref qm, .int wh]) ++ List.replicate (5 - (lg_sl ([.ref qm, .int wh])).length) Slot.unset).toArray = ls at hl ⊢
  have hl : lv_has ls 5 [(0, .ref qm), (1, .int wh)] := hl
  refine lv_aload_n hx hb dX5_count_0 rfl (lv_at hl 0 rfl) ?_
  refine lv_iload_n hx hb dX5_count_1 rfl (lv_at hl 1 rfl) ?_
  refine lv_if_lt (tgt := 10) hx hb dX5_count_2 (by decide) (fun c_2 => ?_) (fun c_2 => ?_)
  · skip
    refine lv_iconst (v := (nI 1)) hx hb dX5_count_10 (by decide) ?_
    refine lv_goto (tgt := 15) hx hb dX5_count_11 (by decide) ?_
    have hPc := hP.sub (ws' := [(qm, .inr (5, [.int cd, .int (nI n), .int (nI ni), .int (nI no), .ref mk, .ref m0, .ref m1, .ref mi, .ref mo, .ref ml, .ref mf, .ref ma, .int (nI cl), .ref mfd, .ref mts, .int (nI tc), .ref mg, .ref mb]))]) [0] rfl
    have hDc := hD.sub (ws' := [(qm, .inr (5, [.int cd, .int (nI n), .int (nI ni), .int (nI no), .ref mk, .ref m0, .ref m1, .ref mi, .ref mo, .ref ml, .ref mf, .ref ma, .int (nI cl), .ref mfd, .ref mts, .int (nI tc), .ref mg, .ref mb]))]) [0] (by decide) rfl
    have hFc := va_free (wc := [(qm, .inr (5, [.int cd, .int (nI n), .int (nI ni), .int (nI no), .ref mk, .ref m0, .ref m1, .ref mi, .ref mo, .ref ml, .ref mf, .ref ma, .int (nI cl), .ref mfd, .ref mts, .int (nI tc), .ref mg, .ref mb]))]) hD hS hA [0] rfl
    refine va_calli (va_runV (As := [.int (nI 1)]) (rest := []) ⟨hx, hb, hml, hown, hts⟩ (c_X5_refuses l D cI cJ cZ qm mk m0 m1 mi mo ml mf ma mfd mts mg mb cd n ni no cl tc 1 s.heap.size _ rfl (by omega)) (cwV 1 hts gX5_count_X5_refuses rfl rfl rfl (by decide +kernel) ⟨Nat.le_of_ble_eq_true rfl, Nat.le_of_ble_eq_true rfl⟩) ⟨PW.blind, va_recv hK hPc (ci := 5) (q0 := 0) rfl rfl, fun U hU hW => ⟨rfl, PW.to hPc hK hNB hDc hU hW⟩⟩ rfl rfl hl.1 rfl (lv_room (Nat.le_of_ble_eq_true rfl)) dX5_count_15 ⟨Nat.le_of_ble_eq_true rfl, Nat.le_of_ble_eq_true rfl⟩) hS (fun q _ h => hFc q h) hFc (fun r_1 u_9 t_9 H1_9 locs ht_9 hvm_9 hw_9 hB_9 hz1_9 hk1_9 hS => ?_)
    obtain ⟨hP1_9, hD1_9⟩ := hB_9
    rw [ht_9] at hP1_9
    obtain rfl := hw_9
    obtain ⟨hP, hD⟩ := va_join (wr := []) (w1 := [(qm, .inr (5, [.int (nI 1), .int (nI n), .int (nI ni), .int (nI no), .ref mk, .ref m0, .ref m1, .ref mi, .ref mo, .ref ml, .ref mf, .ref ma, .int (nI cl), .ref mfd, .ref mts, .int (nI tc), .ref mg, .ref mb]))]) hP hD [0] [] rfl rfl (by decide) (by decide) hk1_9 hFc hP1_9 hD1_9
    generalize H1_9 = H at hP hS ⊢
    have hP : va_P D vwCl [(qm, .inr (5, [.int (nI 1), .int (nI n), .int (nI ni), .int (nI no), .ref mk, .ref m0, .ref m1, .ref mi, .ref mo, .ref ml, .ref mf, .ref ma, .int (nI cl), .ref mfd, .ref mts, .int (nI tc), .ref mg, .ref mb]))] H := hP
    have hD : va_D A [(qm, .inr (5, [.int (nI 1), .int (nI n), .int (nI ni), .int (nI no), .ref mk, .ref m0, .ref m1, .ref mi, .ref mo, .ref ml, .ref mf, .ref ma, .int (nI cl), .ref mfd, .ref mts, .int (nI tc), .ref mg, .ref mb]))] := hD
    refine lv_if_eq (tgt := 23) hx hb dX5_count_18 (by decide) (fun c_18 => ?_) (fun c_18 => ?_)
    · skip
      rw [zc_if0] at c_18
      exact absurd (by decide) c_18
    · skip
      rw [zc_if0] at c_18
      have c_18 := Classical.not_not.mp c_18
      refine lv_iconst (v := (nI 0)) hx hb dX5_count_21 (by decide) ?_
      exact W.iret (v := (nI 0)) hx hb hr (fun t_9 ht_9 hW_9 => ⟨⟨(nI 0), (), rfl, rfl, ⟨by rw [ht_9]; exact hP, hD⟩⟩, hS.F ht_9⟩) hS.2.2 dX5_count_22
  · skip
    refine lv_iload_n hx hb dX5_count_5 rfl (lv_at hl 1 rfl) ?_
    refine lv_iconst (v := (nI 5)) hx hb dX5_count_6 (by decide) ?_
    refine lv_icmp_le (tgt := 14) hx hb dX5_count_7 (by decide) (fun c_7 => ?_) (fun c_7 => ?_)
    · skip
      exact absurd ⟨c_2, c_7⟩ h
    · skip
      refine lv_iconst (v := (nI 1)) hx hb dX5_count_10 (by decide) ?_
      refine lv_goto (tgt := 15) hx hb dX5_count_11 (by decide) ?_
      have hPc := hP.sub (ws' := [(qm, .inr (5, [.int cd, .int (nI n), .int (nI ni), .int (nI no), .ref mk, .ref m0, .ref m1, .ref mi, .ref mo, .ref ml, .ref mf, .ref ma, .int (nI cl), .ref mfd, .ref mts, .int (nI tc), .ref mg, .ref mb]))]) [0] rfl
      have hDc := hD.sub (ws' := [(qm, .inr (5, [.int cd, .int (nI n), .int (nI ni), .int (nI no), .ref mk, .ref m0, .ref m1, .ref mi, .ref mo, .ref ml, .ref mf, .ref ma, .int (nI cl), .ref mfd, .ref mts, .int (nI tc), .ref mg, .ref mb]))]) [0] (by decide) rfl
      have hFc := va_free (wc := [(qm, .inr (5, [.int cd, .int (nI n), .int (nI ni), .int (nI no), .ref mk, .ref m0, .ref m1, .ref mi, .ref mo, .ref ml, .ref mf, .ref ma, .int (nI cl), .ref mfd, .ref mts, .int (nI tc), .ref mg, .ref mb]))]) hD hS hA [0] rfl
      refine va_calli (va_runV (As := [.int (nI 1)]) (rest := []) ⟨hx, hb, hml, hown, hts⟩ (c_X5_refuses l D cI cJ cZ qm mk m0 m1 mi mo ml mf ma mfd mts mg mb cd n ni no cl tc 1 s.heap.size _ rfl (by omega)) (cwV 1 hts gX5_count_X5_refuses rfl rfl rfl (by decide +kernel) ⟨Nat.le_of_ble_eq_true rfl, Nat.le_of_ble_eq_true rfl⟩) ⟨PW.blind, va_recv hK hPc (ci := 5) (q0 := 0) rfl rfl, fun U hU hW => ⟨rfl, PW.to hPc hK hNB hDc hU hW⟩⟩ rfl rfl hl.1 rfl (lv_room (Nat.le_of_ble_eq_true rfl)) dX5_count_15 ⟨Nat.le_of_ble_eq_true rfl, Nat.le_of_ble_eq_true rfl⟩) hS (fun q _ h => hFc q h) hFc (fun r_2 u_9 t_9 H1_9 locs ht_9 hvm_9 hw_9 hB_9 hz1_9 hk1_9 hS => ?_)
      obtain ⟨hP1_9, hD1_9⟩ := hB_9
      rw [ht_9] at hP1_9
      obtain rfl := hw_9
      obtain ⟨hP, hD⟩ := va_join (wr := []) (w1 := [(qm, .inr (5, [.int (nI 1), .int (nI n), .int (nI ni), .int (nI no), .ref mk, .ref m0, .ref m1, .ref mi, .ref mo, .ref ml, .ref mf, .ref ma, .int (nI cl), .ref mfd, .ref mts, .int (nI tc), .ref mg, .ref mb]))]) hP hD [0] [] rfl rfl (by decide) (by decide) hk1_9 hFc hP1_9 hD1_9
      generalize H1_9 = H at hP hS ⊢
      have hP : va_P D vwCl [(qm, .inr (5, [.int (nI 1), .int (nI n), .int (nI ni), .int (nI no), .ref mk, .ref m0, .ref m1, .ref mi, .ref mo, .ref ml, .ref mf, .ref ma, .int (nI cl), .ref mfd, .ref mts, .int (nI tc), .ref mg, .ref mb]))] H := hP
      have hD : va_D A [(qm, .inr (5, [.int (nI 1), .int (nI n), .int (nI ni), .int (nI no), .ref mk, .ref m0, .ref m1, .ref mi, .ref mo, .ref ml, .ref mf, .ref ma, .int (nI cl), .ref mfd, .ref mts, .int (nI tc), .ref mg, .ref mb]))] := hD
      refine lv_if_eq (tgt := 23) hx hb dX5_count_18 (by decide) (fun c_18 => ?_) (fun c_18 => ?_)
      · skip
        rw [zc_if0] at c_18
        exact absurd (by decide) c_18
      · skip
        rw [zc_if0] at c_18
        have c_18 := Classical.not_not.mp c_18
        refine lv_iconst (v := (nI 0)) hx hb dX5_count_21 (by decide) ?_
        exact W.iret (v := (nI 0)) hx hb hr (fun t_9 ht_9 hW_9 => ⟨⟨(nI 0), (), rfl, rfl, ⟨by rw [ht_9]; exact hP, hD⟩⟩, hS.F ht_9⟩) hS.2.2 dX5_count_22

set_option maxHeartbeats 4000000 in
set_option maxRecDepth 100000 in
theorem c_X5_count_0 (l : Launch) (D : va_G) (cI cJ cZ : ClassId) (qm : Nat) (mk : Nat) (m0 : Nat) (m1 : Nat) (mi : Nat) (mo : Nat) (ml : Nat) (mf : Nat) (ma : Nat) (mfd : Nat) (mts : Nat) (mg : Nat) (mb : Nat) (cd : Int32) (n : Nat) (ni : Nat) (no : Nat) (cl : Nat) (tc : Nat) (sz : Nat) (A : Nat → Prop) (hAe : A = va_A [(qm, .inr (5, [.int cd, .int (nI n), .int (nI ni), .int (nI no), .ref mk, .ref m0, .ref m1, .ref mi, .ref mo, .ref ml, .ref mf, .ref ma, .int (nI cl), .ref mfd, .ref mts, .int (nI tc), .ref mg, .ref mb]))] sz) (hcl : cl ≤ 600) : Met l yX5_count wsX5_count ({ frames := 1, cells := 0, slots := 0, locals := 21 } : Room) (va_Pc [.ref qm, .int (nI 0)] (PW D cI cJ cZ [(qm, .inr (5, [.int cd, .int (nI n), .int (nI ni), .int (nI no), .ref mk, .ref m0, .ref m1, .ref mi, .ref mo, .ref ml, .ref mf, .ref ma, .int (nI cl), .ref mfd, .ref mts, .int (nI tc), .ref mg, .ref mb]))] sz)) (va_Qi (fun (r_9 : Int32) (_u9 : Unit) => r_9 = (nI n)) (fun (_u9 : Unit) t => PQ D A [(qm, .inr (5, [.int (nI 0), .int (nI n), .int (nI ni), .int (nI no), .ref mk, .ref m0, .ref m1, .ref mi, .ref mo, .ref ml, .ref mf, .ref ma, .int (nI cl), .ref mfd, .ref mts, .int (nI tc), .ref mg, .ref mb]))] t) A) 0 0 A := by
  refine Met.ofW (cc := cX5_count) (maxL := 5) (ret := (some .int)) (by decide) rfl ?_
  intro p e s m args below meth c s₁ B hml hv
  obtain ⟨rfl, hsz, ⟨hP, hK, hNB⟩, hD0⟩ := hv
  have hx := B.exec
  have hb := B.bytes
  have hr := B.returns
  have hts := atoms_spec (ws := wsX5_count) B.pre
  have hown : s.vm.findClass RX5 = some m.cls := findClass_of_methodNamed B.named
  have hlocks := B.notSynchronized
  have hiX5 : ∀ w ∈ u_ws RX5 TX5 18, w ∈ wsX5_count := by decide +kernel
  subst hsz
  have hD : va_D A [(qm, .inr (5, [.int cd, .int (nI n), .int (nI ni), .int (nI no), .ref mk, .ref m0, .ref m1, .ref mi, .ref mo, .ref ml, .ref mf, .ref ma, .int (nI cl), .ref mfd, .ref mts, .int (nI tc), .ref mg, .ref mb]))] := by rw [hAe]; exact hD0.self
  have hA : ∀ q : Nat, s.heap.size ≤ q → A q := fun q h => by rw [hAe]; exact Or.inr h
  have hS : va_S A s.heap s.heap [] := va_S.rf
  have hl := lv_entry ([.ref qm, .int (nI 0)]) (n := 5) (Nat.le_of_ble_eq_true rfl)
  rw [lg_entry_eq]
  generalize (lg_sl ([.ref qm, .int (nI 0)]) ++ List.replicate (5 - (lg_sl ([.ref qm, .int (nI 0)])).length) Slot.unset).toArray = ls at hl ⊢
  have hl : lv_has ls 5 [(0, .ref qm), (1, .int (nI 0))] := hl
  refine lv_aload_n hx hb dX5_count_0 rfl (lv_at hl 0 rfl) ?_
  refine lv_iload_n hx hb dX5_count_1 rfl (lv_at hl 1 rfl) ?_
  refine lv_if_lt (tgt := 10) hx hb dX5_count_2 (by decide) (fun c_2 => ?_) (fun c_2 => ?_)
  · skip
    exact absurd c_2 (by decide)
  · skip
    refine lv_iload_n hx hb dX5_count_5 rfl (lv_at hl 1 rfl) ?_
    refine lv_iconst (v := (nI 5)) hx hb dX5_count_6 (by decide) ?_
    refine lv_icmp_le (tgt := 14) hx hb dX5_count_7 (by decide) (fun c_7 => ?_) (fun c_7 => ?_)
    · skip
      refine lv_iconst (v := (nI 0)) hx hb dX5_count_14 (by decide) ?_
      have hPc := hP.sub (ws' := [(qm, .inr (5, [.int cd, .int (nI n), .int (nI ni), .int (nI no), .ref mk, .ref m0, .ref m1, .ref mi, .ref mo, .ref ml, .ref mf, .ref ma, .int (nI cl), .ref mfd, .ref mts, .int (nI tc), .ref mg, .ref mb]))]) [0] rfl
      have hDc := hD.sub (ws' := [(qm, .inr (5, [.int cd, .int (nI n), .int (nI ni), .int (nI no), .ref mk, .ref m0, .ref m1, .ref mi, .ref mo, .ref ml, .ref mf, .ref ma, .int (nI cl), .ref mfd, .ref mts, .int (nI tc), .ref mg, .ref mb]))]) [0] (by decide) rfl
      have hFc := va_free (wc := [(qm, .inr (5, [.int cd, .int (nI n), .int (nI ni), .int (nI no), .ref mk, .ref m0, .ref m1, .ref mi, .ref mo, .ref ml, .ref mf, .ref ma, .int (nI cl), .ref mfd, .ref mts, .int (nI tc), .ref mg, .ref mb]))]) hD hS hA [0] rfl
      refine va_calli (va_runV (As := [.int (nI 0)]) (rest := []) ⟨hx, hb, hml, hown, hts⟩ (c_X5_refuses l D cI cJ cZ qm mk m0 m1 mi mo ml mf ma mfd mts mg mb cd n ni no cl tc 0 s.heap.size _ rfl (by omega)) (cwV 1 hts gX5_count_X5_refuses rfl rfl rfl (by decide +kernel) ⟨Nat.le_of_ble_eq_true rfl, Nat.le_of_ble_eq_true rfl⟩) ⟨PW.blind, va_recv hK hPc (ci := 5) (q0 := 0) rfl rfl, fun U hU hW => ⟨rfl, PW.to hPc hK hNB hDc hU hW⟩⟩ rfl rfl hl.1 rfl (lv_room (Nat.le_of_ble_eq_true rfl)) dX5_count_15 ⟨Nat.le_of_ble_eq_true rfl, Nat.le_of_ble_eq_true rfl⟩) hS (fun q _ h => hFc q h) hFc (fun r_1 u_9 t_9 H1_9 locs ht_9 hvm_9 hw_9 hB_9 hz1_9 hk1_9 hS => ?_)
      obtain ⟨hP1_9, hD1_9⟩ := hB_9
      rw [ht_9] at hP1_9
      obtain rfl := hw_9
      obtain ⟨hP, hD⟩ := va_join (wr := []) (w1 := [(qm, .inr (5, [.int (nI 0), .int (nI n), .int (nI ni), .int (nI no), .ref mk, .ref m0, .ref m1, .ref mi, .ref mo, .ref ml, .ref mf, .ref ma, .int (nI cl), .ref mfd, .ref mts, .int (nI tc), .ref mg, .ref mb]))]) hP hD [0] [] rfl rfl (by decide) (by decide) hk1_9 hFc hP1_9 hD1_9
      generalize H1_9 = H at hP hS ⊢
      have hP : va_P D vwCl [(qm, .inr (5, [.int (nI 0), .int (nI n), .int (nI ni), .int (nI no), .ref mk, .ref m0, .ref m1, .ref mi, .ref mo, .ref ml, .ref mf, .ref ma, .int (nI cl), .ref mfd, .ref mts, .int (nI tc), .ref mg, .ref mb]))] H := hP
      have hD : va_D A [(qm, .inr (5, [.int (nI 0), .int (nI n), .int (nI ni), .int (nI no), .ref mk, .ref m0, .ref m1, .ref mi, .ref mo, .ref ml, .ref mf, .ref ma, .int (nI cl), .ref mfd, .ref mts, .int (nI tc), .ref mg, .ref mb]))] := hD
      refine lv_if_eq (tgt := 23) hx hb dX5_count_18 (by decide) (fun c_18 => ?_) (fun c_18 => ?_)
      · skip
        rw [zc_if0] at c_18
        refine lv_iconst (v := (nI 0)) hx hb dX5_count_23 (by decide) ?_
        refine lv_istore_n (lv' := [(2, .int (nI 0)), (0, .ref qm), (1, .int (nI 0))]) hx hb dX5_count_24 rfl hl (by decide) rfl (fun ls hl => ?_)
        refine lv_iconst (v := (nI 0)) hx hb dX5_count_25 (by decide) ?_
        refine lv_istore_n (lv' := [(3, .int (nI 0)), (2, .int (nI 0)), (0, .ref qm), (1, .int (nI 0))]) hx hb dX5_count_26 rfl hl (by decide) rfl (fun ls hl => ?_)
        have loop27 : ∀ (n27 : Nat) (k : Nat) (ac : Nat) (hk : k ≤ cl) (hac : ac = 0), cl - k < n27 → ∀ (H : Heap) (locs : List Loc), va_P D vwCl [(qm, .inr (5, [.int (nI 0), .int (nI n), .int (nI ni), .int (nI no), .ref mk, .ref m0, .ref m1, .ref mi, .ref mo, .ref ml, .ref mf, .ref ma, .int (nI cl), .ref mfd, .ref mts, .int (nI tc), .ref mg, .ref mb]))] H → va_D A [(qm, .inr (5, [.int (nI 0), .int (nI n), .int (nI ni), .int (nI no), .ref mk, .ref m0, .ref m1, .ref mi, .ref mo, .ref ml, .ref mf, .ref ma, .int (nI cl), .ref mfd, .ref mts, .int (nI tc), .ref mg, .ref mb]))] → va_S A s.heap H locs → ∀ (ls : Array Slot), lv_has ls 5 [(0, .ref qm), (1, .int (nI 0)), (2, .int (nI ac)), (3, .int (nI k))] → W p l e (headSpec wsX5_count ({ frames := 1, cells := 0, slots := 0, locals := 21 } : Room)).room s m ([.ref qm, .int (nI 0)] : List Value).toArray below meth c H locs 0 0 (MQ below (va_Qi (fun (r_9 : Int32) (_u9 : Unit) => r_9 = (nI n)) (fun (_u9 : Unit) t => PQ D A [(qm, .inr (5, [.int (nI 0), .int (nI n), .int (nI ni), .int (nI no), .ref mk, .ref m0, .ref m1, .ref mi, .ref mo, .ref ml, .ref mf, .ref ma, .int (nI cl), .ref mfd, .ref mts, .int (nI tc), .ref mg, .ref mb]))] t) A) ([.ref qm, .int (nI 0)] : List Value).toArray s 0 0 A) (F0 m 27 ls []) := by
          intro n27
          induction n27 with
          | zero => intro k ac hk hac hm; exact absurd hm (Nat.not_lt_zero _)
          | succ n27 ih27 =>
            intro k ac hk hac hm27 H locs hP hD hS ls hl
            refine lv_iload_n hx hb dX5_count_27 rfl (lv_at hl 3 rfl) ?_
            refine lv_aload_n hx hb dX5_count_28 rfl (lv_at hl 0 rfl) ?_
            refine va_get (D := D) (ci := 5) (v := .int (nI cl)) (C := RX5) (T := TX5) (N := 18) hx hb hts hiX5 hown hK hP 0 rfl rfl 12 (by decide) (hts (.fieldLink RX5 94 "FaultSearchModel" "classes" "I") (by decide +kernel)) (fun _ h9 => h9) rfl dX5_count_29 ?_
            refine lv_icmp_ge (tgt := 94) hx hb dX5_count_32 (by decide) (fun c_32 => ?_) (fun c_32 => ?_)
            · skip
              rw [zc_le (by omega) (by omega)] at c_32
              refine lv_iload_n hx hb dX5_count_94 rfl (lv_at hl 1 rfl) ?_
              refine lv_if_ne (tgt := 105) hx hb dX5_count_95 (by decide) (fun c_95 => ?_) (fun c_95 => ?_)
              · skip
                exact absurd c_95 (by decide)
              · skip
                refine lv_aload_n hx hb dX5_count_98 rfl (lv_at hl 0 rfl) ?_
                refine va_get (D := D) (ci := 5) (v := .int (nI n)) (C := RX5) (T := TX5) (N := 18) hx hb hts hiX5 hown hK hP 0 rfl rfl 1 (by decide) (hts (.fieldLink RX5 52 "FaultSearchModel" "nets" "I") (by decide +kernel)) (fun _ h9 => h9) rfl dX5_count_99 ?_
                refine lv_goto (tgt := 142) hx hb dX5_count_102 (by decide) ?_
                exact W.iret (v := (nI n)) hx hb hr (fun t_9 ht_9 hW_9 => ⟨⟨(nI n), (), rfl, rfl, ⟨by rw [ht_9]; exact hP, hD⟩⟩, hS.F ht_9⟩) hS.2.2 dX5_count_142
            · skip
              rw [zc_le (by omega) (by omega)] at c_32
              refine lv_iload_n hx hb dX5_count_35 rfl (lv_at hl 1 rfl) ?_
              refine lv_iconst (v := (nI 3)) hx hb dX5_count_36 (by decide) ?_
              refine lv_icmp_ne (tgt := 49) hx hb dX5_count_37 (by decide) (fun c_37 => ?_) (fun c_37 => ?_)
              · skip
                refine lv_iload_n hx hb dX5_count_49 rfl (lv_at hl 1 rfl) ?_
                refine lv_iconst (v := (nI 5)) hx hb dX5_count_50 (by decide) ?_
                refine lv_icmp_ne (tgt := 72) hx hb dX5_count_51 (by decide) (fun c_51 => ?_) (fun c_51 => ?_)
                · skip
                  refine lv_iconst (v := (nI 0)) hx hb dX5_count_72 (by decide) ?_
                  refine lv_istore (lv' := [(4, .int (nI 0)), (0, .ref qm), (1, .int (nI 0)), (2, .int (nI ac)), (3, .int (nI k))]) hx hb dX5_count_73 hl (by decide) rfl (fun ls hl => ?_)
                  refine lv_iload_n hx hb dX5_count_75 rfl (lv_at hl 3 rfl) ?_
                  refine lv_iload hx hb dX5_count_76 (lv_at hl 0 rfl) ?_
                  refine lv_if_eq (tgt := 85) hx hb dX5_count_78 (by decide) (fun c_78 => ?_) (fun c_78 => ?_)
                  · skip
                    refine lv_iconst (v := (nI 0)) hx hb dX5_count_85 (by decide) ?_
                    refine lv_iadd hx hb dX5_count_86 ?_
                    refine zz_i (z := (nI (ac + 0))) (nI_add _ _) ?_
                    refine lv_istore_n (lv' := [(2, .int (nI (ac + 0))), (4, .int (nI 0)), (0, .ref qm), (1, .int (nI 0)), (3, .int (nI k))]) hx hb dX5_count_87 rfl hl (by decide) rfl (fun ls hl => ?_)
                    refine lv_iinc (v := (nI (k + 1))) (lv' := [(3, .int (nI (k + 1))), (2, .int (nI (ac + 0))), (4, .int (nI 0)), (0, .ref qm), (1, .int (nI 0))]) hx hb dX5_count_88 hl (k := 4) rfl (nI_add _ 1) (by decide) rfl (fun ls hl => ?_)
                    refine lv_goto (tgt := 27) hx hb dX5_count_91 (by decide) ?_
                    exact ih27 (k + 1) (ac + 0) (by omega) (by omega) (by omega) _ _ hP hD hS ls (lv_sub hl [3, 4, 1, 0] rfl)
                  · skip
                    exact absurd (by decide) c_78
                · skip
                  exact absurd c_51 (by decide)
              · skip
                exact absurd c_37 (by decide)
        exact loop27 ((cl - 0) + 1) 0 0 (Nat.zero_le _) rfl (Nat.lt_succ_self _) _ _ hP hD hS ls (lv_sub hl [2, 3, 1, 0] rfl)
      · skip
        rw [zc_if0] at c_18
        have c_18 := Classical.not_not.mp c_18
        exact absurd c_18 (by decide)
    · skip
      exact absurd (by decide) c_7

set_option maxHeartbeats 4000000 in
set_option maxRecDepth 100000 in
theorem c_X5_count_1 (l : Launch) (D : va_G) (cI cJ cZ : ClassId) (qm : Nat) (mk : Nat) (m0 : Nat) (m1 : Nat) (mi : Nat) (mo : Nat) (ml : Nat) (mf : Nat) (ma : Nat) (mfd : Nat) (mts : Nat) (mg : Nat) (mb : Nat) (cd : Int32) (n : Nat) (ni : Nat) (no : Nat) (cl : Nat) (tc : Nat) (sz : Nat) (A : Nat → Prop) (hAe : A = va_A [(qm, .inr (5, [.int cd, .int (nI n), .int (nI ni), .int (nI no), .ref mk, .ref m0, .ref m1, .ref mi, .ref mo, .ref ml, .ref mf, .ref ma, .int (nI cl), .ref mfd, .ref mts, .int (nI tc), .ref mg, .ref mb]))] sz) (hcl : cl ≤ 600) : Met l yX5_count wsX5_count ({ frames := 1, cells := 0, slots := 0, locals := 21 } : Room) (va_Pc [.ref qm, .int (nI 1)] (PW D cI cJ cZ [(qm, .inr (5, [.int cd, .int (nI n), .int (nI ni), .int (nI no), .ref mk, .ref m0, .ref m1, .ref mi, .ref mo, .ref ml, .ref mf, .ref ma, .int (nI cl), .ref mfd, .ref mts, .int (nI tc), .ref mg, .ref mb]))] sz)) (va_Qi (fun (r_9 : Int32) (_u9 : Unit) => r_9 = (nI ni)) (fun (_u9 : Unit) t => PQ D A [(qm, .inr (5, [.int (nI 0), .int (nI n), .int (nI ni), .int (nI no), .ref mk, .ref m0, .ref m1, .ref mi, .ref mo, .ref ml, .ref mf, .ref ma, .int (nI cl), .ref mfd, .ref mts, .int (nI tc), .ref mg, .ref mb]))] t) A) 0 0 A := by
  refine Met.ofW (cc := cX5_count) (maxL := 5) (ret := (some .int)) (by decide) rfl ?_
  intro p e s m args below meth c s₁ B hml hv
  obtain ⟨rfl, hsz, ⟨hP, hK, hNB⟩, hD0⟩ := hv
  have hx := B.exec
  have hb := B.bytes
  have hr := B.returns
  have hts := atoms_spec (ws := wsX5_count) B.pre
  have hown : s.vm.findClass RX5 = some m.cls := findClass_of_methodNamed B.named
  have hlocks := B.notSynchronized
  have hiX5 : ∀ w ∈ u_ws RX5 TX5 18, w ∈ wsX5_count := by decide +kernel
  subst hsz
  have hD : va_D A [(qm, .inr (5, [.int cd, .int (nI n), .int (nI ni), .int (nI no), .ref mk, .ref m0, .ref m1, .ref mi, .ref mo, .ref ml, .ref mf, .ref ma, .int (nI cl), .ref mfd, .ref mts, .int (nI tc), .ref mg, .ref mb]))] := by rw [hAe]; exact hD0.self
  have hA : ∀ q : Nat, s.heap.size ≤ q → A q := fun q h => by rw [hAe]; exact Or.inr h
  have hS : va_S A s.heap s.heap [] := va_S.rf
  have hl := lv_entry ([.ref qm, .int (nI 1)]) (n := 5) (Nat.le_of_ble_eq_true rfl)
  rw [lg_entry_eq]
  generalize (lg_sl ([.ref qm, .int (nI 1)]) ++ List.replicate (5 - (lg_sl ([.ref qm, .int (nI 1)])).length) Slot.unset).toArray = ls at hl ⊢
  have hl : lv_has ls 5 [(0, .ref qm), (1, .int (nI 1))] := hl
  refine lv_aload_n hx hb dX5_count_0 rfl (lv_at hl 0 rfl) ?_
  refine lv_iload_n hx hb dX5_count_1 rfl (lv_at hl 1 rfl) ?_
  refine lv_if_lt (tgt := 10) hx hb dX5_count_2 (by decide) (fun c_2 => ?_) (fun c_2 => ?_)
  · skip
    exact absurd c_2 (by decide)
  · skip
    refine lv_iload_n hx hb dX5_count_5 rfl (lv_at hl 1 rfl) ?_
    refine lv_iconst (v := (nI 5)) hx hb dX5_count_6 (by decide) ?_
    refine lv_icmp_le (tgt := 14) hx hb dX5_count_7 (by decide) (fun c_7 => ?_) (fun c_7 => ?_)
    · skip
      refine lv_iconst (v := (nI 0)) hx hb dX5_count_14 (by decide) ?_
      have hPc := hP.sub (ws' := [(qm, .inr (5, [.int cd, .int (nI n), .int (nI ni), .int (nI no), .ref mk, .ref m0, .ref m1, .ref mi, .ref mo, .ref ml, .ref mf, .ref ma, .int (nI cl), .ref mfd, .ref mts, .int (nI tc), .ref mg, .ref mb]))]) [0] rfl
      have hDc := hD.sub (ws' := [(qm, .inr (5, [.int cd, .int (nI n), .int (nI ni), .int (nI no), .ref mk, .ref m0, .ref m1, .ref mi, .ref mo, .ref ml, .ref mf, .ref ma, .int (nI cl), .ref mfd, .ref mts, .int (nI tc), .ref mg, .ref mb]))]) [0] (by decide) rfl
      have hFc := va_free (wc := [(qm, .inr (5, [.int cd, .int (nI n), .int (nI ni), .int (nI no), .ref mk, .ref m0, .ref m1, .ref mi, .ref mo, .ref ml, .ref mf, .ref ma, .int (nI cl), .ref mfd, .ref mts, .int (nI tc), .ref mg, .ref mb]))]) hD hS hA [0] rfl
      refine va_calli (va_runV (As := [.int (nI 0)]) (rest := []) ⟨hx, hb, hml, hown, hts⟩ (c_X5_refuses l D cI cJ cZ qm mk m0 m1 mi mo ml mf ma mfd mts mg mb cd n ni no cl tc 0 s.heap.size _ rfl (by omega)) (cwV 1 hts gX5_count_X5_refuses rfl rfl rfl (by decide +kernel) ⟨Nat.le_of_ble_eq_true rfl, Nat.le_of_ble_eq_true rfl⟩) ⟨PW.blind, va_recv hK hPc (ci := 5) (q0 := 0) rfl rfl, fun U hU hW => ⟨rfl, PW.to hPc hK hNB hDc hU hW⟩⟩ rfl rfl hl.1 rfl (lv_room (Nat.le_of_ble_eq_true rfl)) dX5_count_15 ⟨Nat.le_of_ble_eq_true rfl, Nat.le_of_ble_eq_true rfl⟩) hS (fun q _ h => hFc q h) hFc (fun r_1 u_9 t_9 H1_9 locs ht_9 hvm_9 hw_9 hB_9 hz1_9 hk1_9 hS => ?_)
      obtain ⟨hP1_9, hD1_9⟩ := hB_9
      rw [ht_9] at hP1_9
      obtain rfl := hw_9
      obtain ⟨hP, hD⟩ := va_join (wr := []) (w1 := [(qm, .inr (5, [.int (nI 0), .int (nI n), .int (nI ni), .int (nI no), .ref mk, .ref m0, .ref m1, .ref mi, .ref mo, .ref ml, .ref mf, .ref ma, .int (nI cl), .ref mfd, .ref mts, .int (nI tc), .ref mg, .ref mb]))]) hP hD [0] [] rfl rfl (by decide) (by decide) hk1_9 hFc hP1_9 hD1_9
      generalize H1_9 = H at hP hS ⊢
      have hP : va_P D vwCl [(qm, .inr (5, [.int (nI 0), .int (nI n), .int (nI ni), .int (nI no), .ref mk, .ref m0, .ref m1, .ref mi, .ref mo, .ref ml, .ref mf, .ref ma, .int (nI cl), .ref mfd, .ref mts, .int (nI tc), .ref mg, .ref mb]))] H := hP
      have hD : va_D A [(qm, .inr (5, [.int (nI 0), .int (nI n), .int (nI ni), .int (nI no), .ref mk, .ref m0, .ref m1, .ref mi, .ref mo, .ref ml, .ref mf, .ref ma, .int (nI cl), .ref mfd, .ref mts, .int (nI tc), .ref mg, .ref mb]))] := hD
      refine lv_if_eq (tgt := 23) hx hb dX5_count_18 (by decide) (fun c_18 => ?_) (fun c_18 => ?_)
      · skip
        rw [zc_if0] at c_18
        refine lv_iconst (v := (nI 0)) hx hb dX5_count_23 (by decide) ?_
        refine lv_istore_n (lv' := [(2, .int (nI 0)), (0, .ref qm), (1, .int (nI 1))]) hx hb dX5_count_24 rfl hl (by decide) rfl (fun ls hl => ?_)
        refine lv_iconst (v := (nI 0)) hx hb dX5_count_25 (by decide) ?_
        refine lv_istore_n (lv' := [(3, .int (nI 0)), (2, .int (nI 0)), (0, .ref qm), (1, .int (nI 1))]) hx hb dX5_count_26 rfl hl (by decide) rfl (fun ls hl => ?_)
        have loop27 : ∀ (n27 : Nat) (k : Nat) (ac : Nat) (hk : k ≤ cl) (hac : ac = 0), cl - k < n27 → ∀ (H : Heap) (locs : List Loc), va_P D vwCl [(qm, .inr (5, [.int (nI 0), .int (nI n), .int (nI ni), .int (nI no), .ref mk, .ref m0, .ref m1, .ref mi, .ref mo, .ref ml, .ref mf, .ref ma, .int (nI cl), .ref mfd, .ref mts, .int (nI tc), .ref mg, .ref mb]))] H → va_D A [(qm, .inr (5, [.int (nI 0), .int (nI n), .int (nI ni), .int (nI no), .ref mk, .ref m0, .ref m1, .ref mi, .ref mo, .ref ml, .ref mf, .ref ma, .int (nI cl), .ref mfd, .ref mts, .int (nI tc), .ref mg, .ref mb]))] → va_S A s.heap H locs → ∀ (ls : Array Slot), lv_has ls 5 [(0, .ref qm), (1, .int (nI 1)), (2, .int (nI ac)), (3, .int (nI k))] → W p l e (headSpec wsX5_count ({ frames := 1, cells := 0, slots := 0, locals := 21 } : Room)).room s m ([.ref qm, .int (nI 1)] : List Value).toArray below meth c H locs 0 0 (MQ below (va_Qi (fun (r_9 : Int32) (_u9 : Unit) => r_9 = (nI ni)) (fun (_u9 : Unit) t => PQ D A [(qm, .inr (5, [.int (nI 0), .int (nI n), .int (nI ni), .int (nI no), .ref mk, .ref m0, .ref m1, .ref mi, .ref mo, .ref ml, .ref mf, .ref ma, .int (nI cl), .ref mfd, .ref mts, .int (nI tc), .ref mg, .ref mb]))] t) A) ([.ref qm, .int (nI 1)] : List Value).toArray s 0 0 A) (F0 m 27 ls []) := by
          intro n27
          induction n27 with
          | zero => intro k ac hk hac hm; exact absurd hm (Nat.not_lt_zero _)
          | succ n27 ih27 =>
            intro k ac hk hac hm27 H locs hP hD hS ls hl
            refine lv_iload_n hx hb dX5_count_27 rfl (lv_at hl 3 rfl) ?_
            refine lv_aload_n hx hb dX5_count_28 rfl (lv_at hl 0 rfl) ?_
            refine va_get (D := D) (ci := 5) (v := .int (nI cl)) (C := RX5) (T := TX5) (N := 18) hx hb hts hiX5 hown hK hP 0 rfl rfl 12 (by decide) (hts (.fieldLink RX5 94 "FaultSearchModel" "classes" "I") (by decide +kernel)) (fun _ h9 => h9) rfl dX5_count_29 ?_
            refine lv_icmp_ge (tgt := 94) hx hb dX5_count_32 (by decide) (fun c_32 => ?_) (fun c_32 => ?_)
            · skip
              rw [zc_le (by omega) (by omega)] at c_32
              refine lv_iload_n hx hb dX5_count_94 rfl (lv_at hl 1 rfl) ?_
              refine lv_if_ne (tgt := 105) hx hb dX5_count_95 (by decide) (fun c_95 => ?_) (fun c_95 => ?_)
              · skip
                refine lv_iload_n hx hb dX5_count_105 rfl (lv_at hl 1 rfl) ?_
                refine lv_iconst (v := (nI 1)) hx hb dX5_count_106 (by decide) ?_
                refine lv_icmp_ne (tgt := 117) hx hb dX5_count_107 (by decide) (fun c_107 => ?_) (fun c_107 => ?_)
                · skip
                  exact absurd c_107 (by decide)
                · skip
                  refine lv_aload_n hx hb dX5_count_110 rfl (lv_at hl 0 rfl) ?_
                  refine va_get (D := D) (ci := 5) (v := .int (nI ni)) (C := RX5) (T := TX5) (N := 18) hx hb hts hiX5 hown hK hP 0 rfl rfl 2 (by decide) (hts (.fieldLink RX5 55 "FaultSearchModel" "inputs" "I") (by decide +kernel)) (fun _ h9 => h9) rfl dX5_count_111 ?_
                  refine lv_goto (tgt := 142) hx hb dX5_count_114 (by decide) ?_
                  exact W.iret (v := (nI ni)) hx hb hr (fun t_9 ht_9 hW_9 => ⟨⟨(nI ni), (), rfl, rfl, ⟨by rw [ht_9]; exact hP, hD⟩⟩, hS.F ht_9⟩) hS.2.2 dX5_count_142
              · skip
                exact absurd c_95 (by decide)
            · skip
              rw [zc_le (by omega) (by omega)] at c_32
              refine lv_iload_n hx hb dX5_count_35 rfl (lv_at hl 1 rfl) ?_
              refine lv_iconst (v := (nI 3)) hx hb dX5_count_36 (by decide) ?_
              refine lv_icmp_ne (tgt := 49) hx hb dX5_count_37 (by decide) (fun c_37 => ?_) (fun c_37 => ?_)
              · skip
                refine lv_iload_n hx hb dX5_count_49 rfl (lv_at hl 1 rfl) ?_
                refine lv_iconst (v := (nI 5)) hx hb dX5_count_50 (by decide) ?_
                refine lv_icmp_ne (tgt := 72) hx hb dX5_count_51 (by decide) (fun c_51 => ?_) (fun c_51 => ?_)
                · skip
                  refine lv_iconst (v := (nI 0)) hx hb dX5_count_72 (by decide) ?_
                  refine lv_istore (lv' := [(4, .int (nI 0)), (0, .ref qm), (1, .int (nI 1)), (2, .int (nI ac)), (3, .int (nI k))]) hx hb dX5_count_73 hl (by decide) rfl (fun ls hl => ?_)
                  refine lv_iload_n hx hb dX5_count_75 rfl (lv_at hl 3 rfl) ?_
                  refine lv_iload hx hb dX5_count_76 (lv_at hl 0 rfl) ?_
                  refine lv_if_eq (tgt := 85) hx hb dX5_count_78 (by decide) (fun c_78 => ?_) (fun c_78 => ?_)
                  · skip
                    refine lv_iconst (v := (nI 0)) hx hb dX5_count_85 (by decide) ?_
                    refine lv_iadd hx hb dX5_count_86 ?_
                    refine zz_i (z := (nI (ac + 0))) (nI_add _ _) ?_
                    refine lv_istore_n (lv' := [(2, .int (nI (ac + 0))), (4, .int (nI 0)), (0, .ref qm), (1, .int (nI 1)), (3, .int (nI k))]) hx hb dX5_count_87 rfl hl (by decide) rfl (fun ls hl => ?_)
                    refine lv_iinc (v := (nI (k + 1))) (lv' := [(3, .int (nI (k + 1))), (2, .int (nI (ac + 0))), (4, .int (nI 0)), (0, .ref qm), (1, .int (nI 1))]) hx hb dX5_count_88 hl (k := 4) rfl (nI_add _ 1) (by decide) rfl (fun ls hl => ?_)
                    refine lv_goto (tgt := 27) hx hb dX5_count_91 (by decide) ?_
                    exact ih27 (k + 1) (ac + 0) (by omega) (by omega) (by omega) _ _ hP hD hS ls (lv_sub hl [3, 4, 1, 0] rfl)
                  · skip
                    exact absurd (by decide) c_78
                · skip
                  exact absurd c_51 (by decide)
              · skip
                exact absurd c_37 (by decide)
        exact loop27 ((cl - 0) + 1) 0 0 (Nat.zero_le _) rfl (Nat.lt_succ_self _) _ _ hP hD hS ls (lv_sub hl [2, 3, 1, 0] rfl)
      · skip
        rw [zc_if0] at c_18
        have c_18 := Classical.not_not.mp c_18
        exact absurd c_18 (by decide)
    · skip
      exact absurd (by decide) c_7

set_option maxHeartbeats 4000000 in
set_option maxRecDepth 100000 in
theorem c_X5_count_2 (l : Launch) (D : va_G) (cI cJ cZ : ClassId) (qm : Nat) (mk : Nat) (m0 : Nat) (m1 : Nat) (mi : Nat) (mo : Nat) (ml : Nat) (mf : Nat) (ma : Nat) (mfd : Nat) (mts : Nat) (mg : Nat) (mb : Nat) (cd : Int32) (n : Nat) (ni : Nat) (no : Nat) (cl : Nat) (tc : Nat) (sz : Nat) (A : Nat → Prop) (hAe : A = va_A [(qm, .inr (5, [.int cd, .int (nI n), .int (nI ni), .int (nI no), .ref mk, .ref m0, .ref m1, .ref mi, .ref mo, .ref ml, .ref mf, .ref ma, .int (nI cl), .ref mfd, .ref mts, .int (nI tc), .ref mg, .ref mb]))] sz) (hcl : cl ≤ 600) : Met l yX5_count wsX5_count ({ frames := 1, cells := 0, slots := 0, locals := 21 } : Room) (va_Pc [.ref qm, .int (nI 2)] (PW D cI cJ cZ [(qm, .inr (5, [.int cd, .int (nI n), .int (nI ni), .int (nI no), .ref mk, .ref m0, .ref m1, .ref mi, .ref mo, .ref ml, .ref mf, .ref ma, .int (nI cl), .ref mfd, .ref mts, .int (nI tc), .ref mg, .ref mb]))] sz)) (va_Qi (fun (r_9 : Int32) (_u9 : Unit) => r_9 = (nI no)) (fun (_u9 : Unit) t => PQ D A [(qm, .inr (5, [.int (nI 0), .int (nI n), .int (nI ni), .int (nI no), .ref mk, .ref m0, .ref m1, .ref mi, .ref mo, .ref ml, .ref mf, .ref ma, .int (nI cl), .ref mfd, .ref mts, .int (nI tc), .ref mg, .ref mb]))] t) A) 0 0 A := by
  refine Met.ofW (cc := cX5_count) (maxL := 5) (ret := (some .int)) (by decide) rfl ?_
  intro p e s m args below meth c s₁ B hml hv
  obtain ⟨rfl, hsz, ⟨hP, hK, hNB⟩, hD0⟩ := hv
  have hx := B.exec
  have hb := B.bytes
  have hr := B.returns
  have hts := atoms_spec (ws := wsX5_count) B.pre
  have hown : s.vm.findClass RX5 = some m.cls := findClass_of_methodNamed B.named
  have hlocks := B.notSynchronized
  have hiX5 : ∀ w ∈ u_ws RX5 TX5 18, w ∈ wsX5_count := by decide +kernel
  subst hsz
  have hD : va_D A [(qm, .inr (5, [.int cd, .int (nI n), .int (nI ni), .int (nI no), .ref mk, .ref m0, .ref m1, .ref mi, .ref mo, .ref ml, .ref mf, .ref ma, .int (nI cl), .ref mfd, .ref mts, .int (nI tc), .ref mg, .ref mb]))] := by rw [hAe]; exact hD0.self
  have hA : ∀ q : Nat, s.heap.size ≤ q → A q := fun q h => by rw [hAe]; exact Or.inr h
  have hS : va_S A s.heap s.heap [] := va_S.rf
  have hl := lv_entry ([.ref qm, .int (nI 2)]) (n := 5) (Nat.le_of_ble_eq_true rfl)
  rw [lg_entry_eq]
  generalize (lg_sl ([.ref qm, .int (nI 2)]) ++ List.replicate (5 - (lg_sl ([.ref qm, .int (nI 2)])).length) Slot.unset).toArray = ls at hl ⊢
  have hl : lv_has ls 5 [(0, .ref qm), (1, .int (nI 2))] := hl
  refine lv_aload_n hx hb dX5_count_0 rfl (lv_at hl 0 rfl) ?_
  refine lv_iload_n hx hb dX5_count_1 rfl (lv_at hl 1 rfl) ?_
  refine lv_if_lt (tgt := 10) hx hb dX5_count_2 (by decide) (fun c_2 => ?_) (fun c_2 => ?_)
  · skip
    exact absurd c_2 (by decide)
  · skip
    refine lv_iload_n hx hb dX5_count_5 rfl (lv_at hl 1 rfl) ?_
    refine lv_iconst (v := (nI 5)) hx hb dX5_count_6 (by decide) ?_
    refine lv_icmp_le (tgt := 14) hx hb dX5_count_7 (by decide) (fun c_7 => ?_) (fun c_7 => ?_)
    · skip
      refine lv_iconst (v := (nI 0)) hx hb dX5_count_14 (by decide) ?_
      have hPc := hP.sub (ws' := [(qm, .inr (5, [.int cd, .int (nI n), .int (nI ni), .int (nI no), .ref mk, .ref m0, .ref m1, .ref mi, .ref mo, .ref ml, .ref mf, .ref ma, .int (nI cl), .ref mfd, .ref mts, .int (nI tc), .ref mg, .ref mb]))]) [0] rfl
      have hDc := hD.sub (ws' := [(qm, .inr (5, [.int cd, .int (nI n), .int (nI ni), .int (nI no), .ref mk, .ref m0, .ref m1, .ref mi, .ref mo, .ref ml, .ref mf, .ref ma, .int (nI cl), .ref mfd, .ref mts, .int (nI tc), .ref mg, .ref mb]))]) [0] (by decide) rfl
      have hFc := va_free (wc := [(qm, .inr (5, [.int cd, .int (nI n), .int (nI ni), .int (nI no), .ref mk, .ref m0, .ref m1, .ref mi, .ref mo, .ref ml, .ref mf, .ref ma, .int (nI cl), .ref mfd, .ref mts, .int (nI tc), .ref mg, .ref mb]))]) hD hS hA [0] rfl
      refine va_calli (va_runV (As := [.int (nI 0)]) (rest := []) ⟨hx, hb, hml, hown, hts⟩ (c_X5_refuses l D cI cJ cZ qm mk m0 m1 mi mo ml mf ma mfd mts mg mb cd n ni no cl tc 0 s.heap.size _ rfl (by omega)) (cwV 1 hts gX5_count_X5_refuses rfl rfl rfl (by decide +kernel) ⟨Nat.le_of_ble_eq_true rfl, Nat.le_of_ble_eq_true rfl⟩) ⟨PW.blind, va_recv hK hPc (ci := 5) (q0 := 0) rfl rfl, fun U hU hW => ⟨rfl, PW.to hPc hK hNB hDc hU hW⟩⟩ rfl rfl hl.1 rfl (lv_room (Nat.le_of_ble_eq_true rfl)) dX5_count_15 ⟨Nat.le_of_ble_eq_true rfl, Nat.le_of_ble_eq_true rfl⟩) hS (fun q _ h => hFc q h) hFc (fun r_1 u_9 t_9 H1_9 locs ht_9 hvm_9 hw_9 hB_9 hz1_9 hk1_9 hS => ?_)
      obtain ⟨hP1_9, hD1_9⟩ := hB_9
      rw [ht_9] at hP1_9
      obtain rfl := hw_9
      obtain ⟨hP, hD⟩ := va_join (wr := []) (w1 := [(qm, .inr (5, [.int (nI 0), .int (nI n), .int (nI ni), .int (nI no), .ref mk, .ref m0, .ref m1, .ref mi, .ref mo, .ref ml, .ref mf, .ref ma, .int (nI cl), .ref mfd, .ref mts, .int (nI tc), .ref mg, .ref mb]))]) hP hD [0] [] rfl rfl (by decide) (by decide) hk1_9 hFc hP1_9 hD1_9
      generalize H1_9 = H at hP hS ⊢
      have hP : va_P D vwCl [(qm, .inr (5, [.int (nI 0), .int (nI n), .int (nI ni), .int (nI no), .ref mk, .ref m0, .ref m1, .ref mi, .ref mo, .ref ml, .ref mf, .ref ma, .int (nI cl), .ref mfd, .ref mts, .int (nI tc), .ref mg, .ref mb]))] H := hP
      have hD : va_D A [(qm, .inr (5, [.int (nI 0), .int (nI n), .int (nI ni), .int (nI no), .ref mk, .ref m0, .ref m1, .ref mi, .ref mo, .ref ml, .ref mf, .ref ma, .int (nI cl), .ref mfd, .ref mts, .int (nI tc), .ref mg, .ref mb]))] := hD
      refine lv_if_eq (tgt := 23) hx hb dX5_count_18 (by decide) (fun c_18 => ?_) (fun c_18 => ?_)
      · skip
        rw [zc_if0] at c_18
        refine lv_iconst (v := (nI 0)) hx hb dX5_count_23 (by decide) ?_
        refine lv_istore_n (lv' := [(2, .int (nI 0)), (0, .ref qm), (1, .int (nI 2))]) hx hb dX5_count_24 rfl hl (by decide) rfl (fun ls hl => ?_)
        refine lv_iconst (v := (nI 0)) hx hb dX5_count_25 (by decide) ?_
        refine lv_istore_n (lv' := [(3, .int (nI 0)), (2, .int (nI 0)), (0, .ref qm), (1, .int (nI 2))]) hx hb dX5_count_26 rfl hl (by decide) rfl (fun ls hl => ?_)
        have loop27 : ∀ (n27 : Nat) (k : Nat) (ac : Nat) (hk : k ≤ cl) (hac : ac = 0), cl - k < n27 → ∀ (H : Heap) (locs : List Loc), va_P D vwCl [(qm, .inr (5, [.int (nI 0), .int (nI n), .int (nI ni), .int (nI no), .ref mk, .ref m0, .ref m1, .ref mi, .ref mo, .ref ml, .ref mf, .ref ma, .int (nI cl), .ref mfd, .ref mts, .int (nI tc), .ref mg, .ref mb]))] H → va_D A [(qm, .inr (5, [.int (nI 0), .int (nI n), .int (nI ni), .int (nI no), .ref mk, .ref m0, .ref m1, .ref mi, .ref mo, .ref ml, .ref mf, .ref ma, .int (nI cl), .ref mfd, .ref mts, .int (nI tc), .ref mg, .ref mb]))] → va_S A s.heap H locs → ∀ (ls : Array Slot), lv_has ls 5 [(0, .ref qm), (1, .int (nI 2)), (2, .int (nI ac)), (3, .int (nI k))] → W p l e (headSpec wsX5_count ({ frames := 1, cells := 0, slots := 0, locals := 21 } : Room)).room s m ([.ref qm, .int (nI 2)] : List Value).toArray below meth c H locs 0 0 (MQ below (va_Qi (fun (r_9 : Int32) (_u9 : Unit) => r_9 = (nI no)) (fun (_u9 : Unit) t => PQ D A [(qm, .inr (5, [.int (nI 0), .int (nI n), .int (nI ni), .int (nI no), .ref mk, .ref m0, .ref m1, .ref mi, .ref mo, .ref ml, .ref mf, .ref ma, .int (nI cl), .ref mfd, .ref mts, .int (nI tc), .ref mg, .ref mb]))] t) A) ([.ref qm, .int (nI 2)] : List Value).toArray s 0 0 A) (F0 m 27 ls []) := by
          intro n27
          induction n27 with
          | zero => intro k ac hk hac hm; exact absurd hm (Nat.not_lt_zero _)
          | succ n27 ih27 =>
            intro k ac hk hac hm27 H locs hP hD hS ls hl
            refine lv_iload_n hx hb dX5_count_27 rfl (lv_at hl 3 rfl) ?_
            refine lv_aload_n hx hb dX5_count_28 rfl (lv_at hl 0 rfl) ?_
            refine va_get (D := D) (ci := 5) (v := .int (nI cl)) (C := RX5) (T := TX5) (N := 18) hx hb hts hiX5 hown hK hP 0 rfl rfl 12 (by decide) (hts (.fieldLink RX5 94 "FaultSearchModel" "classes" "I") (by decide +kernel)) (fun _ h9 => h9) rfl dX5_count_29 ?_
            refine lv_icmp_ge (tgt := 94) hx hb dX5_count_32 (by decide) (fun c_32 => ?_) (fun c_32 => ?_)
            · skip
              rw [zc_le (by omega) (by omega)] at c_32
              refine lv_iload_n hx hb dX5_count_94 rfl (lv_at hl 1 rfl) ?_
              refine lv_if_ne (tgt := 105) hx hb dX5_count_95 (by decide) (fun c_95 => ?_) (fun c_95 => ?_)
              · skip
                refine lv_iload_n hx hb dX5_count_105 rfl (lv_at hl 1 rfl) ?_
                refine lv_iconst (v := (nI 1)) hx hb dX5_count_106 (by decide) ?_
                refine lv_icmp_ne (tgt := 117) hx hb dX5_count_107 (by decide) (fun c_107 => ?_) (fun c_107 => ?_)
                · skip
                  refine lv_iload_n hx hb dX5_count_117 rfl (lv_at hl 1 rfl) ?_
                  refine lv_iconst (v := (nI 2)) hx hb dX5_count_118 (by decide) ?_
                  refine lv_icmp_ne (tgt := 129) hx hb dX5_count_119 (by decide) (fun c_119 => ?_) (fun c_119 => ?_)
                  · skip
                    exact absurd c_119 (by decide)
                  · skip
                    refine lv_aload_n hx hb dX5_count_122 rfl (lv_at hl 0 rfl) ?_
                    refine va_get (D := D) (ci := 5) (v := .int (nI no)) (C := RX5) (T := TX5) (N := 18) hx hb hts hiX5 hown hK hP 0 rfl rfl 3 (by decide) (hts (.fieldLink RX5 68 "FaultSearchModel" "outputs" "I") (by decide +kernel)) (fun _ h9 => h9) rfl dX5_count_123 ?_
                    refine lv_goto (tgt := 142) hx hb dX5_count_126 (by decide) ?_
                    exact W.iret (v := (nI no)) hx hb hr (fun t_9 ht_9 hW_9 => ⟨⟨(nI no), (), rfl, rfl, ⟨by rw [ht_9]; exact hP, hD⟩⟩, hS.F ht_9⟩) hS.2.2 dX5_count_142
                · skip
                  exact absurd c_107 (by decide)
              · skip
                exact absurd c_95 (by decide)
            · skip
              rw [zc_le (by omega) (by omega)] at c_32
              refine lv_iload_n hx hb dX5_count_35 rfl (lv_at hl 1 rfl) ?_
              refine lv_iconst (v := (nI 3)) hx hb dX5_count_36 (by decide) ?_
              refine lv_icmp_ne (tgt := 49) hx hb dX5_count_37 (by decide) (fun c_37 => ?_) (fun c_37 => ?_)
              · skip
                refine lv_iload_n hx hb dX5_count_49 rfl (lv_at hl 1 rfl) ?_
                refine lv_iconst (v := (nI 5)) hx hb dX5_count_50 (by decide) ?_
                refine lv_icmp_ne (tgt := 72) hx hb dX5_count_51 (by decide) (fun c_51 => ?_) (fun c_51 => ?_)
                · skip
                  refine lv_iconst (v := (nI 0)) hx hb dX5_count_72 (by decide) ?_
                  refine lv_istore (lv' := [(4, .int (nI 0)), (0, .ref qm), (1, .int (nI 2)), (2, .int (nI ac)), (3, .int (nI k))]) hx hb dX5_count_73 hl (by decide) rfl (fun ls hl => ?_)
                  refine lv_iload_n hx hb dX5_count_75 rfl (lv_at hl 3 rfl) ?_
                  refine lv_iload hx hb dX5_count_76 (lv_at hl 0 rfl) ?_
                  refine lv_if_eq (tgt := 85) hx hb dX5_count_78 (by decide) (fun c_78 => ?_) (fun c_78 => ?_)
                  · skip
                    refine lv_iconst (v := (nI 0)) hx hb dX5_count_85 (by decide) ?_
                    refine lv_iadd hx hb dX5_count_86 ?_
                    refine zz_i (z := (nI (ac + 0))) (nI_add _ _) ?_
                    refine lv_istore_n (lv' := [(2, .int (nI (ac + 0))), (4, .int (nI 0)), (0, .ref qm), (1, .int (nI 2)), (3, .int (nI k))]) hx hb dX5_count_87 rfl hl (by decide) rfl (fun ls hl => ?_)
                    refine lv_iinc (v := (nI (k + 1))) (lv' := [(3, .int (nI (k + 1))), (2, .int (nI (ac + 0))), (4, .int (nI 0)), (0, .ref qm), (1, .int (nI 2))]) hx hb dX5_count_88 hl (k := 4) rfl (nI_add _ 1) (by decide) rfl (fun ls hl => ?_)
                    refine lv_goto (tgt := 27) hx hb dX5_count_91 (by decide) ?_
                    exact ih27 (k + 1) (ac + 0) (by omega) (by omega) (by omega) _ _ hP hD hS ls (lv_sub hl [3, 4, 1, 0] rfl)
                  · skip
                    exact absurd (by decide) c_78
                · skip
                  exact absurd c_51 (by decide)
              · skip
                exact absurd c_37 (by decide)
        exact loop27 ((cl - 0) + 1) 0 0 (Nat.zero_le _) rfl (Nat.lt_succ_self _) _ _ hP hD hS ls (lv_sub hl [2, 3, 1, 0] rfl)
      · skip
        rw [zc_if0] at c_18
        have c_18 := Classical.not_not.mp c_18
        exact absurd c_18 (by decide)
    · skip
      exact absurd (by decide) c_7

set_option maxHeartbeats 4000000 in
set_option maxRecDepth 100000 in
theorem c_X5_count_3 (l : Launch) (D : va_G) (cI cJ cZ : ClassId) (qm : Nat) (mk : Nat) (m0 : Nat) (m1 : Nat) (mi : Nat) (mo : Nat) (ml : Nat) (mf : Nat) (ma : Nat) (mfd : Nat) (mts : Nat) (mg : Nat) (mb : Nat) (cd : Int32) (n : Nat) (ni : Nat) (no : Nat) (cl : Nat) (tc : Nat) (fd : Nat → Int32) (sz : Nat) (A : Nat → Prop) (hAe : A = va_A [(qm, .inr (5, [.int cd, .int (nI n), .int (nI ni), .int (nI no), .ref mk, .ref m0, .ref m1, .ref mi, .ref mo, .ref ml, .ref mf, .ref ma, .int (nI cl), .ref mfd, .ref mts, .int (nI tc), .ref mg, .ref mb])), (mfd, .inl (cZ, 600, .inl fd))] sz) (hcl : cl ≤ 600) : Met l yX5_count wsX5_count ({ frames := 1, cells := 0, slots := 0, locals := 21 } : Room) (va_Pc [.ref qm, .int (nI 3)] (PW D cI cJ cZ [(qm, .inr (5, [.int cd, .int (nI n), .int (nI ni), .int (nI no), .ref mk, .ref m0, .ref m1, .ref mi, .ref mo, .ref ml, .ref mf, .ref ma, .int (nI cl), .ref mfd, .ref mts, .int (nI tc), .ref mg, .ref mb])), (mfd, .inl (cZ, 600, .inl fd))] sz)) (va_Qi (fun (r_9 : Int32) (_u9 : Unit) => r_9 = (nI (cntF (fun k => decide (¬ fd k = 0)) cl))) (fun (_u9 : Unit) t => PQ D A [(qm, .inr (5, [.int (nI 0), .int (nI n), .int (nI ni), .int (nI no), .ref mk, .ref m0, .ref m1, .ref mi, .ref mo, .ref ml, .ref mf, .ref ma, .int (nI cl), .ref mfd, .ref mts, .int (nI tc), .ref mg, .ref mb])), (mfd, .inl (cZ, 600, .inl fd))] t) A) 0 0 A := by
  refine Met.ofW (cc := cX5_count) (maxL := 5) (ret := (some .int)) (by decide) rfl ?_
  intro p e s m args below meth c s₁ B hml hv
  obtain ⟨rfl, hsz, ⟨hP, hK, hNB⟩, hD0⟩ := hv
  have hx := B.exec
  have hb := B.bytes
  have hr := B.returns
  have hts := atoms_spec (ws := wsX5_count) B.pre
  have hown : s.vm.findClass RX5 = some m.cls := findClass_of_methodNamed B.named
  have hlocks := B.notSynchronized
  have hiX5 : ∀ w ∈ u_ws RX5 TX5 18, w ∈ wsX5_count := by decide +kernel
  subst hsz
  have hD : va_D A [(qm, .inr (5, [.int cd, .int (nI n), .int (nI ni), .int (nI no), .ref mk, .ref m0, .ref m1, .ref mi, .ref mo, .ref ml, .ref mf, .ref ma, .int (nI cl), .ref mfd, .ref mts, .int (nI tc), .ref mg, .ref mb])), (mfd, .inl (cZ, 600, .inl fd))] := by rw [hAe]; exact hD0.self
  have hA : ∀ q : Nat, s.heap.size ≤ q → A q := fun q h => by rw [hAe]; exact Or.inr h
  have hS : va_S A s.heap s.heap [] := va_S.rf
  have hl := lv_entry ([.ref qm, .int (nI 3)]) (n := 5) (Nat.le_of_ble_eq_true rfl)
  rw [lg_entry_eq]
  generalize (lg_sl ([.ref qm, .int (nI 3)]) ++ List.replicate (5 - (lg_sl ([.ref qm, .int (nI 3)])).length) Slot.unset).toArray = ls at hl ⊢
  have hl : lv_has ls 5 [(0, .ref qm), (1, .int (nI 3))] := hl
  refine lv_aload_n hx hb dX5_count_0 rfl (lv_at hl 0 rfl) ?_
  refine lv_iload_n hx hb dX5_count_1 rfl (lv_at hl 1 rfl) ?_
  refine lv_if_lt (tgt := 10) hx hb dX5_count_2 (by decide) (fun c_2 => ?_) (fun c_2 => ?_)
  · skip
    exact absurd c_2 (by decide)
  · skip
    refine lv_iload_n hx hb dX5_count_5 rfl (lv_at hl 1 rfl) ?_
    refine lv_iconst (v := (nI 5)) hx hb dX5_count_6 (by decide) ?_
    refine lv_icmp_le (tgt := 14) hx hb dX5_count_7 (by decide) (fun c_7 => ?_) (fun c_7 => ?_)
    · skip
      refine lv_iconst (v := (nI 0)) hx hb dX5_count_14 (by decide) ?_
      have hPc := hP.sub (ws' := [(qm, .inr (5, [.int cd, .int (nI n), .int (nI ni), .int (nI no), .ref mk, .ref m0, .ref m1, .ref mi, .ref mo, .ref ml, .ref mf, .ref ma, .int (nI cl), .ref mfd, .ref mts, .int (nI tc), .ref mg, .ref mb]))]) [0] rfl
      have hDc := hD.sub (ws' := [(qm, .inr (5, [.int cd, .int (nI n), .int (nI ni), .int (nI no), .ref mk, .ref m0, .ref m1, .ref mi, .ref mo, .ref ml, .ref mf, .ref ma, .int (nI cl), .ref mfd, .ref mts, .int (nI tc), .ref mg, .ref mb]))]) [0] (by decide) rfl
      have hFc := va_free (wc := [(qm, .inr (5, [.int cd, .int (nI n), .int (nI ni), .int (nI no), .ref mk, .ref m0, .ref m1, .ref mi, .ref mo, .ref ml, .ref mf, .ref ma, .int (nI cl), .ref mfd, .ref mts, .int (nI tc), .ref mg, .ref mb]))]) hD hS hA [0] rfl
      refine va_calli (va_runV (As := [.int (nI 0)]) (rest := []) ⟨hx, hb, hml, hown, hts⟩ (c_X5_refuses l D cI cJ cZ qm mk m0 m1 mi mo ml mf ma mfd mts mg mb cd n ni no cl tc 0 s.heap.size _ rfl (by omega)) (cwV 1 hts gX5_count_X5_refuses rfl rfl rfl (by decide +kernel) ⟨Nat.le_of_ble_eq_true rfl, Nat.le_of_ble_eq_true rfl⟩) ⟨PW.blind, va_recv hK hPc (ci := 5) (q0 := 0) rfl rfl, fun U hU hW => ⟨rfl, PW.to hPc hK hNB hDc hU hW⟩⟩ rfl rfl hl.1 rfl (lv_room (Nat.le_of_ble_eq_true rfl)) dX5_count_15 ⟨Nat.le_of_ble_eq_true rfl, Nat.le_of_ble_eq_true rfl⟩) hS (fun q _ h => hFc q h) hFc (fun r_1 u_9 t_9 H1_9 locs ht_9 hvm_9 hw_9 hB_9 hz1_9 hk1_9 hS => ?_)
      obtain ⟨hP1_9, hD1_9⟩ := hB_9
      rw [ht_9] at hP1_9
      obtain rfl := hw_9
      obtain ⟨hP, hD⟩ := va_join (wr := [(mfd, .inl (cZ, 600, .inl fd))]) (w1 := [(qm, .inr (5, [.int (nI 0), .int (nI n), .int (nI ni), .int (nI no), .ref mk, .ref m0, .ref m1, .ref mi, .ref mo, .ref ml, .ref mf, .ref ma, .int (nI cl), .ref mfd, .ref mts, .int (nI tc), .ref mg, .ref mb]))]) hP hD [0] [1] rfl rfl (by decide) (by decide) hk1_9 hFc hP1_9 hD1_9
      have hP := hP.sub (ws' := [(qm, .inr (5, [.int (nI 0), .int (nI n), .int (nI ni), .int (nI no), .ref mk, .ref m0, .ref m1, .ref mi, .ref mo, .ref ml, .ref mf, .ref ma, .int (nI cl), .ref mfd, .ref mts, .int (nI tc), .ref mg, .ref mb])), (mfd, .inl (cZ, 600, .inl fd))]) [1, 0] rfl
      have hD := hD.sub (ws' := [(qm, .inr (5, [.int (nI 0), .int (nI n), .int (nI ni), .int (nI no), .ref mk, .ref m0, .ref m1, .ref mi, .ref mo, .ref ml, .ref mf, .ref ma, .int (nI cl), .ref mfd, .ref mts, .int (nI tc), .ref mg, .ref mb])), (mfd, .inl (cZ, 600, .inl fd))]) [1, 0] (by decide) rfl
      generalize H1_9 = H at hP hS ⊢
      have hP : va_P D vwCl [(qm, .inr (5, [.int (nI 0), .int (nI n), .int (nI ni), .int (nI no), .ref mk, .ref m0, .ref m1, .ref mi, .ref mo, .ref ml, .ref mf, .ref ma, .int (nI cl), .ref mfd, .ref mts, .int (nI tc), .ref mg, .ref mb])), (mfd, .inl (cZ, 600, .inl fd))] H := hP
      have hD : va_D A [(qm, .inr (5, [.int (nI 0), .int (nI n), .int (nI ni), .int (nI no), .ref mk, .ref m0, .ref m1, .ref mi, .ref mo, .ref ml, .ref mf, .ref ma, .int (nI cl), .ref mfd, .ref mts, .int (nI tc), .ref mg, .ref mb])), (mfd, .inl (cZ, 600, .inl fd))] := hD
      refine lv_if_eq (tgt := 23) hx hb dX5_count_18 (by decide) (fun c_18 => ?_) (fun c_18 => ?_)
      · skip
        rw [zc_if0] at c_18
        refine lv_iconst (v := (nI 0)) hx hb dX5_count_23 (by decide) ?_
        refine lv_istore_n (lv' := [(2, .int (nI 0)), (0, .ref qm), (1, .int (nI 3))]) hx hb dX5_count_24 rfl hl (by decide) rfl (fun ls hl => ?_)
        refine lv_iconst (v := (nI 0)) hx hb dX5_count_25 (by decide) ?_
        refine lv_istore_n (lv' := [(3, .int (nI 0)), (2, .int (nI 0)), (0, .ref qm), (1, .int (nI 3))]) hx hb dX5_count_26 rfl hl (by decide) rfl (fun ls hl => ?_)
        have loop27 : ∀ (n27 : Nat) (k : Nat) (ac : Nat) (hk : k ≤ cl) (hac : ac = cntF (fun k => decide (¬ fd k = 0)) k), cl - k < n27 → ∀ (H : Heap) (locs : List Loc), va_P D vwCl [(qm, .inr (5, [.int (nI 0), .int (nI n), .int (nI ni), .int (nI no), .ref mk, .ref m0, .ref m1, .ref mi, .ref mo, .ref ml, .ref mf, .ref ma, .int (nI cl), .ref mfd, .ref mts, .int (nI tc), .ref mg, .ref mb])), (mfd, .inl (cZ, 600, .inl fd))] H → va_D A [(qm, .inr (5, [.int (nI 0), .int (nI n), .int (nI ni), .int (nI no), .ref mk, .ref m0, .ref m1, .ref mi, .ref mo, .ref ml, .ref mf, .ref ma, .int (nI cl), .ref mfd, .ref mts, .int (nI tc), .ref mg, .ref mb])), (mfd, .inl (cZ, 600, .inl fd))] → va_S A s.heap H locs → ∀ (ls : Array Slot), lv_has ls 5 [(0, .ref qm), (1, .int (nI 3)), (2, .int (nI ac)), (3, .int (nI k))] → W p l e (headSpec wsX5_count ({ frames := 1, cells := 0, slots := 0, locals := 21 } : Room)).room s m ([.ref qm, .int (nI 3)] : List Value).toArray below meth c H locs 0 0 (MQ below (va_Qi (fun (r_9 : Int32) (_u9 : Unit) => r_9 = (nI (cntF (fun k => decide (¬ fd k = 0)) cl))) (fun (_u9 : Unit) t => PQ D A [(qm, .inr (5, [.int (nI 0), .int (nI n), .int (nI ni), .int (nI no), .ref mk, .ref m0, .ref m1, .ref mi, .ref mo, .ref ml, .ref mf, .ref ma, .int (nI cl), .ref mfd, .ref mts, .int (nI tc), .ref mg, .ref mb])), (mfd, .inl (cZ, 600, .inl fd))] t) A) ([.ref qm, .int (nI 3)] : List Value).toArray s 0 0 A) (F0 m 27 ls []) := by
          intro n27
          induction n27 with
          | zero => intro k ac hk hac hm; exact absurd hm (Nat.not_lt_zero _)
          | succ n27 ih27 =>
            intro k ac hk hac hm27 H locs hP hD hS ls hl
            refine lv_iload_n hx hb dX5_count_27 rfl (lv_at hl 3 rfl) ?_
            refine lv_aload_n hx hb dX5_count_28 rfl (lv_at hl 0 rfl) ?_
            refine va_get (D := D) (ci := 5) (v := .int (nI cl)) (C := RX5) (T := TX5) (N := 18) hx hb hts hiX5 hown hK hP 0 rfl rfl 12 (by decide) (hts (.fieldLink RX5 94 "FaultSearchModel" "classes" "I") (by decide +kernel)) (fun _ h9 => h9) rfl dX5_count_29 ?_
            refine lv_icmp_ge (tgt := 94) hx hb dX5_count_32 (by decide) (fun c_32 => ?_) (fun c_32 => ?_)
            · skip
              rw [zc_le (by omega) (by omega)] at c_32
              refine lv_iload_n hx hb dX5_count_94 rfl (lv_at hl 1 rfl) ?_
              refine lv_if_ne (tgt := 105) hx hb dX5_count_95 (by decide) (fun c_95 => ?_) (fun c_95 => ?_)
              · skip
                refine lv_iload_n hx hb dX5_count_105 rfl (lv_at hl 1 rfl) ?_
                refine lv_iconst (v := (nI 1)) hx hb dX5_count_106 (by decide) ?_
                refine lv_icmp_ne (tgt := 117) hx hb dX5_count_107 (by decide) (fun c_107 => ?_) (fun c_107 => ?_)
                · skip
                  refine lv_iload_n hx hb dX5_count_117 rfl (lv_at hl 1 rfl) ?_
                  refine lv_iconst (v := (nI 2)) hx hb dX5_count_118 (by decide) ?_
                  refine lv_icmp_ne (tgt := 129) hx hb dX5_count_119 (by decide) (fun c_119 => ?_) (fun c_119 => ?_)
                  · skip
                    refine lv_iload_n hx hb dX5_count_129 rfl (lv_at hl 1 rfl) ?_
                    refine lv_iconst (v := (nI 4)) hx hb dX5_count_130 (by decide) ?_
                    refine lv_icmp_ne (tgt := 141) hx hb dX5_count_131 (by decide) (fun c_131 => ?_) (fun c_131 => ?_)
                    · skip
                      refine lv_iload_n hx hb dX5_count_141 rfl (lv_at hl 2 rfl) ?_
                      exact W.iret (v := (nI ac)) hx hb hr (fun t_9 ht_9 hW_9 => ⟨⟨(nI ac), (), rfl, (by rw [hac, show k = cl by omega]), ⟨by rw [ht_9]; exact hP, hD⟩⟩, hS.F ht_9⟩) hS.2.2 dX5_count_142
                    · skip
                      exact absurd c_131 (by decide)
                  · skip
                    exact absurd c_119 (by decide)
                · skip
                  exact absurd c_107 (by decide)
              · skip
                exact absurd c_95 (by decide)
            · skip
              rw [zc_le (by omega) (by omega)] at c_32
              refine lv_iload_n hx hb dX5_count_35 rfl (lv_at hl 1 rfl) ?_
              refine lv_iconst (v := (nI 3)) hx hb dX5_count_36 (by decide) ?_
              refine lv_icmp_ne (tgt := 49) hx hb dX5_count_37 (by decide) (fun c_37 => ?_) (fun c_37 => ?_)
              · skip
                exact absurd c_37 (by decide)
              · skip
                refine lv_aload_n hx hb dX5_count_40 rfl (lv_at hl 0 rfl) ?_
                refine va_get (D := D) (ci := 5) (v := .ref mfd) (C := RX5) (T := TX5) (N := 18) hx hb hts hiX5 hown hK hP 0 rfl rfl 13 (by decide) (hts (.fieldLink RX5 34 "FaultSearchModel" "found" "[Z") (by decide +kernel)) (fun _ h9 => h9) rfl dX5_count_41 ?_
                refine lv_iload_n hx hb dX5_count_44 rfl (lv_at hl 3 rfl) ?_
                refine zz_zald hx hb hK hP 1 2 rfl rfl (n := 600) (j := k) (by omega) (by decide) dX5_count_45 ?_
                refine lv_goto (tgt := 73) hx hb dX5_count_46 (by decide) ?_
                refine lv_istore (lv' := [(4, .int (fd k)), (0, .ref qm), (1, .int (nI 3)), (2, .int (nI ac)), (3, .int (nI k))]) hx hb dX5_count_73 hl (by decide) rfl (fun ls hl => ?_)
                refine lv_iload_n hx hb dX5_count_75 rfl (lv_at hl 3 rfl) ?_
                refine lv_iload hx hb dX5_count_76 (lv_at hl 0 rfl) ?_
                refine lv_if_eq (tgt := 85) hx hb dX5_count_78 (by decide) (fun c_78 => ?_) (fun c_78 => ?_)
                · skip
                  refine lv_iconst (v := (nI 0)) hx hb dX5_count_85 (by decide) ?_
                  refine lv_iadd hx hb dX5_count_86 ?_
                  refine zz_i (z := (nI (ac + 0))) (nI_add _ _) ?_
                  refine lv_istore_n (lv' := [(2, .int (nI (ac + 0))), (4, .int (fd k)), (0, .ref qm), (1, .int (nI 3)), (3, .int (nI k))]) hx hb dX5_count_87 rfl hl (by decide) rfl (fun ls hl => ?_)
                  refine lv_iinc (v := (nI (k + 1))) (lv' := [(3, .int (nI (k + 1))), (2, .int (nI (ac + 0))), (4, .int (fd k)), (0, .ref qm), (1, .int (nI 3))]) hx hb dX5_count_88 hl (k := 4) rfl (nI_add _ 1) (by decide) rfl (fun ls hl => ?_)
                  refine lv_goto (tgt := 27) hx hb dX5_count_91 (by decide) ?_
                  exact ih27 (k + 1) (ac + 0) (by omega) (by rw [cntF_s, ← hac]; first | (rw [if_pos (decide_eq_true c_78)]) | (rw [if_neg (by simpa using c_78)])) (by omega) _ _ hP hD hS ls (lv_sub hl [3, 4, 1, 0] rfl)
                · skip
                  refine lv_iconst (v := (nI 1)) hx hb dX5_count_81 (by decide) ?_
                  refine lv_goto (tgt := 86) hx hb dX5_count_82 (by decide) ?_
                  refine lv_iadd hx hb dX5_count_86 ?_
                  refine zz_i (z := (nI (ac + 1))) (nI_add _ _) ?_
                  refine lv_istore_n (lv' := [(2, .int (nI (ac + 1))), (4, .int (fd k)), (0, .ref qm), (1, .int (nI 3)), (3, .int (nI k))]) hx hb dX5_count_87 rfl hl (by decide) rfl (fun ls hl => ?_)
                  refine lv_iinc (v := (nI (k + 1))) (lv' := [(3, .int (nI (k + 1))), (2, .int (nI (ac + 1))), (4, .int (fd k)), (0, .ref qm), (1, .int (nI 3))]) hx hb dX5_count_88 hl (k := 4) rfl (nI_add _ 1) (by decide) rfl (fun ls hl => ?_)
                  refine lv_goto (tgt := 27) hx hb dX5_count_91 (by decide) ?_
                  exact ih27 (k + 1) (ac + 1) (by omega) (by rw [cntF_s, ← hac]; first | (rw [if_pos (decide_eq_true c_78)]) | (rw [if_neg (by simpa using c_78)])) (by omega) _ _ hP hD hS ls (lv_sub hl [3, 4, 1, 0] rfl)
        exact loop27 ((cl - 0) + 1) 0 0 (Nat.zero_le _) rfl (Nat.lt_succ_self _) _ _ hP hD hS ls (lv_sub hl [2, 3, 1, 0] rfl)
      · skip
        rw [zc_if0] at c_18
        have c_18 := Classical.not_not.mp c_18
        exact absurd c_18 (by decide)
    · skip
      exact absurd (by decide) c_7

set_option maxHeartbeats 4000000 in
set_option maxRecDepth 100000 in
theorem c_X5_count_4 (l : Launch) (D : va_G) (cI cJ cZ : ClassId) (qm : Nat) (mk : Nat) (m0 : Nat) (m1 : Nat) (mi : Nat) (mo : Nat) (ml : Nat) (mf : Nat) (ma : Nat) (mfd : Nat) (mts : Nat) (mg : Nat) (mb : Nat) (cd : Int32) (n : Nat) (ni : Nat) (no : Nat) (cl : Nat) (tc : Nat) (sz : Nat) (A : Nat → Prop) (hAe : A = va_A [(qm, .inr (5, [.int cd, .int (nI n), .int (nI ni), .int (nI no), .ref mk, .ref m0, .ref m1, .ref mi, .ref mo, .ref ml, .ref mf, .ref ma, .int (nI cl), .ref mfd, .ref mts, .int (nI tc), .ref mg, .ref mb]))] sz) (hcl : cl ≤ 600) : Met l yX5_count wsX5_count ({ frames := 1, cells := 0, slots := 0, locals := 21 } : Room) (va_Pc [.ref qm, .int (nI 4)] (PW D cI cJ cZ [(qm, .inr (5, [.int cd, .int (nI n), .int (nI ni), .int (nI no), .ref mk, .ref m0, .ref m1, .ref mi, .ref mo, .ref ml, .ref mf, .ref ma, .int (nI cl), .ref mfd, .ref mts, .int (nI tc), .ref mg, .ref mb]))] sz)) (va_Qi (fun (r_9 : Int32) (_u9 : Unit) => r_9 = (nI tc)) (fun (_u9 : Unit) t => PQ D A [(qm, .inr (5, [.int (nI 0), .int (nI n), .int (nI ni), .int (nI no), .ref mk, .ref m0, .ref m1, .ref mi, .ref mo, .ref ml, .ref mf, .ref ma, .int (nI cl), .ref mfd, .ref mts, .int (nI tc), .ref mg, .ref mb]))] t) A) 0 0 A := by
  refine Met.ofW (cc := cX5_count) (maxL := 5) (ret := (some .int)) (by decide) rfl ?_
  intro p e s m args below meth c s₁ B hml hv
  obtain ⟨rfl, hsz, ⟨hP, hK, hNB⟩, hD0⟩ := hv
  have hx := B.exec
  have hb := B.bytes
  have hr := B.returns
  have hts := atoms_spec (ws := wsX5_count) B.pre
  have hown : s.vm.findClass RX5 = some m.cls := findClass_of_methodNamed B.named
  have hlocks := B.notSynchronized
  have hiX5 : ∀ w ∈ u_ws RX5 TX5 18, w ∈ wsX5_count := by decide +kernel
  subst hsz
  have hD : va_D A [(qm, .inr (5, [.int cd, .int (nI n), .int (nI ni), .int (nI no), .ref mk, .ref m0, .ref m1, .ref mi, .ref mo, .ref ml, .ref mf, .ref ma, .int (nI cl), .ref mfd, .ref mts, .int (nI tc), .ref mg, .ref mb]))] := by rw [hAe]; exact hD0.self
  have hA : ∀ q : Nat, s.heap.size ≤ q → A q := fun q h => by rw [hAe]; exact Or.inr h
  have hS : va_S A s.heap s.heap [] := va_S.rf
  have hl := lv_entry ([.ref qm, .int (nI 4)]) (n := 5) (Nat.le_of_ble_eq_true rfl)
  rw [lg_entry_eq]
  generalize (lg_sl ([.ref qm, .int (nI 4)]) ++ List.replicate (5 - (lg_sl ([.ref qm, .int (nI 4)])).length) Slot.unset).toArray = ls at hl ⊢
  have hl : lv_has ls 5 [(0, .ref qm), (1, .int (nI 4))] := hl
  refine lv_aload_n hx hb dX5_count_0 rfl (lv_at hl 0 rfl) ?_
  refine lv_iload_n hx hb dX5_count_1 rfl (lv_at hl 1 rfl) ?_
  refine lv_if_lt (tgt := 10) hx hb dX5_count_2 (by decide) (fun c_2 => ?_) (fun c_2 => ?_)
  · skip
    exact absurd c_2 (by decide)
  · skip
    refine lv_iload_n hx hb dX5_count_5 rfl (lv_at hl 1 rfl) ?_
    refine lv_iconst (v := (nI 5)) hx hb dX5_count_6 (by decide) ?_
    refine lv_icmp_le (tgt := 14) hx hb dX5_count_7 (by decide) (fun c_7 => ?_) (fun c_7 => ?_)
    · skip
      refine lv_iconst (v := (nI 0)) hx hb dX5_count_14 (by decide) ?_
      have hPc := hP.sub (ws' := [(qm, .inr (5, [.int cd, .int (nI n), .int (nI ni), .int (nI no), .ref mk, .ref m0, .ref m1, .ref mi, .ref mo, .ref ml, .ref mf, .ref ma, .int (nI cl), .ref mfd, .ref mts, .int (nI tc), .ref mg, .ref mb]))]) [0] rfl
      have hDc := hD.sub (ws' := [(qm, .inr (5, [.int cd, .int (nI n), .int (nI ni), .int (nI no), .ref mk, .ref m0, .ref m1, .ref mi, .ref mo, .ref ml, .ref mf, .ref ma, .int (nI cl), .ref mfd, .ref mts, .int (nI tc), .ref mg, .ref mb]))]) [0] (by decide) rfl
      have hFc := va_free (wc := [(qm, .inr (5, [.int cd, .int (nI n), .int (nI ni), .int (nI no), .ref mk, .ref m0, .ref m1, .ref mi, .ref mo, .ref ml, .ref mf, .ref ma, .int (nI cl), .ref mfd, .ref mts, .int (nI tc), .ref mg, .ref mb]))]) hD hS hA [0] rfl
      refine va_calli (va_runV (As := [.int (nI 0)]) (rest := []) ⟨hx, hb, hml, hown, hts⟩ (c_X5_refuses l D cI cJ cZ qm mk m0 m1 mi mo ml mf ma mfd mts mg mb cd n ni no cl tc 0 s.heap.size _ rfl (by omega)) (cwV 1 hts gX5_count_X5_refuses rfl rfl rfl (by decide +kernel) ⟨Nat.le_of_ble_eq_true rfl, Nat.le_of_ble_eq_true rfl⟩) ⟨PW.blind, va_recv hK hPc (ci := 5) (q0 := 0) rfl rfl, fun U hU hW => ⟨rfl, PW.to hPc hK hNB hDc hU hW⟩⟩ rfl rfl hl.1 rfl (lv_room (Nat.le_of_ble_eq_true rfl)) dX5_count_15 ⟨Nat.le_of_ble_eq_true rfl, Nat.le_of_ble_eq_true rfl⟩) hS (fun q _ h => hFc q h) hFc (fun r_1 u_9 t_9 H1_9 locs ht_9 hvm_9 hw_9 hB_9 hz1_9 hk1_9 hS => ?_)
      obtain ⟨hP1_9, hD1_9⟩ := hB_9
      rw [ht_9] at hP1_9
      obtain rfl := hw_9
      obtain ⟨hP, hD⟩ := va_join (wr := []) (w1 := [(qm, .inr (5, [.int (nI 0), .int (nI n), .int (nI ni), .int (nI no), .ref mk, .ref m0, .ref m1, .ref mi, .ref mo, .ref ml, .ref mf, .ref ma, .int (nI cl), .ref mfd, .ref mts, .int (nI tc), .ref mg, .ref mb]))]) hP hD [0] [] rfl rfl (by decide) (by decide) hk1_9 hFc hP1_9 hD1_9
      generalize H1_9 = H at hP hS ⊢
      have hP : va_P D vwCl [(qm, .inr (5, [.int (nI 0), .int (nI n), .int (nI ni), .int (nI no), .ref mk, .ref m0, .ref m1, .ref mi, .ref mo, .ref ml, .ref mf, .ref ma, .int (nI cl), .ref mfd, .ref mts, .int (nI tc), .ref mg, .ref mb]))] H := hP
      have hD : va_D A [(qm, .inr (5, [.int (nI 0), .int (nI n), .int (nI ni), .int (nI no), .ref mk, .ref m0, .ref m1, .ref mi, .ref mo, .ref ml, .ref mf, .ref ma, .int (nI cl), .ref mfd, .ref mts, .int (nI tc), .ref mg, .ref mb]))] := hD
      refine lv_if_eq (tgt := 23) hx hb dX5_count_18 (by decide) (fun c_18 => ?_) (fun c_18 => ?_)
      · skip
        rw [zc_if0] at c_18
        refine lv_iconst (v := (nI 0)) hx hb dX5_count_23 (by decide) ?_
        refine lv_istore_n (lv' := [(2, .int (nI 0)), (0, .ref qm), (1, .int (nI 4))]) hx hb dX5_count_24 rfl hl (by decide) rfl (fun ls hl => ?_)
        refine lv_iconst (v := (nI 0)) hx hb dX5_count_25 (by decide) ?_
        refine lv_istore_n (lv' := [(3, .int (nI 0)), (2, .int (nI 0)), (0, .ref qm), (1, .int (nI 4))]) hx hb dX5_count_26 rfl hl (by decide) rfl (fun ls hl => ?_)
        have loop27 : ∀ (n27 : Nat) (k : Nat) (ac : Nat) (hk : k ≤ cl) (hac : ac = 0), cl - k < n27 → ∀ (H : Heap) (locs : List Loc), va_P D vwCl [(qm, .inr (5, [.int (nI 0), .int (nI n), .int (nI ni), .int (nI no), .ref mk, .ref m0, .ref m1, .ref mi, .ref mo, .ref ml, .ref mf, .ref ma, .int (nI cl), .ref mfd, .ref mts, .int (nI tc), .ref mg, .ref mb]))] H → va_D A [(qm, .inr (5, [.int (nI 0), .int (nI n), .int (nI ni), .int (nI no), .ref mk, .ref m0, .ref m1, .ref mi, .ref mo, .ref ml, .ref mf, .ref ma, .int (nI cl), .ref mfd, .ref mts, .int (nI tc), .ref mg, .ref mb]))] → va_S A s.heap H locs → ∀ (ls : Array Slot), lv_has ls 5 [(0, .ref qm), (1, .int (nI 4)), (2, .int (nI ac)), (3, .int (nI k))] → W p l e (headSpec wsX5_count ({ frames := 1, cells := 0, slots := 0, locals := 21 } : Room)).room s m ([.ref qm, .int (nI 4)] : List Value).toArray below meth c H locs 0 0 (MQ below (va_Qi (fun (r_9 : Int32) (_u9 : Unit) => r_9 = (nI tc)) (fun (_u9 : Unit) t => PQ D A [(qm, .inr (5, [.int (nI 0), .int (nI n), .int (nI ni), .int (nI no), .ref mk, .ref m0, .ref m1, .ref mi, .ref mo, .ref ml, .ref mf, .ref ma, .int (nI cl), .ref mfd, .ref mts, .int (nI tc), .ref mg, .ref mb]))] t) A) ([.ref qm, .int (nI 4)] : List Value).toArray s 0 0 A) (F0 m 27 ls []) := by
          intro n27
          induction n27 with
          | zero => intro k ac hk hac hm; exact absurd hm (Nat.not_lt_zero _)
          | succ n27 ih27 =>
            intro k ac hk hac hm27 H locs hP hD hS ls hl
            refine lv_iload_n hx hb dX5_count_27 rfl (lv_at hl 3 rfl) ?_
            refine lv_aload_n hx hb dX5_count_28 rfl (lv_at hl 0 rfl) ?_
            refine va_get (D := D) (ci := 5) (v := .int (nI cl)) (C := RX5) (T := TX5) (N := 18) hx hb hts hiX5 hown hK hP 0 rfl rfl 12 (by decide) (hts (.fieldLink RX5 94 "FaultSearchModel" "classes" "I") (by decide +kernel)) (fun _ h9 => h9) rfl dX5_count_29 ?_
            refine lv_icmp_ge (tgt := 94) hx hb dX5_count_32 (by decide) (fun c_32 => ?_) (fun c_32 => ?_)
            · skip
              rw [zc_le (by omega) (by omega)] at c_32
              refine lv_iload_n hx hb dX5_count_94 rfl (lv_at hl 1 rfl) ?_
              refine lv_if_ne (tgt := 105) hx hb dX5_count_95 (by decide) (fun c_95 => ?_) (fun c_95 => ?_)
              · skip
                refine lv_iload_n hx hb dX5_count_105 rfl (lv_at hl 1 rfl) ?_
                refine lv_iconst (v := (nI 1)) hx hb dX5_count_106 (by decide) ?_
                refine lv_icmp_ne (tgt := 117) hx hb dX5_count_107 (by decide) (fun c_107 => ?_) (fun c_107 => ?_)
                · skip
                  refine lv_iload_n hx hb dX5_count_117 rfl (lv_at hl 1 rfl) ?_
                  refine lv_iconst (v := (nI 2)) hx hb dX5_count_118 (by decide) ?_
                  refine lv_icmp_ne (tgt := 129) hx hb dX5_count_119 (by decide) (fun c_119 => ?_) (fun c_119 => ?_)
                  · skip
                    refine lv_iload_n hx hb dX5_count_129 rfl (lv_at hl 1 rfl) ?_
                    refine lv_iconst (v := (nI 4)) hx hb dX5_count_130 (by decide) ?_
                    refine lv_icmp_ne (tgt := 141) hx hb dX5_count_131 (by decide) (fun c_131 => ?_) (fun c_131 => ?_)
                    · skip
                      exact absurd c_131 (by decide)
                    · skip
                      refine lv_aload_n hx hb dX5_count_134 rfl (lv_at hl 0 rfl) ?_
                      refine va_get (D := D) (ci := 5) (v := .int (nI tc)) (C := RX5) (T := TX5) (N := 18) hx hb hts hiX5 hown hK hP 0 rfl rfl 15 (by decide) (hts (.fieldLink RX5 100 "FaultSearchModel" "testCount" "I") (by decide +kernel)) (fun _ h9 => h9) rfl dX5_count_135 ?_
                      refine lv_goto (tgt := 142) hx hb dX5_count_138 (by decide) ?_
                      exact W.iret (v := (nI tc)) hx hb hr (fun t_9 ht_9 hW_9 => ⟨⟨(nI tc), (), rfl, rfl, ⟨by rw [ht_9]; exact hP, hD⟩⟩, hS.F ht_9⟩) hS.2.2 dX5_count_142
                  · skip
                    exact absurd c_119 (by decide)
                · skip
                  exact absurd c_107 (by decide)
              · skip
                exact absurd c_95 (by decide)
            · skip
              rw [zc_le (by omega) (by omega)] at c_32
              refine lv_iload_n hx hb dX5_count_35 rfl (lv_at hl 1 rfl) ?_
              refine lv_iconst (v := (nI 3)) hx hb dX5_count_36 (by decide) ?_
              refine lv_icmp_ne (tgt := 49) hx hb dX5_count_37 (by decide) (fun c_37 => ?_) (fun c_37 => ?_)
              · skip
                refine lv_iload_n hx hb dX5_count_49 rfl (lv_at hl 1 rfl) ?_
                refine lv_iconst (v := (nI 5)) hx hb dX5_count_50 (by decide) ?_
                refine lv_icmp_ne (tgt := 72) hx hb dX5_count_51 (by decide) (fun c_51 => ?_) (fun c_51 => ?_)
                · skip
                  refine lv_iconst (v := (nI 0)) hx hb dX5_count_72 (by decide) ?_
                  refine lv_istore (lv' := [(4, .int (nI 0)), (0, .ref qm), (1, .int (nI 4)), (2, .int (nI ac)), (3, .int (nI k))]) hx hb dX5_count_73 hl (by decide) rfl (fun ls hl => ?_)
                  refine lv_iload_n hx hb dX5_count_75 rfl (lv_at hl 3 rfl) ?_
                  refine lv_iload hx hb dX5_count_76 (lv_at hl 0 rfl) ?_
                  refine lv_if_eq (tgt := 85) hx hb dX5_count_78 (by decide) (fun c_78 => ?_) (fun c_78 => ?_)
                  · skip
                    refine lv_iconst (v := (nI 0)) hx hb dX5_count_85 (by decide) ?_
                    refine lv_iadd hx hb dX5_count_86 ?_
                    refine zz_i (z := (nI (ac + 0))) (nI_add _ _) ?_
                    refine lv_istore_n (lv' := [(2, .int (nI (ac + 0))), (4, .int (nI 0)), (0, .ref qm), (1, .int (nI 4)), (3, .int (nI k))]) hx hb dX5_count_87 rfl hl (by decide) rfl (fun ls hl => ?_)
                    refine lv_iinc (v := (nI (k + 1))) (lv' := [(3, .int (nI (k + 1))), (2, .int (nI (ac + 0))), (4, .int (nI 0)), (0, .ref qm), (1, .int (nI 4))]) hx hb dX5_count_88 hl (k := 4) rfl (nI_add _ 1) (by decide) rfl (fun ls hl => ?_)
                    refine lv_goto (tgt := 27) hx hb dX5_count_91 (by decide) ?_
                    exact ih27 (k + 1) (ac + 0) (by omega) (by omega) (by omega) _ _ hP hD hS ls (lv_sub hl [3, 4, 1, 0] rfl)
                  · skip
                    exact absurd (by decide) c_78
                · skip
                  exact absurd c_51 (by decide)
              · skip
                exact absurd c_37 (by decide)
        exact loop27 ((cl - 0) + 1) 0 0 (Nat.zero_le _) rfl (Nat.lt_succ_self _) _ _ hP hD hS ls (lv_sub hl [2, 3, 1, 0] rfl)
      · skip
        rw [zc_if0] at c_18
        have c_18 := Classical.not_not.mp c_18
        exact absurd c_18 (by decide)
    · skip
      exact absurd (by decide) c_7

set_option maxHeartbeats 4000000 in
set_option maxRecDepth 100000 in
theorem c_X5_count_5 (l : Launch) (D : va_G) (cI cJ cZ : ClassId) (qm : Nat) (mk : Nat) (m0 : Nat) (m1 : Nat) (mi : Nat) (mo : Nat) (ml : Nat) (mf : Nat) (ma : Nat) (mfd : Nat) (mts : Nat) (mg : Nat) (mb : Nat) (cd : Int32) (n : Nat) (ni : Nat) (no : Nat) (cl : Nat) (tc : Nat) (kd : Nat → Int32) (s0 : Nat → Int32) (s1 : Nat → Int32) (io : Nat → Int32) (on : Nat → Int32) (cf : Nat → Int32) (gd : Nat → Int64) (bd : Nat → Int64) (vl : Nat → Int64) (sz : Nat) (A : Nat → Prop) (hAe : A = va_A [(qm, .inr (5, [.int cd, .int (nI n), .int (nI ni), .int (nI no), .ref mk, .ref m0, .ref m1, .ref mi, .ref mo, .ref ml, .ref mf, .ref ma, .int (nI cl), .ref mfd, .ref mts, .int (nI tc), .ref mg, .ref mb])), (mk, .inl (cI, 100, .inl kd)), (m0, .inl (cI, 100, .inl s0)), (m1, .inl (cI, 100, .inl s1)), (mi, .inl (cI, 100, .inl io)), (mo, .inl (cI, 12, .inl on)), (mf, .inl (cI, 600, .inl cf)), (mg, .inl (cJ, 100, .inr (.inl gd))), (mb, .inl (cJ, 100, .inr (.inl bd)))] sz) (hn : n ≤ 100) (hno : no ≤ 12) (hwf : WF n kd s0 s1) (hwo : WO n no on) (hkd : KD n kd) (hio : IOK n kd io) (hV : VOK n kd s0 s1 io vl) (hni : ni ≤ 10) (hcl : cl ≤ 600) (hcf : CFOK n kd cl cf) : Met l yX5_count wsX5_count ({ frames := 4, cells := 0, slots := 0, locals := 104 } : Room) (va_Pc [.ref qm, .int (nI 5)] (PW D cI cJ cZ [(qm, .inr (5, [.int cd, .int (nI n), .int (nI ni), .int (nI no), .ref mk, .ref m0, .ref m1, .ref mi, .ref mo, .ref ml, .ref mf, .ref ma, .int (nI cl), .ref mfd, .ref mts, .int (nI tc), .ref mg, .ref mb])), (mk, .inl (cI, 100, .inl kd)), (m0, .inl (cI, 100, .inl s0)), (m1, .inl (cI, 100, .inl s1)), (mi, .inl (cI, 100, .inl io)), (mo, .inl (cI, 12, .inl on)), (mf, .inl (cI, 600, .inl cf)), (mg, .inl (cJ, 100, .inr (.inl gd))), (mb, .inl (cJ, 100, .inr (.inl bd)))] sz)) (va_Qi (fun (r_9 : Int32) (u9 : (Nat → Int64) × (Nat → Int64)) => match u9 with | (gd2, bd2) => r_9 = (nI (cntF (fun k => decide ((fun k => leastF (fun w => shw kd s0 s1 on vl n ni no (cn (cf k)) w) (wordsN ni) 0) k = (-1))) cl))) (fun (u9 : (Nat → Int64) × (Nat → Int64)) t => match u9 with | (gd2, bd2) => PQ D A [(qm, .inr (5, [.int (nI 0), .int (nI n), .int (nI ni), .int (nI no), .ref mk, .ref m0, .ref m1, .ref mi, .ref mo, .ref ml, .ref mf, .ref ma, .int (nI cl), .ref mfd, .ref mts, .int (nI tc), .ref mg, .ref mb])), (mk, .inl (cI, 100, .inl kd)), (m0, .inl (cI, 100, .inl s0)), (m1, .inl (cI, 100, .inl s1)), (mi, .inl (cI, 100, .inl io)), (mo, .inl (cI, 12, .inl on)), (mf, .inl (cI, 600, .inl cf)), (mg, .inl (cJ, 100, .inr (.inl gd2))), (mb, .inl (cJ, 100, .inr (.inl bd2)))] t) A) 0 0 A := by
  refine Met.ofW (cc := cX5_count) (maxL := 5) (ret := (some .int)) (by decide) rfl ?_
  intro p e s m args below meth c s₁ B hml hv
  obtain ⟨rfl, hsz, ⟨hP, hK, hNB⟩, hD0⟩ := hv
  have hx := B.exec
  have hb := B.bytes
  have hr := B.returns
  have hts := atoms_spec (ws := wsX5_count) B.pre
  have hown : s.vm.findClass RX5 = some m.cls := findClass_of_methodNamed B.named
  have hlocks := B.notSynchronized
  have hiX5 : ∀ w ∈ u_ws RX5 TX5 18, w ∈ wsX5_count := by decide +kernel
  subst hsz
  have hD : va_D A [(qm, .inr (5, [.int cd, .int (nI n), .int (nI ni), .int (nI no), .ref mk, .ref m0, .ref m1, .ref mi, .ref mo, .ref ml, .ref mf, .ref ma, .int (nI cl), .ref mfd, .ref mts, .int (nI tc), .ref mg, .ref mb])), (mk, .inl (cI, 100, .inl kd)), (m0, .inl (cI, 100, .inl s0)), (m1, .inl (cI, 100, .inl s1)), (mi, .inl (cI, 100, .inl io)), (mo, .inl (cI, 12, .inl on)), (mf, .inl (cI, 600, .inl cf)), (mg, .inl (cJ, 100, .inr (.inl gd))), (mb, .inl (cJ, 100, .inr (.inl bd)))] := by rw [hAe]; exact hD0.self
  have hA : ∀ q : Nat, s.heap.size ≤ q → A q := fun q h => by rw [hAe]; exact Or.inr h
  have hS : va_S A s.heap s.heap [] := va_S.rf
  have hl := lv_entry ([.ref qm, .int (nI 5)]) (n := 5) (Nat.le_of_ble_eq_true rfl)
  rw [lg_entry_eq]
  generalize (lg_sl ([.ref qm, .int (nI 5)]) ++ List.replicate (5 - (lg_sl ([.ref qm, .int (nI 5)])).length) Slot.unset).toArray = ls at hl ⊢
  have hl : lv_has ls 5 [(0, .ref qm), (1, .int (nI 5))] := hl
  refine lv_aload_n hx hb dX5_count_0 rfl (lv_at hl 0 rfl) ?_
  refine lv_iload_n hx hb dX5_count_1 rfl (lv_at hl 1 rfl) ?_
  refine lv_if_lt (tgt := 10) hx hb dX5_count_2 (by decide) (fun c_2 => ?_) (fun c_2 => ?_)
  · skip
    exact absurd c_2 (by decide)
  · skip
    refine lv_iload_n hx hb dX5_count_5 rfl (lv_at hl 1 rfl) ?_
    refine lv_iconst (v := (nI 5)) hx hb dX5_count_6 (by decide) ?_
    refine lv_icmp_le (tgt := 14) hx hb dX5_count_7 (by decide) (fun c_7 => ?_) (fun c_7 => ?_)
    · skip
      refine lv_iconst (v := (nI 0)) hx hb dX5_count_14 (by decide) ?_
      have hPc := hP.sub (ws' := [(qm, .inr (5, [.int cd, .int (nI n), .int (nI ni), .int (nI no), .ref mk, .ref m0, .ref m1, .ref mi, .ref mo, .ref ml, .ref mf, .ref ma, .int (nI cl), .ref mfd, .ref mts, .int (nI tc), .ref mg, .ref mb]))]) [0] rfl
      have hDc := hD.sub (ws' := [(qm, .inr (5, [.int cd, .int (nI n), .int (nI ni), .int (nI no), .ref mk, .ref m0, .ref m1, .ref mi, .ref mo, .ref ml, .ref mf, .ref ma, .int (nI cl), .ref mfd, .ref mts, .int (nI tc), .ref mg, .ref mb]))]) [0] (by decide) rfl
      have hFc := va_free (wc := [(qm, .inr (5, [.int cd, .int (nI n), .int (nI ni), .int (nI no), .ref mk, .ref m0, .ref m1, .ref mi, .ref mo, .ref ml, .ref mf, .ref ma, .int (nI cl), .ref mfd, .ref mts, .int (nI tc), .ref mg, .ref mb]))]) hD hS hA [0] rfl
      refine va_calli (va_runV (As := [.int (nI 0)]) (rest := []) ⟨hx, hb, hml, hown, hts⟩ (c_X5_refuses l D cI cJ cZ qm mk m0 m1 mi mo ml mf ma mfd mts mg mb cd n ni no cl tc 0 s.heap.size _ rfl (by omega)) (cwV 1 hts gX5_count_X5_refuses rfl rfl rfl (by decide +kernel) ⟨Nat.le_of_ble_eq_true rfl, Nat.le_of_ble_eq_true rfl⟩) ⟨PW.blind, va_recv hK hPc (ci := 5) (q0 := 0) rfl rfl, fun U hU hW => ⟨rfl, PW.to hPc hK hNB hDc hU hW⟩⟩ rfl rfl hl.1 rfl (lv_room (Nat.le_of_ble_eq_true rfl)) dX5_count_15 ⟨Nat.le_of_ble_eq_true rfl, Nat.le_of_ble_eq_true rfl⟩) hS (fun q _ h => hFc q h) hFc (fun r_1 u_9 t_9 H1_9 locs ht_9 hvm_9 hw_9 hB_9 hz1_9 hk1_9 hS => ?_)
      obtain ⟨hP1_9, hD1_9⟩ := hB_9
      rw [ht_9] at hP1_9
      obtain rfl := hw_9
      obtain ⟨hP, hD⟩ := va_join (wr := [(mk, .inl (cI, 100, .inl kd)), (m0, .inl (cI, 100, .inl s0)), (m1, .inl (cI, 100, .inl s1)), (mi, .inl (cI, 100, .inl io)), (mo, .inl (cI, 12, .inl on)), (mf, .inl (cI, 600, .inl cf)), (mg, .inl (cJ, 100, .inr (.inl gd))), (mb, .inl (cJ, 100, .inr (.inl bd)))]) (w1 := [(qm, .inr (5, [.int (nI 0), .int (nI n), .int (nI ni), .int (nI no), .ref mk, .ref m0, .ref m1, .ref mi, .ref mo, .ref ml, .ref mf, .ref ma, .int (nI cl), .ref mfd, .ref mts, .int (nI tc), .ref mg, .ref mb]))]) hP hD [0] [1, 2, 3, 4, 5, 6, 7, 8] rfl rfl (by decide) (by decide) hk1_9 hFc hP1_9 hD1_9
      have hP := hP.sub (ws' := [(qm, .inr (5, [.int (nI 0), .int (nI n), .int (nI ni), .int (nI no), .ref mk, .ref m0, .ref m1, .ref mi, .ref mo, .ref ml, .ref mf, .ref ma, .int (nI cl), .ref mfd, .ref mts, .int (nI tc), .ref mg, .ref mb])), (mk, .inl (cI, 100, .inl kd)), (m0, .inl (cI, 100, .inl s0)), (m1, .inl (cI, 100, .inl s1)), (mi, .inl (cI, 100, .inl io)), (mo, .inl (cI, 12, .inl on)), (mf, .inl (cI, 600, .inl cf)), (mg, .inl (cJ, 100, .inr (.inl gd))), (mb, .inl (cJ, 100, .inr (.inl bd)))]) [8, 0, 1, 2, 3, 4, 5, 6, 7] rfl
      have hD := hD.sub (ws' := [(qm, .inr (5, [.int (nI 0), .int (nI n), .int (nI ni), .int (nI no), .ref mk, .ref m0, .ref m1, .ref mi, .ref mo, .ref ml, .ref mf, .ref ma, .int (nI cl), .ref mfd, .ref mts, .int (nI tc), .ref mg, .ref mb])), (mk, .inl (cI, 100, .inl kd)), (m0, .inl (cI, 100, .inl s0)), (m1, .inl (cI, 100, .inl s1)), (mi, .inl (cI, 100, .inl io)), (mo, .inl (cI, 12, .inl on)), (mf, .inl (cI, 600, .inl cf)), (mg, .inl (cJ, 100, .inr (.inl gd))), (mb, .inl (cJ, 100, .inr (.inl bd)))]) [8, 0, 1, 2, 3, 4, 5, 6, 7] (by decide) rfl
      generalize H1_9 = H at hP hS ⊢
      have hP : va_P D vwCl [(qm, .inr (5, [.int (nI 0), .int (nI n), .int (nI ni), .int (nI no), .ref mk, .ref m0, .ref m1, .ref mi, .ref mo, .ref ml, .ref mf, .ref ma, .int (nI cl), .ref mfd, .ref mts, .int (nI tc), .ref mg, .ref mb])), (mk, .inl (cI, 100, .inl kd)), (m0, .inl (cI, 100, .inl s0)), (m1, .inl (cI, 100, .inl s1)), (mi, .inl (cI, 100, .inl io)), (mo, .inl (cI, 12, .inl on)), (mf, .inl (cI, 600, .inl cf)), (mg, .inl (cJ, 100, .inr (.inl gd))), (mb, .inl (cJ, 100, .inr (.inl bd)))] H := hP
      have hD : va_D A [(qm, .inr (5, [.int (nI 0), .int (nI n), .int (nI ni), .int (nI no), .ref mk, .ref m0, .ref m1, .ref mi, .ref mo, .ref ml, .ref mf, .ref ma, .int (nI cl), .ref mfd, .ref mts, .int (nI tc), .ref mg, .ref mb])), (mk, .inl (cI, 100, .inl kd)), (m0, .inl (cI, 100, .inl s0)), (m1, .inl (cI, 100, .inl s1)), (mi, .inl (cI, 100, .inl io)), (mo, .inl (cI, 12, .inl on)), (mf, .inl (cI, 600, .inl cf)), (mg, .inl (cJ, 100, .inr (.inl gd))), (mb, .inl (cJ, 100, .inr (.inl bd)))] := hD
      refine lv_if_eq (tgt := 23) hx hb dX5_count_18 (by decide) (fun c_18 => ?_) (fun c_18 => ?_)
      · skip
        rw [zc_if0] at c_18
        refine lv_iconst (v := (nI 0)) hx hb dX5_count_23 (by decide) ?_
        refine lv_istore_n (lv' := [(2, .int (nI 0)), (0, .ref qm), (1, .int (nI 5))]) hx hb dX5_count_24 rfl hl (by decide) rfl (fun ls hl => ?_)
        refine lv_iconst (v := (nI 0)) hx hb dX5_count_25 (by decide) ?_
        refine lv_istore_n (lv' := [(3, .int (nI 0)), (2, .int (nI 0)), (0, .ref qm), (1, .int (nI 5))]) hx hb dX5_count_26 rfl hl (by decide) rfl (fun ls hl => ?_)
        have loop27 : ∀ (n27 : Nat) (k : Nat) (ac : Nat) (g1 : Nat → Int64) (b1 : Nat → Int64) (hk : k ≤ cl) (hac : ac = cntF (fun k => decide ((fun k => leastF (fun w => shw kd s0 s1 on vl n ni no (cn (cf k)) w) (wordsN ni) 0) k = (-1))) k), cl - k < n27 → ∀ (H : Heap) (locs : List Loc), va_P D vwCl [(qm, .inr (5, [.int (nI 0), .int (nI n), .int (nI ni), .int (nI no), .ref mk, .ref m0, .ref m1, .ref mi, .ref mo, .ref ml, .ref mf, .ref ma, .int (nI cl), .ref mfd, .ref mts, .int (nI tc), .ref mg, .ref mb])), (mk, .inl (cI, 100, .inl kd)), (m0, .inl (cI, 100, .inl s0)), (m1, .inl (cI, 100, .inl s1)), (mi, .inl (cI, 100, .inl io)), (mo, .inl (cI, 12, .inl on)), (mf, .inl (cI, 600, .inl cf)), (mg, .inl (cJ, 100, .inr (.inl g1))), (mb, .inl (cJ, 100, .inr (.inl b1)))] H → va_D A [(qm, .inr (5, [.int (nI 0), .int (nI n), .int (nI ni), .int (nI no), .ref mk, .ref m0, .ref m1, .ref mi, .ref mo, .ref ml, .ref mf, .ref ma, .int (nI cl), .ref mfd, .ref mts, .int (nI tc), .ref mg, .ref mb])), (mk, .inl (cI, 100, .inl kd)), (m0, .inl (cI, 100, .inl s0)), (m1, .inl (cI, 100, .inl s1)), (mi, .inl (cI, 100, .inl io)), (mo, .inl (cI, 12, .inl on)), (mf, .inl (cI, 600, .inl cf)), (mg, .inl (cJ, 100, .inr (.inl g1))), (mb, .inl (cJ, 100, .inr (.inl b1)))] → va_S A s.heap H locs → ∀ (ls : Array Slot), lv_has ls 5 [(0, .ref qm), (1, .int (nI 5)), (2, .int (nI ac)), (3, .int (nI k))] → W p l e (headSpec wsX5_count ({ frames := 4, cells := 0, slots := 0, locals := 104 } : Room)).room s m ([.ref qm, .int (nI 5)] : List Value).toArray below meth c H locs 0 0 (MQ below (va_Qi (fun (r_9 : Int32) (u9 : (Nat → Int64) × (Nat → Int64)) => match u9 with | (gd2, bd2) => r_9 = (nI (cntF (fun k => decide ((fun k => leastF (fun w => shw kd s0 s1 on vl n ni no (cn (cf k)) w) (wordsN ni) 0) k = (-1))) cl))) (fun (u9 : (Nat → Int64) × (Nat → Int64)) t => match u9 with | (gd2, bd2) => PQ D A [(qm, .inr (5, [.int (nI 0), .int (nI n), .int (nI ni), .int (nI no), .ref mk, .ref m0, .ref m1, .ref mi, .ref mo, .ref ml, .ref mf, .ref ma, .int (nI cl), .ref mfd, .ref mts, .int (nI tc), .ref mg, .ref mb])), (mk, .inl (cI, 100, .inl kd)), (m0, .inl (cI, 100, .inl s0)), (m1, .inl (cI, 100, .inl s1)), (mi, .inl (cI, 100, .inl io)), (mo, .inl (cI, 12, .inl on)), (mf, .inl (cI, 600, .inl cf)), (mg, .inl (cJ, 100, .inr (.inl gd2))), (mb, .inl (cJ, 100, .inr (.inl bd2)))] t) A) ([.ref qm, .int (nI 5)] : List Value).toArray s 0 0 A) (F0 m 27 ls []) := by
          intro n27
          induction n27 with
          | zero => intro k ac g1 b1 hk hac hm; exact absurd hm (Nat.not_lt_zero _)
          | succ n27 ih27 =>
            intro k ac g1 b1 hk hac hm27 H locs hP hD hS ls hl
            refine lv_iload_n hx hb dX5_count_27 rfl (lv_at hl 3 rfl) ?_
            refine lv_aload_n hx hb dX5_count_28 rfl (lv_at hl 0 rfl) ?_
            refine va_get (D := D) (ci := 5) (v := .int (nI cl)) (C := RX5) (T := TX5) (N := 18) hx hb hts hiX5 hown hK hP 0 rfl rfl 12 (by decide) (hts (.fieldLink RX5 94 "FaultSearchModel" "classes" "I") (by decide +kernel)) (fun _ h9 => h9) rfl dX5_count_29 ?_
            refine lv_icmp_ge (tgt := 94) hx hb dX5_count_32 (by decide) (fun c_32 => ?_) (fun c_32 => ?_)
            · skip
              rw [zc_le (by omega) (by omega)] at c_32
              refine lv_iload_n hx hb dX5_count_94 rfl (lv_at hl 1 rfl) ?_
              refine lv_if_ne (tgt := 105) hx hb dX5_count_95 (by decide) (fun c_95 => ?_) (fun c_95 => ?_)
              · skip
                refine lv_iload_n hx hb dX5_count_105 rfl (lv_at hl 1 rfl) ?_
                refine lv_iconst (v := (nI 1)) hx hb dX5_count_106 (by decide) ?_
                refine lv_icmp_ne (tgt := 117) hx hb dX5_count_107 (by decide) (fun c_107 => ?_) (fun c_107 => ?_)
                · skip
                  refine lv_iload_n hx hb dX5_count_117 rfl (lv_at hl 1 rfl) ?_
                  refine lv_iconst (v := (nI 2)) hx hb dX5_count_118 (by decide) ?_
                  refine lv_icmp_ne (tgt := 129) hx hb dX5_count_119 (by decide) (fun c_119 => ?_) (fun c_119 => ?_)
                  · skip
                    refine lv_iload_n hx hb dX5_count_129 rfl (lv_at hl 1 rfl) ?_
                    refine lv_iconst (v := (nI 4)) hx hb dX5_count_130 (by decide) ?_
                    refine lv_icmp_ne (tgt := 141) hx hb dX5_count_131 (by decide) (fun c_131 => ?_) (fun c_131 => ?_)
                    · skip
                      refine lv_iload_n hx hb dX5_count_141 rfl (lv_at hl 2 rfl) ?_
                      exact W.iret (v := (nI ac)) hx hb hr (fun t_9 ht_9 hW_9 => ⟨⟨(nI ac), (g1, b1), rfl, (show (nI ac) = (nI (cntF (fun k => decide ((fun k => leastF (fun w => shw kd s0 s1 on vl n ni no (cn (cf k)) w) (wordsN ni) 0) k = (-1))) cl)) from (by rw [hac, show k = cl by omega])), ⟨by rw [ht_9]; exact hP, hD⟩⟩, hS.F ht_9⟩) hS.2.2 dX5_count_142
                    · skip
                      exact absurd c_131 (by decide)
                  · skip
                    exact absurd c_119 (by decide)
                · skip
                  exact absurd c_107 (by decide)
              · skip
                exact absurd c_95 (by decide)
            · skip
              rw [zc_le (by omega) (by omega)] at c_32
              refine lv_iload_n hx hb dX5_count_35 rfl (lv_at hl 1 rfl) ?_
              refine lv_iconst (v := (nI 3)) hx hb dX5_count_36 (by decide) ?_
              refine lv_icmp_ne (tgt := 49) hx hb dX5_count_37 (by decide) (fun c_37 => ?_) (fun c_37 => ?_)
              · skip
                refine lv_iload_n hx hb dX5_count_49 rfl (lv_at hl 1 rfl) ?_
                refine lv_iconst (v := (nI 5)) hx hb dX5_count_50 (by decide) ?_
                refine lv_icmp_ne (tgt := 72) hx hb dX5_count_51 (by decide) (fun c_51 => ?_) (fun c_51 => ?_)
                · skip
                  exact absurd c_51 (by decide)
                · skip
                  refine lv_aload_n hx hb dX5_count_54 rfl (lv_at hl 0 rfl) ?_
                  refine lv_aload_n hx hb dX5_count_55 rfl (lv_at hl 0 rfl) ?_
                  refine va_get (D := D) (ci := 5) (v := .ref mf) (C := RX5) (T := TX5) (N := 18) hx hb hts hiX5 hown hK hP 0 rfl rfl 10 (by decide) (hts (.fieldLink RX5 28 "FaultSearchModel" "classFirst" "[I") (by decide +kernel)) (fun _ h9 => h9) rfl dX5_count_56 ?_
                  refine lv_iload_n hx hb dX5_count_59 rfl (lv_at hl 3 rfl) ?_
                  refine zz_iald hx hb hK hP 6 0 rfl rfl (n := 600) (j := k) (by omega) (by decide) dX5_count_60 ?_
                  refine zz_i (z := (nI (cn (cf k)))) (hcf k (by omega)).1 ?_
                  have hPc := hP.sub (ws' := [(qm, .inr (5, [.int (nI 0), .int (nI n), .int (nI ni), .int (nI no), .ref mk, .ref m0, .ref m1, .ref mi, .ref mo, .ref ml, .ref mf, .ref ma, .int (nI cl), .ref mfd, .ref mts, .int (nI tc), .ref mg, .ref mb])), (mk, .inl (cI, 100, .inl kd)), (m0, .inl (cI, 100, .inl s0)), (m1, .inl (cI, 100, .inl s1)), (mi, .inl (cI, 100, .inl io)), (mo, .inl (cI, 12, .inl on)), (mg, .inl (cJ, 100, .inr (.inl g1))), (mb, .inl (cJ, 100, .inr (.inl b1)))]) [0, 1, 2, 3, 4, 5, 7, 8] rfl
                  have hDc := hD.sub (ws' := [(qm, .inr (5, [.int (nI 0), .int (nI n), .int (nI ni), .int (nI no), .ref mk, .ref m0, .ref m1, .ref mi, .ref mo, .ref ml, .ref mf, .ref ma, .int (nI cl), .ref mfd, .ref mts, .int (nI tc), .ref mg, .ref mb])), (mk, .inl (cI, 100, .inl kd)), (m0, .inl (cI, 100, .inl s0)), (m1, .inl (cI, 100, .inl s1)), (mi, .inl (cI, 100, .inl io)), (mo, .inl (cI, 12, .inl on)), (mg, .inl (cJ, 100, .inr (.inl g1))), (mb, .inl (cJ, 100, .inr (.inl b1)))]) [0, 1, 2, 3, 4, 5, 7, 8] (by decide) rfl
                  have hFc := va_free (wc := [(qm, .inr (5, [.int (nI 0), .int (nI n), .int (nI ni), .int (nI no), .ref mk, .ref m0, .ref m1, .ref mi, .ref mo, .ref ml, .ref mf, .ref ma, .int (nI cl), .ref mfd, .ref mts, .int (nI tc), .ref mg, .ref mb])), (mk, .inl (cI, 100, .inl kd)), (m0, .inl (cI, 100, .inl s0)), (m1, .inl (cI, 100, .inl s1)), (mi, .inl (cI, 100, .inl io)), (mo, .inl (cI, 12, .inl on)), (mg, .inl (cJ, 100, .inr (.inl g1))), (mb, .inl (cJ, 100, .inr (.inl b1)))]) hD hS hA [0, 1, 2, 3, 4, 5, 7, 8] rfl
                  refine va_calli (va_runV (As := [.int (nI (cn (cf k)))]) (rest := []) ⟨hx, hb, hml, hown, hts⟩ (c_X5_testOf l D cI cJ cZ qm mk m0 m1 mi mo ml mf ma mfd mts mg mb (nI 0) n ni no cl tc kd s0 s1 io on g1 b1 vl (cn (cf k)) H.size _ rfl (by omega) (by omega) hwf hwo hkd hio hV (by omega) (hcf k (by omega)).2.1 (hcf k (by omega)).2.2.1) (cwV 1 hts gX5_count_X5_testOf rfl rfl rfl (by decide +kernel) ⟨Nat.le_of_ble_eq_true rfl, Nat.le_of_ble_eq_true rfl⟩) ⟨PW.blind, va_recv hK hPc (ci := 5) (q0 := 0) rfl rfl, fun U hU hW => ⟨rfl, PW.to hPc hK hNB hDc hU hW⟩⟩ rfl rfl hl.1 rfl (lv_room (Nat.le_of_ble_eq_true rfl)) dX5_count_61 ⟨Nat.le_of_ble_eq_true rfl, Nat.le_of_ble_eq_true rfl⟩) hS (fun q _ h => hFc q h) hFc (fun r_2 u_9 t_9 H1_9 locs ht_9 hvm_9 hw_9 hB_9 hz1_9 hk1_9 hS => ?_)
                  obtain ⟨gd2_3, bd2_4⟩ := u_9
                  obtain ⟨hP1_9, hD1_9⟩ := hB_9
                  rw [ht_9] at hP1_9
                  obtain rfl := hw_9
                  obtain ⟨hP, hD⟩ := va_join (wr := [(mf, .inl (cI, 600, .inl cf))]) (w1 := [(qm, .inr (5, [.int (nI 0), .int (nI n), .int (nI ni), .int (nI no), .ref mk, .ref m0, .ref m1, .ref mi, .ref mo, .ref ml, .ref mf, .ref ma, .int (nI cl), .ref mfd, .ref mts, .int (nI tc), .ref mg, .ref mb])), (mk, .inl (cI, 100, .inl kd)), (m0, .inl (cI, 100, .inl s0)), (m1, .inl (cI, 100, .inl s1)), (mi, .inl (cI, 100, .inl io)), (mo, .inl (cI, 12, .inl on)), (mg, .inl (cJ, 100, .inr (.inl gd2_3))), (mb, .inl (cJ, 100, .inr (.inl bd2_4)))]) hP hD [0, 1, 2, 3, 4, 5, 7, 8] [6] rfl rfl (by decide) (by decide) hk1_9 hFc hP1_9 hD1_9
                  have hP := hP.sub (ws' := [(qm, .inr (5, [.int (nI 0), .int (nI n), .int (nI ni), .int (nI no), .ref mk, .ref m0, .ref m1, .ref mi, .ref mo, .ref ml, .ref mf, .ref ma, .int (nI cl), .ref mfd, .ref mts, .int (nI tc), .ref mg, .ref mb])), (mk, .inl (cI, 100, .inl kd)), (m0, .inl (cI, 100, .inl s0)), (m1, .inl (cI, 100, .inl s1)), (mi, .inl (cI, 100, .inl io)), (mo, .inl (cI, 12, .inl on)), (mf, .inl (cI, 600, .inl cf)), (mg, .inl (cJ, 100, .inr (.inl gd2_3))), (mb, .inl (cJ, 100, .inr (.inl bd2_4)))]) [1, 2, 3, 4, 5, 6, 0, 7, 8] rfl
                  have hD := hD.sub (ws' := [(qm, .inr (5, [.int (nI 0), .int (nI n), .int (nI ni), .int (nI no), .ref mk, .ref m0, .ref m1, .ref mi, .ref mo, .ref ml, .ref mf, .ref ma, .int (nI cl), .ref mfd, .ref mts, .int (nI tc), .ref mg, .ref mb])), (mk, .inl (cI, 100, .inl kd)), (m0, .inl (cI, 100, .inl s0)), (m1, .inl (cI, 100, .inl s1)), (mi, .inl (cI, 100, .inl io)), (mo, .inl (cI, 12, .inl on)), (mf, .inl (cI, 600, .inl cf)), (mg, .inl (cJ, 100, .inr (.inl gd2_3))), (mb, .inl (cJ, 100, .inr (.inl bd2_4)))]) [1, 2, 3, 4, 5, 6, 0, 7, 8] (by decide) rfl
                  generalize H1_9 = H at hP hS ⊢
                  have hP : va_P D vwCl [(qm, .inr (5, [.int (nI 0), .int (nI n), .int (nI ni), .int (nI no), .ref mk, .ref m0, .ref m1, .ref mi, .ref mo, .ref ml, .ref mf, .ref ma, .int (nI cl), .ref mfd, .ref mts, .int (nI tc), .ref mg, .ref mb])), (mk, .inl (cI, 100, .inl kd)), (m0, .inl (cI, 100, .inl s0)), (m1, .inl (cI, 100, .inl s1)), (mi, .inl (cI, 100, .inl io)), (mo, .inl (cI, 12, .inl on)), (mf, .inl (cI, 600, .inl cf)), (mg, .inl (cJ, 100, .inr (.inl gd2_3))), (mb, .inl (cJ, 100, .inr (.inl bd2_4)))] H := hP
                  have hD : va_D A [(qm, .inr (5, [.int (nI 0), .int (nI n), .int (nI ni), .int (nI no), .ref mk, .ref m0, .ref m1, .ref mi, .ref mo, .ref ml, .ref mf, .ref ma, .int (nI cl), .ref mfd, .ref mts, .int (nI tc), .ref mg, .ref mb])), (mk, .inl (cI, 100, .inl kd)), (m0, .inl (cI, 100, .inl s0)), (m1, .inl (cI, 100, .inl s1)), (mi, .inl (cI, 100, .inl io)), (mo, .inl (cI, 12, .inl on)), (mf, .inl (cI, 600, .inl cf)), (mg, .inl (cJ, 100, .inr (.inl gd2_3))), (mb, .inl (cJ, 100, .inr (.inl bd2_4)))] := hD
                  refine lv_iconst (v := (-1)) hx hb dX5_count_64 (by decide) ?_
                  refine lv_icmp_ne (tgt := 72) hx hb dX5_count_65 (by decide) (fun c_65 => ?_) (fun c_65 => ?_)
                  · skip
                    refine lv_iconst (v := (nI 0)) hx hb dX5_count_72 (by decide) ?_
                    refine lv_istore (lv' := [(4, .int (nI 0)), (0, .ref qm), (1, .int (nI 5)), (2, .int (nI ac)), (3, .int (nI k))]) hx hb dX5_count_73 hl (by decide) rfl (fun ls hl => ?_)
                    refine lv_iload_n hx hb dX5_count_75 rfl (lv_at hl 3 rfl) ?_
                    refine lv_iload hx hb dX5_count_76 (lv_at hl 0 rfl) ?_
                    refine lv_if_eq (tgt := 85) hx hb dX5_count_78 (by decide) (fun c_78 => ?_) (fun c_78 => ?_)
                    · skip
                      refine lv_iconst (v := (nI 0)) hx hb dX5_count_85 (by decide) ?_
                      refine lv_iadd hx hb dX5_count_86 ?_
                      refine zz_i (z := (nI (ac + 0))) (nI_add _ _) ?_
                      refine lv_istore_n (lv' := [(2, .int (nI (ac + 0))), (4, .int (nI 0)), (0, .ref qm), (1, .int (nI 5)), (3, .int (nI k))]) hx hb dX5_count_87 rfl hl (by decide) rfl (fun ls hl => ?_)
                      refine lv_iinc (v := (nI (k + 1))) (lv' := [(3, .int (nI (k + 1))), (2, .int (nI (ac + 0))), (4, .int (nI 0)), (0, .ref qm), (1, .int (nI 5))]) hx hb dX5_count_88 hl (k := 4) rfl (nI_add _ 1) (by decide) rfl (fun ls hl => ?_)
                      refine lv_goto (tgt := 27) hx hb dX5_count_91 (by decide) ?_
                      exact ih27 (k + 1) (ac + 0) gd2_3 bd2_4 (by omega) (by rw [cntF_s, ← hac]; first | (rw [if_pos (decide_eq_true c_65)]) | (rw [if_neg (by simpa using c_65)])) (by omega) _ _ hP hD hS ls (lv_sub hl [3, 4, 1, 0] rfl)
                    · skip
                      exact absurd (by decide) c_78
                  · skip
                    refine lv_iconst (v := (nI 1)) hx hb dX5_count_68 (by decide) ?_
                    refine lv_goto (tgt := 73) hx hb dX5_count_69 (by decide) ?_
                    refine lv_istore (lv' := [(4, .int (nI 1)), (0, .ref qm), (1, .int (nI 5)), (2, .int (nI ac)), (3, .int (nI k))]) hx hb dX5_count_73 hl (by decide) rfl (fun ls hl => ?_)
                    refine lv_iload_n hx hb dX5_count_75 rfl (lv_at hl 3 rfl) ?_
                    refine lv_iload hx hb dX5_count_76 (lv_at hl 0 rfl) ?_
                    refine lv_if_eq (tgt := 85) hx hb dX5_count_78 (by decide) (fun c_78 => ?_) (fun c_78 => ?_)
                    · skip
                      exact absurd c_78 (by decide)
                    · skip
                      refine lv_iconst (v := (nI 1)) hx hb dX5_count_81 (by decide) ?_
                      refine lv_goto (tgt := 86) hx hb dX5_count_82 (by decide) ?_
                      refine lv_iadd hx hb dX5_count_86 ?_
                      refine zz_i (z := (nI (ac + 1))) (nI_add _ _) ?_
                      refine lv_istore_n (lv' := [(2, .int (nI (ac + 1))), (4, .int (nI 1)), (0, .ref qm), (1, .int (nI 5)), (3, .int (nI k))]) hx hb dX5_count_87 rfl hl (by decide) rfl (fun ls hl => ?_)
                      refine lv_iinc (v := (nI (k + 1))) (lv' := [(3, .int (nI (k + 1))), (2, .int (nI (ac + 1))), (4, .int (nI 1)), (0, .ref qm), (1, .int (nI 5))]) hx hb dX5_count_88 hl (k := 4) rfl (nI_add _ 1) (by decide) rfl (fun ls hl => ?_)
                      refine lv_goto (tgt := 27) hx hb dX5_count_91 (by decide) ?_
                      exact ih27 (k + 1) (ac + 1) gd2_3 bd2_4 (by omega) (by rw [cntF_s, ← hac]; first | (rw [if_pos (decide_eq_true c_65)]) | (rw [if_neg (by simpa using c_65)])) (by omega) _ _ hP hD hS ls (lv_sub hl [3, 4, 1, 0] rfl)
              · skip
                exact absurd c_37 (by decide)
        exact loop27 ((cl - 0) + 1) 0 0 gd bd (Nat.zero_le _) rfl (Nat.lt_succ_self _) _ _ hP hD hS ls (lv_sub hl [2, 3, 1, 0] rfl)
      · skip
        rw [zc_if0] at c_18
        have c_18 := Classical.not_not.mp c_18
        exact absurd c_18 (by decide)
    · skip
      exact absurd (by decide) c_7
