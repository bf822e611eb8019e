theorem lw_gt {i L : Nat} (hi : i ≤ 2048) (hL : L ≤ 2048) : (nI L - nI 4 < nI i) = (L < i + 4) := by
  apply propext
  rw [Int32.lt_iff_toInt_lt, pk_sub_toInt (by omega) (by omega), nI_toInt (by omega)]
  omega
set_option maxHeartbeats 4000000 in
set_option maxRecDepth 100000 in
theorem law_loop {p : Program} {l : Launch} {e : Env} {s : State} {m : MethodId} {below : List Frame} {meth : Method} {c : Code} {b L : Nat} {xs : Nat → Int32} {D : va_G} {cI cJ cZ : ClassId} {A : Nat → Prop} {qx qc qk q0 q1 qo qv qC qpa qnu qfi qme qus qS qse qre qcg qP qfo qte qm mkA m0 m1 mi mo ml mf ma mfd mts mg mb qout : Nat} (C0 : LC p l s m meth c b L xs D cI cJ cZ A) (hAf : ∀ q, A q → s.heap.size ≤ q) (hL : L ≤ 2048) : ∀ (f9 j : Nat), 512 - j < f9 → 4 * j ≤ L → LK p l e s m below meth c b D cI cJ cZ A qx qc qk q0 q1 qo qv qC qpa qnu qfi qme qus qS qse qre qcg qP qfo qte qm mkA m0 m1 mi mo ml mf ma mfd mts mg mb qout (4 * j) j 23 := by
  intro f9
  induction f9 with
  | zero => intro j hm; exact absurd hm (Nat.not_lt_zero _)
  | succ f9 ih9 =>
    intro j hm hj4 kd s0 s1 on vl n ni no pa nu fi me us cs se re cg fd ts fc tc st cd io le cf ca cl gd bd ov hJ H locs hP hD hS ls hl
    obtain ⟨hl0, hx, hb, hr, hml, hown, hts, hX, hbl, hbA, hA, hK, hNB, hGX, hIW, hlocks⟩ := id C0
    have hl : lv_has ls 7 [(0, .ref b), (1, .ref qx), (2, .ref qm), (3, .ref qout), (4, .int (nI (4 * j)))] := hl
    refine lv_iload hx hb dL_law_23 (lv_at hl 4 rfl) ?_
    refine lv_aload_n hx hb dL_law_25 rfl (lv_at hl 0 rfl) ?_
    refine va_slen hx hb hX hbl hbA hS dL_law_26 ?_
    refine lv_iconst (v := nI 4) hx hb dL_law_27 (by decide) ?_
    refine lv_isub hx hb dL_law_28 ?_
    refine lv_icmp_gt (tgt := 1034) hx hb dL_law_29 (by decide) (fun c_29 => ?_) (fun c_29 => ?_)
    · skip
      refine lv_iconst (v := 1) hx hb dL_law_1034 (by decide) ?_
      refine va_forget (fun q hq => hAf _ (hS.2.2 q hq)) ?_
      refine W.widen (k := 1071) (n := 19340) (by omega) (by omega) ?_
      exact lw_ret hx hb hr hlocks dL_law_1035
    · skip
      have c_29 : ¬ (nI L - nI 4 < nI (4 * j)) := c_29
      rw [lw_gt (by omega) hL] at c_29
      have hi : 4 * j + 4 ≤ L := by omega
      have hj : j < 512 := by omega
      have K : LK p l e s m below meth c b D cI cJ cZ A qx qc qk q0 q1 qo qv qC qpa qnu qfi qme qus qS qse qre qcg qP qfo qte qm mkA m0 m1 mi mo ml mf ma mfd mts mg mb qout (4 * j) (j + 1) 1028 := by
        intro kd s0 s1 on vl n ni no pa nu fi me us cs se re cg fd ts fc tc st cd io le cf ca cl gd bd ov hJ H locs hP hD hS ls hl
        have hl : lv_has ls 7 [(0, .ref b), (1, .ref qx), (2, .ref qm), (3, .ref qout), (4, .int (nI (4 * j)))] := hl
        refine lv_iinc (v := nI (4 * (j + 1))) (lv' := [(4, .int (nI (4 * (j + 1)))), (0, .ref b), (1, .ref qx), (2, .ref qm), (3, .ref qout)]) hx hb dL_law_1028 hl (k := 4) rfl (nI_add (4 * j) 4) (by decide) rfl (fun ls hl => ?_)
        refine lv_goto (tgt := 23) hx hb dL_law_1031 (by decide) ?_
        exact ih9 (j + 1) (by omega) (by omega) kd s0 s1 on vl n ni no pa nu fi me us cs se re cg fd ts fc tc st cd io le cf ca cl gd bd ov hJ _ _ hP hD hS ls (lv_sub hl [1, 2, 3, 4, 0] rfl)
      refine lv_aload_n hx hb dL_law_32 rfl (lv_at hl 0 rfl) ?_
      refine lv_iload hx hb dL_law_33 (lv_at hl 4 rfl) ?_
      refine zz_sld hx hb hX hbl hbA hS (j := 4 * j) (by omega) (by omega) dL_law_35 ?_
      refine lv_bipush (v := nI 31) hx hb dL_law_36 (by decide) ?_
      refine lv_iand hx hb dL_law_38 ?_
      by_cases k_0 : xs (4 * j) &&& nI 31 = nI 0
      · skip
        refine zz_i (z := nI 0) k_0 ?_
        refine lv_tableIn (off := 85) (tgt := 124) hx hb dL_law_39 (by decide) (by decide) rfl (by decide) ?_
        exact law_0 C0 hJ hi hL hj K hP hD hS hl
      by_cases k_1 : xs (4 * j) &&& nI 31 = nI 1
      · skip
        refine zz_i (z := nI 1) k_1 ?_
        refine lv_tableIn (off := 129) (tgt := 168) hx hb dL_law_39 (by decide) (by decide) rfl (by decide) ?_
        exact law_1 C0 hJ hi hL hj K hP hD hS hl
      by_cases k_2 : xs (4 * j) &&& nI 31 = nI 2
      · skip
        refine zz_i (z := nI 2) k_2 ?_
        refine lv_tableIn (off := 209) (tgt := 248) hx hb dL_law_39 (by decide) (by decide) rfl (by decide) ?_
        exact law_2 C0 hJ hi hL hj K hP hD hS hl
      by_cases k_3 : xs (4 * j) &&& nI 31 = nI 3
      · skip
        refine zz_i (z := nI 3) k_3 ?_
        refine lv_tableIn (off := 265) (tgt := 304) hx hb dL_law_39 (by decide) (by decide) rfl (by decide) ?_
        exact law_3 C0 hJ hi hL hj K hP hD hS hl
      by_cases k_4 : xs (4 * j) &&& nI 31 = nI 4
      · skip
        refine zz_i (z := nI 4) k_4 ?_
        refine lv_tableIn (off := 333) (tgt := 372) hx hb dL_law_39 (by decide) (by decide) rfl (by decide) ?_
        exact law_4 C0 hJ hi hL hj K hP hD hS hl
      by_cases k_5 : xs (4 * j) &&& nI 31 = nI 5
      · skip
        refine zz_i (z := nI 5) k_5 ?_
        refine lv_tableIn (off := 346) (tgt := 385) hx hb dL_law_39 (by decide) (by decide) rfl (by decide) ?_
        exact law_5 C0 hJ hi hL hj K hP hD hS hl
      by_cases k_6 : xs (4 * j) &&& nI 31 = nI 6
      · skip
        refine zz_i (z := nI 6) k_6 ?_
        refine lv_tableIn (off := 414) (tgt := 453) hx hb dL_law_39 (by decide) (by decide) rfl (by decide) ?_
        exact law_6 C0 hJ hi hL hj K hP hD hS hl
      by_cases k_7 : xs (4 * j) &&& nI 31 = nI 7
      · skip
        refine zz_i (z := nI 7) k_7 ?_
        refine lv_tableIn (off := 494) (tgt := 533) hx hb dL_law_39 (by decide) (by decide) rfl (by decide) ?_
        exact law_7 C0 hJ hi hL hj K hP hD hS hl
      by_cases k_8 : xs (4 * j) &&& nI 31 = nI 8
      · skip
        refine zz_i (z := nI 8) k_8 ?_
        refine lv_tableIn (off := 550) (tgt := 589) hx hb dL_law_39 (by decide) (by decide) rfl (by decide) ?_
        exact law_8 C0 hJ hi hL hj K hP hD hS hl
      by_cases k_9 : xs (4 * j) &&& nI 31 = nI 9
      · skip
        refine zz_i (z := nI 9) k_9 ?_
        refine lv_tableIn (off := 625) (tgt := 664) hx hb dL_law_39 (by decide) (by decide) rfl (by decide) ?_
        exact law_9 C0 hJ hi hL hj K hP hD hS hl
      by_cases k_10 : xs (4 * j) &&& nI 31 = nI 10
      · skip
        refine zz_i (z := nI 10) k_10 ?_
        refine lv_tableIn (off := 681) (tgt := 720) hx hb dL_law_39 (by decide) (by decide) rfl (by decide) ?_
        exact law_10 C0 hJ hi hL hj K hP hD hS hl
      by_cases k_11 : xs (4 * j) &&& nI 31 = nI 11
      · skip
        refine zz_i (z := nI 11) k_11 ?_
        refine lv_tableIn (off := 694) (tgt := 733) hx hb dL_law_39 (by decide) (by decide) rfl (by decide) ?_
        exact law_11 C0 hJ hi hL hj K hP hD hS hl
      by_cases k_12 : xs (4 * j) &&& nI 31 = nI 12
      · skip
        refine zz_i (z := nI 12) k_12 ?_
        refine lv_tableIn (off := 750) (tgt := 789) hx hb dL_law_39 (by decide) (by decide) rfl (by decide) ?_
        exact law_12 C0 hJ hi hL hj K hP hD hS hl
      by_cases k_13 : xs (4 * j) &&& nI 31 = nI 13
      · skip
        refine zz_i (z := nI 13) k_13 ?_
        refine lv_tableIn (off := 775) (tgt := 814) hx hb dL_law_39 (by decide) (by decide) rfl (by decide) ?_
        exact law_13 C0 hJ hi hL hj K hP hD hS hl
      by_cases k_14 : xs (4 * j) &&& nI 31 = nI 14
      · skip
        refine zz_i (z := nI 14) k_14 ?_
        refine lv_tableIn (off := 831) (tgt := 870) hx hb dL_law_39 (by decide) (by decide) rfl (by decide) ?_
        exact law_14 C0 hJ hi hL hj K hP hD hS hl
      by_cases k_15 : xs (4 * j) &&& nI 31 = nI 15
      · skip
        refine zz_i (z := nI 15) k_15 ?_
        refine lv_tableIn (off := 842) (tgt := 881) hx hb dL_law_39 (by decide) (by decide) rfl (by decide) ?_
        exact law_15 C0 hJ hi hL hj K hP hD hS hl
      by_cases k_16 : xs (4 * j) &&& nI 31 = nI 16
      · skip
        refine zz_i (z := nI 16) k_16 ?_
        refine lv_tableIn (off := 922) (tgt := 961) hx hb dL_law_39 (by decide) (by decide) rfl (by decide) ?_
        exact law_16 C0 hJ hi hL hj K hP hD hS hl
      by_cases k_17 : xs (4 * j) &&& nI 31 = nI 17
      · skip
        refine zz_i (z := nI 17) k_17 ?_
        refine lv_tableIn (off := 978) (tgt := 1017) hx hb dL_law_39 (by decide) (by decide) rfl (by decide) ?_
        exact law_17 C0 hJ hi hL hj K hP hD hS hl
      refine lv_tableOut (tgt := 1028) hx hb dL_law_39 (zs_out (n := 18) (by decide) (fun q hq => by rcases (show q = 0 ∨ q = 1 ∨ q = 2 ∨ q = 3 ∨ q = 4 ∨ q = 5 ∨ q = 6 ∨ q = 7 ∨ q = 8 ∨ q = 9 ∨ q = 10 ∨ q = 11 ∨ q = 12 ∨ q = 13 ∨ q = 14 ∨ q = 15 ∨ q = 16 ∨ q = 17 by omega) with rfl | rfl | rfl | rfl | rfl | rfl | rfl | rfl | rfl | rfl | rfl | rfl | rfl | rfl | rfl | rfl | rfl | rfl <;> assumption)) (by decide) ?_
      refine W.widen (k := 34 + (j + 1)) (n := 11070 + 6 * (j + 1)) (by omega) (by omega) ?_
      exact K kd s0 s1 on vl n ni no pa nu fi me us cs se re cg fd ts fc tc st cd io le cf ca cl gd bd ov hJ _ _ hP hD hS ls hl
