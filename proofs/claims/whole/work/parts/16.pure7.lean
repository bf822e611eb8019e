/-! the reference: build -/
abbrev EM : Type := (Nat → Int32) × (Nat → Int32) × Nat
def entM (r : Nat → Nat) (f : Nat) (E : EM) : EM := if r f = f then (upd E.1 f (nI E.2.2), upd E.2.1 E.2.2 (nI f), E.2.2 + 1) else (upd E.1 f (E.1 (r f)), E.2.1, E.2.2)
def mE (r : Nat → Nat) (L : List Nat) (E : EM) : EM := L.foldl (fun E f => entM r f E) E
def lnF (kd : Nat → Int32) (n f : Nat) : List Nat := (List.range f).filter (fun x => decide (isLn kd n x))
theorem lnF_y {kd : Nat → Int32} {n f : Nat} (h : isLn kd n f) : lnF kd n (f + 1) = lnF kd n f ++ [f] := by
  have hd : decide (isLn kd n f) = true := decide_eq_true h
  unfold lnF
  rw [List.range_succ, List.filter_append]
  simp only [List.filter_cons, hd, List.filter_nil, if_true]
theorem lnF_n {kd : Nat → Int32} {n f : Nat} (h : ¬ isLn kd n f) : lnF kd n (f + 1) = lnF kd n f := by
  have hd : decide (isLn kd n f) = false := decide_eq_false h
  unfold lnF
  rw [List.range_succ, List.filter_append]
  simp only [List.filter_cons, hd, List.filter_nil, Bool.false_eq_true, if_false, List.append_nil]
theorem mE_s (r : Nat → Nat) (L : List Nat) (f : Nat) (E : EM) : mE r (L ++ [f]) E = entM r f (mE r L E) := by unfold mE; rw [List.foldl_append]; rfl
def MALL (kd s0 s1 on : Nat → Int32) (n no t : Nat) (M : List (Nat × Nat)) : Prop :=
  (∀ e ∈ M, e ∈ srP kd s0 s1 on n no n) ∧ (∀ g pn, g < t → pn < pinsN (kd g) → ∀ e ∈ gP (kd g) g pn, e ∈ M) ∧
  (∀ q, q < t → ∀ g pn v, g < n → pn < pinsN (kd g) → cn (srcF s0 s1 g pn) = q → uC kd s0 s1 on n no q = 1 → v < 2 → (FO q 0 v, FO g (pn + 1) v) ∈ M)
theorem srP_mem {kd s0 s1 on : Nat → Int32} {n no : Nat} {e : Nat × Nat} : e ∈ srP kd s0 s1 on n no n ↔ ∃ g, g < n ∧ ∃ pn, pn < pinsN (kd g) ∧ (e ∈ gP (kd g) g pn ∨ e ∈ sP (uC kd s0 s1 on n no (cn (srcF s0 s1 g pn))) (cn (srcF s0 s1 g pn)) g pn) := by
  unfold srP npP ppP
  simp only [List.mem_flatMap, List.mem_range, List.mem_append]
theorem MALL.zero {kd s0 s1 on : Nat → Int32} {n no : Nat} : MALL kd s0 s1 on n no 0 [] := ⟨(fun e h => nomatch h), fun g pn h => by omega, fun q h => by omega⟩
theorem sP_in {u q g pn v : Nat} (hu : u = 1) (hv : v < 2) : (FO q 0 v, FO g (pn + 1) v) ∈ sP u q g pn := by
  unfold sP
  rw [if_pos hu]
  rcases (show v = 0 ∨ v = 1 by omega) with rfl | rfl
  · exact List.mem_cons_self
  · exact List.mem_cons_of_mem _ (List.mem_cons.mpr (Or.inl rfl))
theorem MALL.step {kd s0 s1 on : Nat → Int32} {n no t : Nat} {M Mq : List (Nat × Nat)} (h : MALL kd s0 s1 on n no t M) (ht : t < n) (hq : MPq kd s0 s1 on n no t Mq) : MALL kd s0 s1 on n no (t + 1) ((M ++ gNs (kd t) t (pinsN (kd t))) ++ Mq) := by
  obtain ⟨h1, h2, h3⟩ := h
  have hg : ∀ e, e ∈ gNs (kd t) t (pinsN (kd t)) ↔ ∃ pn, pn < pinsN (kd t) ∧ e ∈ gP (kd t) t pn := fun e => by
    unfold gNs
    simp only [List.mem_flatMap, List.mem_range, gVs_2]
  refine ⟨fun e he => ?_, fun g pn hg1 hp e he => ?_, fun q hq1 g pn v a b c d f => ?_⟩
  · rcases List.mem_append.mp he with he | he
    · rcases List.mem_append.mp he with he | he
      · exact h1 e he
      · obtain ⟨pn, hp, he⟩ := (hg e).mp he
        exact srP_mem.mpr ⟨t, ht, pn, hp, Or.inl he⟩
    · obtain ⟨g, pn, v, a, b, c, d, f, rfl⟩ := hq.1 e he
      refine srP_mem.mpr ⟨g, a, pn, b, Or.inr ?_⟩
      rw [c]
      exact sP_in d f
  · rcases Nat.lt_or_ge g t with c | c
    · exact List.mem_append_left _ (List.mem_append_left _ (h2 g pn c hp e he))
    · obtain rfl : g = t := by omega
      exact List.mem_append_left _ (List.mem_append_right _ ((hg e).mpr ⟨pn, hp, he⟩))
  · rcases Nat.lt_or_ge q t with c2 | c2
    · exact List.mem_append_left _ (List.mem_append_left _ (h3 q c2 g pn v a b c d f))
    · obtain rfl : q = t := by omega
      exact List.mem_append_right _ (hq.2 g pn v a b c d f)
theorem MALL.same {kd s0 s1 on : Nat → Int32} {n no : Nat} {M : List (Nat × Nat)} (h : MALL kd s0 s1 on n no n M) (hwf : WF n kd s0 s1) : mrgs M id = mrgs (srP kd s0 s1 on n no n) id := by
  obtain ⟨h1, h2, h3⟩ := h
  refine mrgs_same (fun e he => mrgs_eq _ _ e (h1 e he)) (fun e he => mrgs_eq _ _ e ?_)
  obtain ⟨g, hg, pn, hp, he⟩ := srP_mem.mp he
  rcases he with he | he
  · exact h2 g pn hg hp e he
  · obtain ⟨hu, v, hv, rfl⟩ := sP_mem he
    have hs := (hwf.src (pn := pn) hg (pinsN_gate hp)).2
    exact h3 _ (by omega) g pn v hg hp rfl hu hv
theorem mrgB_id : mrgB id := fun _ h => h
/-! the reference: words -/
def iwT (k : Nat) : Int64 := if k = 0 then -6148914691236517206 else if k = 1 then -3689348814741910324 else if k = 2 then -1085102592571150096 else if k = 3 then -71777214294589696 else if k = 4 then -281470681808896 else -4294967296
def inW (k w : Nat) : Int64 := if k < 6 then iwT k else if w / 2 ^ (k - 6) % 2 = 1 then -1 else 0
theorem zs_shr {w j : Nat} (hw : w < 2 ^ 31) (hj : j < 31) : nI w >>> (nI j &&& 31) = nI (w / 2 ^ j) := by
  have : ∀ j, j < 31 → ((nI j &&& 31).toBitVec.smod 32).toNat = j := by decide
  exact pk_shrN hw _ j (this j hj)
theorem zs_and1 {n : Nat} (h : n < 2 ^ 31) : nI n &&& nI 1 = nI (n % 2) := by
  have := pk_andN (n := n) (by omega) (m := nI 1) 1 rfl
  simpa using this
def IOK (n : Nat) (kd io : Nat → Int32) : Prop := ∀ j, j < n → kd j = (-1) → io j = nI (cn (io j)) ∧ cn (io j) < 10
def GOK (n : Nat) (kd s0 s1 io : Nat → Int32) (w : Nat) (G : Nat → Int64) : Prop := ∀ j, j < n → G j = if kd j = (-1) then inW (cn (io j)) w else gw (kd j) (G (cn (s0 j))) (G (cn (s1 j)))
def BOK (n : Nat) (kd s0 s1 io : Nat → Int32) (w f : Nat) (Bf : Nat → Int64) : Prop := ∀ j, j < n → Bf j = if f / 2 = 3 * j then allW (nI (f % 2)) else if kd j = (-1) then inW (cn (io j)) w else gw (kd j) (if f / 2 = 3 * j + 1 then allW (nI (f % 2)) else Bf (cn (s0 j))) (if f / 2 = 3 * j + 2 then allW (nI (f % 2)) else Bf (cn (s1 j)))
def VOK (n : Nat) (kd s0 s1 io : Nat → Int32) (vl : Nat → Int64) : Prop := ∀ w, w < 16 → GOK n kd s0 s1 io w (fun j => vl (w * 100 + j))
theorem uLs2 {v : Nat → Int64} {t j : Nat} {x : Int64} : vp_updL (vp_updL v t x) t (vp_updL v t x t) j = if j = t then x else v j := by
  by_cases e : j = t
  · subst e; rw [pk_uLs, pk_uLs, if_pos rfl]
  · rw [pk_uLn e, pk_uLn e, if_neg e]
theorem uLs3 {v : Nat → Int64} {t j : Nat} {x y : Int64} : vp_updL (vp_updL v t x) t y j = if j = t then y else v j := by
  by_cases e : j = t
  · subst e; rw [pk_uLs, if_pos rfl]
  · rw [pk_uLn e, pk_uLn e, if_neg e]
theorem tell_s {v G : Nat → Int64} {t : Nat} {x : Int64} {u : Nat → Int64} (hv : ∀ j, j < t → v j = G j) (hu : ∀ j, u j = if j = t then x else v j) (hx : x = G t) : ∀ j, j < t + 1 → u j = G j := fun j hj => by
  rw [hu j]
  by_cases e : j = t
  · rw [if_pos e, e]; exact hx
  · rw [if_neg e]; exact hv j (by omega)
def shO (G Bf : Nat → Int64) (on : Nat → Int32) : Nat → Int64
  | 0 => 0
  | o + 1 => shO G Bf on o ||| (G (cn (on o)) ^^^ Bf (cn (on o)))
def mux (d a b : Int64) : Int64 := (a &&& d) ||| (b &&& (d ^^^ (-1)))
def badF (kd s0 s1 : Nat → Int32) (vl : Nat → Int64) (w f : Nat) : Nat → Int64 := fun j => if j < f / 6 then vl (w * 100 + j) else mux (fwF kd s0 s1 vl f w ^^^ vl (w * 100 + f / 6)) (chgT kd s0 s1 vl w (f / 6) (j + 1) j) (vl (w * 100 + j))
theorem mux_gw (k : Int32) (d a b a' b' : Int64) : gw k (mux d a a') (mux d b b') = mux d (gw k a b) (gw k a' b') := by
  unfold gw mux
  repeat' split
  all_goals (apply i64_ext; intro i hi; simp only [bitB_and, bitB_or, bitB_xor, bitB_m1 i hi]; try (cases bitB a i <;> cases bitB b i <;> cases bitB a' i <;> cases bitB b' i <;> cases bitB d i <;> rfl))
theorem mux_same (d a : Int64) : mux d a a = a := by
  unfold mux
  apply i64_ext; intro i hi; simp only [bitB_and, bitB_or, bitB_xor, bitB_m1 i hi]; cases bitB a i <;> cases bitB d i <;> rfl
theorem mux_net (x g : Int64) : mux (x ^^^ g) (g ^^^ (-1)) g = x := by
  unfold mux
  apply i64_ext; intro i hi; simp only [bitB_and, bitB_or, bitB_xor, bitB_m1 i hi]; cases bitB x i <;> cases bitB g i <;> rfl
theorem mux_xor (d a g : Int64) : g ^^^ mux d a g = d &&& (a ^^^ g) := by
  unfold mux
  apply i64_ext; intro i hi; simp only [bitB_and, bitB_or, bitB_xor, bitB_m1 i hi]; cases bitB a i <;> cases bitB g i <;> cases bitB d i <;> rfl
theorem and_or_l (d a b : Int64) : (d &&& a) ||| (d &&& b) = d &&& (a ||| b) := by
  apply i64_ext; intro i hi; simp only [bitB_and, bitB_or]; cases bitB a i <;> cases bitB b i <;> cases bitB d i <;> rfl
/-- a net's word doesn't change any more behind it -/
theorem chgT_stay {kd s0 s1 : Nat → Int32} {vl : Nat → Int64} {w net j : Nat} : ∀ t, j < t → chgT kd s0 s1 vl w net t j = chgT kd s0 s1 vl w net (j + 1) j := by
  intro t
  induction t with
  | zero => intro h; omega
  | succ t ih =>
    intro h
    by_cases e : j = t
    · rw [e]
    · rw [chgT]
      split
      · exact ih (by omega)
      · rw [pk_uLn e]; exact ih (by omega)
theorem chgT_lo {kd s0 s1 : Nat → Int32} {vl : Nat → Int64} {w net j : Nat} (hj : j < net) : ∀ t, chgT kd s0 s1 vl w net t j = vl (w * 100 + j) := by
  intro t
  induction t with
  | zero => show chg0 vl w net j = _; unfold chg0; rw [if_neg (by omega)]
  | succ t ih =>
    rw [chgT]
    split
    · exact ih
    · rename_i h9
      rw [pk_uLn (by omega)]; exact ih
theorem chgT_ge {kd s0 s1 : Nat → Int32} {vl : Nat → Int64} {w net j : Nat} (hj : net < j) : ∀ t, t ≤ j → chgT kd s0 s1 vl w net t j = vl (w * 100 + j) := by
  intro t
  induction t with
  | zero => intro _; show chg0 vl w net j = _; unfold chg0; rw [if_neg (by omega)]
  | succ t ih =>
    intro h
    rw [chgT]
    split
    · exact ih (by omega)
    · rw [pk_uLn (by omega)]; exact ih (by omega)
theorem badF_mux {kd s0 s1 : Nat → Int32} {vl : Nat → Int64} {w f a t : Nat} (ha : a < t) : badF kd s0 s1 vl w f a = mux (fwF kd s0 s1 vl f w ^^^ vl (w * 100 + f / 6)) (chgT kd s0 s1 vl w (f / 6) t a) (vl (w * 100 + a)) := by
  unfold badF
  split
  · rename_i h; rw [chgT_lo h, mux_same]
  · rw [chgT_stay t ha]
theorem badF_ok {n : Nat} {kd s0 s1 io : Nat → Int32} {vl : Nat → Int64} {w f : Nat} (hwf : WF n kd s0 s1) (hV : GOK n kd s0 s1 io w (fun j => vl (w * 100 + j))) (hf : f / 6 < n) (hline : f % 6 / 2 = 0 ∨ ¬ kd (f / 6) = (-1)) : BOK n kd s0 s1 io w f (badF kd s0 s1 vl w f) := by
  intro j hj
  have hG := hV j hj
  simp only at hG
  rcases Nat.lt_trichotomy j (f / 6) with h | h | h
  · rw [if_neg (by omega), if_neg (show ¬ f / 2 = 3 * j + 1 by omega), if_neg (show ¬ f / 2 = 3 * j + 2 by omega)]
    have e : badF kd s0 s1 vl w f j = vl (w * 100 + j) := by unfold badF; rw [if_pos h]
    rw [e, hG]
    by_cases hk : kd j = (-1)
    · rw [if_pos hk, if_pos hk]
    · rw [if_neg hk, if_neg hk]
      have h0 := (hwf j hj hk).1.2
      have h1 := (hwf j hj hk).2.2
      have e0 : badF kd s0 s1 vl w f (cn (s0 j)) = vl (w * 100 + cn (s0 j)) := by unfold badF; rw [if_pos (by omega)]
      have e1 : badF kd s0 s1 vl w f (cn (s1 j)) = vl (w * 100 + cn (s1 j)) := by unfold badF; rw [if_pos (by omega)]
      rw [e0, e1]
  · subst h
    have e : badF kd s0 s1 vl w f (f / 6) = fwF kd s0 s1 vl f w := by
      unfold badF
      rw [if_neg (by omega), chgT_0 _ (Nat.le_refl _)]
      unfold chg0
      rw [if_pos rfl]
      exact mux_net _ _
    rw [e]
    unfold fwF
    by_cases hp : f % 6 / 2 = 0
    · rw [if_pos hp, if_pos (by omega)]
    · have hk := hline.resolve_left hp
      rw [if_neg hp, if_neg (show ¬ f / 2 = 3 * (f / 6) by omega), if_neg hk]
      have h0 := (hwf _ hj hk).1.2
      have h1 := (hwf _ hj hk).2.2
      have e0 : badF kd s0 s1 vl w f (cn (s0 (f / 6))) = vl (w * 100 + cn (s0 (f / 6))) := by unfold badF; rw [if_pos (by omega)]
      have e1 : badF kd s0 s1 vl w f (cn (s1 (f / 6))) = vl (w * 100 + cn (s1 (f / 6))) := by unfold badF; rw [if_pos (by omega)]
      rw [e0, e1]
      by_cases hp1 : f % 6 / 2 = 1
      · rw [if_pos hp1, if_neg (show ¬ f % 6 / 2 = 2 by omega), if_pos (show f / 2 = 3 * (f / 6) + 1 by omega), if_neg (show ¬ f / 2 = 3 * (f / 6) + 2 by omega)]
      · rw [if_neg hp1, if_pos (show f % 6 / 2 = 2 by omega), if_neg (show ¬ f / 2 = 3 * (f / 6) + 1 by omega), if_pos (show f / 2 = 3 * (f / 6) + 2 by omega)]
  · rw [if_neg (by omega), if_neg (show ¬ f / 2 = 3 * j + 1 by omega), if_neg (show ¬ f / 2 = 3 * j + 2 by omega)]
    have e : badF kd s0 s1 vl w f j = mux (fwF kd s0 s1 vl f w ^^^ vl (w * 100 + f / 6)) (chgT kd s0 s1 vl w (f / 6) (j + 1) j) (vl (w * 100 + j)) := by unfold badF; rw [if_neg (by omega)]
    rw [e]
    by_cases hk : kd j = (-1)
    · rw [if_pos hk, chgT_i hk, chgT_ge h _ (Nat.le_refl _), mux_same, hG, if_pos hk]
    · rw [if_neg hk, chgT_g h hk, pk_uLs]
      have h0 := (hwf j hj hk).1.2
      have h1 := (hwf j hj hk).2.2
      rw [badF_mux h0, badF_mux h1, mux_gw, hG, if_neg hk]
theorem shO_eff {n no : Nat} {kd s0 s1 on : Nat → Int32} {vl : Nat → Int64} {w f : Nat} (hwo : WO n no on) : ∀ o, o ≤ no → shO (fun j => vl (w * 100 + j)) (badF kd s0 s1 vl w f) on o = (fwF kd s0 s1 vl f w ^^^ vl (w * 100 + f / 6)) &&& effO (chgT kd s0 s1 vl w (f / 6) n) vl w on o := by
  intro o
  induction o with
  | zero => intro _; show (0 : Int64) = _ &&& 0; apply i64_ext; intro i _; simp [bitB_and, bitB_0]
  | succ o ih =>
    intro h
    rw [shO, effO, ih (by omega), badF_mux (hwo o (by omega)).2, mux_xor, and_or_l]
theorem bitW_eq {x : Int64} {a : Nat} (ha : a < 2 ^ 31) : bitW x (nI a) = if bitB x (a % 64) then nI 1 else nI 0 := by
  unfold bitW
  rw [ush1 ha]
  cases bitB x (a % 64) <;> rfl
theorem sh0 {x : Int64} {k : Nat} (hk : k < 64) : (x >>> ((nI k).toInt64 &&& 63) &&& 1 = 0) ↔ bitB x k = false := by
  rw [sh1 hk]
  cases bitB x k <;> decide
theorem shW {x : Int64} {a : Nat} (ha : a < 2 ^ 31) : (x >>> ((nI (a % 64)).toInt64 &&& 63) &&& 1).toInt32 = bitW x (nI a) := by
  rw [bitW_eq ha, sh1 (Nat.mod_lt _ (by decide))]
  cases bitB x (a % 64) <;> rfl
theorem shB {x : Int64} {a : Nat} (ha : a < 2 ^ 31) : (x >>> ((nI (a % 64)).toInt64 &&& 63) &&& 1 = 1) ↔ bitW x (nI a) = nI 1 := by
  rw [bitW_eq ha, sh1 (Nat.mod_lt _ (by decide))]
  cases bitB x (a % 64) <;> decide
theorem wordsN_div {ni : Nat} (h : 6 < ni) : wordsN ni = 2 ^ ni / 64 := by
  unfold wordsN
  rw [if_neg (by omega)]
  have e : 2 ^ ni = 2 ^ (ni - 6) * 64 := by
    rw [show (64 : Nat) = 2 ^ 6 from rfl, ← Nat.pow_add]
    congr 1
    omega
  rw [e, Nat.mul_div_cancel _ (by decide)]
theorem lw_y {x : Int64} {v : Nat} (h : v = 1) : x = (x ^^^ allW (nI v)) ^^^ (-1) := by
  subst h
  have : allW (nI 1) = -1 := rfl
  rw [this]
  apply i64_ext; intro i hi; simp only [bitB_xor, bitB_m1 i hi]; cases bitB x i <;> rfl
theorem lw_n {x : Int64} {v : Nat} (h : v = 0) : x ^^^ (-1) = (x ^^^ allW (nI v)) ^^^ (-1) := by
  subst h
  have : allW (nI 0) = 0 := rfl
  rw [this]
  apply i64_ext; intro i hi; simp only [bitB_xor, bitB_m1 i hi, bitB_0]; cases bitB x i <;> rfl
