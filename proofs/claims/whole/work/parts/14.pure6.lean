/-! the reference: kinds, least ones, numbers -/
def KDk (k : Int32) : Prop := k = (-1) ∨ ∃ j, j ≤ 6 ∧ k = nI j
def KD (n : Nat) (kd : Nat → Int32) : Prop := ∀ j, j < n → KDk (kd j)
theorem pinsN_neg {k : Int32} (h : KDk k) (c : ¬ 0 ≤ k) : pinsN k = 0 := by
  rcases h with rfl | ⟨j, hj, rfl⟩
  · rfl
  · exact absurd (nI_pos' (by omega)) c
theorem pinsN_m {k : Int32} (h : KDk k) (c : 0 ≤ k) : pinsN k = if k ≤ nI 4 then 2 else 1 := by
  rcases h with rfl | ⟨j, hj, rfl⟩
  · exact absurd c (by decide)
  · have : ∀ j, j ≤ 6 → pinsN (nI j) = if nI j ≤ nI 4 then 2 else 1 := by decide
    exact this j hj
theorem KDk.lt {k : Int32} (h : KDk k) : (k < 0 ↔ k = (-1)) := by
  rcases h with rfl | ⟨j, hj, rfl⟩
  · decide
  · have : ∀ j, j ≤ 6 → (nI j < 0 ↔ nI j = (-1)) := by decide
    exact this j hj
theorem zn_ne {k : Nat} (h : k < 2 ^ 31) : ¬ nI k = (-1) := fun e => by
  have := congrArg Int32.toInt e
  rw [nI_toInt h] at this
  have h2 : ((-1 : Int32)).toInt = -1 := by decide
  rw [h2] at this
  omega
abbrev isLn (kd : Nat → Int32) (n f : Nat) : Prop := f / 6 < n ∧ f % 6 / 2 < pinsN (kd (f / 6)) + 1
def LeOf (le : Nat → Int32) (r : Nat → Nat) : Prop := ∀ k, k < 600 → le k = nI (r k)
def mrgK (r : Nat → Nat) (f g i : Nat) : Nat → Nat := fun j => if j < i then mrg r f g j else r j
theorem mrgK_0 (r : Nat → Nat) (f g : Nat) {le : Nat → Int32} (h : LeOf le r) : LeOf le (mrgK r f g 0) := fun k hk => by
  rw [h k hk]; simp [mrgK]
theorem mrgK_s {r : Nat → Nat} {f g i x : Nat} {v : Nat → Int32} (h : LeOf v (mrgK r f g i)) (hx : x = mrg r f g i) : LeOf (upd v i (nI x)) (mrgK r f g (i + 1)) := fun k hk => by
  by_cases e : k = i
  · subst e
    rw [pk_us, hx]; simp [mrgK]
  · rw [pk_un e, h k hk]
    unfold mrgK
    by_cases e2 : k < i
    · rw [if_pos e2, if_pos (by omega)]
    · rw [if_neg e2, if_neg (by omega)]
theorem mrgK_end {r : Nat → Nat} {f g : Nat} {v : Nat → Int32} (h : LeOf v (mrgK r f g 600)) : LeOf v (mrg r f g) := fun k hk => by
  rw [h k hk]; simp [mrgK, hk]
theorem mrgK_at {r : Nat → Nat} {f g i : Nat} : mrgK r f g i i = r i := by simp [mrgK]
def gPt (k : Int32) (v : Nat) : Option Nat :=
  if k = nI 0 then (if v = 0 then some 0 else none) else if k = nI 1 then (if v = 1 then some 1 else none) else if k = nI 3 then (if v = 0 then some 1 else none) else if k = nI 4 then (if v = 1 then some 0 else none) else if k = nI 5 then some (1 - v) else if k = nI 6 then some v else none
def gPv (k : Int32) (g pn v : Nat) : List (Nat × Nat) := match gPt k v with | some w => [(FO g (pn + 1) v, FO g 0 w)] | none => []
theorem gPt_o {k : Int32} {v : Nat} (h0 : ¬ k = nI 0) (h1 : ¬ k = nI 1) (h3 : ¬ k = nI 3) (h4 : ¬ k = nI 4) (h5 : ¬ k = nI 5) (h6 : ¬ k = nI 6) : gPt k v = none := by
  unfold gPt; rw [if_neg h0, if_neg h1, if_neg h3, if_neg h4, if_neg h5, if_neg h6]
theorem gP_split (k : Int32) (g pn : Nat) : gP k g pn = gPv k g pn 0 ++ gPv k g pn 1 := by
  by_cases h0 : k = nI 0
  · subst h0; rfl
  by_cases h1 : k = nI 1
  · subst h1; rfl
  by_cases h3 : k = nI 3
  · subst h3; rfl
  by_cases h4 : k = nI 4
  · subst h4; rfl
  by_cases h5 : k = nI 5
  · subst h5; rfl
  by_cases h6 : k = nI 6
  · subst h6; rfl
  rw [gP_o h0 h1 h3 h4 h5 h6]
  unfold gPv
  rw [gPt_o h0 h1 h3 h4 h5 h6, gPt_o h0 h1 h3 h4 h5 h6]
  rfl
theorem gPv_some {k : Int32} {g pn v w : Nat} (h : gPt k v = some w) : gPv k g pn v = [(FO g (pn + 1) v, FO g 0 w)] := by unfold gPv; rw [h]
theorem gPv_none {k : Int32} {g pn v : Nat} (h : gPt k v = none) : gPv k g pn v = [] := by unfold gPv; rw [h]
def gVs (k : Int32) (g pn m : Nat) : List (Nat × Nat) := (List.range m).flatMap (fun v => gPv k g pn v)
def gNs (k : Int32) (g m : Nat) : List (Nat × Nat) := (List.range m).flatMap (fun pn => gVs k g pn 2)
theorem gVs_s (k : Int32) (g pn m : Nat) : gVs k g pn (m + 1) = gVs k g pn m ++ gPv k g pn m := by simp [gVs, List.range_succ]
theorem gNs_s (k : Int32) (g m : Nat) : gNs k g (m + 1) = gNs k g m ++ gVs k g m 2 := by simp [gNs, List.range_succ]
theorem gVs_2 (k : Int32) (g pn : Nat) : gVs k g pn 2 = gP k g pn := by rw [gP_split, gVs_s, gVs_s]; simp [gVs]
def mrgB (r : Nat → Nat) : Prop := ∀ k, k < 600 → r k < 600
theorem mrgB.join {r : Nat → Nat} (h : mrgB r) {f g : Nat} (hf : f < 600) (hg : g < 600) : mrgB (mrg r f g) := fun k hk => by
  unfold mrg; split
  · have := h f hf; omega
  · exact h k hk
/-- the pairs of the reference for a net that one pin takes -/
def MPq (kd s0 s1 on : Nat → Int32) (n no q : Nat) (M : List (Nat × Nat)) : Prop :=
  (∀ e ∈ M, ∃ g pn v, g < n ∧ pn < pinsN (kd g) ∧ cn (srcF s0 s1 g pn) = q ∧ uC kd s0 s1 on n no q = 1 ∧ v < 2 ∧ e = (FO q 0 v, FO g (pn + 1) v)) ∧
  (∀ g pn v, g < n → pn < pinsN (kd g) → cn (srcF s0 s1 g pn) = q → uC kd s0 s1 on n no q = 1 → v < 2 → (FO q 0 v, FO g (pn + 1) v) ∈ M)
/-- what is known of a net behind t gates and k pins of the gate t -/
def TKq (kd s0 s1 : Nat → Int32) (q t k tk at0 : Nat) : Prop :=
  tk = (uL kd s0 s1 t ++ uP s0 s1 t k).count q ∧
  (tk = 0 → ∀ g pn, (g < t ∧ pn < pinsN (kd g)) ∨ (g = t ∧ pn < k) → ¬ cn (srcF s0 s1 g pn) = q) ∧
  (tk = 1 → ∀ g pn, (g < t ∧ pn < pinsN (kd g)) ∨ (g = t ∧ pn < k) → cn (srcF s0 s1 g pn) = q → at0 = FO g (pn + 1) 0) ∧
  (1 ≤ tk → ∃ g pn, ((g < t ∧ pn < pinsN (kd g)) ∨ (g = t ∧ pn < k)) ∧ cn (srcF s0 s1 g pn) = q ∧ at0 = FO g (pn + 1) 0)
theorem TKq.zero {kd s0 s1 : Nat → Int32} {q : Nat} : TKq kd s0 s1 q 0 0 0 0 := ⟨by simp [uL, uP], fun _ g pn h => by omega, fun h => by omega, fun h => by omega⟩
theorem TKq.gate {kd s0 s1 : Nat → Int32} {q t k tk at0 : Nat} (h : TKq kd s0 s1 q t k tk at0) (hk : k = pinsN (kd t)) : TKq kd s0 s1 q (t + 1) 0 tk at0 := by
  subst hk
  obtain ⟨h1, h2, h3, h4⟩ := h
  have conv : ∀ g pn, (g < t + 1 ∧ pn < pinsN (kd g)) ∨ (g = t + 1 ∧ pn < 0) → (g < t ∧ pn < pinsN (kd g)) ∨ (g = t ∧ pn < pinsN (kd t)) := fun g pn h => by
    rcases h with ⟨a, b⟩ | ⟨a, b⟩
    · rcases Nat.lt_or_ge g t with c | c
      · exact Or.inl ⟨c, b⟩
      · obtain rfl : g = t := by omega
        exact Or.inr ⟨rfl, b⟩
    · omega
  refine ⟨by rw [h1, uL_s]; simp [uP], fun e g pn h => h2 e g pn (conv g pn h), fun e g pn h => h3 e g pn (conv g pn h), fun e => ?_⟩
  obtain ⟨g, pn, a, b, c⟩ := h4 e
  refine ⟨g, pn, ?_, b, c⟩
  rcases a with ⟨a1, a2⟩ | ⟨a1, a2⟩
  · exact Or.inl ⟨by omega, a2⟩
  · subst a1; exact Or.inl ⟨by omega, a2⟩
theorem TKq.hit {kd s0 s1 : Nat → Int32} {q t k tk at0 : Nat} (h : TKq kd s0 s1 q t k tk at0) (hq : cn (srcF s0 s1 t k) = q) : TKq kd s0 s1 q t (k + 1) (tk + 1) (FO t (k + 1) 0) := by
  obtain ⟨h1, h2, h3, h4⟩ := h
  refine ⟨by simp [uP_s, List.count_append, hq, h1, Nat.add_assoc], fun e => by omega, fun e g pn hg hs => ?_, fun _ => ⟨t, k, Or.inr ⟨rfl, by omega⟩, hq, rfl⟩⟩
  have e0 : tk = 0 := by omega
  by_cases c : g = t ∧ pn = k
  · rw [c.1, c.2]
  · refine absurd hs (h2 e0 g pn ?_)
    rcases hg with hg | ⟨a, b⟩
    · exact Or.inl hg
    · exact Or.inr ⟨a, by omega⟩
theorem TKq.miss {kd s0 s1 : Nat → Int32} {q t k tk at0 : Nat} (h : TKq kd s0 s1 q t k tk at0) (hq : ¬ cn (srcF s0 s1 t k) = q) : TKq kd s0 s1 q t (k + 1) tk at0 := by
  obtain ⟨h1, h2, h3, h4⟩ := h
  have conv : ∀ g pn, (g < t ∧ pn < pinsN (kd g)) ∨ (g = t ∧ pn < k + 1) → cn (srcF s0 s1 g pn) = q → (g < t ∧ pn < pinsN (kd g)) ∨ (g = t ∧ pn < k) := fun g pn hg hs => by
    rcases hg with hg | ⟨a, b⟩
    · exact Or.inl hg
    · refine Or.inr ⟨a, ?_⟩
      rcases Nat.lt_or_ge pn k with c | c
      · exact c
      · obtain rfl : pn = k := by omega
        subst a; exact absurd hs hq
  refine ⟨?_, fun e g pn hg hs => h2 e g pn (conv g pn hg hs) hs, fun e g pn hg hs => h3 e g pn (conv g pn hg hs) hs, fun e => ?_⟩
  · simp [uP_s, List.count_append, List.count_singleton, hq, h1, Nat.add_assoc]
  · obtain ⟨g, pn, a, b, c⟩ := h4 e
    refine ⟨g, pn, ?_, b, c⟩
    rcases a with a | ⟨a1, a2⟩
    · exact Or.inl a
    · exact Or.inr ⟨a1, by omega⟩
theorem TKq.le {kd s0 s1 : Nat → Int32} {q t k tk at0 : Nat} (h : TKq kd s0 s1 q t k tk at0) (ht : t ≤ 100) (hk : k ≤ 2) : tk ≤ 202 := by
  rw [h.1]
  have h1 : ∀ t, (uL kd s0 s1 t).length ≤ 2 * t := by
    intro t
    induction t with
    | zero => exact Nat.le_refl _
    | succ t ih =>
      rw [uL_s, List.length_append]
      have : (uP s0 s1 t (pinsN (kd t))).length = pinsN (kd t) := by simp [uP]
      have := pinsN_le (kd t)
      omega
  have h2 := h1 t
  have h3 : (uP s0 s1 t k).length = k := by simp [uP]
  have h4 : (uL kd s0 s1 t ++ uP s0 s1 t k).count q ≤ (uL kd s0 s1 t ++ uP s0 s1 t k).length := List.count_le_length
  rw [List.length_append] at h4
  omega
theorem TKq.at_lt {kd s0 s1 : Nat → Int32} {q t k tk at0 n : Nat} (h : TKq kd s0 s1 q t k tk at0) (h1 : 1 ≤ tk) (hn : t ≤ n) (hn2 : n ≤ 100) (hk : k = 0) : at0 + 1 < 600 := by
  obtain ⟨g, pn, a, b, c⟩ := h.2.2.2 h1
  rcases a with ⟨a1, a2⟩ | ⟨a1, a2⟩
  · have := pinsN_le (kd g); rw [c]; unfold FO; omega
  · omega
theorem TKq.pairs {kd s0 s1 on : Nat → Int32} {q n no tk at0 : Nat} (h : TKq kd s0 s1 q n 0 tk at0) (h1 : tk = 1) (ho : (uO on no).count q = 0) : MPq kd s0 s1 on n no q [(FO q 0 0, at0), (FO q 0 1, at0 + 1)] := by
  have hu : uC kd s0 s1 on n no q = 1 := by
    unfold uC
    rw [List.count_append, ho]
    have := h.1
    simp [uP] at this
    omega
  obtain ⟨-, -, h3, h4⟩ := h
  constructor
  · intro e he
    obtain ⟨g, pn, a, b, c⟩ := h4 (by omega)
    have a' : g < n ∧ pn < pinsN (kd g) := by rcases a with a | a; exact a; omega
    simp only [List.mem_cons, List.not_mem_nil, or_false] at he
    rcases he with he | he
    · exact ⟨g, pn, 0, a'.1, a'.2, b, hu, by decide, by rw [he, c]⟩
    · exact ⟨g, pn, 1, a'.1, a'.2, b, hu, by decide, by rw [he, c]; rfl⟩
  · intro g pn v hg hp hs _ hv
    have := h3 h1 g pn (Or.inl ⟨hg, hp⟩) hs
    rcases (show v = 0 ∨ v = 1 by omega) with rfl | rfl
    · rw [this]; exact List.mem_cons_self
    · rw [this]; exact List.mem_cons_of_mem _ (List.mem_cons.mpr (Or.inl rfl))
theorem TKq.none {kd s0 s1 on : Nat → Int32} {q n no tk at0 : Nat} (h : TKq kd s0 s1 q n 0 tk at0) (h1 : ¬ (tk = 1 ∧ (uO on no).count q = 0)) : MPq kd s0 s1 on n no q [] := by
  obtain ⟨h0, h2, h3, h4⟩ := h
  refine ⟨(fun e he => nomatch he), fun g pn v hg hp hs hu _ => ?_⟩
  have hc : (uL kd s0 s1 n).count q = tk := by rw [h0]; simp [uP]
  have h5 : tk ≠ 0 := fun e => h2 e g pn (Or.inl ⟨hg, hp⟩) hs
  unfold uC at hu
  rw [List.count_append, hc] at hu
  exact absurd ⟨by omega, by omega⟩ h1
