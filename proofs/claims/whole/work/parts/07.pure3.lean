/-! rows found again as they were, or cleared -/
theorem upd_upd (f : Nat → Int32) (k : Nat) (x y : Int32) : upd (upd f k x) k y = upd f k y := by
  funext j; unfold upd; split <;> rfl
def clrF (f : Nat → Int32) (i : Nat) : Nat → Int32 := fun j => if j < i then nI 0 else f j
theorem clrF_0 (f : Nat → Int32) : clrF f 0 = f := by funext j; simp [clrF]
theorem clrF_s (f : Nat → Int32) (i : Nat) : upd (clrF f i) i (nI 0) = clrF f (i + 1) := by
  funext j
  unfold upd clrF
  by_cases h : j = i
  · subst h; simp
  · rw [if_neg h]
    by_cases h2 : j < i
    · rw [if_pos h2, if_pos (by omega)]
    · rw [if_neg h2, if_neg (by omega)]
def missF (fd : Nat → Int32) (i : Int32) : Nat → Nat → Nat → Int32
  | 0, _, _ => -1
  | f + 1, k, b => if fd k = 0 then (if nI b = i then nI k else missF fd i f (k + 1) (b + 1)) else missF fd i f (k + 1) b
theorem missF_end {fd : Nat → Int32} {i : Int32} {m k b : Nat} (h : m ≤ k) : missF fd i (m - k) k b = -1 := by
  rw [Nat.sub_eq_zero_of_le h]; rfl
theorem missF_hit {fd : Nat → Int32} {i : Int32} {m k b : Nat} (h : k < m) (h0 : fd k = 0) (h1 : nI b = i) : missF fd i (m - k) k b = nI k := by
  rw [show m - k = (m - (k + 1)) + 1 by omega, missF, if_pos h0, if_pos h1]
theorem missF_n1 {fd : Nat → Int32} {i : Int32} {m k b : Nat} (h : k < m) (h0 : fd k = 0) (h1 : ¬ nI b = i) : missF fd i (m - k) k b = missF fd i (m - (k + 1)) (k + 1) (b + 1) := by
  rw [show m - k = (m - (k + 1)) + 1 by omega, missF, if_pos h0, if_neg h1]
theorem missF_n0 {fd : Nat → Int32} {i : Int32} {m k b : Nat} (h : k < m) (h0 : ¬ fd k = 0) : missF fd i (m - k) k b = missF fd i (m - (k + 1)) (k + 1) b := by
  rw [show m - k = (m - (k + 1)) + 1 by omega, missF, if_neg h0]
abbrev cn (x : Int32) : Nat := x.toNatClampNeg
def WF (n : Nat) (kd s0 s1 : Nat → Int32) : Prop := ∀ j, j < n → ¬ kd j = (-1) → (s0 j = nI (cn (s0 j)) ∧ cn (s0 j) < j) ∧ (s1 j = nI (cn (s1 j)) ∧ cn (s1 j) < j)
def WO (n no : Nat) (on : Nat → Int32) : Prop := ∀ o, o < no → on o = nI (cn (on o)) ∧ cn (on o) < n
theorem WF.src {n : Nat} {kd s0 s1 : Nat → Int32} (h : WF n kd s0 s1) {j pn : Nat} (hj : j < n) (hg : ¬ kd j = (-1)) : srcF s0 s1 j pn = nI (cn (srcF s0 s1 j pn)) ∧ cn (srcF s0 s1 j pn) < j := by
  unfold srcF
  split
  · exact (h j hj hg).1
  · exact (h j hj hg).2
theorem pinsN_le (k : Int32) : pinsN k ≤ 2 := by
  unfold pinsN
  split
  · decide
  · split <;> decide
theorem pinsN_gate {k : Int32} {p : Nat} (h : p < pinsN k) : ¬ k = (-1) := fun e => by
  rw [pinsN, if_pos e] at h; omega
/-! the words of a change -/
def chg0 (vl : Nat → Int64) (w net : Nat) : Nat → Int64 := fun j => if j = net then vl (w * 100 + net) ^^^ (-1) else vl (w * 100 + j)
def chgT (kd s0 s1 : Nat → Int32) (vl : Nat → Int64) (w net : Nat) : Nat → Nat → Int64
  | 0 => chg0 vl w net
  | t + 1 => if t ≤ net ∨ kd t = (-1) then chgT kd s0 s1 vl w net t else vp_updL (chgT kd s0 s1 vl w net t) t (gw (kd t) (chgT kd s0 s1 vl w net t (cn (s0 t))) (chgT kd s0 s1 vl w net t (cn (s1 t))))
theorem chgT_0 {kd s0 s1 : Nat → Int32} {vl : Nat → Int64} {w net : Nat} : ∀ t, t ≤ net + 1 → chgT kd s0 s1 vl w net t = chg0 vl w net := by
  intro t
  induction t with
  | zero => intro _; rfl
  | succ t ih => intro h; rw [chgT, if_pos (Or.inl (by omega)), ih (by omega)]
theorem chgT_i {kd s0 s1 : Nat → Int32} {vl : Nat → Int64} {w net t : Nat} (h : kd t = (-1)) : chgT kd s0 s1 vl w net (t + 1) = chgT kd s0 s1 vl w net t := by
  rw [chgT, if_pos (Or.inr h)]
theorem chgT_g {kd s0 s1 : Nat → Int32} {vl : Nat → Int64} {w net t : Nat} (h0 : net < t) (h : ¬ kd t = (-1)) : chgT kd s0 s1 vl w net (t + 1) = vp_updL (chgT kd s0 s1 vl w net t) t (gw (kd t) (chgT kd s0 s1 vl w net t (cn (s0 t))) (chgT kd s0 s1 vl w net t (cn (s1 t)))) := by
  rw [chgT, if_neg (by rintro (h1 | h1); omega; exact h h1)]
def effO (v vl : Nat → Int64) (w : Nat) (on : Nat → Int32) : Nat → Int64
  | 0 => 0
  | o + 1 => effO v vl w on o ||| (v (cn (on o)) ^^^ vl (w * 100 + cn (on o)))
def eff (kd s0 s1 on : Nat → Int32) (vl : Nat → Int64) (n no w net : Nat) : Int64 := effO (chgT kd s0 s1 vl w net n) vl w on no
def prepF (kd s0 s1 on : Nat → Int32) (vl : Nat → Int64) (n no net : Nat) (se : Nat → Int64) : Nat → Nat → Int64
  | 0 => se
  | i + 1 => vp_updL (prepF kd s0 s1 on vl n no net se i) (i * 100 + net) (eff kd s0 s1 on vl n no i net)
def fwF (kd s0 s1 : Nat → Int32) (vl : Nat → Int64) (f w : Nat) : Int64 :=
  if f % 6 / 2 = 0 then allW (nI (f % 2)) else gw (kd (f / 6)) (if f % 6 / 2 = 1 then allW (nI (f % 2)) else vl (w * 100 + cn (s0 (f / 6)))) (if f % 6 / 2 = 2 then allW (nI (f % 2)) else vl (w * 100 + cn (s1 (f / 6))))
def shw (kd s0 s1 on : Nat → Int32) (vl : Nat → Int64) (n ni no f w : Nat) : Int64 :=
  ((fwF kd s0 s1 vl f w ^^^ vl (w * 100 + f / 6)) &&& eff kd s0 s1 on vl n no w (f / 6)) &&& maskW ni
def SOK (kd s0 s1 on : Nat → Int32) (vl : Nat → Int64) (n ni no : Nat) (se : Nat → Int64) (re : Nat → Int32) : Prop :=
  ∀ j, j < n → ¬ re j = 0 → ∀ w, w < wordsN ni → se (w * 100 + j) = eff kd s0 s1 on vl n no w j
theorem prepF_at {kd s0 s1 on : Nat → Int32} {vl : Nat → Int64} {n no net : Nat} {se : Nat → Int64} : ∀ i w, w < i → prepF kd s0 s1 on vl n no net se i (w * 100 + net) = eff kd s0 s1 on vl n no w net := by
  intro i
  induction i with
  | zero => intro w h; omega
  | succ i ih =>
    intro w h
    rw [prepF]
    by_cases hw : w = i
    · subst hw; exact pk_uLs
    · rw [pk_uLn (by omega)]; exact ih w (by omega)
theorem prepF_ne {kd s0 s1 on : Nat → Int32} {vl : Nat → Int64} {n no net : Nat} {se : Nat → Int64} {j : Nat} (hj : j < 100) (hn : net < 100) (hne : j ≠ net) : ∀ i w, prepF kd s0 s1 on vl n no net se i (w * 100 + j) = se (w * 100 + j) := by
  intro i
  induction i with
  | zero => intro w; rfl
  | succ i ih => intro w; rw [prepF, pk_uLn (by omega)]; exact ih w
theorem SOK.prep {kd s0 s1 on : Nat → Int32} {vl : Nat → Int64} {n ni no net : Nat} {se : Nat → Int64} {re : Nat → Int32} (hs : SOK kd s0 s1 on vl n ni no se re) (hn : n ≤ 100) (hnet : net < n) :
    SOK kd s0 s1 on vl n ni no (prepF kd s0 s1 on vl n no net se (wordsN ni)) (upd re net (nI 1)) := by
  intro j hj hr w hw
  by_cases h : j = net
  · subst h; exact prepF_at _ _ hw
  · rw [prepF_ne (by omega) (by omega) h]
    rw [pk_un h] at hr
    exact hs j hj hr w hw
def sumF (g : Nat → Nat) : Nat → Nat
  | 0 => 0
  | k + 1 => sumF g k + g k
theorem chg_cpy {vl cg : Nat → Int64} {w net j : Nat} (hj : j < 100) (hn : net < 100) : vp_updL (va_cpy vl cg (w * 100) 0 100) net (va_cpy vl cg (w * 100) 0 100 net ^^^ (-1)) j = chg0 vl w net j := by
  have e : ∀ i, i < 100 → va_cpy vl cg (w * 100) 0 100 i = vl (w * 100 + i) := fun i hi => by
    rw [pk_cpy_in (Nat.zero_le _) (by omega)]; rfl
  unfold chg0 vp_updL
  split
  · rw [e net hn]
  · exact e j hj
theorem chg_next {kd s0 s1 : Nat → Int32} {vl v : Nat → Int64} {n w net t : Nat} (hwf : WF n kd s0 s1) (hn : n ≤ 100) (h0 : net < t) (ht : t < n) (hg : ¬ kd t = (-1)) (hv : ∀ j, j < 100 → v j = chgT kd s0 s1 vl w net t j) :
    ∀ j, j < 100 → vp_updL v t (gw (kd t) (v (cn (srcF s0 s1 t 0))) (v (cn (srcF s0 s1 t 1)))) j = chgT kd s0 s1 vl w net (t + 1) j := by
  intro j hj
  rw [chgT_g h0 hg]
  have h1 := (hwf t ht hg).1.2
  have h2 := (hwf t ht hg).2.2
  have e0 : srcF s0 s1 t 0 = s0 t := rfl
  have e1 : srcF s0 s1 t 1 = s1 t := rfl
  rw [e0, e1, hv (cn (s0 t)) (by omega), hv (cn (s1 t)) (by omega)]
  unfold vp_updL
  split
  · rfl
  · exact hv j hj
