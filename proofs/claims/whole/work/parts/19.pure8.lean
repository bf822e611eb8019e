/-! a chip that grows -/
theorem WF.inp {n : Nat} {kd s0 s1 : Nat → Int32} (h : WF n kd s0 s1) : WF (n + 1) (upd kd n (-1)) s0 s1 := fun j hj hk => by
  by_cases e : j = n
  · subst e; rw [pk_us] at hk; exact absurd rfl hk
  · rw [pk_un e] at hk; exact h j (by omega) hk
theorem WF.gat {n a b : Nat} {k : Int32} {kd s0 s1 : Nat → Int32} (h : WF n kd s0 s1) (ha : a < n) (hb : b < n) (hn : n < 100) : WF (n + 1) (upd kd n k) (upd s0 n (nI a)) (upd s1 n (nI b)) := fun j hj hk => by
  by_cases e : j = n
  · subst e
    rw [pk_us, pk_us]
    have e1 : cn (nI a) = a := nI_clamp (by omega)
    have e2 : cn (nI b) = b := nI_clamp (by omega)
    exact ⟨⟨by rw [e1], by omega⟩, ⟨by rw [e2], by omega⟩⟩
  · rw [pk_un e] at hk
    rw [pk_un e, pk_un e]; exact h j (by omega) hk
theorem KD.inp {n : Nat} {kd : Nat → Int32} (h : KD n kd) : KD (n + 1) (upd kd n (-1)) := fun j hj => by
  by_cases e : j = n
  · subst e; rw [pk_us]; exact Or.inl rfl
  · rw [pk_un e]; exact h j (by omega)
theorem KD.gat {n : Nat} {k : Int32} {kd : Nat → Int32} (h : KD n kd) (hk : KDk k) : KD (n + 1) (upd kd n k) := fun j hj => by
  by_cases e : j = n
  · subst e; rw [pk_us]; exact hk
  · rw [pk_un e]; exact h j (by omega)
theorem WO.grow {n m no : Nat} {on : Nat → Int32} (h : WO n no on) (hm : n ≤ m) : WO m no on := fun o ho => ⟨(h o ho).1, by have := (h o ho).2; omega⟩
theorem WO.out {n no q : Nat} {on : Nat → Int32} (h : WO n no on) (hq : q < n) (hn : n ≤ 100) : WO n (no + 1) (upd on no (nI q)) := fun o ho => by
  by_cases e : o = no
  · subst e
    rw [pk_us]
    have e1 : cn (nI q) = q := nI_clamp (by omega)
    exact ⟨by rw [e1], by omega⟩
  · rw [pk_un e]; exact h o (by omega)
theorem WF.zero {kd s0 s1 : Nat → Int32} : WF 0 kd s0 s1 := fun j h => by omega
theorem WO.zero {n : Nat} {on : Nat → Int32} : WO n 0 on := fun j h => by omega
theorem KD.zero {kd : Nat → Int32} : KD 0 kd := fun j h => by omega
def gCode (n : Nat) (k a b : Int32) : Nat := if ¬ isN n a ∨ (¬ onePin k ∧ ¬ isN n b) then 1 else if n = 100 then 2 else if k < 0 ∨ ¬ k ≤ nI 6 then 3 else 0
def oCode (n no : Nat) (a : Int32) : Nat := if ¬ isN n a then 1 else if no = 12 then 2 else 0
def fltF (f wh c : Nat) : Int32 := if wh = 0 then nI (f / 6) else if wh = 1 then nI (f % 6 / 2) - nI 1 else if wh = 2 then nI (f % 2) else nI c
def clsC (kd ca : Nat → Int32) (n k m : Nat) : Nat := (lnF kd n m).countP (fun g => decide (ca g = nI k))
theorem clsC_y {kd ca : Nat → Int32} {n k m : Nat} (h : isLn kd n m) (h2 : ca m = nI k) : clsC kd ca n k (m + 1) = clsC kd ca n k m + 1 := by
  unfold clsC; rw [lnF_y h, List.countP_append]; simp [h2]
theorem clsC_n {kd ca : Nat → Int32} {n k m : Nat} (h : ¬ (isLn kd n m ∧ ca m = nI k)) : clsC kd ca n k (m + 1) = clsC kd ca n k m := by
  unfold clsC
  by_cases h1 : isLn kd n m
  · rw [lnF_y h1, List.countP_append]
    have : ¬ ca m = nI k := fun e => h ⟨h1, e⟩
    simp [this]
  · rw [lnF_n h1]
def CFOK (n : Nat) (kd : Nat → Int32) (cl : Nat) (cf : Nat → Int32) : Prop := ∀ k, k < cl → cf k = nI (cn (cf k)) ∧ cn (cf k) / 6 < n ∧ (cn (cf k) % 6 / 2 = 0 ∨ ¬ kd (cn (cf k) / 6) = (-1)) ∧ cn (cf k) < 600
def sawB (kd s0 s1 on : Nat → Int32) (vl : Nat → Int64) (n ni no : Nat) (cf : Nat → Int32) (a k : Nat) : Bool := decide (bitW (shw kd s0 s1 on vl n ni no (cn (cf k)) (a / 64)) (nI a) = nI 1)
def fndF (sb : Nat → Bool) (fd : Nat → Int32) : Nat → (Nat → Int32) × Nat
  | 0 => (fd, 0)
  | k + 1 => if (fndF sb fd k).1 k = 0 ∧ sb k = true then (upd (fndF sb fd k).1 k (nI 1), (fndF sb fd k).2 + 1) else fndF sb fd k
theorem fndF_y {sb : Nat → Bool} {fd f1 : Nat → Int32} {k x : Nat} (h : (f1, x) = fndF sb fd k) (h1 : f1 k = 0) (h2 : sb k = true) : (upd f1 k (nI 1), x + 1) = fndF sb fd (k + 1) := by
  rw [fndF, ← h, if_pos ⟨h1, h2⟩]
theorem fndF_n {sb : Nat → Bool} {fd f1 : Nat → Int32} {k x : Nat} (h : (f1, x) = fndF sb fd k) (h1 : ¬ (f1 k = 0 ∧ sb k = true)) : (f1, x) = fndF sb fd (k + 1) := by
  rw [fndF, ← h, if_neg h1]
theorem fndF_le {sb : Nat → Bool} {fd : Nat → Int32} (k : Nat) : (fndF sb fd k).2 ≤ k := by
  induction k with
  | zero => exact Nat.le_refl _
  | succ k ih => rw [fndF]; split; exact Nat.succ_le_succ ih; omega
def cntF (p : Nat → Bool) (k : Nat) : Nat := (List.range k).countP p
theorem cntF_s (p : Nat → Bool) (k : Nat) : cntF p (k + 1) = cntF p k + (if p k then 1 else 0) := by
  unfold cntF; rw [List.range_succ, List.countP_append]; simp [List.countP_cons]
abbrev RS : Type := (Nat → Int32) × (Nat → Int32) × Nat
def rnF (sb : Nat → Nat → Bool) (tst : Nat → Int32) (ni cl : Nat) (fd ts : Nat → Int32) : Nat → RS
  | 0 => (fd, ts, 0)
  | k + 1 => if (rnF sb tst ni cl fd ts k).1 k = 0 ∧ ¬ tst k = (-1) then ((fndF (sb (knownN ni (tst k))) (rnF sb tst ni cl fd ts k).1 cl).1, upd (rnF sb tst ni cl fd ts k).2.1 (rnF sb tst ni cl fd ts k).2.2 (tst k), (rnF sb tst ni cl fd ts k).2.2 + 1) else rnF sb tst ni cl fd ts k
theorem rnF_y {sb : Nat → Nat → Bool} {tst : Nat → Int32} {ni cl : Nat} {fd ts f1 t1 : Nat → Int32} {k c1 : Nat} (h : (f1, t1, c1) = rnF sb tst ni cl fd ts k) (h1 : f1 k = 0) (h2 : ¬ tst k = (-1)) : ((fndF (sb (knownN ni (tst k))) f1 cl).1, upd t1 c1 (tst k), c1 + 1) = rnF sb tst ni cl fd ts (k + 1) := by
  rw [rnF, ← h, if_pos ⟨h1, h2⟩]
theorem rnF_n {sb : Nat → Nat → Bool} {tst : Nat → Int32} {ni cl : Nat} {fd ts f1 t1 : Nat → Int32} {k c1 : Nat} (h : (f1, t1, c1) = rnF sb tst ni cl fd ts k) (h1 : ¬ (f1 k = 0 ∧ ¬ tst k = (-1))) : (f1, t1, c1) = rnF sb tst ni cl fd ts (k + 1) := by
  rw [rnF, ← h, if_neg h1]
theorem rnF_le {sb : Nat → Nat → Bool} {tst : Nat → Int32} {ni cl : Nat} {fd ts : Nat → Int32} (k : Nat) : (rnF sb tst ni cl fd ts k).2.2 ≤ k := by
  induction k with
  | zero => exact Nat.le_refl _
  | succ k ih => rw [rnF]; split; exact Nat.succ_le_succ ih; omega
theorem sumF_s (g : Nat → Nat) (k : Nat) : sumF g (k + 1) = sumF g k + g k := rfl
def clOk (n : Nat) (kd : Nat → Int32) (net pin v : Int32) : Prop := ∃ j p1 v1, j < n ∧ net = nI j ∧ p1 < pinsN (kd j) + 1 ∧ pin + nI 1 = nI p1 ∧ v1 < 2 ∧ v = nI v1
theorem clOk_of {n : Nat} {kd : Nat → Int32} {net pin v : Int32} {j : Nat} (hj : j < n) (e : net = nI j) (h1 : ¬ pin < (-1)) (h3 : pin < nI (pinsN (kd j))) (h4 : v = 0 ∨ v = nI 1) : clOk n kd net pin v := by
  have hp2 := pinsN_le (kd j)
  have hv : ∃ v1, v1 < 2 ∧ v = nI v1 := by
    rcases h4 with h4 | h4
    · exact ⟨0, by decide, h4⟩
    · exact ⟨1, by decide, h4⟩
  obtain ⟨v1, hv1, hv2⟩ := hv
  have hp : ∃ p1, p1 < pinsN (kd j) + 1 ∧ pin + nI 1 = nI p1 := by
    by_cases h0 : pin < 0
    · refine ⟨0, by omega, ?_⟩
      have a1 : ¬ pin.toInt < -1 := fun h => h1 (Int32.lt_iff_toInt_lt.mpr (by simpa using h))
      have a2 : pin.toInt < 0 := by simpa using Int32.lt_iff_toInt_lt.mp h0
      have : pin = (-1) := Int32.toInt_inj.mp (by rw [show ((-1 : Int32)).toInt = -1 by decide]; omega)
      rw [this]; decide
    · obtain ⟨p, hp, rfl⟩ := nI_of h0
      refine ⟨p + 1, ?_, nI_add _ _⟩
      rw [zc_lt hp (by omega)] at h3
      omega
  obtain ⟨p1, hp1, hp3⟩ := hp
  exact ⟨j, p1, v1, hj, e, hp1, hp3, hv1, hv2⟩
theorem zs_pinl {p : Nat} (hp : p ≤ 3) : ¬ nI p - nI 1 < (-1) := by
  have : ∀ p, p ≤ 3 → ¬ nI p - nI 1 < (-1) := by decide
  exact this p hp
theorem zs_pinh {p : Nat} (hp : p ≤ 2) : ¬ nI 2 ≤ nI p - nI 1 := by
  have : ∀ p, p ≤ 2 → ¬ nI 2 ≤ nI p - nI 1 := by decide
  exact this p hp
theorem zs_pinp {p k : Nat} (hp : p ≤ 3) (hk : k ≤ 2) (h : p < k + 1) : nI p - nI 1 < nI k := by
  have : ∀ p, p ≤ 3 → ∀ k, k ≤ 2 → p < k + 1 → nI p - nI 1 < nI k := by decide
  exact this p hp k hk h
def slwF (t1 t2 : Int32) (wh : Nat) : Int32 := if t1 = (-1) ∨ t2 = (-1) then (-1) else if wh = 0 then t2 else t1
