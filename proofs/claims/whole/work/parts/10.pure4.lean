/-! classes: chains of parents, and pairs put together -/
def RootOf (pa : Nat → Int32) (r : Nat → Nat) : Prop := ∀ f, f < 600 → ∃ q, pa f = nI q ∧ q ≤ f ∧ r f = (if q = f then f else r q)
def mrg (r : Nat → Nat) (f g : Nat) : Nat → Nat := fun k => if r k = r f ∨ r k = r g then min (r f) (r g) else r k
def mrgs (L : List (Nat × Nat)) (r : Nat → Nat) : Nat → Nat := L.foldl (fun r q => mrg r q.1 q.2) r
theorem mrgs_app (L M : List (Nat × Nat)) (r : Nat → Nat) : mrgs (L ++ M) r = mrgs M (mrgs L r) := List.foldl_append
theorem RootOf.le {pa : Nat → Int32} {r : Nat → Nat} (h : RootOf pa r) : ∀ f, f < 600 → r f ≤ f ∧ r (r f) = r f ∧ pa (r f) = nI (r f) := by
  intro f
  induction f using Nat.strongRecOn with
  | _ f ih =>
    intro hf
    obtain ⟨q, h1, h2, h3⟩ := h f hf
    by_cases e : q = f
    · rw [if_pos e] at h3
      subst e
      exact ⟨by omega, by rw [h3, h3], by rw [h3]; exact h1⟩
    · rw [if_neg e] at h3
      obtain ⟨a, b, c⟩ := ih q (by omega) (by omega)
      rw [h3]
      exact ⟨by omega, b, c⟩
theorem zs_max {a b : Nat} (ha : a < 2 ^ 31) (hb : b < 2 ^ 31) : (if nI a < nI b then nI b else nI a) = nI (max a b) := by
  by_cases h : a < b
  · rw [if_pos ((nI_ltI ha hb).mpr h), Nat.max_eq_right (by omega)]
  · rw [if_neg (fun h2 => h ((nI_ltI ha hb).mp h2)), Nat.max_eq_left (by omega)]
theorem zs_min {a b : Nat} (ha : a < 2 ^ 31) (hb : b < 2 ^ 31) : (if nI b < nI a then nI b else nI a) = nI (min a b) := by
  by_cases h : b < a
  · rw [if_pos ((nI_ltI hb ha).mpr h), Nat.min_eq_right (by omega)]
  · rw [if_neg (fun h2 => h ((nI_ltI hb ha).mp h2)), Nat.min_eq_left (by omega)]
theorem RootOf.join {pa : Nat → Int32} {r : Nat → Nat} (h : RootOf pa r) {f g : Nat} (hf : f < 600) (hg : g < 600) : RootOf (upd pa (max (r f) (r g)) (nI (min (r f) (r g)))) (mrg r f g) := by
  obtain ⟨f1, f2, f3⟩ := h.le f hf
  obtain ⟨g1, g2, g3⟩ := h.le g hg
  have hmin : r (min (r f) (r g)) = min (r f) (r g) := by
    rcases Nat.le_total (r f) (r g) with e | e
    · rw [Nat.min_eq_left e]; exact f2
    · rw [Nat.min_eq_right e]; exact g2
  intro x hx
  by_cases hm : x = max (r f) (r g)
  · subst hm
    refine ⟨min (r f) (r g), pk_us, by omega, ?_⟩
    have hxr : r (max (r f) (r g)) = max (r f) (r g) := by
      rcases Nat.le_total (r f) (r g) with e | e
      · rw [Nat.max_eq_right e]; exact g2
      · rw [Nat.max_eq_left e]; exact f2
    have e1 : mrg r f g (max (r f) (r g)) = min (r f) (r g) := by
      unfold mrg
      rw [hxr, if_pos (by omega)]
    have e2 : mrg r f g (min (r f) (r g)) = min (r f) (r g) := by
      unfold mrg
      rw [hmin, if_pos (by omega)]
    rw [e1, e2]
    split
    · rename_i h9; omega
    · rfl
  · obtain ⟨q, h1, h2, h3⟩ := h x hx
    refine ⟨q, by rw [pk_un hm]; exact h1, h2, ?_⟩
    by_cases e : q = x
    · rw [if_pos e] at h3 ⊢
      unfold mrg
      rw [h3]
      by_cases e2 : x = r f ∨ x = r g
      · rw [if_pos e2]; omega
      · rw [if_neg e2]
    · rw [if_neg e] at h3 ⊢
      unfold mrg
      rw [h3]
/-- the pairs of a gate's pin -/
def FO (g p v : Nat) : Nat := g * 6 + p * 2 + v
def gP (k : Int32) (g pn : Nat) : List (Nat × Nat) :=
  if k = nI 0 then [(FO g (pn + 1) 0, FO g 0 0)] else if k = nI 1 then [(FO g (pn + 1) 1, FO g 0 1)] else if k = nI 3 then [(FO g (pn + 1) 0, FO g 0 1)] else if k = nI 4 then [(FO g (pn + 1) 1, FO g 0 0)]
  else if k = nI 5 then [(FO g (pn + 1) 0, FO g 0 1), (FO g (pn + 1) 1, FO g 0 0)] else if k = nI 6 then [(FO g (pn + 1) 0, FO g 0 0), (FO g (pn + 1) 1, FO g 0 1)] else []
/-- the pairs of a net and the one pin that takes it -/
def sP (u q g pn : Nat) : List (Nat × Nat) := if u = 1 then [(FO q 0 0, FO g (pn + 1) 0), (FO q 0 1, FO g (pn + 1) 1)] else []
/-- the nets that pins take, and outputs -/
def uP (s0 s1 : Nat → Int32) (g k : Nat) : List Nat := (List.range k).map (fun pn => cn (srcF s0 s1 g pn))
def uL (kd s0 s1 : Nat → Int32) (t : Nat) : List Nat := (List.range t).flatMap (fun g => uP s0 s1 g (pinsN (kd g)))
def uO (on : Nat → Int32) (k : Nat) : List Nat := (List.range k).map (fun o => cn (on o))
def uC (kd s0 s1 on : Nat → Int32) (n no q : Nat) : Nat := (uL kd s0 s1 n ++ uO on no).count q
theorem uP_s (s0 s1 : Nat → Int32) (g k : Nat) : uP s0 s1 g (k + 1) = uP s0 s1 g k ++ [cn (srcF s0 s1 g k)] := by simp [uP, List.range_succ]
theorem uL_s (kd s0 s1 : Nat → Int32) (t : Nat) : uL kd s0 s1 (t + 1) = uL kd s0 s1 t ++ uP s0 s1 t (pinsN (kd t)) := by simp [uL, List.range_succ]
theorem uO_s (on : Nat → Int32) (k : Nat) : uO on (k + 1) = uO on k ++ [cn (on k)] := by simp [uO, List.range_succ]
theorem cnt_s {u : Nat → Int32} {L : List Nat} {a q : Nat} (h : ∀ q, q < 100 → u q = nI (L.count q)) (ha : a < 100) (hq : q < 100) : upd u a (u a + nI 1) q = nI ((L ++ [a]).count q) := by
  rw [List.count_append]
  by_cases e : q = a
  · subst e
    rw [pk_us, h q hq, nI_add]
    simp
  · rw [pk_un e, h q hq]
    rw [List.count_singleton]
    simp [Ne.symm e, show ¬ a = q from fun h => e h.symm]
def ppP (kd s0 s1 on : Nat → Int32) (n no g pn : Nat) : List (Nat × Nat) := gP (kd g) g pn ++ sP (uC kd s0 s1 on n no (cn (srcF s0 s1 g pn))) (cn (srcF s0 s1 g pn)) g pn
def npP (kd s0 s1 on : Nat → Int32) (n no g k : Nat) : List (Nat × Nat) := (List.range k).flatMap (fun pn => ppP kd s0 s1 on n no g pn)
def srP (kd s0 s1 on : Nat → Int32) (n no t : Nat) : List (Nat × Nat) := (List.range t).flatMap (fun g => npP kd s0 s1 on n no g (pinsN (kd g)))
theorem npP_s (kd s0 s1 on : Nat → Int32) (n no g k : Nat) : npP kd s0 s1 on n no g (k + 1) = npP kd s0 s1 on n no g k ++ ppP kd s0 s1 on n no g k := by simp [npP, List.range_succ]
theorem srP_s (kd s0 s1 on : Nat → Int32) (n no t : Nat) : srP kd s0 s1 on n no (t + 1) = srP kd s0 s1 on n no t ++ npP kd s0 s1 on n no t (pinsN (kd t)) := by simp [srP, List.range_succ]
/-- numbers by the first faults -/
abbrev ES : Type := (Nat → Int32) × (Nat → Int32) × (Nat → Int32) × Nat
def entE (r : Nat → Nat) (f : Nat) (E : ES) : ES :=
  if r f = f then (upd E.1 f (nI E.2.2.2), upd E.2.1 E.2.2.2 (nI f), upd E.2.2.1 E.2.2.2 (nI 1), E.2.2.2 + 1)
  else (upd E.1 f (E.1 (r f)), E.2.1, upd E.2.2.1 (cn (E.1 (r f))) (E.2.2.1 (cn (E.1 (r f))) + nI 1), E.2.2.2)
def lnP (kd : Nat → Int32) (g k : Nat) : List Nat := (List.range k).flatMap (fun p => [FO g p 0, FO g p 1])
def lnL (kd : Nat → Int32) (t : Nat) : List Nat := (List.range t).flatMap (fun g => lnP kd g (pinsN (kd g) + 1))
def enE (r : Nat → Nat) (L : List Nat) (E : ES) : ES := L.foldl (fun E f => entE r f E) E
theorem lnP_s (kd : Nat → Int32) (g k : Nat) : lnP kd g (k + 1) = lnP kd g k ++ [FO g k 0, FO g k 1] := by simp [lnP, List.range_succ]
theorem lnL_s (kd : Nat → Int32) (t : Nat) : lnL kd (t + 1) = lnL kd t ++ lnP kd t (pinsN (kd t) + 1) := by simp [lnL, List.range_succ]
theorem enE_app (r : Nat → Nat) (L M : List Nat) (E : ES) : enE r (L ++ M) E = enE r M (enE r L E) := List.foldl_append
theorem enE_2 (r : Nat → Nat) (a b : Nat) (E : ES) : enE r [a, b] E = entE r b (entE r a E) := rfl
/-- what holds while lines enter in their order, all below b having entered -/
def ENT (L : List Nat) (b : Nat) (E : ES) : Prop := E.2.2.2 ≤ b ∧ (∀ g ∈ L, g < b) ∧ ∀ g ∈ L, ∃ k, k < E.2.2.2 ∧ E.1 g = nI k
theorem ENT.ent {L : List Nat} {b f : Nat} {E : ES} {r : Nat → Nat} (h : ENT L b E) (hf : b ≤ f) (hr : r f = f ∨ r f ∈ L) : ENT (L ++ [f]) (f + 1) (entE r f E) := by
  obtain ⟨h1, h2, h3⟩ := h
  unfold entE
  by_cases e : r f = f
  · rw [if_pos e]
    refine ⟨by show E.2.2.2 + 1 ≤ f + 1; omega, fun g hg => ?_, fun g hg => ?_⟩
    · rcases List.mem_append.mp hg with q | q
      · have := h2 g q; omega
      · rw [List.mem_singleton.mp q]; omega
    · show ∃ k, k < E.2.2.2 + 1 ∧ upd E.1 f (nI E.2.2.2) g = nI k
      by_cases eg : g = f
      · subst eg; exact ⟨E.2.2.2, by omega, pk_us⟩
      · have hq : g ∈ L := (List.mem_append.mp hg).resolve_right (fun q => eg (List.mem_singleton.mp q))
        obtain ⟨k, k1, k2⟩ := h3 g hq
        exact ⟨k, by omega, by rw [pk_un eg]; exact k2⟩
  · rw [if_neg e]
    have hr2 := hr.resolve_left e
    refine ⟨by show E.2.2.2 ≤ f + 1; omega, fun g hg => ?_, fun g hg => ?_⟩
    · rcases List.mem_append.mp hg with q | q
      · have := h2 g q; omega
      · rw [List.mem_singleton.mp q]; omega
    · show ∃ k, k < E.2.2.2 ∧ upd E.1 f (E.1 (r f)) g = nI k
      by_cases eg : g = f
      · subst eg
        obtain ⟨k, k1, k2⟩ := h3 _ hr2
        exact ⟨k, k1, by rw [pk_us]; exact k2⟩
      · have hq : g ∈ L := (List.mem_append.mp hg).resolve_right (fun q => eg (List.mem_singleton.mp q))
        obtain ⟨k, k1, k2⟩ := h3 g hq
        exact ⟨k, k1, by rw [pk_un eg]; exact k2⟩
theorem mrg_le {r : Nat → Nat} {f g : Nat} (h : ∀ x, r x ≤ x) : ∀ x, mrg r f g x ≤ x := by
  intro x
  unfold mrg
  split
  · rename_i h1
    have := h x
    rcases h1 with h1 | h1 <;> omega
  · exact h x
theorem mrgs_le (L : List (Nat × Nat)) : ∀ (r : Nat → Nat), (∀ x, r x ≤ x) → ∀ x, mrgs L r x ≤ x := by
  induction L with
  | nil => intro r h; exact h
  | cons q L ih => intro r h; exact ih (mrg r q.1 q.2) (mrg_le h)
theorem mrg_h {r h : Nat → Nat} {f g : Nat} (hp : h f = h g) (hr : ∀ x, h (r x) = h x) : ∀ x, h (mrg r f g x) = h x := by
  intro x
  unfold mrg
  split
  · rename_i h1
    have e : h (min (r f) (r g)) = h f := by
      rcases Nat.le_total (r f) (r g) with e | e
      · rw [Nat.min_eq_left e]; exact hr f
      · rw [Nat.min_eq_right e, hr g, hp]
    rw [e]
    rcases h1 with h1 | h1
    · rw [← hr x, h1, hr f]
    · rw [← hr x, h1, hr g, hp]
  · exact hr x
theorem mrgs_h {h : Nat → Nat} (L : List (Nat × Nat)) (hp : ∀ q ∈ L, h q.1 = h q.2) : ∀ (r : Nat → Nat), (∀ x, h (r x) = h x) → ∀ x, h (mrgs L r x) = h x := by
  induction L with
  | nil => intro r h; exact h
  | cons q L ih => intro r hr; exact ih (fun q hq => hp q (List.mem_cons_of_mem _ hq)) (mrg r q.1 q.2) (mrg_h (hp q List.mem_cons_self) hr)
theorem mrg_keep {r : Nat → Nat} {f g a b : Nat} (h : r a = r b) : mrg r f g a = mrg r f g b := by unfold mrg; rw [h]
theorem mrg_new (r : Nat → Nat) (f g : Nat) : mrg r f g f = mrg r f g g := by unfold mrg; simp
theorem mrgs_keep {a b : Nat} (L : List (Nat × Nat)) : ∀ (r : Nat → Nat), r a = r b → mrgs L r a = mrgs L r b := by
  induction L with
  | nil => intro r h; exact h
  | cons q L ih => intro r h; exact ih _ (mrg_keep h)
theorem mrgs_eq (L : List (Nat × Nat)) : ∀ (r : Nat → Nat), ∀ q ∈ L, mrgs L r q.1 = mrgs L r q.2 := by
  induction L with
  | nil => intro r q hq; cases hq
  | cons q0 L ih =>
    intro r q hq
    rcases List.mem_cons.mp hq with e | e
    · subst e; exact mrgs_keep L _ (mrg_new r q.1 q.2)
    · exact ih _ q e
/-- two lists that put the same together have the same least ones -/
theorem mrgs_same {L M : List (Nat × Nat)} (h1 : ∀ q ∈ L, mrgs M id q.1 = mrgs M id q.2) (h2 : ∀ q ∈ M, mrgs L id q.1 = mrgs L id q.2) : mrgs L id = mrgs M id := by
  funext x
  have a1 : mrgs M id (mrgs L id x) = mrgs M id x := mrgs_h L h1 id (fun _ => rfl) x
  have a2 : mrgs L id (mrgs M id x) = mrgs L id x := mrgs_h M h2 id (fun _ => rfl) x
  have b1 := mrgs_le M id (fun _ => Nat.le_refl _) (mrgs L id x)
  have b2 := mrgs_le L id (fun _ => Nat.le_refl _) (mrgs M id x)
  omega
theorem mem_lnP {kd : Nat → Int32} {g k x : Nat} (hk : k ≤ 3) : x ∈ lnP kd g k ↔ x / 6 = g ∧ x % 6 / 2 < k := by
  unfold lnP FO
  simp only [List.mem_flatMap, List.mem_range, List.mem_cons, List.not_mem_nil, or_false]
  constructor
  · rintro ⟨p, hp, h | h⟩ <;> omega
  · rintro ⟨h1, h2⟩
    exact ⟨x % 6 / 2, h2, by omega⟩
theorem mem_lnL {kd : Nat → Int32} {t x : Nat} : x ∈ lnL kd t ↔ x / 6 < t ∧ x % 6 / 2 < pinsN (kd (x / 6)) + 1 := by
  unfold lnL
  simp only [List.mem_flatMap, List.mem_range]
  constructor
  · rintro ⟨g, hg, h⟩
    have := pinsN_le (kd g)
    obtain ⟨h1, h2⟩ := (mem_lnP (by omega)).mp h
    subst h1
    exact ⟨hg, h2⟩
  · rintro ⟨h1, h2⟩
    have := pinsN_le (kd (x / 6))
    exact ⟨x / 6, h1, (mem_lnP (by omega)).mpr ⟨rfl, h2⟩⟩
theorem gP_mem {k : Int32} {g pn : Nat} {q : Nat × Nat} (h : q ∈ gP k g pn) : ∃ v w, v < 2 ∧ w < 2 ∧ q = (FO g (pn + 1) v, FO g 0 w) := by
  unfold gP at h
  repeat' split at h
  all_goals (try (simp only [List.mem_cons, List.not_mem_nil, or_false] at h))
  all_goals first
    | exact h.elim
    | (rcases h with h | h <;> (subst h; exact ⟨_, _, by decide, by decide, rfl⟩))
    | (subst h; exact ⟨_, _, by decide, by decide, rfl⟩)
theorem sP_mem {u qn g pn : Nat} {q : Nat × Nat} (h : q ∈ sP u qn g pn) : u = 1 ∧ ∃ v, v < 2 ∧ q = (FO qn 0 v, FO g (pn + 1) v) := by
  unfold sP at h
  split at h
  · rename_i hu
    simp only [List.mem_cons, List.not_mem_nil, or_false] at h
    rcases h with h | h <;> exact ⟨hu, _, by decide, h⟩
  · cases h
/-- the first fault of a line's class is a line -/
theorem srP_line {kd s0 s1 on : Nat → Int32} {n no : Nat} (hwf : WF n kd s0 s1) {f : Nat} (hf : f ∈ lnL kd n) : mrgs (srP kd s0 s1 on n no n) id f ∈ lnL kd n := by
  have key := mrgs_h (h := fun x => if x ∈ lnL kd n then 1 else 0) (srP kd s0 s1 on n no n) (fun q hq => by
    unfold srP npP ppP at hq
    simp only [List.mem_flatMap, List.mem_range] at hq
    obtain ⟨g, hg, pn, hpn, hq⟩ := hq
    have h2 := pinsN_le (kd g)
    have hl : ∀ p v, p < pinsN (kd g) + 1 → v < 2 → FO g p v ∈ lnL kd n := fun p v hp hv => mem_lnL.mpr (by
      have e1 : FO g p v / 6 = g := by unfold FO; omega
      have e2 : FO g p v % 6 / 2 = p := by unfold FO; omega
      rw [e1, e2]; exact ⟨hg, hp⟩)
    rcases List.mem_append.mp hq with h | h
    · obtain ⟨v, w, hv, hw, rfl⟩ := gP_mem h
      simp only [if_pos (hl (pn + 1) v (by omega) hv), if_pos (hl 0 w (by omega) hw)]
    · obtain ⟨-, v, hv, rfl⟩ := sP_mem h
      have hs := (hwf.src (pn := pn) hg (pinsN_gate hpn)).2
      have h0 : FO (cn (srcF s0 s1 g pn)) 0 v ∈ lnL kd n := mem_lnL.mpr (by
        have e1 : FO (cn (srcF s0 s1 g pn)) 0 v / 6 = cn (srcF s0 s1 g pn) := by unfold FO; omega
        have e2 : FO (cn (srcF s0 s1 g pn)) 0 v % 6 / 2 = 0 := by unfold FO; omega
        rw [e1, e2]; exact ⟨by omega, by omega⟩)
      simp only [if_pos (hl (pn + 1) v (by omega) hv), if_pos h0]) id (fun _ => rfl) f
  simp only [if_pos hf] at key
  by_cases h : mrgs (srP kd s0 s1 on n no n) id f ∈ lnL kd n
  · exact h
  · rw [if_neg h] at key; exact absurd key (by decide)
theorem srP_le {kd s0 s1 on : Nat → Int32} {n no f : Nat} : mrgs (srP kd s0 s1 on n no n) id f ≤ f := mrgs_le _ id (fun _ => Nat.le_refl _) f
theorem RootOf.id {pa : Nat → Int32} (h : ∀ j, j < 600 → pa j = nI j) : RootOf pa id := fun f hf => ⟨f, h f hf, Nat.le_refl _, by rw [if_pos rfl]; rfl⟩
theorem zs_pin {k p : Nat} (hk : k ≤ 2) (hp : p ≤ 3) : (nI k ≤ nI p - nI 1) = (k + 1 ≤ p) := by
  have : ∀ k, k ≤ 2 → ∀ p, p ≤ 3 → (nI k ≤ nI p - nI 1 ↔ k + 1 ≤ p) := by decide
  exact propext (this k hk p hp)
theorem zs_pin1 (p : Nat) : nI p - nI 1 + nI 1 = nI p := Int32.sub_add_cancel _ _
theorem zs_pinS (p : Nat) : nI p - nI 1 + Int32.ofInt 1 = nI (p + 1) - nI 1 := by
  rw [← nI_add p 1, Int32.add_sub_cancel]
  exact Int32.sub_add_cancel _ _
theorem gP_o {k : Int32} {g pn : Nat} (h0 : ¬ k = nI 0) (h1 : ¬ k = nI 1) (h3 : ¬ k = nI 3) (h4 : ¬ k = nI 4) (h5 : ¬ k = nI 5) (h6 : ¬ k = nI 6) : gP k g pn = [] := by
  unfold gP; rw [if_neg h0, if_neg h1, if_neg h3, if_neg h4, if_neg h5, if_neg h6]
