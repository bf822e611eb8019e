/-! the face's state: classes when they are sorted -/
abbrev RR (kd s0 s1 on : Nat → Int32) (n no : Nat) : Nat → Nat := mrgs (srP kd s0 s1 on n no n) id
def ncl (kd s0 s1 on : Nat → Int32) (n no : Nat) : Nat := (lnL kd n).countP (fun f => decide (RR kd s0 s1 on n no f = f))
def CGood (kd s0 s1 on : Nat → Int32) (n no : Nat) (nu fi me : Nat → Int32) (cs : Nat) : Prop := ∃ E0 : ES, E0.2.2.2 = 0 ∧ (nu, fi, me, cs) = enE (RR kd s0 s1 on n no) (lnL kd n) E0
def CST (kd s0 s1 on : Nat → Int32) (n no st : Nat) (nu fi me : Nat → Int32) (cs : Nat) : Prop := st = 1 ∨ (st = 0 ∧ CGood kd s0 s1 on n no nu fi me cs)
theorem enE_cs (r : Nat → Nat) (L : List Nat) : ∀ E : ES, (enE r L E).2.2.2 = E.2.2.2 + L.countP (fun f => decide (r f = f)) := by
  induction L with
  | nil => intro E; rfl
  | cons f L ih =>
    intro E
    show (enE r L (entE r f E)).2.2.2 = _
    rw [ih, List.countP_cons]
    unfold entE
    by_cases h : r f = f
    · simp [h]; omega
    · simp [h]
theorem CGood.cs {kd s0 s1 on : Nat → Int32} {n no : Nat} {nu fi me : Nat → Int32} {cs : Nat} (h : CGood kd s0 s1 on n no nu fi me cs) : cs = ncl kd s0 s1 on n no := by
  obtain ⟨E0, h0, h1⟩ := h
  have := enE_cs (RR kd s0 s1 on n no) (lnL kd n) E0
  rw [← h1, h0] at this
  simpa [ncl] using this
/-- firsts are lines, numbers of lines are classes -/
def EFI (r : Nat → Nat) (L : List Nat) (E : ES) : Prop := ∀ k, k < E.2.2.2 → ∃ f, f ∈ L ∧ E.2.1 k = nI f ∧ r f = f
theorem EFI.ent {r : Nat → Nat} {L : List Nat} {f : Nat} {E : ES} (h : EFI r L E) : EFI r (L ++ [f]) (entE r f E) := by
  unfold entE
  by_cases e : r f = f
  · rw [if_pos e]
    intro k hk
    show ∃ g, g ∈ L ++ [f] ∧ upd E.2.1 E.2.2.2 (nI f) k = nI g ∧ r g = g
    by_cases ek : k = E.2.2.2
    · subst ek; exact ⟨f, by simp, pk_us, e⟩
    · obtain ⟨g, g1, g2, g3⟩ := h k (by have : k < E.2.2.2 + 1 := hk; omega)
      exact ⟨g, List.mem_append_left _ g1, by rw [pk_un ek]; exact g2, g3⟩
  · rw [if_neg e]
    intro k hk
    obtain ⟨g, g1, g2, g3⟩ := h k hk
    exact ⟨g, List.mem_append_left _ g1, g2, g3⟩
theorem EFI.all {r : Nat → Nat} : ∀ (M L : List Nat) (E : ES), EFI r L E → EFI r (L ++ M) (enE r M E) := by
  intro M
  induction M with
  | nil => intro L E h; rw [List.append_nil]; exact h
  | cons f M ih =>
    intro L E h
    have := ih (L ++ [f]) (entE r f E) h.ent
    rw [List.append_assoc] at this
    exact this
theorem CGood.fi {kd s0 s1 on : Nat → Int32} {n no : Nat} {nu fi me : Nat → Int32} {cs : Nat} (h : CGood kd s0 s1 on n no nu fi me cs) {k : Nat} (hk : k < cs) (hn : n ≤ 100) : fi k = nI (cn (fi k)) ∧ cn (fi k) ∈ lnL kd n ∧ cn (fi k) < 600 := by
  obtain ⟨E0, h0, h1⟩ := h
  have := EFI.all (r := RR kd s0 s1 on n no) (lnL kd n) [] E0 (fun k hk => by rw [h0] at hk; omega)
  rw [← h1] at this
  obtain ⟨f, f1, f2, f3⟩ := this k hk
  have hf : f / 6 < n := (mem_lnL.mp f1).1
  have e : cn (fi k) = f := by
    have : fi k = nI f := f2
    rw [this]; exact nI_clamp (by omega)
  rw [e]
  exact ⟨f2, f1, by omega⟩
theorem CGood.le {kd s0 s1 on : Nat → Int32} {n no : Nat} {nu fi me : Nat → Int32} {cs : Nat} (h : CGood kd s0 s1 on n no nu fi me cs) (hn : n ≤ 100) : cs ≤ 600 := by
  rw [h.cs]
  have h1 : ncl kd s0 s1 on n no ≤ (lnL kd n).length := List.countP_le_length
  have h2 : ∀ t, (lnL kd t).length ≤ 6 * t := by
    intro t
    induction t with
    | zero => exact Nat.le_refl _
    | succ t ih =>
      rw [lnL_s, List.length_append]
      have h3 : ∀ k, (lnP kd t k).length = 2 * k := by
        intro k
        induction k with
        | zero => rfl
        | succ k ih => rw [lnP_s, List.length_append, ih]; simp; omega
      have := pinsN_le (kd t)
      rw [h3]; omega
  have := h2 n
  omega
theorem line_of {kd : Nat → Int32} {n f : Nat} (h : f ∈ lnL kd n) : f / 6 < n ∧ (f % 6 / 2 = 0 ∨ ¬ kd (f / 6) = (-1)) := by
  obtain ⟨h1, h2⟩ := mem_lnL.mp h
  refine ⟨h1, ?_⟩
  by_cases e : f % 6 / 2 = 0
  · exact Or.inl e
  · exact Or.inr (pinsN_gate (p := f % 6 / 2 - 1) (by omega))
def fltI (f wh : Nat) (c : Int32) : Int32 := if wh = 0 then nI (f / 6) else if wh = 1 then nI (f % 6 / 2) - nI 1 else if wh = 2 then nI (f % 2) else c
theorem leastF_lt {g : Nat → Int64} : ∀ f w, ¬ leastF g f w = (-1) → ∃ k, k < f ∧ leastF g f w = nI ((w + k) * 64 + lowN (g (w + k))) ∧ ¬ g (w + k) = 0 := by
  intro f
  induction f with
  | zero => intro w h; exact absurd rfl h
  | succ f ih =>
    intro w h
    rw [leastF] at h ⊢
    by_cases e : g w = 0
    · rw [if_pos e] at h ⊢
      obtain ⟨k, h1, h2, h3⟩ := ih (w + 1) h
      refine ⟨k + 1, by omega, ?_, ?_⟩
      · rw [h2, show w + 1 + k = w + (k + 1) by omega]
      · rw [show w + (k + 1) = w + 1 + k by omega]; exact h3
    · rw [if_neg e] at h ⊢
      exact ⟨0, by omega, rfl, e⟩
/-- a test is an assignment of the inputs there are -/
theorem mask_bit : ∀ ni, ni < 6 → ∀ i, i < 64 → bitB (maskW ni) i = decide (i < 2 ^ ni) := by decide +kernel
theorem test_ok {g : Nat → Int64} {ni : Nat} (hni : ni ≤ 10) (h : ¬ leastF (fun w => g w &&& maskW ni) (wordsN ni) 0 = (-1)) : ∃ a, a < 2 ^ ni ∧ a / 64 < wordsN ni ∧ leastF (fun w => g w &&& maskW ni) (wordsN ni) 0 = nI a := by
  obtain ⟨k, hk, he, h0⟩ := leastF_lt _ _ h
  rw [Nat.zero_add] at he h0
  have hl := lowN_lt (g k &&& maskW ni)
  refine ⟨k * 64 + lowN (g k &&& maskW ni), ?_, by omega, he⟩
  by_cases h6 : 6 ≤ ni
  · have hw : wordsN ni * 64 = 2 ^ ni := by
      by_cases h7 : 6 < ni
      · unfold wordsN
        rw [if_neg (by omega)]
        rw [show (64 : Nat) = 2 ^ 6 from rfl, ← Nat.pow_add]
        congr 1
        omega
      · have : ni = 6 := by omega
        subst this; rfl
    omega
  · have hw : wordsN ni = 1 := by unfold wordsN; rw [if_pos (by omega)]
    have hk0 : k = 0 := by omega
    have hb := (low_bit h0).1
    rw [bitB_and, Bool.and_eq_true, mask_bit ni (by omega) _ hl] at hb
    have := of_decide_eq_true hb.2
    omega

theorem ncl_le {kd s0 s1 on : Nat → Int32} {n no : Nat} (hn : n ≤ 100) : ncl kd s0 s1 on n no ≤ 600 := by
  have h : CGood kd s0 s1 on n no (enE (RR kd s0 s1 on n no) (lnL kd n) (fun _ => 0, fun _ => 0, fun _ => 0, 0)).1 (enE (RR kd s0 s1 on n no) (lnL kd n) (fun _ => 0, fun _ => 0, fun _ => 0, 0)).2.1 (enE (RR kd s0 s1 on n no) (lnL kd n) (fun _ => 0, fun _ => 0, fun _ => 0, 0)).2.2.1 (enE (RR kd s0 s1 on n no) (lnL kd n) (fun _ => 0, fun _ => 0, fun _ => 0, 0)).2.2.2 := ⟨(fun _ => 0, fun _ => 0, fun _ => 0, 0), rfl, rfl⟩
  rw [← h.cs]
  exact h.le hn
theorem test_shw {kd s0 s1 on : Nat → Int32} {vl : Nat → Int64} {n ni no f : Nat} (hni : ni ≤ 10) (h : ¬ leastF (fun w => shw kd s0 s1 on vl n ni no f w) (wordsN ni) 0 = (-1)) : ∃ a, a < 2 ^ ni ∧ a / 64 < wordsN ni ∧ leastF (fun w => shw kd s0 s1 on vl n ni no f w) (wordsN ni) 0 = nI a :=
  test_ok (g := fun w => (fwF kd s0 s1 vl f w ^^^ vl (w * 100 + f / 6)) &&& eff kd s0 s1 on vl n no w (f / 6)) hni h
theorem knownN_nI {ni a : Nat} (hni : ni ≤ 10) (ha : a < 2 ^ ni) : knownN ni (nI a) = a := by
  have h2 : 2 ^ ni ≤ 2 ^ 10 := Nat.pow_le_pow_right (by decide) hni
  unfold knownN
  rw [pk_tn (by omega)]
  exact Nat.mod_eq_of_lt ha
theorem cnt_upd {f : Nat → Int32} {k : Nat} (h0 : f k = 0) : ∀ cs, cntF (fun j => decide (¬ upd f k (nI 1) j = 0)) cs = cntF (fun j => decide (¬ f j = 0)) cs + (if k < cs then 1 else 0) := by
  intro cs
  induction cs with
  | zero => simp [cntF]
  | succ cs ih =>
    rw [cntF_s, cntF_s, ih]
    by_cases h : cs = k
    · subst h
      have e1 : decide (¬ upd f cs (nI 1) cs = 0) = true := by rw [pk_us]; decide
      have e2 : decide (¬ f cs = 0) = false := by simp [h0]
      rw [e1, e2]
      simp
    · rw [pk_un h]
      by_cases h1 : k < cs
      · rw [if_pos h1, if_pos (show k < cs + 1 by omega)]; omega
      · rw [if_neg h1, if_neg (show ¬ k < cs + 1 by omega)]; omega
theorem fndF_cnt (sb : Nat → Bool) (fd : Nat → Int32) (cs : Nat) : cntF (fun k => decide (¬ (fndF sb fd cs).1 k = 0)) cs = cntF (fun k => decide (¬ fd k = 0)) cs + (fndF sb fd cs).2 := by
  have H : ∀ m, m ≤ cs → cntF (fun k => decide (¬ (fndF sb fd m).1 k = 0)) cs = cntF (fun k => decide (¬ fd k = 0)) cs + (fndF sb fd m).2 := by
    intro m
    induction m with
    | zero => intro _; rfl
    | succ m ih =>
      intro hm
      have ih := ih (by omega)
      rw [fndF]
      split
      · rename_i hc
        show cntF (fun k => decide (¬ upd (fndF sb fd m).1 m (nI 1) k = 0)) cs = _ + ((fndF sb fd m).2 + 1)
        rw [cnt_upd hc.1, ih, if_pos (by omega)]
        omega
      · exact ih
  exact H cs (Nat.le_refl _)
theorem bit_of {v : Int32} (h : v = 0 ∨ v = nI 1) : ∃ j, j < 2 ∧ v = nI j := by
  rcases h with h | h
  · exact ⟨0, by decide, h⟩
  · exact ⟨1, by decide, h⟩
theorem bits_ok {n : Nat} {net v wh : Int32} (h1 : isN n net) (h2 : v = 0 ∨ v = nI 1) (h3 : wh = 0 ∨ wh = nI 1) : isN n net ∧ ¬ v < 0 ∧ ¬ nI 1 < v ∧ ¬ wh < 0 ∧ wh ≤ nI 1 := by
  refine ⟨h1, ?_, ?_, ?_, ?_⟩
  · rcases h2 with rfl | rfl <;> decide
  · rcases h2 with rfl | rfl <;> decide
  · rcases h3 with rfl | rfl <;> decide
  · rcases h3 with rfl | rfl <;> decide
theorem gCode_1 {n : Nat} {k a b : Int32} (h : gCode n k a b = 1) : ¬ isN n a ∨ (¬ onePin k ∧ ¬ isN n b) := by
  unfold gCode at h
  by_cases h1 : ¬ isN n a ∨ (¬ onePin k ∧ ¬ isN n b)
  · exact h1
  · rw [if_neg h1] at h
    split at h
    · cases h
    · split at h <;> cases h
theorem gCode_a {n w : Nat} {k a b : Int32} (h : gCode n k a b = w) (hw : ¬ w = 1) : isN n a ∧ (onePin k ∨ isN n b) := by
  unfold gCode at h
  by_cases h1 : ¬ isN n a ∨ (¬ onePin k ∧ ¬ isN n b)
  · rw [if_pos h1] at h; exact absurd h.symm hw
  · by_cases ha : isN n a
    · refine ⟨ha, ?_⟩
      by_cases hk : onePin k
      · exact Or.inl hk
      · by_cases hb : isN n b
        · exact Or.inr hb
        · exact absurd (Or.inr ⟨hk, hb⟩) h1
    · exact absurd (Or.inl ha) h1
theorem gCode_2 {n : Nat} {k a b : Int32} (h : gCode n k a b = 2) : n = 100 := by
  unfold gCode at h
  split at h
  · cases h
  · split at h
    · assumption
    · split at h <;> cases h
theorem gCode_3 {n : Nat} {k a b : Int32} (h : gCode n k a b = 3) : ¬ n = 100 ∧ (k < 0 ∨ ¬ k ≤ nI 6) := by
  unfold gCode at h
  split at h
  · cases h
  · split at h
    · cases h
    · split at h
      · exact ⟨by assumption, by assumption⟩
      · cases h
theorem gCode_0 {n : Nat} {k a b : Int32} (h : gCode n k a b = 0) : (isN n a ∧ (onePin k ∨ isN n b)) ∧ ¬ n = 100 ∧ ¬ k < 0 ∧ k ≤ nI 6 := by
  refine ⟨gCode_a h (by decide), ?_⟩
  have ha := gCode_a h (by decide)
  unfold gCode at h
  rw [if_neg (by intro h9; rcases h9 with h9 | h9; exact h9 ha.1; rcases ha.2 with h8 | h8; exact h9.1 h8; exact h9.2 h8)] at h
  split at h
  · cases h
  · split at h
    · cases h
    · rename_i h1 h2
      refine ⟨h1, fun h9 => h2 (Or.inl h9), ?_⟩
      by_cases h9 : k ≤ nI 6
      · exact h9
      · exact absurd (Or.inr h9) h2
