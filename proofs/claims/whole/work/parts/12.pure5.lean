/-- all below a line have entered -/
theorem ent_mem {kd s0 s1 on : Nat → Int32} {n no t p v : Nat} (hwf : WF n kd s0 s1) (ht : t < n) (hp : p < pinsN (kd t) + 1) (hv : v < 2) :
    mrgs (srP kd s0 s1 on n no n) id (FO t p v) = FO t p v ∨ mrgs (srP kd s0 s1 on n no n) id (FO t p v) ∈ lnL kd t ++ lnP kd t p ++ (if v = 0 then [] else [FO t p 0]) := by
  have h2 := pinsN_le (kd t)
  have hm : FO t p v ∈ lnL kd n := mem_lnL.mpr (by
    have e1 : FO t p v / 6 = t := by unfold FO; omega
    have e2 : FO t p v % 6 / 2 = p := by unfold FO; omega
    rw [e1, e2]; exact ⟨ht, hp⟩)
  have h3 := srP_line (on := on) (no := no) hwf hm
  have h4 := srP_le (kd := kd) (s0 := s0) (s1 := s1) (on := on) (n := n) (no := no) (f := FO t p v)
  generalize mrgs (srP kd s0 s1 on n no n) id (FO t p v) = x at h3 h4 ⊢
  obtain ⟨h5, h6⟩ := mem_lnL.mp h3
  by_cases e : x = FO t p v
  · exact Or.inl e
  · right
    have hlt : x < FO t p v := by omega
    unfold FO at hlt e
    by_cases e1 : x / 6 < t
    · exact List.mem_append_left _ (List.mem_append_left _ (mem_lnL.mpr ⟨e1, h6⟩))
    · have e2 : x / 6 = t := by omega
      by_cases e3 : x % 6 / 2 < p
      · exact List.mem_append_left _ (List.mem_append_right _ ((mem_lnP (by omega)).mpr ⟨e2, e3⟩))
      · rw [if_neg (by omega)]
        exact List.mem_append_right _ (List.mem_singleton.mpr (by unfold FO; omega))
theorem ENT.hk {L : List Nat} {b f : Nat} {E : ES} {r : Nat → Nat} (h : ENT L b E) (hr : r f = f ∨ r f ∈ L) : ¬ r f = f → ∃ k, k < E.2.2.2 ∧ E.1 (r f) = nI k := fun e => h.2.2 _ (hr.resolve_left e)
theorem ENT.two {kd s0 s1 on : Nat → Int32} {n no t p : Nat} {E : ES} (h : ENT (lnL kd t ++ lnP kd t p) (6 * t + 2 * p) E) (hwf : WF n kd s0 s1) (ht : t < n) (hp : p < pinsN (kd t) + 1) :
    ENT (lnL kd t ++ lnP kd t (p + 1)) (6 * t + 2 * (p + 1)) (entE (mrgs (srP kd s0 s1 on n no n) id) (FO t p 1) (entE (mrgs (srP kd s0 s1 on n no n) id) (FO t p 0) E)) := by
  have h0 := ent_mem (on := on) (no := no) (v := 0) hwf ht hp (by decide)
  have h1 := ent_mem (on := on) (no := no) (v := 1) hwf ht hp (by decide)
  rw [if_pos rfl, List.append_nil] at h0
  rw [if_neg (by decide)] at h1
  have a := h.ent (f := FO t p 0) (by unfold FO; omega) h0
  have b := a.ent (f := FO t p 1) (by unfold FO; omega) h1
  rw [List.append_assoc, List.append_assoc] at b
  rw [lnP_s]
  have e : FO t p 1 + 1 = 6 * t + 2 * (p + 1) := by unfold FO; omega
  rw [← e]
  exact b
theorem ENT.one {kd s0 s1 on : Nat → Int32} {n no t p : Nat} {E : ES} (h : ENT (lnL kd t ++ lnP kd t p) (6 * t + 2 * p) E) (hwf : WF n kd s0 s1) (ht : t < n) (hp : p < pinsN (kd t) + 1) :
    ENT (lnL kd t ++ lnP kd t p ++ [FO t p 0]) (FO t p 0 + 1) (entE (mrgs (srP kd s0 s1 on n no n) id) (FO t p 0) E) := by
  have h0 := ent_mem (on := on) (no := no) (v := 0) hwf ht hp (by decide)
  rw [if_pos rfl, List.append_nil] at h0
  exact h.ent (f := FO t p 0) (by unfold FO; omega) h0
theorem ent_mem0 {kd s0 s1 on : Nat → Int32} {n no t p : Nat} (hwf : WF n kd s0 s1) (ht : t < n) (hp : p < pinsN (kd t) + 1) :
    mrgs (srP kd s0 s1 on n no n) id (FO t p 0) = FO t p 0 ∨ mrgs (srP kd s0 s1 on n no n) id (FO t p 0) ∈ lnL kd t ++ lnP kd t p := by
  have h0 := ent_mem (on := on) (no := no) (v := 0) hwf ht hp (by decide)
  rwa [if_pos rfl, List.append_nil] at h0
theorem ent_mem1 {kd s0 s1 on : Nat → Int32} {n no t p : Nat} (hwf : WF n kd s0 s1) (ht : t < n) (hp : p < pinsN (kd t) + 1) :
    mrgs (srP kd s0 s1 on n no n) id (FO t p 1) = FO t p 1 ∨ mrgs (srP kd s0 s1 on n no n) id (FO t p 1) ∈ lnL kd t ++ lnP kd t p ++ [FO t p 0] := by
  have h0 := ent_mem (on := on) (no := no) (v := 1) hwf ht hp (by decide)
  rwa [if_neg (by decide)] at h0
theorem uC_lt {kd s0 s1 on : Nat → Int32} {n no q : Nat} (hn : n ≤ 100) (hno : no ≤ 12) : uC kd s0 s1 on n no q < 2 ^ 31 := by
  have h1 : ∀ t, (uL kd s0 s1 t).length ≤ 2 * t := by
    intro t
    induction t with
    | zero => exact Nat.le_refl _
    | succ t ih =>
      rw [uL_s, List.length_append]
      have : (uP s0 s1 t (pinsN (kd t))).length = pinsN (kd t) := by simp [uP]
      have := pinsN_le (kd t)
      omega
  have h2 : (uO on no).length = no := by simp [uO]
  have h3 := h1 n
  have h4 : uC kd s0 s1 on n no q ≤ (uL kd s0 s1 n ++ uO on no).length := List.count_le_length
  rw [List.length_append] at h4
  omega
