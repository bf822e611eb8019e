/-! the pure functions of the leaves -/
abbrev onePin (k : Int32) : Prop := k = nI 5 ∨ k = nI 6
def pinsN (k : Int32) : Nat := if k = (-1) then 0 else if onePin k then 1 else 2
def gw (k : Int32) (a b : Int64) : Int64 := if k = nI 0 then a &&& b else if k = nI 1 then a ||| b else if k = nI 2 then a ^^^ b else if k = nI 3 then (a &&& b) ^^^ (-1) else if k = nI 4 then (a ||| b) ^^^ (-1) else if k = nI 5 then a ^^^ (-1) else a
def allW (v : Int32) : Int64 := if v = 0 then 0 else -1
def bitW (w : Int64) (a : Int32) : Int32 := ((w.toUInt64 >>> (a.toInt64.toUInt64 &&& Int64.toUInt64 63)).toInt64 &&& 1).toInt32
def ushr (k : Nat) (x : Int64) : Int64 := (x.toUInt64 >>> ((nI k).toInt64.toUInt64 &&& Int64.toUInt64 63)).toInt64
def pw1 (x : Int64) : Int64 := x - (ushr 1 x &&& 6148914691236517205)
def pw2 (x : Int64) : Int64 := (x &&& 3689348814741910323) + (ushr 2 x &&& 3689348814741910323)
def pw3 (x : Int64) : Int64 := (x + ushr 4 x) &&& 1085102592571150095
def pwk (k : Nat) (x : Int64) : Int64 := x + ushr k x
def popW (x : Int64) : Int32 := (pwk 32 (pwk 16 (pwk 8 (pw3 (pw2 (pw1 x)))))).toInt32 &&& nI 127
def lowN (x : Int64) : Nat := ((List.range 64).find? (fun k => x.toBitVec.getLsbD k)).getD 0
def popN (x : Int64) : Nat := (List.range 64).countP (fun k => x.toBitVec.getLsbD k)
def wordsN (ni : Nat) : Nat := if ni ≤ 6 then 1 else 2 ^ (ni - 6)
def maskW (ni : Nat) : Int64 := if 6 ≤ ni then -1 else (1 : Int64) <<< ((nI (2 ^ ni)).toInt64 &&& 63) - 1
def knownN (ni : Nat) (a : Int32) : Nat := a.toBitVec.toNat % 2 ^ ni
theorem zs_shl1 : ∀ k, k < 31 → nI 1 <<< (nI k &&& 31) = nI (2 ^ k) := by decide
theorem wordsN_pos (ni : Nat) : 0 < wordsN ni := by
  unfold wordsN
  split
  · decide
  · exact Nat.pow_pos (by decide)
theorem wordsN_le {ni : Nat} (h : ni ≤ 10) : wordsN ni ≤ 16 := by
  unfold wordsN
  split
  · decide
  · exact Nat.le_trans (Nat.pow_le_pow_right (by decide) (show ni - 6 ≤ 4 by omega)) (by decide)
theorem zs_known {ni : Nat} (h : ni ≤ 10) (a : Int32) : a &&& (nI (2 ^ ni) - nI 1) = nI (knownN ni a) := by
  have h1 : (1 : Nat) ≤ 2 ^ ni := Nat.one_le_two_pow
  have h2 : 2 ^ ni ≤ 2 ^ 10 := Nat.pow_le_pow_right (by decide) h
  rw [pk_sub h1]
  exact pk_and a ni (pk_tn (by omega))
theorem knownN_lt {ni : Nat} (h : ni ≤ 10) (a : Int32) : knownN ni a < 2 ^ ni := Nat.mod_lt _ (Nat.pow_pos (by decide))
theorem knownN_w {ni : Nat} (h : ni ≤ 10) (a : Int32) : knownN ni a / 64 < wordsN ni := by
  have h1 := knownN_lt h a
  unfold wordsN
  split
  · rename_i h6
    have : 2 ^ ni ≤ 2 ^ 6 := Nat.pow_le_pow_right (by decide) h6
    omega
  · rename_i h6
    have e : 2 ^ ni = 2 ^ (ni - 6) * 64 := by
      rw [show (64 : Nat) = 2 ^ 6 from rfl, ← Nat.pow_add]
      congr 1
      omega
    rw [e] at h1
    exact Nat.div_lt_of_lt_mul (by rw [Nat.mul_comm]; exact h1)
theorem lowN_lt (x : Int64) : lowN x < 64 := by
  unfold lowN
  cases h : (List.range 64).find? (fun k => x.toBitVec.getLsbD k) with
  | none => decide
  | some k => exact List.mem_range.mp (List.mem_of_find?_eq_some h)
theorem zs_out {k : Int32} {n : Nat} (hn : n < 2 ^ 31) (h : ∀ j, j < n → ¬ k = nI j) : k.toInt < 0 ∨ ((n : Int) - 1) < k.toInt := by
  by_cases h0 : k < 0
  · exact Or.inl (by simpa using Int32.lt_iff_toInt_lt.mp h0)
  · obtain ⟨j, hj, rfl⟩ := nI_of h0
    have : ¬ j < n := fun hlt => h j hlt rfl
    rw [nI_toInt hj]
    omega
