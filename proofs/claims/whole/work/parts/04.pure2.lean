abbrev isN (n : Nat) (a : Int32) : Prop := ¬ a < 0 ∧ ¬ nI n ≤ a
theorem isN_of {n : Nat} {a : Int32} (hn : n < 2 ^ 31) (h : isN n a) : ∃ j : Nat, j < n ∧ a = nI j := by
  rcases pk_ix a hn with h1 | h1 | h1
  · exact absurd h1 h.1
  · exact absurd h1 h.2
  · exact h1
theorem isN_nI {n j : Nat} (hn : n < 2 ^ 31) (h : j < n) : isN n (nI j) := ⟨nI_pos (by omega), by rw [zc_le hn (by omega)]; omega⟩
def srcF (s0 s1 : Nat → Int32) (j pn : Nat) : Int32 := if pn = 0 then s0 j else s1 j
def addV (k : Int32) (a b n : Nat) (vl : Nat → Int64) : Nat → Nat → Int64
  | 0 => vl
  | w + 1 => vp_updL (addV k a b n vl w) (w * 100 + n) (gw k (addV k a b n vl w (w * 100 + a)) (addV k a b n vl w (w * 100 + b)))
def leastF (g : Nat → Int64) : Nat → Nat → Int32
  | 0, _ => -1
  | f + 1, w => if g w = 0 then leastF g f (w + 1) else nI (w * 64 + lowN (g w))
theorem leastF_end {g : Nat → Int64} {k w : Nat} (h : k ≤ w) : leastF g (k - w) w = -1 := by
  rw [Nat.sub_eq_zero_of_le h]; rfl
theorem leastF_hit {g : Nat → Int64} {k w : Nat} (h : w < k) (h0 : ¬ g w = 0) : leastF g (k - w) w = nI (w * 64 + lowN (g w)) := by
  rw [show k - w = (k - w - 1) + 1 by omega, leastF, if_neg h0]
theorem leastF_next {g : Nat → Int64} {k w : Nat} (h : w < k) (h0 : g w = 0) : leastF g (k - w) w = leastF g (k - (w + 1)) (w + 1) := by
  rw [show k - w = (k - (w + 1)) + 1 by omega, leastF, if_pos h0]
