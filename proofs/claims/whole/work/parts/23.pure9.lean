theorem allW_bit (x : Nat) : allW (nI (x % 2)) = if x % 2 = 1 then -1 else 0 := by
  rcases Nat.mod_two_eq_zero_or_one x with e | e <;> rw [e] <;> rfl
def addI (ni n : Nat) (vl : Nat → Int64) : Nat → Nat → Int64
  | 0 => vl
  | w + 1 => vp_updL (addI ni n vl w) (w * 100 + n) (inW ni w)
theorem zn_i (N : Nat) (cA : ClassId) : vp_cell cA (N, .inl (fun _ => nI 0)) = arrV cA N (fun _ => defaultValue .int) := rfl
theorem zn_z (N : Nat) (cA : ClassId) : vp_cell cA (N, .inl (fun _ => nI 0)) = arrV cA N (fun _ => defaultValue .boolean) := rfl
theorem zn_l (N : Nat) (cA : ClassId) : vp_cell cA (N, .inr (.inl (fun _ => 0))) = arrV cA N (fun _ => defaultValue .long) := rfl
