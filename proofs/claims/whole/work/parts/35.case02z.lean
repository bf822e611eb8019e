theorem isLn_of {kd : Nat → Int32} {n j k v : Nat} (hj : j < n) (hp : k < pinsN (kd j) + 1) (hv : v < 2) : isLn kd n (j * 6 + k * 2 + v) := by
  have hpl := pinsN_le (kd j)
  have e4 : (j * 6 + k * 2 + v) / 6 = j := by omega
  have e5 : (j * 6 + k * 2 + v) % 6 / 2 = k := by omega
  unfold isLn
  rw [e4, e5]
  exact ⟨hj, hp⟩
