/-! bits of a word, the count of its ones, its lowest one -/
def bitB (x : Int64) (k : Nat) : Bool := x.toBitVec.getLsbD k
theorem i64_ext {x y : Int64} (h : ∀ i, i < 64 → bitB x i = bitB y i) : x = y := by
  have : x.toBitVec = y.toBitVec := BitVec.eq_of_getLsbD_eq (fun i hi => h i hi)
  exact Int64.toBitVec_inj.mp this
theorem bitB_and (x y : Int64) (i : Nat) : bitB (x &&& y) i = (bitB x i && bitB y i) := by simp [bitB]
theorem bitB_or (x y : Int64) (i : Nat) : bitB (x ||| y) i = (bitB x i || bitB y i) := by simp [bitB]
theorem bitB_xor (x y : Int64) (i : Nat) : bitB (x ^^^ y) i = (bitB x i ^^ bitB y i) := by simp [bitB]
theorem bitB_m1 : ∀ i, i < 64 → bitB (-1) i = true := by decide
theorem bitB_0 (i : Nat) : bitB 0 i = false := by simp [bitB]
theorem bitB_ex {x : Int64} (h : ¬ x = 0) : ∃ k, k < 64 ∧ bitB x k = true := by
  by_cases hh : ∃ k, k < 64 ∧ bitB x k = true
  · exact hh
  · exact absurd (i64_ext (fun i hi => by rw [bitB_0]; cases e : bitB x i; rfl; exact absurd ⟨i, hi, e⟩ hh)) h
theorem lowN_eq {x : Int64} {k : Nat} (hk : k < 64) (h1 : bitB x k = true) (h0 : ∀ j, j < k → bitB x j = false) : lowN x = k := by
  unfold lowN
  have : (List.range 64).find? (fun k => x.toBitVec.getLsbD k) = some k := by
    rw [List.find?_range_eq_some]
    exact ⟨h1, List.mem_range.mpr hk, fun j hj => by simpa [bitB] using h0 j hj⟩
  rw [this]; rfl
theorem us_amt {a : Nat} (ha : a < 2 ^ 31) : ((nI a).toInt64.toUInt64 &&& Int64.toUInt64 63).toNat = a % 64 := by
  rw [nI_l ha]
  have h1 : (lN a).toUInt64 = UInt64.ofNat a := rfl
  rw [h1]
  have h2 : (Int64.toUInt64 63).toNat = 2 ^ 6 - 1 := by decide
  rw [UInt64.toNat_and, h2, Nat.and_two_pow_sub_one_eq_mod]
  have h3 : (UInt64.ofNat a).toNat = a := by
    rw [UInt64.toNat_ofNat']
    exact Nat.mod_eq_of_lt (by omega)
  rw [h3]
theorem us_nat (x : Int64) {a : Nat} (ha : a < 2 ^ 31) : (x.toUInt64 >>> ((nI a).toInt64.toUInt64 &&& Int64.toUInt64 63)).toInt64.toBitVec.toNat = x.toBitVec.toNat >>> (a % 64) := by
  show (x.toUInt64 >>> ((nI a).toInt64.toUInt64 &&& Int64.toUInt64 63)).toNat = _
  rw [UInt64.toNat_shiftRight, us_amt ha, Nat.mod_mod]
  rfl
theorem ush1 {x : Int64} {a : Nat} (ha : a < 2 ^ 31) : (x.toUInt64 >>> ((nI a).toInt64.toUInt64 &&& Int64.toUInt64 63)).toInt64 &&& 1 = if bitB x (a % 64) then 1 else 0 := by
  apply i64_ext
  intro i hi
  rw [bitB_and]
  have h1 : bitB (x.toUInt64 >>> ((nI a).toInt64.toUInt64 &&& Int64.toUInt64 63)).toInt64 i = bitB x (a % 64 + i) := by
    unfold bitB
    rw [← BitVec.testBit_toNat, us_nat x ha, Nat.testBit_shiftRight, BitVec.testBit_toNat]
  rw [h1]
  by_cases h0 : i = 0
  · subst h0
    cases h2 : bitB x (a % 64)
    · simp [h2, bitB_0]
    · simp [h2]
  · have h3 : bitB 1 i = false := by
      have : ∀ i, i < 64 → i ≠ 0 → bitB 1 i = false := by decide
      exact this i hi h0
    rw [h3, Bool.and_false]
    split
    · exact h3.symm
    · exact (bitB_0 i).symm
theorem sh_amt : ∀ k, k < 64 → ((((nI k).toInt64 &&& 63 : Int64).toBitVec).smod 64).toNat = k := by decide
theorem sh1 {x : Int64} {k : Nat} (hk : k < 64) : x >>> ((nI k).toInt64 &&& 63) &&& 1 = if bitB x k then 1 else 0 := by
  apply i64_ext
  intro i hi
  rw [bitB_and]
  by_cases h0 : i = 0
  · subst h0
    have h1 : bitB (x >>> ((nI k).toInt64 &&& 63)) 0 = bitB x k := by
      unfold bitB
      show (BitVec.sshiftRight x.toBitVec ((((nI k).toInt64 &&& 63 : Int64).toBitVec).smod 64).toNat).getLsbD 0 = _
      rw [sh_amt k hk, BitVec.getLsbD_sshiftRight]
      simp [hk]
    rw [h1]
    cases h2 : bitB x k
    · simp [bitB_0]
    · simp
  · have h3 : bitB 1 i = false := by
      have : ∀ i, i < 64 → i ≠ 0 → bitB 1 i = false := by decide
      exact this i hi h0
    rw [h3, Bool.and_false]
    split
    · exact h3.symm
    · exact (bitB_0 i).symm
theorem low_bit {x : Int64} (h : ¬ x = 0) : bitB x (lowN x) = true ∧ ∀ j, j < lowN x → bitB x j = false := by
  obtain ⟨k, ⟨hk, h1⟩, h2⟩ := pk_least (fun k => k < 64 ∧ bitB x k = true) (bitB_ex h)
  have h3 : ∀ j, j < k → bitB x j = false := fun j hj => by
    cases hb : bitB x j
    · rfl
    · exact absurd ⟨by omega, hb⟩ (h2 j hj)
  rw [lowN_eq hk h1 h3]
  exact ⟨h1, h3⟩
def bval : List Nat → Nat
  | [] => 0
  | b :: bs => b + 256 * bval bs
def mrep (c : Nat) : Nat → Nat
  | 0 => 0
  | k + 1 => c + 256 * mrep c k
theorem and_split {a b c d : Nat} (hb : b < 256) (hd : d < 256) : (b + 256 * a) &&& (d + 256 * c) = (b &&& d) + 256 * (a &&& c) := by
  have h1 : ((b + 256 * a) &&& (d + 256 * c)) % 2 ^ 8 = b &&& d := by
    rw [Nat.and_mod_two_pow, show (b + 256 * a) % 2 ^ 8 = b by omega, show (d + 256 * c) % 2 ^ 8 = d by omega]
  have h2 : ((b + 256 * a) &&& (d + 256 * c)) / 2 ^ 8 = a &&& c := by
    rw [Nat.and_div_two_pow, show (b + 256 * a) / 2 ^ 8 = a by omega, show (d + 256 * c) / 2 ^ 8 = c by omega]
  omega
def b1 (b : Nat) : Nat := b - (b / 2 &&& 0x55)
def b2 (b : Nat) : Nat := (b &&& 0x33) + (b / 4 &&& 0x33)
def b3 (b : Nat) : Nat := (b + b / 16) &&& 0x0f
theorem b1_x : ∀ lo, lo < 256 → ∀ h, h < 2 → (h * 128 + lo / 2) &&& 0x55 = lo / 2 &&& 0x55 := by decide +kernel
theorem b2_x : ∀ lo, lo < 256 → ∀ h, h < 4 → (h * 64 + lo / 4) &&& 0x33 = lo / 4 &&& 0x33 := by decide +kernel
theorem b3_x : ∀ lo, lo < 256 → lo % 16 ≤ 4 → lo / 16 ≤ 4 → ∀ h, h < 5 → lo + (h * 16 + lo / 16) < 256 ∧ (lo + (h * 16 + lo / 16)) &&& 0x0f = b3 lo := by decide +kernel
theorem bval_1 : ∀ bs : List Nat, (∀ b ∈ bs, b < 256) → bval bs - (bval bs / 2 &&& mrep 0x55 bs.length) = bval (bs.map b1) := by
  intro bs
  induction bs with
  | nil => intro _; rfl
  | cons b bs ih =>
    intro h
    have hb := h b List.mem_cons_self
    have ih := ih (fun x hx => h x (List.mem_cons_of_mem _ hx))
    show (b + 256 * bval bs) - ((b + 256 * bval bs) / 2 &&& (0x55 + 256 * mrep 0x55 bs.length)) = b1 b + 256 * bval (bs.map b1)
    have e : (b + 256 * bval bs) / 2 = ((bval bs % 2) * 128 + b / 2) + 256 * (bval bs / 2) := by omega
    rw [e, and_split (by omega) (by decide), b1_x b hb _ (Nat.mod_lt _ (by decide)), ← ih]
    have l1 : (b / 2 &&& 0x55) ≤ b / 2 := Nat.and_le_left
    have l2 : (bval bs / 2 &&& mrep 0x55 bs.length) ≤ bval bs / 2 := Nat.and_le_left
    unfold b1
    omega
theorem bval_2 : ∀ bs : List Nat, (∀ b ∈ bs, b < 256) → (bval bs &&& mrep 0x33 bs.length) + (bval bs / 4 &&& mrep 0x33 bs.length) = bval (bs.map b2) := by
  intro bs
  induction bs with
  | nil => intro _; rfl
  | cons b bs ih =>
    intro h
    have hb := h b List.mem_cons_self
    have ih := ih (fun x hx => h x (List.mem_cons_of_mem _ hx))
    show ((b + 256 * bval bs) &&& (0x33 + 256 * mrep 0x33 bs.length)) + ((b + 256 * bval bs) / 4 &&& (0x33 + 256 * mrep 0x33 bs.length)) = b2 b + 256 * bval (bs.map b2)
    have e : (b + 256 * bval bs) / 4 = ((bval bs % 4) * 64 + b / 4) + 256 * (bval bs / 4) := by omega
    rw [e, and_split hb (by decide), and_split (by omega) (by decide), b2_x b hb _ (Nat.mod_lt _ (by decide)), ← ih]
    unfold b2
    omega
def bok (b : Nat) : Prop := b < 256 ∧ b % 16 ≤ 4 ∧ b / 16 ≤ 4
theorem bval_16 : ∀ bs : List Nat, (∀ b ∈ bs, bok b) → bval bs % 16 ≤ 4 := by
  intro bs h
  cases bs with
  | nil => decide
  | cons b bs =>
    have := (h b List.mem_cons_self).2.1
    show (b + 256 * bval bs) % 16 ≤ 4
    omega
theorem bval_3 : ∀ bs : List Nat, (∀ b ∈ bs, bok b) → (bval bs + bval bs / 16) &&& mrep 0x0f bs.length = bval (bs.map b3) := by
  intro bs
  induction bs with
  | nil => intro _; rfl
  | cons b bs ih =>
    intro h
    have hb := h b List.mem_cons_self
    have hh : ∀ x ∈ bs, bok x := fun x hx => h x (List.mem_cons_of_mem _ hx)
    have ih := ih hh
    have h16 := bval_16 bs hh
    show ((b + 256 * bval bs) + (b + 256 * bval bs) / 16) &&& (0x0f + 256 * mrep 0x0f bs.length) = b3 b + 256 * bval (bs.map b3)
    obtain ⟨hx1, hx2⟩ := b3_x b hb.1 hb.2.1 hb.2.2 (bval bs % 16) (by omega)
    have e : (b + 256 * bval bs) + (b + 256 * bval bs) / 16 = (b + ((bval bs % 16) * 16 + b / 16)) + 256 * (bval bs + bval bs / 16) := by omega
    rw [e, and_split hx1 (by decide), hx2, ← ih]
def pcb (b : Nat) : Nat := (List.range 8).countP (fun k => b.testBit k)
theorem b123 : ∀ b, b < 256 → b1 b < 256 ∧ bok (b2 (b1 b)) ∧ b3 (b2 (b1 b)) = pcb b ∧ pcb b ≤ 8 := by unfold bok; decide +kernel
theorem cnt_split (X k : Nat) : (List.range (8 + k)).countP (fun i => X.testBit i) = pcb (X % 256) + (List.range k).countP (fun i => (X / 256).testBit i) := by
  rw [List.range_add, List.countP_append, List.countP_map]
  congr 1
  · unfold pcb
    apply List.countP_congr
    intro i hi
    have := List.mem_range.mp hi
    rw [show (256 : Nat) = 2 ^ 8 from rfl, Nat.testBit_mod_two_pow]
    simp [this]
  · apply List.countP_congr
    intro i hi
    show X.testBit (8 + i) = true ↔ _
    rw [show (256 : Nat) = 2 ^ 8 from rfl, Nat.testBit_div_two_pow, Nat.add_comm]

abbrev tN (x : Int64) : Nat := x.toBitVec.toNat
theorem tN_lt (x : Int64) : tN x < 2 ^ 64 := x.toBitVec.isLt
theorem tN_us (x : Int64) {k : Nat} (hk : k < 64) : tN (ushr k x) = tN x / 2 ^ k := by
  unfold ushr tN
  rw [us_nat x (by omega), Nat.mod_eq_of_lt hk, Nat.shiftRight_eq_div_pow]
theorem tN_and (x y : Int64) : tN (x &&& y) = tN x &&& tN y := by
  show (x.toBitVec &&& y.toBitVec).toNat = _
  rw [BitVec.toNat_and]
theorem tN_add {x y : Int64} (h : tN x + tN y < 2 ^ 64) : tN (x + y) = tN x + tN y := by
  show (x.toBitVec + y.toBitVec).toNat = _
  rw [BitVec.toNat_add, Nat.mod_eq_of_lt h]
theorem tN_sub {x y : Int64} (h : tN y ≤ tN x) : tN (x - y) = tN x - tN y := by
  show (x.toBitVec - y.toBitVec).toNat = _
  have h1 := tN_lt x
  have h2 := tN_lt y
  rw [BitVec.toNat_sub]
  show (2 ^ 64 - tN y + tN x) % 2 ^ 64 = _
  omega
def byts (X : Nat) : Nat → List Nat
  | 0 => []
  | k + 1 => X % 256 :: byts (X / 256) k
theorem byts_val : ∀ k X, X < 256 ^ k → bval (byts X k) = X := by
  intro k
  induction k with
  | zero => intro X h; show 0 = X; omega
  | succ k ih =>
    intro X h
    show X % 256 + 256 * bval (byts (X / 256) k) = X
    rw [ih (X / 256) (Nat.div_lt_of_lt_mul (by rw [Nat.pow_succ, Nat.mul_comm] at h; exact h))]
    omega
theorem byts_lt : ∀ k X, ∀ b ∈ byts X k, b < 256 := by
  intro k
  induction k with
  | zero => intro X b h; cases h
  | succ k ih =>
    intro X b h
    rcases List.mem_cons.mp h with rfl | h
    · omega
    · exact ih _ b h
theorem byts_len : ∀ k X, (byts X k).length = k := by
  intro k
  induction k with
  | zero => intro X; rfl
  | succ k ih => intro X; show (byts (X / 256) k).length + 1 = k + 1; rw [ih]
def ssum : List Nat → Nat
  | [] => 0
  | b :: bs => b + ssum bs
theorem byts_cnt : ∀ k X, (List.range (8 * k)).countP (fun i => X.testBit i) = ssum ((byts X k).map pcb) := by
  intro k
  induction k with
  | zero => intro X; rfl
  | succ k ih =>
    intro X
    rw [show 8 * (k + 1) = 8 + 8 * k by omega, cnt_split, ih]
    rfl
theorem bval_lt {c : Nat} : ∀ bs : List Nat, (∀ b ∈ bs, b < 256) → bval bs < 256 ^ bs.length := by
  intro bs
  induction bs with
  | nil => intro _; decide
  | cons b bs ih =>
    intro h
    have h1 := ih (fun x hx => h x (List.mem_cons_of_mem _ hx))
    have h2 := h b List.mem_cons_self
    show b + 256 * bval bs < 256 ^ (bs.length + 1)
    rw [Nat.pow_succ]
    omega
theorem dv1 {y c t : Nat} (hc : c < 256) (h : y = c + 256 * t) : y / 256 = t := by omega
theorem ad1 {a b c d s t x y z : Nat} (hx : x = a + 256 * s) (hy : y = b + 256 * t) (hz : z = s + t) : x + y = (a + b) + 256 * z := by omega
theorem fold8 {c0 c1 c2 c3 c4 c5 c6 c7 y w z r : Nat} (h0 : c0 ≤ 8) (h1 : c1 ≤ 8) (h2 : c2 ≤ 8) (h3 : c3 ≤ 8) (h4 : c4 ≤ 8) (h5 : c5 ≤ 8) (h6 : c6 ≤ 8) (h7 : c7 ≤ 8)
    (hy : y = c0 + 256 * (c1 + 256 * (c2 + 256 * (c3 + 256 * (c4 + 256 * (c5 + 256 * (c6 + 256 * (c7 + 256 * 0)))))))) (hw : w = y + y / 256) (hz : z = w + w / 65536) (hr : r = z + z / 4294967296) :
    r % 128 = c0 + (c1 + (c2 + (c3 + (c4 + (c5 + (c6 + (c7 + 0))))))) := by
  obtain ⟨t7, k7⟩ : ∃ t, t = c7 + 256 * 0 := ⟨_, rfl⟩
  rw [← k7] at hy
  obtain ⟨t6, k6⟩ : ∃ t, t = c6 + 256 * t7 := ⟨_, rfl⟩
  rw [← k6] at hy
  obtain ⟨t5, k5⟩ : ∃ t, t = c5 + 256 * t6 := ⟨_, rfl⟩
  rw [← k5] at hy
  obtain ⟨t4, k4⟩ : ∃ t, t = c4 + 256 * t5 := ⟨_, rfl⟩
  rw [← k4] at hy
  obtain ⟨t3, k3⟩ : ∃ t, t = c3 + 256 * t4 := ⟨_, rfl⟩
  rw [← k3] at hy
  obtain ⟨t2, k2⟩ : ∃ t, t = c2 + 256 * t3 := ⟨_, rfl⟩
  rw [← k2] at hy
  obtain ⟨t1, k1⟩ : ∃ t, t = c1 + 256 * t2 := ⟨_, rfl⟩
  rw [← k1] at hy
  rw [dv1 (by omega) hy] at hw
  have u0 := ad1 (c := 0) (d := 0) hy k1 rfl
  have u1 := ad1 (c := 0) (d := 0) k1 k2 rfl
  have u2 := ad1 (c := 0) (d := 0) k2 k3 rfl
  have u3 := ad1 (c := 0) (d := 0) k3 k4 rfl
  have u4 := ad1 (c := 0) (d := 0) k4 k5 rfl
  have u5 := ad1 (c := 0) (d := 0) k5 k6 rfl
  have u6 := ad1 (c := 0) (d := 0) k6 k7 rfl
  rw [← hw] at u0
  have e1 : w / 65536 = t2 + t3 := by rw [show 65536 = 256 * 256 from rfl, ← Nat.div_div_eq_div_mul, dv1 (by omega) u0, dv1 (by omega) u1]
  rw [e1] at hz
  have v0 := ad1 (c := 0) (d := 0) u0 u2 rfl
  have v1 := ad1 (c := 0) (d := 0) u1 u3 rfl
  have v2 := ad1 (c := 0) (d := 0) u2 u4 rfl
  have v3 := ad1 (c := 0) (d := 0) u3 u5 rfl
  have v4 := ad1 (c := 0) (d := 0) u4 u6 rfl
  rw [← hz] at v0
  have e2 : z / 4294967296 = t4 + t5 + (t6 + t7) := by rw [show 4294967296 = 256 * 256 * 256 * 256 from rfl, ← Nat.div_div_eq_div_mul, ← Nat.div_div_eq_div_mul, ← Nat.div_div_eq_div_mul, dv1 (by omega) v0, dv1 (by omega) v1, dv1 (by omega) v2, dv1 (by omega) v3]
  rw [e2] at hr
  have f0 := ad1 (c := 0) (d := 0) v0 v4 rfl
  rw [← hr] at f0
  clear hy hw hz hr k7 k6 k5 k4 k3 k2 k1 u0 u1 u2 u3 u4 u5 u6 v0 v1 v2 v3 v4 e1 e2
  omega
theorem popW_pop (x : Int64) : popW x = nI (popN x) := by
  have hX := tN_lt x
  have hp : popN x = ssum ((byts (tN x) 8).map pcb) := by
    rw [← byts_cnt]
    unfold popN
    apply List.countP_congr
    intro i hi
    rw [BitVec.testBit_toNat]
  have hv : bval (byts (tN x) 8) = tN x := byts_val 8 _ (by omega)
  have hl := byts_lt 8 (tN x)
  have hn := byts_len 8 (tN x)
  rw [hp]
  generalize byts (tN x) 8 = bs at hv hl hn ⊢
  have m55 : tN 6148914691236517205 = mrep 0x55 8 := by decide +kernel
  have m33 : tN 3689348814741910323 = mrep 0x33 8 := by decide +kernel
  have m0f : tN 1085102592571150095 = mrep 0x0f 8 := by decide +kernel
  have k1 : tN (pw1 x) = bval (bs.map b1) := by
    have h0 : tN (ushr 1 x &&& 6148914691236517205) = bval bs / 2 &&& mrep 0x55 8 := by rw [tN_and, tN_us x (by decide), m55, hv]
    have h1 : tN (ushr 1 x &&& 6148914691236517205) ≤ tN x := by
      rw [h0, hv]
      exact Nat.le_trans Nat.and_le_left (by omega)
    unfold pw1
    rw [tN_sub h1, h0, ← hv, ← hn, bval_1 bs hl]
  have l1 : ∀ b ∈ bs.map b1, b < 256 := fun b hb => by
    obtain ⟨a, ha, rfl⟩ := List.mem_map.mp hb
    exact (b123 a (hl a ha)).1
  have n1 : (bs.map b1).length = 8 := by rw [List.length_map]; exact hn
  have l2 : ∀ b ∈ (bs.map b1).map b2, bok b := fun b hb => by
    obtain ⟨a, ha, rfl⟩ := List.mem_map.mp hb
    obtain ⟨c, hc, rfl⟩ := List.mem_map.mp ha
    exact (b123 c (hl c hc)).2.1
  have n2 : ((bs.map b1).map b2).length = 8 := by rw [List.length_map]; exact n1
  have k2 : tN (pw2 (pw1 x)) = bval ((bs.map b1).map b2) := by
    have h0 : tN (pw1 x &&& 3689348814741910323) + tN (ushr 2 (pw1 x) &&& 3689348814741910323) = bval ((bs.map b1).map b2) := by
      rw [tN_and, tN_and, tN_us _ (by decide), m33, k1, ← n1]
      exact bval_2 _ l1
    have h1 := bval_lt (c := 0) _ (fun b hb => (l2 b hb).1)
    rw [n2] at h1
    unfold pw2
    rw [tN_add (by rw [h0]; exact h1), h0]
  have k3 : tN (pw3 (pw2 (pw1 x))) = bval (((bs.map b1).map b2).map b3) := by
    have h1 : bval ((bs.map b1).map b2) + bval ((bs.map b1).map b2) / 16 < 2 ^ 64 := by
      obtain ⟨c0, c1, c2, c3, c4, c5, c6, c7, e⟩ : ∃ c0 c1 c2 c3 c4 c5 c6 c7, (bs.map b1).map b2 = [c0, c1, c2, c3, c4, c5, c6, c7] := by
        match h : (bs.map b1).map b2, n2 with
        | [c0, c1, c2, c3, c4, c5, c6, c7], _ => exact ⟨c0, c1, c2, c3, c4, c5, c6, c7, rfl⟩
      have h7 := l2 c7 (by rw [e]; simp)
      have h6 := (l2 c6 (by rw [e]; simp)).1
      have h5 := (l2 c5 (by rw [e]; simp)).1
      have h4 := (l2 c4 (by rw [e]; simp)).1
      have h3 := (l2 c3 (by rw [e]; simp)).1
      have h2 := (l2 c2 (by rw [e]; simp)).1
      have h1 := (l2 c1 (by rw [e]; simp)).1
      have h0 := (l2 c0 (by rw [e]; simp)).1
      rw [e]
      have h8 : c7 ≤ 68 := by have := h7.2.1; have := h7.2.2; omega
      simp only [bval]
      omega
    have h2 : tN (ushr 4 (pw2 (pw1 x))) = bval ((bs.map b1).map b2) / 16 := by rw [tN_us _ (by decide), k2]
    unfold pw3
    rw [tN_and, tN_add (by rw [h2, k2]; exact h1), h2, k2, m0f, ← n2]
    exact bval_3 _ l2
  have e3 : ((bs.map b1).map b2).map b3 = bs.map pcb := by
    rw [List.map_map, List.map_map]
    apply List.map_congr_left
    intro a ha
    exact (b123 a (hl a ha)).2.2.1
  rw [e3] at k3
  have l3 : ∀ b ∈ bs.map pcb, b ≤ 8 := fun b hb => by
    obtain ⟨a, ha, rfl⟩ := List.mem_map.mp hb
    exact (b123 a (hl a ha)).2.2.2
  have n3 : (bs.map pcb).length = 8 := by rw [List.length_map]; exact hn
  generalize bs.map pcb = cs at k3 l3 n3 ⊢
  obtain ⟨c0, c1, c2, c3, c4, c5, c6, c7, rfl⟩ : ∃ c0 c1 c2 c3 c4 c5 c6 c7, cs = [c0, c1, c2, c3, c4, c5, c6, c7] := by
    match cs, n3 with
    | [c0, c1, c2, c3, c4, c5, c6, c7], _ => exact ⟨c0, c1, c2, c3, c4, c5, c6, c7, rfl⟩
  have h7 := l3 c7 (by simp)
  have h6 := l3 c6 (by simp)
  have h5 := l3 c5 (by simp)
  have h4 := l3 c4 (by simp)
  have h3 := l3 c3 (by simp)
  have h2 := l3 c2 (by simp)
  have h1 := l3 c1 (by simp)
  have h0 := l3 c0 (by simp)
  unfold popW
  generalize pw3 (pw2 (pw1 x)) = y at k3 ⊢
  simp only [bval] at k3
  simp only [ssum]
  have ky : tN y < 2 ^ 60 := by omega
  have j1 : tN (pwk 8 y) = tN y + tN y / 256 := by
    unfold pwk
    have := tN_us y (k := 8) (by decide)
    rw [tN_add (by rw [this]; omega), this]
  have kw : tN (pwk 8 y) < 2 ^ 61 := by omega
  have j2 : tN (pwk 16 (pwk 8 y)) = tN (pwk 8 y) + tN (pwk 8 y) / 65536 := by
    unfold pwk
    have := tN_us (pwk 8 y) (k := 16) (by decide)
    unfold pwk at this kw
    rw [tN_add (by rw [this]; omega), this]
  have kz : tN (pwk 16 (pwk 8 y)) < 2 ^ 62 := by omega
  have j3 : tN (pwk 32 (pwk 16 (pwk 8 y))) = tN (pwk 16 (pwk 8 y)) + tN (pwk 16 (pwk 8 y)) / 4294967296 := by
    generalize pwk 16 (pwk 8 y) = z at kz ⊢
    unfold pwk
    have := tN_us z (k := 32) (by decide)
    rw [tN_add (by rw [this]; omega), this]
  have hf := fold8 h0 h1 h2 h3 h4 h5 h6 h7 k3 j1 j2 j3
  rw [pk_and _ 7 (by decide)]
  congr 1
  rw [← hf]
  show ((pwk 32 (pwk 16 (pwk 8 y))).toBitVec.signExtend 32).toNat % 2 ^ 7 = _
  rw [BitVec.signExtend_eq_setWidth_of_le _ (by decide), BitVec.toNat_setWidth]
  show tN (pwk 32 (pwk 16 (pwk 8 y))) % 2 ^ 32 % 2 ^ 7 = _
  omega
theorem low_dec {x : Int64} (h : ¬ x = 0) : ∃ q, tN x = 2 ^ lowN x * (2 * q + 1) := by
  obtain ⟨h1, h2⟩ := low_bit h
  have hk := lowN_lt x
  generalize lowN x = k at h1 h2 hk ⊢
  have h3 : tN x % 2 ^ k = 0 := by
    apply Nat.eq_of_testBit_eq
    intro i
    rw [Nat.testBit_mod_two_pow, Nat.zero_testBit]
    by_cases hi : i < k
    · have := h2 i hi
      unfold bitB at this
      rw [← BitVec.testBit_toNat] at this
      rw [this, Bool.and_false]
    · simp [hi]
  have h4 : (tN x / 2 ^ k) % 2 = 1 := by
    have h5 : (tN x / 2 ^ k).testBit 0 = true := by
      rw [Nat.testBit_div_two_pow, Nat.zero_add]
      unfold bitB at h1
      rw [← BitVec.testBit_toNat] at h1
      exact h1
    rw [Nat.testBit_zero] at h5
    exact of_decide_eq_true h5
  refine ⟨tN x / 2 ^ k / 2, ?_⟩
  have h6 := Nat.div_add_mod (tN x) (2 ^ k)
  rw [h3, Nat.add_zero] at h6
  have h7 : 2 * (tN x / 2 ^ k / 2) + 1 = tN x / 2 ^ k := by omega
  rw [h7, h6]
theorem odd_bit (q j : Nat) : (2 * q + 1).testBit j = if j = 0 then true else q.testBit (j - 1) := by
  cases j with
  | zero => rw [Nat.testBit_zero, if_pos rfl]; exact decide_eq_true (by omega)
  | succ j => rw [Nat.testBit_add_one, if_neg (by omega), show (2 * q + 1) / 2 = q by omega]; rfl
theorem eve_bit (q j : Nat) : (2 * q).testBit j = if j = 0 then false else q.testBit (j - 1) := by
  cases j with
  | zero => rw [Nat.testBit_zero, if_pos rfl]; exact decide_eq_false (by omega)
  | succ j => rw [Nat.testBit_add_one, if_neg (by omega), show (2 * q) / 2 = q by omega]; rfl
theorem bitB_T (x : Int64) (i : Nat) : bitB x i = (tN x).testBit i := by unfold bitB; rw [BitVec.testBit_toNat]
theorem step_bit {x : Int64} (h : ¬ x = 0) {i : Nat} (hi : i < 64) : bitB (x &&& (x - 1)) i = (bitB x i && decide (i ≠ lowN x)) := by
  obtain ⟨q, hq⟩ := low_dec h
  generalize lowN x = k at hq ⊢
  have hp : 0 < 2 ^ k := Nat.pow_pos (by decide)
  have h1 : tN (1 : Int64) ≤ tN x := by
    show 1 ≤ tN x
    rw [hq]
    exact Nat.mul_pos hp (by omega)
  have h2 : tN (x - 1) = 2 ^ k * (2 * q) + (2 ^ k - 1) := by
    rw [tN_sub h1, hq, Nat.mul_add, Nat.mul_one]
    show _ - 1 = _
    omega
  rw [bitB_and, bitB_T (x - 1), h2, Nat.testBit_two_pow_mul_add _ (by omega), bitB_T x, hq, Nat.testBit_two_pow_mul]
  by_cases hik : i < k
  · have : ¬ (i ≥ k) := by omega
    simp [this]
  · have e1 : i ≥ k := by omega
    rw [if_neg hik]
    by_cases e2 : i = k
    · subst e2
      rw [Nat.sub_self, eve_bit, if_pos rfl]
      simp
    · rw [odd_bit, eve_bit, if_neg (by omega), if_neg (by omega)]
      simp [e1, e2]
theorem cnt_drop (f : Nat → Bool) {k : Nat} (hf : f k = true) : ∀ n, (List.range n).countP (fun i => f i && decide (i ≠ k)) + (if k < n then 1 else 0) = (List.range n).countP f := by
  intro n
  induction n with
  | zero => rfl
  | succ n ih =>
    rw [List.range_succ, List.countP_append, List.countP_append, ← ih]
    by_cases h : n = k
    · subst h
      simp [hf]
    · by_cases h1 : k < n
      · have h2 : k < n + 1 := by omega
        simp only [h1, h2, if_true]
        simp [h]
        omega
      · have h2 : ¬ k < n + 1 := by omega
        simp only [h1, h2, if_false]
        simp [h]
theorem popN_step {x : Int64} (h : ¬ x = 0) : popN (x &&& (x - 1)) + 1 = popN x := by
  have h1 := cnt_drop (fun i => bitB x i) (low_bit h).1 64
  rw [if_pos (lowN_lt x)] at h1
  have h2 : popN (x &&& (x - 1)) = (List.range 64).countP (fun i => bitB x i && decide (i ≠ lowN x)) := by
    unfold popN
    apply List.countP_congr
    intro i hi
    have := step_bit h (List.mem_range.mp hi)
    unfold bitB at this ⊢
    rw [this]
  rw [h2, h1]
  rfl
theorem neg_T {x : Int64} (h : 0 < tN x) : tN (-x) = 2 ^ 64 - tN x := by
  show (-x.toBitVec).toNat = _
  rw [BitVec.toNat_neg]
  exact Nat.mod_eq_of_lt (Nat.sub_lt (by decide) h)
theorem cnt_lt : ∀ n k, (List.range n).countP (fun i => decide (i < k)) = min n k := by
  intro n
  induction n with
  | zero => intro k; simp
  | succ n ih =>
    intro k
    rw [List.range_succ, List.countP_append, ih]
    by_cases h : n < k
    · simp [h]; omega
    · simp [h]; omega
theorem popW_low {x : Int64} (h : ¬ x = 0) : popW ((x &&& -x) - 1) = nI (lowN x) := by
  obtain ⟨q, hq⟩ := low_dec h
  have hk := lowN_lt x
  rw [popW_pop]
  congr 1
  generalize lowN x = k at hq hk ⊢
  have hp : 0 < 2 ^ k := Nat.pow_pos (by decide)
  have hX := tN_lt x
  have h0 : 0 < tN x := by rw [hq]; exact Nat.mul_pos hp (by omega)
  have hpk : 2 ^ 64 = 2 ^ k * (2 * 2 ^ (63 - k)) := by
    rw [show 2 * 2 ^ (63 - k) = 2 ^ (64 - k) by rw [show 64 - k = (63 - k) + 1 by omega, Nat.pow_succ]; omega, ← Nat.pow_add]
    congr 1
    omega
  have hq2 : q < 2 ^ (63 - k) := by
    rw [hq, hpk] at hX
    have := Nat.lt_of_mul_lt_mul_left hX
    omega
  have hn : tN (-x) = 2 ^ k * (2 * (2 ^ (63 - k) - (q + 1)) + 1) := by
    rw [neg_T h0, hq, hpk, ← Nat.mul_sub]
    congr 1
    omega
  have ha : tN (x &&& -x) = 2 ^ k := by
    rw [tN_and, hq, hn]
    apply Nat.eq_of_testBit_eq
    intro i
    rw [Nat.testBit_and, Nat.testBit_two_pow_mul, Nat.testBit_two_pow_mul, Nat.testBit_two_pow]
    by_cases h1 : i < k
    · have e1 : ¬ (i ≥ k) := by omega
      have e2 : ¬ k = i := by omega
      simp [e1, e2]
    · by_cases h2 : i = k
      · subst h2
        rw [Nat.sub_self, odd_bit, odd_bit, if_pos rfl, if_pos rfl]
        simp
      · have e2 : ¬ k = i := by omega
        rw [odd_bit, odd_bit, if_neg (by omega), if_neg (by omega), Nat.testBit_two_pow_sub_succ hq2]
        cases q.testBit (i - k - 1) <;> simp [e2]
  have hs : tN ((x &&& -x) - 1) = 2 ^ k - 1 := by
    have h1 : tN (1 : Int64) ≤ tN (x &&& -x) := by
      show 1 ≤ _
      rw [ha]; exact hp
    rw [tN_sub h1, ha]
    rfl
  have e : popN ((x &&& -x) - 1) = (List.range 64).countP (fun i => decide (i < k)) := by
    unfold popN
    apply List.countP_congr
    intro i hi
    have := bitB_T ((x &&& -x) - 1) i
    rw [hs, Nat.testBit_two_pow_sub_one] at this
    unfold bitB at this
    rw [this]
  rw [e, cnt_lt]
  omega
