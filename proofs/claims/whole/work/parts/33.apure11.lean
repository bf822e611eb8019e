/-! class and reference have the same numbers -/
theorem lnF_mem {kd : Nat → Int32} {n m x : Nat} : x ∈ lnF kd n m ↔ x < m ∧ isLn kd n x := by
  unfold lnF
  rw [List.mem_filter, List.mem_range]
  constructor
  · intro h; exact ⟨h.1, of_decide_eq_true h.2⟩
  · intro h; exact ⟨h.1, decide_eq_true h.2⟩
theorem lnF_two {kd : Nat → Int32} {n t q : Nat} (ht : t < n) (hq : q < 3) : lnF kd n (6 * t + 2 * q + 2) = lnF kd n (6 * t + 2 * q) ++ (if q < pinsN (kd t) + 1 then [FO t q 0, FO t q 1] else []) := by
  have e1 : (6 * t + 2 * q) / 6 = t := by omega
  have e2 : (6 * t + 2 * q) % 6 / 2 = q := by omega
  have e3 : (6 * t + 2 * q + 1) / 6 = t := by omega
  have e4 : (6 * t + 2 * q + 1) % 6 / 2 = q := by omega
  by_cases h : q < pinsN (kd t) + 1
  · have y1 : isLn kd n (6 * t + 2 * q) := by unfold isLn; rw [e1, e2]; exact ⟨ht, h⟩
    have y2 : isLn kd n (6 * t + 2 * q + 1) := by unfold isLn; rw [e3, e4]; exact ⟨ht, h⟩
    rw [if_pos h, show 6 * t + 2 * q + 2 = 6 * t + 2 * q + 1 + 1 from rfl, lnF_y y2, lnF_y y1, List.append_assoc]
    have f1 : FO t q 0 = 6 * t + 2 * q := by unfold FO; omega
    have f2 : FO t q 1 = 6 * t + 2 * q + 1 := by unfold FO; omega
    rw [f1, f2]; rfl
  · have y1 : ¬ isLn kd n (6 * t + 2 * q) := by unfold isLn; rw [e1, e2]; exact fun z => h z.2
    have y2 : ¬ isLn kd n (6 * t + 2 * q + 1) := by unfold isLn; rw [e3, e4]; exact fun z => h z.2
    rw [if_neg h, show 6 * t + 2 * q + 2 = 6 * t + 2 * q + 1 + 1 from rfl, lnF_n y2, lnF_n y1, List.append_nil]
theorem lnF_lnL {kd : Nat → Int32} {n : Nat} : ∀ t, t ≤ n → lnF kd n (6 * t) = lnL kd t := by
  intro t
  induction t with
  | zero => intro _; rfl
  | succ t ih =>
    intro h
    have h0 := lnF_two (kd := kd) (n := n) (t := t) (q := 0) (by omega) (by decide)
    have h1 := lnF_two (kd := kd) (n := n) (t := t) (q := 1) (by omega) (by decide)
    have h2 := lnF_two (kd := kd) (n := n) (t := t) (q := 2) (by omega) (by decide)
    rw [show 6 * t + 2 * 2 + 2 = 6 * (t + 1) by omega, show 6 * t + 2 * 2 = 6 * t + 2 * 1 + 2 by omega, h1, show 6 * t + 2 * 1 = 6 * t + 2 * 0 + 2 by omega, h0, show 6 * t + 2 * 0 = 6 * t by omega, ih (by omega)] at h2
    rw [h2, lnL_s]
    have hp := pinsN_le (kd t)
    rcases (show pinsN (kd t) = 0 ∨ pinsN (kd t) = 1 ∨ pinsN (kd t) = 2 by omega) with e | e | e
    · rw [e, lnP_s]; simp [lnP]
    · rw [e, lnP_s, lnP_s]; simp [lnP]
    · rw [e, lnP_s, lnP_s, lnP_s]; simp [lnP]
theorem lnF_stay {kd : Nat → Int32} {n : Nat} : ∀ m, lnF kd n (6 * n + m) = lnF kd n (6 * n) := by
  intro m
  induction m with
  | zero => rfl
  | succ m ih =>
    rw [← Nat.add_assoc, lnF_n (by unfold isLn; omega), ih]
theorem lnF_600 {kd : Nat → Int32} {n : Nat} (hn : n ≤ 100) : lnF kd n 600 = lnL kd n := by
  have := lnF_stay (kd := kd) (n := n) (600 - 6 * n)
  rw [show 6 * n + (600 - 6 * n) = 600 by omega] at this
  rw [this, lnF_lnL n (Nat.le_refl _)]
def SIM (L : List Nat) (E : ES) (M : EM) : Prop :=
  E.2.2.2 = M.2.2 ∧ E.2.2.2 ≤ L.length ∧ (∀ k, k < E.2.2.2 → E.2.1 k = M.2.1 k) ∧ (∀ g ∈ L, E.1 g = M.1 g) ∧ (∀ g ∈ L, ∃ k, k < E.2.2.2 ∧ E.1 g = nI k) ∧ ∀ k, k < E.2.2.2 → E.2.2.1 k = nI (L.countP (fun g => decide (E.1 g = nI k)))
theorem cnt_off {L : List Nat} {f : Nat} (hf : f ∉ L) (u : Nat → Int32) (x v : Int32) : (L ++ [f]).countP (fun g => decide (upd u f x g = v)) = L.countP (fun g => decide (u g = v)) + (if x = v then 1 else 0) := by
  rw [List.countP_append]
  have h1 : L.countP (fun g => decide (upd u f x g = v)) = L.countP (fun g => decide (u g = v)) := by
    apply List.countP_congr
    intro g hg
    have : g ≠ f := fun e => hf (e ▸ hg)
    rw [pk_un this]
  rw [h1]
  congr 1
  by_cases e : x = v
  · simp [pk_us, e]
  · simp [pk_us, e]
theorem SIM.step {L : List Nat} {E : ES} {M : EM} {r : Nat → Nat} {f : Nat} (h : SIM L E M) (hf : f ∉ L) (hr : r f = f ∨ r f ∈ L) (hL : L.length < 2 ^ 30) : SIM (L ++ [f]) (entE r f E) (entM r f M) := by
  obtain ⟨h1, h2, h3, h4, h5, h6⟩ := h
  have hne : ∀ g ∈ L, g ≠ f := fun g hg e => hf (e ▸ hg)
  unfold entE entM
  by_cases e : r f = f
  · rw [if_pos e, if_pos e]
    refine ⟨by show E.2.2.2 + 1 = M.2.2 + 1; rw [h1], by show E.2.2.2 + 1 ≤ (L ++ [f]).length; rw [List.length_append]; exact Nat.succ_le_succ h2, fun k hk => ?_, fun g hg => ?_, fun g hg => ?_, fun k hk => ?_⟩
    · show upd E.2.1 E.2.2.2 (nI f) k = upd M.2.1 M.2.2 (nI f) k
      have hk : k < E.2.2.2 + 1 := hk
      rw [← h1]
      by_cases ek : k = E.2.2.2
      · rw [ek, pk_us, pk_us]
      · rw [pk_un ek, pk_un ek]; exact h3 k (by omega)
    · show upd E.1 f (nI E.2.2.2) g = upd M.1 f (nI M.2.2) g
      rw [← h1]
      rcases List.mem_append.mp hg with q | q
      · rw [pk_un (hne g q), pk_un (hne g q)]; exact h4 g q
      · rw [List.mem_singleton.mp q, pk_us, pk_us]
    · show ∃ k, k < E.2.2.2 + 1 ∧ upd E.1 f (nI E.2.2.2) g = nI k
      rcases List.mem_append.mp hg with q | q
      · obtain ⟨k, a, b⟩ := h5 g q
        exact ⟨k, by omega, by rw [pk_un (hne g q)]; exact b⟩
      · exact ⟨E.2.2.2, by omega, by rw [List.mem_singleton.mp q, pk_us]⟩
    · show upd E.2.2.1 E.2.2.2 (nI 1) k = nI ((L ++ [f]).countP (fun g => decide (upd E.1 f (nI E.2.2.2) g = nI k)))
      have hk : k < E.2.2.2 + 1 := hk
      rw [cnt_off hf]
      by_cases ek : k = E.2.2.2
      · subst ek
        rw [pk_us, if_pos rfl]
        have h0 : L.countP (fun g => decide (E.1 g = nI E.2.2.2)) = 0 := by
          rw [List.countP_eq_zero]
          intro g hg
          obtain ⟨k, a, b⟩ := h5 g hg
          rw [b]
          simp only [decide_eq_true_eq]
          rw [nI_eq (by omega) (by omega)]
          omega
        rw [h0]
      · rw [pk_un ek, if_neg (by rw [nI_eq (by omega) (by omega)]; omega), Nat.add_zero]
        exact h6 k (by omega)
  · rw [if_neg e, if_neg e]
    have hm := hr.resolve_left e
    obtain ⟨k0, a0, b0⟩ := h5 _ hm
    have hcn : cn (E.1 (r f)) = k0 := by rw [b0]; exact nI_clamp (by omega)
    refine ⟨h1, by show E.2.2.2 ≤ (L ++ [f]).length; rw [List.length_append]; omega, h3, fun g hg => ?_, fun g hg => ?_, fun k hk => ?_⟩
    · show upd E.1 f (E.1 (r f)) g = upd M.1 f (M.1 (r f)) g
      rw [h4 _ hm]
      rcases List.mem_append.mp hg with q | q
      · rw [pk_un (hne g q), pk_un (hne g q)]; exact h4 g q
      · rw [List.mem_singleton.mp q, pk_us, pk_us]
    · show ∃ k, k < E.2.2.2 ∧ upd E.1 f (E.1 (r f)) g = nI k
      rcases List.mem_append.mp hg with q | q
      · obtain ⟨k, a, b⟩ := h5 g q
        exact ⟨k, a, by rw [pk_un (hne g q)]; exact b⟩
      · exact ⟨k0, a0, by rw [List.mem_singleton.mp q, pk_us]; exact b0⟩
    · show upd E.2.2.1 (cn (E.1 (r f))) (E.2.2.1 (cn (E.1 (r f))) + nI 1) k = nI ((L ++ [f]).countP (fun g => decide (upd E.1 f (E.1 (r f)) g = nI k)))
      have hk : k < E.2.2.2 := hk
      rw [cnt_off hf, hcn, b0]
      by_cases ek : k = k0
      · subst ek
        rw [pk_us, if_pos rfl, h6 k hk, nI_add]
      · rw [pk_un ek, if_neg (by rw [nI_eq (by omega) (by omega)]; omega), Nat.add_zero]
        exact h6 k hk
theorem lnF_len (kd : Nat → Int32) (n m : Nat) : (lnF kd n m).length ≤ m := by
  unfold lnF
  exact Nat.le_trans (List.length_filter_le _ _) (by rw [List.length_range]; exact Nat.le_refl _)
theorem SIM.all {kd s0 s1 on : Nat → Int32} {n no : Nat} (hwf : WF n kd s0 s1) {E0 : ES} {M0 : EM} (h0 : E0.2.2.2 = 0) (m0 : M0.2.2 = 0) : ∀ m, m ≤ 600 → SIM (lnF kd n m) (enE (RR kd s0 s1 on n no) (lnF kd n m) E0) (mE (RR kd s0 s1 on n no) (lnF kd n m) M0) := by
  intro m
  induction m with
  | zero =>
    intro _
    refine ⟨h0.trans m0.symm, Nat.le_of_eq h0, fun k hk => ?_, fun g hg => ?_, fun g hg => ?_, fun k hk => ?_⟩
    · have hk : k < E0.2.2.2 := hk
      omega
    · exact absurd hg (by intro q; have := (lnF_mem.mp q).1; omega)
    · exact absurd hg (by intro q; have := (lnF_mem.mp q).1; omega)
    · have hk : k < E0.2.2.2 := hk
      omega
  | succ m ih =>
    intro hm
    have ih := ih (by omega)
    by_cases h : isLn kd n m
    · rw [lnF_y h, enE_app, mE_s]
      refine SIM.step ih (fun q => by have := (lnF_mem.mp q).1; omega) ?_ (by have := lnF_len kd n m; omega)
      have hle : RR kd s0 s1 on n no m ≤ m := srP_le
      rcases Nat.lt_or_ge (RR kd s0 s1 on n no m) m with c | c
      · exact Or.inr (lnF_mem.mpr ⟨c, mem_lnL.mp (srP_line hwf (mem_lnL.mpr h))⟩)
      · exact Or.inl (by omega)
    · rw [lnF_n h]; exact ih
/-- the reference's numbers are those of its build -/
def MG (kd s0 s1 on : Nat → Int32) (n no : Nat) (ca cf : Nat → Int32) (cl : Nat) : Prop := ∃ ca0 cf0, (ca, cf, cl) = mE (RR kd s0 s1 on n no) (lnF kd n 600) (ca0, cf0, 0)
theorem MG.joint {kd s0 s1 on : Nat → Int32} {n no : Nat} {ca cf nu fi me : Nat → Int32} {cl cs : Nat} (hM : MG kd s0 s1 on n no ca cf cl) (hwf : WF n kd s0 s1) (hn : n ≤ 100) (hG : CGood kd s0 s1 on n no nu fi me cs) :
    cs = cl ∧ (∀ k, k < cl → fi k = cf k) ∧ (∀ g, isLn kd n g → nu g = ca g) ∧ (∀ k, k < cl → me k = nI (clsC kd ca n k 600)) := by
  obtain ⟨ca0, cf0, hm⟩ := hM
  obtain ⟨E0, h0, he⟩ := hG
  have hS := SIM.all (on := on) (no := no) hwf (E0 := E0) (M0 := (ca0, cf0, 0)) h0 rfl 600 (Nat.le_refl _)
  rw [← hm] at hS
  rw [show enE (RR kd s0 s1 on n no) (lnF kd n 600) E0 = (nu, fi, me, cs) by rw [lnF_600 hn]; exact he.symm] at hS
  obtain ⟨h1, h2, h3, h4, h5, h6⟩ := hS
  have h1 : cs = cl := h1
  subst h1
  refine ⟨rfl, h3, fun g hg => h4 g (lnF_mem.mpr ⟨by have := hg.1; omega, hg⟩), fun k hk => ?_⟩
  refine (h6 k hk).trans ?_
  unfold clsC
  refine congrArg nI ?_
  refine List.countP_congr ?_
  intro g hg
  have h4 := h4 g hg
  show decide (nu g = nI k) = true ↔ decide (ca g = nI k) = true
  rw [show nu g = ca g from h4]
theorem MG.some {kd s0 s1 on : Nat → Int32} {n no : Nat} {ca cf : Nat → Int32} {cl : Nat} (hM : MG kd s0 s1 on n no ca cf cl) (hwf : WF n kd s0 s1) (hn : n ≤ 100) : cl = ncl kd s0 s1 on n no ∧ cl ≤ 600 ∧ CFOK n kd cl cf := by
  obtain ⟨nu, fi, me, cs, hG⟩ : ∃ nu fi me cs, CGood kd s0 s1 on n no nu fi me cs := ⟨_, _, _, _, (fun _ => 0, fun _ => 0, fun _ => 0, 0), rfl, rfl⟩
  obtain ⟨h1, h2, -, -⟩ := hM.joint hwf hn hG
  subst h1
  refine ⟨hG.cs, hG.le hn, fun k hk => ?_⟩
  obtain ⟨a, b, c⟩ := hG.fi hk hn
  rw [← h2 k hk]
  obtain ⟨d, e⟩ := line_of b
  exact ⟨a, d, e, c⟩
theorem MG.zero {kd s0 s1 on : Nat → Int32} {no : Nat} {ca cf : Nat → Int32} : MG kd s0 s1 on 0 no ca cf 0 := ⟨ca, cf, by
  rw [show lnF kd 0 600 = lnL kd 0 from lnF_600 (Nat.zero_le _)]; rfl⟩
/-! what calls keep -/
theorem fndF_congr {sb sb' : Nat → Bool} {fd : Nat → Int32} {c : Nat} (h : ∀ k, k < c → sb k = sb' k) : fndF sb fd c = fndF sb' fd c := by
  induction c with
  | zero => rfl
  | succ c ih => rw [fndF, fndF, ih (fun k hk => h k (by omega)), h c (by omega)]
theorem rnF_congr {sb sb' : Nat → Nat → Bool} {tst tst' : Nat → Int32} {ni cl : Nat} {fd ts : Nat → Int32} (h : ∀ a k, k < cl → sb a k = sb' a k) (h2 : ∀ k, k < cl → tst k = tst' k) : ∀ m, m ≤ cl → rnF sb tst ni cl fd ts m = rnF sb' tst' ni cl fd ts m := by
  intro m
  induction m with
  | zero => intro _; rfl
  | succ m ih =>
    intro hm
    rw [rnF, rnF, ih (by omega), h2 m (by omega), fndF_congr (fun k hk => h _ k hk)]
theorem cntF_congr {f g : Nat → Bool} {c : Nat} (h : ∀ k, k < c → f k = g k) : cntF f c = cntF g c := by
  unfold cntF
  apply List.countP_congr
  intro k hk
  rw [h k (List.mem_range.mp hk)]
theorem cnt_clr {fd : Nat → Int32} {c : Nat} (hc : c ≤ 600) : cntF (fun k => decide (¬ clrF fd 600 k = 0)) c = 0 := by
  unfold cntF
  rw [List.countP_eq_zero]
  intro k hk
  have := List.mem_range.mp hk
  have e : clrF fd 600 k = 0 := by unfold clrF; rw [if_pos (by omega)]; rfl
  simp [e]
theorem SOK.clr {kd s0 s1 on : Nat → Int32} {vl : Nat → Int64} {n ni no : Nat} {se : Nat → Int64} {re : Nat → Int32} (hn : n ≤ 100) : SOK kd s0 s1 on vl n ni no se (clrF re 100) := by
  intro j hj hne
  exact absurd (show clrF re 100 j = 0 by unfold clrF; rw [if_pos (by omega)]; rfl) hne
theorem IOK.inp {n ni : Nat} {kd io : Nat → Int32} (h : IOK n kd io) (hni : ni < 10) : IOK (n + 1) (upd kd n (-1)) (upd io n (nI ni)) := fun j hj hk => by
  by_cases e : j = n
  · subst e
    have hc : cn (nI ni) = ni := nI_clamp (by omega)
    rw [pk_us, hc]
    exact ⟨rfl, hni⟩
  · rw [pk_un e] at hk ⊢
    exact h j (by omega) hk
theorem IOK.gat {n : Nat} {k : Int32} {kd io : Nat → Int32} (h : IOK n kd io) (hk : ¬ k = (-1)) : IOK (n + 1) (upd kd n k) io := fun j hj hkk => by
  by_cases e : j = n
  · subst e
    rw [pk_us] at hkk
    exact absurd hkk hk
  · rw [pk_un e] at hkk
    exact h j (by omega) hkk
theorem addI_at {ni n : Nat} {vl : Nat → Int64} (hn : n < 100) : ∀ m w, w < m → addI ni n vl m (w * 100 + n) = inW ni w := by
  intro m
  induction m with
  | zero => intro w h; omega
  | succ m ih =>
    intro w h
    rw [addI]
    by_cases e : w = m
    · subst e; rw [pk_uLs]
    · rw [pk_uLn (by omega)]; exact ih w (by omega)
theorem addI_ne {ni n j : Nat} {vl : Nat → Int64} (hn : n < 100) (hj : j < 100) (hne : j ≠ n) : ∀ m w, addI ni n vl m (w * 100 + j) = vl (w * 100 + j) := by
  intro m
  induction m with
  | zero => intro w; rfl
  | succ m ih => intro w; rw [addI, pk_uLn (by omega)]; exact ih w
theorem addV_ne {k : Int32} {a b n j : Nat} {vl : Nat → Int64} (hn : n < 100) (hj : j < 100) (hne : j ≠ n) : ∀ m w, addV k a b n vl m (w * 100 + j) = vl (w * 100 + j) := by
  intro m
  induction m with
  | zero => intro w; rfl
  | succ m ih => intro w; rw [addV, pk_uLn (by omega)]; exact ih w
theorem addV_at {k : Int32} {a b n : Nat} {vl : Nat → Int64} (hn : n < 100) (ha : a < n) (hb : b < n) : ∀ m w, w < m → addV k a b n vl m (w * 100 + n) = gw k (vl (w * 100 + a)) (vl (w * 100 + b)) := by
  intro m
  induction m with
  | zero => intro w h; omega
  | succ m ih =>
    intro w h
    rw [addV]
    by_cases e : w = m
    · subst e; rw [pk_uLs, addV_ne hn (by omega) (by omega), addV_ne hn (by omega) (by omega)]
    · rw [pk_uLn (by omega)]; exact ih w (by omega)
theorem VOK.inp {n ni : Nat} {kd s0 s1 io : Nat → Int32} {vl : Nat → Int64} (h : VOK n kd s0 s1 io vl) (hwf : WF n kd s0 s1) (hn : n < 100) (hni : ni < 10) : VOK (n + 1) (upd kd n (-1)) s0 s1 (upd io n (nI ni)) (addI ni n vl 16) := fun w hw j hj => by
  by_cases e : j = n
  · subst e
    show addI ni j vl 16 (w * 100 + j) = _
    have hc : cn (nI ni) = ni := nI_clamp (by omega)
    rw [addI_at hn 16 w hw, pk_us, if_pos rfl, pk_us, hc]
  · have hj2 : j < n := by omega
    show addI ni n vl 16 (w * 100 + j) = if upd kd n (-1) j = (-1) then inW (cn (upd io n (nI ni) j)) w else gw (upd kd n (-1) j) (addI ni n vl 16 (w * 100 + cn (s0 j))) (addI ni n vl 16 (w * 100 + cn (s1 j)))
    rw [addI_ne hn (by omega) e, pk_un e, pk_un e]
    have h9 : vl (w * 100 + j) = if kd j = (-1) then inW (cn (io j)) w else gw (kd j) (vl (w * 100 + cn (s0 j))) (vl (w * 100 + cn (s1 j))) := h w hw j hj2
    rw [h9]
    by_cases hk : kd j = (-1)
    · rw [if_pos hk, if_pos hk]
    · have := hwf j hj2 hk
      rw [if_neg hk, if_neg hk, addI_ne hn (by omega) (by omega), addI_ne hn (by omega) (by omega)]
theorem VOK.gat {n a b : Nat} {k : Int32} {kd s0 s1 io : Nat → Int32} {vl : Nat → Int64} (h : VOK n kd s0 s1 io vl) (hwf : WF n kd s0 s1) (hn : n < 100) (ha : a < n) (hb : b < n) (hk : ¬ k = (-1)) : VOK (n + 1) (upd kd n k) (upd s0 n (nI a)) (upd s1 n (nI b)) io (addV k a b n vl 16) := fun w hw j hj => by
  show addV k a b n vl 16 (w * 100 + j) = if upd kd n k j = (-1) then inW (cn (io j)) w else gw (upd kd n k j) (addV k a b n vl 16 (w * 100 + cn (upd s0 n (nI a) j))) (addV k a b n vl 16 (w * 100 + cn (upd s1 n (nI b) j)))
  by_cases e : j = n
  · subst e
    have hc : cn (nI a) = a := nI_clamp (by omega)
    have hc2 : cn (nI b) = b := nI_clamp (by omega)
    rw [addV_at hn ha hb 16 w hw, pk_us, pk_us, pk_us, if_neg hk, hc, hc2, addV_ne hn (by omega) (by omega), addV_ne hn (by omega) (by omega)]
  · have hj2 : j < n := by omega
    rw [addV_ne hn (by omega) e, pk_un e, pk_un e, pk_un e]
    have h9 : vl (w * 100 + j) = if kd j = (-1) then inW (cn (io j)) w else gw (kd j) (vl (w * 100 + cn (s0 j))) (vl (w * 100 + cn (s1 j))) := h w hw j hj2
    rw [h9]
    by_cases hk2 : kd j = (-1)
    · rw [if_pos hk2, if_pos hk2]
    · have := hwf j hj2 hk2
      rw [if_neg hk2, if_neg hk2, addV_ne hn (by omega) (by omega), addV_ne hn (by omega) (by omega)]
theorem VOK.zero {kd s0 s1 io : Nat → Int32} {vl : Nat → Int64} : VOK 0 kd s0 s1 io vl := fun w hw j hj => by omega
theorem IOK.zero {kd io : Nat → Int32} : IOK 0 kd io := fun j hj => by omega
theorem flt_same (f wh c : Nat) : fltI f wh (nI c) = fltF f wh c := rfl
/-- what holds of class and reference between calls -/
def JI (kd s0 s1 on : Nat → Int32) (vl : Nat → Int64) (n ni no : Nat) (nu fi me : Nat → Int32) (cs : Nat) (se : Nat → Int64) (re : Nat → Int32) (fd : Nat → Int32) (fc tc st : Nat) (io ca cf : Nat → Int32) (cl : Nat) : Prop :=
  n ≤ 100 ∧ ni ≤ 10 ∧ no ≤ 12 ∧ WF n kd s0 s1 ∧ WO n no on ∧ KD n kd ∧ IOK n kd io ∧ VOK n kd s0 s1 io vl ∧ SOK kd s0 s1 on vl n ni no se re ∧ st < 2 ∧ CST kd s0 s1 on n no st nu fi me cs ∧ MG kd s0 s1 on n no ca cf cl ∧ fc = cntF (fun k => decide (¬ fd k = 0)) (ncl kd s0 s1 on n no) ∧ tc ≤ 600
