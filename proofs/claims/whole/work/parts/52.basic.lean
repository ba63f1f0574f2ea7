theorem a4 (p : Nat) : (4 : Int32) + nI p = nI (4 + p) := nI_add 4 p
theorem a10 (p : Nat) : (10 : Int32) + nI p = nI (10 + p) := nI_add 10 p
theorem a16 (p : Nat) : (16 : Int32) + nI p = nI (16 + p) := nI_add 16 p
theorem a21 (p : Nat) : (21 : Int32) + nI p = nI (21 + p) := nI_add 21 p
theorem cl0 : (0 : Int32).toNatClampNeg = 0 := by decide
theorem cl1 : (1 : Int32).toNatClampNeg = 1 := by decide
theorem cl2 : (2 : Int32).toNatClampNeg = 2 := by decide
theorem cl3 : (3 : Int32).toNatClampNeg = 3 := by decide
theorem okbN {i n : Nat} (h : i < n) (hn : n < 1000) : (okb (nI i) n = true) = True := eq_true (okb_nI h (by omega))
theorem clN {i : Nat} (h : i < 20000) : (nI i).toNatClampNeg = i := nI_clamp (by omega)
/-- a place under which parasol: 6 is none -/
def eU (x : Nat) : Int32 := if x < 6 then nI x else -4
theorem eU_lt {x : Nat} (h : x < 6) : eU x = nI x := if_pos h
theorem eU_6 : eU 6 = -4 := rfl
theorem eU_dec : ∀ x, x < 7 → ∀ u, u < 6 → (eU x = nI u ↔ x = u) := by decide +kernel
theorem eU_decN : ∀ x, x < 7 → (eU x = (-4 : Int32) ↔ x = 6) := by decide +kernel
theorem eU_inj : ∀ x, x < 7 → ∀ y, y < 7 → (eU x = eU y ↔ x = y) := by decide +kernel
theorem parasolOf_eq {p : Nat} (f : Nat → Int32) (hp : p < 5) : f_X1_parasolOf f (nI p) = some (f p) := by
  unfold f_X1_parasolOf; rw [at_eq f hp (by omega)]; rfl
theorem squareOf_eq {p : Nat} (f : Nat → Int32) (hp : p < 5) : f_X1_squareOf f (nI p) = some (f p) := by
  unfold f_X1_squareOf; rw [at_eq f hp (by omega)]; rfl
theorem hourOf_eq {p : Nat} (f : Nat → Int32) (hp : p < 6) : f_X1_hourOf f (nI p) = some (f p) := by
  unfold f_X1_hourOf; rw [at_eq f hp (by omega)]; rfl
theorem wornOf_eq {p : Nat} (f : Nat → Int32) (hp : p < 6) : f_X1_wornOf f (nI p) = some (f p) := by
  unfold f_X1_wornOf; rw [at_eq f hp (by omega)]; rfl
theorem kindOf_eq {p : Nat} (f : Nat → Int32) (hp : p < 6) : f_X2_kindOf f (nI p) = some (f p) := by
  unfold f_X2_kindOf; rw [at_eq f hp (by omega)]; rfl
theorem workSquareOf_eq {p : Nat} (f : Nat → Int32) (hp : p < 6) : f_X2_workSquareOf f (nI p) = some (f p) := by
  unfold f_X2_workSquareOf; rw [at_eq f hp (by omega)]; rfl
theorem workHourOf_eq {p : Nat} (f : Nat → Int32) (hp : p < 6) : f_X2_workHourOf f (nI p) = some (f p) := by
  unfold f_X2_workHourOf; rw [at_eq f hp (by omega)]; rfl
theorem isStill_eq {s p : Nat} (hs : s < 64) (hp : p < 6) : f_X1_isStill (nI s) (nI p) = some (if s.testBit p then 1 else 0) := by
  unfold f_X1_isStill; rw [hasBit_eq hs hp]; cases s.testBit p <;> decide
theorem isDone_eq {s p : Nat} (hs : s < 64) (hp : p < 6) : f_X1_isDone (nI s) (nI p) = some (if s.testBit p then 1 else 0) := by
  unfold f_X1_isDone; rw [hasBit_eq hs hp]; cases s.testBit p <;> decide
theorem b10 {b : Bool} : ((if b = true then (1 : Int32) else 0) = 0) ↔ b = false := by cases b <;> decide
-- who is under a parasol
def spU (Un : Nat → Nat) (pe u : Nat) : Nat := mask (fun p => Un p == u) pe
theorem spU_lt (Un : Nat → Nat) {pe : Nat} (u : Nat) (hpe : pe ≤ 5) : spU Un pe u < 32 := Nat.lt_of_lt_of_le (mask_lt _ pe) (Nat.pow_le_pow_right (by omega) hpe)
theorem bearersOf_eq {pe u : Nat} {f : Nat → Int32} {Un : Nat → Nat} (hpe : pe ≤ 5) (hu : u < 6) (hU : ∀ p, p < pe → Un p < 7 ∧ f p = eU (Un p)) : f_X1_bearersOf f (nI pe) (nI u) = some (nI (spU Un pe u)) := by
  unfold f_X1_bearersOf
  refine (loopN (fun nf (s : Int32) v => f_X1_bearersOf_L4 (nI pe) f (nI u) (fun v1 v2 => some v1) nf s v) (fun s _ => some s) pe (fun i => nI (mask (fun p => Un p == u) i)) ?_ ?_ 20000 (by omega))
  · intro nf
    show f_X1_bearersOf_L4 _ _ _ _ (nf + 1) _ _ = _
    rw [f_X1_bearersOf_L4_s, if_pos (lle (Nat.le_refl _) (by omega))]
  · intro nf i hi
    show f_X1_bearersOf_L4 _ _ _ _ (nf + 1) _ _ = f_X1_bearersOf_L4 _ _ _ _ nf _ _
    obtain ⟨h1, h2⟩ := hU i hi
    rw [f_X1_bearersOf_L4_s, if_neg (nle hi (by omega)), parasolOf_eq f (by omega), h2]
    show (if eU (Un i) = nI u then _ else _) = _
    rw [nI_n1]
    by_cases hq : Un i = u
    · rw [if_pos ((eU_dec _ h1 _ hu).mpr hq), shl_nI i (by omega), or_nI, mask, if_pos (by simp [hq])]
    · rw [if_neg (fun q => hq ((eU_dec _ h1 _ hu).mp q)), mask, if_neg (by simp [hq]), Nat.or_zero]
theorem under_eq {pe u : Nat} {m o : Nat → Int32} {Un : Nat → Nat} (hpe : pe ≤ 5) (hm : m 2 = nI pe) (hu : u < 6) (hU : ∀ p, p < pe → Un p < 7 ∧ o (21 + p) = eU (Un p)) : f_X8_under m o (nI u) = some (nI (spU Un pe u)) := by
  unfold f_X8_under
  refine (loopN (fun nf (s : Int32) v => f_X8_under_L5 m o (nI u) (fun v1 v2 => some v1) nf s v) (fun s _ => some s) pe (fun i => nI (mask (fun p => Un p == u) i)) ?_ ?_ 20000 (by omega))
  · intro nf
    show f_X8_under_L5 _ _ _ _ (nf + 1) _ _ = _
    rw [f_X8_under_L5_s, cl2, hm, if_pos (lle (Nat.le_refl _) (by omega))]
  · intro nf i hi
    show f_X8_under_L5 _ _ _ _ (nf + 1) _ _ = f_X8_under_L5 _ _ _ _ nf _ _
    obtain ⟨h1, h2⟩ := hU i hi
    rw [f_X8_under_L5_s, cl2, hm, if_neg (nle hi (by omega)), a21, if_pos (okb_nI (by omega) (by omega)), clN (by omega), h2, nI_n1]
    by_cases hq : Un i = u
    · rw [if_pos ((eU_dec _ h1 _ hu).mpr hq), shl_nI i (by omega), or_nI, mask, if_pos (by simp [hq])]
    · rw [if_neg (fun q => hq ((eU_dec _ h1 _ hu).mp q)), or0_nI, mask, if_neg (by simp [hq]), Nat.or_zero]
theorem nI_z {a : Nat} (h : a < 2 ^ 31) : nI a = 0 ↔ a = 0 := eqN h (by decide)
theorem isInStand_eq {pe u : Nat} {f : Nat → Int32} {Un : Nat → Nat} (hpe : pe ≤ 5) (hu : u < 6) (hU : ∀ p, p < pe → Un p < 7 ∧ f p = eU (Un p)) : f_X1_isInStand f (nI pe) (nI u) = some (if spU Un pe u = 0 then 1 else 0) := by
  unfold f_X1_isInStand
  rw [bearersOf_eq hpe hu hU]
  show (if nI (spU Un pe u) = 0 then _ else _) = _
  have := spU_lt Un u hpe
  by_cases h : spU Un pe u = 0
  · rw [if_pos ((nI_z (by omega)).mpr h), if_pos h]
  · rw [if_neg (fun q => h ((nI_z (by omega)).mp q)), if_neg h]
theorem spU_pos {Un : Nat → Nat} {pe u : Nat} : spU Un pe u ≠ 0 ↔ ∃ p, p < pe ∧ Un p = u := by
  constructor
  · intro h
    obtain ⟨i, hi⟩ := Nat.exists_testBit_of_ne_zero h
    unfold spU at hi
    rw [mask_bit] at hi
    simp at hi
    exact ⟨i, hi⟩
  · intro ⟨p, h1, h2⟩ h
    have : (spU Un pe u).testBit p = true := by unfold spU; rw [mask_bit]; simp [h1, h2]
    rw [h] at this
    simp at this
-- on which square a parasol is
def spQ (Un Sq : Nat → Nat) (u : Nat) : Nat → Nat
  | 0 => 0
  | n + 1 => if Un n = u then Sq n else spQ Un Sq u n
theorem squareOf_meq {pe u : Nat} {m o : Nat → Int32} {Un Sq : Nat → Nat} (hpe : pe ≤ 5) (hm : m 2 = nI pe) (hu : u < 6) (hU : ∀ p, p < pe → Un p < 7 ∧ o (21 + p) = eU (Un p)) (hS : ∀ p, p < pe → o (16 + p) = nI (Sq p)) : f_X8_squareOf m o (nI u) = some (nI (spQ Un Sq u pe)) := by
  unfold f_X8_squareOf
  refine (loopN (fun nf (s : Int32) v => f_X8_squareOf_L5 m o (nI u) (fun v1 v2 => some v1) nf s v) (fun s _ => some s) pe (fun i => nI (spQ Un Sq u i)) ?_ ?_ 20000 (by omega))
  · intro nf
    show f_X8_squareOf_L5 _ _ _ _ (nf + 1) _ _ = _
    rw [f_X8_squareOf_L5_s, cl2, hm, if_pos (lle (Nat.le_refl _) (by omega))]
  · intro nf i hi
    show f_X8_squareOf_L5 _ _ _ _ (nf + 1) _ _ = f_X8_squareOf_L5 _ _ _ _ nf _ _
    obtain ⟨h1, h2⟩ := hU i hi
    rw [f_X8_squareOf_L5_s, cl2, hm, if_neg (nle hi (by omega)), a21, if_pos (okb_nI (by omega) (by omega)), clN (by omega), h2, nI_n1]
    by_cases hq : Un i = u
    · rw [if_pos ((eU_dec _ h1 _ hu).mpr hq), a16, if_pos (okb_nI (by omega) (by omega)), clN (by omega), hS i hi, spQ, if_pos hq]
    · rw [if_neg (fun q => hq ((eU_dec _ h1 _ hu).mp q)), spQ, if_neg hq]
/-- who is under one parasol is on one square -/
def Shr (pe : Nat) (Un Sq : Nat → Nat) : Prop := ∀ p q, p < pe → q < pe → Un p = Un q → Un p < 6 → Sq p = Sq q
theorem spQ_of {Un Sq : Nat → Nat} {pe u : Nat} (h : Shr pe Un Sq) (hu : u < 6) {p : Nat} (hp : p < pe) (hq : Un p = u) : ∀ n, p < n → n ≤ pe → spQ Un Sq u n = Sq p := by
  intro n
  induction n with
  | zero => intro h1; omega
  | succ n ih =>
    intro h1 h2
    rw [spQ]
    by_cases hn : Un n = u
    · rw [if_pos hn]; exact h n p (by omega) hp (by rw [hn, hq]) (by omega)
    · rw [if_neg hn]
      by_cases hpn : p = n
      · subst hpn; exact absurd hq hn
      · exact ih (by omega) (by omega)
theorem spQ_none {Un Sq : Nat → Nat} {u : Nat} : ∀ n, (∀ p, p < n → Un p ≠ u) → spQ Un Sq u n = 0
  | 0, _ => rfl
  | n + 1, h => by rw [spQ, if_neg (h n (by omega)), spQ_none n (fun p hp => h p (by omega))]
theorem squareOfParasol_L {pe u : Nat} {f g : Nat → Int32} {Un Sq : Nat → Nat} (hpe : pe ≤ 5) (hu : u < 6) (hU : ∀ p, p < pe → Un p < 7 ∧ f p = eU (Un p)) (hS : ∀ p, p < pe → g p = nI (Sq p)) (hh : Shr pe Un Sq) : ∀ d i nf, i + d = pe → d < nf → (∀ p, p < i → Un p ≠ u) → f_X1_squareOfParasol_L2 (nI pe) f (nI u) g (fun _ => some 0) nf (nI i) = some (nI (spQ Un Sq u pe)) := by
  intro d
  induction d with
  | zero =>
    intro i nf h1 h2 h3
    obtain ⟨m, rfl⟩ : ∃ m, nf = m + 1 := ⟨nf - 1, by omega⟩
    have : i = pe := by omega
    subst this
    rw [f_X1_squareOfParasol_L2_s, if_pos (lle (Nat.le_refl _) (by omega)), spQ_none i h3]
    rfl
  | succ d ih =>
    intro i nf h1 h2 h3
    obtain ⟨m, rfl⟩ : ∃ m, nf = m + 1 := ⟨nf - 1, by omega⟩
    obtain ⟨g1, g2⟩ := hU i (by omega)
    rw [f_X1_squareOfParasol_L2_s, if_neg (nle (by omega) (by omega)), parasolOf_eq f (by omega), g2]
    show (if eU (Un i) = nI u then _ else _) = _
    by_cases hq : Un i = u
    · rw [if_pos ((eU_dec _ g1 _ hu).mpr hq), squareOf_eq g (by omega), hS i (by omega), spQ_of hh hu (by omega) hq pe (by omega) (Nat.le_refl _)]
      rfl
    · rw [if_neg (fun q => hq ((eU_dec _ g1 _ hu).mp q)), nI_n1]
      exact ih (i + 1) m (by omega) (by omega) (fun p hp => by
        rcases Nat.lt_succ_iff_lt_or_eq.mp hp with h | h
        · exact h3 p h
        · subst h; exact hq)
theorem squareOfParasol_eq {pe u : Nat} {f g : Nat → Int32} {Un Sq : Nat → Nat} (hpe : pe ≤ 5) (hu : u < 6) (hU : ∀ p, p < pe → Un p < 7 ∧ f p = eU (Un p)) (hS : ∀ p, p < pe → g p = nI (Sq p)) (hh : Shr pe Un Sq) : f_X1_squareOfParasol g f (nI pe) (nI u) = some (nI (spQ Un Sq u pe)) := by
  unfold f_X1_squareOfParasol
  exact squareOfParasol_L hpe hu hU hS hh pe 0 20000 (by omega) (by omega) (fun p h => by omega)
