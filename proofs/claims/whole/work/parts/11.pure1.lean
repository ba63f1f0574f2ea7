-- closed forms of the helpers
theorem okb_nI {i n : Nat} (h : i < n) (hn : n < 2 ^ 31) : okb (nI i) n = true := by
  unfold okb
  rw [nI_toInt (by omega)]
  exact decide_eq_true ⟨by omega, by omega⟩
theorem nI_le_iff {a b : Nat} (ha : a < 2 ^ 31) (hb : b < 2 ^ 31) : nI a ≤ nI b ↔ a ≤ b := nI_leI ha hb
theorem nI_lt_iff {a b : Nat} (ha : a < 2 ^ 31) (hb : b < 2 ^ 31) : nI a < nI b ↔ a < b := nI_ltI ha hb
theorem nI_lit (n : Nat) : (OfNat.ofNat n : Int32) = nI n := rfl
/-- the first n of f, the rest of g -/
def cpy (n : Nat) (f g : Nat → Int32) : Nat → Int32 := fun j => if j < n then f j else g j
theorem copyRow_L (n : Nat) (hn : n < 2 ^ 31) (f : Nat → Int32) (k : Int32 → (Nat → Int32) → Option (Nat → Int32)) : ∀ (d i nf : Nat) (g : Nat → Int32), i + d = n → d < nf → f_X7_copyRow_L2 n n f k nf (nI i) g = k (nI n) (fun j => if i ≤ j ∧ j < n then f j else g j) := by
  intro d
  induction d with
  | zero =>
    intro i nf g h1 h2
    obtain ⟨m, rfl⟩ : ∃ m, nf = m + 1 := ⟨nf - 1, by omega⟩
    have h1 : i = n := by omega
    subst h1
    rw [f_X7_copyRow_L2_s, if_pos ((nI_le_iff hn hn).mpr (Nat.le_refl _))]
    congr 1
    funext j
    rw [if_neg (by omega)]
  | succ d ih =>
    intro i nf g h1 h2
    obtain ⟨m, rfl⟩ : ∃ m, nf = m + 1 := ⟨nf - 1, by omega⟩
    have hlt : ¬ nI n ≤ nI i := fun h => by have := (nI_le_iff hn (by omega)).mp h; omega
    rw [f_X7_copyRow_L2_s, if_neg hlt, if_neg hlt, if_pos (okb_nI (by omega) hn), if_pos (okb_nI (by omega) hn), nI_clamp (by omega), show (1 : Int32) = nI 1 from rfl, nI_add, ih (i + 1) m _ (by omega) (by omega)]
    congr 1
    funext j
    unfold upd
    by_cases hj : j = i
    · subst hj
      rw [if_neg (by omega), if_pos rfl, if_pos (by omega)]
    · rw [if_neg hj]
      by_cases h3 : i + 1 ≤ j ∧ j < n
      · rw [if_pos h3, if_pos (by omega)]
      · rw [if_neg h3, if_neg (by omega)]
theorem copyRow_eq {n : Nat} (hn : n < 20000) (f g : Nat → Int32) : f_X7_copyRow n n f g = some (cpy n f g) := by
  unfold f_X7_copyRow
  rw [show (0 : Int32) = nI 0 from rfl, copyRow_L n (by omega) f _ n 0 20000 g (by omega) (by omega)]
  congr 1
  funext j
  unfold cpy
  by_cases h : j < n
  · rw [if_pos ⟨Nat.zero_le _, h⟩, if_pos h]
  · rw [if_neg (by omega), if_neg h]
/-- a moment's contents: gone, met, still, done, hour, worn, square, under -/
abbrev MVt : Type := Int32 × Int32 × Int32 × Int32 × (Nat → Int32) × (Nat → Int32) × (Nat → Int32) × (Nat → Int32)
def cpM (a b : MVt) : MVt := (a.1, a.2.1, a.2.2.1, a.2.2.2.1, cpy 6 a.2.2.2.2.1 b.2.2.2.2.1, cpy 6 a.2.2.2.2.2.1 b.2.2.2.2.2.1, cpy 5 a.2.2.2.2.2.2.1 b.2.2.2.2.2.2.1, cpy 5 a.2.2.2.2.2.2.2 b.2.2.2.2.2.2.2)
