-- a loop that counts up to n
theorem loopN {σ α : Type} (L : Nat → σ → Int32 → Option α) (k : σ → Int32 → Option α) (n : Nat) (St : Nat → σ)
    (hexit : ∀ nf, L (nf + 1) (St n) (nI n) = k (St n) (nI n))
    (hstep : ∀ nf i, i < n → L (nf + 1) (St i) (nI i) = L nf (St (i + 1)) (nI (i + 1))) :
    ∀ fuel, n < fuel → L fuel (St 0) (nI 0) = k (St n) (nI n) := by
  have key : ∀ d i fuel, i + d = n → d < fuel → L fuel (St i) (nI i) = k (St n) (nI n) := by
    intro d
    induction d with
    | zero =>
      intro i fuel h1 h2
      obtain ⟨m, rfl⟩ : ∃ m, fuel = m + 1 := ⟨fuel - 1, by omega⟩
      have : i = n := by omega
      subst this
      exact hexit m
    | succ d ih =>
      intro i fuel h1 h2
      obtain ⟨m, rfl⟩ : ∃ m, fuel = m + 1 := ⟨fuel - 1, by omega⟩
      rw [hstep m i (by omega)]
      exact ih (i + 1) m (by omega) (by omega)
  intro fuel h
  exact key n 0 fuel (by omega) h
theorem nI_n1 (i : Nat) : nI i + (1 : Int32) = nI (i + 1) := nI_1 i
theorem nle {a b : Nat} (h : a < b) (hb : b < 2 ^ 31) : ¬ nI b ≤ nI a := nI_ge h hb
theorem lle {a b : Nat} (h : a ≤ b) (hb : b < 2 ^ 31) : nI a ≤ nI b := nI_le h hb
theorem eqN {a b : Nat} (ha : a < 2 ^ 31) (hb : b < 2 ^ 31) : nI a = nI b ↔ a = b := nI_eq ha hb
theorem at_eq {n i : Nat} (f : Nat → Int32) (h : i < n) (hn : n < 2 ^ 31) : f_X7_at n f (nI i) = some (f i) := by
  unfold f_X7_at
  rw [if_neg (nI_pos (by omega)), if_neg (nle h hn), if_pos (okb_nI h hn), nI_clamp (by omega)]
theorem put_eq {n i : Nat} (f : Nat → Int32) (v : Int32) (h : i < n) (hn : n < 2 ^ 31) : f_X7_put n f (nI i) v = some (upd f i v) := by
  unfold f_X7_put
  rw [if_neg (nI_pos (by omega)), if_neg (nle h hn), if_pos (okb_nI h hn), nI_clamp (by omega)]
-- masks
def mask (P : Nat → Bool) : Nat → Nat
  | 0 => 0
  | n + 1 => mask P n ||| (if P n then 2 ^ n else 0)
theorem mask_lt (P : Nat → Bool) : ∀ n, mask P n < 2 ^ n
  | 0 => Nat.one_pos
  | n + 1 => by
    have h := mask_lt P n
    have h2 : (if P n then 2 ^ n else 0) < 2 ^ (n + 1) := by split <;> rw [Nat.pow_succ] <;> have := Nat.two_pow_pos n <;> omega
    exact Nat.or_lt_two_pow (by rw [Nat.pow_succ]; omega) h2
theorem mask_bit (P : Nat → Bool) : ∀ n i, (mask P n).testBit i = (decide (i < n) && P i)
  | 0, i => by simp [mask]
  | n + 1, i => by
    rw [mask, Nat.testBit_or, mask_bit P n i]
    by_cases hp : P n = true
    · rw [if_pos hp, Nat.testBit_two_pow]
      by_cases hi : i = n
      · subst hi; simp [hp]
      · have : ¬ n = i := fun h => hi h.symm
        by_cases h2 : i < n
        · simp [h2, this, show i < n + 1 by omega]
        · simp [h2, this, show ¬ i < n + 1 by omega]
    · rw [if_neg hp, Nat.zero_testBit]
      by_cases hi : i = n
      · subst hi; simp [hp]
      · by_cases h2 : i < n
        · simp [h2, show i < n + 1 by omega]
        · simp [h2, show ¬ i < n + 1 by omega]
theorem mask_cong {P Q : Nat → Bool} : ∀ {n : Nat}, (∀ k, k < n → P k = Q k) → mask P n = mask Q n
  | 0, _ => rfl
  | n + 1, h => by rw [mask, mask, mask_cong (fun k hk => h k (by omega)), h n (by omega)]
theorem or_nI (a b : Nat) : nI a ||| nI b = nI (a ||| b) := by
  apply Int32.toBitVec_inj.mp
  show BitVec.ofNat 32 a ||| BitVec.ofNat 32 b = BitVec.ofNat 32 (a ||| b)
  rw [BitVec.ofNat_or]
theorem shl_nI : ∀ p, p < 31 → (1 : Int32) <<< (nI p &&& 31) = nI (2 ^ p) := by decide +kernel
theorem or0_nI (a : Int32) : a ||| (0 : Int32) = a := by
  apply Int32.toBitVec_inj.mp
  show a.toBitVec ||| 0#32 = a.toBitVec
  simp
theorem hasB_dec : ∀ s, s < 64 → ∀ p, p < 6 → ((nI s >>> (nI p &&& 31)) &&& (1 : Int32) = if s.testBit p then 1 else 0) := by decide +kernel
theorem hasBit_eq {s p : Nat} (hs : s < 64) (hp : p < 6) : f_X7_hasBit (nI s) (nI p) = some (if s.testBit p then 1 else 0) := by
  unfold f_X7_hasBit
  rw [hasB_dec s hs p hp]
  cases s.testBit p <;> decide
theorem has_eq {s p : Nat} (hs : s < 64) (hp : p < 6) : f_X8_has (nI s) (nI p) = some (if s.testBit p then 1 else 0) := by
  unfold f_X8_has
  rw [hasB_dec s hs p hp]
  cases s.testBit p <;> decide
theorem clr_dec : ∀ s, s < 32 → ∀ m, m < 32 → nI s &&& (nI m ^^^ (-1 : Int32)) = nI (s &&& (31 ^^^ m)) := by decide +kernel
theorem bitCount_dec : ∀ s, s < 64 → f_J6_bitCount_0f7a4 (nI s) = some (nI ((List.range 6).countP (fun i => s.testBit i))) := by decide +kernel
def popc (s : Nat) : Nat := (List.range 6).countP (fun i => s.testBit i)
theorem bitCount_eq {s : Nat} (hs : s < 64) : f_J6_bitCount_0f7a4 (nI s) = some (nI (popc s)) := bitCount_dec s hs
/-- Kernighan's loop, in Nat -/
def kern : Nat → Nat → Nat → Option Nat
  | 0, _, _ => none
  | f + 1, c, s => if s = 0 then some c else kern f (c + 1) (s &&& (s - 1))
theorem kern_dec : ∀ s, s < 64 → ((kern 8 0 s).getD 99 = popc s ∧ (kern 8 0 s).isSome = true) := by decide +kernel
theorem and_dec : ∀ s, s < 64 → nI s &&& (nI s - 1) = nI (s &&& (s - 1)) := by decide +kernel
theorem bits_L (k : Int32 → Int32 → Option Int32) : ∀ f c s r nf, kern f c s = some r → s < 64 → f ≤ nf → f_X8_bits_L4 k nf (nI c) (nI s) = k (nI r) 0 := by
  intro f
  induction f with
  | zero => intro c s r nf h; cases h
  | succ f ih =>
    intro c s r nf h hs hf
    obtain ⟨m, rfl⟩ : ∃ m, nf = m + 1 := ⟨nf - 1, by omega⟩
    rw [kern] at h
    rw [f_X8_bits_L4_s]
    by_cases h0 : s = 0
    · rw [if_pos h0] at h
      cases h
      subst h0
      rw [if_pos (show nI 0 = 0 from rfl)]
      rfl
    · rw [if_neg h0] at h
      rw [if_neg (fun q => h0 (by have := (eqN (by omega) (by omega)).mp (show nI s = nI 0 from q); exact this)), show (1 : Int32) = nI 1 from rfl, nI_add, show nI s &&& (nI s - nI 1) = nI (s &&& (s - 1)) from and_dec s hs]
      exact ih (c + 1) _ r m h (Nat.lt_of_le_of_lt Nat.and_le_left hs) (by omega)
theorem bits_eq {s : Nat} (hs : s < 64) : f_X8_bits (nI s) = some (nI (popc s)) := by
  obtain ⟨h1, h2⟩ := kern_dec s hs
  obtain ⟨r, hr⟩ := Option.isSome_iff_exists.mp h2
  rw [hr] at h1
  have h1 : r = popc s := h1
  subst h1
  unfold f_X8_bits
  rw [show (0 : Int32) = nI 0 from rfl, bits_L _ 8 0 s _ 20000 hr hs (by omega)]
-- numbers between two others
theorem in_eq (v lo hi : Int32) : f_X8_in v lo hi = some (if v < lo ∨ hi < v then 0 else 1) := by
  unfold f_X8_in
  by_cases h1 : v < lo
  · rw [if_pos h1, if_pos (Or.inl h1)]
  · rw [if_neg h1]
    by_cases h2 : hi < v
    · rw [if_pos h2, if_pos (Or.inr h2)]
    · rw [if_neg h2, if_neg (fun h => h.elim h1 h2)]
