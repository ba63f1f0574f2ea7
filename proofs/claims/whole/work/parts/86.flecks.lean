-- flecks: sums
def sumN (f : Nat → Nat) : Nat → Nat
  | 0 => 0
  | n + 1 => sumN f n + f n
theorem sumN_congr {f g : Nat → Nat} : ∀ {n}, (∀ i, i < n → f i = g i) → sumN f n = sumN g n
  | 0, _ => rfl
  | n + 1, h => by rw [sumN, sumN, sumN_congr (fun i hi => h i (Nat.lt_succ_of_lt hi)), h n (by omega)]
theorem sumN_add (f g : Nat → Nat) : ∀ n, sumN (fun i => f i + g i) n = sumN f n + sumN g n
  | 0 => rfl
  | n + 1 => by rw [sumN, sumN, sumN, sumN_add f g n]; omega
theorem sumN_mul (c : Nat) (f : Nat → Nat) : ∀ n, sumN (fun i => c * f i) n = c * sumN f n
  | 0 => rfl
  | n + 1 => by rw [sumN, sumN, sumN_mul c f n, Nat.mul_add]
theorem sumN_front (f : Nat → Nat) : ∀ n, sumN f (n + 1) = f 0 + sumN (fun i => f (i + 1)) n
  | 0 => by simp [sumN]
  | n + 1 => by rw [sumN, sumN_front f n, sumN]; omega
def choose : Nat → Nat → Nat
  | _, 0 => 1
  | 0, _ + 1 => 0
  | n + 1, k + 1 => choose n k + choose n (k + 1)
theorem choose_hi : ∀ n k, n < k → choose n k = 0
  | 0, k + 1, _ => rfl
  | n + 1, k + 1, h => by rw [choose, choose_hi n k (by omega), choose_hi n (k + 1) (by omega)]
theorem choose_0 (n : Nat) : choose n 0 = 1 := by cases n <;> rfl
/-- ways: of T turns, those by which it is k o'clock -/
def wayT (x y s h T k i : Nat) : Nat := if (h + i * s) % 24 = k then choose T i * x ^ i * y ^ (T - i) else 0
def ways (x y s h T k : Nat) : Nat := sumN (wayT x y s h T k) (T + 1)
theorem back_iff {a s k : Nat} (hs : s ≤ 24) (hk : k < 24) : (a % 24 = (k + 24 - s) % 24) ↔ ((a + s) % 24 = k) := by omega
theorem ways_s {x y s h T k : Nat} (hs : s ≤ 24) (hk : k < 24) : ways x y s h (T + 1) k = x * ways x y s h T ((k + 24 - s) % 24) + y * ways x y s h T k := by
  unfold ways
  rw [sumN_front, ← sumN_mul, ← sumN_mul]
  have e1 : sumN (fun i => wayT x y s h (T + 1) k (i + 1)) (T + 1) = sumN (fun i => x * wayT x y s h T ((k + 24 - s) % 24) i) (T + 1) + sumN (fun i => if (h + (i + 1) * s) % 24 = k then choose T (i + 1) * x ^ (i + 1) * y ^ (T - i) else 0) (T + 1) := by
    rw [← sumN_add]
    refine sumN_congr fun i hi => ?_
    unfold wayT
    have e : h + (i + 1) * s = h + i * s + s := by rw [Nat.add_mul]; omega
    by_cases q : (h + (i + 1) * s) % 24 = k
    · rw [if_pos q, if_pos ((back_iff hs hk).mpr (by rw [← e]; exact q)), if_pos q, choose, Nat.add_mul, Nat.add_mul, show T + 1 - (i + 1) = T - i by omega]
      congr 1
      rw [Nat.pow_succ, ← Nat.mul_assoc, ← Nat.mul_assoc, Nat.mul_comm _ x, Nat.mul_assoc x]
    · rw [if_neg q, if_neg (fun z => q (by rw [e]; exact (back_iff hs hk).mp z)), if_neg q, Nat.mul_zero]
  have e2 : sumN (fun i => y * wayT x y s h T k i) (T + 1) = wayT x y s h (T + 1) k 0 + sumN (fun i => if (h + (i + 1) * s) % 24 = k then choose T (i + 1) * x ^ (i + 1) * y ^ (T - i) else 0) (T + 1) := by
    rw [sumN_front, sumN]
    have e3 : (if (h + (T + 1) * s) % 24 = k then choose T (T + 1) * x ^ (T + 1) * y ^ (T - T) else 0) = 0 := by
      rw [choose_hi T (T + 1) (by omega), Nat.zero_mul, Nat.zero_mul]
      split <;> rfl
    rw [e3, Nat.add_zero]
    congr 1
    · unfold wayT
      split
      · rw [choose_0, choose_0, Nat.pow_zero, Nat.one_mul, Nat.one_mul, Nat.sub_zero, Nat.sub_zero, Nat.pow_succ, Nat.mul_comm]
      · rfl
    · refine sumN_congr fun i hi => ?_
      unfold wayT
      split
      · rw [show T - i = (T - (i + 1)) + 1 by omega, Nat.pow_succ y, Nat.mul_comm y, Nat.mul_assoc]
      · rfl
  rw [e1, e2]
  omega
theorem ways_0 {x y s h k : Nat} : ways x y s h 0 k = if h % 24 = k then 1 else 0 := by
  unfold ways wayT sumN sumN
  rw [Nat.zero_mul, Nat.add_zero, Nat.zero_add]
  rfl
theorem ways_le {x s h : Nat} (hx : x ≤ 10) (hs : s ≤ 24) : ∀ T k, k < 24 → ways x (10 - x) s h T k ≤ 10 ^ T
  | 0, k, _ => by rw [ways_0]; split <;> omega
  | T + 1, k, hk => by
    rw [ways_s hs hk]
    have h1 := ways_le (h := h) hx hs T ((k + 24 - s) % 24) (Nat.mod_lt _ (by omega))
    have h2 := ways_le (h := h) hx hs T k hk
    have h3 := Nat.mul_le_mul_left x h1
    have h4 := Nat.mul_le_mul_left (10 - x) h2
    have h5 : x * 10 ^ T + (10 - x) * 10 ^ T = 10 ^ (T + 1) := by
      rw [← Nat.add_mul, show x + (10 - x) = 10 by omega, Nat.pow_succ, Nat.mul_comm]
    omega
theorem turns_le' {K g n : Nat} : turns K g n ≤ n := by
  unfold turns
  have := Nat.mod_lt g (show 0 < 2 by omega)
  split <;> omega
theorem turns_1 {K g : Nat} : turns K g 1 = 0 ∨ turns K g 1 = 1 := by
  unfold turns
  have := Nat.mod_lt g (show 0 < 2 by omega)
  split <;> omega
/-- the parts behind t hours, of 10 to the t -/
def prt (K g x h t k : Nat) : Nat := ways x (10 - x) (turn1 K) h (turns K g t) k * 10 ^ (t - turns K g t)
theorem prt_0 {K g x h k : Nat} : prt K g x h 0 k = if h % 24 = k then 1 else 0 := by
  unfold prt
  rw [turns_0, ways_0, Nat.pow_zero, Nat.mul_one]
theorem prt_le {K g x h t k : Nat} (hx : x ≤ 10) (hk : k < 24) : prt K g x h t k ≤ 10 ^ t := by
  unfold prt
  have h1 := ways_le (h := h) hx (show turn1 K ≤ 24 from Nat.le_trans turn1_le (by omega)) (turns K g t) k hk
  have h2 := Nat.mul_le_mul_right (10 ^ (t - turns K g t)) h1
  rw [← Nat.pow_add, show turns K g t + (t - turns K g t) = t by have := turns_le' (K := K) (g := g) (n := t); omega] at h2
  exact h2
theorem prt_s {K g x h t k : Nat} (hx : x ≤ 10) (hk : k < 24) : prt K g x h (t + 1) k = x * prt K g x h t ((k + 24 - turns K (g + t) 1 * turn1 K) % 24) + (10 - x) * prt K g x h t k := by
  have hle := turns_le' (K := K) (g := g) (n := t)
  unfold prt
  rw [turns_s (n := t)]
  rcases turns_1 (K := K) (g := g + t) with e | e
  · rw [e, Nat.zero_mul, Nat.add_zero, show (k + 24 - 0) % 24 = k by omega, ← Nat.add_mul, show x + (10 - x) = 10 by omega, show t + 1 - turns K g t = (t - turns K g t) + 1 by omega, Nat.pow_succ, ← Nat.mul_assoc, Nat.mul_comm 10]
  · rw [e, Nat.one_mul, ways_s (show turn1 K ≤ 24 from Nat.le_trans turn1_le (by omega)) hk, show t + 1 - (turns K g t + 1) = t - turns K g t by omega, Nat.add_mul, Nat.mul_assoc, Nat.mul_assoc]
-- powers, choices
theorem power_eq {b n : Nat} (hn : n < 1000) : f_X7_power (nI b) (nI n) = some (nI (b ^ n)) := by
  unfold f_X7_power
  have key := loopN (fun nf (s : Int32) v => f_X7_power_L4 (nI n) (nI b) (fun v1 _ => some v1) nf s v) (fun s _ => some s) n (fun i => nI (b ^ i)) (fun nf => by
    show f_X7_power_L4 _ _ _ (nf + 1) _ _ = _
    rw [f_X7_power_L4_s, if_pos (lle (Nat.le_refl _) (by omega))]) (fun nf i hi => by
    show f_X7_power_L4 _ _ _ (nf + 1) _ _ = f_X7_power_L4 _ _ _ nf _ _
    rw [f_X7_power_L4_s, if_neg (nle hi (by omega)), pk_mul, nI_n1, Nat.pow_succ]) 20000 (by omega)
  exact key
theorem choices_dec : ∀ n, n < 9 → ∀ i, i < n + 1 → f_X7_choicesOf_L4 (nI i) (nI n) (fun v1 _ => some v1) 12 1 0 = some (nI (choose n i)) := by decide +kernel
theorem choices_fuel (i n : Int32) (k : Int32 → Int32 → Option Int32) : ∀ f c v r, f_X7_choicesOf_L4 i n k f c v = some r → f_X7_choicesOf_L4 i n k (f + 1) c v = some r := by
  intro f
  induction f with
  | zero => intro c v r h; rw [f_X7_choicesOf_L4_0] at h; cases h
  | succ f ih =>
    intro c v r h
    rw [f_X7_choicesOf_L4_s] at h ⊢
    by_cases q : i ≤ v
    · rw [if_pos q] at h ⊢; exact h
    · rw [if_neg q] at h ⊢
      by_cases q2 : v + (1 : Int32) = 0
      · rw [if_pos q2] at h; cases h
      · rw [if_neg q2] at h ⊢; exact ih _ _ _ h
theorem choicesOf_eq {i n : Nat} (hn : n < 9) (hi : i ≤ n) : f_X7_choicesOf (nI i) (nI n) = some (nI (choose n i)) := by
  unfold f_X7_choicesOf
  have key : ∀ d, f_X7_choicesOf_L4 (nI i) (nI n) (fun v1 _ => some v1) (12 + d) 1 0 = some (nI (choose n i)) := by
    intro d
    induction d with
    | zero => exact choices_dec n hn i (by omega)
    | succ d ih => exact choices_fuel _ _ _ _ _ _ _ ih
  exact key 19988

theorem ways_L {u K g h x : Nat} {T : Nat} {qh pk : Nat → Int32} {h0 : Nat} (hT : T < 9) (hu : u < 6) (hK : K < 4) (hq : qh u = nI h0) (hh0 : h0 < 24) (hh : h < 24) (hx : x ≤ 10) (k : Int32 → Int32 → Option Int32) : f_X1_fleckedWays_L28 (nI T) qh (nI u) (nI K) (nI h) (nI x) k 20000 0 0 = k (nI (ways x (10 - x) (turn1 K) h0 T h)) (nI (T + 1)) := by
  have ht := turn1_le (K := K)
  have key := loopN (fun nf (s : Int32) v => f_X1_fleckedWays_L28 (nI T) qh (nI u) (nI K) (nI h) (nI x) k nf s v) (fun s v => k s v) (T + 1) (fun i => nI (sumN (wayT x (10 - x) (turn1 K) h0 T h) i)) (fun nf => by
    show f_X1_fleckedWays_L28 _ _ _ _ _ _ _ (nf + 1) _ _ = _
    rw [f_X1_fleckedWays_L28_s, if_pos ((nI_ltI (by omega) (by omega)).mpr (by omega))]) (fun nf i hi => by
    show f_X1_fleckedWays_L28 _ _ _ _ _ _ _ (nf + 1) _ _ = f_X1_fleckedWays_L28 _ _ _ _ _ _ _ nf _ _
    have hb : i * turn1 K ≤ 8 * 2 := Nat.mul_le_mul (by omega) ht
    rw [f_X1_fleckedWays_L28_s, if_neg (fun q => by have := (nI_ltI (by omega) (by omega)).mp q; omega), hourOf_eq qh hu, ob_some, turnOf_eq hK, ob_some, hq, pk_mul, nI_add, jrem24 (by omega), nI_n1, sumN]
    unfold wayT
    by_cases q : (h0 + i * turn1 K) % 24 = h
    · rw [if_pos (by rw [q]), if_pos q, choicesOf_eq hT (by omega), ob_some, power_eq (by omega), ob_some, show (10 : Int32) = nI 10 from rfl, pk_sub (by omega), pk_sub (by omega), power_eq (by omega), ob_some, pk_mul, pk_mul, nI_add]
    · rw [if_neg (fun z => q ((eqN (by omega) (by omega)).mp z)), if_neg q]
      rfl) 20000 (by omega)
  exact key
theorem fleckedWays_eq {u K g h x n : Nat} {qh pk : Nat → Int32} {h0 : Nat} (hn : n ≤ 8) (hg : g < 90000) (hu : u < 6) (hk : pk u = nI K) (hK : K < 4) (hq : qh u = nI h0) (hh0 : h0 < 24) (hh : h < 24) (hx : x ≤ 10) : f_X1_fleckedWays (nI g) qh pk (nI u) (nI h) (nI n) (nI x) = some (nI (prt K g x h0 n h)) := by
  have h1 := turns_le' (K := K) (g := g) (n := n)
  unfold f_X1_fleckedWays
  rw [kindOf_eq pk hu, ob_some, hk, turnsOf_eq hK (by omega) (by omega), ob_some, ways_L (pk := pk) (g := g) (by omega) hu hK hq hh0 hh hx, pk_sub (by omega), show (10 : Int32) = nI 10 from rfl, power_eq (by omega), ob_some, pk_mul]
  rfl
-- the greatest common divisor
theorem common_L (k : Int32 → Int32 → Option Int32) : ∀ d x y nf, y < 2 ^ d → d ≤ 30 → x < 2 ^ 31 → 2 * d + 1 ≤ nf → f_X8_common_L4 k nf (nI x) (nI y) = k (nI (Nat.gcd x y)) 0 := by
  intro d
  induction d with
  | zero =>
    intro x y nf h1 h2 h3 h4
    obtain ⟨m, rfl⟩ : ∃ m, nf = m + 1 := ⟨nf - 1, by omega⟩
    have : y = 0 := by omega
    subst this
    rw [f_X8_common_L4_s, if_pos (show nI 0 = 0 from rfl), Nat.gcd_zero_right]
    rfl
  | succ d ih =>
    intro x y nf h1 h2 h3 h4
    have hp : 2 ^ (d + 1) ≤ 2 ^ 30 := Nat.pow_le_pow_right (by omega) h2
    rw [Nat.pow_succ] at h1
    obtain ⟨m, rfl⟩ : ∃ m, nf = m + 2 := ⟨nf - 2, by omega⟩
    rw [f_X8_common_L4_s]
    by_cases hy : y = 0
    · subst hy
      rw [if_pos (show nI 0 = 0 from rfl), Nat.gcd_zero_right]
      rfl
    · rw [if_neg (fun q => hy ((nI_z (by omega)).mp q)), jrem_eq h3 (by omega) (by omega)]
      have hr : x % y < y := Nat.mod_lt _ (by omega)
      rw [f_X8_common_L4_s]
      have e1 : Nat.gcd x y = Nat.gcd y (x % y) := by rw [Nat.gcd_comm x y, Nat.gcd_rec y x, Nat.gcd_comm]
      by_cases hz : x % y = 0
      · rw [hz, if_pos (show nI 0 = 0 from rfl), e1, hz, Nat.gcd_zero_right]
        rfl
      · rw [if_neg (fun q => hz ((nI_z (by omega)).mp q)), jrem_eq (by omega) (by omega) (by omega)]
        have hs : y % (x % y) < 2 ^ d := by
          have g1 : y % (x % y) < x % y := Nat.mod_lt _ (by omega)
          by_cases g2 : x % y ≤ 2 ^ d
          · omega
          · have g3 : y % (x % y) = (y - x % y) % (x % y) := Nat.mod_eq_sub_mod (by omega)
            have g4 := Nat.mod_le (y - x % y) (x % y)
            omega
        rw [ih (x % y) (y % (x % y)) m hs (by omega) (by omega) (by omega), e1]
        congr 2
        rw [Nat.gcd_comm y, Nat.gcd_rec (x % y) y, Nat.gcd_comm]
theorem common_eq {x y : Nat} (hx : x < 2 ^ 31) (hy : y < 2 ^ 30) : f_X8_common (nI x) (nI y) = some (nI (Nat.gcd x y)) := by
  unfold f_X8_common
  exact common_L _ 30 x y 20000 hy (by omega) hx (by omega)
theorem cop2 {a : Nat} (h : a % 2 ≠ 0) : Nat.Coprime a 2 := by
  show Nat.gcd a 2 = 1
  rw [Nat.gcd_comm, Nat.gcd_rec, show a % 2 = 1 by omega]
  rfl
theorem cop5 {a : Nat} (h : a % 5 ≠ 0) : Nat.Coprime a 5 := by
  show Nat.gcd a 5 = 1
  rw [Nat.gcd_comm, Nat.gcd_rec]
  have : a % 5 = 1 ∨ a % 5 = 2 ∨ a % 5 = 3 ∨ a % 5 = 4 := by omega
  rcases this with e | e | e | e <;> rw [e] <;> rfl
theorem lowest {a b a' b' d p q : Nat} (h1 : a = d * a') (h2 : b = d * b') (h3 : b' = 2 ^ p * 5 ^ q) (hp : p = 0 ∨ a' % 2 ≠ 0) (hq : q = 0 ∨ a' % 5 ≠ 0) : Nat.gcd a b = d := by
  have c1 : Nat.Coprime a' (2 ^ p) := by
    rcases hp with h | h
    · rw [h]; exact Nat.coprime_one_right _
    · exact (cop2 h).pow_right p
  have c2 : Nat.Coprime a' (5 ^ q) := by
    rcases hq with h | h
    · rw [h]; exact Nat.coprime_one_right _
    · exact (cop5 h).pow_right q
  have c3 : Nat.gcd a' b' = 1 := by rw [h3]; exact c1.mul_right c2
  rw [h1, h2, Nat.gcd_mul_left, c3, Nat.mul_one]
/-- so far divided: i rounds of n -/
def LT (a b n i : Nat) (s : Int32 × Int32) : Prop := ∃ a' b' d p q, s = (nI a', nI b') ∧ a = d * a' ∧ b = d * b' ∧ b' = 2 ^ p * 5 ^ q ∧ (p = n - i ∨ a' % 2 ≠ 0) ∧ (q = n - i ∨ a' % 5 ≠ 0)
theorem div2 {a : Nat} (ha : a < 2 ^ 31) : nI a / (2 : Int32) = nI (a / 2) := pk_div (d := 2) (by omega) (by omega) (by omega)
theorem div5 {a : Nat} (ha : a < 2 ^ 31) : nI a / (5 : Int32) = nI (a / 5) := pk_div (d := 5) (by omega) (by omega) (by omega)
theorem rem2z {a : Nat} (ha : a < 2 ^ 31) : jrem (nI a) (2 : Int32) = 0 ↔ a % 2 = 0 := by rw [jrem2 ha]; exact nI_z (by omega)
theorem rem5z {a : Nat} (ha : a < 2 ^ 31) : jrem (nI a) (5 : Int32) = 0 ↔ a % 5 = 0 := by rw [show jrem (nI a) (5 : Int32) = nI (a % 5) from jrem_eq (d := 5) ha (by omega) (by omega)]; exact nI_z (by omega)
theorem lowL {a b n : Nat} (ha : a < 2 ^ 31) (hb : b < 2 ^ 31) (hb0 : 0 < b) (hn : n ≤ 8) (he : b = 2 ^ n * 5 ^ n) (k : Int32 → Int32 → Int32 → Option Int32) : ∃ a' b' d, a = d * a' ∧ b = d * b' ∧ Nat.gcd a b = d ∧ f_X7_flecks_L78 (nI n) k 20000 (nI a) (nI b) 0 = k (nI a') (nI b') (nI n) := by
  obtain ⟨s, ⟨a', b', d, p, q, rfl, g1, g2, g3, g4, g5⟩, g6⟩ := loopI (fun nf (s : Int32 × Int32) v => f_X7_flecks_L78 (nI n) k nf s.1 s.2 v) (fun s v => k s.1 s.2 v) n (fun i s => LT a b n i s) (fun nf s hs => by
      show f_X7_flecks_L78 _ _ (nf + 1) _ _ _ = _
      rw [f_X7_flecks_L78_s, if_pos (lle (Nat.le_refl _) (by omega))]) (fun nf i s hi hs => by
      obtain ⟨a', b', d, p, q, rfl, g1, g2, g3, g4, g5⟩ := hs
      have hd : 0 < d := Nat.pos_of_ne_zero (fun z => by rw [z, Nat.zero_mul] at g2; omega)
      have ha' : a' < 2 ^ 31 := by have := Nat.le_mul_of_pos_left a' hd; omega
      have hb' : b' < 2 ^ 31 := by have := Nat.le_mul_of_pos_left b' hd; omega
      -- halves
      have two : ∃ a1 b1 d1 p1, a = d1 * a1 ∧ b = d1 * b1 ∧ b1 = 2 ^ p1 * 5 ^ q ∧ (p1 = n - (i + 1) ∨ a1 % 2 ≠ 0) ∧ (q = n - i ∨ a1 % 5 ≠ 0) ∧ ((a' % 2 = 0 ∧ b' % 2 = 0 ∧ a1 = a' / 2 ∧ b1 = b' / 2) ∨ (a' % 2 ≠ 0 ∧ a1 = a' ∧ b1 = b')) := by
        by_cases h2 : a' % 2 = 0
        · have hp : p = n - i := g4.resolve_right (fun z => z h2)
          obtain ⟨p1, rfl⟩ : ∃ p1, p = p1 + 1 := ⟨p - 1, by omega⟩
          have e1 : b' = 2 * (2 ^ p1 * 5 ^ q) := by rw [g3, Nat.pow_succ, Nat.mul_comm (2 ^ p1) 2, Nat.mul_assoc]
          refine ⟨a' / 2, 2 ^ p1 * 5 ^ q, d * 2, p1, ?_, ?_, rfl, Or.inl (by omega), ?_, Or.inl ⟨h2, by omega, rfl, by omega⟩⟩
          · rw [Nat.mul_assoc, show 2 * (a' / 2) = a' by omega]; exact g1
          · rw [Nat.mul_assoc, ← e1]; exact g2
          · rcases g5 with z | z
            · exact Or.inl z
            · exact Or.inr (by omega)
        · exact ⟨a', b', d, p, g1, g2, g3, Or.inr h2, g5, Or.inr ⟨h2, rfl, rfl⟩⟩
      obtain ⟨a1, b1, d1, p1, k1, k2, k3, k4, k5, k6⟩ := two
      have hd1 : 0 < d1 := Nat.pos_of_ne_zero (fun z => by rw [z, Nat.zero_mul] at k2; omega)
      have ha1 : a1 < 2 ^ 31 := by have := Nat.le_mul_of_pos_left a1 hd1; omega
      have hb1 : b1 < 2 ^ 31 := by have := Nat.le_mul_of_pos_left b1 hd1; omega
      have five : ∃ a2 b2 d2 q2, a = d2 * a2 ∧ b = d2 * b2 ∧ b2 = 2 ^ p1 * 5 ^ q2 ∧ (p1 = n - (i + 1) ∨ a2 % 2 ≠ 0) ∧ (q2 = n - (i + 1) ∨ a2 % 5 ≠ 0) ∧ ((a1 % 5 = 0 ∧ b1 % 5 = 0 ∧ a2 = a1 / 5 ∧ b2 = b1 / 5) ∨ (a1 % 5 ≠ 0 ∧ a2 = a1 ∧ b2 = b1)) := by
        by_cases h5 : a1 % 5 = 0
        · have hq : q = n - i := k5.resolve_right (fun z => z h5)
          obtain ⟨q1, rfl⟩ : ∃ q1, q = q1 + 1 := ⟨q - 1, by omega⟩
          have e1 : b1 = 5 * (2 ^ p1 * 5 ^ q1) := by rw [k3, Nat.pow_succ, Nat.mul_comm (5 ^ q1) 5, ← Nat.mul_assoc, ← Nat.mul_assoc, Nat.mul_comm (2 ^ p1) 5]
          refine ⟨a1 / 5, 2 ^ p1 * 5 ^ q1, d1 * 5, q1, ?_, ?_, rfl, ?_, Or.inl (by omega), Or.inl ⟨h5, by omega, rfl, by omega⟩⟩
          · rw [Nat.mul_assoc, show 5 * (a1 / 5) = a1 by omega]; exact k1
          · rw [Nat.mul_assoc, ← e1]; exact k2
          · rcases k4 with z | z
            · exact Or.inl z
            · exact Or.inr (by omega)
        · exact ⟨a1, b1, d1, q, k1, k2, k3, k4, Or.inr h5, Or.inr ⟨h5, rfl, rfl⟩⟩
      obtain ⟨a2, b2, d2, q2, l1, l2, l3, l4, l5, l6⟩ := five
      refine ⟨(nI a2, nI b2), ⟨a2, b2, d2, p1, q2, rfl, l1, l2, l3, l4, l5⟩, ?_⟩
      show f_X7_flecks_L78 _ _ (nf + 1) _ _ _ = f_X7_flecks_L78 _ _ nf _ _ _
      rw [f_X7_flecks_L78_s, if_neg (nle hi (by omega)), nI_n1]
      rcases k6 with ⟨x1, x2, rfl, rfl⟩ | ⟨x1, rfl, rfl⟩
      · rw [if_pos ((rem2z ha').mpr x1), if_pos ((rem2z hb').mpr x2), div2 ha', div2 hb']
        rcases l6 with ⟨y1, y2, rfl, rfl⟩ | ⟨y1, rfl, rfl⟩
        · rw [if_pos ((rem5z ha1).mpr y1), if_pos ((rem5z hb1).mpr y2), div5 ha1, div5 hb1]
        · rw [if_neg (fun z => y1 ((rem5z ha1).mp z))]
      · rw [if_neg (fun z => x1 ((rem2z ha').mp z))]
        rcases l6 with ⟨y1, y2, rfl, rfl⟩ | ⟨y1, rfl, rfl⟩
        · rw [if_pos ((rem5z ha1).mpr y1), if_pos ((rem5z hb1).mpr y2), div5 ha1, div5 hb1]
        · rw [if_neg (fun z => y1 ((rem5z ha1).mp z))]) n 0 20000 (nI a, nI b) (by omega) (by omega) ⟨a, b, 1, n, n, rfl, (Nat.one_mul a).symm, (Nat.one_mul b).symm, he, Or.inl rfl, Or.inl rfl⟩
  exact ⟨a', b', d, g1, g2, lowest g1 g2 g3 (by rcases g4 with z | z; exact Or.inl (by omega); exact Or.inr z) (by rcases g5 with z | z; exact Or.inl (by omega); exact Or.inr z), g6⟩
