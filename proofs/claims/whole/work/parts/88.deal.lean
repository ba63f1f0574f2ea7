-- the search, without bounds: in the order in which the document prefers
def foldR {α : Type} (f : Nat → α → α) (lo : Nat) : Nat → α → α
  | 0, a => a
  | n + 1, a => f (lo + n) (foldR f lo n a)
theorem foldR_add {α : Type} (f : Nat → α → α) (lo n1 : Nat) : ∀ n2 a, foldR f lo (n1 + n2) a = foldR f (lo + n1) n2 (foldR f lo n1 a)
  | 0, _ => rfl
  | n2 + 1, a => by
    show f (lo + (n1 + n2)) (foldR f lo (n1 + n2) a) = f (lo + n1 + n2) (foldR f (lo + n1) n2 (foldR f lo n1 a))
    rw [foldR_add f lo n1 n2 a, Nat.add_assoc]
theorem foldR_id {α : Type} (f : Nat → α → α) (lo : Nat) (a : α) : ∀ n, (∀ i, i < n → f (lo + i) a = a) → foldR f lo n a = a
  | 0, _ => rfl
  | n + 1, h => by
    show f (lo + n) (foldR f lo n a) = a
    rw [foldR_id f lo a n (fun i hi => h i (by omega)), h n (by omega)]
theorem foldR_blocks {α : Type} (f : Nat → α → α) (lo s : Nat) : ∀ k a, foldR f (lo * s) (k * s) a = foldR (fun u a => foldR f (u * s) s a) lo k a
  | 0, a => by rw [Nat.zero_mul]; rfl
  | k + 1, a => by
    rw [Nat.add_mul, Nat.one_mul, foldR_add, foldR_blocks f lo s k a, ← Nat.add_mul]
    rfl
abbrev BT : Type := Nat × (Nat → Nat)
def goD (pa : Nat) (stl : Nat → Bool) (wk : Nat → Nat → Nat) : Nat → Nat → Nat → Nat → (Nat → Nat) → BT → BT
  | 0, _, _, done, pre, acc => if acc.1 < popc done + 1 then (popc done + 1, pre) else acc
  | R + 1, p, used, done, pre, acc => goD pa stl wk R (p + 1) used (done ||| (if stl p = true then 0 else wk p pa)) (setN pre p pa) (foldR (fun u a => if (stl p || used.testBit u) = true then a else goD pa stl wk R (p + 1) (used ||| 2 ^ u) (done ||| wk p u) (setN pre p u) a) 0 pa acc)
theorem goD_pos {pa : Nat} {stl : Nat → Bool} {wk : Nat → Nat → Nat} : ∀ R p used done pre acc, 0 < (goD pa stl wk R p used done pre acc).1
  | 0, p, used, done, pre, acc => by
    rw [goD]
    split
    · exact Nat.succ_pos _
    · show 0 < acc.1
      omega
  | R + 1, p, used, done, pre, acc => by rw [goD]; exact goD_pos R _ _ _ _ _
theorem popc_mono : ∀ a, a < 64 → ∀ b, b < 64 → a ||| b = b → popc a ≤ popc b := by decide +kernel
theorem or_sub {a b c : Nat} (h : b ||| c = c) (h' : a ||| c = c) : (a ||| b) ||| c = c := by rw [Nat.or_assoc, h, h']
/-- a bound that tells that nothing better is to be found -/
theorem goD_bound {pa : Nat} {stl : Nat → Bool} {wk : Nat → Nat → Nat} (rch : Nat → Nat) (hr : ∀ j, rch j < 64) (hw : ∀ p x, x ≤ pa → stl p = false → wk p x ||| rch p = rch p) (hs : ∀ p, rch (p + 1) ||| rch p = rch p) : ∀ R p used done pre (acc : BT), done < 64 → popc (done ||| rch p) + 1 ≤ acc.1 → goD pa stl wk R p used done pre acc = acc
  | 0, p, used, done, pre, acc, hd, h => by
    have hr' := hr p
    have := popc_mono done hd (done ||| rch p) (or64 hd hr') (by rw [← Nat.or_assoc, Nat.or_self])
    rw [goD, if_neg (by omega)]
  | R + 1, p, used, done, pre, acc, hd, h => by
    have hr0 := hr p
    have hr1 := hr (p + 1)
    have step : ∀ x, x ||| rch p = rch p → x < 64 → popc ((done ||| x) ||| rch (p + 1)) + 1 ≤ acc.1 := fun x hx hx6 => by
      have hsub : ((done ||| x) ||| rch (p + 1)) ||| (done ||| rch p) = done ||| rch p := by
        apply Nat.eq_of_testBit_eq
        intro i
        have e1 := congrArg (fun n => Nat.testBit n i) hx
        have e2 := congrArg (fun n => Nat.testBit n i) (hs p)
        simp only [Nat.testBit_or] at e1 e2 ⊢
        revert e1 e2
        cases done.testBit i <;> cases x.testBit i <;> cases (rch (p + 1)).testBit i <;> cases (rch p).testBit i <;> simp
      have := popc_mono _ (or64 (or64 hd hx6) hr1) _ (or64 hd hr0) hsub
      omega
    have lt64 : ∀ x, x ||| rch p = rch p → x < 64 := fun x hx => Nat.lt_of_le_of_lt (by rw [← hx]; exact Nat.left_le_or) hr0
    have hz : 0 ||| rch p = rch p := Nat.zero_or _
    rw [goD, foldR_id _ 0 acc pa (fun i hi => by
      show (if (stl p || used.testBit (0 + i)) = true then acc else goD pa stl wk R (p + 1) (used ||| 2 ^ (0 + i)) (done ||| wk p (0 + i)) (setN pre p (0 + i)) acc) = acc
      by_cases q : (stl p || used.testBit (0 + i)) = true
      · rw [if_pos q]
      · rw [if_neg q]
        have hx := hw p (0 + i) (by omega) (by simp at q; simp [q.1])
        exact goD_bound rch hr hw hs R _ _ _ _ acc (or64 hd (lt64 _ hx)) (step _ hx (lt64 _ hx)))]
    by_cases q : stl p = true
    · rw [if_pos q]
      exact goD_bound rch hr hw hs R _ _ _ _ acc (or64 hd (by omega)) (step 0 hz (by omega))
    · rw [if_neg q]
      have hx := hw p pa (Nat.le_refl _) (by simpa using q)
      exact goD_bound rch hr hw hs R _ _ _ _ acc (or64 hd (lt64 _ hx)) (step _ hx (lt64 _ hx))
-- the codes
def dg (b p c j : Nat) : Nat := c / b ^ (p - 1 - j) % b
theorem dg_s {b p c u j : Nat} (hu : u < b) (hj : j < p) : dg b (p + 1) (c * b + u) j = dg b p c j := by
  unfold dg
  rw [show p + 1 - 1 - j = (p - 1 - j) + 1 by omega, Nat.pow_succ, Nat.mul_comm (b ^ _) b, ← Nat.div_div_eq_div_mul]
  congr 2
  rw [Nat.mul_comm c b, Nat.mul_add_div (by omega), Nat.div_eq_of_lt hu, Nat.add_zero]
theorem dg_l {b p c u : Nat} (hu : u < b) : dg b (p + 1) (c * b + u) p = u := by
  unfold dg
  rw [show p + 1 - 1 - p = 0 by omega, Nat.pow_zero, Nat.div_one, Nat.mul_comm c b, Nat.mul_add_mod, Nat.mod_eq_of_lt hu]
theorem dg_ext {b p c R r j : Nat} (hb : 0 < b) (hj : j < p) (hr : r < b ^ R) : dg b (p + R) (c * b ^ R + r) j = dg b p c j := by
  unfold dg
  rw [show p + R - 1 - j = R + (p - 1 - j) by omega, Nat.pow_add, ← Nat.div_div_eq_div_mul]
  congr 2
  rw [Nat.mul_comm c, Nat.mul_add_div (Nat.pow_pos hb), Nat.div_eq_of_lt hr, Nat.add_zero]
/-- the parasols used and the works done by the first n, if they can be dealt so -/
def stD (pa : Nat) (stl : Nat → Bool) (wk : Nat → Nat → Nat) (d : Nat → Nat) : Nat → Option (Nat × Nat)
  | 0 => some (0, 0)
  | n + 1 => match stD pa stl wk d n with
    | none => none
    | some (used, done) => if d n = pa then some (used, done ||| (if stl n = true then 0 else wk n pa)) else if (stl n || used.testBit (d n)) = true then none else some (used ||| 2 ^ d n, done ||| wk n (d n))
theorem stD_cong {pa : Nat} {stl : Nat → Bool} {wk : Nat → Nat → Nat} {d d' : Nat → Nat} : ∀ {n}, (∀ j, j < n → d j = d' j) → stD pa stl wk d n = stD pa stl wk d' n
  | 0, _ => rfl
  | n + 1, h => by rw [stD, stD, stD_cong (fun j hj => h j (by omega)), h n (by omega)]
theorem stD_none {pa : Nat} {stl : Nat → Bool} {wk : Nat → Nat → Nat} {d : Nat → Nat} {p : Nat} (h : stD pa stl wk d p = none) : ∀ R, stD pa stl wk d (p + R) = none
  | 0 => h
  | R + 1 => by
    show stD pa stl wk d (p + R + 1) = none
    rw [stD, stD_none h R]
def stepD (pa pe : Nat) (stl : Nat → Bool) (wk : Nat → Nat → Nat) (code : Nat) (a : BT) : BT :=
  match stD pa stl wk (dg (pa + 1) pe code) pe with
  | none => a
  | some (_, done) => if a.1 < popc done + 1 then (popc done + 1, dg (pa + 1) pe code) else a
def EqD (pe : Nat) (a a' : BT) : Prop := a.1 = a'.1 ∧ (a.1 = 0 ∨ ∀ j, j < pe → a.2 j = a'.2 j)
theorem setN_lt {f : Nat → Nat} {p x : Nat} {j : Nat} (h : j < p) : setN f p x j = f j := setN_n (by omega)
theorem codes_go {pa pe : Nat} {stl : Nat → Bool} {wk : Nat → Nat → Nat} : ∀ R p c pre a a', p + R = pe → (∀ j, j < p → pre j = dg (pa + 1) p c j) → EqD pe a a' →
    (∀ used done, stD pa stl wk pre p = some (used, done) → EqD pe (foldR (stepD pa pe stl wk) (c * (pa + 1) ^ R) ((pa + 1) ^ R) a) (goD pa stl wk R p used done pre a')) ∧ (stD pa stl wk pre p = none → foldR (stepD pa pe stl wk) (c * (pa + 1) ^ R) ((pa + 1) ^ R) a = a) := by
  intro R
  induction R with
  | zero =>
    intro p c pre a a' hp hpre hE
    have hp : p = pe := by omega
    subst hp
    have hst : stD pa stl wk (dg (pa + 1) p c) p = stD pa stl wk pre p := stD_cong (fun j hj => (hpre j hj).symm)
    rw [Nat.pow_zero, Nat.mul_one]
    constructor
    · intro used done h
      show EqD p (stepD pa p stl wk (c + 0) a) _
      unfold stepD
      rw [Nat.add_zero c, hst, h, goD]
      show EqD p (if a.1 < popc done + 1 then _ else _) _
      rw [hE.1]
      split
      · exact ⟨rfl, Or.inr fun j hj => (hpre j hj).symm⟩
      · exact hE
    · intro h
      show stepD pa p stl wk (c + 0) a = a
      unfold stepD
      rw [Nat.add_zero c, hst, h]
  | succ R ih =>
    intro p c pre a a' hp hpre hE
    have hb : 0 < pa + 1 := Nat.succ_pos _
    constructor
    · intro used done h
      have e1 : c * (pa + 1) ^ (R + 1) = (c * (pa + 1)) * (pa + 1) ^ R := by rw [Nat.pow_succ, Nat.mul_comm ((pa + 1) ^ R), Nat.mul_assoc]
      have e2 : (pa + 1) ^ (R + 1) = (pa + 1) * (pa + 1) ^ R := by rw [Nat.pow_succ, Nat.mul_comm]
      rw [e1, e2, foldR_blocks]
      have sub : ∀ u, u < pa + 1 → ∀ x x', EqD pe x x' → (∀ used' done', stD pa stl wk (setN pre p u) (p + 1) = some (used', done') → EqD pe (foldR (stepD pa pe stl wk) ((c * (pa + 1) + u) * (pa + 1) ^ R) ((pa + 1) ^ R) x) (goD pa stl wk R (p + 1) used' done' (setN pre p u) x')) ∧ (stD pa stl wk (setN pre p u) (p + 1) = none → foldR (stepD pa pe stl wk) ((c * (pa + 1) + u) * (pa + 1) ^ R) ((pa + 1) ^ R) x = x) := fun u hu x x' hx => ih (p + 1) (c * (pa + 1) + u) (setN pre p u) x x' (by omega) (fun j hj => by
          by_cases hjp : j = p
          · subst hjp; rw [setN_s, dg_l hu]
          · rw [setN_n hjp, dg_s hu (by omega)]; exact hpre j (by omega)) hx
      have st1 : ∀ u, stD pa stl wk (setN pre p u) (p + 1) = if u = pa then some (used, done ||| (if stl p = true then 0 else wk p pa)) else if (stl p || used.testBit u) = true then none else some (used ||| 2 ^ u, done ||| wk p u) := fun u => by
        have hc : stD pa stl wk (setN pre p u) p = some (used, done) := by rw [← h]; exact stD_cong (fun j hj => setN_lt hj)
        rw [stD, hc]
        show (if setN pre p u p = pa then _ else _) = _
        rw [setN_s]
      have key : ∀ n, n ≤ pa → EqD pe (foldR (fun u a => foldR (stepD pa pe stl wk) (u * (pa + 1) ^ R) ((pa + 1) ^ R) a) (c * (pa + 1)) n a) (foldR (fun u a => if (stl p || used.testBit u) = true then a else goD pa stl wk R (p + 1) (used ||| 2 ^ u) (done ||| wk p u) (setN pre p u) a) 0 n a') := by
        intro n
        induction n with
        | zero => intro _; exact hE
        | succ n ihn =>
          intro hn
          have hx := ihn (by omega)
          obtain ⟨s1, s2⟩ := sub n (by omega) _ _ hx
          have hs := st1 n
          rw [if_neg (by omega)] at hs
          show EqD pe (foldR (stepD pa pe stl wk) ((c * (pa + 1) + n) * (pa + 1) ^ R) ((pa + 1) ^ R) (foldR _ (c * (pa + 1)) n a)) (if (stl p || used.testBit (0 + n)) = true then foldR _ 0 n a' else goD pa stl wk R (p + 1) (used ||| 2 ^ (0 + n)) (done ||| wk p (0 + n)) (setN pre p (0 + n)) (foldR _ 0 n a'))
          rw [Nat.zero_add]
          by_cases q : (stl p || used.testBit n) = true
          · rw [if_pos q] at hs ⊢
            rw [s2 hs]
            exact hx
          · rw [if_neg q] at hs ⊢
            exact s1 _ _ hs
      obtain ⟨s1, -⟩ := sub pa (by omega) _ _ (key pa (Nat.le_refl _))
      have hs := st1 pa
      rw [if_pos rfl] at hs
      rw [goD]
      exact s1 _ _ hs
    · intro h
      refine foldR_id _ _ _ _ fun i hi => ?_
      unfold stepD
      have hst : stD pa stl wk (dg (pa + 1) pe (c * (pa + 1) ^ (R + 1) + i)) pe = none := by
        have h1 : stD pa stl wk (dg (pa + 1) pe (c * (pa + 1) ^ (R + 1) + i)) p = none := by
          rw [← h]
          refine stD_cong fun j hj => ?_
          rw [hpre j hj, ← hp, dg_ext hb hj hi]
        rw [← hp] at h1 ⊢
        exact stD_none h1 (R + 1)
      rw [hst]
