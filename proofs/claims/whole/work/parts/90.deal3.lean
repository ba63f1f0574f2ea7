section DEALF
variable {sq pa pe wo D S g : Nat} {Ho Wo Sq Un K WS WH : Nat → Nat} {qg qm : Int32} {qh qw qs qu pk ws wh m o : Nat → Int32}
theorem add_m1 (k : Nat) : nI k + (-1 : Int32) = m1 k := by
  unfold m1
  rw [Int32.sub_eq_add_neg]
theorem reachL_c (hc : CM pa pe Ho Wo Sq Un qh qw qs qu) (hv : VM sq pa pe Ho Wo Sq Un) (hw : CP wo WS WH ws wh) (hD : D < 64) (hS : S < 32) (k : Int32 → (Nat → Int32) → Option (Int32 × (Nat → Int32) × (Nat → Int32) × (Nat → Int32))) : ∀ n nf s, n ≤ pe → n < nf → (∀ i, n ≤ i → i ≤ pe → s i = nI (rchD S.testBit (wkD Ho Wo Sq WS WH wo D pa pe) pa (pe - i) i)) → ∃ s', f_X0_findBest_L30 (nI S) (nI D) qh qw qs (nI pa) (nI wo) ws wh k nf (m1 n) s = k (-1) s' ∧ ∀ i, i ≤ pe → s' i = nI (rchD S.testBit (wkD Ho Wo Sq WS WH wo D pa pe) pa (pe - i) i) := by
  have hpe := hv.2.2.1
  intro n
  induction n with
  | zero =>
    intro nf s h1 h2 h3
    obtain ⟨nf, rfl⟩ : ∃ k, nf = k + 1 := ⟨nf - 1, by omega⟩
    refine ⟨s, ?_, fun i hi => h3 i (by omega) hi⟩
    rw [f_X0_findBest_L30_s, m1_0i, if_pos (by decide)]
  | succ n ih =>
    intro nf s h1 h2 h3
    obtain ⟨nf, rfl⟩ : ∃ k, nf = k + 1 := ⟨nf - 1, by omega⟩
    obtain ⟨s', r1, r2⟩ := ih nf (upd s n (nI (rchD S.testBit (wkD Ho Wo Sq WS WH wo D pa pe) pa (pe - n) n))) (by omega) (by omega) (fun i hi hi2 => by
      by_cases hin : i = n
      · subst hin; rw [pk_us]
      · rw [pk_un hin]; exact h3 i (by omega) hi2)
    refine ⟨s', ?_, r2⟩
    rw [f_X0_findBest_L30_s, m1_s n (by omega), if_neg (nI_pos (by omega)), nI_n1, at_eq s (by omega) (by omega), ob_some, reachOf_c hc hv hw hD hS (show n < pe by omega), ob_some, h3 (n + 1) (by omega) h1, or_nI, put_eq _ _ (by omega) (by omega), ob_some, add_m1, ← r1, show pe - n = (pe - (n + 1)) + 1 by omega]
    rfl
theorem findBest_c (hc : CM pa pe Ho Wo Sq Un qh qw qs qu) (hv : VM sq pa pe Ho Wo Sq Un) (hw : CP wo WS WH ws wh) (hD : D < 64) (hS : S < 32) (hpa : 0 < pa) (dc db dr : Nat → Int32) (f0 : Nat → Nat) : ∃ dc' db' dr', f_X0_findBest dc db dr qg qm (nI S) (nI D) qh qw qs qu (nI sq) (nI pa) (nI pe) (nI wo) pk ws wh = some (m1 (goD pa S.testBit (wkD Ho Wo Sq WS WH wo D pa pe) pe 0 0 0 f0 (0, f0)).1, dc', db', dr') ∧ (goD pa S.testBit (wkD Ho Wo Sq WS WH wo D pa pe) pe 0 0 0 f0 (0, f0)).1 ≤ 7 ∧ ∀ j, j < pe → db' j = eU (cod pa ((goD pa S.testBit (wkD Ho Wo Sq WS WH wo D pa pe) pe 0 0 0 f0 (0, f0)).2 j)) := by
  have hpe := hv.2.2.1
  obtain ⟨dr', r1, r2⟩ := reachL_c hc hv hw hD hS (fun v3 dreach_4 => Option.bind (f_X0_choose 7 (-1 : Int32) dc db dreach_4 qg qm (nI S) (nI D) qh qw qs qu (nI sq) (nI pa) (nI pe) (nI wo) pk ws wh (0 : Int32) (0 : Int32) (0 : Int32)) fun x => some (x.1, x.2.1, x.2.2, dreach_4)) pe 20000 (upd dr pe 0) (Nat.le_refl _) (by omega) (fun i h1 h2 => by
    have : i = pe := by omega
    subst this
    rw [pk_us, Nat.sub_self]
    rfl)
  obtain ⟨dc', db', c1, c2, c3, c4⟩ := choose_c (qg := qg) (qm := qm) (pk := pk) hc hv hw hD hS hpa r2 pe 0 0 0 f0 (0, f0) (-1) dc db 7 (by omega) (by omega) (by omega) (by omega) m1_0i.symm (by show (0 : Nat) ≤ 7; omega) (fun j hj => by omega) (Or.inl rfl)
  have hpos := goD_pos (pa := pa) (stl := S.testBit) (wk := wkD Ho Wo Sq WS WH wo D pa pe) pe 0 0 0 f0 (0, f0)
  refine ⟨dc', db', dr', ?_, c2, c4.resolve_left (by omega)⟩
  unfold f_X0_findBest
  rw [put_eq _ _ (by omega) (by omega), ob_some]
  refine Eq.trans r1 ?_
  show Option.bind (f_X0_choose 7 (-1 : Int32) dc db dr' qg qm (nI S) (nI D) qh qw qs qu (nI sq) (nI pa) (nI pe) (nI wo) pk ws wh (0 : Int32) (0 : Int32) (0 : Int32)) _ = _
  rw [show f_X0_choose 7 (-1 : Int32) dc db dr' qg qm (nI S) (nI D) qh qw qs qu (nI sq) (nI pa) (nI pe) (nI wo) pk ws wh (0 : Int32) (0 : Int32) (0 : Int32) = _ from c1, ob_some]
-- the reference's codes
theorem dealt_L (h1 : m 1 = nI pa) (hpa : pa ≤ 6) {j : Nat} (k : Int32 → Int32 → Option Int32) : ∀ e code nf, e ≤ 5 → j < 5 → code < 2 ^ 30 → e < nf → f_X8_dealt_L12 (nI j) m k nf (nI code) (nI (j + e)) = k (nI (code / (pa + 1) ^ e)) (nI j) := by
  intro e
  induction e with
  | zero =>
    intro code nf h2 h3 h4 h5
    obtain ⟨nf, rfl⟩ : ∃ k, nf = k + 1 := ⟨nf - 1, by omega⟩
    rw [f_X8_dealt_L12_s, if_pos (lle (by omega) (by omega)), Nat.pow_zero, Nat.div_one]
    rfl
  | succ e ih =>
    intro code nf h2 h3 h4 h5
    obtain ⟨nf, rfl⟩ : ∃ k, nf = k + 1 := ⟨nf - 1, by omega⟩
    have hd : code / (pa + 1) ≤ code := Nat.div_le_self _ _
    rw [f_X8_dealt_L12_s, if_neg (nle (by omega) (by omega)), cl1, h1, nI_n1, if_neg (nI_ne0 (by omega) (by omega)), pk_div (by omega) (by omega) (by omega), show j + (e + 1) = (j + e) + 1 by omega, pk_m1, ih _ nf (by omega) h3 (by omega) (by omega), Nat.div_div_eq_div_mul, Nat.pow_succ, Nat.mul_comm]
theorem dealt_eq (h1 : m 1 = nI pa) (h2 : m 2 = nI pe) (hpa : pa ≤ 6) (hpe : pe ≤ 5) {j code : Nat} (hj : j < pe) (hc : code < 2 ^ 30) : f_X8_dealt m (nI code) (nI j) = some (nI (dg (pa + 1) pe code j)) := by
  have hd : code / (pa + 1) ^ (pe - 1 - j) ≤ code := Nat.div_le_self _ _
  unfold f_X8_dealt
  rw [cl2, h2, show (1 : Int32) = nI 1 from rfl, pk_sub (by omega), show pe - 1 = j + (pe - 1 - j) by omega, dealt_L h1 hpa _ (pe - 1 - j) code 20000 (by omega) (by omega) hc (by omega), show (nI 1).toNatClampNeg = 1 from rfl, h1, nI_add, if_neg (nI_ne0 (by omega) (by omega)), jrem_eq (by omega) (by omega) (by omega)]
  rfl
theorem dg_le {p c j : Nat} : dg (pa + 1) p c j ≤ pa := by
  have := Nat.mod_lt (c / (pa + 1) ^ (p - 1 - j)) (show 0 < pa + 1 by omega)
  unfold dg
  omega
def anyW (Ho Wo Sq WS WH : Nat → Nat) (S pa w : Nat) (d : Nat → Nat) : Nat → Bool
  | 0 => false
  | j + 1 => anyW Ho Wo Sq WS WH S pa w d j || (!S.testBit j && (Sq j == WS w && spT Ho Wo (Sq j) (cod pa (d j)) == WH w))
theorem stD_bits {d : Nat → Nat} {w : Nat} : ∀ {n used done}, n ≤ pe → stD pa S.testBit (wkD Ho Wo Sq WS WH wo D pa pe) d n = some (used, done) → done.testBit w = (decide (w < wo) && (anyW Ho Wo Sq WS WH S pa w d n && !D.testBit w))
  | 0, used, done, _, h => by
    rw [stD] at h
    cases h
    simp [anyW]
  | n + 1, used, done, hn, h => by
    rw [stD] at h
    cases hs : stD pa S.testBit (wkD Ho Wo Sq WS WH wo D pa pe) d n with
    | none => rw [hs] at h; cases h
    | some x =>
      obtain ⟨u0, d0⟩ := x
      have ih := stD_bits (w := w) (by omega) hs
      rw [hs] at h
      have hbit : ∀ x, (wkD Ho Wo Sq WS WH wo D pa pe n x).testBit w = (decide (w < wo) && (WS w == Sq n && (WH w == spT Ho Wo (Sq n) (cod pa x) && !D.testBit w))) := fun x => by
        unfold wkD spW
        rw [if_pos (by omega), mask_bit]
      have hcomm1 : (WS w == Sq n) = (Sq n == WS w) := by rw [Bool.eq_iff_iff, beq_iff_eq, beq_iff_eq]; exact eq_comm
      have hcomm2 : ∀ x, (WH w == spT Ho Wo (Sq n) (cod pa x)) = (spT Ho Wo (Sq n) (cod pa x) == WH w) := fun x => by rw [Bool.eq_iff_iff, beq_iff_eq, beq_iff_eq]; exact eq_comm
      simp only at h
      rw [anyW]
      by_cases q : d n = pa
      · rw [if_pos q] at h
        cases h
        by_cases hst : S.testBit n = true
        · rw [if_pos hst, Nat.or_zero, ih, hst]; simp
        · rw [if_neg hst, Nat.testBit_or, ih, hbit, hcomm1, hcomm2, q]
          simp only [Bool.not_eq_true] at hst
          rw [hst]
          cases decide (w < wo) <;> cases anyW Ho Wo Sq WS WH S pa w d n <;> cases D.testBit w <;> simp
      · rw [if_neg q] at h
        by_cases q2 : (S.testBit n || u0.testBit (d n)) = true
        · rw [if_pos q2] at h; cases h
        · rw [if_neg q2] at h
          cases h
          have hst : S.testBit n = false := by simp at q2; exact q2.1
          rw [Nat.testBit_or, ih, hbit, hcomm1, hcomm2, hst]
          cases decide (w < wo) <;> cases anyW Ho Wo Sq WS WH S pa w d n <;> cases D.testBit w <;> simp
def cntB (P : Nat → Bool) : Nat → Nat
  | 0 => 0
  | n + 1 => cntB P n + (if P n = true then 1 else 0)
theorem cntB_le {P : Nat → Bool} : ∀ n, cntB P n ≤ n
  | 0 => Nat.le_refl _
  | n + 1 => by have := cntB_le (P := P) n; rw [cntB]; split <;> omega
theorem cntB_cong {P Q : Nat → Bool} : ∀ {n}, (∀ i, i < n → P i = Q i) → cntB P n = cntB Q n
  | 0, _ => rfl
  | n + 1, h => by rw [cntB, cntB, cntB_cong (fun i hi => h i (by omega)), h n (by omega)]
theorem cntB_more {P : Nat → Bool} {n : Nat} (h : ∀ i, n ≤ i → P i = false) : ∀ k, cntB P (n + k) = cntB P n
  | 0 => rfl
  | k + 1 => by
    show cntB P (n + k + 1) = _
    rw [cntB, cntB_more h k, h (n + k) (by omega)]
    rfl
theorem popc_cnt : ∀ s, s < 64 → popc s = cntB s.testBit 6 := by decide +kernel
theorem popc_done {d : Nat → Nat} {used done : Nat} (hwo : wo ≤ 6) (hdone : done < 64) (h : stD pa S.testBit (wkD Ho Wo Sq WS WH wo D pa pe) d pe = some (used, done)) : popc done = cntB (fun w => anyW Ho Wo Sq WS WH S pa w d pe && !D.testBit w) wo := by
  have hb := fun w => stD_bits (w := w) (Nat.le_refl pe) h
  rw [popc_cnt _ hdone, show 6 = wo + (6 - wo) by omega, cntB_more (fun i hi => by rw [hb, decide_eq_false (by omega), Bool.false_and])]
  exact cntB_cong fun i hi => by rw [hb, decide_eq_true hi, Bool.true_and]
theorem stD_lt {d : Nat → Nat} (hwo : wo ≤ 6) : ∀ {n used done}, stD pa S.testBit (wkD Ho Wo Sq WS WH wo D pa pe) d n = some (used, done) → done < 64
  | 0, used, done, h => by rw [stD] at h; cases h; decide
  | n + 1, used, done, h => by
    rw [stD] at h
    cases hs : stD pa S.testBit (wkD Ho Wo Sq WS WH wo D pa pe) d n with
    | none => rw [hs] at h; cases h
    | some x =>
      obtain ⟨u0, d0⟩ := x
      have ih := stD_lt hwo hs
      rw [hs] at h
      simp only at h
      split at h
      · cases h
        refine or64 ih ?_
        split
        · decide
        · exact wkD_lt hwo _ _
      · split at h
        · cases h
        · cases h
          exact or64 ih (wkD_lt hwo _ _)
theorem code_L4 (hm : MP sq pa pe wo K WS WH m) (hpa : pa ≤ 6) (hpe : pe ≤ 5) (h3 : o 3 = nI S) (hS : S < 32) {code : Nat} (hcode : code < 2 ^ 30) (k : Int32 → Int32 → Option Int32) (kv : Option Int32) (hk : ∀ x y, k x y = kv) (wk : Nat → Nat → Nat) : ∀ e j used done nf, j + e = pe → e < nf → used < 64 → stD pa S.testBit wk (dg (pa + 1) pe code) j = some (used, done) → f_X8_worksBy_L4 m (nI code) o k nf (nI used) (nI j) = match stD pa S.testBit wk (dg (pa + 1) pe code) pe with | none => some (-1) | some _ => kv := by
  intro e
  induction e with
  | zero =>
    intro j used done nf h1 h2 hu h
    obtain ⟨nf, rfl⟩ : ∃ k, nf = k + 1 := ⟨nf - 1, by omega⟩
    have : j = pe := by omega
    subst this
    rw [f_X8_worksBy_L4_s, cl2, hm.2.2.1, if_pos (lle (Nat.le_refl _) (by omega)), hk, h]
  | succ e ih =>
    intro j used done nf h1 h2 hu h
    obtain ⟨nf, rfl⟩ : ∃ k, nf = k + 1 := ⟨nf - 1, by omega⟩
    have hdl := dg_le (pa := pa) (p := pe) (c := code) (j := j)
    have hs : stD pa S.testBit wk (dg (pa + 1) pe code) (j + 1) = if dg (pa + 1) pe code j = pa then some (used, done ||| (if S.testBit j = true then 0 else wk j pa)) else if (S.testBit j || used.testBit (dg (pa + 1) pe code j)) = true then none else some (used ||| 2 ^ dg (pa + 1) pe code j, done ||| wk j (dg (pa + 1) pe code j)) := by
      rw [stD, h]
    rw [f_X8_worksBy_L4_s, cl2, hm.2.2.1, if_neg (nle (by omega) (by omega)), dealt_eq hm.2.1 hm.2.2.1 hpa hpe (by omega) hcode, ob_some, cl1, hm.2.1, nI_n1, or0_nI]
    by_cases q : dg (pa + 1) pe code j = pa
    · rw [if_pos q] at hs
      rw [if_pos (by rw [q])]
      exact ih (j + 1) used _ nf (by omega) (by omega) hu hs
    · rw [if_neg q] at hs
      rw [if_neg (fun z => q ((eqN (by omega) (by omega)).mp z)), cl3, h3, has_eq (by omega) (by omega), ob_some]
      by_cases q1 : S.testBit j = true
      · have hn := stD_none (hs.trans (if_pos (by rw [q1]; rfl))) e
        rw [if_pos q1, if_neg not10]
        rw [show j + 1 + e = pe by omega] at hn
        rw [hn]
      · rw [if_neg q1, if_pos rfl, has_eq hu (by omega), ob_some]
        by_cases q2 : used.testBit (dg (pa + 1) pe code j) = true
        · have hn := stD_none (hs.trans (if_pos (by rw [q2, Bool.or_true]))) e
          rw [if_pos q2, if_neg not10]
          rw [show j + 1 + e = pe by omega] at hn
          rw [hn]
        · rw [if_neg (by simp at q1 q2; simp [q1, q2])] at hs
          rw [if_neg q2, if_pos rfl, shl_nI _ (by omega), or_nI]
          exact ih (j + 1) _ _ nf (by omega) (by omega) (or64 hu (Nat.pow_lt_pow_right (by omega) (show dg (pa + 1) pe code j < 6 by omega))) hs
theorem eT_iff {t h : Nat} (ht : t < 25) (hh : h < 24) : eT t = nI h ↔ t = h := by
  rw [eq_comm, eT_dec h hh t ht]; exact eq_comm
theorem code_L113 (hc : MM pa pe Ho Wo Sq Un o) (hv : VM sq pa pe Ho Wo Sq Un) (hm : MP sq pa pe wo K WS WH m) (h3 : o 3 = nI S) (hS : S < 32) {code w : Nat} (hcode : code < 2 ^ 30) (hw : w < wo) (k : Int32 → Int32 → Option Int32) : f_X8_worksBy_L113 m (nI code) o (nI w) k 20000 0 0 = k (if anyW Ho Wo Sq WS WH S pa w (dg (pa + 1) pe code) pe = true then 1 else 0) (nI pe) := by
  have hpa := hv.2.1
  have hpe := hv.2.2.1
  have hwo := hm.2.2.2.2.2.1
  obtain ⟨g1, g2⟩ := hm.2.2.2.2.2.2.1 w hw
  obtain ⟨g3, g4⟩ := hm.2.2.2.2.2.2.2 w hw
  have key := loopN (fun nf (s : Int32) v => f_X8_worksBy_L113 m (nI code) o (nI w) k nf s v) (fun s v => k s v) pe (fun i => if anyW Ho Wo Sq WS WH S pa w (dg (pa + 1) pe code) i = true then (1 : Int32) else 0) (fun nf => by
    show f_X8_worksBy_L113 _ _ _ _ _ (nf + 1) _ _ = _
    rw [f_X8_worksBy_L113_s, cl2, hm.2.2.1, if_pos (lle (Nat.le_refl _) (by omega))]) (fun nf j hj => by
    show f_X8_worksBy_L113 _ _ _ _ _ (nf + 1) _ _ = f_X8_worksBy_L113 _ _ _ _ _ nf _ _
    have hdl := dg_le (pa := pa) (p := pe) (c := code) (j := j)
    have h6 := hv.2.2.2.2.2.1 j hj
    have h9 := hv.1
    have ht := spT_lt (s := Sq j) hv (cod_in hdl)
    have hcl := clock_m hc hv (show Sq j < 9 by omega) (cod_in hdl)
    rw [f_X8_worksBy_L113_s, cl2, hm.2.2.1, if_neg (nle hj (by omega)), dealt_eq hm.2.1 hm.2.2.1 hpa hpe hj hcode, ob_some, cl3, h3, has_eq (by omega) (by omega), ob_some, anyW, nI_n1]
    by_cases q1 : S.testBit j = true
    · rw [if_pos q1, if_neg not10]
      simp only [q1, Bool.not_true, Bool.false_and, Bool.or_false]
      by_cases qa : anyW Ho Wo Sq WS WH S pa w (dg (pa + 1) pe code) j = true
      · rw [if_pos qa, if_neg not10]
      · rw [if_neg qa, if_pos rfl]
    rw [if_neg q1, if_pos rfl]
    have q1' : S.testBit j = false := by simpa using q1
    rw [a16, a10, if_pos (okb_nI (by omega) (by omega)), if_pos (okb_nI (by omega) (by omega)), clN (by omega), clN (by omega), hc.2.2.1 j hj, g1]
    by_cases q2 : Sq j = WS w
    rotate_left
    · rw [if_neg (fun z => q2 ((eqN (by omega) (by omega)).mp z))]
      have e2 : (Sq j == WS w) = false := by simp [q2]
      rw [e2]
      simp only [Bool.false_and, Bool.and_false, Bool.or_false]
      by_cases qa : anyW Ho Wo Sq WS WH S pa w (dg (pa + 1) pe code) j = true
      · rw [if_pos qa, if_neg not10]
      · rw [if_neg qa, if_pos rfl]
    rw [if_pos (by rw [q2]), q1']
    have e2 : (Sq j == WS w) = true := by simp [q2]
    rw [e2]
    simp only [Bool.true_and, Bool.not_false]
    by_cases qa : anyW Ho Wo Sq WS WH S pa w (dg (pa + 1) pe code) j = true
    · rw [if_pos qa, if_neg not10, qa]
      simp
    rw [if_neg qa, if_pos rfl]
    have qa' : anyW Ho Wo Sq WS WH S pa w (dg (pa + 1) pe code) j = false := by simpa using qa
    rw [qa', Bool.false_or, cl1, hm.2.1, a16]
    have hif : ∀ (r : Int32), r = eT (spT Ho Wo (Sq j) (cod pa (dg (pa + 1) pe code j))) → (if r = nI (WH w) then f_X8_worksBy_L113 m (nI code) o (nI w) k nf 1 (nI (j + 1)) else f_X8_worksBy_L113 m (nI code) o (nI w) k nf 0 (nI (j + 1))) = f_X8_worksBy_L113 m (nI code) o (nI w) k nf (if (spT Ho Wo (Sq j) (cod pa (dg (pa + 1) pe code j)) == WH w) = true then 1 else 0) (nI (j + 1)) := by
      intro r hr
      rw [hr]
      by_cases q3 : spT Ho Wo (Sq j) (cod pa (dg (pa + 1) pe code j)) = WH w
      · rw [if_pos ((eT_iff ht g4).mpr q3), if_pos (by simp [q3])]
      · rw [if_neg (fun z => q3 ((eT_iff ht g4).mp z)), if_neg (by simp [q3])]
    by_cases q : dg (pa + 1) pe code j = pa
    · have hcl' := hcl
      rw [q, cod_pa, show eU 6 = (-4 : Int32) from rfl] at hcl'
      rw [if_pos (by rw [q]), hcl', ob_some, if_pos (okb_nI (by omega) (by omega)), clN (by omega), g3]
      have := hif (eT (spT Ho Wo (Sq j) 6)) (by rw [q, cod_pa])
      exact this
    · have hcl' := hcl
      rw [cod_lt (show dg (pa + 1) pe code j < pa by omega), eU_lt (by omega)] at hcl'
      rw [if_neg (fun z => q ((eqN (by omega) (by omega)).mp z)), hcl', ob_some, if_pos (okb_nI (by omega) (by omega)), clN (by omega), g3]
      have := hif (eT (spT Ho Wo (Sq j) (dg (pa + 1) pe code j))) (by rw [cod_lt (show dg (pa + 1) pe code j < pa by omega)])
      exact this) 20000 (by omega)
  exact key
theorem worksBy_eq (hc : MM pa pe Ho Wo Sq Un o) (hv : VM sq pa pe Ho Wo Sq Un) (hm : MP sq pa pe wo K WS WH m) (h2 : o 2 = nI D) (hD : D < 64) (h3 : o 3 = nI S) (hS : S < 32) {code : Nat} (hcode : code < 2 ^ 30) : f_X8_worksBy m o (nI code) = match stD pa S.testBit (wkD Ho Wo Sq WS WH wo D pa pe) (dg (pa + 1) pe code) pe with | none => some (-1) | some x => some (nI (popc x.2)) := by
  have hpa := hv.2.1
  have hpe := hv.2.2.1
  have hwo := hm.2.2.2.2.2.1
  have key := loopN (fun nf (s : Int32) v => f_X8_worksBy_L96 m (nI code) o (fun v13 _ => some v13) nf s v) (fun s _ => some s) wo (fun i => nI (cntB (fun w => anyW Ho Wo Sq WS WH S pa w (dg (pa + 1) pe code) pe && !D.testBit w) i)) (fun nf => by
    show f_X8_worksBy_L96 _ _ _ _ (nf + 1) _ _ = _
    rw [f_X8_worksBy_L96_s, cl3, hm.2.2.2.1, if_pos (lle (Nat.le_refl _) (by omega))]) (fun nf w hw => by
    show f_X8_worksBy_L96 _ _ _ _ (nf + 1) _ _ = f_X8_worksBy_L96 _ _ _ _ nf _ _
    rw [f_X8_worksBy_L96_s, cl3, hm.2.2.2.1, if_neg (nle hw (by omega)), code_L113 hc hv hm h3 hS hcode hw, cntB, cl2, h2, has_eq hD (by omega), ob_some, nI_n1, nI_n1, Int32.add_zero]
    by_cases qa : anyW Ho Wo Sq WS WH S pa w (dg (pa + 1) pe code) pe = true
    · rw [if_pos qa, if_neg not10, qa, Bool.true_and]
      by_cases qd : D.testBit w = true
      · rw [if_pos qd, if_neg not10, if_neg (by rw [qd]; decide)]
        rfl
      · rw [if_neg qd, if_pos rfl, if_pos (by simp at qd; rw [qd]; rfl)]
    · have qa' : anyW Ho Wo Sq WS WH S pa w (dg (pa + 1) pe code) pe = false := by simpa using qa
      rw [if_neg qa, if_pos rfl, qa', Bool.false_and, if_neg (by decide)]
      rfl) 20000 (by omega)
  unfold f_X8_worksBy
  refine Eq.trans (code_L4 hm hpa hpe h3 hS hcode _ (some (nI (cntB (fun w => anyW Ho Wo Sq WS WH S pa w (dg (pa + 1) pe code) pe && !D.testBit w) wo))) (fun _ _ => key) (wkD Ho Wo Sq WS WH wo D pa pe) pe 0 0 0 20000 (by omega) (by omega) (by omega) rfl) ?_
  cases hs : stD pa S.testBit (wkD Ho Wo Sq WS WH wo D pa pe) (dg (pa + 1) pe code) pe with
  | none => rfl
  | some x =>
    obtain ⟨u, d⟩ := x
    show some _ = some (nI (popc d))
    rw [popc_done hwo (stD_lt hwo hs) hs]
end DEALF
