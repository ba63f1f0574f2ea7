/-- the reference's law row holds the plan's numbers -/
def MP (sq pa pe wo : Nat) (K WS WH : Nat → Nat) (m : Nat → Int32) : Prop := m 0 = nI sq ∧ m 1 = nI pa ∧ m 2 = nI pe ∧ m 3 = nI wo ∧ (∀ u, u < pa → m (4 + u) = nI (K u) ∧ K u < 4) ∧ wo ≤ 6 ∧ (∀ w, w < wo → m (10 + w) = nI (WS w) ∧ WS w < 9) ∧ (∀ w, w < wo → m (16 + w) = nI (WH w) ∧ WH w < 24)
theorem MM.lo {pa pe k : Nat} {Ho Wo Sq Un : Nat → Nat} {o : Nat → Int32} (h : MM pa pe Ho Wo Sq Un o) (hk : k < 4) (x : Int32) : MM pa pe Ho Wo Sq Un (upd o k x) := by
  refine ⟨fun u hu => ?_, fun u hu => ?_, fun u hu => ?_, fun u hu => ?_⟩
  · rw [pk_un (by omega)]; exact h.1 u hu
  · rw [pk_un (by omega)]; exact h.2.1 u hu
  · rw [pk_un (by omega)]; exact h.2.2.1 u hu
  · rw [pk_un (by omega)]; exact h.2.2.2 u hu
theorem isDone_m {sq pa pe w wo D S : Nat} {Ho Wo Sq Un K WS WH : Nat → Nat} {o m : Nat → Int32} (hc : MM pa pe Ho Wo Sq Un o) (hv : VM sq pa pe Ho Wo Sq Un) (hm : MP sq pa pe wo K WS WH m) (h2 : o 2 = nI D) (h3 : o 3 = nI S) (hD : D < 64) (hS : S < 64) (hw : w < wo) : f_X8_isDone m o (nI w) = some (if (D.testBit w || spAny Ho Wo Sq Un WS WH S w pe) = true then 1 else 0) := by
  have hpe := hv.2.2.1
  have hsq := hv.1
  obtain ⟨-, -, m2, -, -, m6, m7, m8⟩ := hm
  unfold f_X8_isDone
  rw [cl2, h2, has_eq hD (by omega), ob_some]
  have hz : ∀ b : Bool, okz (if b = true then (1 : Int32) else 0) = true := by decide
  have e0 : (if D.testBit w = true then (1 : Int32) else 0) = (fun i => if (D.testBit w || spAny Ho Wo Sq Un WS WH S w i) = true then (1 : Int32) else 0) 0 := by simp [spAny]
  rw [e0]
  refine (loopN (fun nf (s : Int32) v => f_X8_isDone_L11 m o (nI w) (fun v3 v4 => if okz v3 = true then some v3 else none) nf s v) (fun s _ => if okz s = true then some s else none) pe (fun i => if (D.testBit w || spAny Ho Wo Sq Un WS WH S w i) = true then (1 : Int32) else 0) ?_ ?_ 20000 (by omega)).trans ?_
  · intro nf
    show f_X8_isDone_L11 _ _ _ _ (nf + 1) _ _ = _
    rw [f_X8_isDone_L11_s, cl2, m2, if_pos (lle (Nat.le_refl _) (by omega))]
  · intro nf i hi
    show f_X8_isDone_L11 _ _ _ _ (nf + 1) _ _ = f_X8_isDone_L11 _ _ _ _ nf _ _
    have hs6 := hv.2.2.2.2.2.1 i hi
    obtain ⟨g1, g2⟩ := m7 w hw
    obtain ⟨g3, g4⟩ := m8 w hw
    rw [f_X8_isDone_L11_s, cl2, m2, if_neg (nle hi (by omega)), spAny, cl3, h3, has_eq hS (by omega), ob_some, nI_n1]
    by_cases q0 : (D.testBit w || spAny Ho Wo Sq Un WS WH S w i) = true
    · rw [if_pos q0, if_neg (by decide), if_pos (by rw [← Bool.or_assoc, q0]; rfl)]
    · rw [if_neg q0, if_pos (by decide)]
      have q0' : (D.testBit w || spAny Ho Wo Sq Un WS WH S w i) = false := by simpa using q0
      rw [← Bool.or_assoc, q0', Bool.false_or]
      by_cases q1 : S.testBit i = true
      · rw [if_pos q1, if_neg (by decide), if_neg (by simp [q1])]
      · rw [if_neg q1, if_pos (by decide), a16, if_pos (okb_nI (by omega) (by omega)), a10, if_pos (okb_nI (by omega) (by omega)), clN (by omega), clN (by omega), hc.2.2.1 i hi, g1]
        by_cases q2 : WS w = Sq i
        · rw [if_pos (by rw [q2]), time_m hc hv hi, ob_some, a16, if_pos (okb_nI (by omega) (by omega)), clN (by omega), g3]
          have ht := spT_lt (s := Sq i) hv (hv.2.2.2.2.2.2.1 i hi)
          by_cases q3 : WH w = spT Ho Wo (Sq i) (Un i)
          · rw [if_pos (((eT_dec _ g4 _ ht).mpr q3).symm), if_pos (by simp [q1, q2, q3])]
          · rw [if_neg (fun q => q3 ((eT_dec _ g4 _ ht).mp q.symm)), if_neg (by simp [q3])]
        · rw [if_neg (fun q => q2 ((eqN (by omega) (by omega)).mp q).symm), if_neg (by simp [q2])]
  · rw [if_pos (hz _)]
theorem upd_same {f : Nat → Int32} {k : Nat} {x : Int32} (h : f k = x) : upd f k x = f := by
  funext j
  unfold upd
  by_cases hj : j = k
  · rw [if_pos hj, hj, h]
  · rw [if_neg hj]
theorem upd_upd (f : Nat → Int32) (k : Nat) (x y : Int32) : upd (upd f k x) k y = upd f k y := by
  funext j
  unfold upd
  by_cases hj : j = k <;> simp [hj]
theorem or_mask_bit {Q : Nat → Bool} {D i : Nat} : (D ||| mask Q i).testBit i = D.testBit i := by
  rw [Nat.testBit_or, mask_bit]; simp
theorem mask64 {Q : Nat → Bool} {n : Nat} (h : n ≤ 6) : mask Q n < 64 := Nat.lt_of_lt_of_le (mask_lt _ n) (Nat.pow_le_pow_right (by omega) h)
theorem doWorks_m {sq pa pe wo D S : Nat} {Ho Wo Sq Un K WS WH : Nat → Nat} {o m : Nat → Int32} (hc : MM pa pe Ho Wo Sq Un o) (hv : VM sq pa pe Ho Wo Sq Un) (hm : MP sq pa pe wo K WS WH m) (h2 : o 2 = nI D) (h3 : o 3 = nI S) (hD : D < 64) (hS : S < 64) (k : Int32 → (Nat → Int32) → Option (Nat → Int32)) : f_X8_goes_L2 m k 20000 0 o = k (nI wo) (upd o 2 (nI (spDo Ho Wo Sq Un WS WH wo S D pe))) := by
  have m3 := hm.2.2.2.1
  have m6 := hm.2.2.2.2.2.1
  have e : spDo Ho Wo Sq Un WS WH wo S D pe = D ||| mask (fun w => D.testBit w || spAny Ho Wo Sq Un WS WH S w pe) wo := by
    apply Nat.eq_of_testBit_eq
    intro i
    rw [spDo_bit, Nat.testBit_or, mask_bit]
    cases D.testBit i <;> simp
  rw [e]
  have e0 : o = (fun i => upd o 2 (nI (D ||| mask (fun w => D.testBit w || spAny Ho Wo Sq Un WS WH S w pe) i))) 0 := by
    show o = upd o 2 (nI (D ||| 0))
    rw [Nat.or_zero, upd_same h2]
  conv => lhs; rw [e0]
  refine (loopN (fun nf (s : Nat → Int32) v => f_X8_goes_L2 m k nf v s) (fun s v => k v s) wo (fun i => upd o 2 (nI (D ||| mask (fun w => D.testBit w || spAny Ho Wo Sq Un WS WH S w pe) i))) ?_ ?_ 20000 (by omega))
  · intro nf
    show f_X8_goes_L2 _ _ (nf + 1) _ _ = _
    rw [f_X8_goes_L2_s, cl3, m3, if_pos (lle (Nat.le_refl _) (by omega))]
  · intro nf i hi
    show f_X8_goes_L2 _ _ (nf + 1) _ _ = f_X8_goes_L2 _ _ nf _ _
    rw [f_X8_goes_L2_s, cl3, m3, if_neg (nle hi (by omega)), isDone_m (hc.lo (by omega) _) hv hm pk_us (by rw [pk_un (by omega)]; exact h3) (or64 hD (mask64 (by omega))) hS hi, ob_some, or_mask_bit, nI_n1, cl2, pk_us, upd_upd, upd_upd, mask]
    by_cases q : (D.testBit i || spAny Ho Wo Sq Un WS WH S i pe) = true
    · rw [if_pos q, if_neg (by decide), if_pos q, shl_nI i (by omega), or_nI, Nat.or_assoc]
    · rw [if_neg q, if_pos (by decide), if_neg q, or0_nI, Nat.or_zero]
-- appointments
def spC (Ho Sq Un : Nat → Nat) (pe u v : Nat) : Bool := (!(spU Un pe u == 0) && !(spU Un pe v == 0)) && (spQ Un Sq u pe == spQ Un Sq v pe && Ho u == Ho v)
theorem spC_sym (Ho Sq Un : Nat → Nat) (pe u v : Nat) : spC Ho Sq Un pe u v = spC Ho Sq Un pe v u := by
  unfold spC
  rw [Bool.and_comm (!(spU Un pe u == 0)), Bool.beq_comm (a := spQ Un Sq u pe), Bool.beq_comm (a := Ho u)]
def rowC (c : Nat → Nat → Bool) (u : Nat) : Nat → Nat
  | 0 => 0
  | n + 1 => rowC c u n + (if u < n ∧ c u n = true then 1 else 0)
def rowM (c : Nat → Nat → Bool) (v : Nat) : Nat → Nat
  | 0 => 0
  | n + 1 => rowM c v n + (if c v n = true then 1 else 0)
def totC (c : Nat → Nat → Bool) (n : Nat) : Nat → Nat
  | 0 => 0
  | i + 1 => totC c n i + rowC c i n
def totM (c : Nat → Nat → Bool) : Nat → Nat
  | 0 => 0
  | i + 1 => totM c i + rowM c i i
theorem rowC_le (c : Nat → Nat → Bool) (u : Nat) : ∀ n, rowC c u n ≤ n
  | 0 => Nat.le_refl _
  | n + 1 => by have := rowC_le c u n; rw [rowC]; split <;> omega
theorem rowM_le (c : Nat → Nat → Bool) (u : Nat) : ∀ n, rowM c u n ≤ n
  | 0 => Nat.le_refl _
  | n + 1 => by have := rowM_le c u n; rw [rowM]; split <;> omega
theorem totC_le (c : Nat → Nat → Bool) (n : Nat) : ∀ i, totC c n i ≤ i * n
  | 0 => by rw [totC]; omega
  | i + 1 => by have := totC_le c n i; have := rowC_le c i n; rw [totC, Nat.succ_mul]; omega
theorem totM_le (c : Nat → Nat → Bool) : ∀ i, totM c i ≤ i * i
  | 0 => by rw [totM]; omega
  | i + 1 => by have := totM_le c i; have := rowM_le c i i; rw [totM, Nat.succ_mul, Nat.mul_succ]; omega
theorem rowC_0 (c : Nat → Nat → Bool) (u : Nat) : ∀ n, n ≤ u + 1 → rowC c u n = 0
  | 0, _ => rfl
  | n + 1, h => by rw [rowC, rowC_0 c u n (by omega), if_neg (by omega)]
theorem totC_step (c : Nat → Nat → Bool) (hs : ∀ u v, c u v = c v u) (n : Nat) : ∀ i, i ≤ n → totC c (n + 1) i = totC c n i + rowM c n i
  | 0, _ => rfl
  | i + 1, h => by
    rw [totC, totC, rowM, totC_step c hs n i (by omega), rowC, hs i n]
    by_cases q : c n i = true
    · rw [if_pos ⟨by omega, q⟩, if_pos q]; omega
    · rw [if_neg (fun z => q z.2), if_neg q]; omega
theorem tot_eq (c : Nat → Nat → Bool) (hs : ∀ u v, c u v = c v u) : ∀ n, totC c n n = totM c n
  | 0 => rfl
  | n + 1 => by
    rw [totC, totC_step c hs n n (Nat.le_refl _), tot_eq c hs n, totM, rowC_0 c n (n + 1) (Nat.le_refl _)]; rfl
theorem appointments_c {sq pa pe : Nat} {Ho Wo Sq Un : Nat → Nat} {qh qw qs qu : Nat → Int32} (hc : CM pa pe Ho Wo Sq Un qh qw qs qu) (hv : VM sq pa pe Ho Wo Sq Un) : f_X1_appointments qh qs qu (nI pa) (nI pe) = some (nI (totC (spC Ho Sq Un pe) pa pa)) := by
  obtain ⟨v1, v2, v3, v4, v5, v6, v7, v8⟩ := id hv
  have hU := hc.U hv
  have hS := hc.2.2.1
  unfold f_X1_appointments
  refine (loopN (fun nf (s : Int32) v => f_X1_appointments_L4 (nI pa) qh qs qu (nI pe) (fun v1 v2 => some v1) nf s v) (fun s _ => some s) pa (fun i => nI (totC (spC Ho Sq Un pe) pa i)) ?_ ?_ 20000 (by omega))
  · intro nf
    show f_X1_appointments_L4 _ _ _ _ _ _ (nf + 1) _ _ = _
    rw [f_X1_appointments_L4_s, if_pos (lle (Nat.le_refl _) (by omega))]
  · intro nf i hi
    show f_X1_appointments_L4 _ _ _ _ _ _ (nf + 1) _ _ = f_X1_appointments_L4 _ _ _ _ _ _ nf _ _
    rw [f_X1_appointments_L4_s, if_neg (nle hi (by omega)), nI_n1]
    obtain ⟨s', e1, e2⟩ := loopI (fun nf2 (s : Int32) v => f_X1_appointments_L19 (nI pa) qh (nI i) qs qu (nI pe) (fun v4 v5 => f_X1_appointments_L4 (nI pa) qh qs qu (nI pe) (fun v1 v2 => some v1) nf v4 (nI (i + 1))) nf2 s v) (fun s _ => f_X1_appointments_L4 (nI pa) qh qs qu (nI pe) (fun v1 v2 => some v1) nf s (nI (i + 1))) pa (fun j s => s = nI (totC (spC Ho Sq Un pe) pa i + rowC (spC Ho Sq Un pe) i j) ∧ i < j) (fun nf2 s hs => by
        show f_X1_appointments_L19 _ _ _ _ _ _ _ (nf2 + 1) _ _ = _
        rw [f_X1_appointments_L19_s, if_pos (lle (Nat.le_refl _) (by omega))]) (fun nf2 j s hj hs => by
        obtain ⟨hs, hij⟩ := hs
        refine ⟨nI (totC (spC Ho Sq Un pe) pa i + rowC (spC Ho Sq Un pe) i (j + 1)), ⟨rfl, by omega⟩, ?_⟩
        show f_X1_appointments_L19 _ _ _ _ _ _ _ (nf2 + 1) _ _ = f_X1_appointments_L19 _ _ _ _ _ _ _ nf2 _ _
        have hi4 := v4 i hi
        have hj4 := v4 j hj
        have hb : ∀ u, spQ Un Sq u pe < 2 ^ 31 := fun u => by
          have : ∀ n, n ≤ pe → spQ Un Sq u n < 10 := by
            intro n
            induction n with
            | zero => intro _; rw [spQ]; omega
            | succ n ih => intro h; rw [spQ]; split; have := v6 n (by omega); omega; exact ih (by omega)
          have := this pe (Nat.le_refl _); omega
        rw [f_X1_appointments_L19_s, if_neg (nle hj (by omega)), hourOf_eq qh (by omega), ob_some, hourOf_eq qh (by omega), ob_some, hc.1 i hi, hc.1 j hj, nI_n1, rowC, hs]
        by_cases q1 : Ho i = Ho j
        · rw [if_pos (by rw [q1]), squareOfParasol_eq v3 (by omega) hU hS v8, ob_some, squareOfParasol_eq v3 (by omega) hU hS v8, ob_some]
          by_cases q2 : spQ Un Sq i pe = spQ Un Sq j pe
          · rw [if_pos (by rw [q2]), isInStand_eq v3 (by omega) hU, ob_some]
            by_cases q3 : spU Un pe i = 0
            · rw [if_pos q3, if_neg (by decide), if_neg (fun z => by have := z.2; unfold spC at this; simp [q3] at this)]
              rfl
            · rw [if_neg q3, if_pos (by decide), isInStand_eq v3 (by omega) hU, ob_some]
              by_cases q4 : spU Un pe j = 0
              · rw [if_pos q4, if_neg (by decide), if_neg (fun z => by have := z.2; unfold spC at this; simp [q4] at this)]
                rfl
              · rw [if_neg q4, if_pos (by decide), if_pos ⟨hij, by unfold spC; simp [q1, q2, q3, q4]⟩, nI_n1]
                rfl
          · rw [if_neg (fun q => q2 ((eqN (hb i) (hb j)).mp q)), if_neg (fun z => by have := z.2; unfold spC at this; simp [q2] at this)]
            rfl
        · rw [if_neg (fun q => q1 ((eqN (by omega) (by omega)).mp q)), if_neg (fun z => by have := z.2; unfold spC at this; simp [q1] at this)]
          rfl) (pa - (i + 1)) (i + 1) 20000 (nI (totC (spC Ho Sq Un pe) pa i)) (by omega) (by omega) ⟨by rw [rowC_0 _ i (i + 1) (Nat.le_refl _), Nat.add_zero], by omega⟩
    rw [e1.1] at e2
    exact e2
