abbrev F3 : Type := Option (Int32 × (Nat → Int32) × (Nat → Int32))
section FLECKS
variable {B sq pa pe wo : Nat} {K WS WH : Nat → Nat} {psq ppa ppe pwo qg qm qst qd : Int32} {pk ws wh m qh qw qs qu o : Nat → Int32}
theorem fl54 {u h0 : Nat} (hu : u < 6) (hq : o (4 + u) = nI h0) (hh0 : h0 < 24) (k : Int32 → (Nat → Int32) → F3) (s0 : Nat → Int32) : ∃ s, f_X8_flecks_L54 (nI u) o k 20000 0 s0 = k (nI 24) s ∧ ∀ j, j < 24 → s j = nI (if h0 % 24 = j then 1 else 0) := by
  obtain ⟨s, e1, e2⟩ := loopI (fun nf (s : Nat → Int32) v => f_X8_flecks_L54 (nI u) o k nf v s) (fun s v => k v s) 24 (fun i s => ∀ j, j < i → s j = nI (if h0 % 24 = j then 1 else 0)) (fun nf s hs => by
      show f_X8_flecks_L54 _ _ _ (nf + 1) _ _ = _
      rw [f_X8_flecks_L54_s, if_pos (show (24 : Int32) ≤ nI 24 from lle (Nat.le_refl _) (by omega))]) (fun nf i s hi hs => by
      have hmod : h0 % 24 = h0 := Nat.mod_eq_of_lt hh0
      refine ⟨upd s i (nI (if h0 % 24 = i then 1 else 0)), fun j hj => ?_, ?_⟩
      · by_cases hji : j = i
        · subst hji; rw [pk_us]
        · rw [pk_un hji]; exact hs j (by omega)
      · show f_X8_flecks_L54 _ _ _ (nf + 1) _ _ = f_X8_flecks_L54 _ _ _ nf _ _
        rw [f_X8_flecks_L54_s, if_neg (show ¬ (24 : Int32) ≤ nI i from nle (b := 24) hi (by omega)), a4, if_pos (okb_nI (by omega) (by omega)), clN (by omega), hq, if_pos (okb_nI hi (by omega)), clN (by omega), nI_n1, hmod]
        by_cases q : i = h0
        · rw [if_pos (by rw [q]), if_pos q.symm]; rfl
        · rw [if_neg (fun z => q ((eqN (by omega) (by omega)).mp z)), if_pos (okb_nI hi (by omega)), if_neg (fun z : h0 = i => q z.symm)]; rfl) 24 0 20000 s0 (by omega) (by omega) (fun j hj => by omega)
  exact ⟨s, e2, e1⟩
theorem fl120 {x b : Nat} {P : Nat → Nat} {pt : Nat → Int32} (hx : x ≤ 10) (hb : b ≤ 24) (hp : ∀ j, j < 24 → pt j = nI (P j)) (k : Int32 → (Nat → Int32) → F3) (s0 : Nat → Int32) : ∃ s, f_X8_flecks_L120 (nI b) (nI x) pt k 20000 0 s0 = k (nI 24) s ∧ ∀ j, j < 24 → s j = nI (x * P ((j + 24 - b) % 24) + (10 - x) * P j) := by
  obtain ⟨s, e1, e2⟩ := loopI (fun nf (s : Nat → Int32) v => f_X8_flecks_L120 (nI b) (nI x) pt k nf v s) (fun s v => k v s) 24 (fun i s => ∀ j, j < i → s j = nI (x * P ((j + 24 - b) % 24) + (10 - x) * P j)) (fun nf s hs => by
      show f_X8_flecks_L120 _ _ _ _ (nf + 1) _ _ = _
      rw [f_X8_flecks_L120_s, if_pos (show (24 : Int32) ≤ nI 24 from lle (Nat.le_refl _) (by omega))]) (fun nf i s hi hs => by
      have hm := Nat.mod_lt (i + 24 - b) (show 0 < 24 by omega)
      refine ⟨upd s i (nI (x * P ((i + 24 - b) % 24) + (10 - x) * P i)), fun j hj => ?_, ?_⟩
      · by_cases hji : j = i
        · subst hji; rw [pk_us]
        · rw [pk_un hji]; exact hs j (by omega)
      · have ej : jrem ((nI i + (24 : Int32)) - nI b) (24 : Int32) = nI ((i + 24 - b) % 24) := by
          rw [show (24 : Int32) = nI 24 from rfl, nI_add, pk_sub (by omega), jrem_eq (by omega) (by omega) (by omega)]
        show f_X8_flecks_L120 _ _ _ _ (nf + 1) _ _ = f_X8_flecks_L120 _ _ _ _ nf _ _
        rw [f_X8_flecks_L120_s, if_neg (show ¬ (24 : Int32) ≤ nI i from nle (b := 24) hi (by omega)), ej, if_pos (okb_nI hm (by omega)), if_pos (okb_nI hi (by omega)), clN (by omega), clN (by omega), hp _ hm, hp i hi, show (10 : Int32) = nI 10 from rfl, pk_sub (by omega), pk_mul, pk_mul, nI_add, nI_n1]) 24 0 20000 s0 (by omega) (by omega) (fun j hj => by omega)
  exact ⟨s, e2, e1⟩
theorem fl176 (pt : Nat → Int32) (k : Int32 → (Nat → Int32) → F3) (s0 : Nat → Int32) : ∃ s, f_X8_flecks_L176 pt k 20000 0 s0 = k (nI 24) s ∧ ∀ j, j < 24 → s j = pt j := by
  obtain ⟨s, e1, e2⟩ := loopI (fun nf (s : Nat → Int32) v => f_X8_flecks_L176 pt k nf v s) (fun s v => k v s) 24 (fun i s => ∀ j, j < i → s j = pt j) (fun nf s hs => by
      show f_X8_flecks_L176 _ _ (nf + 1) _ _ = _
      rw [f_X8_flecks_L176_s, if_pos (show (24 : Int32) ≤ nI 24 from lle (Nat.le_refl _) (by omega))]) (fun nf i s hi hs => by
      refine ⟨upd s i (pt i), fun j hj => ?_, ?_⟩
      · by_cases hji : j = i
        · subst hji; rw [pk_us]
        · rw [pk_un hji]; exact hs j (by omega)
      · show f_X8_flecks_L176 _ _ (nf + 1) _ _ = f_X8_flecks_L176 _ _ nf _ _
        rw [f_X8_flecks_L176_s, if_neg (show ¬ (24 : Int32) ≤ nI i from nle (b := 24) hi (by omega)), if_pos (okb_nI hi (by omega)), clN (by omega), nI_n1]) 24 0 20000 s0 (by omega) (by omega) (fun j hj => by omega)
  exact ⟨s, e2, e1⟩
theorem fl95 {u n x g h0 : Nat} (hm : MP sq pa pe wo K WS WH m) (hpa : pa ≤ 6) (hu : u < pa) (h0' : o 0 = nI g) (hg : g < 90000) (hn : n ≤ 8) (hx : x ≤ 10) (k : Int32 → Int32 → (Nat → Int32) → (Nat → Int32) → F3) (s0 t0 : Nat → Int32) (hs0 : ∀ j, j < 24 → s0 j = nI (prt (K u) g x h0 0 j)) : ∃ s t, f_X8_flecks_L95 (nI n) m (nI u) o (nI x) k 20000 1 0 s0 t0 = k (nI (10 ^ n)) (nI n) s t ∧ ∀ j, j < 24 → s j = nI (prt (K u) g x h0 n j) := by
  obtain ⟨z, e1, e2⟩ := loopI (fun nf (z : Int32 × (Nat → Int32) × (Nat → Int32)) v => f_X8_flecks_L95 (nI n) m (nI u) o (nI x) k nf z.1 v z.2.1 z.2.2) (fun z v => k z.1 v z.2.1 z.2.2) n (fun i z => z.1 = nI (10 ^ i) ∧ ∀ j, j < 24 → z.2.1 j = nI (prt (K u) g x h0 i j)) (fun nf z hz => by
      show f_X8_flecks_L95 _ _ _ _ _ _ (nf + 1) _ _ _ _ = _
      rw [f_X8_flecks_L95_s, if_pos (lle (Nat.le_refl _) (by omega))]) (fun nf i z hi hz => by
      obtain ⟨z1, z2⟩ := hz
      have hby := tt_le (K := K u) (g := g + i) (n := 1)
      obtain ⟨t, f1, f2⟩ := fl120 hx (show turns (K u) (g + i) 1 * turn1 (K u) ≤ 24 by omega) z2 (fun v30 m_partsThen_31 => f_X8_flecks_L176 m_partsThen_31 (fun v35 m_parts_36 => f_X8_flecks_L95 (nI n) m (nI u) o (nI x) k nf (z.1 * (10 : Int32)) (nI i + (1 : Int32)) m_parts_36 m_partsThen_31) 20000 (0 : Int32) z.2.1) z.2.2
      obtain ⟨s, f3, f4⟩ := fl176 t (fun v35 m_parts_36 => f_X8_flecks_L95 (nI n) m (nI u) o (nI x) k nf (z.1 * (10 : Int32)) (nI i + (1 : Int32)) m_parts_36 t) z.2.1
      refine ⟨(nI (10 ^ (i + 1)), s, t), ⟨rfl, fun j hj => ?_⟩, ?_⟩
      · show s j = _
        rw [f4 j hj, f2 j hj, prt_s hx hj]
      · show f_X8_flecks_L95 _ _ _ _ _ _ (nf + 1) _ _ _ _ = f_X8_flecks_L95 _ _ _ _ _ _ nf _ _ _ _
        rw [f_X8_flecks_L95_s, if_neg (nle hi (by omega)), cl0, h0', nI_add, goesOn_eq hm hpa hu (by omega), ob_some]
        refine Eq.trans f1 (Eq.trans f3 ?_)
        rw [z1, show (10 : Int32) = nI 10 from rfl, pk_mul, nI_n1, Nat.pow_succ]) n 0 20000 (1, s0, t0) (by omega) (by omega) ⟨rfl, hs0⟩
  exact ⟨z.2.1, z.2.2, by rw [← e1.1]; exact e2, e1.2⟩
theorem s_flecks (hP : IP sq pa pe wo K WS WH psq ppa ppe pwo pk ws wh m) (hN : IM B sq pa pe wo (qg, qm, qst, qd, qh, qw, qs, qu) o) (hB : B < 50000) (mp mt : Nat → Int32) (u h n x i : Int32) :
    ∃ rr mp' mt', f_X7_flecks ppa pk qg qh u h n x i = some rr ∧ f_X8_flecks m o mp mt u h n x i = some (rr, mp', mt') := by
  obtain ⟨rfl, rfl, rfl, rfl, hk, hw, hm, a1, a2, a3, a4', a5⟩ := hP
  unfold f_X7_flecks f_X8_flecks
  rcases parasol_cases (show pa < 2 ^ 31 by omega) hm.2.1 u with ⟨u, hu, rfl, e1, e2⟩ | ⟨e1, e2⟩
  rotate_left
  · exact ⟨-1, mp, mt, by rw [e1, ob_some, if_pos rfl], by rw [e2, ob_some, if_pos rfl]⟩
  rcases hour_cases h with ⟨h, hh, rfl, e3, e4⟩ | ⟨e3, e4⟩
  rotate_left
  · exact ⟨-1, mp, mt, by rw [e1, ob_some, if_neg not10, e3, ob_some, if_pos rfl], by rw [e2, ob_some, if_neg not10, e4, ob_some, if_pos rfl]⟩
  rw [e1, ob_some, if_neg not10, e3, ob_some, if_neg not10, e2, ob_some, if_neg not10, e4, ob_some, if_neg not10]
  have hbad : ∀ (c k : Nat), k < 2 ^ 31 → c + 1 ≤ k → c < 2 ^ 31 → nI c < nI k := fun c k h1 h2 h3 => (nI_ltI h3 h1).mpr (by omega)
  rcases arg_cases 9 (by decide) n with ⟨n, hn, rfl⟩ | hn
  rotate_left
  · refine ⟨-1, mp, mt, ?_, ?_⟩
    · rcases hn with z | ⟨k, h1, h2, rfl⟩
      · rw [if_pos z]
      · rw [if_neg (nI_pos h1), if_pos (show (8 : Int32) < nI k from hbad 8 k h1 h2 (by decide))]
    · rw [show f_X8_in n 0 8 = some 0 from inN_out (n := 8) (by decide) hn, ob_some, if_pos rfl]
  rw [if_neg (nI_pos (by omega)), if_neg (show ¬ (8 : Int32) < nI n from fun q => by have := (nI_ltI (a := 8) (by decide) (by omega)).mp q; omega), show f_X8_in (nI n) 0 8 = some 1 from inN_in (n := 8) (by omega) (by decide), ob_some, if_neg not10]
  rcases arg_cases 11 (by decide) x with ⟨x, hx, rfl⟩ | hx
  rotate_left
  · refine ⟨-1, mp, mt, ?_, ?_⟩
    · rcases hx with z | ⟨k, h1, h2, rfl⟩
      · rw [if_pos z]
      · rw [if_neg (nI_pos h1), if_pos (show (10 : Int32) < nI k from hbad 10 k h1 h2 (by decide))]
    · rw [show f_X8_in x 0 10 = some 0 from inN_out (n := 10) (by decide) hx, ob_some, if_pos rfl]
  rw [if_neg (nI_pos (by omega)), if_neg (show ¬ (10 : Int32) < nI x from fun q => by have := (nI_ltI (a := 10) (by decide) (by omega)).mp q; omega), show f_X8_in (nI x) 0 10 = some 1 from inN_in (n := 10) (by omega) (by decide), ob_some, if_neg not10]
  rcases arg_cases 2 (by decide) i with ⟨i, hi, rfl⟩ | hi
  rotate_left
  · refine ⟨-1, mp, mt, ?_, ?_⟩
    · rcases hi with z | ⟨k, h1, h2, rfl⟩
      · rw [if_pos z]
      · rw [if_neg (nI_pos h1), if_neg (show ¬ nI k ≤ (1 : Int32) from nle (a := 1) (by omega) h1)]
    · rw [show f_X8_in i 0 1 = some 0 from inN_out (n := 1) (by decide) hi, ob_some, if_pos rfl]
  rw [if_neg (nI_pos (by omega)), if_pos (show nI i ≤ (1 : Int32) from lle (b := 1) (by omega) (by omega)), show f_X8_in (nI i) 0 1 = some 1 from inN_in (n := 1) (by omega) (by decide), ob_some, if_neg not10]
  obtain ⟨⟨a, Sq, Un⟩, hc, hmo, hv, hb⟩ := id hN
  have hb : a.1 ≤ B := hb
  have hv' : VA sq pa pe wo Sq Un a := hv
  obtain ⟨c1, c2, c3, c4, c5⟩ : CA pa pe Sq Un a qg qm qst qd qh qw qs qu := hc
  have hmo' : MA pa pe Sq Un a o := hmo
  have h4 := hv'.1.2.2.2.1 u hu
  have hp10 : 10 ^ n ≤ 10 ^ 8 := Nat.pow_le_pow_right (by omega) (by omega)
  have hp0 : 0 < 10 ^ n := Nat.pow_pos (by omega)
  have hpr := prt_le (K := K u) (g := a.1) (h := a.2.2.2.2.1 u) (t := n) (show x ≤ 10 by omega) hh
  have e10 : 10 ^ n = 2 ^ n * 5 ^ n := by rw [← Nat.mul_pow]
  obtain ⟨a', b', d, g1, g2, g3, g4⟩ := lowL (a := prt (K u) a.1 x (a.2.2.2.2.1 u) n h) (b := 10 ^ n) (by omega) (by omega) hp0 (by omega) e10 (fun v17 v18 _ => if nI i = 0 then some v17 else some v18)
  have hd : 0 < d := Nat.pos_of_ne_zero (fun z => by rw [z, Nat.zero_mul] at g2; omega)
  have hdle : d ≤ 10 ^ n := by rw [← g3]; exact Nat.gcd_le_right _ hp0
  obtain ⟨s1, k1, k2⟩ := fl54 (show u < 6 by omega) (hmo'.1.1 u hu) h4 (fun v16 m_parts_17 => f_X8_flecks_L95 (nI n) m (nI u) o (nI x) (fun v23 v24 m_parts_25 m_partsThen_26 => if okb (nI h) 24 = true then Option.bind (f_X8_common (m_parts_25 (nI h).toNatClampNeg) v23) fun r40 => if nI i = 0 then (if r40 = 0 then none else some (m_parts_25 (nI h).toNatClampNeg / r40, m_parts_25, m_partsThen_26)) else (if r40 = 0 then none else some (v23 / r40, m_parts_25, m_partsThen_26)) else none) 20000 (1 : Int32) (0 : Int32) m_parts_17 mt) mp
  obtain ⟨s2, t2, k3, k4⟩ := fl95 (n := n) (x := x) (h0 := a.2.2.2.2.1 u) hm a2 hu hmo'.2.1 (show a.1 < 90000 by omega) (by omega) (by omega) (fun v23 v24 m_parts_25 m_partsThen_26 => if okb (nI h) 24 = true then Option.bind (f_X8_common (m_parts_25 (nI h).toNatClampNeg) v23) fun r40 => if nI i = 0 then (if r40 = 0 then none else some (m_parts_25 (nI h).toNatClampNeg / r40, m_parts_25, m_partsThen_26)) else (if r40 = 0 then none else some (v23 / r40, m_parts_25, m_partsThen_26)) else none) s1 mt (fun j hj => by rw [k2 j hj, prt_0])
  refine ⟨if nI i = 0 then nI a' else nI b', s2, t2, ?_, ?_⟩
  · rw [c1, fleckedWays_eq (by omega) (by omega) (by omega) (hk u hu).1 (hk u hu).2 (c5.1 u hu) h4 hh (by omega), ob_some, show (10 : Int32) = nI 10 from rfl, power_eq (by omega), ob_some]
    refine Eq.trans g4 ?_
    split <;> rfl
  · refine Eq.trans k1 (Eq.trans k3 ?_)
    rw [if_pos (okb_nI hh (by omega)), clN (by omega), k4 h hh, common_eq (by omega) (by omega), ob_some, g3, if_neg (nI_ne0 hd (by omega)), if_neg (nI_ne0 hd (by omega)), pk_div (by omega) (by omega) (by omega), pk_div (by omega) (by omega) (by omega)]
    have q1 : prt (K u) a.1 x (a.2.2.2.2.1 u) n h / d = a' := by rw [g1]; exact Nat.mul_div_cancel_left a' hd
    have q2 : 10 ^ n / d = b' := by rw [g2]; exact Nat.mul_div_cancel_left b' hd
    rw [q1, q2]
    split <;> rfl
end FLECKS
