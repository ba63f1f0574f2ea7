-- two loops side by side
theorem loop2 {σ α β : Type} (L1 : Nat → σ → Int32 → Option α) (L2 : Nat → σ → Int32 → Option β) (k1 : σ → Int32 → Option α) (k2 : σ → Int32 → Option β) (n : Nat) (I : Nat → σ → Prop)
    (hexit : ∀ nf s, I n s → L1 (nf + 1) s (nI n) = k1 s (nI n) ∧ L2 (nf + 1) s (nI n) = k2 s (nI n))
    (hstep : ∀ i s, i < n → I i s → ∃ s', I (i + 1) s' ∧ ∀ nf, L1 (nf + 1) s (nI i) = L1 nf s' (nI (i + 1)) ∧ L2 (nf + 1) s (nI i) = L2 nf s' (nI (i + 1))) :
    ∀ d i fuel s, i + d = n → d < fuel → I i s → ∃ s', I n s' ∧ L1 fuel s (nI i) = k1 s' (nI n) ∧ L2 fuel s (nI i) = k2 s' (nI n) := by
  intro d
  induction d with
  | zero =>
    intro i fuel s h1 h2 h3
    obtain ⟨m, rfl⟩ : ∃ m, fuel = m + 1 := ⟨fuel - 1, by omega⟩
    have : i = n := by omega
    subst this
    exact ⟨s, h3, hexit m s h3⟩
  | succ d ih =>
    intro i fuel s h1 h2 h3
    obtain ⟨m, rfl⟩ : ∃ m, fuel = m + 1 := ⟨fuel - 1, by omega⟩
    obtain ⟨s1, g1, g2⟩ := hstep i s (by omega) h3
    obtain ⟨s2, g3, g4, g5⟩ := ih (i + 1) m s1 (by omega) (by omega) g1
    exact ⟨s2, g3, (g2 m).1.trans g4, (g2 m).2.trans g5⟩
-- the first of the numbers from 0 to 48 that will do
def srch (P : Nat → Bool) : Nat → Nat → Option Nat
  | 0, _ => none
  | d + 1, i => if P i = true then some i else srch P d (i + 1)
def eS : Option Nat → Int32
  | none => -4
  | some n => nI n
theorem srch_lt {P : Nat → Bool} : ∀ {d i r : Nat}, srch P d i = some r → r < i + d ∧ P r = true
  | 0, _, _, h => by cases h
  | d + 1, i, r, h => by
    rw [srch] at h
    by_cases q : P i = true
    · rw [if_pos q] at h; cases h; exact ⟨by omega, q⟩
    · rw [if_neg q] at h; have := srch_lt h; exact ⟨by omega, this.2⟩
theorem loopS {α : Type} (L : Nat → Int32 → Option α) (P : Nat → Bool) (f : Nat → α) (z : α) (n : Nat) (hexit : ∀ nf, L (nf + 1) (nI n) = some z) (hstep : ∀ nf i, i < n → L (nf + 1) (nI i) = if P i = true then some (f i) else L nf (nI (i + 1))) :
    ∀ d i fuel, i + d = n → d < fuel → L fuel (nI i) = some (match srch P d i with | none => z | some r => f r) := by
  intro d
  induction d with
  | zero =>
    intro i fuel h1 h2
    obtain ⟨m, rfl⟩ : ∃ m, fuel = m + 1 := ⟨fuel - 1, by omega⟩
    have : i = n := by omega
    subst this
    exact hexit m
  | succ d ih =>
    intro i fuel h1 h2
    obtain ⟨m, rfl⟩ : ∃ m, fuel = m + 1 := ⟨fuel - 1, by omega⟩
    rw [hstep m i (by omega), srch]
    by_cases q : P i = true
    · rw [if_pos q, if_pos q]
    · rw [if_neg q, if_neg q]
      exact ih (i + 1) m (by omega) (by omega)
theorem eS_match (x : Option Nat) : (match x with | none => (-4 : Int32) | some r => nI r) = eS x := by cases x <;> rfl
theorem loopE (L : Nat → Int32 → Option Int32) (P : Nat → Bool) (n : Nat) (hexit : ∀ nf, L (nf + 1) (nI n) = some (-4)) (hstep : ∀ nf i, i < n → L (nf + 1) (nI i) = if P i = true then some (nI i) else L nf (nI (i + 1))) (fuel : Nat) (h : n < fuel) : L fuel (nI 0) = some (eS (srch P n 0)) := by
  rw [loopS L P nI (-4) n hexit hstep n 0 fuel (by omega) h, eS_match]
-- onward
theorem turns_0 {K g : Nat} : turns K g 0 = 0 := by unfold turns; split <;> omega
theorem turns_s {K g n : Nat} : turns K g (n + 1) = turns K g n + turns K (g + n) 1 := by
  unfold turns
  split <;> omega
theorem wears_0 {K g : Nat} : wears K g 0 = 0 := by unfold wears; split <;> omega
theorem wears_s {K g n : Nat} : wears K g (n + 1) = wears K g n + wears K (g + n) 1 := by
  unfold wears
  split <;> omega
theorem lt48 {a : Nat} (h : a < 2 ^ 31) : (48 : Int32) < nI a ↔ 48 < a := nI_ltI (a := 48) (by decide) h
section HOURS
variable {sq pa pe wo g : Nat} {K WS WH : Nat → Nat} {m o : Nat → Int32}
theorem onward_eq {u h n : Nat} (hm : MP sq pa pe wo K WS WH m) (hpa : pa ≤ 6) (hu : u < pa) (h0 : o 0 = nI g) (hg : g < 90000) (hh : h < 24) (hn : n < 1000) : f_X8_onward m o (nI u) (nI h) (nI n) = some (nI (hourAt (K u) g h n)) := by
  unfold f_X8_onward hourAt
  have key := loopN (fun nf (s : Int32) v => f_X8_onward_L6 (nI n) m (nI u) o (fun v1 _ => some (jrem v1 (24 : Int32))) nf s v) (fun s _ => some (jrem s (24 : Int32))) n (fun i => nI (h + turns (K u) g i * turn1 (K u))) (fun nf => by
    show f_X8_onward_L6 _ _ _ _ _ (nf + 1) _ _ = _
    rw [f_X8_onward_L6_s, if_pos (lle (Nat.le_refl _) (by omega))]) (fun nf i hi => by
    show f_X8_onward_L6 _ _ _ _ _ (nf + 1) _ _ = f_X8_onward_L6 _ _ _ _ _ nf _ _
    rw [f_X8_onward_L6_s, if_neg (nle hi (by omega)), cl0, h0, nI_add, goesOn_eq hm hpa hu (by omega), ob_some, nI_add, nI_n1, turns_s (n := i), Nat.add_mul, Nat.add_assoc]) 20000 (by omega)
  have ht := tt_le (K := K u) (g := g) (n := n)
  have e0 : nI h = nI (h + turns (K u) g 0 * turn1 (K u)) := by rw [turns_0, Nat.zero_mul]; rfl
  rw [e0]
  refine Eq.trans key ?_
  rw [jrem24 (by omega)]
theorem wornBy_eq {u w n : Nat} (hm : MP sq pa pe wo K WS WH m) (hpa : pa ≤ 6) (hu : u < pa) (h0 : o 0 = nI g) (hg : g < 90000) (hw : o (10 + u) = nI w) (hn : n < 1000) : f_X8_wornBy m o (nI u) (nI n) = some (nI (w + wears (K u) g n)) := by
  unfold f_X8_wornBy
  rw [a10, if_pos (okb_nI (by omega) (by omega)), clN (by omega), hw]
  have key := loopN (fun nf (s : Int32) v => f_X8_wornBy_L13 (nI n) m (nI u) o (fun v2 _ => some v2) nf s v) (fun s _ => some s) n (fun i => nI (w + wears (K u) g i)) (fun nf => by
    show f_X8_wornBy_L13 _ _ _ _ _ (nf + 1) _ _ = _
    rw [f_X8_wornBy_L13_s, if_pos (lle (Nat.le_refl _) (by omega))]) (fun nf i hi => by
    show f_X8_wornBy_L13 _ _ _ _ _ (nf + 1) _ _ = f_X8_wornBy_L13 _ _ _ _ _ nf _ _
    rw [f_X8_wornBy_L13_s, if_neg (nle hi (by omega)), cl0, h0, nI_add, wears_eq hm hpa hu (by omega), ob_some, nI_add, nI_n1, wears_s (n := i), Nat.add_assoc]) 20000 (by omega)
  have e0 : nI w = nI (w + wears (K u) g 0) := by rw [wears_0]; rfl
  rw [e0]
  exact key
def PU (K g hu h : Nat) : Nat → Bool := fun n => hourAt K g hu n == h
theorem hoursUntil_eq {u hu h : Nat} {pk qh : Nat → Int32} (hu6 : u < 6) (hk : pk u = nI (K u)) (hK : K u < 4) (hg : g < 90000) (hq : qh u = nI hu) (hh : hu < 24) (hh' : h < 24) : f_X1_hoursUntil (nI g) qh pk (nI u) (nI h) = some (eS (srch (PU (K u) g hu h) 49 0)) := by
  unfold f_X1_hoursUntil
  refine loopE (fun nf v => f_X1_hoursUntil_L2 (nI g) qh pk (nI u) (nI h) (fun _ => some (-4)) nf v) _ 49 (fun nf => ?_) (fun nf i hi => ?_) 20000 (by omega)
  · show f_X1_hoursUntil_L2 _ _ _ _ _ _ (nf + 1) _ = _
    rw [f_X1_hoursUntil_L2_s, if_pos ((lt48 (by omega)).mpr (by omega))]
  · show f_X1_hoursUntil_L2 _ _ _ _ _ _ (nf + 1) _ = if _ then _ else f_X1_hoursUntil_L2 _ _ _ _ _ _ nf _
    have := hourAt_lt (K := K u) (g := g) (h := hu) (n := i)
    rw [f_X1_hoursUntil_L2_s, if_neg (fun q => by have := (lt48 (by omega)).mp q; omega), hourBehind_eq hu6 hk hK (by omega) hq hh (by omega), ob_some, nI_n1]
    by_cases q : hourAt (K u) g hu i = h
    · rw [if_pos (by rw [q]), if_pos (by unfold PU; rw [q]; exact beq_self_eq_true h)]
    · rw [if_neg (fun z => q ((eqN (by omega) (by omega)).mp z)), if_neg (by unfold PU; simp [q])]
theorem untilHour_eq {u hu h : Nat} (hm : MP sq pa pe wo K WS WH m) (hpa : pa ≤ 6) (hu6 : u < pa) (h0 : o 0 = nI g) (hg : g < 90000) (hq : o (4 + u) = nI hu) (hh : hu < 24) (hh' : h < 24) : f_X8_untilHour m o (nI u) (nI h) = some (eS (srch (PU (K u) g hu h) 49 0)) := by
  unfold f_X8_untilHour
  refine loopE (fun nf v => f_X8_untilHour_L2 (nI u) m o (nI h) (fun _ => some (-4)) nf v) _ 49 (fun nf => ?_) (fun nf i hi => ?_) 20000 (by omega)
  · show f_X8_untilHour_L2 _ _ _ _ _ (nf + 1) _ = _
    rw [f_X8_untilHour_L2_s, if_pos ((lt48 (by omega)).mpr (by omega))]
  · show f_X8_untilHour_L2 _ _ _ _ _ (nf + 1) _ = if _ then _ else f_X8_untilHour_L2 _ _ _ _ _ nf _
    have := hourAt_lt (K := K u) (g := g) (h := hu) (n := i)
    rw [f_X8_untilHour_L2_s, if_neg (fun q => by have := (lt48 (by omega)).mp q; omega), a4, if_pos (okb_nI (by omega) (by omega)), clN (by omega), hq, onward_eq hm hpa hu6 h0 hg hh (by omega), ob_some, nI_n1]
    by_cases q : hourAt (K u) g hu i = h
    · rw [if_pos (by rw [q]), if_pos (by unfold PU; rw [q]; exact beq_self_eq_true h)]
    · rw [if_neg (fun z => q ((eqN (by omega) (by omega)).mp z)), if_neg (by unfold PU; simp [q])]
end HOURS
section UNTIL
variable {B sq pa pe wo zk kk : Nat} {K WS WH : Nat → Nat} {psq ppa ppe pwo qg qm qst qd um ua km : Int32} {pk ws wh m qh qw qs qu o us ks : Nat → Int32}
theorem s_until (hP : IP sq pa pe wo K WS WH psq ppa ppe pwo pk ws wh m) (hN : IM B sq pa pe wo (qg, qm, qst, qd, qh, qw, qs, qu) o) (hB : B < 50000) (u h : Int32) : ∃ rr, f_X7_until ppa pk qg qh u h = some rr ∧ f_X8_until m o u h = some rr := by
  obtain ⟨rfl, rfl, rfl, rfl, hk, hw, hm, a1, a2, a3, a4', a5⟩ := hP
  unfold f_X7_until f_X8_until
  rcases parasol_cases (show pa < 2 ^ 31 by omega) hm.2.1 u with ⟨u, hu, rfl, e1, e2⟩ | ⟨e1, e2⟩
  · rcases hour_cases h with ⟨h, hh, rfl, e3, e4⟩ | ⟨e3, e4⟩
    · obtain ⟨⟨a, Sq, Un⟩, hc, hmo, hv, hb⟩ := id hN
      have hb : a.1 ≤ B := hb
      have hv' : VA sq pa pe wo Sq Un a := hv
      obtain ⟨c1, c2, c3, c4, c5⟩ : CA pa pe Sq Un a qg qm qst qd qh qw qs qu := hc
      have hmo' : MA pa pe Sq Un a o := hmo
      have h4 := hv'.1.2.2.2.1 u hu
      refine ⟨eS (srch (PU (K u) a.1 (a.2.2.2.2.1 u) h) 49 0), ?_, ?_⟩
      · rw [e1, ob_some, if_neg not10, e3, ob_some, if_neg not10, c1, hoursUntil_eq (by omega) (hk u hu).1 (hk u hu).2 (by omega) (c5.1 u hu) h4 hh, ob_some]
      · rw [e2, ob_some, if_neg not10, e4, ob_some, if_neg not10, untilHour_eq hm a2 hu hmo'.2.1 (by omega) (hmo'.1.1 u hu) h4 hh, ob_some]
    · exact ⟨-1, by rw [e1, ob_some, if_neg not10, e3, ob_some, if_pos rfl], by rw [e2, ob_some, if_neg not10, e4, ob_some, if_pos rfl]⟩
  · exact ⟨-1, by rw [e1, ob_some, if_pos rfl], by rw [e2, ob_some, if_pos rfl]⟩
theorem s_agree (hP : IP sq pa pe wo K WS WH psq ppa ppe pwo pk ws wh m) (hN : IM B sq pa pe wo (qg, qm, qst, qd, qh, qw, qs, qu) o) (hB : B < 50000) (u v : Int32) : ∃ rr, f_X7_agree ppa pk qg qh u v = some rr ∧ f_X8_agree m o u v = some rr := by
  obtain ⟨rfl, rfl, rfl, rfl, hk, hw, hm, a1, a2, a3, a4', a5⟩ := hP
  unfold f_X7_agree f_X8_agree
  rcases parasol_cases (show pa < 2 ^ 31 by omega) hm.2.1 u with ⟨u, hu, rfl, e1, e2⟩ | ⟨e1, e2⟩
  · rcases parasol_cases (show pa < 2 ^ 31 by omega) hm.2.1 v with ⟨v, hv2, rfl, e3, e4⟩ | ⟨e3, e4⟩
    · by_cases huv : nI u = nI v
      · exact ⟨-1, by rw [e1, ob_some, if_neg not10, e3, ob_some, if_neg not10, if_pos huv], by rw [e2, ob_some, if_neg not10, e4, ob_some, if_neg not10, if_pos huv]⟩
      obtain ⟨⟨a, Sq, Un⟩, hc, hmo, hv, hb⟩ := id hN
      have hb : a.1 ≤ B := hb
      have hv' : VA sq pa pe wo Sq Un a := hv
      obtain ⟨c1, c2, c3, c4, c5⟩ : CA pa pe Sq Un a qg qm qst qd qh qw qs qu := hc
      have hmo' : MA pa pe Sq Un a o := hmo
      have h4 := hv'.1.2.2.2.1
      refine ⟨eS (srch (fun n => hourAt (K u) a.1 (a.2.2.2.2.1 u) n == hourAt (K v) a.1 (a.2.2.2.2.1 v) n) 49 0), ?_, ?_⟩
      · rw [e1, ob_some, if_neg not10, e3, ob_some, if_neg not10, if_neg huv, c1]
        refine loopE (fun nf x => f_X7_agree_L31 (nI a.1) qh pk (nI u) (nI v) (fun _ => some (-4)) nf x) _ 49 (fun nf => ?_) (fun nf i hi => ?_) 20000 (by omega)
        · show f_X7_agree_L31 _ _ _ _ _ _ (nf + 1) _ = _
          rw [f_X7_agree_L31_s, if_pos ((lt48 (by omega)).mpr (by omega))]
        · show f_X7_agree_L31 _ _ _ _ _ _ (nf + 1) _ = if _ then _ else f_X7_agree_L31 _ _ _ _ _ _ nf _
          have b1 := hourAt_lt (K := K u) (g := a.1) (h := a.2.2.2.2.1 u) (n := i)
          have b2 := hourAt_lt (K := K v) (g := a.1) (h := a.2.2.2.2.1 v) (n := i)
          rw [f_X7_agree_L31_s, if_neg (fun q => by have := (lt48 (by omega)).mp q; omega), hourBehind_eq (by omega) (hk u hu).1 (hk u hu).2 (by omega) (c5.1 u hu) (h4 u hu) (by omega), ob_some, hourBehind_eq (by omega) (hk v hv2).1 (hk v hv2).2 (by omega) (c5.1 v hv2) (h4 v hv2) (by omega), ob_some, nI_n1]
          by_cases q : hourAt (K u) a.1 (a.2.2.2.2.1 u) i = hourAt (K v) a.1 (a.2.2.2.2.1 v) i
          · rw [if_pos (by rw [q]), if_pos (by simp [q])]
          · rw [if_neg (fun z => q ((eqN (by omega) (by omega)).mp z)), if_neg (by simp [q])]
      · rw [e2, ob_some, if_neg not10, e4, ob_some, if_neg not10, if_neg huv]
        refine loopE (fun nf x => f_X8_agree_L25 (nI u) m o (nI v) (fun _ => some (-4)) nf x) _ 49 (fun nf => ?_) (fun nf i hi => ?_) 20000 (by omega)
        · show f_X8_agree_L25 _ _ _ _ _ (nf + 1) _ = _
          rw [f_X8_agree_L25_s, if_pos ((lt48 (by omega)).mpr (by omega))]
        · show f_X8_agree_L25 _ _ _ _ _ (nf + 1) _ = if _ then _ else f_X8_agree_L25 _ _ _ _ _ nf _
          have b1 := hourAt_lt (K := K u) (g := a.1) (h := a.2.2.2.2.1 u) (n := i)
          have b2 := hourAt_lt (K := K v) (g := a.1) (h := a.2.2.2.2.1 v) (n := i)
          rw [f_X8_agree_L25_s, if_neg (fun q => by have := (lt48 (by omega)).mp q; omega), a4, if_pos (okb_nI (by omega) (by omega)), clN (by omega), hmo'.1.1 u hu, onward_eq hm a2 hu hmo'.2.1 (by omega) (h4 u hu) (by omega), ob_some, a4, if_pos (okb_nI (by omega) (by omega)), clN (by omega), hmo'.1.1 v hv2, onward_eq hm a2 hv2 hmo'.2.1 (by omega) (h4 v hv2) (by omega), ob_some, nI_n1]
          by_cases q : hourAt (K u) a.1 (a.2.2.2.2.1 u) i = hourAt (K v) a.1 (a.2.2.2.2.1 v) i
          · rw [if_pos (by rw [q]), if_pos (by simp [q])]
          · rw [if_neg (fun z => q ((eqN (by omega) (by omega)).mp z)), if_neg (by simp [q])]
    · exact ⟨-1, by rw [e1, ob_some, if_neg not10, e3, ob_some, if_pos rfl], by rw [e2, ob_some, if_neg not10, e4, ob_some, if_pos rfl]⟩
  · exact ⟨-1, by rw [e1, ob_some, if_pos rfl], by rw [e2, ob_some, if_pos rfl]⟩
theorem eS_no {P : Nat → Bool} {d : Nat} (hd : d < 2 ^ 20) : eS (srch P d 0) = -4 ∨ ∃ r, r < d ∧ eS (srch P d 0) = nI r ∧ ¬ nI r = (-4 : Int32) := by
  cases h : srch P d 0 with
  | none => exact Or.inl rfl
  | some r =>
    have := (srch_lt h).1
    refine Or.inr ⟨r, by omega, rfl, fun q => ?_⟩
    have h1 := congrArg Int32.toInt q
    rw [nI_toInt (by omega)] at h1
    have h2 : (-4 : Int32).toInt = -4 := by decide
    omega
theorem s_soonest (hP : IP sq pa pe wo K WS WH psq ppa ppe pwo pk ws wh m) (hN : IM B sq pa pe wo (qg, qm, qst, qd, qh, qw, qs, qu) o) (hB : B < 50000) (w i : Int32) : ∃ rr, f_X7_soonest ppe pwo pk wh qg qst qd qh qw qu w i = some rr ∧ f_X8_soonest m o w i = some rr := by
  obtain ⟨rfl, rfl, rfl, rfl, hk, hw, hm, a1, a2, a3, a4', a5⟩ := hP
  unfold f_X7_soonest f_X8_soonest
  have hwo := hw.1
  rcases work_cases (show wo < 2 ^ 31 by omega) hm.2.2.2.1 w with ⟨w, hw2, rfl, e1, e2⟩ | ⟨e1, e2⟩
  · rcases arg_cases 2 (by decide) i with ⟨i, hi2, rfl⟩ | hi2
    · have w1 : ¬ nI i < 0 := nI_pos (by omega)
      have w2 : nI i ≤ (1 : Int32) := lle (b := 1) (by omega) (by omega)
      have w3 : f_X8_in (nI i) 0 1 = some 1 := inN_in (n := 1) (by omega) (by decide)
      obtain ⟨⟨a, Sq, Un⟩, hc, hmo, hv, hb⟩ := id hN
      have hb : a.1 ≤ B := hb
      have hv' : VA sq pa pe wo Sq Un a := hv
      obtain ⟨c1, c2, c3, c4, c5⟩ : CA pa pe Sq Un a qg qm qst qd qh qw qs qu := hc
      have hmo' : MA pa pe Sq Un a o := hmo
      have hD := hv'.D hwo
      have hS := hv'.S
      have h4 := hv'.1.2.2.2.1
      have h5 := hv'.1.2.2.2.2.1
      have h7 := hv'.1.2.2.2.2.2.2.1
      have e5 := isDone_eq hD (show w < 6 by omega)
      have e6 := has_eq hD (show w < 6 by omega)
      obtain ⟨g1, g2⟩ := hm.2.2.2.2.2.2.2 w hw2
      obtain ⟨g3, g4⟩ := hw.2.2 w hw2
      rw [e1, ob_some, if_neg not10, if_neg w1, if_pos w2, c4, e5, ob_some, e2, ob_some, if_neg not10, w3, ob_some, if_neg not10, cl2, hmo'.2.2.2.1, e6, ob_some]
      by_cases hd : a.2.2.2.1.testBit w = true
      · exact ⟨-2, by rw [if_pos hd, if_neg not10], by rw [if_pos hd, if_neg not10]⟩
      rw [if_neg hd, if_pos rfl, if_pos rfl]
      obtain ⟨s', -, l1, l2⟩ := loop2 (fun nf (s : Int32 × Int32) v => f_X7_soonest_L46 (nI pe) wh (nI w) qg qst qh qw qu pk (fun v9 v10 _ => if nI i = 0 then some v9 else some v10) nf s.1 s.2 v) (fun nf (s : Int32 × Int32) v => f_X8_soonest_L45 m o (nI w) (fun v9 v10 _ => if nI i = 0 then some v9 else some v10) nf s.1 s.2 v) (fun s _ => if nI i = 0 then some s.1 else some s.2) (fun s _ => if nI i = 0 then some s.1 else some s.2) pe (fun _ _ => True) (fun nf s _ => by
          constructor
          · show f_X7_soonest_L46 _ _ _ _ _ _ _ _ _ _ (nf + 1) _ _ _ = _
            rw [f_X7_soonest_L46_s, if_pos (lle (Nat.le_refl _) (by omega))]
          · show f_X8_soonest_L45 _ _ _ _ (nf + 1) _ _ _ = _
            rw [f_X8_soonest_L45_s, cl2, hm.2.2.1, if_pos (lle (Nat.le_refl _) (by omega))]) (fun p s hp _ => by
          have r1 : ∀ nf, f_X7_soonest_L46 (nI pe) wh (nI w) qg qst qh qw qu pk (fun v9 v10 _ => if nI i = 0 then some v9 else some v10) (nf + 1) s.1 s.2 (nI p) = _ := fun nf => by rw [f_X7_soonest_L46_s, if_neg (nle hp (by omega)), workHourOf_eq wh (by omega), ob_some, g3]
          have r2 : ∀ nf, f_X8_soonest_L45 m o (nI w) (fun v9 v10 _ => if nI i = 0 then some v9 else some v10) (nf + 1) s.1 s.2 (nI p) = _ := fun nf => by rw [f_X8_soonest_L45_s, cl2, hm.2.2.1, if_neg (nle hp (by omega)), a21, if_pos (okb_nI (by omega) (by omega)), clN (by omega), cl3, hmo'.2.2.2.2, has_eq (show a.2.2.1 < 64 by omega) (show p < 6 by omega), ob_some, hmo'.1.2.2.2 p hp, a16, if_pos (okb_nI (by omega) (by omega)), clN (by omega), g1]
          have x1 : f_X1_hoursUntilWork qg qst qh qw qu pk (nI p) (nI (WH w)) = (if (if a.2.2.1.testBit p = true then (1 : Int32) else 0) = 0 then (if eU (Un p) = (-4 : Int32) then some (-4) else Option.bind (f_X1_hoursUntil qg qh pk (eU (Un p)) (nI (WH w))) fun r7 => if r7 = (-4 : Int32) then some (-4) else Option.bind (f_X1_wornBehind qg qw pk (eU (Un p)) r7) fun r10 => if (12 : Int32) < r10 then some (-4) else some r7) else some (-4)) := by unfold f_X1_hoursUntilWork; rw [parasolOf_eq qu (by omega), ob_some, c3, isStill_eq (show a.2.2.1 < 64 by omega) (show p < 6 by omega), ob_some, c5.2.2.2 p hp]
          by_cases hs : a.2.2.1.testBit p = true
          · rw [if_pos hs, if_neg not10] at x1
            refine ⟨s, trivial, fun nf => ⟨?_, ?_⟩⟩
            · show f_X7_soonest_L46 _ _ _ _ _ _ _ _ _ _ (nf + 1) _ _ _ = f_X7_soonest_L46 _ _ _ _ _ _ _ _ _ _ nf _ _ _
              rw [r1, x1, ob_some, if_pos rfl, nI_n1]
            · show f_X8_soonest_L45 _ _ _ _ (nf + 1) _ _ _ = f_X8_soonest_L45 _ _ _ _ nf _ _ _
              rw [r2, if_pos hs, if_neg not10, nI_n1]
          rw [if_neg hs, if_pos rfl] at x1
          rcases eU_cases a2 (h7 p hp) with ⟨b1, b2, b3, b4⟩ | ⟨b1, b2⟩
          rotate_left
          · rw [b2, if_pos rfl] at x1
            refine ⟨s, trivial, fun nf => ⟨?_, ?_⟩⟩
            · show f_X7_soonest_L46 _ _ _ _ _ _ _ _ _ _ (nf + 1) _ _ _ = f_X7_soonest_L46 _ _ _ _ _ _ _ _ _ _ nf _ _ _
              rw [r1, x1, ob_some, if_pos rfl, nI_n1]
            · show f_X8_soonest_L45 _ _ _ _ (nf + 1) _ _ _ = f_X8_soonest_L45 _ _ _ _ nf _ _ _
              rw [r2, if_neg hs, if_pos rfl, b2, if_pos rfl, nI_n1]
          · rw [b3, if_neg b4, c1, hoursUntil_eq b2 (hk _ b1).1 (hk _ b1).2 (by omega) (c5.1 _ b1) (h4 _ b1) g4, ob_some] at x1
            have y1 := untilHour_eq hm a2 b1 hmo'.2.1 (by omega) (hmo'.1.1 _ b1) (h4 _ b1) g2
            rcases eS_no (P := PU (K (Un p)) a.1 (a.2.2.2.2.1 (Un p)) (WH w)) (d := 49) (by omega) with z | ⟨r, z1, z2, z3⟩
            · rw [z, if_pos rfl] at x1
              refine ⟨s, trivial, fun nf => ⟨?_, ?_⟩⟩
              · show f_X7_soonest_L46 _ _ _ _ _ _ _ _ _ _ (nf + 1) _ _ _ = f_X7_soonest_L46 _ _ _ _ _ _ _ _ _ _ nf _ _ _
                rw [r1, c1, x1, ob_some, if_pos rfl, nI_n1]
              · show f_X8_soonest_L45 _ _ _ _ (nf + 1) _ _ _ = f_X8_soonest_L45 _ _ _ _ nf _ _ _
                rw [r2, if_neg hs, if_pos rfl, b3, if_neg b4, y1, ob_some, z, if_pos rfl, nI_n1]
            · have q1 := wornBehind_eq b2 (hk _ b1).1 (hk _ b1).2 (show a.1 < 100000 by omega) (c5.2.1 _ b1) (h5 _ b1) (show r < 1000 by omega)
              have q2 := wornBy_eq hm a2 b1 hmo'.2.1 (show a.1 < 90000 by omega) (hmo'.1.2.1 _ b1) (show r < 1000 by omega)
              have q3 := wears_le (K := K (Un p)) (g := a.1) (n := r)
              have q4 := wornAt_le (K := K (Un p)) (g := a.1) (w := a.2.2.2.2.2 (Un p)) (n := r)
              have q5 := h5 _ b1
              rw [z2, if_neg z3, q1, ob_some] at x1
              have q6 : (12 : Int32) < nI (wornAt (K (Un p)) a.1 (a.2.2.2.2.2 (Un p)) r) ↔ 12 < a.2.2.2.2.2 (Un p) + wears (K (Un p)) a.1 r := by
                rw [lt12 (by omega)]
                unfold wornAt
                split <;> omega
              have q7 := lt12 (a := a.2.2.2.2.2 (Un p) + wears (K (Un p)) a.1 r) (by omega)
              by_cases h12 : 12 < a.2.2.2.2.2 (Un p) + wears (K (Un p)) a.1 r
              · rw [if_pos (q6.mpr h12)] at x1
                refine ⟨s, trivial, fun nf => ⟨?_, ?_⟩⟩
                · show f_X7_soonest_L46 _ _ _ _ _ _ _ _ _ _ (nf + 1) _ _ _ = f_X7_soonest_L46 _ _ _ _ _ _ _ _ _ _ nf _ _ _
                  rw [r1, c1, x1, ob_some, if_pos rfl, nI_n1]
                · show f_X8_soonest_L45 _ _ _ _ (nf + 1) _ _ _ = f_X8_soonest_L45 _ _ _ _ nf _ _ _
                  rw [r2, if_neg hs, if_pos rfl, b3, if_neg b4, y1, ob_some, z2, if_neg z3, q2, ob_some, if_pos (q7.mpr h12), nI_n1]
              · rw [if_neg (fun z => h12 (q6.mp z))] at x1
                refine ⟨if s.1 = (-4 : Int32) then (nI p, nI r) else if s.2 ≤ nI r then s else (nI p, nI r), trivial, fun nf => ⟨?_, ?_⟩⟩
                · show f_X7_soonest_L46 _ _ _ _ _ _ _ _ _ _ (nf + 1) _ _ _ = f_X7_soonest_L46 _ _ _ _ _ _ _ _ _ _ nf _ _ _
                  rw [r1, c1, x1, ob_some, if_neg z3, nI_n1]
                  split
                  · rfl
                  · split <;> rfl
                · show f_X8_soonest_L45 _ _ _ _ (nf + 1) _ _ _ = f_X8_soonest_L45 _ _ _ _ nf _ _ _
                  rw [r2, if_neg hs, if_pos rfl, b3, if_neg b4, y1, ob_some, z2, if_neg z3, q2, ob_some, if_neg (fun z => h12 (q7.mp z)), nI_n1]
                  split
                  · rfl
                  · split <;> rfl) pe 0 20000 (-4, -4) (by omega) (by omega) trivial
      refine ⟨if nI i = 0 then s'.1 else s'.2, Eq.trans l1 ?_, Eq.trans l2 ?_⟩
      · split <;> rfl
      · split <;> rfl
    · refine ⟨-1, ?_, ?_⟩
      · rw [e1, ob_some, if_neg not10]
        rcases hi2 with h | ⟨k, h1, h2, rfl⟩
        · rw [if_pos h]
        · rw [if_neg (nI_pos h1), if_neg (show ¬ nI k ≤ (1 : Int32) from nle (a := 1) (by omega) h1)]
      · rw [e2, ob_some, if_neg not10, show f_X8_in i 0 1 = some 0 from inN_out (n := 1) (by decide) hi2, ob_some, if_pos rfl]
  · exact ⟨-1, by rw [e1, ob_some, if_pos rfl], by rw [e2, ob_some, if_pos rfl]⟩
end UNTIL
