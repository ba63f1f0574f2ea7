-- reading a text
def RT : Type := Nat × Nat × Nat × Nat × (Nat → Nat) × (Nat → Nat) × (Nat → Nat) × (Nat → Nat) × (Nat → Nat) × (Nat → Nat)
abbrev RT.sq (r : RT) : Nat := r.1
abbrev RT.pa (r : RT) : Nat := r.2.1
abbrev RT.pe (r : RT) : Nat := r.2.2.1
abbrev RT.wo (r : RT) : Nat := r.2.2.2.1
abbrev RT.K (r : RT) : Nat → Nat := r.2.2.2.2.1
abbrev RT.WS (r : RT) : Nat → Nat := r.2.2.2.2.2.1
abbrev RT.WH (r : RT) : Nat → Nat := r.2.2.2.2.2.2.1
abbrev RT.Ho (r : RT) : Nat → Nat := r.2.2.2.2.2.2.2.1
abbrev RT.Wo (r : RT) : Nat → Nat := r.2.2.2.2.2.2.2.2.1
abbrev RT.Sq (r : RT) : Nat → Nat := r.2.2.2.2.2.2.2.2.2
def fig (c : Nat) : Bool := decide (48 ≤ c ∧ c ≤ 57)
def numE (A : Nat → Nat) (i e : Nat) : Option (Nat × Nat) :=
  if fig (A i) = true then (if fig (A (i + 1)) = true then (if A (i + 2) = e then some (10 * (A i - 48) + (A (i + 1) - 48), i + 3) else none) else (if A (i + 1) = e then some (A i - 48, i + 2) else none)) else none
def itm (A : Nat → Nat) (r : RT) (i : Nat) : Option (Nat × RT) :=
  if A i = 113 then Option.bind (numE A (i + 1) 59) fun y => if 1 ≤ y.1 ∧ y.1 ≤ 9 ∧ r.pa + r.pe + r.wo = 0 then some (y.2, (⟨y.1, r.pa, r.pe, r.wo, r.K, r.WS, r.WH, r.Ho, r.Wo, r.Sq⟩ : RT)) else none
  else if A i = 117 then Option.bind (numE A (i + 1) 44) fun y => Option.bind (numE A y.2 44) fun y2 => Option.bind (numE A y2.2 59) fun y3 => if y.1 ≤ 3 ∧ y2.1 < 24 ∧ y3.1 ≤ 12 ∧ r.pa < 6 then some (y3.2, (⟨r.sq, r.pa + 1, r.pe, r.wo, setN r.K r.pa y.1, r.WS, r.WH, setN r.Ho r.pa y2.1, setN r.Wo r.pa y3.1, r.Sq⟩ : RT)) else none
  else if A i = 112 then Option.bind (numE A (i + 1) 59) fun y => if y.1 < r.sq ∧ r.pe < 5 then some (y.2, (⟨r.sq, r.pa, r.pe + 1, r.wo, r.K, r.WS, r.WH, r.Ho, r.Wo, setN r.Sq r.pe y.1⟩ : RT)) else none
  else if A i = 119 then Option.bind (numE A (i + 1) 44) fun y => Option.bind (numE A y.2 59) fun y2 => if y.1 < r.sq ∧ y2.1 < 24 ∧ r.wo < 6 then some (y2.2, (⟨r.sq, r.pa, r.pe, r.wo + 1, r.K, setN r.WS r.wo y.1, setN r.WH r.wo y2.1, r.Ho, r.Wo, r.Sq⟩ : RT)) else none
  else none
theorem itm_cases {A : Nat → Nat} {r r' : RT} {i j : Nat} (h : itm A r i = some (j, r')) :
    (∃ y, numE A (i + 1) 59 = some y ∧ (1 ≤ y.1 ∧ y.1 ≤ 9 ∧ r.pa + r.pe + r.wo = 0) ∧ j = y.2 ∧ r' = (⟨y.1, r.pa, r.pe, r.wo, r.K, r.WS, r.WH, r.Ho, r.Wo, r.Sq⟩ : RT)) ∨
    (∃ y y2 y3, numE A (i + 1) 44 = some y ∧ numE A y.2 44 = some y2 ∧ numE A y2.2 59 = some y3 ∧ (y.1 ≤ 3 ∧ y2.1 < 24 ∧ y3.1 ≤ 12 ∧ r.pa < 6) ∧ j = y3.2 ∧ r' = (⟨r.sq, r.pa + 1, r.pe, r.wo, setN r.K r.pa y.1, r.WS, r.WH, setN r.Ho r.pa y2.1, setN r.Wo r.pa y3.1, r.Sq⟩ : RT)) ∨
    (∃ y, numE A (i + 1) 59 = some y ∧ (y.1 < r.sq ∧ r.pe < 5) ∧ j = y.2 ∧ r' = (⟨r.sq, r.pa, r.pe + 1, r.wo, r.K, r.WS, r.WH, r.Ho, r.Wo, setN r.Sq r.pe y.1⟩ : RT)) ∨
    (∃ y y2, numE A (i + 1) 44 = some y ∧ numE A y.2 59 = some y2 ∧ (y.1 < r.sq ∧ y2.1 < 24 ∧ r.wo < 6) ∧ j = y2.2 ∧ r' = (⟨r.sq, r.pa, r.pe, r.wo + 1, r.K, setN r.WS r.wo y.1, setN r.WH r.wo y2.1, r.Ho, r.Wo, r.Sq⟩ : RT)) := by
  unfold itm at h
  by_cases h1 : A i = 113
  · rw [if_pos h1] at h
    obtain ⟨y, q1, h⟩ := op_bind h
    obtain ⟨q, h⟩ := op_ob h
    cases h
    exact Or.inl ⟨y, q1, q, rfl, rfl⟩
  rw [if_neg h1] at h
  by_cases h2 : A i = 117
  · rw [if_pos h2] at h
    obtain ⟨y, q1, h⟩ := op_bind h
    obtain ⟨y2, q2, h⟩ := op_bind h
    obtain ⟨y3, q3, h⟩ := op_bind h
    obtain ⟨q, h⟩ := op_ob h
    cases h
    exact Or.inr (Or.inl ⟨y, y2, y3, q1, q2, q3, q, rfl, rfl⟩)
  rw [if_neg h2] at h
  by_cases h3 : A i = 112
  · rw [if_pos h3] at h
    obtain ⟨y, q1, h⟩ := op_bind h
    obtain ⟨q, h⟩ := op_ob h
    cases h
    exact Or.inr (Or.inr (Or.inl ⟨y, q1, q, rfl, rfl⟩))
  rw [if_neg h3] at h
  by_cases h4 : A i = 119
  · rw [if_pos h4] at h
    obtain ⟨y, q1, h⟩ := op_bind h
    obtain ⟨y2, q2, h⟩ := op_bind h
    obtain ⟨q, h⟩ := op_ob h
    cases h
    exact Or.inr (Or.inr (Or.inr ⟨y, y2, q1, q2, q, rfl, rfl⟩))
  rw [if_neg h4] at h
  cases h
def RV (r : RT) : Prop := r.sq ≤ 9 ∧ r.pa ≤ 6 ∧ r.pe ≤ 5 ∧ r.wo ≤ 6 ∧ (∀ u, u < r.pa → r.K u < 4 ∧ r.Ho u < 24 ∧ r.Wo u ≤ 12) ∧ (∀ w, w < r.wo → r.WS w < 9 ∧ r.WH w < 24) ∧ (∀ p, p < r.pe → r.Sq p < r.sq)
abbrev ZT : Type := (Nat → Int32) × Int32 × Int32 × Int32 × Int32 × (Nat → Int32) × (Nat → Int32) × (Nat → Int32) × (Nat → Int32) × (Nat → Int32) × (Nat → Int32)
/-- the class's reader holds this -/
def RC (r : RT) (z : ZT) : Prop := z.2.1 = nI r.sq ∧ z.2.2.1 = nI r.pa ∧ z.2.2.2.1 = nI r.pe ∧ z.2.2.2.2.1 = nI r.wo ∧ (∀ u, u < r.pa → z.2.2.2.2.2.1 u = nI (r.K u)) ∧ (∀ w, w < r.wo → z.2.2.2.2.2.2.1 w = nI (r.WS w)) ∧ (∀ w, w < r.wo → z.2.2.2.2.2.2.2.1 w = nI (r.WH w)) ∧ (∀ u, u < r.pa → z.2.2.2.2.2.2.2.2.1 u = nI (r.Ho u)) ∧ (∀ u, u < r.pa → z.2.2.2.2.2.2.2.2.2.1 u = nI (r.Wo u)) ∧ (∀ p, p < r.pe → z.2.2.2.2.2.2.2.2.2.2 p = nI (r.Sq p))
/-- the reference's rows hold this -/
def RM (r : RT) (L R : Nat → Int32) : Prop := L 0 = nI r.sq ∧ L 1 = nI r.pa ∧ L 2 = nI r.pe ∧ L 3 = nI r.wo ∧ (∀ u, u < r.pa → L (4 + u) = nI (r.K u)) ∧ (∀ w, w < r.wo → L (10 + w) = nI (r.WS w)) ∧ (∀ w, w < r.wo → L (16 + w) = nI (r.WH w)) ∧ (∀ u, u < r.pa → R (4 + u) = nI (r.Ho u)) ∧ (∀ u, u < r.pa → R (10 + u) = nI (r.Wo u)) ∧ (∀ p, p < r.pe → R (16 + p) = nI (r.Sq p)) ∧ ∀ k, k < 4 → R k = 0
theorem itm_V {A : Nat → Nat} {r r' : RT} {i j : Nat} (hv : RV r) (h : itm A r i = some (j, r')) : RV r' := by
  obtain ⟨v1, v2, v3, v4, v5, v6, v7⟩ := hv
  rcases itm_cases h with ⟨y, -, q, -, rfl⟩ | ⟨y, y2, y3, -, -, -, q, -, rfl⟩ | ⟨y, -, q, -, rfl⟩ | ⟨y, y2, -, -, q, -, rfl⟩
  · exact ⟨q.2.1, v2, v3, v4, fun u (hu : u < r.pa) => by omega, fun u (hu : u < r.wo) => by omega, fun u (hu : u < r.pe) => by omega⟩
  · refine ⟨v1, by show r.pa + 1 ≤ 6; omega, v3, v4, fun u hu => ?_, v6, v7⟩
    have hu : u < r.pa + 1 := hu
    show setN r.K r.pa _ u < 4 ∧ setN r.Ho r.pa _ u < 24 ∧ setN r.Wo r.pa _ u ≤ 12
    by_cases hup : u = r.pa
    · subst hup; rw [setN_s, setN_s, setN_s]; omega
    · rw [setN_n hup, setN_n hup, setN_n hup]; exact v5 u (by omega)
  · refine ⟨v1, v2, by show r.pe + 1 ≤ 5; omega, v4, v5, v6, fun u hu => ?_⟩
    have hu : u < r.pe + 1 := hu
    show setN r.Sq r.pe _ u < r.sq
    by_cases hup : u = r.pe
    · subst hup; rw [setN_s]; exact q.1
    · rw [setN_n hup]; exact v7 u (by omega)
  · refine ⟨v1, v2, v3, by show r.wo + 1 ≤ 6; omega, v5, fun u hu => ?_, v7⟩
    have hu : u < r.wo + 1 := hu
    show setN r.WS r.wo _ u < 9 ∧ setN r.WH r.wo _ u < 24
    by_cases hup : u = r.wo
    · subst hup; rw [setN_s, setN_s]; omega
    · rw [setN_n hup, setN_n hup]; exact v6 u (by omega)
theorem numE_lt {A : Nat → Nat} {i e v j : Nat} (h : numE A i e = some (v, j)) : i < j ∧ v < 100 ∧ A (j - 1) = e ∧ j ≤ i + 3 := by
  unfold numE at h
  split at h
  · rename_i f1
    split at h
    · rename_i f2
      split at h
      · rename_i f3
        cases h
        unfold fig at f1 f2
        have := of_decide_eq_true f1
        have := of_decide_eq_true f2
        exact ⟨by omega, by omega, f3, by omega⟩
      · cases h
    · split at h
      · rename_i f3
        cases h
        unfold fig at f1
        have := of_decide_eq_true f1
        exact ⟨by omega, by omega, f3, by omega⟩
      · cases h
  · cases h
theorem itm_lt {A : Nat → Nat} {r r' : RT} {i j : Nat} (h : itm A r i = some (j, r')) : i < j ∧ A (j - 1) = 59 := by
  rcases itm_cases h with ⟨y, q1, -, rfl, -⟩ | ⟨y, y2, y3, q1, q2, q3, -, rfl, -⟩ | ⟨y, q1, -, rfl, -⟩ | ⟨y, y2, q1, q2, -, rfl, -⟩
  · have := numE_lt q1
    exact ⟨by omega, this.2.2.1⟩
  · have := numE_lt q1
    have := numE_lt q2
    have := numE_lt q3
    exact ⟨by omega, this.2.2.1⟩
  · have := numE_lt q1
    exact ⟨by omega, this.2.2.1⟩
  · have := numE_lt q1
    have := numE_lt q2
    exact ⟨by omega, this.2.2.1⟩
-- the letters of both
def lC (n : Nat) (L : Nat → Nat) (i : Nat) : Nat := if i < n then L i else 32
def lM (n : Nat) (L : Nat → Nat) (i : Nat) : Nat := if i < n then L i else 0
theorem lM_fig {n : Nat} {L : Nat → Nat} {i : Nat} : fig (lM n L i) = fig (lC n L i) := by
  unfold lM lC
  split
  · rfl
  · decide
theorem lM_eq {n : Nat} {L : Nat → Nat} {i e : Nat} (h0 : e ≠ 0) (h32 : e ≠ 32) : lM n L i = e ↔ lC n L i = e := by
  unfold lM lC
  split
  · exact Iff.rfl
  · exact ⟨fun h => absurd h.symm h0, fun h => absurd h.symm h32⟩
theorem lM_figv {n : Nat} {L : Nat → Nat} {i : Nat} (h : fig (lC n L i) = true) : lM n L i = lC n L i := by
  unfold lM lC at *
  split
  · rfl
  · rename_i q; rw [if_neg q] at h; exact absurd h (by decide)
theorem numE_M {n : Nat} {L : Nat → Nat} {i e : Nat} (h0 : e ≠ 0) (h32 : e ≠ 32) : numE (lM n L) i e = numE (lC n L) i e := by
  unfold numE
  rw [lM_fig, lM_fig]
  by_cases f1 : fig (lC n L i) = true
  · rw [if_pos f1, if_pos f1, lM_figv f1]
    by_cases f2 : fig (lC n L (i + 1)) = true
    · rw [if_pos f2, if_pos f2, lM_figv f2]
      by_cases q : lC n L (i + 2) = e
      · rw [if_pos q, if_pos ((lM_eq h0 h32).mpr q)]
      · rw [if_neg q, if_neg (fun z => q ((lM_eq h0 h32).mp z))]
    · rw [if_neg f2, if_neg f2]
      by_cases q : lC n L (i + 1) = e
      · rw [if_pos q, if_pos ((lM_eq h0 h32).mpr q)]
      · rw [if_neg q, if_neg (fun z => q ((lM_eq h0 h32).mp z))]
  · rw [if_neg f1, if_neg f1]
section TEXTC
variable {n : Nat} {L : Nat → Nat} {yl ml : Int32} {yt mt : Nat → Int32}
theorem okc_dec : ∀ c, c < 127 → okc (nI c) = true := by decide +kernel
theorem lC_lt (hT : IT n L yl ml yt mt) (i : Nat) : lC n L i < 127 := by
  unfold lC
  split
  · rename_i h; have := (hT.2.2.2 i h).2.1; omega
  · omega
theorem lM_lt (hT : IT n L yl ml yt mt) (i : Nat) : lM n L i < 127 := by
  unfold lM
  split
  · rename_i h; have := (hT.2.2.2 i h).2.1; omega
  · omega
theorem letterAt_c (hT : IT n L yl ml yt mt) {i : Nat} (hi : i < 1000) : f_X6_letterAt yl yt (nI i) = some (nI (lC n L i)) := by
  obtain ⟨t1, rfl, rfl, t4⟩ := id hT
  unfold f_X6_letterAt lC
  rw [if_neg (nI_pos (by omega))]
  by_cases h : i < n
  · obtain ⟨b1, b2, b3, b4⟩ := t4 i h
    rw [if_neg (nle h (by omega)), if_neg (show ¬ (200 : Int32) ≤ nI i from nle (b := 200) (by omega) (by omega)), if_pos (okb_nI (by omega) (by omega)), clN (by omega), b3, if_pos (okc_dec _ (by omega)), if_pos h]
  · rw [if_pos (lle (by omega) (by omega)), if_neg h]
    rfl
theorem letterAt_m (hT : IT n L yl ml yt mt) {i : Nat} (hi : i < 1000) : f_X8_letterAt ml mt (nI i) = some (nI (lM n L i)) := by
  obtain ⟨t1, rfl, rfl, t4⟩ := id hT
  unfold f_X8_letterAt lM
  by_cases h : i < n
  · obtain ⟨b1, b2, b3, b4⟩ := t4 i h
    rw [if_neg (nle h (by omega)), if_pos (okb_nI (by omega) (by omega)), clN (by omega), b4, if_pos h]
  · rw [if_pos (lle (by omega) (by omega)), if_neg h]
    rfl
theorem fig_c : ∀ c, c < 127 → f_X3_isFigure (nI c) = some (if fig c = true then 1 else 0) := by decide +kernel
theorem fig_m : ∀ c, c < 127 → f_X8_isFigure (nI c) = some (if fig c = true then 1 else 0) := by decide +kernel
theorem figv {c : Nat} (h : fig c = true) : 48 ≤ c ∧ c ≤ 57 := of_decide_eq_true h
theorem eqL {a b : Nat} (ha : a < 1000) (hb : b < 1000) : (nI a = nI b) = (a = b) := propext (eqN (by omega) (by omega))
theorem behindNumber_c (hT : IT n L yl ml yt mt) {i j e : Nat} (hi : i < 900) (hj : j < 3) (he : e < 127) (rn : Nat → Int32) : f_X3_behindNumber rn yl yt (nI i) (nI j) (nI e) = match numE (lC n L) i e with | none => some (-4, rn) | some (v, x) => some (nI x, upd rn j (nI v)) := by
  have g0 := lC_lt hT i
  have g1 := lC_lt hT (i + 1)
  have g2 := lC_lt hT (i + 2)
  unfold f_X3_behindNumber numE
  rw [show (20000 : Nat) = 19997 + 1 + 1 + 1 from rfl, f_X3_behindNumber_L6_s, show (2 : Int32) = nI 2 from rfl, nI_add, if_neg (nle (by omega) (by omega)), letterAt_c hT (by omega), ob_some, fig_c _ g0, ob_some]
  by_cases f1 : fig (lC n L i) = true
  · have b1 := figv f1
    rw [if_pos f1, if_neg not10, ob_some, if_pos f1, show (48 : Int32) = nI 48 from rfl, pk_sub (by omega), show (0 : Int32) * (10 : Int32) = nI 0 from rfl, nI_add, Nat.zero_add, nI_n1, f_X3_behindNumber_L6_s, show (2 : Int32) = nI 2 from rfl, nI_add, if_neg (nle (by omega) (by omega)), letterAt_c hT (by omega), ob_some, fig_c _ g1, ob_some]
    by_cases f2 : fig (lC n L (i + 1)) = true
    · have b2 := figv f2
      rw [if_pos f2, if_neg not10, ob_some, if_pos f2, show (48 : Int32) = nI 48 from rfl, pk_sub (by omega), show (10 : Int32) = nI 10 from rfl, pk_mul, nI_add, nI_n1, f_X3_behindNumber_L6_s, show (2 : Int32) = nI 2 from rfl, nI_add, if_pos (lle (by omega) (by omega)), if_neg (fun z => by have := (eqN (by omega) (by omega)).mp z; omega), letterAt_c hT (by omega), ob_some]
      by_cases q : lC n L (i + 2) = e
      · rw [if_pos (by rw [q]), if_pos q, put_eq _ _ (by omega) (by omega), ob_some, nI_n1, Nat.mul_comm]
      · rw [if_neg (fun z => q ((eqN (by omega) (by omega)).mp z)), if_neg q]
    · rw [if_neg f2, if_pos rfl, if_neg f2, if_neg (fun z => by have := (eqN (by omega) (by omega)).mp z; omega), ob_some]
      by_cases q : lC n L (i + 1) = e
      · rw [if_pos (by rw [q]), if_pos q, put_eq _ _ (by omega) (by omega), ob_some, nI_n1]
      · rw [if_neg (fun z => q ((eqN (by omega) (by omega)).mp z)), if_neg q]
  · rw [if_neg f1, if_pos rfl, if_neg f1, if_pos rfl]
theorem behindL_c (hT : IT n L yl ml yt mt) {i j c e : Nat} (hi : i < 900) (hj : j < c) (hc : c ≤ 3) (he : e = if j + 1 = c then 59 else 44) (sq pa pe wo : Int32) (kd wq wr ho wn sr rn : Nat → Int32) (k : Int32 → Int32 → (Nat → Int32) → Option (Int32 × ZT)) (nf : Nat) : f_X3_behindItem_L20 (nI c) yl yt sq pa pe wo kd wq wr ho wn sr k (nf + 1) (nI i) (nI j) rn = match numE (lC n L) i e with | none => some (-4, rn, sq, pa, pe, wo, kd, wq, wr, ho, wn, sr) | some (v, x) => f_X3_behindItem_L20 (nI c) yl yt sq pa pe wo kd wq wr ho wn sr k nf (nI x) (nI (j + 1)) (upd rn j (nI v)) := by
  rw [f_X3_behindItem_L20_s, if_neg (nle hj (by omega)), show (1 : Int32) = nI 1 from rfl, pk_sub (by omega), nI_add]
  by_cases q : j + 1 = c
  · rw [if_pos q] at he
    rw [if_pos (by rw [show c - 1 = j by omega]), show (59 : Int32) = nI 59 from rfl, behindNumber_c hT hi (by omega) (by omega), he]
    cases hn : numE (lC n L) i 59 with
    | none => rfl
    | some x =>
      obtain ⟨v, x⟩ := x
      have := (numE_lt hn).2.2.2
      show (if nI x = (-4 : Int32) then _ else _) = _
      rw [if_neg (nI_m4 (by omega))]
  · rw [if_neg q] at he
    rw [if_neg (fun z => q (by have := (eqN (by omega) (by omega)).mp z; omega)), show (44 : Int32) = nI 44 from rfl, behindNumber_c hT hi (by omega) (by omega), he]
    cases hn : numE (lC n L) i 44 with
    | none => rfl
    | some x =>
      obtain ⟨v, x⟩ := x
      have := (numE_lt hn).2.2.2
      show (if nI x = (-4 : Int32) then _ else _) = _
      rw [if_neg (nI_m4 (by omega))]
end TEXTC
