section ITEMC
variable {n : Nat} {L : Nat → Nat} {yl ml : Int32} {yt mt : Nat → Int32}
theorem cLx (c : Nat) (hc : c < 10) (sq pa pe wo : Int32) (kd wq wr ho wn sr rn : Nat → Int32) (k : Int32 → Int32 → (Nat → Int32) → Option (Int32 × ZT)) (nf : Nat) (x : Int32) : f_X3_behindItem_L20 (nI c) yl yt sq pa pe wo kd wq wr ho wn sr k (nf + 1) x (nI c) rn = k x (nI c) rn := by
  rw [f_X3_behindItem_L20_s, if_pos (lle (Nat.le_refl _) (by omega))]
theorem cL1 (hT : IT n L yl ml yt mt) {i : Nat} (hi : i < 800) (sq pa pe wo : Int32) (kd wq wr ho wn sr rn : Nat → Int32) (k : Int32 → Int32 → (Nat → Int32) → Option (Int32 × ZT)) : (numE (lC n L) i 59 = none → ∃ z, f_X3_behindItem_L20 (nI 1) yl yt sq pa pe wo kd wq wr ho wn sr k 20000 (nI i) 0 rn = some (-4, z)) ∧ (∀ v x, numE (lC n L) i 59 = some (v, x) → f_X3_behindItem_L20 (nI 1) yl yt sq pa pe wo kd wq wr ho wn sr k 20000 (nI i) 0 rn = k (nI x) (nI 1) (upd rn 0 (nI v))) := by
  have h1 : f_X3_behindItem_L20 (nI 1) yl yt sq pa pe wo kd wq wr ho wn sr k 20000 (nI i) 0 rn = _ := behindL_c hT (i := i) (j := 0) (c := 1) (e := 59) (by omega) (by omega) (by omega) rfl sq pa pe wo kd wq wr ho wn sr rn k 19999
  rw [h1]
  constructor
  · intro h
    rw [h]
    exact ⟨_, rfl⟩
  · intro v x h
    rw [h]
    exact cLx 1 (by omega) sq pa pe wo kd wq wr ho wn sr _ k 19998 _
theorem cL2 (hT : IT n L yl ml yt mt) {i : Nat} (hi : i < 800) (sq pa pe wo : Int32) (kd wq wr ho wn sr rn : Nat → Int32) (k : Int32 → Int32 → (Nat → Int32) → Option (Int32 × ZT)) : (numE (lC n L) i 44 = none → ∃ z, f_X3_behindItem_L20 (nI 2) yl yt sq pa pe wo kd wq wr ho wn sr k 20000 (nI i) 0 rn = some (-4, z)) ∧ (∀ v x, numE (lC n L) i 44 = some (v, x) → (numE (lC n L) x 59 = none → ∃ z, f_X3_behindItem_L20 (nI 2) yl yt sq pa pe wo kd wq wr ho wn sr k 20000 (nI i) 0 rn = some (-4, z)) ∧ (∀ v2 x2, numE (lC n L) x 59 = some (v2, x2) → f_X3_behindItem_L20 (nI 2) yl yt sq pa pe wo kd wq wr ho wn sr k 20000 (nI i) 0 rn = k (nI x2) (nI 2) (upd (upd rn 0 (nI v)) 1 (nI v2)))) := by
  have h1 : f_X3_behindItem_L20 (nI 2) yl yt sq pa pe wo kd wq wr ho wn sr k 20000 (nI i) 0 rn = _ := behindL_c hT (i := i) (j := 0) (c := 2) (e := 44) (by omega) (by omega) (by omega) rfl sq pa pe wo kd wq wr ho wn sr rn k 19999
  rw [h1]
  constructor
  · intro h
    rw [h]
    exact ⟨_, rfl⟩
  · intro v x h
    have hx := (numE_lt h).2.2.2
    rw [h]
    have h2 := behindL_c hT (i := x) (j := 1) (c := 2) (e := 59) (by omega) (by omega) (by omega) rfl sq pa pe wo kd wq wr ho wn sr (upd rn 0 (nI v)) k 19998
    constructor
    · intro h'
      rw [h'] at h2
      exact ⟨_, h2⟩
    · intro v2 x2 h'
      rw [h'] at h2
      refine Eq.trans h2 ?_
      exact cLx 2 (by omega) sq pa pe wo kd wq wr ho wn sr _ k 19997 _
theorem cL3 (hT : IT n L yl ml yt mt) {i : Nat} (hi : i < 800) (sq pa pe wo : Int32) (kd wq wr ho wn sr rn : Nat → Int32) (k : Int32 → Int32 → (Nat → Int32) → Option (Int32 × ZT)) : (numE (lC n L) i 44 = none → ∃ z, f_X3_behindItem_L20 (nI 3) yl yt sq pa pe wo kd wq wr ho wn sr k 20000 (nI i) 0 rn = some (-4, z)) ∧ (∀ v x, numE (lC n L) i 44 = some (v, x) → (numE (lC n L) x 44 = none → ∃ z, f_X3_behindItem_L20 (nI 3) yl yt sq pa pe wo kd wq wr ho wn sr k 20000 (nI i) 0 rn = some (-4, z)) ∧ (∀ v2 x2, numE (lC n L) x 44 = some (v2, x2) → (numE (lC n L) x2 59 = none → ∃ z, f_X3_behindItem_L20 (nI 3) yl yt sq pa pe wo kd wq wr ho wn sr k 20000 (nI i) 0 rn = some (-4, z)) ∧ (∀ v3 x3, numE (lC n L) x2 59 = some (v3, x3) → f_X3_behindItem_L20 (nI 3) yl yt sq pa pe wo kd wq wr ho wn sr k 20000 (nI i) 0 rn = k (nI x3) (nI 3) (upd (upd (upd rn 0 (nI v)) 1 (nI v2)) 2 (nI v3))))) := by
  have h1 : f_X3_behindItem_L20 (nI 3) yl yt sq pa pe wo kd wq wr ho wn sr k 20000 (nI i) 0 rn = _ := behindL_c hT (i := i) (j := 0) (c := 3) (e := 44) (by omega) (by omega) (by omega) rfl sq pa pe wo kd wq wr ho wn sr rn k 19999
  rw [h1]
  constructor
  · intro h
    rw [h]
    exact ⟨_, rfl⟩
  · intro v x h
    have hx := (numE_lt h).2.2.2
    rw [h]
    have h2 := behindL_c hT (i := x) (j := 1) (c := 3) (e := 44) (by omega) (by omega) (by omega) rfl sq pa pe wo kd wq wr ho wn sr (upd rn 0 (nI v)) k 19998
    constructor
    · intro h'
      rw [h'] at h2
      exact ⟨_, h2⟩
    · intro v2 x2 h'
      have hx2 := (numE_lt h').2.2.2
      rw [h'] at h2
      have h3 := behindL_c hT (i := x2) (j := 2) (c := 3) (e := 59) (by omega) (by omega) (by omega) rfl sq pa pe wo kd wq wr ho wn sr (upd (upd rn 0 (nI v)) 1 (nI v2)) k 19997
      constructor
      · intro h''
        rw [h''] at h3
        exact ⟨_, h2.trans h3⟩
      · intro v3 x3 h''
        rw [h''] at h3
        refine Eq.trans h2 (Eq.trans h3 ?_)
        exact cLx 3 (by omega) sq pa pe wo kd wq wr ho wn sr _ k 19996 _
-- what the class takes
theorem c113_117 : ¬ nI 113 = (117 : Int32) := by decide
theorem c113_112 : ¬ nI 113 = (112 : Int32) := by decide
theorem c113_119 : ¬ nI 113 = (119 : Int32) := by decide
theorem c117_113 : ¬ nI 117 = (113 : Int32) := by decide
theorem c117_112 : ¬ nI 117 = (112 : Int32) := by decide
theorem c117_119 : ¬ nI 117 = (119 : Int32) := by decide
theorem c112_113 : ¬ nI 112 = (113 : Int32) := by decide
theorem c112_117 : ¬ nI 112 = (117 : Int32) := by decide
theorem c112_119 : ¬ nI 112 = (119 : Int32) := by decide
theorem c119_113 : ¬ nI 119 = (113 : Int32) := by decide
theorem c119_117 : ¬ nI 119 = (117 : Int32) := by decide
theorem c119_112 : ¬ nI 119 = (112 : Int32) := by decide
theorem acc_q (sq pa pe wo : Int32) (kd wq wr ho wn sr rn : Nat → Int32) : f_X3_accepts rn sq pa pe wo kd wq wr ho wn sr (nI 113) = Option.bind (f_X3_acceptsSquares rn sq pa pe wo) fun x => if x.1 = 0 then some (0, x.2, pa, pe, wo, kd, wq, wr, ho, wn, sr) else some (1, x.2, pa, pe, wo, kd, wq, wr, ho, wn, sr) := by
  unfold f_X3_accepts
  rw [if_pos (show nI 113 = (113 : Int32) from rfl)]
  congr 1
theorem acc_u (sq pa pe wo : Int32) (kd wq wr ho wn sr rn : Nat → Int32) : f_X3_accepts rn sq pa pe wo kd wq wr ho wn sr (nI 117) = Option.bind (f_X3_acceptsParasol rn pa kd ho wn) fun x => if x.1 = 0 then some (0, sq, x.2.1, pe, wo, x.2.2.1, wq, wr, x.2.2.2.1, x.2.2.2.2, sr) else some (1, sq, x.2.1, pe, wo, x.2.2.1, wq, wr, x.2.2.2.1, x.2.2.2.2, sr) := by
  unfold f_X3_accepts
  rw [if_neg c117_113, if_pos (show nI 117 = (117 : Int32) from rfl)]
  congr 1
theorem acc_p (sq pa pe wo : Int32) (kd wq wr ho wn sr rn : Nat → Int32) : f_X3_accepts rn sq pa pe wo kd wq wr ho wn sr (nI 112) = Option.bind (f_X3_acceptsPerson rn sq pe sr) fun x => if x.1 = 0 then some (0, sq, pa, x.2.1, wo, kd, wq, wr, ho, wn, x.2.2) else some (1, sq, pa, x.2.1, wo, kd, wq, wr, ho, wn, x.2.2) := by
  unfold f_X3_accepts
  rw [if_neg c112_113, if_neg c112_117, if_pos (show nI 112 = (112 : Int32) from rfl)]
  congr 1
theorem acc_w (sq pa pe wo : Int32) (kd wq wr ho wn sr rn : Nat → Int32) : f_X3_accepts rn sq pa pe wo kd wq wr ho wn sr (nI 119) = Option.bind (f_X3_acceptsWork rn sq wo wq wr) fun x => if x.1 = 0 then some (0, sq, pa, pe, x.2.1, kd, x.2.2.1, x.2.2.2, ho, wn, sr) else some (1, sq, pa, pe, x.2.1, kd, x.2.2.1, x.2.2.2, ho, wn, sr) := by
  unfold f_X3_accepts
  rw [if_neg c119_113, if_neg c119_117, if_neg c119_112, if_pos (show nI 119 = (119 : Int32) from rfl)]
theorem acc_0 {c : Nat} (hc : c < 127) (h1 : c ≠ 113) (h2 : c ≠ 117) (h3 : c ≠ 112) (h4 : c ≠ 119) (sq pa pe wo : Int32) (kd wq wr ho wn sr rn : Nat → Int32) : f_X3_accepts rn sq pa pe wo kd wq wr ho wn sr (nI c) = some (0, sq, pa, pe, wo, kd, wq, wr, ho, wn, sr) := by
  have e1 : ¬ nI c = (113 : Int32) := fun z => h1 ((eqN (b := 113) (by omega) (by omega)).mp z)
  have e2 : ¬ nI c = (117 : Int32) := fun z => h2 ((eqN (b := 117) (by omega) (by omega)).mp z)
  have e3 : ¬ nI c = (112 : Int32) := fun z => h3 ((eqN (b := 112) (by omega) (by omega)).mp z)
  have e4 : ¬ nI c = (119 : Int32) := fun z => h4 ((eqN (b := 119) (by omega) (by omega)).mp z)
  unfold f_X3_accepts
  rw [if_neg e1, if_neg e2, if_neg e3, if_neg e4]
theorem num_0 {c : Nat} (hc : c < 127) (h1 : c ≠ 113) (h2 : c ≠ 117) (h3 : c ≠ 112) (h4 : c ≠ 119) : f_X3_numbersOf (nI c) = some 0 := by
  have e1 : ¬ nI c = (113 : Int32) := fun z => h1 ((eqN (b := 113) (by omega) (by omega)).mp z)
  have e2 : ¬ nI c = (117 : Int32) := fun z => h2 ((eqN (b := 117) (by omega) (by omega)).mp z)
  have e3 : ¬ nI c = (112 : Int32) := fun z => h3 ((eqN (b := 112) (by omega) (by omega)).mp z)
  have e4 : ¬ nI c = (119 : Int32) := fun z => h4 ((eqN (b := 119) (by omega) (by omega)).mp z)
  unfold f_X3_numbersOf
  rw [if_neg e2, if_neg e4, if_neg e1, if_neg e3]
theorem at3_0 (rn : Nat → Int32) : f_X7_at 3 rn (0 : Int32) = some (rn 0) := at_eq (i := 0) rn (by decide) (by decide)
theorem at3_1 (rn : Nat → Int32) : f_X7_at 3 rn (1 : Int32) = some (rn 1) := at_eq (i := 1) rn (by decide) (by decide)
theorem at3_2 (rn : Nat → Int32) : f_X7_at 3 rn (2 : Int32) = some (rn 2) := at_eq (i := 2) rn (by decide) (by decide)
theorem ltN {a b : Nat} (ha : a < 1000) (hb : b < 1000) : (nI a < nI b) = (a < b) := propext (nI_ltI (by omega) (by omega))
theorem leN {a b : Nat} (ha : a < 1000) (hb : b < 1000) : (nI a ≤ nI b) = (a ≤ b) := propext (nI_leI (by omega) (by omega))
theorem sqs_c {rn : Nat → Int32} {v sq pa pe wo : Nat} (hr : rn 0 = nI v) (hv : v < 100) (h1 : pa ≤ 6) (h2 : pe ≤ 5) (h3 : wo ≤ 6) : f_X3_acceptsSquares rn (nI sq) (nI pa) (nI pe) (nI wo) = some (if 1 ≤ v ∧ v ≤ 9 ∧ pa + pe + wo = 0 then (1, nI v) else (0, nI sq)) := by
  unfold f_X3_acceptsSquares
  rw [at3_0, ob_some, hr, nI_add, nI_add]
  by_cases q1 : v < 1
  · rw [if_pos (show nI v < (1 : Int32) from (nI_ltI (b := 1) (by omega) (by decide)).mpr q1), if_neg (by omega)]
  rw [if_neg (show ¬ nI v < (1 : Int32) from fun z => q1 ((nI_ltI (b := 1) (by omega) (by decide)).mp z))]
  by_cases q2 : 9 < v
  · rw [if_pos (show (9 : Int32) < nI v from (nI_ltI (a := 9) (by decide) (by omega)).mpr q2), if_neg (by omega)]
  rw [if_neg (show ¬ (9 : Int32) < nI v from fun z => q2 ((nI_ltI (a := 9) (by decide) (by omega)).mp z))]
  by_cases q3 : pa + pe + wo ≤ 0
  · rw [if_pos (show nI (pa + pe + wo) ≤ (0 : Int32) from lle (b := 0) q3 (by omega)), if_pos (by omega)]
  · rw [if_neg (show ¬ nI (pa + pe + wo) ≤ (0 : Int32) from nle (a := 0) (by omega) (by omega)), if_neg (by omega)]
theorem pas_c {rn kd ho wn : Nat → Int32} {k h w pa : Nat} (hr0 : rn 0 = nI k) (hr1 : rn 1 = nI h) (hr2 : rn 2 = nI w) (hk : k < 100) (hh : h < 100) (hw : w < 100) (h1 : pa ≤ 6) : f_X3_acceptsParasol rn (nI pa) kd ho wn = some (if k ≤ 3 ∧ h < 24 ∧ w ≤ 12 ∧ pa < 6 then (1, nI (pa + 1), upd kd pa (nI k), upd ho pa (nI h), upd wn pa (nI w)) else (0, nI pa, kd, ho, wn)) := by
  unfold f_X3_acceptsParasol
  rw [at3_0, ob_some, at3_1, ob_some, at3_2, ob_some, hr0, hr1, hr2]
  by_cases q1 : 3 < k
  · rw [if_pos (show (3 : Int32) < nI k from (nI_ltI (a := 3) (by decide) (by omega)).mpr q1), if_neg (by omega)]
  rw [if_neg (show ¬ (3 : Int32) < nI k from fun z => q1 ((nI_ltI (a := 3) (by decide) (by omega)).mp z))]
  by_cases q2 : h < 24
  · rw [show f_X7_isHour (nI h) = some 1 from hasX_in (n := 24) q2 (by decide), ob_some, if_neg not10]
    by_cases q3 : 12 < w
    · rw [if_pos (show (12 : Int32) < nI w from (nI_ltI (a := 12) (by decide) (by omega)).mpr q3), if_neg (by omega)]
    rw [if_neg (show ¬ (12 : Int32) < nI w from fun z => q3 ((nI_ltI (a := 12) (by decide) (by omega)).mp z))]
    by_cases q4 : pa < 6
    · rw [if_pos (show nI pa < (6 : Int32) from (nI_ltI (b := 6) (by omega) (by decide)).mpr q4), put_eq _ _ (by omega) (by omega), ob_some, put_eq _ _ (by omega) (by omega), ob_some, put_eq _ _ (by omega) (by omega), ob_some, nI_n1, if_pos (by omega)]
    · rw [if_neg (show ¬ nI pa < (6 : Int32) from fun z => q4 ((nI_ltI (b := 6) (by omega) (by decide)).mp z)), if_neg (by omega)]
  · rw [show f_X7_isHour (nI h) = some 0 from hasX_out (n := 24) (by decide) (Or.inr ⟨h, by omega, by omega, rfl⟩), ob_some, if_pos rfl, if_neg (by omega)]
theorem per_c {rn sr : Nat → Int32} {v sq pe : Nat} (hr0 : rn 0 = nI v) (hv : v < 100) (hsq : sq ≤ 9) (h1 : pe ≤ 5) : f_X3_acceptsPerson rn (nI sq) (nI pe) sr = some (if v < sq ∧ pe < 5 then (1, nI (pe + 1), upd sr pe (nI v)) else (0, nI pe, sr)) := by
  unfold f_X3_acceptsPerson
  rw [at3_0, ob_some, hr0]
  by_cases q2 : v < sq
  · rw [hasX_in q2 (by omega), ob_some, if_neg not10]
    by_cases q4 : pe < 5
    · rw [if_pos (show nI pe < (5 : Int32) from (nI_ltI (b := 5) (by omega) (by decide)).mpr q4), put_eq _ _ (by omega) (by omega), ob_some, nI_n1, if_pos (by omega)]
    · rw [if_neg (show ¬ nI pe < (5 : Int32) from fun z => q4 ((nI_ltI (b := 5) (by omega) (by decide)).mp z)), if_neg (by omega)]
  · rw [hasX_out (by omega) (Or.inr ⟨v, by omega, by omega, rfl⟩), ob_some, if_pos rfl, if_neg (by omega)]
theorem wrk_c {rn wq wr : Nat → Int32} {s h sq wo : Nat} (hr0 : rn 0 = nI s) (hr1 : rn 1 = nI h) (hs : s < 100) (hh : h < 100) (hsq : sq ≤ 9) (h1 : wo ≤ 6) : f_X3_acceptsWork rn (nI sq) (nI wo) wq wr = some (if s < sq ∧ h < 24 ∧ wo < 6 then (1, nI (wo + 1), upd wq wo (nI s), upd wr wo (nI h)) else (0, nI wo, wq, wr)) := by
  unfold f_X3_acceptsWork
  rw [at3_0, ob_some, at3_1, ob_some, hr0, hr1]
  by_cases q2 : s < sq
  · rw [hasX_in q2 (by omega), ob_some, if_neg not10]
    by_cases q3 : h < 24
    · rw [show f_X7_isHour (nI h) = some 1 from hasX_in (n := 24) q3 (by decide), ob_some, if_neg not10]
      by_cases q4 : wo < 6
      · rw [if_pos (show nI wo < (6 : Int32) from (nI_ltI (b := 6) (by omega) (by decide)).mpr q4), put_eq _ _ (by omega) (by omega), ob_some, put_eq _ _ (by omega) (by omega), ob_some, nI_n1, if_pos (by omega)]
      · rw [if_neg (show ¬ nI wo < (6 : Int32) from fun z => q4 ((nI_ltI (b := 6) (by omega) (by decide)).mp z)), if_neg (by omega)]
    · rw [show f_X7_isHour (nI h) = some 0 from hasX_out (n := 24) (by decide) (Or.inr ⟨h, by omega, by omega, rfl⟩), ob_some, if_pos rfl, if_neg (by omega)]
  · rw [hasX_out (by omega) (Or.inr ⟨s, by omega, by omega, rfl⟩), ob_some, if_pos rfl, if_neg (by omega)]
end ITEMC
