theorem updN {f : Nat → Int32} {g : Nat → Nat} {m x : Nat} (h : ∀ u, u < m → f u = nI (g u)) : ∀ u, u < m + 1 → upd f m (nI x) u = nI (setN g m x u) := by
  intro u hu
  by_cases q : u = m
  · subst q; rw [pk_us, setN_s]
  · rw [pk_un q, setN_n q]; exact h u (by omega)
section ITEMS
variable {n : Nat} {L : Nat → Nat} {yl ml : Int32} {yt mt : Nat → Int32}
theorem item_c (hT : IT n L yl ml yt mt) {i : Nat} (hi : i < 300) {r : RT} (hv : RV r) {rn : Nat → Int32} {sq pa pe wo : Int32} {kd wq wr ho wn sr : Nat → Int32} (hr : RC r (rn, sq, pa, pe, wo, kd, wq, wr, ho, wn, sr)) : (itm (lC n L) r i = none → ∃ z, f_X3_behindItem rn sq pa pe wo kd wq wr ho wn sr yl yt (nI i) = some (-4, z)) ∧ (∀ j r', itm (lC n L) r i = some (j, r') → ∃ z, f_X3_behindItem rn sq pa pe wo kd wq wr ho wn sr yl yt (nI i) = some (nI j, z) ∧ RC r' z) := by
  obtain ⟨v1, v2, v3, v4, v5, v6, v7⟩ := hv
  obtain ⟨r1, r2, r3, r4, r5, r6, r7, r8, r9, r10⟩ := hr
  have r1 : sq = nI r.sq := r1
  have r2 : pa = nI r.pa := r2
  have r3 : pe = nI r.pe := r3
  have r4 : wo = nI r.wo := r4
  subst r1 r2 r3 r4
  have hlt := lC_lt hT i
  unfold f_X3_behindItem
  rw [letterAt_c hT (by omega), ob_some]
  by_cases h1 : lC n L i = 113
  · rw [h1, show f_X3_numbersOf (nI 113) = some (nI 1) from by decide, ob_some, nI_n1]
    have hk := cL1 hT (i := i + 1) (by omega) (nI r.sq) (nI r.pa) (nI r.pe) (nI r.wo) kd wq wr ho wn sr rn
    unfold itm
    rw [if_pos h1]
    cases hn : numE (lC n L) (i + 1) 59 with
    | none => exact ⟨fun _ => (hk _).1 hn, fun j r' h => by cases (show (none : Option (Nat × RT)) = some (j, r') from h)⟩
    | some y =>
      obtain ⟨v, x⟩ := y
      have hv100 := (numE_lt hn).2.1
      rw [(hk _).2 v x hn, acc_q, sqs_c (by rw [pk_us]) hv100 v2 v3 v4]
      simp only [ob_some]
      by_cases q : 1 ≤ v ∧ v ≤ 9 ∧ r.pa + r.pe + r.wo = 0
      · rw [if_pos q, if_pos q]
        exact ⟨fun h => (by cases h), fun j r' h => by cases h; exact ⟨_, rfl, rfl, rfl, rfl, rfl, r5, r6, r7, r8, r9, r10⟩⟩
      · rw [if_neg q, if_neg q]
        exact ⟨fun h => ⟨_, rfl⟩, fun j r' h => by cases h⟩
  by_cases h2 : lC n L i = 117
  · rw [h2, show f_X3_numbersOf (nI 117) = some (nI 3) from by decide, ob_some, nI_n1]
    have hk := cL3 hT (i := i + 1) (by omega) (nI r.sq) (nI r.pa) (nI r.pe) (nI r.wo) kd wq wr ho wn sr rn
    unfold itm
    rw [if_neg h1, if_pos h2]
    cases hn : numE (lC n L) (i + 1) 44 with
    | none => exact ⟨fun _ => (hk _).1 hn, fun j r' h => by cases (show (none : Option (Nat × RT)) = some (j, r') from h)⟩
    | some y =>
      obtain ⟨k, x⟩ := y
      have hk100 := (numE_lt hn).2.1
      cases hn2 : numE (lC n L) x 44 with
      | none => exact ⟨fun _ => ((hk _).2 k x hn).1 hn2, fun j r' h => by rw [ob_some, hn2] at h; cases (show (none : Option (Nat × RT)) = some (j, r') from h)⟩
      | some y2 =>
        obtain ⟨h, x2⟩ := y2
        have hh100 := (numE_lt hn2).2.1
        cases hn3 : numE (lC n L) x2 59 with
        | none => exact ⟨fun _ => (((hk _).2 k x hn).2 h x2 hn2).1 hn3, fun j r' h => by rw [ob_some, hn2, ob_some, hn3] at h; cases (show (none : Option (Nat × RT)) = some (j, r') from h)⟩
        | some y3 =>
          obtain ⟨w, x3⟩ := y3
          have hw100 := (numE_lt hn3).2.1
          rw [(((hk _).2 k x hn).2 h x2 hn2).2 w x3 hn3, acc_u, pas_c (k := k) (h := h) (w := w) (by rw [pk_un (by omega), pk_un (by omega), pk_us]) (by rw [pk_un (by omega), pk_us]) (by rw [pk_us]) hk100 hh100 hw100 v2]
          simp only [ob_some, hn2, hn3]
          by_cases q : k ≤ 3 ∧ h < 24 ∧ w ≤ 12 ∧ r.pa < 6
          · rw [if_pos q, if_pos q]
            exact ⟨fun h => (by cases h), fun j r' h => by cases h; exact ⟨_, rfl, rfl, rfl, rfl, rfl, updN r5, r6, r7, updN r8, updN r9, r10⟩⟩
          · rw [if_neg q, if_neg q]
            exact ⟨fun h => ⟨_, rfl⟩, fun j r' h => by cases h⟩
  by_cases h3 : lC n L i = 112
  · rw [h3, show f_X3_numbersOf (nI 112) = some (nI 1) from by decide, ob_some, nI_n1]
    have hk := cL1 hT (i := i + 1) (by omega) (nI r.sq) (nI r.pa) (nI r.pe) (nI r.wo) kd wq wr ho wn sr rn
    unfold itm
    rw [if_neg h1, if_neg h2, if_pos h3]
    cases hn : numE (lC n L) (i + 1) 59 with
    | none => exact ⟨fun _ => (hk _).1 hn, fun j r' h => by cases (show (none : Option (Nat × RT)) = some (j, r') from h)⟩
    | some y =>
      obtain ⟨v, x⟩ := y
      have hv100 := (numE_lt hn).2.1
      rw [(hk _).2 v x hn, acc_p, per_c (v := v) (by rw [pk_us]) hv100 v1 v3]
      simp only [ob_some]
      by_cases q : v < r.sq ∧ r.pe < 5
      · rw [if_pos q, if_pos q]
        exact ⟨fun h => (by cases h), fun j r' h => by cases h; exact ⟨_, rfl, rfl, rfl, rfl, rfl, r5, r6, r7, r8, r9, updN r10⟩⟩
      · rw [if_neg q, if_neg q]
        exact ⟨fun h => ⟨_, rfl⟩, fun j r' h => by cases h⟩
  by_cases h4 : lC n L i = 119
  · rw [h4, show f_X3_numbersOf (nI 119) = some (nI 2) from by decide, ob_some, nI_n1]
    have hk := cL2 hT (i := i + 1) (by omega) (nI r.sq) (nI r.pa) (nI r.pe) (nI r.wo) kd wq wr ho wn sr rn
    unfold itm
    rw [if_neg h1, if_neg h2, if_neg h3, if_pos h4]
    cases hn : numE (lC n L) (i + 1) 44 with
    | none => exact ⟨fun _ => (hk _).1 hn, fun j r' h => by cases (show (none : Option (Nat × RT)) = some (j, r') from h)⟩
    | some y =>
      obtain ⟨s, x⟩ := y
      have hs100 := (numE_lt hn).2.1
      cases hn2 : numE (lC n L) x 59 with
      | none => exact ⟨fun _ => ((hk _).2 s x hn).1 hn2, fun j r' h => by rw [ob_some, hn2] at h; cases (show (none : Option (Nat × RT)) = some (j, r') from h)⟩
      | some y2 =>
        obtain ⟨h, x2⟩ := y2
        have hh100 := (numE_lt hn2).2.1
        rw [((hk _).2 s x hn).2 h x2 hn2, acc_w, wrk_c (s := s) (h := h) (by rw [pk_un (by omega), pk_us]) (by rw [pk_us]) hs100 hh100 v1 v4]
        simp only [ob_some, hn2]
        by_cases q : s < r.sq ∧ h < 24 ∧ r.wo < 6
        · rw [if_pos q, if_pos q]
          exact ⟨fun h => (by cases h), fun j r' h => by cases h; exact ⟨_, rfl, rfl, rfl, rfl, rfl, r5, updN r6, updN r7, r8, r9, r10⟩⟩
        · rw [if_neg q, if_neg q]
          exact ⟨fun h => ⟨_, rfl⟩, fun j r' h => by cases h⟩
  have hi1 : itm (lC n L) r i = none := by unfold itm; rw [if_neg h1, if_neg h2, if_neg h3, if_neg h4]
  rw [hi1, num_0 hlt h1 h2 h3 h4, ob_some]
  refine ⟨fun _ => ?_, fun j r' h => by cases h⟩
  rw [show f_X3_behindItem_L20 (0 : Int32) yl yt (nI r.sq) (nI r.pa) (nI r.pe) (nI r.wo) kd wq wr ho wn sr _ 20000 (nI i + 1) (0 : Int32) rn = _ from cLx 0 (by omega) _ _ _ _ _ _ _ _ _ _ rn _ 19999 _, acc_0 hlt h1 h2 h3 h4, ob_some]
  exact ⟨_, rfl⟩
-- the reference's numbers
theorem mstep (hT : IT n L yl ml yt mt) {i j c e : Nat} (hi : i < 900) (hj : j < c) (hc : c ≤ 3) (he : e = if j + 1 = c then 59 else 44) (td : Nat → Int32) (k : Int32 → Int32 → (Nat → Int32) → Option (Int32 × Int32 × (Nat → Int32))) (nf : Nat) : (numE (lC n L) i e = none → ∃ z, f_X8_readsNumbers_L2 (nI c) ml mt k (nf + 1) (nI j) (nI i) td = some (0, z)) ∧ (∀ v x, numE (lC n L) i e = some (v, x) → f_X8_readsNumbers_L2 (nI c) ml mt k (nf + 1) (nI j) (nI i) td = f_X8_readsNumbers_L2 (nI c) ml mt k nf (nI (j + 1)) (nI x) (upd td j (nI v))) := by
  have he0 : e ≠ 0 ∧ e ≠ 32 ∧ e < 127 := by rw [he]; split <;> omega
  rw [← numE_M he0.1 he0.2.1]
  have g0 := lM_lt hT i
  have g1 := lM_lt hT (i + 1)
  have g2 := lM_lt hT (i + 2)
  have hjc : ∀ {α : Type} (a b : α), (if nI j = nI c - (1 : Int32) then a else b) = if j + 1 = c then a else b := fun a b => by
    rw [show (1 : Int32) = nI 1 from rfl, pk_sub (by omega)]
    by_cases q : j + 1 = c
    · rw [if_pos q, if_pos (by rw [show c - 1 = j by omega])]
    · rw [if_neg q, if_neg (fun z => q (by have := (eqN (by omega) (by omega)).mp z; omega))]
  have hend : ∀ {α : Type} (p : Nat) (a b : α), p < 127 → (if j + 1 = c then (if nI p = (59 : Int32) then a else b) else (if nI p = (44 : Int32) then a else b)) = if p = e then a else b := fun p a b hp => by
    rw [he]
    by_cases q : j + 1 = c
    · rw [if_pos q, if_pos q]
      by_cases q2 : p = 59
      · rw [if_pos q2, if_pos (by rw [q2]; rfl)]
      · rw [if_neg q2, if_neg (show ¬ nI p = (59 : Int32) from fun z => q2 ((eqN (b := 59) (by omega) (by omega)).mp z))]
    · rw [if_neg q, if_neg q]
      by_cases q2 : p = 44
      · rw [if_pos q2, if_pos (by rw [q2]; rfl)]
      · rw [if_neg q2, if_neg (show ¬ nI p = (44 : Int32) from fun z => q2 ((eqN (b := 44) (by omega) (by omega)).mp z))]
  have hL : f_X8_readsNumbers_L2 (nI c) ml mt k (nf + 1) (nI j) (nI i) td = if fig (lM n L i) = true then (if fig (lM n L (i + 1)) = true then (if lM n L (i + 2) = e then f_X8_readsNumbers_L2 (nI c) ml mt k nf (nI (j + 1)) (nI (i + 3)) (upd td j (nI (10 * (lM n L i - 48) + (lM n L (i + 1) - 48)))) else some (0, nI (i + 2), upd td j (nI (10 * (lM n L i - 48) + (lM n L (i + 1) - 48))))) else (if lM n L (i + 1) = e then f_X8_readsNumbers_L2 (nI c) ml mt k nf (nI (j + 1)) (nI (i + 2)) (upd td j (nI (lM n L i - 48))) else some (0, nI (i + 1), upd td j (nI (lM n L i - 48))))) else some (0, nI i, td) := by
    rw [f_X8_readsNumbers_L2_s, if_neg (nle hj (by omega)), letterAt_m hT (by omega), ob_some, fig_m _ g0, ob_some]
    by_cases f1 : fig (lM n L i) = true
    · have b1 := figv f1
      rw [if_pos f1, if_neg not10, if_pos f1, ob_some, nI_n1, letterAt_m hT (by omega), ob_some, fig_m _ g1, ob_some]
      by_cases f2 : fig (lM n L (i + 1)) = true
      · have b2 := figv f2
        rw [if_pos f2, if_neg not10, if_pos f2, ob_some, if_pos (okb_nI (by omega) (by omega)), nI_n1, letterAt_m hT (by omega), ob_some, hjc, nI_n1, nI_n1, clN (by omega), show (48 : Int32) = nI 48 from rfl, pk_sub (by omega), show (10 : Int32) = nI 10 from rfl, pk_mul, nI_add, pk_sub (by omega), hend _ _ _ (show lM n L (i + 1 + 1) < 127 from g2), show 10 * (lM n L i - 48) + lM n L (i + 1) - 48 = 10 * (lM n L i - 48) + (lM n L (i + 1) - 48) by omega]
      · rw [if_neg f2, if_pos rfl, if_neg f2, if_pos (okb_nI (by omega) (by omega)), ob_some, hjc, nI_n1, nI_n1, clN (by omega), show (48 : Int32) = nI 48 from rfl, pk_sub (by omega), hend _ _ _ g1]
    · rw [if_neg f1, if_pos rfl, if_neg f1]
  rw [hL]
  unfold numE
  by_cases f1 : fig (lM n L i) = true
  · rw [if_pos f1, if_pos f1]
    by_cases f2 : fig (lM n L (i + 1)) = true
    · rw [if_pos f2, if_pos f2]
      by_cases q : lM n L (i + 2) = e
      · rw [if_pos q, if_pos q]
        exact ⟨fun h => (by cases h), fun v x h => by cases h; rfl⟩
      · rw [if_neg q, if_neg q]
        exact ⟨fun _ => ⟨_, rfl⟩, fun v x h => by cases h⟩
    · rw [if_neg f2, if_neg f2]
      by_cases q : lM n L (i + 1) = e
      · rw [if_pos q, if_pos q]
        exact ⟨fun h => (by cases h), fun v x h => by cases h; rfl⟩
      · rw [if_neg q, if_neg q]
        exact ⟨fun _ => ⟨_, rfl⟩, fun v x h => by cases h⟩
  · rw [if_neg f1, if_neg f1]
    exact ⟨fun _ => ⟨_, rfl⟩, fun v x h => by cases h⟩
end ITEMS
