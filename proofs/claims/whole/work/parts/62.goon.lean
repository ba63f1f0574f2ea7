def CA (pa pe : Nat) (Sq Un : Nat → Nat) (a : AMt) (g t s d : Int32) (qh qw qs qu : Nat → Int32) : Prop := g = nI a.1 ∧ t = a.2.1 ∧ s = nI a.2.2.1 ∧ d = nI a.2.2.2.1 ∧ CM pa pe a.2.2.2.2.1 a.2.2.2.2.2 Sq Un qh qw qs qu
def MA (pa pe : Nat) (Sq Un : Nat → Nat) (a : AMt) (o : Nat → Int32) : Prop := MM pa pe a.2.2.2.2.1 a.2.2.2.2.2 Sq Un o ∧ o 0 = nI a.1 ∧ o 1 = a.2.1 ∧ o 2 = nI a.2.2.2.1 ∧ o 3 = nI a.2.2.1
def CK (pa : Nat) (K : Nat → Nat) (pk : Nat → Int32) : Prop := ∀ u, u < pa → pk u = nI (K u) ∧ K u < 4
theorem goOn_c {sq pa pe wo n : Nat} {K WS WH Sq Un : Nat → Nat} {a : AMt} {g t s d : Int32} {qh qw qs qu pk ws wh : Nat → Int32} (hc : CA pa pe Sq Un a g t s d qh qw qs qu) (hv : VA sq pa pe wo Sq Un a) (hk : CK pa K pk) (hw : CP wo WS WH ws wh) (hn : n ≤ 100) (hg : a.1 < 90000) :
    ∃ g' t' s' d' h' w', f_X1_goOn g t s d qh qw qs qu (nI pa) (nI pe) (nI wo) pk ws wh (nI n) = some (g', t', s', d', h', w') ∧ CA pa pe Sq Un (spGoN K WS WH Sq Un pa pe wo n a) g' t' s' d' h' w' qs qu := by
  unfold f_X1_goOn
  obtain ⟨z, e1, e2⟩ := loopI (fun nf (z : Int32 × Int32 × Int32 × Int32 × (Nat → Int32) × (Nat → Int32)) v => f_X1_goOn_L2 (nI n) qs qu (nI pe) (nI wo) ws wh (nI pa) pk (fun v1 g t s d h w => some (g, t, s, d, h, w)) nf v z.1 z.2.1 z.2.2.1 z.2.2.2.1 z.2.2.2.2.1 z.2.2.2.2.2) (fun z _ => some (z.1, z.2.1, z.2.2.1, z.2.2.2.1, z.2.2.2.2.1, z.2.2.2.2.2)) n (fun i z => CA pa pe Sq Un (spGoN K WS WH Sq Un pa pe wo i a) z.1 z.2.1 z.2.2.1 z.2.2.2.1 z.2.2.2.2.1 z.2.2.2.2.2 qs qu) (fun nf z hz => by
      show f_X1_goOn_L2 _ _ _ _ _ _ _ _ _ _ (nf + 1) _ _ _ _ _ _ _ = _
      rw [f_X1_goOn_L2_s, if_pos (lle (Nat.le_refl _) (by omega))]) (fun nf i z hi hz => by
      have hv' := VA.goN (K := K) (WS := WS) (WH := WH) hv i
      have hg' := goN_gone K WS WH Sq Un pa pe wo a i
      generalize hb : spGoN K WS WH Sq Un pa pe wo i a = b at hz hv' hg'
      obtain ⟨c1, c2, c3, c4, c5⟩ := hz
      have hS := hv'.S
      have hD := hv'.D hw.1
      obtain ⟨h', w', t1, t2⟩ := turnParasols_c (g := b.1) c5 hv'.1 hk (by omega)
      refine ⟨(nI (b.1 + 1), z.2.1 + nI (totM (spC b.2.2.2.2.1 Sq Un pe) pa), nI (spSt b.2.2.2.2.2 Sq Un pe b.2.2.1), nI (spDo b.2.2.2.2.1 b.2.2.2.2.2 Sq Un WS WH wo b.2.2.1 b.2.2.2.1 pe), h', w'), ?_, ?_⟩
      · show CA pa pe Sq Un (spGo K WS WH Sq Un pa pe wo (spGoN K WS WH Sq Un pa pe wo i a)) _ _ _ _ _ _ qs qu
        rw [hb]
        exact ⟨rfl, by show z.2.1 + _ = b.2.1 + _; rw [c2], rfl, rfl, t2⟩
      · show f_X1_goOn_L2 _ _ _ _ _ _ _ _ _ _ (nf + 1) _ _ _ _ _ _ _ = f_X1_goOn_L2 _ _ _ _ _ _ _ _ _ _ nf _ _ _ _ _ _ _
        rw [f_X1_goOn_L2_s, if_neg (nle hi (by omega)), c1, c3, c4, doWorks_c c5 hv'.1 hw hD (by omega), ob_some, appointments_c c5 hv'.1, ob_some, standStill_c c5 hv'.1, ob_some, t1, ob_some, nI_n1, nI_n1, tot_eq _ (spC_sym _ _ _ _)]) n 0 20000 (g, t, s, d, qh, qw) (by omega) (by omega) hc
  exact ⟨_, _, _, _, _, _, e2, e1⟩
theorem MA.goes {sq pa pe wo : Nat} {K WS WH Sq Un : Nat → Nat} {o m : Nat → Int32} {a : AMt} (hc : MA pa pe Sq Un a o) (hv : VA sq pa pe wo Sq Un a) (hm : MP sq pa pe wo K WS WH m) (hg : a.1 < 100000) : ∃ o', f_X8_goes m o = some o' ∧ MA pa pe Sq Un (spGo K WS WH Sq Un pa pe wo a) o' := by
  obtain ⟨c1, c2, c3, c4, c5⟩ := hc
  obtain ⟨o', e, f⟩ := goes_m c1 hv hm c2 c3 c4 c5 hg
  exact ⟨o', e, f⟩
theorem passL_m {sq pa pe wo n : Nat} {K WS WH Sq Un : Nat → Nat} {o m : Nat → Int32} {a : AMt} (hc : MA pa pe Sq Un a o) (hv : VA sq pa pe wo Sq Un a) (hm : MP sq pa pe wo K WS WH m) (hn : n ≤ 100) (hg : a.1 < 90000) (k : Int32 → (Nat → Int32) → Option (Int32 × Int32 × Int32 × (Nat → Int32) × (Nat → Int32) × (Nat → Int32))) : ∃ o', f_X8_pass_L22 (nI n) m k 20000 (nI 0) o = k (nI n) o' ∧ MA pa pe Sq Un (spGoN K WS WH Sq Un pa pe wo n a) o' := by
  obtain ⟨z, e1, e2⟩ := loopI (fun nf (z : Nat → Int32) v => f_X8_pass_L22 (nI n) m k nf v z) (fun z v => k v z) n (fun i z => MA pa pe Sq Un (spGoN K WS WH Sq Un pa pe wo i a) z) (fun nf z hz => by
      show f_X8_pass_L22 _ _ _ (nf + 1) _ _ = _
      rw [f_X8_pass_L22_s, if_pos (lle (Nat.le_refl _) (by omega))]) (fun nf i z hi hz => by
      obtain ⟨o', f1, f2⟩ := hz.goes (VA.goN hv i) hm (by rw [goN_gone]; omega)
      refine ⟨o', f2, ?_⟩
      show f_X8_pass_L22 _ _ _ (nf + 1) _ _ = f_X8_pass_L22 _ _ _ nf _ _
      rw [f_X8_pass_L22_s, if_neg (nle hi (by omega)), f1, ob_some, nI_n1]) n 0 20000 o (by omega) (by omega) hc
  exact ⟨z, e2, e1⟩
/-- the first 26 of a row -/
theorem copyNow_eq (f g : Nat → Int32) : f_X8_copyNow f g = some (cpy 26 f g) := by
  unfold f_X8_copyNow
  have e0 : g = (fun i => (fun j => if j < i then f j else g j : Nat → Int32)) 0 := by funext j; simp
  conv => lhs; rw [e0]
  refine (loopN (fun nf (s : Nat → Int32) v => f_X8_copyNow_L2 f (fun v1 m => some m) nf v s) (fun s _ => some s) 26 (fun i => (fun j => if j < i then f j else g j)) ?_ ?_ 20000 (by omega))
  · intro nf
    show f_X8_copyNow_L2 _ _ (nf + 1) _ _ = _
    rw [f_X8_copyNow_L2_s, if_pos (show (26 : Int32) ≤ nI 26 from lle (Nat.le_refl _) (by omega))]
  · intro nf i hi
    show f_X8_copyNow_L2 _ _ (nf + 1) _ _ = f_X8_copyNow_L2 _ _ nf _ _
    rw [f_X8_copyNow_L2_s, if_neg (show ¬ (26 : Int32) ≤ nI i from nle (b := 26) hi (by omega)), if_pos (okb_nI hi (by omega)), clN (by omega), nI_n1]
    congr 1
    funext j
    unfold upd
    by_cases hj : j = i
    · subst hj; rw [if_pos rfl, if_pos (by omega)]
    · rw [if_neg hj]
      show (if j < i then f j else g j) = _
      by_cases h : j < i
      · rw [if_pos h, if_pos (by omega)]
      · rw [if_neg h, if_neg (by omega)]
theorem MA.cong {pa pe : Nat} {Sq Un : Nat → Nat} {a : AMt} {o o' : Nat → Int32} (hpa : pa ≤ 6) (hpe : pe ≤ 5) (h : MA pa pe Sq Un a o) (he : ∀ k, k < 26 → o' k = o k) : MA pa pe Sq Un a o' := by
  obtain ⟨⟨c1, c2, c3, c4⟩, c5, c6, c7, c8⟩ := h
  exact ⟨⟨fun u hu => by rw [he _ (by omega)]; exact c1 u hu, fun u hu => by rw [he _ (by omega)]; exact c2 u hu, fun u hu => by rw [he _ (by omega)]; exact c3 u hu, fun u hu => by rw [he _ (by omega)]; exact c4 u hu⟩, by rw [he 0 (by omega)]; exact c5, by rw [he 1 (by omega)]; exact c6, by rw [he 2 (by omega)]; exact c7, by rw [he 3 (by omega)]; exact c8⟩
theorem cpy_at {n k : Nat} {f g : Nat → Int32} (h : k < n) : cpy n f g k = f k := if_pos h
theorem CA.cp {pa pe : Nat} {Sq Un : Nat → Nat} {a : AMt} {g t s d : Int32} {qh qw qs qu xh xw xs xu : Nat → Int32} (hpa : pa ≤ 6) (hpe : pe ≤ 5) (h : CA pa pe Sq Un a g t s d qh qw qs qu) : CA pa pe Sq Un a g t s d (cpy 6 qh xh) (cpy 6 qw xw) (cpy 5 qs xs) (cpy 5 qu xu) := by
  obtain ⟨c1, c2, c3, c4, c5, c6, c7, c8⟩ := h
  exact ⟨c1, c2, c3, c4, fun u hu => by rw [cpy_at (by omega)]; exact c5 u hu, fun u hu => by rw [cpy_at (by omega)]; exact c6 u hu, fun u hu => by rw [cpy_at (by omega)]; exact c7 u hu, fun u hu => by rw [cpy_at (by omega)]; exact c8 u hu⟩
