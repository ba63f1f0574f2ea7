section ITEMM
variable {n : Nat} {L : Nat → Nat} {yl ml : Int32} {yt mt : Nat → Int32}
theorem mLx (c : Nat) (hc : c < 10) (td : Nat → Int32) (k : Int32 → Int32 → (Nat → Int32) → Option (Int32 × Int32 × (Nat → Int32))) (nf : Nat) (x : Int32) : f_X8_readsNumbers_L2 (nI c) ml mt k (nf + 1) (nI c) x td = k (nI c) x td := by
  rw [f_X8_readsNumbers_L2_s, if_pos (lle (Nat.le_refl _) (by omega))]
theorem mL1 (hT : IT n L yl ml yt mt) {i : Nat} (hi : i < 800) (td : Nat → Int32) : (numE (lC n L) i 59 = none → ∃ z, f_X8_readsNumbers ml (nI i) mt td 1 = some (0, z)) ∧ (∀ v x, numE (lC n L) i 59 = some (v, x) → f_X8_readsNumbers ml (nI i) mt td 1 = some (1, nI x, upd td 0 (nI v))) := by
  unfold f_X8_readsNumbers
  obtain ⟨s1, s2⟩ := mstep hT (i := i) (j := 0) (c := 1) (e := 59) (by omega) (by omega) (by omega) rfl td (fun v1 m_readAt_2 m_told_3 => some ((1 : Int32), m_readAt_2, m_told_3)) 19999
  exact ⟨fun h => s1 h, fun v x h => (s2 v x h).trans (mLx 1 (by omega) _ _ 19998 _)⟩
theorem mL2 (hT : IT n L yl ml yt mt) {i : Nat} (hi : i < 800) (td : Nat → Int32) : (numE (lC n L) i 44 = none → ∃ z, f_X8_readsNumbers ml (nI i) mt td 2 = some (0, z)) ∧ (∀ v x, numE (lC n L) i 44 = some (v, x) → (numE (lC n L) x 59 = none → ∃ z, f_X8_readsNumbers ml (nI i) mt td 2 = some (0, z)) ∧ (∀ v2 x2, numE (lC n L) x 59 = some (v2, x2) → f_X8_readsNumbers ml (nI i) mt td 2 = some (1, nI x2, upd (upd td 0 (nI v)) 1 (nI v2)))) := by
  unfold f_X8_readsNumbers
  obtain ⟨s1, s2⟩ := mstep hT (i := i) (j := 0) (c := 2) (e := 44) (by omega) (by omega) (by omega) rfl td (fun v1 m_readAt_2 m_told_3 => some ((1 : Int32), m_readAt_2, m_told_3)) 19999
  refine ⟨fun h => s1 h, fun v x h => ?_⟩
  have hx := (numE_lt h).2.2.2
  have e1 := s2 v x h
  obtain ⟨t1, t2⟩ := mstep hT (i := x) (j := 1) (c := 2) (e := 59) (by omega) (by omega) (by omega) rfl (upd td 0 (nI v)) (fun v1 m_readAt_2 m_told_3 => some ((1 : Int32), m_readAt_2, m_told_3)) 19998
  refine ⟨fun h' => ?_, fun v2 x2 h' => e1.trans ((t2 v2 x2 h').trans (mLx 2 (by omega) _ _ 19997 _))⟩
  obtain ⟨z, hz⟩ := t1 h'
  exact ⟨z, e1.trans hz⟩
theorem mL3 (hT : IT n L yl ml yt mt) {i : Nat} (hi : i < 800) (td : Nat → Int32) : (numE (lC n L) i 44 = none → ∃ z, f_X8_readsNumbers ml (nI i) mt td 3 = some (0, z)) ∧ (∀ v x, numE (lC n L) i 44 = some (v, x) → (numE (lC n L) x 44 = none → ∃ z, f_X8_readsNumbers ml (nI i) mt td 3 = some (0, z)) ∧ (∀ v2 x2, numE (lC n L) x 44 = some (v2, x2) → (numE (lC n L) x2 59 = none → ∃ z, f_X8_readsNumbers ml (nI i) mt td 3 = some (0, z)) ∧ (∀ v3 x3, numE (lC n L) x2 59 = some (v3, x3) → f_X8_readsNumbers ml (nI i) mt td 3 = some (1, nI x3, upd (upd (upd td 0 (nI v)) 1 (nI v2)) 2 (nI v3))))) := by
  unfold f_X8_readsNumbers
  obtain ⟨s1, s2⟩ := mstep hT (i := i) (j := 0) (c := 3) (e := 44) (by omega) (by omega) (by omega) rfl td (fun v1 m_readAt_2 m_told_3 => some ((1 : Int32), m_readAt_2, m_told_3)) 19999
  refine ⟨fun h => s1 h, fun v x h => ?_⟩
  have hx := (numE_lt h).2.2.2
  have e1 := s2 v x h
  obtain ⟨t1, t2⟩ := mstep hT (i := x) (j := 1) (c := 3) (e := 44) (by omega) (by omega) (by omega) rfl (upd td 0 (nI v)) (fun v1 m_readAt_2 m_told_3 => some ((1 : Int32), m_readAt_2, m_told_3)) 19998
  refine ⟨fun h' => ?_, fun v2 x2 h' => ?_⟩
  · obtain ⟨z, hz⟩ := t1 h'
    exact ⟨z, e1.trans hz⟩
  have hx2 := (numE_lt h').2.2.2
  have e2 := t2 v2 x2 h'
  obtain ⟨u1, u2⟩ := mstep hT (i := x2) (j := 2) (c := 3) (e := 59) (by omega) (by omega) (by omega) rfl (upd (upd td 0 (nI v)) 1 (nI v2)) (fun v1 m_readAt_2 m_told_3 => some ((1 : Int32), m_readAt_2, m_told_3)) 19997
  refine ⟨fun h'' => ?_, fun v3 x3 h'' => e1.trans (e2.trans ((u2 v3 x3 h'').trans (mLx 3 (by omega) _ _ 19996 _)))⟩
  obtain ⟨z, hz⟩ := u1 h''
  exact ⟨z, e1.trans (e2.trans hz)⟩
theorem in_dec {a b c : Nat} (ha : a < 1000) (hb : b < 1000) (hc : c < 1000) : f_X8_in (nI a) (nI b) (nI c) = some (if b ≤ a ∧ a ≤ c then 1 else 0) := by
  by_cases q : b ≤ a ∧ a ≤ c
  · rw [if_pos q, in_N q.1 q.2 (by omega)]
  · rw [if_neg q, in_N0 (by omega) (by omega) (by omega) (by omega)]
theorem in_sq {a s : Nat} (ha : a < 1000) (hs : s ≤ 9) : f_X8_in (nI a) 0 (nI s - 1) = some (if a < s then 1 else 0) := by
  by_cases q : a < s
  · rw [if_pos q, inX_in q (by omega)]
  · rw [if_neg q, inX_out (by omega) (Or.inr ⟨a, by omega, by omega, rfl⟩)]
theorem lM_cases (c : Nat) (h0 : c ≠ 0) (h32 : c ≠ 32) (i : Nat) : (nI (lM n L i) = nI c ∧ lM n L i = c) → lC n L i = c := fun h => (lM_eq h0 h32).mp h.2
theorem item_m (hT : IT n L yl ml yt mt) {i : Nat} (hi : i < 300) {r : RT} (hv : RV r) {lw nw : Nat → Int32} (hr : RM r lw nw) (td : Nat → Int32) : (itm (lC n L) r i = none → ∃ z, f_X8_readsItem ml (nI i) mt td lw nw = some (0, z)) ∧ (∀ j r', itm (lC n L) r i = some (j, r') → ∃ td' lw' nw', f_X8_readsItem ml (nI i) mt td lw nw = some (1, nI j, td', lw', nw') ∧ RM r' lw' nw') := by
  obtain ⟨v1, v2, v3, v4, v5, v6, v7⟩ := hv
  obtain ⟨r1, r2, r3, r4, r5, r6, r7, r8, r9, r10, r11⟩ := hr
  have hlt := lM_lt hT i
  unfold f_X8_readsItem
  rw [letterAt_m hT (by omega), ob_some, nI_n1]
  by_cases h1 : lC n L i = 113
  · have h1' := (lM_eq (n := n) (L := L) (i := i) (e := 113) (by omega) (by omega)).mpr h1
    rw [h1', if_neg c113_112, if_pos (show nI 113 = (113 : Int32) from rfl)]
    have hk := mL1 hT (i := i + 1) (by omega) td
    unfold f_X8_readsSquares itm
    rw [if_pos h1]
    cases hn : numE (lC n L) (i + 1) 59 with
    | none =>
      obtain ⟨z, hz⟩ := hk.1 hn
      exact ⟨fun _ => ⟨_, by rw [hz]; rfl⟩, fun j r' h => by cases (show (none : Option (Nat × RT)) = some (j, r') from h)⟩
    | some y =>
      obtain ⟨v, x⟩ := y
      have hv100 := (numE_lt hn).2.1
      rw [hk.2 v x hn, ob_some, ob_some]
      simp only
      rw [if_neg not10, cl0, pk_us, show f_X8_in (nI v) 1 9 = _ from in_dec (b := 1) (c := 9) (by omega) (by omega) (by omega), ob_some, cl1, cl2, cl3, r2, r3, r4, nI_add, nI_add]
      by_cases q : 1 ≤ v ∧ v ≤ 9 ∧ r.pa + r.pe + r.wo = 0
      · rw [if_pos q, if_pos (⟨q.1, q.2.1⟩ : 1 ≤ v ∧ v ≤ 9), if_neg not10, if_pos (show nI (r.pa + r.pe + r.wo) ≤ (0 : Int32) from lle (b := 0) (by omega) (by omega)), ob_some]
        simp only
        rw [if_pos okz1]
        refine ⟨fun h => (by cases h), fun j r' h => ?_⟩
        cases h
        refine ⟨_, _, _, rfl, pk_us, ?_, ?_, ?_, fun u hu => ?_, fun u hu => ?_, fun u hu => ?_, r8, r9, r10, r11⟩
        · rw [pk_un (by omega)]; exact r2
        · rw [pk_un (by omega)]; exact r3
        · rw [pk_un (by omega)]; exact r4
        · rw [pk_un (by omega)]; exact r5 u hu
        · rw [pk_un (by omega)]; exact r6 u hu
        · rw [pk_un (by omega)]; exact r7 u hu
      · rw [if_neg q]
        refine ⟨fun _ => ?_, fun j r' h => (by cases h)⟩
        by_cases q2 : 1 ≤ v ∧ v ≤ 9
        · rw [if_pos q2, if_neg not10, if_neg (show ¬ nI (r.pa + r.pe + r.wo) ≤ (0 : Int32) from nle (a := 0) (by omega) (by omega)), ob_some]
          first | exact ⟨_, rfl⟩ | exact ⟨_, if_pos okz0⟩
        · rw [if_neg q2, if_pos rfl, ob_some]
          first | exact ⟨_, rfl⟩ | exact ⟨_, if_pos okz0⟩
  by_cases h2 : lC n L i = 117
  · have h2' := (lM_eq (n := n) (L := L) (i := i) (e := 117) (by omega) (by omega)).mpr h2
    rw [h2', if_neg c117_112, if_neg c117_113, if_neg (show ¬ nI 117 = (114 : Int32) by decide), if_neg (show ¬ nI 117 = (115 : Int32) by decide), if_neg (show ¬ nI 117 = (116 : Int32) by decide), if_pos (show nI 117 = (117 : Int32) from rfl)]
    have hk := mL3 hT (i := i + 1) (by omega) td
    unfold f_X8_readsParasol itm
    rw [if_neg h1, if_pos h2, cl1, r2]
    by_cases q6 : r.pa = 6
    · rw [if_pos (show nI r.pa = (6 : Int32) by rw [q6]; rfl), ob_some]
      refine ⟨fun _ => ⟨_, rfl⟩, fun j r' h => ?_⟩
      obtain ⟨y, -, h⟩ := op_bind h
      obtain ⟨y2, -, h⟩ := op_bind h
      obtain ⟨y3, -, h⟩ := op_bind h
      obtain ⟨q, h⟩ := op_ob h
      omega
    rw [if_neg (show ¬ nI r.pa = (6 : Int32) from fun z => q6 ((eqN (b := 6) (by omega) (by omega)).mp z))]
    cases hn : numE (lC n L) (i + 1) 44 with
    | none =>
      obtain ⟨z, hz⟩ := hk.1 hn
      exact ⟨fun _ => ⟨_, by rw [hz]; rfl⟩, fun j r' h => by cases (show (none : Option (Nat × RT)) = some (j, r') from h)⟩
    | some y =>
      obtain ⟨k, x⟩ := y
      have hk100 := (numE_lt hn).2.1
      cases hn2 : numE (lC n L) x 44 with
      | none =>
        obtain ⟨z, hz⟩ := (hk.2 k x hn).1 hn2
        exact ⟨fun _ => ⟨_, by rw [hz]; rfl⟩, fun j r' h => by rw [ob_some, hn2] at h; cases (show (none : Option (Nat × RT)) = some (j, r') from h)⟩
      | some y2 =>
        obtain ⟨h, x2⟩ := y2
        have hh100 := (numE_lt hn2).2.1
        cases hn3 : numE (lC n L) x2 59 with
        | none =>
          obtain ⟨z, hz⟩ := ((hk.2 k x hn).2 h x2 hn2).1 hn3
          exact ⟨fun _ => ⟨_, by rw [hz]; rfl⟩, fun j r' h => by rw [ob_some, hn2, ob_some, hn3] at h; cases (show (none : Option (Nat × RT)) = some (j, r') from h)⟩
        | some y3 =>
          obtain ⟨w, x3⟩ := y3
          have hw100 := (numE_lt hn3).2.1
          rw [((hk.2 k x hn).2 h x2 hn2).2 w x3 hn3]
          simp only [ob_some, hn2, hn3]
          rw [if_neg not10, cl0, cl2, pk_un (show (0 : Nat) ≠ 2 by omega), pk_un (show (0 : Nat) ≠ 1 by omega), pk_us, pk_un (show (1 : Nat) ≠ 2 by omega), pk_us, pk_us, show f_X8_in (nI k) 0 3 = _ from in_dec (b := 0) (c := 3) (by omega) (by omega) (by omega), show f_X8_in (nI h) 0 23 = _ from in_dec (b := 0) (c := 23) (by omega) (by omega) (by omega), show f_X8_in (nI w) 0 12 = _ from in_dec (b := 0) (c := 12) (by omega) (by omega) (by omega), ob_some, ob_some, ob_some, a4, a10, if_pos (okb_nI (show 4 + r.pa < 22 by omega) (by omega)), if_pos (okb_nI (show 4 + r.pa < 26 by omega) (by omega)), if_pos (okb_nI (show 10 + r.pa < 26 by omega) (by omega)), clN (by omega), clN (by omega), pk_un (show (1 : Nat) ≠ 4 + r.pa by omega), r2, nI_n1]
          by_cases q : k ≤ 3 ∧ h < 24 ∧ w ≤ 12 ∧ r.pa < 6
          · rw [if_pos q, if_pos (⟨by omega, q.1⟩ : 0 ≤ k ∧ k ≤ 3), if_neg not10, if_pos (⟨by omega, by omega⟩ : 0 ≤ h ∧ h ≤ 23), if_neg not10, if_pos (⟨by omega, by omega⟩ : 0 ≤ w ∧ w ≤ 12), if_neg not10, ob_some]
            simp only
            rw [if_pos okz1]
            refine ⟨fun h => (by cases h), fun j r' h => ?_⟩
            cases h
            refine ⟨_, _, _, rfl, ?_, pk_us, ?_, ?_, fun u hu => ?_, fun u hu => ?_, fun u hu => ?_, fun u hu => ?_, fun u hu => ?_, fun u hu => ?_, fun u hu => ?_⟩
            · rw [pk_un (by omega), pk_un (by omega)]; exact r1
            · rw [pk_un (by omega), pk_un (by omega)]; exact r3
            · rw [pk_un (by omega), pk_un (by omega)]; exact r4
            · have hu : u < r.pa + 1 := hu
              show _ = nI (setN r.K r.pa k u)
              rw [pk_un (by omega)]
              by_cases hup : u = r.pa
              · subst hup; rw [pk_us, setN_s]
              · rw [pk_un (by omega), setN_n hup]; exact r5 u (by omega)
            · have hu : u < r.wo := hu
              rw [pk_un (by omega), pk_un (by omega)]; exact r6 u hu
            · have hu : u < r.wo := hu
              rw [pk_un (by omega), pk_un (by omega)]; exact r7 u hu
            · have hu : u < r.pa + 1 := hu
              show _ = nI (setN r.Ho r.pa _ u)
              rw [pk_un (by omega)]
              by_cases hup : u = r.pa
              · subst hup; rw [pk_us, setN_s]
              · rw [pk_un (by omega), setN_n hup]; exact r8 u (by omega)
            · have hu : u < r.pa + 1 := hu
              show _ = nI (setN r.Wo r.pa _ u)
              by_cases hup : u = r.pa
              · subst hup; rw [pk_us, setN_s]
              · rw [pk_un (by omega), pk_un (by omega), setN_n hup]; exact r9 u (by omega)
            · have hu : u < r.pe := hu
              rw [pk_un (by omega), pk_un (by omega)]; exact r10 u hu
            · rw [pk_un (by omega), pk_un (by omega)]; exact r11 u hu
          · rw [if_neg q]
            refine ⟨fun _ => ?_, fun j r' h => (by cases h)⟩
            by_cases q2 : 0 ≤ k ∧ k ≤ 3
            · rw [if_pos q2, if_neg not10]
              by_cases q3 : 0 ≤ h ∧ h ≤ 23
              · rw [if_pos q3, if_neg not10, if_neg (show ¬ (0 ≤ w ∧ w ≤ 12) by omega), if_pos rfl, ob_some]
                first | exact ⟨_, rfl⟩ | exact ⟨_, if_pos okz0⟩
              · rw [if_neg q3, if_pos rfl, ob_some]
                first | exact ⟨_, rfl⟩ | exact ⟨_, if_pos okz0⟩
            · rw [if_neg q2, if_pos rfl, ob_some]
              first | exact ⟨_, rfl⟩ | exact ⟨_, if_pos okz0⟩
  by_cases h3 : lC n L i = 112
  · have h3' := (lM_eq (n := n) (L := L) (i := i) (e := 112) (by omega) (by omega)).mpr h3
    rw [h3', if_pos (show nI 112 = (112 : Int32) from rfl)]
    have hk := mL1 hT (i := i + 1) (by omega) td
    unfold f_X8_readsPerson itm
    rw [if_neg h1, if_neg h2, if_pos h3, cl2, r3]
    by_cases q5 : r.pe = 5
    · rw [if_pos (show nI r.pe = (5 : Int32) by rw [q5]; rfl), ob_some]
      refine ⟨fun _ => ⟨_, rfl⟩, fun j r' h => ?_⟩
      obtain ⟨y, -, h⟩ := op_bind h
      obtain ⟨q, h⟩ := op_ob h
      omega
    rw [if_neg (show ¬ nI r.pe = (5 : Int32) from fun z => q5 ((eqN (b := 5) (by omega) (by omega)).mp z))]
    cases hn : numE (lC n L) (i + 1) 59 with
    | none =>
      obtain ⟨z, hz⟩ := hk.1 hn
      exact ⟨fun _ => ⟨_, by rw [hz]; rfl⟩, fun j r' h => by cases (show (none : Option (Nat × RT)) = some (j, r') from h)⟩
    | some y =>
      obtain ⟨v, x⟩ := y
      have hv100 := (numE_lt hn).2.1
      rw [hk.2 v x hn, ob_some, ob_some]
      simp only
      rw [if_neg not10, cl0, pk_us, r1, in_sq (by omega) v1, ob_some, a16, if_pos (okb_nI (show 16 + r.pe < 26 by omega) (by omega)), clN (by omega), nI_n1]
      by_cases q : v < r.sq ∧ r.pe < 5
      · rw [if_pos q, if_pos q.1, if_neg not10, ob_some]
        simp only
        rw [if_pos okz1]
        refine ⟨fun h => (by cases h), fun j r' h => ?_⟩
        cases h
        refine ⟨_, _, _, rfl, ?_, ?_, pk_us, ?_, fun u hu => ?_, fun u hu => ?_, fun u hu => ?_, fun u hu => ?_, fun u hu => ?_, fun u hu => ?_, fun u hu => ?_⟩
        · rw [pk_un (by omega)]; exact r1
        · rw [pk_un (by omega)]; exact r2
        · rw [pk_un (by omega)]; exact r4
        · rw [pk_un (by omega)]; exact r5 u hu
        · rw [pk_un (by omega)]; exact r6 u hu
        · rw [pk_un (by omega)]; exact r7 u hu
        · have hu : u < r.pa := hu
          rw [pk_un (by omega)]; exact r8 u hu
        · have hu : u < r.pa := hu
          rw [pk_un (by omega)]; exact r9 u hu
        · have hu : u < r.pe + 1 := hu
          show _ = nI (setN r.Sq r.pe v u)
          by_cases hup : u = r.pe
          · subst hup; rw [pk_us, setN_s]
          · rw [pk_un (by omega), setN_n hup]; exact r10 u (by omega)
        · rw [pk_un (by omega)]; exact r11 u hu
      · rw [if_neg q, if_neg (show ¬ v < r.sq by omega), if_pos rfl, ob_some]
        exact ⟨fun _ => (by first | exact ⟨_, rfl⟩ | exact ⟨_, if_pos okz0⟩), fun j r' h => (by cases h)⟩
  by_cases h4 : lC n L i = 119
  · have h4' := (lM_eq (n := n) (L := L) (i := i) (e := 119) (by omega) (by omega)).mpr h4
    rw [h4', if_neg c119_112, if_neg c119_113, if_neg (show ¬ nI 119 = (114 : Int32) by decide), if_neg (show ¬ nI 119 = (115 : Int32) by decide), if_neg (show ¬ nI 119 = (116 : Int32) by decide), if_neg c119_117, if_neg (show ¬ nI 119 = (118 : Int32) by decide), if_pos (show nI 119 = (119 : Int32) from rfl)]
    have hk := mL2 hT (i := i + 1) (by omega) td
    unfold f_X8_readsWork itm
    rw [if_neg h1, if_neg h2, if_neg h3, if_pos h4, cl3, r4]
    by_cases q6 : r.wo = 6
    · rw [if_pos (show nI r.wo = (6 : Int32) by rw [q6]; rfl), ob_some]
      refine ⟨fun _ => ⟨_, rfl⟩, fun j r' h => ?_⟩
      obtain ⟨y, -, h⟩ := op_bind h
      obtain ⟨y2, -, h⟩ := op_bind h
      obtain ⟨q, h⟩ := op_ob h
      omega
    rw [if_neg (show ¬ nI r.wo = (6 : Int32) from fun z => q6 ((eqN (b := 6) (by omega) (by omega)).mp z))]
    cases hn : numE (lC n L) (i + 1) 44 with
    | none =>
      obtain ⟨z, hz⟩ := hk.1 hn
      exact ⟨fun _ => ⟨_, by rw [hz]; rfl⟩, fun j r' h => by cases (show (none : Option (Nat × RT)) = some (j, r') from h)⟩
    | some y =>
      obtain ⟨s, x⟩ := y
      have hs100 := (numE_lt hn).2.1
      cases hn2 : numE (lC n L) x 59 with
      | none =>
        obtain ⟨z, hz⟩ := (hk.2 s x hn).1 hn2
        exact ⟨fun _ => ⟨_, by rw [hz]; rfl⟩, fun j r' h => by rw [ob_some, hn2] at h; cases (show (none : Option (Nat × RT)) = some (j, r') from h)⟩
      | some y2 =>
        obtain ⟨h, x2⟩ := y2
        have hh100 := (numE_lt hn2).2.1
        rw [(hk.2 s x hn).2 h x2 hn2]
        simp only [ob_some, hn2]
        rw [if_neg not10, cl0, cl1, pk_un (show (0 : Nat) ≠ 1 by omega), pk_us, pk_us, r1, in_sq (by omega) v1, ob_some, show f_X8_in (nI h) 0 23 = _ from in_dec (b := 0) (c := 23) (by omega) (by omega) (by omega), ob_some, a10, a16, if_pos (okb_nI (show 10 + r.wo < 22 by omega) (by omega)), if_pos (okb_nI (show 16 + r.wo < 22 by omega) (by omega)), clN (by omega), clN (by omega), pk_un (show (3 : Nat) ≠ 16 + r.wo by omega), pk_un (show (3 : Nat) ≠ 10 + r.wo by omega), r4, nI_n1]
        by_cases q : s < r.sq ∧ h < 24 ∧ r.wo < 6
        · rw [if_pos q, if_pos q.1, if_neg not10, if_pos (⟨by omega, by omega⟩ : 0 ≤ h ∧ h ≤ 23), if_neg not10, ob_some]
          simp only
          rw [if_pos okz1]
          refine ⟨fun h => (by cases h), fun j r' h => ?_⟩
          cases h
          refine ⟨_, _, _, rfl, ?_, ?_, ?_, pk_us, fun u hu => ?_, fun u hu => ?_, fun u hu => ?_, r8, r9, r10, r11⟩
          · rw [pk_un (by omega), pk_un (by omega), pk_un (by omega)]; exact r1
          · rw [pk_un (by omega), pk_un (by omega), pk_un (by omega)]; exact r2
          · rw [pk_un (by omega), pk_un (by omega), pk_un (by omega)]; exact r3
          · have hu : u < r.pa := hu
            rw [pk_un (by omega), pk_un (by omega), pk_un (by omega)]; exact r5 u hu
          · have hu : u < r.wo + 1 := hu
            show _ = nI (setN r.WS r.wo s u)
            rw [pk_un (by omega), pk_un (by omega)]
            by_cases hup : u = r.wo
            · subst hup; rw [pk_us, setN_s]
            · rw [pk_un (by omega), setN_n hup]; exact r6 u (by omega)
          · have hu : u < r.wo + 1 := hu
            show _ = nI (setN r.WH r.wo _ u)
            rw [pk_un (by omega)]
            by_cases hup : u = r.wo
            · subst hup; rw [pk_us, setN_s]
            · rw [pk_un (by omega), pk_un (by omega), setN_n hup]; exact r7 u (by omega)
        · rw [if_neg q]
          refine ⟨fun _ => ?_, fun j r' h => (by cases h)⟩
          by_cases q2 : s < r.sq
          · rw [if_pos q2, if_neg not10, if_neg (show ¬ (0 ≤ h ∧ h ≤ 23) by omega), if_pos rfl, ob_some]
            first | exact ⟨_, rfl⟩ | exact ⟨_, if_pos okz0⟩
          · rw [if_neg q2, if_pos rfl, ob_some]
            first | exact ⟨_, rfl⟩ | exact ⟨_, if_pos okz0⟩
  have hi1 : itm (lC n L) r i = none := by unfold itm; rw [if_neg h1, if_neg h2, if_neg h3, if_neg h4]
  rw [hi1]
  refine ⟨fun _ => ?_, fun j r' h => (by cases h)⟩
  have ne : ∀ c : Nat, c ≠ 0 → c ≠ 32 → c < 1000 → lC n L i ≠ c → ¬ nI (lM n L i) = nI c := fun c h0 h32 hc h z => h ((lM_eq h0 h32).mp ((eqN (by omega) (by omega)).mp z))
  rw [if_neg (show ¬ nI (lM n L i) = (112 : Int32) from ne 112 (by omega) (by omega) (by omega) h3), if_neg (show ¬ nI (lM n L i) = (113 : Int32) from ne 113 (by omega) (by omega) (by omega) h1)]
  by_cases p1 : nI (lM n L i) = (114 : Int32)
  · rw [if_pos p1]; exact ⟨_, rfl⟩
  rw [if_neg p1]
  by_cases p2 : nI (lM n L i) = (115 : Int32)
  · rw [if_pos p2]; exact ⟨_, rfl⟩
  rw [if_neg p2]
  by_cases p3 : nI (lM n L i) = (116 : Int32)
  · rw [if_pos p3]; exact ⟨_, rfl⟩
  rw [if_neg p3, if_neg (show ¬ nI (lM n L i) = (117 : Int32) from ne 117 (by omega) (by omega) (by omega) h2)]
  by_cases p4 : nI (lM n L i) = (118 : Int32)
  · rw [if_pos p4]; exact ⟨_, rfl⟩
  rw [if_neg p4, if_neg (show ¬ nI (lM n L i) = (119 : Int32) from ne 119 (by omega) (by omega) (by omega) h4)]
  exact ⟨_, rfl⟩
end ITEMM
