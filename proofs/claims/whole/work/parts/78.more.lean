-- keep, back
def IK (B sq pa pe wo kk : Nat) (kV : Nat → MVt) (km : Int32) (ks : Nat → Int32) : Prop := kk ≤ 2 ∧ km = nI kk ∧ ∀ i, i < kk → IM B sq pa pe wo (kV i) (rowAt ks i)
theorem IK.mono {B B' sq pa pe wo kk : Nat} {kV : Nat → MVt} {km : Int32} {ks : Nat → Int32} (h : IK B sq pa pe wo kk kV km ks) (hB : B ≤ B') : IK B' sq pa pe wo kk kV km ks := ⟨h.1, h.2.1, fun i hi => (h.2.2 i hi).mono hB⟩
theorem keep_L {t : Nat} (ht : t < 2) (tr us : Nat → Int32) (k : Int32 → (Nat → Int32) → Option (Int32 × Int32 × (Nat → Int32))) : f_X8_keep_L13 (nI t) tr k 20000 0 us = k 26 (rowPut t tr us) := by
  have e0 : us = (fun i => (fun j => if 26 * t ≤ j ∧ j < 26 * t + i then tr (j - 26 * t) else us j : Nat → Int32)) 0 := by
    funext j
    exact (if_neg (by omega)).symm
  conv => lhs; rw [e0]
  refine (loopN (fun nf (s : Nat → Int32) v => f_X8_keep_L13 (nI t) tr k nf v s) (fun s v => k v s) 26 (fun i => (fun j => if 26 * t ≤ j ∧ j < 26 * t + i then tr (j - 26 * t) else us j)) ?_ ?_ 20000 (by omega))
  · intro nf
    show f_X8_keep_L13 _ _ _ (nf + 1) _ _ = _
    rw [f_X8_keep_L13_s, if_pos (show (26 : Int32) ≤ nI 26 from lle (Nat.le_refl _) (by omega))]
  · intro nf i hi
    show f_X8_keep_L13 _ _ _ (nf + 1) _ _ = f_X8_keep_L13 _ _ _ nf _ _
    rw [f_X8_keep_L13_s, if_neg (show ¬ (26 : Int32) ≤ nI i from nle (b := 26) hi (by omega)), if_pos (okb_nI hi (by omega)), i26, if_pos (okb_nI (by omega) (by omega)), clN (by omega), clN (by omega), nI_n1]
    congr 1
    funext j
    unfold upd
    by_cases hj : j = 26 * t + i
    · subst hj; rw [if_pos rfl, if_pos (by omega)]; congr 1; omega
    · rw [if_neg hj]
      show (if 26 * t ≤ j ∧ j < 26 * t + i then _ else us j) = _
      by_cases h : 26 * t ≤ j ∧ j < 26 * t + i
      · rw [if_pos h, if_pos (by omega)]
      · rw [if_neg h, if_neg (by omega)]
theorem back_L {t : Nat} (ht : t < 2) (o us : Nat → Int32) (k : Int32 → (Nat → Int32) → Option (Int32 × Int32 × Int32 × (Nat → Int32))) : f_X8_back_L27 (nI (t + 1)) us k 20000 0 o = k 26 (cpy 26 (rowAt us t) o) := by
  have e0 : o = (fun i => (fun j => if j < i then rowAt us t j else o j : Nat → Int32)) 0 := by
    funext j
    exact (if_neg (by omega)).symm
  have hj : nI (t + 1) - (1 : Int32) = nI t := by
    rw [show (1 : Int32) = nI 1 from rfl, pk_sub (by omega)]; rfl
  conv => lhs; rw [e0]
  refine (loopN (fun nf (s : Nat → Int32) v => f_X8_back_L27 (nI (t + 1)) us k nf v s) (fun s v => k v s) 26 (fun i => (fun j => if j < i then rowAt us t j else o j)) ?_ ?_ 20000 (by omega))
  · intro nf
    show f_X8_back_L27 _ _ _ (nf + 1) _ _ = _
    rw [f_X8_back_L27_s, if_pos (show (26 : Int32) ≤ nI 26 from lle (Nat.le_refl _) (by omega))]
  · intro nf i hi
    show f_X8_back_L27 _ _ _ (nf + 1) _ _ = f_X8_back_L27 _ _ _ nf _ _
    rw [f_X8_back_L27_s, if_neg (show ¬ (26 : Int32) ≤ nI i from nle (b := 26) hi (by omega)), hj, i26, if_pos (okb_nI (by omega) (by omega)), if_pos (okb_nI hi (by omega)), clN (by omega), clN (by omega), nI_n1]
    congr 1
    funext j
    unfold upd
    by_cases hj : j = i
    · subst hj; rw [if_pos rfl, if_pos (by omega)]; rfl
    · rw [if_neg hj]
      show (if j < i then _ else o j) = _
      by_cases h : j < i
      · rw [if_pos h, if_pos (by omega)]
      · rw [if_neg h, if_neg (by omega)]
section MORE
variable {B sq pa pe wo zk kk : Nat} {K WS WH : Nat → Nat} {psq ppa ppe pwo qg qm qst qd um ua km : Int32} {pk ws wh m qh qw qs qu o us ks : Nat → Int32} {zV kV : Nat → MVt}
theorem s_keep (hpa : pa ≤ 6) (hpe : pe ≤ 5) (hN : IM B sq pa pe wo (qg, qm, qst, qd, qh, qw, qs, qu) o) (hK : IK B sq pa pe wo kk kV km ks) :
    ∃ rr kk' kV' km' ks', f_X7_keep qg qm qst qd qh qw qs qu kk kV = some (rr, kk', kV') ∧ f_X8_keep km o ks = some (rr, km', ks') ∧ IK B sq pa pe wo kk' kV' km' ks' := by
  obtain ⟨h1, rfl, h3⟩ := id hK
  unfold f_X7_keep f_X8_keep f_X4_isFull
  by_cases h : kk = 2
  · refine ⟨-3, kk, kV, nI kk, ks, ?_, ?_, hK⟩
    · subst h; rw [if_neg (by decide), ob_some, if_neg (by decide)]
    · rw [if_pos (by rw [h]; rfl)]
  · refine ⟨nI (kk + 1), kk + 1, pushV2 kk kV (qg, qm, qst, qd, qh, qw, qs, qu), nI (kk + 1), rowPut kk o ks, ?_, ?_, by omega, rfl, fun i hi => ?_⟩
    · rw [if_pos ((nI_ltI (by omega) (by omega)).mpr (by omega)), ob_some, if_pos rfl, if_pos (by omega)]
    · rw [if_neg (show ¬ nI kk = (2 : Int32) from fun q => h ((eqN (b := 2) (by omega) (by omega)).mp q)), keep_L (by omega), nI_n1]
    · show IM B sq pa pe wo (if i = kk then _ else kV i) _
      by_cases hik : i = kk
      · subst hik
        rw [if_pos rfl]
        exact (hN.cong hpa hpe rowAt_put).cp hpa hpe _
      · rw [if_neg hik]
        exact (h3 i (by omega)).cong hpa hpe (rowAt_other hik)
theorem s_back (hpa : pa ≤ 6) (hpe : pe ≤ 5) (hN : IM B sq pa pe wo (qg, qm, qst, qd, qh, qw, qs, qu) o) (hZ : IZ B sq pa pe wo zk zV um ua us) (hK : IK B sq pa pe wo kk kV km ks) :
    ∃ rr qg' qm' qst' qd' qh' qw' qs' qu' zk' kk' um' km' o', f_X7_back qg qm qst qd qh qw qs qu (nI zk) kk kV = some (rr, qg', qm', qst', qd', qh', qw', qs', qu', nI zk', kk') ∧ f_X8_back um km o ks = some (rr, um', km', o') ∧ IM B sq pa pe wo (qg', qm', qst', qd', qh', qw', qs', qu') o' ∧ IZ B sq pa pe wo zk' zV um' ua us ∧ IK B sq pa pe wo kk' kV km' ks := by
  obtain ⟨h1, rfl, h3⟩ := id hK
  unfold f_X7_back f_X8_back f_X4_clear
  rw [isEmpty_eq (by omega), ob_some]
  by_cases h : kk = 0
  · refine ⟨-2, qg, qm, qst, qd, qh, qw, qs, qu, zk, kk, um, nI kk, o, ?_, ?_, hN, hZ, hK⟩
    · rw [if_pos h, if_neg (by decide)]
    · rw [if_pos ((nI_z (by omega)).mpr h)]
  · obtain ⟨j, rfl⟩ : ∃ j, kk = j + 1 := ⟨kk - 1, by omega⟩
    have := (((h3 j (by omega)).cong hpa hpe (o' := cpy 26 (rowAt ks j) o) (fun k hk => cpy_at hk)).cp hpa hpe (qg, qm, qst, qd, qh, qw, qs, qu))
    refine ⟨nI j, _, _, _, _, _, _, _, _, 0, j, 0, nI j, cpy 26 (rowAt ks j) o, ?_, ?_, this, ?_, ?_⟩
    · rw [if_neg h, if_pos rfl, if_pos (by omega), if_pos h1, ob_some]
      rfl
    · rw [if_neg (fun z => h ((nI_z (by omega)).mp z)), back_L (by omega), show (1 : Int32) = nI 1 from rfl, pk_sub (by omega)]
      rfl
    · obtain ⟨_, _, t, h6, h7, _⟩ := hZ
      exact ⟨by omega, rfl, t, h6, h7, fun i hi => by omega⟩
    · exact ⟨by omega, rfl, fun i hi => h3 i (by omega)⟩
-- still, day
theorem copyFrom_c (qg qm qst qd : Int32) (qh qw qs qu jh jw js ju : Nat → Int32) : f_X1_copyFrom jh jw js ju qg qm qst qd qh qw qs qu = some (qg, qm, qst, qd, cpy 6 qh jh, cpy 6 qw jw, cpy 5 qs js, cpy 5 qu ju) := copyFrom_eq (qg, qm, qst, qd, qh, qw, qs, qu) (0, 0, 0, 0, jh, jw, js, ju)
theorem stillL_m {n : Nat} {Sq Un : Nat → Nat} {a : AMt} (hc : MA pa pe Sq Un a o) (hv : VA sq pa pe wo Sq Un a) (hm : MP sq pa pe wo K WS WH m) (hn : n ≤ 100) (hg : a.1 < 90000) (k : Int32 → (Nat → Int32) → Option (Int32 × (Nat → Int32))) : ∃ o', f_X8_still_L18 (nI n) m k 20000 (nI 0) o = k (nI n) o' ∧ MA pa pe Sq Un (spGoN K WS WH Sq Un pa pe wo n a) o' := by
  obtain ⟨z, e1, e2⟩ := loopI (fun nf (z : Nat → Int32) v => f_X8_still_L18 (nI n) m k nf v z) (fun z v => k v z) n (fun i z => MA pa pe Sq Un (spGoN K WS WH Sq Un pa pe wo i a) z) (fun nf z hz => by
      show f_X8_still_L18 _ _ _ (nf + 1) _ _ = _
      rw [f_X8_still_L18_s, if_pos (lle (Nat.le_refl _) (by omega))]) (fun nf i z hi hz => by
      obtain ⟨o', f1, f2⟩ := hz.goes (VA.goN hv i) hm (by rw [goN_gone]; omega)
      refine ⟨o', f2, ?_⟩
      show f_X8_still_L18 _ _ _ (nf + 1) _ _ = f_X8_still_L18 _ _ _ nf _ _
      rw [f_X8_still_L18_s, if_neg (nle hi (by omega)), f1, ob_some, nI_n1]) n 0 20000 o (by omega) (by omega) hc
  exact ⟨z, e2, e1⟩
theorem s_still (hP : IP sq pa pe wo K WS WH psq ppa ppe pwo pk ws wh m) (hN : IM B sq pa pe wo (qg, qm, qst, qd, qh, qw, qs, qu) o) (hB : B < 50000) (jg jm jst jd : Int32) (jh jw js ju tr : Nat → Int32) (n : Int32) :
    ∃ rr jg' jm' jst' jd' jh' jw' js' ju' tr', f_X7_still ppa ppe pwo pk ws wh qg qm qst qd qh qw qs qu jg jm jst jd jh jw js ju n = some (rr, jg', jm', jst', jd', jh', jw', js', ju') ∧ f_X8_still m o tr n = some (rr, tr') := by
  obtain ⟨rfl, rfl, rfl, rfl, hk, hw, hm, a1, a2, a3, a4', a5⟩ := hP
  unfold f_X7_still f_X8_still
  rcases arg_cases 49 (by decide) n with ⟨n, hn, rfl⟩ | hn
  · obtain ⟨⟨a, Sq, Un⟩, hc, hmo, hv, hb⟩ := id hN
    have hb : a.1 ≤ B := hb
    have hv' : VA sq pa pe wo Sq Un a := hv
    have hc' : CA pa pe Sq Un a qg qm qst qd qh qw qs qu := hc
    have hmo' : MA pa pe Sq Un a o := hmo
    obtain ⟨g', t', s', d', h', w', f1, f2⟩ := goOn_c (n := n) (K := K) (hc'.cp a2 a4' (xh := jh) (xw := jw) (xs := js) (xu := ju)) hv' hk hw (by omega) (by omega)
    obtain ⟨o', f3, f4⟩ := stillL_m (n := n) (MA.cong a2 a4' hmo' (o' := cpy 26 o tr) (fun k hk => cpy_at hk)) hv' hm (by omega) (by omega) (fun v6 m_tried_7 => some (m_tried_7 (3 : Int32).toNatClampNeg, m_tried_7))
    refine ⟨s', g', t', s', d', h', w', cpy 5 qs js, cpy 5 qu ju, o', ?_, ?_⟩
    · rw [if_neg (nI_pos (by omega)), if_pos (show nI n ≤ (48 : Int32) from lle (b := 48) (by omega) (by omega)), copyFrom_c, ob_some]
      simp only
      rw [f1, ob_some]
    · rw [show f_X8_in (nI n) 0 48 = some 1 from inN_in (n := 48) (by omega) (by decide), ob_some, if_neg not10, copyNow_eq, ob_some]
      refine Eq.trans f3 ?_
      rw [cl3, f4.2.2.2.2, f2.2.2.1]
  · refine ⟨-1, jg, jm, jst, jd, jh, jw, js, ju, tr, ?_, ?_⟩
    · rcases hn with h | ⟨k, h1, h2, rfl⟩
      · rw [if_pos h]
      · rw [if_neg (nI_pos h1), if_neg (show ¬ nI k ≤ (48 : Int32) from nle (a := 48) (by omega) h1)]
    · rw [show f_X8_in n 0 48 = some 0 from inN_out (n := 48) (by decide) hn, ob_some, if_pos rfl]
theorem lt0_lt1 {i : Int32} (h : i < 0) : i < 1 := by
  rw [Int32.lt_iff_toInt_lt] at h ⊢
  have e0 : (0 : Int32).toInt = 0 := by decide
  have e1 : (1 : Int32).toInt = 1 := by decide
  omega
theorem s_day (hP : IP sq pa pe wo K WS WH psq ppa ppe pwo pk ws wh m) (hN : IM B sq pa pe wo (qg, qm, qst, qd, qh, qw, qs, qu) o) (hB : B < 50000) (jg jm jst jd : Int32) (jh jw js ju tr : Nat → Int32) (z n w : Int32) :
    ∃ rr jg' jm' jst' jd' jh' jw' js' ju' tr', f_X7_day psq ppa ppe pwo pk ws wh qg qm qst qd qh qw qs qu jg jm jst jd jh jw js ju z n w = some (rr, jg', jm', jst', jd', jh', jw', js', ju') ∧ f_X8_day m o tr z n w = some (rr, tr') := by
  obtain ⟨rfl, rfl, rfl, rfl, hk, hw, hm, a1, a2, a3, a4', a5⟩ := hP
  unfold f_X7_day f_X8_day
  have bad9 : ∀ k : Nat, k < 2 ^ 31 → 10000 ≤ k → (9999 : Int32) < nI k := fun k h1 h2 => (nI_ltI (a := 9999) (by decide) h1).mpr (by omega)
  rcases arg_cases 10000 (by decide) z with ⟨z, hz, rfl⟩ | hz
  · have z1 : ¬ nI z < 0 := nI_pos (by omega)
    have z2 : ¬ (9999 : Int32) < nI z := fun h => by have := (nI_ltI (a := 9999) (by decide) (by omega)).mp h; omega
    have z3 : f_X8_in (nI z) 0 9999 = some 1 := inN_in (n := 9999) (by omega) (by decide)
    rcases arg_cases 61 (by decide) n with ⟨n, hn, rfl⟩ | hn
    · have n2 : ¬ (60 : Int32) < nI n := fun h => by have := (nI_ltI (a := 60) (by decide) (by omega)).mp h; omega
      by_cases h0 : n = 0
      · subst h0
        have n1 : nI 0 < (1 : Int32) := by decide
        refine ⟨-1, jg, jm, jst, jd, jh, jw, js, ju, tr, ?_, ?_⟩
        · rw [if_neg z1, if_neg z2, if_pos n1]
        · rw [z3, ob_some, if_neg not10, in_eq, if_pos (Or.inl n1), ob_some, if_pos rfl]
      have n1 : ¬ nI n < (1 : Int32) := fun h => by have := (nI_ltI (b := 1) (by omega) (by decide)).mp h; omega
      have n3 : f_X8_in (nI n) 1 60 = some 1 := in_N (b := 1) (c := 60) (by omega) (by omega) (by decide)
      rcases arg_cases 2 (by decide) w with ⟨w, hw2, rfl⟩ | hw2
      · have w1 : ¬ nI w < 0 := nI_pos (by omega)
        have w2 : nI w ≤ (1 : Int32) := lle (b := 1) (by omega) (by omega)
        have w3 : f_X8_in (nI w) 0 1 = some 1 := inN_in (n := 1) (by omega) (by decide)
        obtain ⟨⟨a, Sq, Un⟩, hc, hmo, hv, hb⟩ := id hN
        have hb : a.1 ≤ B := hb
        have hc' : CA pa pe Sq Un a qg qm qst qd qh qw qs qu := hc
        have hmo' : MA pa pe Sq Un a o := hmo
        have hcc : CS pa pe (a, Sq, Un) qg qm qst qd (cpy 6 qh jh) (cpy 6 qw jw) (cpy 5 qs js) (cpy 5 qu ju) := hc'.cp a2 a4'
        have hmm : MS pa pe (a, Sq, Un) (cpy 26 o tr) := MA.cong a2 a4' hmo' (fun k hk => cpy_at hk)
        have hvN := dayN_V (z := z) (K := K) (WS := WS) (WH := WH) hv a1 a3 n
        have hD := VA.D hvN hw.1
        by_cases hwz : nI w = 0
        · obtain ⟨g', t', s', d', h', w', q', u', f1, f2⟩ := dayL_c (α := Unit) (n := n) (z := z) hcc hv hk hw a1 a3 (by omega) (by omega) (show a.1 < 80000 by omega) (fun v16 jgone_17 jmet_18 jstill_19 jdone_20 jhour_21 jworn_22 jsquare_23 junder_24 => if nI w = 0 then Option.bind (f_J6_bitCount_0f7a4 jdone_20) fun r41 => some (r41, jgone_17, jmet_18, jstill_19, jdone_20, jhour_21, jworn_22, jsquare_23, junder_24) else some (jmet_18 - qm, jgone_17, jmet_18, jstill_19, jdone_20, jhour_21, jworn_22, jsquare_23, junder_24))
          obtain ⟨o', f3, f4⟩ := dayL_m (n := n) (z := z) hmm hv hm a1 a3 (by omega) (by omega) (show a.1 < 80000 by omega) (fun v12 m_tried_13 => if nI w = 0 then Option.bind (f_X8_bits (m_tried_13 (2 : Int32).toNatClampNeg)) fun r20 => some (r20, m_tried_13) else some (m_tried_13 (1 : Int32).toNatClampNeg - o (1 : Int32).toNatClampNeg, m_tried_13))
          obtain ⟨k1, k2, k3, k4, k5⟩ := f2
          obtain ⟨l1, l2, l3, l4, l5⟩ := f4
          refine ⟨nI (popc (dayN K WS WH sq pa pe wo z n (a, Sq, Un)).1.2.2.2.1), g', t', s', d', h', w', q', u', o', ?_, ?_⟩
          · rw [if_neg z1, if_neg z2, if_neg n1, if_neg n2, if_neg w1, if_pos w2, copyFrom_c, ob_some]
            simp only
            refine Eq.trans f1 ?_
            rw [if_pos hwz, k4, bitCount_eq hD, ob_some]
          · rw [z3, ob_some, if_neg not10, n3, ob_some, if_neg not10, w3, ob_some, if_neg not10, copyNow_eq, ob_some]
            refine Eq.trans f3 ?_
            rw [if_pos hwz, cl2, l4, bits_eq hD, ob_some]
        · obtain ⟨g', t', s', d', h', w', q', u', f1, f2⟩ := dayL_c (α := Unit) (n := n) (z := z) hcc hv hk hw a1 a3 (by omega) (by omega) (show a.1 < 80000 by omega) (fun v16 jgone_17 jmet_18 jstill_19 jdone_20 jhour_21 jworn_22 jsquare_23 junder_24 => if nI w = 0 then Option.bind (f_J6_bitCount_0f7a4 jdone_20) fun r41 => some (r41, jgone_17, jmet_18, jstill_19, jdone_20, jhour_21, jworn_22, jsquare_23, junder_24) else some (jmet_18 - qm, jgone_17, jmet_18, jstill_19, jdone_20, jhour_21, jworn_22, jsquare_23, junder_24))
          obtain ⟨o', f3, f4⟩ := dayL_m (n := n) (z := z) hmm hv hm a1 a3 (by omega) (by omega) (show a.1 < 80000 by omega) (fun v12 m_tried_13 => if nI w = 0 then Option.bind (f_X8_bits (m_tried_13 (2 : Int32).toNatClampNeg)) fun r20 => some (r20, m_tried_13) else some (m_tried_13 (1 : Int32).toNatClampNeg - o (1 : Int32).toNatClampNeg, m_tried_13))
          obtain ⟨k1, k2, k3, k4, k5⟩ := f2
          obtain ⟨l1, l2, l3, l4, l5⟩ := f4
          refine ⟨t' - qm, g', t', s', d', h', w', q', u', o', ?_, ?_⟩
          · rw [if_neg z1, if_neg z2, if_neg n1, if_neg n2, if_neg w1, if_pos w2, copyFrom_c, ob_some]
            simp only
            refine Eq.trans f1 ?_
            rw [if_neg hwz]
          · rw [z3, ob_some, if_neg not10, n3, ob_some, if_neg not10, w3, ob_some, if_neg not10, copyNow_eq, ob_some]
            refine Eq.trans f3 ?_
            rw [if_neg hwz, cl1, l3, hmo'.2.2.1, k2, hc'.2.1]
      · refine ⟨-1, jg, jm, jst, jd, jh, jw, js, ju, tr, ?_, ?_⟩
        · rw [if_neg z1, if_neg z2, if_neg n1, if_neg n2]
          rcases hw2 with h | ⟨k, h1, h2, rfl⟩
          · rw [if_pos h]
          · rw [if_neg (nI_pos h1), if_neg (show ¬ nI k ≤ (1 : Int32) from nle (a := 1) (by omega) h1)]
        · rw [z3, ob_some, if_neg not10, n3, ob_some, if_neg not10, show f_X8_in w 0 1 = some 0 from inN_out (n := 1) (by decide) hw2, ob_some, if_pos rfl]
    · refine ⟨-1, jg, jm, jst, jd, jh, jw, js, ju, tr, ?_, ?_⟩
      · rw [if_neg z1, if_neg z2]
        rcases hn with h | ⟨k, h1, h2, rfl⟩
        · rw [if_pos (lt0_lt1 h)]
        · rw [if_neg (fun h => by have := (nI_ltI (b := 1) h1 (by decide)).mp h; omega), if_pos (show (60 : Int32) < nI k from (nI_ltI (a := 60) (by decide) h1).mpr (by omega))]
      · rw [z3, ob_some, if_neg not10]
        rcases hn with h | ⟨k, h1, h2, rfl⟩
        · rw [in_eq, if_pos (Or.inl (lt0_lt1 h)), ob_some, if_pos rfl]
        · rw [in_eq, if_pos (Or.inr (show (60 : Int32) < nI k from (nI_ltI (a := 60) (by decide) h1).mpr (by omega))), ob_some, if_pos rfl]
  · refine ⟨-1, jg, jm, jst, jd, jh, jw, js, ju, tr, ?_, ?_⟩
    · rcases hz with h | ⟨k, h1, h2, rfl⟩
      · rw [if_pos h]
      · rw [if_neg (nI_pos h1), if_pos (bad9 k h1 h2)]
    · rw [show f_X8_in z 0 9999 = some 0 from inN_out (n := 9999) (by decide) hz, ob_some, if_pos rfl]
end MORE
