section DEALS
variable {B sq pa pe wo : Nat} {K WS WH : Nat → Nat} {psq ppa ppe pwo qg qm qst qd : Int32} {pk ws wh m qh qw qs qu o : Nat → Int32}
theorem m1_le {n c : Nat} (hn : n < 1000) (hc : c < 1000) : nI c ≤ m1 n ↔ ¬ n < c + 1 := by
  rw [← m1_lt hn hc, Int32.lt_iff_toInt_lt, Int32.le_iff_toInt_le]; omega
theorem m1_ge {n : Nat} (hn : n < 1000) : (-1 : Int32) ≤ m1 n := by
  rw [Int32.le_iff_toInt_le]
  have h1 : (-1 : Int32).toInt = -1 := by decide
  cases n with
  | zero => rw [m1_0i]; exact Int.le_refl _
  | succ n => rw [m1_s n (by omega), nI_toInt (by omega)]; omega
theorem pow7 (hpa : pa ≤ 6) (hpe : pe ≤ 5) : (pa + 1) ^ pe ≤ 16807 := Nat.le_trans (Nat.pow_le_pow_left (show pa + 1 ≤ 7 by omega) pe) (Nat.pow_le_pow_right (show 0 < 7 by omega) hpe)
theorem stepD_le {stl : Nat → Bool} {wk : Nat → Nat → Nat} {code : Nat} {a : BT} (h : a.1 ≤ 7) : (stepD pa pe stl wk code a).1 ≤ 7 := by
  unfold stepD
  split
  · exact h
  · split
    · have := popc_lt (by assumption : Nat)
      rename_i x d _ _
      have := popc_lt d
      show popc d + 1 ≤ 7
      omega
    · exact h
theorem deal_ref {D S : Nat} {Ho Wo Sq Un : Nat → Nat} (hc : MM pa pe Ho Wo Sq Un o) (hv : VM sq pa pe Ho Wo Sq Un) (hm : MP sq pa pe wo K WS WH m) (h2 : o 2 = nI D) (hD : D < 64) (h3 : o 3 = nI S) (hS : S < 32) (f0 : Nat → Nat) (k : Int32 → Int32 → Int32 → Option Int32) :
    ∃ v7, f_X8_deal_L58 (nI ((pa + 1) ^ pe)) m o k 20000 (-4) (-1) 0 = k v7 (m1 (foldR (stepD pa pe S.testBit (wkD Ho Wo Sq WS WH wo D pa pe)) 0 ((pa + 1) ^ pe) (0, f0)).1) (nI ((pa + 1) ^ pe)) ∧ ((foldR (stepD pa pe S.testBit (wkD Ho Wo Sq WS WH wo D pa pe)) 0 ((pa + 1) ^ pe) (0, f0)).1 = 0 ∨ ∃ code, code < 2 ^ 30 ∧ v7 = nI code ∧ (foldR (stepD pa pe S.testBit (wkD Ho Wo Sq WS WH wo D pa pe)) 0 ((pa + 1) ^ pe) (0, f0)).2 = dg (pa + 1) pe code) := by
  have hpw := pow7 hv.2.1 hv.2.2.1
  obtain ⟨z, ⟨e1, e2, e3⟩, e4⟩ := loopI (fun nf (z : Int32 × Int32) v => f_X8_deal_L58 (nI ((pa + 1) ^ pe)) m o k nf z.1 z.2 v) (fun z v => k z.1 z.2 v) ((pa + 1) ^ pe) (fun i z => z.2 = m1 (foldR (stepD pa pe S.testBit (wkD Ho Wo Sq WS WH wo D pa pe)) 0 i (0, f0)).1 ∧ (foldR (stepD pa pe S.testBit (wkD Ho Wo Sq WS WH wo D pa pe)) 0 i (0, f0)).1 ≤ 7 ∧ ((foldR (stepD pa pe S.testBit (wkD Ho Wo Sq WS WH wo D pa pe)) 0 i (0, f0)).1 = 0 ∨ ∃ code, code < 2 ^ 30 ∧ z.1 = nI code ∧ (foldR (stepD pa pe S.testBit (wkD Ho Wo Sq WS WH wo D pa pe)) 0 i (0, f0)).2 = dg (pa + 1) pe code)) (fun nf z hz => by
      show f_X8_deal_L58 _ _ _ _ (nf + 1) _ _ _ = _
      rw [f_X8_deal_L58_s, if_pos (lle (Nat.le_refl _) (by omega))]) (fun nf i z hi hz => by
      obtain ⟨z1, z2, z3⟩ := hz
      have hF : foldR (stepD pa pe S.testBit (wkD Ho Wo Sq WS WH wo D pa pe)) 0 (i + 1) (0, f0) = stepD pa pe S.testBit (wkD Ho Wo Sq WS WH wo D pa pe) i (foldR (stepD pa pe S.testBit (wkD Ho Wo Sq WS WH wo D pa pe)) 0 i (0, f0)) := by
        show stepD pa pe S.testBit (wkD Ho Wo Sq WS WH wo D pa pe) (0 + i) _ = _
        rw [Nat.zero_add]
      rw [hF]
      generalize foldR (stepD pa pe S.testBit (wkD Ho Wo Sq WS WH wo D pa pe)) 0 i (0, f0) = acc at z1 z2 z3
      have hL : ∀ z' : Int32 × Int32, f_X8_deal_L58 (nI ((pa + 1) ^ pe)) m o k (nf + 1) z.1 z.2 (nI i) = f_X8_deal_L58 (nI ((pa + 1) ^ pe)) m o k nf z'.1 z'.2 (nI (i + 1)) → (fun nf (z : Int32 × Int32) v => f_X8_deal_L58 (nI ((pa + 1) ^ pe)) m o k nf z.1 z.2 v) (nf + 1) z (nI i) = (fun nf (z : Int32 × Int32) v => f_X8_deal_L58 (nI ((pa + 1) ^ pe)) m o k nf z.1 z.2 v) nf z' (nI (i + 1)) := fun _ h => h
      have hwb := worksBy_eq hc hv hm h2 hD h3 hS (code := i) (by omega)
      cases hs : stD pa S.testBit (wkD Ho Wo Sq WS WH wo D pa pe) (dg (pa + 1) pe i) pe with
      | none =>
        rw [hs] at hwb
        have hst : stepD pa pe S.testBit (wkD Ho Wo Sq WS WH wo D pa pe) i acc = acc := by unfold stepD; rw [hs]
        rw [hst]
        refine ⟨z, ⟨z1, z2, z3⟩, hL z ?_⟩
        rw [f_X8_deal_L58_s, if_neg (nle hi (by omega)), hwb, ob_some, z1, if_pos (m1_ge (by omega)), nI_n1]
      | some x =>
        obtain ⟨ux, dx⟩ := x
        rw [hs] at hwb
        have hpc := popc_lt dx
        have hst : stepD pa pe S.testBit (wkD Ho Wo Sq WS WH wo D pa pe) i acc = if acc.1 < popc dx + 1 then (popc dx + 1, dg (pa + 1) pe i) else acc := by unfold stepD; rw [hs]
        rw [hst]
        by_cases q : acc.1 < popc dx + 1
        · rw [if_pos q]
          refine ⟨(nI i, nI (popc dx)), ⟨(m1_s _ (by omega)).symm, by show popc dx + 1 ≤ 7; omega, Or.inr ⟨i, by omega, rfl, rfl⟩⟩, hL _ ?_⟩
          rw [f_X8_deal_L58_s, if_neg (nle hi (by omega)), hwb, ob_some, z1, if_neg (fun y => (m1_le (by omega) (by omega)).mp y q), nI_n1]
        · rw [if_neg q]
          refine ⟨z, ⟨z1, z2, z3⟩, hL z ?_⟩
          rw [f_X8_deal_L58_s, if_neg (nle hi (by omega)), hwb, ob_some, z1, if_pos ((m1_le (by omega) (by omega)).mpr q), nI_n1]) ((pa + 1) ^ pe) 0 20000 (-4, -1) (by omega) (by omega) ⟨m1_0i.symm, by show (0 : Nat) ≤ 7; omega, Or.inl rfl⟩
  exact ⟨z.1, by rw [← e1]; exact e4, e3⟩
theorem deal_L22 (h1 : m 1 = nI pa) (h2 : m 2 = nI pe) (hpa : pa ≤ 6) (hpe : pe ≤ 5) (k : Int32 → Int32 → Option Int32) : f_X8_deal_L22 m k 20000 1 0 = k (nI ((pa + 1) ^ pe)) (nI pe) := by
  have key := loopN (fun nf (s : Int32) v => f_X8_deal_L22 m k nf s v) (fun s v => k s v) pe (fun i => nI ((pa + 1) ^ i)) (fun nf => by
    show f_X8_deal_L22 _ _ (nf + 1) _ _ = _
    rw [f_X8_deal_L22_s, cl2, h2, if_pos (lle (Nat.le_refl _) (by omega))]) (fun nf i hi => by
    show f_X8_deal_L22 _ _ (nf + 1) _ _ = f_X8_deal_L22 _ _ nf _ _
    rw [f_X8_deal_L22_s, cl2, h2, if_neg (nle hi (by omega)), cl1, h1, nI_n1, pk_mul, nI_n1, Nat.pow_succ]) 20000 (by omega)
  exact key
theorem s_deal (hP : IP sq pa pe wo K WS WH psq ppa ppe pwo pk ws wh m) (hN : IM B sq pa pe wo (qg, qm, qst, qd, qh, qw, qs, qu) o) (dm : Int32) (dc db dr : Nat → Int32) (k : Int32) :
    ∃ rr dm' dc' db' dr', f_X7_deal psq ppa ppe pwo pk ws wh qg qm qst qd qh qw qs qu dm dc db dr k = some (rr, dm', dc', db', dr') ∧ f_X8_deal m o k = some rr := by
  obtain ⟨rfl, rfl, rfl, rfl, hk, hw, hm, a1, a2, a3, a4', a5⟩ := hP
  obtain ⟨⟨a, Sq, Un⟩, hc, hmo, hv, hb⟩ := id hN
  have hv' : VA sq pa pe wo Sq Un a := hv
  have hS := hv'.S
  have hD := hv'.D hw.1
  obtain ⟨c1, c2, c3, c4, c5⟩ : CA pa pe Sq Un a qg qm qst qd qh qw qs qu := hc
  obtain ⟨n1, n2, n3, n4, n5⟩ : MA pa pe Sq Un a o := hmo
  subst c3 c4
  obtain ⟨dc', db', dr', r1, r2, r3⟩ := findBest_c (qg := qg) (qm := qm) (pk := pk) c5 hv'.1 hw hD hS a1 dc db dr (fun _ => 0)
  have hpos := goD_pos (pa := pa) (stl := a.2.2.1.testBit) (wk := wkD a.2.2.2.2.1 a.2.2.2.2.2 Sq WS WH wo a.2.2.2.1 pa pe) pe 0 0 0 (fun _ => 0) (0, fun _ => 0)
  obtain ⟨hE, -⟩ := codes_go (pa := pa) (pe := pe) (stl := a.2.2.1.testBit) (wk := wkD a.2.2.2.2.1 a.2.2.2.2.2 Sq WS WH wo a.2.2.2.1 pa pe) pe 0 0 (fun _ => 0) (0, fun _ => 0) (0, fun _ => 0) (by omega) (fun j hj => by omega) ⟨rfl, Or.inl rfl⟩
  obtain ⟨E1, E2⟩ := hE 0 0 rfl
  rw [Nat.zero_mul] at E1 E2
  generalize hgo : goD pa a.2.2.1.testBit (wkD a.2.2.2.2.1 a.2.2.2.2.2 Sq WS WH wo a.2.2.2.1 pa pe) pe 0 0 0 (fun _ => 0) (0, fun _ => 0) = G at r1 r2 r3 hpos E1 E2
  unfold f_X7_deal f_X8_deal
  have hin : ∀ K7 : Int32 → Int32 → Int32 → Option Int32, ∃ v7, f_X8_deal_L22 m (fun v4 _ => f_X8_deal_L58 v4 m o K7 20000 (-4) (-1) 0) 20000 1 0 = K7 v7 (m1 G.1) (nI ((pa + 1) ^ pe)) ∧ ∃ code, code < 2 ^ 30 ∧ v7 = nI code ∧ ∀ j, j < pe → G.2 j = dg (pa + 1) pe code j := by
    intro K7
    obtain ⟨v7, f1, f2⟩ := deal_ref n1 hv'.1 hm n4 hD n5 hS (fun _ => 0) K7
    rw [E1] at f1
    obtain ⟨code, g1, g2, g3⟩ := f2.resolve_left (by rw [E1]; omega)
    refine ⟨v7, ?_, code, g1, g2, fun j hj => ?_⟩
    · rw [deal_L22 hm.2.1 hm.2.2.1 a2 a4']
      exact f1
    · rw [← g3]
      exact ((E2.resolve_left (by rw [E1]; omega)) j hj).symm
  rcases arg_cases pe (by omega) k with ⟨p, hp, rfl⟩ | hk'
  · have hne : ¬ nI p = (-1 : Int32) := fun q => by
      have h1 := congrArg Int32.toInt q
      rw [nI_toInt (by omega)] at h1
      have h2 : (-1 : Int32).toInt = -1 := by decide
      omega
    have hin1 : f_X8_in (nI p) (-1) (m (2 : Int32).toNatClampNeg - 1) = some 1 := by
      rw [cl2, hm.2.2.1, in_eq, if_neg]
      rintro (h | h)
      · rw [Int32.lt_iff_toInt_lt, nI_toInt (by omega)] at h
        have h2 : (-1 : Int32).toInt = -1 := by decide
        omega
      · rw [show (1 : Int32) = nI 1 from rfl, pk_sub (by omega)] at h
        have := (nI_ltI (by omega) (by omega)).mp h
        omega
    have h0 : (0 : Int32) ≤ nI p := lle (a := 0) (by omega) (by omega)
    obtain ⟨v7, f1, code, g1, g2, g3⟩ := hin (fun v7 v8 v9 => if 0 ≤ nI p then Option.bind (f_X8_dealt m v7 (nI p)) fun r15 => if r15 = m (1 : Int32).toNatClampNeg then some (-4) else Option.bind (f_X8_dealt m v7 (nI p)) fun r18 => some r18 else some v8)
    refine ⟨eU (cod pa (G.2 p)), m1 G.1, dc', db', dr', ?_, ?_⟩
    · rw [if_neg hne, show f_X2_hasPerson (nI pe) (nI p) = some 1 from hasX_in hp (by omega), ob_some, if_neg not10, r1, ob_some]
      simp only
      unfold f_X0_bestOf
      rw [at_eq db' (by omega) (by omega), ob_some, ob_some, r3 p hp]
    · rw [hin1, ob_some, if_neg not10]
      refine Eq.trans f1 ?_
      have hdl := dg_le (pa := pa) (p := pe) (c := code) (j := p)
      rw [if_pos h0, g2, dealt_eq hm.2.1 hm.2.2.1 a2 a4' hp g1, ob_some, ob_some, cl1, hm.2.1, g3 p hp]
      by_cases q : dg (pa + 1) pe code p = pa
      · rw [if_pos (by rw [q]), q, cod_pa]; rfl
      · rw [if_neg (fun z => q ((eqN (by omega) (by omega)).mp z)), cod_lt (by omega), eU_lt (by omega)]
  · by_cases hm1 : k = -1
    · subst hm1
      obtain ⟨v7, f1, -⟩ := hin (fun v7 v8 v9 => if 0 ≤ (-1 : Int32) then Option.bind (f_X8_dealt m v7 (-1)) fun r15 => if r15 = m (1 : Int32).toNatClampNeg then some (-4) else Option.bind (f_X8_dealt m v7 (-1)) fun r18 => some r18 else some v8)
      refine ⟨m1 G.1, m1 G.1, dc', db', dr', ?_, ?_⟩
      · rw [if_pos rfl, r1, ob_some]
      · have hin1 : f_X8_in (-1) (-1) (m (2 : Int32).toNatClampNeg - 1) = some 1 := by
          rw [cl2, hm.2.2.1, in_eq, if_neg]
          have e9 : nI pe - (1 : Int32) = nI (pe - 1) := by rw [show (1 : Int32) = nI 1 from rfl, pk_sub (by omega)]
          rintro (h | h)
          · exact absurd h (by decide)
          · rw [e9, Int32.lt_iff_toInt_lt, nI_toInt (by omega)] at h
            have h2 : (-1 : Int32).toInt = -1 := by decide
            omega
        rw [hin1, ob_some, if_neg not10]
        refine Eq.trans f1 ?_
        rw [if_neg (by decide)]
    · refine ⟨-1, dm, dc, db, dr, ?_, ?_⟩
      · rw [if_neg hm1, show f_X2_hasPerson (nI pe) k = some 0 from hasX_out (by omega) hk', ob_some, if_pos rfl]
      · have hin0 : f_X8_in k (-1) (m (2 : Int32).toNatClampNeg - 1) = some 0 := by
          rw [cl2, hm.2.2.1, in_eq, if_pos]
          rcases hk' with h | ⟨x, h1, h2, rfl⟩
          · left
            rw [Int32.lt_iff_toInt_lt] at h ⊢
            have h2 : (-1 : Int32).toInt = -1 := by decide
            have h3 : (0 : Int32).toInt = 0 := by decide
            have h4 : k.toInt ≠ -1 := fun z => hm1 (Int32.toInt_inj.mp (by rw [z, h2]))
            omega
          · right
            rw [show (1 : Int32) = nI 1 from rfl, pk_sub (by omega)]
            exact (nI_ltI (by omega) (by omega)).mpr (by omega)
        rw [hin0, ob_some, if_pos rfl]
end DEALS
