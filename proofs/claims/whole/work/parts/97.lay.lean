/-- a moment as it is laid -/
def xLay (r : RT) : AS := ((0, 0, 0, 0, r.Ho, r.Wo), r.Sq, fun _ => 6)
theorem xLay_V {r : RT} (hv : RV r) (hpa : 0 < r.pa) : VS r.sq r.pa r.pe r.wo (xLay r) := by
  obtain ⟨v1, v2, v3, v4, v5, v6, v7⟩ := hv
  refine ⟨⟨v1, v2, v3, fun u hu => (v5 u hu).2.1, fun u hu => ?_, v7, fun p hp => Or.inr rfl, fun p q hp hq _ h => ?_⟩, Nat.two_pow_pos _, Nat.two_pow_pos _⟩
  · have := (v5 u hu).2.2
    show r.Wo u ≤ 20
    omega
  · have h : 6 < 6 := h
    omega
theorem xLay_C {r : RT} {z : ZT} (hr : RC r z) (hv : RV r) {un qh qw qs qu : Nat → Int32} (hu : ∀ p, p < 5 → un p = -4) : CSV r.pa r.pe (xLay r) (0, 0, 0, 0, cpy 6 z.2.2.2.2.2.2.2.2.1 qh, cpy 6 z.2.2.2.2.2.2.2.2.2.1 qw, cpy 5 z.2.2.2.2.2.2.2.2.2.2 qs, cpy 5 un qu) := by
  obtain ⟨v1, v2, v3, v4, v5, v6, v7⟩ := hv
  obtain ⟨r1, r2, r3, r4, r5, r6, r7, r8, r9, r10⟩ := hr
  refine ⟨rfl, rfl, rfl, rfl, fun u h => ?_, fun u h => ?_, fun u h => ?_, fun u h => ?_⟩
  · show cpy 6 _ _ u = _
    rw [cpy_at (by omega)]; exact r8 u h
  · show cpy 6 _ _ u = _
    rw [cpy_at (by omega)]; exact r9 u h
  · show cpy 5 _ _ u = _
    rw [cpy_at (by omega)]; exact r10 u h
  · show cpy 5 _ _ u = _
    rw [cpy_at (by omega)]; exact hu u (by omega)
theorem xLay_M {r : RT} {lw nw o : Nat → Int32} (hr : RM r lw nw) (hv : RV r) (h1 : ∀ j, j < 21 → o j = nw j) (h2 : ∀ p, p < 5 → o (21 + p) = -4) : MS r.pa r.pe (xLay r) o := by
  obtain ⟨v1, v2, v3, v4, v5, v6, v7⟩ := hv
  obtain ⟨r1, r2, r3, r4, r5, r6, r7, r8, r9, r10, r11⟩ := hr
  refine ⟨⟨fun u h => ?_, fun u h => ?_, fun u h => ?_, fun u h => ?_⟩, ?_, ?_, ?_, ?_⟩
  · rw [h1 _ (by omega)]; exact r8 u h
  · rw [h1 _ (by omega)]; exact r9 u h
  · rw [h1 _ (by omega)]; exact r10 u h
  · exact h2 u (by omega)
  · rw [h1 _ (by omega)]; exact r11 0 (by omega)
  · rw [h1 _ (by omega)]; exact r11 1 (by omega)
  · rw [h1 _ (by omega)]; exact r11 2 (by omega)
  · rw [h1 _ (by omega)]; exact r11 3 (by omega)
theorem planLay {r : RT} {z : ZT} {lw nw m : Nat → Int32} (hr : RC r z) (hm : RM r lw nw) (hv : RV r) (hpa : 0 < r.pa) (hpe : 0 < r.pe) (h1 : ∀ j, j < 22 → m j = lw j) (pk ws wh : Nat → Int32) : IP r.sq r.pa r.pe r.wo r.K r.WS r.WH z.2.1 z.2.2.1 z.2.2.2.1 z.2.2.2.2.1 (cpy 6 z.2.2.2.2.2.1 pk) (cpy 6 z.2.2.2.2.2.2.1 ws) (cpy 6 z.2.2.2.2.2.2.2.1 wh) m := by
  obtain ⟨v1, v2, v3, v4, v5, v6, v7⟩ := hv
  obtain ⟨r1, r2, r3, r4, r5, r6, r7, r8, r9, r10⟩ := hr
  obtain ⟨m1, m2, m3, m4, m5, m6, m7, m8, m9, m10, m11⟩ := hm
  refine ⟨r1, r2, r3, r4, fun u hu => ⟨?_, (v5 u hu).1⟩, ⟨v4, fun w hw => ⟨?_, (v6 w hw).1⟩, fun w hw => ⟨?_, (v6 w hw).2⟩⟩, ⟨?_, ?_, ?_, ?_, fun u hu => ⟨?_, (v5 u hu).1⟩, v4, fun w hw => ⟨?_, (v6 w hw).1⟩, fun w hw => ⟨?_, (v6 w hw).2⟩⟩, hpa, v2, hpe, v3, v1⟩
  · rw [cpy_at (by omega)]; exact r5 u hu
  · rw [cpy_at (by omega)]; exact r6 w hw
  · rw [cpy_at (by omega)]; exact r7 w hw
  · rw [h1 _ (by omega)]; exact m1
  · rw [h1 _ (by omega)]; exact m2
  · rw [h1 _ (by omega)]; exact m3
  · rw [h1 _ (by omega)]; exact m4
  · rw [h1 _ (by omega)]; exact m5 u hu
  · rw [h1 _ (by omega)]; exact m6 w hw
  · rw [h1 _ (by omega)]; exact m7 w hw
theorem settle_c (sq pa pe wo g0 g1 g2 g3 : Int32) (kd wq wr ho wn sr un pk ws wh qh qw qs qu : Nat → Int32) : f_X7_settle sq pa pe wo kd wq wr g0 g1 g2 g3 ho wn sr un pk ws wh qh qw qs qu = some (sq, pa, pe, wo, cpy 6 kd pk, cpy 6 wq ws, cpy 6 wr wh, g0, g1, g2, g3, cpy 6 ho qh, cpy 6 wn qw, cpy 5 sr qs, cpy 5 un qu, 0, 0, 0) := by
  unfold f_X7_settle f_X4_clear f_X5_clear
  rw [planCopy, ob_some]
  simp only
  rw [copyFrom_c, ob_some, ob_some, ob_some, ob_some]
section LAYS
variable {B sq pa pe wo zk kk nE nT : Nat} {K WS WH EH EB LT' : Nat → Nat} {psq ppa ppe pwo qg qm qst qd um ua km es sm yl ml : Int32} {pk ws wh m qh qw qs qu o us ks eh eb sh sa yt mt : Nat → Int32} {zV kV : Nat → MVt}
theorem s_lay (hT : IT nT LT' yl ml yt mt) (hP : IP sq pa pe wo K WS WH psq ppa ppe pwo pk ws wh m) (hN : IM B sq pa pe wo (qg, qm, qst, qd, qh, qw, qs, qu) o) (hZ : IZ B sq pa pe wo zk zV um ua us) (hK : IK B sq pa pe wo kk kV km ks) (hE : IE nE EH EB es sm eh eb sh sa) (rn kd wq wr ho wn sr un td lw nw : Nat → Int32) (rsq rpa rpe rwo rg rm rs rd : Int32) :
    ∃ rr rn' rsq' rpa' rpe' rwo' kd' wq' wr' rg' rm' rs' rd' ho' wn' sr' un' psq' ppa' ppe' pwo' pk' ws' wh' qg' qm' qst' qd' qh' qw' qs' qu' es' ra' um' sm' km' td' lw' nw' m' o' zk' kk',
      f_X7_lay yl yt rn kd wq wr ho wn sr un psq ppa ppe pwo pk ws wh qg qm qst qd qh qw qs qu es (nI zk) (nI kk) = some (rr, rn', rsq', rpa', rpe', rwo', kd', wq', wr', rg', rm', rs', rd', ho', wn', sr', un', psq', ppa', ppe', pwo', pk', ws', wh', qg', qm', qst', qd', qh', qw', qs', qu', es', nI zk', nI kk') ∧
      f_X8_lay ml um sm km mt td lw nw m o = some (rr, ra', um', sm', km', td', lw', nw', m', o') ∧
      ∃ sq' pa' pe' wo' K' WS' WH' nE' EH' EB', IP sq' pa' pe' wo' K' WS' WH' psq' ppa' ppe' pwo' pk' ws' wh' m' ∧ IM B sq' pa' pe' wo' (qg', qm', qst', qd', qh', qw', qs', qu') o' ∧ IZ B sq' pa' pe' wo' zk' zV um' ua us ∧ IK B sq' pa' pe' wo' kk' kV km' ks ∧ IE nE' EH' EB' es' sm' eh eb sh sa := by
  unfold f_X7_lay f_X8_lay
  rcases place hT rn kd wq wr ho wn sr un td lw nw with ⟨p, zc, zm, f1, f2, f3⟩ | ⟨r', rn', sq', pa', pe', wo', kd', wq', wr', ho', wn', sr', un', ra', td', lw', nw', hv, hc, hm, hu, f1, f2⟩
  · have hne : ¬ nI p = (-4 : Int32) := nI_m4 (by omega)
    obtain ⟨a1, a2, a3, a4, a5, a6, a7, a8, a9, a10, a11, a12, a13, a14, a15, a16⟩ := zc
    obtain ⟨b1, b2, b3, b4⟩ := zm
    rw [f1, f2, ob_some, ob_some]
    simp only
    rw [if_neg hne, if_neg hne]
    exact ⟨_, _, _, _, _, _, _, _, _, _, _, _, _, _, _, _, _, _, _, _, _, _, _, _, _, _, _, _, _, _, _, _, _, _, _, _, _, _, _, _, _, _, zk, kk, rfl, rfl, _, _, _, _, _, _, _, _, _, _, hP, hN, hZ, hK, hE⟩
  · rw [f1, f2, ob_some, ob_some]
    simp only
    rw [if_pos trivial, if_pos trivial, cl1, cl2, hm.2.1, hm.2.2.1]
    have r2 : pa' = nI r'.pa := hc.2.1
    have r3 : pe' = nI r'.pe := hc.2.2.1
    have v2 := hv.2.1
    have v3 := hv.2.2.1
    by_cases hpa : r'.pa = 0
    · rw [if_pos (show pa' < (1 : Int32) by rw [r2, hpa]; decide), if_pos ((nI_z (by omega)).mpr hpa)]
      exact ⟨_, _, _, _, _, _, _, _, _, _, _, _, _, _, _, _, _, _, _, _, _, _, _, _, _, _, _, _, _, _, _, _, _, _, _, _, _, _, _, _, _, _, zk, kk, rfl, rfl, _, _, _, _, _, _, _, _, _, _, hP, hN, hZ, hK, hE⟩
    rw [if_neg (show ¬ pa' < (1 : Int32) from fun z => by rw [r2] at z; have := (nI_ltI (b := 1) (by omega) (by decide)).mp z; omega), if_neg (fun z => hpa ((nI_z (by omega)).mp z))]
    by_cases hpe : r'.pe = 0
    · rw [if_neg (show ¬ (1 : Int32) ≤ pe' by rw [r3, hpe]; decide), if_pos ((nI_z (by omega)).mpr hpe)]
      exact ⟨_, _, _, _, _, _, _, _, _, _, _, _, _, _, _, _, _, _, _, _, _, _, _, _, _, _, _, _, _, _, _, _, _, _, _, _, _, _, _, _, _, _, zk, kk, rfl, rfl, _, _, _, _, _, _, _, _, _, _, hP, hN, hZ, hK, hE⟩
    rw [if_pos (show (1 : Int32) ≤ pe' by rw [r3]; exact lle (a := 1) (by omega) (by omega)), if_neg (fun z => hpe ((nI_z (by omega)).mp z)), settle_c, ob_some]
    simp only
    obtain ⟨m', g1, g2⟩ := lay32 lw' (fun v10 m_law_11 => f_X8_lay_L58 nw' (fun v14 m_now_15 => f_X8_lay_L84 (fun v18 m_now_19 => some (m_law_11 (2 : Nat), ra', (0 : Int32), (0 : Int32), (0 : Int32), td', lw', nw', m_law_11, m_now_19)) 20000 (0 : Int32) m_now_15) 20000 (0 : Int32) o) m
    obtain ⟨o1, g3, g4⟩ := lay58 nw' (fun v14 m_now_15 => f_X8_lay_L84 (fun v18 m_now_19 => some (m' (2 : Nat), ra', (0 : Int32), (0 : Int32), (0 : Int32), td', lw', nw', m', m_now_19)) 20000 (0 : Int32) m_now_15) o
    obtain ⟨o', g5, g6, g7⟩ := lay84 (fun v18 m_now_19 => some (m' (2 : Nat), ra', (0 : Int32), (0 : Int32), (0 : Int32), td', lw', nw', m', m_now_19)) o1
    have e1 : f_X8_lay_L32 lw' (fun v10 m_law_11 => f_X8_lay_L58 nw' (fun v14 m_now_15 => f_X8_lay_L84 (fun v18 m_now_19 => some (m_law_11 (2 : Nat), ra', (0 : Int32), (0 : Int32), (0 : Int32), td', lw', nw', m_law_11, m_now_19)) 20000 (0 : Int32) m_now_15) 20000 (0 : Int32) o) 20000 (0 : Int32) m = some (pe', ra', (0 : Int32), (0 : Int32), (0 : Int32), td', lw', nw', m', o') := by
      refine g1.trans (g3.trans (g5.trans ?_))
      rw [g2 2 (by omega), hm.2.2.1, r3]
    rw [e1]
    obtain ⟨z1, z2, t, z4, z5, z6⟩ := hZ
    refine ⟨_, _, _, _, _, _, _, _, _, _, _, _, _, _, _, _, _, _, _, _, _, _, _, _, _, _, _, _, _, _, _, _, _, _, _, _, _, _, _, _, _, _, 0, 0, rfl, rfl, r'.sq, r'.pa, r'.pe, r'.wo, r'.K, r'.WS, r'.WH, 0, EH, EB, planLay hc hm hv (by omega) (by omega) g2 pk ws wh, ⟨xLay r', xLay_C hc hv hu, xLay_M hm hv (fun j hj => by rw [g7 j hj, g4 j (by omega)]) g6, xLay_V hv (by omega), Nat.zero_le _⟩, ⟨by omega, rfl, t, z4, z5, fun i hi => by omega⟩, ⟨by omega, rfl, fun i hi => by omega⟩, ⟨by omega, rfl, rfl, fun i hi => by omega⟩⟩
end LAYS
