section FAULT
variable {n : Nat} {L : Nat → Nat} {yl ml : Int32} {yt mt : Nat → Int32}
theorem faults (hT : IT n L yl ml yt mt) (g0 g1 g2 g3 : Int32) (un : Nat → Int32) (k8 : Int32 → Int32 → (Nat → Int32) → Int32 → Int32 → Int32 → Int32 → (Nat → Int32) → (Nat → Int32) → (Nat → Int32) → (Nat → Int32) → (Nat → Int32) → (Nat → Int32) → Option (Int32 × (Nat → Int32) × Int32 × Int32 × Int32 × Int32 × (Nat → Int32) × (Nat → Int32) × (Nat → Int32) × Int32 × Int32 × Int32 × Int32 × (Nat → Int32) × (Nat → Int32) × (Nat → Int32) × (Nat → Int32))) (k55 : Int32 → (Nat → Int32) → (Nat → Int32) → (Nat → Int32) → Option (Int32 × Int32 × (Nat → Int32) × (Nat → Int32) × (Nat → Int32))) :
    ∀ d i it r rn sq pa pe wo kd wq wr ho wn sr td lw nw nf, n - i ≤ d → i ≤ n → it ≤ i → RV r → RC r (rn, sq, pa, pe, wo, kd, wq, wr, ho, wn, sr) → RM r lw nw → d < nf →
    (∃ p zc zm, f_X3_placeOfFault_L8 yl yt g0 g1 g2 g3 un k8 nf (nI i) (nI it) rn sq pa pe wo kd wq wr ho wn sr = some (nI p, zc) ∧ f_X8_fault_L55 ml mt k55 nf (nI i) td lw nw = some (nI p, zm) ∧ p < 200) ∨
    (∃ j jt r' rn' sq' pa' pe' wo' kd' wq' wr' ho' wn' sr' td' lw' nw', RV r' ∧ RC r' (rn', sq', pa', pe', wo', kd', wq', wr', ho', wn', sr') ∧ RM r' lw' nw' ∧ f_X3_placeOfFault_L8 yl yt g0 g1 g2 g3 un k8 nf (nI i) (nI it) rn sq pa pe wo kd wq wr ho wn sr = k8 j jt rn' sq' pa' pe' wo' kd' wq' wr' ho' wn' sr' ∧ f_X8_fault_L55 ml mt k55 nf (nI i) td lw nw = k55 j td' lw' nw') := by
  have hn := hT.1
  have hyl := hT.2.1
  have hml := hT.2.2.1
  intro d
  induction d with
  | zero =>
    intro i it r rn sq pa pe wo kd wq wr ho wn sr td lw nw nf h1 h2 h3 hv hc hm hf
    obtain ⟨nf, rfl⟩ : ∃ k, nf = k + 1 := ⟨nf - 1, by omega⟩
    refine Or.inr ⟨nI i, nI it, r, rn, sq, pa, pe, wo, kd, wq, wr, ho, wn, sr, td, lw, nw, hv, hc, hm, ?_, ?_⟩
    · rw [f_X3_placeOfFault_L8_s]
      split
      · rfl
      · rw [hyl, if_pos (lle (by omega) (by omega))]
    · rw [f_X8_fault_L55_s, hml, if_pos (lle (by omega) (by omega))]
  | succ d ih =>
    intro i it r rn sq pa pe wo kd wq wr ho wn sr td lw nw nf h1 h2 h3 hv hc hm hf
    obtain ⟨nf, rfl⟩ : ∃ k, nf = k + 1 := ⟨nf - 1, by omega⟩
    by_cases hin : n ≤ i
    · refine Or.inr ⟨nI i, nI it, r, rn, sq, pa, pe, wo, kd, wq, wr, ho, wn, sr, td, lw, nw, hv, hc, hm, ?_, ?_⟩
      · rw [f_X3_placeOfFault_L8_s]
        split
        · rfl
        · rw [hyl, if_pos (lle (by omega) (by omega))]
      · rw [f_X8_fault_L55_s, hml, if_pos (lle (by omega) (by omega))]
    obtain ⟨c1, c2⟩ := item_c hT (i := i) (by omega) hv hc
    obtain ⟨m1, m2⟩ := item_m hT (i := i) (by omega) hv hm td
    have s1 : f_X3_placeOfFault_L8 yl yt g0 g1 g2 g3 un k8 (nf + 1) (nI i) (nI it) rn sq pa pe wo kd wq wr ho wn sr = Option.bind (f_X3_behindItem rn sq pa pe wo kd wq wr ho wn sr yl yt (nI i)) fun z => if z.1 = (-4 : Int32) then some (nI i, z.2.1, z.2.2.1, z.2.2.2.1, z.2.2.2.2.1, z.2.2.2.2.2.1, z.2.2.2.2.2.2.1, z.2.2.2.2.2.2.2.1, z.2.2.2.2.2.2.2.2.1, g0, g1, g2, g3, z.2.2.2.2.2.2.2.2.2.1, z.2.2.2.2.2.2.2.2.2.2.1, z.2.2.2.2.2.2.2.2.2.2.2, un) else f_X3_placeOfFault_L8 yl yt g0 g1 g2 g3 un k8 nf z.1 (nI it + 1) z.2.1 z.2.2.1 z.2.2.2.1 z.2.2.2.2.1 z.2.2.2.2.2.1 z.2.2.2.2.2.2.1 z.2.2.2.2.2.2.2.1 z.2.2.2.2.2.2.2.2.1 z.2.2.2.2.2.2.2.2.2.1 z.2.2.2.2.2.2.2.2.2.2.1 z.2.2.2.2.2.2.2.2.2.2.2 := by
      rw [f_X3_placeOfFault_L8_s, if_neg (show ¬ (200 : Int32) ≤ nI it from nle (b := 200) (by omega) (by omega)), hyl, if_neg (nle (by omega) (by omega))]
    have s2 : f_X8_fault_L55 ml mt k55 (nf + 1) (nI i) td lw nw = Option.bind (f_X8_readsItem ml (nI i) mt td lw nw) fun z => if z.1 = 0 then some (nI i, z.2.1, z.2.2.1, z.2.2.2.1, z.2.2.2.2) else f_X8_fault_L55 ml mt k55 nf z.2.1 z.2.2.1 z.2.2.2.1 z.2.2.2.2 := by
      rw [f_X8_fault_L55_s, hml, if_neg (nle (by omega) (by omega))]
    rw [s1, s2]
    cases hi : itm (lC n L) r i with
    | none =>
      obtain ⟨z, hz⟩ := c1 hi
      obtain ⟨y, hy⟩ := m1 hi
      rw [hz, hy, ob_some, ob_some, if_pos rfl, if_pos rfl]
      exact Or.inl ⟨i, _, _, rfl, rfl, by omega⟩
    | some x =>
      obtain ⟨j, r'⟩ := x
      obtain ⟨z, hz, hcz⟩ := c2 j r' hi
      obtain ⟨td', lw', nw', hy, hmy⟩ := m2 j r' hi
      obtain ⟨l1, l2⟩ := itm_lt hi
      have hjn : j ≤ n := by
        by_cases q : j - 1 < n
        · omega
        · unfold lC at l2
          rw [if_neg q] at l2
          omega
      rw [hz, hy, ob_some, ob_some]
      have e1 : ¬ nI j = (-4 : Int32) := nI_m4 (by omega)
      rw [if_neg e1, if_neg not10, nI_n1]
      exact ih j (it + 1) r' _ _ _ _ _ _ _ _ _ _ _ td' lw' nw' nf (by omega) hjn (by omega) (itm_V hv hi) hcz hmy (by omega)
theorem clear_c (un : Nat → Int32) : ∃ un', f_X1_clear un = some (0, 0, 0, 0, un') ∧ ∀ p, p < 5 → un' p = -4 := by
  unfold f_X1_clear
  obtain ⟨s, e1, e2⟩ := loopI (fun nf (s : Nat → Int32) v => f_X1_clear_L22 (fun _ q => some ((0 : Int32), (0 : Int32), (0 : Int32), (0 : Int32), q)) nf v s) (fun s _ => some ((0 : Int32), (0 : Int32), (0 : Int32), (0 : Int32), s)) 5 (fun i s => ∀ p, p < i → s p = -4) (fun nf s hs => by
    show f_X1_clear_L22 _ (nf + 1) _ _ = _
    rw [f_X1_clear_L22_s, if_pos (show (5 : Int32) ≤ nI 5 from lle (Nat.le_refl _) (by omega))]) (fun nf i s hi hs => by
    refine ⟨upd s i (-4), fun p hp => ?_, ?_⟩
    · by_cases q : p = i
      · subst q; rw [pk_us]
      · rw [pk_un q]; exact hs p (by omega)
    · show f_X1_clear_L22 _ (nf + 1) _ _ = f_X1_clear_L22 _ nf _ _
      rw [f_X1_clear_L22_s, if_neg (show ¬ (5 : Int32) ≤ nI i from nle (b := 5) hi (by omega)), if_pos (okb_nI hi (by omega)), clN (by omega), nI_n1]) 5 0 20000 un (by omega) (by omega) (fun p hp => by omega)
  exact ⟨s, e2, e1⟩
abbrev M5 : Type := Option (Int32 × Int32 × (Nat → Int32) × (Nat → Int32) × (Nat → Int32))
theorem zero7 (k : Int32 → (Nat → Int32) → M5) (s0 : Nat → Int32) : ∃ s, f_X8_fault_L7 k 20000 0 s0 = k (nI 22) s ∧ ∀ p, p < 22 → s p = 0 := by
  obtain ⟨s, e1, e2⟩ := loopI (fun nf (s : Nat → Int32) v => f_X8_fault_L7 k nf v s) (fun s v => k v s) 22 (fun i s => ∀ p, p < i → s p = 0) (fun nf s hs => by
    show f_X8_fault_L7 _ (nf + 1) _ _ = _
    rw [f_X8_fault_L7_s, if_pos (show (22 : Int32) ≤ nI 22 from lle (Nat.le_refl _) (by omega))]) (fun nf i s hi hs => by
    refine ⟨upd s i 0, fun p hp => ?_, ?_⟩
    · by_cases q : p = i
      · subst q; rw [pk_us]
      · rw [pk_un q]; exact hs p (by omega)
    · show f_X8_fault_L7 _ (nf + 1) _ _ = f_X8_fault_L7 _ nf _ _
      rw [f_X8_fault_L7_s, if_neg (show ¬ (22 : Int32) ≤ nI i from nle (b := 22) hi (by omega)), if_pos (okb_nI hi (by omega)), clN (by omega), nI_n1]) 22 0 20000 s0 (by omega) (by omega) (fun p hp => by omega)
  exact ⟨s, e2, e1⟩
theorem zero28 (k : Int32 → (Nat → Int32) → M5) (s0 : Nat → Int32) : ∃ s, f_X8_fault_L28 k 20000 0 s0 = k (nI 26) s ∧ ∀ p, p < 26 → s p = 0 := by
  obtain ⟨s, e1, e2⟩ := loopI (fun nf (s : Nat → Int32) v => f_X8_fault_L28 k nf v s) (fun s v => k v s) 26 (fun i s => ∀ p, p < i → s p = 0) (fun nf s hs => by
    show f_X8_fault_L28 _ (nf + 1) _ _ = _
    rw [f_X8_fault_L28_s, if_pos (show (26 : Int32) ≤ nI 26 from lle (Nat.le_refl _) (by omega))]) (fun nf i s hi hs => by
    refine ⟨upd s i 0, fun p hp => ?_, ?_⟩
    · by_cases q : p = i
      · subst q; rw [pk_us]
      · rw [pk_un q]; exact hs p (by omega)
    · show f_X8_fault_L28 _ (nf + 1) _ _ = f_X8_fault_L28 _ nf _ _
      rw [f_X8_fault_L28_s, if_neg (show ¬ (26 : Int32) ≤ nI i from nle (b := 26) hi (by omega)), if_pos (okb_nI hi (by omega)), clN (by omega), nI_n1]) 26 0 20000 s0 (by omega) (by omega) (fun p hp => by omega)
  exact ⟨s, e2, e1⟩
def r0 : RT := (⟨6, 0, 0, 0, fun _ => 0, fun _ => 0, fun _ => 0, fun _ => 0, fun _ => 0, fun _ => 0⟩ : RT)
theorem r0_V : RV r0 := ⟨by decide, by decide, by decide, by decide, fun u (hu : u < 0) => by omega, fun u (hu : u < 0) => by omega, fun u (hu : u < 0) => by omega⟩
/-- the place of the first fault, and what was read -/
theorem place (hT : IT n L yl ml yt mt) (rn kd wq wr ho wn sr un td lw nw : Nat → Int32) :
    (∃ p zc zm, f_X3_placeOfFault rn kd wq wr ho wn sr un yl yt = some (nI p, zc) ∧ f_X8_fault ml mt td lw nw = some (nI p, zm) ∧ p < 200) ∨
    (∃ r' rn' sq' pa' pe' wo' kd' wq' wr' ho' wn' sr' un' ra' td' lw' nw', RV r' ∧ RC r' (rn', sq', pa', pe', wo', kd', wq', wr', ho', wn', sr') ∧ RM r' lw' nw' ∧ (∀ p, p < 5 → un' p = -4) ∧ f_X3_placeOfFault rn kd wq wr ho wn sr un yl yt = some (-4, rn', sq', pa', pe', wo', kd', wq', wr', 0, 0, 0, 0, ho', wn', sr', un') ∧ f_X8_fault ml mt td lw nw = some (-4, ra', td', lw', nw')) := by
  have hn := hT.1
  obtain ⟨un', u1, u2⟩ := clear_c un
  unfold f_X3_placeOfFault f_X3_clear f_X8_fault
  rw [u1, ob_some, ob_some]
  obtain ⟨lw1, z1, z2⟩ := zero7 (fun v1 m_readLaw_2 => f_X8_fault_L28 (fun v5 m_readNow_6 => f_X8_fault_L55 ml mt (fun m_readAt_9 m_told_10 m_readLaw_11 m_readNow_12 => some ((-4 : Int32), m_readAt_9, m_told_10, m_readLaw_11, m_readNow_12)) 20000 (0 : Int32) td (upd m_readLaw_2 (0 : Int32).toNatClampNeg (6 : Int32)) m_readNow_6) 20000 (0 : Int32) nw) lw
  obtain ⟨nw1, z3, z4⟩ := zero28 (fun v5 m_readNow_6 => f_X8_fault_L55 ml mt (fun m_readAt_9 m_told_10 m_readLaw_11 m_readNow_12 => some ((-4 : Int32), m_readAt_9, m_told_10, m_readLaw_11, m_readNow_12)) 20000 (0 : Int32) td (upd lw1 (0 : Int32).toNatClampNeg (6 : Int32)) m_readNow_6) nw
  have hm0 : RM r0 (upd lw1 0 6) nw1 := by
    refine ⟨pk_us, ?_, ?_, ?_, fun u (hu : u < 0) => by omega, fun u (hu : u < 0) => by omega, fun u (hu : u < 0) => by omega, fun u (hu : u < 0) => by omega, fun u (hu : u < 0) => by omega, fun u (hu : u < 0) => by omega, fun k hk => z4 k (by omega)⟩
    · rw [pk_un (by omega)]; exact z2 1 (by omega)
    · rw [pk_un (by omega)]; exact z2 2 (by omega)
    · rw [pk_un (by omega)]; exact z2 3 (by omega)
  have hc0 : RC r0 (rn, 6, 0, 0, 0, kd, wq, wr, ho, wn, sr) := ⟨rfl, rfl, rfl, rfl, fun u (hu : u < 0) => by omega, fun u (hu : u < 0) => by omega, fun u (hu : u < 0) => by omega, fun u (hu : u < 0) => by omega, fun u (hu : u < 0) => by omega, fun u (hu : u < 0) => by omega⟩
  rcases faults hT 0 0 0 0 un' (fun v11 v12 rnum_13 rpsq_14 rppa_15 rppe_16 rpwo_17 rpkind_18 rpwsq_19 rpwhr_20 rmhour_21 rmworn_22 rmsquare_23 => some ((-4 : Int32), rnum_13, rpsq_14, rppa_15, rppe_16, rpwo_17, rpkind_18, rpwsq_19, rpwhr_20, 0, 0, 0, 0, rmhour_21, rmworn_22, rmsquare_23, un')) (fun m_readAt_9 m_told_10 m_readLaw_11 m_readNow_12 => some ((-4 : Int32), m_readAt_9, m_told_10, m_readLaw_11, m_readNow_12)) n 0 0 r0 rn 6 0 0 0 kd wq wr ho wn sr td (upd lw1 0 6) nw1 20000 (by omega) (by omega) (by omega) r0_V hc0 hm0 (by omega) with ⟨p, zc, zm, f1, f2, f3⟩ | ⟨j, jt, r', rn', sq', pa', pe', wo', kd', wq', wr', ho', wn', sr', td', lw', nw', f1, f2, f3, f4, f5⟩
  · exact Or.inl ⟨p, zc, zm, f1, z1.trans (z3.trans f2), f3⟩
  · exact Or.inr ⟨r', rn', sq', pa', pe', wo', kd', wq', wr', ho', wn', sr', un', j, td', lw', nw', f1, f2, f3, u2, f4, z1.trans (z3.trans f5)⟩
theorem s_fault (hT : IT n L yl ml yt mt) (rn kd wq wr ho wn sr un td lw nw : Nat → Int32) : ∃ rr zc zm, f_X7_fault yl yt rn kd wq wr ho wn sr un = some (rr, zc) ∧ f_X8_fault ml mt td lw nw = some (rr, zm) := by
  unfold f_X7_fault
  rcases place hT rn kd wq wr ho wn sr un td lw nw with ⟨p, zc, zm, f1, f2, -⟩ | ⟨r', rn', sq', pa', pe', wo', kd', wq', wr', ho', wn', sr', un', ra', td', lw', nw', -, -, -, -, f1, f2⟩
  · exact ⟨nI p, _, zm, by rw [f1, ob_some], f2⟩
  · exact ⟨-4, _, _, by rw [f1, ob_some], f2⟩
abbrev M10 : Type := Option (Int32 × Int32 × Int32 × Int32 × Int32 × (Nat → Int32) × (Nat → Int32) × (Nat → Int32) × (Nat → Int32) × (Nat → Int32))
theorem lay32 (t : Nat → Int32) (k : Int32 → (Nat → Int32) → M10) (s0 : Nat → Int32) : ∃ s, f_X8_lay_L32 t k 20000 0 s0 = k (nI 22) s ∧ ∀ p, p < 22 → s p = t p := by
  obtain ⟨s, e1, e2⟩ := loopI (fun nf (s : Nat → Int32) v => f_X8_lay_L32 t k nf v s) (fun s v => k v s) 22 (fun i s => ∀ p, p < i → s p = t p) (fun nf s hs => by
    show f_X8_lay_L32 _ _ (nf + 1) _ _ = _
    rw [f_X8_lay_L32_s, if_pos (show (22 : Int32) ≤ nI 22 from lle (Nat.le_refl _) (by omega))]) (fun nf i s hi hs => by
    refine ⟨upd s i (t i), fun p hp => ?_, ?_⟩
    · by_cases q : p = i
      · subst q; rw [pk_us]
      · rw [pk_un q]; exact hs p (by omega)
    · show f_X8_lay_L32 _ _ (nf + 1) _ _ = f_X8_lay_L32 _ _ nf _ _
      rw [f_X8_lay_L32_s, if_neg (show ¬ (22 : Int32) ≤ nI i from nle (b := 22) hi (by omega)), if_pos (okb_nI hi (by omega)), clN (by omega), nI_n1]) 22 0 20000 s0 (by omega) (by omega) (fun p hp => by omega)
  exact ⟨s, e2, e1⟩
theorem lay58 (t : Nat → Int32) (k : Int32 → (Nat → Int32) → M10) (s0 : Nat → Int32) : ∃ s, f_X8_lay_L58 t k 20000 0 s0 = k (nI 26) s ∧ ∀ p, p < 26 → s p = t p := by
  obtain ⟨s, e1, e2⟩ := loopI (fun nf (s : Nat → Int32) v => f_X8_lay_L58 t k nf v s) (fun s v => k v s) 26 (fun i s => ∀ p, p < i → s p = t p) (fun nf s hs => by
    show f_X8_lay_L58 _ _ (nf + 1) _ _ = _
    rw [f_X8_lay_L58_s, if_pos (show (26 : Int32) ≤ nI 26 from lle (Nat.le_refl _) (by omega))]) (fun nf i s hi hs => by
    refine ⟨upd s i (t i), fun p hp => ?_, ?_⟩
    · by_cases q : p = i
      · subst q; rw [pk_us]
      · rw [pk_un q]; exact hs p (by omega)
    · show f_X8_lay_L58 _ _ (nf + 1) _ _ = f_X8_lay_L58 _ _ nf _ _
      rw [f_X8_lay_L58_s, if_neg (show ¬ (26 : Int32) ≤ nI i from nle (b := 26) hi (by omega)), if_pos (okb_nI hi (by omega)), clN (by omega), nI_n1]) 26 0 20000 s0 (by omega) (by omega) (fun p hp => by omega)
  exact ⟨s, e2, e1⟩
theorem lay84 (k : Int32 → (Nat → Int32) → M10) (s0 : Nat → Int32) : ∃ s, f_X8_lay_L84 k 20000 0 s0 = k (nI 5) s ∧ (∀ p, p < 5 → s (21 + p) = -4) ∧ ∀ j, j < 21 → s j = s0 j := by
  obtain ⟨s, ⟨e1, e3⟩, e2⟩ := loopI (fun nf (s : Nat → Int32) v => f_X8_lay_L84 k nf v s) (fun s v => k v s) 5 (fun i s => (∀ p, p < i → s (21 + p) = -4) ∧ ∀ j, j < 21 → s j = s0 j) (fun nf s hs => by
    show f_X8_lay_L84 _ (nf + 1) _ _ = _
    rw [f_X8_lay_L84_s, if_pos (show (5 : Int32) ≤ nI 5 from lle (Nat.le_refl _) (by omega))]) (fun nf i s hi hs => by
    refine ⟨upd s (21 + i) (-4), ⟨fun p hp => ?_, fun j hj => ?_⟩, ?_⟩
    · by_cases q : p = i
      · subst q; rw [pk_us]
      · rw [pk_un (by omega)]; exact hs.1 p (by omega)
    · rw [pk_un (by omega)]; exact hs.2 j hj
    · show f_X8_lay_L84 _ (nf + 1) _ _ = f_X8_lay_L84 _ nf _ _
      rw [f_X8_lay_L84_s, if_neg (show ¬ (5 : Int32) ≤ nI i from nle (b := 5) hi (by omega)), a21, if_pos (okb_nI (by omega) (by omega)), clN (by omega), nI_n1]) 5 0 20000 s0 (by omega) (by omega) ⟨fun p hp => by omega, fun j _ => rfl⟩
  exact ⟨s, e2, e1, e3⟩
theorem planCopy (pk wq wr : Nat → Int32) (a b c d : Int32) (kd ws wh : Nat → Int32) : f_X2_copyFrom pk wq wr a b c d kd ws wh = some (a, b, c, d, cpy 6 kd pk, cpy 6 ws wq, cpy 6 wh wr) := by
  unfold f_X2_copyFrom
  rw [copyRow_eq (by omega), ob_some, copyRow_eq (by omega), ob_some, copyRow_eq (by omega), ob_some]
end FAULT
