theorem adv_eq (K g : Nat) : turns K g 1 * turn1 K = if K = 2 then 1 - g % 2 else if K = 3 then 2 else 1 := by
  unfold turns turn1
  have := Nat.mod_lt g (show 0 < 2 by omega)
  by_cases h : K = 2
  · subst h; simp; omega
  · by_cases h3 : K = 3
    · subst h3; simp
    · simp [h, h3]
theorem goesOn_eq {sq pa pe wo u g : Nat} {K WS WH : Nat → Nat} {m : Nat → Int32} (hm : MP sq pa pe wo K WS WH m) (hpa : pa ≤ 6) (hu : u < pa) (hg : g < 100000) : f_X8_goesOn m (nI u) (nI g) = some (nI (turns (K u) g 1 * turn1 (K u))) := by
  obtain ⟨k1, k2⟩ := hm.2.2.2.2.1 u hu
  have := Nat.mod_lt g (show 0 < 2 by omega)
  unfold f_X8_goesOn
  rw [adv_eq, a4, if_pos (okb_nI (by omega) (by omega)), clN (by omega), k1]
  by_cases h : K u = 2
  · rw [if_pos ((kN2 _ k2).mpr h), if_pos h, jrem2 (by omega), show (1 : Int32) = nI 1 from rfl, pk_sub (by omega)]
  · rw [if_neg (fun q => h ((kN2 _ k2).mp q)), if_neg h]
    by_cases h3 : K u = 3
    · rw [if_pos ((kN3 _ k2).mpr h3), if_pos h3]; rfl
    · rw [if_neg (fun q => h3 ((kN3 _ k2).mp q)), if_neg h3]; rfl
theorem wears_eq {sq pa pe wo u g : Nat} {K WS WH : Nat → Nat} {m : Nat → Int32} (hm : MP sq pa pe wo K WS WH m) (hpa : pa ≤ 6) (hu : u < pa) (hg : g < 100000) : f_X8_wears m (nI u) (nI g) = some (nI (wears (K u) g 1)) := by
  obtain ⟨k1, k2⟩ := hm.2.2.2.2.1 u hu
  have := Nat.mod_lt g (show 0 < 2 by omega)
  unfold f_X8_wears wears
  rw [a4, if_pos (okb_nI (by omega) (by omega)), clN (by omega), k1]
  by_cases h : K u = 1
  · rw [if_pos ((kN1 _ k2).mpr h), if_pos h, jrem2 (by omega), show (1 : Int32) = nI 1 from rfl, pk_sub (by omega)]
    congr 2
    omega
  · rw [if_neg (fun q => h ((kN1 _ k2).mp q)), if_neg h]; rfl
theorem MM.hi {pa pe u : Nat} {Ho Wo Sq Un Ho' Wo' : Nat → Nat} {o : Nat → Int32} {x y : Nat} (h : MM pa pe Ho Wo Sq Un o) (hpa : pa ≤ 6) (hpe : pe ≤ 5) (hu : u < pa) (h1 : ∀ v, v < pa → v ≠ u → Ho' v = Ho v) (h2 : Ho' u = x) (h3 : ∀ v, v < pa → v ≠ u → Wo' v = Wo v) (h4 : Wo' u = y) : MM pa pe Ho' Wo' Sq Un (upd (upd o (4 + u) (nI x)) (10 + u) (nI y)) := by
  refine ⟨fun v hv => ?_, fun v hv => ?_, fun v hv => ?_, fun v hv => ?_⟩
  · rw [pk_un (by omega)]
    by_cases q : v = u
    · subst q; rw [pk_us, h2]
    · rw [pk_un (by omega), h.1 v hv, h1 v hv q]
  · by_cases q : v = u
    · subst q; rw [pk_us, h4]
    · rw [pk_un (by omega), pk_un (by omega), h.2.1 v hv, h3 v hv q]
  · rw [pk_un (by omega), pk_un (by omega)]; exact h.2.2.1 v hv
  · rw [pk_un (by omega), pk_un (by omega)]; exact h.2.2.2 v hv
theorem part_s {i u : Nat} {A B : Nat → Nat} (h : u ≠ i) : part (i + 1) A B u = part i A B u := by
  unfold part
  by_cases h3 : u < i
  · rw [if_pos h3, if_pos (by omega)]
  · rw [if_neg h3, if_neg (by omega)]
theorem part_t (i : Nat) (A B : Nat → Nat) : part (i + 1) A B i = A i := if_pos (by omega)
theorem MM.cong {pa pe : Nat} {Ho Wo Sq Un Ho' Wo' : Nat → Nat} {o : Nat → Int32} (h : MM pa pe Ho Wo Sq Un o) (h1 : ∀ v, v < pa → Ho' v = Ho v) (h2 : ∀ v, v < pa → Wo' v = Wo v) : MM pa pe Ho' Wo' Sq Un o := ⟨fun v hv => by rw [h1 v hv]; exact h.1 v hv, fun v hv => by rw [h2 v hv]; exact h.2.1 v hv, h.2.2.1, h.2.2.2⟩
theorem turn_m {sq pa pe wo g : Nat} {Ho Wo Sq Un K WS WH : Nat → Nat} {o m : Nat → Int32} (hc : MM pa pe Ho Wo Sq Un o) (hv : VM sq pa pe Ho Wo Sq Un) (hm : MP sq pa pe wo K WS WH m) (h0 : o 0 = nI g) (hg : g < 100000) (k : Int32 → (Nat → Int32) → Option (Nat → Int32)) :
    ∃ o', f_X8_goes_L92 m k 20000 0 o = k (nI pa) o' ∧ MM pa pe (spHo Un K pe g Ho) (spWo Un K pe g Wo) Sq Un o' ∧ ∀ j, j < 4 → o' j = o j := by
  obtain ⟨v1, v2, v3, v4, v5, v6, v7, v8⟩ := id hv
  have m1 := hm.2.1
  have m2 := hm.2.2.1
  obtain ⟨s', e1, e2⟩ := loopI (fun nf (s : Nat → Int32) v => f_X8_goes_L92 m k nf v s) (fun s v => k v s) pa (fun i s => MM pa pe (part i (spHo Un K pe g Ho) Ho) (part i (spWo Un K pe g Wo) Wo) Sq Un s ∧ ∀ j, j < 4 → s j = o j) (fun nf s hs => by
      show f_X8_goes_L92 _ _ (nf + 1) _ _ = _
      rw [f_X8_goes_L92_s, cl1, m1, if_pos (lle (Nat.le_refl _) (by omega))]) (fun nf i s hi hs => by
      obtain ⟨h1, h2⟩ := hs
      have hU : ∀ p, p < pe → Un p < 7 ∧ s (21 + p) = eU (Un p) := fun p hp => ⟨hv.un hp, h1.2.2.2 p hp⟩
      have b1 := h1.1 i hi
      have b2 := h1.2.1 i hi
      rw [part_i] at b1 b2
      have hu5 := spU_lt Un i v3
      have ht := tt_le (K := K i) (g := g) (n := 1)
      have hw := wears_le (K := K i) (g := g) (n := 1)
      have h4 := v4 i hi
      have h5 := v5 i hi
      by_cases q : spU Un pe i = 0
      · refine ⟨s, ⟨h1.cong (fun v hv => ?_) (fun v hv => ?_), h2⟩, ?_⟩
        · by_cases hvi : v = i
          · subst hvi; rw [part_t, part_i]; exact if_pos q
          · exact part_s hvi
        · by_cases hvi : v = i
          · subst hvi; rw [part_t, part_i]; exact if_pos q
          · exact part_s hvi
        · show f_X8_goes_L92 _ _ (nf + 1) _ _ = f_X8_goes_L92 _ _ nf _ _
          rw [f_X8_goes_L92_s, cl1, m1, if_neg (nle hi (by omega)), under_eq v3 m2 (by omega) hU, ob_some, if_pos (by rw [q]; rfl), nI_n1]
      · refine ⟨upd (upd s (4 + i) (nI (hourAt (K i) g (Ho i) 1))) (10 + i) (nI (wornAt (K i) g (Wo i) 1)), ⟨h1.hi v2 v3 hi (fun v _ hvi => part_s hvi) (by rw [part_t]; exact if_neg q) (fun v _ hvi => part_s hvi) (by rw [part_t]; exact if_neg q), fun j hj => by rw [pk_un (by omega), pk_un (by omega)]; exact h2 j hj⟩, ?_⟩
        show f_X8_goes_L92 _ _ (nf + 1) _ _ = f_X8_goes_L92 _ _ nf _ _
        rw [f_X8_goes_L92_s, cl1, m1, if_neg (nle hi (by omega)), under_eq v3 m2 (by omega) hU, ob_some, if_neg (fun z => q ((nI_z (by omega)).mp z)), a4, if_pos (okb_nI (by omega) (by omega)), cl0, clN (by omega), h2 0 (by omega), h0, goesOn_eq hm v2 hi hg, ob_some, a10, if_pos (okb_nI (by omega) (by omega)), clN (by omega), b1, nI_add, jrem24 (by omega), pk_un (show (0 : Nat) ≠ 4 + i by omega), h2 0 (by omega), h0, wears_eq hm v2 hi hg, ob_some, pk_un (show 10 + i ≠ 4 + i by omega), b2, nI_add, nI_n1]
        unfold wornAt hourAt
        by_cases h : Wo i + wears (K i) g 1 ≤ 20
        · rw [if_pos ((le20 (by omega)).mpr h)]
          by_cases h' : Wo i + wears (K i) g 1 < 20
          · rw [if_pos h']
          · rw [if_neg h', show Wo i + wears (K i) g 1 = 20 by omega]
        · rw [if_neg (fun z => h ((le20 (by omega)).mp z)), if_neg (by omega)]
          rfl) pa 0 20000 o (by omega) (by omega) ⟨by rw [part_0, part_0]; exact hc, fun _ _ => rfl⟩
  exact ⟨s', e2, e1.1.cong (fun v hv => (if_pos hv).symm) (fun v hv => (if_pos hv).symm), e1.2⟩
-- one hour: what goes on. gone, met, still, done, hours, worn
abbrev AMt : Type := Nat × Int32 × Nat × Nat × (Nat → Nat) × (Nat → Nat)
def spGo (K WS WH Sq Un : Nat → Nat) (pa pe wo : Nat) (a : AMt) : AMt := (a.1 + 1, a.2.1 + nI (totM (spC a.2.2.2.2.1 Sq Un pe) pa), spSt a.2.2.2.2.2 Sq Un pe a.2.2.1, spDo a.2.2.2.2.1 a.2.2.2.2.2 Sq Un WS WH wo a.2.2.1 a.2.2.2.1 pe, spHo Un K pe a.1 a.2.2.2.2.1, spWo Un K pe a.1 a.2.2.2.2.2)
def spGoN (K WS WH Sq Un : Nat → Nat) (pa pe wo : Nat) : Nat → AMt → AMt
  | 0, a => a
  | n + 1, a => spGo K WS WH Sq Un pa pe wo (spGoN K WS WH Sq Un pa pe wo n a)
/-- an abstract moment that can be -/
def VA (sq pa pe wo : Nat) (Sq Un : Nat → Nat) (a : AMt) : Prop := VM sq pa pe a.2.2.2.2.1 a.2.2.2.2.2 Sq Un ∧ a.2.2.1 < 2 ^ pe ∧ a.2.2.2.1 < 2 ^ wo
theorem VA.S {sq pa pe wo : Nat} {Sq Un : Nat → Nat} {a : AMt} (h : VA sq pa pe wo Sq Un a) : a.2.2.1 < 32 := Nat.lt_of_lt_of_le h.2.1 (Nat.pow_le_pow_right (by omega) h.1.2.2.1)
theorem VA.D {sq pa pe wo : Nat} {Sq Un : Nat → Nat} {a : AMt} (h : VA sq pa pe wo Sq Un a) (hw : wo ≤ 6) : a.2.2.2.1 < 64 := Nat.lt_of_lt_of_le h.2.2 (Nat.pow_le_pow_right (by omega) hw)
theorem spDo_lt2 {Ho Wo Sq Un WS WH : Nat → Nat} {wo S D : Nat} (hD : D < 2 ^ wo) : ∀ p, spDo Ho Wo Sq Un WS WH wo S D p < 2 ^ wo
  | 0 => hD
  | p + 1 => by
    have := spDo_lt2 (Ho := Ho) (Wo := Wo) (Sq := Sq) (Un := Un) (WS := WS) (WH := WH) (S := S) hD p
    rw [spDo]
    split
    · exact this
    · exact Nat.or_lt_two_pow this (mask_lt _ _)
theorem VA.go {sq pa pe wo : Nat} {K WS WH Sq Un : Nat → Nat} {a : AMt} (h : VA sq pa pe wo Sq Un a) : VA sq pa pe wo Sq Un (spGo K WS WH Sq Un pa pe wo a) := by
  obtain ⟨⟨v1, v2, v3, v4, v5, v6, v7, v8⟩, h2, h3⟩ := h
  refine ⟨⟨v1, v2, v3, fun u hu => ?_, fun u hu => ?_, v6, v7, v8⟩, Nat.or_lt_two_pow h2 (mask_lt _ _), spDo_lt2 h3 pe⟩
  · show spHo _ _ _ _ _ u < 24
    unfold spHo
    split
    · exact v4 u hu
    · exact hourAt_lt
  · show spWo _ _ _ _ _ u ≤ 20
    unfold spWo
    split
    · exact v5 u hu
    · exact wornAt_le
theorem VA.goN {sq pa pe wo : Nat} {K WS WH Sq Un : Nat → Nat} {a : AMt} (h : VA sq pa pe wo Sq Un a) : ∀ n, VA sq pa pe wo Sq Un (spGoN K WS WH Sq Un pa pe wo n a)
  | 0 => h
  | n + 1 => (VA.goN h n).go
theorem goN_gone (K WS WH Sq Un : Nat → Nat) (pa pe wo : Nat) (a : AMt) : ∀ n, (spGoN K WS WH Sq Un pa pe wo n a).1 = a.1 + n
  | 0 => rfl
  | n + 1 => by show (spGoN K WS WH Sq Un pa pe wo n a).1 + 1 = _; rw [goN_gone K WS WH Sq Un pa pe wo a n]; omega
theorem goes_m {sq pa pe wo : Nat} {K WS WH Sq Un : Nat → Nat} {o m : Nat → Int32} {a : AMt} (hc : MM pa pe a.2.2.2.2.1 a.2.2.2.2.2 Sq Un o) (hv : VA sq pa pe wo Sq Un a) (hm : MP sq pa pe wo K WS WH m) (h0 : o 0 = nI a.1) (h1 : o 1 = a.2.1) (h2 : o 2 = nI a.2.2.2.1) (h3 : o 3 = nI a.2.2.1) (hg : a.1 < 100000) :
    ∃ o', f_X8_goes m o = some o' ∧ MM pa pe (spGo K WS WH Sq Un pa pe wo a).2.2.2.2.1 (spGo K WS WH Sq Un pa pe wo a).2.2.2.2.2 Sq Un o' ∧ o' 0 = nI (spGo K WS WH Sq Un pa pe wo a).1 ∧ o' 1 = (spGo K WS WH Sq Un pa pe wo a).2.1 ∧ o' 2 = nI (spGo K WS WH Sq Un pa pe wo a).2.2.2.1 ∧ o' 3 = nI (spGo K WS WH Sq Un pa pe wo a).2.2.1 := by
  have hD := hv.D hm.2.2.2.2.2.1
  have hS := hv.S
  obtain ⟨g, mt, S, D, Ho, Wo⟩ := a
  have hv := hv.1
  unfold f_X8_goes
  rw [doWorks_m hc hv hm h2 h3 hD (by omega)]
  have hc1 := hc.lo (k := 2) (by omega) (nI (spDo Ho Wo Sq Un WS WH wo S D pe))
  rw [meetings_m hc1 hv hm, ob_some, cl1, pk_un (show (1 : Nat) ≠ 2 by omega), h1]
  have hc2 := hc1.lo (k := 1) (by omega) (mt + nI (totM (spC Ho Sq Un pe) pa))
  rw [standStill_m hc2 hv hm (by rw [pk_un (by omega), pk_un (by omega)]; exact h3)]
  have hc3 := hc2.lo (k := 3) (by omega) (nI (spSt Wo Sq Un pe S))
  obtain ⟨o', e1, e2, e3⟩ := turn_m hc3 hv hm (by rw [pk_un (by omega), pk_un (by omega), pk_un (by omega)]; exact h0) hg (fun v15 o_16 => some (upd o_16 (0 : Int32).toNatClampNeg (o_16 (0 : Int32).toNatClampNeg + 1)))
  rw [e1, cl0]
  refine ⟨_, rfl, e2.lo (by omega) _, ?_, ?_, ?_, ?_⟩
  · rw [pk_us, e3 0 (by omega), pk_un (by omega), pk_un (by omega), pk_un (by omega), h0]; exact nI_n1 g
  · rw [pk_un (by omega), e3 1 (by omega), pk_un (by omega), pk_us]; rfl
  · rw [pk_un (by omega), e3 2 (by omega), pk_un (by omega), pk_un (by omega), pk_us]; rfl
  · rw [pk_un (by omega), e3 3 (by omega), pk_us]; rfl
