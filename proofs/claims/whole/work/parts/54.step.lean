theorem ob_some {α β : Type} (a : α) (f : α → Option β) : Option.bind (some a) f = f a := rfl
theorem loopI {σ α : Type} (L : Nat → σ → Int32 → Option α) (k : σ → Int32 → Option α) (n : Nat) (I : Nat → σ → Prop)
    (hexit : ∀ nf s, I n s → L (nf + 1) s (nI n) = k s (nI n))
    (hstep : ∀ nf i s, i < n → I i s → ∃ s', I (i + 1) s' ∧ L (nf + 1) s (nI i) = L nf s' (nI (i + 1))) :
    ∀ d i fuel s, i + d = n → d < fuel → I i s → ∃ s', I n s' ∧ L fuel s (nI i) = k s' (nI n) := by
  intro d
  induction d with
  | zero =>
    intro i fuel s h1 h2 h3
    obtain ⟨m, rfl⟩ : ∃ m, fuel = m + 1 := ⟨fuel - 1, by omega⟩
    have : i = n := by omega
    subst this
    exact ⟨s, h3, hexit m s h3⟩
  | succ d ih =>
    intro i fuel s h1 h2 h3
    obtain ⟨m, rfl⟩ : ∃ m, fuel = m + 1 := ⟨fuel - 1, by omega⟩
    obtain ⟨s1, g1, g2⟩ := hstep m i s (by omega) h3
    obtain ⟨s2, g3, g4⟩ := ih (i + 1) m s1 (by omega) (by omega) g1
    exact ⟨s2, g3, g2.trans g4⟩
/-- the class's moment, and the reference's row, hold these numbers -/
def CM (pa pe : Nat) (Ho Wo Sq Un : Nat → Nat) (qh qw qs qu : Nat → Int32) : Prop := (∀ u, u < pa → qh u = nI (Ho u)) ∧ (∀ u, u < pa → qw u = nI (Wo u)) ∧ (∀ p, p < pe → qs p = nI (Sq p)) ∧ (∀ p, p < pe → qu p = eU (Un p))
def MM (pa pe : Nat) (Ho Wo Sq Un : Nat → Nat) (o : Nat → Int32) : Prop := (∀ u, u < pa → o (4 + u) = nI (Ho u)) ∧ (∀ u, u < pa → o (10 + u) = nI (Wo u)) ∧ (∀ p, p < pe → o (16 + p) = nI (Sq p)) ∧ (∀ p, p < pe → o (21 + p) = eU (Un p))
def VM (sq pa pe : Nat) (Ho Wo Sq Un : Nat → Nat) : Prop := sq ≤ 9 ∧ pa ≤ 6 ∧ pe ≤ 5 ∧ (∀ u, u < pa → Ho u < 24) ∧ (∀ u, u < pa → Wo u ≤ 20) ∧ (∀ p, p < pe → Sq p < sq) ∧ (∀ p, p < pe → Un p < pa ∨ Un p = 6) ∧ Shr pe Un Sq
theorem VM.un {sq pa pe : Nat} {Ho Wo Sq Un : Nat → Nat} (h : VM sq pa pe Ho Wo Sq Un) {p : Nat} (hp : p < pe) : Un p < 7 := by
  have h1 := h.2.1
  rcases h.2.2.2.2.2.2.1 p hp with h2 | h2 <;> omega
theorem CM.U {sq pa pe : Nat} {Ho Wo Sq Un : Nat → Nat} {qh qw qs qu : Nat → Int32} (h : CM pa pe Ho Wo Sq Un qh qw qs qu) (hv : VM sq pa pe Ho Wo Sq Un) : ∀ p, p < pe → Un p < 7 ∧ qu p = eU (Un p) := fun p hp => ⟨hv.un hp, h.2.2.2 p hp⟩
theorem MM.U {sq pa pe : Nat} {Ho Wo Sq Un : Nat → Nat} {o : Nat → Int32} (h : MM pa pe Ho Wo Sq Un o) (hv : VM sq pa pe Ho Wo Sq Un) : ∀ p, p < pe → Un p < 7 ∧ o (21 + p) = eU (Un p) := fun p hp => ⟨hv.un hp, h.2.2.2 p hp⟩
theorem eU_cases {pa x : Nat} (hpa : pa ≤ 6) (h : x < pa ∨ x = 6) : (x < pa ∧ x < 6 ∧ eU x = nI x ∧ ¬ nI x = (-4 : Int32)) ∨ (x = 6 ∧ eU x = -4) := by
  rcases h with h | h
  · refine Or.inl ⟨h, by omega, eU_lt (by omega), fun q => ?_⟩
    have := (eU_decN x (by omega)).mp (by rw [eU_lt (by omega)]; exact q)
    omega
  · subst h; exact Or.inr ⟨rfl, rfl⟩
theorem lt12 {a : Nat} (h : a < 2 ^ 31) : (12 : Int32) < nI a ↔ 12 < a := nI_ltI (by decide) h
-- shade
def spSh (Wo Sq Un : Nat → Nat) (p : Nat) : Bool := Sq p == 0 || (!(Un p == 6) && decide (Wo (Un p) ≤ 12))
theorem hasShade_c {sq pa pe p : Nat} {Ho Wo Sq Un : Nat → Nat} {qh qw qs qu : Nat → Int32} (hc : CM pa pe Ho Wo Sq Un qh qw qs qu) (hv : VM sq pa pe Ho Wo Sq Un) (hp : p < pe) : f_X1_hasShade qw qs qu (nI p) = some (if spSh Wo Sq Un p = true then 1 else 0) := by
  obtain ⟨v1, v2, v3, v4, v5, v6, v7, v8⟩ := hv
  have h6 := v6 p hp
  unfold f_X1_hasShade
  rw [parasolOf_eq qu (by omega), hc.2.2.2 p hp]
  show Option.bind (f_X1_squareOf qs (nI p)) _ = _
  rw [squareOf_eq qs (by omega), hc.2.2.1 p hp]
  show (if nI (Sq p) = 0 then _ else _) = _
  by_cases h0 : Sq p = 0
  · rw [if_pos ((nI_z (by omega)).mpr h0), if_pos (by simp [spSh, h0])]
  · rw [if_neg (fun q => h0 ((nI_z (by omega)).mp q))]
    rcases eU_cases v2 (v7 p hp) with ⟨g1, g2, g3, g4⟩ | ⟨g1, g2⟩
    · have h5 := v5 _ g1
      rw [g3, if_neg g4, wornOf_eq qw g2, hc.2.1 _ g1]
      show (if (12 : Int32) < nI (Wo (Un p)) then _ else _) = _
      by_cases h12 : 12 < Wo (Un p)
      · rw [if_pos ((lt12 (by omega)).mpr h12), if_neg (by simp [spSh, h0]; omega)]
      · rw [if_neg (fun q => h12 ((lt12 (by omega)).mp q)), if_pos (by simp [spSh, h0]; omega)]
    · rw [g2, if_pos rfl, if_neg (by simp [spSh, h0, g1])]
theorem hasShade_m {sq pa pe p : Nat} {Ho Wo Sq Un : Nat → Nat} {o : Nat → Int32} (hc : MM pa pe Ho Wo Sq Un o) (hv : VM sq pa pe Ho Wo Sq Un) (hp : p < pe) : f_X8_hasShade o (nI p) = some (if spSh Wo Sq Un p = true then 1 else 0) := by
  obtain ⟨v1, v2, v3, v4, v5, v6, v7, v8⟩ := hv
  have h6 := v6 p hp
  unfold f_X8_hasShade
  rw [a21, a16, if_pos (okb_nI (by omega) (by omega)), if_pos (okb_nI (by omega) (by omega)), clN (by omega), clN (by omega), hc.2.2.1 p hp, hc.2.2.2 p hp]
  by_cases h0 : Sq p = 0
  · rw [if_pos ((nI_z (by omega)).mpr h0), if_pos (by simp [spSh, h0])]
  · rw [if_neg (fun q => h0 ((nI_z (by omega)).mp q))]
    rcases eU_cases v2 (v7 p hp) with ⟨g1, g2, g3, g4⟩ | ⟨g1, g2⟩
    · have h5 := v5 _ g1
      rw [g3, if_neg g4, a10, if_pos (okb_nI (by omega) (by omega)), clN (by omega), hc.2.1 _ g1]
      by_cases h12 : 12 < Wo (Un p)
      · rw [if_pos ((lt12 (by omega)).mpr h12), if_neg (by simp [spSh, h0]; omega)]
      · rw [if_neg (fun q => h12 ((lt12 (by omega)).mp q)), if_pos (by simp [spSh, h0]; omega)]
    · rw [g2, if_pos rfl, if_neg (by simp [spSh, h0, g1])]
-- time: 24 is none
def eT (t : Nat) : Int32 := if t < 24 then nI t else -4
theorem eT_dec : ∀ h, h < 24 → ∀ t, t < 25 → (nI h = eT t ↔ h = t) := by decide +kernel
def spT (Ho Wo : Nat → Nat) (s x : Nat) : Nat := if x = 6 then (if s = 0 then 24 else 12) else if 12 < Wo x then 12 else Ho x
theorem spT_lt {sq pa pe s x : Nat} {Ho Wo Sq Un : Nat → Nat} (hv : VM sq pa pe Ho Wo Sq Un) (hx : x < pa ∨ x = 6) : spT Ho Wo s x < 25 := by
  unfold spT
  have h2 := hv.2.1
  split
  · split <;> omega
  · split
    · omega
    · have := hv.2.2.2.1 x (by omega); omega
theorem timeOf_c {sq pa pe p x : Nat} {Ho Wo Sq Un : Nat → Nat} {qh qw qs qu : Nat → Int32} (hc : CM pa pe Ho Wo Sq Un qh qw qs qu) (hv : VM sq pa pe Ho Wo Sq Un) (hp : p < pe) (hx : x < pa ∨ x = 6) : f_X1_timeOf qh qw qs (nI p) (eU x) = some (eT (spT Ho Wo (Sq p) x)) := by
  obtain ⟨v1, v2, v3, v4, v5, v6, v7, v8⟩ := hv
  have h6 := v6 p hp
  unfold f_X1_timeOf
  rcases eU_cases v2 hx with ⟨g1, g2, g3, g4⟩ | ⟨g1, g2⟩
  · have h5 := v5 _ g1
    rw [g3, if_neg g4, wornOf_eq qw g2, hc.2.1 _ g1]
    show (if (12 : Int32) < nI (Wo x) then _ else _) = _
    unfold spT
    rw [if_neg (show ¬ x = 6 by omega)]
    by_cases h12 : 12 < Wo x
    · rw [if_pos ((lt12 (by omega)).mpr h12), if_pos h12]; rfl
    · rw [if_neg (fun q => h12 ((lt12 (by omega)).mp q)), if_neg h12, hourOf_eq qh g2, hc.1 _ g1]
      show some (nI (Ho x)) = some (eT (Ho x))
      rw [eT, if_pos (v4 _ g1)]
  · rw [g2, if_pos rfl, squareOf_eq qs (by omega), hc.2.2.1 p hp]
    show (if nI (Sq p) = 0 then _ else _) = _
    unfold spT
    rw [if_pos g1]
    by_cases h0 : Sq p = 0
    · rw [if_pos ((nI_z (by omega)).mpr h0), if_pos h0]; rfl
    · rw [if_neg (fun q => h0 ((nI_z (by omega)).mp q)), if_neg h0]; rfl
theorem clock_m {sq pa pe s x : Nat} {Ho Wo Sq Un : Nat → Nat} {o : Nat → Int32} (hc : MM pa pe Ho Wo Sq Un o) (hv : VM sq pa pe Ho Wo Sq Un) (hs : s < 9) (hx : x < pa ∨ x = 6) : f_X8_clock o (nI s) (eU x) = some (eT (spT Ho Wo s x)) := by
  obtain ⟨v1, v2, v3, v4, v5, v6, v7, v8⟩ := hv
  unfold f_X8_clock
  rcases eU_cases v2 hx with ⟨g1, g2, g3, g4⟩ | ⟨g1, g2⟩
  · have h5 := v5 _ g1
    rw [g3, if_neg g4, a10, if_pos (okb_nI (by omega) (by omega)), clN (by omega), hc.2.1 _ g1]
    unfold spT
    rw [if_neg (show ¬ x = 6 by omega)]
    by_cases h12 : 12 < Wo x
    · rw [if_pos ((lt12 (by omega)).mpr h12), if_pos h12]; rfl
    · rw [if_neg (fun q => h12 ((lt12 (by omega)).mp q)), if_neg h12, a4, if_pos (okb_nI (by omega) (by omega)), clN (by omega), hc.1 _ g1, eT, if_pos (v4 _ g1)]
  · rw [g2, if_pos rfl]
    unfold spT
    rw [if_pos g1]
    by_cases h0 : s = 0
    · rw [if_pos ((nI_z (by omega)).mpr h0), if_pos h0]; rfl
    · rw [if_neg (fun q => h0 ((nI_z (by omega)).mp q)), if_neg h0]; rfl
theorem time_m {sq pa pe p : Nat} {Ho Wo Sq Un : Nat → Nat} {o : Nat → Int32} (hc : MM pa pe Ho Wo Sq Un o) (hv : VM sq pa pe Ho Wo Sq Un) (hp : p < pe) : f_X8_time o (nI p) = some (eT (spT Ho Wo (Sq p) (Un p))) := by
  have hpe := hv.2.2.1
  have h6 := hv.2.2.2.2.2.1 p hp
  have h1 := hv.1
  unfold f_X8_time
  rw [a16, a21, if_pos (okb_nI (by omega) (by omega)), if_pos (okb_nI (by omega) (by omega)), clN (by omega), clN (by omega), hc.2.2.1 p hp, hc.2.2.2 p hp, clock_m hc hv (by omega) (hv.2.2.2.2.2.2.1 p hp)]
  rfl
-- works: the plan's numbers
def CP (wo : Nat) (WS WH : Nat → Nat) (ws wh : Nat → Int32) : Prop := wo ≤ 6 ∧ (∀ w, w < wo → ws w = nI (WS w) ∧ WS w < 9) ∧ (∀ w, w < wo → wh w = nI (WH w) ∧ WH w < 24)
def spW (WS WH : Nat → Nat) (wo D s t : Nat) : Nat := mask (fun w => WS w == s && (WH w == t && !D.testBit w)) wo
theorem worksOf_c {sq pa pe p x wo D : Nat} {Ho Wo Sq Un WS WH : Nat → Nat} {qh qw qs qu ws wh : Nat → Int32} (hc : CM pa pe Ho Wo Sq Un qh qw qs qu) (hv : VM sq pa pe Ho Wo Sq Un) (hw : CP wo WS WH ws wh) (hp : p < pe) (hx : x < pa ∨ x = 6) (hD : D < 64) : f_X1_worksOf (nI D) qh qw qs (nI wo) ws wh (nI p) (eU x) = some (nI (spW WS WH wo D (Sq p) (spT Ho Wo (Sq p) x))) := by
  have hpe := hv.2.2.1
  have h1 := hv.1
  have h6 := hv.2.2.2.2.2.1 p hp
  obtain ⟨w1, w2, w3⟩ := hw
  have ht := spT_lt (s := Sq p) hv hx
  unfold f_X1_worksOf
  rw [timeOf_c hc hv hp hx, ob_some]
  refine (loopN (fun nf (s : Int32) v => f_X1_worksOf_L13 (nI wo) ws qs (nI p) wh (eT (spT Ho Wo (Sq p) x)) (nI D) (fun v3 v4 => some v3) nf s v) (fun s _ => some s) wo (fun i => nI (mask (fun w => WS w == Sq p && (WH w == spT Ho Wo (Sq p) x && !D.testBit w)) i)) ?_ ?_ 20000 (by omega))
  · intro nf
    show f_X1_worksOf_L13 _ _ _ _ _ _ _ _ (nf + 1) _ _ = _
    rw [f_X1_worksOf_L13_s, if_pos (lle (Nat.le_refl _) (by omega))]
  · intro nf i hi
    show f_X1_worksOf_L13 _ _ _ _ _ _ _ _ (nf + 1) _ _ = f_X1_worksOf_L13 _ _ _ _ _ _ _ _ nf _ _
    obtain ⟨g1, g2⟩ := w2 i hi
    obtain ⟨g3, g4⟩ := w3 i hi
    rw [f_X1_worksOf_L13_s, if_neg (nle hi (by omega)), workSquareOf_eq ws (by omega), g1]
    show Option.bind (f_X1_squareOf qs (nI p)) _ = _
    rw [squareOf_eq qs (by omega), hc.2.2.1 p hp]
    show (if nI (WS i) = nI (Sq p) then _ else _) = _
    rw [nI_n1, mask]
    by_cases q1 : WS i = Sq p
    · rw [if_pos (by rw [q1]), workHourOf_eq wh (by omega), g3]
      show (if nI (WH i) = eT _ then _ else _) = _
      by_cases q2 : WH i = spT Ho Wo (Sq p) x
      · rw [if_pos ((eT_dec _ g4 _ ht).mpr q2), isDone_eq hD (by omega)]
        show (if (if D.testBit i = true then (1 : Int32) else 0) = 0 then _ else _) = _
        by_cases q3 : D.testBit i = true
        · rw [if_neg (by rw [q3]; decide), if_neg (by simp [q3]), Nat.or_zero]
        · rw [if_pos (by rw [if_neg q3]), shl_nI i (by omega), or_nI, if_pos (by simp [q1, q2, q3])]
      · rw [if_neg (fun q => q2 ((eT_dec _ g4 _ ht).mp q)), if_neg (by simp [q2]), Nat.or_zero]
    · rw [if_neg (fun q => q1 ((eqN (by omega) (by omega)).mp q)), if_neg (by simp [q1]), Nat.or_zero]
theorem spW_lt {WS WH : Nat → Nat} {wo : Nat} (D s t : Nat) (h : wo ≤ 6) : spW WS WH wo D s t < 64 := Nat.lt_of_lt_of_le (mask_lt _ wo) (Nat.pow_le_pow_right (by omega) h)
-- works done in an hour: the class goes by persons
def spDo (Ho Wo Sq Un WS WH : Nat → Nat) (wo S D : Nat) : Nat → Nat
  | 0 => D
  | p + 1 => if S.testBit p then spDo Ho Wo Sq Un WS WH wo S D p else spDo Ho Wo Sq Un WS WH wo S D p ||| spW WS WH wo (spDo Ho Wo Sq Un WS WH wo S D p) (Sq p) (spT Ho Wo (Sq p) (Un p))
theorem or64 {a b : Nat} (ha : a < 64) (hb : b < 64) : a ||| b < 64 := Nat.or_lt_two_pow (n := 6) ha hb
theorem spDo_lt {Ho Wo Sq Un WS WH : Nat → Nat} {wo S D : Nat} (hw : wo ≤ 6) (hD : D < 64) : ∀ p, spDo Ho Wo Sq Un WS WH wo S D p < 64
  | 0 => hD
  | p + 1 => by
    have := spDo_lt (Ho := Ho) (Wo := Wo) (Sq := Sq) (Un := Un) (WS := WS) (WH := WH) (S := S) hw hD p
    rw [spDo]
    split
    · exact this
    · exact or64 this (spW_lt _ _ _ hw)
theorem doWorks_c {sq pa pe wo D S : Nat} {Ho Wo Sq Un WS WH : Nat → Nat} {qh qw qs qu ws wh : Nat → Int32} (hc : CM pa pe Ho Wo Sq Un qh qw qs qu) (hv : VM sq pa pe Ho Wo Sq Un) (hw : CP wo WS WH ws wh) (hD : D < 64) (hS : S < 64) : f_X1_doWorks (nI S) (nI D) qh qw qs qu (nI pe) (nI wo) ws wh = some (nI (spDo Ho Wo Sq Un WS WH wo S D pe)) := by
  have hpe := hv.2.2.1
  unfold f_X1_doWorks
  refine (loopN (fun nf (s : Int32) v => f_X1_doWorks_L2 (nI pe) (nI S) qu qh qw qs (nI wo) ws wh (fun v1 q => some q) nf v s) (fun s _ => some s) pe (fun i => nI (spDo Ho Wo Sq Un WS WH wo S D i)) ?_ ?_ 20000 (by omega))
  · intro nf
    show f_X1_doWorks_L2 _ _ _ _ _ _ _ _ _ _ (nf + 1) _ _ = _
    rw [f_X1_doWorks_L2_s, if_pos (lle (Nat.le_refl _) (by omega))]
  · intro nf i hi
    show f_X1_doWorks_L2 _ _ _ _ _ _ _ _ _ _ (nf + 1) _ _ = f_X1_doWorks_L2 _ _ _ _ _ _ _ _ _ _ nf _ _
    rw [f_X1_doWorks_L2_s, if_neg (nle hi (by omega)), isStill_eq hS (by omega)]
    show (if (if S.testBit i = true then (1 : Int32) else 0) = 0 then _ else _) = _
    rw [nI_n1, spDo]
    by_cases q : S.testBit i = true
    · rw [if_neg (by rw [q]; decide), if_pos q]
    · rw [if_pos (by rw [if_neg q]), if_neg q, parasolOf_eq qu (by omega), hc.2.2.2 i hi]
      show Option.bind (f_X1_worksOf _ _ _ _ _ _ _ _ _) _ = _
      rw [worksOf_c hc hv hw hi (hv.2.2.2.2.2.2.1 i hi) (spDo_lt hw.1 hD i)]
      show f_X1_doWorks_L2 _ _ _ _ _ _ _ _ _ _ nf _ _ = _
      rw [or_nI]
/-- some person does this work now -/
def spAny (Ho Wo Sq Un WS WH : Nat → Nat) (S w : Nat) : Nat → Bool
  | 0 => false
  | p + 1 => spAny Ho Wo Sq Un WS WH S w p || (!S.testBit p && (WS w == Sq p && WH w == spT Ho Wo (Sq p) (Un p)))
theorem spDo_bit {Ho Wo Sq Un WS WH : Nat → Nat} {wo S D w : Nat} : ∀ p, (spDo Ho Wo Sq Un WS WH wo S D p).testBit w = (D.testBit w || (decide (w < wo) && spAny Ho Wo Sq Un WS WH S w p))
  | 0 => by simp [spDo, spAny]
  | p + 1 => by
    rw [spDo, spAny]
    by_cases q : S.testBit p = true
    · rw [if_pos q, spDo_bit p]; simp [q]
    · rw [if_neg q, Nat.testBit_or, spDo_bit p]
      unfold spW
      rw [mask_bit, spDo_bit p]
      cases D.testBit w <;> cases decide (w < wo) <;> cases spAny Ho Wo Sq Un WS WH S w p <;> simp [q]
