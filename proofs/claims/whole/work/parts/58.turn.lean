theorem spQ_lt {sq pe : Nat} {Un Sq : Nat → Nat} (u : Nat) (h : ∀ p, p < pe → Sq p < sq) (hq : sq ≤ 9) : ∀ n, n ≤ pe → spQ Un Sq u n < 9
  | 0, _ => by rw [spQ]; omega
  | n + 1, hn => by
    rw [spQ]
    split
    · have := h n (by omega); omega
    · exact spQ_lt u h hq n (by omega)
theorem meetings_m {sq pa pe wo : Nat} {Ho Wo Sq Un K WS WH : Nat → Nat} {o m : Nat → Int32} (hc : MM pa pe Ho Wo Sq Un o) (hv : VM sq pa pe Ho Wo Sq Un) (hm : MP sq pa pe wo K WS WH m) : f_X8_meetings m o = some (nI (totM (spC Ho Sq Un pe) pa)) := by
  obtain ⟨v1, v2, v3, v4, v5, v6, v7, v8⟩ := id hv
  obtain ⟨-, m1, m2, -⟩ := hm
  have hU := hc.U hv
  have hS := hc.2.2.1
  have hb : ∀ u, spQ Un Sq u pe < 9 := fun u => spQ_lt u v6 v1 pe (Nat.le_refl _)
  unfold f_X8_meetings
  refine (loopN (fun nf (s : Int32) v => f_X8_meetings_L4 m o (fun v1 v2 => some v1) nf s v) (fun s _ => some s) pa (fun i => nI (totM (spC Ho Sq Un pe) i)) ?_ ?_ 20000 (by omega))
  · intro nf
    show f_X8_meetings_L4 _ _ _ (nf + 1) _ _ = _
    rw [f_X8_meetings_L4_s, cl1, m1, if_pos (lle (Nat.le_refl _) (by omega))]
  · intro nf i hi
    show f_X8_meetings_L4 _ _ _ (nf + 1) _ _ = f_X8_meetings_L4 _ _ _ nf _ _
    rw [f_X8_meetings_L4_s, cl1, m1, if_neg (nle hi (by omega)), nI_n1, totM]
    refine (loopN (fun nf2 (s : Int32) v => f_X8_meetings_L17 (nI i) m o (fun v4 v5 => f_X8_meetings_L4 m o (fun v1 v2 => some v1) nf v4 (nI (i + 1))) nf2 s v) (fun s _ => f_X8_meetings_L4 m o (fun v1 v2 => some v1) nf s (nI (i + 1))) i (fun j => nI (totM (spC Ho Sq Un pe) i + rowM (spC Ho Sq Un pe) i j)) ?_ ?_ 20000 (by omega))
    · intro nf2
      show f_X8_meetings_L17 _ _ _ _ (nf2 + 1) _ _ = _
      rw [f_X8_meetings_L17_s, if_pos (lle (Nat.le_refl _) (by omega))]
    · intro nf2 j hj
      show f_X8_meetings_L17 _ _ _ _ (nf2 + 1) _ _ = f_X8_meetings_L17 _ _ _ _ nf2 _ _
      have hi4 := v4 i hi
      have hj4 := v4 j (by omega)
      have hu1 := spU_lt Un i v3
      have hu2 := spU_lt Un j v3
      rw [f_X8_meetings_L17_s, if_neg (nle hj (by omega)), under_eq v3 m2 (by omega) hU, ob_some, nI_n1, rowM]
      by_cases q3 : spU Un pe i = 0
      · rw [if_pos (by rw [q3]; rfl), if_neg (fun z => by unfold spC at z; simp [q3] at z), show (0 : Int32) = nI 0 from rfl, nI_add]
        rfl
      · rw [if_neg (fun q => q3 ((nI_z (by omega)).mp q)), under_eq v3 m2 (by omega) hU, ob_some]
        by_cases q4 : spU Un pe j = 0
        · rw [if_pos (by rw [q4]; rfl), if_neg (fun z => by unfold spC at z; simp [q4] at z), show (0 : Int32) = nI 0 from rfl, nI_add]
          rfl
        · rw [if_neg (fun q => q4 ((nI_z (by omega)).mp q)), squareOf_meq v3 m2 (by omega) hU hS, ob_some, squareOf_meq v3 m2 (by omega) hU hS, ob_some]
          by_cases q2 : spQ Un Sq i pe = spQ Un Sq j pe
          · rw [if_pos (by rw [q2]), a4, if_pos (okb_nI (by omega) (by omega)), a4, if_pos (okb_nI (by omega) (by omega)), clN (by omega), clN (by omega), hc.1 i hi, hc.1 j (by omega)]
            by_cases q1 : Ho i = Ho j
            · rw [if_pos (by rw [q1]), if_pos (by unfold spC; simp [q1, q2, q3, q4]), nI_n1]
              rfl
            · rw [if_neg (fun q => q1 ((eqN (by omega) (by omega)).mp q)), if_neg (fun z => by unfold spC at z; simp [q1] at z), show (0 : Int32) = nI 0 from rfl, nI_add]
              rfl
          · rw [if_neg (fun q => q2 ((eqN (by have := hb i; omega) (by have := hb j; omega)).mp q)), if_neg (fun z => by unfold spC at z; simp [q2] at z), show (0 : Int32) = nI 0 from rfl, nI_add]
            rfl
-- who stands still
def spSt (Wo Sq Un : Nat → Nat) (pe S : Nat) : Nat := S ||| mask (fun p => !spSh Wo Sq Un p) pe
theorem standStill_c {sq pa pe S : Nat} {Ho Wo Sq Un : Nat → Nat} {qh qw qs qu : Nat → Int32} (hc : CM pa pe Ho Wo Sq Un qh qw qs qu) (hv : VM sq pa pe Ho Wo Sq Un) : f_X1_standStill (nI S) qw qs qu (nI pe) = some (nI (spSt Wo Sq Un pe S)) := by
  have hpe := hv.2.2.1
  unfold f_X1_standStill
  have e0 : nI S = nI (S ||| mask (fun p => !spSh Wo Sq Un p) 0) := by rw [mask, Nat.or_zero]
  rw [e0]
  refine (loopN (fun nf (s : Int32) v => f_X1_standStill_L2 (nI pe) qw qs qu (fun v1 q => some q) nf v s) (fun s _ => some s) pe (fun i => nI (S ||| mask (fun p => !spSh Wo Sq Un p) i)) ?_ ?_ 20000 (by omega))
  · intro nf
    show f_X1_standStill_L2 _ _ _ _ _ (nf + 1) _ _ = _
    rw [f_X1_standStill_L2_s, if_pos (lle (Nat.le_refl _) (by omega))]
  · intro nf i hi
    show f_X1_standStill_L2 _ _ _ _ _ (nf + 1) _ _ = f_X1_standStill_L2 _ _ _ _ _ nf _ _
    rw [f_X1_standStill_L2_s, if_neg (nle hi (by omega)), hasShade_c hc hv hi, ob_some, nI_n1, mask]
    by_cases q : spSh Wo Sq Un i = true
    · rw [if_pos q, if_neg (by decide), if_neg (by simp [q]), Nat.or_zero]
    · rw [if_neg q, if_pos (by decide), shl_nI i (by omega), or_nI, if_pos (by simp [q]), Nat.or_assoc]
theorem hasShade_lo {sq pa pe p : Nat} {Ho Wo Sq Un : Nat → Nat} {o : Nat → Int32} (hc : MM pa pe Ho Wo Sq Un o) (hv : VM sq pa pe Ho Wo Sq Un) (hp : p < pe) (x : Int32) : f_X8_hasShade (upd o 3 x) (nI p) = some (if spSh Wo Sq Un p = true then 1 else 0) := hasShade_m (hc.lo (by omega) x) hv hp
theorem standStill_m {sq pa pe wo S : Nat} {Ho Wo Sq Un K WS WH : Nat → Nat} {o m : Nat → Int32} (hc : MM pa pe Ho Wo Sq Un o) (hv : VM sq pa pe Ho Wo Sq Un) (hm : MP sq pa pe wo K WS WH m) (h3 : o 3 = nI S) (k : Int32 → (Nat → Int32) → Option (Nat → Int32)) : f_X8_goes_L53 m k 20000 0 o = k (nI pe) (upd o 3 (nI (spSt Wo Sq Un pe S))) := by
  have hpe := hv.2.2.1
  have m2 := hm.2.2.1
  have e0 : o = (fun i => upd o 3 (nI (S ||| mask (fun p => !spSh Wo Sq Un p) i))) 0 := by
    show o = upd o 3 (nI (S ||| 0))
    rw [Nat.or_zero, upd_same h3]
  conv => lhs; rw [e0]
  refine (loopN (fun nf (s : Nat → Int32) v => f_X8_goes_L53 m k nf v s) (fun s v => k v s) pe (fun i => upd o 3 (nI (S ||| mask (fun p => !spSh Wo Sq Un p) i))) ?_ ?_ 20000 (by omega))
  · intro nf
    show f_X8_goes_L53 _ _ (nf + 1) _ _ = _
    rw [f_X8_goes_L53_s, cl2, m2, if_pos (lle (Nat.le_refl _) (by omega))]
  · intro nf i hi
    show f_X8_goes_L53 _ _ (nf + 1) _ _ = f_X8_goes_L53 _ _ nf _ _
    rw [f_X8_goes_L53_s, cl2, m2, if_neg (nle hi (by omega)), hasShade_lo hc hv hi, ob_some, nI_n1, mask, cl3, pk_us, upd_upd, upd_upd]
    by_cases q : spSh Wo Sq Un i = true
    · rw [if_pos q, if_neg (by decide), if_neg (by simp [q]), Nat.or_zero, or0_nI]
    · rw [if_neg q, if_pos (by decide), shl_nI i (by omega), or_nI, if_pos (by simp [q]), Nat.or_assoc]
-- hours under a parasol
def turns (K g n : Nat) : Nat := if K = 2 then (n + 1 - g % 2) / 2 else n
def turn1 (K : Nat) : Nat := if K = 3 then 2 else 1
def wears (K g n : Nat) : Nat := if K = 1 then (n + 1 - g % 2) / 2 else n
theorem jrem_eq {a d : Nat} (ha : a < 2 ^ 31) (h0 : 0 < d) (hd : d < 2 ^ 31) : jrem (nI a) (nI d) = nI (a % d) := pk_rem ha h0 hd
theorem jrem2 {a : Nat} (ha : a < 2 ^ 31) : jrem (nI a) (2 : Int32) = nI (a % 2) := jrem_eq (d := 2) ha (by omega) (by omega)
theorem jrem24 {a : Nat} (ha : a < 2 ^ 31) : jrem (nI a) (24 : Int32) = nI (a % 24) := jrem_eq (d := 24) ha (by omega) (by omega)
theorem evenHours_eq {g n : Nat} (hg : g < 100000) (hn : n < 1000) : f_X7_evenHours (nI g) (nI n) = some (nI ((n + 1 - g % 2) / 2)) := by
  unfold f_X7_evenHours
  have := Nat.mod_lt g (show 0 < 2 by omega)
  rw [nI_n1, jrem2 (by omega), pk_sub (by omega), show (2 : Int32) = nI 2 from rfl, pk_div (by omega) (by omega) (by omega)]
theorem kN1 (K : Nat) (hK : K < 4) : (nI K = (1 : Int32)) ↔ K = 1 := eqN (b := 1) (by omega) (by omega)
theorem kN2 (K : Nat) (hK : K < 4) : (nI K = (2 : Int32)) ↔ K = 2 := eqN (b := 2) (by omega) (by omega)
theorem kN3 (K : Nat) (hK : K < 4) : (nI K = (3 : Int32)) ↔ K = 3 := eqN (b := 3) (by omega) (by omega)
theorem turnsOf_eq {K g n : Nat} (hK : K < 4) (hg : g < 100000) (hn : n < 1000) : f_X7_turnsOf (nI K) (nI g) (nI n) = some (nI (turns K g n)) := by
  unfold f_X7_turnsOf turns
  by_cases h : K = 2
  · rw [if_pos (by rw [h]; rfl), evenHours_eq hg hn, ob_some, if_pos h]
  · rw [if_neg (fun q => h ((kN2 K hK).mp q)), if_neg h]
theorem turnOf_eq {K : Nat} (hK : K < 4) : f_X7_turnOf (nI K) = some (nI (turn1 K)) := by
  unfold f_X7_turnOf turn1
  by_cases h : K = 3
  · rw [if_pos (by rw [h]; rfl), if_pos h]; rfl
  · rw [if_neg (fun q => h ((kN3 K hK).mp q)), if_neg h]; rfl
theorem wearOf_eq {K g n : Nat} (hK : K < 4) (hg : g < 100000) (hn : n < 1000) : f_X7_wearOf (nI K) (nI g) (nI n) = some (nI (wears K g n)) := by
  unfold f_X7_wearOf wears
  by_cases h : K = 1
  · rw [if_pos (by rw [h]; rfl), evenHours_eq hg hn, ob_some, if_pos h]
  · rw [if_neg (fun q => h ((kN1 K hK).mp q)), if_neg h]
theorem turns_le {K g n : Nat} : turns K g n ≤ n + 1 := by unfold turns; split <;> omega
theorem turn1_le {K : Nat} : turn1 K ≤ 2 := by unfold turn1; split <;> omega
theorem wears_le {K g n : Nat} : wears K g n ≤ n + 1 := by unfold wears; split <;> omega
def hourAt (K g h n : Nat) : Nat := (h + turns K g n * turn1 K) % 24
theorem tt_le {K g n : Nat} : turns K g n * turn1 K ≤ (n + 1) * 2 := Nat.mul_le_mul turns_le turn1_le
theorem hourFrom_eq {u K g h n : Nat} {pk : Nat → Int32} (hu : u < 6) (hk : pk u = nI K) (hK : K < 4) (hg : g < 100000) (hh : h < 24) (hn : n < 1000) : f_X1_hourFrom (nI g) pk (nI u) (nI h) (nI n) = some (nI (hourAt K g h n)) := by
  have := tt_le (K := K) (g := g) (n := n)
  unfold f_X1_hourFrom
  rw [kindOf_eq pk hu, ob_some, hk, turnsOf_eq hK hg hn, ob_some, turnOf_eq hK, ob_some, pk_mul, nI_add, jrem24 (by omega)]
  rfl
theorem hourBehind_eq {u K g h n : Nat} {pk qh : Nat → Int32} (hu : u < 6) (hk : pk u = nI K) (hK : K < 4) (hg : g < 100000) (hq : qh u = nI h) (hh : h < 24) (hn : n < 1000) : f_X1_hourBehind (nI g) qh pk (nI u) (nI n) = some (nI (hourAt K g h n)) := by
  unfold f_X1_hourBehind
  rw [hourOf_eq qh hu, ob_some, hq, hourFrom_eq hu hk hK hg hh hn, ob_some]
def wornAt (K g w n : Nat) : Nat := if w + wears K g n < 20 then w + wears K g n else 20
theorem lt20 {a : Nat} (h : a < 2 ^ 31) : nI a < (20 : Int32) ↔ a < 20 := nI_ltI (b := 20) h (by decide)
theorem le20 {a : Nat} (h : a < 2 ^ 31) : nI a ≤ (20 : Int32) ↔ a ≤ 20 := nI_leI (b := 20) h (by decide)
theorem wornBehind_eq {u K g w n : Nat} {pk qw : Nat → Int32} (hu : u < 6) (hk : pk u = nI K) (hK : K < 4) (hg : g < 100000) (hq : qw u = nI w) (hw : w ≤ 20) (hn : n < 1000) : f_X1_wornBehind (nI g) qw pk (nI u) (nI n) = some (nI (wornAt K g w n)) := by
  have := wears_le (K := K) (g := g) (n := n)
  unfold f_X1_wornBehind wornAt
  rw [wornOf_eq qw hu, ob_some, kindOf_eq pk hu, ob_some, hk, wearOf_eq hK hg hn, ob_some, hq, nI_add]
  by_cases h : w + wears K g n < 20
  · rw [if_pos ((lt20 (by omega)).mpr h), if_pos h]
  · rw [if_neg (fun q => h ((lt20 (by omega)).mp q)), if_neg h]; rfl
-- an hour's turning
def spHo (Un K : Nat → Nat) (pe g : Nat) (Ho : Nat → Nat) : Nat → Nat := fun u => if spU Un pe u = 0 then Ho u else hourAt (K u) g (Ho u) 1
def spWo (Un K : Nat → Nat) (pe g : Nat) (Wo : Nat → Nat) : Nat → Nat := fun u => if spU Un pe u = 0 then Wo u else wornAt (K u) g (Wo u) 1
def part (i : Nat) (A B : Nat → Nat) : Nat → Nat := fun u => if u < i then A u else B u
theorem part_i (i : Nat) (A B : Nat → Nat) : part i A B i = B i := if_neg (Nat.lt_irrefl i)
theorem part_0 (A B : Nat → Nat) : part 0 A B = B := by funext u; exact if_neg (Nat.not_lt_zero u)
theorem hourAt_lt {K g h n : Nat} : hourAt K g h n < 24 := Nat.mod_lt _ (by omega)
theorem wornAt_le {K g w n : Nat} : wornAt K g w n ≤ 20 := by unfold wornAt; split <;> omega
theorem turnParasols_c {sq pa pe g : Nat} {Ho Wo Sq Un K : Nat → Nat} {qh qw qs qu pk : Nat → Int32} (hc : CM pa pe Ho Wo Sq Un qh qw qs qu) (hv : VM sq pa pe Ho Wo Sq Un) (hk : ∀ u, u < pa → pk u = nI (K u) ∧ K u < 4) (hg : g < 100000) :
    ∃ h' w', f_X1_turnParasols (nI g) qh qw qu (nI pa) (nI pe) pk = some (h', w') ∧ CM pa pe (spHo Un K pe g Ho) (spWo Un K pe g Wo) Sq Un h' w' qs qu := by
  obtain ⟨v1, v2, v3, v4, v5, v6, v7, v8⟩ := id hv
  have hU := hc.U hv
  unfold f_X1_turnParasols
  obtain ⟨s', e1, e2⟩ := loopI (fun nf (s : (Nat → Int32) × (Nat → Int32)) v => f_X1_turnParasols_L2 (nI pa) qu (nI pe) (nI g) pk (fun v1 h w => some (h, w)) nf v s.1 s.2) (fun s _ => some (s.1, s.2)) pa (fun i s => (∀ u, u < pa → s.1 u = nI (part i (spHo Un K pe g Ho) Ho u)) ∧ ∀ u, u < pa → s.2 u = nI (part i (spWo Un K pe g Wo) Wo u)) (fun nf s hs => by
      show f_X1_turnParasols_L2 _ _ _ _ _ _ (nf + 1) _ _ _ = _
      rw [f_X1_turnParasols_L2_s, if_pos (lle (Nat.le_refl _) (by omega))]) (fun nf i s hi hs => by
      obtain ⟨h1, h2⟩ := hs
      obtain ⟨k1, k2⟩ := hk i hi
      have b1 := h1 i hi
      have b2 := h2 i hi
      rw [part_i] at b1 b2
      by_cases q : spU Un pe i = 0
      · refine ⟨s, ⟨fun u hu => ?_, fun u hu => ?_⟩, ?_⟩
        · rw [h1 u hu]
          by_cases hui : u = i
          · subst hui; rw [part_i]; unfold part spHo; rw [if_pos (by omega), if_pos q]
          · unfold part; by_cases h3 : u < i
            · rw [if_pos h3, if_pos (by omega)]
            · rw [if_neg h3, if_neg (by omega)]
        · rw [h2 u hu]
          by_cases hui : u = i
          · subst hui; rw [part_i]; unfold part spWo; rw [if_pos (by omega), if_pos q]
          · unfold part; by_cases h3 : u < i
            · rw [if_pos h3, if_pos (by omega)]
            · rw [if_neg h3, if_neg (by omega)]
        · show f_X1_turnParasols_L2 _ _ _ _ _ _ (nf + 1) _ _ _ = f_X1_turnParasols_L2 _ _ _ _ _ _ nf _ _ _
          rw [f_X1_turnParasols_L2_s, if_neg (nle hi (by omega)), isInStand_eq v3 (by omega) hU, ob_some, if_pos q, if_neg (by decide), nI_n1]
      · refine ⟨(upd s.1 i (nI (hourAt (K i) g (Ho i) 1)), upd s.2 i (nI (wornAt (K i) g (Wo i) 1))), ⟨fun u hu => ?_, fun u hu => ?_⟩, ?_⟩
        · show upd s.1 i _ u = _
          by_cases hui : u = i
          · subst hui; rw [pk_us]; unfold part spHo; rw [if_pos (by omega), if_neg q]
          · rw [pk_un hui, h1 u hu]; unfold part; by_cases h3 : u < i
            · rw [if_pos h3, if_pos (by omega)]
            · rw [if_neg h3, if_neg (by omega)]
        · show upd s.2 i _ u = _
          by_cases hui : u = i
          · subst hui; rw [pk_us]; unfold part spWo; rw [if_pos (by omega), if_neg q]
          · rw [pk_un hui, h2 u hu]; unfold part; by_cases h3 : u < i
            · rw [if_pos h3, if_pos (by omega)]
            · rw [if_neg h3, if_neg (by omega)]
        · show f_X1_turnParasols_L2 _ _ _ _ _ _ (nf + 1) _ _ _ = f_X1_turnParasols_L2 _ _ _ _ _ _ nf _ _ _
          rw [f_X1_turnParasols_L2_s, if_neg (nle hi (by omega)), isInStand_eq v3 (by omega) hU, ob_some, if_neg q, if_pos (by decide), show (1 : Int32) = nI 1 from rfl, hourBehind_eq (by omega) k1 k2 hg b1 (v4 i hi) (by omega), ob_some, put_eq _ _ (by omega) (by omega), ob_some, wornBehind_eq (by omega) k1 k2 hg b2 (v5 i hi) (by omega), ob_some, put_eq _ _ (by omega) (by omega), ob_some, nI_add]) pa 0 20000 (qh, qw) (by omega) (by omega) ⟨fun u hu => by rw [part_0]; exact hc.1 u hu, fun u hu => by rw [part_0]; exact hc.2.1 u hu⟩
  refine ⟨s'.1, s'.2, e2, fun u hu => ?_, fun u hu => ?_, hc.2.2.1, hc.2.2.2⟩
  · rw [e1.1 u hu]; unfold part; rw [if_pos hu]
  · rw [e1.2 u hu]; unfold part; rw [if_pos hu]
