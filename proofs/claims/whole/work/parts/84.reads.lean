section READS
variable {B sq pa pe wo zk kk n g : Nat} {K WS WH EH EB : Nat → Nat} {psq ppa ppe pwo qg qm qst qd um ua km es sm : Int32} {pk ws wh m qh qw qs qu o us ks eh eb sh sa : Nat → Int32}
theorem s_parasol (hP : IP sq pa pe wo K WS WH psq ppa ppe pwo pk ws wh m) (hN : IM B sq pa pe wo (qg, qm, qst, qd, qh, qw, qs, qu) o) (u i : Int32) : ∃ rr, f_X7_parasol ppa ppe pk qh qw qs qu u i = some rr ∧ f_X8_parasol m o u i = some rr := by
  obtain ⟨rfl, rfl, rfl, rfl, hk, hw, hm, a1, a2, a3, a4', a5⟩ := hP
  unfold f_X7_parasol f_X8_parasol
  rcases parasol_cases (show pa < 2 ^ 31 by omega) hm.2.1 u with ⟨u, hu, rfl, e1, e2⟩ | ⟨e1, e2⟩
  · obtain ⟨⟨a, Sq, Un⟩, hc, hmo, hv, hb⟩ := id hN
    have hv' : VA sq pa pe wo Sq Un a := hv
    obtain ⟨c1, c2, c3, c4, c5⟩ : CA pa pe Sq Un a qg qm qst qd qh qw qs qu := hc
    have hmo' : MA pa pe Sq Un a o := hmo
    rw [e1, ob_some, if_neg not10, e2, ob_some, if_neg not10]
    by_cases h0 : i = (0 : Int32)
    · refine ⟨nI (K u), ?_, ?_⟩
      · rw [if_pos h0, kindOf_eq pk (by omega), ob_some, (hk u hu).1]
      · rw [if_pos h0, a4, if_pos (okb_nI (by omega) (by omega)), clN (by omega), (hm.2.2.2.2.1 u hu).1]
    rw [if_neg h0, if_neg h0]
    by_cases h1 : i = (1 : Int32)
    · refine ⟨nI (a.2.2.2.2.1 u), ?_, ?_⟩
      · rw [if_pos h1, hourOf_eq qh (by omega), ob_some, c5.1 u hu]
      · rw [if_pos h1, a4, if_pos (okb_nI (by omega) (by omega)), clN (by omega), hmo'.1.1 u hu]
    rw [if_neg h1, if_neg h1]
    by_cases h2 : i = (2 : Int32)
    · refine ⟨nI (a.2.2.2.2.2 u), ?_, ?_⟩
      · rw [if_pos h2, wornOf_eq qw (by omega), ob_some, c5.2.1 u hu]
      · rw [if_pos h2, a10, if_pos (okb_nI (by omega) (by omega)), clN (by omega), hmo'.1.2.1 u hu]
    rw [if_neg h2, if_neg h2]
    by_cases h3 : i = (3 : Int32)
    · refine ⟨nI (spU Un pe u), ?_, ?_⟩
      · rw [if_pos h3, bearersOf_eq a4' (by omega) (c5.U hv'.1), ob_some]
      · rw [if_pos h3, under_eq a4' hm.2.2.1 (by omega) (hmo'.1.U hv'.1), ob_some]
    rw [if_neg h3, if_neg h3]
    by_cases h4 : i = (4 : Int32)
    · refine ⟨nI (spQ Un Sq u pe), ?_, ?_⟩
      · rw [if_pos h4, squareOfParasol_eq a4' (by omega) (c5.U hv'.1) c5.2.2.1 hv'.1.2.2.2.2.2.2.2, ob_some]
      · rw [if_pos h4, squareOf_meq a4' hm.2.2.1 (by omega) (hmo'.1.U hv'.1) hmo'.1.2.2.1, ob_some]
    rw [if_neg h4, if_neg h4]
    exact ⟨-1, rfl, rfl⟩
  · exact ⟨-1, by rw [e1, ob_some, if_pos rfl], by rw [e2, ob_some, if_pos rfl]⟩
theorem b01 (b : Bool) : (if (if b = true then (1 : Int32) else 0) = 0 then some (0 : Int32) else some 1) = some (if b = true then (1 : Int32) else 0) := by cases b <;> rfl
theorem s_person (hP : IP sq pa pe wo K WS WH psq ppa ppe pwo pk ws wh m) (hN : IM B sq pa pe wo (qg, qm, qst, qd, qh, qw, qs, qu) o) (p i : Int32) : ∃ rr, f_X7_person ppe qst qh qw qs qu p i = some rr ∧ f_X8_person m o p i = some rr := by
  obtain ⟨rfl, rfl, rfl, rfl, hk, hw, hm, a1, a2, a3, a4', a5⟩ := hP
  unfold f_X7_person f_X8_person
  rcases person_cases (show pe < 2 ^ 31 by omega) hm.2.2.1 p with ⟨p, hp, rfl, e1, e2⟩ | ⟨e1, e2⟩
  · obtain ⟨⟨a, Sq, Un⟩, hc, hmo, hv, hb⟩ := id hN
    have hv' : VA sq pa pe wo Sq Un a := hv
    have hS := hv'.S
    obtain ⟨c1, c2, c3, c4, c5⟩ : CA pa pe Sq Un a qg qm qst qd qh qw qs qu := hc
    have hmo' : MA pa pe Sq Un a o := hmo
    rw [e1, ob_some, if_neg not10, e2, ob_some, if_neg not10]
    by_cases h0 : i = (0 : Int32)
    · refine ⟨nI (Sq p), ?_, ?_⟩
      · rw [if_pos h0, squareOf_eq qs (by omega), ob_some, c5.2.2.1 p hp]
      · rw [if_pos h0, a16, if_pos (okb_nI (by omega) (by omega)), clN (by omega), hmo'.1.2.2.1 p hp]
    rw [if_neg h0, if_neg h0]
    by_cases h1 : i = (1 : Int32)
    · refine ⟨eU (Un p), ?_, ?_⟩
      · rw [if_pos h1, parasolOf_eq qu (by omega), ob_some, c5.2.2.2 p hp]
      · rw [if_pos h1, a21, if_pos (okb_nI (by omega) (by omega)), clN (by omega), hmo'.1.2.2.2 p hp]
    rw [if_neg h1, if_neg h1]
    by_cases h2 : i = (2 : Int32)
    · refine ⟨eT (spT a.2.2.2.2.1 a.2.2.2.2.2 (Sq p) (Un p)), ?_, ?_⟩
      · rw [if_pos h2, parasolOf_eq qu (by omega), ob_some, c5.2.2.2 p hp, timeOf_c c5 hv'.1 hp (hv'.1.2.2.2.2.2.2.1 p hp), ob_some]
      · rw [if_pos h2, time_m hmo'.1 hv'.1 hp, ob_some]
    rw [if_neg h2, if_neg h2]
    by_cases h3 : i = (3 : Int32)
    · refine ⟨if a.2.2.1.testBit p = true then 1 else 0, ?_, ?_⟩
      · rw [if_pos h3, c3, isStill_eq (by omega) (by omega), ob_some, b01]
      · rw [if_pos h3, cl3, hmo'.2.2.2.2, hasB_dec _ (by omega) _ (by omega)]
    rw [if_neg h3, if_neg h3]
    by_cases h4 : i = (4 : Int32)
    · refine ⟨if spSh a.2.2.2.2.2 Sq Un p = true then 1 else 0, ?_, ?_⟩
      · rw [if_pos h4, hasShade_c c5 hv'.1 hp, ob_some, b01]
      · rw [if_pos h4, hasShade_m hmo'.1 hv'.1 hp, ob_some, b01]
    rw [if_neg h4, if_neg h4]
    exact ⟨-1, rfl, rfl⟩
  · exact ⟨-1, by rw [e1, ob_some, if_pos rfl], by rw [e2, ob_some, if_pos rfl]⟩
theorem s_work (hP : IP sq pa pe wo K WS WH psq ppa ppe pwo pk ws wh m) (hN : IM B sq pa pe wo (qg, qm, qst, qd, qh, qw, qs, qu) o) (w i : Int32) : ∃ rr, f_X7_work pwo ws wh qd w i = some rr ∧ f_X8_work m o w i = some rr := by
  obtain ⟨rfl, rfl, rfl, rfl, hk, hw, hm, a1, a2, a3, a4', a5⟩ := hP
  unfold f_X7_work f_X8_work
  have hwo := hw.1
  rcases work_cases (show wo < 2 ^ 31 by omega) hm.2.2.2.1 w with ⟨w, hw2, rfl, e1, e2⟩ | ⟨e1, e2⟩
  · obtain ⟨⟨a, Sq, Un⟩, hc, hmo, hv, hb⟩ := id hN
    have hv' : VA sq pa pe wo Sq Un a := hv
    have hD := hv'.D hwo
    obtain ⟨c1, c2, c3, c4, c5⟩ : CA pa pe Sq Un a qg qm qst qd qh qw qs qu := hc
    have hmo' : MA pa pe Sq Un a o := hmo
    rw [e1, ob_some, if_neg not10, e2, ob_some, if_neg not10]
    by_cases h0 : i = (0 : Int32)
    · refine ⟨nI (WS w), ?_, ?_⟩
      · rw [if_pos h0, workSquareOf_eq ws (by omega), ob_some, (hw.2.1 w hw2).1]
      · rw [if_pos h0, a10, if_pos (okb_nI (by omega) (by omega)), clN (by omega), (hm.2.2.2.2.2.2.1 w hw2).1]
    rw [if_neg h0, if_neg h0]
    by_cases h1 : i = (1 : Int32)
    · refine ⟨nI (WH w), ?_, ?_⟩
      · rw [if_pos h1, workHourOf_eq wh (by omega), ob_some, (hw.2.2 w hw2).1]
      · rw [if_pos h1, a16, if_pos (okb_nI (by omega) (by omega)), clN (by omega), (hm.2.2.2.2.2.2.2 w hw2).1]
    rw [if_neg h1, if_neg h1]
    by_cases h2 : i = (2 : Int32)
    · refine ⟨if a.2.2.2.1.testBit w = true then 1 else 0, ?_, ?_⟩
      · rw [if_pos h2, c4, isDone_eq hD (by omega), ob_some, b01]
      · rw [if_pos h2, cl2, hmo'.2.2.2.1, hasB_dec _ hD _ (by omega)]
    rw [if_neg h2, if_neg h2]
    exact ⟨-1, rfl, rfl⟩
  · exact ⟨-1, by rw [e1, ob_some, if_pos rfl], by rw [e2, ob_some, if_pos rfl]⟩
theorem inStand_2 {f : Nat → Int32} {Un : Nat → Nat} (hpa : pa ≤ 6) (hpe : pe ≤ 5) (h1 : m 1 = nI pa) (h2 : m 2 = nI pe) (hU : ∀ p, p < pe → Un p < 7 ∧ f p = eU (Un p)) (hM : ∀ p, p < pe → Un p < 7 ∧ o (21 + p) = eU (Un p)) : ∃ rr, f_X1_parasolsInStand f (nI pa) (nI pe) = some rr ∧ f_X8_inStand m o = some rr := by
  unfold f_X1_parasolsInStand f_X8_inStand
  obtain ⟨s', -, l1, l2⟩ := loop2 (fun nf (s : Int32) v => f_X1_parasolsInStand_L4 (nI pa) f (nI pe) (fun v1 _ => some v1) nf s v) (fun nf (s : Int32) v => f_X8_inStand_L4 m o (fun v1 _ => some v1) nf s v) (fun s _ => some s) (fun s _ => some s) pa (fun _ _ => True) (fun nf s _ => by
      constructor
      · show f_X1_parasolsInStand_L4 _ _ _ _ (nf + 1) _ _ = _
        rw [f_X1_parasolsInStand_L4_s, if_pos (lle (Nat.le_refl _) (by omega))]
      · show f_X8_inStand_L4 _ _ _ (nf + 1) _ _ = _
        rw [f_X8_inStand_L4_s, cl1, h1, if_pos (lle (Nat.le_refl _) (by omega))]) (fun u s hu _ => by
      have h32 := spU_lt Un u hpe
      by_cases q : spU Un pe u = 0
      · refine ⟨s + 1, trivial, fun nf => ⟨?_, ?_⟩⟩
        · show f_X1_parasolsInStand_L4 _ _ _ _ (nf + 1) _ _ = f_X1_parasolsInStand_L4 _ _ _ _ nf _ _
          rw [f_X1_parasolsInStand_L4_s, if_neg (nle hu (by omega)), isInStand_eq hpe (by omega) hU, ob_some, if_pos q, if_neg not10, nI_n1]
        · show f_X8_inStand_L4 _ _ _ (nf + 1) _ _ = f_X8_inStand_L4 _ _ _ nf _ _
          rw [f_X8_inStand_L4_s, cl1, h1, if_neg (nle hu (by omega)), under_eq hpe h2 (by omega) hM, ob_some, if_pos ((nI_z (by omega)).mpr q), nI_n1]
      · refine ⟨s, trivial, fun nf => ⟨?_, ?_⟩⟩
        · show f_X1_parasolsInStand_L4 _ _ _ _ (nf + 1) _ _ = f_X1_parasolsInStand_L4 _ _ _ _ nf _ _
          rw [f_X1_parasolsInStand_L4_s, if_neg (nle hu (by omega)), isInStand_eq hpe (by omega) hU, ob_some, if_neg q, if_pos rfl, nI_n1]
        · show f_X8_inStand_L4 _ _ _ (nf + 1) _ _ = f_X8_inStand_L4 _ _ _ nf _ _
          rw [f_X8_inStand_L4_s, cl1, h1, if_neg (nle hu (by omega)), under_eq hpe h2 (by omega) hM, ob_some, if_neg (fun z => q ((nI_z (by omega)).mp z)), Int32.add_zero, nI_n1]) pa 0 20000 0 (by omega) (by omega) trivial
  exact ⟨s', l1, l2⟩
theorem ite_ne {α : Type} {c : Prop} {d : Decidable c} {A B : Option α} (hA : A ≠ none) (hB : B ≠ none) : @ite (Option α) c d A B ≠ none := by
  by_cases h : c
  · rw [if_pos h]; exact hA
  · rw [if_neg h]; exact hB
theorem both_some {α : Type} {A : Option α} (h : A ≠ none) : ∃ rr, A = some rr ∧ A = some rr := by
  cases A with
  | none => exact absurd rfl h
  | some r => exact ⟨r, rfl, rfl⟩
theorem s_count (hP : IP sq pa pe wo K WS WH psq ppa ppe pwo pk ws wh m) (hN : IM B sq pa pe wo (qg, qm, qst, qd, qh, qw, qs, qu) o) (es yl zs kz i : Int32) : ∃ rr, f_X7_count psq ppa ppe pwo qg qm qst qd qu es yl zs kz i = some rr ∧ f_X8_count yl zs es kz m o i = some rr := by
  obtain ⟨rfl, rfl, rfl, rfl, hk, hw, hm, a1, a2, a3, a4', a5⟩ := hP
  obtain ⟨⟨a, Sq, Un⟩, hc, hmo, hv, hb⟩ := id hN
  have hv' : VA sq pa pe wo Sq Un a := hv
  have hS := hv'.S
  have hD := hv'.D hw.1
  obtain ⟨c1, c2, c3, c4, c5⟩ : CA pa pe Sq Un a qg qm qst qd qh qw qs qu := hc
  have hmo' : MA pa pe Sq Un a o := hmo
  obtain ⟨r, r1, r2⟩ := inStand_2 a2 a4' hm.2.1 hm.2.2.1 (c5.U hv'.1) (hmo'.1.U hv'.1)
  unfold f_X7_count f_X8_count
  rw [c3, c4, bitCount_eq hD, bitCount_eq (show a.2.2.1 < 64 by omega), ob_some, ob_some, cl0, cl1, cl2, cl3, hm.1, hm.2.1, hm.2.2.1, hm.2.2.2.1, hmo'.2.1, hmo'.2.2.1, hmo'.2.2.2.1, hmo'.2.2.2.2, bits_eq hD, bits_eq (show a.2.2.1 < 64 by omega), ob_some, ob_some, r1, r2, c1, c2]
  refine both_some ?_
  repeat' (first | exact Option.some_ne_none _ | refine ite_ne ?_ ?_)
-- sums of hours
def smH (Ho : Nat → Nat) (s : Nat) : Nat → Nat
  | 0 => 0
  | u + 1 => if s.testBit u then smH Ho s u + Ho u else smH Ho s u
theorem smH_le {Ho : Nat → Nat} {s : Nat} : ∀ {u}, (∀ v, v < u → Ho v < 24) → smH Ho s u ≤ 24 * u
  | 0, _ => Nat.le_refl _
  | u + 1, h => by
    have h1 := smH_le (s := s) (fun v hv => h v (Nat.lt_succ_of_lt hv) : ∀ v, v < u → Ho v < 24)
    have h2 := h u (by omega)
    rw [smH]
    split <;> omega
theorem sumOf_eq {Ho : Nat → Nat} {s : Nat} (hpa : pa ≤ 6) (hs : s < 64) (hq : ∀ u, u < pa → qh u = nI (Ho u)) : f_X1_sumOfHours qh (nI pa) (nI s) = some (nI (smH Ho s pa)) := by
  unfold f_X1_sumOfHours
  refine (loopN (fun nf (x : Int32) v => f_X1_sumOfHours_L4 (nI pa) (nI s) qh (fun v1 _ => some v1) nf x v) (fun x _ => some x) pa (fun i => nI (smH Ho s i)) (fun nf => ?_) (fun nf u hu => ?_) 20000 (by omega))
  · show f_X1_sumOfHours_L4 _ _ _ _ (nf + 1) _ _ = _
    rw [f_X1_sumOfHours_L4_s, if_pos (lle (Nat.le_refl _) (by omega))]
  · show f_X1_sumOfHours_L4 _ _ _ _ (nf + 1) _ _ = f_X1_sumOfHours_L4 _ _ _ _ nf _ _
    rw [f_X1_sumOfHours_L4_s, if_neg (nle hu (by omega)), hasBit_eq hs (by omega), ob_some, nI_n1, smH]
    by_cases q : s.testBit u = true
    · rw [if_pos q, if_neg not10, hourOf_eq qh (by omega), ob_some, hq u hu, nI_add, if_pos q]
    · rw [if_neg q, if_pos rfl, if_neg q]
theorem sumM_eq {Ho : Nat → Nat} {s : Nat} (hpa : pa ≤ 6) (h1 : m 1 = nI pa) (hs : s < 64) (hq : ∀ u, u < pa → o (4 + u) = nI (Ho u)) (k : Int32 → Int32 → Option Int32) : f_X8_make_L32 m (nI s) o k 20000 0 0 = k (nI (smH Ho s pa)) (nI pa) := by
  refine (loopN (fun nf (x : Int32) v => f_X8_make_L32 m (nI s) o k nf x v) (fun x v => k x v) pa (fun i => nI (smH Ho s i)) (fun nf => ?_) (fun nf u hu => ?_) 20000 (by omega))
  · show f_X8_make_L32 _ _ _ _ (nf + 1) _ _ = _
    rw [f_X8_make_L32_s, cl1, h1, if_pos (lle (Nat.le_refl _) (by omega))]
  · show f_X8_make_L32 _ _ _ _ (nf + 1) _ _ = f_X8_make_L32 _ _ _ _ nf _ _
    rw [f_X8_make_L32_s, cl1, h1, if_neg (nle hu (by omega)), has_eq hs (by omega), ob_some, nI_n1, smH]
    by_cases q : s.testBit u = true
    · rw [if_pos q, if_neg not10, a4, if_pos (okb_nI (by omega) (by omega)), clN (by omega), hq u hu, nI_add, if_pos q]
    · rw [if_neg q, if_pos rfl, if_neg q, Int32.add_zero]
theorem nI_m4 {a : Nat} (h : a < 2 ^ 31) : ¬ nI a = (-4 : Int32) := fun q => by
  have h1 := congrArg Int32.toInt q
  rw [nI_toInt (by omega)] at h1
  have h2 : (-4 : Int32).toInt = -4 := by decide
  omega
theorem s_make (hP : IP sq pa pe wo K WS WH psq ppa ppe pwo pk ws wh m) (hN : IM B sq pa pe wo (qg, qm, qst, qd, qh, qw, qs, qu) o) (h : Int32) : ∃ rr, f_X7_make ppa qh h = some rr ∧ f_X8_make m o h = some rr := by
  obtain ⟨rfl, rfl, rfl, rfl, hk, hw, hm, a1, a2, a3, a4', a5⟩ := hP
  unfold f_X7_make f_X8_make
  rcases hour_cases h with ⟨h, hh, rfl, e1, e2⟩ | ⟨e1, e2⟩
  · obtain ⟨⟨a, Sq, Un⟩, hc, hmo, hv, hb⟩ := id hN
    have hv' : VA sq pa pe wo Sq Un a := hv
    obtain ⟨c1, c2, c3, c4, c5⟩ : CA pa pe Sq Un a qg qm qst qd qh qw qs qu := hc
    have hmo' : MA pa pe Sq Un a o := hmo
    have h64 : 2 ^ pa ≤ 64 := Nat.pow_le_pow_right (n := 2) (by omega) a2
    have h2p : 0 < 2 ^ pa := Nat.two_pow_pos pa
    obtain ⟨s', -, l1, l2⟩ := loop2 (fun nf (s : Int32) v => f_X7_make_L14 (nI pa) qh (nI h) (fun v1 _ => some v1) nf s v) (fun nf (s : Int32) v => f_X8_make_L14 m o (nI h) (fun v1 _ => some v1) nf s v) (fun s _ => some s) (fun s _ => some s) (2 ^ pa) (fun _ s => s = -4 ∨ ∃ b, b < 64 ∧ s = nI b) (fun nf s _ => by
      constructor
      · show f_X7_make_L14 _ _ _ _ (nf + 1) _ _ = _
        rw [f_X7_make_L14_s, shl_nI pa (by omega), if_pos (lle (Nat.le_refl _) (by omega))]
      · show f_X8_make_L14 _ _ _ _ (nf + 1) _ _ = _
        rw [f_X8_make_L14_s, cl1, hm.2.1, shl_nI pa (by omega), if_pos (lle (Nat.le_refl _) (by omega))]) (fun v s hv hs => by
      have hI : ∀ (c : Prop) [Decidable c], ((if c then nI v else s) = -4 ∨ ∃ b, b < 64 ∧ (if c then nI v else s) = nI b) := fun c _ => by
        split
        · exact Or.inr ⟨v, by omega, rfl⟩
        · exact hs
      have r1 : ∀ nf, f_X7_make_L14 (nI pa) qh (nI h) (fun v1 _ => some v1) (nf + 1) s (nI v) = _ := fun nf => by rw [f_X7_make_L14_s, shl_nI pa (by omega), if_neg (nle hv (by omega)), sumOf_eq a2 (show v < 64 by omega) c5.1, ob_some, bitCount_eq (show v < 64 by omega), ob_some, nI_n1]
      have r2 : ∀ nf, f_X8_make_L14 m o (nI h) (fun v1 _ => some v1) (nf + 1) s (nI v) = _ := fun nf => by rw [f_X8_make_L14_s, cl1, hm.2.1, shl_nI pa (by omega), if_neg (nle hv (by omega)), sumM_eq a2 hm.2.1 (show v < 64 by omega) hmo'.1.1, bits_eq (show v < 64 by omega), ob_some, nI_n1]
      rcases hs with hs | ⟨b, hb64, hs⟩
      · refine ⟨if jrem (nI (smH a.2.2.2.2.1 v pa)) 24 = nI h then nI v else s, hI _, fun nf => ⟨?_, ?_⟩⟩
        · show f_X7_make_L14 _ _ _ _ (nf + 1) _ _ = f_X7_make_L14 _ _ _ _ nf _ _
          rw [r1, if_pos hs]
          split <;> rfl
        · show f_X8_make_L14 _ _ _ _ (nf + 1) _ _ = f_X8_make_L14 _ _ _ _ nf _ _
          rw [r2, if_pos hs]
          split <;> rfl
      · refine ⟨if jrem (nI (smH a.2.2.2.2.1 v pa)) 24 = nI h ∧ ¬ nI (popc b) ≤ nI (popc v) then nI v else s, hI _, fun nf => ⟨?_, ?_⟩⟩
        · show f_X7_make_L14 _ _ _ _ (nf + 1) _ _ = f_X7_make_L14 _ _ _ _ nf _ _
          rw [r1, if_neg (by rw [hs]; exact nI_m4 (by omega)), hs, bitCount_eq hb64, ob_some]
          by_cases q1 : nI (popc b) ≤ nI (popc v)
          · rw [if_pos q1, if_neg (fun z => z.2 q1)]
          · rw [if_neg q1]
            by_cases q2 : jrem (nI (smH a.2.2.2.2.1 v pa)) 24 = nI h
            · rw [if_pos q2, if_pos ⟨q2, q1⟩]
            · rw [if_neg q2, if_neg (fun z => q2 z.1)]
        · show f_X8_make_L14 _ _ _ _ (nf + 1) _ _ = f_X8_make_L14 _ _ _ _ nf _ _
          rw [r2, if_neg (show ¬ s = -4 by rw [hs]; exact nI_m4 (by omega)), hs, bits_eq hb64, ob_some]
          by_cases q2 : jrem (nI (smH a.2.2.2.2.1 v pa)) 24 = nI h
          · rw [if_pos q2]
            by_cases q1 : nI (popc b) ≤ nI (popc v)
            · rw [if_pos q1, if_neg (fun z => z.2 q1)]
            · rw [if_neg q1, if_pos ⟨q2, q1⟩]
          · rw [if_neg q2, if_neg (fun z => q2 z.1)]) (2 ^ pa - 1) 1 20000 (-4) (by omega) (by omega) (Or.inl rfl)
    refine ⟨s', ?_, ?_⟩
    · rw [e1, ob_some, if_neg not10]; exact l1
    · rw [e2, ob_some, if_neg not10]; exact l2
  · exact ⟨-1, by rw [e1, ob_some, if_pos rfl], by rw [e2, ob_some, if_pos rfl]⟩
end READS
