
theorem modulo_eq {a b : Nat} (ha : a < 2 ^ 31) (h0 : 0 < b) (hb : b < 2 ^ 31) : f_X7_modulo (nI a) (nI b) = some (nI (a % b)) := by
  unfold f_X7_modulo
  rw [if_neg (show ¬ nI b ≤ 0 from nI_nle h0 hb), if_neg (nI_ne0 h0 hb), jrem_eq ha h0 hb]
theorem div8 {a : Nat} (ha : a < 2 ^ 31) : nI a / (8 : Int32) = nI (a / 8) := pk_div (d := 8) ha (by omega) (by omega)
theorem div64 {a : Nat} (ha : a < 2 ^ 31) : nI a / (64 : Int32) = nI (a / 64) := pk_div (d := 64) ha (by omega) (by omega)
theorem jrem8 {a : Nat} (ha : a < 2 ^ 31) : jrem (nI a) (8 : Int32) = nI (a % 8) := jrem_eq (d := 8) ha (by omega) (by omega)
theorem CS.bits {pa pe : Nat} {x : AS} {g t s d : Int32} {qh qw qs qu : Nat → Int32} (h : CS pa pe x g t s d qh qw qs qu) : s = nI x.1.2.2.1 := h.2.2.1
theorem adA0 : ((1 : Int32) < nI 0) = False := eq_false (by decide)
theorem adB0 : (nI 0 = (2 : Int32)) = False := eq_false (by decide)
theorem adC0 : (nI 0 = (3 : Int32)) = False := eq_false (by decide)
theorem adD0 : (nI 0 < (4 : Int32)) = True := eq_true (by decide)
theorem adE0 : ((6 : Int32) < nI 0) = False := eq_false (by decide)
theorem adF0 : (nI 0 = (7 : Int32)) = False := eq_false (by decide)
theorem adG0 : (nI 0 = (0 : Int32)) = True := eq_true (by decide)
theorem adH0 : (nI 0 = (1 : Int32)) = False := eq_false (by decide)
theorem adI40 : (nI 0 = (4 : Int32)) = False := eq_false (by decide)
theorem adI50 : (nI 0 = (5 : Int32)) = False := eq_false (by decide)
theorem adI60 : (nI 0 = (6 : Int32)) = False := eq_false (by decide)
theorem adA1 : ((1 : Int32) < nI 1) = False := eq_false (by decide)
theorem adB1 : (nI 1 = (2 : Int32)) = False := eq_false (by decide)
theorem adC1 : (nI 1 = (3 : Int32)) = False := eq_false (by decide)
theorem adD1 : (nI 1 < (4 : Int32)) = True := eq_true (by decide)
theorem adE1 : ((6 : Int32) < nI 1) = False := eq_false (by decide)
theorem adF1 : (nI 1 = (7 : Int32)) = False := eq_false (by decide)
theorem adG1 : (nI 1 = (0 : Int32)) = False := eq_false (by decide)
theorem adH1 : (nI 1 = (1 : Int32)) = True := eq_true (by decide)
theorem adI41 : (nI 1 = (4 : Int32)) = False := eq_false (by decide)
theorem adI51 : (nI 1 = (5 : Int32)) = False := eq_false (by decide)
theorem adI61 : (nI 1 = (6 : Int32)) = False := eq_false (by decide)
theorem adA2 : ((1 : Int32) < nI 2) = True := eq_true (by decide)
theorem adB2 : (nI 2 = (2 : Int32)) = True := eq_true (by decide)
theorem adC2 : (nI 2 = (3 : Int32)) = False := eq_false (by decide)
theorem adD2 : (nI 2 < (4 : Int32)) = True := eq_true (by decide)
theorem adE2 : ((6 : Int32) < nI 2) = False := eq_false (by decide)
theorem adF2 : (nI 2 = (7 : Int32)) = False := eq_false (by decide)
theorem adG2 : (nI 2 = (0 : Int32)) = False := eq_false (by decide)
theorem adH2 : (nI 2 = (1 : Int32)) = False := eq_false (by decide)
theorem adI42 : (nI 2 = (4 : Int32)) = False := eq_false (by decide)
theorem adI52 : (nI 2 = (5 : Int32)) = False := eq_false (by decide)
theorem adI62 : (nI 2 = (6 : Int32)) = False := eq_false (by decide)
theorem adA3 : ((1 : Int32) < nI 3) = True := eq_true (by decide)
theorem adB3 : (nI 3 = (2 : Int32)) = False := eq_false (by decide)
theorem adC3 : (nI 3 = (3 : Int32)) = True := eq_true (by decide)
theorem adD3 : (nI 3 < (4 : Int32)) = True := eq_true (by decide)
theorem adE3 : ((6 : Int32) < nI 3) = False := eq_false (by decide)
theorem adF3 : (nI 3 = (7 : Int32)) = False := eq_false (by decide)
theorem adG3 : (nI 3 = (0 : Int32)) = False := eq_false (by decide)
theorem adH3 : (nI 3 = (1 : Int32)) = False := eq_false (by decide)
theorem adI43 : (nI 3 = (4 : Int32)) = False := eq_false (by decide)
theorem adI53 : (nI 3 = (5 : Int32)) = False := eq_false (by decide)
theorem adI63 : (nI 3 = (6 : Int32)) = False := eq_false (by decide)
theorem adA4 : ((1 : Int32) < nI 4) = True := eq_true (by decide)
theorem adB4 : (nI 4 = (2 : Int32)) = False := eq_false (by decide)
theorem adC4 : (nI 4 = (3 : Int32)) = False := eq_false (by decide)
theorem adD4 : (nI 4 < (4 : Int32)) = False := eq_false (by decide)
theorem adE4 : ((6 : Int32) < nI 4) = False := eq_false (by decide)
theorem adF4 : (nI 4 = (7 : Int32)) = False := eq_false (by decide)
theorem adG4 : (nI 4 = (0 : Int32)) = False := eq_false (by decide)
theorem adH4 : (nI 4 = (1 : Int32)) = False := eq_false (by decide)
theorem adI44 : (nI 4 = (4 : Int32)) = True := eq_true (by decide)
theorem adI54 : (nI 4 = (5 : Int32)) = False := eq_false (by decide)
theorem adI64 : (nI 4 = (6 : Int32)) = False := eq_false (by decide)
theorem adA5 : ((1 : Int32) < nI 5) = True := eq_true (by decide)
theorem adB5 : (nI 5 = (2 : Int32)) = False := eq_false (by decide)
theorem adC5 : (nI 5 = (3 : Int32)) = False := eq_false (by decide)
theorem adD5 : (nI 5 < (4 : Int32)) = False := eq_false (by decide)
theorem adE5 : ((6 : Int32) < nI 5) = False := eq_false (by decide)
theorem adF5 : (nI 5 = (7 : Int32)) = False := eq_false (by decide)
theorem adG5 : (nI 5 = (0 : Int32)) = False := eq_false (by decide)
theorem adH5 : (nI 5 = (1 : Int32)) = False := eq_false (by decide)
theorem adI45 : (nI 5 = (4 : Int32)) = False := eq_false (by decide)
theorem adI55 : (nI 5 = (5 : Int32)) = True := eq_true (by decide)
theorem adI65 : (nI 5 = (6 : Int32)) = False := eq_false (by decide)
theorem adA6 : ((1 : Int32) < nI 6) = True := eq_true (by decide)
theorem adB6 : (nI 6 = (2 : Int32)) = False := eq_false (by decide)
theorem adC6 : (nI 6 = (3 : Int32)) = False := eq_false (by decide)
theorem adD6 : (nI 6 < (4 : Int32)) = False := eq_false (by decide)
theorem adE6 : ((6 : Int32) < nI 6) = False := eq_false (by decide)
theorem adF6 : (nI 6 = (7 : Int32)) = False := eq_false (by decide)
theorem adG6 : (nI 6 = (0 : Int32)) = False := eq_false (by decide)
theorem adH6 : (nI 6 = (1 : Int32)) = False := eq_false (by decide)
theorem adI46 : (nI 6 = (4 : Int32)) = False := eq_false (by decide)
theorem adI56 : (nI 6 = (5 : Int32)) = False := eq_false (by decide)
theorem adI66 : (nI 6 = (6 : Int32)) = True := eq_true (by decide)
theorem adA7 : ((1 : Int32) < nI 7) = True := eq_true (by decide)
theorem adB7 : (nI 7 = (2 : Int32)) = False := eq_false (by decide)
theorem adC7 : (nI 7 = (3 : Int32)) = False := eq_false (by decide)
theorem adD7 : (nI 7 < (4 : Int32)) = False := eq_false (by decide)
theorem adE7 : ((6 : Int32) < nI 7) = True := eq_true (by decide)
theorem adF7 : (nI 7 = (7 : Int32)) = True := eq_true (by decide)
theorem adG7 : (nI 7 = (0 : Int32)) = False := eq_false (by decide)
theorem adH7 : (nI 7 = (1 : Int32)) = False := eq_false (by decide)
theorem adI47 : (nI 7 = (4 : Int32)) = False := eq_false (by decide)
theorem adI57 : (nI 7 = (5 : Int32)) = False := eq_false (by decide)
theorem adI67 : (nI 7 = (6 : Int32)) = False := eq_false (by decide)

theorem act_c {sq pa pe wo dd : Nat} {x : AS} {g t s d : Int32} {qh qw qs qu : Nat → Int32} (hc : CS pa pe x g t s d qh qw qs qu) (hv : VS sq pa pe wo x) (hpa : 0 < pa) (hpe : 0 < pe) (hd : dd < 65521) :
    ∃ s' w' q' u', f_X1_actByDraw s qw qs qu (nI sq) (nI pa) (nI pe) (nI dd) = some (s', w', q', u') ∧ CS pa pe (acDraw sq pa pe dd x) g t s' d qh w' q' u' ∧ VS sq pa pe wo (acDraw sq pa pe dd x) := by
  obtain ⟨a, Sq, Un⟩ := x
  obtain ⟨c1, c2, c3, c4, c5⟩ := hc
  have hv' : VA sq pa pe wo Sq Un a := hv
  have hS := hv'.S
  obtain ⟨v1, v2, v3, -⟩ := id hv'.1
  have hp : dd / 8 % pe < pe := Nat.mod_lt _ hpe
  have hu : dd / 64 % pa < pa := Nat.mod_lt _ hpa
  have hq : dd / 64 % pe < pe := Nat.mod_lt _ hpe
  have hw : dd / 64 % 2 < 2 := Nat.mod_lt _ (by omega)
  have hr : dd % 8 < 8 := Nat.mod_lt _ (by omega)
  have e8 : f_X7_modulo (nI dd / (8 : Int32)) (nI pe) = some (nI (dd / 8 % pe)) := by rw [div8 (by omega), modulo_eq (by omega) hpe (by omega)]
  have e64 : f_X7_modulo (nI dd / (64 : Int32)) (nI pa) = some (nI (dd / 64 % pa)) := by rw [div64 (by omega), modulo_eq (by omega) hpa (by omega)]
  have e64' : f_X7_modulo (nI dd / (64 : Int32)) (nI pe) = some (nI (dd / 64 % pe)) := by rw [div64 (by omega), modulo_eq (by omega) hpe (by omega)]
  have e2 : jrem (nI dd / (64 : Int32)) (2 : Int32) = nI (dd / 64 % 2) := by rw [div64 (by omega), jrem2 (by omega)]
  have c3 : s = nI a.2.2.1 := c3
  subst c3
  unfold f_X1_actByDraw
  rw [e8, ob_some, e64, ob_some, e64', ob_some, jrem8 (by omega), e2]
  generalize hp' : dd / 8 % pe = p at hp
  generalize hu' : dd / 64 % pa = u at hu
  generalize hq' : dd / 64 % pe = q at hq
  generalize hw' : dd / 64 % 2 = w at hw
  have hx : ∀ (r : Nat) (y : AS), dd % 8 = r → (if r ≤ 1 then (if okTake a.2.2.1 Sq Un pe p u = true then acTake p u (a, Sq, Un) else (a, Sq, Un)) else if r = 2 then (if okShare Sq Un pe p q = true then acShare p q (a, Sq, Un) else (a, Sq, Un)) else if r = 3 then (if okGive Sq Un pe p = true then acGive p (a, Sq, Un) else (a, Sq, Un)) else if r = 7 then (if spU Un pe u = 0 then acMend u (a, Sq, Un) else (a, Sq, Un)) else (if okWalk a.2.2.1 sq (Sq p) w p = true then acWalk pe p w (a, Sq, Un) else (a, Sq, Un))) = y → acDraw sq pa pe dd (a, Sq, Un) = y := by
    intro r y h1 h2
    rw [← h2, ← h1]
    unfold acDraw
    rw [hp', hu', hq', hw']
  have hid : CS pa pe (a, Sq, Un) g t (nI a.2.2.1) d qh qw qs qu := ⟨c1, c2, rfl, c4, c5⟩
  rcases (show dd % 8 = 0 ∨ dd % 8 = 1 ∨ dd % 8 = 2 ∨ dd % 8 = 3 ∨ dd % 8 = 4 ∨ dd % 8 = 5 ∨ dd % 8 = 6 ∨ dd % 8 = 7 by omega) with h | h | h | h | h | h | h | h
  · rw [h]
    simp only [adA0, adB0, adC0, adD0, adE0, adF0, if_true, if_false]
    rw [canTake_c c5 hv'.1 (by omega) hp hu, ob_some]
    by_cases k : okTake a.2.2.1 Sq Un pe p u = true
    · rw [if_pos k]
      simp only [show ((1 : Int32) = 0) = False from eq_false (by decide), if_false]
      refine ⟨_, _, _, upd qu p (nI u), by unfold f_X1_doTake; rw [put_eq _ _ (by omega) (by omega), ob_some, ob_some], ?_, ?_⟩
      · rw [hx _ (acTake p u (a, Sq, Un)) h (by rw [if_pos (by omega), if_pos k])]
        exact ⟨c1, c2, rfl, c4, c5.un (eU_lt (by omega)).symm⟩
      · rw [hx _ (acTake p u (a, Sq, Un)) h (by rw [if_pos (by omega), if_pos k])]
        exact hv'.take hu k
    · rw [if_neg k]
      simp only [show ((0 : Int32) = 0) = True from eq_true rfl, if_true]
      refine ⟨_, _, _, _, rfl, ?_, ?_⟩
      · rw [hx _ (a, Sq, Un) h (by rw [if_pos (by omega), if_neg k])]; exact hid
      · rw [hx _ (a, Sq, Un) h (by rw [if_pos (by omega), if_neg k])]; exact hv
  · rw [h]
    simp only [adA1, adB1, adC1, adD1, adE1, adF1, if_true, if_false]
    rw [canTake_c c5 hv'.1 (by omega) hp hu, ob_some]
    by_cases k : okTake a.2.2.1 Sq Un pe p u = true
    · rw [if_pos k]
      simp only [show ((1 : Int32) = 0) = False from eq_false (by decide), if_false]
      refine ⟨_, _, _, upd qu p (nI u), by unfold f_X1_doTake; rw [put_eq _ _ (by omega) (by omega), ob_some, ob_some], ?_, ?_⟩
      · rw [hx _ (acTake p u (a, Sq, Un)) h (by rw [if_pos (by omega), if_pos k])]
        exact ⟨c1, c2, rfl, c4, c5.un (eU_lt (by omega)).symm⟩
      · rw [hx _ (acTake p u (a, Sq, Un)) h (by rw [if_pos (by omega), if_pos k])]
        exact hv'.take hu k
    · rw [if_neg k]
      simp only [show ((0 : Int32) = 0) = True from eq_true rfl, if_true]
      refine ⟨_, _, _, _, rfl, ?_, ?_⟩
      · rw [hx _ (a, Sq, Un) h (by rw [if_pos (by omega), if_neg k])]; exact hid
      · rw [hx _ (a, Sq, Un) h (by rw [if_pos (by omega), if_neg k])]; exact hv
  · rw [h]
    simp only [adA2, adB2, adC2, adD2, adE2, adF2, if_true, if_false]
    rw [canShare_c c5 hv'.1 hp hq, ob_some]
    by_cases k : okShare Sq Un pe p q = true
    · rw [if_pos k]
      simp only [show ((1 : Int32) = 0) = False from eq_false (by decide), if_false]
      refine ⟨nI (a.2.2.1 &&& (31 ^^^ 2 ^ p)), _, _, upd qu p (eU (Un q)), by unfold f_X1_doShare; rw [parasolOf_eq qu (by omega), ob_some, put_eq _ _ (by omega) (by omega), ob_some, ob_some, shl_nI p (by omega), clr_dec _ hS _ (pow5 p (by omega)), c5.2.2.2 q hq], ?_, ?_⟩
      · rw [hx _ (acShare p q (a, Sq, Un)) h (by rw [if_neg (by omega), if_pos (by omega), if_pos k])]
        exact ⟨c1, c2, rfl, c4, c5.un rfl⟩
      · rw [hx _ (acShare p q (a, Sq, Un)) h (by rw [if_neg (by omega), if_pos (by omega), if_pos k])]
        exact (hv'.share hp hq k).st (Nat.lt_of_le_of_lt Nat.and_le_left hv'.2.1)
    · rw [if_neg k]
      simp only [show ((0 : Int32) = 0) = True from eq_true rfl, if_true]
      refine ⟨_, _, _, _, rfl, ?_, ?_⟩
      · rw [hx _ (a, Sq, Un) h (by rw [if_neg (by omega), if_pos (by omega), if_neg k])]; exact hid
      · rw [hx _ (a, Sq, Un) h (by rw [if_neg (by omega), if_pos (by omega), if_neg k])]; exact hv
  · rw [h]
    simp only [adA3, adB3, adC3, adD3, adE3, adF3, if_true, if_false]
    rw [canGive_c c5 hv'.1 hp, ob_some]
    by_cases k : okGive Sq Un pe p = true
    · rw [if_pos k]
      simp only [show ((1 : Int32) = 0) = False from eq_false (by decide), if_false]
      refine ⟨_, _, _, upd qu p (-4), by unfold f_X1_doGive; rw [put_eq _ _ (by omega) (by omega), ob_some, ob_some], ?_, ?_⟩
      · rw [hx _ (acGive p (a, Sq, Un)) h (by rw [if_neg (by omega), if_neg (by omega), if_pos (by omega), if_pos k])]
        exact ⟨c1, c2, rfl, c4, c5.un rfl⟩
      · rw [hx _ (acGive p (a, Sq, Un)) h (by rw [if_neg (by omega), if_neg (by omega), if_pos (by omega), if_pos k])]
        exact hv'.give
    · rw [if_neg k]
      simp only [show ((0 : Int32) = 0) = True from eq_true rfl, if_true]
      refine ⟨_, _, _, _, rfl, ?_, ?_⟩
      · rw [hx _ (a, Sq, Un) h (by rw [if_neg (by omega), if_neg (by omega), if_pos (by omega), if_neg k])]; exact hid
      · rw [hx _ (a, Sq, Un) h (by rw [if_neg (by omega), if_neg (by omega), if_pos (by omega), if_neg k])]; exact hv
  · rw [h]
    simp only [adA4, adB4, adC4, adD4, adE4, adF4, if_true, if_false]
    rw [canWalk_c c5 hv'.1 (by omega) hp hw, ob_some]
    by_cases k : okWalk a.2.2.1 sq (Sq p) w p = true
    · rw [if_pos k]
      simp only [show ((1 : Int32) = 0) = False from eq_false (by decide), if_false]
      obtain ⟨qs', f1, f2⟩ := doWalk_c c5 hv'.1 hS hp hw k
      refine ⟨_, _, qs', _, by rw [f1, ob_some], ?_, ?_⟩
      · rw [hx _ (acWalk pe p w (a, Sq, Un)) h (by rw [if_neg (by omega), if_neg (by omega), if_neg (by omega), if_neg (by omega), if_pos k])]
        exact ⟨c1, c2, rfl, c4, f2⟩
      · rw [hx _ (acWalk pe p w (a, Sq, Un)) h (by rw [if_neg (by omega), if_neg (by omega), if_neg (by omega), if_neg (by omega), if_pos k])]
        exact hv'.walk hp (toWalk_lt k (hv'.1.2.2.2.2.2.1 p hp))
    · rw [if_neg k]
      simp only [show ((0 : Int32) = 0) = True from eq_true rfl, if_true]
      refine ⟨_, _, _, _, rfl, ?_, ?_⟩
      · rw [hx _ (a, Sq, Un) h (by rw [if_neg (by omega), if_neg (by omega), if_neg (by omega), if_neg (by omega), if_neg k])]; exact hid
      · rw [hx _ (a, Sq, Un) h (by rw [if_neg (by omega), if_neg (by omega), if_neg (by omega), if_neg (by omega), if_neg k])]; exact hv
  · rw [h]
    simp only [adA5, adB5, adC5, adD5, adE5, adF5, if_true, if_false]
    rw [canWalk_c c5 hv'.1 (by omega) hp hw, ob_some]
    by_cases k : okWalk a.2.2.1 sq (Sq p) w p = true
    · rw [if_pos k]
      simp only [show ((1 : Int32) = 0) = False from eq_false (by decide), if_false]
      obtain ⟨qs', f1, f2⟩ := doWalk_c c5 hv'.1 hS hp hw k
      refine ⟨_, _, qs', _, by rw [f1, ob_some], ?_, ?_⟩
      · rw [hx _ (acWalk pe p w (a, Sq, Un)) h (by rw [if_neg (by omega), if_neg (by omega), if_neg (by omega), if_neg (by omega), if_pos k])]
        exact ⟨c1, c2, rfl, c4, f2⟩
      · rw [hx _ (acWalk pe p w (a, Sq, Un)) h (by rw [if_neg (by omega), if_neg (by omega), if_neg (by omega), if_neg (by omega), if_pos k])]
        exact hv'.walk hp (toWalk_lt k (hv'.1.2.2.2.2.2.1 p hp))
    · rw [if_neg k]
      simp only [show ((0 : Int32) = 0) = True from eq_true rfl, if_true]
      refine ⟨_, _, _, _, rfl, ?_, ?_⟩
      · rw [hx _ (a, Sq, Un) h (by rw [if_neg (by omega), if_neg (by omega), if_neg (by omega), if_neg (by omega), if_neg k])]; exact hid
      · rw [hx _ (a, Sq, Un) h (by rw [if_neg (by omega), if_neg (by omega), if_neg (by omega), if_neg (by omega), if_neg k])]; exact hv
  · rw [h]
    simp only [adA6, adB6, adC6, adD6, adE6, adF6, if_true, if_false]
    rw [canWalk_c c5 hv'.1 (by omega) hp hw, ob_some]
    by_cases k : okWalk a.2.2.1 sq (Sq p) w p = true
    · rw [if_pos k]
      simp only [show ((1 : Int32) = 0) = False from eq_false (by decide), if_false]
      obtain ⟨qs', f1, f2⟩ := doWalk_c c5 hv'.1 hS hp hw k
      refine ⟨_, _, qs', _, by rw [f1, ob_some], ?_, ?_⟩
      · rw [hx _ (acWalk pe p w (a, Sq, Un)) h (by rw [if_neg (by omega), if_neg (by omega), if_neg (by omega), if_neg (by omega), if_pos k])]
        exact ⟨c1, c2, rfl, c4, f2⟩
      · rw [hx _ (acWalk pe p w (a, Sq, Un)) h (by rw [if_neg (by omega), if_neg (by omega), if_neg (by omega), if_neg (by omega), if_pos k])]
        exact hv'.walk hp (toWalk_lt k (hv'.1.2.2.2.2.2.1 p hp))
    · rw [if_neg k]
      simp only [show ((0 : Int32) = 0) = True from eq_true rfl, if_true]
      refine ⟨_, _, _, _, rfl, ?_, ?_⟩
      · rw [hx _ (a, Sq, Un) h (by rw [if_neg (by omega), if_neg (by omega), if_neg (by omega), if_neg (by omega), if_neg k])]; exact hid
      · rw [hx _ (a, Sq, Un) h (by rw [if_neg (by omega), if_neg (by omega), if_neg (by omega), if_neg (by omega), if_neg k])]; exact hv
  · rw [h]
    simp only [adA7, adB7, adC7, adD7, adE7, adF7, if_true, if_false]
    rw [isInStand_eq v3 (by omega) (c5.U hv'.1), ob_some]
    by_cases k : spU Un pe u = 0
    · rw [if_pos k]
      simp only [show ((1 : Int32) = 0) = False from eq_false (by decide), if_false]
      refine ⟨_, upd qw u 0, _, _, by unfold f_X1_doMend; rw [put_eq _ _ (by omega) (by omega), ob_some, ob_some], ?_, ?_⟩
      · rw [hx _ (acMend u (a, Sq, Un)) h (by rw [if_neg (by omega), if_neg (by omega), if_neg (by omega), if_pos (by omega), if_pos k])]
        exact ⟨c1, c2, rfl, c4, c5.mend⟩
      · rw [hx _ (acMend u (a, Sq, Un)) h (by rw [if_neg (by omega), if_neg (by omega), if_neg (by omega), if_pos (by omega), if_pos k])]
        exact hv'.mend
    · rw [if_neg k]
      simp only [show ((0 : Int32) = 0) = True from eq_true rfl, if_true]
      refine ⟨_, _, _, _, rfl, ?_, ?_⟩
      · rw [hx _ (a, Sq, Un) h (by rw [if_neg (by omega), if_neg (by omega), if_neg (by omega), if_pos (by omega), if_neg k])]; exact hid
      · rw [hx _ (a, Sq, Un) h (by rw [if_neg (by omega), if_neg (by omega), if_neg (by omega), if_pos (by omega), if_neg k])]; exact hv

theorem draws_m {sq pa pe wo dd : Nat} {K WS WH : Nat → Nat} {x : AS} {o m : Nat → Int32} (hc : MS pa pe x o) (hv : VS sq pa pe wo x) (hm : MP sq pa pe wo K WS WH m) (hpa : 0 < pa) (hpe : 0 < pe) (hd : dd < 65521) :
    ∃ o', f_X8_draws m o (nI dd) = some o' ∧ MS pa pe (acDraw sq pa pe dd x) o' := by
  obtain ⟨a, Sq, Un⟩ := x
  have hc' : MA pa pe Sq Un a o := hc
  have hv' : VA sq pa pe wo Sq Un a := hv
  have hS := hv'.S
  obtain ⟨v1, v2, v3, -⟩ := id hv'.1
  have hp : dd / 8 % pe < pe := Nat.mod_lt _ hpe
  have hu : dd / 64 % pa < pa := Nat.mod_lt _ hpa
  have hq : dd / 64 % pe < pe := Nat.mod_lt _ hpe
  have hw : dd / 64 % 2 < 2 := Nat.mod_lt _ (by omega)
  have e8 : jrem (nI dd / (8 : Int32)) (m (2 : Int32).toNatClampNeg) = nI (dd / 8 % pe) := by rw [cl2, hm.2.2.1, div8 (by omega), jrem_eq (by omega) hpe (by omega)]
  have e64 : jrem (nI dd / (64 : Int32)) (m (1 : Int32).toNatClampNeg) = nI (dd / 64 % pa) := by rw [cl1, hm.2.1, div64 (by omega), jrem_eq (by omega) hpa (by omega)]
  have e64' : jrem (nI dd / (64 : Int32)) (m (2 : Int32).toNatClampNeg) = nI (dd / 64 % pe) := by rw [cl2, hm.2.2.1, div64 (by omega), jrem_eq (by omega) hpe (by omega)]
  have e2 : jrem (nI dd / (64 : Int32)) (2 : Int32) = nI (dd / 64 % 2) := by rw [div64 (by omega), jrem2 (by omega)]
  have z1 : (m (1 : Int32).toNatClampNeg = 0) = False := eq_false (by rw [cl1, hm.2.1]; exact nI_ne0 hpa (by omega))
  have z2 : (m (2 : Int32).toNatClampNeg = 0) = False := eq_false (by rw [cl2, hm.2.2.1]; exact nI_ne0 hpe (by omega))
  unfold f_X8_draws
  rw [e8, e64, e64', e2, jrem8 (by omega)]
  generalize hp' : dd / 8 % pe = p at hp
  generalize hu' : dd / 64 % pa = u at hu
  generalize hq' : dd / 64 % pe = q at hq
  generalize hw' : dd / 64 % 2 = w at hw
  have hx : ∀ (r : Nat) (y : AS), dd % 8 = r → (if r ≤ 1 then (if okTake a.2.2.1 Sq Un pe p u = true then acTake p u (a, Sq, Un) else (a, Sq, Un)) else if r = 2 then (if okShare Sq Un pe p q = true then acShare p q (a, Sq, Un) else (a, Sq, Un)) else if r = 3 then (if okGive Sq Un pe p = true then acGive p (a, Sq, Un) else (a, Sq, Un)) else if r = 7 then (if spU Un pe u = 0 then acMend u (a, Sq, Un) else (a, Sq, Un)) else (if okWalk a.2.2.1 sq (Sq p) w p = true then acWalk pe p w (a, Sq, Un) else (a, Sq, Un))) = y → acDraw sq pa pe dd (a, Sq, Un) = y := by
    intro r y h1 h2
    rw [← h2, ← h1]
    unfold acDraw
    rw [hp', hu', hq', hw']
  rcases (show dd % 8 = 0 ∨ dd % 8 = 1 ∨ dd % 8 = 2 ∨ dd % 8 = 3 ∨ dd % 8 = 4 ∨ dd % 8 = 5 ∨ dd % 8 = 6 ∨ dd % 8 = 7 by omega) with h | h | h | h | h | h | h | h
  · rw [h]
    simp only [adG0, adH0, adB0, adC0, adI40, adI50, adI60, adF0, z1, z2, if_true, if_false]
    rw [takes_m hc' hv' hm hp hu, ob_some]
    by_cases k : okTake a.2.2.1 Sq Un pe p u = true
    · rw [if_pos k]
      refine ⟨_, rfl, ?_⟩
      rw [hx _ (acTake p u (a, Sq, Un)) h (by rw [if_pos (by omega), if_pos k])]
      exact hc'.unA v2 v3 (eU_lt (by omega)).symm
    · rw [if_neg k]
      refine ⟨_, rfl, ?_⟩
      rw [hx _ (a, Sq, Un) h (by rw [if_pos (by omega), if_neg k])]
      exact hc
  · rw [h]
    simp only [adG1, adH1, adB1, adC1, adI41, adI51, adI61, adF1, z1, z2, if_true, if_false]
    rw [takes_m hc' hv' hm hp hu, ob_some]
    by_cases k : okTake a.2.2.1 Sq Un pe p u = true
    · rw [if_pos k]
      refine ⟨_, rfl, ?_⟩
      rw [hx _ (acTake p u (a, Sq, Un)) h (by rw [if_pos (by omega), if_pos k])]
      exact hc'.unA v2 v3 (eU_lt (by omega)).symm
    · rw [if_neg k]
      refine ⟨_, rfl, ?_⟩
      rw [hx _ (a, Sq, Un) h (by rw [if_pos (by omega), if_neg k])]
      exact hc
  · rw [h]
    simp only [adG2, adH2, adB2, adC2, adI42, adI52, adI62, adF2, z1, z2, if_true, if_false]
    rw [shares_m hc' hv' hm hp hq, ob_some]
    by_cases k : okShare Sq Un pe p q = true
    · rw [if_pos k]
      refine ⟨_, rfl, ?_⟩
      rw [hx _ (acShare p q (a, Sq, Un)) h (by rw [if_neg (by omega), if_pos (by omega), if_pos k])]
      exact (hc'.unA v2 v3 rfl).st
    · rw [if_neg k]
      refine ⟨_, rfl, ?_⟩
      rw [hx _ (a, Sq, Un) h (by rw [if_neg (by omega), if_pos (by omega), if_neg k])]
      exact hc
  · rw [h]
    simp only [adG3, adH3, adB3, adC3, adI43, adI53, adI63, adF3, z1, z2, if_true, if_false]
    rw [gives_m hc' hv' hm hp, ob_some]
    by_cases k : okGive Sq Un pe p = true
    · rw [if_pos k]
      refine ⟨_, rfl, ?_⟩
      rw [hx _ (acGive p (a, Sq, Un)) h (by rw [if_neg (by omega), if_neg (by omega), if_pos (by omega), if_pos k])]
      exact hc'.unA v2 v3 rfl
    · rw [if_neg k]
      refine ⟨_, rfl, ?_⟩
      rw [hx _ (a, Sq, Un) h (by rw [if_neg (by omega), if_neg (by omega), if_pos (by omega), if_neg k])]
      exact hc
  · rw [h]
    simp only [adG4, adH4, adB4, adC4, adI44, adI54, adI64, adF4, z1, z2, if_true, if_false]
    rcases walks_m hc' hv' hm hp hw with ⟨k, o', f1, f2⟩ | ⟨k, f1⟩
    · rw [f1, ob_some]
      refine ⟨_, rfl, ?_⟩
      rw [hx _ (acWalk pe p w (a, Sq, Un)) h (by rw [if_neg (by omega), if_neg (by omega), if_neg (by omega), if_neg (by omega), if_pos k])]
      exact f2
    · rw [f1, ob_some]
      refine ⟨_, rfl, ?_⟩
      rw [hx _ (a, Sq, Un) h (by rw [if_neg (by omega), if_neg (by omega), if_neg (by omega), if_neg (by omega), if_neg k])]
      exact hc
  · rw [h]
    simp only [adG5, adH5, adB5, adC5, adI45, adI55, adI65, adF5, z1, z2, if_true, if_false]
    rcases walks_m hc' hv' hm hp hw with ⟨k, o', f1, f2⟩ | ⟨k, f1⟩
    · rw [f1, ob_some]
      refine ⟨_, rfl, ?_⟩
      rw [hx _ (acWalk pe p w (a, Sq, Un)) h (by rw [if_neg (by omega), if_neg (by omega), if_neg (by omega), if_neg (by omega), if_pos k])]
      exact f2
    · rw [f1, ob_some]
      refine ⟨_, rfl, ?_⟩
      rw [hx _ (a, Sq, Un) h (by rw [if_neg (by omega), if_neg (by omega), if_neg (by omega), if_neg (by omega), if_neg k])]
      exact hc
  · rw [h]
    simp only [adG6, adH6, adB6, adC6, adI46, adI56, adI66, adF6, z1, z2, if_true, if_false]
    rcases walks_m hc' hv' hm hp hw with ⟨k, o', f1, f2⟩ | ⟨k, f1⟩
    · rw [f1, ob_some]
      refine ⟨_, rfl, ?_⟩
      rw [hx _ (acWalk pe p w (a, Sq, Un)) h (by rw [if_neg (by omega), if_neg (by omega), if_neg (by omega), if_neg (by omega), if_pos k])]
      exact f2
    · rw [f1, ob_some]
      refine ⟨_, rfl, ?_⟩
      rw [hx _ (a, Sq, Un) h (by rw [if_neg (by omega), if_neg (by omega), if_neg (by omega), if_neg (by omega), if_neg k])]
      exact hc
  · rw [h]
    simp only [adG7, adH7, adB7, adC7, adI47, adI57, adI67, adF7, z1, z2, if_true, if_false]
    rw [mends_m hc' hv' hm hu, ob_some]
    by_cases k : spU Un pe u = 0
    · rw [if_pos k]
      refine ⟨_, rfl, ?_⟩
      rw [hx _ (acMend u (a, Sq, Un)) h (by rw [if_neg (by omega), if_neg (by omega), if_neg (by omega), if_pos (by omega), if_pos k])]
      exact hc'.mend v2 hu
    · rw [if_neg k]
      refine ⟨_, rfl, ?_⟩
      rw [hx _ (a, Sq, Un) h (by rw [if_neg (by omega), if_neg (by omega), if_neg (by omega), if_pos (by omega), if_neg k])]
      exact hc
