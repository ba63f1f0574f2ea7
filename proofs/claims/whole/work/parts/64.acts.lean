def setN (f : Nat → Nat) (k x : Nat) : Nat → Nat := fun j => if j = k then x else f j
theorem setN_s {f : Nat → Nat} {k x : Nat} : setN f k x k = x := if_pos rfl
theorem setN_n {f : Nat → Nat} {k x j : Nat} (h : j ≠ k) : setN f k x j = f j := if_neg h
theorem spU_none {Un : Nat → Nat} {pe u : Nat} (h : spU Un pe u = 0) {p : Nat} (hp : p < pe) : Un p ≠ u := fun q => (spU_pos.mpr ⟨p, hp, q⟩) h
-- take
def okTake (S : Nat) (Sq Un : Nat → Nat) (pe p u : Nat) : Bool := !S.testBit p && (Sq p == 0 && (Un p == 6 && spU Un pe u == 0))
theorem canTake_c {sq pa pe p u S : Nat} {Ho Wo Sq Un : Nat → Nat} {qh qw qs qu : Nat → Int32} (hc : CM pa pe Ho Wo Sq Un qh qw qs qu) (hv : VM sq pa pe Ho Wo Sq Un) (hS : S < 64) (hp : p < pe) (hu : u < pa) : f_X1_canTake (nI S) qs qu (nI pe) (nI p) (nI u) = some (if okTake S Sq Un pe p u = true then 1 else 0) := by
  obtain ⟨v1, v2, v3, v4, v5, v6, v7, v8⟩ := id hv
  have h6 := v6 p hp
  unfold f_X1_canTake okTake
  rw [isStill_eq hS (by omega), ob_some]
  by_cases q1 : S.testBit p = true
  · rw [if_pos q1, if_neg (by decide), if_neg (by simp [q1])]
  · rw [if_neg q1, if_pos (by decide), squareOf_eq qs (by omega), ob_some, hc.2.2.1 p hp]
    by_cases q2 : Sq p = 0
    · rw [if_pos ((nI_z (by omega)).mpr q2), parasolOf_eq qu (by omega), ob_some, hc.2.2.2 p hp]
      by_cases q3 : Un p = 6
      · rw [if_pos ((eU_decN _ (hv.un hp)).mpr q3), isInStand_eq v3 (by omega) (hc.U hv), ob_some]
        by_cases q4 : spU Un pe u = 0
        · rw [if_pos q4, if_neg (by decide), if_pos (by simp [q1, q2, q3, q4])]
        · rw [if_neg q4, if_pos (by decide), if_neg (by simp [q4])]
      · rw [if_neg (fun z => q3 ((eU_decN _ (hv.un hp)).mp z)), if_neg (by simp [q3])]
    · rw [if_neg (fun z => q2 ((nI_z (by omega)).mp z)), if_neg (by simp [q2])]
theorem takes_m {sq pa pe wo p u : Nat} {Sq Un K WS WH : Nat → Nat} {a : AMt} {o m : Nat → Int32} (hc : MA pa pe Sq Un a o) (hv : VA sq pa pe wo Sq Un a) (hm : MP sq pa pe wo K WS WH m) (hp : p < pe) (hu : u < pa) : f_X8_takes m o (nI p) (nI u) = some (if okTake a.2.2.1 Sq Un pe p u = true then (1, upd o (21 + p) (nI u)) else (0, o)) := by
  obtain ⟨v1, v2, v3, v4, v5, v6, v7, v8⟩ := id hv.1
  have h6 := v6 p hp
  have hS := hv.S
  obtain ⟨c1, c2, c3, c4, c5⟩ := hc
  unfold f_X8_takes okTake
  rw [cl3, c5, has_eq (by omega) (by omega), ob_some]
  by_cases q1 : a.2.2.1.testBit p = true
  · rw [if_pos q1, if_neg (by decide), if_neg (by simp [q1])]
  · rw [if_neg q1, if_pos (by decide), a16, if_pos (okb_nI (by omega) (by omega)), clN (by omega), c1.2.2.1 p hp]
    by_cases q2 : Sq p = 0
    · rw [if_pos ((nI_z (by omega)).mpr q2), a21, if_pos (okb_nI (by omega) (by omega)), clN (by omega), c1.2.2.2 p hp]
      by_cases q3 : Un p = 6
      · rw [if_pos ((eU_decN _ (hv.1.un hp)).mpr q3), under_eq v3 hm.2.2.1 (by omega) (c1.U hv.1), ob_some]
        have := spU_lt Un u v3
        by_cases q4 : spU Un pe u = 0
        · rw [if_pos ((nI_z (by omega)).mpr q4), if_pos (by simp [q1, q2, q3, q4])]
        · rw [if_neg (fun z => q4 ((nI_z (by omega)).mp z)), if_neg (by simp [q4])]
      · rw [if_neg (fun z => q3 ((eU_decN _ (hv.1.un hp)).mp z)), if_neg (by simp [q3])]
    · rw [if_neg (fun z => q2 ((nI_z (by omega)).mp z)), if_neg (by simp [q2])]
theorem CM.un {pa pe p x : Nat} {Ho Wo Sq Un : Nat → Nat} {qh qw qs qu : Nat → Int32} {v : Int32} (hc : CM pa pe Ho Wo Sq Un qh qw qs qu) (hx : v = eU x) : CM pa pe Ho Wo Sq (setN Un p x) qh qw qs (upd qu p v) := by
  refine ⟨hc.1, hc.2.1, hc.2.2.1, fun q hq => ?_⟩
  by_cases h : q = p
  · subst h; rw [pk_us, setN_s, hx]
  · rw [pk_un h, setN_n h]; exact hc.2.2.2 q hq
theorem MM.unA {pa pe p x : Nat} {Ho Wo Sq Un : Nat → Nat} {o : Nat → Int32} {v : Int32} (hpa : pa ≤ 6) (hpe : pe ≤ 5) (hc : MM pa pe Ho Wo Sq Un o) (hx : v = eU x) : MM pa pe Ho Wo Sq (setN Un p x) (upd o (21 + p) v) := by
  refine ⟨fun q hq => ?_, fun q hq => ?_, fun q hq => ?_, fun q hq => ?_⟩
  · rw [pk_un (by omega)]; exact hc.1 q hq
  · rw [pk_un (by omega)]; exact hc.2.1 q hq
  · rw [pk_un (by omega)]; exact hc.2.2.1 q hq
  · by_cases h : q = p
    · subst h; rw [pk_us, setN_s, hx]
    · rw [pk_un (by omega), setN_n h]; exact hc.2.2.2 q hq
theorem MA.unA {pa pe p x : Nat} {Sq Un : Nat → Nat} {a : AMt} {o : Nat → Int32} {v : Int32} (hpa : pa ≤ 6) (hpe : pe ≤ 5) (hc : MA pa pe Sq Un a o) (hx : v = eU x) : MA pa pe Sq (setN Un p x) a (upd o (21 + p) v) := by
  obtain ⟨c1, c2, c3, c4, c5⟩ := hc
  exact ⟨c1.unA hpa hpe hx, by rw [pk_un (by omega)]; exact c2, by rw [pk_un (by omega)]; exact c3, by rw [pk_un (by omega)]; exact c4, by rw [pk_un (by omega)]; exact c5⟩
theorem VA.take {sq pa pe wo p u : Nat} {Sq Un : Nat → Nat} {a : AMt} (hv : VA sq pa pe wo Sq Un a) (hu : u < pa) (h : okTake a.2.2.1 Sq Un pe p u = true) : VA sq pa pe wo Sq (setN Un p u) a := by
  obtain ⟨⟨v1, v2, v3, v4, v5, v6, v7, v8⟩, h2, h3⟩ := hv
  unfold okTake at h
  simp at h
  refine ⟨⟨v1, v2, v3, v4, v5, v6, fun q hq => ?_, fun x y hx hy e hl => ?_⟩, h2, h3⟩
  · by_cases hqp : q = p
    · subst hqp; rw [setN_s]; exact Or.inl hu
    · rw [setN_n hqp]; exact v7 q hq
  · by_cases hxp : x = p
    · by_cases hyp : y = p
      · rw [hxp, hyp]
      · rw [hxp, setN_s, setN_n hyp] at e
        exact absurd e.symm (spU_none h.2.2.2 hy)
    · by_cases hyp : y = p
      · rw [hyp, setN_s, setN_n hxp] at e
        exact absurd e (spU_none h.2.2.2 hx)
      · rw [setN_n hxp] at e hl
        rw [setN_n hyp] at e
        exact v8 x y hx hy e hl
-- share
def okShare (Sq Un : Nat → Nat) (pe p q : Nat) : Bool := !(p == q) && (Un p == 6 && (!(Un q == 6) && (Sq p == Sq q && decide (popc (spU Un pe (Un q)) < 2))))
theorem popc_lt (s : Nat) : popc s ≤ 6 := by unfold popc; exact Nat.le_trans List.countP_le_length (by simp)
theorem canShare_c {sq pa pe p q : Nat} {Ho Wo Sq Un : Nat → Nat} {qh qw qs qu : Nat → Int32} (hc : CM pa pe Ho Wo Sq Un qh qw qs qu) (hv : VM sq pa pe Ho Wo Sq Un) (hp : p < pe) (hq : q < pe) : f_X1_canShare qs qu (nI pe) (nI p) (nI q) = some (if okShare Sq Un pe p q = true then 1 else 0) := by
  obtain ⟨v1, v2, v3, v4, v5, v6, v7, v8⟩ := id hv
  have h6 := v6 p hp
  have h7 := v6 q hq
  unfold f_X1_canShare okShare
  rw [parasolOf_eq qu (by omega), ob_some]
  by_cases q1 : p = q
  · rw [if_pos (by rw [q1]), if_neg (by simp [q1])]
  · rw [if_neg (fun z => q1 ((eqN (by omega) (by omega)).mp z)), parasolOf_eq qu (by omega), ob_some, hc.2.2.2 p hp, hc.2.2.2 q hq]
    by_cases q2 : Un p = 6
    · rw [if_pos ((eU_decN _ (hv.un hp)).mpr q2)]
      by_cases q3 : Un q = 6
      · rw [if_pos ((eU_decN _ (hv.un hq)).mpr q3), if_neg (by simp [q3])]
      · rw [if_neg (fun z => q3 ((eU_decN _ (hv.un hq)).mp z)), squareOf_eq qs (by omega), ob_some, squareOf_eq qs (by omega), ob_some, hc.2.2.1 p hp, hc.2.2.1 q hq]
        by_cases q4 : Sq p = Sq q
        · have hx := hv.un hq
          have hs := spU_lt Un (Un q) v3
          rw [if_pos (by rw [q4]), eU_lt (by omega), bearersOf_eq v3 (by omega) (hc.U hv), ob_some, bitCount_eq (by omega), ob_some]
          have hl := popc_lt (spU Un pe (Un q))
          by_cases q5 : popc (spU Un pe (Un q)) < 2
          · rw [if_neg (show ¬ (2 : Int32) ≤ nI _ from nle (b := 2) q5 (by omega)), if_pos (by simp [q1, q2, q3, q4, q5])]
          · rw [if_pos (show (2 : Int32) ≤ nI _ from lle (a := 2) (by omega) (by omega)), if_neg (by simp [q5])]
        · rw [if_neg (fun z => q4 ((eqN (by omega) (by omega)).mp z)), if_neg (by simp [q4])]
    · rw [if_neg (fun z => q2 ((eU_decN _ (hv.un hp)).mp z)), if_neg (by simp [q2])]
theorem shares_m {sq pa pe wo p q : Nat} {Sq Un K WS WH : Nat → Nat} {a : AMt} {o m : Nat → Int32} (hc : MA pa pe Sq Un a o) (hv : VA sq pa pe wo Sq Un a) (hm : MP sq pa pe wo K WS WH m) (hp : p < pe) (hq : q < pe) : f_X8_shares m o (nI p) (nI q) = some (if okShare Sq Un pe p q = true then (1, upd (upd o (21 + p) (eU (Un q))) 3 (nI (a.2.2.1 &&& (31 ^^^ 2 ^ p)))) else (0, o)) := by
  obtain ⟨v1, v2, v3, v4, v5, v6, v7, v8⟩ := id hv.1
  have h6 := v6 p hp
  have h7 := v6 q hq
  have hS := hv.S
  obtain ⟨c1, c2, c3, c4, c5⟩ := hc
  unfold f_X8_shares okShare
  rw [a21, if_pos (okb_nI (by omega) (by omega))]
  by_cases q1 : p = q
  · rw [if_pos (by rw [q1]), if_neg (by simp [q1])]
  · rw [if_neg (fun z => q1 ((eqN (by omega) (by omega)).mp z)), a21, if_pos (okb_nI (by omega) (by omega)), clN (by omega), clN (by omega), c1.2.2.2 p hp, c1.2.2.2 q hq]
    by_cases q2 : Un p = 6
    · rw [if_pos ((eU_decN _ (hv.1.un hp)).mpr q2)]
      by_cases q3 : Un q = 6
      · rw [if_pos ((eU_decN _ (hv.1.un hq)).mpr q3), if_neg (by simp [q3])]
      · rw [if_neg (fun z => q3 ((eU_decN _ (hv.1.un hq)).mp z)), a16, if_pos (okb_nI (by omega) (by omega)), a16, if_pos (okb_nI (by omega) (by omega)), clN (by omega), clN (by omega), c1.2.2.1 p hp, c1.2.2.1 q hq]
        by_cases q4 : Sq p = Sq q
        · have hx := hv.1.un hq
          have hs := spU_lt Un (Un q) v3
          have hl := popc_lt (spU Un pe (Un q))
          have hw : ∀ p, p < 5 → 2 ^ p < 32 := by decide
          rw [if_pos (by rw [q4]), eU_lt (show Un q < 6 by omega), under_eq v3 hm.2.2.1 (by omega) (c1.U hv.1), ob_some, bits_eq (by omega), ob_some]
          by_cases q5 : popc (spU Un pe (Un q)) < 2
          · rw [if_pos (show nI _ ≤ (1 : Int32) from lle (b := 1) (by omega) (by omega)), if_pos (by simp [q1, q2, q3, q4, q5]), cl3, pk_un (show (3 : Nat) ≠ 21 + p by omega), c5, shl_nI p (by omega), clr_dec _ hS _ (hw p (by omega))]
          · rw [if_neg (show ¬ nI _ ≤ (1 : Int32) from nle (a := 1) (by omega) (by omega)), if_neg (by simp [q5])]
        · rw [if_neg (fun z => q4 ((eqN (by omega) (by omega)).mp z)), if_neg (by simp [q4])]
    · rw [if_neg (fun z => q2 ((eU_decN _ (hv.1.un hp)).mp z)), if_neg (by simp [q2])]
def setS (a : AMt) (S : Nat) : AMt := (a.1, a.2.1, S, a.2.2.2.1, a.2.2.2.2.1, a.2.2.2.2.2)
theorem MA.st {pa pe S : Nat} {Sq Un : Nat → Nat} {a : AMt} {o : Nat → Int32} (hc : MA pa pe Sq Un a o) : MA pa pe Sq Un (setS a S) (upd o 3 (nI S)) := by
  obtain ⟨c1, c2, c3, c4, c5⟩ := hc
  exact ⟨c1.lo (by omega) _, by rw [pk_un (by omega)]; exact c2, by rw [pk_un (by omega)]; exact c3, by rw [pk_un (by omega)]; exact c4, pk_us⟩
theorem VA.st {sq pa pe wo S : Nat} {Sq Un : Nat → Nat} {a : AMt} (hv : VA sq pa pe wo Sq Un a) (hS : S < 2 ^ pe) : VA sq pa pe wo Sq Un (setS a S) := ⟨hv.1, hS, hv.2.2⟩
theorem VA.share {sq pa pe wo p q : Nat} {Sq Un : Nat → Nat} {a : AMt} (hv : VA sq pa pe wo Sq Un a) (hp : p < pe) (hq : q < pe) (h : okShare Sq Un pe p q = true) : VA sq pa pe wo Sq (setN Un p (Un q)) a := by
  obtain ⟨⟨v1, v2, v3, v4, v5, v6, v7, v8⟩, h2, h3⟩ := hv
  unfold okShare at h
  simp at h
  refine ⟨⟨v1, v2, v3, v4, v5, v6, fun x hx => ?_, fun x y hx hy e hl => ?_⟩, h2, h3⟩
  · by_cases hqp : x = p
    · subst hqp; rw [setN_s]; exact v7 q hq
    · rw [setN_n hqp]; exact v7 x hx
  · by_cases hxp : x = p
    · by_cases hyp : y = p
      · rw [hxp, hyp]
      · rw [hxp, setN_s, setN_n hyp] at e
        rw [hxp, setN_s] at hl
        rw [hxp, h.2.2.2.1]
        exact v8 q y hq hy e hl
    · by_cases hyp : y = p
      · rw [hyp, setN_s, setN_n hxp] at e
        rw [setN_n hxp] at hl
        rw [hyp, h.2.2.2.1]
        exact v8 x q hx hq e hl
      · rw [setN_n hxp] at e hl
        rw [setN_n hyp] at e
        exact v8 x y hx hy e hl
-- give
def okGive (Sq Un : Nat → Nat) (pe p : Nat) : Bool := !(Un p == 6) && (Sq p == 0 || decide (1 < popc (spU Un pe (Un p))))
theorem popc_pos : ∀ s, s < 64 → (popc s = 0 ↔ s = 0) := by decide +kernel
theorem canGive_c {sq pa pe p : Nat} {Ho Wo Sq Un : Nat → Nat} {qh qw qs qu : Nat → Int32} (hc : CM pa pe Ho Wo Sq Un qh qw qs qu) (hv : VM sq pa pe Ho Wo Sq Un) (hp : p < pe) : f_X1_canGive qs qu (nI pe) (nI p) = some (if okGive Sq Un pe p = true then 1 else 0) := by
  obtain ⟨v1, v2, v3, v4, v5, v6, v7, v8⟩ := id hv
  have h6 := v6 p hp
  unfold f_X1_canGive okGive
  rw [parasolOf_eq qu (by omega), ob_some, hc.2.2.2 p hp]
  by_cases q2 : Un p = 6
  · rw [if_pos ((eU_decN _ (hv.un hp)).mpr q2), if_neg (by simp [q2])]
  · rw [if_neg (fun z => q2 ((eU_decN _ (hv.un hp)).mp z)), squareOf_eq qs (by omega), ob_some, hc.2.2.1 p hp]
    by_cases q4 : Sq p = 0
    · rw [if_pos ((nI_z (by omega)).mpr q4), if_pos (by simp [q2, q4])]
    · have hx := hv.un hp
      have hs := spU_lt Un (Un p) v3
      have hl := popc_lt (spU Un pe (Un p))
      rw [if_neg (fun z => q4 ((nI_z (by omega)).mp z)), eU_lt (by omega), bearersOf_eq v3 (by omega) (hc.U hv), ob_some, bitCount_eq (by omega), ob_some]
      by_cases q5 : 1 < popc (spU Un pe (Un p))
      · rw [if_neg (show ¬ nI _ ≤ (1 : Int32) from nle (a := 1) q5 (by omega)), if_pos (by simp [q2, q5])]
      · rw [if_pos (show nI _ ≤ (1 : Int32) from lle (b := 1) (by omega) (by omega)), if_neg (by simp [q4, q5])]
theorem gives_m {sq pa pe wo p : Nat} {Sq Un K WS WH : Nat → Nat} {a : AMt} {o m : Nat → Int32} (hc : MA pa pe Sq Un a o) (hv : VA sq pa pe wo Sq Un a) (hm : MP sq pa pe wo K WS WH m) (hp : p < pe) : f_X8_gives m o (nI p) = some (if okGive Sq Un pe p = true then (1, upd o (21 + p) (-4)) else (0, o)) := by
  obtain ⟨v1, v2, v3, v4, v5, v6, v7, v8⟩ := id hv.1
  have h6 := v6 p hp
  obtain ⟨c1, c2, c3, c4, c5⟩ := hc
  unfold f_X8_gives okGive
  rw [a21, if_pos (okb_nI (by omega) (by omega)), clN (by omega), c1.2.2.2 p hp]
  by_cases q2 : Un p = 6
  · rw [if_pos ((eU_decN _ (hv.1.un hp)).mpr q2), if_neg (by simp [q2])]
  · rw [if_neg (fun z => q2 ((eU_decN _ (hv.1.un hp)).mp z)), a16, if_pos (okb_nI (by omega) (by omega)), clN (by omega), c1.2.2.1 p hp]
    by_cases q4 : Sq p = 0
    · rw [if_pos ((nI_z (by omega)).mpr q4), if_pos (by simp [q2, q4])]
    · have hx := hv.1.un hp
      have hs := spU_lt Un (Un p) v3
      have hl := popc_lt (spU Un pe (Un p))
      have hpos : popc (spU Un pe (Un p)) ≠ 0 := fun z => (spU_pos.mpr ⟨p, hp, rfl⟩) ((popc_pos _ (by omega)).mp z)
      rw [if_neg (fun z => q4 ((nI_z (by omega)).mp z)), eU_lt (by omega), under_eq v3 hm.2.2.1 (by omega) (c1.U hv.1), ob_some, bits_eq (by omega), ob_some]
      by_cases q5 : 1 < popc (spU Un pe (Un p))
      · rw [if_neg (show ¬ nI _ = (1 : Int32) from fun z => by have := (eqN (b := 1) (by omega) (by omega)).mp z; omega), if_pos (by simp [q2, q5])]
      · rw [if_pos (show nI _ = (1 : Int32) from (eqN (b := 1) (by omega) (by omega)).mpr (by omega)), if_neg (by simp [q4, q5])]
theorem VA.give {sq pa pe wo p : Nat} {Sq Un : Nat → Nat} {a : AMt} (hv : VA sq pa pe wo Sq Un a) : VA sq pa pe wo Sq (setN Un p 6) a := by
  obtain ⟨⟨v1, v2, v3, v4, v5, v6, v7, v8⟩, h2, h3⟩ := hv
  refine ⟨⟨v1, v2, v3, v4, v5, v6, fun x hx => ?_, fun x y hx hy e hl => ?_⟩, h2, h3⟩
  · by_cases hqp : x = p
    · subst hqp; rw [setN_s]; exact Or.inr rfl
    · rw [setN_n hqp]; exact v7 x hx
  · by_cases hxp : x = p
    · rw [hxp, setN_s] at hl; omega
    · by_cases hyp : y = p
      · rw [setN_n hxp] at e hl
        rw [hyp, setN_s] at e; omega
      · rw [setN_n hxp] at e hl
        rw [setN_n hyp] at e
        exact v8 x y hx hy e hl
-- mend
def setW (a : AMt) (Wo : Nat → Nat) : AMt := (a.1, a.2.1, a.2.2.1, a.2.2.2.1, a.2.2.2.2.1, Wo)
theorem mends_m {sq pa pe wo u : Nat} {Sq Un K WS WH : Nat → Nat} {a : AMt} {o m : Nat → Int32} (hc : MA pa pe Sq Un a o) (hv : VA sq pa pe wo Sq Un a) (hm : MP sq pa pe wo K WS WH m) (hu : u < pa) : f_X8_mends m o (nI u) = some (if spU Un pe u = 0 then (1, upd o (10 + u) 0) else (0, o)) := by
  obtain ⟨v1, v2, v3, v4, v5, v6, v7, v8⟩ := id hv.1
  have hs := spU_lt Un u v3
  unfold f_X8_mends
  rw [under_eq v3 hm.2.2.1 (by omega) (hc.1.U hv.1), ob_some]
  by_cases q : spU Un pe u = 0
  · rw [if_pos ((nI_z (by omega)).mpr q), if_pos q, a10, if_pos (okb_nI (by omega) (by omega)), clN (by omega)]
  · rw [if_neg (fun z => q ((nI_z (by omega)).mp z)), if_neg q]
theorem MA.mend {pa pe u : Nat} {Sq Un : Nat → Nat} {a : AMt} {o : Nat → Int32} (hpa : pa ≤ 6) (hc : MA pa pe Sq Un a o) (hu : u < pa) : MA pa pe Sq Un (setW a (setN a.2.2.2.2.2 u 0)) (upd o (10 + u) 0) := by
  obtain ⟨c1, c2, c3, c4, c5⟩ := hc
  refine ⟨⟨fun q hq => ?_, fun q hq => ?_, fun q hq => ?_, fun q hq => ?_⟩, by rw [pk_un (by omega)]; exact c2, by rw [pk_un (by omega)]; exact c3, by rw [pk_un (by omega)]; exact c4, by rw [pk_un (by omega)]; exact c5⟩
  · rw [pk_un (by omega)]; exact c1.1 q hq
  · show _ = nI (setN _ u 0 q)
    by_cases h : q = u
    · subst h; rw [pk_us, setN_s]; rfl
    · rw [pk_un (by omega), setN_n h]; exact c1.2.1 q hq
  · rw [pk_un (by omega)]; exact c1.2.2.1 q hq
  · rw [pk_un (by omega)]; exact c1.2.2.2 q hq
theorem CM.mend {pa pe u : Nat} {Ho Wo Sq Un : Nat → Nat} {qh qw qs qu : Nat → Int32} (hc : CM pa pe Ho Wo Sq Un qh qw qs qu) : CM pa pe Ho (setN Wo u 0) Sq Un qh (upd qw u 0) qs qu := by
  refine ⟨hc.1, fun q hq => ?_, hc.2.2.1, hc.2.2.2⟩
  by_cases h : q = u
  · subst h; rw [pk_us, setN_s]; rfl
  · rw [pk_un h, setN_n h]; exact hc.2.1 q hq
theorem VA.mend {sq pa pe wo u : Nat} {Sq Un : Nat → Nat} {a : AMt} (hv : VA sq pa pe wo Sq Un a) : VA sq pa pe wo Sq Un (setW a (setN a.2.2.2.2.2 u 0)) := by
  obtain ⟨⟨v1, v2, v3, v4, v5, v6, v7, v8⟩, h2, h3⟩ := hv
  refine ⟨⟨v1, v2, v3, v4, fun x hx => ?_, v6, v7, v8⟩, h2, h3⟩
  show setN _ u 0 x ≤ 20
  by_cases h : x = u
  · subst h; rw [setN_s]; omega
  · rw [setN_n h]; exact v5 x hx
