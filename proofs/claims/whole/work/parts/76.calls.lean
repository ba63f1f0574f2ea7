theorem i10 : ((1 : Int32) = 0) = False := eq_false (by decide)
theorem not10 : ¬ ((1 : Int32) = 0) := by decide
section ACTS
variable {B sq pa pe wo zk : Nat} {K WS WH : Nat → Nat} {psq ppa ppe pwo qg qm qst qd um ua : Int32} {pk ws wh m qh qw qs qu o us : Nat → Int32} {zV : Nat → MVt}
theorem s_take (hP : IP sq pa pe wo K WS WH psq ppa ppe pwo pk ws wh m) (hN : IM B sq pa pe wo (qg, qm, qst, qd, qh, qw, qs, qu) o) (hZ : IZ B sq pa pe wo zk zV um ua us) (tr : Nat → Int32) (za zah zaw zaS zau : Nat → Nat) (i u : Int32) :
    ∃ rr qu' zk' za' zah' zaw' zaS' zau' zV' um' ua' o' tr' us', f_X7_take ppa ppe qg qm qst qd qh qw qs qu zk za zah zaw zaS zau zV i u = some (rr, qu', zk', za', zah', zaw', zaS', zau', zV') ∧ f_X8_take um ua m o tr us i u = some (rr, um', ua', o', tr', us') ∧ IM B sq pa pe wo (qg, qm, qst, qd, qh, qw, qs, qu') o' ∧ IZ B sq pa pe wo zk' zV' um' ua' us' := by
  obtain ⟨rfl, rfl, rfl, rfl, hk, hw, hm, a1, a2, a3, a4', a5⟩ := hP
  unfold f_X7_take f_X8_take
  rcases person_cases (show pe < 2 ^ 31 by omega) hm.2.2.1 i with ⟨p, hp, rfl, e1, e2⟩ | ⟨e1, e2⟩
  · rcases parasol_cases (show pa < 2 ^ 31 by omega) hm.2.1 u with ⟨u, hu, rfl, e3, e4⟩ | ⟨e3, e4⟩
    · obtain ⟨⟨a, Sq, Un⟩, hc, hmo, hv, hb⟩ := id hN
      have hv' : VA sq pa pe wo Sq Un a := hv
      have hS := hv'.S
      obtain ⟨c1, c2, c3, c4, c5⟩ : CA pa pe Sq Un a qg qm qst qd qh qw qs qu := hc
      have hmo' : MA pa pe Sq Un a o := hmo
      have e5 := canTake_c c5 hv'.1 (show a.2.2.1 < 64 by omega) hp hu
      have e6 := takes_m hmo' hv' hm hp hu
      have e7 : okb ((4 : Int32) + nI u) 26 = true := by rw [a4]; exact okb_nI (by omega) (by omega)
      by_cases k : okTake a.2.2.1 Sq Un pe p u = true
      · rw [if_pos k] at e5 e6
        obtain ⟨um', ua', us', d1, d2⟩ := hZ.done a2 a4' (hN.cong a2 a4' (o' := cpy 26 o tr) (fun k hk => cpy_at hk)) (nI (a.2.2.2.2.1 u))
        refine ⟨nI (a.2.2.2.2.1 u), upd qu p (nI u), pushS zk, pushA zk za, pushA zk zah, pushA zk zaw, pushA zk zaS, pushA zk zau, pushV zk zV (qg, qm, qst, qd, qh, qw, qs, qu), um', ua', upd o (21 + p) (nI u), cpy 26 o tr, us', ?_, ?_, ⟨(a, Sq, setN Un p u), ⟨c1, c2, c3, c4, c5.un (eU_lt (by omega)).symm⟩, hmo'.unA a2 a4' (eU_lt (by omega)).symm, hv'.take hu k, hb⟩, d2⟩
        · rw [e1, ob_some, if_neg not10, e3, ob_some, if_neg not10, c3, e5, ob_some, if_neg not10, if_pos hZ.1, hourOf_eq qh (by omega), c5.1 u hu]
          unfold f_X1_doTake
          rw [put_eq _ _ (by omega) (by omega), ob_some, ob_some, ob_some]
        · rw [e2, ob_some, if_neg not10, e4, ob_some, if_neg not10, copyNow_eq, ob_some, e6, ob_some]
          simp only
          rw [if_pos e7, a4, clN (by omega), pk_un (by omega), hmo'.1.1 u hu, d1, ob_some]
      · rw [if_neg k] at e5 e6
        refine ⟨-2, qu, zk, za, zah, zaw, zaS, zau, zV, um, ua, o, cpy 26 o tr, us, ?_, ?_, hN, hZ⟩
        · rw [e1, ob_some, if_neg not10, e3, ob_some, if_neg not10, c3, e5, ob_some, if_pos rfl]
        · rw [e2, ob_some, if_neg not10, e4, ob_some, if_neg not10, copyNow_eq, ob_some, e6, ob_some]
          simp only
          rw [if_pos e7, done_no, ob_some]
    · refine ⟨-1, qu, zk, za, zah, zaw, zaS, zau, zV, um, ua, o, tr, us, ?_, ?_, hN, hZ⟩
      · rw [e1, ob_some, if_neg not10, e3, ob_some, if_pos rfl]
      · rw [e2, ob_some, if_neg not10, e4, ob_some, if_pos rfl]
  · refine ⟨-1, qu, zk, za, zah, zaw, zaS, zau, zV, um, ua, o, tr, us, ?_, ?_, hN, hZ⟩
    · rw [e1, ob_some, if_pos rfl]
    · rw [e2, ob_some, if_pos rfl]
theorem s_share (hP : IP sq pa pe wo K WS WH psq ppa ppe pwo pk ws wh m) (hN : IM B sq pa pe wo (qg, qm, qst, qd, qh, qw, qs, qu) o) (hZ : IZ B sq pa pe wo zk zV um ua us) (tr : Nat → Int32) (za zah zaw zaS zau : Nat → Nat) (i j : Int32) :
    ∃ rr qst' qu' zk' za' zah' zaw' zaS' zau' zV' um' ua' o' tr' us', f_X7_share ppe qg qm qst qd qh qw qs qu zk za zah zaw zaS zau zV i j = some (rr, qst', qu', zk', za', zah', zaw', zaS', zau', zV') ∧ f_X8_share um ua m o tr us i j = some (rr, um', ua', o', tr', us') ∧ IM B sq pa pe wo (qg, qm, qst', qd, qh, qw, qs, qu') o' ∧ IZ B sq pa pe wo zk' zV' um' ua' us' := by
  obtain ⟨rfl, rfl, rfl, rfl, hk, hw, hm, a1, a2, a3, a4', a5⟩ := hP
  unfold f_X7_share f_X8_share
  rcases person_cases (show pe < 2 ^ 31 by omega) hm.2.2.1 i with ⟨p, hp, rfl, e1, e2⟩ | ⟨e1, e2⟩
  · rcases person_cases (show pe < 2 ^ 31 by omega) hm.2.2.1 j with ⟨q, hq, rfl, e3, e4⟩ | ⟨e3, e4⟩
    · by_cases hpq : nI p = nI q
      · refine ⟨-1, qst, qu, zk, za, zah, zaw, zaS, zau, zV, um, ua, o, tr, us, ?_, ?_, hN, hZ⟩
        · rw [e1, ob_some, if_neg not10, e3, ob_some, if_neg not10, if_pos hpq]
        · rw [e2, ob_some, if_neg not10, e4, ob_some, if_neg not10, if_pos hpq]
      obtain ⟨⟨a, Sq, Un⟩, hc, hmo, hv, hb⟩ := id hN
      have hv' : VA sq pa pe wo Sq Un a := hv
      have hS := hv'.S
      obtain ⟨c1, c2, c3, c4, c5⟩ : CA pa pe Sq Un a qg qm qst qd qh qw qs qu := hc
      have hmo' : MA pa pe Sq Un a o := hmo
      have e5 := canShare_c c5 hv'.1 hp hq
      have e6 := shares_m hmo' hv' hm hp hq
      have hne : p ≠ q := fun h => hpq (by rw [h])
      have e7 : okb ((21 : Int32) + nI q) 26 = true := by rw [a21]; exact okb_nI (by omega) (by omega)
      by_cases k : okShare Sq Un pe p q = true
      · rw [if_pos k] at e5 e6
        obtain ⟨um', ua', us', d1, d2⟩ := hZ.done a2 a4' (hN.cong a2 a4' (o' := cpy 26 o tr) (fun k hk => cpy_at hk)) (eU (Un q))
        refine ⟨eU (Un q), nI (a.2.2.1 &&& (31 ^^^ 2 ^ p)), upd qu p (eU (Un q)), pushS zk, pushA zk za, pushA zk zah, pushA zk zaw, pushA zk zaS, pushA zk zau, pushV zk zV (qg, qm, qst, qd, qh, qw, qs, qu), um', ua', upd (upd o (21 + p) (eU (Un q))) 3 (nI (a.2.2.1 &&& (31 ^^^ 2 ^ p))), cpy 26 o tr, us', ?_, ?_, ⟨(setS a (a.2.2.1 &&& (31 ^^^ 2 ^ p)), Sq, setN Un p (Un q)), ⟨c1, c2, rfl, c4, c5.un rfl⟩, (hmo'.unA a2 a4' rfl).st, (hv'.share hp hq k).st (Nat.lt_of_le_of_lt Nat.and_le_left hv'.2.1), hb⟩, d2⟩
        · rw [e1, ob_some, if_neg not10, e3, ob_some, if_neg not10, if_neg hpq, e5, ob_some, if_neg not10, if_pos hZ.1]
          unfold f_X1_doShare
          rw [parasolOf_eq qu (by omega), ob_some, put_eq _ _ (by omega) (by omega), ob_some, ob_some, shl_nI p (by omega), c3, clr_dec _ hS _ (pow5 p (by omega)), c5.2.2.2 q hq]
          simp only
          rw [parasolOf_eq _ (by omega), ob_some, pk_us]
        · rw [e2, ob_some, if_neg not10, e4, ob_some, if_neg not10, if_neg hpq, copyNow_eq, ob_some, e6, ob_some]
          simp only
          rw [if_pos e7, a21, clN (by omega), pk_un (by omega), pk_un (by omega), hmo'.1.2.2.2 q hq, d1, ob_some]
      · rw [if_neg k] at e5 e6
        refine ⟨-2, qst, qu, zk, za, zah, zaw, zaS, zau, zV, um, ua, o, cpy 26 o tr, us, ?_, ?_, hN, hZ⟩
        · rw [e1, ob_some, if_neg not10, e3, ob_some, if_neg not10, if_neg hpq, e5, ob_some, if_pos rfl]
        · rw [e2, ob_some, if_neg not10, e4, ob_some, if_neg not10, if_neg hpq, copyNow_eq, ob_some, e6, ob_some]
          simp only
          rw [if_pos e7, done_no, ob_some]
    · refine ⟨-1, qst, qu, zk, za, zah, zaw, zaS, zau, zV, um, ua, o, tr, us, ?_, ?_, hN, hZ⟩
      · rw [e1, ob_some, if_neg not10, e3, ob_some, if_pos rfl]
      · rw [e2, ob_some, if_neg not10, e4, ob_some, if_pos rfl]
  · refine ⟨-1, qst, qu, zk, za, zah, zaw, zaS, zau, zV, um, ua, o, tr, us, ?_, ?_, hN, hZ⟩
    · rw [e1, ob_some, if_pos rfl]
    · rw [e2, ob_some, if_pos rfl]
theorem s_give (hP : IP sq pa pe wo K WS WH psq ppa ppe pwo pk ws wh m) (hN : IM B sq pa pe wo (qg, qm, qst, qd, qh, qw, qs, qu) o) (hZ : IZ B sq pa pe wo zk zV um ua us) (tr : Nat → Int32) (za zah zaw zaS zau : Nat → Nat) (i : Int32) :
    ∃ rr qu' zk' za' zah' zaw' zaS' zau' zV' um' ua' o' tr' us', f_X7_give ppe qg qm qst qd qh qw qs qu zk za zah zaw zaS zau zV i = some (rr, qu', zk', za', zah', zaw', zaS', zau', zV') ∧ f_X8_give um ua m o tr us i = some (rr, um', ua', o', tr', us') ∧ IM B sq pa pe wo (qg, qm, qst, qd, qh, qw, qs, qu') o' ∧ IZ B sq pa pe wo zk' zV' um' ua' us' := by
  obtain ⟨rfl, rfl, rfl, rfl, hk, hw, hm, a1, a2, a3, a4', a5⟩ := hP
  unfold f_X7_give f_X8_give
  rcases person_cases (show pe < 2 ^ 31 by omega) hm.2.2.1 i with ⟨p, hp, rfl, e1, e2⟩ | ⟨e1, e2⟩
  · obtain ⟨⟨a, Sq, Un⟩, hc, hmo, hv, hb⟩ := id hN
    have hv' : VA sq pa pe wo Sq Un a := hv
    obtain ⟨c1, c2, c3, c4, c5⟩ : CA pa pe Sq Un a qg qm qst qd qh qw qs qu := hc
    have hmo' : MA pa pe Sq Un a o := hmo
    have e5 := canGive_c c5 hv'.1 hp
    have e6 := gives_m hmo' hv' hm hp
    have e7 : okb ((21 : Int32) + nI p) 26 = true := by rw [a21]; exact okb_nI (by omega) (by omega)
    by_cases k : okGive Sq Un pe p = true
    · rw [if_pos k] at e5 e6
      obtain ⟨um', ua', us', d1, d2⟩ := hZ.done a2 a4' (hN.cong a2 a4' (o' := cpy 26 o tr) (fun k hk => cpy_at hk)) (eU (Un p))
      refine ⟨eU (Un p), upd qu p (-4), pushS zk, pushA zk za, pushA zk zah, pushA zk zaw, pushA zk zaS, pushA zk zau, pushV zk zV (qg, qm, qst, qd, qh, qw, qs, qu), um', ua', upd o (21 + p) (-4), cpy 26 o tr, us', ?_, ?_, ⟨(a, Sq, setN Un p 6), ⟨c1, c2, c3, c4, c5.un rfl⟩, hmo'.unA a2 a4' rfl, hv'.give, hb⟩, d2⟩
      · rw [e1, ob_some, if_neg not10, e5, ob_some, if_neg not10, parasolOf_eq qu (by omega), ob_some, if_pos hZ.1, c5.2.2.2 p hp]
        unfold f_X1_doGive
        rw [put_eq _ _ (by omega) (by omega), ob_some, ob_some]
      · rw [e2, ob_some, if_neg not10, copyNow_eq, ob_some, e6, ob_some]
        simp only
        rw [if_pos e7, a21, clN (by omega), cpy_at (by omega), hmo'.1.2.2.2 p hp, d1, ob_some]
    · rw [if_neg k] at e5 e6
      refine ⟨-2, qu, zk, za, zah, zaw, zaS, zau, zV, um, ua, o, cpy 26 o tr, us, ?_, ?_, hN, hZ⟩
      · rw [e1, ob_some, if_neg not10, e5, ob_some, if_pos rfl]
      · rw [e2, ob_some, if_neg not10, copyNow_eq, ob_some, e6, ob_some]
        simp only
        rw [if_pos e7, done_no, ob_some]
  · refine ⟨-1, qu, zk, za, zah, zaw, zaS, zau, zV, um, ua, o, tr, us, ?_, ?_, hN, hZ⟩
    · rw [e1, ob_some, if_pos rfl]
    · rw [e2, ob_some, if_pos rfl]
theorem s_walk (hP : IP sq pa pe wo K WS WH psq ppa ppe pwo pk ws wh m) (hN : IM B sq pa pe wo (qg, qm, qst, qd, qh, qw, qs, qu) o) (hZ : IZ B sq pa pe wo zk zV um ua us) (tr : Nat → Int32) (za zah zaw zaS zau : Nat → Nat) (i w : Int32) :
    ∃ rr qst' qs' zk' za' zah' zaw' zaS' zau' zV' um' ua' o' tr' us', f_X7_walk psq ppe qg qm qst qd qh qw qs qu zk za zah zaw zaS zau zV i w = some (rr, qst', qs', zk', za', zah', zaw', zaS', zau', zV') ∧ f_X8_walk um ua m o tr us i w = some (rr, um', ua', o', tr', us') ∧ IM B sq pa pe wo (qg, qm, qst', qd, qh, qw, qs', qu) o' ∧ IZ B sq pa pe wo zk' zV' um' ua' us' := by
  obtain ⟨rfl, rfl, rfl, rfl, hk, hw, hm, a1, a2, a3, a4', a5⟩ := hP
  unfold f_X7_walk f_X8_walk
  rcases person_cases (show pe < 2 ^ 31 by omega) hm.2.2.1 i with ⟨p, hp, rfl, e1, e2⟩ | ⟨e1, e2⟩
  · rcases arg_cases 2 (by decide) w with ⟨w, hw2, rfl⟩ | hw2
    · have w1 : ¬ nI w < 0 := nI_pos (by omega)
      have w2 : nI w ≤ (1 : Int32) := lle (b := 1) (by omega) (by omega)
      have w3 : f_X8_in (nI w) 0 1 = some 1 := inN_in (n := 1) (by omega) (by decide)
      obtain ⟨⟨a, Sq, Un⟩, hc, hmo, hv, hb⟩ := id hN
      have hv' : VA sq pa pe wo Sq Un a := hv
      have hS := hv'.S
      obtain ⟨c1, c2, c3, c4, c5⟩ : CA pa pe Sq Un a qg qm qst qd qh qw qs qu := hc
      have hmo' : MA pa pe Sq Un a o := hmo
      have e5 := canWalk_c c5 hv'.1 (show a.2.2.1 < 64 by omega) hp hw2
      have e7 : okb ((16 : Int32) + nI p) 26 = true := by rw [a16]; exact okb_nI (by omega) (by omega)
      rcases walks_m hmo' hv' hm hp hw2 with ⟨k, o', e6, e8⟩ | ⟨k, e6⟩
      · rw [if_pos k] at e5
        obtain ⟨qs', f1, f2⟩ := doWalk_c c5 hv'.1 hS hp hw2 k
        obtain ⟨um', ua', us', d1, d2⟩ := hZ.done a2 a4' (hN.cong a2 a4' (o' := cpy 26 o tr) (fun k hk => cpy_at hk)) (nI (walkS Un Sq p (toWalk (Sq p) w) p))
        refine ⟨nI (walkS Un Sq p (toWalk (Sq p) w) p), nI (a.2.2.1 &&& (31 ^^^ mask (walkQ Un p) pe)), qs', pushS zk, pushA zk za, pushA zk zah, pushA zk zaw, pushA zk zaS, pushA zk zau, pushV zk zV (qg, qm, qst, qd, qh, qw, qs, qu), um', ua', o', cpy 26 o tr, us', ?_, ?_, ⟨acWalk pe p w (a, Sq, Un), ⟨c1, c2, rfl, c4, f2⟩, e8, hv'.walk hp (toWalk_lt k (hv'.1.2.2.2.2.2.1 p hp)), hb⟩, d2⟩
        · rw [e1, ob_some, if_neg not10, if_neg w1, if_pos w2, c3, e5, ob_some, if_neg not10, if_pos hZ.1, f1, ob_some]
          simp only
          rw [squareOf_eq _ (by omega), ob_some, f2.2.2.1 p hp]
        · rw [e2, ob_some, if_neg not10, w3, ob_some, if_neg not10, copyNow_eq, ob_some, e6, ob_some]
          simp only
          rw [if_pos e7, a16, clN (by omega), e8.1.2.2.1 p hp, d1, ob_some]
      · rw [if_neg k] at e5
        refine ⟨-2, qst, qs, zk, za, zah, zaw, zaS, zau, zV, um, ua, o, cpy 26 o tr, us, ?_, ?_, hN, hZ⟩
        · rw [e1, ob_some, if_neg not10, if_neg w1, if_pos w2, c3, e5, ob_some, if_pos rfl]
        · rw [e2, ob_some, if_neg not10, w3, ob_some, if_neg not10, copyNow_eq, ob_some, e6, ob_some]
          simp only
          rw [if_pos e7, done_no, ob_some]
    · refine ⟨-1, qst, qs, zk, za, zah, zaw, zaS, zau, zV, um, ua, o, tr, us, ?_, ?_, hN, hZ⟩
      · rw [e1, ob_some, if_neg not10]
        rcases hw2 with h | ⟨k, h1, h2, rfl⟩
        · rw [if_pos h]
        · rw [if_neg (nI_pos (by omega)), if_neg (show ¬ nI k ≤ (1 : Int32) from nle (a := 1) (by omega) (by omega))]
      · rw [e2, ob_some, if_neg not10, show f_X8_in w 0 1 = some 0 from inN_out (n := 1) (by decide) hw2, ob_some, if_pos rfl]
  · refine ⟨-1, qst, qs, zk, za, zah, zaw, zaS, zau, zV, um, ua, o, tr, us, ?_, ?_, hN, hZ⟩
    · rw [e1, ob_some, if_pos rfl]
    · rw [e2, ob_some, if_pos rfl]
theorem s_mend (hP : IP sq pa pe wo K WS WH psq ppa ppe pwo pk ws wh m) (hN : IM B sq pa pe wo (qg, qm, qst, qd, qh, qw, qs, qu) o) (hZ : IZ B sq pa pe wo zk zV um ua us) (tr : Nat → Int32) (za zah zaw zaS zau : Nat → Nat) (u : Int32) :
    ∃ rr qw' zk' za' zah' zaw' zaS' zau' zV' um' ua' o' tr' us', f_X7_mend ppa ppe qg qm qst qd qh qw qs qu zk za zah zaw zaS zau zV u = some (rr, qw', zk', za', zah', zaw', zaS', zau', zV') ∧ f_X8_mend um ua m o tr us u = some (rr, um', ua', o', tr', us') ∧ IM B sq pa pe wo (qg, qm, qst, qd, qh, qw', qs, qu) o' ∧ IZ B sq pa pe wo zk' zV' um' ua' us' := by
  obtain ⟨rfl, rfl, rfl, rfl, hk, hw, hm, a1, a2, a3, a4', a5⟩ := hP
  unfold f_X7_mend f_X8_mend
  rcases parasol_cases (show pa < 2 ^ 31 by omega) hm.2.1 u with ⟨u, hu, rfl, e1, e2⟩ | ⟨e1, e2⟩
  · obtain ⟨⟨a, Sq, Un⟩, hc, hmo, hv, hb⟩ := id hN
    have hv' : VA sq pa pe wo Sq Un a := hv
    obtain ⟨c1, c2, c3, c4, c5⟩ : CA pa pe Sq Un a qg qm qst qd qh qw qs qu := hc
    have hmo' : MA pa pe Sq Un a o := hmo
    have e5 := isInStand_eq a4' (show u < 6 by omega) (c5.U hv'.1)
    have e6 := mends_m hmo' hv' hm hu
    have e7 : okb ((10 : Int32) + nI u) 26 = true := by rw [a10]; exact okb_nI (by omega) (by omega)
    by_cases k : spU Un pe u = 0
    · rw [if_pos k] at e5 e6
      obtain ⟨um', ua', us', d1, d2⟩ := hZ.done a2 a4' (hN.cong a2 a4' (o' := cpy 26 o tr) (fun k hk => cpy_at hk)) (nI (a.2.2.2.2.2 u))
      refine ⟨nI (a.2.2.2.2.2 u), upd qw u 0, pushS zk, pushA zk za, pushA zk zah, pushA zk zaw, pushA zk zaS, pushA zk zau, pushV zk zV (qg, qm, qst, qd, qh, qw, qs, qu), um', ua', upd o (10 + u) 0, cpy 26 o tr, us', ?_, ?_, ⟨acMend u (a, Sq, Un), ⟨c1, c2, c3, c4, c5.mend⟩, hmo'.mend a2 hu, hv'.mend, hb⟩, d2⟩
      · rw [e1, ob_some, if_neg not10, e5, ob_some, if_neg not10, wornOf_eq qw (by omega), ob_some, if_pos hZ.1, c5.2.1 u hu]
        unfold f_X1_doMend
        rw [put_eq _ _ (by omega) (by omega), ob_some, ob_some]
      · rw [e2, ob_some, if_neg not10, copyNow_eq, ob_some, e6, ob_some]
        simp only
        rw [if_pos e7, a10, clN (by omega), cpy_at (by omega), hmo'.1.2.1 u hu, d1, ob_some]
    · rw [if_neg k] at e5 e6
      refine ⟨-2, qw, zk, za, zah, zaw, zaS, zau, zV, um, ua, o, cpy 26 o tr, us, ?_, ?_, hN, hZ⟩
      · rw [e1, ob_some, if_neg not10, e5, ob_some, if_pos rfl]
      · rw [e2, ob_some, if_neg not10, copyNow_eq, ob_some, e6, ob_some]
        simp only
        rw [if_pos e7, done_no, ob_some]
  · refine ⟨-1, qw, zk, za, zah, zaw, zaS, zau, zV, um, ua, o, tr, us, ?_, ?_, hN, hZ⟩
    · rw [e1, ob_some, if_pos rfl]
    · rw [e2, ob_some, if_pos rfl]
theorem s_pass (hP : IP sq pa pe wo K WS WH psq ppa ppe pwo pk ws wh m) (hN : IM B sq pa pe wo (qg, qm, qst, qd, qh, qw, qs, qu) o) (hZ : IZ B sq pa pe wo zk zV um ua us) (hB : B < 50000) (tr : Nat → Int32) (za zah zaw zaS zau : Nat → Nat) (n : Int32) :
    ∃ rr qg' qm' qst' qd' qh' qw' zk' za' zah' zaw' zaS' zau' zV' um' ua' o' tr' us', f_X7_pass ppa ppe pwo pk ws wh qg qm qst qd qh qw qs qu zk za zah zaw zaS zau zV n = some (rr, qg', qm', qst', qd', qh', qw', zk', za', zah', zaw', zaS', zau', zV') ∧ f_X8_pass um ua m o tr us n = some (rr, um', ua', o', tr', us') ∧ IM (B + 24) sq pa pe wo (qg', qm', qst', qd', qh', qw', qs, qu) o' ∧ IZ (B + 24) sq pa pe wo zk' zV' um' ua' us' := by
  obtain ⟨rfl, rfl, rfl, rfl, hk, hw, hm, a1, a2, a3, a4', a5⟩ := hP
  unfold f_X7_pass f_X8_pass
  have hbad : ∀ k : Nat, k < 2 ^ 31 → 25 ≤ k → ¬ nI k < (1 : Int32) ∧ ¬ nI k ≤ (24 : Int32) ∧ f_X8_in (nI k) 1 24 = some 0 := fun k h1 h2 => ⟨fun h => by have := (nI_ltI (b := 1) h1 (by decide)).mp h; omega, nle (a := 24) (by omega) h1, in_N0 (b := 1) (c := 24) (by omega) h1 (by decide) (by decide)⟩
  have hlow : ∀ i : Int32, i < 1 → f_X8_in i 1 24 = some 0 := fun i h => by rw [in_eq, if_pos (Or.inl h)]
  rcases arg_cases 25 (by decide) n with ⟨n, hn, rfl⟩ | hn
  · by_cases h0 : n = 0
    · subst h0
      have h1 : nI 0 < (1 : Int32) := by decide
      refine ⟨-1, qg, qm, qst, qd, qh, qw, zk, za, zah, zaw, zaS, zau, zV, um, ua, o, tr, us, ?_, ?_, hN.mono (by omega), hZ.mono (by omega)⟩
      · rw [if_pos h1]
      · rw [hlow _ h1, ob_some, if_pos rfl]
    have h1 : ¬ nI n < (1 : Int32) := fun h => by have := (nI_ltI (b := 1) (by omega) (by decide)).mp h; omega
    have h2 : nI n ≤ (24 : Int32) := lle (b := 24) (by omega) (by omega)
    have h3 : f_X8_in (nI n) 1 24 = some 1 := in_N (b := 1) (c := 24) (by omega) (by omega) (by decide)
    obtain ⟨⟨a, Sq, Un⟩, hc, hmo, hv, hb⟩ := id hN
    have hb : a.1 ≤ B := hb
    have hv' : VA sq pa pe wo Sq Un a := hv
    have hc' : CA pa pe Sq Un a qg qm qst qd qh qw qs qu := hc
    have hmo' : MA pa pe Sq Un a o := hmo
    obtain ⟨g', t', s', d', h', w', f1, f2⟩ := goOn_c (n := n) (K := K) hc' hv' hk hw (by omega) (by omega)
    obtain ⟨um', ua', us', d1, d2⟩ := hZ.push a2 a4' (hN.cong a2 a4' (o' := cpy 26 o tr) (fun k hk => cpy_at hk))
    obtain ⟨o', f3, f4⟩ := passL_m (n := n) hmo' hv' hm (by omega) (by omega) (fun v10 m_now_11 => some (m_now_11 (0 : Int32).toNatClampNeg, um', ua', m_now_11, cpy 26 o tr, us'))
    refine ⟨g', g', t', s', d', h', w', pushS zk, pushA zk za, pushA zk zah, pushA zk zaw, pushA zk zaS, pushA zk zau, pushV zk zV (qg, qm, qst, qd, qh, qw, qs, qu), um', ua', o', cpy 26 o tr, us', ?_, ?_, ⟨(spGoN K WS WH Sq Un pa pe wo n a, Sq, Un), f2, f4, hv'.goN n, ?_⟩, d2.mono (by omega)⟩
    · rw [if_neg h1, if_pos h2, if_pos hZ.1, f1, ob_some]
    · rw [h3, ob_some, if_neg not10, copyNow_eq, ob_some, d1, ob_some]
      simp only
      refine Eq.trans f3 ?_
      rw [cl0, f4.2.1, f2.1]
    · show (spGoN K WS WH Sq Un pa pe wo n a).1 ≤ B + 24
      rw [goN_gone]; omega
  · refine ⟨-1, qg, qm, qst, qd, qh, qw, zk, za, zah, zaw, zaS, zau, zV, um, ua, o, tr, us, ?_, ?_, hN.mono (by omega), hZ.mono (by omega)⟩
    · rcases hn with h | ⟨k, h1, h2, rfl⟩
      · rw [if_pos (show n < (1 : Int32) from by
          rw [Int32.lt_iff_toInt_lt] at h ⊢
          have e0 : (0 : Int32).toInt = 0 := by decide
          have e1 : (1 : Int32).toInt = 1 := by decide
          omega)]
      · rw [if_neg (hbad k h1 h2).1, if_neg (hbad k h1 h2).2.1]
    · rcases hn with h | ⟨k, h1, h2, rfl⟩
      · rw [hlow n (by
          rw [Int32.lt_iff_toInt_lt] at h ⊢
          have e0 : (0 : Int32).toInt = 0 := by decide
          have e1 : (1 : Int32).toInt = 1 := by decide
          omega), ob_some, if_pos rfl]
      · rw [(hbad k h1 h2).2.2, ob_some, if_pos rfl]
end ACTS
