def cod (pa x : Nat) : Nat := if x = pa then 6 else x
def wkD (Ho Wo Sq WS WH : Nat → Nat) (wo D pa pe p x : Nat) : Nat := if p < pe then spW WS WH wo D (Sq p) (spT Ho Wo (Sq p) (cod pa x)) else 0
theorem cod_in {pa x : Nat} (h : x ≤ pa) : cod pa x < pa ∨ cod pa x = 6 := by unfold cod; split <;> omega
theorem cod_lt {pa x : Nat} (h : x < pa) : cod pa x = x := if_neg (by omega)
theorem cod_pa (pa : Nat) : cod pa pa = 6 := if_pos rfl
def m1 (n : Nat) : Int32 := nI n - 1
theorem m1_s (n : Nat) (h : n < 1000) : m1 (n + 1) = nI n := by unfold m1; rw [show (1 : Int32) = nI 1 from rfl, pk_sub (by omega)]; rfl
theorem m1_0i : m1 0 = -1 := by decide
theorem m1_lt {n c : Nat} (hn : n < 1000) (hc : c < 1000) : m1 n < nI c ↔ n < c + 1 := by
  cases n with
  | zero =>
    rw [m1_0i]
    refine ⟨fun _ => Nat.succ_pos _, fun _ => ?_⟩
    rw [Int32.lt_iff_toInt_lt, nI_toInt (by omega)]
    have : (-1 : Int32).toInt = -1 := by decide
    omega
  | succ n => rw [m1_s n (by omega), nI_ltI (by omega) (by omega)]; omega
def orN (f : Nat → Nat) : Nat → Nat
  | 0 => 0
  | n + 1 => orN f n ||| f n
theorem orN_in {f : Nat → Nat} : ∀ {n u}, u < n → f u ||| orN f n = orN f n
  | n + 1, u, h => by
    rw [orN]
    by_cases hu : u = n
    · subst hu; rw [Nat.or_comm (orN f u), ← Nat.or_assoc, Nat.or_self]
    · rw [← Nat.or_assoc, orN_in (show u < n by omega)]
theorem orN_lt {f : Nat → Nat} (hf : ∀ u, f u < 64) : ∀ n, orN f n < 64
  | 0 => by show 0 < 64; decide
  | n + 1 => or64 (orN_lt hf n) (hf n)
def roD (stl : Nat → Bool) (wk : Nat → Nat → Nat) (pa p : Nat) : Nat := if stl p = true then 0 else orN (wk p) pa ||| wk p pa
def rchD (stl : Nat → Bool) (wk : Nat → Nat → Nat) (pa : Nat) : Nat → Nat → Nat
  | 0, _ => 0
  | d + 1, i => rchD stl wk pa d (i + 1) ||| roD stl wk pa i
theorem roD_lt {stl : Nat → Bool} {wk : Nat → Nat → Nat} {pa : Nat} (hw : ∀ p x, wk p x < 64) (p : Nat) : roD stl wk pa p < 64 := by
  unfold roD
  split
  · decide
  · exact or64 (orN_lt (hw p) pa) (hw p pa)
theorem rchD_lt {stl : Nat → Bool} {wk : Nat → Nat → Nat} {pa : Nat} (hw : ∀ p x, wk p x < 64) : ∀ d i, rchD stl wk pa d i < 64
  | 0, _ => by show 0 < 64; decide
  | d + 1, i => or64 (rchD_lt hw d (i + 1)) (roD_lt hw i)
theorem roD_in {stl : Nat → Bool} {wk : Nat → Nat → Nat} {pa p x : Nat} (hx : x ≤ pa) (h : stl p = false) : wk p x ||| roD stl wk pa p = roD stl wk pa p := by
  unfold roD
  rw [if_neg (by rw [h]; decide)]
  by_cases q : x = pa
  · subst q; rw [Nat.or_comm (orN _ _), ← Nat.or_assoc, Nat.or_self]
  · rw [← Nat.or_assoc, orN_in (show x < pa by omega)]
section DEALC
variable {sq pa pe wo D S g : Nat} {Ho Wo Sq Un WS WH : Nat → Nat} {qg qm : Int32} {qh qw qs qu pk ws wh : Nat → Int32}
theorem wkD_lt (hw : wo ≤ 6) (p x : Nat) : wkD Ho Wo Sq WS WH wo D pa pe p x < 64 := by
  unfold wkD
  split
  · exact spW_lt _ _ _ hw
  · decide
theorem works_x (hc : CM pa pe Ho Wo Sq Un qh qw qs qu) (hv : VM sq pa pe Ho Wo Sq Un) (hw : CP wo WS WH ws wh) (hD : D < 64) {p x : Nat} (hp : p < pe) (hx : x ≤ pa) : f_X1_worksOf (nI D) qh qw qs (nI wo) ws wh (nI p) (eU (cod pa x)) = some (nI (wkD Ho Wo Sq WS WH wo D pa pe p x)) := by
  rw [worksOf_c hc hv hw hp (cod_in hx) hD]
  unfold wkD
  rw [if_pos hp]
theorem works_u (hc : CM pa pe Ho Wo Sq Un qh qw qs qu) (hv : VM sq pa pe Ho Wo Sq Un) (hw : CP wo WS WH ws wh) (hD : D < 64) {p x : Nat} (hp : p < pe) (hx : x < pa) : f_X1_worksOf (nI D) qh qw qs (nI wo) ws wh (nI p) (nI x) = some (nI (wkD Ho Wo Sq WS WH wo D pa pe p x)) := by
  have h := works_x hc hv hw hD hp (Nat.le_of_lt hx)
  have := hv.2.1
  rw [cod_lt hx, eU_lt (by omega)] at h
  exact h
theorem works_n (hc : CM pa pe Ho Wo Sq Un qh qw qs qu) (hv : VM sq pa pe Ho Wo Sq Un) (hw : CP wo WS WH ws wh) (hD : D < 64) {p : Nat} (hp : p < pe) : f_X1_worksOf (nI D) qh qw qs (nI wo) ws wh (nI p) (-4) = some (nI (wkD Ho Wo Sq WS WH wo D pa pe p pa)) := by
  have h := works_x hc hv hw hD hp (Nat.le_refl pa)
  rw [cod_pa] at h
  exact h
theorem reachOf_c (hc : CM pa pe Ho Wo Sq Un qh qw qs qu) (hv : VM sq pa pe Ho Wo Sq Un) (hw : CP wo WS WH ws wh) (hD : D < 64) (hS : S < 32) {p : Nat} (hp : p < pe) : f_X0_reachOf (nI S) (nI D) qh qw qs (nI pa) (nI wo) ws wh (nI p) = some (nI (roD S.testBit (wkD Ho Wo Sq WS WH wo D pa pe) pa p)) := by
  have hpa := hv.2.1
  have hpe := hv.2.2.1
  unfold f_X0_reachOf roD
  rw [isStill_eq (by omega) (by omega), ob_some]
  by_cases q : S.testBit p = true
  · rw [if_pos q, if_neg not10, if_pos q]; rfl
  · rw [if_neg q, if_pos rfl, if_neg q, works_n hc hv hw hD hp, ob_some]
    have key := loopN (fun nf (s : Int32) v => f_X0_reachOf_L20 (nI pa) (nI D) qh qw qs (nI wo) ws wh (nI p) (fun v6 _ => some v6) nf s v) (fun s _ => some s) pa (fun i => nI (wkD Ho Wo Sq WS WH wo D pa pe p pa ||| orN (wkD Ho Wo Sq WS WH wo D pa pe p) i)) (fun nf => by
      show f_X0_reachOf_L20 _ _ _ _ _ _ _ _ _ _ (nf + 1) _ _ = _
      rw [f_X0_reachOf_L20_s, if_pos (lle (Nat.le_refl _) (by omega))]) (fun nf i hi => by
      show f_X0_reachOf_L20 _ _ _ _ _ _ _ _ _ _ (nf + 1) _ _ = f_X0_reachOf_L20 _ _ _ _ _ _ _ _ _ _ nf _ _
      rw [f_X0_reachOf_L20_s, if_neg (nle hi (by omega)), works_u hc hv hw hD hp hi, ob_some, or_nI, nI_n1, orN, Nat.or_assoc]) 20000 (by omega)
    have e0 : nI (wkD Ho Wo Sq WS WH wo D pa pe p pa) = nI (wkD Ho Wo Sq WS WH wo D pa pe p pa ||| orN (wkD Ho Wo Sq WS WH wo D pa pe p) 0) := by
      show _ = nI (_ ||| 0)
      rw [Nat.or_zero]
    rw [e0]
    refine Eq.trans key ?_
    rw [Nat.or_comm]
theorem choose_c (hc : CM pa pe Ho Wo Sq Un qh qw qs qu) (hv : VM sq pa pe Ho Wo Sq Un) (hw : CP wo WS WH ws wh) (hD : D < 64) (hS : S < 32) (hpa : 0 < pa) {dr : Nat → Int32} (hdr : ∀ j, j ≤ pe → dr j = nI (rchD S.testBit (wkD Ho Wo Sq WS WH wo D pa pe) pa (pe - j) j)) :
    ∀ R p used done pre (acc : BT) dm dc db nr, p + R = pe → R < nr → used < 64 → done < 64 → dm = m1 acc.1 → acc.1 ≤ 7 → (∀ j, j < p → dc j = eU (cod pa (pre j))) → (acc.1 = 0 ∨ ∀ j, j < pe → db j = eU (cod pa (acc.2 j))) →
    ∃ dc' db', f_X0_choose nr dm dc db dr qg qm (nI S) (nI D) qh qw qs qu (nI sq) (nI pa) (nI pe) (nI wo) pk ws wh (nI p) (nI used) (nI done) = some (m1 (goD pa S.testBit (wkD Ho Wo Sq WS WH wo D pa pe) R p used done pre acc).1, dc', db') ∧ (goD pa S.testBit (wkD Ho Wo Sq WS WH wo D pa pe) R p used done pre acc).1 ≤ 7 ∧ (∀ j, j < p → dc' j = dc j) ∧ ((goD pa S.testBit (wkD Ho Wo Sq WS WH wo D pa pe) R p used done pre acc).1 = 0 ∨ ∀ j, j < pe → db' j = eU (cod pa ((goD pa S.testBit (wkD Ho Wo Sq WS WH wo D pa pe) R p used done pre acc).2 j))) := by
  have hpa6 := hv.2.1
  have hpe := hv.2.2.1
  have hwl := fun p x => wkD_lt (Ho := Ho) (Wo := Wo) (Sq := Sq) (WS := WS) (WH := WH) (D := D) (pa := pa) (pe := pe) hw.1 p x
  generalize hwk : wkD Ho Wo Sq WS WH wo D pa pe = wk at hdr hwl
  have wx : ∀ p x, p < pe → x < pa → f_X1_worksOf (nI D) qh qw qs (nI wo) ws wh (nI p) (nI x) = some (nI (wk p x)) := fun p x h1 h2 => by rw [← hwk]; exact works_u hc hv hw hD h1 h2
  have wn : ∀ p, p < pe → f_X1_worksOf (nI D) qh qw qs (nI wo) ws wh (nI p) (-4) = some (nI (wk p pa)) := fun p h1 => by rw [← hwk]; exact works_n hc hv hw hD h1
  have wk0 : ∀ p x, ¬ p < pe → wk p x = 0 := fun p x h => by rw [← hwk]; unfold wkD; rw [if_neg h]
  -- the bound
  have bound : ∀ R p used done pre (acc : BT), done < 64 → popc (done ||| rchD S.testBit wk pa (pe - p) p) + 1 ≤ acc.1 → goD pa S.testBit wk R p used done pre acc = acc := by
    refine goD_bound (fun j => rchD S.testBit wk pa (pe - j) j) (fun j => rchD_lt hwl _ _) (fun p x hx hs => ?_) (fun p => ?_)
    · show wk p x ||| rchD S.testBit wk pa (pe - p) p = rchD S.testBit wk pa (pe - p) p
      by_cases hp : p < pe
      · rw [show pe - p = (pe - (p + 1)) + 1 by omega, rchD, Nat.or_comm (rchD _ _ _ _ _), ← Nat.or_assoc, roD_in hx hs]
      · rw [wk0 p x hp, Nat.zero_or]
    · show rchD S.testBit wk pa (pe - (p + 1)) (p + 1) ||| rchD S.testBit wk pa (pe - p) p = rchD S.testBit wk pa (pe - p) p
      by_cases hp : p < pe
      · rw [show pe - p = (pe - (p + 1)) + 1 by omega, rchD, ← Nat.or_assoc, Nat.or_self]
      · rw [show pe - (p + 1) = 0 by omega, rchD, Nat.zero_or]
  intro R
  induction R with
  | zero =>
    intro p used done pre acc dm dc db nr hp hnr hu hd hdm h7 hdc hdb
    obtain ⟨nr, rfl⟩ : ∃ k, nr = k + 1 := ⟨nr - 1, by omega⟩
    have hpp : p = pe := by omega
    subst hpp
    have e0 : dr p = nI 0 := by rw [hdr p (Nat.le_refl _), Nat.sub_self]; rfl
    rw [f_X0_choose_s]
    simp only
    rw [at_eq dr (by omega) (by omega), ob_some, e0, or_nI, Nat.or_zero, bitCount_eq hd, ob_some, hdm]
    have hpc := popc_lt done
    rw [goD]
    by_cases q : acc.1 < popc done + 1
    · rw [if_pos ((m1_lt (by omega) (by omega)).mpr q), if_pos (lle (Nat.le_refl _) (by omega)), ob_some, copyRow_eq (by omega), ob_some, if_pos q]
      refine ⟨dc, cpy 5 dc db, by rw [m1_s _ (by omega)], by show popc done + 1 ≤ 7; omega, fun _ _ => rfl, Or.inr fun j hj => ?_⟩
      rw [cpy_at (by omega)]
      exact hdc j hj
    · rw [if_neg (fun z => q ((m1_lt (by omega) (by omega)).mp z)), if_neg q]
      exact ⟨dc, db, rfl, h7, fun _ _ => rfl, hdb⟩
  | succ R ih =>
    intro p used done pre acc dm dc db nr hp hnr hu hd hdm h7 hdc hdb
    obtain ⟨nr, rfl⟩ : ∃ k, nr = k + 1 := ⟨nr - 1, by omega⟩
    have hrl := rchD_lt (stl := S.testBit) (pa := pa) hwl (pe - p) p
    rw [f_X0_choose_s]
    simp only
    rw [at_eq dr (by omega) (by omega), ob_some, hdr p (by omega), or_nI, bitCount_eq (or64 hd hrl), ob_some, hdm]
    have hpc := popc_lt (done ||| rchD S.testBit wk pa (pe - p) p)
    by_cases q : acc.1 < popc (done ||| rchD S.testBit wk pa (pe - p) p) + 1
    rotate_left
    · rw [if_neg (fun z => q ((m1_lt (by omega) (by omega)).mp z)), bound (R + 1) p used done pre acc hd (by omega)]
      exact ⟨dc, db, rfl, h7, fun _ _ => rfl, hdb⟩
    rw [if_pos ((m1_lt (by omega) (by omega)).mpr q), if_neg (nle (by omega) (by omega)), if_pos (show nI p < (5 : Int32) from (nI_ltI (b := 5) (by omega) (by decide)).mpr (by omega)), goD]
    -- who is still is under none
    by_cases hst : S.testBit p = true
    · rw [foldR_id _ 0 acc pa (fun i hi => by
        show (if (S.testBit p || used.testBit (0 + i)) = true then acc else _) = acc
        rw [if_pos (by rw [hst]; rfl)]), if_pos hst, Nat.or_zero]
      obtain ⟨dc', db', r1, r2, r3, r4⟩ := ih (p + 1) used done (setN pre p pa) acc (m1 acc.1) (upd dc p (-4)) db nr (by omega) (by omega) hu hd rfl h7 (fun j hj => by
        by_cases hjp : j = p
        · subst hjp; rw [pk_us, setN_s, cod_pa]; rfl
        · rw [pk_un hjp, setN_n hjp]; exact hdc j (by omega)) hdb
      refine ⟨dc', db', ?_, r2, fun j hj => by rw [r3 j (by omega), pk_un (by omega)], r4⟩
      rw [show (20000 : Nat) = 19999 + 1 from rfl, f_X0_choose_L62_s, if_neg (show ¬ nI pa ≤ (0 : Int32) from nle (a := 0) hpa (by omega)), isStill_eq (by omega) (by omega), ob_some, if_pos hst, if_neg not10, put_eq _ _ (by omega) (by omega), ob_some, ob_some, if_neg not10, nI_n1, r1, ob_some]
    · rw [if_neg hst]
      have loop := fun (kk : Int32 → Int32 → (Nat → Int32) → (Nat → Int32) → Option (Int32 × (Nat → Int32) × (Nat → Int32))) => loopI (fun nf (z : Int32 × (Nat → Int32) × (Nat → Int32)) v => f_X0_choose_L62 (nI pa) (nI S) (nI p) (nI used) (nI D) qh qw qs (nI wo) ws wh (f_X0_choose nr) dr qg qm qu (nI sq) (nI pe) pk (nI done) kk nf v z.1 z.2.1 z.2.2)
        (fun z v => kk v z.1 z.2.1 z.2.2)
        pa (fun n z => z.1 = m1 (foldR (fun u a => if (S.testBit p || used.testBit u) = true then a else goD pa S.testBit wk R (p + 1) (used ||| 2 ^ u) (done ||| wk p u) (setN pre p u) a) 0 n acc).1 ∧ (foldR (fun u a => if (S.testBit p || used.testBit u) = true then a else goD pa S.testBit wk R (p + 1) (used ||| 2 ^ u) (done ||| wk p u) (setN pre p u) a) 0 n acc).1 ≤ 7 ∧ (∀ j, j < p → z.2.1 j = dc j) ∧ ((foldR (fun u a => if (S.testBit p || used.testBit u) = true then a else goD pa S.testBit wk R (p + 1) (used ||| 2 ^ u) (done ||| wk p u) (setN pre p u) a) 0 n acc).1 = 0 ∨ ∀ j, j < pe → z.2.2 j = eU (cod pa ((foldR (fun u a => if (S.testBit p || used.testBit u) = true then a else goD pa S.testBit wk R (p + 1) (used ||| 2 ^ u) (done ||| wk p u) (setN pre p u) a) 0 n acc).2 j))))
        (fun nf z hz => by
          show f_X0_choose_L62 _ _ _ _ _ _ _ _ _ _ _ _ _ _ _ _ _ _ _ _ _ (nf + 1) _ _ _ _ = _
          rw [f_X0_choose_L62_s, if_pos (lle (Nat.le_refl _) (by omega))])
        (fun nf u z hu6 hz => by
          obtain ⟨z1, z2, z3, z4⟩ := hz
          have hF : ∀ (F : Nat → BT → BT) n, foldR F 0 (n + 1) acc = F n (foldR F 0 n acc) := fun F n => by show F (0 + n) _ = _; rw [Nat.zero_add]
          rw [hF]
          generalize foldR (fun u a => if (S.testBit p || used.testBit u) = true then a else goD pa S.testBit wk R (p + 1) (used ||| 2 ^ u) (done ||| wk p u) (setN pre p u) a) 0 u acc = acc1 at z1 z2 z4
          by_cases hub : used.testBit u = true
          · refine ⟨z, ?_, ?_⟩
            · simp only [hub, Bool.or_true, if_true]
              exact ⟨z1, z2, z3, z4⟩
            · show f_X0_choose_L62 _ _ _ _ _ _ _ _ _ _ _ _ _ _ _ _ _ _ _ _ _ (nf + 1) _ _ _ _ = f_X0_choose_L62 _ _ _ _ _ _ _ _ _ _ _ _ _ _ _ _ _ _ _ _ _ nf _ _ _ _
              rw [f_X0_choose_L62_s, if_neg (nle hu6 (by omega)), isStill_eq (by omega) (by omega), ob_some, if_neg hst, if_pos rfl, hasBit_eq hu (by omega), ob_some, if_pos hub, if_neg not10, nI_n1]
          · have hpw : used ||| 2 ^ u < 64 := or64 hu (Nat.pow_lt_pow_right (by omega) (show u < 6 by omega))
            obtain ⟨dc', db', r1, r2, r3, r4⟩ := ih (p + 1) (used ||| 2 ^ u) (done ||| wk p u) (setN pre p u) acc1 z.1 (upd z.2.1 p (nI u)) z.2.2 nr (by omega) (by omega) hpw (or64 hd (hwl p u)) z1 z2 (fun j hj => by
              by_cases hjp : j = p
              · subst hjp; rw [pk_us, setN_s, cod_lt hu6, eU_lt (by omega)]
              · rw [pk_un hjp, setN_n hjp, z3 j (by omega)]; exact hdc j (by omega)) z4
            refine ⟨(m1 (goD pa S.testBit wk R (p + 1) (used ||| 2 ^ u) (done ||| wk p u) (setN pre p u) acc1).1, dc', db'), ?_, ?_⟩
            · have hf : (S.testBit p || used.testBit u) = false := by simp at hst hub; simp [hst, hub]
              simp only [hf, if_false, Bool.false_eq_true]
              exact ⟨trivial, r2, fun j hj => by rw [r3 j (by omega), pk_un (by omega), z3 j hj], r4⟩
            · show f_X0_choose_L62 _ _ _ _ _ _ _ _ _ _ _ _ _ _ _ _ _ _ _ _ _ (nf + 1) _ _ _ _ = f_X0_choose_L62 _ _ _ _ _ _ _ _ _ _ _ _ _ _ _ _ _ _ _ _ _ nf _ _ _ _
              rw [f_X0_choose_L62_s, if_neg (nle hu6 (by omega)), isStill_eq (by omega) (by omega), ob_some, if_neg hst, if_pos rfl, hasBit_eq hu (by omega), ob_some, if_neg hub, if_pos rfl, put_eq _ _ (by omega) (by omega), ob_some, wx p u (by omega) hu6, ob_some, shl_nI u (by omega), or_nI, or_nI, nI_n1, r1, ob_some, nI_n1]) pa 0 20000 (m1 acc.1, dc, db) (by omega) (by omega) ⟨rfl, h7, fun _ _ => rfl, hdb⟩
      obtain ⟨z, e1, e2⟩ := loop (fun v12 dmost_13 dcho_14 dbest_15 => Option.bind (f_X7_put 5 dcho_14 (nI p) (-4 : Int32)) fun f_31 => Option.bind (f_X1_isStill (nI S) (nI p)) fun r33 => if r33 = 0 then Option.bind (f_X1_worksOf (nI D) qh qw qs (nI wo) ws wh (nI p) (-4 : Int32)) fun r36 => Option.bind (f_X0_choose nr dmost_13 f_31 dbest_15 dr qg qm (nI S) (nI D) qh qw qs qu (nI sq) (nI pa) (nI pe) (nI wo) pk ws wh (nI p + (1 : Int32)) (nI used) (nI done ||| r36)) fun x => some (x.1, x.2.1, x.2.2) else Option.bind (f_X0_choose nr dmost_13 f_31 dbest_15 dr qg qm (nI S) (nI D) qh qw qs qu (nI sq) (nI pa) (nI pe) (nI wo) pk ws wh (nI p + (1 : Int32)) (nI used) (nI done)) fun x => some (x.1, x.2.1, x.2.2))
      obtain ⟨z1, z2, z3, z4⟩ := e1
      generalize foldR (fun u a => if (S.testBit p || used.testBit u) = true then a else goD pa S.testBit wk R (p + 1) (used ||| 2 ^ u) (done ||| wk p u) (setN pre p u) a) 0 pa acc = acc1 at z1 z2 z4
      obtain ⟨dc', db', r1, r2, r3, r4⟩ := ih (p + 1) used (done ||| wk p pa) (setN pre p pa) acc1 z.1 (upd z.2.1 p (-4)) z.2.2 nr (by omega) (by omega) hu (or64 hd (hwl p pa)) z1 z2 (fun j hj => by
        by_cases hjp : j = p
        · subst hjp; rw [pk_us, setN_s, cod_pa]; rfl
        · rw [pk_un hjp, setN_n hjp, z3 j (by omega)]; exact hdc j (by omega)) z4
      refine ⟨dc', db', Eq.trans e2 ?_, r2, fun j hj => by rw [r3 j (by omega), pk_un (by omega), z3 j hj], r4⟩
      rw [put_eq _ _ (by omega) (by omega), ob_some, isStill_eq (by omega) (by omega), ob_some, if_neg hst, if_pos rfl, wn p (by omega), ob_some, or_nI, nI_n1, r1, ob_some]
end DEALC
