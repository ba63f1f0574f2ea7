def okWalk (S sq s w p : Nat) : Bool := !S.testBit p && (if w = 0 then decide (s + 1 < sq) else decide (0 < s))
def toWalk (s w : Nat) : Nat := if w = 0 then s + 1 else s - 1
theorem w01 : ∀ w, w < 2 → (nI w = (0 : Int32) ↔ w = 0) := by decide +kernel
theorem m1_0 : nI 0 - (1 : Int32) < 0 := by decide
theorem m1_0' : nI 0 + (-1 : Int32) < 0 := by decide
theorem hasSquare_eq {a b : Nat} (ha : a < 1000) (hb : b < 1000) : f_X2_hasSquare (nI a) (nI b) = some (if b < a then 1 else 0) := by
  unfold f_X2_hasSquare
  rw [if_neg (nI_pos (by omega))]
  by_cases h : b < a
  · rw [if_neg (nle h (by omega)), if_pos h]
  · rw [if_pos (lle (by omega) (by omega)), if_neg h]
theorem canWalk_c {sq pa pe p w S : Nat} {Ho Wo Sq Un : Nat → Nat} {qh qw qs qu : Nat → Int32} (hc : CM pa pe Ho Wo Sq Un qh qw qs qu) (hv : VM sq pa pe Ho Wo Sq Un) (hS : S < 64) (hp : p < pe) (hw : w < 2) : f_X1_canWalk (nI S) qs (nI sq) (nI p) (nI w) = some (if okWalk S sq (Sq p) w p = true then 1 else 0) := by
  obtain ⟨v1, v2, v3, v4, v5, v6, v7, v8⟩ := id hv
  have h6 := v6 p hp
  unfold f_X1_canWalk okWalk f_X1_nextSquareOf
  rw [isStill_eq hS (by omega), ob_some]
  by_cases q1 : S.testBit p = true
  · rw [if_pos q1, if_neg (by decide), if_neg (by simp [q1])]
  · rw [if_neg q1, if_pos (by decide), squareOf_eq qs (by omega), hc.2.2.1 p hp]
    by_cases q2 : w = 0
    · rw [if_pos ((w01 w hw).mpr q2), ob_some, ob_some, nI_n1, hasSquare_eq (by omega) (by omega), ob_some, if_pos q2]
      by_cases q3 : Sq p + 1 < sq
      · rw [if_pos q3, if_neg (by decide), if_pos (by simp [q1, q3])]
      · rw [if_neg q3, if_pos (by decide), if_neg (by simp [q3])]
    · rw [if_neg (fun z => q2 ((w01 w hw).mp z)), ob_some, ob_some, if_neg q2]
      by_cases q3 : Sq p = 0
      · have e : f_X2_hasSquare (nI sq) (nI (Sq p) - 1) = some 0 := by
          rw [q3]; unfold f_X2_hasSquare; rw [if_pos m1_0]
        rw [e, ob_some, if_pos (by decide), if_neg (by simp [q3])]
      · rw [show (1 : Int32) = nI 1 from rfl, pk_sub (by omega), hasSquare_eq (by omega) (by omega), ob_some, if_pos (show Sq p - 1 < sq by omega), if_neg (by decide), if_pos (by simp [q1]; omega)]
def walkQ (Un : Nat → Nat) (p q : Nat) : Bool := q == p || (!(Un p == 6) && Un q == Un p)
def walkS (Un Sq : Nat → Nat) (p t : Nat) : Nat → Nat := fun q => if walkQ Un p q = true then t else Sq q
theorem mask32 {Q : Nat → Bool} {n : Nat} (h : n ≤ 5) : mask Q n < 32 := Nat.lt_of_lt_of_le (mask_lt _ n) (Nat.pow_le_pow_right (by omega) h)
theorem pow5 : ∀ p, p < 5 → 2 ^ p < 32 := by decide
theorem walkM1 {Un : Nat → Nat} {pe p : Nat} (hp : p < pe) (h : Un p = 6) : mask (walkQ Un p) pe = 2 ^ p := by
  apply Nat.eq_of_testBit_eq
  intro i
  rw [mask_bit, Nat.testBit_two_pow]
  unfold walkQ
  by_cases q : i = p
  · subst q; simp [hp]
  · have : ¬ p = i := fun z => q z.symm
    simp [h, q, this]
theorem walkM2 {Un : Nat → Nat} {pe p : Nat} (hp : p < pe) (h : ¬ Un p = 6) : mask (walkQ Un p) pe = 2 ^ p ||| spU Un pe (Un p) := by
  apply Nat.eq_of_testBit_eq
  intro i
  rw [mask_bit, Nat.testBit_or, Nat.testBit_two_pow]
  unfold spU
  rw [mask_bit]
  unfold walkQ
  by_cases q : i = p
  · subst q; simp [hp]
  · have : ¬ p = i := fun z => q z.symm
    have e1 : (i == p) = false := by simp [q]
    have e2 : (Un p == 6) = false := by simp [h]
    have e3 : decide (p = i) = false := by simp [this]
    rw [e1, e2, e3]
    simp
theorem walkL_c {pe p W t : Nat} {r : Int32} {Un Sq : Nat → Nat} {qs : Nat → Int32} (hpe : pe ≤ 5) (hW : W < 32) (hS : ∀ q, q < pe → qs q = nI (Sq q)) (hQ : ∀ q, q < pe → W.testBit q = walkQ Un p q) (ht : r = nI t) : ∃ qs', (∀ q, q < pe → qs' q = nI (walkS Un Sq p t q)) ∧ ∀ (L : (Int32 → (Nat → Int32) → Option (Int32 × (Nat → Int32))) → Nat → Int32 → (Nat → Int32) → Option (Int32 × (Nat → Int32))), (∀ k nf v s, L k (nf + 1) v s = if nI pe ≤ v then k v s else Option.bind (f_X7_hasBit (nI W) v) fun r9 => if r9 = 0 then L k nf (v + 1) s else Option.bind (f_X7_put 5 s v r) fun f => L k nf (v + 1) f) → ∀ k, L k 20000 (nI 0) qs = k (nI pe) qs' := by
  have e0 : qs = (fun (i : Nat) => (fun q => if q < i ∧ walkQ Un p q = true then r else qs q : Nat → Int32)) 0 := by funext q; simp
  refine ⟨(fun q => if q < pe ∧ walkQ Un p q = true then r else qs q), fun q hq => ?_, fun L hL k => ?_⟩
  · show (if q < pe ∧ walkQ Un p q = true then r else qs q) = nI (if walkQ Un p q = true then t else Sq q)
    by_cases h : walkQ Un p q = true
    · rw [if_pos ⟨hq, h⟩, if_pos h, ht]
    · rw [if_neg (fun z => h z.2), if_neg h]; exact hS q hq
  · conv => lhs; rw [e0]
    refine (loopN (fun nf (s : Nat → Int32) v => L k nf v s) (fun s v => k v s) pe (fun i => (fun q => if q < i ∧ walkQ Un p q = true then r else qs q)) ?_ ?_ 20000 (by omega))
    · intro nf
      show L k (nf + 1) _ _ = _
      rw [hL, if_pos (lle (Nat.le_refl _) (by omega))]
    · intro nf i hi
      show L k (nf + 1) _ _ = L k nf _ _
      rw [hL, if_neg (nle hi (by omega)), hasBit_eq (by omega) (by omega), ob_some, hQ i hi, nI_n1]
      by_cases q : walkQ Un p i = true
      · rw [if_pos q, if_neg (by decide), put_eq _ _ (by omega) (by omega), ob_some]
        congr 1
        funext j
        unfold upd
        by_cases hj : j = i
        · subst hj; rw [if_pos rfl, if_pos ⟨by omega, q⟩]
        · rw [if_neg hj]
          show (if j < i ∧ walkQ Un p j = true then r else qs j) = _
          by_cases h : j < i ∧ walkQ Un p j = true
          · rw [if_pos h, if_pos ⟨by omega, h.2⟩]
          · rw [if_neg h, if_neg (fun z => h ⟨by omega, z.2⟩)]
      · rw [if_neg q, if_pos (by decide)]
        congr 1
        funext j
        show (if j < i ∧ walkQ Un p j = true then r else qs j) = if j < i + 1 ∧ walkQ Un p j = true then r else qs j
        by_cases h : j < i ∧ walkQ Un p j = true
        · rw [if_pos h, if_pos ⟨by omega, h.2⟩]
        · rw [if_neg h, if_neg (fun z => h ⟨by
            rcases Nat.lt_succ_iff_lt_or_eq.mp z.1 with y | y
            · exact y
            · subst y; exact absurd z.2 q, z.2⟩)]
theorem doWalk_c {sq pa pe p w S : Nat} {Ho Wo Sq Un : Nat → Nat} {qh qw qs qu : Nat → Int32} (hc : CM pa pe Ho Wo Sq Un qh qw qs qu) (hv : VM sq pa pe Ho Wo Sq Un) (hS : S < 32) (hp : p < pe) (hw : w < 2) (hok : okWalk S sq (Sq p) w p = true) : ∃ qs', f_X1_doWalk (nI S) qs qu (nI pe) (nI p) (nI w) = some (nI (S &&& (31 ^^^ mask (walkQ Un p) pe)), qs') ∧ CM pa pe Ho Wo (walkS Un Sq p (toWalk (Sq p) w)) Un qh qw qs' qu := by
  obtain ⟨v1, v2, v3, v4, v5, v6, v7, v8⟩ := id hv
  have h6 := v6 p hp
  have hm := mask32 (Q := walkQ Un p) v3
  have hn : f_X1_nextSquareOf qs (nI p) (nI w) = some (nI (toWalk (Sq p) w)) := by
    unfold f_X1_nextSquareOf toWalk
    unfold okWalk at hok
    rw [squareOf_eq qs (by omega), hc.2.2.1 p hp]
    by_cases q2 : w = 0
    · rw [if_pos ((w01 w hw).mpr q2), if_pos q2, ob_some, nI_n1]
    · rw [if_neg q2] at hok
      simp at hok
      rw [if_neg (fun z => q2 ((w01 w hw).mp z)), if_neg q2, ob_some, show (1 : Int32) = nI 1 from rfl, pk_sub (by omega)]
  obtain ⟨qs', e1, e2⟩ := walkL_c (p := p) (Un := Un) (r := nI (toWalk (Sq p) w)) v3 hm hc.2.2.1 (fun q hq => by rw [mask_bit]; simp [hq]) rfl
  refine ⟨qs', ?_, hc.1, hc.2.1, e1, hc.2.2.2⟩
  unfold f_X1_doWalk
  rw [hn, ob_some, parasolOf_eq qu (by omega), ob_some, hc.2.2.2 p hp]
  by_cases q : Un p = 6
  · rw [if_pos ((eU_decN _ (hv.un hp)).mpr q), shl_nI p (by omega), ← walkM1 hp q, clr_dec _ hS _ hm]
    exact e2 (fun k => f_X1_doWalk_L39 (nI pe) (nI p) (nI (toWalk (Sq p) w)) k) (fun k nf v s => by rw [f_X1_doWalk_L39_s, shl_nI p (by omega), ← walkM1 hp q]) (fun v s => some (nI (S &&& (31 ^^^ mask (walkQ Un p) pe)), s))
  · have hx := hv.un hp
    rw [if_neg (fun z => q ((eU_decN _ (hv.un hp)).mp z)), ob_some, eU_lt (by omega), bearersOf_eq v3 (by omega) (hc.U hv), ob_some, shl_nI p (by omega), or_nI, ← walkM2 hp q, clr_dec _ hS _ hm]
    exact e2 (fun k => f_X1_doWalk_L39_2 (nI pe) (nI p) (nI (spU Un pe (Un p))) (nI (toWalk (Sq p) w)) k) (fun k nf v s => by rw [f_X1_doWalk_L39_2_s, shl_nI p (by omega), or_nI, ← walkM2 hp q]) (fun v s => some (nI (S &&& (31 ^^^ mask (walkQ Un p) pe)), s))
theorem clr2_dec : ∀ m, m < 32 → ∀ i, i < 5 → (31 ^^^ m) &&& (31 ^^^ 2 ^ i) = 31 ^^^ (m ||| 2 ^ i) := by decide +kernel
theorem walkL_m {sq pa pe wo p t : Nat} {r : Int32} {Sq Un K WS WH : Nat → Nat} {a : AMt} {o m : Nat → Int32} (hc : MA pa pe Sq Un a o) (hv : VA sq pa pe wo Sq Un a) (hm : MP sq pa pe wo K WS WH m) (hp : p < pe) (ht : r = nI t) :
    ∀ (L : Nat → Int32 → (Nat → Int32) → Option (Int32 × (Nat → Int32))) (k : Int32 → (Nat → Int32) → Option (Int32 × (Nat → Int32))), (∀ nf v s, L (nf + 1) v s = (if (m (2 : Int32).toNatClampNeg) ≤ v then (k v s) else (if v = nI p then (if okb ((16 : Int32) + v) 26 = true then (L nf (v + (1 : Int32)) (upd (upd s ((16 : Int32) + v).toNatClampNeg r) (3 : Int32).toNatClampNeg (((upd s ((16 : Int32) + v).toNatClampNeg r) (3 : Int32).toNatClampNeg) &&& (((1 : Int32) <<< (v &&& 31)) ^^^ (-1 : Int32))))) else none) else (if (o ((21 : Int32) + nI p).toNatClampNeg) = (-4 : Int32) then (L nf (v + (1 : Int32)) s) else (if okb ((21 : Int32) + v) 26 = true then (if (s ((21 : Int32) + v).toNatClampNeg) = (o ((21 : Int32) + nI p).toNatClampNeg) then (if okb ((16 : Int32) + v) 26 = true then (L nf (v + (1 : Int32)) (upd (upd s ((16 : Int32) + v).toNatClampNeg r) (3 : Int32).toNatClampNeg (((upd s ((16 : Int32) + v).toNatClampNeg r) (3 : Int32).toNatClampNeg) &&& (((1 : Int32) <<< (v &&& 31)) ^^^ (-1 : Int32))))) else none) else (L nf (v + (1 : Int32)) s)) else none))))) →
    ∃ o', L 20000 (nI 0) o = k (nI pe) o' ∧ MA pa pe (walkS Un Sq p t) Un (setS a (a.2.2.1 &&& (31 ^^^ mask (walkQ Un p) pe))) o' := by
  obtain ⟨v1, v2, v3, v4, v5, v6, v7, v8⟩ := id hv.1
  have hS := hv.S
  intro L k hL
  obtain ⟨z, e1, e2⟩ := loopI (fun nf (s : Nat → Int32) v => L nf v s) (fun s v => k v s) pe (fun i s => MA pa pe (part i (walkS Un Sq p t) Sq) Un (setS a (a.2.2.1 &&& (31 ^^^ mask (walkQ Un p) i))) s) (fun nf s hs => by
      show L (nf + 1) _ _ = _
      rw [hL, cl2, hm.2.2.1, if_pos (lle (Nat.le_refl _) (by omega))]) (fun nf i s hi hs => by
      obtain ⟨⟨c1, c2, c3, c4⟩, c5, c6, c7, c8⟩ := hs
      have hst : ∀ (hq : walkQ Un p i = true), MA pa pe (part (i + 1) (walkS Un Sq p t) Sq) Un (setS a (a.2.2.1 &&& (31 ^^^ mask (walkQ Un p) (i + 1)))) (upd (upd s (16 + i) r) 3 ((upd s (16 + i) r) 3 &&& (nI (2 ^ i) ^^^ (-1 : Int32)))) := by
        intro hq
        refine ⟨⟨fun u hu => ?_, fun u hu => ?_, fun u hu => ?_, fun u hu => ?_⟩, ?_, ?_, ?_, ?_⟩
        · rw [pk_un (by omega), pk_un (by omega)]; exact c1 u hu
        · rw [pk_un (by omega), pk_un (by omega)]; exact c2 u hu
        · rw [pk_un (by omega)]
          by_cases h : u = i
          · subst h; rw [pk_us, part_t, ht]; unfold walkS; rw [if_pos hq]
          · rw [pk_un (by omega), part_s h]; exact c3 u hu
        · rw [pk_un (by omega), pk_un (by omega)]; exact c4 u hu
        · rw [pk_un (by omega), pk_un (by omega)]; exact c5
        · rw [pk_un (by omega), pk_un (by omega)]; exact c6
        · rw [pk_un (by omega), pk_un (by omega)]; exact c7
        · rw [pk_us, pk_un (by omega), c8]
          show nI (a.2.2.1 &&& (31 ^^^ mask (walkQ Un p) i)) &&& _ = nI (a.2.2.1 &&& (31 ^^^ mask (walkQ Un p) (i + 1)))
          rw [clr_dec _ (Nat.lt_of_le_of_lt Nat.and_le_left hS) _ (pow5 i (by omega)), Nat.and_assoc, clr2_dec _ (mask32 (by omega)) i (by omega), mask, if_pos hq]
      have hno : ∀ (hq : ¬ walkQ Un p i = true), MA pa pe (part (i + 1) (walkS Un Sq p t) Sq) Un (setS a (a.2.2.1 &&& (31 ^^^ mask (walkQ Un p) (i + 1)))) s := by
        intro hq
        refine ⟨⟨c1, c2, fun u hu => ?_, c4⟩, c5, c6, c7, ?_⟩
        · by_cases h : u = i
          · subst h; rw [part_t]; unfold walkS; rw [if_neg hq]; have := c3 u hu; rw [part_i] at this; exact this
          · rw [part_s h]; exact c3 u hu
        · rw [mask, if_neg hq, Nat.or_zero]; exact c8
      have ho21 := hc.1.2.2.2 p hp
      by_cases q0 : i = p
      · have hq : walkQ Un p i = true := by unfold walkQ; simp [q0]
        refine ⟨_, hst hq, ?_⟩
        show L (nf + 1) _ _ = L nf _ _
        rw [hL, cl2, hm.2.2.1, if_neg (nle hi (by omega)), if_pos (by rw [q0]), a16, if_pos (okb_nI (by omega) (by omega)), clN (by omega), cl3, shl_nI i (by omega), nI_n1]
      · by_cases q1 : Un p = 6
        · have hq : ¬ walkQ Un p i = true := by unfold walkQ; simp [q0, q1]
          refine ⟨_, hno hq, ?_⟩
          show L (nf + 1) _ _ = L nf _ _
          rw [hL, cl2, hm.2.2.1, if_neg (nle hi (by omega)), if_neg (fun z => q0 ((eqN (by omega) (by omega)).mp z)), a21, clN (by omega), ho21, if_pos ((eU_decN _ (hv.1.un hp)).mpr q1), nI_n1]
        · by_cases q2 : Un i = Un p
          · have hq : walkQ Un p i = true := by unfold walkQ; simp [q1, q2]
            refine ⟨_, hst hq, ?_⟩
            show L (nf + 1) _ _ = L nf _ _
            rw [hL, cl2, hm.2.2.1, if_neg (nle hi (by omega)), if_neg (fun z => q0 ((eqN (by omega) (by omega)).mp z)), a21, clN (by omega), ho21, if_neg (fun z => q1 ((eU_decN _ (hv.1.un hp)).mp z)), a21, if_pos (okb_nI (by omega) (by omega)), clN (by omega), c4 i hi, if_pos (by rw [q2]), a16, if_pos (okb_nI (by omega) (by omega)), clN (by omega), cl3, shl_nI i (by omega), nI_n1]
          · have hq : ¬ walkQ Un p i = true := by unfold walkQ; simp [q0, q1, q2]
            refine ⟨_, hno hq, ?_⟩
            show L (nf + 1) _ _ = L nf _ _
            rw [hL, cl2, hm.2.2.1, if_neg (nle hi (by omega)), if_neg (fun z => q0 ((eqN (by omega) (by omega)).mp z)), a21, clN (by omega), ho21, if_neg (fun z => q1 ((eU_decN _ (hv.1.un hp)).mp z)), a21, if_pos (okb_nI (by omega) (by omega)), clN (by omega), c4 i hi, if_neg (fun z => q2 ((eU_inj _ (hv.1.un hi) _ (hv.1.un hp)).mp z)), nI_n1]) pe 0 20000 o (by omega) (by omega) (by
        rw [part_0]
        refine ⟨hc.1, hc.2.1, hc.2.2.1, hc.2.2.2.1, ?_⟩
        rw [hc.2.2.2.2]
        show nI a.2.2.1 = nI (a.2.2.1 &&& (31 ^^^ 0))
        rw [show (31 ^^^ 0 : Nat) = 31 from by decide]
        congr 1
        exact (Nat.and_two_pow_sub_one_of_lt_two_pow (n := 5) hS).symm)
  refine ⟨z, e2, ?_⟩
  obtain ⟨⟨c1, c2, c3, c4⟩, c5⟩ := e1
  exact ⟨⟨c1, c2, fun u hu => by rw [c3 u hu]; unfold part; rw [if_pos hu], c4⟩, c5⟩
