theorem in_N {a b c : Nat} (h1 : b ≤ a) (h2 : a ≤ c) (hc : c < 2 ^ 31) : f_X8_in (nI a) (nI b) (nI c) = some 1 := by
  rw [in_eq, if_neg]
  intro h
  rcases h with h | h
  · have := (nI_ltI (by omega) (by omega)).mp h; omega
  · have := (nI_ltI (by omega) (by omega)).mp h; omega
theorem in_N0 {a b c : Nat} (h : a < b ∨ c < a) (ha : a < 2 ^ 31) (hb : b < 2 ^ 31) (hc : c < 2 ^ 31) : f_X8_in (nI a) (nI b) (nI c) = some 0 := by
  rw [in_eq, if_pos]
  rcases h with h | h
  · exact Or.inl ((nI_ltI (by omega) (by omega)).mpr h)
  · exact Or.inr ((nI_ltI (by omega) (by omega)).mpr h)
theorem VA.walk {sq pa pe wo p t : Nat} {Sq Un : Nat → Nat} {a : AMt} (hv : VA sq pa pe wo Sq Un a) (hp : p < pe) (ht : t < sq) : VA sq pa pe wo (walkS Un Sq p t) Un (setS a (a.2.2.1 &&& (31 ^^^ mask (walkQ Un p) pe))) := by
  obtain ⟨⟨v1, v2, v3, v4, v5, v6, v7, v8⟩, h2, h3⟩ := hv
  refine ⟨⟨v1, v2, v3, v4, v5, fun q hq => ?_, v7, fun x y hx hy e hl => ?_⟩, Nat.lt_of_le_of_lt Nat.and_le_left h2, h3⟩
  · unfold walkS
    split
    · exact ht
    · exact v6 q hq
  · have key : walkQ Un p x = walkQ Un p y ∨ (walkQ Un p x = true ∧ Un p = 6) ∨ (walkQ Un p y = true ∧ Un p = 6) := by
      unfold walkQ
      by_cases h6 : Un p = 6
      · by_cases hxp : x = p
        · exact Or.inr (Or.inl ⟨by simp [hxp], h6⟩)
        · by_cases hyp : y = p
          · exact Or.inr (Or.inr ⟨by simp [hyp], h6⟩)
          · left
            have e1 : (x == p) = false := by simp [hxp]
            have e2 : (y == p) = false := by simp [hyp]
            rw [e1, e2, e]
      · left
        rw [e]
        by_cases hxp : x = p
        · subst hxp
          by_cases hyp : y = x
          · subst hyp; rfl
          · simp [h6, ← e]
        · by_cases hyp : y = p
          · subst hyp; simp [h6, e]
          · have e1 : (x == p) = false := by simp [hxp]
            have e2 : (y == p) = false := by simp [hyp]
            rw [e1, e2]
    rcases key with h | ⟨h, h6⟩ | ⟨h, h6⟩
    · unfold walkS
      rw [h]
      split
      · rfl
      · exact v8 x y hx hy e hl
    · unfold walkQ at h
      simp [h6] at h
      subst h
      omega
    · unfold walkQ at h
      simp [h6] at h
      subst h
      omega
theorem toWalk_lt {S sq s w p : Nat} (h : okWalk S sq s w p = true) (hs : s < sq) : toWalk s w < sq := by
  unfold okWalk at h
  unfold toWalk
  by_cases q : w = 0
  · rw [if_pos q] at h ⊢; simp at h; exact h.2
  · rw [if_neg q] at h ⊢; simp at h; omega
theorem walks_m {sq pa pe wo p w : Nat} {Sq Un K WS WH : Nat → Nat} {a : AMt} {o m : Nat → Int32} (hc : MA pa pe Sq Un a o) (hv : VA sq pa pe wo Sq Un a) (hm : MP sq pa pe wo K WS WH m) (hp : p < pe) (hw : w < 2) :
    (okWalk a.2.2.1 sq (Sq p) w p = true ∧ ∃ o', f_X8_walks m o (nI p) (nI w) = some (1, o') ∧ MA pa pe (walkS Un Sq p (toWalk (Sq p) w)) Un (setS a (a.2.2.1 &&& (31 ^^^ mask (walkQ Un p) pe))) o') ∨ (¬ okWalk a.2.2.1 sq (Sq p) w p = true ∧ f_X8_walks m o (nI p) (nI w) = some (0, o)) := by
  obtain ⟨v1, v2, v3, v4, v5, v6, v7, v8⟩ := id hv.1
  have h6 := v6 p hp
  have hS := hv.S
  obtain ⟨c1, c2, c3, c4, c5⟩ := id hc
  have e16 : okb ((16 : Int32) + nI p) 26 = true := by rw [a16]; exact okb_nI (by omega) (by omega)
  have e21 : okb ((21 : Int32) + nI p) 26 = true := by rw [a21]; exact okb_nI (by omega) (by omega)
  have f16 : o ((16 : Int32) + nI p).toNatClampNeg = nI (Sq p) := by rw [a16, clN (by omega)]; exact c1.2.2.1 p hp
  have hsq : nI sq - (1 : Int32) = nI (sq - 1) := by rw [show (1 : Int32) = nI 1 from rfl, pk_sub (by omega)]
  have hhas : f_X8_has (o (3 : Int32).toNatClampNeg) (nI p) = some (if a.2.2.1.testBit p then 1 else 0) := by rw [cl3, c5, has_eq (by omega) (by omega)]
  unfold f_X8_walks
  rw [if_pos e16, hhas, f16, cl0, hm.1, hsq]
  by_cases q2 : w = 0
  · rw [if_pos ((w01 w hw).mpr q2), ob_some]
    by_cases q1 : a.2.2.1.testBit p = true
    · right
      refine ⟨by unfold okWalk; simp [q1], ?_⟩
      rw [if_pos q1, if_neg (by decide)]
    · rw [if_neg q1, if_pos (by decide), nI_n1]
      by_cases q3 : Sq p + 1 < sq
      · left
        have hok : okWalk a.2.2.1 sq (Sq p) w p = true := by unfold okWalk; rw [if_pos q2]; simp [q1, q3]
        refine ⟨hok, ?_⟩
        rw [show (0 : Int32) = nI 0 from rfl, in_N (by omega) (by omega) (by omega), ob_some, if_neg (by decide), if_pos e21]
        obtain ⟨o', f1, f2⟩ := walkL_m hc hv hm hp (t := Sq p + 1) (r := nI (Sq p + 1)) rfl (fun nf v s => f_X8_walks_L58_2 m (nI p) o (fun v s => some (1, s)) nf v s) (fun v s => some (1, s)) (fun nf v s => by show f_X8_walks_L58_2 _ _ _ _ (nf + 1) _ _ = _; rw [f_X8_walks_L58_2_s, f16, nI_n1])
        refine ⟨o', f1, ?_⟩
        rw [toWalk, if_pos q2]; exact f2
      · right
        refine ⟨by unfold okWalk; rw [if_pos q2]; simp [q3], ?_⟩
        rw [show (0 : Int32) = nI 0 from rfl, in_N0 (by omega) (by omega) (by omega) (by omega), ob_some, if_pos (by decide)]
  · rw [if_neg (fun z => q2 ((w01 w hw).mp z)), ob_some]
    by_cases q1 : a.2.2.1.testBit p = true
    · right
      refine ⟨by unfold okWalk; simp [q1], ?_⟩
      rw [if_pos q1, if_neg (by decide)]
    · rw [if_neg q1, if_pos (by decide)]
      by_cases q3 : Sq p = 0
      · right
        refine ⟨by unfold okWalk; rw [if_neg q2]; simp [q3], ?_⟩
        rw [q3, in_eq, if_pos (Or.inl m1_0'), ob_some, if_pos rfl]
      · left
        have hok : okWalk a.2.2.1 sq (Sq p) w p = true := by unfold okWalk; rw [if_neg q2]; simp [q1]; omega
        have e1 : nI (Sq p) + (-1 : Int32) = nI (Sq p - 1) := by
          obtain ⟨k, hk⟩ : ∃ k, Sq p = k + 1 := ⟨Sq p - 1, by omega⟩
          rw [hk, pk_m1]; rfl
        refine ⟨hok, ?_⟩
        rw [e1, show (0 : Int32) = nI 0 from rfl, in_N (by omega) (by omega) (by omega), ob_some, if_neg (by decide), if_pos e21]
        obtain ⟨o', f1, f2⟩ := walkL_m hc hv hm hp (t := Sq p - 1) (r := nI (Sq p - 1)) rfl (fun nf v s => f_X8_walks_L58 m (nI p) o (fun v s => some (1, s)) nf v s) (fun v s => some (1, s)) (fun nf v s => by show f_X8_walks_L58 _ _ _ _ (nf + 1) _ _ = _; rw [f_X8_walks_L58_s, f16, e1])
        refine ⟨o', f1, ?_⟩
        rw [toWalk, if_neg q2]; exact f2
-- a moment whole: a, Sq, Un
abbrev AS : Type := AMt × (Nat → Nat) × (Nat → Nat)
def MS (pa pe : Nat) (x : AS) (o : Nat → Int32) : Prop := MA pa pe x.2.1 x.2.2 x.1 o
def CS (pa pe : Nat) (x : AS) (g t s d : Int32) (qh qw qs qu : Nat → Int32) : Prop := CA pa pe x.2.1 x.2.2 x.1 g t s d qh qw qs qu
def VS (sq pa pe wo : Nat) (x : AS) : Prop := VA sq pa pe wo x.2.1 x.2.2 x.1
def acTake (p u : Nat) (x : AS) : AS := (x.1, x.2.1, setN x.2.2 p u)
def acShare (p q : Nat) (x : AS) : AS := (setS x.1 (x.1.2.2.1 &&& (31 ^^^ 2 ^ p)), x.2.1, setN x.2.2 p (x.2.2 q))
def acGive (p : Nat) (x : AS) : AS := (x.1, x.2.1, setN x.2.2 p 6)
def acWalk (pe p w : Nat) (x : AS) : AS := (setS x.1 (x.1.2.2.1 &&& (31 ^^^ mask (walkQ x.2.2 p) pe)), walkS x.2.2 x.2.1 p (toWalk (x.2.1 p) w), x.2.2)
def acMend (u : Nat) (x : AS) : AS := (setW x.1 (setN x.1.2.2.2.2.2 u 0), x.2.1, x.2.2)
def acDraw (sq pa pe d : Nat) (x : AS) : AS :=
  let p := d / 8 % pe
  let u := d / 64 % pa
  let q := d / 64 % pe
  let w := d / 64 % 2
  if d % 8 ≤ 1 then (if okTake x.1.2.2.1 x.2.1 x.2.2 pe p u = true then acTake p u x else x)
  else if d % 8 = 2 then (if okShare x.2.1 x.2.2 pe p q = true then acShare p q x else x)
  else if d % 8 = 3 then (if okGive x.2.1 x.2.2 pe p = true then acGive p x else x)
  else if d % 8 = 7 then (if spU x.2.2 pe u = 0 then acMend u x else x)
  else (if okWalk x.1.2.2.1 sq (x.2.1 p) w p = true then acWalk pe p w x else x)
