-- an argument
theorem int_cases (i : Int32) : i < 0 ∨ ∃ k, k < 2 ^ 31 ∧ i = nI k := by
  by_cases h : i < 0
  · exact Or.inl h
  · refine Or.inr ⟨i.toInt.toNat, ?_, ?_⟩
    · have := Int32.toInt_lt i; omega
    · have h1 : 0 ≤ i.toInt := by
        have h2 := mt Int32.lt_iff_toInt_lt.mpr h
        have h3 : (0 : Int32).toInt = 0 := by decide
        omega
      apply Int32.toInt_inj.mp
      rw [nI_toInt (by have := Int32.toInt_lt i; omega)]
      omega
theorem arg_cases (n : Nat) (hn : n < 2 ^ 31) (i : Int32) : (∃ k, k < n ∧ i = nI k) ∨ (i < 0 ∨ ∃ k, k < 2 ^ 31 ∧ n ≤ k ∧ i = nI k) := by
  rcases int_cases i with h | ⟨k, h1, h2⟩
  · exact Or.inr (Or.inl h)
  · by_cases h : k < n
    · exact Or.inl ⟨k, h, h2⟩
    · exact Or.inr (Or.inr ⟨k, h1, by omega, h2⟩)
theorem hasX_in {n k : Nat} (h : k < n) (hn : n < 2 ^ 31) : f_X2_hasSquare (nI n) (nI k) = some 1 := by
  unfold f_X2_hasSquare
  rw [if_neg (nI_pos (by omega)), if_neg (nle h hn)]
theorem hasX_out {n : Nat} (hn : n < 2 ^ 31) {i : Int32} (h : i < 0 ∨ ∃ k, k < 2 ^ 31 ∧ n ≤ k ∧ i = nI k) : f_X2_hasSquare (nI n) i = some 0 := by
  unfold f_X2_hasSquare
  rcases h with h | ⟨k, h1, h2, rfl⟩
  · rw [if_pos h]
  · rw [if_neg (nI_pos (by omega)), if_pos (lle h2 h1)]
theorem inX_in {n k : Nat} (h : k < n) (hn : n < 2 ^ 31) : f_X8_in (nI k) 0 (nI n - 1) = some 1 := by
  rw [show (1 : Int32) = nI 1 from rfl, pk_sub (by omega), show (0 : Int32) = nI 0 from rfl, in_N (by omega) (by omega) (by omega)]
  rfl
theorem inX_out {n : Nat} (hn : n < 2 ^ 31) {i : Int32} (h : i < 0 ∨ ∃ k, k < 2 ^ 31 ∧ n ≤ k ∧ i = nI k) : f_X8_in i 0 (nI n - 1) = some 0 := by
  rcases h with h | ⟨k, h1, h2, rfl⟩
  · rw [in_eq, if_pos (Or.inl h)]
  · rcases Nat.eq_zero_or_pos n with h0 | h0
    · subst h0
      rw [in_eq, if_pos (Or.inr ?_)]
      rw [Int32.lt_iff_toInt_lt, nI_toInt h1]
      have : (nI 0 - (1 : Int32)).toInt = -1 := by decide
      omega
    · rw [show (1 : Int32) = nI 1 from rfl, pk_sub (by omega), show (0 : Int32) = nI 0 from rfl, in_N0 (by omega) (by omega) (by omega) (by omega)]
      rfl
theorem okz1 : okz (1 : Int32) = true := by decide
theorem okz0 : okz (0 : Int32) = true := by decide
theorem inN_in {n k : Nat} (h : k ≤ n) (hn : n < 2 ^ 31) : f_X8_in (nI k) 0 (nI n) = some 1 := by
  rw [show (0 : Int32) = nI 0 from rfl, in_N (by omega) (by omega) (by omega)]
theorem inN_out {n : Nat} (hn : n + 1 < 2 ^ 31) {i : Int32} (h : i < 0 ∨ ∃ k, k < 2 ^ 31 ∧ n + 1 ≤ k ∧ i = nI k) : f_X8_in i 0 (nI n) = some 0 := by
  rcases h with h | ⟨k, h1, h2, rfl⟩
  · rw [in_eq, if_pos (Or.inl h)]
  · rw [show (0 : Int32) = nI 0 from rfl, in_N0 (by omega) (by omega) (by omega) (by omega)]
    rfl
/-- an argument that the class and the reference take or refuse alike -/
theorem person_cases {pe : Nat} {m : Nat → Int32} (hpe : pe < 2 ^ 31) (hm : m 2 = nI pe) (i : Int32) : (∃ p, p < pe ∧ i = nI p ∧ f_X2_hasPerson (nI pe) (nI p) = some 1 ∧ f_X8_isPerson m (nI p) = some 1) ∨ (f_X2_hasPerson (nI pe) i = some 0 ∧ f_X8_isPerson m i = some 0) := by
  rcases arg_cases pe hpe i with ⟨p, h1, h2⟩ | h
  · refine Or.inl ⟨p, h1, h2, hasX_in h1 hpe, ?_⟩
    unfold f_X8_isPerson
    rw [cl2, hm, inX_in h1 hpe, ob_some, if_pos okz1]
  · refine Or.inr ⟨hasX_out hpe h, ?_⟩
    unfold f_X8_isPerson
    rw [cl2, hm, inX_out hpe h, ob_some, if_pos okz0]
theorem parasol_cases {pa : Nat} {m : Nat → Int32} (hpa : pa < 2 ^ 31) (hm : m 1 = nI pa) (i : Int32) : (∃ u, u < pa ∧ i = nI u ∧ f_X2_hasParasol (nI pa) (nI u) = some 1 ∧ f_X8_isParasol m (nI u) = some 1) ∨ (f_X2_hasParasol (nI pa) i = some 0 ∧ f_X8_isParasol m i = some 0) := by
  rcases arg_cases pa hpa i with ⟨p, h1, h2⟩ | h
  · refine Or.inl ⟨p, h1, h2, hasX_in h1 hpa, ?_⟩
    unfold f_X8_isParasol
    rw [cl1, hm, inX_in h1 hpa, ob_some, if_pos okz1]
  · refine Or.inr ⟨hasX_out hpa h, ?_⟩
    unfold f_X8_isParasol
    rw [cl1, hm, inX_out hpa h, ob_some, if_pos okz0]
theorem work_cases {wo : Nat} {m : Nat → Int32} (hwo : wo < 2 ^ 31) (hm : m 3 = nI wo) (i : Int32) : (∃ w, w < wo ∧ i = nI w ∧ f_X2_hasWork (nI wo) (nI w) = some 1 ∧ f_X8_isWork m (nI w) = some 1) ∨ (f_X2_hasWork (nI wo) i = some 0 ∧ f_X8_isWork m i = some 0) := by
  rcases arg_cases wo hwo i with ⟨p, h1, h2⟩ | h
  · refine Or.inl ⟨p, h1, h2, hasX_in h1 hwo, ?_⟩
    unfold f_X8_isWork
    rw [cl3, hm, inX_in h1 hwo, ob_some, if_pos okz1]
  · refine Or.inr ⟨hasX_out hwo h, ?_⟩
    unfold f_X8_isWork
    rw [cl3, hm, inX_out hwo h, ob_some, if_pos okz0]
theorem hour_cases (h : Int32) : (∃ u, u < 24 ∧ h = nI u ∧ f_X7_isHour (nI u) = some 1 ∧ f_X8_isHour (nI u) = some 1) ∨ (f_X7_isHour h = some 0 ∧ f_X8_isHour h = some 0) := by
  rcases arg_cases 24 (by decide) h with ⟨p, h1, h2⟩ | h
  · refine Or.inl ⟨p, h1, h2, hasX_in (n := 24) h1 (by decide), ?_⟩
    unfold f_X8_isHour
    rw [show f_X8_in (nI p) 0 (23 : Int32) = some 1 from inN_in (n := 23) (by omega) (by decide), ob_some, if_pos okz1]
  · refine Or.inr ⟨hasX_out (n := 24) (by decide) h, ?_⟩
    unfold f_X8_isHour
    rw [show f_X8_in _ 0 (23 : Int32) = some 0 from inN_out (n := 23) (by decide) h, ob_some, if_pos okz0]
-- the plan
def IP (sq pa pe wo : Nat) (K WS WH : Nat → Nat) (psq ppa ppe pwo : Int32) (pk ws wh m : Nat → Int32) : Prop := psq = nI sq ∧ ppa = nI pa ∧ ppe = nI pe ∧ pwo = nI wo ∧ CK pa K pk ∧ CP wo WS WH ws wh ∧ MP sq pa pe wo K WS WH m ∧ 0 < pa ∧ pa ≤ 6 ∧ 0 < pe ∧ pe ≤ 5 ∧ sq ≤ 9
def CSV (pa pe : Nat) (x : AS) (V : MVt) : Prop := CS pa pe x V.1 V.2.1 V.2.2.1 V.2.2.2.1 V.2.2.2.2.1 V.2.2.2.2.2.1 V.2.2.2.2.2.2.1 V.2.2.2.2.2.2.2
theorem CSV.cp {pa pe : Nat} {x : AS} {a : MVt} (hpa : pa ≤ 6) (hpe : pe ≤ 5) (h : CSV pa pe x a) (b : MVt) : CSV pa pe x (cpM a b) := CA.cp hpa hpe h
/-- a moment that class and reference hold alike -/
def IM (B sq pa pe wo : Nat) (q : MVt) (o : Nat → Int32) : Prop := ∃ x : AS, CSV pa pe x q ∧ MS pa pe x o ∧ VS sq pa pe wo x ∧ x.1.1 ≤ B
theorem IM.mono {B B' sq pa pe wo : Nat} {q : MVt} {o : Nat → Int32} (h : IM B sq pa pe wo q o) (hB : B ≤ B') : IM B' sq pa pe wo q o := by
  obtain ⟨x, h1, h2, h3, h4⟩ := h
  exact ⟨x, h1, h2, h3, by omega⟩
theorem IM.cong {B sq pa pe wo : Nat} {q : MVt} {o o' : Nat → Int32} (hpa : pa ≤ 6) (hpe : pe ≤ 5) (h : IM B sq pa pe wo q o) (he : ∀ k, k < 26 → o' k = o k) : IM B sq pa pe wo q o' := by
  obtain ⟨x, h1, h2, h3, h4⟩ := h
  exact ⟨x, h1, MA.cong hpa hpe h2 he, h3, h4⟩
theorem IM.cp {B sq pa pe wo : Nat} {q : MVt} {o : Nat → Int32} (hpa : pa ≤ 6) (hpe : pe ≤ 5) (h : IM B sq pa pe wo q o) (b : MVt) : IM B sq pa pe wo (cpM q b) o := by
  obtain ⟨x, h1, h2, h3, h4⟩ := h
  exact ⟨x, h1.cp hpa hpe b, h2, h3, h4⟩
-- a row of 26 in a longer one
def rowAt (us : Nat → Int32) (i : Nat) : Nat → Int32 := fun k => us (26 * i + k)
def rowPut (i : Nat) (o us : Nat → Int32) : Nat → Int32 := fun j => if 26 * i ≤ j ∧ j < 26 * i + 26 then o (j - 26 * i) else us j
theorem rowAt_put {i : Nat} {o us : Nat → Int32} : ∀ k, k < 26 → rowAt (rowPut i o us) i k = o k := by
  intro k hk
  unfold rowAt rowPut
  rw [if_pos (by omega)]
  congr 1
  omega
theorem rowAt_other {i j : Nat} {o us : Nat → Int32} (h : j ≠ i) : ∀ k, k < 26 → rowAt (rowPut i o us) j k = rowAt us j k := by
  intro k hk
  unfold rowAt rowPut
  rw [if_neg (by omega)]
theorem i26 (t k : Nat) : ((26 : Int32) * nI t) + nI k = nI (26 * t + k) := by rw [show (26 : Int32) = nI 26 from rfl, pk_mul, nI_add]
/-- the past: of the class's shelf and of the reference's ring -/
def IZ (B sq pa pe wo zk : Nat) (zV : Nat → MVt) (um ua : Int32) (us : Nat → Int32) : Prop := zk ≤ 8 ∧ um = nI zk ∧ ∃ t, t < 8 ∧ ua = nI t ∧ ∀ i, i < zk → IM B sq pa pe wo (zV i) (rowAt us ((t + 8 - zk + i) % 8))
theorem IZ.mono {B B' sq pa pe wo zk : Nat} {zV : Nat → MVt} {um ua : Int32} {us : Nat → Int32} (h : IZ B sq pa pe wo zk zV um ua us) (hB : B ≤ B') : IZ B' sq pa pe wo zk zV um ua us := by
  obtain ⟨h1, h2, t, h3, h4, h5⟩ := h
  exact ⟨h1, h2, t, h3, h4, fun i hi => (h5 i hi).mono hB⟩
theorem remember_L {t : Nat} (ht : t < 8) (tr us : Nat → Int32) (k : Int32 → (Nat → Int32) → Option (Int32 × Int32 × (Nat → Int32))) : f_X8_remember_L2 (nI t) tr k 20000 0 us = k 26 (rowPut t tr us) := by
  have e0 : us = (fun i => (fun j => if 26 * t ≤ j ∧ j < 26 * t + i then tr (j - 26 * t) else us j : Nat → Int32)) 0 := by
    funext j
    exact (if_neg (by omega)).symm
  conv => lhs; rw [e0]
  refine (loopN (fun nf (s : Nat → Int32) v => f_X8_remember_L2 (nI t) tr k nf v s) (fun s v => k v s) 26 (fun i => (fun j => if 26 * t ≤ j ∧ j < 26 * t + i then tr (j - 26 * t) else us j)) ?_ ?_ 20000 (by omega))
  · intro nf
    show f_X8_remember_L2 _ _ _ (nf + 1) _ _ = _
    rw [f_X8_remember_L2_s, if_pos (show (26 : Int32) ≤ nI 26 from lle (Nat.le_refl _) (by omega))]
  · intro nf i hi
    show f_X8_remember_L2 _ _ _ (nf + 1) _ _ = f_X8_remember_L2 _ _ _ nf _ _
    rw [f_X8_remember_L2_s, if_neg (show ¬ (26 : Int32) ≤ nI i from nle (b := 26) hi (by omega)), if_pos (okb_nI hi (by omega)), i26, if_pos (okb_nI (by omega) (by omega)), clN (by omega), clN (by omega), nI_n1]
    congr 1
    funext j
    unfold upd
    by_cases hj : j = 26 * t + i
    · subst hj; rw [if_pos rfl, if_pos (by omega)]; congr 1; omega
    · rw [if_neg hj]
      show (if 26 * t ≤ j ∧ j < 26 * t + i then _ else us j) = _
      by_cases h : 26 * t ≤ j ∧ j < 26 * t + i
      · rw [if_pos h, if_pos (by omega)]
      · rw [if_neg h, if_neg (by omega)]
theorem le8i {a : Nat} (h : a < 2 ^ 31) : (8 : Int32) ≤ nI a ↔ 8 ≤ a := nI_leI (a := 8) (by decide) h
theorem jrem8' {a : Nat} (ha : a < 2 ^ 31) : jrem (nI a) (8 : Int32) = nI (a % 8) := jrem_eq (d := 8) ha (by omega) (by omega)
theorem remember_eq {t zk : Nat} (ht : t < 8) (hz : zk ≤ 8) (tr us : Nat → Int32) : f_X8_remember (nI zk) (nI t) tr us = some (nI (pushS zk), nI ((t + 1) % 8), rowPut t tr us) := by
  unfold f_X8_remember
  rw [remember_L ht]
  by_cases h : 8 ≤ zk
  · rw [if_pos ((le8i (by omega)).mpr h), nI_n1, jrem8' (by omega), show zk = 8 by omega]
    rfl
  · rw [if_neg (fun q => h ((le8i (by omega)).mp q)), nI_n1, nI_n1, jrem8' (by omega)]
    unfold pushS
    rw [if_pos (by omega)]
theorem IZ.push {B sq pa pe wo zk : Nat} {zV : Nat → MVt} {um ua : Int32} {us o : Nat → Int32} {q : MVt} (hpa : pa ≤ 6) (hpe : pe ≤ 5) (h : IZ B sq pa pe wo zk zV um ua us) (hq : IM B sq pa pe wo q o) : ∃ um' ua' us', f_X8_remember um ua o us = some (um', ua', us') ∧ IZ B sq pa pe wo (pushS zk) (pushV zk zV q) um' ua' us' := by
  obtain ⟨h1, rfl, t, h3, rfl, h5⟩ := h
  refine ⟨_, _, _, remember_eq h3 h1 o us, ?_, rfl, (t + 1) % 8, Nat.mod_lt _ (by omega), rfl, fun i hi => ?_⟩
  · unfold pushS; split <;> omega
  · by_cases hk : zk < 8
    · have hs : pushS zk = zk + 1 := if_pos hk
      rw [hs] at hi ⊢
      unfold pushV
      rw [if_pos hk]
      by_cases hik : i = zk
      · subst hik
        rw [show ((t + 1) % 8 + 8 - (i + 1) + i) % 8 = t by omega]
        show IM B sq pa pe wo (if i = i then _ else _) _
        rw [if_pos rfl]
        exact (hq.cong hpa hpe rowAt_put).cp hpa hpe _
      · have := h5 i (by omega)
        show IM B sq pa pe wo (if i = zk then _ else zV i) _
        rw [if_neg hik, show ((t + 1) % 8 + 8 - (zk + 1) + i) % 8 = (t + 8 - zk + i) % 8 by omega]
        exact this.cong hpa hpe (rowAt_other (by omega))
    · have hs : pushS zk = 8 := if_neg hk
      have hz : zk = 8 := by omega
      subst hz
      rw [hs] at hi ⊢
      unfold pushV
      rw [if_neg hk]
      show IM B sq pa pe wo (if i < 7 then zV (i + 1) else if i = 7 then cpM q (zV 0) else zV i) _
      by_cases hi7 : i < 7
      · rw [if_pos hi7, show ((t + 1) % 8 + 8 - 8 + i) % 8 = (t + 8 - 8 + (i + 1)) % 8 by omega]
        exact (h5 (i + 1) (by omega)).cong hpa hpe (rowAt_other (by omega))
      · rw [if_neg hi7, if_pos (by omega), show ((t + 1) % 8 + 8 - 8 + i) % 8 = t by omega]
        exact (hq.cong hpa hpe rowAt_put).cp hpa hpe _
theorem IZ.done {B sq pa pe wo zk : Nat} {zV : Nat → MVt} {um ua : Int32} {us o : Nat → Int32} {q : MVt} (hpa : pa ≤ 6) (hpe : pe ≤ 5) (h : IZ B sq pa pe wo zk zV um ua us) (hq : IM B sq pa pe wo q o) (j : Int32) : ∃ um' ua' us', f_X8_done um ua o us 1 j = some (j, um', ua', us') ∧ IZ B sq pa pe wo (pushS zk) (pushV zk zV q) um' ua' us' := by
  obtain ⟨um', ua', us', h1, h2⟩ := h.push hpa hpe hq
  refine ⟨um', ua', us', ?_, h2⟩
  unfold f_X8_done
  rw [if_neg (by decide), h1, ob_some]
theorem done_no (um ua : Int32) (o us : Nat → Int32) (j : Int32) : f_X8_done um ua o us 0 j = some (-2, um, ua, us) := by
  unfold f_X8_done; rw [if_pos rfl]
-- undo
theorem undo_L {t : Nat} (ht : t < 8) (o us : Nat → Int32) (k : Int32 → (Nat → Int32) → Option (Int32 × Int32 × Int32 × (Nat → Int32))) : f_X8_undo_L38 (nI t) us k 20000 0 o = k 26 (cpy 26 (rowAt us ((t + 7) % 8)) o) := by
  have e0 : o = (fun i => (fun j => if j < i then rowAt us ((t + 7) % 8) j else o j : Nat → Int32)) 0 := by
    funext j
    exact (if_neg (by omega)).symm
  have hj : jrem ((nI t + (8 : Int32)) - (1 : Int32)) (8 : Int32) = nI ((t + 7) % 8) := by
    rw [show (8 : Int32) = nI 8 from rfl, nI_add, show (1 : Int32) = nI 1 from rfl, pk_sub (by omega), jrem_eq (by omega) (by omega) (by omega)]
    rfl
  conv => lhs; rw [e0]
  refine (loopN (fun nf (s : Nat → Int32) v => f_X8_undo_L38 (nI t) us k nf v s) (fun s v => k v s) 26 (fun i => (fun j => if j < i then rowAt us ((t + 7) % 8) j else o j)) ?_ ?_ 20000 (by omega))
  · intro nf
    show f_X8_undo_L38 _ _ _ (nf + 1) _ _ = _
    rw [f_X8_undo_L38_s, if_pos (show (26 : Int32) ≤ nI 26 from lle (Nat.le_refl _) (by omega))]
  · intro nf i hi
    have := Nat.mod_lt (t + 7) (show 0 < 8 by omega)
    show f_X8_undo_L38 _ _ _ (nf + 1) _ _ = f_X8_undo_L38 _ _ _ nf _ _
    rw [f_X8_undo_L38_s, if_neg (show ¬ (26 : Int32) ≤ nI i from nle (b := 26) hi (by omega)), hj, i26, if_pos (okb_nI (by omega) (by omega)), if_pos (okb_nI hi (by omega)), clN (by omega), clN (by omega), nI_n1]
    congr 1
    funext j
    unfold upd
    by_cases hj : j = i
    · subst hj; rw [if_pos rfl, if_pos (by omega)]; rfl
    · rw [if_neg hj]
      show (if j < i then _ else o j) = _
      by_cases h : j < i
      · rw [if_pos h, if_pos (by omega)]
      · rw [if_neg h, if_neg (by omega)]
theorem pos_nI {a : Nat} (h0 : 0 < a) (h : a < 2 ^ 31) : (0 : Int32) < nI a := (nI_ltI (a := 0) (by decide) h).mpr h0
theorem isEmpty_eq {k : Nat} (hk : k < 2 ^ 31) : f_X4_isEmpty (nI k) = some (if k = 0 then 1 else 0) := by
  unfold f_X4_isEmpty
  by_cases h : k = 0
  · rw [if_neg (by rw [h]; decide), if_pos h]
  · rw [if_pos (pos_nI (by omega) hk), if_neg h]
theorem s_undo {B sq pa pe wo zk : Nat} {zV : Nat → MVt} {um ua : Int32} {us o : Nat → Int32} {q : MVt} (hpa : pa ≤ 6) (hpe : pe ≤ 5) (hN : IM B sq pa pe wo q o) (hZ : IZ B sq pa pe wo zk zV um ua us) :
    ∃ rr q' zk' um' ua' o', f_X7_undo q.1 q.2.1 q.2.2.1 q.2.2.2.1 q.2.2.2.2.1 q.2.2.2.2.2.1 q.2.2.2.2.2.2.1 q.2.2.2.2.2.2.2 zk zV = some (rr, q'.1, q'.2.1, q'.2.2.1, q'.2.2.2.1, q'.2.2.2.2.1, q'.2.2.2.2.2.1, q'.2.2.2.2.2.2.1, q'.2.2.2.2.2.2.2, zk') ∧ f_X8_undo um ua o us = some (rr, um', ua', o') ∧ IM B sq pa pe wo q' o' ∧ IZ B sq pa pe wo zk' zV um' ua' us := by
  obtain ⟨h1, rfl, t, h3, rfl, h5⟩ := id hZ
  unfold f_X7_undo f_X8_undo
  rw [isEmpty_eq (by omega), ob_some]
  by_cases h : zk = 0
  · refine ⟨-2, q, zk, nI zk, nI t, o, ?_, ?_, hN, hZ⟩
    · rw [if_pos h, if_neg (by decide)]
    · rw [if_pos ((nI_z (by omega)).mpr h)]
  · refine ⟨nI (zk - 1), cpM (zV (zk - 1)) q, zk - 1, nI (zk - 1), nI ((t + 7) % 8), cpy 26 (rowAt us ((t + 7) % 8)) o, ?_, ?_, ?_, ?_⟩
    · rw [if_neg h, if_pos rfl, if_pos (by omega), if_pos (by omega)]
    · rw [if_neg (fun z => h ((nI_z (by omega)).mp z)), undo_L h3, show (1 : Int32) = nI 1 from rfl, pk_sub (by omega), show (8 : Int32) = nI 8 from rfl, nI_add, pk_sub (by omega), jrem_eq (by omega) (by omega) (by omega)]
      rfl
    · have := h5 (zk - 1) (by omega)
      rw [show (t + 8 - zk + (zk - 1)) % 8 = (t + 7) % 8 by omega] at this
      exact (this.cong hpa hpe (fun k hk => cpy_at hk)).cp hpa hpe q
    · refine ⟨by omega, rfl, (t + 7) % 8, Nat.mod_lt _ (by omega), rfl, fun i hi => ?_⟩
      have := h5 i (by omega)
      rw [show (t + 8 - zk + i) % 8 = ((t + 7) % 8 + 8 - (zk - 1) + i) % 8 by omega] at this
      exact this
