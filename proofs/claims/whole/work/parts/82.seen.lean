-- what was seen
def IE (n : Nat) (EH EB : Nat → Nat) (es sm : Int32) (eh eb sh sa : Nat → Int32) : Prop := n ≤ 6 ∧ es = nI n ∧ sm = nI n ∧ ∀ i, i < n → EH i < 24 ∧ EB i ≤ 30 ∧ eh i = nI (EH i) ∧ sh i = nI (EH i) ∧ eb i = nI (EB i) ∧ sa i = nI (EB i)
def isN : Option Nat → Int32
  | none => 1
  | some _ => 0
theorem isN_match (x : Option Nat) : (match x with | none => (1 : Int32) | some _ => 0) = isN x := by cases x <;> rfl
theorem loopN1 (L : Nat → Int32 → Option Int32) (P : Nat → Bool) (n : Nat) (hexit : ∀ nf, L (nf + 1) (nI n) = some 1) (hstep : ∀ nf i, i < n → L (nf + 1) (nI i) = if P i = true then some 0 else L nf (nI (i + 1))) (fuel : Nat) (h : n < fuel) : L fuel (nI 0) = some (isN (srch P n 0)) := by
  rw [loopS L P (fun _ => (0 : Int32)) 1 n hexit hstep n 0 fuel (by omega) h]
  cases srch P n 0 <;> rfl
def PS (K g h : Nat) (EH EB : Nat → Nat) : Nat → Bool := fun i => !(hourAt K g h (EB i) == EH i)
section SEEN
variable {B sq pa pe wo zk kk n g : Nat} {K WS WH EH EB : Nat → Nat} {psq ppa ppe pwo qg qm qst qd um ua km es sm : Int32} {pk ws wh m qh qw qs qu o us ks eh eb sh sa : Nat → Int32}
theorem fit_eq {u h : Nat} (hE : IE n EH EB es sm eh eb sh sa) (hu6 : u < 6) (hk : pk u = nI (K u)) (hK : K u < 4) (hg : g < 90000) (hh : h < 24) : f_X5_fit es eh eb (nI g) pk (nI u) (nI h) = some (isN (srch (PS (K u) g h EH EB) n 0)) := by
  obtain ⟨n6, rfl, rfl, hE⟩ := hE
  unfold f_X5_fit
  refine loopN1 (fun nf v => f_X5_fit_L3 (nI n) eb (nI g) pk (nI u) (nI h) eh (fun _ => some 1) nf v) _ n (fun nf => ?_) (fun nf i hi => ?_) 20000 (by omega)
  · show f_X5_fit_L3 _ _ _ _ _ _ _ _ (nf + 1) _ = _
    rw [f_X5_fit_L3_s, if_pos (lle (Nat.le_refl _) (by omega))]
  · show f_X5_fit_L3 _ _ _ _ _ _ _ _ (nf + 1) _ = if _ then _ else f_X5_fit_L3 _ _ _ _ _ _ _ _ nf _
    obtain ⟨b1, b2, b3, b4, b5, b6⟩ := hE i hi
    have := hourAt_lt (K := K u) (g := g) (h := h) (n := EB i)
    rw [f_X5_fit_L3_s, if_neg (nle hi (by omega)), at_eq eb (by omega) (by omega), ob_some, b5, hourFrom_eq hu6 hk hK (by omega) hh (by omega), ob_some, at_eq eh (by omega) (by omega), ob_some, b3, nI_n1]
    by_cases q : hourAt (K u) g h (EB i) = EH i
    · rw [if_pos (by rw [q]), if_neg (by unfold PS; simp [q])]
    · rw [if_neg (fun z => q ((eqN (by omega) (by omega)).mp z)), if_pos (by unfold PS; simp [q])]
theorem isSeen_0 (u h : Int32) : ∀ d i nf, i + d = n → d < nf → n ≤ 6 → f_X8_isSeen_L5 (nI n) m o u h sa sh (fun v1 _ => if okz v1 = true then some v1 else none) nf 0 (nI i) = some 0 := by
  intro d
  induction d with
  | zero =>
    intro i nf h1 h2 h3
    obtain ⟨k, rfl⟩ : ∃ k, nf = k + 1 := ⟨nf - 1, by omega⟩
    have : i = n := by omega
    subst this
    rw [f_X8_isSeen_L5_s, if_pos (lle (Nat.le_refl _) (by omega)), if_pos okz0]
  | succ d ih =>
    intro i nf h1 h2 h3
    obtain ⟨k, rfl⟩ : ∃ k, nf = k + 1 := ⟨nf - 1, by omega⟩
    rw [f_X8_isSeen_L5_s, if_neg (nle (by omega) (by omega)), if_pos rfl, nI_n1]
    exact ih (i + 1) k (by omega) (by omega) h3
theorem isSeen_1 {u h : Nat} (hE : IE n EH EB es sm eh eb sh sa) (hm : MP sq pa pe wo K WS WH m) (hpa : pa ≤ 6) (hu : u < pa) (h0 : o 0 = nI g) (hg : g < 90000) (hh : h < 24) : ∀ d i nf, i + d = n → d < nf → f_X8_isSeen_L5 (nI n) m o (nI u) (nI h) sa sh (fun v1 _ => if okz v1 = true then some v1 else none) nf 1 (nI i) = some (isN (srch (PS (K u) g h EH EB) d i)) := by
  obtain ⟨n6, rfl, rfl, hE⟩ := hE
  intro d
  induction d with
  | zero =>
    intro i nf h1 h2
    obtain ⟨k, rfl⟩ : ∃ k, nf = k + 1 := ⟨nf - 1, by omega⟩
    have : i = n := by omega
    subst this
    rw [f_X8_isSeen_L5_s, if_pos (lle (Nat.le_refl _) (by omega)), if_pos okz1]
    rfl
  | succ d ih =>
    intro i nf h1 h2
    obtain ⟨k, rfl⟩ : ∃ k, nf = k + 1 := ⟨nf - 1, by omega⟩
    obtain ⟨b1, b2, b3, b4, b5, b6⟩ := hE i (by omega)
    have := hourAt_lt (K := K u) (g := g) (h := h) (n := EB i)
    rw [f_X8_isSeen_L5_s, if_neg (nle (by omega) (by omega)), if_neg not10, if_pos (okb_nI (by omega) (by omega)), clN (by omega), b6, onward_eq hm hpa hu h0 hg hh (by omega), ob_some, b4, nI_n1, srch]
    by_cases q : hourAt (K u) g h (EB i) = EH i
    · rw [if_pos (by rw [q]), if_neg (by unfold PS; simp [q])]
      exact ih (i + 1) k (by omega) (by omega)
    · rw [if_neg (fun z => q ((eqN (by omega) (by omega)).mp z)), if_pos (by unfold PS; simp [q])]
      exact isSeen_0 _ _ d (i + 1) k (by omega) (by omega) n6
theorem isSeen_eq {u h : Nat} (hE : IE n EH EB es sm eh eb sh sa) (hm : MP sq pa pe wo K WS WH m) (hpa : pa ≤ 6) (hu : u < pa) (h0 : o 0 = nI g) (hg : g < 90000) (hh : h < 24) : f_X8_isSeen sm m o sh sa (nI u) (nI h) = some (isN (srch (PS (K u) g h EH EB) n 0)) := by
  have e := hE.2.2.1
  have n6 := hE.1
  subst e
  unfold f_X8_isSeen
  exact isSeen_1 hE hm hpa hu h0 hg hh n 0 20000 (by omega) (by omega)
theorem isN_cases (x : Option Nat) : isN x = 0 ∨ isN x = 1 := by cases x; exact Or.inr rfl; exact Or.inl rfl
theorem s_which (hP : IP sq pa pe wo K WS WH psq ppa ppe pwo pk ws wh m) (hN : IM B sq pa pe wo (qg, qm, qst, qd, qh, qw, qs, qu) o) (hE : IE n EH EB es sm eh eb sh sa) (hB : B < 50000) : ∃ rr, f_X7_which ppa pk qg qh es eh eb = some rr ∧ f_X8_which sm m o sh sa = some rr := by
  obtain ⟨rfl, rfl, rfl, rfl, hk, hw, hm, a1, a2, a3, a4', a5⟩ := hP
  obtain ⟨⟨a, Sq, Un⟩, hc, hmo, hv, hb⟩ := id hN
  have hb : a.1 ≤ B := hb
  have hv' : VA sq pa pe wo Sq Un a := hv
  obtain ⟨c1, c2, c3, c4, c5⟩ : CA pa pe Sq Un a qg qm qst qd qh qw qs qu := hc
  have hmo' : MA pa pe Sq Un a o := hmo
  have h4 := hv'.1.2.2.2.1
  unfold f_X7_which f_X8_which
  obtain ⟨s', -, l1, l2⟩ := loop2 (fun nf (s : Int32) v => f_X7_which_L4 (nI pa) qh es eh eb qg pk (fun v1 _ => some v1) nf s v) (fun nf (s : Int32) v => f_X8_which_L4 m sm o sh sa (fun v1 _ => some v1) nf s v) (fun s _ => some s) (fun s _ => some s) pa (fun _ _ => True) (fun nf s _ => by
      constructor
      · show f_X7_which_L4 _ _ _ _ _ _ _ _ (nf + 1) _ _ = _
        rw [f_X7_which_L4_s, if_pos (lle (Nat.le_refl _) (by omega))]
      · show f_X8_which_L4 _ _ _ _ _ _ (nf + 1) _ _ = _
        rw [f_X8_which_L4_s, cl1, hm.2.1, if_pos (lle (Nat.le_refl _) (by omega))]) (fun u s hu _ => by
      have f1 := fit_eq (g := a.1) hE (show u < 6 by omega) (hk u hu).1 (hk u hu).2 (by omega) (h4 u hu)
      have f2 := isSeen_eq (g := a.1) hE hm a2 hu hmo'.2.1 (by omega) (h4 u hu)
      refine ⟨if isN (srch (PS (K u) a.1 (a.2.2.2.2.1 u) EH EB) n 0) = 0 then s else s ||| (1 : Int32) <<< (nI u &&& 31), trivial, fun nf => ⟨?_, ?_⟩⟩
      · show f_X7_which_L4 _ _ _ _ _ _ _ _ (nf + 1) _ _ = f_X7_which_L4 _ _ _ _ _ _ _ _ nf _ _
        rw [f_X7_which_L4_s, if_neg (nle hu (by omega)), hourOf_eq qh (by omega), ob_some, c5.1 u hu, c1, f1, ob_some, nI_n1]
        split <;> rfl
      · show f_X8_which_L4 _ _ _ _ _ _ (nf + 1) _ _ = f_X8_which_L4 _ _ _ _ _ _ nf _ _
        rw [f_X8_which_L4_s, cl1, hm.2.1, if_neg (nle hu (by omega)), a4, if_pos (okb_nI (by omega) (by omega)), clN (by omega), hmo'.1.1 u hu, f2, ob_some, nI_n1, or0_nI]
        split <;> rfl) pa 0 20000 0 (by omega) (by omega) trivial
  exact ⟨s', l1, l2⟩
theorem s_set (hP : IP sq pa pe wo K WS WH psq ppa ppe pwo pk ws wh m) (hN : IM B sq pa pe wo (qg, qm, qst, qd, qh, qw, qs, qu) o) (hE : IE n EH EB es sm eh eb sh sa) (hB : B < 50000) (u : Int32) : ∃ rr, f_X7_set ppa pk qg es eh eb u = some rr ∧ f_X8_set sm m o sh sa u = some rr := by
  obtain ⟨rfl, rfl, rfl, rfl, hk, hw, hm, a1, a2, a3, a4', a5⟩ := hP
  obtain ⟨⟨a, Sq, Un⟩, hc, hmo, hv, hb⟩ := id hN
  have hb : a.1 ≤ B := hb
  have hv' : VA sq pa pe wo Sq Un a := hv
  obtain ⟨c1, c2, c3, c4, c5⟩ : CA pa pe Sq Un a qg qm qst qd qh qw qs qu := hc
  have hmo' : MA pa pe Sq Un a o := hmo
  have h4 := hv'.1.2.2.2.1
  unfold f_X7_set f_X8_set
  rcases parasol_cases (show pa < 2 ^ 31 by omega) hm.2.1 u with ⟨u, hu, rfl, e1, e2⟩ | ⟨e1, e2⟩
  · obtain ⟨s', -, l1, l2⟩ := loop2 (fun nf (s : Int32) v => f_X7_set_L17 es eh eb qg pk (nI u) (fun v1 _ => some v1) nf s v) (fun nf (s : Int32) v => f_X8_set_L14 sm m o sh sa (nI u) (fun v1 _ => some v1) nf s v) (fun s _ => some s) (fun s _ => some s) 24 (fun _ _ => True) (fun nf s _ => by
      constructor
      · show f_X7_set_L17 _ _ _ _ _ _ _ (nf + 1) _ _ = _
        rw [f_X7_set_L17_s, if_pos (show (24 : Int32) ≤ nI 24 from lle (Nat.le_refl _) (by omega))]
      · show f_X8_set_L14 _ _ _ _ _ _ _ (nf + 1) _ _ = _
        rw [f_X8_set_L14_s, if_pos (show (24 : Int32) ≤ nI 24 from lle (Nat.le_refl _) (by omega))]) (fun h s hh _ => by
      have f1 := fit_eq (g := a.1) hE (show u < 6 by omega) (hk u hu).1 (hk u hu).2 (by omega) hh
      have f2 := isSeen_eq (g := a.1) hE hm a2 hu hmo'.2.1 (by omega) hh
      refine ⟨if isN (srch (PS (K u) a.1 h EH EB) n 0) = 0 then s else s ||| (1 : Int32) <<< (nI h &&& 31), trivial, fun nf => ⟨?_, ?_⟩⟩
      · show f_X7_set_L17 _ _ _ _ _ _ _ (nf + 1) _ _ = f_X7_set_L17 _ _ _ _ _ _ _ nf _ _
        rw [f_X7_set_L17_s, if_neg (show ¬ (24 : Int32) ≤ nI h from nle (b := 24) hh (by omega)), c1, f1, ob_some, nI_n1]
        split <;> rfl
      · show f_X8_set_L14 _ _ _ _ _ _ _ (nf + 1) _ _ = f_X8_set_L14 _ _ _ _ _ _ _ nf _ _
        rw [f_X8_set_L14_s, if_neg (show ¬ (24 : Int32) ≤ nI h from nle (b := 24) hh (by omega)), f2, ob_some, nI_n1, or0_nI]
        split <;> rfl) 24 0 20000 0 (by omega) (by omega) trivial
    refine ⟨s', ?_, ?_⟩
    · rw [e1, ob_some, if_neg not10]; exact l1
    · rw [e2, ob_some, if_neg not10]; exact l2
  · exact ⟨-1, by rw [e1, ob_some, if_pos rfl], by rw [e2, ob_some, if_pos rfl]⟩
theorem s_see (hE : IE n EH EB es sm eh eb sh sa) (h x : Int32) : ∃ rr n' EH' EB' es' sm' eh' eb' sh' sa', f_X7_see es eh eb h x = some (rr, es', eh', eb') ∧ f_X8_see sm sh sa h x = some (rr, sm', sh', sa') ∧ IE n' EH' EB' es' sm' eh' eb' sh' sa' := by
  obtain ⟨n6, rfl, rfl, hE'⟩ := id hE
  unfold f_X7_see f_X8_see
  rcases hour_cases h with ⟨h, hh, rfl, e1, e2⟩ | ⟨e1, e2⟩
  · rcases arg_cases 31 (by decide) x with ⟨x, hx, rfl⟩ | hx
    · have w1 : ¬ nI x < 0 := nI_pos (by omega)
      have w2 : nI x ≤ (30 : Int32) := lle (b := 30) (by omega) (by omega)
      have w3 : f_X8_in (nI x) 0 30 = some 1 := inN_in (n := 30) (by omega) (by decide)
      by_cases h6 : n = 6
      · refine ⟨-3, n, EH, EB, nI n, nI n, eh, eb, sh, sa, ?_, ?_, hE⟩
        · rw [e1, ob_some, if_neg not10, if_neg w1, if_pos w2]
          unfold f_X5_isFull
          rw [h6, if_neg (by decide), ob_some, if_neg not10]
        · rw [e2, ob_some, if_neg not10, w3, ob_some, if_neg not10, if_pos (by rw [h6]; rfl)]
      · refine ⟨nI (n + 1), n + 1, setN EH n h, setN EB n x, nI (n + 1), nI (n + 1), upd eh n (nI h), upd eb n (nI x), upd sh n (nI h), upd sa n (nI x), ?_, ?_, by omega, rfl, rfl, fun i hi => ?_⟩
        · rw [e1, ob_some, if_neg not10, if_neg w1, if_pos w2]
          unfold f_X5_isFull f_X5_add
          rw [if_pos (show nI n < (6 : Int32) from (nI_ltI (b := 6) (by omega) (by decide)).mpr (by omega)), ob_some, if_pos rfl, put_eq _ _ (by omega) (by omega), ob_some, put_eq _ _ (by omega) (by omega), ob_some, ob_some, nI_n1]
        · rw [e2, ob_some, if_neg not10, w3, ob_some, if_neg not10, if_neg (show ¬ nI n = (6 : Int32) from fun q => h6 ((eqN (b := 6) (by omega) (by omega)).mp q)), if_pos (okb_nI (by omega) (by omega)), clN (by omega), nI_n1]
        · by_cases hin : i = n
          · subst hin
            rw [setN_s, setN_s, pk_us, pk_us, pk_us, pk_us]
            exact ⟨hh, by omega, rfl, rfl, rfl, rfl⟩
          · rw [setN_n hin, setN_n hin, pk_un hin, pk_un hin, pk_un hin, pk_un hin]
            exact hE' i (by omega)
    · refine ⟨-1, n, EH, EB, nI n, nI n, eh, eb, sh, sa, ?_, ?_, hE⟩
      · rw [e1, ob_some, if_neg not10]
        rcases hx with h | ⟨k, h1, h2, rfl⟩
        · rw [if_pos h]
        · rw [if_neg (nI_pos h1), if_neg (show ¬ nI k ≤ (30 : Int32) from nle (a := 30) (by omega) h1)]
      · rw [e2, ob_some, if_neg not10, show f_X8_in x 0 30 = some 0 from inN_out (n := 30) (by decide) hx, ob_some, if_pos rfl]
  · exact ⟨-1, n, EH, EB, nI n, nI n, eh, eb, sh, sa, by rw [e1, ob_some, if_pos rfl], by rw [e2, ob_some, if_pos rfl], hE⟩
theorem s_forget (hE : IE n EH EB es sm eh eb sh sa) : ∃ rr es' sm', f_X7_forget es = some (rr, es') ∧ f_X8_forget sm = some (rr, sm') ∧ IE 0 EH EB es' sm' eh eb sh sa := by
  obtain ⟨n6, rfl, rfl, hE'⟩ := id hE
  exact ⟨nI n, 0, 0, rfl, rfl, by omega, rfl, rfl, fun i hi => by omega⟩
end SEEN
-- the text
def IT (n : Nat) (L : Nat → Nat) (yl ml : Int32) (yt mt : Nat → Int32) : Prop := n ≤ 200 ∧ yl = nI n ∧ ml = nI n ∧ ∀ i, i < n → 32 ≤ L i ∧ L i ≤ 126 ∧ yt i = nI (L i) ∧ mt i = nI (L i)
theorem char_dec : ∀ c, c < 127 → vp_nar .char (ji2c (nI c)) = nI c := by decide +kernel
theorem s_write {n : Nat} {L : Nat → Nat} {yl ml : Int32} {yt mt : Nat → Int32} (hT : IT n L yl ml yt mt) (c : Int32) : ∃ rr n' L' yl' ml' yt' mt', f_X7_write yl yt c = some (rr, yl', yt') ∧ f_X8_write ml mt c = some (rr, ml', mt') ∧ IT n' L' yl' ml' yt' mt' := by
  obtain ⟨n2, rfl, rfl, hT'⟩ := id hT
  unfold f_X7_write f_X8_write
  rcases arg_cases 127 (by decide) c with ⟨c, hc, rfl⟩ | hc
  · by_cases h32 : c < 32
    · have w1 : nI c < (32 : Int32) := (nI_ltI (b := 32) (by omega) (by decide)).mpr h32
      exact ⟨-1, n, L, _, _, _, _, by rw [if_pos w1], by rw [in_eq, if_pos (Or.inl w1), ob_some, if_pos rfl], hT⟩
    have w1 : ¬ nI c < (32 : Int32) := fun q => h32 ((nI_ltI (b := 32) (by omega) (by decide)).mp q)
    have w2 : nI c ≤ (126 : Int32) := lle (b := 126) (by omega) (by omega)
    have w3 : f_X8_in (nI c) 32 126 = some 1 := in_N (b := 32) (c := 126) (by omega) (by omega) (by decide)
    unfold f_X6_isFull
    by_cases h2 : n = 200
    · refine ⟨-3, n, L, _, _, _, _, ?_, ?_, hT⟩
      · rw [if_neg w1, if_pos w2, h2, if_neg (by decide), ob_some, if_neg not10]
      · rw [w3, ob_some, if_neg not10, if_pos (by rw [h2]; rfl)]
    · refine ⟨nI (n + 1), n + 1, setN L n c, nI (n + 1), nI (n + 1), upd yt n (nI c), upd mt n (nI c), ?_, ?_, by omega, rfl, rfl, fun i hi => ?_⟩
      · unfold f_X6_append
        rw [if_neg w1, if_pos w2, if_pos (show nI n < (200 : Int32) from (nI_ltI (b := 200) (by omega) (by decide)).mpr (by omega)), ob_some, if_pos rfl, if_neg (nI_pos (by omega)), if_neg (show ¬ (200 : Int32) ≤ nI n from nle (b := 200) (by omega) (by omega)), if_pos (okb_nI (by omega) (by omega)), ob_some, clN (by omega), char_dec c hc, nI_n1]
      · rw [w3, ob_some, if_neg not10, if_neg (show ¬ nI n = (200 : Int32) from fun q => h2 ((eqN (b := 200) (by omega) (by omega)).mp q)), if_pos (okb_nI (by omega) (by omega)), clN (by omega), nI_n1]
      · by_cases hin : i = n
        · subst hin
          rw [setN_s, pk_us, pk_us]
          exact ⟨by omega, by omega, rfl, rfl⟩
        · rw [setN_n hin, pk_un hin, pk_un hin]
          exact hT' i (by omega)
  · refine ⟨-1, n, L, _, _, _, _, ?_, ?_, hT⟩
    · rcases hc with h | ⟨k, h1, h2, rfl⟩
      · rw [if_pos (by
          rw [Int32.lt_iff_toInt_lt] at h ⊢
          have e0 : (0 : Int32).toInt = 0 := by decide
          have e1 : (32 : Int32).toInt = 32 := by decide
          omega)]
      · rw [if_neg (fun q => by have := (nI_ltI (b := 32) h1 (by decide)).mp q; omega), if_neg (show ¬ nI k ≤ (126 : Int32) from nle (a := 126) (by omega) h1)]
    · rcases hc with h | ⟨k, h1, h2, rfl⟩
      · rw [in_eq, if_pos (Or.inl (by
          rw [Int32.lt_iff_toInt_lt] at h ⊢
          have e0 : (0 : Int32).toInt = 0 := by decide
          have e1 : (32 : Int32).toInt = 32 := by decide
          omega)), ob_some, if_pos rfl]
      · rw [in_eq, if_pos (Or.inr (show (126 : Int32) < nI k from (nI_ltI (a := 126) (by decide) h1).mpr (by omega))), ob_some, if_pos rfl]
theorem s_wipe {n : Nat} {L : Nat → Nat} {yl ml : Int32} {yt mt : Nat → Int32} (hT : IT n L yl ml yt mt) : ∃ rr yl' ml', f_X7_wipe yl = some (rr, yl') ∧ f_X8_wipe ml = some (rr, ml') ∧ IT 0 L yl' ml' yt mt := by
  obtain ⟨n2, rfl, rfl, hT'⟩ := id hT
  exact ⟨nI n, 0, 0, rfl, rfl, by omega, rfl, rfl, fun i hi => by omega⟩
