-- the first text, read
def rdA (A : Nat → Nat) (n : Nat) : Nat → Nat → RT → Option RT
  | 0, i, r => if n ≤ i then some r else none
  | d + 1, i, r => if n ≤ i then some r else Option.bind (itm A r i) fun x => rdA A n d x.1 x.2
def rT : RT := (rdA (lC 84 txN) 84 16 0 r0).getD r0
theorem rT_ok : (rdA (lC 84 txN) 84 16 0 r0).isSome = true := by decide +kernel
theorem rT_eq : rdA (lC 84 txN) 84 16 0 r0 = some rT := by
  have h := rT_ok
  unfold rT
  cases hr : rdA (lC 84 txN) 84 16 0 r0 with
  | none => rw [hr] at h; cases h
  | some r => rfl
theorem rT_n : rT.sq = 6 ∧ rT.pa = 5 ∧ rT.pe = 4 ∧ rT.wo = 5 := by decide +kernel
theorem rT_M : RM rT lw8 nw8 := ⟨by decide +kernel, by decide +kernel, by decide +kernel, by decide +kernel, by decide +kernel, by decide +kernel, by decide +kernel, by decide +kernel, by decide +kernel, by decide +kernel, by decide +kernel⟩
theorem rT_U : ∀ p, p < 5 → nw8 (21 + p) = -4 := by decide +kernel
section READT
variable {n : Nat} {L : Nat → Nat} {yl ml : Int32} {yt mt : Nat → Int32}
theorem readsT (hT : IT n L yl ml yt mt) (g0 g1 g2 g3 : Int32) (un : Nat → Int32) (k8 : Int32 → Int32 → (Nat → Int32) → Int32 → Int32 → Int32 → Int32 → (Nat → Int32) → (Nat → Int32) → (Nat → Int32) → (Nat → Int32) → (Nat → Int32) → (Nat → Int32) → Option (Int32 × (Nat → Int32) × Int32 × Int32 × Int32 × Int32 × (Nat → Int32) × (Nat → Int32) × (Nat → Int32) × Int32 × Int32 × Int32 × Int32 × (Nat → Int32) × (Nat → Int32) × (Nat → Int32) × (Nat → Int32))) :
    ∀ d i it r rn sq pa pe wo kd wq wr ho wn sr nf r', rdA (lC n L) n d i r = some r' → i ≤ n → it ≤ i → RV r → RC r (rn, sq, pa, pe, wo, kd, wq, wr, ho, wn, sr) → d < nf →
    ∃ j jt rn' sq' pa' pe' wo' kd' wq' wr' ho' wn' sr', RV r' ∧ RC r' (rn', sq', pa', pe', wo', kd', wq', wr', ho', wn', sr') ∧ f_X3_placeOfFault_L8 yl yt g0 g1 g2 g3 un k8 nf (nI i) (nI it) rn sq pa pe wo kd wq wr ho wn sr = k8 j jt rn' sq' pa' pe' wo' kd' wq' wr' ho' wn' sr' := by
  have hn := hT.1
  have hyl := hT.2.1
  intro d
  induction d with
  | zero =>
    intro i it r rn sq pa pe wo kd wq wr ho wn sr nf r' h0 h2 h3 hv hc hf
    obtain ⟨nf, rfl⟩ : ∃ k, nf = k + 1 := ⟨nf - 1, by omega⟩
    unfold rdA at h0
    by_cases hin : n ≤ i
    · rw [if_pos hin] at h0
      cases h0
      refine ⟨nI i, nI it, rn, sq, pa, pe, wo, kd, wq, wr, ho, wn, sr, hv, hc, ?_⟩
      rw [f_X3_placeOfFault_L8_s]
      split
      · rfl
      · rw [hyl, if_pos (lle (by omega) (by omega))]
    · rw [if_neg hin] at h0
      cases h0
  | succ d ih =>
    intro i it r rn sq pa pe wo kd wq wr ho wn sr nf r' h0 h2 h3 hv hc hf
    obtain ⟨nf, rfl⟩ : ∃ k, nf = k + 1 := ⟨nf - 1, by omega⟩
    unfold rdA at h0
    by_cases hin : n ≤ i
    · rw [if_pos hin] at h0
      cases h0
      refine ⟨nI i, nI it, rn, sq, pa, pe, wo, kd, wq, wr, ho, wn, sr, hv, hc, ?_⟩
      rw [f_X3_placeOfFault_L8_s]
      split
      · rfl
      · rw [hyl, if_pos (lle (by omega) (by omega))]
    rw [if_neg hin] at h0
    obtain ⟨⟨j, r1⟩, hi, h0⟩ := op_bind h0
    obtain ⟨c1, c2⟩ := item_c hT (i := i) (by omega) hv hc
    have s1 : f_X3_placeOfFault_L8 yl yt g0 g1 g2 g3 un k8 (nf + 1) (nI i) (nI it) rn sq pa pe wo kd wq wr ho wn sr = Option.bind (f_X3_behindItem rn sq pa pe wo kd wq wr ho wn sr yl yt (nI i)) fun z => if z.1 = (-4 : Int32) then some (nI i, z.2.1, z.2.2.1, z.2.2.2.1, z.2.2.2.2.1, z.2.2.2.2.2.1, z.2.2.2.2.2.2.1, z.2.2.2.2.2.2.2.1, z.2.2.2.2.2.2.2.2.1, g0, g1, g2, g3, z.2.2.2.2.2.2.2.2.2.1, z.2.2.2.2.2.2.2.2.2.2.1, z.2.2.2.2.2.2.2.2.2.2.2, un) else f_X3_placeOfFault_L8 yl yt g0 g1 g2 g3 un k8 nf z.1 (nI it + 1) z.2.1 z.2.2.1 z.2.2.2.1 z.2.2.2.2.1 z.2.2.2.2.2.1 z.2.2.2.2.2.2.1 z.2.2.2.2.2.2.2.1 z.2.2.2.2.2.2.2.2.1 z.2.2.2.2.2.2.2.2.2.1 z.2.2.2.2.2.2.2.2.2.2.1 z.2.2.2.2.2.2.2.2.2.2.2 := by
      rw [f_X3_placeOfFault_L8_s, if_neg (show ¬ (200 : Int32) ≤ nI it from nle (b := 200) (by omega) (by omega)), hyl, if_neg (nle (by omega) (by omega))]
    rw [s1]
    obtain ⟨z, hz, hcz⟩ := c2 j r1 hi
    obtain ⟨l1, l2⟩ := itm_lt hi
    have hjn : j ≤ n := by
      by_cases q : j - 1 < n
      · omega
      · unfold lC at l2
        rw [if_neg q] at l2
        omega
    rw [hz, ob_some]
    have e1 : ¬ nI j = (-4 : Int32) := nI_m4 (by omega)
    rw [if_neg e1, nI_n1]
    exact ih j (it + 1) r1 _ _ _ _ _ _ _ _ _ _ _ nf r' h0 hjn (by omega) (itm_V hv hi) hcz (by omega)
end READT
theorem first_read (rn kd wq wr ho wn sr un yt : Nat → Int32) (hyt : ∀ j, j < 84 → yt j = nI (txN j)) : ∃ rn' sq' pa' pe' wo' kd' wq' wr' ho' wn' sr' un', RV rT ∧ RC rT (rn', sq', pa', pe', wo', kd', wq', wr', ho', wn', sr') ∧ (∀ p, p < 5 → un' p = -4) ∧ f_X3_placeOfFault rn kd wq wr ho wn sr un (nI 84) yt = some (-4, rn', sq', pa', pe', wo', kd', wq', wr', 0, 0, 0, 0, ho', wn', sr', un') := by
  have hT : IT 84 txN (nI 84) (nI 84) yt yt := ⟨by omega, rfl, rfl, fun i hi => ⟨(txB_ok i hi).2.2.2.1, (txB_ok i hi).2.2.2.2, hyt i hi, hyt i hi⟩⟩
  obtain ⟨un', u1, u2⟩ := clear_c un
  have hc0 : RC r0 (rn, 6, 0, 0, 0, kd, wq, wr, ho, wn, sr) := ⟨rfl, rfl, rfl, rfl, fun u (hu : u < 0) => by omega, fun u (hu : u < 0) => by omega, fun u (hu : u < 0) => by omega, fun u (hu : u < 0) => by omega, fun u (hu : u < 0) => by omega, fun u (hu : u < 0) => by omega⟩
  obtain ⟨j, jt, rn', sq', pa', pe', wo', kd', wq', wr', ho', wn', sr', f1, f2, f3⟩ := readsT hT 0 0 0 0 un' (fun v11 v12 rnum_13 rpsq_14 rppa_15 rppe_16 rpwo_17 rpkind_18 rpwsq_19 rpwhr_20 rmhour_21 rmworn_22 rmsquare_23 => some ((-4 : Int32), rnum_13, rpsq_14, rppa_15, rppe_16, rpwo_17, rpkind_18, rpwsq_19, rpwhr_20, 0, 0, 0, 0, rmhour_21, rmworn_22, rmsquare_23, un')) 16 0 0 r0 rn 6 0 0 0 kd wq wr ho wn sr 20000 rT rT_eq (by omega) (by omega) r0_V hc0 (by omega)
  refine ⟨rn', sq', pa', pe', wo', kd', wq', wr', ho', wn', sr', un', f1, f2, u2, ?_⟩
  unfold f_X3_placeOfFault f_X3_clear
  rw [u1, ob_some, ob_some]
  exact f3
/-- what the class holds first, beside what the reference holds first -/
theorem first_IP {rn kd wq wr ho wn sr : Nat → Int32} {sq pa pe wo : Int32} (hv : RV rT) (hc : RC rT (rn, sq, pa, pe, wo, kd, wq, wr, ho, wn, sr)) (pk ws wh : Nat → Int32) : IP rT.sq rT.pa rT.pe rT.wo rT.K rT.WS rT.WH sq pa pe wo (cpy 6 kd pk) (cpy 6 wq ws) (cpy 6 wr wh) lw8 :=
  planLay hc rT_M hv (by rw [rT_n.2.1]; omega) (by rw [rT_n.2.2.1]; omega) (fun j hj => rfl) pk ws wh
theorem first_IM {rn kd wq wr ho wn sr un : Nat → Int32} {sq pa pe wo : Int32} (hv : RV rT) (hc : RC rT (rn, sq, pa, pe, wo, kd, wq, wr, ho, wn, sr)) (hu : ∀ p, p < 5 → un p = -4) (qh qw qs qu : Nat → Int32) : IM 0 rT.sq rT.pa rT.pe rT.wo (0, 0, 0, 0, cpy 6 ho qh, cpy 6 wn qw, cpy 5 sr qs, cpy 5 un qu) nw8 :=
  ⟨xLay rT, xLay_C hc hv hu, xLay_M rT_M hv (fun j hj => rfl) rT_U, xLay_V hv (by rw [rT_n.2.1]; omega), Nat.zero_le _⟩
