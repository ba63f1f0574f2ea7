theorem sub6 {L : Nat} (hL : L ≤ 3072) : (Int32.ofNat L - (6 : Int32)).toInt = (L : Int) - 6 := by
  have h1 : (Int32.ofNat L).toInt = (L : Int) := nI_toInt (n := L) (by omega)
  have h2 : (6 : Int32).toInt = 6 := by decide
  rw [Int32.toInt_sub, h1, h2]
  exact Int.bmod_eq_of_le (by omega) (by omega)
theorem cmp6 {L j : Nat} (hL : L ≤ 3072) (hj : j ≤ 3072) : ((Int32.ofNat L - (6 : Int32)) < nI j) ↔ L < j + 6 := by
  rw [Int32.lt_iff_toInt_lt, sub6 hL, nI_toInt (by omega)]
  omega
theorem in_k {i j L : Nat} (h : i + j < L) (hL : L ≤ 3072) : vp_in (nI i + nI j) L := by
  rw [nI_add]
  exact vp_in_nI h (by omega)
def R_law : String := "ParasolHoursLaw"
def lw_P (b : Addr) (xs : List Int32) (args : Array Value) (s : State) : Prop := args = #[.ref b] ∧ s.IntsAt b xs ∧ xs.length ≤ 3072 ∧ (Jvm.Cond.and given_1 narrow_1).before args s = true
def lw_Q (_ : Array Value) (s : State) (o : Outcome) (t : State) : Prop := o = .returned (some (.int 1)) ∧ Framed s o t [] 600000 7302250
def lw_Z (below : List Frame) (a : Array Value) (s : State) : State → Prop := fun t => ∃ o, t.status = .running ∧ Ended t below o ∧ lw_Q a s o t
/-- the law's own end, with 1 on the stack, nothing written that was there before, its room as the claim has it -/
theorem lw_ret {p : Program} {l : Launch} {e : Env} {s : State} {m : MethodId} {below : List Frame} {meth : Method} {c : Code} {b : Nat} (hx : p.tables.exec = Jvm.exec) (hb : c.code = code) (hr : meth.sig.returnType = ret) (hlocks : meth.locks = false) {pc : Nat} {H : Heap} {ls : Array Slot} (hdg : decode code pc = .ok (.ireturn, 1)) : W p l e room_1 s m #[Value.ref b] below meth c H [] 600000 7302250 (lw_Z below #[Value.ref b] s) (F0 m pc ls [.int 1]) := by
  intro T hT X
  obtain ⟨fs, hret, hrun, hended, hW, hframe⟩ := X.leave (v := some (.int 1)) (hlocks := hlocks) (fun h => by rw [hr] at h; cases h)
  have hmeth' : T.vm.method? m = some meth := X.method'
  refine ⟨T.setFrames fs, ?_, .returned (some (.int 1)), hrun, hended, rfl, ⟨_, rfl⟩, hW, hframe⟩
  jvm_step X.here [X.here.top, hx, hb, hdg, hmeth', hr, ret, narrow_b1]
  (try refine ⟨rfl, ?_⟩); (try refine ⟨rfl, ?_⟩)
  first | (intro acts; rw [hret _ acts rfl rfl rfl]) | rw [hret _ _ rfl rfl rfl]
  exact Steps.refl _
/-- what holds at the law's entry: the machine, the code, the tables' words (any of lw_tbl by 'hts w (by decide +kernel)'), the script of L ints xs at the cell b, what the Statement gives of the start (any of its parts by flat_of_before) -/
def lw_At (p : Program) (s : State) (m : MethodId) (meth : Method) (c : Code) (b L : Nat) (xs : Nat → Int32) : Prop :=
  p.tables.exec = Jvm.exec ∧ c.code = code ∧ meth.sig.returnType = ret ∧ c.maxLocals = 4 ∧ s.vm.findClass R_law = some m.cls ∧ (∀ w ∈ lw_tbl, w.before #[Value.ref b] s = true) ∧ va_X b L xs s s.heap ∧ b < s.heap.size ∧ meth.locks = false ∧ (Jvm.Cond.and given_1 narrow_1).before #[Value.ref b] s = true
section LAWLOOP
variable {p : Program} {l : Launch} {e : Env} {s : State} {m : MethodId} {below : List Frame} {meth : Method} {c : Code} {cells slots : Nat} {D : va_G} {cI cC cM : ClassId} {b L ax am : Nat} {xs : Nat → Int32}
set_option maxHeartbeats 4000000 in
set_option maxRecDepth 100000 in
theorem law_loop (hC : Ctx p s m #[.ref b] meth c D cI cC cM (lA s) RL cL_law 4 ret wsL_law) (hXs : va_X b L xs s s.heap) (hbl : b < s.heap.size) (hL : L ≤ 3072) (hce : cells ≤ room_1.cells ∧ slots ≤ room_1.slots) :
    ∀ (n k : Nat), L ≤ 6 * (k + n) → 6 * k ≤ L → ∀ (bs : List va_W) (H : Heap) (locs : List Loc) (ls : Array Slot), LI (24 * k) cI cC cM ax am bs → va_P D vwCl (wl bs iA) H → va_D (lA s) (wl bs iA) → va_S (lA s) s.heap H locs → lv_has ls 4 [(0, .ref b), (1, .ref ax), (2, .ref am), (3, .int (nI (6 * k)))] → W p l e room_1 s m #[.ref b] below meth c H locs cells slots (lw_Z below #[.ref b] s) (F0 m 18 ls []) := by
  obtain ⟨hx, hb, hml, hown, hts, hr, hlk, hG, hA⟩ := id hC
  have hbA : ¬ lA s b := Nat.not_le.mpr hbl
  have fin : ∀ (H : Heap) (locs : List Loc) (ls : Array Slot), va_S (lA s) s.heap H locs → W p l e room_1 s m #[.ref b] below meth c H locs cells slots (lw_Z below #[.ref b] s) (F0 m 917 ls []) := fun H locs ls hS => by
    refine lv_iconst (v := (1 : Int32)) hx hb dL_law_917 (by decide) ?_
    refine va_forget (fun q hq => hS.2.2 q hq) ?_
    refine W.widen (k := 600000) (n := 7302250) hce.1 hce.2 ?_
    exact lw_ret hx hb hr hlk dL_law_918
  intro n
  induction n with
  | zero =>
    intro k h1 h2 bs H locs ls hLI hP hD hS hl
    refine lv_iload_n hx hb dL_law_18 rfl (lv_at hl 3 rfl) ?_
    refine lv_aload_n hx hb dL_law_19 rfl (lv_at hl 0 rfl) ?_
    refine va_slen hx hb hXs hbl hbA hS dL_law_20 ?_
    refine lv_bipush (v := (6 : Int32)) hx hb dL_law_21 (by decide) ?_
    refine lv_isub hx hb dL_law_23 ?_
    refine lv_icmp_gt (tgt := 917) hx hb dL_law_24 (by decide) (fun _ => ?_) (fun c1 => absurd ((cmp6 hL (by omega)).mpr (by omega)) c1)
    exact fin H locs ls hS
  | succ n ih =>
    intro k h1 h2 bs H locs ls hLI hP hD hS hl
    refine lv_iload_n hx hb dL_law_18 rfl (lv_at hl 3 rfl) ?_
    refine lv_aload_n hx hb dL_law_19 rfl (lv_at hl 0 rfl) ?_
    refine va_slen hx hb hXs hbl hbA hS dL_law_20 ?_
    refine lv_bipush (v := (6 : Int32)) hx hb dL_law_21 (by decide) ?_
    refine lv_isub hx hb dL_law_23 ?_
    refine lv_icmp_gt (tgt := 917) hx hb dL_law_24 (by decide) (fun _ => fin H locs ls hS) (fun c1 => ?_)
    have hlt : 6 * k + 6 ≤ L := by
      rcases Nat.lt_or_ge L (6 * k + 6) with q | q
      · exact absurd ((cmp6 hL (by omega)).mpr q) c1
      · exact q
    have tail : ∀ (bs : List va_W) (H1 : Heap) (locs1 : List Loc), LI (24 * k + 24) cI cC cM ax am bs → va_P D vwCl (wl bs iA) H1 → va_D (lA s) (wl bs iA) → va_S (lA s) s.heap H1 locs1 → W p l e room_1 s m #[.ref b] below meth c H1 locs1 cells slots (lw_Z below #[.ref b] s) (F0 m 911 ls []) := fun bs H1 locs1 hLI hP hD hS => by
      refine lv_iinc (v := nI (6 * (k + 1))) (lv' := [(3, .int (nI (6 * (k + 1)))), (0, .ref b), (1, .ref ax), (2, .ref am)]) hx hb dL_law_911 hl (k := 3) rfl (by show nI (6 * k) + nI 6 = _; rw [nI_add]; rfl) (by decide) rfl (fun ls hl => ?_)
      refine lv_goto (tgt := 18) hx hb dL_law_914 (by decide) ?_
      exact ih (k + 1) (by omega) (by omega) bs H1 locs1 ls (by rw [Nat.mul_succ]; exact hLI) hP hD hS (lv_sub hl [1, 2, 3, 0] rfl)
    have hin : vp_in (nI (6 * k) + (1 : Int32)) L ∧ vp_in (nI (6 * k) + (2 : Int32)) L ∧ vp_in (nI (6 * k) + (3 : Int32)) L ∧ vp_in (nI (6 * k) + (4 : Int32)) L ∧ vp_in (nI (6 * k) + (5 : Int32)) L := ⟨in_k (j := 1) (by omega) hL, in_k (j := 2) (by omega) hL, in_k (j := 3) (by omega) hL, in_k (j := 4) (by omega) hL, in_k (j := 5) (by omega) hL⟩
    have hB : 24 * k < 50000 := by omega
    refine lv_aload_n hx hb dL_law_27 rfl (lv_at hl 0 rfl) ?_
    refine lv_iload_n hx hb dL_law_28 rfl (lv_at hl 3 rfl) ?_
    refine va_sld hx hb hXs hbl hbA hS (vp_in_nI (by omega) (by omega)) dL_law_29 ?_
    refine lv_bipush (v := (31 : Int32)) hx hb dL_law_30 (by decide) ?_
    refine lv_iand hx hb dL_law_32 ?_
    obtain ⟨j, hj, ej⟩ := pk_andE (xs (nI (6 * k)).toNatClampNeg) (m := 31) 5 (by decide)
    rw [ej]
    by_cases h28 : j ≤ 28
    rotate_left
    · refine lv_tableOut (tgt := 911) hx hb dL_law_33 (Or.inr ?_) (by decide) ?_
      · rw [nI_toInt (by omega)]; omega
      · exact tail bs H locs (LI.mono hLI (Nat.le_add_right _ _)) hP hD hS
    refine hLI _ (fun ay ar ap aq aj az ak ae ad ayl arp arm arn arpk arpq arpr armh armw arms armu apk apq apr aqh aqw aqs aqu ajh ajw ajs aju azr akr aeh aeb adc adb adr a_text a_told a_readLaw a_readNow a_law a_now a_tried a_undos a_seenHour a_seenAt a_parts a_partsThen a_kept ylen rpsq rppa rppe rpwo rmgone rmmet rmstill rmdone psq ppa ppe pwo qgone qmet qstill qdone jgone jmet jstill jdone esize dmost m_letterMany m_readAt m_undoMany m_undoAt m_seenMany m_keptMany ylet rnum rpkind rpwsq rpwhr rmhour rmworn rmsquare rmunder pkind pwsq pwhr qhour qworn qsquare qunder jhour jworn jsquare junder ehour ebeh dcho dbest dreach m_text m_told m_readLaw m_readNow m_law m_now m_tried m_undos m_seenHour m_seenAt m_parts m_partsThen m_kept za zah zaw zaS zau ka kah kaw kaS kau zV kV nT nE sq pa pe wo zk kk LT EH EB K WS WH e hT hPl hN hZ hK hE => ?_)
    subst e
    rcases (show j = 0 ∨ j = 1 ∨ j = 2 ∨ j = 3 ∨ j = 4 ∨ j = 5 ∨ j = 6 ∨ j = 7 ∨ j = 8 ∨ j = 9 ∨ j = 10 ∨ j = 11 ∨ j = 12 ∨ j = 13 ∨ j = 14 ∨ j = 15 ∨ j = 16 ∨ j = 17 ∨ j = 18 ∨ j = 19 ∨ j = 20 ∨ j = 21 ∨ j = 22 ∨ j = 23 ∨ j = 24 ∨ j = 25 ∨ j = 26 ∨ j = 27 ∨ j = 28 by omega) with rfl | rfl | rfl | rfl | rfl | rfl | rfl | rfl | rfl | rfl | rfl | rfl | rfl | rfl | rfl | rfl | rfl | rfl | rfl | rfl | rfl | rfl | rfl | rfl | rfl | rfl | rfl | rfl | rfl
    · exact lv_tableIn (off := 131) (tgt := 164) hx hb dL_law_33 (by decide +kernel) (by decide +kernel) (by decide +kernel) (by decide) (la_write hC hXs hbl hin hl hce hB hT hPl hN hZ hK hE hP hD hS tail)
    · exact lv_tableIn (off := 154) (tgt := 187) hx hb dL_law_33 (by decide +kernel) (by decide +kernel) (by decide +kernel) (by decide) (la_wipe hC hXs hbl hin hl hce hB hT hPl hN hZ hK hE hP hD hS tail)
    · exact lv_tableIn (off := 167) (tgt := 200) hx hb dL_law_33 (by decide +kernel) (by decide +kernel) (by decide +kernel) (by decide) (la_fault hC hXs hbl hin hl hce hB hT hPl hN hZ hK hE hP hD hS tail)
    · exact lv_tableIn (off := 180) (tgt := 213) hx hb dL_law_33 (by decide +kernel) (by decide +kernel) (by decide +kernel) (by decide) (la_lay hC hXs hbl hin hl hce hB hT hPl hN hZ hK hE hP hD hS tail)
    · exact lv_tableIn (off := 193) (tgt := 226) hx hb dL_law_33 (by decide +kernel) (by decide +kernel) (by decide +kernel) (by decide) (la_parasol hC hXs hbl hin hl hce hB hT hPl hN hZ hK hE hP hD hS tail)
    · exact lv_tableIn (off := 226) (tgt := 259) hx hb dL_law_33 (by decide +kernel) (by decide +kernel) (by decide +kernel) (by decide) (la_person hC hXs hbl hin hl hce hB hT hPl hN hZ hK hE hP hD hS tail)
    · exact lv_tableIn (off := 259) (tgt := 292) hx hb dL_law_33 (by decide +kernel) (by decide +kernel) (by decide +kernel) (by decide) (la_work hC hXs hbl hin hl hce hB hT hPl hN hZ hK hE hP hD hS tail)
    · exact lv_tableIn (off := 292) (tgt := 325) hx hb dL_law_33 (by decide +kernel) (by decide +kernel) (by decide +kernel) (by decide) (la_take hC hXs hbl hin hl hce hB hT hPl hN hZ hK hE hP hD hS tail)
    · exact lv_tableIn (off := 325) (tgt := 358) hx hb dL_law_33 (by decide +kernel) (by decide +kernel) (by decide +kernel) (by decide) (la_share hC hXs hbl hin hl hce hB hT hPl hN hZ hK hE hP hD hS tail)
    · exact lv_tableIn (off := 358) (tgt := 391) hx hb dL_law_33 (by decide +kernel) (by decide +kernel) (by decide +kernel) (by decide) (la_give hC hXs hbl hin hl hce hB hT hPl hN hZ hK hE hP hD hS tail)
    · exact lv_tableIn (off := 381) (tgt := 414) hx hb dL_law_33 (by decide +kernel) (by decide +kernel) (by decide +kernel) (by decide) (la_walk hC hXs hbl hin hl hce hB hT hPl hN hZ hK hE hP hD hS tail)
    · exact lv_tableIn (off := 414) (tgt := 447) hx hb dL_law_33 (by decide +kernel) (by decide +kernel) (by decide +kernel) (by decide) (la_mend hC hXs hbl hin hl hce hB hT hPl hN hZ hK hE hP hD hS tail)
    · exact lv_tableIn (off := 437) (tgt := 470) hx hb dL_law_33 (by decide +kernel) (by decide +kernel) (by decide +kernel) (by decide) (la_pass hC hXs hbl hin hl hce hB hT hPl hN hZ hK hE hP hD hS tail)
    · exact lv_tableIn (off := 460) (tgt := 493) hx hb dL_law_33 (by decide +kernel) (by decide +kernel) (by decide +kernel) (by decide) (la_undo hC hXs hbl hin hl hce hB hT hPl hN hZ hK hE hP hD hS tail)
    · exact lv_tableIn (off := 473) (tgt := 506) hx hb dL_law_33 (by decide +kernel) (by decide +kernel) (by decide +kernel) (by decide) (la_until hC hXs hbl hin hl hce hB hT hPl hN hZ hK hE hP hD hS tail)
    · exact lv_tableIn (off := 506) (tgt := 539) hx hb dL_law_33 (by decide +kernel) (by decide +kernel) (by decide +kernel) (by decide) (la_agree hC hXs hbl hin hl hce hB hT hPl hN hZ hK hE hP hD hS tail)
    · exact lv_tableIn (off := 539) (tgt := 572) hx hb dL_law_33 (by decide +kernel) (by decide +kernel) (by decide +kernel) (by decide) (la_deal hC hXs hbl hin hl hce hB hT hPl hN hZ hK hE hP hD hS tail)
    · exact lv_tableIn (off := 562) (tgt := 595) hx hb dL_law_33 (by decide +kernel) (by decide +kernel) (by decide +kernel) (by decide) (la_make hC hXs hbl hin hl hce hB hT hPl hN hZ hK hE hP hD hS tail)
    · exact lv_tableIn (off := 585) (tgt := 618) hx hb dL_law_33 (by decide +kernel) (by decide +kernel) (by decide +kernel) (by decide) (la_still hC hXs hbl hin hl hce hB hT hPl hN hZ hK hE hP hD hS tail)
    · exact lv_tableIn (off := 608) (tgt := 641) hx hb dL_law_33 (by decide +kernel) (by decide +kernel) (by decide +kernel) (by decide) (la_soonest hC hXs hbl hin hl hce hB hT hPl hN hZ hK hE hP hD hS tail)
    · exact lv_tableIn (off := 641) (tgt := 674) hx hb dL_law_33 (by decide +kernel) (by decide +kernel) (by decide +kernel) (by decide) (la_see hC hXs hbl hin hl hce hB hT hPl hN hZ hK hE hP hD hS tail)
    · exact lv_tableIn (off := 674) (tgt := 707) hx hb dL_law_33 (by decide +kernel) (by decide +kernel) (by decide +kernel) (by decide) (la_forget hC hXs hbl hin hl hce hB hT hPl hN hZ hK hE hP hD hS tail)
    · exact lv_tableIn (off := 687) (tgt := 720) hx hb dL_law_33 (by decide +kernel) (by decide +kernel) (by decide +kernel) (by decide) (la_which hC hXs hbl hin hl hce hB hT hPl hN hZ hK hE hP hD hS tail)
    · exact lv_tableIn (off := 700) (tgt := 733) hx hb dL_law_33 (by decide +kernel) (by decide +kernel) (by decide +kernel) (by decide) (la_set hC hXs hbl hin hl hce hB hT hPl hN hZ hK hE hP hD hS tail)
    · exact lv_tableIn (off := 723) (tgt := 756) hx hb dL_law_33 (by decide +kernel) (by decide +kernel) (by decide +kernel) (by decide) (la_flecks hC hXs hbl hin hl hce hB hT hPl hN hZ hK hE hP hD hS tail)
    · exact lv_tableIn (off := 786) (tgt := 819) hx hb dL_law_33 (by decide +kernel) (by decide +kernel) (by decide +kernel) (by decide) (la_day hC hXs hbl hin hl hce hB hT hPl hN hZ hK hE hP hD hS tail)
    · exact lv_tableIn (off := 829) (tgt := 862) hx hb dL_law_33 (by decide +kernel) (by decide +kernel) (by decide +kernel) (by decide) (la_keep hC hXs hbl hin hl hce hB hT hPl hN hZ hK hE hP hD hS tail)
    · exact lv_tableIn (off := 842) (tgt := 875) hx hb dL_law_33 (by decide +kernel) (by decide +kernel) (by decide +kernel) (by decide) (la_back hC hXs hbl hin hl hce hB hT hPl hN hZ hK hE hP hD hS tail)
    · exact lv_tableIn (off := 855) (tgt := 888) hx hb dL_law_33 (by decide +kernel) (by decide +kernel) (by decide +kernel) (by decide) (la_count hC hXs hbl hin hl hce hB hT hPl hN hZ hK hE hP hD hS tail)
end LAWLOOP
