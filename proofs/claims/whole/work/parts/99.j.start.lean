theorem nws_in : ∀ w ∈ nws.map (fun q => Cond.methodLinkNest q.1 q.2.1 q.2.2.1 q.2.2.2), w ∈ lw_tbl := mem_r _ [77, 93, 99, 197, 219, 236, 337, 348, 355, 378, 385, 459, 464, 505, 567, 667, 673, 680, 720, 721, 731, 732, 771, 784, 798, 801, 819] (by decide +kernel)
/-- the tables' words of classes, arrays and nest mates hold at the law's start -/
theorem gk_start {s : State} {args : Array Value} (hts : ∀ w ∈ lw_tbl, w.before args s = true) : ∃ (D : va_G) (cI cC cM : ClassId), GK D cI cC cM s := by
  obtain ⟨c0, i0, h0⟩ := u_known (C := RX0) (T := TX0) (N := 4) (n := 4) hts inX0 (hts (.instantiable RX0 4) (List.mem_of_getElem? (i := 235) (by decide +kernel)))
  obtain ⟨c1, i1, h1⟩ := u_known (C := RX1) (T := TX1) (N := 9) (n := 9) hts inX1 (hts (.instantiable RX1 9) (List.mem_of_getElem? (i := 143) (by decide +kernel)))
  obtain ⟨c2, i2, h2⟩ := u_known (C := RX2) (T := TX2) (N := 7) (n := 7) hts inX2 (hts (.instantiable RX2 7) (List.mem_of_getElem? (i := 98) (by decide +kernel)))
  obtain ⟨c3, i3, h3⟩ := u_known (C := RX3) (T := TX3) (N := 3) (n := 3) hts inX3 (hts (.instantiable RX3 3) (List.mem_of_getElem? (i := 92) (by decide +kernel)))
  obtain ⟨c4, i4, h4⟩ := u_known (C := RX4) (T := TX4) (N := 2) (n := 2) hts inX4 (hts (.instantiable RX4 2) (List.mem_of_getElem? (i := 201) (by decide +kernel)))
  obtain ⟨c5, i5, h5⟩ := u_known (C := RX5) (T := TX5) (N := 3) (n := 3) hts inX5 (hts (.instantiable RX5 3) (List.mem_of_getElem? (i := 218) (by decide +kernel)))
  obtain ⟨c6, i6, h6⟩ := u_known (C := RX6) (T := TX6) (N := 2) (n := 2) hts inX6 (hts (.instantiable RX6 2) (List.mem_of_getElem? (i := 76) (by decide +kernel)))
  obtain ⟨c7, i7, h7⟩ := u_known (C := RX7) (T := TX7) (N := 9) (n := 9) hts inX7 (hts (.instantiable RX7 9) (List.mem_of_getElem? (i := 68) (by decide +kernel)))
  obtain ⟨c8, i8, h8⟩ := u_known (C := RX8) (T := TX8) (N := 19) (n := 19) hts inX8 (hts (.instantiable RX8 19) (List.mem_of_getElem? (i := 849) (by decide +kernel)))
  obtain ⟨cI, kI, pI, a1, a2, a3⟩ := Cond.arrayClass_spec (hts (.arrayClass .int) (List.mem_of_getElem? (i := 141) (by decide +kernel)))
  obtain ⟨cC, kC, pC, b1, b2, b3⟩ := Cond.arrayClass_spec (hts (.arrayClass .char) (List.mem_of_getElem? (i := 90) (by decide +kernel)))
  obtain ⟨pM, cM, kM, g1, g2, g3, g4, g5⟩ := Cond.arrayOver_spec (hts (.arrayOver (.object RX1)) (List.mem_of_getElem? (i := 207) (by decide +kernel)))
  refine ⟨(fun k => [c0, c1, c2, c3, c4, c5, c6, c7, c8].getD k c0, fun k => [i0, i1, i2, i3, i4, i5, i6, i7, i8].getD k i0), cI, cC, cM, ⟨fun k q hq => ?_, fun k q hk => ?_⟩, fun q hq => ?_⟩
  · match k, hq with
    | 0, hq => cases hq; exact h0
    | 1, hq => cases hq; exact h1
    | 2, hq => cases hq; exact h2
    | 3, hq => cases hq; exact h3
    | 4, hq => cases hq; exact h4
    | 5, hq => cases hq; exact h5
    | 6, hq => cases hq; exact h6
    | 7, hq => cases hq; exact h7
    | 8, hq => cases hq; exact h8
    | k + 9, hq => simp [vwCl] at hq
  · match k, hk with
    | 0, hk => cases hk; exact ⟨fun n z => ⟨fun k h => (by cases h), kI, a2, pI, a3⟩, a1⟩
    | 1, hk => cases hk; exact ⟨fun n z => ⟨fun k h => (by cases h), kC, b2, pC, b3⟩, b1⟩
    | 2, hk => cases hk; exact ⟨fun n z => ⟨fun k h => (by cases h), kM, g3, pM, g4⟩, kM, pM, g3, g4, g1, g5⟩
    | k + 3, hk => simp at hk
  · exact va_tabs rfl rfl (hts _ (nws_in _ (List.mem_map_of_mem hq)))
theorem flat_el : ∀ j, j < 84 → (flatC (Jvm.Cond.and given_1 narrow_1))[13 + j]? = some (Cond.eq (.elem (.field (.string "ParasolHours" 68) "java/lang/String" "value" "[B") (.int (Int32.ofNat j))) (.int (txB.getD j 0))) := by decide +kernel
theorem X7post.elim {cI cC cM : ClassId} {ax : Nat} {w : va_W} (h : X7post cI cC cM ax w) {Goal : Prop} (kk : ∀ (ay ar ap aq aj az ak ae ad ayl arp arm arn arpk arpq arpr armh armw arms armu apk apq apr aqh aqw aqs aqu ajh ajw ajs aju azr akr aeh aeb adc adb adr : Nat) (za zah zaw zaS zau ka kah kaw kaS kau : Nat → Nat) (rpsq' rppa' rppe' rpwo' : Int32) (ylet1 rnum' rpkind' rpwsq' rpwhr' rmhour' rmworn' rmsquare' rmunder' pkind pwsq pwhr qhour qworn qsquare qunder : Nat → Int32), w = wl [(bX ax ay ar ap aq aj az ak ae ad), (bT cC ay ayl 0 ylet1), (bRO ar arp arm arn), (bRN cI arn rnum'), (bRM cI arp rpsq' rppa' rppe' rpwo' arpk arpq arpr rpkind' rpwsq' rpwhr' arm 0 0 0 0 armh armw arms armu rmhour' rmworn' rmsquare' rmunder'), (bP cI ap rpsq' rppa' rppe' rpwo' apk apq apr pkind pwsq pwhr), (bQ cI aq ap 0 0 0 0 aqh aqw aqs aqu qhour qworn qsquare qunder), (bJ cI aj ap 0 0 0 0 ajh ajw ajs aju (fun _ => 0) (fun _ => 0) (fun _ => 0) (fun _ => 0)), (bZO az azr 0), (bZM cI cM azr za ap V00 zah zaw zaS zau), (bKO ak akr 0), (bKM cI cM akr ka ap V00 kah kaw kaS kau), (bE cI ae aeh aeb 0 (fun _ => 0) (fun _ => 0)), (bD cI ad adc adb adr 0 (fun _ => 0) (fun _ => 0) (fun _ => 0))] iA7 → IP rT.sq rT.pa rT.pe rT.wo rT.K rT.WS rT.WH rpsq' rppa' rppe' rpwo' pkind pwsq pwhr lw8 → IM 0 rT.sq rT.pa rT.pe rT.wo (0, 0, 0, 0, qhour, qworn, qsquare, qunder) nw8 → Goal) : Goal := Exists.elim h fun ay h => Exists.elim h fun ar h => Exists.elim h fun ap h => Exists.elim h fun aq h => Exists.elim h fun aj h => Exists.elim h fun az h => Exists.elim h fun ak h => Exists.elim h fun ae h => Exists.elim h fun ad h => Exists.elim h fun ayl h => Exists.elim h fun arp h => Exists.elim h fun arm h => Exists.elim h fun arn h => Exists.elim h fun arpk h => Exists.elim h fun arpq h => Exists.elim h fun arpr h => Exists.elim h fun armh h => Exists.elim h fun armw h => Exists.elim h fun arms h => Exists.elim h fun armu h => Exists.elim h fun apk h => Exists.elim h fun apq h => Exists.elim h fun apr h => Exists.elim h fun aqh h => Exists.elim h fun aqw h => Exists.elim h fun aqs h => Exists.elim h fun aqu h => Exists.elim h fun ajh h => Exists.elim h fun ajw h => Exists.elim h fun ajs h => Exists.elim h fun aju h => Exists.elim h fun azr h => Exists.elim h fun akr h => Exists.elim h fun aeh h => Exists.elim h fun aeb h => Exists.elim h fun adc h => Exists.elim h fun adb h => Exists.elim h fun adr h => Exists.elim h fun za h => Exists.elim h fun zah h => Exists.elim h fun zaw h => Exists.elim h fun zaS h => Exists.elim h fun zau h => Exists.elim h fun ka h => Exists.elim h fun kah h => Exists.elim h fun kaw h => Exists.elim h fun kaS h => Exists.elim h fun kau h => Exists.elim h fun rpsq' h => Exists.elim h fun rppa' h => Exists.elim h fun rppe' h => Exists.elim h fun rpwo' h => Exists.elim h fun ylet1 h => Exists.elim h fun rnum' h => Exists.elim h fun rpkind' h => Exists.elim h fun rpwsq' h => Exists.elim h fun rpwhr' h => Exists.elim h fun rmhour' h => Exists.elim h fun rmworn' h => Exists.elim h fun rmsquare' h => Exists.elim h fun rmunder' h => Exists.elim h fun pkind h => Exists.elim h fun pwsq h => Exists.elim h fun pwhr h => Exists.elim h fun qhour h => Exists.elim h fun qworn h => Exists.elim h fun qsquare h => Exists.elim h fun qunder h => kk ay ar ap aq aj az ak ae ad ayl arp arm arn arpk arpq arpr armh armw arms armu apk apq apr aqh aqw aqs aqu ajh ajw ajs aju azr akr aeh aeb adc adb adr za zah zaw zaS zau ka kah kaw kaS kau rpsq' rppa' rppe' rpwo' ylet1 rnum' rpkind' rpwsq' rpwhr' rmhour' rmworn' rmsquare' rmunder' pkind pwsq pwhr qhour qworn qsquare qunder h.1 h.2.1 h.2.2
/-- the string of the first text at the law's start -/
theorem sx_start {s : State} {args : Array Value} (hts : ∀ w ∈ lw_tbl, w.before args s = true) (hgv : (Jvm.Cond.and given_1 narrow_1).before args s = true) : ∃ tx tv : Nat, SX tx tv (lA s) s s.heap ∧ vk_R RX7 68 txS tx s := by
  have hs := flat_of_before _ hgv
  have hA : ∀ a : Nat, a < s.heap.size → ¬ lA s a := fun a h => Nat.not_le.mpr h
  obtain ⟨adK, adV, ⟨h1, -⟩, h2⟩ := vk_Sof (args := args) (s := s) (N := 1) (tm := fun _ => .string "ParasolHours" 68) (len := [84]) (byt := [txB]) (A := lA s) (fun i hi => by obtain rfl : i = 0 := (by omega); decide)
    (fun i hi => hs _ (List.mem_of_getElem? (i := 9) (by decide +kernel)))
    (fun i hi => hs _ (List.mem_of_getElem? (i := 10) (by decide +kernel)))
    (fun i hi => hs _ (List.mem_of_getElem? (i := 11) (by decide +kernel)))
    (fun i hi => by obtain rfl : i = 0 := (by omega); exact hs _ (List.mem_of_getElem? (i := 12) (by decide +kernel)))
    (fun i hi j hj => by obtain rfl : i = 0 := (by omega); exact hs _ (List.mem_of_getElem? (flat_el j hj)))
    (fun i j hi hj hij => by omega) hA
  obtain ⟨s1, s2, s3, s4⟩ := h1 0 (by omega)
  refine ⟨adK 0, adV 0, ⟨s1, s2, s3, s4, ?_, ?_⟩, ?_⟩
  · exact va_Zof (hts (.laysStatic "java/lang/String" "COMPACT_STRINGS" "Z") (List.mem_of_getElem? (i := 264) (by decide +kernel))) (hts (.initialized "java/lang/String") (List.mem_of_getElem? (i := 60) (by decide +kernel))) (va_eqt (hs (Cond.eq (.static "java/lang/String" "COMPACT_STRINGS" "Z") (.int 1)) (List.mem_of_getElem? (i := 4) (by decide +kernel)))) hA
  · exact va_Zqof (hts (.laysStatic "jdk/internal/util/Preconditions" "SIOOBE_FORMATTER" "Ljava/util/function/BiFunction;") (List.mem_of_getElem? (i := 280) (by decide +kernel))) (hts (.initialized "jdk/internal/util/Preconditions") (List.mem_of_getElem? (i := 62) (by decide +kernel))) (hs (.isRef (.static "jdk/internal/util/Preconditions" "SIOOBE_FORMATTER" "Ljava/util/function/BiFunction;")) (List.mem_of_getElem? (i := 5) (by decide +kernel))) hA
  · exact vk_R.of (A := args) (hts (.stringRef RX7 68 txS) (List.mem_of_getElem? (i := 254) (by decide +kernel))) (h2 0 (by omega))
-- ===== YOUR PART BEGINS =====
set_option maxHeartbeats 4000000 in
set_option maxRecDepth 100000 in
theorem whole_start {p : Program} {e : Env} {s : State} {m : MethodId} {below : List Frame} {meth : Method} {c : Code} (l : Launch) (hflags : l.flags = flags0) {b L : Nat} {xs : Nat → Int32} (hL : L ≤ 3072) (C0 : lw_At p s m meth c b L xs) : W p l e room_1 s m #[Value.ref b] below meth c s.heap [] 0 0 (lw_Z below #[Value.ref b] s) (entryFrame m ([Value.ref b] : List Value).toArray 4) := by
  obtain ⟨hx, hb, hr, hml, hown, htsT, hXs, hbl, hlocks, hgv⟩ := id C0
  obtain ⟨D, cI, cC, cM, hG⟩ := gk_start htsT
  obtain ⟨tx, tv, hSX, hV⟩ := sx_start htsT hgv
  have hO : va_AO RX1 s := va_AO.of (htsT (.arrayOver (.object RX1)) (List.mem_of_getElem? (i := 207) (by decide +kernel)))
  have hts : ∀ w ∈ wsL_law, w.before #[Value.ref b] s = true := fun w hw => htsT w (wsL_law_in w hw)
  have hown : s.vm.findClass RL = some m.cls := hown
  have hA : ∀ q : Nat, s.heap.size ≤ q → lA s q := fun _ h => h
  have hC : Ctx p s m #[.ref b] meth c D cI cC cM (lA s) RL cL_law 4 ret wsL_law := ⟨hx, hb, hml, hown, hts, hr, hlocks, hG, hA⟩
  have hK := hG.1
  have hS : va_S (lA s) s.heap s.heap [] := va_S.rf
  have hP : va_P D vwCl [] s.heap := P0
  have hD : va_D (lA s) [] := D0
  have hl := lv_entry ([.ref b]) (n := 4) (Nat.le_of_ble_eq_true rfl)
  rw [lg_entry_eq]
  generalize (lg_sl ([.ref b]) ++ List.replicate (4 - (lg_sl ([.ref b])).length) Slot.unset).toArray = ls at hl ⊢
  have hl : lv_has ls 4 [(0, .ref b)] := hl
  refine va_new (ci := 7) (fs := [.null, .null, .null, .null, .null, .null, .null, .null, .null]) (C := RX7) (T := TX7) (N := 9) hx hb htsT inX7 tyX7 tyX7_ok hown (htsT (.classLink RL 7 RX7) (List.mem_of_getElem? (i := 67) (by decide +kernel))) (htsT (.instantiable RX7 9) (List.mem_of_getElem? (i := 68) (by decide +kernel))) (htsT (.initialized RX7) (List.mem_of_getElem? (i := 52) (by decide +kernel))) hK hP hD hS hA rfl (fun j hj => by rcases (show j = 0 ∨ j = 1 ∨ j = 2 ∨ j = 3 ∨ j = 4 ∨ j = 5 ∨ j = 6 ∨ j = 7 ∨ j = 8 by omega) with rfl | rfl | rfl | rfl | rfl | rfl | rfl | rfl | rfl <;> rfl) (Nat.le_of_ble_eq_true rfl) (Nat.le_of_ble_eq_true rfl) dL_law_0 (fun ax H hP hD hS => ?_)
  have hP : va_P D vwCl [(ax, .inr (7, [.null, .null, .null, .null, .null, .null, .null, .null, .null]))] H := hP
  have hD : va_D (lA s) [(ax, .inr (7, [.null, .null, .null, .null, .null, .null, .null, .null, .null]))] := hD
  refine W.widen (k := 1) (n := 9) (by omega) (by omega) ?_
  refine lv_dup hx hb dL_law_3 rfl ?_
  have hFc := pfree hD hS hA
  refine va_callv (va_runI (As := []) (rest := [.ref ax]) hC.fix (c_X7_init l D cI cC cM tx tv ax H.size) (cwI 0 hts gL_law_X7_init rfl rfl rfl (htsT (.initialized RX7) (List.mem_of_getElem? (i := 52) (by decide +kernel))) (htsT (.methodLink RL 9 yX7_init) (List.mem_of_getElem? (i := 69) (by decide +kernel))) (htsT (.instanceMethod yX7_init) (List.mem_of_getElem? (i := 70) (by decide +kernel))) rfl (by decide +kernel) ⟨Nat.le_of_ble_eq_true rfl, Nat.le_of_ble_eq_true rfl⟩) ⟨PN7.blind, fun U hU hW => ⟨rfl, by rw [hU], by rw [hU]; exact hP, ⟨hG.warm hW, va_AO.moved hW.alike hO, vk_R.warm hW hV⟩, hD.weaken fun _ _ _ _ => trivial, by rw [hU]; exact (SX.moved hW.alike (hSX.kept hS.2.1)).narrow hFc⟩⟩ rfl rfl hl.1 rfl (lv_room (Nat.le_of_ble_eq_true rfl)) dL_law_4 ⟨Nat.le_of_ble_eq_true rfl, Nat.le_of_ble_eq_true rfl⟩) hS (fun q _ h => hFc q h) hFc (fun u t H1 locs ht hvm hw hB hz hk hS => ?_)
  obtain ⟨w7, hp7, hP7, hD7⟩ := hB
  rw [ht] at hP7
  obtain ⟨hP, hD⟩ := pjoin (wr := []) hP hD (by rw [List.append_nil]) hk hFc hP7 hD7
  rw [List.append_nil] at hP hD
  clear hP7 hD7 hz hk ht hvm hFc
  generalize H1 = H at hP hS ⊢
  refine W.widen (k := 89) (n := 719) (by omega) (by omega) ?_
  refine lv_astore_n (lv' := [(1, .ref ax), (0, .ref b)]) hx hb dL_law_7 rfl hl (by decide) rfl (fun ls hl => ?_)
  refine va_new (ci := 8) (fs := [.int 0, .null, .int 0, .null, .null, .null, .null, .null, .null, .int 0, .int 0, .null, .int 0, .null, .null, .null, .null, .int 0, .null]) (C := RX8) (T := TX8) (N := 19) hx hb htsT inX8 tyX8 tyX8_ok hown (htsT (.classLink RL 10 RX8) (List.mem_of_getElem? (i := 848) (by decide +kernel))) (htsT (.instantiable RX8 19) (List.mem_of_getElem? (i := 849) (by decide +kernel))) (htsT (.initialized RX8) (List.mem_of_getElem? (i := 64) (by decide +kernel))) hK hP hD hS hA rfl (fun j hj => by rcases (show j = 0 ∨ j = 1 ∨ j = 2 ∨ j = 3 ∨ j = 4 ∨ j = 5 ∨ j = 6 ∨ j = 7 ∨ j = 8 ∨ j = 9 ∨ j = 10 ∨ j = 11 ∨ j = 12 ∨ j = 13 ∨ j = 14 ∨ j = 15 ∨ j = 16 ∨ j = 17 ∨ j = 18 by omega) with rfl | rfl | rfl | rfl | rfl | rfl | rfl | rfl | rfl | rfl | rfl | rfl | rfl | rfl | rfl | rfl | rfl | rfl | rfl <;> rfl) (Nat.le_of_ble_eq_true rfl) (Nat.le_of_ble_eq_true rfl) dL_law_8 (fun am H hP hD hS => ?_)
  refine W.widen (k := 90) (n := 738) (by omega) (by omega) ?_
  refine lv_dup hx hb dL_law_11 rfl ?_
  refine pCI (As := []) (rest := [.ref am]) hC hO hP hD hS (c_X8_init l D cI cC cM am) List.perm_append_comm (cwI 0 hts gL_law_X8_init rfl rfl rfl (htsT (.initialized RX8) (List.mem_of_getElem? (i := 64) (by decide +kernel))) (htsT (.methodLink RL 12 yX8_init) (List.mem_of_getElem? (i := 850) (by decide +kernel))) (htsT (.instanceMethod yX8_init) (List.mem_of_getElem? (i := 851) (by decide +kernel))) rfl (by decide +kernel) ⟨Nat.le_of_ble_eq_true rfl, Nat.le_of_ble_eq_true rfl⟩) rfl hl.1 rfl (Nat.le_of_ble_eq_true rfl) dL_law_12 ⟨Nat.le_of_ble_eq_true rfl, Nat.le_of_ble_eq_true rfl⟩ (fun w8 H locs hw8 hP hD hS => ?_)
  refine W.widen (k := 103) (n := 1383) (by omega) (by omega) ?_
  obtain ⟨a_text, a_told, a_readLaw, a_readNow, a_law, a_now, a_tried, a_undos, a_seenHour, a_seenAt, a_parts, a_partsThen, a_kept, rfl⟩ := hw8
  refine hp7.elim (fun ay ar ap aq aj az ak ae ad ayl arp arm arn arpk arpq arpr armh armw arms armu apk apq apr aqh aqw aqs aqu ajh ajw ajs aju azr akr aeh aeb adc adb adr za zah zaw zaS zau ka kah kaw kaS kau rpsq' rppa' rppe' rpwo' ylet1 rnum' rpkind' rpwsq' rpwhr' rmhour' rmworn' rmsquare' rmunder' pkind pwsq pwhr qhour qworn qsquare qunder e7 hPl hN => ?_)
  subst e7
  have hP : va_P D vwCl (wl [(bX ax ay ar ap aq aj az ak ae ad), (bT cC ay ayl 0 ylet1), (bRO ar arp arm arn), (bRN cI arn rnum'), (bRM cI arp rpsq' rppa' rppe' rpwo' arpk arpq arpr rpkind' rpwsq' rpwhr' arm 0 0 0 0 armh armw arms armu rmhour' rmworn' rmsquare' rmunder'), (bP cI ap rpsq' rppa' rppe' rpwo' apk apq apr pkind pwsq pwhr), (bQ cI aq ap 0 0 0 0 aqh aqw aqs aqu qhour qworn qsquare qunder), (bJ cI aj ap 0 0 0 0 ajh ajw ajs aju (fun _ => 0) (fun _ => 0) (fun _ => 0) (fun _ => 0)), (bZO az azr (nI 0)), (bZM cI cM azr za ap V00 zah zaw zaS zau), (bKO ak akr (nI 0)), (bKM cI cM akr ka ap V00 kah kaw kaS kau), (bE cI ae aeh aeb 0 (fun _ => 0) (fun _ => 0)), (bD cI ad adc adb adr 0 (fun _ => 0) (fun _ => 0) (fun _ => 0)), (bM am 0 a_text 0 a_told a_readLaw a_readNow a_law a_now a_tried 0 0 a_undos 0 a_seenHour a_seenAt a_parts a_partsThen 0 a_kept), (bmtext cI a_text (fun _ => 0)), (bmtold cI a_told (fun _ => 0)), (bmreadLaw cI a_readLaw (fun _ => 0)), (bmreadNow cI a_readNow (fun _ => 0)), (bmlaw cI a_law lw8), (bmnow cI a_now nw8), (bmtried cI a_tried (fun _ => 0)), (bmundos cI a_undos (fun _ => 0)), (bmseenHour cI a_seenHour (fun _ => 0)), (bmseenAt cI a_seenAt (fun _ => 0)), (bmparts cI a_parts (fun _ => 0)), (bmpartsThen cI a_partsThen (fun _ => 0)), (bmkept cI a_kept (fun _ => 0))] [14, 15, 16, 17, 18, 19, 20, 21, 22, 23, 24, 25, 26, 27] ++ wl [(bX ax ay ar ap aq aj az ak ae ad), (bT cC ay ayl 0 ylet1), (bRO ar arp arm arn), (bRN cI arn rnum'), (bRM cI arp rpsq' rppa' rppe' rpwo' arpk arpq arpr rpkind' rpwsq' rpwhr' arm 0 0 0 0 armh armw arms armu rmhour' rmworn' rmsquare' rmunder'), (bP cI ap rpsq' rppa' rppe' rpwo' apk apq apr pkind pwsq pwhr), (bQ cI aq ap 0 0 0 0 aqh aqw aqs aqu qhour qworn qsquare qunder), (bJ cI aj ap 0 0 0 0 ajh ajw ajs aju (fun _ => 0) (fun _ => 0) (fun _ => 0) (fun _ => 0)), (bZO az azr (nI 0)), (bZM cI cM azr za ap V00 zah zaw zaS zau), (bKO ak akr (nI 0)), (bKM cI cM akr ka ap V00 kah kaw kaS kau), (bE cI ae aeh aeb 0 (fun _ => 0) (fun _ => 0)), (bD cI ad adc adb adr 0 (fun _ => 0) (fun _ => 0) (fun _ => 0)), (bM am 0 a_text 0 a_told a_readLaw a_readNow a_law a_now a_tried 0 0 a_undos 0 a_seenHour a_seenAt a_parts a_partsThen 0 a_kept), (bmtext cI a_text (fun _ => 0)), (bmtold cI a_told (fun _ => 0)), (bmreadLaw cI a_readLaw (fun _ => 0)), (bmreadNow cI a_readNow (fun _ => 0)), (bmlaw cI a_law lw8), (bmnow cI a_now nw8), (bmtried cI a_tried (fun _ => 0)), (bmundos cI a_undos (fun _ => 0)), (bmseenHour cI a_seenHour (fun _ => 0)), (bmseenAt cI a_seenAt (fun _ => 0)), (bmparts cI a_parts (fun _ => 0)), (bmpartsThen cI a_partsThen (fun _ => 0)), (bmkept cI a_kept (fun _ => 0))] iA7) H := hP
  have hD : va_D (lA s) (wl [(bX ax ay ar ap aq aj az ak ae ad), (bT cC ay ayl 0 ylet1), (bRO ar arp arm arn), (bRN cI arn rnum'), (bRM cI arp rpsq' rppa' rppe' rpwo' arpk arpq arpr rpkind' rpwsq' rpwhr' arm 0 0 0 0 armh armw arms armu rmhour' rmworn' rmsquare' rmunder'), (bP cI ap rpsq' rppa' rppe' rpwo' apk apq apr pkind pwsq pwhr), (bQ cI aq ap 0 0 0 0 aqh aqw aqs aqu qhour qworn qsquare qunder), (bJ cI aj ap 0 0 0 0 ajh ajw ajs aju (fun _ => 0) (fun _ => 0) (fun _ => 0) (fun _ => 0)), (bZO az azr (nI 0)), (bZM cI cM azr za ap V00 zah zaw zaS zau), (bKO ak akr (nI 0)), (bKM cI cM akr ka ap V00 kah kaw kaS kau), (bE cI ae aeh aeb 0 (fun _ => 0) (fun _ => 0)), (bD cI ad adc adb adr 0 (fun _ => 0) (fun _ => 0) (fun _ => 0)), (bM am 0 a_text 0 a_told a_readLaw a_readNow a_law a_now a_tried 0 0 a_undos 0 a_seenHour a_seenAt a_parts a_partsThen 0 a_kept), (bmtext cI a_text (fun _ => 0)), (bmtold cI a_told (fun _ => 0)), (bmreadLaw cI a_readLaw (fun _ => 0)), (bmreadNow cI a_readNow (fun _ => 0)), (bmlaw cI a_law lw8), (bmnow cI a_now nw8), (bmtried cI a_tried (fun _ => 0)), (bmundos cI a_undos (fun _ => 0)), (bmseenHour cI a_seenHour (fun _ => 0)), (bmseenAt cI a_seenAt (fun _ => 0)), (bmparts cI a_parts (fun _ => 0)), (bmpartsThen cI a_partsThen (fun _ => 0)), (bmkept cI a_kept (fun _ => 0))] [14, 15, 16, 17, 18, 19, 20, 21, 22, 23, 24, 25, 26, 27] ++ wl [(bX ax ay ar ap aq aj az ak ae ad), (bT cC ay ayl 0 ylet1), (bRO ar arp arm arn), (bRN cI arn rnum'), (bRM cI arp rpsq' rppa' rppe' rpwo' arpk arpq arpr rpkind' rpwsq' rpwhr' arm 0 0 0 0 armh armw arms armu rmhour' rmworn' rmsquare' rmunder'), (bP cI ap rpsq' rppa' rppe' rpwo' apk apq apr pkind pwsq pwhr), (bQ cI aq ap 0 0 0 0 aqh aqw aqs aqu qhour qworn qsquare qunder), (bJ cI aj ap 0 0 0 0 ajh ajw ajs aju (fun _ => 0) (fun _ => 0) (fun _ => 0) (fun _ => 0)), (bZO az azr (nI 0)), (bZM cI cM azr za ap V00 zah zaw zaS zau), (bKO ak akr (nI 0)), (bKM cI cM akr ka ap V00 kah kaw kaS kau), (bE cI ae aeh aeb 0 (fun _ => 0) (fun _ => 0)), (bD cI ad adc adb adr 0 (fun _ => 0) (fun _ => 0) (fun _ => 0)), (bM am 0 a_text 0 a_told a_readLaw a_readNow a_law a_now a_tried 0 0 a_undos 0 a_seenHour a_seenAt a_parts a_partsThen 0 a_kept), (bmtext cI a_text (fun _ => 0)), (bmtold cI a_told (fun _ => 0)), (bmreadLaw cI a_readLaw (fun _ => 0)), (bmreadNow cI a_readNow (fun _ => 0)), (bmlaw cI a_law lw8), (bmnow cI a_now nw8), (bmtried cI a_tried (fun _ => 0)), (bmundos cI a_undos (fun _ => 0)), (bmseenHour cI a_seenHour (fun _ => 0)), (bmseenAt cI a_seenAt (fun _ => 0)), (bmparts cI a_parts (fun _ => 0)), (bmpartsThen cI a_partsThen (fun _ => 0)), (bmkept cI a_kept (fun _ => 0))] iA7) := hD
  have hpp : (wl [(bX ax ay ar ap aq aj az ak ae ad), (bT cC ay ayl 0 ylet1), (bRO ar arp arm arn), (bRN cI arn rnum'), (bRM cI arp rpsq' rppa' rppe' rpwo' arpk arpq arpr rpkind' rpwsq' rpwhr' arm 0 0 0 0 armh armw arms armu rmhour' rmworn' rmsquare' rmunder'), (bP cI ap rpsq' rppa' rppe' rpwo' apk apq apr pkind pwsq pwhr), (bQ cI aq ap 0 0 0 0 aqh aqw aqs aqu qhour qworn qsquare qunder), (bJ cI aj ap 0 0 0 0 ajh ajw ajs aju (fun _ => 0) (fun _ => 0) (fun _ => 0) (fun _ => 0)), (bZO az azr (nI 0)), (bZM cI cM azr za ap V00 zah zaw zaS zau), (bKO ak akr (nI 0)), (bKM cI cM akr ka ap V00 kah kaw kaS kau), (bE cI ae aeh aeb 0 (fun _ => 0) (fun _ => 0)), (bD cI ad adc adb adr 0 (fun _ => 0) (fun _ => 0) (fun _ => 0)), (bM am 0 a_text 0 a_told a_readLaw a_readNow a_law a_now a_tried 0 0 a_undos 0 a_seenHour a_seenAt a_parts a_partsThen 0 a_kept), (bmtext cI a_text (fun _ => 0)), (bmtold cI a_told (fun _ => 0)), (bmreadLaw cI a_readLaw (fun _ => 0)), (bmreadNow cI a_readNow (fun _ => 0)), (bmlaw cI a_law lw8), (bmnow cI a_now nw8), (bmtried cI a_tried (fun _ => 0)), (bmundos cI a_undos (fun _ => 0)), (bmseenHour cI a_seenHour (fun _ => 0)), (bmseenAt cI a_seenAt (fun _ => 0)), (bmparts cI a_parts (fun _ => 0)), (bmpartsThen cI a_partsThen (fun _ => 0)), (bmkept cI a_kept (fun _ => 0))] [14, 15, 16, 17, 18, 19, 20, 21, 22, 23, 24, 25, 26, 27] ++ wl [(bX ax ay ar ap aq aj az ak ae ad), (bT cC ay ayl 0 ylet1), (bRO ar arp arm arn), (bRN cI arn rnum'), (bRM cI arp rpsq' rppa' rppe' rpwo' arpk arpq arpr rpkind' rpwsq' rpwhr' arm 0 0 0 0 armh armw arms armu rmhour' rmworn' rmsquare' rmunder'), (bP cI ap rpsq' rppa' rppe' rpwo' apk apq apr pkind pwsq pwhr), (bQ cI aq ap 0 0 0 0 aqh aqw aqs aqu qhour qworn qsquare qunder), (bJ cI aj ap 0 0 0 0 ajh ajw ajs aju (fun _ => 0) (fun _ => 0) (fun _ => 0) (fun _ => 0)), (bZO az azr (nI 0)), (bZM cI cM azr za ap V00 zah zaw zaS zau), (bKO ak akr (nI 0)), (bKM cI cM akr ka ap V00 kah kaw kaS kau), (bE cI ae aeh aeb 0 (fun _ => 0) (fun _ => 0)), (bD cI ad adc adb adr 0 (fun _ => 0) (fun _ => 0) (fun _ => 0)), (bM am 0 a_text 0 a_told a_readLaw a_readNow a_law a_now a_tried 0 0 a_undos 0 a_seenHour a_seenAt a_parts a_partsThen 0 a_kept), (bmtext cI a_text (fun _ => 0)), (bmtold cI a_told (fun _ => 0)), (bmreadLaw cI a_readLaw (fun _ => 0)), (bmreadNow cI a_readNow (fun _ => 0)), (bmlaw cI a_law lw8), (bmnow cI a_now nw8), (bmtried cI a_tried (fun _ => 0)), (bmundos cI a_undos (fun _ => 0)), (bmseenHour cI a_seenHour (fun _ => 0)), (bmseenAt cI a_seenAt (fun _ => 0)), (bmparts cI a_parts (fun _ => 0)), (bmpartsThen cI a_partsThen (fun _ => 0)), (bmkept cI a_kept (fun _ => 0))] iA7).Perm (wl [(bX ax ay ar ap aq aj az ak ae ad), (bT cC ay ayl 0 ylet1), (bRO ar arp arm arn), (bRN cI arn rnum'), (bRM cI arp rpsq' rppa' rppe' rpwo' arpk arpq arpr rpkind' rpwsq' rpwhr' arm 0 0 0 0 armh armw arms armu rmhour' rmworn' rmsquare' rmunder'), (bP cI ap rpsq' rppa' rppe' rpwo' apk apq apr pkind pwsq pwhr), (bQ cI aq ap 0 0 0 0 aqh aqw aqs aqu qhour qworn qsquare qunder), (bJ cI aj ap 0 0 0 0 ajh ajw ajs aju (fun _ => 0) (fun _ => 0) (fun _ => 0) (fun _ => 0)), (bZO az azr (nI 0)), (bZM cI cM azr za ap V00 zah zaw zaS zau), (bKO ak akr (nI 0)), (bKM cI cM akr ka ap V00 kah kaw kaS kau), (bE cI ae aeh aeb 0 (fun _ => 0) (fun _ => 0)), (bD cI ad adc adb adr 0 (fun _ => 0) (fun _ => 0) (fun _ => 0)), (bM am 0 a_text 0 a_told a_readLaw a_readNow a_law a_now a_tried 0 0 a_undos 0 a_seenHour a_seenAt a_parts a_partsThen 0 a_kept), (bmtext cI a_text (fun _ => 0)), (bmtold cI a_told (fun _ => 0)), (bmreadLaw cI a_readLaw (fun _ => 0)), (bmreadNow cI a_readNow (fun _ => 0)), (bmlaw cI a_law lw8), (bmnow cI a_now nw8), (bmtried cI a_tried (fun _ => 0)), (bmundos cI a_undos (fun _ => 0)), (bmseenHour cI a_seenHour (fun _ => 0)), (bmseenAt cI a_seenAt (fun _ => 0)), (bmparts cI a_parts (fun _ => 0)), (bmpartsThen cI a_partsThen (fun _ => 0)), (bmkept cI a_kept (fun _ => 0))] iA) := (wl_perm (by decide +kernel)).symm
  have hP := hP.perm hpp
  have hD := hD.perm hpp
  refine lv_astore_n (lv' := [(2, .ref am), (1, .ref ax), (0, .ref b)]) hx hb dL_law_15 rfl hl (by decide) rfl (fun ls hl => ?_)
  refine lv_iconst (v := (0 : Int32)) hx hb dL_law_16 (by decide) ?_
  refine lv_istore_n (lv' := [(3, .int 0), (2, .ref am), (1, .ref ax), (0, .ref b)]) hx hb dL_law_17 rfl hl (by decide) rfl (fun ls hl => ?_)
  have hT : IT 0 (fun _ => 0) 0 0 ylet1 (fun _ => 0) := ⟨by omega, rfl, rfl, fun i hi => by omega⟩
  have hZ : IZ 0 rT.sq rT.pa rT.pe rT.wo 0 V00 0 0 (fun _ => 0) := ⟨by omega, rfl, 0, by omega, rfl, fun i hi => by omega⟩
  have hKe : IK 0 rT.sq rT.pa rT.pe rT.wo 0 V00 0 (fun _ => 0) := ⟨by omega, rfl, fun i hi => by omega⟩
  have hE : IE 0 (fun _ => 0) (fun _ => 0) 0 0 (fun _ => 0) (fun _ => 0) (fun _ => 0) (fun _ => 0) := ⟨by omega, rfl, rfl, fun i hi => by omega⟩
  exact law_loop hC hXs hbl hL ⟨Nat.le_of_ble_eq_true rfl, Nat.le_of_ble_eq_true rfl⟩ L 0 (by omega) (by omega) [(bX ax ay ar ap aq aj az ak ae ad), (bT cC ay ayl 0 ylet1), (bRO ar arp arm arn), (bRN cI arn rnum'), (bRM cI arp rpsq' rppa' rppe' rpwo' arpk arpq arpr rpkind' rpwsq' rpwhr' arm 0 0 0 0 armh armw arms armu rmhour' rmworn' rmsquare' rmunder'), (bP cI ap rpsq' rppa' rppe' rpwo' apk apq apr pkind pwsq pwhr), (bQ cI aq ap 0 0 0 0 aqh aqw aqs aqu qhour qworn qsquare qunder), (bJ cI aj ap 0 0 0 0 ajh ajw ajs aju (fun _ => 0) (fun _ => 0) (fun _ => 0) (fun _ => 0)), (bZO az azr (nI 0)), (bZM cI cM azr za ap V00 zah zaw zaS zau), (bKO ak akr (nI 0)), (bKM cI cM akr ka ap V00 kah kaw kaS kau), (bE cI ae aeh aeb 0 (fun _ => 0) (fun _ => 0)), (bD cI ad adc adb adr 0 (fun _ => 0) (fun _ => 0) (fun _ => 0)), (bM am 0 a_text 0 a_told a_readLaw a_readNow a_law a_now a_tried 0 0 a_undos 0 a_seenHour a_seenAt a_parts a_partsThen 0 a_kept), (bmtext cI a_text (fun _ => 0)), (bmtold cI a_told (fun _ => 0)), (bmreadLaw cI a_readLaw (fun _ => 0)), (bmreadNow cI a_readNow (fun _ => 0)), (bmlaw cI a_law lw8), (bmnow cI a_now nw8), (bmtried cI a_tried (fun _ => 0)), (bmundos cI a_undos (fun _ => 0)), (bmseenHour cI a_seenHour (fun _ => 0)), (bmseenAt cI a_seenAt (fun _ => 0)), (bmparts cI a_parts (fun _ => 0)), (bmpartsThen cI a_partsThen (fun _ => 0)), (bmkept cI a_kept (fun _ => 0))] H locs ls (LI.mk hT hPl hN hZ hKe hE) hP hD hS (lv_sub hl [3, 2, 1, 0] rfl)
-- ===== YOUR PART ENDS =====
set_option maxHeartbeats 4000000 in
theorem lw_walk (l : Launch) (hflags : l.flags = flags0) (b : Addr) (xs : List Int32) : MetFree l x (headSpec (Jvm.Cond.code x code maxLocals ret :: tables_1) room_1) (lw_P b xs) (fun _ _ _ _ _ => True) lw_Q := by
  refine MetFree.of_bodyS (code := code) (maxLocals := maxLocals) (ret := ret) (by decide) ?_ ?_
  · intro args s m h hn
    obtain ⟨meth, c, h1, h2, h3, h4, h5, h6, -, -⟩ := Cond.code_spec hn (atoms_spec (ws := Jvm.Cond.code x code maxLocals ret :: tables_1) h _ List.mem_cons_self)
    exact ⟨meth, c, h1, h2, h3, h4, h5, h6⟩
  · intro p e s m args below meth c s₁ B hml0 hP _
    obtain ⟨rfl, hx, hbd, hgv⟩ := hP
    obtain ⟨scr, harrAt, hlist, hof, hsmall⟩ := hx
    obtain ⟨hcb, hkn, -, -⟩ := State.arrayAt?_spec harrAt
    have hown : s.vm.findClass R_law = some m.cls := findClass_of_methodNamed B.named
    have hts0 : ∀ c ∈ (Jvm.Cond.code x code maxLocals ret :: tables_1), c.before #[Value.ref b] s = true := atoms_spec (ws := Jvm.Cond.code x code maxLocals ret :: tables_1) B.pre
    have hts : ∀ w ∈ lw_tbl, w.before #[Value.ref b] s = true := k2_hts_sels lw_privs (fun w hw => hts0 w (List.mem_cons_of_mem _ hw)) lw_privs_ok
    have hml : c.maxLocals = 4 := B.maxLocals_eq (hts0 _ List.mem_cons_self)
    have X₀ : Stand p l e room_1 s m #[Value.ref b] below meth c s₁ [] 0 0 := Stand.of_body B
    have hh0 : s₁.heap = s.heap := by rw [B.state]; rfl
    have hsz : scr.slots.size = xs.length := by rw [← Array.length_toList, hlist, List.length_map]
    have hval : ∀ j : Nat, j < xs.length → scr.slots[j]? = some (.int (xs.getD j 0)) := fun j hj => by
      rw [← Array.getElem?_toList, hlist]
      simp [hj]
    have hbl : b < s.heap.size := (Array.getElem?_eq_some_iff.mp hcb).1
    have hX : va_X b xs.length (fun j => xs.getD j 0) s s.heap := ⟨scr, hcb, hof, hkn, hsz, hval⟩
    have K : W p l e room_1 s m #[Value.ref b] below meth c s₁.heap [] 0 0 (lw_Z below #[Value.ref b] s) (entryFrame m ([Value.ref b] : List Value).toArray 4) := by
      rw [hh0]
      exact whole_start l hflags hbd ⟨B.exec, B.bytes, B.returns, hml, hown, hts, hX, hbl, B.notSynchronized, hgv⟩
    obtain ⟨t, a1, o, b1, b2, b3⟩ := K s₁ rfl X₀
    exact ⟨t, o, a1, b1, b2, b3⟩
theorem lw_pre_spec {args : Array Value} {s : State} (h : (Jvm.Cond.and given_1 narrow_1).before args s = true) (hr : rest_1_c.before args s = true) : ∃ (b : Addr) (xs : List Int32), lw_P b xs args s := by
  have hs := flat_of_before _ h
  have hq := flat_of_before _ hr
  have hc : (Cond.count 1).before args s = true := hs _ (by decide +kernel)
  have harr : (Cond.arrayOf (.arg 0) .int).before args s = true := hs _ (by decide +kernel)
  have hle : (Cond.le (.length (.arg 0)) (.int 3072)).before args s = true := hs _ (by decide +kernel)
  have hlen : (Cond.isInt (.length (.arg 0))).before args s = true := hq _ (by decide +kernel)
  have hall : (Cond.all (.arg 0) (.isInt (.elem (.arg 0) (.index 0)))).before args s = true := hq _ (by decide +kernel)
  obtain ⟨b, xs, hb, hx⟩ := State.ints_of_pre rfl harr hlen hall
  have hsm : xs.length < 2 ^ 31 := hx.choose_spec.2.2.2
  have hev : (Term.length (.arg 0)).eval args s none [] s = some (.int xs.length.toInt32) := hx.length_eval hb
  have hv := Cond.le_ints hev (show (Term.int 3072).eval args s none [] s = some (.int 3072) from rfl)
  have hd : xs.length.toInt32 ≤ 3072 := by
    simpa [Cond.before, Cond.holds, hv] using hle
  have hN : xs.length ≤ 3072 := (Int32.ofNat_le_ofNat hsm (by decide)).mp (show Int32.ofNat xs.length ≤ Int32.ofNat 3072 from hd)
  exact ⟨b, xs, Cond.one_arg hc (show args[0]? = some (.ref b) from hb), hx, hN, h⟩
theorem lw_comes (l : Launch) (hflags : l.flags = flags0) : Comes l x (Jvm.Cond.code x code maxLocals ret :: tables_1) room_1 (fun tb e args s => Calls_1 tb e args s ∧ rest_1 tb e args s ∧ Pre_1 tb e args s)
    (fun _ _ args s o t => lw_Q args s o t) := by
  intro p e ha hc hk s m args below hf hfit hheap happ hpre
  obtain ⟨b, xs, hP⟩ := lw_pre_spec hpre.2.2 hpre.2.1
  obtain ⟨k, o, h1, h2, h3, hQ⟩ := lw_walk l hflags b xs p e ha hc hk s m args below hf ((Spec.applies_iff_loose hf).mp happ).1 hP trivial
  exact ⟨k, o, h1, h2, h3, hQ⟩
theorem lw_frame {s t : State} {o : Outcome} {args : Array Value} (h : Framed s o t [] 600000 7302250) :
    Framed s o t (fieldLocs frame_1_writes args s ++ arrayLocs frame_1_arrays args s ++ staticLocs frame_1_statics s) 600000 7302250 := h
theorem lw_limb (L : Cond) (hL : ∀ (args : Array Value) (s t : State), L.after args s (.returned (some (.int 1))) t = true) :
    ArmFor flags0 classFile x code maxLocals ret World_1 tables_1 room_1 Calls_1 rest_1 Pre_1
      (fun tb e a s o t => postC L tb e a s o t ∧ Framed s o t (fieldLocs frame_1_writes a s ++ arrayLocs frame_1_arrays a s ++ staticLocs frame_1_statics s) 600000 7302250) := by
  intro l hflags _ _ p e ha hc hk s m args below hf hfit hheap happ hpre
  obtain ⟨k, o, h1, h2, h3, rfl, hF⟩ := lw_comes l hflags p e ha hc hk s m args below hf hfit hheap happ hpre
  exact ⟨k, _, h1, h2, h3, hL args s _, lw_frame hF⟩
theorem i_vc : Claimed_1_1 ∧ Claimed_1_2 := ⟨lw_limb limb_1_1 (fun args s t => by simp [limb_1_1, Cond.after, Cond.holds, Cond.value]), lw_limb limb_1_2 (fun args s t => Cond.after_iff.mpr (by
  first | (rw [show limb_1_2 = Cond.eq .result (.int 1) from rfl, Cond.eq_ints (x := 1) (y := 1) rfl rfl]; simp; done) | (simp [limb_1_2, Cond.value, Term.eval]; done)))⟩
