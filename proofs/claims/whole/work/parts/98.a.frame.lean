-- worlds up to order; blocks of a world
theorem va_P.perm {D : va_G} {cl : List vw_C} {ws ws' : va_W} {H : Heap} (hP : va_P D cl ws H) (hp : ws.Perm ws') : va_P D cl ws' H := fun k q h => by
  have hm : q ∈ ws := hp.mem_iff.mpr (List.mem_of_getElem? h)
  obtain ⟨j, hj⟩ := List.getElem?_of_mem hm
  exact hP j q hj
theorem va_D.nodup {A : Nat → Prop} {ws : va_W} (hD : va_D A ws) : (ws.map (fun q => q.1)).Nodup := by
  refine List.pairwise_iff_getElem.mpr (fun i j hi hj hij h => ?_)
  have hi' : i < ws.length := by simpa using hi
  have hj' : j < ws.length := by simpa using hj
  rw [List.getElem_map, List.getElem_map] at h
  have := hD.1 i j _ _ (List.getElem?_eq_getElem hi') (List.getElem?_eq_getElem hj') h
  omega
theorem va_D.of_nodup {A : Nat → Prop} {ws : va_W} (hn : (ws.map (fun q => q.1)).Nodup) (hA : ∀ q ∈ ws, A q.1) : va_D A ws := by
  refine ⟨fun i j p q hi hj hpq => ?_, fun k q hk => hA q (List.mem_of_getElem? hk)⟩
  have h1 : (ws.map (fun q => q.1))[i]? = some p.1 := by rw [List.getElem?_map, hi]; rfl
  have h2 : (ws.map (fun q => q.1))[j]? = some q.1 := by rw [List.getElem?_map, hj]; rfl
  have hl := (List.getElem?_eq_some_iff.mp h1).1
  exact (List.getElem?_inj hl hn).mp (by rw [h1, h2, hpq])
theorem va_D.perm {A : Nat → Prop} {ws ws' : va_W} (hD : va_D A ws) (hp : ws.Perm ws') : va_D A ws' := va_D.of_nodup ((hp.map _).nodup hD.nodup) (fun q hq => by
  obtain ⟨k, hk⟩ := List.getElem?_of_mem (hp.mem_iff.mpr hq)
  exact hD.2 k q hk)
theorem va_P.left {D : va_G} {cl : List vw_C} {a b : va_W} {H : Heap} (hP : va_P D cl (a ++ b) H) : va_P D cl a H := fun k q h => hP k q (by rw [List.getElem?_append_left (List.getElem?_eq_some_iff.mp h).1]; exact h)
theorem va_P.right {D : va_G} {cl : List vw_C} {a b : va_W} {H : Heap} (hP : va_P D cl (a ++ b) H) : va_P D cl b H := (hP.perm List.perm_append_comm).left
theorem va_P.both {D : va_G} {cl : List vw_C} {a b : va_W} {H : Heap} (ha : va_P D cl a H) (hb : va_P D cl b H) : va_P D cl (a ++ b) H := fun k q h => by
  rcases List.mem_append.mp (List.mem_of_getElem? h) with h | h
  · obtain ⟨j, hj⟩ := List.getElem?_of_mem h
    exact ha j q hj
  · obtain ⟨j, hj⟩ := List.getElem?_of_mem h
    exact hb j q hj
theorem va_D.left {A : Nat → Prop} {a b : va_W} (hD : va_D A (a ++ b)) : va_D A a := by
  have up : ∀ (k : Nat) (q : Nat × va_E), a[k]? = some q → (a ++ b)[k]? = some q := fun k q h => by rw [List.getElem?_append_left (List.getElem?_eq_some_iff.mp h).1]; exact h
  exact ⟨fun i j p q hi hj hpq => hD.1 i j p q (up i p hi) (up j q hj) hpq, fun k q hk => hD.2 k q (up k q hk)⟩
theorem va_D.right {A : Nat → Prop} {a b : va_W} (hD : va_D A (a ++ b)) : va_D A b := (hD.perm List.perm_append_comm).left
/-- behind a call: the callee's new world, and the rest, which is as it was -/
theorem pjoin {D : va_G} {cl : List vw_C} {A : Nat → Prop} {ws wc wr w1 : va_W} {H H1 : Heap} (hP : va_P D cl ws H) (hD : va_D A ws) (hp : ws.Perm (wc ++ wr)) (hk : ∀ q : Nat, q < H.size → ¬ va_A wc H.size q → H1[q]? = H[q]?) (hF : ∀ q, va_A wc H.size q → A q) (hP1 : va_P D cl w1 H1) (hD1 : va_D (va_A wc H.size) w1) : va_P D cl (w1 ++ wr) H1 ∧ va_D A (w1 ++ wr) := by
  have hP' := hP.perm hp
  have hD' := hD.perm hp
  have apart : ∀ (k : Nat) (q : Nat × va_E), wr[k]? = some q → q.1 < H.size ∧ ¬ va_A wc H.size q.1 := by
    intro k q hq
    have h2 : (wc ++ wr)[wc.length + k]? = some q := by rw [List.getElem?_append_right (by omega), Nat.add_sub_cancel_left]; exact hq
    have hlt := (hP' _ q h2).lt
    refine ⟨hlt, fun hA => ?_⟩
    rcases hA with ⟨j, e, h3⟩ | h3
    · have hj := (List.getElem?_eq_some_iff.mp h3).1
      have h4 : (wc ++ wr)[j]? = some (q.1, e) := by rw [List.getElem?_append_left hj]; exact h3
      have := hD'.1 _ _ q (q.1, e) h2 h4 rfl
      omega
    · omega
  refine ⟨va_P.both hP1 (fun k q h => ?_), va_D.app (hD1.weaken (fun k q hk h => hF q.1 h)) hD'.right (fun i j p q h1 h2 e => ?_)⟩
  · obtain ⟨g1, g2⟩ := apart k q h
    exact (hP'.right k q h).kept (hk q.1 g1 g2)
  · exact (apart j q h2).2 (by rw [← e]; exact hD1.2 i p h1)
/-- blocks of a world, in an order -/
def wcat (f : Nat → va_W) : List Nat → va_W
  | [] => []
  | i :: is => f i ++ wcat f is
theorem wcat_app {f : Nat → va_W} {is js : List Nat} : wcat f (is ++ js) = wcat f is ++ wcat f js := by
  induction is with
  | nil => rfl
  | cons i is ih =>
    show f i ++ wcat f (is ++ js) = (f i ++ wcat f is) ++ wcat f js
    rw [ih, List.append_assoc]
theorem wcat_perm {f : Nat → va_W} {is js : List Nat} (h : is.Perm js) : (wcat f is).Perm (wcat f js) := by
  induction h with
  | nil => exact List.Perm.refl _
  | cons i _ ih => exact List.Perm.append_left _ ih
  | swap i j l => exact List.perm_append_comm_assoc _ _ _
  | trans _ _ ih1 ih2 => exact ih1.trans ih2
def wl (bs : List va_W) (is : List Nat) : va_W := wcat (fun i => bs.getD i []) is
theorem wl_perm {bs : List va_W} {is js iA : List Nat} (h : (is ++ js).isPerm iA = true) : (wl bs iA).Perm (wl bs is ++ wl bs js) := by
  have h1 := (wcat_perm (f := fun i => bs.getD i []) (List.isPerm_iff.mp h)).symm
  rw [wcat_app] at h1
  exact h1
section PERMROWS
variable {p : Program} {l : Launch} {e : Env} {R : Room} {s : State} {m : MethodId} {args : Array Value} {below : List Frame} {meth : Method} {c : Code} {H : Heap} {locs : List Loc} {cells slots mc ms : Nat} {Q : State → Prop}
variable {D : va_G} {cI cC cM : ClassId} {A : Nat → Prop} {own C host : String} {cc bytes : ByteArray} {nL maxL n index : Nat} {mret ret : Option FieldType} {Ts : List Cond} {y : MethodName} {wy : List Cond} {rm : Room} {ws wc wc' wr : va_W} {b pc : Nat} {As rest st : List Value} {ls : Array Slot} {post : va_W → Prop} {r : Int32}
theorem pfree (hD : va_D A wc) (hS : va_S A s.heap H locs) (hA : ∀ q : Nat, s.heap.size ≤ q → A q) : ∀ q, va_A wc H.size q → A q := by
  intro q h
  rcases h with ⟨k, e, h⟩ | h
  · exact hD.2 k (q, e) h
  · exact hA q (Nat.le_trans hS.1 h)
theorem pin (hG : GK D cI cC cM s) (hP : va_P D vwCl wc H) (hD : va_D A wc) (av : List Value) : ∀ U : State, U.heap = H → s.WarmedH U.vm → va_Pc av (PW D cI cC cM wc H.size) av.toArray U := fun U hU hW => ⟨rfl, by rw [hU], by rw [hU]; exact hP, hG.warm hW, hD.weaken fun _ _ _ _ => trivial⟩
theorem precv (hG : GK D cI cC cM s) (hP : va_P D vwCl wc H) (k0 ci : Nat) {q : vw_C} {fs : List Value} (hrec : wc[k0]? = some (b, .inr (ci, fs))) (hq : vwCl[ci]? = some q) (hqc : q.1 = C) : ∃ cell : Cell, H[b]? = some cell ∧ cell.vm.isStatics = false ∧ s.vm.findClass C = some cell.cls := by
  rw [← hqc]; exact va_recv hG.1 hP hq hrec
theorem pVi (hC : Ctx p s m args meth c D cI cC cM A own cc nL mret Ts) (hP : va_P D vwCl ws H) (hD : va_D A ws) (hS : va_S A s.heap H locs) (hM : CI l D cI cC cM y wy rm (.ref b :: As) wc wc' r) (hp : ws.Perm (wc ++ wr)) (hadr : wc'.map (fun q => q.1) = wc.map (fun q => q.1)) (cw : CallW R s args own C index y bytes maxL ret wy rm 0 0 n) (k0 ci : Nat) {q : vw_C} {fs : List Value} (hrec : wc[k0]? = some (b, .inr (ci, fs))) (hq : vwCl[ci]? = some q) (hqc : q.1 = C) (hn : As.length = n) (hsize : ls.size = nL) (hst : st = As.reverse ++ .ref b :: rest) (hW : (rest.map fun v => v.category).sum ≤ 8) (hdg : decode cc pc = .ok (.invokevirtual index, 3)) (hf : cells ≤ R.cells ∧ slots ≤ R.slots)
    (kk : ∀ (H1 : Heap) (locs1 : List Loc), va_P D vwCl (wc' ++ wr) H1 → va_D A (wc' ++ wr) → va_S A s.heap H1 locs1 → W p l e R s m args below meth c H1 locs1 cells slots Q (F0 m (pc + 3) ls (.int r :: rest))) : W p l e R s m args below meth c H locs cells slots Q (F0 m pc ls st) := by
  have hPc := (hP.perm hp).left
  have hDc := (hD.perm hp).left
  have hFc := pfree hDc hS hC.hA
  refine va_calli (va_runV hC.fix (hM H.size) cw ⟨PW.blind, precv hC.gk hPc k0 ci hrec hq hqc, pin hC.gk hPc hDc _⟩ rfl hn hsize hst (lv_room hW) hdg hf) hS (fun q _ h => hFc q h) hFc (fun x u t H1 locs1 ht hvm hw hB hz hk hS1 => ?_)
  subst hw
  rw [ht] at hB
  obtain ⟨h1, h2⟩ := pjoin hP hD hp hk hFc hB ((hDc.self).adr hadr)
  exact kk H1 locs1 h1 h2 hS1
theorem pVid (hC : Ctx p s m args meth c D cI cC cM A own cc nL mret Ts) (hP : va_P D vwCl ws H) (hD : va_D A ws) (hS : va_S A s.heap H locs) (hM : CID l D cI cC cM y wy rm (.ref b :: As) wc wc' r) (hp : ws.Perm (wc ++ wr)) (cw : CallW R s args own C index y bytes maxL ret wy rm 0 0 n) (k0 ci : Nat) {q : vw_C} {fs : List Value} (hrec : wc[k0]? = some (b, .inr (ci, fs))) (hq : vwCl[ci]? = some q) (hqc : q.1 = C) (hn : As.length = n) (hsize : ls.size = nL) (hst : st = As.reverse ++ .ref b :: rest) (hW : (rest.map fun v => v.category).sum ≤ 8) (hdg : decode cc pc = .ok (.invokevirtual index, 3)) (hf : cells ≤ R.cells ∧ slots ≤ R.slots)
    (kk : ∀ (H1 : Heap) (locs1 : List Loc), va_P D vwCl (wc' ++ wr) H1 → va_D A (wc' ++ wr) → va_S A s.heap H1 locs1 → W p l e R s m args below meth c H1 locs1 cells slots Q (F0 m (pc + 3) ls (.int r :: rest))) : W p l e R s m args below meth c H locs cells slots Q (F0 m pc ls st) := by
  have hPc := (hP.perm hp).left
  have hDc := (hD.perm hp).left
  have hFc := pfree hDc hS hC.hA
  refine va_calli (va_runV hC.fix (hM H.size) cw ⟨PW.blind, precv hC.gk hPc k0 ci hrec hq hqc, pin hC.gk hPc hDc _⟩ rfl hn hsize hst (lv_room hW) hdg hf) hS (fun q _ h => hFc q h) hFc (fun x u t H1 locs1 ht hvm hw hB hz hk hS1 => ?_)
  subst hw
  obtain ⟨hB, hB2⟩ := hB
  rw [ht] at hB
  obtain ⟨h1, h2⟩ := pjoin hP hD hp hk hFc hB hB2
  exact kk H1 locs1 h1 h2 hS1
theorem pVv (hC : Ctx p s m args meth c D cI cC cM A own cc nL mret Ts) (hP : va_P D vwCl ws H) (hD : va_D A ws) (hS : va_S A s.heap H locs) (hM : CV l D cI cC cM y wy rm (.ref b :: As) wc wc') (hp : ws.Perm (wc ++ wr)) (hadr : wc'.map (fun q => q.1) = wc.map (fun q => q.1)) (cw : CallW R s args own C index y bytes maxL ret wy rm 0 0 n) (k0 ci : Nat) {q : vw_C} {fs : List Value} (hrec : wc[k0]? = some (b, .inr (ci, fs))) (hq : vwCl[ci]? = some q) (hqc : q.1 = C) (hn : As.length = n) (hsize : ls.size = nL) (hst : st = As.reverse ++ .ref b :: rest) (hW : (rest.map fun v => v.category).sum ≤ 8) (hdg : decode cc pc = .ok (.invokevirtual index, 3)) (hf : cells ≤ R.cells ∧ slots ≤ R.slots)
    (kk : ∀ (H1 : Heap) (locs1 : List Loc), va_P D vwCl (wc' ++ wr) H1 → va_D A (wc' ++ wr) → va_S A s.heap H1 locs1 → W p l e R s m args below meth c H1 locs1 cells slots Q (F0 m (pc + 3) ls rest)) : W p l e R s m args below meth c H locs cells slots Q (F0 m pc ls st) := by
  have hPc := (hP.perm hp).left
  have hDc := (hD.perm hp).left
  have hFc := pfree hDc hS hC.hA
  refine va_callv (va_runV hC.fix (hM H.size) cw ⟨PW.blind, precv hC.gk hPc k0 ci hrec hq hqc, pin hC.gk hPc hDc _⟩ rfl hn hsize hst (lv_room hW) hdg hf) hS (fun q _ h => hFc q h) hFc (fun u t H1 locs1 ht hvm hw hB hz hk hS1 => ?_)
  rw [ht] at hB
  obtain ⟨h1, h2⟩ := pjoin hP hD hp hk hFc hB ((hDc.self).adr hadr)
  exact kk H1 locs1 h1 h2 hS1
theorem pnin (hG : GK D cI cC cM s) (hO : va_AO RX1 s) (hP : va_P D vwCl wc H) (hD : va_D A wc) (av : List Value) : ∀ U : State, U.heap = H → s.WarmedH U.vm → va_Pc av (PN D cI cC cM wc H.size) av.toArray U := fun U hU hW => ⟨rfl, by rw [hU], by rw [hU]; exact hP, ⟨hG.warm hW, va_AO.moved hW.alike hO⟩, hD.weaken fun _ _ _ _ => trivial⟩
theorem pCI (hC : Ctx p s m args meth c D cI cC cM A own cc nL mret Ts) (hO : va_AO RX1 s) (hP : va_P D vwCl ws H) (hD : va_D A ws) (hS : va_S A s.heap H locs) (hM : CN l D cI cC cM y wy rm (.ref b :: As) wc post mc ms) (hp : ws.Perm (wc ++ wr)) (cw : CallB R s args own index y bytes maxL none wy rm mc ms n ∧ y.name = "<init>" ∧ (Cond.instanceMethod y).before args s = true) (hn : As.length = n) (hsize : ls.size = nL) (hst : st = As.reverse ++ .ref b :: rest) (hW : (rest.map fun v => v.category).sum ≤ 8) (hdg : decode cc pc = .ok (.invokespecial index, 3)) (hf : cells + mc ≤ R.cells ∧ slots + ms ≤ R.slots)
    (kk : ∀ (w1 : va_W) (H1 : Heap) (locs1 : List Loc), post w1 → va_P D vwCl (w1 ++ wr) H1 → va_D A (w1 ++ wr) → va_S A s.heap H1 locs1 → W p l e R s m args below meth c H1 locs1 (cells + mc) (slots + ms) Q (F0 m (pc + 3) ls rest)) : W p l e R s m args below meth c H locs cells slots Q (F0 m pc ls st) := by
  have hPc := (hP.perm hp).left
  have hDc := (hD.perm hp).left
  have hFc := pfree hDc hS hC.hA
  refine va_callv (va_runI hC.fix (hM H.size) cw ⟨PN.blind, pnin hC.gk hO hPc hDc _⟩ rfl hn hsize hst (lv_room hW) hdg hf) hS (fun q _ h => hFc q h) hFc (fun u t H1 locs1 ht hvm hw hB hz hk hS1 => ?_)
  obtain ⟨w1, h1, h2, h3⟩ := hB
  rw [ht] at h2
  obtain ⟨g1, g2⟩ := pjoin hP hD hp hk hFc h2 h3
  exact kk w1 H1 locs1 h1 g1 g2 hS1
theorem pCN (hC : Ctx p s m args meth c D cI cC cM A own cc nL mret Ts) (hO : va_AO RX1 s) (hP : va_P D vwCl ws H) (hD : va_D A ws) (hS : va_S A s.heap H locs) (hM : CN l D cI cC cM y wy rm (.ref b :: As) wc post mc ms) (hp : ws.Perm (wc ++ wr)) (cw : va_CN R s args own index y host bytes maxL none wy rm mc ms n ∧ y.name = "<init>" ∧ (Cond.instanceMethod y).before args s = true) (hn : As.length = n) (hsize : ls.size = nL) (hst : st = As.reverse ++ .ref b :: rest) (hW : (rest.map fun v => v.category).sum ≤ 8) (hdg : decode cc pc = .ok (.invokespecial index, 3)) (hf : cells + mc ≤ R.cells ∧ slots + ms ≤ R.slots)
    (kk : ∀ (w1 : va_W) (H1 : Heap) (locs1 : List Loc), post w1 → va_P D vwCl (w1 ++ wr) H1 → va_D A (w1 ++ wr) → va_S A s.heap H1 locs1 → W p l e R s m args below meth c H1 locs1 (cells + mc) (slots + ms) Q (F0 m (pc + 3) ls rest)) : W p l e R s m args below meth c H locs cells slots Q (F0 m pc ls st) := by
  have hPc := (hP.perm hp).left
  have hDc := (hD.perm hp).left
  have hFc := pfree hDc hS hC.hA
  refine va_callv (va_runIN hC.fix (hM H.size) cw ⟨PN.blind, pnin hC.gk hO hPc hDc _⟩ rfl hn hsize hst (lv_room hW) hdg hf) hS (fun q _ h => hFc q h) hFc (fun u t H1 locs1 ht hvm hw hB hz hk hS1 => ?_)
  obtain ⟨w1, h1, h2, h3⟩ := hB
  rw [ht] at h2
  obtain ⟨g1, g2⟩ := pjoin hP hD hp hk hFc h2 h3
  exact kk w1 H1 locs1 h1 g1 g2 hS1
end PERMROWS
