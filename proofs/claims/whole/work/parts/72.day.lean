def drawN (z k : Nat) : Nat := (7919 * z + 6151 * k + 1) * (7919 * z + 6151 * k + 1) % 65521
theorem draw_val {z k : Nat} (hz : z ≤ 9999) (hk : k ≤ 100) : (jlrem (((((7919 : Int64) * (nI z).toInt64) + ((6151 : Int64) * (nI k).toInt64)) + (1 : Int64)) * ((((7919 : Int64) * (nI z).toInt64) + ((6151 : Int64) * (nI k).toInt64)) + (1 : Int64))) (65521 : Int64)).toInt32 = nI (drawN z k) := by
  have e : (((7919 : Int64) * (nI z).toInt64) + ((6151 : Int64) * (nI k).toInt64)) + (1 : Int64) = lN (7919 * z + 6151 * k + 1) := by
    rw [nI_l (by omega), nI_l (by omega), show (7919 : Int64) = lN 7919 from rfl, show (6151 : Int64) = lN 6151 from rfl, show (1 : Int64) = lN 1 from rfl, lN_mul, lN_mul, lN_add, lN_add]
  rw [e, lN_mul]
  have hb : 7919 * z + 6151 * k + 1 < 100000000 := by omega
  have hbb : (7919 * z + 6151 * k + 1) * (7919 * z + 6151 * k + 1) < 10000000000000000 := Nat.mul_lt_mul'' hb hb
  have h2 : jlrem (lN ((7919 * z + 6151 * k + 1) * (7919 * z + 6151 * k + 1))) (65521 : Int64) = lN (drawN z k) := pk_lRem (b := 65521) (by omega) (by omega) (by omega)
  rw [h2, lN_i]
theorem drawN_lt (z k : Nat) : drawN z k < 65521 := Nat.mod_lt _ (by omega)
theorem drawOf_eq {z k : Nat} (hz : z ≤ 9999) (hk : k ≤ 100) : f_X7_drawOf (nI z) (nI k) = some (nI (drawN z k)) := by
  unfold f_X7_drawOf
  rw [draw_val hz hk]
def goS (K WS WH : Nat → Nat) (pa pe wo : Nat) (x : AS) : AS := (spGo K WS WH x.2.1 x.2.2 pa pe wo x.1, x.2.1, x.2.2)
def dayN (K WS WH : Nat → Nat) (sq pa pe wo z : Nat) : Nat → AS → AS
  | 0, x => x
  | n + 1, x => goS K WS WH pa pe wo (acDraw sq pa pe (drawN z n) (dayN K WS WH sq pa pe wo z n x))
theorem acDraw_gone {sq pa pe d : Nat} (x : AS) : (acDraw sq pa pe d x).1.1 = x.1.1 := by
  unfold acDraw
  simp only
  repeat' split
  all_goals rfl
theorem dayN_gone (K WS WH : Nat → Nat) (sq pa pe wo z : Nat) (x : AS) : ∀ n, (dayN K WS WH sq pa pe wo z n x).1.1 = x.1.1 + n
  | 0 => rfl
  | n + 1 => by
    show (acDraw sq pa pe (drawN z n) (dayN K WS WH sq pa pe wo z n x)).1.1 + 1 = _
    rw [acDraw_gone, dayN_gone K WS WH sq pa pe wo z x n]; omega
theorem acDraw_V {sq pa pe wo dd : Nat} {x : AS} (hv : VS sq pa pe wo x) (hpa : 0 < pa) (hpe : 0 < pe) : VS sq pa pe wo (acDraw sq pa pe dd x) := by
  obtain ⟨a, Sq, Un⟩ := x
  have hv' : VA sq pa pe wo Sq Un a := hv
  have hp : dd / 8 % pe < pe := Nat.mod_lt _ hpe
  have hu : dd / 64 % pa < pa := Nat.mod_lt _ hpa
  have hq : dd / 64 % pe < pe := Nat.mod_lt _ hpe
  unfold acDraw
  simp only
  split
  · split
    · rename_i h; exact hv'.take hu h
    · exact hv
  · split
    · split
      · rename_i h; exact (hv'.share hp hq h).st (Nat.lt_of_le_of_lt Nat.and_le_left hv'.2.1)
      · exact hv
    · split
      · split
        · exact hv'.give
        · exact hv
      · split
        · split
          · exact hv'.mend
          · exact hv
        · split
          · rename_i h; exact hv'.walk hp (toWalk_lt h (hv'.1.2.2.2.2.2.1 _ hp))
          · exact hv
theorem goS_V {sq pa pe wo : Nat} {K WS WH : Nat → Nat} {x : AS} (hv : VS sq pa pe wo x) : VS sq pa pe wo (goS K WS WH pa pe wo x) := VA.go hv
theorem dayN_V {sq pa pe wo z : Nat} {K WS WH : Nat → Nat} {x : AS} (hv : VS sq pa pe wo x) (hpa : 0 < pa) (hpe : 0 < pe) : ∀ n, VS sq pa pe wo (dayN K WS WH sq pa pe wo z n x)
  | 0 => hv
  | n + 1 => goS_V (acDraw_V (dayN_V hv hpa hpe n) hpa hpe)
theorem dayL_c {α : Type} {sq pa pe wo z n : Nat} {K WS WH : Nat → Nat} {x : AS} {g t s d : Int32} {qh qw qs qu pk ws wh : Nat → Int32} (hc : CS pa pe x g t s d qh qw qs qu) (hv : VS sq pa pe wo x) (hk : CK pa K pk) (hw : CP wo WS WH ws wh) (hpa : 0 < pa) (hpe : 0 < pe) (hz : z ≤ 9999) (hn : n ≤ 60) (hg : x.1.1 < 80000) (k : Int32 → Int32 → Int32 → Int32 → Int32 → (Nat → Int32) → (Nat → Int32) → (Nat → Int32) → (Nat → Int32) → Option (Int32 × Int32 × Int32 × Int32 × Int32 × (Nat → Int32) × (Nat → Int32) × (Nat → Int32) × (Nat → Int32))) :
    ∃ g' t' s' d' h' w' q' u', f_X7_day_L47 (nI n) (nI z) (nI sq) (nI pa) (nI pe) (nI wo) pk ws wh k 20000 (nI 0) g t s d qh qw qs qu = k (nI n) g' t' s' d' h' w' q' u' ∧ CS pa pe (dayN K WS WH sq pa pe wo z n x) g' t' s' d' h' w' q' u' := by
  obtain ⟨y, e1, e2⟩ := loopI (fun nf (y : Int32 × Int32 × Int32 × Int32 × (Nat → Int32) × (Nat → Int32) × (Nat → Int32) × (Nat → Int32)) v => f_X7_day_L47 (nI n) (nI z) (nI sq) (nI pa) (nI pe) (nI wo) pk ws wh k nf v y.1 y.2.1 y.2.2.1 y.2.2.2.1 y.2.2.2.2.1 y.2.2.2.2.2.1 y.2.2.2.2.2.2.1 y.2.2.2.2.2.2.2) (fun y v => k v y.1 y.2.1 y.2.2.1 y.2.2.2.1 y.2.2.2.2.1 y.2.2.2.2.2.1 y.2.2.2.2.2.2.1 y.2.2.2.2.2.2.2) n (fun i y => CS pa pe (dayN K WS WH sq pa pe wo z i x) y.1 y.2.1 y.2.2.1 y.2.2.2.1 y.2.2.2.2.1 y.2.2.2.2.2.1 y.2.2.2.2.2.2.1 y.2.2.2.2.2.2.2) (fun nf y hy => by
      show f_X7_day_L47 _ _ _ _ _ _ _ _ _ _ (nf + 1) _ _ _ _ _ _ _ _ _ = _
      rw [f_X7_day_L47_s, if_pos (lle (Nat.le_refl _) (by omega))]) (fun nf i y hi hy => by
      have hvi := dayN_V (z := z) (K := K) (WS := WS) (WH := WH) hv hpa hpe i
      have hgi := dayN_gone K WS WH sq pa pe wo z x i
      obtain ⟨s1, w1, q1, u1, f1, f2, f3⟩ := act_c (dd := drawN z i) hy hvi hpa hpe (drawN_lt z i)
      have hg1 := acDraw_gone (sq := sq) (pa := pa) (pe := pe) (d := drawN z i) (dayN K WS WH sq pa pe wo z i x)
      obtain ⟨g2, t2, s2, d2, h2, w2, f4, f5⟩ := goOn_c (n := 1) (K := K) f2 f3 hk hw (by omega) (by omega)
      refine ⟨(g2, t2, s2, d2, h2, w2, q1, u1), f5, ?_⟩
      show f_X7_day_L47 _ _ _ _ _ _ _ _ _ _ (nf + 1) _ _ _ _ _ _ _ _ _ = f_X7_day_L47 _ _ _ _ _ _ _ _ _ _ nf _ _ _ _ _ _ _ _ _
      rw [f_X7_day_L47_s, if_neg (nle hi (by omega)), drawOf_eq hz (by omega), ob_some, f1, ob_some]
      simp only
      rw [show f_X1_goOn _ _ _ _ _ _ _ _ _ _ _ _ _ _ (1 : Int32) = _ from f4, ob_some, nI_n1]) n 0 20000 (g, t, s, d, qh, qw, qs, qu) (by omega) (by omega) hc
  exact ⟨_, _, _, _, _, _, _, _, e2, e1⟩
theorem dayL_m {sq pa pe wo z n : Nat} {K WS WH : Nat → Nat} {x : AS} {o m : Nat → Int32} (hc : MS pa pe x o) (hv : VS sq pa pe wo x) (hm : MP sq pa pe wo K WS WH m) (hpa : 0 < pa) (hpe : 0 < pe) (hz : z ≤ 9999) (hn : n ≤ 60) (hg : x.1.1 < 80000) (k : Int32 → (Nat → Int32) → Option (Int32 × (Nat → Int32))) :
    ∃ o', f_X8_day_L39 (nI n) m (nI z) k 20000 (nI 0) o = k (nI n) o' ∧ MS pa pe (dayN K WS WH sq pa pe wo z n x) o' := by
  obtain ⟨y, e1, e2⟩ := loopI (fun nf (y : Nat → Int32) v => f_X8_day_L39 (nI n) m (nI z) k nf v y) (fun y v => k v y) n (fun i y => MS pa pe (dayN K WS WH sq pa pe wo z i x) y) (fun nf y hy => by
      show f_X8_day_L39 _ _ _ _ (nf + 1) _ _ = _
      rw [f_X8_day_L39_s, if_pos (lle (Nat.le_refl _) (by omega))]) (fun nf i y hi hy => by
      have hvi := dayN_V (z := z) (K := K) (WS := WS) (WH := WH) hv hpa hpe i
      have hgi := dayN_gone K WS WH sq pa pe wo z x i
      obtain ⟨o1, f1, f2⟩ := draws_m (dd := drawN z i) hy hvi hm hpa hpe (drawN_lt z i)
      have hg1 := acDraw_gone (sq := sq) (pa := pa) (pe := pe) (d := drawN z i) (dayN K WS WH sq pa pe wo z i x)
      obtain ⟨o2, f3, f4⟩ := MA.goes f2 (acDraw_V hvi hpa hpe) hm (by omega)
      refine ⟨o2, f4, ?_⟩
      show f_X8_day_L39 _ _ _ _ (nf + 1) _ _ = f_X8_day_L39 _ _ _ _ nf _ _
      rw [f_X8_day_L39_s, if_neg (nle hi (by omega)), draw_val hz (by omega), f1, ob_some, f3, ob_some, nI_n1]) n 0 20000 o (by omega) (by omega) hc
  exact ⟨y, e2, e1⟩
