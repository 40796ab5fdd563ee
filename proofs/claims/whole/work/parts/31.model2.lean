def m_X7_arePlaying  (w : pv_MT) : Option (Int32) :=
  if (w.1 3) < 0 then (some 0) else (if (w.1 4) < 0 then (some 0) else (some 1))
abbrev r_X7_arePlaying : Room := { frames := 0, cells := 0, slots := 0, locals := 0 }
set_option maxHeartbeats 4000000 in
set_option maxRecDepth 100000 in
theorem c_X7_arePlaying (l : Launch) (E : pv_E) (a0 a1 a2 a3 a4 a5 a6 a7 a8 a9 a10 : Nat)  (w : pv_MT) (F : Int32) (hq : m_X7_arePlaying w = some F) : pv_RO l E yX7_arePlaying wsX7_arePlaying r_X7_arePlaying (pv_wM E a0 a1 a2 a3 a4 a5 a6 a7 a8 a9 a10 w) [.ref a0] (some (.int F)) := by
  intro sz
  refine pv_mk (by decide) rfl (Nat.le_of_ble_eq_true rfl) ?_
  intro p e s m args below meth c A hx hb hr hml hown hts hlk hAe hP hD0 hA hE hS ls hl
  have hown : s.vm.findClass RX7 = some m.cls := hown
  have hK := hE.1
  have hD := hD0
  have fl_9 : (Cond.fieldLink RX7 9 "ProvinceCardsModel" "m" "[I").before args s = true := hts _ (by decide +kernel)
  have i_RX7 : ∀ w ∈ wsX70, w ∈ wsX7_arePlaying := by decide +kernel
  have hl : lv_has ls 1 [(0, .ref a0)] := hl
  suffices M0 : ∀ (locs : List Loc), va_S A s.heap s.heap locs → W p l e r_X7_arePlaying s m args below meth c s.heap locs 0 0 (MQ below (pv_Ro (some (.int F))) args s 0 0 A) (F0 m 0 ls []) from M0 [] hS
  intro locs hS
  refine lv_aload_n (pc := 0) hx hb dX7_arePlaying_0 rfl (lv_at hl 0 rfl) ?_
  refine va_get (pc := 1) (D := E.1) (ci := 5) (v := .ref a1) (C := RX7) (T := TX7) (N := 17) hx hb hts i_RX7 hown hK hP 0 rfl rfl 0 (Nat.le_of_ble_eq_true rfl) fl_9 (fun _ h9 => h9) rfl dX7_arePlaying_1 ?_
  refine lv_iconst (pc := 4) (v := 3) hx hb dX7_arePlaying_4 (by decide) ?_
  refine va_iald (pc := 5) (D := E.1) hx hb hK hP 1 0 rfl rfl (by decide : ¬ ((3 : Int32) < 0 ∨ 31 ≤ (3 : Int32).toNatClampNeg)) dX7_arePlaying_5 ?_
  refine W.eq (g2 := F0 m 6 ls [.int (w.1 3)]) rfl ?_
  refine lv_if_lt (pc := 6) (tgt := 22) hx hb dX7_arePlaying_6 (by decide) (fun c_1 => ?_) (fun c_1 => ?_)
  · have hq := pv_pos c_1 hq
    refine lv_iconst (pc := 22) (v := 0) hx hb dX7_arePlaying_22 (by decide) ?_
    exact pv_rzRO hx hb hr hlk hS (Option.some.inj hq) rfl dX7_arePlaying_23
  · have hq := pv_neg c_1 hq
    refine lv_aload_n (pc := 9) hx hb dX7_arePlaying_9 rfl (lv_at hl 0 rfl) ?_
    refine va_get (pc := 10) (D := E.1) (ci := 5) (v := .ref a1) (C := RX7) (T := TX7) (N := 17) hx hb hts i_RX7 hown hK hP 0 rfl rfl 0 (Nat.le_of_ble_eq_true rfl) fl_9 (fun _ h9 => h9) rfl dX7_arePlaying_10 ?_
    refine lv_iconst (pc := 13) (v := 4) hx hb dX7_arePlaying_13 (by decide) ?_
    refine va_iald (pc := 14) (D := E.1) hx hb hK hP 1 0 rfl rfl (by decide : ¬ ((4 : Int32) < 0 ∨ 31 ≤ (4 : Int32).toNatClampNeg)) dX7_arePlaying_14 ?_
    refine W.eq (g2 := F0 m 15 ls [.int (w.1 4)]) rfl ?_
    refine lv_if_lt (pc := 15) (tgt := 22) hx hb dX7_arePlaying_15 (by decide) (fun c_2 => ?_) (fun c_2 => ?_)
    · have hq := pv_pos c_2 hq
      refine lv_iconst (pc := 22) (v := 0) hx hb dX7_arePlaying_22 (by decide) ?_
      exact pv_rzRO hx hb hr hlk hS (Option.some.inj hq) rfl dX7_arePlaying_23
    · have hq := pv_neg c_2 hq
      refine lv_iconst (pc := 18) (v := 1) hx hb dX7_arePlaying_18 (by decide) ?_
      refine lv_goto (pc := 19) (tgt := 23) hx hb dX7_arePlaying_19 (by decide) ?_
      exact pv_rzRO hx hb hr hlk hS (Option.some.inj hq) rfl dX7_arePlaying_23
def m_X7_plays_198 (k_35 : Int32 → Int32 → Int32 → pv_MT → Option (Int32 × pv_MT)) (x3 : Int32) (x7 : Int32) (y0 : Int32) (y1 : Int32) (w : pv_MT) : Option (Int32 × pv_MT) :=
  k_35 x7 (y0 + y1) (x3 + 1) w
def m_X7_plays_106 (k_35 : Int32 → Int32 → Int32 → pv_MT → Option (Int32 × pv_MT)) (x1 : Int32) (x2 : Int32) (x3 : Int32) (x4 : Int32) (x5 : Int32) (x6 : Int32) (y0 : Int32) (w : pv_MT) : Option (Int32 × pv_MT) :=
  pv_gd x1 2 (pv_gd x1 2 (pv_gd x4 2 (pv_gd x4 2 (pv_gd ((4 * x3) + x1) 16 (pv_gd ((4 * x3) + x4) 16 (pv_gd ((4 * x3) + 2) 16 (pv_gd ((4 * x3) + 3) 16 (if y0 = 0 then (m_X7_plays_198 k_35 x3 y0 x2 1 (w.1, w.2.1, w.2.2.1, w.2.2.2.1, w.2.2.2.2.1, (upd (upd (upd (upd w.2.2.2.2.2.1 ((4 * x3) + x1).toNatClampNeg x5) ((4 * x3) + x4).toNatClampNeg x6) ((4 * x3) + 2).toNatClampNeg x1) ((4 * x3) + 3).toNatClampNeg y0), (upd (upd w.2.2.2.2.2.2.1 x1.toNatClampNeg ((w.2.2.2.2.2.2.1 x1.toNatClampNeg) &&& (((1 : Int32) <<< (x5 &&& 31)) ^^^ (-1)))) x4.toNatClampNeg (((upd w.2.2.2.2.2.2.1 x1.toNatClampNeg ((w.2.2.2.2.2.2.1 x1.toNatClampNeg) &&& (((1 : Int32) <<< (x5 &&& 31)) ^^^ (-1)))) x4.toNatClampNeg) &&& (((1 : Int32) <<< (x6 &&& 31)) ^^^ (-1)))), w.2.2.2.2.2.2.2.1, w.2.2.2.2.2.2.2.2.1, w.2.2.2.2.2.2.2.2.2.1, w.2.2.2.2.2.2.2.2.2.2.1, w.2.2.2.2.2.2.2.2.2.2.2.1, w.2.2.2.2.2.2.2.2.2.2.2.2.1, w.2.2.2.2.2.2.2.2.2.2.2.2.2.1, w.2.2.2.2.2.2.2.2.2.2.2.2.2.2.1, w.2.2.2.2.2.2.2.2.2.2.2.2.2.2.2.1, w.2.2.2.2.2.2.2.2.2.2.2.2.2.2.2.2)) else (m_X7_plays_198 k_35 x3 y0 x2 0 (w.1, w.2.1, w.2.2.1, w.2.2.2.1, w.2.2.2.2.1, (upd (upd (upd (upd w.2.2.2.2.2.1 ((4 * x3) + x1).toNatClampNeg x5) ((4 * x3) + x4).toNatClampNeg x6) ((4 * x3) + 2).toNatClampNeg x1) ((4 * x3) + 3).toNatClampNeg y0), (upd (upd w.2.2.2.2.2.2.1 x1.toNatClampNeg ((w.2.2.2.2.2.2.1 x1.toNatClampNeg) &&& (((1 : Int32) <<< (x5 &&& 31)) ^^^ (-1)))) x4.toNatClampNeg (((upd w.2.2.2.2.2.2.1 x1.toNatClampNeg ((w.2.2.2.2.2.2.1 x1.toNatClampNeg) &&& (((1 : Int32) <<< (x5 &&& 31)) ^^^ (-1)))) x4.toNatClampNeg) &&& (((1 : Int32) <<< (x6 &&& 31)) ^^^ (-1)))), w.2.2.2.2.2.2.2.1, w.2.2.2.2.2.2.2.2.1, w.2.2.2.2.2.2.2.2.2.1, w.2.2.2.2.2.2.2.2.2.2.1, w.2.2.2.2.2.2.2.2.2.2.2.1, w.2.2.2.2.2.2.2.2.2.2.2.2.1, w.2.2.2.2.2.2.2.2.2.2.2.2.2.1, w.2.2.2.2.2.2.2.2.2.2.2.2.2.2.1, w.2.2.2.2.2.2.2.2.2.2.2.2.2.2.2.1, w.2.2.2.2.2.2.2.2.2.2.2.2.2.2.2.2))))))))))
def m_X7_plays_35 : Nat → Int32 → Int32 → Int32 → pv_MT → Option (Int32 × pv_MT)
  | 0 => fun _ _ _ _ => none
  | n + 1 => fun x1 x2 x3 w =>
    if 4 ≤ x3 then (some (x2, w)) else (pv_gd (3 + x1) 31 (pv_gd x1 2 (Option.bind (m_X7_ledBy (w.1 (3 + x1).toNatClampNeg) (w.2.2.2.2.2.2.1 x1.toNatClampNeg) w) fun u_6 => (pv_gd (3 + (1 - x1)) 31 (pv_gd (1 - x1) 2 (Option.bind (m_X7_followedBy (w.1 (3 + (1 - x1)).toNatClampNeg) (w.2.2.2.2.2.2.1 (1 - x1).toNatClampNeg) u_6 w) fun u_9 => (Option.bind (m_X7_doesBeat u_9 u_6 w) fun u_10 => (if u_10 = 0 then (m_X7_plays_106 (m_X7_plays_35 n) x1 x2 x3 (1 - x1) u_6 u_9 x1 w) else (m_X7_plays_106 (m_X7_plays_35 n) x1 x2 x3 (1 - x1) u_6 u_9 (1 - x1) w)))))))))
def m_X7_plays  (w : pv_MT) : Option (Int32 × pv_MT) :=
  Option.bind (m_X7_handOf 0 w) fun u_1 => (Option.bind (m_X7_handOf 1 (w.1, w.2.1, w.2.2.1, w.2.2.2.1, w.2.2.2.2.1, w.2.2.2.2.2.1, (upd w.2.2.2.2.2.2.1 0 u_1), w.2.2.2.2.2.2.2.1, w.2.2.2.2.2.2.2.2.1, w.2.2.2.2.2.2.2.2.2.1, w.2.2.2.2.2.2.2.2.2.2.1, w.2.2.2.2.2.2.2.2.2.2.2.1, w.2.2.2.2.2.2.2.2.2.2.2.2.1, w.2.2.2.2.2.2.2.2.2.2.2.2.2.1, w.2.2.2.2.2.2.2.2.2.2.2.2.2.2.1, w.2.2.2.2.2.2.2.2.2.2.2.2.2.2.2.1, w.2.2.2.2.2.2.2.2.2.2.2.2.2.2.2.2)) fun u_2 => (m_X7_plays_35 300 (pv_rem (w.1 0) 2) 0 0 (w.1, w.2.1, w.2.2.1, w.2.2.2.1, w.2.2.2.2.1, w.2.2.2.2.2.1, (upd (upd w.2.2.2.2.2.2.1 0 u_1) 1 u_2), w.2.2.2.2.2.2.2.1, w.2.2.2.2.2.2.2.2.1, w.2.2.2.2.2.2.2.2.2.1, w.2.2.2.2.2.2.2.2.2.2.1, w.2.2.2.2.2.2.2.2.2.2.2.1, w.2.2.2.2.2.2.2.2.2.2.2.2.1, w.2.2.2.2.2.2.2.2.2.2.2.2.2.1, w.2.2.2.2.2.2.2.2.2.2.2.2.2.2.1, w.2.2.2.2.2.2.2.2.2.2.2.2.2.2.2.1, w.2.2.2.2.2.2.2.2.2.2.2.2.2.2.2.2)))
abbrev r_X7_plays : Room := { frames := 4, cells := 0, slots := 0, locals := 94 }
set_option maxHeartbeats 4000000 in
set_option maxRecDepth 100000 in
theorem c_X7_plays (l : Launch) (E : pv_E) (a0 a1 a2 a3 a4 a5 a6 a7 a8 a9 a10 : Nat)  (w0 : pv_MT) (F : Int32 × pv_MT) (hq : m_X7_plays w0 = some F) : pv_RW l E yX7_plays wsX7_plays r_X7_plays (pv_wM E a0 a1 a2 a3 a4 a5 a6 a7 a8 a9 a10 w0) [.ref a0] (some (.int F.1)) (pv_wM E a0 a1 a2 a3 a4 a5 a6 a7 a8 a9 a10 F.2) := by
  intro sz
  refine pv_mk (by decide) rfl (Nat.le_of_ble_eq_true rfl) ?_
  intro p e s m args below meth c A hx hb hr hml hown hts hlk hAe hP hD0 hA hE hS ls hl
  have hown : s.vm.findClass RX7 = some m.cls := hown
  have hK := hE.1
  have hD : ∀ w : pv_MT, va_D A (pv_wM E a0 a1 a2 a3 a4 a5 a6 a7 a8 a9 a10 w) := fun w => pv_Dm (ws := pv_wM E a0 a1 a2 a3 a4 a5 a6 a7 a8 a9 a10 w0) (ws' := pv_wM E a0 a1 a2 a3 a4 a5 a6 a7 a8 a9 a10 w) rfl hD0
  have hP : va_P E.1 vwCl (pv_wM E a0 a1 a2 a3 a4 a5 a6 a7 a8 a9 a10 w0) s.heap := hP
  have fl_25 : (Cond.fieldLink RX7 25 "ProvinceCardsModel" "hands" "[I").before args s = true := hts _ (by decide +kernel)
  have fl_9 : (Cond.fieldLink RX7 9 "ProvinceCardsModel" "m" "[I").before args s = true := hts _ (by decide +kernel)
  have fl_22 : (Cond.fieldLink RX7 22 "ProvinceCardsModel" "played" "[I").before args s = true := hts _ (by decide +kernel)
  have i_RX7 : ∀ w ∈ wsX70, w ∈ wsX7_plays := by decide +kernel
  have hl : lv_has ls 8 [(0, .ref a0)] := hl
  have B_198 : ∀ (k_35 : Int32 → Int32 → Int32 → pv_MT → Option (Int32 × pv_MT)), (∀ (x1 : Int32) (x2 : Int32) (x3 : Int32) (w : pv_MT) (H : Heap) (locs : List Loc) (ls : Array Slot), va_P E.1 vwCl (pv_wM E a0 a1 a2 a3 a4 a5 a6 a7 a8 a9 a10 w) H → va_S A s.heap H locs → lv_has ls 8 [(0, .ref a0), (1, .int x1), (2, .int x2), (3, .int x3)] → k_35 x1 x2 x3 w = some F → W p l e r_X7_plays s m args below meth c H locs 0 0 (MQ below (pv_Rw E (pv_wM E a0 a1 a2 a3 a4 a5 a6 a7 a8 a9 a10 w0) sz (some (.int F.1)) ((fun w : pv_MT => pv_wM E a0 a1 a2 a3 a4 a5 a6 a7 a8 a9 a10 w) F.2)) args s 0 0 A) (F0 m 35 ls [])) → ∀ (x3 : Int32) (x7 : Int32) (y0 : Int32) (y1 : Int32) (w : pv_MT) (H : Heap) (locs : List Loc) (ls : Array Slot), va_P E.1 vwCl (pv_wM E a0 a1 a2 a3 a4 a5 a6 a7 a8 a9 a10 w) H → va_S A s.heap H locs → lv_has ls 8 [(0, .ref a0), (3, .int x3), (7, .int x7)] → m_X7_plays_198 k_35 x3 x7 y0 y1 w = some F → W p l e r_X7_plays s m args below meth c H locs 0 0 (MQ below (pv_Rw E (pv_wM E a0 a1 a2 a3 a4 a5 a6 a7 a8 a9 a10 w0) sz (some (.int F.1)) ((fun w : pv_MT => pv_wM E a0 a1 a2 a3 a4 a5 a6 a7 a8 a9 a10 w) F.2)) args s 0 0 A) (F0 m 198 ls [.int y1, .int y0]) := by
    intro k_35 hk_35
    intro x3 x7 y0 y1 w H locs ls hP hS hl hq
    refine lv_iadd (pc := 198) hx hb dX7_plays_198 ?_
    refine lv_istore_n (pc := 199) (lv' := [(2, .int (y0 + y1)), (0, .ref a0), (3, .int x3), (7, .int x7)]) hx hb dX7_plays_199 rfl hl (Nat.le_of_ble_eq_true rfl) rfl (fun ls hl => ?_)
    refine lv_iload (pc := 200) hx hb dX7_plays_200 (lv_at hl 3 rfl) ?_
    refine lv_istore_n (pc := 202) (lv' := [(1, .int x7), (2, .int (y0 + y1)), (0, .ref a0), (3, .int x3), (7, .int x7)]) hx hb dX7_plays_202 rfl hl (Nat.le_of_ble_eq_true rfl) rfl (fun ls hl => ?_)
    refine lv_iinc (pc := 203) (v := (x3 + 1)) (lv' := [(3, .int (x3 + 1)), (1, .int x7), (2, .int (y0 + y1)), (0, .ref a0), (7, .int x7)]) hx hb dX7_plays_203 hl (k := 3) rfl rfl (Nat.le_of_ble_eq_true rfl) rfl (fun ls hl => ?_)
    refine lv_goto (pc := 206) (tgt := 35) hx hb dX7_plays_206 (by decide) ?_
    exact hk_35 x7 (y0 + y1) (x3 + 1) w H locs ls hP hS (lv_sub hl [3, 1, 2, 0] rfl) hq
  have B_106 : ∀ (k_35 : Int32 → Int32 → Int32 → pv_MT → Option (Int32 × pv_MT)), (∀ (x1 : Int32) (x2 : Int32) (x3 : Int32) (w : pv_MT) (H : Heap) (locs : List Loc) (ls : Array Slot), va_P E.1 vwCl (pv_wM E a0 a1 a2 a3 a4 a5 a6 a7 a8 a9 a10 w) H → va_S A s.heap H locs → lv_has ls 8 [(0, .ref a0), (1, .int x1), (2, .int x2), (3, .int x3)] → k_35 x1 x2 x3 w = some F → W p l e r_X7_plays s m args below meth c H locs 0 0 (MQ below (pv_Rw E (pv_wM E a0 a1 a2 a3 a4 a5 a6 a7 a8 a9 a10 w0) sz (some (.int F.1)) ((fun w : pv_MT => pv_wM E a0 a1 a2 a3 a4 a5 a6 a7 a8 a9 a10 w) F.2)) args s 0 0 A) (F0 m 35 ls [])) → ∀ (x1 : Int32) (x2 : Int32) (x3 : Int32) (x4 : Int32) (x5 : Int32) (x6 : Int32) (y0 : Int32) (w : pv_MT) (H : Heap) (locs : List Loc) (ls : Array Slot), va_P E.1 vwCl (pv_wM E a0 a1 a2 a3 a4 a5 a6 a7 a8 a9 a10 w) H → va_S A s.heap H locs → lv_has ls 8 [(0, .ref a0), (1, .int x1), (2, .int x2), (3, .int x3), (4, .int x4), (5, .int x5), (6, .int x6)] → m_X7_plays_106 k_35 x1 x2 x3 x4 x5 x6 y0 w = some F → W p l e r_X7_plays s m args below meth c H locs 0 0 (MQ below (pv_Rw E (pv_wM E a0 a1 a2 a3 a4 a5 a6 a7 a8 a9 a10 w0) sz (some (.int F.1)) ((fun w : pv_MT => pv_wM E a0 a1 a2 a3 a4 a5 a6 a7 a8 a9 a10 w) F.2)) args s 0 0 A) (F0 m 106 ls [.int y0]) := by
    intro k_35 hk_35
    intro x1 x2 x3 x4 x5 x6 y0 w H locs ls hP hS hl hq
    refine lv_istore (pc := 106) (lv' := [(7, .int y0), (0, .ref a0), (1, .int x1), (2, .int x2), (3, .int x3), (4, .int x4), (5, .int x5), (6, .int x6)]) hx hb dX7_plays_106 hl (Nat.le_of_ble_eq_true rfl) rfl (fun ls hl => ?_)
    refine lv_aload_n (pc := 108) hx hb dX7_plays_108 rfl (lv_at hl 1 rfl) ?_
    refine va_get (pc := 109) (D := E.1) (ci := 5) (v := .ref a6) (C := RX7) (T := TX7) (N := 17) hx hb hts i_RX7 hown hK hP 0 rfl rfl 6 (Nat.le_of_ble_eq_true rfl) fl_25 (fun _ h9 => h9) rfl dX7_plays_109 ?_
    refine lv_iload_n (pc := 112) hx hb dX7_plays_112 rfl (lv_at hl 2 rfl) ?_
    refine lv_dup2_11 (pc := 113) hx hb dX7_plays_113 rfl rfl ?_
    obtain ⟨h_12, hq⟩ := pv_gd_some hq
    refine va_iald (pc := 114) (D := E.1) hx hb hK hP 6 0 rfl rfl h_12 dX7_plays_114 ?_
    refine lv_iconst (pc := 115) (v := 1) hx hb dX7_plays_115 (by decide) ?_
    refine lv_iload (pc := 116) hx hb dX7_plays_116 (lv_at hl 6 rfl) ?_
    refine lv_ishl (pc := 118) hx hb dX7_plays_118 ?_
    refine lv_iconst (pc := 119) (v := (-1)) hx hb dX7_plays_119 (by decide) ?_
    refine lv_ixor (pc := 120) hx hb dX7_plays_120 ?_
    refine lv_iand (pc := 121) hx hb dX7_plays_121 ?_
    obtain ⟨h_13, hq⟩ := pv_gd_some hq
    refine va_iast (pc := 122) (D := E.1) hx hb hK hP (hD w) hS 6 0 rfl rfl h_13 dX7_plays_122 (fun H locs hP _ hS => ?_)
    have hP : va_P E.1 vwCl (pv_wM E a0 a1 a2 a3 a4 a5 a6 a7 a8 a9 a10 (w.1, w.2.1, w.2.2.1, w.2.2.2.1, w.2.2.2.2.1, w.2.2.2.2.2.1, (upd w.2.2.2.2.2.2.1 x1.toNatClampNeg ((w.2.2.2.2.2.2.1 x1.toNatClampNeg) &&& (((1 : Int32) <<< (x5 &&& 31)) ^^^ (-1)))), w.2.2.2.2.2.2.2.1, w.2.2.2.2.2.2.2.2.1, w.2.2.2.2.2.2.2.2.2.1, w.2.2.2.2.2.2.2.2.2.2.1, w.2.2.2.2.2.2.2.2.2.2.2.1, w.2.2.2.2.2.2.2.2.2.2.2.2.1, w.2.2.2.2.2.2.2.2.2.2.2.2.2.1, w.2.2.2.2.2.2.2.2.2.2.2.2.2.2.1, w.2.2.2.2.2.2.2.2.2.2.2.2.2.2.2.1, w.2.2.2.2.2.2.2.2.2.2.2.2.2.2.2.2)) H := hP
    refine lv_aload_n (pc := 123) hx hb dX7_plays_123 rfl (lv_at hl 1 rfl) ?_
    refine va_get (pc := 124) (D := E.1) (ci := 5) (v := .ref a6) (C := RX7) (T := TX7) (N := 17) hx hb hts i_RX7 hown hK hP 0 rfl rfl 6 (Nat.le_of_ble_eq_true rfl) fl_25 (fun _ h9 => h9) rfl dX7_plays_124 ?_
    refine lv_iload (pc := 127) hx hb dX7_plays_127 (lv_at hl 5 rfl) ?_
    refine lv_dup2_11 (pc := 129) hx hb dX7_plays_129 rfl rfl ?_
    obtain ⟨h_14, hq⟩ := pv_gd_some hq
    refine va_iald (pc := 130) (D := E.1) hx hb hK hP 6 0 rfl rfl h_14 dX7_plays_130 ?_
    refine lv_iconst (pc := 131) (v := 1) hx hb dX7_plays_131 (by decide) ?_
    refine lv_iload (pc := 132) hx hb dX7_plays_132 (lv_at hl 7 rfl) ?_
    refine lv_ishl (pc := 134) hx hb dX7_plays_134 ?_
    refine lv_iconst (pc := 135) (v := (-1)) hx hb dX7_plays_135 (by decide) ?_
    refine lv_ixor (pc := 136) hx hb dX7_plays_136 ?_
    refine lv_iand (pc := 137) hx hb dX7_plays_137 ?_
    obtain ⟨h_15, hq⟩ := pv_gd_some hq
    refine va_iast (pc := 138) (D := E.1) hx hb hK hP (hD (w.1, w.2.1, w.2.2.1, w.2.2.2.1, w.2.2.2.2.1, w.2.2.2.2.2.1, (upd w.2.2.2.2.2.2.1 x1.toNatClampNeg ((w.2.2.2.2.2.2.1 x1.toNatClampNeg) &&& (((1 : Int32) <<< (x5 &&& 31)) ^^^ (-1)))), w.2.2.2.2.2.2.2.1, w.2.2.2.2.2.2.2.2.1, w.2.2.2.2.2.2.2.2.2.1, w.2.2.2.2.2.2.2.2.2.2.1, w.2.2.2.2.2.2.2.2.2.2.2.1, w.2.2.2.2.2.2.2.2.2.2.2.2.1, w.2.2.2.2.2.2.2.2.2.2.2.2.2.1, w.2.2.2.2.2.2.2.2.2.2.2.2.2.2.1, w.2.2.2.2.2.2.2.2.2.2.2.2.2.2.2.1, w.2.2.2.2.2.2.2.2.2.2.2.2.2.2.2.2)) hS 6 0 rfl rfl h_15 dX7_plays_138 (fun H locs hP _ hS => ?_)
    have hP : va_P E.1 vwCl (pv_wM E a0 a1 a2 a3 a4 a5 a6 a7 a8 a9 a10 (w.1, w.2.1, w.2.2.1, w.2.2.2.1, w.2.2.2.2.1, w.2.2.2.2.2.1, (upd (upd w.2.2.2.2.2.2.1 x1.toNatClampNeg ((w.2.2.2.2.2.2.1 x1.toNatClampNeg) &&& (((1 : Int32) <<< (x5 &&& 31)) ^^^ (-1)))) x4.toNatClampNeg (((upd w.2.2.2.2.2.2.1 x1.toNatClampNeg ((w.2.2.2.2.2.2.1 x1.toNatClampNeg) &&& (((1 : Int32) <<< (x5 &&& 31)) ^^^ (-1)))) x4.toNatClampNeg) &&& (((1 : Int32) <<< (x6 &&& 31)) ^^^ (-1)))), w.2.2.2.2.2.2.2.1, w.2.2.2.2.2.2.2.2.1, w.2.2.2.2.2.2.2.2.2.1, w.2.2.2.2.2.2.2.2.2.2.1, w.2.2.2.2.2.2.2.2.2.2.2.1, w.2.2.2.2.2.2.2.2.2.2.2.2.1, w.2.2.2.2.2.2.2.2.2.2.2.2.2.1, w.2.2.2.2.2.2.2.2.2.2.2.2.2.2.1, w.2.2.2.2.2.2.2.2.2.2.2.2.2.2.2.1, w.2.2.2.2.2.2.2.2.2.2.2.2.2.2.2.2)) H := hP
    refine lv_aload_n (pc := 139) hx hb dX7_plays_139 rfl (lv_at hl 1 rfl) ?_
    refine va_get (pc := 140) (D := E.1) (ci := 5) (v := .ref a5) (C := RX7) (T := TX7) (N := 17) hx hb hts i_RX7 hown hK hP 0 rfl rfl 5 (Nat.le_of_ble_eq_true rfl) fl_22 (fun _ h9 => h9) rfl dX7_plays_140 ?_
    refine lv_iconst (pc := 143) (v := 4) hx hb dX7_plays_143 (by decide) ?_
    refine lv_iload_n (pc := 144) hx hb dX7_plays_144 rfl (lv_at hl 4 rfl) ?_
    refine lv_imul (pc := 145) hx hb dX7_plays_145 ?_
    refine lv_iload_n (pc := 146) hx hb dX7_plays_146 rfl (lv_at hl 2 rfl) ?_
    refine lv_iadd (pc := 147) hx hb dX7_plays_147 ?_
    refine lv_iload (pc := 148) hx hb dX7_plays_148 (lv_at hl 6 rfl) ?_
    obtain ⟨h_16, hq⟩ := pv_gd_some hq
    refine va_iast (pc := 150) (D := E.1) hx hb hK hP (hD (w.1, w.2.1, w.2.2.1, w.2.2.2.1, w.2.2.2.2.1, w.2.2.2.2.2.1, (upd (upd w.2.2.2.2.2.2.1 x1.toNatClampNeg ((w.2.2.2.2.2.2.1 x1.toNatClampNeg) &&& (((1 : Int32) <<< (x5 &&& 31)) ^^^ (-1)))) x4.toNatClampNeg (((upd w.2.2.2.2.2.2.1 x1.toNatClampNeg ((w.2.2.2.2.2.2.1 x1.toNatClampNeg) &&& (((1 : Int32) <<< (x5 &&& 31)) ^^^ (-1)))) x4.toNatClampNeg) &&& (((1 : Int32) <<< (x6 &&& 31)) ^^^ (-1)))), w.2.2.2.2.2.2.2.1, w.2.2.2.2.2.2.2.2.1, w.2.2.2.2.2.2.2.2.2.1, w.2.2.2.2.2.2.2.2.2.2.1, w.2.2.2.2.2.2.2.2.2.2.2.1, w.2.2.2.2.2.2.2.2.2.2.2.2.1, w.2.2.2.2.2.2.2.2.2.2.2.2.2.1, w.2.2.2.2.2.2.2.2.2.2.2.2.2.2.1, w.2.2.2.2.2.2.2.2.2.2.2.2.2.2.2.1, w.2.2.2.2.2.2.2.2.2.2.2.2.2.2.2.2)) hS 5 0 rfl rfl h_16 dX7_plays_150 (fun H locs hP _ hS => ?_)
    have hP : va_P E.1 vwCl (pv_wM E a0 a1 a2 a3 a4 a5 a6 a7 a8 a9 a10 (w.1, w.2.1, w.2.2.1, w.2.2.2.1, w.2.2.2.2.1, (upd w.2.2.2.2.2.1 ((4 * x3) + x1).toNatClampNeg x5), (upd (upd w.2.2.2.2.2.2.1 x1.toNatClampNeg ((w.2.2.2.2.2.2.1 x1.toNatClampNeg) &&& (((1 : Int32) <<< (x5 &&& 31)) ^^^ (-1)))) x4.toNatClampNeg (((upd w.2.2.2.2.2.2.1 x1.toNatClampNeg ((w.2.2.2.2.2.2.1 x1.toNatClampNeg) &&& (((1 : Int32) <<< (x5 &&& 31)) ^^^ (-1)))) x4.toNatClampNeg) &&& (((1 : Int32) <<< (x6 &&& 31)) ^^^ (-1)))), w.2.2.2.2.2.2.2.1, w.2.2.2.2.2.2.2.2.1, w.2.2.2.2.2.2.2.2.2.1, w.2.2.2.2.2.2.2.2.2.2.1, w.2.2.2.2.2.2.2.2.2.2.2.1, w.2.2.2.2.2.2.2.2.2.2.2.2.1, w.2.2.2.2.2.2.2.2.2.2.2.2.2.1, w.2.2.2.2.2.2.2.2.2.2.2.2.2.2.1, w.2.2.2.2.2.2.2.2.2.2.2.2.2.2.2.1, w.2.2.2.2.2.2.2.2.2.2.2.2.2.2.2.2)) H := hP
    refine lv_aload_n (pc := 151) hx hb dX7_plays_151 rfl (lv_at hl 1 rfl) ?_
    refine va_get (pc := 152) (D := E.1) (ci := 5) (v := .ref a5) (C := RX7) (T := TX7) (N := 17) hx hb hts i_RX7 hown hK hP 0 rfl rfl 5 (Nat.le_of_ble_eq_true rfl) fl_22 (fun _ h9 => h9) rfl dX7_plays_152 ?_
    refine lv_iconst (pc := 155) (v := 4) hx hb dX7_plays_155 (by decide) ?_
    refine lv_iload_n (pc := 156) hx hb dX7_plays_156 rfl (lv_at hl 4 rfl) ?_
    refine lv_imul (pc := 157) hx hb dX7_plays_157 ?_
    refine lv_iload (pc := 158) hx hb dX7_plays_158 (lv_at hl 5 rfl) ?_
    refine lv_iadd (pc := 160) hx hb dX7_plays_160 ?_
    refine lv_iload (pc := 161) hx hb dX7_plays_161 (lv_at hl 7 rfl) ?_
    obtain ⟨h_17, hq⟩ := pv_gd_some hq
    refine va_iast (pc := 163) (D := E.1) hx hb hK hP (hD (w.1, w.2.1, w.2.2.1, w.2.2.2.1, w.2.2.2.2.1, (upd w.2.2.2.2.2.1 ((4 * x3) + x1).toNatClampNeg x5), (upd (upd w.2.2.2.2.2.2.1 x1.toNatClampNeg ((w.2.2.2.2.2.2.1 x1.toNatClampNeg) &&& (((1 : Int32) <<< (x5 &&& 31)) ^^^ (-1)))) x4.toNatClampNeg (((upd w.2.2.2.2.2.2.1 x1.toNatClampNeg ((w.2.2.2.2.2.2.1 x1.toNatClampNeg) &&& (((1 : Int32) <<< (x5 &&& 31)) ^^^ (-1)))) x4.toNatClampNeg) &&& (((1 : Int32) <<< (x6 &&& 31)) ^^^ (-1)))), w.2.2.2.2.2.2.2.1, w.2.2.2.2.2.2.2.2.1, w.2.2.2.2.2.2.2.2.2.1, w.2.2.2.2.2.2.2.2.2.2.1, w.2.2.2.2.2.2.2.2.2.2.2.1, w.2.2.2.2.2.2.2.2.2.2.2.2.1, w.2.2.2.2.2.2.2.2.2.2.2.2.2.1, w.2.2.2.2.2.2.2.2.2.2.2.2.2.2.1, w.2.2.2.2.2.2.2.2.2.2.2.2.2.2.2.1, w.2.2.2.2.2.2.2.2.2.2.2.2.2.2.2.2)) hS 5 0 rfl rfl h_17 dX7_plays_163 (fun H locs hP _ hS => ?_)
    have hP : va_P E.1 vwCl (pv_wM E a0 a1 a2 a3 a4 a5 a6 a7 a8 a9 a10 (w.1, w.2.1, w.2.2.1, w.2.2.2.1, w.2.2.2.2.1, (upd (upd w.2.2.2.2.2.1 ((4 * x3) + x1).toNatClampNeg x5) ((4 * x3) + x4).toNatClampNeg x6), (upd (upd w.2.2.2.2.2.2.1 x1.toNatClampNeg ((w.2.2.2.2.2.2.1 x1.toNatClampNeg) &&& (((1 : Int32) <<< (x5 &&& 31)) ^^^ (-1)))) x4.toNatClampNeg (((upd w.2.2.2.2.2.2.1 x1.toNatClampNeg ((w.2.2.2.2.2.2.1 x1.toNatClampNeg) &&& (((1 : Int32) <<< (x5 &&& 31)) ^^^ (-1)))) x4.toNatClampNeg) &&& (((1 : Int32) <<< (x6 &&& 31)) ^^^ (-1)))), w.2.2.2.2.2.2.2.1, w.2.2.2.2.2.2.2.2.1, w.2.2.2.2.2.2.2.2.2.1, w.2.2.2.2.2.2.2.2.2.2.1, w.2.2.2.2.2.2.2.2.2.2.2.1, w.2.2.2.2.2.2.2.2.2.2.2.2.1, w.2.2.2.2.2.2.2.2.2.2.2.2.2.1, w.2.2.2.2.2.2.2.2.2.2.2.2.2.2.1, w.2.2.2.2.2.2.2.2.2.2.2.2.2.2.2.1, w.2.2.2.2.2.2.2.2.2.2.2.2.2.2.2.2)) H := hP
    refine lv_aload_n (pc := 164) hx hb dX7_plays_164 rfl (lv_at hl 1 rfl) ?_
    refine va_get (pc := 165) (D := E.1) (ci := 5) (v := .ref a5) (C := RX7) (T := TX7) (N := 17) hx hb hts i_RX7 hown hK hP 0 rfl rfl 5 (Nat.le_of_ble_eq_true rfl) fl_22 (fun _ h9 => h9) rfl dX7_plays_165 ?_
    refine lv_iconst (pc := 168) (v := 4) hx hb dX7_plays_168 (by decide) ?_
    refine lv_iload_n (pc := 169) hx hb dX7_plays_169 rfl (lv_at hl 4 rfl) ?_
    refine lv_imul (pc := 170) hx hb dX7_plays_170 ?_
    refine lv_iconst (pc := 171) (v := 2) hx hb dX7_plays_171 (by decide) ?_
    refine lv_iadd (pc := 172) hx hb dX7_plays_172 ?_
    refine lv_iload_n (pc := 173) hx hb dX7_plays_173 rfl (lv_at hl 2 rfl) ?_
    obtain ⟨h_18, hq⟩ := pv_gd_some hq
    refine va_iast (pc := 174) (D := E.1) hx hb hK hP (hD (w.1, w.2.1, w.2.2.1, w.2.2.2.1, w.2.2.2.2.1, (upd (upd w.2.2.2.2.2.1 ((4 * x3) + x1).toNatClampNeg x5) ((4 * x3) + x4).toNatClampNeg x6), (upd (upd w.2.2.2.2.2.2.1 x1.toNatClampNeg ((w.2.2.2.2.2.2.1 x1.toNatClampNeg) &&& (((1 : Int32) <<< (x5 &&& 31)) ^^^ (-1)))) x4.toNatClampNeg (((upd w.2.2.2.2.2.2.1 x1.toNatClampNeg ((w.2.2.2.2.2.2.1 x1.toNatClampNeg) &&& (((1 : Int32) <<< (x5 &&& 31)) ^^^ (-1)))) x4.toNatClampNeg) &&& (((1 : Int32) <<< (x6 &&& 31)) ^^^ (-1)))), w.2.2.2.2.2.2.2.1, w.2.2.2.2.2.2.2.2.1, w.2.2.2.2.2.2.2.2.2.1, w.2.2.2.2.2.2.2.2.2.2.1, w.2.2.2.2.2.2.2.2.2.2.2.1, w.2.2.2.2.2.2.2.2.2.2.2.2.1, w.2.2.2.2.2.2.2.2.2.2.2.2.2.1, w.2.2.2.2.2.2.2.2.2.2.2.2.2.2.1, w.2.2.2.2.2.2.2.2.2.2.2.2.2.2.2.1, w.2.2.2.2.2.2.2.2.2.2.2.2.2.2.2.2)) hS 5 0 rfl rfl h_18 dX7_plays_174 (fun H locs hP _ hS => ?_)
    have hP : va_P E.1 vwCl (pv_wM E a0 a1 a2 a3 a4 a5 a6 a7 a8 a9 a10 (w.1, w.2.1, w.2.2.1, w.2.2.2.1, w.2.2.2.2.1, (upd (upd (upd w.2.2.2.2.2.1 ((4 * x3) + x1).toNatClampNeg x5) ((4 * x3) + x4).toNatClampNeg x6) ((4 * x3) + 2).toNatClampNeg x1), (upd (upd w.2.2.2.2.2.2.1 x1.toNatClampNeg ((w.2.2.2.2.2.2.1 x1.toNatClampNeg) &&& (((1 : Int32) <<< (x5 &&& 31)) ^^^ (-1)))) x4.toNatClampNeg (((upd w.2.2.2.2.2.2.1 x1.toNatClampNeg ((w.2.2.2.2.2.2.1 x1.toNatClampNeg) &&& (((1 : Int32) <<< (x5 &&& 31)) ^^^ (-1)))) x4.toNatClampNeg) &&& (((1 : Int32) <<< (x6 &&& 31)) ^^^ (-1)))), w.2.2.2.2.2.2.2.1, w.2.2.2.2.2.2.2.2.1, w.2.2.2.2.2.2.2.2.2.1, w.2.2.2.2.2.2.2.2.2.2.1, w.2.2.2.2.2.2.2.2.2.2.2.1, w.2.2.2.2.2.2.2.2.2.2.2.2.1, w.2.2.2.2.2.2.2.2.2.2.2.2.2.1, w.2.2.2.2.2.2.2.2.2.2.2.2.2.2.1, w.2.2.2.2.2.2.2.2.2.2.2.2.2.2.2.1, w.2.2.2.2.2.2.2.2.2.2.2.2.2.2.2.2)) H := hP
    refine lv_aload_n (pc := 175) hx hb dX7_plays_175 rfl (lv_at hl 1 rfl) ?_
    refine va_get (pc := 176) (D := E.1) (ci := 5) (v := .ref a5) (C := RX7) (T := TX7) (N := 17) hx hb hts i_RX7 hown hK hP 0 rfl rfl 5 (Nat.le_of_ble_eq_true rfl) fl_22 (fun _ h9 => h9) rfl dX7_plays_176 ?_
    refine lv_iconst (pc := 179) (v := 4) hx hb dX7_plays_179 (by decide) ?_
    refine lv_iload_n (pc := 180) hx hb dX7_plays_180 rfl (lv_at hl 4 rfl) ?_
    refine lv_imul (pc := 181) hx hb dX7_plays_181 ?_
    refine lv_iconst (pc := 182) (v := 3) hx hb dX7_plays_182 (by decide) ?_
    refine lv_iadd (pc := 183) hx hb dX7_plays_183 ?_
    refine lv_iload (pc := 184) hx hb dX7_plays_184 (lv_at hl 0 rfl) ?_
    obtain ⟨h_19, hq⟩ := pv_gd_some hq
    refine va_iast (pc := 186) (D := E.1) hx hb hK hP (hD (w.1, w.2.1, w.2.2.1, w.2.2.2.1, w.2.2.2.2.1, (upd (upd (upd w.2.2.2.2.2.1 ((4 * x3) + x1).toNatClampNeg x5) ((4 * x3) + x4).toNatClampNeg x6) ((4 * x3) + 2).toNatClampNeg x1), (upd (upd w.2.2.2.2.2.2.1 x1.toNatClampNeg ((w.2.2.2.2.2.2.1 x1.toNatClampNeg) &&& (((1 : Int32) <<< (x5 &&& 31)) ^^^ (-1)))) x4.toNatClampNeg (((upd w.2.2.2.2.2.2.1 x1.toNatClampNeg ((w.2.2.2.2.2.2.1 x1.toNatClampNeg) &&& (((1 : Int32) <<< (x5 &&& 31)) ^^^ (-1)))) x4.toNatClampNeg) &&& (((1 : Int32) <<< (x6 &&& 31)) ^^^ (-1)))), w.2.2.2.2.2.2.2.1, w.2.2.2.2.2.2.2.2.1, w.2.2.2.2.2.2.2.2.2.1, w.2.2.2.2.2.2.2.2.2.2.1, w.2.2.2.2.2.2.2.2.2.2.2.1, w.2.2.2.2.2.2.2.2.2.2.2.2.1, w.2.2.2.2.2.2.2.2.2.2.2.2.2.1, w.2.2.2.2.2.2.2.2.2.2.2.2.2.2.1, w.2.2.2.2.2.2.2.2.2.2.2.2.2.2.2.1, w.2.2.2.2.2.2.2.2.2.2.2.2.2.2.2.2)) hS 5 0 rfl rfl h_19 dX7_plays_186 (fun H locs hP _ hS => ?_)
    have hP : va_P E.1 vwCl (pv_wM E a0 a1 a2 a3 a4 a5 a6 a7 a8 a9 a10 (w.1, w.2.1, w.2.2.1, w.2.2.2.1, w.2.2.2.2.1, (upd (upd (upd (upd w.2.2.2.2.2.1 ((4 * x3) + x1).toNatClampNeg x5) ((4 * x3) + x4).toNatClampNeg x6) ((4 * x3) + 2).toNatClampNeg x1) ((4 * x3) + 3).toNatClampNeg y0), (upd (upd w.2.2.2.2.2.2.1 x1.toNatClampNeg ((w.2.2.2.2.2.2.1 x1.toNatClampNeg) &&& (((1 : Int32) <<< (x5 &&& 31)) ^^^ (-1)))) x4.toNatClampNeg (((upd w.2.2.2.2.2.2.1 x1.toNatClampNeg ((w.2.2.2.2.2.2.1 x1.toNatClampNeg) &&& (((1 : Int32) <<< (x5 &&& 31)) ^^^ (-1)))) x4.toNatClampNeg) &&& (((1 : Int32) <<< (x6 &&& 31)) ^^^ (-1)))), w.2.2.2.2.2.2.2.1, w.2.2.2.2.2.2.2.2.1, w.2.2.2.2.2.2.2.2.2.1, w.2.2.2.2.2.2.2.2.2.2.1, w.2.2.2.2.2.2.2.2.2.2.2.1, w.2.2.2.2.2.2.2.2.2.2.2.2.1, w.2.2.2.2.2.2.2.2.2.2.2.2.2.1, w.2.2.2.2.2.2.2.2.2.2.2.2.2.2.1, w.2.2.2.2.2.2.2.2.2.2.2.2.2.2.2.1, w.2.2.2.2.2.2.2.2.2.2.2.2.2.2.2.2)) H := hP
    refine lv_iload_n (pc := 187) hx hb dX7_plays_187 rfl (lv_at hl 3 rfl) ?_
    refine lv_iload (pc := 188) hx hb dX7_plays_188 (lv_at hl 0 rfl) ?_
    refine lv_if_ne (pc := 190) (tgt := 197) hx hb dX7_plays_190 (by decide) (fun c_20 => ?_) (fun c_20 => ?_)
    · have hq := pv_neg c_20 hq
      refine lv_iconst (pc := 197) (v := 0) hx hb dX7_plays_197 (by decide) ?_
      exact B_198 k_35 hk_35 x3 y0 x2 0 (w.1, w.2.1, w.2.2.1, w.2.2.2.1, w.2.2.2.2.1, (upd (upd (upd (upd w.2.2.2.2.2.1 ((4 * x3) + x1).toNatClampNeg x5) ((4 * x3) + x4).toNatClampNeg x6) ((4 * x3) + 2).toNatClampNeg x1) ((4 * x3) + 3).toNatClampNeg y0), (upd (upd w.2.2.2.2.2.2.1 x1.toNatClampNeg ((w.2.2.2.2.2.2.1 x1.toNatClampNeg) &&& (((1 : Int32) <<< (x5 &&& 31)) ^^^ (-1)))) x4.toNatClampNeg (((upd w.2.2.2.2.2.2.1 x1.toNatClampNeg ((w.2.2.2.2.2.2.1 x1.toNatClampNeg) &&& (((1 : Int32) <<< (x5 &&& 31)) ^^^ (-1)))) x4.toNatClampNeg) &&& (((1 : Int32) <<< (x6 &&& 31)) ^^^ (-1)))), w.2.2.2.2.2.2.2.1, w.2.2.2.2.2.2.2.2.1, w.2.2.2.2.2.2.2.2.2.1, w.2.2.2.2.2.2.2.2.2.2.1, w.2.2.2.2.2.2.2.2.2.2.2.1, w.2.2.2.2.2.2.2.2.2.2.2.2.1, w.2.2.2.2.2.2.2.2.2.2.2.2.2.1, w.2.2.2.2.2.2.2.2.2.2.2.2.2.2.1, w.2.2.2.2.2.2.2.2.2.2.2.2.2.2.2.1, w.2.2.2.2.2.2.2.2.2.2.2.2.2.2.2.2) H locs ls hP hS (lv_sub hl [1, 4, 0] rfl) hq
    · have hq := pv_pos c_20 hq
      refine lv_iconst (pc := 193) (v := 1) hx hb dX7_plays_193 (by decide) ?_
      refine lv_goto (pc := 194) (tgt := 198) hx hb dX7_plays_194 (by decide) ?_
      exact B_198 k_35 hk_35 x3 y0 x2 1 (w.1, w.2.1, w.2.2.1, w.2.2.2.1, w.2.2.2.2.1, (upd (upd (upd (upd w.2.2.2.2.2.1 ((4 * x3) + x1).toNatClampNeg x5) ((4 * x3) + x4).toNatClampNeg x6) ((4 * x3) + 2).toNatClampNeg x1) ((4 * x3) + 3).toNatClampNeg y0), (upd (upd w.2.2.2.2.2.2.1 x1.toNatClampNeg ((w.2.2.2.2.2.2.1 x1.toNatClampNeg) &&& (((1 : Int32) <<< (x5 &&& 31)) ^^^ (-1)))) x4.toNatClampNeg (((upd w.2.2.2.2.2.2.1 x1.toNatClampNeg ((w.2.2.2.2.2.2.1 x1.toNatClampNeg) &&& (((1 : Int32) <<< (x5 &&& 31)) ^^^ (-1)))) x4.toNatClampNeg) &&& (((1 : Int32) <<< (x6 &&& 31)) ^^^ (-1)))), w.2.2.2.2.2.2.2.1, w.2.2.2.2.2.2.2.2.1, w.2.2.2.2.2.2.2.2.2.1, w.2.2.2.2.2.2.2.2.2.2.1, w.2.2.2.2.2.2.2.2.2.2.2.1, w.2.2.2.2.2.2.2.2.2.2.2.2.1, w.2.2.2.2.2.2.2.2.2.2.2.2.2.1, w.2.2.2.2.2.2.2.2.2.2.2.2.2.2.1, w.2.2.2.2.2.2.2.2.2.2.2.2.2.2.2.1, w.2.2.2.2.2.2.2.2.2.2.2.2.2.2.2.2) H locs ls hP hS (lv_sub hl [1, 4, 0] rfl) hq
  have L_35 : ∀ n : Nat, ∀ (x1 : Int32) (x2 : Int32) (x3 : Int32) (w : pv_MT) (H : Heap) (locs : List Loc) (ls : Array Slot), va_P E.1 vwCl (pv_wM E a0 a1 a2 a3 a4 a5 a6 a7 a8 a9 a10 w) H → va_S A s.heap H locs → lv_has ls 8 [(0, .ref a0), (1, .int x1), (2, .int x2), (3, .int x3)] → m_X7_plays_35 n x1 x2 x3 w = some F → W p l e r_X7_plays s m args below meth c H locs 0 0 (MQ below (pv_Rw E (pv_wM E a0 a1 a2 a3 a4 a5 a6 a7 a8 a9 a10 w0) sz (some (.int F.1)) ((fun w : pv_MT => pv_wM E a0 a1 a2 a3 a4 a5 a6 a7 a8 a9 a10 w) F.2)) args s 0 0 A) (F0 m 35 ls []) := by
    intro n
    induction n with
    | zero =>
      intro x1 x2 x3 w H locs ls hP hS hl hq
      exact (pv_no hq).elim
    | succ n ih =>
      intro x1 x2 x3 w H locs ls hP hS hl hq
      refine lv_iload_n (pc := 35) hx hb dX7_plays_35 rfl (lv_at hl 3 rfl) ?_
      refine lv_iconst (pc := 36) (v := 4) hx hb dX7_plays_36 (by decide) ?_
      refine lv_icmp_ge (pc := 37) (tgt := 209) hx hb dX7_plays_37 (by decide) (fun c_3 => ?_) (fun c_3 => ?_)
      · have hq := pv_pos c_3 hq
        refine lv_iload_n (pc := 209) hx hb dX7_plays_209 rfl (lv_at hl 2 rfl) ?_
        exact pv_riRW (w := fun w : pv_MT => pv_wM E a0 a1 a2 a3 a4 a5 a6 a7 a8 a9 a10 w) hx hb hr hlk hAe hS hP (Option.some.inj hq) dX7_plays_210
      · have hq := pv_neg c_3 hq
        refine lv_iconst (pc := 40) (v := 1) hx hb dX7_plays_40 (by decide) ?_
        refine lv_iload_n (pc := 41) hx hb dX7_plays_41 rfl (lv_at hl 1 rfl) ?_
        refine lv_isub (pc := 42) hx hb dX7_plays_42 ?_
        refine lv_istore (pc := 43) (lv' := [(4, .int (1 - x1)), (0, .ref a0), (1, .int x1), (2, .int x2), (3, .int x3)]) hx hb dX7_plays_43 hl (Nat.le_of_ble_eq_true rfl) rfl (fun ls hl => ?_)
        refine lv_aload_n (pc := 45) hx hb dX7_plays_45 rfl (lv_at hl 1 rfl) ?_
        refine lv_aload_n (pc := 46) hx hb dX7_plays_46 rfl (lv_at hl 1 rfl) ?_
        refine va_get (pc := 47) (D := E.1) (ci := 5) (v := .ref a1) (C := RX7) (T := TX7) (N := 17) hx hb hts i_RX7 hown hK hP 0 rfl rfl 0 (Nat.le_of_ble_eq_true rfl) fl_9 (fun _ h9 => h9) rfl dX7_plays_47 ?_
        refine lv_iconst (pc := 50) (v := 3) hx hb dX7_plays_50 (by decide) ?_
        refine lv_iload_n (pc := 51) hx hb dX7_plays_51 rfl (lv_at hl 2 rfl) ?_
        refine lv_iadd (pc := 52) hx hb dX7_plays_52 ?_
        obtain ⟨h_4, hq⟩ := pv_gd_some hq
        refine va_iald (pc := 53) (D := E.1) hx hb hK hP 1 0 rfl rfl h_4 dX7_plays_53 ?_
        refine lv_aload_n (pc := 54) hx hb dX7_plays_54 rfl (lv_at hl 1 rfl) ?_
        refine va_get (pc := 55) (D := E.1) (ci := 5) (v := .ref a6) (C := RX7) (T := TX7) (N := 17) hx hb hts i_RX7 hown hK hP 0 rfl rfl 6 (Nat.le_of_ble_eq_true rfl) fl_25 (fun _ h9 => h9) rfl dX7_plays_55 ?_
        refine lv_iload_n (pc := 58) hx hb dX7_plays_58 rfl (lv_at hl 2 rfl) ?_
        obtain ⟨h_5, hq⟩ := pv_gd_some hq
        refine va_iald (pc := 59) (D := E.1) hx hb hK hP 6 0 rfl rfl h_5 dX7_plays_59 ?_
        obtain ⟨u_6, hu_6, hq⟩ := pv_bind hq
        refine pv_vROf (pc := 60) (rest := []) (st1 := [.int u_6]) (ws := pv_wM E a0 a1 a2 a3 a4 a5 a6 a7 a8 a9 a10 w) [.int (w.1 (3 + x1).toNatClampNeg), .int (w.2.2.2.2.2.2.1 x1.toNatClampNeg)] ⟨hx, hb, hml, hown, hts⟩ hE hA hS hP (hD w) (c_X7_ledBy l E a0 a1 a2 a3 a4 a5 a6 a7 a8 a9 a10 (w.1 (3 + x1).toNatClampNeg) (w.2.2.2.2.2.2.1 x1.toNatClampNeg) w u_6 hu_6) (cwV 2 hts gX7_plays_X7_ledBy rfl rfl rfl (by decide +kernel) ⟨(Nat.le_of_ble_eq_true rfl), (Nat.le_of_ble_eq_true rfl)⟩) (va_recv hK hP (ci := 5) (q0 := 0) rfl rfl) rfl hl.1 rfl rfl (Nat.le_of_ble_eq_true rfl) dX7_plays_60 ⟨Nat.zero_le _, Nat.zero_le _⟩ (fun locs hS => ?_)
        refine lv_istore (pc := 63) (lv' := [(5, .int u_6), (4, .int (1 - x1)), (0, .ref a0), (1, .int x1), (2, .int x2), (3, .int x3)]) hx hb dX7_plays_63 hl (Nat.le_of_ble_eq_true rfl) rfl (fun ls hl => ?_)
        refine lv_aload_n (pc := 65) hx hb dX7_plays_65 rfl (lv_at hl 2 rfl) ?_
        refine lv_aload_n (pc := 66) hx hb dX7_plays_66 rfl (lv_at hl 2 rfl) ?_
        refine va_get (pc := 67) (D := E.1) (ci := 5) (v := .ref a1) (C := RX7) (T := TX7) (N := 17) hx hb hts i_RX7 hown hK hP 0 rfl rfl 0 (Nat.le_of_ble_eq_true rfl) fl_9 (fun _ h9 => h9) rfl dX7_plays_67 ?_
        refine lv_iconst (pc := 70) (v := 3) hx hb dX7_plays_70 (by decide) ?_
        refine lv_iload (pc := 71) hx hb dX7_plays_71 (lv_at hl 1 rfl) ?_
        refine lv_iadd (pc := 73) hx hb dX7_plays_73 ?_
        obtain ⟨h_7, hq⟩ := pv_gd_some hq
        refine va_iald (pc := 74) (D := E.1) hx hb hK hP 1 0 rfl rfl h_7 dX7_plays_74 ?_
        refine lv_aload_n (pc := 75) hx hb dX7_plays_75 rfl (lv_at hl 2 rfl) ?_
        refine va_get (pc := 76) (D := E.1) (ci := 5) (v := .ref a6) (C := RX7) (T := TX7) (N := 17) hx hb hts i_RX7 hown hK hP 0 rfl rfl 6 (Nat.le_of_ble_eq_true rfl) fl_25 (fun _ h9 => h9) rfl dX7_plays_76 ?_
        refine lv_iload (pc := 79) hx hb dX7_plays_79 (lv_at hl 1 rfl) ?_
        obtain ⟨h_8, hq⟩ := pv_gd_some hq
        refine va_iald (pc := 81) (D := E.1) hx hb hK hP 6 0 rfl rfl h_8 dX7_plays_81 ?_
        refine lv_iload (pc := 82) hx hb dX7_plays_82 (lv_at hl 0 rfl) ?_
        obtain ⟨u_9, hu_9, hq⟩ := pv_bind hq
        refine pv_vROf (pc := 84) (rest := []) (st1 := [.int u_9]) (ws := pv_wM E a0 a1 a2 a3 a4 a5 a6 a7 a8 a9 a10 w) [.int (w.1 (3 + (1 - x1)).toNatClampNeg), .int (w.2.2.2.2.2.2.1 (1 - x1).toNatClampNeg), .int u_6] ⟨hx, hb, hml, hown, hts⟩ hE hA hS hP (hD w) (c_X7_followedBy l E a0 a1 a2 a3 a4 a5 a6 a7 a8 a9 a10 (w.1 (3 + (1 - x1)).toNatClampNeg) (w.2.2.2.2.2.2.1 (1 - x1).toNatClampNeg) u_6 w u_9 hu_9) (cwV 3 hts gX7_plays_X7_followedBy rfl rfl rfl (by decide +kernel) ⟨(Nat.le_of_ble_eq_true rfl), (Nat.le_of_ble_eq_true rfl)⟩) (va_recv hK hP (ci := 5) (q0 := 0) rfl rfl) rfl hl.1 rfl rfl (Nat.le_of_ble_eq_true rfl) dX7_plays_84 ⟨Nat.zero_le _, Nat.zero_le _⟩ (fun locs hS => ?_)
        refine lv_istore (pc := 87) (lv' := [(6, .int u_9), (5, .int u_6), (4, .int (1 - x1)), (0, .ref a0), (1, .int x1), (2, .int x2), (3, .int x3)]) hx hb dX7_plays_87 hl (Nat.le_of_ble_eq_true rfl) rfl (fun ls hl => ?_)
        refine lv_aload_n (pc := 89) hx hb dX7_plays_89 rfl (lv_at hl 3 rfl) ?_
        refine lv_iload (pc := 90) hx hb dX7_plays_90 (lv_at hl 0 rfl) ?_
        refine lv_iload (pc := 92) hx hb dX7_plays_92 (lv_at hl 1 rfl) ?_
        obtain ⟨u_10, hu_10, hq⟩ := pv_bind hq
        refine pv_vROf (pc := 94) (rest := []) (st1 := [.int u_10]) (ws := pv_wM E a0 a1 a2 a3 a4 a5 a6 a7 a8 a9 a10 w) [.int u_9, .int u_6] ⟨hx, hb, hml, hown, hts⟩ hE hA hS hP (hD w) (c_X7_doesBeat l E a0 a1 a2 a3 a4 a5 a6 a7 a8 a9 a10 u_9 u_6 w u_10 hu_10) (cwV 2 hts gX7_plays_X7_doesBeat rfl rfl rfl (by decide +kernel) ⟨(Nat.le_of_ble_eq_true rfl), (Nat.le_of_ble_eq_true rfl)⟩) (va_recv hK hP (ci := 5) (q0 := 0) rfl rfl) rfl hl.1 rfl rfl (Nat.le_of_ble_eq_true rfl) dX7_plays_94 ⟨Nat.zero_le _, Nat.zero_le _⟩ (fun locs hS => ?_)
        refine lv_if_eq (pc := 97) (tgt := 105) hx hb dX7_plays_97 (by decide) (fun c_11 => ?_) (fun c_11 => ?_)
        · have hq := pv_pos c_11 hq
          refine lv_iload_n (pc := 105) hx hb dX7_plays_105 rfl (lv_at hl 4 rfl) ?_
          exact B_106 (m_X7_plays_35 n) ih x1 x2 x3 (1 - x1) u_6 u_9 x1 w H locs ls hP hS (lv_sub hl [3, 4, 5, 6, 2, 1, 0] rfl) hq
        · have hq := pv_neg c_11 hq
          refine lv_iload (pc := 100) hx hb dX7_plays_100 (lv_at hl 2 rfl) ?_
          refine lv_goto (pc := 102) (tgt := 106) hx hb dX7_plays_102 (by decide) ?_
          exact B_106 (m_X7_plays_35 n) ih x1 x2 x3 (1 - x1) u_6 u_9 (1 - x1) w H locs ls hP hS (lv_sub hl [3, 4, 5, 6, 2, 1, 0] rfl) hq
  suffices M0 : ∀ (H : Heap) (locs : List Loc), va_P E.1 vwCl (pv_wM E a0 a1 a2 a3 a4 a5 a6 a7 a8 a9 a10 w0) H → va_S A s.heap H locs → W p l e r_X7_plays s m args below meth c H locs 0 0 (MQ below (pv_Rw E (pv_wM E a0 a1 a2 a3 a4 a5 a6 a7 a8 a9 a10 w0) sz (some (.int F.1)) ((fun w : pv_MT => pv_wM E a0 a1 a2 a3 a4 a5 a6 a7 a8 a9 a10 w) F.2)) args s 0 0 A) (F0 m 0 ls []) from M0 s.heap [] hP hS
  intro H locs hP hS
  refine lv_aload_n (pc := 0) hx hb dX7_plays_0 rfl (lv_at hl 0 rfl) ?_
  refine va_get (pc := 1) (D := E.1) (ci := 5) (v := .ref a6) (C := RX7) (T := TX7) (N := 17) hx hb hts i_RX7 hown hK hP 0 rfl rfl 6 (Nat.le_of_ble_eq_true rfl) fl_25 (fun _ h9 => h9) rfl dX7_plays_1 ?_
  refine lv_iconst (pc := 4) (v := 0) hx hb dX7_plays_4 (by decide) ?_
  refine lv_aload_n (pc := 5) hx hb dX7_plays_5 rfl (lv_at hl 0 rfl) ?_
  refine lv_iconst (pc := 6) (v := 0) hx hb dX7_plays_6 (by decide) ?_
  obtain ⟨u_1, hu_1, hq⟩ := pv_bind hq
  refine pv_vROf (pc := 7) (rest := [.int 0, .ref a6]) (st1 := [.int u_1, .int 0, .ref a6]) (ws := pv_wM E a0 a1 a2 a3 a4 a5 a6 a7 a8 a9 a10 w0) [.int 0] ⟨hx, hb, hml, hown, hts⟩ hE hA hS hP (hD w0) (c_X7_handOf l E a0 a1 a2 a3 a4 a5 a6 a7 a8 a9 a10 0 w0 u_1 hu_1) (cwV 1 hts gX7_plays_X7_handOf rfl rfl rfl (by decide +kernel) ⟨(Nat.le_of_ble_eq_true rfl), (Nat.le_of_ble_eq_true rfl)⟩) (va_recv hK hP (ci := 5) (q0 := 0) rfl rfl) rfl hl.1 rfl rfl (Nat.le_of_ble_eq_true rfl) dX7_plays_7 ⟨Nat.zero_le _, Nat.zero_le _⟩ (fun locs hS => ?_)
  refine va_iast (pc := 10) (D := E.1) hx hb hK hP (hD w0) hS 6 0 rfl rfl (by decide : ¬ ((0 : Int32) < 0 ∨ 2 ≤ (0 : Int32).toNatClampNeg)) dX7_plays_10 (fun H locs hP _ hS => ?_)
  have hP : va_P E.1 vwCl (pv_wM E a0 a1 a2 a3 a4 a5 a6 a7 a8 a9 a10 (w0.1, w0.2.1, w0.2.2.1, w0.2.2.2.1, w0.2.2.2.2.1, w0.2.2.2.2.2.1, (upd w0.2.2.2.2.2.2.1 0 u_1), w0.2.2.2.2.2.2.2.1, w0.2.2.2.2.2.2.2.2.1, w0.2.2.2.2.2.2.2.2.2.1, w0.2.2.2.2.2.2.2.2.2.2.1, w0.2.2.2.2.2.2.2.2.2.2.2.1, w0.2.2.2.2.2.2.2.2.2.2.2.2.1, w0.2.2.2.2.2.2.2.2.2.2.2.2.2.1, w0.2.2.2.2.2.2.2.2.2.2.2.2.2.2.1, w0.2.2.2.2.2.2.2.2.2.2.2.2.2.2.2.1, w0.2.2.2.2.2.2.2.2.2.2.2.2.2.2.2.2)) H := hP
  refine lv_aload_n (pc := 11) hx hb dX7_plays_11 rfl (lv_at hl 0 rfl) ?_
  refine va_get (pc := 12) (D := E.1) (ci := 5) (v := .ref a6) (C := RX7) (T := TX7) (N := 17) hx hb hts i_RX7 hown hK hP 0 rfl rfl 6 (Nat.le_of_ble_eq_true rfl) fl_25 (fun _ h9 => h9) rfl dX7_plays_12 ?_
  refine lv_iconst (pc := 15) (v := 1) hx hb dX7_plays_15 (by decide) ?_
  refine lv_aload_n (pc := 16) hx hb dX7_plays_16 rfl (lv_at hl 0 rfl) ?_
  refine lv_iconst (pc := 17) (v := 1) hx hb dX7_plays_17 (by decide) ?_
  obtain ⟨u_2, hu_2, hq⟩ := pv_bind hq
  refine pv_vROf (pc := 18) (rest := [.int 1, .ref a6]) (st1 := [.int u_2, .int 1, .ref a6]) (ws := pv_wM E a0 a1 a2 a3 a4 a5 a6 a7 a8 a9 a10 (w0.1, w0.2.1, w0.2.2.1, w0.2.2.2.1, w0.2.2.2.2.1, w0.2.2.2.2.2.1, (upd w0.2.2.2.2.2.2.1 0 u_1), w0.2.2.2.2.2.2.2.1, w0.2.2.2.2.2.2.2.2.1, w0.2.2.2.2.2.2.2.2.2.1, w0.2.2.2.2.2.2.2.2.2.2.1, w0.2.2.2.2.2.2.2.2.2.2.2.1, w0.2.2.2.2.2.2.2.2.2.2.2.2.1, w0.2.2.2.2.2.2.2.2.2.2.2.2.2.1, w0.2.2.2.2.2.2.2.2.2.2.2.2.2.2.1, w0.2.2.2.2.2.2.2.2.2.2.2.2.2.2.2.1, w0.2.2.2.2.2.2.2.2.2.2.2.2.2.2.2.2)) [.int 1] ⟨hx, hb, hml, hown, hts⟩ hE hA hS hP (hD (w0.1, w0.2.1, w0.2.2.1, w0.2.2.2.1, w0.2.2.2.2.1, w0.2.2.2.2.2.1, (upd w0.2.2.2.2.2.2.1 0 u_1), w0.2.2.2.2.2.2.2.1, w0.2.2.2.2.2.2.2.2.1, w0.2.2.2.2.2.2.2.2.2.1, w0.2.2.2.2.2.2.2.2.2.2.1, w0.2.2.2.2.2.2.2.2.2.2.2.1, w0.2.2.2.2.2.2.2.2.2.2.2.2.1, w0.2.2.2.2.2.2.2.2.2.2.2.2.2.1, w0.2.2.2.2.2.2.2.2.2.2.2.2.2.2.1, w0.2.2.2.2.2.2.2.2.2.2.2.2.2.2.2.1, w0.2.2.2.2.2.2.2.2.2.2.2.2.2.2.2.2)) (c_X7_handOf l E a0 a1 a2 a3 a4 a5 a6 a7 a8 a9 a10 1 (w0.1, w0.2.1, w0.2.2.1, w0.2.2.2.1, w0.2.2.2.2.1, w0.2.2.2.2.2.1, (upd w0.2.2.2.2.2.2.1 0 u_1), w0.2.2.2.2.2.2.2.1, w0.2.2.2.2.2.2.2.2.1, w0.2.2.2.2.2.2.2.2.2.1, w0.2.2.2.2.2.2.2.2.2.2.1, w0.2.2.2.2.2.2.2.2.2.2.2.1, w0.2.2.2.2.2.2.2.2.2.2.2.2.1, w0.2.2.2.2.2.2.2.2.2.2.2.2.2.1, w0.2.2.2.2.2.2.2.2.2.2.2.2.2.2.1, w0.2.2.2.2.2.2.2.2.2.2.2.2.2.2.2.1, w0.2.2.2.2.2.2.2.2.2.2.2.2.2.2.2.2) u_2 hu_2) (cwV 1 hts gX7_plays_X7_handOf rfl rfl rfl (by decide +kernel) ⟨(Nat.le_of_ble_eq_true rfl), (Nat.le_of_ble_eq_true rfl)⟩) (va_recv hK hP (ci := 5) (q0 := 0) rfl rfl) rfl hl.1 rfl rfl (Nat.le_of_ble_eq_true rfl) dX7_plays_18 ⟨Nat.zero_le _, Nat.zero_le _⟩ (fun locs hS => ?_)
  refine va_iast (pc := 21) (D := E.1) hx hb hK hP (hD (w0.1, w0.2.1, w0.2.2.1, w0.2.2.2.1, w0.2.2.2.2.1, w0.2.2.2.2.2.1, (upd w0.2.2.2.2.2.2.1 0 u_1), w0.2.2.2.2.2.2.2.1, w0.2.2.2.2.2.2.2.2.1, w0.2.2.2.2.2.2.2.2.2.1, w0.2.2.2.2.2.2.2.2.2.2.1, w0.2.2.2.2.2.2.2.2.2.2.2.1, w0.2.2.2.2.2.2.2.2.2.2.2.2.1, w0.2.2.2.2.2.2.2.2.2.2.2.2.2.1, w0.2.2.2.2.2.2.2.2.2.2.2.2.2.2.1, w0.2.2.2.2.2.2.2.2.2.2.2.2.2.2.2.1, w0.2.2.2.2.2.2.2.2.2.2.2.2.2.2.2.2)) hS 6 0 rfl rfl (by decide : ¬ ((1 : Int32) < 0 ∨ 2 ≤ (1 : Int32).toNatClampNeg)) dX7_plays_21 (fun H locs hP _ hS => ?_)
  have hP : va_P E.1 vwCl (pv_wM E a0 a1 a2 a3 a4 a5 a6 a7 a8 a9 a10 (w0.1, w0.2.1, w0.2.2.1, w0.2.2.2.1, w0.2.2.2.2.1, w0.2.2.2.2.2.1, (upd (upd w0.2.2.2.2.2.2.1 0 u_1) 1 u_2), w0.2.2.2.2.2.2.2.1, w0.2.2.2.2.2.2.2.2.1, w0.2.2.2.2.2.2.2.2.2.1, w0.2.2.2.2.2.2.2.2.2.2.1, w0.2.2.2.2.2.2.2.2.2.2.2.1, w0.2.2.2.2.2.2.2.2.2.2.2.2.1, w0.2.2.2.2.2.2.2.2.2.2.2.2.2.1, w0.2.2.2.2.2.2.2.2.2.2.2.2.2.2.1, w0.2.2.2.2.2.2.2.2.2.2.2.2.2.2.2.1, w0.2.2.2.2.2.2.2.2.2.2.2.2.2.2.2.2)) H := hP
  refine lv_aload_n (pc := 22) hx hb dX7_plays_22 rfl (lv_at hl 0 rfl) ?_
  refine va_get (pc := 23) (D := E.1) (ci := 5) (v := .ref a1) (C := RX7) (T := TX7) (N := 17) hx hb hts i_RX7 hown hK hP 0 rfl rfl 0 (Nat.le_of_ble_eq_true rfl) fl_9 (fun _ h9 => h9) rfl dX7_plays_23 ?_
  refine lv_iconst (pc := 26) (v := 0) hx hb dX7_plays_26 (by decide) ?_
  refine va_iald (pc := 27) (D := E.1) hx hb hK hP 1 0 rfl rfl (by decide : ¬ ((0 : Int32) < 0 ∨ 31 ≤ (0 : Int32).toNatClampNeg)) dX7_plays_27 ?_
  refine W.eq (g2 := F0 m 28 ls [.int (w0.1 0)]) rfl ?_
  refine lv_iconst (pc := 28) (v := 2) hx hb dX7_plays_28 (by decide) ?_
  refine pv_irem (pc := 29) hx hb dX7_plays_29 (by decide) ?_
  refine lv_istore_n (pc := 30) (lv' := [(1, .int (pv_rem (w0.1 0) 2)), (0, .ref a0)]) hx hb dX7_plays_30 rfl hl (Nat.le_of_ble_eq_true rfl) rfl (fun ls hl => ?_)
  refine lv_iconst (pc := 31) (v := 0) hx hb dX7_plays_31 (by decide) ?_
  refine lv_istore_n (pc := 32) (lv' := [(2, .int 0), (1, .int (pv_rem (w0.1 0) 2)), (0, .ref a0)]) hx hb dX7_plays_32 rfl hl (Nat.le_of_ble_eq_true rfl) rfl (fun ls hl => ?_)
  refine lv_iconst (pc := 33) (v := 0) hx hb dX7_plays_33 (by decide) ?_
  refine lv_istore_n (pc := 34) (lv' := [(3, .int 0), (2, .int 0), (1, .int (pv_rem (w0.1 0) 2)), (0, .ref a0)]) hx hb dX7_plays_34 rfl hl (Nat.le_of_ble_eq_true rfl) rfl (fun ls hl => ?_)
  exact L_35 300 (pv_rem (w0.1 0) 2) 0 0 (w0.1, w0.2.1, w0.2.2.1, w0.2.2.2.1, w0.2.2.2.2.1, w0.2.2.2.2.2.1, (upd (upd w0.2.2.2.2.2.2.1 0 u_1) 1 u_2), w0.2.2.2.2.2.2.2.1, w0.2.2.2.2.2.2.2.2.1, w0.2.2.2.2.2.2.2.2.2.1, w0.2.2.2.2.2.2.2.2.2.2.1, w0.2.2.2.2.2.2.2.2.2.2.2.1, w0.2.2.2.2.2.2.2.2.2.2.2.2.1, w0.2.2.2.2.2.2.2.2.2.2.2.2.2.1, w0.2.2.2.2.2.2.2.2.2.2.2.2.2.2.1, w0.2.2.2.2.2.2.2.2.2.2.2.2.2.2.2.1, w0.2.2.2.2.2.2.2.2.2.2.2.2.2.2.2.2) H locs ls hP hS (lv_sub hl [3, 2, 1, 0] rfl) hq
def m_X7_trick_20  (w : pv_MT) : Option (Int32 × pv_MT) :=
  Option.bind (m_X7_finds (-1000000001) w) fun u_2 => (some (u_2.1, u_2.2))
def m_X7_trick (x1 : Int32) (x2 : Int32) (w : pv_MT) : Option (Int32 × pv_MT) :=
  if (m_X7_in x1.toInt64 0 3) = 0 then (m_X7_trick_20 w) else (if (m_X7_in x2.toInt64 0 3) = 0 then (m_X7_trick_20 w) else (Option.bind (m_X7_arePlaying w) fun u_4 => (if u_4 = 0 then (Option.bind (m_X7_finds (-1000000005) w) fun u_8 => (some (u_8.1, u_8.2))) else (Option.bind (m_X7_plays w) fun u_6 => (pv_gd ((4 * x1) + x2) 16 (some ((u_6.2.2.2.2.2.2.1 ((4 * x1) + x2).toNatClampNeg), u_6.2)))))))
abbrev r_X7_trick : Room := { frames := 5, cells := 0, slots := 0, locals := 121 }
set_option maxHeartbeats 4000000 in
set_option maxRecDepth 100000 in
theorem c_X7_trick (l : Launch) (E : pv_E) (a0 a1 a2 a3 a4 a5 a6 a7 a8 a9 a10 : Nat) (x1 : Int32) (x2 : Int32) (w0 : pv_MT) (F : Int32 × pv_MT) (hq : m_X7_trick x1 x2 w0 = some F) : pv_RW l E yX7_trick wsX7_trick r_X7_trick (pv_wM E a0 a1 a2 a3 a4 a5 a6 a7 a8 a9 a10 w0) [.ref a0, .int x1, .int x2] (some (.int F.1)) (pv_wM E a0 a1 a2 a3 a4 a5 a6 a7 a8 a9 a10 F.2) := by
  intro sz
  refine pv_mk (by decide) rfl (Nat.le_of_ble_eq_true rfl) ?_
  intro p e s m args below meth c A hx hb hr hml hown hts hlk hAe hP hD0 hA hE hS ls hl
  have hown : s.vm.findClass RX7 = some m.cls := hown
  have hK := hE.1
  have hD : ∀ w : pv_MT, va_D A (pv_wM E a0 a1 a2 a3 a4 a5 a6 a7 a8 a9 a10 w) := fun w => pv_Dm (ws := pv_wM E a0 a1 a2 a3 a4 a5 a6 a7 a8 a9 a10 w0) (ws' := pv_wM E a0 a1 a2 a3 a4 a5 a6 a7 a8 a9 a10 w) rfl hD0
  have hP : va_P E.1 vwCl (pv_wM E a0 a1 a2 a3 a4 a5 a6 a7 a8 a9 a10 w0) s.heap := hP
  have lc_41 : (Cond.constant RX7 41 (-1000000001)).before args s = true := hts _ (by decide +kernel)
  have fl_22 : (Cond.fieldLink RX7 22 "ProvinceCardsModel" "played" "[I").before args s = true := hts _ (by decide +kernel)
  have lc_122 : (Cond.constant RX7 122 (-1000000005)).before args s = true := hts _ (by decide +kernel)
  have i_RX7 : ∀ w ∈ wsX70, w ∈ wsX7_trick := by decide +kernel
  have hl : lv_has ls 4 [(0, .ref a0), (1, .int x1), (2, .int x2)] := hl
  have B_20 : ∀  (w : pv_MT) (H : Heap) (locs : List Loc) (ls : Array Slot), va_P E.1 vwCl (pv_wM E a0 a1 a2 a3 a4 a5 a6 a7 a8 a9 a10 w) H → va_S A s.heap H locs → lv_has ls 4 [(0, .ref a0)] → m_X7_trick_20 w = some F → W p l e r_X7_trick s m args below meth c H locs 0 0 (MQ below (pv_Rw E (pv_wM E a0 a1 a2 a3 a4 a5 a6 a7 a8 a9 a10 w0) sz (some (.int F.1)) ((fun w : pv_MT => pv_wM E a0 a1 a2 a3 a4 a5 a6 a7 a8 a9 a10 w) F.2)) args s 0 0 A) (F0 m 20 ls []) := by
    intro w H locs ls hP hS hl hq
    refine lv_aload_n (pc := 20) hx hb dX7_trick_20 rfl (lv_at hl 0 rfl) ?_
    refine lv_ldc (pc := 21) hx hb hown lc_41 dX7_trick_21 ?_
    obtain ⟨u_2, hu_2, hq⟩ := pv_bind hq
    refine pv_vRWf (pc := 23) (rest := []) (st1 := [.int u_2.1]) (ws := pv_wM E a0 a1 a2 a3 a4 a5 a6 a7 a8 a9 a10 w) [.int (-1000000001)] ⟨hx, hb, hml, hown, hts⟩ hE hA hS hP (hD w) (c_X7_finds l E a0 a1 a2 a3 a4 a5 a6 a7 a8 a9 a10 (-1000000001) w u_2 hu_2) (cwV 1 hts gX7_trick_X7_finds rfl rfl rfl (by decide +kernel) ⟨(Nat.le_of_ble_eq_true rfl), (Nat.le_of_ble_eq_true rfl)⟩) (va_recv hK hP (ci := 5) (q0 := 0) rfl rfl) rfl hl.1 rfl rfl (Nat.le_of_ble_eq_true rfl) dX7_trick_23 ⟨Nat.zero_le _, Nat.zero_le _⟩ (fun H locs hP hS => ?_)
    have hP : va_P E.1 vwCl (pv_wM E a0 a1 a2 a3 a4 a5 a6 a7 a8 a9 a10 u_2.2) H := hP
    exact pv_riRW (w := fun w : pv_MT => pv_wM E a0 a1 a2 a3 a4 a5 a6 a7 a8 a9 a10 w) hx hb hr hlk hAe hS hP (Option.some.inj hq) dX7_trick_26
  suffices M0 : ∀ (H : Heap) (locs : List Loc), va_P E.1 vwCl (pv_wM E a0 a1 a2 a3 a4 a5 a6 a7 a8 a9 a10 w0) H → va_S A s.heap H locs → W p l e r_X7_trick s m args below meth c H locs 0 0 (MQ below (pv_Rw E (pv_wM E a0 a1 a2 a3 a4 a5 a6 a7 a8 a9 a10 w0) sz (some (.int F.1)) ((fun w : pv_MT => pv_wM E a0 a1 a2 a3 a4 a5 a6 a7 a8 a9 a10 w) F.2)) args s 0 0 A) (F0 m 0 ls []) from M0 s.heap [] hP hS
  intro H locs hP hS
  refine lv_iload_n (pc := 0) hx hb dX7_trick_0 rfl (lv_at hl 1 rfl) ?_
  refine lv_i2l (pc := 1) (v := x1.toInt64) hx hb dX7_trick_1 rfl ?_
  refine lv_iconst (pc := 2) (v := 0) hx hb dX7_trick_2 (by decide) ?_
  refine lv_iconst (pc := 3) (v := 3) hx hb dX7_trick_3 (by decide) ?_
  refine pv_sRO (pc := 4) (rest := []) (st1 := [.int (m_X7_in x1.toInt64 0 3)]) (ws := pv_wM E a0 a1 a2 a3 a4 a5 a6 a7 a8 a9 a10 w0) [.long x1.toInt64, .int 0, .int 3] ⟨hx, hb, hml, hown, hts⟩ hE hA hS hP (hD w0) (c_X7_in l E x1.toInt64 0 3) (va_cwS 3 hts gX7_trick_X7_in rfl rfl rfl (by decide +kernel) ⟨(Nat.le_of_ble_eq_true rfl), (Nat.le_of_ble_eq_true rfl)⟩) [] rfl rfl rfl hl.1 rfl rfl (Nat.le_of_ble_eq_true rfl) dX7_trick_4 ⟨Nat.zero_le _, Nat.zero_le _⟩ (fun locs hS => ?_)
  refine lv_if_eq (pc := 7) (tgt := 20) hx hb dX7_trick_7 (by decide) (fun c_1 => ?_) (fun c_1 => ?_)
  · have hq := pv_pos c_1 hq
    exact B_20 w0 H locs ls hP hS (lv_sub hl [0] rfl) hq
  · have hq := pv_neg c_1 hq
    refine lv_iload_n (pc := 10) hx hb dX7_trick_10 rfl (lv_at hl 2 rfl) ?_
    refine lv_i2l (pc := 11) (v := x2.toInt64) hx hb dX7_trick_11 rfl ?_
    refine lv_iconst (pc := 12) (v := 0) hx hb dX7_trick_12 (by decide) ?_
    refine lv_iconst (pc := 13) (v := 3) hx hb dX7_trick_13 (by decide) ?_
    refine pv_sRO (pc := 14) (rest := []) (st1 := [.int (m_X7_in x2.toInt64 0 3)]) (ws := pv_wM E a0 a1 a2 a3 a4 a5 a6 a7 a8 a9 a10 w0) [.long x2.toInt64, .int 0, .int 3] ⟨hx, hb, hml, hown, hts⟩ hE hA hS hP (hD w0) (c_X7_in l E x2.toInt64 0 3) (va_cwS 3 hts gX7_trick_X7_in rfl rfl rfl (by decide +kernel) ⟨(Nat.le_of_ble_eq_true rfl), (Nat.le_of_ble_eq_true rfl)⟩) [] rfl rfl rfl hl.1 rfl rfl (Nat.le_of_ble_eq_true rfl) dX7_trick_14 ⟨Nat.zero_le _, Nat.zero_le _⟩ (fun locs hS => ?_)
    refine lv_if_ne (pc := 17) (tgt := 27) hx hb dX7_trick_17 (by decide) (fun c_3 => ?_) (fun c_3 => ?_)
    · have hq := pv_neg c_3 hq
      refine lv_aload_n (pc := 27) hx hb dX7_trick_27 rfl (lv_at hl 0 rfl) ?_
      obtain ⟨u_4, hu_4, hq⟩ := pv_bind hq
      refine pv_vROf (pc := 28) (rest := []) (st1 := [.int u_4]) (ws := pv_wM E a0 a1 a2 a3 a4 a5 a6 a7 a8 a9 a10 w0) [] ⟨hx, hb, hml, hown, hts⟩ hE hA hS hP (hD w0) (c_X7_arePlaying l E a0 a1 a2 a3 a4 a5 a6 a7 a8 a9 a10 w0 u_4 hu_4) (cwV 0 hts gX7_trick_X7_arePlaying rfl rfl rfl (by decide +kernel) ⟨(Nat.le_of_ble_eq_true rfl), (Nat.le_of_ble_eq_true rfl)⟩) (va_recv hK hP (ci := 5) (q0 := 0) rfl rfl) rfl hl.1 rfl rfl (Nat.le_of_ble_eq_true rfl) dX7_trick_28 ⟨Nat.zero_le _, Nat.zero_le _⟩ (fun locs hS => ?_)
      refine lv_if_ne (pc := 31) (tgt := 41) hx hb dX7_trick_31 (by decide) (fun c_5 => ?_) (fun c_5 => ?_)
      · have hq := pv_neg c_5 hq
        refine lv_aload_n (pc := 41) hx hb dX7_trick_41 rfl (lv_at hl 0 rfl) ?_
        obtain ⟨u_6, hu_6, hq⟩ := pv_bind hq
        refine pv_vRWf (pc := 42) (rest := []) (st1 := [.int u_6.1]) (ws := pv_wM E a0 a1 a2 a3 a4 a5 a6 a7 a8 a9 a10 w0) [] ⟨hx, hb, hml, hown, hts⟩ hE hA hS hP (hD w0) (c_X7_plays l E a0 a1 a2 a3 a4 a5 a6 a7 a8 a9 a10 w0 u_6 hu_6) (cwV 0 hts gX7_trick_X7_plays rfl rfl rfl (by decide +kernel) ⟨(Nat.le_of_ble_eq_true rfl), (Nat.le_of_ble_eq_true rfl)⟩) (va_recv hK hP (ci := 5) (q0 := 0) rfl rfl) rfl hl.1 rfl rfl (Nat.le_of_ble_eq_true rfl) dX7_trick_42 ⟨Nat.zero_le _, Nat.zero_le _⟩ (fun H locs hP hS => ?_)
        have hP : va_P E.1 vwCl (pv_wM E a0 a1 a2 a3 a4 a5 a6 a7 a8 a9 a10 u_6.2) H := hP
        refine lv_istore_n (pc := 45) (lv' := [(3, .int u_6.1), (0, .ref a0), (1, .int x1), (2, .int x2)]) hx hb dX7_trick_45 rfl hl (Nat.le_of_ble_eq_true rfl) rfl (fun ls hl => ?_)
        refine lv_aload_n (pc := 46) hx hb dX7_trick_46 rfl (lv_at hl 1 rfl) ?_
        refine va_get (pc := 47) (D := E.1) (ci := 5) (v := .ref a5) (C := RX7) (T := TX7) (N := 17) hx hb hts i_RX7 hown hK hP 0 rfl rfl 5 (Nat.le_of_ble_eq_true rfl) fl_22 (fun _ h9 => h9) rfl dX7_trick_47 ?_
        refine lv_iconst (pc := 50) (v := 4) hx hb dX7_trick_50 (by decide) ?_
        refine lv_iload_n (pc := 51) hx hb dX7_trick_51 rfl (lv_at hl 2 rfl) ?_
        refine lv_imul (pc := 52) hx hb dX7_trick_52 ?_
        refine lv_iload_n (pc := 53) hx hb dX7_trick_53 rfl (lv_at hl 3 rfl) ?_
        refine lv_iadd (pc := 54) hx hb dX7_trick_54 ?_
        obtain ⟨h_7, hq⟩ := pv_gd_some hq
        refine va_iald (pc := 55) (D := E.1) hx hb hK hP 5 0 rfl rfl h_7 dX7_trick_55 ?_
        exact pv_riRW (w := fun w : pv_MT => pv_wM E a0 a1 a2 a3 a4 a5 a6 a7 a8 a9 a10 w) hx hb hr hlk hAe hS hP (Option.some.inj hq) dX7_trick_56
      · have hq := pv_pos c_5 hq
        refine lv_aload_n (pc := 34) hx hb dX7_trick_34 rfl (lv_at hl 0 rfl) ?_
        refine lv_ldc (pc := 35) hx hb hown lc_122 dX7_trick_35 ?_
        obtain ⟨u_8, hu_8, hq⟩ := pv_bind hq
        refine pv_vRWf (pc := 37) (rest := []) (st1 := [.int u_8.1]) (ws := pv_wM E a0 a1 a2 a3 a4 a5 a6 a7 a8 a9 a10 w0) [.int (-1000000005)] ⟨hx, hb, hml, hown, hts⟩ hE hA hS hP (hD w0) (c_X7_finds l E a0 a1 a2 a3 a4 a5 a6 a7 a8 a9 a10 (-1000000005) w0 u_8 hu_8) (cwV 1 hts gX7_trick_X7_finds rfl rfl rfl (by decide +kernel) ⟨(Nat.le_of_ble_eq_true rfl), (Nat.le_of_ble_eq_true rfl)⟩) (va_recv hK hP (ci := 5) (q0 := 0) rfl rfl) rfl hl.1 rfl rfl (Nat.le_of_ble_eq_true rfl) dX7_trick_37 ⟨Nat.zero_le _, Nat.zero_le _⟩ (fun H locs hP hS => ?_)
        have hP : va_P E.1 vwCl (pv_wM E a0 a1 a2 a3 a4 a5 a6 a7 a8 a9 a10 u_8.2) H := hP
        exact pv_riRW (w := fun w : pv_MT => pv_wM E a0 a1 a2 a3 a4 a5 a6 a7 a8 a9 a10 w) hx hb hr hlk hAe hS hP (Option.some.inj hq) dX7_trick_40
    · have hq := pv_pos c_3 hq
      exact B_20 w0 H locs ls hP hS (lv_sub hl [0] rfl) hq
def m_X7_tricks  (w : pv_MT) : Option (Int32 × pv_MT) :=
  Option.bind (m_X7_arePlaying w) fun u_1 => (if u_1 = 0 then (Option.bind (m_X7_finds (-1000000005) w) fun u_3 => (some (u_3.1, u_3.2))) else (Option.bind (m_X7_plays w) fun u_4 => (some (u_4.1, u_4.2))))
abbrev r_X7_tricks : Room := { frames := 5, cells := 0, slots := 0, locals := 121 }
set_option maxHeartbeats 4000000 in
set_option maxRecDepth 100000 in
theorem c_X7_tricks (l : Launch) (E : pv_E) (a0 a1 a2 a3 a4 a5 a6 a7 a8 a9 a10 : Nat)  (w0 : pv_MT) (F : Int32 × pv_MT) (hq : m_X7_tricks w0 = some F) : pv_RW l E yX7_tricks wsX7_tricks r_X7_tricks (pv_wM E a0 a1 a2 a3 a4 a5 a6 a7 a8 a9 a10 w0) [.ref a0] (some (.int F.1)) (pv_wM E a0 a1 a2 a3 a4 a5 a6 a7 a8 a9 a10 F.2) := by
  intro sz
  refine pv_mk (by decide) rfl (Nat.le_of_ble_eq_true rfl) ?_
  intro p e s m args below meth c A hx hb hr hml hown hts hlk hAe hP hD0 hA hE hS ls hl
  have hown : s.vm.findClass RX7 = some m.cls := hown
  have hK := hE.1
  have hD : ∀ w : pv_MT, va_D A (pv_wM E a0 a1 a2 a3 a4 a5 a6 a7 a8 a9 a10 w) := fun w => pv_Dm (ws := pv_wM E a0 a1 a2 a3 a4 a5 a6 a7 a8 a9 a10 w0) (ws' := pv_wM E a0 a1 a2 a3 a4 a5 a6 a7 a8 a9 a10 w) rfl hD0
  have hP : va_P E.1 vwCl (pv_wM E a0 a1 a2 a3 a4 a5 a6 a7 a8 a9 a10 w0) s.heap := hP
  have lc_122 : (Cond.constant RX7 122 (-1000000005)).before args s = true := hts _ (by decide +kernel)
  have hl : lv_has ls 1 [(0, .ref a0)] := hl
  suffices M0 : ∀ (H : Heap) (locs : List Loc), va_P E.1 vwCl (pv_wM E a0 a1 a2 a3 a4 a5 a6 a7 a8 a9 a10 w0) H → va_S A s.heap H locs → W p l e r_X7_tricks s m args below meth c H locs 0 0 (MQ below (pv_Rw E (pv_wM E a0 a1 a2 a3 a4 a5 a6 a7 a8 a9 a10 w0) sz (some (.int F.1)) ((fun w : pv_MT => pv_wM E a0 a1 a2 a3 a4 a5 a6 a7 a8 a9 a10 w) F.2)) args s 0 0 A) (F0 m 0 ls []) from M0 s.heap [] hP hS
  intro H locs hP hS
  refine lv_aload_n (pc := 0) hx hb dX7_tricks_0 rfl (lv_at hl 0 rfl) ?_
  obtain ⟨u_1, hu_1, hq⟩ := pv_bind hq
  refine pv_vROf (pc := 1) (rest := []) (st1 := [.int u_1]) (ws := pv_wM E a0 a1 a2 a3 a4 a5 a6 a7 a8 a9 a10 w0) [] ⟨hx, hb, hml, hown, hts⟩ hE hA hS hP (hD w0) (c_X7_arePlaying l E a0 a1 a2 a3 a4 a5 a6 a7 a8 a9 a10 w0 u_1 hu_1) (cwV 0 hts gX7_tricks_X7_arePlaying rfl rfl rfl (by decide +kernel) ⟨(Nat.le_of_ble_eq_true rfl), (Nat.le_of_ble_eq_true rfl)⟩) (va_recv hK hP (ci := 5) (q0 := 0) rfl rfl) rfl hl.1 rfl rfl (Nat.le_of_ble_eq_true rfl) dX7_tricks_1 ⟨Nat.zero_le _, Nat.zero_le _⟩ (fun locs hS => ?_)
  refine lv_if_eq (pc := 4) (tgt := 14) hx hb dX7_tricks_4 (by decide) (fun c_2 => ?_) (fun c_2 => ?_)
  · have hq := pv_pos c_2 hq
    refine lv_aload_n (pc := 14) hx hb dX7_tricks_14 rfl (lv_at hl 0 rfl) ?_
    refine lv_ldc (pc := 15) hx hb hown lc_122 dX7_tricks_15 ?_
    obtain ⟨u_3, hu_3, hq⟩ := pv_bind hq
    refine pv_vRWf (pc := 17) (rest := []) (st1 := [.int u_3.1]) (ws := pv_wM E a0 a1 a2 a3 a4 a5 a6 a7 a8 a9 a10 w0) [.int (-1000000005)] ⟨hx, hb, hml, hown, hts⟩ hE hA hS hP (hD w0) (c_X7_finds l E a0 a1 a2 a3 a4 a5 a6 a7 a8 a9 a10 (-1000000005) w0 u_3 hu_3) (cwV 1 hts gX7_tricks_X7_finds rfl rfl rfl (by decide +kernel) ⟨(Nat.le_of_ble_eq_true rfl), (Nat.le_of_ble_eq_true rfl)⟩) (va_recv hK hP (ci := 5) (q0 := 0) rfl rfl) rfl hl.1 rfl rfl (Nat.le_of_ble_eq_true rfl) dX7_tricks_17 ⟨Nat.zero_le _, Nat.zero_le _⟩ (fun H locs hP hS => ?_)
    have hP : va_P E.1 vwCl (pv_wM E a0 a1 a2 a3 a4 a5 a6 a7 a8 a9 a10 u_3.2) H := hP
    exact pv_riRW (w := fun w : pv_MT => pv_wM E a0 a1 a2 a3 a4 a5 a6 a7 a8 a9 a10 w) hx hb hr hlk hAe hS hP (Option.some.inj hq) dX7_tricks_20
  · have hq := pv_neg c_2 hq
    refine lv_aload_n (pc := 7) hx hb dX7_tricks_7 rfl (lv_at hl 0 rfl) ?_
    obtain ⟨u_4, hu_4, hq⟩ := pv_bind hq
    refine pv_vRWf (pc := 8) (rest := []) (st1 := [.int u_4.1]) (ws := pv_wM E a0 a1 a2 a3 a4 a5 a6 a7 a8 a9 a10 w0) [] ⟨hx, hb, hml, hown, hts⟩ hE hA hS hP (hD w0) (c_X7_plays l E a0 a1 a2 a3 a4 a5 a6 a7 a8 a9 a10 w0 u_4 hu_4) (cwV 0 hts gX7_tricks_X7_plays rfl rfl rfl (by decide +kernel) ⟨(Nat.le_of_ble_eq_true rfl), (Nat.le_of_ble_eq_true rfl)⟩) (va_recv hK hP (ci := 5) (q0 := 0) rfl rfl) rfl hl.1 rfl rfl (Nat.le_of_ble_eq_true rfl) dX7_tricks_8 ⟨Nat.zero_le _, Nat.zero_le _⟩ (fun H locs hP hS => ?_)
    have hP : va_P E.1 vwCl (pv_wM E a0 a1 a2 a3 a4 a5 a6 a7 a8 a9 a10 u_4.2) H := hP
    refine lv_goto (pc := 11) (tgt := 20) hx hb dX7_tricks_11 (by decide) ?_
    exact pv_riRW (w := fun w : pv_MT => pv_wM E a0 a1 a2 a3 a4 a5 a6 a7 a8 a9 a10 w) hx hb hr hlk hAe hS hP (Option.some.inj hq) dX7_tricks_20
def m_X7_wonBy_59 (y0 : Int32) (w : pv_MT) : Option (Int32 × pv_MT) :=
  if y0 < 0 then (some (y0, w)) else (pv_gd (3 + y0) 31 (pv_gd ((15 + (2 * (w.1 (3 + y0).toNatClampNeg))) + 1) 31 (pv_gd ((15 + (2 * (w.1 (3 + y0).toNatClampNeg))) + 1) 31 (some (y0, ((upd w.1 ((15 + (2 * (w.1 (3 + y0).toNatClampNeg))) + 1).toNatClampNeg (m_X7_held ((w.1 ((15 + (2 * (w.1 (3 + y0).toNatClampNeg))) + 1).toNatClampNeg) + 1) 0 9999)), w.2.1, w.2.2.1, w.2.2.2.1, w.2.2.2.2.1, w.2.2.2.2.2.1, w.2.2.2.2.2.2.1, w.2.2.2.2.2.2.2.1, w.2.2.2.2.2.2.2.2.1, w.2.2.2.2.2.2.2.2.2.1, w.2.2.2.2.2.2.2.2.2.2.1, w.2.2.2.2.2.2.2.2.2.2.2.1, w.2.2.2.2.2.2.2.2.2.2.2.2.1, w.2.2.2.2.2.2.2.2.2.2.2.2.2.1, w.2.2.2.2.2.2.2.2.2.2.2.2.2.2.1, w.2.2.2.2.2.2.2.2.2.2.2.2.2.2.2.1, w.2.2.2.2.2.2.2.2.2.2.2.2.2.2.2.2))))))
def m_X7_wonBy  (w : pv_MT) : Option (Int32 × pv_MT) :=
  Option.bind (m_X7_arePlaying w) fun u_1 => (if u_1 = 0 then (if (w.1 3) < 0 then (if (w.1 4) < 0 then (some ((-1), w)) else (some (1, w))) else (some (0, w))) else (Option.bind (m_X7_plays w) fun u_3 => (if u_3.1 ≤ 2 then (if 2 ≤ u_3.1 then (m_X7_wonBy_59 (-1) u_3.2) else (m_X7_wonBy_59 1 u_3.2)) else (m_X7_wonBy_59 0 u_3.2))))
abbrev r_X7_wonBy : Room := { frames := 5, cells := 0, slots := 0, locals := 121 }
set_option maxHeartbeats 4000000 in
set_option maxRecDepth 100000 in
theorem c_X7_wonBy (l : Launch) (E : pv_E) (a0 a1 a2 a3 a4 a5 a6 a7 a8 a9 a10 : Nat)  (w0 : pv_MT) (F : Int32 × pv_MT) (hq : m_X7_wonBy w0 = some F) : pv_RW l E yX7_wonBy wsX7_wonBy r_X7_wonBy (pv_wM E a0 a1 a2 a3 a4 a5 a6 a7 a8 a9 a10 w0) [.ref a0] (some (.int F.1)) (pv_wM E a0 a1 a2 a3 a4 a5 a6 a7 a8 a9 a10 F.2) := by
  intro sz
  refine pv_mk (by decide) rfl (Nat.le_of_ble_eq_true rfl) ?_
  intro p e s m args below meth c A hx hb hr hml hown hts hlk hAe hP hD0 hA hE hS ls hl
  have hown : s.vm.findClass RX7 = some m.cls := hown
  have hK := hE.1
  have hD : ∀ w : pv_MT, va_D A (pv_wM E a0 a1 a2 a3 a4 a5 a6 a7 a8 a9 a10 w) := fun w => pv_Dm (ws := pv_wM E a0 a1 a2 a3 a4 a5 a6 a7 a8 a9 a10 w0) (ws' := pv_wM E a0 a1 a2 a3 a4 a5 a6 a7 a8 a9 a10 w) rfl hD0
  have hP : va_P E.1 vwCl (pv_wM E a0 a1 a2 a3 a4 a5 a6 a7 a8 a9 a10 w0) s.heap := hP
  have fl_9 : (Cond.fieldLink RX7 9 "ProvinceCardsModel" "m" "[I").before args s = true := hts _ (by decide +kernel)
  have i_RX7 : ∀ w ∈ wsX70, w ∈ wsX7_wonBy := by decide +kernel
  have hl : lv_has ls 4 [(0, .ref a0)] := hl
  have B_59 : ∀ (y0 : Int32) (w : pv_MT) (H : Heap) (locs : List Loc) (ls : Array Slot), va_P E.1 vwCl (pv_wM E a0 a1 a2 a3 a4 a5 a6 a7 a8 a9 a10 w) H → va_S A s.heap H locs → lv_has ls 4 [(0, .ref a0)] → m_X7_wonBy_59 y0 w = some F → W p l e r_X7_wonBy s m args below meth c H locs 0 0 (MQ below (pv_Rw E (pv_wM E a0 a1 a2 a3 a4 a5 a6 a7 a8 a9 a10 w0) sz (some (.int F.1)) ((fun w : pv_MT => pv_wM E a0 a1 a2 a3 a4 a5 a6 a7 a8 a9 a10 w) F.2)) args s 0 0 A) (F0 m 59 ls [.int y0]) := by
    intro y0 w H locs ls hP hS hl hq
    refine lv_istore_n (pc := 59) (lv' := [(2, .int y0), (0, .ref a0)]) hx hb dX7_wonBy_59 rfl hl (Nat.le_of_ble_eq_true rfl) rfl (fun ls hl => ?_)
    refine lv_iload_n (pc := 60) hx hb dX7_wonBy_60 rfl (lv_at hl 0 rfl) ?_
    refine lv_if_lt (pc := 61) (tgt := 101) hx hb dX7_wonBy_61 (by decide) (fun c_6 => ?_) (fun c_6 => ?_)
    · have hq := pv_pos c_6 hq
      refine lv_iload_n (pc := 101) hx hb dX7_wonBy_101 rfl (lv_at hl 0 rfl) ?_
      exact pv_riRW (w := fun w : pv_MT => pv_wM E a0 a1 a2 a3 a4 a5 a6 a7 a8 a9 a10 w) hx hb hr hlk hAe hS hP (Option.some.inj hq) dX7_wonBy_102
    · have hq := pv_neg c_6 hq
      refine lv_bipush (pc := 64) (v := 15) hx hb dX7_wonBy_64 (by decide) ?_
      refine lv_iconst (pc := 66) (v := 2) hx hb dX7_wonBy_66 (by decide) ?_
      refine lv_aload_n (pc := 67) hx hb dX7_wonBy_67 rfl (lv_at hl 1 rfl) ?_
      refine va_get (pc := 68) (D := E.1) (ci := 5) (v := .ref a1) (C := RX7) (T := TX7) (N := 17) hx hb hts i_RX7 hown hK hP 0 rfl rfl 0 (Nat.le_of_ble_eq_true rfl) fl_9 (fun _ h9 => h9) rfl dX7_wonBy_68 ?_
      refine lv_iconst (pc := 71) (v := 3) hx hb dX7_wonBy_71 (by decide) ?_
      refine lv_iload_n (pc := 72) hx hb dX7_wonBy_72 rfl (lv_at hl 0 rfl) ?_
      refine lv_iadd (pc := 73) hx hb dX7_wonBy_73 ?_
      obtain ⟨h_7, hq⟩ := pv_gd_some hq
      refine va_iald (pc := 74) (D := E.1) hx hb hK hP 1 0 rfl rfl h_7 dX7_wonBy_74 ?_
      refine lv_imul (pc := 75) hx hb dX7_wonBy_75 ?_
      refine lv_iadd (pc := 76) hx hb dX7_wonBy_76 ?_
      refine lv_iconst (pc := 77) (v := 1) hx hb dX7_wonBy_77 (by decide) ?_
      refine lv_iadd (pc := 78) hx hb dX7_wonBy_78 ?_
      refine lv_istore_n (pc := 79) (lv' := [(3, .int ((15 + (2 * (w.1 (3 + y0).toNatClampNeg))) + 1)), (2, .int y0), (0, .ref a0)]) hx hb dX7_wonBy_79 rfl hl (Nat.le_of_ble_eq_true rfl) rfl (fun ls hl => ?_)
      refine lv_aload_n (pc := 80) hx hb dX7_wonBy_80 rfl (lv_at hl 2 rfl) ?_
      refine va_get (pc := 81) (D := E.1) (ci := 5) (v := .ref a1) (C := RX7) (T := TX7) (N := 17) hx hb hts i_RX7 hown hK hP 0 rfl rfl 0 (Nat.le_of_ble_eq_true rfl) fl_9 (fun _ h9 => h9) rfl dX7_wonBy_81 ?_
      refine lv_iload_n (pc := 84) hx hb dX7_wonBy_84 rfl (lv_at hl 0 rfl) ?_
      refine lv_aload_n (pc := 85) hx hb dX7_wonBy_85 rfl (lv_at hl 2 rfl) ?_
      refine va_get (pc := 86) (D := E.1) (ci := 5) (v := .ref a1) (C := RX7) (T := TX7) (N := 17) hx hb hts i_RX7 hown hK hP 0 rfl rfl 0 (Nat.le_of_ble_eq_true rfl) fl_9 (fun _ h9 => h9) rfl dX7_wonBy_86 ?_
      refine lv_iload_n (pc := 89) hx hb dX7_wonBy_89 rfl (lv_at hl 0 rfl) ?_
      obtain ⟨h_8, hq⟩ := pv_gd_some hq
      refine va_iald (pc := 90) (D := E.1) hx hb hK hP 1 0 rfl rfl h_8 dX7_wonBy_90 ?_
      refine lv_iconst (pc := 91) (v := 1) hx hb dX7_wonBy_91 (by decide) ?_
      refine lv_iadd (pc := 92) hx hb dX7_wonBy_92 ?_
      refine lv_iconst (pc := 93) (v := 0) hx hb dX7_wonBy_93 (by decide) ?_
      refine lv_sipush (pc := 94) (v := 9999) hx hb dX7_wonBy_94 (by decide) ?_
      refine pv_sRO (pc := 97) (rest := [.int ((15 + (2 * (w.1 (3 + y0).toNatClampNeg))) + 1), .ref a1]) (st1 := [.int (m_X7_held ((w.1 ((15 + (2 * (w.1 (3 + y0).toNatClampNeg))) + 1).toNatClampNeg) + 1) 0 9999), .int ((15 + (2 * (w.1 (3 + y0).toNatClampNeg))) + 1), .ref a1]) (ws := pv_wM E a0 a1 a2 a3 a4 a5 a6 a7 a8 a9 a10 w) [.int ((w.1 ((15 + (2 * (w.1 (3 + y0).toNatClampNeg))) + 1).toNatClampNeg) + 1), .int 0, .int 9999] ⟨hx, hb, hml, hown, hts⟩ hE hA hS hP (hD w) (c_X7_held l E ((w.1 ((15 + (2 * (w.1 (3 + y0).toNatClampNeg))) + 1).toNatClampNeg) + 1) 0 9999) (va_cwS 3 hts gX7_wonBy_X7_held rfl rfl rfl (by decide +kernel) ⟨(Nat.le_of_ble_eq_true rfl), (Nat.le_of_ble_eq_true rfl)⟩) [] rfl rfl rfl hl.1 rfl rfl (Nat.le_of_ble_eq_true rfl) dX7_wonBy_97 ⟨Nat.zero_le _, Nat.zero_le _⟩ (fun locs hS => ?_)
      obtain ⟨h_9, hq⟩ := pv_gd_some hq
      refine va_iast (pc := 100) (D := E.1) hx hb hK hP (hD w) hS 1 0 rfl rfl h_9 dX7_wonBy_100 (fun H locs hP _ hS => ?_)
      have hP : va_P E.1 vwCl (pv_wM E a0 a1 a2 a3 a4 a5 a6 a7 a8 a9 a10 ((upd w.1 ((15 + (2 * (w.1 (3 + y0).toNatClampNeg))) + 1).toNatClampNeg (m_X7_held ((w.1 ((15 + (2 * (w.1 (3 + y0).toNatClampNeg))) + 1).toNatClampNeg) + 1) 0 9999)), w.2.1, w.2.2.1, w.2.2.2.1, w.2.2.2.2.1, w.2.2.2.2.2.1, w.2.2.2.2.2.2.1, w.2.2.2.2.2.2.2.1, w.2.2.2.2.2.2.2.2.1, w.2.2.2.2.2.2.2.2.2.1, w.2.2.2.2.2.2.2.2.2.2.1, w.2.2.2.2.2.2.2.2.2.2.2.1, w.2.2.2.2.2.2.2.2.2.2.2.2.1, w.2.2.2.2.2.2.2.2.2.2.2.2.2.1, w.2.2.2.2.2.2.2.2.2.2.2.2.2.2.1, w.2.2.2.2.2.2.2.2.2.2.2.2.2.2.2.1, w.2.2.2.2.2.2.2.2.2.2.2.2.2.2.2.2)) H := hP
      refine lv_iload_n (pc := 101) hx hb dX7_wonBy_101 rfl (lv_at hl 1 rfl) ?_
      exact pv_riRW (w := fun w : pv_MT => pv_wM E a0 a1 a2 a3 a4 a5 a6 a7 a8 a9 a10 w) hx hb hr hlk hAe hS hP (Option.some.inj hq) dX7_wonBy_102
  suffices M0 : ∀ (H : Heap) (locs : List Loc), va_P E.1 vwCl (pv_wM E a0 a1 a2 a3 a4 a5 a6 a7 a8 a9 a10 w0) H → va_S A s.heap H locs → W p l e r_X7_wonBy s m args below meth c H locs 0 0 (MQ below (pv_Rw E (pv_wM E a0 a1 a2 a3 a4 a5 a6 a7 a8 a9 a10 w0) sz (some (.int F.1)) ((fun w : pv_MT => pv_wM E a0 a1 a2 a3 a4 a5 a6 a7 a8 a9 a10 w) F.2)) args s 0 0 A) (F0 m 0 ls []) from M0 s.heap [] hP hS
  intro H locs hP hS
  refine lv_aload_n (pc := 0) hx hb dX7_wonBy_0 rfl (lv_at hl 0 rfl) ?_
  obtain ⟨u_1, hu_1, hq⟩ := pv_bind hq
  refine pv_vROf (pc := 1) (rest := []) (st1 := [.int u_1]) (ws := pv_wM E a0 a1 a2 a3 a4 a5 a6 a7 a8 a9 a10 w0) [] ⟨hx, hb, hml, hown, hts⟩ hE hA hS hP (hD w0) (c_X7_arePlaying l E a0 a1 a2 a3 a4 a5 a6 a7 a8 a9 a10 w0 u_1 hu_1) (cwV 0 hts gX7_wonBy_X7_arePlaying rfl rfl rfl (by decide +kernel) ⟨(Nat.le_of_ble_eq_true rfl), (Nat.le_of_ble_eq_true rfl)⟩) (va_recv hK hP (ci := 5) (q0 := 0) rfl rfl) rfl hl.1 rfl rfl (Nat.le_of_ble_eq_true rfl) dX7_wonBy_1 ⟨Nat.zero_le _, Nat.zero_le _⟩ (fun locs hS => ?_)
  refine lv_if_ne (pc := 4) (tgt := 35) hx hb dX7_wonBy_4 (by decide) (fun c_2 => ?_) (fun c_2 => ?_)
  · have hq := pv_neg c_2 hq
    refine lv_aload_n (pc := 35) hx hb dX7_wonBy_35 rfl (lv_at hl 0 rfl) ?_
    obtain ⟨u_3, hu_3, hq⟩ := pv_bind hq
    refine pv_vRWf (pc := 36) (rest := []) (st1 := [.int u_3.1]) (ws := pv_wM E a0 a1 a2 a3 a4 a5 a6 a7 a8 a9 a10 w0) [] ⟨hx, hb, hml, hown, hts⟩ hE hA hS hP (hD w0) (c_X7_plays l E a0 a1 a2 a3 a4 a5 a6 a7 a8 a9 a10 w0 u_3 hu_3) (cwV 0 hts gX7_wonBy_X7_plays rfl rfl rfl (by decide +kernel) ⟨(Nat.le_of_ble_eq_true rfl), (Nat.le_of_ble_eq_true rfl)⟩) (va_recv hK hP (ci := 5) (q0 := 0) rfl rfl) rfl hl.1 rfl rfl (Nat.le_of_ble_eq_true rfl) dX7_wonBy_36 ⟨Nat.zero_le _, Nat.zero_le _⟩ (fun H locs hP hS => ?_)
    have hP : va_P E.1 vwCl (pv_wM E a0 a1 a2 a3 a4 a5 a6 a7 a8 a9 a10 u_3.2) H := hP
    refine lv_istore_n (pc := 39) (lv' := [(1, .int u_3.1), (0, .ref a0)]) hx hb dX7_wonBy_39 rfl hl (Nat.le_of_ble_eq_true rfl) rfl (fun ls hl => ?_)
    refine lv_iload_n (pc := 40) hx hb dX7_wonBy_40 rfl (lv_at hl 0 rfl) ?_
    refine lv_iconst (pc := 41) (v := 2) hx hb dX7_wonBy_41 (by decide) ?_
    refine lv_icmp_le (pc := 42) (tgt := 49) hx hb dX7_wonBy_42 (by decide) (fun c_4 => ?_) (fun c_4 => ?_)
    · have hq := pv_pos c_4 hq
      refine lv_iload_n (pc := 49) hx hb dX7_wonBy_49 rfl (lv_at hl 0 rfl) ?_
      refine lv_iconst (pc := 50) (v := 2) hx hb dX7_wonBy_50 (by decide) ?_
      refine lv_icmp_ge (pc := 51) (tgt := 58) hx hb dX7_wonBy_51 (by decide) (fun c_5 => ?_) (fun c_5 => ?_)
      · have hq := pv_pos c_5 hq
        refine lv_iconst (pc := 58) (v := (-1)) hx hb dX7_wonBy_58 (by decide) ?_
        exact B_59 (-1) u_3.2 H locs ls hP hS (lv_sub hl [1] rfl) hq
      · have hq := pv_neg c_5 hq
        refine lv_iconst (pc := 54) (v := 1) hx hb dX7_wonBy_54 (by decide) ?_
        refine lv_goto (pc := 55) (tgt := 59) hx hb dX7_wonBy_55 (by decide) ?_
        exact B_59 1 u_3.2 H locs ls hP hS (lv_sub hl [1] rfl) hq
    · have hq := pv_neg c_4 hq
      refine lv_iconst (pc := 45) (v := 0) hx hb dX7_wonBy_45 (by decide) ?_
      refine lv_goto (pc := 46) (tgt := 59) hx hb dX7_wonBy_46 (by decide) ?_
      exact B_59 0 u_3.2 H locs ls hP hS (lv_sub hl [1] rfl) hq
  · have hq := pv_pos c_2 hq
    refine lv_aload_n (pc := 7) hx hb dX7_wonBy_7 rfl (lv_at hl 0 rfl) ?_
    refine va_get (pc := 8) (D := E.1) (ci := 5) (v := .ref a1) (C := RX7) (T := TX7) (N := 17) hx hb hts i_RX7 hown hK hP 0 rfl rfl 0 (Nat.le_of_ble_eq_true rfl) fl_9 (fun _ h9 => h9) rfl dX7_wonBy_8 ?_
    refine lv_iconst (pc := 11) (v := 3) hx hb dX7_wonBy_11 (by decide) ?_
    refine va_iald (pc := 12) (D := E.1) hx hb hK hP 1 0 rfl rfl (by decide : ¬ ((3 : Int32) < 0 ∨ 31 ≤ (3 : Int32).toNatClampNeg)) dX7_wonBy_12 ?_
    refine W.eq (g2 := F0 m 13 ls [.int (w0.1 3)]) rfl ?_
    refine lv_if_lt (pc := 13) (tgt := 20) hx hb dX7_wonBy_13 (by decide) (fun c_10 => ?_) (fun c_10 => ?_)
    · have hq := pv_pos c_10 hq
      refine lv_aload_n (pc := 20) hx hb dX7_wonBy_20 rfl (lv_at hl 0 rfl) ?_
      refine va_get (pc := 21) (D := E.1) (ci := 5) (v := .ref a1) (C := RX7) (T := TX7) (N := 17) hx hb hts i_RX7 hown hK hP 0 rfl rfl 0 (Nat.le_of_ble_eq_true rfl) fl_9 (fun _ h9 => h9) rfl dX7_wonBy_21 ?_
      refine lv_iconst (pc := 24) (v := 4) hx hb dX7_wonBy_24 (by decide) ?_
      refine va_iald (pc := 25) (D := E.1) hx hb hK hP 1 0 rfl rfl (by decide : ¬ ((4 : Int32) < 0 ∨ 31 ≤ (4 : Int32).toNatClampNeg)) dX7_wonBy_25 ?_
      refine W.eq (g2 := F0 m 26 ls [.int (w0.1 4)]) rfl ?_
      refine lv_if_lt (pc := 26) (tgt := 33) hx hb dX7_wonBy_26 (by decide) (fun c_11 => ?_) (fun c_11 => ?_)
      · have hq := pv_pos c_11 hq
        refine lv_iconst (pc := 33) (v := (-1)) hx hb dX7_wonBy_33 (by decide) ?_
        exact pv_riRW (w := fun w : pv_MT => pv_wM E a0 a1 a2 a3 a4 a5 a6 a7 a8 a9 a10 w) hx hb hr hlk hAe hS hP (Option.some.inj hq) dX7_wonBy_34
      · have hq := pv_neg c_11 hq
        refine lv_iconst (pc := 29) (v := 1) hx hb dX7_wonBy_29 (by decide) ?_
        refine lv_goto (pc := 30) (tgt := 34) hx hb dX7_wonBy_30 (by decide) ?_
        exact pv_riRW (w := fun w : pv_MT => pv_wM E a0 a1 a2 a3 a4 a5 a6 a7 a8 a9 a10 w) hx hb hr hlk hAe hS hP (Option.some.inj hq) dX7_wonBy_34
    · have hq := pv_neg c_10 hq
      refine lv_iconst (pc := 16) (v := 0) hx hb dX7_wonBy_16 (by decide) ?_
      refine lv_goto (pc := 17) (tgt := 34) hx hb dX7_wonBy_17 (by decide) ?_
      exact pv_riRW (w := fun w : pv_MT => pv_wM E a0 a1 a2 a3 a4 a5 a6 a7 a8 a9 a10 w) hx hb hr hlk hAe hS hP (Option.some.inj hq) dX7_wonBy_34
def m_X7_landsOf_31 (k_4 : Int32 → Int32 → Int32 → pv_MT → Option (Int32)) (x1 : Int32) (x3 : Int32) (y0 : Int32) (y1 : Int32) (w : pv_MT) : Option (Int32) :=
  k_4 x1 (y0 ||| y1) (x3 + 1) w
def m_X7_landsOf_4 : Nat → Int32 → Int32 → Int32 → pv_MT → Option (Int32)
  | 0 => fun _ _ _ _ => none
  | n + 1 => fun x1 x2 x3 w =>
    if 8 ≤ x3 then (some x2) else (pv_gd (7 + x3) 31 (if (w.1 (7 + x3).toNatClampNeg) = x1 then (m_X7_landsOf_31 (m_X7_landsOf_4 n) x1 x3 x2 ((1 : Int32) <<< (x3 &&& 31)) w) else (m_X7_landsOf_31 (m_X7_landsOf_4 n) x1 x3 x2 0 w)))
def m_X7_landsOf (x1 : Int32) (w : pv_MT) : Option (Int32) :=
  m_X7_landsOf_4 300 x1 0 0 w
abbrev r_X7_landsOf : Room := { frames := 0, cells := 0, slots := 0, locals := 0 }
set_option maxHeartbeats 4000000 in
set_option maxRecDepth 100000 in
theorem c_X7_landsOf (l : Launch) (E : pv_E) (a0 a1 a2 a3 a4 a5 a6 a7 a8 a9 a10 : Nat) (x1 : Int32) (w : pv_MT) (F : Int32) (hq : m_X7_landsOf x1 w = some F) : pv_RO l E yX7_landsOf wsX7_landsOf r_X7_landsOf (pv_wM E a0 a1 a2 a3 a4 a5 a6 a7 a8 a9 a10 w) [.ref a0, .int x1] (some (.int F)) := by
  intro sz
  refine pv_mk (by decide) rfl (Nat.le_of_ble_eq_true rfl) ?_
  intro p e s m args below meth c A hx hb hr hml hown hts hlk hAe hP hD0 hA hE hS ls hl
  have hown : s.vm.findClass RX7 = some m.cls := hown
  have hK := hE.1
  have hD := hD0
  have fl_9 : (Cond.fieldLink RX7 9 "ProvinceCardsModel" "m" "[I").before args s = true := hts _ (by decide +kernel)
  have i_RX7 : ∀ w ∈ wsX70, w ∈ wsX7_landsOf := by decide +kernel
  have hl : lv_has ls 4 [(0, .ref a0), (1, .int x1)] := hl
  have B_31 : ∀ (k_4 : Int32 → Int32 → Int32 → pv_MT → Option (Int32)), (∀ (x1 : Int32) (x2 : Int32) (x3 : Int32) (locs : List Loc) (ls : Array Slot), va_S A s.heap s.heap locs → lv_has ls 4 [(0, .ref a0), (1, .int x1), (2, .int x2), (3, .int x3)] → k_4 x1 x2 x3 w = some F → W p l e r_X7_landsOf s m args below meth c s.heap locs 0 0 (MQ below (pv_Ro (some (.int F))) args s 0 0 A) (F0 m 4 ls [])) → ∀ (x1 : Int32) (x3 : Int32) (y0 : Int32) (y1 : Int32) (locs : List Loc) (ls : Array Slot), va_S A s.heap s.heap locs → lv_has ls 4 [(0, .ref a0), (1, .int x1), (3, .int x3)] → m_X7_landsOf_31 k_4 x1 x3 y0 y1 w = some F → W p l e r_X7_landsOf s m args below meth c s.heap locs 0 0 (MQ below (pv_Ro (some (.int F))) args s 0 0 A) (F0 m 31 ls [.int y1, .int y0]) := by
    intro k_4 hk_4
    intro x1 x3 y0 y1 locs ls hS hl hq
    refine lv_ior (pc := 31) hx hb dX7_landsOf_31 ?_
    refine lv_istore_n (pc := 32) (lv' := [(2, .int (y0 ||| y1)), (0, .ref a0), (1, .int x1), (3, .int x3)]) hx hb dX7_landsOf_32 rfl hl (Nat.le_of_ble_eq_true rfl) rfl (fun ls hl => ?_)
    refine lv_iinc (pc := 33) (v := (x3 + 1)) (lv' := [(3, .int (x3 + 1)), (2, .int (y0 ||| y1)), (0, .ref a0), (1, .int x1)]) hx hb dX7_landsOf_33 hl (k := 3) rfl rfl (Nat.le_of_ble_eq_true rfl) rfl (fun ls hl => ?_)
    refine lv_goto (pc := 36) (tgt := 4) hx hb dX7_landsOf_36 (by decide) ?_
    exact hk_4 x1 (y0 ||| y1) (x3 + 1) locs ls hS (lv_sub hl [2, 3, 1, 0] rfl) hq
  have L_4 : ∀ n : Nat, ∀ (x1 : Int32) (x2 : Int32) (x3 : Int32) (locs : List Loc) (ls : Array Slot), va_S A s.heap s.heap locs → lv_has ls 4 [(0, .ref a0), (1, .int x1), (2, .int x2), (3, .int x3)] → m_X7_landsOf_4 n x1 x2 x3 w = some F → W p l e r_X7_landsOf s m args below meth c s.heap locs 0 0 (MQ below (pv_Ro (some (.int F))) args s 0 0 A) (F0 m 4 ls []) := by
    intro n
    induction n with
    | zero =>
      intro x1 x2 x3 locs ls hS hl hq
      exact (pv_no hq).elim
    | succ n ih =>
      intro x1 x2 x3 locs ls hS hl hq
      refine lv_iload_n (pc := 4) hx hb dX7_landsOf_4 rfl (lv_at hl 3 rfl) ?_
      refine lv_bipush (pc := 5) (v := 8) hx hb dX7_landsOf_5 (by decide) ?_
      refine lv_icmp_ge (pc := 7) (tgt := 39) hx hb dX7_landsOf_7 (by decide) (fun c_1 => ?_) (fun c_1 => ?_)
      · have hq := pv_pos c_1 hq
        refine lv_iload_n (pc := 39) hx hb dX7_landsOf_39 rfl (lv_at hl 2 rfl) ?_
        exact pv_riRO hx hb hr hlk hS (Option.some.inj hq) dX7_landsOf_40
      · have hq := pv_neg c_1 hq
        refine lv_iload_n (pc := 10) hx hb dX7_landsOf_10 rfl (lv_at hl 2 rfl) ?_
        refine lv_aload_n (pc := 11) hx hb dX7_landsOf_11 rfl (lv_at hl 0 rfl) ?_
        refine va_get (pc := 12) (D := E.1) (ci := 5) (v := .ref a1) (C := RX7) (T := TX7) (N := 17) hx hb hts i_RX7 hown hK hP 0 rfl rfl 0 (Nat.le_of_ble_eq_true rfl) fl_9 (fun _ h9 => h9) rfl dX7_landsOf_12 ?_
        refine lv_bipush (pc := 15) (v := 7) hx hb dX7_landsOf_15 (by decide) ?_
        refine lv_iload_n (pc := 17) hx hb dX7_landsOf_17 rfl (lv_at hl 3 rfl) ?_
        refine lv_iadd (pc := 18) hx hb dX7_landsOf_18 ?_
        obtain ⟨h_2, hq⟩ := pv_gd_some hq
        refine va_iald (pc := 19) (D := E.1) hx hb hK hP 1 0 rfl rfl h_2 dX7_landsOf_19 ?_
        refine lv_iload_n (pc := 20) hx hb dX7_landsOf_20 rfl (lv_at hl 1 rfl) ?_
        refine lv_icmp_ne (pc := 21) (tgt := 30) hx hb dX7_landsOf_21 (by decide) (fun c_3 => ?_) (fun c_3 => ?_)
        · have hq := pv_neg c_3 hq
          refine lv_iconst (pc := 30) (v := 0) hx hb dX7_landsOf_30 (by decide) ?_
          exact B_31 (m_X7_landsOf_4 n) ih x1 x3 x2 0 locs ls hS (lv_sub hl [0, 1, 3] rfl) hq
        · have hq := pv_pos c_3 hq
          refine lv_iconst (pc := 24) (v := 1) hx hb dX7_landsOf_24 (by decide) ?_
          refine lv_iload_n (pc := 25) hx hb dX7_landsOf_25 rfl (lv_at hl 3 rfl) ?_
          refine lv_ishl (pc := 26) hx hb dX7_landsOf_26 ?_
          refine lv_goto (pc := 27) (tgt := 31) hx hb dX7_landsOf_27 (by decide) ?_
          exact B_31 (m_X7_landsOf_4 n) ih x1 x3 x2 ((1 : Int32) <<< (x3 &&& 31)) locs ls hS (lv_sub hl [0, 1, 3] rfl) hq
  suffices M0 : ∀ (locs : List Loc), va_S A s.heap s.heap locs → W p l e r_X7_landsOf s m args below meth c s.heap locs 0 0 (MQ below (pv_Ro (some (.int F))) args s 0 0 A) (F0 m 0 ls []) from M0 [] hS
  intro locs hS
  refine lv_iconst (pc := 0) (v := 0) hx hb dX7_landsOf_0 (by decide) ?_
  refine lv_istore_n (pc := 1) (lv' := [(2, .int 0), (0, .ref a0), (1, .int x1)]) hx hb dX7_landsOf_1 rfl hl (Nat.le_of_ble_eq_true rfl) rfl (fun ls hl => ?_)
  refine lv_iconst (pc := 2) (v := 0) hx hb dX7_landsOf_2 (by decide) ?_
  refine lv_istore_n (pc := 3) (lv' := [(3, .int 0), (2, .int 0), (0, .ref a0), (1, .int x1)]) hx hb dX7_landsOf_3 rfl hl (Nat.le_of_ble_eq_true rfl) rfl (fun ls hl => ?_)
  exact L_4 300 x1 0 0 locs ls hS (lv_sub hl [2, 3, 1, 0] rfl) hq
def m_X7_goes_23 : Nat → Int32 → pv_MT → Option (pv_MT)
  | 0 => fun _ _ => none
  | n + 1 => fun x1 w =>
    if 2 ≤ x1 then (some ((upd w.1 0 ((w.1 0) + 1)), w.2.1, w.2.2.1, w.2.2.2.1, w.2.2.2.2.1, w.2.2.2.2.2.1, w.2.2.2.2.2.2.1, w.2.2.2.2.2.2.2.1, w.2.2.2.2.2.2.2.2.1, w.2.2.2.2.2.2.2.2.2.1, w.2.2.2.2.2.2.2.2.2.2.1, w.2.2.2.2.2.2.2.2.2.2.2.1, w.2.2.2.2.2.2.2.2.2.2.2.2.1, w.2.2.2.2.2.2.2.2.2.2.2.2.2.1, w.2.2.2.2.2.2.2.2.2.2.2.2.2.2.1, w.2.2.2.2.2.2.2.2.2.2.2.2.2.2.2.1, w.2.2.2.2.2.2.2.2.2.2.2.2.2.2.2.2)) else (pv_gd (5 + x1) 31 (Option.bind (m_X7_landsOf x1 w) fun u_5 => (Option.bind (m_X7_bits u_5) fun u_6 => (pv_gd (5 + x1) 31 ((m_X7_goes_23 n) (x1 + 1) ((upd w.1 (5 + x1).toNatClampNeg (m_X7_held ((w.1 (5 + x1).toNatClampNeg) + u_6) 0 99999)), w.2.1, w.2.2.1, w.2.2.2.1, w.2.2.2.2.1, w.2.2.2.2.2.1, w.2.2.2.2.2.2.1, w.2.2.2.2.2.2.2.1, w.2.2.2.2.2.2.2.2.1, w.2.2.2.2.2.2.2.2.2.1, w.2.2.2.2.2.2.2.2.2.2.1, w.2.2.2.2.2.2.2.2.2.2.2.1, w.2.2.2.2.2.2.2.2.2.2.2.2.1, w.2.2.2.2.2.2.2.2.2.2.2.2.2.1, w.2.2.2.2.2.2.2.2.2.2.2.2.2.2.1, w.2.2.2.2.2.2.2.2.2.2.2.2.2.2.2.1, w.2.2.2.2.2.2.2.2.2.2.2.2.2.2.2.2))))))
def m_X7_goes  (w : pv_MT) : Option (pv_MT) :=
  Option.bind (m_X7_wonBy w) fun u_1 => (pv_gd (7 + (pv_rem (w.1 0) 8)) 31 (m_X7_goes_23 300 0 ((upd u_1.2.1 (7 + (pv_rem (w.1 0) 8)).toNatClampNeg u_1.1), u_1.2.2.1, u_1.2.2.2.1, u_1.2.2.2.2.1, u_1.2.2.2.2.2.1, u_1.2.2.2.2.2.2.1, u_1.2.2.2.2.2.2.2.1, u_1.2.2.2.2.2.2.2.2.1, u_1.2.2.2.2.2.2.2.2.2.1, u_1.2.2.2.2.2.2.2.2.2.2.1, u_1.2.2.2.2.2.2.2.2.2.2.2.1, u_1.2.2.2.2.2.2.2.2.2.2.2.2.1, u_1.2.2.2.2.2.2.2.2.2.2.2.2.2.1, u_1.2.2.2.2.2.2.2.2.2.2.2.2.2.2.1, u_1.2.2.2.2.2.2.2.2.2.2.2.2.2.2.2.1, u_1.2.2.2.2.2.2.2.2.2.2.2.2.2.2.2.2.1, u_1.2.2.2.2.2.2.2.2.2.2.2.2.2.2.2.2.2)))
abbrev r_X7_goes : Room := { frames := 6, cells := 0, slots := 0, locals := 144 }
set_option maxHeartbeats 4000000 in
set_option maxRecDepth 100000 in
theorem c_X7_goes (l : Launch) (E : pv_E) (a0 a1 a2 a3 a4 a5 a6 a7 a8 a9 a10 : Nat)  (w0 : pv_MT) (F : pv_MT) (hq : m_X7_goes w0 = some F) : pv_RW l E yX7_goes wsX7_goes r_X7_goes (pv_wM E a0 a1 a2 a3 a4 a5 a6 a7 a8 a9 a10 w0) [.ref a0] (none) (pv_wM E a0 a1 a2 a3 a4 a5 a6 a7 a8 a9 a10 F) := by
  intro sz
  refine pv_mk (by decide) rfl (Nat.le_of_ble_eq_true rfl) ?_
  intro p e s m args below meth c A hx hb hr hml hown hts hlk hAe hP hD0 hA hE hS ls hl
  have hown : s.vm.findClass RX7 = some m.cls := hown
  have hK := hE.1
  have hD : ∀ w : pv_MT, va_D A (pv_wM E a0 a1 a2 a3 a4 a5 a6 a7 a8 a9 a10 w) := fun w => pv_Dm (ws := pv_wM E a0 a1 a2 a3 a4 a5 a6 a7 a8 a9 a10 w0) (ws' := pv_wM E a0 a1 a2 a3 a4 a5 a6 a7 a8 a9 a10 w) rfl hD0
  have hP : va_P E.1 vwCl (pv_wM E a0 a1 a2 a3 a4 a5 a6 a7 a8 a9 a10 w0) s.heap := hP
  have fl_9 : (Cond.fieldLink RX7 9 "ProvinceCardsModel" "m" "[I").before args s = true := hts _ (by decide +kernel)
  have lc_65 : (Cond.constant RX7 65 (99999)).before args s = true := hts _ (by decide +kernel)
  have i_RX7 : ∀ w ∈ wsX70, w ∈ wsX7_goes := by decide +kernel
  have hl : lv_has ls 2 [(0, .ref a0)] := hl
  have L_23 : ∀ n : Nat, ∀ (x1 : Int32) (w : pv_MT) (H : Heap) (locs : List Loc) (ls : Array Slot), va_P E.1 vwCl (pv_wM E a0 a1 a2 a3 a4 a5 a6 a7 a8 a9 a10 w) H → va_S A s.heap H locs → lv_has ls 2 [(0, .ref a0), (1, .int x1)] → m_X7_goes_23 n x1 w = some F → W p l e r_X7_goes s m args below meth c H locs 0 0 (MQ below (pv_Rw E (pv_wM E a0 a1 a2 a3 a4 a5 a6 a7 a8 a9 a10 w0) sz (none) ((fun w : pv_MT => pv_wM E a0 a1 a2 a3 a4 a5 a6 a7 a8 a9 a10 w) F)) args s 0 0 A) (F0 m 23 ls []) := by
    intro n
    induction n with
    | zero =>
      intro x1 w H locs ls hP hS hl hq
      exact (pv_no hq).elim
    | succ n ih =>
      intro x1 w H locs ls hP hS hl hq
      refine lv_iload_n (pc := 23) hx hb dX7_goes_23 rfl (lv_at hl 1 rfl) ?_
      refine lv_iconst (pc := 24) (v := 2) hx hb dX7_goes_24 (by decide) ?_
      refine lv_icmp_ge (pc := 25) (tgt := 65) hx hb dX7_goes_25 (by decide) (fun c_3 => ?_) (fun c_3 => ?_)
      · have hq := pv_pos c_3 hq
        refine lv_aload_n (pc := 65) hx hb dX7_goes_65 rfl (lv_at hl 0 rfl) ?_
        refine va_get (pc := 66) (D := E.1) (ci := 5) (v := .ref a1) (C := RX7) (T := TX7) (N := 17) hx hb hts i_RX7 hown hK hP 0 rfl rfl 0 (Nat.le_of_ble_eq_true rfl) fl_9 (fun _ h9 => h9) rfl dX7_goes_66 ?_
        refine lv_iconst (pc := 69) (v := 0) hx hb dX7_goes_69 (by decide) ?_
        refine lv_dup2_11 (pc := 70) hx hb dX7_goes_70 rfl rfl ?_
        refine va_iald (pc := 71) (D := E.1) hx hb hK hP 1 0 rfl rfl (by decide : ¬ ((0 : Int32) < 0 ∨ 31 ≤ (0 : Int32).toNatClampNeg)) dX7_goes_71 ?_
        refine W.eq (g2 := F0 m 72 ls [.int (w.1 0), .int 0, .ref a1]) rfl ?_
        refine lv_iconst (pc := 72) (v := 1) hx hb dX7_goes_72 (by decide) ?_
        refine lv_iadd (pc := 73) hx hb dX7_goes_73 ?_
        refine va_iast (pc := 74) (D := E.1) hx hb hK hP (hD w) hS 1 0 rfl rfl (by decide : ¬ ((0 : Int32) < 0 ∨ 31 ≤ (0 : Int32).toNatClampNeg)) dX7_goes_74 (fun H locs hP _ hS => ?_)
        have hP : va_P E.1 vwCl (pv_wM E a0 a1 a2 a3 a4 a5 a6 a7 a8 a9 a10 ((upd w.1 0 ((w.1 0) + 1)), w.2.1, w.2.2.1, w.2.2.2.1, w.2.2.2.2.1, w.2.2.2.2.2.1, w.2.2.2.2.2.2.1, w.2.2.2.2.2.2.2.1, w.2.2.2.2.2.2.2.2.1, w.2.2.2.2.2.2.2.2.2.1, w.2.2.2.2.2.2.2.2.2.2.1, w.2.2.2.2.2.2.2.2.2.2.2.1, w.2.2.2.2.2.2.2.2.2.2.2.2.1, w.2.2.2.2.2.2.2.2.2.2.2.2.2.1, w.2.2.2.2.2.2.2.2.2.2.2.2.2.2.1, w.2.2.2.2.2.2.2.2.2.2.2.2.2.2.2.1, w.2.2.2.2.2.2.2.2.2.2.2.2.2.2.2.2)) H := hP
        exact pv_rvRW (w := fun w : pv_MT => pv_wM E a0 a1 a2 a3 a4 a5 a6 a7 a8 a9 a10 w) hx hb hr hlk hAe hS hP (Option.some.inj hq) dX7_goes_75
      · have hq := pv_neg c_3 hq
        refine lv_aload_n (pc := 28) hx hb dX7_goes_28 rfl (lv_at hl 0 rfl) ?_
        refine va_get (pc := 29) (D := E.1) (ci := 5) (v := .ref a1) (C := RX7) (T := TX7) (N := 17) hx hb hts i_RX7 hown hK hP 0 rfl rfl 0 (Nat.le_of_ble_eq_true rfl) fl_9 (fun _ h9 => h9) rfl dX7_goes_29 ?_
        refine lv_iconst (pc := 32) (v := 5) hx hb dX7_goes_32 (by decide) ?_
        refine lv_iload_n (pc := 33) hx hb dX7_goes_33 rfl (lv_at hl 1 rfl) ?_
        refine lv_iadd (pc := 34) hx hb dX7_goes_34 ?_
        refine lv_aload_n (pc := 35) hx hb dX7_goes_35 rfl (lv_at hl 0 rfl) ?_
        refine va_get (pc := 36) (D := E.1) (ci := 5) (v := .ref a1) (C := RX7) (T := TX7) (N := 17) hx hb hts i_RX7 hown hK hP 0 rfl rfl 0 (Nat.le_of_ble_eq_true rfl) fl_9 (fun _ h9 => h9) rfl dX7_goes_36 ?_
        refine lv_iconst (pc := 39) (v := 5) hx hb dX7_goes_39 (by decide) ?_
        refine lv_iload_n (pc := 40) hx hb dX7_goes_40 rfl (lv_at hl 1 rfl) ?_
        refine lv_iadd (pc := 41) hx hb dX7_goes_41 ?_
        obtain ⟨h_4, hq⟩ := pv_gd_some hq
        refine va_iald (pc := 42) (D := E.1) hx hb hK hP 1 0 rfl rfl h_4 dX7_goes_42 ?_
        refine lv_aload_n (pc := 43) hx hb dX7_goes_43 rfl (lv_at hl 0 rfl) ?_
        refine lv_iload_n (pc := 44) hx hb dX7_goes_44 rfl (lv_at hl 1 rfl) ?_
        obtain ⟨u_5, hu_5, hq⟩ := pv_bind hq
        refine pv_vROf (pc := 45) (rest := [.int (w.1 (5 + x1).toNatClampNeg), .int (5 + x1), .ref a1]) (st1 := [.int u_5, .int (w.1 (5 + x1).toNatClampNeg), .int (5 + x1), .ref a1]) (ws := pv_wM E a0 a1 a2 a3 a4 a5 a6 a7 a8 a9 a10 w) [.int x1] ⟨hx, hb, hml, hown, hts⟩ hE hA hS hP (hD w) (c_X7_landsOf l E a0 a1 a2 a3 a4 a5 a6 a7 a8 a9 a10 x1 w u_5 hu_5) (cwV 1 hts gX7_goes_X7_landsOf rfl rfl rfl (by decide +kernel) ⟨(Nat.le_of_ble_eq_true rfl), (Nat.le_of_ble_eq_true rfl)⟩) (va_recv hK hP (ci := 5) (q0 := 0) rfl rfl) rfl hl.1 rfl rfl (Nat.le_of_ble_eq_true rfl) dX7_goes_45 ⟨Nat.zero_le _, Nat.zero_le _⟩ (fun locs hS => ?_)
        obtain ⟨u_6, hu_6, hq⟩ := pv_bind hq
        refine pv_sRO (pc := 48) (rest := [.int (w.1 (5 + x1).toNatClampNeg), .int (5 + x1), .ref a1]) (st1 := [.int u_6, .int (w.1 (5 + x1).toNatClampNeg), .int (5 + x1), .ref a1]) (ws := pv_wM E a0 a1 a2 a3 a4 a5 a6 a7 a8 a9 a10 w) [.int u_5] ⟨hx, hb, hml, hown, hts⟩ hE hA hS hP (hD w) (c_X7_bits l E u_5 u_6 hu_6) (va_cwS 1 hts gX7_goes_X7_bits rfl rfl rfl (by decide +kernel) ⟨(Nat.le_of_ble_eq_true rfl), (Nat.le_of_ble_eq_true rfl)⟩) [] rfl rfl rfl hl.1 rfl rfl (Nat.le_of_ble_eq_true rfl) dX7_goes_48 ⟨Nat.zero_le _, Nat.zero_le _⟩ (fun locs hS => ?_)
        refine lv_iadd (pc := 51) hx hb dX7_goes_51 ?_
        refine lv_iconst (pc := 52) (v := 0) hx hb dX7_goes_52 (by decide) ?_
        refine lv_ldc (pc := 53) hx hb hown lc_65 dX7_goes_53 ?_
        refine pv_sRO (pc := 55) (rest := [.int (5 + x1), .ref a1]) (st1 := [.int (m_X7_held ((w.1 (5 + x1).toNatClampNeg) + u_6) 0 99999), .int (5 + x1), .ref a1]) (ws := pv_wM E a0 a1 a2 a3 a4 a5 a6 a7 a8 a9 a10 w) [.int ((w.1 (5 + x1).toNatClampNeg) + u_6), .int 0, .int 99999] ⟨hx, hb, hml, hown, hts⟩ hE hA hS hP (hD w) (c_X7_held l E ((w.1 (5 + x1).toNatClampNeg) + u_6) 0 99999) (va_cwS 3 hts gX7_goes_X7_held rfl rfl rfl (by decide +kernel) ⟨(Nat.le_of_ble_eq_true rfl), (Nat.le_of_ble_eq_true rfl)⟩) [] rfl rfl rfl hl.1 rfl rfl (Nat.le_of_ble_eq_true rfl) dX7_goes_55 ⟨Nat.zero_le _, Nat.zero_le _⟩ (fun locs hS => ?_)
        obtain ⟨h_7, hq⟩ := pv_gd_some hq
        refine va_iast (pc := 58) (D := E.1) hx hb hK hP (hD w) hS 1 0 rfl rfl h_7 dX7_goes_58 (fun H locs hP _ hS => ?_)
        have hP : va_P E.1 vwCl (pv_wM E a0 a1 a2 a3 a4 a5 a6 a7 a8 a9 a10 ((upd w.1 (5 + x1).toNatClampNeg (m_X7_held ((w.1 (5 + x1).toNatClampNeg) + u_6) 0 99999)), w.2.1, w.2.2.1, w.2.2.2.1, w.2.2.2.2.1, w.2.2.2.2.2.1, w.2.2.2.2.2.2.1, w.2.2.2.2.2.2.2.1, w.2.2.2.2.2.2.2.2.1, w.2.2.2.2.2.2.2.2.2.1, w.2.2.2.2.2.2.2.2.2.2.1, w.2.2.2.2.2.2.2.2.2.2.2.1, w.2.2.2.2.2.2.2.2.2.2.2.2.1, w.2.2.2.2.2.2.2.2.2.2.2.2.2.1, w.2.2.2.2.2.2.2.2.2.2.2.2.2.2.1, w.2.2.2.2.2.2.2.2.2.2.2.2.2.2.2.1, w.2.2.2.2.2.2.2.2.2.2.2.2.2.2.2.2)) H := hP
        refine lv_iinc (pc := 59) (v := (x1 + 1)) (lv' := [(1, .int (x1 + 1)), (0, .ref a0)]) hx hb dX7_goes_59 hl (k := 1) rfl rfl (Nat.le_of_ble_eq_true rfl) rfl (fun ls hl => ?_)
        refine lv_goto (pc := 62) (tgt := 23) hx hb dX7_goes_62 (by decide) ?_
        exact ih (x1 + 1) ((upd w.1 (5 + x1).toNatClampNeg (m_X7_held ((w.1 (5 + x1).toNatClampNeg) + u_6) 0 99999)), w.2.1, w.2.2.1, w.2.2.2.1, w.2.2.2.2.1, w.2.2.2.2.2.1, w.2.2.2.2.2.2.1, w.2.2.2.2.2.2.2.1, w.2.2.2.2.2.2.2.2.1, w.2.2.2.2.2.2.2.2.2.1, w.2.2.2.2.2.2.2.2.2.2.1, w.2.2.2.2.2.2.2.2.2.2.2.1, w.2.2.2.2.2.2.2.2.2.2.2.2.1, w.2.2.2.2.2.2.2.2.2.2.2.2.2.1, w.2.2.2.2.2.2.2.2.2.2.2.2.2.2.1, w.2.2.2.2.2.2.2.2.2.2.2.2.2.2.2.1, w.2.2.2.2.2.2.2.2.2.2.2.2.2.2.2.2) H locs ls hP hS (lv_sub hl [1, 0] rfl) hq
  suffices M0 : ∀ (H : Heap) (locs : List Loc), va_P E.1 vwCl (pv_wM E a0 a1 a2 a3 a4 a5 a6 a7 a8 a9 a10 w0) H → va_S A s.heap H locs → W p l e r_X7_goes s m args below meth c H locs 0 0 (MQ below (pv_Rw E (pv_wM E a0 a1 a2 a3 a4 a5 a6 a7 a8 a9 a10 w0) sz (none) ((fun w : pv_MT => pv_wM E a0 a1 a2 a3 a4 a5 a6 a7 a8 a9 a10 w) F)) args s 0 0 A) (F0 m 0 ls []) from M0 s.heap [] hP hS
  intro H locs hP hS
  refine lv_aload_n (pc := 0) hx hb dX7_goes_0 rfl (lv_at hl 0 rfl) ?_
  refine va_get (pc := 1) (D := E.1) (ci := 5) (v := .ref a1) (C := RX7) (T := TX7) (N := 17) hx hb hts i_RX7 hown hK hP 0 rfl rfl 0 (Nat.le_of_ble_eq_true rfl) fl_9 (fun _ h9 => h9) rfl dX7_goes_1 ?_
  refine lv_bipush (pc := 4) (v := 7) hx hb dX7_goes_4 (by decide) ?_
  refine lv_aload_n (pc := 6) hx hb dX7_goes_6 rfl (lv_at hl 0 rfl) ?_
  refine va_get (pc := 7) (D := E.1) (ci := 5) (v := .ref a1) (C := RX7) (T := TX7) (N := 17) hx hb hts i_RX7 hown hK hP 0 rfl rfl 0 (Nat.le_of_ble_eq_true rfl) fl_9 (fun _ h9 => h9) rfl dX7_goes_7 ?_
  refine lv_iconst (pc := 10) (v := 0) hx hb dX7_goes_10 (by decide) ?_
  refine va_iald (pc := 11) (D := E.1) hx hb hK hP 1 0 rfl rfl (by decide : ¬ ((0 : Int32) < 0 ∨ 31 ≤ (0 : Int32).toNatClampNeg)) dX7_goes_11 ?_
  refine W.eq (g2 := F0 m 12 ls [.int (w0.1 0), .int 7, .ref a1]) rfl ?_
  refine lv_bipush (pc := 12) (v := 8) hx hb dX7_goes_12 (by decide) ?_
  refine pv_irem (pc := 14) hx hb dX7_goes_14 (by decide) ?_
  refine lv_iadd (pc := 15) hx hb dX7_goes_15 ?_
  refine lv_aload_n (pc := 16) hx hb dX7_goes_16 rfl (lv_at hl 0 rfl) ?_
  obtain ⟨u_1, hu_1, hq⟩ := pv_bind hq
  refine pv_vRWf (pc := 17) (rest := [.int (7 + (pv_rem (w0.1 0) 8)), .ref a1]) (st1 := [.int u_1.1, .int (7 + (pv_rem (w0.1 0) 8)), .ref a1]) (ws := pv_wM E a0 a1 a2 a3 a4 a5 a6 a7 a8 a9 a10 w0) [] ⟨hx, hb, hml, hown, hts⟩ hE hA hS hP (hD w0) (c_X7_wonBy l E a0 a1 a2 a3 a4 a5 a6 a7 a8 a9 a10 w0 u_1 hu_1) (cwV 0 hts gX7_goes_X7_wonBy rfl rfl rfl (by decide +kernel) ⟨(Nat.le_of_ble_eq_true rfl), (Nat.le_of_ble_eq_true rfl)⟩) (va_recv hK hP (ci := 5) (q0 := 0) rfl rfl) rfl hl.1 rfl rfl (Nat.le_of_ble_eq_true rfl) dX7_goes_17 ⟨Nat.zero_le _, Nat.zero_le _⟩ (fun H locs hP hS => ?_)
  have hP : va_P E.1 vwCl (pv_wM E a0 a1 a2 a3 a4 a5 a6 a7 a8 a9 a10 u_1.2) H := hP
  obtain ⟨h_2, hq⟩ := pv_gd_some hq
  refine va_iast (pc := 20) (D := E.1) hx hb hK hP (hD u_1.2) hS 1 0 rfl rfl h_2 dX7_goes_20 (fun H locs hP _ hS => ?_)
  have hP : va_P E.1 vwCl (pv_wM E a0 a1 a2 a3 a4 a5 a6 a7 a8 a9 a10 ((upd u_1.2.1 (7 + (pv_rem (w0.1 0) 8)).toNatClampNeg u_1.1), u_1.2.2.1, u_1.2.2.2.1, u_1.2.2.2.2.1, u_1.2.2.2.2.2.1, u_1.2.2.2.2.2.2.1, u_1.2.2.2.2.2.2.2.1, u_1.2.2.2.2.2.2.2.2.1, u_1.2.2.2.2.2.2.2.2.2.1, u_1.2.2.2.2.2.2.2.2.2.2.1, u_1.2.2.2.2.2.2.2.2.2.2.2.1, u_1.2.2.2.2.2.2.2.2.2.2.2.2.1, u_1.2.2.2.2.2.2.2.2.2.2.2.2.2.1, u_1.2.2.2.2.2.2.2.2.2.2.2.2.2.2.1, u_1.2.2.2.2.2.2.2.2.2.2.2.2.2.2.2.1, u_1.2.2.2.2.2.2.2.2.2.2.2.2.2.2.2.2.1, u_1.2.2.2.2.2.2.2.2.2.2.2.2.2.2.2.2.2)) H := hP
  refine lv_iconst (pc := 21) (v := 0) hx hb dX7_goes_21 (by decide) ?_
  refine lv_istore_n (pc := 22) (lv' := [(1, .int 0), (0, .ref a0)]) hx hb dX7_goes_22 rfl hl (Nat.le_of_ble_eq_true rfl) rfl (fun ls hl => ?_)
  exact L_23 300 0 ((upd u_1.2.1 (7 + (pv_rem (w0.1 0) 8)).toNatClampNeg u_1.1), u_1.2.2.1, u_1.2.2.2.1, u_1.2.2.2.2.1, u_1.2.2.2.2.2.1, u_1.2.2.2.2.2.2.1, u_1.2.2.2.2.2.2.2.1, u_1.2.2.2.2.2.2.2.2.1, u_1.2.2.2.2.2.2.2.2.2.1, u_1.2.2.2.2.2.2.2.2.2.2.1, u_1.2.2.2.2.2.2.2.2.2.2.2.1, u_1.2.2.2.2.2.2.2.2.2.2.2.2.1, u_1.2.2.2.2.2.2.2.2.2.2.2.2.2.1, u_1.2.2.2.2.2.2.2.2.2.2.2.2.2.2.1, u_1.2.2.2.2.2.2.2.2.2.2.2.2.2.2.2.1, u_1.2.2.2.2.2.2.2.2.2.2.2.2.2.2.2.2.1, u_1.2.2.2.2.2.2.2.2.2.2.2.2.2.2.2.2.2) H locs ls hP hS (lv_sub hl [1, 0] rfl) hq
def m_X7_goesFor_2 : Nat → Int32 → Int32 → pv_MT → Option (pv_MT)
  | 0 => fun _ _ _ => none
  | n + 1 => fun x1 x2 w =>
    if x1 ≤ x2 then (some w) else (Option.bind (m_X7_goes w) fun u_2 => ((m_X7_goesFor_2 n) x1 (x2 + 1) u_2))
def m_X7_goesFor (x1 : Int32) (w : pv_MT) : Option (pv_MT) :=
  m_X7_goesFor_2 300 x1 0 w
abbrev r_X7_goesFor : Room := { frames := 7, cells := 0, slots := 0, locals := 165 }
set_option maxHeartbeats 4000000 in
set_option maxRecDepth 100000 in
theorem c_X7_goesFor (l : Launch) (E : pv_E) (a0 a1 a2 a3 a4 a5 a6 a7 a8 a9 a10 : Nat) (x1 : Int32) (w0 : pv_MT) (F : pv_MT) (hq : m_X7_goesFor x1 w0 = some F) : pv_RW l E yX7_goesFor wsX7_goesFor r_X7_goesFor (pv_wM E a0 a1 a2 a3 a4 a5 a6 a7 a8 a9 a10 w0) [.ref a0, .int x1] (none) (pv_wM E a0 a1 a2 a3 a4 a5 a6 a7 a8 a9 a10 F) := by
  intro sz
  refine pv_mk (by decide) rfl (Nat.le_of_ble_eq_true rfl) ?_
  intro p e s m args below meth c A hx hb hr hml hown hts hlk hAe hP hD0 hA hE hS ls hl
  have hown : s.vm.findClass RX7 = some m.cls := hown
  have hK := hE.1
  have hD : ∀ w : pv_MT, va_D A (pv_wM E a0 a1 a2 a3 a4 a5 a6 a7 a8 a9 a10 w) := fun w => pv_Dm (ws := pv_wM E a0 a1 a2 a3 a4 a5 a6 a7 a8 a9 a10 w0) (ws' := pv_wM E a0 a1 a2 a3 a4 a5 a6 a7 a8 a9 a10 w) rfl hD0
  have hP : va_P E.1 vwCl (pv_wM E a0 a1 a2 a3 a4 a5 a6 a7 a8 a9 a10 w0) s.heap := hP
  have hl : lv_has ls 3 [(0, .ref a0), (1, .int x1)] := hl
  have L_2 : ∀ n : Nat, ∀ (x1 : Int32) (x2 : Int32) (w : pv_MT) (H : Heap) (locs : List Loc) (ls : Array Slot), va_P E.1 vwCl (pv_wM E a0 a1 a2 a3 a4 a5 a6 a7 a8 a9 a10 w) H → va_S A s.heap H locs → lv_has ls 3 [(0, .ref a0), (1, .int x1), (2, .int x2)] → m_X7_goesFor_2 n x1 x2 w = some F → W p l e r_X7_goesFor s m args below meth c H locs 0 0 (MQ below (pv_Rw E (pv_wM E a0 a1 a2 a3 a4 a5 a6 a7 a8 a9 a10 w0) sz (none) ((fun w : pv_MT => pv_wM E a0 a1 a2 a3 a4 a5 a6 a7 a8 a9 a10 w) F)) args s 0 0 A) (F0 m 2 ls []) := by
    intro n
    induction n with
    | zero =>
      intro x1 x2 w H locs ls hP hS hl hq
      exact (pv_no hq).elim
    | succ n ih =>
      intro x1 x2 w H locs ls hP hS hl hq
      refine lv_iload_n (pc := 2) hx hb dX7_goesFor_2 rfl (lv_at hl 2 rfl) ?_
      refine lv_iload_n (pc := 3) hx hb dX7_goesFor_3 rfl (lv_at hl 1 rfl) ?_
      refine lv_icmp_ge (pc := 4) (tgt := 17) hx hb dX7_goesFor_4 (by decide) (fun c_1 => ?_) (fun c_1 => ?_)
      · have hq := pv_pos c_1 hq
        exact pv_rvRW (w := fun w : pv_MT => pv_wM E a0 a1 a2 a3 a4 a5 a6 a7 a8 a9 a10 w) hx hb hr hlk hAe hS hP (Option.some.inj hq) dX7_goesFor_17
      · have hq := pv_neg c_1 hq
        refine lv_aload_n (pc := 7) hx hb dX7_goesFor_7 rfl (lv_at hl 0 rfl) ?_
        obtain ⟨u_2, hu_2, hq⟩ := pv_bind hq
        refine pv_vRWf (pc := 8) (rest := []) (st1 := []) (ws := pv_wM E a0 a1 a2 a3 a4 a5 a6 a7 a8 a9 a10 w) [] ⟨hx, hb, hml, hown, hts⟩ hE hA hS hP (hD w) (c_X7_goes l E a0 a1 a2 a3 a4 a5 a6 a7 a8 a9 a10 w u_2 hu_2) (cwV 0 hts gX7_goesFor_X7_goes rfl rfl rfl (by decide +kernel) ⟨(Nat.le_of_ble_eq_true rfl), (Nat.le_of_ble_eq_true rfl)⟩) (va_recv hK hP (ci := 5) (q0 := 0) rfl rfl) rfl hl.1 rfl rfl (Nat.le_of_ble_eq_true rfl) dX7_goesFor_8 ⟨Nat.zero_le _, Nat.zero_le _⟩ (fun H locs hP hS => ?_)
        have hP : va_P E.1 vwCl (pv_wM E a0 a1 a2 a3 a4 a5 a6 a7 a8 a9 a10 u_2) H := hP
        refine lv_iinc (pc := 11) (v := (x2 + 1)) (lv' := [(2, .int (x2 + 1)), (0, .ref a0), (1, .int x1)]) hx hb dX7_goesFor_11 hl (k := 2) rfl rfl (Nat.le_of_ble_eq_true rfl) rfl (fun ls hl => ?_)
        refine lv_goto (pc := 14) (tgt := 2) hx hb dX7_goesFor_14 (by decide) ?_
        exact ih x1 (x2 + 1) u_2 H locs ls hP hS (lv_sub hl [1, 2, 0] rfl) hq
  suffices M0 : ∀ (H : Heap) (locs : List Loc), va_P E.1 vwCl (pv_wM E a0 a1 a2 a3 a4 a5 a6 a7 a8 a9 a10 w0) H → va_S A s.heap H locs → W p l e r_X7_goesFor s m args below meth c H locs 0 0 (MQ below (pv_Rw E (pv_wM E a0 a1 a2 a3 a4 a5 a6 a7 a8 a9 a10 w0) sz (none) ((fun w : pv_MT => pv_wM E a0 a1 a2 a3 a4 a5 a6 a7 a8 a9 a10 w) F)) args s 0 0 A) (F0 m 0 ls []) from M0 s.heap [] hP hS
  intro H locs hP hS
  refine lv_iconst (pc := 0) (v := 0) hx hb dX7_goesFor_0 (by decide) ?_
  refine lv_istore_n (pc := 1) (lv' := [(2, .int 0), (0, .ref a0), (1, .int x1)]) hx hb dX7_goesFor_1 rfl hl (Nat.le_of_ble_eq_true rfl) rfl (fun ls hl => ?_)
  exact L_2 300 x1 0 w0 H locs ls hP hS (lv_sub hl [1, 2, 0] rfl) hq
def m_X7_months (x1 : Int32) (w : pv_MT) : Option (Int32 × pv_MT) :=
  if (m_X7_in x1.toInt64 1 60) = 0 then (Option.bind (m_X7_finds (-1000000001) w) fun u_7 => (some (u_7.1, u_7.2))) else (if ((w.1 0) + x1) ≤ 9999 then (Option.bind (m_X7_goesFor x1 w) fun u_3 => (Option.bind (m_X7_landsOf (-1) u_3) fun u_4 => (Option.bind (m_X7_bits u_4) fun u_5 => (some (u_5, u_3))))) else (Option.bind (m_X7_finds (-1000000005) w) fun u_6 => (some (u_6.1, u_6.2))))
abbrev r_X7_months : Room := { frames := 8, cells := 0, slots := 0, locals := 187 }
set_option maxHeartbeats 4000000 in
set_option maxRecDepth 100000 in
theorem c_X7_months (l : Launch) (E : pv_E) (a0 a1 a2 a3 a4 a5 a6 a7 a8 a9 a10 : Nat) (x1 : Int32) (w0 : pv_MT) (F : Int32 × pv_MT) (hq : m_X7_months x1 w0 = some F) : pv_RW l E yX7_months wsX7_months r_X7_months (pv_wM E a0 a1 a2 a3 a4 a5 a6 a7 a8 a9 a10 w0) [.ref a0, .int x1] (some (.int F.1)) (pv_wM E a0 a1 a2 a3 a4 a5 a6 a7 a8 a9 a10 F.2) := by
  intro sz
  refine pv_mk (by decide) rfl (Nat.le_of_ble_eq_true rfl) ?_
  intro p e s m args below meth c A hx hb hr hml hown hts hlk hAe hP hD0 hA hE hS ls hl
  have hown : s.vm.findClass RX7 = some m.cls := hown
  have hK := hE.1
  have hD : ∀ w : pv_MT, va_D A (pv_wM E a0 a1 a2 a3 a4 a5 a6 a7 a8 a9 a10 w) := fun w => pv_Dm (ws := pv_wM E a0 a1 a2 a3 a4 a5 a6 a7 a8 a9 a10 w0) (ws' := pv_wM E a0 a1 a2 a3 a4 a5 a6 a7 a8 a9 a10 w) rfl hD0
  have hP : va_P E.1 vwCl (pv_wM E a0 a1 a2 a3 a4 a5 a6 a7 a8 a9 a10 w0) s.heap := hP
  have fl_9 : (Cond.fieldLink RX7 9 "ProvinceCardsModel" "m" "[I").before args s = true := hts _ (by decide +kernel)
  have lc_122 : (Cond.constant RX7 122 (-1000000005)).before args s = true := hts _ (by decide +kernel)
  have lc_41 : (Cond.constant RX7 41 (-1000000001)).before args s = true := hts _ (by decide +kernel)
  have i_RX7 : ∀ w ∈ wsX70, w ∈ wsX7_months := by decide +kernel
  have hl : lv_has ls 2 [(0, .ref a0), (1, .int x1)] := hl
  suffices M0 : ∀ (H : Heap) (locs : List Loc), va_P E.1 vwCl (pv_wM E a0 a1 a2 a3 a4 a5 a6 a7 a8 a9 a10 w0) H → va_S A s.heap H locs → W p l e r_X7_months s m args below meth c H locs 0 0 (MQ below (pv_Rw E (pv_wM E a0 a1 a2 a3 a4 a5 a6 a7 a8 a9 a10 w0) sz (some (.int F.1)) ((fun w : pv_MT => pv_wM E a0 a1 a2 a3 a4 a5 a6 a7 a8 a9 a10 w) F.2)) args s 0 0 A) (F0 m 0 ls []) from M0 s.heap [] hP hS
  intro H locs hP hS
  refine lv_iload_n (pc := 0) hx hb dX7_months_0 rfl (lv_at hl 1 rfl) ?_
  refine lv_i2l (pc := 1) (v := x1.toInt64) hx hb dX7_months_1 rfl ?_
  refine lv_iconst (pc := 2) (v := 1) hx hb dX7_months_2 (by decide) ?_
  refine lv_bipush (pc := 3) (v := 60) hx hb dX7_months_3 (by decide) ?_
  refine pv_sRO (pc := 5) (rest := []) (st1 := [.int (m_X7_in x1.toInt64 1 60)]) (ws := pv_wM E a0 a1 a2 a3 a4 a5 a6 a7 a8 a9 a10 w0) [.long x1.toInt64, .int 1, .int 60] ⟨hx, hb, hml, hown, hts⟩ hE hA hS hP (hD w0) (c_X7_in l E x1.toInt64 1 60) (va_cwS 3 hts gX7_months_X7_in rfl rfl rfl (by decide +kernel) ⟨(Nat.le_of_ble_eq_true rfl), (Nat.le_of_ble_eq_true rfl)⟩) [] rfl rfl rfl hl.1 rfl rfl (Nat.le_of_ble_eq_true rfl) dX7_months_5 ⟨Nat.zero_le _, Nat.zero_le _⟩ (fun locs hS => ?_)
  refine lv_if_ne (pc := 8) (tgt := 18) hx hb dX7_months_8 (by decide) (fun c_1 => ?_) (fun c_1 => ?_)
  · have hq := pv_neg c_1 hq
    refine lv_aload_n (pc := 18) hx hb dX7_months_18 rfl (lv_at hl 0 rfl) ?_
    refine va_get (pc := 19) (D := E.1) (ci := 5) (v := .ref a1) (C := RX7) (T := TX7) (N := 17) hx hb hts i_RX7 hown hK hP 0 rfl rfl 0 (Nat.le_of_ble_eq_true rfl) fl_9 (fun _ h9 => h9) rfl dX7_months_19 ?_
    refine lv_iconst (pc := 22) (v := 0) hx hb dX7_months_22 (by decide) ?_
    refine va_iald (pc := 23) (D := E.1) hx hb hK hP 1 0 rfl rfl (by decide : ¬ ((0 : Int32) < 0 ∨ 31 ≤ (0 : Int32).toNatClampNeg)) dX7_months_23 ?_
    refine W.eq (g2 := F0 m 24 ls [.int (w0.1 0)]) rfl ?_
    refine lv_iload_n (pc := 24) hx hb dX7_months_24 rfl (lv_at hl 1 rfl) ?_
    refine lv_iadd (pc := 25) hx hb dX7_months_25 ?_
    refine lv_sipush (pc := 26) (v := 9999) hx hb dX7_months_26 (by decide) ?_
    refine lv_icmp_le (pc := 29) (tgt := 39) hx hb dX7_months_29 (by decide) (fun c_2 => ?_) (fun c_2 => ?_)
    · have hq := pv_pos c_2 hq
      refine lv_aload_n (pc := 39) hx hb dX7_months_39 rfl (lv_at hl 0 rfl) ?_
      refine lv_iload_n (pc := 40) hx hb dX7_months_40 rfl (lv_at hl 1 rfl) ?_
      obtain ⟨u_3, hu_3, hq⟩ := pv_bind hq
      refine pv_vRWf (pc := 41) (rest := []) (st1 := []) (ws := pv_wM E a0 a1 a2 a3 a4 a5 a6 a7 a8 a9 a10 w0) [.int x1] ⟨hx, hb, hml, hown, hts⟩ hE hA hS hP (hD w0) (c_X7_goesFor l E a0 a1 a2 a3 a4 a5 a6 a7 a8 a9 a10 x1 w0 u_3 hu_3) (cwV 1 hts gX7_months_X7_goesFor rfl rfl rfl (by decide +kernel) ⟨(Nat.le_of_ble_eq_true rfl), (Nat.le_of_ble_eq_true rfl)⟩) (va_recv hK hP (ci := 5) (q0 := 0) rfl rfl) rfl hl.1 rfl rfl (Nat.le_of_ble_eq_true rfl) dX7_months_41 ⟨Nat.zero_le _, Nat.zero_le _⟩ (fun H locs hP hS => ?_)
      have hP : va_P E.1 vwCl (pv_wM E a0 a1 a2 a3 a4 a5 a6 a7 a8 a9 a10 u_3) H := hP
      refine lv_aload_n (pc := 44) hx hb dX7_months_44 rfl (lv_at hl 0 rfl) ?_
      refine lv_iconst (pc := 45) (v := (-1)) hx hb dX7_months_45 (by decide) ?_
      obtain ⟨u_4, hu_4, hq⟩ := pv_bind hq
      refine pv_vROf (pc := 46) (rest := []) (st1 := [.int u_4]) (ws := pv_wM E a0 a1 a2 a3 a4 a5 a6 a7 a8 a9 a10 u_3) [.int (-1)] ⟨hx, hb, hml, hown, hts⟩ hE hA hS hP (hD u_3) (c_X7_landsOf l E a0 a1 a2 a3 a4 a5 a6 a7 a8 a9 a10 (-1) u_3 u_4 hu_4) (cwV 1 hts gX7_months_X7_landsOf rfl rfl rfl (by decide +kernel) ⟨(Nat.le_of_ble_eq_true rfl), (Nat.le_of_ble_eq_true rfl)⟩) (va_recv hK hP (ci := 5) (q0 := 0) rfl rfl) rfl hl.1 rfl rfl (Nat.le_of_ble_eq_true rfl) dX7_months_46 ⟨Nat.zero_le _, Nat.zero_le _⟩ (fun locs hS => ?_)
      obtain ⟨u_5, hu_5, hq⟩ := pv_bind hq
      refine pv_sRO (pc := 49) (rest := []) (st1 := [.int u_5]) (ws := pv_wM E a0 a1 a2 a3 a4 a5 a6 a7 a8 a9 a10 u_3) [.int u_4] ⟨hx, hb, hml, hown, hts⟩ hE hA hS hP (hD u_3) (c_X7_bits l E u_4 u_5 hu_5) (va_cwS 1 hts gX7_months_X7_bits rfl rfl rfl (by decide +kernel) ⟨(Nat.le_of_ble_eq_true rfl), (Nat.le_of_ble_eq_true rfl)⟩) [] rfl rfl rfl hl.1 rfl rfl (Nat.le_of_ble_eq_true rfl) dX7_months_49 ⟨Nat.zero_le _, Nat.zero_le _⟩ (fun locs hS => ?_)
      exact pv_riRW (w := fun w : pv_MT => pv_wM E a0 a1 a2 a3 a4 a5 a6 a7 a8 a9 a10 w) hx hb hr hlk hAe hS hP (Option.some.inj hq) dX7_months_52
    · have hq := pv_neg c_2 hq
      refine lv_aload_n (pc := 32) hx hb dX7_months_32 rfl (lv_at hl 0 rfl) ?_
      refine lv_ldc (pc := 33) hx hb hown lc_122 dX7_months_33 ?_
      obtain ⟨u_6, hu_6, hq⟩ := pv_bind hq
      refine pv_vRWf (pc := 35) (rest := []) (st1 := [.int u_6.1]) (ws := pv_wM E a0 a1 a2 a3 a4 a5 a6 a7 a8 a9 a10 w0) [.int (-1000000005)] ⟨hx, hb, hml, hown, hts⟩ hE hA hS hP (hD w0) (c_X7_finds l E a0 a1 a2 a3 a4 a5 a6 a7 a8 a9 a10 (-1000000005) w0 u_6 hu_6) (cwV 1 hts gX7_months_X7_finds rfl rfl rfl (by decide +kernel) ⟨(Nat.le_of_ble_eq_true rfl), (Nat.le_of_ble_eq_true rfl)⟩) (va_recv hK hP (ci := 5) (q0 := 0) rfl rfl) rfl hl.1 rfl rfl (Nat.le_of_ble_eq_true rfl) dX7_months_35 ⟨Nat.zero_le _, Nat.zero_le _⟩ (fun H locs hP hS => ?_)
      have hP : va_P E.1 vwCl (pv_wM E a0 a1 a2 a3 a4 a5 a6 a7 a8 a9 a10 u_6.2) H := hP
      exact pv_riRW (w := fun w : pv_MT => pv_wM E a0 a1 a2 a3 a4 a5 a6 a7 a8 a9 a10 w) hx hb hr hlk hAe hS hP (Option.some.inj hq) dX7_months_38
  · have hq := pv_pos c_1 hq
    refine lv_aload_n (pc := 11) hx hb dX7_months_11 rfl (lv_at hl 0 rfl) ?_
    refine lv_ldc (pc := 12) hx hb hown lc_41 dX7_months_12 ?_
    obtain ⟨u_7, hu_7, hq⟩ := pv_bind hq
    refine pv_vRWf (pc := 14) (rest := []) (st1 := [.int u_7.1]) (ws := pv_wM E a0 a1 a2 a3 a4 a5 a6 a7 a8 a9 a10 w0) [.int (-1000000001)] ⟨hx, hb, hml, hown, hts⟩ hE hA hS hP (hD w0) (c_X7_finds l E a0 a1 a2 a3 a4 a5 a6 a7 a8 a9 a10 (-1000000001) w0 u_7 hu_7) (cwV 1 hts gX7_months_X7_finds rfl rfl rfl (by decide +kernel) ⟨(Nat.le_of_ble_eq_true rfl), (Nat.le_of_ble_eq_true rfl)⟩) (va_recv hK hP (ci := 5) (q0 := 0) rfl rfl) rfl hl.1 rfl rfl (Nat.le_of_ble_eq_true rfl) dX7_months_14 ⟨Nat.zero_le _, Nat.zero_le _⟩ (fun H locs hP hS => ?_)
    have hP : va_P E.1 vwCl (pv_wM E a0 a1 a2 a3 a4 a5 a6 a7 a8 a9 a10 u_7.2) H := hP
    exact pv_riRW (w := fun w : pv_MT => pv_wM E a0 a1 a2 a3 a4 a5 a6 a7 a8 a9 a10 w) hx hb hr hlk hAe hS hP (Option.some.inj hq) dX7_months_17
def m_X7_thinks  (w : pv_MT) : Option (pv_MT) :=
  Option.bind (m_X7_copyAll (w.1, w.2.2.1)) fun u_1 => (some (u_1.1, w.2.1, u_1.2, w.2.2.2.1, w.2.2.2.2.1, w.2.2.2.2.2.1, w.2.2.2.2.2.2.1, w.2.2.2.2.2.2.2.1, w.2.2.2.2.2.2.2.2.1, w.2.2.2.2.2.2.2.2.2.1, w.2.2.2.2.2.2.2.2.2.2.1, w.2.2.2.2.2.2.2.2.2.2.2.1, w.2.2.2.2.2.2.2.2.2.2.2.2.1, w.2.2.2.2.2.2.2.2.2.2.2.2.2.1, w.2.2.2.2.2.2.2.2.2.2.2.2.2.2.1, w.2.2.2.2.2.2.2.2.2.2.2.2.2.2.2.1, w.2.2.2.2.2.2.2.2.2.2.2.2.2.2.2.2))
abbrev r_X7_thinks : Room := { frames := 1, cells := 0, slots := 0, locals := 22 }
set_option maxHeartbeats 4000000 in
set_option maxRecDepth 100000 in
theorem c_X7_thinks (l : Launch) (E : pv_E) (a0 a1 a2 a3 a4 a5 a6 a7 a8 a9 a10 : Nat)  (w0 : pv_MT) (F : pv_MT) (hq : m_X7_thinks w0 = some F) : pv_RW l E yX7_thinks wsX7_thinks r_X7_thinks (pv_wM E a0 a1 a2 a3 a4 a5 a6 a7 a8 a9 a10 w0) [.ref a0] (none) (pv_wM E a0 a1 a2 a3 a4 a5 a6 a7 a8 a9 a10 F) := by
  intro sz
  refine pv_mk (by decide) rfl (Nat.le_of_ble_eq_true rfl) ?_
  intro p e s m args below meth c A hx hb hr hml hown hts hlk hAe hP hD0 hA hE hS ls hl
  have hown : s.vm.findClass RX7 = some m.cls := hown
  have hK := hE.1
  have hD : ∀ w : pv_MT, va_D A (pv_wM E a0 a1 a2 a3 a4 a5 a6 a7 a8 a9 a10 w) := fun w => pv_Dm (ws := pv_wM E a0 a1 a2 a3 a4 a5 a6 a7 a8 a9 a10 w0) (ws' := pv_wM E a0 a1 a2 a3 a4 a5 a6 a7 a8 a9 a10 w) rfl hD0
  have hP : va_P E.1 vwCl (pv_wM E a0 a1 a2 a3 a4 a5 a6 a7 a8 a9 a10 w0) s.heap := hP
  have fl_9 : (Cond.fieldLink RX7 9 "ProvinceCardsModel" "m" "[I").before args s = true := hts _ (by decide +kernel)
  have fl_16 : (Cond.fieldLink RX7 16 "ProvinceCardsModel" "was" "[I").before args s = true := hts _ (by decide +kernel)
  have i_RX7 : ∀ w ∈ wsX70, w ∈ wsX7_thinks := by decide +kernel
  have hl : lv_has ls 1 [(0, .ref a0)] := hl
  suffices M0 : ∀ (H : Heap) (locs : List Loc), va_P E.1 vwCl (pv_wM E a0 a1 a2 a3 a4 a5 a6 a7 a8 a9 a10 w0) H → va_S A s.heap H locs → W p l e r_X7_thinks s m args below meth c H locs 0 0 (MQ below (pv_Rw E (pv_wM E a0 a1 a2 a3 a4 a5 a6 a7 a8 a9 a10 w0) sz (none) ((fun w : pv_MT => pv_wM E a0 a1 a2 a3 a4 a5 a6 a7 a8 a9 a10 w) F)) args s 0 0 A) (F0 m 0 ls []) from M0 s.heap [] hP hS
  intro H locs hP hS
  refine lv_aload_n (pc := 0) hx hb dX7_thinks_0 rfl (lv_at hl 0 rfl) ?_
  refine va_get (pc := 1) (D := E.1) (ci := 5) (v := .ref a1) (C := RX7) (T := TX7) (N := 17) hx hb hts i_RX7 hown hK hP 0 rfl rfl 0 (Nat.le_of_ble_eq_true rfl) fl_9 (fun _ h9 => h9) rfl dX7_thinks_1 ?_
  refine lv_aload_n (pc := 4) hx hb dX7_thinks_4 rfl (lv_at hl 0 rfl) ?_
  refine va_get (pc := 5) (D := E.1) (ci := 5) (v := .ref a3) (C := RX7) (T := TX7) (N := 17) hx hb hts i_RX7 hown hK hP 0 rfl rfl 2 (Nat.le_of_ble_eq_true rfl) fl_16 (fun _ h9 => h9) rfl dX7_thinks_5 ?_
  obtain ⟨u_1, hu_1, hq⟩ := pv_bind hq
  refine pv_sRW (pc := 8) (rest := []) (st1 := []) (ws := pv_wM E a0 a1 a2 a3 a4 a5 a6 a7 a8 a9 a10 w0) (ws' := pv_wM E a0 a1 a2 a3 a4 a5 a6 a7 a8 a9 a10 (u_1.1, w0.2.1, u_1.2, w0.2.2.2.1, w0.2.2.2.2.1, w0.2.2.2.2.2.1, w0.2.2.2.2.2.2.1, w0.2.2.2.2.2.2.2.1, w0.2.2.2.2.2.2.2.2.1, w0.2.2.2.2.2.2.2.2.2.1, w0.2.2.2.2.2.2.2.2.2.2.1, w0.2.2.2.2.2.2.2.2.2.2.2.1, w0.2.2.2.2.2.2.2.2.2.2.2.2.1, w0.2.2.2.2.2.2.2.2.2.2.2.2.2.1, w0.2.2.2.2.2.2.2.2.2.2.2.2.2.2.1, w0.2.2.2.2.2.2.2.2.2.2.2.2.2.2.2.1, w0.2.2.2.2.2.2.2.2.2.2.2.2.2.2.2.2)) [.ref a1, .ref a3] ⟨hx, hb, hml, hown, hts⟩ hE hA hS hP (hD w0) (c_X7_copyAll l E a1 a3 (w0.1, w0.2.2.1) u_1 hu_1) (va_cwS 2 hts gX7_thinks_X7_copyAll rfl rfl rfl (by decide +kernel) ⟨(Nat.le_of_ble_eq_true rfl), (Nat.le_of_ble_eq_true rfl)⟩) [1, 3] rfl rfl rfl rfl rfl hl.1 rfl rfl (Nat.le_of_ble_eq_true rfl) dX7_thinks_8 ⟨Nat.zero_le _, Nat.zero_le _⟩ (fun H locs hP hS => ?_)
  exact pv_rvRW (w := fun w : pv_MT => pv_wM E a0 a1 a2 a3 a4 a5 a6 a7 a8 a9 a10 w) hx hb hr hlk hAe hS hP (Option.some.inj hq) dX7_thinks_11
def m_X7_putsBack  (w : pv_MT) : Option (pv_MT) :=
  Option.bind (m_X7_copyAll (w.2.2.1, w.1)) fun u_1 => (some (u_1.2, w.2.1, u_1.1, w.2.2.2.1, w.2.2.2.2.1, w.2.2.2.2.2.1, w.2.2.2.2.2.2.1, w.2.2.2.2.2.2.2.1, w.2.2.2.2.2.2.2.2.1, w.2.2.2.2.2.2.2.2.2.1, w.2.2.2.2.2.2.2.2.2.2.1, w.2.2.2.2.2.2.2.2.2.2.2.1, w.2.2.2.2.2.2.2.2.2.2.2.2.1, w.2.2.2.2.2.2.2.2.2.2.2.2.2.1, w.2.2.2.2.2.2.2.2.2.2.2.2.2.2.1, w.2.2.2.2.2.2.2.2.2.2.2.2.2.2.2.1, w.2.2.2.2.2.2.2.2.2.2.2.2.2.2.2.2))
abbrev r_X7_putsBack : Room := { frames := 1, cells := 0, slots := 0, locals := 22 }
set_option maxHeartbeats 4000000 in
set_option maxRecDepth 100000 in
theorem c_X7_putsBack (l : Launch) (E : pv_E) (a0 a1 a2 a3 a4 a5 a6 a7 a8 a9 a10 : Nat)  (w0 : pv_MT) (F : pv_MT) (hq : m_X7_putsBack w0 = some F) : pv_RW l E yX7_putsBack wsX7_putsBack r_X7_putsBack (pv_wM E a0 a1 a2 a3 a4 a5 a6 a7 a8 a9 a10 w0) [.ref a0] (none) (pv_wM E a0 a1 a2 a3 a4 a5 a6 a7 a8 a9 a10 F) := by
  intro sz
  refine pv_mk (by decide) rfl (Nat.le_of_ble_eq_true rfl) ?_
  intro p e s m args below meth c A hx hb hr hml hown hts hlk hAe hP hD0 hA hE hS ls hl
  have hown : s.vm.findClass RX7 = some m.cls := hown
  have hK := hE.1
  have hD : ∀ w : pv_MT, va_D A (pv_wM E a0 a1 a2 a3 a4 a5 a6 a7 a8 a9 a10 w) := fun w => pv_Dm (ws := pv_wM E a0 a1 a2 a3 a4 a5 a6 a7 a8 a9 a10 w0) (ws' := pv_wM E a0 a1 a2 a3 a4 a5 a6 a7 a8 a9 a10 w) rfl hD0
  have hP : va_P E.1 vwCl (pv_wM E a0 a1 a2 a3 a4 a5 a6 a7 a8 a9 a10 w0) s.heap := hP
  have fl_16 : (Cond.fieldLink RX7 16 "ProvinceCardsModel" "was" "[I").before args s = true := hts _ (by decide +kernel)
  have fl_9 : (Cond.fieldLink RX7 9 "ProvinceCardsModel" "m" "[I").before args s = true := hts _ (by decide +kernel)
  have i_RX7 : ∀ w ∈ wsX70, w ∈ wsX7_putsBack := by decide +kernel
  have hl : lv_has ls 1 [(0, .ref a0)] := hl
  suffices M0 : ∀ (H : Heap) (locs : List Loc), va_P E.1 vwCl (pv_wM E a0 a1 a2 a3 a4 a5 a6 a7 a8 a9 a10 w0) H → va_S A s.heap H locs → W p l e r_X7_putsBack s m args below meth c H locs 0 0 (MQ below (pv_Rw E (pv_wM E a0 a1 a2 a3 a4 a5 a6 a7 a8 a9 a10 w0) sz (none) ((fun w : pv_MT => pv_wM E a0 a1 a2 a3 a4 a5 a6 a7 a8 a9 a10 w) F)) args s 0 0 A) (F0 m 0 ls []) from M0 s.heap [] hP hS
  intro H locs hP hS
  refine lv_aload_n (pc := 0) hx hb dX7_putsBack_0 rfl (lv_at hl 0 rfl) ?_
  refine va_get (pc := 1) (D := E.1) (ci := 5) (v := .ref a3) (C := RX7) (T := TX7) (N := 17) hx hb hts i_RX7 hown hK hP 0 rfl rfl 2 (Nat.le_of_ble_eq_true rfl) fl_16 (fun _ h9 => h9) rfl dX7_putsBack_1 ?_
  refine lv_aload_n (pc := 4) hx hb dX7_putsBack_4 rfl (lv_at hl 0 rfl) ?_
  refine va_get (pc := 5) (D := E.1) (ci := 5) (v := .ref a1) (C := RX7) (T := TX7) (N := 17) hx hb hts i_RX7 hown hK hP 0 rfl rfl 0 (Nat.le_of_ble_eq_true rfl) fl_9 (fun _ h9 => h9) rfl dX7_putsBack_5 ?_
  obtain ⟨u_1, hu_1, hq⟩ := pv_bind hq
  refine pv_sRW (pc := 8) (rest := []) (st1 := []) (ws := pv_wM E a0 a1 a2 a3 a4 a5 a6 a7 a8 a9 a10 w0) (ws' := pv_wM E a0 a1 a2 a3 a4 a5 a6 a7 a8 a9 a10 (u_1.2, w0.2.1, u_1.1, w0.2.2.2.1, w0.2.2.2.2.1, w0.2.2.2.2.2.1, w0.2.2.2.2.2.2.1, w0.2.2.2.2.2.2.2.1, w0.2.2.2.2.2.2.2.2.1, w0.2.2.2.2.2.2.2.2.2.1, w0.2.2.2.2.2.2.2.2.2.2.1, w0.2.2.2.2.2.2.2.2.2.2.2.1, w0.2.2.2.2.2.2.2.2.2.2.2.2.1, w0.2.2.2.2.2.2.2.2.2.2.2.2.2.1, w0.2.2.2.2.2.2.2.2.2.2.2.2.2.2.1, w0.2.2.2.2.2.2.2.2.2.2.2.2.2.2.2.1, w0.2.2.2.2.2.2.2.2.2.2.2.2.2.2.2.2)) [.ref a3, .ref a1] ⟨hx, hb, hml, hown, hts⟩ hE hA hS hP (hD w0) (c_X7_copyAll l E a3 a1 (w0.2.2.1, w0.1) u_1 hu_1) (va_cwS 2 hts gX7_putsBack_X7_copyAll rfl rfl rfl (by decide +kernel) ⟨(Nat.le_of_ble_eq_true rfl), (Nat.le_of_ble_eq_true rfl)⟩) [3, 1] rfl rfl rfl rfl rfl hl.1 rfl rfl (Nat.le_of_ble_eq_true rfl) dX7_putsBack_8 ⟨Nat.zero_le _, Nat.zero_le _⟩ (fun H locs hP hS => ?_)
  exact pv_rvRW (w := fun w : pv_MT => pv_wM E a0 a1 a2 a3 a4 a5 a6 a7 a8 a9 a10 w) hx hb hr hlk hAe hS hP (Option.some.inj hq) dX7_putsBack_11
def m_X7_on_18  (w : pv_MT) : Option (Int32 × pv_MT) :=
  Option.bind (m_X7_finds (-1000000001) w) fun u_3 => (some (u_3.1, u_3.2))
def m_X7_on (x1 : Int32) (x2 : Int32) (w : pv_MT) : Option (Int32 × pv_MT) :=
  Option.bind (m_X7_isLand x1) fun u_1 => (if u_1 = 0 then (m_X7_on_18 w) else (if (m_X7_in x2.toInt64 0 100) = 0 then (m_X7_on_18 w) else (Option.bind (m_X7_thinks w) fun u_5 => (Option.bind (m_X7_goesFor x2 u_5) fun u_6 => (pv_gd (7 + x1) 31 (Option.bind (m_X7_putsBack u_6) fun u_8 => (some ((u_6.1 (7 + x1).toNatClampNeg), u_8))))))))
abbrev r_X7_on : Room := { frames := 8, cells := 0, slots := 0, locals := 187 }
set_option maxHeartbeats 4000000 in
set_option maxRecDepth 100000 in
theorem c_X7_on (l : Launch) (E : pv_E) (a0 a1 a2 a3 a4 a5 a6 a7 a8 a9 a10 : Nat) (x1 : Int32) (x2 : Int32) (w0 : pv_MT) (F : Int32 × pv_MT) (hq : m_X7_on x1 x2 w0 = some F) : pv_RW l E yX7_on wsX7_on r_X7_on (pv_wM E a0 a1 a2 a3 a4 a5 a6 a7 a8 a9 a10 w0) [.ref a0, .int x1, .int x2] (some (.int F.1)) (pv_wM E a0 a1 a2 a3 a4 a5 a6 a7 a8 a9 a10 F.2) := by
  intro sz
  refine pv_mk (by decide) rfl (Nat.le_of_ble_eq_true rfl) ?_
  intro p e s m args below meth c A hx hb hr hml hown hts hlk hAe hP hD0 hA hE hS ls hl
  have hown : s.vm.findClass RX7 = some m.cls := hown
  have hK := hE.1
  have hD : ∀ w : pv_MT, va_D A (pv_wM E a0 a1 a2 a3 a4 a5 a6 a7 a8 a9 a10 w) := fun w => pv_Dm (ws := pv_wM E a0 a1 a2 a3 a4 a5 a6 a7 a8 a9 a10 w0) (ws' := pv_wM E a0 a1 a2 a3 a4 a5 a6 a7 a8 a9 a10 w) rfl hD0
  have hP : va_P E.1 vwCl (pv_wM E a0 a1 a2 a3 a4 a5 a6 a7 a8 a9 a10 w0) s.heap := hP
  have lc_41 : (Cond.constant RX7 41 (-1000000001)).before args s = true := hts _ (by decide +kernel)
  have fl_9 : (Cond.fieldLink RX7 9 "ProvinceCardsModel" "m" "[I").before args s = true := hts _ (by decide +kernel)
  have i_RX7 : ∀ w ∈ wsX70, w ∈ wsX7_on := by decide +kernel
  have hl : lv_has ls 4 [(0, .ref a0), (1, .int x1), (2, .int x2)] := hl
  have B_18 : ∀  (w : pv_MT) (H : Heap) (locs : List Loc) (ls : Array Slot), va_P E.1 vwCl (pv_wM E a0 a1 a2 a3 a4 a5 a6 a7 a8 a9 a10 w) H → va_S A s.heap H locs → lv_has ls 4 [(0, .ref a0)] → m_X7_on_18 w = some F → W p l e r_X7_on s m args below meth c H locs 0 0 (MQ below (pv_Rw E (pv_wM E a0 a1 a2 a3 a4 a5 a6 a7 a8 a9 a10 w0) sz (some (.int F.1)) ((fun w : pv_MT => pv_wM E a0 a1 a2 a3 a4 a5 a6 a7 a8 a9 a10 w) F.2)) args s 0 0 A) (F0 m 18 ls []) := by
    intro w H locs ls hP hS hl hq
    refine lv_aload_n (pc := 18) hx hb dX7_on_18 rfl (lv_at hl 0 rfl) ?_
    refine lv_ldc (pc := 19) hx hb hown lc_41 dX7_on_19 ?_
    obtain ⟨u_3, hu_3, hq⟩ := pv_bind hq
    refine pv_vRWf (pc := 21) (rest := []) (st1 := [.int u_3.1]) (ws := pv_wM E a0 a1 a2 a3 a4 a5 a6 a7 a8 a9 a10 w) [.int (-1000000001)] ⟨hx, hb, hml, hown, hts⟩ hE hA hS hP (hD w) (c_X7_finds l E a0 a1 a2 a3 a4 a5 a6 a7 a8 a9 a10 (-1000000001) w u_3 hu_3) (cwV 1 hts gX7_on_X7_finds rfl rfl rfl (by decide +kernel) ⟨(Nat.le_of_ble_eq_true rfl), (Nat.le_of_ble_eq_true rfl)⟩) (va_recv hK hP (ci := 5) (q0 := 0) rfl rfl) rfl hl.1 rfl rfl (Nat.le_of_ble_eq_true rfl) dX7_on_21 ⟨Nat.zero_le _, Nat.zero_le _⟩ (fun H locs hP hS => ?_)
    have hP : va_P E.1 vwCl (pv_wM E a0 a1 a2 a3 a4 a5 a6 a7 a8 a9 a10 u_3.2) H := hP
    exact pv_riRW (w := fun w : pv_MT => pv_wM E a0 a1 a2 a3 a4 a5 a6 a7 a8 a9 a10 w) hx hb hr hlk hAe hS hP (Option.some.inj hq) dX7_on_24
  suffices M0 : ∀ (H : Heap) (locs : List Loc), va_P E.1 vwCl (pv_wM E a0 a1 a2 a3 a4 a5 a6 a7 a8 a9 a10 w0) H → va_S A s.heap H locs → W p l e r_X7_on s m args below meth c H locs 0 0 (MQ below (pv_Rw E (pv_wM E a0 a1 a2 a3 a4 a5 a6 a7 a8 a9 a10 w0) sz (some (.int F.1)) ((fun w : pv_MT => pv_wM E a0 a1 a2 a3 a4 a5 a6 a7 a8 a9 a10 w) F.2)) args s 0 0 A) (F0 m 0 ls []) from M0 s.heap [] hP hS
  intro H locs hP hS
  refine lv_iload_n (pc := 0) hx hb dX7_on_0 rfl (lv_at hl 1 rfl) ?_
  obtain ⟨u_1, hu_1, hq⟩ := pv_bind hq
  refine pv_sRO (pc := 1) (rest := []) (st1 := [.int u_1]) (ws := pv_wM E a0 a1 a2 a3 a4 a5 a6 a7 a8 a9 a10 w0) [.int x1] ⟨hx, hb, hml, hown, hts⟩ hE hA hS hP (hD w0) (c_X7_isLand l E x1 u_1 hu_1) (va_cwS 1 hts gX7_on_X7_isLand rfl rfl rfl (by decide +kernel) ⟨(Nat.le_of_ble_eq_true rfl), (Nat.le_of_ble_eq_true rfl)⟩) [] rfl rfl rfl hl.1 rfl rfl (Nat.le_of_ble_eq_true rfl) dX7_on_1 ⟨Nat.zero_le _, Nat.zero_le _⟩ (fun locs hS => ?_)
  refine lv_if_eq (pc := 4) (tgt := 18) hx hb dX7_on_4 (by decide) (fun c_2 => ?_) (fun c_2 => ?_)
  · have hq := pv_pos c_2 hq
    exact B_18 w0 H locs ls hP hS (lv_sub hl [0] rfl) hq
  · have hq := pv_neg c_2 hq
    refine lv_iload_n (pc := 7) hx hb dX7_on_7 rfl (lv_at hl 2 rfl) ?_
    refine lv_i2l (pc := 8) (v := x2.toInt64) hx hb dX7_on_8 rfl ?_
    refine lv_iconst (pc := 9) (v := 0) hx hb dX7_on_9 (by decide) ?_
    refine lv_bipush (pc := 10) (v := 100) hx hb dX7_on_10 (by decide) ?_
    refine pv_sRO (pc := 12) (rest := []) (st1 := [.int (m_X7_in x2.toInt64 0 100)]) (ws := pv_wM E a0 a1 a2 a3 a4 a5 a6 a7 a8 a9 a10 w0) [.long x2.toInt64, .int 0, .int 100] ⟨hx, hb, hml, hown, hts⟩ hE hA hS hP (hD w0) (c_X7_in l E x2.toInt64 0 100) (va_cwS 3 hts gX7_on_X7_in rfl rfl rfl (by decide +kernel) ⟨(Nat.le_of_ble_eq_true rfl), (Nat.le_of_ble_eq_true rfl)⟩) [] rfl rfl rfl hl.1 rfl rfl (Nat.le_of_ble_eq_true rfl) dX7_on_12 ⟨Nat.zero_le _, Nat.zero_le _⟩ (fun locs hS => ?_)
    refine lv_if_ne (pc := 15) (tgt := 25) hx hb dX7_on_15 (by decide) (fun c_4 => ?_) (fun c_4 => ?_)
    · have hq := pv_neg c_4 hq
      refine lv_aload_n (pc := 25) hx hb dX7_on_25 rfl (lv_at hl 0 rfl) ?_
      obtain ⟨u_5, hu_5, hq⟩ := pv_bind hq
      refine pv_vRWf (pc := 26) (rest := []) (st1 := []) (ws := pv_wM E a0 a1 a2 a3 a4 a5 a6 a7 a8 a9 a10 w0) [] ⟨hx, hb, hml, hown, hts⟩ hE hA hS hP (hD w0) (c_X7_thinks l E a0 a1 a2 a3 a4 a5 a6 a7 a8 a9 a10 w0 u_5 hu_5) (cwV 0 hts gX7_on_X7_thinks rfl rfl rfl (by decide +kernel) ⟨(Nat.le_of_ble_eq_true rfl), (Nat.le_of_ble_eq_true rfl)⟩) (va_recv hK hP (ci := 5) (q0 := 0) rfl rfl) rfl hl.1 rfl rfl (Nat.le_of_ble_eq_true rfl) dX7_on_26 ⟨Nat.zero_le _, Nat.zero_le _⟩ (fun H locs hP hS => ?_)
      have hP : va_P E.1 vwCl (pv_wM E a0 a1 a2 a3 a4 a5 a6 a7 a8 a9 a10 u_5) H := hP
      refine lv_aload_n (pc := 29) hx hb dX7_on_29 rfl (lv_at hl 0 rfl) ?_
      refine lv_iload_n (pc := 30) hx hb dX7_on_30 rfl (lv_at hl 2 rfl) ?_
      obtain ⟨u_6, hu_6, hq⟩ := pv_bind hq
      refine pv_vRWf (pc := 31) (rest := []) (st1 := []) (ws := pv_wM E a0 a1 a2 a3 a4 a5 a6 a7 a8 a9 a10 u_5) [.int x2] ⟨hx, hb, hml, hown, hts⟩ hE hA hS hP (hD u_5) (c_X7_goesFor l E a0 a1 a2 a3 a4 a5 a6 a7 a8 a9 a10 x2 u_5 u_6 hu_6) (cwV 1 hts gX7_on_X7_goesFor rfl rfl rfl (by decide +kernel) ⟨(Nat.le_of_ble_eq_true rfl), (Nat.le_of_ble_eq_true rfl)⟩) (va_recv hK hP (ci := 5) (q0 := 0) rfl rfl) rfl hl.1 rfl rfl (Nat.le_of_ble_eq_true rfl) dX7_on_31 ⟨Nat.zero_le _, Nat.zero_le _⟩ (fun H locs hP hS => ?_)
      have hP : va_P E.1 vwCl (pv_wM E a0 a1 a2 a3 a4 a5 a6 a7 a8 a9 a10 u_6) H := hP
      refine lv_aload_n (pc := 34) hx hb dX7_on_34 rfl (lv_at hl 0 rfl) ?_
      refine va_get (pc := 35) (D := E.1) (ci := 5) (v := .ref a1) (C := RX7) (T := TX7) (N := 17) hx hb hts i_RX7 hown hK hP 0 rfl rfl 0 (Nat.le_of_ble_eq_true rfl) fl_9 (fun _ h9 => h9) rfl dX7_on_35 ?_
      refine lv_bipush (pc := 38) (v := 7) hx hb dX7_on_38 (by decide) ?_
      refine lv_iload_n (pc := 40) hx hb dX7_on_40 rfl (lv_at hl 1 rfl) ?_
      refine lv_iadd (pc := 41) hx hb dX7_on_41 ?_
      obtain ⟨h_7, hq⟩ := pv_gd_some hq
      refine va_iald (pc := 42) (D := E.1) hx hb hK hP 1 0 rfl rfl h_7 dX7_on_42 ?_
      refine lv_istore_n (pc := 43) (lv' := [(3, .int (u_6.1 (7 + x1).toNatClampNeg)), (0, .ref a0), (1, .int x1), (2, .int x2)]) hx hb dX7_on_43 rfl hl (Nat.le_of_ble_eq_true rfl) rfl (fun ls hl => ?_)
      refine lv_aload_n (pc := 44) hx hb dX7_on_44 rfl (lv_at hl 1 rfl) ?_
      obtain ⟨u_8, hu_8, hq⟩ := pv_bind hq
      refine pv_vRWf (pc := 45) (rest := []) (st1 := []) (ws := pv_wM E a0 a1 a2 a3 a4 a5 a6 a7 a8 a9 a10 u_6) [] ⟨hx, hb, hml, hown, hts⟩ hE hA hS hP (hD u_6) (c_X7_putsBack l E a0 a1 a2 a3 a4 a5 a6 a7 a8 a9 a10 u_6 u_8 hu_8) (cwV 0 hts gX7_on_X7_putsBack rfl rfl rfl (by decide +kernel) ⟨(Nat.le_of_ble_eq_true rfl), (Nat.le_of_ble_eq_true rfl)⟩) (va_recv hK hP (ci := 5) (q0 := 0) rfl rfl) rfl hl.1 rfl rfl (Nat.le_of_ble_eq_true rfl) dX7_on_45 ⟨Nat.zero_le _, Nat.zero_le _⟩ (fun H locs hP hS => ?_)
      have hP : va_P E.1 vwCl (pv_wM E a0 a1 a2 a3 a4 a5 a6 a7 a8 a9 a10 u_8) H := hP
      refine lv_iload_n (pc := 48) hx hb dX7_on_48 rfl (lv_at hl 0 rfl) ?_
      exact pv_riRW (w := fun w : pv_MT => pv_wM E a0 a1 a2 a3 a4 a5 a6 a7 a8 a9 a10 w) hx hb hr hlk hAe hS hP (Option.some.inj hq) dX7_on_49
    · have hq := pv_pos c_4 hq
      exact B_18 w0 H locs ls hP hS (lv_sub hl [0] rfl) hq
def m_X7_then_28  (w : pv_MT) : Option (Int32 × pv_MT) :=
  Option.bind (m_X7_finds (-1000000001) w) fun u_3 => (some (u_3.1, u_3.2))
def m_X7_then_64 (y0 : Int32) (w : pv_MT) : Option (Int32 × pv_MT) :=
  Option.bind (m_X7_putsBack w) fun u_10 => (some (y0, u_10))
def m_X7_then (x1 : Int32) (x2 : Int32) (x3 : Int32) (w : pv_MT) : Option (Int32 × pv_MT) :=
  Option.bind (m_X7_isState x1) fun u_1 => (if u_1 = 0 then (m_X7_then_28 w) else (if (m_X7_in x2.toInt64 0 100) = 0 then (m_X7_then_28 w) else (if (m_X7_in x3.toInt64 0 1) = 0 then (m_X7_then_28 w) else (Option.bind (m_X7_thinks w) fun u_6 => (Option.bind (m_X7_goesFor x2 u_6) fun u_7 => (if x3 = 0 then (Option.bind (m_X7_landsOf x1 u_7) fun u_11 => (m_X7_then_64 u_11 u_7)) else (pv_gd (5 + x1) 31 (m_X7_then_64 (u_7.1 (5 + x1).toNatClampNeg) u_7))))))))
abbrev r_X7_then : Room := { frames := 8, cells := 0, slots := 0, locals := 187 }
set_option maxHeartbeats 4000000 in
set_option maxRecDepth 100000 in
theorem c_X7_then (l : Launch) (E : pv_E) (a0 a1 a2 a3 a4 a5 a6 a7 a8 a9 a10 : Nat) (x1 : Int32) (x2 : Int32) (x3 : Int32) (w0 : pv_MT) (F : Int32 × pv_MT) (hq : m_X7_then x1 x2 x3 w0 = some F) : pv_RW l E yX7_then wsX7_then r_X7_then (pv_wM E a0 a1 a2 a3 a4 a5 a6 a7 a8 a9 a10 w0) [.ref a0, .int x1, .int x2, .int x3] (some (.int F.1)) (pv_wM E a0 a1 a2 a3 a4 a5 a6 a7 a8 a9 a10 F.2) := by
  intro sz
  refine pv_mk (by decide) rfl (Nat.le_of_ble_eq_true rfl) ?_
  intro p e s m args below meth c A hx hb hr hml hown hts hlk hAe hP hD0 hA hE hS ls hl
  have hown : s.vm.findClass RX7 = some m.cls := hown
  have hK := hE.1
  have hD : ∀ w : pv_MT, va_D A (pv_wM E a0 a1 a2 a3 a4 a5 a6 a7 a8 a9 a10 w) := fun w => pv_Dm (ws := pv_wM E a0 a1 a2 a3 a4 a5 a6 a7 a8 a9 a10 w0) (ws' := pv_wM E a0 a1 a2 a3 a4 a5 a6 a7 a8 a9 a10 w) rfl hD0
  have hP : va_P E.1 vwCl (pv_wM E a0 a1 a2 a3 a4 a5 a6 a7 a8 a9 a10 w0) s.heap := hP
  have lc_41 : (Cond.constant RX7 41 (-1000000001)).before args s = true := hts _ (by decide +kernel)
  have fl_9 : (Cond.fieldLink RX7 9 "ProvinceCardsModel" "m" "[I").before args s = true := hts _ (by decide +kernel)
  have i_RX7 : ∀ w ∈ wsX70, w ∈ wsX7_then := by decide +kernel
  have hl : lv_has ls 5 [(0, .ref a0), (1, .int x1), (2, .int x2), (3, .int x3)] := hl
  have B_28 : ∀  (w : pv_MT) (H : Heap) (locs : List Loc) (ls : Array Slot), va_P E.1 vwCl (pv_wM E a0 a1 a2 a3 a4 a5 a6 a7 a8 a9 a10 w) H → va_S A s.heap H locs → lv_has ls 5 [(0, .ref a0)] → m_X7_then_28 w = some F → W p l e r_X7_then s m args below meth c H locs 0 0 (MQ below (pv_Rw E (pv_wM E a0 a1 a2 a3 a4 a5 a6 a7 a8 a9 a10 w0) sz (some (.int F.1)) ((fun w : pv_MT => pv_wM E a0 a1 a2 a3 a4 a5 a6 a7 a8 a9 a10 w) F.2)) args s 0 0 A) (F0 m 28 ls []) := by
    intro w H locs ls hP hS hl hq
    refine lv_aload_n (pc := 28) hx hb dX7_then_28 rfl (lv_at hl 0 rfl) ?_
    refine lv_ldc (pc := 29) hx hb hown lc_41 dX7_then_29 ?_
    obtain ⟨u_3, hu_3, hq⟩ := pv_bind hq
    refine pv_vRWf (pc := 31) (rest := []) (st1 := [.int u_3.1]) (ws := pv_wM E a0 a1 a2 a3 a4 a5 a6 a7 a8 a9 a10 w) [.int (-1000000001)] ⟨hx, hb, hml, hown, hts⟩ hE hA hS hP (hD w) (c_X7_finds l E a0 a1 a2 a3 a4 a5 a6 a7 a8 a9 a10 (-1000000001) w u_3 hu_3) (cwV 1 hts gX7_then_X7_finds rfl rfl rfl (by decide +kernel) ⟨(Nat.le_of_ble_eq_true rfl), (Nat.le_of_ble_eq_true rfl)⟩) (va_recv hK hP (ci := 5) (q0 := 0) rfl rfl) rfl hl.1 rfl rfl (Nat.le_of_ble_eq_true rfl) dX7_then_31 ⟨Nat.zero_le _, Nat.zero_le _⟩ (fun H locs hP hS => ?_)
    have hP : va_P E.1 vwCl (pv_wM E a0 a1 a2 a3 a4 a5 a6 a7 a8 a9 a10 u_3.2) H := hP
    exact pv_riRW (w := fun w : pv_MT => pv_wM E a0 a1 a2 a3 a4 a5 a6 a7 a8 a9 a10 w) hx hb hr hlk hAe hS hP (Option.some.inj hq) dX7_then_34
  have B_64 : ∀ (y0 : Int32) (w : pv_MT) (H : Heap) (locs : List Loc) (ls : Array Slot), va_P E.1 vwCl (pv_wM E a0 a1 a2 a3 a4 a5 a6 a7 a8 a9 a10 w) H → va_S A s.heap H locs → lv_has ls 5 [(0, .ref a0)] → m_X7_then_64 y0 w = some F → W p l e r_X7_then s m args below meth c H locs 0 0 (MQ below (pv_Rw E (pv_wM E a0 a1 a2 a3 a4 a5 a6 a7 a8 a9 a10 w0) sz (some (.int F.1)) ((fun w : pv_MT => pv_wM E a0 a1 a2 a3 a4 a5 a6 a7 a8 a9 a10 w) F.2)) args s 0 0 A) (F0 m 64 ls [.int y0]) := by
    intro y0 w H locs ls hP hS hl hq
    refine lv_istore (pc := 64) (lv' := [(4, .int y0), (0, .ref a0)]) hx hb dX7_then_64 hl (Nat.le_of_ble_eq_true rfl) rfl (fun ls hl => ?_)
    refine lv_aload_n (pc := 66) hx hb dX7_then_66 rfl (lv_at hl 1 rfl) ?_
    obtain ⟨u_10, hu_10, hq⟩ := pv_bind hq
    refine pv_vRWf (pc := 67) (rest := []) (st1 := []) (ws := pv_wM E a0 a1 a2 a3 a4 a5 a6 a7 a8 a9 a10 w) [] ⟨hx, hb, hml, hown, hts⟩ hE hA hS hP (hD w) (c_X7_putsBack l E a0 a1 a2 a3 a4 a5 a6 a7 a8 a9 a10 w u_10 hu_10) (cwV 0 hts gX7_then_X7_putsBack rfl rfl rfl (by decide +kernel) ⟨(Nat.le_of_ble_eq_true rfl), (Nat.le_of_ble_eq_true rfl)⟩) (va_recv hK hP (ci := 5) (q0 := 0) rfl rfl) rfl hl.1 rfl rfl (Nat.le_of_ble_eq_true rfl) dX7_then_67 ⟨Nat.zero_le _, Nat.zero_le _⟩ (fun H locs hP hS => ?_)
    have hP : va_P E.1 vwCl (pv_wM E a0 a1 a2 a3 a4 a5 a6 a7 a8 a9 a10 u_10) H := hP
    refine lv_iload (pc := 70) hx hb dX7_then_70 (lv_at hl 0 rfl) ?_
    exact pv_riRW (w := fun w : pv_MT => pv_wM E a0 a1 a2 a3 a4 a5 a6 a7 a8 a9 a10 w) hx hb hr hlk hAe hS hP (Option.some.inj hq) dX7_then_72
  suffices M0 : ∀ (H : Heap) (locs : List Loc), va_P E.1 vwCl (pv_wM E a0 a1 a2 a3 a4 a5 a6 a7 a8 a9 a10 w0) H → va_S A s.heap H locs → W p l e r_X7_then s m args below meth c H locs 0 0 (MQ below (pv_Rw E (pv_wM E a0 a1 a2 a3 a4 a5 a6 a7 a8 a9 a10 w0) sz (some (.int F.1)) ((fun w : pv_MT => pv_wM E a0 a1 a2 a3 a4 a5 a6 a7 a8 a9 a10 w) F.2)) args s 0 0 A) (F0 m 0 ls []) from M0 s.heap [] hP hS
  intro H locs hP hS
  refine lv_iload_n (pc := 0) hx hb dX7_then_0 rfl (lv_at hl 1 rfl) ?_
  obtain ⟨u_1, hu_1, hq⟩ := pv_bind hq
  refine pv_sRO (pc := 1) (rest := []) (st1 := [.int u_1]) (ws := pv_wM E a0 a1 a2 a3 a4 a5 a6 a7 a8 a9 a10 w0) [.int x1] ⟨hx, hb, hml, hown, hts⟩ hE hA hS hP (hD w0) (c_X7_isState l E x1 u_1 hu_1) (va_cwS 1 hts gX7_then_X7_isState rfl rfl rfl (by decide +kernel) ⟨(Nat.le_of_ble_eq_true rfl), (Nat.le_of_ble_eq_true rfl)⟩) [] rfl rfl rfl hl.1 rfl rfl (Nat.le_of_ble_eq_true rfl) dX7_then_1 ⟨Nat.zero_le _, Nat.zero_le _⟩ (fun locs hS => ?_)
  refine lv_if_eq (pc := 4) (tgt := 28) hx hb dX7_then_4 (by decide) (fun c_2 => ?_) (fun c_2 => ?_)
  · have hq := pv_pos c_2 hq
    exact B_28 w0 H locs ls hP hS (lv_sub hl [0] rfl) hq
  · have hq := pv_neg c_2 hq
    refine lv_iload_n (pc := 7) hx hb dX7_then_7 rfl (lv_at hl 2 rfl) ?_
    refine lv_i2l (pc := 8) (v := x2.toInt64) hx hb dX7_then_8 rfl ?_
    refine lv_iconst (pc := 9) (v := 0) hx hb dX7_then_9 (by decide) ?_
    refine lv_bipush (pc := 10) (v := 100) hx hb dX7_then_10 (by decide) ?_
    refine pv_sRO (pc := 12) (rest := []) (st1 := [.int (m_X7_in x2.toInt64 0 100)]) (ws := pv_wM E a0 a1 a2 a3 a4 a5 a6 a7 a8 a9 a10 w0) [.long x2.toInt64, .int 0, .int 100] ⟨hx, hb, hml, hown, hts⟩ hE hA hS hP (hD w0) (c_X7_in l E x2.toInt64 0 100) (va_cwS 3 hts gX7_then_X7_in rfl rfl rfl (by decide +kernel) ⟨(Nat.le_of_ble_eq_true rfl), (Nat.le_of_ble_eq_true rfl)⟩) [] rfl rfl rfl hl.1 rfl rfl (Nat.le_of_ble_eq_true rfl) dX7_then_12 ⟨Nat.zero_le _, Nat.zero_le _⟩ (fun locs hS => ?_)
    refine lv_if_eq (pc := 15) (tgt := 28) hx hb dX7_then_15 (by decide) (fun c_4 => ?_) (fun c_4 => ?_)
    · have hq := pv_pos c_4 hq
      exact B_28 w0 H locs ls hP hS (lv_sub hl [0] rfl) hq
    · have hq := pv_neg c_4 hq
      refine lv_iload_n (pc := 18) hx hb dX7_then_18 rfl (lv_at hl 3 rfl) ?_
      refine lv_i2l (pc := 19) (v := x3.toInt64) hx hb dX7_then_19 rfl ?_
      refine lv_iconst (pc := 20) (v := 0) hx hb dX7_then_20 (by decide) ?_
      refine lv_iconst (pc := 21) (v := 1) hx hb dX7_then_21 (by decide) ?_
      refine pv_sRO (pc := 22) (rest := []) (st1 := [.int (m_X7_in x3.toInt64 0 1)]) (ws := pv_wM E a0 a1 a2 a3 a4 a5 a6 a7 a8 a9 a10 w0) [.long x3.toInt64, .int 0, .int 1] ⟨hx, hb, hml, hown, hts⟩ hE hA hS hP (hD w0) (c_X7_in l E x3.toInt64 0 1) (va_cwS 3 hts gX7_then_X7_in rfl rfl rfl (by decide +kernel) ⟨(Nat.le_of_ble_eq_true rfl), (Nat.le_of_ble_eq_true rfl)⟩) [] rfl rfl rfl hl.1 rfl rfl (Nat.le_of_ble_eq_true rfl) dX7_then_22 ⟨Nat.zero_le _, Nat.zero_le _⟩ (fun locs hS => ?_)
      refine lv_if_ne (pc := 25) (tgt := 35) hx hb dX7_then_25 (by decide) (fun c_5 => ?_) (fun c_5 => ?_)
      · have hq := pv_neg c_5 hq
        refine lv_aload_n (pc := 35) hx hb dX7_then_35 rfl (lv_at hl 0 rfl) ?_
        obtain ⟨u_6, hu_6, hq⟩ := pv_bind hq
        refine pv_vRWf (pc := 36) (rest := []) (st1 := []) (ws := pv_wM E a0 a1 a2 a3 a4 a5 a6 a7 a8 a9 a10 w0) [] ⟨hx, hb, hml, hown, hts⟩ hE hA hS hP (hD w0) (c_X7_thinks l E a0 a1 a2 a3 a4 a5 a6 a7 a8 a9 a10 w0 u_6 hu_6) (cwV 0 hts gX7_then_X7_thinks rfl rfl rfl (by decide +kernel) ⟨(Nat.le_of_ble_eq_true rfl), (Nat.le_of_ble_eq_true rfl)⟩) (va_recv hK hP (ci := 5) (q0 := 0) rfl rfl) rfl hl.1 rfl rfl (Nat.le_of_ble_eq_true rfl) dX7_then_36 ⟨Nat.zero_le _, Nat.zero_le _⟩ (fun H locs hP hS => ?_)
        have hP : va_P E.1 vwCl (pv_wM E a0 a1 a2 a3 a4 a5 a6 a7 a8 a9 a10 u_6) H := hP
        refine lv_aload_n (pc := 39) hx hb dX7_then_39 rfl (lv_at hl 0 rfl) ?_
        refine lv_iload_n (pc := 40) hx hb dX7_then_40 rfl (lv_at hl 2 rfl) ?_
        obtain ⟨u_7, hu_7, hq⟩ := pv_bind hq
        refine pv_vRWf (pc := 41) (rest := []) (st1 := []) (ws := pv_wM E a0 a1 a2 a3 a4 a5 a6 a7 a8 a9 a10 u_6) [.int x2] ⟨hx, hb, hml, hown, hts⟩ hE hA hS hP (hD u_6) (c_X7_goesFor l E a0 a1 a2 a3 a4 a5 a6 a7 a8 a9 a10 x2 u_6 u_7 hu_7) (cwV 1 hts gX7_then_X7_goesFor rfl rfl rfl (by decide +kernel) ⟨(Nat.le_of_ble_eq_true rfl), (Nat.le_of_ble_eq_true rfl)⟩) (va_recv hK hP (ci := 5) (q0 := 0) rfl rfl) rfl hl.1 rfl rfl (Nat.le_of_ble_eq_true rfl) dX7_then_41 ⟨Nat.zero_le _, Nat.zero_le _⟩ (fun H locs hP hS => ?_)
        have hP : va_P E.1 vwCl (pv_wM E a0 a1 a2 a3 a4 a5 a6 a7 a8 a9 a10 u_7) H := hP
        refine lv_iload_n (pc := 44) hx hb dX7_then_44 rfl (lv_at hl 3 rfl) ?_
        refine lv_if_ne (pc := 45) (tgt := 56) hx hb dX7_then_45 (by decide) (fun c_8 => ?_) (fun c_8 => ?_)
        · have hq := pv_neg c_8 hq
          refine lv_aload_n (pc := 56) hx hb dX7_then_56 rfl (lv_at hl 0 rfl) ?_
          refine va_get (pc := 57) (D := E.1) (ci := 5) (v := .ref a1) (C := RX7) (T := TX7) (N := 17) hx hb hts i_RX7 hown hK hP 0 rfl rfl 0 (Nat.le_of_ble_eq_true rfl) fl_9 (fun _ h9 => h9) rfl dX7_then_57 ?_
          refine lv_iconst (pc := 60) (v := 5) hx hb dX7_then_60 (by decide) ?_
          refine lv_iload_n (pc := 61) hx hb dX7_then_61 rfl (lv_at hl 1 rfl) ?_
          refine lv_iadd (pc := 62) hx hb dX7_then_62 ?_
          obtain ⟨h_9, hq⟩ := pv_gd_some hq
          refine va_iald (pc := 63) (D := E.1) hx hb hK hP 1 0 rfl rfl h_9 dX7_then_63 ?_
          exact B_64 (u_7.1 (5 + x1).toNatClampNeg) u_7 H locs ls hP hS (lv_sub hl [0] rfl) hq
        · have hq := pv_pos c_8 hq
          refine lv_aload_n (pc := 48) hx hb dX7_then_48 rfl (lv_at hl 0 rfl) ?_
          refine lv_iload_n (pc := 49) hx hb dX7_then_49 rfl (lv_at hl 1 rfl) ?_
          obtain ⟨u_11, hu_11, hq⟩ := pv_bind hq
          refine pv_vROf (pc := 50) (rest := []) (st1 := [.int u_11]) (ws := pv_wM E a0 a1 a2 a3 a4 a5 a6 a7 a8 a9 a10 u_7) [.int x1] ⟨hx, hb, hml, hown, hts⟩ hE hA hS hP (hD u_7) (c_X7_landsOf l E a0 a1 a2 a3 a4 a5 a6 a7 a8 a9 a10 x1 u_7 u_11 hu_11) (cwV 1 hts gX7_then_X7_landsOf rfl rfl rfl (by decide +kernel) ⟨(Nat.le_of_ble_eq_true rfl), (Nat.le_of_ble_eq_true rfl)⟩) (va_recv hK hP (ci := 5) (q0 := 0) rfl rfl) rfl hl.1 rfl rfl (Nat.le_of_ble_eq_true rfl) dX7_then_50 ⟨Nat.zero_le _, Nat.zero_le _⟩ (fun locs hS => ?_)
          refine lv_goto (pc := 53) (tgt := 64) hx hb dX7_then_53 (by decide) ?_
          exact B_64 u_11 u_7 H locs ls hP hS (lv_sub hl [0] rfl) hq
      · have hq := pv_pos c_5 hq
        exact B_28 w0 H locs ls hP hS (lv_sub hl [0] rfl) hq
def m_X7_when_17  (w : pv_MT) : Option (Int32 × pv_MT) :=
  Option.bind (m_X7_finds (-1000000001) w) fun u_3 => (some (u_3.1, u_3.2))
def m_X7_when_59 (x3 : Int32) (w : pv_MT) : Option (Int32 × pv_MT) :=
  Option.bind (m_X7_putsBack w) fun u_7 => (if x3 ≤ 100 then (some (x3, u_7)) else (Option.bind (m_X7_finds (-1000000004) u_7) fun u_9 => (some (u_9.1, u_9.2))))
def m_X7_when_30 : Nat → Int32 → Int32 → Int32 → pv_MT → Option (Int32 × pv_MT)
  | 0 => fun _ _ _ _ => none
  | n + 1 => fun x1 x2 x3 w =>
    if 100 < x3 then (m_X7_when_59 x3 w) else (pv_gd (7 + x1) 31 (if (w.1 (7 + x1).toNatClampNeg) = x2 then (m_X7_when_59 x3 w) else (Option.bind (m_X7_goes w) fun u_12 => ((m_X7_when_30 n) x1 x2 (x3 + 1) u_12))))
def m_X7_when (x1 : Int32) (x2 : Int32) (w : pv_MT) : Option (Int32 × pv_MT) :=
  Option.bind (m_X7_isLand x1) fun u_1 => (if u_1 = 0 then (m_X7_when_17 w) else (if (m_X7_in x2.toInt64 (-1) 1) = 0 then (m_X7_when_17 w) else (Option.bind (m_X7_thinks w) fun u_5 => (m_X7_when_30 300 x1 x2 0 u_5))))
abbrev r_X7_when : Room := { frames := 7, cells := 0, slots := 0, locals := 165 }
set_option maxHeartbeats 4000000 in
set_option maxRecDepth 100000 in
theorem c_X7_when (l : Launch) (E : pv_E) (a0 a1 a2 a3 a4 a5 a6 a7 a8 a9 a10 : Nat) (x1 : Int32) (x2 : Int32) (w0 : pv_MT) (F : Int32 × pv_MT) (hq : m_X7_when x1 x2 w0 = some F) : pv_RW l E yX7_when wsX7_when r_X7_when (pv_wM E a0 a1 a2 a3 a4 a5 a6 a7 a8 a9 a10 w0) [.ref a0, .int x1, .int x2] (some (.int F.1)) (pv_wM E a0 a1 a2 a3 a4 a5 a6 a7 a8 a9 a10 F.2) := by
  intro sz
  refine pv_mk (by decide) rfl (Nat.le_of_ble_eq_true rfl) ?_
  intro p e s m args below meth c A hx hb hr hml hown hts hlk hAe hP hD0 hA hE hS ls hl
  have hown : s.vm.findClass RX7 = some m.cls := hown
  have hK := hE.1
  have hD : ∀ w : pv_MT, va_D A (pv_wM E a0 a1 a2 a3 a4 a5 a6 a7 a8 a9 a10 w) := fun w => pv_Dm (ws := pv_wM E a0 a1 a2 a3 a4 a5 a6 a7 a8 a9 a10 w0) (ws' := pv_wM E a0 a1 a2 a3 a4 a5 a6 a7 a8 a9 a10 w) rfl hD0
  have hP : va_P E.1 vwCl (pv_wM E a0 a1 a2 a3 a4 a5 a6 a7 a8 a9 a10 w0) s.heap := hP
  have lc_41 : (Cond.constant RX7 41 (-1000000001)).before args s = true := hts _ (by decide +kernel)
  have lc_42 : (Cond.constant RX7 42 (-1000000004)).before args s = true := hts _ (by decide +kernel)
  have fl_9 : (Cond.fieldLink RX7 9 "ProvinceCardsModel" "m" "[I").before args s = true := hts _ (by decide +kernel)
  have i_RX7 : ∀ w ∈ wsX70, w ∈ wsX7_when := by decide +kernel
  have hl : lv_has ls 4 [(0, .ref a0), (1, .int x1), (2, .int x2)] := hl
  have B_17 : ∀  (w : pv_MT) (H : Heap) (locs : List Loc) (ls : Array Slot), va_P E.1 vwCl (pv_wM E a0 a1 a2 a3 a4 a5 a6 a7 a8 a9 a10 w) H → va_S A s.heap H locs → lv_has ls 4 [(0, .ref a0)] → m_X7_when_17 w = some F → W p l e r_X7_when s m args below meth c H locs 0 0 (MQ below (pv_Rw E (pv_wM E a0 a1 a2 a3 a4 a5 a6 a7 a8 a9 a10 w0) sz (some (.int F.1)) ((fun w : pv_MT => pv_wM E a0 a1 a2 a3 a4 a5 a6 a7 a8 a9 a10 w) F.2)) args s 0 0 A) (F0 m 17 ls []) := by
    intro w H locs ls hP hS hl hq
    refine lv_aload_n (pc := 17) hx hb dX7_when_17 rfl (lv_at hl 0 rfl) ?_
    refine lv_ldc (pc := 18) hx hb hown lc_41 dX7_when_18 ?_
    obtain ⟨u_3, hu_3, hq⟩ := pv_bind hq
    refine pv_vRWf (pc := 20) (rest := []) (st1 := [.int u_3.1]) (ws := pv_wM E a0 a1 a2 a3 a4 a5 a6 a7 a8 a9 a10 w) [.int (-1000000001)] ⟨hx, hb, hml, hown, hts⟩ hE hA hS hP (hD w) (c_X7_finds l E a0 a1 a2 a3 a4 a5 a6 a7 a8 a9 a10 (-1000000001) w u_3 hu_3) (cwV 1 hts gX7_when_X7_finds rfl rfl rfl (by decide +kernel) ⟨(Nat.le_of_ble_eq_true rfl), (Nat.le_of_ble_eq_true rfl)⟩) (va_recv hK hP (ci := 5) (q0 := 0) rfl rfl) rfl hl.1 rfl rfl (Nat.le_of_ble_eq_true rfl) dX7_when_20 ⟨Nat.zero_le _, Nat.zero_le _⟩ (fun H locs hP hS => ?_)
    have hP : va_P E.1 vwCl (pv_wM E a0 a1 a2 a3 a4 a5 a6 a7 a8 a9 a10 u_3.2) H := hP
    exact pv_riRW (w := fun w : pv_MT => pv_wM E a0 a1 a2 a3 a4 a5 a6 a7 a8 a9 a10 w) hx hb hr hlk hAe hS hP (Option.some.inj hq) dX7_when_23
  have B_59 : ∀ (x3 : Int32) (w : pv_MT) (H : Heap) (locs : List Loc) (ls : Array Slot), va_P E.1 vwCl (pv_wM E a0 a1 a2 a3 a4 a5 a6 a7 a8 a9 a10 w) H → va_S A s.heap H locs → lv_has ls 4 [(0, .ref a0), (3, .int x3)] → m_X7_when_59 x3 w = some F → W p l e r_X7_when s m args below meth c H locs 0 0 (MQ below (pv_Rw E (pv_wM E a0 a1 a2 a3 a4 a5 a6 a7 a8 a9 a10 w0) sz (some (.int F.1)) ((fun w : pv_MT => pv_wM E a0 a1 a2 a3 a4 a5 a6 a7 a8 a9 a10 w) F.2)) args s 0 0 A) (F0 m 59 ls []) := by
    intro x3 w H locs ls hP hS hl hq
    refine lv_aload_n (pc := 59) hx hb dX7_when_59 rfl (lv_at hl 0 rfl) ?_
    obtain ⟨u_7, hu_7, hq⟩ := pv_bind hq
    refine pv_vRWf (pc := 60) (rest := []) (st1 := []) (ws := pv_wM E a0 a1 a2 a3 a4 a5 a6 a7 a8 a9 a10 w) [] ⟨hx, hb, hml, hown, hts⟩ hE hA hS hP (hD w) (c_X7_putsBack l E a0 a1 a2 a3 a4 a5 a6 a7 a8 a9 a10 w u_7 hu_7) (cwV 0 hts gX7_when_X7_putsBack rfl rfl rfl (by decide +kernel) ⟨(Nat.le_of_ble_eq_true rfl), (Nat.le_of_ble_eq_true rfl)⟩) (va_recv hK hP (ci := 5) (q0 := 0) rfl rfl) rfl hl.1 rfl rfl (Nat.le_of_ble_eq_true rfl) dX7_when_60 ⟨Nat.zero_le _, Nat.zero_le _⟩ (fun H locs hP hS => ?_)
    have hP : va_P E.1 vwCl (pv_wM E a0 a1 a2 a3 a4 a5 a6 a7 a8 a9 a10 u_7) H := hP
    refine lv_iload_n (pc := 63) hx hb dX7_when_63 rfl (lv_at hl 1 rfl) ?_
    refine lv_bipush (pc := 64) (v := 100) hx hb dX7_when_64 (by decide) ?_
    refine lv_icmp_le (pc := 66) (tgt := 78) hx hb dX7_when_66 (by decide) (fun c_8 => ?_) (fun c_8 => ?_)
    · have hq := pv_pos c_8 hq
      refine lv_iload_n (pc := 78) hx hb dX7_when_78 rfl (lv_at hl 1 rfl) ?_
      exact pv_riRW (w := fun w : pv_MT => pv_wM E a0 a1 a2 a3 a4 a5 a6 a7 a8 a9 a10 w) hx hb hr hlk hAe hS hP (Option.some.inj hq) dX7_when_79
    · have hq := pv_neg c_8 hq
      refine lv_aload_n (pc := 69) hx hb dX7_when_69 rfl (lv_at hl 0 rfl) ?_
      refine lv_ldc (pc := 70) hx hb hown lc_42 dX7_when_70 ?_
      obtain ⟨u_9, hu_9, hq⟩ := pv_bind hq
      refine pv_vRWf (pc := 72) (rest := []) (st1 := [.int u_9.1]) (ws := pv_wM E a0 a1 a2 a3 a4 a5 a6 a7 a8 a9 a10 u_7) [.int (-1000000004)] ⟨hx, hb, hml, hown, hts⟩ hE hA hS hP (hD u_7) (c_X7_finds l E a0 a1 a2 a3 a4 a5 a6 a7 a8 a9 a10 (-1000000004) u_7 u_9 hu_9) (cwV 1 hts gX7_when_X7_finds rfl rfl rfl (by decide +kernel) ⟨(Nat.le_of_ble_eq_true rfl), (Nat.le_of_ble_eq_true rfl)⟩) (va_recv hK hP (ci := 5) (q0 := 0) rfl rfl) rfl hl.1 rfl rfl (Nat.le_of_ble_eq_true rfl) dX7_when_72 ⟨Nat.zero_le _, Nat.zero_le _⟩ (fun H locs hP hS => ?_)
      have hP : va_P E.1 vwCl (pv_wM E a0 a1 a2 a3 a4 a5 a6 a7 a8 a9 a10 u_9.2) H := hP
      refine lv_goto (pc := 75) (tgt := 79) hx hb dX7_when_75 (by decide) ?_
      exact pv_riRW (w := fun w : pv_MT => pv_wM E a0 a1 a2 a3 a4 a5 a6 a7 a8 a9 a10 w) hx hb hr hlk hAe hS hP (Option.some.inj hq) dX7_when_79
  have L_30 : ∀ n : Nat, ∀ (x1 : Int32) (x2 : Int32) (x3 : Int32) (w : pv_MT) (H : Heap) (locs : List Loc) (ls : Array Slot), va_P E.1 vwCl (pv_wM E a0 a1 a2 a3 a4 a5 a6 a7 a8 a9 a10 w) H → va_S A s.heap H locs → lv_has ls 4 [(0, .ref a0), (1, .int x1), (2, .int x2), (3, .int x3)] → m_X7_when_30 n x1 x2 x3 w = some F → W p l e r_X7_when s m args below meth c H locs 0 0 (MQ below (pv_Rw E (pv_wM E a0 a1 a2 a3 a4 a5 a6 a7 a8 a9 a10 w0) sz (some (.int F.1)) ((fun w : pv_MT => pv_wM E a0 a1 a2 a3 a4 a5 a6 a7 a8 a9 a10 w) F.2)) args s 0 0 A) (F0 m 30 ls []) := by
    intro n
    induction n with
    | zero =>
      intro x1 x2 x3 w H locs ls hP hS hl hq
      exact (pv_no hq).elim
    | succ n ih =>
      intro x1 x2 x3 w H locs ls hP hS hl hq
      refine lv_iload_n (pc := 30) hx hb dX7_when_30 rfl (lv_at hl 3 rfl) ?_
      refine lv_bipush (pc := 31) (v := 100) hx hb dX7_when_31 (by decide) ?_
      refine lv_icmp_gt (pc := 33) (tgt := 59) hx hb dX7_when_33 (by decide) (fun c_6 => ?_) (fun c_6 => ?_)
      · have hq := pv_pos c_6 hq
        exact B_59 x3 w H locs ls hP hS (lv_sub hl [0, 3] rfl) hq
      · have hq := pv_neg c_6 hq
        refine lv_aload_n (pc := 36) hx hb dX7_when_36 rfl (lv_at hl 0 rfl) ?_
        refine va_get (pc := 37) (D := E.1) (ci := 5) (v := .ref a1) (C := RX7) (T := TX7) (N := 17) hx hb hts i_RX7 hown hK hP 0 rfl rfl 0 (Nat.le_of_ble_eq_true rfl) fl_9 (fun _ h9 => h9) rfl dX7_when_37 ?_
        refine lv_bipush (pc := 40) (v := 7) hx hb dX7_when_40 (by decide) ?_
        refine lv_iload_n (pc := 42) hx hb dX7_when_42 rfl (lv_at hl 1 rfl) ?_
        refine lv_iadd (pc := 43) hx hb dX7_when_43 ?_
        obtain ⟨h_10, hq⟩ := pv_gd_some hq
        refine va_iald (pc := 44) (D := E.1) hx hb hK hP 1 0 rfl rfl h_10 dX7_when_44 ?_
        refine lv_iload_n (pc := 45) hx hb dX7_when_45 rfl (lv_at hl 2 rfl) ?_
        refine lv_icmp_eq (pc := 46) (tgt := 59) hx hb dX7_when_46 (by decide) (fun c_11 => ?_) (fun c_11 => ?_)
        · have hq := pv_pos c_11 hq
          exact B_59 x3 w H locs ls hP hS (lv_sub hl [0, 3] rfl) hq
        · have hq := pv_neg c_11 hq
          refine lv_aload_n (pc := 49) hx hb dX7_when_49 rfl (lv_at hl 0 rfl) ?_
          obtain ⟨u_12, hu_12, hq⟩ := pv_bind hq
          refine pv_vRWf (pc := 50) (rest := []) (st1 := []) (ws := pv_wM E a0 a1 a2 a3 a4 a5 a6 a7 a8 a9 a10 w) [] ⟨hx, hb, hml, hown, hts⟩ hE hA hS hP (hD w) (c_X7_goes l E a0 a1 a2 a3 a4 a5 a6 a7 a8 a9 a10 w u_12 hu_12) (cwV 0 hts gX7_when_X7_goes rfl rfl rfl (by decide +kernel) ⟨(Nat.le_of_ble_eq_true rfl), (Nat.le_of_ble_eq_true rfl)⟩) (va_recv hK hP (ci := 5) (q0 := 0) rfl rfl) rfl hl.1 rfl rfl (Nat.le_of_ble_eq_true rfl) dX7_when_50 ⟨Nat.zero_le _, Nat.zero_le _⟩ (fun H locs hP hS => ?_)
          have hP : va_P E.1 vwCl (pv_wM E a0 a1 a2 a3 a4 a5 a6 a7 a8 a9 a10 u_12) H := hP
          refine lv_iinc (pc := 53) (v := (x3 + 1)) (lv' := [(3, .int (x3 + 1)), (0, .ref a0), (1, .int x1), (2, .int x2)]) hx hb dX7_when_53 hl (k := 3) rfl rfl (Nat.le_of_ble_eq_true rfl) rfl (fun ls hl => ?_)
          refine lv_goto (pc := 56) (tgt := 30) hx hb dX7_when_56 (by decide) ?_
          exact ih x1 x2 (x3 + 1) u_12 H locs ls hP hS (lv_sub hl [1, 2, 3, 0] rfl) hq
  suffices M0 : ∀ (H : Heap) (locs : List Loc), va_P E.1 vwCl (pv_wM E a0 a1 a2 a3 a4 a5 a6 a7 a8 a9 a10 w0) H → va_S A s.heap H locs → W p l e r_X7_when s m args below meth c H locs 0 0 (MQ below (pv_Rw E (pv_wM E a0 a1 a2 a3 a4 a5 a6 a7 a8 a9 a10 w0) sz (some (.int F.1)) ((fun w : pv_MT => pv_wM E a0 a1 a2 a3 a4 a5 a6 a7 a8 a9 a10 w) F.2)) args s 0 0 A) (F0 m 0 ls []) from M0 s.heap [] hP hS
  intro H locs hP hS
  refine lv_iload_n (pc := 0) hx hb dX7_when_0 rfl (lv_at hl 1 rfl) ?_
  obtain ⟨u_1, hu_1, hq⟩ := pv_bind hq
  refine pv_sRO (pc := 1) (rest := []) (st1 := [.int u_1]) (ws := pv_wM E a0 a1 a2 a3 a4 a5 a6 a7 a8 a9 a10 w0) [.int x1] ⟨hx, hb, hml, hown, hts⟩ hE hA hS hP (hD w0) (c_X7_isLand l E x1 u_1 hu_1) (va_cwS 1 hts gX7_when_X7_isLand rfl rfl rfl (by decide +kernel) ⟨(Nat.le_of_ble_eq_true rfl), (Nat.le_of_ble_eq_true rfl)⟩) [] rfl rfl rfl hl.1 rfl rfl (Nat.le_of_ble_eq_true rfl) dX7_when_1 ⟨Nat.zero_le _, Nat.zero_le _⟩ (fun locs hS => ?_)
  refine lv_if_eq (pc := 4) (tgt := 17) hx hb dX7_when_4 (by decide) (fun c_2 => ?_) (fun c_2 => ?_)
  · have hq := pv_pos c_2 hq
    exact B_17 w0 H locs ls hP hS (lv_sub hl [0] rfl) hq
  · have hq := pv_neg c_2 hq
    refine lv_iload_n (pc := 7) hx hb dX7_when_7 rfl (lv_at hl 2 rfl) ?_
    refine lv_i2l (pc := 8) (v := x2.toInt64) hx hb dX7_when_8 rfl ?_
    refine lv_iconst (pc := 9) (v := (-1)) hx hb dX7_when_9 (by decide) ?_
    refine lv_iconst (pc := 10) (v := 1) hx hb dX7_when_10 (by decide) ?_
    refine pv_sRO (pc := 11) (rest := []) (st1 := [.int (m_X7_in x2.toInt64 (-1) 1)]) (ws := pv_wM E a0 a1 a2 a3 a4 a5 a6 a7 a8 a9 a10 w0) [.long x2.toInt64, .int (-1), .int 1] ⟨hx, hb, hml, hown, hts⟩ hE hA hS hP (hD w0) (c_X7_in l E x2.toInt64 (-1) 1) (va_cwS 3 hts gX7_when_X7_in rfl rfl rfl (by decide +kernel) ⟨(Nat.le_of_ble_eq_true rfl), (Nat.le_of_ble_eq_true rfl)⟩) [] rfl rfl rfl hl.1 rfl rfl (Nat.le_of_ble_eq_true rfl) dX7_when_11 ⟨Nat.zero_le _, Nat.zero_le _⟩ (fun locs hS => ?_)
    refine lv_if_ne (pc := 14) (tgt := 24) hx hb dX7_when_14 (by decide) (fun c_4 => ?_) (fun c_4 => ?_)
    · have hq := pv_neg c_4 hq
      refine lv_aload_n (pc := 24) hx hb dX7_when_24 rfl (lv_at hl 0 rfl) ?_
      obtain ⟨u_5, hu_5, hq⟩ := pv_bind hq
      refine pv_vRWf (pc := 25) (rest := []) (st1 := []) (ws := pv_wM E a0 a1 a2 a3 a4 a5 a6 a7 a8 a9 a10 w0) [] ⟨hx, hb, hml, hown, hts⟩ hE hA hS hP (hD w0) (c_X7_thinks l E a0 a1 a2 a3 a4 a5 a6 a7 a8 a9 a10 w0 u_5 hu_5) (cwV 0 hts gX7_when_X7_thinks rfl rfl rfl (by decide +kernel) ⟨(Nat.le_of_ble_eq_true rfl), (Nat.le_of_ble_eq_true rfl)⟩) (va_recv hK hP (ci := 5) (q0 := 0) rfl rfl) rfl hl.1 rfl rfl (Nat.le_of_ble_eq_true rfl) dX7_when_25 ⟨Nat.zero_le _, Nat.zero_le _⟩ (fun H locs hP hS => ?_)
      have hP : va_P E.1 vwCl (pv_wM E a0 a1 a2 a3 a4 a5 a6 a7 a8 a9 a10 u_5) H := hP
      refine lv_iconst (pc := 28) (v := 0) hx hb dX7_when_28 (by decide) ?_
      refine lv_istore_n (pc := 29) (lv' := [(3, .int 0), (0, .ref a0), (1, .int x1), (2, .int x2)]) hx hb dX7_when_29 rfl hl (Nat.le_of_ble_eq_true rfl) rfl (fun ls hl => ?_)
      exact L_30 300 x1 x2 0 u_5 H locs ls hP hS (lv_sub hl [1, 2, 3, 0] rfl) hq
    · have hq := pv_pos c_4 hq
      exact B_17 w0 H locs ls hP hS (lv_sub hl [0] rfl) hq
def m_X7_all_49 (x2 : Int32) (w : pv_MT) : Option (Int32 × pv_MT) :=
  Option.bind (m_X7_putsBack w) fun u_5 => (if x2 ≤ 100 then (some (x2, u_5)) else (Option.bind (m_X7_finds (-1000000004) u_5) fun u_7 => (some (u_7.1, u_7.2))))
def m_X7_all_20 : Nat → Int32 → Int32 → pv_MT → Option (Int32 × pv_MT)
  | 0 => fun _ _ _ => none
  | n + 1 => fun x1 x2 w =>
    if 100 < x2 then (m_X7_all_49 x2 w) else (Option.bind (m_X7_landsOf x1 w) fun u_8 => (Option.bind (m_X7_bits u_8) fun u_9 => (if 8 ≤ u_9 then (m_X7_all_49 x2 w) else (Option.bind (m_X7_goes w) fun u_11 => ((m_X7_all_20 n) x1 (x2 + 1) u_11)))))
def m_X7_all (x1 : Int32) (w : pv_MT) : Option (Int32 × pv_MT) :=
  Option.bind (m_X7_isState x1) fun u_1 => (if u_1 = 0 then (Option.bind (m_X7_finds (-1000000001) w) fun u_12 => (some (u_12.1, u_12.2))) else (Option.bind (m_X7_thinks w) fun u_3 => (m_X7_all_20 300 x1 0 u_3)))
abbrev r_X7_all : Room := { frames := 7, cells := 0, slots := 0, locals := 165 }
set_option maxHeartbeats 4000000 in
set_option maxRecDepth 100000 in
theorem c_X7_all (l : Launch) (E : pv_E) (a0 a1 a2 a3 a4 a5 a6 a7 a8 a9 a10 : Nat) (x1 : Int32) (w0 : pv_MT) (F : Int32 × pv_MT) (hq : m_X7_all x1 w0 = some F) : pv_RW l E yX7_all wsX7_all r_X7_all (pv_wM E a0 a1 a2 a3 a4 a5 a6 a7 a8 a9 a10 w0) [.ref a0, .int x1] (some (.int F.1)) (pv_wM E a0 a1 a2 a3 a4 a5 a6 a7 a8 a9 a10 F.2) := by
  intro sz
  refine pv_mk (by decide) rfl (Nat.le_of_ble_eq_true rfl) ?_
  intro p e s m args below meth c A hx hb hr hml hown hts hlk hAe hP hD0 hA hE hS ls hl
  have hown : s.vm.findClass RX7 = some m.cls := hown
  have hK := hE.1
  have hD : ∀ w : pv_MT, va_D A (pv_wM E a0 a1 a2 a3 a4 a5 a6 a7 a8 a9 a10 w) := fun w => pv_Dm (ws := pv_wM E a0 a1 a2 a3 a4 a5 a6 a7 a8 a9 a10 w0) (ws' := pv_wM E a0 a1 a2 a3 a4 a5 a6 a7 a8 a9 a10 w) rfl hD0
  have hP : va_P E.1 vwCl (pv_wM E a0 a1 a2 a3 a4 a5 a6 a7 a8 a9 a10 w0) s.heap := hP
  have lc_42 : (Cond.constant RX7 42 (-1000000004)).before args s = true := hts _ (by decide +kernel)
  have lc_41 : (Cond.constant RX7 41 (-1000000001)).before args s = true := hts _ (by decide +kernel)
  have hl : lv_has ls 3 [(0, .ref a0), (1, .int x1)] := hl
  have B_49 : ∀ (x2 : Int32) (w : pv_MT) (H : Heap) (locs : List Loc) (ls : Array Slot), va_P E.1 vwCl (pv_wM E a0 a1 a2 a3 a4 a5 a6 a7 a8 a9 a10 w) H → va_S A s.heap H locs → lv_has ls 3 [(0, .ref a0), (2, .int x2)] → m_X7_all_49 x2 w = some F → W p l e r_X7_all s m args below meth c H locs 0 0 (MQ below (pv_Rw E (pv_wM E a0 a1 a2 a3 a4 a5 a6 a7 a8 a9 a10 w0) sz (some (.int F.1)) ((fun w : pv_MT => pv_wM E a0 a1 a2 a3 a4 a5 a6 a7 a8 a9 a10 w) F.2)) args s 0 0 A) (F0 m 49 ls []) := by
    intro x2 w H locs ls hP hS hl hq
    refine lv_aload_n (pc := 49) hx hb dX7_all_49 rfl (lv_at hl 0 rfl) ?_
    obtain ⟨u_5, hu_5, hq⟩ := pv_bind hq
    refine pv_vRWf (pc := 50) (rest := []) (st1 := []) (ws := pv_wM E a0 a1 a2 a3 a4 a5 a6 a7 a8 a9 a10 w) [] ⟨hx, hb, hml, hown, hts⟩ hE hA hS hP (hD w) (c_X7_putsBack l E a0 a1 a2 a3 a4 a5 a6 a7 a8 a9 a10 w u_5 hu_5) (cwV 0 hts gX7_all_X7_putsBack rfl rfl rfl (by decide +kernel) ⟨(Nat.le_of_ble_eq_true rfl), (Nat.le_of_ble_eq_true rfl)⟩) (va_recv hK hP (ci := 5) (q0 := 0) rfl rfl) rfl hl.1 rfl rfl (Nat.le_of_ble_eq_true rfl) dX7_all_50 ⟨Nat.zero_le _, Nat.zero_le _⟩ (fun H locs hP hS => ?_)
    have hP : va_P E.1 vwCl (pv_wM E a0 a1 a2 a3 a4 a5 a6 a7 a8 a9 a10 u_5) H := hP
    refine lv_iload_n (pc := 53) hx hb dX7_all_53 rfl (lv_at hl 1 rfl) ?_
    refine lv_bipush (pc := 54) (v := 100) hx hb dX7_all_54 (by decide) ?_
    refine lv_icmp_le (pc := 56) (tgt := 68) hx hb dX7_all_56 (by decide) (fun c_6 => ?_) (fun c_6 => ?_)
    · have hq := pv_pos c_6 hq
      refine lv_iload_n (pc := 68) hx hb dX7_all_68 rfl (lv_at hl 1 rfl) ?_
      exact pv_riRW (w := fun w : pv_MT => pv_wM E a0 a1 a2 a3 a4 a5 a6 a7 a8 a9 a10 w) hx hb hr hlk hAe hS hP (Option.some.inj hq) dX7_all_69
    · have hq := pv_neg c_6 hq
      refine lv_aload_n (pc := 59) hx hb dX7_all_59 rfl (lv_at hl 0 rfl) ?_
      refine lv_ldc (pc := 60) hx hb hown lc_42 dX7_all_60 ?_
      obtain ⟨u_7, hu_7, hq⟩ := pv_bind hq
      refine pv_vRWf (pc := 62) (rest := []) (st1 := [.int u_7.1]) (ws := pv_wM E a0 a1 a2 a3 a4 a5 a6 a7 a8 a9 a10 u_5) [.int (-1000000004)] ⟨hx, hb, hml, hown, hts⟩ hE hA hS hP (hD u_5) (c_X7_finds l E a0 a1 a2 a3 a4 a5 a6 a7 a8 a9 a10 (-1000000004) u_5 u_7 hu_7) (cwV 1 hts gX7_all_X7_finds rfl rfl rfl (by decide +kernel) ⟨(Nat.le_of_ble_eq_true rfl), (Nat.le_of_ble_eq_true rfl)⟩) (va_recv hK hP (ci := 5) (q0 := 0) rfl rfl) rfl hl.1 rfl rfl (Nat.le_of_ble_eq_true rfl) dX7_all_62 ⟨Nat.zero_le _, Nat.zero_le _⟩ (fun H locs hP hS => ?_)
      have hP : va_P E.1 vwCl (pv_wM E a0 a1 a2 a3 a4 a5 a6 a7 a8 a9 a10 u_7.2) H := hP
      refine lv_goto (pc := 65) (tgt := 69) hx hb dX7_all_65 (by decide) ?_
      exact pv_riRW (w := fun w : pv_MT => pv_wM E a0 a1 a2 a3 a4 a5 a6 a7 a8 a9 a10 w) hx hb hr hlk hAe hS hP (Option.some.inj hq) dX7_all_69
  have L_20 : ∀ n : Nat, ∀ (x1 : Int32) (x2 : Int32) (w : pv_MT) (H : Heap) (locs : List Loc) (ls : Array Slot), va_P E.1 vwCl (pv_wM E a0 a1 a2 a3 a4 a5 a6 a7 a8 a9 a10 w) H → va_S A s.heap H locs → lv_has ls 3 [(0, .ref a0), (1, .int x1), (2, .int x2)] → m_X7_all_20 n x1 x2 w = some F → W p l e r_X7_all s m args below meth c H locs 0 0 (MQ below (pv_Rw E (pv_wM E a0 a1 a2 a3 a4 a5 a6 a7 a8 a9 a10 w0) sz (some (.int F.1)) ((fun w : pv_MT => pv_wM E a0 a1 a2 a3 a4 a5 a6 a7 a8 a9 a10 w) F.2)) args s 0 0 A) (F0 m 20 ls []) := by
    intro n
    induction n with
    | zero =>
      intro x1 x2 w H locs ls hP hS hl hq
      exact (pv_no hq).elim
    | succ n ih =>
      intro x1 x2 w H locs ls hP hS hl hq
      refine lv_iload_n (pc := 20) hx hb dX7_all_20 rfl (lv_at hl 2 rfl) ?_
      refine lv_bipush (pc := 21) (v := 100) hx hb dX7_all_21 (by decide) ?_
      refine lv_icmp_gt (pc := 23) (tgt := 49) hx hb dX7_all_23 (by decide) (fun c_4 => ?_) (fun c_4 => ?_)
      · have hq := pv_pos c_4 hq
        exact B_49 x2 w H locs ls hP hS (lv_sub hl [0, 2] rfl) hq
      · have hq := pv_neg c_4 hq
        refine lv_aload_n (pc := 26) hx hb dX7_all_26 rfl (lv_at hl 0 rfl) ?_
        refine lv_iload_n (pc := 27) hx hb dX7_all_27 rfl (lv_at hl 1 rfl) ?_
        obtain ⟨u_8, hu_8, hq⟩ := pv_bind hq
        refine pv_vROf (pc := 28) (rest := []) (st1 := [.int u_8]) (ws := pv_wM E a0 a1 a2 a3 a4 a5 a6 a7 a8 a9 a10 w) [.int x1] ⟨hx, hb, hml, hown, hts⟩ hE hA hS hP (hD w) (c_X7_landsOf l E a0 a1 a2 a3 a4 a5 a6 a7 a8 a9 a10 x1 w u_8 hu_8) (cwV 1 hts gX7_all_X7_landsOf rfl rfl rfl (by decide +kernel) ⟨(Nat.le_of_ble_eq_true rfl), (Nat.le_of_ble_eq_true rfl)⟩) (va_recv hK hP (ci := 5) (q0 := 0) rfl rfl) rfl hl.1 rfl rfl (Nat.le_of_ble_eq_true rfl) dX7_all_28 ⟨Nat.zero_le _, Nat.zero_le _⟩ (fun locs hS => ?_)
        obtain ⟨u_9, hu_9, hq⟩ := pv_bind hq
        refine pv_sRO (pc := 31) (rest := []) (st1 := [.int u_9]) (ws := pv_wM E a0 a1 a2 a3 a4 a5 a6 a7 a8 a9 a10 w) [.int u_8] ⟨hx, hb, hml, hown, hts⟩ hE hA hS hP (hD w) (c_X7_bits l E u_8 u_9 hu_9) (va_cwS 1 hts gX7_all_X7_bits rfl rfl rfl (by decide +kernel) ⟨(Nat.le_of_ble_eq_true rfl), (Nat.le_of_ble_eq_true rfl)⟩) [] rfl rfl rfl hl.1 rfl rfl (Nat.le_of_ble_eq_true rfl) dX7_all_31 ⟨Nat.zero_le _, Nat.zero_le _⟩ (fun locs hS => ?_)
        refine lv_bipush (pc := 34) (v := 8) hx hb dX7_all_34 (by decide) ?_
        refine lv_icmp_ge (pc := 36) (tgt := 49) hx hb dX7_all_36 (by decide) (fun c_10 => ?_) (fun c_10 => ?_)
        · have hq := pv_pos c_10 hq
          exact B_49 x2 w H locs ls hP hS (lv_sub hl [0, 2] rfl) hq
        · have hq := pv_neg c_10 hq
          refine lv_aload_n (pc := 39) hx hb dX7_all_39 rfl (lv_at hl 0 rfl) ?_
          obtain ⟨u_11, hu_11, hq⟩ := pv_bind hq
          refine pv_vRWf (pc := 40) (rest := []) (st1 := []) (ws := pv_wM E a0 a1 a2 a3 a4 a5 a6 a7 a8 a9 a10 w) [] ⟨hx, hb, hml, hown, hts⟩ hE hA hS hP (hD w) (c_X7_goes l E a0 a1 a2 a3 a4 a5 a6 a7 a8 a9 a10 w u_11 hu_11) (cwV 0 hts gX7_all_X7_goes rfl rfl rfl (by decide +kernel) ⟨(Nat.le_of_ble_eq_true rfl), (Nat.le_of_ble_eq_true rfl)⟩) (va_recv hK hP (ci := 5) (q0 := 0) rfl rfl) rfl hl.1 rfl rfl (Nat.le_of_ble_eq_true rfl) dX7_all_40 ⟨Nat.zero_le _, Nat.zero_le _⟩ (fun H locs hP hS => ?_)
          have hP : va_P E.1 vwCl (pv_wM E a0 a1 a2 a3 a4 a5 a6 a7 a8 a9 a10 u_11) H := hP
          refine lv_iinc (pc := 43) (v := (x2 + 1)) (lv' := [(2, .int (x2 + 1)), (0, .ref a0), (1, .int x1)]) hx hb dX7_all_43 hl (k := 2) rfl rfl (Nat.le_of_ble_eq_true rfl) rfl (fun ls hl => ?_)
          refine lv_goto (pc := 46) (tgt := 20) hx hb dX7_all_46 (by decide) ?_
          exact ih x1 (x2 + 1) u_11 H locs ls hP hS (lv_sub hl [1, 2, 0] rfl) hq
  suffices M0 : ∀ (H : Heap) (locs : List Loc), va_P E.1 vwCl (pv_wM E a0 a1 a2 a3 a4 a5 a6 a7 a8 a9 a10 w0) H → va_S A s.heap H locs → W p l e r_X7_all s m args below meth c H locs 0 0 (MQ below (pv_Rw E (pv_wM E a0 a1 a2 a3 a4 a5 a6 a7 a8 a9 a10 w0) sz (some (.int F.1)) ((fun w : pv_MT => pv_wM E a0 a1 a2 a3 a4 a5 a6 a7 a8 a9 a10 w) F.2)) args s 0 0 A) (F0 m 0 ls []) from M0 s.heap [] hP hS
  intro H locs hP hS
  refine lv_iload_n (pc := 0) hx hb dX7_all_0 rfl (lv_at hl 1 rfl) ?_
  obtain ⟨u_1, hu_1, hq⟩ := pv_bind hq
  refine pv_sRO (pc := 1) (rest := []) (st1 := [.int u_1]) (ws := pv_wM E a0 a1 a2 a3 a4 a5 a6 a7 a8 a9 a10 w0) [.int x1] ⟨hx, hb, hml, hown, hts⟩ hE hA hS hP (hD w0) (c_X7_isState l E x1 u_1 hu_1) (va_cwS 1 hts gX7_all_X7_isState rfl rfl rfl (by decide +kernel) ⟨(Nat.le_of_ble_eq_true rfl), (Nat.le_of_ble_eq_true rfl)⟩) [] rfl rfl rfl hl.1 rfl rfl (Nat.le_of_ble_eq_true rfl) dX7_all_1 ⟨Nat.zero_le _, Nat.zero_le _⟩ (fun locs hS => ?_)
  refine lv_if_ne (pc := 4) (tgt := 14) hx hb dX7_all_4 (by decide) (fun c_2 => ?_) (fun c_2 => ?_)
  · have hq := pv_neg c_2 hq
    refine lv_aload_n (pc := 14) hx hb dX7_all_14 rfl (lv_at hl 0 rfl) ?_
    obtain ⟨u_3, hu_3, hq⟩ := pv_bind hq
    refine pv_vRWf (pc := 15) (rest := []) (st1 := []) (ws := pv_wM E a0 a1 a2 a3 a4 a5 a6 a7 a8 a9 a10 w0) [] ⟨hx, hb, hml, hown, hts⟩ hE hA hS hP (hD w0) (c_X7_thinks l E a0 a1 a2 a3 a4 a5 a6 a7 a8 a9 a10 w0 u_3 hu_3) (cwV 0 hts gX7_all_X7_thinks rfl rfl rfl (by decide +kernel) ⟨(Nat.le_of_ble_eq_true rfl), (Nat.le_of_ble_eq_true rfl)⟩) (va_recv hK hP (ci := 5) (q0 := 0) rfl rfl) rfl hl.1 rfl rfl (Nat.le_of_ble_eq_true rfl) dX7_all_15 ⟨Nat.zero_le _, Nat.zero_le _⟩ (fun H locs hP hS => ?_)
    have hP : va_P E.1 vwCl (pv_wM E a0 a1 a2 a3 a4 a5 a6 a7 a8 a9 a10 u_3) H := hP
    refine lv_iconst (pc := 18) (v := 0) hx hb dX7_all_18 (by decide) ?_
    refine lv_istore_n (pc := 19) (lv' := [(2, .int 0), (0, .ref a0), (1, .int x1)]) hx hb dX7_all_19 rfl hl (Nat.le_of_ble_eq_true rfl) rfl (fun ls hl => ?_)
    exact L_20 300 x1 0 u_3 H locs ls hP hS (lv_sub hl [1, 2, 0] rfl) hq
  · have hq := pv_pos c_2 hq
    refine lv_aload_n (pc := 7) hx hb dX7_all_7 rfl (lv_at hl 0 rfl) ?_
    refine lv_ldc (pc := 8) hx hb hown lc_41 dX7_all_8 ?_
    obtain ⟨u_12, hu_12, hq⟩ := pv_bind hq
    refine pv_vRWf (pc := 10) (rest := []) (st1 := [.int u_12.1]) (ws := pv_wM E a0 a1 a2 a3 a4 a5 a6 a7 a8 a9 a10 w0) [.int (-1000000001)] ⟨hx, hb, hml, hown, hts⟩ hE hA hS hP (hD w0) (c_X7_finds l E a0 a1 a2 a3 a4 a5 a6 a7 a8 a9 a10 (-1000000001) w0 u_12 hu_12) (cwV 1 hts gX7_all_X7_finds rfl rfl rfl (by decide +kernel) ⟨(Nat.le_of_ble_eq_true rfl), (Nat.le_of_ble_eq_true rfl)⟩) (va_recv hK hP (ci := 5) (q0 := 0) rfl rfl) rfl hl.1 rfl rfl (Nat.le_of_ble_eq_true rfl) dX7_all_10 ⟨Nat.zero_le _, Nat.zero_le _⟩ (fun H locs hP hS => ?_)
    have hP : va_P E.1 vwCl (pv_wM E a0 a1 a2 a3 a4 a5 a6 a7 a8 a9 a10 u_12.2) H := hP
    exact pv_riRW (w := fun w : pv_MT => pv_wM E a0 a1 a2 a3 a4 a5 a6 a7 a8 a9 a10 w) hx hb hr hlk hAe hS hP (Option.some.inj hq) dX7_all_13
