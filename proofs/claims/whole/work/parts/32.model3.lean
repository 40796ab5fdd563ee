def m_X7_bestAt_79 (k_13 : Int32 → Int32 → Int32 → Int32 → Int32 → Int32 → Int32 → Int32 → pv_MT → Option (Int32 × pv_MT)) (x1 : Int32) (x3 : Int32) (x4 : Int32) (x5 : Int32) (x6 : Int32) (x7 : Int32) (x9 : Int32) (y0 : Int32) (w : pv_MT) : Option (Int32 × pv_MT) :=
  k_13 x1 x3 x4 x5 x6 x7 y0 (x9 + x3) w
def m_X7_bestAt_63 (k_13 : Int32 → Int32 → Int32 → Int32 → Int32 → Int32 → Int32 → Int32 → pv_MT → Option (Int32 × pv_MT)) (x1 : Int32) (x3 : Int32) (x4 : Int32) (x5 : Int32) (x6 : Int32) (x8 : Int32) (x9 : Int32) (x10 : Int32) (y0 : Int32) (w : pv_MT) : Option (Int32 × pv_MT) :=
  if x10 ≤ x8 then (m_X7_bestAt_79 k_13 x1 x3 x4 x5 x6 y0 x9 x8 w) else (m_X7_bestAt_79 k_13 x1 x3 x4 x5 x6 y0 x9 x10 w)
def m_X7_bestAt_13 : Nat → Int32 → Int32 → Int32 → Int32 → Int32 → Int32 → Int32 → Int32 → pv_MT → Option (Int32 × pv_MT)
  | 0 => fun _ _ _ _ _ _ _ _ _ => none
  | n + 1 => fun x1 x3 x4 x5 x6 x7 x8 x9 w =>
    if x4 < x9 then (some (x7, w)) else (pv_gd x1 31 (Option.bind (m_X7_goesFor x6 ((upd w.1 x1.toNatClampNeg x9), w.2.1, w.2.2.1, w.2.2.2.1, w.2.2.2.2.1, w.2.2.2.2.2.1, w.2.2.2.2.2.2.1, w.2.2.2.2.2.2.2.1, w.2.2.2.2.2.2.2.2.1, w.2.2.2.2.2.2.2.2.2.1, w.2.2.2.2.2.2.2.2.2.2.1, w.2.2.2.2.2.2.2.2.2.2.2.1, w.2.2.2.2.2.2.2.2.2.2.2.2.1, w.2.2.2.2.2.2.2.2.2.2.2.2.2.1, w.2.2.2.2.2.2.2.2.2.2.2.2.2.2.1, w.2.2.2.2.2.2.2.2.2.2.2.2.2.2.2.1, w.2.2.2.2.2.2.2.2.2.2.2.2.2.2.2.2)) fun u_4 => (Option.bind (m_X7_landsOf x5 u_4) fun u_5 => (Option.bind (m_X7_bits u_5) fun u_6 => (Option.bind (m_X7_putsBack u_4) fun u_7 => (if u_6 ≤ x8 then (m_X7_bestAt_63 (m_X7_bestAt_13 n) x1 x3 x4 x5 x6 x8 x9 u_6 x7 u_7) else (m_X7_bestAt_63 (m_X7_bestAt_13 n) x1 x3 x4 x5 x6 x8 x9 u_6 x9 u_7)))))))
def m_X7_bestAt (x1 : Int32) (x2 : Int32) (x3 : Int32) (x4 : Int32) (x5 : Int32) (x6 : Int32) (w : pv_MT) : Option (Int32 × pv_MT) :=
  Option.bind (m_X7_thinks w) fun u_1 => (m_X7_bestAt_13 300 x1 x3 x4 x5 x6 (-1) (-1) x2 u_1)
abbrev r_X7_bestAt : Room := { frames := 8, cells := 0, slots := 0, locals := 187 }
set_option maxHeartbeats 4000000 in
set_option maxRecDepth 100000 in
theorem c_X7_bestAt (l : Launch) (E : pv_E) (a0 a1 a2 a3 a4 a5 a6 a7 a8 a9 a10 : Nat) (x1 : Int32) (x2 : Int32) (x3 : Int32) (x4 : Int32) (x5 : Int32) (x6 : Int32) (w0 : pv_MT) (F : Int32 × pv_MT) (hq : m_X7_bestAt x1 x2 x3 x4 x5 x6 w0 = some F) : pv_RW l E yX7_bestAt wsX7_bestAt r_X7_bestAt (pv_wM E a0 a1 a2 a3 a4 a5 a6 a7 a8 a9 a10 w0) [.ref a0, .int x1, .int x2, .int x3, .int x4, .int x5, .int x6] (some (.int F.1)) (pv_wM E a0 a1 a2 a3 a4 a5 a6 a7 a8 a9 a10 F.2) := by
  intro sz
  refine pv_mk (by decide) rfl (Nat.le_of_ble_eq_true rfl) ?_
  intro p e s m args below meth c A hx hb hr hml hown hts hlk hAe hP hD0 hA hE hS ls hl
  have hown : s.vm.findClass RX7 = some m.cls := hown
  have hK := hE.1
  have hD : ∀ w : pv_MT, va_D A (pv_wM E a0 a1 a2 a3 a4 a5 a6 a7 a8 a9 a10 w) := fun w => pv_Dm (ws := pv_wM E a0 a1 a2 a3 a4 a5 a6 a7 a8 a9 a10 w0) (ws' := pv_wM E a0 a1 a2 a3 a4 a5 a6 a7 a8 a9 a10 w) rfl hD0
  have hP : va_P E.1 vwCl (pv_wM E a0 a1 a2 a3 a4 a5 a6 a7 a8 a9 a10 w0) s.heap := hP
  have fl_9 : (Cond.fieldLink RX7 9 "ProvinceCardsModel" "m" "[I").before args s = true := hts _ (by decide +kernel)
  have i_RX7 : ∀ w ∈ wsX70, w ∈ wsX7_bestAt := by decide +kernel
  have hl : lv_has ls 11 [(0, .ref a0), (1, .int x1), (2, .int x2), (3, .int x3), (4, .int x4), (5, .int x5), (6, .int x6)] := hl
  have B_79 : ∀ (k_13 : Int32 → Int32 → Int32 → Int32 → Int32 → Int32 → Int32 → Int32 → pv_MT → Option (Int32 × pv_MT)), (∀ (x1 : Int32) (x3 : Int32) (x4 : Int32) (x5 : Int32) (x6 : Int32) (x7 : Int32) (x8 : Int32) (x9 : Int32) (w : pv_MT) (H : Heap) (locs : List Loc) (ls : Array Slot), va_P E.1 vwCl (pv_wM E a0 a1 a2 a3 a4 a5 a6 a7 a8 a9 a10 w) H → va_S A s.heap H locs → lv_has ls 11 [(0, .ref a0), (1, .int x1), (3, .int x3), (4, .int x4), (5, .int x5), (6, .int x6), (7, .int x7), (8, .int x8), (9, .int x9)] → k_13 x1 x3 x4 x5 x6 x7 x8 x9 w = some F → W p l e r_X7_bestAt s m args below meth c H locs 0 0 (MQ below (pv_Rw E (pv_wM E a0 a1 a2 a3 a4 a5 a6 a7 a8 a9 a10 w0) sz (some (.int F.1)) ((fun w : pv_MT => pv_wM E a0 a1 a2 a3 a4 a5 a6 a7 a8 a9 a10 w) F.2)) args s 0 0 A) (F0 m 13 ls [])) → ∀ (x1 : Int32) (x3 : Int32) (x4 : Int32) (x5 : Int32) (x6 : Int32) (x7 : Int32) (x9 : Int32) (y0 : Int32) (w : pv_MT) (H : Heap) (locs : List Loc) (ls : Array Slot), va_P E.1 vwCl (pv_wM E a0 a1 a2 a3 a4 a5 a6 a7 a8 a9 a10 w) H → va_S A s.heap H locs → lv_has ls 11 [(0, .ref a0), (1, .int x1), (3, .int x3), (4, .int x4), (5, .int x5), (6, .int x6), (7, .int x7), (9, .int x9)] → m_X7_bestAt_79 k_13 x1 x3 x4 x5 x6 x7 x9 y0 w = some F → W p l e r_X7_bestAt s m args below meth c H locs 0 0 (MQ below (pv_Rw E (pv_wM E a0 a1 a2 a3 a4 a5 a6 a7 a8 a9 a10 w0) sz (some (.int F.1)) ((fun w : pv_MT => pv_wM E a0 a1 a2 a3 a4 a5 a6 a7 a8 a9 a10 w) F.2)) args s 0 0 A) (F0 m 79 ls [.int y0]) := by
    intro k_13 hk_13
    intro x1 x3 x4 x5 x6 x7 x9 y0 w H locs ls hP hS hl hq
    refine lv_istore (pc := 79) (lv' := [(8, .int y0), (0, .ref a0), (1, .int x1), (3, .int x3), (4, .int x4), (5, .int x5), (6, .int x6), (7, .int x7), (9, .int x9)]) hx hb dX7_bestAt_79 hl (Nat.le_of_ble_eq_true rfl) rfl (fun ls hl => ?_)
    refine lv_iload (pc := 81) hx hb dX7_bestAt_81 (lv_at hl 8 rfl) ?_
    refine lv_iload_n (pc := 83) hx hb dX7_bestAt_83 rfl (lv_at hl 3 rfl) ?_
    refine lv_iadd (pc := 84) hx hb dX7_bestAt_84 ?_
    refine lv_istore (pc := 85) (lv' := [(9, .int (x9 + x3)), (8, .int y0), (0, .ref a0), (1, .int x1), (3, .int x3), (4, .int x4), (5, .int x5), (6, .int x6), (7, .int x7)]) hx hb dX7_bestAt_85 hl (Nat.le_of_ble_eq_true rfl) rfl (fun ls hl => ?_)
    refine lv_goto (pc := 87) (tgt := 13) hx hb dX7_bestAt_87 (by decide) ?_
    exact hk_13 x1 x3 x4 x5 x6 x7 y0 (x9 + x3) w H locs ls hP hS (lv_sub hl [2, 3, 4, 5, 6, 7, 8, 1, 0] rfl) hq
  have B_63 : ∀ (k_13 : Int32 → Int32 → Int32 → Int32 → Int32 → Int32 → Int32 → Int32 → pv_MT → Option (Int32 × pv_MT)), (∀ (x1 : Int32) (x3 : Int32) (x4 : Int32) (x5 : Int32) (x6 : Int32) (x7 : Int32) (x8 : Int32) (x9 : Int32) (w : pv_MT) (H : Heap) (locs : List Loc) (ls : Array Slot), va_P E.1 vwCl (pv_wM E a0 a1 a2 a3 a4 a5 a6 a7 a8 a9 a10 w) H → va_S A s.heap H locs → lv_has ls 11 [(0, .ref a0), (1, .int x1), (3, .int x3), (4, .int x4), (5, .int x5), (6, .int x6), (7, .int x7), (8, .int x8), (9, .int x9)] → k_13 x1 x3 x4 x5 x6 x7 x8 x9 w = some F → W p l e r_X7_bestAt s m args below meth c H locs 0 0 (MQ below (pv_Rw E (pv_wM E a0 a1 a2 a3 a4 a5 a6 a7 a8 a9 a10 w0) sz (some (.int F.1)) ((fun w : pv_MT => pv_wM E a0 a1 a2 a3 a4 a5 a6 a7 a8 a9 a10 w) F.2)) args s 0 0 A) (F0 m 13 ls [])) → ∀ (x1 : Int32) (x3 : Int32) (x4 : Int32) (x5 : Int32) (x6 : Int32) (x8 : Int32) (x9 : Int32) (x10 : Int32) (y0 : Int32) (w : pv_MT) (H : Heap) (locs : List Loc) (ls : Array Slot), va_P E.1 vwCl (pv_wM E a0 a1 a2 a3 a4 a5 a6 a7 a8 a9 a10 w) H → va_S A s.heap H locs → lv_has ls 11 [(0, .ref a0), (1, .int x1), (3, .int x3), (4, .int x4), (5, .int x5), (6, .int x6), (8, .int x8), (9, .int x9), (10, .int x10)] → m_X7_bestAt_63 k_13 x1 x3 x4 x5 x6 x8 x9 x10 y0 w = some F → W p l e r_X7_bestAt s m args below meth c H locs 0 0 (MQ below (pv_Rw E (pv_wM E a0 a1 a2 a3 a4 a5 a6 a7 a8 a9 a10 w0) sz (some (.int F.1)) ((fun w : pv_MT => pv_wM E a0 a1 a2 a3 a4 a5 a6 a7 a8 a9 a10 w) F.2)) args s 0 0 A) (F0 m 63 ls [.int y0]) := by
    intro k_13 hk_13
    intro x1 x3 x4 x5 x6 x8 x9 x10 y0 w H locs ls hP hS hl hq
    refine lv_istore (pc := 63) (lv' := [(7, .int y0), (0, .ref a0), (1, .int x1), (3, .int x3), (4, .int x4), (5, .int x5), (6, .int x6), (8, .int x8), (9, .int x9), (10, .int x10)]) hx hb dX7_bestAt_63 hl (Nat.le_of_ble_eq_true rfl) rfl (fun ls hl => ?_)
    refine lv_iload (pc := 65) hx hb dX7_bestAt_65 (lv_at hl 9 rfl) ?_
    refine lv_iload (pc := 67) hx hb dX7_bestAt_67 (lv_at hl 7 rfl) ?_
    refine lv_icmp_le (pc := 69) (tgt := 77) hx hb dX7_bestAt_69 (by decide) (fun c_9 => ?_) (fun c_9 => ?_)
    · have hq := pv_pos c_9 hq
      refine lv_iload (pc := 77) hx hb dX7_bestAt_77 (lv_at hl 7 rfl) ?_
      exact B_79 k_13 hk_13 x1 x3 x4 x5 x6 y0 x9 x8 w H locs ls hP hS (lv_sub hl [1, 2, 3, 4, 5, 6, 0, 8] rfl) hq
    · have hq := pv_neg c_9 hq
      refine lv_iload (pc := 72) hx hb dX7_bestAt_72 (lv_at hl 9 rfl) ?_
      refine lv_goto (pc := 74) (tgt := 79) hx hb dX7_bestAt_74 (by decide) ?_
      exact B_79 k_13 hk_13 x1 x3 x4 x5 x6 y0 x9 x10 w H locs ls hP hS (lv_sub hl [1, 2, 3, 4, 5, 6, 0, 8] rfl) hq
  have L_13 : ∀ n : Nat, ∀ (x1 : Int32) (x3 : Int32) (x4 : Int32) (x5 : Int32) (x6 : Int32) (x7 : Int32) (x8 : Int32) (x9 : Int32) (w : pv_MT) (H : Heap) (locs : List Loc) (ls : Array Slot), va_P E.1 vwCl (pv_wM E a0 a1 a2 a3 a4 a5 a6 a7 a8 a9 a10 w) H → va_S A s.heap H locs → lv_has ls 11 [(0, .ref a0), (1, .int x1), (3, .int x3), (4, .int x4), (5, .int x5), (6, .int x6), (7, .int x7), (8, .int x8), (9, .int x9)] → m_X7_bestAt_13 n x1 x3 x4 x5 x6 x7 x8 x9 w = some F → W p l e r_X7_bestAt s m args below meth c H locs 0 0 (MQ below (pv_Rw E (pv_wM E a0 a1 a2 a3 a4 a5 a6 a7 a8 a9 a10 w0) sz (some (.int F.1)) ((fun w : pv_MT => pv_wM E a0 a1 a2 a3 a4 a5 a6 a7 a8 a9 a10 w) F.2)) args s 0 0 A) (F0 m 13 ls []) := by
    intro n
    induction n with
    | zero =>
      intro x1 x3 x4 x5 x6 x7 x8 x9 w H locs ls hP hS hl hq
      exact (pv_no hq).elim
    | succ n ih =>
      intro x1 x3 x4 x5 x6 x7 x8 x9 w H locs ls hP hS hl hq
      refine lv_iload (pc := 13) hx hb dX7_bestAt_13 (lv_at hl 8 rfl) ?_
      refine lv_iload (pc := 15) hx hb dX7_bestAt_15 (lv_at hl 3 rfl) ?_
      refine lv_icmp_gt (pc := 17) (tgt := 90) hx hb dX7_bestAt_17 (by decide) (fun c_2 => ?_) (fun c_2 => ?_)
      · have hq := pv_pos c_2 hq
        refine lv_iload (pc := 90) hx hb dX7_bestAt_90 (lv_at hl 6 rfl) ?_
        exact pv_riRW (w := fun w : pv_MT => pv_wM E a0 a1 a2 a3 a4 a5 a6 a7 a8 a9 a10 w) hx hb hr hlk hAe hS hP (Option.some.inj hq) dX7_bestAt_92
      · have hq := pv_neg c_2 hq
        refine lv_aload_n (pc := 20) hx hb dX7_bestAt_20 rfl (lv_at hl 0 rfl) ?_
        refine va_get (pc := 21) (D := E.1) (ci := 5) (v := .ref a1) (C := RX7) (T := TX7) (N := 17) hx hb hts i_RX7 hown hK hP 0 rfl rfl 0 (Nat.le_of_ble_eq_true rfl) fl_9 (fun _ h9 => h9) rfl dX7_bestAt_21 ?_
        refine lv_iload_n (pc := 24) hx hb dX7_bestAt_24 rfl (lv_at hl 1 rfl) ?_
        refine lv_iload (pc := 25) hx hb dX7_bestAt_25 (lv_at hl 8 rfl) ?_
        obtain ⟨h_3, hq⟩ := pv_gd_some hq
        refine va_iast (pc := 27) (D := E.1) hx hb hK hP (hD w) hS 1 0 rfl rfl h_3 dX7_bestAt_27 (fun H locs hP _ hS => ?_)
        have hP : va_P E.1 vwCl (pv_wM E a0 a1 a2 a3 a4 a5 a6 a7 a8 a9 a10 ((upd w.1 x1.toNatClampNeg x9), w.2.1, w.2.2.1, w.2.2.2.1, w.2.2.2.2.1, w.2.2.2.2.2.1, w.2.2.2.2.2.2.1, w.2.2.2.2.2.2.2.1, w.2.2.2.2.2.2.2.2.1, w.2.2.2.2.2.2.2.2.2.1, w.2.2.2.2.2.2.2.2.2.2.1, w.2.2.2.2.2.2.2.2.2.2.2.1, w.2.2.2.2.2.2.2.2.2.2.2.2.1, w.2.2.2.2.2.2.2.2.2.2.2.2.2.1, w.2.2.2.2.2.2.2.2.2.2.2.2.2.2.1, w.2.2.2.2.2.2.2.2.2.2.2.2.2.2.2.1, w.2.2.2.2.2.2.2.2.2.2.2.2.2.2.2.2)) H := hP
        refine lv_aload_n (pc := 28) hx hb dX7_bestAt_28 rfl (lv_at hl 0 rfl) ?_
        refine lv_iload (pc := 29) hx hb dX7_bestAt_29 (lv_at hl 5 rfl) ?_
        obtain ⟨u_4, hu_4, hq⟩ := pv_bind hq
        refine pv_vRWf (pc := 31) (rest := []) (st1 := []) (ws := pv_wM E a0 a1 a2 a3 a4 a5 a6 a7 a8 a9 a10 ((upd w.1 x1.toNatClampNeg x9), w.2.1, w.2.2.1, w.2.2.2.1, w.2.2.2.2.1, w.2.2.2.2.2.1, w.2.2.2.2.2.2.1, w.2.2.2.2.2.2.2.1, w.2.2.2.2.2.2.2.2.1, w.2.2.2.2.2.2.2.2.2.1, w.2.2.2.2.2.2.2.2.2.2.1, w.2.2.2.2.2.2.2.2.2.2.2.1, w.2.2.2.2.2.2.2.2.2.2.2.2.1, w.2.2.2.2.2.2.2.2.2.2.2.2.2.1, w.2.2.2.2.2.2.2.2.2.2.2.2.2.2.1, w.2.2.2.2.2.2.2.2.2.2.2.2.2.2.2.1, w.2.2.2.2.2.2.2.2.2.2.2.2.2.2.2.2)) [.int x6] ⟨hx, hb, hml, hown, hts⟩ hE hA hS hP (hD ((upd w.1 x1.toNatClampNeg x9), w.2.1, w.2.2.1, w.2.2.2.1, w.2.2.2.2.1, w.2.2.2.2.2.1, w.2.2.2.2.2.2.1, w.2.2.2.2.2.2.2.1, w.2.2.2.2.2.2.2.2.1, w.2.2.2.2.2.2.2.2.2.1, w.2.2.2.2.2.2.2.2.2.2.1, w.2.2.2.2.2.2.2.2.2.2.2.1, w.2.2.2.2.2.2.2.2.2.2.2.2.1, w.2.2.2.2.2.2.2.2.2.2.2.2.2.1, w.2.2.2.2.2.2.2.2.2.2.2.2.2.2.1, w.2.2.2.2.2.2.2.2.2.2.2.2.2.2.2.1, w.2.2.2.2.2.2.2.2.2.2.2.2.2.2.2.2)) (c_X7_goesFor l E a0 a1 a2 a3 a4 a5 a6 a7 a8 a9 a10 x6 ((upd w.1 x1.toNatClampNeg x9), w.2.1, w.2.2.1, w.2.2.2.1, w.2.2.2.2.1, w.2.2.2.2.2.1, w.2.2.2.2.2.2.1, w.2.2.2.2.2.2.2.1, w.2.2.2.2.2.2.2.2.1, w.2.2.2.2.2.2.2.2.2.1, w.2.2.2.2.2.2.2.2.2.2.1, w.2.2.2.2.2.2.2.2.2.2.2.1, w.2.2.2.2.2.2.2.2.2.2.2.2.1, w.2.2.2.2.2.2.2.2.2.2.2.2.2.1, w.2.2.2.2.2.2.2.2.2.2.2.2.2.2.1, w.2.2.2.2.2.2.2.2.2.2.2.2.2.2.2.1, w.2.2.2.2.2.2.2.2.2.2.2.2.2.2.2.2) u_4 hu_4) (cwV 1 hts gX7_bestAt_X7_goesFor rfl rfl rfl (by decide +kernel) ⟨(Nat.le_of_ble_eq_true rfl), (Nat.le_of_ble_eq_true rfl)⟩) (va_recv hK hP (ci := 5) (q0 := 0) rfl rfl) rfl hl.1 rfl rfl (Nat.le_of_ble_eq_true rfl) dX7_bestAt_31 ⟨Nat.zero_le _, Nat.zero_le _⟩ (fun H locs hP hS => ?_)
        have hP : va_P E.1 vwCl (pv_wM E a0 a1 a2 a3 a4 a5 a6 a7 a8 a9 a10 u_4) H := hP
        refine lv_aload_n (pc := 34) hx hb dX7_bestAt_34 rfl (lv_at hl 0 rfl) ?_
        refine lv_iload (pc := 35) hx hb dX7_bestAt_35 (lv_at hl 4 rfl) ?_
        obtain ⟨u_5, hu_5, hq⟩ := pv_bind hq
        refine pv_vROf (pc := 37) (rest := []) (st1 := [.int u_5]) (ws := pv_wM E a0 a1 a2 a3 a4 a5 a6 a7 a8 a9 a10 u_4) [.int x5] ⟨hx, hb, hml, hown, hts⟩ hE hA hS hP (hD u_4) (c_X7_landsOf l E a0 a1 a2 a3 a4 a5 a6 a7 a8 a9 a10 x5 u_4 u_5 hu_5) (cwV 1 hts gX7_bestAt_X7_landsOf rfl rfl rfl (by decide +kernel) ⟨(Nat.le_of_ble_eq_true rfl), (Nat.le_of_ble_eq_true rfl)⟩) (va_recv hK hP (ci := 5) (q0 := 0) rfl rfl) rfl hl.1 rfl rfl (Nat.le_of_ble_eq_true rfl) dX7_bestAt_37 ⟨Nat.zero_le _, Nat.zero_le _⟩ (fun locs hS => ?_)
        obtain ⟨u_6, hu_6, hq⟩ := pv_bind hq
        refine pv_sRO (pc := 40) (rest := []) (st1 := [.int u_6]) (ws := pv_wM E a0 a1 a2 a3 a4 a5 a6 a7 a8 a9 a10 u_4) [.int u_5] ⟨hx, hb, hml, hown, hts⟩ hE hA hS hP (hD u_4) (c_X7_bits l E u_5 u_6 hu_6) (va_cwS 1 hts gX7_bestAt_X7_bits rfl rfl rfl (by decide +kernel) ⟨(Nat.le_of_ble_eq_true rfl), (Nat.le_of_ble_eq_true rfl)⟩) [] rfl rfl rfl hl.1 rfl rfl (Nat.le_of_ble_eq_true rfl) dX7_bestAt_40 ⟨Nat.zero_le _, Nat.zero_le _⟩ (fun locs hS => ?_)
        refine lv_istore (pc := 43) (lv' := [(10, .int u_6), (0, .ref a0), (1, .int x1), (3, .int x3), (4, .int x4), (5, .int x5), (6, .int x6), (7, .int x7), (8, .int x8), (9, .int x9)]) hx hb dX7_bestAt_43 hl (Nat.le_of_ble_eq_true rfl) rfl (fun ls hl => ?_)
        refine lv_aload_n (pc := 45) hx hb dX7_bestAt_45 rfl (lv_at hl 1 rfl) ?_
        obtain ⟨u_7, hu_7, hq⟩ := pv_bind hq
        refine pv_vRWf (pc := 46) (rest := []) (st1 := []) (ws := pv_wM E a0 a1 a2 a3 a4 a5 a6 a7 a8 a9 a10 u_4) [] ⟨hx, hb, hml, hown, hts⟩ hE hA hS hP (hD u_4) (c_X7_putsBack l E a0 a1 a2 a3 a4 a5 a6 a7 a8 a9 a10 u_4 u_7 hu_7) (cwV 0 hts gX7_bestAt_X7_putsBack rfl rfl rfl (by decide +kernel) ⟨(Nat.le_of_ble_eq_true rfl), (Nat.le_of_ble_eq_true rfl)⟩) (va_recv hK hP (ci := 5) (q0 := 0) rfl rfl) rfl hl.1 rfl rfl (Nat.le_of_ble_eq_true rfl) dX7_bestAt_46 ⟨Nat.zero_le _, Nat.zero_le _⟩ (fun H locs hP hS => ?_)
        have hP : va_P E.1 vwCl (pv_wM E a0 a1 a2 a3 a4 a5 a6 a7 a8 a9 a10 u_7) H := hP
        refine lv_iload (pc := 49) hx hb dX7_bestAt_49 (lv_at hl 0 rfl) ?_
        refine lv_iload (pc := 51) hx hb dX7_bestAt_51 (lv_at hl 8 rfl) ?_
        refine lv_icmp_le (pc := 53) (tgt := 61) hx hb dX7_bestAt_53 (by decide) (fun c_8 => ?_) (fun c_8 => ?_)
        · have hq := pv_pos c_8 hq
          refine lv_iload (pc := 61) hx hb dX7_bestAt_61 (lv_at hl 7 rfl) ?_
          exact B_63 (m_X7_bestAt_13 n) ih x1 x3 x4 x5 x6 x8 x9 u_6 x7 u_7 H locs ls hP hS (lv_sub hl [1, 2, 3, 4, 5, 6, 8, 9, 0] rfl) hq
        · have hq := pv_neg c_8 hq
          refine lv_iload (pc := 56) hx hb dX7_bestAt_56 (lv_at hl 9 rfl) ?_
          refine lv_goto (pc := 58) (tgt := 63) hx hb dX7_bestAt_58 (by decide) ?_
          exact B_63 (m_X7_bestAt_13 n) ih x1 x3 x4 x5 x6 x8 x9 u_6 x9 u_7 H locs ls hP hS (lv_sub hl [1, 2, 3, 4, 5, 6, 8, 9, 0] rfl) hq
  suffices M0 : ∀ (H : Heap) (locs : List Loc), va_P E.1 vwCl (pv_wM E a0 a1 a2 a3 a4 a5 a6 a7 a8 a9 a10 w0) H → va_S A s.heap H locs → W p l e r_X7_bestAt s m args below meth c H locs 0 0 (MQ below (pv_Rw E (pv_wM E a0 a1 a2 a3 a4 a5 a6 a7 a8 a9 a10 w0) sz (some (.int F.1)) ((fun w : pv_MT => pv_wM E a0 a1 a2 a3 a4 a5 a6 a7 a8 a9 a10 w) F.2)) args s 0 0 A) (F0 m 0 ls []) from M0 s.heap [] hP hS
  intro H locs hP hS
  refine lv_aload_n (pc := 0) hx hb dX7_bestAt_0 rfl (lv_at hl 0 rfl) ?_
  obtain ⟨u_1, hu_1, hq⟩ := pv_bind hq
  refine pv_vRWf (pc := 1) (rest := []) (st1 := []) (ws := pv_wM E a0 a1 a2 a3 a4 a5 a6 a7 a8 a9 a10 w0) [] ⟨hx, hb, hml, hown, hts⟩ hE hA hS hP (hD w0) (c_X7_thinks l E a0 a1 a2 a3 a4 a5 a6 a7 a8 a9 a10 w0 u_1 hu_1) (cwV 0 hts gX7_bestAt_X7_thinks rfl rfl rfl (by decide +kernel) ⟨(Nat.le_of_ble_eq_true rfl), (Nat.le_of_ble_eq_true rfl)⟩) (va_recv hK hP (ci := 5) (q0 := 0) rfl rfl) rfl hl.1 rfl rfl (Nat.le_of_ble_eq_true rfl) dX7_bestAt_1 ⟨Nat.zero_le _, Nat.zero_le _⟩ (fun H locs hP hS => ?_)
  have hP : va_P E.1 vwCl (pv_wM E a0 a1 a2 a3 a4 a5 a6 a7 a8 a9 a10 u_1) H := hP
  refine lv_iconst (pc := 4) (v := (-1)) hx hb dX7_bestAt_4 (by decide) ?_
  refine lv_istore (pc := 5) (lv' := [(7, .int (-1)), (0, .ref a0), (1, .int x1), (2, .int x2), (3, .int x3), (4, .int x4), (5, .int x5), (6, .int x6)]) hx hb dX7_bestAt_5 hl (Nat.le_of_ble_eq_true rfl) rfl (fun ls hl => ?_)
  refine lv_iconst (pc := 7) (v := (-1)) hx hb dX7_bestAt_7 (by decide) ?_
  refine lv_istore (pc := 8) (lv' := [(8, .int (-1)), (7, .int (-1)), (0, .ref a0), (1, .int x1), (2, .int x2), (3, .int x3), (4, .int x4), (5, .int x5), (6, .int x6)]) hx hb dX7_bestAt_8 hl (Nat.le_of_ble_eq_true rfl) rfl (fun ls hl => ?_)
  refine lv_iload_n (pc := 10) hx hb dX7_bestAt_10 rfl (lv_at hl 4 rfl) ?_
  refine lv_istore (pc := 11) (lv' := [(9, .int x2), (8, .int (-1)), (7, .int (-1)), (0, .ref a0), (1, .int x1), (2, .int x2), (3, .int x3), (4, .int x4), (5, .int x5), (6, .int x6)]) hx hb dX7_bestAt_11 hl (Nat.le_of_ble_eq_true rfl) rfl (fun ls hl => ?_)
  exact L_13 300 x1 x3 x4 x5 x6 (-1) (-1) x2 u_1 H locs ls hP hS (lv_sub hl [3, 4, 6, 7, 8, 9, 2, 1, 0] rfl) hq
def m_X7_best_44  (w : pv_MT) : Option (Int32 × pv_MT) :=
  Option.bind (m_X7_finds (-1000000001) w) fun u_3 => (some (u_3.1, u_3.2))
def m_X7_best (x1 : Int32) (x2 : Int32) (w : pv_MT) : Option (Int32 × pv_MT) :=
  Option.bind (m_X7_isState x1) fun u_1 => (if u_1 = 0 then (m_X7_best_44 w) else (if (m_X7_in x2.toInt64 1 40) = 0 then (m_X7_best_44 w) else (Option.bind (m_X7_bestAt (3 + x1) 0 1 ((w.1 2) - 1) x1 x2 w) fun u_5 => (Option.bind (m_X7_orNone u_5.1 u_5.2) fun u_6 => (some (u_6.1, u_6.2))))))
abbrev r_X7_best : Room := { frames := 9, cells := 0, slots := 0, locals := 217 }
set_option maxHeartbeats 4000000 in
set_option maxRecDepth 100000 in
theorem c_X7_best (l : Launch) (E : pv_E) (a0 a1 a2 a3 a4 a5 a6 a7 a8 a9 a10 : Nat) (x1 : Int32) (x2 : Int32) (w0 : pv_MT) (F : Int32 × pv_MT) (hq : m_X7_best x1 x2 w0 = some F) : pv_RW l E yX7_best wsX7_best r_X7_best (pv_wM E a0 a1 a2 a3 a4 a5 a6 a7 a8 a9 a10 w0) [.ref a0, .int x1, .int x2] (some (.int F.1)) (pv_wM E a0 a1 a2 a3 a4 a5 a6 a7 a8 a9 a10 F.2) := by
  intro sz
  refine pv_mk (by decide) rfl (Nat.le_of_ble_eq_true rfl) ?_
  intro p e s m args below meth c A hx hb hr hml hown hts hlk hAe hP hD0 hA hE hS ls hl
  have hown : s.vm.findClass RX7 = some m.cls := hown
  have hK := hE.1
  have hD : ∀ w : pv_MT, va_D A (pv_wM E a0 a1 a2 a3 a4 a5 a6 a7 a8 a9 a10 w) := fun w => pv_Dm (ws := pv_wM E a0 a1 a2 a3 a4 a5 a6 a7 a8 a9 a10 w0) (ws' := pv_wM E a0 a1 a2 a3 a4 a5 a6 a7 a8 a9 a10 w) rfl hD0
  have hP : va_P E.1 vwCl (pv_wM E a0 a1 a2 a3 a4 a5 a6 a7 a8 a9 a10 w0) s.heap := hP
  have lc_41 : (Cond.constant RX7 41 (-1000000001)).before args s = true := hts _ (by decide +kernel)
  have fl_9 : (Cond.fieldLink RX7 9 "ProvinceCardsModel" "m" "[I").before args s = true := hts _ (by decide +kernel)
  have i_RX7 : ∀ w ∈ wsX70, w ∈ wsX7_best := by decide +kernel
  have hl : lv_has ls 3 [(0, .ref a0), (1, .int x1), (2, .int x2)] := hl
  have B_44 : ∀  (w : pv_MT) (H : Heap) (locs : List Loc) (ls : Array Slot), va_P E.1 vwCl (pv_wM E a0 a1 a2 a3 a4 a5 a6 a7 a8 a9 a10 w) H → va_S A s.heap H locs → lv_has ls 3 [(0, .ref a0)] → m_X7_best_44 w = some F → W p l e r_X7_best s m args below meth c H locs 0 0 (MQ below (pv_Rw E (pv_wM E a0 a1 a2 a3 a4 a5 a6 a7 a8 a9 a10 w0) sz (some (.int F.1)) ((fun w : pv_MT => pv_wM E a0 a1 a2 a3 a4 a5 a6 a7 a8 a9 a10 w) F.2)) args s 0 0 A) (F0 m 44 ls []) := by
    intro w H locs ls hP hS hl hq
    refine lv_aload_n (pc := 44) hx hb dX7_best_44 rfl (lv_at hl 0 rfl) ?_
    refine lv_ldc (pc := 45) hx hb hown lc_41 dX7_best_45 ?_
    obtain ⟨u_3, hu_3, hq⟩ := pv_bind hq
    refine pv_vRWf (pc := 47) (rest := []) (st1 := [.int u_3.1]) (ws := pv_wM E a0 a1 a2 a3 a4 a5 a6 a7 a8 a9 a10 w) [.int (-1000000001)] ⟨hx, hb, hml, hown, hts⟩ hE hA hS hP (hD w) (c_X7_finds l E a0 a1 a2 a3 a4 a5 a6 a7 a8 a9 a10 (-1000000001) w u_3 hu_3) (cwV 1 hts gX7_best_X7_finds rfl rfl rfl (by decide +kernel) ⟨(Nat.le_of_ble_eq_true rfl), (Nat.le_of_ble_eq_true rfl)⟩) (va_recv hK hP (ci := 5) (q0 := 0) rfl rfl) rfl hl.1 rfl rfl (Nat.le_of_ble_eq_true rfl) dX7_best_47 ⟨Nat.zero_le _, Nat.zero_le _⟩ (fun H locs hP hS => ?_)
    have hP : va_P E.1 vwCl (pv_wM E a0 a1 a2 a3 a4 a5 a6 a7 a8 a9 a10 u_3.2) H := hP
    exact pv_riRW (w := fun w : pv_MT => pv_wM E a0 a1 a2 a3 a4 a5 a6 a7 a8 a9 a10 w) hx hb hr hlk hAe hS hP (Option.some.inj hq) dX7_best_50
  suffices M0 : ∀ (H : Heap) (locs : List Loc), va_P E.1 vwCl (pv_wM E a0 a1 a2 a3 a4 a5 a6 a7 a8 a9 a10 w0) H → va_S A s.heap H locs → W p l e r_X7_best s m args below meth c H locs 0 0 (MQ below (pv_Rw E (pv_wM E a0 a1 a2 a3 a4 a5 a6 a7 a8 a9 a10 w0) sz (some (.int F.1)) ((fun w : pv_MT => pv_wM E a0 a1 a2 a3 a4 a5 a6 a7 a8 a9 a10 w) F.2)) args s 0 0 A) (F0 m 0 ls []) from M0 s.heap [] hP hS
  intro H locs hP hS
  refine lv_iload_n (pc := 0) hx hb dX7_best_0 rfl (lv_at hl 1 rfl) ?_
  obtain ⟨u_1, hu_1, hq⟩ := pv_bind hq
  refine pv_sRO (pc := 1) (rest := []) (st1 := [.int u_1]) (ws := pv_wM E a0 a1 a2 a3 a4 a5 a6 a7 a8 a9 a10 w0) [.int x1] ⟨hx, hb, hml, hown, hts⟩ hE hA hS hP (hD w0) (c_X7_isState l E x1 u_1 hu_1) (va_cwS 1 hts gX7_best_X7_isState rfl rfl rfl (by decide +kernel) ⟨(Nat.le_of_ble_eq_true rfl), (Nat.le_of_ble_eq_true rfl)⟩) [] rfl rfl rfl hl.1 rfl rfl (Nat.le_of_ble_eq_true rfl) dX7_best_1 ⟨Nat.zero_le _, Nat.zero_le _⟩ (fun locs hS => ?_)
  refine lv_if_eq (pc := 4) (tgt := 44) hx hb dX7_best_4 (by decide) (fun c_2 => ?_) (fun c_2 => ?_)
  · have hq := pv_pos c_2 hq
    exact B_44 w0 H locs ls hP hS (lv_sub hl [0] rfl) hq
  · have hq := pv_neg c_2 hq
    refine lv_iload_n (pc := 7) hx hb dX7_best_7 rfl (lv_at hl 2 rfl) ?_
    refine lv_i2l (pc := 8) (v := x2.toInt64) hx hb dX7_best_8 rfl ?_
    refine lv_iconst (pc := 9) (v := 1) hx hb dX7_best_9 (by decide) ?_
    refine lv_bipush (pc := 10) (v := 40) hx hb dX7_best_10 (by decide) ?_
    refine pv_sRO (pc := 12) (rest := []) (st1 := [.int (m_X7_in x2.toInt64 1 40)]) (ws := pv_wM E a0 a1 a2 a3 a4 a5 a6 a7 a8 a9 a10 w0) [.long x2.toInt64, .int 1, .int 40] ⟨hx, hb, hml, hown, hts⟩ hE hA hS hP (hD w0) (c_X7_in l E x2.toInt64 1 40) (va_cwS 3 hts gX7_best_X7_in rfl rfl rfl (by decide +kernel) ⟨(Nat.le_of_ble_eq_true rfl), (Nat.le_of_ble_eq_true rfl)⟩) [] rfl rfl rfl hl.1 rfl rfl (Nat.le_of_ble_eq_true rfl) dX7_best_12 ⟨Nat.zero_le _, Nat.zero_le _⟩ (fun locs hS => ?_)
    refine lv_if_eq (pc := 15) (tgt := 44) hx hb dX7_best_15 (by decide) (fun c_4 => ?_) (fun c_4 => ?_)
    · have hq := pv_pos c_4 hq
      exact B_44 w0 H locs ls hP hS (lv_sub hl [0] rfl) hq
    · have hq := pv_neg c_4 hq
      refine lv_aload_n (pc := 18) hx hb dX7_best_18 rfl (lv_at hl 0 rfl) ?_
      refine lv_aload_n (pc := 19) hx hb dX7_best_19 rfl (lv_at hl 0 rfl) ?_
      refine lv_iconst (pc := 20) (v := 3) hx hb dX7_best_20 (by decide) ?_
      refine lv_iload_n (pc := 21) hx hb dX7_best_21 rfl (lv_at hl 1 rfl) ?_
      refine lv_iadd (pc := 22) hx hb dX7_best_22 ?_
      refine lv_iconst (pc := 23) (v := 0) hx hb dX7_best_23 (by decide) ?_
      refine lv_iconst (pc := 24) (v := 1) hx hb dX7_best_24 (by decide) ?_
      refine lv_aload_n (pc := 25) hx hb dX7_best_25 rfl (lv_at hl 0 rfl) ?_
      refine va_get (pc := 26) (D := E.1) (ci := 5) (v := .ref a1) (C := RX7) (T := TX7) (N := 17) hx hb hts i_RX7 hown hK hP 0 rfl rfl 0 (Nat.le_of_ble_eq_true rfl) fl_9 (fun _ h9 => h9) rfl dX7_best_26 ?_
      refine lv_iconst (pc := 29) (v := 2) hx hb dX7_best_29 (by decide) ?_
      refine va_iald (pc := 30) (D := E.1) hx hb hK hP 1 0 rfl rfl (by decide : ¬ ((2 : Int32) < 0 ∨ 31 ≤ (2 : Int32).toNatClampNeg)) dX7_best_30 ?_
      refine W.eq (g2 := F0 m 31 ls [.int (w0.1 2), .int 1, .int 0, .int (3 + x1), .ref a0, .ref a0]) rfl ?_
      refine lv_iconst (pc := 31) (v := 1) hx hb dX7_best_31 (by decide) ?_
      refine lv_isub (pc := 32) hx hb dX7_best_32 ?_
      refine lv_iload_n (pc := 33) hx hb dX7_best_33 rfl (lv_at hl 1 rfl) ?_
      refine lv_iload_n (pc := 34) hx hb dX7_best_34 rfl (lv_at hl 2 rfl) ?_
      obtain ⟨u_5, hu_5, hq⟩ := pv_bind hq
      refine pv_vRWf (pc := 35) (rest := [.ref a0]) (st1 := [.int u_5.1, .ref a0]) (ws := pv_wM E a0 a1 a2 a3 a4 a5 a6 a7 a8 a9 a10 w0) [.int (3 + x1), .int 0, .int 1, .int ((w0.1 2) - 1), .int x1, .int x2] ⟨hx, hb, hml, hown, hts⟩ hE hA hS hP (hD w0) (c_X7_bestAt l E a0 a1 a2 a3 a4 a5 a6 a7 a8 a9 a10 (3 + x1) 0 1 ((w0.1 2) - 1) x1 x2 w0 u_5 hu_5) (cwV 6 hts gX7_best_X7_bestAt rfl rfl rfl (by decide +kernel) ⟨(Nat.le_of_ble_eq_true rfl), (Nat.le_of_ble_eq_true rfl)⟩) (va_recv hK hP (ci := 5) (q0 := 0) rfl rfl) rfl hl.1 rfl rfl (Nat.le_of_ble_eq_true rfl) dX7_best_35 ⟨Nat.zero_le _, Nat.zero_le _⟩ (fun H locs hP hS => ?_)
      have hP : va_P E.1 vwCl (pv_wM E a0 a1 a2 a3 a4 a5 a6 a7 a8 a9 a10 u_5.2) H := hP
      obtain ⟨u_6, hu_6, hq⟩ := pv_bind hq
      refine pv_vRWf (pc := 38) (rest := []) (st1 := [.int u_6.1]) (ws := pv_wM E a0 a1 a2 a3 a4 a5 a6 a7 a8 a9 a10 u_5.2) [.int u_5.1] ⟨hx, hb, hml, hown, hts⟩ hE hA hS hP (hD u_5.2) (c_X7_orNone l E a0 a1 a2 a3 a4 a5 a6 a7 a8 a9 a10 u_5.1 u_5.2 u_6 hu_6) (cwV 1 hts gX7_best_X7_orNone rfl rfl rfl (by decide +kernel) ⟨(Nat.le_of_ble_eq_true rfl), (Nat.le_of_ble_eq_true rfl)⟩) (va_recv hK hP (ci := 5) (q0 := 0) rfl rfl) rfl hl.1 rfl rfl (Nat.le_of_ble_eq_true rfl) dX7_best_38 ⟨Nat.zero_le _, Nat.zero_le _⟩ (fun H locs hP hS => ?_)
      have hP : va_P E.1 vwCl (pv_wM E a0 a1 a2 a3 a4 a5 a6 a7 a8 a9 a10 u_6.2) H := hP
      refine lv_goto (pc := 41) (tgt := 50) hx hb dX7_best_41 (by decide) ?_
      exact pv_riRW (w := fun w : pv_MT => pv_wM E a0 a1 a2 a3 a4 a5 a6 a7 a8 a9 a10 w) hx hb hr hlk hAe hS hP (Option.some.inj hq) dX7_best_50
def m_X7_mixed_32  (w : pv_MT) : Option (Int32 × pv_MT) :=
  Option.bind (m_X7_finds (-1000000001) w) fun u_3 => (some (u_3.1, u_3.2))
def m_X7_mixed (x1 : Int32) (x2 : Int32) (w : pv_MT) : Option (Int32 × pv_MT) :=
  Option.bind (m_X7_isState x1) fun u_1 => (if u_1 = 0 then (m_X7_mixed_32 w) else (if (m_X7_in x2.toInt64 1 40) = 0 then (m_X7_mixed_32 w) else (Option.bind (m_X7_bestAt 1 1 2 31 x1 x2 w) fun u_5 => (some (u_5.1, u_5.2)))))
abbrev r_X7_mixed : Room := { frames := 9, cells := 0, slots := 0, locals := 217 }
set_option maxHeartbeats 4000000 in
set_option maxRecDepth 100000 in
theorem c_X7_mixed (l : Launch) (E : pv_E) (a0 a1 a2 a3 a4 a5 a6 a7 a8 a9 a10 : Nat) (x1 : Int32) (x2 : Int32) (w0 : pv_MT) (F : Int32 × pv_MT) (hq : m_X7_mixed x1 x2 w0 = some F) : pv_RW l E yX7_mixed wsX7_mixed r_X7_mixed (pv_wM E a0 a1 a2 a3 a4 a5 a6 a7 a8 a9 a10 w0) [.ref a0, .int x1, .int x2] (some (.int F.1)) (pv_wM E a0 a1 a2 a3 a4 a5 a6 a7 a8 a9 a10 F.2) := by
  intro sz
  refine pv_mk (by decide) rfl (Nat.le_of_ble_eq_true rfl) ?_
  intro p e s m args below meth c A hx hb hr hml hown hts hlk hAe hP hD0 hA hE hS ls hl
  have hown : s.vm.findClass RX7 = some m.cls := hown
  have hK := hE.1
  have hD : ∀ w : pv_MT, va_D A (pv_wM E a0 a1 a2 a3 a4 a5 a6 a7 a8 a9 a10 w) := fun w => pv_Dm (ws := pv_wM E a0 a1 a2 a3 a4 a5 a6 a7 a8 a9 a10 w0) (ws' := pv_wM E a0 a1 a2 a3 a4 a5 a6 a7 a8 a9 a10 w) rfl hD0
  have hP : va_P E.1 vwCl (pv_wM E a0 a1 a2 a3 a4 a5 a6 a7 a8 a9 a10 w0) s.heap := hP
  have lc_41 : (Cond.constant RX7 41 (-1000000001)).before args s = true := hts _ (by decide +kernel)
  have hl : lv_has ls 3 [(0, .ref a0), (1, .int x1), (2, .int x2)] := hl
  have B_32 : ∀  (w : pv_MT) (H : Heap) (locs : List Loc) (ls : Array Slot), va_P E.1 vwCl (pv_wM E a0 a1 a2 a3 a4 a5 a6 a7 a8 a9 a10 w) H → va_S A s.heap H locs → lv_has ls 3 [(0, .ref a0)] → m_X7_mixed_32 w = some F → W p l e r_X7_mixed s m args below meth c H locs 0 0 (MQ below (pv_Rw E (pv_wM E a0 a1 a2 a3 a4 a5 a6 a7 a8 a9 a10 w0) sz (some (.int F.1)) ((fun w : pv_MT => pv_wM E a0 a1 a2 a3 a4 a5 a6 a7 a8 a9 a10 w) F.2)) args s 0 0 A) (F0 m 32 ls []) := by
    intro w H locs ls hP hS hl hq
    refine lv_aload_n (pc := 32) hx hb dX7_mixed_32 rfl (lv_at hl 0 rfl) ?_
    refine lv_ldc (pc := 33) hx hb hown lc_41 dX7_mixed_33 ?_
    obtain ⟨u_3, hu_3, hq⟩ := pv_bind hq
    refine pv_vRWf (pc := 35) (rest := []) (st1 := [.int u_3.1]) (ws := pv_wM E a0 a1 a2 a3 a4 a5 a6 a7 a8 a9 a10 w) [.int (-1000000001)] ⟨hx, hb, hml, hown, hts⟩ hE hA hS hP (hD w) (c_X7_finds l E a0 a1 a2 a3 a4 a5 a6 a7 a8 a9 a10 (-1000000001) w u_3 hu_3) (cwV 1 hts gX7_mixed_X7_finds rfl rfl rfl (by decide +kernel) ⟨(Nat.le_of_ble_eq_true rfl), (Nat.le_of_ble_eq_true rfl)⟩) (va_recv hK hP (ci := 5) (q0 := 0) rfl rfl) rfl hl.1 rfl rfl (Nat.le_of_ble_eq_true rfl) dX7_mixed_35 ⟨Nat.zero_le _, Nat.zero_le _⟩ (fun H locs hP hS => ?_)
    have hP : va_P E.1 vwCl (pv_wM E a0 a1 a2 a3 a4 a5 a6 a7 a8 a9 a10 u_3.2) H := hP
    exact pv_riRW (w := fun w : pv_MT => pv_wM E a0 a1 a2 a3 a4 a5 a6 a7 a8 a9 a10 w) hx hb hr hlk hAe hS hP (Option.some.inj hq) dX7_mixed_38
  suffices M0 : ∀ (H : Heap) (locs : List Loc), va_P E.1 vwCl (pv_wM E a0 a1 a2 a3 a4 a5 a6 a7 a8 a9 a10 w0) H → va_S A s.heap H locs → W p l e r_X7_mixed s m args below meth c H locs 0 0 (MQ below (pv_Rw E (pv_wM E a0 a1 a2 a3 a4 a5 a6 a7 a8 a9 a10 w0) sz (some (.int F.1)) ((fun w : pv_MT => pv_wM E a0 a1 a2 a3 a4 a5 a6 a7 a8 a9 a10 w) F.2)) args s 0 0 A) (F0 m 0 ls []) from M0 s.heap [] hP hS
  intro H locs hP hS
  refine lv_iload_n (pc := 0) hx hb dX7_mixed_0 rfl (lv_at hl 1 rfl) ?_
  obtain ⟨u_1, hu_1, hq⟩ := pv_bind hq
  refine pv_sRO (pc := 1) (rest := []) (st1 := [.int u_1]) (ws := pv_wM E a0 a1 a2 a3 a4 a5 a6 a7 a8 a9 a10 w0) [.int x1] ⟨hx, hb, hml, hown, hts⟩ hE hA hS hP (hD w0) (c_X7_isState l E x1 u_1 hu_1) (va_cwS 1 hts gX7_mixed_X7_isState rfl rfl rfl (by decide +kernel) ⟨(Nat.le_of_ble_eq_true rfl), (Nat.le_of_ble_eq_true rfl)⟩) [] rfl rfl rfl hl.1 rfl rfl (Nat.le_of_ble_eq_true rfl) dX7_mixed_1 ⟨Nat.zero_le _, Nat.zero_le _⟩ (fun locs hS => ?_)
  refine lv_if_eq (pc := 4) (tgt := 32) hx hb dX7_mixed_4 (by decide) (fun c_2 => ?_) (fun c_2 => ?_)
  · have hq := pv_pos c_2 hq
    exact B_32 w0 H locs ls hP hS (lv_sub hl [0] rfl) hq
  · have hq := pv_neg c_2 hq
    refine lv_iload_n (pc := 7) hx hb dX7_mixed_7 rfl (lv_at hl 2 rfl) ?_
    refine lv_i2l (pc := 8) (v := x2.toInt64) hx hb dX7_mixed_8 rfl ?_
    refine lv_iconst (pc := 9) (v := 1) hx hb dX7_mixed_9 (by decide) ?_
    refine lv_bipush (pc := 10) (v := 40) hx hb dX7_mixed_10 (by decide) ?_
    refine pv_sRO (pc := 12) (rest := []) (st1 := [.int (m_X7_in x2.toInt64 1 40)]) (ws := pv_wM E a0 a1 a2 a3 a4 a5 a6 a7 a8 a9 a10 w0) [.long x2.toInt64, .int 1, .int 40] ⟨hx, hb, hml, hown, hts⟩ hE hA hS hP (hD w0) (c_X7_in l E x2.toInt64 1 40) (va_cwS 3 hts gX7_mixed_X7_in rfl rfl rfl (by decide +kernel) ⟨(Nat.le_of_ble_eq_true rfl), (Nat.le_of_ble_eq_true rfl)⟩) [] rfl rfl rfl hl.1 rfl rfl (Nat.le_of_ble_eq_true rfl) dX7_mixed_12 ⟨Nat.zero_le _, Nat.zero_le _⟩ (fun locs hS => ?_)
    refine lv_if_eq (pc := 15) (tgt := 32) hx hb dX7_mixed_15 (by decide) (fun c_4 => ?_) (fun c_4 => ?_)
    · have hq := pv_pos c_4 hq
      exact B_32 w0 H locs ls hP hS (lv_sub hl [0] rfl) hq
    · have hq := pv_neg c_4 hq
      refine lv_aload_n (pc := 18) hx hb dX7_mixed_18 rfl (lv_at hl 0 rfl) ?_
      refine lv_iconst (pc := 19) (v := 1) hx hb dX7_mixed_19 (by decide) ?_
      refine lv_iconst (pc := 20) (v := 1) hx hb dX7_mixed_20 (by decide) ?_
      refine lv_iconst (pc := 21) (v := 2) hx hb dX7_mixed_21 (by decide) ?_
      refine lv_bipush (pc := 22) (v := 31) hx hb dX7_mixed_22 (by decide) ?_
      refine lv_iload_n (pc := 24) hx hb dX7_mixed_24 rfl (lv_at hl 1 rfl) ?_
      refine lv_iload_n (pc := 25) hx hb dX7_mixed_25 rfl (lv_at hl 2 rfl) ?_
      obtain ⟨u_5, hu_5, hq⟩ := pv_bind hq
      refine pv_vRWf (pc := 26) (rest := []) (st1 := [.int u_5.1]) (ws := pv_wM E a0 a1 a2 a3 a4 a5 a6 a7 a8 a9 a10 w0) [.int 1, .int 1, .int 2, .int 31, .int x1, .int x2] ⟨hx, hb, hml, hown, hts⟩ hE hA hS hP (hD w0) (c_X7_bestAt l E a0 a1 a2 a3 a4 a5 a6 a7 a8 a9 a10 1 1 2 31 x1 x2 w0 u_5 hu_5) (cwV 6 hts gX7_mixed_X7_bestAt rfl rfl rfl (by decide +kernel) ⟨(Nat.le_of_ble_eq_true rfl), (Nat.le_of_ble_eq_true rfl)⟩) (va_recv hK hP (ci := 5) (q0 := 0) rfl rfl) rfl hl.1 rfl rfl (Nat.le_of_ble_eq_true rfl) dX7_mixed_26 ⟨Nat.zero_le _, Nat.zero_le _⟩ (fun H locs hP hS => ?_)
      have hP : va_P E.1 vwCl (pv_wM E a0 a1 a2 a3 a4 a5 a6 a7 a8 a9 a10 u_5.2) H := hP
      refine lv_goto (pc := 29) (tgt := 38) hx hb dX7_mixed_29 (by decide) ?_
      exact pv_riRW (w := fun w : pv_MT => pv_wM E a0 a1 a2 a3 a4 a5 a6 a7 a8 a9 a10 w) hx hb hr hlk hAe hS hP (Option.some.inj hq) dX7_mixed_38
def m_X7_peace (x1 : Int32) (w : pv_MT) : Option (Int32 × pv_MT) :=
  if (m_X7_in x1.toInt64 1 40) = 0 then (Option.bind (m_X7_finds (-1000000001) w) fun u_2 => (some (u_2.1, u_2.2))) else (Option.bind (m_X7_bestAt 1 1 2 31 (-1) x1 w) fun u_3 => (some (u_3.1, u_3.2)))
abbrev r_X7_peace : Room := { frames := 9, cells := 0, slots := 0, locals := 217 }
set_option maxHeartbeats 4000000 in
set_option maxRecDepth 100000 in
theorem c_X7_peace (l : Launch) (E : pv_E) (a0 a1 a2 a3 a4 a5 a6 a7 a8 a9 a10 : Nat) (x1 : Int32) (w0 : pv_MT) (F : Int32 × pv_MT) (hq : m_X7_peace x1 w0 = some F) : pv_RW l E yX7_peace wsX7_peace r_X7_peace (pv_wM E a0 a1 a2 a3 a4 a5 a6 a7 a8 a9 a10 w0) [.ref a0, .int x1] (some (.int F.1)) (pv_wM E a0 a1 a2 a3 a4 a5 a6 a7 a8 a9 a10 F.2) := by
  intro sz
  refine pv_mk (by decide) rfl (Nat.le_of_ble_eq_true rfl) ?_
  intro p e s m args below meth c A hx hb hr hml hown hts hlk hAe hP hD0 hA hE hS ls hl
  have hown : s.vm.findClass RX7 = some m.cls := hown
  have hK := hE.1
  have hD : ∀ w : pv_MT, va_D A (pv_wM E a0 a1 a2 a3 a4 a5 a6 a7 a8 a9 a10 w) := fun w => pv_Dm (ws := pv_wM E a0 a1 a2 a3 a4 a5 a6 a7 a8 a9 a10 w0) (ws' := pv_wM E a0 a1 a2 a3 a4 a5 a6 a7 a8 a9 a10 w) rfl hD0
  have hP : va_P E.1 vwCl (pv_wM E a0 a1 a2 a3 a4 a5 a6 a7 a8 a9 a10 w0) s.heap := hP
  have lc_41 : (Cond.constant RX7 41 (-1000000001)).before args s = true := hts _ (by decide +kernel)
  have hl : lv_has ls 2 [(0, .ref a0), (1, .int x1)] := hl
  suffices M0 : ∀ (H : Heap) (locs : List Loc), va_P E.1 vwCl (pv_wM E a0 a1 a2 a3 a4 a5 a6 a7 a8 a9 a10 w0) H → va_S A s.heap H locs → W p l e r_X7_peace s m args below meth c H locs 0 0 (MQ below (pv_Rw E (pv_wM E a0 a1 a2 a3 a4 a5 a6 a7 a8 a9 a10 w0) sz (some (.int F.1)) ((fun w : pv_MT => pv_wM E a0 a1 a2 a3 a4 a5 a6 a7 a8 a9 a10 w) F.2)) args s 0 0 A) (F0 m 0 ls []) from M0 s.heap [] hP hS
  intro H locs hP hS
  refine lv_iload_n (pc := 0) hx hb dX7_peace_0 rfl (lv_at hl 1 rfl) ?_
  refine lv_i2l (pc := 1) (v := x1.toInt64) hx hb dX7_peace_1 rfl ?_
  refine lv_iconst (pc := 2) (v := 1) hx hb dX7_peace_2 (by decide) ?_
  refine lv_bipush (pc := 3) (v := 40) hx hb dX7_peace_3 (by decide) ?_
  refine pv_sRO (pc := 5) (rest := []) (st1 := [.int (m_X7_in x1.toInt64 1 40)]) (ws := pv_wM E a0 a1 a2 a3 a4 a5 a6 a7 a8 a9 a10 w0) [.long x1.toInt64, .int 1, .int 40] ⟨hx, hb, hml, hown, hts⟩ hE hA hS hP (hD w0) (c_X7_in l E x1.toInt64 1 40) (va_cwS 3 hts gX7_peace_X7_in rfl rfl rfl (by decide +kernel) ⟨(Nat.le_of_ble_eq_true rfl), (Nat.le_of_ble_eq_true rfl)⟩) [] rfl rfl rfl hl.1 rfl rfl (Nat.le_of_ble_eq_true rfl) dX7_peace_5 ⟨Nat.zero_le _, Nat.zero_le _⟩ (fun locs hS => ?_)
  refine lv_if_eq (pc := 8) (tgt := 25) hx hb dX7_peace_8 (by decide) (fun c_1 => ?_) (fun c_1 => ?_)
  · have hq := pv_pos c_1 hq
    refine lv_aload_n (pc := 25) hx hb dX7_peace_25 rfl (lv_at hl 0 rfl) ?_
    refine lv_ldc (pc := 26) hx hb hown lc_41 dX7_peace_26 ?_
    obtain ⟨u_2, hu_2, hq⟩ := pv_bind hq
    refine pv_vRWf (pc := 28) (rest := []) (st1 := [.int u_2.1]) (ws := pv_wM E a0 a1 a2 a3 a4 a5 a6 a7 a8 a9 a10 w0) [.int (-1000000001)] ⟨hx, hb, hml, hown, hts⟩ hE hA hS hP (hD w0) (c_X7_finds l E a0 a1 a2 a3 a4 a5 a6 a7 a8 a9 a10 (-1000000001) w0 u_2 hu_2) (cwV 1 hts gX7_peace_X7_finds rfl rfl rfl (by decide +kernel) ⟨(Nat.le_of_ble_eq_true rfl), (Nat.le_of_ble_eq_true rfl)⟩) (va_recv hK hP (ci := 5) (q0 := 0) rfl rfl) rfl hl.1 rfl rfl (Nat.le_of_ble_eq_true rfl) dX7_peace_28 ⟨Nat.zero_le _, Nat.zero_le _⟩ (fun H locs hP hS => ?_)
    have hP : va_P E.1 vwCl (pv_wM E a0 a1 a2 a3 a4 a5 a6 a7 a8 a9 a10 u_2.2) H := hP
    exact pv_riRW (w := fun w : pv_MT => pv_wM E a0 a1 a2 a3 a4 a5 a6 a7 a8 a9 a10 w) hx hb hr hlk hAe hS hP (Option.some.inj hq) dX7_peace_31
  · have hq := pv_neg c_1 hq
    refine lv_aload_n (pc := 11) hx hb dX7_peace_11 rfl (lv_at hl 0 rfl) ?_
    refine lv_iconst (pc := 12) (v := 1) hx hb dX7_peace_12 (by decide) ?_
    refine lv_iconst (pc := 13) (v := 1) hx hb dX7_peace_13 (by decide) ?_
    refine lv_iconst (pc := 14) (v := 2) hx hb dX7_peace_14 (by decide) ?_
    refine lv_bipush (pc := 15) (v := 31) hx hb dX7_peace_15 (by decide) ?_
    refine lv_iconst (pc := 17) (v := (-1)) hx hb dX7_peace_17 (by decide) ?_
    refine lv_iload_n (pc := 18) hx hb dX7_peace_18 rfl (lv_at hl 1 rfl) ?_
    obtain ⟨u_3, hu_3, hq⟩ := pv_bind hq
    refine pv_vRWf (pc := 19) (rest := []) (st1 := [.int u_3.1]) (ws := pv_wM E a0 a1 a2 a3 a4 a5 a6 a7 a8 a9 a10 w0) [.int 1, .int 1, .int 2, .int 31, .int (-1), .int x1] ⟨hx, hb, hml, hown, hts⟩ hE hA hS hP (hD w0) (c_X7_bestAt l E a0 a1 a2 a3 a4 a5 a6 a7 a8 a9 a10 1 1 2 31 (-1) x1 w0 u_3 hu_3) (cwV 6 hts gX7_peace_X7_bestAt rfl rfl rfl (by decide +kernel) ⟨(Nat.le_of_ble_eq_true rfl), (Nat.le_of_ble_eq_true rfl)⟩) (va_recv hK hP (ci := 5) (q0 := 0) rfl rfl) rfl hl.1 rfl rfl (Nat.le_of_ble_eq_true rfl) dX7_peace_19 ⟨Nat.zero_le _, Nat.zero_le _⟩ (fun H locs hP hS => ?_)
    have hP : va_P E.1 vwCl (pv_wM E a0 a1 a2 a3 a4 a5 a6 a7 a8 a9 a10 u_3.2) H := hP
    refine lv_goto (pc := 22) (tgt := 31) hx hb dX7_peace_22 (by decide) ?_
    exact pv_riRW (w := fun w : pv_MT => pv_wM E a0 a1 a2 a3 a4 a5 a6 a7 a8 a9 a10 w) hx hb hr hlk hAe hS hP (Option.some.inj hq) dX7_peace_31
def m_X7_kind_19  (w : pv_MT) : Option (Int32 × pv_MT) :=
  Option.bind (m_X7_finds (-1000000001) w) fun u_3 => (some (u_3.1, u_3.2))
def m_X7_kind_102 (k_38 : Int32 → Int32 → Int32 → Int32 → Int32 → pv_MT → Option (Int32 × pv_MT)) (x1 : Int32) (x2 : Int32) (x3 : Int32) (x5 : Int32) (y0 : Int32) (w : pv_MT) : Option (Int32 × pv_MT) :=
  k_38 x1 x2 x3 y0 (x5 + 1) w
def m_X7_kind_87 (k_38 : Int32 → Int32 → Int32 → Int32 → Int32 → pv_MT → Option (Int32 × pv_MT)) (x1 : Int32) (x2 : Int32) (x4 : Int32) (x5 : Int32) (x6 : Int32) (y0 : Int32) (w : pv_MT) : Option (Int32 × pv_MT) :=
  if x6 ≤ x4 then (m_X7_kind_102 k_38 x1 x2 y0 x5 x4 w) else (m_X7_kind_102 k_38 x1 x2 y0 x5 x6 w)
def m_X7_kind_38 : Nat → Int32 → Int32 → Int32 → Int32 → Int32 → pv_MT → Option (Int32 × pv_MT)
  | 0 => fun _ _ _ _ _ _ => none
  | n + 1 => fun x1 x2 x3 x4 x5 w =>
    if 5 < x5 then (some (x3, w)) else (pv_gd (15 + (2 * x1)) 31 (Option.bind (m_X7_goesFor x2 ((upd w.1 (15 + (2 * x1)).toNatClampNeg x5), w.2.1, w.2.2.1, w.2.2.2.1, w.2.2.2.2.1, w.2.2.2.2.2.1, w.2.2.2.2.2.2.1, w.2.2.2.2.2.2.2.1, w.2.2.2.2.2.2.2.2.1, w.2.2.2.2.2.2.2.2.2.1, w.2.2.2.2.2.2.2.2.2.2.1, w.2.2.2.2.2.2.2.2.2.2.2.1, w.2.2.2.2.2.2.2.2.2.2.2.2.1, w.2.2.2.2.2.2.2.2.2.2.2.2.2.1, w.2.2.2.2.2.2.2.2.2.2.2.2.2.2.1, w.2.2.2.2.2.2.2.2.2.2.2.2.2.2.2.1, w.2.2.2.2.2.2.2.2.2.2.2.2.2.2.2.2)) fun u_8 => (Option.bind (m_X7_it x1 1 u_8) fun u_9 => (Option.bind (m_X7_putsBack u_8) fun u_10 => (if u_9 ≤ x4 then (m_X7_kind_87 (m_X7_kind_38 n) x1 x2 x4 x5 u_9 x3 u_10) else (m_X7_kind_87 (m_X7_kind_38 n) x1 x2 x4 x5 u_9 x5 u_10))))))
def m_X7_kind (x1 : Int32) (x2 : Int32) (w : pv_MT) : Option (Int32 × pv_MT) :=
  Option.bind (m_X7_isEnvoy x1 w) fun u_1 => (if u_1 = 0 then (m_X7_kind_19 w) else (if (m_X7_in x2.toInt64 1 40) = 0 then (m_X7_kind_19 w) else (Option.bind (m_X7_thinks w) fun u_5 => (m_X7_kind_38 300 x1 x2 0 (-1) 0 u_5))))
abbrev r_X7_kind : Room := { frames := 8, cells := 0, slots := 0, locals := 187 }
set_option maxHeartbeats 4000000 in
set_option maxRecDepth 100000 in
theorem c_X7_kind (l : Launch) (E : pv_E) (a0 a1 a2 a3 a4 a5 a6 a7 a8 a9 a10 : Nat) (x1 : Int32) (x2 : Int32) (w0 : pv_MT) (F : Int32 × pv_MT) (hq : m_X7_kind x1 x2 w0 = some F) : pv_RW l E yX7_kind wsX7_kind r_X7_kind (pv_wM E a0 a1 a2 a3 a4 a5 a6 a7 a8 a9 a10 w0) [.ref a0, .int x1, .int x2] (some (.int F.1)) (pv_wM E a0 a1 a2 a3 a4 a5 a6 a7 a8 a9 a10 F.2) := by
  intro sz
  refine pv_mk (by decide) rfl (Nat.le_of_ble_eq_true rfl) ?_
  intro p e s m args below meth c A hx hb hr hml hown hts hlk hAe hP hD0 hA hE hS ls hl
  have hown : s.vm.findClass RX7 = some m.cls := hown
  have hK := hE.1
  have hD : ∀ w : pv_MT, va_D A (pv_wM E a0 a1 a2 a3 a4 a5 a6 a7 a8 a9 a10 w) := fun w => pv_Dm (ws := pv_wM E a0 a1 a2 a3 a4 a5 a6 a7 a8 a9 a10 w0) (ws' := pv_wM E a0 a1 a2 a3 a4 a5 a6 a7 a8 a9 a10 w) rfl hD0
  have hP : va_P E.1 vwCl (pv_wM E a0 a1 a2 a3 a4 a5 a6 a7 a8 a9 a10 w0) s.heap := hP
  have lc_41 : (Cond.constant RX7 41 (-1000000001)).before args s = true := hts _ (by decide +kernel)
  have fl_9 : (Cond.fieldLink RX7 9 "ProvinceCardsModel" "m" "[I").before args s = true := hts _ (by decide +kernel)
  have i_RX7 : ∀ w ∈ wsX70, w ∈ wsX7_kind := by decide +kernel
  have hl : lv_has ls 7 [(0, .ref a0), (1, .int x1), (2, .int x2)] := hl
  have B_19 : ∀  (w : pv_MT) (H : Heap) (locs : List Loc) (ls : Array Slot), va_P E.1 vwCl (pv_wM E a0 a1 a2 a3 a4 a5 a6 a7 a8 a9 a10 w) H → va_S A s.heap H locs → lv_has ls 7 [(0, .ref a0)] → m_X7_kind_19 w = some F → W p l e r_X7_kind s m args below meth c H locs 0 0 (MQ below (pv_Rw E (pv_wM E a0 a1 a2 a3 a4 a5 a6 a7 a8 a9 a10 w0) sz (some (.int F.1)) ((fun w : pv_MT => pv_wM E a0 a1 a2 a3 a4 a5 a6 a7 a8 a9 a10 w) F.2)) args s 0 0 A) (F0 m 19 ls []) := by
    intro w H locs ls hP hS hl hq
    refine lv_aload_n (pc := 19) hx hb dX7_kind_19 rfl (lv_at hl 0 rfl) ?_
    refine lv_ldc (pc := 20) hx hb hown lc_41 dX7_kind_20 ?_
    obtain ⟨u_3, hu_3, hq⟩ := pv_bind hq
    refine pv_vRWf (pc := 22) (rest := []) (st1 := [.int u_3.1]) (ws := pv_wM E a0 a1 a2 a3 a4 a5 a6 a7 a8 a9 a10 w) [.int (-1000000001)] ⟨hx, hb, hml, hown, hts⟩ hE hA hS hP (hD w) (c_X7_finds l E a0 a1 a2 a3 a4 a5 a6 a7 a8 a9 a10 (-1000000001) w u_3 hu_3) (cwV 1 hts gX7_kind_X7_finds rfl rfl rfl (by decide +kernel) ⟨(Nat.le_of_ble_eq_true rfl), (Nat.le_of_ble_eq_true rfl)⟩) (va_recv hK hP (ci := 5) (q0 := 0) rfl rfl) rfl hl.1 rfl rfl (Nat.le_of_ble_eq_true rfl) dX7_kind_22 ⟨Nat.zero_le _, Nat.zero_le _⟩ (fun H locs hP hS => ?_)
    have hP : va_P E.1 vwCl (pv_wM E a0 a1 a2 a3 a4 a5 a6 a7 a8 a9 a10 u_3.2) H := hP
    exact pv_riRW (w := fun w : pv_MT => pv_wM E a0 a1 a2 a3 a4 a5 a6 a7 a8 a9 a10 w) hx hb hr hlk hAe hS hP (Option.some.inj hq) dX7_kind_25
  have B_102 : ∀ (k_38 : Int32 → Int32 → Int32 → Int32 → Int32 → pv_MT → Option (Int32 × pv_MT)), (∀ (x1 : Int32) (x2 : Int32) (x3 : Int32) (x4 : Int32) (x5 : Int32) (w : pv_MT) (H : Heap) (locs : List Loc) (ls : Array Slot), va_P E.1 vwCl (pv_wM E a0 a1 a2 a3 a4 a5 a6 a7 a8 a9 a10 w) H → va_S A s.heap H locs → lv_has ls 7 [(0, .ref a0), (1, .int x1), (2, .int x2), (3, .int x3), (4, .int x4), (5, .int x5)] → k_38 x1 x2 x3 x4 x5 w = some F → W p l e r_X7_kind s m args below meth c H locs 0 0 (MQ below (pv_Rw E (pv_wM E a0 a1 a2 a3 a4 a5 a6 a7 a8 a9 a10 w0) sz (some (.int F.1)) ((fun w : pv_MT => pv_wM E a0 a1 a2 a3 a4 a5 a6 a7 a8 a9 a10 w) F.2)) args s 0 0 A) (F0 m 38 ls [])) → ∀ (x1 : Int32) (x2 : Int32) (x3 : Int32) (x5 : Int32) (y0 : Int32) (w : pv_MT) (H : Heap) (locs : List Loc) (ls : Array Slot), va_P E.1 vwCl (pv_wM E a0 a1 a2 a3 a4 a5 a6 a7 a8 a9 a10 w) H → va_S A s.heap H locs → lv_has ls 7 [(0, .ref a0), (1, .int x1), (2, .int x2), (3, .int x3), (5, .int x5)] → m_X7_kind_102 k_38 x1 x2 x3 x5 y0 w = some F → W p l e r_X7_kind s m args below meth c H locs 0 0 (MQ below (pv_Rw E (pv_wM E a0 a1 a2 a3 a4 a5 a6 a7 a8 a9 a10 w0) sz (some (.int F.1)) ((fun w : pv_MT => pv_wM E a0 a1 a2 a3 a4 a5 a6 a7 a8 a9 a10 w) F.2)) args s 0 0 A) (F0 m 102 ls [.int y0]) := by
    intro k_38 hk_38
    intro x1 x2 x3 x5 y0 w H locs ls hP hS hl hq
    refine lv_istore (pc := 102) (lv' := [(4, .int y0), (0, .ref a0), (1, .int x1), (2, .int x2), (3, .int x3), (5, .int x5)]) hx hb dX7_kind_102 hl (Nat.le_of_ble_eq_true rfl) rfl (fun ls hl => ?_)
    refine lv_iinc (pc := 104) (v := (x5 + 1)) (lv' := [(5, .int (x5 + 1)), (4, .int y0), (0, .ref a0), (1, .int x1), (2, .int x2), (3, .int x3)]) hx hb dX7_kind_104 hl (k := 5) rfl rfl (Nat.le_of_ble_eq_true rfl) rfl (fun ls hl => ?_)
    refine lv_goto (pc := 107) (tgt := 38) hx hb dX7_kind_107 (by decide) ?_
    exact hk_38 x1 x2 x3 y0 (x5 + 1) w H locs ls hP hS (lv_sub hl [2, 3, 4, 5, 1, 0] rfl) hq
  have B_87 : ∀ (k_38 : Int32 → Int32 → Int32 → Int32 → Int32 → pv_MT → Option (Int32 × pv_MT)), (∀ (x1 : Int32) (x2 : Int32) (x3 : Int32) (x4 : Int32) (x5 : Int32) (w : pv_MT) (H : Heap) (locs : List Loc) (ls : Array Slot), va_P E.1 vwCl (pv_wM E a0 a1 a2 a3 a4 a5 a6 a7 a8 a9 a10 w) H → va_S A s.heap H locs → lv_has ls 7 [(0, .ref a0), (1, .int x1), (2, .int x2), (3, .int x3), (4, .int x4), (5, .int x5)] → k_38 x1 x2 x3 x4 x5 w = some F → W p l e r_X7_kind s m args below meth c H locs 0 0 (MQ below (pv_Rw E (pv_wM E a0 a1 a2 a3 a4 a5 a6 a7 a8 a9 a10 w0) sz (some (.int F.1)) ((fun w : pv_MT => pv_wM E a0 a1 a2 a3 a4 a5 a6 a7 a8 a9 a10 w) F.2)) args s 0 0 A) (F0 m 38 ls [])) → ∀ (x1 : Int32) (x2 : Int32) (x4 : Int32) (x5 : Int32) (x6 : Int32) (y0 : Int32) (w : pv_MT) (H : Heap) (locs : List Loc) (ls : Array Slot), va_P E.1 vwCl (pv_wM E a0 a1 a2 a3 a4 a5 a6 a7 a8 a9 a10 w) H → va_S A s.heap H locs → lv_has ls 7 [(0, .ref a0), (1, .int x1), (2, .int x2), (4, .int x4), (5, .int x5), (6, .int x6)] → m_X7_kind_87 k_38 x1 x2 x4 x5 x6 y0 w = some F → W p l e r_X7_kind s m args below meth c H locs 0 0 (MQ below (pv_Rw E (pv_wM E a0 a1 a2 a3 a4 a5 a6 a7 a8 a9 a10 w0) sz (some (.int F.1)) ((fun w : pv_MT => pv_wM E a0 a1 a2 a3 a4 a5 a6 a7 a8 a9 a10 w) F.2)) args s 0 0 A) (F0 m 87 ls [.int y0]) := by
    intro k_38 hk_38
    intro x1 x2 x4 x5 x6 y0 w H locs ls hP hS hl hq
    refine lv_istore_n (pc := 87) (lv' := [(3, .int y0), (0, .ref a0), (1, .int x1), (2, .int x2), (4, .int x4), (5, .int x5), (6, .int x6)]) hx hb dX7_kind_87 rfl hl (Nat.le_of_ble_eq_true rfl) rfl (fun ls hl => ?_)
    refine lv_iload (pc := 88) hx hb dX7_kind_88 (lv_at hl 6 rfl) ?_
    refine lv_iload (pc := 90) hx hb dX7_kind_90 (lv_at hl 4 rfl) ?_
    refine lv_icmp_le (pc := 92) (tgt := 100) hx hb dX7_kind_92 (by decide) (fun c_12 => ?_) (fun c_12 => ?_)
    · have hq := pv_pos c_12 hq
      refine lv_iload (pc := 100) hx hb dX7_kind_100 (lv_at hl 4 rfl) ?_
      exact B_102 k_38 hk_38 x1 x2 y0 x5 x4 w H locs ls hP hS (lv_sub hl [1, 2, 3, 0, 5] rfl) hq
    · have hq := pv_neg c_12 hq
      refine lv_iload (pc := 95) hx hb dX7_kind_95 (lv_at hl 6 rfl) ?_
      refine lv_goto (pc := 97) (tgt := 102) hx hb dX7_kind_97 (by decide) ?_
      exact B_102 k_38 hk_38 x1 x2 y0 x5 x6 w H locs ls hP hS (lv_sub hl [1, 2, 3, 0, 5] rfl) hq
  have L_38 : ∀ n : Nat, ∀ (x1 : Int32) (x2 : Int32) (x3 : Int32) (x4 : Int32) (x5 : Int32) (w : pv_MT) (H : Heap) (locs : List Loc) (ls : Array Slot), va_P E.1 vwCl (pv_wM E a0 a1 a2 a3 a4 a5 a6 a7 a8 a9 a10 w) H → va_S A s.heap H locs → lv_has ls 7 [(0, .ref a0), (1, .int x1), (2, .int x2), (3, .int x3), (4, .int x4), (5, .int x5)] → m_X7_kind_38 n x1 x2 x3 x4 x5 w = some F → W p l e r_X7_kind s m args below meth c H locs 0 0 (MQ below (pv_Rw E (pv_wM E a0 a1 a2 a3 a4 a5 a6 a7 a8 a9 a10 w0) sz (some (.int F.1)) ((fun w : pv_MT => pv_wM E a0 a1 a2 a3 a4 a5 a6 a7 a8 a9 a10 w) F.2)) args s 0 0 A) (F0 m 38 ls []) := by
    intro n
    induction n with
    | zero =>
      intro x1 x2 x3 x4 x5 w H locs ls hP hS hl hq
      exact (pv_no hq).elim
    | succ n ih =>
      intro x1 x2 x3 x4 x5 w H locs ls hP hS hl hq
      refine lv_iload (pc := 38) hx hb dX7_kind_38 (lv_at hl 5 rfl) ?_
      refine lv_iconst (pc := 40) (v := 5) hx hb dX7_kind_40 (by decide) ?_
      refine lv_icmp_gt (pc := 41) (tgt := 110) hx hb dX7_kind_41 (by decide) (fun c_6 => ?_) (fun c_6 => ?_)
      · have hq := pv_pos c_6 hq
        refine lv_iload_n (pc := 110) hx hb dX7_kind_110 rfl (lv_at hl 3 rfl) ?_
        exact pv_riRW (w := fun w : pv_MT => pv_wM E a0 a1 a2 a3 a4 a5 a6 a7 a8 a9 a10 w) hx hb hr hlk hAe hS hP (Option.some.inj hq) dX7_kind_111
      · have hq := pv_neg c_6 hq
        refine lv_aload_n (pc := 44) hx hb dX7_kind_44 rfl (lv_at hl 0 rfl) ?_
        refine va_get (pc := 45) (D := E.1) (ci := 5) (v := .ref a1) (C := RX7) (T := TX7) (N := 17) hx hb hts i_RX7 hown hK hP 0 rfl rfl 0 (Nat.le_of_ble_eq_true rfl) fl_9 (fun _ h9 => h9) rfl dX7_kind_45 ?_
        refine lv_bipush (pc := 48) (v := 15) hx hb dX7_kind_48 (by decide) ?_
        refine lv_iconst (pc := 50) (v := 2) hx hb dX7_kind_50 (by decide) ?_
        refine lv_iload_n (pc := 51) hx hb dX7_kind_51 rfl (lv_at hl 1 rfl) ?_
        refine lv_imul (pc := 52) hx hb dX7_kind_52 ?_
        refine lv_iadd (pc := 53) hx hb dX7_kind_53 ?_
        refine lv_iload (pc := 54) hx hb dX7_kind_54 (lv_at hl 5 rfl) ?_
        obtain ⟨h_7, hq⟩ := pv_gd_some hq
        refine va_iast (pc := 56) (D := E.1) hx hb hK hP (hD w) hS 1 0 rfl rfl h_7 dX7_kind_56 (fun H locs hP _ hS => ?_)
        have hP : va_P E.1 vwCl (pv_wM E a0 a1 a2 a3 a4 a5 a6 a7 a8 a9 a10 ((upd w.1 (15 + (2 * x1)).toNatClampNeg x5), w.2.1, w.2.2.1, w.2.2.2.1, w.2.2.2.2.1, w.2.2.2.2.2.1, w.2.2.2.2.2.2.1, w.2.2.2.2.2.2.2.1, w.2.2.2.2.2.2.2.2.1, w.2.2.2.2.2.2.2.2.2.1, w.2.2.2.2.2.2.2.2.2.2.1, w.2.2.2.2.2.2.2.2.2.2.2.1, w.2.2.2.2.2.2.2.2.2.2.2.2.1, w.2.2.2.2.2.2.2.2.2.2.2.2.2.1, w.2.2.2.2.2.2.2.2.2.2.2.2.2.2.1, w.2.2.2.2.2.2.2.2.2.2.2.2.2.2.2.1, w.2.2.2.2.2.2.2.2.2.2.2.2.2.2.2.2)) H := hP
        refine lv_aload_n (pc := 57) hx hb dX7_kind_57 rfl (lv_at hl 0 rfl) ?_
        refine lv_iload_n (pc := 58) hx hb dX7_kind_58 rfl (lv_at hl 2 rfl) ?_
        obtain ⟨u_8, hu_8, hq⟩ := pv_bind hq
        refine pv_vRWf (pc := 59) (rest := []) (st1 := []) (ws := pv_wM E a0 a1 a2 a3 a4 a5 a6 a7 a8 a9 a10 ((upd w.1 (15 + (2 * x1)).toNatClampNeg x5), w.2.1, w.2.2.1, w.2.2.2.1, w.2.2.2.2.1, w.2.2.2.2.2.1, w.2.2.2.2.2.2.1, w.2.2.2.2.2.2.2.1, w.2.2.2.2.2.2.2.2.1, w.2.2.2.2.2.2.2.2.2.1, w.2.2.2.2.2.2.2.2.2.2.1, w.2.2.2.2.2.2.2.2.2.2.2.1, w.2.2.2.2.2.2.2.2.2.2.2.2.1, w.2.2.2.2.2.2.2.2.2.2.2.2.2.1, w.2.2.2.2.2.2.2.2.2.2.2.2.2.2.1, w.2.2.2.2.2.2.2.2.2.2.2.2.2.2.2.1, w.2.2.2.2.2.2.2.2.2.2.2.2.2.2.2.2)) [.int x2] ⟨hx, hb, hml, hown, hts⟩ hE hA hS hP (hD ((upd w.1 (15 + (2 * x1)).toNatClampNeg x5), w.2.1, w.2.2.1, w.2.2.2.1, w.2.2.2.2.1, w.2.2.2.2.2.1, w.2.2.2.2.2.2.1, w.2.2.2.2.2.2.2.1, w.2.2.2.2.2.2.2.2.1, w.2.2.2.2.2.2.2.2.2.1, w.2.2.2.2.2.2.2.2.2.2.1, w.2.2.2.2.2.2.2.2.2.2.2.1, w.2.2.2.2.2.2.2.2.2.2.2.2.1, w.2.2.2.2.2.2.2.2.2.2.2.2.2.1, w.2.2.2.2.2.2.2.2.2.2.2.2.2.2.1, w.2.2.2.2.2.2.2.2.2.2.2.2.2.2.2.1, w.2.2.2.2.2.2.2.2.2.2.2.2.2.2.2.2)) (c_X7_goesFor l E a0 a1 a2 a3 a4 a5 a6 a7 a8 a9 a10 x2 ((upd w.1 (15 + (2 * x1)).toNatClampNeg x5), w.2.1, w.2.2.1, w.2.2.2.1, w.2.2.2.2.1, w.2.2.2.2.2.1, w.2.2.2.2.2.2.1, w.2.2.2.2.2.2.2.1, w.2.2.2.2.2.2.2.2.1, w.2.2.2.2.2.2.2.2.2.1, w.2.2.2.2.2.2.2.2.2.2.1, w.2.2.2.2.2.2.2.2.2.2.2.1, w.2.2.2.2.2.2.2.2.2.2.2.2.1, w.2.2.2.2.2.2.2.2.2.2.2.2.2.1, w.2.2.2.2.2.2.2.2.2.2.2.2.2.2.1, w.2.2.2.2.2.2.2.2.2.2.2.2.2.2.2.1, w.2.2.2.2.2.2.2.2.2.2.2.2.2.2.2.2) u_8 hu_8) (cwV 1 hts gX7_kind_X7_goesFor rfl rfl rfl (by decide +kernel) ⟨(Nat.le_of_ble_eq_true rfl), (Nat.le_of_ble_eq_true rfl)⟩) (va_recv hK hP (ci := 5) (q0 := 0) rfl rfl) rfl hl.1 rfl rfl (Nat.le_of_ble_eq_true rfl) dX7_kind_59 ⟨Nat.zero_le _, Nat.zero_le _⟩ (fun H locs hP hS => ?_)
        have hP : va_P E.1 vwCl (pv_wM E a0 a1 a2 a3 a4 a5 a6 a7 a8 a9 a10 u_8) H := hP
        refine lv_aload_n (pc := 62) hx hb dX7_kind_62 rfl (lv_at hl 0 rfl) ?_
        refine lv_iload_n (pc := 63) hx hb dX7_kind_63 rfl (lv_at hl 1 rfl) ?_
        refine lv_iconst (pc := 64) (v := 1) hx hb dX7_kind_64 (by decide) ?_
        obtain ⟨u_9, hu_9, hq⟩ := pv_bind hq
        refine pv_vROf (pc := 65) (rest := []) (st1 := [.int u_9]) (ws := pv_wM E a0 a1 a2 a3 a4 a5 a6 a7 a8 a9 a10 u_8) [.int x1, .int 1] ⟨hx, hb, hml, hown, hts⟩ hE hA hS hP (hD u_8) (c_X7_it l E a0 a1 a2 a3 a4 a5 a6 a7 a8 a9 a10 x1 1 u_8 u_9 hu_9) (cwV 2 hts gX7_kind_X7_it rfl rfl rfl (by decide +kernel) ⟨(Nat.le_of_ble_eq_true rfl), (Nat.le_of_ble_eq_true rfl)⟩) (va_recv hK hP (ci := 5) (q0 := 0) rfl rfl) rfl hl.1 rfl rfl (Nat.le_of_ble_eq_true rfl) dX7_kind_65 ⟨Nat.zero_le _, Nat.zero_le _⟩ (fun locs hS => ?_)
        refine lv_istore (pc := 68) (lv' := [(6, .int u_9), (0, .ref a0), (1, .int x1), (2, .int x2), (3, .int x3), (4, .int x4), (5, .int x5)]) hx hb dX7_kind_68 hl (Nat.le_of_ble_eq_true rfl) rfl (fun ls hl => ?_)
        refine lv_aload_n (pc := 70) hx hb dX7_kind_70 rfl (lv_at hl 1 rfl) ?_
        obtain ⟨u_10, hu_10, hq⟩ := pv_bind hq
        refine pv_vRWf (pc := 71) (rest := []) (st1 := []) (ws := pv_wM E a0 a1 a2 a3 a4 a5 a6 a7 a8 a9 a10 u_8) [] ⟨hx, hb, hml, hown, hts⟩ hE hA hS hP (hD u_8) (c_X7_putsBack l E a0 a1 a2 a3 a4 a5 a6 a7 a8 a9 a10 u_8 u_10 hu_10) (cwV 0 hts gX7_kind_X7_putsBack rfl rfl rfl (by decide +kernel) ⟨(Nat.le_of_ble_eq_true rfl), (Nat.le_of_ble_eq_true rfl)⟩) (va_recv hK hP (ci := 5) (q0 := 0) rfl rfl) rfl hl.1 rfl rfl (Nat.le_of_ble_eq_true rfl) dX7_kind_71 ⟨Nat.zero_le _, Nat.zero_le _⟩ (fun H locs hP hS => ?_)
        have hP : va_P E.1 vwCl (pv_wM E a0 a1 a2 a3 a4 a5 a6 a7 a8 a9 a10 u_10) H := hP
        refine lv_iload (pc := 74) hx hb dX7_kind_74 (lv_at hl 0 rfl) ?_
        refine lv_iload (pc := 76) hx hb dX7_kind_76 (lv_at hl 5 rfl) ?_
        refine lv_icmp_le (pc := 78) (tgt := 86) hx hb dX7_kind_78 (by decide) (fun c_11 => ?_) (fun c_11 => ?_)
        · have hq := pv_pos c_11 hq
          refine lv_iload_n (pc := 86) hx hb dX7_kind_86 rfl (lv_at hl 4 rfl) ?_
          exact B_87 (m_X7_kind_38 n) ih x1 x2 x4 x5 u_9 x3 u_10 H locs ls hP hS (lv_sub hl [1, 2, 3, 5, 6, 0] rfl) hq
        · have hq := pv_neg c_11 hq
          refine lv_iload (pc := 81) hx hb dX7_kind_81 (lv_at hl 6 rfl) ?_
          refine lv_goto (pc := 83) (tgt := 87) hx hb dX7_kind_83 (by decide) ?_
          exact B_87 (m_X7_kind_38 n) ih x1 x2 x4 x5 u_9 x5 u_10 H locs ls hP hS (lv_sub hl [1, 2, 3, 5, 6, 0] rfl) hq
  suffices M0 : ∀ (H : Heap) (locs : List Loc), va_P E.1 vwCl (pv_wM E a0 a1 a2 a3 a4 a5 a6 a7 a8 a9 a10 w0) H → va_S A s.heap H locs → W p l e r_X7_kind s m args below meth c H locs 0 0 (MQ below (pv_Rw E (pv_wM E a0 a1 a2 a3 a4 a5 a6 a7 a8 a9 a10 w0) sz (some (.int F.1)) ((fun w : pv_MT => pv_wM E a0 a1 a2 a3 a4 a5 a6 a7 a8 a9 a10 w) F.2)) args s 0 0 A) (F0 m 0 ls []) from M0 s.heap [] hP hS
  intro H locs hP hS
  refine lv_aload_n (pc := 0) hx hb dX7_kind_0 rfl (lv_at hl 0 rfl) ?_
  refine lv_iload_n (pc := 1) hx hb dX7_kind_1 rfl (lv_at hl 1 rfl) ?_
  obtain ⟨u_1, hu_1, hq⟩ := pv_bind hq
  refine pv_vROf (pc := 2) (rest := []) (st1 := [.int u_1]) (ws := pv_wM E a0 a1 a2 a3 a4 a5 a6 a7 a8 a9 a10 w0) [.int x1] ⟨hx, hb, hml, hown, hts⟩ hE hA hS hP (hD w0) (c_X7_isEnvoy l E a0 a1 a2 a3 a4 a5 a6 a7 a8 a9 a10 x1 w0 u_1 hu_1) (cwV 1 hts gX7_kind_X7_isEnvoy rfl rfl rfl (by decide +kernel) ⟨(Nat.le_of_ble_eq_true rfl), (Nat.le_of_ble_eq_true rfl)⟩) (va_recv hK hP (ci := 5) (q0 := 0) rfl rfl) rfl hl.1 rfl rfl (Nat.le_of_ble_eq_true rfl) dX7_kind_2 ⟨Nat.zero_le _, Nat.zero_le _⟩ (fun locs hS => ?_)
  refine lv_if_eq (pc := 5) (tgt := 19) hx hb dX7_kind_5 (by decide) (fun c_2 => ?_) (fun c_2 => ?_)
  · have hq := pv_pos c_2 hq
    exact B_19 w0 H locs ls hP hS (lv_sub hl [0] rfl) hq
  · have hq := pv_neg c_2 hq
    refine lv_iload_n (pc := 8) hx hb dX7_kind_8 rfl (lv_at hl 2 rfl) ?_
    refine lv_i2l (pc := 9) (v := x2.toInt64) hx hb dX7_kind_9 rfl ?_
    refine lv_iconst (pc := 10) (v := 1) hx hb dX7_kind_10 (by decide) ?_
    refine lv_bipush (pc := 11) (v := 40) hx hb dX7_kind_11 (by decide) ?_
    refine pv_sRO (pc := 13) (rest := []) (st1 := [.int (m_X7_in x2.toInt64 1 40)]) (ws := pv_wM E a0 a1 a2 a3 a4 a5 a6 a7 a8 a9 a10 w0) [.long x2.toInt64, .int 1, .int 40] ⟨hx, hb, hml, hown, hts⟩ hE hA hS hP (hD w0) (c_X7_in l E x2.toInt64 1 40) (va_cwS 3 hts gX7_kind_X7_in rfl rfl rfl (by decide +kernel) ⟨(Nat.le_of_ble_eq_true rfl), (Nat.le_of_ble_eq_true rfl)⟩) [] rfl rfl rfl hl.1 rfl rfl (Nat.le_of_ble_eq_true rfl) dX7_kind_13 ⟨Nat.zero_le _, Nat.zero_le _⟩ (fun locs hS => ?_)
    refine lv_if_ne (pc := 16) (tgt := 26) hx hb dX7_kind_16 (by decide) (fun c_4 => ?_) (fun c_4 => ?_)
    · have hq := pv_neg c_4 hq
      refine lv_aload_n (pc := 26) hx hb dX7_kind_26 rfl (lv_at hl 0 rfl) ?_
      obtain ⟨u_5, hu_5, hq⟩ := pv_bind hq
      refine pv_vRWf (pc := 27) (rest := []) (st1 := []) (ws := pv_wM E a0 a1 a2 a3 a4 a5 a6 a7 a8 a9 a10 w0) [] ⟨hx, hb, hml, hown, hts⟩ hE hA hS hP (hD w0) (c_X7_thinks l E a0 a1 a2 a3 a4 a5 a6 a7 a8 a9 a10 w0 u_5 hu_5) (cwV 0 hts gX7_kind_X7_thinks rfl rfl rfl (by decide +kernel) ⟨(Nat.le_of_ble_eq_true rfl), (Nat.le_of_ble_eq_true rfl)⟩) (va_recv hK hP (ci := 5) (q0 := 0) rfl rfl) rfl hl.1 rfl rfl (Nat.le_of_ble_eq_true rfl) dX7_kind_27 ⟨Nat.zero_le _, Nat.zero_le _⟩ (fun H locs hP hS => ?_)
      have hP : va_P E.1 vwCl (pv_wM E a0 a1 a2 a3 a4 a5 a6 a7 a8 a9 a10 u_5) H := hP
      refine lv_iconst (pc := 30) (v := 0) hx hb dX7_kind_30 (by decide) ?_
      refine lv_istore_n (pc := 31) (lv' := [(3, .int 0), (0, .ref a0), (1, .int x1), (2, .int x2)]) hx hb dX7_kind_31 rfl hl (Nat.le_of_ble_eq_true rfl) rfl (fun ls hl => ?_)
      refine lv_iconst (pc := 32) (v := (-1)) hx hb dX7_kind_32 (by decide) ?_
      refine lv_istore (pc := 33) (lv' := [(4, .int (-1)), (3, .int 0), (0, .ref a0), (1, .int x1), (2, .int x2)]) hx hb dX7_kind_33 hl (Nat.le_of_ble_eq_true rfl) rfl (fun ls hl => ?_)
      refine lv_iconst (pc := 35) (v := 0) hx hb dX7_kind_35 (by decide) ?_
      refine lv_istore (pc := 36) (lv' := [(5, .int 0), (4, .int (-1)), (3, .int 0), (0, .ref a0), (1, .int x1), (2, .int x2)]) hx hb dX7_kind_36 hl (Nat.le_of_ble_eq_true rfl) rfl (fun ls hl => ?_)
      exact L_38 300 x1 x2 0 (-1) 0 u_5 H locs ls hP hS (lv_sub hl [3, 4, 5, 2, 1, 0] rfl) hq
    · have hq := pv_pos c_4 hq
      exact B_19 w0 H locs ls hP hS (lv_sub hl [0] rfl) hq
def m_X7_rest_18  (w : pv_MT) : Option (Int32 × pv_MT) :=
  Option.bind (m_X7_finds (-1000000001) w) fun u_3 => (some (u_3.1, u_3.2))
def m_X7_rest_135 (k_37 : Int32 → Int32 → Int32 → Int32 → Int32 → pv_MT → Option (Int32 × pv_MT)) (x1 : Int32) (x2 : Int32) (x3 : Int32) (x5 : Int32) (y0 : Int32) (w : pv_MT) : Option (Int32 × pv_MT) :=
  k_37 x1 x2 x3 y0 (x5 + 1) w
def m_X7_rest_120 (k_37 : Int32 → Int32 → Int32 → Int32 → Int32 → pv_MT → Option (Int32 × pv_MT)) (x1 : Int32) (x2 : Int32) (x4 : Int32) (x5 : Int32) (x6 : Int32) (y0 : Int32) (w : pv_MT) : Option (Int32 × pv_MT) :=
  if x6 ≤ x4 then (m_X7_rest_135 k_37 x1 x2 y0 x5 x4 w) else (m_X7_rest_135 k_37 x1 x2 y0 x5 x6 w)
def m_X7_rest_37 : Nat → Int32 → Int32 → Int32 → Int32 → Int32 → pv_MT → Option (Int32 × pv_MT)
  | 0 => fun _ _ _ _ _ _ => none
  | n + 1 => fun x1 x2 x3 x4 x5 w =>
    if 30 < x5 then (some (x3, w)) else (Option.bind (m_X7_goesFor x5 ((upd (upd w.1 3 (-1)) 4 (-1)), w.2.1, w.2.2.1, w.2.2.2.1, w.2.2.2.2.1, w.2.2.2.2.2.1, w.2.2.2.2.2.2.1, w.2.2.2.2.2.2.2.1, w.2.2.2.2.2.2.2.2.1, w.2.2.2.2.2.2.2.2.2.1, w.2.2.2.2.2.2.2.2.2.2.1, w.2.2.2.2.2.2.2.2.2.2.2.1, w.2.2.2.2.2.2.2.2.2.2.2.2.1, w.2.2.2.2.2.2.2.2.2.2.2.2.2.1, w.2.2.2.2.2.2.2.2.2.2.2.2.2.2.1, w.2.2.2.2.2.2.2.2.2.2.2.2.2.2.2.1, w.2.2.2.2.2.2.2.2.2.2.2.2.2.2.2.2)) fun u_7 => (Option.bind (m_X7_goesFor x2 ((upd (upd u_7.1 3 (u_7.2.2.1 3)) 4 (u_7.2.2.1 4)), u_7.2.1, u_7.2.2.1, u_7.2.2.2.1, u_7.2.2.2.2.1, u_7.2.2.2.2.2.1, u_7.2.2.2.2.2.2.1, u_7.2.2.2.2.2.2.2.1, u_7.2.2.2.2.2.2.2.2.1, u_7.2.2.2.2.2.2.2.2.2.1, u_7.2.2.2.2.2.2.2.2.2.2.1, u_7.2.2.2.2.2.2.2.2.2.2.2.1, u_7.2.2.2.2.2.2.2.2.2.2.2.2.1, u_7.2.2.2.2.2.2.2.2.2.2.2.2.2.1, u_7.2.2.2.2.2.2.2.2.2.2.2.2.2.2.1, u_7.2.2.2.2.2.2.2.2.2.2.2.2.2.2.2.1, u_7.2.2.2.2.2.2.2.2.2.2.2.2.2.2.2.2)) fun u_8 => (Option.bind (m_X7_landsOf x1 u_8) fun u_9 => (Option.bind (m_X7_bits u_9) fun u_10 => (Option.bind (m_X7_putsBack u_8) fun u_11 => (if u_10 ≤ x4 then (m_X7_rest_120 (m_X7_rest_37 n) x1 x2 x4 x5 u_10 x3 u_11) else (m_X7_rest_120 (m_X7_rest_37 n) x1 x2 x4 x5 u_10 x5 u_11)))))))
def m_X7_rest (x1 : Int32) (x2 : Int32) (w : pv_MT) : Option (Int32 × pv_MT) :=
  Option.bind (m_X7_isState x1) fun u_1 => (if u_1 = 0 then (m_X7_rest_18 w) else (if (m_X7_in x2.toInt64 1 30) = 0 then (m_X7_rest_18 w) else (Option.bind (m_X7_thinks w) fun u_5 => (m_X7_rest_37 300 x1 x2 0 (-1) 0 u_5))))
abbrev r_X7_rest : Room := { frames := 8, cells := 0, slots := 0, locals := 187 }
set_option maxHeartbeats 4000000 in
set_option maxRecDepth 100000 in
theorem c_X7_rest (l : Launch) (E : pv_E) (a0 a1 a2 a3 a4 a5 a6 a7 a8 a9 a10 : Nat) (x1 : Int32) (x2 : Int32) (w0 : pv_MT) (F : Int32 × pv_MT) (hq : m_X7_rest x1 x2 w0 = some F) : pv_RW l E yX7_rest wsX7_rest r_X7_rest (pv_wM E a0 a1 a2 a3 a4 a5 a6 a7 a8 a9 a10 w0) [.ref a0, .int x1, .int x2] (some (.int F.1)) (pv_wM E a0 a1 a2 a3 a4 a5 a6 a7 a8 a9 a10 F.2) := by
  intro sz
  refine pv_mk (by decide) rfl (Nat.le_of_ble_eq_true rfl) ?_
  intro p e s m args below meth c A hx hb hr hml hown hts hlk hAe hP hD0 hA hE hS ls hl
  have hown : s.vm.findClass RX7 = some m.cls := hown
  have hK := hE.1
  have hD : ∀ w : pv_MT, va_D A (pv_wM E a0 a1 a2 a3 a4 a5 a6 a7 a8 a9 a10 w) := fun w => pv_Dm (ws := pv_wM E a0 a1 a2 a3 a4 a5 a6 a7 a8 a9 a10 w0) (ws' := pv_wM E a0 a1 a2 a3 a4 a5 a6 a7 a8 a9 a10 w) rfl hD0
  have hP : va_P E.1 vwCl (pv_wM E a0 a1 a2 a3 a4 a5 a6 a7 a8 a9 a10 w0) s.heap := hP
  have lc_41 : (Cond.constant RX7 41 (-1000000001)).before args s = true := hts _ (by decide +kernel)
  have fl_9 : (Cond.fieldLink RX7 9 "ProvinceCardsModel" "m" "[I").before args s = true := hts _ (by decide +kernel)
  have fl_16 : (Cond.fieldLink RX7 16 "ProvinceCardsModel" "was" "[I").before args s = true := hts _ (by decide +kernel)
  have i_RX7 : ∀ w ∈ wsX70, w ∈ wsX7_rest := by decide +kernel
  have hl : lv_has ls 7 [(0, .ref a0), (1, .int x1), (2, .int x2)] := hl
  have B_18 : ∀  (w : pv_MT) (H : Heap) (locs : List Loc) (ls : Array Slot), va_P E.1 vwCl (pv_wM E a0 a1 a2 a3 a4 a5 a6 a7 a8 a9 a10 w) H → va_S A s.heap H locs → lv_has ls 7 [(0, .ref a0)] → m_X7_rest_18 w = some F → W p l e r_X7_rest s m args below meth c H locs 0 0 (MQ below (pv_Rw E (pv_wM E a0 a1 a2 a3 a4 a5 a6 a7 a8 a9 a10 w0) sz (some (.int F.1)) ((fun w : pv_MT => pv_wM E a0 a1 a2 a3 a4 a5 a6 a7 a8 a9 a10 w) F.2)) args s 0 0 A) (F0 m 18 ls []) := by
    intro w H locs ls hP hS hl hq
    refine lv_aload_n (pc := 18) hx hb dX7_rest_18 rfl (lv_at hl 0 rfl) ?_
    refine lv_ldc (pc := 19) hx hb hown lc_41 dX7_rest_19 ?_
    obtain ⟨u_3, hu_3, hq⟩ := pv_bind hq
    refine pv_vRWf (pc := 21) (rest := []) (st1 := [.int u_3.1]) (ws := pv_wM E a0 a1 a2 a3 a4 a5 a6 a7 a8 a9 a10 w) [.int (-1000000001)] ⟨hx, hb, hml, hown, hts⟩ hE hA hS hP (hD w) (c_X7_finds l E a0 a1 a2 a3 a4 a5 a6 a7 a8 a9 a10 (-1000000001) w u_3 hu_3) (cwV 1 hts gX7_rest_X7_finds rfl rfl rfl (by decide +kernel) ⟨(Nat.le_of_ble_eq_true rfl), (Nat.le_of_ble_eq_true rfl)⟩) (va_recv hK hP (ci := 5) (q0 := 0) rfl rfl) rfl hl.1 rfl rfl (Nat.le_of_ble_eq_true rfl) dX7_rest_21 ⟨Nat.zero_le _, Nat.zero_le _⟩ (fun H locs hP hS => ?_)
    have hP : va_P E.1 vwCl (pv_wM E a0 a1 a2 a3 a4 a5 a6 a7 a8 a9 a10 u_3.2) H := hP
    exact pv_riRW (w := fun w : pv_MT => pv_wM E a0 a1 a2 a3 a4 a5 a6 a7 a8 a9 a10 w) hx hb hr hlk hAe hS hP (Option.some.inj hq) dX7_rest_24
  have B_135 : ∀ (k_37 : Int32 → Int32 → Int32 → Int32 → Int32 → pv_MT → Option (Int32 × pv_MT)), (∀ (x1 : Int32) (x2 : Int32) (x3 : Int32) (x4 : Int32) (x5 : Int32) (w : pv_MT) (H : Heap) (locs : List Loc) (ls : Array Slot), va_P E.1 vwCl (pv_wM E a0 a1 a2 a3 a4 a5 a6 a7 a8 a9 a10 w) H → va_S A s.heap H locs → lv_has ls 7 [(0, .ref a0), (1, .int x1), (2, .int x2), (3, .int x3), (4, .int x4), (5, .int x5)] → k_37 x1 x2 x3 x4 x5 w = some F → W p l e r_X7_rest s m args below meth c H locs 0 0 (MQ below (pv_Rw E (pv_wM E a0 a1 a2 a3 a4 a5 a6 a7 a8 a9 a10 w0) sz (some (.int F.1)) ((fun w : pv_MT => pv_wM E a0 a1 a2 a3 a4 a5 a6 a7 a8 a9 a10 w) F.2)) args s 0 0 A) (F0 m 37 ls [])) → ∀ (x1 : Int32) (x2 : Int32) (x3 : Int32) (x5 : Int32) (y0 : Int32) (w : pv_MT) (H : Heap) (locs : List Loc) (ls : Array Slot), va_P E.1 vwCl (pv_wM E a0 a1 a2 a3 a4 a5 a6 a7 a8 a9 a10 w) H → va_S A s.heap H locs → lv_has ls 7 [(0, .ref a0), (1, .int x1), (2, .int x2), (3, .int x3), (5, .int x5)] → m_X7_rest_135 k_37 x1 x2 x3 x5 y0 w = some F → W p l e r_X7_rest s m args below meth c H locs 0 0 (MQ below (pv_Rw E (pv_wM E a0 a1 a2 a3 a4 a5 a6 a7 a8 a9 a10 w0) sz (some (.int F.1)) ((fun w : pv_MT => pv_wM E a0 a1 a2 a3 a4 a5 a6 a7 a8 a9 a10 w) F.2)) args s 0 0 A) (F0 m 135 ls [.int y0]) := by
    intro k_37 hk_37
    intro x1 x2 x3 x5 y0 w H locs ls hP hS hl hq
    refine lv_istore (pc := 135) (lv' := [(4, .int y0), (0, .ref a0), (1, .int x1), (2, .int x2), (3, .int x3), (5, .int x5)]) hx hb dX7_rest_135 hl (Nat.le_of_ble_eq_true rfl) rfl (fun ls hl => ?_)
    refine lv_iinc (pc := 137) (v := (x5 + 1)) (lv' := [(5, .int (x5 + 1)), (4, .int y0), (0, .ref a0), (1, .int x1), (2, .int x2), (3, .int x3)]) hx hb dX7_rest_137 hl (k := 5) rfl rfl (Nat.le_of_ble_eq_true rfl) rfl (fun ls hl => ?_)
    refine lv_goto (pc := 140) (tgt := 37) hx hb dX7_rest_140 (by decide) ?_
    exact hk_37 x1 x2 x3 y0 (x5 + 1) w H locs ls hP hS (lv_sub hl [2, 3, 4, 5, 1, 0] rfl) hq
  have B_120 : ∀ (k_37 : Int32 → Int32 → Int32 → Int32 → Int32 → pv_MT → Option (Int32 × pv_MT)), (∀ (x1 : Int32) (x2 : Int32) (x3 : Int32) (x4 : Int32) (x5 : Int32) (w : pv_MT) (H : Heap) (locs : List Loc) (ls : Array Slot), va_P E.1 vwCl (pv_wM E a0 a1 a2 a3 a4 a5 a6 a7 a8 a9 a10 w) H → va_S A s.heap H locs → lv_has ls 7 [(0, .ref a0), (1, .int x1), (2, .int x2), (3, .int x3), (4, .int x4), (5, .int x5)] → k_37 x1 x2 x3 x4 x5 w = some F → W p l e r_X7_rest s m args below meth c H locs 0 0 (MQ below (pv_Rw E (pv_wM E a0 a1 a2 a3 a4 a5 a6 a7 a8 a9 a10 w0) sz (some (.int F.1)) ((fun w : pv_MT => pv_wM E a0 a1 a2 a3 a4 a5 a6 a7 a8 a9 a10 w) F.2)) args s 0 0 A) (F0 m 37 ls [])) → ∀ (x1 : Int32) (x2 : Int32) (x4 : Int32) (x5 : Int32) (x6 : Int32) (y0 : Int32) (w : pv_MT) (H : Heap) (locs : List Loc) (ls : Array Slot), va_P E.1 vwCl (pv_wM E a0 a1 a2 a3 a4 a5 a6 a7 a8 a9 a10 w) H → va_S A s.heap H locs → lv_has ls 7 [(0, .ref a0), (1, .int x1), (2, .int x2), (4, .int x4), (5, .int x5), (6, .int x6)] → m_X7_rest_120 k_37 x1 x2 x4 x5 x6 y0 w = some F → W p l e r_X7_rest s m args below meth c H locs 0 0 (MQ below (pv_Rw E (pv_wM E a0 a1 a2 a3 a4 a5 a6 a7 a8 a9 a10 w0) sz (some (.int F.1)) ((fun w : pv_MT => pv_wM E a0 a1 a2 a3 a4 a5 a6 a7 a8 a9 a10 w) F.2)) args s 0 0 A) (F0 m 120 ls [.int y0]) := by
    intro k_37 hk_37
    intro x1 x2 x4 x5 x6 y0 w H locs ls hP hS hl hq
    refine lv_istore_n (pc := 120) (lv' := [(3, .int y0), (0, .ref a0), (1, .int x1), (2, .int x2), (4, .int x4), (5, .int x5), (6, .int x6)]) hx hb dX7_rest_120 rfl hl (Nat.le_of_ble_eq_true rfl) rfl (fun ls hl => ?_)
    refine lv_iload (pc := 121) hx hb dX7_rest_121 (lv_at hl 6 rfl) ?_
    refine lv_iload (pc := 123) hx hb dX7_rest_123 (lv_at hl 4 rfl) ?_
    refine lv_icmp_le (pc := 125) (tgt := 133) hx hb dX7_rest_125 (by decide) (fun c_13 => ?_) (fun c_13 => ?_)
    · have hq := pv_pos c_13 hq
      refine lv_iload (pc := 133) hx hb dX7_rest_133 (lv_at hl 4 rfl) ?_
      exact B_135 k_37 hk_37 x1 x2 y0 x5 x4 w H locs ls hP hS (lv_sub hl [1, 2, 3, 0, 5] rfl) hq
    · have hq := pv_neg c_13 hq
      refine lv_iload (pc := 128) hx hb dX7_rest_128 (lv_at hl 6 rfl) ?_
      refine lv_goto (pc := 130) (tgt := 135) hx hb dX7_rest_130 (by decide) ?_
      exact B_135 k_37 hk_37 x1 x2 y0 x5 x6 w H locs ls hP hS (lv_sub hl [1, 2, 3, 0, 5] rfl) hq
  have L_37 : ∀ n : Nat, ∀ (x1 : Int32) (x2 : Int32) (x3 : Int32) (x4 : Int32) (x5 : Int32) (w : pv_MT) (H : Heap) (locs : List Loc) (ls : Array Slot), va_P E.1 vwCl (pv_wM E a0 a1 a2 a3 a4 a5 a6 a7 a8 a9 a10 w) H → va_S A s.heap H locs → lv_has ls 7 [(0, .ref a0), (1, .int x1), (2, .int x2), (3, .int x3), (4, .int x4), (5, .int x5)] → m_X7_rest_37 n x1 x2 x3 x4 x5 w = some F → W p l e r_X7_rest s m args below meth c H locs 0 0 (MQ below (pv_Rw E (pv_wM E a0 a1 a2 a3 a4 a5 a6 a7 a8 a9 a10 w0) sz (some (.int F.1)) ((fun w : pv_MT => pv_wM E a0 a1 a2 a3 a4 a5 a6 a7 a8 a9 a10 w) F.2)) args s 0 0 A) (F0 m 37 ls []) := by
    intro n
    induction n with
    | zero =>
      intro x1 x2 x3 x4 x5 w H locs ls hP hS hl hq
      exact (pv_no hq).elim
    | succ n ih =>
      intro x1 x2 x3 x4 x5 w H locs ls hP hS hl hq
      refine lv_iload (pc := 37) hx hb dX7_rest_37 (lv_at hl 5 rfl) ?_
      refine lv_bipush (pc := 39) (v := 30) hx hb dX7_rest_39 (by decide) ?_
      refine lv_icmp_gt (pc := 41) (tgt := 143) hx hb dX7_rest_41 (by decide) (fun c_6 => ?_) (fun c_6 => ?_)
      · have hq := pv_pos c_6 hq
        refine lv_iload_n (pc := 143) hx hb dX7_rest_143 rfl (lv_at hl 3 rfl) ?_
        exact pv_riRW (w := fun w : pv_MT => pv_wM E a0 a1 a2 a3 a4 a5 a6 a7 a8 a9 a10 w) hx hb hr hlk hAe hS hP (Option.some.inj hq) dX7_rest_144
      · have hq := pv_neg c_6 hq
        refine lv_aload_n (pc := 44) hx hb dX7_rest_44 rfl (lv_at hl 0 rfl) ?_
        refine va_get (pc := 45) (D := E.1) (ci := 5) (v := .ref a1) (C := RX7) (T := TX7) (N := 17) hx hb hts i_RX7 hown hK hP 0 rfl rfl 0 (Nat.le_of_ble_eq_true rfl) fl_9 (fun _ h9 => h9) rfl dX7_rest_45 ?_
        refine lv_iconst (pc := 48) (v := 3) hx hb dX7_rest_48 (by decide) ?_
        refine lv_iconst (pc := 49) (v := (-1)) hx hb dX7_rest_49 (by decide) ?_
        refine va_iast (pc := 50) (D := E.1) hx hb hK hP (hD w) hS 1 0 rfl rfl (by decide : ¬ ((3 : Int32) < 0 ∨ 31 ≤ (3 : Int32).toNatClampNeg)) dX7_rest_50 (fun H locs hP _ hS => ?_)
        have hP : va_P E.1 vwCl (pv_wM E a0 a1 a2 a3 a4 a5 a6 a7 a8 a9 a10 ((upd w.1 3 (-1)), w.2.1, w.2.2.1, w.2.2.2.1, w.2.2.2.2.1, w.2.2.2.2.2.1, w.2.2.2.2.2.2.1, w.2.2.2.2.2.2.2.1, w.2.2.2.2.2.2.2.2.1, w.2.2.2.2.2.2.2.2.2.1, w.2.2.2.2.2.2.2.2.2.2.1, w.2.2.2.2.2.2.2.2.2.2.2.1, w.2.2.2.2.2.2.2.2.2.2.2.2.1, w.2.2.2.2.2.2.2.2.2.2.2.2.2.1, w.2.2.2.2.2.2.2.2.2.2.2.2.2.2.1, w.2.2.2.2.2.2.2.2.2.2.2.2.2.2.2.1, w.2.2.2.2.2.2.2.2.2.2.2.2.2.2.2.2)) H := hP
        refine lv_aload_n (pc := 51) hx hb dX7_rest_51 rfl (lv_at hl 0 rfl) ?_
        refine va_get (pc := 52) (D := E.1) (ci := 5) (v := .ref a1) (C := RX7) (T := TX7) (N := 17) hx hb hts i_RX7 hown hK hP 0 rfl rfl 0 (Nat.le_of_ble_eq_true rfl) fl_9 (fun _ h9 => h9) rfl dX7_rest_52 ?_
        refine lv_iconst (pc := 55) (v := 4) hx hb dX7_rest_55 (by decide) ?_
        refine lv_iconst (pc := 56) (v := (-1)) hx hb dX7_rest_56 (by decide) ?_
        refine va_iast (pc := 57) (D := E.1) hx hb hK hP (hD ((upd w.1 3 (-1)), w.2.1, w.2.2.1, w.2.2.2.1, w.2.2.2.2.1, w.2.2.2.2.2.1, w.2.2.2.2.2.2.1, w.2.2.2.2.2.2.2.1, w.2.2.2.2.2.2.2.2.1, w.2.2.2.2.2.2.2.2.2.1, w.2.2.2.2.2.2.2.2.2.2.1, w.2.2.2.2.2.2.2.2.2.2.2.1, w.2.2.2.2.2.2.2.2.2.2.2.2.1, w.2.2.2.2.2.2.2.2.2.2.2.2.2.1, w.2.2.2.2.2.2.2.2.2.2.2.2.2.2.1, w.2.2.2.2.2.2.2.2.2.2.2.2.2.2.2.1, w.2.2.2.2.2.2.2.2.2.2.2.2.2.2.2.2)) hS 1 0 rfl rfl (by decide : ¬ ((4 : Int32) < 0 ∨ 31 ≤ (4 : Int32).toNatClampNeg)) dX7_rest_57 (fun H locs hP _ hS => ?_)
        have hP : va_P E.1 vwCl (pv_wM E a0 a1 a2 a3 a4 a5 a6 a7 a8 a9 a10 ((upd (upd w.1 3 (-1)) 4 (-1)), w.2.1, w.2.2.1, w.2.2.2.1, w.2.2.2.2.1, w.2.2.2.2.2.1, w.2.2.2.2.2.2.1, w.2.2.2.2.2.2.2.1, w.2.2.2.2.2.2.2.2.1, w.2.2.2.2.2.2.2.2.2.1, w.2.2.2.2.2.2.2.2.2.2.1, w.2.2.2.2.2.2.2.2.2.2.2.1, w.2.2.2.2.2.2.2.2.2.2.2.2.1, w.2.2.2.2.2.2.2.2.2.2.2.2.2.1, w.2.2.2.2.2.2.2.2.2.2.2.2.2.2.1, w.2.2.2.2.2.2.2.2.2.2.2.2.2.2.2.1, w.2.2.2.2.2.2.2.2.2.2.2.2.2.2.2.2)) H := hP
        refine lv_aload_n (pc := 58) hx hb dX7_rest_58 rfl (lv_at hl 0 rfl) ?_
        refine lv_iload (pc := 59) hx hb dX7_rest_59 (lv_at hl 5 rfl) ?_
        obtain ⟨u_7, hu_7, hq⟩ := pv_bind hq
        refine pv_vRWf (pc := 61) (rest := []) (st1 := []) (ws := pv_wM E a0 a1 a2 a3 a4 a5 a6 a7 a8 a9 a10 ((upd (upd w.1 3 (-1)) 4 (-1)), w.2.1, w.2.2.1, w.2.2.2.1, w.2.2.2.2.1, w.2.2.2.2.2.1, w.2.2.2.2.2.2.1, w.2.2.2.2.2.2.2.1, w.2.2.2.2.2.2.2.2.1, w.2.2.2.2.2.2.2.2.2.1, w.2.2.2.2.2.2.2.2.2.2.1, w.2.2.2.2.2.2.2.2.2.2.2.1, w.2.2.2.2.2.2.2.2.2.2.2.2.1, w.2.2.2.2.2.2.2.2.2.2.2.2.2.1, w.2.2.2.2.2.2.2.2.2.2.2.2.2.2.1, w.2.2.2.2.2.2.2.2.2.2.2.2.2.2.2.1, w.2.2.2.2.2.2.2.2.2.2.2.2.2.2.2.2)) [.int x5] ⟨hx, hb, hml, hown, hts⟩ hE hA hS hP (hD ((upd (upd w.1 3 (-1)) 4 (-1)), w.2.1, w.2.2.1, w.2.2.2.1, w.2.2.2.2.1, w.2.2.2.2.2.1, w.2.2.2.2.2.2.1, w.2.2.2.2.2.2.2.1, w.2.2.2.2.2.2.2.2.1, w.2.2.2.2.2.2.2.2.2.1, w.2.2.2.2.2.2.2.2.2.2.1, w.2.2.2.2.2.2.2.2.2.2.2.1, w.2.2.2.2.2.2.2.2.2.2.2.2.1, w.2.2.2.2.2.2.2.2.2.2.2.2.2.1, w.2.2.2.2.2.2.2.2.2.2.2.2.2.2.1, w.2.2.2.2.2.2.2.2.2.2.2.2.2.2.2.1, w.2.2.2.2.2.2.2.2.2.2.2.2.2.2.2.2)) (c_X7_goesFor l E a0 a1 a2 a3 a4 a5 a6 a7 a8 a9 a10 x5 ((upd (upd w.1 3 (-1)) 4 (-1)), w.2.1, w.2.2.1, w.2.2.2.1, w.2.2.2.2.1, w.2.2.2.2.2.1, w.2.2.2.2.2.2.1, w.2.2.2.2.2.2.2.1, w.2.2.2.2.2.2.2.2.1, w.2.2.2.2.2.2.2.2.2.1, w.2.2.2.2.2.2.2.2.2.2.1, w.2.2.2.2.2.2.2.2.2.2.2.1, w.2.2.2.2.2.2.2.2.2.2.2.2.1, w.2.2.2.2.2.2.2.2.2.2.2.2.2.1, w.2.2.2.2.2.2.2.2.2.2.2.2.2.2.1, w.2.2.2.2.2.2.2.2.2.2.2.2.2.2.2.1, w.2.2.2.2.2.2.2.2.2.2.2.2.2.2.2.2) u_7 hu_7) (cwV 1 hts gX7_rest_X7_goesFor rfl rfl rfl (by decide +kernel) ⟨(Nat.le_of_ble_eq_true rfl), (Nat.le_of_ble_eq_true rfl)⟩) (va_recv hK hP (ci := 5) (q0 := 0) rfl rfl) rfl hl.1 rfl rfl (Nat.le_of_ble_eq_true rfl) dX7_rest_61 ⟨Nat.zero_le _, Nat.zero_le _⟩ (fun H locs hP hS => ?_)
        have hP : va_P E.1 vwCl (pv_wM E a0 a1 a2 a3 a4 a5 a6 a7 a8 a9 a10 u_7) H := hP
        refine lv_aload_n (pc := 64) hx hb dX7_rest_64 rfl (lv_at hl 0 rfl) ?_
        refine va_get (pc := 65) (D := E.1) (ci := 5) (v := .ref a1) (C := RX7) (T := TX7) (N := 17) hx hb hts i_RX7 hown hK hP 0 rfl rfl 0 (Nat.le_of_ble_eq_true rfl) fl_9 (fun _ h9 => h9) rfl dX7_rest_65 ?_
        refine lv_iconst (pc := 68) (v := 3) hx hb dX7_rest_68 (by decide) ?_
        refine lv_aload_n (pc := 69) hx hb dX7_rest_69 rfl (lv_at hl 0 rfl) ?_
        refine va_get (pc := 70) (D := E.1) (ci := 5) (v := .ref a3) (C := RX7) (T := TX7) (N := 17) hx hb hts i_RX7 hown hK hP 0 rfl rfl 2 (Nat.le_of_ble_eq_true rfl) fl_16 (fun _ h9 => h9) rfl dX7_rest_70 ?_
        refine lv_iconst (pc := 73) (v := 3) hx hb dX7_rest_73 (by decide) ?_
        refine va_iald (pc := 74) (D := E.1) hx hb hK hP 3 0 rfl rfl (by decide : ¬ ((3 : Int32) < 0 ∨ 31 ≤ (3 : Int32).toNatClampNeg)) dX7_rest_74 ?_
        refine W.eq (g2 := F0 m 75 ls [.int (u_7.2.2.1 3), .int 3, .ref a1]) rfl ?_
        refine va_iast (pc := 75) (D := E.1) hx hb hK hP (hD u_7) hS 1 0 rfl rfl (by decide : ¬ ((3 : Int32) < 0 ∨ 31 ≤ (3 : Int32).toNatClampNeg)) dX7_rest_75 (fun H locs hP _ hS => ?_)
        have hP : va_P E.1 vwCl (pv_wM E a0 a1 a2 a3 a4 a5 a6 a7 a8 a9 a10 ((upd u_7.1 3 (u_7.2.2.1 3)), u_7.2.1, u_7.2.2.1, u_7.2.2.2.1, u_7.2.2.2.2.1, u_7.2.2.2.2.2.1, u_7.2.2.2.2.2.2.1, u_7.2.2.2.2.2.2.2.1, u_7.2.2.2.2.2.2.2.2.1, u_7.2.2.2.2.2.2.2.2.2.1, u_7.2.2.2.2.2.2.2.2.2.2.1, u_7.2.2.2.2.2.2.2.2.2.2.2.1, u_7.2.2.2.2.2.2.2.2.2.2.2.2.1, u_7.2.2.2.2.2.2.2.2.2.2.2.2.2.1, u_7.2.2.2.2.2.2.2.2.2.2.2.2.2.2.1, u_7.2.2.2.2.2.2.2.2.2.2.2.2.2.2.2.1, u_7.2.2.2.2.2.2.2.2.2.2.2.2.2.2.2.2)) H := hP
        refine lv_aload_n (pc := 76) hx hb dX7_rest_76 rfl (lv_at hl 0 rfl) ?_
        refine va_get (pc := 77) (D := E.1) (ci := 5) (v := .ref a1) (C := RX7) (T := TX7) (N := 17) hx hb hts i_RX7 hown hK hP 0 rfl rfl 0 (Nat.le_of_ble_eq_true rfl) fl_9 (fun _ h9 => h9) rfl dX7_rest_77 ?_
        refine lv_iconst (pc := 80) (v := 4) hx hb dX7_rest_80 (by decide) ?_
        refine lv_aload_n (pc := 81) hx hb dX7_rest_81 rfl (lv_at hl 0 rfl) ?_
        refine va_get (pc := 82) (D := E.1) (ci := 5) (v := .ref a3) (C := RX7) (T := TX7) (N := 17) hx hb hts i_RX7 hown hK hP 0 rfl rfl 2 (Nat.le_of_ble_eq_true rfl) fl_16 (fun _ h9 => h9) rfl dX7_rest_82 ?_
        refine lv_iconst (pc := 85) (v := 4) hx hb dX7_rest_85 (by decide) ?_
        refine va_iald (pc := 86) (D := E.1) hx hb hK hP 3 0 rfl rfl (by decide : ¬ ((4 : Int32) < 0 ∨ 31 ≤ (4 : Int32).toNatClampNeg)) dX7_rest_86 ?_
        refine W.eq (g2 := F0 m 87 ls [.int (u_7.2.2.1 4), .int 4, .ref a1]) rfl ?_
        refine va_iast (pc := 87) (D := E.1) hx hb hK hP (hD ((upd u_7.1 3 (u_7.2.2.1 3)), u_7.2.1, u_7.2.2.1, u_7.2.2.2.1, u_7.2.2.2.2.1, u_7.2.2.2.2.2.1, u_7.2.2.2.2.2.2.1, u_7.2.2.2.2.2.2.2.1, u_7.2.2.2.2.2.2.2.2.1, u_7.2.2.2.2.2.2.2.2.2.1, u_7.2.2.2.2.2.2.2.2.2.2.1, u_7.2.2.2.2.2.2.2.2.2.2.2.1, u_7.2.2.2.2.2.2.2.2.2.2.2.2.1, u_7.2.2.2.2.2.2.2.2.2.2.2.2.2.1, u_7.2.2.2.2.2.2.2.2.2.2.2.2.2.2.1, u_7.2.2.2.2.2.2.2.2.2.2.2.2.2.2.2.1, u_7.2.2.2.2.2.2.2.2.2.2.2.2.2.2.2.2)) hS 1 0 rfl rfl (by decide : ¬ ((4 : Int32) < 0 ∨ 31 ≤ (4 : Int32).toNatClampNeg)) dX7_rest_87 (fun H locs hP _ hS => ?_)
        have hP : va_P E.1 vwCl (pv_wM E a0 a1 a2 a3 a4 a5 a6 a7 a8 a9 a10 ((upd (upd u_7.1 3 (u_7.2.2.1 3)) 4 (u_7.2.2.1 4)), u_7.2.1, u_7.2.2.1, u_7.2.2.2.1, u_7.2.2.2.2.1, u_7.2.2.2.2.2.1, u_7.2.2.2.2.2.2.1, u_7.2.2.2.2.2.2.2.1, u_7.2.2.2.2.2.2.2.2.1, u_7.2.2.2.2.2.2.2.2.2.1, u_7.2.2.2.2.2.2.2.2.2.2.1, u_7.2.2.2.2.2.2.2.2.2.2.2.1, u_7.2.2.2.2.2.2.2.2.2.2.2.2.1, u_7.2.2.2.2.2.2.2.2.2.2.2.2.2.1, u_7.2.2.2.2.2.2.2.2.2.2.2.2.2.2.1, u_7.2.2.2.2.2.2.2.2.2.2.2.2.2.2.2.1, u_7.2.2.2.2.2.2.2.2.2.2.2.2.2.2.2.2)) H := hP
        refine lv_aload_n (pc := 88) hx hb dX7_rest_88 rfl (lv_at hl 0 rfl) ?_
        refine lv_iload_n (pc := 89) hx hb dX7_rest_89 rfl (lv_at hl 2 rfl) ?_
        obtain ⟨u_8, hu_8, hq⟩ := pv_bind hq
        refine pv_vRWf (pc := 90) (rest := []) (st1 := []) (ws := pv_wM E a0 a1 a2 a3 a4 a5 a6 a7 a8 a9 a10 ((upd (upd u_7.1 3 (u_7.2.2.1 3)) 4 (u_7.2.2.1 4)), u_7.2.1, u_7.2.2.1, u_7.2.2.2.1, u_7.2.2.2.2.1, u_7.2.2.2.2.2.1, u_7.2.2.2.2.2.2.1, u_7.2.2.2.2.2.2.2.1, u_7.2.2.2.2.2.2.2.2.1, u_7.2.2.2.2.2.2.2.2.2.1, u_7.2.2.2.2.2.2.2.2.2.2.1, u_7.2.2.2.2.2.2.2.2.2.2.2.1, u_7.2.2.2.2.2.2.2.2.2.2.2.2.1, u_7.2.2.2.2.2.2.2.2.2.2.2.2.2.1, u_7.2.2.2.2.2.2.2.2.2.2.2.2.2.2.1, u_7.2.2.2.2.2.2.2.2.2.2.2.2.2.2.2.1, u_7.2.2.2.2.2.2.2.2.2.2.2.2.2.2.2.2)) [.int x2] ⟨hx, hb, hml, hown, hts⟩ hE hA hS hP (hD ((upd (upd u_7.1 3 (u_7.2.2.1 3)) 4 (u_7.2.2.1 4)), u_7.2.1, u_7.2.2.1, u_7.2.2.2.1, u_7.2.2.2.2.1, u_7.2.2.2.2.2.1, u_7.2.2.2.2.2.2.1, u_7.2.2.2.2.2.2.2.1, u_7.2.2.2.2.2.2.2.2.1, u_7.2.2.2.2.2.2.2.2.2.1, u_7.2.2.2.2.2.2.2.2.2.2.1, u_7.2.2.2.2.2.2.2.2.2.2.2.1, u_7.2.2.2.2.2.2.2.2.2.2.2.2.1, u_7.2.2.2.2.2.2.2.2.2.2.2.2.2.1, u_7.2.2.2.2.2.2.2.2.2.2.2.2.2.2.1, u_7.2.2.2.2.2.2.2.2.2.2.2.2.2.2.2.1, u_7.2.2.2.2.2.2.2.2.2.2.2.2.2.2.2.2)) (c_X7_goesFor l E a0 a1 a2 a3 a4 a5 a6 a7 a8 a9 a10 x2 ((upd (upd u_7.1 3 (u_7.2.2.1 3)) 4 (u_7.2.2.1 4)), u_7.2.1, u_7.2.2.1, u_7.2.2.2.1, u_7.2.2.2.2.1, u_7.2.2.2.2.2.1, u_7.2.2.2.2.2.2.1, u_7.2.2.2.2.2.2.2.1, u_7.2.2.2.2.2.2.2.2.1, u_7.2.2.2.2.2.2.2.2.2.1, u_7.2.2.2.2.2.2.2.2.2.2.1, u_7.2.2.2.2.2.2.2.2.2.2.2.1, u_7.2.2.2.2.2.2.2.2.2.2.2.2.1, u_7.2.2.2.2.2.2.2.2.2.2.2.2.2.1, u_7.2.2.2.2.2.2.2.2.2.2.2.2.2.2.1, u_7.2.2.2.2.2.2.2.2.2.2.2.2.2.2.2.1, u_7.2.2.2.2.2.2.2.2.2.2.2.2.2.2.2.2) u_8 hu_8) (cwV 1 hts gX7_rest_X7_goesFor rfl rfl rfl (by decide +kernel) ⟨(Nat.le_of_ble_eq_true rfl), (Nat.le_of_ble_eq_true rfl)⟩) (va_recv hK hP (ci := 5) (q0 := 0) rfl rfl) rfl hl.1 rfl rfl (Nat.le_of_ble_eq_true rfl) dX7_rest_90 ⟨Nat.zero_le _, Nat.zero_le _⟩ (fun H locs hP hS => ?_)
        have hP : va_P E.1 vwCl (pv_wM E a0 a1 a2 a3 a4 a5 a6 a7 a8 a9 a10 u_8) H := hP
        refine lv_aload_n (pc := 93) hx hb dX7_rest_93 rfl (lv_at hl 0 rfl) ?_
        refine lv_iload_n (pc := 94) hx hb dX7_rest_94 rfl (lv_at hl 1 rfl) ?_
        obtain ⟨u_9, hu_9, hq⟩ := pv_bind hq
        refine pv_vROf (pc := 95) (rest := []) (st1 := [.int u_9]) (ws := pv_wM E a0 a1 a2 a3 a4 a5 a6 a7 a8 a9 a10 u_8) [.int x1] ⟨hx, hb, hml, hown, hts⟩ hE hA hS hP (hD u_8) (c_X7_landsOf l E a0 a1 a2 a3 a4 a5 a6 a7 a8 a9 a10 x1 u_8 u_9 hu_9) (cwV 1 hts gX7_rest_X7_landsOf rfl rfl rfl (by decide +kernel) ⟨(Nat.le_of_ble_eq_true rfl), (Nat.le_of_ble_eq_true rfl)⟩) (va_recv hK hP (ci := 5) (q0 := 0) rfl rfl) rfl hl.1 rfl rfl (Nat.le_of_ble_eq_true rfl) dX7_rest_95 ⟨Nat.zero_le _, Nat.zero_le _⟩ (fun locs hS => ?_)
        obtain ⟨u_10, hu_10, hq⟩ := pv_bind hq
        refine pv_sRO (pc := 98) (rest := []) (st1 := [.int u_10]) (ws := pv_wM E a0 a1 a2 a3 a4 a5 a6 a7 a8 a9 a10 u_8) [.int u_9] ⟨hx, hb, hml, hown, hts⟩ hE hA hS hP (hD u_8) (c_X7_bits l E u_9 u_10 hu_10) (va_cwS 1 hts gX7_rest_X7_bits rfl rfl rfl (by decide +kernel) ⟨(Nat.le_of_ble_eq_true rfl), (Nat.le_of_ble_eq_true rfl)⟩) [] rfl rfl rfl hl.1 rfl rfl (Nat.le_of_ble_eq_true rfl) dX7_rest_98 ⟨Nat.zero_le _, Nat.zero_le _⟩ (fun locs hS => ?_)
        refine lv_istore (pc := 101) (lv' := [(6, .int u_10), (0, .ref a0), (1, .int x1), (2, .int x2), (3, .int x3), (4, .int x4), (5, .int x5)]) hx hb dX7_rest_101 hl (Nat.le_of_ble_eq_true rfl) rfl (fun ls hl => ?_)
        refine lv_aload_n (pc := 103) hx hb dX7_rest_103 rfl (lv_at hl 1 rfl) ?_
        obtain ⟨u_11, hu_11, hq⟩ := pv_bind hq
        refine pv_vRWf (pc := 104) (rest := []) (st1 := []) (ws := pv_wM E a0 a1 a2 a3 a4 a5 a6 a7 a8 a9 a10 u_8) [] ⟨hx, hb, hml, hown, hts⟩ hE hA hS hP (hD u_8) (c_X7_putsBack l E a0 a1 a2 a3 a4 a5 a6 a7 a8 a9 a10 u_8 u_11 hu_11) (cwV 0 hts gX7_rest_X7_putsBack rfl rfl rfl (by decide +kernel) ⟨(Nat.le_of_ble_eq_true rfl), (Nat.le_of_ble_eq_true rfl)⟩) (va_recv hK hP (ci := 5) (q0 := 0) rfl rfl) rfl hl.1 rfl rfl (Nat.le_of_ble_eq_true rfl) dX7_rest_104 ⟨Nat.zero_le _, Nat.zero_le _⟩ (fun H locs hP hS => ?_)
        have hP : va_P E.1 vwCl (pv_wM E a0 a1 a2 a3 a4 a5 a6 a7 a8 a9 a10 u_11) H := hP
        refine lv_iload (pc := 107) hx hb dX7_rest_107 (lv_at hl 0 rfl) ?_
        refine lv_iload (pc := 109) hx hb dX7_rest_109 (lv_at hl 5 rfl) ?_
        refine lv_icmp_le (pc := 111) (tgt := 119) hx hb dX7_rest_111 (by decide) (fun c_12 => ?_) (fun c_12 => ?_)
        · have hq := pv_pos c_12 hq
          refine lv_iload_n (pc := 119) hx hb dX7_rest_119 rfl (lv_at hl 4 rfl) ?_
          exact B_120 (m_X7_rest_37 n) ih x1 x2 x4 x5 u_10 x3 u_11 H locs ls hP hS (lv_sub hl [1, 2, 3, 5, 6, 0] rfl) hq
        · have hq := pv_neg c_12 hq
          refine lv_iload (pc := 114) hx hb dX7_rest_114 (lv_at hl 6 rfl) ?_
          refine lv_goto (pc := 116) (tgt := 120) hx hb dX7_rest_116 (by decide) ?_
          exact B_120 (m_X7_rest_37 n) ih x1 x2 x4 x5 u_10 x5 u_11 H locs ls hP hS (lv_sub hl [1, 2, 3, 5, 6, 0] rfl) hq
  suffices M0 : ∀ (H : Heap) (locs : List Loc), va_P E.1 vwCl (pv_wM E a0 a1 a2 a3 a4 a5 a6 a7 a8 a9 a10 w0) H → va_S A s.heap H locs → W p l e r_X7_rest s m args below meth c H locs 0 0 (MQ below (pv_Rw E (pv_wM E a0 a1 a2 a3 a4 a5 a6 a7 a8 a9 a10 w0) sz (some (.int F.1)) ((fun w : pv_MT => pv_wM E a0 a1 a2 a3 a4 a5 a6 a7 a8 a9 a10 w) F.2)) args s 0 0 A) (F0 m 0 ls []) from M0 s.heap [] hP hS
  intro H locs hP hS
  refine lv_iload_n (pc := 0) hx hb dX7_rest_0 rfl (lv_at hl 1 rfl) ?_
  obtain ⟨u_1, hu_1, hq⟩ := pv_bind hq
  refine pv_sRO (pc := 1) (rest := []) (st1 := [.int u_1]) (ws := pv_wM E a0 a1 a2 a3 a4 a5 a6 a7 a8 a9 a10 w0) [.int x1] ⟨hx, hb, hml, hown, hts⟩ hE hA hS hP (hD w0) (c_X7_isState l E x1 u_1 hu_1) (va_cwS 1 hts gX7_rest_X7_isState rfl rfl rfl (by decide +kernel) ⟨(Nat.le_of_ble_eq_true rfl), (Nat.le_of_ble_eq_true rfl)⟩) [] rfl rfl rfl hl.1 rfl rfl (Nat.le_of_ble_eq_true rfl) dX7_rest_1 ⟨Nat.zero_le _, Nat.zero_le _⟩ (fun locs hS => ?_)
  refine lv_if_eq (pc := 4) (tgt := 18) hx hb dX7_rest_4 (by decide) (fun c_2 => ?_) (fun c_2 => ?_)
  · have hq := pv_pos c_2 hq
    exact B_18 w0 H locs ls hP hS (lv_sub hl [0] rfl) hq
  · have hq := pv_neg c_2 hq
    refine lv_iload_n (pc := 7) hx hb dX7_rest_7 rfl (lv_at hl 2 rfl) ?_
    refine lv_i2l (pc := 8) (v := x2.toInt64) hx hb dX7_rest_8 rfl ?_
    refine lv_iconst (pc := 9) (v := 1) hx hb dX7_rest_9 (by decide) ?_
    refine lv_bipush (pc := 10) (v := 30) hx hb dX7_rest_10 (by decide) ?_
    refine pv_sRO (pc := 12) (rest := []) (st1 := [.int (m_X7_in x2.toInt64 1 30)]) (ws := pv_wM E a0 a1 a2 a3 a4 a5 a6 a7 a8 a9 a10 w0) [.long x2.toInt64, .int 1, .int 30] ⟨hx, hb, hml, hown, hts⟩ hE hA hS hP (hD w0) (c_X7_in l E x2.toInt64 1 30) (va_cwS 3 hts gX7_rest_X7_in rfl rfl rfl (by decide +kernel) ⟨(Nat.le_of_ble_eq_true rfl), (Nat.le_of_ble_eq_true rfl)⟩) [] rfl rfl rfl hl.1 rfl rfl (Nat.le_of_ble_eq_true rfl) dX7_rest_12 ⟨Nat.zero_le _, Nat.zero_le _⟩ (fun locs hS => ?_)
    refine lv_if_ne (pc := 15) (tgt := 25) hx hb dX7_rest_15 (by decide) (fun c_4 => ?_) (fun c_4 => ?_)
    · have hq := pv_neg c_4 hq
      refine lv_aload_n (pc := 25) hx hb dX7_rest_25 rfl (lv_at hl 0 rfl) ?_
      obtain ⟨u_5, hu_5, hq⟩ := pv_bind hq
      refine pv_vRWf (pc := 26) (rest := []) (st1 := []) (ws := pv_wM E a0 a1 a2 a3 a4 a5 a6 a7 a8 a9 a10 w0) [] ⟨hx, hb, hml, hown, hts⟩ hE hA hS hP (hD w0) (c_X7_thinks l E a0 a1 a2 a3 a4 a5 a6 a7 a8 a9 a10 w0 u_5 hu_5) (cwV 0 hts gX7_rest_X7_thinks rfl rfl rfl (by decide +kernel) ⟨(Nat.le_of_ble_eq_true rfl), (Nat.le_of_ble_eq_true rfl)⟩) (va_recv hK hP (ci := 5) (q0 := 0) rfl rfl) rfl hl.1 rfl rfl (Nat.le_of_ble_eq_true rfl) dX7_rest_26 ⟨Nat.zero_le _, Nat.zero_le _⟩ (fun H locs hP hS => ?_)
      have hP : va_P E.1 vwCl (pv_wM E a0 a1 a2 a3 a4 a5 a6 a7 a8 a9 a10 u_5) H := hP
      refine lv_iconst (pc := 29) (v := 0) hx hb dX7_rest_29 (by decide) ?_
      refine lv_istore_n (pc := 30) (lv' := [(3, .int 0), (0, .ref a0), (1, .int x1), (2, .int x2)]) hx hb dX7_rest_30 rfl hl (Nat.le_of_ble_eq_true rfl) rfl (fun ls hl => ?_)
      refine lv_iconst (pc := 31) (v := (-1)) hx hb dX7_rest_31 (by decide) ?_
      refine lv_istore (pc := 32) (lv' := [(4, .int (-1)), (3, .int 0), (0, .ref a0), (1, .int x1), (2, .int x2)]) hx hb dX7_rest_32 hl (Nat.le_of_ble_eq_true rfl) rfl (fun ls hl => ?_)
      refine lv_iconst (pc := 34) (v := 0) hx hb dX7_rest_34 (by decide) ?_
      refine lv_istore (pc := 35) (lv' := [(5, .int 0), (4, .int (-1)), (3, .int 0), (0, .ref a0), (1, .int x1), (2, .int x2)]) hx hb dX7_rest_35 hl (Nat.le_of_ble_eq_true rfl) rfl (fun ls hl => ?_)
      exact L_37 300 x1 x2 0 (-1) 0 u_5 H locs ls hP hS (lv_sub hl [3, 4, 5, 2, 1, 0] rfl) hq
    · have hq := pv_pos c_4 hq
      exact B_18 w0 H locs ls hP hS (lv_sub hl [0] rfl) hq
def m_X7_champion_65 (k_31 : Int32 → Int32 → pv_MT → Option (Int32 × pv_MT)) (x3 : Int32) (y0 : Int32) (w : pv_MT) : Option (Int32 × pv_MT) :=
  k_31 y0 (x3 + 1) w
def m_X7_champion_60 (k_31 : Int32 → Int32 → pv_MT → Option (Int32 × pv_MT)) (x3 : Int32) (w : pv_MT) : Option (Int32 × pv_MT) :=
  m_X7_champion_65 k_31 x3 x3 w
def m_X7_champion_31 : Nat → Int32 → Int32 → pv_MT → Option (Int32 × pv_MT)
  | 0 => fun _ _ _ => none
  | n + 1 => fun x2 x3 w =>
    if (w.1 2) ≤ x3 then (Option.bind (m_X7_putsBack w) fun u_5 => (Option.bind (m_X7_orNone x2 u_5) fun u_6 => (some (u_6.1, u_6.2)))) else (if x2 < 0 then (m_X7_champion_60 (m_X7_champion_31 n) x3 w) else (Option.bind (m_X7_it x3 1 w) fun u_8 => (Option.bind (m_X7_it x2 1 w) fun u_9 => (if u_8 ≤ u_9 then (m_X7_champion_65 (m_X7_champion_31 n) x3 x2 w) else (m_X7_champion_60 (m_X7_champion_31 n) x3 w)))))
def m_X7_champion (x1 : Int32) (w : pv_MT) : Option (Int32 × pv_MT) :=
  if (m_X7_in x1.toInt64 0 100) = 0 then (Option.bind (m_X7_finds (-1000000001) w) fun u_11 => (some (u_11.1, u_11.2))) else (Option.bind (m_X7_thinks w) fun u_2 => (Option.bind (m_X7_goesFor x1 u_2) fun u_3 => (m_X7_champion_31 300 (-1) 0 u_3)))
abbrev r_X7_champion : Room := { frames := 8, cells := 0, slots := 0, locals := 187 }
set_option maxHeartbeats 4000000 in
set_option maxRecDepth 100000 in
theorem c_X7_champion (l : Launch) (E : pv_E) (a0 a1 a2 a3 a4 a5 a6 a7 a8 a9 a10 : Nat) (x1 : Int32) (w0 : pv_MT) (F : Int32 × pv_MT) (hq : m_X7_champion x1 w0 = some F) : pv_RW l E yX7_champion wsX7_champion r_X7_champion (pv_wM E a0 a1 a2 a3 a4 a5 a6 a7 a8 a9 a10 w0) [.ref a0, .int x1] (some (.int F.1)) (pv_wM E a0 a1 a2 a3 a4 a5 a6 a7 a8 a9 a10 F.2) := by
  intro sz
  refine pv_mk (by decide) rfl (Nat.le_of_ble_eq_true rfl) ?_
  intro p e s m args below meth c A hx hb hr hml hown hts hlk hAe hP hD0 hA hE hS ls hl
  have hown : s.vm.findClass RX7 = some m.cls := hown
  have hK := hE.1
  have hD : ∀ w : pv_MT, va_D A (pv_wM E a0 a1 a2 a3 a4 a5 a6 a7 a8 a9 a10 w) := fun w => pv_Dm (ws := pv_wM E a0 a1 a2 a3 a4 a5 a6 a7 a8 a9 a10 w0) (ws' := pv_wM E a0 a1 a2 a3 a4 a5 a6 a7 a8 a9 a10 w) rfl hD0
  have hP : va_P E.1 vwCl (pv_wM E a0 a1 a2 a3 a4 a5 a6 a7 a8 a9 a10 w0) s.heap := hP
  have fl_9 : (Cond.fieldLink RX7 9 "ProvinceCardsModel" "m" "[I").before args s = true := hts _ (by decide +kernel)
  have lc_41 : (Cond.constant RX7 41 (-1000000001)).before args s = true := hts _ (by decide +kernel)
  have i_RX7 : ∀ w ∈ wsX70, w ∈ wsX7_champion := by decide +kernel
  have hl : lv_has ls 4 [(0, .ref a0), (1, .int x1)] := hl
  have B_65 : ∀ (k_31 : Int32 → Int32 → pv_MT → Option (Int32 × pv_MT)), (∀ (x2 : Int32) (x3 : Int32) (w : pv_MT) (H : Heap) (locs : List Loc) (ls : Array Slot), va_P E.1 vwCl (pv_wM E a0 a1 a2 a3 a4 a5 a6 a7 a8 a9 a10 w) H → va_S A s.heap H locs → lv_has ls 4 [(0, .ref a0), (2, .int x2), (3, .int x3)] → k_31 x2 x3 w = some F → W p l e r_X7_champion s m args below meth c H locs 0 0 (MQ below (pv_Rw E (pv_wM E a0 a1 a2 a3 a4 a5 a6 a7 a8 a9 a10 w0) sz (some (.int F.1)) ((fun w : pv_MT => pv_wM E a0 a1 a2 a3 a4 a5 a6 a7 a8 a9 a10 w) F.2)) args s 0 0 A) (F0 m 31 ls [])) → ∀ (x3 : Int32) (y0 : Int32) (w : pv_MT) (H : Heap) (locs : List Loc) (ls : Array Slot), va_P E.1 vwCl (pv_wM E a0 a1 a2 a3 a4 a5 a6 a7 a8 a9 a10 w) H → va_S A s.heap H locs → lv_has ls 4 [(0, .ref a0), (3, .int x3)] → m_X7_champion_65 k_31 x3 y0 w = some F → W p l e r_X7_champion s m args below meth c H locs 0 0 (MQ below (pv_Rw E (pv_wM E a0 a1 a2 a3 a4 a5 a6 a7 a8 a9 a10 w0) sz (some (.int F.1)) ((fun w : pv_MT => pv_wM E a0 a1 a2 a3 a4 a5 a6 a7 a8 a9 a10 w) F.2)) args s 0 0 A) (F0 m 65 ls [.int y0]) := by
    intro k_31 hk_31
    intro x3 y0 w H locs ls hP hS hl hq
    refine lv_istore_n (pc := 65) (lv' := [(2, .int y0), (0, .ref a0), (3, .int x3)]) hx hb dX7_champion_65 rfl hl (Nat.le_of_ble_eq_true rfl) rfl (fun ls hl => ?_)
    refine lv_iinc (pc := 66) (v := (x3 + 1)) (lv' := [(3, .int (x3 + 1)), (2, .int y0), (0, .ref a0)]) hx hb dX7_champion_66 hl (k := 2) rfl rfl (Nat.le_of_ble_eq_true rfl) rfl (fun ls hl => ?_)
    refine lv_goto (pc := 69) (tgt := 31) hx hb dX7_champion_69 (by decide) ?_
    exact hk_31 y0 (x3 + 1) w H locs ls hP hS (lv_sub hl [2, 1, 0] rfl) hq
  have B_60 : ∀ (k_31 : Int32 → Int32 → pv_MT → Option (Int32 × pv_MT)), (∀ (x2 : Int32) (x3 : Int32) (w : pv_MT) (H : Heap) (locs : List Loc) (ls : Array Slot), va_P E.1 vwCl (pv_wM E a0 a1 a2 a3 a4 a5 a6 a7 a8 a9 a10 w) H → va_S A s.heap H locs → lv_has ls 4 [(0, .ref a0), (2, .int x2), (3, .int x3)] → k_31 x2 x3 w = some F → W p l e r_X7_champion s m args below meth c H locs 0 0 (MQ below (pv_Rw E (pv_wM E a0 a1 a2 a3 a4 a5 a6 a7 a8 a9 a10 w0) sz (some (.int F.1)) ((fun w : pv_MT => pv_wM E a0 a1 a2 a3 a4 a5 a6 a7 a8 a9 a10 w) F.2)) args s 0 0 A) (F0 m 31 ls [])) → ∀ (x3 : Int32) (w : pv_MT) (H : Heap) (locs : List Loc) (ls : Array Slot), va_P E.1 vwCl (pv_wM E a0 a1 a2 a3 a4 a5 a6 a7 a8 a9 a10 w) H → va_S A s.heap H locs → lv_has ls 4 [(0, .ref a0), (3, .int x3)] → m_X7_champion_60 k_31 x3 w = some F → W p l e r_X7_champion s m args below meth c H locs 0 0 (MQ below (pv_Rw E (pv_wM E a0 a1 a2 a3 a4 a5 a6 a7 a8 a9 a10 w0) sz (some (.int F.1)) ((fun w : pv_MT => pv_wM E a0 a1 a2 a3 a4 a5 a6 a7 a8 a9 a10 w) F.2)) args s 0 0 A) (F0 m 60 ls []) := by
    intro k_31 hk_31
    intro x3 w H locs ls hP hS hl hq
    refine lv_iload_n (pc := 60) hx hb dX7_champion_60 rfl (lv_at hl 1 rfl) ?_
    refine lv_goto (pc := 61) (tgt := 65) hx hb dX7_champion_61 (by decide) ?_
    exact B_65 k_31 hk_31 x3 x3 w H locs ls hP hS (lv_sub hl [0, 1] rfl) hq
  have L_31 : ∀ n : Nat, ∀ (x2 : Int32) (x3 : Int32) (w : pv_MT) (H : Heap) (locs : List Loc) (ls : Array Slot), va_P E.1 vwCl (pv_wM E a0 a1 a2 a3 a4 a5 a6 a7 a8 a9 a10 w) H → va_S A s.heap H locs → lv_has ls 4 [(0, .ref a0), (2, .int x2), (3, .int x3)] → m_X7_champion_31 n x2 x3 w = some F → W p l e r_X7_champion s m args below meth c H locs 0 0 (MQ below (pv_Rw E (pv_wM E a0 a1 a2 a3 a4 a5 a6 a7 a8 a9 a10 w0) sz (some (.int F.1)) ((fun w : pv_MT => pv_wM E a0 a1 a2 a3 a4 a5 a6 a7 a8 a9 a10 w) F.2)) args s 0 0 A) (F0 m 31 ls []) := by
    intro n
    induction n with
    | zero =>
      intro x2 x3 w H locs ls hP hS hl hq
      exact (pv_no hq).elim
    | succ n ih =>
      intro x2 x3 w H locs ls hP hS hl hq
      refine lv_iload_n (pc := 31) hx hb dX7_champion_31 rfl (lv_at hl 2 rfl) ?_
      refine lv_aload_n (pc := 32) hx hb dX7_champion_32 rfl (lv_at hl 0 rfl) ?_
      refine va_get (pc := 33) (D := E.1) (ci := 5) (v := .ref a1) (C := RX7) (T := TX7) (N := 17) hx hb hts i_RX7 hown hK hP 0 rfl rfl 0 (Nat.le_of_ble_eq_true rfl) fl_9 (fun _ h9 => h9) rfl dX7_champion_33 ?_
      refine lv_iconst (pc := 36) (v := 2) hx hb dX7_champion_36 (by decide) ?_
      refine va_iald (pc := 37) (D := E.1) hx hb hK hP 1 0 rfl rfl (by decide : ¬ ((2 : Int32) < 0 ∨ 31 ≤ (2 : Int32).toNatClampNeg)) dX7_champion_37 ?_
      refine W.eq (g2 := F0 m 38 ls [.int (w.1 2), .int x3]) rfl ?_
      refine lv_icmp_ge (pc := 38) (tgt := 72) hx hb dX7_champion_38 (by decide) (fun c_4 => ?_) (fun c_4 => ?_)
      · have hq := pv_pos c_4 hq
        refine lv_aload_n (pc := 72) hx hb dX7_champion_72 rfl (lv_at hl 0 rfl) ?_
        obtain ⟨u_5, hu_5, hq⟩ := pv_bind hq
        refine pv_vRWf (pc := 73) (rest := []) (st1 := []) (ws := pv_wM E a0 a1 a2 a3 a4 a5 a6 a7 a8 a9 a10 w) [] ⟨hx, hb, hml, hown, hts⟩ hE hA hS hP (hD w) (c_X7_putsBack l E a0 a1 a2 a3 a4 a5 a6 a7 a8 a9 a10 w u_5 hu_5) (cwV 0 hts gX7_champion_X7_putsBack rfl rfl rfl (by decide +kernel) ⟨(Nat.le_of_ble_eq_true rfl), (Nat.le_of_ble_eq_true rfl)⟩) (va_recv hK hP (ci := 5) (q0 := 0) rfl rfl) rfl hl.1 rfl rfl (Nat.le_of_ble_eq_true rfl) dX7_champion_73 ⟨Nat.zero_le _, Nat.zero_le _⟩ (fun H locs hP hS => ?_)
        have hP : va_P E.1 vwCl (pv_wM E a0 a1 a2 a3 a4 a5 a6 a7 a8 a9 a10 u_5) H := hP
        refine lv_aload_n (pc := 76) hx hb dX7_champion_76 rfl (lv_at hl 0 rfl) ?_
        refine lv_iload_n (pc := 77) hx hb dX7_champion_77 rfl (lv_at hl 1 rfl) ?_
        obtain ⟨u_6, hu_6, hq⟩ := pv_bind hq
        refine pv_vRWf (pc := 78) (rest := []) (st1 := [.int u_6.1]) (ws := pv_wM E a0 a1 a2 a3 a4 a5 a6 a7 a8 a9 a10 u_5) [.int x2] ⟨hx, hb, hml, hown, hts⟩ hE hA hS hP (hD u_5) (c_X7_orNone l E a0 a1 a2 a3 a4 a5 a6 a7 a8 a9 a10 x2 u_5 u_6 hu_6) (cwV 1 hts gX7_champion_X7_orNone rfl rfl rfl (by decide +kernel) ⟨(Nat.le_of_ble_eq_true rfl), (Nat.le_of_ble_eq_true rfl)⟩) (va_recv hK hP (ci := 5) (q0 := 0) rfl rfl) rfl hl.1 rfl rfl (Nat.le_of_ble_eq_true rfl) dX7_champion_78 ⟨Nat.zero_le _, Nat.zero_le _⟩ (fun H locs hP hS => ?_)
        have hP : va_P E.1 vwCl (pv_wM E a0 a1 a2 a3 a4 a5 a6 a7 a8 a9 a10 u_6.2) H := hP
        exact pv_riRW (w := fun w : pv_MT => pv_wM E a0 a1 a2 a3 a4 a5 a6 a7 a8 a9 a10 w) hx hb hr hlk hAe hS hP (Option.some.inj hq) dX7_champion_81
      · have hq := pv_neg c_4 hq
        refine lv_iload_n (pc := 41) hx hb dX7_champion_41 rfl (lv_at hl 1 rfl) ?_
        refine lv_if_lt (pc := 42) (tgt := 60) hx hb dX7_champion_42 (by decide) (fun c_7 => ?_) (fun c_7 => ?_)
        · have hq := pv_pos c_7 hq
          exact B_60 (m_X7_champion_31 n) ih x3 w H locs ls hP hS (lv_sub hl [0, 2] rfl) hq
        · have hq := pv_neg c_7 hq
          refine lv_aload_n (pc := 45) hx hb dX7_champion_45 rfl (lv_at hl 0 rfl) ?_
          refine lv_iload_n (pc := 46) hx hb dX7_champion_46 rfl (lv_at hl 2 rfl) ?_
          refine lv_iconst (pc := 47) (v := 1) hx hb dX7_champion_47 (by decide) ?_
          obtain ⟨u_8, hu_8, hq⟩ := pv_bind hq
          refine pv_vROf (pc := 48) (rest := []) (st1 := [.int u_8]) (ws := pv_wM E a0 a1 a2 a3 a4 a5 a6 a7 a8 a9 a10 w) [.int x3, .int 1] ⟨hx, hb, hml, hown, hts⟩ hE hA hS hP (hD w) (c_X7_it l E a0 a1 a2 a3 a4 a5 a6 a7 a8 a9 a10 x3 1 w u_8 hu_8) (cwV 2 hts gX7_champion_X7_it rfl rfl rfl (by decide +kernel) ⟨(Nat.le_of_ble_eq_true rfl), (Nat.le_of_ble_eq_true rfl)⟩) (va_recv hK hP (ci := 5) (q0 := 0) rfl rfl) rfl hl.1 rfl rfl (Nat.le_of_ble_eq_true rfl) dX7_champion_48 ⟨Nat.zero_le _, Nat.zero_le _⟩ (fun locs hS => ?_)
          refine lv_aload_n (pc := 51) hx hb dX7_champion_51 rfl (lv_at hl 0 rfl) ?_
          refine lv_iload_n (pc := 52) hx hb dX7_champion_52 rfl (lv_at hl 1 rfl) ?_
          refine lv_iconst (pc := 53) (v := 1) hx hb dX7_champion_53 (by decide) ?_
          obtain ⟨u_9, hu_9, hq⟩ := pv_bind hq
          refine pv_vROf (pc := 54) (rest := [.int u_8]) (st1 := [.int u_9, .int u_8]) (ws := pv_wM E a0 a1 a2 a3 a4 a5 a6 a7 a8 a9 a10 w) [.int x2, .int 1] ⟨hx, hb, hml, hown, hts⟩ hE hA hS hP (hD w) (c_X7_it l E a0 a1 a2 a3 a4 a5 a6 a7 a8 a9 a10 x2 1 w u_9 hu_9) (cwV 2 hts gX7_champion_X7_it rfl rfl rfl (by decide +kernel) ⟨(Nat.le_of_ble_eq_true rfl), (Nat.le_of_ble_eq_true rfl)⟩) (va_recv hK hP (ci := 5) (q0 := 0) rfl rfl) rfl hl.1 rfl rfl (Nat.le_of_ble_eq_true rfl) dX7_champion_54 ⟨Nat.zero_le _, Nat.zero_le _⟩ (fun locs hS => ?_)
          refine lv_icmp_le (pc := 57) (tgt := 64) hx hb dX7_champion_57 (by decide) (fun c_10 => ?_) (fun c_10 => ?_)
          · have hq := pv_pos c_10 hq
            refine lv_iload_n (pc := 64) hx hb dX7_champion_64 rfl (lv_at hl 1 rfl) ?_
            exact B_65 (m_X7_champion_31 n) ih x3 x2 w H locs ls hP hS (lv_sub hl [0, 2] rfl) hq
          · have hq := pv_neg c_10 hq
            exact B_60 (m_X7_champion_31 n) ih x3 w H locs ls hP hS (lv_sub hl [0, 2] rfl) hq
  suffices M0 : ∀ (H : Heap) (locs : List Loc), va_P E.1 vwCl (pv_wM E a0 a1 a2 a3 a4 a5 a6 a7 a8 a9 a10 w0) H → va_S A s.heap H locs → W p l e r_X7_champion s m args below meth c H locs 0 0 (MQ below (pv_Rw E (pv_wM E a0 a1 a2 a3 a4 a5 a6 a7 a8 a9 a10 w0) sz (some (.int F.1)) ((fun w : pv_MT => pv_wM E a0 a1 a2 a3 a4 a5 a6 a7 a8 a9 a10 w) F.2)) args s 0 0 A) (F0 m 0 ls []) from M0 s.heap [] hP hS
  intro H locs hP hS
  refine lv_iload_n (pc := 0) hx hb dX7_champion_0 rfl (lv_at hl 1 rfl) ?_
  refine lv_i2l (pc := 1) (v := x1.toInt64) hx hb dX7_champion_1 rfl ?_
  refine lv_iconst (pc := 2) (v := 0) hx hb dX7_champion_2 (by decide) ?_
  refine lv_bipush (pc := 3) (v := 100) hx hb dX7_champion_3 (by decide) ?_
  refine pv_sRO (pc := 5) (rest := []) (st1 := [.int (m_X7_in x1.toInt64 0 100)]) (ws := pv_wM E a0 a1 a2 a3 a4 a5 a6 a7 a8 a9 a10 w0) [.long x1.toInt64, .int 0, .int 100] ⟨hx, hb, hml, hown, hts⟩ hE hA hS hP (hD w0) (c_X7_in l E x1.toInt64 0 100) (va_cwS 3 hts gX7_champion_X7_in rfl rfl rfl (by decide +kernel) ⟨(Nat.le_of_ble_eq_true rfl), (Nat.le_of_ble_eq_true rfl)⟩) [] rfl rfl rfl hl.1 rfl rfl (Nat.le_of_ble_eq_true rfl) dX7_champion_5 ⟨Nat.zero_le _, Nat.zero_le _⟩ (fun locs hS => ?_)
  refine lv_if_ne (pc := 8) (tgt := 18) hx hb dX7_champion_8 (by decide) (fun c_1 => ?_) (fun c_1 => ?_)
  · have hq := pv_neg c_1 hq
    refine lv_aload_n (pc := 18) hx hb dX7_champion_18 rfl (lv_at hl 0 rfl) ?_
    obtain ⟨u_2, hu_2, hq⟩ := pv_bind hq
    refine pv_vRWf (pc := 19) (rest := []) (st1 := []) (ws := pv_wM E a0 a1 a2 a3 a4 a5 a6 a7 a8 a9 a10 w0) [] ⟨hx, hb, hml, hown, hts⟩ hE hA hS hP (hD w0) (c_X7_thinks l E a0 a1 a2 a3 a4 a5 a6 a7 a8 a9 a10 w0 u_2 hu_2) (cwV 0 hts gX7_champion_X7_thinks rfl rfl rfl (by decide +kernel) ⟨(Nat.le_of_ble_eq_true rfl), (Nat.le_of_ble_eq_true rfl)⟩) (va_recv hK hP (ci := 5) (q0 := 0) rfl rfl) rfl hl.1 rfl rfl (Nat.le_of_ble_eq_true rfl) dX7_champion_19 ⟨Nat.zero_le _, Nat.zero_le _⟩ (fun H locs hP hS => ?_)
    have hP : va_P E.1 vwCl (pv_wM E a0 a1 a2 a3 a4 a5 a6 a7 a8 a9 a10 u_2) H := hP
    refine lv_aload_n (pc := 22) hx hb dX7_champion_22 rfl (lv_at hl 0 rfl) ?_
    refine lv_iload_n (pc := 23) hx hb dX7_champion_23 rfl (lv_at hl 1 rfl) ?_
    obtain ⟨u_3, hu_3, hq⟩ := pv_bind hq
    refine pv_vRWf (pc := 24) (rest := []) (st1 := []) (ws := pv_wM E a0 a1 a2 a3 a4 a5 a6 a7 a8 a9 a10 u_2) [.int x1] ⟨hx, hb, hml, hown, hts⟩ hE hA hS hP (hD u_2) (c_X7_goesFor l E a0 a1 a2 a3 a4 a5 a6 a7 a8 a9 a10 x1 u_2 u_3 hu_3) (cwV 1 hts gX7_champion_X7_goesFor rfl rfl rfl (by decide +kernel) ⟨(Nat.le_of_ble_eq_true rfl), (Nat.le_of_ble_eq_true rfl)⟩) (va_recv hK hP (ci := 5) (q0 := 0) rfl rfl) rfl hl.1 rfl rfl (Nat.le_of_ble_eq_true rfl) dX7_champion_24 ⟨Nat.zero_le _, Nat.zero_le _⟩ (fun H locs hP hS => ?_)
    have hP : va_P E.1 vwCl (pv_wM E a0 a1 a2 a3 a4 a5 a6 a7 a8 a9 a10 u_3) H := hP
    refine lv_iconst (pc := 27) (v := (-1)) hx hb dX7_champion_27 (by decide) ?_
    refine lv_istore_n (pc := 28) (lv' := [(2, .int (-1)), (0, .ref a0), (1, .int x1)]) hx hb dX7_champion_28 rfl hl (Nat.le_of_ble_eq_true rfl) rfl (fun ls hl => ?_)
    refine lv_iconst (pc := 29) (v := 0) hx hb dX7_champion_29 (by decide) ?_
    refine lv_istore_n (pc := 30) (lv' := [(3, .int 0), (2, .int (-1)), (0, .ref a0), (1, .int x1)]) hx hb dX7_champion_30 rfl hl (Nat.le_of_ble_eq_true rfl) rfl (fun ls hl => ?_)
    exact L_31 300 (-1) 0 u_3 H locs ls hP hS (lv_sub hl [2, 1, 0] rfl) hq
  · have hq := pv_pos c_1 hq
    refine lv_aload_n (pc := 11) hx hb dX7_champion_11 rfl (lv_at hl 0 rfl) ?_
    refine lv_ldc (pc := 12) hx hb hown lc_41 dX7_champion_12 ?_
    obtain ⟨u_11, hu_11, hq⟩ := pv_bind hq
    refine pv_vRWf (pc := 14) (rest := []) (st1 := [.int u_11.1]) (ws := pv_wM E a0 a1 a2 a3 a4 a5 a6 a7 a8 a9 a10 w0) [.int (-1000000001)] ⟨hx, hb, hml, hown, hts⟩ hE hA hS hP (hD w0) (c_X7_finds l E a0 a1 a2 a3 a4 a5 a6 a7 a8 a9 a10 (-1000000001) w0 u_11 hu_11) (cwV 1 hts gX7_champion_X7_finds rfl rfl rfl (by decide +kernel) ⟨(Nat.le_of_ble_eq_true rfl), (Nat.le_of_ble_eq_true rfl)⟩) (va_recv hK hP (ci := 5) (q0 := 0) rfl rfl) rfl hl.1 rfl rfl (Nat.le_of_ble_eq_true rfl) dX7_champion_14 ⟨Nat.zero_le _, Nat.zero_le _⟩ (fun H locs hP hS => ?_)
    have hP : va_P E.1 vwCl (pv_wM E a0 a1 a2 a3 a4 a5 a6 a7 a8 a9 a10 u_11.2) H := hP
    exact pv_riRW (w := fun w : pv_MT => pv_wM E a0 a1 a2 a3 a4 a5 a6 a7 a8 a9 a10 w) hx hb hr hlk hAe hS hP (Option.some.inj hq) dX7_champion_17
