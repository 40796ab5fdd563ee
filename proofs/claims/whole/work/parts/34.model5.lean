def m_X7_sheet_29  (w : pv_MT) : Option (Int32 × pv_MT) :=
  Option.bind (m_X7_finds (-1000000001) w) fun u_3 => (some (u_3.1, u_3.2))
def m_X7_sheet_85 : Nat → Int32 → Int32 → pv_MT → Option (Int32 × pv_MT)
  | 0 => fun _ _ _ => none
  | n + 1 => fun x1 x4 w =>
    if 40 ≤ x4 then (pv_gd x1 4 (some ((w.2.2.2.2.2.2.2.2.2.2.2.2.2.2.2.1 x1.toNatClampNeg), w))) else (pv_gd ((40 * x1) + x4) 160 ((m_X7_sheet_85 n) x1 (x4 + 1) (w.1, w.2.1, w.2.2.1, w.2.2.2.1, w.2.2.2.2.1, w.2.2.2.2.2.1, w.2.2.2.2.2.2.1, w.2.2.2.2.2.2.2.1, w.2.2.2.2.2.2.2.2.1, w.2.2.2.2.2.2.2.2.2.1, w.2.2.2.2.2.2.2.2.2.2.1, w.2.2.2.2.2.2.2.2.2.2.2.1, w.2.2.2.2.2.2.2.2.2.2.2.2.1, w.2.2.2.2.2.2.2.2.2.2.2.2.2.1, w.2.2.2.2.2.2.2.2.2.2.2.2.2.2.1, w.2.2.2.2.2.2.2.2.2.2.2.2.2.2.2.1, (vp_updL w.2.2.2.2.2.2.2.2.2.2.2.2.2.2.2.2 ((40 * x1) + x4).toNatClampNeg 0))))
def m_X7_sheet_81 (x1 : Int32) (y1 : Int32) (y2 : Int32) (w : pv_MT) : Option (Int32 × pv_MT) :=
  pv_gd y1 4 (m_X7_sheet_85 300 x1 0 (w.1, w.2.1, w.2.2.1, w.2.2.2.1, w.2.2.2.2.1, w.2.2.2.2.2.1, w.2.2.2.2.2.2.1, w.2.2.2.2.2.2.2.1, w.2.2.2.2.2.2.2.2.1, w.2.2.2.2.2.2.2.2.2.1, w.2.2.2.2.2.2.2.2.2.2.1, w.2.2.2.2.2.2.2.2.2.2.2.1, w.2.2.2.2.2.2.2.2.2.2.2.2.1, w.2.2.2.2.2.2.2.2.2.2.2.2.2.1, w.2.2.2.2.2.2.2.2.2.2.2.2.2.2.1, (upd w.2.2.2.2.2.2.2.2.2.2.2.2.2.2.2.1 y1.toNatClampNeg y2), w.2.2.2.2.2.2.2.2.2.2.2.2.2.2.2.2))
def m_X7_sheet_36 (x1 : Int32) (x2 : Int32) (x3 : Int32) (w : pv_MT) : Option (Int32 × pv_MT) :=
  if 0 ≤ x3 then (if x3 ≤ 40 then (pv_gd x1 4 (if x2 = 0 then (m_X7_sheet_81 x1 x1 0 (w.1, w.2.1, w.2.2.1, w.2.2.2.1, w.2.2.2.2.1, w.2.2.2.2.2.1, w.2.2.2.2.2.2.1, w.2.2.2.2.2.2.2.1, w.2.2.2.2.2.2.2.2.1, w.2.2.2.2.2.2.2.2.2.1, w.2.2.2.2.2.2.2.2.2.2.1, w.2.2.2.2.2.2.2.2.2.2.2.1, w.2.2.2.2.2.2.2.2.2.2.2.2.1, w.2.2.2.2.2.2.2.2.2.2.2.2.2.1, (upd w.2.2.2.2.2.2.2.2.2.2.2.2.2.2.1 x1.toNatClampNeg x2), w.2.2.2.2.2.2.2.2.2.2.2.2.2.2.2.1, w.2.2.2.2.2.2.2.2.2.2.2.2.2.2.2.2)) else (m_X7_sheet_81 x1 x1 x3 (w.1, w.2.1, w.2.2.1, w.2.2.2.1, w.2.2.2.2.1, w.2.2.2.2.2.1, w.2.2.2.2.2.2.1, w.2.2.2.2.2.2.2.1, w.2.2.2.2.2.2.2.2.1, w.2.2.2.2.2.2.2.2.2.1, w.2.2.2.2.2.2.2.2.2.2.1, w.2.2.2.2.2.2.2.2.2.2.2.1, w.2.2.2.2.2.2.2.2.2.2.2.2.1, w.2.2.2.2.2.2.2.2.2.2.2.2.2.1, (upd w.2.2.2.2.2.2.2.2.2.2.2.2.2.2.1 x1.toNatClampNeg x2), w.2.2.2.2.2.2.2.2.2.2.2.2.2.2.2.1, w.2.2.2.2.2.2.2.2.2.2.2.2.2.2.2.2)))) else (Option.bind (m_X7_finds (-1000000001) w) fun u_13 => (some (u_13.1, u_13.2)))) else (Option.bind (m_X7_finds (-1000000007) w) fun u_14 => (some (u_14.1, u_14.2)))
def m_X7_sheet (x1 : Int32) (x2 : Int32) (x3 : Int32) (w : pv_MT) : Option (Int32 × pv_MT) :=
  Option.bind (m_X7_isSheet x1) fun u_1 => (if u_1 = 0 then (m_X7_sheet_29 w) else (if x2 = 0 then (m_X7_sheet_36 x1 x2 x3 w) else (if x2 = 8 then (m_X7_sheet_36 x1 x2 x3 w) else (if x2 = 16 then (m_X7_sheet_36 x1 x2 x3 w) else (if x2 = 64 then (m_X7_sheet_36 x1 x2 x3 w) else (m_X7_sheet_29 w))))))
abbrev r_X7_sheet : Room := { frames := 2, cells := 0, slots := 0, locals := 43 }
set_option maxHeartbeats 4000000 in
set_option maxRecDepth 100000 in
theorem c_X7_sheet (l : Launch) (E : pv_E) (a0 a1 a2 a3 a4 a5 a6 a7 a8 a9 a10 : Nat) (x1 : Int32) (x2 : Int32) (x3 : Int32) (w0 : pv_MT) (F : Int32 × pv_MT) (hq : m_X7_sheet x1 x2 x3 w0 = some F) : pv_RW l E yX7_sheet wsX7_sheet r_X7_sheet (pv_wM E a0 a1 a2 a3 a4 a5 a6 a7 a8 a9 a10 w0) [.ref a0, .int x1, .int x2, .int x3] (some (.int F.1)) (pv_wM E a0 a1 a2 a3 a4 a5 a6 a7 a8 a9 a10 F.2) := by
  intro sz
  refine pv_mk (by decide) rfl (Nat.le_of_ble_eq_true rfl) ?_
  intro p e s m args below meth c A hx hb hr hml hown hts hlk hAe hP hD0 hA hE hS ls hl
  have hown : s.vm.findClass RX7 = some m.cls := hown
  have hK := hE.1
  have hD : ∀ w : pv_MT, va_D A (pv_wM E a0 a1 a2 a3 a4 a5 a6 a7 a8 a9 a10 w) := fun w => pv_Dm (ws := pv_wM E a0 a1 a2 a3 a4 a5 a6 a7 a8 a9 a10 w0) (ws' := pv_wM E a0 a1 a2 a3 a4 a5 a6 a7 a8 a9 a10 w) rfl hD0
  have hP : va_P E.1 vwCl (pv_wM E a0 a1 a2 a3 a4 a5 a6 a7 a8 a9 a10 w0) s.heap := hP
  have lc_41 : (Cond.constant RX7 41 (-1000000001)).before args s = true := hts _ (by decide +kernel)
  have fl_31 : (Cond.fieldLink RX7 31 "ProvinceCardsModel" "bitsOf" "[I").before args s = true := hts _ (by decide +kernel)
  have fl_34 : (Cond.fieldLink RX7 34 "ProvinceCardsModel" "sizeOf" "[I").before args s = true := hts _ (by decide +kernel)
  have fl_37 : (Cond.fieldLink RX7 37 "ProvinceCardsModel" "cells" "[J").before args s = true := hts _ (by decide +kernel)
  have lc_221 : (Cond.constant RX7 221 (-1000000007)).before args s = true := hts _ (by decide +kernel)
  have i_RX7 : ∀ w ∈ wsX70, w ∈ wsX7_sheet := by decide +kernel
  have hl : lv_has ls 5 [(0, .ref a0), (1, .int x1), (2, .int x2), (3, .int x3)] := hl
  have B_29 : ∀  (w : pv_MT) (H : Heap) (locs : List Loc) (ls : Array Slot), va_P E.1 vwCl (pv_wM E a0 a1 a2 a3 a4 a5 a6 a7 a8 a9 a10 w) H → va_S A s.heap H locs → lv_has ls 5 [(0, .ref a0)] → m_X7_sheet_29 w = some F → W p l e r_X7_sheet s m args below meth c H locs 0 0 (MQ below (pv_Rw E (pv_wM E a0 a1 a2 a3 a4 a5 a6 a7 a8 a9 a10 w0) sz (some (.int F.1)) ((fun w : pv_MT => pv_wM E a0 a1 a2 a3 a4 a5 a6 a7 a8 a9 a10 w) F.2)) args s 0 0 A) (F0 m 29 ls []) := by
    intro w H locs ls hP hS hl hq
    refine lv_aload_n (pc := 29) hx hb dX7_sheet_29 rfl (lv_at hl 0 rfl) ?_
    refine lv_ldc (pc := 30) hx hb hown lc_41 dX7_sheet_30 ?_
    obtain ⟨u_3, hu_3, hq⟩ := pv_bind hq
    refine pv_vRWf (pc := 32) (rest := []) (st1 := [.int u_3.1]) (ws := pv_wM E a0 a1 a2 a3 a4 a5 a6 a7 a8 a9 a10 w) [.int (-1000000001)] ⟨hx, hb, hml, hown, hts⟩ hE hA hS hP (hD w) (c_X7_finds l E a0 a1 a2 a3 a4 a5 a6 a7 a8 a9 a10 (-1000000001) w u_3 hu_3) (cwV 1 hts gX7_sheet_X7_finds rfl rfl rfl (by decide +kernel) ⟨(Nat.le_of_ble_eq_true rfl), (Nat.le_of_ble_eq_true rfl)⟩) (va_recv hK hP (ci := 5) (q0 := 0) rfl rfl) rfl hl.1 rfl rfl (Nat.le_of_ble_eq_true rfl) dX7_sheet_32 ⟨Nat.zero_le _, Nat.zero_le _⟩ (fun H locs hP hS => ?_)
    have hP : va_P E.1 vwCl (pv_wM E a0 a1 a2 a3 a4 a5 a6 a7 a8 a9 a10 u_3.2) H := hP
    exact pv_riRW (w := fun w : pv_MT => pv_wM E a0 a1 a2 a3 a4 a5 a6 a7 a8 a9 a10 w) hx hb hr hlk hAe hS hP (Option.some.inj hq) dX7_sheet_35
  have L_85 : ∀ n : Nat, ∀ (x1 : Int32) (x4 : Int32) (w : pv_MT) (H : Heap) (locs : List Loc) (ls : Array Slot), va_P E.1 vwCl (pv_wM E a0 a1 a2 a3 a4 a5 a6 a7 a8 a9 a10 w) H → va_S A s.heap H locs → lv_has ls 5 [(0, .ref a0), (1, .int x1), (4, .int x4)] → m_X7_sheet_85 n x1 x4 w = some F → W p l e r_X7_sheet s m args below meth c H locs 0 0 (MQ below (pv_Rw E (pv_wM E a0 a1 a2 a3 a4 a5 a6 a7 a8 a9 a10 w0) sz (some (.int F.1)) ((fun w : pv_MT => pv_wM E a0 a1 a2 a3 a4 a5 a6 a7 a8 a9 a10 w) F.2)) args s 0 0 A) (F0 m 85 ls []) := by
    intro n
    induction n with
    | zero =>
      intro x1 x4 w H locs ls hP hS hl hq
      exact (pv_no hq).elim
    | succ n ih =>
      intro x1 x4 w H locs ls hP hS hl hq
      refine lv_iload (pc := 85) hx hb dX7_sheet_85 (lv_at hl 2 rfl) ?_
      refine lv_bipush (pc := 87) (v := 40) hx hb dX7_sheet_87 (by decide) ?_
      refine lv_icmp_ge (pc := 89) (tgt := 111) hx hb dX7_sheet_89 (by decide) (fun c_10 => ?_) (fun c_10 => ?_)
      · have hq := pv_pos c_10 hq
        refine lv_aload_n (pc := 111) hx hb dX7_sheet_111 rfl (lv_at hl 0 rfl) ?_
        refine va_get (pc := 112) (D := E.1) (ci := 5) (v := .ref a9) (C := RX7) (T := TX7) (N := 17) hx hb hts i_RX7 hown hK hP 0 rfl rfl 15 (Nat.le_of_ble_eq_true rfl) fl_34 (fun _ h9 => h9) rfl dX7_sheet_112 ?_
        refine lv_iload_n (pc := 115) hx hb dX7_sheet_115 rfl (lv_at hl 1 rfl) ?_
        obtain ⟨h_11, hq⟩ := pv_gd_some hq
        refine va_iald (pc := 116) (D := E.1) hx hb hK hP 9 0 rfl rfl h_11 dX7_sheet_116 ?_
        exact pv_riRW (w := fun w : pv_MT => pv_wM E a0 a1 a2 a3 a4 a5 a6 a7 a8 a9 a10 w) hx hb hr hlk hAe hS hP (Option.some.inj hq) dX7_sheet_117
      · have hq := pv_neg c_10 hq
        refine lv_aload_n (pc := 92) hx hb dX7_sheet_92 rfl (lv_at hl 0 rfl) ?_
        refine va_get (pc := 93) (D := E.1) (ci := 5) (v := .ref a10) (C := RX7) (T := TX7) (N := 17) hx hb hts i_RX7 hown hK hP 0 rfl rfl 16 (Nat.le_of_ble_eq_true rfl) fl_37 (fun _ h9 => h9) rfl dX7_sheet_93 ?_
        refine lv_bipush (pc := 96) (v := 40) hx hb dX7_sheet_96 (by decide) ?_
        refine lv_iload_n (pc := 98) hx hb dX7_sheet_98 rfl (lv_at hl 1 rfl) ?_
        refine lv_imul (pc := 99) hx hb dX7_sheet_99 ?_
        refine lv_iload (pc := 100) hx hb dX7_sheet_100 (lv_at hl 2 rfl) ?_
        refine lv_iadd (pc := 102) hx hb dX7_sheet_102 ?_
        refine lv_lconst (pc := 103) (v := 0) hx hb dX7_sheet_103 (by decide) ?_
        obtain ⟨h_12, hq⟩ := pv_gd_some hq
        refine va_last (pc := 104) (D := E.1) hx hb hK hP (hD w) hS 10 1 rfl rfl h_12 dX7_sheet_104 (fun H locs hP _ hS => ?_)
        have hP : va_P E.1 vwCl (pv_wM E a0 a1 a2 a3 a4 a5 a6 a7 a8 a9 a10 (w.1, w.2.1, w.2.2.1, w.2.2.2.1, w.2.2.2.2.1, w.2.2.2.2.2.1, w.2.2.2.2.2.2.1, w.2.2.2.2.2.2.2.1, w.2.2.2.2.2.2.2.2.1, w.2.2.2.2.2.2.2.2.2.1, w.2.2.2.2.2.2.2.2.2.2.1, w.2.2.2.2.2.2.2.2.2.2.2.1, w.2.2.2.2.2.2.2.2.2.2.2.2.1, w.2.2.2.2.2.2.2.2.2.2.2.2.2.1, w.2.2.2.2.2.2.2.2.2.2.2.2.2.2.1, w.2.2.2.2.2.2.2.2.2.2.2.2.2.2.2.1, (vp_updL w.2.2.2.2.2.2.2.2.2.2.2.2.2.2.2.2 ((40 * x1) + x4).toNatClampNeg 0))) H := hP
        refine lv_iinc (pc := 105) (v := (x4 + 1)) (lv' := [(4, .int (x4 + 1)), (0, .ref a0), (1, .int x1)]) hx hb dX7_sheet_105 hl (k := 2) rfl rfl (Nat.le_of_ble_eq_true rfl) rfl (fun ls hl => ?_)
        refine lv_goto (pc := 108) (tgt := 85) hx hb dX7_sheet_108 (by decide) ?_
        exact ih x1 (x4 + 1) (w.1, w.2.1, w.2.2.1, w.2.2.2.1, w.2.2.2.2.1, w.2.2.2.2.2.1, w.2.2.2.2.2.2.1, w.2.2.2.2.2.2.2.1, w.2.2.2.2.2.2.2.2.1, w.2.2.2.2.2.2.2.2.2.1, w.2.2.2.2.2.2.2.2.2.2.1, w.2.2.2.2.2.2.2.2.2.2.2.1, w.2.2.2.2.2.2.2.2.2.2.2.2.1, w.2.2.2.2.2.2.2.2.2.2.2.2.2.1, w.2.2.2.2.2.2.2.2.2.2.2.2.2.2.1, w.2.2.2.2.2.2.2.2.2.2.2.2.2.2.2.1, (vp_updL w.2.2.2.2.2.2.2.2.2.2.2.2.2.2.2.2 ((40 * x1) + x4).toNatClampNeg 0)) H locs ls hP hS (lv_sub hl [1, 2, 0] rfl) hq
  have B_81 : ∀ (x1 : Int32) (y1 : Int32) (y2 : Int32) (w : pv_MT) (H : Heap) (locs : List Loc) (ls : Array Slot), va_P E.1 vwCl (pv_wM E a0 a1 a2 a3 a4 a5 a6 a7 a8 a9 a10 w) H → va_S A s.heap H locs → lv_has ls 5 [(0, .ref a0), (1, .int x1)] → m_X7_sheet_81 x1 y1 y2 w = some F → W p l e r_X7_sheet s m args below meth c H locs 0 0 (MQ below (pv_Rw E (pv_wM E a0 a1 a2 a3 a4 a5 a6 a7 a8 a9 a10 w0) sz (some (.int F.1)) ((fun w : pv_MT => pv_wM E a0 a1 a2 a3 a4 a5 a6 a7 a8 a9 a10 w) F.2)) args s 0 0 A) (F0 m 81 ls [.int y2, .int y1, .ref a9]) := by
    intro x1 y1 y2 w H locs ls hP hS hl hq
    obtain ⟨h_9, hq⟩ := pv_gd_some hq
    refine va_iast (pc := 81) (D := E.1) hx hb hK hP (hD w) hS 9 0 rfl rfl h_9 dX7_sheet_81 (fun H locs hP _ hS => ?_)
    have hP : va_P E.1 vwCl (pv_wM E a0 a1 a2 a3 a4 a5 a6 a7 a8 a9 a10 (w.1, w.2.1, w.2.2.1, w.2.2.2.1, w.2.2.2.2.1, w.2.2.2.2.2.1, w.2.2.2.2.2.2.1, w.2.2.2.2.2.2.2.1, w.2.2.2.2.2.2.2.2.1, w.2.2.2.2.2.2.2.2.2.1, w.2.2.2.2.2.2.2.2.2.2.1, w.2.2.2.2.2.2.2.2.2.2.2.1, w.2.2.2.2.2.2.2.2.2.2.2.2.1, w.2.2.2.2.2.2.2.2.2.2.2.2.2.1, w.2.2.2.2.2.2.2.2.2.2.2.2.2.2.1, (upd w.2.2.2.2.2.2.2.2.2.2.2.2.2.2.2.1 y1.toNatClampNeg y2), w.2.2.2.2.2.2.2.2.2.2.2.2.2.2.2.2)) H := hP
    refine lv_iconst (pc := 82) (v := 0) hx hb dX7_sheet_82 (by decide) ?_
    refine lv_istore (pc := 83) (lv' := [(4, .int 0), (0, .ref a0), (1, .int x1)]) hx hb dX7_sheet_83 hl (Nat.le_of_ble_eq_true rfl) rfl (fun ls hl => ?_)
    exact L_85 300 x1 0 (w.1, w.2.1, w.2.2.1, w.2.2.2.1, w.2.2.2.2.1, w.2.2.2.2.2.1, w.2.2.2.2.2.2.1, w.2.2.2.2.2.2.2.1, w.2.2.2.2.2.2.2.2.1, w.2.2.2.2.2.2.2.2.2.1, w.2.2.2.2.2.2.2.2.2.2.1, w.2.2.2.2.2.2.2.2.2.2.2.1, w.2.2.2.2.2.2.2.2.2.2.2.2.1, w.2.2.2.2.2.2.2.2.2.2.2.2.2.1, w.2.2.2.2.2.2.2.2.2.2.2.2.2.2.1, (upd w.2.2.2.2.2.2.2.2.2.2.2.2.2.2.2.1 y1.toNatClampNeg y2), w.2.2.2.2.2.2.2.2.2.2.2.2.2.2.2.2) H locs ls hP hS (lv_sub hl [1, 2, 0] rfl) hq
  have B_36 : ∀ (x1 : Int32) (x2 : Int32) (x3 : Int32) (w : pv_MT) (H : Heap) (locs : List Loc) (ls : Array Slot), va_P E.1 vwCl (pv_wM E a0 a1 a2 a3 a4 a5 a6 a7 a8 a9 a10 w) H → va_S A s.heap H locs → lv_has ls 5 [(0, .ref a0), (1, .int x1), (2, .int x2), (3, .int x3)] → m_X7_sheet_36 x1 x2 x3 w = some F → W p l e r_X7_sheet s m args below meth c H locs 0 0 (MQ below (pv_Rw E (pv_wM E a0 a1 a2 a3 a4 a5 a6 a7 a8 a9 a10 w0) sz (some (.int F.1)) ((fun w : pv_MT => pv_wM E a0 a1 a2 a3 a4 a5 a6 a7 a8 a9 a10 w) F.2)) args s 0 0 A) (F0 m 36 ls []) := by
    intro x1 x2 x3 w H locs ls hP hS hl hq
    refine lv_iload_n (pc := 36) hx hb dX7_sheet_36 rfl (lv_at hl 3 rfl) ?_
    refine lv_if_ge (pc := 37) (tgt := 47) hx hb dX7_sheet_37 (by decide) (fun c_5 => ?_) (fun c_5 => ?_)
    · have hq := pv_pos c_5 hq
      refine lv_iload_n (pc := 47) hx hb dX7_sheet_47 rfl (lv_at hl 3 rfl) ?_
      refine lv_bipush (pc := 48) (v := 40) hx hb dX7_sheet_48 (by decide) ?_
      refine lv_icmp_le (pc := 50) (tgt := 60) hx hb dX7_sheet_50 (by decide) (fun c_6 => ?_) (fun c_6 => ?_)
      · have hq := pv_pos c_6 hq
        refine lv_aload_n (pc := 60) hx hb dX7_sheet_60 rfl (lv_at hl 0 rfl) ?_
        refine va_get (pc := 61) (D := E.1) (ci := 5) (v := .ref a8) (C := RX7) (T := TX7) (N := 17) hx hb hts i_RX7 hown hK hP 0 rfl rfl 14 (Nat.le_of_ble_eq_true rfl) fl_31 (fun _ h9 => h9) rfl dX7_sheet_61 ?_
        refine lv_iload_n (pc := 64) hx hb dX7_sheet_64 rfl (lv_at hl 1 rfl) ?_
        refine lv_iload_n (pc := 65) hx hb dX7_sheet_65 rfl (lv_at hl 2 rfl) ?_
        obtain ⟨h_7, hq⟩ := pv_gd_some hq
        refine va_iast (pc := 66) (D := E.1) hx hb hK hP (hD w) hS 8 0 rfl rfl h_7 dX7_sheet_66 (fun H locs hP _ hS => ?_)
        have hP : va_P E.1 vwCl (pv_wM E a0 a1 a2 a3 a4 a5 a6 a7 a8 a9 a10 (w.1, w.2.1, w.2.2.1, w.2.2.2.1, w.2.2.2.2.1, w.2.2.2.2.2.1, w.2.2.2.2.2.2.1, w.2.2.2.2.2.2.2.1, w.2.2.2.2.2.2.2.2.1, w.2.2.2.2.2.2.2.2.2.1, w.2.2.2.2.2.2.2.2.2.2.1, w.2.2.2.2.2.2.2.2.2.2.2.1, w.2.2.2.2.2.2.2.2.2.2.2.2.1, w.2.2.2.2.2.2.2.2.2.2.2.2.2.1, (upd w.2.2.2.2.2.2.2.2.2.2.2.2.2.2.1 x1.toNatClampNeg x2), w.2.2.2.2.2.2.2.2.2.2.2.2.2.2.2.1, w.2.2.2.2.2.2.2.2.2.2.2.2.2.2.2.2)) H := hP
        refine lv_aload_n (pc := 67) hx hb dX7_sheet_67 rfl (lv_at hl 0 rfl) ?_
        refine va_get (pc := 68) (D := E.1) (ci := 5) (v := .ref a9) (C := RX7) (T := TX7) (N := 17) hx hb hts i_RX7 hown hK hP 0 rfl rfl 15 (Nat.le_of_ble_eq_true rfl) fl_34 (fun _ h9 => h9) rfl dX7_sheet_68 ?_
        refine lv_iload_n (pc := 71) hx hb dX7_sheet_71 rfl (lv_at hl 1 rfl) ?_
        refine lv_iload_n (pc := 72) hx hb dX7_sheet_72 rfl (lv_at hl 2 rfl) ?_
        refine lv_if_ne (pc := 73) (tgt := 80) hx hb dX7_sheet_73 (by decide) (fun c_8 => ?_) (fun c_8 => ?_)
        · have hq := pv_neg c_8 hq
          refine lv_iload_n (pc := 80) hx hb dX7_sheet_80 rfl (lv_at hl 3 rfl) ?_
          exact B_81 x1 x1 x3 (w.1, w.2.1, w.2.2.1, w.2.2.2.1, w.2.2.2.2.1, w.2.2.2.2.2.1, w.2.2.2.2.2.2.1, w.2.2.2.2.2.2.2.1, w.2.2.2.2.2.2.2.2.1, w.2.2.2.2.2.2.2.2.2.1, w.2.2.2.2.2.2.2.2.2.2.1, w.2.2.2.2.2.2.2.2.2.2.2.1, w.2.2.2.2.2.2.2.2.2.2.2.2.1, w.2.2.2.2.2.2.2.2.2.2.2.2.2.1, (upd w.2.2.2.2.2.2.2.2.2.2.2.2.2.2.1 x1.toNatClampNeg x2), w.2.2.2.2.2.2.2.2.2.2.2.2.2.2.2.1, w.2.2.2.2.2.2.2.2.2.2.2.2.2.2.2.2) H locs ls hP hS (lv_sub hl [0, 1] rfl) hq
        · have hq := pv_pos c_8 hq
          refine lv_iconst (pc := 76) (v := 0) hx hb dX7_sheet_76 (by decide) ?_
          refine lv_goto (pc := 77) (tgt := 81) hx hb dX7_sheet_77 (by decide) ?_
          exact B_81 x1 x1 0 (w.1, w.2.1, w.2.2.1, w.2.2.2.1, w.2.2.2.2.1, w.2.2.2.2.2.1, w.2.2.2.2.2.2.1, w.2.2.2.2.2.2.2.1, w.2.2.2.2.2.2.2.2.1, w.2.2.2.2.2.2.2.2.2.1, w.2.2.2.2.2.2.2.2.2.2.1, w.2.2.2.2.2.2.2.2.2.2.2.1, w.2.2.2.2.2.2.2.2.2.2.2.2.1, w.2.2.2.2.2.2.2.2.2.2.2.2.2.1, (upd w.2.2.2.2.2.2.2.2.2.2.2.2.2.2.1 x1.toNatClampNeg x2), w.2.2.2.2.2.2.2.2.2.2.2.2.2.2.2.1, w.2.2.2.2.2.2.2.2.2.2.2.2.2.2.2.2) H locs ls hP hS (lv_sub hl [0, 1] rfl) hq
      · have hq := pv_neg c_6 hq
        refine lv_aload_n (pc := 53) hx hb dX7_sheet_53 rfl (lv_at hl 0 rfl) ?_
        refine lv_ldc (pc := 54) hx hb hown lc_41 dX7_sheet_54 ?_
        obtain ⟨u_13, hu_13, hq⟩ := pv_bind hq
        refine pv_vRWf (pc := 56) (rest := []) (st1 := [.int u_13.1]) (ws := pv_wM E a0 a1 a2 a3 a4 a5 a6 a7 a8 a9 a10 w) [.int (-1000000001)] ⟨hx, hb, hml, hown, hts⟩ hE hA hS hP (hD w) (c_X7_finds l E a0 a1 a2 a3 a4 a5 a6 a7 a8 a9 a10 (-1000000001) w u_13 hu_13) (cwV 1 hts gX7_sheet_X7_finds rfl rfl rfl (by decide +kernel) ⟨(Nat.le_of_ble_eq_true rfl), (Nat.le_of_ble_eq_true rfl)⟩) (va_recv hK hP (ci := 5) (q0 := 0) rfl rfl) rfl hl.1 rfl rfl (Nat.le_of_ble_eq_true rfl) dX7_sheet_56 ⟨Nat.zero_le _, Nat.zero_le _⟩ (fun H locs hP hS => ?_)
        have hP : va_P E.1 vwCl (pv_wM E a0 a1 a2 a3 a4 a5 a6 a7 a8 a9 a10 u_13.2) H := hP
        exact pv_riRW (w := fun w : pv_MT => pv_wM E a0 a1 a2 a3 a4 a5 a6 a7 a8 a9 a10 w) hx hb hr hlk hAe hS hP (Option.some.inj hq) dX7_sheet_59
    · have hq := pv_neg c_5 hq
      refine lv_aload_n (pc := 40) hx hb dX7_sheet_40 rfl (lv_at hl 0 rfl) ?_
      refine lv_ldc (pc := 41) hx hb hown lc_221 dX7_sheet_41 ?_
      obtain ⟨u_14, hu_14, hq⟩ := pv_bind hq
      refine pv_vRWf (pc := 43) (rest := []) (st1 := [.int u_14.1]) (ws := pv_wM E a0 a1 a2 a3 a4 a5 a6 a7 a8 a9 a10 w) [.int (-1000000007)] ⟨hx, hb, hml, hown, hts⟩ hE hA hS hP (hD w) (c_X7_finds l E a0 a1 a2 a3 a4 a5 a6 a7 a8 a9 a10 (-1000000007) w u_14 hu_14) (cwV 1 hts gX7_sheet_X7_finds rfl rfl rfl (by decide +kernel) ⟨(Nat.le_of_ble_eq_true rfl), (Nat.le_of_ble_eq_true rfl)⟩) (va_recv hK hP (ci := 5) (q0 := 0) rfl rfl) rfl hl.1 rfl rfl (Nat.le_of_ble_eq_true rfl) dX7_sheet_43 ⟨Nat.zero_le _, Nat.zero_le _⟩ (fun H locs hP hS => ?_)
      have hP : va_P E.1 vwCl (pv_wM E a0 a1 a2 a3 a4 a5 a6 a7 a8 a9 a10 u_14.2) H := hP
      exact pv_riRW (w := fun w : pv_MT => pv_wM E a0 a1 a2 a3 a4 a5 a6 a7 a8 a9 a10 w) hx hb hr hlk hAe hS hP (Option.some.inj hq) dX7_sheet_46
  suffices M0 : ∀ (H : Heap) (locs : List Loc), va_P E.1 vwCl (pv_wM E a0 a1 a2 a3 a4 a5 a6 a7 a8 a9 a10 w0) H → va_S A s.heap H locs → W p l e r_X7_sheet s m args below meth c H locs 0 0 (MQ below (pv_Rw E (pv_wM E a0 a1 a2 a3 a4 a5 a6 a7 a8 a9 a10 w0) sz (some (.int F.1)) ((fun w : pv_MT => pv_wM E a0 a1 a2 a3 a4 a5 a6 a7 a8 a9 a10 w) F.2)) args s 0 0 A) (F0 m 0 ls []) from M0 s.heap [] hP hS
  intro H locs hP hS
  refine lv_iload_n (pc := 0) hx hb dX7_sheet_0 rfl (lv_at hl 1 rfl) ?_
  obtain ⟨u_1, hu_1, hq⟩ := pv_bind hq
  refine pv_sRO (pc := 1) (rest := []) (st1 := [.int u_1]) (ws := pv_wM E a0 a1 a2 a3 a4 a5 a6 a7 a8 a9 a10 w0) [.int x1] ⟨hx, hb, hml, hown, hts⟩ hE hA hS hP (hD w0) (c_X7_isSheet l E x1 u_1 hu_1) (va_cwS 1 hts gX7_sheet_X7_isSheet rfl rfl rfl (by decide +kernel) ⟨(Nat.le_of_ble_eq_true rfl), (Nat.le_of_ble_eq_true rfl)⟩) [] rfl rfl rfl hl.1 rfl rfl (Nat.le_of_ble_eq_true rfl) dX7_sheet_1 ⟨Nat.zero_le _, Nat.zero_le _⟩ (fun locs hS => ?_)
  refine lv_if_eq (pc := 4) (tgt := 29) hx hb dX7_sheet_4 (by decide) (fun c_2 => ?_) (fun c_2 => ?_)
  · have hq := pv_pos c_2 hq
    exact B_29 w0 H locs ls hP hS (lv_sub hl [0] rfl) hq
  · have hq := pv_neg c_2 hq
    refine lv_iload_n (pc := 7) hx hb dX7_sheet_7 rfl (lv_at hl 2 rfl) ?_
    refine lv_if_eq (pc := 8) (tgt := 36) hx hb dX7_sheet_8 (by decide) (fun c_4 => ?_) (fun c_4 => ?_)
    · have hq := pv_pos c_4 hq
      exact B_36 x1 x2 x3 w0 H locs ls hP hS (lv_sub hl [0, 1, 2, 3] rfl) hq
    · have hq := pv_neg c_4 hq
      refine lv_iload_n (pc := 11) hx hb dX7_sheet_11 rfl (lv_at hl 2 rfl) ?_
      refine lv_bipush (pc := 12) (v := 8) hx hb dX7_sheet_12 (by decide) ?_
      refine lv_icmp_eq (pc := 14) (tgt := 36) hx hb dX7_sheet_14 (by decide) (fun c_15 => ?_) (fun c_15 => ?_)
      · have hq := pv_pos c_15 hq
        exact B_36 x1 x2 x3 w0 H locs ls hP hS (lv_sub hl [0, 1, 2, 3] rfl) hq
      · have hq := pv_neg c_15 hq
        refine lv_iload_n (pc := 17) hx hb dX7_sheet_17 rfl (lv_at hl 2 rfl) ?_
        refine lv_bipush (pc := 18) (v := 16) hx hb dX7_sheet_18 (by decide) ?_
        refine lv_icmp_eq (pc := 20) (tgt := 36) hx hb dX7_sheet_20 (by decide) (fun c_16 => ?_) (fun c_16 => ?_)
        · have hq := pv_pos c_16 hq
          exact B_36 x1 x2 x3 w0 H locs ls hP hS (lv_sub hl [0, 1, 2, 3] rfl) hq
        · have hq := pv_neg c_16 hq
          refine lv_iload_n (pc := 23) hx hb dX7_sheet_23 rfl (lv_at hl 2 rfl) ?_
          refine lv_bipush (pc := 24) (v := 64) hx hb dX7_sheet_24 (by decide) ?_
          refine lv_icmp_eq (pc := 26) (tgt := 36) hx hb dX7_sheet_26 (by decide) (fun c_17 => ?_) (fun c_17 => ?_)
          · have hq := pv_pos c_17 hq
            exact B_36 x1 x2 x3 w0 H locs ls hP hS (lv_sub hl [0, 1, 2, 3] rfl) hq
          · have hq := pv_neg c_17 hq
            exact B_29 w0 H locs ls hP hS (lv_sub hl [0] rfl) hq
def m_X7_notThere (x1 : Int32) (w : pv_MT) : Option (Int32) :=
  Option.bind (m_X7_isSheet x1) fun u_1 => (if u_1 = 0 then (some (-1000000001)) else (pv_gd x1 4 (if (w.2.2.2.2.2.2.2.2.2.2.2.2.2.2.1 x1.toNatClampNeg) = 0 then (some (-1000000006)) else (some 0))))
abbrev r_X7_notThere : Room := { frames := 2, cells := 0, slots := 0, locals := 43 }
set_option maxHeartbeats 4000000 in
set_option maxRecDepth 100000 in
theorem c_X7_notThere (l : Launch) (E : pv_E) (a0 a1 a2 a3 a4 a5 a6 a7 a8 a9 a10 : Nat) (x1 : Int32) (w : pv_MT) (F : Int32) (hq : m_X7_notThere x1 w = some F) : pv_RO l E yX7_notThere wsX7_notThere r_X7_notThere (pv_wM E a0 a1 a2 a3 a4 a5 a6 a7 a8 a9 a10 w) [.ref a0, .int x1] (some (.int F)) := by
  intro sz
  refine pv_mk (by decide) rfl (Nat.le_of_ble_eq_true rfl) ?_
  intro p e s m args below meth c A hx hb hr hml hown hts hlk hAe hP hD0 hA hE hS ls hl
  have hown : s.vm.findClass RX7 = some m.cls := hown
  have hK := hE.1
  have hD := hD0
  have fl_31 : (Cond.fieldLink RX7 31 "ProvinceCardsModel" "bitsOf" "[I").before args s = true := hts _ (by decide +kernel)
  have lc_222 : (Cond.constant RX7 222 (-1000000006)).before args s = true := hts _ (by decide +kernel)
  have lc_41 : (Cond.constant RX7 41 (-1000000001)).before args s = true := hts _ (by decide +kernel)
  have i_RX7 : ∀ w ∈ wsX70, w ∈ wsX7_notThere := by decide +kernel
  have hl : lv_has ls 2 [(0, .ref a0), (1, .int x1)] := hl
  suffices M0 : ∀ (locs : List Loc), va_S A s.heap s.heap locs → W p l e r_X7_notThere s m args below meth c s.heap locs 0 0 (MQ below (pv_Ro (some (.int F))) args s 0 0 A) (F0 m 0 ls []) from M0 [] hS
  intro locs hS
  refine lv_iload_n (pc := 0) hx hb dX7_notThere_0 rfl (lv_at hl 1 rfl) ?_
  obtain ⟨u_1, hu_1, hq⟩ := pv_bind hq
  refine pv_sRO (pc := 1) (rest := []) (st1 := [.int u_1]) (ws := pv_wM E a0 a1 a2 a3 a4 a5 a6 a7 a8 a9 a10 w) [.int x1] ⟨hx, hb, hml, hown, hts⟩ hE hA hS hP hD (c_X7_isSheet l E x1 u_1 hu_1) (va_cwS 1 hts gX7_notThere_X7_isSheet rfl rfl rfl (by decide +kernel) ⟨(Nat.le_of_ble_eq_true rfl), (Nat.le_of_ble_eq_true rfl)⟩) [] rfl rfl rfl hl.1 rfl rfl (Nat.le_of_ble_eq_true rfl) dX7_notThere_1 ⟨Nat.zero_le _, Nat.zero_le _⟩ (fun locs hS => ?_)
  refine lv_if_ne (pc := 4) (tgt := 12) hx hb dX7_notThere_4 (by decide) (fun c_2 => ?_) (fun c_2 => ?_)
  · have hq := pv_neg c_2 hq
    refine lv_aload_n (pc := 12) hx hb dX7_notThere_12 rfl (lv_at hl 0 rfl) ?_
    refine va_get (pc := 13) (D := E.1) (ci := 5) (v := .ref a8) (C := RX7) (T := TX7) (N := 17) hx hb hts i_RX7 hown hK hP 0 rfl rfl 14 (Nat.le_of_ble_eq_true rfl) fl_31 (fun _ h9 => h9) rfl dX7_notThere_13 ?_
    refine lv_iload_n (pc := 16) hx hb dX7_notThere_16 rfl (lv_at hl 1 rfl) ?_
    obtain ⟨h_3, hq⟩ := pv_gd_some hq
    refine va_iald (pc := 17) (D := E.1) hx hb hK hP 8 0 rfl rfl h_3 dX7_notThere_17 ?_
    refine lv_if_ne (pc := 18) (tgt := 26) hx hb dX7_notThere_18 (by decide) (fun c_4 => ?_) (fun c_4 => ?_)
    · have hq := pv_neg c_4 hq
      refine lv_iconst (pc := 26) (v := 0) hx hb dX7_notThere_26 (by decide) ?_
      exact pv_riRO hx hb hr hlk hS (Option.some.inj hq) dX7_notThere_27
    · have hq := pv_pos c_4 hq
      refine lv_ldc (pc := 21) hx hb hown lc_222 dX7_notThere_21 ?_
      refine lv_goto (pc := 23) (tgt := 27) hx hb dX7_notThere_23 (by decide) ?_
      exact pv_riRO hx hb hr hlk hS (Option.some.inj hq) dX7_notThere_27
  · have hq := pv_pos c_2 hq
    refine lv_ldc (pc := 7) hx hb hown lc_41 dX7_notThere_7 ?_
    refine lv_goto (pc := 9) (tgt := 27) hx hb dX7_notThere_9 (by decide) ?_
    exact pv_riRO hx hb hr hlk hS (Option.some.inj hq) dX7_notThere_27
def m_X7_write_33 (x1 : Int32) (x2 : Int32) (x3 : Int64) (x5 : Int32) (w : pv_MT) : Option (Int64 × pv_MT) :=
  if x5 = 0 then (pv_gd ((40 * x1) + x2) 160 (pv_gd x1 4 (pv_gd ((40 * x1) + x2) 160 (some ((w.2.2.2.2.2.2.2.2.2.2.2.2.2.2.2.2 ((40 * x1) + x2).toNatClampNeg), (w.1, w.2.1, w.2.2.1, w.2.2.2.1, w.2.2.2.2.1, w.2.2.2.2.2.1, w.2.2.2.2.2.2.1, w.2.2.2.2.2.2.2.1, w.2.2.2.2.2.2.2.2.1, w.2.2.2.2.2.2.2.2.2.1, w.2.2.2.2.2.2.2.2.2.2.1, w.2.2.2.2.2.2.2.2.2.2.2.1, w.2.2.2.2.2.2.2.2.2.2.2.2.1, w.2.2.2.2.2.2.2.2.2.2.2.2.2.1, w.2.2.2.2.2.2.2.2.2.2.2.2.2.2.1, w.2.2.2.2.2.2.2.2.2.2.2.2.2.2.2.1, (vp_updL w.2.2.2.2.2.2.2.2.2.2.2.2.2.2.2.2 ((40 * x1) + x2).toNatClampNeg (m_X7_cutTo (w.2.2.2.2.2.2.2.2.2.2.2.2.2.2.1 x1.toNatClampNeg) x3)))))))) else (Option.bind (m_X7_finds x5 w) fun u_7 => (some (u_7.1.toInt64, u_7.2)))
def m_X7_write (x1 : Int32) (x2 : Int32) (x3 : Int64) (w : pv_MT) : Option (Int64 × pv_MT) :=
  Option.bind (m_X7_notThere x1 w) fun u_1 => (if u_1 = 0 then (pv_gd x1 4 (if (m_X7_in x2.toInt64 0 ((w.2.2.2.2.2.2.2.2.2.2.2.2.2.2.2.1 x1.toNatClampNeg) - 1)) = 0 then (m_X7_write_33 x1 x2 x3 (-1000000001) w) else (m_X7_write_33 x1 x2 x3 u_1 w))) else (m_X7_write_33 x1 x2 x3 u_1 w))
abbrev r_X7_write : Room := { frames := 3, cells := 0, slots := 0, locals := 64 }
set_option maxHeartbeats 4000000 in
set_option maxRecDepth 100000 in
theorem c_X7_write (l : Launch) (E : pv_E) (a0 a1 a2 a3 a4 a5 a6 a7 a8 a9 a10 : Nat) (x1 : Int32) (x2 : Int32) (x3 : Int64) (w0 : pv_MT) (F : Int64 × pv_MT) (hq : m_X7_write x1 x2 x3 w0 = some F) : pv_RW l E yX7_write wsX7_write r_X7_write (pv_wM E a0 a1 a2 a3 a4 a5 a6 a7 a8 a9 a10 w0) [.ref a0, .int x1, .int x2, .long x3] (some (.long F.1)) (pv_wM E a0 a1 a2 a3 a4 a5 a6 a7 a8 a9 a10 F.2) := by
  intro sz
  refine pv_mk (by decide) rfl (Nat.le_of_ble_eq_true rfl) ?_
  intro p e s m args below meth c A hx hb hr hml hown hts hlk hAe hP hD0 hA hE hS ls hl
  have hown : s.vm.findClass RX7 = some m.cls := hown
  have hK := hE.1
  have hD : ∀ w : pv_MT, va_D A (pv_wM E a0 a1 a2 a3 a4 a5 a6 a7 a8 a9 a10 w) := fun w => pv_Dm (ws := pv_wM E a0 a1 a2 a3 a4 a5 a6 a7 a8 a9 a10 w0) (ws' := pv_wM E a0 a1 a2 a3 a4 a5 a6 a7 a8 a9 a10 w) rfl hD0
  have hP : va_P E.1 vwCl (pv_wM E a0 a1 a2 a3 a4 a5 a6 a7 a8 a9 a10 w0) s.heap := hP
  have fl_37 : (Cond.fieldLink RX7 37 "ProvinceCardsModel" "cells" "[J").before args s = true := hts _ (by decide +kernel)
  have fl_31 : (Cond.fieldLink RX7 31 "ProvinceCardsModel" "bitsOf" "[I").before args s = true := hts _ (by decide +kernel)
  have fl_34 : (Cond.fieldLink RX7 34 "ProvinceCardsModel" "sizeOf" "[I").before args s = true := hts _ (by decide +kernel)
  have lc_41 : (Cond.constant RX7 41 (-1000000001)).before args s = true := hts _ (by decide +kernel)
  have i_RX7 : ∀ w ∈ wsX70, w ∈ wsX7_write := by decide +kernel
  have hl : lv_has ls 8 [(0, .ref a0), (1, .int x1), (2, .int x2), (3, .long x3)] := hl
  have B_33 : ∀ (x1 : Int32) (x2 : Int32) (x3 : Int64) (x5 : Int32) (w : pv_MT) (H : Heap) (locs : List Loc) (ls : Array Slot), va_P E.1 vwCl (pv_wM E a0 a1 a2 a3 a4 a5 a6 a7 a8 a9 a10 w) H → va_S A s.heap H locs → lv_has ls 8 [(0, .ref a0), (1, .int x1), (2, .int x2), (3, .long x3), (5, .int x5)] → m_X7_write_33 x1 x2 x3 x5 w = some F → W p l e r_X7_write s m args below meth c H locs 0 0 (MQ below (pv_Rw E (pv_wM E a0 a1 a2 a3 a4 a5 a6 a7 a8 a9 a10 w0) sz (some (.long F.1)) ((fun w : pv_MT => pv_wM E a0 a1 a2 a3 a4 a5 a6 a7 a8 a9 a10 w) F.2)) args s 0 0 A) (F0 m 33 ls []) := by
    intro x1 x2 x3 x5 w H locs ls hP hS hl hq
    refine lv_iload (pc := 33) hx hb dX7_write_33 (lv_at hl 4 rfl) ?_
    refine lv_if_eq (pc := 35) (tgt := 46) hx hb dX7_write_35 (by decide) (fun c_3 => ?_) (fun c_3 => ?_)
    · have hq := pv_pos c_3 hq
      refine lv_aload_n (pc := 46) hx hb dX7_write_46 rfl (lv_at hl 0 rfl) ?_
      refine va_get (pc := 47) (D := E.1) (ci := 5) (v := .ref a10) (C := RX7) (T := TX7) (N := 17) hx hb hts i_RX7 hown hK hP 0 rfl rfl 16 (Nat.le_of_ble_eq_true rfl) fl_37 (fun _ h9 => h9) rfl dX7_write_47 ?_
      refine lv_bipush (pc := 50) (v := 40) hx hb dX7_write_50 (by decide) ?_
      refine lv_iload_n (pc := 52) hx hb dX7_write_52 rfl (lv_at hl 1 rfl) ?_
      refine lv_imul (pc := 53) hx hb dX7_write_53 ?_
      refine lv_iload_n (pc := 54) hx hb dX7_write_54 rfl (lv_at hl 2 rfl) ?_
      refine lv_iadd (pc := 55) hx hb dX7_write_55 ?_
      obtain ⟨h_4, hq⟩ := pv_gd_some hq
      refine va_lald (pc := 56) (D := E.1) hx hb hK hP 10 1 rfl rfl h_4 dX7_write_56 ?_
      refine lv_lstore (pc := 57) (lv' := [(6, .long (w.2.2.2.2.2.2.2.2.2.2.2.2.2.2.2.2 ((40 * x1) + x2).toNatClampNeg)), (0, .ref a0), (1, .int x1), (2, .int x2), (3, .long x3), (5, .int x5)]) hx hb dX7_write_57 hl (Nat.le_of_ble_eq_true rfl) rfl (fun ls hl => ?_)
      refine lv_aload_n (pc := 59) hx hb dX7_write_59 rfl (lv_at hl 1 rfl) ?_
      refine va_get (pc := 60) (D := E.1) (ci := 5) (v := .ref a10) (C := RX7) (T := TX7) (N := 17) hx hb hts i_RX7 hown hK hP 0 rfl rfl 16 (Nat.le_of_ble_eq_true rfl) fl_37 (fun _ h9 => h9) rfl dX7_write_60 ?_
      refine lv_bipush (pc := 63) (v := 40) hx hb dX7_write_63 (by decide) ?_
      refine lv_iload_n (pc := 65) hx hb dX7_write_65 rfl (lv_at hl 2 rfl) ?_
      refine lv_imul (pc := 66) hx hb dX7_write_66 ?_
      refine lv_iload_n (pc := 67) hx hb dX7_write_67 rfl (lv_at hl 3 rfl) ?_
      refine lv_iadd (pc := 68) hx hb dX7_write_68 ?_
      refine lv_aload_n (pc := 69) hx hb dX7_write_69 rfl (lv_at hl 1 rfl) ?_
      refine va_get (pc := 70) (D := E.1) (ci := 5) (v := .ref a8) (C := RX7) (T := TX7) (N := 17) hx hb hts i_RX7 hown hK hP 0 rfl rfl 14 (Nat.le_of_ble_eq_true rfl) fl_31 (fun _ h9 => h9) rfl dX7_write_70 ?_
      refine lv_iload_n (pc := 73) hx hb dX7_write_73 rfl (lv_at hl 2 rfl) ?_
      obtain ⟨h_5, hq⟩ := pv_gd_some hq
      refine va_iald (pc := 74) (D := E.1) hx hb hK hP 8 0 rfl rfl h_5 dX7_write_74 ?_
      refine lv_lload_n (pc := 75) hx hb dX7_write_75 rfl (lv_at hl 4 rfl) ?_
      refine pv_sRO (pc := 76) (rest := [.int ((40 * x1) + x2), .ref a10]) (st1 := [.long (m_X7_cutTo (w.2.2.2.2.2.2.2.2.2.2.2.2.2.2.1 x1.toNatClampNeg) x3), .int ((40 * x1) + x2), .ref a10]) (ws := pv_wM E a0 a1 a2 a3 a4 a5 a6 a7 a8 a9 a10 w) [.int (w.2.2.2.2.2.2.2.2.2.2.2.2.2.2.1 x1.toNatClampNeg), .long x3] ⟨hx, hb, hml, hown, hts⟩ hE hA hS hP (hD w) (c_X7_cutTo l E (w.2.2.2.2.2.2.2.2.2.2.2.2.2.2.1 x1.toNatClampNeg) x3) (va_cwS 2 hts gX7_write_X7_cutTo rfl rfl rfl (by decide +kernel) ⟨(Nat.le_of_ble_eq_true rfl), (Nat.le_of_ble_eq_true rfl)⟩) [] rfl rfl rfl hl.1 rfl rfl (Nat.le_of_ble_eq_true rfl) dX7_write_76 ⟨Nat.zero_le _, Nat.zero_le _⟩ (fun locs hS => ?_)
      obtain ⟨h_6, hq⟩ := pv_gd_some hq
      refine va_last (pc := 79) (D := E.1) hx hb hK hP (hD w) hS 10 1 rfl rfl h_6 dX7_write_79 (fun H locs hP _ hS => ?_)
      have hP : va_P E.1 vwCl (pv_wM E a0 a1 a2 a3 a4 a5 a6 a7 a8 a9 a10 (w.1, w.2.1, w.2.2.1, w.2.2.2.1, w.2.2.2.2.1, w.2.2.2.2.2.1, w.2.2.2.2.2.2.1, w.2.2.2.2.2.2.2.1, w.2.2.2.2.2.2.2.2.1, w.2.2.2.2.2.2.2.2.2.1, w.2.2.2.2.2.2.2.2.2.2.1, w.2.2.2.2.2.2.2.2.2.2.2.1, w.2.2.2.2.2.2.2.2.2.2.2.2.1, w.2.2.2.2.2.2.2.2.2.2.2.2.2.1, w.2.2.2.2.2.2.2.2.2.2.2.2.2.2.1, w.2.2.2.2.2.2.2.2.2.2.2.2.2.2.2.1, (vp_updL w.2.2.2.2.2.2.2.2.2.2.2.2.2.2.2.2 ((40 * x1) + x2).toNatClampNeg (m_X7_cutTo (w.2.2.2.2.2.2.2.2.2.2.2.2.2.2.1 x1.toNatClampNeg) x3)))) H := hP
      refine lv_lload (pc := 80) hx hb dX7_write_80 (lv_at hl 0 rfl) ?_
      exact pv_rlRW (w := fun w : pv_MT => pv_wM E a0 a1 a2 a3 a4 a5 a6 a7 a8 a9 a10 w) hx hb hr hlk hAe hS hP (Option.some.inj hq) dX7_write_82
    · have hq := pv_neg c_3 hq
      refine lv_aload_n (pc := 38) hx hb dX7_write_38 rfl (lv_at hl 0 rfl) ?_
      refine lv_iload (pc := 39) hx hb dX7_write_39 (lv_at hl 4 rfl) ?_
      obtain ⟨u_7, hu_7, hq⟩ := pv_bind hq
      refine pv_vRWf (pc := 41) (rest := []) (st1 := [.int u_7.1]) (ws := pv_wM E a0 a1 a2 a3 a4 a5 a6 a7 a8 a9 a10 w) [.int x5] ⟨hx, hb, hml, hown, hts⟩ hE hA hS hP (hD w) (c_X7_finds l E a0 a1 a2 a3 a4 a5 a6 a7 a8 a9 a10 x5 w u_7 hu_7) (cwV 1 hts gX7_write_X7_finds rfl rfl rfl (by decide +kernel) ⟨(Nat.le_of_ble_eq_true rfl), (Nat.le_of_ble_eq_true rfl)⟩) (va_recv hK hP (ci := 5) (q0 := 0) rfl rfl) rfl hl.1 rfl rfl (Nat.le_of_ble_eq_true rfl) dX7_write_41 ⟨Nat.zero_le _, Nat.zero_le _⟩ (fun H locs hP hS => ?_)
      have hP : va_P E.1 vwCl (pv_wM E a0 a1 a2 a3 a4 a5 a6 a7 a8 a9 a10 u_7.2) H := hP
      refine lv_i2l (pc := 44) (v := u_7.1.toInt64) hx hb dX7_write_44 rfl ?_
      exact pv_rlRW (w := fun w : pv_MT => pv_wM E a0 a1 a2 a3 a4 a5 a6 a7 a8 a9 a10 w) hx hb hr hlk hAe hS hP (Option.some.inj hq) dX7_write_45
  suffices M0 : ∀ (H : Heap) (locs : List Loc), va_P E.1 vwCl (pv_wM E a0 a1 a2 a3 a4 a5 a6 a7 a8 a9 a10 w0) H → va_S A s.heap H locs → W p l e r_X7_write s m args below meth c H locs 0 0 (MQ below (pv_Rw E (pv_wM E a0 a1 a2 a3 a4 a5 a6 a7 a8 a9 a10 w0) sz (some (.long F.1)) ((fun w : pv_MT => pv_wM E a0 a1 a2 a3 a4 a5 a6 a7 a8 a9 a10 w) F.2)) args s 0 0 A) (F0 m 0 ls []) from M0 s.heap [] hP hS
  intro H locs hP hS
  refine lv_aload_n (pc := 0) hx hb dX7_write_0 rfl (lv_at hl 0 rfl) ?_
  refine lv_iload_n (pc := 1) hx hb dX7_write_1 rfl (lv_at hl 1 rfl) ?_
  obtain ⟨u_1, hu_1, hq⟩ := pv_bind hq
  refine pv_vROf (pc := 2) (rest := []) (st1 := [.int u_1]) (ws := pv_wM E a0 a1 a2 a3 a4 a5 a6 a7 a8 a9 a10 w0) [.int x1] ⟨hx, hb, hml, hown, hts⟩ hE hA hS hP (hD w0) (c_X7_notThere l E a0 a1 a2 a3 a4 a5 a6 a7 a8 a9 a10 x1 w0 u_1 hu_1) (cwV 1 hts gX7_write_X7_notThere rfl rfl rfl (by decide +kernel) ⟨(Nat.le_of_ble_eq_true rfl), (Nat.le_of_ble_eq_true rfl)⟩) (va_recv hK hP (ci := 5) (q0 := 0) rfl rfl) rfl hl.1 rfl rfl (Nat.le_of_ble_eq_true rfl) dX7_write_2 ⟨Nat.zero_le _, Nat.zero_le _⟩ (fun locs hS => ?_)
  refine lv_istore (pc := 5) (lv' := [(5, .int u_1), (0, .ref a0), (1, .int x1), (2, .int x2), (3, .long x3)]) hx hb dX7_write_5 hl (Nat.le_of_ble_eq_true rfl) rfl (fun ls hl => ?_)
  refine lv_iload (pc := 7) hx hb dX7_write_7 (lv_at hl 0 rfl) ?_
  refine lv_if_ne (pc := 9) (tgt := 33) hx hb dX7_write_9 (by decide) (fun c_2 => ?_) (fun c_2 => ?_)
  · have hq := pv_neg c_2 hq
    exact B_33 x1 x2 x3 u_1 w0 H locs ls hP hS (lv_sub hl [1, 2, 3, 4, 0] rfl) hq
  · have hq := pv_pos c_2 hq
    refine lv_iload_n (pc := 12) hx hb dX7_write_12 rfl (lv_at hl 3 rfl) ?_
    refine lv_i2l (pc := 13) (v := x2.toInt64) hx hb dX7_write_13 rfl ?_
    refine lv_iconst (pc := 14) (v := 0) hx hb dX7_write_14 (by decide) ?_
    refine lv_aload_n (pc := 15) hx hb dX7_write_15 rfl (lv_at hl 1 rfl) ?_
    refine va_get (pc := 16) (D := E.1) (ci := 5) (v := .ref a9) (C := RX7) (T := TX7) (N := 17) hx hb hts i_RX7 hown hK hP 0 rfl rfl 15 (Nat.le_of_ble_eq_true rfl) fl_34 (fun _ h9 => h9) rfl dX7_write_16 ?_
    refine lv_iload_n (pc := 19) hx hb dX7_write_19 rfl (lv_at hl 2 rfl) ?_
    obtain ⟨h_8, hq⟩ := pv_gd_some hq
    refine va_iald (pc := 20) (D := E.1) hx hb hK hP 9 0 rfl rfl h_8 dX7_write_20 ?_
    refine lv_iconst (pc := 21) (v := 1) hx hb dX7_write_21 (by decide) ?_
    refine lv_isub (pc := 22) hx hb dX7_write_22 ?_
    refine pv_sRO (pc := 23) (rest := []) (st1 := [.int (m_X7_in x2.toInt64 0 ((w0.2.2.2.2.2.2.2.2.2.2.2.2.2.2.2.1 x1.toNatClampNeg) - 1))]) (ws := pv_wM E a0 a1 a2 a3 a4 a5 a6 a7 a8 a9 a10 w0) [.long x2.toInt64, .int 0, .int ((w0.2.2.2.2.2.2.2.2.2.2.2.2.2.2.2.1 x1.toNatClampNeg) - 1)] ⟨hx, hb, hml, hown, hts⟩ hE hA hS hP (hD w0) (c_X7_in l E x2.toInt64 0 ((w0.2.2.2.2.2.2.2.2.2.2.2.2.2.2.2.1 x1.toNatClampNeg) - 1)) (va_cwS 3 hts gX7_write_X7_in rfl rfl rfl (by decide +kernel) ⟨(Nat.le_of_ble_eq_true rfl), (Nat.le_of_ble_eq_true rfl)⟩) [] rfl rfl rfl hl.1 rfl rfl (Nat.le_of_ble_eq_true rfl) dX7_write_23 ⟨Nat.zero_le _, Nat.zero_le _⟩ (fun locs hS => ?_)
    refine lv_if_ne (pc := 26) (tgt := 33) hx hb dX7_write_26 (by decide) (fun c_9 => ?_) (fun c_9 => ?_)
    · have hq := pv_neg c_9 hq
      exact B_33 x1 x2 x3 u_1 w0 H locs ls hP hS (lv_sub hl [1, 2, 3, 4, 0] rfl) hq
    · have hq := pv_pos c_9 hq
      refine lv_ldc (pc := 29) hx hb hown lc_41 dX7_write_29 ?_
      refine lv_istore (pc := 31) (lv' := [(5, .int (-1000000001)), (0, .ref a0), (1, .int x1), (2, .int x2), (3, .long x3)]) hx hb dX7_write_31 hl (Nat.le_of_ble_eq_true rfl) rfl (fun ls hl => ?_)
      exact B_33 x1 x2 x3 (-1000000001) w0 H locs ls hP hS (lv_sub hl [1, 2, 3, 4, 0] rfl) hq
def m_X7_notCopied_102 (y0 : Int32) (w : pv_MT) : Option (Int32) :=
  if y0 = 0 then (some (-1000000001)) else (some 0)
def m_X7_notCopied_101  (w : pv_MT) : Option (Int32) :=
  m_X7_notCopied_102 0 w
def m_X7_notCopied (x1 : Int32) (x2 : Int32) (x3 : Int32) (x4 : Int32) (x5 : Int32) (w : pv_MT) : Option (Int32) :=
  Option.bind (m_X7_isSheet x1) fun u_1 => (if u_1 = 0 then (some (-1000000001)) else (Option.bind (m_X7_isSheet x3) fun u_3 => (if u_3 = 0 then (some (-1000000001)) else (pv_gd x1 4 (if (w.2.2.2.2.2.2.2.2.2.2.2.2.2.2.1 x1.toNatClampNeg) = 0 then (some (-1000000006)) else (pv_gd x3 4 (if (w.2.2.2.2.2.2.2.2.2.2.2.2.2.2.1 x3.toNatClampNeg) = 0 then (some (-1000000006)) else (pv_gd x1 4 (pv_gd x3 4 (if (w.2.2.2.2.2.2.2.2.2.2.2.2.2.2.1 x1.toNatClampNeg) = (w.2.2.2.2.2.2.2.2.2.2.2.2.2.2.1 x3.toNatClampNeg) then (if x5 < 0 then (m_X7_notCopied_101 w) else (if x2 < 0 then (m_X7_notCopied_101 w) else (if x4 < 0 then (m_X7_notCopied_101 w) else (pv_gd x1 4 (if ((w.2.2.2.2.2.2.2.2.2.2.2.2.2.2.2.1 x1.toNatClampNeg) - x2) < x5 then (m_X7_notCopied_101 w) else (pv_gd x3 4 (if ((w.2.2.2.2.2.2.2.2.2.2.2.2.2.2.2.1 x3.toNatClampNeg) - x4) < x5 then (m_X7_notCopied_101 w) else (m_X7_notCopied_102 1 w)))))))) else (some (-1000000003))))))))))))
abbrev r_X7_notCopied : Room := { frames := 2, cells := 0, slots := 0, locals := 43 }
set_option maxHeartbeats 4000000 in
set_option maxRecDepth 100000 in
theorem c_X7_notCopied (l : Launch) (E : pv_E) (a0 a1 a2 a3 a4 a5 a6 a7 a8 a9 a10 : Nat) (x1 : Int32) (x2 : Int32) (x3 : Int32) (x4 : Int32) (x5 : Int32) (w : pv_MT) (F : Int32) (hq : m_X7_notCopied x1 x2 x3 x4 x5 w = some F) : pv_RO l E yX7_notCopied wsX7_notCopied r_X7_notCopied (pv_wM E a0 a1 a2 a3 a4 a5 a6 a7 a8 a9 a10 w) [.ref a0, .int x1, .int x2, .int x3, .int x4, .int x5] (some (.int F)) := by
  intro sz
  refine pv_mk (by decide) rfl (Nat.le_of_ble_eq_true rfl) ?_
  intro p e s m args below meth c A hx hb hr hml hown hts hlk hAe hP hD0 hA hE hS ls hl
  have hown : s.vm.findClass RX7 = some m.cls := hown
  have hK := hE.1
  have hD := hD0
  have lc_41 : (Cond.constant RX7 41 (-1000000001)).before args s = true := hts _ (by decide +kernel)
  have fl_31 : (Cond.fieldLink RX7 31 "ProvinceCardsModel" "bitsOf" "[I").before args s = true := hts _ (by decide +kernel)
  have lc_222 : (Cond.constant RX7 222 (-1000000006)).before args s = true := hts _ (by decide +kernel)
  have fl_34 : (Cond.fieldLink RX7 34 "ProvinceCardsModel" "sizeOf" "[I").before args s = true := hts _ (by decide +kernel)
  have lc_108 : (Cond.constant RX7 108 (-1000000003)).before args s = true := hts _ (by decide +kernel)
  have i_RX7 : ∀ w ∈ wsX70, w ∈ wsX7_notCopied := by decide +kernel
  have hl : lv_has ls 7 [(0, .ref a0), (1, .int x1), (2, .int x2), (3, .int x3), (4, .int x4), (5, .int x5)] := hl
  have B_102 : ∀ (y0 : Int32) (locs : List Loc) (ls : Array Slot), va_S A s.heap s.heap locs → lv_has ls 7 [] → m_X7_notCopied_102 y0 w = some F → W p l e r_X7_notCopied s m args below meth c s.heap locs 0 0 (MQ below (pv_Ro (some (.int F))) args s 0 0 A) (F0 m 102 ls [.int y0]) := by
    intro y0 locs ls hS hl hq
    refine lv_istore (pc := 102) (lv' := [(6, .int y0)]) hx hb dX7_notCopied_102 hl (Nat.le_of_ble_eq_true rfl) rfl (fun ls hl => ?_)
    refine lv_iload (pc := 104) hx hb dX7_notCopied_104 (lv_at hl 0 rfl) ?_
    refine lv_if_eq (pc := 106) (tgt := 113) hx hb dX7_notCopied_106 (by decide) (fun c_13 => ?_) (fun c_13 => ?_)
    · have hq := pv_pos c_13 hq
      refine lv_ldc (pc := 113) hx hb hown lc_41 dX7_notCopied_113 ?_
      exact pv_riRO hx hb hr hlk hS (Option.some.inj hq) dX7_notCopied_115
    · have hq := pv_neg c_13 hq
      refine lv_iconst (pc := 109) (v := 0) hx hb dX7_notCopied_109 (by decide) ?_
      refine lv_goto (pc := 110) (tgt := 115) hx hb dX7_notCopied_110 (by decide) ?_
      exact pv_riRO hx hb hr hlk hS (Option.some.inj hq) dX7_notCopied_115
  have B_101 : ∀  (locs : List Loc) (ls : Array Slot), va_S A s.heap s.heap locs → lv_has ls 7 [] → m_X7_notCopied_101 w = some F → W p l e r_X7_notCopied s m args below meth c s.heap locs 0 0 (MQ below (pv_Ro (some (.int F))) args s 0 0 A) (F0 m 101 ls []) := by
    intro locs ls hS hl hq
    refine lv_iconst (pc := 101) (v := 0) hx hb dX7_notCopied_101 (by decide) ?_
    exact B_102 0 locs ls hS (lv_sub hl [] rfl) hq
  suffices M0 : ∀ (locs : List Loc), va_S A s.heap s.heap locs → W p l e r_X7_notCopied s m args below meth c s.heap locs 0 0 (MQ below (pv_Ro (some (.int F))) args s 0 0 A) (F0 m 0 ls []) from M0 [] hS
  intro locs hS
  refine lv_iload_n (pc := 0) hx hb dX7_notCopied_0 rfl (lv_at hl 1 rfl) ?_
  obtain ⟨u_1, hu_1, hq⟩ := pv_bind hq
  refine pv_sRO (pc := 1) (rest := []) (st1 := [.int u_1]) (ws := pv_wM E a0 a1 a2 a3 a4 a5 a6 a7 a8 a9 a10 w) [.int x1] ⟨hx, hb, hml, hown, hts⟩ hE hA hS hP hD (c_X7_isSheet l E x1 u_1 hu_1) (va_cwS 1 hts gX7_notCopied_X7_isSheet rfl rfl rfl (by decide +kernel) ⟨(Nat.le_of_ble_eq_true rfl), (Nat.le_of_ble_eq_true rfl)⟩) [] rfl rfl rfl hl.1 rfl rfl (Nat.le_of_ble_eq_true rfl) dX7_notCopied_1 ⟨Nat.zero_le _, Nat.zero_le _⟩ (fun locs hS => ?_)
  refine lv_if_eq (pc := 4) (tgt := 14) hx hb dX7_notCopied_4 (by decide) (fun c_2 => ?_) (fun c_2 => ?_)
  · have hq := pv_pos c_2 hq
    refine lv_ldc (pc := 14) hx hb hown lc_41 dX7_notCopied_14 ?_
    exact pv_riRO hx hb hr hlk hS (Option.some.inj hq) dX7_notCopied_16
  · have hq := pv_neg c_2 hq
    refine lv_iload_n (pc := 7) hx hb dX7_notCopied_7 rfl (lv_at hl 3 rfl) ?_
    obtain ⟨u_3, hu_3, hq⟩ := pv_bind hq
    refine pv_sRO (pc := 8) (rest := []) (st1 := [.int u_3]) (ws := pv_wM E a0 a1 a2 a3 a4 a5 a6 a7 a8 a9 a10 w) [.int x3] ⟨hx, hb, hml, hown, hts⟩ hE hA hS hP hD (c_X7_isSheet l E x3 u_3 hu_3) (va_cwS 1 hts gX7_notCopied_X7_isSheet rfl rfl rfl (by decide +kernel) ⟨(Nat.le_of_ble_eq_true rfl), (Nat.le_of_ble_eq_true rfl)⟩) [] rfl rfl rfl hl.1 rfl rfl (Nat.le_of_ble_eq_true rfl) dX7_notCopied_8 ⟨Nat.zero_le _, Nat.zero_le _⟩ (fun locs hS => ?_)
    refine lv_if_ne (pc := 11) (tgt := 17) hx hb dX7_notCopied_11 (by decide) (fun c_4 => ?_) (fun c_4 => ?_)
    · have hq := pv_neg c_4 hq
      refine lv_aload_n (pc := 17) hx hb dX7_notCopied_17 rfl (lv_at hl 0 rfl) ?_
      refine va_get (pc := 18) (D := E.1) (ci := 5) (v := .ref a8) (C := RX7) (T := TX7) (N := 17) hx hb hts i_RX7 hown hK hP 0 rfl rfl 14 (Nat.le_of_ble_eq_true rfl) fl_31 (fun _ h9 => h9) rfl dX7_notCopied_18 ?_
      refine lv_iload_n (pc := 21) hx hb dX7_notCopied_21 rfl (lv_at hl 1 rfl) ?_
      obtain ⟨h_5, hq⟩ := pv_gd_some hq
      refine va_iald (pc := 22) (D := E.1) hx hb hK hP 8 0 rfl rfl h_5 dX7_notCopied_22 ?_
      refine lv_if_eq (pc := 23) (tgt := 35) hx hb dX7_notCopied_23 (by decide) (fun c_6 => ?_) (fun c_6 => ?_)
      · have hq := pv_pos c_6 hq
        refine lv_ldc (pc := 35) hx hb hown lc_222 dX7_notCopied_35 ?_
        exact pv_riRO hx hb hr hlk hS (Option.some.inj hq) dX7_notCopied_37
      · have hq := pv_neg c_6 hq
        refine lv_aload_n (pc := 26) hx hb dX7_notCopied_26 rfl (lv_at hl 0 rfl) ?_
        refine va_get (pc := 27) (D := E.1) (ci := 5) (v := .ref a8) (C := RX7) (T := TX7) (N := 17) hx hb hts i_RX7 hown hK hP 0 rfl rfl 14 (Nat.le_of_ble_eq_true rfl) fl_31 (fun _ h9 => h9) rfl dX7_notCopied_27 ?_
        refine lv_iload_n (pc := 30) hx hb dX7_notCopied_30 rfl (lv_at hl 3 rfl) ?_
        obtain ⟨h_7, hq⟩ := pv_gd_some hq
        refine va_iald (pc := 31) (D := E.1) hx hb hK hP 8 0 rfl rfl h_7 dX7_notCopied_31 ?_
        refine lv_if_ne (pc := 32) (tgt := 38) hx hb dX7_notCopied_32 (by decide) (fun c_8 => ?_) (fun c_8 => ?_)
        · have hq := pv_neg c_8 hq
          refine lv_aload_n (pc := 38) hx hb dX7_notCopied_38 rfl (lv_at hl 0 rfl) ?_
          refine va_get (pc := 39) (D := E.1) (ci := 5) (v := .ref a8) (C := RX7) (T := TX7) (N := 17) hx hb hts i_RX7 hown hK hP 0 rfl rfl 14 (Nat.le_of_ble_eq_true rfl) fl_31 (fun _ h9 => h9) rfl dX7_notCopied_39 ?_
          refine lv_iload_n (pc := 42) hx hb dX7_notCopied_42 rfl (lv_at hl 1 rfl) ?_
          obtain ⟨h_9, hq⟩ := pv_gd_some hq
          refine va_iald (pc := 43) (D := E.1) hx hb hK hP 8 0 rfl rfl h_9 dX7_notCopied_43 ?_
          refine lv_aload_n (pc := 44) hx hb dX7_notCopied_44 rfl (lv_at hl 0 rfl) ?_
          refine va_get (pc := 45) (D := E.1) (ci := 5) (v := .ref a8) (C := RX7) (T := TX7) (N := 17) hx hb hts i_RX7 hown hK hP 0 rfl rfl 14 (Nat.le_of_ble_eq_true rfl) fl_31 (fun _ h9 => h9) rfl dX7_notCopied_45 ?_
          refine lv_iload_n (pc := 48) hx hb dX7_notCopied_48 rfl (lv_at hl 3 rfl) ?_
          obtain ⟨h_10, hq⟩ := pv_gd_some hq
          refine va_iald (pc := 49) (D := E.1) hx hb hK hP 8 0 rfl rfl h_10 dX7_notCopied_49 ?_
          refine lv_icmp_eq (pc := 50) (tgt := 56) hx hb dX7_notCopied_50 (by decide) (fun c_11 => ?_) (fun c_11 => ?_)
          · have hq := pv_pos c_11 hq
            refine lv_iload (pc := 56) hx hb dX7_notCopied_56 (lv_at hl 5 rfl) ?_
            refine lv_if_lt (pc := 58) (tgt := 101) hx hb dX7_notCopied_58 (by decide) (fun c_12 => ?_) (fun c_12 => ?_)
            · have hq := pv_pos c_12 hq
              exact B_101  locs ls hS (lv_sub hl [] rfl) hq
            · have hq := pv_neg c_12 hq
              refine lv_iload_n (pc := 61) hx hb dX7_notCopied_61 rfl (lv_at hl 2 rfl) ?_
              refine lv_if_lt (pc := 62) (tgt := 101) hx hb dX7_notCopied_62 (by decide) (fun c_14 => ?_) (fun c_14 => ?_)
              · have hq := pv_pos c_14 hq
                exact B_101  locs ls hS (lv_sub hl [] rfl) hq
              · have hq := pv_neg c_14 hq
                refine lv_iload (pc := 65) hx hb dX7_notCopied_65 (lv_at hl 4 rfl) ?_
                refine lv_if_lt (pc := 67) (tgt := 101) hx hb dX7_notCopied_67 (by decide) (fun c_15 => ?_) (fun c_15 => ?_)
                · have hq := pv_pos c_15 hq
                  exact B_101  locs ls hS (lv_sub hl [] rfl) hq
                · have hq := pv_neg c_15 hq
                  refine lv_iload (pc := 70) hx hb dX7_notCopied_70 (lv_at hl 5 rfl) ?_
                  refine lv_aload_n (pc := 72) hx hb dX7_notCopied_72 rfl (lv_at hl 0 rfl) ?_
                  refine va_get (pc := 73) (D := E.1) (ci := 5) (v := .ref a9) (C := RX7) (T := TX7) (N := 17) hx hb hts i_RX7 hown hK hP 0 rfl rfl 15 (Nat.le_of_ble_eq_true rfl) fl_34 (fun _ h9 => h9) rfl dX7_notCopied_73 ?_
                  refine lv_iload_n (pc := 76) hx hb dX7_notCopied_76 rfl (lv_at hl 1 rfl) ?_
                  obtain ⟨h_16, hq⟩ := pv_gd_some hq
                  refine va_iald (pc := 77) (D := E.1) hx hb hK hP 9 0 rfl rfl h_16 dX7_notCopied_77 ?_
                  refine lv_iload_n (pc := 78) hx hb dX7_notCopied_78 rfl (lv_at hl 2 rfl) ?_
                  refine lv_isub (pc := 79) hx hb dX7_notCopied_79 ?_
                  refine lv_icmp_gt (pc := 80) (tgt := 101) hx hb dX7_notCopied_80 (by decide) (fun c_17 => ?_) (fun c_17 => ?_)
                  · have hq := pv_pos c_17 hq
                    exact B_101  locs ls hS (lv_sub hl [] rfl) hq
                  · have hq := pv_neg c_17 hq
                    refine lv_iload (pc := 83) hx hb dX7_notCopied_83 (lv_at hl 5 rfl) ?_
                    refine lv_aload_n (pc := 85) hx hb dX7_notCopied_85 rfl (lv_at hl 0 rfl) ?_
                    refine va_get (pc := 86) (D := E.1) (ci := 5) (v := .ref a9) (C := RX7) (T := TX7) (N := 17) hx hb hts i_RX7 hown hK hP 0 rfl rfl 15 (Nat.le_of_ble_eq_true rfl) fl_34 (fun _ h9 => h9) rfl dX7_notCopied_86 ?_
                    refine lv_iload_n (pc := 89) hx hb dX7_notCopied_89 rfl (lv_at hl 3 rfl) ?_
                    obtain ⟨h_18, hq⟩ := pv_gd_some hq
                    refine va_iald (pc := 90) (D := E.1) hx hb hK hP 9 0 rfl rfl h_18 dX7_notCopied_90 ?_
                    refine lv_iload (pc := 91) hx hb dX7_notCopied_91 (lv_at hl 4 rfl) ?_
                    refine lv_isub (pc := 93) hx hb dX7_notCopied_93 ?_
                    refine lv_icmp_gt (pc := 94) (tgt := 101) hx hb dX7_notCopied_94 (by decide) (fun c_19 => ?_) (fun c_19 => ?_)
                    · have hq := pv_pos c_19 hq
                      exact B_101  locs ls hS (lv_sub hl [] rfl) hq
                    · have hq := pv_neg c_19 hq
                      refine lv_iconst (pc := 97) (v := 1) hx hb dX7_notCopied_97 (by decide) ?_
                      refine lv_goto (pc := 98) (tgt := 102) hx hb dX7_notCopied_98 (by decide) ?_
                      exact B_102 1 locs ls hS (lv_sub hl [] rfl) hq
          · have hq := pv_neg c_11 hq
            refine lv_ldc (pc := 53) hx hb hown lc_108 dX7_notCopied_53 ?_
            exact pv_riRO hx hb hr hlk hS (Option.some.inj hq) dX7_notCopied_55
        · have hq := pv_pos c_8 hq
          refine lv_ldc (pc := 35) hx hb hown lc_222 dX7_notCopied_35 ?_
          exact pv_riRO hx hb hr hlk hS (Option.some.inj hq) dX7_notCopied_37
    · have hq := pv_pos c_4 hq
      refine lv_ldc (pc := 14) hx hb hown lc_41 dX7_notCopied_14 ?_
      exact pv_riRO hx hb hr hlk hS (Option.some.inj hq) dX7_notCopied_16
def m_X7_copy_53 (k_28 : Int32 → Int32 → Int32 → Int32 → Int32 → Int32 → pv_MT → Option (Int32 × pv_MT)) (x1 : Int32) (x2 : Int32) (x3 : Int32) (x4 : Int32) (x5 : Int32) (x7 : Int32) (y0 : Int32) (w : pv_MT) : Option (Int32 × pv_MT) :=
  pv_gd (((40 * x1) + x2) + y0) 160 (pv_gd (((40 * x3) + x4) + y0) 160 (k_28 x1 x2 x3 x4 x5 (x7 + 1) (w.1, w.2.1, w.2.2.1, w.2.2.2.1, w.2.2.2.2.1, w.2.2.2.2.2.1, w.2.2.2.2.2.2.1, w.2.2.2.2.2.2.2.1, w.2.2.2.2.2.2.2.2.1, w.2.2.2.2.2.2.2.2.2.1, w.2.2.2.2.2.2.2.2.2.2.1, w.2.2.2.2.2.2.2.2.2.2.2.1, w.2.2.2.2.2.2.2.2.2.2.2.2.1, w.2.2.2.2.2.2.2.2.2.2.2.2.2.1, w.2.2.2.2.2.2.2.2.2.2.2.2.2.2.1, w.2.2.2.2.2.2.2.2.2.2.2.2.2.2.2.1, (vp_updL w.2.2.2.2.2.2.2.2.2.2.2.2.2.2.2.2 (((40 * x3) + x4) + y0).toNatClampNeg (w.2.2.2.2.2.2.2.2.2.2.2.2.2.2.2.2 (((40 * x1) + x2) + y0).toNatClampNeg)))))
def m_X7_copy_28 : Nat → Int32 → Int32 → Int32 → Int32 → Int32 → Int32 → pv_MT → Option (Int32 × pv_MT)
  | 0 => fun _ _ _ _ _ _ _ => none
  | n + 1 => fun x1 x2 x3 x4 x5 x7 w =>
    if x5 ≤ x7 then (some (x5, w)) else (if x4 ≤ x2 then (m_X7_copy_53 (m_X7_copy_28 n) x1 x2 x3 x4 x5 x7 x7 w) else (m_X7_copy_53 (m_X7_copy_28 n) x1 x2 x3 x4 x5 x7 ((x5 - 1) - x7) w))
def m_X7_copy (x1 : Int32) (x2 : Int32) (x3 : Int32) (x4 : Int32) (x5 : Int32) (w : pv_MT) : Option (Int32 × pv_MT) :=
  Option.bind (m_X7_notCopied x1 x2 x3 x4 x5 w) fun u_1 => (if u_1 = 0 then (m_X7_copy_28 300 x1 x2 x3 x4 x5 0 w) else (Option.bind (m_X7_finds u_1 w) fun u_7 => (some (u_7.1, u_7.2))))
abbrev r_X7_copy : Room := { frames := 3, cells := 0, slots := 0, locals := 69 }
set_option maxHeartbeats 4000000 in
set_option maxRecDepth 100000 in
theorem c_X7_copy (l : Launch) (E : pv_E) (a0 a1 a2 a3 a4 a5 a6 a7 a8 a9 a10 : Nat) (x1 : Int32) (x2 : Int32) (x3 : Int32) (x4 : Int32) (x5 : Int32) (w0 : pv_MT) (F : Int32 × pv_MT) (hq : m_X7_copy x1 x2 x3 x4 x5 w0 = some F) : pv_RW l E yX7_copy wsX7_copy r_X7_copy (pv_wM E a0 a1 a2 a3 a4 a5 a6 a7 a8 a9 a10 w0) [.ref a0, .int x1, .int x2, .int x3, .int x4, .int x5] (some (.int F.1)) (pv_wM E a0 a1 a2 a3 a4 a5 a6 a7 a8 a9 a10 F.2) := by
  intro sz
  refine pv_mk (by decide) rfl (Nat.le_of_ble_eq_true rfl) ?_
  intro p e s m args below meth c A hx hb hr hml hown hts hlk hAe hP hD0 hA hE hS ls hl
  have hown : s.vm.findClass RX7 = some m.cls := hown
  have hK := hE.1
  have hD : ∀ w : pv_MT, va_D A (pv_wM E a0 a1 a2 a3 a4 a5 a6 a7 a8 a9 a10 w) := fun w => pv_Dm (ws := pv_wM E a0 a1 a2 a3 a4 a5 a6 a7 a8 a9 a10 w0) (ws' := pv_wM E a0 a1 a2 a3 a4 a5 a6 a7 a8 a9 a10 w) rfl hD0
  have hP : va_P E.1 vwCl (pv_wM E a0 a1 a2 a3 a4 a5 a6 a7 a8 a9 a10 w0) s.heap := hP
  have fl_37 : (Cond.fieldLink RX7 37 "ProvinceCardsModel" "cells" "[J").before args s = true := hts _ (by decide +kernel)
  have i_RX7 : ∀ w ∈ wsX70, w ∈ wsX7_copy := by decide +kernel
  have hl : lv_has ls 9 [(0, .ref a0), (1, .int x1), (2, .int x2), (3, .int x3), (4, .int x4), (5, .int x5)] := hl
  have B_53 : ∀ (k_28 : Int32 → Int32 → Int32 → Int32 → Int32 → Int32 → pv_MT → Option (Int32 × pv_MT)), (∀ (x1 : Int32) (x2 : Int32) (x3 : Int32) (x4 : Int32) (x5 : Int32) (x7 : Int32) (w : pv_MT) (H : Heap) (locs : List Loc) (ls : Array Slot), va_P E.1 vwCl (pv_wM E a0 a1 a2 a3 a4 a5 a6 a7 a8 a9 a10 w) H → va_S A s.heap H locs → lv_has ls 9 [(0, .ref a0), (1, .int x1), (2, .int x2), (3, .int x3), (4, .int x4), (5, .int x5), (7, .int x7)] → k_28 x1 x2 x3 x4 x5 x7 w = some F → W p l e r_X7_copy s m args below meth c H locs 0 0 (MQ below (pv_Rw E (pv_wM E a0 a1 a2 a3 a4 a5 a6 a7 a8 a9 a10 w0) sz (some (.int F.1)) ((fun w : pv_MT => pv_wM E a0 a1 a2 a3 a4 a5 a6 a7 a8 a9 a10 w) F.2)) args s 0 0 A) (F0 m 28 ls [])) → ∀ (x1 : Int32) (x2 : Int32) (x3 : Int32) (x4 : Int32) (x5 : Int32) (x7 : Int32) (y0 : Int32) (w : pv_MT) (H : Heap) (locs : List Loc) (ls : Array Slot), va_P E.1 vwCl (pv_wM E a0 a1 a2 a3 a4 a5 a6 a7 a8 a9 a10 w) H → va_S A s.heap H locs → lv_has ls 9 [(0, .ref a0), (1, .int x1), (2, .int x2), (3, .int x3), (4, .int x4), (5, .int x5), (7, .int x7)] → m_X7_copy_53 k_28 x1 x2 x3 x4 x5 x7 y0 w = some F → W p l e r_X7_copy s m args below meth c H locs 0 0 (MQ below (pv_Rw E (pv_wM E a0 a1 a2 a3 a4 a5 a6 a7 a8 a9 a10 w0) sz (some (.int F.1)) ((fun w : pv_MT => pv_wM E a0 a1 a2 a3 a4 a5 a6 a7 a8 a9 a10 w) F.2)) args s 0 0 A) (F0 m 53 ls [.int y0]) := by
    intro k_28 hk_28
    intro x1 x2 x3 x4 x5 x7 y0 w H locs ls hP hS hl hq
    refine lv_istore (pc := 53) (lv' := [(8, .int y0), (0, .ref a0), (1, .int x1), (2, .int x2), (3, .int x3), (4, .int x4), (5, .int x5), (7, .int x7)]) hx hb dX7_copy_53 hl (Nat.le_of_ble_eq_true rfl) rfl (fun ls hl => ?_)
    refine lv_aload_n (pc := 55) hx hb dX7_copy_55 rfl (lv_at hl 1 rfl) ?_
    refine va_get (pc := 56) (D := E.1) (ci := 5) (v := .ref a10) (C := RX7) (T := TX7) (N := 17) hx hb hts i_RX7 hown hK hP 0 rfl rfl 16 (Nat.le_of_ble_eq_true rfl) fl_37 (fun _ h9 => h9) rfl dX7_copy_56 ?_
    refine lv_bipush (pc := 59) (v := 40) hx hb dX7_copy_59 (by decide) ?_
    refine lv_iload_n (pc := 61) hx hb dX7_copy_61 rfl (lv_at hl 4 rfl) ?_
    refine lv_imul (pc := 62) hx hb dX7_copy_62 ?_
    refine lv_iload (pc := 63) hx hb dX7_copy_63 (lv_at hl 5 rfl) ?_
    refine lv_iadd (pc := 65) hx hb dX7_copy_65 ?_
    refine lv_iload (pc := 66) hx hb dX7_copy_66 (lv_at hl 0 rfl) ?_
    refine lv_iadd (pc := 68) hx hb dX7_copy_68 ?_
    refine lv_aload_n (pc := 69) hx hb dX7_copy_69 rfl (lv_at hl 1 rfl) ?_
    refine va_get (pc := 70) (D := E.1) (ci := 5) (v := .ref a10) (C := RX7) (T := TX7) (N := 17) hx hb hts i_RX7 hown hK hP 0 rfl rfl 16 (Nat.le_of_ble_eq_true rfl) fl_37 (fun _ h9 => h9) rfl dX7_copy_70 ?_
    refine lv_bipush (pc := 73) (v := 40) hx hb dX7_copy_73 (by decide) ?_
    refine lv_iload_n (pc := 75) hx hb dX7_copy_75 rfl (lv_at hl 2 rfl) ?_
    refine lv_imul (pc := 76) hx hb dX7_copy_76 ?_
    refine lv_iload_n (pc := 77) hx hb dX7_copy_77 rfl (lv_at hl 3 rfl) ?_
    refine lv_iadd (pc := 78) hx hb dX7_copy_78 ?_
    refine lv_iload (pc := 79) hx hb dX7_copy_79 (lv_at hl 0 rfl) ?_
    refine lv_iadd (pc := 81) hx hb dX7_copy_81 ?_
    obtain ⟨h_5, hq⟩ := pv_gd_some hq
    refine va_lald (pc := 82) (D := E.1) hx hb hK hP 10 1 rfl rfl h_5 dX7_copy_82 ?_
    obtain ⟨h_6, hq⟩ := pv_gd_some hq
    refine va_last (pc := 83) (D := E.1) hx hb hK hP (hD w) hS 10 1 rfl rfl h_6 dX7_copy_83 (fun H locs hP _ hS => ?_)
    have hP : va_P E.1 vwCl (pv_wM E a0 a1 a2 a3 a4 a5 a6 a7 a8 a9 a10 (w.1, w.2.1, w.2.2.1, w.2.2.2.1, w.2.2.2.2.1, w.2.2.2.2.2.1, w.2.2.2.2.2.2.1, w.2.2.2.2.2.2.2.1, w.2.2.2.2.2.2.2.2.1, w.2.2.2.2.2.2.2.2.2.1, w.2.2.2.2.2.2.2.2.2.2.1, w.2.2.2.2.2.2.2.2.2.2.2.1, w.2.2.2.2.2.2.2.2.2.2.2.2.1, w.2.2.2.2.2.2.2.2.2.2.2.2.2.1, w.2.2.2.2.2.2.2.2.2.2.2.2.2.2.1, w.2.2.2.2.2.2.2.2.2.2.2.2.2.2.2.1, (vp_updL w.2.2.2.2.2.2.2.2.2.2.2.2.2.2.2.2 (((40 * x3) + x4) + y0).toNatClampNeg (w.2.2.2.2.2.2.2.2.2.2.2.2.2.2.2.2 (((40 * x1) + x2) + y0).toNatClampNeg)))) H := hP
    refine lv_iinc (pc := 84) (v := (x7 + 1)) (lv' := [(7, .int (x7 + 1)), (8, .int y0), (0, .ref a0), (1, .int x1), (2, .int x2), (3, .int x3), (4, .int x4), (5, .int x5)]) hx hb dX7_copy_84 hl (k := 7) rfl rfl (Nat.le_of_ble_eq_true rfl) rfl (fun ls hl => ?_)
    refine lv_goto (pc := 87) (tgt := 28) hx hb dX7_copy_87 (by decide) ?_
    exact hk_28 x1 x2 x3 x4 x5 (x7 + 1) (w.1, w.2.1, w.2.2.1, w.2.2.2.1, w.2.2.2.2.1, w.2.2.2.2.2.1, w.2.2.2.2.2.2.1, w.2.2.2.2.2.2.2.1, w.2.2.2.2.2.2.2.2.1, w.2.2.2.2.2.2.2.2.2.1, w.2.2.2.2.2.2.2.2.2.2.1, w.2.2.2.2.2.2.2.2.2.2.2.1, w.2.2.2.2.2.2.2.2.2.2.2.2.1, w.2.2.2.2.2.2.2.2.2.2.2.2.2.1, w.2.2.2.2.2.2.2.2.2.2.2.2.2.2.1, w.2.2.2.2.2.2.2.2.2.2.2.2.2.2.2.1, (vp_updL w.2.2.2.2.2.2.2.2.2.2.2.2.2.2.2.2 (((40 * x3) + x4) + y0).toNatClampNeg (w.2.2.2.2.2.2.2.2.2.2.2.2.2.2.2.2 (((40 * x1) + x2) + y0).toNatClampNeg))) H locs ls hP hS (lv_sub hl [2, 3, 4, 5, 6, 7, 0] rfl) hq
  have L_28 : ∀ n : Nat, ∀ (x1 : Int32) (x2 : Int32) (x3 : Int32) (x4 : Int32) (x5 : Int32) (x7 : Int32) (w : pv_MT) (H : Heap) (locs : List Loc) (ls : Array Slot), va_P E.1 vwCl (pv_wM E a0 a1 a2 a3 a4 a5 a6 a7 a8 a9 a10 w) H → va_S A s.heap H locs → lv_has ls 9 [(0, .ref a0), (1, .int x1), (2, .int x2), (3, .int x3), (4, .int x4), (5, .int x5), (7, .int x7)] → m_X7_copy_28 n x1 x2 x3 x4 x5 x7 w = some F → W p l e r_X7_copy s m args below meth c H locs 0 0 (MQ below (pv_Rw E (pv_wM E a0 a1 a2 a3 a4 a5 a6 a7 a8 a9 a10 w0) sz (some (.int F.1)) ((fun w : pv_MT => pv_wM E a0 a1 a2 a3 a4 a5 a6 a7 a8 a9 a10 w) F.2)) args s 0 0 A) (F0 m 28 ls []) := by
    intro n
    induction n with
    | zero =>
      intro x1 x2 x3 x4 x5 x7 w H locs ls hP hS hl hq
      exact (pv_no hq).elim
    | succ n ih =>
      intro x1 x2 x3 x4 x5 x7 w H locs ls hP hS hl hq
      refine lv_iload (pc := 28) hx hb dX7_copy_28 (lv_at hl 6 rfl) ?_
      refine lv_iload (pc := 30) hx hb dX7_copy_30 (lv_at hl 5 rfl) ?_
      refine lv_icmp_ge (pc := 32) (tgt := 90) hx hb dX7_copy_32 (by decide) (fun c_3 => ?_) (fun c_3 => ?_)
      · have hq := pv_pos c_3 hq
        refine lv_iload (pc := 90) hx hb dX7_copy_90 (lv_at hl 5 rfl) ?_
        exact pv_riRW (w := fun w : pv_MT => pv_wM E a0 a1 a2 a3 a4 a5 a6 a7 a8 a9 a10 w) hx hb hr hlk hAe hS hP (Option.some.inj hq) dX7_copy_92
      · have hq := pv_neg c_3 hq
        refine lv_iload_n (pc := 35) hx hb dX7_copy_35 rfl (lv_at hl 2 rfl) ?_
        refine lv_iload (pc := 36) hx hb dX7_copy_36 (lv_at hl 4 rfl) ?_
        refine lv_icmp_ge (pc := 38) (tgt := 51) hx hb dX7_copy_38 (by decide) (fun c_4 => ?_) (fun c_4 => ?_)
        · have hq := pv_pos c_4 hq
          refine lv_iload (pc := 51) hx hb dX7_copy_51 (lv_at hl 6 rfl) ?_
          exact B_53 (m_X7_copy_28 n) ih x1 x2 x3 x4 x5 x7 x7 w H locs ls hP hS (lv_sub hl [0, 1, 2, 3, 4, 5, 6] rfl) hq
        · have hq := pv_neg c_4 hq
          refine lv_iload (pc := 41) hx hb dX7_copy_41 (lv_at hl 5 rfl) ?_
          refine lv_iconst (pc := 43) (v := 1) hx hb dX7_copy_43 (by decide) ?_
          refine lv_isub (pc := 44) hx hb dX7_copy_44 ?_
          refine lv_iload (pc := 45) hx hb dX7_copy_45 (lv_at hl 6 rfl) ?_
          refine lv_isub (pc := 47) hx hb dX7_copy_47 ?_
          refine lv_goto (pc := 48) (tgt := 53) hx hb dX7_copy_48 (by decide) ?_
          exact B_53 (m_X7_copy_28 n) ih x1 x2 x3 x4 x5 x7 ((x5 - 1) - x7) w H locs ls hP hS (lv_sub hl [0, 1, 2, 3, 4, 5, 6] rfl) hq
  suffices M0 : ∀ (H : Heap) (locs : List Loc), va_P E.1 vwCl (pv_wM E a0 a1 a2 a3 a4 a5 a6 a7 a8 a9 a10 w0) H → va_S A s.heap H locs → W p l e r_X7_copy s m args below meth c H locs 0 0 (MQ below (pv_Rw E (pv_wM E a0 a1 a2 a3 a4 a5 a6 a7 a8 a9 a10 w0) sz (some (.int F.1)) ((fun w : pv_MT => pv_wM E a0 a1 a2 a3 a4 a5 a6 a7 a8 a9 a10 w) F.2)) args s 0 0 A) (F0 m 0 ls []) from M0 s.heap [] hP hS
  intro H locs hP hS
  refine lv_aload_n (pc := 0) hx hb dX7_copy_0 rfl (lv_at hl 0 rfl) ?_
  refine lv_iload_n (pc := 1) hx hb dX7_copy_1 rfl (lv_at hl 1 rfl) ?_
  refine lv_iload_n (pc := 2) hx hb dX7_copy_2 rfl (lv_at hl 2 rfl) ?_
  refine lv_iload_n (pc := 3) hx hb dX7_copy_3 rfl (lv_at hl 3 rfl) ?_
  refine lv_iload (pc := 4) hx hb dX7_copy_4 (lv_at hl 4 rfl) ?_
  refine lv_iload (pc := 6) hx hb dX7_copy_6 (lv_at hl 5 rfl) ?_
  obtain ⟨u_1, hu_1, hq⟩ := pv_bind hq
  refine pv_vROf (pc := 8) (rest := []) (st1 := [.int u_1]) (ws := pv_wM E a0 a1 a2 a3 a4 a5 a6 a7 a8 a9 a10 w0) [.int x1, .int x2, .int x3, .int x4, .int x5] ⟨hx, hb, hml, hown, hts⟩ hE hA hS hP (hD w0) (c_X7_notCopied l E a0 a1 a2 a3 a4 a5 a6 a7 a8 a9 a10 x1 x2 x3 x4 x5 w0 u_1 hu_1) (cwV 5 hts gX7_copy_X7_notCopied rfl rfl rfl (by decide +kernel) ⟨(Nat.le_of_ble_eq_true rfl), (Nat.le_of_ble_eq_true rfl)⟩) (va_recv hK hP (ci := 5) (q0 := 0) rfl rfl) rfl hl.1 rfl rfl (Nat.le_of_ble_eq_true rfl) dX7_copy_8 ⟨Nat.zero_le _, Nat.zero_le _⟩ (fun locs hS => ?_)
  refine lv_istore (pc := 11) (lv' := [(6, .int u_1), (0, .ref a0), (1, .int x1), (2, .int x2), (3, .int x3), (4, .int x4), (5, .int x5)]) hx hb dX7_copy_11 hl (Nat.le_of_ble_eq_true rfl) rfl (fun ls hl => ?_)
  refine lv_iload (pc := 13) hx hb dX7_copy_13 (lv_at hl 0 rfl) ?_
  refine lv_if_eq (pc := 15) (tgt := 25) hx hb dX7_copy_15 (by decide) (fun c_2 => ?_) (fun c_2 => ?_)
  · have hq := pv_pos c_2 hq
    refine lv_iconst (pc := 25) (v := 0) hx hb dX7_copy_25 (by decide) ?_
    refine lv_istore (pc := 26) (lv' := [(7, .int 0), (6, .int u_1), (0, .ref a0), (1, .int x1), (2, .int x2), (3, .int x3), (4, .int x4), (5, .int x5)]) hx hb dX7_copy_26 hl (Nat.le_of_ble_eq_true rfl) rfl (fun ls hl => ?_)
    exact L_28 300 x1 x2 x3 x4 x5 0 w0 H locs ls hP hS (lv_sub hl [2, 3, 4, 5, 6, 7, 0] rfl) hq
  · have hq := pv_neg c_2 hq
    refine lv_aload_n (pc := 18) hx hb dX7_copy_18 rfl (lv_at hl 1 rfl) ?_
    refine lv_iload (pc := 19) hx hb dX7_copy_19 (lv_at hl 0 rfl) ?_
    obtain ⟨u_7, hu_7, hq⟩ := pv_bind hq
    refine pv_vRWf (pc := 21) (rest := []) (st1 := [.int u_7.1]) (ws := pv_wM E a0 a1 a2 a3 a4 a5 a6 a7 a8 a9 a10 w0) [.int u_1] ⟨hx, hb, hml, hown, hts⟩ hE hA hS hP (hD w0) (c_X7_finds l E a0 a1 a2 a3 a4 a5 a6 a7 a8 a9 a10 u_1 w0 u_7 hu_7) (cwV 1 hts gX7_copy_X7_finds rfl rfl rfl (by decide +kernel) ⟨(Nat.le_of_ble_eq_true rfl), (Nat.le_of_ble_eq_true rfl)⟩) (va_recv hK hP (ci := 5) (q0 := 0) rfl rfl) rfl hl.1 rfl rfl (Nat.le_of_ble_eq_true rfl) dX7_copy_21 ⟨Nat.zero_le _, Nat.zero_le _⟩ (fun H locs hP hS => ?_)
    have hP : va_P E.1 vwCl (pv_wM E a0 a1 a2 a3 a4 a5 a6 a7 a8 a9 a10 u_7.2) H := hP
    exact pv_riRW (w := fun w : pv_MT => pv_wM E a0 a1 a2 a3 a4 a5 a6 a7 a8 a9 a10 w) hx hb hr hlk hAe hS hP (Option.some.inj hq) dX7_copy_24
def m_X7_lays_85 (k_21 : Int32 → Int32 → Int32 → pv_MT → Option (Int32 × pv_MT)) (x1 : Int32) (x3 : Int32) (x4 : Int32) (w : pv_MT) : Option (Int32 × pv_MT) :=
  k_21 x1 x3 (x4 + 1) w
def m_X7_lays_21 : Nat → Int32 → Int32 → Int32 → pv_MT → Option (Int32 × pv_MT)
  | 0 => fun _ _ _ _ => none
  | n + 1 => fun x1 x3 x4 w =>
    pv_gd x1 4 (if (w.2.2.2.2.2.2.2.2.2.2.2.2.2.2.2.1 x1.toNatClampNeg) ≤ x4 then (some (x3, w)) else (if 8 ≤ x4 then (some (x3, w)) else (pv_gd ((40 * x1) + x4) 160 (if (m_X7_in (w.2.2.2.2.2.2.2.2.2.2.2.2.2.2.2.2 ((40 * x1) + x4).toNatClampNeg) (-1) 1) = 0 then (m_X7_lays_85 (m_X7_lays_21 n) x1 x3 x4 w) else (pv_gd ((40 * x1) + x4) 160 (pv_gd (7 + x4) 31 (m_X7_lays_85 (m_X7_lays_21 n) x1 (x3 + 1) x4 ((upd w.1 (7 + x4).toNatClampNeg ((w.2.2.2.2.2.2.2.2.2.2.2.2.2.2.2.2 ((40 * x1) + x4).toNatClampNeg).toInt32)), w.2.1, w.2.2.1, w.2.2.2.1, w.2.2.2.2.1, w.2.2.2.2.2.1, w.2.2.2.2.2.2.1, w.2.2.2.2.2.2.2.1, w.2.2.2.2.2.2.2.2.1, w.2.2.2.2.2.2.2.2.2.1, w.2.2.2.2.2.2.2.2.2.2.1, w.2.2.2.2.2.2.2.2.2.2.2.1, w.2.2.2.2.2.2.2.2.2.2.2.2.1, w.2.2.2.2.2.2.2.2.2.2.2.2.2.1, w.2.2.2.2.2.2.2.2.2.2.2.2.2.2.1, w.2.2.2.2.2.2.2.2.2.2.2.2.2.2.2.1, w.2.2.2.2.2.2.2.2.2.2.2.2.2.2.2.2))))))))
def m_X7_lays (x1 : Int32) (w : pv_MT) : Option (Int32 × pv_MT) :=
  Option.bind (m_X7_notThere x1 w) fun u_1 => (if u_1 = 0 then (m_X7_lays_21 300 x1 0 0 w) else (Option.bind (m_X7_finds u_1 w) fun u_10 => (some (u_10.1, u_10.2))))
abbrev r_X7_lays : Room := { frames := 3, cells := 0, slots := 0, locals := 64 }
set_option maxHeartbeats 4000000 in
set_option maxRecDepth 100000 in
theorem c_X7_lays (l : Launch) (E : pv_E) (a0 a1 a2 a3 a4 a5 a6 a7 a8 a9 a10 : Nat) (x1 : Int32) (w0 : pv_MT) (F : Int32 × pv_MT) (hq : m_X7_lays x1 w0 = some F) : pv_RW l E yX7_lays wsX7_lays r_X7_lays (pv_wM E a0 a1 a2 a3 a4 a5 a6 a7 a8 a9 a10 w0) [.ref a0, .int x1] (some (.int F.1)) (pv_wM E a0 a1 a2 a3 a4 a5 a6 a7 a8 a9 a10 F.2) := by
  intro sz
  refine pv_mk (by decide) rfl (Nat.le_of_ble_eq_true rfl) ?_
  intro p e s m args below meth c A hx hb hr hml hown hts hlk hAe hP hD0 hA hE hS ls hl
  have hown : s.vm.findClass RX7 = some m.cls := hown
  have hK := hE.1
  have hD : ∀ w : pv_MT, va_D A (pv_wM E a0 a1 a2 a3 a4 a5 a6 a7 a8 a9 a10 w) := fun w => pv_Dm (ws := pv_wM E a0 a1 a2 a3 a4 a5 a6 a7 a8 a9 a10 w0) (ws' := pv_wM E a0 a1 a2 a3 a4 a5 a6 a7 a8 a9 a10 w) rfl hD0
  have hP : va_P E.1 vwCl (pv_wM E a0 a1 a2 a3 a4 a5 a6 a7 a8 a9 a10 w0) s.heap := hP
  have fl_34 : (Cond.fieldLink RX7 34 "ProvinceCardsModel" "sizeOf" "[I").before args s = true := hts _ (by decide +kernel)
  have fl_37 : (Cond.fieldLink RX7 37 "ProvinceCardsModel" "cells" "[J").before args s = true := hts _ (by decide +kernel)
  have fl_9 : (Cond.fieldLink RX7 9 "ProvinceCardsModel" "m" "[I").before args s = true := hts _ (by decide +kernel)
  have i_RX7 : ∀ w ∈ wsX70, w ∈ wsX7_lays := by decide +kernel
  have hl : lv_has ls 5 [(0, .ref a0), (1, .int x1)] := hl
  have B_85 : ∀ (k_21 : Int32 → Int32 → Int32 → pv_MT → Option (Int32 × pv_MT)), (∀ (x1 : Int32) (x3 : Int32) (x4 : Int32) (w : pv_MT) (H : Heap) (locs : List Loc) (ls : Array Slot), va_P E.1 vwCl (pv_wM E a0 a1 a2 a3 a4 a5 a6 a7 a8 a9 a10 w) H → va_S A s.heap H locs → lv_has ls 5 [(0, .ref a0), (1, .int x1), (3, .int x3), (4, .int x4)] → k_21 x1 x3 x4 w = some F → W p l e r_X7_lays s m args below meth c H locs 0 0 (MQ below (pv_Rw E (pv_wM E a0 a1 a2 a3 a4 a5 a6 a7 a8 a9 a10 w0) sz (some (.int F.1)) ((fun w : pv_MT => pv_wM E a0 a1 a2 a3 a4 a5 a6 a7 a8 a9 a10 w) F.2)) args s 0 0 A) (F0 m 21 ls [])) → ∀ (x1 : Int32) (x3 : Int32) (x4 : Int32) (w : pv_MT) (H : Heap) (locs : List Loc) (ls : Array Slot), va_P E.1 vwCl (pv_wM E a0 a1 a2 a3 a4 a5 a6 a7 a8 a9 a10 w) H → va_S A s.heap H locs → lv_has ls 5 [(0, .ref a0), (1, .int x1), (3, .int x3), (4, .int x4)] → m_X7_lays_85 k_21 x1 x3 x4 w = some F → W p l e r_X7_lays s m args below meth c H locs 0 0 (MQ below (pv_Rw E (pv_wM E a0 a1 a2 a3 a4 a5 a6 a7 a8 a9 a10 w0) sz (some (.int F.1)) ((fun w : pv_MT => pv_wM E a0 a1 a2 a3 a4 a5 a6 a7 a8 a9 a10 w) F.2)) args s 0 0 A) (F0 m 85 ls []) := by
    intro k_21 hk_21
    intro x1 x3 x4 w H locs ls hP hS hl hq
    refine lv_iinc (pc := 85) (v := (x4 + 1)) (lv' := [(4, .int (x4 + 1)), (0, .ref a0), (1, .int x1), (3, .int x3)]) hx hb dX7_lays_85 hl (k := 3) rfl rfl (Nat.le_of_ble_eq_true rfl) rfl (fun ls hl => ?_)
    refine lv_goto (pc := 88) (tgt := 21) hx hb dX7_lays_88 (by decide) ?_
    exact hk_21 x1 x3 (x4 + 1) w H locs ls hP hS (lv_sub hl [1, 2, 3, 0] rfl) hq
  have L_21 : ∀ n : Nat, ∀ (x1 : Int32) (x3 : Int32) (x4 : Int32) (w : pv_MT) (H : Heap) (locs : List Loc) (ls : Array Slot), va_P E.1 vwCl (pv_wM E a0 a1 a2 a3 a4 a5 a6 a7 a8 a9 a10 w) H → va_S A s.heap H locs → lv_has ls 5 [(0, .ref a0), (1, .int x1), (3, .int x3), (4, .int x4)] → m_X7_lays_21 n x1 x3 x4 w = some F → W p l e r_X7_lays s m args below meth c H locs 0 0 (MQ below (pv_Rw E (pv_wM E a0 a1 a2 a3 a4 a5 a6 a7 a8 a9 a10 w0) sz (some (.int F.1)) ((fun w : pv_MT => pv_wM E a0 a1 a2 a3 a4 a5 a6 a7 a8 a9 a10 w) F.2)) args s 0 0 A) (F0 m 21 ls []) := by
    intro n
    induction n with
    | zero =>
      intro x1 x3 x4 w H locs ls hP hS hl hq
      exact (pv_no hq).elim
    | succ n ih =>
      intro x1 x3 x4 w H locs ls hP hS hl hq
      refine lv_iload (pc := 21) hx hb dX7_lays_21 (lv_at hl 3 rfl) ?_
      refine lv_aload_n (pc := 23) hx hb dX7_lays_23 rfl (lv_at hl 0 rfl) ?_
      refine va_get (pc := 24) (D := E.1) (ci := 5) (v := .ref a9) (C := RX7) (T := TX7) (N := 17) hx hb hts i_RX7 hown hK hP 0 rfl rfl 15 (Nat.le_of_ble_eq_true rfl) fl_34 (fun _ h9 => h9) rfl dX7_lays_24 ?_
      refine lv_iload_n (pc := 27) hx hb dX7_lays_27 rfl (lv_at hl 1 rfl) ?_
      obtain ⟨h_3, hq⟩ := pv_gd_some hq
      refine va_iald (pc := 28) (D := E.1) hx hb hK hP 9 0 rfl rfl h_3 dX7_lays_28 ?_
      refine lv_icmp_ge (pc := 29) (tgt := 91) hx hb dX7_lays_29 (by decide) (fun c_4 => ?_) (fun c_4 => ?_)
      · have hq := pv_pos c_4 hq
        refine lv_iload_n (pc := 91) hx hb dX7_lays_91 rfl (lv_at hl 2 rfl) ?_
        exact pv_riRW (w := fun w : pv_MT => pv_wM E a0 a1 a2 a3 a4 a5 a6 a7 a8 a9 a10 w) hx hb hr hlk hAe hS hP (Option.some.inj hq) dX7_lays_92
      · have hq := pv_neg c_4 hq
        refine lv_iload (pc := 32) hx hb dX7_lays_32 (lv_at hl 3 rfl) ?_
        refine lv_bipush (pc := 34) (v := 8) hx hb dX7_lays_34 (by decide) ?_
        refine lv_icmp_ge (pc := 36) (tgt := 91) hx hb dX7_lays_36 (by decide) (fun c_5 => ?_) (fun c_5 => ?_)
        · have hq := pv_pos c_5 hq
          refine lv_iload_n (pc := 91) hx hb dX7_lays_91 rfl (lv_at hl 2 rfl) ?_
          exact pv_riRW (w := fun w : pv_MT => pv_wM E a0 a1 a2 a3 a4 a5 a6 a7 a8 a9 a10 w) hx hb hr hlk hAe hS hP (Option.some.inj hq) dX7_lays_92
        · have hq := pv_neg c_5 hq
          refine lv_aload_n (pc := 39) hx hb dX7_lays_39 rfl (lv_at hl 0 rfl) ?_
          refine va_get (pc := 40) (D := E.1) (ci := 5) (v := .ref a10) (C := RX7) (T := TX7) (N := 17) hx hb hts i_RX7 hown hK hP 0 rfl rfl 16 (Nat.le_of_ble_eq_true rfl) fl_37 (fun _ h9 => h9) rfl dX7_lays_40 ?_
          refine lv_bipush (pc := 43) (v := 40) hx hb dX7_lays_43 (by decide) ?_
          refine lv_iload_n (pc := 45) hx hb dX7_lays_45 rfl (lv_at hl 1 rfl) ?_
          refine lv_imul (pc := 46) hx hb dX7_lays_46 ?_
          refine lv_iload (pc := 47) hx hb dX7_lays_47 (lv_at hl 3 rfl) ?_
          refine lv_iadd (pc := 49) hx hb dX7_lays_49 ?_
          obtain ⟨h_6, hq⟩ := pv_gd_some hq
          refine va_lald (pc := 50) (D := E.1) hx hb hK hP 10 1 rfl rfl h_6 dX7_lays_50 ?_
          refine lv_iconst (pc := 51) (v := (-1)) hx hb dX7_lays_51 (by decide) ?_
          refine lv_iconst (pc := 52) (v := 1) hx hb dX7_lays_52 (by decide) ?_
          refine pv_sRO (pc := 53) (rest := []) (st1 := [.int (m_X7_in (w.2.2.2.2.2.2.2.2.2.2.2.2.2.2.2.2 ((40 * x1) + x4).toNatClampNeg) (-1) 1)]) (ws := pv_wM E a0 a1 a2 a3 a4 a5 a6 a7 a8 a9 a10 w) [.long (w.2.2.2.2.2.2.2.2.2.2.2.2.2.2.2.2 ((40 * x1) + x4).toNatClampNeg), .int (-1), .int 1] ⟨hx, hb, hml, hown, hts⟩ hE hA hS hP (hD w) (c_X7_in l E (w.2.2.2.2.2.2.2.2.2.2.2.2.2.2.2.2 ((40 * x1) + x4).toNatClampNeg) (-1) 1) (va_cwS 3 hts gX7_lays_X7_in rfl rfl rfl (by decide +kernel) ⟨(Nat.le_of_ble_eq_true rfl), (Nat.le_of_ble_eq_true rfl)⟩) [] rfl rfl rfl hl.1 rfl rfl (Nat.le_of_ble_eq_true rfl) dX7_lays_53 ⟨Nat.zero_le _, Nat.zero_le _⟩ (fun locs hS => ?_)
          refine lv_if_eq (pc := 56) (tgt := 85) hx hb dX7_lays_56 (by decide) (fun c_7 => ?_) (fun c_7 => ?_)
          · have hq := pv_pos c_7 hq
            exact B_85 (m_X7_lays_21 n) ih x1 x3 x4 w H locs ls hP hS (lv_sub hl [0, 1, 2, 3] rfl) hq
          · have hq := pv_neg c_7 hq
            refine lv_aload_n (pc := 59) hx hb dX7_lays_59 rfl (lv_at hl 0 rfl) ?_
            refine va_get (pc := 60) (D := E.1) (ci := 5) (v := .ref a1) (C := RX7) (T := TX7) (N := 17) hx hb hts i_RX7 hown hK hP 0 rfl rfl 0 (Nat.le_of_ble_eq_true rfl) fl_9 (fun _ h9 => h9) rfl dX7_lays_60 ?_
            refine lv_bipush (pc := 63) (v := 7) hx hb dX7_lays_63 (by decide) ?_
            refine lv_iload (pc := 65) hx hb dX7_lays_65 (lv_at hl 3 rfl) ?_
            refine lv_iadd (pc := 67) hx hb dX7_lays_67 ?_
            refine lv_aload_n (pc := 68) hx hb dX7_lays_68 rfl (lv_at hl 0 rfl) ?_
            refine va_get (pc := 69) (D := E.1) (ci := 5) (v := .ref a10) (C := RX7) (T := TX7) (N := 17) hx hb hts i_RX7 hown hK hP 0 rfl rfl 16 (Nat.le_of_ble_eq_true rfl) fl_37 (fun _ h9 => h9) rfl dX7_lays_69 ?_
            refine lv_bipush (pc := 72) (v := 40) hx hb dX7_lays_72 (by decide) ?_
            refine lv_iload_n (pc := 74) hx hb dX7_lays_74 rfl (lv_at hl 1 rfl) ?_
            refine lv_imul (pc := 75) hx hb dX7_lays_75 ?_
            refine lv_iload (pc := 76) hx hb dX7_lays_76 (lv_at hl 3 rfl) ?_
            refine lv_iadd (pc := 78) hx hb dX7_lays_78 ?_
            obtain ⟨h_8, hq⟩ := pv_gd_some hq
            refine va_lald (pc := 79) (D := E.1) hx hb hK hP 10 1 rfl rfl h_8 dX7_lays_79 ?_
            refine lv_l2i (pc := 80) (v := (w.2.2.2.2.2.2.2.2.2.2.2.2.2.2.2.2 ((40 * x1) + x4).toNatClampNeg).toInt32) hx hb dX7_lays_80 rfl ?_
            obtain ⟨h_9, hq⟩ := pv_gd_some hq
            refine va_iast (pc := 81) (D := E.1) hx hb hK hP (hD w) hS 1 0 rfl rfl h_9 dX7_lays_81 (fun H locs hP _ hS => ?_)
            have hP : va_P E.1 vwCl (pv_wM E a0 a1 a2 a3 a4 a5 a6 a7 a8 a9 a10 ((upd w.1 (7 + x4).toNatClampNeg ((w.2.2.2.2.2.2.2.2.2.2.2.2.2.2.2.2 ((40 * x1) + x4).toNatClampNeg).toInt32)), w.2.1, w.2.2.1, w.2.2.2.1, w.2.2.2.2.1, w.2.2.2.2.2.1, w.2.2.2.2.2.2.1, w.2.2.2.2.2.2.2.1, w.2.2.2.2.2.2.2.2.1, w.2.2.2.2.2.2.2.2.2.1, w.2.2.2.2.2.2.2.2.2.2.1, w.2.2.2.2.2.2.2.2.2.2.2.1, w.2.2.2.2.2.2.2.2.2.2.2.2.1, w.2.2.2.2.2.2.2.2.2.2.2.2.2.1, w.2.2.2.2.2.2.2.2.2.2.2.2.2.2.1, w.2.2.2.2.2.2.2.2.2.2.2.2.2.2.2.1, w.2.2.2.2.2.2.2.2.2.2.2.2.2.2.2.2)) H := hP
            refine lv_iinc (pc := 82) (v := (x3 + 1)) (lv' := [(3, .int (x3 + 1)), (0, .ref a0), (1, .int x1), (4, .int x4)]) hx hb dX7_lays_82 hl (k := 2) rfl rfl (Nat.le_of_ble_eq_true rfl) rfl (fun ls hl => ?_)
            exact B_85 (m_X7_lays_21 n) ih x1 (x3 + 1) x4 ((upd w.1 (7 + x4).toNatClampNeg ((w.2.2.2.2.2.2.2.2.2.2.2.2.2.2.2.2 ((40 * x1) + x4).toNatClampNeg).toInt32)), w.2.1, w.2.2.1, w.2.2.2.1, w.2.2.2.2.1, w.2.2.2.2.2.1, w.2.2.2.2.2.2.1, w.2.2.2.2.2.2.2.1, w.2.2.2.2.2.2.2.2.1, w.2.2.2.2.2.2.2.2.2.1, w.2.2.2.2.2.2.2.2.2.2.1, w.2.2.2.2.2.2.2.2.2.2.2.1, w.2.2.2.2.2.2.2.2.2.2.2.2.1, w.2.2.2.2.2.2.2.2.2.2.2.2.2.1, w.2.2.2.2.2.2.2.2.2.2.2.2.2.2.1, w.2.2.2.2.2.2.2.2.2.2.2.2.2.2.2.1, w.2.2.2.2.2.2.2.2.2.2.2.2.2.2.2.2) H locs ls hP hS (lv_sub hl [1, 2, 0, 3] rfl) hq
  suffices M0 : ∀ (H : Heap) (locs : List Loc), va_P E.1 vwCl (pv_wM E a0 a1 a2 a3 a4 a5 a6 a7 a8 a9 a10 w0) H → va_S A s.heap H locs → W p l e r_X7_lays s m args below meth c H locs 0 0 (MQ below (pv_Rw E (pv_wM E a0 a1 a2 a3 a4 a5 a6 a7 a8 a9 a10 w0) sz (some (.int F.1)) ((fun w : pv_MT => pv_wM E a0 a1 a2 a3 a4 a5 a6 a7 a8 a9 a10 w) F.2)) args s 0 0 A) (F0 m 0 ls []) from M0 s.heap [] hP hS
  intro H locs hP hS
  refine lv_aload_n (pc := 0) hx hb dX7_lays_0 rfl (lv_at hl 0 rfl) ?_
  refine lv_iload_n (pc := 1) hx hb dX7_lays_1 rfl (lv_at hl 1 rfl) ?_
  obtain ⟨u_1, hu_1, hq⟩ := pv_bind hq
  refine pv_vROf (pc := 2) (rest := []) (st1 := [.int u_1]) (ws := pv_wM E a0 a1 a2 a3 a4 a5 a6 a7 a8 a9 a10 w0) [.int x1] ⟨hx, hb, hml, hown, hts⟩ hE hA hS hP (hD w0) (c_X7_notThere l E a0 a1 a2 a3 a4 a5 a6 a7 a8 a9 a10 x1 w0 u_1 hu_1) (cwV 1 hts gX7_lays_X7_notThere rfl rfl rfl (by decide +kernel) ⟨(Nat.le_of_ble_eq_true rfl), (Nat.le_of_ble_eq_true rfl)⟩) (va_recv hK hP (ci := 5) (q0 := 0) rfl rfl) rfl hl.1 rfl rfl (Nat.le_of_ble_eq_true rfl) dX7_lays_2 ⟨Nat.zero_le _, Nat.zero_le _⟩ (fun locs hS => ?_)
  refine lv_istore_n (pc := 5) (lv' := [(2, .int u_1), (0, .ref a0), (1, .int x1)]) hx hb dX7_lays_5 rfl hl (Nat.le_of_ble_eq_true rfl) rfl (fun ls hl => ?_)
  refine lv_iload_n (pc := 6) hx hb dX7_lays_6 rfl (lv_at hl 0 rfl) ?_
  refine lv_if_eq (pc := 7) (tgt := 16) hx hb dX7_lays_7 (by decide) (fun c_2 => ?_) (fun c_2 => ?_)
  · have hq := pv_pos c_2 hq
    refine lv_iconst (pc := 16) (v := 0) hx hb dX7_lays_16 (by decide) ?_
    refine lv_istore_n (pc := 17) (lv' := [(3, .int 0), (2, .int u_1), (0, .ref a0), (1, .int x1)]) hx hb dX7_lays_17 rfl hl (Nat.le_of_ble_eq_true rfl) rfl (fun ls hl => ?_)
    refine lv_iconst (pc := 18) (v := 0) hx hb dX7_lays_18 (by decide) ?_
    refine lv_istore (pc := 19) (lv' := [(4, .int 0), (3, .int 0), (2, .int u_1), (0, .ref a0), (1, .int x1)]) hx hb dX7_lays_19 hl (Nat.le_of_ble_eq_true rfl) rfl (fun ls hl => ?_)
    exact L_21 300 x1 0 0 w0 H locs ls hP hS (lv_sub hl [3, 4, 1, 0] rfl) hq
  · have hq := pv_neg c_2 hq
    refine lv_aload_n (pc := 10) hx hb dX7_lays_10 rfl (lv_at hl 1 rfl) ?_
    refine lv_iload_n (pc := 11) hx hb dX7_lays_11 rfl (lv_at hl 0 rfl) ?_
    obtain ⟨u_10, hu_10, hq⟩ := pv_bind hq
    refine pv_vRWf (pc := 12) (rest := []) (st1 := [.int u_10.1]) (ws := pv_wM E a0 a1 a2 a3 a4 a5 a6 a7 a8 a9 a10 w0) [.int u_1] ⟨hx, hb, hml, hown, hts⟩ hE hA hS hP (hD w0) (c_X7_finds l E a0 a1 a2 a3 a4 a5 a6 a7 a8 a9 a10 u_1 w0 u_10 hu_10) (cwV 1 hts gX7_lays_X7_finds rfl rfl rfl (by decide +kernel) ⟨(Nat.le_of_ble_eq_true rfl), (Nat.le_of_ble_eq_true rfl)⟩) (va_recv hK hP (ci := 5) (q0 := 0) rfl rfl) rfl hl.1 rfl rfl (Nat.le_of_ble_eq_true rfl) dX7_lays_12 ⟨Nat.zero_le _, Nat.zero_le _⟩ (fun H locs hP hS => ?_)
    have hP : va_P E.1 vwCl (pv_wM E a0 a1 a2 a3 a4 a5 a6 a7 a8 a9 a10 u_10.2) H := hP
    exact pv_riRW (w := fun w : pv_MT => pv_wM E a0 a1 a2 a3 a4 a5 a6 a7 a8 a9 a10 w) hx hb hr hlk hAe hS hP (Option.some.inj hq) dX7_lays_15
def m_X7_book_41 : Nat → Int32 → Int32 → Int32 → pv_MT → Option (Int32 × pv_MT)
  | 0 => fun _ _ _ _ => none
  | n + 1 => fun x1 x2 x4 w =>
    pv_gd x1 4 (if (w.2.2.2.2.2.2.2.2.2.2.2.2.2.2.2.1 x1.toNatClampNeg) ≤ x4 then (Option.bind (m_X7_putsBack w) fun u_7 => (pv_gd x1 4 (some ((u_7.2.2.2.2.2.2.2.2.2.2.2.2.2.2.2.1 x1.toNatClampNeg), u_7)))) else (pv_gd x1 4 (Option.bind (m_X7_landsOf x2 w) fun u_10 => (pv_gd ((40 * x1) + x4) 160 (Option.bind (m_X7_goes (w.1, w.2.1, w.2.2.1, w.2.2.2.1, w.2.2.2.2.1, w.2.2.2.2.2.1, w.2.2.2.2.2.2.1, w.2.2.2.2.2.2.2.1, w.2.2.2.2.2.2.2.2.1, w.2.2.2.2.2.2.2.2.2.1, w.2.2.2.2.2.2.2.2.2.2.1, w.2.2.2.2.2.2.2.2.2.2.2.1, w.2.2.2.2.2.2.2.2.2.2.2.2.1, w.2.2.2.2.2.2.2.2.2.2.2.2.2.1, w.2.2.2.2.2.2.2.2.2.2.2.2.2.2.1, w.2.2.2.2.2.2.2.2.2.2.2.2.2.2.2.1, (vp_updL w.2.2.2.2.2.2.2.2.2.2.2.2.2.2.2.2 ((40 * x1) + x4).toNatClampNeg (m_X7_cutTo (w.2.2.2.2.2.2.2.2.2.2.2.2.2.2.1 x1.toNatClampNeg) u_10.toInt64)))) fun u_12 => ((m_X7_book_41 n) x1 x2 (x4 + 1) u_12))))))
def m_X7_book_23 (x1 : Int32) (x2 : Int32) (y0 : Int32) (w : pv_MT) : Option (Int32 × pv_MT) :=
  if y0 = 0 then (Option.bind (m_X7_thinks w) fun u_4 => (m_X7_book_41 300 x1 x2 0 u_4)) else (Option.bind (m_X7_finds y0 w) fun u_13 => (some (u_13.1, u_13.2)))
def m_X7_book_22 (x1 : Int32) (x2 : Int32) (x3 : Int32) (w : pv_MT) : Option (Int32 × pv_MT) :=
  m_X7_book_23 x1 x2 x3 w
def m_X7_book (x1 : Int32) (x2 : Int32) (w : pv_MT) : Option (Int32 × pv_MT) :=
  Option.bind (m_X7_notThere x1 w) fun u_1 => (if u_1 = 0 then (Option.bind (m_X7_isState x2) fun u_14 => (if u_14 = 0 then (m_X7_book_23 x1 x2 (-1000000001) w) else (m_X7_book_22 x1 x2 u_1 w))) else (m_X7_book_22 x1 x2 u_1 w))
abbrev r_X7_book : Room := { frames := 7, cells := 0, slots := 0, locals := 165 }
set_option maxHeartbeats 4000000 in
set_option maxRecDepth 100000 in
theorem c_X7_book (l : Launch) (E : pv_E) (a0 a1 a2 a3 a4 a5 a6 a7 a8 a9 a10 : Nat) (x1 : Int32) (x2 : Int32) (w0 : pv_MT) (F : Int32 × pv_MT) (hq : m_X7_book x1 x2 w0 = some F) : pv_RW l E yX7_book wsX7_book r_X7_book (pv_wM E a0 a1 a2 a3 a4 a5 a6 a7 a8 a9 a10 w0) [.ref a0, .int x1, .int x2] (some (.int F.1)) (pv_wM E a0 a1 a2 a3 a4 a5 a6 a7 a8 a9 a10 F.2) := by
  intro sz
  refine pv_mk (by decide) rfl (Nat.le_of_ble_eq_true rfl) ?_
  intro p e s m args below meth c A hx hb hr hml hown hts hlk hAe hP hD0 hA hE hS ls hl
  have hown : s.vm.findClass RX7 = some m.cls := hown
  have hK := hE.1
  have hD : ∀ w : pv_MT, va_D A (pv_wM E a0 a1 a2 a3 a4 a5 a6 a7 a8 a9 a10 w) := fun w => pv_Dm (ws := pv_wM E a0 a1 a2 a3 a4 a5 a6 a7 a8 a9 a10 w0) (ws' := pv_wM E a0 a1 a2 a3 a4 a5 a6 a7 a8 a9 a10 w) rfl hD0
  have hP : va_P E.1 vwCl (pv_wM E a0 a1 a2 a3 a4 a5 a6 a7 a8 a9 a10 w0) s.heap := hP
  have fl_34 : (Cond.fieldLink RX7 34 "ProvinceCardsModel" "sizeOf" "[I").before args s = true := hts _ (by decide +kernel)
  have fl_37 : (Cond.fieldLink RX7 37 "ProvinceCardsModel" "cells" "[J").before args s = true := hts _ (by decide +kernel)
  have fl_31 : (Cond.fieldLink RX7 31 "ProvinceCardsModel" "bitsOf" "[I").before args s = true := hts _ (by decide +kernel)
  have lc_41 : (Cond.constant RX7 41 (-1000000001)).before args s = true := hts _ (by decide +kernel)
  have i_RX7 : ∀ w ∈ wsX70, w ∈ wsX7_book := by decide +kernel
  have hl : lv_has ls 5 [(0, .ref a0), (1, .int x1), (2, .int x2)] := hl
  have L_41 : ∀ n : Nat, ∀ (x1 : Int32) (x2 : Int32) (x4 : Int32) (w : pv_MT) (H : Heap) (locs : List Loc) (ls : Array Slot), va_P E.1 vwCl (pv_wM E a0 a1 a2 a3 a4 a5 a6 a7 a8 a9 a10 w) H → va_S A s.heap H locs → lv_has ls 5 [(0, .ref a0), (1, .int x1), (2, .int x2), (4, .int x4)] → m_X7_book_41 n x1 x2 x4 w = some F → W p l e r_X7_book s m args below meth c H locs 0 0 (MQ below (pv_Rw E (pv_wM E a0 a1 a2 a3 a4 a5 a6 a7 a8 a9 a10 w0) sz (some (.int F.1)) ((fun w : pv_MT => pv_wM E a0 a1 a2 a3 a4 a5 a6 a7 a8 a9 a10 w) F.2)) args s 0 0 A) (F0 m 41 ls []) := by
    intro n
    induction n with
    | zero =>
      intro x1 x2 x4 w H locs ls hP hS hl hq
      exact (pv_no hq).elim
    | succ n ih =>
      intro x1 x2 x4 w H locs ls hP hS hl hq
      refine lv_iload (pc := 41) hx hb dX7_book_41 (lv_at hl 3 rfl) ?_
      refine lv_aload_n (pc := 43) hx hb dX7_book_43 rfl (lv_at hl 0 rfl) ?_
      refine va_get (pc := 44) (D := E.1) (ci := 5) (v := .ref a9) (C := RX7) (T := TX7) (N := 17) hx hb hts i_RX7 hown hK hP 0 rfl rfl 15 (Nat.le_of_ble_eq_true rfl) fl_34 (fun _ h9 => h9) rfl dX7_book_44 ?_
      refine lv_iload_n (pc := 47) hx hb dX7_book_47 rfl (lv_at hl 1 rfl) ?_
      obtain ⟨h_5, hq⟩ := pv_gd_some hq
      refine va_iald (pc := 48) (D := E.1) hx hb hK hP 9 0 rfl rfl h_5 dX7_book_48 ?_
      refine lv_icmp_ge (pc := 49) (tgt := 89) hx hb dX7_book_49 (by decide) (fun c_6 => ?_) (fun c_6 => ?_)
      · have hq := pv_pos c_6 hq
        refine lv_aload_n (pc := 89) hx hb dX7_book_89 rfl (lv_at hl 0 rfl) ?_
        obtain ⟨u_7, hu_7, hq⟩ := pv_bind hq
        refine pv_vRWf (pc := 90) (rest := []) (st1 := []) (ws := pv_wM E a0 a1 a2 a3 a4 a5 a6 a7 a8 a9 a10 w) [] ⟨hx, hb, hml, hown, hts⟩ hE hA hS hP (hD w) (c_X7_putsBack l E a0 a1 a2 a3 a4 a5 a6 a7 a8 a9 a10 w u_7 hu_7) (cwV 0 hts gX7_book_X7_putsBack rfl rfl rfl (by decide +kernel) ⟨(Nat.le_of_ble_eq_true rfl), (Nat.le_of_ble_eq_true rfl)⟩) (va_recv hK hP (ci := 5) (q0 := 0) rfl rfl) rfl hl.1 rfl rfl (Nat.le_of_ble_eq_true rfl) dX7_book_90 ⟨Nat.zero_le _, Nat.zero_le _⟩ (fun H locs hP hS => ?_)
        have hP : va_P E.1 vwCl (pv_wM E a0 a1 a2 a3 a4 a5 a6 a7 a8 a9 a10 u_7) H := hP
        refine lv_aload_n (pc := 93) hx hb dX7_book_93 rfl (lv_at hl 0 rfl) ?_
        refine va_get (pc := 94) (D := E.1) (ci := 5) (v := .ref a9) (C := RX7) (T := TX7) (N := 17) hx hb hts i_RX7 hown hK hP 0 rfl rfl 15 (Nat.le_of_ble_eq_true rfl) fl_34 (fun _ h9 => h9) rfl dX7_book_94 ?_
        refine lv_iload_n (pc := 97) hx hb dX7_book_97 rfl (lv_at hl 1 rfl) ?_
        obtain ⟨h_8, hq⟩ := pv_gd_some hq
        refine va_iald (pc := 98) (D := E.1) hx hb hK hP 9 0 rfl rfl h_8 dX7_book_98 ?_
        exact pv_riRW (w := fun w : pv_MT => pv_wM E a0 a1 a2 a3 a4 a5 a6 a7 a8 a9 a10 w) hx hb hr hlk hAe hS hP (Option.some.inj hq) dX7_book_99
      · have hq := pv_neg c_6 hq
        refine lv_aload_n (pc := 52) hx hb dX7_book_52 rfl (lv_at hl 0 rfl) ?_
        refine va_get (pc := 53) (D := E.1) (ci := 5) (v := .ref a10) (C := RX7) (T := TX7) (N := 17) hx hb hts i_RX7 hown hK hP 0 rfl rfl 16 (Nat.le_of_ble_eq_true rfl) fl_37 (fun _ h9 => h9) rfl dX7_book_53 ?_
        refine lv_bipush (pc := 56) (v := 40) hx hb dX7_book_56 (by decide) ?_
        refine lv_iload_n (pc := 58) hx hb dX7_book_58 rfl (lv_at hl 1 rfl) ?_
        refine lv_imul (pc := 59) hx hb dX7_book_59 ?_
        refine lv_iload (pc := 60) hx hb dX7_book_60 (lv_at hl 3 rfl) ?_
        refine lv_iadd (pc := 62) hx hb dX7_book_62 ?_
        refine lv_aload_n (pc := 63) hx hb dX7_book_63 rfl (lv_at hl 0 rfl) ?_
        refine va_get (pc := 64) (D := E.1) (ci := 5) (v := .ref a8) (C := RX7) (T := TX7) (N := 17) hx hb hts i_RX7 hown hK hP 0 rfl rfl 14 (Nat.le_of_ble_eq_true rfl) fl_31 (fun _ h9 => h9) rfl dX7_book_64 ?_
        refine lv_iload_n (pc := 67) hx hb dX7_book_67 rfl (lv_at hl 1 rfl) ?_
        obtain ⟨h_9, hq⟩ := pv_gd_some hq
        refine va_iald (pc := 68) (D := E.1) hx hb hK hP 8 0 rfl rfl h_9 dX7_book_68 ?_
        refine lv_aload_n (pc := 69) hx hb dX7_book_69 rfl (lv_at hl 0 rfl) ?_
        refine lv_iload_n (pc := 70) hx hb dX7_book_70 rfl (lv_at hl 2 rfl) ?_
        obtain ⟨u_10, hu_10, hq⟩ := pv_bind hq
        refine pv_vROf (pc := 71) (rest := [.int (w.2.2.2.2.2.2.2.2.2.2.2.2.2.2.1 x1.toNatClampNeg), .int ((40 * x1) + x4), .ref a10]) (st1 := [.int u_10, .int (w.2.2.2.2.2.2.2.2.2.2.2.2.2.2.1 x1.toNatClampNeg), .int ((40 * x1) + x4), .ref a10]) (ws := pv_wM E a0 a1 a2 a3 a4 a5 a6 a7 a8 a9 a10 w) [.int x2] ⟨hx, hb, hml, hown, hts⟩ hE hA hS hP (hD w) (c_X7_landsOf l E a0 a1 a2 a3 a4 a5 a6 a7 a8 a9 a10 x2 w u_10 hu_10) (cwV 1 hts gX7_book_X7_landsOf rfl rfl rfl (by decide +kernel) ⟨(Nat.le_of_ble_eq_true rfl), (Nat.le_of_ble_eq_true rfl)⟩) (va_recv hK hP (ci := 5) (q0 := 0) rfl rfl) rfl hl.1 rfl rfl (Nat.le_of_ble_eq_true rfl) dX7_book_71 ⟨Nat.zero_le _, Nat.zero_le _⟩ (fun locs hS => ?_)
        refine lv_i2l (pc := 74) (v := u_10.toInt64) hx hb dX7_book_74 rfl ?_
        refine pv_sRO (pc := 75) (rest := [.int ((40 * x1) + x4), .ref a10]) (st1 := [.long (m_X7_cutTo (w.2.2.2.2.2.2.2.2.2.2.2.2.2.2.1 x1.toNatClampNeg) u_10.toInt64), .int ((40 * x1) + x4), .ref a10]) (ws := pv_wM E a0 a1 a2 a3 a4 a5 a6 a7 a8 a9 a10 w) [.int (w.2.2.2.2.2.2.2.2.2.2.2.2.2.2.1 x1.toNatClampNeg), .long u_10.toInt64] ⟨hx, hb, hml, hown, hts⟩ hE hA hS hP (hD w) (c_X7_cutTo l E (w.2.2.2.2.2.2.2.2.2.2.2.2.2.2.1 x1.toNatClampNeg) u_10.toInt64) (va_cwS 2 hts gX7_book_X7_cutTo rfl rfl rfl (by decide +kernel) ⟨(Nat.le_of_ble_eq_true rfl), (Nat.le_of_ble_eq_true rfl)⟩) [] rfl rfl rfl hl.1 rfl rfl (Nat.le_of_ble_eq_true rfl) dX7_book_75 ⟨Nat.zero_le _, Nat.zero_le _⟩ (fun locs hS => ?_)
        obtain ⟨h_11, hq⟩ := pv_gd_some hq
        refine va_last (pc := 78) (D := E.1) hx hb hK hP (hD w) hS 10 1 rfl rfl h_11 dX7_book_78 (fun H locs hP _ hS => ?_)
        have hP : va_P E.1 vwCl (pv_wM E a0 a1 a2 a3 a4 a5 a6 a7 a8 a9 a10 (w.1, w.2.1, w.2.2.1, w.2.2.2.1, w.2.2.2.2.1, w.2.2.2.2.2.1, w.2.2.2.2.2.2.1, w.2.2.2.2.2.2.2.1, w.2.2.2.2.2.2.2.2.1, w.2.2.2.2.2.2.2.2.2.1, w.2.2.2.2.2.2.2.2.2.2.1, w.2.2.2.2.2.2.2.2.2.2.2.1, w.2.2.2.2.2.2.2.2.2.2.2.2.1, w.2.2.2.2.2.2.2.2.2.2.2.2.2.1, w.2.2.2.2.2.2.2.2.2.2.2.2.2.2.1, w.2.2.2.2.2.2.2.2.2.2.2.2.2.2.2.1, (vp_updL w.2.2.2.2.2.2.2.2.2.2.2.2.2.2.2.2 ((40 * x1) + x4).toNatClampNeg (m_X7_cutTo (w.2.2.2.2.2.2.2.2.2.2.2.2.2.2.1 x1.toNatClampNeg) u_10.toInt64)))) H := hP
        refine lv_aload_n (pc := 79) hx hb dX7_book_79 rfl (lv_at hl 0 rfl) ?_
        obtain ⟨u_12, hu_12, hq⟩ := pv_bind hq
        refine pv_vRWf (pc := 80) (rest := []) (st1 := []) (ws := pv_wM E a0 a1 a2 a3 a4 a5 a6 a7 a8 a9 a10 (w.1, w.2.1, w.2.2.1, w.2.2.2.1, w.2.2.2.2.1, w.2.2.2.2.2.1, w.2.2.2.2.2.2.1, w.2.2.2.2.2.2.2.1, w.2.2.2.2.2.2.2.2.1, w.2.2.2.2.2.2.2.2.2.1, w.2.2.2.2.2.2.2.2.2.2.1, w.2.2.2.2.2.2.2.2.2.2.2.1, w.2.2.2.2.2.2.2.2.2.2.2.2.1, w.2.2.2.2.2.2.2.2.2.2.2.2.2.1, w.2.2.2.2.2.2.2.2.2.2.2.2.2.2.1, w.2.2.2.2.2.2.2.2.2.2.2.2.2.2.2.1, (vp_updL w.2.2.2.2.2.2.2.2.2.2.2.2.2.2.2.2 ((40 * x1) + x4).toNatClampNeg (m_X7_cutTo (w.2.2.2.2.2.2.2.2.2.2.2.2.2.2.1 x1.toNatClampNeg) u_10.toInt64)))) [] ⟨hx, hb, hml, hown, hts⟩ hE hA hS hP (hD (w.1, w.2.1, w.2.2.1, w.2.2.2.1, w.2.2.2.2.1, w.2.2.2.2.2.1, w.2.2.2.2.2.2.1, w.2.2.2.2.2.2.2.1, w.2.2.2.2.2.2.2.2.1, w.2.2.2.2.2.2.2.2.2.1, w.2.2.2.2.2.2.2.2.2.2.1, w.2.2.2.2.2.2.2.2.2.2.2.1, w.2.2.2.2.2.2.2.2.2.2.2.2.1, w.2.2.2.2.2.2.2.2.2.2.2.2.2.1, w.2.2.2.2.2.2.2.2.2.2.2.2.2.2.1, w.2.2.2.2.2.2.2.2.2.2.2.2.2.2.2.1, (vp_updL w.2.2.2.2.2.2.2.2.2.2.2.2.2.2.2.2 ((40 * x1) + x4).toNatClampNeg (m_X7_cutTo (w.2.2.2.2.2.2.2.2.2.2.2.2.2.2.1 x1.toNatClampNeg) u_10.toInt64)))) (c_X7_goes l E a0 a1 a2 a3 a4 a5 a6 a7 a8 a9 a10 (w.1, w.2.1, w.2.2.1, w.2.2.2.1, w.2.2.2.2.1, w.2.2.2.2.2.1, w.2.2.2.2.2.2.1, w.2.2.2.2.2.2.2.1, w.2.2.2.2.2.2.2.2.1, w.2.2.2.2.2.2.2.2.2.1, w.2.2.2.2.2.2.2.2.2.2.1, w.2.2.2.2.2.2.2.2.2.2.2.1, w.2.2.2.2.2.2.2.2.2.2.2.2.1, w.2.2.2.2.2.2.2.2.2.2.2.2.2.1, w.2.2.2.2.2.2.2.2.2.2.2.2.2.2.1, w.2.2.2.2.2.2.2.2.2.2.2.2.2.2.2.1, (vp_updL w.2.2.2.2.2.2.2.2.2.2.2.2.2.2.2.2 ((40 * x1) + x4).toNatClampNeg (m_X7_cutTo (w.2.2.2.2.2.2.2.2.2.2.2.2.2.2.1 x1.toNatClampNeg) u_10.toInt64))) u_12 hu_12) (cwV 0 hts gX7_book_X7_goes rfl rfl rfl (by decide +kernel) ⟨(Nat.le_of_ble_eq_true rfl), (Nat.le_of_ble_eq_true rfl)⟩) (va_recv hK hP (ci := 5) (q0 := 0) rfl rfl) rfl hl.1 rfl rfl (Nat.le_of_ble_eq_true rfl) dX7_book_80 ⟨Nat.zero_le _, Nat.zero_le _⟩ (fun H locs hP hS => ?_)
        have hP : va_P E.1 vwCl (pv_wM E a0 a1 a2 a3 a4 a5 a6 a7 a8 a9 a10 u_12) H := hP
        refine lv_iinc (pc := 83) (v := (x4 + 1)) (lv' := [(4, .int (x4 + 1)), (0, .ref a0), (1, .int x1), (2, .int x2)]) hx hb dX7_book_83 hl (k := 3) rfl rfl (Nat.le_of_ble_eq_true rfl) rfl (fun ls hl => ?_)
        refine lv_goto (pc := 86) (tgt := 41) hx hb dX7_book_86 (by decide) ?_
        exact ih x1 x2 (x4 + 1) u_12 H locs ls hP hS (lv_sub hl [1, 2, 3, 0] rfl) hq
  have B_23 : ∀ (x1 : Int32) (x2 : Int32) (y0 : Int32) (w : pv_MT) (H : Heap) (locs : List Loc) (ls : Array Slot), va_P E.1 vwCl (pv_wM E a0 a1 a2 a3 a4 a5 a6 a7 a8 a9 a10 w) H → va_S A s.heap H locs → lv_has ls 5 [(0, .ref a0), (1, .int x1), (2, .int x2)] → m_X7_book_23 x1 x2 y0 w = some F → W p l e r_X7_book s m args below meth c H locs 0 0 (MQ below (pv_Rw E (pv_wM E a0 a1 a2 a3 a4 a5 a6 a7 a8 a9 a10 w0) sz (some (.int F.1)) ((fun w : pv_MT => pv_wM E a0 a1 a2 a3 a4 a5 a6 a7 a8 a9 a10 w) F.2)) args s 0 0 A) (F0 m 23 ls [.int y0]) := by
    intro x1 x2 y0 w H locs ls hP hS hl hq
    refine lv_istore_n (pc := 23) (lv' := [(3, .int y0), (0, .ref a0), (1, .int x1), (2, .int x2)]) hx hb dX7_book_23 rfl hl (Nat.le_of_ble_eq_true rfl) rfl (fun ls hl => ?_)
    refine lv_iload_n (pc := 24) hx hb dX7_book_24 rfl (lv_at hl 0 rfl) ?_
    refine lv_if_eq (pc := 25) (tgt := 34) hx hb dX7_book_25 (by decide) (fun c_3 => ?_) (fun c_3 => ?_)
    · have hq := pv_pos c_3 hq
      refine lv_aload_n (pc := 34) hx hb dX7_book_34 rfl (lv_at hl 1 rfl) ?_
      obtain ⟨u_4, hu_4, hq⟩ := pv_bind hq
      refine pv_vRWf (pc := 35) (rest := []) (st1 := []) (ws := pv_wM E a0 a1 a2 a3 a4 a5 a6 a7 a8 a9 a10 w) [] ⟨hx, hb, hml, hown, hts⟩ hE hA hS hP (hD w) (c_X7_thinks l E a0 a1 a2 a3 a4 a5 a6 a7 a8 a9 a10 w u_4 hu_4) (cwV 0 hts gX7_book_X7_thinks rfl rfl rfl (by decide +kernel) ⟨(Nat.le_of_ble_eq_true rfl), (Nat.le_of_ble_eq_true rfl)⟩) (va_recv hK hP (ci := 5) (q0 := 0) rfl rfl) rfl hl.1 rfl rfl (Nat.le_of_ble_eq_true rfl) dX7_book_35 ⟨Nat.zero_le _, Nat.zero_le _⟩ (fun H locs hP hS => ?_)
      have hP : va_P E.1 vwCl (pv_wM E a0 a1 a2 a3 a4 a5 a6 a7 a8 a9 a10 u_4) H := hP
      refine lv_iconst (pc := 38) (v := 0) hx hb dX7_book_38 (by decide) ?_
      refine lv_istore (pc := 39) (lv' := [(4, .int 0), (3, .int y0), (0, .ref a0), (1, .int x1), (2, .int x2)]) hx hb dX7_book_39 hl (Nat.le_of_ble_eq_true rfl) rfl (fun ls hl => ?_)
      exact L_41 300 x1 x2 0 u_4 H locs ls hP hS (lv_sub hl [2, 3, 4, 0] rfl) hq
    · have hq := pv_neg c_3 hq
      refine lv_aload_n (pc := 28) hx hb dX7_book_28 rfl (lv_at hl 1 rfl) ?_
      refine lv_iload_n (pc := 29) hx hb dX7_book_29 rfl (lv_at hl 0 rfl) ?_
      obtain ⟨u_13, hu_13, hq⟩ := pv_bind hq
      refine pv_vRWf (pc := 30) (rest := []) (st1 := [.int u_13.1]) (ws := pv_wM E a0 a1 a2 a3 a4 a5 a6 a7 a8 a9 a10 w) [.int y0] ⟨hx, hb, hml, hown, hts⟩ hE hA hS hP (hD w) (c_X7_finds l E a0 a1 a2 a3 a4 a5 a6 a7 a8 a9 a10 y0 w u_13 hu_13) (cwV 1 hts gX7_book_X7_finds rfl rfl rfl (by decide +kernel) ⟨(Nat.le_of_ble_eq_true rfl), (Nat.le_of_ble_eq_true rfl)⟩) (va_recv hK hP (ci := 5) (q0 := 0) rfl rfl) rfl hl.1 rfl rfl (Nat.le_of_ble_eq_true rfl) dX7_book_30 ⟨Nat.zero_le _, Nat.zero_le _⟩ (fun H locs hP hS => ?_)
      have hP : va_P E.1 vwCl (pv_wM E a0 a1 a2 a3 a4 a5 a6 a7 a8 a9 a10 u_13.2) H := hP
      exact pv_riRW (w := fun w : pv_MT => pv_wM E a0 a1 a2 a3 a4 a5 a6 a7 a8 a9 a10 w) hx hb hr hlk hAe hS hP (Option.some.inj hq) dX7_book_33
  have B_22 : ∀ (x1 : Int32) (x2 : Int32) (x3 : Int32) (w : pv_MT) (H : Heap) (locs : List Loc) (ls : Array Slot), va_P E.1 vwCl (pv_wM E a0 a1 a2 a3 a4 a5 a6 a7 a8 a9 a10 w) H → va_S A s.heap H locs → lv_has ls 5 [(0, .ref a0), (1, .int x1), (2, .int x2), (3, .int x3)] → m_X7_book_22 x1 x2 x3 w = some F → W p l e r_X7_book s m args below meth c H locs 0 0 (MQ below (pv_Rw E (pv_wM E a0 a1 a2 a3 a4 a5 a6 a7 a8 a9 a10 w0) sz (some (.int F.1)) ((fun w : pv_MT => pv_wM E a0 a1 a2 a3 a4 a5 a6 a7 a8 a9 a10 w) F.2)) args s 0 0 A) (F0 m 22 ls []) := by
    intro x1 x2 x3 w H locs ls hP hS hl hq
    refine lv_iload_n (pc := 22) hx hb dX7_book_22 rfl (lv_at hl 3 rfl) ?_
    exact B_23 x1 x2 x3 w H locs ls hP hS (lv_sub hl [0, 1, 2] rfl) hq
  suffices M0 : ∀ (H : Heap) (locs : List Loc), va_P E.1 vwCl (pv_wM E a0 a1 a2 a3 a4 a5 a6 a7 a8 a9 a10 w0) H → va_S A s.heap H locs → W p l e r_X7_book s m args below meth c H locs 0 0 (MQ below (pv_Rw E (pv_wM E a0 a1 a2 a3 a4 a5 a6 a7 a8 a9 a10 w0) sz (some (.int F.1)) ((fun w : pv_MT => pv_wM E a0 a1 a2 a3 a4 a5 a6 a7 a8 a9 a10 w) F.2)) args s 0 0 A) (F0 m 0 ls []) from M0 s.heap [] hP hS
  intro H locs hP hS
  refine lv_aload_n (pc := 0) hx hb dX7_book_0 rfl (lv_at hl 0 rfl) ?_
  refine lv_iload_n (pc := 1) hx hb dX7_book_1 rfl (lv_at hl 1 rfl) ?_
  obtain ⟨u_1, hu_1, hq⟩ := pv_bind hq
  refine pv_vROf (pc := 2) (rest := []) (st1 := [.int u_1]) (ws := pv_wM E a0 a1 a2 a3 a4 a5 a6 a7 a8 a9 a10 w0) [.int x1] ⟨hx, hb, hml, hown, hts⟩ hE hA hS hP (hD w0) (c_X7_notThere l E a0 a1 a2 a3 a4 a5 a6 a7 a8 a9 a10 x1 w0 u_1 hu_1) (cwV 1 hts gX7_book_X7_notThere rfl rfl rfl (by decide +kernel) ⟨(Nat.le_of_ble_eq_true rfl), (Nat.le_of_ble_eq_true rfl)⟩) (va_recv hK hP (ci := 5) (q0 := 0) rfl rfl) rfl hl.1 rfl rfl (Nat.le_of_ble_eq_true rfl) dX7_book_2 ⟨Nat.zero_le _, Nat.zero_le _⟩ (fun locs hS => ?_)
  refine lv_istore_n (pc := 5) (lv' := [(3, .int u_1), (0, .ref a0), (1, .int x1), (2, .int x2)]) hx hb dX7_book_5 rfl hl (Nat.le_of_ble_eq_true rfl) rfl (fun ls hl => ?_)
  refine lv_iload_n (pc := 6) hx hb dX7_book_6 rfl (lv_at hl 0 rfl) ?_
  refine lv_if_ne (pc := 7) (tgt := 22) hx hb dX7_book_7 (by decide) (fun c_2 => ?_) (fun c_2 => ?_)
  · have hq := pv_neg c_2 hq
    exact B_22 x1 x2 u_1 w0 H locs ls hP hS (lv_sub hl [1, 2, 3, 0] rfl) hq
  · have hq := pv_pos c_2 hq
    refine lv_iload_n (pc := 10) hx hb dX7_book_10 rfl (lv_at hl 3 rfl) ?_
    obtain ⟨u_14, hu_14, hq⟩ := pv_bind hq
    refine pv_sRO (pc := 11) (rest := []) (st1 := [.int u_14]) (ws := pv_wM E a0 a1 a2 a3 a4 a5 a6 a7 a8 a9 a10 w0) [.int x2] ⟨hx, hb, hml, hown, hts⟩ hE hA hS hP (hD w0) (c_X7_isState l E x2 u_14 hu_14) (va_cwS 1 hts gX7_book_X7_isState rfl rfl rfl (by decide +kernel) ⟨(Nat.le_of_ble_eq_true rfl), (Nat.le_of_ble_eq_true rfl)⟩) [] rfl rfl rfl hl.1 rfl rfl (Nat.le_of_ble_eq_true rfl) dX7_book_11 ⟨Nat.zero_le _, Nat.zero_le _⟩ (fun locs hS => ?_)
    refine lv_if_ne (pc := 14) (tgt := 22) hx hb dX7_book_14 (by decide) (fun c_15 => ?_) (fun c_15 => ?_)
    · have hq := pv_neg c_15 hq
      exact B_22 x1 x2 u_1 w0 H locs ls hP hS (lv_sub hl [1, 2, 3, 0] rfl) hq
    · have hq := pv_pos c_15 hq
      refine lv_ldc (pc := 17) hx hb hown lc_41 dX7_book_17 ?_
      refine lv_goto (pc := 19) (tgt := 23) hx hb dX7_book_19 (by decide) ?_
      exact B_23 x1 x2 (-1000000001) w0 H locs ls hP hS (lv_sub hl [1, 2, 3] rfl) hq
def m_X7_isBook_58 (x3 : Int32) (w : pv_MT) : Option (Int32 × pv_MT) :=
  Option.bind (m_X7_putsBack w) fun u_3 => (pv_gz x3 (some (x3, u_3)))
def m_X7_isBook_47 (k_5 : Int32 → Int32 → Int32 → Int32 → pv_MT → Option (Int32 × pv_MT)) (x1 : Int32) (x2 : Int32) (x4 : Int32) (y0 : Int32) (w : pv_MT) : Option (Int32 × pv_MT) :=
  Option.bind (m_X7_goes w) fun u_9 => (k_5 x1 x2 y0 (x4 + 1) u_9)
def m_X7_isBook_5 : Nat → Int32 → Int32 → Int32 → Int32 → pv_MT → Option (Int32 × pv_MT)
  | 0 => fun _ _ _ _ _ => none
  | n + 1 => fun x1 x2 x3 x4 w =>
    pv_gd x1 4 (if (w.2.2.2.2.2.2.2.2.2.2.2.2.2.2.2.1 x1.toNatClampNeg) ≤ x4 then (m_X7_isBook_58 x3 w) else (if x3 = 0 then (m_X7_isBook_58 x3 w) else (pv_gd ((40 * x1) + x4) 160 (Option.bind (m_X7_landsOf x2 w) fun u_7 => (if (lg_cmp (w.2.2.2.2.2.2.2.2.2.2.2.2.2.2.2.2 ((40 * x1) + x4).toNatClampNeg) u_7.toInt64) = 0 then (m_X7_isBook_47 (m_X7_isBook_5 n) x1 x2 x4 1 w) else (m_X7_isBook_47 (m_X7_isBook_5 n) x1 x2 x4 0 w))))))
def m_X7_isBook (x1 : Int32) (x2 : Int32) (w : pv_MT) : Option (Int32 × pv_MT) :=
  m_X7_isBook_5 300 x1 x2 1 0 w
abbrev r_X7_isBook : Room := { frames := 7, cells := 0, slots := 0, locals := 165 }
set_option maxHeartbeats 4000000 in
set_option maxRecDepth 100000 in
theorem c_X7_isBook (l : Launch) (E : pv_E) (a0 a1 a2 a3 a4 a5 a6 a7 a8 a9 a10 : Nat) (x1 : Int32) (x2 : Int32) (w0 : pv_MT) (F : Int32 × pv_MT) (hq : m_X7_isBook x1 x2 w0 = some F) : pv_RW l E yX7_isBook wsX7_isBook r_X7_isBook (pv_wM E a0 a1 a2 a3 a4 a5 a6 a7 a8 a9 a10 w0) [.ref a0, .int x1, .int x2] (some (.int F.1)) (pv_wM E a0 a1 a2 a3 a4 a5 a6 a7 a8 a9 a10 F.2) := by
  intro sz
  refine pv_mk (by decide) rfl (Nat.le_of_ble_eq_true rfl) ?_
  intro p e s m args below meth c A hx hb hr hml hown hts hlk hAe hP hD0 hA hE hS ls hl
  have hown : s.vm.findClass RX7 = some m.cls := hown
  have hK := hE.1
  have hD : ∀ w : pv_MT, va_D A (pv_wM E a0 a1 a2 a3 a4 a5 a6 a7 a8 a9 a10 w) := fun w => pv_Dm (ws := pv_wM E a0 a1 a2 a3 a4 a5 a6 a7 a8 a9 a10 w0) (ws' := pv_wM E a0 a1 a2 a3 a4 a5 a6 a7 a8 a9 a10 w) rfl hD0
  have hP : va_P E.1 vwCl (pv_wM E a0 a1 a2 a3 a4 a5 a6 a7 a8 a9 a10 w0) s.heap := hP
  have fl_34 : (Cond.fieldLink RX7 34 "ProvinceCardsModel" "sizeOf" "[I").before args s = true := hts _ (by decide +kernel)
  have fl_37 : (Cond.fieldLink RX7 37 "ProvinceCardsModel" "cells" "[J").before args s = true := hts _ (by decide +kernel)
  have i_RX7 : ∀ w ∈ wsX70, w ∈ wsX7_isBook := by decide +kernel
  have hl : lv_has ls 5 [(0, .ref a0), (1, .int x1), (2, .int x2)] := hl
  have B_58 : ∀ (x3 : Int32) (w : pv_MT) (H : Heap) (locs : List Loc) (ls : Array Slot), va_P E.1 vwCl (pv_wM E a0 a1 a2 a3 a4 a5 a6 a7 a8 a9 a10 w) H → va_S A s.heap H locs → lv_has ls 5 [(0, .ref a0), (3, .int x3)] → m_X7_isBook_58 x3 w = some F → W p l e r_X7_isBook s m args below meth c H locs 0 0 (MQ below (pv_Rw E (pv_wM E a0 a1 a2 a3 a4 a5 a6 a7 a8 a9 a10 w0) sz (some (.int F.1)) ((fun w : pv_MT => pv_wM E a0 a1 a2 a3 a4 a5 a6 a7 a8 a9 a10 w) F.2)) args s 0 0 A) (F0 m 58 ls []) := by
    intro x3 w H locs ls hP hS hl hq
    refine lv_aload_n (pc := 58) hx hb dX7_isBook_58 rfl (lv_at hl 0 rfl) ?_
    obtain ⟨u_3, hu_3, hq⟩ := pv_bind hq
    refine pv_vRWf (pc := 59) (rest := []) (st1 := []) (ws := pv_wM E a0 a1 a2 a3 a4 a5 a6 a7 a8 a9 a10 w) [] ⟨hx, hb, hml, hown, hts⟩ hE hA hS hP (hD w) (c_X7_putsBack l E a0 a1 a2 a3 a4 a5 a6 a7 a8 a9 a10 w u_3 hu_3) (cwV 0 hts gX7_isBook_X7_putsBack rfl rfl rfl (by decide +kernel) ⟨(Nat.le_of_ble_eq_true rfl), (Nat.le_of_ble_eq_true rfl)⟩) (va_recv hK hP (ci := 5) (q0 := 0) rfl rfl) rfl hl.1 rfl rfl (Nat.le_of_ble_eq_true rfl) dX7_isBook_59 ⟨Nat.zero_le _, Nat.zero_le _⟩ (fun H locs hP hS => ?_)
    have hP : va_P E.1 vwCl (pv_wM E a0 a1 a2 a3 a4 a5 a6 a7 a8 a9 a10 u_3) H := hP
    refine lv_iload_n (pc := 62) hx hb dX7_isBook_62 rfl (lv_at hl 1 rfl) ?_
    obtain ⟨h_4, hq⟩ := pv_gz_some hq
    exact pv_rzRW (w := fun w : pv_MT => pv_wM E a0 a1 a2 a3 a4 a5 a6 a7 a8 a9 a10 w) hx hb hr hlk hAe hS hP (Option.some.inj hq) h_4.1 dX7_isBook_63
  have B_47 : ∀ (k_5 : Int32 → Int32 → Int32 → Int32 → pv_MT → Option (Int32 × pv_MT)), (∀ (x1 : Int32) (x2 : Int32) (x3 : Int32) (x4 : Int32) (w : pv_MT) (H : Heap) (locs : List Loc) (ls : Array Slot), va_P E.1 vwCl (pv_wM E a0 a1 a2 a3 a4 a5 a6 a7 a8 a9 a10 w) H → va_S A s.heap H locs → lv_has ls 5 [(0, .ref a0), (1, .int x1), (2, .int x2), (3, .int x3), (4, .int x4)] → k_5 x1 x2 x3 x4 w = some F → W p l e r_X7_isBook s m args below meth c H locs 0 0 (MQ below (pv_Rw E (pv_wM E a0 a1 a2 a3 a4 a5 a6 a7 a8 a9 a10 w0) sz (some (.int F.1)) ((fun w : pv_MT => pv_wM E a0 a1 a2 a3 a4 a5 a6 a7 a8 a9 a10 w) F.2)) args s 0 0 A) (F0 m 5 ls [])) → ∀ (x1 : Int32) (x2 : Int32) (x4 : Int32) (y0 : Int32) (w : pv_MT) (H : Heap) (locs : List Loc) (ls : Array Slot), va_P E.1 vwCl (pv_wM E a0 a1 a2 a3 a4 a5 a6 a7 a8 a9 a10 w) H → va_S A s.heap H locs → lv_has ls 5 [(0, .ref a0), (1, .int x1), (2, .int x2), (4, .int x4)] → m_X7_isBook_47 k_5 x1 x2 x4 y0 w = some F → W p l e r_X7_isBook s m args below meth c H locs 0 0 (MQ below (pv_Rw E (pv_wM E a0 a1 a2 a3 a4 a5 a6 a7 a8 a9 a10 w0) sz (some (.int F.1)) ((fun w : pv_MT => pv_wM E a0 a1 a2 a3 a4 a5 a6 a7 a8 a9 a10 w) F.2)) args s 0 0 A) (F0 m 47 ls [.int y0]) := by
    intro k_5 hk_5
    intro x1 x2 x4 y0 w H locs ls hP hS hl hq
    refine lv_istore_n (pc := 47) (lv' := [(3, .int y0), (0, .ref a0), (1, .int x1), (2, .int x2), (4, .int x4)]) hx hb dX7_isBook_47 rfl hl (Nat.le_of_ble_eq_true rfl) rfl (fun ls hl => ?_)
    refine lv_aload_n (pc := 48) hx hb dX7_isBook_48 rfl (lv_at hl 1 rfl) ?_
    obtain ⟨u_9, hu_9, hq⟩ := pv_bind hq
    refine pv_vRWf (pc := 49) (rest := []) (st1 := []) (ws := pv_wM E a0 a1 a2 a3 a4 a5 a6 a7 a8 a9 a10 w) [] ⟨hx, hb, hml, hown, hts⟩ hE hA hS hP (hD w) (c_X7_goes l E a0 a1 a2 a3 a4 a5 a6 a7 a8 a9 a10 w u_9 hu_9) (cwV 0 hts gX7_isBook_X7_goes rfl rfl rfl (by decide +kernel) ⟨(Nat.le_of_ble_eq_true rfl), (Nat.le_of_ble_eq_true rfl)⟩) (va_recv hK hP (ci := 5) (q0 := 0) rfl rfl) rfl hl.1 rfl rfl (Nat.le_of_ble_eq_true rfl) dX7_isBook_49 ⟨Nat.zero_le _, Nat.zero_le _⟩ (fun H locs hP hS => ?_)
    have hP : va_P E.1 vwCl (pv_wM E a0 a1 a2 a3 a4 a5 a6 a7 a8 a9 a10 u_9) H := hP
    refine lv_iinc (pc := 52) (v := (x4 + 1)) (lv' := [(4, .int (x4 + 1)), (3, .int y0), (0, .ref a0), (1, .int x1), (2, .int x2)]) hx hb dX7_isBook_52 hl (k := 4) rfl rfl (Nat.le_of_ble_eq_true rfl) rfl (fun ls hl => ?_)
    refine lv_goto (pc := 55) (tgt := 5) hx hb dX7_isBook_55 (by decide) ?_
    exact hk_5 x1 x2 y0 (x4 + 1) u_9 H locs ls hP hS (lv_sub hl [2, 3, 4, 1, 0] rfl) hq
  have L_5 : ∀ n : Nat, ∀ (x1 : Int32) (x2 : Int32) (x3 : Int32) (x4 : Int32) (w : pv_MT) (H : Heap) (locs : List Loc) (ls : Array Slot), va_P E.1 vwCl (pv_wM E a0 a1 a2 a3 a4 a5 a6 a7 a8 a9 a10 w) H → va_S A s.heap H locs → lv_has ls 5 [(0, .ref a0), (1, .int x1), (2, .int x2), (3, .int x3), (4, .int x4)] → m_X7_isBook_5 n x1 x2 x3 x4 w = some F → W p l e r_X7_isBook s m args below meth c H locs 0 0 (MQ below (pv_Rw E (pv_wM E a0 a1 a2 a3 a4 a5 a6 a7 a8 a9 a10 w0) sz (some (.int F.1)) ((fun w : pv_MT => pv_wM E a0 a1 a2 a3 a4 a5 a6 a7 a8 a9 a10 w) F.2)) args s 0 0 A) (F0 m 5 ls []) := by
    intro n
    induction n with
    | zero =>
      intro x1 x2 x3 x4 w H locs ls hP hS hl hq
      exact (pv_no hq).elim
    | succ n ih =>
      intro x1 x2 x3 x4 w H locs ls hP hS hl hq
      refine lv_iload (pc := 5) hx hb dX7_isBook_5 (lv_at hl 4 rfl) ?_
      refine lv_aload_n (pc := 7) hx hb dX7_isBook_7 rfl (lv_at hl 0 rfl) ?_
      refine va_get (pc := 8) (D := E.1) (ci := 5) (v := .ref a9) (C := RX7) (T := TX7) (N := 17) hx hb hts i_RX7 hown hK hP 0 rfl rfl 15 (Nat.le_of_ble_eq_true rfl) fl_34 (fun _ h9 => h9) rfl dX7_isBook_8 ?_
      refine lv_iload_n (pc := 11) hx hb dX7_isBook_11 rfl (lv_at hl 1 rfl) ?_
      obtain ⟨h_1, hq⟩ := pv_gd_some hq
      refine va_iald (pc := 12) (D := E.1) hx hb hK hP 9 0 rfl rfl h_1 dX7_isBook_12 ?_
      refine lv_icmp_ge (pc := 13) (tgt := 58) hx hb dX7_isBook_13 (by decide) (fun c_2 => ?_) (fun c_2 => ?_)
      · have hq := pv_pos c_2 hq
        exact B_58 x3 w H locs ls hP hS (lv_sub hl [0, 3] rfl) hq
      · have hq := pv_neg c_2 hq
        refine lv_iload_n (pc := 16) hx hb dX7_isBook_16 rfl (lv_at hl 3 rfl) ?_
        refine lv_if_eq (pc := 17) (tgt := 58) hx hb dX7_isBook_17 (by decide) (fun c_5 => ?_) (fun c_5 => ?_)
        · have hq := pv_pos c_5 hq
          exact B_58 x3 w H locs ls hP hS (lv_sub hl [0, 3] rfl) hq
        · have hq := pv_neg c_5 hq
          refine lv_aload_n (pc := 20) hx hb dX7_isBook_20 rfl (lv_at hl 0 rfl) ?_
          refine va_get (pc := 21) (D := E.1) (ci := 5) (v := .ref a10) (C := RX7) (T := TX7) (N := 17) hx hb hts i_RX7 hown hK hP 0 rfl rfl 16 (Nat.le_of_ble_eq_true rfl) fl_37 (fun _ h9 => h9) rfl dX7_isBook_21 ?_
          refine lv_bipush (pc := 24) (v := 40) hx hb dX7_isBook_24 (by decide) ?_
          refine lv_iload_n (pc := 26) hx hb dX7_isBook_26 rfl (lv_at hl 1 rfl) ?_
          refine lv_imul (pc := 27) hx hb dX7_isBook_27 ?_
          refine lv_iload (pc := 28) hx hb dX7_isBook_28 (lv_at hl 4 rfl) ?_
          refine lv_iadd (pc := 30) hx hb dX7_isBook_30 ?_
          obtain ⟨h_6, hq⟩ := pv_gd_some hq
          refine va_lald (pc := 31) (D := E.1) hx hb hK hP 10 1 rfl rfl h_6 dX7_isBook_31 ?_
          refine lv_aload_n (pc := 32) hx hb dX7_isBook_32 rfl (lv_at hl 0 rfl) ?_
          refine lv_iload_n (pc := 33) hx hb dX7_isBook_33 rfl (lv_at hl 2 rfl) ?_
          obtain ⟨u_7, hu_7, hq⟩ := pv_bind hq
          refine pv_vROf (pc := 34) (rest := [.long (w.2.2.2.2.2.2.2.2.2.2.2.2.2.2.2.2 ((40 * x1) + x4).toNatClampNeg)]) (st1 := [.int u_7, .long (w.2.2.2.2.2.2.2.2.2.2.2.2.2.2.2.2 ((40 * x1) + x4).toNatClampNeg)]) (ws := pv_wM E a0 a1 a2 a3 a4 a5 a6 a7 a8 a9 a10 w) [.int x2] ⟨hx, hb, hml, hown, hts⟩ hE hA hS hP (hD w) (c_X7_landsOf l E a0 a1 a2 a3 a4 a5 a6 a7 a8 a9 a10 x2 w u_7 hu_7) (cwV 1 hts gX7_isBook_X7_landsOf rfl rfl rfl (by decide +kernel) ⟨(Nat.le_of_ble_eq_true rfl), (Nat.le_of_ble_eq_true rfl)⟩) (va_recv hK hP (ci := 5) (q0 := 0) rfl rfl) rfl hl.1 rfl rfl (Nat.le_of_ble_eq_true rfl) dX7_isBook_34 ⟨Nat.zero_le _, Nat.zero_le _⟩ (fun locs hS => ?_)
          refine lv_i2l (pc := 37) (v := u_7.toInt64) hx hb dX7_isBook_37 rfl ?_
          refine W.lcmp (pc := 38) hx hb dX7_isBook_38 ?_
          refine lv_if_ne (pc := 39) (tgt := 46) hx hb dX7_isBook_39 (by decide) (fun c_8 => ?_) (fun c_8 => ?_)
          · have hq := pv_neg c_8 hq
            refine lv_iconst (pc := 46) (v := 0) hx hb dX7_isBook_46 (by decide) ?_
            exact B_47 (m_X7_isBook_5 n) ih x1 x2 x4 0 w H locs ls hP hS (lv_sub hl [0, 1, 2, 4] rfl) hq
          · have hq := pv_pos c_8 hq
            refine lv_iconst (pc := 42) (v := 1) hx hb dX7_isBook_42 (by decide) ?_
            refine lv_goto (pc := 43) (tgt := 47) hx hb dX7_isBook_43 (by decide) ?_
            exact B_47 (m_X7_isBook_5 n) ih x1 x2 x4 1 w H locs ls hP hS (lv_sub hl [0, 1, 2, 4] rfl) hq
  suffices M0 : ∀ (H : Heap) (locs : List Loc), va_P E.1 vwCl (pv_wM E a0 a1 a2 a3 a4 a5 a6 a7 a8 a9 a10 w0) H → va_S A s.heap H locs → W p l e r_X7_isBook s m args below meth c H locs 0 0 (MQ below (pv_Rw E (pv_wM E a0 a1 a2 a3 a4 a5 a6 a7 a8 a9 a10 w0) sz (some (.int F.1)) ((fun w : pv_MT => pv_wM E a0 a1 a2 a3 a4 a5 a6 a7 a8 a9 a10 w) F.2)) args s 0 0 A) (F0 m 0 ls []) from M0 s.heap [] hP hS
  intro H locs hP hS
  refine lv_iconst (pc := 0) (v := 1) hx hb dX7_isBook_0 (by decide) ?_
  refine lv_istore_n (pc := 1) (lv' := [(3, .int 1), (0, .ref a0), (1, .int x1), (2, .int x2)]) hx hb dX7_isBook_1 rfl hl (Nat.le_of_ble_eq_true rfl) rfl (fun ls hl => ?_)
  refine lv_iconst (pc := 2) (v := 0) hx hb dX7_isBook_2 (by decide) ?_
  refine lv_istore (pc := 3) (lv' := [(4, .int 0), (3, .int 1), (0, .ref a0), (1, .int x1), (2, .int x2)]) hx hb dX7_isBook_3 hl (Nat.le_of_ble_eq_true rfl) rfl (fun ls hl => ?_)
  exact L_5 300 x1 x2 1 0 w0 H locs ls hP hS (lv_sub hl [2, 3, 4, 1, 0] rfl) hq
def m_X7_read_112 (k_58 : Int32 → Int32 → Int32 → Int32 → Int32 → pv_MT → Option (Int32 × pv_MT)) (x1 : Int32) (x2 : Int32) (x3 : Int32) (x6 : Int32) (y0 : Int32) (y1 : Int32) (w : pv_MT) : Option (Int32 × pv_MT) :=
  k_58 x1 x2 x3 (y0 + y1) (x6 + 1) w
def m_X7_read_58 : Nat → Int32 → Int32 → Int32 → Int32 → Int32 → pv_MT → Option (Int32 × pv_MT)
  | 0 => fun _ _ _ _ _ _ => none
  | n + 1 => fun x1 x2 x3 x5 x6 w =>
    if 96 ≤ x6 then (some (x5, w)) else (pv_gd (15 + (2 * x3)) 31 (Option.bind (m_X7_isBook x1 x2 ((upd (upd w.1 (15 + (2 * x3)).toNatClampNeg (x6 / 16)) 1 ((2 * (pv_rem x6 16)) + 1)), w.2.1, w.2.2.1, w.2.2.2.1, w.2.2.2.2.1, w.2.2.2.2.2.1, w.2.2.2.2.2.2.1, w.2.2.2.2.2.2.2.1, w.2.2.2.2.2.2.2.2.1, w.2.2.2.2.2.2.2.2.2.1, w.2.2.2.2.2.2.2.2.2.2.1, w.2.2.2.2.2.2.2.2.2.2.2.1, w.2.2.2.2.2.2.2.2.2.2.2.2.1, w.2.2.2.2.2.2.2.2.2.2.2.2.2.1, w.2.2.2.2.2.2.2.2.2.2.2.2.2.2.1, w.2.2.2.2.2.2.2.2.2.2.2.2.2.2.2.1, w.2.2.2.2.2.2.2.2.2.2.2.2.2.2.2.2)) fun u_7 => (if u_7.1 = 0 then (m_X7_read_112 (m_X7_read_58 n) x1 x2 x3 x6 x5 0 u_7.2) else (m_X7_read_112 (m_X7_read_58 n) x1 x2 x3 x6 x5 1 u_7.2))))
def m_X7_read_34 (x1 : Int32) (x2 : Int32) (x3 : Int32) (y0 : Int32) (w : pv_MT) : Option (Int32 × pv_MT) :=
  if y0 = 0 then (Option.bind (m_X7_thinks w) fun u_4 => (m_X7_read_58 300 x1 x2 x3 0 0 u_4)) else (Option.bind (m_X7_finds y0 w) fun u_9 => (some (u_9.1, u_9.2)))
def m_X7_read_32 (x1 : Int32) (x2 : Int32) (x3 : Int32) (x4 : Int32) (w : pv_MT) : Option (Int32 × pv_MT) :=
  m_X7_read_34 x1 x2 x3 x4 w
def m_X7_read_27 (x1 : Int32) (x2 : Int32) (x3 : Int32) (w : pv_MT) : Option (Int32 × pv_MT) :=
  m_X7_read_34 x1 x2 x3 (-1000000001) w
def m_X7_read (x1 : Int32) (x2 : Int32) (x3 : Int32) (w : pv_MT) : Option (Int32 × pv_MT) :=
  Option.bind (m_X7_notThere x1 w) fun u_1 => (if u_1 = 0 then (Option.bind (m_X7_isState x2) fun u_10 => (if u_10 = 0 then (m_X7_read_27 x1 x2 x3 w) else (Option.bind (m_X7_isEnvoy x3 w) fun u_12 => (if u_12 = 0 then (m_X7_read_27 x1 x2 x3 w) else (m_X7_read_32 x1 x2 x3 u_1 w))))) else (m_X7_read_32 x1 x2 x3 u_1 w))
abbrev r_X7_read : Room := { frames := 8, cells := 0, slots := 0, locals := 189 }
set_option maxHeartbeats 4000000 in
set_option maxRecDepth 100000 in
theorem c_X7_read (l : Launch) (E : pv_E) (a0 a1 a2 a3 a4 a5 a6 a7 a8 a9 a10 : Nat) (x1 : Int32) (x2 : Int32) (x3 : Int32) (w0 : pv_MT) (F : Int32 × pv_MT) (hq : m_X7_read x1 x2 x3 w0 = some F) : pv_RW l E yX7_read wsX7_read r_X7_read (pv_wM E a0 a1 a2 a3 a4 a5 a6 a7 a8 a9 a10 w0) [.ref a0, .int x1, .int x2, .int x3] (some (.int F.1)) (pv_wM E a0 a1 a2 a3 a4 a5 a6 a7 a8 a9 a10 F.2) := by
  intro sz
  refine pv_mk (by decide) rfl (Nat.le_of_ble_eq_true rfl) ?_
  intro p e s m args below meth c A hx hb hr hml hown hts hlk hAe hP hD0 hA hE hS ls hl
  have hown : s.vm.findClass RX7 = some m.cls := hown
  have hK := hE.1
  have hD : ∀ w : pv_MT, va_D A (pv_wM E a0 a1 a2 a3 a4 a5 a6 a7 a8 a9 a10 w) := fun w => pv_Dm (ws := pv_wM E a0 a1 a2 a3 a4 a5 a6 a7 a8 a9 a10 w0) (ws' := pv_wM E a0 a1 a2 a3 a4 a5 a6 a7 a8 a9 a10 w) rfl hD0
  have hP : va_P E.1 vwCl (pv_wM E a0 a1 a2 a3 a4 a5 a6 a7 a8 a9 a10 w0) s.heap := hP
  have fl_9 : (Cond.fieldLink RX7 9 "ProvinceCardsModel" "m" "[I").before args s = true := hts _ (by decide +kernel)
  have lc_41 : (Cond.constant RX7 41 (-1000000001)).before args s = true := hts _ (by decide +kernel)
  have i_RX7 : ∀ w ∈ wsX70, w ∈ wsX7_read := by decide +kernel
  have hl : lv_has ls 7 [(0, .ref a0), (1, .int x1), (2, .int x2), (3, .int x3)] := hl
  have B_112 : ∀ (k_58 : Int32 → Int32 → Int32 → Int32 → Int32 → pv_MT → Option (Int32 × pv_MT)), (∀ (x1 : Int32) (x2 : Int32) (x3 : Int32) (x5 : Int32) (x6 : Int32) (w : pv_MT) (H : Heap) (locs : List Loc) (ls : Array Slot), va_P E.1 vwCl (pv_wM E a0 a1 a2 a3 a4 a5 a6 a7 a8 a9 a10 w) H → va_S A s.heap H locs → lv_has ls 7 [(0, .ref a0), (1, .int x1), (2, .int x2), (3, .int x3), (5, .int x5), (6, .int x6)] → k_58 x1 x2 x3 x5 x6 w = some F → W p l e r_X7_read s m args below meth c H locs 0 0 (MQ below (pv_Rw E (pv_wM E a0 a1 a2 a3 a4 a5 a6 a7 a8 a9 a10 w0) sz (some (.int F.1)) ((fun w : pv_MT => pv_wM E a0 a1 a2 a3 a4 a5 a6 a7 a8 a9 a10 w) F.2)) args s 0 0 A) (F0 m 58 ls [])) → ∀ (x1 : Int32) (x2 : Int32) (x3 : Int32) (x6 : Int32) (y0 : Int32) (y1 : Int32) (w : pv_MT) (H : Heap) (locs : List Loc) (ls : Array Slot), va_P E.1 vwCl (pv_wM E a0 a1 a2 a3 a4 a5 a6 a7 a8 a9 a10 w) H → va_S A s.heap H locs → lv_has ls 7 [(0, .ref a0), (1, .int x1), (2, .int x2), (3, .int x3), (6, .int x6)] → m_X7_read_112 k_58 x1 x2 x3 x6 y0 y1 w = some F → W p l e r_X7_read s m args below meth c H locs 0 0 (MQ below (pv_Rw E (pv_wM E a0 a1 a2 a3 a4 a5 a6 a7 a8 a9 a10 w0) sz (some (.int F.1)) ((fun w : pv_MT => pv_wM E a0 a1 a2 a3 a4 a5 a6 a7 a8 a9 a10 w) F.2)) args s 0 0 A) (F0 m 112 ls [.int y1, .int y0]) := by
    intro k_58 hk_58
    intro x1 x2 x3 x6 y0 y1 w H locs ls hP hS hl hq
    refine lv_iadd (pc := 112) hx hb dX7_read_112 ?_
    refine lv_istore (pc := 113) (lv' := [(5, .int (y0 + y1)), (0, .ref a0), (1, .int x1), (2, .int x2), (3, .int x3), (6, .int x6)]) hx hb dX7_read_113 hl (Nat.le_of_ble_eq_true rfl) rfl (fun ls hl => ?_)
    refine lv_iinc (pc := 115) (v := (x6 + 1)) (lv' := [(6, .int (x6 + 1)), (5, .int (y0 + y1)), (0, .ref a0), (1, .int x1), (2, .int x2), (3, .int x3)]) hx hb dX7_read_115 hl (k := 5) rfl rfl (Nat.le_of_ble_eq_true rfl) rfl (fun ls hl => ?_)
    refine lv_goto (pc := 118) (tgt := 58) hx hb dX7_read_118 (by decide) ?_
    exact hk_58 x1 x2 x3 (y0 + y1) (x6 + 1) w H locs ls hP hS (lv_sub hl [2, 3, 4, 5, 1, 0] rfl) hq
  have L_58 : ∀ n : Nat, ∀ (x1 : Int32) (x2 : Int32) (x3 : Int32) (x5 : Int32) (x6 : Int32) (w : pv_MT) (H : Heap) (locs : List Loc) (ls : Array Slot), va_P E.1 vwCl (pv_wM E a0 a1 a2 a3 a4 a5 a6 a7 a8 a9 a10 w) H → va_S A s.heap H locs → lv_has ls 7 [(0, .ref a0), (1, .int x1), (2, .int x2), (3, .int x3), (5, .int x5), (6, .int x6)] → m_X7_read_58 n x1 x2 x3 x5 x6 w = some F → W p l e r_X7_read s m args below meth c H locs 0 0 (MQ below (pv_Rw E (pv_wM E a0 a1 a2 a3 a4 a5 a6 a7 a8 a9 a10 w0) sz (some (.int F.1)) ((fun w : pv_MT => pv_wM E a0 a1 a2 a3 a4 a5 a6 a7 a8 a9 a10 w) F.2)) args s 0 0 A) (F0 m 58 ls []) := by
    intro n
    induction n with
    | zero =>
      intro x1 x2 x3 x5 x6 w H locs ls hP hS hl hq
      exact (pv_no hq).elim
    | succ n ih =>
      intro x1 x2 x3 x5 x6 w H locs ls hP hS hl hq
      refine lv_iload (pc := 58) hx hb dX7_read_58 (lv_at hl 5 rfl) ?_
      refine lv_bipush (pc := 60) (v := 96) hx hb dX7_read_60 (by decide) ?_
      refine lv_icmp_ge (pc := 62) (tgt := 121) hx hb dX7_read_62 (by decide) (fun c_5 => ?_) (fun c_5 => ?_)
      · have hq := pv_pos c_5 hq
        refine lv_iload (pc := 121) hx hb dX7_read_121 (lv_at hl 4 rfl) ?_
        exact pv_riRW (w := fun w : pv_MT => pv_wM E a0 a1 a2 a3 a4 a5 a6 a7 a8 a9 a10 w) hx hb hr hlk hAe hS hP (Option.some.inj hq) dX7_read_123
      · have hq := pv_neg c_5 hq
        refine lv_aload_n (pc := 65) hx hb dX7_read_65 rfl (lv_at hl 0 rfl) ?_
        refine va_get (pc := 66) (D := E.1) (ci := 5) (v := .ref a1) (C := RX7) (T := TX7) (N := 17) hx hb hts i_RX7 hown hK hP 0 rfl rfl 0 (Nat.le_of_ble_eq_true rfl) fl_9 (fun _ h9 => h9) rfl dX7_read_66 ?_
        refine lv_bipush (pc := 69) (v := 15) hx hb dX7_read_69 (by decide) ?_
        refine lv_iconst (pc := 71) (v := 2) hx hb dX7_read_71 (by decide) ?_
        refine lv_iload_n (pc := 72) hx hb dX7_read_72 rfl (lv_at hl 3 rfl) ?_
        refine lv_imul (pc := 73) hx hb dX7_read_73 ?_
        refine lv_iadd (pc := 74) hx hb dX7_read_74 ?_
        refine lv_iload (pc := 75) hx hb dX7_read_75 (lv_at hl 5 rfl) ?_
        refine lv_bipush (pc := 77) (v := 16) hx hb dX7_read_77 (by decide) ?_
        refine lv_idiv (pc := 79) hx hb dX7_read_79 (by decide) ?_
        obtain ⟨h_6, hq⟩ := pv_gd_some hq
        refine va_iast (pc := 80) (D := E.1) hx hb hK hP (hD w) hS 1 0 rfl rfl h_6 dX7_read_80 (fun H locs hP _ hS => ?_)
        have hP : va_P E.1 vwCl (pv_wM E a0 a1 a2 a3 a4 a5 a6 a7 a8 a9 a10 ((upd w.1 (15 + (2 * x3)).toNatClampNeg (x6 / 16)), w.2.1, w.2.2.1, w.2.2.2.1, w.2.2.2.2.1, w.2.2.2.2.2.1, w.2.2.2.2.2.2.1, w.2.2.2.2.2.2.2.1, w.2.2.2.2.2.2.2.2.1, w.2.2.2.2.2.2.2.2.2.1, w.2.2.2.2.2.2.2.2.2.2.1, w.2.2.2.2.2.2.2.2.2.2.2.1, w.2.2.2.2.2.2.2.2.2.2.2.2.1, w.2.2.2.2.2.2.2.2.2.2.2.2.2.1, w.2.2.2.2.2.2.2.2.2.2.2.2.2.2.1, w.2.2.2.2.2.2.2.2.2.2.2.2.2.2.2.1, w.2.2.2.2.2.2.2.2.2.2.2.2.2.2.2.2)) H := hP
        refine lv_aload_n (pc := 81) hx hb dX7_read_81 rfl (lv_at hl 0 rfl) ?_
        refine va_get (pc := 82) (D := E.1) (ci := 5) (v := .ref a1) (C := RX7) (T := TX7) (N := 17) hx hb hts i_RX7 hown hK hP 0 rfl rfl 0 (Nat.le_of_ble_eq_true rfl) fl_9 (fun _ h9 => h9) rfl dX7_read_82 ?_
        refine lv_iconst (pc := 85) (v := 1) hx hb dX7_read_85 (by decide) ?_
        refine lv_iconst (pc := 86) (v := 2) hx hb dX7_read_86 (by decide) ?_
        refine lv_iload (pc := 87) hx hb dX7_read_87 (lv_at hl 5 rfl) ?_
        refine lv_bipush (pc := 89) (v := 16) hx hb dX7_read_89 (by decide) ?_
        refine pv_irem (pc := 91) hx hb dX7_read_91 (by decide) ?_
        refine lv_imul (pc := 92) hx hb dX7_read_92 ?_
        refine lv_iconst (pc := 93) (v := 1) hx hb dX7_read_93 (by decide) ?_
        refine lv_iadd (pc := 94) hx hb dX7_read_94 ?_
        refine va_iast (pc := 95) (D := E.1) hx hb hK hP (hD ((upd w.1 (15 + (2 * x3)).toNatClampNeg (x6 / 16)), w.2.1, w.2.2.1, w.2.2.2.1, w.2.2.2.2.1, w.2.2.2.2.2.1, w.2.2.2.2.2.2.1, w.2.2.2.2.2.2.2.1, w.2.2.2.2.2.2.2.2.1, w.2.2.2.2.2.2.2.2.2.1, w.2.2.2.2.2.2.2.2.2.2.1, w.2.2.2.2.2.2.2.2.2.2.2.1, w.2.2.2.2.2.2.2.2.2.2.2.2.1, w.2.2.2.2.2.2.2.2.2.2.2.2.2.1, w.2.2.2.2.2.2.2.2.2.2.2.2.2.2.1, w.2.2.2.2.2.2.2.2.2.2.2.2.2.2.2.1, w.2.2.2.2.2.2.2.2.2.2.2.2.2.2.2.2)) hS 1 0 rfl rfl (by decide : ¬ ((1 : Int32) < 0 ∨ 31 ≤ (1 : Int32).toNatClampNeg)) dX7_read_95 (fun H locs hP _ hS => ?_)
        have hP : va_P E.1 vwCl (pv_wM E a0 a1 a2 a3 a4 a5 a6 a7 a8 a9 a10 ((upd (upd w.1 (15 + (2 * x3)).toNatClampNeg (x6 / 16)) 1 ((2 * (pv_rem x6 16)) + 1)), w.2.1, w.2.2.1, w.2.2.2.1, w.2.2.2.2.1, w.2.2.2.2.2.1, w.2.2.2.2.2.2.1, w.2.2.2.2.2.2.2.1, w.2.2.2.2.2.2.2.2.1, w.2.2.2.2.2.2.2.2.2.1, w.2.2.2.2.2.2.2.2.2.2.1, w.2.2.2.2.2.2.2.2.2.2.2.1, w.2.2.2.2.2.2.2.2.2.2.2.2.1, w.2.2.2.2.2.2.2.2.2.2.2.2.2.1, w.2.2.2.2.2.2.2.2.2.2.2.2.2.2.1, w.2.2.2.2.2.2.2.2.2.2.2.2.2.2.2.1, w.2.2.2.2.2.2.2.2.2.2.2.2.2.2.2.2)) H := hP
        refine lv_iload (pc := 96) hx hb dX7_read_96 (lv_at hl 4 rfl) ?_
        refine lv_aload_n (pc := 98) hx hb dX7_read_98 rfl (lv_at hl 0 rfl) ?_
        refine lv_iload_n (pc := 99) hx hb dX7_read_99 rfl (lv_at hl 1 rfl) ?_
        refine lv_iload_n (pc := 100) hx hb dX7_read_100 rfl (lv_at hl 2 rfl) ?_
        obtain ⟨u_7, hu_7, hq⟩ := pv_bind hq
        refine pv_vRWf (pc := 101) (rest := [.int x5]) (st1 := [.int u_7.1, .int x5]) (ws := pv_wM E a0 a1 a2 a3 a4 a5 a6 a7 a8 a9 a10 ((upd (upd w.1 (15 + (2 * x3)).toNatClampNeg (x6 / 16)) 1 ((2 * (pv_rem x6 16)) + 1)), w.2.1, w.2.2.1, w.2.2.2.1, w.2.2.2.2.1, w.2.2.2.2.2.1, w.2.2.2.2.2.2.1, w.2.2.2.2.2.2.2.1, w.2.2.2.2.2.2.2.2.1, w.2.2.2.2.2.2.2.2.2.1, w.2.2.2.2.2.2.2.2.2.2.1, w.2.2.2.2.2.2.2.2.2.2.2.1, w.2.2.2.2.2.2.2.2.2.2.2.2.1, w.2.2.2.2.2.2.2.2.2.2.2.2.2.1, w.2.2.2.2.2.2.2.2.2.2.2.2.2.2.1, w.2.2.2.2.2.2.2.2.2.2.2.2.2.2.2.1, w.2.2.2.2.2.2.2.2.2.2.2.2.2.2.2.2)) [.int x1, .int x2] ⟨hx, hb, hml, hown, hts⟩ hE hA hS hP (hD ((upd (upd w.1 (15 + (2 * x3)).toNatClampNeg (x6 / 16)) 1 ((2 * (pv_rem x6 16)) + 1)), w.2.1, w.2.2.1, w.2.2.2.1, w.2.2.2.2.1, w.2.2.2.2.2.1, w.2.2.2.2.2.2.1, w.2.2.2.2.2.2.2.1, w.2.2.2.2.2.2.2.2.1, w.2.2.2.2.2.2.2.2.2.1, w.2.2.2.2.2.2.2.2.2.2.1, w.2.2.2.2.2.2.2.2.2.2.2.1, w.2.2.2.2.2.2.2.2.2.2.2.2.1, w.2.2.2.2.2.2.2.2.2.2.2.2.2.1, w.2.2.2.2.2.2.2.2.2.2.2.2.2.2.1, w.2.2.2.2.2.2.2.2.2.2.2.2.2.2.2.1, w.2.2.2.2.2.2.2.2.2.2.2.2.2.2.2.2)) (c_X7_isBook l E a0 a1 a2 a3 a4 a5 a6 a7 a8 a9 a10 x1 x2 ((upd (upd w.1 (15 + (2 * x3)).toNatClampNeg (x6 / 16)) 1 ((2 * (pv_rem x6 16)) + 1)), w.2.1, w.2.2.1, w.2.2.2.1, w.2.2.2.2.1, w.2.2.2.2.2.1, w.2.2.2.2.2.2.1, w.2.2.2.2.2.2.2.1, w.2.2.2.2.2.2.2.2.1, w.2.2.2.2.2.2.2.2.2.1, w.2.2.2.2.2.2.2.2.2.2.1, w.2.2.2.2.2.2.2.2.2.2.2.1, w.2.2.2.2.2.2.2.2.2.2.2.2.1, w.2.2.2.2.2.2.2.2.2.2.2.2.2.1, w.2.2.2.2.2.2.2.2.2.2.2.2.2.2.1, w.2.2.2.2.2.2.2.2.2.2.2.2.2.2.2.1, w.2.2.2.2.2.2.2.2.2.2.2.2.2.2.2.2) u_7 hu_7) (cwV 2 hts gX7_read_X7_isBook rfl rfl rfl (by decide +kernel) ⟨(Nat.le_of_ble_eq_true rfl), (Nat.le_of_ble_eq_true rfl)⟩) (va_recv hK hP (ci := 5) (q0 := 0) rfl rfl) rfl hl.1 rfl rfl (Nat.le_of_ble_eq_true rfl) dX7_read_101 ⟨Nat.zero_le _, Nat.zero_le _⟩ (fun H locs hP hS => ?_)
        have hP : va_P E.1 vwCl (pv_wM E a0 a1 a2 a3 a4 a5 a6 a7 a8 a9 a10 u_7.2) H := hP
        refine lv_if_eq (pc := 104) (tgt := 111) hx hb dX7_read_104 (by decide) (fun c_8 => ?_) (fun c_8 => ?_)
        · have hq := pv_pos c_8 hq
          refine lv_iconst (pc := 111) (v := 0) hx hb dX7_read_111 (by decide) ?_
          exact B_112 (m_X7_read_58 n) ih x1 x2 x3 x6 x5 0 u_7.2 H locs ls hP hS (lv_sub hl [0, 1, 2, 3, 5] rfl) hq
        · have hq := pv_neg c_8 hq
          refine lv_iconst (pc := 107) (v := 1) hx hb dX7_read_107 (by decide) ?_
          refine lv_goto (pc := 108) (tgt := 112) hx hb dX7_read_108 (by decide) ?_
          exact B_112 (m_X7_read_58 n) ih x1 x2 x3 x6 x5 1 u_7.2 H locs ls hP hS (lv_sub hl [0, 1, 2, 3, 5] rfl) hq
  have B_34 : ∀ (x1 : Int32) (x2 : Int32) (x3 : Int32) (y0 : Int32) (w : pv_MT) (H : Heap) (locs : List Loc) (ls : Array Slot), va_P E.1 vwCl (pv_wM E a0 a1 a2 a3 a4 a5 a6 a7 a8 a9 a10 w) H → va_S A s.heap H locs → lv_has ls 7 [(0, .ref a0), (1, .int x1), (2, .int x2), (3, .int x3)] → m_X7_read_34 x1 x2 x3 y0 w = some F → W p l e r_X7_read s m args below meth c H locs 0 0 (MQ below (pv_Rw E (pv_wM E a0 a1 a2 a3 a4 a5 a6 a7 a8 a9 a10 w0) sz (some (.int F.1)) ((fun w : pv_MT => pv_wM E a0 a1 a2 a3 a4 a5 a6 a7 a8 a9 a10 w) F.2)) args s 0 0 A) (F0 m 34 ls [.int y0]) := by
    intro x1 x2 x3 y0 w H locs ls hP hS hl hq
    refine lv_istore (pc := 34) (lv' := [(4, .int y0), (0, .ref a0), (1, .int x1), (2, .int x2), (3, .int x3)]) hx hb dX7_read_34 hl (Nat.le_of_ble_eq_true rfl) rfl (fun ls hl => ?_)
    refine lv_iload (pc := 36) hx hb dX7_read_36 (lv_at hl 0 rfl) ?_
    refine lv_if_eq (pc := 38) (tgt := 48) hx hb dX7_read_38 (by decide) (fun c_3 => ?_) (fun c_3 => ?_)
    · have hq := pv_pos c_3 hq
      refine lv_aload_n (pc := 48) hx hb dX7_read_48 rfl (lv_at hl 1 rfl) ?_
      obtain ⟨u_4, hu_4, hq⟩ := pv_bind hq
      refine pv_vRWf (pc := 49) (rest := []) (st1 := []) (ws := pv_wM E a0 a1 a2 a3 a4 a5 a6 a7 a8 a9 a10 w) [] ⟨hx, hb, hml, hown, hts⟩ hE hA hS hP (hD w) (c_X7_thinks l E a0 a1 a2 a3 a4 a5 a6 a7 a8 a9 a10 w u_4 hu_4) (cwV 0 hts gX7_read_X7_thinks rfl rfl rfl (by decide +kernel) ⟨(Nat.le_of_ble_eq_true rfl), (Nat.le_of_ble_eq_true rfl)⟩) (va_recv hK hP (ci := 5) (q0 := 0) rfl rfl) rfl hl.1 rfl rfl (Nat.le_of_ble_eq_true rfl) dX7_read_49 ⟨Nat.zero_le _, Nat.zero_le _⟩ (fun H locs hP hS => ?_)
      have hP : va_P E.1 vwCl (pv_wM E a0 a1 a2 a3 a4 a5 a6 a7 a8 a9 a10 u_4) H := hP
      refine lv_iconst (pc := 52) (v := 0) hx hb dX7_read_52 (by decide) ?_
      refine lv_istore (pc := 53) (lv' := [(5, .int 0), (4, .int y0), (0, .ref a0), (1, .int x1), (2, .int x2), (3, .int x3)]) hx hb dX7_read_53 hl (Nat.le_of_ble_eq_true rfl) rfl (fun ls hl => ?_)
      refine lv_iconst (pc := 55) (v := 0) hx hb dX7_read_55 (by decide) ?_
      refine lv_istore (pc := 56) (lv' := [(6, .int 0), (5, .int 0), (4, .int y0), (0, .ref a0), (1, .int x1), (2, .int x2), (3, .int x3)]) hx hb dX7_read_56 hl (Nat.le_of_ble_eq_true rfl) rfl (fun ls hl => ?_)
      exact L_58 300 x1 x2 x3 0 0 u_4 H locs ls hP hS (lv_sub hl [3, 4, 5, 6, 1, 0] rfl) hq
    · have hq := pv_neg c_3 hq
      refine lv_aload_n (pc := 41) hx hb dX7_read_41 rfl (lv_at hl 1 rfl) ?_
      refine lv_iload (pc := 42) hx hb dX7_read_42 (lv_at hl 0 rfl) ?_
      obtain ⟨u_9, hu_9, hq⟩ := pv_bind hq
      refine pv_vRWf (pc := 44) (rest := []) (st1 := [.int u_9.1]) (ws := pv_wM E a0 a1 a2 a3 a4 a5 a6 a7 a8 a9 a10 w) [.int y0] ⟨hx, hb, hml, hown, hts⟩ hE hA hS hP (hD w) (c_X7_finds l E a0 a1 a2 a3 a4 a5 a6 a7 a8 a9 a10 y0 w u_9 hu_9) (cwV 1 hts gX7_read_X7_finds rfl rfl rfl (by decide +kernel) ⟨(Nat.le_of_ble_eq_true rfl), (Nat.le_of_ble_eq_true rfl)⟩) (va_recv hK hP (ci := 5) (q0 := 0) rfl rfl) rfl hl.1 rfl rfl (Nat.le_of_ble_eq_true rfl) dX7_read_44 ⟨Nat.zero_le _, Nat.zero_le _⟩ (fun H locs hP hS => ?_)
      have hP : va_P E.1 vwCl (pv_wM E a0 a1 a2 a3 a4 a5 a6 a7 a8 a9 a10 u_9.2) H := hP
      exact pv_riRW (w := fun w : pv_MT => pv_wM E a0 a1 a2 a3 a4 a5 a6 a7 a8 a9 a10 w) hx hb hr hlk hAe hS hP (Option.some.inj hq) dX7_read_47
  have B_32 : ∀ (x1 : Int32) (x2 : Int32) (x3 : Int32) (x4 : Int32) (w : pv_MT) (H : Heap) (locs : List Loc) (ls : Array Slot), va_P E.1 vwCl (pv_wM E a0 a1 a2 a3 a4 a5 a6 a7 a8 a9 a10 w) H → va_S A s.heap H locs → lv_has ls 7 [(0, .ref a0), (1, .int x1), (2, .int x2), (3, .int x3), (4, .int x4)] → m_X7_read_32 x1 x2 x3 x4 w = some F → W p l e r_X7_read s m args below meth c H locs 0 0 (MQ below (pv_Rw E (pv_wM E a0 a1 a2 a3 a4 a5 a6 a7 a8 a9 a10 w0) sz (some (.int F.1)) ((fun w : pv_MT => pv_wM E a0 a1 a2 a3 a4 a5 a6 a7 a8 a9 a10 w) F.2)) args s 0 0 A) (F0 m 32 ls []) := by
    intro x1 x2 x3 x4 w H locs ls hP hS hl hq
    refine lv_iload (pc := 32) hx hb dX7_read_32 (lv_at hl 4 rfl) ?_
    exact B_34 x1 x2 x3 x4 w H locs ls hP hS (lv_sub hl [0, 1, 2, 3] rfl) hq
  have B_27 : ∀ (x1 : Int32) (x2 : Int32) (x3 : Int32) (w : pv_MT) (H : Heap) (locs : List Loc) (ls : Array Slot), va_P E.1 vwCl (pv_wM E a0 a1 a2 a3 a4 a5 a6 a7 a8 a9 a10 w) H → va_S A s.heap H locs → lv_has ls 7 [(0, .ref a0), (1, .int x1), (2, .int x2), (3, .int x3)] → m_X7_read_27 x1 x2 x3 w = some F → W p l e r_X7_read s m args below meth c H locs 0 0 (MQ below (pv_Rw E (pv_wM E a0 a1 a2 a3 a4 a5 a6 a7 a8 a9 a10 w0) sz (some (.int F.1)) ((fun w : pv_MT => pv_wM E a0 a1 a2 a3 a4 a5 a6 a7 a8 a9 a10 w) F.2)) args s 0 0 A) (F0 m 27 ls []) := by
    intro x1 x2 x3 w H locs ls hP hS hl hq
    refine lv_ldc (pc := 27) hx hb hown lc_41 dX7_read_27 ?_
    refine lv_goto (pc := 29) (tgt := 34) hx hb dX7_read_29 (by decide) ?_
    exact B_34 x1 x2 x3 (-1000000001) w H locs ls hP hS (lv_sub hl [0, 1, 2, 3] rfl) hq
  suffices M0 : ∀ (H : Heap) (locs : List Loc), va_P E.1 vwCl (pv_wM E a0 a1 a2 a3 a4 a5 a6 a7 a8 a9 a10 w0) H → va_S A s.heap H locs → W p l e r_X7_read s m args below meth c H locs 0 0 (MQ below (pv_Rw E (pv_wM E a0 a1 a2 a3 a4 a5 a6 a7 a8 a9 a10 w0) sz (some (.int F.1)) ((fun w : pv_MT => pv_wM E a0 a1 a2 a3 a4 a5 a6 a7 a8 a9 a10 w) F.2)) args s 0 0 A) (F0 m 0 ls []) from M0 s.heap [] hP hS
  intro H locs hP hS
  refine lv_aload_n (pc := 0) hx hb dX7_read_0 rfl (lv_at hl 0 rfl) ?_
  refine lv_iload_n (pc := 1) hx hb dX7_read_1 rfl (lv_at hl 1 rfl) ?_
  obtain ⟨u_1, hu_1, hq⟩ := pv_bind hq
  refine pv_vROf (pc := 2) (rest := []) (st1 := [.int u_1]) (ws := pv_wM E a0 a1 a2 a3 a4 a5 a6 a7 a8 a9 a10 w0) [.int x1] ⟨hx, hb, hml, hown, hts⟩ hE hA hS hP (hD w0) (c_X7_notThere l E a0 a1 a2 a3 a4 a5 a6 a7 a8 a9 a10 x1 w0 u_1 hu_1) (cwV 1 hts gX7_read_X7_notThere rfl rfl rfl (by decide +kernel) ⟨(Nat.le_of_ble_eq_true rfl), (Nat.le_of_ble_eq_true rfl)⟩) (va_recv hK hP (ci := 5) (q0 := 0) rfl rfl) rfl hl.1 rfl rfl (Nat.le_of_ble_eq_true rfl) dX7_read_2 ⟨Nat.zero_le _, Nat.zero_le _⟩ (fun locs hS => ?_)
  refine lv_istore (pc := 5) (lv' := [(4, .int u_1), (0, .ref a0), (1, .int x1), (2, .int x2), (3, .int x3)]) hx hb dX7_read_5 hl (Nat.le_of_ble_eq_true rfl) rfl (fun ls hl => ?_)
  refine lv_iload (pc := 7) hx hb dX7_read_7 (lv_at hl 0 rfl) ?_
  refine lv_if_ne (pc := 9) (tgt := 32) hx hb dX7_read_9 (by decide) (fun c_2 => ?_) (fun c_2 => ?_)
  · have hq := pv_neg c_2 hq
    exact B_32 x1 x2 x3 u_1 w0 H locs ls hP hS (lv_sub hl [1, 2, 3, 4, 0] rfl) hq
  · have hq := pv_pos c_2 hq
    refine lv_iload_n (pc := 12) hx hb dX7_read_12 rfl (lv_at hl 3 rfl) ?_
    obtain ⟨u_10, hu_10, hq⟩ := pv_bind hq
    refine pv_sRO (pc := 13) (rest := []) (st1 := [.int u_10]) (ws := pv_wM E a0 a1 a2 a3 a4 a5 a6 a7 a8 a9 a10 w0) [.int x2] ⟨hx, hb, hml, hown, hts⟩ hE hA hS hP (hD w0) (c_X7_isState l E x2 u_10 hu_10) (va_cwS 1 hts gX7_read_X7_isState rfl rfl rfl (by decide +kernel) ⟨(Nat.le_of_ble_eq_true rfl), (Nat.le_of_ble_eq_true rfl)⟩) [] rfl rfl rfl hl.1 rfl rfl (Nat.le_of_ble_eq_true rfl) dX7_read_13 ⟨Nat.zero_le _, Nat.zero_le _⟩ (fun locs hS => ?_)
    refine lv_if_eq (pc := 16) (tgt := 27) hx hb dX7_read_16 (by decide) (fun c_11 => ?_) (fun c_11 => ?_)
    · have hq := pv_pos c_11 hq
      exact B_27 x1 x2 x3 w0 H locs ls hP hS (lv_sub hl [1, 2, 3, 4] rfl) hq
    · have hq := pv_neg c_11 hq
      refine lv_aload_n (pc := 19) hx hb dX7_read_19 rfl (lv_at hl 1 rfl) ?_
      refine lv_iload_n (pc := 20) hx hb dX7_read_20 rfl (lv_at hl 4 rfl) ?_
      obtain ⟨u_12, hu_12, hq⟩ := pv_bind hq
      refine pv_vROf (pc := 21) (rest := []) (st1 := [.int u_12]) (ws := pv_wM E a0 a1 a2 a3 a4 a5 a6 a7 a8 a9 a10 w0) [.int x3] ⟨hx, hb, hml, hown, hts⟩ hE hA hS hP (hD w0) (c_X7_isEnvoy l E a0 a1 a2 a3 a4 a5 a6 a7 a8 a9 a10 x3 w0 u_12 hu_12) (cwV 1 hts gX7_read_X7_isEnvoy rfl rfl rfl (by decide +kernel) ⟨(Nat.le_of_ble_eq_true rfl), (Nat.le_of_ble_eq_true rfl)⟩) (va_recv hK hP (ci := 5) (q0 := 0) rfl rfl) rfl hl.1 rfl rfl (Nat.le_of_ble_eq_true rfl) dX7_read_21 ⟨Nat.zero_le _, Nat.zero_le _⟩ (fun locs hS => ?_)
      refine lv_if_ne (pc := 24) (tgt := 32) hx hb dX7_read_24 (by decide) (fun c_13 => ?_) (fun c_13 => ?_)
      · have hq := pv_neg c_13 hq
        exact B_32 x1 x2 x3 u_1 w0 H locs ls hP hS (lv_sub hl [1, 2, 3, 4, 0] rfl) hq
      · have hq := pv_pos c_13 hq
        exact B_27 x1 x2 x3 w0 H locs ls hP hS (lv_sub hl [1, 2, 3, 4] rfl) hq
def m_X7_image  (w : pv_MT) : Option (Int32 × pv_MT) :=
  Option.bind (m_X7_copyAll (w.1, w.2.1)) fun u_1 => (some (1, (u_1.1, u_1.2, w.2.2.1, 1, w.2.2.2.2.1, w.2.2.2.2.2.1, w.2.2.2.2.2.2.1, w.2.2.2.2.2.2.2.1, w.2.2.2.2.2.2.2.2.1, w.2.2.2.2.2.2.2.2.2.1, w.2.2.2.2.2.2.2.2.2.2.1, w.2.2.2.2.2.2.2.2.2.2.2.1, w.2.2.2.2.2.2.2.2.2.2.2.2.1, w.2.2.2.2.2.2.2.2.2.2.2.2.2.1, w.2.2.2.2.2.2.2.2.2.2.2.2.2.2.1, w.2.2.2.2.2.2.2.2.2.2.2.2.2.2.2.1, w.2.2.2.2.2.2.2.2.2.2.2.2.2.2.2.2)))
abbrev r_X7_image : Room := { frames := 1, cells := 0, slots := 0, locals := 22 }
set_option maxHeartbeats 4000000 in
set_option maxRecDepth 100000 in
theorem c_X7_image (l : Launch) (E : pv_E) (a0 a1 a2 a3 a4 a5 a6 a7 a8 a9 a10 : Nat)  (w0 : pv_MT) (F : Int32 × pv_MT) (hq : m_X7_image w0 = some F) : pv_RW l E yX7_image wsX7_image r_X7_image (pv_wM E a0 a1 a2 a3 a4 a5 a6 a7 a8 a9 a10 w0) [.ref a0] (some (.int F.1)) (pv_wM E a0 a1 a2 a3 a4 a5 a6 a7 a8 a9 a10 F.2) := by
  intro sz
  refine pv_mk (by decide) rfl (Nat.le_of_ble_eq_true rfl) ?_
  intro p e s m args below meth c A hx hb hr hml hown hts hlk hAe hP hD0 hA hE hS ls hl
  have hown : s.vm.findClass RX7 = some m.cls := hown
  have hK := hE.1
  have hD : ∀ w : pv_MT, va_D A (pv_wM E a0 a1 a2 a3 a4 a5 a6 a7 a8 a9 a10 w) := fun w => pv_Dm (ws := pv_wM E a0 a1 a2 a3 a4 a5 a6 a7 a8 a9 a10 w0) (ws' := pv_wM E a0 a1 a2 a3 a4 a5 a6 a7 a8 a9 a10 w) rfl hD0
  have hP : va_P E.1 vwCl (pv_wM E a0 a1 a2 a3 a4 a5 a6 a7 a8 a9 a10 w0) s.heap := hP
  have fl_9 : (Cond.fieldLink RX7 9 "ProvinceCardsModel" "m" "[I").before args s = true := hts _ (by decide +kernel)
  have fl_13 : (Cond.fieldLink RX7 13 "ProvinceCardsModel" "kept" "[I").before args s = true := hts _ (by decide +kernel)
  have fl_237 : (Cond.fieldLink RX7 237 "ProvinceCardsModel" "isKept" "Z").before args s = true := hts _ (by decide +kernel)
  have i_RX7 : ∀ w ∈ wsX70, w ∈ wsX7_image := by decide +kernel
  have hl : lv_has ls 1 [(0, .ref a0)] := hl
  suffices M0 : ∀ (H : Heap) (locs : List Loc), va_P E.1 vwCl (pv_wM E a0 a1 a2 a3 a4 a5 a6 a7 a8 a9 a10 w0) H → va_S A s.heap H locs → W p l e r_X7_image s m args below meth c H locs 0 0 (MQ below (pv_Rw E (pv_wM E a0 a1 a2 a3 a4 a5 a6 a7 a8 a9 a10 w0) sz (some (.int F.1)) ((fun w : pv_MT => pv_wM E a0 a1 a2 a3 a4 a5 a6 a7 a8 a9 a10 w) F.2)) args s 0 0 A) (F0 m 0 ls []) from M0 s.heap [] hP hS
  intro H locs hP hS
  refine lv_aload_n (pc := 0) hx hb dX7_image_0 rfl (lv_at hl 0 rfl) ?_
  refine va_get (pc := 1) (D := E.1) (ci := 5) (v := .ref a1) (C := RX7) (T := TX7) (N := 17) hx hb hts i_RX7 hown hK hP 0 rfl rfl 0 (Nat.le_of_ble_eq_true rfl) fl_9 (fun _ h9 => h9) rfl dX7_image_1 ?_
  refine lv_aload_n (pc := 4) hx hb dX7_image_4 rfl (lv_at hl 0 rfl) ?_
  refine va_get (pc := 5) (D := E.1) (ci := 5) (v := .ref a2) (C := RX7) (T := TX7) (N := 17) hx hb hts i_RX7 hown hK hP 0 rfl rfl 1 (Nat.le_of_ble_eq_true rfl) fl_13 (fun _ h9 => h9) rfl dX7_image_5 ?_
  obtain ⟨u_1, hu_1, hq⟩ := pv_bind hq
  refine pv_sRW (pc := 8) (rest := []) (st1 := []) (ws := pv_wM E a0 a1 a2 a3 a4 a5 a6 a7 a8 a9 a10 w0) (ws' := pv_wM E a0 a1 a2 a3 a4 a5 a6 a7 a8 a9 a10 (u_1.1, u_1.2, w0.2.2.1, w0.2.2.2.1, w0.2.2.2.2.1, w0.2.2.2.2.2.1, w0.2.2.2.2.2.2.1, w0.2.2.2.2.2.2.2.1, w0.2.2.2.2.2.2.2.2.1, w0.2.2.2.2.2.2.2.2.2.1, w0.2.2.2.2.2.2.2.2.2.2.1, w0.2.2.2.2.2.2.2.2.2.2.2.1, w0.2.2.2.2.2.2.2.2.2.2.2.2.1, w0.2.2.2.2.2.2.2.2.2.2.2.2.2.1, w0.2.2.2.2.2.2.2.2.2.2.2.2.2.2.1, w0.2.2.2.2.2.2.2.2.2.2.2.2.2.2.2.1, w0.2.2.2.2.2.2.2.2.2.2.2.2.2.2.2.2)) [.ref a1, .ref a2] ⟨hx, hb, hml, hown, hts⟩ hE hA hS hP (hD w0) (c_X7_copyAll l E a1 a2 (w0.1, w0.2.1) u_1 hu_1) (va_cwS 2 hts gX7_image_X7_copyAll rfl rfl rfl (by decide +kernel) ⟨(Nat.le_of_ble_eq_true rfl), (Nat.le_of_ble_eq_true rfl)⟩) [1, 2] rfl rfl rfl rfl rfl hl.1 rfl rfl (Nat.le_of_ble_eq_true rfl) dX7_image_8 ⟨Nat.zero_le _, Nat.zero_le _⟩ (fun H locs hP hS => ?_)
  refine lv_aload_n (pc := 11) hx hb dX7_image_11 rfl (lv_at hl 0 rfl) ?_
  refine lv_iconst (pc := 12) (v := 1) hx hb dX7_image_12 (by decide) ?_
  refine va_put (pc := 13) (D := E.1) (ci := 5) (v := .int 1) (ty := .boolean) (C := RX7) (T := TX7) (N := 17) hx hb hts i_RX7 tyX7 tyX7_ok nmX7 hown hK hP (hD (u_1.1, u_1.2, w0.2.2.1, w0.2.2.2.1, w0.2.2.2.2.1, w0.2.2.2.2.2.1, w0.2.2.2.2.2.2.1, w0.2.2.2.2.2.2.2.1, w0.2.2.2.2.2.2.2.2.1, w0.2.2.2.2.2.2.2.2.2.1, w0.2.2.2.2.2.2.2.2.2.2.1, w0.2.2.2.2.2.2.2.2.2.2.2.1, w0.2.2.2.2.2.2.2.2.2.2.2.2.1, w0.2.2.2.2.2.2.2.2.2.2.2.2.2.1, w0.2.2.2.2.2.2.2.2.2.2.2.2.2.2.1, w0.2.2.2.2.2.2.2.2.2.2.2.2.2.2.2.1, w0.2.2.2.2.2.2.2.2.2.2.2.2.2.2.2.2)) hS 0 rfl rfl 3 (Nat.le_of_ble_eq_true rfl) fl_237 (fun _ h9 => h9) rfl (tyX7_ok 3 (Nat.le_of_ble_eq_true rfl)) rfl rfl (Nat.le_of_ble_eq_true rfl) dX7_image_13 (fun H locs hP _ hS => ?_)
  have hP : va_P E.1 vwCl (pv_wM E a0 a1 a2 a3 a4 a5 a6 a7 a8 a9 a10 (u_1.1, u_1.2, w0.2.2.1, 1, w0.2.2.2.2.1, w0.2.2.2.2.2.1, w0.2.2.2.2.2.2.1, w0.2.2.2.2.2.2.2.1, w0.2.2.2.2.2.2.2.2.1, w0.2.2.2.2.2.2.2.2.2.1, w0.2.2.2.2.2.2.2.2.2.2.1, w0.2.2.2.2.2.2.2.2.2.2.2.1, w0.2.2.2.2.2.2.2.2.2.2.2.2.1, w0.2.2.2.2.2.2.2.2.2.2.2.2.2.1, w0.2.2.2.2.2.2.2.2.2.2.2.2.2.2.1, w0.2.2.2.2.2.2.2.2.2.2.2.2.2.2.2.1, w0.2.2.2.2.2.2.2.2.2.2.2.2.2.2.2.2)) H := hP
  refine lv_iconst (pc := 16) (v := 1) hx hb dX7_image_16 (by decide) ?_
  exact pv_riRW (w := fun w : pv_MT => pv_wM E a0 a1 a2 a3 a4 a5 a6 a7 a8 a9 a10 w) hx hb hr hlk hAe hS hP (Option.some.inj hq) dX7_image_17
def m_X7_undo  (w : pv_MT) : Option (Int32 × pv_MT) :=
  if w.2.2.2.1 = 0 then (Option.bind (m_X7_finds (-1000000004) w) fun u_3 => (some (u_3.1, u_3.2))) else (Option.bind (m_X7_copyAll (w.2.1, w.1)) fun u_2 => (some ((u_2.2 2), (u_2.2, u_2.1, w.2.2.1, w.2.2.2.1, w.2.2.2.2.1, w.2.2.2.2.2.1, w.2.2.2.2.2.2.1, w.2.2.2.2.2.2.2.1, w.2.2.2.2.2.2.2.2.1, w.2.2.2.2.2.2.2.2.2.1, w.2.2.2.2.2.2.2.2.2.2.1, w.2.2.2.2.2.2.2.2.2.2.2.1, w.2.2.2.2.2.2.2.2.2.2.2.2.1, w.2.2.2.2.2.2.2.2.2.2.2.2.2.1, w.2.2.2.2.2.2.2.2.2.2.2.2.2.2.1, w.2.2.2.2.2.2.2.2.2.2.2.2.2.2.2.1, w.2.2.2.2.2.2.2.2.2.2.2.2.2.2.2.2))))
abbrev r_X7_undo : Room := { frames := 1, cells := 0, slots := 0, locals := 22 }
set_option maxHeartbeats 4000000 in
set_option maxRecDepth 100000 in
theorem c_X7_undo (l : Launch) (E : pv_E) (a0 a1 a2 a3 a4 a5 a6 a7 a8 a9 a10 : Nat)  (w0 : pv_MT) (F : Int32 × pv_MT) (hq : m_X7_undo w0 = some F) : pv_RW l E yX7_undo wsX7_undo r_X7_undo (pv_wM E a0 a1 a2 a3 a4 a5 a6 a7 a8 a9 a10 w0) [.ref a0] (some (.int F.1)) (pv_wM E a0 a1 a2 a3 a4 a5 a6 a7 a8 a9 a10 F.2) := by
  intro sz
  refine pv_mk (by decide) rfl (Nat.le_of_ble_eq_true rfl) ?_
  intro p e s m args below meth c A hx hb hr hml hown hts hlk hAe hP hD0 hA hE hS ls hl
  have hown : s.vm.findClass RX7 = some m.cls := hown
  have hK := hE.1
  have hD : ∀ w : pv_MT, va_D A (pv_wM E a0 a1 a2 a3 a4 a5 a6 a7 a8 a9 a10 w) := fun w => pv_Dm (ws := pv_wM E a0 a1 a2 a3 a4 a5 a6 a7 a8 a9 a10 w0) (ws' := pv_wM E a0 a1 a2 a3 a4 a5 a6 a7 a8 a9 a10 w) rfl hD0
  have hP : va_P E.1 vwCl (pv_wM E a0 a1 a2 a3 a4 a5 a6 a7 a8 a9 a10 w0) s.heap := hP
  have fl_237 : (Cond.fieldLink RX7 237 "ProvinceCardsModel" "isKept" "Z").before args s = true := hts _ (by decide +kernel)
  have fl_13 : (Cond.fieldLink RX7 13 "ProvinceCardsModel" "kept" "[I").before args s = true := hts _ (by decide +kernel)
  have fl_9 : (Cond.fieldLink RX7 9 "ProvinceCardsModel" "m" "[I").before args s = true := hts _ (by decide +kernel)
  have lc_42 : (Cond.constant RX7 42 (-1000000004)).before args s = true := hts _ (by decide +kernel)
  have i_RX7 : ∀ w ∈ wsX70, w ∈ wsX7_undo := by decide +kernel
  have hl : lv_has ls 1 [(0, .ref a0)] := hl
  suffices M0 : ∀ (H : Heap) (locs : List Loc), va_P E.1 vwCl (pv_wM E a0 a1 a2 a3 a4 a5 a6 a7 a8 a9 a10 w0) H → va_S A s.heap H locs → W p l e r_X7_undo s m args below meth c H locs 0 0 (MQ below (pv_Rw E (pv_wM E a0 a1 a2 a3 a4 a5 a6 a7 a8 a9 a10 w0) sz (some (.int F.1)) ((fun w : pv_MT => pv_wM E a0 a1 a2 a3 a4 a5 a6 a7 a8 a9 a10 w) F.2)) args s 0 0 A) (F0 m 0 ls []) from M0 s.heap [] hP hS
  intro H locs hP hS
  refine lv_aload_n (pc := 0) hx hb dX7_undo_0 rfl (lv_at hl 0 rfl) ?_
  refine va_get (pc := 1) (D := E.1) (ci := 5) (v := .int w0.2.2.2.1) (C := RX7) (T := TX7) (N := 17) hx hb hts i_RX7 hown hK hP 0 rfl rfl 3 (Nat.le_of_ble_eq_true rfl) fl_237 (fun _ h9 => h9) rfl dX7_undo_1 ?_
  refine lv_if_ne (pc := 4) (tgt := 14) hx hb dX7_undo_4 (by decide) (fun c_1 => ?_) (fun c_1 => ?_)
  · have hq := pv_neg c_1 hq
    refine lv_aload_n (pc := 14) hx hb dX7_undo_14 rfl (lv_at hl 0 rfl) ?_
    refine va_get (pc := 15) (D := E.1) (ci := 5) (v := .ref a2) (C := RX7) (T := TX7) (N := 17) hx hb hts i_RX7 hown hK hP 0 rfl rfl 1 (Nat.le_of_ble_eq_true rfl) fl_13 (fun _ h9 => h9) rfl dX7_undo_15 ?_
    refine lv_aload_n (pc := 18) hx hb dX7_undo_18 rfl (lv_at hl 0 rfl) ?_
    refine va_get (pc := 19) (D := E.1) (ci := 5) (v := .ref a1) (C := RX7) (T := TX7) (N := 17) hx hb hts i_RX7 hown hK hP 0 rfl rfl 0 (Nat.le_of_ble_eq_true rfl) fl_9 (fun _ h9 => h9) rfl dX7_undo_19 ?_
    obtain ⟨u_2, hu_2, hq⟩ := pv_bind hq
    refine pv_sRW (pc := 22) (rest := []) (st1 := []) (ws := pv_wM E a0 a1 a2 a3 a4 a5 a6 a7 a8 a9 a10 w0) (ws' := pv_wM E a0 a1 a2 a3 a4 a5 a6 a7 a8 a9 a10 (u_2.2, u_2.1, w0.2.2.1, w0.2.2.2.1, w0.2.2.2.2.1, w0.2.2.2.2.2.1, w0.2.2.2.2.2.2.1, w0.2.2.2.2.2.2.2.1, w0.2.2.2.2.2.2.2.2.1, w0.2.2.2.2.2.2.2.2.2.1, w0.2.2.2.2.2.2.2.2.2.2.1, w0.2.2.2.2.2.2.2.2.2.2.2.1, w0.2.2.2.2.2.2.2.2.2.2.2.2.1, w0.2.2.2.2.2.2.2.2.2.2.2.2.2.1, w0.2.2.2.2.2.2.2.2.2.2.2.2.2.2.1, w0.2.2.2.2.2.2.2.2.2.2.2.2.2.2.2.1, w0.2.2.2.2.2.2.2.2.2.2.2.2.2.2.2.2)) [.ref a2, .ref a1] ⟨hx, hb, hml, hown, hts⟩ hE hA hS hP (hD w0) (c_X7_copyAll l E a2 a1 (w0.2.1, w0.1) u_2 hu_2) (va_cwS 2 hts gX7_undo_X7_copyAll rfl rfl rfl (by decide +kernel) ⟨(Nat.le_of_ble_eq_true rfl), (Nat.le_of_ble_eq_true rfl)⟩) [2, 1] rfl rfl rfl rfl rfl hl.1 rfl rfl (Nat.le_of_ble_eq_true rfl) dX7_undo_22 ⟨Nat.zero_le _, Nat.zero_le _⟩ (fun H locs hP hS => ?_)
    refine lv_aload_n (pc := 25) hx hb dX7_undo_25 rfl (lv_at hl 0 rfl) ?_
    refine va_get (pc := 26) (D := E.1) (ci := 5) (v := .ref a1) (C := RX7) (T := TX7) (N := 17) hx hb hts i_RX7 hown hK hP 0 rfl rfl 0 (Nat.le_of_ble_eq_true rfl) fl_9 (fun _ h9 => h9) rfl dX7_undo_26 ?_
    refine lv_iconst (pc := 29) (v := 2) hx hb dX7_undo_29 (by decide) ?_
    refine va_iald (pc := 30) (D := E.1) hx hb hK hP 1 0 rfl rfl (by decide : ¬ ((2 : Int32) < 0 ∨ 31 ≤ (2 : Int32).toNatClampNeg)) dX7_undo_30 ?_
    refine W.eq (g2 := F0 m 31 ls [.int (u_2.2 2)]) rfl ?_
    exact pv_riRW (w := fun w : pv_MT => pv_wM E a0 a1 a2 a3 a4 a5 a6 a7 a8 a9 a10 w) hx hb hr hlk hAe hS hP (Option.some.inj hq) dX7_undo_31
  · have hq := pv_pos c_1 hq
    refine lv_aload_n (pc := 7) hx hb dX7_undo_7 rfl (lv_at hl 0 rfl) ?_
    refine lv_ldc (pc := 8) hx hb hown lc_42 dX7_undo_8 ?_
    obtain ⟨u_3, hu_3, hq⟩ := pv_bind hq
    refine pv_vRWf (pc := 10) (rest := []) (st1 := [.int u_3.1]) (ws := pv_wM E a0 a1 a2 a3 a4 a5 a6 a7 a8 a9 a10 w0) [.int (-1000000004)] ⟨hx, hb, hml, hown, hts⟩ hE hA hS hP (hD w0) (c_X7_finds l E a0 a1 a2 a3 a4 a5 a6 a7 a8 a9 a10 (-1000000004) w0 u_3 hu_3) (cwV 1 hts gX7_undo_X7_finds rfl rfl rfl (by decide +kernel) ⟨(Nat.le_of_ble_eq_true rfl), (Nat.le_of_ble_eq_true rfl)⟩) (va_recv hK hP (ci := 5) (q0 := 0) rfl rfl) rfl hl.1 rfl rfl (Nat.le_of_ble_eq_true rfl) dX7_undo_10 ⟨Nat.zero_le _, Nat.zero_le _⟩ (fun H locs hP hS => ?_)
    have hP : va_P E.1 vwCl (pv_wM E a0 a1 a2 a3 a4 a5 a6 a7 a8 a9 a10 u_3.2) H := hP
    exact pv_riRW (w := fun w : pv_MT => pv_wM E a0 a1 a2 a3 a4 a5 a6 a7 a8 a9 a10 w) hx hb hr hlk hAe hS hP (Option.some.inj hq) dX7_undo_13
def m_X7_tear_12 (y0 : Int32) (w : pv_MT) : Option (Int32 × pv_MT) :=
  some (y0, (w.1, w.2.1, w.2.2.1, 0, w.2.2.2.2.1, w.2.2.2.2.2.1, w.2.2.2.2.2.2.1, w.2.2.2.2.2.2.2.1, w.2.2.2.2.2.2.2.2.1, w.2.2.2.2.2.2.2.2.2.1, w.2.2.2.2.2.2.2.2.2.2.1, w.2.2.2.2.2.2.2.2.2.2.2.1, w.2.2.2.2.2.2.2.2.2.2.2.2.1, w.2.2.2.2.2.2.2.2.2.2.2.2.2.1, w.2.2.2.2.2.2.2.2.2.2.2.2.2.2.1, w.2.2.2.2.2.2.2.2.2.2.2.2.2.2.2.1, w.2.2.2.2.2.2.2.2.2.2.2.2.2.2.2.2))
def m_X7_tear  (w : pv_MT) : Option (Int32 × pv_MT) :=
  if w.2.2.2.1 = 0 then (m_X7_tear_12 0 w) else (m_X7_tear_12 1 w)
abbrev r_X7_tear : Room := { frames := 0, cells := 0, slots := 0, locals := 0 }
set_option maxHeartbeats 4000000 in
set_option maxRecDepth 100000 in
theorem c_X7_tear (l : Launch) (E : pv_E) (a0 a1 a2 a3 a4 a5 a6 a7 a8 a9 a10 : Nat)  (w0 : pv_MT) (F : Int32 × pv_MT) (hq : m_X7_tear w0 = some F) : pv_RW l E yX7_tear wsX7_tear r_X7_tear (pv_wM E a0 a1 a2 a3 a4 a5 a6 a7 a8 a9 a10 w0) [.ref a0] (some (.int F.1)) (pv_wM E a0 a1 a2 a3 a4 a5 a6 a7 a8 a9 a10 F.2) := by
  intro sz
  refine pv_mk (by decide) rfl (Nat.le_of_ble_eq_true rfl) ?_
  intro p e s m args below meth c A hx hb hr hml hown hts hlk hAe hP hD0 hA hE hS ls hl
  have hown : s.vm.findClass RX7 = some m.cls := hown
  have hK := hE.1
  have hD : ∀ w : pv_MT, va_D A (pv_wM E a0 a1 a2 a3 a4 a5 a6 a7 a8 a9 a10 w) := fun w => pv_Dm (ws := pv_wM E a0 a1 a2 a3 a4 a5 a6 a7 a8 a9 a10 w0) (ws' := pv_wM E a0 a1 a2 a3 a4 a5 a6 a7 a8 a9 a10 w) rfl hD0
  have hP : va_P E.1 vwCl (pv_wM E a0 a1 a2 a3 a4 a5 a6 a7 a8 a9 a10 w0) s.heap := hP
  have fl_237 : (Cond.fieldLink RX7 237 "ProvinceCardsModel" "isKept" "Z").before args s = true := hts _ (by decide +kernel)
  have i_RX7 : ∀ w ∈ wsX70, w ∈ wsX7_tear := by decide +kernel
  have hl : lv_has ls 2 [(0, .ref a0)] := hl
  have B_12 : ∀ (y0 : Int32) (w : pv_MT) (H : Heap) (locs : List Loc) (ls : Array Slot), va_P E.1 vwCl (pv_wM E a0 a1 a2 a3 a4 a5 a6 a7 a8 a9 a10 w) H → va_S A s.heap H locs → lv_has ls 2 [(0, .ref a0)] → m_X7_tear_12 y0 w = some F → W p l e r_X7_tear s m args below meth c H locs 0 0 (MQ below (pv_Rw E (pv_wM E a0 a1 a2 a3 a4 a5 a6 a7 a8 a9 a10 w0) sz (some (.int F.1)) ((fun w : pv_MT => pv_wM E a0 a1 a2 a3 a4 a5 a6 a7 a8 a9 a10 w) F.2)) args s 0 0 A) (F0 m 12 ls [.int y0]) := by
    intro y0 w H locs ls hP hS hl hq
    refine lv_istore_n (pc := 12) (lv' := [(1, .int y0), (0, .ref a0)]) hx hb dX7_tear_12 rfl hl (Nat.le_of_ble_eq_true rfl) rfl (fun ls hl => ?_)
    refine lv_aload_n (pc := 13) hx hb dX7_tear_13 rfl (lv_at hl 1 rfl) ?_
    refine lv_iconst (pc := 14) (v := 0) hx hb dX7_tear_14 (by decide) ?_
    refine va_put (pc := 15) (D := E.1) (ci := 5) (v := .int 0) (ty := .boolean) (C := RX7) (T := TX7) (N := 17) hx hb hts i_RX7 tyX7 tyX7_ok nmX7 hown hK hP (hD w) hS 0 rfl rfl 3 (Nat.le_of_ble_eq_true rfl) fl_237 (fun _ h9 => h9) rfl (tyX7_ok 3 (Nat.le_of_ble_eq_true rfl)) rfl rfl (Nat.le_of_ble_eq_true rfl) dX7_tear_15 (fun H locs hP _ hS => ?_)
    have hP : va_P E.1 vwCl (pv_wM E a0 a1 a2 a3 a4 a5 a6 a7 a8 a9 a10 (w.1, w.2.1, w.2.2.1, 0, w.2.2.2.2.1, w.2.2.2.2.2.1, w.2.2.2.2.2.2.1, w.2.2.2.2.2.2.2.1, w.2.2.2.2.2.2.2.2.1, w.2.2.2.2.2.2.2.2.2.1, w.2.2.2.2.2.2.2.2.2.2.1, w.2.2.2.2.2.2.2.2.2.2.2.1, w.2.2.2.2.2.2.2.2.2.2.2.2.1, w.2.2.2.2.2.2.2.2.2.2.2.2.2.1, w.2.2.2.2.2.2.2.2.2.2.2.2.2.2.1, w.2.2.2.2.2.2.2.2.2.2.2.2.2.2.2.1, w.2.2.2.2.2.2.2.2.2.2.2.2.2.2.2.2)) H := hP
    refine lv_iload_n (pc := 18) hx hb dX7_tear_18 rfl (lv_at hl 0 rfl) ?_
    exact pv_riRW (w := fun w : pv_MT => pv_wM E a0 a1 a2 a3 a4 a5 a6 a7 a8 a9 a10 w) hx hb hr hlk hAe hS hP (Option.some.inj hq) dX7_tear_19
  suffices M0 : ∀ (H : Heap) (locs : List Loc), va_P E.1 vwCl (pv_wM E a0 a1 a2 a3 a4 a5 a6 a7 a8 a9 a10 w0) H → va_S A s.heap H locs → W p l e r_X7_tear s m args below meth c H locs 0 0 (MQ below (pv_Rw E (pv_wM E a0 a1 a2 a3 a4 a5 a6 a7 a8 a9 a10 w0) sz (some (.int F.1)) ((fun w : pv_MT => pv_wM E a0 a1 a2 a3 a4 a5 a6 a7 a8 a9 a10 w) F.2)) args s 0 0 A) (F0 m 0 ls []) from M0 s.heap [] hP hS
  intro H locs hP hS
  refine lv_aload_n (pc := 0) hx hb dX7_tear_0 rfl (lv_at hl 0 rfl) ?_
  refine va_get (pc := 1) (D := E.1) (ci := 5) (v := .int w0.2.2.2.1) (C := RX7) (T := TX7) (N := 17) hx hb hts i_RX7 hown hK hP 0 rfl rfl 3 (Nat.le_of_ble_eq_true rfl) fl_237 (fun _ h9 => h9) rfl dX7_tear_1 ?_
  refine lv_if_eq (pc := 4) (tgt := 11) hx hb dX7_tear_4 (by decide) (fun c_1 => ?_) (fun c_1 => ?_)
  · have hq := pv_pos c_1 hq
    refine lv_iconst (pc := 11) (v := 0) hx hb dX7_tear_11 (by decide) ?_
    exact B_12 0 w0 H locs ls hP hS (lv_sub hl [0] rfl) hq
  · have hq := pv_neg c_1 hq
    refine lv_iconst (pc := 7) (v := 1) hx hb dX7_tear_7 (by decide) ?_
    refine lv_goto (pc := 8) (tgt := 12) hx hb dX7_tear_8 (by decide) ?_
    exact B_12 1 w0 H locs ls hP hS (lv_sub hl [0] rfl) hq
def m_X7_allWon_4 : Nat → Int32 → Int32 → pv_MT → Option (Int32)
  | 0 => fun _ _ _ => none
  | n + 1 => fun x1 x2 w =>
    if (w.1 2) ≤ x2 then (some x1) else (Option.bind (m_X7_it x2 1 w) fun u_2 => ((m_X7_allWon_4 n) (x1 + u_2) (x2 + 1) w))
def m_X7_allWon  (w : pv_MT) : Option (Int32) :=
  m_X7_allWon_4 300 0 0 w
abbrev r_X7_allWon : Room := { frames := 1, cells := 0, slots := 0, locals := 22 }
set_option maxHeartbeats 4000000 in
set_option maxRecDepth 100000 in
theorem c_X7_allWon (l : Launch) (E : pv_E) (a0 a1 a2 a3 a4 a5 a6 a7 a8 a9 a10 : Nat)  (w : pv_MT) (F : Int32) (hq : m_X7_allWon w = some F) : pv_RO l E yX7_allWon wsX7_allWon r_X7_allWon (pv_wM E a0 a1 a2 a3 a4 a5 a6 a7 a8 a9 a10 w) [.ref a0] (some (.int F)) := by
  intro sz
  refine pv_mk (by decide) rfl (Nat.le_of_ble_eq_true rfl) ?_
  intro p e s m args below meth c A hx hb hr hml hown hts hlk hAe hP hD0 hA hE hS ls hl
  have hown : s.vm.findClass RX7 = some m.cls := hown
  have hK := hE.1
  have hD := hD0
  have fl_9 : (Cond.fieldLink RX7 9 "ProvinceCardsModel" "m" "[I").before args s = true := hts _ (by decide +kernel)
  have i_RX7 : ∀ w ∈ wsX70, w ∈ wsX7_allWon := by decide +kernel
  have hl : lv_has ls 3 [(0, .ref a0)] := hl
  have L_4 : ∀ n : Nat, ∀ (x1 : Int32) (x2 : Int32) (locs : List Loc) (ls : Array Slot), va_S A s.heap s.heap locs → lv_has ls 3 [(0, .ref a0), (1, .int x1), (2, .int x2)] → m_X7_allWon_4 n x1 x2 w = some F → W p l e r_X7_allWon s m args below meth c s.heap locs 0 0 (MQ below (pv_Ro (some (.int F))) args s 0 0 A) (F0 m 4 ls []) := by
    intro n
    induction n with
    | zero =>
      intro x1 x2 locs ls hS hl hq
      exact (pv_no hq).elim
    | succ n ih =>
      intro x1 x2 locs ls hS hl hq
      refine lv_iload_n (pc := 4) hx hb dX7_allWon_4 rfl (lv_at hl 2 rfl) ?_
      refine lv_aload_n (pc := 5) hx hb dX7_allWon_5 rfl (lv_at hl 0 rfl) ?_
      refine va_get (pc := 6) (D := E.1) (ci := 5) (v := .ref a1) (C := RX7) (T := TX7) (N := 17) hx hb hts i_RX7 hown hK hP 0 rfl rfl 0 (Nat.le_of_ble_eq_true rfl) fl_9 (fun _ h9 => h9) rfl dX7_allWon_6 ?_
      refine lv_iconst (pc := 9) (v := 2) hx hb dX7_allWon_9 (by decide) ?_
      refine va_iald (pc := 10) (D := E.1) hx hb hK hP 1 0 rfl rfl (by decide : ¬ ((2 : Int32) < 0 ∨ 31 ≤ (2 : Int32).toNatClampNeg)) dX7_allWon_10 ?_
      refine W.eq (g2 := F0 m 11 ls [.int (w.1 2), .int x2]) rfl ?_
      refine lv_icmp_ge (pc := 11) (tgt := 29) hx hb dX7_allWon_11 (by decide) (fun c_1 => ?_) (fun c_1 => ?_)
      · have hq := pv_pos c_1 hq
        refine lv_iload_n (pc := 29) hx hb dX7_allWon_29 rfl (lv_at hl 1 rfl) ?_
        exact pv_riRO hx hb hr hlk hS (Option.some.inj hq) dX7_allWon_30
      · have hq := pv_neg c_1 hq
        refine lv_iload_n (pc := 14) hx hb dX7_allWon_14 rfl (lv_at hl 1 rfl) ?_
        refine lv_aload_n (pc := 15) hx hb dX7_allWon_15 rfl (lv_at hl 0 rfl) ?_
        refine lv_iload_n (pc := 16) hx hb dX7_allWon_16 rfl (lv_at hl 2 rfl) ?_
        refine lv_iconst (pc := 17) (v := 1) hx hb dX7_allWon_17 (by decide) ?_
        obtain ⟨u_2, hu_2, hq⟩ := pv_bind hq
        refine pv_vROf (pc := 18) (rest := [.int x1]) (st1 := [.int u_2, .int x1]) (ws := pv_wM E a0 a1 a2 a3 a4 a5 a6 a7 a8 a9 a10 w) [.int x2, .int 1] ⟨hx, hb, hml, hown, hts⟩ hE hA hS hP hD (c_X7_it l E a0 a1 a2 a3 a4 a5 a6 a7 a8 a9 a10 x2 1 w u_2 hu_2) (cwV 2 hts gX7_allWon_X7_it rfl rfl rfl (by decide +kernel) ⟨(Nat.le_of_ble_eq_true rfl), (Nat.le_of_ble_eq_true rfl)⟩) (va_recv hK hP (ci := 5) (q0 := 0) rfl rfl) rfl hl.1 rfl rfl (Nat.le_of_ble_eq_true rfl) dX7_allWon_18 ⟨Nat.zero_le _, Nat.zero_le _⟩ (fun locs hS => ?_)
        refine lv_iadd (pc := 21) hx hb dX7_allWon_21 ?_
        refine lv_istore_n (pc := 22) (lv' := [(1, .int (x1 + u_2)), (0, .ref a0), (2, .int x2)]) hx hb dX7_allWon_22 rfl hl (Nat.le_of_ble_eq_true rfl) rfl (fun ls hl => ?_)
        refine lv_iinc (pc := 23) (v := (x2 + 1)) (lv' := [(2, .int (x2 + 1)), (1, .int (x1 + u_2)), (0, .ref a0)]) hx hb dX7_allWon_23 hl (k := 2) rfl rfl (Nat.le_of_ble_eq_true rfl) rfl (fun ls hl => ?_)
        refine lv_goto (pc := 26) (tgt := 4) hx hb dX7_allWon_26 (by decide) ?_
        exact ih (x1 + u_2) (x2 + 1) locs ls hS (lv_sub hl [2, 1, 0] rfl) hq
  suffices M0 : ∀ (locs : List Loc), va_S A s.heap s.heap locs → W p l e r_X7_allWon s m args below meth c s.heap locs 0 0 (MQ below (pv_Ro (some (.int F))) args s 0 0 A) (F0 m 0 ls []) from M0 [] hS
  intro locs hS
  refine lv_iconst (pc := 0) (v := 0) hx hb dX7_allWon_0 (by decide) ?_
  refine lv_istore_n (pc := 1) (lv' := [(1, .int 0), (0, .ref a0)]) hx hb dX7_allWon_1 rfl hl (Nat.le_of_ble_eq_true rfl) rfl (fun ls hl => ?_)
  refine lv_iconst (pc := 2) (v := 0) hx hb dX7_allWon_2 (by decide) ?_
  refine lv_istore_n (pc := 3) (lv' := [(2, .int 0), (1, .int 0), (0, .ref a0)]) hx hb dX7_allWon_3 rfl hl (Nat.le_of_ble_eq_true rfl) rfl (fun ls hl => ?_)
  exact L_4 300 0 0 locs ls hS (lv_sub hl [2, 1, 0] rfl) hq
def m_X7_count (x1 : Int32) (w : pv_MT) : Option (Int32 × pv_MT) :=
  if x1 = 0 then (some ((w.1 2), w)) else if x1 = 1 then (some (w.2.2.2.2.2.2.2.2.1, w)) else if x1 = 2 then (Option.bind (m_X7_landsOf (-1) w) fun u_4 => (Option.bind (m_X7_bits u_4) fun u_5 => (some (u_5, w)))) else if x1 = 3 then (Option.bind (m_X7_allWon w) fun u_7 => (some (u_7, w))) else (Option.bind (m_X7_finds (-1000000001) w) fun u_8 => (some (u_8.1, u_8.2)))
abbrev r_X7_count : Room := { frames := 2, cells := 0, slots := 0, locals := 44 }
set_option maxHeartbeats 4000000 in
set_option maxRecDepth 100000 in
theorem c_X7_count (l : Launch) (E : pv_E) (a0 a1 a2 a3 a4 a5 a6 a7 a8 a9 a10 : Nat) (x1 : Int32) (w0 : pv_MT) (F : Int32 × pv_MT) (hq : m_X7_count x1 w0 = some F) : pv_RW l E yX7_count wsX7_count r_X7_count (pv_wM E a0 a1 a2 a3 a4 a5 a6 a7 a8 a9 a10 w0) [.ref a0, .int x1] (some (.int F.1)) (pv_wM E a0 a1 a2 a3 a4 a5 a6 a7 a8 a9 a10 F.2) := by
  intro sz
  refine pv_mk (by decide) rfl (Nat.le_of_ble_eq_true rfl) ?_
  intro p e s m args below meth c A hx hb hr hml hown hts hlk hAe hP hD0 hA hE hS ls hl
  have hown : s.vm.findClass RX7 = some m.cls := hown
  have hK := hE.1
  have hD : ∀ w : pv_MT, va_D A (pv_wM E a0 a1 a2 a3 a4 a5 a6 a7 a8 a9 a10 w) := fun w => pv_Dm (ws := pv_wM E a0 a1 a2 a3 a4 a5 a6 a7 a8 a9 a10 w0) (ws' := pv_wM E a0 a1 a2 a3 a4 a5 a6 a7 a8 a9 a10 w) rfl hD0
  have hP : va_P E.1 vwCl (pv_wM E a0 a1 a2 a3 a4 a5 a6 a7 a8 a9 a10 w0) s.heap := hP
  have fl_9 : (Cond.fieldLink RX7 9 "ProvinceCardsModel" "m" "[I").before args s = true := hts _ (by decide +kernel)
  have fl_160 : (Cond.fieldLink RX7 160 "ProvinceCardsModel" "taped" "I").before args s = true := hts _ (by decide +kernel)
  have lc_41 : (Cond.constant RX7 41 (-1000000001)).before args s = true := hts _ (by decide +kernel)
  have i_RX7 : ∀ w ∈ wsX70, w ∈ wsX7_count := by decide +kernel
  have hl : lv_has ls 2 [(0, .ref a0), (1, .int x1)] := hl
  suffices M0 : ∀ (H : Heap) (locs : List Loc), va_P E.1 vwCl (pv_wM E a0 a1 a2 a3 a4 a5 a6 a7 a8 a9 a10 w0) H → va_S A s.heap H locs → W p l e r_X7_count s m args below meth c H locs 0 0 (MQ below (pv_Rw E (pv_wM E a0 a1 a2 a3 a4 a5 a6 a7 a8 a9 a10 w0) sz (some (.int F.1)) ((fun w : pv_MT => pv_wM E a0 a1 a2 a3 a4 a5 a6 a7 a8 a9 a10 w) F.2)) args s 0 0 A) (F0 m 0 ls []) from M0 s.heap [] hP hS
  intro H locs hP hS
  refine lv_iload_n (pc := 0) hx hb dX7_count_0 rfl (lv_at hl 1 rfl) ?_
  by_cases c_1 : x1 = 0
  · have hq := pv_pos c_1 hq
    refine lv_tableIn (pc := 1) (tgt := 32) (off := 31) hx hb dX7_count_1 (by rw [c_1]; decide) (by rw [c_1]; decide) (by rw [c_1]; rfl) (by decide) ?_
    refine lv_aload_n (pc := 32) hx hb dX7_count_32 rfl (lv_at hl 0 rfl) ?_
    refine va_get (pc := 33) (D := E.1) (ci := 5) (v := .ref a1) (C := RX7) (T := TX7) (N := 17) hx hb hts i_RX7 hown hK hP 0 rfl rfl 0 (Nat.le_of_ble_eq_true rfl) fl_9 (fun _ h9 => h9) rfl dX7_count_33 ?_
    refine lv_iconst (pc := 36) (v := 2) hx hb dX7_count_36 (by decide) ?_
    refine va_iald (pc := 37) (D := E.1) hx hb hK hP 1 0 rfl rfl (by decide : ¬ ((2 : Int32) < 0 ∨ 31 ≤ (2 : Int32).toNatClampNeg)) dX7_count_37 ?_
    refine W.eq (g2 := F0 m 38 ls [.int (w0.1 2)]) rfl ?_
    exact pv_riRW (w := fun w : pv_MT => pv_wM E a0 a1 a2 a3 a4 a5 a6 a7 a8 a9 a10 w) hx hb hr hlk hAe hS hP (Option.some.inj hq) dX7_count_38
  have hq := pv_neg c_1 hq
  by_cases c_2 : x1 = 1
  · have hq := pv_pos c_2 hq
    refine lv_tableIn (pc := 1) (tgt := 39) (off := 38) hx hb dX7_count_1 (by rw [c_2]; decide) (by rw [c_2]; decide) (by rw [c_2]; rfl) (by decide) ?_
    refine lv_aload_n (pc := 39) hx hb dX7_count_39 rfl (lv_at hl 0 rfl) ?_
    refine va_get (pc := 40) (D := E.1) (ci := 5) (v := .int w0.2.2.2.2.2.2.2.2.1) (C := RX7) (T := TX7) (N := 17) hx hb hts i_RX7 hown hK hP 0 rfl rfl 8 (Nat.le_of_ble_eq_true rfl) fl_160 (fun _ h9 => h9) rfl dX7_count_40 ?_
    exact pv_riRW (w := fun w : pv_MT => pv_wM E a0 a1 a2 a3 a4 a5 a6 a7 a8 a9 a10 w) hx hb hr hlk hAe hS hP (Option.some.inj hq) dX7_count_43
  have hq := pv_neg c_2 hq
  by_cases c_3 : x1 = 2
  · have hq := pv_pos c_3 hq
    refine lv_tableIn (pc := 1) (tgt := 44) (off := 43) hx hb dX7_count_1 (by rw [c_3]; decide) (by rw [c_3]; decide) (by rw [c_3]; rfl) (by decide) ?_
    refine lv_aload_n (pc := 44) hx hb dX7_count_44 rfl (lv_at hl 0 rfl) ?_
    refine lv_iconst (pc := 45) (v := (-1)) hx hb dX7_count_45 (by decide) ?_
    obtain ⟨u_4, hu_4, hq⟩ := pv_bind hq
    refine pv_vROf (pc := 46) (rest := []) (st1 := [.int u_4]) (ws := pv_wM E a0 a1 a2 a3 a4 a5 a6 a7 a8 a9 a10 w0) [.int (-1)] ⟨hx, hb, hml, hown, hts⟩ hE hA hS hP (hD w0) (c_X7_landsOf l E a0 a1 a2 a3 a4 a5 a6 a7 a8 a9 a10 (-1) w0 u_4 hu_4) (cwV 1 hts gX7_count_X7_landsOf rfl rfl rfl (by decide +kernel) ⟨(Nat.le_of_ble_eq_true rfl), (Nat.le_of_ble_eq_true rfl)⟩) (va_recv hK hP (ci := 5) (q0 := 0) rfl rfl) rfl hl.1 rfl rfl (Nat.le_of_ble_eq_true rfl) dX7_count_46 ⟨Nat.zero_le _, Nat.zero_le _⟩ (fun locs hS => ?_)
    obtain ⟨u_5, hu_5, hq⟩ := pv_bind hq
    refine pv_sRO (pc := 49) (rest := []) (st1 := [.int u_5]) (ws := pv_wM E a0 a1 a2 a3 a4 a5 a6 a7 a8 a9 a10 w0) [.int u_4] ⟨hx, hb, hml, hown, hts⟩ hE hA hS hP (hD w0) (c_X7_bits l E u_4 u_5 hu_5) (va_cwS 1 hts gX7_count_X7_bits rfl rfl rfl (by decide +kernel) ⟨(Nat.le_of_ble_eq_true rfl), (Nat.le_of_ble_eq_true rfl)⟩) [] rfl rfl rfl hl.1 rfl rfl (Nat.le_of_ble_eq_true rfl) dX7_count_49 ⟨Nat.zero_le _, Nat.zero_le _⟩ (fun locs hS => ?_)
    exact pv_riRW (w := fun w : pv_MT => pv_wM E a0 a1 a2 a3 a4 a5 a6 a7 a8 a9 a10 w) hx hb hr hlk hAe hS hP (Option.some.inj hq) dX7_count_52
  have hq := pv_neg c_3 hq
  by_cases c_6 : x1 = 3
  · have hq := pv_pos c_6 hq
    refine lv_tableIn (pc := 1) (tgt := 53) (off := 52) hx hb dX7_count_1 (by rw [c_6]; decide) (by rw [c_6]; decide) (by rw [c_6]; rfl) (by decide) ?_
    refine lv_aload_n (pc := 53) hx hb dX7_count_53 rfl (lv_at hl 0 rfl) ?_
    obtain ⟨u_7, hu_7, hq⟩ := pv_bind hq
    refine pv_vROf (pc := 54) (rest := []) (st1 := [.int u_7]) (ws := pv_wM E a0 a1 a2 a3 a4 a5 a6 a7 a8 a9 a10 w0) [] ⟨hx, hb, hml, hown, hts⟩ hE hA hS hP (hD w0) (c_X7_allWon l E a0 a1 a2 a3 a4 a5 a6 a7 a8 a9 a10 w0 u_7 hu_7) (cwV 0 hts gX7_count_X7_allWon rfl rfl rfl (by decide +kernel) ⟨(Nat.le_of_ble_eq_true rfl), (Nat.le_of_ble_eq_true rfl)⟩) (va_recv hK hP (ci := 5) (q0 := 0) rfl rfl) rfl hl.1 rfl rfl (Nat.le_of_ble_eq_true rfl) dX7_count_54 ⟨Nat.zero_le _, Nat.zero_le _⟩ (fun locs hS => ?_)
    exact pv_riRW (w := fun w : pv_MT => pv_wM E a0 a1 a2 a3 a4 a5 a6 a7 a8 a9 a10 w) hx hb hr hlk hAe hS hP (Option.some.inj hq) dX7_count_57
  have hq := pv_neg c_6 hq
  refine lv_tableOut (pc := 1) (tgt := 58) hx hb dX7_count_1 (pv_swr (x := x1) 0 3 (fun k h1 h2 => (fun e7 => Or.elim e7 (fun e8 e9 => c_1 ((e9.trans (congrArg Int32.ofInt e8)).trans (by decide))) (fun e7 => Or.elim e7 (fun e8 e9 => c_2 ((e9.trans (congrArg Int32.ofInt e8)).trans (by decide))) (fun e7 => Or.elim e7 (fun e8 e9 => c_3 ((e9.trans (congrArg Int32.ofInt e8)).trans (by decide))) (fun e8 e9 => c_6 ((e9.trans (congrArg Int32.ofInt e8)).trans (by decide)))))) (show k = 0 ∨ k = 1 ∨ k = 2 ∨ k = 3 by omega))) (by decide) ?_
  refine lv_aload_n (pc := 58) hx hb dX7_count_58 rfl (lv_at hl 0 rfl) ?_
  refine lv_ldc (pc := 59) hx hb hown lc_41 dX7_count_59 ?_
  obtain ⟨u_8, hu_8, hq⟩ := pv_bind hq
  refine pv_vRWf (pc := 61) (rest := []) (st1 := [.int u_8.1]) (ws := pv_wM E a0 a1 a2 a3 a4 a5 a6 a7 a8 a9 a10 w0) [.int (-1000000001)] ⟨hx, hb, hml, hown, hts⟩ hE hA hS hP (hD w0) (c_X7_finds l E a0 a1 a2 a3 a4 a5 a6 a7 a8 a9 a10 (-1000000001) w0 u_8 hu_8) (cwV 1 hts gX7_count_X7_finds rfl rfl rfl (by decide +kernel) ⟨(Nat.le_of_ble_eq_true rfl), (Nat.le_of_ble_eq_true rfl)⟩) (va_recv hK hP (ci := 5) (q0 := 0) rfl rfl) rfl hl.1 rfl rfl (Nat.le_of_ble_eq_true rfl) dX7_count_61 ⟨Nat.zero_le _, Nat.zero_le _⟩ (fun H locs hP hS => ?_)
  have hP : va_P E.1 vwCl (pv_wM E a0 a1 a2 a3 a4 a5 a6 a7 a8 a9 a10 u_8.2) H := hP
  exact pv_riRW (w := fun w : pv_MT => pv_wM E a0 a1 a2 a3 a4 a5 a6 a7 a8 a9 a10 w) hx hb hr hlk hAe hS hP (Option.some.inj hq) dX7_count_64
def m_X7_status_48 (k_22 : Int32 → Int32 → Int32 → pv_MT → Option (Int32 × pv_MT)) (x1 : Int32) (x3 : Int32) (y0 : Int32) (y1 : Int32) (w : pv_MT) : Option (Int32 × pv_MT) :=
  k_22 x1 (y0 + y1) (x3 + 1) w
def m_X7_status_38 (k_22 : Int32 → Int32 → Int32 → pv_MT → Option (Int32 × pv_MT)) (x1 : Int32) (x3 : Int32) (y0 : Int32) (w : pv_MT) : Option (Int32 × pv_MT) :=
  pv_gd x3 7 (m_X7_status_48 k_22 x1 x3 y0 (w.2.2.2.2.1 x3.toNatClampNeg) w)
def m_X7_status_22 : Nat → Int32 → Int32 → Int32 → pv_MT → Option (Int32 × pv_MT)
  | 0 => fun _ _ _ _ => none
  | n + 1 => fun x1 x2 x3 w =>
    if 7 ≤ x3 then (some (x2, w)) else (if x1 < 0 then (m_X7_status_38 (m_X7_status_22 n) x1 x3 x2 w) else (if x1 = x3 then (m_X7_status_38 (m_X7_status_22 n) x1 x3 x2 w) else (m_X7_status_48 (m_X7_status_22 n) x1 x3 x2 0 w)))
def m_X7_status (x1 : Int32) (w : pv_MT) : Option (Int32 × pv_MT) :=
  if (m_X7_in x1.toInt64 (-1) 6) = 0 then (Option.bind (m_X7_finds (-1000000001) w) fun u_6 => (some (u_6.1, u_6.2))) else (m_X7_status_22 300 x1 0 0 w)
abbrev r_X7_status : Room := { frames := 1, cells := 0, slots := 0, locals := 23 }
set_option maxHeartbeats 4000000 in
set_option maxRecDepth 100000 in
theorem c_X7_status (l : Launch) (E : pv_E) (a0 a1 a2 a3 a4 a5 a6 a7 a8 a9 a10 : Nat) (x1 : Int32) (w0 : pv_MT) (F : Int32 × pv_MT) (hq : m_X7_status x1 w0 = some F) : pv_RW l E yX7_status wsX7_status r_X7_status (pv_wM E a0 a1 a2 a3 a4 a5 a6 a7 a8 a9 a10 w0) [.ref a0, .int x1] (some (.int F.1)) (pv_wM E a0 a1 a2 a3 a4 a5 a6 a7 a8 a9 a10 F.2) := by
  intro sz
  refine pv_mk (by decide) rfl (Nat.le_of_ble_eq_true rfl) ?_
  intro p e s m args below meth c A hx hb hr hml hown hts hlk hAe hP hD0 hA hE hS ls hl
  have hown : s.vm.findClass RX7 = some m.cls := hown
  have hK := hE.1
  have hD : ∀ w : pv_MT, va_D A (pv_wM E a0 a1 a2 a3 a4 a5 a6 a7 a8 a9 a10 w) := fun w => pv_Dm (ws := pv_wM E a0 a1 a2 a3 a4 a5 a6 a7 a8 a9 a10 w0) (ws' := pv_wM E a0 a1 a2 a3 a4 a5 a6 a7 a8 a9 a10 w) rfl hD0
  have hP : va_P E.1 vwCl (pv_wM E a0 a1 a2 a3 a4 a5 a6 a7 a8 a9 a10 w0) s.heap := hP
  have fl_19 : (Cond.fieldLink RX7 19 "ProvinceCardsModel" "found" "[I").before args s = true := hts _ (by decide +kernel)
  have lc_41 : (Cond.constant RX7 41 (-1000000001)).before args s = true := hts _ (by decide +kernel)
  have i_RX7 : ∀ w ∈ wsX70, w ∈ wsX7_status := by decide +kernel
  have hl : lv_has ls 4 [(0, .ref a0), (1, .int x1)] := hl
  have B_48 : ∀ (k_22 : Int32 → Int32 → Int32 → pv_MT → Option (Int32 × pv_MT)), (∀ (x1 : Int32) (x2 : Int32) (x3 : Int32) (w : pv_MT) (H : Heap) (locs : List Loc) (ls : Array Slot), va_P E.1 vwCl (pv_wM E a0 a1 a2 a3 a4 a5 a6 a7 a8 a9 a10 w) H → va_S A s.heap H locs → lv_has ls 4 [(0, .ref a0), (1, .int x1), (2, .int x2), (3, .int x3)] → k_22 x1 x2 x3 w = some F → W p l e r_X7_status s m args below meth c H locs 0 0 (MQ below (pv_Rw E (pv_wM E a0 a1 a2 a3 a4 a5 a6 a7 a8 a9 a10 w0) sz (some (.int F.1)) ((fun w : pv_MT => pv_wM E a0 a1 a2 a3 a4 a5 a6 a7 a8 a9 a10 w) F.2)) args s 0 0 A) (F0 m 22 ls [])) → ∀ (x1 : Int32) (x3 : Int32) (y0 : Int32) (y1 : Int32) (w : pv_MT) (H : Heap) (locs : List Loc) (ls : Array Slot), va_P E.1 vwCl (pv_wM E a0 a1 a2 a3 a4 a5 a6 a7 a8 a9 a10 w) H → va_S A s.heap H locs → lv_has ls 4 [(0, .ref a0), (1, .int x1), (3, .int x3)] → m_X7_status_48 k_22 x1 x3 y0 y1 w = some F → W p l e r_X7_status s m args below meth c H locs 0 0 (MQ below (pv_Rw E (pv_wM E a0 a1 a2 a3 a4 a5 a6 a7 a8 a9 a10 w0) sz (some (.int F.1)) ((fun w : pv_MT => pv_wM E a0 a1 a2 a3 a4 a5 a6 a7 a8 a9 a10 w) F.2)) args s 0 0 A) (F0 m 48 ls [.int y1, .int y0]) := by
    intro k_22 hk_22
    intro x1 x3 y0 y1 w H locs ls hP hS hl hq
    refine lv_iadd (pc := 48) hx hb dX7_status_48 ?_
    refine lv_istore_n (pc := 49) (lv' := [(2, .int (y0 + y1)), (0, .ref a0), (1, .int x1), (3, .int x3)]) hx hb dX7_status_49 rfl hl (Nat.le_of_ble_eq_true rfl) rfl (fun ls hl => ?_)
    refine lv_iinc (pc := 50) (v := (x3 + 1)) (lv' := [(3, .int (x3 + 1)), (2, .int (y0 + y1)), (0, .ref a0), (1, .int x1)]) hx hb dX7_status_50 hl (k := 3) rfl rfl (Nat.le_of_ble_eq_true rfl) rfl (fun ls hl => ?_)
    refine lv_goto (pc := 53) (tgt := 22) hx hb dX7_status_53 (by decide) ?_
    exact hk_22 x1 (y0 + y1) (x3 + 1) w H locs ls hP hS (lv_sub hl [2, 3, 1, 0] rfl) hq
  have B_38 : ∀ (k_22 : Int32 → Int32 → Int32 → pv_MT → Option (Int32 × pv_MT)), (∀ (x1 : Int32) (x2 : Int32) (x3 : Int32) (w : pv_MT) (H : Heap) (locs : List Loc) (ls : Array Slot), va_P E.1 vwCl (pv_wM E a0 a1 a2 a3 a4 a5 a6 a7 a8 a9 a10 w) H → va_S A s.heap H locs → lv_has ls 4 [(0, .ref a0), (1, .int x1), (2, .int x2), (3, .int x3)] → k_22 x1 x2 x3 w = some F → W p l e r_X7_status s m args below meth c H locs 0 0 (MQ below (pv_Rw E (pv_wM E a0 a1 a2 a3 a4 a5 a6 a7 a8 a9 a10 w0) sz (some (.int F.1)) ((fun w : pv_MT => pv_wM E a0 a1 a2 a3 a4 a5 a6 a7 a8 a9 a10 w) F.2)) args s 0 0 A) (F0 m 22 ls [])) → ∀ (x1 : Int32) (x3 : Int32) (y0 : Int32) (w : pv_MT) (H : Heap) (locs : List Loc) (ls : Array Slot), va_P E.1 vwCl (pv_wM E a0 a1 a2 a3 a4 a5 a6 a7 a8 a9 a10 w) H → va_S A s.heap H locs → lv_has ls 4 [(0, .ref a0), (1, .int x1), (3, .int x3)] → m_X7_status_38 k_22 x1 x3 y0 w = some F → W p l e r_X7_status s m args below meth c H locs 0 0 (MQ below (pv_Rw E (pv_wM E a0 a1 a2 a3 a4 a5 a6 a7 a8 a9 a10 w0) sz (some (.int F.1)) ((fun w : pv_MT => pv_wM E a0 a1 a2 a3 a4 a5 a6 a7 a8 a9 a10 w) F.2)) args s 0 0 A) (F0 m 38 ls [.int y0]) := by
    intro k_22 hk_22
    intro x1 x3 y0 w H locs ls hP hS hl hq
    refine lv_aload_n (pc := 38) hx hb dX7_status_38 rfl (lv_at hl 0 rfl) ?_
    refine va_get (pc := 39) (D := E.1) (ci := 5) (v := .ref a4) (C := RX7) (T := TX7) (N := 17) hx hb hts i_RX7 hown hK hP 0 rfl rfl 4 (Nat.le_of_ble_eq_true rfl) fl_19 (fun _ h9 => h9) rfl dX7_status_39 ?_
    refine lv_iload_n (pc := 42) hx hb dX7_status_42 rfl (lv_at hl 2 rfl) ?_
    obtain ⟨h_4, hq⟩ := pv_gd_some hq
    refine va_iald (pc := 43) (D := E.1) hx hb hK hP 4 0 rfl rfl h_4 dX7_status_43 ?_
    refine lv_goto (pc := 44) (tgt := 48) hx hb dX7_status_44 (by decide) ?_
    exact B_48 k_22 hk_22 x1 x3 y0 (w.2.2.2.2.1 x3.toNatClampNeg) w H locs ls hP hS (lv_sub hl [0, 1, 2] rfl) hq
  have L_22 : ∀ n : Nat, ∀ (x1 : Int32) (x2 : Int32) (x3 : Int32) (w : pv_MT) (H : Heap) (locs : List Loc) (ls : Array Slot), va_P E.1 vwCl (pv_wM E a0 a1 a2 a3 a4 a5 a6 a7 a8 a9 a10 w) H → va_S A s.heap H locs → lv_has ls 4 [(0, .ref a0), (1, .int x1), (2, .int x2), (3, .int x3)] → m_X7_status_22 n x1 x2 x3 w = some F → W p l e r_X7_status s m args below meth c H locs 0 0 (MQ below (pv_Rw E (pv_wM E a0 a1 a2 a3 a4 a5 a6 a7 a8 a9 a10 w0) sz (some (.int F.1)) ((fun w : pv_MT => pv_wM E a0 a1 a2 a3 a4 a5 a6 a7 a8 a9 a10 w) F.2)) args s 0 0 A) (F0 m 22 ls []) := by
    intro n
    induction n with
    | zero =>
      intro x1 x2 x3 w H locs ls hP hS hl hq
      exact (pv_no hq).elim
    | succ n ih =>
      intro x1 x2 x3 w H locs ls hP hS hl hq
      refine lv_iload_n (pc := 22) hx hb dX7_status_22 rfl (lv_at hl 3 rfl) ?_
      refine lv_bipush (pc := 23) (v := 7) hx hb dX7_status_23 (by decide) ?_
      refine lv_icmp_ge (pc := 25) (tgt := 56) hx hb dX7_status_25 (by decide) (fun c_2 => ?_) (fun c_2 => ?_)
      · have hq := pv_pos c_2 hq
        refine lv_iload_n (pc := 56) hx hb dX7_status_56 rfl (lv_at hl 2 rfl) ?_
        exact pv_riRW (w := fun w : pv_MT => pv_wM E a0 a1 a2 a3 a4 a5 a6 a7 a8 a9 a10 w) hx hb hr hlk hAe hS hP (Option.some.inj hq) dX7_status_57
      · have hq := pv_neg c_2 hq
        refine lv_iload_n (pc := 28) hx hb dX7_status_28 rfl (lv_at hl 2 rfl) ?_
        refine lv_iload_n (pc := 29) hx hb dX7_status_29 rfl (lv_at hl 1 rfl) ?_
        refine lv_if_lt (pc := 30) (tgt := 38) hx hb dX7_status_30 (by decide) (fun c_3 => ?_) (fun c_3 => ?_)
        · have hq := pv_pos c_3 hq
          exact B_38 (m_X7_status_22 n) ih x1 x3 x2 w H locs ls hP hS (lv_sub hl [0, 1, 3] rfl) hq
        · have hq := pv_neg c_3 hq
          refine lv_iload_n (pc := 33) hx hb dX7_status_33 rfl (lv_at hl 1 rfl) ?_
          refine lv_iload_n (pc := 34) hx hb dX7_status_34 rfl (lv_at hl 3 rfl) ?_
          refine lv_icmp_ne (pc := 35) (tgt := 47) hx hb dX7_status_35 (by decide) (fun c_5 => ?_) (fun c_5 => ?_)
          · have hq := pv_neg c_5 hq
            refine lv_iconst (pc := 47) (v := 0) hx hb dX7_status_47 (by decide) ?_
            exact B_48 (m_X7_status_22 n) ih x1 x3 x2 0 w H locs ls hP hS (lv_sub hl [0, 1, 3] rfl) hq
          · have hq := pv_pos c_5 hq
            exact B_38 (m_X7_status_22 n) ih x1 x3 x2 w H locs ls hP hS (lv_sub hl [0, 1, 3] rfl) hq
  suffices M0 : ∀ (H : Heap) (locs : List Loc), va_P E.1 vwCl (pv_wM E a0 a1 a2 a3 a4 a5 a6 a7 a8 a9 a10 w0) H → va_S A s.heap H locs → W p l e r_X7_status s m args below meth c H locs 0 0 (MQ below (pv_Rw E (pv_wM E a0 a1 a2 a3 a4 a5 a6 a7 a8 a9 a10 w0) sz (some (.int F.1)) ((fun w : pv_MT => pv_wM E a0 a1 a2 a3 a4 a5 a6 a7 a8 a9 a10 w) F.2)) args s 0 0 A) (F0 m 0 ls []) from M0 s.heap [] hP hS
  intro H locs hP hS
  refine lv_iload_n (pc := 0) hx hb dX7_status_0 rfl (lv_at hl 1 rfl) ?_
  refine lv_i2l (pc := 1) (v := x1.toInt64) hx hb dX7_status_1 rfl ?_
  refine lv_iconst (pc := 2) (v := (-1)) hx hb dX7_status_2 (by decide) ?_
  refine lv_bipush (pc := 3) (v := 6) hx hb dX7_status_3 (by decide) ?_
  refine pv_sRO (pc := 5) (rest := []) (st1 := [.int (m_X7_in x1.toInt64 (-1) 6)]) (ws := pv_wM E a0 a1 a2 a3 a4 a5 a6 a7 a8 a9 a10 w0) [.long x1.toInt64, .int (-1), .int 6] ⟨hx, hb, hml, hown, hts⟩ hE hA hS hP (hD w0) (c_X7_in l E x1.toInt64 (-1) 6) (va_cwS 3 hts gX7_status_X7_in rfl rfl rfl (by decide +kernel) ⟨(Nat.le_of_ble_eq_true rfl), (Nat.le_of_ble_eq_true rfl)⟩) [] rfl rfl rfl hl.1 rfl rfl (Nat.le_of_ble_eq_true rfl) dX7_status_5 ⟨Nat.zero_le _, Nat.zero_le _⟩ (fun locs hS => ?_)
  refine lv_if_ne (pc := 8) (tgt := 18) hx hb dX7_status_8 (by decide) (fun c_1 => ?_) (fun c_1 => ?_)
  · have hq := pv_neg c_1 hq
    refine lv_iconst (pc := 18) (v := 0) hx hb dX7_status_18 (by decide) ?_
    refine lv_istore_n (pc := 19) (lv' := [(2, .int 0), (0, .ref a0), (1, .int x1)]) hx hb dX7_status_19 rfl hl (Nat.le_of_ble_eq_true rfl) rfl (fun ls hl => ?_)
    refine lv_iconst (pc := 20) (v := 0) hx hb dX7_status_20 (by decide) ?_
    refine lv_istore_n (pc := 21) (lv' := [(3, .int 0), (2, .int 0), (0, .ref a0), (1, .int x1)]) hx hb dX7_status_21 rfl hl (Nat.le_of_ble_eq_true rfl) rfl (fun ls hl => ?_)
    exact L_22 300 x1 0 0 w0 H locs ls hP hS (lv_sub hl [2, 3, 1, 0] rfl) hq
  · have hq := pv_pos c_1 hq
    refine lv_aload_n (pc := 11) hx hb dX7_status_11 rfl (lv_at hl 0 rfl) ?_
    refine lv_ldc (pc := 12) hx hb hown lc_41 dX7_status_12 ?_
    obtain ⟨u_6, hu_6, hq⟩ := pv_bind hq
    refine pv_vRWf (pc := 14) (rest := []) (st1 := [.int u_6.1]) (ws := pv_wM E a0 a1 a2 a3 a4 a5 a6 a7 a8 a9 a10 w0) [.int (-1000000001)] ⟨hx, hb, hml, hown, hts⟩ hE hA hS hP (hD w0) (c_X7_finds l E a0 a1 a2 a3 a4 a5 a6 a7 a8 a9 a10 (-1000000001) w0 u_6 hu_6) (cwV 1 hts gX7_status_X7_finds rfl rfl rfl (by decide +kernel) ⟨(Nat.le_of_ble_eq_true rfl), (Nat.le_of_ble_eq_true rfl)⟩) (va_recv hK hP (ci := 5) (q0 := 0) rfl rfl) rfl hl.1 rfl rfl (Nat.le_of_ble_eq_true rfl) dX7_status_14 ⟨Nat.zero_le _, Nat.zero_le _⟩ (fun H locs hP hS => ?_)
    have hP : va_P E.1 vwCl (pv_wM E a0 a1 a2 a3 a4 a5 a6 a7 a8 a9 a10 u_6.2) H := hP
    exact pv_riRW (w := fun w : pv_MT => pv_wM E a0 a1 a2 a3 a4 a5 a6 a7 a8 a9 a10 w) hx hb hr hlk hAe hS hP (Option.some.inj hq) dX7_status_17
