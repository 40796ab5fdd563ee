def m_X6_best_17  (w : pv_XT) : Option (Int32 × pv_XT) :=
  Option.bind (m_X6_finding (-1000000001) w) fun u_2 => (some (u_2.1, u_2.2))
def m_X6_best_121 (k_49 : Int32 → Int32 → Int32 → Int32 → Int32 → pv_XT → Option (Int32 × pv_XT)) (x1 : Int32) (x2 : Int32) (x3 : Int32) (x4 : Int32) (x5 : Int32) (w : pv_XT) : Option (Int32 × pv_XT) :=
  k_49 x1 x2 x3 x4 (x5 + 1) w
def m_X6_best_49 : Nat → Int32 → Int32 → Int32 → Int32 → Int32 → pv_XT → Option (Int32 × pv_XT)
  | 0 => fun _ _ _ _ _ _ => none
  | n + 1 => fun x1 x2 x3 x4 x5 w =>
    if w.1.2.2.1 ≤ x5 then (some (x3, w)) else (Option.bind (m_X4_become (w.2.2.1, w.1)) fun u_6 => (pv_gd x1 2 (Option.bind (m_X4_passMonths x2 ((u_6.1.1, u_6.1.2.1, u_6.1.2.2.1, u_6.1.2.2.2.1, u_6.1.2.2.2.2.1, (upd u_6.1.2.2.2.2.2.1 x1.toNatClampNeg x5), u_6.1.2.2.2.2.2.2.1, u_6.1.2.2.2.2.2.2.2), w.2.2.2.1)) fun u_8 => (Option.bind (m_X4_owned x1 u_8.1) fun u_9 => (if u_9 ≤ x4 then (m_X6_best_121 (m_X6_best_49 n) x1 x2 x3 x4 x5 (u_6.2, w.2.1, u_8.1, u_8.2, w.2.2.2.2.1, w.2.2.2.2.2.1, w.2.2.2.2.2.2.1, w.2.2.2.2.2.2.2)) else (Option.bind (m_X4_owned x1 u_8.1) fun u_11 => (m_X6_best_121 (m_X6_best_49 n) x1 x2 x5 u_11 x5 (u_6.2, w.2.1, u_8.1, u_8.2, w.2.2.2.2.1, w.2.2.2.2.2.1, w.2.2.2.2.2.2.1, w.2.2.2.2.2.2.2))))))))
def m_X6_best (x1 : Int32) (x2 : Int32) (w : pv_XT) : Option (Int32 × pv_XT) :=
  if (m_X6_isState x1) = 0 then (m_X6_best_17 w) else (if (m_X6_isWithin x2 1 40) = 0 then (m_X6_best_17 w) else (if w.1.2.2.1 = 0 then (Option.bind (m_X6_finding (-1000000004) w) fun u_12 => (some (u_12.1, u_12.2))) else (m_X6_best_49 300 x1 x2 0 (-1) 0 w)))
abbrev r_X6_best : Room := { frames := 6, cells := 0, slots := 0, locals := 144 }
set_option maxHeartbeats 4000000 in
set_option maxRecDepth 100000 in
theorem c_X6_best (l : Launch) (E : pv_E) (a : Nat → Nat) (x1 : Int32) (x2 : Int32) (w0 : pv_XT) (F : Int32 × pv_XT) (hq : m_X6_best x1 x2 w0 = some F) : pv_RW l E yX6_best wsX6_best r_X6_best (pv_wX E a w0) [.ref (a 0), .int x1, .int x2] (some (.int F.1)) (pv_wX E a F.2) := by
  intro sz
  refine pv_mk (by decide) rfl (Nat.le_of_ble_eq_true rfl) ?_
  intro p e s m args below meth c A hx hb hr hml hown hts hlk hAe hP hD0 hA hE hS ls hl
  have hown : s.vm.findClass RX6 = some m.cls := hown
  have hK := hE.1
  have hD : ∀ w : pv_XT, va_D A (pv_wX E a w) := fun w => pv_Dm (ws := pv_wX E a w0) (ws' := pv_wX E a w) rfl hD0
  have hP : va_P E.1 vwCl (pv_wX E a w0) s.heap := hP
  have lc_51 : (Cond.constant RX6 51 (-1000000001)).before args s = true := hts _ (by decide +kernel)
  have fl_10 : (Cond.fieldLink RX6 10 "ProvinceCards" "table" "LProvinceCards$Table;").before args s = true := hts _ (by decide +kernel)
  have fl_102 : (Cond.fieldLink RX6 102 "ProvinceCards$Table" "envoys" "I").before args s = true := hts _ (by decide +kernel)
  have fl_19 : (Cond.fieldLink RX6 19 "ProvinceCards" "ahead" "LProvinceCards$Table;").before args s = true := hts _ (by decide +kernel)
  have fl_90 : (Cond.fieldLink RX6 90 "ProvinceCards$Table" "sent" "[I").before args s = true := hts _ (by decide +kernel)
  have fl_25 : (Cond.fieldLink RX6 25 "ProvinceCards" "game" "LProvinceCards$Game;").before args s = true := hts _ (by decide +kernel)
  have lc_182 : (Cond.constant RX6 182 (-1000000004)).before args s = true := hts _ (by decide +kernel)
  have i_RX6 : ∀ w ∈ wsX60, w ∈ wsX6_best := by decide +kernel
  have i_RX4 : ∀ w ∈ wsX40, w ∈ wsX6_best := by decide +kernel
  have hl : lv_has ls 6 [(0, .ref (a 0)), (1, .int x1), (2, .int x2)] := hl
  have B_17 : ∀  (w : pv_XT) (H : Heap) (locs : List Loc) (ls : Array Slot), va_P E.1 vwCl (pv_wX E a w) H → va_S A s.heap H locs → lv_has ls 6 [(0, .ref (a 0))] → m_X6_best_17 w = some F → W p l e r_X6_best s m args below meth c H locs 0 0 (MQ below (pv_Rw E (pv_wX E a w0) sz (some (.int F.1)) ((fun w : pv_XT => pv_wX E a w) F.2)) args s 0 0 A) (F0 m 17 ls []) := by
    intro w H locs ls hP hS hl hq
    refine lv_aload_n (pc := 17) hx hb dX6_best_17 rfl (lv_at hl 0 rfl) ?_
    refine lv_ldc (pc := 18) hx hb hown lc_51 dX6_best_18 ?_
    obtain ⟨u_2, hu_2, hq⟩ := pv_bind hq
    refine pv_vRWf (pc := 20) (rest := []) (st1 := [.int u_2.1]) (ws := pv_wX E a w) [.int (-1000000001)] ⟨hx, hb, hml, hown, hts⟩ hE hA hS hP (hD w) (c_X6_finding l E a (-1000000001) w u_2 hu_2) (cwV 1 hts gX6_best_X6_finding rfl rfl rfl (by decide +kernel) ⟨(Nat.le_of_ble_eq_true rfl), (Nat.le_of_ble_eq_true rfl)⟩) (va_recv hK hP (ci := 4) (q0 := 0) rfl rfl) rfl hl.1 rfl rfl (Nat.le_of_ble_eq_true rfl) dX6_best_20 ⟨Nat.zero_le _, Nat.zero_le _⟩ (fun H locs hP hS => ?_)
    have hP : va_P E.1 vwCl (pv_wX E a u_2.2) H := hP
    exact pv_riRW (w := fun w : pv_XT => pv_wX E a w) hx hb hr hlk hAe hS hP (Option.some.inj hq) dX6_best_23
  have B_121 : ∀ (k_49 : Int32 → Int32 → Int32 → Int32 → Int32 → pv_XT → Option (Int32 × pv_XT)), (∀ (x1 : Int32) (x2 : Int32) (x3 : Int32) (x4 : Int32) (x5 : Int32) (w : pv_XT) (H : Heap) (locs : List Loc) (ls : Array Slot), va_P E.1 vwCl (pv_wX E a w) H → va_S A s.heap H locs → lv_has ls 6 [(0, .ref (a 0)), (1, .int x1), (2, .int x2), (3, .int x3), (4, .int x4), (5, .int x5)] → k_49 x1 x2 x3 x4 x5 w = some F → W p l e r_X6_best s m args below meth c H locs 0 0 (MQ below (pv_Rw E (pv_wX E a w0) sz (some (.int F.1)) ((fun w : pv_XT => pv_wX E a w) F.2)) args s 0 0 A) (F0 m 49 ls [])) → ∀ (x1 : Int32) (x2 : Int32) (x3 : Int32) (x4 : Int32) (x5 : Int32) (w : pv_XT) (H : Heap) (locs : List Loc) (ls : Array Slot), va_P E.1 vwCl (pv_wX E a w) H → va_S A s.heap H locs → lv_has ls 6 [(0, .ref (a 0)), (1, .int x1), (2, .int x2), (3, .int x3), (4, .int x4), (5, .int x5)] → m_X6_best_121 k_49 x1 x2 x3 x4 x5 w = some F → W p l e r_X6_best s m args below meth c H locs 0 0 (MQ below (pv_Rw E (pv_wX E a w0) sz (some (.int F.1)) ((fun w : pv_XT => pv_wX E a w) F.2)) args s 0 0 A) (F0 m 121 ls []) := by
    intro k_49 hk_49
    intro x1 x2 x3 x4 x5 w H locs ls hP hS hl hq
    refine lv_iinc (pc := 121) (v := (x5 + 1)) (lv' := [(5, .int (x5 + 1)), (0, .ref (a 0)), (1, .int x1), (2, .int x2), (3, .int x3), (4, .int x4)]) hx hb dX6_best_121 hl (k := 5) rfl rfl (Nat.le_of_ble_eq_true rfl) rfl (fun ls hl => ?_)
    refine lv_goto (pc := 124) (tgt := 49) hx hb dX6_best_124 (by decide) ?_
    exact hk_49 x1 x2 x3 x4 (x5 + 1) w H locs ls hP hS (lv_sub hl [1, 2, 3, 4, 5, 0] rfl) hq
  have L_49 : ∀ n : Nat, ∀ (x1 : Int32) (x2 : Int32) (x3 : Int32) (x4 : Int32) (x5 : Int32) (w : pv_XT) (H : Heap) (locs : List Loc) (ls : Array Slot), va_P E.1 vwCl (pv_wX E a w) H → va_S A s.heap H locs → lv_has ls 6 [(0, .ref (a 0)), (1, .int x1), (2, .int x2), (3, .int x3), (4, .int x4), (5, .int x5)] → m_X6_best_49 n x1 x2 x3 x4 x5 w = some F → W p l e r_X6_best s m args below meth c H locs 0 0 (MQ below (pv_Rw E (pv_wX E a w0) sz (some (.int F.1)) ((fun w : pv_XT => pv_wX E a w) F.2)) args s 0 0 A) (F0 m 49 ls []) := by
    intro n
    induction n with
    | zero =>
      intro x1 x2 x3 x4 x5 w H locs ls hP hS hl hq
      exact (pv_no hq).elim
    | succ n ih =>
      intro x1 x2 x3 x4 x5 w H locs ls hP hS hl hq
      refine lv_iload (pc := 49) hx hb dX6_best_49 (lv_at hl 5 rfl) ?_
      refine lv_aload_n (pc := 51) hx hb dX6_best_51 rfl (lv_at hl 0 rfl) ?_
      refine va_get (pc := 52) (D := E.1) (ci := 4) (v := .ref (a 1)) (C := RX6) (T := TX6) (N := 8) hx hb hts i_RX6 hown hK hP 0 rfl rfl 0 (Nat.le_of_ble_eq_true rfl) fl_10 (fun _ h9 => h9) rfl dX6_best_52 ?_
      refine va_get (pc := 55) (D := E.1) (ci := 2) (v := .int w.1.2.2.1) (C := RX4) (T := TX4) (N := 8) hx hb hts i_RX4 hown hK hP 1 rfl rfl 2 (Nat.le_of_ble_eq_true rfl) fl_102 (fun _ h9 => h9) rfl dX6_best_55 ?_
      refine lv_icmp_ge (pc := 58) (tgt := 127) hx hb dX6_best_58 (by decide) (fun c_5 => ?_) (fun c_5 => ?_)
      · have hq := pv_pos c_5 hq
        refine lv_iload_n (pc := 127) hx hb dX6_best_127 rfl (lv_at hl 3 rfl) ?_
        exact pv_riRW (w := fun w : pv_XT => pv_wX E a w) hx hb hr hlk hAe hS hP (Option.some.inj hq) dX6_best_128
      · have hq := pv_neg c_5 hq
        refine lv_aload_n (pc := 61) hx hb dX6_best_61 rfl (lv_at hl 0 rfl) ?_
        refine va_get (pc := 62) (D := E.1) (ci := 4) (v := .ref (a 13)) (C := RX6) (T := TX6) (N := 8) hx hb hts i_RX6 hown hK hP 0 rfl rfl 2 (Nat.le_of_ble_eq_true rfl) fl_19 (fun _ h9 => h9) rfl dX6_best_62 ?_
        refine lv_aload_n (pc := 65) hx hb dX6_best_65 rfl (lv_at hl 0 rfl) ?_
        refine va_get (pc := 66) (D := E.1) (ci := 4) (v := .ref (a 1)) (C := RX6) (T := TX6) (N := 8) hx hb hts i_RX6 hown hK hP 0 rfl rfl 0 (Nat.le_of_ble_eq_true rfl) fl_10 (fun _ h9 => h9) rfl dX6_best_66 ?_
        obtain ⟨u_6, hu_6, hq⟩ := pv_bind hq
        refine pv_vRW (pc := 69) (rest := []) (st1 := []) (ws := pv_wX E a w) (ws' := pv_wX E a (u_6.2, w.2.1, u_6.1, w.2.2.2.1, w.2.2.2.2.1, w.2.2.2.2.2.1, w.2.2.2.2.2.2.1, w.2.2.2.2.2.2.2)) [.ref (a 1)] ⟨hx, hb, hml, hown, hts⟩ hE hA hS hP (hD w) (c_X4_become l E (a 13) (a 14) (a 15) (a 16) (a 17) (a 18) (a 1) (a 2) (a 3) (a 4) (a 5) (a 6) (w.2.2.1, w.1) u_6 hu_6) (cwV 1 hts gX6_best_X4_become rfl rfl rfl (by decide +kernel) ⟨(Nat.le_of_ble_eq_true rfl), (Nat.le_of_ble_eq_true rfl)⟩) (va_recv hK hP (ci := 2) (q0 := 13) rfl rfl) [13, 14, 15, 16, 17, 18, 1, 2, 3, 4, 5, 6] rfl rfl rfl rfl rfl hl.1 rfl rfl (Nat.le_of_ble_eq_true rfl) dX6_best_69 ⟨Nat.zero_le _, Nat.zero_le _⟩ (fun H locs hP hS => ?_)
        refine lv_aload_n (pc := 72) hx hb dX6_best_72 rfl (lv_at hl 0 rfl) ?_
        refine va_get (pc := 73) (D := E.1) (ci := 4) (v := .ref (a 13)) (C := RX6) (T := TX6) (N := 8) hx hb hts i_RX6 hown hK hP 0 rfl rfl 2 (Nat.le_of_ble_eq_true rfl) fl_19 (fun _ h9 => h9) rfl dX6_best_73 ?_
        refine va_get (pc := 76) (D := E.1) (ci := 2) (v := .ref (a 16)) (C := RX4) (T := TX4) (N := 8) hx hb hts i_RX4 hown hK hP 13 rfl rfl 5 (Nat.le_of_ble_eq_true rfl) fl_90 (fun _ h9 => h9) rfl dX6_best_76 ?_
        refine lv_iload_n (pc := 79) hx hb dX6_best_79 rfl (lv_at hl 1 rfl) ?_
        refine lv_iload (pc := 80) hx hb dX6_best_80 (lv_at hl 5 rfl) ?_
        obtain ⟨h_7, hq⟩ := pv_gd_some hq
        refine va_iast (pc := 82) (D := E.1) hx hb hK hP (hD (u_6.2, w.2.1, u_6.1, w.2.2.2.1, w.2.2.2.2.1, w.2.2.2.2.2.1, w.2.2.2.2.2.2.1, w.2.2.2.2.2.2.2)) hS 16 0 rfl rfl h_7 dX6_best_82 (fun H locs hP _ hS => ?_)
        have hP : va_P E.1 vwCl (pv_wX E a (u_6.2, w.2.1, (u_6.1.1, u_6.1.2.1, u_6.1.2.2.1, u_6.1.2.2.2.1, u_6.1.2.2.2.2.1, (upd u_6.1.2.2.2.2.2.1 x1.toNatClampNeg x5), u_6.1.2.2.2.2.2.2.1, u_6.1.2.2.2.2.2.2.2), w.2.2.2.1, w.2.2.2.2.1, w.2.2.2.2.2.1, w.2.2.2.2.2.2.1, w.2.2.2.2.2.2.2)) H := hP
        refine lv_aload_n (pc := 83) hx hb dX6_best_83 rfl (lv_at hl 0 rfl) ?_
        refine va_get (pc := 84) (D := E.1) (ci := 4) (v := .ref (a 13)) (C := RX6) (T := TX6) (N := 8) hx hb hts i_RX6 hown hK hP 0 rfl rfl 2 (Nat.le_of_ble_eq_true rfl) fl_19 (fun _ h9 => h9) rfl dX6_best_84 ?_
        refine lv_iload_n (pc := 87) hx hb dX6_best_87 rfl (lv_at hl 2 rfl) ?_
        refine lv_aload_n (pc := 88) hx hb dX6_best_88 rfl (lv_at hl 0 rfl) ?_
        refine va_get (pc := 89) (D := E.1) (ci := 4) (v := .ref (a 19)) (C := RX6) (T := TX6) (N := 8) hx hb hts i_RX6 hown hK hP 0 rfl rfl 3 (Nat.le_of_ble_eq_true rfl) fl_25 (fun _ h9 => h9) rfl dX6_best_89 ?_
        obtain ⟨u_8, hu_8, hq⟩ := pv_bind hq
        refine pv_vRW (pc := 92) (rest := []) (st1 := []) (ws := pv_wX E a (u_6.2, w.2.1, (u_6.1.1, u_6.1.2.1, u_6.1.2.2.1, u_6.1.2.2.2.1, u_6.1.2.2.2.2.1, (upd u_6.1.2.2.2.2.2.1 x1.toNatClampNeg x5), u_6.1.2.2.2.2.2.2.1, u_6.1.2.2.2.2.2.2.2), w.2.2.2.1, w.2.2.2.2.1, w.2.2.2.2.2.1, w.2.2.2.2.2.2.1, w.2.2.2.2.2.2.2)) (ws' := pv_wX E a (u_6.2, w.2.1, u_8.1, u_8.2, w.2.2.2.2.1, w.2.2.2.2.2.1, w.2.2.2.2.2.2.1, w.2.2.2.2.2.2.2)) [.int x2, .ref (a 19)] ⟨hx, hb, hml, hown, hts⟩ hE hA hS hP (hD (u_6.2, w.2.1, (u_6.1.1, u_6.1.2.1, u_6.1.2.2.1, u_6.1.2.2.2.1, u_6.1.2.2.2.2.1, (upd u_6.1.2.2.2.2.2.1 x1.toNatClampNeg x5), u_6.1.2.2.2.2.2.2.1, u_6.1.2.2.2.2.2.2.2), w.2.2.2.1, w.2.2.2.2.1, w.2.2.2.2.2.1, w.2.2.2.2.2.2.1, w.2.2.2.2.2.2.2)) (c_X4_passMonths l E (a 13) (a 14) (a 15) (a 16) (a 17) (a 18) (a 19) (a 20) (a 21) (a 22) (a 23) (a 24) x2 ((u_6.1.1, u_6.1.2.1, u_6.1.2.2.1, u_6.1.2.2.2.1, u_6.1.2.2.2.2.1, (upd u_6.1.2.2.2.2.2.1 x1.toNatClampNeg x5), u_6.1.2.2.2.2.2.2.1, u_6.1.2.2.2.2.2.2.2), w.2.2.2.1) u_8 hu_8) (cwV 2 hts gX6_best_X4_passMonths rfl rfl rfl (by decide +kernel) ⟨(Nat.le_of_ble_eq_true rfl), (Nat.le_of_ble_eq_true rfl)⟩) (va_recv hK hP (ci := 2) (q0 := 13) rfl rfl) [13, 14, 15, 16, 17, 18, 19, 20, 21, 22, 23, 24] rfl rfl rfl rfl rfl hl.1 rfl rfl (Nat.le_of_ble_eq_true rfl) dX6_best_92 ⟨Nat.zero_le _, Nat.zero_le _⟩ (fun H locs hP hS => ?_)
        refine lv_aload_n (pc := 95) hx hb dX6_best_95 rfl (lv_at hl 0 rfl) ?_
        refine va_get (pc := 96) (D := E.1) (ci := 4) (v := .ref (a 13)) (C := RX6) (T := TX6) (N := 8) hx hb hts i_RX6 hown hK hP 0 rfl rfl 2 (Nat.le_of_ble_eq_true rfl) fl_19 (fun _ h9 => h9) rfl dX6_best_96 ?_
        refine lv_iload_n (pc := 99) hx hb dX6_best_99 rfl (lv_at hl 1 rfl) ?_
        obtain ⟨u_9, hu_9, hq⟩ := pv_bind hq
        refine pv_vRO (pc := 100) (rest := []) (st1 := [.int u_9]) (ws := pv_wX E a (u_6.2, w.2.1, u_8.1, u_8.2, w.2.2.2.2.1, w.2.2.2.2.2.1, w.2.2.2.2.2.2.1, w.2.2.2.2.2.2.2)) [.int x1] ⟨hx, hb, hml, hown, hts⟩ hE hA hS hP (hD (u_6.2, w.2.1, u_8.1, u_8.2, w.2.2.2.2.1, w.2.2.2.2.2.1, w.2.2.2.2.2.2.1, w.2.2.2.2.2.2.2)) (c_X4_owned l E (a 13) (a 14) (a 15) (a 16) (a 17) (a 18) x1 u_8.1 u_9 hu_9) (cwV 1 hts gX6_best_X4_owned rfl rfl rfl (by decide +kernel) ⟨(Nat.le_of_ble_eq_true rfl), (Nat.le_of_ble_eq_true rfl)⟩) (va_recv hK hP (ci := 2) (q0 := 13) rfl rfl) [13, 14, 15, 16, 17, 18] rfl rfl rfl hl.1 rfl rfl (Nat.le_of_ble_eq_true rfl) dX6_best_100 ⟨Nat.zero_le _, Nat.zero_le _⟩ (fun locs hS => ?_)
        refine lv_iload (pc := 103) hx hb dX6_best_103 (lv_at hl 4 rfl) ?_
        refine lv_icmp_le (pc := 105) (tgt := 121) hx hb dX6_best_105 (by decide) (fun c_10 => ?_) (fun c_10 => ?_)
        · have hq := pv_pos c_10 hq
          exact B_121 (m_X6_best_49 n) ih x1 x2 x3 x4 x5 (u_6.2, w.2.1, u_8.1, u_8.2, w.2.2.2.2.1, w.2.2.2.2.2.1, w.2.2.2.2.2.2.1, w.2.2.2.2.2.2.2) H locs ls hP hS (lv_sub hl [0, 1, 2, 3, 4, 5] rfl) hq
        · have hq := pv_neg c_10 hq
          refine lv_aload_n (pc := 108) hx hb dX6_best_108 rfl (lv_at hl 0 rfl) ?_
          refine va_get (pc := 109) (D := E.1) (ci := 4) (v := .ref (a 13)) (C := RX6) (T := TX6) (N := 8) hx hb hts i_RX6 hown hK hP 0 rfl rfl 2 (Nat.le_of_ble_eq_true rfl) fl_19 (fun _ h9 => h9) rfl dX6_best_109 ?_
          refine lv_iload_n (pc := 112) hx hb dX6_best_112 rfl (lv_at hl 1 rfl) ?_
          obtain ⟨u_11, hu_11, hq⟩ := pv_bind hq
          refine pv_vRO (pc := 113) (rest := []) (st1 := [.int u_11]) (ws := pv_wX E a (u_6.2, w.2.1, u_8.1, u_8.2, w.2.2.2.2.1, w.2.2.2.2.2.1, w.2.2.2.2.2.2.1, w.2.2.2.2.2.2.2)) [.int x1] ⟨hx, hb, hml, hown, hts⟩ hE hA hS hP (hD (u_6.2, w.2.1, u_8.1, u_8.2, w.2.2.2.2.1, w.2.2.2.2.2.1, w.2.2.2.2.2.2.1, w.2.2.2.2.2.2.2)) (c_X4_owned l E (a 13) (a 14) (a 15) (a 16) (a 17) (a 18) x1 u_8.1 u_11 hu_11) (cwV 1 hts gX6_best_X4_owned rfl rfl rfl (by decide +kernel) ⟨(Nat.le_of_ble_eq_true rfl), (Nat.le_of_ble_eq_true rfl)⟩) (va_recv hK hP (ci := 2) (q0 := 13) rfl rfl) [13, 14, 15, 16, 17, 18] rfl rfl rfl hl.1 rfl rfl (Nat.le_of_ble_eq_true rfl) dX6_best_113 ⟨Nat.zero_le _, Nat.zero_le _⟩ (fun locs hS => ?_)
          refine lv_istore (pc := 116) (lv' := [(4, .int u_11), (0, .ref (a 0)), (1, .int x1), (2, .int x2), (3, .int x3), (5, .int x5)]) hx hb dX6_best_116 hl (Nat.le_of_ble_eq_true rfl) rfl (fun ls hl => ?_)
          refine lv_iload (pc := 118) hx hb dX6_best_118 (lv_at hl 5 rfl) ?_
          refine lv_istore_n (pc := 120) (lv' := [(3, .int x5), (4, .int u_11), (0, .ref (a 0)), (1, .int x1), (2, .int x2), (5, .int x5)]) hx hb dX6_best_120 rfl hl (Nat.le_of_ble_eq_true rfl) rfl (fun ls hl => ?_)
          exact B_121 (m_X6_best_49 n) ih x1 x2 x5 u_11 x5 (u_6.2, w.2.1, u_8.1, u_8.2, w.2.2.2.2.1, w.2.2.2.2.2.1, w.2.2.2.2.2.2.1, w.2.2.2.2.2.2.2) H locs ls hP hS (lv_sub hl [2, 3, 4, 0, 1, 5] rfl) hq
  suffices M0 : ∀ (H : Heap) (locs : List Loc), va_P E.1 vwCl (pv_wX E a w0) H → va_S A s.heap H locs → W p l e r_X6_best s m args below meth c H locs 0 0 (MQ below (pv_Rw E (pv_wX E a w0) sz (some (.int F.1)) ((fun w : pv_XT => pv_wX E a w) F.2)) args s 0 0 A) (F0 m 0 ls []) from M0 s.heap [] hP hS
  intro H locs hP hS
  refine lv_iload_n (pc := 0) hx hb dX6_best_0 rfl (lv_at hl 1 rfl) ?_
  refine pv_sRO (pc := 1) (rest := []) (st1 := [.int (m_X6_isState x1)]) (ws := pv_wX E a w0) [.int x1] ⟨hx, hb, hml, hown, hts⟩ hE hA hS hP (hD w0) (c_X6_isState l E x1) (va_cwS 1 hts gX6_best_X6_isState rfl rfl rfl (by decide +kernel) ⟨(Nat.le_of_ble_eq_true rfl), (Nat.le_of_ble_eq_true rfl)⟩) [] rfl rfl rfl hl.1 rfl rfl (Nat.le_of_ble_eq_true rfl) dX6_best_1 ⟨Nat.zero_le _, Nat.zero_le _⟩ (fun locs hS => ?_)
  refine lv_if_eq (pc := 4) (tgt := 17) hx hb dX6_best_4 (by decide) (fun c_1 => ?_) (fun c_1 => ?_)
  · have hq := pv_pos c_1 hq
    exact B_17 w0 H locs ls hP hS (lv_sub hl [0] rfl) hq
  · have hq := pv_neg c_1 hq
    refine lv_iload_n (pc := 7) hx hb dX6_best_7 rfl (lv_at hl 2 rfl) ?_
    refine lv_iconst (pc := 8) (v := 1) hx hb dX6_best_8 (by decide) ?_
    refine lv_bipush (pc := 9) (v := 40) hx hb dX6_best_9 (by decide) ?_
    refine pv_sRO (pc := 11) (rest := []) (st1 := [.int (m_X6_isWithin x2 1 40)]) (ws := pv_wX E a w0) [.int x2, .int 1, .int 40] ⟨hx, hb, hml, hown, hts⟩ hE hA hS hP (hD w0) (c_X6_isWithin l E x2 1 40) (va_cwS 3 hts gX6_best_X6_isWithin rfl rfl rfl (by decide +kernel) ⟨(Nat.le_of_ble_eq_true rfl), (Nat.le_of_ble_eq_true rfl)⟩) [] rfl rfl rfl hl.1 rfl rfl (Nat.le_of_ble_eq_true rfl) dX6_best_11 ⟨Nat.zero_le _, Nat.zero_le _⟩ (fun locs hS => ?_)
    refine lv_if_ne (pc := 14) (tgt := 24) hx hb dX6_best_14 (by decide) (fun c_3 => ?_) (fun c_3 => ?_)
    · have hq := pv_neg c_3 hq
      refine lv_aload_n (pc := 24) hx hb dX6_best_24 rfl (lv_at hl 0 rfl) ?_
      refine va_get (pc := 25) (D := E.1) (ci := 4) (v := .ref (a 1)) (C := RX6) (T := TX6) (N := 8) hx hb hts i_RX6 hown hK hP 0 rfl rfl 0 (Nat.le_of_ble_eq_true rfl) fl_10 (fun _ h9 => h9) rfl dX6_best_25 ?_
      refine va_get (pc := 28) (D := E.1) (ci := 2) (v := .int w0.1.2.2.1) (C := RX4) (T := TX4) (N := 8) hx hb hts i_RX4 hown hK hP 1 rfl rfl 2 (Nat.le_of_ble_eq_true rfl) fl_102 (fun _ h9 => h9) rfl dX6_best_28 ?_
      refine lv_if_ne (pc := 31) (tgt := 41) hx hb dX6_best_31 (by decide) (fun c_4 => ?_) (fun c_4 => ?_)
      · have hq := pv_neg c_4 hq
        refine lv_iconst (pc := 41) (v := 0) hx hb dX6_best_41 (by decide) ?_
        refine lv_istore_n (pc := 42) (lv' := [(3, .int 0), (0, .ref (a 0)), (1, .int x1), (2, .int x2)]) hx hb dX6_best_42 rfl hl (Nat.le_of_ble_eq_true rfl) rfl (fun ls hl => ?_)
        refine lv_iconst (pc := 43) (v := (-1)) hx hb dX6_best_43 (by decide) ?_
        refine lv_istore (pc := 44) (lv' := [(4, .int (-1)), (3, .int 0), (0, .ref (a 0)), (1, .int x1), (2, .int x2)]) hx hb dX6_best_44 hl (Nat.le_of_ble_eq_true rfl) rfl (fun ls hl => ?_)
        refine lv_iconst (pc := 46) (v := 0) hx hb dX6_best_46 (by decide) ?_
        refine lv_istore (pc := 47) (lv' := [(5, .int 0), (4, .int (-1)), (3, .int 0), (0, .ref (a 0)), (1, .int x1), (2, .int x2)]) hx hb dX6_best_47 hl (Nat.le_of_ble_eq_true rfl) rfl (fun ls hl => ?_)
        exact L_49 300 x1 x2 0 (-1) 0 w0 H locs ls hP hS (lv_sub hl [3, 4, 5, 2, 1, 0] rfl) hq
      · have hq := pv_pos c_4 hq
        refine lv_aload_n (pc := 34) hx hb dX6_best_34 rfl (lv_at hl 0 rfl) ?_
        refine lv_ldc (pc := 35) hx hb hown lc_182 dX6_best_35 ?_
        obtain ⟨u_12, hu_12, hq⟩ := pv_bind hq
        refine pv_vRWf (pc := 37) (rest := []) (st1 := [.int u_12.1]) (ws := pv_wX E a w0) [.int (-1000000004)] ⟨hx, hb, hml, hown, hts⟩ hE hA hS hP (hD w0) (c_X6_finding l E a (-1000000004) w0 u_12 hu_12) (cwV 1 hts gX6_best_X6_finding rfl rfl rfl (by decide +kernel) ⟨(Nat.le_of_ble_eq_true rfl), (Nat.le_of_ble_eq_true rfl)⟩) (va_recv hK hP (ci := 4) (q0 := 0) rfl rfl) rfl hl.1 rfl rfl (Nat.le_of_ble_eq_true rfl) dX6_best_37 ⟨Nat.zero_le _, Nat.zero_le _⟩ (fun H locs hP hS => ?_)
        have hP : va_P E.1 vwCl (pv_wX E a u_12.2) H := hP
        exact pv_riRW (w := fun w : pv_XT => pv_wX E a w) hx hb hr hlk hAe hS hP (Option.some.inj hq) dX6_best_40
    · have hq := pv_pos c_3 hq
      exact B_17 w0 H locs ls hP hS (lv_sub hl [0] rfl) hq
def m_X6_bestMix_73 (k_8 : Int32 → Int32 → Int32 → Int32 → Int32 → pv_XT → Option (Int32 × pv_XT)) (x1 : Int32) (x2 : Int32) (x3 : Int32) (x4 : Int32) (x5 : Int32) (w : pv_XT) : Option (Int32 × pv_XT) :=
  k_8 x1 x2 x3 x4 (x5 + 2) w
def m_X6_bestMix_8 : Nat → Int32 → Int32 → Int32 → Int32 → Int32 → pv_XT → Option (Int32 × pv_XT)
  | 0 => fun _ _ _ _ _ _ => none
  | n + 1 => fun x1 x2 x3 x4 x5 w =>
    if 31 < x5 then (some (x3, w)) else (Option.bind (m_X4_become (w.2.2.1, w.1)) fun u_2 => (Option.bind (m_X4_passMonths x2 ((u_2.1.1, x5, u_2.1.2.2.1, u_2.1.2.2.2.1, u_2.1.2.2.2.2.1, u_2.1.2.2.2.2.2.1, u_2.1.2.2.2.2.2.2.1, u_2.1.2.2.2.2.2.2.2), w.2.2.2.1)) fun u_3 => (Option.bind (m_X4_owned x1 u_3.1) fun u_4 => (if u_4 ≤ x4 then (m_X6_bestMix_73 (m_X6_bestMix_8 n) x1 x2 x3 x4 x5 (u_2.2, w.2.1, u_3.1, u_3.2, w.2.2.2.2.1, w.2.2.2.2.2.1, w.2.2.2.2.2.2.1, w.2.2.2.2.2.2.2)) else (Option.bind (m_X4_owned x1 u_3.1) fun u_6 => (m_X6_bestMix_73 (m_X6_bestMix_8 n) x1 x2 x5 u_6 x5 (u_2.2, w.2.1, u_3.1, u_3.2, w.2.2.2.2.1, w.2.2.2.2.2.1, w.2.2.2.2.2.2.1, w.2.2.2.2.2.2.2)))))))
def m_X6_bestMix (x1 : Int32) (x2 : Int32) (w : pv_XT) : Option (Int32 × pv_XT) :=
  m_X6_bestMix_8 300 x1 x2 1 (-1) 1 w
abbrev r_X6_bestMix : Room := { frames := 6, cells := 0, slots := 0, locals := 144 }
set_option maxHeartbeats 4000000 in
set_option maxRecDepth 100000 in
theorem c_X6_bestMix (l : Launch) (E : pv_E) (a : Nat → Nat) (x1 : Int32) (x2 : Int32) (w0 : pv_XT) (F : Int32 × pv_XT) (hq : m_X6_bestMix x1 x2 w0 = some F) : pv_RW l E yX6_bestMix wsX6_bestMix r_X6_bestMix (pv_wX E a w0) [.ref (a 0), .int x1, .int x2] (some (.int F.1)) (pv_wX E a F.2) := by
  intro sz
  refine pv_mk (by decide) rfl (Nat.le_of_ble_eq_true rfl) ?_
  intro p e s m args below meth c A hx hb hr hml hown hts hlk hAe hP hD0 hA hE hS ls hl
  have hown : s.vm.findClass RX6 = some m.cls := hown
  have hK := hE.1
  have hD : ∀ w : pv_XT, va_D A (pv_wX E a w) := fun w => pv_Dm (ws := pv_wX E a w0) (ws' := pv_wX E a w) rfl hD0
  have hP : va_P E.1 vwCl (pv_wX E a w0) s.heap := hP
  have fl_19 : (Cond.fieldLink RX6 19 "ProvinceCards" "ahead" "LProvinceCards$Table;").before args s = true := hts _ (by decide +kernel)
  have fl_10 : (Cond.fieldLink RX6 10 "ProvinceCards" "table" "LProvinceCards$Table;").before args s = true := hts _ (by decide +kernel)
  have fl_56 : (Cond.fieldLink RX6 56 "ProvinceCards$Table" "mixing" "I").before args s = true := hts _ (by decide +kernel)
  have fl_25 : (Cond.fieldLink RX6 25 "ProvinceCards" "game" "LProvinceCards$Game;").before args s = true := hts _ (by decide +kernel)
  have i_RX6 : ∀ w ∈ wsX60, w ∈ wsX6_bestMix := by decide +kernel
  have i_RX4 : ∀ w ∈ wsX40, w ∈ wsX6_bestMix := by decide +kernel
  have hl : lv_has ls 6 [(0, .ref (a 0)), (1, .int x1), (2, .int x2)] := hl
  have B_73 : ∀ (k_8 : Int32 → Int32 → Int32 → Int32 → Int32 → pv_XT → Option (Int32 × pv_XT)), (∀ (x1 : Int32) (x2 : Int32) (x3 : Int32) (x4 : Int32) (x5 : Int32) (w : pv_XT) (H : Heap) (locs : List Loc) (ls : Array Slot), va_P E.1 vwCl (pv_wX E a w) H → va_S A s.heap H locs → lv_has ls 6 [(0, .ref (a 0)), (1, .int x1), (2, .int x2), (3, .int x3), (4, .int x4), (5, .int x5)] → k_8 x1 x2 x3 x4 x5 w = some F → W p l e r_X6_bestMix s m args below meth c H locs 0 0 (MQ below (pv_Rw E (pv_wX E a w0) sz (some (.int F.1)) ((fun w : pv_XT => pv_wX E a w) F.2)) args s 0 0 A) (F0 m 8 ls [])) → ∀ (x1 : Int32) (x2 : Int32) (x3 : Int32) (x4 : Int32) (x5 : Int32) (w : pv_XT) (H : Heap) (locs : List Loc) (ls : Array Slot), va_P E.1 vwCl (pv_wX E a w) H → va_S A s.heap H locs → lv_has ls 6 [(0, .ref (a 0)), (1, .int x1), (2, .int x2), (3, .int x3), (4, .int x4), (5, .int x5)] → m_X6_bestMix_73 k_8 x1 x2 x3 x4 x5 w = some F → W p l e r_X6_bestMix s m args below meth c H locs 0 0 (MQ below (pv_Rw E (pv_wX E a w0) sz (some (.int F.1)) ((fun w : pv_XT => pv_wX E a w) F.2)) args s 0 0 A) (F0 m 73 ls []) := by
    intro k_8 hk_8
    intro x1 x2 x3 x4 x5 w H locs ls hP hS hl hq
    refine lv_iinc (pc := 73) (v := (x5 + 2)) (lv' := [(5, .int (x5 + 2)), (0, .ref (a 0)), (1, .int x1), (2, .int x2), (3, .int x3), (4, .int x4)]) hx hb dX6_bestMix_73 hl (k := 5) rfl rfl (Nat.le_of_ble_eq_true rfl) rfl (fun ls hl => ?_)
    refine lv_goto (pc := 76) (tgt := 8) hx hb dX6_bestMix_76 (by decide) ?_
    exact hk_8 x1 x2 x3 x4 (x5 + 2) w H locs ls hP hS (lv_sub hl [1, 2, 3, 4, 5, 0] rfl) hq
  have L_8 : ∀ n : Nat, ∀ (x1 : Int32) (x2 : Int32) (x3 : Int32) (x4 : Int32) (x5 : Int32) (w : pv_XT) (H : Heap) (locs : List Loc) (ls : Array Slot), va_P E.1 vwCl (pv_wX E a w) H → va_S A s.heap H locs → lv_has ls 6 [(0, .ref (a 0)), (1, .int x1), (2, .int x2), (3, .int x3), (4, .int x4), (5, .int x5)] → m_X6_bestMix_8 n x1 x2 x3 x4 x5 w = some F → W p l e r_X6_bestMix s m args below meth c H locs 0 0 (MQ below (pv_Rw E (pv_wX E a w0) sz (some (.int F.1)) ((fun w : pv_XT => pv_wX E a w) F.2)) args s 0 0 A) (F0 m 8 ls []) := by
    intro n
    induction n with
    | zero =>
      intro x1 x2 x3 x4 x5 w H locs ls hP hS hl hq
      exact (pv_no hq).elim
    | succ n ih =>
      intro x1 x2 x3 x4 x5 w H locs ls hP hS hl hq
      refine lv_iload (pc := 8) hx hb dX6_bestMix_8 (lv_at hl 5 rfl) ?_
      refine lv_bipush (pc := 10) (v := 31) hx hb dX6_bestMix_10 (by decide) ?_
      refine lv_icmp_gt (pc := 12) (tgt := 79) hx hb dX6_bestMix_12 (by decide) (fun c_1 => ?_) (fun c_1 => ?_)
      · have hq := pv_pos c_1 hq
        refine lv_iload_n (pc := 79) hx hb dX6_bestMix_79 rfl (lv_at hl 3 rfl) ?_
        exact pv_riRW (w := fun w : pv_XT => pv_wX E a w) hx hb hr hlk hAe hS hP (Option.some.inj hq) dX6_bestMix_80
      · have hq := pv_neg c_1 hq
        refine lv_aload_n (pc := 15) hx hb dX6_bestMix_15 rfl (lv_at hl 0 rfl) ?_
        refine va_get (pc := 16) (D := E.1) (ci := 4) (v := .ref (a 13)) (C := RX6) (T := TX6) (N := 8) hx hb hts i_RX6 hown hK hP 0 rfl rfl 2 (Nat.le_of_ble_eq_true rfl) fl_19 (fun _ h9 => h9) rfl dX6_bestMix_16 ?_
        refine lv_aload_n (pc := 19) hx hb dX6_bestMix_19 rfl (lv_at hl 0 rfl) ?_
        refine va_get (pc := 20) (D := E.1) (ci := 4) (v := .ref (a 1)) (C := RX6) (T := TX6) (N := 8) hx hb hts i_RX6 hown hK hP 0 rfl rfl 0 (Nat.le_of_ble_eq_true rfl) fl_10 (fun _ h9 => h9) rfl dX6_bestMix_20 ?_
        obtain ⟨u_2, hu_2, hq⟩ := pv_bind hq
        refine pv_vRW (pc := 23) (rest := []) (st1 := []) (ws := pv_wX E a w) (ws' := pv_wX E a (u_2.2, w.2.1, u_2.1, w.2.2.2.1, w.2.2.2.2.1, w.2.2.2.2.2.1, w.2.2.2.2.2.2.1, w.2.2.2.2.2.2.2)) [.ref (a 1)] ⟨hx, hb, hml, hown, hts⟩ hE hA hS hP (hD w) (c_X4_become l E (a 13) (a 14) (a 15) (a 16) (a 17) (a 18) (a 1) (a 2) (a 3) (a 4) (a 5) (a 6) (w.2.2.1, w.1) u_2 hu_2) (cwV 1 hts gX6_bestMix_X4_become rfl rfl rfl (by decide +kernel) ⟨(Nat.le_of_ble_eq_true rfl), (Nat.le_of_ble_eq_true rfl)⟩) (va_recv hK hP (ci := 2) (q0 := 13) rfl rfl) [13, 14, 15, 16, 17, 18, 1, 2, 3, 4, 5, 6] rfl rfl rfl rfl rfl hl.1 rfl rfl (Nat.le_of_ble_eq_true rfl) dX6_bestMix_23 ⟨Nat.zero_le _, Nat.zero_le _⟩ (fun H locs hP hS => ?_)
        refine lv_aload_n (pc := 26) hx hb dX6_bestMix_26 rfl (lv_at hl 0 rfl) ?_
        refine va_get (pc := 27) (D := E.1) (ci := 4) (v := .ref (a 13)) (C := RX6) (T := TX6) (N := 8) hx hb hts i_RX6 hown hK hP 0 rfl rfl 2 (Nat.le_of_ble_eq_true rfl) fl_19 (fun _ h9 => h9) rfl dX6_bestMix_27 ?_
        refine lv_iload (pc := 30) hx hb dX6_bestMix_30 (lv_at hl 5 rfl) ?_
        refine va_put (pc := 32) (D := E.1) (ci := 2) (v := .int x5) (ty := .int) (C := RX4) (T := TX4) (N := 8) hx hb hts i_RX4 tyX4 tyX4_ok nmX4 hown hK hP (hD (u_2.2, w.2.1, u_2.1, w.2.2.2.1, w.2.2.2.2.1, w.2.2.2.2.2.1, w.2.2.2.2.2.2.1, w.2.2.2.2.2.2.2)) hS 13 rfl rfl 1 (Nat.le_of_ble_eq_true rfl) fl_56 (fun _ h9 => h9) rfl (tyX4_ok 1 (Nat.le_of_ble_eq_true rfl)) rfl rfl (Nat.le_of_ble_eq_true rfl) dX6_bestMix_32 (fun H locs hP _ hS => ?_)
        have hP : va_P E.1 vwCl (pv_wX E a (u_2.2, w.2.1, (u_2.1.1, x5, u_2.1.2.2.1, u_2.1.2.2.2.1, u_2.1.2.2.2.2.1, u_2.1.2.2.2.2.2.1, u_2.1.2.2.2.2.2.2.1, u_2.1.2.2.2.2.2.2.2), w.2.2.2.1, w.2.2.2.2.1, w.2.2.2.2.2.1, w.2.2.2.2.2.2.1, w.2.2.2.2.2.2.2)) H := hP
        refine lv_aload_n (pc := 35) hx hb dX6_bestMix_35 rfl (lv_at hl 0 rfl) ?_
        refine va_get (pc := 36) (D := E.1) (ci := 4) (v := .ref (a 13)) (C := RX6) (T := TX6) (N := 8) hx hb hts i_RX6 hown hK hP 0 rfl rfl 2 (Nat.le_of_ble_eq_true rfl) fl_19 (fun _ h9 => h9) rfl dX6_bestMix_36 ?_
        refine lv_iload_n (pc := 39) hx hb dX6_bestMix_39 rfl (lv_at hl 2 rfl) ?_
        refine lv_aload_n (pc := 40) hx hb dX6_bestMix_40 rfl (lv_at hl 0 rfl) ?_
        refine va_get (pc := 41) (D := E.1) (ci := 4) (v := .ref (a 19)) (C := RX6) (T := TX6) (N := 8) hx hb hts i_RX6 hown hK hP 0 rfl rfl 3 (Nat.le_of_ble_eq_true rfl) fl_25 (fun _ h9 => h9) rfl dX6_bestMix_41 ?_
        obtain ⟨u_3, hu_3, hq⟩ := pv_bind hq
        refine pv_vRW (pc := 44) (rest := []) (st1 := []) (ws := pv_wX E a (u_2.2, w.2.1, (u_2.1.1, x5, u_2.1.2.2.1, u_2.1.2.2.2.1, u_2.1.2.2.2.2.1, u_2.1.2.2.2.2.2.1, u_2.1.2.2.2.2.2.2.1, u_2.1.2.2.2.2.2.2.2), w.2.2.2.1, w.2.2.2.2.1, w.2.2.2.2.2.1, w.2.2.2.2.2.2.1, w.2.2.2.2.2.2.2)) (ws' := pv_wX E a (u_2.2, w.2.1, u_3.1, u_3.2, w.2.2.2.2.1, w.2.2.2.2.2.1, w.2.2.2.2.2.2.1, w.2.2.2.2.2.2.2)) [.int x2, .ref (a 19)] ⟨hx, hb, hml, hown, hts⟩ hE hA hS hP (hD (u_2.2, w.2.1, (u_2.1.1, x5, u_2.1.2.2.1, u_2.1.2.2.2.1, u_2.1.2.2.2.2.1, u_2.1.2.2.2.2.2.1, u_2.1.2.2.2.2.2.2.1, u_2.1.2.2.2.2.2.2.2), w.2.2.2.1, w.2.2.2.2.1, w.2.2.2.2.2.1, w.2.2.2.2.2.2.1, w.2.2.2.2.2.2.2)) (c_X4_passMonths l E (a 13) (a 14) (a 15) (a 16) (a 17) (a 18) (a 19) (a 20) (a 21) (a 22) (a 23) (a 24) x2 ((u_2.1.1, x5, u_2.1.2.2.1, u_2.1.2.2.2.1, u_2.1.2.2.2.2.1, u_2.1.2.2.2.2.2.1, u_2.1.2.2.2.2.2.2.1, u_2.1.2.2.2.2.2.2.2), w.2.2.2.1) u_3 hu_3) (cwV 2 hts gX6_bestMix_X4_passMonths rfl rfl rfl (by decide +kernel) ⟨(Nat.le_of_ble_eq_true rfl), (Nat.le_of_ble_eq_true rfl)⟩) (va_recv hK hP (ci := 2) (q0 := 13) rfl rfl) [13, 14, 15, 16, 17, 18, 19, 20, 21, 22, 23, 24] rfl rfl rfl rfl rfl hl.1 rfl rfl (Nat.le_of_ble_eq_true rfl) dX6_bestMix_44 ⟨Nat.zero_le _, Nat.zero_le _⟩ (fun H locs hP hS => ?_)
        refine lv_aload_n (pc := 47) hx hb dX6_bestMix_47 rfl (lv_at hl 0 rfl) ?_
        refine va_get (pc := 48) (D := E.1) (ci := 4) (v := .ref (a 13)) (C := RX6) (T := TX6) (N := 8) hx hb hts i_RX6 hown hK hP 0 rfl rfl 2 (Nat.le_of_ble_eq_true rfl) fl_19 (fun _ h9 => h9) rfl dX6_bestMix_48 ?_
        refine lv_iload_n (pc := 51) hx hb dX6_bestMix_51 rfl (lv_at hl 1 rfl) ?_
        obtain ⟨u_4, hu_4, hq⟩ := pv_bind hq
        refine pv_vRO (pc := 52) (rest := []) (st1 := [.int u_4]) (ws := pv_wX E a (u_2.2, w.2.1, u_3.1, u_3.2, w.2.2.2.2.1, w.2.2.2.2.2.1, w.2.2.2.2.2.2.1, w.2.2.2.2.2.2.2)) [.int x1] ⟨hx, hb, hml, hown, hts⟩ hE hA hS hP (hD (u_2.2, w.2.1, u_3.1, u_3.2, w.2.2.2.2.1, w.2.2.2.2.2.1, w.2.2.2.2.2.2.1, w.2.2.2.2.2.2.2)) (c_X4_owned l E (a 13) (a 14) (a 15) (a 16) (a 17) (a 18) x1 u_3.1 u_4 hu_4) (cwV 1 hts gX6_bestMix_X4_owned rfl rfl rfl (by decide +kernel) ⟨(Nat.le_of_ble_eq_true rfl), (Nat.le_of_ble_eq_true rfl)⟩) (va_recv hK hP (ci := 2) (q0 := 13) rfl rfl) [13, 14, 15, 16, 17, 18] rfl rfl rfl hl.1 rfl rfl (Nat.le_of_ble_eq_true rfl) dX6_bestMix_52 ⟨Nat.zero_le _, Nat.zero_le _⟩ (fun locs hS => ?_)
        refine lv_iload (pc := 55) hx hb dX6_bestMix_55 (lv_at hl 4 rfl) ?_
        refine lv_icmp_le (pc := 57) (tgt := 73) hx hb dX6_bestMix_57 (by decide) (fun c_5 => ?_) (fun c_5 => ?_)
        · have hq := pv_pos c_5 hq
          exact B_73 (m_X6_bestMix_8 n) ih x1 x2 x3 x4 x5 (u_2.2, w.2.1, u_3.1, u_3.2, w.2.2.2.2.1, w.2.2.2.2.2.1, w.2.2.2.2.2.2.1, w.2.2.2.2.2.2.2) H locs ls hP hS (lv_sub hl [0, 1, 2, 3, 4, 5] rfl) hq
        · have hq := pv_neg c_5 hq
          refine lv_aload_n (pc := 60) hx hb dX6_bestMix_60 rfl (lv_at hl 0 rfl) ?_
          refine va_get (pc := 61) (D := E.1) (ci := 4) (v := .ref (a 13)) (C := RX6) (T := TX6) (N := 8) hx hb hts i_RX6 hown hK hP 0 rfl rfl 2 (Nat.le_of_ble_eq_true rfl) fl_19 (fun _ h9 => h9) rfl dX6_bestMix_61 ?_
          refine lv_iload_n (pc := 64) hx hb dX6_bestMix_64 rfl (lv_at hl 1 rfl) ?_
          obtain ⟨u_6, hu_6, hq⟩ := pv_bind hq
          refine pv_vRO (pc := 65) (rest := []) (st1 := [.int u_6]) (ws := pv_wX E a (u_2.2, w.2.1, u_3.1, u_3.2, w.2.2.2.2.1, w.2.2.2.2.2.1, w.2.2.2.2.2.2.1, w.2.2.2.2.2.2.2)) [.int x1] ⟨hx, hb, hml, hown, hts⟩ hE hA hS hP (hD (u_2.2, w.2.1, u_3.1, u_3.2, w.2.2.2.2.1, w.2.2.2.2.2.1, w.2.2.2.2.2.2.1, w.2.2.2.2.2.2.2)) (c_X4_owned l E (a 13) (a 14) (a 15) (a 16) (a 17) (a 18) x1 u_3.1 u_6 hu_6) (cwV 1 hts gX6_bestMix_X4_owned rfl rfl rfl (by decide +kernel) ⟨(Nat.le_of_ble_eq_true rfl), (Nat.le_of_ble_eq_true rfl)⟩) (va_recv hK hP (ci := 2) (q0 := 13) rfl rfl) [13, 14, 15, 16, 17, 18] rfl rfl rfl hl.1 rfl rfl (Nat.le_of_ble_eq_true rfl) dX6_bestMix_65 ⟨Nat.zero_le _, Nat.zero_le _⟩ (fun locs hS => ?_)
          refine lv_istore (pc := 68) (lv' := [(4, .int u_6), (0, .ref (a 0)), (1, .int x1), (2, .int x2), (3, .int x3), (5, .int x5)]) hx hb dX6_bestMix_68 hl (Nat.le_of_ble_eq_true rfl) rfl (fun ls hl => ?_)
          refine lv_iload (pc := 70) hx hb dX6_bestMix_70 (lv_at hl 5 rfl) ?_
          refine lv_istore_n (pc := 72) (lv' := [(3, .int x5), (4, .int u_6), (0, .ref (a 0)), (1, .int x1), (2, .int x2), (5, .int x5)]) hx hb dX6_bestMix_72 rfl hl (Nat.le_of_ble_eq_true rfl) rfl (fun ls hl => ?_)
          exact B_73 (m_X6_bestMix_8 n) ih x1 x2 x5 u_6 x5 (u_2.2, w.2.1, u_3.1, u_3.2, w.2.2.2.2.1, w.2.2.2.2.2.1, w.2.2.2.2.2.2.1, w.2.2.2.2.2.2.2) H locs ls hP hS (lv_sub hl [2, 3, 4, 0, 1, 5] rfl) hq
  suffices M0 : ∀ (H : Heap) (locs : List Loc), va_P E.1 vwCl (pv_wX E a w0) H → va_S A s.heap H locs → W p l e r_X6_bestMix s m args below meth c H locs 0 0 (MQ below (pv_Rw E (pv_wX E a w0) sz (some (.int F.1)) ((fun w : pv_XT => pv_wX E a w) F.2)) args s 0 0 A) (F0 m 0 ls []) from M0 s.heap [] hP hS
  intro H locs hP hS
  refine lv_iconst (pc := 0) (v := 1) hx hb dX6_bestMix_0 (by decide) ?_
  refine lv_istore_n (pc := 1) (lv' := [(3, .int 1), (0, .ref (a 0)), (1, .int x1), (2, .int x2)]) hx hb dX6_bestMix_1 rfl hl (Nat.le_of_ble_eq_true rfl) rfl (fun ls hl => ?_)
  refine lv_iconst (pc := 2) (v := (-1)) hx hb dX6_bestMix_2 (by decide) ?_
  refine lv_istore (pc := 3) (lv' := [(4, .int (-1)), (3, .int 1), (0, .ref (a 0)), (1, .int x1), (2, .int x2)]) hx hb dX6_bestMix_3 hl (Nat.le_of_ble_eq_true rfl) rfl (fun ls hl => ?_)
  refine lv_iconst (pc := 5) (v := 1) hx hb dX6_bestMix_5 (by decide) ?_
  refine lv_istore (pc := 6) (lv' := [(5, .int 1), (4, .int (-1)), (3, .int 1), (0, .ref (a 0)), (1, .int x1), (2, .int x2)]) hx hb dX6_bestMix_6 hl (Nat.le_of_ble_eq_true rfl) rfl (fun ls hl => ?_)
  exact L_8 300 x1 x2 1 (-1) 1 w0 H locs ls hP hS (lv_sub hl [3, 4, 5, 2, 1, 0] rfl) hq
def m_X6_mixed_17  (w : pv_XT) : Option (Int32 × pv_XT) :=
  Option.bind (m_X6_finding (-1000000001) w) fun u_2 => (some (u_2.1, u_2.2))
def m_X6_mixed (x1 : Int32) (x2 : Int32) (w : pv_XT) : Option (Int32 × pv_XT) :=
  if (m_X6_isState x1) = 0 then (m_X6_mixed_17 w) else (if (m_X6_isWithin x2 1 40) = 0 then (m_X6_mixed_17 w) else (Option.bind (m_X6_bestMix x1 x2 w) fun u_4 => (some (u_4.1, u_4.2))))
abbrev r_X6_mixed : Room := { frames := 7, cells := 0, slots := 0, locals := 169 }
set_option maxHeartbeats 4000000 in
set_option maxRecDepth 100000 in
theorem c_X6_mixed (l : Launch) (E : pv_E) (a : Nat → Nat) (x1 : Int32) (x2 : Int32) (w0 : pv_XT) (F : Int32 × pv_XT) (hq : m_X6_mixed x1 x2 w0 = some F) : pv_RW l E yX6_mixed wsX6_mixed r_X6_mixed (pv_wX E a w0) [.ref (a 0), .int x1, .int x2] (some (.int F.1)) (pv_wX E a F.2) := by
  intro sz
  refine pv_mk (by decide) rfl (Nat.le_of_ble_eq_true rfl) ?_
  intro p e s m args below meth c A hx hb hr hml hown hts hlk hAe hP hD0 hA hE hS ls hl
  have hown : s.vm.findClass RX6 = some m.cls := hown
  have hK := hE.1
  have hD : ∀ w : pv_XT, va_D A (pv_wX E a w) := fun w => pv_Dm (ws := pv_wX E a w0) (ws' := pv_wX E a w) rfl hD0
  have hP : va_P E.1 vwCl (pv_wX E a w0) s.heap := hP
  have lc_51 : (Cond.constant RX6 51 (-1000000001)).before args s = true := hts _ (by decide +kernel)
  have hl : lv_has ls 3 [(0, .ref (a 0)), (1, .int x1), (2, .int x2)] := hl
  have B_17 : ∀  (w : pv_XT) (H : Heap) (locs : List Loc) (ls : Array Slot), va_P E.1 vwCl (pv_wX E a w) H → va_S A s.heap H locs → lv_has ls 3 [(0, .ref (a 0))] → m_X6_mixed_17 w = some F → W p l e r_X6_mixed s m args below meth c H locs 0 0 (MQ below (pv_Rw E (pv_wX E a w0) sz (some (.int F.1)) ((fun w : pv_XT => pv_wX E a w) F.2)) args s 0 0 A) (F0 m 17 ls []) := by
    intro w H locs ls hP hS hl hq
    refine lv_aload_n (pc := 17) hx hb dX6_mixed_17 rfl (lv_at hl 0 rfl) ?_
    refine lv_ldc (pc := 18) hx hb hown lc_51 dX6_mixed_18 ?_
    obtain ⟨u_2, hu_2, hq⟩ := pv_bind hq
    refine pv_vRWf (pc := 20) (rest := []) (st1 := [.int u_2.1]) (ws := pv_wX E a w) [.int (-1000000001)] ⟨hx, hb, hml, hown, hts⟩ hE hA hS hP (hD w) (c_X6_finding l E a (-1000000001) w u_2 hu_2) (cwV 1 hts gX6_mixed_X6_finding rfl rfl rfl (by decide +kernel) ⟨(Nat.le_of_ble_eq_true rfl), (Nat.le_of_ble_eq_true rfl)⟩) (va_recv hK hP (ci := 4) (q0 := 0) rfl rfl) rfl hl.1 rfl rfl (Nat.le_of_ble_eq_true rfl) dX6_mixed_20 ⟨Nat.zero_le _, Nat.zero_le _⟩ (fun H locs hP hS => ?_)
    have hP : va_P E.1 vwCl (pv_wX E a u_2.2) H := hP
    exact pv_riRW (w := fun w : pv_XT => pv_wX E a w) hx hb hr hlk hAe hS hP (Option.some.inj hq) dX6_mixed_23
  suffices M0 : ∀ (H : Heap) (locs : List Loc), va_P E.1 vwCl (pv_wX E a w0) H → va_S A s.heap H locs → W p l e r_X6_mixed s m args below meth c H locs 0 0 (MQ below (pv_Rw E (pv_wX E a w0) sz (some (.int F.1)) ((fun w : pv_XT => pv_wX E a w) F.2)) args s 0 0 A) (F0 m 0 ls []) from M0 s.heap [] hP hS
  intro H locs hP hS
  refine lv_iload_n (pc := 0) hx hb dX6_mixed_0 rfl (lv_at hl 1 rfl) ?_
  refine pv_sRO (pc := 1) (rest := []) (st1 := [.int (m_X6_isState x1)]) (ws := pv_wX E a w0) [.int x1] ⟨hx, hb, hml, hown, hts⟩ hE hA hS hP (hD w0) (c_X6_isState l E x1) (va_cwS 1 hts gX6_mixed_X6_isState rfl rfl rfl (by decide +kernel) ⟨(Nat.le_of_ble_eq_true rfl), (Nat.le_of_ble_eq_true rfl)⟩) [] rfl rfl rfl hl.1 rfl rfl (Nat.le_of_ble_eq_true rfl) dX6_mixed_1 ⟨Nat.zero_le _, Nat.zero_le _⟩ (fun locs hS => ?_)
  refine lv_if_eq (pc := 4) (tgt := 17) hx hb dX6_mixed_4 (by decide) (fun c_1 => ?_) (fun c_1 => ?_)
  · have hq := pv_pos c_1 hq
    exact B_17 w0 H locs ls hP hS (lv_sub hl [0] rfl) hq
  · have hq := pv_neg c_1 hq
    refine lv_iload_n (pc := 7) hx hb dX6_mixed_7 rfl (lv_at hl 2 rfl) ?_
    refine lv_iconst (pc := 8) (v := 1) hx hb dX6_mixed_8 (by decide) ?_
    refine lv_bipush (pc := 9) (v := 40) hx hb dX6_mixed_9 (by decide) ?_
    refine pv_sRO (pc := 11) (rest := []) (st1 := [.int (m_X6_isWithin x2 1 40)]) (ws := pv_wX E a w0) [.int x2, .int 1, .int 40] ⟨hx, hb, hml, hown, hts⟩ hE hA hS hP (hD w0) (c_X6_isWithin l E x2 1 40) (va_cwS 3 hts gX6_mixed_X6_isWithin rfl rfl rfl (by decide +kernel) ⟨(Nat.le_of_ble_eq_true rfl), (Nat.le_of_ble_eq_true rfl)⟩) [] rfl rfl rfl hl.1 rfl rfl (Nat.le_of_ble_eq_true rfl) dX6_mixed_11 ⟨Nat.zero_le _, Nat.zero_le _⟩ (fun locs hS => ?_)
    refine lv_if_ne (pc := 14) (tgt := 24) hx hb dX6_mixed_14 (by decide) (fun c_3 => ?_) (fun c_3 => ?_)
    · have hq := pv_neg c_3 hq
      refine lv_aload_n (pc := 24) hx hb dX6_mixed_24 rfl (lv_at hl 0 rfl) ?_
      refine lv_iload_n (pc := 25) hx hb dX6_mixed_25 rfl (lv_at hl 1 rfl) ?_
      refine lv_iload_n (pc := 26) hx hb dX6_mixed_26 rfl (lv_at hl 2 rfl) ?_
      obtain ⟨u_4, hu_4, hq⟩ := pv_bind hq
      refine pv_vRWf (pc := 27) (rest := []) (st1 := [.int u_4.1]) (ws := pv_wX E a w0) [.int x1, .int x2] ⟨hx, hb, hml, hown, hts⟩ hE hA hS hP (hD w0) (c_X6_bestMix l E a x1 x2 w0 u_4 hu_4) (cwV 2 hts gX6_mixed_X6_bestMix rfl rfl rfl (by decide +kernel) ⟨(Nat.le_of_ble_eq_true rfl), (Nat.le_of_ble_eq_true rfl)⟩) (va_recv hK hP (ci := 4) (q0 := 0) rfl rfl) rfl hl.1 rfl rfl (Nat.le_of_ble_eq_true rfl) dX6_mixed_27 ⟨Nat.zero_le _, Nat.zero_le _⟩ (fun H locs hP hS => ?_)
      have hP : va_P E.1 vwCl (pv_wX E a u_4.2) H := hP
      exact pv_riRW (w := fun w : pv_XT => pv_wX E a w) hx hb hr hlk hAe hS hP (Option.some.inj hq) dX6_mixed_30
    · have hq := pv_pos c_3 hq
      exact B_17 w0 H locs ls hP hS (lv_sub hl [0] rfl) hq
def m_X6_kind_18  (w : pv_XT) : Option (Int32 × pv_XT) :=
  Option.bind (m_X6_finding (-1000000001) w) fun u_2 => (some (u_2.1, u_2.2))
def m_X6_kind_102 (k_33 : Int32 → Int32 → Int32 → Int32 → Int32 → pv_XT → Option (Int32 × pv_XT)) (x1 : Int32) (x2 : Int32) (x3 : Int32) (x4 : Int32) (x5 : Int32) (w : pv_XT) : Option (Int32 × pv_XT) :=
  k_33 x1 x2 x3 x4 (x5 + 1) w
def m_X6_kind_33 : Nat → Int32 → Int32 → Int32 → Int32 → Int32 → pv_XT → Option (Int32 × pv_XT)
  | 0 => fun _ _ _ _ _ _ => none
  | n + 1 => fun x1 x2 x3 x4 x5 w =>
    if 6 ≤ x5 then (some (x3, w)) else (Option.bind (m_X4_become (w.2.2.1, w.1)) fun u_5 => (pv_gd x1 8 (Option.bind (m_X4_passMonths x2 ((u_5.1.1, u_5.1.2.1, u_5.1.2.2.1, u_5.1.2.2.2.1, u_5.1.2.2.2.2.1, u_5.1.2.2.2.2.2.1, (upd u_5.1.2.2.2.2.2.2.1 x1.toNatClampNeg x5), u_5.1.2.2.2.2.2.2.2), w.2.2.2.1)) fun u_7 => (pv_gd x1 8 (if (u_7.1.2.2.2.2.2.2.2 x1.toNatClampNeg) ≤ x4 then (m_X6_kind_102 (m_X6_kind_33 n) x1 x2 x3 x4 x5 (u_5.2, w.2.1, u_7.1, u_7.2, w.2.2.2.2.1, w.2.2.2.2.2.1, w.2.2.2.2.2.2.1, w.2.2.2.2.2.2.2)) else (pv_gd x1 8 (m_X6_kind_102 (m_X6_kind_33 n) x1 x2 x5 (u_7.1.2.2.2.2.2.2.2 x1.toNatClampNeg) x5 (u_5.2, w.2.1, u_7.1, u_7.2, w.2.2.2.2.1, w.2.2.2.2.2.1, w.2.2.2.2.2.2.1, w.2.2.2.2.2.2.2))))))))
def m_X6_kind (x1 : Int32) (x2 : Int32) (w : pv_XT) : Option (Int32 × pv_XT) :=
  if (m_X6_isEnvoy x1 w) = 0 then (m_X6_kind_18 w) else (if (m_X6_isWithin x2 1 40) = 0 then (m_X6_kind_18 w) else (m_X6_kind_33 300 x1 x2 0 (-1) 0 w))
abbrev r_X6_kind : Room := { frames := 6, cells := 0, slots := 0, locals := 144 }
set_option maxHeartbeats 4000000 in
set_option maxRecDepth 100000 in
theorem c_X6_kind (l : Launch) (E : pv_E) (a : Nat → Nat) (x1 : Int32) (x2 : Int32) (w0 : pv_XT) (F : Int32 × pv_XT) (hq : m_X6_kind x1 x2 w0 = some F) : pv_RW l E yX6_kind wsX6_kind r_X6_kind (pv_wX E a w0) [.ref (a 0), .int x1, .int x2] (some (.int F.1)) (pv_wX E a F.2) := by
  intro sz
  refine pv_mk (by decide) rfl (Nat.le_of_ble_eq_true rfl) ?_
  intro p e s m args below meth c A hx hb hr hml hown hts hlk hAe hP hD0 hA hE hS ls hl
  have hown : s.vm.findClass RX6 = some m.cls := hown
  have hK := hE.1
  have hD : ∀ w : pv_XT, va_D A (pv_wX E a w) := fun w => pv_Dm (ws := pv_wX E a w0) (ws' := pv_wX E a w) rfl hD0
  have hP : va_P E.1 vwCl (pv_wX E a w0) s.heap := hP
  have lc_51 : (Cond.constant RX6 51 (-1000000001)).before args s = true := hts _ (by decide +kernel)
  have fl_19 : (Cond.fieldLink RX6 19 "ProvinceCards" "ahead" "LProvinceCards$Table;").before args s = true := hts _ (by decide +kernel)
  have fl_10 : (Cond.fieldLink RX6 10 "ProvinceCards" "table" "LProvinceCards$Table;").before args s = true := hts _ (by decide +kernel)
  have fl_112 : (Cond.fieldLink RX6 112 "ProvinceCards$Table" "kinds" "[I").before args s = true := hts _ (by decide +kernel)
  have fl_25 : (Cond.fieldLink RX6 25 "ProvinceCards" "game" "LProvinceCards$Game;").before args s = true := hts _ (by decide +kernel)
  have fl_115 : (Cond.fieldLink RX6 115 "ProvinceCards$Table" "wins" "[I").before args s = true := hts _ (by decide +kernel)
  have i_RX6 : ∀ w ∈ wsX60, w ∈ wsX6_kind := by decide +kernel
  have i_RX4 : ∀ w ∈ wsX40, w ∈ wsX6_kind := by decide +kernel
  have hl : lv_has ls 6 [(0, .ref (a 0)), (1, .int x1), (2, .int x2)] := hl
  have B_18 : ∀  (w : pv_XT) (H : Heap) (locs : List Loc) (ls : Array Slot), va_P E.1 vwCl (pv_wX E a w) H → va_S A s.heap H locs → lv_has ls 6 [(0, .ref (a 0))] → m_X6_kind_18 w = some F → W p l e r_X6_kind s m args below meth c H locs 0 0 (MQ below (pv_Rw E (pv_wX E a w0) sz (some (.int F.1)) ((fun w : pv_XT => pv_wX E a w) F.2)) args s 0 0 A) (F0 m 18 ls []) := by
    intro w H locs ls hP hS hl hq
    refine lv_aload_n (pc := 18) hx hb dX6_kind_18 rfl (lv_at hl 0 rfl) ?_
    refine lv_ldc (pc := 19) hx hb hown lc_51 dX6_kind_19 ?_
    obtain ⟨u_2, hu_2, hq⟩ := pv_bind hq
    refine pv_vRWf (pc := 21) (rest := []) (st1 := [.int u_2.1]) (ws := pv_wX E a w) [.int (-1000000001)] ⟨hx, hb, hml, hown, hts⟩ hE hA hS hP (hD w) (c_X6_finding l E a (-1000000001) w u_2 hu_2) (cwV 1 hts gX6_kind_X6_finding rfl rfl rfl (by decide +kernel) ⟨(Nat.le_of_ble_eq_true rfl), (Nat.le_of_ble_eq_true rfl)⟩) (va_recv hK hP (ci := 4) (q0 := 0) rfl rfl) rfl hl.1 rfl rfl (Nat.le_of_ble_eq_true rfl) dX6_kind_21 ⟨Nat.zero_le _, Nat.zero_le _⟩ (fun H locs hP hS => ?_)
    have hP : va_P E.1 vwCl (pv_wX E a u_2.2) H := hP
    exact pv_riRW (w := fun w : pv_XT => pv_wX E a w) hx hb hr hlk hAe hS hP (Option.some.inj hq) dX6_kind_24
  have B_102 : ∀ (k_33 : Int32 → Int32 → Int32 → Int32 → Int32 → pv_XT → Option (Int32 × pv_XT)), (∀ (x1 : Int32) (x2 : Int32) (x3 : Int32) (x4 : Int32) (x5 : Int32) (w : pv_XT) (H : Heap) (locs : List Loc) (ls : Array Slot), va_P E.1 vwCl (pv_wX E a w) H → va_S A s.heap H locs → lv_has ls 6 [(0, .ref (a 0)), (1, .int x1), (2, .int x2), (3, .int x3), (4, .int x4), (5, .int x5)] → k_33 x1 x2 x3 x4 x5 w = some F → W p l e r_X6_kind s m args below meth c H locs 0 0 (MQ below (pv_Rw E (pv_wX E a w0) sz (some (.int F.1)) ((fun w : pv_XT => pv_wX E a w) F.2)) args s 0 0 A) (F0 m 33 ls [])) → ∀ (x1 : Int32) (x2 : Int32) (x3 : Int32) (x4 : Int32) (x5 : Int32) (w : pv_XT) (H : Heap) (locs : List Loc) (ls : Array Slot), va_P E.1 vwCl (pv_wX E a w) H → va_S A s.heap H locs → lv_has ls 6 [(0, .ref (a 0)), (1, .int x1), (2, .int x2), (3, .int x3), (4, .int x4), (5, .int x5)] → m_X6_kind_102 k_33 x1 x2 x3 x4 x5 w = some F → W p l e r_X6_kind s m args below meth c H locs 0 0 (MQ below (pv_Rw E (pv_wX E a w0) sz (some (.int F.1)) ((fun w : pv_XT => pv_wX E a w) F.2)) args s 0 0 A) (F0 m 102 ls []) := by
    intro k_33 hk_33
    intro x1 x2 x3 x4 x5 w H locs ls hP hS hl hq
    refine lv_iinc (pc := 102) (v := (x5 + 1)) (lv' := [(5, .int (x5 + 1)), (0, .ref (a 0)), (1, .int x1), (2, .int x2), (3, .int x3), (4, .int x4)]) hx hb dX6_kind_102 hl (k := 5) rfl rfl (Nat.le_of_ble_eq_true rfl) rfl (fun ls hl => ?_)
    refine lv_goto (pc := 105) (tgt := 33) hx hb dX6_kind_105 (by decide) ?_
    exact hk_33 x1 x2 x3 x4 (x5 + 1) w H locs ls hP hS (lv_sub hl [1, 2, 3, 4, 5, 0] rfl) hq
  have L_33 : ∀ n : Nat, ∀ (x1 : Int32) (x2 : Int32) (x3 : Int32) (x4 : Int32) (x5 : Int32) (w : pv_XT) (H : Heap) (locs : List Loc) (ls : Array Slot), va_P E.1 vwCl (pv_wX E a w) H → va_S A s.heap H locs → lv_has ls 6 [(0, .ref (a 0)), (1, .int x1), (2, .int x2), (3, .int x3), (4, .int x4), (5, .int x5)] → m_X6_kind_33 n x1 x2 x3 x4 x5 w = some F → W p l e r_X6_kind s m args below meth c H locs 0 0 (MQ below (pv_Rw E (pv_wX E a w0) sz (some (.int F.1)) ((fun w : pv_XT => pv_wX E a w) F.2)) args s 0 0 A) (F0 m 33 ls []) := by
    intro n
    induction n with
    | zero =>
      intro x1 x2 x3 x4 x5 w H locs ls hP hS hl hq
      exact (pv_no hq).elim
    | succ n ih =>
      intro x1 x2 x3 x4 x5 w H locs ls hP hS hl hq
      refine lv_iload (pc := 33) hx hb dX6_kind_33 (lv_at hl 5 rfl) ?_
      refine lv_bipush (pc := 35) (v := 6) hx hb dX6_kind_35 (by decide) ?_
      refine lv_icmp_ge (pc := 37) (tgt := 108) hx hb dX6_kind_37 (by decide) (fun c_4 => ?_) (fun c_4 => ?_)
      · have hq := pv_pos c_4 hq
        refine lv_iload_n (pc := 108) hx hb dX6_kind_108 rfl (lv_at hl 3 rfl) ?_
        exact pv_riRW (w := fun w : pv_XT => pv_wX E a w) hx hb hr hlk hAe hS hP (Option.some.inj hq) dX6_kind_109
      · have hq := pv_neg c_4 hq
        refine lv_aload_n (pc := 40) hx hb dX6_kind_40 rfl (lv_at hl 0 rfl) ?_
        refine va_get (pc := 41) (D := E.1) (ci := 4) (v := .ref (a 13)) (C := RX6) (T := TX6) (N := 8) hx hb hts i_RX6 hown hK hP 0 rfl rfl 2 (Nat.le_of_ble_eq_true rfl) fl_19 (fun _ h9 => h9) rfl dX6_kind_41 ?_
        refine lv_aload_n (pc := 44) hx hb dX6_kind_44 rfl (lv_at hl 0 rfl) ?_
        refine va_get (pc := 45) (D := E.1) (ci := 4) (v := .ref (a 1)) (C := RX6) (T := TX6) (N := 8) hx hb hts i_RX6 hown hK hP 0 rfl rfl 0 (Nat.le_of_ble_eq_true rfl) fl_10 (fun _ h9 => h9) rfl dX6_kind_45 ?_
        obtain ⟨u_5, hu_5, hq⟩ := pv_bind hq
        refine pv_vRW (pc := 48) (rest := []) (st1 := []) (ws := pv_wX E a w) (ws' := pv_wX E a (u_5.2, w.2.1, u_5.1, w.2.2.2.1, w.2.2.2.2.1, w.2.2.2.2.2.1, w.2.2.2.2.2.2.1, w.2.2.2.2.2.2.2)) [.ref (a 1)] ⟨hx, hb, hml, hown, hts⟩ hE hA hS hP (hD w) (c_X4_become l E (a 13) (a 14) (a 15) (a 16) (a 17) (a 18) (a 1) (a 2) (a 3) (a 4) (a 5) (a 6) (w.2.2.1, w.1) u_5 hu_5) (cwV 1 hts gX6_kind_X4_become rfl rfl rfl (by decide +kernel) ⟨(Nat.le_of_ble_eq_true rfl), (Nat.le_of_ble_eq_true rfl)⟩) (va_recv hK hP (ci := 2) (q0 := 13) rfl rfl) [13, 14, 15, 16, 17, 18, 1, 2, 3, 4, 5, 6] rfl rfl rfl rfl rfl hl.1 rfl rfl (Nat.le_of_ble_eq_true rfl) dX6_kind_48 ⟨Nat.zero_le _, Nat.zero_le _⟩ (fun H locs hP hS => ?_)
        refine lv_aload_n (pc := 51) hx hb dX6_kind_51 rfl (lv_at hl 0 rfl) ?_
        refine va_get (pc := 52) (D := E.1) (ci := 4) (v := .ref (a 13)) (C := RX6) (T := TX6) (N := 8) hx hb hts i_RX6 hown hK hP 0 rfl rfl 2 (Nat.le_of_ble_eq_true rfl) fl_19 (fun _ h9 => h9) rfl dX6_kind_52 ?_
        refine va_get (pc := 55) (D := E.1) (ci := 2) (v := .ref (a 17)) (C := RX4) (T := TX4) (N := 8) hx hb hts i_RX4 hown hK hP 13 rfl rfl 6 (Nat.le_of_ble_eq_true rfl) fl_112 (fun _ h9 => h9) rfl dX6_kind_55 ?_
        refine lv_iload_n (pc := 58) hx hb dX6_kind_58 rfl (lv_at hl 1 rfl) ?_
        refine lv_iload (pc := 59) hx hb dX6_kind_59 (lv_at hl 5 rfl) ?_
        obtain ⟨h_6, hq⟩ := pv_gd_some hq
        refine va_iast (pc := 61) (D := E.1) hx hb hK hP (hD (u_5.2, w.2.1, u_5.1, w.2.2.2.1, w.2.2.2.2.1, w.2.2.2.2.2.1, w.2.2.2.2.2.2.1, w.2.2.2.2.2.2.2)) hS 17 0 rfl rfl h_6 dX6_kind_61 (fun H locs hP _ hS => ?_)
        have hP : va_P E.1 vwCl (pv_wX E a (u_5.2, w.2.1, (u_5.1.1, u_5.1.2.1, u_5.1.2.2.1, u_5.1.2.2.2.1, u_5.1.2.2.2.2.1, u_5.1.2.2.2.2.2.1, (upd u_5.1.2.2.2.2.2.2.1 x1.toNatClampNeg x5), u_5.1.2.2.2.2.2.2.2), w.2.2.2.1, w.2.2.2.2.1, w.2.2.2.2.2.1, w.2.2.2.2.2.2.1, w.2.2.2.2.2.2.2)) H := hP
        refine lv_aload_n (pc := 62) hx hb dX6_kind_62 rfl (lv_at hl 0 rfl) ?_
        refine va_get (pc := 63) (D := E.1) (ci := 4) (v := .ref (a 13)) (C := RX6) (T := TX6) (N := 8) hx hb hts i_RX6 hown hK hP 0 rfl rfl 2 (Nat.le_of_ble_eq_true rfl) fl_19 (fun _ h9 => h9) rfl dX6_kind_63 ?_
        refine lv_iload_n (pc := 66) hx hb dX6_kind_66 rfl (lv_at hl 2 rfl) ?_
        refine lv_aload_n (pc := 67) hx hb dX6_kind_67 rfl (lv_at hl 0 rfl) ?_
        refine va_get (pc := 68) (D := E.1) (ci := 4) (v := .ref (a 19)) (C := RX6) (T := TX6) (N := 8) hx hb hts i_RX6 hown hK hP 0 rfl rfl 3 (Nat.le_of_ble_eq_true rfl) fl_25 (fun _ h9 => h9) rfl dX6_kind_68 ?_
        obtain ⟨u_7, hu_7, hq⟩ := pv_bind hq
        refine pv_vRW (pc := 71) (rest := []) (st1 := []) (ws := pv_wX E a (u_5.2, w.2.1, (u_5.1.1, u_5.1.2.1, u_5.1.2.2.1, u_5.1.2.2.2.1, u_5.1.2.2.2.2.1, u_5.1.2.2.2.2.2.1, (upd u_5.1.2.2.2.2.2.2.1 x1.toNatClampNeg x5), u_5.1.2.2.2.2.2.2.2), w.2.2.2.1, w.2.2.2.2.1, w.2.2.2.2.2.1, w.2.2.2.2.2.2.1, w.2.2.2.2.2.2.2)) (ws' := pv_wX E a (u_5.2, w.2.1, u_7.1, u_7.2, w.2.2.2.2.1, w.2.2.2.2.2.1, w.2.2.2.2.2.2.1, w.2.2.2.2.2.2.2)) [.int x2, .ref (a 19)] ⟨hx, hb, hml, hown, hts⟩ hE hA hS hP (hD (u_5.2, w.2.1, (u_5.1.1, u_5.1.2.1, u_5.1.2.2.1, u_5.1.2.2.2.1, u_5.1.2.2.2.2.1, u_5.1.2.2.2.2.2.1, (upd u_5.1.2.2.2.2.2.2.1 x1.toNatClampNeg x5), u_5.1.2.2.2.2.2.2.2), w.2.2.2.1, w.2.2.2.2.1, w.2.2.2.2.2.1, w.2.2.2.2.2.2.1, w.2.2.2.2.2.2.2)) (c_X4_passMonths l E (a 13) (a 14) (a 15) (a 16) (a 17) (a 18) (a 19) (a 20) (a 21) (a 22) (a 23) (a 24) x2 ((u_5.1.1, u_5.1.2.1, u_5.1.2.2.1, u_5.1.2.2.2.1, u_5.1.2.2.2.2.1, u_5.1.2.2.2.2.2.1, (upd u_5.1.2.2.2.2.2.2.1 x1.toNatClampNeg x5), u_5.1.2.2.2.2.2.2.2), w.2.2.2.1) u_7 hu_7) (cwV 2 hts gX6_kind_X4_passMonths rfl rfl rfl (by decide +kernel) ⟨(Nat.le_of_ble_eq_true rfl), (Nat.le_of_ble_eq_true rfl)⟩) (va_recv hK hP (ci := 2) (q0 := 13) rfl rfl) [13, 14, 15, 16, 17, 18, 19, 20, 21, 22, 23, 24] rfl rfl rfl rfl rfl hl.1 rfl rfl (Nat.le_of_ble_eq_true rfl) dX6_kind_71 ⟨Nat.zero_le _, Nat.zero_le _⟩ (fun H locs hP hS => ?_)
        refine lv_aload_n (pc := 74) hx hb dX6_kind_74 rfl (lv_at hl 0 rfl) ?_
        refine va_get (pc := 75) (D := E.1) (ci := 4) (v := .ref (a 13)) (C := RX6) (T := TX6) (N := 8) hx hb hts i_RX6 hown hK hP 0 rfl rfl 2 (Nat.le_of_ble_eq_true rfl) fl_19 (fun _ h9 => h9) rfl dX6_kind_75 ?_
        refine va_get (pc := 78) (D := E.1) (ci := 2) (v := .ref (a 18)) (C := RX4) (T := TX4) (N := 8) hx hb hts i_RX4 hown hK hP 13 rfl rfl 7 (Nat.le_of_ble_eq_true rfl) fl_115 (fun _ h9 => h9) rfl dX6_kind_78 ?_
        refine lv_iload_n (pc := 81) hx hb dX6_kind_81 rfl (lv_at hl 1 rfl) ?_
        obtain ⟨h_8, hq⟩ := pv_gd_some hq
        refine va_iald (pc := 82) (D := E.1) hx hb hK hP 18 0 rfl rfl h_8 dX6_kind_82 ?_
        refine lv_iload (pc := 83) hx hb dX6_kind_83 (lv_at hl 4 rfl) ?_
        refine lv_icmp_le (pc := 85) (tgt := 102) hx hb dX6_kind_85 (by decide) (fun c_9 => ?_) (fun c_9 => ?_)
        · have hq := pv_pos c_9 hq
          exact B_102 (m_X6_kind_33 n) ih x1 x2 x3 x4 x5 (u_5.2, w.2.1, u_7.1, u_7.2, w.2.2.2.2.1, w.2.2.2.2.2.1, w.2.2.2.2.2.2.1, w.2.2.2.2.2.2.2) H locs ls hP hS (lv_sub hl [0, 1, 2, 3, 4, 5] rfl) hq
        · have hq := pv_neg c_9 hq
          refine lv_aload_n (pc := 88) hx hb dX6_kind_88 rfl (lv_at hl 0 rfl) ?_
          refine va_get (pc := 89) (D := E.1) (ci := 4) (v := .ref (a 13)) (C := RX6) (T := TX6) (N := 8) hx hb hts i_RX6 hown hK hP 0 rfl rfl 2 (Nat.le_of_ble_eq_true rfl) fl_19 (fun _ h9 => h9) rfl dX6_kind_89 ?_
          refine va_get (pc := 92) (D := E.1) (ci := 2) (v := .ref (a 18)) (C := RX4) (T := TX4) (N := 8) hx hb hts i_RX4 hown hK hP 13 rfl rfl 7 (Nat.le_of_ble_eq_true rfl) fl_115 (fun _ h9 => h9) rfl dX6_kind_92 ?_
          refine lv_iload_n (pc := 95) hx hb dX6_kind_95 rfl (lv_at hl 1 rfl) ?_
          obtain ⟨h_10, hq⟩ := pv_gd_some hq
          refine va_iald (pc := 96) (D := E.1) hx hb hK hP 18 0 rfl rfl h_10 dX6_kind_96 ?_
          refine lv_istore (pc := 97) (lv' := [(4, .int (u_7.1.2.2.2.2.2.2.2 x1.toNatClampNeg)), (0, .ref (a 0)), (1, .int x1), (2, .int x2), (3, .int x3), (5, .int x5)]) hx hb dX6_kind_97 hl (Nat.le_of_ble_eq_true rfl) rfl (fun ls hl => ?_)
          refine lv_iload (pc := 99) hx hb dX6_kind_99 (lv_at hl 5 rfl) ?_
          refine lv_istore_n (pc := 101) (lv' := [(3, .int x5), (4, .int (u_7.1.2.2.2.2.2.2.2 x1.toNatClampNeg)), (0, .ref (a 0)), (1, .int x1), (2, .int x2), (5, .int x5)]) hx hb dX6_kind_101 rfl hl (Nat.le_of_ble_eq_true rfl) rfl (fun ls hl => ?_)
          exact B_102 (m_X6_kind_33 n) ih x1 x2 x5 (u_7.1.2.2.2.2.2.2.2 x1.toNatClampNeg) x5 (u_5.2, w.2.1, u_7.1, u_7.2, w.2.2.2.2.1, w.2.2.2.2.2.1, w.2.2.2.2.2.2.1, w.2.2.2.2.2.2.2) H locs ls hP hS (lv_sub hl [2, 3, 4, 0, 1, 5] rfl) hq
  suffices M0 : ∀ (H : Heap) (locs : List Loc), va_P E.1 vwCl (pv_wX E a w0) H → va_S A s.heap H locs → W p l e r_X6_kind s m args below meth c H locs 0 0 (MQ below (pv_Rw E (pv_wX E a w0) sz (some (.int F.1)) ((fun w : pv_XT => pv_wX E a w) F.2)) args s 0 0 A) (F0 m 0 ls []) from M0 s.heap [] hP hS
  intro H locs hP hS
  refine lv_aload_n (pc := 0) hx hb dX6_kind_0 rfl (lv_at hl 0 rfl) ?_
  refine lv_iload_n (pc := 1) hx hb dX6_kind_1 rfl (lv_at hl 1 rfl) ?_
  refine pv_vROf (pc := 2) (rest := []) (st1 := [.int (m_X6_isEnvoy x1 w0)]) (ws := pv_wX E a w0) [.int x1] ⟨hx, hb, hml, hown, hts⟩ hE hA hS hP (hD w0) (c_X6_isEnvoy l E a x1 w0) (cwV 1 hts gX6_kind_X6_isEnvoy rfl rfl rfl (by decide +kernel) ⟨(Nat.le_of_ble_eq_true rfl), (Nat.le_of_ble_eq_true rfl)⟩) (va_recv hK hP (ci := 4) (q0 := 0) rfl rfl) rfl hl.1 rfl rfl (Nat.le_of_ble_eq_true rfl) dX6_kind_2 ⟨Nat.zero_le _, Nat.zero_le _⟩ (fun locs hS => ?_)
  refine lv_if_eq (pc := 5) (tgt := 18) hx hb dX6_kind_5 (by decide) (fun c_1 => ?_) (fun c_1 => ?_)
  · have hq := pv_pos c_1 hq
    exact B_18 w0 H locs ls hP hS (lv_sub hl [0] rfl) hq
  · have hq := pv_neg c_1 hq
    refine lv_iload_n (pc := 8) hx hb dX6_kind_8 rfl (lv_at hl 2 rfl) ?_
    refine lv_iconst (pc := 9) (v := 1) hx hb dX6_kind_9 (by decide) ?_
    refine lv_bipush (pc := 10) (v := 40) hx hb dX6_kind_10 (by decide) ?_
    refine pv_sRO (pc := 12) (rest := []) (st1 := [.int (m_X6_isWithin x2 1 40)]) (ws := pv_wX E a w0) [.int x2, .int 1, .int 40] ⟨hx, hb, hml, hown, hts⟩ hE hA hS hP (hD w0) (c_X6_isWithin l E x2 1 40) (va_cwS 3 hts gX6_kind_X6_isWithin rfl rfl rfl (by decide +kernel) ⟨(Nat.le_of_ble_eq_true rfl), (Nat.le_of_ble_eq_true rfl)⟩) [] rfl rfl rfl hl.1 rfl rfl (Nat.le_of_ble_eq_true rfl) dX6_kind_12 ⟨Nat.zero_le _, Nat.zero_le _⟩ (fun locs hS => ?_)
    refine lv_if_ne (pc := 15) (tgt := 25) hx hb dX6_kind_15 (by decide) (fun c_3 => ?_) (fun c_3 => ?_)
    · have hq := pv_neg c_3 hq
      refine lv_iconst (pc := 25) (v := 0) hx hb dX6_kind_25 (by decide) ?_
      refine lv_istore_n (pc := 26) (lv' := [(3, .int 0), (0, .ref (a 0)), (1, .int x1), (2, .int x2)]) hx hb dX6_kind_26 rfl hl (Nat.le_of_ble_eq_true rfl) rfl (fun ls hl => ?_)
      refine lv_iconst (pc := 27) (v := (-1)) hx hb dX6_kind_27 (by decide) ?_
      refine lv_istore (pc := 28) (lv' := [(4, .int (-1)), (3, .int 0), (0, .ref (a 0)), (1, .int x1), (2, .int x2)]) hx hb dX6_kind_28 hl (Nat.le_of_ble_eq_true rfl) rfl (fun ls hl => ?_)
      refine lv_iconst (pc := 30) (v := 0) hx hb dX6_kind_30 (by decide) ?_
      refine lv_istore (pc := 31) (lv' := [(5, .int 0), (4, .int (-1)), (3, .int 0), (0, .ref (a 0)), (1, .int x1), (2, .int x2)]) hx hb dX6_kind_31 hl (Nat.le_of_ble_eq_true rfl) rfl (fun ls hl => ?_)
      exact L_33 300 x1 x2 0 (-1) 0 w0 H locs ls hP hS (lv_sub hl [3, 4, 5, 2, 1, 0] rfl) hq
    · have hq := pv_pos c_3 hq
      exact B_18 w0 H locs ls hP hS (lv_sub hl [0] rfl) hq
def m_X6_rest_17  (w : pv_XT) : Option (Int32 × pv_XT) :=
  Option.bind (m_X6_finding (-1000000001) w) fun u_2 => (some (u_2.1, u_2.2))
def m_X6_rest_83 (k_32 : Int32 → Int32 → Int32 → Int32 → Int32 → pv_XT → Option (Int32 × pv_XT)) (x1 : Int32) (x2 : Int32) (x3 : Int32) (x4 : Int32) (x5 : Int32) (w : pv_XT) : Option (Int32 × pv_XT) :=
  k_32 x1 x2 x3 x4 (x5 + 1) w
def m_X6_rest_32 : Nat → Int32 → Int32 → Int32 → Int32 → Int32 → pv_XT → Option (Int32 × pv_XT)
  | 0 => fun _ _ _ _ _ _ => none
  | n + 1 => fun x1 x2 x3 x4 x5 w =>
    if 30 < x5 then (some (x3, w)) else (Option.bind (m_X6_lookAheadIdle x5 w) fun u_5 => (Option.bind (m_X4_passMonths x2 (u_5.2.2.1, u_5.2.2.2.1)) fun u_6 => (Option.bind (m_X4_owned x1 u_6.1) fun u_7 => (if u_7 ≤ x4 then (m_X6_rest_83 (m_X6_rest_32 n) x1 x2 x3 x4 x5 (u_5.1, u_5.2.1, u_6.1, u_6.2, u_5.2.2.2.2.1, u_5.2.2.2.2.2.1, u_5.2.2.2.2.2.2.1, u_5.2.2.2.2.2.2.2)) else (Option.bind (m_X4_owned x1 u_6.1) fun u_9 => (m_X6_rest_83 (m_X6_rest_32 n) x1 x2 x5 u_9 x5 (u_5.1, u_5.2.1, u_6.1, u_6.2, u_5.2.2.2.2.1, u_5.2.2.2.2.2.1, u_5.2.2.2.2.2.2.1, u_5.2.2.2.2.2.2.2)))))))
def m_X6_rest (x1 : Int32) (x2 : Int32) (w : pv_XT) : Option (Int32 × pv_XT) :=
  if (m_X6_isState x1) = 0 then (m_X6_rest_17 w) else (if (m_X6_isWithin x2 1 30) = 0 then (m_X6_rest_17 w) else (m_X6_rest_32 300 x1 x2 0 (-1) 0 w))
abbrev r_X6_rest : Room := { frames := 7, cells := 0, slots := 0, locals := 165 }
set_option maxHeartbeats 4000000 in
set_option maxRecDepth 100000 in
theorem c_X6_rest (l : Launch) (E : pv_E) (a : Nat → Nat) (x1 : Int32) (x2 : Int32) (w0 : pv_XT) (F : Int32 × pv_XT) (hq : m_X6_rest x1 x2 w0 = some F) : pv_RW l E yX6_rest wsX6_rest r_X6_rest (pv_wX E a w0) [.ref (a 0), .int x1, .int x2] (some (.int F.1)) (pv_wX E a F.2) := by
  intro sz
  refine pv_mk (by decide) rfl (Nat.le_of_ble_eq_true rfl) ?_
  intro p e s m args below meth c A hx hb hr hml hown hts hlk hAe hP hD0 hA hE hS ls hl
  have hown : s.vm.findClass RX6 = some m.cls := hown
  have hK := hE.1
  have hD : ∀ w : pv_XT, va_D A (pv_wX E a w) := fun w => pv_Dm (ws := pv_wX E a w0) (ws' := pv_wX E a w) rfl hD0
  have hP : va_P E.1 vwCl (pv_wX E a w0) s.heap := hP
  have lc_51 : (Cond.constant RX6 51 (-1000000001)).before args s = true := hts _ (by decide +kernel)
  have fl_19 : (Cond.fieldLink RX6 19 "ProvinceCards" "ahead" "LProvinceCards$Table;").before args s = true := hts _ (by decide +kernel)
  have fl_25 : (Cond.fieldLink RX6 25 "ProvinceCards" "game" "LProvinceCards$Game;").before args s = true := hts _ (by decide +kernel)
  have i_RX6 : ∀ w ∈ wsX60, w ∈ wsX6_rest := by decide +kernel
  have hl : lv_has ls 6 [(0, .ref (a 0)), (1, .int x1), (2, .int x2)] := hl
  have B_17 : ∀  (w : pv_XT) (H : Heap) (locs : List Loc) (ls : Array Slot), va_P E.1 vwCl (pv_wX E a w) H → va_S A s.heap H locs → lv_has ls 6 [(0, .ref (a 0))] → m_X6_rest_17 w = some F → W p l e r_X6_rest s m args below meth c H locs 0 0 (MQ below (pv_Rw E (pv_wX E a w0) sz (some (.int F.1)) ((fun w : pv_XT => pv_wX E a w) F.2)) args s 0 0 A) (F0 m 17 ls []) := by
    intro w H locs ls hP hS hl hq
    refine lv_aload_n (pc := 17) hx hb dX6_rest_17 rfl (lv_at hl 0 rfl) ?_
    refine lv_ldc (pc := 18) hx hb hown lc_51 dX6_rest_18 ?_
    obtain ⟨u_2, hu_2, hq⟩ := pv_bind hq
    refine pv_vRWf (pc := 20) (rest := []) (st1 := [.int u_2.1]) (ws := pv_wX E a w) [.int (-1000000001)] ⟨hx, hb, hml, hown, hts⟩ hE hA hS hP (hD w) (c_X6_finding l E a (-1000000001) w u_2 hu_2) (cwV 1 hts gX6_rest_X6_finding rfl rfl rfl (by decide +kernel) ⟨(Nat.le_of_ble_eq_true rfl), (Nat.le_of_ble_eq_true rfl)⟩) (va_recv hK hP (ci := 4) (q0 := 0) rfl rfl) rfl hl.1 rfl rfl (Nat.le_of_ble_eq_true rfl) dX6_rest_20 ⟨Nat.zero_le _, Nat.zero_le _⟩ (fun H locs hP hS => ?_)
    have hP : va_P E.1 vwCl (pv_wX E a u_2.2) H := hP
    exact pv_riRW (w := fun w : pv_XT => pv_wX E a w) hx hb hr hlk hAe hS hP (Option.some.inj hq) dX6_rest_23
  have B_83 : ∀ (k_32 : Int32 → Int32 → Int32 → Int32 → Int32 → pv_XT → Option (Int32 × pv_XT)), (∀ (x1 : Int32) (x2 : Int32) (x3 : Int32) (x4 : Int32) (x5 : Int32) (w : pv_XT) (H : Heap) (locs : List Loc) (ls : Array Slot), va_P E.1 vwCl (pv_wX E a w) H → va_S A s.heap H locs → lv_has ls 6 [(0, .ref (a 0)), (1, .int x1), (2, .int x2), (3, .int x3), (4, .int x4), (5, .int x5)] → k_32 x1 x2 x3 x4 x5 w = some F → W p l e r_X6_rest s m args below meth c H locs 0 0 (MQ below (pv_Rw E (pv_wX E a w0) sz (some (.int F.1)) ((fun w : pv_XT => pv_wX E a w) F.2)) args s 0 0 A) (F0 m 32 ls [])) → ∀ (x1 : Int32) (x2 : Int32) (x3 : Int32) (x4 : Int32) (x5 : Int32) (w : pv_XT) (H : Heap) (locs : List Loc) (ls : Array Slot), va_P E.1 vwCl (pv_wX E a w) H → va_S A s.heap H locs → lv_has ls 6 [(0, .ref (a 0)), (1, .int x1), (2, .int x2), (3, .int x3), (4, .int x4), (5, .int x5)] → m_X6_rest_83 k_32 x1 x2 x3 x4 x5 w = some F → W p l e r_X6_rest s m args below meth c H locs 0 0 (MQ below (pv_Rw E (pv_wX E a w0) sz (some (.int F.1)) ((fun w : pv_XT => pv_wX E a w) F.2)) args s 0 0 A) (F0 m 83 ls []) := by
    intro k_32 hk_32
    intro x1 x2 x3 x4 x5 w H locs ls hP hS hl hq
    refine lv_iinc (pc := 83) (v := (x5 + 1)) (lv' := [(5, .int (x5 + 1)), (0, .ref (a 0)), (1, .int x1), (2, .int x2), (3, .int x3), (4, .int x4)]) hx hb dX6_rest_83 hl (k := 5) rfl rfl (Nat.le_of_ble_eq_true rfl) rfl (fun ls hl => ?_)
    refine lv_goto (pc := 86) (tgt := 32) hx hb dX6_rest_86 (by decide) ?_
    exact hk_32 x1 x2 x3 x4 (x5 + 1) w H locs ls hP hS (lv_sub hl [1, 2, 3, 4, 5, 0] rfl) hq
  have L_32 : ∀ n : Nat, ∀ (x1 : Int32) (x2 : Int32) (x3 : Int32) (x4 : Int32) (x5 : Int32) (w : pv_XT) (H : Heap) (locs : List Loc) (ls : Array Slot), va_P E.1 vwCl (pv_wX E a w) H → va_S A s.heap H locs → lv_has ls 6 [(0, .ref (a 0)), (1, .int x1), (2, .int x2), (3, .int x3), (4, .int x4), (5, .int x5)] → m_X6_rest_32 n x1 x2 x3 x4 x5 w = some F → W p l e r_X6_rest s m args below meth c H locs 0 0 (MQ below (pv_Rw E (pv_wX E a w0) sz (some (.int F.1)) ((fun w : pv_XT => pv_wX E a w) F.2)) args s 0 0 A) (F0 m 32 ls []) := by
    intro n
    induction n with
    | zero =>
      intro x1 x2 x3 x4 x5 w H locs ls hP hS hl hq
      exact (pv_no hq).elim
    | succ n ih =>
      intro x1 x2 x3 x4 x5 w H locs ls hP hS hl hq
      refine lv_iload (pc := 32) hx hb dX6_rest_32 (lv_at hl 5 rfl) ?_
      refine lv_bipush (pc := 34) (v := 30) hx hb dX6_rest_34 (by decide) ?_
      refine lv_icmp_gt (pc := 36) (tgt := 89) hx hb dX6_rest_36 (by decide) (fun c_4 => ?_) (fun c_4 => ?_)
      · have hq := pv_pos c_4 hq
        refine lv_iload_n (pc := 89) hx hb dX6_rest_89 rfl (lv_at hl 3 rfl) ?_
        exact pv_riRW (w := fun w : pv_XT => pv_wX E a w) hx hb hr hlk hAe hS hP (Option.some.inj hq) dX6_rest_90
      · have hq := pv_neg c_4 hq
        refine lv_aload_n (pc := 39) hx hb dX6_rest_39 rfl (lv_at hl 0 rfl) ?_
        refine lv_iload (pc := 40) hx hb dX6_rest_40 (lv_at hl 5 rfl) ?_
        obtain ⟨u_5, hu_5, hq⟩ := pv_bind hq
        refine pv_vRWf (pc := 42) (rest := []) (st1 := []) (ws := pv_wX E a w) [.int x5] ⟨hx, hb, hml, hown, hts⟩ hE hA hS hP (hD w) (c_X6_lookAheadIdle l E a x5 w u_5 hu_5) (cwV 1 hts gX6_rest_X6_lookAheadIdle rfl rfl rfl (by decide +kernel) ⟨(Nat.le_of_ble_eq_true rfl), (Nat.le_of_ble_eq_true rfl)⟩) (va_recv hK hP (ci := 4) (q0 := 0) rfl rfl) rfl hl.1 rfl rfl (Nat.le_of_ble_eq_true rfl) dX6_rest_42 ⟨Nat.zero_le _, Nat.zero_le _⟩ (fun H locs hP hS => ?_)
        have hP : va_P E.1 vwCl (pv_wX E a u_5) H := hP
        refine lv_aload_n (pc := 45) hx hb dX6_rest_45 rfl (lv_at hl 0 rfl) ?_
        refine va_get (pc := 46) (D := E.1) (ci := 4) (v := .ref (a 13)) (C := RX6) (T := TX6) (N := 8) hx hb hts i_RX6 hown hK hP 0 rfl rfl 2 (Nat.le_of_ble_eq_true rfl) fl_19 (fun _ h9 => h9) rfl dX6_rest_46 ?_
        refine lv_iload_n (pc := 49) hx hb dX6_rest_49 rfl (lv_at hl 2 rfl) ?_
        refine lv_aload_n (pc := 50) hx hb dX6_rest_50 rfl (lv_at hl 0 rfl) ?_
        refine va_get (pc := 51) (D := E.1) (ci := 4) (v := .ref (a 19)) (C := RX6) (T := TX6) (N := 8) hx hb hts i_RX6 hown hK hP 0 rfl rfl 3 (Nat.le_of_ble_eq_true rfl) fl_25 (fun _ h9 => h9) rfl dX6_rest_51 ?_
        obtain ⟨u_6, hu_6, hq⟩ := pv_bind hq
        refine pv_vRW (pc := 54) (rest := []) (st1 := []) (ws := pv_wX E a u_5) (ws' := pv_wX E a (u_5.1, u_5.2.1, u_6.1, u_6.2, u_5.2.2.2.2.1, u_5.2.2.2.2.2.1, u_5.2.2.2.2.2.2.1, u_5.2.2.2.2.2.2.2)) [.int x2, .ref (a 19)] ⟨hx, hb, hml, hown, hts⟩ hE hA hS hP (hD u_5) (c_X4_passMonths l E (a 13) (a 14) (a 15) (a 16) (a 17) (a 18) (a 19) (a 20) (a 21) (a 22) (a 23) (a 24) x2 (u_5.2.2.1, u_5.2.2.2.1) u_6 hu_6) (cwV 2 hts gX6_rest_X4_passMonths rfl rfl rfl (by decide +kernel) ⟨(Nat.le_of_ble_eq_true rfl), (Nat.le_of_ble_eq_true rfl)⟩) (va_recv hK hP (ci := 2) (q0 := 13) rfl rfl) [13, 14, 15, 16, 17, 18, 19, 20, 21, 22, 23, 24] rfl rfl rfl rfl rfl hl.1 rfl rfl (Nat.le_of_ble_eq_true rfl) dX6_rest_54 ⟨Nat.zero_le _, Nat.zero_le _⟩ (fun H locs hP hS => ?_)
        refine lv_aload_n (pc := 57) hx hb dX6_rest_57 rfl (lv_at hl 0 rfl) ?_
        refine va_get (pc := 58) (D := E.1) (ci := 4) (v := .ref (a 13)) (C := RX6) (T := TX6) (N := 8) hx hb hts i_RX6 hown hK hP 0 rfl rfl 2 (Nat.le_of_ble_eq_true rfl) fl_19 (fun _ h9 => h9) rfl dX6_rest_58 ?_
        refine lv_iload_n (pc := 61) hx hb dX6_rest_61 rfl (lv_at hl 1 rfl) ?_
        obtain ⟨u_7, hu_7, hq⟩ := pv_bind hq
        refine pv_vRO (pc := 62) (rest := []) (st1 := [.int u_7]) (ws := pv_wX E a (u_5.1, u_5.2.1, u_6.1, u_6.2, u_5.2.2.2.2.1, u_5.2.2.2.2.2.1, u_5.2.2.2.2.2.2.1, u_5.2.2.2.2.2.2.2)) [.int x1] ⟨hx, hb, hml, hown, hts⟩ hE hA hS hP (hD (u_5.1, u_5.2.1, u_6.1, u_6.2, u_5.2.2.2.2.1, u_5.2.2.2.2.2.1, u_5.2.2.2.2.2.2.1, u_5.2.2.2.2.2.2.2)) (c_X4_owned l E (a 13) (a 14) (a 15) (a 16) (a 17) (a 18) x1 u_6.1 u_7 hu_7) (cwV 1 hts gX6_rest_X4_owned rfl rfl rfl (by decide +kernel) ⟨(Nat.le_of_ble_eq_true rfl), (Nat.le_of_ble_eq_true rfl)⟩) (va_recv hK hP (ci := 2) (q0 := 13) rfl rfl) [13, 14, 15, 16, 17, 18] rfl rfl rfl hl.1 rfl rfl (Nat.le_of_ble_eq_true rfl) dX6_rest_62 ⟨Nat.zero_le _, Nat.zero_le _⟩ (fun locs hS => ?_)
        refine lv_iload (pc := 65) hx hb dX6_rest_65 (lv_at hl 4 rfl) ?_
        refine lv_icmp_le (pc := 67) (tgt := 83) hx hb dX6_rest_67 (by decide) (fun c_8 => ?_) (fun c_8 => ?_)
        · have hq := pv_pos c_8 hq
          exact B_83 (m_X6_rest_32 n) ih x1 x2 x3 x4 x5 (u_5.1, u_5.2.1, u_6.1, u_6.2, u_5.2.2.2.2.1, u_5.2.2.2.2.2.1, u_5.2.2.2.2.2.2.1, u_5.2.2.2.2.2.2.2) H locs ls hP hS (lv_sub hl [0, 1, 2, 3, 4, 5] rfl) hq
        · have hq := pv_neg c_8 hq
          refine lv_aload_n (pc := 70) hx hb dX6_rest_70 rfl (lv_at hl 0 rfl) ?_
          refine va_get (pc := 71) (D := E.1) (ci := 4) (v := .ref (a 13)) (C := RX6) (T := TX6) (N := 8) hx hb hts i_RX6 hown hK hP 0 rfl rfl 2 (Nat.le_of_ble_eq_true rfl) fl_19 (fun _ h9 => h9) rfl dX6_rest_71 ?_
          refine lv_iload_n (pc := 74) hx hb dX6_rest_74 rfl (lv_at hl 1 rfl) ?_
          obtain ⟨u_9, hu_9, hq⟩ := pv_bind hq
          refine pv_vRO (pc := 75) (rest := []) (st1 := [.int u_9]) (ws := pv_wX E a (u_5.1, u_5.2.1, u_6.1, u_6.2, u_5.2.2.2.2.1, u_5.2.2.2.2.2.1, u_5.2.2.2.2.2.2.1, u_5.2.2.2.2.2.2.2)) [.int x1] ⟨hx, hb, hml, hown, hts⟩ hE hA hS hP (hD (u_5.1, u_5.2.1, u_6.1, u_6.2, u_5.2.2.2.2.1, u_5.2.2.2.2.2.1, u_5.2.2.2.2.2.2.1, u_5.2.2.2.2.2.2.2)) (c_X4_owned l E (a 13) (a 14) (a 15) (a 16) (a 17) (a 18) x1 u_6.1 u_9 hu_9) (cwV 1 hts gX6_rest_X4_owned rfl rfl rfl (by decide +kernel) ⟨(Nat.le_of_ble_eq_true rfl), (Nat.le_of_ble_eq_true rfl)⟩) (va_recv hK hP (ci := 2) (q0 := 13) rfl rfl) [13, 14, 15, 16, 17, 18] rfl rfl rfl hl.1 rfl rfl (Nat.le_of_ble_eq_true rfl) dX6_rest_75 ⟨Nat.zero_le _, Nat.zero_le _⟩ (fun locs hS => ?_)
          refine lv_istore (pc := 78) (lv' := [(4, .int u_9), (0, .ref (a 0)), (1, .int x1), (2, .int x2), (3, .int x3), (5, .int x5)]) hx hb dX6_rest_78 hl (Nat.le_of_ble_eq_true rfl) rfl (fun ls hl => ?_)
          refine lv_iload (pc := 80) hx hb dX6_rest_80 (lv_at hl 5 rfl) ?_
          refine lv_istore_n (pc := 82) (lv' := [(3, .int x5), (4, .int u_9), (0, .ref (a 0)), (1, .int x1), (2, .int x2), (5, .int x5)]) hx hb dX6_rest_82 rfl hl (Nat.le_of_ble_eq_true rfl) rfl (fun ls hl => ?_)
          exact B_83 (m_X6_rest_32 n) ih x1 x2 x5 u_9 x5 (u_5.1, u_5.2.1, u_6.1, u_6.2, u_5.2.2.2.2.1, u_5.2.2.2.2.2.1, u_5.2.2.2.2.2.2.1, u_5.2.2.2.2.2.2.2) H locs ls hP hS (lv_sub hl [2, 3, 4, 0, 1, 5] rfl) hq
  suffices M0 : ∀ (H : Heap) (locs : List Loc), va_P E.1 vwCl (pv_wX E a w0) H → va_S A s.heap H locs → W p l e r_X6_rest s m args below meth c H locs 0 0 (MQ below (pv_Rw E (pv_wX E a w0) sz (some (.int F.1)) ((fun w : pv_XT => pv_wX E a w) F.2)) args s 0 0 A) (F0 m 0 ls []) from M0 s.heap [] hP hS
  intro H locs hP hS
  refine lv_iload_n (pc := 0) hx hb dX6_rest_0 rfl (lv_at hl 1 rfl) ?_
  refine pv_sRO (pc := 1) (rest := []) (st1 := [.int (m_X6_isState x1)]) (ws := pv_wX E a w0) [.int x1] ⟨hx, hb, hml, hown, hts⟩ hE hA hS hP (hD w0) (c_X6_isState l E x1) (va_cwS 1 hts gX6_rest_X6_isState rfl rfl rfl (by decide +kernel) ⟨(Nat.le_of_ble_eq_true rfl), (Nat.le_of_ble_eq_true rfl)⟩) [] rfl rfl rfl hl.1 rfl rfl (Nat.le_of_ble_eq_true rfl) dX6_rest_1 ⟨Nat.zero_le _, Nat.zero_le _⟩ (fun locs hS => ?_)
  refine lv_if_eq (pc := 4) (tgt := 17) hx hb dX6_rest_4 (by decide) (fun c_1 => ?_) (fun c_1 => ?_)
  · have hq := pv_pos c_1 hq
    exact B_17 w0 H locs ls hP hS (lv_sub hl [0] rfl) hq
  · have hq := pv_neg c_1 hq
    refine lv_iload_n (pc := 7) hx hb dX6_rest_7 rfl (lv_at hl 2 rfl) ?_
    refine lv_iconst (pc := 8) (v := 1) hx hb dX6_rest_8 (by decide) ?_
    refine lv_bipush (pc := 9) (v := 30) hx hb dX6_rest_9 (by decide) ?_
    refine pv_sRO (pc := 11) (rest := []) (st1 := [.int (m_X6_isWithin x2 1 30)]) (ws := pv_wX E a w0) [.int x2, .int 1, .int 30] ⟨hx, hb, hml, hown, hts⟩ hE hA hS hP (hD w0) (c_X6_isWithin l E x2 1 30) (va_cwS 3 hts gX6_rest_X6_isWithin rfl rfl rfl (by decide +kernel) ⟨(Nat.le_of_ble_eq_true rfl), (Nat.le_of_ble_eq_true rfl)⟩) [] rfl rfl rfl hl.1 rfl rfl (Nat.le_of_ble_eq_true rfl) dX6_rest_11 ⟨Nat.zero_le _, Nat.zero_le _⟩ (fun locs hS => ?_)
    refine lv_if_ne (pc := 14) (tgt := 24) hx hb dX6_rest_14 (by decide) (fun c_3 => ?_) (fun c_3 => ?_)
    · have hq := pv_neg c_3 hq
      refine lv_iconst (pc := 24) (v := 0) hx hb dX6_rest_24 (by decide) ?_
      refine lv_istore_n (pc := 25) (lv' := [(3, .int 0), (0, .ref (a 0)), (1, .int x1), (2, .int x2)]) hx hb dX6_rest_25 rfl hl (Nat.le_of_ble_eq_true rfl) rfl (fun ls hl => ?_)
      refine lv_iconst (pc := 26) (v := (-1)) hx hb dX6_rest_26 (by decide) ?_
      refine lv_istore (pc := 27) (lv' := [(4, .int (-1)), (3, .int 0), (0, .ref (a 0)), (1, .int x1), (2, .int x2)]) hx hb dX6_rest_27 hl (Nat.le_of_ble_eq_true rfl) rfl (fun ls hl => ?_)
      refine lv_iconst (pc := 29) (v := 0) hx hb dX6_rest_29 (by decide) ?_
      refine lv_istore (pc := 30) (lv' := [(5, .int 0), (4, .int (-1)), (3, .int 0), (0, .ref (a 0)), (1, .int x1), (2, .int x2)]) hx hb dX6_rest_30 hl (Nat.le_of_ble_eq_true rfl) rfl (fun ls hl => ?_)
      exact L_32 300 x1 x2 0 (-1) 0 w0 H locs ls hP hS (lv_sub hl [3, 4, 5, 2, 1, 0] rfl) hq
    · have hq := pv_pos c_3 hq
      exact B_17 w0 H locs ls hP hS (lv_sub hl [0] rfl) hq
def m_X6_peace (x1 : Int32) (w : pv_XT) : Option (Int32 × pv_XT) :=
  if (m_X6_isWithin x1 1 40) = 0 then (Option.bind (m_X6_finding (-1000000001) w) fun u_3 => (some (u_3.1, u_3.2))) else (Option.bind (m_X6_bestMix (-1) x1 w) fun u_2 => (some (u_2.1, u_2.2)))
abbrev r_X6_peace : Room := { frames := 7, cells := 0, slots := 0, locals := 169 }
set_option maxHeartbeats 4000000 in
set_option maxRecDepth 100000 in
theorem c_X6_peace (l : Launch) (E : pv_E) (a : Nat → Nat) (x1 : Int32) (w0 : pv_XT) (F : Int32 × pv_XT) (hq : m_X6_peace x1 w0 = some F) : pv_RW l E yX6_peace wsX6_peace r_X6_peace (pv_wX E a w0) [.ref (a 0), .int x1] (some (.int F.1)) (pv_wX E a F.2) := by
  intro sz
  refine pv_mk (by decide) rfl (Nat.le_of_ble_eq_true rfl) ?_
  intro p e s m args below meth c A hx hb hr hml hown hts hlk hAe hP hD0 hA hE hS ls hl
  have hown : s.vm.findClass RX6 = some m.cls := hown
  have hK := hE.1
  have hD : ∀ w : pv_XT, va_D A (pv_wX E a w) := fun w => pv_Dm (ws := pv_wX E a w0) (ws' := pv_wX E a w) rfl hD0
  have hP : va_P E.1 vwCl (pv_wX E a w0) s.heap := hP
  have lc_51 : (Cond.constant RX6 51 (-1000000001)).before args s = true := hts _ (by decide +kernel)
  have hl : lv_has ls 2 [(0, .ref (a 0)), (1, .int x1)] := hl
  suffices M0 : ∀ (H : Heap) (locs : List Loc), va_P E.1 vwCl (pv_wX E a w0) H → va_S A s.heap H locs → W p l e r_X6_peace s m args below meth c H locs 0 0 (MQ below (pv_Rw E (pv_wX E a w0) sz (some (.int F.1)) ((fun w : pv_XT => pv_wX E a w) F.2)) args s 0 0 A) (F0 m 0 ls []) from M0 s.heap [] hP hS
  intro H locs hP hS
  refine lv_iload_n (pc := 0) hx hb dX6_peace_0 rfl (lv_at hl 1 rfl) ?_
  refine lv_iconst (pc := 1) (v := 1) hx hb dX6_peace_1 (by decide) ?_
  refine lv_bipush (pc := 2) (v := 40) hx hb dX6_peace_2 (by decide) ?_
  refine pv_sRO (pc := 4) (rest := []) (st1 := [.int (m_X6_isWithin x1 1 40)]) (ws := pv_wX E a w0) [.int x1, .int 1, .int 40] ⟨hx, hb, hml, hown, hts⟩ hE hA hS hP (hD w0) (c_X6_isWithin l E x1 1 40) (va_cwS 3 hts gX6_peace_X6_isWithin rfl rfl rfl (by decide +kernel) ⟨(Nat.le_of_ble_eq_true rfl), (Nat.le_of_ble_eq_true rfl)⟩) [] rfl rfl rfl hl.1 rfl rfl (Nat.le_of_ble_eq_true rfl) dX6_peace_4 ⟨Nat.zero_le _, Nat.zero_le _⟩ (fun locs hS => ?_)
  refine lv_if_ne (pc := 7) (tgt := 17) hx hb dX6_peace_7 (by decide) (fun c_1 => ?_) (fun c_1 => ?_)
  · have hq := pv_neg c_1 hq
    refine lv_aload_n (pc := 17) hx hb dX6_peace_17 rfl (lv_at hl 0 rfl) ?_
    refine lv_iconst (pc := 18) (v := (-1)) hx hb dX6_peace_18 (by decide) ?_
    refine lv_iload_n (pc := 19) hx hb dX6_peace_19 rfl (lv_at hl 1 rfl) ?_
    obtain ⟨u_2, hu_2, hq⟩ := pv_bind hq
    refine pv_vRWf (pc := 20) (rest := []) (st1 := [.int u_2.1]) (ws := pv_wX E a w0) [.int (-1), .int x1] ⟨hx, hb, hml, hown, hts⟩ hE hA hS hP (hD w0) (c_X6_bestMix l E a (-1) x1 w0 u_2 hu_2) (cwV 2 hts gX6_peace_X6_bestMix rfl rfl rfl (by decide +kernel) ⟨(Nat.le_of_ble_eq_true rfl), (Nat.le_of_ble_eq_true rfl)⟩) (va_recv hK hP (ci := 4) (q0 := 0) rfl rfl) rfl hl.1 rfl rfl (Nat.le_of_ble_eq_true rfl) dX6_peace_20 ⟨Nat.zero_le _, Nat.zero_le _⟩ (fun H locs hP hS => ?_)
    have hP : va_P E.1 vwCl (pv_wX E a u_2.2) H := hP
    exact pv_riRW (w := fun w : pv_XT => pv_wX E a w) hx hb hr hlk hAe hS hP (Option.some.inj hq) dX6_peace_23
  · have hq := pv_pos c_1 hq
    refine lv_aload_n (pc := 10) hx hb dX6_peace_10 rfl (lv_at hl 0 rfl) ?_
    refine lv_ldc (pc := 11) hx hb hown lc_51 dX6_peace_11 ?_
    obtain ⟨u_3, hu_3, hq⟩ := pv_bind hq
    refine pv_vRWf (pc := 13) (rest := []) (st1 := [.int u_3.1]) (ws := pv_wX E a w0) [.int (-1000000001)] ⟨hx, hb, hml, hown, hts⟩ hE hA hS hP (hD w0) (c_X6_finding l E a (-1000000001) w0 u_3 hu_3) (cwV 1 hts gX6_peace_X6_finding rfl rfl rfl (by decide +kernel) ⟨(Nat.le_of_ble_eq_true rfl), (Nat.le_of_ble_eq_true rfl)⟩) (va_recv hK hP (ci := 4) (q0 := 0) rfl rfl) rfl hl.1 rfl rfl (Nat.le_of_ble_eq_true rfl) dX6_peace_13 ⟨Nat.zero_le _, Nat.zero_le _⟩ (fun H locs hP hS => ?_)
    have hP : va_P E.1 vwCl (pv_wX E a u_3.2) H := hP
    exact pv_riRW (w := fun w : pv_XT => pv_wX E a w) hx hb hr hlk hAe hS hP (Option.some.inj hq) dX6_peace_16
def m_X6_champion_77 (k_43 : Int32 → Int32 → pv_XT → Option (Int32 × pv_XT)) (x2 : Int32) (x3 : Int32) (w : pv_XT) : Option (Int32 × pv_XT) :=
  k_43 x2 (x3 + 1) w
def m_X6_champion_43 : Nat → Int32 → Int32 → pv_XT → Option (Int32 × pv_XT)
  | 0 => fun _ _ _ => none
  | n + 1 => fun x2 x3 w =>
    if w.2.2.1.2.2.1 ≤ x3 then (some (x2, w)) else (pv_gd x3 8 (pv_gd x2 8 (if (w.2.2.1.2.2.2.2.2.2.2 x3.toNatClampNeg) ≤ (w.2.2.1.2.2.2.2.2.2.2 x2.toNatClampNeg) then (m_X6_champion_77 (m_X6_champion_43 n) x2 x3 w) else (m_X6_champion_77 (m_X6_champion_43 n) x3 x3 w))))
def m_X6_champion (x1 : Int32) (w : pv_XT) : Option (Int32 × pv_XT) :=
  if (m_X6_isWithin x1 0 100) = 0 then (Option.bind (m_X6_finding (-1000000001) w) fun u_9 => (some (u_9.1, u_9.2))) else (if w.1.2.2.1 = 0 then (Option.bind (m_X6_finding (-1000000004) w) fun u_8 => (some (u_8.1, u_8.2))) else (Option.bind (m_X6_lookAhead x1 w) fun u_3 => (m_X6_champion_43 300 0 1 u_3)))
abbrev r_X6_champion : Room := { frames := 7, cells := 0, slots := 0, locals := 165 }
set_option maxHeartbeats 4000000 in
set_option maxRecDepth 100000 in
theorem c_X6_champion (l : Launch) (E : pv_E) (a : Nat → Nat) (x1 : Int32) (w0 : pv_XT) (F : Int32 × pv_XT) (hq : m_X6_champion x1 w0 = some F) : pv_RW l E yX6_champion wsX6_champion r_X6_champion (pv_wX E a w0) [.ref (a 0), .int x1] (some (.int F.1)) (pv_wX E a F.2) := by
  intro sz
  refine pv_mk (by decide) rfl (Nat.le_of_ble_eq_true rfl) ?_
  intro p e s m args below meth c A hx hb hr hml hown hts hlk hAe hP hD0 hA hE hS ls hl
  have hown : s.vm.findClass RX6 = some m.cls := hown
  have hK := hE.1
  have hD : ∀ w : pv_XT, va_D A (pv_wX E a w) := fun w => pv_Dm (ws := pv_wX E a w0) (ws' := pv_wX E a w) rfl hD0
  have hP : va_P E.1 vwCl (pv_wX E a w0) s.heap := hP
  have fl_10 : (Cond.fieldLink RX6 10 "ProvinceCards" "table" "LProvinceCards$Table;").before args s = true := hts _ (by decide +kernel)
  have fl_102 : (Cond.fieldLink RX6 102 "ProvinceCards$Table" "envoys" "I").before args s = true := hts _ (by decide +kernel)
  have fl_19 : (Cond.fieldLink RX6 19 "ProvinceCards" "ahead" "LProvinceCards$Table;").before args s = true := hts _ (by decide +kernel)
  have fl_115 : (Cond.fieldLink RX6 115 "ProvinceCards$Table" "wins" "[I").before args s = true := hts _ (by decide +kernel)
  have lc_182 : (Cond.constant RX6 182 (-1000000004)).before args s = true := hts _ (by decide +kernel)
  have lc_51 : (Cond.constant RX6 51 (-1000000001)).before args s = true := hts _ (by decide +kernel)
  have i_RX6 : ∀ w ∈ wsX60, w ∈ wsX6_champion := by decide +kernel
  have i_RX4 : ∀ w ∈ wsX40, w ∈ wsX6_champion := by decide +kernel
  have hl : lv_has ls 4 [(0, .ref (a 0)), (1, .int x1)] := hl
  have B_77 : ∀ (k_43 : Int32 → Int32 → pv_XT → Option (Int32 × pv_XT)), (∀ (x2 : Int32) (x3 : Int32) (w : pv_XT) (H : Heap) (locs : List Loc) (ls : Array Slot), va_P E.1 vwCl (pv_wX E a w) H → va_S A s.heap H locs → lv_has ls 4 [(0, .ref (a 0)), (2, .int x2), (3, .int x3)] → k_43 x2 x3 w = some F → W p l e r_X6_champion s m args below meth c H locs 0 0 (MQ below (pv_Rw E (pv_wX E a w0) sz (some (.int F.1)) ((fun w : pv_XT => pv_wX E a w) F.2)) args s 0 0 A) (F0 m 43 ls [])) → ∀ (x2 : Int32) (x3 : Int32) (w : pv_XT) (H : Heap) (locs : List Loc) (ls : Array Slot), va_P E.1 vwCl (pv_wX E a w) H → va_S A s.heap H locs → lv_has ls 4 [(0, .ref (a 0)), (2, .int x2), (3, .int x3)] → m_X6_champion_77 k_43 x2 x3 w = some F → W p l e r_X6_champion s m args below meth c H locs 0 0 (MQ below (pv_Rw E (pv_wX E a w0) sz (some (.int F.1)) ((fun w : pv_XT => pv_wX E a w) F.2)) args s 0 0 A) (F0 m 77 ls []) := by
    intro k_43 hk_43
    intro x2 x3 w H locs ls hP hS hl hq
    refine lv_iinc (pc := 77) (v := (x3 + 1)) (lv' := [(3, .int (x3 + 1)), (0, .ref (a 0)), (2, .int x2)]) hx hb dX6_champion_77 hl (k := 2) rfl rfl (Nat.le_of_ble_eq_true rfl) rfl (fun ls hl => ?_)
    refine lv_goto (pc := 80) (tgt := 43) hx hb dX6_champion_80 (by decide) ?_
    exact hk_43 x2 (x3 + 1) w H locs ls hP hS (lv_sub hl [1, 2, 0] rfl) hq
  have L_43 : ∀ n : Nat, ∀ (x2 : Int32) (x3 : Int32) (w : pv_XT) (H : Heap) (locs : List Loc) (ls : Array Slot), va_P E.1 vwCl (pv_wX E a w) H → va_S A s.heap H locs → lv_has ls 4 [(0, .ref (a 0)), (2, .int x2), (3, .int x3)] → m_X6_champion_43 n x2 x3 w = some F → W p l e r_X6_champion s m args below meth c H locs 0 0 (MQ below (pv_Rw E (pv_wX E a w0) sz (some (.int F.1)) ((fun w : pv_XT => pv_wX E a w) F.2)) args s 0 0 A) (F0 m 43 ls []) := by
    intro n
    induction n with
    | zero =>
      intro x2 x3 w H locs ls hP hS hl hq
      exact (pv_no hq).elim
    | succ n ih =>
      intro x2 x3 w H locs ls hP hS hl hq
      refine lv_iload_n (pc := 43) hx hb dX6_champion_43 rfl (lv_at hl 2 rfl) ?_
      refine lv_aload_n (pc := 44) hx hb dX6_champion_44 rfl (lv_at hl 0 rfl) ?_
      refine va_get (pc := 45) (D := E.1) (ci := 4) (v := .ref (a 13)) (C := RX6) (T := TX6) (N := 8) hx hb hts i_RX6 hown hK hP 0 rfl rfl 2 (Nat.le_of_ble_eq_true rfl) fl_19 (fun _ h9 => h9) rfl dX6_champion_45 ?_
      refine va_get (pc := 48) (D := E.1) (ci := 2) (v := .int w.2.2.1.2.2.1) (C := RX4) (T := TX4) (N := 8) hx hb hts i_RX4 hown hK hP 13 rfl rfl 2 (Nat.le_of_ble_eq_true rfl) fl_102 (fun _ h9 => h9) rfl dX6_champion_48 ?_
      refine lv_icmp_ge (pc := 51) (tgt := 83) hx hb dX6_champion_51 (by decide) (fun c_4 => ?_) (fun c_4 => ?_)
      · have hq := pv_pos c_4 hq
        refine lv_iload_n (pc := 83) hx hb dX6_champion_83 rfl (lv_at hl 1 rfl) ?_
        exact pv_riRW (w := fun w : pv_XT => pv_wX E a w) hx hb hr hlk hAe hS hP (Option.some.inj hq) dX6_champion_84
      · have hq := pv_neg c_4 hq
        refine lv_aload_n (pc := 54) hx hb dX6_champion_54 rfl (lv_at hl 0 rfl) ?_
        refine va_get (pc := 55) (D := E.1) (ci := 4) (v := .ref (a 13)) (C := RX6) (T := TX6) (N := 8) hx hb hts i_RX6 hown hK hP 0 rfl rfl 2 (Nat.le_of_ble_eq_true rfl) fl_19 (fun _ h9 => h9) rfl dX6_champion_55 ?_
        refine va_get (pc := 58) (D := E.1) (ci := 2) (v := .ref (a 18)) (C := RX4) (T := TX4) (N := 8) hx hb hts i_RX4 hown hK hP 13 rfl rfl 7 (Nat.le_of_ble_eq_true rfl) fl_115 (fun _ h9 => h9) rfl dX6_champion_58 ?_
        refine lv_iload_n (pc := 61) hx hb dX6_champion_61 rfl (lv_at hl 2 rfl) ?_
        obtain ⟨h_5, hq⟩ := pv_gd_some hq
        refine va_iald (pc := 62) (D := E.1) hx hb hK hP 18 0 rfl rfl h_5 dX6_champion_62 ?_
        refine lv_aload_n (pc := 63) hx hb dX6_champion_63 rfl (lv_at hl 0 rfl) ?_
        refine va_get (pc := 64) (D := E.1) (ci := 4) (v := .ref (a 13)) (C := RX6) (T := TX6) (N := 8) hx hb hts i_RX6 hown hK hP 0 rfl rfl 2 (Nat.le_of_ble_eq_true rfl) fl_19 (fun _ h9 => h9) rfl dX6_champion_64 ?_
        refine va_get (pc := 67) (D := E.1) (ci := 2) (v := .ref (a 18)) (C := RX4) (T := TX4) (N := 8) hx hb hts i_RX4 hown hK hP 13 rfl rfl 7 (Nat.le_of_ble_eq_true rfl) fl_115 (fun _ h9 => h9) rfl dX6_champion_67 ?_
        refine lv_iload_n (pc := 70) hx hb dX6_champion_70 rfl (lv_at hl 1 rfl) ?_
        obtain ⟨h_6, hq⟩ := pv_gd_some hq
        refine va_iald (pc := 71) (D := E.1) hx hb hK hP 18 0 rfl rfl h_6 dX6_champion_71 ?_
        refine lv_icmp_le (pc := 72) (tgt := 77) hx hb dX6_champion_72 (by decide) (fun c_7 => ?_) (fun c_7 => ?_)
        · have hq := pv_pos c_7 hq
          exact B_77 (m_X6_champion_43 n) ih x2 x3 w H locs ls hP hS (lv_sub hl [0, 1, 2] rfl) hq
        · have hq := pv_neg c_7 hq
          refine lv_iload_n (pc := 75) hx hb dX6_champion_75 rfl (lv_at hl 2 rfl) ?_
          refine lv_istore_n (pc := 76) (lv' := [(2, .int x3), (0, .ref (a 0)), (3, .int x3)]) hx hb dX6_champion_76 rfl hl (Nat.le_of_ble_eq_true rfl) rfl (fun ls hl => ?_)
          exact B_77 (m_X6_champion_43 n) ih x3 x3 w H locs ls hP hS (lv_sub hl [1, 0, 2] rfl) hq
  suffices M0 : ∀ (H : Heap) (locs : List Loc), va_P E.1 vwCl (pv_wX E a w0) H → va_S A s.heap H locs → W p l e r_X6_champion s m args below meth c H locs 0 0 (MQ below (pv_Rw E (pv_wX E a w0) sz (some (.int F.1)) ((fun w : pv_XT => pv_wX E a w) F.2)) args s 0 0 A) (F0 m 0 ls []) from M0 s.heap [] hP hS
  intro H locs hP hS
  refine lv_iload_n (pc := 0) hx hb dX6_champion_0 rfl (lv_at hl 1 rfl) ?_
  refine lv_iconst (pc := 1) (v := 0) hx hb dX6_champion_1 (by decide) ?_
  refine lv_bipush (pc := 2) (v := 100) hx hb dX6_champion_2 (by decide) ?_
  refine pv_sRO (pc := 4) (rest := []) (st1 := [.int (m_X6_isWithin x1 0 100)]) (ws := pv_wX E a w0) [.int x1, .int 0, .int 100] ⟨hx, hb, hml, hown, hts⟩ hE hA hS hP (hD w0) (c_X6_isWithin l E x1 0 100) (va_cwS 3 hts gX6_champion_X6_isWithin rfl rfl rfl (by decide +kernel) ⟨(Nat.le_of_ble_eq_true rfl), (Nat.le_of_ble_eq_true rfl)⟩) [] rfl rfl rfl hl.1 rfl rfl (Nat.le_of_ble_eq_true rfl) dX6_champion_4 ⟨Nat.zero_le _, Nat.zero_le _⟩ (fun locs hS => ?_)
  refine lv_if_ne (pc := 7) (tgt := 17) hx hb dX6_champion_7 (by decide) (fun c_1 => ?_) (fun c_1 => ?_)
  · have hq := pv_neg c_1 hq
    refine lv_aload_n (pc := 17) hx hb dX6_champion_17 rfl (lv_at hl 0 rfl) ?_
    refine va_get (pc := 18) (D := E.1) (ci := 4) (v := .ref (a 1)) (C := RX6) (T := TX6) (N := 8) hx hb hts i_RX6 hown hK hP 0 rfl rfl 0 (Nat.le_of_ble_eq_true rfl) fl_10 (fun _ h9 => h9) rfl dX6_champion_18 ?_
    refine va_get (pc := 21) (D := E.1) (ci := 2) (v := .int w0.1.2.2.1) (C := RX4) (T := TX4) (N := 8) hx hb hts i_RX4 hown hK hP 1 rfl rfl 2 (Nat.le_of_ble_eq_true rfl) fl_102 (fun _ h9 => h9) rfl dX6_champion_21 ?_
    refine lv_if_ne (pc := 24) (tgt := 34) hx hb dX6_champion_24 (by decide) (fun c_2 => ?_) (fun c_2 => ?_)
    · have hq := pv_neg c_2 hq
      refine lv_aload_n (pc := 34) hx hb dX6_champion_34 rfl (lv_at hl 0 rfl) ?_
      refine lv_iload_n (pc := 35) hx hb dX6_champion_35 rfl (lv_at hl 1 rfl) ?_
      obtain ⟨u_3, hu_3, hq⟩ := pv_bind hq
      refine pv_vRWf (pc := 36) (rest := []) (st1 := []) (ws := pv_wX E a w0) [.int x1] ⟨hx, hb, hml, hown, hts⟩ hE hA hS hP (hD w0) (c_X6_lookAhead l E a x1 w0 u_3 hu_3) (cwV 1 hts gX6_champion_X6_lookAhead rfl rfl rfl (by decide +kernel) ⟨(Nat.le_of_ble_eq_true rfl), (Nat.le_of_ble_eq_true rfl)⟩) (va_recv hK hP (ci := 4) (q0 := 0) rfl rfl) rfl hl.1 rfl rfl (Nat.le_of_ble_eq_true rfl) dX6_champion_36 ⟨Nat.zero_le _, Nat.zero_le _⟩ (fun H locs hP hS => ?_)
      have hP : va_P E.1 vwCl (pv_wX E a u_3) H := hP
      refine lv_iconst (pc := 39) (v := 0) hx hb dX6_champion_39 (by decide) ?_
      refine lv_istore_n (pc := 40) (lv' := [(2, .int 0), (0, .ref (a 0)), (1, .int x1)]) hx hb dX6_champion_40 rfl hl (Nat.le_of_ble_eq_true rfl) rfl (fun ls hl => ?_)
      refine lv_iconst (pc := 41) (v := 1) hx hb dX6_champion_41 (by decide) ?_
      refine lv_istore_n (pc := 42) (lv' := [(3, .int 1), (2, .int 0), (0, .ref (a 0)), (1, .int x1)]) hx hb dX6_champion_42 rfl hl (Nat.le_of_ble_eq_true rfl) rfl (fun ls hl => ?_)
      exact L_43 300 0 1 u_3 H locs ls hP hS (lv_sub hl [2, 1, 0] rfl) hq
    · have hq := pv_pos c_2 hq
      refine lv_aload_n (pc := 27) hx hb dX6_champion_27 rfl (lv_at hl 0 rfl) ?_
      refine lv_ldc (pc := 28) hx hb hown lc_182 dX6_champion_28 ?_
      obtain ⟨u_8, hu_8, hq⟩ := pv_bind hq
      refine pv_vRWf (pc := 30) (rest := []) (st1 := [.int u_8.1]) (ws := pv_wX E a w0) [.int (-1000000004)] ⟨hx, hb, hml, hown, hts⟩ hE hA hS hP (hD w0) (c_X6_finding l E a (-1000000004) w0 u_8 hu_8) (cwV 1 hts gX6_champion_X6_finding rfl rfl rfl (by decide +kernel) ⟨(Nat.le_of_ble_eq_true rfl), (Nat.le_of_ble_eq_true rfl)⟩) (va_recv hK hP (ci := 4) (q0 := 0) rfl rfl) rfl hl.1 rfl rfl (Nat.le_of_ble_eq_true rfl) dX6_champion_30 ⟨Nat.zero_le _, Nat.zero_le _⟩ (fun H locs hP hS => ?_)
      have hP : va_P E.1 vwCl (pv_wX E a u_8.2) H := hP
      exact pv_riRW (w := fun w : pv_XT => pv_wX E a w) hx hb hr hlk hAe hS hP (Option.some.inj hq) dX6_champion_33
  · have hq := pv_pos c_1 hq
    refine lv_aload_n (pc := 10) hx hb dX6_champion_10 rfl (lv_at hl 0 rfl) ?_
    refine lv_ldc (pc := 11) hx hb hown lc_51 dX6_champion_11 ?_
    obtain ⟨u_9, hu_9, hq⟩ := pv_bind hq
    refine pv_vRWf (pc := 13) (rest := []) (st1 := [.int u_9.1]) (ws := pv_wX E a w0) [.int (-1000000001)] ⟨hx, hb, hml, hown, hts⟩ hE hA hS hP (hD w0) (c_X6_finding l E a (-1000000001) w0 u_9 hu_9) (cwV 1 hts gX6_champion_X6_finding rfl rfl rfl (by decide +kernel) ⟨(Nat.le_of_ble_eq_true rfl), (Nat.le_of_ble_eq_true rfl)⟩) (va_recv hK hP (ci := 4) (q0 := 0) rfl rfl) rfl hl.1 rfl rfl (Nat.le_of_ble_eq_true rfl) dX6_champion_13 ⟨Nat.zero_le _, Nat.zero_le _⟩ (fun H locs hP hS => ?_)
    have hP : va_P E.1 vwCl (pv_wX E a u_9.2) H := hP
    exact pv_riRW (w := fun w : pv_XT => pv_wX E a w) hx hb hr hlk hAe hS hP (Option.some.inj hq) dX6_champion_16
