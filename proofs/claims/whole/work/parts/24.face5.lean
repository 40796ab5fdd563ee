def m_X6_sheet_29  (w : pv_XT) : Option (Int32 × pv_XT) :=
  Option.bind (m_X6_finding (-1000000001) w) fun u_2 => (some (u_2.1, u_2.2))
def m_X6_sheet_36 (x1 : Int32) (x2 : Int32) (x3 : Int32) (w : pv_XT) : Option (Int32 × pv_XT) :=
  if 0 ≤ x3 then (if x3 ≤ 40 then (pv_gd x1 4 (Option.bind (m_X3_shape x2 x3 (w.2.2.2.2.2.1 x1.toNatClampNeg)) fun u_7 => (pv_gd x1 4 (some ((((va_up w.2.2.2.2.2.1 x1.toNatClampNeg u_7) x1.toNatClampNeg).2.1), (w.1, w.2.1, w.2.2.1, w.2.2.2.1, w.2.2.2.2.1, (va_up w.2.2.2.2.2.1 x1.toNatClampNeg u_7), w.2.2.2.2.2.2.1, w.2.2.2.2.2.2.2)))))) else (Option.bind (m_X6_finding (-1000000001) w) fun u_9 => (some (u_9.1, u_9.2)))) else (Option.bind (m_X6_finding (-1000000007) w) fun u_10 => (some (u_10.1, u_10.2)))
def m_X6_sheet (x1 : Int32) (x2 : Int32) (x3 : Int32) (w : pv_XT) : Option (Int32 × pv_XT) :=
  if (m_X6_isSheet x1) = 0 then (m_X6_sheet_29 w) else (if x2 = 0 then (m_X6_sheet_36 x1 x2 x3 w) else (if x2 = 8 then (m_X6_sheet_36 x1 x2 x3 w) else (if x2 = 16 then (m_X6_sheet_36 x1 x2 x3 w) else (if x2 = 64 then (m_X6_sheet_36 x1 x2 x3 w) else (m_X6_sheet_29 w)))))
abbrev r_X6_sheet : Room := { frames := 2, cells := 0, slots := 0, locals := 46 }
set_option maxHeartbeats 4000000 in
set_option maxRecDepth 100000 in
theorem c_X6_sheet (l : Launch) (E : pv_E) (a : Nat → Nat) (x1 : Int32) (x2 : Int32) (x3 : Int32) (w0 : pv_XT) (F : Int32 × pv_XT) (hq : m_X6_sheet x1 x2 x3 w0 = some F) : pv_RW l E yX6_sheet wsX6_sheet r_X6_sheet (pv_wX E a w0) [.ref (a 0), .int x1, .int x2, .int x3] (some (.int F.1)) (pv_wX E a F.2) := by
  intro sz
  refine pv_mk (by decide) rfl (Nat.le_of_ble_eq_true rfl) ?_
  intro p e s m args below meth c A hx hb hr hml hown hts hlk hAe hP hD0 hA hE hS ls hl
  have hown : s.vm.findClass RX6 = some m.cls := hown
  have hK := hE.1
  have hD : ∀ w : pv_XT, va_D A (pv_wX E a w) := fun w => pv_Dm (ws := pv_wX E a w0) (ws' := pv_wX E a w) rfl hD0
  have hP : va_P E.1 vwCl (pv_wX E a w0) s.heap := hP
  have lc_51 : (Cond.constant RX6 51 (-1000000001)).before args s = true := hts _ (by decide +kernel)
  have fl_38 : (Cond.fieldLink RX6 38 "ProvinceCards" "sheets" "[LProvinceCards$Sheet;").before args s = true := hts _ (by decide +kernel)
  have fl_208 : (Cond.fieldLink RX6 208 "ProvinceCards$Sheet" "size" "I").before args s = true := hts _ (by decide +kernel)
  have lc_203 : (Cond.constant RX6 203 (-1000000007)).before args s = true := hts _ (by decide +kernel)
  have i_RX6 : ∀ w ∈ wsX60, w ∈ wsX6_sheet := by decide +kernel
  have i_RX3 : ∀ w ∈ wsX30, w ∈ wsX6_sheet := by decide +kernel
  have hl : lv_has ls 4 [(0, .ref (a 0)), (1, .int x1), (2, .int x2), (3, .int x3)] := hl
  have B_29 : ∀  (w : pv_XT) (H : Heap) (locs : List Loc) (ls : Array Slot), va_P E.1 vwCl (pv_wX E a w) H → va_S A s.heap H locs → lv_has ls 4 [(0, .ref (a 0))] → m_X6_sheet_29 w = some F → W p l e r_X6_sheet s m args below meth c H locs 0 0 (MQ below (pv_Rw E (pv_wX E a w0) sz (some (.int F.1)) ((fun w : pv_XT => pv_wX E a w) F.2)) args s 0 0 A) (F0 m 29 ls []) := by
    intro w H locs ls hP hS hl hq
    refine lv_aload_n (pc := 29) hx hb dX6_sheet_29 rfl (lv_at hl 0 rfl) ?_
    refine lv_ldc (pc := 30) hx hb hown lc_51 dX6_sheet_30 ?_
    obtain ⟨u_2, hu_2, hq⟩ := pv_bind hq
    refine pv_vRWf (pc := 32) (rest := []) (st1 := [.int u_2.1]) (ws := pv_wX E a w) [.int (-1000000001)] ⟨hx, hb, hml, hown, hts⟩ hE hA hS hP (hD w) (c_X6_finding l E a (-1000000001) w u_2 hu_2) (cwV 1 hts gX6_sheet_X6_finding rfl rfl rfl (by decide +kernel) ⟨(Nat.le_of_ble_eq_true rfl), (Nat.le_of_ble_eq_true rfl)⟩) (va_recv hK hP (ci := 4) (q0 := 0) rfl rfl) rfl hl.1 rfl rfl (Nat.le_of_ble_eq_true rfl) dX6_sheet_32 ⟨Nat.zero_le _, Nat.zero_le _⟩ (fun H locs hP hS => ?_)
    have hP : va_P E.1 vwCl (pv_wX E a u_2.2) H := hP
    exact pv_riRW (w := fun w : pv_XT => pv_wX E a w) hx hb hr hlk hAe hS hP (Option.some.inj hq) dX6_sheet_35
  have B_36 : ∀ (x1 : Int32) (x2 : Int32) (x3 : Int32) (w : pv_XT) (H : Heap) (locs : List Loc) (ls : Array Slot), va_P E.1 vwCl (pv_wX E a w) H → va_S A s.heap H locs → lv_has ls 4 [(0, .ref (a 0)), (1, .int x1), (2, .int x2), (3, .int x3)] → m_X6_sheet_36 x1 x2 x3 w = some F → W p l e r_X6_sheet s m args below meth c H locs 0 0 (MQ below (pv_Rw E (pv_wX E a w0) sz (some (.int F.1)) ((fun w : pv_XT => pv_wX E a w) F.2)) args s 0 0 A) (F0 m 36 ls []) := by
    intro x1 x2 x3 w H locs ls hP hS hl hq
    refine lv_iload_n (pc := 36) hx hb dX6_sheet_36 rfl (lv_at hl 3 rfl) ?_
    refine lv_if_ge (pc := 37) (tgt := 47) hx hb dX6_sheet_37 (by decide) (fun c_4 => ?_) (fun c_4 => ?_)
    · have hq := pv_pos c_4 hq
      refine lv_iload_n (pc := 47) hx hb dX6_sheet_47 rfl (lv_at hl 3 rfl) ?_
      refine lv_bipush (pc := 48) (v := 40) hx hb dX6_sheet_48 (by decide) ?_
      refine lv_icmp_le (pc := 50) (tgt := 60) hx hb dX6_sheet_50 (by decide) (fun c_5 => ?_) (fun c_5 => ?_)
      · have hq := pv_pos c_5 hq
        refine lv_aload_n (pc := 60) hx hb dX6_sheet_60 rfl (lv_at hl 0 rfl) ?_
        refine va_get (pc := 61) (D := E.1) (ci := 4) (v := .ref (a 27)) (C := RX6) (T := TX6) (N := 8) hx hb hts i_RX6 hown hK hP 0 rfl rfl 5 (Nat.le_of_ble_eq_true rfl) fl_38 (fun _ h9 => h9) rfl dX6_sheet_61 ?_
        refine lv_iload_n (pc := 64) hx hb dX6_sheet_64 rfl (lv_at hl 1 rfl) ?_
        obtain ⟨h_6, hq⟩ := pv_gd_some hq
        rcases pv_sh4 h_6 with rfl | rfl | rfl | rfl
        · rw [pv_cl0] at hq
          have hl : lv_has ls 4 [(0, .ref (a 0)), (1, .int 0), (2, .int x2), (3, .int x3)] := hl
          refine va_aldq (pc := 65) (D := E.1) hx hb hK hP 27 2 rfl rfl h_6 dX6_sheet_65 ?_
          refine W.eq (g2 := F0 m 66 ls [.ref (a 28)]) rfl ?_
          refine lv_iload_n (pc := 66) hx hb dX6_sheet_66 rfl (lv_at hl 2 rfl) ?_
          refine lv_iload_n (pc := 67) hx hb dX6_sheet_67 rfl (lv_at hl 3 rfl) ?_
          obtain ⟨u_7, hu_7, hq⟩ := pv_bind hq
          refine pv_vRW (pc := 68) (rest := []) (st1 := []) (ws := pv_wX E a w) (ws' := pv_wX E a (w.1, w.2.1, w.2.2.1, w.2.2.2.1, w.2.2.2.2.1, (va_up w.2.2.2.2.2.1 0 u_7), w.2.2.2.2.2.2.1, w.2.2.2.2.2.2.2)) [.int x2, .int x3] ⟨hx, hb, hml, hown, hts⟩ hE hA hS hP (hD w) (c_X3_shape l E (a 28) (a 29) x2 x3 (w.2.2.2.2.2.1 0) u_7 hu_7) (cwV 2 hts gX6_sheet_X3_shape rfl rfl rfl (by decide +kernel) ⟨(Nat.le_of_ble_eq_true rfl), (Nat.le_of_ble_eq_true rfl)⟩) (va_recv hK hP (ci := 1) (q0 := 28) rfl rfl) [28, 29] rfl rfl rfl rfl rfl hl.1 rfl rfl (Nat.le_of_ble_eq_true rfl) dX6_sheet_68 ⟨Nat.zero_le _, Nat.zero_le _⟩ (fun H locs hP hS => ?_)
          refine lv_aload_n (pc := 71) hx hb dX6_sheet_71 rfl (lv_at hl 0 rfl) ?_
          refine va_get (pc := 72) (D := E.1) (ci := 4) (v := .ref (a 27)) (C := RX6) (T := TX6) (N := 8) hx hb hts i_RX6 hown hK hP 0 rfl rfl 5 (Nat.le_of_ble_eq_true rfl) fl_38 (fun _ h9 => h9) rfl dX6_sheet_72 ?_
          refine lv_iload_n (pc := 75) hx hb dX6_sheet_75 rfl (lv_at hl 1 rfl) ?_
          obtain ⟨h_8, hq⟩ := pv_gd_some hq
          refine va_aldq (pc := 76) (D := E.1) hx hb hK hP 27 2 rfl rfl h_8 dX6_sheet_76 ?_
          refine W.eq (g2 := F0 m 77 ls [.ref (a 28)]) rfl ?_
          refine va_get (pc := 77) (D := E.1) (ci := 1) (v := .int u_7.2.1) (C := RX3) (T := TX3) (N := 3) hx hb hts i_RX3 hown hK hP 28 rfl rfl 2 (Nat.le_of_ble_eq_true rfl) fl_208 (fun _ h9 => h9) rfl dX6_sheet_77 ?_
          exact pv_riRW (w := fun w : pv_XT => pv_wX E a w) hx hb hr hlk hAe hS hP (Option.some.inj hq) dX6_sheet_80
        · rw [pv_cl1] at hq
          have hl : lv_has ls 4 [(0, .ref (a 0)), (1, .int 1), (2, .int x2), (3, .int x3)] := hl
          refine va_aldq (pc := 65) (D := E.1) hx hb hK hP 27 2 rfl rfl h_6 dX6_sheet_65 ?_
          refine W.eq (g2 := F0 m 66 ls [.ref (a 30)]) rfl ?_
          refine lv_iload_n (pc := 66) hx hb dX6_sheet_66 rfl (lv_at hl 2 rfl) ?_
          refine lv_iload_n (pc := 67) hx hb dX6_sheet_67 rfl (lv_at hl 3 rfl) ?_
          obtain ⟨u_9, hu_9, hq⟩ := pv_bind hq
          refine pv_vRW (pc := 68) (rest := []) (st1 := []) (ws := pv_wX E a w) (ws' := pv_wX E a (w.1, w.2.1, w.2.2.1, w.2.2.2.1, w.2.2.2.2.1, (va_up w.2.2.2.2.2.1 1 u_9), w.2.2.2.2.2.2.1, w.2.2.2.2.2.2.2)) [.int x2, .int x3] ⟨hx, hb, hml, hown, hts⟩ hE hA hS hP (hD w) (c_X3_shape l E (a 30) (a 31) x2 x3 (w.2.2.2.2.2.1 1) u_9 hu_9) (cwV 2 hts gX6_sheet_X3_shape rfl rfl rfl (by decide +kernel) ⟨(Nat.le_of_ble_eq_true rfl), (Nat.le_of_ble_eq_true rfl)⟩) (va_recv hK hP (ci := 1) (q0 := 30) rfl rfl) [30, 31] rfl rfl rfl rfl rfl hl.1 rfl rfl (Nat.le_of_ble_eq_true rfl) dX6_sheet_68 ⟨Nat.zero_le _, Nat.zero_le _⟩ (fun H locs hP hS => ?_)
          refine lv_aload_n (pc := 71) hx hb dX6_sheet_71 rfl (lv_at hl 0 rfl) ?_
          refine va_get (pc := 72) (D := E.1) (ci := 4) (v := .ref (a 27)) (C := RX6) (T := TX6) (N := 8) hx hb hts i_RX6 hown hK hP 0 rfl rfl 5 (Nat.le_of_ble_eq_true rfl) fl_38 (fun _ h9 => h9) rfl dX6_sheet_72 ?_
          refine lv_iload_n (pc := 75) hx hb dX6_sheet_75 rfl (lv_at hl 1 rfl) ?_
          obtain ⟨h_10, hq⟩ := pv_gd_some hq
          refine va_aldq (pc := 76) (D := E.1) hx hb hK hP 27 2 rfl rfl h_10 dX6_sheet_76 ?_
          refine W.eq (g2 := F0 m 77 ls [.ref (a 30)]) rfl ?_
          refine va_get (pc := 77) (D := E.1) (ci := 1) (v := .int u_9.2.1) (C := RX3) (T := TX3) (N := 3) hx hb hts i_RX3 hown hK hP 30 rfl rfl 2 (Nat.le_of_ble_eq_true rfl) fl_208 (fun _ h9 => h9) rfl dX6_sheet_77 ?_
          exact pv_riRW (w := fun w : pv_XT => pv_wX E a w) hx hb hr hlk hAe hS hP (Option.some.inj hq) dX6_sheet_80
        · rw [pv_cl2] at hq
          have hl : lv_has ls 4 [(0, .ref (a 0)), (1, .int 2), (2, .int x2), (3, .int x3)] := hl
          refine va_aldq (pc := 65) (D := E.1) hx hb hK hP 27 2 rfl rfl h_6 dX6_sheet_65 ?_
          refine W.eq (g2 := F0 m 66 ls [.ref (a 32)]) rfl ?_
          refine lv_iload_n (pc := 66) hx hb dX6_sheet_66 rfl (lv_at hl 2 rfl) ?_
          refine lv_iload_n (pc := 67) hx hb dX6_sheet_67 rfl (lv_at hl 3 rfl) ?_
          obtain ⟨u_11, hu_11, hq⟩ := pv_bind hq
          refine pv_vRW (pc := 68) (rest := []) (st1 := []) (ws := pv_wX E a w) (ws' := pv_wX E a (w.1, w.2.1, w.2.2.1, w.2.2.2.1, w.2.2.2.2.1, (va_up w.2.2.2.2.2.1 2 u_11), w.2.2.2.2.2.2.1, w.2.2.2.2.2.2.2)) [.int x2, .int x3] ⟨hx, hb, hml, hown, hts⟩ hE hA hS hP (hD w) (c_X3_shape l E (a 32) (a 33) x2 x3 (w.2.2.2.2.2.1 2) u_11 hu_11) (cwV 2 hts gX6_sheet_X3_shape rfl rfl rfl (by decide +kernel) ⟨(Nat.le_of_ble_eq_true rfl), (Nat.le_of_ble_eq_true rfl)⟩) (va_recv hK hP (ci := 1) (q0 := 32) rfl rfl) [32, 33] rfl rfl rfl rfl rfl hl.1 rfl rfl (Nat.le_of_ble_eq_true rfl) dX6_sheet_68 ⟨Nat.zero_le _, Nat.zero_le _⟩ (fun H locs hP hS => ?_)
          refine lv_aload_n (pc := 71) hx hb dX6_sheet_71 rfl (lv_at hl 0 rfl) ?_
          refine va_get (pc := 72) (D := E.1) (ci := 4) (v := .ref (a 27)) (C := RX6) (T := TX6) (N := 8) hx hb hts i_RX6 hown hK hP 0 rfl rfl 5 (Nat.le_of_ble_eq_true rfl) fl_38 (fun _ h9 => h9) rfl dX6_sheet_72 ?_
          refine lv_iload_n (pc := 75) hx hb dX6_sheet_75 rfl (lv_at hl 1 rfl) ?_
          obtain ⟨h_12, hq⟩ := pv_gd_some hq
          refine va_aldq (pc := 76) (D := E.1) hx hb hK hP 27 2 rfl rfl h_12 dX6_sheet_76 ?_
          refine W.eq (g2 := F0 m 77 ls [.ref (a 32)]) rfl ?_
          refine va_get (pc := 77) (D := E.1) (ci := 1) (v := .int u_11.2.1) (C := RX3) (T := TX3) (N := 3) hx hb hts i_RX3 hown hK hP 32 rfl rfl 2 (Nat.le_of_ble_eq_true rfl) fl_208 (fun _ h9 => h9) rfl dX6_sheet_77 ?_
          exact pv_riRW (w := fun w : pv_XT => pv_wX E a w) hx hb hr hlk hAe hS hP (Option.some.inj hq) dX6_sheet_80
        · rw [pv_cl3] at hq
          have hl : lv_has ls 4 [(0, .ref (a 0)), (1, .int 3), (2, .int x2), (3, .int x3)] := hl
          refine va_aldq (pc := 65) (D := E.1) hx hb hK hP 27 2 rfl rfl h_6 dX6_sheet_65 ?_
          refine W.eq (g2 := F0 m 66 ls [.ref (a 34)]) rfl ?_
          refine lv_iload_n (pc := 66) hx hb dX6_sheet_66 rfl (lv_at hl 2 rfl) ?_
          refine lv_iload_n (pc := 67) hx hb dX6_sheet_67 rfl (lv_at hl 3 rfl) ?_
          obtain ⟨u_13, hu_13, hq⟩ := pv_bind hq
          refine pv_vRW (pc := 68) (rest := []) (st1 := []) (ws := pv_wX E a w) (ws' := pv_wX E a (w.1, w.2.1, w.2.2.1, w.2.2.2.1, w.2.2.2.2.1, (va_up w.2.2.2.2.2.1 3 u_13), w.2.2.2.2.2.2.1, w.2.2.2.2.2.2.2)) [.int x2, .int x3] ⟨hx, hb, hml, hown, hts⟩ hE hA hS hP (hD w) (c_X3_shape l E (a 34) (a 35) x2 x3 (w.2.2.2.2.2.1 3) u_13 hu_13) (cwV 2 hts gX6_sheet_X3_shape rfl rfl rfl (by decide +kernel) ⟨(Nat.le_of_ble_eq_true rfl), (Nat.le_of_ble_eq_true rfl)⟩) (va_recv hK hP (ci := 1) (q0 := 34) rfl rfl) [34, 35] rfl rfl rfl rfl rfl hl.1 rfl rfl (Nat.le_of_ble_eq_true rfl) dX6_sheet_68 ⟨Nat.zero_le _, Nat.zero_le _⟩ (fun H locs hP hS => ?_)
          refine lv_aload_n (pc := 71) hx hb dX6_sheet_71 rfl (lv_at hl 0 rfl) ?_
          refine va_get (pc := 72) (D := E.1) (ci := 4) (v := .ref (a 27)) (C := RX6) (T := TX6) (N := 8) hx hb hts i_RX6 hown hK hP 0 rfl rfl 5 (Nat.le_of_ble_eq_true rfl) fl_38 (fun _ h9 => h9) rfl dX6_sheet_72 ?_
          refine lv_iload_n (pc := 75) hx hb dX6_sheet_75 rfl (lv_at hl 1 rfl) ?_
          obtain ⟨h_14, hq⟩ := pv_gd_some hq
          refine va_aldq (pc := 76) (D := E.1) hx hb hK hP 27 2 rfl rfl h_14 dX6_sheet_76 ?_
          refine W.eq (g2 := F0 m 77 ls [.ref (a 34)]) rfl ?_
          refine va_get (pc := 77) (D := E.1) (ci := 1) (v := .int u_13.2.1) (C := RX3) (T := TX3) (N := 3) hx hb hts i_RX3 hown hK hP 34 rfl rfl 2 (Nat.le_of_ble_eq_true rfl) fl_208 (fun _ h9 => h9) rfl dX6_sheet_77 ?_
          exact pv_riRW (w := fun w : pv_XT => pv_wX E a w) hx hb hr hlk hAe hS hP (Option.some.inj hq) dX6_sheet_80
      · have hq := pv_neg c_5 hq
        refine lv_aload_n (pc := 53) hx hb dX6_sheet_53 rfl (lv_at hl 0 rfl) ?_
        refine lv_ldc (pc := 54) hx hb hown lc_51 dX6_sheet_54 ?_
        obtain ⟨u_15, hu_15, hq⟩ := pv_bind hq
        refine pv_vRWf (pc := 56) (rest := []) (st1 := [.int u_15.1]) (ws := pv_wX E a w) [.int (-1000000001)] ⟨hx, hb, hml, hown, hts⟩ hE hA hS hP (hD w) (c_X6_finding l E a (-1000000001) w u_15 hu_15) (cwV 1 hts gX6_sheet_X6_finding rfl rfl rfl (by decide +kernel) ⟨(Nat.le_of_ble_eq_true rfl), (Nat.le_of_ble_eq_true rfl)⟩) (va_recv hK hP (ci := 4) (q0 := 0) rfl rfl) rfl hl.1 rfl rfl (Nat.le_of_ble_eq_true rfl) dX6_sheet_56 ⟨Nat.zero_le _, Nat.zero_le _⟩ (fun H locs hP hS => ?_)
        have hP : va_P E.1 vwCl (pv_wX E a u_15.2) H := hP
        exact pv_riRW (w := fun w : pv_XT => pv_wX E a w) hx hb hr hlk hAe hS hP (Option.some.inj hq) dX6_sheet_59
    · have hq := pv_neg c_4 hq
      refine lv_aload_n (pc := 40) hx hb dX6_sheet_40 rfl (lv_at hl 0 rfl) ?_
      refine lv_ldc (pc := 41) hx hb hown lc_203 dX6_sheet_41 ?_
      obtain ⟨u_16, hu_16, hq⟩ := pv_bind hq
      refine pv_vRWf (pc := 43) (rest := []) (st1 := [.int u_16.1]) (ws := pv_wX E a w) [.int (-1000000007)] ⟨hx, hb, hml, hown, hts⟩ hE hA hS hP (hD w) (c_X6_finding l E a (-1000000007) w u_16 hu_16) (cwV 1 hts gX6_sheet_X6_finding rfl rfl rfl (by decide +kernel) ⟨(Nat.le_of_ble_eq_true rfl), (Nat.le_of_ble_eq_true rfl)⟩) (va_recv hK hP (ci := 4) (q0 := 0) rfl rfl) rfl hl.1 rfl rfl (Nat.le_of_ble_eq_true rfl) dX6_sheet_43 ⟨Nat.zero_le _, Nat.zero_le _⟩ (fun H locs hP hS => ?_)
      have hP : va_P E.1 vwCl (pv_wX E a u_16.2) H := hP
      exact pv_riRW (w := fun w : pv_XT => pv_wX E a w) hx hb hr hlk hAe hS hP (Option.some.inj hq) dX6_sheet_46
  suffices M0 : ∀ (H : Heap) (locs : List Loc), va_P E.1 vwCl (pv_wX E a w0) H → va_S A s.heap H locs → W p l e r_X6_sheet s m args below meth c H locs 0 0 (MQ below (pv_Rw E (pv_wX E a w0) sz (some (.int F.1)) ((fun w : pv_XT => pv_wX E a w) F.2)) args s 0 0 A) (F0 m 0 ls []) from M0 s.heap [] hP hS
  intro H locs hP hS
  refine lv_iload_n (pc := 0) hx hb dX6_sheet_0 rfl (lv_at hl 1 rfl) ?_
  refine pv_sRO (pc := 1) (rest := []) (st1 := [.int (m_X6_isSheet x1)]) (ws := pv_wX E a w0) [.int x1] ⟨hx, hb, hml, hown, hts⟩ hE hA hS hP (hD w0) (c_X6_isSheet l E x1) (va_cwS 1 hts gX6_sheet_X6_isSheet rfl rfl rfl (by decide +kernel) ⟨(Nat.le_of_ble_eq_true rfl), (Nat.le_of_ble_eq_true rfl)⟩) [] rfl rfl rfl hl.1 rfl rfl (Nat.le_of_ble_eq_true rfl) dX6_sheet_1 ⟨Nat.zero_le _, Nat.zero_le _⟩ (fun locs hS => ?_)
  refine lv_if_eq (pc := 4) (tgt := 29) hx hb dX6_sheet_4 (by decide) (fun c_1 => ?_) (fun c_1 => ?_)
  · have hq := pv_pos c_1 hq
    exact B_29 w0 H locs ls hP hS (lv_sub hl [0] rfl) hq
  · have hq := pv_neg c_1 hq
    refine lv_iload_n (pc := 7) hx hb dX6_sheet_7 rfl (lv_at hl 2 rfl) ?_
    refine lv_if_eq (pc := 8) (tgt := 36) hx hb dX6_sheet_8 (by decide) (fun c_3 => ?_) (fun c_3 => ?_)
    · have hq := pv_pos c_3 hq
      exact B_36 x1 x2 x3 w0 H locs ls hP hS (lv_sub hl [0, 1, 2, 3] rfl) hq
    · have hq := pv_neg c_3 hq
      refine lv_iload_n (pc := 11) hx hb dX6_sheet_11 rfl (lv_at hl 2 rfl) ?_
      refine lv_bipush (pc := 12) (v := 8) hx hb dX6_sheet_12 (by decide) ?_
      refine lv_icmp_eq (pc := 14) (tgt := 36) hx hb dX6_sheet_14 (by decide) (fun c_17 => ?_) (fun c_17 => ?_)
      · have hq := pv_pos c_17 hq
        exact B_36 x1 x2 x3 w0 H locs ls hP hS (lv_sub hl [0, 1, 2, 3] rfl) hq
      · have hq := pv_neg c_17 hq
        refine lv_iload_n (pc := 17) hx hb dX6_sheet_17 rfl (lv_at hl 2 rfl) ?_
        refine lv_bipush (pc := 18) (v := 16) hx hb dX6_sheet_18 (by decide) ?_
        refine lv_icmp_eq (pc := 20) (tgt := 36) hx hb dX6_sheet_20 (by decide) (fun c_18 => ?_) (fun c_18 => ?_)
        · have hq := pv_pos c_18 hq
          exact B_36 x1 x2 x3 w0 H locs ls hP hS (lv_sub hl [0, 1, 2, 3] rfl) hq
        · have hq := pv_neg c_18 hq
          refine lv_iload_n (pc := 23) hx hb dX6_sheet_23 rfl (lv_at hl 2 rfl) ?_
          refine lv_bipush (pc := 24) (v := 64) hx hb dX6_sheet_24 (by decide) ?_
          refine lv_icmp_eq (pc := 26) (tgt := 36) hx hb dX6_sheet_26 (by decide) (fun c_19 => ?_) (fun c_19 => ?_)
          · have hq := pv_pos c_19 hq
            exact B_36 x1 x2 x3 w0 H locs ls hP hS (lv_sub hl [0, 1, 2, 3] rfl) hq
          · have hq := pv_neg c_19 hq
            exact B_29 w0 H locs ls hP hS (lv_sub hl [0] rfl) hq
def m_X6_write (x1 : Int32) (x2 : Int32) (x3 : Int64) (w : pv_XT) : Option (Int64 × pv_XT) :=
  Option.bind (m_X6_unfitSheet x1 w) fun u_1 => (if u_1 = 0 then (pv_gd x1 4 (if (m_X6_isWithin x2 0 (((w.2.2.2.2.2.1 x1.toNatClampNeg).2.1) - 1)) = 0 then (Option.bind (m_X6_finding (-1000000001) w) fun u_9 => (some (u_9.1.toInt64, u_9.2))) else (pv_gd x1 4 (pv_gd x2 40 (pv_gd x1 4 (Option.bind (m_X3_put x2 x3 (w.2.2.2.2.2.1 x1.toNatClampNeg)) fun u_8 => (some (((w.2.2.2.2.2.1 x1.toNatClampNeg).2.2 x2.toNatClampNeg), (w.1, w.2.1, w.2.2.1, w.2.2.2.1, w.2.2.2.2.1, (va_up w.2.2.2.2.2.1 x1.toNatClampNeg u_8), w.2.2.2.2.2.2.1, w.2.2.2.2.2.2.2))))))))) else (Option.bind (m_X6_finding u_1 w) fun u_10 => (some (u_10.1.toInt64, u_10.2))))
abbrev r_X6_write : Room := { frames := 2, cells := 0, slots := 0, locals := 41 }
set_option maxHeartbeats 4000000 in
set_option maxRecDepth 100000 in
theorem c_X6_write (l : Launch) (E : pv_E) (a : Nat → Nat) (x1 : Int32) (x2 : Int32) (x3 : Int64) (w0 : pv_XT) (F : Int64 × pv_XT) (hq : m_X6_write x1 x2 x3 w0 = some F) : pv_RW l E yX6_write wsX6_write r_X6_write (pv_wX E a w0) [.ref (a 0), .int x1, .int x2, .long x3] (some (.long F.1)) (pv_wX E a F.2) := by
  intro sz
  refine pv_mk (by decide) rfl (Nat.le_of_ble_eq_true rfl) ?_
  intro p e s m args below meth c A hx hb hr hml hown hts hlk hAe hP hD0 hA hE hS ls hl
  have hown : s.vm.findClass RX6 = some m.cls := hown
  have hK := hE.1
  have hD : ∀ w : pv_XT, va_D A (pv_wX E a w) := fun w => pv_Dm (ws := pv_wX E a w0) (ws' := pv_wX E a w) rfl hD0
  have hP : va_P E.1 vwCl (pv_wX E a w0) s.heap := hP
  have fl_38 : (Cond.fieldLink RX6 38 "ProvinceCards" "sheets" "[LProvinceCards$Sheet;").before args s = true := hts _ (by decide +kernel)
  have fl_208 : (Cond.fieldLink RX6 208 "ProvinceCards$Sheet" "size" "I").before args s = true := hts _ (by decide +kernel)
  have fl_214 : (Cond.fieldLink RX6 214 "ProvinceCards$Sheet" "numbers" "[J").before args s = true := hts _ (by decide +kernel)
  have lc_51 : (Cond.constant RX6 51 (-1000000001)).before args s = true := hts _ (by decide +kernel)
  have i_RX6 : ∀ w ∈ wsX60, w ∈ wsX6_write := by decide +kernel
  have i_RX3 : ∀ w ∈ wsX30, w ∈ wsX6_write := by decide +kernel
  have hl : lv_has ls 8 [(0, .ref (a 0)), (1, .int x1), (2, .int x2), (3, .long x3)] := hl
  suffices M0 : ∀ (H : Heap) (locs : List Loc), va_P E.1 vwCl (pv_wX E a w0) H → va_S A s.heap H locs → W p l e r_X6_write s m args below meth c H locs 0 0 (MQ below (pv_Rw E (pv_wX E a w0) sz (some (.long F.1)) ((fun w : pv_XT => pv_wX E a w) F.2)) args s 0 0 A) (F0 m 0 ls []) from M0 s.heap [] hP hS
  intro H locs hP hS
  refine lv_aload_n (pc := 0) hx hb dX6_write_0 rfl (lv_at hl 0 rfl) ?_
  refine lv_iload_n (pc := 1) hx hb dX6_write_1 rfl (lv_at hl 1 rfl) ?_
  obtain ⟨u_1, hu_1, hq⟩ := pv_bind hq
  refine pv_vROf (pc := 2) (rest := []) (st1 := [.int u_1]) (ws := pv_wX E a w0) [.int x1] ⟨hx, hb, hml, hown, hts⟩ hE hA hS hP (hD w0) (c_X6_unfitSheet l E a x1 w0 u_1 hu_1) (cwV 1 hts gX6_write_X6_unfitSheet rfl rfl rfl (by decide +kernel) ⟨(Nat.le_of_ble_eq_true rfl), (Nat.le_of_ble_eq_true rfl)⟩) (va_recv hK hP (ci := 4) (q0 := 0) rfl rfl) rfl hl.1 rfl rfl (Nat.le_of_ble_eq_true rfl) dX6_write_2 ⟨Nat.zero_le _, Nat.zero_le _⟩ (fun locs hS => ?_)
  refine lv_istore (pc := 5) (lv' := [(5, .int u_1), (0, .ref (a 0)), (1, .int x1), (2, .int x2), (3, .long x3)]) hx hb dX6_write_5 hl (Nat.le_of_ble_eq_true rfl) rfl (fun ls hl => ?_)
  refine lv_iload (pc := 7) hx hb dX6_write_7 (lv_at hl 0 rfl) ?_
  refine lv_if_eq (pc := 9) (tgt := 20) hx hb dX6_write_9 (by decide) (fun c_2 => ?_) (fun c_2 => ?_)
  · have hq := pv_pos c_2 hq
    refine lv_iload_n (pc := 20) hx hb dX6_write_20 rfl (lv_at hl 3 rfl) ?_
    refine lv_iconst (pc := 21) (v := 0) hx hb dX6_write_21 (by decide) ?_
    refine lv_aload_n (pc := 22) hx hb dX6_write_22 rfl (lv_at hl 1 rfl) ?_
    refine va_get (pc := 23) (D := E.1) (ci := 4) (v := .ref (a 27)) (C := RX6) (T := TX6) (N := 8) hx hb hts i_RX6 hown hK hP 0 rfl rfl 5 (Nat.le_of_ble_eq_true rfl) fl_38 (fun _ h9 => h9) rfl dX6_write_23 ?_
    refine lv_iload_n (pc := 26) hx hb dX6_write_26 rfl (lv_at hl 2 rfl) ?_
    obtain ⟨h_3, hq⟩ := pv_gd_some hq
    rcases pv_sh4 h_3 with rfl | rfl | rfl | rfl
    · rw [pv_cl0] at hq
      have hl : lv_has ls 8 [(5, .int u_1), (0, .ref (a 0)), (1, .int 0), (2, .int x2), (3, .long x3)] := hl
      refine va_aldq (pc := 27) (D := E.1) hx hb hK hP 27 2 rfl rfl h_3 dX6_write_27 ?_
      refine W.eq (g2 := F0 m 28 ls [.ref (a 28), .int 0, .int x2]) rfl ?_
      refine va_get (pc := 28) (D := E.1) (ci := 1) (v := .int ((w0.2.2.2.2.2.1 0).2.1)) (C := RX3) (T := TX3) (N := 3) hx hb hts i_RX3 hown hK hP 28 rfl rfl 2 (Nat.le_of_ble_eq_true rfl) fl_208 (fun _ h9 => h9) rfl dX6_write_28 ?_
      refine lv_iconst (pc := 31) (v := 1) hx hb dX6_write_31 (by decide) ?_
      refine lv_isub (pc := 32) hx hb dX6_write_32 ?_
      refine pv_sRO (pc := 33) (rest := []) (st1 := [.int (m_X6_isWithin x2 0 (((w0.2.2.2.2.2.1 0).2.1) - 1))]) (ws := pv_wX E a w0) [.int x2, .int 0, .int (((w0.2.2.2.2.2.1 0).2.1) - 1)] ⟨hx, hb, hml, hown, hts⟩ hE hA hS hP (hD w0) (c_X6_isWithin l E x2 0 (((w0.2.2.2.2.2.1 0).2.1) - 1)) (va_cwS 3 hts gX6_write_X6_isWithin rfl rfl rfl (by decide +kernel) ⟨(Nat.le_of_ble_eq_true rfl), (Nat.le_of_ble_eq_true rfl)⟩) [] rfl rfl rfl hl.1 rfl rfl (Nat.le_of_ble_eq_true rfl) dX6_write_33 ⟨Nat.zero_le _, Nat.zero_le _⟩ (fun locs hS => ?_)
      refine lv_if_ne (pc := 36) (tgt := 47) hx hb dX6_write_36 (by decide) (fun c_4 => ?_) (fun c_4 => ?_)
      · have hq := pv_neg c_4 hq
        refine lv_aload_n (pc := 47) hx hb dX6_write_47 rfl (lv_at hl 1 rfl) ?_
        refine va_get (pc := 48) (D := E.1) (ci := 4) (v := .ref (a 27)) (C := RX6) (T := TX6) (N := 8) hx hb hts i_RX6 hown hK hP 0 rfl rfl 5 (Nat.le_of_ble_eq_true rfl) fl_38 (fun _ h9 => h9) rfl dX6_write_48 ?_
        refine lv_iload_n (pc := 51) hx hb dX6_write_51 rfl (lv_at hl 2 rfl) ?_
        obtain ⟨h_5, hq⟩ := pv_gd_some hq
        refine va_aldq (pc := 52) (D := E.1) hx hb hK hP 27 2 rfl rfl h_5 dX6_write_52 ?_
        refine W.eq (g2 := F0 m 53 ls [.ref (a 28)]) rfl ?_
        refine va_get (pc := 53) (D := E.1) (ci := 1) (v := .ref (a 29)) (C := RX3) (T := TX3) (N := 3) hx hb hts i_RX3 hown hK hP 28 rfl rfl 0 (Nat.le_of_ble_eq_true rfl) fl_214 (fun _ h9 => h9) rfl dX6_write_53 ?_
        refine lv_iload_n (pc := 56) hx hb dX6_write_56 rfl (lv_at hl 3 rfl) ?_
        obtain ⟨h_6, hq⟩ := pv_gd_some hq
        refine va_lald (pc := 57) (D := E.1) hx hb hK hP 29 1 rfl rfl h_6 dX6_write_57 ?_
        refine lv_lstore (pc := 58) (lv' := [(6, .long ((w0.2.2.2.2.2.1 0).2.2 x2.toNatClampNeg)), (5, .int u_1), (0, .ref (a 0)), (1, .int 0), (2, .int x2), (3, .long x3)]) hx hb dX6_write_58 hl (Nat.le_of_ble_eq_true rfl) rfl (fun ls hl => ?_)
        refine lv_aload_n (pc := 60) hx hb dX6_write_60 rfl (lv_at hl 2 rfl) ?_
        refine va_get (pc := 61) (D := E.1) (ci := 4) (v := .ref (a 27)) (C := RX6) (T := TX6) (N := 8) hx hb hts i_RX6 hown hK hP 0 rfl rfl 5 (Nat.le_of_ble_eq_true rfl) fl_38 (fun _ h9 => h9) rfl dX6_write_61 ?_
        refine lv_iload_n (pc := 64) hx hb dX6_write_64 rfl (lv_at hl 3 rfl) ?_
        obtain ⟨h_7, hq⟩ := pv_gd_some hq
        refine va_aldq (pc := 65) (D := E.1) hx hb hK hP 27 2 rfl rfl h_7 dX6_write_65 ?_
        refine W.eq (g2 := F0 m 66 ls [.ref (a 28)]) rfl ?_
        refine lv_iload_n (pc := 66) hx hb dX6_write_66 rfl (lv_at hl 4 rfl) ?_
        refine lv_lload_n (pc := 67) hx hb dX6_write_67 rfl (lv_at hl 5 rfl) ?_
        obtain ⟨u_8, hu_8, hq⟩ := pv_bind hq
        refine pv_vRW (pc := 68) (rest := []) (st1 := []) (ws := pv_wX E a w0) (ws' := pv_wX E a (w0.1, w0.2.1, w0.2.2.1, w0.2.2.2.1, w0.2.2.2.2.1, (va_up w0.2.2.2.2.2.1 0 u_8), w0.2.2.2.2.2.2.1, w0.2.2.2.2.2.2.2)) [.int x2, .long x3] ⟨hx, hb, hml, hown, hts⟩ hE hA hS hP (hD w0) (c_X3_put l E (a 28) (a 29) x2 x3 (w0.2.2.2.2.2.1 0) u_8 hu_8) (cwV 2 hts gX6_write_X3_put rfl rfl rfl (by decide +kernel) ⟨(Nat.le_of_ble_eq_true rfl), (Nat.le_of_ble_eq_true rfl)⟩) (va_recv hK hP (ci := 1) (q0 := 28) rfl rfl) [28, 29] rfl rfl rfl rfl rfl hl.1 rfl rfl (Nat.le_of_ble_eq_true rfl) dX6_write_68 ⟨Nat.zero_le _, Nat.zero_le _⟩ (fun H locs hP hS => ?_)
        refine lv_lload (pc := 71) hx hb dX6_write_71 (lv_at hl 0 rfl) ?_
        exact pv_rlRW (w := fun w : pv_XT => pv_wX E a w) hx hb hr hlk hAe hS hP (Option.some.inj hq) dX6_write_73
      · have hq := pv_pos c_4 hq
        refine lv_aload_n (pc := 39) hx hb dX6_write_39 rfl (lv_at hl 1 rfl) ?_
        refine lv_ldc (pc := 40) hx hb hown lc_51 dX6_write_40 ?_
        obtain ⟨u_9, hu_9, hq⟩ := pv_bind hq
        refine pv_vRWf (pc := 42) (rest := []) (st1 := [.int u_9.1]) (ws := pv_wX E a w0) [.int (-1000000001)] ⟨hx, hb, hml, hown, hts⟩ hE hA hS hP (hD w0) (c_X6_finding l E a (-1000000001) w0 u_9 hu_9) (cwV 1 hts gX6_write_X6_finding rfl rfl rfl (by decide +kernel) ⟨(Nat.le_of_ble_eq_true rfl), (Nat.le_of_ble_eq_true rfl)⟩) (va_recv hK hP (ci := 4) (q0 := 0) rfl rfl) rfl hl.1 rfl rfl (Nat.le_of_ble_eq_true rfl) dX6_write_42 ⟨Nat.zero_le _, Nat.zero_le _⟩ (fun H locs hP hS => ?_)
        have hP : va_P E.1 vwCl (pv_wX E a u_9.2) H := hP
        refine lv_i2l (pc := 45) (v := u_9.1.toInt64) hx hb dX6_write_45 rfl ?_
        exact pv_rlRW (w := fun w : pv_XT => pv_wX E a w) hx hb hr hlk hAe hS hP (Option.some.inj hq) dX6_write_46
    · rw [pv_cl1] at hq
      have hl : lv_has ls 8 [(5, .int u_1), (0, .ref (a 0)), (1, .int 1), (2, .int x2), (3, .long x3)] := hl
      refine va_aldq (pc := 27) (D := E.1) hx hb hK hP 27 2 rfl rfl h_3 dX6_write_27 ?_
      refine W.eq (g2 := F0 m 28 ls [.ref (a 30), .int 0, .int x2]) rfl ?_
      refine va_get (pc := 28) (D := E.1) (ci := 1) (v := .int ((w0.2.2.2.2.2.1 1).2.1)) (C := RX3) (T := TX3) (N := 3) hx hb hts i_RX3 hown hK hP 30 rfl rfl 2 (Nat.le_of_ble_eq_true rfl) fl_208 (fun _ h9 => h9) rfl dX6_write_28 ?_
      refine lv_iconst (pc := 31) (v := 1) hx hb dX6_write_31 (by decide) ?_
      refine lv_isub (pc := 32) hx hb dX6_write_32 ?_
      refine pv_sRO (pc := 33) (rest := []) (st1 := [.int (m_X6_isWithin x2 0 (((w0.2.2.2.2.2.1 1).2.1) - 1))]) (ws := pv_wX E a w0) [.int x2, .int 0, .int (((w0.2.2.2.2.2.1 1).2.1) - 1)] ⟨hx, hb, hml, hown, hts⟩ hE hA hS hP (hD w0) (c_X6_isWithin l E x2 0 (((w0.2.2.2.2.2.1 1).2.1) - 1)) (va_cwS 3 hts gX6_write_X6_isWithin rfl rfl rfl (by decide +kernel) ⟨(Nat.le_of_ble_eq_true rfl), (Nat.le_of_ble_eq_true rfl)⟩) [] rfl rfl rfl hl.1 rfl rfl (Nat.le_of_ble_eq_true rfl) dX6_write_33 ⟨Nat.zero_le _, Nat.zero_le _⟩ (fun locs hS => ?_)
      refine lv_if_ne (pc := 36) (tgt := 47) hx hb dX6_write_36 (by decide) (fun c_10 => ?_) (fun c_10 => ?_)
      · have hq := pv_neg c_10 hq
        refine lv_aload_n (pc := 47) hx hb dX6_write_47 rfl (lv_at hl 1 rfl) ?_
        refine va_get (pc := 48) (D := E.1) (ci := 4) (v := .ref (a 27)) (C := RX6) (T := TX6) (N := 8) hx hb hts i_RX6 hown hK hP 0 rfl rfl 5 (Nat.le_of_ble_eq_true rfl) fl_38 (fun _ h9 => h9) rfl dX6_write_48 ?_
        refine lv_iload_n (pc := 51) hx hb dX6_write_51 rfl (lv_at hl 2 rfl) ?_
        obtain ⟨h_11, hq⟩ := pv_gd_some hq
        refine va_aldq (pc := 52) (D := E.1) hx hb hK hP 27 2 rfl rfl h_11 dX6_write_52 ?_
        refine W.eq (g2 := F0 m 53 ls [.ref (a 30)]) rfl ?_
        refine va_get (pc := 53) (D := E.1) (ci := 1) (v := .ref (a 31)) (C := RX3) (T := TX3) (N := 3) hx hb hts i_RX3 hown hK hP 30 rfl rfl 0 (Nat.le_of_ble_eq_true rfl) fl_214 (fun _ h9 => h9) rfl dX6_write_53 ?_
        refine lv_iload_n (pc := 56) hx hb dX6_write_56 rfl (lv_at hl 3 rfl) ?_
        obtain ⟨h_12, hq⟩ := pv_gd_some hq
        refine va_lald (pc := 57) (D := E.1) hx hb hK hP 31 1 rfl rfl h_12 dX6_write_57 ?_
        refine lv_lstore (pc := 58) (lv' := [(6, .long ((w0.2.2.2.2.2.1 1).2.2 x2.toNatClampNeg)), (5, .int u_1), (0, .ref (a 0)), (1, .int 1), (2, .int x2), (3, .long x3)]) hx hb dX6_write_58 hl (Nat.le_of_ble_eq_true rfl) rfl (fun ls hl => ?_)
        refine lv_aload_n (pc := 60) hx hb dX6_write_60 rfl (lv_at hl 2 rfl) ?_
        refine va_get (pc := 61) (D := E.1) (ci := 4) (v := .ref (a 27)) (C := RX6) (T := TX6) (N := 8) hx hb hts i_RX6 hown hK hP 0 rfl rfl 5 (Nat.le_of_ble_eq_true rfl) fl_38 (fun _ h9 => h9) rfl dX6_write_61 ?_
        refine lv_iload_n (pc := 64) hx hb dX6_write_64 rfl (lv_at hl 3 rfl) ?_
        obtain ⟨h_13, hq⟩ := pv_gd_some hq
        refine va_aldq (pc := 65) (D := E.1) hx hb hK hP 27 2 rfl rfl h_13 dX6_write_65 ?_
        refine W.eq (g2 := F0 m 66 ls [.ref (a 30)]) rfl ?_
        refine lv_iload_n (pc := 66) hx hb dX6_write_66 rfl (lv_at hl 4 rfl) ?_
        refine lv_lload_n (pc := 67) hx hb dX6_write_67 rfl (lv_at hl 5 rfl) ?_
        obtain ⟨u_14, hu_14, hq⟩ := pv_bind hq
        refine pv_vRW (pc := 68) (rest := []) (st1 := []) (ws := pv_wX E a w0) (ws' := pv_wX E a (w0.1, w0.2.1, w0.2.2.1, w0.2.2.2.1, w0.2.2.2.2.1, (va_up w0.2.2.2.2.2.1 1 u_14), w0.2.2.2.2.2.2.1, w0.2.2.2.2.2.2.2)) [.int x2, .long x3] ⟨hx, hb, hml, hown, hts⟩ hE hA hS hP (hD w0) (c_X3_put l E (a 30) (a 31) x2 x3 (w0.2.2.2.2.2.1 1) u_14 hu_14) (cwV 2 hts gX6_write_X3_put rfl rfl rfl (by decide +kernel) ⟨(Nat.le_of_ble_eq_true rfl), (Nat.le_of_ble_eq_true rfl)⟩) (va_recv hK hP (ci := 1) (q0 := 30) rfl rfl) [30, 31] rfl rfl rfl rfl rfl hl.1 rfl rfl (Nat.le_of_ble_eq_true rfl) dX6_write_68 ⟨Nat.zero_le _, Nat.zero_le _⟩ (fun H locs hP hS => ?_)
        refine lv_lload (pc := 71) hx hb dX6_write_71 (lv_at hl 0 rfl) ?_
        exact pv_rlRW (w := fun w : pv_XT => pv_wX E a w) hx hb hr hlk hAe hS hP (Option.some.inj hq) dX6_write_73
      · have hq := pv_pos c_10 hq
        refine lv_aload_n (pc := 39) hx hb dX6_write_39 rfl (lv_at hl 1 rfl) ?_
        refine lv_ldc (pc := 40) hx hb hown lc_51 dX6_write_40 ?_
        obtain ⟨u_15, hu_15, hq⟩ := pv_bind hq
        refine pv_vRWf (pc := 42) (rest := []) (st1 := [.int u_15.1]) (ws := pv_wX E a w0) [.int (-1000000001)] ⟨hx, hb, hml, hown, hts⟩ hE hA hS hP (hD w0) (c_X6_finding l E a (-1000000001) w0 u_15 hu_15) (cwV 1 hts gX6_write_X6_finding rfl rfl rfl (by decide +kernel) ⟨(Nat.le_of_ble_eq_true rfl), (Nat.le_of_ble_eq_true rfl)⟩) (va_recv hK hP (ci := 4) (q0 := 0) rfl rfl) rfl hl.1 rfl rfl (Nat.le_of_ble_eq_true rfl) dX6_write_42 ⟨Nat.zero_le _, Nat.zero_le _⟩ (fun H locs hP hS => ?_)
        have hP : va_P E.1 vwCl (pv_wX E a u_15.2) H := hP
        refine lv_i2l (pc := 45) (v := u_15.1.toInt64) hx hb dX6_write_45 rfl ?_
        exact pv_rlRW (w := fun w : pv_XT => pv_wX E a w) hx hb hr hlk hAe hS hP (Option.some.inj hq) dX6_write_46
    · rw [pv_cl2] at hq
      have hl : lv_has ls 8 [(5, .int u_1), (0, .ref (a 0)), (1, .int 2), (2, .int x2), (3, .long x3)] := hl
      refine va_aldq (pc := 27) (D := E.1) hx hb hK hP 27 2 rfl rfl h_3 dX6_write_27 ?_
      refine W.eq (g2 := F0 m 28 ls [.ref (a 32), .int 0, .int x2]) rfl ?_
      refine va_get (pc := 28) (D := E.1) (ci := 1) (v := .int ((w0.2.2.2.2.2.1 2).2.1)) (C := RX3) (T := TX3) (N := 3) hx hb hts i_RX3 hown hK hP 32 rfl rfl 2 (Nat.le_of_ble_eq_true rfl) fl_208 (fun _ h9 => h9) rfl dX6_write_28 ?_
      refine lv_iconst (pc := 31) (v := 1) hx hb dX6_write_31 (by decide) ?_
      refine lv_isub (pc := 32) hx hb dX6_write_32 ?_
      refine pv_sRO (pc := 33) (rest := []) (st1 := [.int (m_X6_isWithin x2 0 (((w0.2.2.2.2.2.1 2).2.1) - 1))]) (ws := pv_wX E a w0) [.int x2, .int 0, .int (((w0.2.2.2.2.2.1 2).2.1) - 1)] ⟨hx, hb, hml, hown, hts⟩ hE hA hS hP (hD w0) (c_X6_isWithin l E x2 0 (((w0.2.2.2.2.2.1 2).2.1) - 1)) (va_cwS 3 hts gX6_write_X6_isWithin rfl rfl rfl (by decide +kernel) ⟨(Nat.le_of_ble_eq_true rfl), (Nat.le_of_ble_eq_true rfl)⟩) [] rfl rfl rfl hl.1 rfl rfl (Nat.le_of_ble_eq_true rfl) dX6_write_33 ⟨Nat.zero_le _, Nat.zero_le _⟩ (fun locs hS => ?_)
      refine lv_if_ne (pc := 36) (tgt := 47) hx hb dX6_write_36 (by decide) (fun c_16 => ?_) (fun c_16 => ?_)
      · have hq := pv_neg c_16 hq
        refine lv_aload_n (pc := 47) hx hb dX6_write_47 rfl (lv_at hl 1 rfl) ?_
        refine va_get (pc := 48) (D := E.1) (ci := 4) (v := .ref (a 27)) (C := RX6) (T := TX6) (N := 8) hx hb hts i_RX6 hown hK hP 0 rfl rfl 5 (Nat.le_of_ble_eq_true rfl) fl_38 (fun _ h9 => h9) rfl dX6_write_48 ?_
        refine lv_iload_n (pc := 51) hx hb dX6_write_51 rfl (lv_at hl 2 rfl) ?_
        obtain ⟨h_17, hq⟩ := pv_gd_some hq
        refine va_aldq (pc := 52) (D := E.1) hx hb hK hP 27 2 rfl rfl h_17 dX6_write_52 ?_
        refine W.eq (g2 := F0 m 53 ls [.ref (a 32)]) rfl ?_
        refine va_get (pc := 53) (D := E.1) (ci := 1) (v := .ref (a 33)) (C := RX3) (T := TX3) (N := 3) hx hb hts i_RX3 hown hK hP 32 rfl rfl 0 (Nat.le_of_ble_eq_true rfl) fl_214 (fun _ h9 => h9) rfl dX6_write_53 ?_
        refine lv_iload_n (pc := 56) hx hb dX6_write_56 rfl (lv_at hl 3 rfl) ?_
        obtain ⟨h_18, hq⟩ := pv_gd_some hq
        refine va_lald (pc := 57) (D := E.1) hx hb hK hP 33 1 rfl rfl h_18 dX6_write_57 ?_
        refine lv_lstore (pc := 58) (lv' := [(6, .long ((w0.2.2.2.2.2.1 2).2.2 x2.toNatClampNeg)), (5, .int u_1), (0, .ref (a 0)), (1, .int 2), (2, .int x2), (3, .long x3)]) hx hb dX6_write_58 hl (Nat.le_of_ble_eq_true rfl) rfl (fun ls hl => ?_)
        refine lv_aload_n (pc := 60) hx hb dX6_write_60 rfl (lv_at hl 2 rfl) ?_
        refine va_get (pc := 61) (D := E.1) (ci := 4) (v := .ref (a 27)) (C := RX6) (T := TX6) (N := 8) hx hb hts i_RX6 hown hK hP 0 rfl rfl 5 (Nat.le_of_ble_eq_true rfl) fl_38 (fun _ h9 => h9) rfl dX6_write_61 ?_
        refine lv_iload_n (pc := 64) hx hb dX6_write_64 rfl (lv_at hl 3 rfl) ?_
        obtain ⟨h_19, hq⟩ := pv_gd_some hq
        refine va_aldq (pc := 65) (D := E.1) hx hb hK hP 27 2 rfl rfl h_19 dX6_write_65 ?_
        refine W.eq (g2 := F0 m 66 ls [.ref (a 32)]) rfl ?_
        refine lv_iload_n (pc := 66) hx hb dX6_write_66 rfl (lv_at hl 4 rfl) ?_
        refine lv_lload_n (pc := 67) hx hb dX6_write_67 rfl (lv_at hl 5 rfl) ?_
        obtain ⟨u_20, hu_20, hq⟩ := pv_bind hq
        refine pv_vRW (pc := 68) (rest := []) (st1 := []) (ws := pv_wX E a w0) (ws' := pv_wX E a (w0.1, w0.2.1, w0.2.2.1, w0.2.2.2.1, w0.2.2.2.2.1, (va_up w0.2.2.2.2.2.1 2 u_20), w0.2.2.2.2.2.2.1, w0.2.2.2.2.2.2.2)) [.int x2, .long x3] ⟨hx, hb, hml, hown, hts⟩ hE hA hS hP (hD w0) (c_X3_put l E (a 32) (a 33) x2 x3 (w0.2.2.2.2.2.1 2) u_20 hu_20) (cwV 2 hts gX6_write_X3_put rfl rfl rfl (by decide +kernel) ⟨(Nat.le_of_ble_eq_true rfl), (Nat.le_of_ble_eq_true rfl)⟩) (va_recv hK hP (ci := 1) (q0 := 32) rfl rfl) [32, 33] rfl rfl rfl rfl rfl hl.1 rfl rfl (Nat.le_of_ble_eq_true rfl) dX6_write_68 ⟨Nat.zero_le _, Nat.zero_le _⟩ (fun H locs hP hS => ?_)
        refine lv_lload (pc := 71) hx hb dX6_write_71 (lv_at hl 0 rfl) ?_
        exact pv_rlRW (w := fun w : pv_XT => pv_wX E a w) hx hb hr hlk hAe hS hP (Option.some.inj hq) dX6_write_73
      · have hq := pv_pos c_16 hq
        refine lv_aload_n (pc := 39) hx hb dX6_write_39 rfl (lv_at hl 1 rfl) ?_
        refine lv_ldc (pc := 40) hx hb hown lc_51 dX6_write_40 ?_
        obtain ⟨u_21, hu_21, hq⟩ := pv_bind hq
        refine pv_vRWf (pc := 42) (rest := []) (st1 := [.int u_21.1]) (ws := pv_wX E a w0) [.int (-1000000001)] ⟨hx, hb, hml, hown, hts⟩ hE hA hS hP (hD w0) (c_X6_finding l E a (-1000000001) w0 u_21 hu_21) (cwV 1 hts gX6_write_X6_finding rfl rfl rfl (by decide +kernel) ⟨(Nat.le_of_ble_eq_true rfl), (Nat.le_of_ble_eq_true rfl)⟩) (va_recv hK hP (ci := 4) (q0 := 0) rfl rfl) rfl hl.1 rfl rfl (Nat.le_of_ble_eq_true rfl) dX6_write_42 ⟨Nat.zero_le _, Nat.zero_le _⟩ (fun H locs hP hS => ?_)
        have hP : va_P E.1 vwCl (pv_wX E a u_21.2) H := hP
        refine lv_i2l (pc := 45) (v := u_21.1.toInt64) hx hb dX6_write_45 rfl ?_
        exact pv_rlRW (w := fun w : pv_XT => pv_wX E a w) hx hb hr hlk hAe hS hP (Option.some.inj hq) dX6_write_46
    · rw [pv_cl3] at hq
      have hl : lv_has ls 8 [(5, .int u_1), (0, .ref (a 0)), (1, .int 3), (2, .int x2), (3, .long x3)] := hl
      refine va_aldq (pc := 27) (D := E.1) hx hb hK hP 27 2 rfl rfl h_3 dX6_write_27 ?_
      refine W.eq (g2 := F0 m 28 ls [.ref (a 34), .int 0, .int x2]) rfl ?_
      refine va_get (pc := 28) (D := E.1) (ci := 1) (v := .int ((w0.2.2.2.2.2.1 3).2.1)) (C := RX3) (T := TX3) (N := 3) hx hb hts i_RX3 hown hK hP 34 rfl rfl 2 (Nat.le_of_ble_eq_true rfl) fl_208 (fun _ h9 => h9) rfl dX6_write_28 ?_
      refine lv_iconst (pc := 31) (v := 1) hx hb dX6_write_31 (by decide) ?_
      refine lv_isub (pc := 32) hx hb dX6_write_32 ?_
      refine pv_sRO (pc := 33) (rest := []) (st1 := [.int (m_X6_isWithin x2 0 (((w0.2.2.2.2.2.1 3).2.1) - 1))]) (ws := pv_wX E a w0) [.int x2, .int 0, .int (((w0.2.2.2.2.2.1 3).2.1) - 1)] ⟨hx, hb, hml, hown, hts⟩ hE hA hS hP (hD w0) (c_X6_isWithin l E x2 0 (((w0.2.2.2.2.2.1 3).2.1) - 1)) (va_cwS 3 hts gX6_write_X6_isWithin rfl rfl rfl (by decide +kernel) ⟨(Nat.le_of_ble_eq_true rfl), (Nat.le_of_ble_eq_true rfl)⟩) [] rfl rfl rfl hl.1 rfl rfl (Nat.le_of_ble_eq_true rfl) dX6_write_33 ⟨Nat.zero_le _, Nat.zero_le _⟩ (fun locs hS => ?_)
      refine lv_if_ne (pc := 36) (tgt := 47) hx hb dX6_write_36 (by decide) (fun c_22 => ?_) (fun c_22 => ?_)
      · have hq := pv_neg c_22 hq
        refine lv_aload_n (pc := 47) hx hb dX6_write_47 rfl (lv_at hl 1 rfl) ?_
        refine va_get (pc := 48) (D := E.1) (ci := 4) (v := .ref (a 27)) (C := RX6) (T := TX6) (N := 8) hx hb hts i_RX6 hown hK hP 0 rfl rfl 5 (Nat.le_of_ble_eq_true rfl) fl_38 (fun _ h9 => h9) rfl dX6_write_48 ?_
        refine lv_iload_n (pc := 51) hx hb dX6_write_51 rfl (lv_at hl 2 rfl) ?_
        obtain ⟨h_23, hq⟩ := pv_gd_some hq
        refine va_aldq (pc := 52) (D := E.1) hx hb hK hP 27 2 rfl rfl h_23 dX6_write_52 ?_
        refine W.eq (g2 := F0 m 53 ls [.ref (a 34)]) rfl ?_
        refine va_get (pc := 53) (D := E.1) (ci := 1) (v := .ref (a 35)) (C := RX3) (T := TX3) (N := 3) hx hb hts i_RX3 hown hK hP 34 rfl rfl 0 (Nat.le_of_ble_eq_true rfl) fl_214 (fun _ h9 => h9) rfl dX6_write_53 ?_
        refine lv_iload_n (pc := 56) hx hb dX6_write_56 rfl (lv_at hl 3 rfl) ?_
        obtain ⟨h_24, hq⟩ := pv_gd_some hq
        refine va_lald (pc := 57) (D := E.1) hx hb hK hP 35 1 rfl rfl h_24 dX6_write_57 ?_
        refine lv_lstore (pc := 58) (lv' := [(6, .long ((w0.2.2.2.2.2.1 3).2.2 x2.toNatClampNeg)), (5, .int u_1), (0, .ref (a 0)), (1, .int 3), (2, .int x2), (3, .long x3)]) hx hb dX6_write_58 hl (Nat.le_of_ble_eq_true rfl) rfl (fun ls hl => ?_)
        refine lv_aload_n (pc := 60) hx hb dX6_write_60 rfl (lv_at hl 2 rfl) ?_
        refine va_get (pc := 61) (D := E.1) (ci := 4) (v := .ref (a 27)) (C := RX6) (T := TX6) (N := 8) hx hb hts i_RX6 hown hK hP 0 rfl rfl 5 (Nat.le_of_ble_eq_true rfl) fl_38 (fun _ h9 => h9) rfl dX6_write_61 ?_
        refine lv_iload_n (pc := 64) hx hb dX6_write_64 rfl (lv_at hl 3 rfl) ?_
        obtain ⟨h_25, hq⟩ := pv_gd_some hq
        refine va_aldq (pc := 65) (D := E.1) hx hb hK hP 27 2 rfl rfl h_25 dX6_write_65 ?_
        refine W.eq (g2 := F0 m 66 ls [.ref (a 34)]) rfl ?_
        refine lv_iload_n (pc := 66) hx hb dX6_write_66 rfl (lv_at hl 4 rfl) ?_
        refine lv_lload_n (pc := 67) hx hb dX6_write_67 rfl (lv_at hl 5 rfl) ?_
        obtain ⟨u_26, hu_26, hq⟩ := pv_bind hq
        refine pv_vRW (pc := 68) (rest := []) (st1 := []) (ws := pv_wX E a w0) (ws' := pv_wX E a (w0.1, w0.2.1, w0.2.2.1, w0.2.2.2.1, w0.2.2.2.2.1, (va_up w0.2.2.2.2.2.1 3 u_26), w0.2.2.2.2.2.2.1, w0.2.2.2.2.2.2.2)) [.int x2, .long x3] ⟨hx, hb, hml, hown, hts⟩ hE hA hS hP (hD w0) (c_X3_put l E (a 34) (a 35) x2 x3 (w0.2.2.2.2.2.1 3) u_26 hu_26) (cwV 2 hts gX6_write_X3_put rfl rfl rfl (by decide +kernel) ⟨(Nat.le_of_ble_eq_true rfl), (Nat.le_of_ble_eq_true rfl)⟩) (va_recv hK hP (ci := 1) (q0 := 34) rfl rfl) [34, 35] rfl rfl rfl rfl rfl hl.1 rfl rfl (Nat.le_of_ble_eq_true rfl) dX6_write_68 ⟨Nat.zero_le _, Nat.zero_le _⟩ (fun H locs hP hS => ?_)
        refine lv_lload (pc := 71) hx hb dX6_write_71 (lv_at hl 0 rfl) ?_
        exact pv_rlRW (w := fun w : pv_XT => pv_wX E a w) hx hb hr hlk hAe hS hP (Option.some.inj hq) dX6_write_73
      · have hq := pv_pos c_22 hq
        refine lv_aload_n (pc := 39) hx hb dX6_write_39 rfl (lv_at hl 1 rfl) ?_
        refine lv_ldc (pc := 40) hx hb hown lc_51 dX6_write_40 ?_
        obtain ⟨u_27, hu_27, hq⟩ := pv_bind hq
        refine pv_vRWf (pc := 42) (rest := []) (st1 := [.int u_27.1]) (ws := pv_wX E a w0) [.int (-1000000001)] ⟨hx, hb, hml, hown, hts⟩ hE hA hS hP (hD w0) (c_X6_finding l E a (-1000000001) w0 u_27 hu_27) (cwV 1 hts gX6_write_X6_finding rfl rfl rfl (by decide +kernel) ⟨(Nat.le_of_ble_eq_true rfl), (Nat.le_of_ble_eq_true rfl)⟩) (va_recv hK hP (ci := 4) (q0 := 0) rfl rfl) rfl hl.1 rfl rfl (Nat.le_of_ble_eq_true rfl) dX6_write_42 ⟨Nat.zero_le _, Nat.zero_le _⟩ (fun H locs hP hS => ?_)
        have hP : va_P E.1 vwCl (pv_wX E a u_27.2) H := hP
        refine lv_i2l (pc := 45) (v := u_27.1.toInt64) hx hb dX6_write_45 rfl ?_
        exact pv_rlRW (w := fun w : pv_XT => pv_wX E a w) hx hb hr hlk hAe hS hP (Option.some.inj hq) dX6_write_46
  · have hq := pv_neg c_2 hq
    refine lv_aload_n (pc := 12) hx hb dX6_write_12 rfl (lv_at hl 1 rfl) ?_
    refine lv_iload (pc := 13) hx hb dX6_write_13 (lv_at hl 0 rfl) ?_
    obtain ⟨u_28, hu_28, hq⟩ := pv_bind hq
    refine pv_vRWf (pc := 15) (rest := []) (st1 := [.int u_28.1]) (ws := pv_wX E a w0) [.int u_1] ⟨hx, hb, hml, hown, hts⟩ hE hA hS hP (hD w0) (c_X6_finding l E a u_1 w0 u_28 hu_28) (cwV 1 hts gX6_write_X6_finding rfl rfl rfl (by decide +kernel) ⟨(Nat.le_of_ble_eq_true rfl), (Nat.le_of_ble_eq_true rfl)⟩) (va_recv hK hP (ci := 4) (q0 := 0) rfl rfl) rfl hl.1 rfl rfl (Nat.le_of_ble_eq_true rfl) dX6_write_15 ⟨Nat.zero_le _, Nat.zero_le _⟩ (fun H locs hP hS => ?_)
    have hP : va_P E.1 vwCl (pv_wX E a u_28.2) H := hP
    refine lv_i2l (pc := 18) (v := u_28.1.toInt64) hx hb dX6_write_18 rfl ?_
    exact pv_rlRW (w := fun w : pv_XT => pv_wX E a w) hx hb hr hlk hAe hS hP (Option.some.inj hq) dX6_write_19
def m_X6_lays_88 (k_21 : Int32 → Int32 → Int32 → pv_XT → Option (Int32 × pv_XT)) (x1 : Int32) (x3 : Int32) (x4 : Int32) (w : pv_XT) : Option (Int32 × pv_XT) :=
  k_21 x1 x3 (x4 + 1) w
def m_X6_lays_21 : Nat → Int32 → Int32 → Int32 → pv_XT → Option (Int32 × pv_XT)
  | 0 => fun _ _ _ _ => none
  | n + 1 => fun x1 x3 x4 w =>
    pv_gd x1 4 (if ((w.2.2.2.2.2.1 x1.toNatClampNeg).2.1) ≤ x4 then (some (x3, w)) else (if 8 ≤ x4 then (some (x3, w)) else (pv_gd x1 4 (pv_gd x4 40 (if (lg_cmp ((w.2.2.2.2.2.1 x1.toNatClampNeg).2.2 x4.toNatClampNeg) (-1)) < 0 then (m_X6_lays_88 (m_X6_lays_21 n) x1 x3 x4 w) else (if 0 < (lg_cmp ((w.2.2.2.2.2.1 x1.toNatClampNeg).2.2 x4.toNatClampNeg) 1) then (m_X6_lays_88 (m_X6_lays_21 n) x1 x3 x4 w) else (pv_gd x4 8 (m_X6_lays_88 (m_X6_lays_21 n) x1 (x3 + 1) x4 ((w.1.1, w.1.2.1, w.1.2.2.1, (upd w.1.2.2.2.1 x4.toNatClampNeg (((w.2.2.2.2.2.1 x1.toNatClampNeg).2.2 x4.toNatClampNeg).toInt32)), w.1.2.2.2.2.1, w.1.2.2.2.2.2.1, w.1.2.2.2.2.2.2.1, w.1.2.2.2.2.2.2.2), w.2.1, w.2.2.1, w.2.2.2.1, w.2.2.2.2.1, w.2.2.2.2.2.1, w.2.2.2.2.2.2.1, w.2.2.2.2.2.2.2)))))))))
def m_X6_lays (x1 : Int32) (w : pv_XT) : Option (Int32 × pv_XT) :=
  Option.bind (m_X6_unfitSheet x1 w) fun u_1 => (if u_1 = 0 then (m_X6_lays_21 300 x1 0 0 w) else (Option.bind (m_X6_finding u_1 w) fun u_11 => (some (u_11.1, u_11.2))))
abbrev r_X6_lays : Room := { frames := 2, cells := 0, slots := 0, locals := 41 }
set_option maxHeartbeats 4000000 in
set_option maxRecDepth 100000 in
theorem c_X6_lays (l : Launch) (E : pv_E) (a : Nat → Nat) (x1 : Int32) (w0 : pv_XT) (F : Int32 × pv_XT) (hq : m_X6_lays x1 w0 = some F) : pv_RW l E yX6_lays wsX6_lays r_X6_lays (pv_wX E a w0) [.ref (a 0), .int x1] (some (.int F.1)) (pv_wX E a F.2) := by
  intro sz
  refine pv_mk (by decide) rfl (Nat.le_of_ble_eq_true rfl) ?_
  intro p e s m args below meth c A hx hb hr hml hown hts hlk hAe hP hD0 hA hE hS ls hl
  have hown : s.vm.findClass RX6 = some m.cls := hown
  have hK := hE.1
  have hD : ∀ w : pv_XT, va_D A (pv_wX E a w) := fun w => pv_Dm (ws := pv_wX E a w0) (ws' := pv_wX E a w) rfl hD0
  have hP : va_P E.1 vwCl (pv_wX E a w0) s.heap := hP
  have fl_38 : (Cond.fieldLink RX6 38 "ProvinceCards" "sheets" "[LProvinceCards$Sheet;").before args s = true := hts _ (by decide +kernel)
  have fl_208 : (Cond.fieldLink RX6 208 "ProvinceCards$Sheet" "size" "I").before args s = true := hts _ (by decide +kernel)
  have fl_214 : (Cond.fieldLink RX6 214 "ProvinceCards$Sheet" "numbers" "[J").before args s = true := hts _ (by decide +kernel)
  have lc_237 : (Cond.constantLong RX6 237 (-1)).before args s = true := hts _ (by decide +kernel)
  have fl_10 : (Cond.fieldLink RX6 10 "ProvinceCards" "table" "LProvinceCards$Table;").before args s = true := hts _ (by decide +kernel)
  have fl_66 : (Cond.fieldLink RX6 66 "ProvinceCards$Table" "owner" "[I").before args s = true := hts _ (by decide +kernel)
  have i_RX6 : ∀ w ∈ wsX60, w ∈ wsX6_lays := by decide +kernel
  have i_RX3 : ∀ w ∈ wsX30, w ∈ wsX6_lays := by decide +kernel
  have i_RX4 : ∀ w ∈ wsX40, w ∈ wsX6_lays := by decide +kernel
  have hl : lv_has ls 7 [(0, .ref (a 0)), (1, .int x1)] := hl
  have B_88_0 : ∀ (k_21 : Int32 → Int32 → Int32 → pv_XT → Option (Int32 × pv_XT)), (∀ (x1 : Int32) (x3 : Int32) (x4 : Int32) (w : pv_XT) (H : Heap) (locs : List Loc) (ls : Array Slot), va_P E.1 vwCl (pv_wX E a w) H → va_S A s.heap H locs → lv_has ls 7 [(0, .ref (a 0)), (1, .int x1), (3, .int x3), (4, .int x4)] → k_21 x1 x3 x4 w = some F → W p l e r_X6_lays s m args below meth c H locs 0 0 (MQ below (pv_Rw E (pv_wX E a w0) sz (some (.int F.1)) ((fun w : pv_XT => pv_wX E a w) F.2)) args s 0 0 A) (F0 m 21 ls [])) → ∀ (x3 : Int32) (x4 : Int32) (w : pv_XT) (H : Heap) (locs : List Loc) (ls : Array Slot), va_P E.1 vwCl (pv_wX E a w) H → va_S A s.heap H locs → lv_has ls 7 [(0, .ref (a 0)), (1, .int 0), (3, .int x3), (4, .int x4)] → m_X6_lays_88 k_21 0 x3 x4 w = some F → W p l e r_X6_lays s m args below meth c H locs 0 0 (MQ below (pv_Rw E (pv_wX E a w0) sz (some (.int F.1)) ((fun w : pv_XT => pv_wX E a w) F.2)) args s 0 0 A) (F0 m 88 ls []) := by
    intro k_21 hk_21
    intro x3 x4 w H locs ls hP hS hl hq
    refine lv_iinc (pc := 88) (v := (x4 + 1)) (lv' := [(4, .int (x4 + 1)), (0, .ref (a 0)), (1, .int 0), (3, .int x3)]) hx hb dX6_lays_88 hl (k := 3) rfl rfl (Nat.le_of_ble_eq_true rfl) rfl (fun ls hl => ?_)
    refine lv_goto (pc := 91) (tgt := 21) hx hb dX6_lays_91 (by decide) ?_
    exact hk_21 0 x3 (x4 + 1) w H locs ls hP hS (lv_sub hl [1, 2, 3, 0] rfl) hq
  have B_88_1 : ∀ (k_21 : Int32 → Int32 → Int32 → pv_XT → Option (Int32 × pv_XT)), (∀ (x1 : Int32) (x3 : Int32) (x4 : Int32) (w : pv_XT) (H : Heap) (locs : List Loc) (ls : Array Slot), va_P E.1 vwCl (pv_wX E a w) H → va_S A s.heap H locs → lv_has ls 7 [(0, .ref (a 0)), (1, .int x1), (3, .int x3), (4, .int x4)] → k_21 x1 x3 x4 w = some F → W p l e r_X6_lays s m args below meth c H locs 0 0 (MQ below (pv_Rw E (pv_wX E a w0) sz (some (.int F.1)) ((fun w : pv_XT => pv_wX E a w) F.2)) args s 0 0 A) (F0 m 21 ls [])) → ∀ (x3 : Int32) (x4 : Int32) (w : pv_XT) (H : Heap) (locs : List Loc) (ls : Array Slot), va_P E.1 vwCl (pv_wX E a w) H → va_S A s.heap H locs → lv_has ls 7 [(0, .ref (a 0)), (1, .int 1), (3, .int x3), (4, .int x4)] → m_X6_lays_88 k_21 1 x3 x4 w = some F → W p l e r_X6_lays s m args below meth c H locs 0 0 (MQ below (pv_Rw E (pv_wX E a w0) sz (some (.int F.1)) ((fun w : pv_XT => pv_wX E a w) F.2)) args s 0 0 A) (F0 m 88 ls []) := by
    intro k_21 hk_21
    intro x3 x4 w H locs ls hP hS hl hq
    refine lv_iinc (pc := 88) (v := (x4 + 1)) (lv' := [(4, .int (x4 + 1)), (0, .ref (a 0)), (1, .int 1), (3, .int x3)]) hx hb dX6_lays_88 hl (k := 3) rfl rfl (Nat.le_of_ble_eq_true rfl) rfl (fun ls hl => ?_)
    refine lv_goto (pc := 91) (tgt := 21) hx hb dX6_lays_91 (by decide) ?_
    exact hk_21 1 x3 (x4 + 1) w H locs ls hP hS (lv_sub hl [1, 2, 3, 0] rfl) hq
  have B_88_2 : ∀ (k_21 : Int32 → Int32 → Int32 → pv_XT → Option (Int32 × pv_XT)), (∀ (x1 : Int32) (x3 : Int32) (x4 : Int32) (w : pv_XT) (H : Heap) (locs : List Loc) (ls : Array Slot), va_P E.1 vwCl (pv_wX E a w) H → va_S A s.heap H locs → lv_has ls 7 [(0, .ref (a 0)), (1, .int x1), (3, .int x3), (4, .int x4)] → k_21 x1 x3 x4 w = some F → W p l e r_X6_lays s m args below meth c H locs 0 0 (MQ below (pv_Rw E (pv_wX E a w0) sz (some (.int F.1)) ((fun w : pv_XT => pv_wX E a w) F.2)) args s 0 0 A) (F0 m 21 ls [])) → ∀ (x3 : Int32) (x4 : Int32) (w : pv_XT) (H : Heap) (locs : List Loc) (ls : Array Slot), va_P E.1 vwCl (pv_wX E a w) H → va_S A s.heap H locs → lv_has ls 7 [(0, .ref (a 0)), (1, .int 2), (3, .int x3), (4, .int x4)] → m_X6_lays_88 k_21 2 x3 x4 w = some F → W p l e r_X6_lays s m args below meth c H locs 0 0 (MQ below (pv_Rw E (pv_wX E a w0) sz (some (.int F.1)) ((fun w : pv_XT => pv_wX E a w) F.2)) args s 0 0 A) (F0 m 88 ls []) := by
    intro k_21 hk_21
    intro x3 x4 w H locs ls hP hS hl hq
    refine lv_iinc (pc := 88) (v := (x4 + 1)) (lv' := [(4, .int (x4 + 1)), (0, .ref (a 0)), (1, .int 2), (3, .int x3)]) hx hb dX6_lays_88 hl (k := 3) rfl rfl (Nat.le_of_ble_eq_true rfl) rfl (fun ls hl => ?_)
    refine lv_goto (pc := 91) (tgt := 21) hx hb dX6_lays_91 (by decide) ?_
    exact hk_21 2 x3 (x4 + 1) w H locs ls hP hS (lv_sub hl [1, 2, 3, 0] rfl) hq
  have B_88_3 : ∀ (k_21 : Int32 → Int32 → Int32 → pv_XT → Option (Int32 × pv_XT)), (∀ (x1 : Int32) (x3 : Int32) (x4 : Int32) (w : pv_XT) (H : Heap) (locs : List Loc) (ls : Array Slot), va_P E.1 vwCl (pv_wX E a w) H → va_S A s.heap H locs → lv_has ls 7 [(0, .ref (a 0)), (1, .int x1), (3, .int x3), (4, .int x4)] → k_21 x1 x3 x4 w = some F → W p l e r_X6_lays s m args below meth c H locs 0 0 (MQ below (pv_Rw E (pv_wX E a w0) sz (some (.int F.1)) ((fun w : pv_XT => pv_wX E a w) F.2)) args s 0 0 A) (F0 m 21 ls [])) → ∀ (x3 : Int32) (x4 : Int32) (w : pv_XT) (H : Heap) (locs : List Loc) (ls : Array Slot), va_P E.1 vwCl (pv_wX E a w) H → va_S A s.heap H locs → lv_has ls 7 [(0, .ref (a 0)), (1, .int 3), (3, .int x3), (4, .int x4)] → m_X6_lays_88 k_21 3 x3 x4 w = some F → W p l e r_X6_lays s m args below meth c H locs 0 0 (MQ below (pv_Rw E (pv_wX E a w0) sz (some (.int F.1)) ((fun w : pv_XT => pv_wX E a w) F.2)) args s 0 0 A) (F0 m 88 ls []) := by
    intro k_21 hk_21
    intro x3 x4 w H locs ls hP hS hl hq
    refine lv_iinc (pc := 88) (v := (x4 + 1)) (lv' := [(4, .int (x4 + 1)), (0, .ref (a 0)), (1, .int 3), (3, .int x3)]) hx hb dX6_lays_88 hl (k := 3) rfl rfl (Nat.le_of_ble_eq_true rfl) rfl (fun ls hl => ?_)
    refine lv_goto (pc := 91) (tgt := 21) hx hb dX6_lays_91 (by decide) ?_
    exact hk_21 3 x3 (x4 + 1) w H locs ls hP hS (lv_sub hl [1, 2, 3, 0] rfl) hq
  have L_21 : ∀ n : Nat, ∀ (x1 : Int32) (x3 : Int32) (x4 : Int32) (w : pv_XT) (H : Heap) (locs : List Loc) (ls : Array Slot), va_P E.1 vwCl (pv_wX E a w) H → va_S A s.heap H locs → lv_has ls 7 [(0, .ref (a 0)), (1, .int x1), (3, .int x3), (4, .int x4)] → m_X6_lays_21 n x1 x3 x4 w = some F → W p l e r_X6_lays s m args below meth c H locs 0 0 (MQ below (pv_Rw E (pv_wX E a w0) sz (some (.int F.1)) ((fun w : pv_XT => pv_wX E a w) F.2)) args s 0 0 A) (F0 m 21 ls []) := by
    intro n
    induction n with
    | zero =>
      intro x1 x3 x4 w H locs ls hP hS hl hq
      exact (pv_no hq).elim
    | succ n ih =>
      intro x1 x3 x4 w H locs ls hP hS hl hq
      refine lv_iload (pc := 21) hx hb dX6_lays_21 (lv_at hl 3 rfl) ?_
      refine lv_aload_n (pc := 23) hx hb dX6_lays_23 rfl (lv_at hl 0 rfl) ?_
      refine va_get (pc := 24) (D := E.1) (ci := 4) (v := .ref (a 27)) (C := RX6) (T := TX6) (N := 8) hx hb hts i_RX6 hown hK hP 0 rfl rfl 5 (Nat.le_of_ble_eq_true rfl) fl_38 (fun _ h9 => h9) rfl dX6_lays_24 ?_
      refine lv_iload_n (pc := 27) hx hb dX6_lays_27 rfl (lv_at hl 1 rfl) ?_
      obtain ⟨h_3, hq⟩ := pv_gd_some hq
      rcases pv_sh4 h_3 with rfl | rfl | rfl | rfl
      · rw [pv_cl0] at hq
        have hl : lv_has ls 7 [(0, .ref (a 0)), (1, .int 0), (3, .int x3), (4, .int x4)] := hl
        refine va_aldq (pc := 28) (D := E.1) hx hb hK hP 27 2 rfl rfl h_3 dX6_lays_28 ?_
        refine W.eq (g2 := F0 m 29 ls [.ref (a 28), .int x4]) rfl ?_
        refine va_get (pc := 29) (D := E.1) (ci := 1) (v := .int ((w.2.2.2.2.2.1 0).2.1)) (C := RX3) (T := TX3) (N := 3) hx hb hts i_RX3 hown hK hP 28 rfl rfl 2 (Nat.le_of_ble_eq_true rfl) fl_208 (fun _ h9 => h9) rfl dX6_lays_29 ?_
        refine lv_icmp_ge (pc := 32) (tgt := 94) hx hb dX6_lays_32 (by decide) (fun c_4 => ?_) (fun c_4 => ?_)
        · have hq := pv_pos c_4 hq
          refine lv_iload_n (pc := 94) hx hb dX6_lays_94 rfl (lv_at hl 2 rfl) ?_
          exact pv_riRW (w := fun w : pv_XT => pv_wX E a w) hx hb hr hlk hAe hS hP (Option.some.inj hq) dX6_lays_95
        · have hq := pv_neg c_4 hq
          refine lv_iload (pc := 35) hx hb dX6_lays_35 (lv_at hl 3 rfl) ?_
          refine lv_bipush (pc := 37) (v := 8) hx hb dX6_lays_37 (by decide) ?_
          refine lv_icmp_ge (pc := 39) (tgt := 94) hx hb dX6_lays_39 (by decide) (fun c_5 => ?_) (fun c_5 => ?_)
          · have hq := pv_pos c_5 hq
            refine lv_iload_n (pc := 94) hx hb dX6_lays_94 rfl (lv_at hl 2 rfl) ?_
            exact pv_riRW (w := fun w : pv_XT => pv_wX E a w) hx hb hr hlk hAe hS hP (Option.some.inj hq) dX6_lays_95
          · have hq := pv_neg c_5 hq
            refine lv_aload_n (pc := 42) hx hb dX6_lays_42 rfl (lv_at hl 0 rfl) ?_
            refine va_get (pc := 43) (D := E.1) (ci := 4) (v := .ref (a 27)) (C := RX6) (T := TX6) (N := 8) hx hb hts i_RX6 hown hK hP 0 rfl rfl 5 (Nat.le_of_ble_eq_true rfl) fl_38 (fun _ h9 => h9) rfl dX6_lays_43 ?_
            refine lv_iload_n (pc := 46) hx hb dX6_lays_46 rfl (lv_at hl 1 rfl) ?_
            obtain ⟨h_6, hq⟩ := pv_gd_some hq
            refine va_aldq (pc := 47) (D := E.1) hx hb hK hP 27 2 rfl rfl h_6 dX6_lays_47 ?_
            refine W.eq (g2 := F0 m 48 ls [.ref (a 28)]) rfl ?_
            refine va_get (pc := 48) (D := E.1) (ci := 1) (v := .ref (a 29)) (C := RX3) (T := TX3) (N := 3) hx hb hts i_RX3 hown hK hP 28 rfl rfl 0 (Nat.le_of_ble_eq_true rfl) fl_214 (fun _ h9 => h9) rfl dX6_lays_48 ?_
            refine lv_iload (pc := 51) hx hb dX6_lays_51 (lv_at hl 3 rfl) ?_
            obtain ⟨h_7, hq⟩ := pv_gd_some hq
            refine va_lald (pc := 53) (D := E.1) hx hb hK hP 29 1 rfl rfl h_7 dX6_lays_53 ?_
            refine lv_lstore (pc := 54) (lv' := [(5, .long ((w.2.2.2.2.2.1 0).2.2 x4.toNatClampNeg)), (0, .ref (a 0)), (1, .int 0), (3, .int x3), (4, .int x4)]) hx hb dX6_lays_54 hl (Nat.le_of_ble_eq_true rfl) rfl (fun ls hl => ?_)
            refine lv_lload (pc := 56) hx hb dX6_lays_56 (lv_at hl 0 rfl) ?_
            refine lv_ldc2 (pc := 58) hx hb hown lc_237 dX6_lays_58 ?_
            refine W.lcmp (pc := 61) hx hb dX6_lays_61 ?_
            refine lv_if_lt (pc := 62) (tgt := 88) hx hb dX6_lays_62 (by decide) (fun c_8 => ?_) (fun c_8 => ?_)
            · have hq := pv_pos c_8 hq
              exact B_88_0 (m_X6_lays_21 n) ih x3 x4 w H locs ls hP hS (lv_sub hl [1, 2, 3, 4] rfl) hq
            · have hq := pv_neg c_8 hq
              refine lv_lload (pc := 65) hx hb dX6_lays_65 (lv_at hl 0 rfl) ?_
              refine lv_lconst (pc := 67) (v := 1) hx hb dX6_lays_67 (by decide) ?_
              refine W.lcmp (pc := 68) hx hb dX6_lays_68 ?_
              refine lv_if_gt (pc := 69) (tgt := 88) hx hb dX6_lays_69 (by decide) (fun c_9 => ?_) (fun c_9 => ?_)
              · have hq := pv_pos c_9 hq
                exact B_88_0 (m_X6_lays_21 n) ih x3 x4 w H locs ls hP hS (lv_sub hl [1, 2, 3, 4] rfl) hq
              · have hq := pv_neg c_9 hq
                refine lv_aload_n (pc := 72) hx hb dX6_lays_72 rfl (lv_at hl 1 rfl) ?_
                refine va_get (pc := 73) (D := E.1) (ci := 4) (v := .ref (a 1)) (C := RX6) (T := TX6) (N := 8) hx hb hts i_RX6 hown hK hP 0 rfl rfl 0 (Nat.le_of_ble_eq_true rfl) fl_10 (fun _ h9 => h9) rfl dX6_lays_73 ?_
                refine va_get (pc := 76) (D := E.1) (ci := 2) (v := .ref (a 2)) (C := RX4) (T := TX4) (N := 8) hx hb hts i_RX4 hown hK hP 1 rfl rfl 3 (Nat.le_of_ble_eq_true rfl) fl_66 (fun _ h9 => h9) rfl dX6_lays_76 ?_
                refine lv_iload (pc := 79) hx hb dX6_lays_79 (lv_at hl 4 rfl) ?_
                refine lv_lload (pc := 81) hx hb dX6_lays_81 (lv_at hl 0 rfl) ?_
                refine lv_l2i (pc := 83) (v := ((w.2.2.2.2.2.1 0).2.2 x4.toNatClampNeg).toInt32) hx hb dX6_lays_83 rfl ?_
                obtain ⟨h_10, hq⟩ := pv_gd_some hq
                refine va_iast (pc := 84) (D := E.1) hx hb hK hP (hD w) hS 2 0 rfl rfl h_10 dX6_lays_84 (fun H locs hP _ hS => ?_)
                have hP : va_P E.1 vwCl (pv_wX E a ((w.1.1, w.1.2.1, w.1.2.2.1, (upd w.1.2.2.2.1 x4.toNatClampNeg (((w.2.2.2.2.2.1 0).2.2 x4.toNatClampNeg).toInt32)), w.1.2.2.2.2.1, w.1.2.2.2.2.2.1, w.1.2.2.2.2.2.2.1, w.1.2.2.2.2.2.2.2), w.2.1, w.2.2.1, w.2.2.2.1, w.2.2.2.2.1, w.2.2.2.2.2.1, w.2.2.2.2.2.2.1, w.2.2.2.2.2.2.2)) H := hP
                refine lv_iinc (pc := 85) (v := (x3 + 1)) (lv' := [(3, .int (x3 + 1)), (5, .long ((w.2.2.2.2.2.1 0).2.2 x4.toNatClampNeg)), (0, .ref (a 0)), (1, .int 0), (4, .int x4)]) hx hb dX6_lays_85 hl (k := 3) rfl rfl (Nat.le_of_ble_eq_true rfl) rfl (fun ls hl => ?_)
                exact B_88_0 (m_X6_lays_21 n) ih (x3 + 1) x4 ((w.1.1, w.1.2.1, w.1.2.2.1, (upd w.1.2.2.2.1 x4.toNatClampNeg (((w.2.2.2.2.2.1 0).2.2 x4.toNatClampNeg).toInt32)), w.1.2.2.2.2.1, w.1.2.2.2.2.2.1, w.1.2.2.2.2.2.2.1, w.1.2.2.2.2.2.2.2), w.2.1, w.2.2.1, w.2.2.2.1, w.2.2.2.2.1, w.2.2.2.2.2.1, w.2.2.2.2.2.2.1, w.2.2.2.2.2.2.2) H locs ls hP hS (lv_sub hl [2, 3, 0, 4] rfl) hq
      · rw [pv_cl1] at hq
        have hl : lv_has ls 7 [(0, .ref (a 0)), (1, .int 1), (3, .int x3), (4, .int x4)] := hl
        refine va_aldq (pc := 28) (D := E.1) hx hb hK hP 27 2 rfl rfl h_3 dX6_lays_28 ?_
        refine W.eq (g2 := F0 m 29 ls [.ref (a 30), .int x4]) rfl ?_
        refine va_get (pc := 29) (D := E.1) (ci := 1) (v := .int ((w.2.2.2.2.2.1 1).2.1)) (C := RX3) (T := TX3) (N := 3) hx hb hts i_RX3 hown hK hP 30 rfl rfl 2 (Nat.le_of_ble_eq_true rfl) fl_208 (fun _ h9 => h9) rfl dX6_lays_29 ?_
        refine lv_icmp_ge (pc := 32) (tgt := 94) hx hb dX6_lays_32 (by decide) (fun c_11 => ?_) (fun c_11 => ?_)
        · have hq := pv_pos c_11 hq
          refine lv_iload_n (pc := 94) hx hb dX6_lays_94 rfl (lv_at hl 2 rfl) ?_
          exact pv_riRW (w := fun w : pv_XT => pv_wX E a w) hx hb hr hlk hAe hS hP (Option.some.inj hq) dX6_lays_95
        · have hq := pv_neg c_11 hq
          refine lv_iload (pc := 35) hx hb dX6_lays_35 (lv_at hl 3 rfl) ?_
          refine lv_bipush (pc := 37) (v := 8) hx hb dX6_lays_37 (by decide) ?_
          refine lv_icmp_ge (pc := 39) (tgt := 94) hx hb dX6_lays_39 (by decide) (fun c_12 => ?_) (fun c_12 => ?_)
          · have hq := pv_pos c_12 hq
            refine lv_iload_n (pc := 94) hx hb dX6_lays_94 rfl (lv_at hl 2 rfl) ?_
            exact pv_riRW (w := fun w : pv_XT => pv_wX E a w) hx hb hr hlk hAe hS hP (Option.some.inj hq) dX6_lays_95
          · have hq := pv_neg c_12 hq
            refine lv_aload_n (pc := 42) hx hb dX6_lays_42 rfl (lv_at hl 0 rfl) ?_
            refine va_get (pc := 43) (D := E.1) (ci := 4) (v := .ref (a 27)) (C := RX6) (T := TX6) (N := 8) hx hb hts i_RX6 hown hK hP 0 rfl rfl 5 (Nat.le_of_ble_eq_true rfl) fl_38 (fun _ h9 => h9) rfl dX6_lays_43 ?_
            refine lv_iload_n (pc := 46) hx hb dX6_lays_46 rfl (lv_at hl 1 rfl) ?_
            obtain ⟨h_13, hq⟩ := pv_gd_some hq
            refine va_aldq (pc := 47) (D := E.1) hx hb hK hP 27 2 rfl rfl h_13 dX6_lays_47 ?_
            refine W.eq (g2 := F0 m 48 ls [.ref (a 30)]) rfl ?_
            refine va_get (pc := 48) (D := E.1) (ci := 1) (v := .ref (a 31)) (C := RX3) (T := TX3) (N := 3) hx hb hts i_RX3 hown hK hP 30 rfl rfl 0 (Nat.le_of_ble_eq_true rfl) fl_214 (fun _ h9 => h9) rfl dX6_lays_48 ?_
            refine lv_iload (pc := 51) hx hb dX6_lays_51 (lv_at hl 3 rfl) ?_
            obtain ⟨h_14, hq⟩ := pv_gd_some hq
            refine va_lald (pc := 53) (D := E.1) hx hb hK hP 31 1 rfl rfl h_14 dX6_lays_53 ?_
            refine lv_lstore (pc := 54) (lv' := [(5, .long ((w.2.2.2.2.2.1 1).2.2 x4.toNatClampNeg)), (0, .ref (a 0)), (1, .int 1), (3, .int x3), (4, .int x4)]) hx hb dX6_lays_54 hl (Nat.le_of_ble_eq_true rfl) rfl (fun ls hl => ?_)
            refine lv_lload (pc := 56) hx hb dX6_lays_56 (lv_at hl 0 rfl) ?_
            refine lv_ldc2 (pc := 58) hx hb hown lc_237 dX6_lays_58 ?_
            refine W.lcmp (pc := 61) hx hb dX6_lays_61 ?_
            refine lv_if_lt (pc := 62) (tgt := 88) hx hb dX6_lays_62 (by decide) (fun c_15 => ?_) (fun c_15 => ?_)
            · have hq := pv_pos c_15 hq
              exact B_88_1 (m_X6_lays_21 n) ih x3 x4 w H locs ls hP hS (lv_sub hl [1, 2, 3, 4] rfl) hq
            · have hq := pv_neg c_15 hq
              refine lv_lload (pc := 65) hx hb dX6_lays_65 (lv_at hl 0 rfl) ?_
              refine lv_lconst (pc := 67) (v := 1) hx hb dX6_lays_67 (by decide) ?_
              refine W.lcmp (pc := 68) hx hb dX6_lays_68 ?_
              refine lv_if_gt (pc := 69) (tgt := 88) hx hb dX6_lays_69 (by decide) (fun c_16 => ?_) (fun c_16 => ?_)
              · have hq := pv_pos c_16 hq
                exact B_88_1 (m_X6_lays_21 n) ih x3 x4 w H locs ls hP hS (lv_sub hl [1, 2, 3, 4] rfl) hq
              · have hq := pv_neg c_16 hq
                refine lv_aload_n (pc := 72) hx hb dX6_lays_72 rfl (lv_at hl 1 rfl) ?_
                refine va_get (pc := 73) (D := E.1) (ci := 4) (v := .ref (a 1)) (C := RX6) (T := TX6) (N := 8) hx hb hts i_RX6 hown hK hP 0 rfl rfl 0 (Nat.le_of_ble_eq_true rfl) fl_10 (fun _ h9 => h9) rfl dX6_lays_73 ?_
                refine va_get (pc := 76) (D := E.1) (ci := 2) (v := .ref (a 2)) (C := RX4) (T := TX4) (N := 8) hx hb hts i_RX4 hown hK hP 1 rfl rfl 3 (Nat.le_of_ble_eq_true rfl) fl_66 (fun _ h9 => h9) rfl dX6_lays_76 ?_
                refine lv_iload (pc := 79) hx hb dX6_lays_79 (lv_at hl 4 rfl) ?_
                refine lv_lload (pc := 81) hx hb dX6_lays_81 (lv_at hl 0 rfl) ?_
                refine lv_l2i (pc := 83) (v := ((w.2.2.2.2.2.1 1).2.2 x4.toNatClampNeg).toInt32) hx hb dX6_lays_83 rfl ?_
                obtain ⟨h_17, hq⟩ := pv_gd_some hq
                refine va_iast (pc := 84) (D := E.1) hx hb hK hP (hD w) hS 2 0 rfl rfl h_17 dX6_lays_84 (fun H locs hP _ hS => ?_)
                have hP : va_P E.1 vwCl (pv_wX E a ((w.1.1, w.1.2.1, w.1.2.2.1, (upd w.1.2.2.2.1 x4.toNatClampNeg (((w.2.2.2.2.2.1 1).2.2 x4.toNatClampNeg).toInt32)), w.1.2.2.2.2.1, w.1.2.2.2.2.2.1, w.1.2.2.2.2.2.2.1, w.1.2.2.2.2.2.2.2), w.2.1, w.2.2.1, w.2.2.2.1, w.2.2.2.2.1, w.2.2.2.2.2.1, w.2.2.2.2.2.2.1, w.2.2.2.2.2.2.2)) H := hP
                refine lv_iinc (pc := 85) (v := (x3 + 1)) (lv' := [(3, .int (x3 + 1)), (5, .long ((w.2.2.2.2.2.1 1).2.2 x4.toNatClampNeg)), (0, .ref (a 0)), (1, .int 1), (4, .int x4)]) hx hb dX6_lays_85 hl (k := 3) rfl rfl (Nat.le_of_ble_eq_true rfl) rfl (fun ls hl => ?_)
                exact B_88_1 (m_X6_lays_21 n) ih (x3 + 1) x4 ((w.1.1, w.1.2.1, w.1.2.2.1, (upd w.1.2.2.2.1 x4.toNatClampNeg (((w.2.2.2.2.2.1 1).2.2 x4.toNatClampNeg).toInt32)), w.1.2.2.2.2.1, w.1.2.2.2.2.2.1, w.1.2.2.2.2.2.2.1, w.1.2.2.2.2.2.2.2), w.2.1, w.2.2.1, w.2.2.2.1, w.2.2.2.2.1, w.2.2.2.2.2.1, w.2.2.2.2.2.2.1, w.2.2.2.2.2.2.2) H locs ls hP hS (lv_sub hl [2, 3, 0, 4] rfl) hq
      · rw [pv_cl2] at hq
        have hl : lv_has ls 7 [(0, .ref (a 0)), (1, .int 2), (3, .int x3), (4, .int x4)] := hl
        refine va_aldq (pc := 28) (D := E.1) hx hb hK hP 27 2 rfl rfl h_3 dX6_lays_28 ?_
        refine W.eq (g2 := F0 m 29 ls [.ref (a 32), .int x4]) rfl ?_
        refine va_get (pc := 29) (D := E.1) (ci := 1) (v := .int ((w.2.2.2.2.2.1 2).2.1)) (C := RX3) (T := TX3) (N := 3) hx hb hts i_RX3 hown hK hP 32 rfl rfl 2 (Nat.le_of_ble_eq_true rfl) fl_208 (fun _ h9 => h9) rfl dX6_lays_29 ?_
        refine lv_icmp_ge (pc := 32) (tgt := 94) hx hb dX6_lays_32 (by decide) (fun c_18 => ?_) (fun c_18 => ?_)
        · have hq := pv_pos c_18 hq
          refine lv_iload_n (pc := 94) hx hb dX6_lays_94 rfl (lv_at hl 2 rfl) ?_
          exact pv_riRW (w := fun w : pv_XT => pv_wX E a w) hx hb hr hlk hAe hS hP (Option.some.inj hq) dX6_lays_95
        · have hq := pv_neg c_18 hq
          refine lv_iload (pc := 35) hx hb dX6_lays_35 (lv_at hl 3 rfl) ?_
          refine lv_bipush (pc := 37) (v := 8) hx hb dX6_lays_37 (by decide) ?_
          refine lv_icmp_ge (pc := 39) (tgt := 94) hx hb dX6_lays_39 (by decide) (fun c_19 => ?_) (fun c_19 => ?_)
          · have hq := pv_pos c_19 hq
            refine lv_iload_n (pc := 94) hx hb dX6_lays_94 rfl (lv_at hl 2 rfl) ?_
            exact pv_riRW (w := fun w : pv_XT => pv_wX E a w) hx hb hr hlk hAe hS hP (Option.some.inj hq) dX6_lays_95
          · have hq := pv_neg c_19 hq
            refine lv_aload_n (pc := 42) hx hb dX6_lays_42 rfl (lv_at hl 0 rfl) ?_
            refine va_get (pc := 43) (D := E.1) (ci := 4) (v := .ref (a 27)) (C := RX6) (T := TX6) (N := 8) hx hb hts i_RX6 hown hK hP 0 rfl rfl 5 (Nat.le_of_ble_eq_true rfl) fl_38 (fun _ h9 => h9) rfl dX6_lays_43 ?_
            refine lv_iload_n (pc := 46) hx hb dX6_lays_46 rfl (lv_at hl 1 rfl) ?_
            obtain ⟨h_20, hq⟩ := pv_gd_some hq
            refine va_aldq (pc := 47) (D := E.1) hx hb hK hP 27 2 rfl rfl h_20 dX6_lays_47 ?_
            refine W.eq (g2 := F0 m 48 ls [.ref (a 32)]) rfl ?_
            refine va_get (pc := 48) (D := E.1) (ci := 1) (v := .ref (a 33)) (C := RX3) (T := TX3) (N := 3) hx hb hts i_RX3 hown hK hP 32 rfl rfl 0 (Nat.le_of_ble_eq_true rfl) fl_214 (fun _ h9 => h9) rfl dX6_lays_48 ?_
            refine lv_iload (pc := 51) hx hb dX6_lays_51 (lv_at hl 3 rfl) ?_
            obtain ⟨h_21, hq⟩ := pv_gd_some hq
            refine va_lald (pc := 53) (D := E.1) hx hb hK hP 33 1 rfl rfl h_21 dX6_lays_53 ?_
            refine lv_lstore (pc := 54) (lv' := [(5, .long ((w.2.2.2.2.2.1 2).2.2 x4.toNatClampNeg)), (0, .ref (a 0)), (1, .int 2), (3, .int x3), (4, .int x4)]) hx hb dX6_lays_54 hl (Nat.le_of_ble_eq_true rfl) rfl (fun ls hl => ?_)
            refine lv_lload (pc := 56) hx hb dX6_lays_56 (lv_at hl 0 rfl) ?_
            refine lv_ldc2 (pc := 58) hx hb hown lc_237 dX6_lays_58 ?_
            refine W.lcmp (pc := 61) hx hb dX6_lays_61 ?_
            refine lv_if_lt (pc := 62) (tgt := 88) hx hb dX6_lays_62 (by decide) (fun c_22 => ?_) (fun c_22 => ?_)
            · have hq := pv_pos c_22 hq
              exact B_88_2 (m_X6_lays_21 n) ih x3 x4 w H locs ls hP hS (lv_sub hl [1, 2, 3, 4] rfl) hq
            · have hq := pv_neg c_22 hq
              refine lv_lload (pc := 65) hx hb dX6_lays_65 (lv_at hl 0 rfl) ?_
              refine lv_lconst (pc := 67) (v := 1) hx hb dX6_lays_67 (by decide) ?_
              refine W.lcmp (pc := 68) hx hb dX6_lays_68 ?_
              refine lv_if_gt (pc := 69) (tgt := 88) hx hb dX6_lays_69 (by decide) (fun c_23 => ?_) (fun c_23 => ?_)
              · have hq := pv_pos c_23 hq
                exact B_88_2 (m_X6_lays_21 n) ih x3 x4 w H locs ls hP hS (lv_sub hl [1, 2, 3, 4] rfl) hq
              · have hq := pv_neg c_23 hq
                refine lv_aload_n (pc := 72) hx hb dX6_lays_72 rfl (lv_at hl 1 rfl) ?_
                refine va_get (pc := 73) (D := E.1) (ci := 4) (v := .ref (a 1)) (C := RX6) (T := TX6) (N := 8) hx hb hts i_RX6 hown hK hP 0 rfl rfl 0 (Nat.le_of_ble_eq_true rfl) fl_10 (fun _ h9 => h9) rfl dX6_lays_73 ?_
                refine va_get (pc := 76) (D := E.1) (ci := 2) (v := .ref (a 2)) (C := RX4) (T := TX4) (N := 8) hx hb hts i_RX4 hown hK hP 1 rfl rfl 3 (Nat.le_of_ble_eq_true rfl) fl_66 (fun _ h9 => h9) rfl dX6_lays_76 ?_
                refine lv_iload (pc := 79) hx hb dX6_lays_79 (lv_at hl 4 rfl) ?_
                refine lv_lload (pc := 81) hx hb dX6_lays_81 (lv_at hl 0 rfl) ?_
                refine lv_l2i (pc := 83) (v := ((w.2.2.2.2.2.1 2).2.2 x4.toNatClampNeg).toInt32) hx hb dX6_lays_83 rfl ?_
                obtain ⟨h_24, hq⟩ := pv_gd_some hq
                refine va_iast (pc := 84) (D := E.1) hx hb hK hP (hD w) hS 2 0 rfl rfl h_24 dX6_lays_84 (fun H locs hP _ hS => ?_)
                have hP : va_P E.1 vwCl (pv_wX E a ((w.1.1, w.1.2.1, w.1.2.2.1, (upd w.1.2.2.2.1 x4.toNatClampNeg (((w.2.2.2.2.2.1 2).2.2 x4.toNatClampNeg).toInt32)), w.1.2.2.2.2.1, w.1.2.2.2.2.2.1, w.1.2.2.2.2.2.2.1, w.1.2.2.2.2.2.2.2), w.2.1, w.2.2.1, w.2.2.2.1, w.2.2.2.2.1, w.2.2.2.2.2.1, w.2.2.2.2.2.2.1, w.2.2.2.2.2.2.2)) H := hP
                refine lv_iinc (pc := 85) (v := (x3 + 1)) (lv' := [(3, .int (x3 + 1)), (5, .long ((w.2.2.2.2.2.1 2).2.2 x4.toNatClampNeg)), (0, .ref (a 0)), (1, .int 2), (4, .int x4)]) hx hb dX6_lays_85 hl (k := 3) rfl rfl (Nat.le_of_ble_eq_true rfl) rfl (fun ls hl => ?_)
                exact B_88_2 (m_X6_lays_21 n) ih (x3 + 1) x4 ((w.1.1, w.1.2.1, w.1.2.2.1, (upd w.1.2.2.2.1 x4.toNatClampNeg (((w.2.2.2.2.2.1 2).2.2 x4.toNatClampNeg).toInt32)), w.1.2.2.2.2.1, w.1.2.2.2.2.2.1, w.1.2.2.2.2.2.2.1, w.1.2.2.2.2.2.2.2), w.2.1, w.2.2.1, w.2.2.2.1, w.2.2.2.2.1, w.2.2.2.2.2.1, w.2.2.2.2.2.2.1, w.2.2.2.2.2.2.2) H locs ls hP hS (lv_sub hl [2, 3, 0, 4] rfl) hq
      · rw [pv_cl3] at hq
        have hl : lv_has ls 7 [(0, .ref (a 0)), (1, .int 3), (3, .int x3), (4, .int x4)] := hl
        refine va_aldq (pc := 28) (D := E.1) hx hb hK hP 27 2 rfl rfl h_3 dX6_lays_28 ?_
        refine W.eq (g2 := F0 m 29 ls [.ref (a 34), .int x4]) rfl ?_
        refine va_get (pc := 29) (D := E.1) (ci := 1) (v := .int ((w.2.2.2.2.2.1 3).2.1)) (C := RX3) (T := TX3) (N := 3) hx hb hts i_RX3 hown hK hP 34 rfl rfl 2 (Nat.le_of_ble_eq_true rfl) fl_208 (fun _ h9 => h9) rfl dX6_lays_29 ?_
        refine lv_icmp_ge (pc := 32) (tgt := 94) hx hb dX6_lays_32 (by decide) (fun c_25 => ?_) (fun c_25 => ?_)
        · have hq := pv_pos c_25 hq
          refine lv_iload_n (pc := 94) hx hb dX6_lays_94 rfl (lv_at hl 2 rfl) ?_
          exact pv_riRW (w := fun w : pv_XT => pv_wX E a w) hx hb hr hlk hAe hS hP (Option.some.inj hq) dX6_lays_95
        · have hq := pv_neg c_25 hq
          refine lv_iload (pc := 35) hx hb dX6_lays_35 (lv_at hl 3 rfl) ?_
          refine lv_bipush (pc := 37) (v := 8) hx hb dX6_lays_37 (by decide) ?_
          refine lv_icmp_ge (pc := 39) (tgt := 94) hx hb dX6_lays_39 (by decide) (fun c_26 => ?_) (fun c_26 => ?_)
          · have hq := pv_pos c_26 hq
            refine lv_iload_n (pc := 94) hx hb dX6_lays_94 rfl (lv_at hl 2 rfl) ?_
            exact pv_riRW (w := fun w : pv_XT => pv_wX E a w) hx hb hr hlk hAe hS hP (Option.some.inj hq) dX6_lays_95
          · have hq := pv_neg c_26 hq
            refine lv_aload_n (pc := 42) hx hb dX6_lays_42 rfl (lv_at hl 0 rfl) ?_
            refine va_get (pc := 43) (D := E.1) (ci := 4) (v := .ref (a 27)) (C := RX6) (T := TX6) (N := 8) hx hb hts i_RX6 hown hK hP 0 rfl rfl 5 (Nat.le_of_ble_eq_true rfl) fl_38 (fun _ h9 => h9) rfl dX6_lays_43 ?_
            refine lv_iload_n (pc := 46) hx hb dX6_lays_46 rfl (lv_at hl 1 rfl) ?_
            obtain ⟨h_27, hq⟩ := pv_gd_some hq
            refine va_aldq (pc := 47) (D := E.1) hx hb hK hP 27 2 rfl rfl h_27 dX6_lays_47 ?_
            refine W.eq (g2 := F0 m 48 ls [.ref (a 34)]) rfl ?_
            refine va_get (pc := 48) (D := E.1) (ci := 1) (v := .ref (a 35)) (C := RX3) (T := TX3) (N := 3) hx hb hts i_RX3 hown hK hP 34 rfl rfl 0 (Nat.le_of_ble_eq_true rfl) fl_214 (fun _ h9 => h9) rfl dX6_lays_48 ?_
            refine lv_iload (pc := 51) hx hb dX6_lays_51 (lv_at hl 3 rfl) ?_
            obtain ⟨h_28, hq⟩ := pv_gd_some hq
            refine va_lald (pc := 53) (D := E.1) hx hb hK hP 35 1 rfl rfl h_28 dX6_lays_53 ?_
            refine lv_lstore (pc := 54) (lv' := [(5, .long ((w.2.2.2.2.2.1 3).2.2 x4.toNatClampNeg)), (0, .ref (a 0)), (1, .int 3), (3, .int x3), (4, .int x4)]) hx hb dX6_lays_54 hl (Nat.le_of_ble_eq_true rfl) rfl (fun ls hl => ?_)
            refine lv_lload (pc := 56) hx hb dX6_lays_56 (lv_at hl 0 rfl) ?_
            refine lv_ldc2 (pc := 58) hx hb hown lc_237 dX6_lays_58 ?_
            refine W.lcmp (pc := 61) hx hb dX6_lays_61 ?_
            refine lv_if_lt (pc := 62) (tgt := 88) hx hb dX6_lays_62 (by decide) (fun c_29 => ?_) (fun c_29 => ?_)
            · have hq := pv_pos c_29 hq
              exact B_88_3 (m_X6_lays_21 n) ih x3 x4 w H locs ls hP hS (lv_sub hl [1, 2, 3, 4] rfl) hq
            · have hq := pv_neg c_29 hq
              refine lv_lload (pc := 65) hx hb dX6_lays_65 (lv_at hl 0 rfl) ?_
              refine lv_lconst (pc := 67) (v := 1) hx hb dX6_lays_67 (by decide) ?_
              refine W.lcmp (pc := 68) hx hb dX6_lays_68 ?_
              refine lv_if_gt (pc := 69) (tgt := 88) hx hb dX6_lays_69 (by decide) (fun c_30 => ?_) (fun c_30 => ?_)
              · have hq := pv_pos c_30 hq
                exact B_88_3 (m_X6_lays_21 n) ih x3 x4 w H locs ls hP hS (lv_sub hl [1, 2, 3, 4] rfl) hq
              · have hq := pv_neg c_30 hq
                refine lv_aload_n (pc := 72) hx hb dX6_lays_72 rfl (lv_at hl 1 rfl) ?_
                refine va_get (pc := 73) (D := E.1) (ci := 4) (v := .ref (a 1)) (C := RX6) (T := TX6) (N := 8) hx hb hts i_RX6 hown hK hP 0 rfl rfl 0 (Nat.le_of_ble_eq_true rfl) fl_10 (fun _ h9 => h9) rfl dX6_lays_73 ?_
                refine va_get (pc := 76) (D := E.1) (ci := 2) (v := .ref (a 2)) (C := RX4) (T := TX4) (N := 8) hx hb hts i_RX4 hown hK hP 1 rfl rfl 3 (Nat.le_of_ble_eq_true rfl) fl_66 (fun _ h9 => h9) rfl dX6_lays_76 ?_
                refine lv_iload (pc := 79) hx hb dX6_lays_79 (lv_at hl 4 rfl) ?_
                refine lv_lload (pc := 81) hx hb dX6_lays_81 (lv_at hl 0 rfl) ?_
                refine lv_l2i (pc := 83) (v := ((w.2.2.2.2.2.1 3).2.2 x4.toNatClampNeg).toInt32) hx hb dX6_lays_83 rfl ?_
                obtain ⟨h_31, hq⟩ := pv_gd_some hq
                refine va_iast (pc := 84) (D := E.1) hx hb hK hP (hD w) hS 2 0 rfl rfl h_31 dX6_lays_84 (fun H locs hP _ hS => ?_)
                have hP : va_P E.1 vwCl (pv_wX E a ((w.1.1, w.1.2.1, w.1.2.2.1, (upd w.1.2.2.2.1 x4.toNatClampNeg (((w.2.2.2.2.2.1 3).2.2 x4.toNatClampNeg).toInt32)), w.1.2.2.2.2.1, w.1.2.2.2.2.2.1, w.1.2.2.2.2.2.2.1, w.1.2.2.2.2.2.2.2), w.2.1, w.2.2.1, w.2.2.2.1, w.2.2.2.2.1, w.2.2.2.2.2.1, w.2.2.2.2.2.2.1, w.2.2.2.2.2.2.2)) H := hP
                refine lv_iinc (pc := 85) (v := (x3 + 1)) (lv' := [(3, .int (x3 + 1)), (5, .long ((w.2.2.2.2.2.1 3).2.2 x4.toNatClampNeg)), (0, .ref (a 0)), (1, .int 3), (4, .int x4)]) hx hb dX6_lays_85 hl (k := 3) rfl rfl (Nat.le_of_ble_eq_true rfl) rfl (fun ls hl => ?_)
                exact B_88_3 (m_X6_lays_21 n) ih (x3 + 1) x4 ((w.1.1, w.1.2.1, w.1.2.2.1, (upd w.1.2.2.2.1 x4.toNatClampNeg (((w.2.2.2.2.2.1 3).2.2 x4.toNatClampNeg).toInt32)), w.1.2.2.2.2.1, w.1.2.2.2.2.2.1, w.1.2.2.2.2.2.2.1, w.1.2.2.2.2.2.2.2), w.2.1, w.2.2.1, w.2.2.2.1, w.2.2.2.2.1, w.2.2.2.2.2.1, w.2.2.2.2.2.2.1, w.2.2.2.2.2.2.2) H locs ls hP hS (lv_sub hl [2, 3, 0, 4] rfl) hq
  suffices M0 : ∀ (H : Heap) (locs : List Loc), va_P E.1 vwCl (pv_wX E a w0) H → va_S A s.heap H locs → W p l e r_X6_lays s m args below meth c H locs 0 0 (MQ below (pv_Rw E (pv_wX E a w0) sz (some (.int F.1)) ((fun w : pv_XT => pv_wX E a w) F.2)) args s 0 0 A) (F0 m 0 ls []) from M0 s.heap [] hP hS
  intro H locs hP hS
  refine lv_aload_n (pc := 0) hx hb dX6_lays_0 rfl (lv_at hl 0 rfl) ?_
  refine lv_iload_n (pc := 1) hx hb dX6_lays_1 rfl (lv_at hl 1 rfl) ?_
  obtain ⟨u_1, hu_1, hq⟩ := pv_bind hq
  refine pv_vROf (pc := 2) (rest := []) (st1 := [.int u_1]) (ws := pv_wX E a w0) [.int x1] ⟨hx, hb, hml, hown, hts⟩ hE hA hS hP (hD w0) (c_X6_unfitSheet l E a x1 w0 u_1 hu_1) (cwV 1 hts gX6_lays_X6_unfitSheet rfl rfl rfl (by decide +kernel) ⟨(Nat.le_of_ble_eq_true rfl), (Nat.le_of_ble_eq_true rfl)⟩) (va_recv hK hP (ci := 4) (q0 := 0) rfl rfl) rfl hl.1 rfl rfl (Nat.le_of_ble_eq_true rfl) dX6_lays_2 ⟨Nat.zero_le _, Nat.zero_le _⟩ (fun locs hS => ?_)
  refine lv_istore_n (pc := 5) (lv' := [(2, .int u_1), (0, .ref (a 0)), (1, .int x1)]) hx hb dX6_lays_5 rfl hl (Nat.le_of_ble_eq_true rfl) rfl (fun ls hl => ?_)
  refine lv_iload_n (pc := 6) hx hb dX6_lays_6 rfl (lv_at hl 0 rfl) ?_
  refine lv_if_eq (pc := 7) (tgt := 16) hx hb dX6_lays_7 (by decide) (fun c_2 => ?_) (fun c_2 => ?_)
  · have hq := pv_pos c_2 hq
    refine lv_iconst (pc := 16) (v := 0) hx hb dX6_lays_16 (by decide) ?_
    refine lv_istore_n (pc := 17) (lv' := [(3, .int 0), (2, .int u_1), (0, .ref (a 0)), (1, .int x1)]) hx hb dX6_lays_17 rfl hl (Nat.le_of_ble_eq_true rfl) rfl (fun ls hl => ?_)
    refine lv_iconst (pc := 18) (v := 0) hx hb dX6_lays_18 (by decide) ?_
    refine lv_istore (pc := 19) (lv' := [(4, .int 0), (3, .int 0), (2, .int u_1), (0, .ref (a 0)), (1, .int x1)]) hx hb dX6_lays_19 hl (Nat.le_of_ble_eq_true rfl) rfl (fun ls hl => ?_)
    exact L_21 300 x1 0 0 w0 H locs ls hP hS (lv_sub hl [3, 4, 1, 0] rfl) hq
  · have hq := pv_neg c_2 hq
    refine lv_aload_n (pc := 10) hx hb dX6_lays_10 rfl (lv_at hl 1 rfl) ?_
    refine lv_iload_n (pc := 11) hx hb dX6_lays_11 rfl (lv_at hl 0 rfl) ?_
    obtain ⟨u_32, hu_32, hq⟩ := pv_bind hq
    refine pv_vRWf (pc := 12) (rest := []) (st1 := [.int u_32.1]) (ws := pv_wX E a w0) [.int u_1] ⟨hx, hb, hml, hown, hts⟩ hE hA hS hP (hD w0) (c_X6_finding l E a u_1 w0 u_32 hu_32) (cwV 1 hts gX6_lays_X6_finding rfl rfl rfl (by decide +kernel) ⟨(Nat.le_of_ble_eq_true rfl), (Nat.le_of_ble_eq_true rfl)⟩) (va_recv hK hP (ci := 4) (q0 := 0) rfl rfl) rfl hl.1 rfl rfl (Nat.le_of_ble_eq_true rfl) dX6_lays_12 ⟨Nat.zero_le _, Nat.zero_le _⟩ (fun H locs hP hS => ?_)
    have hP : va_P E.1 vwCl (pv_wX E a u_32.2) H := hP
    exact pv_riRW (w := fun w : pv_XT => pv_wX E a w) hx hb hr hlk hAe hS hP (Option.some.inj hq) dX6_lays_15
