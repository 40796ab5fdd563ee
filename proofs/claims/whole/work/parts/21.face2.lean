def m_X6_trick_18  (w : pv_XT) : Option (Int32 × pv_XT) :=
  Option.bind (m_X6_finding (-1000000001) w) fun u_2 => (some (u_2.1, u_2.2))
def m_X6_trick (x1 : Int32) (x2 : Int32) (w : pv_XT) : Option (Int32 × pv_XT) :=
  if (m_X6_isWithin x1 0 3) = 0 then (m_X6_trick_18 w) else (if (m_X6_isWithin x2 0 3) = 0 then (m_X6_trick_18 w) else (Option.bind (m_X4_bothSent w.1) fun u_4 => (if u_4 = 0 then (Option.bind (m_X6_finding (-1000000005) w) fun u_14 => (some (u_14.1, u_14.2))) else (Option.bind (m_X1_play (w.1, w.2.2.2.1)) fun u_6 => (if x2 = 0 then (pv_gd x1 4 (some ((u_6.2.2.1 x1.toNatClampNeg), (u_6.1, w.2.1, w.2.2.1, u_6.2, w.2.2.2.2.1, w.2.2.2.2.2.1, w.2.2.2.2.2.2.1, w.2.2.2.2.2.2.2)))) else if x2 = 1 then (pv_gd x1 4 (some ((u_6.2.2.2.1 x1.toNatClampNeg), (u_6.1, w.2.1, w.2.2.1, u_6.2, w.2.2.2.2.1, w.2.2.2.2.2.1, w.2.2.2.2.2.2.1, w.2.2.2.2.2.2.2)))) else if x2 = 2 then (pv_gd x1 4 (some ((u_6.2.2.2.2.1 x1.toNatClampNeg), (u_6.1, w.2.1, w.2.2.1, u_6.2, w.2.2.2.2.1, w.2.2.2.2.2.1, w.2.2.2.2.2.2.1, w.2.2.2.2.2.2.2)))) else (pv_gd x1 4 (some ((u_6.2.2.2.2.2 x1.toNatClampNeg), (u_6.1, w.2.1, w.2.2.1, u_6.2, w.2.2.2.2.1, w.2.2.2.2.2.1, w.2.2.2.2.2.2.1, w.2.2.2.2.2.2.2)))))))))
abbrev r_X6_trick : Room := { frames := 5, cells := 0, slots := 0, locals := 121 }
set_option maxHeartbeats 4000000 in
set_option maxRecDepth 100000 in
theorem c_X6_trick (l : Launch) (E : pv_E) (a : Nat → Nat) (x1 : Int32) (x2 : Int32) (w0 : pv_XT) (F : Int32 × pv_XT) (hq : m_X6_trick x1 x2 w0 = some F) : pv_RW l E yX6_trick wsX6_trick r_X6_trick (pv_wX E a w0) [.ref (a 0), .int x1, .int x2] (some (.int F.1)) (pv_wX E a F.2) := by
  intro sz
  refine pv_mk (by decide) rfl (Nat.le_of_ble_eq_true rfl) ?_
  intro p e s m args below meth c A hx hb hr hml hown hts hlk hAe hP hD0 hA hE hS ls hl
  have hown : s.vm.findClass RX6 = some m.cls := hown
  have hK := hE.1
  have hD : ∀ w : pv_XT, va_D A (pv_wX E a w) := fun w => pv_Dm (ws := pv_wX E a w0) (ws' := pv_wX E a w) rfl hD0
  have hP : va_P E.1 vwCl (pv_wX E a w0) s.heap := hP
  have lc_51 : (Cond.constant RX6 51 (-1000000001)).before args s = true := hts _ (by decide +kernel)
  have fl_10 : (Cond.fieldLink RX6 10 "ProvinceCards" "table" "LProvinceCards$Table;").before args s = true := hts _ (by decide +kernel)
  have fl_25 : (Cond.fieldLink RX6 25 "ProvinceCards" "game" "LProvinceCards$Game;").before args s = true := hts _ (by decide +kernel)
  have fl_150 : (Cond.fieldLink RX6 150 "ProvinceCards$Game" "played0" "[I").before args s = true := hts _ (by decide +kernel)
  have fl_153 : (Cond.fieldLink RX6 153 "ProvinceCards$Game" "played1" "[I").before args s = true := hts _ (by decide +kernel)
  have fl_156 : (Cond.fieldLink RX6 156 "ProvinceCards$Game" "leader" "[I").before args s = true := hts _ (by decide +kernel)
  have fl_159 : (Cond.fieldLink RX6 159 "ProvinceCards$Game" "winner" "[I").before args s = true := hts _ (by decide +kernel)
  have lc_145 : (Cond.constant RX6 145 (-1000000005)).before args s = true := hts _ (by decide +kernel)
  have i_RX6 : ∀ w ∈ wsX60, w ∈ wsX6_trick := by decide +kernel
  have i_RX1 : ∀ w ∈ wsX10, w ∈ wsX6_trick := by decide +kernel
  have hl : lv_has ls 3 [(0, .ref (a 0)), (1, .int x1), (2, .int x2)] := hl
  have B_18 : ∀  (w : pv_XT) (H : Heap) (locs : List Loc) (ls : Array Slot), va_P E.1 vwCl (pv_wX E a w) H → va_S A s.heap H locs → lv_has ls 3 [(0, .ref (a 0))] → m_X6_trick_18 w = some F → W p l e r_X6_trick s m args below meth c H locs 0 0 (MQ below (pv_Rw E (pv_wX E a w0) sz (some (.int F.1)) ((fun w : pv_XT => pv_wX E a w) F.2)) args s 0 0 A) (F0 m 18 ls []) := by
    intro w H locs ls hP hS hl hq
    refine lv_aload_n (pc := 18) hx hb dX6_trick_18 rfl (lv_at hl 0 rfl) ?_
    refine lv_ldc (pc := 19) hx hb hown lc_51 dX6_trick_19 ?_
    obtain ⟨u_2, hu_2, hq⟩ := pv_bind hq
    refine pv_vRWf (pc := 21) (rest := []) (st1 := [.int u_2.1]) (ws := pv_wX E a w) [.int (-1000000001)] ⟨hx, hb, hml, hown, hts⟩ hE hA hS hP (hD w) (c_X6_finding l E a (-1000000001) w u_2 hu_2) (cwV 1 hts gX6_trick_X6_finding rfl rfl rfl (by decide +kernel) ⟨(Nat.le_of_ble_eq_true rfl), (Nat.le_of_ble_eq_true rfl)⟩) (va_recv hK hP (ci := 4) (q0 := 0) rfl rfl) rfl hl.1 rfl rfl (Nat.le_of_ble_eq_true rfl) dX6_trick_21 ⟨Nat.zero_le _, Nat.zero_le _⟩ (fun H locs hP hS => ?_)
    have hP : va_P E.1 vwCl (pv_wX E a u_2.2) H := hP
    exact pv_riRW (w := fun w : pv_XT => pv_wX E a w) hx hb hr hlk hAe hS hP (Option.some.inj hq) dX6_trick_24
  suffices M0 : ∀ (H : Heap) (locs : List Loc), va_P E.1 vwCl (pv_wX E a w0) H → va_S A s.heap H locs → W p l e r_X6_trick s m args below meth c H locs 0 0 (MQ below (pv_Rw E (pv_wX E a w0) sz (some (.int F.1)) ((fun w : pv_XT => pv_wX E a w) F.2)) args s 0 0 A) (F0 m 0 ls []) from M0 s.heap [] hP hS
  intro H locs hP hS
  refine lv_iload_n (pc := 0) hx hb dX6_trick_0 rfl (lv_at hl 1 rfl) ?_
  refine lv_iconst (pc := 1) (v := 0) hx hb dX6_trick_1 (by decide) ?_
  refine lv_iconst (pc := 2) (v := 3) hx hb dX6_trick_2 (by decide) ?_
  refine pv_sRO (pc := 3) (rest := []) (st1 := [.int (m_X6_isWithin x1 0 3)]) (ws := pv_wX E a w0) [.int x1, .int 0, .int 3] ⟨hx, hb, hml, hown, hts⟩ hE hA hS hP (hD w0) (c_X6_isWithin l E x1 0 3) (va_cwS 3 hts gX6_trick_X6_isWithin rfl rfl rfl (by decide +kernel) ⟨(Nat.le_of_ble_eq_true rfl), (Nat.le_of_ble_eq_true rfl)⟩) [] rfl rfl rfl hl.1 rfl rfl (Nat.le_of_ble_eq_true rfl) dX6_trick_3 ⟨Nat.zero_le _, Nat.zero_le _⟩ (fun locs hS => ?_)
  refine lv_if_eq (pc := 6) (tgt := 18) hx hb dX6_trick_6 (by decide) (fun c_1 => ?_) (fun c_1 => ?_)
  · have hq := pv_pos c_1 hq
    exact B_18 w0 H locs ls hP hS (lv_sub hl [0] rfl) hq
  · have hq := pv_neg c_1 hq
    refine lv_iload_n (pc := 9) hx hb dX6_trick_9 rfl (lv_at hl 2 rfl) ?_
    refine lv_iconst (pc := 10) (v := 0) hx hb dX6_trick_10 (by decide) ?_
    refine lv_iconst (pc := 11) (v := 3) hx hb dX6_trick_11 (by decide) ?_
    refine pv_sRO (pc := 12) (rest := []) (st1 := [.int (m_X6_isWithin x2 0 3)]) (ws := pv_wX E a w0) [.int x2, .int 0, .int 3] ⟨hx, hb, hml, hown, hts⟩ hE hA hS hP (hD w0) (c_X6_isWithin l E x2 0 3) (va_cwS 3 hts gX6_trick_X6_isWithin rfl rfl rfl (by decide +kernel) ⟨(Nat.le_of_ble_eq_true rfl), (Nat.le_of_ble_eq_true rfl)⟩) [] rfl rfl rfl hl.1 rfl rfl (Nat.le_of_ble_eq_true rfl) dX6_trick_12 ⟨Nat.zero_le _, Nat.zero_le _⟩ (fun locs hS => ?_)
    refine lv_if_ne (pc := 15) (tgt := 25) hx hb dX6_trick_15 (by decide) (fun c_3 => ?_) (fun c_3 => ?_)
    · have hq := pv_neg c_3 hq
      refine lv_aload_n (pc := 25) hx hb dX6_trick_25 rfl (lv_at hl 0 rfl) ?_
      refine va_get (pc := 26) (D := E.1) (ci := 4) (v := .ref (a 1)) (C := RX6) (T := TX6) (N := 8) hx hb hts i_RX6 hown hK hP 0 rfl rfl 0 (Nat.le_of_ble_eq_true rfl) fl_10 (fun _ h9 => h9) rfl dX6_trick_26 ?_
      obtain ⟨u_4, hu_4, hq⟩ := pv_bind hq
      refine pv_vRO (pc := 29) (rest := []) (st1 := [.int u_4]) (ws := pv_wX E a w0) [] ⟨hx, hb, hml, hown, hts⟩ hE hA hS hP (hD w0) (c_X4_bothSent l E (a 1) (a 2) (a 3) (a 4) (a 5) (a 6) w0.1 u_4 hu_4) (cwV 0 hts gX6_trick_X4_bothSent rfl rfl rfl (by decide +kernel) ⟨(Nat.le_of_ble_eq_true rfl), (Nat.le_of_ble_eq_true rfl)⟩) (va_recv hK hP (ci := 2) (q0 := 1) rfl rfl) [1, 2, 3, 4, 5, 6] rfl rfl rfl hl.1 rfl rfl (Nat.le_of_ble_eq_true rfl) dX6_trick_29 ⟨Nat.zero_le _, Nat.zero_le _⟩ (fun locs hS => ?_)
      refine lv_if_ne (pc := 32) (tgt := 42) hx hb dX6_trick_32 (by decide) (fun c_5 => ?_) (fun c_5 => ?_)
      · have hq := pv_neg c_5 hq
        refine lv_aload_n (pc := 42) hx hb dX6_trick_42 rfl (lv_at hl 0 rfl) ?_
        refine va_get (pc := 43) (D := E.1) (ci := 4) (v := .ref (a 19)) (C := RX6) (T := TX6) (N := 8) hx hb hts i_RX6 hown hK hP 0 rfl rfl 3 (Nat.le_of_ble_eq_true rfl) fl_25 (fun _ h9 => h9) rfl dX6_trick_43 ?_
        refine lv_aload_n (pc := 46) hx hb dX6_trick_46 rfl (lv_at hl 0 rfl) ?_
        refine va_get (pc := 47) (D := E.1) (ci := 4) (v := .ref (a 1)) (C := RX6) (T := TX6) (N := 8) hx hb hts i_RX6 hown hK hP 0 rfl rfl 0 (Nat.le_of_ble_eq_true rfl) fl_10 (fun _ h9 => h9) rfl dX6_trick_47 ?_
        obtain ⟨u_6, hu_6, hq⟩ := pv_bind hq
        refine pv_vRW (pc := 50) (rest := []) (st1 := []) (ws := pv_wX E a w0) (ws' := pv_wX E a (u_6.1, w0.2.1, w0.2.2.1, u_6.2, w0.2.2.2.2.1, w0.2.2.2.2.2.1, w0.2.2.2.2.2.2.1, w0.2.2.2.2.2.2.2)) [.ref (a 1)] ⟨hx, hb, hml, hown, hts⟩ hE hA hS hP (hD w0) (c_X1_play l E (a 1) (a 2) (a 3) (a 4) (a 5) (a 6) (a 19) (a 20) (a 21) (a 22) (a 23) (a 24) (w0.1, w0.2.2.2.1) u_6 hu_6) (cwV 1 hts gX6_trick_X1_play rfl rfl rfl (by decide +kernel) ⟨(Nat.le_of_ble_eq_true rfl), (Nat.le_of_ble_eq_true rfl)⟩) (va_recv hK hP (ci := 0) (q0 := 19) rfl rfl) [1, 2, 3, 4, 5, 6, 19, 20, 21, 22, 23, 24] rfl rfl rfl rfl rfl hl.1 rfl rfl (Nat.le_of_ble_eq_true rfl) dX6_trick_50 ⟨Nat.zero_le _, Nat.zero_le _⟩ (fun H locs hP hS => ?_)
        refine lv_iload_n (pc := 53) hx hb dX6_trick_53 rfl (lv_at hl 2 rfl) ?_
        by_cases c_7 : x2 = 0
        · have hq := pv_pos c_7 hq
          refine lv_tableIn (pc := 54) (tgt := 80) (off := 26) hx hb dX6_trick_54 (by rw [c_7]; decide) (by rw [c_7]; decide) (by rw [c_7]; rfl) (by decide) ?_
          refine lv_aload_n (pc := 80) hx hb dX6_trick_80 rfl (lv_at hl 0 rfl) ?_
          refine va_get (pc := 81) (D := E.1) (ci := 4) (v := .ref (a 19)) (C := RX6) (T := TX6) (N := 8) hx hb hts i_RX6 hown hK hP 0 rfl rfl 3 (Nat.le_of_ble_eq_true rfl) fl_25 (fun _ h9 => h9) rfl dX6_trick_81 ?_
          refine va_get (pc := 84) (D := E.1) (ci := 0) (v := .ref (a 21)) (C := RX1) (T := TX1) (N := 5) hx hb hts i_RX1 hown hK hP 19 rfl rfl 1 (Nat.le_of_ble_eq_true rfl) fl_150 (fun _ h9 => h9) rfl dX6_trick_84 ?_
          refine lv_iload_n (pc := 87) hx hb dX6_trick_87 rfl (lv_at hl 1 rfl) ?_
          obtain ⟨h_8, hq⟩ := pv_gd_some hq
          refine va_iald (pc := 88) (D := E.1) hx hb hK hP 21 0 rfl rfl h_8 dX6_trick_88 ?_
          exact pv_riRW (w := fun w : pv_XT => pv_wX E a w) hx hb hr hlk hAe hS hP (Option.some.inj hq) dX6_trick_89
        have hq := pv_neg c_7 hq
        by_cases c_9 : x2 = 1
        · have hq := pv_pos c_9 hq
          refine lv_tableIn (pc := 54) (tgt := 90) (off := 36) hx hb dX6_trick_54 (by rw [c_9]; decide) (by rw [c_9]; decide) (by rw [c_9]; rfl) (by decide) ?_
          refine lv_aload_n (pc := 90) hx hb dX6_trick_90 rfl (lv_at hl 0 rfl) ?_
          refine va_get (pc := 91) (D := E.1) (ci := 4) (v := .ref (a 19)) (C := RX6) (T := TX6) (N := 8) hx hb hts i_RX6 hown hK hP 0 rfl rfl 3 (Nat.le_of_ble_eq_true rfl) fl_25 (fun _ h9 => h9) rfl dX6_trick_91 ?_
          refine va_get (pc := 94) (D := E.1) (ci := 0) (v := .ref (a 22)) (C := RX1) (T := TX1) (N := 5) hx hb hts i_RX1 hown hK hP 19 rfl rfl 2 (Nat.le_of_ble_eq_true rfl) fl_153 (fun _ h9 => h9) rfl dX6_trick_94 ?_
          refine lv_iload_n (pc := 97) hx hb dX6_trick_97 rfl (lv_at hl 1 rfl) ?_
          obtain ⟨h_10, hq⟩ := pv_gd_some hq
          refine va_iald (pc := 98) (D := E.1) hx hb hK hP 22 0 rfl rfl h_10 dX6_trick_98 ?_
          exact pv_riRW (w := fun w : pv_XT => pv_wX E a w) hx hb hr hlk hAe hS hP (Option.some.inj hq) dX6_trick_99
        have hq := pv_neg c_9 hq
        by_cases c_11 : x2 = 2
        · have hq := pv_pos c_11 hq
          refine lv_tableIn (pc := 54) (tgt := 100) (off := 46) hx hb dX6_trick_54 (by rw [c_11]; decide) (by rw [c_11]; decide) (by rw [c_11]; rfl) (by decide) ?_
          refine lv_aload_n (pc := 100) hx hb dX6_trick_100 rfl (lv_at hl 0 rfl) ?_
          refine va_get (pc := 101) (D := E.1) (ci := 4) (v := .ref (a 19)) (C := RX6) (T := TX6) (N := 8) hx hb hts i_RX6 hown hK hP 0 rfl rfl 3 (Nat.le_of_ble_eq_true rfl) fl_25 (fun _ h9 => h9) rfl dX6_trick_101 ?_
          refine va_get (pc := 104) (D := E.1) (ci := 0) (v := .ref (a 23)) (C := RX1) (T := TX1) (N := 5) hx hb hts i_RX1 hown hK hP 19 rfl rfl 3 (Nat.le_of_ble_eq_true rfl) fl_156 (fun _ h9 => h9) rfl dX6_trick_104 ?_
          refine lv_iload_n (pc := 107) hx hb dX6_trick_107 rfl (lv_at hl 1 rfl) ?_
          obtain ⟨h_12, hq⟩ := pv_gd_some hq
          refine va_iald (pc := 108) (D := E.1) hx hb hK hP 23 0 rfl rfl h_12 dX6_trick_108 ?_
          exact pv_riRW (w := fun w : pv_XT => pv_wX E a w) hx hb hr hlk hAe hS hP (Option.some.inj hq) dX6_trick_109
        have hq := pv_neg c_11 hq
        refine lv_tableOut (pc := 54) (tgt := 110) hx hb dX6_trick_54 (pv_swr (x := x2) 0 2 (fun k h1 h2 => (fun e7 => Or.elim e7 (fun e8 e9 => c_7 ((e9.trans (congrArg Int32.ofInt e8)).trans (by decide))) (fun e7 => Or.elim e7 (fun e8 e9 => c_9 ((e9.trans (congrArg Int32.ofInt e8)).trans (by decide))) (fun e8 e9 => c_11 ((e9.trans (congrArg Int32.ofInt e8)).trans (by decide))))) (show k = 0 ∨ k = 1 ∨ k = 2 by omega))) (by decide) ?_
        refine lv_aload_n (pc := 110) hx hb dX6_trick_110 rfl (lv_at hl 0 rfl) ?_
        refine va_get (pc := 111) (D := E.1) (ci := 4) (v := .ref (a 19)) (C := RX6) (T := TX6) (N := 8) hx hb hts i_RX6 hown hK hP 0 rfl rfl 3 (Nat.le_of_ble_eq_true rfl) fl_25 (fun _ h9 => h9) rfl dX6_trick_111 ?_
        refine va_get (pc := 114) (D := E.1) (ci := 0) (v := .ref (a 24)) (C := RX1) (T := TX1) (N := 5) hx hb hts i_RX1 hown hK hP 19 rfl rfl 4 (Nat.le_of_ble_eq_true rfl) fl_159 (fun _ h9 => h9) rfl dX6_trick_114 ?_
        refine lv_iload_n (pc := 117) hx hb dX6_trick_117 rfl (lv_at hl 1 rfl) ?_
        obtain ⟨h_13, hq⟩ := pv_gd_some hq
        refine va_iald (pc := 118) (D := E.1) hx hb hK hP 24 0 rfl rfl h_13 dX6_trick_118 ?_
        exact pv_riRW (w := fun w : pv_XT => pv_wX E a w) hx hb hr hlk hAe hS hP (Option.some.inj hq) dX6_trick_119
      · have hq := pv_pos c_5 hq
        refine lv_aload_n (pc := 35) hx hb dX6_trick_35 rfl (lv_at hl 0 rfl) ?_
        refine lv_ldc (pc := 36) hx hb hown lc_145 dX6_trick_36 ?_
        obtain ⟨u_14, hu_14, hq⟩ := pv_bind hq
        refine pv_vRWf (pc := 38) (rest := []) (st1 := [.int u_14.1]) (ws := pv_wX E a w0) [.int (-1000000005)] ⟨hx, hb, hml, hown, hts⟩ hE hA hS hP (hD w0) (c_X6_finding l E a (-1000000005) w0 u_14 hu_14) (cwV 1 hts gX6_trick_X6_finding rfl rfl rfl (by decide +kernel) ⟨(Nat.le_of_ble_eq_true rfl), (Nat.le_of_ble_eq_true rfl)⟩) (va_recv hK hP (ci := 4) (q0 := 0) rfl rfl) rfl hl.1 rfl rfl (Nat.le_of_ble_eq_true rfl) dX6_trick_38 ⟨Nat.zero_le _, Nat.zero_le _⟩ (fun H locs hP hS => ?_)
        have hP : va_P E.1 vwCl (pv_wX E a u_14.2) H := hP
        exact pv_riRW (w := fun w : pv_XT => pv_wX E a w) hx hb hr hlk hAe hS hP (Option.some.inj hq) dX6_trick_41
    · have hq := pv_pos c_3 hq
      exact B_18 w0 H locs ls hP hS (lv_sub hl [0] rfl) hq
def m_X6_tricks  (w : pv_XT) : Option (Int32 × pv_XT) :=
  Option.bind (m_X4_bothSent w.1) fun u_1 => (if u_1 = 0 then (Option.bind (m_X6_finding (-1000000005) w) fun u_5 => (some (u_5.1, u_5.2))) else (Option.bind (m_X1_play (w.1, w.2.2.2.1)) fun u_3 => (Option.bind (m_X1_tricksOfFirst u_3.2) fun u_4 => (some (u_4, (u_3.1, w.2.1, w.2.2.1, u_3.2, w.2.2.2.2.1, w.2.2.2.2.2.1, w.2.2.2.2.2.2.1, w.2.2.2.2.2.2.2))))))
abbrev r_X6_tricks : Room := { frames := 5, cells := 0, slots := 0, locals := 121 }
set_option maxHeartbeats 4000000 in
set_option maxRecDepth 100000 in
theorem c_X6_tricks (l : Launch) (E : pv_E) (a : Nat → Nat)  (w0 : pv_XT) (F : Int32 × pv_XT) (hq : m_X6_tricks w0 = some F) : pv_RW l E yX6_tricks wsX6_tricks r_X6_tricks (pv_wX E a w0) [.ref (a 0)] (some (.int F.1)) (pv_wX E a F.2) := by
  intro sz
  refine pv_mk (by decide) rfl (Nat.le_of_ble_eq_true rfl) ?_
  intro p e s m args below meth c A hx hb hr hml hown hts hlk hAe hP hD0 hA hE hS ls hl
  have hown : s.vm.findClass RX6 = some m.cls := hown
  have hK := hE.1
  have hD : ∀ w : pv_XT, va_D A (pv_wX E a w) := fun w => pv_Dm (ws := pv_wX E a w0) (ws' := pv_wX E a w) rfl hD0
  have hP : va_P E.1 vwCl (pv_wX E a w0) s.heap := hP
  have fl_10 : (Cond.fieldLink RX6 10 "ProvinceCards" "table" "LProvinceCards$Table;").before args s = true := hts _ (by decide +kernel)
  have fl_25 : (Cond.fieldLink RX6 25 "ProvinceCards" "game" "LProvinceCards$Game;").before args s = true := hts _ (by decide +kernel)
  have lc_145 : (Cond.constant RX6 145 (-1000000005)).before args s = true := hts _ (by decide +kernel)
  have i_RX6 : ∀ w ∈ wsX60, w ∈ wsX6_tricks := by decide +kernel
  have hl : lv_has ls 1 [(0, .ref (a 0))] := hl
  suffices M0 : ∀ (H : Heap) (locs : List Loc), va_P E.1 vwCl (pv_wX E a w0) H → va_S A s.heap H locs → W p l e r_X6_tricks s m args below meth c H locs 0 0 (MQ below (pv_Rw E (pv_wX E a w0) sz (some (.int F.1)) ((fun w : pv_XT => pv_wX E a w) F.2)) args s 0 0 A) (F0 m 0 ls []) from M0 s.heap [] hP hS
  intro H locs hP hS
  refine lv_aload_n (pc := 0) hx hb dX6_tricks_0 rfl (lv_at hl 0 rfl) ?_
  refine va_get (pc := 1) (D := E.1) (ci := 4) (v := .ref (a 1)) (C := RX6) (T := TX6) (N := 8) hx hb hts i_RX6 hown hK hP 0 rfl rfl 0 (Nat.le_of_ble_eq_true rfl) fl_10 (fun _ h9 => h9) rfl dX6_tricks_1 ?_
  obtain ⟨u_1, hu_1, hq⟩ := pv_bind hq
  refine pv_vRO (pc := 4) (rest := []) (st1 := [.int u_1]) (ws := pv_wX E a w0) [] ⟨hx, hb, hml, hown, hts⟩ hE hA hS hP (hD w0) (c_X4_bothSent l E (a 1) (a 2) (a 3) (a 4) (a 5) (a 6) w0.1 u_1 hu_1) (cwV 0 hts gX6_tricks_X4_bothSent rfl rfl rfl (by decide +kernel) ⟨(Nat.le_of_ble_eq_true rfl), (Nat.le_of_ble_eq_true rfl)⟩) (va_recv hK hP (ci := 2) (q0 := 1) rfl rfl) [1, 2, 3, 4, 5, 6] rfl rfl rfl hl.1 rfl rfl (Nat.le_of_ble_eq_true rfl) dX6_tricks_4 ⟨Nat.zero_le _, Nat.zero_le _⟩ (fun locs hS => ?_)
  refine lv_if_ne (pc := 7) (tgt := 17) hx hb dX6_tricks_7 (by decide) (fun c_2 => ?_) (fun c_2 => ?_)
  · have hq := pv_neg c_2 hq
    refine lv_aload_n (pc := 17) hx hb dX6_tricks_17 rfl (lv_at hl 0 rfl) ?_
    refine va_get (pc := 18) (D := E.1) (ci := 4) (v := .ref (a 19)) (C := RX6) (T := TX6) (N := 8) hx hb hts i_RX6 hown hK hP 0 rfl rfl 3 (Nat.le_of_ble_eq_true rfl) fl_25 (fun _ h9 => h9) rfl dX6_tricks_18 ?_
    refine lv_aload_n (pc := 21) hx hb dX6_tricks_21 rfl (lv_at hl 0 rfl) ?_
    refine va_get (pc := 22) (D := E.1) (ci := 4) (v := .ref (a 1)) (C := RX6) (T := TX6) (N := 8) hx hb hts i_RX6 hown hK hP 0 rfl rfl 0 (Nat.le_of_ble_eq_true rfl) fl_10 (fun _ h9 => h9) rfl dX6_tricks_22 ?_
    obtain ⟨u_3, hu_3, hq⟩ := pv_bind hq
    refine pv_vRW (pc := 25) (rest := []) (st1 := []) (ws := pv_wX E a w0) (ws' := pv_wX E a (u_3.1, w0.2.1, w0.2.2.1, u_3.2, w0.2.2.2.2.1, w0.2.2.2.2.2.1, w0.2.2.2.2.2.2.1, w0.2.2.2.2.2.2.2)) [.ref (a 1)] ⟨hx, hb, hml, hown, hts⟩ hE hA hS hP (hD w0) (c_X1_play l E (a 1) (a 2) (a 3) (a 4) (a 5) (a 6) (a 19) (a 20) (a 21) (a 22) (a 23) (a 24) (w0.1, w0.2.2.2.1) u_3 hu_3) (cwV 1 hts gX6_tricks_X1_play rfl rfl rfl (by decide +kernel) ⟨(Nat.le_of_ble_eq_true rfl), (Nat.le_of_ble_eq_true rfl)⟩) (va_recv hK hP (ci := 0) (q0 := 19) rfl rfl) [1, 2, 3, 4, 5, 6, 19, 20, 21, 22, 23, 24] rfl rfl rfl rfl rfl hl.1 rfl rfl (Nat.le_of_ble_eq_true rfl) dX6_tricks_25 ⟨Nat.zero_le _, Nat.zero_le _⟩ (fun H locs hP hS => ?_)
    refine lv_aload_n (pc := 28) hx hb dX6_tricks_28 rfl (lv_at hl 0 rfl) ?_
    refine va_get (pc := 29) (D := E.1) (ci := 4) (v := .ref (a 19)) (C := RX6) (T := TX6) (N := 8) hx hb hts i_RX6 hown hK hP 0 rfl rfl 3 (Nat.le_of_ble_eq_true rfl) fl_25 (fun _ h9 => h9) rfl dX6_tricks_29 ?_
    obtain ⟨u_4, hu_4, hq⟩ := pv_bind hq
    refine pv_vRO (pc := 32) (rest := []) (st1 := [.int u_4]) (ws := pv_wX E a (u_3.1, w0.2.1, w0.2.2.1, u_3.2, w0.2.2.2.2.1, w0.2.2.2.2.2.1, w0.2.2.2.2.2.2.1, w0.2.2.2.2.2.2.2)) [] ⟨hx, hb, hml, hown, hts⟩ hE hA hS hP (hD (u_3.1, w0.2.1, w0.2.2.1, u_3.2, w0.2.2.2.2.1, w0.2.2.2.2.2.1, w0.2.2.2.2.2.2.1, w0.2.2.2.2.2.2.2)) (c_X1_tricksOfFirst l E (a 19) (a 20) (a 21) (a 22) (a 23) (a 24) u_3.2 u_4 hu_4) (cwV 0 hts gX6_tricks_X1_tricksOfFirst rfl rfl rfl (by decide +kernel) ⟨(Nat.le_of_ble_eq_true rfl), (Nat.le_of_ble_eq_true rfl)⟩) (va_recv hK hP (ci := 0) (q0 := 19) rfl rfl) [19, 20, 21, 22, 23, 24] rfl rfl rfl hl.1 rfl rfl (Nat.le_of_ble_eq_true rfl) dX6_tricks_32 ⟨Nat.zero_le _, Nat.zero_le _⟩ (fun locs hS => ?_)
    exact pv_riRW (w := fun w : pv_XT => pv_wX E a w) hx hb hr hlk hAe hS hP (Option.some.inj hq) dX6_tricks_35
  · have hq := pv_pos c_2 hq
    refine lv_aload_n (pc := 10) hx hb dX6_tricks_10 rfl (lv_at hl 0 rfl) ?_
    refine lv_ldc (pc := 11) hx hb hown lc_145 dX6_tricks_11 ?_
    obtain ⟨u_5, hu_5, hq⟩ := pv_bind hq
    refine pv_vRWf (pc := 13) (rest := []) (st1 := [.int u_5.1]) (ws := pv_wX E a w0) [.int (-1000000005)] ⟨hx, hb, hml, hown, hts⟩ hE hA hS hP (hD w0) (c_X6_finding l E a (-1000000005) w0 u_5 hu_5) (cwV 1 hts gX6_tricks_X6_finding rfl rfl rfl (by decide +kernel) ⟨(Nat.le_of_ble_eq_true rfl), (Nat.le_of_ble_eq_true rfl)⟩) (va_recv hK hP (ci := 4) (q0 := 0) rfl rfl) rfl hl.1 rfl rfl (Nat.le_of_ble_eq_true rfl) dX6_tricks_13 ⟨Nat.zero_le _, Nat.zero_le _⟩ (fun H locs hP hS => ?_)
    have hP : va_P E.1 vwCl (pv_wX E a u_5.2) H := hP
    exact pv_riRW (w := fun w : pv_XT => pv_wX E a w) hx hb hr hlk hAe hS hP (Option.some.inj hq) dX6_tricks_16
def m_X6_months (x1 : Int32) (w : pv_XT) : Option (Int32 × pv_XT) :=
  if (m_X6_isWithin x1 1 60) = 0 then (Option.bind (m_X6_finding (-1000000001) w) fun u_6 => (some (u_6.1, u_6.2))) else (if (w.1.1 + x1) ≤ 9999 then (Option.bind (m_X4_passMonths x1 (w.1, w.2.2.2.1)) fun u_3 => (Option.bind (m_X4_owned (-1) u_3.1) fun u_4 => (some (u_4, (u_3.1, w.2.1, w.2.2.1, u_3.2, w.2.2.2.2.1, w.2.2.2.2.2.1, w.2.2.2.2.2.2.1, w.2.2.2.2.2.2.2))))) else (Option.bind (m_X6_finding (-1000000005) w) fun u_5 => (some (u_5.1, u_5.2))))
abbrev r_X6_months : Room := { frames := 6, cells := 0, slots := 0, locals := 144 }
set_option maxHeartbeats 4000000 in
set_option maxRecDepth 100000 in
theorem c_X6_months (l : Launch) (E : pv_E) (a : Nat → Nat) (x1 : Int32) (w0 : pv_XT) (F : Int32 × pv_XT) (hq : m_X6_months x1 w0 = some F) : pv_RW l E yX6_months wsX6_months r_X6_months (pv_wX E a w0) [.ref (a 0), .int x1] (some (.int F.1)) (pv_wX E a F.2) := by
  intro sz
  refine pv_mk (by decide) rfl (Nat.le_of_ble_eq_true rfl) ?_
  intro p e s m args below meth c A hx hb hr hml hown hts hlk hAe hP hD0 hA hE hS ls hl
  have hown : s.vm.findClass RX6 = some m.cls := hown
  have hK := hE.1
  have hD : ∀ w : pv_XT, va_D A (pv_wX E a w) := fun w => pv_Dm (ws := pv_wX E a w0) (ws' := pv_wX E a w) rfl hD0
  have hP : va_P E.1 vwCl (pv_wX E a w0) s.heap := hP
  have fl_10 : (Cond.fieldLink RX6 10 "ProvinceCards" "table" "LProvinceCards$Table;").before args s = true := hts _ (by decide +kernel)
  have fl_80 : (Cond.fieldLink RX6 80 "ProvinceCards$Table" "month" "I").before args s = true := hts _ (by decide +kernel)
  have fl_25 : (Cond.fieldLink RX6 25 "ProvinceCards" "game" "LProvinceCards$Game;").before args s = true := hts _ (by decide +kernel)
  have lc_145 : (Cond.constant RX6 145 (-1000000005)).before args s = true := hts _ (by decide +kernel)
  have lc_51 : (Cond.constant RX6 51 (-1000000001)).before args s = true := hts _ (by decide +kernel)
  have i_RX6 : ∀ w ∈ wsX60, w ∈ wsX6_months := by decide +kernel
  have i_RX4 : ∀ w ∈ wsX40, w ∈ wsX6_months := by decide +kernel
  have hl : lv_has ls 2 [(0, .ref (a 0)), (1, .int x1)] := hl
  suffices M0 : ∀ (H : Heap) (locs : List Loc), va_P E.1 vwCl (pv_wX E a w0) H → va_S A s.heap H locs → W p l e r_X6_months s m args below meth c H locs 0 0 (MQ below (pv_Rw E (pv_wX E a w0) sz (some (.int F.1)) ((fun w : pv_XT => pv_wX E a w) F.2)) args s 0 0 A) (F0 m 0 ls []) from M0 s.heap [] hP hS
  intro H locs hP hS
  refine lv_iload_n (pc := 0) hx hb dX6_months_0 rfl (lv_at hl 1 rfl) ?_
  refine lv_iconst (pc := 1) (v := 1) hx hb dX6_months_1 (by decide) ?_
  refine lv_bipush (pc := 2) (v := 60) hx hb dX6_months_2 (by decide) ?_
  refine pv_sRO (pc := 4) (rest := []) (st1 := [.int (m_X6_isWithin x1 1 60)]) (ws := pv_wX E a w0) [.int x1, .int 1, .int 60] ⟨hx, hb, hml, hown, hts⟩ hE hA hS hP (hD w0) (c_X6_isWithin l E x1 1 60) (va_cwS 3 hts gX6_months_X6_isWithin rfl rfl rfl (by decide +kernel) ⟨(Nat.le_of_ble_eq_true rfl), (Nat.le_of_ble_eq_true rfl)⟩) [] rfl rfl rfl hl.1 rfl rfl (Nat.le_of_ble_eq_true rfl) dX6_months_4 ⟨Nat.zero_le _, Nat.zero_le _⟩ (fun locs hS => ?_)
  refine lv_if_ne (pc := 7) (tgt := 17) hx hb dX6_months_7 (by decide) (fun c_1 => ?_) (fun c_1 => ?_)
  · have hq := pv_neg c_1 hq
    refine lv_aload_n (pc := 17) hx hb dX6_months_17 rfl (lv_at hl 0 rfl) ?_
    refine va_get (pc := 18) (D := E.1) (ci := 4) (v := .ref (a 1)) (C := RX6) (T := TX6) (N := 8) hx hb hts i_RX6 hown hK hP 0 rfl rfl 0 (Nat.le_of_ble_eq_true rfl) fl_10 (fun _ h9 => h9) rfl dX6_months_18 ?_
    refine va_get (pc := 21) (D := E.1) (ci := 2) (v := .int w0.1.1) (C := RX4) (T := TX4) (N := 8) hx hb hts i_RX4 hown hK hP 1 rfl rfl 0 (Nat.le_of_ble_eq_true rfl) fl_80 (fun _ h9 => h9) rfl dX6_months_21 ?_
    refine lv_iload_n (pc := 24) hx hb dX6_months_24 rfl (lv_at hl 1 rfl) ?_
    refine lv_iadd (pc := 25) hx hb dX6_months_25 ?_
    refine lv_sipush (pc := 26) (v := 9999) hx hb dX6_months_26 (by decide) ?_
    refine lv_icmp_le (pc := 29) (tgt := 39) hx hb dX6_months_29 (by decide) (fun c_2 => ?_) (fun c_2 => ?_)
    · have hq := pv_pos c_2 hq
      refine lv_aload_n (pc := 39) hx hb dX6_months_39 rfl (lv_at hl 0 rfl) ?_
      refine va_get (pc := 40) (D := E.1) (ci := 4) (v := .ref (a 1)) (C := RX6) (T := TX6) (N := 8) hx hb hts i_RX6 hown hK hP 0 rfl rfl 0 (Nat.le_of_ble_eq_true rfl) fl_10 (fun _ h9 => h9) rfl dX6_months_40 ?_
      refine lv_iload_n (pc := 43) hx hb dX6_months_43 rfl (lv_at hl 1 rfl) ?_
      refine lv_aload_n (pc := 44) hx hb dX6_months_44 rfl (lv_at hl 0 rfl) ?_
      refine va_get (pc := 45) (D := E.1) (ci := 4) (v := .ref (a 19)) (C := RX6) (T := TX6) (N := 8) hx hb hts i_RX6 hown hK hP 0 rfl rfl 3 (Nat.le_of_ble_eq_true rfl) fl_25 (fun _ h9 => h9) rfl dX6_months_45 ?_
      obtain ⟨u_3, hu_3, hq⟩ := pv_bind hq
      refine pv_vRW (pc := 48) (rest := []) (st1 := []) (ws := pv_wX E a w0) (ws' := pv_wX E a (u_3.1, w0.2.1, w0.2.2.1, u_3.2, w0.2.2.2.2.1, w0.2.2.2.2.2.1, w0.2.2.2.2.2.2.1, w0.2.2.2.2.2.2.2)) [.int x1, .ref (a 19)] ⟨hx, hb, hml, hown, hts⟩ hE hA hS hP (hD w0) (c_X4_passMonths l E (a 1) (a 2) (a 3) (a 4) (a 5) (a 6) (a 19) (a 20) (a 21) (a 22) (a 23) (a 24) x1 (w0.1, w0.2.2.2.1) u_3 hu_3) (cwV 2 hts gX6_months_X4_passMonths rfl rfl rfl (by decide +kernel) ⟨(Nat.le_of_ble_eq_true rfl), (Nat.le_of_ble_eq_true rfl)⟩) (va_recv hK hP (ci := 2) (q0 := 1) rfl rfl) [1, 2, 3, 4, 5, 6, 19, 20, 21, 22, 23, 24] rfl rfl rfl rfl rfl hl.1 rfl rfl (Nat.le_of_ble_eq_true rfl) dX6_months_48 ⟨Nat.zero_le _, Nat.zero_le _⟩ (fun H locs hP hS => ?_)
      refine lv_aload_n (pc := 51) hx hb dX6_months_51 rfl (lv_at hl 0 rfl) ?_
      refine va_get (pc := 52) (D := E.1) (ci := 4) (v := .ref (a 1)) (C := RX6) (T := TX6) (N := 8) hx hb hts i_RX6 hown hK hP 0 rfl rfl 0 (Nat.le_of_ble_eq_true rfl) fl_10 (fun _ h9 => h9) rfl dX6_months_52 ?_
      refine lv_iconst (pc := 55) (v := (-1)) hx hb dX6_months_55 (by decide) ?_
      obtain ⟨u_4, hu_4, hq⟩ := pv_bind hq
      refine pv_vRO (pc := 56) (rest := []) (st1 := [.int u_4]) (ws := pv_wX E a (u_3.1, w0.2.1, w0.2.2.1, u_3.2, w0.2.2.2.2.1, w0.2.2.2.2.2.1, w0.2.2.2.2.2.2.1, w0.2.2.2.2.2.2.2)) [.int (-1)] ⟨hx, hb, hml, hown, hts⟩ hE hA hS hP (hD (u_3.1, w0.2.1, w0.2.2.1, u_3.2, w0.2.2.2.2.1, w0.2.2.2.2.2.1, w0.2.2.2.2.2.2.1, w0.2.2.2.2.2.2.2)) (c_X4_owned l E (a 1) (a 2) (a 3) (a 4) (a 5) (a 6) (-1) u_3.1 u_4 hu_4) (cwV 1 hts gX6_months_X4_owned rfl rfl rfl (by decide +kernel) ⟨(Nat.le_of_ble_eq_true rfl), (Nat.le_of_ble_eq_true rfl)⟩) (va_recv hK hP (ci := 2) (q0 := 1) rfl rfl) [1, 2, 3, 4, 5, 6] rfl rfl rfl hl.1 rfl rfl (Nat.le_of_ble_eq_true rfl) dX6_months_56 ⟨Nat.zero_le _, Nat.zero_le _⟩ (fun locs hS => ?_)
      exact pv_riRW (w := fun w : pv_XT => pv_wX E a w) hx hb hr hlk hAe hS hP (Option.some.inj hq) dX6_months_59
    · have hq := pv_neg c_2 hq
      refine lv_aload_n (pc := 32) hx hb dX6_months_32 rfl (lv_at hl 0 rfl) ?_
      refine lv_ldc (pc := 33) hx hb hown lc_145 dX6_months_33 ?_
      obtain ⟨u_5, hu_5, hq⟩ := pv_bind hq
      refine pv_vRWf (pc := 35) (rest := []) (st1 := [.int u_5.1]) (ws := pv_wX E a w0) [.int (-1000000005)] ⟨hx, hb, hml, hown, hts⟩ hE hA hS hP (hD w0) (c_X6_finding l E a (-1000000005) w0 u_5 hu_5) (cwV 1 hts gX6_months_X6_finding rfl rfl rfl (by decide +kernel) ⟨(Nat.le_of_ble_eq_true rfl), (Nat.le_of_ble_eq_true rfl)⟩) (va_recv hK hP (ci := 4) (q0 := 0) rfl rfl) rfl hl.1 rfl rfl (Nat.le_of_ble_eq_true rfl) dX6_months_35 ⟨Nat.zero_le _, Nat.zero_le _⟩ (fun H locs hP hS => ?_)
      have hP : va_P E.1 vwCl (pv_wX E a u_5.2) H := hP
      exact pv_riRW (w := fun w : pv_XT => pv_wX E a w) hx hb hr hlk hAe hS hP (Option.some.inj hq) dX6_months_38
  · have hq := pv_pos c_1 hq
    refine lv_aload_n (pc := 10) hx hb dX6_months_10 rfl (lv_at hl 0 rfl) ?_
    refine lv_ldc (pc := 11) hx hb hown lc_51 dX6_months_11 ?_
    obtain ⟨u_6, hu_6, hq⟩ := pv_bind hq
    refine pv_vRWf (pc := 13) (rest := []) (st1 := [.int u_6.1]) (ws := pv_wX E a w0) [.int (-1000000001)] ⟨hx, hb, hml, hown, hts⟩ hE hA hS hP (hD w0) (c_X6_finding l E a (-1000000001) w0 u_6 hu_6) (cwV 1 hts gX6_months_X6_finding rfl rfl rfl (by decide +kernel) ⟨(Nat.le_of_ble_eq_true rfl), (Nat.le_of_ble_eq_true rfl)⟩) (va_recv hK hP (ci := 4) (q0 := 0) rfl rfl) rfl hl.1 rfl rfl (Nat.le_of_ble_eq_true rfl) dX6_months_13 ⟨Nat.zero_le _, Nat.zero_le _⟩ (fun H locs hP hS => ?_)
    have hP : va_P E.1 vwCl (pv_wX E a u_6.2) H := hP
    exact pv_riRW (w := fun w : pv_XT => pv_wX E a w) hx hb hr hlk hAe hS hP (Option.some.inj hq) dX6_months_16
def m_X6_lookAhead (x1 : Int32) (w : pv_XT) : Option (pv_XT) :=
  Option.bind (m_X4_become (w.2.2.1, w.1)) fun u_1 => (Option.bind (m_X4_passMonths x1 (u_1.1, w.2.2.2.1)) fun u_2 => (some (u_1.2, w.2.1, u_2.1, u_2.2, w.2.2.2.2.1, w.2.2.2.2.2.1, w.2.2.2.2.2.2.1, w.2.2.2.2.2.2.2)))
abbrev r_X6_lookAhead : Room := { frames := 6, cells := 0, slots := 0, locals := 144 }
set_option maxHeartbeats 4000000 in
set_option maxRecDepth 100000 in
theorem c_X6_lookAhead (l : Launch) (E : pv_E) (a : Nat → Nat) (x1 : Int32) (w0 : pv_XT) (F : pv_XT) (hq : m_X6_lookAhead x1 w0 = some F) : pv_RW l E yX6_lookAhead wsX6_lookAhead r_X6_lookAhead (pv_wX E a w0) [.ref (a 0), .int x1] (none) (pv_wX E a F) := by
  intro sz
  refine pv_mk (by decide) rfl (Nat.le_of_ble_eq_true rfl) ?_
  intro p e s m args below meth c A hx hb hr hml hown hts hlk hAe hP hD0 hA hE hS ls hl
  have hown : s.vm.findClass RX6 = some m.cls := hown
  have hK := hE.1
  have hD : ∀ w : pv_XT, va_D A (pv_wX E a w) := fun w => pv_Dm (ws := pv_wX E a w0) (ws' := pv_wX E a w) rfl hD0
  have hP : va_P E.1 vwCl (pv_wX E a w0) s.heap := hP
  have fl_19 : (Cond.fieldLink RX6 19 "ProvinceCards" "ahead" "LProvinceCards$Table;").before args s = true := hts _ (by decide +kernel)
  have fl_10 : (Cond.fieldLink RX6 10 "ProvinceCards" "table" "LProvinceCards$Table;").before args s = true := hts _ (by decide +kernel)
  have fl_25 : (Cond.fieldLink RX6 25 "ProvinceCards" "game" "LProvinceCards$Game;").before args s = true := hts _ (by decide +kernel)
  have i_RX6 : ∀ w ∈ wsX60, w ∈ wsX6_lookAhead := by decide +kernel
  have hl : lv_has ls 2 [(0, .ref (a 0)), (1, .int x1)] := hl
  suffices M0 : ∀ (H : Heap) (locs : List Loc), va_P E.1 vwCl (pv_wX E a w0) H → va_S A s.heap H locs → W p l e r_X6_lookAhead s m args below meth c H locs 0 0 (MQ below (pv_Rw E (pv_wX E a w0) sz (none) ((fun w : pv_XT => pv_wX E a w) F)) args s 0 0 A) (F0 m 0 ls []) from M0 s.heap [] hP hS
  intro H locs hP hS
  refine lv_aload_n (pc := 0) hx hb dX6_lookAhead_0 rfl (lv_at hl 0 rfl) ?_
  refine va_get (pc := 1) (D := E.1) (ci := 4) (v := .ref (a 13)) (C := RX6) (T := TX6) (N := 8) hx hb hts i_RX6 hown hK hP 0 rfl rfl 2 (Nat.le_of_ble_eq_true rfl) fl_19 (fun _ h9 => h9) rfl dX6_lookAhead_1 ?_
  refine lv_aload_n (pc := 4) hx hb dX6_lookAhead_4 rfl (lv_at hl 0 rfl) ?_
  refine va_get (pc := 5) (D := E.1) (ci := 4) (v := .ref (a 1)) (C := RX6) (T := TX6) (N := 8) hx hb hts i_RX6 hown hK hP 0 rfl rfl 0 (Nat.le_of_ble_eq_true rfl) fl_10 (fun _ h9 => h9) rfl dX6_lookAhead_5 ?_
  obtain ⟨u_1, hu_1, hq⟩ := pv_bind hq
  refine pv_vRW (pc := 8) (rest := []) (st1 := []) (ws := pv_wX E a w0) (ws' := pv_wX E a (u_1.2, w0.2.1, u_1.1, w0.2.2.2.1, w0.2.2.2.2.1, w0.2.2.2.2.2.1, w0.2.2.2.2.2.2.1, w0.2.2.2.2.2.2.2)) [.ref (a 1)] ⟨hx, hb, hml, hown, hts⟩ hE hA hS hP (hD w0) (c_X4_become l E (a 13) (a 14) (a 15) (a 16) (a 17) (a 18) (a 1) (a 2) (a 3) (a 4) (a 5) (a 6) (w0.2.2.1, w0.1) u_1 hu_1) (cwV 1 hts gX6_lookAhead_X4_become rfl rfl rfl (by decide +kernel) ⟨(Nat.le_of_ble_eq_true rfl), (Nat.le_of_ble_eq_true rfl)⟩) (va_recv hK hP (ci := 2) (q0 := 13) rfl rfl) [13, 14, 15, 16, 17, 18, 1, 2, 3, 4, 5, 6] rfl rfl rfl rfl rfl hl.1 rfl rfl (Nat.le_of_ble_eq_true rfl) dX6_lookAhead_8 ⟨Nat.zero_le _, Nat.zero_le _⟩ (fun H locs hP hS => ?_)
  refine lv_aload_n (pc := 11) hx hb dX6_lookAhead_11 rfl (lv_at hl 0 rfl) ?_
  refine va_get (pc := 12) (D := E.1) (ci := 4) (v := .ref (a 13)) (C := RX6) (T := TX6) (N := 8) hx hb hts i_RX6 hown hK hP 0 rfl rfl 2 (Nat.le_of_ble_eq_true rfl) fl_19 (fun _ h9 => h9) rfl dX6_lookAhead_12 ?_
  refine lv_iload_n (pc := 15) hx hb dX6_lookAhead_15 rfl (lv_at hl 1 rfl) ?_
  refine lv_aload_n (pc := 16) hx hb dX6_lookAhead_16 rfl (lv_at hl 0 rfl) ?_
  refine va_get (pc := 17) (D := E.1) (ci := 4) (v := .ref (a 19)) (C := RX6) (T := TX6) (N := 8) hx hb hts i_RX6 hown hK hP 0 rfl rfl 3 (Nat.le_of_ble_eq_true rfl) fl_25 (fun _ h9 => h9) rfl dX6_lookAhead_17 ?_
  obtain ⟨u_2, hu_2, hq⟩ := pv_bind hq
  refine pv_vRW (pc := 20) (rest := []) (st1 := []) (ws := pv_wX E a (u_1.2, w0.2.1, u_1.1, w0.2.2.2.1, w0.2.2.2.2.1, w0.2.2.2.2.2.1, w0.2.2.2.2.2.2.1, w0.2.2.2.2.2.2.2)) (ws' := pv_wX E a (u_1.2, w0.2.1, u_2.1, u_2.2, w0.2.2.2.2.1, w0.2.2.2.2.2.1, w0.2.2.2.2.2.2.1, w0.2.2.2.2.2.2.2)) [.int x1, .ref (a 19)] ⟨hx, hb, hml, hown, hts⟩ hE hA hS hP (hD (u_1.2, w0.2.1, u_1.1, w0.2.2.2.1, w0.2.2.2.2.1, w0.2.2.2.2.2.1, w0.2.2.2.2.2.2.1, w0.2.2.2.2.2.2.2)) (c_X4_passMonths l E (a 13) (a 14) (a 15) (a 16) (a 17) (a 18) (a 19) (a 20) (a 21) (a 22) (a 23) (a 24) x1 (u_1.1, w0.2.2.2.1) u_2 hu_2) (cwV 2 hts gX6_lookAhead_X4_passMonths rfl rfl rfl (by decide +kernel) ⟨(Nat.le_of_ble_eq_true rfl), (Nat.le_of_ble_eq_true rfl)⟩) (va_recv hK hP (ci := 2) (q0 := 13) rfl rfl) [13, 14, 15, 16, 17, 18, 19, 20, 21, 22, 23, 24] rfl rfl rfl rfl rfl hl.1 rfl rfl (Nat.le_of_ble_eq_true rfl) dX6_lookAhead_20 ⟨Nat.zero_le _, Nat.zero_le _⟩ (fun H locs hP hS => ?_)
  exact pv_rvRW (w := fun w : pv_XT => pv_wX E a w) hx hb hr hlk hAe hS hP (Option.some.inj hq) dX6_lookAhead_23
def m_X6_lookAheadIdle (x1 : Int32) (w : pv_XT) : Option (pv_XT) :=
  Option.bind (m_X4_become (w.2.2.1, w.1)) fun u_1 => (Option.bind (m_X4_passMonths x1 ((u_1.1.1, u_1.1.2.1, u_1.1.2.2.1, u_1.1.2.2.2.1, u_1.1.2.2.2.2.1, (upd (upd u_1.1.2.2.2.2.2.1 0 (-1)) 1 (-1)), u_1.1.2.2.2.2.2.2.1, u_1.1.2.2.2.2.2.2.2), w.2.2.2.1)) fun u_2 => (some (u_1.2, w.2.1, (u_2.1.1, u_2.1.2.1, u_2.1.2.2.1, u_2.1.2.2.2.1, u_2.1.2.2.2.2.1, (upd (upd u_2.1.2.2.2.2.2.1 0 (u_1.2.2.2.2.2.2.1 0)) 1 (u_1.2.2.2.2.2.2.1 1)), u_2.1.2.2.2.2.2.2.1, u_2.1.2.2.2.2.2.2.2), u_2.2, w.2.2.2.2.1, w.2.2.2.2.2.1, w.2.2.2.2.2.2.1, w.2.2.2.2.2.2.2)))
abbrev r_X6_lookAheadIdle : Room := { frames := 6, cells := 0, slots := 0, locals := 144 }
set_option maxHeartbeats 4000000 in
set_option maxRecDepth 100000 in
theorem c_X6_lookAheadIdle (l : Launch) (E : pv_E) (a : Nat → Nat) (x1 : Int32) (w0 : pv_XT) (F : pv_XT) (hq : m_X6_lookAheadIdle x1 w0 = some F) : pv_RW l E yX6_lookAheadIdle wsX6_lookAheadIdle r_X6_lookAheadIdle (pv_wX E a w0) [.ref (a 0), .int x1] (none) (pv_wX E a F) := by
  intro sz
  refine pv_mk (by decide) rfl (Nat.le_of_ble_eq_true rfl) ?_
  intro p e s m args below meth c A hx hb hr hml hown hts hlk hAe hP hD0 hA hE hS ls hl
  have hown : s.vm.findClass RX6 = some m.cls := hown
  have hK := hE.1
  have hD : ∀ w : pv_XT, va_D A (pv_wX E a w) := fun w => pv_Dm (ws := pv_wX E a w0) (ws' := pv_wX E a w) rfl hD0
  have hP : va_P E.1 vwCl (pv_wX E a w0) s.heap := hP
  have fl_19 : (Cond.fieldLink RX6 19 "ProvinceCards" "ahead" "LProvinceCards$Table;").before args s = true := hts _ (by decide +kernel)
  have fl_10 : (Cond.fieldLink RX6 10 "ProvinceCards" "table" "LProvinceCards$Table;").before args s = true := hts _ (by decide +kernel)
  have fl_90 : (Cond.fieldLink RX6 90 "ProvinceCards$Table" "sent" "[I").before args s = true := hts _ (by decide +kernel)
  have fl_25 : (Cond.fieldLink RX6 25 "ProvinceCards" "game" "LProvinceCards$Game;").before args s = true := hts _ (by decide +kernel)
  have i_RX6 : ∀ w ∈ wsX60, w ∈ wsX6_lookAheadIdle := by decide +kernel
  have i_RX4 : ∀ w ∈ wsX40, w ∈ wsX6_lookAheadIdle := by decide +kernel
  have hl : lv_has ls 2 [(0, .ref (a 0)), (1, .int x1)] := hl
  suffices M0 : ∀ (H : Heap) (locs : List Loc), va_P E.1 vwCl (pv_wX E a w0) H → va_S A s.heap H locs → W p l e r_X6_lookAheadIdle s m args below meth c H locs 0 0 (MQ below (pv_Rw E (pv_wX E a w0) sz (none) ((fun w : pv_XT => pv_wX E a w) F)) args s 0 0 A) (F0 m 0 ls []) from M0 s.heap [] hP hS
  intro H locs hP hS
  refine lv_aload_n (pc := 0) hx hb dX6_lookAheadIdle_0 rfl (lv_at hl 0 rfl) ?_
  refine va_get (pc := 1) (D := E.1) (ci := 4) (v := .ref (a 13)) (C := RX6) (T := TX6) (N := 8) hx hb hts i_RX6 hown hK hP 0 rfl rfl 2 (Nat.le_of_ble_eq_true rfl) fl_19 (fun _ h9 => h9) rfl dX6_lookAheadIdle_1 ?_
  refine lv_aload_n (pc := 4) hx hb dX6_lookAheadIdle_4 rfl (lv_at hl 0 rfl) ?_
  refine va_get (pc := 5) (D := E.1) (ci := 4) (v := .ref (a 1)) (C := RX6) (T := TX6) (N := 8) hx hb hts i_RX6 hown hK hP 0 rfl rfl 0 (Nat.le_of_ble_eq_true rfl) fl_10 (fun _ h9 => h9) rfl dX6_lookAheadIdle_5 ?_
  obtain ⟨u_1, hu_1, hq⟩ := pv_bind hq
  refine pv_vRW (pc := 8) (rest := []) (st1 := []) (ws := pv_wX E a w0) (ws' := pv_wX E a (u_1.2, w0.2.1, u_1.1, w0.2.2.2.1, w0.2.2.2.2.1, w0.2.2.2.2.2.1, w0.2.2.2.2.2.2.1, w0.2.2.2.2.2.2.2)) [.ref (a 1)] ⟨hx, hb, hml, hown, hts⟩ hE hA hS hP (hD w0) (c_X4_become l E (a 13) (a 14) (a 15) (a 16) (a 17) (a 18) (a 1) (a 2) (a 3) (a 4) (a 5) (a 6) (w0.2.2.1, w0.1) u_1 hu_1) (cwV 1 hts gX6_lookAheadIdle_X4_become rfl rfl rfl (by decide +kernel) ⟨(Nat.le_of_ble_eq_true rfl), (Nat.le_of_ble_eq_true rfl)⟩) (va_recv hK hP (ci := 2) (q0 := 13) rfl rfl) [13, 14, 15, 16, 17, 18, 1, 2, 3, 4, 5, 6] rfl rfl rfl rfl rfl hl.1 rfl rfl (Nat.le_of_ble_eq_true rfl) dX6_lookAheadIdle_8 ⟨Nat.zero_le _, Nat.zero_le _⟩ (fun H locs hP hS => ?_)
  refine lv_aload_n (pc := 11) hx hb dX6_lookAheadIdle_11 rfl (lv_at hl 0 rfl) ?_
  refine va_get (pc := 12) (D := E.1) (ci := 4) (v := .ref (a 13)) (C := RX6) (T := TX6) (N := 8) hx hb hts i_RX6 hown hK hP 0 rfl rfl 2 (Nat.le_of_ble_eq_true rfl) fl_19 (fun _ h9 => h9) rfl dX6_lookAheadIdle_12 ?_
  refine va_get (pc := 15) (D := E.1) (ci := 2) (v := .ref (a 16)) (C := RX4) (T := TX4) (N := 8) hx hb hts i_RX4 hown hK hP 13 rfl rfl 5 (Nat.le_of_ble_eq_true rfl) fl_90 (fun _ h9 => h9) rfl dX6_lookAheadIdle_15 ?_
  refine lv_iconst (pc := 18) (v := 0) hx hb dX6_lookAheadIdle_18 (by decide) ?_
  refine lv_iconst (pc := 19) (v := (-1)) hx hb dX6_lookAheadIdle_19 (by decide) ?_
  refine va_iast (pc := 20) (D := E.1) hx hb hK hP (hD (u_1.2, w0.2.1, u_1.1, w0.2.2.2.1, w0.2.2.2.2.1, w0.2.2.2.2.2.1, w0.2.2.2.2.2.2.1, w0.2.2.2.2.2.2.2)) hS 16 0 rfl rfl (by decide : ¬ ((0 : Int32) < 0 ∨ 2 ≤ (0 : Int32).toNatClampNeg)) dX6_lookAheadIdle_20 (fun H locs hP _ hS => ?_)
  have hP : va_P E.1 vwCl (pv_wX E a (u_1.2, w0.2.1, (u_1.1.1, u_1.1.2.1, u_1.1.2.2.1, u_1.1.2.2.2.1, u_1.1.2.2.2.2.1, (upd u_1.1.2.2.2.2.2.1 0 (-1)), u_1.1.2.2.2.2.2.2.1, u_1.1.2.2.2.2.2.2.2), w0.2.2.2.1, w0.2.2.2.2.1, w0.2.2.2.2.2.1, w0.2.2.2.2.2.2.1, w0.2.2.2.2.2.2.2)) H := hP
  refine lv_aload_n (pc := 21) hx hb dX6_lookAheadIdle_21 rfl (lv_at hl 0 rfl) ?_
  refine va_get (pc := 22) (D := E.1) (ci := 4) (v := .ref (a 13)) (C := RX6) (T := TX6) (N := 8) hx hb hts i_RX6 hown hK hP 0 rfl rfl 2 (Nat.le_of_ble_eq_true rfl) fl_19 (fun _ h9 => h9) rfl dX6_lookAheadIdle_22 ?_
  refine va_get (pc := 25) (D := E.1) (ci := 2) (v := .ref (a 16)) (C := RX4) (T := TX4) (N := 8) hx hb hts i_RX4 hown hK hP 13 rfl rfl 5 (Nat.le_of_ble_eq_true rfl) fl_90 (fun _ h9 => h9) rfl dX6_lookAheadIdle_25 ?_
  refine lv_iconst (pc := 28) (v := 1) hx hb dX6_lookAheadIdle_28 (by decide) ?_
  refine lv_iconst (pc := 29) (v := (-1)) hx hb dX6_lookAheadIdle_29 (by decide) ?_
  refine va_iast (pc := 30) (D := E.1) hx hb hK hP (hD (u_1.2, w0.2.1, (u_1.1.1, u_1.1.2.1, u_1.1.2.2.1, u_1.1.2.2.2.1, u_1.1.2.2.2.2.1, (upd u_1.1.2.2.2.2.2.1 0 (-1)), u_1.1.2.2.2.2.2.2.1, u_1.1.2.2.2.2.2.2.2), w0.2.2.2.1, w0.2.2.2.2.1, w0.2.2.2.2.2.1, w0.2.2.2.2.2.2.1, w0.2.2.2.2.2.2.2)) hS 16 0 rfl rfl (by decide : ¬ ((1 : Int32) < 0 ∨ 2 ≤ (1 : Int32).toNatClampNeg)) dX6_lookAheadIdle_30 (fun H locs hP _ hS => ?_)
  have hP : va_P E.1 vwCl (pv_wX E a (u_1.2, w0.2.1, (u_1.1.1, u_1.1.2.1, u_1.1.2.2.1, u_1.1.2.2.2.1, u_1.1.2.2.2.2.1, (upd (upd u_1.1.2.2.2.2.2.1 0 (-1)) 1 (-1)), u_1.1.2.2.2.2.2.2.1, u_1.1.2.2.2.2.2.2.2), w0.2.2.2.1, w0.2.2.2.2.1, w0.2.2.2.2.2.1, w0.2.2.2.2.2.2.1, w0.2.2.2.2.2.2.2)) H := hP
  refine lv_aload_n (pc := 31) hx hb dX6_lookAheadIdle_31 rfl (lv_at hl 0 rfl) ?_
  refine va_get (pc := 32) (D := E.1) (ci := 4) (v := .ref (a 13)) (C := RX6) (T := TX6) (N := 8) hx hb hts i_RX6 hown hK hP 0 rfl rfl 2 (Nat.le_of_ble_eq_true rfl) fl_19 (fun _ h9 => h9) rfl dX6_lookAheadIdle_32 ?_
  refine lv_iload_n (pc := 35) hx hb dX6_lookAheadIdle_35 rfl (lv_at hl 1 rfl) ?_
  refine lv_aload_n (pc := 36) hx hb dX6_lookAheadIdle_36 rfl (lv_at hl 0 rfl) ?_
  refine va_get (pc := 37) (D := E.1) (ci := 4) (v := .ref (a 19)) (C := RX6) (T := TX6) (N := 8) hx hb hts i_RX6 hown hK hP 0 rfl rfl 3 (Nat.le_of_ble_eq_true rfl) fl_25 (fun _ h9 => h9) rfl dX6_lookAheadIdle_37 ?_
  obtain ⟨u_2, hu_2, hq⟩ := pv_bind hq
  refine pv_vRW (pc := 40) (rest := []) (st1 := []) (ws := pv_wX E a (u_1.2, w0.2.1, (u_1.1.1, u_1.1.2.1, u_1.1.2.2.1, u_1.1.2.2.2.1, u_1.1.2.2.2.2.1, (upd (upd u_1.1.2.2.2.2.2.1 0 (-1)) 1 (-1)), u_1.1.2.2.2.2.2.2.1, u_1.1.2.2.2.2.2.2.2), w0.2.2.2.1, w0.2.2.2.2.1, w0.2.2.2.2.2.1, w0.2.2.2.2.2.2.1, w0.2.2.2.2.2.2.2)) (ws' := pv_wX E a (u_1.2, w0.2.1, u_2.1, u_2.2, w0.2.2.2.2.1, w0.2.2.2.2.2.1, w0.2.2.2.2.2.2.1, w0.2.2.2.2.2.2.2)) [.int x1, .ref (a 19)] ⟨hx, hb, hml, hown, hts⟩ hE hA hS hP (hD (u_1.2, w0.2.1, (u_1.1.1, u_1.1.2.1, u_1.1.2.2.1, u_1.1.2.2.2.1, u_1.1.2.2.2.2.1, (upd (upd u_1.1.2.2.2.2.2.1 0 (-1)) 1 (-1)), u_1.1.2.2.2.2.2.2.1, u_1.1.2.2.2.2.2.2.2), w0.2.2.2.1, w0.2.2.2.2.1, w0.2.2.2.2.2.1, w0.2.2.2.2.2.2.1, w0.2.2.2.2.2.2.2)) (c_X4_passMonths l E (a 13) (a 14) (a 15) (a 16) (a 17) (a 18) (a 19) (a 20) (a 21) (a 22) (a 23) (a 24) x1 ((u_1.1.1, u_1.1.2.1, u_1.1.2.2.1, u_1.1.2.2.2.1, u_1.1.2.2.2.2.1, (upd (upd u_1.1.2.2.2.2.2.1 0 (-1)) 1 (-1)), u_1.1.2.2.2.2.2.2.1, u_1.1.2.2.2.2.2.2.2), w0.2.2.2.1) u_2 hu_2) (cwV 2 hts gX6_lookAheadIdle_X4_passMonths rfl rfl rfl (by decide +kernel) ⟨(Nat.le_of_ble_eq_true rfl), (Nat.le_of_ble_eq_true rfl)⟩) (va_recv hK hP (ci := 2) (q0 := 13) rfl rfl) [13, 14, 15, 16, 17, 18, 19, 20, 21, 22, 23, 24] rfl rfl rfl rfl rfl hl.1 rfl rfl (Nat.le_of_ble_eq_true rfl) dX6_lookAheadIdle_40 ⟨Nat.zero_le _, Nat.zero_le _⟩ (fun H locs hP hS => ?_)
  refine lv_aload_n (pc := 43) hx hb dX6_lookAheadIdle_43 rfl (lv_at hl 0 rfl) ?_
  refine va_get (pc := 44) (D := E.1) (ci := 4) (v := .ref (a 13)) (C := RX6) (T := TX6) (N := 8) hx hb hts i_RX6 hown hK hP 0 rfl rfl 2 (Nat.le_of_ble_eq_true rfl) fl_19 (fun _ h9 => h9) rfl dX6_lookAheadIdle_44 ?_
  refine va_get (pc := 47) (D := E.1) (ci := 2) (v := .ref (a 16)) (C := RX4) (T := TX4) (N := 8) hx hb hts i_RX4 hown hK hP 13 rfl rfl 5 (Nat.le_of_ble_eq_true rfl) fl_90 (fun _ h9 => h9) rfl dX6_lookAheadIdle_47 ?_
  refine lv_iconst (pc := 50) (v := 0) hx hb dX6_lookAheadIdle_50 (by decide) ?_
  refine lv_aload_n (pc := 51) hx hb dX6_lookAheadIdle_51 rfl (lv_at hl 0 rfl) ?_
  refine va_get (pc := 52) (D := E.1) (ci := 4) (v := .ref (a 1)) (C := RX6) (T := TX6) (N := 8) hx hb hts i_RX6 hown hK hP 0 rfl rfl 0 (Nat.le_of_ble_eq_true rfl) fl_10 (fun _ h9 => h9) rfl dX6_lookAheadIdle_52 ?_
  refine va_get (pc := 55) (D := E.1) (ci := 2) (v := .ref (a 4)) (C := RX4) (T := TX4) (N := 8) hx hb hts i_RX4 hown hK hP 1 rfl rfl 5 (Nat.le_of_ble_eq_true rfl) fl_90 (fun _ h9 => h9) rfl dX6_lookAheadIdle_55 ?_
  refine lv_iconst (pc := 58) (v := 0) hx hb dX6_lookAheadIdle_58 (by decide) ?_
  refine va_iald (pc := 59) (D := E.1) hx hb hK hP 4 0 rfl rfl (by decide : ¬ ((0 : Int32) < 0 ∨ 2 ≤ (0 : Int32).toNatClampNeg)) dX6_lookAheadIdle_59 ?_
  refine W.eq (g2 := F0 m 60 ls [.int (u_1.2.2.2.2.2.2.1 0), .int 0, .ref (a 16)]) rfl ?_
  refine va_iast (pc := 60) (D := E.1) hx hb hK hP (hD (u_1.2, w0.2.1, u_2.1, u_2.2, w0.2.2.2.2.1, w0.2.2.2.2.2.1, w0.2.2.2.2.2.2.1, w0.2.2.2.2.2.2.2)) hS 16 0 rfl rfl (by decide : ¬ ((0 : Int32) < 0 ∨ 2 ≤ (0 : Int32).toNatClampNeg)) dX6_lookAheadIdle_60 (fun H locs hP _ hS => ?_)
  have hP : va_P E.1 vwCl (pv_wX E a (u_1.2, w0.2.1, (u_2.1.1, u_2.1.2.1, u_2.1.2.2.1, u_2.1.2.2.2.1, u_2.1.2.2.2.2.1, (upd u_2.1.2.2.2.2.2.1 0 (u_1.2.2.2.2.2.2.1 0)), u_2.1.2.2.2.2.2.2.1, u_2.1.2.2.2.2.2.2.2), u_2.2, w0.2.2.2.2.1, w0.2.2.2.2.2.1, w0.2.2.2.2.2.2.1, w0.2.2.2.2.2.2.2)) H := hP
  refine lv_aload_n (pc := 61) hx hb dX6_lookAheadIdle_61 rfl (lv_at hl 0 rfl) ?_
  refine va_get (pc := 62) (D := E.1) (ci := 4) (v := .ref (a 13)) (C := RX6) (T := TX6) (N := 8) hx hb hts i_RX6 hown hK hP 0 rfl rfl 2 (Nat.le_of_ble_eq_true rfl) fl_19 (fun _ h9 => h9) rfl dX6_lookAheadIdle_62 ?_
  refine va_get (pc := 65) (D := E.1) (ci := 2) (v := .ref (a 16)) (C := RX4) (T := TX4) (N := 8) hx hb hts i_RX4 hown hK hP 13 rfl rfl 5 (Nat.le_of_ble_eq_true rfl) fl_90 (fun _ h9 => h9) rfl dX6_lookAheadIdle_65 ?_
  refine lv_iconst (pc := 68) (v := 1) hx hb dX6_lookAheadIdle_68 (by decide) ?_
  refine lv_aload_n (pc := 69) hx hb dX6_lookAheadIdle_69 rfl (lv_at hl 0 rfl) ?_
  refine va_get (pc := 70) (D := E.1) (ci := 4) (v := .ref (a 1)) (C := RX6) (T := TX6) (N := 8) hx hb hts i_RX6 hown hK hP 0 rfl rfl 0 (Nat.le_of_ble_eq_true rfl) fl_10 (fun _ h9 => h9) rfl dX6_lookAheadIdle_70 ?_
  refine va_get (pc := 73) (D := E.1) (ci := 2) (v := .ref (a 4)) (C := RX4) (T := TX4) (N := 8) hx hb hts i_RX4 hown hK hP 1 rfl rfl 5 (Nat.le_of_ble_eq_true rfl) fl_90 (fun _ h9 => h9) rfl dX6_lookAheadIdle_73 ?_
  refine lv_iconst (pc := 76) (v := 1) hx hb dX6_lookAheadIdle_76 (by decide) ?_
  refine va_iald (pc := 77) (D := E.1) hx hb hK hP 4 0 rfl rfl (by decide : ¬ ((1 : Int32) < 0 ∨ 2 ≤ (1 : Int32).toNatClampNeg)) dX6_lookAheadIdle_77 ?_
  refine W.eq (g2 := F0 m 78 ls [.int (u_1.2.2.2.2.2.2.1 1), .int 1, .ref (a 16)]) rfl ?_
  refine va_iast (pc := 78) (D := E.1) hx hb hK hP (hD (u_1.2, w0.2.1, (u_2.1.1, u_2.1.2.1, u_2.1.2.2.1, u_2.1.2.2.2.1, u_2.1.2.2.2.2.1, (upd u_2.1.2.2.2.2.2.1 0 (u_1.2.2.2.2.2.2.1 0)), u_2.1.2.2.2.2.2.2.1, u_2.1.2.2.2.2.2.2.2), u_2.2, w0.2.2.2.2.1, w0.2.2.2.2.2.1, w0.2.2.2.2.2.2.1, w0.2.2.2.2.2.2.2)) hS 16 0 rfl rfl (by decide : ¬ ((1 : Int32) < 0 ∨ 2 ≤ (1 : Int32).toNatClampNeg)) dX6_lookAheadIdle_78 (fun H locs hP _ hS => ?_)
  have hP : va_P E.1 vwCl (pv_wX E a (u_1.2, w0.2.1, (u_2.1.1, u_2.1.2.1, u_2.1.2.2.1, u_2.1.2.2.2.1, u_2.1.2.2.2.2.1, (upd (upd u_2.1.2.2.2.2.2.1 0 (u_1.2.2.2.2.2.2.1 0)) 1 (u_1.2.2.2.2.2.2.1 1)), u_2.1.2.2.2.2.2.2.1, u_2.1.2.2.2.2.2.2.2), u_2.2, w0.2.2.2.2.1, w0.2.2.2.2.2.1, w0.2.2.2.2.2.2.1, w0.2.2.2.2.2.2.2)) H := hP
  exact pv_rvRW (w := fun w : pv_XT => pv_wX E a w) hx hb hr hlk hAe hS hP (Option.some.inj hq) dX6_lookAheadIdle_79
def m_X6_on_17  (w : pv_XT) : Option (Int32 × pv_XT) :=
  Option.bind (m_X6_finding (-1000000001) w) fun u_2 => (some (u_2.1, u_2.2))
def m_X6_on (x1 : Int32) (x2 : Int32) (w : pv_XT) : Option (Int32 × pv_XT) :=
  if (m_X6_isProvince x1) = 0 then (m_X6_on_17 w) else (if (m_X6_isWithin x2 0 100) = 0 then (m_X6_on_17 w) else (Option.bind (m_X6_lookAhead x2 w) fun u_4 => (pv_gd x1 8 (some ((u_4.2.2.1.2.2.2.1 x1.toNatClampNeg), u_4)))))
abbrev r_X6_on : Room := { frames := 7, cells := 0, slots := 0, locals := 165 }
set_option maxHeartbeats 4000000 in
set_option maxRecDepth 100000 in
theorem c_X6_on (l : Launch) (E : pv_E) (a : Nat → Nat) (x1 : Int32) (x2 : Int32) (w0 : pv_XT) (F : Int32 × pv_XT) (hq : m_X6_on x1 x2 w0 = some F) : pv_RW l E yX6_on wsX6_on r_X6_on (pv_wX E a w0) [.ref (a 0), .int x1, .int x2] (some (.int F.1)) (pv_wX E a F.2) := by
  intro sz
  refine pv_mk (by decide) rfl (Nat.le_of_ble_eq_true rfl) ?_
  intro p e s m args below meth c A hx hb hr hml hown hts hlk hAe hP hD0 hA hE hS ls hl
  have hown : s.vm.findClass RX6 = some m.cls := hown
  have hK := hE.1
  have hD : ∀ w : pv_XT, va_D A (pv_wX E a w) := fun w => pv_Dm (ws := pv_wX E a w0) (ws' := pv_wX E a w) rfl hD0
  have hP : va_P E.1 vwCl (pv_wX E a w0) s.heap := hP
  have lc_51 : (Cond.constant RX6 51 (-1000000001)).before args s = true := hts _ (by decide +kernel)
  have fl_19 : (Cond.fieldLink RX6 19 "ProvinceCards" "ahead" "LProvinceCards$Table;").before args s = true := hts _ (by decide +kernel)
  have fl_66 : (Cond.fieldLink RX6 66 "ProvinceCards$Table" "owner" "[I").before args s = true := hts _ (by decide +kernel)
  have i_RX6 : ∀ w ∈ wsX60, w ∈ wsX6_on := by decide +kernel
  have i_RX4 : ∀ w ∈ wsX40, w ∈ wsX6_on := by decide +kernel
  have hl : lv_has ls 3 [(0, .ref (a 0)), (1, .int x1), (2, .int x2)] := hl
  have B_17 : ∀  (w : pv_XT) (H : Heap) (locs : List Loc) (ls : Array Slot), va_P E.1 vwCl (pv_wX E a w) H → va_S A s.heap H locs → lv_has ls 3 [(0, .ref (a 0))] → m_X6_on_17 w = some F → W p l e r_X6_on s m args below meth c H locs 0 0 (MQ below (pv_Rw E (pv_wX E a w0) sz (some (.int F.1)) ((fun w : pv_XT => pv_wX E a w) F.2)) args s 0 0 A) (F0 m 17 ls []) := by
    intro w H locs ls hP hS hl hq
    refine lv_aload_n (pc := 17) hx hb dX6_on_17 rfl (lv_at hl 0 rfl) ?_
    refine lv_ldc (pc := 18) hx hb hown lc_51 dX6_on_18 ?_
    obtain ⟨u_2, hu_2, hq⟩ := pv_bind hq
    refine pv_vRWf (pc := 20) (rest := []) (st1 := [.int u_2.1]) (ws := pv_wX E a w) [.int (-1000000001)] ⟨hx, hb, hml, hown, hts⟩ hE hA hS hP (hD w) (c_X6_finding l E a (-1000000001) w u_2 hu_2) (cwV 1 hts gX6_on_X6_finding rfl rfl rfl (by decide +kernel) ⟨(Nat.le_of_ble_eq_true rfl), (Nat.le_of_ble_eq_true rfl)⟩) (va_recv hK hP (ci := 4) (q0 := 0) rfl rfl) rfl hl.1 rfl rfl (Nat.le_of_ble_eq_true rfl) dX6_on_20 ⟨Nat.zero_le _, Nat.zero_le _⟩ (fun H locs hP hS => ?_)
    have hP : va_P E.1 vwCl (pv_wX E a u_2.2) H := hP
    exact pv_riRW (w := fun w : pv_XT => pv_wX E a w) hx hb hr hlk hAe hS hP (Option.some.inj hq) dX6_on_23
  suffices M0 : ∀ (H : Heap) (locs : List Loc), va_P E.1 vwCl (pv_wX E a w0) H → va_S A s.heap H locs → W p l e r_X6_on s m args below meth c H locs 0 0 (MQ below (pv_Rw E (pv_wX E a w0) sz (some (.int F.1)) ((fun w : pv_XT => pv_wX E a w) F.2)) args s 0 0 A) (F0 m 0 ls []) from M0 s.heap [] hP hS
  intro H locs hP hS
  refine lv_iload_n (pc := 0) hx hb dX6_on_0 rfl (lv_at hl 1 rfl) ?_
  refine pv_sRO (pc := 1) (rest := []) (st1 := [.int (m_X6_isProvince x1)]) (ws := pv_wX E a w0) [.int x1] ⟨hx, hb, hml, hown, hts⟩ hE hA hS hP (hD w0) (c_X6_isProvince l E x1) (va_cwS 1 hts gX6_on_X6_isProvince rfl rfl rfl (by decide +kernel) ⟨(Nat.le_of_ble_eq_true rfl), (Nat.le_of_ble_eq_true rfl)⟩) [] rfl rfl rfl hl.1 rfl rfl (Nat.le_of_ble_eq_true rfl) dX6_on_1 ⟨Nat.zero_le _, Nat.zero_le _⟩ (fun locs hS => ?_)
  refine lv_if_eq (pc := 4) (tgt := 17) hx hb dX6_on_4 (by decide) (fun c_1 => ?_) (fun c_1 => ?_)
  · have hq := pv_pos c_1 hq
    exact B_17 w0 H locs ls hP hS (lv_sub hl [0] rfl) hq
  · have hq := pv_neg c_1 hq
    refine lv_iload_n (pc := 7) hx hb dX6_on_7 rfl (lv_at hl 2 rfl) ?_
    refine lv_iconst (pc := 8) (v := 0) hx hb dX6_on_8 (by decide) ?_
    refine lv_bipush (pc := 9) (v := 100) hx hb dX6_on_9 (by decide) ?_
    refine pv_sRO (pc := 11) (rest := []) (st1 := [.int (m_X6_isWithin x2 0 100)]) (ws := pv_wX E a w0) [.int x2, .int 0, .int 100] ⟨hx, hb, hml, hown, hts⟩ hE hA hS hP (hD w0) (c_X6_isWithin l E x2 0 100) (va_cwS 3 hts gX6_on_X6_isWithin rfl rfl rfl (by decide +kernel) ⟨(Nat.le_of_ble_eq_true rfl), (Nat.le_of_ble_eq_true rfl)⟩) [] rfl rfl rfl hl.1 rfl rfl (Nat.le_of_ble_eq_true rfl) dX6_on_11 ⟨Nat.zero_le _, Nat.zero_le _⟩ (fun locs hS => ?_)
    refine lv_if_ne (pc := 14) (tgt := 24) hx hb dX6_on_14 (by decide) (fun c_3 => ?_) (fun c_3 => ?_)
    · have hq := pv_neg c_3 hq
      refine lv_aload_n (pc := 24) hx hb dX6_on_24 rfl (lv_at hl 0 rfl) ?_
      refine lv_iload_n (pc := 25) hx hb dX6_on_25 rfl (lv_at hl 2 rfl) ?_
      obtain ⟨u_4, hu_4, hq⟩ := pv_bind hq
      refine pv_vRWf (pc := 26) (rest := []) (st1 := []) (ws := pv_wX E a w0) [.int x2] ⟨hx, hb, hml, hown, hts⟩ hE hA hS hP (hD w0) (c_X6_lookAhead l E a x2 w0 u_4 hu_4) (cwV 1 hts gX6_on_X6_lookAhead rfl rfl rfl (by decide +kernel) ⟨(Nat.le_of_ble_eq_true rfl), (Nat.le_of_ble_eq_true rfl)⟩) (va_recv hK hP (ci := 4) (q0 := 0) rfl rfl) rfl hl.1 rfl rfl (Nat.le_of_ble_eq_true rfl) dX6_on_26 ⟨Nat.zero_le _, Nat.zero_le _⟩ (fun H locs hP hS => ?_)
      have hP : va_P E.1 vwCl (pv_wX E a u_4) H := hP
      refine lv_aload_n (pc := 29) hx hb dX6_on_29 rfl (lv_at hl 0 rfl) ?_
      refine va_get (pc := 30) (D := E.1) (ci := 4) (v := .ref (a 13)) (C := RX6) (T := TX6) (N := 8) hx hb hts i_RX6 hown hK hP 0 rfl rfl 2 (Nat.le_of_ble_eq_true rfl) fl_19 (fun _ h9 => h9) rfl dX6_on_30 ?_
      refine va_get (pc := 33) (D := E.1) (ci := 2) (v := .ref (a 14)) (C := RX4) (T := TX4) (N := 8) hx hb hts i_RX4 hown hK hP 13 rfl rfl 3 (Nat.le_of_ble_eq_true rfl) fl_66 (fun _ h9 => h9) rfl dX6_on_33 ?_
      refine lv_iload_n (pc := 36) hx hb dX6_on_36 rfl (lv_at hl 1 rfl) ?_
      obtain ⟨h_5, hq⟩ := pv_gd_some hq
      refine va_iald (pc := 37) (D := E.1) hx hb hK hP 14 0 rfl rfl h_5 dX6_on_37 ?_
      exact pv_riRW (w := fun w : pv_XT => pv_wX E a w) hx hb hr hlk hAe hS hP (Option.some.inj hq) dX6_on_38
    · have hq := pv_pos c_3 hq
      exact B_17 w0 H locs ls hP hS (lv_sub hl [0] rfl) hq
def m_X6_then_26  (w : pv_XT) : Option (Int32 × pv_XT) :=
  Option.bind (m_X6_finding (-1000000001) w) fun u_2 => (some (u_2.1, u_2.2))
def m_X6_then (x1 : Int32) (x2 : Int32) (x3 : Int32) (w : pv_XT) : Option (Int32 × pv_XT) :=
  if (m_X6_isState x1) = 0 then (m_X6_then_26 w) else (if (m_X6_isWithin x2 0 100) = 0 then (m_X6_then_26 w) else (if (m_X6_isWithin x3 0 1) = 0 then (m_X6_then_26 w) else (Option.bind (m_X6_lookAhead x2 w) fun u_5 => (if x3 = 0 then (Option.bind (m_X4_ownedSet x1 u_5.2.2.1) fun u_8 => (some (u_8, u_5))) else (pv_gd x1 2 (some ((u_5.2.2.1.2.2.2.2.1 x1.toNatClampNeg), u_5)))))))
abbrev r_X6_then : Room := { frames := 7, cells := 0, slots := 0, locals := 165 }
set_option maxHeartbeats 4000000 in
set_option maxRecDepth 100000 in
theorem c_X6_then (l : Launch) (E : pv_E) (a : Nat → Nat) (x1 : Int32) (x2 : Int32) (x3 : Int32) (w0 : pv_XT) (F : Int32 × pv_XT) (hq : m_X6_then x1 x2 x3 w0 = some F) : pv_RW l E yX6_then wsX6_then r_X6_then (pv_wX E a w0) [.ref (a 0), .int x1, .int x2, .int x3] (some (.int F.1)) (pv_wX E a F.2) := by
  intro sz
  refine pv_mk (by decide) rfl (Nat.le_of_ble_eq_true rfl) ?_
  intro p e s m args below meth c A hx hb hr hml hown hts hlk hAe hP hD0 hA hE hS ls hl
  have hown : s.vm.findClass RX6 = some m.cls := hown
  have hK := hE.1
  have hD : ∀ w : pv_XT, va_D A (pv_wX E a w) := fun w => pv_Dm (ws := pv_wX E a w0) (ws' := pv_wX E a w) rfl hD0
  have hP : va_P E.1 vwCl (pv_wX E a w0) s.heap := hP
  have lc_51 : (Cond.constant RX6 51 (-1000000001)).before args s = true := hts _ (by decide +kernel)
  have fl_19 : (Cond.fieldLink RX6 19 "ProvinceCards" "ahead" "LProvinceCards$Table;").before args s = true := hts _ (by decide +kernel)
  have fl_77 : (Cond.fieldLink RX6 77 "ProvinceCards$Table" "purse" "[I").before args s = true := hts _ (by decide +kernel)
  have i_RX6 : ∀ w ∈ wsX60, w ∈ wsX6_then := by decide +kernel
  have i_RX4 : ∀ w ∈ wsX40, w ∈ wsX6_then := by decide +kernel
  have hl : lv_has ls 4 [(0, .ref (a 0)), (1, .int x1), (2, .int x2), (3, .int x3)] := hl
  have B_26 : ∀  (w : pv_XT) (H : Heap) (locs : List Loc) (ls : Array Slot), va_P E.1 vwCl (pv_wX E a w) H → va_S A s.heap H locs → lv_has ls 4 [(0, .ref (a 0))] → m_X6_then_26 w = some F → W p l e r_X6_then s m args below meth c H locs 0 0 (MQ below (pv_Rw E (pv_wX E a w0) sz (some (.int F.1)) ((fun w : pv_XT => pv_wX E a w) F.2)) args s 0 0 A) (F0 m 26 ls []) := by
    intro w H locs ls hP hS hl hq
    refine lv_aload_n (pc := 26) hx hb dX6_then_26 rfl (lv_at hl 0 rfl) ?_
    refine lv_ldc (pc := 27) hx hb hown lc_51 dX6_then_27 ?_
    obtain ⟨u_2, hu_2, hq⟩ := pv_bind hq
    refine pv_vRWf (pc := 29) (rest := []) (st1 := [.int u_2.1]) (ws := pv_wX E a w) [.int (-1000000001)] ⟨hx, hb, hml, hown, hts⟩ hE hA hS hP (hD w) (c_X6_finding l E a (-1000000001) w u_2 hu_2) (cwV 1 hts gX6_then_X6_finding rfl rfl rfl (by decide +kernel) ⟨(Nat.le_of_ble_eq_true rfl), (Nat.le_of_ble_eq_true rfl)⟩) (va_recv hK hP (ci := 4) (q0 := 0) rfl rfl) rfl hl.1 rfl rfl (Nat.le_of_ble_eq_true rfl) dX6_then_29 ⟨Nat.zero_le _, Nat.zero_le _⟩ (fun H locs hP hS => ?_)
    have hP : va_P E.1 vwCl (pv_wX E a u_2.2) H := hP
    exact pv_riRW (w := fun w : pv_XT => pv_wX E a w) hx hb hr hlk hAe hS hP (Option.some.inj hq) dX6_then_32
  suffices M0 : ∀ (H : Heap) (locs : List Loc), va_P E.1 vwCl (pv_wX E a w0) H → va_S A s.heap H locs → W p l e r_X6_then s m args below meth c H locs 0 0 (MQ below (pv_Rw E (pv_wX E a w0) sz (some (.int F.1)) ((fun w : pv_XT => pv_wX E a w) F.2)) args s 0 0 A) (F0 m 0 ls []) from M0 s.heap [] hP hS
  intro H locs hP hS
  refine lv_iload_n (pc := 0) hx hb dX6_then_0 rfl (lv_at hl 1 rfl) ?_
  refine pv_sRO (pc := 1) (rest := []) (st1 := [.int (m_X6_isState x1)]) (ws := pv_wX E a w0) [.int x1] ⟨hx, hb, hml, hown, hts⟩ hE hA hS hP (hD w0) (c_X6_isState l E x1) (va_cwS 1 hts gX6_then_X6_isState rfl rfl rfl (by decide +kernel) ⟨(Nat.le_of_ble_eq_true rfl), (Nat.le_of_ble_eq_true rfl)⟩) [] rfl rfl rfl hl.1 rfl rfl (Nat.le_of_ble_eq_true rfl) dX6_then_1 ⟨Nat.zero_le _, Nat.zero_le _⟩ (fun locs hS => ?_)
  refine lv_if_eq (pc := 4) (tgt := 26) hx hb dX6_then_4 (by decide) (fun c_1 => ?_) (fun c_1 => ?_)
  · have hq := pv_pos c_1 hq
    exact B_26 w0 H locs ls hP hS (lv_sub hl [0] rfl) hq
  · have hq := pv_neg c_1 hq
    refine lv_iload_n (pc := 7) hx hb dX6_then_7 rfl (lv_at hl 2 rfl) ?_
    refine lv_iconst (pc := 8) (v := 0) hx hb dX6_then_8 (by decide) ?_
    refine lv_bipush (pc := 9) (v := 100) hx hb dX6_then_9 (by decide) ?_
    refine pv_sRO (pc := 11) (rest := []) (st1 := [.int (m_X6_isWithin x2 0 100)]) (ws := pv_wX E a w0) [.int x2, .int 0, .int 100] ⟨hx, hb, hml, hown, hts⟩ hE hA hS hP (hD w0) (c_X6_isWithin l E x2 0 100) (va_cwS 3 hts gX6_then_X6_isWithin rfl rfl rfl (by decide +kernel) ⟨(Nat.le_of_ble_eq_true rfl), (Nat.le_of_ble_eq_true rfl)⟩) [] rfl rfl rfl hl.1 rfl rfl (Nat.le_of_ble_eq_true rfl) dX6_then_11 ⟨Nat.zero_le _, Nat.zero_le _⟩ (fun locs hS => ?_)
    refine lv_if_eq (pc := 14) (tgt := 26) hx hb dX6_then_14 (by decide) (fun c_3 => ?_) (fun c_3 => ?_)
    · have hq := pv_pos c_3 hq
      exact B_26 w0 H locs ls hP hS (lv_sub hl [0] rfl) hq
    · have hq := pv_neg c_3 hq
      refine lv_iload_n (pc := 17) hx hb dX6_then_17 rfl (lv_at hl 3 rfl) ?_
      refine lv_iconst (pc := 18) (v := 0) hx hb dX6_then_18 (by decide) ?_
      refine lv_iconst (pc := 19) (v := 1) hx hb dX6_then_19 (by decide) ?_
      refine pv_sRO (pc := 20) (rest := []) (st1 := [.int (m_X6_isWithin x3 0 1)]) (ws := pv_wX E a w0) [.int x3, .int 0, .int 1] ⟨hx, hb, hml, hown, hts⟩ hE hA hS hP (hD w0) (c_X6_isWithin l E x3 0 1) (va_cwS 3 hts gX6_then_X6_isWithin rfl rfl rfl (by decide +kernel) ⟨(Nat.le_of_ble_eq_true rfl), (Nat.le_of_ble_eq_true rfl)⟩) [] rfl rfl rfl hl.1 rfl rfl (Nat.le_of_ble_eq_true rfl) dX6_then_20 ⟨Nat.zero_le _, Nat.zero_le _⟩ (fun locs hS => ?_)
      refine lv_if_ne (pc := 23) (tgt := 33) hx hb dX6_then_23 (by decide) (fun c_4 => ?_) (fun c_4 => ?_)
      · have hq := pv_neg c_4 hq
        refine lv_aload_n (pc := 33) hx hb dX6_then_33 rfl (lv_at hl 0 rfl) ?_
        refine lv_iload_n (pc := 34) hx hb dX6_then_34 rfl (lv_at hl 2 rfl) ?_
        obtain ⟨u_5, hu_5, hq⟩ := pv_bind hq
        refine pv_vRWf (pc := 35) (rest := []) (st1 := []) (ws := pv_wX E a w0) [.int x2] ⟨hx, hb, hml, hown, hts⟩ hE hA hS hP (hD w0) (c_X6_lookAhead l E a x2 w0 u_5 hu_5) (cwV 1 hts gX6_then_X6_lookAhead rfl rfl rfl (by decide +kernel) ⟨(Nat.le_of_ble_eq_true rfl), (Nat.le_of_ble_eq_true rfl)⟩) (va_recv hK hP (ci := 4) (q0 := 0) rfl rfl) rfl hl.1 rfl rfl (Nat.le_of_ble_eq_true rfl) dX6_then_35 ⟨Nat.zero_le _, Nat.zero_le _⟩ (fun H locs hP hS => ?_)
        have hP : va_P E.1 vwCl (pv_wX E a u_5) H := hP
        refine lv_iload_n (pc := 38) hx hb dX6_then_38 rfl (lv_at hl 3 rfl) ?_
        refine lv_if_ne (pc := 39) (tgt := 53) hx hb dX6_then_39 (by decide) (fun c_6 => ?_) (fun c_6 => ?_)
        · have hq := pv_neg c_6 hq
          refine lv_aload_n (pc := 53) hx hb dX6_then_53 rfl (lv_at hl 0 rfl) ?_
          refine va_get (pc := 54) (D := E.1) (ci := 4) (v := .ref (a 13)) (C := RX6) (T := TX6) (N := 8) hx hb hts i_RX6 hown hK hP 0 rfl rfl 2 (Nat.le_of_ble_eq_true rfl) fl_19 (fun _ h9 => h9) rfl dX6_then_54 ?_
          refine va_get (pc := 57) (D := E.1) (ci := 2) (v := .ref (a 15)) (C := RX4) (T := TX4) (N := 8) hx hb hts i_RX4 hown hK hP 13 rfl rfl 4 (Nat.le_of_ble_eq_true rfl) fl_77 (fun _ h9 => h9) rfl dX6_then_57 ?_
          refine lv_iload_n (pc := 60) hx hb dX6_then_60 rfl (lv_at hl 1 rfl) ?_
          obtain ⟨h_7, hq⟩ := pv_gd_some hq
          refine va_iald (pc := 61) (D := E.1) hx hb hK hP 15 0 rfl rfl h_7 dX6_then_61 ?_
          exact pv_riRW (w := fun w : pv_XT => pv_wX E a w) hx hb hr hlk hAe hS hP (Option.some.inj hq) dX6_then_62
        · have hq := pv_pos c_6 hq
          refine lv_aload_n (pc := 42) hx hb dX6_then_42 rfl (lv_at hl 0 rfl) ?_
          refine va_get (pc := 43) (D := E.1) (ci := 4) (v := .ref (a 13)) (C := RX6) (T := TX6) (N := 8) hx hb hts i_RX6 hown hK hP 0 rfl rfl 2 (Nat.le_of_ble_eq_true rfl) fl_19 (fun _ h9 => h9) rfl dX6_then_43 ?_
          refine lv_iload_n (pc := 46) hx hb dX6_then_46 rfl (lv_at hl 1 rfl) ?_
          obtain ⟨u_8, hu_8, hq⟩ := pv_bind hq
          refine pv_vRO (pc := 47) (rest := []) (st1 := [.int u_8]) (ws := pv_wX E a u_5) [.int x1] ⟨hx, hb, hml, hown, hts⟩ hE hA hS hP (hD u_5) (c_X4_ownedSet l E (a 13) (a 14) (a 15) (a 16) (a 17) (a 18) x1 u_5.2.2.1 u_8 hu_8) (cwV 1 hts gX6_then_X4_ownedSet rfl rfl rfl (by decide +kernel) ⟨(Nat.le_of_ble_eq_true rfl), (Nat.le_of_ble_eq_true rfl)⟩) (va_recv hK hP (ci := 2) (q0 := 13) rfl rfl) [13, 14, 15, 16, 17, 18] rfl rfl rfl hl.1 rfl rfl (Nat.le_of_ble_eq_true rfl) dX6_then_47 ⟨Nat.zero_le _, Nat.zero_le _⟩ (fun locs hS => ?_)
          refine lv_goto (pc := 50) (tgt := 62) hx hb dX6_then_50 (by decide) ?_
          exact pv_riRW (w := fun w : pv_XT => pv_wX E a w) hx hb hr hlk hAe hS hP (Option.some.inj hq) dX6_then_62
      · have hq := pv_pos c_4 hq
        exact B_26 w0 H locs ls hP hS (lv_sub hl [0] rfl) hq
def m_X6_when_14  (w : pv_XT) : Option (Int32 × pv_XT) :=
  Option.bind (m_X6_finding (-1000000001) w) fun u_2 => (some (u_2.1, u_2.2))
def m_X6_when_34 : Nat → Int32 → Int32 → Int32 → pv_XT → Option (Int32 × pv_XT)
  | 0 => fun _ _ _ _ => none
  | n + 1 => fun x1 x2 x3 w =>
    if 100 < x3 then (Option.bind (m_X6_finding (-1000000004) w) fun u_6 => (some (u_6.1, u_6.2))) else (pv_gd x1 8 (if (w.2.2.1.2.2.2.1 x1.toNatClampNeg) = x2 then (some (x3, w)) else (Option.bind (m_X4_passMonths 1 (w.2.2.1, w.2.2.2.1)) fun u_9 => ((m_X6_when_34 n) x1 x2 (x3 + 1) (w.1, w.2.1, u_9.1, u_9.2, w.2.2.2.2.1, w.2.2.2.2.2.1, w.2.2.2.2.2.2.1, w.2.2.2.2.2.2.2)))))
def m_X6_when (x1 : Int32) (x2 : Int32) (w : pv_XT) : Option (Int32 × pv_XT) :=
  if (m_X6_isProvince x1) = 0 then (m_X6_when_14 w) else (if (m_X6_isStateOrNobody x2) = 0 then (m_X6_when_14 w) else (Option.bind (m_X4_become (w.2.2.1, w.1)) fun u_4 => (m_X6_when_34 300 x1 x2 0 (u_4.2, w.2.1, u_4.1, w.2.2.2.1, w.2.2.2.2.1, w.2.2.2.2.2.1, w.2.2.2.2.2.2.1, w.2.2.2.2.2.2.2))))
abbrev r_X6_when : Room := { frames := 6, cells := 0, slots := 0, locals := 144 }
set_option maxHeartbeats 4000000 in
set_option maxRecDepth 100000 in
theorem c_X6_when (l : Launch) (E : pv_E) (a : Nat → Nat) (x1 : Int32) (x2 : Int32) (w0 : pv_XT) (F : Int32 × pv_XT) (hq : m_X6_when x1 x2 w0 = some F) : pv_RW l E yX6_when wsX6_when r_X6_when (pv_wX E a w0) [.ref (a 0), .int x1, .int x2] (some (.int F.1)) (pv_wX E a F.2) := by
  intro sz
  refine pv_mk (by decide) rfl (Nat.le_of_ble_eq_true rfl) ?_
  intro p e s m args below meth c A hx hb hr hml hown hts hlk hAe hP hD0 hA hE hS ls hl
  have hown : s.vm.findClass RX6 = some m.cls := hown
  have hK := hE.1
  have hD : ∀ w : pv_XT, va_D A (pv_wX E a w) := fun w => pv_Dm (ws := pv_wX E a w0) (ws' := pv_wX E a w) rfl hD0
  have hP : va_P E.1 vwCl (pv_wX E a w0) s.heap := hP
  have lc_51 : (Cond.constant RX6 51 (-1000000001)).before args s = true := hts _ (by decide +kernel)
  have fl_19 : (Cond.fieldLink RX6 19 "ProvinceCards" "ahead" "LProvinceCards$Table;").before args s = true := hts _ (by decide +kernel)
  have fl_10 : (Cond.fieldLink RX6 10 "ProvinceCards" "table" "LProvinceCards$Table;").before args s = true := hts _ (by decide +kernel)
  have lc_182 : (Cond.constant RX6 182 (-1000000004)).before args s = true := hts _ (by decide +kernel)
  have fl_66 : (Cond.fieldLink RX6 66 "ProvinceCards$Table" "owner" "[I").before args s = true := hts _ (by decide +kernel)
  have fl_25 : (Cond.fieldLink RX6 25 "ProvinceCards" "game" "LProvinceCards$Game;").before args s = true := hts _ (by decide +kernel)
  have i_RX6 : ∀ w ∈ wsX60, w ∈ wsX6_when := by decide +kernel
  have i_RX4 : ∀ w ∈ wsX40, w ∈ wsX6_when := by decide +kernel
  have hl : lv_has ls 4 [(0, .ref (a 0)), (1, .int x1), (2, .int x2)] := hl
  have B_14 : ∀  (w : pv_XT) (H : Heap) (locs : List Loc) (ls : Array Slot), va_P E.1 vwCl (pv_wX E a w) H → va_S A s.heap H locs → lv_has ls 4 [(0, .ref (a 0))] → m_X6_when_14 w = some F → W p l e r_X6_when s m args below meth c H locs 0 0 (MQ below (pv_Rw E (pv_wX E a w0) sz (some (.int F.1)) ((fun w : pv_XT => pv_wX E a w) F.2)) args s 0 0 A) (F0 m 14 ls []) := by
    intro w H locs ls hP hS hl hq
    refine lv_aload_n (pc := 14) hx hb dX6_when_14 rfl (lv_at hl 0 rfl) ?_
    refine lv_ldc (pc := 15) hx hb hown lc_51 dX6_when_15 ?_
    obtain ⟨u_2, hu_2, hq⟩ := pv_bind hq
    refine pv_vRWf (pc := 17) (rest := []) (st1 := [.int u_2.1]) (ws := pv_wX E a w) [.int (-1000000001)] ⟨hx, hb, hml, hown, hts⟩ hE hA hS hP (hD w) (c_X6_finding l E a (-1000000001) w u_2 hu_2) (cwV 1 hts gX6_when_X6_finding rfl rfl rfl (by decide +kernel) ⟨(Nat.le_of_ble_eq_true rfl), (Nat.le_of_ble_eq_true rfl)⟩) (va_recv hK hP (ci := 4) (q0 := 0) rfl rfl) rfl hl.1 rfl rfl (Nat.le_of_ble_eq_true rfl) dX6_when_17 ⟨Nat.zero_le _, Nat.zero_le _⟩ (fun H locs hP hS => ?_)
    have hP : va_P E.1 vwCl (pv_wX E a u_2.2) H := hP
    exact pv_riRW (w := fun w : pv_XT => pv_wX E a w) hx hb hr hlk hAe hS hP (Option.some.inj hq) dX6_when_20
  have L_34 : ∀ n : Nat, ∀ (x1 : Int32) (x2 : Int32) (x3 : Int32) (w : pv_XT) (H : Heap) (locs : List Loc) (ls : Array Slot), va_P E.1 vwCl (pv_wX E a w) H → va_S A s.heap H locs → lv_has ls 4 [(0, .ref (a 0)), (1, .int x1), (2, .int x2), (3, .int x3)] → m_X6_when_34 n x1 x2 x3 w = some F → W p l e r_X6_when s m args below meth c H locs 0 0 (MQ below (pv_Rw E (pv_wX E a w0) sz (some (.int F.1)) ((fun w : pv_XT => pv_wX E a w) F.2)) args s 0 0 A) (F0 m 34 ls []) := by
    intro n
    induction n with
    | zero =>
      intro x1 x2 x3 w H locs ls hP hS hl hq
      exact (pv_no hq).elim
    | succ n ih =>
      intro x1 x2 x3 w H locs ls hP hS hl hq
      refine lv_iload_n (pc := 34) hx hb dX6_when_34 rfl (lv_at hl 3 rfl) ?_
      refine lv_bipush (pc := 35) (v := 100) hx hb dX6_when_35 (by decide) ?_
      refine lv_icmp_gt (pc := 37) (tgt := 73) hx hb dX6_when_37 (by decide) (fun c_5 => ?_) (fun c_5 => ?_)
      · have hq := pv_pos c_5 hq
        refine lv_aload_n (pc := 73) hx hb dX6_when_73 rfl (lv_at hl 0 rfl) ?_
        refine lv_ldc (pc := 74) hx hb hown lc_182 dX6_when_74 ?_
        obtain ⟨u_6, hu_6, hq⟩ := pv_bind hq
        refine pv_vRWf (pc := 76) (rest := []) (st1 := [.int u_6.1]) (ws := pv_wX E a w) [.int (-1000000004)] ⟨hx, hb, hml, hown, hts⟩ hE hA hS hP (hD w) (c_X6_finding l E a (-1000000004) w u_6 hu_6) (cwV 1 hts gX6_when_X6_finding rfl rfl rfl (by decide +kernel) ⟨(Nat.le_of_ble_eq_true rfl), (Nat.le_of_ble_eq_true rfl)⟩) (va_recv hK hP (ci := 4) (q0 := 0) rfl rfl) rfl hl.1 rfl rfl (Nat.le_of_ble_eq_true rfl) dX6_when_76 ⟨Nat.zero_le _, Nat.zero_le _⟩ (fun H locs hP hS => ?_)
        have hP : va_P E.1 vwCl (pv_wX E a u_6.2) H := hP
        exact pv_riRW (w := fun w : pv_XT => pv_wX E a w) hx hb hr hlk hAe hS hP (Option.some.inj hq) dX6_when_79
      · have hq := pv_neg c_5 hq
        refine lv_aload_n (pc := 40) hx hb dX6_when_40 rfl (lv_at hl 0 rfl) ?_
        refine va_get (pc := 41) (D := E.1) (ci := 4) (v := .ref (a 13)) (C := RX6) (T := TX6) (N := 8) hx hb hts i_RX6 hown hK hP 0 rfl rfl 2 (Nat.le_of_ble_eq_true rfl) fl_19 (fun _ h9 => h9) rfl dX6_when_41 ?_
        refine va_get (pc := 44) (D := E.1) (ci := 2) (v := .ref (a 14)) (C := RX4) (T := TX4) (N := 8) hx hb hts i_RX4 hown hK hP 13 rfl rfl 3 (Nat.le_of_ble_eq_true rfl) fl_66 (fun _ h9 => h9) rfl dX6_when_44 ?_
        refine lv_iload_n (pc := 47) hx hb dX6_when_47 rfl (lv_at hl 1 rfl) ?_
        obtain ⟨h_7, hq⟩ := pv_gd_some hq
        refine va_iald (pc := 48) (D := E.1) hx hb hK hP 14 0 rfl rfl h_7 dX6_when_48 ?_
        refine lv_iload_n (pc := 49) hx hb dX6_when_49 rfl (lv_at hl 2 rfl) ?_
        refine lv_icmp_ne (pc := 50) (tgt := 55) hx hb dX6_when_50 (by decide) (fun c_8 => ?_) (fun c_8 => ?_)
        · have hq := pv_neg c_8 hq
          refine lv_aload_n (pc := 55) hx hb dX6_when_55 rfl (lv_at hl 0 rfl) ?_
          refine va_get (pc := 56) (D := E.1) (ci := 4) (v := .ref (a 13)) (C := RX6) (T := TX6) (N := 8) hx hb hts i_RX6 hown hK hP 0 rfl rfl 2 (Nat.le_of_ble_eq_true rfl) fl_19 (fun _ h9 => h9) rfl dX6_when_56 ?_
          refine lv_iconst (pc := 59) (v := 1) hx hb dX6_when_59 (by decide) ?_
          refine lv_aload_n (pc := 60) hx hb dX6_when_60 rfl (lv_at hl 0 rfl) ?_
          refine va_get (pc := 61) (D := E.1) (ci := 4) (v := .ref (a 19)) (C := RX6) (T := TX6) (N := 8) hx hb hts i_RX6 hown hK hP 0 rfl rfl 3 (Nat.le_of_ble_eq_true rfl) fl_25 (fun _ h9 => h9) rfl dX6_when_61 ?_
          obtain ⟨u_9, hu_9, hq⟩ := pv_bind hq
          refine pv_vRW (pc := 64) (rest := []) (st1 := []) (ws := pv_wX E a w) (ws' := pv_wX E a (w.1, w.2.1, u_9.1, u_9.2, w.2.2.2.2.1, w.2.2.2.2.2.1, w.2.2.2.2.2.2.1, w.2.2.2.2.2.2.2)) [.int 1, .ref (a 19)] ⟨hx, hb, hml, hown, hts⟩ hE hA hS hP (hD w) (c_X4_passMonths l E (a 13) (a 14) (a 15) (a 16) (a 17) (a 18) (a 19) (a 20) (a 21) (a 22) (a 23) (a 24) 1 (w.2.2.1, w.2.2.2.1) u_9 hu_9) (cwV 2 hts gX6_when_X4_passMonths rfl rfl rfl (by decide +kernel) ⟨(Nat.le_of_ble_eq_true rfl), (Nat.le_of_ble_eq_true rfl)⟩) (va_recv hK hP (ci := 2) (q0 := 13) rfl rfl) [13, 14, 15, 16, 17, 18, 19, 20, 21, 22, 23, 24] rfl rfl rfl rfl rfl hl.1 rfl rfl (Nat.le_of_ble_eq_true rfl) dX6_when_64 ⟨Nat.zero_le _, Nat.zero_le _⟩ (fun H locs hP hS => ?_)
          refine lv_iinc (pc := 67) (v := (x3 + 1)) (lv' := [(3, .int (x3 + 1)), (0, .ref (a 0)), (1, .int x1), (2, .int x2)]) hx hb dX6_when_67 hl (k := 3) rfl rfl (Nat.le_of_ble_eq_true rfl) rfl (fun ls hl => ?_)
          refine lv_goto (pc := 70) (tgt := 34) hx hb dX6_when_70 (by decide) ?_
          exact ih x1 x2 (x3 + 1) (w.1, w.2.1, u_9.1, u_9.2, w.2.2.2.2.1, w.2.2.2.2.2.1, w.2.2.2.2.2.2.1, w.2.2.2.2.2.2.2) H locs ls hP hS (lv_sub hl [1, 2, 3, 0] rfl) hq
        · have hq := pv_pos c_8 hq
          refine lv_iload_n (pc := 53) hx hb dX6_when_53 rfl (lv_at hl 3 rfl) ?_
          exact pv_riRW (w := fun w : pv_XT => pv_wX E a w) hx hb hr hlk hAe hS hP (Option.some.inj hq) dX6_when_54
  suffices M0 : ∀ (H : Heap) (locs : List Loc), va_P E.1 vwCl (pv_wX E a w0) H → va_S A s.heap H locs → W p l e r_X6_when s m args below meth c H locs 0 0 (MQ below (pv_Rw E (pv_wX E a w0) sz (some (.int F.1)) ((fun w : pv_XT => pv_wX E a w) F.2)) args s 0 0 A) (F0 m 0 ls []) from M0 s.heap [] hP hS
  intro H locs hP hS
  refine lv_iload_n (pc := 0) hx hb dX6_when_0 rfl (lv_at hl 1 rfl) ?_
  refine pv_sRO (pc := 1) (rest := []) (st1 := [.int (m_X6_isProvince x1)]) (ws := pv_wX E a w0) [.int x1] ⟨hx, hb, hml, hown, hts⟩ hE hA hS hP (hD w0) (c_X6_isProvince l E x1) (va_cwS 1 hts gX6_when_X6_isProvince rfl rfl rfl (by decide +kernel) ⟨(Nat.le_of_ble_eq_true rfl), (Nat.le_of_ble_eq_true rfl)⟩) [] rfl rfl rfl hl.1 rfl rfl (Nat.le_of_ble_eq_true rfl) dX6_when_1 ⟨Nat.zero_le _, Nat.zero_le _⟩ (fun locs hS => ?_)
  refine lv_if_eq (pc := 4) (tgt := 14) hx hb dX6_when_4 (by decide) (fun c_1 => ?_) (fun c_1 => ?_)
  · have hq := pv_pos c_1 hq
    exact B_14 w0 H locs ls hP hS (lv_sub hl [0] rfl) hq
  · have hq := pv_neg c_1 hq
    refine lv_iload_n (pc := 7) hx hb dX6_when_7 rfl (lv_at hl 2 rfl) ?_
    refine pv_sRO (pc := 8) (rest := []) (st1 := [.int (m_X6_isStateOrNobody x2)]) (ws := pv_wX E a w0) [.int x2] ⟨hx, hb, hml, hown, hts⟩ hE hA hS hP (hD w0) (c_X6_isStateOrNobody l E x2) (va_cwS 1 hts gX6_when_X6_isStateOrNobody rfl rfl rfl (by decide +kernel) ⟨(Nat.le_of_ble_eq_true rfl), (Nat.le_of_ble_eq_true rfl)⟩) [] rfl rfl rfl hl.1 rfl rfl (Nat.le_of_ble_eq_true rfl) dX6_when_8 ⟨Nat.zero_le _, Nat.zero_le _⟩ (fun locs hS => ?_)
    refine lv_if_ne (pc := 11) (tgt := 21) hx hb dX6_when_11 (by decide) (fun c_3 => ?_) (fun c_3 => ?_)
    · have hq := pv_neg c_3 hq
      refine lv_aload_n (pc := 21) hx hb dX6_when_21 rfl (lv_at hl 0 rfl) ?_
      refine va_get (pc := 22) (D := E.1) (ci := 4) (v := .ref (a 13)) (C := RX6) (T := TX6) (N := 8) hx hb hts i_RX6 hown hK hP 0 rfl rfl 2 (Nat.le_of_ble_eq_true rfl) fl_19 (fun _ h9 => h9) rfl dX6_when_22 ?_
      refine lv_aload_n (pc := 25) hx hb dX6_when_25 rfl (lv_at hl 0 rfl) ?_
      refine va_get (pc := 26) (D := E.1) (ci := 4) (v := .ref (a 1)) (C := RX6) (T := TX6) (N := 8) hx hb hts i_RX6 hown hK hP 0 rfl rfl 0 (Nat.le_of_ble_eq_true rfl) fl_10 (fun _ h9 => h9) rfl dX6_when_26 ?_
      obtain ⟨u_4, hu_4, hq⟩ := pv_bind hq
      refine pv_vRW (pc := 29) (rest := []) (st1 := []) (ws := pv_wX E a w0) (ws' := pv_wX E a (u_4.2, w0.2.1, u_4.1, w0.2.2.2.1, w0.2.2.2.2.1, w0.2.2.2.2.2.1, w0.2.2.2.2.2.2.1, w0.2.2.2.2.2.2.2)) [.ref (a 1)] ⟨hx, hb, hml, hown, hts⟩ hE hA hS hP (hD w0) (c_X4_become l E (a 13) (a 14) (a 15) (a 16) (a 17) (a 18) (a 1) (a 2) (a 3) (a 4) (a 5) (a 6) (w0.2.2.1, w0.1) u_4 hu_4) (cwV 1 hts gX6_when_X4_become rfl rfl rfl (by decide +kernel) ⟨(Nat.le_of_ble_eq_true rfl), (Nat.le_of_ble_eq_true rfl)⟩) (va_recv hK hP (ci := 2) (q0 := 13) rfl rfl) [13, 14, 15, 16, 17, 18, 1, 2, 3, 4, 5, 6] rfl rfl rfl rfl rfl hl.1 rfl rfl (Nat.le_of_ble_eq_true rfl) dX6_when_29 ⟨Nat.zero_le _, Nat.zero_le _⟩ (fun H locs hP hS => ?_)
      refine lv_iconst (pc := 32) (v := 0) hx hb dX6_when_32 (by decide) ?_
      refine lv_istore_n (pc := 33) (lv' := [(3, .int 0), (0, .ref (a 0)), (1, .int x1), (2, .int x2)]) hx hb dX6_when_33 rfl hl (Nat.le_of_ble_eq_true rfl) rfl (fun ls hl => ?_)
      exact L_34 300 x1 x2 0 (u_4.2, w0.2.1, u_4.1, w0.2.2.2.1, w0.2.2.2.2.1, w0.2.2.2.2.2.1, w0.2.2.2.2.2.2.1, w0.2.2.2.2.2.2.2) H locs ls hP hS (lv_sub hl [1, 2, 3, 0] rfl) hq
    · have hq := pv_pos c_3 hq
      exact B_14 w0 H locs ls hP hS (lv_sub hl [0] rfl) hq
def m_X6_all_27 : Nat → Int32 → Int32 → pv_XT → Option (Int32 × pv_XT)
  | 0 => fun _ _ _ => none
  | n + 1 => fun x1 x2 w =>
    if 100 < x2 then (Option.bind (m_X6_finding (-1000000004) w) fun u_4 => (some (u_4.1, u_4.2))) else (Option.bind (m_X4_owned x1 w.2.2.1) fun u_5 => (if u_5 = 8 then (some (x2, w)) else (Option.bind (m_X4_passMonths 1 (w.2.2.1, w.2.2.2.1)) fun u_7 => ((m_X6_all_27 n) x1 (x2 + 1) (w.1, w.2.1, u_7.1, u_7.2, w.2.2.2.2.1, w.2.2.2.2.2.1, w.2.2.2.2.2.2.1, w.2.2.2.2.2.2.2)))))
def m_X6_all (x1 : Int32) (w : pv_XT) : Option (Int32 × pv_XT) :=
  if (m_X6_isState x1) = 0 then (Option.bind (m_X6_finding (-1000000001) w) fun u_8 => (some (u_8.1, u_8.2))) else (Option.bind (m_X4_become (w.2.2.1, w.1)) fun u_2 => (m_X6_all_27 300 x1 0 (u_2.2, w.2.1, u_2.1, w.2.2.2.1, w.2.2.2.2.1, w.2.2.2.2.2.1, w.2.2.2.2.2.2.1, w.2.2.2.2.2.2.2)))
abbrev r_X6_all : Room := { frames := 6, cells := 0, slots := 0, locals := 144 }
set_option maxHeartbeats 4000000 in
set_option maxRecDepth 100000 in
theorem c_X6_all (l : Launch) (E : pv_E) (a : Nat → Nat) (x1 : Int32) (w0 : pv_XT) (F : Int32 × pv_XT) (hq : m_X6_all x1 w0 = some F) : pv_RW l E yX6_all wsX6_all r_X6_all (pv_wX E a w0) [.ref (a 0), .int x1] (some (.int F.1)) (pv_wX E a F.2) := by
  intro sz
  refine pv_mk (by decide) rfl (Nat.le_of_ble_eq_true rfl) ?_
  intro p e s m args below meth c A hx hb hr hml hown hts hlk hAe hP hD0 hA hE hS ls hl
  have hown : s.vm.findClass RX6 = some m.cls := hown
  have hK := hE.1
  have hD : ∀ w : pv_XT, va_D A (pv_wX E a w) := fun w => pv_Dm (ws := pv_wX E a w0) (ws' := pv_wX E a w) rfl hD0
  have hP : va_P E.1 vwCl (pv_wX E a w0) s.heap := hP
  have fl_19 : (Cond.fieldLink RX6 19 "ProvinceCards" "ahead" "LProvinceCards$Table;").before args s = true := hts _ (by decide +kernel)
  have fl_10 : (Cond.fieldLink RX6 10 "ProvinceCards" "table" "LProvinceCards$Table;").before args s = true := hts _ (by decide +kernel)
  have lc_182 : (Cond.constant RX6 182 (-1000000004)).before args s = true := hts _ (by decide +kernel)
  have fl_25 : (Cond.fieldLink RX6 25 "ProvinceCards" "game" "LProvinceCards$Game;").before args s = true := hts _ (by decide +kernel)
  have lc_51 : (Cond.constant RX6 51 (-1000000001)).before args s = true := hts _ (by decide +kernel)
  have i_RX6 : ∀ w ∈ wsX60, w ∈ wsX6_all := by decide +kernel
  have hl : lv_has ls 3 [(0, .ref (a 0)), (1, .int x1)] := hl
  have L_27 : ∀ n : Nat, ∀ (x1 : Int32) (x2 : Int32) (w : pv_XT) (H : Heap) (locs : List Loc) (ls : Array Slot), va_P E.1 vwCl (pv_wX E a w) H → va_S A s.heap H locs → lv_has ls 3 [(0, .ref (a 0)), (1, .int x1), (2, .int x2)] → m_X6_all_27 n x1 x2 w = some F → W p l e r_X6_all s m args below meth c H locs 0 0 (MQ below (pv_Rw E (pv_wX E a w0) sz (some (.int F.1)) ((fun w : pv_XT => pv_wX E a w) F.2)) args s 0 0 A) (F0 m 27 ls []) := by
    intro n
    induction n with
    | zero =>
      intro x1 x2 w H locs ls hP hS hl hq
      exact (pv_no hq).elim
    | succ n ih =>
      intro x1 x2 w H locs ls hP hS hl hq
      refine lv_iload_n (pc := 27) hx hb dX6_all_27 rfl (lv_at hl 2 rfl) ?_
      refine lv_bipush (pc := 28) (v := 100) hx hb dX6_all_28 (by decide) ?_
      refine lv_icmp_gt (pc := 30) (tgt := 66) hx hb dX6_all_30 (by decide) (fun c_3 => ?_) (fun c_3 => ?_)
      · have hq := pv_pos c_3 hq
        refine lv_aload_n (pc := 66) hx hb dX6_all_66 rfl (lv_at hl 0 rfl) ?_
        refine lv_ldc (pc := 67) hx hb hown lc_182 dX6_all_67 ?_
        obtain ⟨u_4, hu_4, hq⟩ := pv_bind hq
        refine pv_vRWf (pc := 69) (rest := []) (st1 := [.int u_4.1]) (ws := pv_wX E a w) [.int (-1000000004)] ⟨hx, hb, hml, hown, hts⟩ hE hA hS hP (hD w) (c_X6_finding l E a (-1000000004) w u_4 hu_4) (cwV 1 hts gX6_all_X6_finding rfl rfl rfl (by decide +kernel) ⟨(Nat.le_of_ble_eq_true rfl), (Nat.le_of_ble_eq_true rfl)⟩) (va_recv hK hP (ci := 4) (q0 := 0) rfl rfl) rfl hl.1 rfl rfl (Nat.le_of_ble_eq_true rfl) dX6_all_69 ⟨Nat.zero_le _, Nat.zero_le _⟩ (fun H locs hP hS => ?_)
        have hP : va_P E.1 vwCl (pv_wX E a u_4.2) H := hP
        exact pv_riRW (w := fun w : pv_XT => pv_wX E a w) hx hb hr hlk hAe hS hP (Option.some.inj hq) dX6_all_72
      · have hq := pv_neg c_3 hq
        refine lv_aload_n (pc := 33) hx hb dX6_all_33 rfl (lv_at hl 0 rfl) ?_
        refine va_get (pc := 34) (D := E.1) (ci := 4) (v := .ref (a 13)) (C := RX6) (T := TX6) (N := 8) hx hb hts i_RX6 hown hK hP 0 rfl rfl 2 (Nat.le_of_ble_eq_true rfl) fl_19 (fun _ h9 => h9) rfl dX6_all_34 ?_
        refine lv_iload_n (pc := 37) hx hb dX6_all_37 rfl (lv_at hl 1 rfl) ?_
        obtain ⟨u_5, hu_5, hq⟩ := pv_bind hq
        refine pv_vRO (pc := 38) (rest := []) (st1 := [.int u_5]) (ws := pv_wX E a w) [.int x1] ⟨hx, hb, hml, hown, hts⟩ hE hA hS hP (hD w) (c_X4_owned l E (a 13) (a 14) (a 15) (a 16) (a 17) (a 18) x1 w.2.2.1 u_5 hu_5) (cwV 1 hts gX6_all_X4_owned rfl rfl rfl (by decide +kernel) ⟨(Nat.le_of_ble_eq_true rfl), (Nat.le_of_ble_eq_true rfl)⟩) (va_recv hK hP (ci := 2) (q0 := 13) rfl rfl) [13, 14, 15, 16, 17, 18] rfl rfl rfl hl.1 rfl rfl (Nat.le_of_ble_eq_true rfl) dX6_all_38 ⟨Nat.zero_le _, Nat.zero_le _⟩ (fun locs hS => ?_)
        refine lv_bipush (pc := 41) (v := 8) hx hb dX6_all_41 (by decide) ?_
        refine lv_icmp_ne (pc := 43) (tgt := 48) hx hb dX6_all_43 (by decide) (fun c_6 => ?_) (fun c_6 => ?_)
        · have hq := pv_neg c_6 hq
          refine lv_aload_n (pc := 48) hx hb dX6_all_48 rfl (lv_at hl 0 rfl) ?_
          refine va_get (pc := 49) (D := E.1) (ci := 4) (v := .ref (a 13)) (C := RX6) (T := TX6) (N := 8) hx hb hts i_RX6 hown hK hP 0 rfl rfl 2 (Nat.le_of_ble_eq_true rfl) fl_19 (fun _ h9 => h9) rfl dX6_all_49 ?_
          refine lv_iconst (pc := 52) (v := 1) hx hb dX6_all_52 (by decide) ?_
          refine lv_aload_n (pc := 53) hx hb dX6_all_53 rfl (lv_at hl 0 rfl) ?_
          refine va_get (pc := 54) (D := E.1) (ci := 4) (v := .ref (a 19)) (C := RX6) (T := TX6) (N := 8) hx hb hts i_RX6 hown hK hP 0 rfl rfl 3 (Nat.le_of_ble_eq_true rfl) fl_25 (fun _ h9 => h9) rfl dX6_all_54 ?_
          obtain ⟨u_7, hu_7, hq⟩ := pv_bind hq
          refine pv_vRW (pc := 57) (rest := []) (st1 := []) (ws := pv_wX E a w) (ws' := pv_wX E a (w.1, w.2.1, u_7.1, u_7.2, w.2.2.2.2.1, w.2.2.2.2.2.1, w.2.2.2.2.2.2.1, w.2.2.2.2.2.2.2)) [.int 1, .ref (a 19)] ⟨hx, hb, hml, hown, hts⟩ hE hA hS hP (hD w) (c_X4_passMonths l E (a 13) (a 14) (a 15) (a 16) (a 17) (a 18) (a 19) (a 20) (a 21) (a 22) (a 23) (a 24) 1 (w.2.2.1, w.2.2.2.1) u_7 hu_7) (cwV 2 hts gX6_all_X4_passMonths rfl rfl rfl (by decide +kernel) ⟨(Nat.le_of_ble_eq_true rfl), (Nat.le_of_ble_eq_true rfl)⟩) (va_recv hK hP (ci := 2) (q0 := 13) rfl rfl) [13, 14, 15, 16, 17, 18, 19, 20, 21, 22, 23, 24] rfl rfl rfl rfl rfl hl.1 rfl rfl (Nat.le_of_ble_eq_true rfl) dX6_all_57 ⟨Nat.zero_le _, Nat.zero_le _⟩ (fun H locs hP hS => ?_)
          refine lv_iinc (pc := 60) (v := (x2 + 1)) (lv' := [(2, .int (x2 + 1)), (0, .ref (a 0)), (1, .int x1)]) hx hb dX6_all_60 hl (k := 2) rfl rfl (Nat.le_of_ble_eq_true rfl) rfl (fun ls hl => ?_)
          refine lv_goto (pc := 63) (tgt := 27) hx hb dX6_all_63 (by decide) ?_
          exact ih x1 (x2 + 1) (w.1, w.2.1, u_7.1, u_7.2, w.2.2.2.2.1, w.2.2.2.2.2.1, w.2.2.2.2.2.2.1, w.2.2.2.2.2.2.2) H locs ls hP hS (lv_sub hl [1, 2, 0] rfl) hq
        · have hq := pv_pos c_6 hq
          refine lv_iload_n (pc := 46) hx hb dX6_all_46 rfl (lv_at hl 2 rfl) ?_
          exact pv_riRW (w := fun w : pv_XT => pv_wX E a w) hx hb hr hlk hAe hS hP (Option.some.inj hq) dX6_all_47
  suffices M0 : ∀ (H : Heap) (locs : List Loc), va_P E.1 vwCl (pv_wX E a w0) H → va_S A s.heap H locs → W p l e r_X6_all s m args below meth c H locs 0 0 (MQ below (pv_Rw E (pv_wX E a w0) sz (some (.int F.1)) ((fun w : pv_XT => pv_wX E a w) F.2)) args s 0 0 A) (F0 m 0 ls []) from M0 s.heap [] hP hS
  intro H locs hP hS
  refine lv_iload_n (pc := 0) hx hb dX6_all_0 rfl (lv_at hl 1 rfl) ?_
  refine pv_sRO (pc := 1) (rest := []) (st1 := [.int (m_X6_isState x1)]) (ws := pv_wX E a w0) [.int x1] ⟨hx, hb, hml, hown, hts⟩ hE hA hS hP (hD w0) (c_X6_isState l E x1) (va_cwS 1 hts gX6_all_X6_isState rfl rfl rfl (by decide +kernel) ⟨(Nat.le_of_ble_eq_true rfl), (Nat.le_of_ble_eq_true rfl)⟩) [] rfl rfl rfl hl.1 rfl rfl (Nat.le_of_ble_eq_true rfl) dX6_all_1 ⟨Nat.zero_le _, Nat.zero_le _⟩ (fun locs hS => ?_)
  refine lv_if_ne (pc := 4) (tgt := 14) hx hb dX6_all_4 (by decide) (fun c_1 => ?_) (fun c_1 => ?_)
  · have hq := pv_neg c_1 hq
    refine lv_aload_n (pc := 14) hx hb dX6_all_14 rfl (lv_at hl 0 rfl) ?_
    refine va_get (pc := 15) (D := E.1) (ci := 4) (v := .ref (a 13)) (C := RX6) (T := TX6) (N := 8) hx hb hts i_RX6 hown hK hP 0 rfl rfl 2 (Nat.le_of_ble_eq_true rfl) fl_19 (fun _ h9 => h9) rfl dX6_all_15 ?_
    refine lv_aload_n (pc := 18) hx hb dX6_all_18 rfl (lv_at hl 0 rfl) ?_
    refine va_get (pc := 19) (D := E.1) (ci := 4) (v := .ref (a 1)) (C := RX6) (T := TX6) (N := 8) hx hb hts i_RX6 hown hK hP 0 rfl rfl 0 (Nat.le_of_ble_eq_true rfl) fl_10 (fun _ h9 => h9) rfl dX6_all_19 ?_
    obtain ⟨u_2, hu_2, hq⟩ := pv_bind hq
    refine pv_vRW (pc := 22) (rest := []) (st1 := []) (ws := pv_wX E a w0) (ws' := pv_wX E a (u_2.2, w0.2.1, u_2.1, w0.2.2.2.1, w0.2.2.2.2.1, w0.2.2.2.2.2.1, w0.2.2.2.2.2.2.1, w0.2.2.2.2.2.2.2)) [.ref (a 1)] ⟨hx, hb, hml, hown, hts⟩ hE hA hS hP (hD w0) (c_X4_become l E (a 13) (a 14) (a 15) (a 16) (a 17) (a 18) (a 1) (a 2) (a 3) (a 4) (a 5) (a 6) (w0.2.2.1, w0.1) u_2 hu_2) (cwV 1 hts gX6_all_X4_become rfl rfl rfl (by decide +kernel) ⟨(Nat.le_of_ble_eq_true rfl), (Nat.le_of_ble_eq_true rfl)⟩) (va_recv hK hP (ci := 2) (q0 := 13) rfl rfl) [13, 14, 15, 16, 17, 18, 1, 2, 3, 4, 5, 6] rfl rfl rfl rfl rfl hl.1 rfl rfl (Nat.le_of_ble_eq_true rfl) dX6_all_22 ⟨Nat.zero_le _, Nat.zero_le _⟩ (fun H locs hP hS => ?_)
    refine lv_iconst (pc := 25) (v := 0) hx hb dX6_all_25 (by decide) ?_
    refine lv_istore_n (pc := 26) (lv' := [(2, .int 0), (0, .ref (a 0)), (1, .int x1)]) hx hb dX6_all_26 rfl hl (Nat.le_of_ble_eq_true rfl) rfl (fun ls hl => ?_)
    exact L_27 300 x1 0 (u_2.2, w0.2.1, u_2.1, w0.2.2.2.1, w0.2.2.2.2.1, w0.2.2.2.2.2.1, w0.2.2.2.2.2.2.1, w0.2.2.2.2.2.2.2) H locs ls hP hS (lv_sub hl [1, 2, 0] rfl) hq
  · have hq := pv_pos c_1 hq
    refine lv_aload_n (pc := 7) hx hb dX6_all_7 rfl (lv_at hl 0 rfl) ?_
    refine lv_ldc (pc := 8) hx hb hown lc_51 dX6_all_8 ?_
    obtain ⟨u_8, hu_8, hq⟩ := pv_bind hq
    refine pv_vRWf (pc := 10) (rest := []) (st1 := [.int u_8.1]) (ws := pv_wX E a w0) [.int (-1000000001)] ⟨hx, hb, hml, hown, hts⟩ hE hA hS hP (hD w0) (c_X6_finding l E a (-1000000001) w0 u_8 hu_8) (cwV 1 hts gX6_all_X6_finding rfl rfl rfl (by decide +kernel) ⟨(Nat.le_of_ble_eq_true rfl), (Nat.le_of_ble_eq_true rfl)⟩) (va_recv hK hP (ci := 4) (q0 := 0) rfl rfl) rfl hl.1 rfl rfl (Nat.le_of_ble_eq_true rfl) dX6_all_10 ⟨Nat.zero_le _, Nat.zero_le _⟩ (fun H locs hP hS => ?_)
    have hP : va_P E.1 vwCl (pv_wX E a u_8.2) H := hP
    exact pv_riRW (w := fun w : pv_XT => pv_wX E a w) hx hb hr hlk hAe hS hP (Option.some.inj hq) dX6_all_13
