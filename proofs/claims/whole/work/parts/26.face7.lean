def m_X6_book_44 : Nat → Int32 → Int32 → Int32 → pv_XT → Option (Int32 × pv_XT)
  | 0 => fun _ _ _ _ => none
  | n + 1 => fun x1 x2 x4 w =>
    pv_gd x1 4 (if ((w.2.2.2.2.2.1 x1.toNatClampNeg).2.1) ≤ x4 then (pv_gd x1 4 (some (((w.2.2.2.2.2.1 x1.toNatClampNeg).2.1), w))) else (pv_gd x1 4 (Option.bind (m_X4_ownedSet x2 w.2.2.1) fun u_9 => (Option.bind (m_X3_put x4 u_9.toInt64 (w.2.2.2.2.2.1 x1.toNatClampNeg)) fun u_10 => (Option.bind (m_X4_passMonths 1 (w.2.2.1, w.2.2.2.1)) fun u_11 => ((m_X6_book_44 n) x1 x2 (x4 + 1) (w.1, w.2.1, u_11.1, u_11.2, w.2.2.2.2.1, (va_up w.2.2.2.2.2.1 x1.toNatClampNeg u_10), w.2.2.2.2.2.2.1, w.2.2.2.2.2.2.2)))))))
def m_X6_book (x1 : Int32) (x2 : Int32) (w : pv_XT) : Option (Int32 × pv_XT) :=
  Option.bind (m_X6_unfitSheet x1 w) fun u_1 => (if u_1 = 0 then (if (m_X6_isState x2) = 0 then (Option.bind (m_X6_finding (-1000000001) w) fun u_12 => (some (u_12.1, u_12.2))) else (Option.bind (m_X4_become (w.2.2.1, w.1)) fun u_4 => (m_X6_book_44 300 x1 x2 0 (u_4.2, w.2.1, u_4.1, w.2.2.2.1, w.2.2.2.2.1, w.2.2.2.2.2.1, w.2.2.2.2.2.2.1, w.2.2.2.2.2.2.2)))) else (Option.bind (m_X6_finding u_1 w) fun u_13 => (some (u_13.1, u_13.2))))
abbrev r_X6_book : Room := { frames := 6, cells := 0, slots := 0, locals := 144 }
set_option maxHeartbeats 4000000 in
set_option maxRecDepth 100000 in
theorem c_X6_book (l : Launch) (E : pv_E) (a : Nat → Nat) (x1 : Int32) (x2 : Int32) (w0 : pv_XT) (F : Int32 × pv_XT) (hq : m_X6_book x1 x2 w0 = some F) : pv_RW l E yX6_book wsX6_book r_X6_book (pv_wX E a w0) [.ref (a 0), .int x1, .int x2] (some (.int F.1)) (pv_wX E a F.2) := by
  intro sz
  refine pv_mk (by decide) rfl (Nat.le_of_ble_eq_true rfl) ?_
  intro p e s m args below meth c A hx hb hr hml hown hts hlk hAe hP hD0 hA hE hS ls hl
  have hown : s.vm.findClass RX6 = some m.cls := hown
  have hK := hE.1
  have hD : ∀ w : pv_XT, va_D A (pv_wX E a w) := fun w => pv_Dm (ws := pv_wX E a w0) (ws' := pv_wX E a w) rfl hD0
  have hP : va_P E.1 vwCl (pv_wX E a w0) s.heap := hP
  have fl_19 : (Cond.fieldLink RX6 19 "ProvinceCards" "ahead" "LProvinceCards$Table;").before args s = true := hts _ (by decide +kernel)
  have fl_10 : (Cond.fieldLink RX6 10 "ProvinceCards" "table" "LProvinceCards$Table;").before args s = true := hts _ (by decide +kernel)
  have fl_38 : (Cond.fieldLink RX6 38 "ProvinceCards" "sheets" "[LProvinceCards$Sheet;").before args s = true := hts _ (by decide +kernel)
  have fl_208 : (Cond.fieldLink RX6 208 "ProvinceCards$Sheet" "size" "I").before args s = true := hts _ (by decide +kernel)
  have fl_25 : (Cond.fieldLink RX6 25 "ProvinceCards" "game" "LProvinceCards$Game;").before args s = true := hts _ (by decide +kernel)
  have lc_51 : (Cond.constant RX6 51 (-1000000001)).before args s = true := hts _ (by decide +kernel)
  have i_RX6 : ∀ w ∈ wsX60, w ∈ wsX6_book := by decide +kernel
  have i_RX3 : ∀ w ∈ wsX30, w ∈ wsX6_book := by decide +kernel
  have hl : lv_has ls 5 [(0, .ref (a 0)), (1, .int x1), (2, .int x2)] := hl
  have L_44 : ∀ n : Nat, ∀ (x1 : Int32) (x2 : Int32) (x4 : Int32) (w : pv_XT) (H : Heap) (locs : List Loc) (ls : Array Slot), va_P E.1 vwCl (pv_wX E a w) H → va_S A s.heap H locs → lv_has ls 5 [(0, .ref (a 0)), (1, .int x1), (2, .int x2), (4, .int x4)] → m_X6_book_44 n x1 x2 x4 w = some F → W p l e r_X6_book s m args below meth c H locs 0 0 (MQ below (pv_Rw E (pv_wX E a w0) sz (some (.int F.1)) ((fun w : pv_XT => pv_wX E a w) F.2)) args s 0 0 A) (F0 m 44 ls []) := by
    intro n
    induction n with
    | zero =>
      intro x1 x2 x4 w H locs ls hP hS hl hq
      exact (pv_no hq).elim
    | succ n ih =>
      intro x1 x2 x4 w H locs ls hP hS hl hq
      refine lv_iload (pc := 44) hx hb dX6_book_44 (lv_at hl 3 rfl) ?_
      refine lv_aload_n (pc := 46) hx hb dX6_book_46 rfl (lv_at hl 0 rfl) ?_
      refine va_get (pc := 47) (D := E.1) (ci := 4) (v := .ref (a 27)) (C := RX6) (T := TX6) (N := 8) hx hb hts i_RX6 hown hK hP 0 rfl rfl 5 (Nat.le_of_ble_eq_true rfl) fl_38 (fun _ h9 => h9) rfl dX6_book_47 ?_
      refine lv_iload_n (pc := 50) hx hb dX6_book_50 rfl (lv_at hl 1 rfl) ?_
      obtain ⟨h_5, hq⟩ := pv_gd_some hq
      rcases pv_sh4 h_5 with rfl | rfl | rfl | rfl
      · rw [pv_cl0] at hq
        have hl : lv_has ls 5 [(0, .ref (a 0)), (1, .int 0), (2, .int x2), (4, .int x4)] := hl
        refine va_aldq (pc := 51) (D := E.1) hx hb hK hP 27 2 rfl rfl h_5 dX6_book_51 ?_
        refine W.eq (g2 := F0 m 52 ls [.ref (a 28), .int x4]) rfl ?_
        refine va_get (pc := 52) (D := E.1) (ci := 1) (v := .int ((w.2.2.2.2.2.1 0).2.1)) (C := RX3) (T := TX3) (N := 3) hx hb hts i_RX3 hown hK hP 28 rfl rfl 2 (Nat.le_of_ble_eq_true rfl) fl_208 (fun _ h9 => h9) rfl dX6_book_52 ?_
        refine lv_icmp_ge (pc := 55) (tgt := 96) hx hb dX6_book_55 (by decide) (fun c_6 => ?_) (fun c_6 => ?_)
        · have hq := pv_pos c_6 hq
          refine lv_aload_n (pc := 96) hx hb dX6_book_96 rfl (lv_at hl 0 rfl) ?_
          refine va_get (pc := 97) (D := E.1) (ci := 4) (v := .ref (a 27)) (C := RX6) (T := TX6) (N := 8) hx hb hts i_RX6 hown hK hP 0 rfl rfl 5 (Nat.le_of_ble_eq_true rfl) fl_38 (fun _ h9 => h9) rfl dX6_book_97 ?_
          refine lv_iload_n (pc := 100) hx hb dX6_book_100 rfl (lv_at hl 1 rfl) ?_
          obtain ⟨h_7, hq⟩ := pv_gd_some hq
          refine va_aldq (pc := 101) (D := E.1) hx hb hK hP 27 2 rfl rfl h_7 dX6_book_101 ?_
          refine W.eq (g2 := F0 m 102 ls [.ref (a 28)]) rfl ?_
          refine va_get (pc := 102) (D := E.1) (ci := 1) (v := .int ((w.2.2.2.2.2.1 0).2.1)) (C := RX3) (T := TX3) (N := 3) hx hb hts i_RX3 hown hK hP 28 rfl rfl 2 (Nat.le_of_ble_eq_true rfl) fl_208 (fun _ h9 => h9) rfl dX6_book_102 ?_
          exact pv_riRW (w := fun w : pv_XT => pv_wX E a w) hx hb hr hlk hAe hS hP (Option.some.inj hq) dX6_book_105
        · have hq := pv_neg c_6 hq
          refine lv_aload_n (pc := 58) hx hb dX6_book_58 rfl (lv_at hl 0 rfl) ?_
          refine va_get (pc := 59) (D := E.1) (ci := 4) (v := .ref (a 27)) (C := RX6) (T := TX6) (N := 8) hx hb hts i_RX6 hown hK hP 0 rfl rfl 5 (Nat.le_of_ble_eq_true rfl) fl_38 (fun _ h9 => h9) rfl dX6_book_59 ?_
          refine lv_iload_n (pc := 62) hx hb dX6_book_62 rfl (lv_at hl 1 rfl) ?_
          obtain ⟨h_8, hq⟩ := pv_gd_some hq
          refine va_aldq (pc := 63) (D := E.1) hx hb hK hP 27 2 rfl rfl h_8 dX6_book_63 ?_
          refine W.eq (g2 := F0 m 64 ls [.ref (a 28)]) rfl ?_
          refine lv_iload (pc := 64) hx hb dX6_book_64 (lv_at hl 3 rfl) ?_
          refine lv_aload_n (pc := 66) hx hb dX6_book_66 rfl (lv_at hl 0 rfl) ?_
          refine va_get (pc := 67) (D := E.1) (ci := 4) (v := .ref (a 13)) (C := RX6) (T := TX6) (N := 8) hx hb hts i_RX6 hown hK hP 0 rfl rfl 2 (Nat.le_of_ble_eq_true rfl) fl_19 (fun _ h9 => h9) rfl dX6_book_67 ?_
          refine lv_iload_n (pc := 70) hx hb dX6_book_70 rfl (lv_at hl 2 rfl) ?_
          obtain ⟨u_9, hu_9, hq⟩ := pv_bind hq
          refine pv_vRO (pc := 71) (rest := [.int x4, .ref (a 28)]) (st1 := [.int u_9, .int x4, .ref (a 28)]) (ws := pv_wX E a w) [.int x2] ⟨hx, hb, hml, hown, hts⟩ hE hA hS hP (hD w) (c_X4_ownedSet l E (a 13) (a 14) (a 15) (a 16) (a 17) (a 18) x2 w.2.2.1 u_9 hu_9) (cwV 1 hts gX6_book_X4_ownedSet rfl rfl rfl (by decide +kernel) ⟨(Nat.le_of_ble_eq_true rfl), (Nat.le_of_ble_eq_true rfl)⟩) (va_recv hK hP (ci := 2) (q0 := 13) rfl rfl) [13, 14, 15, 16, 17, 18] rfl rfl rfl hl.1 rfl rfl (Nat.le_of_ble_eq_true rfl) dX6_book_71 ⟨Nat.zero_le _, Nat.zero_le _⟩ (fun locs hS => ?_)
          refine lv_i2l (pc := 74) (v := u_9.toInt64) hx hb dX6_book_74 rfl ?_
          obtain ⟨u_10, hu_10, hq⟩ := pv_bind hq
          refine pv_vRW (pc := 75) (rest := []) (st1 := []) (ws := pv_wX E a w) (ws' := pv_wX E a (w.1, w.2.1, w.2.2.1, w.2.2.2.1, w.2.2.2.2.1, (va_up w.2.2.2.2.2.1 0 u_10), w.2.2.2.2.2.2.1, w.2.2.2.2.2.2.2)) [.int x4, .long u_9.toInt64] ⟨hx, hb, hml, hown, hts⟩ hE hA hS hP (hD w) (c_X3_put l E (a 28) (a 29) x4 u_9.toInt64 (w.2.2.2.2.2.1 0) u_10 hu_10) (cwV 2 hts gX6_book_X3_put rfl rfl rfl (by decide +kernel) ⟨(Nat.le_of_ble_eq_true rfl), (Nat.le_of_ble_eq_true rfl)⟩) (va_recv hK hP (ci := 1) (q0 := 28) rfl rfl) [28, 29] rfl rfl rfl rfl rfl hl.1 rfl rfl (Nat.le_of_ble_eq_true rfl) dX6_book_75 ⟨Nat.zero_le _, Nat.zero_le _⟩ (fun H locs hP hS => ?_)
          refine lv_aload_n (pc := 78) hx hb dX6_book_78 rfl (lv_at hl 0 rfl) ?_
          refine va_get (pc := 79) (D := E.1) (ci := 4) (v := .ref (a 13)) (C := RX6) (T := TX6) (N := 8) hx hb hts i_RX6 hown hK hP 0 rfl rfl 2 (Nat.le_of_ble_eq_true rfl) fl_19 (fun _ h9 => h9) rfl dX6_book_79 ?_
          refine lv_iconst (pc := 82) (v := 1) hx hb dX6_book_82 (by decide) ?_
          refine lv_aload_n (pc := 83) hx hb dX6_book_83 rfl (lv_at hl 0 rfl) ?_
          refine va_get (pc := 84) (D := E.1) (ci := 4) (v := .ref (a 19)) (C := RX6) (T := TX6) (N := 8) hx hb hts i_RX6 hown hK hP 0 rfl rfl 3 (Nat.le_of_ble_eq_true rfl) fl_25 (fun _ h9 => h9) rfl dX6_book_84 ?_
          obtain ⟨u_11, hu_11, hq⟩ := pv_bind hq
          refine pv_vRW (pc := 87) (rest := []) (st1 := []) (ws := pv_wX E a (w.1, w.2.1, w.2.2.1, w.2.2.2.1, w.2.2.2.2.1, (va_up w.2.2.2.2.2.1 0 u_10), w.2.2.2.2.2.2.1, w.2.2.2.2.2.2.2)) (ws' := pv_wX E a (w.1, w.2.1, u_11.1, u_11.2, w.2.2.2.2.1, (va_up w.2.2.2.2.2.1 0 u_10), w.2.2.2.2.2.2.1, w.2.2.2.2.2.2.2)) [.int 1, .ref (a 19)] ⟨hx, hb, hml, hown, hts⟩ hE hA hS hP (hD (w.1, w.2.1, w.2.2.1, w.2.2.2.1, w.2.2.2.2.1, (va_up w.2.2.2.2.2.1 0 u_10), w.2.2.2.2.2.2.1, w.2.2.2.2.2.2.2)) (c_X4_passMonths l E (a 13) (a 14) (a 15) (a 16) (a 17) (a 18) (a 19) (a 20) (a 21) (a 22) (a 23) (a 24) 1 (w.2.2.1, w.2.2.2.1) u_11 hu_11) (cwV 2 hts gX6_book_X4_passMonths rfl rfl rfl (by decide +kernel) ⟨(Nat.le_of_ble_eq_true rfl), (Nat.le_of_ble_eq_true rfl)⟩) (va_recv hK hP (ci := 2) (q0 := 13) rfl rfl) [13, 14, 15, 16, 17, 18, 19, 20, 21, 22, 23, 24] rfl rfl rfl rfl rfl hl.1 rfl rfl (Nat.le_of_ble_eq_true rfl) dX6_book_87 ⟨Nat.zero_le _, Nat.zero_le _⟩ (fun H locs hP hS => ?_)
          refine lv_iinc (pc := 90) (v := (x4 + 1)) (lv' := [(4, .int (x4 + 1)), (0, .ref (a 0)), (1, .int 0), (2, .int x2)]) hx hb dX6_book_90 hl (k := 3) rfl rfl (Nat.le_of_ble_eq_true rfl) rfl (fun ls hl => ?_)
          refine lv_goto (pc := 93) (tgt := 44) hx hb dX6_book_93 (by decide) ?_
          exact ih 0 x2 (x4 + 1) (w.1, w.2.1, u_11.1, u_11.2, w.2.2.2.2.1, (va_up w.2.2.2.2.2.1 0 u_10), w.2.2.2.2.2.2.1, w.2.2.2.2.2.2.2) H locs ls hP hS (lv_sub hl [1, 2, 3, 0] rfl) hq
      · rw [pv_cl1] at hq
        have hl : lv_has ls 5 [(0, .ref (a 0)), (1, .int 1), (2, .int x2), (4, .int x4)] := hl
        refine va_aldq (pc := 51) (D := E.1) hx hb hK hP 27 2 rfl rfl h_5 dX6_book_51 ?_
        refine W.eq (g2 := F0 m 52 ls [.ref (a 30), .int x4]) rfl ?_
        refine va_get (pc := 52) (D := E.1) (ci := 1) (v := .int ((w.2.2.2.2.2.1 1).2.1)) (C := RX3) (T := TX3) (N := 3) hx hb hts i_RX3 hown hK hP 30 rfl rfl 2 (Nat.le_of_ble_eq_true rfl) fl_208 (fun _ h9 => h9) rfl dX6_book_52 ?_
        refine lv_icmp_ge (pc := 55) (tgt := 96) hx hb dX6_book_55 (by decide) (fun c_12 => ?_) (fun c_12 => ?_)
        · have hq := pv_pos c_12 hq
          refine lv_aload_n (pc := 96) hx hb dX6_book_96 rfl (lv_at hl 0 rfl) ?_
          refine va_get (pc := 97) (D := E.1) (ci := 4) (v := .ref (a 27)) (C := RX6) (T := TX6) (N := 8) hx hb hts i_RX6 hown hK hP 0 rfl rfl 5 (Nat.le_of_ble_eq_true rfl) fl_38 (fun _ h9 => h9) rfl dX6_book_97 ?_
          refine lv_iload_n (pc := 100) hx hb dX6_book_100 rfl (lv_at hl 1 rfl) ?_
          obtain ⟨h_13, hq⟩ := pv_gd_some hq
          refine va_aldq (pc := 101) (D := E.1) hx hb hK hP 27 2 rfl rfl h_13 dX6_book_101 ?_
          refine W.eq (g2 := F0 m 102 ls [.ref (a 30)]) rfl ?_
          refine va_get (pc := 102) (D := E.1) (ci := 1) (v := .int ((w.2.2.2.2.2.1 1).2.1)) (C := RX3) (T := TX3) (N := 3) hx hb hts i_RX3 hown hK hP 30 rfl rfl 2 (Nat.le_of_ble_eq_true rfl) fl_208 (fun _ h9 => h9) rfl dX6_book_102 ?_
          exact pv_riRW (w := fun w : pv_XT => pv_wX E a w) hx hb hr hlk hAe hS hP (Option.some.inj hq) dX6_book_105
        · have hq := pv_neg c_12 hq
          refine lv_aload_n (pc := 58) hx hb dX6_book_58 rfl (lv_at hl 0 rfl) ?_
          refine va_get (pc := 59) (D := E.1) (ci := 4) (v := .ref (a 27)) (C := RX6) (T := TX6) (N := 8) hx hb hts i_RX6 hown hK hP 0 rfl rfl 5 (Nat.le_of_ble_eq_true rfl) fl_38 (fun _ h9 => h9) rfl dX6_book_59 ?_
          refine lv_iload_n (pc := 62) hx hb dX6_book_62 rfl (lv_at hl 1 rfl) ?_
          obtain ⟨h_14, hq⟩ := pv_gd_some hq
          refine va_aldq (pc := 63) (D := E.1) hx hb hK hP 27 2 rfl rfl h_14 dX6_book_63 ?_
          refine W.eq (g2 := F0 m 64 ls [.ref (a 30)]) rfl ?_
          refine lv_iload (pc := 64) hx hb dX6_book_64 (lv_at hl 3 rfl) ?_
          refine lv_aload_n (pc := 66) hx hb dX6_book_66 rfl (lv_at hl 0 rfl) ?_
          refine va_get (pc := 67) (D := E.1) (ci := 4) (v := .ref (a 13)) (C := RX6) (T := TX6) (N := 8) hx hb hts i_RX6 hown hK hP 0 rfl rfl 2 (Nat.le_of_ble_eq_true rfl) fl_19 (fun _ h9 => h9) rfl dX6_book_67 ?_
          refine lv_iload_n (pc := 70) hx hb dX6_book_70 rfl (lv_at hl 2 rfl) ?_
          obtain ⟨u_15, hu_15, hq⟩ := pv_bind hq
          refine pv_vRO (pc := 71) (rest := [.int x4, .ref (a 30)]) (st1 := [.int u_15, .int x4, .ref (a 30)]) (ws := pv_wX E a w) [.int x2] ⟨hx, hb, hml, hown, hts⟩ hE hA hS hP (hD w) (c_X4_ownedSet l E (a 13) (a 14) (a 15) (a 16) (a 17) (a 18) x2 w.2.2.1 u_15 hu_15) (cwV 1 hts gX6_book_X4_ownedSet rfl rfl rfl (by decide +kernel) ⟨(Nat.le_of_ble_eq_true rfl), (Nat.le_of_ble_eq_true rfl)⟩) (va_recv hK hP (ci := 2) (q0 := 13) rfl rfl) [13, 14, 15, 16, 17, 18] rfl rfl rfl hl.1 rfl rfl (Nat.le_of_ble_eq_true rfl) dX6_book_71 ⟨Nat.zero_le _, Nat.zero_le _⟩ (fun locs hS => ?_)
          refine lv_i2l (pc := 74) (v := u_15.toInt64) hx hb dX6_book_74 rfl ?_
          obtain ⟨u_16, hu_16, hq⟩ := pv_bind hq
          refine pv_vRW (pc := 75) (rest := []) (st1 := []) (ws := pv_wX E a w) (ws' := pv_wX E a (w.1, w.2.1, w.2.2.1, w.2.2.2.1, w.2.2.2.2.1, (va_up w.2.2.2.2.2.1 1 u_16), w.2.2.2.2.2.2.1, w.2.2.2.2.2.2.2)) [.int x4, .long u_15.toInt64] ⟨hx, hb, hml, hown, hts⟩ hE hA hS hP (hD w) (c_X3_put l E (a 30) (a 31) x4 u_15.toInt64 (w.2.2.2.2.2.1 1) u_16 hu_16) (cwV 2 hts gX6_book_X3_put rfl rfl rfl (by decide +kernel) ⟨(Nat.le_of_ble_eq_true rfl), (Nat.le_of_ble_eq_true rfl)⟩) (va_recv hK hP (ci := 1) (q0 := 30) rfl rfl) [30, 31] rfl rfl rfl rfl rfl hl.1 rfl rfl (Nat.le_of_ble_eq_true rfl) dX6_book_75 ⟨Nat.zero_le _, Nat.zero_le _⟩ (fun H locs hP hS => ?_)
          refine lv_aload_n (pc := 78) hx hb dX6_book_78 rfl (lv_at hl 0 rfl) ?_
          refine va_get (pc := 79) (D := E.1) (ci := 4) (v := .ref (a 13)) (C := RX6) (T := TX6) (N := 8) hx hb hts i_RX6 hown hK hP 0 rfl rfl 2 (Nat.le_of_ble_eq_true rfl) fl_19 (fun _ h9 => h9) rfl dX6_book_79 ?_
          refine lv_iconst (pc := 82) (v := 1) hx hb dX6_book_82 (by decide) ?_
          refine lv_aload_n (pc := 83) hx hb dX6_book_83 rfl (lv_at hl 0 rfl) ?_
          refine va_get (pc := 84) (D := E.1) (ci := 4) (v := .ref (a 19)) (C := RX6) (T := TX6) (N := 8) hx hb hts i_RX6 hown hK hP 0 rfl rfl 3 (Nat.le_of_ble_eq_true rfl) fl_25 (fun _ h9 => h9) rfl dX6_book_84 ?_
          obtain ⟨u_17, hu_17, hq⟩ := pv_bind hq
          refine pv_vRW (pc := 87) (rest := []) (st1 := []) (ws := pv_wX E a (w.1, w.2.1, w.2.2.1, w.2.2.2.1, w.2.2.2.2.1, (va_up w.2.2.2.2.2.1 1 u_16), w.2.2.2.2.2.2.1, w.2.2.2.2.2.2.2)) (ws' := pv_wX E a (w.1, w.2.1, u_17.1, u_17.2, w.2.2.2.2.1, (va_up w.2.2.2.2.2.1 1 u_16), w.2.2.2.2.2.2.1, w.2.2.2.2.2.2.2)) [.int 1, .ref (a 19)] ⟨hx, hb, hml, hown, hts⟩ hE hA hS hP (hD (w.1, w.2.1, w.2.2.1, w.2.2.2.1, w.2.2.2.2.1, (va_up w.2.2.2.2.2.1 1 u_16), w.2.2.2.2.2.2.1, w.2.2.2.2.2.2.2)) (c_X4_passMonths l E (a 13) (a 14) (a 15) (a 16) (a 17) (a 18) (a 19) (a 20) (a 21) (a 22) (a 23) (a 24) 1 (w.2.2.1, w.2.2.2.1) u_17 hu_17) (cwV 2 hts gX6_book_X4_passMonths rfl rfl rfl (by decide +kernel) ⟨(Nat.le_of_ble_eq_true rfl), (Nat.le_of_ble_eq_true rfl)⟩) (va_recv hK hP (ci := 2) (q0 := 13) rfl rfl) [13, 14, 15, 16, 17, 18, 19, 20, 21, 22, 23, 24] rfl rfl rfl rfl rfl hl.1 rfl rfl (Nat.le_of_ble_eq_true rfl) dX6_book_87 ⟨Nat.zero_le _, Nat.zero_le _⟩ (fun H locs hP hS => ?_)
          refine lv_iinc (pc := 90) (v := (x4 + 1)) (lv' := [(4, .int (x4 + 1)), (0, .ref (a 0)), (1, .int 1), (2, .int x2)]) hx hb dX6_book_90 hl (k := 3) rfl rfl (Nat.le_of_ble_eq_true rfl) rfl (fun ls hl => ?_)
          refine lv_goto (pc := 93) (tgt := 44) hx hb dX6_book_93 (by decide) ?_
          exact ih 1 x2 (x4 + 1) (w.1, w.2.1, u_17.1, u_17.2, w.2.2.2.2.1, (va_up w.2.2.2.2.2.1 1 u_16), w.2.2.2.2.2.2.1, w.2.2.2.2.2.2.2) H locs ls hP hS (lv_sub hl [1, 2, 3, 0] rfl) hq
      · rw [pv_cl2] at hq
        have hl : lv_has ls 5 [(0, .ref (a 0)), (1, .int 2), (2, .int x2), (4, .int x4)] := hl
        refine va_aldq (pc := 51) (D := E.1) hx hb hK hP 27 2 rfl rfl h_5 dX6_book_51 ?_
        refine W.eq (g2 := F0 m 52 ls [.ref (a 32), .int x4]) rfl ?_
        refine va_get (pc := 52) (D := E.1) (ci := 1) (v := .int ((w.2.2.2.2.2.1 2).2.1)) (C := RX3) (T := TX3) (N := 3) hx hb hts i_RX3 hown hK hP 32 rfl rfl 2 (Nat.le_of_ble_eq_true rfl) fl_208 (fun _ h9 => h9) rfl dX6_book_52 ?_
        refine lv_icmp_ge (pc := 55) (tgt := 96) hx hb dX6_book_55 (by decide) (fun c_18 => ?_) (fun c_18 => ?_)
        · have hq := pv_pos c_18 hq
          refine lv_aload_n (pc := 96) hx hb dX6_book_96 rfl (lv_at hl 0 rfl) ?_
          refine va_get (pc := 97) (D := E.1) (ci := 4) (v := .ref (a 27)) (C := RX6) (T := TX6) (N := 8) hx hb hts i_RX6 hown hK hP 0 rfl rfl 5 (Nat.le_of_ble_eq_true rfl) fl_38 (fun _ h9 => h9) rfl dX6_book_97 ?_
          refine lv_iload_n (pc := 100) hx hb dX6_book_100 rfl (lv_at hl 1 rfl) ?_
          obtain ⟨h_19, hq⟩ := pv_gd_some hq
          refine va_aldq (pc := 101) (D := E.1) hx hb hK hP 27 2 rfl rfl h_19 dX6_book_101 ?_
          refine W.eq (g2 := F0 m 102 ls [.ref (a 32)]) rfl ?_
          refine va_get (pc := 102) (D := E.1) (ci := 1) (v := .int ((w.2.2.2.2.2.1 2).2.1)) (C := RX3) (T := TX3) (N := 3) hx hb hts i_RX3 hown hK hP 32 rfl rfl 2 (Nat.le_of_ble_eq_true rfl) fl_208 (fun _ h9 => h9) rfl dX6_book_102 ?_
          exact pv_riRW (w := fun w : pv_XT => pv_wX E a w) hx hb hr hlk hAe hS hP (Option.some.inj hq) dX6_book_105
        · have hq := pv_neg c_18 hq
          refine lv_aload_n (pc := 58) hx hb dX6_book_58 rfl (lv_at hl 0 rfl) ?_
          refine va_get (pc := 59) (D := E.1) (ci := 4) (v := .ref (a 27)) (C := RX6) (T := TX6) (N := 8) hx hb hts i_RX6 hown hK hP 0 rfl rfl 5 (Nat.le_of_ble_eq_true rfl) fl_38 (fun _ h9 => h9) rfl dX6_book_59 ?_
          refine lv_iload_n (pc := 62) hx hb dX6_book_62 rfl (lv_at hl 1 rfl) ?_
          obtain ⟨h_20, hq⟩ := pv_gd_some hq
          refine va_aldq (pc := 63) (D := E.1) hx hb hK hP 27 2 rfl rfl h_20 dX6_book_63 ?_
          refine W.eq (g2 := F0 m 64 ls [.ref (a 32)]) rfl ?_
          refine lv_iload (pc := 64) hx hb dX6_book_64 (lv_at hl 3 rfl) ?_
          refine lv_aload_n (pc := 66) hx hb dX6_book_66 rfl (lv_at hl 0 rfl) ?_
          refine va_get (pc := 67) (D := E.1) (ci := 4) (v := .ref (a 13)) (C := RX6) (T := TX6) (N := 8) hx hb hts i_RX6 hown hK hP 0 rfl rfl 2 (Nat.le_of_ble_eq_true rfl) fl_19 (fun _ h9 => h9) rfl dX6_book_67 ?_
          refine lv_iload_n (pc := 70) hx hb dX6_book_70 rfl (lv_at hl 2 rfl) ?_
          obtain ⟨u_21, hu_21, hq⟩ := pv_bind hq
          refine pv_vRO (pc := 71) (rest := [.int x4, .ref (a 32)]) (st1 := [.int u_21, .int x4, .ref (a 32)]) (ws := pv_wX E a w) [.int x2] ⟨hx, hb, hml, hown, hts⟩ hE hA hS hP (hD w) (c_X4_ownedSet l E (a 13) (a 14) (a 15) (a 16) (a 17) (a 18) x2 w.2.2.1 u_21 hu_21) (cwV 1 hts gX6_book_X4_ownedSet rfl rfl rfl (by decide +kernel) ⟨(Nat.le_of_ble_eq_true rfl), (Nat.le_of_ble_eq_true rfl)⟩) (va_recv hK hP (ci := 2) (q0 := 13) rfl rfl) [13, 14, 15, 16, 17, 18] rfl rfl rfl hl.1 rfl rfl (Nat.le_of_ble_eq_true rfl) dX6_book_71 ⟨Nat.zero_le _, Nat.zero_le _⟩ (fun locs hS => ?_)
          refine lv_i2l (pc := 74) (v := u_21.toInt64) hx hb dX6_book_74 rfl ?_
          obtain ⟨u_22, hu_22, hq⟩ := pv_bind hq
          refine pv_vRW (pc := 75) (rest := []) (st1 := []) (ws := pv_wX E a w) (ws' := pv_wX E a (w.1, w.2.1, w.2.2.1, w.2.2.2.1, w.2.2.2.2.1, (va_up w.2.2.2.2.2.1 2 u_22), w.2.2.2.2.2.2.1, w.2.2.2.2.2.2.2)) [.int x4, .long u_21.toInt64] ⟨hx, hb, hml, hown, hts⟩ hE hA hS hP (hD w) (c_X3_put l E (a 32) (a 33) x4 u_21.toInt64 (w.2.2.2.2.2.1 2) u_22 hu_22) (cwV 2 hts gX6_book_X3_put rfl rfl rfl (by decide +kernel) ⟨(Nat.le_of_ble_eq_true rfl), (Nat.le_of_ble_eq_true rfl)⟩) (va_recv hK hP (ci := 1) (q0 := 32) rfl rfl) [32, 33] rfl rfl rfl rfl rfl hl.1 rfl rfl (Nat.le_of_ble_eq_true rfl) dX6_book_75 ⟨Nat.zero_le _, Nat.zero_le _⟩ (fun H locs hP hS => ?_)
          refine lv_aload_n (pc := 78) hx hb dX6_book_78 rfl (lv_at hl 0 rfl) ?_
          refine va_get (pc := 79) (D := E.1) (ci := 4) (v := .ref (a 13)) (C := RX6) (T := TX6) (N := 8) hx hb hts i_RX6 hown hK hP 0 rfl rfl 2 (Nat.le_of_ble_eq_true rfl) fl_19 (fun _ h9 => h9) rfl dX6_book_79 ?_
          refine lv_iconst (pc := 82) (v := 1) hx hb dX6_book_82 (by decide) ?_
          refine lv_aload_n (pc := 83) hx hb dX6_book_83 rfl (lv_at hl 0 rfl) ?_
          refine va_get (pc := 84) (D := E.1) (ci := 4) (v := .ref (a 19)) (C := RX6) (T := TX6) (N := 8) hx hb hts i_RX6 hown hK hP 0 rfl rfl 3 (Nat.le_of_ble_eq_true rfl) fl_25 (fun _ h9 => h9) rfl dX6_book_84 ?_
          obtain ⟨u_23, hu_23, hq⟩ := pv_bind hq
          refine pv_vRW (pc := 87) (rest := []) (st1 := []) (ws := pv_wX E a (w.1, w.2.1, w.2.2.1, w.2.2.2.1, w.2.2.2.2.1, (va_up w.2.2.2.2.2.1 2 u_22), w.2.2.2.2.2.2.1, w.2.2.2.2.2.2.2)) (ws' := pv_wX E a (w.1, w.2.1, u_23.1, u_23.2, w.2.2.2.2.1, (va_up w.2.2.2.2.2.1 2 u_22), w.2.2.2.2.2.2.1, w.2.2.2.2.2.2.2)) [.int 1, .ref (a 19)] ⟨hx, hb, hml, hown, hts⟩ hE hA hS hP (hD (w.1, w.2.1, w.2.2.1, w.2.2.2.1, w.2.2.2.2.1, (va_up w.2.2.2.2.2.1 2 u_22), w.2.2.2.2.2.2.1, w.2.2.2.2.2.2.2)) (c_X4_passMonths l E (a 13) (a 14) (a 15) (a 16) (a 17) (a 18) (a 19) (a 20) (a 21) (a 22) (a 23) (a 24) 1 (w.2.2.1, w.2.2.2.1) u_23 hu_23) (cwV 2 hts gX6_book_X4_passMonths rfl rfl rfl (by decide +kernel) ⟨(Nat.le_of_ble_eq_true rfl), (Nat.le_of_ble_eq_true rfl)⟩) (va_recv hK hP (ci := 2) (q0 := 13) rfl rfl) [13, 14, 15, 16, 17, 18, 19, 20, 21, 22, 23, 24] rfl rfl rfl rfl rfl hl.1 rfl rfl (Nat.le_of_ble_eq_true rfl) dX6_book_87 ⟨Nat.zero_le _, Nat.zero_le _⟩ (fun H locs hP hS => ?_)
          refine lv_iinc (pc := 90) (v := (x4 + 1)) (lv' := [(4, .int (x4 + 1)), (0, .ref (a 0)), (1, .int 2), (2, .int x2)]) hx hb dX6_book_90 hl (k := 3) rfl rfl (Nat.le_of_ble_eq_true rfl) rfl (fun ls hl => ?_)
          refine lv_goto (pc := 93) (tgt := 44) hx hb dX6_book_93 (by decide) ?_
          exact ih 2 x2 (x4 + 1) (w.1, w.2.1, u_23.1, u_23.2, w.2.2.2.2.1, (va_up w.2.2.2.2.2.1 2 u_22), w.2.2.2.2.2.2.1, w.2.2.2.2.2.2.2) H locs ls hP hS (lv_sub hl [1, 2, 3, 0] rfl) hq
      · rw [pv_cl3] at hq
        have hl : lv_has ls 5 [(0, .ref (a 0)), (1, .int 3), (2, .int x2), (4, .int x4)] := hl
        refine va_aldq (pc := 51) (D := E.1) hx hb hK hP 27 2 rfl rfl h_5 dX6_book_51 ?_
        refine W.eq (g2 := F0 m 52 ls [.ref (a 34), .int x4]) rfl ?_
        refine va_get (pc := 52) (D := E.1) (ci := 1) (v := .int ((w.2.2.2.2.2.1 3).2.1)) (C := RX3) (T := TX3) (N := 3) hx hb hts i_RX3 hown hK hP 34 rfl rfl 2 (Nat.le_of_ble_eq_true rfl) fl_208 (fun _ h9 => h9) rfl dX6_book_52 ?_
        refine lv_icmp_ge (pc := 55) (tgt := 96) hx hb dX6_book_55 (by decide) (fun c_24 => ?_) (fun c_24 => ?_)
        · have hq := pv_pos c_24 hq
          refine lv_aload_n (pc := 96) hx hb dX6_book_96 rfl (lv_at hl 0 rfl) ?_
          refine va_get (pc := 97) (D := E.1) (ci := 4) (v := .ref (a 27)) (C := RX6) (T := TX6) (N := 8) hx hb hts i_RX6 hown hK hP 0 rfl rfl 5 (Nat.le_of_ble_eq_true rfl) fl_38 (fun _ h9 => h9) rfl dX6_book_97 ?_
          refine lv_iload_n (pc := 100) hx hb dX6_book_100 rfl (lv_at hl 1 rfl) ?_
          obtain ⟨h_25, hq⟩ := pv_gd_some hq
          refine va_aldq (pc := 101) (D := E.1) hx hb hK hP 27 2 rfl rfl h_25 dX6_book_101 ?_
          refine W.eq (g2 := F0 m 102 ls [.ref (a 34)]) rfl ?_
          refine va_get (pc := 102) (D := E.1) (ci := 1) (v := .int ((w.2.2.2.2.2.1 3).2.1)) (C := RX3) (T := TX3) (N := 3) hx hb hts i_RX3 hown hK hP 34 rfl rfl 2 (Nat.le_of_ble_eq_true rfl) fl_208 (fun _ h9 => h9) rfl dX6_book_102 ?_
          exact pv_riRW (w := fun w : pv_XT => pv_wX E a w) hx hb hr hlk hAe hS hP (Option.some.inj hq) dX6_book_105
        · have hq := pv_neg c_24 hq
          refine lv_aload_n (pc := 58) hx hb dX6_book_58 rfl (lv_at hl 0 rfl) ?_
          refine va_get (pc := 59) (D := E.1) (ci := 4) (v := .ref (a 27)) (C := RX6) (T := TX6) (N := 8) hx hb hts i_RX6 hown hK hP 0 rfl rfl 5 (Nat.le_of_ble_eq_true rfl) fl_38 (fun _ h9 => h9) rfl dX6_book_59 ?_
          refine lv_iload_n (pc := 62) hx hb dX6_book_62 rfl (lv_at hl 1 rfl) ?_
          obtain ⟨h_26, hq⟩ := pv_gd_some hq
          refine va_aldq (pc := 63) (D := E.1) hx hb hK hP 27 2 rfl rfl h_26 dX6_book_63 ?_
          refine W.eq (g2 := F0 m 64 ls [.ref (a 34)]) rfl ?_
          refine lv_iload (pc := 64) hx hb dX6_book_64 (lv_at hl 3 rfl) ?_
          refine lv_aload_n (pc := 66) hx hb dX6_book_66 rfl (lv_at hl 0 rfl) ?_
          refine va_get (pc := 67) (D := E.1) (ci := 4) (v := .ref (a 13)) (C := RX6) (T := TX6) (N := 8) hx hb hts i_RX6 hown hK hP 0 rfl rfl 2 (Nat.le_of_ble_eq_true rfl) fl_19 (fun _ h9 => h9) rfl dX6_book_67 ?_
          refine lv_iload_n (pc := 70) hx hb dX6_book_70 rfl (lv_at hl 2 rfl) ?_
          obtain ⟨u_27, hu_27, hq⟩ := pv_bind hq
          refine pv_vRO (pc := 71) (rest := [.int x4, .ref (a 34)]) (st1 := [.int u_27, .int x4, .ref (a 34)]) (ws := pv_wX E a w) [.int x2] ⟨hx, hb, hml, hown, hts⟩ hE hA hS hP (hD w) (c_X4_ownedSet l E (a 13) (a 14) (a 15) (a 16) (a 17) (a 18) x2 w.2.2.1 u_27 hu_27) (cwV 1 hts gX6_book_X4_ownedSet rfl rfl rfl (by decide +kernel) ⟨(Nat.le_of_ble_eq_true rfl), (Nat.le_of_ble_eq_true rfl)⟩) (va_recv hK hP (ci := 2) (q0 := 13) rfl rfl) [13, 14, 15, 16, 17, 18] rfl rfl rfl hl.1 rfl rfl (Nat.le_of_ble_eq_true rfl) dX6_book_71 ⟨Nat.zero_le _, Nat.zero_le _⟩ (fun locs hS => ?_)
          refine lv_i2l (pc := 74) (v := u_27.toInt64) hx hb dX6_book_74 rfl ?_
          obtain ⟨u_28, hu_28, hq⟩ := pv_bind hq
          refine pv_vRW (pc := 75) (rest := []) (st1 := []) (ws := pv_wX E a w) (ws' := pv_wX E a (w.1, w.2.1, w.2.2.1, w.2.2.2.1, w.2.2.2.2.1, (va_up w.2.2.2.2.2.1 3 u_28), w.2.2.2.2.2.2.1, w.2.2.2.2.2.2.2)) [.int x4, .long u_27.toInt64] ⟨hx, hb, hml, hown, hts⟩ hE hA hS hP (hD w) (c_X3_put l E (a 34) (a 35) x4 u_27.toInt64 (w.2.2.2.2.2.1 3) u_28 hu_28) (cwV 2 hts gX6_book_X3_put rfl rfl rfl (by decide +kernel) ⟨(Nat.le_of_ble_eq_true rfl), (Nat.le_of_ble_eq_true rfl)⟩) (va_recv hK hP (ci := 1) (q0 := 34) rfl rfl) [34, 35] rfl rfl rfl rfl rfl hl.1 rfl rfl (Nat.le_of_ble_eq_true rfl) dX6_book_75 ⟨Nat.zero_le _, Nat.zero_le _⟩ (fun H locs hP hS => ?_)
          refine lv_aload_n (pc := 78) hx hb dX6_book_78 rfl (lv_at hl 0 rfl) ?_
          refine va_get (pc := 79) (D := E.1) (ci := 4) (v := .ref (a 13)) (C := RX6) (T := TX6) (N := 8) hx hb hts i_RX6 hown hK hP 0 rfl rfl 2 (Nat.le_of_ble_eq_true rfl) fl_19 (fun _ h9 => h9) rfl dX6_book_79 ?_
          refine lv_iconst (pc := 82) (v := 1) hx hb dX6_book_82 (by decide) ?_
          refine lv_aload_n (pc := 83) hx hb dX6_book_83 rfl (lv_at hl 0 rfl) ?_
          refine va_get (pc := 84) (D := E.1) (ci := 4) (v := .ref (a 19)) (C := RX6) (T := TX6) (N := 8) hx hb hts i_RX6 hown hK hP 0 rfl rfl 3 (Nat.le_of_ble_eq_true rfl) fl_25 (fun _ h9 => h9) rfl dX6_book_84 ?_
          obtain ⟨u_29, hu_29, hq⟩ := pv_bind hq
          refine pv_vRW (pc := 87) (rest := []) (st1 := []) (ws := pv_wX E a (w.1, w.2.1, w.2.2.1, w.2.2.2.1, w.2.2.2.2.1, (va_up w.2.2.2.2.2.1 3 u_28), w.2.2.2.2.2.2.1, w.2.2.2.2.2.2.2)) (ws' := pv_wX E a (w.1, w.2.1, u_29.1, u_29.2, w.2.2.2.2.1, (va_up w.2.2.2.2.2.1 3 u_28), w.2.2.2.2.2.2.1, w.2.2.2.2.2.2.2)) [.int 1, .ref (a 19)] ⟨hx, hb, hml, hown, hts⟩ hE hA hS hP (hD (w.1, w.2.1, w.2.2.1, w.2.2.2.1, w.2.2.2.2.1, (va_up w.2.2.2.2.2.1 3 u_28), w.2.2.2.2.2.2.1, w.2.2.2.2.2.2.2)) (c_X4_passMonths l E (a 13) (a 14) (a 15) (a 16) (a 17) (a 18) (a 19) (a 20) (a 21) (a 22) (a 23) (a 24) 1 (w.2.2.1, w.2.2.2.1) u_29 hu_29) (cwV 2 hts gX6_book_X4_passMonths rfl rfl rfl (by decide +kernel) ⟨(Nat.le_of_ble_eq_true rfl), (Nat.le_of_ble_eq_true rfl)⟩) (va_recv hK hP (ci := 2) (q0 := 13) rfl rfl) [13, 14, 15, 16, 17, 18, 19, 20, 21, 22, 23, 24] rfl rfl rfl rfl rfl hl.1 rfl rfl (Nat.le_of_ble_eq_true rfl) dX6_book_87 ⟨Nat.zero_le _, Nat.zero_le _⟩ (fun H locs hP hS => ?_)
          refine lv_iinc (pc := 90) (v := (x4 + 1)) (lv' := [(4, .int (x4 + 1)), (0, .ref (a 0)), (1, .int 3), (2, .int x2)]) hx hb dX6_book_90 hl (k := 3) rfl rfl (Nat.le_of_ble_eq_true rfl) rfl (fun ls hl => ?_)
          refine lv_goto (pc := 93) (tgt := 44) hx hb dX6_book_93 (by decide) ?_
          exact ih 3 x2 (x4 + 1) (w.1, w.2.1, u_29.1, u_29.2, w.2.2.2.2.1, (va_up w.2.2.2.2.2.1 3 u_28), w.2.2.2.2.2.2.1, w.2.2.2.2.2.2.2) H locs ls hP hS (lv_sub hl [1, 2, 3, 0] rfl) hq
  suffices M0 : ∀ (H : Heap) (locs : List Loc), va_P E.1 vwCl (pv_wX E a w0) H → va_S A s.heap H locs → W p l e r_X6_book s m args below meth c H locs 0 0 (MQ below (pv_Rw E (pv_wX E a w0) sz (some (.int F.1)) ((fun w : pv_XT => pv_wX E a w) F.2)) args s 0 0 A) (F0 m 0 ls []) from M0 s.heap [] hP hS
  intro H locs hP hS
  refine lv_aload_n (pc := 0) hx hb dX6_book_0 rfl (lv_at hl 0 rfl) ?_
  refine lv_iload_n (pc := 1) hx hb dX6_book_1 rfl (lv_at hl 1 rfl) ?_
  obtain ⟨u_1, hu_1, hq⟩ := pv_bind hq
  refine pv_vROf (pc := 2) (rest := []) (st1 := [.int u_1]) (ws := pv_wX E a w0) [.int x1] ⟨hx, hb, hml, hown, hts⟩ hE hA hS hP (hD w0) (c_X6_unfitSheet l E a x1 w0 u_1 hu_1) (cwV 1 hts gX6_book_X6_unfitSheet rfl rfl rfl (by decide +kernel) ⟨(Nat.le_of_ble_eq_true rfl), (Nat.le_of_ble_eq_true rfl)⟩) (va_recv hK hP (ci := 4) (q0 := 0) rfl rfl) rfl hl.1 rfl rfl (Nat.le_of_ble_eq_true rfl) dX6_book_2 ⟨Nat.zero_le _, Nat.zero_le _⟩ (fun locs hS => ?_)
  refine lv_istore_n (pc := 5) (lv' := [(3, .int u_1), (0, .ref (a 0)), (1, .int x1), (2, .int x2)]) hx hb dX6_book_5 rfl hl (Nat.le_of_ble_eq_true rfl) rfl (fun ls hl => ?_)
  refine lv_iload_n (pc := 6) hx hb dX6_book_6 rfl (lv_at hl 0 rfl) ?_
  refine lv_if_eq (pc := 7) (tgt := 16) hx hb dX6_book_7 (by decide) (fun c_2 => ?_) (fun c_2 => ?_)
  · have hq := pv_pos c_2 hq
    refine lv_iload_n (pc := 16) hx hb dX6_book_16 rfl (lv_at hl 3 rfl) ?_
    refine pv_sRO (pc := 17) (rest := []) (st1 := [.int (m_X6_isState x2)]) (ws := pv_wX E a w0) [.int x2] ⟨hx, hb, hml, hown, hts⟩ hE hA hS hP (hD w0) (c_X6_isState l E x2) (va_cwS 1 hts gX6_book_X6_isState rfl rfl rfl (by decide +kernel) ⟨(Nat.le_of_ble_eq_true rfl), (Nat.le_of_ble_eq_true rfl)⟩) [] rfl rfl rfl hl.1 rfl rfl (Nat.le_of_ble_eq_true rfl) dX6_book_17 ⟨Nat.zero_le _, Nat.zero_le _⟩ (fun locs hS => ?_)
    refine lv_if_ne (pc := 20) (tgt := 30) hx hb dX6_book_20 (by decide) (fun c_3 => ?_) (fun c_3 => ?_)
    · have hq := pv_neg c_3 hq
      refine lv_aload_n (pc := 30) hx hb dX6_book_30 rfl (lv_at hl 1 rfl) ?_
      refine va_get (pc := 31) (D := E.1) (ci := 4) (v := .ref (a 13)) (C := RX6) (T := TX6) (N := 8) hx hb hts i_RX6 hown hK hP 0 rfl rfl 2 (Nat.le_of_ble_eq_true rfl) fl_19 (fun _ h9 => h9) rfl dX6_book_31 ?_
      refine lv_aload_n (pc := 34) hx hb dX6_book_34 rfl (lv_at hl 1 rfl) ?_
      refine va_get (pc := 35) (D := E.1) (ci := 4) (v := .ref (a 1)) (C := RX6) (T := TX6) (N := 8) hx hb hts i_RX6 hown hK hP 0 rfl rfl 0 (Nat.le_of_ble_eq_true rfl) fl_10 (fun _ h9 => h9) rfl dX6_book_35 ?_
      obtain ⟨u_4, hu_4, hq⟩ := pv_bind hq
      refine pv_vRW (pc := 38) (rest := []) (st1 := []) (ws := pv_wX E a w0) (ws' := pv_wX E a (u_4.2, w0.2.1, u_4.1, w0.2.2.2.1, w0.2.2.2.2.1, w0.2.2.2.2.2.1, w0.2.2.2.2.2.2.1, w0.2.2.2.2.2.2.2)) [.ref (a 1)] ⟨hx, hb, hml, hown, hts⟩ hE hA hS hP (hD w0) (c_X4_become l E (a 13) (a 14) (a 15) (a 16) (a 17) (a 18) (a 1) (a 2) (a 3) (a 4) (a 5) (a 6) (w0.2.2.1, w0.1) u_4 hu_4) (cwV 1 hts gX6_book_X4_become rfl rfl rfl (by decide +kernel) ⟨(Nat.le_of_ble_eq_true rfl), (Nat.le_of_ble_eq_true rfl)⟩) (va_recv hK hP (ci := 2) (q0 := 13) rfl rfl) [13, 14, 15, 16, 17, 18, 1, 2, 3, 4, 5, 6] rfl rfl rfl rfl rfl hl.1 rfl rfl (Nat.le_of_ble_eq_true rfl) dX6_book_38 ⟨Nat.zero_le _, Nat.zero_le _⟩ (fun H locs hP hS => ?_)
      refine lv_iconst (pc := 41) (v := 0) hx hb dX6_book_41 (by decide) ?_
      refine lv_istore (pc := 42) (lv' := [(4, .int 0), (3, .int u_1), (0, .ref (a 0)), (1, .int x1), (2, .int x2)]) hx hb dX6_book_42 hl (Nat.le_of_ble_eq_true rfl) rfl (fun ls hl => ?_)
      exact L_44 300 x1 x2 0 (u_4.2, w0.2.1, u_4.1, w0.2.2.2.1, w0.2.2.2.2.1, w0.2.2.2.2.2.1, w0.2.2.2.2.2.2.1, w0.2.2.2.2.2.2.2) H locs ls hP hS (lv_sub hl [2, 3, 4, 0] rfl) hq
    · have hq := pv_pos c_3 hq
      refine lv_aload_n (pc := 23) hx hb dX6_book_23 rfl (lv_at hl 1 rfl) ?_
      refine lv_ldc (pc := 24) hx hb hown lc_51 dX6_book_24 ?_
      obtain ⟨u_30, hu_30, hq⟩ := pv_bind hq
      refine pv_vRWf (pc := 26) (rest := []) (st1 := [.int u_30.1]) (ws := pv_wX E a w0) [.int (-1000000001)] ⟨hx, hb, hml, hown, hts⟩ hE hA hS hP (hD w0) (c_X6_finding l E a (-1000000001) w0 u_30 hu_30) (cwV 1 hts gX6_book_X6_finding rfl rfl rfl (by decide +kernel) ⟨(Nat.le_of_ble_eq_true rfl), (Nat.le_of_ble_eq_true rfl)⟩) (va_recv hK hP (ci := 4) (q0 := 0) rfl rfl) rfl hl.1 rfl rfl (Nat.le_of_ble_eq_true rfl) dX6_book_26 ⟨Nat.zero_le _, Nat.zero_le _⟩ (fun H locs hP hS => ?_)
      have hP : va_P E.1 vwCl (pv_wX E a u_30.2) H := hP
      exact pv_riRW (w := fun w : pv_XT => pv_wX E a w) hx hb hr hlk hAe hS hP (Option.some.inj hq) dX6_book_29
  · have hq := pv_neg c_2 hq
    refine lv_aload_n (pc := 10) hx hb dX6_book_10 rfl (lv_at hl 1 rfl) ?_
    refine lv_iload_n (pc := 11) hx hb dX6_book_11 rfl (lv_at hl 0 rfl) ?_
    obtain ⟨u_31, hu_31, hq⟩ := pv_bind hq
    refine pv_vRWf (pc := 12) (rest := []) (st1 := [.int u_31.1]) (ws := pv_wX E a w0) [.int u_1] ⟨hx, hb, hml, hown, hts⟩ hE hA hS hP (hD w0) (c_X6_finding l E a u_1 w0 u_31 hu_31) (cwV 1 hts gX6_book_X6_finding rfl rfl rfl (by decide +kernel) ⟨(Nat.le_of_ble_eq_true rfl), (Nat.le_of_ble_eq_true rfl)⟩) (va_recv hK hP (ci := 4) (q0 := 0) rfl rfl) rfl hl.1 rfl rfl (Nat.le_of_ble_eq_true rfl) dX6_book_12 ⟨Nat.zero_le _, Nat.zero_le _⟩ (fun H locs hP hS => ?_)
    have hP : va_P E.1 vwCl (pv_wX E a u_31.2) H := hP
    exact pv_riRW (w := fun w : pv_XT => pv_wX E a w) hx hb hr hlk hAe hS hP (Option.some.inj hq) dX6_book_15
def m_X6_comesAsTold_2 : Nat → Int32 → Int32 → Nat → pv_XT → Option (Int32 × pv_XT)
  | 0 => fun _ _ _ _ => none
  | n + 1 => fun x2 x3 j w =>
    if ((w.2.2.2.2.2.1 j).2.1) ≤ x3 then (some (1, w)) else (pv_gd x3 40 (Option.bind (m_X4_ownedSet x2 w.2.2.1) fun u_3 => (if (lg_cmp ((w.2.2.2.2.2.1 j).2.2 x3.toNatClampNeg) u_3.toInt64) = 0 then (Option.bind (m_X4_passMonths 1 (w.2.2.1, w.2.2.2.1)) fun u_5 => ((m_X6_comesAsTold_2 n) x2 (x3 + 1) j (w.1, w.2.1, u_5.1, u_5.2, w.2.2.2.2.1, w.2.2.2.2.2.1, w.2.2.2.2.2.2.1, w.2.2.2.2.2.2.2))) else (some (0, w)))))
def m_X6_comesAsTold (j : Nat) (x2 : Int32) (w : pv_XT) : Option (Int32 × pv_XT) :=
  m_X6_comesAsTold_2 300 x2 0 j w
abbrev r_X6_comesAsTold : Room := { frames := 6, cells := 0, slots := 0, locals := 144 }
set_option maxHeartbeats 4000000 in
set_option maxRecDepth 100000 in
theorem c_X6_comesAsTold_0 (l : Launch) (E : pv_E) (a : Nat → Nat) (x2 : Int32) (w0 : pv_XT) (F : Int32 × pv_XT) (hq : m_X6_comesAsTold 0 x2 w0 = some F) : pv_RW l E yX6_comesAsTold wsX6_comesAsTold r_X6_comesAsTold (pv_wX E a w0) [.ref (a 0), .ref (a 28), .int x2] (some (.int F.1)) (pv_wX E a F.2) := by
  intro sz
  refine pv_mk (by decide) rfl (Nat.le_of_ble_eq_true rfl) ?_
  intro p e s m args below meth c A hx hb hr hml hown hts hlk hAe hP hD0 hA hE hS ls hl
  have hown : s.vm.findClass RX6 = some m.cls := hown
  have hK := hE.1
  have hD : ∀ w : pv_XT, va_D A (pv_wX E a w) := fun w => pv_Dm (ws := pv_wX E a w0) (ws' := pv_wX E a w) rfl hD0
  have hP : va_P E.1 vwCl (pv_wX E a w0) s.heap := hP
  have fl_208 : (Cond.fieldLink RX6 208 "ProvinceCards$Sheet" "size" "I").before args s = true := hts _ (by decide +kernel)
  have fl_214 : (Cond.fieldLink RX6 214 "ProvinceCards$Sheet" "numbers" "[J").before args s = true := hts _ (by decide +kernel)
  have fl_19 : (Cond.fieldLink RX6 19 "ProvinceCards" "ahead" "LProvinceCards$Table;").before args s = true := hts _ (by decide +kernel)
  have fl_25 : (Cond.fieldLink RX6 25 "ProvinceCards" "game" "LProvinceCards$Game;").before args s = true := hts _ (by decide +kernel)
  have i_RX3 : ∀ w ∈ wsX30, w ∈ wsX6_comesAsTold := by decide +kernel
  have i_RX6 : ∀ w ∈ wsX60, w ∈ wsX6_comesAsTold := by decide +kernel
  have hl : lv_has ls 4 [(0, .ref (a 0)), (1, .ref (a 28)), (2, .int x2)] := hl
  have L_2 : ∀ n : Nat, ∀ (x2 : Int32) (x3 : Int32) (w : pv_XT) (H : Heap) (locs : List Loc) (ls : Array Slot), va_P E.1 vwCl (pv_wX E a w) H → va_S A s.heap H locs → lv_has ls 4 [(0, .ref (a 0)), (1, .ref (a 28)), (2, .int x2), (3, .int x3)] → m_X6_comesAsTold_2 n x2 x3 0 w = some F → W p l e r_X6_comesAsTold s m args below meth c H locs 0 0 (MQ below (pv_Rw E (pv_wX E a w0) sz (some (.int F.1)) ((fun w : pv_XT => pv_wX E a w) F.2)) args s 0 0 A) (F0 m 2 ls []) := by
    intro n
    induction n with
    | zero =>
      intro x2 x3 w H locs ls hP hS hl hq
      exact (pv_no hq).elim
    | succ n ih =>
      intro x2 x3 w H locs ls hP hS hl hq
      refine lv_iload_n (pc := 2) hx hb dX6_comesAsTold_2 rfl (lv_at hl 3 rfl) ?_
      refine lv_aload_n (pc := 3) hx hb dX6_comesAsTold_3 rfl (lv_at hl 1 rfl) ?_
      refine va_get (pc := 4) (D := E.1) (ci := 1) (v := .int ((w.2.2.2.2.2.1 0).2.1)) (C := RX3) (T := TX3) (N := 3) hx hb hts i_RX3 hown hK hP 28 rfl rfl 2 (Nat.le_of_ble_eq_true rfl) fl_208 (fun _ h9 => h9) rfl dX6_comesAsTold_4 ?_
      refine lv_icmp_ge (pc := 7) (tgt := 49) hx hb dX6_comesAsTold_7 (by decide) (fun c_1 => ?_) (fun c_1 => ?_)
      · have hq := pv_pos c_1 hq
        refine lv_iconst (pc := 49) (v := 1) hx hb dX6_comesAsTold_49 (by decide) ?_
        exact pv_rzRW (w := fun w : pv_XT => pv_wX E a w) hx hb hr hlk hAe hS hP (Option.some.inj hq) rfl dX6_comesAsTold_50
      · have hq := pv_neg c_1 hq
        refine lv_aload_n (pc := 10) hx hb dX6_comesAsTold_10 rfl (lv_at hl 1 rfl) ?_
        refine va_get (pc := 11) (D := E.1) (ci := 1) (v := .ref (a 29)) (C := RX3) (T := TX3) (N := 3) hx hb hts i_RX3 hown hK hP 28 rfl rfl 0 (Nat.le_of_ble_eq_true rfl) fl_214 (fun _ h9 => h9) rfl dX6_comesAsTold_11 ?_
        refine lv_iload_n (pc := 14) hx hb dX6_comesAsTold_14 rfl (lv_at hl 3 rfl) ?_
        obtain ⟨h_2, hq⟩ := pv_gd_some hq
        refine va_lald (pc := 15) (D := E.1) hx hb hK hP 29 1 rfl rfl h_2 dX6_comesAsTold_15 ?_
        refine lv_aload_n (pc := 16) hx hb dX6_comesAsTold_16 rfl (lv_at hl 0 rfl) ?_
        refine va_get (pc := 17) (D := E.1) (ci := 4) (v := .ref (a 13)) (C := RX6) (T := TX6) (N := 8) hx hb hts i_RX6 hown hK hP 0 rfl rfl 2 (Nat.le_of_ble_eq_true rfl) fl_19 (fun _ h9 => h9) rfl dX6_comesAsTold_17 ?_
        refine lv_iload_n (pc := 20) hx hb dX6_comesAsTold_20 rfl (lv_at hl 2 rfl) ?_
        obtain ⟨u_3, hu_3, hq⟩ := pv_bind hq
        refine pv_vRO (pc := 21) (rest := [.long ((w.2.2.2.2.2.1 0).2.2 x3.toNatClampNeg)]) (st1 := [.int u_3, .long ((w.2.2.2.2.2.1 0).2.2 x3.toNatClampNeg)]) (ws := pv_wX E a w) [.int x2] ⟨hx, hb, hml, hown, hts⟩ hE hA hS hP (hD w) (c_X4_ownedSet l E (a 13) (a 14) (a 15) (a 16) (a 17) (a 18) x2 w.2.2.1 u_3 hu_3) (cwV 1 hts gX6_comesAsTold_X4_ownedSet rfl rfl rfl (by decide +kernel) ⟨(Nat.le_of_ble_eq_true rfl), (Nat.le_of_ble_eq_true rfl)⟩) (va_recv hK hP (ci := 2) (q0 := 13) rfl rfl) [13, 14, 15, 16, 17, 18] rfl rfl rfl hl.1 rfl rfl (Nat.le_of_ble_eq_true rfl) dX6_comesAsTold_21 ⟨Nat.zero_le _, Nat.zero_le _⟩ (fun locs hS => ?_)
        refine lv_i2l (pc := 24) (v := u_3.toInt64) hx hb dX6_comesAsTold_24 rfl ?_
        refine W.lcmp (pc := 25) hx hb dX6_comesAsTold_25 ?_
        refine lv_if_eq (pc := 26) (tgt := 31) hx hb dX6_comesAsTold_26 (by decide) (fun c_4 => ?_) (fun c_4 => ?_)
        · have hq := pv_pos c_4 hq
          refine lv_aload_n (pc := 31) hx hb dX6_comesAsTold_31 rfl (lv_at hl 0 rfl) ?_
          refine va_get (pc := 32) (D := E.1) (ci := 4) (v := .ref (a 13)) (C := RX6) (T := TX6) (N := 8) hx hb hts i_RX6 hown hK hP 0 rfl rfl 2 (Nat.le_of_ble_eq_true rfl) fl_19 (fun _ h9 => h9) rfl dX6_comesAsTold_32 ?_
          refine lv_iconst (pc := 35) (v := 1) hx hb dX6_comesAsTold_35 (by decide) ?_
          refine lv_aload_n (pc := 36) hx hb dX6_comesAsTold_36 rfl (lv_at hl 0 rfl) ?_
          refine va_get (pc := 37) (D := E.1) (ci := 4) (v := .ref (a 19)) (C := RX6) (T := TX6) (N := 8) hx hb hts i_RX6 hown hK hP 0 rfl rfl 3 (Nat.le_of_ble_eq_true rfl) fl_25 (fun _ h9 => h9) rfl dX6_comesAsTold_37 ?_
          obtain ⟨u_5, hu_5, hq⟩ := pv_bind hq
          refine pv_vRW (pc := 40) (rest := []) (st1 := []) (ws := pv_wX E a w) (ws' := pv_wX E a (w.1, w.2.1, u_5.1, u_5.2, w.2.2.2.2.1, w.2.2.2.2.2.1, w.2.2.2.2.2.2.1, w.2.2.2.2.2.2.2)) [.int 1, .ref (a 19)] ⟨hx, hb, hml, hown, hts⟩ hE hA hS hP (hD w) (c_X4_passMonths l E (a 13) (a 14) (a 15) (a 16) (a 17) (a 18) (a 19) (a 20) (a 21) (a 22) (a 23) (a 24) 1 (w.2.2.1, w.2.2.2.1) u_5 hu_5) (cwV 2 hts gX6_comesAsTold_X4_passMonths rfl rfl rfl (by decide +kernel) ⟨(Nat.le_of_ble_eq_true rfl), (Nat.le_of_ble_eq_true rfl)⟩) (va_recv hK hP (ci := 2) (q0 := 13) rfl rfl) [13, 14, 15, 16, 17, 18, 19, 20, 21, 22, 23, 24] rfl rfl rfl rfl rfl hl.1 rfl rfl (Nat.le_of_ble_eq_true rfl) dX6_comesAsTold_40 ⟨Nat.zero_le _, Nat.zero_le _⟩ (fun H locs hP hS => ?_)
          refine lv_iinc (pc := 43) (v := (x3 + 1)) (lv' := [(3, .int (x3 + 1)), (0, .ref (a 0)), (1, .ref (a 28)), (2, .int x2)]) hx hb dX6_comesAsTold_43 hl (k := 3) rfl rfl (Nat.le_of_ble_eq_true rfl) rfl (fun ls hl => ?_)
          refine lv_goto (pc := 46) (tgt := 2) hx hb dX6_comesAsTold_46 (by decide) ?_
          exact ih x2 (x3 + 1) (w.1, w.2.1, u_5.1, u_5.2, w.2.2.2.2.1, w.2.2.2.2.2.1, w.2.2.2.2.2.2.1, w.2.2.2.2.2.2.2) H locs ls hP hS (lv_sub hl [1, 2, 3, 0] rfl) hq
        · have hq := pv_neg c_4 hq
          refine lv_iconst (pc := 29) (v := 0) hx hb dX6_comesAsTold_29 (by decide) ?_
          exact pv_rzRW (w := fun w : pv_XT => pv_wX E a w) hx hb hr hlk hAe hS hP (Option.some.inj hq) rfl dX6_comesAsTold_30
  suffices M0 : ∀ (H : Heap) (locs : List Loc), va_P E.1 vwCl (pv_wX E a w0) H → va_S A s.heap H locs → W p l e r_X6_comesAsTold s m args below meth c H locs 0 0 (MQ below (pv_Rw E (pv_wX E a w0) sz (some (.int F.1)) ((fun w : pv_XT => pv_wX E a w) F.2)) args s 0 0 A) (F0 m 0 ls []) from M0 s.heap [] hP hS
  intro H locs hP hS
  refine lv_iconst (pc := 0) (v := 0) hx hb dX6_comesAsTold_0 (by decide) ?_
  refine lv_istore_n (pc := 1) (lv' := [(3, .int 0), (0, .ref (a 0)), (1, .ref (a 28)), (2, .int x2)]) hx hb dX6_comesAsTold_1 rfl hl (Nat.le_of_ble_eq_true rfl) rfl (fun ls hl => ?_)
  exact L_2 300 x2 0 w0 H locs ls hP hS (lv_sub hl [1, 2, 3, 0] rfl) hq
set_option maxHeartbeats 4000000 in
set_option maxRecDepth 100000 in
theorem c_X6_comesAsTold_1 (l : Launch) (E : pv_E) (a : Nat → Nat) (x2 : Int32) (w0 : pv_XT) (F : Int32 × pv_XT) (hq : m_X6_comesAsTold 1 x2 w0 = some F) : pv_RW l E yX6_comesAsTold wsX6_comesAsTold r_X6_comesAsTold (pv_wX E a w0) [.ref (a 0), .ref (a 30), .int x2] (some (.int F.1)) (pv_wX E a F.2) := by
  intro sz
  refine pv_mk (by decide) rfl (Nat.le_of_ble_eq_true rfl) ?_
  intro p e s m args below meth c A hx hb hr hml hown hts hlk hAe hP hD0 hA hE hS ls hl
  have hown : s.vm.findClass RX6 = some m.cls := hown
  have hK := hE.1
  have hD : ∀ w : pv_XT, va_D A (pv_wX E a w) := fun w => pv_Dm (ws := pv_wX E a w0) (ws' := pv_wX E a w) rfl hD0
  have hP : va_P E.1 vwCl (pv_wX E a w0) s.heap := hP
  have fl_208 : (Cond.fieldLink RX6 208 "ProvinceCards$Sheet" "size" "I").before args s = true := hts _ (by decide +kernel)
  have fl_214 : (Cond.fieldLink RX6 214 "ProvinceCards$Sheet" "numbers" "[J").before args s = true := hts _ (by decide +kernel)
  have fl_19 : (Cond.fieldLink RX6 19 "ProvinceCards" "ahead" "LProvinceCards$Table;").before args s = true := hts _ (by decide +kernel)
  have fl_25 : (Cond.fieldLink RX6 25 "ProvinceCards" "game" "LProvinceCards$Game;").before args s = true := hts _ (by decide +kernel)
  have i_RX3 : ∀ w ∈ wsX30, w ∈ wsX6_comesAsTold := by decide +kernel
  have i_RX6 : ∀ w ∈ wsX60, w ∈ wsX6_comesAsTold := by decide +kernel
  have hl : lv_has ls 4 [(0, .ref (a 0)), (1, .ref (a 30)), (2, .int x2)] := hl
  have L_2 : ∀ n : Nat, ∀ (x2 : Int32) (x3 : Int32) (w : pv_XT) (H : Heap) (locs : List Loc) (ls : Array Slot), va_P E.1 vwCl (pv_wX E a w) H → va_S A s.heap H locs → lv_has ls 4 [(0, .ref (a 0)), (1, .ref (a 30)), (2, .int x2), (3, .int x3)] → m_X6_comesAsTold_2 n x2 x3 1 w = some F → W p l e r_X6_comesAsTold s m args below meth c H locs 0 0 (MQ below (pv_Rw E (pv_wX E a w0) sz (some (.int F.1)) ((fun w : pv_XT => pv_wX E a w) F.2)) args s 0 0 A) (F0 m 2 ls []) := by
    intro n
    induction n with
    | zero =>
      intro x2 x3 w H locs ls hP hS hl hq
      exact (pv_no hq).elim
    | succ n ih =>
      intro x2 x3 w H locs ls hP hS hl hq
      refine lv_iload_n (pc := 2) hx hb dX6_comesAsTold_2 rfl (lv_at hl 3 rfl) ?_
      refine lv_aload_n (pc := 3) hx hb dX6_comesAsTold_3 rfl (lv_at hl 1 rfl) ?_
      refine va_get (pc := 4) (D := E.1) (ci := 1) (v := .int ((w.2.2.2.2.2.1 1).2.1)) (C := RX3) (T := TX3) (N := 3) hx hb hts i_RX3 hown hK hP 30 rfl rfl 2 (Nat.le_of_ble_eq_true rfl) fl_208 (fun _ h9 => h9) rfl dX6_comesAsTold_4 ?_
      refine lv_icmp_ge (pc := 7) (tgt := 49) hx hb dX6_comesAsTold_7 (by decide) (fun c_1 => ?_) (fun c_1 => ?_)
      · have hq := pv_pos c_1 hq
        refine lv_iconst (pc := 49) (v := 1) hx hb dX6_comesAsTold_49 (by decide) ?_
        exact pv_rzRW (w := fun w : pv_XT => pv_wX E a w) hx hb hr hlk hAe hS hP (Option.some.inj hq) rfl dX6_comesAsTold_50
      · have hq := pv_neg c_1 hq
        refine lv_aload_n (pc := 10) hx hb dX6_comesAsTold_10 rfl (lv_at hl 1 rfl) ?_
        refine va_get (pc := 11) (D := E.1) (ci := 1) (v := .ref (a 31)) (C := RX3) (T := TX3) (N := 3) hx hb hts i_RX3 hown hK hP 30 rfl rfl 0 (Nat.le_of_ble_eq_true rfl) fl_214 (fun _ h9 => h9) rfl dX6_comesAsTold_11 ?_
        refine lv_iload_n (pc := 14) hx hb dX6_comesAsTold_14 rfl (lv_at hl 3 rfl) ?_
        obtain ⟨h_2, hq⟩ := pv_gd_some hq
        refine va_lald (pc := 15) (D := E.1) hx hb hK hP 31 1 rfl rfl h_2 dX6_comesAsTold_15 ?_
        refine lv_aload_n (pc := 16) hx hb dX6_comesAsTold_16 rfl (lv_at hl 0 rfl) ?_
        refine va_get (pc := 17) (D := E.1) (ci := 4) (v := .ref (a 13)) (C := RX6) (T := TX6) (N := 8) hx hb hts i_RX6 hown hK hP 0 rfl rfl 2 (Nat.le_of_ble_eq_true rfl) fl_19 (fun _ h9 => h9) rfl dX6_comesAsTold_17 ?_
        refine lv_iload_n (pc := 20) hx hb dX6_comesAsTold_20 rfl (lv_at hl 2 rfl) ?_
        obtain ⟨u_3, hu_3, hq⟩ := pv_bind hq
        refine pv_vRO (pc := 21) (rest := [.long ((w.2.2.2.2.2.1 1).2.2 x3.toNatClampNeg)]) (st1 := [.int u_3, .long ((w.2.2.2.2.2.1 1).2.2 x3.toNatClampNeg)]) (ws := pv_wX E a w) [.int x2] ⟨hx, hb, hml, hown, hts⟩ hE hA hS hP (hD w) (c_X4_ownedSet l E (a 13) (a 14) (a 15) (a 16) (a 17) (a 18) x2 w.2.2.1 u_3 hu_3) (cwV 1 hts gX6_comesAsTold_X4_ownedSet rfl rfl rfl (by decide +kernel) ⟨(Nat.le_of_ble_eq_true rfl), (Nat.le_of_ble_eq_true rfl)⟩) (va_recv hK hP (ci := 2) (q0 := 13) rfl rfl) [13, 14, 15, 16, 17, 18] rfl rfl rfl hl.1 rfl rfl (Nat.le_of_ble_eq_true rfl) dX6_comesAsTold_21 ⟨Nat.zero_le _, Nat.zero_le _⟩ (fun locs hS => ?_)
        refine lv_i2l (pc := 24) (v := u_3.toInt64) hx hb dX6_comesAsTold_24 rfl ?_
        refine W.lcmp (pc := 25) hx hb dX6_comesAsTold_25 ?_
        refine lv_if_eq (pc := 26) (tgt := 31) hx hb dX6_comesAsTold_26 (by decide) (fun c_4 => ?_) (fun c_4 => ?_)
        · have hq := pv_pos c_4 hq
          refine lv_aload_n (pc := 31) hx hb dX6_comesAsTold_31 rfl (lv_at hl 0 rfl) ?_
          refine va_get (pc := 32) (D := E.1) (ci := 4) (v := .ref (a 13)) (C := RX6) (T := TX6) (N := 8) hx hb hts i_RX6 hown hK hP 0 rfl rfl 2 (Nat.le_of_ble_eq_true rfl) fl_19 (fun _ h9 => h9) rfl dX6_comesAsTold_32 ?_
          refine lv_iconst (pc := 35) (v := 1) hx hb dX6_comesAsTold_35 (by decide) ?_
          refine lv_aload_n (pc := 36) hx hb dX6_comesAsTold_36 rfl (lv_at hl 0 rfl) ?_
          refine va_get (pc := 37) (D := E.1) (ci := 4) (v := .ref (a 19)) (C := RX6) (T := TX6) (N := 8) hx hb hts i_RX6 hown hK hP 0 rfl rfl 3 (Nat.le_of_ble_eq_true rfl) fl_25 (fun _ h9 => h9) rfl dX6_comesAsTold_37 ?_
          obtain ⟨u_5, hu_5, hq⟩ := pv_bind hq
          refine pv_vRW (pc := 40) (rest := []) (st1 := []) (ws := pv_wX E a w) (ws' := pv_wX E a (w.1, w.2.1, u_5.1, u_5.2, w.2.2.2.2.1, w.2.2.2.2.2.1, w.2.2.2.2.2.2.1, w.2.2.2.2.2.2.2)) [.int 1, .ref (a 19)] ⟨hx, hb, hml, hown, hts⟩ hE hA hS hP (hD w) (c_X4_passMonths l E (a 13) (a 14) (a 15) (a 16) (a 17) (a 18) (a 19) (a 20) (a 21) (a 22) (a 23) (a 24) 1 (w.2.2.1, w.2.2.2.1) u_5 hu_5) (cwV 2 hts gX6_comesAsTold_X4_passMonths rfl rfl rfl (by decide +kernel) ⟨(Nat.le_of_ble_eq_true rfl), (Nat.le_of_ble_eq_true rfl)⟩) (va_recv hK hP (ci := 2) (q0 := 13) rfl rfl) [13, 14, 15, 16, 17, 18, 19, 20, 21, 22, 23, 24] rfl rfl rfl rfl rfl hl.1 rfl rfl (Nat.le_of_ble_eq_true rfl) dX6_comesAsTold_40 ⟨Nat.zero_le _, Nat.zero_le _⟩ (fun H locs hP hS => ?_)
          refine lv_iinc (pc := 43) (v := (x3 + 1)) (lv' := [(3, .int (x3 + 1)), (0, .ref (a 0)), (1, .ref (a 30)), (2, .int x2)]) hx hb dX6_comesAsTold_43 hl (k := 3) rfl rfl (Nat.le_of_ble_eq_true rfl) rfl (fun ls hl => ?_)
          refine lv_goto (pc := 46) (tgt := 2) hx hb dX6_comesAsTold_46 (by decide) ?_
          exact ih x2 (x3 + 1) (w.1, w.2.1, u_5.1, u_5.2, w.2.2.2.2.1, w.2.2.2.2.2.1, w.2.2.2.2.2.2.1, w.2.2.2.2.2.2.2) H locs ls hP hS (lv_sub hl [1, 2, 3, 0] rfl) hq
        · have hq := pv_neg c_4 hq
          refine lv_iconst (pc := 29) (v := 0) hx hb dX6_comesAsTold_29 (by decide) ?_
          exact pv_rzRW (w := fun w : pv_XT => pv_wX E a w) hx hb hr hlk hAe hS hP (Option.some.inj hq) rfl dX6_comesAsTold_30
  suffices M0 : ∀ (H : Heap) (locs : List Loc), va_P E.1 vwCl (pv_wX E a w0) H → va_S A s.heap H locs → W p l e r_X6_comesAsTold s m args below meth c H locs 0 0 (MQ below (pv_Rw E (pv_wX E a w0) sz (some (.int F.1)) ((fun w : pv_XT => pv_wX E a w) F.2)) args s 0 0 A) (F0 m 0 ls []) from M0 s.heap [] hP hS
  intro H locs hP hS
  refine lv_iconst (pc := 0) (v := 0) hx hb dX6_comesAsTold_0 (by decide) ?_
  refine lv_istore_n (pc := 1) (lv' := [(3, .int 0), (0, .ref (a 0)), (1, .ref (a 30)), (2, .int x2)]) hx hb dX6_comesAsTold_1 rfl hl (Nat.le_of_ble_eq_true rfl) rfl (fun ls hl => ?_)
  exact L_2 300 x2 0 w0 H locs ls hP hS (lv_sub hl [1, 2, 3, 0] rfl) hq
set_option maxHeartbeats 4000000 in
set_option maxRecDepth 100000 in
theorem c_X6_comesAsTold_2 (l : Launch) (E : pv_E) (a : Nat → Nat) (x2 : Int32) (w0 : pv_XT) (F : Int32 × pv_XT) (hq : m_X6_comesAsTold 2 x2 w0 = some F) : pv_RW l E yX6_comesAsTold wsX6_comesAsTold r_X6_comesAsTold (pv_wX E a w0) [.ref (a 0), .ref (a 32), .int x2] (some (.int F.1)) (pv_wX E a F.2) := by
  intro sz
  refine pv_mk (by decide) rfl (Nat.le_of_ble_eq_true rfl) ?_
  intro p e s m args below meth c A hx hb hr hml hown hts hlk hAe hP hD0 hA hE hS ls hl
  have hown : s.vm.findClass RX6 = some m.cls := hown
  have hK := hE.1
  have hD : ∀ w : pv_XT, va_D A (pv_wX E a w) := fun w => pv_Dm (ws := pv_wX E a w0) (ws' := pv_wX E a w) rfl hD0
  have hP : va_P E.1 vwCl (pv_wX E a w0) s.heap := hP
  have fl_208 : (Cond.fieldLink RX6 208 "ProvinceCards$Sheet" "size" "I").before args s = true := hts _ (by decide +kernel)
  have fl_214 : (Cond.fieldLink RX6 214 "ProvinceCards$Sheet" "numbers" "[J").before args s = true := hts _ (by decide +kernel)
  have fl_19 : (Cond.fieldLink RX6 19 "ProvinceCards" "ahead" "LProvinceCards$Table;").before args s = true := hts _ (by decide +kernel)
  have fl_25 : (Cond.fieldLink RX6 25 "ProvinceCards" "game" "LProvinceCards$Game;").before args s = true := hts _ (by decide +kernel)
  have i_RX3 : ∀ w ∈ wsX30, w ∈ wsX6_comesAsTold := by decide +kernel
  have i_RX6 : ∀ w ∈ wsX60, w ∈ wsX6_comesAsTold := by decide +kernel
  have hl : lv_has ls 4 [(0, .ref (a 0)), (1, .ref (a 32)), (2, .int x2)] := hl
  have L_2 : ∀ n : Nat, ∀ (x2 : Int32) (x3 : Int32) (w : pv_XT) (H : Heap) (locs : List Loc) (ls : Array Slot), va_P E.1 vwCl (pv_wX E a w) H → va_S A s.heap H locs → lv_has ls 4 [(0, .ref (a 0)), (1, .ref (a 32)), (2, .int x2), (3, .int x3)] → m_X6_comesAsTold_2 n x2 x3 2 w = some F → W p l e r_X6_comesAsTold s m args below meth c H locs 0 0 (MQ below (pv_Rw E (pv_wX E a w0) sz (some (.int F.1)) ((fun w : pv_XT => pv_wX E a w) F.2)) args s 0 0 A) (F0 m 2 ls []) := by
    intro n
    induction n with
    | zero =>
      intro x2 x3 w H locs ls hP hS hl hq
      exact (pv_no hq).elim
    | succ n ih =>
      intro x2 x3 w H locs ls hP hS hl hq
      refine lv_iload_n (pc := 2) hx hb dX6_comesAsTold_2 rfl (lv_at hl 3 rfl) ?_
      refine lv_aload_n (pc := 3) hx hb dX6_comesAsTold_3 rfl (lv_at hl 1 rfl) ?_
      refine va_get (pc := 4) (D := E.1) (ci := 1) (v := .int ((w.2.2.2.2.2.1 2).2.1)) (C := RX3) (T := TX3) (N := 3) hx hb hts i_RX3 hown hK hP 32 rfl rfl 2 (Nat.le_of_ble_eq_true rfl) fl_208 (fun _ h9 => h9) rfl dX6_comesAsTold_4 ?_
      refine lv_icmp_ge (pc := 7) (tgt := 49) hx hb dX6_comesAsTold_7 (by decide) (fun c_1 => ?_) (fun c_1 => ?_)
      · have hq := pv_pos c_1 hq
        refine lv_iconst (pc := 49) (v := 1) hx hb dX6_comesAsTold_49 (by decide) ?_
        exact pv_rzRW (w := fun w : pv_XT => pv_wX E a w) hx hb hr hlk hAe hS hP (Option.some.inj hq) rfl dX6_comesAsTold_50
      · have hq := pv_neg c_1 hq
        refine lv_aload_n (pc := 10) hx hb dX6_comesAsTold_10 rfl (lv_at hl 1 rfl) ?_
        refine va_get (pc := 11) (D := E.1) (ci := 1) (v := .ref (a 33)) (C := RX3) (T := TX3) (N := 3) hx hb hts i_RX3 hown hK hP 32 rfl rfl 0 (Nat.le_of_ble_eq_true rfl) fl_214 (fun _ h9 => h9) rfl dX6_comesAsTold_11 ?_
        refine lv_iload_n (pc := 14) hx hb dX6_comesAsTold_14 rfl (lv_at hl 3 rfl) ?_
        obtain ⟨h_2, hq⟩ := pv_gd_some hq
        refine va_lald (pc := 15) (D := E.1) hx hb hK hP 33 1 rfl rfl h_2 dX6_comesAsTold_15 ?_
        refine lv_aload_n (pc := 16) hx hb dX6_comesAsTold_16 rfl (lv_at hl 0 rfl) ?_
        refine va_get (pc := 17) (D := E.1) (ci := 4) (v := .ref (a 13)) (C := RX6) (T := TX6) (N := 8) hx hb hts i_RX6 hown hK hP 0 rfl rfl 2 (Nat.le_of_ble_eq_true rfl) fl_19 (fun _ h9 => h9) rfl dX6_comesAsTold_17 ?_
        refine lv_iload_n (pc := 20) hx hb dX6_comesAsTold_20 rfl (lv_at hl 2 rfl) ?_
        obtain ⟨u_3, hu_3, hq⟩ := pv_bind hq
        refine pv_vRO (pc := 21) (rest := [.long ((w.2.2.2.2.2.1 2).2.2 x3.toNatClampNeg)]) (st1 := [.int u_3, .long ((w.2.2.2.2.2.1 2).2.2 x3.toNatClampNeg)]) (ws := pv_wX E a w) [.int x2] ⟨hx, hb, hml, hown, hts⟩ hE hA hS hP (hD w) (c_X4_ownedSet l E (a 13) (a 14) (a 15) (a 16) (a 17) (a 18) x2 w.2.2.1 u_3 hu_3) (cwV 1 hts gX6_comesAsTold_X4_ownedSet rfl rfl rfl (by decide +kernel) ⟨(Nat.le_of_ble_eq_true rfl), (Nat.le_of_ble_eq_true rfl)⟩) (va_recv hK hP (ci := 2) (q0 := 13) rfl rfl) [13, 14, 15, 16, 17, 18] rfl rfl rfl hl.1 rfl rfl (Nat.le_of_ble_eq_true rfl) dX6_comesAsTold_21 ⟨Nat.zero_le _, Nat.zero_le _⟩ (fun locs hS => ?_)
        refine lv_i2l (pc := 24) (v := u_3.toInt64) hx hb dX6_comesAsTold_24 rfl ?_
        refine W.lcmp (pc := 25) hx hb dX6_comesAsTold_25 ?_
        refine lv_if_eq (pc := 26) (tgt := 31) hx hb dX6_comesAsTold_26 (by decide) (fun c_4 => ?_) (fun c_4 => ?_)
        · have hq := pv_pos c_4 hq
          refine lv_aload_n (pc := 31) hx hb dX6_comesAsTold_31 rfl (lv_at hl 0 rfl) ?_
          refine va_get (pc := 32) (D := E.1) (ci := 4) (v := .ref (a 13)) (C := RX6) (T := TX6) (N := 8) hx hb hts i_RX6 hown hK hP 0 rfl rfl 2 (Nat.le_of_ble_eq_true rfl) fl_19 (fun _ h9 => h9) rfl dX6_comesAsTold_32 ?_
          refine lv_iconst (pc := 35) (v := 1) hx hb dX6_comesAsTold_35 (by decide) ?_
          refine lv_aload_n (pc := 36) hx hb dX6_comesAsTold_36 rfl (lv_at hl 0 rfl) ?_
          refine va_get (pc := 37) (D := E.1) (ci := 4) (v := .ref (a 19)) (C := RX6) (T := TX6) (N := 8) hx hb hts i_RX6 hown hK hP 0 rfl rfl 3 (Nat.le_of_ble_eq_true rfl) fl_25 (fun _ h9 => h9) rfl dX6_comesAsTold_37 ?_
          obtain ⟨u_5, hu_5, hq⟩ := pv_bind hq
          refine pv_vRW (pc := 40) (rest := []) (st1 := []) (ws := pv_wX E a w) (ws' := pv_wX E a (w.1, w.2.1, u_5.1, u_5.2, w.2.2.2.2.1, w.2.2.2.2.2.1, w.2.2.2.2.2.2.1, w.2.2.2.2.2.2.2)) [.int 1, .ref (a 19)] ⟨hx, hb, hml, hown, hts⟩ hE hA hS hP (hD w) (c_X4_passMonths l E (a 13) (a 14) (a 15) (a 16) (a 17) (a 18) (a 19) (a 20) (a 21) (a 22) (a 23) (a 24) 1 (w.2.2.1, w.2.2.2.1) u_5 hu_5) (cwV 2 hts gX6_comesAsTold_X4_passMonths rfl rfl rfl (by decide +kernel) ⟨(Nat.le_of_ble_eq_true rfl), (Nat.le_of_ble_eq_true rfl)⟩) (va_recv hK hP (ci := 2) (q0 := 13) rfl rfl) [13, 14, 15, 16, 17, 18, 19, 20, 21, 22, 23, 24] rfl rfl rfl rfl rfl hl.1 rfl rfl (Nat.le_of_ble_eq_true rfl) dX6_comesAsTold_40 ⟨Nat.zero_le _, Nat.zero_le _⟩ (fun H locs hP hS => ?_)
          refine lv_iinc (pc := 43) (v := (x3 + 1)) (lv' := [(3, .int (x3 + 1)), (0, .ref (a 0)), (1, .ref (a 32)), (2, .int x2)]) hx hb dX6_comesAsTold_43 hl (k := 3) rfl rfl (Nat.le_of_ble_eq_true rfl) rfl (fun ls hl => ?_)
          refine lv_goto (pc := 46) (tgt := 2) hx hb dX6_comesAsTold_46 (by decide) ?_
          exact ih x2 (x3 + 1) (w.1, w.2.1, u_5.1, u_5.2, w.2.2.2.2.1, w.2.2.2.2.2.1, w.2.2.2.2.2.2.1, w.2.2.2.2.2.2.2) H locs ls hP hS (lv_sub hl [1, 2, 3, 0] rfl) hq
        · have hq := pv_neg c_4 hq
          refine lv_iconst (pc := 29) (v := 0) hx hb dX6_comesAsTold_29 (by decide) ?_
          exact pv_rzRW (w := fun w : pv_XT => pv_wX E a w) hx hb hr hlk hAe hS hP (Option.some.inj hq) rfl dX6_comesAsTold_30
  suffices M0 : ∀ (H : Heap) (locs : List Loc), va_P E.1 vwCl (pv_wX E a w0) H → va_S A s.heap H locs → W p l e r_X6_comesAsTold s m args below meth c H locs 0 0 (MQ below (pv_Rw E (pv_wX E a w0) sz (some (.int F.1)) ((fun w : pv_XT => pv_wX E a w) F.2)) args s 0 0 A) (F0 m 0 ls []) from M0 s.heap [] hP hS
  intro H locs hP hS
  refine lv_iconst (pc := 0) (v := 0) hx hb dX6_comesAsTold_0 (by decide) ?_
  refine lv_istore_n (pc := 1) (lv' := [(3, .int 0), (0, .ref (a 0)), (1, .ref (a 32)), (2, .int x2)]) hx hb dX6_comesAsTold_1 rfl hl (Nat.le_of_ble_eq_true rfl) rfl (fun ls hl => ?_)
  exact L_2 300 x2 0 w0 H locs ls hP hS (lv_sub hl [1, 2, 3, 0] rfl) hq
set_option maxHeartbeats 4000000 in
set_option maxRecDepth 100000 in
theorem c_X6_comesAsTold_3 (l : Launch) (E : pv_E) (a : Nat → Nat) (x2 : Int32) (w0 : pv_XT) (F : Int32 × pv_XT) (hq : m_X6_comesAsTold 3 x2 w0 = some F) : pv_RW l E yX6_comesAsTold wsX6_comesAsTold r_X6_comesAsTold (pv_wX E a w0) [.ref (a 0), .ref (a 34), .int x2] (some (.int F.1)) (pv_wX E a F.2) := by
  intro sz
  refine pv_mk (by decide) rfl (Nat.le_of_ble_eq_true rfl) ?_
  intro p e s m args below meth c A hx hb hr hml hown hts hlk hAe hP hD0 hA hE hS ls hl
  have hown : s.vm.findClass RX6 = some m.cls := hown
  have hK := hE.1
  have hD : ∀ w : pv_XT, va_D A (pv_wX E a w) := fun w => pv_Dm (ws := pv_wX E a w0) (ws' := pv_wX E a w) rfl hD0
  have hP : va_P E.1 vwCl (pv_wX E a w0) s.heap := hP
  have fl_208 : (Cond.fieldLink RX6 208 "ProvinceCards$Sheet" "size" "I").before args s = true := hts _ (by decide +kernel)
  have fl_214 : (Cond.fieldLink RX6 214 "ProvinceCards$Sheet" "numbers" "[J").before args s = true := hts _ (by decide +kernel)
  have fl_19 : (Cond.fieldLink RX6 19 "ProvinceCards" "ahead" "LProvinceCards$Table;").before args s = true := hts _ (by decide +kernel)
  have fl_25 : (Cond.fieldLink RX6 25 "ProvinceCards" "game" "LProvinceCards$Game;").before args s = true := hts _ (by decide +kernel)
  have i_RX3 : ∀ w ∈ wsX30, w ∈ wsX6_comesAsTold := by decide +kernel
  have i_RX6 : ∀ w ∈ wsX60, w ∈ wsX6_comesAsTold := by decide +kernel
  have hl : lv_has ls 4 [(0, .ref (a 0)), (1, .ref (a 34)), (2, .int x2)] := hl
  have L_2 : ∀ n : Nat, ∀ (x2 : Int32) (x3 : Int32) (w : pv_XT) (H : Heap) (locs : List Loc) (ls : Array Slot), va_P E.1 vwCl (pv_wX E a w) H → va_S A s.heap H locs → lv_has ls 4 [(0, .ref (a 0)), (1, .ref (a 34)), (2, .int x2), (3, .int x3)] → m_X6_comesAsTold_2 n x2 x3 3 w = some F → W p l e r_X6_comesAsTold s m args below meth c H locs 0 0 (MQ below (pv_Rw E (pv_wX E a w0) sz (some (.int F.1)) ((fun w : pv_XT => pv_wX E a w) F.2)) args s 0 0 A) (F0 m 2 ls []) := by
    intro n
    induction n with
    | zero =>
      intro x2 x3 w H locs ls hP hS hl hq
      exact (pv_no hq).elim
    | succ n ih =>
      intro x2 x3 w H locs ls hP hS hl hq
      refine lv_iload_n (pc := 2) hx hb dX6_comesAsTold_2 rfl (lv_at hl 3 rfl) ?_
      refine lv_aload_n (pc := 3) hx hb dX6_comesAsTold_3 rfl (lv_at hl 1 rfl) ?_
      refine va_get (pc := 4) (D := E.1) (ci := 1) (v := .int ((w.2.2.2.2.2.1 3).2.1)) (C := RX3) (T := TX3) (N := 3) hx hb hts i_RX3 hown hK hP 34 rfl rfl 2 (Nat.le_of_ble_eq_true rfl) fl_208 (fun _ h9 => h9) rfl dX6_comesAsTold_4 ?_
      refine lv_icmp_ge (pc := 7) (tgt := 49) hx hb dX6_comesAsTold_7 (by decide) (fun c_1 => ?_) (fun c_1 => ?_)
      · have hq := pv_pos c_1 hq
        refine lv_iconst (pc := 49) (v := 1) hx hb dX6_comesAsTold_49 (by decide) ?_
        exact pv_rzRW (w := fun w : pv_XT => pv_wX E a w) hx hb hr hlk hAe hS hP (Option.some.inj hq) rfl dX6_comesAsTold_50
      · have hq := pv_neg c_1 hq
        refine lv_aload_n (pc := 10) hx hb dX6_comesAsTold_10 rfl (lv_at hl 1 rfl) ?_
        refine va_get (pc := 11) (D := E.1) (ci := 1) (v := .ref (a 35)) (C := RX3) (T := TX3) (N := 3) hx hb hts i_RX3 hown hK hP 34 rfl rfl 0 (Nat.le_of_ble_eq_true rfl) fl_214 (fun _ h9 => h9) rfl dX6_comesAsTold_11 ?_
        refine lv_iload_n (pc := 14) hx hb dX6_comesAsTold_14 rfl (lv_at hl 3 rfl) ?_
        obtain ⟨h_2, hq⟩ := pv_gd_some hq
        refine va_lald (pc := 15) (D := E.1) hx hb hK hP 35 1 rfl rfl h_2 dX6_comesAsTold_15 ?_
        refine lv_aload_n (pc := 16) hx hb dX6_comesAsTold_16 rfl (lv_at hl 0 rfl) ?_
        refine va_get (pc := 17) (D := E.1) (ci := 4) (v := .ref (a 13)) (C := RX6) (T := TX6) (N := 8) hx hb hts i_RX6 hown hK hP 0 rfl rfl 2 (Nat.le_of_ble_eq_true rfl) fl_19 (fun _ h9 => h9) rfl dX6_comesAsTold_17 ?_
        refine lv_iload_n (pc := 20) hx hb dX6_comesAsTold_20 rfl (lv_at hl 2 rfl) ?_
        obtain ⟨u_3, hu_3, hq⟩ := pv_bind hq
        refine pv_vRO (pc := 21) (rest := [.long ((w.2.2.2.2.2.1 3).2.2 x3.toNatClampNeg)]) (st1 := [.int u_3, .long ((w.2.2.2.2.2.1 3).2.2 x3.toNatClampNeg)]) (ws := pv_wX E a w) [.int x2] ⟨hx, hb, hml, hown, hts⟩ hE hA hS hP (hD w) (c_X4_ownedSet l E (a 13) (a 14) (a 15) (a 16) (a 17) (a 18) x2 w.2.2.1 u_3 hu_3) (cwV 1 hts gX6_comesAsTold_X4_ownedSet rfl rfl rfl (by decide +kernel) ⟨(Nat.le_of_ble_eq_true rfl), (Nat.le_of_ble_eq_true rfl)⟩) (va_recv hK hP (ci := 2) (q0 := 13) rfl rfl) [13, 14, 15, 16, 17, 18] rfl rfl rfl hl.1 rfl rfl (Nat.le_of_ble_eq_true rfl) dX6_comesAsTold_21 ⟨Nat.zero_le _, Nat.zero_le _⟩ (fun locs hS => ?_)
        refine lv_i2l (pc := 24) (v := u_3.toInt64) hx hb dX6_comesAsTold_24 rfl ?_
        refine W.lcmp (pc := 25) hx hb dX6_comesAsTold_25 ?_
        refine lv_if_eq (pc := 26) (tgt := 31) hx hb dX6_comesAsTold_26 (by decide) (fun c_4 => ?_) (fun c_4 => ?_)
        · have hq := pv_pos c_4 hq
          refine lv_aload_n (pc := 31) hx hb dX6_comesAsTold_31 rfl (lv_at hl 0 rfl) ?_
          refine va_get (pc := 32) (D := E.1) (ci := 4) (v := .ref (a 13)) (C := RX6) (T := TX6) (N := 8) hx hb hts i_RX6 hown hK hP 0 rfl rfl 2 (Nat.le_of_ble_eq_true rfl) fl_19 (fun _ h9 => h9) rfl dX6_comesAsTold_32 ?_
          refine lv_iconst (pc := 35) (v := 1) hx hb dX6_comesAsTold_35 (by decide) ?_
          refine lv_aload_n (pc := 36) hx hb dX6_comesAsTold_36 rfl (lv_at hl 0 rfl) ?_
          refine va_get (pc := 37) (D := E.1) (ci := 4) (v := .ref (a 19)) (C := RX6) (T := TX6) (N := 8) hx hb hts i_RX6 hown hK hP 0 rfl rfl 3 (Nat.le_of_ble_eq_true rfl) fl_25 (fun _ h9 => h9) rfl dX6_comesAsTold_37 ?_
          obtain ⟨u_5, hu_5, hq⟩ := pv_bind hq
          refine pv_vRW (pc := 40) (rest := []) (st1 := []) (ws := pv_wX E a w) (ws' := pv_wX E a (w.1, w.2.1, u_5.1, u_5.2, w.2.2.2.2.1, w.2.2.2.2.2.1, w.2.2.2.2.2.2.1, w.2.2.2.2.2.2.2)) [.int 1, .ref (a 19)] ⟨hx, hb, hml, hown, hts⟩ hE hA hS hP (hD w) (c_X4_passMonths l E (a 13) (a 14) (a 15) (a 16) (a 17) (a 18) (a 19) (a 20) (a 21) (a 22) (a 23) (a 24) 1 (w.2.2.1, w.2.2.2.1) u_5 hu_5) (cwV 2 hts gX6_comesAsTold_X4_passMonths rfl rfl rfl (by decide +kernel) ⟨(Nat.le_of_ble_eq_true rfl), (Nat.le_of_ble_eq_true rfl)⟩) (va_recv hK hP (ci := 2) (q0 := 13) rfl rfl) [13, 14, 15, 16, 17, 18, 19, 20, 21, 22, 23, 24] rfl rfl rfl rfl rfl hl.1 rfl rfl (Nat.le_of_ble_eq_true rfl) dX6_comesAsTold_40 ⟨Nat.zero_le _, Nat.zero_le _⟩ (fun H locs hP hS => ?_)
          refine lv_iinc (pc := 43) (v := (x3 + 1)) (lv' := [(3, .int (x3 + 1)), (0, .ref (a 0)), (1, .ref (a 34)), (2, .int x2)]) hx hb dX6_comesAsTold_43 hl (k := 3) rfl rfl (Nat.le_of_ble_eq_true rfl) rfl (fun ls hl => ?_)
          refine lv_goto (pc := 46) (tgt := 2) hx hb dX6_comesAsTold_46 (by decide) ?_
          exact ih x2 (x3 + 1) (w.1, w.2.1, u_5.1, u_5.2, w.2.2.2.2.1, w.2.2.2.2.2.1, w.2.2.2.2.2.2.1, w.2.2.2.2.2.2.2) H locs ls hP hS (lv_sub hl [1, 2, 3, 0] rfl) hq
        · have hq := pv_neg c_4 hq
          refine lv_iconst (pc := 29) (v := 0) hx hb dX6_comesAsTold_29 (by decide) ?_
          exact pv_rzRW (w := fun w : pv_XT => pv_wX E a w) hx hb hr hlk hAe hS hP (Option.some.inj hq) rfl dX6_comesAsTold_30
  suffices M0 : ∀ (H : Heap) (locs : List Loc), va_P E.1 vwCl (pv_wX E a w0) H → va_S A s.heap H locs → W p l e r_X6_comesAsTold s m args below meth c H locs 0 0 (MQ below (pv_Rw E (pv_wX E a w0) sz (some (.int F.1)) ((fun w : pv_XT => pv_wX E a w) F.2)) args s 0 0 A) (F0 m 0 ls []) from M0 s.heap [] hP hS
  intro H locs hP hS
  refine lv_iconst (pc := 0) (v := 0) hx hb dX6_comesAsTold_0 (by decide) ?_
  refine lv_istore_n (pc := 1) (lv' := [(3, .int 0), (0, .ref (a 0)), (1, .ref (a 34)), (2, .int x2)]) hx hb dX6_comesAsTold_1 rfl hl (Nat.le_of_ble_eq_true rfl) rfl (fun ls hl => ?_)
  exact L_2 300 x2 0 w0 H locs ls hP hS (lv_sub hl [1, 2, 3, 0] rfl) hq
def m_X6_read_34  (w : pv_XT) : Option (Int32 × pv_XT) :=
  Option.bind (m_X6_finding (-1000000001) w) fun u_4 => (some (u_4.1, u_4.2))
def m_X6_read_116 (k_47 : Int32 → Int32 → Int32 → Int32 → Int32 → pv_XT → Option (Int32 × pv_XT)) (k_57 : Int32 → Int32 → Int32 → Int32 → Int32 → Int32 → pv_XT → Option (Int32 × pv_XT)) (x1 : Int32) (x2 : Int32) (x3 : Int32) (x6 : Int32) (x7 : Int32) (y0 : Int32) (y1 : Int32) (w : pv_XT) : Option (Int32 × pv_XT) :=
  k_57 x1 x2 x3 (y0 + y1) x6 (x7 + 2) w
def m_X6_read_57 (k_47 : Int32 → Int32 → Int32 → Int32 → Int32 → pv_XT → Option (Int32 × pv_XT)) : Nat → Int32 → Int32 → Int32 → Int32 → Int32 → Int32 → pv_XT → Option (Int32 × pv_XT)
  | 0 => fun _ _ _ _ _ _ _ => none
  | n + 1 => fun x1 x2 x3 x5 x6 x7 w =>
    if 31 < x7 then (k_47 x1 x2 x3 x5 (x6 + 1) w) else (Option.bind (m_X4_become (w.2.2.1, w.1)) fun u_8 => (pv_gd x3 8 (pv_gd x1 4 (Option.bind (m_X6_comesAsTold x1.toNatClampNeg x2 (u_8.2, w.2.1, (u_8.1.1, x7, u_8.1.2.2.1, u_8.1.2.2.2.1, u_8.1.2.2.2.2.1, u_8.1.2.2.2.2.2.1, (upd u_8.1.2.2.2.2.2.2.1 x3.toNatClampNeg x6), u_8.1.2.2.2.2.2.2.2), w.2.2.2.1, w.2.2.2.2.1, w.2.2.2.2.2.1, w.2.2.2.2.2.2.1, w.2.2.2.2.2.2.2)) fun u_11 => (if u_11.1 = 0 then (m_X6_read_116 k_47 (m_X6_read_57 k_47 n) x1 x2 x3 x6 x7 x5 0 u_11.2) else (m_X6_read_116 k_47 (m_X6_read_57 k_47 n) x1 x2 x3 x6 x7 x5 1 u_11.2))))))
def m_X6_read_47 : Nat → Int32 → Int32 → Int32 → Int32 → Int32 → pv_XT → Option (Int32 × pv_XT)
  | 0 => fun _ _ _ _ _ _ => none
  | n + 1 => fun x1 x2 x3 x5 x6 w =>
    if 6 ≤ x6 then (some (x5, w)) else (m_X6_read_57 (m_X6_read_47 n) 300 x1 x2 x3 x5 x6 1 w)
def m_X6_read (x1 : Int32) (x2 : Int32) (x3 : Int32) (w : pv_XT) : Option (Int32 × pv_XT) :=
  Option.bind (m_X6_unfitSheet x1 w) fun u_1 => (if u_1 = 0 then (if (m_X6_isState x2) = 0 then (m_X6_read_34 w) else (if (m_X6_isEnvoy x3 w) = 0 then (m_X6_read_34 w) else (m_X6_read_47 300 x1 x2 x3 0 0 w))) else (Option.bind (m_X6_finding u_1 w) fun u_13 => (some (u_13.1, u_13.2))))
abbrev r_X6_read : Room := { frames := 7, cells := 0, slots := 0, locals := 167 }
set_option maxHeartbeats 4000000 in
set_option maxRecDepth 100000 in
theorem c_X6_read (l : Launch) (E : pv_E) (a : Nat → Nat) (x1 : Int32) (x2 : Int32) (x3 : Int32) (w0 : pv_XT) (F : Int32 × pv_XT) (hq : m_X6_read x1 x2 x3 w0 = some F) : pv_RW l E yX6_read wsX6_read r_X6_read (pv_wX E a w0) [.ref (a 0), .int x1, .int x2, .int x3] (some (.int F.1)) (pv_wX E a F.2) := by
  intro sz
  refine pv_mk (by decide) rfl (Nat.le_of_ble_eq_true rfl) ?_
  intro p e s m args below meth c A hx hb hr hml hown hts hlk hAe hP hD0 hA hE hS ls hl
  have hown : s.vm.findClass RX6 = some m.cls := hown
  have hK := hE.1
  have hD : ∀ w : pv_XT, va_D A (pv_wX E a w) := fun w => pv_Dm (ws := pv_wX E a w0) (ws' := pv_wX E a w) rfl hD0
  have hP : va_P E.1 vwCl (pv_wX E a w0) s.heap := hP
  have lc_51 : (Cond.constant RX6 51 (-1000000001)).before args s = true := hts _ (by decide +kernel)
  have fl_19 : (Cond.fieldLink RX6 19 "ProvinceCards" "ahead" "LProvinceCards$Table;").before args s = true := hts _ (by decide +kernel)
  have fl_10 : (Cond.fieldLink RX6 10 "ProvinceCards" "table" "LProvinceCards$Table;").before args s = true := hts _ (by decide +kernel)
  have fl_112 : (Cond.fieldLink RX6 112 "ProvinceCards$Table" "kinds" "[I").before args s = true := hts _ (by decide +kernel)
  have fl_56 : (Cond.fieldLink RX6 56 "ProvinceCards$Table" "mixing" "I").before args s = true := hts _ (by decide +kernel)
  have fl_38 : (Cond.fieldLink RX6 38 "ProvinceCards" "sheets" "[LProvinceCards$Sheet;").before args s = true := hts _ (by decide +kernel)
  have i_RX6 : ∀ w ∈ wsX60, w ∈ wsX6_read := by decide +kernel
  have i_RX4 : ∀ w ∈ wsX40, w ∈ wsX6_read := by decide +kernel
  have hl : lv_has ls 8 [(0, .ref (a 0)), (1, .int x1), (2, .int x2), (3, .int x3)] := hl
  have B_34 : ∀  (w : pv_XT) (H : Heap) (locs : List Loc) (ls : Array Slot), va_P E.1 vwCl (pv_wX E a w) H → va_S A s.heap H locs → lv_has ls 8 [(0, .ref (a 0))] → m_X6_read_34 w = some F → W p l e r_X6_read s m args below meth c H locs 0 0 (MQ below (pv_Rw E (pv_wX E a w0) sz (some (.int F.1)) ((fun w : pv_XT => pv_wX E a w) F.2)) args s 0 0 A) (F0 m 34 ls []) := by
    intro w H locs ls hP hS hl hq
    refine lv_aload_n (pc := 34) hx hb dX6_read_34 rfl (lv_at hl 0 rfl) ?_
    refine lv_ldc (pc := 35) hx hb hown lc_51 dX6_read_35 ?_
    obtain ⟨u_4, hu_4, hq⟩ := pv_bind hq
    refine pv_vRWf (pc := 37) (rest := []) (st1 := [.int u_4.1]) (ws := pv_wX E a w) [.int (-1000000001)] ⟨hx, hb, hml, hown, hts⟩ hE hA hS hP (hD w) (c_X6_finding l E a (-1000000001) w u_4 hu_4) (cwV 1 hts gX6_read_X6_finding rfl rfl rfl (by decide +kernel) ⟨(Nat.le_of_ble_eq_true rfl), (Nat.le_of_ble_eq_true rfl)⟩) (va_recv hK hP (ci := 4) (q0 := 0) rfl rfl) rfl hl.1 rfl rfl (Nat.le_of_ble_eq_true rfl) dX6_read_37 ⟨Nat.zero_le _, Nat.zero_le _⟩ (fun H locs hP hS => ?_)
    have hP : va_P E.1 vwCl (pv_wX E a u_4.2) H := hP
    exact pv_riRW (w := fun w : pv_XT => pv_wX E a w) hx hb hr hlk hAe hS hP (Option.some.inj hq) dX6_read_40
  have B_116_0 : ∀ (k_47 : Int32 → Int32 → Int32 → Int32 → Int32 → pv_XT → Option (Int32 × pv_XT)), (∀ (x1 : Int32) (x2 : Int32) (x3 : Int32) (x5 : Int32) (x6 : Int32) (w : pv_XT) (H : Heap) (locs : List Loc) (ls : Array Slot), va_P E.1 vwCl (pv_wX E a w) H → va_S A s.heap H locs → lv_has ls 8 [(0, .ref (a 0)), (1, .int x1), (2, .int x2), (3, .int x3), (5, .int x5), (6, .int x6)] → k_47 x1 x2 x3 x5 x6 w = some F → W p l e r_X6_read s m args below meth c H locs 0 0 (MQ below (pv_Rw E (pv_wX E a w0) sz (some (.int F.1)) ((fun w : pv_XT => pv_wX E a w) F.2)) args s 0 0 A) (F0 m 47 ls [])) → ∀ (k_57 : Int32 → Int32 → Int32 → Int32 → Int32 → Int32 → pv_XT → Option (Int32 × pv_XT)), (∀ (x1 : Int32) (x2 : Int32) (x3 : Int32) (x5 : Int32) (x6 : Int32) (x7 : Int32) (w : pv_XT) (H : Heap) (locs : List Loc) (ls : Array Slot), va_P E.1 vwCl (pv_wX E a w) H → va_S A s.heap H locs → lv_has ls 8 [(0, .ref (a 0)), (1, .int x1), (2, .int x2), (3, .int x3), (5, .int x5), (6, .int x6), (7, .int x7)] → k_57 x1 x2 x3 x5 x6 x7 w = some F → W p l e r_X6_read s m args below meth c H locs 0 0 (MQ below (pv_Rw E (pv_wX E a w0) sz (some (.int F.1)) ((fun w : pv_XT => pv_wX E a w) F.2)) args s 0 0 A) (F0 m 57 ls [])) → ∀ (x2 : Int32) (x3 : Int32) (x6 : Int32) (x7 : Int32) (y0 : Int32) (y1 : Int32) (w : pv_XT) (H : Heap) (locs : List Loc) (ls : Array Slot), va_P E.1 vwCl (pv_wX E a w) H → va_S A s.heap H locs → lv_has ls 8 [(0, .ref (a 0)), (1, .int 0), (2, .int x2), (3, .int x3), (6, .int x6), (7, .int x7)] → m_X6_read_116 k_47 k_57 0 x2 x3 x6 x7 y0 y1 w = some F → W p l e r_X6_read s m args below meth c H locs 0 0 (MQ below (pv_Rw E (pv_wX E a w0) sz (some (.int F.1)) ((fun w : pv_XT => pv_wX E a w) F.2)) args s 0 0 A) (F0 m 116 ls [.int y1, .int y0]) := by
    intro k_47 hk_47 k_57 hk_57
    intro x2 x3 x6 x7 y0 y1 w H locs ls hP hS hl hq
    refine lv_iadd (pc := 116) hx hb dX6_read_116 ?_
    refine lv_istore (pc := 117) (lv' := [(5, .int (y0 + y1)), (0, .ref (a 0)), (1, .int 0), (2, .int x2), (3, .int x3), (6, .int x6), (7, .int x7)]) hx hb dX6_read_117 hl (Nat.le_of_ble_eq_true rfl) rfl (fun ls hl => ?_)
    refine lv_iinc (pc := 119) (v := (x7 + 2)) (lv' := [(7, .int (x7 + 2)), (5, .int (y0 + y1)), (0, .ref (a 0)), (1, .int 0), (2, .int x2), (3, .int x3), (6, .int x6)]) hx hb dX6_read_119 hl (k := 6) rfl rfl (Nat.le_of_ble_eq_true rfl) rfl (fun ls hl => ?_)
    refine lv_goto (pc := 122) (tgt := 57) hx hb dX6_read_122 (by decide) ?_
    exact hk_57 0 x2 x3 (y0 + y1) x6 (x7 + 2) w H locs ls hP hS (lv_sub hl [2, 3, 4, 5, 1, 6, 0] rfl) hq
  have B_116_1 : ∀ (k_47 : Int32 → Int32 → Int32 → Int32 → Int32 → pv_XT → Option (Int32 × pv_XT)), (∀ (x1 : Int32) (x2 : Int32) (x3 : Int32) (x5 : Int32) (x6 : Int32) (w : pv_XT) (H : Heap) (locs : List Loc) (ls : Array Slot), va_P E.1 vwCl (pv_wX E a w) H → va_S A s.heap H locs → lv_has ls 8 [(0, .ref (a 0)), (1, .int x1), (2, .int x2), (3, .int x3), (5, .int x5), (6, .int x6)] → k_47 x1 x2 x3 x5 x6 w = some F → W p l e r_X6_read s m args below meth c H locs 0 0 (MQ below (pv_Rw E (pv_wX E a w0) sz (some (.int F.1)) ((fun w : pv_XT => pv_wX E a w) F.2)) args s 0 0 A) (F0 m 47 ls [])) → ∀ (k_57 : Int32 → Int32 → Int32 → Int32 → Int32 → Int32 → pv_XT → Option (Int32 × pv_XT)), (∀ (x1 : Int32) (x2 : Int32) (x3 : Int32) (x5 : Int32) (x6 : Int32) (x7 : Int32) (w : pv_XT) (H : Heap) (locs : List Loc) (ls : Array Slot), va_P E.1 vwCl (pv_wX E a w) H → va_S A s.heap H locs → lv_has ls 8 [(0, .ref (a 0)), (1, .int x1), (2, .int x2), (3, .int x3), (5, .int x5), (6, .int x6), (7, .int x7)] → k_57 x1 x2 x3 x5 x6 x7 w = some F → W p l e r_X6_read s m args below meth c H locs 0 0 (MQ below (pv_Rw E (pv_wX E a w0) sz (some (.int F.1)) ((fun w : pv_XT => pv_wX E a w) F.2)) args s 0 0 A) (F0 m 57 ls [])) → ∀ (x2 : Int32) (x3 : Int32) (x6 : Int32) (x7 : Int32) (y0 : Int32) (y1 : Int32) (w : pv_XT) (H : Heap) (locs : List Loc) (ls : Array Slot), va_P E.1 vwCl (pv_wX E a w) H → va_S A s.heap H locs → lv_has ls 8 [(0, .ref (a 0)), (1, .int 1), (2, .int x2), (3, .int x3), (6, .int x6), (7, .int x7)] → m_X6_read_116 k_47 k_57 1 x2 x3 x6 x7 y0 y1 w = some F → W p l e r_X6_read s m args below meth c H locs 0 0 (MQ below (pv_Rw E (pv_wX E a w0) sz (some (.int F.1)) ((fun w : pv_XT => pv_wX E a w) F.2)) args s 0 0 A) (F0 m 116 ls [.int y1, .int y0]) := by
    intro k_47 hk_47 k_57 hk_57
    intro x2 x3 x6 x7 y0 y1 w H locs ls hP hS hl hq
    refine lv_iadd (pc := 116) hx hb dX6_read_116 ?_
    refine lv_istore (pc := 117) (lv' := [(5, .int (y0 + y1)), (0, .ref (a 0)), (1, .int 1), (2, .int x2), (3, .int x3), (6, .int x6), (7, .int x7)]) hx hb dX6_read_117 hl (Nat.le_of_ble_eq_true rfl) rfl (fun ls hl => ?_)
    refine lv_iinc (pc := 119) (v := (x7 + 2)) (lv' := [(7, .int (x7 + 2)), (5, .int (y0 + y1)), (0, .ref (a 0)), (1, .int 1), (2, .int x2), (3, .int x3), (6, .int x6)]) hx hb dX6_read_119 hl (k := 6) rfl rfl (Nat.le_of_ble_eq_true rfl) rfl (fun ls hl => ?_)
    refine lv_goto (pc := 122) (tgt := 57) hx hb dX6_read_122 (by decide) ?_
    exact hk_57 1 x2 x3 (y0 + y1) x6 (x7 + 2) w H locs ls hP hS (lv_sub hl [2, 3, 4, 5, 1, 6, 0] rfl) hq
  have B_116_2 : ∀ (k_47 : Int32 → Int32 → Int32 → Int32 → Int32 → pv_XT → Option (Int32 × pv_XT)), (∀ (x1 : Int32) (x2 : Int32) (x3 : Int32) (x5 : Int32) (x6 : Int32) (w : pv_XT) (H : Heap) (locs : List Loc) (ls : Array Slot), va_P E.1 vwCl (pv_wX E a w) H → va_S A s.heap H locs → lv_has ls 8 [(0, .ref (a 0)), (1, .int x1), (2, .int x2), (3, .int x3), (5, .int x5), (6, .int x6)] → k_47 x1 x2 x3 x5 x6 w = some F → W p l e r_X6_read s m args below meth c H locs 0 0 (MQ below (pv_Rw E (pv_wX E a w0) sz (some (.int F.1)) ((fun w : pv_XT => pv_wX E a w) F.2)) args s 0 0 A) (F0 m 47 ls [])) → ∀ (k_57 : Int32 → Int32 → Int32 → Int32 → Int32 → Int32 → pv_XT → Option (Int32 × pv_XT)), (∀ (x1 : Int32) (x2 : Int32) (x3 : Int32) (x5 : Int32) (x6 : Int32) (x7 : Int32) (w : pv_XT) (H : Heap) (locs : List Loc) (ls : Array Slot), va_P E.1 vwCl (pv_wX E a w) H → va_S A s.heap H locs → lv_has ls 8 [(0, .ref (a 0)), (1, .int x1), (2, .int x2), (3, .int x3), (5, .int x5), (6, .int x6), (7, .int x7)] → k_57 x1 x2 x3 x5 x6 x7 w = some F → W p l e r_X6_read s m args below meth c H locs 0 0 (MQ below (pv_Rw E (pv_wX E a w0) sz (some (.int F.1)) ((fun w : pv_XT => pv_wX E a w) F.2)) args s 0 0 A) (F0 m 57 ls [])) → ∀ (x2 : Int32) (x3 : Int32) (x6 : Int32) (x7 : Int32) (y0 : Int32) (y1 : Int32) (w : pv_XT) (H : Heap) (locs : List Loc) (ls : Array Slot), va_P E.1 vwCl (pv_wX E a w) H → va_S A s.heap H locs → lv_has ls 8 [(0, .ref (a 0)), (1, .int 2), (2, .int x2), (3, .int x3), (6, .int x6), (7, .int x7)] → m_X6_read_116 k_47 k_57 2 x2 x3 x6 x7 y0 y1 w = some F → W p l e r_X6_read s m args below meth c H locs 0 0 (MQ below (pv_Rw E (pv_wX E a w0) sz (some (.int F.1)) ((fun w : pv_XT => pv_wX E a w) F.2)) args s 0 0 A) (F0 m 116 ls [.int y1, .int y0]) := by
    intro k_47 hk_47 k_57 hk_57
    intro x2 x3 x6 x7 y0 y1 w H locs ls hP hS hl hq
    refine lv_iadd (pc := 116) hx hb dX6_read_116 ?_
    refine lv_istore (pc := 117) (lv' := [(5, .int (y0 + y1)), (0, .ref (a 0)), (1, .int 2), (2, .int x2), (3, .int x3), (6, .int x6), (7, .int x7)]) hx hb dX6_read_117 hl (Nat.le_of_ble_eq_true rfl) rfl (fun ls hl => ?_)
    refine lv_iinc (pc := 119) (v := (x7 + 2)) (lv' := [(7, .int (x7 + 2)), (5, .int (y0 + y1)), (0, .ref (a 0)), (1, .int 2), (2, .int x2), (3, .int x3), (6, .int x6)]) hx hb dX6_read_119 hl (k := 6) rfl rfl (Nat.le_of_ble_eq_true rfl) rfl (fun ls hl => ?_)
    refine lv_goto (pc := 122) (tgt := 57) hx hb dX6_read_122 (by decide) ?_
    exact hk_57 2 x2 x3 (y0 + y1) x6 (x7 + 2) w H locs ls hP hS (lv_sub hl [2, 3, 4, 5, 1, 6, 0] rfl) hq
  have B_116_3 : ∀ (k_47 : Int32 → Int32 → Int32 → Int32 → Int32 → pv_XT → Option (Int32 × pv_XT)), (∀ (x1 : Int32) (x2 : Int32) (x3 : Int32) (x5 : Int32) (x6 : Int32) (w : pv_XT) (H : Heap) (locs : List Loc) (ls : Array Slot), va_P E.1 vwCl (pv_wX E a w) H → va_S A s.heap H locs → lv_has ls 8 [(0, .ref (a 0)), (1, .int x1), (2, .int x2), (3, .int x3), (5, .int x5), (6, .int x6)] → k_47 x1 x2 x3 x5 x6 w = some F → W p l e r_X6_read s m args below meth c H locs 0 0 (MQ below (pv_Rw E (pv_wX E a w0) sz (some (.int F.1)) ((fun w : pv_XT => pv_wX E a w) F.2)) args s 0 0 A) (F0 m 47 ls [])) → ∀ (k_57 : Int32 → Int32 → Int32 → Int32 → Int32 → Int32 → pv_XT → Option (Int32 × pv_XT)), (∀ (x1 : Int32) (x2 : Int32) (x3 : Int32) (x5 : Int32) (x6 : Int32) (x7 : Int32) (w : pv_XT) (H : Heap) (locs : List Loc) (ls : Array Slot), va_P E.1 vwCl (pv_wX E a w) H → va_S A s.heap H locs → lv_has ls 8 [(0, .ref (a 0)), (1, .int x1), (2, .int x2), (3, .int x3), (5, .int x5), (6, .int x6), (7, .int x7)] → k_57 x1 x2 x3 x5 x6 x7 w = some F → W p l e r_X6_read s m args below meth c H locs 0 0 (MQ below (pv_Rw E (pv_wX E a w0) sz (some (.int F.1)) ((fun w : pv_XT => pv_wX E a w) F.2)) args s 0 0 A) (F0 m 57 ls [])) → ∀ (x2 : Int32) (x3 : Int32) (x6 : Int32) (x7 : Int32) (y0 : Int32) (y1 : Int32) (w : pv_XT) (H : Heap) (locs : List Loc) (ls : Array Slot), va_P E.1 vwCl (pv_wX E a w) H → va_S A s.heap H locs → lv_has ls 8 [(0, .ref (a 0)), (1, .int 3), (2, .int x2), (3, .int x3), (6, .int x6), (7, .int x7)] → m_X6_read_116 k_47 k_57 3 x2 x3 x6 x7 y0 y1 w = some F → W p l e r_X6_read s m args below meth c H locs 0 0 (MQ below (pv_Rw E (pv_wX E a w0) sz (some (.int F.1)) ((fun w : pv_XT => pv_wX E a w) F.2)) args s 0 0 A) (F0 m 116 ls [.int y1, .int y0]) := by
    intro k_47 hk_47 k_57 hk_57
    intro x2 x3 x6 x7 y0 y1 w H locs ls hP hS hl hq
    refine lv_iadd (pc := 116) hx hb dX6_read_116 ?_
    refine lv_istore (pc := 117) (lv' := [(5, .int (y0 + y1)), (0, .ref (a 0)), (1, .int 3), (2, .int x2), (3, .int x3), (6, .int x6), (7, .int x7)]) hx hb dX6_read_117 hl (Nat.le_of_ble_eq_true rfl) rfl (fun ls hl => ?_)
    refine lv_iinc (pc := 119) (v := (x7 + 2)) (lv' := [(7, .int (x7 + 2)), (5, .int (y0 + y1)), (0, .ref (a 0)), (1, .int 3), (2, .int x2), (3, .int x3), (6, .int x6)]) hx hb dX6_read_119 hl (k := 6) rfl rfl (Nat.le_of_ble_eq_true rfl) rfl (fun ls hl => ?_)
    refine lv_goto (pc := 122) (tgt := 57) hx hb dX6_read_122 (by decide) ?_
    exact hk_57 3 x2 x3 (y0 + y1) x6 (x7 + 2) w H locs ls hP hS (lv_sub hl [2, 3, 4, 5, 1, 6, 0] rfl) hq
  have L_57 : ∀ (k_47 : Int32 → Int32 → Int32 → Int32 → Int32 → pv_XT → Option (Int32 × pv_XT)), (∀ (x1 : Int32) (x2 : Int32) (x3 : Int32) (x5 : Int32) (x6 : Int32) (w : pv_XT) (H : Heap) (locs : List Loc) (ls : Array Slot), va_P E.1 vwCl (pv_wX E a w) H → va_S A s.heap H locs → lv_has ls 8 [(0, .ref (a 0)), (1, .int x1), (2, .int x2), (3, .int x3), (5, .int x5), (6, .int x6)] → k_47 x1 x2 x3 x5 x6 w = some F → W p l e r_X6_read s m args below meth c H locs 0 0 (MQ below (pv_Rw E (pv_wX E a w0) sz (some (.int F.1)) ((fun w : pv_XT => pv_wX E a w) F.2)) args s 0 0 A) (F0 m 47 ls [])) → ∀ n : Nat, ∀ (x1 : Int32) (x2 : Int32) (x3 : Int32) (x5 : Int32) (x6 : Int32) (x7 : Int32) (w : pv_XT) (H : Heap) (locs : List Loc) (ls : Array Slot), va_P E.1 vwCl (pv_wX E a w) H → va_S A s.heap H locs → lv_has ls 8 [(0, .ref (a 0)), (1, .int x1), (2, .int x2), (3, .int x3), (5, .int x5), (6, .int x6), (7, .int x7)] → m_X6_read_57 k_47 n x1 x2 x3 x5 x6 x7 w = some F → W p l e r_X6_read s m args below meth c H locs 0 0 (MQ below (pv_Rw E (pv_wX E a w0) sz (some (.int F.1)) ((fun w : pv_XT => pv_wX E a w) F.2)) args s 0 0 A) (F0 m 57 ls []) := by
    intro k_47 hk_47
    intro n
    induction n with
    | zero =>
      intro x1 x2 x3 x5 x6 x7 w H locs ls hP hS hl hq
      exact (pv_no hq).elim
    | succ n ih =>
      intro x1 x2 x3 x5 x6 x7 w H locs ls hP hS hl hq
      refine lv_iload (pc := 57) hx hb dX6_read_57 (lv_at hl 6 rfl) ?_
      refine lv_bipush (pc := 59) (v := 31) hx hb dX6_read_59 (by decide) ?_
      refine lv_icmp_gt (pc := 61) (tgt := 125) hx hb dX6_read_61 (by decide) (fun c_7 => ?_) (fun c_7 => ?_)
      · have hq := pv_pos c_7 hq
        refine lv_iinc (pc := 125) (v := (x6 + 1)) (lv' := [(6, .int (x6 + 1)), (0, .ref (a 0)), (1, .int x1), (2, .int x2), (3, .int x3), (5, .int x5), (7, .int x7)]) hx hb dX6_read_125 hl (k := 5) rfl rfl (Nat.le_of_ble_eq_true rfl) rfl (fun ls hl => ?_)
        refine lv_goto (pc := 128) (tgt := 47) hx hb dX6_read_128 (by decide) ?_
        exact hk_47 x1 x2 x3 x5 (x6 + 1) w H locs ls hP hS (lv_sub hl [1, 2, 3, 4, 5, 0] rfl) hq
      · have hq := pv_neg c_7 hq
        refine lv_aload_n (pc := 64) hx hb dX6_read_64 rfl (lv_at hl 0 rfl) ?_
        refine va_get (pc := 65) (D := E.1) (ci := 4) (v := .ref (a 13)) (C := RX6) (T := TX6) (N := 8) hx hb hts i_RX6 hown hK hP 0 rfl rfl 2 (Nat.le_of_ble_eq_true rfl) fl_19 (fun _ h9 => h9) rfl dX6_read_65 ?_
        refine lv_aload_n (pc := 68) hx hb dX6_read_68 rfl (lv_at hl 0 rfl) ?_
        refine va_get (pc := 69) (D := E.1) (ci := 4) (v := .ref (a 1)) (C := RX6) (T := TX6) (N := 8) hx hb hts i_RX6 hown hK hP 0 rfl rfl 0 (Nat.le_of_ble_eq_true rfl) fl_10 (fun _ h9 => h9) rfl dX6_read_69 ?_
        obtain ⟨u_8, hu_8, hq⟩ := pv_bind hq
        refine pv_vRW (pc := 72) (rest := []) (st1 := []) (ws := pv_wX E a w) (ws' := pv_wX E a (u_8.2, w.2.1, u_8.1, w.2.2.2.1, w.2.2.2.2.1, w.2.2.2.2.2.1, w.2.2.2.2.2.2.1, w.2.2.2.2.2.2.2)) [.ref (a 1)] ⟨hx, hb, hml, hown, hts⟩ hE hA hS hP (hD w) (c_X4_become l E (a 13) (a 14) (a 15) (a 16) (a 17) (a 18) (a 1) (a 2) (a 3) (a 4) (a 5) (a 6) (w.2.2.1, w.1) u_8 hu_8) (cwV 1 hts gX6_read_X4_become rfl rfl rfl (by decide +kernel) ⟨(Nat.le_of_ble_eq_true rfl), (Nat.le_of_ble_eq_true rfl)⟩) (va_recv hK hP (ci := 2) (q0 := 13) rfl rfl) [13, 14, 15, 16, 17, 18, 1, 2, 3, 4, 5, 6] rfl rfl rfl rfl rfl hl.1 rfl rfl (Nat.le_of_ble_eq_true rfl) dX6_read_72 ⟨Nat.zero_le _, Nat.zero_le _⟩ (fun H locs hP hS => ?_)
        refine lv_aload_n (pc := 75) hx hb dX6_read_75 rfl (lv_at hl 0 rfl) ?_
        refine va_get (pc := 76) (D := E.1) (ci := 4) (v := .ref (a 13)) (C := RX6) (T := TX6) (N := 8) hx hb hts i_RX6 hown hK hP 0 rfl rfl 2 (Nat.le_of_ble_eq_true rfl) fl_19 (fun _ h9 => h9) rfl dX6_read_76 ?_
        refine va_get (pc := 79) (D := E.1) (ci := 2) (v := .ref (a 17)) (C := RX4) (T := TX4) (N := 8) hx hb hts i_RX4 hown hK hP 13 rfl rfl 6 (Nat.le_of_ble_eq_true rfl) fl_112 (fun _ h9 => h9) rfl dX6_read_79 ?_
        refine lv_iload_n (pc := 82) hx hb dX6_read_82 rfl (lv_at hl 3 rfl) ?_
        refine lv_iload (pc := 83) hx hb dX6_read_83 (lv_at hl 5 rfl) ?_
        obtain ⟨h_9, hq⟩ := pv_gd_some hq
        refine va_iast (pc := 85) (D := E.1) hx hb hK hP (hD (u_8.2, w.2.1, u_8.1, w.2.2.2.1, w.2.2.2.2.1, w.2.2.2.2.2.1, w.2.2.2.2.2.2.1, w.2.2.2.2.2.2.2)) hS 17 0 rfl rfl h_9 dX6_read_85 (fun H locs hP _ hS => ?_)
        have hP : va_P E.1 vwCl (pv_wX E a (u_8.2, w.2.1, (u_8.1.1, u_8.1.2.1, u_8.1.2.2.1, u_8.1.2.2.2.1, u_8.1.2.2.2.2.1, u_8.1.2.2.2.2.2.1, (upd u_8.1.2.2.2.2.2.2.1 x3.toNatClampNeg x6), u_8.1.2.2.2.2.2.2.2), w.2.2.2.1, w.2.2.2.2.1, w.2.2.2.2.2.1, w.2.2.2.2.2.2.1, w.2.2.2.2.2.2.2)) H := hP
        refine lv_aload_n (pc := 86) hx hb dX6_read_86 rfl (lv_at hl 0 rfl) ?_
        refine va_get (pc := 87) (D := E.1) (ci := 4) (v := .ref (a 13)) (C := RX6) (T := TX6) (N := 8) hx hb hts i_RX6 hown hK hP 0 rfl rfl 2 (Nat.le_of_ble_eq_true rfl) fl_19 (fun _ h9 => h9) rfl dX6_read_87 ?_
        refine lv_iload (pc := 90) hx hb dX6_read_90 (lv_at hl 6 rfl) ?_
        refine va_put (pc := 92) (D := E.1) (ci := 2) (v := .int x7) (ty := .int) (C := RX4) (T := TX4) (N := 8) hx hb hts i_RX4 tyX4 tyX4_ok nmX4 hown hK hP (hD (u_8.2, w.2.1, (u_8.1.1, u_8.1.2.1, u_8.1.2.2.1, u_8.1.2.2.2.1, u_8.1.2.2.2.2.1, u_8.1.2.2.2.2.2.1, (upd u_8.1.2.2.2.2.2.2.1 x3.toNatClampNeg x6), u_8.1.2.2.2.2.2.2.2), w.2.2.2.1, w.2.2.2.2.1, w.2.2.2.2.2.1, w.2.2.2.2.2.2.1, w.2.2.2.2.2.2.2)) hS 13 rfl rfl 1 (Nat.le_of_ble_eq_true rfl) fl_56 (fun _ h9 => h9) rfl (tyX4_ok 1 (Nat.le_of_ble_eq_true rfl)) rfl rfl (Nat.le_of_ble_eq_true rfl) dX6_read_92 (fun H locs hP _ hS => ?_)
        have hP : va_P E.1 vwCl (pv_wX E a (u_8.2, w.2.1, (u_8.1.1, x7, u_8.1.2.2.1, u_8.1.2.2.2.1, u_8.1.2.2.2.2.1, u_8.1.2.2.2.2.2.1, (upd u_8.1.2.2.2.2.2.2.1 x3.toNatClampNeg x6), u_8.1.2.2.2.2.2.2.2), w.2.2.2.1, w.2.2.2.2.1, w.2.2.2.2.2.1, w.2.2.2.2.2.2.1, w.2.2.2.2.2.2.2)) H := hP
        refine lv_iload (pc := 95) hx hb dX6_read_95 (lv_at hl 4 rfl) ?_
        refine lv_aload_n (pc := 97) hx hb dX6_read_97 rfl (lv_at hl 0 rfl) ?_
        refine lv_aload_n (pc := 98) hx hb dX6_read_98 rfl (lv_at hl 0 rfl) ?_
        refine va_get (pc := 99) (D := E.1) (ci := 4) (v := .ref (a 27)) (C := RX6) (T := TX6) (N := 8) hx hb hts i_RX6 hown hK hP 0 rfl rfl 5 (Nat.le_of_ble_eq_true rfl) fl_38 (fun _ h9 => h9) rfl dX6_read_99 ?_
        refine lv_iload_n (pc := 102) hx hb dX6_read_102 rfl (lv_at hl 1 rfl) ?_
        obtain ⟨h_10, hq⟩ := pv_gd_some hq
        rcases pv_sh4 h_10 with rfl | rfl | rfl | rfl
        · rw [pv_cl0] at hq
          have hl : lv_has ls 8 [(0, .ref (a 0)), (1, .int 0), (2, .int x2), (3, .int x3), (5, .int x5), (6, .int x6), (7, .int x7)] := hl
          refine va_aldq (pc := 103) (D := E.1) hx hb hK hP 27 2 rfl rfl h_10 dX6_read_103 ?_
          refine W.eq (g2 := F0 m 104 ls [.ref (a 28), .ref (a 0), .int x5]) rfl ?_
          refine lv_iload_n (pc := 104) hx hb dX6_read_104 rfl (lv_at hl 2 rfl) ?_
          obtain ⟨u_11, hu_11, hq⟩ := pv_bind hq
          refine pv_vRWf (pc := 105) (rest := [.int x5]) (st1 := [.int u_11.1, .int x5]) (ws := pv_wX E a (u_8.2, w.2.1, (u_8.1.1, x7, u_8.1.2.2.1, u_8.1.2.2.2.1, u_8.1.2.2.2.2.1, u_8.1.2.2.2.2.2.1, (upd u_8.1.2.2.2.2.2.2.1 x3.toNatClampNeg x6), u_8.1.2.2.2.2.2.2.2), w.2.2.2.1, w.2.2.2.2.1, w.2.2.2.2.2.1, w.2.2.2.2.2.2.1, w.2.2.2.2.2.2.2)) [.ref (a 28), .int x2] ⟨hx, hb, hml, hown, hts⟩ hE hA hS hP (hD (u_8.2, w.2.1, (u_8.1.1, x7, u_8.1.2.2.1, u_8.1.2.2.2.1, u_8.1.2.2.2.2.1, u_8.1.2.2.2.2.2.1, (upd u_8.1.2.2.2.2.2.2.1 x3.toNatClampNeg x6), u_8.1.2.2.2.2.2.2.2), w.2.2.2.1, w.2.2.2.2.1, w.2.2.2.2.2.1, w.2.2.2.2.2.2.1, w.2.2.2.2.2.2.2)) (c_X6_comesAsTold_0 l E a x2 (u_8.2, w.2.1, (u_8.1.1, x7, u_8.1.2.2.1, u_8.1.2.2.2.1, u_8.1.2.2.2.2.1, u_8.1.2.2.2.2.2.1, (upd u_8.1.2.2.2.2.2.2.1 x3.toNatClampNeg x6), u_8.1.2.2.2.2.2.2.2), w.2.2.2.1, w.2.2.2.2.1, w.2.2.2.2.2.1, w.2.2.2.2.2.2.1, w.2.2.2.2.2.2.2) u_11 hu_11) (cwV 2 hts gX6_read_X6_comesAsTold rfl rfl rfl (by decide +kernel) ⟨(Nat.le_of_ble_eq_true rfl), (Nat.le_of_ble_eq_true rfl)⟩) (va_recv hK hP (ci := 4) (q0 := 0) rfl rfl) rfl hl.1 rfl rfl (Nat.le_of_ble_eq_true rfl) dX6_read_105 ⟨Nat.zero_le _, Nat.zero_le _⟩ (fun H locs hP hS => ?_)
          have hP : va_P E.1 vwCl (pv_wX E a u_11.2) H := hP
          refine lv_if_eq (pc := 108) (tgt := 115) hx hb dX6_read_108 (by decide) (fun c_12 => ?_) (fun c_12 => ?_)
          · have hq := pv_pos c_12 hq
            refine lv_iconst (pc := 115) (v := 0) hx hb dX6_read_115 (by decide) ?_
            exact B_116_0 k_47 hk_47 (m_X6_read_57 k_47 n) ih x2 x3 x6 x7 x5 0 u_11.2 H locs ls hP hS (lv_sub hl [0, 1, 2, 3, 5, 6] rfl) hq
          · have hq := pv_neg c_12 hq
            refine lv_iconst (pc := 111) (v := 1) hx hb dX6_read_111 (by decide) ?_
            refine lv_goto (pc := 112) (tgt := 116) hx hb dX6_read_112 (by decide) ?_
            exact B_116_0 k_47 hk_47 (m_X6_read_57 k_47 n) ih x2 x3 x6 x7 x5 1 u_11.2 H locs ls hP hS (lv_sub hl [0, 1, 2, 3, 5, 6] rfl) hq
        · rw [pv_cl1] at hq
          have hl : lv_has ls 8 [(0, .ref (a 0)), (1, .int 1), (2, .int x2), (3, .int x3), (5, .int x5), (6, .int x6), (7, .int x7)] := hl
          refine va_aldq (pc := 103) (D := E.1) hx hb hK hP 27 2 rfl rfl h_10 dX6_read_103 ?_
          refine W.eq (g2 := F0 m 104 ls [.ref (a 30), .ref (a 0), .int x5]) rfl ?_
          refine lv_iload_n (pc := 104) hx hb dX6_read_104 rfl (lv_at hl 2 rfl) ?_
          obtain ⟨u_13, hu_13, hq⟩ := pv_bind hq
          refine pv_vRWf (pc := 105) (rest := [.int x5]) (st1 := [.int u_13.1, .int x5]) (ws := pv_wX E a (u_8.2, w.2.1, (u_8.1.1, x7, u_8.1.2.2.1, u_8.1.2.2.2.1, u_8.1.2.2.2.2.1, u_8.1.2.2.2.2.2.1, (upd u_8.1.2.2.2.2.2.2.1 x3.toNatClampNeg x6), u_8.1.2.2.2.2.2.2.2), w.2.2.2.1, w.2.2.2.2.1, w.2.2.2.2.2.1, w.2.2.2.2.2.2.1, w.2.2.2.2.2.2.2)) [.ref (a 30), .int x2] ⟨hx, hb, hml, hown, hts⟩ hE hA hS hP (hD (u_8.2, w.2.1, (u_8.1.1, x7, u_8.1.2.2.1, u_8.1.2.2.2.1, u_8.1.2.2.2.2.1, u_8.1.2.2.2.2.2.1, (upd u_8.1.2.2.2.2.2.2.1 x3.toNatClampNeg x6), u_8.1.2.2.2.2.2.2.2), w.2.2.2.1, w.2.2.2.2.1, w.2.2.2.2.2.1, w.2.2.2.2.2.2.1, w.2.2.2.2.2.2.2)) (c_X6_comesAsTold_1 l E a x2 (u_8.2, w.2.1, (u_8.1.1, x7, u_8.1.2.2.1, u_8.1.2.2.2.1, u_8.1.2.2.2.2.1, u_8.1.2.2.2.2.2.1, (upd u_8.1.2.2.2.2.2.2.1 x3.toNatClampNeg x6), u_8.1.2.2.2.2.2.2.2), w.2.2.2.1, w.2.2.2.2.1, w.2.2.2.2.2.1, w.2.2.2.2.2.2.1, w.2.2.2.2.2.2.2) u_13 hu_13) (cwV 2 hts gX6_read_X6_comesAsTold rfl rfl rfl (by decide +kernel) ⟨(Nat.le_of_ble_eq_true rfl), (Nat.le_of_ble_eq_true rfl)⟩) (va_recv hK hP (ci := 4) (q0 := 0) rfl rfl) rfl hl.1 rfl rfl (Nat.le_of_ble_eq_true rfl) dX6_read_105 ⟨Nat.zero_le _, Nat.zero_le _⟩ (fun H locs hP hS => ?_)
          have hP : va_P E.1 vwCl (pv_wX E a u_13.2) H := hP
          refine lv_if_eq (pc := 108) (tgt := 115) hx hb dX6_read_108 (by decide) (fun c_14 => ?_) (fun c_14 => ?_)
          · have hq := pv_pos c_14 hq
            refine lv_iconst (pc := 115) (v := 0) hx hb dX6_read_115 (by decide) ?_
            exact B_116_1 k_47 hk_47 (m_X6_read_57 k_47 n) ih x2 x3 x6 x7 x5 0 u_13.2 H locs ls hP hS (lv_sub hl [0, 1, 2, 3, 5, 6] rfl) hq
          · have hq := pv_neg c_14 hq
            refine lv_iconst (pc := 111) (v := 1) hx hb dX6_read_111 (by decide) ?_
            refine lv_goto (pc := 112) (tgt := 116) hx hb dX6_read_112 (by decide) ?_
            exact B_116_1 k_47 hk_47 (m_X6_read_57 k_47 n) ih x2 x3 x6 x7 x5 1 u_13.2 H locs ls hP hS (lv_sub hl [0, 1, 2, 3, 5, 6] rfl) hq
        · rw [pv_cl2] at hq
          have hl : lv_has ls 8 [(0, .ref (a 0)), (1, .int 2), (2, .int x2), (3, .int x3), (5, .int x5), (6, .int x6), (7, .int x7)] := hl
          refine va_aldq (pc := 103) (D := E.1) hx hb hK hP 27 2 rfl rfl h_10 dX6_read_103 ?_
          refine W.eq (g2 := F0 m 104 ls [.ref (a 32), .ref (a 0), .int x5]) rfl ?_
          refine lv_iload_n (pc := 104) hx hb dX6_read_104 rfl (lv_at hl 2 rfl) ?_
          obtain ⟨u_15, hu_15, hq⟩ := pv_bind hq
          refine pv_vRWf (pc := 105) (rest := [.int x5]) (st1 := [.int u_15.1, .int x5]) (ws := pv_wX E a (u_8.2, w.2.1, (u_8.1.1, x7, u_8.1.2.2.1, u_8.1.2.2.2.1, u_8.1.2.2.2.2.1, u_8.1.2.2.2.2.2.1, (upd u_8.1.2.2.2.2.2.2.1 x3.toNatClampNeg x6), u_8.1.2.2.2.2.2.2.2), w.2.2.2.1, w.2.2.2.2.1, w.2.2.2.2.2.1, w.2.2.2.2.2.2.1, w.2.2.2.2.2.2.2)) [.ref (a 32), .int x2] ⟨hx, hb, hml, hown, hts⟩ hE hA hS hP (hD (u_8.2, w.2.1, (u_8.1.1, x7, u_8.1.2.2.1, u_8.1.2.2.2.1, u_8.1.2.2.2.2.1, u_8.1.2.2.2.2.2.1, (upd u_8.1.2.2.2.2.2.2.1 x3.toNatClampNeg x6), u_8.1.2.2.2.2.2.2.2), w.2.2.2.1, w.2.2.2.2.1, w.2.2.2.2.2.1, w.2.2.2.2.2.2.1, w.2.2.2.2.2.2.2)) (c_X6_comesAsTold_2 l E a x2 (u_8.2, w.2.1, (u_8.1.1, x7, u_8.1.2.2.1, u_8.1.2.2.2.1, u_8.1.2.2.2.2.1, u_8.1.2.2.2.2.2.1, (upd u_8.1.2.2.2.2.2.2.1 x3.toNatClampNeg x6), u_8.1.2.2.2.2.2.2.2), w.2.2.2.1, w.2.2.2.2.1, w.2.2.2.2.2.1, w.2.2.2.2.2.2.1, w.2.2.2.2.2.2.2) u_15 hu_15) (cwV 2 hts gX6_read_X6_comesAsTold rfl rfl rfl (by decide +kernel) ⟨(Nat.le_of_ble_eq_true rfl), (Nat.le_of_ble_eq_true rfl)⟩) (va_recv hK hP (ci := 4) (q0 := 0) rfl rfl) rfl hl.1 rfl rfl (Nat.le_of_ble_eq_true rfl) dX6_read_105 ⟨Nat.zero_le _, Nat.zero_le _⟩ (fun H locs hP hS => ?_)
          have hP : va_P E.1 vwCl (pv_wX E a u_15.2) H := hP
          refine lv_if_eq (pc := 108) (tgt := 115) hx hb dX6_read_108 (by decide) (fun c_16 => ?_) (fun c_16 => ?_)
          · have hq := pv_pos c_16 hq
            refine lv_iconst (pc := 115) (v := 0) hx hb dX6_read_115 (by decide) ?_
            exact B_116_2 k_47 hk_47 (m_X6_read_57 k_47 n) ih x2 x3 x6 x7 x5 0 u_15.2 H locs ls hP hS (lv_sub hl [0, 1, 2, 3, 5, 6] rfl) hq
          · have hq := pv_neg c_16 hq
            refine lv_iconst (pc := 111) (v := 1) hx hb dX6_read_111 (by decide) ?_
            refine lv_goto (pc := 112) (tgt := 116) hx hb dX6_read_112 (by decide) ?_
            exact B_116_2 k_47 hk_47 (m_X6_read_57 k_47 n) ih x2 x3 x6 x7 x5 1 u_15.2 H locs ls hP hS (lv_sub hl [0, 1, 2, 3, 5, 6] rfl) hq
        · rw [pv_cl3] at hq
          have hl : lv_has ls 8 [(0, .ref (a 0)), (1, .int 3), (2, .int x2), (3, .int x3), (5, .int x5), (6, .int x6), (7, .int x7)] := hl
          refine va_aldq (pc := 103) (D := E.1) hx hb hK hP 27 2 rfl rfl h_10 dX6_read_103 ?_
          refine W.eq (g2 := F0 m 104 ls [.ref (a 34), .ref (a 0), .int x5]) rfl ?_
          refine lv_iload_n (pc := 104) hx hb dX6_read_104 rfl (lv_at hl 2 rfl) ?_
          obtain ⟨u_17, hu_17, hq⟩ := pv_bind hq
          refine pv_vRWf (pc := 105) (rest := [.int x5]) (st1 := [.int u_17.1, .int x5]) (ws := pv_wX E a (u_8.2, w.2.1, (u_8.1.1, x7, u_8.1.2.2.1, u_8.1.2.2.2.1, u_8.1.2.2.2.2.1, u_8.1.2.2.2.2.2.1, (upd u_8.1.2.2.2.2.2.2.1 x3.toNatClampNeg x6), u_8.1.2.2.2.2.2.2.2), w.2.2.2.1, w.2.2.2.2.1, w.2.2.2.2.2.1, w.2.2.2.2.2.2.1, w.2.2.2.2.2.2.2)) [.ref (a 34), .int x2] ⟨hx, hb, hml, hown, hts⟩ hE hA hS hP (hD (u_8.2, w.2.1, (u_8.1.1, x7, u_8.1.2.2.1, u_8.1.2.2.2.1, u_8.1.2.2.2.2.1, u_8.1.2.2.2.2.2.1, (upd u_8.1.2.2.2.2.2.2.1 x3.toNatClampNeg x6), u_8.1.2.2.2.2.2.2.2), w.2.2.2.1, w.2.2.2.2.1, w.2.2.2.2.2.1, w.2.2.2.2.2.2.1, w.2.2.2.2.2.2.2)) (c_X6_comesAsTold_3 l E a x2 (u_8.2, w.2.1, (u_8.1.1, x7, u_8.1.2.2.1, u_8.1.2.2.2.1, u_8.1.2.2.2.2.1, u_8.1.2.2.2.2.2.1, (upd u_8.1.2.2.2.2.2.2.1 x3.toNatClampNeg x6), u_8.1.2.2.2.2.2.2.2), w.2.2.2.1, w.2.2.2.2.1, w.2.2.2.2.2.1, w.2.2.2.2.2.2.1, w.2.2.2.2.2.2.2) u_17 hu_17) (cwV 2 hts gX6_read_X6_comesAsTold rfl rfl rfl (by decide +kernel) ⟨(Nat.le_of_ble_eq_true rfl), (Nat.le_of_ble_eq_true rfl)⟩) (va_recv hK hP (ci := 4) (q0 := 0) rfl rfl) rfl hl.1 rfl rfl (Nat.le_of_ble_eq_true rfl) dX6_read_105 ⟨Nat.zero_le _, Nat.zero_le _⟩ (fun H locs hP hS => ?_)
          have hP : va_P E.1 vwCl (pv_wX E a u_17.2) H := hP
          refine lv_if_eq (pc := 108) (tgt := 115) hx hb dX6_read_108 (by decide) (fun c_18 => ?_) (fun c_18 => ?_)
          · have hq := pv_pos c_18 hq
            refine lv_iconst (pc := 115) (v := 0) hx hb dX6_read_115 (by decide) ?_
            exact B_116_3 k_47 hk_47 (m_X6_read_57 k_47 n) ih x2 x3 x6 x7 x5 0 u_17.2 H locs ls hP hS (lv_sub hl [0, 1, 2, 3, 5, 6] rfl) hq
          · have hq := pv_neg c_18 hq
            refine lv_iconst (pc := 111) (v := 1) hx hb dX6_read_111 (by decide) ?_
            refine lv_goto (pc := 112) (tgt := 116) hx hb dX6_read_112 (by decide) ?_
            exact B_116_3 k_47 hk_47 (m_X6_read_57 k_47 n) ih x2 x3 x6 x7 x5 1 u_17.2 H locs ls hP hS (lv_sub hl [0, 1, 2, 3, 5, 6] rfl) hq
  have L_47 : ∀ n : Nat, ∀ (x1 : Int32) (x2 : Int32) (x3 : Int32) (x5 : Int32) (x6 : Int32) (w : pv_XT) (H : Heap) (locs : List Loc) (ls : Array Slot), va_P E.1 vwCl (pv_wX E a w) H → va_S A s.heap H locs → lv_has ls 8 [(0, .ref (a 0)), (1, .int x1), (2, .int x2), (3, .int x3), (5, .int x5), (6, .int x6)] → m_X6_read_47 n x1 x2 x3 x5 x6 w = some F → W p l e r_X6_read s m args below meth c H locs 0 0 (MQ below (pv_Rw E (pv_wX E a w0) sz (some (.int F.1)) ((fun w : pv_XT => pv_wX E a w) F.2)) args s 0 0 A) (F0 m 47 ls []) := by
    intro n
    induction n with
    | zero =>
      intro x1 x2 x3 x5 x6 w H locs ls hP hS hl hq
      exact (pv_no hq).elim
    | succ n ih =>
      intro x1 x2 x3 x5 x6 w H locs ls hP hS hl hq
      refine lv_iload (pc := 47) hx hb dX6_read_47 (lv_at hl 5 rfl) ?_
      refine lv_bipush (pc := 49) (v := 6) hx hb dX6_read_49 (by decide) ?_
      refine lv_icmp_ge (pc := 51) (tgt := 131) hx hb dX6_read_51 (by decide) (fun c_6 => ?_) (fun c_6 => ?_)
      · have hq := pv_pos c_6 hq
        refine lv_iload (pc := 131) hx hb dX6_read_131 (lv_at hl 4 rfl) ?_
        exact pv_riRW (w := fun w : pv_XT => pv_wX E a w) hx hb hr hlk hAe hS hP (Option.some.inj hq) dX6_read_133
      · have hq := pv_neg c_6 hq
        refine lv_iconst (pc := 54) (v := 1) hx hb dX6_read_54 (by decide) ?_
        refine lv_istore (pc := 55) (lv' := [(7, .int 1), (0, .ref (a 0)), (1, .int x1), (2, .int x2), (3, .int x3), (5, .int x5), (6, .int x6)]) hx hb dX6_read_55 hl (Nat.le_of_ble_eq_true rfl) rfl (fun ls hl => ?_)
        exact L_57 (m_X6_read_47 n) ih 300 x1 x2 x3 x5 x6 1 w H locs ls hP hS (lv_sub hl [1, 2, 3, 4, 5, 6, 0] rfl) hq
  suffices M0 : ∀ (H : Heap) (locs : List Loc), va_P E.1 vwCl (pv_wX E a w0) H → va_S A s.heap H locs → W p l e r_X6_read s m args below meth c H locs 0 0 (MQ below (pv_Rw E (pv_wX E a w0) sz (some (.int F.1)) ((fun w : pv_XT => pv_wX E a w) F.2)) args s 0 0 A) (F0 m 0 ls []) from M0 s.heap [] hP hS
  intro H locs hP hS
  refine lv_aload_n (pc := 0) hx hb dX6_read_0 rfl (lv_at hl 0 rfl) ?_
  refine lv_iload_n (pc := 1) hx hb dX6_read_1 rfl (lv_at hl 1 rfl) ?_
  obtain ⟨u_1, hu_1, hq⟩ := pv_bind hq
  refine pv_vROf (pc := 2) (rest := []) (st1 := [.int u_1]) (ws := pv_wX E a w0) [.int x1] ⟨hx, hb, hml, hown, hts⟩ hE hA hS hP (hD w0) (c_X6_unfitSheet l E a x1 w0 u_1 hu_1) (cwV 1 hts gX6_read_X6_unfitSheet rfl rfl rfl (by decide +kernel) ⟨(Nat.le_of_ble_eq_true rfl), (Nat.le_of_ble_eq_true rfl)⟩) (va_recv hK hP (ci := 4) (q0 := 0) rfl rfl) rfl hl.1 rfl rfl (Nat.le_of_ble_eq_true rfl) dX6_read_2 ⟨Nat.zero_le _, Nat.zero_le _⟩ (fun locs hS => ?_)
  refine lv_istore (pc := 5) (lv' := [(4, .int u_1), (0, .ref (a 0)), (1, .int x1), (2, .int x2), (3, .int x3)]) hx hb dX6_read_5 hl (Nat.le_of_ble_eq_true rfl) rfl (fun ls hl => ?_)
  refine lv_iload (pc := 7) hx hb dX6_read_7 (lv_at hl 0 rfl) ?_
  refine lv_if_eq (pc := 9) (tgt := 19) hx hb dX6_read_9 (by decide) (fun c_2 => ?_) (fun c_2 => ?_)
  · have hq := pv_pos c_2 hq
    refine lv_iload_n (pc := 19) hx hb dX6_read_19 rfl (lv_at hl 3 rfl) ?_
    refine pv_sRO (pc := 20) (rest := []) (st1 := [.int (m_X6_isState x2)]) (ws := pv_wX E a w0) [.int x2] ⟨hx, hb, hml, hown, hts⟩ hE hA hS hP (hD w0) (c_X6_isState l E x2) (va_cwS 1 hts gX6_read_X6_isState rfl rfl rfl (by decide +kernel) ⟨(Nat.le_of_ble_eq_true rfl), (Nat.le_of_ble_eq_true rfl)⟩) [] rfl rfl rfl hl.1 rfl rfl (Nat.le_of_ble_eq_true rfl) dX6_read_20 ⟨Nat.zero_le _, Nat.zero_le _⟩ (fun locs hS => ?_)
    refine lv_if_eq (pc := 23) (tgt := 34) hx hb dX6_read_23 (by decide) (fun c_3 => ?_) (fun c_3 => ?_)
    · have hq := pv_pos c_3 hq
      exact B_34 w0 H locs ls hP hS (lv_sub hl [1] rfl) hq
    · have hq := pv_neg c_3 hq
      refine lv_aload_n (pc := 26) hx hb dX6_read_26 rfl (lv_at hl 1 rfl) ?_
      refine lv_iload_n (pc := 27) hx hb dX6_read_27 rfl (lv_at hl 4 rfl) ?_
      refine pv_vROf (pc := 28) (rest := []) (st1 := [.int (m_X6_isEnvoy x3 w0)]) (ws := pv_wX E a w0) [.int x3] ⟨hx, hb, hml, hown, hts⟩ hE hA hS hP (hD w0) (c_X6_isEnvoy l E a x3 w0) (cwV 1 hts gX6_read_X6_isEnvoy rfl rfl rfl (by decide +kernel) ⟨(Nat.le_of_ble_eq_true rfl), (Nat.le_of_ble_eq_true rfl)⟩) (va_recv hK hP (ci := 4) (q0 := 0) rfl rfl) rfl hl.1 rfl rfl (Nat.le_of_ble_eq_true rfl) dX6_read_28 ⟨Nat.zero_le _, Nat.zero_le _⟩ (fun locs hS => ?_)
      refine lv_if_ne (pc := 31) (tgt := 41) hx hb dX6_read_31 (by decide) (fun c_5 => ?_) (fun c_5 => ?_)
      · have hq := pv_neg c_5 hq
        refine lv_iconst (pc := 41) (v := 0) hx hb dX6_read_41 (by decide) ?_
        refine lv_istore (pc := 42) (lv' := [(5, .int 0), (4, .int u_1), (0, .ref (a 0)), (1, .int x1), (2, .int x2), (3, .int x3)]) hx hb dX6_read_42 hl (Nat.le_of_ble_eq_true rfl) rfl (fun ls hl => ?_)
        refine lv_iconst (pc := 44) (v := 0) hx hb dX6_read_44 (by decide) ?_
        refine lv_istore (pc := 45) (lv' := [(6, .int 0), (5, .int 0), (4, .int u_1), (0, .ref (a 0)), (1, .int x1), (2, .int x2), (3, .int x3)]) hx hb dX6_read_45 hl (Nat.le_of_ble_eq_true rfl) rfl (fun ls hl => ?_)
        exact L_47 300 x1 x2 x3 0 0 w0 H locs ls hP hS (lv_sub hl [3, 4, 5, 6, 1, 0] rfl) hq
      · have hq := pv_pos c_5 hq
        exact B_34 w0 H locs ls hP hS (lv_sub hl [1] rfl) hq
  · have hq := pv_neg c_2 hq
    refine lv_aload_n (pc := 12) hx hb dX6_read_12 rfl (lv_at hl 1 rfl) ?_
    refine lv_iload (pc := 13) hx hb dX6_read_13 (lv_at hl 0 rfl) ?_
    obtain ⟨u_19, hu_19, hq⟩ := pv_bind hq
    refine pv_vRWf (pc := 15) (rest := []) (st1 := [.int u_19.1]) (ws := pv_wX E a w0) [.int u_1] ⟨hx, hb, hml, hown, hts⟩ hE hA hS hP (hD w0) (c_X6_finding l E a u_1 w0 u_19 hu_19) (cwV 1 hts gX6_read_X6_finding rfl rfl rfl (by decide +kernel) ⟨(Nat.le_of_ble_eq_true rfl), (Nat.le_of_ble_eq_true rfl)⟩) (va_recv hK hP (ci := 4) (q0 := 0) rfl rfl) rfl hl.1 rfl rfl (Nat.le_of_ble_eq_true rfl) dX6_read_15 ⟨Nat.zero_le _, Nat.zero_le _⟩ (fun H locs hP hS => ?_)
    have hP : va_P E.1 vwCl (pv_wX E a u_19.2) H := hP
    exact pv_riRW (w := fun w : pv_XT => pv_wX E a w) hx hb hr hlk hAe hS hP (Option.some.inj hq) dX6_read_18
