def m_X1_tricksOfFirst_24 (k_4 : Int32 → Int32 → pv_GT → Option (Int32)) (x2 : Int32) (y0 : Int32) (y1 : Int32) (w : pv_GT) : Option (Int32) :=
  k_4 (y0 + y1) (x2 + 1) w
def m_X1_tricksOfFirst_4 : Nat → Int32 → Int32 → pv_GT → Option (Int32)
  | 0 => fun _ _ _ => none
  | n + 1 => fun x1 x2 w =>
    if 4 ≤ x2 then (some x1) else (pv_gd x2 4 (if (w.2.2.2.2 x2.toNatClampNeg) = 0 then (m_X1_tricksOfFirst_24 (m_X1_tricksOfFirst_4 n) x2 x1 1 w) else (m_X1_tricksOfFirst_24 (m_X1_tricksOfFirst_4 n) x2 x1 0 w)))
def m_X1_tricksOfFirst  (w : pv_GT) : Option (Int32) :=
  m_X1_tricksOfFirst_4 300 0 0 w
abbrev r_X1_tricksOfFirst : Room := { frames := 0, cells := 0, slots := 0, locals := 0 }
set_option maxHeartbeats 4000000 in
set_option maxRecDepth 100000 in
theorem c_X1_tricksOfFirst (l : Launch) (E : pv_E) (g0 g1 g2 g3 g4 g5 : Nat)  (w : pv_GT) (F : Int32) (hq : m_X1_tricksOfFirst w = some F) : pv_RO l E yX1_tricksOfFirst wsX1_tricksOfFirst r_X1_tricksOfFirst (pv_wG E g0 g1 g2 g3 g4 g5 w) [.ref g0] (some (.int F)) := by
  intro sz
  refine pv_mk (by decide) rfl (Nat.le_of_ble_eq_true rfl) ?_
  intro p e s m args below meth c A hx hb hr hml hown hts hlk hAe hP hD0 hA hE hS ls hl
  have hown : s.vm.findClass RX1 = some m.cls := hown
  have hK := hE.1
  have hD := hD0
  have fl_24 : (Cond.fieldLink RX1 24 "ProvinceCards$Game" "winner" "[I").before args s = true := hts _ (by decide +kernel)
  have i_RX1 : ∀ w ∈ wsX10, w ∈ wsX1_tricksOfFirst := by decide +kernel
  have hl : lv_has ls 3 [(0, .ref g0)] := hl
  have B_24 : ∀ (k_4 : Int32 → Int32 → pv_GT → Option (Int32)), (∀ (x1 : Int32) (x2 : Int32) (locs : List Loc) (ls : Array Slot), va_S A s.heap s.heap locs → lv_has ls 3 [(0, .ref g0), (1, .int x1), (2, .int x2)] → k_4 x1 x2 w = some F → W p l e r_X1_tricksOfFirst s m args below meth c s.heap locs 0 0 (MQ below (pv_Ro (some (.int F))) args s 0 0 A) (F0 m 4 ls [])) → ∀ (x2 : Int32) (y0 : Int32) (y1 : Int32) (locs : List Loc) (ls : Array Slot), va_S A s.heap s.heap locs → lv_has ls 3 [(0, .ref g0), (2, .int x2)] → m_X1_tricksOfFirst_24 k_4 x2 y0 y1 w = some F → W p l e r_X1_tricksOfFirst s m args below meth c s.heap locs 0 0 (MQ below (pv_Ro (some (.int F))) args s 0 0 A) (F0 m 24 ls [.int y1, .int y0]) := by
    intro k_4 hk_4
    intro x2 y0 y1 locs ls hS hl hq
    refine lv_iadd (pc := 24) hx hb dX1_tricksOfFirst_24 ?_
    refine lv_istore_n (pc := 25) (lv' := [(1, .int (y0 + y1)), (0, .ref g0), (2, .int x2)]) hx hb dX1_tricksOfFirst_25 rfl hl (Nat.le_of_ble_eq_true rfl) rfl (fun ls hl => ?_)
    refine lv_iinc (pc := 26) (v := (x2 + 1)) (lv' := [(2, .int (x2 + 1)), (1, .int (y0 + y1)), (0, .ref g0)]) hx hb dX1_tricksOfFirst_26 hl (k := 2) rfl rfl (Nat.le_of_ble_eq_true rfl) rfl (fun ls hl => ?_)
    refine lv_goto (pc := 29) (tgt := 4) hx hb dX1_tricksOfFirst_29 (by decide) ?_
    exact hk_4 (y0 + y1) (x2 + 1) locs ls hS (lv_sub hl [2, 1, 0] rfl) hq
  have L_4 : ∀ n : Nat, ∀ (x1 : Int32) (x2 : Int32) (locs : List Loc) (ls : Array Slot), va_S A s.heap s.heap locs → lv_has ls 3 [(0, .ref g0), (1, .int x1), (2, .int x2)] → m_X1_tricksOfFirst_4 n x1 x2 w = some F → W p l e r_X1_tricksOfFirst s m args below meth c s.heap locs 0 0 (MQ below (pv_Ro (some (.int F))) args s 0 0 A) (F0 m 4 ls []) := by
    intro n
    induction n with
    | zero =>
      intro x1 x2 locs ls hS hl hq
      exact (pv_no hq).elim
    | succ n ih =>
      intro x1 x2 locs ls hS hl hq
      refine lv_iload_n (pc := 4) hx hb dX1_tricksOfFirst_4 rfl (lv_at hl 2 rfl) ?_
      refine lv_iconst (pc := 5) (v := 4) hx hb dX1_tricksOfFirst_5 (by decide) ?_
      refine lv_icmp_ge (pc := 6) (tgt := 32) hx hb dX1_tricksOfFirst_6 (by decide) (fun c_1 => ?_) (fun c_1 => ?_)
      · have hq := pv_pos c_1 hq
        refine lv_iload_n (pc := 32) hx hb dX1_tricksOfFirst_32 rfl (lv_at hl 1 rfl) ?_
        exact pv_riRO hx hb hr hlk hS (Option.some.inj hq) dX1_tricksOfFirst_33
      · have hq := pv_neg c_1 hq
        refine lv_iload_n (pc := 9) hx hb dX1_tricksOfFirst_9 rfl (lv_at hl 1 rfl) ?_
        refine lv_aload_n (pc := 10) hx hb dX1_tricksOfFirst_10 rfl (lv_at hl 0 rfl) ?_
        refine va_get (pc := 11) (D := E.1) (ci := 0) (v := .ref g5) (C := RX1) (T := TX1) (N := 5) hx hb hts i_RX1 hown hK hP 0 rfl rfl 4 (Nat.le_of_ble_eq_true rfl) fl_24 (fun _ h9 => h9) rfl dX1_tricksOfFirst_11 ?_
        refine lv_iload_n (pc := 14) hx hb dX1_tricksOfFirst_14 rfl (lv_at hl 2 rfl) ?_
        obtain ⟨h_2, hq⟩ := pv_gd_some hq
        refine va_iald (pc := 15) (D := E.1) hx hb hK hP 5 0 rfl rfl h_2 dX1_tricksOfFirst_15 ?_
        refine lv_if_ne (pc := 16) (tgt := 23) hx hb dX1_tricksOfFirst_16 (by decide) (fun c_3 => ?_) (fun c_3 => ?_)
        · have hq := pv_neg c_3 hq
          refine lv_iconst (pc := 23) (v := 0) hx hb dX1_tricksOfFirst_23 (by decide) ?_
          exact B_24 (m_X1_tricksOfFirst_4 n) ih x2 x1 0 locs ls hS (lv_sub hl [0, 2] rfl) hq
        · have hq := pv_pos c_3 hq
          refine lv_iconst (pc := 19) (v := 1) hx hb dX1_tricksOfFirst_19 (by decide) ?_
          refine lv_goto (pc := 20) (tgt := 24) hx hb dX1_tricksOfFirst_20 (by decide) ?_
          exact B_24 (m_X1_tricksOfFirst_4 n) ih x2 x1 1 locs ls hS (lv_sub hl [0, 2] rfl) hq
  suffices M0 : ∀ (locs : List Loc), va_S A s.heap s.heap locs → W p l e r_X1_tricksOfFirst s m args below meth c s.heap locs 0 0 (MQ below (pv_Ro (some (.int F))) args s 0 0 A) (F0 m 0 ls []) from M0 [] hS
  intro locs hS
  refine lv_iconst (pc := 0) (v := 0) hx hb dX1_tricksOfFirst_0 (by decide) ?_
  refine lv_istore_n (pc := 1) (lv' := [(1, .int 0), (0, .ref g0)]) hx hb dX1_tricksOfFirst_1 rfl hl (Nat.le_of_ble_eq_true rfl) rfl (fun ls hl => ?_)
  refine lv_iconst (pc := 2) (v := 0) hx hb dX1_tricksOfFirst_2 (by decide) ?_
  refine lv_istore_n (pc := 3) (lv' := [(2, .int 0), (1, .int 0), (0, .ref g0)]) hx hb dX1_tricksOfFirst_3 rfl hl (Nat.le_of_ble_eq_true rfl) rfl (fun ls hl => ?_)
  exact L_4 300 0 0 locs ls hS (lv_sub hl [2, 1, 0] rfl) hq
def m_X1_victor  (w : pv_GT) : Option (Int32) :=
  Option.bind (m_X1_tricksOfFirst w) fun u_1 => (if u_1 = 2 then (some (-1)) else (if u_1 ≤ 2 then (some 1) else (some 0)))
abbrev r_X1_victor : Room := { frames := 1, cells := 0, slots := 0, locals := 22 }
set_option maxHeartbeats 4000000 in
set_option maxRecDepth 100000 in
theorem c_X1_victor (l : Launch) (E : pv_E) (g0 g1 g2 g3 g4 g5 : Nat)  (w : pv_GT) (F : Int32) (hq : m_X1_victor w = some F) : pv_RO l E yX1_victor wsX1_victor r_X1_victor (pv_wG E g0 g1 g2 g3 g4 g5 w) [.ref g0] (some (.int F)) := by
  intro sz
  refine pv_mk (by decide) rfl (Nat.le_of_ble_eq_true rfl) ?_
  intro p e s m args below meth c A hx hb hr hml hown hts hlk hAe hP hD0 hA hE hS ls hl
  have hown : s.vm.findClass RX1 = some m.cls := hown
  have hK := hE.1
  have hD := hD0
  have hl : lv_has ls 2 [(0, .ref g0)] := hl
  suffices M0 : ∀ (locs : List Loc), va_S A s.heap s.heap locs → W p l e r_X1_victor s m args below meth c s.heap locs 0 0 (MQ below (pv_Ro (some (.int F))) args s 0 0 A) (F0 m 0 ls []) from M0 [] hS
  intro locs hS
  refine lv_aload_n (pc := 0) hx hb dX1_victor_0 rfl (lv_at hl 0 rfl) ?_
  obtain ⟨u_1, hu_1, hq⟩ := pv_bind hq
  refine pv_vROf (pc := 1) (rest := []) (st1 := [.int u_1]) (ws := pv_wG E g0 g1 g2 g3 g4 g5 w) [] ⟨hx, hb, hml, hown, hts⟩ hE hA hS hP hD (c_X1_tricksOfFirst l E g0 g1 g2 g3 g4 g5 w u_1 hu_1) (cwV 0 hts gX1_victor_X1_tricksOfFirst rfl rfl rfl (by decide +kernel) ⟨(Nat.le_of_ble_eq_true rfl), (Nat.le_of_ble_eq_true rfl)⟩) (va_recv hK hP (ci := 0) (q0 := 0) rfl rfl) rfl hl.1 rfl rfl (Nat.le_of_ble_eq_true rfl) dX1_victor_1 ⟨Nat.zero_le _, Nat.zero_le _⟩ (fun locs hS => ?_)
  refine lv_istore_n (pc := 4) (lv' := [(1, .int u_1), (0, .ref g0)]) hx hb dX1_victor_4 rfl hl (Nat.le_of_ble_eq_true rfl) rfl (fun ls hl => ?_)
  refine lv_iload_n (pc := 5) hx hb dX1_victor_5 rfl (lv_at hl 0 rfl) ?_
  refine lv_iconst (pc := 6) (v := 2) hx hb dX1_victor_6 (by decide) ?_
  refine lv_icmp_ne (pc := 7) (tgt := 12) hx hb dX1_victor_7 (by decide) (fun c_2 => ?_) (fun c_2 => ?_)
  · have hq := pv_neg c_2 hq
    refine lv_iload_n (pc := 12) hx hb dX1_victor_12 rfl (lv_at hl 0 rfl) ?_
    refine lv_iconst (pc := 13) (v := 2) hx hb dX1_victor_13 (by decide) ?_
    refine lv_icmp_le (pc := 14) (tgt := 21) hx hb dX1_victor_14 (by decide) (fun c_3 => ?_) (fun c_3 => ?_)
    · have hq := pv_pos c_3 hq
      refine lv_iconst (pc := 21) (v := 1) hx hb dX1_victor_21 (by decide) ?_
      exact pv_riRO hx hb hr hlk hS (Option.some.inj hq) dX1_victor_22
    · have hq := pv_neg c_3 hq
      refine lv_iconst (pc := 17) (v := 0) hx hb dX1_victor_17 (by decide) ?_
      refine lv_goto (pc := 18) (tgt := 22) hx hb dX1_victor_18 (by decide) ?_
      exact pv_riRO hx hb hr hlk hS (Option.some.inj hq) dX1_victor_22
  · have hq := pv_pos c_2 hq
    refine lv_iconst (pc := 10) (v := (-1)) hx hb dX1_victor_10 (by decide) ?_
    exact pv_riRO hx hb hr hlk hS (Option.some.inj hq) dX1_victor_11
def m_X1_playTrick_146 (x2 : Int32) (x3 : Int32) (x4 : Int32) (x5 : Int32) (x7 : Int32) (x9 : Int32) (y1 : Int32) (y2 : Int32) (w : pv_TT × pv_GT) : Option (pv_TT × pv_GT) :=
  pv_gd y1 4 (pv_gd x2 4 (if (m_X0_beating ((1 : Int32) <<< (x9 &&& 31)) x7 x5) = 0 then (pv_gd x2 4 (some (w.1, (w.2.1, w.2.2.1, (upd w.2.2.2.1 y1.toNatClampNeg y2), (upd w.2.2.2.2.1 x2.toNatClampNeg x3), (upd w.2.2.2.2.2 x2.toNatClampNeg x3))))) else (pv_gd x2 4 (some (w.1, (w.2.1, w.2.2.1, (upd w.2.2.2.1 y1.toNatClampNeg y2), (upd w.2.2.2.2.1 x2.toNatClampNeg x3), (upd w.2.2.2.2.2 x2.toNatClampNeg x4)))))))
def m_X1_playTrick_129 (x2 : Int32) (x3 : Int32) (x4 : Int32) (x5 : Int32) (x7 : Int32) (x9 : Int32) (y1 : Int32) (y2 : Int32) (w : pv_TT × pv_GT) : Option (pv_TT × pv_GT) :=
  pv_gd y1 4 (if x3 = 0 then (m_X1_playTrick_146 x2 x3 x4 x5 x7 x9 x2 x9 (w.1, (w.2.1, (upd w.2.2.1 y1.toNatClampNeg y2), w.2.2.2.1, w.2.2.2.2.1, w.2.2.2.2.2))) else (m_X1_playTrick_146 x2 x3 x4 x5 x7 x9 x2 x7 (w.1, (w.2.1, (upd w.2.2.1 y1.toNatClampNeg y2), w.2.2.2.1, w.2.2.2.2.1, w.2.2.2.2.2))))
def m_X1_playTrick (x2 : Int32) (x3 : Int32) (w : pv_TT × pv_GT) : Option (pv_TT × pv_GT) :=
  pv_gd (1 - x3) 2 (pv_gd (w.1.2.2.2.2.2.1 (1 - x3).toNatClampNeg) 8 (pv_gd x3 2 (pv_gd (w.1.2.2.2.2.2.1 x3.toNatClampNeg) 8 (pv_gd x3 2 (Option.bind (m_X2_lead (w.1.2.2.2.2.2.2.1 (w.1.2.2.2.2.2.1 x3.toNatClampNeg).toNatClampNeg) (w.2.1 x3.toNatClampNeg) (m_X4_trump w.1)) fun u_6 => (pv_gd (1 - x3) 2 (Option.bind (m_X2_mayPlay (w.1.2.2.2.2.2.2.1 (w.1.2.2.2.2.2.1 (1 - x3).toNatClampNeg).toNatClampNeg) (w.2.1 (1 - x3).toNatClampNeg) u_6 w.1.1) fun u_8 => (Option.bind (m_X2_follow (w.1.2.2.2.2.2.2.1 (w.1.2.2.2.2.2.1 (1 - x3).toNatClampNeg).toNatClampNeg) u_8 u_6 (m_X4_trump w.1)) fun u_9 => (pv_gd x3 2 (pv_gd x3 2 (pv_gd (1 - x3) 2 (pv_gd (1 - x3) 2 (if x3 = 0 then (m_X1_playTrick_129 x2 x3 (1 - x3) (m_X4_trump w.1) u_6 u_9 x2 u_6 (w.1, ((upd (upd w.2.1 x3.toNatClampNeg ((w.2.1 x3.toNatClampNeg) &&& (((1 : Int32) <<< (u_6 &&& 31)) ^^^ (-1)))) (1 - x3).toNatClampNeg (((upd w.2.1 x3.toNatClampNeg ((w.2.1 x3.toNatClampNeg) &&& (((1 : Int32) <<< (u_6 &&& 31)) ^^^ (-1)))) (1 - x3).toNatClampNeg) &&& (((1 : Int32) <<< (u_9 &&& 31)) ^^^ (-1)))), w.2.2.1, w.2.2.2.1, w.2.2.2.2.1, w.2.2.2.2.2))) else (m_X1_playTrick_129 x2 x3 (1 - x3) (m_X4_trump w.1) u_6 u_9 x2 u_9 (w.1, ((upd (upd w.2.1 x3.toNatClampNeg ((w.2.1 x3.toNatClampNeg) &&& (((1 : Int32) <<< (u_6 &&& 31)) ^^^ (-1)))) (1 - x3).toNatClampNeg (((upd w.2.1 x3.toNatClampNeg ((w.2.1 x3.toNatClampNeg) &&& (((1 : Int32) <<< (u_6 &&& 31)) ^^^ (-1)))) (1 - x3).toNatClampNeg) &&& (((1 : Int32) <<< (u_9 &&& 31)) ^^^ (-1)))), w.2.2.1, w.2.2.2.1, w.2.2.2.2.1, w.2.2.2.2.2))))))))))))))))
abbrev r_X1_playTrick : Room := { frames := 3, cells := 0, slots := 0, locals := 69 }
set_option maxHeartbeats 4000000 in
set_option maxRecDepth 100000 in
theorem c_X1_playTrick (l : Launch) (E : pv_E) (a0 a1 a2 a3 a4 a5 g0 g1 g2 g3 g4 g5 : Nat) (x2 : Int32) (x3 : Int32) (w0 : pv_TT × pv_GT) (F : pv_TT × pv_GT) (hq : m_X1_playTrick x2 x3 w0 = some F) : pv_RW l E yX1_playTrick wsX1_playTrick r_X1_playTrick (pv_wT E a0 a1 a2 a3 a4 a5 w0.1 ++ pv_wG E g0 g1 g2 g3 g4 g5 w0.2) [.ref g0, .ref a0, .int x2, .int x3] (none) (pv_wT E a0 a1 a2 a3 a4 a5 F.1 ++ pv_wG E g0 g1 g2 g3 g4 g5 F.2) := by
  intro sz
  refine pv_mk (by decide) rfl (Nat.le_of_ble_eq_true rfl) ?_
  intro p e s m args below meth c A hx hb hr hml hown hts hlk hAe hP hD0 hA hE hS ls hl
  have hown : s.vm.findClass RX1 = some m.cls := hown
  have hK := hE.1
  have hD : ∀ w : pv_TT × pv_GT, va_D A (pv_wT E a0 a1 a2 a3 a4 a5 w.1 ++ pv_wG E g0 g1 g2 g3 g4 g5 w.2) := fun w => pv_Dm (ws := pv_wT E a0 a1 a2 a3 a4 a5 w0.1 ++ pv_wG E g0 g1 g2 g3 g4 g5 w0.2) (ws' := pv_wT E a0 a1 a2 a3 a4 a5 w.1 ++ pv_wG E g0 g1 g2 g3 g4 g5 w.2) rfl hD0
  have hP : va_P E.1 vwCl (pv_wT E a0 a1 a2 a3 a4 a5 w0.1 ++ pv_wG E g0 g1 g2 g3 g4 g5 w0.2) s.heap := hP
  have fl_45 : (Cond.fieldLink RX1 45 "ProvinceCards$Table" "kinds" "[I").before args s = true := hts _ (by decide +kernel)
  have fl_48 : (Cond.fieldLink RX1 48 "ProvinceCards$Table" "sent" "[I").before args s = true := hts _ (by decide +kernel)
  have fl_9 : (Cond.fieldLink RX1 9 "ProvinceCards$Game" "hands" "[I").before args s = true := hts _ (by decide +kernel)
  have fl_33 : (Cond.fieldLink RX1 33 "ProvinceCards$Table" "month" "I").before args s = true := hts _ (by decide +kernel)
  have fl_15 : (Cond.fieldLink RX1 15 "ProvinceCards$Game" "played0" "[I").before args s = true := hts _ (by decide +kernel)
  have fl_18 : (Cond.fieldLink RX1 18 "ProvinceCards$Game" "played1" "[I").before args s = true := hts _ (by decide +kernel)
  have fl_21 : (Cond.fieldLink RX1 21 "ProvinceCards$Game" "leader" "[I").before args s = true := hts _ (by decide +kernel)
  have fl_24 : (Cond.fieldLink RX1 24 "ProvinceCards$Game" "winner" "[I").before args s = true := hts _ (by decide +kernel)
  have i_RX4 : ∀ w ∈ wsX40, w ∈ wsX1_playTrick := by decide +kernel
  have i_RX1 : ∀ w ∈ wsX10, w ∈ wsX1_playTrick := by decide +kernel
  have hl : lv_has ls 10 [(0, .ref g0), (1, .ref a0), (2, .int x2), (3, .int x3)] := hl
  have B_146 : ∀ (x2 : Int32) (x3 : Int32) (x4 : Int32) (x5 : Int32) (x7 : Int32) (x9 : Int32) (y1 : Int32) (y2 : Int32) (w : pv_TT × pv_GT) (H : Heap) (locs : List Loc) (ls : Array Slot), va_P E.1 vwCl (pv_wT E a0 a1 a2 a3 a4 a5 w.1 ++ pv_wG E g0 g1 g2 g3 g4 g5 w.2) H → va_S A s.heap H locs → lv_has ls 10 [(0, .ref g0), (2, .int x2), (3, .int x3), (4, .int x4), (5, .int x5), (7, .int x7), (9, .int x9)] → m_X1_playTrick_146 x2 x3 x4 x5 x7 x9 y1 y2 w = some F → W p l e r_X1_playTrick s m args below meth c H locs 0 0 (MQ below (pv_Rw E (pv_wT E a0 a1 a2 a3 a4 a5 w0.1 ++ pv_wG E g0 g1 g2 g3 g4 g5 w0.2) sz (none) ((fun w : pv_TT × pv_GT => pv_wT E a0 a1 a2 a3 a4 a5 w.1 ++ pv_wG E g0 g1 g2 g3 g4 g5 w.2) F)) args s 0 0 A) (F0 m 146 ls [.int y2, .int y1, .ref g3]) := by
    intro x2 x3 x4 x5 x7 x9 y1 y2 w H locs ls hP hS hl hq
    obtain ⟨h_17, hq⟩ := pv_gd_some hq
    refine va_iast (pc := 146) (D := E.1) hx hb hK hP (hD w) hS 9 0 rfl rfl h_17 dX1_playTrick_146 (fun H locs hP _ hS => ?_)
    have hP : va_P E.1 vwCl (pv_wT E a0 a1 a2 a3 a4 a5 ((w.1, (w.2.1, w.2.2.1, (upd w.2.2.2.1 y1.toNatClampNeg y2), w.2.2.2.2.1, w.2.2.2.2.2)).1) ++ pv_wG E g0 g1 g2 g3 g4 g5 ((w.1, (w.2.1, w.2.2.1, (upd w.2.2.2.1 y1.toNatClampNeg y2), w.2.2.2.2.1, w.2.2.2.2.2)).2)) H := hP
    refine lv_aload_n (pc := 147) hx hb dX1_playTrick_147 rfl (lv_at hl 0 rfl) ?_
    refine va_get (pc := 148) (D := E.1) (ci := 0) (v := .ref g4) (C := RX1) (T := TX1) (N := 5) hx hb hts i_RX1 hown hK hP 6 rfl rfl 3 (Nat.le_of_ble_eq_true rfl) fl_21 (fun _ h9 => h9) rfl dX1_playTrick_148 ?_
    refine lv_iload_n (pc := 151) hx hb dX1_playTrick_151 rfl (lv_at hl 1 rfl) ?_
    refine lv_iload_n (pc := 152) hx hb dX1_playTrick_152 rfl (lv_at hl 2 rfl) ?_
    obtain ⟨h_18, hq⟩ := pv_gd_some hq
    refine va_iast (pc := 153) (D := E.1) hx hb hK hP (hD (w.1, (w.2.1, w.2.2.1, (upd w.2.2.2.1 y1.toNatClampNeg y2), w.2.2.2.2.1, w.2.2.2.2.2))) hS 10 0 rfl rfl h_18 dX1_playTrick_153 (fun H locs hP _ hS => ?_)
    have hP : va_P E.1 vwCl (pv_wT E a0 a1 a2 a3 a4 a5 ((w.1, (w.2.1, w.2.2.1, (upd w.2.2.2.1 y1.toNatClampNeg y2), (upd w.2.2.2.2.1 x2.toNatClampNeg x3), w.2.2.2.2.2)).1) ++ pv_wG E g0 g1 g2 g3 g4 g5 ((w.1, (w.2.1, w.2.2.1, (upd w.2.2.2.1 y1.toNatClampNeg y2), (upd w.2.2.2.2.1 x2.toNatClampNeg x3), w.2.2.2.2.2)).2)) H := hP
    refine lv_aload_n (pc := 154) hx hb dX1_playTrick_154 rfl (lv_at hl 0 rfl) ?_
    refine va_get (pc := 155) (D := E.1) (ci := 0) (v := .ref g5) (C := RX1) (T := TX1) (N := 5) hx hb hts i_RX1 hown hK hP 6 rfl rfl 4 (Nat.le_of_ble_eq_true rfl) fl_24 (fun _ h9 => h9) rfl dX1_playTrick_155 ?_
    refine lv_iload_n (pc := 158) hx hb dX1_playTrick_158 rfl (lv_at hl 1 rfl) ?_
    refine lv_iconst (pc := 159) (v := 1) hx hb dX1_playTrick_159 (by decide) ?_
    refine lv_iload (pc := 160) hx hb dX1_playTrick_160 (lv_at hl 6 rfl) ?_
    refine lv_ishl (pc := 162) hx hb dX1_playTrick_162 ?_
    refine lv_iload (pc := 163) hx hb dX1_playTrick_163 (lv_at hl 5 rfl) ?_
    refine lv_iload (pc := 165) hx hb dX1_playTrick_165 (lv_at hl 4 rfl) ?_
    refine pv_sRO (pc := 167) (rest := [.int x2, .ref g5]) (st1 := [.int (m_X0_beating ((1 : Int32) <<< (x9 &&& 31)) x7 x5), .int x2, .ref g5]) (ws := pv_wT E a0 a1 a2 a3 a4 a5 ((w.1, (w.2.1, w.2.2.1, (upd w.2.2.2.1 y1.toNatClampNeg y2), (upd w.2.2.2.2.1 x2.toNatClampNeg x3), w.2.2.2.2.2)).1) ++ pv_wG E g0 g1 g2 g3 g4 g5 ((w.1, (w.2.1, w.2.2.1, (upd w.2.2.2.1 y1.toNatClampNeg y2), (upd w.2.2.2.2.1 x2.toNatClampNeg x3), w.2.2.2.2.2)).2)) [.int ((1 : Int32) <<< (x9 &&& 31)), .int x7, .int x5] ⟨hx, hb, hml, hown, hts⟩ hE hA hS hP (hD (w.1, (w.2.1, w.2.2.1, (upd w.2.2.2.1 y1.toNatClampNeg y2), (upd w.2.2.2.2.1 x2.toNatClampNeg x3), w.2.2.2.2.2))) (c_X0_beating l E ((1 : Int32) <<< (x9 &&& 31)) x7 x5) (va_cwS 3 hts gX1_playTrick_X0_beating rfl rfl rfl (by decide +kernel) ⟨(Nat.le_of_ble_eq_true rfl), (Nat.le_of_ble_eq_true rfl)⟩) [] rfl rfl rfl hl.1 rfl rfl (Nat.le_of_ble_eq_true rfl) dX1_playTrick_167 ⟨Nat.zero_le _, Nat.zero_le _⟩ (fun locs hS => ?_)
    refine lv_if_eq (pc := 170) (tgt := 178) hx hb dX1_playTrick_170 (by decide) (fun c_19 => ?_) (fun c_19 => ?_)
    · have hq := pv_pos c_19 hq
      refine lv_iload_n (pc := 178) hx hb dX1_playTrick_178 rfl (lv_at hl 2 rfl) ?_
      obtain ⟨h_20, hq⟩ := pv_gd_some hq
      refine va_iast (pc := 179) (D := E.1) hx hb hK hP (hD (w.1, (w.2.1, w.2.2.1, (upd w.2.2.2.1 y1.toNatClampNeg y2), (upd w.2.2.2.2.1 x2.toNatClampNeg x3), w.2.2.2.2.2))) hS 11 0 rfl rfl h_20 dX1_playTrick_179 (fun H locs hP _ hS => ?_)
      have hP : va_P E.1 vwCl (pv_wT E a0 a1 a2 a3 a4 a5 ((w.1, (w.2.1, w.2.2.1, (upd w.2.2.2.1 y1.toNatClampNeg y2), (upd w.2.2.2.2.1 x2.toNatClampNeg x3), (upd w.2.2.2.2.2 x2.toNatClampNeg x3))).1) ++ pv_wG E g0 g1 g2 g3 g4 g5 ((w.1, (w.2.1, w.2.2.1, (upd w.2.2.2.1 y1.toNatClampNeg y2), (upd w.2.2.2.2.1 x2.toNatClampNeg x3), (upd w.2.2.2.2.2 x2.toNatClampNeg x3))).2)) H := hP
      exact pv_rvRW (w := fun w : pv_TT × pv_GT => pv_wT E a0 a1 a2 a3 a4 a5 w.1 ++ pv_wG E g0 g1 g2 g3 g4 g5 w.2) hx hb hr hlk hAe hS hP (Option.some.inj hq) dX1_playTrick_180
    · have hq := pv_neg c_19 hq
      refine lv_iload (pc := 173) hx hb dX1_playTrick_173 (lv_at hl 3 rfl) ?_
      refine lv_goto (pc := 175) (tgt := 179) hx hb dX1_playTrick_175 (by decide) ?_
      obtain ⟨h_21, hq⟩ := pv_gd_some hq
      refine va_iast (pc := 179) (D := E.1) hx hb hK hP (hD (w.1, (w.2.1, w.2.2.1, (upd w.2.2.2.1 y1.toNatClampNeg y2), (upd w.2.2.2.2.1 x2.toNatClampNeg x3), w.2.2.2.2.2))) hS 11 0 rfl rfl h_21 dX1_playTrick_179 (fun H locs hP _ hS => ?_)
      have hP : va_P E.1 vwCl (pv_wT E a0 a1 a2 a3 a4 a5 ((w.1, (w.2.1, w.2.2.1, (upd w.2.2.2.1 y1.toNatClampNeg y2), (upd w.2.2.2.2.1 x2.toNatClampNeg x3), (upd w.2.2.2.2.2 x2.toNatClampNeg x4))).1) ++ pv_wG E g0 g1 g2 g3 g4 g5 ((w.1, (w.2.1, w.2.2.1, (upd w.2.2.2.1 y1.toNatClampNeg y2), (upd w.2.2.2.2.1 x2.toNatClampNeg x3), (upd w.2.2.2.2.2 x2.toNatClampNeg x4))).2)) H := hP
      exact pv_rvRW (w := fun w : pv_TT × pv_GT => pv_wT E a0 a1 a2 a3 a4 a5 w.1 ++ pv_wG E g0 g1 g2 g3 g4 g5 w.2) hx hb hr hlk hAe hS hP (Option.some.inj hq) dX1_playTrick_180
  have B_129 : ∀ (x2 : Int32) (x3 : Int32) (x4 : Int32) (x5 : Int32) (x7 : Int32) (x9 : Int32) (y1 : Int32) (y2 : Int32) (w : pv_TT × pv_GT) (H : Heap) (locs : List Loc) (ls : Array Slot), va_P E.1 vwCl (pv_wT E a0 a1 a2 a3 a4 a5 w.1 ++ pv_wG E g0 g1 g2 g3 g4 g5 w.2) H → va_S A s.heap H locs → lv_has ls 10 [(0, .ref g0), (2, .int x2), (3, .int x3), (4, .int x4), (5, .int x5), (7, .int x7), (9, .int x9)] → m_X1_playTrick_129 x2 x3 x4 x5 x7 x9 y1 y2 w = some F → W p l e r_X1_playTrick s m args below meth c H locs 0 0 (MQ below (pv_Rw E (pv_wT E a0 a1 a2 a3 a4 a5 w0.1 ++ pv_wG E g0 g1 g2 g3 g4 g5 w0.2) sz (none) ((fun w : pv_TT × pv_GT => pv_wT E a0 a1 a2 a3 a4 a5 w.1 ++ pv_wG E g0 g1 g2 g3 g4 g5 w.2) F)) args s 0 0 A) (F0 m 129 ls [.int y2, .int y1, .ref g2]) := by
    intro x2 x3 x4 x5 x7 x9 y1 y2 w H locs ls hP hS hl hq
    obtain ⟨h_15, hq⟩ := pv_gd_some hq
    refine va_iast (pc := 129) (D := E.1) hx hb hK hP (hD w) hS 8 0 rfl rfl h_15 dX1_playTrick_129 (fun H locs hP _ hS => ?_)
    have hP : va_P E.1 vwCl (pv_wT E a0 a1 a2 a3 a4 a5 ((w.1, (w.2.1, (upd w.2.2.1 y1.toNatClampNeg y2), w.2.2.2.1, w.2.2.2.2.1, w.2.2.2.2.2)).1) ++ pv_wG E g0 g1 g2 g3 g4 g5 ((w.1, (w.2.1, (upd w.2.2.1 y1.toNatClampNeg y2), w.2.2.2.1, w.2.2.2.2.1, w.2.2.2.2.2)).2)) H := hP
    refine lv_aload_n (pc := 130) hx hb dX1_playTrick_130 rfl (lv_at hl 0 rfl) ?_
    refine va_get (pc := 131) (D := E.1) (ci := 0) (v := .ref g3) (C := RX1) (T := TX1) (N := 5) hx hb hts i_RX1 hown hK hP 6 rfl rfl 2 (Nat.le_of_ble_eq_true rfl) fl_18 (fun _ h9 => h9) rfl dX1_playTrick_131 ?_
    refine lv_iload_n (pc := 134) hx hb dX1_playTrick_134 rfl (lv_at hl 1 rfl) ?_
    refine lv_iload_n (pc := 135) hx hb dX1_playTrick_135 rfl (lv_at hl 2 rfl) ?_
    refine lv_if_ne (pc := 136) (tgt := 144) hx hb dX1_playTrick_136 (by decide) (fun c_16 => ?_) (fun c_16 => ?_)
    · have hq := pv_neg c_16 hq
      refine lv_iload (pc := 144) hx hb dX1_playTrick_144 (lv_at hl 5 rfl) ?_
      exact B_146 x2 x3 x4 x5 x7 x9 x2 x7 (w.1, (w.2.1, (upd w.2.2.1 y1.toNatClampNeg y2), w.2.2.2.1, w.2.2.2.2.1, w.2.2.2.2.2)) H locs ls hP hS (lv_sub hl [0, 1, 2, 3, 4, 5, 6] rfl) hq
    · have hq := pv_pos c_16 hq
      refine lv_iload (pc := 139) hx hb dX1_playTrick_139 (lv_at hl 6 rfl) ?_
      refine lv_goto (pc := 141) (tgt := 146) hx hb dX1_playTrick_141 (by decide) ?_
      exact B_146 x2 x3 x4 x5 x7 x9 x2 x9 (w.1, (w.2.1, (upd w.2.2.1 y1.toNatClampNeg y2), w.2.2.2.1, w.2.2.2.2.1, w.2.2.2.2.2)) H locs ls hP hS (lv_sub hl [0, 1, 2, 3, 4, 5, 6] rfl) hq
  suffices M0 : ∀ (H : Heap) (locs : List Loc), va_P E.1 vwCl (pv_wT E a0 a1 a2 a3 a4 a5 w0.1 ++ pv_wG E g0 g1 g2 g3 g4 g5 w0.2) H → va_S A s.heap H locs → W p l e r_X1_playTrick s m args below meth c H locs 0 0 (MQ below (pv_Rw E (pv_wT E a0 a1 a2 a3 a4 a5 w0.1 ++ pv_wG E g0 g1 g2 g3 g4 g5 w0.2) sz (none) ((fun w : pv_TT × pv_GT => pv_wT E a0 a1 a2 a3 a4 a5 w.1 ++ pv_wG E g0 g1 g2 g3 g4 g5 w.2) F)) args s 0 0 A) (F0 m 0 ls []) from M0 s.heap [] hP hS
  intro H locs hP hS
  refine lv_iconst (pc := 0) (v := 1) hx hb dX1_playTrick_0 (by decide) ?_
  refine lv_iload_n (pc := 1) hx hb dX1_playTrick_1 rfl (lv_at hl 3 rfl) ?_
  refine lv_isub (pc := 2) hx hb dX1_playTrick_2 ?_
  refine lv_istore (pc := 3) (lv' := [(4, .int (1 - x3)), (0, .ref g0), (1, .ref a0), (2, .int x2), (3, .int x3)]) hx hb dX1_playTrick_3 hl (Nat.le_of_ble_eq_true rfl) rfl (fun ls hl => ?_)
  refine lv_aload_n (pc := 5) hx hb dX1_playTrick_5 rfl (lv_at hl 2 rfl) ?_
  refine pv_vRO (pc := 6) (rest := []) (st1 := [.int (m_X4_trump w0.1)]) (ws := pv_wT E a0 a1 a2 a3 a4 a5 w0.1 ++ pv_wG E g0 g1 g2 g3 g4 g5 w0.2) [] ⟨hx, hb, hml, hown, hts⟩ hE hA hS hP (hD w0) (c_X4_trump l E a0 a1 a2 a3 a4 a5 w0.1) (cwV 0 hts gX1_playTrick_X4_trump rfl rfl rfl (by decide +kernel) ⟨(Nat.le_of_ble_eq_true rfl), (Nat.le_of_ble_eq_true rfl)⟩) (va_recv hK hP (ci := 2) (q0 := 0) rfl rfl) [0, 1, 2, 3, 4, 5] rfl rfl rfl hl.1 rfl rfl (Nat.le_of_ble_eq_true rfl) dX1_playTrick_6 ⟨Nat.zero_le _, Nat.zero_le _⟩ (fun locs hS => ?_)
  refine lv_istore (pc := 9) (lv' := [(5, .int (m_X4_trump w0.1)), (4, .int (1 - x3)), (0, .ref g0), (1, .ref a0), (2, .int x2), (3, .int x3)]) hx hb dX1_playTrick_9 hl (Nat.le_of_ble_eq_true rfl) rfl (fun ls hl => ?_)
  refine lv_aload_n (pc := 11) hx hb dX1_playTrick_11 rfl (lv_at hl 3 rfl) ?_
  refine va_get (pc := 12) (D := E.1) (ci := 2) (v := .ref a4) (C := RX4) (T := TX4) (N := 8) hx hb hts i_RX4 hown hK hP 0 rfl rfl 6 (Nat.le_of_ble_eq_true rfl) fl_45 (fun _ h9 => h9) rfl dX1_playTrick_12 ?_
  refine lv_aload_n (pc := 15) hx hb dX1_playTrick_15 rfl (lv_at hl 3 rfl) ?_
  refine va_get (pc := 16) (D := E.1) (ci := 2) (v := .ref a3) (C := RX4) (T := TX4) (N := 8) hx hb hts i_RX4 hown hK hP 0 rfl rfl 5 (Nat.le_of_ble_eq_true rfl) fl_48 (fun _ h9 => h9) rfl dX1_playTrick_16 ?_
  refine lv_iload (pc := 19) hx hb dX1_playTrick_19 (lv_at hl 1 rfl) ?_
  obtain ⟨h_1, hq⟩ := pv_gd_some hq
  refine va_iald (pc := 21) (D := E.1) hx hb hK hP 3 0 rfl rfl h_1 dX1_playTrick_21 ?_
  obtain ⟨h_2, hq⟩ := pv_gd_some hq
  refine va_iald (pc := 22) (D := E.1) hx hb hK hP 4 0 rfl rfl h_2 dX1_playTrick_22 ?_
  refine lv_istore (pc := 23) (lv' := [(6, .int (w0.1.2.2.2.2.2.2.1 (w0.1.2.2.2.2.2.1 (1 - x3).toNatClampNeg).toNatClampNeg)), (5, .int (m_X4_trump w0.1)), (4, .int (1 - x3)), (0, .ref g0), (1, .ref a0), (2, .int x2), (3, .int x3)]) hx hb dX1_playTrick_23 hl (Nat.le_of_ble_eq_true rfl) rfl (fun ls hl => ?_)
  refine lv_aload_n (pc := 25) hx hb dX1_playTrick_25 rfl (lv_at hl 4 rfl) ?_
  refine va_get (pc := 26) (D := E.1) (ci := 2) (v := .ref a4) (C := RX4) (T := TX4) (N := 8) hx hb hts i_RX4 hown hK hP 0 rfl rfl 6 (Nat.le_of_ble_eq_true rfl) fl_45 (fun _ h9 => h9) rfl dX1_playTrick_26 ?_
  refine lv_aload_n (pc := 29) hx hb dX1_playTrick_29 rfl (lv_at hl 4 rfl) ?_
  refine va_get (pc := 30) (D := E.1) (ci := 2) (v := .ref a3) (C := RX4) (T := TX4) (N := 8) hx hb hts i_RX4 hown hK hP 0 rfl rfl 5 (Nat.le_of_ble_eq_true rfl) fl_48 (fun _ h9 => h9) rfl dX1_playTrick_30 ?_
  refine lv_iload_n (pc := 33) hx hb dX1_playTrick_33 rfl (lv_at hl 6 rfl) ?_
  obtain ⟨h_3, hq⟩ := pv_gd_some hq
  refine va_iald (pc := 34) (D := E.1) hx hb hK hP 3 0 rfl rfl h_3 dX1_playTrick_34 ?_
  obtain ⟨h_4, hq⟩ := pv_gd_some hq
  refine va_iald (pc := 35) (D := E.1) hx hb hK hP 4 0 rfl rfl h_4 dX1_playTrick_35 ?_
  refine lv_aload_n (pc := 36) hx hb dX1_playTrick_36 rfl (lv_at hl 3 rfl) ?_
  refine va_get (pc := 37) (D := E.1) (ci := 0) (v := .ref g1) (C := RX1) (T := TX1) (N := 5) hx hb hts i_RX1 hown hK hP 6 rfl rfl 0 (Nat.le_of_ble_eq_true rfl) fl_9 (fun _ h9 => h9) rfl dX1_playTrick_37 ?_
  refine lv_iload_n (pc := 40) hx hb dX1_playTrick_40 rfl (lv_at hl 6 rfl) ?_
  obtain ⟨h_5, hq⟩ := pv_gd_some hq
  refine va_iald (pc := 41) (D := E.1) hx hb hK hP 7 0 rfl rfl h_5 dX1_playTrick_41 ?_
  refine lv_iload (pc := 42) hx hb dX1_playTrick_42 (lv_at hl 1 rfl) ?_
  obtain ⟨u_6, hu_6, hq⟩ := pv_bind hq
  refine pv_sRO (pc := 44) (rest := []) (st1 := [.int u_6]) (ws := pv_wT E a0 a1 a2 a3 a4 a5 w0.1 ++ pv_wG E g0 g1 g2 g3 g4 g5 w0.2) [.int (w0.1.2.2.2.2.2.2.1 (w0.1.2.2.2.2.2.1 x3.toNatClampNeg).toNatClampNeg), .int (w0.2.1 x3.toNatClampNeg), .int (m_X4_trump w0.1)] ⟨hx, hb, hml, hown, hts⟩ hE hA hS hP (hD w0) (c_X2_lead l E (w0.1.2.2.2.2.2.2.1 (w0.1.2.2.2.2.2.1 x3.toNatClampNeg).toNatClampNeg) (w0.2.1 x3.toNatClampNeg) (m_X4_trump w0.1) u_6 hu_6) (va_cwS 3 hts gX1_playTrick_X2_lead rfl rfl rfl (by decide +kernel) ⟨(Nat.le_of_ble_eq_true rfl), (Nat.le_of_ble_eq_true rfl)⟩) [] rfl rfl rfl hl.1 rfl rfl (Nat.le_of_ble_eq_true rfl) dX1_playTrick_44 ⟨Nat.zero_le _, Nat.zero_le _⟩ (fun locs hS => ?_)
  refine lv_istore (pc := 47) (lv' := [(7, .int u_6), (6, .int (w0.1.2.2.2.2.2.2.1 (w0.1.2.2.2.2.2.1 (1 - x3).toNatClampNeg).toNatClampNeg)), (5, .int (m_X4_trump w0.1)), (4, .int (1 - x3)), (0, .ref g0), (1, .ref a0), (2, .int x2), (3, .int x3)]) hx hb dX1_playTrick_47 hl (Nat.le_of_ble_eq_true rfl) rfl (fun ls hl => ?_)
  refine lv_iload (pc := 49) hx hb dX1_playTrick_49 (lv_at hl 1 rfl) ?_
  refine lv_aload_n (pc := 51) hx hb dX1_playTrick_51 rfl (lv_at hl 4 rfl) ?_
  refine va_get (pc := 52) (D := E.1) (ci := 0) (v := .ref g1) (C := RX1) (T := TX1) (N := 5) hx hb hts i_RX1 hown hK hP 6 rfl rfl 0 (Nat.le_of_ble_eq_true rfl) fl_9 (fun _ h9 => h9) rfl dX1_playTrick_52 ?_
  refine lv_iload (pc := 55) hx hb dX1_playTrick_55 (lv_at hl 3 rfl) ?_
  obtain ⟨h_7, hq⟩ := pv_gd_some hq
  refine va_iald (pc := 57) (D := E.1) hx hb hK hP 7 0 rfl rfl h_7 dX1_playTrick_57 ?_
  refine lv_iload (pc := 58) hx hb dX1_playTrick_58 (lv_at hl 0 rfl) ?_
  refine lv_aload_n (pc := 60) hx hb dX1_playTrick_60 rfl (lv_at hl 5 rfl) ?_
  refine va_get (pc := 61) (D := E.1) (ci := 2) (v := .int w0.1.1) (C := RX4) (T := TX4) (N := 8) hx hb hts i_RX4 hown hK hP 0 rfl rfl 0 (Nat.le_of_ble_eq_true rfl) fl_33 (fun _ h9 => h9) rfl dX1_playTrick_61 ?_
  obtain ⟨u_8, hu_8, hq⟩ := pv_bind hq
  refine pv_sRO (pc := 64) (rest := []) (st1 := [.int u_8]) (ws := pv_wT E a0 a1 a2 a3 a4 a5 w0.1 ++ pv_wG E g0 g1 g2 g3 g4 g5 w0.2) [.int (w0.1.2.2.2.2.2.2.1 (w0.1.2.2.2.2.2.1 (1 - x3).toNatClampNeg).toNatClampNeg), .int (w0.2.1 (1 - x3).toNatClampNeg), .int u_6, .int w0.1.1] ⟨hx, hb, hml, hown, hts⟩ hE hA hS hP (hD w0) (c_X2_mayPlay l E (w0.1.2.2.2.2.2.2.1 (w0.1.2.2.2.2.2.1 (1 - x3).toNatClampNeg).toNatClampNeg) (w0.2.1 (1 - x3).toNatClampNeg) u_6 w0.1.1 u_8 hu_8) (va_cwS 4 hts gX1_playTrick_X2_mayPlay rfl rfl rfl (by decide +kernel) ⟨(Nat.le_of_ble_eq_true rfl), (Nat.le_of_ble_eq_true rfl)⟩) [] rfl rfl rfl hl.1 rfl rfl (Nat.le_of_ble_eq_true rfl) dX1_playTrick_64 ⟨Nat.zero_le _, Nat.zero_le _⟩ (fun locs hS => ?_)
  refine lv_istore (pc := 67) (lv' := [(8, .int u_8), (7, .int u_6), (6, .int (w0.1.2.2.2.2.2.2.1 (w0.1.2.2.2.2.2.1 (1 - x3).toNatClampNeg).toNatClampNeg)), (5, .int (m_X4_trump w0.1)), (4, .int (1 - x3)), (0, .ref g0), (1, .ref a0), (2, .int x2), (3, .int x3)]) hx hb dX1_playTrick_67 hl (Nat.le_of_ble_eq_true rfl) rfl (fun ls hl => ?_)
  refine lv_iload (pc := 69) hx hb dX1_playTrick_69 (lv_at hl 2 rfl) ?_
  refine lv_iload (pc := 71) hx hb dX1_playTrick_71 (lv_at hl 0 rfl) ?_
  refine lv_iload (pc := 73) hx hb dX1_playTrick_73 (lv_at hl 1 rfl) ?_
  refine lv_iload (pc := 75) hx hb dX1_playTrick_75 (lv_at hl 3 rfl) ?_
  obtain ⟨u_9, hu_9, hq⟩ := pv_bind hq
  refine pv_sRO (pc := 77) (rest := []) (st1 := [.int u_9]) (ws := pv_wT E a0 a1 a2 a3 a4 a5 w0.1 ++ pv_wG E g0 g1 g2 g3 g4 g5 w0.2) [.int (w0.1.2.2.2.2.2.2.1 (w0.1.2.2.2.2.2.1 (1 - x3).toNatClampNeg).toNatClampNeg), .int u_8, .int u_6, .int (m_X4_trump w0.1)] ⟨hx, hb, hml, hown, hts⟩ hE hA hS hP (hD w0) (c_X2_follow l E (w0.1.2.2.2.2.2.2.1 (w0.1.2.2.2.2.2.1 (1 - x3).toNatClampNeg).toNatClampNeg) u_8 u_6 (m_X4_trump w0.1) u_9 hu_9) (va_cwS 4 hts gX1_playTrick_X2_follow rfl rfl rfl (by decide +kernel) ⟨(Nat.le_of_ble_eq_true rfl), (Nat.le_of_ble_eq_true rfl)⟩) [] rfl rfl rfl hl.1 rfl rfl (Nat.le_of_ble_eq_true rfl) dX1_playTrick_77 ⟨Nat.zero_le _, Nat.zero_le _⟩ (fun locs hS => ?_)
  refine lv_istore (pc := 80) (lv' := [(9, .int u_9), (8, .int u_8), (7, .int u_6), (6, .int (w0.1.2.2.2.2.2.2.1 (w0.1.2.2.2.2.2.1 (1 - x3).toNatClampNeg).toNatClampNeg)), (5, .int (m_X4_trump w0.1)), (4, .int (1 - x3)), (0, .ref g0), (1, .ref a0), (2, .int x2), (3, .int x3)]) hx hb dX1_playTrick_80 hl (Nat.le_of_ble_eq_true rfl) rfl (fun ls hl => ?_)
  refine lv_aload_n (pc := 82) hx hb dX1_playTrick_82 rfl (lv_at hl 6 rfl) ?_
  refine va_get (pc := 83) (D := E.1) (ci := 0) (v := .ref g1) (C := RX1) (T := TX1) (N := 5) hx hb hts i_RX1 hown hK hP 6 rfl rfl 0 (Nat.le_of_ble_eq_true rfl) fl_9 (fun _ h9 => h9) rfl dX1_playTrick_83 ?_
  refine lv_iload_n (pc := 86) hx hb dX1_playTrick_86 rfl (lv_at hl 9 rfl) ?_
  refine lv_dup2_11 (pc := 87) hx hb dX1_playTrick_87 rfl rfl ?_
  obtain ⟨h_10, hq⟩ := pv_gd_some hq
  refine va_iald (pc := 88) (D := E.1) hx hb hK hP 7 0 rfl rfl h_10 dX1_playTrick_88 ?_
  refine lv_iconst (pc := 89) (v := 1) hx hb dX1_playTrick_89 (by decide) ?_
  refine lv_iload (pc := 90) hx hb dX1_playTrick_90 (lv_at hl 2 rfl) ?_
  refine lv_ishl (pc := 92) hx hb dX1_playTrick_92 ?_
  refine lv_iconst (pc := 93) (v := (-1)) hx hb dX1_playTrick_93 (by decide) ?_
  refine lv_ixor (pc := 94) hx hb dX1_playTrick_94 ?_
  refine lv_iand (pc := 95) hx hb dX1_playTrick_95 ?_
  obtain ⟨h_11, hq⟩ := pv_gd_some hq
  refine va_iast (pc := 96) (D := E.1) hx hb hK hP (hD w0) hS 7 0 rfl rfl h_11 dX1_playTrick_96 (fun H locs hP _ hS => ?_)
  have hP : va_P E.1 vwCl (pv_wT E a0 a1 a2 a3 a4 a5 ((w0.1, ((upd w0.2.1 x3.toNatClampNeg ((w0.2.1 x3.toNatClampNeg) &&& (((1 : Int32) <<< (u_6 &&& 31)) ^^^ (-1)))), w0.2.2.1, w0.2.2.2.1, w0.2.2.2.2.1, w0.2.2.2.2.2)).1) ++ pv_wG E g0 g1 g2 g3 g4 g5 ((w0.1, ((upd w0.2.1 x3.toNatClampNeg ((w0.2.1 x3.toNatClampNeg) &&& (((1 : Int32) <<< (u_6 &&& 31)) ^^^ (-1)))), w0.2.2.1, w0.2.2.2.1, w0.2.2.2.2.1, w0.2.2.2.2.2)).2)) H := hP
  refine lv_aload_n (pc := 97) hx hb dX1_playTrick_97 rfl (lv_at hl 6 rfl) ?_
  refine va_get (pc := 98) (D := E.1) (ci := 0) (v := .ref g1) (C := RX1) (T := TX1) (N := 5) hx hb hts i_RX1 hown hK hP 6 rfl rfl 0 (Nat.le_of_ble_eq_true rfl) fl_9 (fun _ h9 => h9) rfl dX1_playTrick_98 ?_
  refine lv_iload (pc := 101) hx hb dX1_playTrick_101 (lv_at hl 5 rfl) ?_
  refine lv_dup2_11 (pc := 103) hx hb dX1_playTrick_103 rfl rfl ?_
  obtain ⟨h_12, hq⟩ := pv_gd_some hq
  refine va_iald (pc := 104) (D := E.1) hx hb hK hP 7 0 rfl rfl h_12 dX1_playTrick_104 ?_
  refine lv_iconst (pc := 105) (v := 1) hx hb dX1_playTrick_105 (by decide) ?_
  refine lv_iload (pc := 106) hx hb dX1_playTrick_106 (lv_at hl 0 rfl) ?_
  refine lv_ishl (pc := 108) hx hb dX1_playTrick_108 ?_
  refine lv_iconst (pc := 109) (v := (-1)) hx hb dX1_playTrick_109 (by decide) ?_
  refine lv_ixor (pc := 110) hx hb dX1_playTrick_110 ?_
  refine lv_iand (pc := 111) hx hb dX1_playTrick_111 ?_
  obtain ⟨h_13, hq⟩ := pv_gd_some hq
  refine va_iast (pc := 112) (D := E.1) hx hb hK hP (hD (w0.1, ((upd w0.2.1 x3.toNatClampNeg ((w0.2.1 x3.toNatClampNeg) &&& (((1 : Int32) <<< (u_6 &&& 31)) ^^^ (-1)))), w0.2.2.1, w0.2.2.2.1, w0.2.2.2.2.1, w0.2.2.2.2.2))) hS 7 0 rfl rfl h_13 dX1_playTrick_112 (fun H locs hP _ hS => ?_)
  have hP : va_P E.1 vwCl (pv_wT E a0 a1 a2 a3 a4 a5 ((w0.1, ((upd (upd w0.2.1 x3.toNatClampNeg ((w0.2.1 x3.toNatClampNeg) &&& (((1 : Int32) <<< (u_6 &&& 31)) ^^^ (-1)))) (1 - x3).toNatClampNeg (((upd w0.2.1 x3.toNatClampNeg ((w0.2.1 x3.toNatClampNeg) &&& (((1 : Int32) <<< (u_6 &&& 31)) ^^^ (-1)))) (1 - x3).toNatClampNeg) &&& (((1 : Int32) <<< (u_9 &&& 31)) ^^^ (-1)))), w0.2.2.1, w0.2.2.2.1, w0.2.2.2.2.1, w0.2.2.2.2.2)).1) ++ pv_wG E g0 g1 g2 g3 g4 g5 ((w0.1, ((upd (upd w0.2.1 x3.toNatClampNeg ((w0.2.1 x3.toNatClampNeg) &&& (((1 : Int32) <<< (u_6 &&& 31)) ^^^ (-1)))) (1 - x3).toNatClampNeg (((upd w0.2.1 x3.toNatClampNeg ((w0.2.1 x3.toNatClampNeg) &&& (((1 : Int32) <<< (u_6 &&& 31)) ^^^ (-1)))) (1 - x3).toNatClampNeg) &&& (((1 : Int32) <<< (u_9 &&& 31)) ^^^ (-1)))), w0.2.2.1, w0.2.2.2.1, w0.2.2.2.2.1, w0.2.2.2.2.2)).2)) H := hP
  refine lv_aload_n (pc := 113) hx hb dX1_playTrick_113 rfl (lv_at hl 6 rfl) ?_
  refine va_get (pc := 114) (D := E.1) (ci := 0) (v := .ref g2) (C := RX1) (T := TX1) (N := 5) hx hb hts i_RX1 hown hK hP 6 rfl rfl 1 (Nat.le_of_ble_eq_true rfl) fl_15 (fun _ h9 => h9) rfl dX1_playTrick_114 ?_
  refine lv_iload_n (pc := 117) hx hb dX1_playTrick_117 rfl (lv_at hl 8 rfl) ?_
  refine lv_iload_n (pc := 118) hx hb dX1_playTrick_118 rfl (lv_at hl 9 rfl) ?_
  refine lv_if_ne (pc := 119) (tgt := 127) hx hb dX1_playTrick_119 (by decide) (fun c_14 => ?_) (fun c_14 => ?_)
  · have hq := pv_neg c_14 hq
    refine lv_iload (pc := 127) hx hb dX1_playTrick_127 (lv_at hl 0 rfl) ?_
    exact B_129 x2 x3 (1 - x3) (m_X4_trump w0.1) u_6 u_9 x2 u_9 (w0.1, ((upd (upd w0.2.1 x3.toNatClampNeg ((w0.2.1 x3.toNatClampNeg) &&& (((1 : Int32) <<< (u_6 &&& 31)) ^^^ (-1)))) (1 - x3).toNatClampNeg (((upd w0.2.1 x3.toNatClampNeg ((w0.2.1 x3.toNatClampNeg) &&& (((1 : Int32) <<< (u_6 &&& 31)) ^^^ (-1)))) (1 - x3).toNatClampNeg) &&& (((1 : Int32) <<< (u_9 &&& 31)) ^^^ (-1)))), w0.2.2.1, w0.2.2.2.1, w0.2.2.2.2.1, w0.2.2.2.2.2)) H locs ls hP hS (lv_sub hl [6, 8, 9, 5, 4, 2, 0] rfl) hq
  · have hq := pv_pos c_14 hq
    refine lv_iload (pc := 122) hx hb dX1_playTrick_122 (lv_at hl 2 rfl) ?_
    refine lv_goto (pc := 124) (tgt := 129) hx hb dX1_playTrick_124 (by decide) ?_
    exact B_129 x2 x3 (1 - x3) (m_X4_trump w0.1) u_6 u_9 x2 u_6 (w0.1, ((upd (upd w0.2.1 x3.toNatClampNeg ((w0.2.1 x3.toNatClampNeg) &&& (((1 : Int32) <<< (u_6 &&& 31)) ^^^ (-1)))) (1 - x3).toNatClampNeg (((upd w0.2.1 x3.toNatClampNeg ((w0.2.1 x3.toNatClampNeg) &&& (((1 : Int32) <<< (u_6 &&& 31)) ^^^ (-1)))) (1 - x3).toNatClampNeg) &&& (((1 : Int32) <<< (u_9 &&& 31)) ^^^ (-1)))), w0.2.2.1, w0.2.2.2.1, w0.2.2.2.2.1, w0.2.2.2.2.2)) H locs ls hP hS (lv_sub hl [6, 8, 9, 5, 4, 2, 0] rfl) hq
def m_X1_play_31 : Nat → Int32 → Int32 → (pv_TT × pv_GT) → Option (pv_TT × pv_GT)
  | 0 => fun _ _ _ => none
  | n + 1 => fun x2 x3 w =>
    if 4 ≤ x3 then (some w) else (Option.bind (m_X1_playTrick x3 x2 w) fun u_4 => (pv_gd x3 4 ((m_X1_play_31 n) (u_4.2.2.2.2.2 x3.toNatClampNeg) (x3 + 1) u_4)))
def m_X1_play  (w : pv_TT × pv_GT) : Option (pv_TT × pv_GT) :=
  Option.bind (m_X4_hand 0 w.1) fun u_1 => (Option.bind (m_X4_hand 1 w.1) fun u_2 => (m_X1_play_31 300 (pv_rem w.1.1 2) 0 (w.1, ((upd (upd w.2.1 0 u_1) 1 u_2), w.2.2.1, w.2.2.2.1, w.2.2.2.2.1, w.2.2.2.2.2))))
abbrev r_X1_play : Room := { frames := 4, cells := 0, slots := 0, locals := 98 }
set_option maxHeartbeats 4000000 in
set_option maxRecDepth 100000 in
theorem c_X1_play (l : Launch) (E : pv_E) (a0 a1 a2 a3 a4 a5 g0 g1 g2 g3 g4 g5 : Nat)  (w0 : pv_TT × pv_GT) (F : pv_TT × pv_GT) (hq : m_X1_play w0 = some F) : pv_RW l E yX1_play wsX1_play r_X1_play (pv_wT E a0 a1 a2 a3 a4 a5 w0.1 ++ pv_wG E g0 g1 g2 g3 g4 g5 w0.2) [.ref g0, .ref a0] (none) (pv_wT E a0 a1 a2 a3 a4 a5 F.1 ++ pv_wG E g0 g1 g2 g3 g4 g5 F.2) := by
  intro sz
  refine pv_mk (by decide) rfl (Nat.le_of_ble_eq_true rfl) ?_
  intro p e s m args below meth c A hx hb hr hml hown hts hlk hAe hP hD0 hA hE hS ls hl
  have hown : s.vm.findClass RX1 = some m.cls := hown
  have hK := hE.1
  have hD : ∀ w : pv_TT × pv_GT, va_D A (pv_wT E a0 a1 a2 a3 a4 a5 w.1 ++ pv_wG E g0 g1 g2 g3 g4 g5 w.2) := fun w => pv_Dm (ws := pv_wT E a0 a1 a2 a3 a4 a5 w0.1 ++ pv_wG E g0 g1 g2 g3 g4 g5 w0.2) (ws' := pv_wT E a0 a1 a2 a3 a4 a5 w.1 ++ pv_wG E g0 g1 g2 g3 g4 g5 w.2) rfl hD0
  have hP : va_P E.1 vwCl (pv_wT E a0 a1 a2 a3 a4 a5 w0.1 ++ pv_wG E g0 g1 g2 g3 g4 g5 w0.2) s.heap := hP
  have fl_9 : (Cond.fieldLink RX1 9 "ProvinceCards$Game" "hands" "[I").before args s = true := hts _ (by decide +kernel)
  have fl_33 : (Cond.fieldLink RX1 33 "ProvinceCards$Table" "month" "I").before args s = true := hts _ (by decide +kernel)
  have fl_24 : (Cond.fieldLink RX1 24 "ProvinceCards$Game" "winner" "[I").before args s = true := hts _ (by decide +kernel)
  have i_RX1 : ∀ w ∈ wsX10, w ∈ wsX1_play := by decide +kernel
  have i_RX4 : ∀ w ∈ wsX40, w ∈ wsX1_play := by decide +kernel
  have hl : lv_has ls 4 [(0, .ref g0), (1, .ref a0)] := hl
  have L_31 : ∀ n : Nat, ∀ (x2 : Int32) (x3 : Int32) (w : pv_TT × pv_GT) (H : Heap) (locs : List Loc) (ls : Array Slot), va_P E.1 vwCl (pv_wT E a0 a1 a2 a3 a4 a5 w.1 ++ pv_wG E g0 g1 g2 g3 g4 g5 w.2) H → va_S A s.heap H locs → lv_has ls 4 [(0, .ref g0), (1, .ref a0), (2, .int x2), (3, .int x3)] → m_X1_play_31 n x2 x3 w = some F → W p l e r_X1_play s m args below meth c H locs 0 0 (MQ below (pv_Rw E (pv_wT E a0 a1 a2 a3 a4 a5 w0.1 ++ pv_wG E g0 g1 g2 g3 g4 g5 w0.2) sz (none) ((fun w : pv_TT × pv_GT => pv_wT E a0 a1 a2 a3 a4 a5 w.1 ++ pv_wG E g0 g1 g2 g3 g4 g5 w.2) F)) args s 0 0 A) (F0 m 31 ls []) := by
    intro n
    induction n with
    | zero =>
      intro x2 x3 w H locs ls hP hS hl hq
      exact (pv_no hq).elim
    | succ n ih =>
      intro x2 x3 w H locs ls hP hS hl hq
      refine lv_iload_n (pc := 31) hx hb dX1_play_31 rfl (lv_at hl 3 rfl) ?_
      refine lv_iconst (pc := 32) (v := 4) hx hb dX1_play_32 (by decide) ?_
      refine lv_icmp_ge (pc := 33) (tgt := 56) hx hb dX1_play_33 (by decide) (fun c_3 => ?_) (fun c_3 => ?_)
      · have hq := pv_pos c_3 hq
        exact pv_rvRW (w := fun w : pv_TT × pv_GT => pv_wT E a0 a1 a2 a3 a4 a5 w.1 ++ pv_wG E g0 g1 g2 g3 g4 g5 w.2) hx hb hr hlk hAe hS hP (Option.some.inj hq) dX1_play_56
      · have hq := pv_neg c_3 hq
        refine lv_aload_n (pc := 36) hx hb dX1_play_36 rfl (lv_at hl 0 rfl) ?_
        refine lv_aload_n (pc := 37) hx hb dX1_play_37 rfl (lv_at hl 1 rfl) ?_
        refine lv_iload_n (pc := 38) hx hb dX1_play_38 rfl (lv_at hl 3 rfl) ?_
        refine lv_iload_n (pc := 39) hx hb dX1_play_39 rfl (lv_at hl 2 rfl) ?_
        obtain ⟨u_4, hu_4, hq⟩ := pv_bind hq
        refine pv_vRWf (pc := 40) (rest := []) (st1 := []) (ws := pv_wT E a0 a1 a2 a3 a4 a5 w.1 ++ pv_wG E g0 g1 g2 g3 g4 g5 w.2) [.ref a0, .int x3, .int x2] ⟨hx, hb, hml, hown, hts⟩ hE hA hS hP (hD w) (c_X1_playTrick l E a0 a1 a2 a3 a4 a5 g0 g1 g2 g3 g4 g5 x3 x2 w u_4 hu_4) (cwV 3 hts gX1_play_X1_playTrick rfl rfl rfl (by decide +kernel) ⟨(Nat.le_of_ble_eq_true rfl), (Nat.le_of_ble_eq_true rfl)⟩) (va_recv hK hP (ci := 0) (q0 := 6) rfl rfl) rfl hl.1 rfl rfl (Nat.le_of_ble_eq_true rfl) dX1_play_40 ⟨Nat.zero_le _, Nat.zero_le _⟩ (fun H locs hP hS => ?_)
        have hP : va_P E.1 vwCl (pv_wT E a0 a1 a2 a3 a4 a5 u_4.1 ++ pv_wG E g0 g1 g2 g3 g4 g5 u_4.2) H := hP
        refine lv_aload_n (pc := 43) hx hb dX1_play_43 rfl (lv_at hl 0 rfl) ?_
        refine va_get (pc := 44) (D := E.1) (ci := 0) (v := .ref g5) (C := RX1) (T := TX1) (N := 5) hx hb hts i_RX1 hown hK hP 6 rfl rfl 4 (Nat.le_of_ble_eq_true rfl) fl_24 (fun _ h9 => h9) rfl dX1_play_44 ?_
        refine lv_iload_n (pc := 47) hx hb dX1_play_47 rfl (lv_at hl 3 rfl) ?_
        obtain ⟨h_5, hq⟩ := pv_gd_some hq
        refine va_iald (pc := 48) (D := E.1) hx hb hK hP 11 0 rfl rfl h_5 dX1_play_48 ?_
        refine lv_istore_n (pc := 49) (lv' := [(2, .int (u_4.2.2.2.2.2 x3.toNatClampNeg)), (0, .ref g0), (1, .ref a0), (3, .int x3)]) hx hb dX1_play_49 rfl hl (Nat.le_of_ble_eq_true rfl) rfl (fun ls hl => ?_)
        refine lv_iinc (pc := 50) (v := (x3 + 1)) (lv' := [(3, .int (x3 + 1)), (2, .int (u_4.2.2.2.2.2 x3.toNatClampNeg)), (0, .ref g0), (1, .ref a0)]) hx hb dX1_play_50 hl (k := 3) rfl rfl (Nat.le_of_ble_eq_true rfl) rfl (fun ls hl => ?_)
        refine lv_goto (pc := 53) (tgt := 31) hx hb dX1_play_53 (by decide) ?_
        exact ih (u_4.2.2.2.2.2 x3.toNatClampNeg) (x3 + 1) u_4 H locs ls hP hS (lv_sub hl [2, 3, 1, 0] rfl) hq
  suffices M0 : ∀ (H : Heap) (locs : List Loc), va_P E.1 vwCl (pv_wT E a0 a1 a2 a3 a4 a5 w0.1 ++ pv_wG E g0 g1 g2 g3 g4 g5 w0.2) H → va_S A s.heap H locs → W p l e r_X1_play s m args below meth c H locs 0 0 (MQ below (pv_Rw E (pv_wT E a0 a1 a2 a3 a4 a5 w0.1 ++ pv_wG E g0 g1 g2 g3 g4 g5 w0.2) sz (none) ((fun w : pv_TT × pv_GT => pv_wT E a0 a1 a2 a3 a4 a5 w.1 ++ pv_wG E g0 g1 g2 g3 g4 g5 w.2) F)) args s 0 0 A) (F0 m 0 ls []) from M0 s.heap [] hP hS
  intro H locs hP hS
  refine lv_aload_n (pc := 0) hx hb dX1_play_0 rfl (lv_at hl 0 rfl) ?_
  refine va_get (pc := 1) (D := E.1) (ci := 0) (v := .ref g1) (C := RX1) (T := TX1) (N := 5) hx hb hts i_RX1 hown hK hP 6 rfl rfl 0 (Nat.le_of_ble_eq_true rfl) fl_9 (fun _ h9 => h9) rfl dX1_play_1 ?_
  refine lv_iconst (pc := 4) (v := 0) hx hb dX1_play_4 (by decide) ?_
  refine lv_aload_n (pc := 5) hx hb dX1_play_5 rfl (lv_at hl 1 rfl) ?_
  refine lv_iconst (pc := 6) (v := 0) hx hb dX1_play_6 (by decide) ?_
  obtain ⟨u_1, hu_1, hq⟩ := pv_bind hq
  refine pv_vRO (pc := 7) (rest := [.int 0, .ref g1]) (st1 := [.int u_1, .int 0, .ref g1]) (ws := pv_wT E a0 a1 a2 a3 a4 a5 w0.1 ++ pv_wG E g0 g1 g2 g3 g4 g5 w0.2) [.int 0] ⟨hx, hb, hml, hown, hts⟩ hE hA hS hP (hD w0) (c_X4_hand l E a0 a1 a2 a3 a4 a5 0 w0.1 u_1 hu_1) (cwV 1 hts gX1_play_X4_hand rfl rfl rfl (by decide +kernel) ⟨(Nat.le_of_ble_eq_true rfl), (Nat.le_of_ble_eq_true rfl)⟩) (va_recv hK hP (ci := 2) (q0 := 0) rfl rfl) [0, 1, 2, 3, 4, 5] rfl rfl rfl hl.1 rfl rfl (Nat.le_of_ble_eq_true rfl) dX1_play_7 ⟨Nat.zero_le _, Nat.zero_le _⟩ (fun locs hS => ?_)
  refine va_iast (pc := 10) (D := E.1) hx hb hK hP (hD w0) hS 7 0 rfl rfl (by decide : ¬ ((0 : Int32) < 0 ∨ 2 ≤ (0 : Int32).toNatClampNeg)) dX1_play_10 (fun H locs hP _ hS => ?_)
  have hP : va_P E.1 vwCl (pv_wT E a0 a1 a2 a3 a4 a5 ((w0.1, ((upd w0.2.1 0 u_1), w0.2.2.1, w0.2.2.2.1, w0.2.2.2.2.1, w0.2.2.2.2.2)).1) ++ pv_wG E g0 g1 g2 g3 g4 g5 ((w0.1, ((upd w0.2.1 0 u_1), w0.2.2.1, w0.2.2.2.1, w0.2.2.2.2.1, w0.2.2.2.2.2)).2)) H := hP
  refine lv_aload_n (pc := 11) hx hb dX1_play_11 rfl (lv_at hl 0 rfl) ?_
  refine va_get (pc := 12) (D := E.1) (ci := 0) (v := .ref g1) (C := RX1) (T := TX1) (N := 5) hx hb hts i_RX1 hown hK hP 6 rfl rfl 0 (Nat.le_of_ble_eq_true rfl) fl_9 (fun _ h9 => h9) rfl dX1_play_12 ?_
  refine lv_iconst (pc := 15) (v := 1) hx hb dX1_play_15 (by decide) ?_
  refine lv_aload_n (pc := 16) hx hb dX1_play_16 rfl (lv_at hl 1 rfl) ?_
  refine lv_iconst (pc := 17) (v := 1) hx hb dX1_play_17 (by decide) ?_
  obtain ⟨u_2, hu_2, hq⟩ := pv_bind hq
  refine pv_vRO (pc := 18) (rest := [.int 1, .ref g1]) (st1 := [.int u_2, .int 1, .ref g1]) (ws := pv_wT E a0 a1 a2 a3 a4 a5 ((w0.1, ((upd w0.2.1 0 u_1), w0.2.2.1, w0.2.2.2.1, w0.2.2.2.2.1, w0.2.2.2.2.2)).1) ++ pv_wG E g0 g1 g2 g3 g4 g5 ((w0.1, ((upd w0.2.1 0 u_1), w0.2.2.1, w0.2.2.2.1, w0.2.2.2.2.1, w0.2.2.2.2.2)).2)) [.int 1] ⟨hx, hb, hml, hown, hts⟩ hE hA hS hP (hD (w0.1, ((upd w0.2.1 0 u_1), w0.2.2.1, w0.2.2.2.1, w0.2.2.2.2.1, w0.2.2.2.2.2))) (c_X4_hand l E a0 a1 a2 a3 a4 a5 1 w0.1 u_2 hu_2) (cwV 1 hts gX1_play_X4_hand rfl rfl rfl (by decide +kernel) ⟨(Nat.le_of_ble_eq_true rfl), (Nat.le_of_ble_eq_true rfl)⟩) (va_recv hK hP (ci := 2) (q0 := 0) rfl rfl) [0, 1, 2, 3, 4, 5] rfl rfl rfl hl.1 rfl rfl (Nat.le_of_ble_eq_true rfl) dX1_play_18 ⟨Nat.zero_le _, Nat.zero_le _⟩ (fun locs hS => ?_)
  refine va_iast (pc := 21) (D := E.1) hx hb hK hP (hD (w0.1, ((upd w0.2.1 0 u_1), w0.2.2.1, w0.2.2.2.1, w0.2.2.2.2.1, w0.2.2.2.2.2))) hS 7 0 rfl rfl (by decide : ¬ ((1 : Int32) < 0 ∨ 2 ≤ (1 : Int32).toNatClampNeg)) dX1_play_21 (fun H locs hP _ hS => ?_)
  have hP : va_P E.1 vwCl (pv_wT E a0 a1 a2 a3 a4 a5 ((w0.1, ((upd (upd w0.2.1 0 u_1) 1 u_2), w0.2.2.1, w0.2.2.2.1, w0.2.2.2.2.1, w0.2.2.2.2.2)).1) ++ pv_wG E g0 g1 g2 g3 g4 g5 ((w0.1, ((upd (upd w0.2.1 0 u_1) 1 u_2), w0.2.2.1, w0.2.2.2.1, w0.2.2.2.2.1, w0.2.2.2.2.2)).2)) H := hP
  refine lv_aload_n (pc := 22) hx hb dX1_play_22 rfl (lv_at hl 1 rfl) ?_
  refine va_get (pc := 23) (D := E.1) (ci := 2) (v := .int w0.1.1) (C := RX4) (T := TX4) (N := 8) hx hb hts i_RX4 hown hK hP 0 rfl rfl 0 (Nat.le_of_ble_eq_true rfl) fl_33 (fun _ h9 => h9) rfl dX1_play_23 ?_
  refine lv_iconst (pc := 26) (v := 2) hx hb dX1_play_26 (by decide) ?_
  refine pv_irem (pc := 27) hx hb dX1_play_27 (by decide) ?_
  refine lv_istore_n (pc := 28) (lv' := [(2, .int (pv_rem w0.1.1 2)), (0, .ref g0), (1, .ref a0)]) hx hb dX1_play_28 rfl hl (Nat.le_of_ble_eq_true rfl) rfl (fun ls hl => ?_)
  refine lv_iconst (pc := 29) (v := 0) hx hb dX1_play_29 (by decide) ?_
  refine lv_istore_n (pc := 30) (lv' := [(3, .int 0), (2, .int (pv_rem w0.1.1 2)), (0, .ref g0), (1, .ref a0)]) hx hb dX1_play_30 rfl hl (Nat.le_of_ble_eq_true rfl) rfl (fun ls hl => ?_)
  exact L_31 300 (pv_rem w0.1.1 2) 0 (w0.1, ((upd (upd w0.2.1 0 u_1) 1 u_2), w0.2.2.1, w0.2.2.2.1, w0.2.2.2.2.1, w0.2.2.2.2.2)) H locs ls hP hS (lv_sub hl [2, 3, 1, 0] rfl) hq
def m_X4_passMonths_46 (k_2 : Int32 → Int32 → pv_TT × pv_GT → Option (pv_TT × pv_GT)) (x1 : Int32) (x3 : Int32) (w : pv_TT × pv_GT) : Option (pv_TT × pv_GT) :=
  k_2 x1 (x3 + 1) w
def m_X4_passMonths_2 : Nat → Int32 → Int32 → (pv_TT × pv_GT) → Option (pv_TT × pv_GT)
  | 0 => fun _ _ _ => none
  | n + 1 => fun x1 x3 w =>
    if x1 ≤ x3 then (some w) else (Option.bind (m_X4_bothSent w.1) fun u_2 => (if u_2 = 0 then (Option.bind (m_X4_onlySender w.1) fun u_4 => (Option.bind (m_X4_close u_4 w.1) fun u_5 => (m_X4_passMonths_46 (m_X4_passMonths_2 n) x1 x3 (u_5, w.2)))) else (Option.bind (m_X1_play w) fun u_6 => (Option.bind (m_X1_victor u_6.2) fun u_7 => (Option.bind (m_X4_reward u_7 u_6.1) fun u_8 => (Option.bind (m_X1_victor u_6.2) fun u_9 => (Option.bind (m_X4_close u_9 u_8) fun u_10 => (m_X4_passMonths_46 (m_X4_passMonths_2 n) x1 x3 (u_10, u_6.2)))))))))
def m_X4_passMonths (x1 : Int32) (w : pv_TT × pv_GT) : Option (pv_TT × pv_GT) :=
  m_X4_passMonths_2 300 x1 0 w
abbrev r_X4_passMonths : Room := { frames := 5, cells := 0, slots := 0, locals := 121 }
set_option maxHeartbeats 4000000 in
set_option maxRecDepth 100000 in
theorem c_X4_passMonths (l : Launch) (E : pv_E) (a0 a1 a2 a3 a4 a5 g0 g1 g2 g3 g4 g5 : Nat) (x1 : Int32) (w0 : pv_TT × pv_GT) (F : pv_TT × pv_GT) (hq : m_X4_passMonths x1 w0 = some F) : pv_RW l E yX4_passMonths wsX4_passMonths r_X4_passMonths (pv_wT E a0 a1 a2 a3 a4 a5 w0.1 ++ pv_wG E g0 g1 g2 g3 g4 g5 w0.2) [.ref a0, .int x1, .ref g0] (none) (pv_wT E a0 a1 a2 a3 a4 a5 F.1 ++ pv_wG E g0 g1 g2 g3 g4 g5 F.2) := by
  intro sz
  refine pv_mk (by decide) rfl (Nat.le_of_ble_eq_true rfl) ?_
  intro p e s m args below meth c A hx hb hr hml hown hts hlk hAe hP hD0 hA hE hS ls hl
  have hown : s.vm.findClass RX4 = some m.cls := hown
  have hK := hE.1
  have hD : ∀ w : pv_TT × pv_GT, va_D A (pv_wT E a0 a1 a2 a3 a4 a5 w.1 ++ pv_wG E g0 g1 g2 g3 g4 g5 w.2) := fun w => pv_Dm (ws := pv_wT E a0 a1 a2 a3 a4 a5 w0.1 ++ pv_wG E g0 g1 g2 g3 g4 g5 w0.2) (ws' := pv_wT E a0 a1 a2 a3 a4 a5 w.1 ++ pv_wG E g0 g1 g2 g3 g4 g5 w.2) rfl hD0
  have hP : va_P E.1 vwCl (pv_wT E a0 a1 a2 a3 a4 a5 w0.1 ++ pv_wG E g0 g1 g2 g3 g4 g5 w0.2) s.heap := hP
  have hl : lv_has ls 4 [(0, .ref a0), (1, .int x1), (2, .ref g0)] := hl
  have B_46 : ∀ (k_2 : Int32 → Int32 → pv_TT × pv_GT → Option (pv_TT × pv_GT)), (∀ (x1 : Int32) (x3 : Int32) (w : pv_TT × pv_GT) (H : Heap) (locs : List Loc) (ls : Array Slot), va_P E.1 vwCl (pv_wT E a0 a1 a2 a3 a4 a5 w.1 ++ pv_wG E g0 g1 g2 g3 g4 g5 w.2) H → va_S A s.heap H locs → lv_has ls 4 [(0, .ref a0), (1, .int x1), (2, .ref g0), (3, .int x3)] → k_2 x1 x3 w = some F → W p l e r_X4_passMonths s m args below meth c H locs 0 0 (MQ below (pv_Rw E (pv_wT E a0 a1 a2 a3 a4 a5 w0.1 ++ pv_wG E g0 g1 g2 g3 g4 g5 w0.2) sz (none) ((fun w : pv_TT × pv_GT => pv_wT E a0 a1 a2 a3 a4 a5 w.1 ++ pv_wG E g0 g1 g2 g3 g4 g5 w.2) F)) args s 0 0 A) (F0 m 2 ls [])) → ∀ (x1 : Int32) (x3 : Int32) (w : pv_TT × pv_GT) (H : Heap) (locs : List Loc) (ls : Array Slot), va_P E.1 vwCl (pv_wT E a0 a1 a2 a3 a4 a5 w.1 ++ pv_wG E g0 g1 g2 g3 g4 g5 w.2) H → va_S A s.heap H locs → lv_has ls 4 [(0, .ref a0), (1, .int x1), (2, .ref g0), (3, .int x3)] → m_X4_passMonths_46 k_2 x1 x3 w = some F → W p l e r_X4_passMonths s m args below meth c H locs 0 0 (MQ below (pv_Rw E (pv_wT E a0 a1 a2 a3 a4 a5 w0.1 ++ pv_wG E g0 g1 g2 g3 g4 g5 w0.2) sz (none) ((fun w : pv_TT × pv_GT => pv_wT E a0 a1 a2 a3 a4 a5 w.1 ++ pv_wG E g0 g1 g2 g3 g4 g5 w.2) F)) args s 0 0 A) (F0 m 46 ls []) := by
    intro k_2 hk_2
    intro x1 x3 w H locs ls hP hS hl hq
    refine lv_iinc (pc := 46) (v := (x3 + 1)) (lv' := [(3, .int (x3 + 1)), (0, .ref a0), (1, .int x1), (2, .ref g0)]) hx hb dX4_passMonths_46 hl (k := 3) rfl rfl (Nat.le_of_ble_eq_true rfl) rfl (fun ls hl => ?_)
    refine lv_goto (pc := 49) (tgt := 2) hx hb dX4_passMonths_49 (by decide) ?_
    exact hk_2 x1 (x3 + 1) w H locs ls hP hS (lv_sub hl [1, 2, 3, 0] rfl) hq
  have L_2 : ∀ n : Nat, ∀ (x1 : Int32) (x3 : Int32) (w : pv_TT × pv_GT) (H : Heap) (locs : List Loc) (ls : Array Slot), va_P E.1 vwCl (pv_wT E a0 a1 a2 a3 a4 a5 w.1 ++ pv_wG E g0 g1 g2 g3 g4 g5 w.2) H → va_S A s.heap H locs → lv_has ls 4 [(0, .ref a0), (1, .int x1), (2, .ref g0), (3, .int x3)] → m_X4_passMonths_2 n x1 x3 w = some F → W p l e r_X4_passMonths s m args below meth c H locs 0 0 (MQ below (pv_Rw E (pv_wT E a0 a1 a2 a3 a4 a5 w0.1 ++ pv_wG E g0 g1 g2 g3 g4 g5 w0.2) sz (none) ((fun w : pv_TT × pv_GT => pv_wT E a0 a1 a2 a3 a4 a5 w.1 ++ pv_wG E g0 g1 g2 g3 g4 g5 w.2) F)) args s 0 0 A) (F0 m 2 ls []) := by
    intro n
    induction n with
    | zero =>
      intro x1 x3 w H locs ls hP hS hl hq
      exact (pv_no hq).elim
    | succ n ih =>
      intro x1 x3 w H locs ls hP hS hl hq
      refine lv_iload_n (pc := 2) hx hb dX4_passMonths_2 rfl (lv_at hl 3 rfl) ?_
      refine lv_iload_n (pc := 3) hx hb dX4_passMonths_3 rfl (lv_at hl 1 rfl) ?_
      refine lv_icmp_ge (pc := 4) (tgt := 52) hx hb dX4_passMonths_4 (by decide) (fun c_1 => ?_) (fun c_1 => ?_)
      · have hq := pv_pos c_1 hq
        exact pv_rvRW (w := fun w : pv_TT × pv_GT => pv_wT E a0 a1 a2 a3 a4 a5 w.1 ++ pv_wG E g0 g1 g2 g3 g4 g5 w.2) hx hb hr hlk hAe hS hP (Option.some.inj hq) dX4_passMonths_52
      · have hq := pv_neg c_1 hq
        refine lv_aload_n (pc := 7) hx hb dX4_passMonths_7 rfl (lv_at hl 0 rfl) ?_
        obtain ⟨u_2, hu_2, hq⟩ := pv_bind hq
        refine pv_vRO (pc := 8) (rest := []) (st1 := [.int u_2]) (ws := pv_wT E a0 a1 a2 a3 a4 a5 w.1 ++ pv_wG E g0 g1 g2 g3 g4 g5 w.2) [] ⟨hx, hb, hml, hown, hts⟩ hE hA hS hP (hD w) (c_X4_bothSent l E a0 a1 a2 a3 a4 a5 w.1 u_2 hu_2) (cwV 0 hts gX4_passMonths_X4_bothSent rfl rfl rfl (by decide +kernel) ⟨(Nat.le_of_ble_eq_true rfl), (Nat.le_of_ble_eq_true rfl)⟩) (va_recv hK hP (ci := 2) (q0 := 0) rfl rfl) [0, 1, 2, 3, 4, 5] rfl rfl rfl hl.1 rfl rfl (Nat.le_of_ble_eq_true rfl) dX4_passMonths_8 ⟨Nat.zero_le _, Nat.zero_le _⟩ (fun locs hS => ?_)
        refine lv_if_eq (pc := 11) (tgt := 38) hx hb dX4_passMonths_11 (by decide) (fun c_3 => ?_) (fun c_3 => ?_)
        · have hq := pv_pos c_3 hq
          refine lv_aload_n (pc := 38) hx hb dX4_passMonths_38 rfl (lv_at hl 0 rfl) ?_
          refine lv_aload_n (pc := 39) hx hb dX4_passMonths_39 rfl (lv_at hl 0 rfl) ?_
          obtain ⟨u_4, hu_4, hq⟩ := pv_bind hq
          refine pv_vRO (pc := 40) (rest := [.ref a0]) (st1 := [.int u_4, .ref a0]) (ws := pv_wT E a0 a1 a2 a3 a4 a5 w.1 ++ pv_wG E g0 g1 g2 g3 g4 g5 w.2) [] ⟨hx, hb, hml, hown, hts⟩ hE hA hS hP (hD w) (c_X4_onlySender l E a0 a1 a2 a3 a4 a5 w.1 u_4 hu_4) (cwV 0 hts gX4_passMonths_X4_onlySender rfl rfl rfl (by decide +kernel) ⟨(Nat.le_of_ble_eq_true rfl), (Nat.le_of_ble_eq_true rfl)⟩) (va_recv hK hP (ci := 2) (q0 := 0) rfl rfl) [0, 1, 2, 3, 4, 5] rfl rfl rfl hl.1 rfl rfl (Nat.le_of_ble_eq_true rfl) dX4_passMonths_40 ⟨Nat.zero_le _, Nat.zero_le _⟩ (fun locs hS => ?_)
          obtain ⟨u_5, hu_5, hq⟩ := pv_bind hq
          refine pv_vRW (pc := 43) (rest := []) (st1 := []) (ws := pv_wT E a0 a1 a2 a3 a4 a5 w.1 ++ pv_wG E g0 g1 g2 g3 g4 g5 w.2) (ws' := pv_wT E a0 a1 a2 a3 a4 a5 ((u_5, w.2).1) ++ pv_wG E g0 g1 g2 g3 g4 g5 ((u_5, w.2).2)) [.int u_4] ⟨hx, hb, hml, hown, hts⟩ hE hA hS hP (hD w) (c_X4_close l E a0 a1 a2 a3 a4 a5 u_4 w.1 u_5 hu_5) (cwV 1 hts gX4_passMonths_X4_close rfl rfl rfl (by decide +kernel) ⟨(Nat.le_of_ble_eq_true rfl), (Nat.le_of_ble_eq_true rfl)⟩) (va_recv hK hP (ci := 2) (q0 := 0) rfl rfl) [0, 1, 2, 3, 4, 5] rfl rfl rfl rfl rfl hl.1 rfl rfl (Nat.le_of_ble_eq_true rfl) dX4_passMonths_43 ⟨Nat.zero_le _, Nat.zero_le _⟩ (fun H locs hP hS => ?_)
          exact B_46 (m_X4_passMonths_2 n) ih x1 x3 (u_5, w.2) H locs ls hP hS (lv_sub hl [0, 1, 2, 3] rfl) hq
        · have hq := pv_neg c_3 hq
          refine lv_aload_n (pc := 14) hx hb dX4_passMonths_14 rfl (lv_at hl 2 rfl) ?_
          refine lv_aload_n (pc := 15) hx hb dX4_passMonths_15 rfl (lv_at hl 0 rfl) ?_
          obtain ⟨u_6, hu_6, hq⟩ := pv_bind hq
          refine pv_vRWf (pc := 16) (rest := []) (st1 := []) (ws := pv_wT E a0 a1 a2 a3 a4 a5 w.1 ++ pv_wG E g0 g1 g2 g3 g4 g5 w.2) [.ref a0] ⟨hx, hb, hml, hown, hts⟩ hE hA hS hP (hD w) (c_X1_play l E a0 a1 a2 a3 a4 a5 g0 g1 g2 g3 g4 g5 w u_6 hu_6) (cwV 1 hts gX4_passMonths_X1_play rfl rfl rfl (by decide +kernel) ⟨(Nat.le_of_ble_eq_true rfl), (Nat.le_of_ble_eq_true rfl)⟩) (va_recv hK hP (ci := 0) (q0 := 6) rfl rfl) rfl hl.1 rfl rfl (Nat.le_of_ble_eq_true rfl) dX4_passMonths_16 ⟨Nat.zero_le _, Nat.zero_le _⟩ (fun H locs hP hS => ?_)
          have hP : va_P E.1 vwCl (pv_wT E a0 a1 a2 a3 a4 a5 u_6.1 ++ pv_wG E g0 g1 g2 g3 g4 g5 u_6.2) H := hP
          refine lv_aload_n (pc := 19) hx hb dX4_passMonths_19 rfl (lv_at hl 0 rfl) ?_
          refine lv_aload_n (pc := 20) hx hb dX4_passMonths_20 rfl (lv_at hl 2 rfl) ?_
          obtain ⟨u_7, hu_7, hq⟩ := pv_bind hq
          refine pv_vRO (pc := 21) (rest := [.ref a0]) (st1 := [.int u_7, .ref a0]) (ws := pv_wT E a0 a1 a2 a3 a4 a5 u_6.1 ++ pv_wG E g0 g1 g2 g3 g4 g5 u_6.2) [] ⟨hx, hb, hml, hown, hts⟩ hE hA hS hP (hD u_6) (c_X1_victor l E g0 g1 g2 g3 g4 g5 u_6.2 u_7 hu_7) (cwV 0 hts gX4_passMonths_X1_victor rfl rfl rfl (by decide +kernel) ⟨(Nat.le_of_ble_eq_true rfl), (Nat.le_of_ble_eq_true rfl)⟩) (va_recv hK hP (ci := 0) (q0 := 6) rfl rfl) [6, 7, 8, 9, 10, 11] rfl rfl rfl hl.1 rfl rfl (Nat.le_of_ble_eq_true rfl) dX4_passMonths_21 ⟨Nat.zero_le _, Nat.zero_le _⟩ (fun locs hS => ?_)
          obtain ⟨u_8, hu_8, hq⟩ := pv_bind hq
          refine pv_vRW (pc := 24) (rest := []) (st1 := []) (ws := pv_wT E a0 a1 a2 a3 a4 a5 u_6.1 ++ pv_wG E g0 g1 g2 g3 g4 g5 u_6.2) (ws' := pv_wT E a0 a1 a2 a3 a4 a5 ((u_8, u_6.2).1) ++ pv_wG E g0 g1 g2 g3 g4 g5 ((u_8, u_6.2).2)) [.int u_7] ⟨hx, hb, hml, hown, hts⟩ hE hA hS hP (hD u_6) (c_X4_reward l E a0 a1 a2 a3 a4 a5 u_7 u_6.1 u_8 hu_8) (cwV 1 hts gX4_passMonths_X4_reward rfl rfl rfl (by decide +kernel) ⟨(Nat.le_of_ble_eq_true rfl), (Nat.le_of_ble_eq_true rfl)⟩) (va_recv hK hP (ci := 2) (q0 := 0) rfl rfl) [0, 1, 2, 3, 4, 5] rfl rfl rfl rfl rfl hl.1 rfl rfl (Nat.le_of_ble_eq_true rfl) dX4_passMonths_24 ⟨Nat.zero_le _, Nat.zero_le _⟩ (fun H locs hP hS => ?_)
          refine lv_aload_n (pc := 27) hx hb dX4_passMonths_27 rfl (lv_at hl 0 rfl) ?_
          refine lv_aload_n (pc := 28) hx hb dX4_passMonths_28 rfl (lv_at hl 2 rfl) ?_
          obtain ⟨u_9, hu_9, hq⟩ := pv_bind hq
          refine pv_vRO (pc := 29) (rest := [.ref a0]) (st1 := [.int u_9, .ref a0]) (ws := pv_wT E a0 a1 a2 a3 a4 a5 ((u_8, u_6.2).1) ++ pv_wG E g0 g1 g2 g3 g4 g5 ((u_8, u_6.2).2)) [] ⟨hx, hb, hml, hown, hts⟩ hE hA hS hP (hD (u_8, u_6.2)) (c_X1_victor l E g0 g1 g2 g3 g4 g5 u_6.2 u_9 hu_9) (cwV 0 hts gX4_passMonths_X1_victor rfl rfl rfl (by decide +kernel) ⟨(Nat.le_of_ble_eq_true rfl), (Nat.le_of_ble_eq_true rfl)⟩) (va_recv hK hP (ci := 0) (q0 := 6) rfl rfl) [6, 7, 8, 9, 10, 11] rfl rfl rfl hl.1 rfl rfl (Nat.le_of_ble_eq_true rfl) dX4_passMonths_29 ⟨Nat.zero_le _, Nat.zero_le _⟩ (fun locs hS => ?_)
          obtain ⟨u_10, hu_10, hq⟩ := pv_bind hq
          refine pv_vRW (pc := 32) (rest := []) (st1 := []) (ws := pv_wT E a0 a1 a2 a3 a4 a5 ((u_8, u_6.2).1) ++ pv_wG E g0 g1 g2 g3 g4 g5 ((u_8, u_6.2).2)) (ws' := pv_wT E a0 a1 a2 a3 a4 a5 ((u_10, u_6.2).1) ++ pv_wG E g0 g1 g2 g3 g4 g5 ((u_10, u_6.2).2)) [.int u_9] ⟨hx, hb, hml, hown, hts⟩ hE hA hS hP (hD (u_8, u_6.2)) (c_X4_close l E a0 a1 a2 a3 a4 a5 u_9 u_8 u_10 hu_10) (cwV 1 hts gX4_passMonths_X4_close rfl rfl rfl (by decide +kernel) ⟨(Nat.le_of_ble_eq_true rfl), (Nat.le_of_ble_eq_true rfl)⟩) (va_recv hK hP (ci := 2) (q0 := 0) rfl rfl) [0, 1, 2, 3, 4, 5] rfl rfl rfl rfl rfl hl.1 rfl rfl (Nat.le_of_ble_eq_true rfl) dX4_passMonths_32 ⟨Nat.zero_le _, Nat.zero_le _⟩ (fun H locs hP hS => ?_)
          refine lv_goto (pc := 35) (tgt := 46) hx hb dX4_passMonths_35 (by decide) ?_
          exact B_46 (m_X4_passMonths_2 n) ih x1 x3 (u_10, u_6.2) H locs ls hP hS (lv_sub hl [0, 1, 2, 3] rfl) hq
  suffices M0 : ∀ (H : Heap) (locs : List Loc), va_P E.1 vwCl (pv_wT E a0 a1 a2 a3 a4 a5 w0.1 ++ pv_wG E g0 g1 g2 g3 g4 g5 w0.2) H → va_S A s.heap H locs → W p l e r_X4_passMonths s m args below meth c H locs 0 0 (MQ below (pv_Rw E (pv_wT E a0 a1 a2 a3 a4 a5 w0.1 ++ pv_wG E g0 g1 g2 g3 g4 g5 w0.2) sz (none) ((fun w : pv_TT × pv_GT => pv_wT E a0 a1 a2 a3 a4 a5 w.1 ++ pv_wG E g0 g1 g2 g3 g4 g5 w.2) F)) args s 0 0 A) (F0 m 0 ls []) from M0 s.heap [] hP hS
  intro H locs hP hS
  refine lv_iconst (pc := 0) (v := 0) hx hb dX4_passMonths_0 (by decide) ?_
  refine lv_istore_n (pc := 1) (lv' := [(3, .int 0), (0, .ref a0), (1, .int x1), (2, .ref g0)]) hx hb dX4_passMonths_1 rfl hl (Nat.le_of_ble_eq_true rfl) rfl (fun ls hl => ?_)
  exact L_2 300 x1 0 w0 H locs ls hP hS (lv_sub hl [1, 2, 3, 0] rfl) hq
