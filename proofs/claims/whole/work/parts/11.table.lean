def m_X4_trump  (w : pv_TT) : Int32 :=
  (pv_rem w.1 4)
abbrev r_X4_trump : Room := { frames := 0, cells := 0, slots := 0, locals := 0 }
set_option maxHeartbeats 4000000 in
set_option maxRecDepth 100000 in
theorem c_X4_trump (l : Launch) (E : pv_E) (a0 a1 a2 a3 a4 a5 : Nat)  (w : pv_TT) : pv_RO l E yX4_trump wsX4_trump r_X4_trump (pv_wT E a0 a1 a2 a3 a4 a5 w) [.ref a0] (some (.int (m_X4_trump w))) := by
  generalize hq : m_X4_trump w = F
  intro sz
  refine pv_mk (by decide) rfl (Nat.le_of_ble_eq_true rfl) ?_
  intro p e s m args below meth c A hx hb hr hml hown hts hlk hAe hP hD0 hA hE hS ls hl
  have hown : s.vm.findClass RX4 = some m.cls := hown
  have hK := hE.1
  have hD := hD0
  have fl_9 : (Cond.fieldLink RX4 9 "ProvinceCards$Table" "month" "I").before args s = true := hts _ (by decide +kernel)
  have i_RX4 : ∀ w ∈ wsX40, w ∈ wsX4_trump := by decide +kernel
  have hl : lv_has ls 1 [(0, .ref a0)] := hl
  suffices M0 : ∀ (locs : List Loc), va_S A s.heap s.heap locs → W p l e r_X4_trump s m args below meth c s.heap locs 0 0 (MQ below (pv_Ro (some (.int F))) args s 0 0 A) (F0 m 0 ls []) from M0 [] hS
  intro locs hS
  refine lv_aload_n (pc := 0) hx hb dX4_trump_0 rfl (lv_at hl 0 rfl) ?_
  refine va_get (pc := 1) (D := E.1) (ci := 2) (v := .int w.1) (C := RX4) (T := TX4) (N := 8) hx hb hts i_RX4 hown hK hP 0 rfl rfl 0 (Nat.le_of_ble_eq_true rfl) fl_9 (fun _ h9 => h9) rfl dX4_trump_1 ?_
  refine lv_iconst (pc := 4) (v := 4) hx hb dX4_trump_4 (by decide) ?_
  refine pv_irem (pc := 5) hx hb dX4_trump_5 (by decide) ?_
  exact pv_riRO hx hb hr hlk hS hq dX4_trump_6
def m_X4_stake  (w : pv_TT) : Int32 :=
  (pv_rem w.1 8)
abbrev r_X4_stake : Room := { frames := 0, cells := 0, slots := 0, locals := 0 }
set_option maxHeartbeats 4000000 in
set_option maxRecDepth 100000 in
theorem c_X4_stake (l : Launch) (E : pv_E) (a0 a1 a2 a3 a4 a5 : Nat)  (w : pv_TT) : pv_RO l E yX4_stake wsX4_stake r_X4_stake (pv_wT E a0 a1 a2 a3 a4 a5 w) [.ref a0] (some (.int (m_X4_stake w))) := by
  generalize hq : m_X4_stake w = F
  intro sz
  refine pv_mk (by decide) rfl (Nat.le_of_ble_eq_true rfl) ?_
  intro p e s m args below meth c A hx hb hr hml hown hts hlk hAe hP hD0 hA hE hS ls hl
  have hown : s.vm.findClass RX4 = some m.cls := hown
  have hK := hE.1
  have hD := hD0
  have fl_9 : (Cond.fieldLink RX4 9 "ProvinceCards$Table" "month" "I").before args s = true := hts _ (by decide +kernel)
  have i_RX4 : ∀ w ∈ wsX40, w ∈ wsX4_stake := by decide +kernel
  have hl : lv_has ls 1 [(0, .ref a0)] := hl
  suffices M0 : ∀ (locs : List Loc), va_S A s.heap s.heap locs → W p l e r_X4_stake s m args below meth c s.heap locs 0 0 (MQ below (pv_Ro (some (.int F))) args s 0 0 A) (F0 m 0 ls []) from M0 [] hS
  intro locs hS
  refine lv_aload_n (pc := 0) hx hb dX4_stake_0 rfl (lv_at hl 0 rfl) ?_
  refine va_get (pc := 1) (D := E.1) (ci := 2) (v := .int w.1) (C := RX4) (T := TX4) (N := 8) hx hb hts i_RX4 hown hK hP 0 rfl rfl 0 (Nat.le_of_ble_eq_true rfl) fl_9 (fun _ h9 => h9) rfl dX4_stake_1 ?_
  refine lv_bipush (pc := 4) (v := 8) hx hb dX4_stake_4 (by decide) ?_
  refine pv_irem (pc := 6) hx hb dX4_stake_6 (by decide) ?_
  exact pv_riRO hx hb hr hlk hS hq dX4_stake_7
def m_X4_hand (x1 : Int32) (w : pv_TT) : Option (Int32) :=
  Option.bind (m_X0_dealtHand w.2.1 x1 w.1) fun u_1 => (some u_1)
abbrev r_X4_hand : Room := { frames := 2, cells := 0, slots := 0, locals := 46 }
set_option maxHeartbeats 4000000 in
set_option maxRecDepth 100000 in
theorem c_X4_hand (l : Launch) (E : pv_E) (a0 a1 a2 a3 a4 a5 : Nat) (x1 : Int32) (w : pv_TT) (F : Int32) (hq : m_X4_hand x1 w = some F) : pv_RO l E yX4_hand wsX4_hand r_X4_hand (pv_wT E a0 a1 a2 a3 a4 a5 w) [.ref a0, .int x1] (some (.int F)) := by
  intro sz
  refine pv_mk (by decide) rfl (Nat.le_of_ble_eq_true rfl) ?_
  intro p e s m args below meth c A hx hb hr hml hown hts hlk hAe hP hD0 hA hE hS ls hl
  have hown : s.vm.findClass RX4 = some m.cls := hown
  have hK := hE.1
  have hD := hD0
  have fl_15 : (Cond.fieldLink RX4 15 "ProvinceCards$Table" "mixing" "I").before args s = true := hts _ (by decide +kernel)
  have fl_9 : (Cond.fieldLink RX4 9 "ProvinceCards$Table" "month" "I").before args s = true := hts _ (by decide +kernel)
  have i_RX4 : ∀ w ∈ wsX40, w ∈ wsX4_hand := by decide +kernel
  have hl : lv_has ls 2 [(0, .ref a0), (1, .int x1)] := hl
  suffices M0 : ∀ (locs : List Loc), va_S A s.heap s.heap locs → W p l e r_X4_hand s m args below meth c s.heap locs 0 0 (MQ below (pv_Ro (some (.int F))) args s 0 0 A) (F0 m 0 ls []) from M0 [] hS
  intro locs hS
  refine lv_aload_n (pc := 0) hx hb dX4_hand_0 rfl (lv_at hl 0 rfl) ?_
  refine va_get (pc := 1) (D := E.1) (ci := 2) (v := .int w.2.1) (C := RX4) (T := TX4) (N := 8) hx hb hts i_RX4 hown hK hP 0 rfl rfl 1 (Nat.le_of_ble_eq_true rfl) fl_15 (fun _ h9 => h9) rfl dX4_hand_1 ?_
  refine lv_iload_n (pc := 4) hx hb dX4_hand_4 rfl (lv_at hl 1 rfl) ?_
  refine lv_aload_n (pc := 5) hx hb dX4_hand_5 rfl (lv_at hl 0 rfl) ?_
  refine va_get (pc := 6) (D := E.1) (ci := 2) (v := .int w.1) (C := RX4) (T := TX4) (N := 8) hx hb hts i_RX4 hown hK hP 0 rfl rfl 0 (Nat.le_of_ble_eq_true rfl) fl_9 (fun _ h9 => h9) rfl dX4_hand_6 ?_
  obtain ⟨u_1, hu_1, hq⟩ := pv_bind hq
  refine pv_sRO (pc := 9) (rest := []) (st1 := [.int u_1]) (ws := pv_wT E a0 a1 a2 a3 a4 a5 w) [.int w.2.1, .int x1, .int w.1] ⟨hx, hb, hml, hown, hts⟩ hE hA hS hP hD (c_X0_dealtHand l E w.2.1 x1 w.1 u_1 hu_1) (va_cwS 3 hts gX4_hand_X0_dealtHand rfl rfl rfl (by decide +kernel) ⟨(Nat.le_of_ble_eq_true rfl), (Nat.le_of_ble_eq_true rfl)⟩) [] rfl rfl rfl hl.1 rfl rfl (Nat.le_of_ble_eq_true rfl) dX4_hand_9 ⟨Nat.zero_le _, Nat.zero_le _⟩ (fun locs hS => ?_)
  exact pv_riRO hx hb hr hlk hS (Option.some.inj hq) dX4_hand_12
def m_X4_bothSent  (w : pv_TT) : Option (Int32) :=
  if (w.2.2.2.2.2.1 0) < 0 then (some 0) else (if (w.2.2.2.2.2.1 1) < 0 then (some 0) else (some 1))
abbrev r_X4_bothSent : Room := { frames := 0, cells := 0, slots := 0, locals := 0 }
set_option maxHeartbeats 4000000 in
set_option maxRecDepth 100000 in
theorem c_X4_bothSent (l : Launch) (E : pv_E) (a0 a1 a2 a3 a4 a5 : Nat)  (w : pv_TT) (F : Int32) (hq : m_X4_bothSent w = some F) : pv_RO l E yX4_bothSent wsX4_bothSent r_X4_bothSent (pv_wT E a0 a1 a2 a3 a4 a5 w) [.ref a0] (some (.int F)) := by
  intro sz
  refine pv_mk (by decide) rfl (Nat.le_of_ble_eq_true rfl) ?_
  intro p e s m args below meth c A hx hb hr hml hown hts hlk hAe hP hD0 hA hE hS ls hl
  have hown : s.vm.findClass RX4 = some m.cls := hown
  have hK := hE.1
  have hD := hD0
  have fl_28 : (Cond.fieldLink RX4 28 "ProvinceCards$Table" "sent" "[I").before args s = true := hts _ (by decide +kernel)
  have i_RX4 : ∀ w ∈ wsX40, w ∈ wsX4_bothSent := by decide +kernel
  have hl : lv_has ls 1 [(0, .ref a0)] := hl
  suffices M0 : ∀ (locs : List Loc), va_S A s.heap s.heap locs → W p l e r_X4_bothSent s m args below meth c s.heap locs 0 0 (MQ below (pv_Ro (some (.int F))) args s 0 0 A) (F0 m 0 ls []) from M0 [] hS
  intro locs hS
  refine lv_aload_n (pc := 0) hx hb dX4_bothSent_0 rfl (lv_at hl 0 rfl) ?_
  refine va_get (pc := 1) (D := E.1) (ci := 2) (v := .ref a3) (C := RX4) (T := TX4) (N := 8) hx hb hts i_RX4 hown hK hP 0 rfl rfl 5 (Nat.le_of_ble_eq_true rfl) fl_28 (fun _ h9 => h9) rfl dX4_bothSent_1 ?_
  refine lv_iconst (pc := 4) (v := 0) hx hb dX4_bothSent_4 (by decide) ?_
  refine va_iald (pc := 5) (D := E.1) hx hb hK hP 3 0 rfl rfl (by decide : ¬ ((0 : Int32) < 0 ∨ 2 ≤ (0 : Int32).toNatClampNeg)) dX4_bothSent_5 ?_
  refine W.eq (g2 := F0 m 6 ls [.int (w.2.2.2.2.2.1 0)]) rfl ?_
  refine lv_if_lt (pc := 6) (tgt := 22) hx hb dX4_bothSent_6 (by decide) (fun c_1 => ?_) (fun c_1 => ?_)
  · have hq := pv_pos c_1 hq
    refine lv_iconst (pc := 22) (v := 0) hx hb dX4_bothSent_22 (by decide) ?_
    exact pv_rzRO hx hb hr hlk hS (Option.some.inj hq) rfl dX4_bothSent_23
  · have hq := pv_neg c_1 hq
    refine lv_aload_n (pc := 9) hx hb dX4_bothSent_9 rfl (lv_at hl 0 rfl) ?_
    refine va_get (pc := 10) (D := E.1) (ci := 2) (v := .ref a3) (C := RX4) (T := TX4) (N := 8) hx hb hts i_RX4 hown hK hP 0 rfl rfl 5 (Nat.le_of_ble_eq_true rfl) fl_28 (fun _ h9 => h9) rfl dX4_bothSent_10 ?_
    refine lv_iconst (pc := 13) (v := 1) hx hb dX4_bothSent_13 (by decide) ?_
    refine va_iald (pc := 14) (D := E.1) hx hb hK hP 3 0 rfl rfl (by decide : ¬ ((1 : Int32) < 0 ∨ 2 ≤ (1 : Int32).toNatClampNeg)) dX4_bothSent_14 ?_
    refine W.eq (g2 := F0 m 15 ls [.int (w.2.2.2.2.2.1 1)]) rfl ?_
    refine lv_if_lt (pc := 15) (tgt := 22) hx hb dX4_bothSent_15 (by decide) (fun c_2 => ?_) (fun c_2 => ?_)
    · have hq := pv_pos c_2 hq
      refine lv_iconst (pc := 22) (v := 0) hx hb dX4_bothSent_22 (by decide) ?_
      exact pv_rzRO hx hb hr hlk hS (Option.some.inj hq) rfl dX4_bothSent_23
    · have hq := pv_neg c_2 hq
      refine lv_iconst (pc := 18) (v := 1) hx hb dX4_bothSent_18 (by decide) ?_
      refine lv_goto (pc := 19) (tgt := 23) hx hb dX4_bothSent_19 (by decide) ?_
      exact pv_rzRO hx hb hr hlk hS (Option.some.inj hq) rfl dX4_bothSent_23
def m_X4_senders_15 (x1 : Int32) (y0 : Int32) (w : pv_TT) : Option (Int32) :=
  if (w.2.2.2.2.2.1 1) = x1 then (some (y0 + 2)) else (some (y0 + 0))
def m_X4_senders (x1 : Int32) (w : pv_TT) : Option (Int32) :=
  if (w.2.2.2.2.2.1 0) = x1 then (m_X4_senders_15 x1 1 w) else (m_X4_senders_15 x1 0 w)
abbrev r_X4_senders : Room := { frames := 0, cells := 0, slots := 0, locals := 0 }
set_option maxHeartbeats 4000000 in
set_option maxRecDepth 100000 in
theorem c_X4_senders (l : Launch) (E : pv_E) (a0 a1 a2 a3 a4 a5 : Nat) (x1 : Int32) (w : pv_TT) (F : Int32) (hq : m_X4_senders x1 w = some F) : pv_RO l E yX4_senders wsX4_senders r_X4_senders (pv_wT E a0 a1 a2 a3 a4 a5 w) [.ref a0, .int x1] (some (.int F)) := by
  intro sz
  refine pv_mk (by decide) rfl (Nat.le_of_ble_eq_true rfl) ?_
  intro p e s m args below meth c A hx hb hr hml hown hts hlk hAe hP hD0 hA hE hS ls hl
  have hown : s.vm.findClass RX4 = some m.cls := hown
  have hK := hE.1
  have hD := hD0
  have fl_28 : (Cond.fieldLink RX4 28 "ProvinceCards$Table" "sent" "[I").before args s = true := hts _ (by decide +kernel)
  have i_RX4 : ∀ w ∈ wsX40, w ∈ wsX4_senders := by decide +kernel
  have hl : lv_has ls 2 [(0, .ref a0), (1, .int x1)] := hl
  have B_15 : ∀ (x1 : Int32) (y0 : Int32) (locs : List Loc) (ls : Array Slot), va_S A s.heap s.heap locs → lv_has ls 2 [(0, .ref a0), (1, .int x1)] → m_X4_senders_15 x1 y0 w = some F → W p l e r_X4_senders s m args below meth c s.heap locs 0 0 (MQ below (pv_Ro (some (.int F))) args s 0 0 A) (F0 m 15 ls [.int y0]) := by
    intro x1 y0 locs ls hS hl hq
    refine lv_aload_n (pc := 15) hx hb dX4_senders_15 rfl (lv_at hl 0 rfl) ?_
    refine va_get (pc := 16) (D := E.1) (ci := 2) (v := .ref a3) (C := RX4) (T := TX4) (N := 8) hx hb hts i_RX4 hown hK hP 0 rfl rfl 5 (Nat.le_of_ble_eq_true rfl) fl_28 (fun _ h9 => h9) rfl dX4_senders_16 ?_
    refine lv_iconst (pc := 19) (v := 1) hx hb dX4_senders_19 (by decide) ?_
    refine va_iald (pc := 20) (D := E.1) hx hb hK hP 3 0 rfl rfl (by decide : ¬ ((1 : Int32) < 0 ∨ 2 ≤ (1 : Int32).toNatClampNeg)) dX4_senders_20 ?_
    refine W.eq (g2 := F0 m 21 ls [.int (w.2.2.2.2.2.1 1), .int y0]) rfl ?_
    refine lv_iload_n (pc := 21) hx hb dX4_senders_21 rfl (lv_at hl 1 rfl) ?_
    refine lv_icmp_ne (pc := 22) (tgt := 29) hx hb dX4_senders_22 (by decide) (fun c_2 => ?_) (fun c_2 => ?_)
    · have hq := pv_neg c_2 hq
      refine lv_iconst (pc := 29) (v := 0) hx hb dX4_senders_29 (by decide) ?_
      refine lv_iadd (pc := 30) hx hb dX4_senders_30 ?_
      exact pv_riRO hx hb hr hlk hS (Option.some.inj hq) dX4_senders_31
    · have hq := pv_pos c_2 hq
      refine lv_iconst (pc := 25) (v := 2) hx hb dX4_senders_25 (by decide) ?_
      refine lv_goto (pc := 26) (tgt := 30) hx hb dX4_senders_26 (by decide) ?_
      refine lv_iadd (pc := 30) hx hb dX4_senders_30 ?_
      exact pv_riRO hx hb hr hlk hS (Option.some.inj hq) dX4_senders_31
  suffices M0 : ∀ (locs : List Loc), va_S A s.heap s.heap locs → W p l e r_X4_senders s m args below meth c s.heap locs 0 0 (MQ below (pv_Ro (some (.int F))) args s 0 0 A) (F0 m 0 ls []) from M0 [] hS
  intro locs hS
  refine lv_aload_n (pc := 0) hx hb dX4_senders_0 rfl (lv_at hl 0 rfl) ?_
  refine va_get (pc := 1) (D := E.1) (ci := 2) (v := .ref a3) (C := RX4) (T := TX4) (N := 8) hx hb hts i_RX4 hown hK hP 0 rfl rfl 5 (Nat.le_of_ble_eq_true rfl) fl_28 (fun _ h9 => h9) rfl dX4_senders_1 ?_
  refine lv_iconst (pc := 4) (v := 0) hx hb dX4_senders_4 (by decide) ?_
  refine va_iald (pc := 5) (D := E.1) hx hb hK hP 3 0 rfl rfl (by decide : ¬ ((0 : Int32) < 0 ∨ 2 ≤ (0 : Int32).toNatClampNeg)) dX4_senders_5 ?_
  refine W.eq (g2 := F0 m 6 ls [.int (w.2.2.2.2.2.1 0)]) rfl ?_
  refine lv_iload_n (pc := 6) hx hb dX4_senders_6 rfl (lv_at hl 1 rfl) ?_
  refine lv_icmp_ne (pc := 7) (tgt := 14) hx hb dX4_senders_7 (by decide) (fun c_1 => ?_) (fun c_1 => ?_)
  · have hq := pv_neg c_1 hq
    refine lv_iconst (pc := 14) (v := 0) hx hb dX4_senders_14 (by decide) ?_
    exact B_15 x1 0 locs ls hS (lv_sub hl [0, 1] rfl) hq
  · have hq := pv_pos c_1 hq
    refine lv_iconst (pc := 10) (v := 1) hx hb dX4_senders_10 (by decide) ?_
    refine lv_goto (pc := 11) (tgt := 15) hx hb dX4_senders_11 (by decide) ?_
    exact B_15 x1 1 locs ls hS (lv_sub hl [0, 1] rfl) hq
def m_X4_ownedSet_26 (k_4 : Int32 → Int32 → Int32 → pv_TT → Option (Int32)) (x1 : Int32) (x2 : Int32) (x3 : Int32) (w : pv_TT) : Option (Int32) :=
  k_4 x1 x2 (x3 + 1) w
def m_X4_ownedSet_4 : Nat → Int32 → Int32 → Int32 → pv_TT → Option (Int32)
  | 0 => fun _ _ _ _ => none
  | n + 1 => fun x1 x2 x3 w =>
    if 8 ≤ x3 then (some x2) else (pv_gd x3 8 (if (w.2.2.2.1 x3.toNatClampNeg) = x1 then (m_X4_ownedSet_26 (m_X4_ownedSet_4 n) x1 (x2 ||| ((1 : Int32) <<< (x3 &&& 31))) x3 w) else (m_X4_ownedSet_26 (m_X4_ownedSet_4 n) x1 x2 x3 w)))
def m_X4_ownedSet (x1 : Int32) (w : pv_TT) : Option (Int32) :=
  m_X4_ownedSet_4 300 x1 0 0 w
abbrev r_X4_ownedSet : Room := { frames := 0, cells := 0, slots := 0, locals := 0 }
set_option maxHeartbeats 4000000 in
set_option maxRecDepth 100000 in
theorem c_X4_ownedSet (l : Launch) (E : pv_E) (a0 a1 a2 a3 a4 a5 : Nat) (x1 : Int32) (w : pv_TT) (F : Int32) (hq : m_X4_ownedSet x1 w = some F) : pv_RO l E yX4_ownedSet wsX4_ownedSet r_X4_ownedSet (pv_wT E a0 a1 a2 a3 a4 a5 w) [.ref a0, .int x1] (some (.int F)) := by
  intro sz
  refine pv_mk (by decide) rfl (Nat.le_of_ble_eq_true rfl) ?_
  intro p e s m args below meth c A hx hb hr hml hown hts hlk hAe hP hD0 hA hE hS ls hl
  have hown : s.vm.findClass RX4 = some m.cls := hown
  have hK := hE.1
  have hD := hD0
  have fl_21 : (Cond.fieldLink RX4 21 "ProvinceCards$Table" "owner" "[I").before args s = true := hts _ (by decide +kernel)
  have i_RX4 : ∀ w ∈ wsX40, w ∈ wsX4_ownedSet := by decide +kernel
  have hl : lv_has ls 4 [(0, .ref a0), (1, .int x1)] := hl
  have B_26 : ∀ (k_4 : Int32 → Int32 → Int32 → pv_TT → Option (Int32)), (∀ (x1 : Int32) (x2 : Int32) (x3 : Int32) (locs : List Loc) (ls : Array Slot), va_S A s.heap s.heap locs → lv_has ls 4 [(0, .ref a0), (1, .int x1), (2, .int x2), (3, .int x3)] → k_4 x1 x2 x3 w = some F → W p l e r_X4_ownedSet s m args below meth c s.heap locs 0 0 (MQ below (pv_Ro (some (.int F))) args s 0 0 A) (F0 m 4 ls [])) → ∀ (x1 : Int32) (x2 : Int32) (x3 : Int32) (locs : List Loc) (ls : Array Slot), va_S A s.heap s.heap locs → lv_has ls 4 [(0, .ref a0), (1, .int x1), (2, .int x2), (3, .int x3)] → m_X4_ownedSet_26 k_4 x1 x2 x3 w = some F → W p l e r_X4_ownedSet s m args below meth c s.heap locs 0 0 (MQ below (pv_Ro (some (.int F))) args s 0 0 A) (F0 m 26 ls []) := by
    intro k_4 hk_4
    intro x1 x2 x3 locs ls hS hl hq
    refine lv_iinc (pc := 26) (v := (x3 + 1)) (lv' := [(3, .int (x3 + 1)), (0, .ref a0), (1, .int x1), (2, .int x2)]) hx hb dX4_ownedSet_26 hl (k := 3) rfl rfl (Nat.le_of_ble_eq_true rfl) rfl (fun ls hl => ?_)
    refine lv_goto (pc := 29) (tgt := 4) hx hb dX4_ownedSet_29 (by decide) ?_
    exact hk_4 x1 x2 (x3 + 1) locs ls hS (lv_sub hl [1, 2, 3, 0] rfl) hq
  have L_4 : ∀ n : Nat, ∀ (x1 : Int32) (x2 : Int32) (x3 : Int32) (locs : List Loc) (ls : Array Slot), va_S A s.heap s.heap locs → lv_has ls 4 [(0, .ref a0), (1, .int x1), (2, .int x2), (3, .int x3)] → m_X4_ownedSet_4 n x1 x2 x3 w = some F → W p l e r_X4_ownedSet s m args below meth c s.heap locs 0 0 (MQ below (pv_Ro (some (.int F))) args s 0 0 A) (F0 m 4 ls []) := by
    intro n
    induction n with
    | zero =>
      intro x1 x2 x3 locs ls hS hl hq
      exact (pv_no hq).elim
    | succ n ih =>
      intro x1 x2 x3 locs ls hS hl hq
      refine lv_iload_n (pc := 4) hx hb dX4_ownedSet_4 rfl (lv_at hl 3 rfl) ?_
      refine lv_bipush (pc := 5) (v := 8) hx hb dX4_ownedSet_5 (by decide) ?_
      refine lv_icmp_ge (pc := 7) (tgt := 32) hx hb dX4_ownedSet_7 (by decide) (fun c_1 => ?_) (fun c_1 => ?_)
      · have hq := pv_pos c_1 hq
        refine lv_iload_n (pc := 32) hx hb dX4_ownedSet_32 rfl (lv_at hl 2 rfl) ?_
        exact pv_riRO hx hb hr hlk hS (Option.some.inj hq) dX4_ownedSet_33
      · have hq := pv_neg c_1 hq
        refine lv_aload_n (pc := 10) hx hb dX4_ownedSet_10 rfl (lv_at hl 0 rfl) ?_
        refine va_get (pc := 11) (D := E.1) (ci := 2) (v := .ref a1) (C := RX4) (T := TX4) (N := 8) hx hb hts i_RX4 hown hK hP 0 rfl rfl 3 (Nat.le_of_ble_eq_true rfl) fl_21 (fun _ h9 => h9) rfl dX4_ownedSet_11 ?_
        refine lv_iload_n (pc := 14) hx hb dX4_ownedSet_14 rfl (lv_at hl 3 rfl) ?_
        obtain ⟨h_2, hq⟩ := pv_gd_some hq
        refine va_iald (pc := 15) (D := E.1) hx hb hK hP 1 0 rfl rfl h_2 dX4_ownedSet_15 ?_
        refine lv_iload_n (pc := 16) hx hb dX4_ownedSet_16 rfl (lv_at hl 1 rfl) ?_
        refine lv_icmp_ne (pc := 17) (tgt := 26) hx hb dX4_ownedSet_17 (by decide) (fun c_3 => ?_) (fun c_3 => ?_)
        · have hq := pv_neg c_3 hq
          exact B_26 (m_X4_ownedSet_4 n) ih x1 x2 x3 locs ls hS (lv_sub hl [0, 1, 2, 3] rfl) hq
        · have hq := pv_pos c_3 hq
          refine lv_iload_n (pc := 20) hx hb dX4_ownedSet_20 rfl (lv_at hl 2 rfl) ?_
          refine lv_iconst (pc := 21) (v := 1) hx hb dX4_ownedSet_21 (by decide) ?_
          refine lv_iload_n (pc := 22) hx hb dX4_ownedSet_22 rfl (lv_at hl 3 rfl) ?_
          refine lv_ishl (pc := 23) hx hb dX4_ownedSet_23 ?_
          refine lv_ior (pc := 24) hx hb dX4_ownedSet_24 ?_
          refine lv_istore_n (pc := 25) (lv' := [(2, .int (x2 ||| ((1 : Int32) <<< (x3 &&& 31)))), (0, .ref a0), (1, .int x1), (3, .int x3)]) hx hb dX4_ownedSet_25 rfl hl (Nat.le_of_ble_eq_true rfl) rfl (fun ls hl => ?_)
          exact B_26 (m_X4_ownedSet_4 n) ih x1 (x2 ||| ((1 : Int32) <<< (x3 &&& 31))) x3 locs ls hS (lv_sub hl [1, 2, 0, 3] rfl) hq
  suffices M0 : ∀ (locs : List Loc), va_S A s.heap s.heap locs → W p l e r_X4_ownedSet s m args below meth c s.heap locs 0 0 (MQ below (pv_Ro (some (.int F))) args s 0 0 A) (F0 m 0 ls []) from M0 [] hS
  intro locs hS
  refine lv_iconst (pc := 0) (v := 0) hx hb dX4_ownedSet_0 (by decide) ?_
  refine lv_istore_n (pc := 1) (lv' := [(2, .int 0), (0, .ref a0), (1, .int x1)]) hx hb dX4_ownedSet_1 rfl hl (Nat.le_of_ble_eq_true rfl) rfl (fun ls hl => ?_)
  refine lv_iconst (pc := 2) (v := 0) hx hb dX4_ownedSet_2 (by decide) ?_
  refine lv_istore_n (pc := 3) (lv' := [(3, .int 0), (2, .int 0), (0, .ref a0), (1, .int x1)]) hx hb dX4_ownedSet_3 rfl hl (Nat.le_of_ble_eq_true rfl) rfl (fun ls hl => ?_)
  exact L_4 300 x1 0 0 locs ls hS (lv_sub hl [2, 3, 1, 0] rfl) hq
def m_X4_owned (x1 : Int32) (w : pv_TT) : Option (Int32) :=
  Option.bind (m_X4_ownedSet x1 w) fun u_1 => (some (m_J6_bitCount_0f7a4 u_1))
abbrev r_X4_owned : Room := { frames := 1, cells := 0, slots := 0, locals := 23 }
set_option maxHeartbeats 4000000 in
set_option maxRecDepth 100000 in
theorem c_X4_owned (l : Launch) (E : pv_E) (a0 a1 a2 a3 a4 a5 : Nat) (x1 : Int32) (w : pv_TT) (F : Int32) (hq : m_X4_owned x1 w = some F) : pv_RO l E yX4_owned wsX4_owned r_X4_owned (pv_wT E a0 a1 a2 a3 a4 a5 w) [.ref a0, .int x1] (some (.int F)) := by
  intro sz
  refine pv_mk (by decide) rfl (Nat.le_of_ble_eq_true rfl) ?_
  intro p e s m args below meth c A hx hb hr hml hown hts hlk hAe hP hD0 hA hE hS ls hl
  have hown : s.vm.findClass RX4 = some m.cls := hown
  have hK := hE.1
  have hD := hD0
  have hl : lv_has ls 2 [(0, .ref a0), (1, .int x1)] := hl
  suffices M0 : ∀ (locs : List Loc), va_S A s.heap s.heap locs → W p l e r_X4_owned s m args below meth c s.heap locs 0 0 (MQ below (pv_Ro (some (.int F))) args s 0 0 A) (F0 m 0 ls []) from M0 [] hS
  intro locs hS
  refine lv_aload_n (pc := 0) hx hb dX4_owned_0 rfl (lv_at hl 0 rfl) ?_
  refine lv_iload_n (pc := 1) hx hb dX4_owned_1 rfl (lv_at hl 1 rfl) ?_
  obtain ⟨u_1, hu_1, hq⟩ := pv_bind hq
  refine pv_vROf (pc := 2) (rest := []) (st1 := [.int u_1]) (ws := pv_wT E a0 a1 a2 a3 a4 a5 w) [.int x1] ⟨hx, hb, hml, hown, hts⟩ hE hA hS hP hD (c_X4_ownedSet l E a0 a1 a2 a3 a4 a5 x1 w u_1 hu_1) (cwV 1 hts gX4_owned_X4_ownedSet rfl rfl rfl (by decide +kernel) ⟨(Nat.le_of_ble_eq_true rfl), (Nat.le_of_ble_eq_true rfl)⟩) (va_recv hK hP (ci := 2) (q0 := 0) rfl rfl) rfl hl.1 rfl rfl (Nat.le_of_ble_eq_true rfl) dX4_owned_2 ⟨Nat.zero_le _, Nat.zero_le _⟩ (fun locs hS => ?_)
  refine pv_sRO (pc := 5) (rest := []) (st1 := [.int (m_J6_bitCount_0f7a4 u_1)]) (ws := pv_wT E a0 a1 a2 a3 a4 a5 w) [.int u_1] ⟨hx, hb, hml, hown, hts⟩ hE hA hS hP hD (c_J6_bitCount_0f7a4 l E u_1) (va_cwS 1 hts gX4_owned_J6_bitCount_0f7a4 rfl rfl rfl (by decide +kernel) ⟨(Nat.le_of_ble_eq_true rfl), (Nat.le_of_ble_eq_true rfl)⟩) [] rfl rfl rfl hl.1 rfl rfl (Nat.le_of_ble_eq_true rfl) dX4_owned_5 ⟨Nat.zero_le _, Nat.zero_le _⟩ (fun locs hS => ?_)
  exact pv_riRO hx hb hr hlk hS (Option.some.inj hq) dX4_owned_8
def m_X4_winsTogether_4 : Nat → Int32 → Int32 → pv_TT → Option (Int32)
  | 0 => fun _ _ _ => none
  | n + 1 => fun x1 x2 w =>
    if w.2.2.1 ≤ x2 then (some x1) else (pv_gd x2 8 ((m_X4_winsTogether_4 n) (x1 + (w.2.2.2.2.2.2.2 x2.toNatClampNeg)) (x2 + 1) w))
def m_X4_winsTogether  (w : pv_TT) : Option (Int32) :=
  m_X4_winsTogether_4 300 0 0 w
abbrev r_X4_winsTogether : Room := { frames := 0, cells := 0, slots := 0, locals := 0 }
set_option maxHeartbeats 4000000 in
set_option maxRecDepth 100000 in
theorem c_X4_winsTogether (l : Launch) (E : pv_E) (a0 a1 a2 a3 a4 a5 : Nat)  (w : pv_TT) (F : Int32) (hq : m_X4_winsTogether w = some F) : pv_RO l E yX4_winsTogether wsX4_winsTogether r_X4_winsTogether (pv_wT E a0 a1 a2 a3 a4 a5 w) [.ref a0] (some (.int F)) := by
  intro sz
  refine pv_mk (by decide) rfl (Nat.le_of_ble_eq_true rfl) ?_
  intro p e s m args below meth c A hx hb hr hml hown hts hlk hAe hP hD0 hA hE hS ls hl
  have hown : s.vm.findClass RX4 = some m.cls := hown
  have hK := hE.1
  have hD := hD0
  have fl_18 : (Cond.fieldLink RX4 18 "ProvinceCards$Table" "envoys" "I").before args s = true := hts _ (by decide +kernel)
  have fl_34 : (Cond.fieldLink RX4 34 "ProvinceCards$Table" "wins" "[I").before args s = true := hts _ (by decide +kernel)
  have i_RX4 : ∀ w ∈ wsX40, w ∈ wsX4_winsTogether := by decide +kernel
  have hl : lv_has ls 3 [(0, .ref a0)] := hl
  have L_4 : ∀ n : Nat, ∀ (x1 : Int32) (x2 : Int32) (locs : List Loc) (ls : Array Slot), va_S A s.heap s.heap locs → lv_has ls 3 [(0, .ref a0), (1, .int x1), (2, .int x2)] → m_X4_winsTogether_4 n x1 x2 w = some F → W p l e r_X4_winsTogether s m args below meth c s.heap locs 0 0 (MQ below (pv_Ro (some (.int F))) args s 0 0 A) (F0 m 4 ls []) := by
    intro n
    induction n with
    | zero =>
      intro x1 x2 locs ls hS hl hq
      exact (pv_no hq).elim
    | succ n ih =>
      intro x1 x2 locs ls hS hl hq
      refine lv_iload_n (pc := 4) hx hb dX4_winsTogether_4 rfl (lv_at hl 2 rfl) ?_
      refine lv_aload_n (pc := 5) hx hb dX4_winsTogether_5 rfl (lv_at hl 0 rfl) ?_
      refine va_get (pc := 6) (D := E.1) (ci := 2) (v := .int w.2.2.1) (C := RX4) (T := TX4) (N := 8) hx hb hts i_RX4 hown hK hP 0 rfl rfl 2 (Nat.le_of_ble_eq_true rfl) fl_18 (fun _ h9 => h9) rfl dX4_winsTogether_6 ?_
      refine lv_icmp_ge (pc := 9) (tgt := 27) hx hb dX4_winsTogether_9 (by decide) (fun c_1 => ?_) (fun c_1 => ?_)
      · have hq := pv_pos c_1 hq
        refine lv_iload_n (pc := 27) hx hb dX4_winsTogether_27 rfl (lv_at hl 1 rfl) ?_
        exact pv_riRO hx hb hr hlk hS (Option.some.inj hq) dX4_winsTogether_28
      · have hq := pv_neg c_1 hq
        refine lv_iload_n (pc := 12) hx hb dX4_winsTogether_12 rfl (lv_at hl 1 rfl) ?_
        refine lv_aload_n (pc := 13) hx hb dX4_winsTogether_13 rfl (lv_at hl 0 rfl) ?_
        refine va_get (pc := 14) (D := E.1) (ci := 2) (v := .ref a5) (C := RX4) (T := TX4) (N := 8) hx hb hts i_RX4 hown hK hP 0 rfl rfl 7 (Nat.le_of_ble_eq_true rfl) fl_34 (fun _ h9 => h9) rfl dX4_winsTogether_14 ?_
        refine lv_iload_n (pc := 17) hx hb dX4_winsTogether_17 rfl (lv_at hl 2 rfl) ?_
        obtain ⟨h_2, hq⟩ := pv_gd_some hq
        refine va_iald (pc := 18) (D := E.1) hx hb hK hP 5 0 rfl rfl h_2 dX4_winsTogether_18 ?_
        refine lv_iadd (pc := 19) hx hb dX4_winsTogether_19 ?_
        refine lv_istore_n (pc := 20) (lv' := [(1, .int (x1 + (w.2.2.2.2.2.2.2 x2.toNatClampNeg))), (0, .ref a0), (2, .int x2)]) hx hb dX4_winsTogether_20 rfl hl (Nat.le_of_ble_eq_true rfl) rfl (fun ls hl => ?_)
        refine lv_iinc (pc := 21) (v := (x2 + 1)) (lv' := [(2, .int (x2 + 1)), (1, .int (x1 + (w.2.2.2.2.2.2.2 x2.toNatClampNeg))), (0, .ref a0)]) hx hb dX4_winsTogether_21 hl (k := 2) rfl rfl (Nat.le_of_ble_eq_true rfl) rfl (fun ls hl => ?_)
        refine lv_goto (pc := 24) (tgt := 4) hx hb dX4_winsTogether_24 (by decide) ?_
        exact ih (x1 + (w.2.2.2.2.2.2.2 x2.toNatClampNeg)) (x2 + 1) locs ls hS (lv_sub hl [2, 1, 0] rfl) hq
  suffices M0 : ∀ (locs : List Loc), va_S A s.heap s.heap locs → W p l e r_X4_winsTogether s m args below meth c s.heap locs 0 0 (MQ below (pv_Ro (some (.int F))) args s 0 0 A) (F0 m 0 ls []) from M0 [] hS
  intro locs hS
  refine lv_iconst (pc := 0) (v := 0) hx hb dX4_winsTogether_0 (by decide) ?_
  refine lv_istore_n (pc := 1) (lv' := [(1, .int 0), (0, .ref a0)]) hx hb dX4_winsTogether_1 rfl hl (Nat.le_of_ble_eq_true rfl) rfl (fun ls hl => ?_)
  refine lv_iconst (pc := 2) (v := 0) hx hb dX4_winsTogether_2 (by decide) ?_
  refine lv_istore_n (pc := 3) (lv' := [(2, .int 0), (1, .int 0), (0, .ref a0)]) hx hb dX4_winsTogether_3 rfl hl (Nat.le_of_ble_eq_true rfl) rfl (fun ls hl => ?_)
  exact L_4 300 0 0 locs ls hS (lv_sub hl [2, 1, 0] rfl) hq
def m_X4_seat (x1 : Int32) (w : pv_TT) : Option (Int32 × pv_TT) :=
  if w.2.2.1 < 8 then (pv_gd w.2.2.1 8 (pv_gd w.2.2.1 8 (some (((w.2.2.1 + 1) - 1), (w.1, w.2.1, (w.2.2.1 + 1), w.2.2.2.1, w.2.2.2.2.1, w.2.2.2.2.2.1, (upd w.2.2.2.2.2.2.1 w.2.2.1.toNatClampNeg x1), (upd w.2.2.2.2.2.2.2 w.2.2.1.toNatClampNeg 0)))))) else (some ((-1), w))
abbrev r_X4_seat : Room := { frames := 0, cells := 0, slots := 0, locals := 0 }
set_option maxHeartbeats 4000000 in
set_option maxRecDepth 100000 in
theorem c_X4_seat (l : Launch) (E : pv_E) (a0 a1 a2 a3 a4 a5 : Nat) (x1 : Int32) (w0 : pv_TT) (F : Int32 × pv_TT) (hq : m_X4_seat x1 w0 = some F) : pv_RW l E yX4_seat wsX4_seat r_X4_seat (pv_wT E a0 a1 a2 a3 a4 a5 w0) [.ref a0, .int x1] (some (.int F.1)) (pv_wT E a0 a1 a2 a3 a4 a5 F.2) := by
  intro sz
  refine pv_mk (by decide) rfl (Nat.le_of_ble_eq_true rfl) ?_
  intro p e s m args below meth c A hx hb hr hml hown hts hlk hAe hP hD0 hA hE hS ls hl
  have hown : s.vm.findClass RX4 = some m.cls := hown
  have hK := hE.1
  have hD : ∀ w : pv_TT, va_D A (pv_wT E a0 a1 a2 a3 a4 a5 w) := fun w => pv_Dm (ws := pv_wT E a0 a1 a2 a3 a4 a5 w0) (ws' := pv_wT E a0 a1 a2 a3 a4 a5 w) rfl hD0
  have hP : va_P E.1 vwCl (pv_wT E a0 a1 a2 a3 a4 a5 w0) s.heap := hP
  have fl_18 : (Cond.fieldLink RX4 18 "ProvinceCards$Table" "envoys" "I").before args s = true := hts _ (by decide +kernel)
  have fl_31 : (Cond.fieldLink RX4 31 "ProvinceCards$Table" "kinds" "[I").before args s = true := hts _ (by decide +kernel)
  have fl_34 : (Cond.fieldLink RX4 34 "ProvinceCards$Table" "wins" "[I").before args s = true := hts _ (by decide +kernel)
  have i_RX4 : ∀ w ∈ wsX40, w ∈ wsX4_seat := by decide +kernel
  have hl : lv_has ls 2 [(0, .ref a0), (1, .int x1)] := hl
  suffices M0 : ∀ (H : Heap) (locs : List Loc), va_P E.1 vwCl (pv_wT E a0 a1 a2 a3 a4 a5 w0) H → va_S A s.heap H locs → W p l e r_X4_seat s m args below meth c H locs 0 0 (MQ below (pv_Rw E (pv_wT E a0 a1 a2 a3 a4 a5 w0) sz (some (.int F.1)) ((fun w : pv_TT => pv_wT E a0 a1 a2 a3 a4 a5 w) F.2)) args s 0 0 A) (F0 m 0 ls []) from M0 s.heap [] hP hS
  intro H locs hP hS
  refine lv_aload_n (pc := 0) hx hb dX4_seat_0 rfl (lv_at hl 0 rfl) ?_
  refine va_get (pc := 1) (D := E.1) (ci := 2) (v := .int w0.2.2.1) (C := RX4) (T := TX4) (N := 8) hx hb hts i_RX4 hown hK hP 0 rfl rfl 2 (Nat.le_of_ble_eq_true rfl) fl_18 (fun _ h9 => h9) rfl dX4_seat_1 ?_
  refine lv_bipush (pc := 4) (v := 8) hx hb dX4_seat_4 (by decide) ?_
  refine lv_icmp_lt (pc := 6) (tgt := 11) hx hb dX4_seat_6 (by decide) (fun c_1 => ?_) (fun c_1 => ?_)
  · have hq := pv_pos c_1 hq
    refine lv_aload_n (pc := 11) hx hb dX4_seat_11 rfl (lv_at hl 0 rfl) ?_
    refine va_get (pc := 12) (D := E.1) (ci := 2) (v := .ref a4) (C := RX4) (T := TX4) (N := 8) hx hb hts i_RX4 hown hK hP 0 rfl rfl 6 (Nat.le_of_ble_eq_true rfl) fl_31 (fun _ h9 => h9) rfl dX4_seat_12 ?_
    refine lv_aload_n (pc := 15) hx hb dX4_seat_15 rfl (lv_at hl 0 rfl) ?_
    refine va_get (pc := 16) (D := E.1) (ci := 2) (v := .int w0.2.2.1) (C := RX4) (T := TX4) (N := 8) hx hb hts i_RX4 hown hK hP 0 rfl rfl 2 (Nat.le_of_ble_eq_true rfl) fl_18 (fun _ h9 => h9) rfl dX4_seat_16 ?_
    refine lv_iload_n (pc := 19) hx hb dX4_seat_19 rfl (lv_at hl 1 rfl) ?_
    obtain ⟨h_2, hq⟩ := pv_gd_some hq
    refine va_iast (pc := 20) (D := E.1) hx hb hK hP (hD w0) hS 4 0 rfl rfl h_2 dX4_seat_20 (fun H locs hP _ hS => ?_)
    have hP : va_P E.1 vwCl (pv_wT E a0 a1 a2 a3 a4 a5 (w0.1, w0.2.1, w0.2.2.1, w0.2.2.2.1, w0.2.2.2.2.1, w0.2.2.2.2.2.1, (upd w0.2.2.2.2.2.2.1 w0.2.2.1.toNatClampNeg x1), w0.2.2.2.2.2.2.2)) H := hP
    refine lv_aload_n (pc := 21) hx hb dX4_seat_21 rfl (lv_at hl 0 rfl) ?_
    refine va_get (pc := 22) (D := E.1) (ci := 2) (v := .ref a5) (C := RX4) (T := TX4) (N := 8) hx hb hts i_RX4 hown hK hP 0 rfl rfl 7 (Nat.le_of_ble_eq_true rfl) fl_34 (fun _ h9 => h9) rfl dX4_seat_22 ?_
    refine lv_aload_n (pc := 25) hx hb dX4_seat_25 rfl (lv_at hl 0 rfl) ?_
    refine va_get (pc := 26) (D := E.1) (ci := 2) (v := .int w0.2.2.1) (C := RX4) (T := TX4) (N := 8) hx hb hts i_RX4 hown hK hP 0 rfl rfl 2 (Nat.le_of_ble_eq_true rfl) fl_18 (fun _ h9 => h9) rfl dX4_seat_26 ?_
    refine lv_iconst (pc := 29) (v := 0) hx hb dX4_seat_29 (by decide) ?_
    obtain ⟨h_3, hq⟩ := pv_gd_some hq
    refine va_iast (pc := 30) (D := E.1) hx hb hK hP (hD (w0.1, w0.2.1, w0.2.2.1, w0.2.2.2.1, w0.2.2.2.2.1, w0.2.2.2.2.2.1, (upd w0.2.2.2.2.2.2.1 w0.2.2.1.toNatClampNeg x1), w0.2.2.2.2.2.2.2)) hS 5 0 rfl rfl h_3 dX4_seat_30 (fun H locs hP _ hS => ?_)
    have hP : va_P E.1 vwCl (pv_wT E a0 a1 a2 a3 a4 a5 (w0.1, w0.2.1, w0.2.2.1, w0.2.2.2.1, w0.2.2.2.2.1, w0.2.2.2.2.2.1, (upd w0.2.2.2.2.2.2.1 w0.2.2.1.toNatClampNeg x1), (upd w0.2.2.2.2.2.2.2 w0.2.2.1.toNatClampNeg 0))) H := hP
    refine lv_aload_n (pc := 31) hx hb dX4_seat_31 rfl (lv_at hl 0 rfl) ?_
    refine lv_dup (pc := 32) hx hb dX4_seat_32 rfl ?_
    refine va_get (pc := 33) (D := E.1) (ci := 2) (v := .int w0.2.2.1) (C := RX4) (T := TX4) (N := 8) hx hb hts i_RX4 hown hK hP 0 rfl rfl 2 (Nat.le_of_ble_eq_true rfl) fl_18 (fun _ h9 => h9) rfl dX4_seat_33 ?_
    refine lv_iconst (pc := 36) (v := 1) hx hb dX4_seat_36 (by decide) ?_
    refine lv_iadd (pc := 37) hx hb dX4_seat_37 ?_
    refine va_put (pc := 38) (D := E.1) (ci := 2) (v := .int (w0.2.2.1 + 1)) (ty := .int) (C := RX4) (T := TX4) (N := 8) hx hb hts i_RX4 tyX4 tyX4_ok nmX4 hown hK hP (hD (w0.1, w0.2.1, w0.2.2.1, w0.2.2.2.1, w0.2.2.2.2.1, w0.2.2.2.2.2.1, (upd w0.2.2.2.2.2.2.1 w0.2.2.1.toNatClampNeg x1), (upd w0.2.2.2.2.2.2.2 w0.2.2.1.toNatClampNeg 0))) hS 0 rfl rfl 2 (Nat.le_of_ble_eq_true rfl) fl_18 (fun _ h9 => h9) rfl (tyX4_ok 2 (Nat.le_of_ble_eq_true rfl)) rfl rfl (Nat.le_of_ble_eq_true rfl) dX4_seat_38 (fun H locs hP _ hS => ?_)
    have hP : va_P E.1 vwCl (pv_wT E a0 a1 a2 a3 a4 a5 (w0.1, w0.2.1, (w0.2.2.1 + 1), w0.2.2.2.1, w0.2.2.2.2.1, w0.2.2.2.2.2.1, (upd w0.2.2.2.2.2.2.1 w0.2.2.1.toNatClampNeg x1), (upd w0.2.2.2.2.2.2.2 w0.2.2.1.toNatClampNeg 0))) H := hP
    refine lv_aload_n (pc := 41) hx hb dX4_seat_41 rfl (lv_at hl 0 rfl) ?_
    refine va_get (pc := 42) (D := E.1) (ci := 2) (v := .int (w0.2.2.1 + 1)) (C := RX4) (T := TX4) (N := 8) hx hb hts i_RX4 hown hK hP 0 rfl rfl 2 (Nat.le_of_ble_eq_true rfl) fl_18 (fun _ h9 => h9) rfl dX4_seat_42 ?_
    refine lv_iconst (pc := 45) (v := 1) hx hb dX4_seat_45 (by decide) ?_
    refine lv_isub (pc := 46) hx hb dX4_seat_46 ?_
    exact pv_riRW (w := fun w : pv_TT => pv_wT E a0 a1 a2 a3 a4 a5 w) hx hb hr hlk hAe hS hP (Option.some.inj hq) dX4_seat_47
  · have hq := pv_neg c_1 hq
    refine lv_iconst (pc := 9) (v := (-1)) hx hb dX4_seat_9 (by decide) ?_
    exact pv_riRW (w := fun w : pv_TT => pv_wT E a0 a1 a2 a3 a4 a5 w) hx hb hr hlk hAe hS hP (Option.some.inj hq) dX4_seat_10
def m_X4_close_12 : Nat → Int32 → pv_TT → Option (pv_TT)
  | 0 => fun _ _ => none
  | n + 1 => fun x2 w =>
    if 2 ≤ x2 then (some ((w.1 + 1), w.2.1, w.2.2.1, w.2.2.2.1, w.2.2.2.2.1, w.2.2.2.2.2.1, w.2.2.2.2.2.2.1, w.2.2.2.2.2.2.2)) else (pv_gd x2 2 (Option.bind (m_X4_owned x2 w) fun u_4 => (pv_gd x2 2 ((m_X4_close_12 n) (x2 + 1) (w.1, w.2.1, w.2.2.1, w.2.2.2.1, (upd w.2.2.2.2.1 x2.toNatClampNeg (if ((w.2.2.2.2.1 x2.toNatClampNeg) + u_4) < 99999 then ((w.2.2.2.2.1 x2.toNatClampNeg) + u_4) else 99999)), w.2.2.2.2.2.1, w.2.2.2.2.2.2.1, w.2.2.2.2.2.2.2)))))
def m_X4_close (x1 : Int32) (w : pv_TT) : Option (pv_TT) :=
  pv_gd (m_X4_stake w) 8 (m_X4_close_12 300 0 (w.1, w.2.1, w.2.2.1, (upd w.2.2.2.1 (m_X4_stake w).toNatClampNeg x1), w.2.2.2.2.1, w.2.2.2.2.2.1, w.2.2.2.2.2.2.1, w.2.2.2.2.2.2.2))
abbrev r_X4_close : Room := { frames := 2, cells := 0, slots := 0, locals := 44 }
set_option maxHeartbeats 4000000 in
set_option maxRecDepth 100000 in
theorem c_X4_close (l : Launch) (E : pv_E) (a0 a1 a2 a3 a4 a5 : Nat) (x1 : Int32) (w0 : pv_TT) (F : pv_TT) (hq : m_X4_close x1 w0 = some F) : pv_RW l E yX4_close wsX4_close r_X4_close (pv_wT E a0 a1 a2 a3 a4 a5 w0) [.ref a0, .int x1] (none) (pv_wT E a0 a1 a2 a3 a4 a5 F) := by
  intro sz
  refine pv_mk (by decide) rfl (Nat.le_of_ble_eq_true rfl) ?_
  intro p e s m args below meth c A hx hb hr hml hown hts hlk hAe hP hD0 hA hE hS ls hl
  have hown : s.vm.findClass RX4 = some m.cls := hown
  have hK := hE.1
  have hD : ∀ w : pv_TT, va_D A (pv_wT E a0 a1 a2 a3 a4 a5 w) := fun w => pv_Dm (ws := pv_wT E a0 a1 a2 a3 a4 a5 w0) (ws' := pv_wT E a0 a1 a2 a3 a4 a5 w) rfl hD0
  have hP : va_P E.1 vwCl (pv_wT E a0 a1 a2 a3 a4 a5 w0) s.heap := hP
  have fl_21 : (Cond.fieldLink RX4 21 "ProvinceCards$Table" "owner" "[I").before args s = true := hts _ (by decide +kernel)
  have fl_9 : (Cond.fieldLink RX4 9 "ProvinceCards$Table" "month" "I").before args s = true := hts _ (by decide +kernel)
  have fl_25 : (Cond.fieldLink RX4 25 "ProvinceCards$Table" "purse" "[I").before args s = true := hts _ (by decide +kernel)
  have lc_91 : (Cond.constant RX4 91 (99999)).before args s = true := hts _ (by decide +kernel)
  have mm_l : (Cond.methodLink RX4 95 Lib.Math.min.name).before args s = true := hts _ (by decide +kernel)
  have mm_s : (Cond.static Lib.Math.min.name).before args s = true := hts _ (by decide +kernel)
  have mm_i : (Cond.initialized "java/lang/Math").before args s = true := hts _ (by decide +kernel)
  have mm_c : (Cond.code Lib.Math.min.name Lib.Math.min.code 2 (some .int)).before args s = true := hts _ (by decide +kernel)
  have i_RX4 : ∀ w ∈ wsX40, w ∈ wsX4_close := by decide +kernel
  have hl : lv_has ls 3 [(0, .ref a0), (1, .int x1)] := hl
  have L_12 : ∀ n : Nat, ∀ (x2 : Int32) (w : pv_TT) (H : Heap) (locs : List Loc) (ls : Array Slot), va_P E.1 vwCl (pv_wT E a0 a1 a2 a3 a4 a5 w) H → va_S A s.heap H locs → lv_has ls 3 [(0, .ref a0), (2, .int x2)] → m_X4_close_12 n x2 w = some F → W p l e r_X4_close s m args below meth c H locs 0 0 (MQ below (pv_Rw E (pv_wT E a0 a1 a2 a3 a4 a5 w0) sz (none) ((fun w : pv_TT => pv_wT E a0 a1 a2 a3 a4 a5 w) F)) args s 0 0 A) (F0 m 12 ls []) := by
    intro n
    induction n with
    | zero =>
      intro x2 w H locs ls hP hS hl hq
      exact (pv_no hq).elim
    | succ n ih =>
      intro x2 w H locs ls hP hS hl hq
      refine lv_iload_n (pc := 12) hx hb dX4_close_12 rfl (lv_at hl 1 rfl) ?_
      refine lv_iconst (pc := 13) (v := 2) hx hb dX4_close_13 (by decide) ?_
      refine lv_icmp_ge (pc := 14) (tgt := 46) hx hb dX4_close_14 (by decide) (fun c_2 => ?_) (fun c_2 => ?_)
      · have hq := pv_pos c_2 hq
        refine lv_aload_n (pc := 46) hx hb dX4_close_46 rfl (lv_at hl 0 rfl) ?_
        refine lv_dup (pc := 47) hx hb dX4_close_47 rfl ?_
        refine va_get (pc := 48) (D := E.1) (ci := 2) (v := .int w.1) (C := RX4) (T := TX4) (N := 8) hx hb hts i_RX4 hown hK hP 0 rfl rfl 0 (Nat.le_of_ble_eq_true rfl) fl_9 (fun _ h9 => h9) rfl dX4_close_48 ?_
        refine lv_iconst (pc := 51) (v := 1) hx hb dX4_close_51 (by decide) ?_
        refine lv_iadd (pc := 52) hx hb dX4_close_52 ?_
        refine va_put (pc := 53) (D := E.1) (ci := 2) (v := .int (w.1 + 1)) (ty := .int) (C := RX4) (T := TX4) (N := 8) hx hb hts i_RX4 tyX4 tyX4_ok nmX4 hown hK hP (hD w) hS 0 rfl rfl 0 (Nat.le_of_ble_eq_true rfl) fl_9 (fun _ h9 => h9) rfl (tyX4_ok 0 (Nat.le_of_ble_eq_true rfl)) rfl rfl (Nat.le_of_ble_eq_true rfl) dX4_close_53 (fun H locs hP _ hS => ?_)
        have hP : va_P E.1 vwCl (pv_wT E a0 a1 a2 a3 a4 a5 ((w.1 + 1), w.2.1, w.2.2.1, w.2.2.2.1, w.2.2.2.2.1, w.2.2.2.2.2.1, w.2.2.2.2.2.2.1, w.2.2.2.2.2.2.2)) H := hP
        exact pv_rvRW (w := fun w : pv_TT => pv_wT E a0 a1 a2 a3 a4 a5 w) hx hb hr hlk hAe hS hP (Option.some.inj hq) dX4_close_56
      · have hq := pv_neg c_2 hq
        refine lv_aload_n (pc := 17) hx hb dX4_close_17 rfl (lv_at hl 0 rfl) ?_
        refine va_get (pc := 18) (D := E.1) (ci := 2) (v := .ref a2) (C := RX4) (T := TX4) (N := 8) hx hb hts i_RX4 hown hK hP 0 rfl rfl 4 (Nat.le_of_ble_eq_true rfl) fl_25 (fun _ h9 => h9) rfl dX4_close_18 ?_
        refine lv_iload_n (pc := 21) hx hb dX4_close_21 rfl (lv_at hl 1 rfl) ?_
        refine lv_ldc (pc := 22) hx hb hown lc_91 dX4_close_22 ?_
        refine lv_aload_n (pc := 24) hx hb dX4_close_24 rfl (lv_at hl 0 rfl) ?_
        refine va_get (pc := 25) (D := E.1) (ci := 2) (v := .ref a2) (C := RX4) (T := TX4) (N := 8) hx hb hts i_RX4 hown hK hP 0 rfl rfl 4 (Nat.le_of_ble_eq_true rfl) fl_25 (fun _ h9 => h9) rfl dX4_close_25 ?_
        refine lv_iload_n (pc := 28) hx hb dX4_close_28 rfl (lv_at hl 1 rfl) ?_
        obtain ⟨h_3, hq⟩ := pv_gd_some hq
        refine va_iald (pc := 29) (D := E.1) hx hb hK hP 2 0 rfl rfl h_3 dX4_close_29 ?_
        refine lv_aload_n (pc := 30) hx hb dX4_close_30 rfl (lv_at hl 0 rfl) ?_
        refine lv_iload_n (pc := 31) hx hb dX4_close_31 rfl (lv_at hl 1 rfl) ?_
        obtain ⟨u_4, hu_4, hq⟩ := pv_bind hq
        refine pv_vROf (pc := 32) (rest := [.int (w.2.2.2.2.1 x2.toNatClampNeg), .int 99999, .int x2, .ref a2]) (st1 := [.int u_4, .int (w.2.2.2.2.1 x2.toNatClampNeg), .int 99999, .int x2, .ref a2]) (ws := pv_wT E a0 a1 a2 a3 a4 a5 w) [.int x2] ⟨hx, hb, hml, hown, hts⟩ hE hA hS hP (hD w) (c_X4_owned l E a0 a1 a2 a3 a4 a5 x2 w u_4 hu_4) (cwV 1 hts gX4_close_X4_owned rfl rfl rfl (by decide +kernel) ⟨(Nat.le_of_ble_eq_true rfl), (Nat.le_of_ble_eq_true rfl)⟩) (va_recv hK hP (ci := 2) (q0 := 0) rfl rfl) rfl hl.1 rfl rfl (Nat.le_of_ble_eq_true rfl) dX4_close_32 ⟨Nat.zero_le _, Nat.zero_le _⟩ (fun locs hS => ?_)
        refine lv_iadd (pc := 35) hx hb dX4_close_35 ?_
        refine va_mmin (pc := 36) hx hb (by rw [hml]; exact hl.1.symm) hown mm_l mm_s mm_i mm_c (Nat.le_of_ble_eq_true rfl) (Nat.le_of_ble_eq_true rfl) (Nat.zero_le _) (Nat.zero_le _) dX4_close_36 ?_
        obtain ⟨h_5, hq⟩ := pv_gd_some hq
        refine va_iast (pc := 39) (D := E.1) hx hb hK hP (hD w) hS 2 0 rfl rfl h_5 dX4_close_39 (fun H locs hP _ hS => ?_)
        have hP : va_P E.1 vwCl (pv_wT E a0 a1 a2 a3 a4 a5 (w.1, w.2.1, w.2.2.1, w.2.2.2.1, (upd w.2.2.2.2.1 x2.toNatClampNeg (if ((w.2.2.2.2.1 x2.toNatClampNeg) + u_4) < 99999 then ((w.2.2.2.2.1 x2.toNatClampNeg) + u_4) else 99999)), w.2.2.2.2.2.1, w.2.2.2.2.2.2.1, w.2.2.2.2.2.2.2)) H := hP
        refine lv_iinc (pc := 40) (v := (x2 + 1)) (lv' := [(2, .int (x2 + 1)), (0, .ref a0)]) hx hb dX4_close_40 hl (k := 1) rfl rfl (Nat.le_of_ble_eq_true rfl) rfl (fun ls hl => ?_)
        refine lv_goto (pc := 43) (tgt := 12) hx hb dX4_close_43 (by decide) ?_
        exact ih (x2 + 1) (w.1, w.2.1, w.2.2.1, w.2.2.2.1, (upd w.2.2.2.2.1 x2.toNatClampNeg (if ((w.2.2.2.2.1 x2.toNatClampNeg) + u_4) < 99999 then ((w.2.2.2.2.1 x2.toNatClampNeg) + u_4) else 99999)), w.2.2.2.2.2.1, w.2.2.2.2.2.2.1, w.2.2.2.2.2.2.2) H locs ls hP hS (lv_sub hl [1, 0] rfl) hq
  suffices M0 : ∀ (H : Heap) (locs : List Loc), va_P E.1 vwCl (pv_wT E a0 a1 a2 a3 a4 a5 w0) H → va_S A s.heap H locs → W p l e r_X4_close s m args below meth c H locs 0 0 (MQ below (pv_Rw E (pv_wT E a0 a1 a2 a3 a4 a5 w0) sz (none) ((fun w : pv_TT => pv_wT E a0 a1 a2 a3 a4 a5 w) F)) args s 0 0 A) (F0 m 0 ls []) from M0 s.heap [] hP hS
  intro H locs hP hS
  refine lv_aload_n (pc := 0) hx hb dX4_close_0 rfl (lv_at hl 0 rfl) ?_
  refine va_get (pc := 1) (D := E.1) (ci := 2) (v := .ref a1) (C := RX4) (T := TX4) (N := 8) hx hb hts i_RX4 hown hK hP 0 rfl rfl 3 (Nat.le_of_ble_eq_true rfl) fl_21 (fun _ h9 => h9) rfl dX4_close_1 ?_
  refine lv_aload_n (pc := 4) hx hb dX4_close_4 rfl (lv_at hl 0 rfl) ?_
  refine pv_vROf (pc := 5) (rest := [.ref a1]) (st1 := [.int (m_X4_stake w0), .ref a1]) (ws := pv_wT E a0 a1 a2 a3 a4 a5 w0) [] ⟨hx, hb, hml, hown, hts⟩ hE hA hS hP (hD w0) (c_X4_stake l E a0 a1 a2 a3 a4 a5 w0) (cwV 0 hts gX4_close_X4_stake rfl rfl rfl (by decide +kernel) ⟨(Nat.le_of_ble_eq_true rfl), (Nat.le_of_ble_eq_true rfl)⟩) (va_recv hK hP (ci := 2) (q0 := 0) rfl rfl) rfl hl.1 rfl rfl (Nat.le_of_ble_eq_true rfl) dX4_close_5 ⟨Nat.zero_le _, Nat.zero_le _⟩ (fun locs hS => ?_)
  refine lv_iload_n (pc := 8) hx hb dX4_close_8 rfl (lv_at hl 1 rfl) ?_
  obtain ⟨h_1, hq⟩ := pv_gd_some hq
  refine va_iast (pc := 9) (D := E.1) hx hb hK hP (hD w0) hS 1 0 rfl rfl h_1 dX4_close_9 (fun H locs hP _ hS => ?_)
  have hP : va_P E.1 vwCl (pv_wT E a0 a1 a2 a3 a4 a5 (w0.1, w0.2.1, w0.2.2.1, (upd w0.2.2.2.1 (m_X4_stake w0).toNatClampNeg x1), w0.2.2.2.2.1, w0.2.2.2.2.2.1, w0.2.2.2.2.2.2.1, w0.2.2.2.2.2.2.2)) H := hP
  refine lv_iconst (pc := 10) (v := 0) hx hb dX4_close_10 (by decide) ?_
  refine lv_istore_n (pc := 11) (lv' := [(2, .int 0), (0, .ref a0), (1, .int x1)]) hx hb dX4_close_11 rfl hl (Nat.le_of_ble_eq_true rfl) rfl (fun ls hl => ?_)
  exact L_12 300 0 (w0.1, w0.2.1, w0.2.2.1, (upd w0.2.2.2.1 (m_X4_stake w0).toNatClampNeg x1), w0.2.2.2.2.1, w0.2.2.2.2.2.1, w0.2.2.2.2.2.2.1, w0.2.2.2.2.2.2.2) H locs ls hP hS (lv_sub hl [1, 0] rfl) hq
def m_X4_onlySender  (w : pv_TT) : Option (Int32) :=
  if (w.2.2.2.2.2.1 0) < 0 then (if (w.2.2.2.2.2.1 1) < 0 then (some (-1)) else (some 1)) else (some 0)
abbrev r_X4_onlySender : Room := { frames := 0, cells := 0, slots := 0, locals := 0 }
set_option maxHeartbeats 4000000 in
set_option maxRecDepth 100000 in
theorem c_X4_onlySender (l : Launch) (E : pv_E) (a0 a1 a2 a3 a4 a5 : Nat)  (w : pv_TT) (F : Int32) (hq : m_X4_onlySender w = some F) : pv_RO l E yX4_onlySender wsX4_onlySender r_X4_onlySender (pv_wT E a0 a1 a2 a3 a4 a5 w) [.ref a0] (some (.int F)) := by
  intro sz
  refine pv_mk (by decide) rfl (Nat.le_of_ble_eq_true rfl) ?_
  intro p e s m args below meth c A hx hb hr hml hown hts hlk hAe hP hD0 hA hE hS ls hl
  have hown : s.vm.findClass RX4 = some m.cls := hown
  have hK := hE.1
  have hD := hD0
  have fl_28 : (Cond.fieldLink RX4 28 "ProvinceCards$Table" "sent" "[I").before args s = true := hts _ (by decide +kernel)
  have i_RX4 : ∀ w ∈ wsX40, w ∈ wsX4_onlySender := by decide +kernel
  have hl : lv_has ls 1 [(0, .ref a0)] := hl
  suffices M0 : ∀ (locs : List Loc), va_S A s.heap s.heap locs → W p l e r_X4_onlySender s m args below meth c s.heap locs 0 0 (MQ below (pv_Ro (some (.int F))) args s 0 0 A) (F0 m 0 ls []) from M0 [] hS
  intro locs hS
  refine lv_aload_n (pc := 0) hx hb dX4_onlySender_0 rfl (lv_at hl 0 rfl) ?_
  refine va_get (pc := 1) (D := E.1) (ci := 2) (v := .ref a3) (C := RX4) (T := TX4) (N := 8) hx hb hts i_RX4 hown hK hP 0 rfl rfl 5 (Nat.le_of_ble_eq_true rfl) fl_28 (fun _ h9 => h9) rfl dX4_onlySender_1 ?_
  refine lv_iconst (pc := 4) (v := 0) hx hb dX4_onlySender_4 (by decide) ?_
  refine va_iald (pc := 5) (D := E.1) hx hb hK hP 3 0 rfl rfl (by decide : ¬ ((0 : Int32) < 0 ∨ 2 ≤ (0 : Int32).toNatClampNeg)) dX4_onlySender_5 ?_
  refine W.eq (g2 := F0 m 6 ls [.int (w.2.2.2.2.2.1 0)]) rfl ?_
  refine lv_if_lt (pc := 6) (tgt := 11) hx hb dX4_onlySender_6 (by decide) (fun c_1 => ?_) (fun c_1 => ?_)
  · have hq := pv_pos c_1 hq
    refine lv_aload_n (pc := 11) hx hb dX4_onlySender_11 rfl (lv_at hl 0 rfl) ?_
    refine va_get (pc := 12) (D := E.1) (ci := 2) (v := .ref a3) (C := RX4) (T := TX4) (N := 8) hx hb hts i_RX4 hown hK hP 0 rfl rfl 5 (Nat.le_of_ble_eq_true rfl) fl_28 (fun _ h9 => h9) rfl dX4_onlySender_12 ?_
    refine lv_iconst (pc := 15) (v := 1) hx hb dX4_onlySender_15 (by decide) ?_
    refine va_iald (pc := 16) (D := E.1) hx hb hK hP 3 0 rfl rfl (by decide : ¬ ((1 : Int32) < 0 ∨ 2 ≤ (1 : Int32).toNatClampNeg)) dX4_onlySender_16 ?_
    refine W.eq (g2 := F0 m 17 ls [.int (w.2.2.2.2.2.1 1)]) rfl ?_
    refine lv_if_lt (pc := 17) (tgt := 24) hx hb dX4_onlySender_17 (by decide) (fun c_2 => ?_) (fun c_2 => ?_)
    · have hq := pv_pos c_2 hq
      refine lv_iconst (pc := 24) (v := (-1)) hx hb dX4_onlySender_24 (by decide) ?_
      exact pv_riRO hx hb hr hlk hS (Option.some.inj hq) dX4_onlySender_25
    · have hq := pv_neg c_2 hq
      refine lv_iconst (pc := 20) (v := 1) hx hb dX4_onlySender_20 (by decide) ?_
      refine lv_goto (pc := 21) (tgt := 25) hx hb dX4_onlySender_21 (by decide) ?_
      exact pv_riRO hx hb hr hlk hS (Option.some.inj hq) dX4_onlySender_25
  · have hq := pv_neg c_1 hq
    refine lv_iconst (pc := 9) (v := 0) hx hb dX4_onlySender_9 (by decide) ?_
    exact pv_riRO hx hb hr hlk hS (Option.some.inj hq) dX4_onlySender_10
def m_X4_reward (x1 : Int32) (w : pv_TT) : Option (pv_TT) :=
  if x1 = (-1) then (some w) else (pv_gd x1 2 (pv_gd (w.2.2.2.2.2.1 x1.toNatClampNeg) 8 (pv_gd (w.2.2.2.2.2.1 x1.toNatClampNeg) 8 (some (w.1, w.2.1, w.2.2.1, w.2.2.2.1, w.2.2.2.2.1, w.2.2.2.2.2.1, w.2.2.2.2.2.2.1, (upd w.2.2.2.2.2.2.2 (w.2.2.2.2.2.1 x1.toNatClampNeg).toNatClampNeg (if ((w.2.2.2.2.2.2.2 (w.2.2.2.2.2.1 x1.toNatClampNeg).toNatClampNeg) + 1) < 9999 then ((w.2.2.2.2.2.2.2 (w.2.2.2.2.2.1 x1.toNatClampNeg).toNatClampNeg) + 1) else 9999)))))))
abbrev r_X4_reward : Room := { frames := 1, cells := 0, slots := 0, locals := 21 }
set_option maxHeartbeats 4000000 in
set_option maxRecDepth 100000 in
theorem c_X4_reward (l : Launch) (E : pv_E) (a0 a1 a2 a3 a4 a5 : Nat) (x1 : Int32) (w0 : pv_TT) (F : pv_TT) (hq : m_X4_reward x1 w0 = some F) : pv_RW l E yX4_reward wsX4_reward r_X4_reward (pv_wT E a0 a1 a2 a3 a4 a5 w0) [.ref a0, .int x1] (none) (pv_wT E a0 a1 a2 a3 a4 a5 F) := by
  intro sz
  refine pv_mk (by decide) rfl (Nat.le_of_ble_eq_true rfl) ?_
  intro p e s m args below meth c A hx hb hr hml hown hts hlk hAe hP hD0 hA hE hS ls hl
  have hown : s.vm.findClass RX4 = some m.cls := hown
  have hK := hE.1
  have hD : ∀ w : pv_TT, va_D A (pv_wT E a0 a1 a2 a3 a4 a5 w) := fun w => pv_Dm (ws := pv_wT E a0 a1 a2 a3 a4 a5 w0) (ws' := pv_wT E a0 a1 a2 a3 a4 a5 w) rfl hD0
  have hP : va_P E.1 vwCl (pv_wT E a0 a1 a2 a3 a4 a5 w0) s.heap := hP
  have fl_28 : (Cond.fieldLink RX4 28 "ProvinceCards$Table" "sent" "[I").before args s = true := hts _ (by decide +kernel)
  have fl_34 : (Cond.fieldLink RX4 34 "ProvinceCards$Table" "wins" "[I").before args s = true := hts _ (by decide +kernel)
  have mm_l : (Cond.methodLink RX4 95 Lib.Math.min.name).before args s = true := hts _ (by decide +kernel)
  have mm_s : (Cond.static Lib.Math.min.name).before args s = true := hts _ (by decide +kernel)
  have mm_i : (Cond.initialized "java/lang/Math").before args s = true := hts _ (by decide +kernel)
  have mm_c : (Cond.code Lib.Math.min.name Lib.Math.min.code 2 (some .int)).before args s = true := hts _ (by decide +kernel)
  have i_RX4 : ∀ w ∈ wsX40, w ∈ wsX4_reward := by decide +kernel
  have hl : lv_has ls 3 [(0, .ref a0), (1, .int x1)] := hl
  suffices M0 : ∀ (H : Heap) (locs : List Loc), va_P E.1 vwCl (pv_wT E a0 a1 a2 a3 a4 a5 w0) H → va_S A s.heap H locs → W p l e r_X4_reward s m args below meth c H locs 0 0 (MQ below (pv_Rw E (pv_wT E a0 a1 a2 a3 a4 a5 w0) sz (none) ((fun w : pv_TT => pv_wT E a0 a1 a2 a3 a4 a5 w) F)) args s 0 0 A) (F0 m 0 ls []) from M0 s.heap [] hP hS
  intro H locs hP hS
  refine lv_iload_n (pc := 0) hx hb dX4_reward_0 rfl (lv_at hl 1 rfl) ?_
  refine lv_iconst (pc := 1) (v := (-1)) hx hb dX4_reward_1 (by decide) ?_
  refine lv_icmp_eq (pc := 2) (tgt := 32) hx hb dX4_reward_2 (by decide) (fun c_1 => ?_) (fun c_1 => ?_)
  · have hq := pv_pos c_1 hq
    exact pv_rvRW (w := fun w : pv_TT => pv_wT E a0 a1 a2 a3 a4 a5 w) hx hb hr hlk hAe hS hP (Option.some.inj hq) dX4_reward_32
  · have hq := pv_neg c_1 hq
    refine lv_aload_n (pc := 5) hx hb dX4_reward_5 rfl (lv_at hl 0 rfl) ?_
    refine va_get (pc := 6) (D := E.1) (ci := 2) (v := .ref a3) (C := RX4) (T := TX4) (N := 8) hx hb hts i_RX4 hown hK hP 0 rfl rfl 5 (Nat.le_of_ble_eq_true rfl) fl_28 (fun _ h9 => h9) rfl dX4_reward_6 ?_
    refine lv_iload_n (pc := 9) hx hb dX4_reward_9 rfl (lv_at hl 1 rfl) ?_
    obtain ⟨h_2, hq⟩ := pv_gd_some hq
    refine va_iald (pc := 10) (D := E.1) hx hb hK hP 3 0 rfl rfl h_2 dX4_reward_10 ?_
    refine lv_istore_n (pc := 11) (lv' := [(2, .int (w0.2.2.2.2.2.1 x1.toNatClampNeg)), (0, .ref a0), (1, .int x1)]) hx hb dX4_reward_11 rfl hl (Nat.le_of_ble_eq_true rfl) rfl (fun ls hl => ?_)
    refine lv_aload_n (pc := 12) hx hb dX4_reward_12 rfl (lv_at hl 1 rfl) ?_
    refine va_get (pc := 13) (D := E.1) (ci := 2) (v := .ref a5) (C := RX4) (T := TX4) (N := 8) hx hb hts i_RX4 hown hK hP 0 rfl rfl 7 (Nat.le_of_ble_eq_true rfl) fl_34 (fun _ h9 => h9) rfl dX4_reward_13 ?_
    refine lv_iload_n (pc := 16) hx hb dX4_reward_16 rfl (lv_at hl 0 rfl) ?_
    refine lv_sipush (pc := 17) (v := 9999) hx hb dX4_reward_17 (by decide) ?_
    refine lv_aload_n (pc := 20) hx hb dX4_reward_20 rfl (lv_at hl 1 rfl) ?_
    refine va_get (pc := 21) (D := E.1) (ci := 2) (v := .ref a5) (C := RX4) (T := TX4) (N := 8) hx hb hts i_RX4 hown hK hP 0 rfl rfl 7 (Nat.le_of_ble_eq_true rfl) fl_34 (fun _ h9 => h9) rfl dX4_reward_21 ?_
    refine lv_iload_n (pc := 24) hx hb dX4_reward_24 rfl (lv_at hl 0 rfl) ?_
    obtain ⟨h_3, hq⟩ := pv_gd_some hq
    refine va_iald (pc := 25) (D := E.1) hx hb hK hP 5 0 rfl rfl h_3 dX4_reward_25 ?_
    refine lv_iconst (pc := 26) (v := 1) hx hb dX4_reward_26 (by decide) ?_
    refine lv_iadd (pc := 27) hx hb dX4_reward_27 ?_
    refine va_mmin (pc := 28) hx hb (by rw [hml]; exact hl.1.symm) hown mm_l mm_s mm_i mm_c (Nat.le_of_ble_eq_true rfl) (Nat.le_of_ble_eq_true rfl) (Nat.zero_le _) (Nat.zero_le _) dX4_reward_28 ?_
    obtain ⟨h_4, hq⟩ := pv_gd_some hq
    refine va_iast (pc := 31) (D := E.1) hx hb hK hP (hD w0) hS 5 0 rfl rfl h_4 dX4_reward_31 (fun H locs hP _ hS => ?_)
    have hP : va_P E.1 vwCl (pv_wT E a0 a1 a2 a3 a4 a5 (w0.1, w0.2.1, w0.2.2.1, w0.2.2.2.1, w0.2.2.2.2.1, w0.2.2.2.2.2.1, w0.2.2.2.2.2.2.1, (upd w0.2.2.2.2.2.2.2 (w0.2.2.2.2.2.1 x1.toNatClampNeg).toNatClampNeg (if ((w0.2.2.2.2.2.2.2 (w0.2.2.2.2.2.1 x1.toNatClampNeg).toNatClampNeg) + 1) < 9999 then ((w0.2.2.2.2.2.2.2 (w0.2.2.2.2.2.1 x1.toNatClampNeg).toNatClampNeg) + 1) else 9999)))) H := hP
    exact pv_rvRW (w := fun w : pv_TT => pv_wT E a0 a1 a2 a3 a4 a5 w) hx hb hr hlk hAe hS hP (Option.some.inj hq) dX4_reward_32
def m_X4_become  (w : pv_TT × pv_TT) : Option (pv_TT × pv_TT) :=
  some ((w.2.1, w.2.2.1, w.2.2.2.1, (va_cpy w.2.2.2.2.1 w.1.2.2.2.1 0 0 8), (va_cpy w.2.2.2.2.2.1 w.1.2.2.2.2.1 0 0 2), (va_cpy w.2.2.2.2.2.2.1 w.1.2.2.2.2.2.1 0 0 2), (va_cpy w.2.2.2.2.2.2.2.1 w.1.2.2.2.2.2.2.1 0 0 8), (va_cpy w.2.2.2.2.2.2.2.2 w.1.2.2.2.2.2.2.2 0 0 8)), w.2)
abbrev r_X4_become : Room := { frames := 1, cells := 0, slots := 0, locals := 48 }
set_option maxHeartbeats 4000000 in
set_option maxRecDepth 100000 in
theorem c_X4_become (l : Launch) (E : pv_E) (a0 a1 a2 a3 a4 a5 o0 o1 o2 o3 o4 o5 : Nat)  (w0 : pv_TT × pv_TT) (F : pv_TT × pv_TT) (hq : m_X4_become w0 = some F) : pv_RW l E yX4_become wsX4_become r_X4_become (pv_wT E a0 a1 a2 a3 a4 a5 w0.1 ++ pv_wT E o0 o1 o2 o3 o4 o5 w0.2) [.ref a0, .ref o0] (none) (pv_wT E a0 a1 a2 a3 a4 a5 F.1 ++ pv_wT E o0 o1 o2 o3 o4 o5 F.2) := by
  intro sz
  refine pv_mk (by decide) rfl (Nat.le_of_ble_eq_true rfl) ?_
  intro p e s m args below meth c A hx hb hr hml hown hts hlk hAe hP hD0 hA hE hS ls hl
  have hown : s.vm.findClass RX4 = some m.cls := hown
  have hK := hE.1
  have hD : ∀ w : pv_TT × pv_TT, va_D A (pv_wT E a0 a1 a2 a3 a4 a5 w.1 ++ pv_wT E o0 o1 o2 o3 o4 o5 w.2) := fun w => pv_Dm (ws := pv_wT E a0 a1 a2 a3 a4 a5 w0.1 ++ pv_wT E o0 o1 o2 o3 o4 o5 w0.2) (ws' := pv_wT E a0 a1 a2 a3 a4 a5 w.1 ++ pv_wT E o0 o1 o2 o3 o4 o5 w.2) rfl hD0
  have hP : va_P E.1 vwCl (pv_wT E a0 a1 a2 a3 a4 a5 w0.1 ++ pv_wT E o0 o1 o2 o3 o4 o5 w0.2) s.heap := hP
  have fl_9 : (Cond.fieldLink RX4 9 "ProvinceCards$Table" "month" "I").before args s = true := hts _ (by decide +kernel)
  have fl_15 : (Cond.fieldLink RX4 15 "ProvinceCards$Table" "mixing" "I").before args s = true := hts _ (by decide +kernel)
  have fl_18 : (Cond.fieldLink RX4 18 "ProvinceCards$Table" "envoys" "I").before args s = true := hts _ (by decide +kernel)
  have fl_21 : (Cond.fieldLink RX4 21 "ProvinceCards$Table" "owner" "[I").before args s = true := hts _ (by decide +kernel)
  have ac_l : (Cond.methodLink RX4 43 arraycopyName).before args s = true := hts _ (by decide +kernel)
  have ac_n : (Cond.native arraycopyName).before args s = true := hts _ (by decide +kernel)
  have ac_s : (Cond.static arraycopyName).before args s = true := hts _ (by decide +kernel)
  have ac_i : (Cond.initialized "java/lang/System").before args s = true := hts _ (by decide +kernel)
  have fl_25 : (Cond.fieldLink RX4 25 "ProvinceCards$Table" "purse" "[I").before args s = true := hts _ (by decide +kernel)
  have fl_28 : (Cond.fieldLink RX4 28 "ProvinceCards$Table" "sent" "[I").before args s = true := hts _ (by decide +kernel)
  have fl_31 : (Cond.fieldLink RX4 31 "ProvinceCards$Table" "kinds" "[I").before args s = true := hts _ (by decide +kernel)
  have fl_34 : (Cond.fieldLink RX4 34 "ProvinceCards$Table" "wins" "[I").before args s = true := hts _ (by decide +kernel)
  have i_RX4 : ∀ w ∈ wsX40, w ∈ wsX4_become := by decide +kernel
  have hl : lv_has ls 2 [(0, .ref a0), (1, .ref o0)] := hl
  suffices M0 : ∀ (H : Heap) (locs : List Loc), va_P E.1 vwCl (pv_wT E a0 a1 a2 a3 a4 a5 w0.1 ++ pv_wT E o0 o1 o2 o3 o4 o5 w0.2) H → va_S A s.heap H locs → W p l e r_X4_become s m args below meth c H locs 0 0 (MQ below (pv_Rw E (pv_wT E a0 a1 a2 a3 a4 a5 w0.1 ++ pv_wT E o0 o1 o2 o3 o4 o5 w0.2) sz (none) ((fun w : pv_TT × pv_TT => pv_wT E a0 a1 a2 a3 a4 a5 w.1 ++ pv_wT E o0 o1 o2 o3 o4 o5 w.2) F)) args s 0 0 A) (F0 m 0 ls []) from M0 s.heap [] hP hS
  intro H locs hP hS
  refine lv_aload_n (pc := 0) hx hb dX4_become_0 rfl (lv_at hl 0 rfl) ?_
  refine lv_aload_n (pc := 1) hx hb dX4_become_1 rfl (lv_at hl 1 rfl) ?_
  refine va_get (pc := 2) (D := E.1) (ci := 2) (v := .int w0.2.1) (C := RX4) (T := TX4) (N := 8) hx hb hts i_RX4 hown hK hP 6 rfl rfl 0 (Nat.le_of_ble_eq_true rfl) fl_9 (fun _ h9 => h9) rfl dX4_become_2 ?_
  refine va_put (pc := 5) (D := E.1) (ci := 2) (v := .int w0.2.1) (ty := .int) (C := RX4) (T := TX4) (N := 8) hx hb hts i_RX4 tyX4 tyX4_ok nmX4 hown hK hP (hD w0) hS 0 rfl rfl 0 (Nat.le_of_ble_eq_true rfl) fl_9 (fun _ h9 => h9) rfl (tyX4_ok 0 (Nat.le_of_ble_eq_true rfl)) rfl rfl (Nat.le_of_ble_eq_true rfl) dX4_become_5 (fun H locs hP _ hS => ?_)
  have hP : va_P E.1 vwCl (pv_wT E a0 a1 a2 a3 a4 a5 (((w0.2.1, w0.1.2.1, w0.1.2.2.1, w0.1.2.2.2.1, w0.1.2.2.2.2.1, w0.1.2.2.2.2.2.1, w0.1.2.2.2.2.2.2.1, w0.1.2.2.2.2.2.2.2), w0.2).1) ++ pv_wT E o0 o1 o2 o3 o4 o5 (((w0.2.1, w0.1.2.1, w0.1.2.2.1, w0.1.2.2.2.1, w0.1.2.2.2.2.1, w0.1.2.2.2.2.2.1, w0.1.2.2.2.2.2.2.1, w0.1.2.2.2.2.2.2.2), w0.2).2)) H := hP
  refine lv_aload_n (pc := 8) hx hb dX4_become_8 rfl (lv_at hl 0 rfl) ?_
  refine lv_aload_n (pc := 9) hx hb dX4_become_9 rfl (lv_at hl 1 rfl) ?_
  refine va_get (pc := 10) (D := E.1) (ci := 2) (v := .int w0.2.2.1) (C := RX4) (T := TX4) (N := 8) hx hb hts i_RX4 hown hK hP 6 rfl rfl 1 (Nat.le_of_ble_eq_true rfl) fl_15 (fun _ h9 => h9) rfl dX4_become_10 ?_
  refine va_put (pc := 13) (D := E.1) (ci := 2) (v := .int w0.2.2.1) (ty := .int) (C := RX4) (T := TX4) (N := 8) hx hb hts i_RX4 tyX4 tyX4_ok nmX4 hown hK hP (hD ((w0.2.1, w0.1.2.1, w0.1.2.2.1, w0.1.2.2.2.1, w0.1.2.2.2.2.1, w0.1.2.2.2.2.2.1, w0.1.2.2.2.2.2.2.1, w0.1.2.2.2.2.2.2.2), w0.2)) hS 0 rfl rfl 1 (Nat.le_of_ble_eq_true rfl) fl_15 (fun _ h9 => h9) rfl (tyX4_ok 1 (Nat.le_of_ble_eq_true rfl)) rfl rfl (Nat.le_of_ble_eq_true rfl) dX4_become_13 (fun H locs hP _ hS => ?_)
  have hP : va_P E.1 vwCl (pv_wT E a0 a1 a2 a3 a4 a5 (((w0.2.1, w0.2.2.1, w0.1.2.2.1, w0.1.2.2.2.1, w0.1.2.2.2.2.1, w0.1.2.2.2.2.2.1, w0.1.2.2.2.2.2.2.1, w0.1.2.2.2.2.2.2.2), w0.2).1) ++ pv_wT E o0 o1 o2 o3 o4 o5 (((w0.2.1, w0.2.2.1, w0.1.2.2.1, w0.1.2.2.2.1, w0.1.2.2.2.2.1, w0.1.2.2.2.2.2.1, w0.1.2.2.2.2.2.2.1, w0.1.2.2.2.2.2.2.2), w0.2).2)) H := hP
  refine lv_aload_n (pc := 16) hx hb dX4_become_16 rfl (lv_at hl 0 rfl) ?_
  refine lv_aload_n (pc := 17) hx hb dX4_become_17 rfl (lv_at hl 1 rfl) ?_
  refine va_get (pc := 18) (D := E.1) (ci := 2) (v := .int w0.2.2.2.1) (C := RX4) (T := TX4) (N := 8) hx hb hts i_RX4 hown hK hP 6 rfl rfl 2 (Nat.le_of_ble_eq_true rfl) fl_18 (fun _ h9 => h9) rfl dX4_become_18 ?_
  refine va_put (pc := 21) (D := E.1) (ci := 2) (v := .int w0.2.2.2.1) (ty := .int) (C := RX4) (T := TX4) (N := 8) hx hb hts i_RX4 tyX4 tyX4_ok nmX4 hown hK hP (hD ((w0.2.1, w0.2.2.1, w0.1.2.2.1, w0.1.2.2.2.1, w0.1.2.2.2.2.1, w0.1.2.2.2.2.2.1, w0.1.2.2.2.2.2.2.1, w0.1.2.2.2.2.2.2.2), w0.2)) hS 0 rfl rfl 2 (Nat.le_of_ble_eq_true rfl) fl_18 (fun _ h9 => h9) rfl (tyX4_ok 2 (Nat.le_of_ble_eq_true rfl)) rfl rfl (Nat.le_of_ble_eq_true rfl) dX4_become_21 (fun H locs hP _ hS => ?_)
  have hP : va_P E.1 vwCl (pv_wT E a0 a1 a2 a3 a4 a5 (((w0.2.1, w0.2.2.1, w0.2.2.2.1, w0.1.2.2.2.1, w0.1.2.2.2.2.1, w0.1.2.2.2.2.2.1, w0.1.2.2.2.2.2.2.1, w0.1.2.2.2.2.2.2.2), w0.2).1) ++ pv_wT E o0 o1 o2 o3 o4 o5 (((w0.2.1, w0.2.2.1, w0.2.2.2.1, w0.1.2.2.2.1, w0.1.2.2.2.2.1, w0.1.2.2.2.2.2.1, w0.1.2.2.2.2.2.2.1, w0.1.2.2.2.2.2.2.2), w0.2).2)) H := hP
  refine lv_aload_n (pc := 24) hx hb dX4_become_24 rfl (lv_at hl 1 rfl) ?_
  refine va_get (pc := 25) (D := E.1) (ci := 2) (v := .ref o1) (C := RX4) (T := TX4) (N := 8) hx hb hts i_RX4 hown hK hP 6 rfl rfl 3 (Nat.le_of_ble_eq_true rfl) fl_21 (fun _ h9 => h9) rfl dX4_become_25 ?_
  refine lv_iconst (pc := 28) (v := 0) hx hb dX4_become_28 (by decide) ?_
  refine lv_aload_n (pc := 29) hx hb dX4_become_29 rfl (lv_at hl 0 rfl) ?_
  refine va_get (pc := 30) (D := E.1) (ci := 2) (v := .ref a1) (C := RX4) (T := TX4) (N := 8) hx hb hts i_RX4 hown hK hP 0 rfl rfl 3 (Nat.le_of_ble_eq_true rfl) fl_21 (fun _ h9 => h9) rfl dX4_become_30 ?_
  refine lv_iconst (pc := 33) (v := 0) hx hb dX4_become_33 (by decide) ?_
  refine lv_bipush (pc := 34) (v := 8) hx hb dX4_become_34 (by decide) ?_
  refine va_copyi (pc := 36) (D := E.1) hx hb (by rw [hml]; exact hl.1.symm) hown ac_l ac_n ac_s ac_i hK hP (hD ((w0.2.1, w0.2.2.1, w0.2.2.2.1, w0.1.2.2.2.1, w0.1.2.2.2.2.1, w0.1.2.2.2.2.2.1, w0.1.2.2.2.2.2.2.1, w0.1.2.2.2.2.2.2.2), w0.2)) hS 7 1 0 0 rfl rfl rfl rfl rfl (by decide) (by decide) (by decide) (by decide) (by decide) (fun _ _ => rfl) (Nat.le_of_ble_eq_true rfl) (by decide) dX4_become_36 (fun H locs hP _ hS => ?_)
  have hP : va_P E.1 vwCl (pv_wT E a0 a1 a2 a3 a4 a5 (((w0.2.1, w0.2.2.1, w0.2.2.2.1, (va_cpy w0.2.2.2.2.1 w0.1.2.2.2.1 0 0 8), w0.1.2.2.2.2.1, w0.1.2.2.2.2.2.1, w0.1.2.2.2.2.2.2.1, w0.1.2.2.2.2.2.2.2), w0.2).1) ++ pv_wT E o0 o1 o2 o3 o4 o5 (((w0.2.1, w0.2.2.1, w0.2.2.2.1, (va_cpy w0.2.2.2.2.1 w0.1.2.2.2.1 0 0 8), w0.1.2.2.2.2.1, w0.1.2.2.2.2.2.1, w0.1.2.2.2.2.2.2.1, w0.1.2.2.2.2.2.2.2), w0.2).2)) H := hP
  refine lv_aload_n (pc := 39) hx hb dX4_become_39 rfl (lv_at hl 1 rfl) ?_
  refine va_get (pc := 40) (D := E.1) (ci := 2) (v := .ref o2) (C := RX4) (T := TX4) (N := 8) hx hb hts i_RX4 hown hK hP 6 rfl rfl 4 (Nat.le_of_ble_eq_true rfl) fl_25 (fun _ h9 => h9) rfl dX4_become_40 ?_
  refine lv_iconst (pc := 43) (v := 0) hx hb dX4_become_43 (by decide) ?_
  refine lv_aload_n (pc := 44) hx hb dX4_become_44 rfl (lv_at hl 0 rfl) ?_
  refine va_get (pc := 45) (D := E.1) (ci := 2) (v := .ref a2) (C := RX4) (T := TX4) (N := 8) hx hb hts i_RX4 hown hK hP 0 rfl rfl 4 (Nat.le_of_ble_eq_true rfl) fl_25 (fun _ h9 => h9) rfl dX4_become_45 ?_
  refine lv_iconst (pc := 48) (v := 0) hx hb dX4_become_48 (by decide) ?_
  refine lv_iconst (pc := 49) (v := 2) hx hb dX4_become_49 (by decide) ?_
  refine va_copyi (pc := 50) (D := E.1) hx hb (by rw [hml]; exact hl.1.symm) hown ac_l ac_n ac_s ac_i hK hP (hD ((w0.2.1, w0.2.2.1, w0.2.2.2.1, (va_cpy w0.2.2.2.2.1 w0.1.2.2.2.1 0 0 8), w0.1.2.2.2.2.1, w0.1.2.2.2.2.2.1, w0.1.2.2.2.2.2.2.1, w0.1.2.2.2.2.2.2.2), w0.2)) hS 8 2 0 0 rfl rfl rfl rfl rfl (by decide) (by decide) (by decide) (by decide) (by decide) (fun _ _ => rfl) (Nat.le_of_ble_eq_true rfl) (by decide) dX4_become_50 (fun H locs hP _ hS => ?_)
  have hP : va_P E.1 vwCl (pv_wT E a0 a1 a2 a3 a4 a5 (((w0.2.1, w0.2.2.1, w0.2.2.2.1, (va_cpy w0.2.2.2.2.1 w0.1.2.2.2.1 0 0 8), (va_cpy w0.2.2.2.2.2.1 w0.1.2.2.2.2.1 0 0 2), w0.1.2.2.2.2.2.1, w0.1.2.2.2.2.2.2.1, w0.1.2.2.2.2.2.2.2), w0.2).1) ++ pv_wT E o0 o1 o2 o3 o4 o5 (((w0.2.1, w0.2.2.1, w0.2.2.2.1, (va_cpy w0.2.2.2.2.1 w0.1.2.2.2.1 0 0 8), (va_cpy w0.2.2.2.2.2.1 w0.1.2.2.2.2.1 0 0 2), w0.1.2.2.2.2.2.1, w0.1.2.2.2.2.2.2.1, w0.1.2.2.2.2.2.2.2), w0.2).2)) H := hP
  refine lv_aload_n (pc := 53) hx hb dX4_become_53 rfl (lv_at hl 1 rfl) ?_
  refine va_get (pc := 54) (D := E.1) (ci := 2) (v := .ref o3) (C := RX4) (T := TX4) (N := 8) hx hb hts i_RX4 hown hK hP 6 rfl rfl 5 (Nat.le_of_ble_eq_true rfl) fl_28 (fun _ h9 => h9) rfl dX4_become_54 ?_
  refine lv_iconst (pc := 57) (v := 0) hx hb dX4_become_57 (by decide) ?_
  refine lv_aload_n (pc := 58) hx hb dX4_become_58 rfl (lv_at hl 0 rfl) ?_
  refine va_get (pc := 59) (D := E.1) (ci := 2) (v := .ref a3) (C := RX4) (T := TX4) (N := 8) hx hb hts i_RX4 hown hK hP 0 rfl rfl 5 (Nat.le_of_ble_eq_true rfl) fl_28 (fun _ h9 => h9) rfl dX4_become_59 ?_
  refine lv_iconst (pc := 62) (v := 0) hx hb dX4_become_62 (by decide) ?_
  refine lv_iconst (pc := 63) (v := 2) hx hb dX4_become_63 (by decide) ?_
  refine va_copyi (pc := 64) (D := E.1) hx hb (by rw [hml]; exact hl.1.symm) hown ac_l ac_n ac_s ac_i hK hP (hD ((w0.2.1, w0.2.2.1, w0.2.2.2.1, (va_cpy w0.2.2.2.2.1 w0.1.2.2.2.1 0 0 8), (va_cpy w0.2.2.2.2.2.1 w0.1.2.2.2.2.1 0 0 2), w0.1.2.2.2.2.2.1, w0.1.2.2.2.2.2.2.1, w0.1.2.2.2.2.2.2.2), w0.2)) hS 9 3 0 0 rfl rfl rfl rfl rfl (by decide) (by decide) (by decide) (by decide) (by decide) (fun _ _ => rfl) (Nat.le_of_ble_eq_true rfl) (by decide) dX4_become_64 (fun H locs hP _ hS => ?_)
  have hP : va_P E.1 vwCl (pv_wT E a0 a1 a2 a3 a4 a5 (((w0.2.1, w0.2.2.1, w0.2.2.2.1, (va_cpy w0.2.2.2.2.1 w0.1.2.2.2.1 0 0 8), (va_cpy w0.2.2.2.2.2.1 w0.1.2.2.2.2.1 0 0 2), (va_cpy w0.2.2.2.2.2.2.1 w0.1.2.2.2.2.2.1 0 0 2), w0.1.2.2.2.2.2.2.1, w0.1.2.2.2.2.2.2.2), w0.2).1) ++ pv_wT E o0 o1 o2 o3 o4 o5 (((w0.2.1, w0.2.2.1, w0.2.2.2.1, (va_cpy w0.2.2.2.2.1 w0.1.2.2.2.1 0 0 8), (va_cpy w0.2.2.2.2.2.1 w0.1.2.2.2.2.1 0 0 2), (va_cpy w0.2.2.2.2.2.2.1 w0.1.2.2.2.2.2.1 0 0 2), w0.1.2.2.2.2.2.2.1, w0.1.2.2.2.2.2.2.2), w0.2).2)) H := hP
  refine lv_aload_n (pc := 67) hx hb dX4_become_67 rfl (lv_at hl 1 rfl) ?_
  refine va_get (pc := 68) (D := E.1) (ci := 2) (v := .ref o4) (C := RX4) (T := TX4) (N := 8) hx hb hts i_RX4 hown hK hP 6 rfl rfl 6 (Nat.le_of_ble_eq_true rfl) fl_31 (fun _ h9 => h9) rfl dX4_become_68 ?_
  refine lv_iconst (pc := 71) (v := 0) hx hb dX4_become_71 (by decide) ?_
  refine lv_aload_n (pc := 72) hx hb dX4_become_72 rfl (lv_at hl 0 rfl) ?_
  refine va_get (pc := 73) (D := E.1) (ci := 2) (v := .ref a4) (C := RX4) (T := TX4) (N := 8) hx hb hts i_RX4 hown hK hP 0 rfl rfl 6 (Nat.le_of_ble_eq_true rfl) fl_31 (fun _ h9 => h9) rfl dX4_become_73 ?_
  refine lv_iconst (pc := 76) (v := 0) hx hb dX4_become_76 (by decide) ?_
  refine lv_bipush (pc := 77) (v := 8) hx hb dX4_become_77 (by decide) ?_
  refine va_copyi (pc := 79) (D := E.1) hx hb (by rw [hml]; exact hl.1.symm) hown ac_l ac_n ac_s ac_i hK hP (hD ((w0.2.1, w0.2.2.1, w0.2.2.2.1, (va_cpy w0.2.2.2.2.1 w0.1.2.2.2.1 0 0 8), (va_cpy w0.2.2.2.2.2.1 w0.1.2.2.2.2.1 0 0 2), (va_cpy w0.2.2.2.2.2.2.1 w0.1.2.2.2.2.2.1 0 0 2), w0.1.2.2.2.2.2.2.1, w0.1.2.2.2.2.2.2.2), w0.2)) hS 10 4 0 0 rfl rfl rfl rfl rfl (by decide) (by decide) (by decide) (by decide) (by decide) (fun _ _ => rfl) (Nat.le_of_ble_eq_true rfl) (by decide) dX4_become_79 (fun H locs hP _ hS => ?_)
  have hP : va_P E.1 vwCl (pv_wT E a0 a1 a2 a3 a4 a5 (((w0.2.1, w0.2.2.1, w0.2.2.2.1, (va_cpy w0.2.2.2.2.1 w0.1.2.2.2.1 0 0 8), (va_cpy w0.2.2.2.2.2.1 w0.1.2.2.2.2.1 0 0 2), (va_cpy w0.2.2.2.2.2.2.1 w0.1.2.2.2.2.2.1 0 0 2), (va_cpy w0.2.2.2.2.2.2.2.1 w0.1.2.2.2.2.2.2.1 0 0 8), w0.1.2.2.2.2.2.2.2), w0.2).1) ++ pv_wT E o0 o1 o2 o3 o4 o5 (((w0.2.1, w0.2.2.1, w0.2.2.2.1, (va_cpy w0.2.2.2.2.1 w0.1.2.2.2.1 0 0 8), (va_cpy w0.2.2.2.2.2.1 w0.1.2.2.2.2.1 0 0 2), (va_cpy w0.2.2.2.2.2.2.1 w0.1.2.2.2.2.2.1 0 0 2), (va_cpy w0.2.2.2.2.2.2.2.1 w0.1.2.2.2.2.2.2.1 0 0 8), w0.1.2.2.2.2.2.2.2), w0.2).2)) H := hP
  refine lv_aload_n (pc := 82) hx hb dX4_become_82 rfl (lv_at hl 1 rfl) ?_
  refine va_get (pc := 83) (D := E.1) (ci := 2) (v := .ref o5) (C := RX4) (T := TX4) (N := 8) hx hb hts i_RX4 hown hK hP 6 rfl rfl 7 (Nat.le_of_ble_eq_true rfl) fl_34 (fun _ h9 => h9) rfl dX4_become_83 ?_
  refine lv_iconst (pc := 86) (v := 0) hx hb dX4_become_86 (by decide) ?_
  refine lv_aload_n (pc := 87) hx hb dX4_become_87 rfl (lv_at hl 0 rfl) ?_
  refine va_get (pc := 88) (D := E.1) (ci := 2) (v := .ref a5) (C := RX4) (T := TX4) (N := 8) hx hb hts i_RX4 hown hK hP 0 rfl rfl 7 (Nat.le_of_ble_eq_true rfl) fl_34 (fun _ h9 => h9) rfl dX4_become_88 ?_
  refine lv_iconst (pc := 91) (v := 0) hx hb dX4_become_91 (by decide) ?_
  refine lv_bipush (pc := 92) (v := 8) hx hb dX4_become_92 (by decide) ?_
  refine va_copyi (pc := 94) (D := E.1) hx hb (by rw [hml]; exact hl.1.symm) hown ac_l ac_n ac_s ac_i hK hP (hD ((w0.2.1, w0.2.2.1, w0.2.2.2.1, (va_cpy w0.2.2.2.2.1 w0.1.2.2.2.1 0 0 8), (va_cpy w0.2.2.2.2.2.1 w0.1.2.2.2.2.1 0 0 2), (va_cpy w0.2.2.2.2.2.2.1 w0.1.2.2.2.2.2.1 0 0 2), (va_cpy w0.2.2.2.2.2.2.2.1 w0.1.2.2.2.2.2.2.1 0 0 8), w0.1.2.2.2.2.2.2.2), w0.2)) hS 11 5 0 0 rfl rfl rfl rfl rfl (by decide) (by decide) (by decide) (by decide) (by decide) (fun _ _ => rfl) (Nat.le_of_ble_eq_true rfl) (by decide) dX4_become_94 (fun H locs hP _ hS => ?_)
  have hP : va_P E.1 vwCl (pv_wT E a0 a1 a2 a3 a4 a5 (((w0.2.1, w0.2.2.1, w0.2.2.2.1, (va_cpy w0.2.2.2.2.1 w0.1.2.2.2.1 0 0 8), (va_cpy w0.2.2.2.2.2.1 w0.1.2.2.2.2.1 0 0 2), (va_cpy w0.2.2.2.2.2.2.1 w0.1.2.2.2.2.2.1 0 0 2), (va_cpy w0.2.2.2.2.2.2.2.1 w0.1.2.2.2.2.2.2.1 0 0 8), (va_cpy w0.2.2.2.2.2.2.2.2 w0.1.2.2.2.2.2.2.2 0 0 8)), w0.2).1) ++ pv_wT E o0 o1 o2 o3 o4 o5 (((w0.2.1, w0.2.2.1, w0.2.2.2.1, (va_cpy w0.2.2.2.2.1 w0.1.2.2.2.1 0 0 8), (va_cpy w0.2.2.2.2.2.1 w0.1.2.2.2.2.1 0 0 2), (va_cpy w0.2.2.2.2.2.2.1 w0.1.2.2.2.2.2.1 0 0 2), (va_cpy w0.2.2.2.2.2.2.2.1 w0.1.2.2.2.2.2.2.1 0 0 8), (va_cpy w0.2.2.2.2.2.2.2.2 w0.1.2.2.2.2.2.2.2 0 0 8)), w0.2).2)) H := hP
  exact pv_rvRW (w := fun w : pv_TT × pv_TT => pv_wT E a0 a1 a2 a3 a4 a5 w.1 ++ pv_wT E o0 o1 o2 o3 o4 o5 w.2) hx hb hr hlk hAe hS hP (Option.some.inj hq) dX4_become_97
