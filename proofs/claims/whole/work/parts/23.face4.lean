def m_X6_feed_41 : Nat → Int32 → Int32 → pv_XT → Option (Int32 × pv_XT)
  | 0 => fun _ _ _ => none
  | n + 1 => fun x1 x3 w =>
    if x3 < 0 then (some (w.2.2.2.2.1.2.1, w)) else (Option.bind (m_X5_put ((x1 >>> ((8 * x3) &&& 31)) &&& 255) w.2.2.2.2.1) fun u_4 => ((m_X6_feed_41 n) x1 (x3 + (-1)) (w.1, w.2.1, w.2.2.1, w.2.2.2.1, u_4, w.2.2.2.2.2.1, w.2.2.2.2.2.2.1, w.2.2.2.2.2.2.2)))
def m_X6_feed (x1 : Int32) (x2 : Int32) (w : pv_XT) : Option (Int32 × pv_XT) :=
  if (m_X6_isWithin x2 1 4) = 0 then (Option.bind (m_X6_finding (-1000000001) w) fun u_6 => (some (u_6.1, u_6.2))) else (if (w.2.2.2.2.1.2.1 + x2) ≤ 120 then (m_X6_feed_41 300 x1 (x2 - 1) w) else (Option.bind (m_X6_finding (-1000000002) w) fun u_5 => (some (u_5.1, u_5.2))))
abbrev r_X6_feed : Room := { frames := 1, cells := 0, slots := 0, locals := 22 }
set_option maxHeartbeats 4000000 in
set_option maxRecDepth 100000 in
theorem c_X6_feed (l : Launch) (E : pv_E) (a : Nat → Nat) (x1 : Int32) (x2 : Int32) (w0 : pv_XT) (F : Int32 × pv_XT) (hq : m_X6_feed x1 x2 w0 = some F) : pv_RW l E yX6_feed wsX6_feed r_X6_feed (pv_wX E a w0) [.ref (a 0), .int x1, .int x2] (some (.int F.1)) (pv_wX E a F.2) := by
  intro sz
  refine pv_mk (by decide) rfl (Nat.le_of_ble_eq_true rfl) ?_
  intro p e s m args below meth c A hx hb hr hml hown hts hlk hAe hP hD0 hA hE hS ls hl
  have hown : s.vm.findClass RX6 = some m.cls := hown
  have hK := hE.1
  have hD : ∀ w : pv_XT, va_D A (pv_wX E a w) := fun w => pv_Dm (ws := pv_wX E a w0) (ws' := pv_wX E a w) rfl hD0
  have hP : va_P E.1 vwCl (pv_wX E a w0) s.heap := hP
  have fl_32 : (Cond.fieldLink RX6 32 "ProvinceCards" "tape" "LProvinceCards$Tape;").before args s = true := hts _ (by decide +kernel)
  have fl_190 : (Cond.fieldLink RX6 190 "ProvinceCards$Tape" "length" "I").before args s = true := hts _ (by decide +kernel)
  have lc_105 : (Cond.constant RX6 105 (-1000000002)).before args s = true := hts _ (by decide +kernel)
  have lc_51 : (Cond.constant RX6 51 (-1000000001)).before args s = true := hts _ (by decide +kernel)
  have i_RX6 : ∀ w ∈ wsX60, w ∈ wsX6_feed := by decide +kernel
  have i_RX5 : ∀ w ∈ wsX50, w ∈ wsX6_feed := by decide +kernel
  have hl : lv_has ls 4 [(0, .ref (a 0)), (1, .int x1), (2, .int x2)] := hl
  have L_41 : ∀ n : Nat, ∀ (x1 : Int32) (x3 : Int32) (w : pv_XT) (H : Heap) (locs : List Loc) (ls : Array Slot), va_P E.1 vwCl (pv_wX E a w) H → va_S A s.heap H locs → lv_has ls 4 [(0, .ref (a 0)), (1, .int x1), (3, .int x3)] → m_X6_feed_41 n x1 x3 w = some F → W p l e r_X6_feed s m args below meth c H locs 0 0 (MQ below (pv_Rw E (pv_wX E a w0) sz (some (.int F.1)) ((fun w : pv_XT => pv_wX E a w) F.2)) args s 0 0 A) (F0 m 41 ls []) := by
    intro n
    induction n with
    | zero =>
      intro x1 x3 w H locs ls hP hS hl hq
      exact (pv_no hq).elim
    | succ n ih =>
      intro x1 x3 w H locs ls hP hS hl hq
      refine lv_iload_n (pc := 41) hx hb dX6_feed_41 rfl (lv_at hl 2 rfl) ?_
      refine lv_if_lt (pc := 42) (tgt := 68) hx hb dX6_feed_42 (by decide) (fun c_3 => ?_) (fun c_3 => ?_)
      · have hq := pv_pos c_3 hq
        refine lv_aload_n (pc := 68) hx hb dX6_feed_68 rfl (lv_at hl 0 rfl) ?_
        refine va_get (pc := 69) (D := E.1) (ci := 4) (v := .ref (a 25)) (C := RX6) (T := TX6) (N := 8) hx hb hts i_RX6 hown hK hP 0 rfl rfl 4 (Nat.le_of_ble_eq_true rfl) fl_32 (fun _ h9 => h9) rfl dX6_feed_69 ?_
        refine va_get (pc := 72) (D := E.1) (ci := 3) (v := .int w.2.2.2.2.1.2.1) (C := RX5) (T := TX5) (N := 6) hx hb hts i_RX5 hown hK hP 25 rfl rfl 1 (Nat.le_of_ble_eq_true rfl) fl_190 (fun _ h9 => h9) rfl dX6_feed_72 ?_
        exact pv_riRW (w := fun w : pv_XT => pv_wX E a w) hx hb hr hlk hAe hS hP (Option.some.inj hq) dX6_feed_75
      · have hq := pv_neg c_3 hq
        refine lv_aload_n (pc := 45) hx hb dX6_feed_45 rfl (lv_at hl 0 rfl) ?_
        refine va_get (pc := 46) (D := E.1) (ci := 4) (v := .ref (a 25)) (C := RX6) (T := TX6) (N := 8) hx hb hts i_RX6 hown hK hP 0 rfl rfl 4 (Nat.le_of_ble_eq_true rfl) fl_32 (fun _ h9 => h9) rfl dX6_feed_46 ?_
        refine lv_iload_n (pc := 49) hx hb dX6_feed_49 rfl (lv_at hl 1 rfl) ?_
        refine lv_bipush (pc := 50) (v := 8) hx hb dX6_feed_50 (by decide) ?_
        refine lv_iload_n (pc := 52) hx hb dX6_feed_52 rfl (lv_at hl 2 rfl) ?_
        refine lv_imul (pc := 53) hx hb dX6_feed_53 ?_
        refine lv_ishr (pc := 54) hx hb dX6_feed_54 ?_
        refine lv_sipush (pc := 55) (v := 255) hx hb dX6_feed_55 (by decide) ?_
        refine lv_iand (pc := 58) hx hb dX6_feed_58 ?_
        obtain ⟨u_4, hu_4, hq⟩ := pv_bind hq
        refine pv_vRW (pc := 59) (rest := []) (st1 := []) (ws := pv_wX E a w) (ws' := pv_wX E a (w.1, w.2.1, w.2.2.1, w.2.2.2.1, u_4, w.2.2.2.2.2.1, w.2.2.2.2.2.2.1, w.2.2.2.2.2.2.2)) [.int ((x1 >>> ((8 * x3) &&& 31)) &&& 255)] ⟨hx, hb, hml, hown, hts⟩ hE hA hS hP (hD w) (c_X5_put l E (a 25) (a 26) ((x1 >>> ((8 * x3) &&& 31)) &&& 255) w.2.2.2.2.1 u_4 hu_4) (cwV 1 hts gX6_feed_X5_put rfl rfl rfl (by decide +kernel) ⟨(Nat.le_of_ble_eq_true rfl), (Nat.le_of_ble_eq_true rfl)⟩) (va_recv hK hP (ci := 3) (q0 := 25) rfl rfl) [25, 26] rfl rfl rfl rfl rfl hl.1 rfl rfl (Nat.le_of_ble_eq_true rfl) dX6_feed_59 ⟨Nat.zero_le _, Nat.zero_le _⟩ (fun H locs hP hS => ?_)
        refine lv_iinc (pc := 62) (v := (x3 + (-1))) (lv' := [(3, .int (x3 + (-1))), (0, .ref (a 0)), (1, .int x1)]) hx hb dX6_feed_62 hl (k := 2) rfl rfl (Nat.le_of_ble_eq_true rfl) rfl (fun ls hl => ?_)
        refine lv_goto (pc := 65) (tgt := 41) hx hb dX6_feed_65 (by decide) ?_
        exact ih x1 (x3 + (-1)) (w.1, w.2.1, w.2.2.1, w.2.2.2.1, u_4, w.2.2.2.2.2.1, w.2.2.2.2.2.2.1, w.2.2.2.2.2.2.2) H locs ls hP hS (lv_sub hl [1, 2, 0] rfl) hq
  suffices M0 : ∀ (H : Heap) (locs : List Loc), va_P E.1 vwCl (pv_wX E a w0) H → va_S A s.heap H locs → W p l e r_X6_feed s m args below meth c H locs 0 0 (MQ below (pv_Rw E (pv_wX E a w0) sz (some (.int F.1)) ((fun w : pv_XT => pv_wX E a w) F.2)) args s 0 0 A) (F0 m 0 ls []) from M0 s.heap [] hP hS
  intro H locs hP hS
  refine lv_iload_n (pc := 0) hx hb dX6_feed_0 rfl (lv_at hl 2 rfl) ?_
  refine lv_iconst (pc := 1) (v := 1) hx hb dX6_feed_1 (by decide) ?_
  refine lv_iconst (pc := 2) (v := 4) hx hb dX6_feed_2 (by decide) ?_
  refine pv_sRO (pc := 3) (rest := []) (st1 := [.int (m_X6_isWithin x2 1 4)]) (ws := pv_wX E a w0) [.int x2, .int 1, .int 4] ⟨hx, hb, hml, hown, hts⟩ hE hA hS hP (hD w0) (c_X6_isWithin l E x2 1 4) (va_cwS 3 hts gX6_feed_X6_isWithin rfl rfl rfl (by decide +kernel) ⟨(Nat.le_of_ble_eq_true rfl), (Nat.le_of_ble_eq_true rfl)⟩) [] rfl rfl rfl hl.1 rfl rfl (Nat.le_of_ble_eq_true rfl) dX6_feed_3 ⟨Nat.zero_le _, Nat.zero_le _⟩ (fun locs hS => ?_)
  refine lv_if_ne (pc := 6) (tgt := 16) hx hb dX6_feed_6 (by decide) (fun c_1 => ?_) (fun c_1 => ?_)
  · have hq := pv_neg c_1 hq
    refine lv_aload_n (pc := 16) hx hb dX6_feed_16 rfl (lv_at hl 0 rfl) ?_
    refine va_get (pc := 17) (D := E.1) (ci := 4) (v := .ref (a 25)) (C := RX6) (T := TX6) (N := 8) hx hb hts i_RX6 hown hK hP 0 rfl rfl 4 (Nat.le_of_ble_eq_true rfl) fl_32 (fun _ h9 => h9) rfl dX6_feed_17 ?_
    refine va_get (pc := 20) (D := E.1) (ci := 3) (v := .int w0.2.2.2.2.1.2.1) (C := RX5) (T := TX5) (N := 6) hx hb hts i_RX5 hown hK hP 25 rfl rfl 1 (Nat.le_of_ble_eq_true rfl) fl_190 (fun _ h9 => h9) rfl dX6_feed_20 ?_
    refine lv_iload_n (pc := 23) hx hb dX6_feed_23 rfl (lv_at hl 2 rfl) ?_
    refine lv_iadd (pc := 24) hx hb dX6_feed_24 ?_
    refine lv_bipush (pc := 25) (v := 120) hx hb dX6_feed_25 (by decide) ?_
    refine lv_icmp_le (pc := 27) (tgt := 37) hx hb dX6_feed_27 (by decide) (fun c_2 => ?_) (fun c_2 => ?_)
    · have hq := pv_pos c_2 hq
      refine lv_iload_n (pc := 37) hx hb dX6_feed_37 rfl (lv_at hl 2 rfl) ?_
      refine lv_iconst (pc := 38) (v := 1) hx hb dX6_feed_38 (by decide) ?_
      refine lv_isub (pc := 39) hx hb dX6_feed_39 ?_
      refine lv_istore_n (pc := 40) (lv' := [(3, .int (x2 - 1)), (0, .ref (a 0)), (1, .int x1), (2, .int x2)]) hx hb dX6_feed_40 rfl hl (Nat.le_of_ble_eq_true rfl) rfl (fun ls hl => ?_)
      exact L_41 300 x1 (x2 - 1) w0 H locs ls hP hS (lv_sub hl [1, 2, 0] rfl) hq
    · have hq := pv_neg c_2 hq
      refine lv_aload_n (pc := 30) hx hb dX6_feed_30 rfl (lv_at hl 0 rfl) ?_
      refine lv_ldc (pc := 31) hx hb hown lc_105 dX6_feed_31 ?_
      obtain ⟨u_5, hu_5, hq⟩ := pv_bind hq
      refine pv_vRWf (pc := 33) (rest := []) (st1 := [.int u_5.1]) (ws := pv_wX E a w0) [.int (-1000000002)] ⟨hx, hb, hml, hown, hts⟩ hE hA hS hP (hD w0) (c_X6_finding l E a (-1000000002) w0 u_5 hu_5) (cwV 1 hts gX6_feed_X6_finding rfl rfl rfl (by decide +kernel) ⟨(Nat.le_of_ble_eq_true rfl), (Nat.le_of_ble_eq_true rfl)⟩) (va_recv hK hP (ci := 4) (q0 := 0) rfl rfl) rfl hl.1 rfl rfl (Nat.le_of_ble_eq_true rfl) dX6_feed_33 ⟨Nat.zero_le _, Nat.zero_le _⟩ (fun H locs hP hS => ?_)
      have hP : va_P E.1 vwCl (pv_wX E a u_5.2) H := hP
      exact pv_riRW (w := fun w : pv_XT => pv_wX E a w) hx hb hr hlk hAe hS hP (Option.some.inj hq) dX6_feed_36
  · have hq := pv_pos c_1 hq
    refine lv_aload_n (pc := 9) hx hb dX6_feed_9 rfl (lv_at hl 0 rfl) ?_
    refine lv_ldc (pc := 10) hx hb hown lc_51 dX6_feed_10 ?_
    obtain ⟨u_6, hu_6, hq⟩ := pv_bind hq
    refine pv_vRWf (pc := 12) (rest := []) (st1 := [.int u_6.1]) (ws := pv_wX E a w0) [.int (-1000000001)] ⟨hx, hb, hml, hown, hts⟩ hE hA hS hP (hD w0) (c_X6_finding l E a (-1000000001) w0 u_6 hu_6) (cwV 1 hts gX6_feed_X6_finding rfl rfl rfl (by decide +kernel) ⟨(Nat.le_of_ble_eq_true rfl), (Nat.le_of_ble_eq_true rfl)⟩) (va_recv hK hP (ci := 4) (q0 := 0) rfl rfl) rfl hl.1 rfl rfl (Nat.le_of_ble_eq_true rfl) dX6_feed_12 ⟨Nat.zero_le _, Nat.zero_le _⟩ (fun H locs hP hS => ?_)
    have hP : va_P E.1 vwCl (pv_wX E a u_6.2) H := hP
    exact pv_riRW (w := fun w : pv_XT => pv_wX E a w) hx hb hr hlk hAe hS hP (Option.some.inj hq) dX6_feed_15
def m_X6_wipe  (w : pv_XT) : Option (Int32 × pv_XT) :=
  some (w.2.2.2.2.1.2.1, (w.1, w.2.1, w.2.2.1, w.2.2.2.1, (w.2.2.2.2.1.1, 0, w.2.2.2.2.1.2.2.1, w.2.2.2.2.1.2.2.2.1, w.2.2.2.2.1.2.2.2.2.1, w.2.2.2.2.1.2.2.2.2.2), w.2.2.2.2.2.1, w.2.2.2.2.2.2.1, w.2.2.2.2.2.2.2))
abbrev r_X6_wipe : Room := { frames := 0, cells := 0, slots := 0, locals := 0 }
set_option maxHeartbeats 4000000 in
set_option maxRecDepth 100000 in
theorem c_X6_wipe (l : Launch) (E : pv_E) (a : Nat → Nat)  (w0 : pv_XT) (F : Int32 × pv_XT) (hq : m_X6_wipe w0 = some F) : pv_RW l E yX6_wipe wsX6_wipe r_X6_wipe (pv_wX E a w0) [.ref (a 0)] (some (.int F.1)) (pv_wX E a F.2) := by
  intro sz
  refine pv_mk (by decide) rfl (Nat.le_of_ble_eq_true rfl) ?_
  intro p e s m args below meth c A hx hb hr hml hown hts hlk hAe hP hD0 hA hE hS ls hl
  have hown : s.vm.findClass RX6 = some m.cls := hown
  have hK := hE.1
  have hD : ∀ w : pv_XT, va_D A (pv_wX E a w) := fun w => pv_Dm (ws := pv_wX E a w0) (ws' := pv_wX E a w) rfl hD0
  have hP : va_P E.1 vwCl (pv_wX E a w0) s.heap := hP
  have fl_32 : (Cond.fieldLink RX6 32 "ProvinceCards" "tape" "LProvinceCards$Tape;").before args s = true := hts _ (by decide +kernel)
  have fl_190 : (Cond.fieldLink RX6 190 "ProvinceCards$Tape" "length" "I").before args s = true := hts _ (by decide +kernel)
  have i_RX6 : ∀ w ∈ wsX60, w ∈ wsX6_wipe := by decide +kernel
  have i_RX5 : ∀ w ∈ wsX50, w ∈ wsX6_wipe := by decide +kernel
  have hl : lv_has ls 2 [(0, .ref (a 0))] := hl
  suffices M0 : ∀ (H : Heap) (locs : List Loc), va_P E.1 vwCl (pv_wX E a w0) H → va_S A s.heap H locs → W p l e r_X6_wipe s m args below meth c H locs 0 0 (MQ below (pv_Rw E (pv_wX E a w0) sz (some (.int F.1)) ((fun w : pv_XT => pv_wX E a w) F.2)) args s 0 0 A) (F0 m 0 ls []) from M0 s.heap [] hP hS
  intro H locs hP hS
  refine lv_aload_n (pc := 0) hx hb dX6_wipe_0 rfl (lv_at hl 0 rfl) ?_
  refine va_get (pc := 1) (D := E.1) (ci := 4) (v := .ref (a 25)) (C := RX6) (T := TX6) (N := 8) hx hb hts i_RX6 hown hK hP 0 rfl rfl 4 (Nat.le_of_ble_eq_true rfl) fl_32 (fun _ h9 => h9) rfl dX6_wipe_1 ?_
  refine va_get (pc := 4) (D := E.1) (ci := 3) (v := .int w0.2.2.2.2.1.2.1) (C := RX5) (T := TX5) (N := 6) hx hb hts i_RX5 hown hK hP 25 rfl rfl 1 (Nat.le_of_ble_eq_true rfl) fl_190 (fun _ h9 => h9) rfl dX6_wipe_4 ?_
  refine lv_istore_n (pc := 7) (lv' := [(1, .int w0.2.2.2.2.1.2.1), (0, .ref (a 0))]) hx hb dX6_wipe_7 rfl hl (Nat.le_of_ble_eq_true rfl) rfl (fun ls hl => ?_)
  refine lv_aload_n (pc := 8) hx hb dX6_wipe_8 rfl (lv_at hl 1 rfl) ?_
  refine va_get (pc := 9) (D := E.1) (ci := 4) (v := .ref (a 25)) (C := RX6) (T := TX6) (N := 8) hx hb hts i_RX6 hown hK hP 0 rfl rfl 4 (Nat.le_of_ble_eq_true rfl) fl_32 (fun _ h9 => h9) rfl dX6_wipe_9 ?_
  refine lv_iconst (pc := 12) (v := 0) hx hb dX6_wipe_12 (by decide) ?_
  refine va_put (pc := 13) (D := E.1) (ci := 3) (v := .int 0) (ty := .int) (C := RX5) (T := TX5) (N := 6) hx hb hts i_RX5 tyX5 tyX5_ok nmX5 hown hK hP (hD w0) hS 25 rfl rfl 1 (Nat.le_of_ble_eq_true rfl) fl_190 (fun _ h9 => h9) rfl (tyX5_ok 1 (Nat.le_of_ble_eq_true rfl)) rfl rfl (Nat.le_of_ble_eq_true rfl) dX6_wipe_13 (fun H locs hP _ hS => ?_)
  have hP : va_P E.1 vwCl (pv_wX E a (w0.1, w0.2.1, w0.2.2.1, w0.2.2.2.1, (w0.2.2.2.2.1.1, 0, w0.2.2.2.2.1.2.2.1, w0.2.2.2.2.1.2.2.2.1, w0.2.2.2.2.1.2.2.2.2.1, w0.2.2.2.2.1.2.2.2.2.2), w0.2.2.2.2.2.1, w0.2.2.2.2.2.2.1, w0.2.2.2.2.2.2.2)) H := hP
  refine lv_iload_n (pc := 16) hx hb dX6_wipe_16 rfl (lv_at hl 0 rfl) ?_
  exact pv_riRW (w := fun w : pv_XT => pv_wX E a w) hx hb hr hlk hAe hS hP (Option.some.inj hq) dX6_wipe_17
def m_X6_spa_38 (x1 : Int32) (w : pv_XT) : Option (Int32 × pv_XT) :=
  some (x1, (w.1, w.2.1, w.2.2.1, w.2.2.2.1, (w.2.2.2.2.1.1, 0, w.2.2.2.2.1.2.2.1, w.2.2.2.2.1.2.2.2.1, w.2.2.2.2.1.2.2.2.2.1, w.2.2.2.2.1.2.2.2.2.2), w.2.2.2.2.2.1, w.2.2.2.2.2.2.1, w.2.2.2.2.2.2.2))
def m_X6_spa  (w : pv_XT) : Option (Int32 × pv_XT) :=
  Option.bind (m_X4_become (w.2.2.1, w.1)) fun u_1 => (Option.bind (m_X5_parse (w.2.2.2.2.1, u_1.1)) fun u_2 => (if u_2.1 < 0 then (m_X6_spa_38 u_2.1 (u_1.2, w.2.1, u_2.2.2, w.2.2.2.1, u_2.2.1, w.2.2.2.2.2.1, w.2.2.2.2.2.2.1, w.2.2.2.2.2.2.2)) else (Option.bind (m_X4_become (u_1.2, u_2.2.2)) fun u_4 => (m_X6_spa_38 u_2.1 (u_4.1, w.2.1, u_4.2, w.2.2.2.1, u_2.2.1, w.2.2.2.2.2.1, w.2.2.2.2.2.2.1, w.2.2.2.2.2.2.2)))))
abbrev r_X6_spa : Room := { frames := 8, cells := 0, slots := 0, locals := 174 }
set_option maxHeartbeats 4000000 in
set_option maxRecDepth 100000 in
theorem c_X6_spa (l : Launch) (E : pv_E) (a : Nat → Nat)  (w0 : pv_XT) (F : Int32 × pv_XT) (hq : m_X6_spa w0 = some F) : pv_RW l E yX6_spa wsX6_spa r_X6_spa (pv_wX E a w0) [.ref (a 0)] (some (.int F.1)) (pv_wX E a F.2) := by
  intro sz
  refine pv_mk (by decide) rfl (Nat.le_of_ble_eq_true rfl) ?_
  intro p e s m args below meth c A hx hb hr hml hown hts hlk hAe hP hD0 hA hE hS ls hl
  have hown : s.vm.findClass RX6 = some m.cls := hown
  have hK := hE.1
  have hD : ∀ w : pv_XT, va_D A (pv_wX E a w) := fun w => pv_Dm (ws := pv_wX E a w0) (ws' := pv_wX E a w) rfl hD0
  have hP : va_P E.1 vwCl (pv_wX E a w0) s.heap := hP
  have fl_19 : (Cond.fieldLink RX6 19 "ProvinceCards" "ahead" "LProvinceCards$Table;").before args s = true := hts _ (by decide +kernel)
  have fl_10 : (Cond.fieldLink RX6 10 "ProvinceCards" "table" "LProvinceCards$Table;").before args s = true := hts _ (by decide +kernel)
  have fl_32 : (Cond.fieldLink RX6 32 "ProvinceCards" "tape" "LProvinceCards$Tape;").before args s = true := hts _ (by decide +kernel)
  have fl_190 : (Cond.fieldLink RX6 190 "ProvinceCards$Tape" "length" "I").before args s = true := hts _ (by decide +kernel)
  have i_RX6 : ∀ w ∈ wsX60, w ∈ wsX6_spa := by decide +kernel
  have i_RX5 : ∀ w ∈ wsX50, w ∈ wsX6_spa := by decide +kernel
  have hl : lv_has ls 2 [(0, .ref (a 0))] := hl
  have B_38 : ∀ (x1 : Int32) (w : pv_XT) (H : Heap) (locs : List Loc) (ls : Array Slot), va_P E.1 vwCl (pv_wX E a w) H → va_S A s.heap H locs → lv_has ls 2 [(0, .ref (a 0)), (1, .int x1)] → m_X6_spa_38 x1 w = some F → W p l e r_X6_spa s m args below meth c H locs 0 0 (MQ below (pv_Rw E (pv_wX E a w0) sz (some (.int F.1)) ((fun w : pv_XT => pv_wX E a w) F.2)) args s 0 0 A) (F0 m 38 ls []) := by
    intro x1 w H locs ls hP hS hl hq
    refine lv_aload_n (pc := 38) hx hb dX6_spa_38 rfl (lv_at hl 0 rfl) ?_
    refine va_get (pc := 39) (D := E.1) (ci := 4) (v := .ref (a 25)) (C := RX6) (T := TX6) (N := 8) hx hb hts i_RX6 hown hK hP 0 rfl rfl 4 (Nat.le_of_ble_eq_true rfl) fl_32 (fun _ h9 => h9) rfl dX6_spa_39 ?_
    refine lv_iconst (pc := 42) (v := 0) hx hb dX6_spa_42 (by decide) ?_
    refine va_put (pc := 43) (D := E.1) (ci := 3) (v := .int 0) (ty := .int) (C := RX5) (T := TX5) (N := 6) hx hb hts i_RX5 tyX5 tyX5_ok nmX5 hown hK hP (hD w) hS 25 rfl rfl 1 (Nat.le_of_ble_eq_true rfl) fl_190 (fun _ h9 => h9) rfl (tyX5_ok 1 (Nat.le_of_ble_eq_true rfl)) rfl rfl (Nat.le_of_ble_eq_true rfl) dX6_spa_43 (fun H locs hP _ hS => ?_)
    have hP : va_P E.1 vwCl (pv_wX E a (w.1, w.2.1, w.2.2.1, w.2.2.2.1, (w.2.2.2.2.1.1, 0, w.2.2.2.2.1.2.2.1, w.2.2.2.2.1.2.2.2.1, w.2.2.2.2.1.2.2.2.2.1, w.2.2.2.2.1.2.2.2.2.2), w.2.2.2.2.2.1, w.2.2.2.2.2.2.1, w.2.2.2.2.2.2.2)) H := hP
    refine lv_iload_n (pc := 46) hx hb dX6_spa_46 rfl (lv_at hl 1 rfl) ?_
    exact pv_riRW (w := fun w : pv_XT => pv_wX E a w) hx hb hr hlk hAe hS hP (Option.some.inj hq) dX6_spa_47
  suffices M0 : ∀ (H : Heap) (locs : List Loc), va_P E.1 vwCl (pv_wX E a w0) H → va_S A s.heap H locs → W p l e r_X6_spa s m args below meth c H locs 0 0 (MQ below (pv_Rw E (pv_wX E a w0) sz (some (.int F.1)) ((fun w : pv_XT => pv_wX E a w) F.2)) args s 0 0 A) (F0 m 0 ls []) from M0 s.heap [] hP hS
  intro H locs hP hS
  refine lv_aload_n (pc := 0) hx hb dX6_spa_0 rfl (lv_at hl 0 rfl) ?_
  refine va_get (pc := 1) (D := E.1) (ci := 4) (v := .ref (a 13)) (C := RX6) (T := TX6) (N := 8) hx hb hts i_RX6 hown hK hP 0 rfl rfl 2 (Nat.le_of_ble_eq_true rfl) fl_19 (fun _ h9 => h9) rfl dX6_spa_1 ?_
  refine lv_aload_n (pc := 4) hx hb dX6_spa_4 rfl (lv_at hl 0 rfl) ?_
  refine va_get (pc := 5) (D := E.1) (ci := 4) (v := .ref (a 1)) (C := RX6) (T := TX6) (N := 8) hx hb hts i_RX6 hown hK hP 0 rfl rfl 0 (Nat.le_of_ble_eq_true rfl) fl_10 (fun _ h9 => h9) rfl dX6_spa_5 ?_
  obtain ⟨u_1, hu_1, hq⟩ := pv_bind hq
  refine pv_vRW (pc := 8) (rest := []) (st1 := []) (ws := pv_wX E a w0) (ws' := pv_wX E a (u_1.2, w0.2.1, u_1.1, w0.2.2.2.1, w0.2.2.2.2.1, w0.2.2.2.2.2.1, w0.2.2.2.2.2.2.1, w0.2.2.2.2.2.2.2)) [.ref (a 1)] ⟨hx, hb, hml, hown, hts⟩ hE hA hS hP (hD w0) (c_X4_become l E (a 13) (a 14) (a 15) (a 16) (a 17) (a 18) (a 1) (a 2) (a 3) (a 4) (a 5) (a 6) (w0.2.2.1, w0.1) u_1 hu_1) (cwV 1 hts gX6_spa_X4_become rfl rfl rfl (by decide +kernel) ⟨(Nat.le_of_ble_eq_true rfl), (Nat.le_of_ble_eq_true rfl)⟩) (va_recv hK hP (ci := 2) (q0 := 13) rfl rfl) [13, 14, 15, 16, 17, 18, 1, 2, 3, 4, 5, 6] rfl rfl rfl rfl rfl hl.1 rfl rfl (Nat.le_of_ble_eq_true rfl) dX6_spa_8 ⟨Nat.zero_le _, Nat.zero_le _⟩ (fun H locs hP hS => ?_)
  refine lv_aload_n (pc := 11) hx hb dX6_spa_11 rfl (lv_at hl 0 rfl) ?_
  refine va_get (pc := 12) (D := E.1) (ci := 4) (v := .ref (a 25)) (C := RX6) (T := TX6) (N := 8) hx hb hts i_RX6 hown hK hP 0 rfl rfl 4 (Nat.le_of_ble_eq_true rfl) fl_32 (fun _ h9 => h9) rfl dX6_spa_12 ?_
  refine lv_aload_n (pc := 15) hx hb dX6_spa_15 rfl (lv_at hl 0 rfl) ?_
  refine va_get (pc := 16) (D := E.1) (ci := 4) (v := .ref (a 13)) (C := RX6) (T := TX6) (N := 8) hx hb hts i_RX6 hown hK hP 0 rfl rfl 2 (Nat.le_of_ble_eq_true rfl) fl_19 (fun _ h9 => h9) rfl dX6_spa_16 ?_
  obtain ⟨u_2, hu_2, hq⟩ := pv_bind hq
  refine pv_vRW (pc := 19) (rest := []) (st1 := [.int u_2.1]) (ws := pv_wX E a (u_1.2, w0.2.1, u_1.1, w0.2.2.2.1, w0.2.2.2.2.1, w0.2.2.2.2.2.1, w0.2.2.2.2.2.2.1, w0.2.2.2.2.2.2.2)) (ws' := pv_wX E a (u_1.2, w0.2.1, u_2.2.2, w0.2.2.2.1, u_2.2.1, w0.2.2.2.2.2.1, w0.2.2.2.2.2.2.1, w0.2.2.2.2.2.2.2)) [.ref (a 13)] ⟨hx, hb, hml, hown, hts⟩ hE hA hS hP (hD (u_1.2, w0.2.1, u_1.1, w0.2.2.2.1, w0.2.2.2.2.1, w0.2.2.2.2.2.1, w0.2.2.2.2.2.2.1, w0.2.2.2.2.2.2.2)) (c_X5_parse l E (a 25) (a 26) (a 13) (a 14) (a 15) (a 16) (a 17) (a 18) (w0.2.2.2.2.1, u_1.1) u_2 hu_2) (cwV 1 hts gX6_spa_X5_parse rfl rfl rfl (by decide +kernel) ⟨(Nat.le_of_ble_eq_true rfl), (Nat.le_of_ble_eq_true rfl)⟩) (va_recv hK hP (ci := 3) (q0 := 25) rfl rfl) [25, 26, 13, 14, 15, 16, 17, 18] rfl rfl rfl rfl rfl hl.1 rfl rfl (Nat.le_of_ble_eq_true rfl) dX6_spa_19 ⟨Nat.zero_le _, Nat.zero_le _⟩ (fun H locs hP hS => ?_)
  refine lv_istore_n (pc := 22) (lv' := [(1, .int u_2.1), (0, .ref (a 0))]) hx hb dX6_spa_22 rfl hl (Nat.le_of_ble_eq_true rfl) rfl (fun ls hl => ?_)
  refine lv_iload_n (pc := 23) hx hb dX6_spa_23 rfl (lv_at hl 0 rfl) ?_
  refine lv_if_lt (pc := 24) (tgt := 38) hx hb dX6_spa_24 (by decide) (fun c_3 => ?_) (fun c_3 => ?_)
  · have hq := pv_pos c_3 hq
    exact B_38 u_2.1 (u_1.2, w0.2.1, u_2.2.2, w0.2.2.2.1, u_2.2.1, w0.2.2.2.2.2.1, w0.2.2.2.2.2.2.1, w0.2.2.2.2.2.2.2) H locs ls hP hS (lv_sub hl [1, 0] rfl) hq
  · have hq := pv_neg c_3 hq
    refine lv_aload_n (pc := 27) hx hb dX6_spa_27 rfl (lv_at hl 1 rfl) ?_
    refine va_get (pc := 28) (D := E.1) (ci := 4) (v := .ref (a 1)) (C := RX6) (T := TX6) (N := 8) hx hb hts i_RX6 hown hK hP 0 rfl rfl 0 (Nat.le_of_ble_eq_true rfl) fl_10 (fun _ h9 => h9) rfl dX6_spa_28 ?_
    refine lv_aload_n (pc := 31) hx hb dX6_spa_31 rfl (lv_at hl 1 rfl) ?_
    refine va_get (pc := 32) (D := E.1) (ci := 4) (v := .ref (a 13)) (C := RX6) (T := TX6) (N := 8) hx hb hts i_RX6 hown hK hP 0 rfl rfl 2 (Nat.le_of_ble_eq_true rfl) fl_19 (fun _ h9 => h9) rfl dX6_spa_32 ?_
    obtain ⟨u_4, hu_4, hq⟩ := pv_bind hq
    refine pv_vRW (pc := 35) (rest := []) (st1 := []) (ws := pv_wX E a (u_1.2, w0.2.1, u_2.2.2, w0.2.2.2.1, u_2.2.1, w0.2.2.2.2.2.1, w0.2.2.2.2.2.2.1, w0.2.2.2.2.2.2.2)) (ws' := pv_wX E a (u_4.1, w0.2.1, u_4.2, w0.2.2.2.1, u_2.2.1, w0.2.2.2.2.2.1, w0.2.2.2.2.2.2.1, w0.2.2.2.2.2.2.2)) [.ref (a 13)] ⟨hx, hb, hml, hown, hts⟩ hE hA hS hP (hD (u_1.2, w0.2.1, u_2.2.2, w0.2.2.2.1, u_2.2.1, w0.2.2.2.2.2.1, w0.2.2.2.2.2.2.1, w0.2.2.2.2.2.2.2)) (c_X4_become l E (a 1) (a 2) (a 3) (a 4) (a 5) (a 6) (a 13) (a 14) (a 15) (a 16) (a 17) (a 18) (u_1.2, u_2.2.2) u_4 hu_4) (cwV 1 hts gX6_spa_X4_become rfl rfl rfl (by decide +kernel) ⟨(Nat.le_of_ble_eq_true rfl), (Nat.le_of_ble_eq_true rfl)⟩) (va_recv hK hP (ci := 2) (q0 := 1) rfl rfl) [1, 2, 3, 4, 5, 6, 13, 14, 15, 16, 17, 18] rfl rfl rfl rfl rfl hl.1 rfl rfl (Nat.le_of_ble_eq_true rfl) dX6_spa_35 ⟨Nat.zero_le _, Nat.zero_le _⟩ (fun H locs hP hS => ?_)
    exact B_38 u_2.1 (u_4.1, w0.2.1, u_4.2, w0.2.2.2.1, u_2.2.1, w0.2.2.2.2.2.1, w0.2.2.2.2.2.2.1, w0.2.2.2.2.2.2.2) H locs ls hP hS (lv_sub hl [1, 0] rfl) hq
def m_X6_image  (w : pv_XT) : Option (Int32 × pv_XT) :=
  Option.bind (m_X4_become (w.2.1, w.1)) fun u_1 => (some (1, (u_1.2, u_1.1, w.2.2.1, w.2.2.2.1, w.2.2.2.2.1, w.2.2.2.2.2.1, w.2.2.2.2.2.2.1, 1)))
abbrev r_X6_image : Room := { frames := 2, cells := 0, slots := 0, locals := 69 }
set_option maxHeartbeats 4000000 in
set_option maxRecDepth 100000 in
theorem c_X6_image (l : Launch) (E : pv_E) (a : Nat → Nat)  (w0 : pv_XT) (F : Int32 × pv_XT) (hq : m_X6_image w0 = some F) : pv_RW l E yX6_image wsX6_image r_X6_image (pv_wX E a w0) [.ref (a 0)] (some (.int F.1)) (pv_wX E a F.2) := by
  intro sz
  refine pv_mk (by decide) rfl (Nat.le_of_ble_eq_true rfl) ?_
  intro p e s m args below meth c A hx hb hr hml hown hts hlk hAe hP hD0 hA hE hS ls hl
  have hown : s.vm.findClass RX6 = some m.cls := hown
  have hK := hE.1
  have hD : ∀ w : pv_XT, va_D A (pv_wX E a w) := fun w => pv_Dm (ws := pv_wX E a w0) (ws' := pv_wX E a w) rfl hD0
  have hP : va_P E.1 vwCl (pv_wX E a w0) s.heap := hP
  have fl_16 : (Cond.fieldLink RX6 16 "ProvinceCards" "kept" "LProvinceCards$Table;").before args s = true := hts _ (by decide +kernel)
  have fl_10 : (Cond.fieldLink RX6 10 "ProvinceCards" "table" "LProvinceCards$Table;").before args s = true := hts _ (by decide +kernel)
  have fl_243 : (Cond.fieldLink RX6 243 "ProvinceCards" "keeps" "Z").before args s = true := hts _ (by decide +kernel)
  have i_RX6 : ∀ w ∈ wsX60, w ∈ wsX6_image := by decide +kernel
  have hl : lv_has ls 1 [(0, .ref (a 0))] := hl
  suffices M0 : ∀ (H : Heap) (locs : List Loc), va_P E.1 vwCl (pv_wX E a w0) H → va_S A s.heap H locs → W p l e r_X6_image s m args below meth c H locs 0 0 (MQ below (pv_Rw E (pv_wX E a w0) sz (some (.int F.1)) ((fun w : pv_XT => pv_wX E a w) F.2)) args s 0 0 A) (F0 m 0 ls []) from M0 s.heap [] hP hS
  intro H locs hP hS
  refine lv_aload_n (pc := 0) hx hb dX6_image_0 rfl (lv_at hl 0 rfl) ?_
  refine va_get (pc := 1) (D := E.1) (ci := 4) (v := .ref (a 7)) (C := RX6) (T := TX6) (N := 8) hx hb hts i_RX6 hown hK hP 0 rfl rfl 1 (Nat.le_of_ble_eq_true rfl) fl_16 (fun _ h9 => h9) rfl dX6_image_1 ?_
  refine lv_aload_n (pc := 4) hx hb dX6_image_4 rfl (lv_at hl 0 rfl) ?_
  refine va_get (pc := 5) (D := E.1) (ci := 4) (v := .ref (a 1)) (C := RX6) (T := TX6) (N := 8) hx hb hts i_RX6 hown hK hP 0 rfl rfl 0 (Nat.le_of_ble_eq_true rfl) fl_10 (fun _ h9 => h9) rfl dX6_image_5 ?_
  obtain ⟨u_1, hu_1, hq⟩ := pv_bind hq
  refine pv_vRW (pc := 8) (rest := []) (st1 := []) (ws := pv_wX E a w0) (ws' := pv_wX E a (u_1.2, u_1.1, w0.2.2.1, w0.2.2.2.1, w0.2.2.2.2.1, w0.2.2.2.2.2.1, w0.2.2.2.2.2.2.1, w0.2.2.2.2.2.2.2)) [.ref (a 1)] ⟨hx, hb, hml, hown, hts⟩ hE hA hS hP (hD w0) (c_X4_become l E (a 7) (a 8) (a 9) (a 10) (a 11) (a 12) (a 1) (a 2) (a 3) (a 4) (a 5) (a 6) (w0.2.1, w0.1) u_1 hu_1) (cwV 1 hts gX6_image_X4_become rfl rfl rfl (by decide +kernel) ⟨(Nat.le_of_ble_eq_true rfl), (Nat.le_of_ble_eq_true rfl)⟩) (va_recv hK hP (ci := 2) (q0 := 7) rfl rfl) [7, 8, 9, 10, 11, 12, 1, 2, 3, 4, 5, 6] rfl rfl rfl rfl rfl hl.1 rfl rfl (Nat.le_of_ble_eq_true rfl) dX6_image_8 ⟨Nat.zero_le _, Nat.zero_le _⟩ (fun H locs hP hS => ?_)
  refine lv_aload_n (pc := 11) hx hb dX6_image_11 rfl (lv_at hl 0 rfl) ?_
  refine lv_iconst (pc := 12) (v := 1) hx hb dX6_image_12 (by decide) ?_
  refine va_put (pc := 13) (D := E.1) (ci := 4) (v := .int 1) (ty := .boolean) (C := RX6) (T := TX6) (N := 8) hx hb hts i_RX6 tyX6 tyX6_ok nmX6 hown hK hP (hD (u_1.2, u_1.1, w0.2.2.1, w0.2.2.2.1, w0.2.2.2.2.1, w0.2.2.2.2.2.1, w0.2.2.2.2.2.2.1, w0.2.2.2.2.2.2.2)) hS 0 rfl rfl 7 (Nat.le_of_ble_eq_true rfl) fl_243 (fun _ h9 => h9) rfl (tyX6_ok 7 (Nat.le_of_ble_eq_true rfl)) rfl rfl (Nat.le_of_ble_eq_true rfl) dX6_image_13 (fun H locs hP _ hS => ?_)
  have hP : va_P E.1 vwCl (pv_wX E a (u_1.2, u_1.1, w0.2.2.1, w0.2.2.2.1, w0.2.2.2.2.1, w0.2.2.2.2.2.1, w0.2.2.2.2.2.2.1, 1)) H := hP
  refine lv_iconst (pc := 16) (v := 1) hx hb dX6_image_16 (by decide) ?_
  exact pv_riRW (w := fun w : pv_XT => pv_wX E a w) hx hb hr hlk hAe hS hP (Option.some.inj hq) dX6_image_17
def m_X6_undo  (w : pv_XT) : Option (Int32 × pv_XT) :=
  if w.2.2.2.2.2.2.2 = 0 then (Option.bind (m_X6_finding (-1000000004) w) fun u_3 => (some (u_3.1, u_3.2))) else (Option.bind (m_X4_become (w.1, w.2.1)) fun u_2 => (some (u_2.1.2.2.1, (u_2.1, u_2.2, w.2.2.1, w.2.2.2.1, w.2.2.2.2.1, w.2.2.2.2.2.1, w.2.2.2.2.2.2.1, w.2.2.2.2.2.2.2))))
abbrev r_X6_undo : Room := { frames := 2, cells := 0, slots := 0, locals := 69 }
set_option maxHeartbeats 4000000 in
set_option maxRecDepth 100000 in
theorem c_X6_undo (l : Launch) (E : pv_E) (a : Nat → Nat)  (w0 : pv_XT) (F : Int32 × pv_XT) (hq : m_X6_undo w0 = some F) : pv_RW l E yX6_undo wsX6_undo r_X6_undo (pv_wX E a w0) [.ref (a 0)] (some (.int F.1)) (pv_wX E a F.2) := by
  intro sz
  refine pv_mk (by decide) rfl (Nat.le_of_ble_eq_true rfl) ?_
  intro p e s m args below meth c A hx hb hr hml hown hts hlk hAe hP hD0 hA hE hS ls hl
  have hown : s.vm.findClass RX6 = some m.cls := hown
  have hK := hE.1
  have hD : ∀ w : pv_XT, va_D A (pv_wX E a w) := fun w => pv_Dm (ws := pv_wX E a w0) (ws' := pv_wX E a w) rfl hD0
  have hP : va_P E.1 vwCl (pv_wX E a w0) s.heap := hP
  have fl_243 : (Cond.fieldLink RX6 243 "ProvinceCards" "keeps" "Z").before args s = true := hts _ (by decide +kernel)
  have fl_10 : (Cond.fieldLink RX6 10 "ProvinceCards" "table" "LProvinceCards$Table;").before args s = true := hts _ (by decide +kernel)
  have fl_16 : (Cond.fieldLink RX6 16 "ProvinceCards" "kept" "LProvinceCards$Table;").before args s = true := hts _ (by decide +kernel)
  have fl_102 : (Cond.fieldLink RX6 102 "ProvinceCards$Table" "envoys" "I").before args s = true := hts _ (by decide +kernel)
  have lc_182 : (Cond.constant RX6 182 (-1000000004)).before args s = true := hts _ (by decide +kernel)
  have i_RX6 : ∀ w ∈ wsX60, w ∈ wsX6_undo := by decide +kernel
  have i_RX4 : ∀ w ∈ wsX40, w ∈ wsX6_undo := by decide +kernel
  have hl : lv_has ls 1 [(0, .ref (a 0))] := hl
  suffices M0 : ∀ (H : Heap) (locs : List Loc), va_P E.1 vwCl (pv_wX E a w0) H → va_S A s.heap H locs → W p l e r_X6_undo s m args below meth c H locs 0 0 (MQ below (pv_Rw E (pv_wX E a w0) sz (some (.int F.1)) ((fun w : pv_XT => pv_wX E a w) F.2)) args s 0 0 A) (F0 m 0 ls []) from M0 s.heap [] hP hS
  intro H locs hP hS
  refine lv_aload_n (pc := 0) hx hb dX6_undo_0 rfl (lv_at hl 0 rfl) ?_
  refine va_get (pc := 1) (D := E.1) (ci := 4) (v := .int w0.2.2.2.2.2.2.2) (C := RX6) (T := TX6) (N := 8) hx hb hts i_RX6 hown hK hP 0 rfl rfl 7 (Nat.le_of_ble_eq_true rfl) fl_243 (fun _ h9 => h9) rfl dX6_undo_1 ?_
  refine lv_if_ne (pc := 4) (tgt := 14) hx hb dX6_undo_4 (by decide) (fun c_1 => ?_) (fun c_1 => ?_)
  · have hq := pv_neg c_1 hq
    refine lv_aload_n (pc := 14) hx hb dX6_undo_14 rfl (lv_at hl 0 rfl) ?_
    refine va_get (pc := 15) (D := E.1) (ci := 4) (v := .ref (a 1)) (C := RX6) (T := TX6) (N := 8) hx hb hts i_RX6 hown hK hP 0 rfl rfl 0 (Nat.le_of_ble_eq_true rfl) fl_10 (fun _ h9 => h9) rfl dX6_undo_15 ?_
    refine lv_aload_n (pc := 18) hx hb dX6_undo_18 rfl (lv_at hl 0 rfl) ?_
    refine va_get (pc := 19) (D := E.1) (ci := 4) (v := .ref (a 7)) (C := RX6) (T := TX6) (N := 8) hx hb hts i_RX6 hown hK hP 0 rfl rfl 1 (Nat.le_of_ble_eq_true rfl) fl_16 (fun _ h9 => h9) rfl dX6_undo_19 ?_
    obtain ⟨u_2, hu_2, hq⟩ := pv_bind hq
    refine pv_vRW (pc := 22) (rest := []) (st1 := []) (ws := pv_wX E a w0) (ws' := pv_wX E a (u_2.1, u_2.2, w0.2.2.1, w0.2.2.2.1, w0.2.2.2.2.1, w0.2.2.2.2.2.1, w0.2.2.2.2.2.2.1, w0.2.2.2.2.2.2.2)) [.ref (a 7)] ⟨hx, hb, hml, hown, hts⟩ hE hA hS hP (hD w0) (c_X4_become l E (a 1) (a 2) (a 3) (a 4) (a 5) (a 6) (a 7) (a 8) (a 9) (a 10) (a 11) (a 12) (w0.1, w0.2.1) u_2 hu_2) (cwV 1 hts gX6_undo_X4_become rfl rfl rfl (by decide +kernel) ⟨(Nat.le_of_ble_eq_true rfl), (Nat.le_of_ble_eq_true rfl)⟩) (va_recv hK hP (ci := 2) (q0 := 1) rfl rfl) [1, 2, 3, 4, 5, 6, 7, 8, 9, 10, 11, 12] rfl rfl rfl rfl rfl hl.1 rfl rfl (Nat.le_of_ble_eq_true rfl) dX6_undo_22 ⟨Nat.zero_le _, Nat.zero_le _⟩ (fun H locs hP hS => ?_)
    refine lv_aload_n (pc := 25) hx hb dX6_undo_25 rfl (lv_at hl 0 rfl) ?_
    refine va_get (pc := 26) (D := E.1) (ci := 4) (v := .ref (a 1)) (C := RX6) (T := TX6) (N := 8) hx hb hts i_RX6 hown hK hP 0 rfl rfl 0 (Nat.le_of_ble_eq_true rfl) fl_10 (fun _ h9 => h9) rfl dX6_undo_26 ?_
    refine va_get (pc := 29) (D := E.1) (ci := 2) (v := .int u_2.1.2.2.1) (C := RX4) (T := TX4) (N := 8) hx hb hts i_RX4 hown hK hP 1 rfl rfl 2 (Nat.le_of_ble_eq_true rfl) fl_102 (fun _ h9 => h9) rfl dX6_undo_29 ?_
    exact pv_riRW (w := fun w : pv_XT => pv_wX E a w) hx hb hr hlk hAe hS hP (Option.some.inj hq) dX6_undo_32
  · have hq := pv_pos c_1 hq
    refine lv_aload_n (pc := 7) hx hb dX6_undo_7 rfl (lv_at hl 0 rfl) ?_
    refine lv_ldc (pc := 8) hx hb hown lc_182 dX6_undo_8 ?_
    obtain ⟨u_3, hu_3, hq⟩ := pv_bind hq
    refine pv_vRWf (pc := 10) (rest := []) (st1 := [.int u_3.1]) (ws := pv_wX E a w0) [.int (-1000000004)] ⟨hx, hb, hml, hown, hts⟩ hE hA hS hP (hD w0) (c_X6_finding l E a (-1000000004) w0 u_3 hu_3) (cwV 1 hts gX6_undo_X6_finding rfl rfl rfl (by decide +kernel) ⟨(Nat.le_of_ble_eq_true rfl), (Nat.le_of_ble_eq_true rfl)⟩) (va_recv hK hP (ci := 4) (q0 := 0) rfl rfl) rfl hl.1 rfl rfl (Nat.le_of_ble_eq_true rfl) dX6_undo_10 ⟨Nat.zero_le _, Nat.zero_le _⟩ (fun H locs hP hS => ?_)
    have hP : va_P E.1 vwCl (pv_wX E a u_3.2) H := hP
    exact pv_riRW (w := fun w : pv_XT => pv_wX E a w) hx hb hr hlk hAe hS hP (Option.some.inj hq) dX6_undo_13
def m_X6_tear_12 (y0 : Int32) (w : pv_XT) : Option (Int32 × pv_XT) :=
  some (y0, (w.1, w.2.1, w.2.2.1, w.2.2.2.1, w.2.2.2.2.1, w.2.2.2.2.2.1, w.2.2.2.2.2.2.1, 0))
def m_X6_tear  (w : pv_XT) : Option (Int32 × pv_XT) :=
  if w.2.2.2.2.2.2.2 = 0 then (m_X6_tear_12 0 w) else (m_X6_tear_12 1 w)
abbrev r_X6_tear : Room := { frames := 0, cells := 0, slots := 0, locals := 0 }
set_option maxHeartbeats 4000000 in
set_option maxRecDepth 100000 in
theorem c_X6_tear (l : Launch) (E : pv_E) (a : Nat → Nat)  (w0 : pv_XT) (F : Int32 × pv_XT) (hq : m_X6_tear w0 = some F) : pv_RW l E yX6_tear wsX6_tear r_X6_tear (pv_wX E a w0) [.ref (a 0)] (some (.int F.1)) (pv_wX E a F.2) := by
  intro sz
  refine pv_mk (by decide) rfl (Nat.le_of_ble_eq_true rfl) ?_
  intro p e s m args below meth c A hx hb hr hml hown hts hlk hAe hP hD0 hA hE hS ls hl
  have hown : s.vm.findClass RX6 = some m.cls := hown
  have hK := hE.1
  have hD : ∀ w : pv_XT, va_D A (pv_wX E a w) := fun w => pv_Dm (ws := pv_wX E a w0) (ws' := pv_wX E a w) rfl hD0
  have hP : va_P E.1 vwCl (pv_wX E a w0) s.heap := hP
  have fl_243 : (Cond.fieldLink RX6 243 "ProvinceCards" "keeps" "Z").before args s = true := hts _ (by decide +kernel)
  have i_RX6 : ∀ w ∈ wsX60, w ∈ wsX6_tear := by decide +kernel
  have hl : lv_has ls 2 [(0, .ref (a 0))] := hl
  have B_12 : ∀ (y0 : Int32) (w : pv_XT) (H : Heap) (locs : List Loc) (ls : Array Slot), va_P E.1 vwCl (pv_wX E a w) H → va_S A s.heap H locs → lv_has ls 2 [(0, .ref (a 0))] → m_X6_tear_12 y0 w = some F → W p l e r_X6_tear s m args below meth c H locs 0 0 (MQ below (pv_Rw E (pv_wX E a w0) sz (some (.int F.1)) ((fun w : pv_XT => pv_wX E a w) F.2)) args s 0 0 A) (F0 m 12 ls [.int y0]) := by
    intro y0 w H locs ls hP hS hl hq
    refine lv_istore_n (pc := 12) (lv' := [(1, .int y0), (0, .ref (a 0))]) hx hb dX6_tear_12 rfl hl (Nat.le_of_ble_eq_true rfl) rfl (fun ls hl => ?_)
    refine lv_aload_n (pc := 13) hx hb dX6_tear_13 rfl (lv_at hl 1 rfl) ?_
    refine lv_iconst (pc := 14) (v := 0) hx hb dX6_tear_14 (by decide) ?_
    refine va_put (pc := 15) (D := E.1) (ci := 4) (v := .int 0) (ty := .boolean) (C := RX6) (T := TX6) (N := 8) hx hb hts i_RX6 tyX6 tyX6_ok nmX6 hown hK hP (hD w) hS 0 rfl rfl 7 (Nat.le_of_ble_eq_true rfl) fl_243 (fun _ h9 => h9) rfl (tyX6_ok 7 (Nat.le_of_ble_eq_true rfl)) rfl rfl (Nat.le_of_ble_eq_true rfl) dX6_tear_15 (fun H locs hP _ hS => ?_)
    have hP : va_P E.1 vwCl (pv_wX E a (w.1, w.2.1, w.2.2.1, w.2.2.2.1, w.2.2.2.2.1, w.2.2.2.2.2.1, w.2.2.2.2.2.2.1, 0)) H := hP
    refine lv_iload_n (pc := 18) hx hb dX6_tear_18 rfl (lv_at hl 0 rfl) ?_
    exact pv_riRW (w := fun w : pv_XT => pv_wX E a w) hx hb hr hlk hAe hS hP (Option.some.inj hq) dX6_tear_19
  suffices M0 : ∀ (H : Heap) (locs : List Loc), va_P E.1 vwCl (pv_wX E a w0) H → va_S A s.heap H locs → W p l e r_X6_tear s m args below meth c H locs 0 0 (MQ below (pv_Rw E (pv_wX E a w0) sz (some (.int F.1)) ((fun w : pv_XT => pv_wX E a w) F.2)) args s 0 0 A) (F0 m 0 ls []) from M0 s.heap [] hP hS
  intro H locs hP hS
  refine lv_aload_n (pc := 0) hx hb dX6_tear_0 rfl (lv_at hl 0 rfl) ?_
  refine va_get (pc := 1) (D := E.1) (ci := 4) (v := .int w0.2.2.2.2.2.2.2) (C := RX6) (T := TX6) (N := 8) hx hb hts i_RX6 hown hK hP 0 rfl rfl 7 (Nat.le_of_ble_eq_true rfl) fl_243 (fun _ h9 => h9) rfl dX6_tear_1 ?_
  refine lv_if_eq (pc := 4) (tgt := 11) hx hb dX6_tear_4 (by decide) (fun c_1 => ?_) (fun c_1 => ?_)
  · have hq := pv_pos c_1 hq
    refine lv_iconst (pc := 11) (v := 0) hx hb dX6_tear_11 (by decide) ?_
    exact B_12 0 w0 H locs ls hP hS (lv_sub hl [0] rfl) hq
  · have hq := pv_neg c_1 hq
    refine lv_iconst (pc := 7) (v := 1) hx hb dX6_tear_7 (by decide) ?_
    refine lv_goto (pc := 8) (tgt := 12) hx hb dX6_tear_8 (by decide) ?_
    exact B_12 1 w0 H locs ls hP hS (lv_sub hl [0] rfl) hq
def m_X6_count (x1 : Int32) (w : pv_XT) : Option (Int32 × pv_XT) :=
  if x1 = 0 then (some (w.1.2.2.1, w)) else if x1 = 1 then (some (w.2.2.2.2.1.2.1, w)) else if x1 = 2 then (Option.bind (m_X4_owned (-1) w.1) fun u_4 => (some (u_4, w))) else if x1 = 3 then (Option.bind (m_X4_winsTogether w.1) fun u_6 => (some (u_6, w))) else (Option.bind (m_X6_finding (-1000000001) w) fun u_7 => (some (u_7.1, u_7.2)))
abbrev r_X6_count : Room := { frames := 2, cells := 0, slots := 0, locals := 44 }
set_option maxHeartbeats 4000000 in
set_option maxRecDepth 100000 in
theorem c_X6_count (l : Launch) (E : pv_E) (a : Nat → Nat) (x1 : Int32) (w0 : pv_XT) (F : Int32 × pv_XT) (hq : m_X6_count x1 w0 = some F) : pv_RW l E yX6_count wsX6_count r_X6_count (pv_wX E a w0) [.ref (a 0), .int x1] (some (.int F.1)) (pv_wX E a F.2) := by
  intro sz
  refine pv_mk (by decide) rfl (Nat.le_of_ble_eq_true rfl) ?_
  intro p e s m args below meth c A hx hb hr hml hown hts hlk hAe hP hD0 hA hE hS ls hl
  have hown : s.vm.findClass RX6 = some m.cls := hown
  have hK := hE.1
  have hD : ∀ w : pv_XT, va_D A (pv_wX E a w) := fun w => pv_Dm (ws := pv_wX E a w0) (ws' := pv_wX E a w) rfl hD0
  have hP : va_P E.1 vwCl (pv_wX E a w0) s.heap := hP
  have fl_10 : (Cond.fieldLink RX6 10 "ProvinceCards" "table" "LProvinceCards$Table;").before args s = true := hts _ (by decide +kernel)
  have fl_102 : (Cond.fieldLink RX6 102 "ProvinceCards$Table" "envoys" "I").before args s = true := hts _ (by decide +kernel)
  have fl_32 : (Cond.fieldLink RX6 32 "ProvinceCards" "tape" "LProvinceCards$Tape;").before args s = true := hts _ (by decide +kernel)
  have fl_190 : (Cond.fieldLink RX6 190 "ProvinceCards$Tape" "length" "I").before args s = true := hts _ (by decide +kernel)
  have lc_51 : (Cond.constant RX6 51 (-1000000001)).before args s = true := hts _ (by decide +kernel)
  have i_RX6 : ∀ w ∈ wsX60, w ∈ wsX6_count := by decide +kernel
  have i_RX4 : ∀ w ∈ wsX40, w ∈ wsX6_count := by decide +kernel
  have i_RX5 : ∀ w ∈ wsX50, w ∈ wsX6_count := by decide +kernel
  have hl : lv_has ls 2 [(0, .ref (a 0)), (1, .int x1)] := hl
  suffices M0 : ∀ (H : Heap) (locs : List Loc), va_P E.1 vwCl (pv_wX E a w0) H → va_S A s.heap H locs → W p l e r_X6_count s m args below meth c H locs 0 0 (MQ below (pv_Rw E (pv_wX E a w0) sz (some (.int F.1)) ((fun w : pv_XT => pv_wX E a w) F.2)) args s 0 0 A) (F0 m 0 ls []) from M0 s.heap [] hP hS
  intro H locs hP hS
  refine lv_iload_n (pc := 0) hx hb dX6_count_0 rfl (lv_at hl 1 rfl) ?_
  by_cases c_1 : x1 = 0
  · have hq := pv_pos c_1 hq
    refine lv_tableIn (pc := 1) (tgt := 32) (off := 31) hx hb dX6_count_1 (by rw [c_1]; decide) (by rw [c_1]; decide) (by rw [c_1]; rfl) (by decide) ?_
    refine lv_aload_n (pc := 32) hx hb dX6_count_32 rfl (lv_at hl 0 rfl) ?_
    refine va_get (pc := 33) (D := E.1) (ci := 4) (v := .ref (a 1)) (C := RX6) (T := TX6) (N := 8) hx hb hts i_RX6 hown hK hP 0 rfl rfl 0 (Nat.le_of_ble_eq_true rfl) fl_10 (fun _ h9 => h9) rfl dX6_count_33 ?_
    refine va_get (pc := 36) (D := E.1) (ci := 2) (v := .int w0.1.2.2.1) (C := RX4) (T := TX4) (N := 8) hx hb hts i_RX4 hown hK hP 1 rfl rfl 2 (Nat.le_of_ble_eq_true rfl) fl_102 (fun _ h9 => h9) rfl dX6_count_36 ?_
    exact pv_riRW (w := fun w : pv_XT => pv_wX E a w) hx hb hr hlk hAe hS hP (Option.some.inj hq) dX6_count_39
  have hq := pv_neg c_1 hq
  by_cases c_2 : x1 = 1
  · have hq := pv_pos c_2 hq
    refine lv_tableIn (pc := 1) (tgt := 40) (off := 39) hx hb dX6_count_1 (by rw [c_2]; decide) (by rw [c_2]; decide) (by rw [c_2]; rfl) (by decide) ?_
    refine lv_aload_n (pc := 40) hx hb dX6_count_40 rfl (lv_at hl 0 rfl) ?_
    refine va_get (pc := 41) (D := E.1) (ci := 4) (v := .ref (a 25)) (C := RX6) (T := TX6) (N := 8) hx hb hts i_RX6 hown hK hP 0 rfl rfl 4 (Nat.le_of_ble_eq_true rfl) fl_32 (fun _ h9 => h9) rfl dX6_count_41 ?_
    refine va_get (pc := 44) (D := E.1) (ci := 3) (v := .int w0.2.2.2.2.1.2.1) (C := RX5) (T := TX5) (N := 6) hx hb hts i_RX5 hown hK hP 25 rfl rfl 1 (Nat.le_of_ble_eq_true rfl) fl_190 (fun _ h9 => h9) rfl dX6_count_44 ?_
    exact pv_riRW (w := fun w : pv_XT => pv_wX E a w) hx hb hr hlk hAe hS hP (Option.some.inj hq) dX6_count_47
  have hq := pv_neg c_2 hq
  by_cases c_3 : x1 = 2
  · have hq := pv_pos c_3 hq
    refine lv_tableIn (pc := 1) (tgt := 48) (off := 47) hx hb dX6_count_1 (by rw [c_3]; decide) (by rw [c_3]; decide) (by rw [c_3]; rfl) (by decide) ?_
    refine lv_aload_n (pc := 48) hx hb dX6_count_48 rfl (lv_at hl 0 rfl) ?_
    refine va_get (pc := 49) (D := E.1) (ci := 4) (v := .ref (a 1)) (C := RX6) (T := TX6) (N := 8) hx hb hts i_RX6 hown hK hP 0 rfl rfl 0 (Nat.le_of_ble_eq_true rfl) fl_10 (fun _ h9 => h9) rfl dX6_count_49 ?_
    refine lv_iconst (pc := 52) (v := (-1)) hx hb dX6_count_52 (by decide) ?_
    obtain ⟨u_4, hu_4, hq⟩ := pv_bind hq
    refine pv_vRO (pc := 53) (rest := []) (st1 := [.int u_4]) (ws := pv_wX E a w0) [.int (-1)] ⟨hx, hb, hml, hown, hts⟩ hE hA hS hP (hD w0) (c_X4_owned l E (a 1) (a 2) (a 3) (a 4) (a 5) (a 6) (-1) w0.1 u_4 hu_4) (cwV 1 hts gX6_count_X4_owned rfl rfl rfl (by decide +kernel) ⟨(Nat.le_of_ble_eq_true rfl), (Nat.le_of_ble_eq_true rfl)⟩) (va_recv hK hP (ci := 2) (q0 := 1) rfl rfl) [1, 2, 3, 4, 5, 6] rfl rfl rfl hl.1 rfl rfl (Nat.le_of_ble_eq_true rfl) dX6_count_53 ⟨Nat.zero_le _, Nat.zero_le _⟩ (fun locs hS => ?_)
    exact pv_riRW (w := fun w : pv_XT => pv_wX E a w) hx hb hr hlk hAe hS hP (Option.some.inj hq) dX6_count_56
  have hq := pv_neg c_3 hq
  by_cases c_5 : x1 = 3
  · have hq := pv_pos c_5 hq
    refine lv_tableIn (pc := 1) (tgt := 57) (off := 56) hx hb dX6_count_1 (by rw [c_5]; decide) (by rw [c_5]; decide) (by rw [c_5]; rfl) (by decide) ?_
    refine lv_aload_n (pc := 57) hx hb dX6_count_57 rfl (lv_at hl 0 rfl) ?_
    refine va_get (pc := 58) (D := E.1) (ci := 4) (v := .ref (a 1)) (C := RX6) (T := TX6) (N := 8) hx hb hts i_RX6 hown hK hP 0 rfl rfl 0 (Nat.le_of_ble_eq_true rfl) fl_10 (fun _ h9 => h9) rfl dX6_count_58 ?_
    obtain ⟨u_6, hu_6, hq⟩ := pv_bind hq
    refine pv_vRO (pc := 61) (rest := []) (st1 := [.int u_6]) (ws := pv_wX E a w0) [] ⟨hx, hb, hml, hown, hts⟩ hE hA hS hP (hD w0) (c_X4_winsTogether l E (a 1) (a 2) (a 3) (a 4) (a 5) (a 6) w0.1 u_6 hu_6) (cwV 0 hts gX6_count_X4_winsTogether rfl rfl rfl (by decide +kernel) ⟨(Nat.le_of_ble_eq_true rfl), (Nat.le_of_ble_eq_true rfl)⟩) (va_recv hK hP (ci := 2) (q0 := 1) rfl rfl) [1, 2, 3, 4, 5, 6] rfl rfl rfl hl.1 rfl rfl (Nat.le_of_ble_eq_true rfl) dX6_count_61 ⟨Nat.zero_le _, Nat.zero_le _⟩ (fun locs hS => ?_)
    exact pv_riRW (w := fun w : pv_XT => pv_wX E a w) hx hb hr hlk hAe hS hP (Option.some.inj hq) dX6_count_64
  have hq := pv_neg c_5 hq
  refine lv_tableOut (pc := 1) (tgt := 65) hx hb dX6_count_1 (pv_swr (x := x1) 0 3 (fun k h1 h2 => (fun e7 => Or.elim e7 (fun e8 e9 => c_1 ((e9.trans (congrArg Int32.ofInt e8)).trans (by decide))) (fun e7 => Or.elim e7 (fun e8 e9 => c_2 ((e9.trans (congrArg Int32.ofInt e8)).trans (by decide))) (fun e7 => Or.elim e7 (fun e8 e9 => c_3 ((e9.trans (congrArg Int32.ofInt e8)).trans (by decide))) (fun e8 e9 => c_5 ((e9.trans (congrArg Int32.ofInt e8)).trans (by decide)))))) (show k = 0 ∨ k = 1 ∨ k = 2 ∨ k = 3 by omega))) (by decide) ?_
  refine lv_aload_n (pc := 65) hx hb dX6_count_65 rfl (lv_at hl 0 rfl) ?_
  refine lv_ldc (pc := 66) hx hb hown lc_51 dX6_count_66 ?_
  obtain ⟨u_7, hu_7, hq⟩ := pv_bind hq
  refine pv_vRWf (pc := 68) (rest := []) (st1 := [.int u_7.1]) (ws := pv_wX E a w0) [.int (-1000000001)] ⟨hx, hb, hml, hown, hts⟩ hE hA hS hP (hD w0) (c_X6_finding l E a (-1000000001) w0 u_7 hu_7) (cwV 1 hts gX6_count_X6_finding rfl rfl rfl (by decide +kernel) ⟨(Nat.le_of_ble_eq_true rfl), (Nat.le_of_ble_eq_true rfl)⟩) (va_recv hK hP (ci := 4) (q0 := 0) rfl rfl) rfl hl.1 rfl rfl (Nat.le_of_ble_eq_true rfl) dX6_count_68 ⟨Nat.zero_le _, Nat.zero_le _⟩ (fun H locs hP hS => ?_)
  have hP : va_P E.1 vwCl (pv_wX E a u_7.2) H := hP
  exact pv_riRW (w := fun w : pv_XT => pv_wX E a w) hx hb hr hlk hAe hS hP (Option.some.inj hq) dX6_count_71
def m_X6_status_32 : Nat → Int32 → Int32 → pv_XT → Option (Int32 × pv_XT)
  | 0 => fun _ _ _ => none
  | n + 1 => fun x2 x3 w =>
    if 7 ≤ x3 then (some (x2, w)) else (pv_gd x3 7 ((m_X6_status_32 n) (x2 + (w.2.2.2.2.2.2.1 x3.toNatClampNeg)) (x3 + 1) w))
def m_X6_status (x1 : Int32) (w : pv_XT) : Option (Int32 × pv_XT) :=
  if (m_X6_isWithin x1 (-1) 6) = 0 then (Option.bind (m_X6_finding (-1000000001) w) fun u_6 => (some (u_6.1, u_6.2))) else (if x1 < 0 then (m_X6_status_32 300 0 0 w) else (pv_gd x1 7 (some ((w.2.2.2.2.2.2.1 x1.toNatClampNeg), w))))
abbrev r_X6_status : Room := { frames := 1, cells := 0, slots := 0, locals := 22 }
set_option maxHeartbeats 4000000 in
set_option maxRecDepth 100000 in
theorem c_X6_status (l : Launch) (E : pv_E) (a : Nat → Nat) (x1 : Int32) (w0 : pv_XT) (F : Int32 × pv_XT) (hq : m_X6_status x1 w0 = some F) : pv_RW l E yX6_status wsX6_status r_X6_status (pv_wX E a w0) [.ref (a 0), .int x1] (some (.int F.1)) (pv_wX E a F.2) := by
  intro sz
  refine pv_mk (by decide) rfl (Nat.le_of_ble_eq_true rfl) ?_
  intro p e s m args below meth c A hx hb hr hml hown hts hlk hAe hP hD0 hA hE hS ls hl
  have hown : s.vm.findClass RX6 = some m.cls := hown
  have hK := hE.1
  have hD : ∀ w : pv_XT, va_D A (pv_wX E a w) := fun w => pv_Dm (ws := pv_wX E a w0) (ws' := pv_wX E a w) rfl hD0
  have hP : va_P E.1 vwCl (pv_wX E a w0) s.heap := hP
  have fl_42 : (Cond.fieldLink RX6 42 "ProvinceCards" "found" "[I").before args s = true := hts _ (by decide +kernel)
  have lc_51 : (Cond.constant RX6 51 (-1000000001)).before args s = true := hts _ (by decide +kernel)
  have i_RX6 : ∀ w ∈ wsX60, w ∈ wsX6_status := by decide +kernel
  have hl : lv_has ls 4 [(0, .ref (a 0)), (1, .int x1)] := hl
  have L_32 : ∀ n : Nat, ∀ (x2 : Int32) (x3 : Int32) (w : pv_XT) (H : Heap) (locs : List Loc) (ls : Array Slot), va_P E.1 vwCl (pv_wX E a w) H → va_S A s.heap H locs → lv_has ls 4 [(0, .ref (a 0)), (2, .int x2), (3, .int x3)] → m_X6_status_32 n x2 x3 w = some F → W p l e r_X6_status s m args below meth c H locs 0 0 (MQ below (pv_Rw E (pv_wX E a w0) sz (some (.int F.1)) ((fun w : pv_XT => pv_wX E a w) F.2)) args s 0 0 A) (F0 m 32 ls []) := by
    intro n
    induction n with
    | zero =>
      intro x2 x3 w H locs ls hP hS hl hq
      exact (pv_no hq).elim
    | succ n ih =>
      intro x2 x3 w H locs ls hP hS hl hq
      refine lv_iload_n (pc := 32) hx hb dX6_status_32 rfl (lv_at hl 2 rfl) ?_
      refine lv_bipush (pc := 33) (v := 7) hx hb dX6_status_33 (by decide) ?_
      refine lv_icmp_ge (pc := 35) (tgt := 53) hx hb dX6_status_35 (by decide) (fun c_3 => ?_) (fun c_3 => ?_)
      · have hq := pv_pos c_3 hq
        refine lv_iload_n (pc := 53) hx hb dX6_status_53 rfl (lv_at hl 1 rfl) ?_
        exact pv_riRW (w := fun w : pv_XT => pv_wX E a w) hx hb hr hlk hAe hS hP (Option.some.inj hq) dX6_status_54
      · have hq := pv_neg c_3 hq
        refine lv_iload_n (pc := 38) hx hb dX6_status_38 rfl (lv_at hl 1 rfl) ?_
        refine lv_aload_n (pc := 39) hx hb dX6_status_39 rfl (lv_at hl 0 rfl) ?_
        refine va_get (pc := 40) (D := E.1) (ci := 4) (v := .ref (a 36)) (C := RX6) (T := TX6) (N := 8) hx hb hts i_RX6 hown hK hP 0 rfl rfl 6 (Nat.le_of_ble_eq_true rfl) fl_42 (fun _ h9 => h9) rfl dX6_status_40 ?_
        refine lv_iload_n (pc := 43) hx hb dX6_status_43 rfl (lv_at hl 2 rfl) ?_
        obtain ⟨h_4, hq⟩ := pv_gd_some hq
        refine va_iald (pc := 44) (D := E.1) hx hb hK hP 36 0 rfl rfl h_4 dX6_status_44 ?_
        refine lv_iadd (pc := 45) hx hb dX6_status_45 ?_
        refine lv_istore_n (pc := 46) (lv' := [(2, .int (x2 + (w.2.2.2.2.2.2.1 x3.toNatClampNeg))), (0, .ref (a 0)), (3, .int x3)]) hx hb dX6_status_46 rfl hl (Nat.le_of_ble_eq_true rfl) rfl (fun ls hl => ?_)
        refine lv_iinc (pc := 47) (v := (x3 + 1)) (lv' := [(3, .int (x3 + 1)), (2, .int (x2 + (w.2.2.2.2.2.2.1 x3.toNatClampNeg))), (0, .ref (a 0))]) hx hb dX6_status_47 hl (k := 2) rfl rfl (Nat.le_of_ble_eq_true rfl) rfl (fun ls hl => ?_)
        refine lv_goto (pc := 50) (tgt := 32) hx hb dX6_status_50 (by decide) ?_
        exact ih (x2 + (w.2.2.2.2.2.2.1 x3.toNatClampNeg)) (x3 + 1) w H locs ls hP hS (lv_sub hl [2, 1, 0] rfl) hq
  suffices M0 : ∀ (H : Heap) (locs : List Loc), va_P E.1 vwCl (pv_wX E a w0) H → va_S A s.heap H locs → W p l e r_X6_status s m args below meth c H locs 0 0 (MQ below (pv_Rw E (pv_wX E a w0) sz (some (.int F.1)) ((fun w : pv_XT => pv_wX E a w) F.2)) args s 0 0 A) (F0 m 0 ls []) from M0 s.heap [] hP hS
  intro H locs hP hS
  refine lv_iload_n (pc := 0) hx hb dX6_status_0 rfl (lv_at hl 1 rfl) ?_
  refine lv_iconst (pc := 1) (v := (-1)) hx hb dX6_status_1 (by decide) ?_
  refine lv_bipush (pc := 2) (v := 6) hx hb dX6_status_2 (by decide) ?_
  refine pv_sRO (pc := 4) (rest := []) (st1 := [.int (m_X6_isWithin x1 (-1) 6)]) (ws := pv_wX E a w0) [.int x1, .int (-1), .int 6] ⟨hx, hb, hml, hown, hts⟩ hE hA hS hP (hD w0) (c_X6_isWithin l E x1 (-1) 6) (va_cwS 3 hts gX6_status_X6_isWithin rfl rfl rfl (by decide +kernel) ⟨(Nat.le_of_ble_eq_true rfl), (Nat.le_of_ble_eq_true rfl)⟩) [] rfl rfl rfl hl.1 rfl rfl (Nat.le_of_ble_eq_true rfl) dX6_status_4 ⟨Nat.zero_le _, Nat.zero_le _⟩ (fun locs hS => ?_)
  refine lv_if_ne (pc := 7) (tgt := 17) hx hb dX6_status_7 (by decide) (fun c_1 => ?_) (fun c_1 => ?_)
  · have hq := pv_neg c_1 hq
    refine lv_iload_n (pc := 17) hx hb dX6_status_17 rfl (lv_at hl 1 rfl) ?_
    refine lv_if_lt (pc := 18) (tgt := 28) hx hb dX6_status_18 (by decide) (fun c_2 => ?_) (fun c_2 => ?_)
    · have hq := pv_pos c_2 hq
      refine lv_iconst (pc := 28) (v := 0) hx hb dX6_status_28 (by decide) ?_
      refine lv_istore_n (pc := 29) (lv' := [(2, .int 0), (0, .ref (a 0)), (1, .int x1)]) hx hb dX6_status_29 rfl hl (Nat.le_of_ble_eq_true rfl) rfl (fun ls hl => ?_)
      refine lv_iconst (pc := 30) (v := 0) hx hb dX6_status_30 (by decide) ?_
      refine lv_istore_n (pc := 31) (lv' := [(3, .int 0), (2, .int 0), (0, .ref (a 0)), (1, .int x1)]) hx hb dX6_status_31 rfl hl (Nat.le_of_ble_eq_true rfl) rfl (fun ls hl => ?_)
      exact L_32 300 0 0 w0 H locs ls hP hS (lv_sub hl [2, 1, 0] rfl) hq
    · have hq := pv_neg c_2 hq
      refine lv_aload_n (pc := 21) hx hb dX6_status_21 rfl (lv_at hl 0 rfl) ?_
      refine va_get (pc := 22) (D := E.1) (ci := 4) (v := .ref (a 36)) (C := RX6) (T := TX6) (N := 8) hx hb hts i_RX6 hown hK hP 0 rfl rfl 6 (Nat.le_of_ble_eq_true rfl) fl_42 (fun _ h9 => h9) rfl dX6_status_22 ?_
      refine lv_iload_n (pc := 25) hx hb dX6_status_25 rfl (lv_at hl 1 rfl) ?_
      obtain ⟨h_5, hq⟩ := pv_gd_some hq
      refine va_iald (pc := 26) (D := E.1) hx hb hK hP 36 0 rfl rfl h_5 dX6_status_26 ?_
      exact pv_riRW (w := fun w : pv_XT => pv_wX E a w) hx hb hr hlk hAe hS hP (Option.some.inj hq) dX6_status_27
  · have hq := pv_pos c_1 hq
    refine lv_aload_n (pc := 10) hx hb dX6_status_10 rfl (lv_at hl 0 rfl) ?_
    refine lv_ldc (pc := 11) hx hb hown lc_51 dX6_status_11 ?_
    obtain ⟨u_6, hu_6, hq⟩ := pv_bind hq
    refine pv_vRWf (pc := 13) (rest := []) (st1 := [.int u_6.1]) (ws := pv_wX E a w0) [.int (-1000000001)] ⟨hx, hb, hml, hown, hts⟩ hE hA hS hP (hD w0) (c_X6_finding l E a (-1000000001) w0 u_6 hu_6) (cwV 1 hts gX6_status_X6_finding rfl rfl rfl (by decide +kernel) ⟨(Nat.le_of_ble_eq_true rfl), (Nat.le_of_ble_eq_true rfl)⟩) (va_recv hK hP (ci := 4) (q0 := 0) rfl rfl) rfl hl.1 rfl rfl (Nat.le_of_ble_eq_true rfl) dX6_status_13 ⟨Nat.zero_le _, Nat.zero_le _⟩ (fun H locs hP hS => ?_)
    have hP : va_P E.1 vwCl (pv_wX E a u_6.2) H := hP
    exact pv_riRW (w := fun w : pv_XT => pv_wX E a w) hx hb hr hlk hAe hS hP (Option.some.inj hq) dX6_status_16
