def m_X7_feed_39 : Nat → Int32 → Int32 → pv_MT → Option (Int32 × pv_MT)
  | 0 => fun _ _ _ => none
  | n + 1 => fun x1 x3 w =>
    if x3 < 0 then (some (w.2.2.2.2.2.2.2.2.1, w)) else (pv_gd w.2.2.2.2.2.2.2.2.1 120 ((m_X7_feed_39 n) x1 (x3 + (-1)) (w.1, w.2.1, w.2.2.1, w.2.2.2.1, w.2.2.2.2.1, w.2.2.2.2.2.1, w.2.2.2.2.2.2.1, (upd w.2.2.2.2.2.2.2.1 w.2.2.2.2.2.2.2.2.1.toNatClampNeg ((x1 >>> ((8 * x3) &&& 31)) &&& 255)), (w.2.2.2.2.2.2.2.2.1 + 1), w.2.2.2.2.2.2.2.2.2.1, w.2.2.2.2.2.2.2.2.2.2.1, w.2.2.2.2.2.2.2.2.2.2.2.1, w.2.2.2.2.2.2.2.2.2.2.2.2.1, w.2.2.2.2.2.2.2.2.2.2.2.2.2.1, w.2.2.2.2.2.2.2.2.2.2.2.2.2.2.1, w.2.2.2.2.2.2.2.2.2.2.2.2.2.2.2.1, w.2.2.2.2.2.2.2.2.2.2.2.2.2.2.2.2)))
def m_X7_feed (x1 : Int32) (x2 : Int32) (w : pv_MT) : Option (Int32 × pv_MT) :=
  if (m_X7_in x2.toInt64 1 4) = 0 then (Option.bind (m_X7_finds (-1000000001) w) fun u_6 => (some (u_6.1, u_6.2))) else (if (w.2.2.2.2.2.2.2.2.1 + x2) ≤ 120 then (m_X7_feed_39 300 x1 (x2 - 1) w) else (Option.bind (m_X7_finds (-1000000002) w) fun u_5 => (some (u_5.1, u_5.2))))
abbrev r_X7_feed : Room := { frames := 1, cells := 0, slots := 0, locals := 23 }
set_option maxHeartbeats 4000000 in
set_option maxRecDepth 100000 in
theorem c_X7_feed (l : Launch) (E : pv_E) (a0 a1 a2 a3 a4 a5 a6 a7 a8 a9 a10 : Nat) (x1 : Int32) (x2 : Int32) (w0 : pv_MT) (F : Int32 × pv_MT) (hq : m_X7_feed x1 x2 w0 = some F) : pv_RW l E yX7_feed wsX7_feed r_X7_feed (pv_wM E a0 a1 a2 a3 a4 a5 a6 a7 a8 a9 a10 w0) [.ref a0, .int x1, .int x2] (some (.int F.1)) (pv_wM E a0 a1 a2 a3 a4 a5 a6 a7 a8 a9 a10 F.2) := by
  intro sz
  refine pv_mk (by decide) rfl (Nat.le_of_ble_eq_true rfl) ?_
  intro p e s m args below meth c A hx hb hr hml hown hts hlk hAe hP hD0 hA hE hS ls hl
  have hown : s.vm.findClass RX7 = some m.cls := hown
  have hK := hE.1
  have hD : ∀ w : pv_MT, va_D A (pv_wM E a0 a1 a2 a3 a4 a5 a6 a7 a8 a9 a10 w) := fun w => pv_Dm (ws := pv_wM E a0 a1 a2 a3 a4 a5 a6 a7 a8 a9 a10 w0) (ws' := pv_wM E a0 a1 a2 a3 a4 a5 a6 a7 a8 a9 a10 w) rfl hD0
  have hP : va_P E.1 vwCl (pv_wM E a0 a1 a2 a3 a4 a5 a6 a7 a8 a9 a10 w0) s.heap := hP
  have fl_160 : (Cond.fieldLink RX7 160 "ProvinceCardsModel" "taped" "I").before args s = true := hts _ (by decide +kernel)
  have fl_28 : (Cond.fieldLink RX7 28 "ProvinceCardsModel" "tape" "[I").before args s = true := hts _ (by decide +kernel)
  have lc_101 : (Cond.constant RX7 101 (-1000000002)).before args s = true := hts _ (by decide +kernel)
  have lc_41 : (Cond.constant RX7 41 (-1000000001)).before args s = true := hts _ (by decide +kernel)
  have i_RX7 : ∀ w ∈ wsX70, w ∈ wsX7_feed := by decide +kernel
  have hl : lv_has ls 4 [(0, .ref a0), (1, .int x1), (2, .int x2)] := hl
  have L_39 : ∀ n : Nat, ∀ (x1 : Int32) (x3 : Int32) (w : pv_MT) (H : Heap) (locs : List Loc) (ls : Array Slot), va_P E.1 vwCl (pv_wM E a0 a1 a2 a3 a4 a5 a6 a7 a8 a9 a10 w) H → va_S A s.heap H locs → lv_has ls 4 [(0, .ref a0), (1, .int x1), (3, .int x3)] → m_X7_feed_39 n x1 x3 w = some F → W p l e r_X7_feed s m args below meth c H locs 0 0 (MQ below (pv_Rw E (pv_wM E a0 a1 a2 a3 a4 a5 a6 a7 a8 a9 a10 w0) sz (some (.int F.1)) ((fun w : pv_MT => pv_wM E a0 a1 a2 a3 a4 a5 a6 a7 a8 a9 a10 w) F.2)) args s 0 0 A) (F0 m 39 ls []) := by
    intro n
    induction n with
    | zero =>
      intro x1 x3 w H locs ls hP hS hl hq
      exact (pv_no hq).elim
    | succ n ih =>
      intro x1 x3 w H locs ls hP hS hl hq
      refine lv_iload_n (pc := 39) hx hb dX7_feed_39 rfl (lv_at hl 2 rfl) ?_
      refine lv_if_lt (pc := 40) (tgt := 78) hx hb dX7_feed_40 (by decide) (fun c_3 => ?_) (fun c_3 => ?_)
      · have hq := pv_pos c_3 hq
        refine lv_aload_n (pc := 78) hx hb dX7_feed_78 rfl (lv_at hl 0 rfl) ?_
        refine va_get (pc := 79) (D := E.1) (ci := 5) (v := .int w.2.2.2.2.2.2.2.2.1) (C := RX7) (T := TX7) (N := 17) hx hb hts i_RX7 hown hK hP 0 rfl rfl 8 (Nat.le_of_ble_eq_true rfl) fl_160 (fun _ h9 => h9) rfl dX7_feed_79 ?_
        exact pv_riRW (w := fun w : pv_MT => pv_wM E a0 a1 a2 a3 a4 a5 a6 a7 a8 a9 a10 w) hx hb hr hlk hAe hS hP (Option.some.inj hq) dX7_feed_82
      · have hq := pv_neg c_3 hq
        refine lv_aload_n (pc := 43) hx hb dX7_feed_43 rfl (lv_at hl 0 rfl) ?_
        refine va_get (pc := 44) (D := E.1) (ci := 5) (v := .ref a7) (C := RX7) (T := TX7) (N := 17) hx hb hts i_RX7 hown hK hP 0 rfl rfl 7 (Nat.le_of_ble_eq_true rfl) fl_28 (fun _ h9 => h9) rfl dX7_feed_44 ?_
        refine lv_aload_n (pc := 47) hx hb dX7_feed_47 rfl (lv_at hl 0 rfl) ?_
        refine va_get (pc := 48) (D := E.1) (ci := 5) (v := .int w.2.2.2.2.2.2.2.2.1) (C := RX7) (T := TX7) (N := 17) hx hb hts i_RX7 hown hK hP 0 rfl rfl 8 (Nat.le_of_ble_eq_true rfl) fl_160 (fun _ h9 => h9) rfl dX7_feed_48 ?_
        refine lv_iload_n (pc := 51) hx hb dX7_feed_51 rfl (lv_at hl 1 rfl) ?_
        refine lv_bipush (pc := 52) (v := 8) hx hb dX7_feed_52 (by decide) ?_
        refine lv_iload_n (pc := 54) hx hb dX7_feed_54 rfl (lv_at hl 2 rfl) ?_
        refine lv_imul (pc := 55) hx hb dX7_feed_55 ?_
        refine lv_ishr (pc := 56) hx hb dX7_feed_56 ?_
        refine lv_sipush (pc := 57) (v := 255) hx hb dX7_feed_57 (by decide) ?_
        refine lv_iand (pc := 60) hx hb dX7_feed_60 ?_
        obtain ⟨h_4, hq⟩ := pv_gd_some hq
        refine va_iast (pc := 61) (D := E.1) hx hb hK hP (hD w) hS 7 0 rfl rfl h_4 dX7_feed_61 (fun H locs hP _ hS => ?_)
        have hP : va_P E.1 vwCl (pv_wM E a0 a1 a2 a3 a4 a5 a6 a7 a8 a9 a10 (w.1, w.2.1, w.2.2.1, w.2.2.2.1, w.2.2.2.2.1, w.2.2.2.2.2.1, w.2.2.2.2.2.2.1, (upd w.2.2.2.2.2.2.2.1 w.2.2.2.2.2.2.2.2.1.toNatClampNeg ((x1 >>> ((8 * x3) &&& 31)) &&& 255)), w.2.2.2.2.2.2.2.2.1, w.2.2.2.2.2.2.2.2.2.1, w.2.2.2.2.2.2.2.2.2.2.1, w.2.2.2.2.2.2.2.2.2.2.2.1, w.2.2.2.2.2.2.2.2.2.2.2.2.1, w.2.2.2.2.2.2.2.2.2.2.2.2.2.1, w.2.2.2.2.2.2.2.2.2.2.2.2.2.2.1, w.2.2.2.2.2.2.2.2.2.2.2.2.2.2.2.1, w.2.2.2.2.2.2.2.2.2.2.2.2.2.2.2.2)) H := hP
        refine lv_aload_n (pc := 62) hx hb dX7_feed_62 rfl (lv_at hl 0 rfl) ?_
        refine lv_dup (pc := 63) hx hb dX7_feed_63 rfl ?_
        refine va_get (pc := 64) (D := E.1) (ci := 5) (v := .int w.2.2.2.2.2.2.2.2.1) (C := RX7) (T := TX7) (N := 17) hx hb hts i_RX7 hown hK hP 0 rfl rfl 8 (Nat.le_of_ble_eq_true rfl) fl_160 (fun _ h9 => h9) rfl dX7_feed_64 ?_
        refine lv_iconst (pc := 67) (v := 1) hx hb dX7_feed_67 (by decide) ?_
        refine lv_iadd (pc := 68) hx hb dX7_feed_68 ?_
        refine va_put (pc := 69) (D := E.1) (ci := 5) (v := .int (w.2.2.2.2.2.2.2.2.1 + 1)) (ty := .int) (C := RX7) (T := TX7) (N := 17) hx hb hts i_RX7 tyX7 tyX7_ok nmX7 hown hK hP (hD (w.1, w.2.1, w.2.2.1, w.2.2.2.1, w.2.2.2.2.1, w.2.2.2.2.2.1, w.2.2.2.2.2.2.1, (upd w.2.2.2.2.2.2.2.1 w.2.2.2.2.2.2.2.2.1.toNatClampNeg ((x1 >>> ((8 * x3) &&& 31)) &&& 255)), w.2.2.2.2.2.2.2.2.1, w.2.2.2.2.2.2.2.2.2.1, w.2.2.2.2.2.2.2.2.2.2.1, w.2.2.2.2.2.2.2.2.2.2.2.1, w.2.2.2.2.2.2.2.2.2.2.2.2.1, w.2.2.2.2.2.2.2.2.2.2.2.2.2.1, w.2.2.2.2.2.2.2.2.2.2.2.2.2.2.1, w.2.2.2.2.2.2.2.2.2.2.2.2.2.2.2.1, w.2.2.2.2.2.2.2.2.2.2.2.2.2.2.2.2)) hS 0 rfl rfl 8 (Nat.le_of_ble_eq_true rfl) fl_160 (fun _ h9 => h9) rfl (tyX7_ok 8 (Nat.le_of_ble_eq_true rfl)) rfl rfl (Nat.le_of_ble_eq_true rfl) dX7_feed_69 (fun H locs hP _ hS => ?_)
        have hP : va_P E.1 vwCl (pv_wM E a0 a1 a2 a3 a4 a5 a6 a7 a8 a9 a10 (w.1, w.2.1, w.2.2.1, w.2.2.2.1, w.2.2.2.2.1, w.2.2.2.2.2.1, w.2.2.2.2.2.2.1, (upd w.2.2.2.2.2.2.2.1 w.2.2.2.2.2.2.2.2.1.toNatClampNeg ((x1 >>> ((8 * x3) &&& 31)) &&& 255)), (w.2.2.2.2.2.2.2.2.1 + 1), w.2.2.2.2.2.2.2.2.2.1, w.2.2.2.2.2.2.2.2.2.2.1, w.2.2.2.2.2.2.2.2.2.2.2.1, w.2.2.2.2.2.2.2.2.2.2.2.2.1, w.2.2.2.2.2.2.2.2.2.2.2.2.2.1, w.2.2.2.2.2.2.2.2.2.2.2.2.2.2.1, w.2.2.2.2.2.2.2.2.2.2.2.2.2.2.2.1, w.2.2.2.2.2.2.2.2.2.2.2.2.2.2.2.2)) H := hP
        refine lv_iinc (pc := 72) (v := (x3 + (-1))) (lv' := [(3, .int (x3 + (-1))), (0, .ref a0), (1, .int x1)]) hx hb dX7_feed_72 hl (k := 2) rfl rfl (Nat.le_of_ble_eq_true rfl) rfl (fun ls hl => ?_)
        refine lv_goto (pc := 75) (tgt := 39) hx hb dX7_feed_75 (by decide) ?_
        exact ih x1 (x3 + (-1)) (w.1, w.2.1, w.2.2.1, w.2.2.2.1, w.2.2.2.2.1, w.2.2.2.2.2.1, w.2.2.2.2.2.2.1, (upd w.2.2.2.2.2.2.2.1 w.2.2.2.2.2.2.2.2.1.toNatClampNeg ((x1 >>> ((8 * x3) &&& 31)) &&& 255)), (w.2.2.2.2.2.2.2.2.1 + 1), w.2.2.2.2.2.2.2.2.2.1, w.2.2.2.2.2.2.2.2.2.2.1, w.2.2.2.2.2.2.2.2.2.2.2.1, w.2.2.2.2.2.2.2.2.2.2.2.2.1, w.2.2.2.2.2.2.2.2.2.2.2.2.2.1, w.2.2.2.2.2.2.2.2.2.2.2.2.2.2.1, w.2.2.2.2.2.2.2.2.2.2.2.2.2.2.2.1, w.2.2.2.2.2.2.2.2.2.2.2.2.2.2.2.2) H locs ls hP hS (lv_sub hl [1, 2, 0] rfl) hq
  suffices M0 : ∀ (H : Heap) (locs : List Loc), va_P E.1 vwCl (pv_wM E a0 a1 a2 a3 a4 a5 a6 a7 a8 a9 a10 w0) H → va_S A s.heap H locs → W p l e r_X7_feed s m args below meth c H locs 0 0 (MQ below (pv_Rw E (pv_wM E a0 a1 a2 a3 a4 a5 a6 a7 a8 a9 a10 w0) sz (some (.int F.1)) ((fun w : pv_MT => pv_wM E a0 a1 a2 a3 a4 a5 a6 a7 a8 a9 a10 w) F.2)) args s 0 0 A) (F0 m 0 ls []) from M0 s.heap [] hP hS
  intro H locs hP hS
  refine lv_iload_n (pc := 0) hx hb dX7_feed_0 rfl (lv_at hl 2 rfl) ?_
  refine lv_i2l (pc := 1) (v := x2.toInt64) hx hb dX7_feed_1 rfl ?_
  refine lv_iconst (pc := 2) (v := 1) hx hb dX7_feed_2 (by decide) ?_
  refine lv_iconst (pc := 3) (v := 4) hx hb dX7_feed_3 (by decide) ?_
  refine pv_sRO (pc := 4) (rest := []) (st1 := [.int (m_X7_in x2.toInt64 1 4)]) (ws := pv_wM E a0 a1 a2 a3 a4 a5 a6 a7 a8 a9 a10 w0) [.long x2.toInt64, .int 1, .int 4] ⟨hx, hb, hml, hown, hts⟩ hE hA hS hP (hD w0) (c_X7_in l E x2.toInt64 1 4) (va_cwS 3 hts gX7_feed_X7_in rfl rfl rfl (by decide +kernel) ⟨(Nat.le_of_ble_eq_true rfl), (Nat.le_of_ble_eq_true rfl)⟩) [] rfl rfl rfl hl.1 rfl rfl (Nat.le_of_ble_eq_true rfl) dX7_feed_4 ⟨Nat.zero_le _, Nat.zero_le _⟩ (fun locs hS => ?_)
  refine lv_if_ne (pc := 7) (tgt := 17) hx hb dX7_feed_7 (by decide) (fun c_1 => ?_) (fun c_1 => ?_)
  · have hq := pv_neg c_1 hq
    refine lv_aload_n (pc := 17) hx hb dX7_feed_17 rfl (lv_at hl 0 rfl) ?_
    refine va_get (pc := 18) (D := E.1) (ci := 5) (v := .int w0.2.2.2.2.2.2.2.2.1) (C := RX7) (T := TX7) (N := 17) hx hb hts i_RX7 hown hK hP 0 rfl rfl 8 (Nat.le_of_ble_eq_true rfl) fl_160 (fun _ h9 => h9) rfl dX7_feed_18 ?_
    refine lv_iload_n (pc := 21) hx hb dX7_feed_21 rfl (lv_at hl 2 rfl) ?_
    refine lv_iadd (pc := 22) hx hb dX7_feed_22 ?_
    refine lv_bipush (pc := 23) (v := 120) hx hb dX7_feed_23 (by decide) ?_
    refine lv_icmp_le (pc := 25) (tgt := 35) hx hb dX7_feed_25 (by decide) (fun c_2 => ?_) (fun c_2 => ?_)
    · have hq := pv_pos c_2 hq
      refine lv_iload_n (pc := 35) hx hb dX7_feed_35 rfl (lv_at hl 2 rfl) ?_
      refine lv_iconst (pc := 36) (v := 1) hx hb dX7_feed_36 (by decide) ?_
      refine lv_isub (pc := 37) hx hb dX7_feed_37 ?_
      refine lv_istore_n (pc := 38) (lv' := [(3, .int (x2 - 1)), (0, .ref a0), (1, .int x1), (2, .int x2)]) hx hb dX7_feed_38 rfl hl (Nat.le_of_ble_eq_true rfl) rfl (fun ls hl => ?_)
      exact L_39 300 x1 (x2 - 1) w0 H locs ls hP hS (lv_sub hl [1, 2, 0] rfl) hq
    · have hq := pv_neg c_2 hq
      refine lv_aload_n (pc := 28) hx hb dX7_feed_28 rfl (lv_at hl 0 rfl) ?_
      refine lv_ldc (pc := 29) hx hb hown lc_101 dX7_feed_29 ?_
      obtain ⟨u_5, hu_5, hq⟩ := pv_bind hq
      refine pv_vRWf (pc := 31) (rest := []) (st1 := [.int u_5.1]) (ws := pv_wM E a0 a1 a2 a3 a4 a5 a6 a7 a8 a9 a10 w0) [.int (-1000000002)] ⟨hx, hb, hml, hown, hts⟩ hE hA hS hP (hD w0) (c_X7_finds l E a0 a1 a2 a3 a4 a5 a6 a7 a8 a9 a10 (-1000000002) w0 u_5 hu_5) (cwV 1 hts gX7_feed_X7_finds rfl rfl rfl (by decide +kernel) ⟨(Nat.le_of_ble_eq_true rfl), (Nat.le_of_ble_eq_true rfl)⟩) (va_recv hK hP (ci := 5) (q0 := 0) rfl rfl) rfl hl.1 rfl rfl (Nat.le_of_ble_eq_true rfl) dX7_feed_31 ⟨Nat.zero_le _, Nat.zero_le _⟩ (fun H locs hP hS => ?_)
      have hP : va_P E.1 vwCl (pv_wM E a0 a1 a2 a3 a4 a5 a6 a7 a8 a9 a10 u_5.2) H := hP
      exact pv_riRW (w := fun w : pv_MT => pv_wM E a0 a1 a2 a3 a4 a5 a6 a7 a8 a9 a10 w) hx hb hr hlk hAe hS hP (Option.some.inj hq) dX7_feed_34
  · have hq := pv_pos c_1 hq
    refine lv_aload_n (pc := 10) hx hb dX7_feed_10 rfl (lv_at hl 0 rfl) ?_
    refine lv_ldc (pc := 11) hx hb hown lc_41 dX7_feed_11 ?_
    obtain ⟨u_6, hu_6, hq⟩ := pv_bind hq
    refine pv_vRWf (pc := 13) (rest := []) (st1 := [.int u_6.1]) (ws := pv_wM E a0 a1 a2 a3 a4 a5 a6 a7 a8 a9 a10 w0) [.int (-1000000001)] ⟨hx, hb, hml, hown, hts⟩ hE hA hS hP (hD w0) (c_X7_finds l E a0 a1 a2 a3 a4 a5 a6 a7 a8 a9 a10 (-1000000001) w0 u_6 hu_6) (cwV 1 hts gX7_feed_X7_finds rfl rfl rfl (by decide +kernel) ⟨(Nat.le_of_ble_eq_true rfl), (Nat.le_of_ble_eq_true rfl)⟩) (va_recv hK hP (ci := 5) (q0 := 0) rfl rfl) rfl hl.1 rfl rfl (Nat.le_of_ble_eq_true rfl) dX7_feed_13 ⟨Nat.zero_le _, Nat.zero_le _⟩ (fun H locs hP hS => ?_)
    have hP : va_P E.1 vwCl (pv_wM E a0 a1 a2 a3 a4 a5 a6 a7 a8 a9 a10 u_6.2) H := hP
    exact pv_riRW (w := fun w : pv_MT => pv_wM E a0 a1 a2 a3 a4 a5 a6 a7 a8 a9 a10 w) hx hb hr hlk hAe hS hP (Option.some.inj hq) dX7_feed_16
def m_X7_wipe  (w : pv_MT) : Option (Int32 × pv_MT) :=
  some (w.2.2.2.2.2.2.2.2.1, (w.1, w.2.1, w.2.2.1, w.2.2.2.1, w.2.2.2.2.1, w.2.2.2.2.2.1, w.2.2.2.2.2.2.1, w.2.2.2.2.2.2.2.1, 0, w.2.2.2.2.2.2.2.2.2.1, w.2.2.2.2.2.2.2.2.2.2.1, w.2.2.2.2.2.2.2.2.2.2.2.1, w.2.2.2.2.2.2.2.2.2.2.2.2.1, w.2.2.2.2.2.2.2.2.2.2.2.2.2.1, w.2.2.2.2.2.2.2.2.2.2.2.2.2.2.1, w.2.2.2.2.2.2.2.2.2.2.2.2.2.2.2.1, w.2.2.2.2.2.2.2.2.2.2.2.2.2.2.2.2))
abbrev r_X7_wipe : Room := { frames := 0, cells := 0, slots := 0, locals := 0 }
set_option maxHeartbeats 4000000 in
set_option maxRecDepth 100000 in
theorem c_X7_wipe (l : Launch) (E : pv_E) (a0 a1 a2 a3 a4 a5 a6 a7 a8 a9 a10 : Nat)  (w0 : pv_MT) (F : Int32 × pv_MT) (hq : m_X7_wipe w0 = some F) : pv_RW l E yX7_wipe wsX7_wipe r_X7_wipe (pv_wM E a0 a1 a2 a3 a4 a5 a6 a7 a8 a9 a10 w0) [.ref a0] (some (.int F.1)) (pv_wM E a0 a1 a2 a3 a4 a5 a6 a7 a8 a9 a10 F.2) := by
  intro sz
  refine pv_mk (by decide) rfl (Nat.le_of_ble_eq_true rfl) ?_
  intro p e s m args below meth c A hx hb hr hml hown hts hlk hAe hP hD0 hA hE hS ls hl
  have hown : s.vm.findClass RX7 = some m.cls := hown
  have hK := hE.1
  have hD : ∀ w : pv_MT, va_D A (pv_wM E a0 a1 a2 a3 a4 a5 a6 a7 a8 a9 a10 w) := fun w => pv_Dm (ws := pv_wM E a0 a1 a2 a3 a4 a5 a6 a7 a8 a9 a10 w0) (ws' := pv_wM E a0 a1 a2 a3 a4 a5 a6 a7 a8 a9 a10 w) rfl hD0
  have hP : va_P E.1 vwCl (pv_wM E a0 a1 a2 a3 a4 a5 a6 a7 a8 a9 a10 w0) s.heap := hP
  have fl_160 : (Cond.fieldLink RX7 160 "ProvinceCardsModel" "taped" "I").before args s = true := hts _ (by decide +kernel)
  have i_RX7 : ∀ w ∈ wsX70, w ∈ wsX7_wipe := by decide +kernel
  have hl : lv_has ls 2 [(0, .ref a0)] := hl
  suffices M0 : ∀ (H : Heap) (locs : List Loc), va_P E.1 vwCl (pv_wM E a0 a1 a2 a3 a4 a5 a6 a7 a8 a9 a10 w0) H → va_S A s.heap H locs → W p l e r_X7_wipe s m args below meth c H locs 0 0 (MQ below (pv_Rw E (pv_wM E a0 a1 a2 a3 a4 a5 a6 a7 a8 a9 a10 w0) sz (some (.int F.1)) ((fun w : pv_MT => pv_wM E a0 a1 a2 a3 a4 a5 a6 a7 a8 a9 a10 w) F.2)) args s 0 0 A) (F0 m 0 ls []) from M0 s.heap [] hP hS
  intro H locs hP hS
  refine lv_aload_n (pc := 0) hx hb dX7_wipe_0 rfl (lv_at hl 0 rfl) ?_
  refine va_get (pc := 1) (D := E.1) (ci := 5) (v := .int w0.2.2.2.2.2.2.2.2.1) (C := RX7) (T := TX7) (N := 17) hx hb hts i_RX7 hown hK hP 0 rfl rfl 8 (Nat.le_of_ble_eq_true rfl) fl_160 (fun _ h9 => h9) rfl dX7_wipe_1 ?_
  refine lv_istore_n (pc := 4) (lv' := [(1, .int w0.2.2.2.2.2.2.2.2.1), (0, .ref a0)]) hx hb dX7_wipe_4 rfl hl (Nat.le_of_ble_eq_true rfl) rfl (fun ls hl => ?_)
  refine lv_aload_n (pc := 5) hx hb dX7_wipe_5 rfl (lv_at hl 1 rfl) ?_
  refine lv_iconst (pc := 6) (v := 0) hx hb dX7_wipe_6 (by decide) ?_
  refine va_put (pc := 7) (D := E.1) (ci := 5) (v := .int 0) (ty := .int) (C := RX7) (T := TX7) (N := 17) hx hb hts i_RX7 tyX7 tyX7_ok nmX7 hown hK hP (hD w0) hS 0 rfl rfl 8 (Nat.le_of_ble_eq_true rfl) fl_160 (fun _ h9 => h9) rfl (tyX7_ok 8 (Nat.le_of_ble_eq_true rfl)) rfl rfl (Nat.le_of_ble_eq_true rfl) dX7_wipe_7 (fun H locs hP _ hS => ?_)
  have hP : va_P E.1 vwCl (pv_wM E a0 a1 a2 a3 a4 a5 a6 a7 a8 a9 a10 (w0.1, w0.2.1, w0.2.2.1, w0.2.2.2.1, w0.2.2.2.2.1, w0.2.2.2.2.2.1, w0.2.2.2.2.2.2.1, w0.2.2.2.2.2.2.2.1, 0, w0.2.2.2.2.2.2.2.2.2.1, w0.2.2.2.2.2.2.2.2.2.2.1, w0.2.2.2.2.2.2.2.2.2.2.2.1, w0.2.2.2.2.2.2.2.2.2.2.2.2.1, w0.2.2.2.2.2.2.2.2.2.2.2.2.2.1, w0.2.2.2.2.2.2.2.2.2.2.2.2.2.2.1, w0.2.2.2.2.2.2.2.2.2.2.2.2.2.2.2.1, w0.2.2.2.2.2.2.2.2.2.2.2.2.2.2.2.2)) H := hP
  refine lv_iload_n (pc := 10) hx hb dX7_wipe_10 rfl (lv_at hl 0 rfl) ?_
  exact pv_riRW (w := fun w : pv_MT => pv_wM E a0 a1 a2 a3 a4 a5 a6 a7 a8 a9 a10 w) hx hb hr hlk hAe hS hP (Option.some.inj hq) dX7_wipe_11
def m_X7_isByte (x1 : Int32) (x2 : Int32) (x3 : Int32) (w : pv_MT) : Option (Int32) :=
  if w.2.2.2.2.2.2.2.2.1 ≤ x1 then (some 0) else (pv_gd x1 120 (if (m_X7_in ((w.2.2.2.2.2.2.2.1 x1.toNatClampNeg).toInt64) x2 x3) = 0 then (some 0) else (some 1)))
abbrev r_X7_isByte : Room := { frames := 1, cells := 0, slots := 0, locals := 23 }
set_option maxHeartbeats 4000000 in
set_option maxRecDepth 100000 in
theorem c_X7_isByte (l : Launch) (E : pv_E) (a0 a1 a2 a3 a4 a5 a6 a7 a8 a9 a10 : Nat) (x1 : Int32) (x2 : Int32) (x3 : Int32) (w : pv_MT) (F : Int32) (hq : m_X7_isByte x1 x2 x3 w = some F) : pv_RO l E yX7_isByte wsX7_isByte r_X7_isByte (pv_wM E a0 a1 a2 a3 a4 a5 a6 a7 a8 a9 a10 w) [.ref a0, .int x1, .int x2, .int x3] (some (.int F)) := by
  intro sz
  refine pv_mk (by decide) rfl (Nat.le_of_ble_eq_true rfl) ?_
  intro p e s m args below meth c A hx hb hr hml hown hts hlk hAe hP hD0 hA hE hS ls hl
  have hown : s.vm.findClass RX7 = some m.cls := hown
  have hK := hE.1
  have hD := hD0
  have fl_160 : (Cond.fieldLink RX7 160 "ProvinceCardsModel" "taped" "I").before args s = true := hts _ (by decide +kernel)
  have fl_28 : (Cond.fieldLink RX7 28 "ProvinceCardsModel" "tape" "[I").before args s = true := hts _ (by decide +kernel)
  have i_RX7 : ∀ w ∈ wsX70, w ∈ wsX7_isByte := by decide +kernel
  have hl : lv_has ls 4 [(0, .ref a0), (1, .int x1), (2, .int x2), (3, .int x3)] := hl
  suffices M0 : ∀ (locs : List Loc), va_S A s.heap s.heap locs → W p l e r_X7_isByte s m args below meth c s.heap locs 0 0 (MQ below (pv_Ro (some (.int F))) args s 0 0 A) (F0 m 0 ls []) from M0 [] hS
  intro locs hS
  refine lv_iload_n (pc := 0) hx hb dX7_isByte_0 rfl (lv_at hl 1 rfl) ?_
  refine lv_aload_n (pc := 1) hx hb dX7_isByte_1 rfl (lv_at hl 0 rfl) ?_
  refine va_get (pc := 2) (D := E.1) (ci := 5) (v := .int w.2.2.2.2.2.2.2.2.1) (C := RX7) (T := TX7) (N := 17) hx hb hts i_RX7 hown hK hP 0 rfl rfl 8 (Nat.le_of_ble_eq_true rfl) fl_160 (fun _ h9 => h9) rfl dX7_isByte_2 ?_
  refine lv_icmp_ge (pc := 5) (tgt := 27) hx hb dX7_isByte_5 (by decide) (fun c_1 => ?_) (fun c_1 => ?_)
  · have hq := pv_pos c_1 hq
    refine lv_iconst (pc := 27) (v := 0) hx hb dX7_isByte_27 (by decide) ?_
    exact pv_rzRO hx hb hr hlk hS (Option.some.inj hq) rfl dX7_isByte_28
  · have hq := pv_neg c_1 hq
    refine lv_aload_n (pc := 8) hx hb dX7_isByte_8 rfl (lv_at hl 0 rfl) ?_
    refine va_get (pc := 9) (D := E.1) (ci := 5) (v := .ref a7) (C := RX7) (T := TX7) (N := 17) hx hb hts i_RX7 hown hK hP 0 rfl rfl 7 (Nat.le_of_ble_eq_true rfl) fl_28 (fun _ h9 => h9) rfl dX7_isByte_9 ?_
    refine lv_iload_n (pc := 12) hx hb dX7_isByte_12 rfl (lv_at hl 1 rfl) ?_
    obtain ⟨h_2, hq⟩ := pv_gd_some hq
    refine va_iald (pc := 13) (D := E.1) hx hb hK hP 7 0 rfl rfl h_2 dX7_isByte_13 ?_
    refine lv_i2l (pc := 14) (v := (w.2.2.2.2.2.2.2.1 x1.toNatClampNeg).toInt64) hx hb dX7_isByte_14 rfl ?_
    refine lv_iload_n (pc := 15) hx hb dX7_isByte_15 rfl (lv_at hl 2 rfl) ?_
    refine lv_iload_n (pc := 16) hx hb dX7_isByte_16 rfl (lv_at hl 3 rfl) ?_
    refine pv_sRO (pc := 17) (rest := []) (st1 := [.int (m_X7_in ((w.2.2.2.2.2.2.2.1 x1.toNatClampNeg).toInt64) x2 x3)]) (ws := pv_wM E a0 a1 a2 a3 a4 a5 a6 a7 a8 a9 a10 w) [.long ((w.2.2.2.2.2.2.2.1 x1.toNatClampNeg).toInt64), .int x2, .int x3] ⟨hx, hb, hml, hown, hts⟩ hE hA hS hP hD (c_X7_in l E ((w.2.2.2.2.2.2.2.1 x1.toNatClampNeg).toInt64) x2 x3) (va_cwS 3 hts gX7_isByte_X7_in rfl rfl rfl (by decide +kernel) ⟨(Nat.le_of_ble_eq_true rfl), (Nat.le_of_ble_eq_true rfl)⟩) [] rfl rfl rfl hl.1 rfl rfl (Nat.le_of_ble_eq_true rfl) dX7_isByte_17 ⟨Nat.zero_le _, Nat.zero_le _⟩ (fun locs hS => ?_)
    refine lv_if_eq (pc := 20) (tgt := 27) hx hb dX7_isByte_20 (by decide) (fun c_3 => ?_) (fun c_3 => ?_)
    · have hq := pv_pos c_3 hq
      refine lv_iconst (pc := 27) (v := 0) hx hb dX7_isByte_27 (by decide) ?_
      exact pv_rzRO hx hb hr hlk hS (Option.some.inj hq) rfl dX7_isByte_28
    · have hq := pv_neg c_3 hq
      refine lv_iconst (pc := 23) (v := 1) hx hb dX7_isByte_23 (by decide) ?_
      refine lv_goto (pc := 24) (tgt := 28) hx hb dX7_isByte_24 (by decide) ?_
      exact pv_rzRO hx hb hr hlk hS (Option.some.inj hq) rfl dX7_isByte_28
def m_X7_isName_75 (k_34 : Int32 → Int32 → Int32 → Int32 → pv_MT → Option (Int32)) (x1 : Int32) (x2 : Int32) (x4 : Int32) (y0 : Int32) (w : pv_MT) : Option (Int32) :=
  k_34 x1 x2 y0 (x4 + 1) w
def m_X7_isName_34 : Nat → Int32 → Int32 → Int32 → Int32 → pv_MT → Option (Int32)
  | 0 => fun _ _ _ _ _ => none
  | n + 1 => fun x1 x2 x3 x4 w =>
    if x2 ≤ x4 then (pv_gz x3 (some x3)) else (if x3 = 0 then (pv_gz x3 (some x3)) else (pv_gd ((8 * x1) + x4) 80 (pv_gd (w.2.2.2.2.2.2.2.2.2.2.1 + x4) 120 (if (pv_nam ((8 * x1) + x4).toNatClampNeg) = (w.2.2.2.2.2.2.2.1 (w.2.2.2.2.2.2.2.2.2.2.1 + x4).toNatClampNeg) then (m_X7_isName_75 (m_X7_isName_34 n) x1 x2 x4 1 w) else (m_X7_isName_75 (m_X7_isName_34 n) x1 x2 x4 0 w)))))
def m_X7_isName_30 (x1 : Int32) (x2 : Int32) (y0 : Int32) (w : pv_MT) : Option (Int32) :=
  m_X7_isName_34 300 x1 x2 y0 0 w
def m_X7_isName_29 (x1 : Int32) (x2 : Int32) (w : pv_MT) : Option (Int32) :=
  m_X7_isName_30 x1 x2 0 w
def m_X7_isName_25 (x1 : Int32) (x2 : Int32) (w : pv_MT) : Option (Int32) :=
  m_X7_isName_30 x1 x2 1 w
def m_X7_isName (x1 : Int32) (x2 : Int32) (w : pv_MT) : Option (Int32) :=
  if 8 < x2 then (m_X7_isName_29 x1 x2 w) else (if x2 = 8 then (m_X7_isName_25 x1 x2 w) else (pv_gd ((8 * x1) + x2) 80 (if (pv_nam ((8 * x1) + x2).toNatClampNeg) = 0 then (m_X7_isName_25 x1 x2 w) else (m_X7_isName_29 x1 x2 w))))
abbrev r_X7_isName : Room := { frames := 0, cells := 0, slots := 0, locals := 0 }
set_option maxHeartbeats 4000000 in
set_option maxRecDepth 100000 in
theorem c_X7_isName (l : Launch) (E : pv_E) (a0 a1 a2 a3 a4 a5 a6 a7 a8 a9 a10 : Nat) (x1 : Int32) (x2 : Int32) (w : pv_MT) (F : Int32) (hq : m_X7_isName x1 x2 w = some F) : pv_RO l E yX7_isName wsX7_isName r_X7_isName (pv_wM E a0 a1 a2 a3 a4 a5 a6 a7 a8 a9 a10 w) [.ref a0, .int x1, .int x2] (some (.int F)) := by
  intro sz
  refine pv_mk (by decide) rfl (Nat.le_of_ble_eq_true rfl) ?_
  intro p e s m args below meth c A hx hb hr hml hown hts hlk hAe hP hD0 hA hE hS ls hl
  have hown : s.vm.findClass RX7 = some m.cls := hown
  have hK := hE.1
  have hD := hD0
  have fl_164 : (Cond.fieldLink RX7 164 "ProvinceCardsModel" "NAMES" "[I").before args s = true := hts _ (by decide +kernel)
  have fl_28 : (Cond.fieldLink RX7 28 "ProvinceCardsModel" "tape" "[I").before args s = true := hts _ (by decide +kernel)
  have fl_167 : (Cond.fieldLink RX7 167 "ProvinceCardsModel" "begin" "I").before args s = true := hts _ (by decide +kernel)
  have i_RX7 : ∀ w ∈ wsX70, w ∈ wsX7_isName := by decide +kernel
  have hl : lv_has ls 5 [(0, .ref a0), (1, .int x1), (2, .int x2)] := hl
  have B_75 : ∀ (k_34 : Int32 → Int32 → Int32 → Int32 → pv_MT → Option (Int32)), (∀ (x1 : Int32) (x2 : Int32) (x3 : Int32) (x4 : Int32) (locs : List Loc) (ls : Array Slot), va_S A s.heap s.heap locs → lv_has ls 5 [(0, .ref a0), (1, .int x1), (2, .int x2), (3, .int x3), (4, .int x4)] → k_34 x1 x2 x3 x4 w = some F → W p l e r_X7_isName s m args below meth c s.heap locs 0 0 (MQ below (pv_Ro (some (.int F))) args s 0 0 A) (F0 m 34 ls [])) → ∀ (x1 : Int32) (x2 : Int32) (x4 : Int32) (y0 : Int32) (locs : List Loc) (ls : Array Slot), va_S A s.heap s.heap locs → lv_has ls 5 [(0, .ref a0), (1, .int x1), (2, .int x2), (4, .int x4)] → m_X7_isName_75 k_34 x1 x2 x4 y0 w = some F → W p l e r_X7_isName s m args below meth c s.heap locs 0 0 (MQ below (pv_Ro (some (.int F))) args s 0 0 A) (F0 m 75 ls [.int y0]) := by
    intro k_34 hk_34
    intro x1 x2 x4 y0 locs ls hS hl hq
    refine lv_istore_n (pc := 75) (lv' := [(3, .int y0), (0, .ref a0), (1, .int x1), (2, .int x2), (4, .int x4)]) hx hb dX7_isName_75 rfl hl (Nat.le_of_ble_eq_true rfl) rfl (fun ls hl => ?_)
    refine lv_iinc (pc := 76) (v := (x4 + 1)) (lv' := [(4, .int (x4 + 1)), (3, .int y0), (0, .ref a0), (1, .int x1), (2, .int x2)]) hx hb dX7_isName_76 hl (k := 4) rfl rfl (Nat.le_of_ble_eq_true rfl) rfl (fun ls hl => ?_)
    refine lv_goto (pc := 79) (tgt := 34) hx hb dX7_isName_79 (by decide) ?_
    exact hk_34 x1 x2 y0 (x4 + 1) locs ls hS (lv_sub hl [2, 3, 4, 1, 0] rfl) hq
  have L_34 : ∀ n : Nat, ∀ (x1 : Int32) (x2 : Int32) (x3 : Int32) (x4 : Int32) (locs : List Loc) (ls : Array Slot), va_S A s.heap s.heap locs → lv_has ls 5 [(0, .ref a0), (1, .int x1), (2, .int x2), (3, .int x3), (4, .int x4)] → m_X7_isName_34 n x1 x2 x3 x4 w = some F → W p l e r_X7_isName s m args below meth c s.heap locs 0 0 (MQ below (pv_Ro (some (.int F))) args s 0 0 A) (F0 m 34 ls []) := by
    intro n
    induction n with
    | zero =>
      intro x1 x2 x3 x4 locs ls hS hl hq
      exact (pv_no hq).elim
    | succ n ih =>
      intro x1 x2 x3 x4 locs ls hS hl hq
      refine lv_iload (pc := 34) hx hb dX7_isName_34 (lv_at hl 4 rfl) ?_
      refine lv_iload_n (pc := 36) hx hb dX7_isName_36 rfl (lv_at hl 2 rfl) ?_
      refine lv_icmp_ge (pc := 37) (tgt := 82) hx hb dX7_isName_37 (by decide) (fun c_2 => ?_) (fun c_2 => ?_)
      · have hq := pv_pos c_2 hq
        refine lv_iload_n (pc := 82) hx hb dX7_isName_82 rfl (lv_at hl 3 rfl) ?_
        obtain ⟨h_3, hq⟩ := pv_gz_some hq
        exact pv_rzRO hx hb hr hlk hS (Option.some.inj hq) h_3.1 dX7_isName_83
      · have hq := pv_neg c_2 hq
        refine lv_iload_n (pc := 40) hx hb dX7_isName_40 rfl (lv_at hl 3 rfl) ?_
        refine lv_if_eq (pc := 41) (tgt := 82) hx hb dX7_isName_41 (by decide) (fun c_4 => ?_) (fun c_4 => ?_)
        · have hq := pv_pos c_4 hq
          refine lv_iload_n (pc := 82) hx hb dX7_isName_82 rfl (lv_at hl 3 rfl) ?_
          obtain ⟨h_5, hq⟩ := pv_gz_some hq
          exact pv_rzRO hx hb hr hlk hS (Option.some.inj hq) h_5.1 dX7_isName_83
        · have hq := pv_neg c_4 hq
          refine va_gets (pc := 44) hx hb hE.2.2.2.1 hS hown fl_164 (fun _ h9 => h9) dX7_isName_44 ?_
          refine lv_bipush (pc := 47) (v := 8) hx hb dX7_isName_47 (by decide) ?_
          refine lv_iload_n (pc := 49) hx hb dX7_isName_49 rfl (lv_at hl 1 rfl) ?_
          refine lv_imul (pc := 50) hx hb dX7_isName_50 ?_
          refine lv_iload (pc := 51) hx hb dX7_isName_51 (lv_at hl 4 rfl) ?_
          refine lv_iadd (pc := 53) hx hb dX7_isName_53 ?_
          obtain ⟨h_6, hq⟩ := pv_gd_some hq
          refine va_ti (pc := 54) hx hb hE.2.2.2.2.1 hS h_6 rfl dX7_isName_54 ?_
          refine lv_aload_n (pc := 55) hx hb dX7_isName_55 rfl (lv_at hl 0 rfl) ?_
          refine va_get (pc := 56) (D := E.1) (ci := 5) (v := .ref a7) (C := RX7) (T := TX7) (N := 17) hx hb hts i_RX7 hown hK hP 0 rfl rfl 7 (Nat.le_of_ble_eq_true rfl) fl_28 (fun _ h9 => h9) rfl dX7_isName_56 ?_
          refine lv_aload_n (pc := 59) hx hb dX7_isName_59 rfl (lv_at hl 0 rfl) ?_
          refine va_get (pc := 60) (D := E.1) (ci := 5) (v := .int w.2.2.2.2.2.2.2.2.2.2.1) (C := RX7) (T := TX7) (N := 17) hx hb hts i_RX7 hown hK hP 0 rfl rfl 10 (Nat.le_of_ble_eq_true rfl) fl_167 (fun _ h9 => h9) rfl dX7_isName_60 ?_
          refine lv_iload (pc := 63) hx hb dX7_isName_63 (lv_at hl 4 rfl) ?_
          refine lv_iadd (pc := 65) hx hb dX7_isName_65 ?_
          obtain ⟨h_7, hq⟩ := pv_gd_some hq
          refine va_iald (pc := 66) (D := E.1) hx hb hK hP 7 0 rfl rfl h_7 dX7_isName_66 ?_
          refine lv_icmp_ne (pc := 67) (tgt := 74) hx hb dX7_isName_67 (by decide) (fun c_8 => ?_) (fun c_8 => ?_)
          · have hq := pv_neg c_8 hq
            refine lv_iconst (pc := 74) (v := 0) hx hb dX7_isName_74 (by decide) ?_
            exact B_75 (m_X7_isName_34 n) ih x1 x2 x4 0 locs ls hS (lv_sub hl [0, 1, 2, 4] rfl) hq
          · have hq := pv_pos c_8 hq
            refine lv_iconst (pc := 70) (v := 1) hx hb dX7_isName_70 (by decide) ?_
            refine lv_goto (pc := 71) (tgt := 75) hx hb dX7_isName_71 (by decide) ?_
            exact B_75 (m_X7_isName_34 n) ih x1 x2 x4 1 locs ls hS (lv_sub hl [0, 1, 2, 4] rfl) hq
  have B_30 : ∀ (x1 : Int32) (x2 : Int32) (y0 : Int32) (locs : List Loc) (ls : Array Slot), va_S A s.heap s.heap locs → lv_has ls 5 [(0, .ref a0), (1, .int x1), (2, .int x2)] → m_X7_isName_30 x1 x2 y0 w = some F → W p l e r_X7_isName s m args below meth c s.heap locs 0 0 (MQ below (pv_Ro (some (.int F))) args s 0 0 A) (F0 m 30 ls [.int y0]) := by
    intro x1 x2 y0 locs ls hS hl hq
    refine lv_istore_n (pc := 30) (lv' := [(3, .int y0), (0, .ref a0), (1, .int x1), (2, .int x2)]) hx hb dX7_isName_30 rfl hl (Nat.le_of_ble_eq_true rfl) rfl (fun ls hl => ?_)
    refine lv_iconst (pc := 31) (v := 0) hx hb dX7_isName_31 (by decide) ?_
    refine lv_istore (pc := 32) (lv' := [(4, .int 0), (3, .int y0), (0, .ref a0), (1, .int x1), (2, .int x2)]) hx hb dX7_isName_32 hl (Nat.le_of_ble_eq_true rfl) rfl (fun ls hl => ?_)
    exact L_34 300 x1 x2 y0 0 locs ls hS (lv_sub hl [2, 3, 4, 1, 0] rfl) hq
  have B_29 : ∀ (x1 : Int32) (x2 : Int32) (locs : List Loc) (ls : Array Slot), va_S A s.heap s.heap locs → lv_has ls 5 [(0, .ref a0), (1, .int x1), (2, .int x2)] → m_X7_isName_29 x1 x2 w = some F → W p l e r_X7_isName s m args below meth c s.heap locs 0 0 (MQ below (pv_Ro (some (.int F))) args s 0 0 A) (F0 m 29 ls []) := by
    intro x1 x2 locs ls hS hl hq
    refine lv_iconst (pc := 29) (v := 0) hx hb dX7_isName_29 (by decide) ?_
    exact B_30 x1 x2 0 locs ls hS (lv_sub hl [0, 1, 2] rfl) hq
  have B_25 : ∀ (x1 : Int32) (x2 : Int32) (locs : List Loc) (ls : Array Slot), va_S A s.heap s.heap locs → lv_has ls 5 [(0, .ref a0), (1, .int x1), (2, .int x2)] → m_X7_isName_25 x1 x2 w = some F → W p l e r_X7_isName s m args below meth c s.heap locs 0 0 (MQ below (pv_Ro (some (.int F))) args s 0 0 A) (F0 m 25 ls []) := by
    intro x1 x2 locs ls hS hl hq
    refine lv_iconst (pc := 25) (v := 1) hx hb dX7_isName_25 (by decide) ?_
    refine lv_goto (pc := 26) (tgt := 30) hx hb dX7_isName_26 (by decide) ?_
    exact B_30 x1 x2 1 locs ls hS (lv_sub hl [0, 1, 2] rfl) hq
  suffices M0 : ∀ (locs : List Loc), va_S A s.heap s.heap locs → W p l e r_X7_isName s m args below meth c s.heap locs 0 0 (MQ below (pv_Ro (some (.int F))) args s 0 0 A) (F0 m 0 ls []) from M0 [] hS
  intro locs hS
  refine lv_iload_n (pc := 0) hx hb dX7_isName_0 rfl (lv_at hl 2 rfl) ?_
  refine lv_bipush (pc := 1) (v := 8) hx hb dX7_isName_1 (by decide) ?_
  refine lv_icmp_gt (pc := 3) (tgt := 29) hx hb dX7_isName_3 (by decide) (fun c_1 => ?_) (fun c_1 => ?_)
  · have hq := pv_pos c_1 hq
    exact B_29 x1 x2 locs ls hS (lv_sub hl [0, 1, 2] rfl) hq
  · have hq := pv_neg c_1 hq
    refine lv_iload_n (pc := 6) hx hb dX7_isName_6 rfl (lv_at hl 2 rfl) ?_
    refine lv_bipush (pc := 7) (v := 8) hx hb dX7_isName_7 (by decide) ?_
    refine lv_icmp_eq (pc := 9) (tgt := 25) hx hb dX7_isName_9 (by decide) (fun c_9 => ?_) (fun c_9 => ?_)
    · have hq := pv_pos c_9 hq
      exact B_25 x1 x2 locs ls hS (lv_sub hl [0, 1, 2] rfl) hq
    · have hq := pv_neg c_9 hq
      refine va_gets (pc := 12) hx hb hE.2.2.2.1 hS hown fl_164 (fun _ h9 => h9) dX7_isName_12 ?_
      refine lv_bipush (pc := 15) (v := 8) hx hb dX7_isName_15 (by decide) ?_
      refine lv_iload_n (pc := 17) hx hb dX7_isName_17 rfl (lv_at hl 1 rfl) ?_
      refine lv_imul (pc := 18) hx hb dX7_isName_18 ?_
      refine lv_iload_n (pc := 19) hx hb dX7_isName_19 rfl (lv_at hl 2 rfl) ?_
      refine lv_iadd (pc := 20) hx hb dX7_isName_20 ?_
      obtain ⟨h_10, hq⟩ := pv_gd_some hq
      refine va_ti (pc := 21) hx hb hE.2.2.2.2.1 hS h_10 rfl dX7_isName_21 ?_
      refine lv_if_ne (pc := 22) (tgt := 29) hx hb dX7_isName_22 (by decide) (fun c_11 => ?_) (fun c_11 => ?_)
      · have hq := pv_neg c_11 hq
        exact B_29 x1 x2 locs ls hS (lv_sub hl [0, 1, 2] rfl) hq
      · have hq := pv_pos c_11 hq
        exact B_25 x1 x2 locs ls hS (lv_sub hl [0, 1, 2] rfl) hq
def m_X7_wordHere_31 (x1 : Int32) (w : pv_MT) : Option (Int32) :=
  if 10 ≤ x1 then (some 23) else (some x1)
def m_X7_wordHere_2 : Nat → Int32 → pv_MT → Option (Int32)
  | 0 => fun _ _ => none
  | n + 1 => fun x1 w =>
    if 10 ≤ x1 then (m_X7_wordHere_31 x1 w) else (Option.bind (m_X7_isName x1 (w.2.2.2.2.2.2.2.2.2.2.2.1 - w.2.2.2.2.2.2.2.2.2.2.1) w) fun u_3 => (if u_3 = 0 then ((m_X7_wordHere_2 n) (x1 + 1) w) else (m_X7_wordHere_31 x1 w)))
def m_X7_wordHere  (w : pv_MT) : Option (Int32) :=
  m_X7_wordHere_2 300 0 w
abbrev r_X7_wordHere : Room := { frames := 1, cells := 0, slots := 0, locals := 24 }
set_option maxHeartbeats 4000000 in
set_option maxRecDepth 100000 in
theorem c_X7_wordHere (l : Launch) (E : pv_E) (a0 a1 a2 a3 a4 a5 a6 a7 a8 a9 a10 : Nat)  (w : pv_MT) (F : Int32) (hq : m_X7_wordHere w = some F) : pv_RO l E yX7_wordHere wsX7_wordHere r_X7_wordHere (pv_wM E a0 a1 a2 a3 a4 a5 a6 a7 a8 a9 a10 w) [.ref a0] (some (.int F)) := by
  intro sz
  refine pv_mk (by decide) rfl (Nat.le_of_ble_eq_true rfl) ?_
  intro p e s m args below meth c A hx hb hr hml hown hts hlk hAe hP hD0 hA hE hS ls hl
  have hown : s.vm.findClass RX7 = some m.cls := hown
  have hK := hE.1
  have hD := hD0
  have fl_170 : (Cond.fieldLink RX7 170 "ProvinceCardsModel" "at" "I").before args s = true := hts _ (by decide +kernel)
  have fl_167 : (Cond.fieldLink RX7 167 "ProvinceCardsModel" "begin" "I").before args s = true := hts _ (by decide +kernel)
  have i_RX7 : ∀ w ∈ wsX70, w ∈ wsX7_wordHere := by decide +kernel
  have hl : lv_has ls 2 [(0, .ref a0)] := hl
  have B_31 : ∀ (x1 : Int32) (locs : List Loc) (ls : Array Slot), va_S A s.heap s.heap locs → lv_has ls 2 [(1, .int x1)] → m_X7_wordHere_31 x1 w = some F → W p l e r_X7_wordHere s m args below meth c s.heap locs 0 0 (MQ below (pv_Ro (some (.int F))) args s 0 0 A) (F0 m 31 ls []) := by
    intro x1 locs ls hS hl hq
    refine lv_iload_n (pc := 31) hx hb dX7_wordHere_31 rfl (lv_at hl 0 rfl) ?_
    refine lv_bipush (pc := 32) (v := 10) hx hb dX7_wordHere_32 (by decide) ?_
    refine lv_icmp_ge (pc := 34) (tgt := 41) hx hb dX7_wordHere_34 (by decide) (fun c_2 => ?_) (fun c_2 => ?_)
    · have hq := pv_pos c_2 hq
      refine lv_bipush (pc := 41) (v := 23) hx hb dX7_wordHere_41 (by decide) ?_
      exact pv_riRO hx hb hr hlk hS (Option.some.inj hq) dX7_wordHere_43
    · have hq := pv_neg c_2 hq
      refine lv_iload_n (pc := 37) hx hb dX7_wordHere_37 rfl (lv_at hl 0 rfl) ?_
      refine lv_goto (pc := 38) (tgt := 43) hx hb dX7_wordHere_38 (by decide) ?_
      exact pv_riRO hx hb hr hlk hS (Option.some.inj hq) dX7_wordHere_43
  have L_2 : ∀ n : Nat, ∀ (x1 : Int32) (locs : List Loc) (ls : Array Slot), va_S A s.heap s.heap locs → lv_has ls 2 [(0, .ref a0), (1, .int x1)] → m_X7_wordHere_2 n x1 w = some F → W p l e r_X7_wordHere s m args below meth c s.heap locs 0 0 (MQ below (pv_Ro (some (.int F))) args s 0 0 A) (F0 m 2 ls []) := by
    intro n
    induction n with
    | zero =>
      intro x1 locs ls hS hl hq
      exact (pv_no hq).elim
    | succ n ih =>
      intro x1 locs ls hS hl hq
      refine lv_iload_n (pc := 2) hx hb dX7_wordHere_2 rfl (lv_at hl 1 rfl) ?_
      refine lv_bipush (pc := 3) (v := 10) hx hb dX7_wordHere_3 (by decide) ?_
      refine lv_icmp_ge (pc := 5) (tgt := 31) hx hb dX7_wordHere_5 (by decide) (fun c_1 => ?_) (fun c_1 => ?_)
      · have hq := pv_pos c_1 hq
        exact B_31 x1 locs ls hS (lv_sub hl [1] rfl) hq
      · have hq := pv_neg c_1 hq
        refine lv_aload_n (pc := 8) hx hb dX7_wordHere_8 rfl (lv_at hl 0 rfl) ?_
        refine lv_iload_n (pc := 9) hx hb dX7_wordHere_9 rfl (lv_at hl 1 rfl) ?_
        refine lv_aload_n (pc := 10) hx hb dX7_wordHere_10 rfl (lv_at hl 0 rfl) ?_
        refine va_get (pc := 11) (D := E.1) (ci := 5) (v := .int w.2.2.2.2.2.2.2.2.2.2.2.1) (C := RX7) (T := TX7) (N := 17) hx hb hts i_RX7 hown hK hP 0 rfl rfl 11 (Nat.le_of_ble_eq_true rfl) fl_170 (fun _ h9 => h9) rfl dX7_wordHere_11 ?_
        refine lv_aload_n (pc := 14) hx hb dX7_wordHere_14 rfl (lv_at hl 0 rfl) ?_
        refine va_get (pc := 15) (D := E.1) (ci := 5) (v := .int w.2.2.2.2.2.2.2.2.2.2.1) (C := RX7) (T := TX7) (N := 17) hx hb hts i_RX7 hown hK hP 0 rfl rfl 10 (Nat.le_of_ble_eq_true rfl) fl_167 (fun _ h9 => h9) rfl dX7_wordHere_15 ?_
        refine lv_isub (pc := 18) hx hb dX7_wordHere_18 ?_
        obtain ⟨u_3, hu_3, hq⟩ := pv_bind hq
        refine pv_vROf (pc := 19) (rest := []) (st1 := [.int u_3]) (ws := pv_wM E a0 a1 a2 a3 a4 a5 a6 a7 a8 a9 a10 w) [.int x1, .int (w.2.2.2.2.2.2.2.2.2.2.2.1 - w.2.2.2.2.2.2.2.2.2.2.1)] ⟨hx, hb, hml, hown, hts⟩ hE hA hS hP hD (c_X7_isName l E a0 a1 a2 a3 a4 a5 a6 a7 a8 a9 a10 x1 (w.2.2.2.2.2.2.2.2.2.2.2.1 - w.2.2.2.2.2.2.2.2.2.2.1) w u_3 hu_3) (cwV 2 hts gX7_wordHere_X7_isName rfl rfl rfl (by decide +kernel) ⟨(Nat.le_of_ble_eq_true rfl), (Nat.le_of_ble_eq_true rfl)⟩) (va_recv hK hP (ci := 5) (q0 := 0) rfl rfl) rfl hl.1 rfl rfl (Nat.le_of_ble_eq_true rfl) dX7_wordHere_19 ⟨Nat.zero_le _, Nat.zero_le _⟩ (fun locs hS => ?_)
        refine lv_if_ne (pc := 22) (tgt := 31) hx hb dX7_wordHere_22 (by decide) (fun c_4 => ?_) (fun c_4 => ?_)
        · have hq := pv_neg c_4 hq
          exact B_31 x1 locs ls hS (lv_sub hl [1] rfl) hq
        · have hq := pv_pos c_4 hq
          refine lv_iinc (pc := 25) (v := (x1 + 1)) (lv' := [(1, .int (x1 + 1)), (0, .ref a0)]) hx hb dX7_wordHere_25 hl (k := 1) rfl rfl (Nat.le_of_ble_eq_true rfl) rfl (fun ls hl => ?_)
          refine lv_goto (pc := 28) (tgt := 2) hx hb dX7_wordHere_28 (by decide) ?_
          exact ih (x1 + 1) locs ls hS (lv_sub hl [1, 0] rfl) hq
  suffices M0 : ∀ (locs : List Loc), va_S A s.heap s.heap locs → W p l e r_X7_wordHere s m args below meth c s.heap locs 0 0 (MQ below (pv_Ro (some (.int F))) args s 0 0 A) (F0 m 0 ls []) from M0 [] hS
  intro locs hS
  refine lv_iconst (pc := 0) (v := 0) hx hb dX7_wordHere_0 (by decide) ?_
  refine lv_istore_n (pc := 1) (lv' := [(1, .int 0), (0, .ref a0)]) hx hb dX7_wordHere_1 rfl hl (Nat.le_of_ble_eq_true rfl) rfl (fun ls hl => ?_)
  exact L_2 300 0 locs ls hS (lv_sub hl [1, 0] rfl) hq
def m_X7_reads_231 (y1 : Int32) (w : pv_MT) : Option (pv_MT) :=
  some (w.1, w.2.1, w.2.2.1, w.2.2.2.1, w.2.2.2.2.1, w.2.2.2.2.2.1, w.2.2.2.2.2.2.1, w.2.2.2.2.2.2.2.1, w.2.2.2.2.2.2.2.2.1, y1, w.2.2.2.2.2.2.2.2.2.2.1, (w.2.2.2.2.2.2.2.2.2.2.2.1 + 1), w.2.2.2.2.2.2.2.2.2.2.2.2.1, w.2.2.2.2.2.2.2.2.2.2.2.2.2.1, w.2.2.2.2.2.2.2.2.2.2.2.2.2.2.1, w.2.2.2.2.2.2.2.2.2.2.2.2.2.2.2.1, w.2.2.2.2.2.2.2.2.2.2.2.2.2.2.2.2)
def m_X7_reads_183 (k_130 : pv_MT → Option (pv_MT)) (y1 : Int32) (w : pv_MT) : Option (pv_MT) :=
  k_130 (w.1, w.2.1, w.2.2.1, w.2.2.2.1, w.2.2.2.2.1, w.2.2.2.2.2.1, w.2.2.2.2.2.2.1, w.2.2.2.2.2.2.2.1, w.2.2.2.2.2.2.2.2.1, w.2.2.2.2.2.2.2.2.2.1, w.2.2.2.2.2.2.2.2.2.2.1, (w.2.2.2.2.2.2.2.2.2.2.2.1 + 1), y1, w.2.2.2.2.2.2.2.2.2.2.2.2.2.1, w.2.2.2.2.2.2.2.2.2.2.2.2.2.2.1, w.2.2.2.2.2.2.2.2.2.2.2.2.2.2.2.1, w.2.2.2.2.2.2.2.2.2.2.2.2.2.2.2.2)
def m_X7_reads_130 : Nat → pv_MT → Option (pv_MT)
  | 0 => fun _ => none
  | n + 1 => fun w =>
    Option.bind (m_X7_isByte w.2.2.2.2.2.2.2.2.2.2.2.1 48 57 w) fun u_10 => (if u_10 = 0 then (some (w.1, w.2.1, w.2.2.1, w.2.2.2.1, w.2.2.2.2.1, w.2.2.2.2.2.1, w.2.2.2.2.2.2.1, w.2.2.2.2.2.2.2.1, w.2.2.2.2.2.2.2.2.1, 20, w.2.2.2.2.2.2.2.2.2.2.1, w.2.2.2.2.2.2.2.2.2.2.2.1, w.2.2.2.2.2.2.2.2.2.2.2.2.1, w.2.2.2.2.2.2.2.2.2.2.2.2.2.1, w.2.2.2.2.2.2.2.2.2.2.2.2.2.2.1, w.2.2.2.2.2.2.2.2.2.2.2.2.2.2.2.1, w.2.2.2.2.2.2.2.2.2.2.2.2.2.2.2.2)) else (if w.2.2.2.2.2.2.2.2.2.2.2.2.1 ≤ 999 then (pv_gd w.2.2.2.2.2.2.2.2.2.2.2.1 120 (m_X7_reads_183 (m_X7_reads_130 n) (((10 * w.2.2.2.2.2.2.2.2.2.2.2.2.1) + (w.2.2.2.2.2.2.2.1 w.2.2.2.2.2.2.2.2.2.2.2.1.toNatClampNeg)) - 48) w)) else (m_X7_reads_183 (m_X7_reads_130 n) w.2.2.2.2.2.2.2.2.2.2.2.2.1 w)))
def m_X7_reads_76 : Nat → pv_MT → Option (pv_MT)
  | 0 => fun _ => none
  | n + 1 => fun w =>
    Option.bind (m_X7_isByte w.2.2.2.2.2.2.2.2.2.2.2.1 97 122 w) fun u_14 => (if u_14 = 0 then (Option.bind (m_X7_wordHere w) fun u_16 => (some (w.1, w.2.1, w.2.2.1, w.2.2.2.1, w.2.2.2.2.1, w.2.2.2.2.2.1, w.2.2.2.2.2.2.1, w.2.2.2.2.2.2.2.1, w.2.2.2.2.2.2.2.2.1, u_16, w.2.2.2.2.2.2.2.2.2.2.1, w.2.2.2.2.2.2.2.2.2.2.2.1, w.2.2.2.2.2.2.2.2.2.2.2.2.1, w.2.2.2.2.2.2.2.2.2.2.2.2.2.1, w.2.2.2.2.2.2.2.2.2.2.2.2.2.2.1, w.2.2.2.2.2.2.2.2.2.2.2.2.2.2.2.1, w.2.2.2.2.2.2.2.2.2.2.2.2.2.2.2.2))) else ((m_X7_reads_76 n) (w.1, w.2.1, w.2.2.1, w.2.2.2.1, w.2.2.2.2.1, w.2.2.2.2.2.1, w.2.2.2.2.2.2.1, w.2.2.2.2.2.2.2.1, w.2.2.2.2.2.2.2.2.1, w.2.2.2.2.2.2.2.2.2.1, w.2.2.2.2.2.2.2.2.2.2.1, (w.2.2.2.2.2.2.2.2.2.2.2.1 + 1), w.2.2.2.2.2.2.2.2.2.2.2.2.1, w.2.2.2.2.2.2.2.2.2.2.2.2.2.1, w.2.2.2.2.2.2.2.2.2.2.2.2.2.2.1, w.2.2.2.2.2.2.2.2.2.2.2.2.2.2.2.1, w.2.2.2.2.2.2.2.2.2.2.2.2.2.2.2.2)))
def m_X7_reads_0 : Nat → pv_MT → Option (pv_MT)
  | 0 => fun _ => none
  | n + 1 => fun w =>
    Option.bind (m_X7_isByte w.2.2.2.2.2.2.2.2.2.2.2.1 32 32 w) fun u_1 => (if u_1 = 0 then (if w.2.2.2.2.2.2.2.2.2.2.2.1 = w.2.2.2.2.2.2.2.2.1 then (some (w.1, w.2.1, w.2.2.1, w.2.2.2.1, w.2.2.2.2.1, w.2.2.2.2.2.1, w.2.2.2.2.2.2.1, w.2.2.2.2.2.2.2.1, w.2.2.2.2.2.2.2.2.1, 22, w.2.2.2.2.2.2.2.2.2.2.2.1, w.2.2.2.2.2.2.2.2.2.2.2.1, 0, w.2.2.2.2.2.2.2.2.2.2.2.2.2.1, w.2.2.2.2.2.2.2.2.2.2.2.2.2.2.1, w.2.2.2.2.2.2.2.2.2.2.2.2.2.2.2.1, w.2.2.2.2.2.2.2.2.2.2.2.2.2.2.2.2)) else (Option.bind (m_X7_isByte w.2.2.2.2.2.2.2.2.2.2.2.1 97 122 (w.1, w.2.1, w.2.2.1, w.2.2.2.1, w.2.2.2.2.1, w.2.2.2.2.2.1, w.2.2.2.2.2.2.1, w.2.2.2.2.2.2.2.1, w.2.2.2.2.2.2.2.2.1, w.2.2.2.2.2.2.2.2.2.1, w.2.2.2.2.2.2.2.2.2.2.2.1, w.2.2.2.2.2.2.2.2.2.2.2.1, 0, w.2.2.2.2.2.2.2.2.2.2.2.2.2.1, w.2.2.2.2.2.2.2.2.2.2.2.2.2.2.1, w.2.2.2.2.2.2.2.2.2.2.2.2.2.2.2.1, w.2.2.2.2.2.2.2.2.2.2.2.2.2.2.2.2)) fun u_4 => (if u_4 = 0 then (Option.bind (m_X7_isByte w.2.2.2.2.2.2.2.2.2.2.2.1 48 57 (w.1, w.2.1, w.2.2.1, w.2.2.2.1, w.2.2.2.2.1, w.2.2.2.2.2.1, w.2.2.2.2.2.2.1, w.2.2.2.2.2.2.2.1, w.2.2.2.2.2.2.2.2.1, w.2.2.2.2.2.2.2.2.2.1, w.2.2.2.2.2.2.2.2.2.2.2.1, w.2.2.2.2.2.2.2.2.2.2.2.1, 0, w.2.2.2.2.2.2.2.2.2.2.2.2.2.1, w.2.2.2.2.2.2.2.2.2.2.2.2.2.2.1, w.2.2.2.2.2.2.2.2.2.2.2.2.2.2.2.1, w.2.2.2.2.2.2.2.2.2.2.2.2.2.2.2.2)) fun u_6 => (if u_6 = 0 then (Option.bind (m_X7_isByte w.2.2.2.2.2.2.2.2.2.2.2.1 59 59 (w.1, w.2.1, w.2.2.1, w.2.2.2.1, w.2.2.2.2.1, w.2.2.2.2.2.1, w.2.2.2.2.2.2.1, w.2.2.2.2.2.2.2.1, w.2.2.2.2.2.2.2.2.1, w.2.2.2.2.2.2.2.2.2.1, w.2.2.2.2.2.2.2.2.2.2.2.1, w.2.2.2.2.2.2.2.2.2.2.2.1, 0, w.2.2.2.2.2.2.2.2.2.2.2.2.2.1, w.2.2.2.2.2.2.2.2.2.2.2.2.2.2.1, w.2.2.2.2.2.2.2.2.2.2.2.2.2.2.2.1, w.2.2.2.2.2.2.2.2.2.2.2.2.2.2.2.2)) fun u_8 => (if u_8 = 0 then (m_X7_reads_231 23 (w.1, w.2.1, w.2.2.1, w.2.2.2.1, w.2.2.2.2.1, w.2.2.2.2.2.1, w.2.2.2.2.2.2.1, w.2.2.2.2.2.2.2.1, w.2.2.2.2.2.2.2.2.1, w.2.2.2.2.2.2.2.2.2.1, w.2.2.2.2.2.2.2.2.2.2.2.1, w.2.2.2.2.2.2.2.2.2.2.2.1, 0, w.2.2.2.2.2.2.2.2.2.2.2.2.2.1, w.2.2.2.2.2.2.2.2.2.2.2.2.2.2.1, w.2.2.2.2.2.2.2.2.2.2.2.2.2.2.2.1, w.2.2.2.2.2.2.2.2.2.2.2.2.2.2.2.2)) else (m_X7_reads_231 21 (w.1, w.2.1, w.2.2.1, w.2.2.2.1, w.2.2.2.2.1, w.2.2.2.2.2.1, w.2.2.2.2.2.2.1, w.2.2.2.2.2.2.2.1, w.2.2.2.2.2.2.2.2.1, w.2.2.2.2.2.2.2.2.2.1, w.2.2.2.2.2.2.2.2.2.2.2.1, w.2.2.2.2.2.2.2.2.2.2.2.1, 0, w.2.2.2.2.2.2.2.2.2.2.2.2.2.1, w.2.2.2.2.2.2.2.2.2.2.2.2.2.2.1, w.2.2.2.2.2.2.2.2.2.2.2.2.2.2.2.1, w.2.2.2.2.2.2.2.2.2.2.2.2.2.2.2.2)))) else (m_X7_reads_130 300 (w.1, w.2.1, w.2.2.1, w.2.2.2.1, w.2.2.2.2.1, w.2.2.2.2.2.1, w.2.2.2.2.2.2.1, w.2.2.2.2.2.2.2.1, w.2.2.2.2.2.2.2.2.1, w.2.2.2.2.2.2.2.2.2.1, w.2.2.2.2.2.2.2.2.2.2.2.1, w.2.2.2.2.2.2.2.2.2.2.2.1, 0, w.2.2.2.2.2.2.2.2.2.2.2.2.2.1, w.2.2.2.2.2.2.2.2.2.2.2.2.2.2.1, w.2.2.2.2.2.2.2.2.2.2.2.2.2.2.2.1, w.2.2.2.2.2.2.2.2.2.2.2.2.2.2.2.2)))) else (m_X7_reads_76 300 (w.1, w.2.1, w.2.2.1, w.2.2.2.1, w.2.2.2.2.1, w.2.2.2.2.2.1, w.2.2.2.2.2.2.1, w.2.2.2.2.2.2.2.1, w.2.2.2.2.2.2.2.2.1, w.2.2.2.2.2.2.2.2.2.1, w.2.2.2.2.2.2.2.2.2.2.2.1, w.2.2.2.2.2.2.2.2.2.2.2.1, 0, w.2.2.2.2.2.2.2.2.2.2.2.2.2.1, w.2.2.2.2.2.2.2.2.2.2.2.2.2.2.1, w.2.2.2.2.2.2.2.2.2.2.2.2.2.2.2.1, w.2.2.2.2.2.2.2.2.2.2.2.2.2.2.2.2))))) else ((m_X7_reads_0 n) (w.1, w.2.1, w.2.2.1, w.2.2.2.1, w.2.2.2.2.1, w.2.2.2.2.2.1, w.2.2.2.2.2.2.1, w.2.2.2.2.2.2.2.1, w.2.2.2.2.2.2.2.2.1, w.2.2.2.2.2.2.2.2.2.1, w.2.2.2.2.2.2.2.2.2.2.1, (w.2.2.2.2.2.2.2.2.2.2.2.1 + 1), w.2.2.2.2.2.2.2.2.2.2.2.2.1, w.2.2.2.2.2.2.2.2.2.2.2.2.2.1, w.2.2.2.2.2.2.2.2.2.2.2.2.2.2.1, w.2.2.2.2.2.2.2.2.2.2.2.2.2.2.2.1, w.2.2.2.2.2.2.2.2.2.2.2.2.2.2.2.2)))
def m_X7_reads  (w : pv_MT) : Option (pv_MT) :=
  m_X7_reads_0 300 w
abbrev r_X7_reads : Room := { frames := 2, cells := 0, slots := 0, locals := 46 }
set_option maxHeartbeats 4000000 in
set_option maxRecDepth 100000 in
theorem c_X7_reads (l : Launch) (E : pv_E) (a0 a1 a2 a3 a4 a5 a6 a7 a8 a9 a10 : Nat)  (w0 : pv_MT) (F : pv_MT) (hq : m_X7_reads w0 = some F) : pv_RW l E yX7_reads wsX7_reads r_X7_reads (pv_wM E a0 a1 a2 a3 a4 a5 a6 a7 a8 a9 a10 w0) [.ref a0] (none) (pv_wM E a0 a1 a2 a3 a4 a5 a6 a7 a8 a9 a10 F) := by
  intro sz
  refine pv_mk (by decide) rfl (Nat.le_of_ble_eq_true rfl) ?_
  intro p e s m args below meth c A hx hb hr hml hown hts hlk hAe hP hD0 hA hE hS ls hl
  have hown : s.vm.findClass RX7 = some m.cls := hown
  have hK := hE.1
  have hD : ∀ w : pv_MT, va_D A (pv_wM E a0 a1 a2 a3 a4 a5 a6 a7 a8 a9 a10 w) := fun w => pv_Dm (ws := pv_wM E a0 a1 a2 a3 a4 a5 a6 a7 a8 a9 a10 w0) (ws' := pv_wM E a0 a1 a2 a3 a4 a5 a6 a7 a8 a9 a10 w) rfl hD0
  have hP : va_P E.1 vwCl (pv_wM E a0 a1 a2 a3 a4 a5 a6 a7 a8 a9 a10 w0) s.heap := hP
  have fl_170 : (Cond.fieldLink RX7 170 "ProvinceCardsModel" "at" "I").before args s = true := hts _ (by decide +kernel)
  have fl_167 : (Cond.fieldLink RX7 167 "ProvinceCardsModel" "begin" "I").before args s = true := hts _ (by decide +kernel)
  have fl_180 : (Cond.fieldLink RX7 180 "ProvinceCardsModel" "value" "I").before args s = true := hts _ (by decide +kernel)
  have fl_160 : (Cond.fieldLink RX7 160 "ProvinceCardsModel" "taped" "I").before args s = true := hts _ (by decide +kernel)
  have fl_183 : (Cond.fieldLink RX7 183 "ProvinceCardsModel" "token" "I").before args s = true := hts _ (by decide +kernel)
  have fl_28 : (Cond.fieldLink RX7 28 "ProvinceCardsModel" "tape" "[I").before args s = true := hts _ (by decide +kernel)
  have i_RX7 : ∀ w ∈ wsX70, w ∈ wsX7_reads := by decide +kernel
  have hl : lv_has ls 1 [(0, .ref a0)] := hl
  have B_231 : ∀ (y1 : Int32) (w : pv_MT) (H : Heap) (locs : List Loc) (ls : Array Slot), va_P E.1 vwCl (pv_wM E a0 a1 a2 a3 a4 a5 a6 a7 a8 a9 a10 w) H → va_S A s.heap H locs → lv_has ls 1 [(0, .ref a0)] → m_X7_reads_231 y1 w = some F → W p l e r_X7_reads s m args below meth c H locs 0 0 (MQ below (pv_Rw E (pv_wM E a0 a1 a2 a3 a4 a5 a6 a7 a8 a9 a10 w0) sz (none) ((fun w : pv_MT => pv_wM E a0 a1 a2 a3 a4 a5 a6 a7 a8 a9 a10 w) F)) args s 0 0 A) (F0 m 231 ls [.int y1, .ref a0]) := by
    intro y1 w H locs ls hP hS hl hq
    refine va_put (pc := 231) (D := E.1) (ci := 5) (v := .int y1) (ty := .int) (C := RX7) (T := TX7) (N := 17) hx hb hts i_RX7 tyX7 tyX7_ok nmX7 hown hK hP (hD w) hS 0 rfl rfl 9 (Nat.le_of_ble_eq_true rfl) fl_183 (fun _ h9 => h9) rfl (tyX7_ok 9 (Nat.le_of_ble_eq_true rfl)) rfl rfl (Nat.le_of_ble_eq_true rfl) dX7_reads_231 (fun H locs hP _ hS => ?_)
    have hP : va_P E.1 vwCl (pv_wM E a0 a1 a2 a3 a4 a5 a6 a7 a8 a9 a10 (w.1, w.2.1, w.2.2.1, w.2.2.2.1, w.2.2.2.2.1, w.2.2.2.2.2.1, w.2.2.2.2.2.2.1, w.2.2.2.2.2.2.2.1, w.2.2.2.2.2.2.2.2.1, y1, w.2.2.2.2.2.2.2.2.2.2.1, w.2.2.2.2.2.2.2.2.2.2.2.1, w.2.2.2.2.2.2.2.2.2.2.2.2.1, w.2.2.2.2.2.2.2.2.2.2.2.2.2.1, w.2.2.2.2.2.2.2.2.2.2.2.2.2.2.1, w.2.2.2.2.2.2.2.2.2.2.2.2.2.2.2.1, w.2.2.2.2.2.2.2.2.2.2.2.2.2.2.2.2)) H := hP
    refine lv_aload_n (pc := 234) hx hb dX7_reads_234 rfl (lv_at hl 0 rfl) ?_
    refine lv_dup (pc := 235) hx hb dX7_reads_235 rfl ?_
    refine va_get (pc := 236) (D := E.1) (ci := 5) (v := .int w.2.2.2.2.2.2.2.2.2.2.2.1) (C := RX7) (T := TX7) (N := 17) hx hb hts i_RX7 hown hK hP 0 rfl rfl 11 (Nat.le_of_ble_eq_true rfl) fl_170 (fun _ h9 => h9) rfl dX7_reads_236 ?_
    refine lv_iconst (pc := 239) (v := 1) hx hb dX7_reads_239 (by decide) ?_
    refine lv_iadd (pc := 240) hx hb dX7_reads_240 ?_
    refine va_put (pc := 241) (D := E.1) (ci := 5) (v := .int (w.2.2.2.2.2.2.2.2.2.2.2.1 + 1)) (ty := .int) (C := RX7) (T := TX7) (N := 17) hx hb hts i_RX7 tyX7 tyX7_ok nmX7 hown hK hP (hD (w.1, w.2.1, w.2.2.1, w.2.2.2.1, w.2.2.2.2.1, w.2.2.2.2.2.1, w.2.2.2.2.2.2.1, w.2.2.2.2.2.2.2.1, w.2.2.2.2.2.2.2.2.1, y1, w.2.2.2.2.2.2.2.2.2.2.1, w.2.2.2.2.2.2.2.2.2.2.2.1, w.2.2.2.2.2.2.2.2.2.2.2.2.1, w.2.2.2.2.2.2.2.2.2.2.2.2.2.1, w.2.2.2.2.2.2.2.2.2.2.2.2.2.2.1, w.2.2.2.2.2.2.2.2.2.2.2.2.2.2.2.1, w.2.2.2.2.2.2.2.2.2.2.2.2.2.2.2.2)) hS 0 rfl rfl 11 (Nat.le_of_ble_eq_true rfl) fl_170 (fun _ h9 => h9) rfl (tyX7_ok 11 (Nat.le_of_ble_eq_true rfl)) rfl rfl (Nat.le_of_ble_eq_true rfl) dX7_reads_241 (fun H locs hP _ hS => ?_)
    have hP : va_P E.1 vwCl (pv_wM E a0 a1 a2 a3 a4 a5 a6 a7 a8 a9 a10 (w.1, w.2.1, w.2.2.1, w.2.2.2.1, w.2.2.2.2.1, w.2.2.2.2.2.1, w.2.2.2.2.2.2.1, w.2.2.2.2.2.2.2.1, w.2.2.2.2.2.2.2.2.1, y1, w.2.2.2.2.2.2.2.2.2.2.1, (w.2.2.2.2.2.2.2.2.2.2.2.1 + 1), w.2.2.2.2.2.2.2.2.2.2.2.2.1, w.2.2.2.2.2.2.2.2.2.2.2.2.2.1, w.2.2.2.2.2.2.2.2.2.2.2.2.2.2.1, w.2.2.2.2.2.2.2.2.2.2.2.2.2.2.2.1, w.2.2.2.2.2.2.2.2.2.2.2.2.2.2.2.2)) H := hP
    exact pv_rvRW (w := fun w : pv_MT => pv_wM E a0 a1 a2 a3 a4 a5 a6 a7 a8 a9 a10 w) hx hb hr hlk hAe hS hP (Option.some.inj hq) dX7_reads_244
  have B_183 : ∀ (k_130 : pv_MT → Option (pv_MT)), (∀  (w : pv_MT) (H : Heap) (locs : List Loc) (ls : Array Slot), va_P E.1 vwCl (pv_wM E a0 a1 a2 a3 a4 a5 a6 a7 a8 a9 a10 w) H → va_S A s.heap H locs → lv_has ls 1 [(0, .ref a0)] → k_130 w = some F → W p l e r_X7_reads s m args below meth c H locs 0 0 (MQ below (pv_Rw E (pv_wM E a0 a1 a2 a3 a4 a5 a6 a7 a8 a9 a10 w0) sz (none) ((fun w : pv_MT => pv_wM E a0 a1 a2 a3 a4 a5 a6 a7 a8 a9 a10 w) F)) args s 0 0 A) (F0 m 130 ls [])) → ∀ (y1 : Int32) (w : pv_MT) (H : Heap) (locs : List Loc) (ls : Array Slot), va_P E.1 vwCl (pv_wM E a0 a1 a2 a3 a4 a5 a6 a7 a8 a9 a10 w) H → va_S A s.heap H locs → lv_has ls 1 [(0, .ref a0)] → m_X7_reads_183 k_130 y1 w = some F → W p l e r_X7_reads s m args below meth c H locs 0 0 (MQ below (pv_Rw E (pv_wM E a0 a1 a2 a3 a4 a5 a6 a7 a8 a9 a10 w0) sz (none) ((fun w : pv_MT => pv_wM E a0 a1 a2 a3 a4 a5 a6 a7 a8 a9 a10 w) F)) args s 0 0 A) (F0 m 183 ls [.int y1, .ref a0]) := by
    intro k_130 hk_130
    intro y1 w H locs ls hP hS hl hq
    refine va_put (pc := 183) (D := E.1) (ci := 5) (v := .int y1) (ty := .int) (C := RX7) (T := TX7) (N := 17) hx hb hts i_RX7 tyX7 tyX7_ok nmX7 hown hK hP (hD w) hS 0 rfl rfl 12 (Nat.le_of_ble_eq_true rfl) fl_180 (fun _ h9 => h9) rfl (tyX7_ok 12 (Nat.le_of_ble_eq_true rfl)) rfl rfl (Nat.le_of_ble_eq_true rfl) dX7_reads_183 (fun H locs hP _ hS => ?_)
    have hP : va_P E.1 vwCl (pv_wM E a0 a1 a2 a3 a4 a5 a6 a7 a8 a9 a10 (w.1, w.2.1, w.2.2.1, w.2.2.2.1, w.2.2.2.2.1, w.2.2.2.2.2.1, w.2.2.2.2.2.2.1, w.2.2.2.2.2.2.2.1, w.2.2.2.2.2.2.2.2.1, w.2.2.2.2.2.2.2.2.2.1, w.2.2.2.2.2.2.2.2.2.2.1, w.2.2.2.2.2.2.2.2.2.2.2.1, y1, w.2.2.2.2.2.2.2.2.2.2.2.2.2.1, w.2.2.2.2.2.2.2.2.2.2.2.2.2.2.1, w.2.2.2.2.2.2.2.2.2.2.2.2.2.2.2.1, w.2.2.2.2.2.2.2.2.2.2.2.2.2.2.2.2)) H := hP
    refine lv_aload_n (pc := 186) hx hb dX7_reads_186 rfl (lv_at hl 0 rfl) ?_
    refine lv_dup (pc := 187) hx hb dX7_reads_187 rfl ?_
    refine va_get (pc := 188) (D := E.1) (ci := 5) (v := .int w.2.2.2.2.2.2.2.2.2.2.2.1) (C := RX7) (T := TX7) (N := 17) hx hb hts i_RX7 hown hK hP 0 rfl rfl 11 (Nat.le_of_ble_eq_true rfl) fl_170 (fun _ h9 => h9) rfl dX7_reads_188 ?_
    refine lv_iconst (pc := 191) (v := 1) hx hb dX7_reads_191 (by decide) ?_
    refine lv_iadd (pc := 192) hx hb dX7_reads_192 ?_
    refine va_put (pc := 193) (D := E.1) (ci := 5) (v := .int (w.2.2.2.2.2.2.2.2.2.2.2.1 + 1)) (ty := .int) (C := RX7) (T := TX7) (N := 17) hx hb hts i_RX7 tyX7 tyX7_ok nmX7 hown hK hP (hD (w.1, w.2.1, w.2.2.1, w.2.2.2.1, w.2.2.2.2.1, w.2.2.2.2.2.1, w.2.2.2.2.2.2.1, w.2.2.2.2.2.2.2.1, w.2.2.2.2.2.2.2.2.1, w.2.2.2.2.2.2.2.2.2.1, w.2.2.2.2.2.2.2.2.2.2.1, w.2.2.2.2.2.2.2.2.2.2.2.1, y1, w.2.2.2.2.2.2.2.2.2.2.2.2.2.1, w.2.2.2.2.2.2.2.2.2.2.2.2.2.2.1, w.2.2.2.2.2.2.2.2.2.2.2.2.2.2.2.1, w.2.2.2.2.2.2.2.2.2.2.2.2.2.2.2.2)) hS 0 rfl rfl 11 (Nat.le_of_ble_eq_true rfl) fl_170 (fun _ h9 => h9) rfl (tyX7_ok 11 (Nat.le_of_ble_eq_true rfl)) rfl rfl (Nat.le_of_ble_eq_true rfl) dX7_reads_193 (fun H locs hP _ hS => ?_)
    have hP : va_P E.1 vwCl (pv_wM E a0 a1 a2 a3 a4 a5 a6 a7 a8 a9 a10 (w.1, w.2.1, w.2.2.1, w.2.2.2.1, w.2.2.2.2.1, w.2.2.2.2.2.1, w.2.2.2.2.2.2.1, w.2.2.2.2.2.2.2.1, w.2.2.2.2.2.2.2.2.1, w.2.2.2.2.2.2.2.2.2.1, w.2.2.2.2.2.2.2.2.2.2.1, (w.2.2.2.2.2.2.2.2.2.2.2.1 + 1), y1, w.2.2.2.2.2.2.2.2.2.2.2.2.2.1, w.2.2.2.2.2.2.2.2.2.2.2.2.2.2.1, w.2.2.2.2.2.2.2.2.2.2.2.2.2.2.2.1, w.2.2.2.2.2.2.2.2.2.2.2.2.2.2.2.2)) H := hP
    refine lv_goto (pc := 196) (tgt := 130) hx hb dX7_reads_196 (by decide) ?_
    exact hk_130 (w.1, w.2.1, w.2.2.1, w.2.2.2.1, w.2.2.2.2.1, w.2.2.2.2.2.1, w.2.2.2.2.2.2.1, w.2.2.2.2.2.2.2.1, w.2.2.2.2.2.2.2.2.1, w.2.2.2.2.2.2.2.2.2.1, w.2.2.2.2.2.2.2.2.2.2.1, (w.2.2.2.2.2.2.2.2.2.2.2.1 + 1), y1, w.2.2.2.2.2.2.2.2.2.2.2.2.2.1, w.2.2.2.2.2.2.2.2.2.2.2.2.2.2.1, w.2.2.2.2.2.2.2.2.2.2.2.2.2.2.2.1, w.2.2.2.2.2.2.2.2.2.2.2.2.2.2.2.2) H locs ls hP hS (lv_sub hl [0] rfl) hq
  have L_130 : ∀ n : Nat, ∀  (w : pv_MT) (H : Heap) (locs : List Loc) (ls : Array Slot), va_P E.1 vwCl (pv_wM E a0 a1 a2 a3 a4 a5 a6 a7 a8 a9 a10 w) H → va_S A s.heap H locs → lv_has ls 1 [(0, .ref a0)] → m_X7_reads_130 n w = some F → W p l e r_X7_reads s m args below meth c H locs 0 0 (MQ below (pv_Rw E (pv_wM E a0 a1 a2 a3 a4 a5 a6 a7 a8 a9 a10 w0) sz (none) ((fun w : pv_MT => pv_wM E a0 a1 a2 a3 a4 a5 a6 a7 a8 a9 a10 w) F)) args s 0 0 A) (F0 m 130 ls []) := by
    intro n
    induction n with
    | zero =>
      intro w H locs ls hP hS hl hq
      exact (pv_no hq).elim
    | succ n ih =>
      intro w H locs ls hP hS hl hq
      refine lv_aload_n (pc := 130) hx hb dX7_reads_130 rfl (lv_at hl 0 rfl) ?_
      refine lv_aload_n (pc := 131) hx hb dX7_reads_131 rfl (lv_at hl 0 rfl) ?_
      refine va_get (pc := 132) (D := E.1) (ci := 5) (v := .int w.2.2.2.2.2.2.2.2.2.2.2.1) (C := RX7) (T := TX7) (N := 17) hx hb hts i_RX7 hown hK hP 0 rfl rfl 11 (Nat.le_of_ble_eq_true rfl) fl_170 (fun _ h9 => h9) rfl dX7_reads_132 ?_
      refine lv_bipush (pc := 135) (v := 48) hx hb dX7_reads_135 (by decide) ?_
      refine lv_bipush (pc := 137) (v := 57) hx hb dX7_reads_137 (by decide) ?_
      obtain ⟨u_10, hu_10, hq⟩ := pv_bind hq
      refine pv_vROf (pc := 139) (rest := []) (st1 := [.int u_10]) (ws := pv_wM E a0 a1 a2 a3 a4 a5 a6 a7 a8 a9 a10 w) [.int w.2.2.2.2.2.2.2.2.2.2.2.1, .int 48, .int 57] ⟨hx, hb, hml, hown, hts⟩ hE hA hS hP (hD w) (c_X7_isByte l E a0 a1 a2 a3 a4 a5 a6 a7 a8 a9 a10 w.2.2.2.2.2.2.2.2.2.2.2.1 48 57 w u_10 hu_10) (cwV 3 hts gX7_reads_X7_isByte rfl rfl rfl (by decide +kernel) ⟨(Nat.le_of_ble_eq_true rfl), (Nat.le_of_ble_eq_true rfl)⟩) (va_recv hK hP (ci := 5) (q0 := 0) rfl rfl) rfl hl.1 rfl rfl (Nat.le_of_ble_eq_true rfl) dX7_reads_139 ⟨Nat.zero_le _, Nat.zero_le _⟩ (fun locs hS => ?_)
      refine lv_if_eq (pc := 142) (tgt := 199) hx hb dX7_reads_142 (by decide) (fun c_11 => ?_) (fun c_11 => ?_)
      · have hq := pv_pos c_11 hq
        refine lv_aload_n (pc := 199) hx hb dX7_reads_199 rfl (lv_at hl 0 rfl) ?_
        refine lv_bipush (pc := 200) (v := 20) hx hb dX7_reads_200 (by decide) ?_
        refine va_put (pc := 202) (D := E.1) (ci := 5) (v := .int 20) (ty := .int) (C := RX7) (T := TX7) (N := 17) hx hb hts i_RX7 tyX7 tyX7_ok nmX7 hown hK hP (hD w) hS 0 rfl rfl 9 (Nat.le_of_ble_eq_true rfl) fl_183 (fun _ h9 => h9) rfl (tyX7_ok 9 (Nat.le_of_ble_eq_true rfl)) rfl rfl (Nat.le_of_ble_eq_true rfl) dX7_reads_202 (fun H locs hP _ hS => ?_)
        have hP : va_P E.1 vwCl (pv_wM E a0 a1 a2 a3 a4 a5 a6 a7 a8 a9 a10 (w.1, w.2.1, w.2.2.1, w.2.2.2.1, w.2.2.2.2.1, w.2.2.2.2.2.1, w.2.2.2.2.2.2.1, w.2.2.2.2.2.2.2.1, w.2.2.2.2.2.2.2.2.1, 20, w.2.2.2.2.2.2.2.2.2.2.1, w.2.2.2.2.2.2.2.2.2.2.2.1, w.2.2.2.2.2.2.2.2.2.2.2.2.1, w.2.2.2.2.2.2.2.2.2.2.2.2.2.1, w.2.2.2.2.2.2.2.2.2.2.2.2.2.2.1, w.2.2.2.2.2.2.2.2.2.2.2.2.2.2.2.1, w.2.2.2.2.2.2.2.2.2.2.2.2.2.2.2.2)) H := hP
        refine lv_goto (pc := 205) (tgt := 244) hx hb dX7_reads_205 (by decide) ?_
        exact pv_rvRW (w := fun w : pv_MT => pv_wM E a0 a1 a2 a3 a4 a5 a6 a7 a8 a9 a10 w) hx hb hr hlk hAe hS hP (Option.some.inj hq) dX7_reads_244
      · have hq := pv_neg c_11 hq
        refine lv_aload_n (pc := 145) hx hb dX7_reads_145 rfl (lv_at hl 0 rfl) ?_
        refine lv_aload_n (pc := 146) hx hb dX7_reads_146 rfl (lv_at hl 0 rfl) ?_
        refine va_get (pc := 147) (D := E.1) (ci := 5) (v := .int w.2.2.2.2.2.2.2.2.2.2.2.2.1) (C := RX7) (T := TX7) (N := 17) hx hb hts i_RX7 hown hK hP 0 rfl rfl 12 (Nat.le_of_ble_eq_true rfl) fl_180 (fun _ h9 => h9) rfl dX7_reads_147 ?_
        refine lv_sipush (pc := 150) (v := 999) hx hb dX7_reads_150 (by decide) ?_
        refine lv_icmp_le (pc := 153) (tgt := 163) hx hb dX7_reads_153 (by decide) (fun c_12 => ?_) (fun c_12 => ?_)
        · have hq := pv_pos c_12 hq
          refine lv_bipush (pc := 163) (v := 10) hx hb dX7_reads_163 (by decide) ?_
          refine lv_aload_n (pc := 165) hx hb dX7_reads_165 rfl (lv_at hl 0 rfl) ?_
          refine va_get (pc := 166) (D := E.1) (ci := 5) (v := .int w.2.2.2.2.2.2.2.2.2.2.2.2.1) (C := RX7) (T := TX7) (N := 17) hx hb hts i_RX7 hown hK hP 0 rfl rfl 12 (Nat.le_of_ble_eq_true rfl) fl_180 (fun _ h9 => h9) rfl dX7_reads_166 ?_
          refine lv_imul (pc := 169) hx hb dX7_reads_169 ?_
          refine lv_aload_n (pc := 170) hx hb dX7_reads_170 rfl (lv_at hl 0 rfl) ?_
          refine va_get (pc := 171) (D := E.1) (ci := 5) (v := .ref a7) (C := RX7) (T := TX7) (N := 17) hx hb hts i_RX7 hown hK hP 0 rfl rfl 7 (Nat.le_of_ble_eq_true rfl) fl_28 (fun _ h9 => h9) rfl dX7_reads_171 ?_
          refine lv_aload_n (pc := 174) hx hb dX7_reads_174 rfl (lv_at hl 0 rfl) ?_
          refine va_get (pc := 175) (D := E.1) (ci := 5) (v := .int w.2.2.2.2.2.2.2.2.2.2.2.1) (C := RX7) (T := TX7) (N := 17) hx hb hts i_RX7 hown hK hP 0 rfl rfl 11 (Nat.le_of_ble_eq_true rfl) fl_170 (fun _ h9 => h9) rfl dX7_reads_175 ?_
          obtain ⟨h_13, hq⟩ := pv_gd_some hq
          refine va_iald (pc := 178) (D := E.1) hx hb hK hP 7 0 rfl rfl h_13 dX7_reads_178 ?_
          refine lv_iadd (pc := 179) hx hb dX7_reads_179 ?_
          refine lv_bipush (pc := 180) (v := 48) hx hb dX7_reads_180 (by decide) ?_
          refine lv_isub (pc := 182) hx hb dX7_reads_182 ?_
          exact B_183 (m_X7_reads_130 n) ih (((10 * w.2.2.2.2.2.2.2.2.2.2.2.2.1) + (w.2.2.2.2.2.2.2.1 w.2.2.2.2.2.2.2.2.2.2.2.1.toNatClampNeg)) - 48) w H locs ls hP hS (lv_sub hl [0] rfl) hq
        · have hq := pv_neg c_12 hq
          refine lv_aload_n (pc := 156) hx hb dX7_reads_156 rfl (lv_at hl 0 rfl) ?_
          refine va_get (pc := 157) (D := E.1) (ci := 5) (v := .int w.2.2.2.2.2.2.2.2.2.2.2.2.1) (C := RX7) (T := TX7) (N := 17) hx hb hts i_RX7 hown hK hP 0 rfl rfl 12 (Nat.le_of_ble_eq_true rfl) fl_180 (fun _ h9 => h9) rfl dX7_reads_157 ?_
          refine lv_goto (pc := 160) (tgt := 183) hx hb dX7_reads_160 (by decide) ?_
          exact B_183 (m_X7_reads_130 n) ih w.2.2.2.2.2.2.2.2.2.2.2.2.1 w H locs ls hP hS (lv_sub hl [0] rfl) hq
  have L_76 : ∀ n : Nat, ∀  (w : pv_MT) (H : Heap) (locs : List Loc) (ls : Array Slot), va_P E.1 vwCl (pv_wM E a0 a1 a2 a3 a4 a5 a6 a7 a8 a9 a10 w) H → va_S A s.heap H locs → lv_has ls 1 [(0, .ref a0)] → m_X7_reads_76 n w = some F → W p l e r_X7_reads s m args below meth c H locs 0 0 (MQ below (pv_Rw E (pv_wM E a0 a1 a2 a3 a4 a5 a6 a7 a8 a9 a10 w0) sz (none) ((fun w : pv_MT => pv_wM E a0 a1 a2 a3 a4 a5 a6 a7 a8 a9 a10 w) F)) args s 0 0 A) (F0 m 76 ls []) := by
    intro n
    induction n with
    | zero =>
      intro w H locs ls hP hS hl hq
      exact (pv_no hq).elim
    | succ n ih =>
      intro w H locs ls hP hS hl hq
      refine lv_aload_n (pc := 76) hx hb dX7_reads_76 rfl (lv_at hl 0 rfl) ?_
      refine lv_aload_n (pc := 77) hx hb dX7_reads_77 rfl (lv_at hl 0 rfl) ?_
      refine va_get (pc := 78) (D := E.1) (ci := 5) (v := .int w.2.2.2.2.2.2.2.2.2.2.2.1) (C := RX7) (T := TX7) (N := 17) hx hb hts i_RX7 hown hK hP 0 rfl rfl 11 (Nat.le_of_ble_eq_true rfl) fl_170 (fun _ h9 => h9) rfl dX7_reads_78 ?_
      refine lv_bipush (pc := 81) (v := 97) hx hb dX7_reads_81 (by decide) ?_
      refine lv_bipush (pc := 83) (v := 122) hx hb dX7_reads_83 (by decide) ?_
      obtain ⟨u_14, hu_14, hq⟩ := pv_bind hq
      refine pv_vROf (pc := 85) (rest := []) (st1 := [.int u_14]) (ws := pv_wM E a0 a1 a2 a3 a4 a5 a6 a7 a8 a9 a10 w) [.int w.2.2.2.2.2.2.2.2.2.2.2.1, .int 97, .int 122] ⟨hx, hb, hml, hown, hts⟩ hE hA hS hP (hD w) (c_X7_isByte l E a0 a1 a2 a3 a4 a5 a6 a7 a8 a9 a10 w.2.2.2.2.2.2.2.2.2.2.2.1 97 122 w u_14 hu_14) (cwV 3 hts gX7_reads_X7_isByte rfl rfl rfl (by decide +kernel) ⟨(Nat.le_of_ble_eq_true rfl), (Nat.le_of_ble_eq_true rfl)⟩) (va_recv hK hP (ci := 5) (q0 := 0) rfl rfl) rfl hl.1 rfl rfl (Nat.le_of_ble_eq_true rfl) dX7_reads_85 ⟨Nat.zero_le _, Nat.zero_le _⟩ (fun locs hS => ?_)
      refine lv_if_eq (pc := 88) (tgt := 104) hx hb dX7_reads_88 (by decide) (fun c_15 => ?_) (fun c_15 => ?_)
      · have hq := pv_pos c_15 hq
        refine lv_aload_n (pc := 104) hx hb dX7_reads_104 rfl (lv_at hl 0 rfl) ?_
        refine lv_aload_n (pc := 105) hx hb dX7_reads_105 rfl (lv_at hl 0 rfl) ?_
        obtain ⟨u_16, hu_16, hq⟩ := pv_bind hq
        refine pv_vROf (pc := 106) (rest := [.ref a0]) (st1 := [.int u_16, .ref a0]) (ws := pv_wM E a0 a1 a2 a3 a4 a5 a6 a7 a8 a9 a10 w) [] ⟨hx, hb, hml, hown, hts⟩ hE hA hS hP (hD w) (c_X7_wordHere l E a0 a1 a2 a3 a4 a5 a6 a7 a8 a9 a10 w u_16 hu_16) (cwV 0 hts gX7_reads_X7_wordHere rfl rfl rfl (by decide +kernel) ⟨(Nat.le_of_ble_eq_true rfl), (Nat.le_of_ble_eq_true rfl)⟩) (va_recv hK hP (ci := 5) (q0 := 0) rfl rfl) rfl hl.1 rfl rfl (Nat.le_of_ble_eq_true rfl) dX7_reads_106 ⟨Nat.zero_le _, Nat.zero_le _⟩ (fun locs hS => ?_)
        refine va_put (pc := 109) (D := E.1) (ci := 5) (v := .int u_16) (ty := .int) (C := RX7) (T := TX7) (N := 17) hx hb hts i_RX7 tyX7 tyX7_ok nmX7 hown hK hP (hD w) hS 0 rfl rfl 9 (Nat.le_of_ble_eq_true rfl) fl_183 (fun _ h9 => h9) rfl (tyX7_ok 9 (Nat.le_of_ble_eq_true rfl)) rfl rfl (Nat.le_of_ble_eq_true rfl) dX7_reads_109 (fun H locs hP _ hS => ?_)
        have hP : va_P E.1 vwCl (pv_wM E a0 a1 a2 a3 a4 a5 a6 a7 a8 a9 a10 (w.1, w.2.1, w.2.2.1, w.2.2.2.1, w.2.2.2.2.1, w.2.2.2.2.2.1, w.2.2.2.2.2.2.1, w.2.2.2.2.2.2.2.1, w.2.2.2.2.2.2.2.2.1, u_16, w.2.2.2.2.2.2.2.2.2.2.1, w.2.2.2.2.2.2.2.2.2.2.2.1, w.2.2.2.2.2.2.2.2.2.2.2.2.1, w.2.2.2.2.2.2.2.2.2.2.2.2.2.1, w.2.2.2.2.2.2.2.2.2.2.2.2.2.2.1, w.2.2.2.2.2.2.2.2.2.2.2.2.2.2.2.1, w.2.2.2.2.2.2.2.2.2.2.2.2.2.2.2.2)) H := hP
        refine lv_goto (pc := 112) (tgt := 244) hx hb dX7_reads_112 (by decide) ?_
        exact pv_rvRW (w := fun w : pv_MT => pv_wM E a0 a1 a2 a3 a4 a5 a6 a7 a8 a9 a10 w) hx hb hr hlk hAe hS hP (Option.some.inj hq) dX7_reads_244
      · have hq := pv_neg c_15 hq
        refine lv_aload_n (pc := 91) hx hb dX7_reads_91 rfl (lv_at hl 0 rfl) ?_
        refine lv_dup (pc := 92) hx hb dX7_reads_92 rfl ?_
        refine va_get (pc := 93) (D := E.1) (ci := 5) (v := .int w.2.2.2.2.2.2.2.2.2.2.2.1) (C := RX7) (T := TX7) (N := 17) hx hb hts i_RX7 hown hK hP 0 rfl rfl 11 (Nat.le_of_ble_eq_true rfl) fl_170 (fun _ h9 => h9) rfl dX7_reads_93 ?_
        refine lv_iconst (pc := 96) (v := 1) hx hb dX7_reads_96 (by decide) ?_
        refine lv_iadd (pc := 97) hx hb dX7_reads_97 ?_
        refine va_put (pc := 98) (D := E.1) (ci := 5) (v := .int (w.2.2.2.2.2.2.2.2.2.2.2.1 + 1)) (ty := .int) (C := RX7) (T := TX7) (N := 17) hx hb hts i_RX7 tyX7 tyX7_ok nmX7 hown hK hP (hD w) hS 0 rfl rfl 11 (Nat.le_of_ble_eq_true rfl) fl_170 (fun _ h9 => h9) rfl (tyX7_ok 11 (Nat.le_of_ble_eq_true rfl)) rfl rfl (Nat.le_of_ble_eq_true rfl) dX7_reads_98 (fun H locs hP _ hS => ?_)
        have hP : va_P E.1 vwCl (pv_wM E a0 a1 a2 a3 a4 a5 a6 a7 a8 a9 a10 (w.1, w.2.1, w.2.2.1, w.2.2.2.1, w.2.2.2.2.1, w.2.2.2.2.2.1, w.2.2.2.2.2.2.1, w.2.2.2.2.2.2.2.1, w.2.2.2.2.2.2.2.2.1, w.2.2.2.2.2.2.2.2.2.1, w.2.2.2.2.2.2.2.2.2.2.1, (w.2.2.2.2.2.2.2.2.2.2.2.1 + 1), w.2.2.2.2.2.2.2.2.2.2.2.2.1, w.2.2.2.2.2.2.2.2.2.2.2.2.2.1, w.2.2.2.2.2.2.2.2.2.2.2.2.2.2.1, w.2.2.2.2.2.2.2.2.2.2.2.2.2.2.2.1, w.2.2.2.2.2.2.2.2.2.2.2.2.2.2.2.2)) H := hP
        refine lv_goto (pc := 101) (tgt := 76) hx hb dX7_reads_101 (by decide) ?_
        exact ih (w.1, w.2.1, w.2.2.1, w.2.2.2.1, w.2.2.2.2.1, w.2.2.2.2.2.1, w.2.2.2.2.2.2.1, w.2.2.2.2.2.2.2.1, w.2.2.2.2.2.2.2.2.1, w.2.2.2.2.2.2.2.2.2.1, w.2.2.2.2.2.2.2.2.2.2.1, (w.2.2.2.2.2.2.2.2.2.2.2.1 + 1), w.2.2.2.2.2.2.2.2.2.2.2.2.1, w.2.2.2.2.2.2.2.2.2.2.2.2.2.1, w.2.2.2.2.2.2.2.2.2.2.2.2.2.2.1, w.2.2.2.2.2.2.2.2.2.2.2.2.2.2.2.1, w.2.2.2.2.2.2.2.2.2.2.2.2.2.2.2.2) H locs ls hP hS (lv_sub hl [0] rfl) hq
  have L_0 : ∀ n : Nat, ∀  (w : pv_MT) (H : Heap) (locs : List Loc) (ls : Array Slot), va_P E.1 vwCl (pv_wM E a0 a1 a2 a3 a4 a5 a6 a7 a8 a9 a10 w) H → va_S A s.heap H locs → lv_has ls 1 [(0, .ref a0)] → m_X7_reads_0 n w = some F → W p l e r_X7_reads s m args below meth c H locs 0 0 (MQ below (pv_Rw E (pv_wM E a0 a1 a2 a3 a4 a5 a6 a7 a8 a9 a10 w0) sz (none) ((fun w : pv_MT => pv_wM E a0 a1 a2 a3 a4 a5 a6 a7 a8 a9 a10 w) F)) args s 0 0 A) (F0 m 0 ls []) := by
    intro n
    induction n with
    | zero =>
      intro w H locs ls hP hS hl hq
      exact (pv_no hq).elim
    | succ n ih =>
      intro w H locs ls hP hS hl hq
      refine lv_aload_n (pc := 0) hx hb dX7_reads_0 rfl (lv_at hl 0 rfl) ?_
      refine lv_aload_n (pc := 1) hx hb dX7_reads_1 rfl (lv_at hl 0 rfl) ?_
      refine va_get (pc := 2) (D := E.1) (ci := 5) (v := .int w.2.2.2.2.2.2.2.2.2.2.2.1) (C := RX7) (T := TX7) (N := 17) hx hb hts i_RX7 hown hK hP 0 rfl rfl 11 (Nat.le_of_ble_eq_true rfl) fl_170 (fun _ h9 => h9) rfl dX7_reads_2 ?_
      refine lv_bipush (pc := 5) (v := 32) hx hb dX7_reads_5 (by decide) ?_
      refine lv_bipush (pc := 7) (v := 32) hx hb dX7_reads_7 (by decide) ?_
      obtain ⟨u_1, hu_1, hq⟩ := pv_bind hq
      refine pv_vROf (pc := 9) (rest := []) (st1 := [.int u_1]) (ws := pv_wM E a0 a1 a2 a3 a4 a5 a6 a7 a8 a9 a10 w) [.int w.2.2.2.2.2.2.2.2.2.2.2.1, .int 32, .int 32] ⟨hx, hb, hml, hown, hts⟩ hE hA hS hP (hD w) (c_X7_isByte l E a0 a1 a2 a3 a4 a5 a6 a7 a8 a9 a10 w.2.2.2.2.2.2.2.2.2.2.2.1 32 32 w u_1 hu_1) (cwV 3 hts gX7_reads_X7_isByte rfl rfl rfl (by decide +kernel) ⟨(Nat.le_of_ble_eq_true rfl), (Nat.le_of_ble_eq_true rfl)⟩) (va_recv hK hP (ci := 5) (q0 := 0) rfl rfl) rfl hl.1 rfl rfl (Nat.le_of_ble_eq_true rfl) dX7_reads_9 ⟨Nat.zero_le _, Nat.zero_le _⟩ (fun locs hS => ?_)
      refine lv_if_eq (pc := 12) (tgt := 28) hx hb dX7_reads_12 (by decide) (fun c_2 => ?_) (fun c_2 => ?_)
      · have hq := pv_pos c_2 hq
        refine lv_aload_n (pc := 28) hx hb dX7_reads_28 rfl (lv_at hl 0 rfl) ?_
        refine lv_aload_n (pc := 29) hx hb dX7_reads_29 rfl (lv_at hl 0 rfl) ?_
        refine va_get (pc := 30) (D := E.1) (ci := 5) (v := .int w.2.2.2.2.2.2.2.2.2.2.2.1) (C := RX7) (T := TX7) (N := 17) hx hb hts i_RX7 hown hK hP 0 rfl rfl 11 (Nat.le_of_ble_eq_true rfl) fl_170 (fun _ h9 => h9) rfl dX7_reads_30 ?_
        refine va_put (pc := 33) (D := E.1) (ci := 5) (v := .int w.2.2.2.2.2.2.2.2.2.2.2.1) (ty := .int) (C := RX7) (T := TX7) (N := 17) hx hb hts i_RX7 tyX7 tyX7_ok nmX7 hown hK hP (hD w) hS 0 rfl rfl 10 (Nat.le_of_ble_eq_true rfl) fl_167 (fun _ h9 => h9) rfl (tyX7_ok 10 (Nat.le_of_ble_eq_true rfl)) rfl rfl (Nat.le_of_ble_eq_true rfl) dX7_reads_33 (fun H locs hP _ hS => ?_)
        have hP : va_P E.1 vwCl (pv_wM E a0 a1 a2 a3 a4 a5 a6 a7 a8 a9 a10 (w.1, w.2.1, w.2.2.1, w.2.2.2.1, w.2.2.2.2.1, w.2.2.2.2.2.1, w.2.2.2.2.2.2.1, w.2.2.2.2.2.2.2.1, w.2.2.2.2.2.2.2.2.1, w.2.2.2.2.2.2.2.2.2.1, w.2.2.2.2.2.2.2.2.2.2.2.1, w.2.2.2.2.2.2.2.2.2.2.2.1, w.2.2.2.2.2.2.2.2.2.2.2.2.1, w.2.2.2.2.2.2.2.2.2.2.2.2.2.1, w.2.2.2.2.2.2.2.2.2.2.2.2.2.2.1, w.2.2.2.2.2.2.2.2.2.2.2.2.2.2.2.1, w.2.2.2.2.2.2.2.2.2.2.2.2.2.2.2.2)) H := hP
        refine lv_aload_n (pc := 36) hx hb dX7_reads_36 rfl (lv_at hl 0 rfl) ?_
        refine lv_iconst (pc := 37) (v := 0) hx hb dX7_reads_37 (by decide) ?_
        refine va_put (pc := 38) (D := E.1) (ci := 5) (v := .int 0) (ty := .int) (C := RX7) (T := TX7) (N := 17) hx hb hts i_RX7 tyX7 tyX7_ok nmX7 hown hK hP (hD (w.1, w.2.1, w.2.2.1, w.2.2.2.1, w.2.2.2.2.1, w.2.2.2.2.2.1, w.2.2.2.2.2.2.1, w.2.2.2.2.2.2.2.1, w.2.2.2.2.2.2.2.2.1, w.2.2.2.2.2.2.2.2.2.1, w.2.2.2.2.2.2.2.2.2.2.2.1, w.2.2.2.2.2.2.2.2.2.2.2.1, w.2.2.2.2.2.2.2.2.2.2.2.2.1, w.2.2.2.2.2.2.2.2.2.2.2.2.2.1, w.2.2.2.2.2.2.2.2.2.2.2.2.2.2.1, w.2.2.2.2.2.2.2.2.2.2.2.2.2.2.2.1, w.2.2.2.2.2.2.2.2.2.2.2.2.2.2.2.2)) hS 0 rfl rfl 12 (Nat.le_of_ble_eq_true rfl) fl_180 (fun _ h9 => h9) rfl (tyX7_ok 12 (Nat.le_of_ble_eq_true rfl)) rfl rfl (Nat.le_of_ble_eq_true rfl) dX7_reads_38 (fun H locs hP _ hS => ?_)
        have hP : va_P E.1 vwCl (pv_wM E a0 a1 a2 a3 a4 a5 a6 a7 a8 a9 a10 (w.1, w.2.1, w.2.2.1, w.2.2.2.1, w.2.2.2.2.1, w.2.2.2.2.2.1, w.2.2.2.2.2.2.1, w.2.2.2.2.2.2.2.1, w.2.2.2.2.2.2.2.2.1, w.2.2.2.2.2.2.2.2.2.1, w.2.2.2.2.2.2.2.2.2.2.2.1, w.2.2.2.2.2.2.2.2.2.2.2.1, 0, w.2.2.2.2.2.2.2.2.2.2.2.2.2.1, w.2.2.2.2.2.2.2.2.2.2.2.2.2.2.1, w.2.2.2.2.2.2.2.2.2.2.2.2.2.2.2.1, w.2.2.2.2.2.2.2.2.2.2.2.2.2.2.2.2)) H := hP
        refine lv_aload_n (pc := 41) hx hb dX7_reads_41 rfl (lv_at hl 0 rfl) ?_
        refine va_get (pc := 42) (D := E.1) (ci := 5) (v := .int w.2.2.2.2.2.2.2.2.2.2.2.1) (C := RX7) (T := TX7) (N := 17) hx hb hts i_RX7 hown hK hP 0 rfl rfl 11 (Nat.le_of_ble_eq_true rfl) fl_170 (fun _ h9 => h9) rfl dX7_reads_42 ?_
        refine lv_aload_n (pc := 45) hx hb dX7_reads_45 rfl (lv_at hl 0 rfl) ?_
        refine va_get (pc := 46) (D := E.1) (ci := 5) (v := .int w.2.2.2.2.2.2.2.2.1) (C := RX7) (T := TX7) (N := 17) hx hb hts i_RX7 hown hK hP 0 rfl rfl 8 (Nat.le_of_ble_eq_true rfl) fl_160 (fun _ h9 => h9) rfl dX7_reads_46 ?_
        refine lv_icmp_ne (pc := 49) (tgt := 61) hx hb dX7_reads_49 (by decide) (fun c_3 => ?_) (fun c_3 => ?_)
        · have hq := pv_neg c_3 hq
          refine lv_aload_n (pc := 61) hx hb dX7_reads_61 rfl (lv_at hl 0 rfl) ?_
          refine lv_aload_n (pc := 62) hx hb dX7_reads_62 rfl (lv_at hl 0 rfl) ?_
          refine va_get (pc := 63) (D := E.1) (ci := 5) (v := .int w.2.2.2.2.2.2.2.2.2.2.2.1) (C := RX7) (T := TX7) (N := 17) hx hb hts i_RX7 hown hK hP 0 rfl rfl 11 (Nat.le_of_ble_eq_true rfl) fl_170 (fun _ h9 => h9) rfl dX7_reads_63 ?_
          refine lv_bipush (pc := 66) (v := 97) hx hb dX7_reads_66 (by decide) ?_
          refine lv_bipush (pc := 68) (v := 122) hx hb dX7_reads_68 (by decide) ?_
          obtain ⟨u_4, hu_4, hq⟩ := pv_bind hq
          refine pv_vROf (pc := 70) (rest := []) (st1 := [.int u_4]) (ws := pv_wM E a0 a1 a2 a3 a4 a5 a6 a7 a8 a9 a10 (w.1, w.2.1, w.2.2.1, w.2.2.2.1, w.2.2.2.2.1, w.2.2.2.2.2.1, w.2.2.2.2.2.2.1, w.2.2.2.2.2.2.2.1, w.2.2.2.2.2.2.2.2.1, w.2.2.2.2.2.2.2.2.2.1, w.2.2.2.2.2.2.2.2.2.2.2.1, w.2.2.2.2.2.2.2.2.2.2.2.1, 0, w.2.2.2.2.2.2.2.2.2.2.2.2.2.1, w.2.2.2.2.2.2.2.2.2.2.2.2.2.2.1, w.2.2.2.2.2.2.2.2.2.2.2.2.2.2.2.1, w.2.2.2.2.2.2.2.2.2.2.2.2.2.2.2.2)) [.int w.2.2.2.2.2.2.2.2.2.2.2.1, .int 97, .int 122] ⟨hx, hb, hml, hown, hts⟩ hE hA hS hP (hD (w.1, w.2.1, w.2.2.1, w.2.2.2.1, w.2.2.2.2.1, w.2.2.2.2.2.1, w.2.2.2.2.2.2.1, w.2.2.2.2.2.2.2.1, w.2.2.2.2.2.2.2.2.1, w.2.2.2.2.2.2.2.2.2.1, w.2.2.2.2.2.2.2.2.2.2.2.1, w.2.2.2.2.2.2.2.2.2.2.2.1, 0, w.2.2.2.2.2.2.2.2.2.2.2.2.2.1, w.2.2.2.2.2.2.2.2.2.2.2.2.2.2.1, w.2.2.2.2.2.2.2.2.2.2.2.2.2.2.2.1, w.2.2.2.2.2.2.2.2.2.2.2.2.2.2.2.2)) (c_X7_isByte l E a0 a1 a2 a3 a4 a5 a6 a7 a8 a9 a10 w.2.2.2.2.2.2.2.2.2.2.2.1 97 122 (w.1, w.2.1, w.2.2.1, w.2.2.2.1, w.2.2.2.2.1, w.2.2.2.2.2.1, w.2.2.2.2.2.2.1, w.2.2.2.2.2.2.2.1, w.2.2.2.2.2.2.2.2.1, w.2.2.2.2.2.2.2.2.2.1, w.2.2.2.2.2.2.2.2.2.2.2.1, w.2.2.2.2.2.2.2.2.2.2.2.1, 0, w.2.2.2.2.2.2.2.2.2.2.2.2.2.1, w.2.2.2.2.2.2.2.2.2.2.2.2.2.2.1, w.2.2.2.2.2.2.2.2.2.2.2.2.2.2.2.1, w.2.2.2.2.2.2.2.2.2.2.2.2.2.2.2.2) u_4 hu_4) (cwV 3 hts gX7_reads_X7_isByte rfl rfl rfl (by decide +kernel) ⟨(Nat.le_of_ble_eq_true rfl), (Nat.le_of_ble_eq_true rfl)⟩) (va_recv hK hP (ci := 5) (q0 := 0) rfl rfl) rfl hl.1 rfl rfl (Nat.le_of_ble_eq_true rfl) dX7_reads_70 ⟨Nat.zero_le _, Nat.zero_le _⟩ (fun locs hS => ?_)
          refine lv_if_eq (pc := 73) (tgt := 115) hx hb dX7_reads_73 (by decide) (fun c_5 => ?_) (fun c_5 => ?_)
          · have hq := pv_pos c_5 hq
            refine lv_aload_n (pc := 115) hx hb dX7_reads_115 rfl (lv_at hl 0 rfl) ?_
            refine lv_aload_n (pc := 116) hx hb dX7_reads_116 rfl (lv_at hl 0 rfl) ?_
            refine va_get (pc := 117) (D := E.1) (ci := 5) (v := .int w.2.2.2.2.2.2.2.2.2.2.2.1) (C := RX7) (T := TX7) (N := 17) hx hb hts i_RX7 hown hK hP 0 rfl rfl 11 (Nat.le_of_ble_eq_true rfl) fl_170 (fun _ h9 => h9) rfl dX7_reads_117 ?_
            refine lv_bipush (pc := 120) (v := 48) hx hb dX7_reads_120 (by decide) ?_
            refine lv_bipush (pc := 122) (v := 57) hx hb dX7_reads_122 (by decide) ?_
            obtain ⟨u_6, hu_6, hq⟩ := pv_bind hq
            refine pv_vROf (pc := 124) (rest := []) (st1 := [.int u_6]) (ws := pv_wM E a0 a1 a2 a3 a4 a5 a6 a7 a8 a9 a10 (w.1, w.2.1, w.2.2.1, w.2.2.2.1, w.2.2.2.2.1, w.2.2.2.2.2.1, w.2.2.2.2.2.2.1, w.2.2.2.2.2.2.2.1, w.2.2.2.2.2.2.2.2.1, w.2.2.2.2.2.2.2.2.2.1, w.2.2.2.2.2.2.2.2.2.2.2.1, w.2.2.2.2.2.2.2.2.2.2.2.1, 0, w.2.2.2.2.2.2.2.2.2.2.2.2.2.1, w.2.2.2.2.2.2.2.2.2.2.2.2.2.2.1, w.2.2.2.2.2.2.2.2.2.2.2.2.2.2.2.1, w.2.2.2.2.2.2.2.2.2.2.2.2.2.2.2.2)) [.int w.2.2.2.2.2.2.2.2.2.2.2.1, .int 48, .int 57] ⟨hx, hb, hml, hown, hts⟩ hE hA hS hP (hD (w.1, w.2.1, w.2.2.1, w.2.2.2.1, w.2.2.2.2.1, w.2.2.2.2.2.1, w.2.2.2.2.2.2.1, w.2.2.2.2.2.2.2.1, w.2.2.2.2.2.2.2.2.1, w.2.2.2.2.2.2.2.2.2.1, w.2.2.2.2.2.2.2.2.2.2.2.1, w.2.2.2.2.2.2.2.2.2.2.2.1, 0, w.2.2.2.2.2.2.2.2.2.2.2.2.2.1, w.2.2.2.2.2.2.2.2.2.2.2.2.2.2.1, w.2.2.2.2.2.2.2.2.2.2.2.2.2.2.2.1, w.2.2.2.2.2.2.2.2.2.2.2.2.2.2.2.2)) (c_X7_isByte l E a0 a1 a2 a3 a4 a5 a6 a7 a8 a9 a10 w.2.2.2.2.2.2.2.2.2.2.2.1 48 57 (w.1, w.2.1, w.2.2.1, w.2.2.2.1, w.2.2.2.2.1, w.2.2.2.2.2.1, w.2.2.2.2.2.2.1, w.2.2.2.2.2.2.2.1, w.2.2.2.2.2.2.2.2.1, w.2.2.2.2.2.2.2.2.2.1, w.2.2.2.2.2.2.2.2.2.2.2.1, w.2.2.2.2.2.2.2.2.2.2.2.1, 0, w.2.2.2.2.2.2.2.2.2.2.2.2.2.1, w.2.2.2.2.2.2.2.2.2.2.2.2.2.2.1, w.2.2.2.2.2.2.2.2.2.2.2.2.2.2.2.1, w.2.2.2.2.2.2.2.2.2.2.2.2.2.2.2.2) u_6 hu_6) (cwV 3 hts gX7_reads_X7_isByte rfl rfl rfl (by decide +kernel) ⟨(Nat.le_of_ble_eq_true rfl), (Nat.le_of_ble_eq_true rfl)⟩) (va_recv hK hP (ci := 5) (q0 := 0) rfl rfl) rfl hl.1 rfl rfl (Nat.le_of_ble_eq_true rfl) dX7_reads_124 ⟨Nat.zero_le _, Nat.zero_le _⟩ (fun locs hS => ?_)
            refine lv_if_eq (pc := 127) (tgt := 208) hx hb dX7_reads_127 (by decide) (fun c_7 => ?_) (fun c_7 => ?_)
            · have hq := pv_pos c_7 hq
              refine lv_aload_n (pc := 208) hx hb dX7_reads_208 rfl (lv_at hl 0 rfl) ?_
              refine lv_aload_n (pc := 209) hx hb dX7_reads_209 rfl (lv_at hl 0 rfl) ?_
              refine lv_aload_n (pc := 210) hx hb dX7_reads_210 rfl (lv_at hl 0 rfl) ?_
              refine va_get (pc := 211) (D := E.1) (ci := 5) (v := .int w.2.2.2.2.2.2.2.2.2.2.2.1) (C := RX7) (T := TX7) (N := 17) hx hb hts i_RX7 hown hK hP 0 rfl rfl 11 (Nat.le_of_ble_eq_true rfl) fl_170 (fun _ h9 => h9) rfl dX7_reads_211 ?_
              refine lv_bipush (pc := 214) (v := 59) hx hb dX7_reads_214 (by decide) ?_
              refine lv_bipush (pc := 216) (v := 59) hx hb dX7_reads_216 (by decide) ?_
              obtain ⟨u_8, hu_8, hq⟩ := pv_bind hq
              refine pv_vROf (pc := 218) (rest := [.ref a0]) (st1 := [.int u_8, .ref a0]) (ws := pv_wM E a0 a1 a2 a3 a4 a5 a6 a7 a8 a9 a10 (w.1, w.2.1, w.2.2.1, w.2.2.2.1, w.2.2.2.2.1, w.2.2.2.2.2.1, w.2.2.2.2.2.2.1, w.2.2.2.2.2.2.2.1, w.2.2.2.2.2.2.2.2.1, w.2.2.2.2.2.2.2.2.2.1, w.2.2.2.2.2.2.2.2.2.2.2.1, w.2.2.2.2.2.2.2.2.2.2.2.1, 0, w.2.2.2.2.2.2.2.2.2.2.2.2.2.1, w.2.2.2.2.2.2.2.2.2.2.2.2.2.2.1, w.2.2.2.2.2.2.2.2.2.2.2.2.2.2.2.1, w.2.2.2.2.2.2.2.2.2.2.2.2.2.2.2.2)) [.int w.2.2.2.2.2.2.2.2.2.2.2.1, .int 59, .int 59] ⟨hx, hb, hml, hown, hts⟩ hE hA hS hP (hD (w.1, w.2.1, w.2.2.1, w.2.2.2.1, w.2.2.2.2.1, w.2.2.2.2.2.1, w.2.2.2.2.2.2.1, w.2.2.2.2.2.2.2.1, w.2.2.2.2.2.2.2.2.1, w.2.2.2.2.2.2.2.2.2.1, w.2.2.2.2.2.2.2.2.2.2.2.1, w.2.2.2.2.2.2.2.2.2.2.2.1, 0, w.2.2.2.2.2.2.2.2.2.2.2.2.2.1, w.2.2.2.2.2.2.2.2.2.2.2.2.2.2.1, w.2.2.2.2.2.2.2.2.2.2.2.2.2.2.2.1, w.2.2.2.2.2.2.2.2.2.2.2.2.2.2.2.2)) (c_X7_isByte l E a0 a1 a2 a3 a4 a5 a6 a7 a8 a9 a10 w.2.2.2.2.2.2.2.2.2.2.2.1 59 59 (w.1, w.2.1, w.2.2.1, w.2.2.2.1, w.2.2.2.2.1, w.2.2.2.2.2.1, w.2.2.2.2.2.2.1, w.2.2.2.2.2.2.2.1, w.2.2.2.2.2.2.2.2.1, w.2.2.2.2.2.2.2.2.2.1, w.2.2.2.2.2.2.2.2.2.2.2.1, w.2.2.2.2.2.2.2.2.2.2.2.1, 0, w.2.2.2.2.2.2.2.2.2.2.2.2.2.1, w.2.2.2.2.2.2.2.2.2.2.2.2.2.2.1, w.2.2.2.2.2.2.2.2.2.2.2.2.2.2.2.1, w.2.2.2.2.2.2.2.2.2.2.2.2.2.2.2.2) u_8 hu_8) (cwV 3 hts gX7_reads_X7_isByte rfl rfl rfl (by decide +kernel) ⟨(Nat.le_of_ble_eq_true rfl), (Nat.le_of_ble_eq_true rfl)⟩) (va_recv hK hP (ci := 5) (q0 := 0) rfl rfl) rfl hl.1 rfl rfl (Nat.le_of_ble_eq_true rfl) dX7_reads_218 ⟨Nat.zero_le _, Nat.zero_le _⟩ (fun locs hS => ?_)
              refine lv_if_eq (pc := 221) (tgt := 229) hx hb dX7_reads_221 (by decide) (fun c_9 => ?_) (fun c_9 => ?_)
              · have hq := pv_pos c_9 hq
                refine lv_bipush (pc := 229) (v := 23) hx hb dX7_reads_229 (by decide) ?_
                exact B_231 23 (w.1, w.2.1, w.2.2.1, w.2.2.2.1, w.2.2.2.2.1, w.2.2.2.2.2.1, w.2.2.2.2.2.2.1, w.2.2.2.2.2.2.2.1, w.2.2.2.2.2.2.2.2.1, w.2.2.2.2.2.2.2.2.2.1, w.2.2.2.2.2.2.2.2.2.2.2.1, w.2.2.2.2.2.2.2.2.2.2.2.1, 0, w.2.2.2.2.2.2.2.2.2.2.2.2.2.1, w.2.2.2.2.2.2.2.2.2.2.2.2.2.2.1, w.2.2.2.2.2.2.2.2.2.2.2.2.2.2.2.1, w.2.2.2.2.2.2.2.2.2.2.2.2.2.2.2.2) H locs ls hP hS (lv_sub hl [0] rfl) hq
              · have hq := pv_neg c_9 hq
                refine lv_bipush (pc := 224) (v := 21) hx hb dX7_reads_224 (by decide) ?_
                refine lv_goto (pc := 226) (tgt := 231) hx hb dX7_reads_226 (by decide) ?_
                exact B_231 21 (w.1, w.2.1, w.2.2.1, w.2.2.2.1, w.2.2.2.2.1, w.2.2.2.2.2.1, w.2.2.2.2.2.2.1, w.2.2.2.2.2.2.2.1, w.2.2.2.2.2.2.2.2.1, w.2.2.2.2.2.2.2.2.2.1, w.2.2.2.2.2.2.2.2.2.2.2.1, w.2.2.2.2.2.2.2.2.2.2.2.1, 0, w.2.2.2.2.2.2.2.2.2.2.2.2.2.1, w.2.2.2.2.2.2.2.2.2.2.2.2.2.2.1, w.2.2.2.2.2.2.2.2.2.2.2.2.2.2.2.1, w.2.2.2.2.2.2.2.2.2.2.2.2.2.2.2.2) H locs ls hP hS (lv_sub hl [0] rfl) hq
            · have hq := pv_neg c_7 hq
              exact L_130 300 (w.1, w.2.1, w.2.2.1, w.2.2.2.1, w.2.2.2.2.1, w.2.2.2.2.2.1, w.2.2.2.2.2.2.1, w.2.2.2.2.2.2.2.1, w.2.2.2.2.2.2.2.2.1, w.2.2.2.2.2.2.2.2.2.1, w.2.2.2.2.2.2.2.2.2.2.2.1, w.2.2.2.2.2.2.2.2.2.2.2.1, 0, w.2.2.2.2.2.2.2.2.2.2.2.2.2.1, w.2.2.2.2.2.2.2.2.2.2.2.2.2.2.1, w.2.2.2.2.2.2.2.2.2.2.2.2.2.2.2.1, w.2.2.2.2.2.2.2.2.2.2.2.2.2.2.2.2) H locs ls hP hS (lv_sub hl [0] rfl) hq
          · have hq := pv_neg c_5 hq
            exact L_76 300 (w.1, w.2.1, w.2.2.1, w.2.2.2.1, w.2.2.2.2.1, w.2.2.2.2.2.1, w.2.2.2.2.2.2.1, w.2.2.2.2.2.2.2.1, w.2.2.2.2.2.2.2.2.1, w.2.2.2.2.2.2.2.2.2.1, w.2.2.2.2.2.2.2.2.2.2.2.1, w.2.2.2.2.2.2.2.2.2.2.2.1, 0, w.2.2.2.2.2.2.2.2.2.2.2.2.2.1, w.2.2.2.2.2.2.2.2.2.2.2.2.2.2.1, w.2.2.2.2.2.2.2.2.2.2.2.2.2.2.2.1, w.2.2.2.2.2.2.2.2.2.2.2.2.2.2.2.2) H locs ls hP hS (lv_sub hl [0] rfl) hq
        · have hq := pv_pos c_3 hq
          refine lv_aload_n (pc := 52) hx hb dX7_reads_52 rfl (lv_at hl 0 rfl) ?_
          refine lv_bipush (pc := 53) (v := 22) hx hb dX7_reads_53 (by decide) ?_
          refine va_put (pc := 55) (D := E.1) (ci := 5) (v := .int 22) (ty := .int) (C := RX7) (T := TX7) (N := 17) hx hb hts i_RX7 tyX7 tyX7_ok nmX7 hown hK hP (hD (w.1, w.2.1, w.2.2.1, w.2.2.2.1, w.2.2.2.2.1, w.2.2.2.2.2.1, w.2.2.2.2.2.2.1, w.2.2.2.2.2.2.2.1, w.2.2.2.2.2.2.2.2.1, w.2.2.2.2.2.2.2.2.2.1, w.2.2.2.2.2.2.2.2.2.2.2.1, w.2.2.2.2.2.2.2.2.2.2.2.1, 0, w.2.2.2.2.2.2.2.2.2.2.2.2.2.1, w.2.2.2.2.2.2.2.2.2.2.2.2.2.2.1, w.2.2.2.2.2.2.2.2.2.2.2.2.2.2.2.1, w.2.2.2.2.2.2.2.2.2.2.2.2.2.2.2.2)) hS 0 rfl rfl 9 (Nat.le_of_ble_eq_true rfl) fl_183 (fun _ h9 => h9) rfl (tyX7_ok 9 (Nat.le_of_ble_eq_true rfl)) rfl rfl (Nat.le_of_ble_eq_true rfl) dX7_reads_55 (fun H locs hP _ hS => ?_)
          have hP : va_P E.1 vwCl (pv_wM E a0 a1 a2 a3 a4 a5 a6 a7 a8 a9 a10 (w.1, w.2.1, w.2.2.1, w.2.2.2.1, w.2.2.2.2.1, w.2.2.2.2.2.1, w.2.2.2.2.2.2.1, w.2.2.2.2.2.2.2.1, w.2.2.2.2.2.2.2.2.1, 22, w.2.2.2.2.2.2.2.2.2.2.2.1, w.2.2.2.2.2.2.2.2.2.2.2.1, 0, w.2.2.2.2.2.2.2.2.2.2.2.2.2.1, w.2.2.2.2.2.2.2.2.2.2.2.2.2.2.1, w.2.2.2.2.2.2.2.2.2.2.2.2.2.2.2.1, w.2.2.2.2.2.2.2.2.2.2.2.2.2.2.2.2)) H := hP
          refine lv_goto (pc := 58) (tgt := 244) hx hb dX7_reads_58 (by decide) ?_
          exact pv_rvRW (w := fun w : pv_MT => pv_wM E a0 a1 a2 a3 a4 a5 a6 a7 a8 a9 a10 w) hx hb hr hlk hAe hS hP (Option.some.inj hq) dX7_reads_244
      · have hq := pv_neg c_2 hq
        refine lv_aload_n (pc := 15) hx hb dX7_reads_15 rfl (lv_at hl 0 rfl) ?_
        refine lv_dup (pc := 16) hx hb dX7_reads_16 rfl ?_
        refine va_get (pc := 17) (D := E.1) (ci := 5) (v := .int w.2.2.2.2.2.2.2.2.2.2.2.1) (C := RX7) (T := TX7) (N := 17) hx hb hts i_RX7 hown hK hP 0 rfl rfl 11 (Nat.le_of_ble_eq_true rfl) fl_170 (fun _ h9 => h9) rfl dX7_reads_17 ?_
        refine lv_iconst (pc := 20) (v := 1) hx hb dX7_reads_20 (by decide) ?_
        refine lv_iadd (pc := 21) hx hb dX7_reads_21 ?_
        refine va_put (pc := 22) (D := E.1) (ci := 5) (v := .int (w.2.2.2.2.2.2.2.2.2.2.2.1 + 1)) (ty := .int) (C := RX7) (T := TX7) (N := 17) hx hb hts i_RX7 tyX7 tyX7_ok nmX7 hown hK hP (hD w) hS 0 rfl rfl 11 (Nat.le_of_ble_eq_true rfl) fl_170 (fun _ h9 => h9) rfl (tyX7_ok 11 (Nat.le_of_ble_eq_true rfl)) rfl rfl (Nat.le_of_ble_eq_true rfl) dX7_reads_22 (fun H locs hP _ hS => ?_)
        have hP : va_P E.1 vwCl (pv_wM E a0 a1 a2 a3 a4 a5 a6 a7 a8 a9 a10 (w.1, w.2.1, w.2.2.1, w.2.2.2.1, w.2.2.2.2.1, w.2.2.2.2.2.1, w.2.2.2.2.2.2.1, w.2.2.2.2.2.2.2.1, w.2.2.2.2.2.2.2.2.1, w.2.2.2.2.2.2.2.2.2.1, w.2.2.2.2.2.2.2.2.2.2.1, (w.2.2.2.2.2.2.2.2.2.2.2.1 + 1), w.2.2.2.2.2.2.2.2.2.2.2.2.1, w.2.2.2.2.2.2.2.2.2.2.2.2.2.1, w.2.2.2.2.2.2.2.2.2.2.2.2.2.2.1, w.2.2.2.2.2.2.2.2.2.2.2.2.2.2.2.1, w.2.2.2.2.2.2.2.2.2.2.2.2.2.2.2.2)) H := hP
        refine lv_goto (pc := 25) (tgt := 0) hx hb dX7_reads_25 (by decide) ?_
        exact ih (w.1, w.2.1, w.2.2.1, w.2.2.2.1, w.2.2.2.2.1, w.2.2.2.2.2.1, w.2.2.2.2.2.2.1, w.2.2.2.2.2.2.2.1, w.2.2.2.2.2.2.2.2.1, w.2.2.2.2.2.2.2.2.2.1, w.2.2.2.2.2.2.2.2.2.2.1, (w.2.2.2.2.2.2.2.2.2.2.2.1 + 1), w.2.2.2.2.2.2.2.2.2.2.2.2.1, w.2.2.2.2.2.2.2.2.2.2.2.2.2.1, w.2.2.2.2.2.2.2.2.2.2.2.2.2.2.1, w.2.2.2.2.2.2.2.2.2.2.2.2.2.2.2.1, w.2.2.2.2.2.2.2.2.2.2.2.2.2.2.2.2) H locs ls hP hS (lv_sub hl [0] rfl) hq
  suffices M0 : ∀ (H : Heap) (locs : List Loc), va_P E.1 vwCl (pv_wM E a0 a1 a2 a3 a4 a5 a6 a7 a8 a9 a10 w0) H → va_S A s.heap H locs → W p l e r_X7_reads s m args below meth c H locs 0 0 (MQ below (pv_Rw E (pv_wM E a0 a1 a2 a3 a4 a5 a6 a7 a8 a9 a10 w0) sz (none) ((fun w : pv_MT => pv_wM E a0 a1 a2 a3 a4 a5 a6 a7 a8 a9 a10 w) F)) args s 0 0 A) (F0 m 0 ls []) from M0 s.heap [] hP hS
  intro H locs hP hS
  exact L_0 300 w0 H locs ls hP hS (lv_sub hl [0] rfl) hq
def m_X7_passes (x1 : Int32) (w : pv_MT) : Option (Int32 × pv_MT) :=
  if w.2.2.2.2.2.2.2.2.2.2.2.2.2.1 = 0 then (if w.2.2.2.2.2.2.2.2.2.1 = x1 then (Option.bind (m_X7_reads w) fun u_3 => (some (1, u_3))) else (some (0, w))) else (some (0, w))
abbrev r_X7_passes : Room := { frames := 3, cells := 0, slots := 0, locals := 66 }
set_option maxHeartbeats 4000000 in
set_option maxRecDepth 100000 in
theorem c_X7_passes (l : Launch) (E : pv_E) (a0 a1 a2 a3 a4 a5 a6 a7 a8 a9 a10 : Nat) (x1 : Int32) (w0 : pv_MT) (F : Int32 × pv_MT) (hq : m_X7_passes x1 w0 = some F) : pv_RW l E yX7_passes wsX7_passes r_X7_passes (pv_wM E a0 a1 a2 a3 a4 a5 a6 a7 a8 a9 a10 w0) [.ref a0, .int x1] (some (.int F.1)) (pv_wM E a0 a1 a2 a3 a4 a5 a6 a7 a8 a9 a10 F.2) := by
  intro sz
  refine pv_mk (by decide) rfl (Nat.le_of_ble_eq_true rfl) ?_
  intro p e s m args below meth c A hx hb hr hml hown hts hlk hAe hP hD0 hA hE hS ls hl
  have hown : s.vm.findClass RX7 = some m.cls := hown
  have hK := hE.1
  have hD : ∀ w : pv_MT, va_D A (pv_wM E a0 a1 a2 a3 a4 a5 a6 a7 a8 a9 a10 w) := fun w => pv_Dm (ws := pv_wM E a0 a1 a2 a3 a4 a5 a6 a7 a8 a9 a10 w0) (ws' := pv_wM E a0 a1 a2 a3 a4 a5 a6 a7 a8 a9 a10 w) rfl hD0
  have hP : va_P E.1 vwCl (pv_wM E a0 a1 a2 a3 a4 a5 a6 a7 a8 a9 a10 w0) s.heap := hP
  have fl_189 : (Cond.fieldLink RX7 189 "ProvinceCardsModel" "bad" "Z").before args s = true := hts _ (by decide +kernel)
  have fl_183 : (Cond.fieldLink RX7 183 "ProvinceCardsModel" "token" "I").before args s = true := hts _ (by decide +kernel)
  have i_RX7 : ∀ w ∈ wsX70, w ∈ wsX7_passes := by decide +kernel
  have hl : lv_has ls 2 [(0, .ref a0), (1, .int x1)] := hl
  suffices M0 : ∀ (H : Heap) (locs : List Loc), va_P E.1 vwCl (pv_wM E a0 a1 a2 a3 a4 a5 a6 a7 a8 a9 a10 w0) H → va_S A s.heap H locs → W p l e r_X7_passes s m args below meth c H locs 0 0 (MQ below (pv_Rw E (pv_wM E a0 a1 a2 a3 a4 a5 a6 a7 a8 a9 a10 w0) sz (some (.int F.1)) ((fun w : pv_MT => pv_wM E a0 a1 a2 a3 a4 a5 a6 a7 a8 a9 a10 w) F.2)) args s 0 0 A) (F0 m 0 ls []) from M0 s.heap [] hP hS
  intro H locs hP hS
  refine lv_aload_n (pc := 0) hx hb dX7_passes_0 rfl (lv_at hl 0 rfl) ?_
  refine va_get (pc := 1) (D := E.1) (ci := 5) (v := .int w0.2.2.2.2.2.2.2.2.2.2.2.2.2.1) (C := RX7) (T := TX7) (N := 17) hx hb hts i_RX7 hown hK hP 0 rfl rfl 13 (Nat.le_of_ble_eq_true rfl) fl_189 (fun _ h9 => h9) rfl dX7_passes_1 ?_
  refine lv_if_ne (pc := 4) (tgt := 15) hx hb dX7_passes_4 (by decide) (fun c_1 => ?_) (fun c_1 => ?_)
  · have hq := pv_neg c_1 hq
    refine lv_iconst (pc := 15) (v := 0) hx hb dX7_passes_15 (by decide) ?_
    exact pv_rzRW (w := fun w : pv_MT => pv_wM E a0 a1 a2 a3 a4 a5 a6 a7 a8 a9 a10 w) hx hb hr hlk hAe hS hP (Option.some.inj hq) rfl dX7_passes_16
  · have hq := pv_pos c_1 hq
    refine lv_aload_n (pc := 7) hx hb dX7_passes_7 rfl (lv_at hl 0 rfl) ?_
    refine va_get (pc := 8) (D := E.1) (ci := 5) (v := .int w0.2.2.2.2.2.2.2.2.2.1) (C := RX7) (T := TX7) (N := 17) hx hb hts i_RX7 hown hK hP 0 rfl rfl 9 (Nat.le_of_ble_eq_true rfl) fl_183 (fun _ h9 => h9) rfl dX7_passes_8 ?_
    refine lv_iload_n (pc := 11) hx hb dX7_passes_11 rfl (lv_at hl 1 rfl) ?_
    refine lv_icmp_eq (pc := 12) (tgt := 17) hx hb dX7_passes_12 (by decide) (fun c_2 => ?_) (fun c_2 => ?_)
    · have hq := pv_pos c_2 hq
      refine lv_aload_n (pc := 17) hx hb dX7_passes_17 rfl (lv_at hl 0 rfl) ?_
      obtain ⟨u_3, hu_3, hq⟩ := pv_bind hq
      refine pv_vRWf (pc := 18) (rest := []) (st1 := []) (ws := pv_wM E a0 a1 a2 a3 a4 a5 a6 a7 a8 a9 a10 w0) [] ⟨hx, hb, hml, hown, hts⟩ hE hA hS hP (hD w0) (c_X7_reads l E a0 a1 a2 a3 a4 a5 a6 a7 a8 a9 a10 w0 u_3 hu_3) (cwV 0 hts gX7_passes_X7_reads rfl rfl rfl (by decide +kernel) ⟨(Nat.le_of_ble_eq_true rfl), (Nat.le_of_ble_eq_true rfl)⟩) (va_recv hK hP (ci := 5) (q0 := 0) rfl rfl) rfl hl.1 rfl rfl (Nat.le_of_ble_eq_true rfl) dX7_passes_18 ⟨Nat.zero_le _, Nat.zero_le _⟩ (fun H locs hP hS => ?_)
      have hP : va_P E.1 vwCl (pv_wM E a0 a1 a2 a3 a4 a5 a6 a7 a8 a9 a10 u_3) H := hP
      refine lv_iconst (pc := 21) (v := 1) hx hb dX7_passes_21 (by decide) ?_
      exact pv_rzRW (w := fun w : pv_MT => pv_wM E a0 a1 a2 a3 a4 a5 a6 a7 a8 a9 a10 w) hx hb hr hlk hAe hS hP (Option.some.inj hq) rfl dX7_passes_22
    · have hq := pv_neg c_2 hq
      refine lv_iconst (pc := 15) (v := 0) hx hb dX7_passes_15 (by decide) ?_
      exact pv_rzRW (w := fun w : pv_MT => pv_wM E a0 a1 a2 a3 a4 a5 a6 a7 a8 a9 a10 w) hx hb hr hlk hAe hS hP (Option.some.inj hq) rfl dX7_passes_16
def m_X7_number_37 (x3 : Int32) (y1 : Int32) (w : pv_MT) : Option (Int32 × pv_MT) :=
  pv_gz y1 (if y1 = 0 then (Option.bind (m_X7_reads (w.1, w.2.1, w.2.2.1, w.2.2.2.1, w.2.2.2.2.1, w.2.2.2.2.2.1, w.2.2.2.2.2.2.1, w.2.2.2.2.2.2.2.1, w.2.2.2.2.2.2.2.2.1, w.2.2.2.2.2.2.2.2.2.1, w.2.2.2.2.2.2.2.2.2.2.1, w.2.2.2.2.2.2.2.2.2.2.2.1, w.2.2.2.2.2.2.2.2.2.2.2.2.1, y1, w.2.2.2.2.2.2.2.2.2.2.2.2.2.2.1, w.2.2.2.2.2.2.2.2.2.2.2.2.2.2.2.1, w.2.2.2.2.2.2.2.2.2.2.2.2.2.2.2.2)) fun u_4 => (some (x3, u_4))) else (some (x3, (w.1, w.2.1, w.2.2.1, w.2.2.2.1, w.2.2.2.2.1, w.2.2.2.2.2.1, w.2.2.2.2.2.2.1, w.2.2.2.2.2.2.2.1, w.2.2.2.2.2.2.2.2.1, w.2.2.2.2.2.2.2.2.2.1, w.2.2.2.2.2.2.2.2.2.2.1, w.2.2.2.2.2.2.2.2.2.2.2.1, w.2.2.2.2.2.2.2.2.2.2.2.2.1, y1, w.2.2.2.2.2.2.2.2.2.2.2.2.2.2.1, w.2.2.2.2.2.2.2.2.2.2.2.2.2.2.2.1, w.2.2.2.2.2.2.2.2.2.2.2.2.2.2.2.2))))
def m_X7_number_32 (x3 : Int32) (w : pv_MT) : Option (Int32 × pv_MT) :=
  m_X7_number_37 x3 1 w
def m_X7_number (x1 : Int32) (x2 : Int32) (w : pv_MT) : Option (Int32 × pv_MT) :=
  if w.2.2.2.2.2.2.2.2.2.2.2.2.2.1 = 0 then (if w.2.2.2.2.2.2.2.2.2.1 = 20 then (if (m_X7_in w.2.2.2.2.2.2.2.2.2.2.2.2.1.toInt64 x1 x2) = 0 then (m_X7_number_32 w.2.2.2.2.2.2.2.2.2.2.2.2.1 w) else (m_X7_number_37 w.2.2.2.2.2.2.2.2.2.2.2.2.1 0 w)) else (m_X7_number_32 w.2.2.2.2.2.2.2.2.2.2.2.2.1 w)) else (m_X7_number_32 w.2.2.2.2.2.2.2.2.2.2.2.2.1 w)
abbrev r_X7_number : Room := { frames := 3, cells := 0, slots := 0, locals := 66 }
set_option maxHeartbeats 4000000 in
set_option maxRecDepth 100000 in
theorem c_X7_number (l : Launch) (E : pv_E) (a0 a1 a2 a3 a4 a5 a6 a7 a8 a9 a10 : Nat) (x1 : Int32) (x2 : Int32) (w0 : pv_MT) (F : Int32 × pv_MT) (hq : m_X7_number x1 x2 w0 = some F) : pv_RW l E yX7_number wsX7_number r_X7_number (pv_wM E a0 a1 a2 a3 a4 a5 a6 a7 a8 a9 a10 w0) [.ref a0, .int x1, .int x2] (some (.int F.1)) (pv_wM E a0 a1 a2 a3 a4 a5 a6 a7 a8 a9 a10 F.2) := by
  intro sz
  refine pv_mk (by decide) rfl (Nat.le_of_ble_eq_true rfl) ?_
  intro p e s m args below meth c A hx hb hr hml hown hts hlk hAe hP hD0 hA hE hS ls hl
  have hown : s.vm.findClass RX7 = some m.cls := hown
  have hK := hE.1
  have hD : ∀ w : pv_MT, va_D A (pv_wM E a0 a1 a2 a3 a4 a5 a6 a7 a8 a9 a10 w) := fun w => pv_Dm (ws := pv_wM E a0 a1 a2 a3 a4 a5 a6 a7 a8 a9 a10 w0) (ws' := pv_wM E a0 a1 a2 a3 a4 a5 a6 a7 a8 a9 a10 w) rfl hD0
  have hP : va_P E.1 vwCl (pv_wM E a0 a1 a2 a3 a4 a5 a6 a7 a8 a9 a10 w0) s.heap := hP
  have fl_180 : (Cond.fieldLink RX7 180 "ProvinceCardsModel" "value" "I").before args s = true := hts _ (by decide +kernel)
  have fl_189 : (Cond.fieldLink RX7 189 "ProvinceCardsModel" "bad" "Z").before args s = true := hts _ (by decide +kernel)
  have fl_183 : (Cond.fieldLink RX7 183 "ProvinceCardsModel" "token" "I").before args s = true := hts _ (by decide +kernel)
  have i_RX7 : ∀ w ∈ wsX70, w ∈ wsX7_number := by decide +kernel
  have hl : lv_has ls 4 [(0, .ref a0), (1, .int x1), (2, .int x2)] := hl
  have B_37 : ∀ (x3 : Int32) (y1 : Int32) (w : pv_MT) (H : Heap) (locs : List Loc) (ls : Array Slot), va_P E.1 vwCl (pv_wM E a0 a1 a2 a3 a4 a5 a6 a7 a8 a9 a10 w) H → va_S A s.heap H locs → lv_has ls 4 [(0, .ref a0), (3, .int x3)] → m_X7_number_37 x3 y1 w = some F → W p l e r_X7_number s m args below meth c H locs 0 0 (MQ below (pv_Rw E (pv_wM E a0 a1 a2 a3 a4 a5 a6 a7 a8 a9 a10 w0) sz (some (.int F.1)) ((fun w : pv_MT => pv_wM E a0 a1 a2 a3 a4 a5 a6 a7 a8 a9 a10 w) F.2)) args s 0 0 A) (F0 m 37 ls [.int y1, .ref a0]) := by
    intro x3 y1 w H locs ls hP hS hl hq
    obtain ⟨h_2, hq⟩ := pv_gz_some hq
    refine va_put (pc := 37) (D := E.1) (ci := 5) (v := .int y1) (ty := .boolean) (C := RX7) (T := TX7) (N := 17) hx hb hts i_RX7 tyX7 tyX7_ok nmX7 hown hK hP (hD w) hS 0 rfl rfl 13 (Nat.le_of_ble_eq_true rfl) fl_189 (fun _ h9 => h9) rfl (tyX7_ok 13 (Nat.le_of_ble_eq_true rfl)) h_2.1 h_2.2 (Nat.le_of_ble_eq_true rfl) dX7_number_37 (fun H locs hP _ hS => ?_)
    have hP : va_P E.1 vwCl (pv_wM E a0 a1 a2 a3 a4 a5 a6 a7 a8 a9 a10 (w.1, w.2.1, w.2.2.1, w.2.2.2.1, w.2.2.2.2.1, w.2.2.2.2.2.1, w.2.2.2.2.2.2.1, w.2.2.2.2.2.2.2.1, w.2.2.2.2.2.2.2.2.1, w.2.2.2.2.2.2.2.2.2.1, w.2.2.2.2.2.2.2.2.2.2.1, w.2.2.2.2.2.2.2.2.2.2.2.1, w.2.2.2.2.2.2.2.2.2.2.2.2.1, y1, w.2.2.2.2.2.2.2.2.2.2.2.2.2.2.1, w.2.2.2.2.2.2.2.2.2.2.2.2.2.2.2.1, w.2.2.2.2.2.2.2.2.2.2.2.2.2.2.2.2)) H := hP
    refine lv_aload_n (pc := 40) hx hb dX7_number_40 rfl (lv_at hl 0 rfl) ?_
    refine va_get (pc := 41) (D := E.1) (ci := 5) (v := .int y1) (C := RX7) (T := TX7) (N := 17) hx hb hts i_RX7 hown hK hP 0 rfl rfl 13 (Nat.le_of_ble_eq_true rfl) fl_189 (fun _ h9 => h9) rfl dX7_number_41 ?_
    refine lv_if_ne (pc := 44) (tgt := 51) hx hb dX7_number_44 (by decide) (fun c_3 => ?_) (fun c_3 => ?_)
    · have hq := pv_neg c_3 hq
      refine lv_iload_n (pc := 51) hx hb dX7_number_51 rfl (lv_at hl 1 rfl) ?_
      exact pv_riRW (w := fun w : pv_MT => pv_wM E a0 a1 a2 a3 a4 a5 a6 a7 a8 a9 a10 w) hx hb hr hlk hAe hS hP (Option.some.inj hq) dX7_number_52
    · have hq := pv_pos c_3 hq
      refine lv_aload_n (pc := 47) hx hb dX7_number_47 rfl (lv_at hl 0 rfl) ?_
      obtain ⟨u_4, hu_4, hq⟩ := pv_bind hq
      refine pv_vRWf (pc := 48) (rest := []) (st1 := []) (ws := pv_wM E a0 a1 a2 a3 a4 a5 a6 a7 a8 a9 a10 (w.1, w.2.1, w.2.2.1, w.2.2.2.1, w.2.2.2.2.1, w.2.2.2.2.2.1, w.2.2.2.2.2.2.1, w.2.2.2.2.2.2.2.1, w.2.2.2.2.2.2.2.2.1, w.2.2.2.2.2.2.2.2.2.1, w.2.2.2.2.2.2.2.2.2.2.1, w.2.2.2.2.2.2.2.2.2.2.2.1, w.2.2.2.2.2.2.2.2.2.2.2.2.1, y1, w.2.2.2.2.2.2.2.2.2.2.2.2.2.2.1, w.2.2.2.2.2.2.2.2.2.2.2.2.2.2.2.1, w.2.2.2.2.2.2.2.2.2.2.2.2.2.2.2.2)) [] ⟨hx, hb, hml, hown, hts⟩ hE hA hS hP (hD (w.1, w.2.1, w.2.2.1, w.2.2.2.1, w.2.2.2.2.1, w.2.2.2.2.2.1, w.2.2.2.2.2.2.1, w.2.2.2.2.2.2.2.1, w.2.2.2.2.2.2.2.2.1, w.2.2.2.2.2.2.2.2.2.1, w.2.2.2.2.2.2.2.2.2.2.1, w.2.2.2.2.2.2.2.2.2.2.2.1, w.2.2.2.2.2.2.2.2.2.2.2.2.1, y1, w.2.2.2.2.2.2.2.2.2.2.2.2.2.2.1, w.2.2.2.2.2.2.2.2.2.2.2.2.2.2.2.1, w.2.2.2.2.2.2.2.2.2.2.2.2.2.2.2.2)) (c_X7_reads l E a0 a1 a2 a3 a4 a5 a6 a7 a8 a9 a10 (w.1, w.2.1, w.2.2.1, w.2.2.2.1, w.2.2.2.2.1, w.2.2.2.2.2.1, w.2.2.2.2.2.2.1, w.2.2.2.2.2.2.2.1, w.2.2.2.2.2.2.2.2.1, w.2.2.2.2.2.2.2.2.2.1, w.2.2.2.2.2.2.2.2.2.2.1, w.2.2.2.2.2.2.2.2.2.2.2.1, w.2.2.2.2.2.2.2.2.2.2.2.2.1, y1, w.2.2.2.2.2.2.2.2.2.2.2.2.2.2.1, w.2.2.2.2.2.2.2.2.2.2.2.2.2.2.2.1, w.2.2.2.2.2.2.2.2.2.2.2.2.2.2.2.2) u_4 hu_4) (cwV 0 hts gX7_number_X7_reads rfl rfl rfl (by decide +kernel) ⟨(Nat.le_of_ble_eq_true rfl), (Nat.le_of_ble_eq_true rfl)⟩) (va_recv hK hP (ci := 5) (q0 := 0) rfl rfl) rfl hl.1 rfl rfl (Nat.le_of_ble_eq_true rfl) dX7_number_48 ⟨Nat.zero_le _, Nat.zero_le _⟩ (fun H locs hP hS => ?_)
      have hP : va_P E.1 vwCl (pv_wM E a0 a1 a2 a3 a4 a5 a6 a7 a8 a9 a10 u_4) H := hP
      refine lv_iload_n (pc := 51) hx hb dX7_number_51 rfl (lv_at hl 1 rfl) ?_
      exact pv_riRW (w := fun w : pv_MT => pv_wM E a0 a1 a2 a3 a4 a5 a6 a7 a8 a9 a10 w) hx hb hr hlk hAe hS hP (Option.some.inj hq) dX7_number_52
  have B_32 : ∀ (x3 : Int32) (w : pv_MT) (H : Heap) (locs : List Loc) (ls : Array Slot), va_P E.1 vwCl (pv_wM E a0 a1 a2 a3 a4 a5 a6 a7 a8 a9 a10 w) H → va_S A s.heap H locs → lv_has ls 4 [(0, .ref a0), (3, .int x3)] → m_X7_number_32 x3 w = some F → W p l e r_X7_number s m args below meth c H locs 0 0 (MQ below (pv_Rw E (pv_wM E a0 a1 a2 a3 a4 a5 a6 a7 a8 a9 a10 w0) sz (some (.int F.1)) ((fun w : pv_MT => pv_wM E a0 a1 a2 a3 a4 a5 a6 a7 a8 a9 a10 w) F.2)) args s 0 0 A) (F0 m 32 ls [.ref a0]) := by
    intro x3 w H locs ls hP hS hl hq
    refine lv_iconst (pc := 32) (v := 1) hx hb dX7_number_32 (by decide) ?_
    refine lv_goto (pc := 33) (tgt := 37) hx hb dX7_number_33 (by decide) ?_
    exact B_37 x3 1 w H locs ls hP hS (lv_sub hl [0, 1] rfl) hq
  suffices M0 : ∀ (H : Heap) (locs : List Loc), va_P E.1 vwCl (pv_wM E a0 a1 a2 a3 a4 a5 a6 a7 a8 a9 a10 w0) H → va_S A s.heap H locs → W p l e r_X7_number s m args below meth c H locs 0 0 (MQ below (pv_Rw E (pv_wM E a0 a1 a2 a3 a4 a5 a6 a7 a8 a9 a10 w0) sz (some (.int F.1)) ((fun w : pv_MT => pv_wM E a0 a1 a2 a3 a4 a5 a6 a7 a8 a9 a10 w) F.2)) args s 0 0 A) (F0 m 0 ls []) from M0 s.heap [] hP hS
  intro H locs hP hS
  refine lv_aload_n (pc := 0) hx hb dX7_number_0 rfl (lv_at hl 0 rfl) ?_
  refine va_get (pc := 1) (D := E.1) (ci := 5) (v := .int w0.2.2.2.2.2.2.2.2.2.2.2.2.1) (C := RX7) (T := TX7) (N := 17) hx hb hts i_RX7 hown hK hP 0 rfl rfl 12 (Nat.le_of_ble_eq_true rfl) fl_180 (fun _ h9 => h9) rfl dX7_number_1 ?_
  refine lv_istore_n (pc := 4) (lv' := [(3, .int w0.2.2.2.2.2.2.2.2.2.2.2.2.1), (0, .ref a0), (1, .int x1), (2, .int x2)]) hx hb dX7_number_4 rfl hl (Nat.le_of_ble_eq_true rfl) rfl (fun ls hl => ?_)
  refine lv_aload_n (pc := 5) hx hb dX7_number_5 rfl (lv_at hl 1 rfl) ?_
  refine lv_aload_n (pc := 6) hx hb dX7_number_6 rfl (lv_at hl 1 rfl) ?_
  refine va_get (pc := 7) (D := E.1) (ci := 5) (v := .int w0.2.2.2.2.2.2.2.2.2.2.2.2.2.1) (C := RX7) (T := TX7) (N := 17) hx hb hts i_RX7 hown hK hP 0 rfl rfl 13 (Nat.le_of_ble_eq_true rfl) fl_189 (fun _ h9 => h9) rfl dX7_number_7 ?_
  refine lv_if_ne (pc := 10) (tgt := 32) hx hb dX7_number_10 (by decide) (fun c_1 => ?_) (fun c_1 => ?_)
  · have hq := pv_neg c_1 hq
    exact B_32 w0.2.2.2.2.2.2.2.2.2.2.2.2.1 w0 H locs ls hP hS (lv_sub hl [1, 0] rfl) hq
  · have hq := pv_pos c_1 hq
    refine lv_aload_n (pc := 13) hx hb dX7_number_13 rfl (lv_at hl 1 rfl) ?_
    refine va_get (pc := 14) (D := E.1) (ci := 5) (v := .int w0.2.2.2.2.2.2.2.2.2.1) (C := RX7) (T := TX7) (N := 17) hx hb hts i_RX7 hown hK hP 0 rfl rfl 9 (Nat.le_of_ble_eq_true rfl) fl_183 (fun _ h9 => h9) rfl dX7_number_14 ?_
    refine lv_bipush (pc := 17) (v := 20) hx hb dX7_number_17 (by decide) ?_
    refine lv_icmp_ne (pc := 19) (tgt := 32) hx hb dX7_number_19 (by decide) (fun c_5 => ?_) (fun c_5 => ?_)
    · have hq := pv_neg c_5 hq
      exact B_32 w0.2.2.2.2.2.2.2.2.2.2.2.2.1 w0 H locs ls hP hS (lv_sub hl [1, 0] rfl) hq
    · have hq := pv_pos c_5 hq
      refine lv_iload_n (pc := 22) hx hb dX7_number_22 rfl (lv_at hl 0 rfl) ?_
      refine lv_i2l (pc := 23) (v := w0.2.2.2.2.2.2.2.2.2.2.2.2.1.toInt64) hx hb dX7_number_23 rfl ?_
      refine lv_iload_n (pc := 24) hx hb dX7_number_24 rfl (lv_at hl 2 rfl) ?_
      refine lv_iload_n (pc := 25) hx hb dX7_number_25 rfl (lv_at hl 3 rfl) ?_
      refine pv_sRO (pc := 26) (rest := [.ref a0]) (st1 := [.int (m_X7_in w0.2.2.2.2.2.2.2.2.2.2.2.2.1.toInt64 x1 x2), .ref a0]) (ws := pv_wM E a0 a1 a2 a3 a4 a5 a6 a7 a8 a9 a10 w0) [.long w0.2.2.2.2.2.2.2.2.2.2.2.2.1.toInt64, .int x1, .int x2] ⟨hx, hb, hml, hown, hts⟩ hE hA hS hP (hD w0) (c_X7_in l E w0.2.2.2.2.2.2.2.2.2.2.2.2.1.toInt64 x1 x2) (va_cwS 3 hts gX7_number_X7_in rfl rfl rfl (by decide +kernel) ⟨(Nat.le_of_ble_eq_true rfl), (Nat.le_of_ble_eq_true rfl)⟩) [] rfl rfl rfl hl.1 rfl rfl (Nat.le_of_ble_eq_true rfl) dX7_number_26 ⟨Nat.zero_le _, Nat.zero_le _⟩ (fun locs hS => ?_)
      refine lv_if_ne (pc := 29) (tgt := 36) hx hb dX7_number_29 (by decide) (fun c_6 => ?_) (fun c_6 => ?_)
      · have hq := pv_neg c_6 hq
        refine lv_iconst (pc := 36) (v := 0) hx hb dX7_number_36 (by decide) ?_
        exact B_37 w0.2.2.2.2.2.2.2.2.2.2.2.2.1 0 w0 H locs ls hP hS (lv_sub hl [1, 0] rfl) hq
      · have hq := pv_pos c_6 hq
        exact B_32 w0.2.2.2.2.2.2.2.2.2.2.2.2.1 w0 H locs ls hP hS (lv_sub hl [1, 0] rfl) hq
def m_X7_perhaps (x1 : Int32) (x2 : Int32) (x3 : Int32) (x4 : Int32) (w : pv_MT) : Option (Int32 × pv_MT) :=
  Option.bind (m_X7_passes x1 w) fun u_1 => (if u_1.1 = 0 then (some (x4, u_1.2)) else (Option.bind (m_X7_number x2 x3 u_1.2) fun u_3 => (some (u_3.1, u_3.2))))
abbrev r_X7_perhaps : Room := { frames := 4, cells := 0, slots := 0, locals := 89 }
set_option maxHeartbeats 4000000 in
set_option maxRecDepth 100000 in
theorem c_X7_perhaps (l : Launch) (E : pv_E) (a0 a1 a2 a3 a4 a5 a6 a7 a8 a9 a10 : Nat) (x1 : Int32) (x2 : Int32) (x3 : Int32) (x4 : Int32) (w0 : pv_MT) (F : Int32 × pv_MT) (hq : m_X7_perhaps x1 x2 x3 x4 w0 = some F) : pv_RW l E yX7_perhaps wsX7_perhaps r_X7_perhaps (pv_wM E a0 a1 a2 a3 a4 a5 a6 a7 a8 a9 a10 w0) [.ref a0, .int x1, .int x2, .int x3, .int x4] (some (.int F.1)) (pv_wM E a0 a1 a2 a3 a4 a5 a6 a7 a8 a9 a10 F.2) := by
  intro sz
  refine pv_mk (by decide) rfl (Nat.le_of_ble_eq_true rfl) ?_
  intro p e s m args below meth c A hx hb hr hml hown hts hlk hAe hP hD0 hA hE hS ls hl
  have hown : s.vm.findClass RX7 = some m.cls := hown
  have hK := hE.1
  have hD : ∀ w : pv_MT, va_D A (pv_wM E a0 a1 a2 a3 a4 a5 a6 a7 a8 a9 a10 w) := fun w => pv_Dm (ws := pv_wM E a0 a1 a2 a3 a4 a5 a6 a7 a8 a9 a10 w0) (ws' := pv_wM E a0 a1 a2 a3 a4 a5 a6 a7 a8 a9 a10 w) rfl hD0
  have hP : va_P E.1 vwCl (pv_wM E a0 a1 a2 a3 a4 a5 a6 a7 a8 a9 a10 w0) s.heap := hP
  have hl : lv_has ls 5 [(0, .ref a0), (1, .int x1), (2, .int x2), (3, .int x3), (4, .int x4)] := hl
  suffices M0 : ∀ (H : Heap) (locs : List Loc), va_P E.1 vwCl (pv_wM E a0 a1 a2 a3 a4 a5 a6 a7 a8 a9 a10 w0) H → va_S A s.heap H locs → W p l e r_X7_perhaps s m args below meth c H locs 0 0 (MQ below (pv_Rw E (pv_wM E a0 a1 a2 a3 a4 a5 a6 a7 a8 a9 a10 w0) sz (some (.int F.1)) ((fun w : pv_MT => pv_wM E a0 a1 a2 a3 a4 a5 a6 a7 a8 a9 a10 w) F.2)) args s 0 0 A) (F0 m 0 ls []) from M0 s.heap [] hP hS
  intro H locs hP hS
  refine lv_aload_n (pc := 0) hx hb dX7_perhaps_0 rfl (lv_at hl 0 rfl) ?_
  refine lv_iload_n (pc := 1) hx hb dX7_perhaps_1 rfl (lv_at hl 1 rfl) ?_
  obtain ⟨u_1, hu_1, hq⟩ := pv_bind hq
  refine pv_vRWf (pc := 2) (rest := []) (st1 := [.int u_1.1]) (ws := pv_wM E a0 a1 a2 a3 a4 a5 a6 a7 a8 a9 a10 w0) [.int x1] ⟨hx, hb, hml, hown, hts⟩ hE hA hS hP (hD w0) (c_X7_passes l E a0 a1 a2 a3 a4 a5 a6 a7 a8 a9 a10 x1 w0 u_1 hu_1) (cwV 1 hts gX7_perhaps_X7_passes rfl rfl rfl (by decide +kernel) ⟨(Nat.le_of_ble_eq_true rfl), (Nat.le_of_ble_eq_true rfl)⟩) (va_recv hK hP (ci := 5) (q0 := 0) rfl rfl) rfl hl.1 rfl rfl (Nat.le_of_ble_eq_true rfl) dX7_perhaps_2 ⟨Nat.zero_le _, Nat.zero_le _⟩ (fun H locs hP hS => ?_)
  have hP : va_P E.1 vwCl (pv_wM E a0 a1 a2 a3 a4 a5 a6 a7 a8 a9 a10 u_1.2) H := hP
  refine lv_if_eq (pc := 5) (tgt := 17) hx hb dX7_perhaps_5 (by decide) (fun c_2 => ?_) (fun c_2 => ?_)
  · have hq := pv_pos c_2 hq
    refine lv_iload (pc := 17) hx hb dX7_perhaps_17 (lv_at hl 4 rfl) ?_
    exact pv_riRW (w := fun w : pv_MT => pv_wM E a0 a1 a2 a3 a4 a5 a6 a7 a8 a9 a10 w) hx hb hr hlk hAe hS hP (Option.some.inj hq) dX7_perhaps_19
  · have hq := pv_neg c_2 hq
    refine lv_aload_n (pc := 8) hx hb dX7_perhaps_8 rfl (lv_at hl 0 rfl) ?_
    refine lv_iload_n (pc := 9) hx hb dX7_perhaps_9 rfl (lv_at hl 2 rfl) ?_
    refine lv_iload_n (pc := 10) hx hb dX7_perhaps_10 rfl (lv_at hl 3 rfl) ?_
    obtain ⟨u_3, hu_3, hq⟩ := pv_bind hq
    refine pv_vRWf (pc := 11) (rest := []) (st1 := [.int u_3.1]) (ws := pv_wM E a0 a1 a2 a3 a4 a5 a6 a7 a8 a9 a10 u_1.2) [.int x2, .int x3] ⟨hx, hb, hml, hown, hts⟩ hE hA hS hP (hD u_1.2) (c_X7_number l E a0 a1 a2 a3 a4 a5 a6 a7 a8 a9 a10 x2 x3 u_1.2 u_3 hu_3) (cwV 2 hts gX7_perhaps_X7_number rfl rfl rfl (by decide +kernel) ⟨(Nat.le_of_ble_eq_true rfl), (Nat.le_of_ble_eq_true rfl)⟩) (va_recv hK hP (ci := 5) (q0 := 0) rfl rfl) rfl hl.1 rfl rfl (Nat.le_of_ble_eq_true rfl) dX7_perhaps_11 ⟨Nat.zero_le _, Nat.zero_le _⟩ (fun H locs hP hS => ?_)
    have hP : va_P E.1 vwCl (pv_wM E a0 a1 a2 a3 a4 a5 a6 a7 a8 a9 a10 u_3.2) H := hP
    refine lv_goto (pc := 14) (tgt := 19) hx hb dX7_perhaps_14 (by decide) ?_
    exact pv_riRW (w := fun w : pv_MT => pv_wM E a0 a1 a2 a3 a4 a5 a6 a7 a8 a9 a10 w) hx hb hr hlk hAe hS hP (Option.some.inj hq) dX7_perhaps_19
def m_X7_envoyItem_22 (x1 : Int32) (y1 : Int32) (w : pv_MT) : Option (pv_MT) :=
  pv_gz y1 (if y1 = 0 then (Option.bind (m_X7_reads (w.1, w.2.1, w.2.2.1, w.2.2.2.1, w.2.2.2.2.1, w.2.2.2.2.2.1, w.2.2.2.2.2.2.1, w.2.2.2.2.2.2.2.1, w.2.2.2.2.2.2.2.2.1, w.2.2.2.2.2.2.2.2.2.1, w.2.2.2.2.2.2.2.2.2.2.1, w.2.2.2.2.2.2.2.2.2.2.2.1, w.2.2.2.2.2.2.2.2.2.2.2.2.1, y1, w.2.2.2.2.2.2.2.2.2.2.2.2.2.2.1, w.2.2.2.2.2.2.2.2.2.2.2.2.2.2.2.1, w.2.2.2.2.2.2.2.2.2.2.2.2.2.2.2.2)) fun u_4 => (Option.bind (m_X7_perhaps 6 0 1 (-1) u_4) fun u_5 => (if u_5.2.2.2.2.2.2.2.2.2.2.2.2.2.2.1 = 0 then (Option.bind (m_X7_comesAs x1 u_5.2) fun u_7 => (if u_5.1 < 0 then (some u_7.2) else (pv_gd (3 + u_5.1) 31 (some ((upd u_7.2.1 (3 + u_5.1).toNatClampNeg u_7.1), u_7.2.2.1, u_7.2.2.2.1, u_7.2.2.2.2.1, u_7.2.2.2.2.2.1, u_7.2.2.2.2.2.2.1, u_7.2.2.2.2.2.2.2.1, u_7.2.2.2.2.2.2.2.2.1, u_7.2.2.2.2.2.2.2.2.2.1, u_7.2.2.2.2.2.2.2.2.2.2.1, u_7.2.2.2.2.2.2.2.2.2.2.2.1, u_7.2.2.2.2.2.2.2.2.2.2.2.2.1, u_7.2.2.2.2.2.2.2.2.2.2.2.2.2.1, u_7.2.2.2.2.2.2.2.2.2.2.2.2.2.2.1, u_7.2.2.2.2.2.2.2.2.2.2.2.2.2.2.2.1, u_7.2.2.2.2.2.2.2.2.2.2.2.2.2.2.2.2.1, u_7.2.2.2.2.2.2.2.2.2.2.2.2.2.2.2.2.2))))) else (some u_5.2)))) else (some (w.1, w.2.1, w.2.2.1, w.2.2.2.1, w.2.2.2.2.1, w.2.2.2.2.2.1, w.2.2.2.2.2.2.1, w.2.2.2.2.2.2.2.1, w.2.2.2.2.2.2.2.2.1, w.2.2.2.2.2.2.2.2.2.1, w.2.2.2.2.2.2.2.2.2.2.1, w.2.2.2.2.2.2.2.2.2.2.2.1, w.2.2.2.2.2.2.2.2.2.2.2.2.1, y1, w.2.2.2.2.2.2.2.2.2.2.2.2.2.2.1, w.2.2.2.2.2.2.2.2.2.2.2.2.2.2.2.1, w.2.2.2.2.2.2.2.2.2.2.2.2.2.2.2.2)))
def m_X7_envoyItem  (w : pv_MT) : Option (pv_MT) :=
  if (w.1 2) = 8 then (m_X7_envoyItem_22 w.2.2.2.2.2.2.2.2.2.1 1 w) else (m_X7_envoyItem_22 w.2.2.2.2.2.2.2.2.2.1 0 w)
abbrev r_X7_envoyItem : Room := { frames := 5, cells := 0, slots := 0, locals := 113 }
set_option maxHeartbeats 4000000 in
set_option maxRecDepth 100000 in
theorem c_X7_envoyItem (l : Launch) (E : pv_E) (a0 a1 a2 a3 a4 a5 a6 a7 a8 a9 a10 : Nat)  (w0 : pv_MT) (F : pv_MT) (hq : m_X7_envoyItem w0 = some F) : pv_RW l E yX7_envoyItem wsX7_envoyItem r_X7_envoyItem (pv_wM E a0 a1 a2 a3 a4 a5 a6 a7 a8 a9 a10 w0) [.ref a0] (none) (pv_wM E a0 a1 a2 a3 a4 a5 a6 a7 a8 a9 a10 F) := by
  intro sz
  refine pv_mk (by decide) rfl (Nat.le_of_ble_eq_true rfl) ?_
  intro p e s m args below meth c A hx hb hr hml hown hts hlk hAe hP hD0 hA hE hS ls hl
  have hown : s.vm.findClass RX7 = some m.cls := hown
  have hK := hE.1
  have hD : ∀ w : pv_MT, va_D A (pv_wM E a0 a1 a2 a3 a4 a5 a6 a7 a8 a9 a10 w) := fun w => pv_Dm (ws := pv_wM E a0 a1 a2 a3 a4 a5 a6 a7 a8 a9 a10 w0) (ws' := pv_wM E a0 a1 a2 a3 a4 a5 a6 a7 a8 a9 a10 w) rfl hD0
  have hP : va_P E.1 vwCl (pv_wM E a0 a1 a2 a3 a4 a5 a6 a7 a8 a9 a10 w0) s.heap := hP
  have fl_183 : (Cond.fieldLink RX7 183 "ProvinceCardsModel" "token" "I").before args s = true := hts _ (by decide +kernel)
  have fl_9 : (Cond.fieldLink RX7 9 "ProvinceCardsModel" "m" "[I").before args s = true := hts _ (by decide +kernel)
  have fl_189 : (Cond.fieldLink RX7 189 "ProvinceCardsModel" "bad" "Z").before args s = true := hts _ (by decide +kernel)
  have i_RX7 : ∀ w ∈ wsX70, w ∈ wsX7_envoyItem := by decide +kernel
  have hl : lv_has ls 4 [(0, .ref a0)] := hl
  have B_22 : ∀ (x1 : Int32) (y1 : Int32) (w : pv_MT) (H : Heap) (locs : List Loc) (ls : Array Slot), va_P E.1 vwCl (pv_wM E a0 a1 a2 a3 a4 a5 a6 a7 a8 a9 a10 w) H → va_S A s.heap H locs → lv_has ls 4 [(0, .ref a0), (1, .int x1)] → m_X7_envoyItem_22 x1 y1 w = some F → W p l e r_X7_envoyItem s m args below meth c H locs 0 0 (MQ below (pv_Rw E (pv_wM E a0 a1 a2 a3 a4 a5 a6 a7 a8 a9 a10 w0) sz (none) ((fun w : pv_MT => pv_wM E a0 a1 a2 a3 a4 a5 a6 a7 a8 a9 a10 w) F)) args s 0 0 A) (F0 m 22 ls [.int y1, .ref a0]) := by
    intro x1 y1 w H locs ls hP hS hl hq
    obtain ⟨h_2, hq⟩ := pv_gz_some hq
    refine va_put (pc := 22) (D := E.1) (ci := 5) (v := .int y1) (ty := .boolean) (C := RX7) (T := TX7) (N := 17) hx hb hts i_RX7 tyX7 tyX7_ok nmX7 hown hK hP (hD w) hS 0 rfl rfl 13 (Nat.le_of_ble_eq_true rfl) fl_189 (fun _ h9 => h9) rfl (tyX7_ok 13 (Nat.le_of_ble_eq_true rfl)) h_2.1 h_2.2 (Nat.le_of_ble_eq_true rfl) dX7_envoyItem_22 (fun H locs hP _ hS => ?_)
    have hP : va_P E.1 vwCl (pv_wM E a0 a1 a2 a3 a4 a5 a6 a7 a8 a9 a10 (w.1, w.2.1, w.2.2.1, w.2.2.2.1, w.2.2.2.2.1, w.2.2.2.2.2.1, w.2.2.2.2.2.2.1, w.2.2.2.2.2.2.2.1, w.2.2.2.2.2.2.2.2.1, w.2.2.2.2.2.2.2.2.2.1, w.2.2.2.2.2.2.2.2.2.2.1, w.2.2.2.2.2.2.2.2.2.2.2.1, w.2.2.2.2.2.2.2.2.2.2.2.2.1, y1, w.2.2.2.2.2.2.2.2.2.2.2.2.2.2.1, w.2.2.2.2.2.2.2.2.2.2.2.2.2.2.2.1, w.2.2.2.2.2.2.2.2.2.2.2.2.2.2.2.2)) H := hP
    refine lv_aload_n (pc := 25) hx hb dX7_envoyItem_25 rfl (lv_at hl 0 rfl) ?_
    refine va_get (pc := 26) (D := E.1) (ci := 5) (v := .int y1) (C := RX7) (T := TX7) (N := 17) hx hb hts i_RX7 hown hK hP 0 rfl rfl 13 (Nat.le_of_ble_eq_true rfl) fl_189 (fun _ h9 => h9) rfl dX7_envoyItem_26 ?_
    refine lv_if_eq (pc := 29) (tgt := 33) hx hb dX7_envoyItem_29 (by decide) (fun c_3 => ?_) (fun c_3 => ?_)
    · have hq := pv_pos c_3 hq
      refine lv_aload_n (pc := 33) hx hb dX7_envoyItem_33 rfl (lv_at hl 0 rfl) ?_
      obtain ⟨u_4, hu_4, hq⟩ := pv_bind hq
      refine pv_vRWf (pc := 34) (rest := []) (st1 := []) (ws := pv_wM E a0 a1 a2 a3 a4 a5 a6 a7 a8 a9 a10 (w.1, w.2.1, w.2.2.1, w.2.2.2.1, w.2.2.2.2.1, w.2.2.2.2.2.1, w.2.2.2.2.2.2.1, w.2.2.2.2.2.2.2.1, w.2.2.2.2.2.2.2.2.1, w.2.2.2.2.2.2.2.2.2.1, w.2.2.2.2.2.2.2.2.2.2.1, w.2.2.2.2.2.2.2.2.2.2.2.1, w.2.2.2.2.2.2.2.2.2.2.2.2.1, y1, w.2.2.2.2.2.2.2.2.2.2.2.2.2.2.1, w.2.2.2.2.2.2.2.2.2.2.2.2.2.2.2.1, w.2.2.2.2.2.2.2.2.2.2.2.2.2.2.2.2)) [] ⟨hx, hb, hml, hown, hts⟩ hE hA hS hP (hD (w.1, w.2.1, w.2.2.1, w.2.2.2.1, w.2.2.2.2.1, w.2.2.2.2.2.1, w.2.2.2.2.2.2.1, w.2.2.2.2.2.2.2.1, w.2.2.2.2.2.2.2.2.1, w.2.2.2.2.2.2.2.2.2.1, w.2.2.2.2.2.2.2.2.2.2.1, w.2.2.2.2.2.2.2.2.2.2.2.1, w.2.2.2.2.2.2.2.2.2.2.2.2.1, y1, w.2.2.2.2.2.2.2.2.2.2.2.2.2.2.1, w.2.2.2.2.2.2.2.2.2.2.2.2.2.2.2.1, w.2.2.2.2.2.2.2.2.2.2.2.2.2.2.2.2)) (c_X7_reads l E a0 a1 a2 a3 a4 a5 a6 a7 a8 a9 a10 (w.1, w.2.1, w.2.2.1, w.2.2.2.1, w.2.2.2.2.1, w.2.2.2.2.2.1, w.2.2.2.2.2.2.1, w.2.2.2.2.2.2.2.1, w.2.2.2.2.2.2.2.2.1, w.2.2.2.2.2.2.2.2.2.1, w.2.2.2.2.2.2.2.2.2.2.1, w.2.2.2.2.2.2.2.2.2.2.2.1, w.2.2.2.2.2.2.2.2.2.2.2.2.1, y1, w.2.2.2.2.2.2.2.2.2.2.2.2.2.2.1, w.2.2.2.2.2.2.2.2.2.2.2.2.2.2.2.1, w.2.2.2.2.2.2.2.2.2.2.2.2.2.2.2.2) u_4 hu_4) (cwV 0 hts gX7_envoyItem_X7_reads rfl rfl rfl (by decide +kernel) ⟨(Nat.le_of_ble_eq_true rfl), (Nat.le_of_ble_eq_true rfl)⟩) (va_recv hK hP (ci := 5) (q0 := 0) rfl rfl) rfl hl.1 rfl rfl (Nat.le_of_ble_eq_true rfl) dX7_envoyItem_34 ⟨Nat.zero_le _, Nat.zero_le _⟩ (fun H locs hP hS => ?_)
      have hP : va_P E.1 vwCl (pv_wM E a0 a1 a2 a3 a4 a5 a6 a7 a8 a9 a10 u_4) H := hP
      refine lv_aload_n (pc := 37) hx hb dX7_envoyItem_37 rfl (lv_at hl 0 rfl) ?_
      refine lv_bipush (pc := 38) (v := 6) hx hb dX7_envoyItem_38 (by decide) ?_
      refine lv_iconst (pc := 40) (v := 0) hx hb dX7_envoyItem_40 (by decide) ?_
      refine lv_iconst (pc := 41) (v := 1) hx hb dX7_envoyItem_41 (by decide) ?_
      refine lv_iconst (pc := 42) (v := (-1)) hx hb dX7_envoyItem_42 (by decide) ?_
      obtain ⟨u_5, hu_5, hq⟩ := pv_bind hq
      refine pv_vRWf (pc := 43) (rest := []) (st1 := [.int u_5.1]) (ws := pv_wM E a0 a1 a2 a3 a4 a5 a6 a7 a8 a9 a10 u_4) [.int 6, .int 0, .int 1, .int (-1)] ⟨hx, hb, hml, hown, hts⟩ hE hA hS hP (hD u_4) (c_X7_perhaps l E a0 a1 a2 a3 a4 a5 a6 a7 a8 a9 a10 6 0 1 (-1) u_4 u_5 hu_5) (cwV 4 hts gX7_envoyItem_X7_perhaps rfl rfl rfl (by decide +kernel) ⟨(Nat.le_of_ble_eq_true rfl), (Nat.le_of_ble_eq_true rfl)⟩) (va_recv hK hP (ci := 5) (q0 := 0) rfl rfl) rfl hl.1 rfl rfl (Nat.le_of_ble_eq_true rfl) dX7_envoyItem_43 ⟨Nat.zero_le _, Nat.zero_le _⟩ (fun H locs hP hS => ?_)
      have hP : va_P E.1 vwCl (pv_wM E a0 a1 a2 a3 a4 a5 a6 a7 a8 a9 a10 u_5.2) H := hP
      refine lv_istore_n (pc := 46) (lv' := [(2, .int u_5.1), (0, .ref a0), (1, .int x1)]) hx hb dX7_envoyItem_46 rfl hl (Nat.le_of_ble_eq_true rfl) rfl (fun ls hl => ?_)
      refine lv_aload_n (pc := 47) hx hb dX7_envoyItem_47 rfl (lv_at hl 1 rfl) ?_
      refine va_get (pc := 48) (D := E.1) (ci := 5) (v := .int u_5.2.2.2.2.2.2.2.2.2.2.2.2.2.2.1) (C := RX7) (T := TX7) (N := 17) hx hb hts i_RX7 hown hK hP 0 rfl rfl 13 (Nat.le_of_ble_eq_true rfl) fl_189 (fun _ h9 => h9) rfl dX7_envoyItem_48 ?_
      refine lv_if_ne (pc := 51) (tgt := 73) hx hb dX7_envoyItem_51 (by decide) (fun c_6 => ?_) (fun c_6 => ?_)
      · have hq := pv_neg c_6 hq
        exact pv_rvRW (w := fun w : pv_MT => pv_wM E a0 a1 a2 a3 a4 a5 a6 a7 a8 a9 a10 w) hx hb hr hlk hAe hS hP (Option.some.inj hq) dX7_envoyItem_73
      · have hq := pv_pos c_6 hq
        refine lv_aload_n (pc := 54) hx hb dX7_envoyItem_54 rfl (lv_at hl 1 rfl) ?_
        refine lv_iload_n (pc := 55) hx hb dX7_envoyItem_55 rfl (lv_at hl 2 rfl) ?_
        obtain ⟨u_7, hu_7, hq⟩ := pv_bind hq
        refine pv_vRWf (pc := 56) (rest := []) (st1 := [.int u_7.1]) (ws := pv_wM E a0 a1 a2 a3 a4 a5 a6 a7 a8 a9 a10 u_5.2) [.int x1] ⟨hx, hb, hml, hown, hts⟩ hE hA hS hP (hD u_5.2) (c_X7_comesAs l E a0 a1 a2 a3 a4 a5 a6 a7 a8 a9 a10 x1 u_5.2 u_7 hu_7) (cwV 1 hts gX7_envoyItem_X7_comesAs rfl rfl rfl (by decide +kernel) ⟨(Nat.le_of_ble_eq_true rfl), (Nat.le_of_ble_eq_true rfl)⟩) (va_recv hK hP (ci := 5) (q0 := 0) rfl rfl) rfl hl.1 rfl rfl (Nat.le_of_ble_eq_true rfl) dX7_envoyItem_56 ⟨Nat.zero_le _, Nat.zero_le _⟩ (fun H locs hP hS => ?_)
        have hP : va_P E.1 vwCl (pv_wM E a0 a1 a2 a3 a4 a5 a6 a7 a8 a9 a10 u_7.2) H := hP
        refine lv_istore_n (pc := 59) (lv' := [(3, .int u_7.1), (2, .int u_5.1), (0, .ref a0), (1, .int x1)]) hx hb dX7_envoyItem_59 rfl hl (Nat.le_of_ble_eq_true rfl) rfl (fun ls hl => ?_)
        refine lv_iload_n (pc := 60) hx hb dX7_envoyItem_60 rfl (lv_at hl 1 rfl) ?_
        refine lv_if_lt (pc := 61) (tgt := 73) hx hb dX7_envoyItem_61 (by decide) (fun c_8 => ?_) (fun c_8 => ?_)
        · have hq := pv_pos c_8 hq
          exact pv_rvRW (w := fun w : pv_MT => pv_wM E a0 a1 a2 a3 a4 a5 a6 a7 a8 a9 a10 w) hx hb hr hlk hAe hS hP (Option.some.inj hq) dX7_envoyItem_73
        · have hq := pv_neg c_8 hq
          refine lv_aload_n (pc := 64) hx hb dX7_envoyItem_64 rfl (lv_at hl 2 rfl) ?_
          refine va_get (pc := 65) (D := E.1) (ci := 5) (v := .ref a1) (C := RX7) (T := TX7) (N := 17) hx hb hts i_RX7 hown hK hP 0 rfl rfl 0 (Nat.le_of_ble_eq_true rfl) fl_9 (fun _ h9 => h9) rfl dX7_envoyItem_65 ?_
          refine lv_iconst (pc := 68) (v := 3) hx hb dX7_envoyItem_68 (by decide) ?_
          refine lv_iload_n (pc := 69) hx hb dX7_envoyItem_69 rfl (lv_at hl 1 rfl) ?_
          refine lv_iadd (pc := 70) hx hb dX7_envoyItem_70 ?_
          refine lv_iload_n (pc := 71) hx hb dX7_envoyItem_71 rfl (lv_at hl 0 rfl) ?_
          obtain ⟨h_9, hq⟩ := pv_gd_some hq
          refine va_iast (pc := 72) (D := E.1) hx hb hK hP (hD u_7.2) hS 1 0 rfl rfl h_9 dX7_envoyItem_72 (fun H locs hP _ hS => ?_)
          have hP : va_P E.1 vwCl (pv_wM E a0 a1 a2 a3 a4 a5 a6 a7 a8 a9 a10 ((upd u_7.2.1 (3 + u_5.1).toNatClampNeg u_7.1), u_7.2.2.1, u_7.2.2.2.1, u_7.2.2.2.2.1, u_7.2.2.2.2.2.1, u_7.2.2.2.2.2.2.1, u_7.2.2.2.2.2.2.2.1, u_7.2.2.2.2.2.2.2.2.1, u_7.2.2.2.2.2.2.2.2.2.1, u_7.2.2.2.2.2.2.2.2.2.2.1, u_7.2.2.2.2.2.2.2.2.2.2.2.1, u_7.2.2.2.2.2.2.2.2.2.2.2.2.1, u_7.2.2.2.2.2.2.2.2.2.2.2.2.2.1, u_7.2.2.2.2.2.2.2.2.2.2.2.2.2.2.1, u_7.2.2.2.2.2.2.2.2.2.2.2.2.2.2.2.1, u_7.2.2.2.2.2.2.2.2.2.2.2.2.2.2.2.2.1, u_7.2.2.2.2.2.2.2.2.2.2.2.2.2.2.2.2.2)) H := hP
          exact pv_rvRW (w := fun w : pv_MT => pv_wM E a0 a1 a2 a3 a4 a5 a6 a7 a8 a9 a10 w) hx hb hr hlk hAe hS hP (Option.some.inj hq) dX7_envoyItem_73
    · have hq := pv_neg c_3 hq
      exact pv_rvRW (w := fun w : pv_MT => pv_wM E a0 a1 a2 a3 a4 a5 a6 a7 a8 a9 a10 w) hx hb hr hlk hAe hS hP (Option.some.inj hq) dX7_envoyItem_32
  suffices M0 : ∀ (H : Heap) (locs : List Loc), va_P E.1 vwCl (pv_wM E a0 a1 a2 a3 a4 a5 a6 a7 a8 a9 a10 w0) H → va_S A s.heap H locs → W p l e r_X7_envoyItem s m args below meth c H locs 0 0 (MQ below (pv_Rw E (pv_wM E a0 a1 a2 a3 a4 a5 a6 a7 a8 a9 a10 w0) sz (none) ((fun w : pv_MT => pv_wM E a0 a1 a2 a3 a4 a5 a6 a7 a8 a9 a10 w) F)) args s 0 0 A) (F0 m 0 ls []) from M0 s.heap [] hP hS
  intro H locs hP hS
  refine lv_aload_n (pc := 0) hx hb dX7_envoyItem_0 rfl (lv_at hl 0 rfl) ?_
  refine va_get (pc := 1) (D := E.1) (ci := 5) (v := .int w0.2.2.2.2.2.2.2.2.2.1) (C := RX7) (T := TX7) (N := 17) hx hb hts i_RX7 hown hK hP 0 rfl rfl 9 (Nat.le_of_ble_eq_true rfl) fl_183 (fun _ h9 => h9) rfl dX7_envoyItem_1 ?_
  refine lv_istore_n (pc := 4) (lv' := [(1, .int w0.2.2.2.2.2.2.2.2.2.1), (0, .ref a0)]) hx hb dX7_envoyItem_4 rfl hl (Nat.le_of_ble_eq_true rfl) rfl (fun ls hl => ?_)
  refine lv_aload_n (pc := 5) hx hb dX7_envoyItem_5 rfl (lv_at hl 1 rfl) ?_
  refine lv_aload_n (pc := 6) hx hb dX7_envoyItem_6 rfl (lv_at hl 1 rfl) ?_
  refine va_get (pc := 7) (D := E.1) (ci := 5) (v := .ref a1) (C := RX7) (T := TX7) (N := 17) hx hb hts i_RX7 hown hK hP 0 rfl rfl 0 (Nat.le_of_ble_eq_true rfl) fl_9 (fun _ h9 => h9) rfl dX7_envoyItem_7 ?_
  refine lv_iconst (pc := 10) (v := 2) hx hb dX7_envoyItem_10 (by decide) ?_
  refine va_iald (pc := 11) (D := E.1) hx hb hK hP 1 0 rfl rfl (by decide : ¬ ((2 : Int32) < 0 ∨ 31 ≤ (2 : Int32).toNatClampNeg)) dX7_envoyItem_11 ?_
  refine W.eq (g2 := F0 m 12 ls [.int (w0.1 2), .ref a0]) rfl ?_
  refine lv_bipush (pc := 12) (v := 8) hx hb dX7_envoyItem_12 (by decide) ?_
  refine lv_icmp_ne (pc := 14) (tgt := 21) hx hb dX7_envoyItem_14 (by decide) (fun c_1 => ?_) (fun c_1 => ?_)
  · have hq := pv_neg c_1 hq
    refine lv_iconst (pc := 21) (v := 0) hx hb dX7_envoyItem_21 (by decide) ?_
    exact B_22 w0.2.2.2.2.2.2.2.2.2.1 0 w0 H locs ls hP hS (lv_sub hl [1, 0] rfl) hq
  · have hq := pv_pos c_1 hq
    refine lv_iconst (pc := 17) (v := 1) hx hb dX7_envoyItem_17 (by decide) ?_
    refine lv_goto (pc := 18) (tgt := 22) hx hb dX7_envoyItem_18 (by decide) ?_
    exact B_22 w0.2.2.2.2.2.2.2.2.2.1 1 w0 H locs ls hP hS (lv_sub hl [1, 0] rfl) hq
def m_X7_mixItem_25 (y1 : Int32) (w : pv_MT) : Option (pv_MT) :=
  pv_gz y1 (Option.bind (m_X7_number 1 31 (w.1, w.2.1, w.2.2.1, w.2.2.2.1, w.2.2.2.2.1, w.2.2.2.2.2.1, w.2.2.2.2.2.2.1, w.2.2.2.2.2.2.2.1, w.2.2.2.2.2.2.2.2.1, w.2.2.2.2.2.2.2.2.2.1, w.2.2.2.2.2.2.2.2.2.2.1, w.2.2.2.2.2.2.2.2.2.2.2.1, w.2.2.2.2.2.2.2.2.2.2.2.2.1, y1, w.2.2.2.2.2.2.2.2.2.2.2.2.2.2.1, w.2.2.2.2.2.2.2.2.2.2.2.2.2.2.2.1, w.2.2.2.2.2.2.2.2.2.2.2.2.2.2.2.2)) fun u_3 => (if u_3.2.2.2.2.2.2.2.2.2.2.2.2.2.2.1 = 0 then (some ((upd u_3.2.1 1 u_3.1), u_3.2.2.1, u_3.2.2.2.1, u_3.2.2.2.2.1, u_3.2.2.2.2.2.1, u_3.2.2.2.2.2.2.1, u_3.2.2.2.2.2.2.2.1, u_3.2.2.2.2.2.2.2.2.1, u_3.2.2.2.2.2.2.2.2.2.1, u_3.2.2.2.2.2.2.2.2.2.2.1, u_3.2.2.2.2.2.2.2.2.2.2.2.1, u_3.2.2.2.2.2.2.2.2.2.2.2.2.1, u_3.2.2.2.2.2.2.2.2.2.2.2.2.2.1, u_3.2.2.2.2.2.2.2.2.2.2.2.2.2.2.1, u_3.2.2.2.2.2.2.2.2.2.2.2.2.2.2.2.1, u_3.2.2.2.2.2.2.2.2.2.2.2.2.2.2.2.2.1, u_3.2.2.2.2.2.2.2.2.2.2.2.2.2.2.2.2.2)) else (some u_3.2)))
def m_X7_mixItem_20  (w : pv_MT) : Option (pv_MT) :=
  m_X7_mixItem_25 1 w
def m_X7_mixItem  (w : pv_MT) : Option (pv_MT) :=
  if w.2.2.2.2.2.2.2.2.2.1 = 20 then (if (m_X7_isMix w.2.2.2.2.2.2.2.2.2.2.2.2.1) = 0 then (m_X7_mixItem_20 w) else (m_X7_mixItem_25 0 w)) else (m_X7_mixItem_20 w)
abbrev r_X7_mixItem : Room := { frames := 4, cells := 0, slots := 0, locals := 89 }
set_option maxHeartbeats 4000000 in
set_option maxRecDepth 100000 in
theorem c_X7_mixItem (l : Launch) (E : pv_E) (a0 a1 a2 a3 a4 a5 a6 a7 a8 a9 a10 : Nat)  (w0 : pv_MT) (F : pv_MT) (hq : m_X7_mixItem w0 = some F) : pv_RW l E yX7_mixItem wsX7_mixItem r_X7_mixItem (pv_wM E a0 a1 a2 a3 a4 a5 a6 a7 a8 a9 a10 w0) [.ref a0] (none) (pv_wM E a0 a1 a2 a3 a4 a5 a6 a7 a8 a9 a10 F) := by
  intro sz
  refine pv_mk (by decide) rfl (Nat.le_of_ble_eq_true rfl) ?_
  intro p e s m args below meth c A hx hb hr hml hown hts hlk hAe hP hD0 hA hE hS ls hl
  have hown : s.vm.findClass RX7 = some m.cls := hown
  have hK := hE.1
  have hD : ∀ w : pv_MT, va_D A (pv_wM E a0 a1 a2 a3 a4 a5 a6 a7 a8 a9 a10 w) := fun w => pv_Dm (ws := pv_wM E a0 a1 a2 a3 a4 a5 a6 a7 a8 a9 a10 w0) (ws' := pv_wM E a0 a1 a2 a3 a4 a5 a6 a7 a8 a9 a10 w) rfl hD0
  have hP : va_P E.1 vwCl (pv_wM E a0 a1 a2 a3 a4 a5 a6 a7 a8 a9 a10 w0) s.heap := hP
  have fl_183 : (Cond.fieldLink RX7 183 "ProvinceCardsModel" "token" "I").before args s = true := hts _ (by decide +kernel)
  have fl_189 : (Cond.fieldLink RX7 189 "ProvinceCardsModel" "bad" "Z").before args s = true := hts _ (by decide +kernel)
  have fl_9 : (Cond.fieldLink RX7 9 "ProvinceCardsModel" "m" "[I").before args s = true := hts _ (by decide +kernel)
  have fl_180 : (Cond.fieldLink RX7 180 "ProvinceCardsModel" "value" "I").before args s = true := hts _ (by decide +kernel)
  have i_RX7 : ∀ w ∈ wsX70, w ∈ wsX7_mixItem := by decide +kernel
  have hl : lv_has ls 2 [(0, .ref a0)] := hl
  have B_25 : ∀ (y1 : Int32) (w : pv_MT) (H : Heap) (locs : List Loc) (ls : Array Slot), va_P E.1 vwCl (pv_wM E a0 a1 a2 a3 a4 a5 a6 a7 a8 a9 a10 w) H → va_S A s.heap H locs → lv_has ls 2 [(0, .ref a0)] → m_X7_mixItem_25 y1 w = some F → W p l e r_X7_mixItem s m args below meth c H locs 0 0 (MQ below (pv_Rw E (pv_wM E a0 a1 a2 a3 a4 a5 a6 a7 a8 a9 a10 w0) sz (none) ((fun w : pv_MT => pv_wM E a0 a1 a2 a3 a4 a5 a6 a7 a8 a9 a10 w) F)) args s 0 0 A) (F0 m 25 ls [.int y1, .ref a0]) := by
    intro y1 w H locs ls hP hS hl hq
    obtain ⟨h_2, hq⟩ := pv_gz_some hq
    refine va_put (pc := 25) (D := E.1) (ci := 5) (v := .int y1) (ty := .boolean) (C := RX7) (T := TX7) (N := 17) hx hb hts i_RX7 tyX7 tyX7_ok nmX7 hown hK hP (hD w) hS 0 rfl rfl 13 (Nat.le_of_ble_eq_true rfl) fl_189 (fun _ h9 => h9) rfl (tyX7_ok 13 (Nat.le_of_ble_eq_true rfl)) h_2.1 h_2.2 (Nat.le_of_ble_eq_true rfl) dX7_mixItem_25 (fun H locs hP _ hS => ?_)
    have hP : va_P E.1 vwCl (pv_wM E a0 a1 a2 a3 a4 a5 a6 a7 a8 a9 a10 (w.1, w.2.1, w.2.2.1, w.2.2.2.1, w.2.2.2.2.1, w.2.2.2.2.2.1, w.2.2.2.2.2.2.1, w.2.2.2.2.2.2.2.1, w.2.2.2.2.2.2.2.2.1, w.2.2.2.2.2.2.2.2.2.1, w.2.2.2.2.2.2.2.2.2.2.1, w.2.2.2.2.2.2.2.2.2.2.2.1, w.2.2.2.2.2.2.2.2.2.2.2.2.1, y1, w.2.2.2.2.2.2.2.2.2.2.2.2.2.2.1, w.2.2.2.2.2.2.2.2.2.2.2.2.2.2.2.1, w.2.2.2.2.2.2.2.2.2.2.2.2.2.2.2.2)) H := hP
    refine lv_aload_n (pc := 28) hx hb dX7_mixItem_28 rfl (lv_at hl 0 rfl) ?_
    refine lv_iconst (pc := 29) (v := 1) hx hb dX7_mixItem_29 (by decide) ?_
    refine lv_bipush (pc := 30) (v := 31) hx hb dX7_mixItem_30 (by decide) ?_
    obtain ⟨u_3, hu_3, hq⟩ := pv_bind hq
    refine pv_vRWf (pc := 32) (rest := []) (st1 := [.int u_3.1]) (ws := pv_wM E a0 a1 a2 a3 a4 a5 a6 a7 a8 a9 a10 (w.1, w.2.1, w.2.2.1, w.2.2.2.1, w.2.2.2.2.1, w.2.2.2.2.2.1, w.2.2.2.2.2.2.1, w.2.2.2.2.2.2.2.1, w.2.2.2.2.2.2.2.2.1, w.2.2.2.2.2.2.2.2.2.1, w.2.2.2.2.2.2.2.2.2.2.1, w.2.2.2.2.2.2.2.2.2.2.2.1, w.2.2.2.2.2.2.2.2.2.2.2.2.1, y1, w.2.2.2.2.2.2.2.2.2.2.2.2.2.2.1, w.2.2.2.2.2.2.2.2.2.2.2.2.2.2.2.1, w.2.2.2.2.2.2.2.2.2.2.2.2.2.2.2.2)) [.int 1, .int 31] ⟨hx, hb, hml, hown, hts⟩ hE hA hS hP (hD (w.1, w.2.1, w.2.2.1, w.2.2.2.1, w.2.2.2.2.1, w.2.2.2.2.2.1, w.2.2.2.2.2.2.1, w.2.2.2.2.2.2.2.1, w.2.2.2.2.2.2.2.2.1, w.2.2.2.2.2.2.2.2.2.1, w.2.2.2.2.2.2.2.2.2.2.1, w.2.2.2.2.2.2.2.2.2.2.2.1, w.2.2.2.2.2.2.2.2.2.2.2.2.1, y1, w.2.2.2.2.2.2.2.2.2.2.2.2.2.2.1, w.2.2.2.2.2.2.2.2.2.2.2.2.2.2.2.1, w.2.2.2.2.2.2.2.2.2.2.2.2.2.2.2.2)) (c_X7_number l E a0 a1 a2 a3 a4 a5 a6 a7 a8 a9 a10 1 31 (w.1, w.2.1, w.2.2.1, w.2.2.2.1, w.2.2.2.2.1, w.2.2.2.2.2.1, w.2.2.2.2.2.2.1, w.2.2.2.2.2.2.2.1, w.2.2.2.2.2.2.2.2.1, w.2.2.2.2.2.2.2.2.2.1, w.2.2.2.2.2.2.2.2.2.2.1, w.2.2.2.2.2.2.2.2.2.2.2.1, w.2.2.2.2.2.2.2.2.2.2.2.2.1, y1, w.2.2.2.2.2.2.2.2.2.2.2.2.2.2.1, w.2.2.2.2.2.2.2.2.2.2.2.2.2.2.2.1, w.2.2.2.2.2.2.2.2.2.2.2.2.2.2.2.2) u_3 hu_3) (cwV 2 hts gX7_mixItem_X7_number rfl rfl rfl (by decide +kernel) ⟨(Nat.le_of_ble_eq_true rfl), (Nat.le_of_ble_eq_true rfl)⟩) (va_recv hK hP (ci := 5) (q0 := 0) rfl rfl) rfl hl.1 rfl rfl (Nat.le_of_ble_eq_true rfl) dX7_mixItem_32 ⟨Nat.zero_le _, Nat.zero_le _⟩ (fun H locs hP hS => ?_)
    have hP : va_P E.1 vwCl (pv_wM E a0 a1 a2 a3 a4 a5 a6 a7 a8 a9 a10 u_3.2) H := hP
    refine lv_istore_n (pc := 35) (lv' := [(1, .int u_3.1), (0, .ref a0)]) hx hb dX7_mixItem_35 rfl hl (Nat.le_of_ble_eq_true rfl) rfl (fun ls hl => ?_)
    refine lv_aload_n (pc := 36) hx hb dX7_mixItem_36 rfl (lv_at hl 1 rfl) ?_
    refine va_get (pc := 37) (D := E.1) (ci := 5) (v := .int u_3.2.2.2.2.2.2.2.2.2.2.2.2.2.2.1) (C := RX7) (T := TX7) (N := 17) hx hb hts i_RX7 hown hK hP 0 rfl rfl 13 (Nat.le_of_ble_eq_true rfl) fl_189 (fun _ h9 => h9) rfl dX7_mixItem_37 ?_
    refine lv_if_ne (pc := 40) (tgt := 50) hx hb dX7_mixItem_40 (by decide) (fun c_4 => ?_) (fun c_4 => ?_)
    · have hq := pv_neg c_4 hq
      exact pv_rvRW (w := fun w : pv_MT => pv_wM E a0 a1 a2 a3 a4 a5 a6 a7 a8 a9 a10 w) hx hb hr hlk hAe hS hP (Option.some.inj hq) dX7_mixItem_50
    · have hq := pv_pos c_4 hq
      refine lv_aload_n (pc := 43) hx hb dX7_mixItem_43 rfl (lv_at hl 1 rfl) ?_
      refine va_get (pc := 44) (D := E.1) (ci := 5) (v := .ref a1) (C := RX7) (T := TX7) (N := 17) hx hb hts i_RX7 hown hK hP 0 rfl rfl 0 (Nat.le_of_ble_eq_true rfl) fl_9 (fun _ h9 => h9) rfl dX7_mixItem_44 ?_
      refine lv_iconst (pc := 47) (v := 1) hx hb dX7_mixItem_47 (by decide) ?_
      refine lv_iload_n (pc := 48) hx hb dX7_mixItem_48 rfl (lv_at hl 0 rfl) ?_
      refine va_iast (pc := 49) (D := E.1) hx hb hK hP (hD u_3.2) hS 1 0 rfl rfl (by decide : ¬ ((1 : Int32) < 0 ∨ 31 ≤ (1 : Int32).toNatClampNeg)) dX7_mixItem_49 (fun H locs hP _ hS => ?_)
      have hP : va_P E.1 vwCl (pv_wM E a0 a1 a2 a3 a4 a5 a6 a7 a8 a9 a10 ((upd u_3.2.1 1 u_3.1), u_3.2.2.1, u_3.2.2.2.1, u_3.2.2.2.2.1, u_3.2.2.2.2.2.1, u_3.2.2.2.2.2.2.1, u_3.2.2.2.2.2.2.2.1, u_3.2.2.2.2.2.2.2.2.1, u_3.2.2.2.2.2.2.2.2.2.1, u_3.2.2.2.2.2.2.2.2.2.2.1, u_3.2.2.2.2.2.2.2.2.2.2.2.1, u_3.2.2.2.2.2.2.2.2.2.2.2.2.1, u_3.2.2.2.2.2.2.2.2.2.2.2.2.2.1, u_3.2.2.2.2.2.2.2.2.2.2.2.2.2.2.1, u_3.2.2.2.2.2.2.2.2.2.2.2.2.2.2.2.1, u_3.2.2.2.2.2.2.2.2.2.2.2.2.2.2.2.2.1, u_3.2.2.2.2.2.2.2.2.2.2.2.2.2.2.2.2.2)) H := hP
      exact pv_rvRW (w := fun w : pv_MT => pv_wM E a0 a1 a2 a3 a4 a5 a6 a7 a8 a9 a10 w) hx hb hr hlk hAe hS hP (Option.some.inj hq) dX7_mixItem_50
  have B_20 : ∀  (w : pv_MT) (H : Heap) (locs : List Loc) (ls : Array Slot), va_P E.1 vwCl (pv_wM E a0 a1 a2 a3 a4 a5 a6 a7 a8 a9 a10 w) H → va_S A s.heap H locs → lv_has ls 2 [(0, .ref a0)] → m_X7_mixItem_20 w = some F → W p l e r_X7_mixItem s m args below meth c H locs 0 0 (MQ below (pv_Rw E (pv_wM E a0 a1 a2 a3 a4 a5 a6 a7 a8 a9 a10 w0) sz (none) ((fun w : pv_MT => pv_wM E a0 a1 a2 a3 a4 a5 a6 a7 a8 a9 a10 w) F)) args s 0 0 A) (F0 m 20 ls [.ref a0]) := by
    intro w H locs ls hP hS hl hq
    refine lv_iconst (pc := 20) (v := 1) hx hb dX7_mixItem_20 (by decide) ?_
    refine lv_goto (pc := 21) (tgt := 25) hx hb dX7_mixItem_21 (by decide) ?_
    exact B_25 1 w H locs ls hP hS (lv_sub hl [0] rfl) hq
  suffices M0 : ∀ (H : Heap) (locs : List Loc), va_P E.1 vwCl (pv_wM E a0 a1 a2 a3 a4 a5 a6 a7 a8 a9 a10 w0) H → va_S A s.heap H locs → W p l e r_X7_mixItem s m args below meth c H locs 0 0 (MQ below (pv_Rw E (pv_wM E a0 a1 a2 a3 a4 a5 a6 a7 a8 a9 a10 w0) sz (none) ((fun w : pv_MT => pv_wM E a0 a1 a2 a3 a4 a5 a6 a7 a8 a9 a10 w) F)) args s 0 0 A) (F0 m 0 ls []) from M0 s.heap [] hP hS
  intro H locs hP hS
  refine lv_aload_n (pc := 0) hx hb dX7_mixItem_0 rfl (lv_at hl 0 rfl) ?_
  refine lv_aload_n (pc := 1) hx hb dX7_mixItem_1 rfl (lv_at hl 0 rfl) ?_
  refine va_get (pc := 2) (D := E.1) (ci := 5) (v := .int w0.2.2.2.2.2.2.2.2.2.1) (C := RX7) (T := TX7) (N := 17) hx hb hts i_RX7 hown hK hP 0 rfl rfl 9 (Nat.le_of_ble_eq_true rfl) fl_183 (fun _ h9 => h9) rfl dX7_mixItem_2 ?_
  refine lv_bipush (pc := 5) (v := 20) hx hb dX7_mixItem_5 (by decide) ?_
  refine lv_icmp_ne (pc := 7) (tgt := 20) hx hb dX7_mixItem_7 (by decide) (fun c_1 => ?_) (fun c_1 => ?_)
  · have hq := pv_neg c_1 hq
    exact B_20 w0 H locs ls hP hS (lv_sub hl [0] rfl) hq
  · have hq := pv_pos c_1 hq
    refine lv_aload_n (pc := 10) hx hb dX7_mixItem_10 rfl (lv_at hl 0 rfl) ?_
    refine va_get (pc := 11) (D := E.1) (ci := 5) (v := .int w0.2.2.2.2.2.2.2.2.2.2.2.2.1) (C := RX7) (T := TX7) (N := 17) hx hb hts i_RX7 hown hK hP 0 rfl rfl 12 (Nat.le_of_ble_eq_true rfl) fl_180 (fun _ h9 => h9) rfl dX7_mixItem_11 ?_
    refine pv_sRO (pc := 14) (rest := [.ref a0]) (st1 := [.int (m_X7_isMix w0.2.2.2.2.2.2.2.2.2.2.2.2.1), .ref a0]) (ws := pv_wM E a0 a1 a2 a3 a4 a5 a6 a7 a8 a9 a10 w0) [.int w0.2.2.2.2.2.2.2.2.2.2.2.2.1] ⟨hx, hb, hml, hown, hts⟩ hE hA hS hP (hD w0) (c_X7_isMix l E w0.2.2.2.2.2.2.2.2.2.2.2.2.1) (va_cwS 1 hts gX7_mixItem_X7_isMix rfl rfl rfl (by decide +kernel) ⟨(Nat.le_of_ble_eq_true rfl), (Nat.le_of_ble_eq_true rfl)⟩) [] rfl rfl rfl hl.1 rfl rfl (Nat.le_of_ble_eq_true rfl) dX7_mixItem_14 ⟨Nat.zero_le _, Nat.zero_le _⟩ (fun locs hS => ?_)
    refine lv_if_ne (pc := 17) (tgt := 24) hx hb dX7_mixItem_17 (by decide) (fun c_5 => ?_) (fun c_5 => ?_)
    · have hq := pv_neg c_5 hq
      refine lv_iconst (pc := 24) (v := 0) hx hb dX7_mixItem_24 (by decide) ?_
      exact B_25 0 w0 H locs ls hP hS (lv_sub hl [0] rfl) hq
    · have hq := pv_pos c_5 hq
      exact B_20 w0 H locs ls hP hS (lv_sub hl [0] rfl) hq
def m_X7_landItem_27 (x1 : Int32) (y0 : Int32) (w : pv_MT) : Option (pv_MT) :=
  if w.2.2.2.2.2.2.2.2.2.2.2.2.2.1 = 0 then (pv_gd (7 + x1) 31 (some ((upd w.1 (7 + x1).toNatClampNeg y0), w.2.1, w.2.2.1, w.2.2.2.1, w.2.2.2.2.1, w.2.2.2.2.2.1, w.2.2.2.2.2.2.1, w.2.2.2.2.2.2.2.1, w.2.2.2.2.2.2.2.2.1, w.2.2.2.2.2.2.2.2.2.1, w.2.2.2.2.2.2.2.2.2.2.1, w.2.2.2.2.2.2.2.2.2.2.2.1, w.2.2.2.2.2.2.2.2.2.2.2.2.1, w.2.2.2.2.2.2.2.2.2.2.2.2.2.1, w.2.2.2.2.2.2.2.2.2.2.2.2.2.2.1, w.2.2.2.2.2.2.2.2.2.2.2.2.2.2.2.1, w.2.2.2.2.2.2.2.2.2.2.2.2.2.2.2.2))) else (some w)
def m_X7_landItem  (w : pv_MT) : Option (pv_MT) :=
  Option.bind (m_X7_number 0 7 w) fun u_1 => (Option.bind (m_X7_passes 9 u_1.2) fun u_2 => (if u_2.1 = 0 then (Option.bind (m_X7_number 0 1 u_2.2) fun u_4 => (m_X7_landItem_27 u_1.1 u_4.1 u_4.2)) else (m_X7_landItem_27 u_1.1 (-1) u_2.2)))
abbrev r_X7_landItem : Room := { frames := 4, cells := 0, slots := 0, locals := 89 }
set_option maxHeartbeats 4000000 in
set_option maxRecDepth 100000 in
theorem c_X7_landItem (l : Launch) (E : pv_E) (a0 a1 a2 a3 a4 a5 a6 a7 a8 a9 a10 : Nat)  (w0 : pv_MT) (F : pv_MT) (hq : m_X7_landItem w0 = some F) : pv_RW l E yX7_landItem wsX7_landItem r_X7_landItem (pv_wM E a0 a1 a2 a3 a4 a5 a6 a7 a8 a9 a10 w0) [.ref a0] (none) (pv_wM E a0 a1 a2 a3 a4 a5 a6 a7 a8 a9 a10 F) := by
  intro sz
  refine pv_mk (by decide) rfl (Nat.le_of_ble_eq_true rfl) ?_
  intro p e s m args below meth c A hx hb hr hml hown hts hlk hAe hP hD0 hA hE hS ls hl
  have hown : s.vm.findClass RX7 = some m.cls := hown
  have hK := hE.1
  have hD : ∀ w : pv_MT, va_D A (pv_wM E a0 a1 a2 a3 a4 a5 a6 a7 a8 a9 a10 w) := fun w => pv_Dm (ws := pv_wM E a0 a1 a2 a3 a4 a5 a6 a7 a8 a9 a10 w0) (ws' := pv_wM E a0 a1 a2 a3 a4 a5 a6 a7 a8 a9 a10 w) rfl hD0
  have hP : va_P E.1 vwCl (pv_wM E a0 a1 a2 a3 a4 a5 a6 a7 a8 a9 a10 w0) s.heap := hP
  have fl_189 : (Cond.fieldLink RX7 189 "ProvinceCardsModel" "bad" "Z").before args s = true := hts _ (by decide +kernel)
  have fl_9 : (Cond.fieldLink RX7 9 "ProvinceCardsModel" "m" "[I").before args s = true := hts _ (by decide +kernel)
  have i_RX7 : ∀ w ∈ wsX70, w ∈ wsX7_landItem := by decide +kernel
  have hl : lv_has ls 3 [(0, .ref a0)] := hl
  have B_27 : ∀ (x1 : Int32) (y0 : Int32) (w : pv_MT) (H : Heap) (locs : List Loc) (ls : Array Slot), va_P E.1 vwCl (pv_wM E a0 a1 a2 a3 a4 a5 a6 a7 a8 a9 a10 w) H → va_S A s.heap H locs → lv_has ls 3 [(0, .ref a0), (1, .int x1)] → m_X7_landItem_27 x1 y0 w = some F → W p l e r_X7_landItem s m args below meth c H locs 0 0 (MQ below (pv_Rw E (pv_wM E a0 a1 a2 a3 a4 a5 a6 a7 a8 a9 a10 w0) sz (none) ((fun w : pv_MT => pv_wM E a0 a1 a2 a3 a4 a5 a6 a7 a8 a9 a10 w) F)) args s 0 0 A) (F0 m 27 ls [.int y0]) := by
    intro x1 y0 w H locs ls hP hS hl hq
    refine lv_istore_n (pc := 27) (lv' := [(2, .int y0), (0, .ref a0), (1, .int x1)]) hx hb dX7_landItem_27 rfl hl (Nat.le_of_ble_eq_true rfl) rfl (fun ls hl => ?_)
    refine lv_aload_n (pc := 28) hx hb dX7_landItem_28 rfl (lv_at hl 1 rfl) ?_
    refine va_get (pc := 29) (D := E.1) (ci := 5) (v := .int w.2.2.2.2.2.2.2.2.2.2.2.2.2.1) (C := RX7) (T := TX7) (N := 17) hx hb hts i_RX7 hown hK hP 0 rfl rfl 13 (Nat.le_of_ble_eq_true rfl) fl_189 (fun _ h9 => h9) rfl dX7_landItem_29 ?_
    refine lv_if_ne (pc := 32) (tgt := 45) hx hb dX7_landItem_32 (by decide) (fun c_5 => ?_) (fun c_5 => ?_)
    · have hq := pv_neg c_5 hq
      exact pv_rvRW (w := fun w : pv_MT => pv_wM E a0 a1 a2 a3 a4 a5 a6 a7 a8 a9 a10 w) hx hb hr hlk hAe hS hP (Option.some.inj hq) dX7_landItem_45
    · have hq := pv_pos c_5 hq
      refine lv_aload_n (pc := 35) hx hb dX7_landItem_35 rfl (lv_at hl 1 rfl) ?_
      refine va_get (pc := 36) (D := E.1) (ci := 5) (v := .ref a1) (C := RX7) (T := TX7) (N := 17) hx hb hts i_RX7 hown hK hP 0 rfl rfl 0 (Nat.le_of_ble_eq_true rfl) fl_9 (fun _ h9 => h9) rfl dX7_landItem_36 ?_
      refine lv_bipush (pc := 39) (v := 7) hx hb dX7_landItem_39 (by decide) ?_
      refine lv_iload_n (pc := 41) hx hb dX7_landItem_41 rfl (lv_at hl 2 rfl) ?_
      refine lv_iadd (pc := 42) hx hb dX7_landItem_42 ?_
      refine lv_iload_n (pc := 43) hx hb dX7_landItem_43 rfl (lv_at hl 0 rfl) ?_
      obtain ⟨h_6, hq⟩ := pv_gd_some hq
      refine va_iast (pc := 44) (D := E.1) hx hb hK hP (hD w) hS 1 0 rfl rfl h_6 dX7_landItem_44 (fun H locs hP _ hS => ?_)
      have hP : va_P E.1 vwCl (pv_wM E a0 a1 a2 a3 a4 a5 a6 a7 a8 a9 a10 ((upd w.1 (7 + x1).toNatClampNeg y0), w.2.1, w.2.2.1, w.2.2.2.1, w.2.2.2.2.1, w.2.2.2.2.2.1, w.2.2.2.2.2.2.1, w.2.2.2.2.2.2.2.1, w.2.2.2.2.2.2.2.2.1, w.2.2.2.2.2.2.2.2.2.1, w.2.2.2.2.2.2.2.2.2.2.1, w.2.2.2.2.2.2.2.2.2.2.2.1, w.2.2.2.2.2.2.2.2.2.2.2.2.1, w.2.2.2.2.2.2.2.2.2.2.2.2.2.1, w.2.2.2.2.2.2.2.2.2.2.2.2.2.2.1, w.2.2.2.2.2.2.2.2.2.2.2.2.2.2.2.1, w.2.2.2.2.2.2.2.2.2.2.2.2.2.2.2.2)) H := hP
      exact pv_rvRW (w := fun w : pv_MT => pv_wM E a0 a1 a2 a3 a4 a5 a6 a7 a8 a9 a10 w) hx hb hr hlk hAe hS hP (Option.some.inj hq) dX7_landItem_45
  suffices M0 : ∀ (H : Heap) (locs : List Loc), va_P E.1 vwCl (pv_wM E a0 a1 a2 a3 a4 a5 a6 a7 a8 a9 a10 w0) H → va_S A s.heap H locs → W p l e r_X7_landItem s m args below meth c H locs 0 0 (MQ below (pv_Rw E (pv_wM E a0 a1 a2 a3 a4 a5 a6 a7 a8 a9 a10 w0) sz (none) ((fun w : pv_MT => pv_wM E a0 a1 a2 a3 a4 a5 a6 a7 a8 a9 a10 w) F)) args s 0 0 A) (F0 m 0 ls []) from M0 s.heap [] hP hS
  intro H locs hP hS
  refine lv_aload_n (pc := 0) hx hb dX7_landItem_0 rfl (lv_at hl 0 rfl) ?_
  refine lv_iconst (pc := 1) (v := 0) hx hb dX7_landItem_1 (by decide) ?_
  refine lv_bipush (pc := 2) (v := 7) hx hb dX7_landItem_2 (by decide) ?_
  obtain ⟨u_1, hu_1, hq⟩ := pv_bind hq
  refine pv_vRWf (pc := 4) (rest := []) (st1 := [.int u_1.1]) (ws := pv_wM E a0 a1 a2 a3 a4 a5 a6 a7 a8 a9 a10 w0) [.int 0, .int 7] ⟨hx, hb, hml, hown, hts⟩ hE hA hS hP (hD w0) (c_X7_number l E a0 a1 a2 a3 a4 a5 a6 a7 a8 a9 a10 0 7 w0 u_1 hu_1) (cwV 2 hts gX7_landItem_X7_number rfl rfl rfl (by decide +kernel) ⟨(Nat.le_of_ble_eq_true rfl), (Nat.le_of_ble_eq_true rfl)⟩) (va_recv hK hP (ci := 5) (q0 := 0) rfl rfl) rfl hl.1 rfl rfl (Nat.le_of_ble_eq_true rfl) dX7_landItem_4 ⟨Nat.zero_le _, Nat.zero_le _⟩ (fun H locs hP hS => ?_)
  have hP : va_P E.1 vwCl (pv_wM E a0 a1 a2 a3 a4 a5 a6 a7 a8 a9 a10 u_1.2) H := hP
  refine lv_istore_n (pc := 7) (lv' := [(1, .int u_1.1), (0, .ref a0)]) hx hb dX7_landItem_7 rfl hl (Nat.le_of_ble_eq_true rfl) rfl (fun ls hl => ?_)
  refine lv_aload_n (pc := 8) hx hb dX7_landItem_8 rfl (lv_at hl 1 rfl) ?_
  refine lv_bipush (pc := 9) (v := 9) hx hb dX7_landItem_9 (by decide) ?_
  obtain ⟨u_2, hu_2, hq⟩ := pv_bind hq
  refine pv_vRWf (pc := 11) (rest := []) (st1 := [.int u_2.1]) (ws := pv_wM E a0 a1 a2 a3 a4 a5 a6 a7 a8 a9 a10 u_1.2) [.int 9] ⟨hx, hb, hml, hown, hts⟩ hE hA hS hP (hD u_1.2) (c_X7_passes l E a0 a1 a2 a3 a4 a5 a6 a7 a8 a9 a10 9 u_1.2 u_2 hu_2) (cwV 1 hts gX7_landItem_X7_passes rfl rfl rfl (by decide +kernel) ⟨(Nat.le_of_ble_eq_true rfl), (Nat.le_of_ble_eq_true rfl)⟩) (va_recv hK hP (ci := 5) (q0 := 0) rfl rfl) rfl hl.1 rfl rfl (Nat.le_of_ble_eq_true rfl) dX7_landItem_11 ⟨Nat.zero_le _, Nat.zero_le _⟩ (fun H locs hP hS => ?_)
  have hP : va_P E.1 vwCl (pv_wM E a0 a1 a2 a3 a4 a5 a6 a7 a8 a9 a10 u_2.2) H := hP
  refine lv_if_eq (pc := 14) (tgt := 21) hx hb dX7_landItem_14 (by decide) (fun c_3 => ?_) (fun c_3 => ?_)
  · have hq := pv_pos c_3 hq
    refine lv_aload_n (pc := 21) hx hb dX7_landItem_21 rfl (lv_at hl 1 rfl) ?_
    refine lv_iconst (pc := 22) (v := 0) hx hb dX7_landItem_22 (by decide) ?_
    refine lv_iconst (pc := 23) (v := 1) hx hb dX7_landItem_23 (by decide) ?_
    obtain ⟨u_4, hu_4, hq⟩ := pv_bind hq
    refine pv_vRWf (pc := 24) (rest := []) (st1 := [.int u_4.1]) (ws := pv_wM E a0 a1 a2 a3 a4 a5 a6 a7 a8 a9 a10 u_2.2) [.int 0, .int 1] ⟨hx, hb, hml, hown, hts⟩ hE hA hS hP (hD u_2.2) (c_X7_number l E a0 a1 a2 a3 a4 a5 a6 a7 a8 a9 a10 0 1 u_2.2 u_4 hu_4) (cwV 2 hts gX7_landItem_X7_number rfl rfl rfl (by decide +kernel) ⟨(Nat.le_of_ble_eq_true rfl), (Nat.le_of_ble_eq_true rfl)⟩) (va_recv hK hP (ci := 5) (q0 := 0) rfl rfl) rfl hl.1 rfl rfl (Nat.le_of_ble_eq_true rfl) dX7_landItem_24 ⟨Nat.zero_le _, Nat.zero_le _⟩ (fun H locs hP hS => ?_)
    have hP : va_P E.1 vwCl (pv_wM E a0 a1 a2 a3 a4 a5 a6 a7 a8 a9 a10 u_4.2) H := hP
    exact B_27 u_1.1 u_4.1 u_4.2 H locs ls hP hS (lv_sub hl [1, 0] rfl) hq
  · have hq := pv_neg c_3 hq
    refine lv_iconst (pc := 17) (v := (-1)) hx hb dX7_landItem_17 (by decide) ?_
    refine lv_goto (pc := 18) (tgt := 27) hx hb dX7_landItem_18 (by decide) ?_
    exact B_27 u_1.1 (-1) u_2.2 H locs ls hP hS (lv_sub hl [1, 0] rfl) hq
def m_X7_item  (w : pv_MT) : Option (pv_MT) :=
  if 5 < w.2.2.2.2.2.2.2.2.2.1 then (Option.bind (m_X7_passes 7 w) fun u_2 => (if u_2.1 = 0 then (Option.bind (m_X7_passes 8 u_2.2) fun u_4 => (if u_4.1 = 0 then (some (u_4.2.1, u_4.2.2.1, u_4.2.2.2.1, u_4.2.2.2.2.1, u_4.2.2.2.2.2.1, u_4.2.2.2.2.2.2.1, u_4.2.2.2.2.2.2.2.1, u_4.2.2.2.2.2.2.2.2.1, u_4.2.2.2.2.2.2.2.2.2.1, u_4.2.2.2.2.2.2.2.2.2.2.1, u_4.2.2.2.2.2.2.2.2.2.2.2.1, u_4.2.2.2.2.2.2.2.2.2.2.2.2.1, u_4.2.2.2.2.2.2.2.2.2.2.2.2.2.1, 1, u_4.2.2.2.2.2.2.2.2.2.2.2.2.2.2.2.1, u_4.2.2.2.2.2.2.2.2.2.2.2.2.2.2.2.2.1, u_4.2.2.2.2.2.2.2.2.2.2.2.2.2.2.2.2.2)) else (Option.bind (m_X7_landItem u_4.2) fun u_6 => (some u_6)))) else (Option.bind (m_X7_mixItem u_2.2) fun u_7 => (some u_7)))) else (Option.bind (m_X7_envoyItem w) fun u_8 => (some u_8))
abbrev r_X7_item : Room := { frames := 6, cells := 0, slots := 0, locals := 136 }
set_option maxHeartbeats 4000000 in
set_option maxRecDepth 100000 in
theorem c_X7_item (l : Launch) (E : pv_E) (a0 a1 a2 a3 a4 a5 a6 a7 a8 a9 a10 : Nat)  (w0 : pv_MT) (F : pv_MT) (hq : m_X7_item w0 = some F) : pv_RW l E yX7_item wsX7_item r_X7_item (pv_wM E a0 a1 a2 a3 a4 a5 a6 a7 a8 a9 a10 w0) [.ref a0] (none) (pv_wM E a0 a1 a2 a3 a4 a5 a6 a7 a8 a9 a10 F) := by
  intro sz
  refine pv_mk (by decide) rfl (Nat.le_of_ble_eq_true rfl) ?_
  intro p e s m args below meth c A hx hb hr hml hown hts hlk hAe hP hD0 hA hE hS ls hl
  have hown : s.vm.findClass RX7 = some m.cls := hown
  have hK := hE.1
  have hD : ∀ w : pv_MT, va_D A (pv_wM E a0 a1 a2 a3 a4 a5 a6 a7 a8 a9 a10 w) := fun w => pv_Dm (ws := pv_wM E a0 a1 a2 a3 a4 a5 a6 a7 a8 a9 a10 w0) (ws' := pv_wM E a0 a1 a2 a3 a4 a5 a6 a7 a8 a9 a10 w) rfl hD0
  have hP : va_P E.1 vwCl (pv_wM E a0 a1 a2 a3 a4 a5 a6 a7 a8 a9 a10 w0) s.heap := hP
  have fl_183 : (Cond.fieldLink RX7 183 "ProvinceCardsModel" "token" "I").before args s = true := hts _ (by decide +kernel)
  have fl_189 : (Cond.fieldLink RX7 189 "ProvinceCardsModel" "bad" "Z").before args s = true := hts _ (by decide +kernel)
  have i_RX7 : ∀ w ∈ wsX70, w ∈ wsX7_item := by decide +kernel
  have hl : lv_has ls 1 [(0, .ref a0)] := hl
  suffices M0 : ∀ (H : Heap) (locs : List Loc), va_P E.1 vwCl (pv_wM E a0 a1 a2 a3 a4 a5 a6 a7 a8 a9 a10 w0) H → va_S A s.heap H locs → W p l e r_X7_item s m args below meth c H locs 0 0 (MQ below (pv_Rw E (pv_wM E a0 a1 a2 a3 a4 a5 a6 a7 a8 a9 a10 w0) sz (none) ((fun w : pv_MT => pv_wM E a0 a1 a2 a3 a4 a5 a6 a7 a8 a9 a10 w) F)) args s 0 0 A) (F0 m 0 ls []) from M0 s.heap [] hP hS
  intro H locs hP hS
  refine lv_aload_n (pc := 0) hx hb dX7_item_0 rfl (lv_at hl 0 rfl) ?_
  refine va_get (pc := 1) (D := E.1) (ci := 5) (v := .int w0.2.2.2.2.2.2.2.2.2.1) (C := RX7) (T := TX7) (N := 17) hx hb hts i_RX7 hown hK hP 0 rfl rfl 9 (Nat.le_of_ble_eq_true rfl) fl_183 (fun _ h9 => h9) rfl dX7_item_1 ?_
  refine lv_iconst (pc := 4) (v := 5) hx hb dX7_item_4 (by decide) ?_
  refine lv_icmp_gt (pc := 5) (tgt := 15) hx hb dX7_item_5 (by decide) (fun c_1 => ?_) (fun c_1 => ?_)
  · have hq := pv_pos c_1 hq
    refine lv_aload_n (pc := 15) hx hb dX7_item_15 rfl (lv_at hl 0 rfl) ?_
    refine lv_bipush (pc := 16) (v := 7) hx hb dX7_item_16 (by decide) ?_
    obtain ⟨u_2, hu_2, hq⟩ := pv_bind hq
    refine pv_vRWf (pc := 18) (rest := []) (st1 := [.int u_2.1]) (ws := pv_wM E a0 a1 a2 a3 a4 a5 a6 a7 a8 a9 a10 w0) [.int 7] ⟨hx, hb, hml, hown, hts⟩ hE hA hS hP (hD w0) (c_X7_passes l E a0 a1 a2 a3 a4 a5 a6 a7 a8 a9 a10 7 w0 u_2 hu_2) (cwV 1 hts gX7_item_X7_passes rfl rfl rfl (by decide +kernel) ⟨(Nat.le_of_ble_eq_true rfl), (Nat.le_of_ble_eq_true rfl)⟩) (va_recv hK hP (ci := 5) (q0 := 0) rfl rfl) rfl hl.1 rfl rfl (Nat.le_of_ble_eq_true rfl) dX7_item_18 ⟨Nat.zero_le _, Nat.zero_le _⟩ (fun H locs hP hS => ?_)
    have hP : va_P E.1 vwCl (pv_wM E a0 a1 a2 a3 a4 a5 a6 a7 a8 a9 a10 u_2.2) H := hP
    refine lv_if_eq (pc := 21) (tgt := 31) hx hb dX7_item_21 (by decide) (fun c_3 => ?_) (fun c_3 => ?_)
    · have hq := pv_pos c_3 hq
      refine lv_aload_n (pc := 31) hx hb dX7_item_31 rfl (lv_at hl 0 rfl) ?_
      refine lv_bipush (pc := 32) (v := 8) hx hb dX7_item_32 (by decide) ?_
      obtain ⟨u_4, hu_4, hq⟩ := pv_bind hq
      refine pv_vRWf (pc := 34) (rest := []) (st1 := [.int u_4.1]) (ws := pv_wM E a0 a1 a2 a3 a4 a5 a6 a7 a8 a9 a10 u_2.2) [.int 8] ⟨hx, hb, hml, hown, hts⟩ hE hA hS hP (hD u_2.2) (c_X7_passes l E a0 a1 a2 a3 a4 a5 a6 a7 a8 a9 a10 8 u_2.2 u_4 hu_4) (cwV 1 hts gX7_item_X7_passes rfl rfl rfl (by decide +kernel) ⟨(Nat.le_of_ble_eq_true rfl), (Nat.le_of_ble_eq_true rfl)⟩) (va_recv hK hP (ci := 5) (q0 := 0) rfl rfl) rfl hl.1 rfl rfl (Nat.le_of_ble_eq_true rfl) dX7_item_34 ⟨Nat.zero_le _, Nat.zero_le _⟩ (fun H locs hP hS => ?_)
      have hP : va_P E.1 vwCl (pv_wM E a0 a1 a2 a3 a4 a5 a6 a7 a8 a9 a10 u_4.2) H := hP
      refine lv_if_eq (pc := 37) (tgt := 47) hx hb dX7_item_37 (by decide) (fun c_5 => ?_) (fun c_5 => ?_)
      · have hq := pv_pos c_5 hq
        refine lv_aload_n (pc := 47) hx hb dX7_item_47 rfl (lv_at hl 0 rfl) ?_
        refine lv_iconst (pc := 48) (v := 1) hx hb dX7_item_48 (by decide) ?_
        refine va_put (pc := 49) (D := E.1) (ci := 5) (v := .int 1) (ty := .boolean) (C := RX7) (T := TX7) (N := 17) hx hb hts i_RX7 tyX7 tyX7_ok nmX7 hown hK hP (hD u_4.2) hS 0 rfl rfl 13 (Nat.le_of_ble_eq_true rfl) fl_189 (fun _ h9 => h9) rfl (tyX7_ok 13 (Nat.le_of_ble_eq_true rfl)) rfl rfl (Nat.le_of_ble_eq_true rfl) dX7_item_49 (fun H locs hP _ hS => ?_)
        have hP : va_P E.1 vwCl (pv_wM E a0 a1 a2 a3 a4 a5 a6 a7 a8 a9 a10 (u_4.2.1, u_4.2.2.1, u_4.2.2.2.1, u_4.2.2.2.2.1, u_4.2.2.2.2.2.1, u_4.2.2.2.2.2.2.1, u_4.2.2.2.2.2.2.2.1, u_4.2.2.2.2.2.2.2.2.1, u_4.2.2.2.2.2.2.2.2.2.1, u_4.2.2.2.2.2.2.2.2.2.2.1, u_4.2.2.2.2.2.2.2.2.2.2.2.1, u_4.2.2.2.2.2.2.2.2.2.2.2.2.1, u_4.2.2.2.2.2.2.2.2.2.2.2.2.2.1, 1, u_4.2.2.2.2.2.2.2.2.2.2.2.2.2.2.2.1, u_4.2.2.2.2.2.2.2.2.2.2.2.2.2.2.2.2.1, u_4.2.2.2.2.2.2.2.2.2.2.2.2.2.2.2.2.2)) H := hP
        exact pv_rvRW (w := fun w : pv_MT => pv_wM E a0 a1 a2 a3 a4 a5 a6 a7 a8 a9 a10 w) hx hb hr hlk hAe hS hP (Option.some.inj hq) dX7_item_52
      · have hq := pv_neg c_5 hq
        refine lv_aload_n (pc := 40) hx hb dX7_item_40 rfl (lv_at hl 0 rfl) ?_
        obtain ⟨u_6, hu_6, hq⟩ := pv_bind hq
        refine pv_vRWf (pc := 41) (rest := []) (st1 := []) (ws := pv_wM E a0 a1 a2 a3 a4 a5 a6 a7 a8 a9 a10 u_4.2) [] ⟨hx, hb, hml, hown, hts⟩ hE hA hS hP (hD u_4.2) (c_X7_landItem l E a0 a1 a2 a3 a4 a5 a6 a7 a8 a9 a10 u_4.2 u_6 hu_6) (cwV 0 hts gX7_item_X7_landItem rfl rfl rfl (by decide +kernel) ⟨(Nat.le_of_ble_eq_true rfl), (Nat.le_of_ble_eq_true rfl)⟩) (va_recv hK hP (ci := 5) (q0 := 0) rfl rfl) rfl hl.1 rfl rfl (Nat.le_of_ble_eq_true rfl) dX7_item_41 ⟨Nat.zero_le _, Nat.zero_le _⟩ (fun H locs hP hS => ?_)
        have hP : va_P E.1 vwCl (pv_wM E a0 a1 a2 a3 a4 a5 a6 a7 a8 a9 a10 u_6) H := hP
        refine lv_goto (pc := 44) (tgt := 52) hx hb dX7_item_44 (by decide) ?_
        exact pv_rvRW (w := fun w : pv_MT => pv_wM E a0 a1 a2 a3 a4 a5 a6 a7 a8 a9 a10 w) hx hb hr hlk hAe hS hP (Option.some.inj hq) dX7_item_52
    · have hq := pv_neg c_3 hq
      refine lv_aload_n (pc := 24) hx hb dX7_item_24 rfl (lv_at hl 0 rfl) ?_
      obtain ⟨u_7, hu_7, hq⟩ := pv_bind hq
      refine pv_vRWf (pc := 25) (rest := []) (st1 := []) (ws := pv_wM E a0 a1 a2 a3 a4 a5 a6 a7 a8 a9 a10 u_2.2) [] ⟨hx, hb, hml, hown, hts⟩ hE hA hS hP (hD u_2.2) (c_X7_mixItem l E a0 a1 a2 a3 a4 a5 a6 a7 a8 a9 a10 u_2.2 u_7 hu_7) (cwV 0 hts gX7_item_X7_mixItem rfl rfl rfl (by decide +kernel) ⟨(Nat.le_of_ble_eq_true rfl), (Nat.le_of_ble_eq_true rfl)⟩) (va_recv hK hP (ci := 5) (q0 := 0) rfl rfl) rfl hl.1 rfl rfl (Nat.le_of_ble_eq_true rfl) dX7_item_25 ⟨Nat.zero_le _, Nat.zero_le _⟩ (fun H locs hP hS => ?_)
      have hP : va_P E.1 vwCl (pv_wM E a0 a1 a2 a3 a4 a5 a6 a7 a8 a9 a10 u_7) H := hP
      refine lv_goto (pc := 28) (tgt := 52) hx hb dX7_item_28 (by decide) ?_
      exact pv_rvRW (w := fun w : pv_MT => pv_wM E a0 a1 a2 a3 a4 a5 a6 a7 a8 a9 a10 w) hx hb hr hlk hAe hS hP (Option.some.inj hq) dX7_item_52
  · have hq := pv_neg c_1 hq
    refine lv_aload_n (pc := 8) hx hb dX7_item_8 rfl (lv_at hl 0 rfl) ?_
    obtain ⟨u_8, hu_8, hq⟩ := pv_bind hq
    refine pv_vRWf (pc := 9) (rest := []) (st1 := []) (ws := pv_wM E a0 a1 a2 a3 a4 a5 a6 a7 a8 a9 a10 w0) [] ⟨hx, hb, hml, hown, hts⟩ hE hA hS hP (hD w0) (c_X7_envoyItem l E a0 a1 a2 a3 a4 a5 a6 a7 a8 a9 a10 w0 u_8 hu_8) (cwV 0 hts gX7_item_X7_envoyItem rfl rfl rfl (by decide +kernel) ⟨(Nat.le_of_ble_eq_true rfl), (Nat.le_of_ble_eq_true rfl)⟩) (va_recv hK hP (ci := 5) (q0 := 0) rfl rfl) rfl hl.1 rfl rfl (Nat.le_of_ble_eq_true rfl) dX7_item_9 ⟨Nat.zero_le _, Nat.zero_le _⟩ (fun H locs hP hS => ?_)
    have hP : va_P E.1 vwCl (pv_wM E a0 a1 a2 a3 a4 a5 a6 a7 a8 a9 a10 u_8) H := hP
    refine lv_goto (pc := 12) (tgt := 52) hx hb dX7_item_12 (by decide) ?_
    exact pv_rvRW (w := fun w : pv_MT => pv_wM E a0 a1 a2 a3 a4 a5 a6 a7 a8 a9 a10 w) hx hb hr hlk hAe hS hP (Option.some.inj hq) dX7_item_52
def m_X7_spa_65 (x1 : Int32) (y1 : Int32) (w : pv_MT) : Option (Int32 × pv_MT) :=
  pv_gz y1 (if y1 = 0 then (some (x1, (w.1, w.2.1, w.2.2.1, w.2.2.2.1, w.2.2.2.2.1, w.2.2.2.2.2.1, w.2.2.2.2.2.2.1, w.2.2.2.2.2.2.2.1, 0, w.2.2.2.2.2.2.2.2.2.1, w.2.2.2.2.2.2.2.2.2.2.1, w.2.2.2.2.2.2.2.2.2.2.2.1, w.2.2.2.2.2.2.2.2.2.2.2.2.1, y1, w.2.2.2.2.2.2.2.2.2.2.2.2.2.2.1, w.2.2.2.2.2.2.2.2.2.2.2.2.2.2.2.1, w.2.2.2.2.2.2.2.2.2.2.2.2.2.2.2.2))) else (Option.bind (m_X7_putsBack (w.1, w.2.1, w.2.2.1, w.2.2.2.1, w.2.2.2.2.1, w.2.2.2.2.2.1, w.2.2.2.2.2.2.1, w.2.2.2.2.2.2.2.1, 0, w.2.2.2.2.2.2.2.2.2.1, w.2.2.2.2.2.2.2.2.2.2.1, w.2.2.2.2.2.2.2.2.2.2.2.1, w.2.2.2.2.2.2.2.2.2.2.2.2.1, y1, w.2.2.2.2.2.2.2.2.2.2.2.2.2.2.1, w.2.2.2.2.2.2.2.2.2.2.2.2.2.2.2.1, w.2.2.2.2.2.2.2.2.2.2.2.2.2.2.2.2)) fun u_9 => (some (((-1) - u_9.2.2.2.2.2.2.2.2.2.2.1), u_9))))
def m_X7_spa_60 (x1 : Int32) (w : pv_MT) : Option (Int32 × pv_MT) :=
  m_X7_spa_65 x1 1 w
def m_X7_spa_24 : Nat → Int32 → pv_MT → Option (Int32 × pv_MT)
  | 0 => fun _ _ => none
  | n + 1 => fun x1 w =>
    Option.bind (m_X7_passes 21 w) fun u_4 => (if u_4.1 = 0 then (if u_4.2.2.2.2.2.2.2.2.2.2.2.2.2.2.1 = 0 then (if u_4.2.2.2.2.2.2.2.2.2.2.1 = 22 then (m_X7_spa_65 x1 0 u_4.2) else (m_X7_spa_60 x1 u_4.2)) else (m_X7_spa_60 x1 u_4.2)) else (Option.bind (m_X7_item u_4.2) fun u_11 => ((m_X7_spa_24 n) (x1 + 1) u_11)))
def m_X7_spa  (w : pv_MT) : Option (Int32 × pv_MT) :=
  Option.bind (m_X7_thinks w) fun u_1 => (Option.bind (m_X7_reads (u_1.1, u_1.2.1, u_1.2.2.1, u_1.2.2.2.1, u_1.2.2.2.2.1, u_1.2.2.2.2.2.1, u_1.2.2.2.2.2.2.1, u_1.2.2.2.2.2.2.2.1, u_1.2.2.2.2.2.2.2.2.1, u_1.2.2.2.2.2.2.2.2.2.1, u_1.2.2.2.2.2.2.2.2.2.2.1, 0, u_1.2.2.2.2.2.2.2.2.2.2.2.2.1, 0, u_1.2.2.2.2.2.2.2.2.2.2.2.2.2.2.1, u_1.2.2.2.2.2.2.2.2.2.2.2.2.2.2.2.1, u_1.2.2.2.2.2.2.2.2.2.2.2.2.2.2.2.2)) fun u_2 => (Option.bind (m_X7_item u_2) fun u_3 => (m_X7_spa_24 300 1 u_3)))
abbrev r_X7_spa : Room := { frames := 7, cells := 0, slots := 0, locals := 156 }
set_option maxHeartbeats 4000000 in
set_option maxRecDepth 100000 in
theorem c_X7_spa (l : Launch) (E : pv_E) (a0 a1 a2 a3 a4 a5 a6 a7 a8 a9 a10 : Nat)  (w0 : pv_MT) (F : Int32 × pv_MT) (hq : m_X7_spa w0 = some F) : pv_RW l E yX7_spa wsX7_spa r_X7_spa (pv_wM E a0 a1 a2 a3 a4 a5 a6 a7 a8 a9 a10 w0) [.ref a0] (some (.int F.1)) (pv_wM E a0 a1 a2 a3 a4 a5 a6 a7 a8 a9 a10 F.2) := by
  intro sz
  refine pv_mk (by decide) rfl (Nat.le_of_ble_eq_true rfl) ?_
  intro p e s m args below meth c A hx hb hr hml hown hts hlk hAe hP hD0 hA hE hS ls hl
  have hown : s.vm.findClass RX7 = some m.cls := hown
  have hK := hE.1
  have hD : ∀ w : pv_MT, va_D A (pv_wM E a0 a1 a2 a3 a4 a5 a6 a7 a8 a9 a10 w) := fun w => pv_Dm (ws := pv_wM E a0 a1 a2 a3 a4 a5 a6 a7 a8 a9 a10 w0) (ws' := pv_wM E a0 a1 a2 a3 a4 a5 a6 a7 a8 a9 a10 w) rfl hD0
  have hP : va_P E.1 vwCl (pv_wM E a0 a1 a2 a3 a4 a5 a6 a7 a8 a9 a10 w0) s.heap := hP
  have fl_170 : (Cond.fieldLink RX7 170 "ProvinceCardsModel" "at" "I").before args s = true := hts _ (by decide +kernel)
  have fl_189 : (Cond.fieldLink RX7 189 "ProvinceCardsModel" "bad" "Z").before args s = true := hts _ (by decide +kernel)
  have fl_160 : (Cond.fieldLink RX7 160 "ProvinceCardsModel" "taped" "I").before args s = true := hts _ (by decide +kernel)
  have fl_167 : (Cond.fieldLink RX7 167 "ProvinceCardsModel" "begin" "I").before args s = true := hts _ (by decide +kernel)
  have fl_183 : (Cond.fieldLink RX7 183 "ProvinceCardsModel" "token" "I").before args s = true := hts _ (by decide +kernel)
  have i_RX7 : ∀ w ∈ wsX70, w ∈ wsX7_spa := by decide +kernel
  have hl : lv_has ls 2 [(0, .ref a0)] := hl
  have B_65 : ∀ (x1 : Int32) (y1 : Int32) (w : pv_MT) (H : Heap) (locs : List Loc) (ls : Array Slot), va_P E.1 vwCl (pv_wM E a0 a1 a2 a3 a4 a5 a6 a7 a8 a9 a10 w) H → va_S A s.heap H locs → lv_has ls 2 [(0, .ref a0), (1, .int x1)] → m_X7_spa_65 x1 y1 w = some F → W p l e r_X7_spa s m args below meth c H locs 0 0 (MQ below (pv_Rw E (pv_wM E a0 a1 a2 a3 a4 a5 a6 a7 a8 a9 a10 w0) sz (some (.int F.1)) ((fun w : pv_MT => pv_wM E a0 a1 a2 a3 a4 a5 a6 a7 a8 a9 a10 w) F.2)) args s 0 0 A) (F0 m 65 ls [.int y1, .ref a0]) := by
    intro x1 y1 w H locs ls hP hS hl hq
    obtain ⟨h_7, hq⟩ := pv_gz_some hq
    refine va_put (pc := 65) (D := E.1) (ci := 5) (v := .int y1) (ty := .boolean) (C := RX7) (T := TX7) (N := 17) hx hb hts i_RX7 tyX7 tyX7_ok nmX7 hown hK hP (hD w) hS 0 rfl rfl 13 (Nat.le_of_ble_eq_true rfl) fl_189 (fun _ h9 => h9) rfl (tyX7_ok 13 (Nat.le_of_ble_eq_true rfl)) h_7.1 h_7.2 (Nat.le_of_ble_eq_true rfl) dX7_spa_65 (fun H locs hP _ hS => ?_)
    have hP : va_P E.1 vwCl (pv_wM E a0 a1 a2 a3 a4 a5 a6 a7 a8 a9 a10 (w.1, w.2.1, w.2.2.1, w.2.2.2.1, w.2.2.2.2.1, w.2.2.2.2.2.1, w.2.2.2.2.2.2.1, w.2.2.2.2.2.2.2.1, w.2.2.2.2.2.2.2.2.1, w.2.2.2.2.2.2.2.2.2.1, w.2.2.2.2.2.2.2.2.2.2.1, w.2.2.2.2.2.2.2.2.2.2.2.1, w.2.2.2.2.2.2.2.2.2.2.2.2.1, y1, w.2.2.2.2.2.2.2.2.2.2.2.2.2.2.1, w.2.2.2.2.2.2.2.2.2.2.2.2.2.2.2.1, w.2.2.2.2.2.2.2.2.2.2.2.2.2.2.2.2)) H := hP
    refine lv_aload_n (pc := 68) hx hb dX7_spa_68 rfl (lv_at hl 0 rfl) ?_
    refine lv_iconst (pc := 69) (v := 0) hx hb dX7_spa_69 (by decide) ?_
    refine va_put (pc := 70) (D := E.1) (ci := 5) (v := .int 0) (ty := .int) (C := RX7) (T := TX7) (N := 17) hx hb hts i_RX7 tyX7 tyX7_ok nmX7 hown hK hP (hD (w.1, w.2.1, w.2.2.1, w.2.2.2.1, w.2.2.2.2.1, w.2.2.2.2.2.1, w.2.2.2.2.2.2.1, w.2.2.2.2.2.2.2.1, w.2.2.2.2.2.2.2.2.1, w.2.2.2.2.2.2.2.2.2.1, w.2.2.2.2.2.2.2.2.2.2.1, w.2.2.2.2.2.2.2.2.2.2.2.1, w.2.2.2.2.2.2.2.2.2.2.2.2.1, y1, w.2.2.2.2.2.2.2.2.2.2.2.2.2.2.1, w.2.2.2.2.2.2.2.2.2.2.2.2.2.2.2.1, w.2.2.2.2.2.2.2.2.2.2.2.2.2.2.2.2)) hS 0 rfl rfl 8 (Nat.le_of_ble_eq_true rfl) fl_160 (fun _ h9 => h9) rfl (tyX7_ok 8 (Nat.le_of_ble_eq_true rfl)) rfl rfl (Nat.le_of_ble_eq_true rfl) dX7_spa_70 (fun H locs hP _ hS => ?_)
    have hP : va_P E.1 vwCl (pv_wM E a0 a1 a2 a3 a4 a5 a6 a7 a8 a9 a10 (w.1, w.2.1, w.2.2.1, w.2.2.2.1, w.2.2.2.2.1, w.2.2.2.2.2.1, w.2.2.2.2.2.2.1, w.2.2.2.2.2.2.2.1, 0, w.2.2.2.2.2.2.2.2.2.1, w.2.2.2.2.2.2.2.2.2.2.1, w.2.2.2.2.2.2.2.2.2.2.2.1, w.2.2.2.2.2.2.2.2.2.2.2.2.1, y1, w.2.2.2.2.2.2.2.2.2.2.2.2.2.2.1, w.2.2.2.2.2.2.2.2.2.2.2.2.2.2.2.1, w.2.2.2.2.2.2.2.2.2.2.2.2.2.2.2.2)) H := hP
    refine lv_aload_n (pc := 73) hx hb dX7_spa_73 rfl (lv_at hl 0 rfl) ?_
    refine va_get (pc := 74) (D := E.1) (ci := 5) (v := .int y1) (C := RX7) (T := TX7) (N := 17) hx hb hts i_RX7 hown hK hP 0 rfl rfl 13 (Nat.le_of_ble_eq_true rfl) fl_189 (fun _ h9 => h9) rfl dX7_spa_74 ?_
    refine lv_if_ne (pc := 77) (tgt := 82) hx hb dX7_spa_77 (by decide) (fun c_8 => ?_) (fun c_8 => ?_)
    · have hq := pv_neg c_8 hq
      refine lv_aload_n (pc := 82) hx hb dX7_spa_82 rfl (lv_at hl 0 rfl) ?_
      obtain ⟨u_9, hu_9, hq⟩ := pv_bind hq
      refine pv_vRWf (pc := 83) (rest := []) (st1 := []) (ws := pv_wM E a0 a1 a2 a3 a4 a5 a6 a7 a8 a9 a10 (w.1, w.2.1, w.2.2.1, w.2.2.2.1, w.2.2.2.2.1, w.2.2.2.2.2.1, w.2.2.2.2.2.2.1, w.2.2.2.2.2.2.2.1, 0, w.2.2.2.2.2.2.2.2.2.1, w.2.2.2.2.2.2.2.2.2.2.1, w.2.2.2.2.2.2.2.2.2.2.2.1, w.2.2.2.2.2.2.2.2.2.2.2.2.1, y1, w.2.2.2.2.2.2.2.2.2.2.2.2.2.2.1, w.2.2.2.2.2.2.2.2.2.2.2.2.2.2.2.1, w.2.2.2.2.2.2.2.2.2.2.2.2.2.2.2.2)) [] ⟨hx, hb, hml, hown, hts⟩ hE hA hS hP (hD (w.1, w.2.1, w.2.2.1, w.2.2.2.1, w.2.2.2.2.1, w.2.2.2.2.2.1, w.2.2.2.2.2.2.1, w.2.2.2.2.2.2.2.1, 0, w.2.2.2.2.2.2.2.2.2.1, w.2.2.2.2.2.2.2.2.2.2.1, w.2.2.2.2.2.2.2.2.2.2.2.1, w.2.2.2.2.2.2.2.2.2.2.2.2.1, y1, w.2.2.2.2.2.2.2.2.2.2.2.2.2.2.1, w.2.2.2.2.2.2.2.2.2.2.2.2.2.2.2.1, w.2.2.2.2.2.2.2.2.2.2.2.2.2.2.2.2)) (c_X7_putsBack l E a0 a1 a2 a3 a4 a5 a6 a7 a8 a9 a10 (w.1, w.2.1, w.2.2.1, w.2.2.2.1, w.2.2.2.2.1, w.2.2.2.2.2.1, w.2.2.2.2.2.2.1, w.2.2.2.2.2.2.2.1, 0, w.2.2.2.2.2.2.2.2.2.1, w.2.2.2.2.2.2.2.2.2.2.1, w.2.2.2.2.2.2.2.2.2.2.2.1, w.2.2.2.2.2.2.2.2.2.2.2.2.1, y1, w.2.2.2.2.2.2.2.2.2.2.2.2.2.2.1, w.2.2.2.2.2.2.2.2.2.2.2.2.2.2.2.1, w.2.2.2.2.2.2.2.2.2.2.2.2.2.2.2.2) u_9 hu_9) (cwV 0 hts gX7_spa_X7_putsBack rfl rfl rfl (by decide +kernel) ⟨(Nat.le_of_ble_eq_true rfl), (Nat.le_of_ble_eq_true rfl)⟩) (va_recv hK hP (ci := 5) (q0 := 0) rfl rfl) rfl hl.1 rfl rfl (Nat.le_of_ble_eq_true rfl) dX7_spa_83 ⟨Nat.zero_le _, Nat.zero_le _⟩ (fun H locs hP hS => ?_)
      have hP : va_P E.1 vwCl (pv_wM E a0 a1 a2 a3 a4 a5 a6 a7 a8 a9 a10 u_9) H := hP
      refine lv_iconst (pc := 86) (v := (-1)) hx hb dX7_spa_86 (by decide) ?_
      refine lv_aload_n (pc := 87) hx hb dX7_spa_87 rfl (lv_at hl 0 rfl) ?_
      refine va_get (pc := 88) (D := E.1) (ci := 5) (v := .int u_9.2.2.2.2.2.2.2.2.2.2.1) (C := RX7) (T := TX7) (N := 17) hx hb hts i_RX7 hown hK hP 0 rfl rfl 10 (Nat.le_of_ble_eq_true rfl) fl_167 (fun _ h9 => h9) rfl dX7_spa_88 ?_
      refine lv_isub (pc := 91) hx hb dX7_spa_91 ?_
      exact pv_riRW (w := fun w : pv_MT => pv_wM E a0 a1 a2 a3 a4 a5 a6 a7 a8 a9 a10 w) hx hb hr hlk hAe hS hP (Option.some.inj hq) dX7_spa_92
    · have hq := pv_pos c_8 hq
      refine lv_iload_n (pc := 80) hx hb dX7_spa_80 rfl (lv_at hl 1 rfl) ?_
      exact pv_riRW (w := fun w : pv_MT => pv_wM E a0 a1 a2 a3 a4 a5 a6 a7 a8 a9 a10 w) hx hb hr hlk hAe hS hP (Option.some.inj hq) dX7_spa_81
  have B_60 : ∀ (x1 : Int32) (w : pv_MT) (H : Heap) (locs : List Loc) (ls : Array Slot), va_P E.1 vwCl (pv_wM E a0 a1 a2 a3 a4 a5 a6 a7 a8 a9 a10 w) H → va_S A s.heap H locs → lv_has ls 2 [(0, .ref a0), (1, .int x1)] → m_X7_spa_60 x1 w = some F → W p l e r_X7_spa s m args below meth c H locs 0 0 (MQ below (pv_Rw E (pv_wM E a0 a1 a2 a3 a4 a5 a6 a7 a8 a9 a10 w0) sz (some (.int F.1)) ((fun w : pv_MT => pv_wM E a0 a1 a2 a3 a4 a5 a6 a7 a8 a9 a10 w) F.2)) args s 0 0 A) (F0 m 60 ls [.ref a0]) := by
    intro x1 w H locs ls hP hS hl hq
    refine lv_iconst (pc := 60) (v := 1) hx hb dX7_spa_60 (by decide) ?_
    refine lv_goto (pc := 61) (tgt := 65) hx hb dX7_spa_61 (by decide) ?_
    exact B_65 x1 1 w H locs ls hP hS (lv_sub hl [0, 1] rfl) hq
  have L_24 : ∀ n : Nat, ∀ (x1 : Int32) (w : pv_MT) (H : Heap) (locs : List Loc) (ls : Array Slot), va_P E.1 vwCl (pv_wM E a0 a1 a2 a3 a4 a5 a6 a7 a8 a9 a10 w) H → va_S A s.heap H locs → lv_has ls 2 [(0, .ref a0), (1, .int x1)] → m_X7_spa_24 n x1 w = some F → W p l e r_X7_spa s m args below meth c H locs 0 0 (MQ below (pv_Rw E (pv_wM E a0 a1 a2 a3 a4 a5 a6 a7 a8 a9 a10 w0) sz (some (.int F.1)) ((fun w : pv_MT => pv_wM E a0 a1 a2 a3 a4 a5 a6 a7 a8 a9 a10 w) F.2)) args s 0 0 A) (F0 m 24 ls []) := by
    intro n
    induction n with
    | zero =>
      intro x1 w H locs ls hP hS hl hq
      exact (pv_no hq).elim
    | succ n ih =>
      intro x1 w H locs ls hP hS hl hq
      refine lv_aload_n (pc := 24) hx hb dX7_spa_24 rfl (lv_at hl 0 rfl) ?_
      refine lv_bipush (pc := 25) (v := 21) hx hb dX7_spa_25 (by decide) ?_
      obtain ⟨u_4, hu_4, hq⟩ := pv_bind hq
      refine pv_vRWf (pc := 27) (rest := []) (st1 := [.int u_4.1]) (ws := pv_wM E a0 a1 a2 a3 a4 a5 a6 a7 a8 a9 a10 w) [.int 21] ⟨hx, hb, hml, hown, hts⟩ hE hA hS hP (hD w) (c_X7_passes l E a0 a1 a2 a3 a4 a5 a6 a7 a8 a9 a10 21 w u_4 hu_4) (cwV 1 hts gX7_spa_X7_passes rfl rfl rfl (by decide +kernel) ⟨(Nat.le_of_ble_eq_true rfl), (Nat.le_of_ble_eq_true rfl)⟩) (va_recv hK hP (ci := 5) (q0 := 0) rfl rfl) rfl hl.1 rfl rfl (Nat.le_of_ble_eq_true rfl) dX7_spa_27 ⟨Nat.zero_le _, Nat.zero_le _⟩ (fun H locs hP hS => ?_)
      have hP : va_P E.1 vwCl (pv_wM E a0 a1 a2 a3 a4 a5 a6 a7 a8 a9 a10 u_4.2) H := hP
      refine lv_if_eq (pc := 30) (tgt := 43) hx hb dX7_spa_30 (by decide) (fun c_5 => ?_) (fun c_5 => ?_)
      · have hq := pv_pos c_5 hq
        refine lv_aload_n (pc := 43) hx hb dX7_spa_43 rfl (lv_at hl 0 rfl) ?_
        refine lv_aload_n (pc := 44) hx hb dX7_spa_44 rfl (lv_at hl 0 rfl) ?_
        refine va_get (pc := 45) (D := E.1) (ci := 5) (v := .int u_4.2.2.2.2.2.2.2.2.2.2.2.2.2.2.1) (C := RX7) (T := TX7) (N := 17) hx hb hts i_RX7 hown hK hP 0 rfl rfl 13 (Nat.le_of_ble_eq_true rfl) fl_189 (fun _ h9 => h9) rfl dX7_spa_45 ?_
        refine lv_if_ne (pc := 48) (tgt := 60) hx hb dX7_spa_48 (by decide) (fun c_6 => ?_) (fun c_6 => ?_)
        · have hq := pv_neg c_6 hq
          exact B_60 x1 u_4.2 H locs ls hP hS (lv_sub hl [0, 1] rfl) hq
        · have hq := pv_pos c_6 hq
          refine lv_aload_n (pc := 51) hx hb dX7_spa_51 rfl (lv_at hl 0 rfl) ?_
          refine va_get (pc := 52) (D := E.1) (ci := 5) (v := .int u_4.2.2.2.2.2.2.2.2.2.2.1) (C := RX7) (T := TX7) (N := 17) hx hb hts i_RX7 hown hK hP 0 rfl rfl 9 (Nat.le_of_ble_eq_true rfl) fl_183 (fun _ h9 => h9) rfl dX7_spa_52 ?_
          refine lv_bipush (pc := 55) (v := 22) hx hb dX7_spa_55 (by decide) ?_
          refine lv_icmp_eq (pc := 57) (tgt := 64) hx hb dX7_spa_57 (by decide) (fun c_10 => ?_) (fun c_10 => ?_)
          · have hq := pv_pos c_10 hq
            refine lv_iconst (pc := 64) (v := 0) hx hb dX7_spa_64 (by decide) ?_
            exact B_65 x1 0 u_4.2 H locs ls hP hS (lv_sub hl [0, 1] rfl) hq
          · have hq := pv_neg c_10 hq
            exact B_60 x1 u_4.2 H locs ls hP hS (lv_sub hl [0, 1] rfl) hq
      · have hq := pv_neg c_5 hq
        refine lv_aload_n (pc := 33) hx hb dX7_spa_33 rfl (lv_at hl 0 rfl) ?_
        obtain ⟨u_11, hu_11, hq⟩ := pv_bind hq
        refine pv_vRWf (pc := 34) (rest := []) (st1 := []) (ws := pv_wM E a0 a1 a2 a3 a4 a5 a6 a7 a8 a9 a10 u_4.2) [] ⟨hx, hb, hml, hown, hts⟩ hE hA hS hP (hD u_4.2) (c_X7_item l E a0 a1 a2 a3 a4 a5 a6 a7 a8 a9 a10 u_4.2 u_11 hu_11) (cwV 0 hts gX7_spa_X7_item rfl rfl rfl (by decide +kernel) ⟨(Nat.le_of_ble_eq_true rfl), (Nat.le_of_ble_eq_true rfl)⟩) (va_recv hK hP (ci := 5) (q0 := 0) rfl rfl) rfl hl.1 rfl rfl (Nat.le_of_ble_eq_true rfl) dX7_spa_34 ⟨Nat.zero_le _, Nat.zero_le _⟩ (fun H locs hP hS => ?_)
        have hP : va_P E.1 vwCl (pv_wM E a0 a1 a2 a3 a4 a5 a6 a7 a8 a9 a10 u_11) H := hP
        refine lv_iinc (pc := 37) (v := (x1 + 1)) (lv' := [(1, .int (x1 + 1)), (0, .ref a0)]) hx hb dX7_spa_37 hl (k := 1) rfl rfl (Nat.le_of_ble_eq_true rfl) rfl (fun ls hl => ?_)
        refine lv_goto (pc := 40) (tgt := 24) hx hb dX7_spa_40 (by decide) ?_
        exact ih (x1 + 1) u_11 H locs ls hP hS (lv_sub hl [1, 0] rfl) hq
  suffices M0 : ∀ (H : Heap) (locs : List Loc), va_P E.1 vwCl (pv_wM E a0 a1 a2 a3 a4 a5 a6 a7 a8 a9 a10 w0) H → va_S A s.heap H locs → W p l e r_X7_spa s m args below meth c H locs 0 0 (MQ below (pv_Rw E (pv_wM E a0 a1 a2 a3 a4 a5 a6 a7 a8 a9 a10 w0) sz (some (.int F.1)) ((fun w : pv_MT => pv_wM E a0 a1 a2 a3 a4 a5 a6 a7 a8 a9 a10 w) F.2)) args s 0 0 A) (F0 m 0 ls []) from M0 s.heap [] hP hS
  intro H locs hP hS
  refine lv_aload_n (pc := 0) hx hb dX7_spa_0 rfl (lv_at hl 0 rfl) ?_
  obtain ⟨u_1, hu_1, hq⟩ := pv_bind hq
  refine pv_vRWf (pc := 1) (rest := []) (st1 := []) (ws := pv_wM E a0 a1 a2 a3 a4 a5 a6 a7 a8 a9 a10 w0) [] ⟨hx, hb, hml, hown, hts⟩ hE hA hS hP (hD w0) (c_X7_thinks l E a0 a1 a2 a3 a4 a5 a6 a7 a8 a9 a10 w0 u_1 hu_1) (cwV 0 hts gX7_spa_X7_thinks rfl rfl rfl (by decide +kernel) ⟨(Nat.le_of_ble_eq_true rfl), (Nat.le_of_ble_eq_true rfl)⟩) (va_recv hK hP (ci := 5) (q0 := 0) rfl rfl) rfl hl.1 rfl rfl (Nat.le_of_ble_eq_true rfl) dX7_spa_1 ⟨Nat.zero_le _, Nat.zero_le _⟩ (fun H locs hP hS => ?_)
  have hP : va_P E.1 vwCl (pv_wM E a0 a1 a2 a3 a4 a5 a6 a7 a8 a9 a10 u_1) H := hP
  refine lv_aload_n (pc := 4) hx hb dX7_spa_4 rfl (lv_at hl 0 rfl) ?_
  refine lv_iconst (pc := 5) (v := 0) hx hb dX7_spa_5 (by decide) ?_
  refine va_put (pc := 6) (D := E.1) (ci := 5) (v := .int 0) (ty := .int) (C := RX7) (T := TX7) (N := 17) hx hb hts i_RX7 tyX7 tyX7_ok nmX7 hown hK hP (hD u_1) hS 0 rfl rfl 11 (Nat.le_of_ble_eq_true rfl) fl_170 (fun _ h9 => h9) rfl (tyX7_ok 11 (Nat.le_of_ble_eq_true rfl)) rfl rfl (Nat.le_of_ble_eq_true rfl) dX7_spa_6 (fun H locs hP _ hS => ?_)
  have hP : va_P E.1 vwCl (pv_wM E a0 a1 a2 a3 a4 a5 a6 a7 a8 a9 a10 (u_1.1, u_1.2.1, u_1.2.2.1, u_1.2.2.2.1, u_1.2.2.2.2.1, u_1.2.2.2.2.2.1, u_1.2.2.2.2.2.2.1, u_1.2.2.2.2.2.2.2.1, u_1.2.2.2.2.2.2.2.2.1, u_1.2.2.2.2.2.2.2.2.2.1, u_1.2.2.2.2.2.2.2.2.2.2.1, 0, u_1.2.2.2.2.2.2.2.2.2.2.2.2.1, u_1.2.2.2.2.2.2.2.2.2.2.2.2.2.1, u_1.2.2.2.2.2.2.2.2.2.2.2.2.2.2.1, u_1.2.2.2.2.2.2.2.2.2.2.2.2.2.2.2.1, u_1.2.2.2.2.2.2.2.2.2.2.2.2.2.2.2.2)) H := hP
  refine lv_aload_n (pc := 9) hx hb dX7_spa_9 rfl (lv_at hl 0 rfl) ?_
  refine lv_iconst (pc := 10) (v := 0) hx hb dX7_spa_10 (by decide) ?_
  refine va_put (pc := 11) (D := E.1) (ci := 5) (v := .int 0) (ty := .boolean) (C := RX7) (T := TX7) (N := 17) hx hb hts i_RX7 tyX7 tyX7_ok nmX7 hown hK hP (hD (u_1.1, u_1.2.1, u_1.2.2.1, u_1.2.2.2.1, u_1.2.2.2.2.1, u_1.2.2.2.2.2.1, u_1.2.2.2.2.2.2.1, u_1.2.2.2.2.2.2.2.1, u_1.2.2.2.2.2.2.2.2.1, u_1.2.2.2.2.2.2.2.2.2.1, u_1.2.2.2.2.2.2.2.2.2.2.1, 0, u_1.2.2.2.2.2.2.2.2.2.2.2.2.1, u_1.2.2.2.2.2.2.2.2.2.2.2.2.2.1, u_1.2.2.2.2.2.2.2.2.2.2.2.2.2.2.1, u_1.2.2.2.2.2.2.2.2.2.2.2.2.2.2.2.1, u_1.2.2.2.2.2.2.2.2.2.2.2.2.2.2.2.2)) hS 0 rfl rfl 13 (Nat.le_of_ble_eq_true rfl) fl_189 (fun _ h9 => h9) rfl (tyX7_ok 13 (Nat.le_of_ble_eq_true rfl)) rfl rfl (Nat.le_of_ble_eq_true rfl) dX7_spa_11 (fun H locs hP _ hS => ?_)
  have hP : va_P E.1 vwCl (pv_wM E a0 a1 a2 a3 a4 a5 a6 a7 a8 a9 a10 (u_1.1, u_1.2.1, u_1.2.2.1, u_1.2.2.2.1, u_1.2.2.2.2.1, u_1.2.2.2.2.2.1, u_1.2.2.2.2.2.2.1, u_1.2.2.2.2.2.2.2.1, u_1.2.2.2.2.2.2.2.2.1, u_1.2.2.2.2.2.2.2.2.2.1, u_1.2.2.2.2.2.2.2.2.2.2.1, 0, u_1.2.2.2.2.2.2.2.2.2.2.2.2.1, 0, u_1.2.2.2.2.2.2.2.2.2.2.2.2.2.2.1, u_1.2.2.2.2.2.2.2.2.2.2.2.2.2.2.2.1, u_1.2.2.2.2.2.2.2.2.2.2.2.2.2.2.2.2)) H := hP
  refine lv_aload_n (pc := 14) hx hb dX7_spa_14 rfl (lv_at hl 0 rfl) ?_
  obtain ⟨u_2, hu_2, hq⟩ := pv_bind hq
  refine pv_vRWf (pc := 15) (rest := []) (st1 := []) (ws := pv_wM E a0 a1 a2 a3 a4 a5 a6 a7 a8 a9 a10 (u_1.1, u_1.2.1, u_1.2.2.1, u_1.2.2.2.1, u_1.2.2.2.2.1, u_1.2.2.2.2.2.1, u_1.2.2.2.2.2.2.1, u_1.2.2.2.2.2.2.2.1, u_1.2.2.2.2.2.2.2.2.1, u_1.2.2.2.2.2.2.2.2.2.1, u_1.2.2.2.2.2.2.2.2.2.2.1, 0, u_1.2.2.2.2.2.2.2.2.2.2.2.2.1, 0, u_1.2.2.2.2.2.2.2.2.2.2.2.2.2.2.1, u_1.2.2.2.2.2.2.2.2.2.2.2.2.2.2.2.1, u_1.2.2.2.2.2.2.2.2.2.2.2.2.2.2.2.2)) [] ⟨hx, hb, hml, hown, hts⟩ hE hA hS hP (hD (u_1.1, u_1.2.1, u_1.2.2.1, u_1.2.2.2.1, u_1.2.2.2.2.1, u_1.2.2.2.2.2.1, u_1.2.2.2.2.2.2.1, u_1.2.2.2.2.2.2.2.1, u_1.2.2.2.2.2.2.2.2.1, u_1.2.2.2.2.2.2.2.2.2.1, u_1.2.2.2.2.2.2.2.2.2.2.1, 0, u_1.2.2.2.2.2.2.2.2.2.2.2.2.1, 0, u_1.2.2.2.2.2.2.2.2.2.2.2.2.2.2.1, u_1.2.2.2.2.2.2.2.2.2.2.2.2.2.2.2.1, u_1.2.2.2.2.2.2.2.2.2.2.2.2.2.2.2.2)) (c_X7_reads l E a0 a1 a2 a3 a4 a5 a6 a7 a8 a9 a10 (u_1.1, u_1.2.1, u_1.2.2.1, u_1.2.2.2.1, u_1.2.2.2.2.1, u_1.2.2.2.2.2.1, u_1.2.2.2.2.2.2.1, u_1.2.2.2.2.2.2.2.1, u_1.2.2.2.2.2.2.2.2.1, u_1.2.2.2.2.2.2.2.2.2.1, u_1.2.2.2.2.2.2.2.2.2.2.1, 0, u_1.2.2.2.2.2.2.2.2.2.2.2.2.1, 0, u_1.2.2.2.2.2.2.2.2.2.2.2.2.2.2.1, u_1.2.2.2.2.2.2.2.2.2.2.2.2.2.2.2.1, u_1.2.2.2.2.2.2.2.2.2.2.2.2.2.2.2.2) u_2 hu_2) (cwV 0 hts gX7_spa_X7_reads rfl rfl rfl (by decide +kernel) ⟨(Nat.le_of_ble_eq_true rfl), (Nat.le_of_ble_eq_true rfl)⟩) (va_recv hK hP (ci := 5) (q0 := 0) rfl rfl) rfl hl.1 rfl rfl (Nat.le_of_ble_eq_true rfl) dX7_spa_15 ⟨Nat.zero_le _, Nat.zero_le _⟩ (fun H locs hP hS => ?_)
  have hP : va_P E.1 vwCl (pv_wM E a0 a1 a2 a3 a4 a5 a6 a7 a8 a9 a10 u_2) H := hP
  refine lv_aload_n (pc := 18) hx hb dX7_spa_18 rfl (lv_at hl 0 rfl) ?_
  obtain ⟨u_3, hu_3, hq⟩ := pv_bind hq
  refine pv_vRWf (pc := 19) (rest := []) (st1 := []) (ws := pv_wM E a0 a1 a2 a3 a4 a5 a6 a7 a8 a9 a10 u_2) [] ⟨hx, hb, hml, hown, hts⟩ hE hA hS hP (hD u_2) (c_X7_item l E a0 a1 a2 a3 a4 a5 a6 a7 a8 a9 a10 u_2 u_3 hu_3) (cwV 0 hts gX7_spa_X7_item rfl rfl rfl (by decide +kernel) ⟨(Nat.le_of_ble_eq_true rfl), (Nat.le_of_ble_eq_true rfl)⟩) (va_recv hK hP (ci := 5) (q0 := 0) rfl rfl) rfl hl.1 rfl rfl (Nat.le_of_ble_eq_true rfl) dX7_spa_19 ⟨Nat.zero_le _, Nat.zero_le _⟩ (fun H locs hP hS => ?_)
  have hP : va_P E.1 vwCl (pv_wM E a0 a1 a2 a3 a4 a5 a6 a7 a8 a9 a10 u_3) H := hP
  refine lv_iconst (pc := 22) (v := 1) hx hb dX7_spa_22 (by decide) ?_
  refine lv_istore_n (pc := 23) (lv' := [(1, .int 1), (0, .ref a0)]) hx hb dX7_spa_23 rfl hl (Nat.le_of_ble_eq_true rfl) rfl (fun ls hl => ?_)
  exact L_24 300 1 u_3 H locs ls hP hS (lv_sub hl [1, 0] rfl) hq
