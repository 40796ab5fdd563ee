/-! AS WHAT KIND; HOW LONG TO REST; WHO WINS MOST -/
theorem kd_step (n : Nat) (x2 x3 x4 x5 : Int32) {x : pv_XT} {A T' : pv_TT} {g' : pv_GT} {e : Nat} (he : e < 8) (h5 : ¬ 6 ≤ x5) (h : m_X4_become (x.2.2.1, x.1) = some (A, x.1))
    (p1 : m_X4_passMonths x2 ((A.1, A.2.1, A.2.2.1, A.2.2.2.1, A.2.2.2.2.1, A.2.2.2.2.2.1, upd A.2.2.2.2.2.2.1 e x5, A.2.2.2.2.2.2.2), x.2.2.2.1) = some (T', g')) :
    m_X6_kind_33 (n + 1) (nI e) x2 x3 x4 x5 x = if T'.2.2.2.2.2.2.2 e ≤ x4 then m_X6_kind_33 n (nI e) x2 x3 x4 (x5 + 1) (xA x T' g') else m_X6_kind_33 n (nI e) x2 x5 (T'.2.2.2.2.2.2.2 e) (x5 + 1) (xA x T' g') := by
  rw [m_X6_kind_33_s, if_neg h5, h, Option.bind_some, gd_nI he (by omega), nI_clamp (by omega)]
  show (Option.bind (m_X4_passMonths x2 ((A.1, A.2.1, A.2.2.1, A.2.2.2.1, A.2.2.2.2.1, A.2.2.2.2.2.1, upd A.2.2.2.2.2.2.1 e x5, A.2.2.2.2.2.2.2), x.2.2.2.1)) fun u3 => pv_gd (nI e) 8 (if u3.1.2.2.2.2.2.2.2 e ≤ x4 then m_X6_kind_33 n (nI e) x2 x3 x4 (x5 + 1) (xA x u3.1 u3.2) else pv_gd (nI e) 8 (m_X6_kind_33 n (nI e) x2 x5 (u3.1.2.2.2.2.2.2.2 e) (x5 + 1) (xA x u3.1 u3.2)))) = _
  rw [p1, Option.bind_some, gd_nI he (by omega), gd_nI he (by omega)]
theorem km_step (n : Nat) (x2 x3 x4 x5 : Int32) {m w' m3 : pv_MT} {e : Nat} (he : e < 8) (h5 : ¬ 5 < x5) (p2 : m_X7_goesFor x2 (upd m.1 (15 + 2 * e) x5, m.2) = some w') (b1 : m_X7_putsBack w' = some m3) :
    m_X7_kind_38 (n + 1) (nI e) x2 x3 x4 x5 m = if w'.1 (16 + 2 * e) ≤ x4 then m_X7_kind_38 n (nI e) x2 x3 x4 (x5 + 1) m3 else m_X7_kind_38 n (nI e) x2 x5 (w'.1 (16 + 2 * e)) (x5 + 1) m3 := by
  rw [m_X7_kind_38_s, if_neg h5, show (15 : Int32) = nI 15 from rfl, show (2 : Int32) = nI 2 from rfl, pk_mul, nI_add, gd_nI (by omega) (by omega), nI_clamp (by omega)]
  show (Option.bind (m_X7_goesFor x2 (upd m.1 (15 + 2 * e) x5, m.2)) fun u8 => Option.bind (m_X7_it (nI e) 1 u8) fun u9 => Option.bind (m_X7_putsBack u8) fun u10 => if u9 ≤ x4 then m_X7_kind_87 (m_X7_kind_38 n) (nI e) x2 x4 x5 u9 x3 u10 else m_X7_kind_87 (m_X7_kind_38 n) (nI e) x2 x4 x5 u9 x5 u10) = _
  rw [p2, Option.bind_some, it_1 w' he, Option.bind_some, b1, Option.bind_some]
  unfold m_X7_kind_87 m_X7_kind_102
  by_cases q : w'.1 (16 + 2 * e) ≤ x4
  · rw [if_pos q, if_pos q, if_pos q]
  · rw [if_neg q, if_neg q, if_neg q]
theorem kindL (e : Nat) (he : e < 8) (nn : Nat) (hnn : nn ≤ 40) : ∀ (k i n n2 : Nat) (b most : Int32) (x : pv_XT) (m : pv_MT), i + k = 6 → k < n → k < n2 → Th x m → RT x.1 m.1 →
    Sim (m_X6_kind_33 n (nI e) (nI nn) b most (nI i) x) (m_X7_kind_38 n2 (nI e) (nI nn) b most (nI i) m)
  | 0, i, n, n2, b, most, x, m, hi, hn, hn2, hT, hR => by
    obtain ⟨n, rfl⟩ : ∃ n', n = n' + 1 := ⟨n - 1, by omega⟩
    obtain ⟨n2, rfl⟩ : ∃ n', n2 = n' + 1 := ⟨n2 - 1, by omega⟩
    have h1 : (6 : Int32) ≤ nI i := nI_le (a := 6) (by omega) (by omega)
    have h2 : (5 : Int32) < nI i := nI_lt (a := 5) (by omega) (by omega)
    rw [m_X6_kind_33_s, m_X7_kind_38_s, if_pos h1, if_pos h2]
    exact ⟨_, _, _, rfl, rfl, Th_Rel hT hR⟩
  | k + 1, i, n, n2, b, most, x, m, hi, hn, hn2, hT, hR => by
    obtain ⟨n, rfl⟩ : ∃ n', n = n' + 1 := ⟨n - 1, by omega⟩
    obtain ⟨n2, rfl⟩ : ∃ n', n2 = n' + 1 := ⟨n2 - 1, by omega⟩
    have h1 : ¬ (6 : Int32) ≤ nI i := nI_ge (b := 6) (by omega) (by omega)
    have h2 : ¬ (5 : Int32) < nI i := nI_nlt (a := 5) (by omega) (by omega)
    obtain ⟨A, a1, a2, a3, a4⟩ := ahead_0 hR hT.2.1
    obtain ⟨T', g', w', p1, p2, p3, p4, p5, p6, p7⟩ := months_ok (w := (upd m.1 (15 + 2 * e) (nI i), m.2)) x.2.2.2.1 nn (by omega) (RT_knd a2 he (nI i)) (IT_knd a3 (by omega)) (by omega)
    obtain ⟨m3, b1, b2, b3, b4⟩ := putsBack_ok (Th_core (m := m) p5 hT)
    have ew : w'.1 (16 + 2 * e) = T'.2.2.2.2.2.2.2 e := p3.2.2.2.2.2.2.2 e he
    rw [kd_step n (nI nn) b most (nI i) he h1 a1 p1, km_step n2 (nI nn) b most (nI i) he h2 p2 b1, nI_1, ew]
    by_cases q : T'.2.2.2.2.2.2.2 e ≤ most
    · rw [if_pos q, if_pos q]
      exact kindL e he nn hnn k (i + 1) n n2 b most (xA x T' g') m3 (by omega) (by omega) (by omega) b2 b3
    · rw [if_neg q, if_neg q]
      exact kindL e he nn hnn k (i + 1) n n2 (nI i) (T'.2.2.2.2.2.2.2 e) (xA x T' g') m3 (by omega) (by omega) (by omega) b2 b3
theorem sim_kind (v0 : Int32) (v1 : Int32) (x : pv_XT) (mm : pv_MT) (hR : Rel x mm) : ∃ (r : Int32) (x2 : pv_XT) (m2 : pv_MT), m_X6_kind v0 v1 x = some (r, x2) ∧ m_X7_kind v0 v1 mm = some (r, m2) ∧ Rel x2 m2 := by
  show Sim (m_X6_kind v0 v1 x) (m_X7_kind v0 v1 mm)
  unfold m_X6_kind m_X7_kind
  rcases envoy_c hR v0 with ⟨h1, h2⟩ | ⟨k, N, hk, hN, eN, rfl, h1, h2⟩
  · rw [h1, h2, if_pos rfl]; exact S_bey hR
  · rw [h1, h2, if_neg (by decide), Option.bind_some, if_neg (show ¬ (1 : Int32) = 0 by decide)]
    rcases win_c v1 1 40 (by omega) (by omega) with ⟨c1, c2⟩ | ⟨n, -, hn, rfl, c1, c2⟩
    · have c1' : m_X6_isWithin v1 1 40 = 0 := c1
      have c2' : m_X7_in v1.toInt64 1 40 = 0 := c2
      rw [c1', c2', if_pos rfl, if_pos rfl]; exact S_bey hR
    · have c1' : m_X6_isWithin (nI n) 1 40 = 1 := c1
      have c2' : m_X7_in (nI n).toInt64 1 40 = 1 := c2
      obtain ⟨m1, t1, t2, t3⟩ := thinks_ok hR
      have e1 : m_X6_kind_33 300 (nI k) (nI n) 0 (-1) 0 x = m_X6_kind_33 300 (nI k) (nI n) 0 (-1) (nI 0) x := rfl
      have e2 : m_X7_kind_38 300 (nI k) (nI n) 0 (-1) 0 m1 = m_X7_kind_38 300 (nI k) (nI n) 0 (-1) (nI 0) m1 := rfl
      rw [c1', c2', if_neg (show ¬ (1 : Int32) = 0 by decide), if_neg (show ¬ (1 : Int32) = 0 by decide), t1, Option.bind_some, e1, e2]
      exact kindL k (by omega) n hn 6 0 300 300 0 (-1) x m1 (by omega) (by omega) (by omega) t2 (by rw [t3]; exact hR.1)
/-! rest -/
def snT (T : pv_TT) (a b : Int32) : pv_TT := (T.1, T.2.1, T.2.2.1, T.2.2.2.1, T.2.2.2.2.1, upd (upd T.2.2.2.2.2.1 0 a) 1 b, T.2.2.2.2.2.2)
theorem snT_RT {T : pv_TT} {f : Nat → Int32} (hR : RT T f) (a b : Int32) : RT (snT T a b) (upd (upd f 3 a) 4 b) := RT_snt (p := 1) (RT_snt (p := 0) hR (by omega) a) (by omega) b
theorem snT_IT {T : pv_TT} {B N : Nat} {a b : Int32} (hI : IT T B) (hN : T.2.2.1 = nI N) (hN8 : N ≤ 8) (ha : a = -1 ∨ ∃ e, e < N ∧ a = nI e) (hb : b = -1 ∨ ∃ e, e < N ∧ b = nI e) : IT (snT T a b) B := IT_snt (p := 1) (IT_snt (p := 0) hI hN hN8 ha) hN hN8 hb
theorem idle_x (x1 : Int32) (x : pv_XT) {T' : pv_TT} {g' : pv_GT} (p1 : m_X4_passMonths x1 (snT (bcm x.2.2.1 x.1) (-1) (-1), x.2.2.2.1) = some (T', g')) :
    m_X6_lookAheadIdle x1 x = some (xA x (snT T' (x.1.2.2.2.2.2.1 0) (x.1.2.2.2.2.2.1 1)) g') := by
  unfold m_X6_lookAheadIdle
  rw [become_eq, Option.bind_some]
  show (Option.bind (m_X4_passMonths x1 (snT (bcm x.2.2.1 x.1) (-1) (-1), x.2.2.2.1)) fun u => some (xA x (snT u.1 (x.1.2.2.2.2.2.1 0) (x.1.2.2.2.2.2.1 1)) u.2)) = _
  rw [p1]
  rfl
theorem rs_step (n : Nat) (x1 x2 x3 x4 x5 : Int32) {x : pv_XT} {A T' : pv_TT} {g g' : pv_GT} {c : Int32} (h5 : ¬ 30 < x5) (h : m_X6_lookAheadIdle x5 x = some (xA x A g)) (p1 : m_X4_passMonths x2 (A, g) = some (T', g')) (o1 : m_X4_owned x1 T' = some c) :
    m_X6_rest_32 (n + 1) x1 x2 x3 x4 x5 x = if c ≤ x4 then m_X6_rest_32 n x1 x2 x3 x4 (x5 + 1) (xA x T' g') else m_X6_rest_32 n x1 x2 x5 c (x5 + 1) (xA x T' g') := by
  rw [m_X6_rest_32_s, if_neg h5, h]
  show (Option.bind (m_X4_passMonths x2 (A, g)) fun u3 => Option.bind (m_X4_owned x1 u3.1) fun u4 => if u4 ≤ x4 then m_X6_rest_32 n x1 x2 x3 x4 (x5 + 1) (xA x u3.1 u3.2) else Option.bind (m_X4_owned x1 u3.1) fun u6 => m_X6_rest_32 n x1 x2 x5 u6 (x5 + 1) (xA x u3.1 u3.2)) = _
  rw [p1]
  show (Option.bind (m_X4_owned x1 T') fun u4 => if u4 ≤ x4 then m_X6_rest_32 n x1 x2 x3 x4 (x5 + 1) (xA x T' g') else Option.bind (m_X4_owned x1 T') fun u6 => m_X6_rest_32 n x1 x2 x5 u6 (x5 + 1) (xA x T' g')) = _
  rw [o1, Option.bind_some]
  rfl
theorem rm_step (n : Nat) (x1 x2 x3 x4 x5 : Int32) {m w w' m3 : pv_MT} {c : Int32} (h5 : ¬ 30 < x5) (p1 : m_X7_goesFor x5 (upd (upd m.1 3 (-1)) 4 (-1), m.2) = some w) (p2 : m_X7_goesFor x2 (upd (upd w.1 3 (w.2.2.1 3)) 4 (w.2.2.1 4), w.2) = some w')
    (o2 : ∀ {β : Type} (k : Int32 → Option β), (Option.bind (m_X7_landsOf x1 w') fun u => Option.bind (m_X7_bits u) fun u2 => k u2) = k c) (b1 : m_X7_putsBack w' = some m3) :
    m_X7_rest_37 (n + 1) x1 x2 x3 x4 x5 m = if c ≤ x4 then m_X7_rest_37 n x1 x2 x3 x4 (x5 + 1) m3 else m_X7_rest_37 n x1 x2 x5 c (x5 + 1) m3 := by
  rw [m_X7_rest_37_s, if_neg h5]
  show (Option.bind (m_X7_goesFor x5 (upd (upd m.1 3 (-1)) 4 (-1), m.2)) fun u7 => Option.bind (m_X7_goesFor x2 (upd (upd u7.1 3 (u7.2.2.1 3)) 4 (u7.2.2.1 4), u7.2)) fun u8 => Option.bind (m_X7_landsOf x1 u8) fun u9 => Option.bind (m_X7_bits u9) fun u10 => Option.bind (m_X7_putsBack u8) fun u11 => if u10 ≤ x4 then m_X7_rest_120 (m_X7_rest_37 n) x1 x2 x4 x5 u10 x3 u11 else m_X7_rest_120 (m_X7_rest_37 n) x1 x2 x4 x5 u10 x5 u11) = _
  rw [p1, Option.bind_some, p2, Option.bind_some, o2, b1, Option.bind_some]
  unfold m_X7_rest_120 m_X7_rest_135
  by_cases q : c ≤ x4
  · rw [if_pos q, if_pos q, if_pos q]
  · rw [if_neg q, if_neg q, if_neg q]
theorem restL (st : Int32) (nn : Nat) (hnn : nn ≤ 40) : ∀ (k i n n2 : Nat) (b most : Int32) (x : pv_XT) (m : pv_MT), i + k = 31 → k < n → k < n2 → Th x m → RT x.1 m.1 →
    Sim (m_X6_rest_32 n st (nI nn) b most (nI i) x) (m_X7_rest_37 n2 st (nI nn) b most (nI i) m)
  | 0, i, n, n2, b, most, x, m, hi, hn, hn2, hT, hR => by
    obtain ⟨n, rfl⟩ : ∃ n', n = n' + 1 := ⟨n - 1, by omega⟩
    obtain ⟨n2, rfl⟩ : ∃ n', n2 = n' + 1 := ⟨n2 - 1, by omega⟩
    have h1 : (30 : Int32) < nI i := nI_lt (a := 30) (by omega) (by omega)
    rw [m_X6_rest_32_s, m_X7_rest_37_s, if_pos h1, if_pos h1]
    exact ⟨_, _, _, rfl, rfl, Th_Rel hT hR⟩
  | k + 1, i, n, n2, b, most, x, m, hi, hn, hn2, hT, hR => by
    obtain ⟨n, rfl⟩ : ∃ n', n = n' + 1 := ⟨n - 1, by omega⟩
    obtain ⟨n2, rfl⟩ : ∃ n', n2 = n' + 1 := ⟨n2 - 1, by omega⟩
    have h1 : ¬ (30 : Int32) < nI i := nI_nlt (a := 30) (by omega) (by omega)
    obtain ⟨N, hN, eN, hS⟩ := hT.2.1.2.2.1
    have eN2 : (bcm x.2.2.1 x.1).2.2.1 = nI N := eN
    obtain ⟨T1, g1, w1, p1, p2, p3, p4, p5, p6, p7⟩ := months_ok (w := (upd (upd m.1 3 (-1)) 4 (-1), m.2)) x.2.2.2.1 i (by omega) (snT_RT (bcm_RT x.2.2.1 hR) (-1) (-1)) (snT_IT (bcm_IT x.2.2.1 hT.2.1) eN2 hN (Or.inl rfl) (Or.inl rfl)) (by omega)
    have p6' : T1.2.2.1 = nI N := p6.trans eN
    have hTw : Th x w1 := Th_core (m := m) p5 hT
    have w3 : w1.2.2.1 3 = x.1.2.2.2.2.2.1 0 := hTw.1.2.2.2.1 0 (by omega)
    have w4 : w1.2.2.1 4 = x.1.2.2.2.2.2.1 1 := hTw.1.2.2.2.1 1 (by omega)
    obtain ⟨T', g', w', q1, q2, q3, q4, q5, q6, q7⟩ := months_ok (w := (upd (upd w1.1 3 (x.1.2.2.2.2.2.1 0)) 4 (x.1.2.2.2.2.2.1 1), w1.2)) g1 nn (by omega) (snT_RT p3 (x.1.2.2.2.2.2.1 0) (x.1.2.2.2.2.2.1 1)) (snT_IT p4 p6' hN (hS 0 (by omega)) (hS 1 (by omega))) (by omega)
    obtain ⟨c, hc, o1, o2⟩ := bits_own q3 st
    obtain ⟨m3, b1, b2, b3, b4⟩ := putsBack_ok (Th_core (m := w1) q5 hTw)
    rw [rs_step n st (nI nn) b most (nI i) h1 (idle_x (nI i) x p1) q1 o1, rm_step n2 st (nI nn) b most (nI i) h1 p2 (by rw [w3, w4]; exact q2) o2 b1, nI_1]
    by_cases q : nI c ≤ most
    · rw [if_pos q, if_pos q]
      exact restL st nn hnn k (i + 1) n n2 b most (xA x T' g') m3 (by omega) (by omega) (by omega) b2 b3
    · rw [if_neg q, if_neg q]
      exact restL st nn hnn k (i + 1) n n2 (nI i) (nI c) (xA x T' g') m3 (by omega) (by omega) (by omega) b2 b3
theorem sim_rest (v0 : Int32) (v1 : Int32) (x : pv_XT) (mm : pv_MT) (hR : Rel x mm) : ∃ (r : Int32) (x2 : pv_XT) (m2 : pv_MT), m_X6_rest v0 v1 x = some (r, x2) ∧ m_X7_rest v0 v1 mm = some (r, m2) ∧ Rel x2 m2 := by
  show Sim (m_X6_rest v0 v1 x) (m_X7_rest v0 v1 mm)
  unfold m_X6_rest m_X7_rest
  rcases state_c v0 with ⟨h1, h2⟩ | ⟨s, hs, rfl, h1, h2⟩
  · rw [h1, h2, if_pos rfl]; exact S_bey hR
  · rw [h1, h2, if_neg (by decide), Option.bind_some, if_neg (show ¬ (1 : Int32) = 0 by decide)]
    rcases win_c v1 1 30 (by omega) (by omega) with ⟨c1, c2⟩ | ⟨n, -, hn, rfl, c1, c2⟩
    · have c1' : m_X6_isWithin v1 1 30 = 0 := c1
      have c2' : m_X7_in v1.toInt64 1 30 = 0 := c2
      rw [c1', c2', if_pos rfl, if_pos rfl]; exact S_bey hR
    · have c1' : m_X6_isWithin (nI n) 1 30 = 1 := c1
      have c2' : m_X7_in (nI n).toInt64 1 30 = 1 := c2
      obtain ⟨m1, t1, t2, t3⟩ := thinks_ok hR
      have e1 : m_X6_rest_32 300 (nI s) (nI n) 0 (-1) 0 x = m_X6_rest_32 300 (nI s) (nI n) 0 (-1) (nI 0) x := rfl
      have e2 : m_X7_rest_37 300 (nI s) (nI n) 0 (-1) 0 m1 = m_X7_rest_37 300 (nI s) (nI n) 0 (-1) (nI 0) m1 := rfl
      rw [c1', c2', if_neg (show ¬ (1 : Int32) = 0 by decide), if_neg (show ¬ (1 : Int32) = 0 by decide), t1, Option.bind_some, e1, e2]
      exact restL (nI s) n (by omega) 31 0 300 300 0 (-1) x m1 (by omega) (by omega) (by omega) t2 (by rw [t3]; exact hR.1)
/-! champion -/
theorem ch_x (n : Nat) (x2 x3 : Int32) (x : pv_XT) (A : pv_TT) (g : pv_GT) : m_X6_champion_43 (n + 1) x2 x3 (xA x A g) = (if A.2.2.1 ≤ x3 then some (x2, xA x A g) else pv_gd x3 8 (pv_gd x2 8 (if A.2.2.2.2.2.2.2 x3.toNatClampNeg ≤ A.2.2.2.2.2.2.2 x2.toNatClampNeg then m_X6_champion_43 n x2 (x3 + 1) (xA x A g) else m_X6_champion_43 n x3 (x3 + 1) (xA x A g)))) := rfl
theorem champL (x : pv_XT) (A : pv_TT) (g : pv_GT) (m : pv_MT) (N : Nat) (hN : N ≤ 8) (eN : A.2.2.1 = nI N) (hT : Th x m) (hA : RT A m.1) : ∀ (k i n n2 b : Nat), i + k = N → k < n → k < n2 → b < i →
    Sim (m_X6_champion_43 n (nI b) (nI i) (xA x A g)) (m_X7_champion_31 n2 (nI b) (nI i) m)
  | 0, i, n, n2, b, hi, hn, hn2, hb => by
    obtain ⟨n, rfl⟩ : ∃ n', n = n' + 1 := ⟨n - 1, by omega⟩
    obtain ⟨n2, rfl⟩ : ∃ n', n2 = n' + 1 := ⟨n2 - 1, by omega⟩
    have h1 : A.2.2.1 ≤ nI i := by rw [eN]; exact nI_le (by omega) (by omega)
    have h2 : m.1 2 ≤ nI i := by rw [hA.2.2.1]; exact h1
    obtain ⟨m3, b1, b2, b3, b4⟩ := putsBack_ok hT
    rw [ch_x, m_X7_champion_31_s, if_pos h1, if_pos h2, b1, Option.bind_some, bind_eta]
    unfold m_X7_orNone
    have z : 0 ≤ nI b := nI_pos' (by omega)
    rw [if_pos z]
    exact ⟨_, _, _, rfl, rfl, Th_Rel (x := xA x A g) b2 b3⟩
  | k + 1, i, n, n2, b, hi, hn, hn2, hb => by
    obtain ⟨n, rfl⟩ : ∃ n', n = n' + 1 := ⟨n - 1, by omega⟩
    obtain ⟨n2, rfl⟩ : ∃ n', n2 = n' + 1 := ⟨n2 - 1, by omega⟩
    have h1 : ¬ A.2.2.1 ≤ nI i := by rw [eN]; exact nI_ge (by omega) (by omega)
    have h2 : ¬ m.1 2 ≤ nI i := by rw [hA.2.2.1]; exact h1
    have z : ¬ nI b < 0 := nI_pos (by omega)
    have ei : m.1 (16 + 2 * i) = A.2.2.2.2.2.2.2 i := hA.2.2.2.2.2.2.2 i (by omega)
    have eb : m.1 (16 + 2 * b) = A.2.2.2.2.2.2.2 b := hA.2.2.2.2.2.2.2 b (by omega)
    rw [ch_x, m_X7_champion_31_s, if_neg h1, if_neg h2, if_neg z, gd_nI (by omega) (by omega), gd_nI (by omega) (by omega), nI_clamp (by omega), nI_clamp (by omega), it_1 m (by omega), Option.bind_some, it_1 m (by omega), Option.bind_some, ei, eb]
    unfold m_X7_champion_60 m_X7_champion_65
    rw [nI_1]
    by_cases q : A.2.2.2.2.2.2.2 i ≤ A.2.2.2.2.2.2.2 b
    · rw [if_pos q, if_pos q]
      exact champL x A g m N hN eN hT hA k (i + 1) n n2 b (by omega) (by omega) (by omega) (by omega)
    · rw [if_neg q, if_neg q]
      exact champL x A g m N hN eN hT hA k (i + 1) n n2 i (by omega) (by omega) (by omega) (by omega)
theorem sim_champion (v0 : Int32) (x : pv_XT) (mm : pv_MT) (hR : Rel x mm) : ∃ (r : Int32) (x2 : pv_XT) (m2 : pv_MT), m_X6_champion v0 x = some (r, x2) ∧ m_X7_champion v0 mm = some (r, m2) ∧ Rel x2 m2 := by
  show Sim (m_X6_champion v0 x) (m_X7_champion v0 mm)
  unfold m_X6_champion m_X7_champion
  rcases win_c v0 0 100 (by omega) (by omega) with ⟨c1, c2⟩ | ⟨n, -, hn, rfl, c1, c2⟩
  · have c1' : m_X6_isWithin v0 0 100 = 0 := c1
    have c2' : m_X7_in v0.toInt64 0 100 = 0 := c2
    rw [c1', c2', if_pos rfl, if_pos rfl]; exact S_bey hR
  · have c1' : m_X6_isWithin (nI n) 0 100 = 1 := c1
    have c2' : m_X7_in (nI n).toInt64 0 100 = 1 := c2
    obtain ⟨N, hN, eN, -⟩ := hR.2.1.2.2.1
    obtain ⟨m1, t1, t2, t3⟩ := thinks_ok hR
    obtain ⟨A, g, m2, p1, p2, p3, p4, p5, p6⟩ := ahead_ok (x := x) (m := m1) (by rw [t3]; exact hR.1) hR.2.1 n (by omega)
    have hT2 : Th x m2 := Th_core p5 t2
    have eA : A.2.2.1 = nI N := p6.trans eN
    have em : m2.1 2 = nI N := p3.2.2.1.trans eA
    have e3 : m_X7_champion_31 300 (-1) 0 m2 = m_X7_champion_31 (299 + 1) (-1) (nI 0) m2 := rfl
    rw [c1', c2', if_neg (show ¬ (1 : Int32) = 0 by decide), if_neg (show ¬ (1 : Int32) = 0 by decide), t1, Option.bind_some, p2, Option.bind_some, p1, Option.bind_some, e3, m_X7_champion_31_s, em]
    by_cases h0 : N = 0
    · subst h0
      have q : x.1.2.2.1 = 0 := eN
      obtain ⟨m3, b1, b2, b3, b4⟩ := putsBack_ok hT2
      rw [if_pos q, if_pos (show nI 0 ≤ nI 0 by decide), b1, Option.bind_some, bind_eta]
      unfold m_X7_orNone
      rw [if_neg (show ¬ (0 : Int32) ≤ -1 by decide)]
      exact S_none (Th_Rel b2 b3)
    · have q : ¬ x.1.2.2.1 = 0 := by rw [eN]; exact nI_ne0 (by omega) (by omega)
      have h2 : ¬ nI N ≤ nI 0 := nI_ge (by omega) (by omega)
      have e4 : m_X6_champion_43 300 0 1 (xA x A g) = m_X6_champion_43 300 (nI 0) (nI 1) (xA x A g) := rfl
      rw [if_neg q, if_neg h2, if_pos (show (-1 : Int32) < 0 by decide), e4]
      unfold m_X7_champion_60 m_X7_champion_65
      rw [nI_1]
      exact champL x A g m2 N hN eA hT2 p3 (N - 1) 1 300 299 0 (by omega) (by omega) (by omega) (by omega)
