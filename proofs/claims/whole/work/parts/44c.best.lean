/-! WHAT IS BEST: MIXES AND ENVOYS -/
theorem nI_nle1 {c : Nat} (h : c < 2 ^ 31) : ¬ nI c ≤ (-1) := by
  intro q
  have h1 : (nI c).toInt ≤ (-1 : Int32).toInt := (fa_le _ _).mp q
  rw [nI_toInt h] at h1
  have h2 : (-1 : Int32).toInt = -1 := by decide
  omega
theorem bm_step (n : Nat) (x1 x2 x3 x4 x5 : Int32) {x : pv_XT} {A T' : pv_TT} {g' : pv_GT} {c : Int32} (h5 : ¬ 31 < x5) (h : m_X4_become (x.2.2.1, x.1) = some (A, x.1)) (p1 : m_X4_passMonths x2 ((A.1, x5, A.2.2), x.2.2.2.1) = some (T', g')) (o1 : m_X4_owned x1 T' = some c) :
    m_X6_bestMix_8 (n + 1) x1 x2 x3 x4 x5 x = if c ≤ x4 then m_X6_bestMix_8 n x1 x2 x3 x4 (x5 + 2) (xA x T' g') else m_X6_bestMix_8 n x1 x2 x5 c (x5 + 2) (xA x T' g') := by
  rw [m_X6_bestMix_8_s, if_neg h5, h]
  show (Option.bind (m_X4_passMonths x2 ((A.1, x5, A.2.2), x.2.2.2.1)) fun u3 => Option.bind (m_X4_owned x1 u3.1) fun u4 => if u4 ≤ x4 then m_X6_bestMix_8 n x1 x2 x3 x4 (x5 + 2) (xA x u3.1 u3.2) else Option.bind (m_X4_owned x1 u3.1) fun u6 => m_X6_bestMix_8 n x1 x2 x5 u6 (x5 + 2) (xA x u3.1 u3.2)) = _
  rw [p1]
  show (Option.bind (m_X4_owned x1 T') fun u4 => if u4 ≤ x4 then m_X6_bestMix_8 n x1 x2 x3 x4 (x5 + 2) (xA x T' g') else Option.bind (m_X4_owned x1 T') fun u6 => m_X6_bestMix_8 n x1 x2 x5 u6 (x5 + 2) (xA x T' g')) = _
  rw [o1, Option.bind_some]
  rfl
theorem ba_step (n : Nat) (x3 x4 x5 x6 x7 x8 x9 : Int32) {m w' m3 : pv_MT} {j : Nat} {c : Int32} (hj : j < 31) (h9 : ¬ x4 < x9) (p2 : m_X7_goesFor x6 (upd m.1 j x9, m.2) = some w')
    (o2 : ∀ {β : Type} (k : Int32 → Option β), (Option.bind (m_X7_landsOf x5 w') fun u => Option.bind (m_X7_bits u) fun u2 => k u2) = k c) (b1 : m_X7_putsBack w' = some m3) :
    m_X7_bestAt_13 (n + 1) (nI j) x3 x4 x5 x6 x7 x8 x9 m = if c ≤ x8 then m_X7_bestAt_13 n (nI j) x3 x4 x5 x6 x7 x8 (x9 + x3) m3 else m_X7_bestAt_13 n (nI j) x3 x4 x5 x6 x9 c (x9 + x3) m3 := by
  rw [m_X7_bestAt_13_s, if_neg h9, gd_nI hj (by omega), nI_clamp (by omega)]
  show (Option.bind (m_X7_goesFor x6 (upd m.1 j x9, m.2)) fun u4 => Option.bind (m_X7_landsOf x5 u4) fun u5 => Option.bind (m_X7_bits u5) fun u6 => Option.bind (m_X7_putsBack u4) fun u7 => if u6 ≤ x8 then m_X7_bestAt_63 (m_X7_bestAt_13 n) (nI j) x3 x4 x5 x6 x8 x9 u6 x7 u7 else m_X7_bestAt_63 (m_X7_bestAt_13 n) (nI j) x3 x4 x5 x6 x8 x9 u6 x9 u7) = _
  rw [p2, Option.bind_some, o2, b1, Option.bind_some]
  unfold m_X7_bestAt_63 m_X7_bestAt_79
  by_cases q : c ≤ x8
  · rw [if_pos q, if_pos q, if_pos q]
  · rw [if_neg q, if_neg q, if_neg q]
theorem mixL (st : Int32) (nn : Nat) (hnn : nn ≤ 40) : ∀ (k i n n2 : Nat) (bx bm most : Int32) (x : pv_XT) (m : pv_MT), i + 2 * k = 33 → i % 2 = 1 → k < n → k < n2 → Th x m → RT x.1 m.1 → (bx = bm ∨ (most = -1 ∧ 0 < k)) →
    Sim (m_X6_bestMix_8 n st (nI nn) bx most (nI i) x) (m_X7_bestAt_13 n2 (nI 1) 2 31 st (nI nn) bm most (nI i) m)
  | 0, i, n, n2, bx, bm, most, x, m, hi, hi2, hn, hn2, hT, hR, hb => by
    obtain ⟨n, rfl⟩ : ∃ n', n = n' + 1 := ⟨n - 1, by omega⟩
    obtain ⟨n2, rfl⟩ : ∃ n', n2 = n' + 1 := ⟨n2 - 1, by omega⟩
    have h1 : (31 : Int32) < nI i := nI_lt (a := 31) (by omega) (by omega)
    rw [m_X6_bestMix_8_s, m_X7_bestAt_13_s, if_pos h1, if_pos h1]
    rcases hb with rfl | ⟨-, h⟩
    · exact ⟨_, _, _, rfl, rfl, Th_Rel hT hR⟩
    · omega
  | k + 1, i, n, n2, bx, bm, most, x, m, hi, hi2, hn, hn2, hT, hR, hb => by
    obtain ⟨n, rfl⟩ : ∃ n', n = n' + 1 := ⟨n - 1, by omega⟩
    obtain ⟨n2, rfl⟩ : ∃ n', n2 = n' + 1 := ⟨n2 - 1, by omega⟩
    have h1 : ¬ (31 : Int32) < nI i := nI_nlt (a := 31) (by omega) (by omega)
    obtain ⟨A, a1, a2, a3, a4⟩ := ahead_0 hR hT.2.1
    obtain ⟨T', g', w', p1, p2, p3, p4, p5, p6, p7⟩ := months_ok (w := (upd m.1 1 (nI i), m.2)) x.2.2.2.1 nn (by omega) (RT_mix a2 (nI i)) (IT_mix a3 (by omega) hi2) (by omega)
    obtain ⟨c, hc, o1, o2⟩ := bits_own p3 st
    obtain ⟨m3, b1, b2, b3, b4⟩ := putsBack_ok (Th_core (m := m) p5 hT)
    rw [bm_step n st (nI nn) bx most (nI i) h1 a1 p1 o1, ba_step n2 2 31 st (nI nn) bm most (nI i) (by omega) h1 p2 o2 b1]
    have e2 : nI i + 2 = nI (i + 2) := nI_add i 2
    rw [e2]
    by_cases q : nI c ≤ most
    · rw [if_pos q, if_pos q]
      have hb2 : bx = bm := by
        rcases hb with h | ⟨h, -⟩
        · exact h
        · rw [h] at q; exact absurd q (nI_nle1 (by omega))
      exact mixL st nn hnn k (i + 2) n n2 bx bm most (xA x T' g') m3 (by omega) (by omega) (by omega) (by omega) b2 b3 (Or.inl hb2)
    · rw [if_neg q, if_neg q]
      exact mixL st nn hnn k (i + 2) n n2 (nI i) (nI i) (nI c) (xA x T' g') m3 (by omega) (by omega) (by omega) (by omega) b2 b3 (Or.inl rfl)
theorem mix_top (st : Int32) (nn : Nat) (hnn : nn ≤ 40) {x : pv_XT} {m : pv_MT} (hR : Rel x m) : Sim (m_X6_bestMix st (nI nn) x) (m_X7_bestAt 1 1 2 31 st (nI nn) m) := by
  obtain ⟨m1, t1, t2, t3⟩ := thinks_ok hR
  have e1 : m_X6_bestMix st (nI nn) x = m_X6_bestMix_8 300 st (nI nn) 1 (-1) (nI 1) x := rfl
  have e2 : m_X7_bestAt_13 300 1 2 31 st (nI nn) (-1) (-1) 1 m1 = m_X7_bestAt_13 300 (nI 1) 2 31 st (nI nn) (-1) (-1) (nI 1) m1 := rfl
  unfold m_X7_bestAt
  rw [t1, Option.bind_some, e1, e2]
  exact mixL st nn hnn 16 1 300 300 1 (-1) (-1) x m1 (by omega) (by omega) (by omega) (by omega) t2 (by rw [t3]; exact hR.1) (Or.inr ⟨rfl, by omega⟩)
theorem sim_mixed (v0 : Int32) (v1 : Int32) (x : pv_XT) (mm : pv_MT) (hR : Rel x mm) : ∃ (r : Int32) (x2 : pv_XT) (m2 : pv_MT), m_X6_mixed v0 v1 x = some (r, x2) ∧ m_X7_mixed v0 v1 mm = some (r, m2) ∧ Rel x2 m2 := by
  show Sim (m_X6_mixed v0 v1 x) (m_X7_mixed v0 v1 mm)
  unfold m_X6_mixed m_X7_mixed
  rcases state_c v0 with ⟨h1, h2⟩ | ⟨s, hs, rfl, h1, h2⟩
  · rw [h1, h2, if_pos rfl]; exact S_bey hR
  · rw [h1, h2, if_neg (by decide), Option.bind_some, if_neg (show ¬ (1 : Int32) = 0 by decide)]
    rcases win_c v1 1 40 (by omega) (by omega) with ⟨c1, c2⟩ | ⟨n, -, hn, rfl, c1, c2⟩
    · have c1' : m_X6_isWithin v1 1 40 = 0 := c1
      have c2' : m_X7_in v1.toInt64 1 40 = 0 := c2
      rw [c1', c2', if_pos rfl, if_pos rfl]; exact S_bey hR
    · have c1' : m_X6_isWithin (nI n) 1 40 = 1 := c1
      have c2' : m_X7_in (nI n).toInt64 1 40 = 1 := c2
      rw [c1', c2', if_neg (show ¬ (1 : Int32) = 0 by decide), if_neg (show ¬ (1 : Int32) = 0 by decide), bind_eta, bind_eta]
      exact mix_top (nI s) n hn hR
theorem sim_peace (v0 : Int32) (x : pv_XT) (mm : pv_MT) (hR : Rel x mm) : ∃ (r : Int32) (x2 : pv_XT) (m2 : pv_MT), m_X6_peace v0 x = some (r, x2) ∧ m_X7_peace v0 mm = some (r, m2) ∧ Rel x2 m2 := by
  show Sim (m_X6_peace v0 x) (m_X7_peace v0 mm)
  unfold m_X6_peace m_X7_peace
  rcases win_c v0 1 40 (by omega) (by omega) with ⟨c1, c2⟩ | ⟨n, -, hn, rfl, c1, c2⟩
  · have c1' : m_X6_isWithin v0 1 40 = 0 := c1
    have c2' : m_X7_in v0.toInt64 1 40 = 0 := c2
    rw [c1', c2', if_pos rfl, if_pos rfl]; exact S_bey hR
  · have c1' : m_X6_isWithin (nI n) 1 40 = 1 := c1
    have c2' : m_X7_in (nI n).toInt64 1 40 = 1 := c2
    rw [c1', c2', if_neg (show ¬ (1 : Int32) = 0 by decide), if_neg (show ¬ (1 : Int32) = 0 by decide), bind_eta, bind_eta]
    exact mix_top (-1) n hn hR
/-! whom to send -/
theorem bs_step (n : Nat) (x2 x3 x4 x5 : Int32) {x : pv_XT} {A T' : pv_TT} {g' : pv_GT} {c : Int32} {s : Nat} (hs : s < 2) (h5 : ¬ x.1.2.2.1 ≤ x5) (h : m_X4_become (x.2.2.1, x.1) = some (A, x.1))
    (p1 : m_X4_passMonths x2 ((A.1, A.2.1, A.2.2.1, A.2.2.2.1, A.2.2.2.2.1, upd A.2.2.2.2.2.1 s x5, A.2.2.2.2.2.2), x.2.2.2.1) = some (T', g')) (o1 : m_X4_owned (nI s) T' = some c) :
    m_X6_best_49 (n + 1) (nI s) x2 x3 x4 x5 x = if c ≤ x4 then m_X6_best_49 n (nI s) x2 x3 x4 (x5 + 1) (xA x T' g') else m_X6_best_49 n (nI s) x2 x5 c (x5 + 1) (xA x T' g') := by
  rw [m_X6_best_49_s, if_neg h5, h, Option.bind_some, gd_nI hs (by omega), nI_clamp (by omega)]
  show (Option.bind (m_X4_passMonths x2 ((A.1, A.2.1, A.2.2.1, A.2.2.2.1, A.2.2.2.2.1, upd A.2.2.2.2.2.1 s x5, A.2.2.2.2.2.2), x.2.2.2.1)) fun u3 => Option.bind (m_X4_owned (nI s) u3.1) fun u4 => if u4 ≤ x4 then m_X6_best_49 n (nI s) x2 x3 x4 (x5 + 1) (xA x u3.1 u3.2) else Option.bind (m_X4_owned (nI s) u3.1) fun u6 => m_X6_best_49 n (nI s) x2 x5 u6 (x5 + 1) (xA x u3.1 u3.2)) = _
  rw [p1]
  show (Option.bind (m_X4_owned (nI s) T') fun u4 => if u4 ≤ x4 then m_X6_best_49 n (nI s) x2 x3 x4 (x5 + 1) (xA x T' g') else Option.bind (m_X4_owned (nI s) T') fun u6 => m_X6_best_49 n (nI s) x2 x5 u6 (x5 + 1) (xA x T' g')) = _
  rw [o1, Option.bind_some]
  rfl
theorem bestL (s : Nat) (hs : s < 2) (nn : Nat) (hnn : nn ≤ 40) (N : Nat) (hN0 : 0 < N) (hN : N ≤ 8) : ∀ (k i n n2 : Nat) (bx bm most : Int32) (x : pv_XT) (m : pv_MT), i + k = N → k < n → k < n2 → x.1.2.2.1 = nI N → Th x m → RT x.1 m.1 → ((bx = bm ∧ ∃ r, r < 8 ∧ bx = nI r) ∨ (most = -1 ∧ 0 < k)) →
    ∃ r x2 m2, r < 8 ∧ m_X6_best_49 n (nI s) (nI nn) bx most (nI i) x = some (nI r, x2) ∧ m_X7_bestAt_13 n2 (nI (3 + s)) 1 (nI (N - 1)) (nI s) (nI nn) bm most (nI i) m = some (nI r, m2) ∧ Rel x2 m2
  | 0, i, n, n2, bx, bm, most, x, m, hi, hn, hn2, hx, hT, hR, hb => by
    obtain ⟨n, rfl⟩ : ∃ n', n = n' + 1 := ⟨n - 1, by omega⟩
    obtain ⟨n2, rfl⟩ : ∃ n', n2 = n' + 1 := ⟨n2 - 1, by omega⟩
    have h1 : x.1.2.2.1 ≤ nI i := by rw [hx]; exact nI_le (by omega) (by omega)
    have h2 : nI (N - 1) < nI i := nI_lt (by omega) (by omega)
    rw [m_X6_best_49_s, m_X7_bestAt_13_s, if_pos h1, if_pos h2]
    rcases hb with ⟨rfl, r, hr, rfl⟩ | ⟨-, h⟩
    · exact ⟨r, _, _, hr, rfl, rfl, Th_Rel hT hR⟩
    · omega
  | k + 1, i, n, n2, bx, bm, most, x, m, hi, hn, hn2, hx, hT, hR, hb => by
    obtain ⟨n, rfl⟩ : ∃ n', n = n' + 1 := ⟨n - 1, by omega⟩
    obtain ⟨n2, rfl⟩ : ∃ n', n2 = n' + 1 := ⟨n2 - 1, by omega⟩
    have h1 : ¬ x.1.2.2.1 ≤ nI i := by rw [hx]; exact nI_ge (by omega) (by omega)
    have h2 : ¬ nI (N - 1) < nI i := nI_nlt (by omega) (by omega)
    obtain ⟨A, a1, a2, a3, a4⟩ := ahead_0 hR hT.2.1
    obtain ⟨T', g', w', p1, p2, p3, p4, p5, p6, p7⟩ := months_ok (w := (upd m.1 (3 + s) (nI i), m.2)) x.2.2.2.1 nn (by omega) (RT_snt a2 hs (nI i)) (IT_snt a3 (a4.trans hx) hN (Or.inr ⟨i, by omega, rfl⟩)) (by omega)
    obtain ⟨c, hc, o1, o2⟩ := bits_own p3 (nI s)
    obtain ⟨m3, b1, b2, b3, b4⟩ := putsBack_ok (Th_core (m := m) p5 hT)
    rw [bs_step n (nI nn) bx most (nI i) hs h1 a1 p1 o1, ba_step n2 1 (nI (N - 1)) (nI s) (nI nn) bm most (nI i) (by omega) h2 p2 o2 b1, nI_1]
    by_cases q : nI c ≤ most
    · rw [if_pos q, if_pos q]
      have hb2 : bx = bm ∧ ∃ r, r < 8 ∧ bx = nI r := by
        rcases hb with h | ⟨h, -⟩
        · exact h
        · rw [h] at q; exact absurd q (nI_nle1 (by omega))
      exact bestL s hs nn hnn N hN0 hN k (i + 1) n n2 bx bm most (xA x T' g') m3 (by omega) (by omega) (by omega) hx b2 b3 (Or.inl hb2)
    · rw [if_neg q, if_neg q]
      exact bestL s hs nn hnn N hN0 hN k (i + 1) n n2 (nI i) (nI i) (nI c) (xA x T' g') m3 (by omega) (by omega) (by omega) hx b2 b3 (Or.inl ⟨rfl, i, by omega, rfl⟩)
theorem sim_best (v0 : Int32) (v1 : Int32) (x : pv_XT) (mm : pv_MT) (hR : Rel x mm) : ∃ (r : Int32) (x2 : pv_XT) (m2 : pv_MT), m_X6_best v0 v1 x = some (r, x2) ∧ m_X7_best v0 v1 mm = some (r, m2) ∧ Rel x2 m2 := by
  show Sim (m_X6_best v0 v1 x) (m_X7_best v0 v1 mm)
  unfold m_X6_best m_X7_best
  rcases state_c v0 with ⟨h1, h2⟩ | ⟨s, hs, rfl, h1, h2⟩
  · rw [h1, h2, if_pos rfl]; exact S_bey hR
  · rw [h1, h2, if_neg (by decide), Option.bind_some, if_neg (show ¬ (1 : Int32) = 0 by decide)]
    rcases win_c v1 1 40 (by omega) (by omega) with ⟨c1, c2⟩ | ⟨n, -, hn, rfl, c1, c2⟩
    · have c1' : m_X6_isWithin v1 1 40 = 0 := c1
      have c2' : m_X7_in v1.toInt64 1 40 = 0 := c2
      rw [c1', c2', if_pos rfl, if_pos rfl]; exact S_bey hR
    · have c1' : m_X6_isWithin (nI n) 1 40 = 1 := c1
      have c2' : m_X7_in (nI n).toInt64 1 40 = 1 := c2
      rw [c1', c2', if_neg (show ¬ (1 : Int32) = 0 by decide), if_neg (show ¬ (1 : Int32) = 0 by decide)]
      obtain ⟨N, hN, eN, -⟩ := hR.2.1.2.2.1
      have e2 : mm.1 2 = nI N := hR.1.2.2.1.trans eN
      obtain ⟨m1, t1, t2, t3⟩ := thinks_ok hR
      have hR1 : RT x.1 m1.1 := by rw [t3]; exact hR.1
      unfold m_X7_bestAt
      rw [t1, Option.bind_some, e2]
      by_cases h0 : N = 0
      · subst h0
        have q : x.1.2.2.1 = 0 := eN
        have q2 : nI 0 - 1 < 0 := by decide
        have e3 : m_X7_bestAt_13 300 (3 + nI s) 1 (nI 0 - 1) (nI s) (nI n) (-1) (-1) 0 m1 = m_X7_bestAt_13 (299 + 1) (3 + nI s) 1 (nI 0 - 1) (nI s) (nI n) (-1) (-1) 0 m1 := rfl
        rw [if_pos q, e3, m_X7_bestAt_13_s, if_pos q2, Option.bind_some, bind_eta]
        unfold m_X7_orNone
        rw [if_neg (show ¬ (0 : Int32) ≤ -1 by decide)]
        exact S_none (Th_Rel t2 hR1)
      · have q : ¬ x.1.2.2.1 = 0 := by rw [eN]; exact nI_ne0 (by omega) (by omega)
        have e3 : m_X7_bestAt_13 300 (3 + nI s) 1 (nI N - 1) (nI s) (nI n) (-1) (-1) 0 m1 = m_X7_bestAt_13 300 (nI (3 + s)) 1 (nI (N - 1)) (nI s) (nI n) (-1) (-1) (nI 0) m1 := by
          rw [show (3 : Int32) = nI 3 from rfl, nI_add, show nI N - 1 = nI (N - 1) from pk_sub (a := N) (b := 1) (by omega)]; rfl
        have e4 : m_X6_best_49 300 (nI s) (nI n) 0 (-1) 0 x = m_X6_best_49 300 (nI s) (nI n) 0 (-1) (nI 0) x := rfl
        obtain ⟨r, x2, m2, hr, r1, r2, r3⟩ := bestL s hs n hn N (by omega) hN N 0 300 300 0 (-1) (-1) x m1 (by omega) (by omega) (by omega) eN t2 hR1 (Or.inr ⟨rfl, by omega⟩)
        rw [if_neg q, e3, e4, r1, r2, Option.bind_some, bind_eta]
        unfold m_X7_orNone
        have z : 0 ≤ nI r := nI_pos' (by omega)
        rw [if_pos z]
        exact ⟨_, _, _, rfl, rfl, r3⟩
