/-! BOOKS AND THEIR READER -/
theorem bk_x (n : Nat) (st x4 : Int32) {x : pv_XT} {s : Nat} {u : Int32} {S : pv_ST} {T' : pv_TT} {g' : pv_GT} (hs : s < 4) (h : ¬ (shs x s).2.1 ≤ x4) (o : m_X4_ownedSet st x.2.2.1 = some u) (p : m_X3_put x4 u.toInt64 (shs x s) = some S) (q : m_X4_passMonths 1 (x.2.2.1, x.2.2.2.1) = some (T', g')) :
    m_X6_book_44 (n + 1) (nI s) st x4 x = m_X6_book_44 n (nI s) st (x4 + 1) (xS (xA x T' g') (va_up (shs x) s S)) := by
  rw [m_X6_book_44_s, gd_nI hs (by omega), nI_clamp (by omega), if_neg h, gd_nI hs (by omega), o, Option.bind_some, p, Option.bind_some, q]
  rfl
theorem bk_m (n : Nat) (st : Int32) {m w' : pv_MT} {s i : Nat} {u : Int32} (hs : s < 4) (hi : i < 40) (h : ¬ zOf m s ≤ nI i) (o : m_X7_landsOf st m = some u) (q : m_X7_goes (mS m (bOf m) (zOf m) (vp_updL (cOf m) (40 * s + i) (m_X7_cutTo (bOf m s) u.toInt64))) = some w') :
    m_X7_book_41 (n + 1) (nI s) st (nI i) m = m_X7_book_41 n (nI s) st (nI i + 1) w' := by
  have e40 : (40 : Int32) * nI s + nI i = nI (40 * s + i) := by rw [show (40 : Int32) = nI 40 from rfl, pk_mul, nI_add]
  rw [m_X7_book_41_s, gd_nI hs (by omega), nI_clamp (by omega), if_neg h, gd_nI hs (by omega), o, Option.bind_some, e40, gd_nI (by omega) (by omega), nI_clamp (by omega)]
  show (Option.bind (m_X7_goes (mS m (bOf m) (zOf m) (vp_updL (cOf m) (40 * s + i) (m_X7_cutTo (bOf m s) u.toInt64)))) fun u12 => m_X7_book_41 n (nI s) st (nI i + 1) u12) = _
  rw [q]
  rfl
theorem bookL (s : Nat) (hs : s < 4) (st : Int32) (sz : Nat) (hsz : sz ≤ 40) : ∀ (k i n n2 B : Nat) (x : pv_XT) (m : pv_MT), i + k = sz → k < n → k < n2 → B + k < 2 ^ 20 → (shs x s).2.1 = nI sz → Th x m → RT x.2.2.1 m.1 → IT x.2.2.1 B →
    Sim (m_X6_book_44 n (nI s) st (nI i) x) (m_X7_book_41 n2 (nI s) st (nI i) m)
  | 0, i, n, n2, B, x, m, hi, hn, hn2, hB, hz, hT, hA, hI => by
    obtain ⟨n, rfl⟩ : ∃ n', n = n' + 1 := ⟨n - 1, by omega⟩
    obtain ⟨n2, rfl⟩ : ∃ n', n2 = n' + 1 := ⟨n2 - 1, by omega⟩
    have h1 : nI sz ≤ nI i := nI_le (by omega) (by omega)
    have z1 : (x.2.2.2.2.2.1 s).2.1 = nI sz := hz
    have z2 : m.2.2.2.2.2.2.2.2.2.2.2.2.2.2.2.1 s = nI sz := (Th_RS hT s hs).2.1.symm.trans hz
    obtain ⟨m3, b1, b2, b3, b4⟩ := putsBack_ok hT
    have z3 : m3.2.2.2.2.2.2.2.2.2.2.2.2.2.2.2.1 s = nI sz := (Th_RS b2 s hs).2.1.symm.trans hz
    rw [m_X6_book_44_s, m_X7_book_41_s, gd_nI hs (by omega), gd_nI hs (by omega), gd_nI hs (by omega), nI_clamp (by omega), z1, z2, if_pos h1, if_pos h1, b1, Option.bind_some, gd_nI hs (by omega), z3, gd_nI hs (by omega)]
    exact ⟨_, _, _, rfl, rfl, Th_Rel b2 b3⟩
  | k + 1, i, n, n2, B, x, m, hi, hn, hn2, hB, hz, hT, hA, hI => by
    obtain ⟨n, rfl⟩ : ∃ n', n = n' + 1 := ⟨n - 1, by omega⟩
    obtain ⟨n2, rfl⟩ : ∃ n', n2 = n' + 1 := ⟨n2 - 1, by omega⟩
    have h1 : ¬ nI sz ≤ nI i := nI_ge (by omega) (by omega)
    obtain ⟨s1, s2, s3, s4⟩ := Th_RS hT s hs
    have z1 : ¬ (shs x s).2.1 ≤ nI i := by rw [hz]; exact h1
    have z2 : ¬ zOf m s ≤ nI i := by rw [← s2]; exact z1
    obtain ⟨u, u1, u2⟩ := set_eq hA st
    have hRS := RS_put (Th_RS hT) hs (i := i) (by omega) (m_X7_cutTo (bOf m s) u.toInt64)
    obtain ⟨T', g', w', q1, q2, q3, q4, q5, q6⟩ := one_ok (w := mS m (bOf m) (zOf m) (vp_updL (cOf m) (40 * s + i) (m_X7_cutTo (bOf m s) u.toInt64))) x.2.2.2.1 hA hI (by omega)
    have hp := sput_ok (S := shs x s) u.toInt64 hsz (show i < sz by omega) hz
    rw [s1] at hp hRS
    rw [bk_x n st (nI i) hs z1 u1 hp q1, bk_m n2 st hs (by omega) z2 u2 q2, nI_1]
    refine bookL s hs st sz hsz k (i + 1) n n2 (B + 1) (xS (xA x T' g') _) w' (by omega) (by omega) (by omega) (by omega) ?_ (Th_core q5 (Th_S (x := xA x T' g') hT hRS)) q3 q4
    show (va_up (shs x) s _ s).2.1 = _
    rw [va_up_self]; exact hz
theorem sim_book (v0 : Int32) (v1 : Int32) (x : pv_XT) (mm : pv_MT) (hR : Rel x mm) : ∃ (r : Int32) (x2 : pv_XT) (m2 : pv_MT), m_X6_book v0 v1 x = some (r, x2) ∧ m_X7_book v0 v1 mm = some (r, m2) ∧ Rel x2 m2 := by
  show Sim (m_X6_book v0 v1 x) (m_X7_book v0 v1 mm)
  unfold m_X6_book m_X7_book m_X7_book_22 m_X7_book_23
  rcases fit_c hR v0 with ⟨c, i, hi, hc, h0, h1, h2⟩ | ⟨s, hs, rfl, h1, h2⟩
  · rw [h1, h2, Option.bind_some, Option.bind_some, if_neg h0, if_neg h0, if_neg h0]; exact S_findb hR hi hc
  · rw [h1, h2, Option.bind_some, Option.bind_some, if_pos rfl, if_pos rfl]
    rcases state_c v1 with ⟨g1, g2⟩ | ⟨t, ht, rfl, g1, g2⟩
    · rw [g1, g2, if_pos rfl, Option.bind_some, if_pos rfl, if_neg (show ¬ (-1000000001 : Int32) = 0 by decide)]; exact S_bey hR
    · obtain ⟨s1, s2, ⟨n, hn, s3⟩, s4⟩ := Rel_RS hR s hs
      obtain ⟨m1, t1, t2, t3⟩ := thinks_ok hR
      obtain ⟨A, a1, a2, a3, a4⟩ := ahead_0 (x := x) (m := m1) (by rw [t3]; exact hR.1) hR.2.1
      rw [g1, g2, if_neg (show ¬ (1 : Int32) = 0 by decide), Option.bind_some, if_neg (show ¬ (1 : Int32) = 0 by decide), if_pos rfl, t1, Option.bind_some, bec_k (m_X6_book_44 300 (nI s) (nI t) 0) a1]
      have e1 : m_X6_book_44 300 (nI s) (nI t) 0 (xA x A x.2.2.2.1) = m_X6_book_44 300 (nI s) (nI t) (nI 0) (xA x A x.2.2.2.1) := rfl
      have e2 : m_X7_book_41 300 (nI s) (nI t) 0 m1 = m_X7_book_41 300 (nI s) (nI t) (nI 0) m1 := rfl
      rw [e1, e2]
      exact bookL s hs (nI t) n hn n 0 300 300 9999 (xA x A x.2.2.2.1) m1 (by omega) (by omega) (by omega) (by omega) (s2.trans s3) t2 a2 a3
/-! the reader -/
theorem tl_x (n : Nat) (st x3 : Int32) (s : Nat) (x : pv_XT) (A : pv_TT) (g : pv_GT) : m_X6_comesAsTold_2 (n + 1) st x3 s (xA x A g) = (if (shs x s).2.1 ≤ x3 then some (1, xA x A g) else pv_gd x3 40 (Option.bind (m_X4_ownedSet st A) fun u => if lg_cmp ((shs x s).2.2 x3.toNatClampNeg) u.toInt64 = 0 then Option.bind (m_X4_passMonths 1 (A, g)) fun u5 => m_X6_comesAsTold_2 n st (x3 + 1) s (xA x u5.1 u5.2) else some (0, xA x A g))) := rfl
theorem bk0 (n : Nat) (s : Nat) (hs : s < 4) (st x4 : Int32) (m : pv_MT) : m_X7_isBook_5 (n + 1) (nI s) st 0 x4 m = m_X7_isBook_58 0 m := by
  rw [m_X7_isBook_5_s, gd_nI hs (by omega), if_pos (show (0 : Int32) = 0 from rfl), ite_self]
theorem toldL (s : Nat) (hs : s < 4) (st : Int32) (sz : Nat) (hsz : sz ≤ 40) (x : pv_XT) (hz : (shs x s).2.1 = nI sz) : ∀ (k i n n2 B : Nat) (A : pv_TT) (g : pv_GT) (m : pv_MT), i + k = sz → k < n → k + 1 < n2 → B + k < 2 ^ 20 → Th x m → RT A m.1 → IT A B →
    ∃ r A' g' m3, (r = 0 ∨ r = 1) ∧ m_X6_comesAsTold_2 n st (nI i) s (xA x A g) = some (r, xA x A' g') ∧ m_X7_isBook_5 n2 (nI s) st 1 (nI i) m = some (r, m3) ∧ Th x m3 ∧ RT x.1 m3.1
  | 0, i, n, n2, B, A, g, m, hi, hn, hn2, hB, hT, hA, hI => by
    obtain ⟨n, rfl⟩ : ∃ n', n = n' + 1 := ⟨n - 1, by omega⟩
    obtain ⟨n2, rfl⟩ : ∃ n', n2 = n' + 1 := ⟨n2 - 1, by omega⟩
    have h1 : nI sz ≤ nI i := nI_le (by omega) (by omega)
    have z2 : m.2.2.2.2.2.2.2.2.2.2.2.2.2.2.2.1 s = nI sz := (Th_RS hT s hs).2.1.symm.trans hz
    obtain ⟨m3, b1, b2, b3, b4⟩ := putsBack_ok hT
    rw [tl_x, m_X7_isBook_5_s, gd_nI hs (by omega), nI_clamp (show s < 2 ^ 31 by omega), hz, z2, if_pos h1, if_pos h1]
    unfold m_X7_isBook_58
    rw [b1, Option.bind_some]
    exact ⟨1, A, g, m3, Or.inr rfl, rfl, rfl, b2, b3⟩
  | k + 1, i, n, n2, B, A, g, m, hi, hn, hn2, hB, hT, hA, hI => by
    obtain ⟨n, rfl⟩ : ∃ n', n = n' + 1 := ⟨n - 1, by omega⟩
    obtain ⟨n2, rfl⟩ : ∃ n', n2 = n' + 1 + 1 := ⟨n2 - 2, by omega⟩
    have h1 : ¬ nI sz ≤ nI i := nI_ge (by omega) (by omega)
    have z2 : m.2.2.2.2.2.2.2.2.2.2.2.2.2.2.2.1 s = nI sz := (Th_RS hT s hs).2.1.symm.trans hz
    have z3 : m.2.2.2.2.2.2.2.2.2.2.2.2.2.2.2.2 (40 * s + i) = (shs x s).2.2 i := ((Th_RS hT s hs).2.2.2 i (by omega)).symm
    have e40 : (40 : Int32) * nI s + nI i = nI (40 * s + i) := by rw [show (40 : Int32) = nI 40 from rfl, pk_mul, nI_add]
    obtain ⟨u, u1, u2⟩ := set_eq hA st
    obtain ⟨T', g', w', q1, q2, q3, q4, q5, q6⟩ := one_ok g hA hI (by omega)
    rw [tl_x, m_X7_isBook_5_s, gd_nI hs (by omega), nI_clamp (show s < 2 ^ 31 by omega), hz, z2, if_neg h1, if_neg h1, if_neg (show ¬ (1 : Int32) = 0 by decide), e40, gd_nI (by omega) (by omega), gd_nI (by omega) (by omega), nI_clamp (by omega), nI_clamp (by omega), z3, u1, u2, Option.bind_some, Option.bind_some]
    unfold m_X7_isBook_47
    rw [q2, Option.bind_some, Option.bind_some]
    by_cases q : lg_cmp ((shs x s).2.2 i) u.toInt64 = 0
    · rw [if_pos q, if_pos q, q1, Option.bind_some, nI_1]
      exact toldL s hs st sz hsz x hz k (i + 1) n (n2 + 1) (B + 1) T' g' w' (by omega) (by omega) (by omega) (by omega) (Th_core q5 hT) q3 q4
    · rw [if_neg q, if_neg q, bk0 n2 s hs]
      obtain ⟨m3, b1, b2, b3, b4⟩ := putsBack_ok (Th_core q5 hT)
      unfold m_X7_isBook_58
      rw [b1, Option.bind_some]
      exact ⟨0, A, g, m3, Or.inl rfl, rfl, rfl, b2, b3⟩
theorem rd_x (K : Int32 → Int32 → Int32 → Int32 → Int32 → pv_XT → Option (Int32 × pv_XT)) (n : Nat) (st x5 x6 x7 : Int32) {x : pv_XT} {A A' : pv_TT} {g' : pv_GT} {s e : Nat} {r : Int32} (hs : s < 4) (he : e < 8) (h7 : ¬ 31 < x7) (h : m_X4_become (x.2.2.1, x.1) = some (A, x.1))
    (hc : m_X6_comesAsTold s st (xA x (A.1, x7, A.2.2.1, A.2.2.2.1, A.2.2.2.2.1, A.2.2.2.2.2.1, upd A.2.2.2.2.2.2.1 e x6, A.2.2.2.2.2.2.2) x.2.2.2.1) = some (r, xA x A' g')) (hr : r = 0 ∨ r = 1) :
    m_X6_read_57 K (n + 1) (nI s) st (nI e) x5 x6 x7 x = m_X6_read_57 K n (nI s) st (nI e) (x5 + r) x6 (x7 + 2) (xA x A' g') := by
  rw [m_X6_read_57_s, if_neg h7, h, Option.bind_some, gd_nI he (by omega), gd_nI hs (by omega), nI_clamp (by omega), nI_clamp (by omega)]
  show (Option.bind (m_X6_comesAsTold s st (xA x (A.1, x7, A.2.2.1, A.2.2.2.1, A.2.2.2.2.1, A.2.2.2.2.2.1, upd A.2.2.2.2.2.2.1 e x6, A.2.2.2.2.2.2.2) x.2.2.2.1)) fun u11 => if u11.1 = 0 then m_X6_read_116 K (m_X6_read_57 K n) (nI s) st (nI e) x6 x7 x5 0 u11.2 else m_X6_read_116 K (m_X6_read_57 K n) (nI s) st (nI e) x6 x7 x5 1 u11.2) = _
  rw [hc, Option.bind_some]
  rcases hr with rfl | rfl
  · rw [if_pos rfl]; rfl
  · rw [if_neg (show ¬ (1 : Int32) = 0 by decide)]; rfl
theorem rd_m (n : Nat) (st x5 : Int32) {m m3 : pv_MT} {s e q : Nat} {r : Int32} (he : e < 8) (hq : q < 96) (hc : m_X7_isBook (nI s) st (upd (upd m.1 (15 + 2 * e) (nI (q / 16))) 1 (nI (2 * (q % 16) + 1)), m.2) = some (r, m3)) (hr : r = 0 ∨ r = 1) :
    m_X7_read_58 (n + 1) (nI s) st (nI e) x5 (nI q) m = m_X7_read_58 n (nI s) st (nI e) (x5 + r) (nI (q + 1)) m3 := by
  have h : ¬ (96 : Int32) ≤ nI q := nI_ge (b := 96) hq (by omega)
  have e1 : (15 : Int32) + 2 * nI e = nI (15 + 2 * e) := by rw [show (15 : Int32) = nI 15 from rfl, show (2 : Int32) = nI 2 from rfl, pk_mul, nI_add]
  have e2 : nI q / 16 = nI (q / 16) := pk_div (by omega) (d := 16) (by omega) (by omega)
  have e3 : (2 : Int32) * pv_rem (nI q) 16 + 1 = nI (2 * (q % 16) + 1) := by
    rw [show pv_rem (nI q) 16 = nI (q % 16) from pv_remN (by omega) (d := 16) (by omega) (by omega), show (2 : Int32) = nI 2 from rfl, pk_mul, nI_1]
  rw [m_X7_read_58_s, if_neg h, e1, e2, e3, gd_nI (by omega) (by omega), nI_clamp (by omega)]
  show (Option.bind (m_X7_isBook (nI s) st (upd (upd m.1 (15 + 2 * e) (nI (q / 16))) 1 (nI (2 * (q % 16) + 1)), m.2)) fun u7 => if u7.1 = 0 then m_X7_read_112 (m_X7_read_58 n) (nI s) st (nI e) (nI q) x5 0 u7.2 else m_X7_read_112 (m_X7_read_58 n) (nI s) st (nI e) (nI q) x5 1 u7.2) = _
  rw [hc, Option.bind_some]
  unfold m_X7_read_112
  rw [nI_1]
  rcases hr with rfl | rfl
  · rw [if_pos rfl]
  · rw [if_neg (show ¬ (1 : Int32) = 0 by decide)]
theorem readI (s : Nat) (hs : s < 4) (st : Int32) (e : Nat) (he : e < 8) (sz : Nat) (hsz : sz ≤ 40) (K : Int32 → Int32 → Int32 → Int32 → Int32 → pv_XT → Option (Int32 × pv_XT)) (q : Nat) (hq : q < 6) (F : Nat)
    (hK : ∀ (acc : Int32) (x : pv_XT) (m : pv_MT), (shs x s).2.1 = nI sz → Th x m → RT x.1 m.1 → Sim (K (nI s) st (nI e) acc (nI (q + 1)) x) (m_X7_read_58 F (nI s) st (nI e) acc (nI (16 * (q + 1))) m)) :
    ∀ (k j n : Nat) (acc : Int32) (x : pv_XT) (m : pv_MT), j + k = 16 → k < n → (shs x s).2.1 = nI sz → Th x m → RT x.1 m.1 →
    Sim (m_X6_read_57 K n (nI s) st (nI e) acc (nI q) (nI (2 * j + 1)) x) (m_X7_read_58 (F + k) (nI s) st (nI e) acc (nI (16 * q + j)) m)
  | 0, j, n, acc, x, m, hj, hn, hz, hT, hR => by
    obtain ⟨n, rfl⟩ : ∃ n', n = n' + 1 := ⟨n - 1, by omega⟩
    have h1 : (31 : Int32) < nI (2 * j + 1) := nI_lt (a := 31) (by omega) (by omega)
    rw [m_X6_read_57_s, if_pos h1, nI_1, Nat.add_zero, show 16 * q + j = 16 * (q + 1) by omega]
    exact hK acc x m hz hT hR
  | k + 1, j, n, acc, x, m, hj, hn, hz, hT, hR => by
    obtain ⟨n, rfl⟩ : ∃ n', n = n' + 1 := ⟨n - 1, by omega⟩
    have h1 : ¬ (31 : Int32) < nI (2 * j + 1) := nI_nlt (a := 31) (by omega) (by omega)
    obtain ⟨A, a1, a2, a3, a4⟩ := ahead_0 hR hT.2.1
    obtain ⟨r, A', g', m3, hr, c1, c2, c3, c4⟩ := toldL s hs st sz hsz x hz sz 0 300 300 9999 (A.1, nI (2 * j + 1), A.2.2.1, A.2.2.2.1, A.2.2.2.2.1, A.2.2.2.2.2.1, upd A.2.2.2.2.2.2.1 e (nI q), A.2.2.2.2.2.2.2) x.2.2.2.1 (upd (upd m.1 (15 + 2 * e) (nI q)) 1 (nI (2 * j + 1)), m.2) (by omega) (by omega) (by omega) (by omega) hT (RT_mix (RT_knd a2 he (nI q)) (nI (2 * j + 1))) (IT_mix (IT_knd a3 hq) (by omega) (by omega))
    have d1 : (16 * q + j) / 16 = q := by omega
    have d2 : (16 * q + j) % 16 = j := by omega
    have e2 : nI (2 * j + 1) + 2 = nI (2 * (j + 1) + 1) := nI_add (2 * j + 1) 2
    have c1' : m_X6_comesAsTold s st (xA x (A.1, nI (2 * j + 1), A.2.2.1, A.2.2.2.1, A.2.2.2.2.1, A.2.2.2.2.2.1, upd A.2.2.2.2.2.2.1 e (nI q), A.2.2.2.2.2.2.2) x.2.2.2.1) = some (r, xA x A' g') := c1
    have c2' : m_X7_isBook (nI s) st (upd (upd m.1 (15 + 2 * e) (nI ((16 * q + j) / 16))) 1 (nI (2 * ((16 * q + j) % 16) + 1)), m.2) = some (r, m3) := by rw [d1, d2]; exact c2
    rw [rd_x K n st acc (nI q) (nI (2 * j + 1)) hs he h1 a1 c1' hr, show F + (k + 1) = F + k + 1 by omega, rd_m (F + k) st acc he (by omega) c2' hr, e2, show 16 * q + j + 1 = 16 * q + (j + 1) by omega]
    exact readI s hs st e he sz hsz K q hq F hK k (j + 1) n (acc + r) (xA x A' g') m3 (by omega) (by omega) hz c3 c4
theorem readO (s : Nat) (hs : s < 4) (st : Int32) (e : Nat) (he : e < 8) (sz : Nat) (hsz : sz ≤ 40) (F : Nat) : ∀ (k q n : Nat) (acc : Int32) (x : pv_XT) (m : pv_MT), q + k = 6 → k < n → (shs x s).2.1 = nI sz → Th x m → RT x.1 m.1 →
    Sim (m_X6_read_47 n (nI s) st (nI e) acc (nI q) x) (m_X7_read_58 (F + 1 + 16 * k) (nI s) st (nI e) acc (nI (16 * q)) m)
  | 0, q, n, acc, x, m, hq, hn, hz, hT, hR => by
    obtain ⟨n, rfl⟩ : ∃ n', n = n' + 1 := ⟨n - 1, by omega⟩
    have h1 : (6 : Int32) ≤ nI q := nI_le (a := 6) (by omega) (by omega)
    have h2 : (96 : Int32) ≤ nI (16 * q) := nI_le (a := 96) (by omega) (by omega)
    rw [m_X6_read_47_s, if_pos h1, Nat.mul_zero, Nat.add_zero, m_X7_read_58_s, if_pos h2]
    exact ⟨_, _, _, rfl, rfl, Th_Rel hT hR⟩
  | k + 1, q, n, acc, x, m, hq, hn, hz, hT, hR => by
    obtain ⟨n, rfl⟩ : ∃ n', n = n' + 1 := ⟨n - 1, by omega⟩
    have h1 : ¬ (6 : Int32) ≤ nI q := nI_ge (b := 6) (by omega) (by omega)
    have e1 : m_X6_read_57 (m_X6_read_47 n) 300 (nI s) st (nI e) acc (nI q) 1 x = m_X6_read_57 (m_X6_read_47 n) 300 (nI s) st (nI e) acc (nI q) (nI (2 * 0 + 1)) x := rfl
    rw [m_X6_read_47_s, if_neg h1, e1, show F + 1 + 16 * (k + 1) = F + 1 + 16 * k + 16 by omega]
    exact readI s hs st e he sz hsz (m_X6_read_47 n) q (by omega) (F + 1 + 16 * k) (fun acc x m hz hT hR => readO s hs st e he sz hsz F k (q + 1) n acc x m (by omega) (by omega) hz hT hR) 16 0 300 acc x m (by omega) (by omega) hz hT hR
theorem sim_read (v0 : Int32) (v1 : Int32) (v2 : Int32) (x : pv_XT) (mm : pv_MT) (hR : Rel x mm) : ∃ (r : Int32) (x2 : pv_XT) (m2 : pv_MT), m_X6_read v0 v1 v2 x = some (r, x2) ∧ m_X7_read v0 v1 v2 mm = some (r, m2) ∧ Rel x2 m2 := by
  show Sim (m_X6_read v0 v1 v2 x) (m_X7_read v0 v1 v2 mm)
  unfold m_X6_read m_X7_read m_X7_read_27 m_X7_read_32 m_X7_read_34
  rcases fit_c hR v0 with ⟨c, i, hi, hc, h0, h1, h2⟩ | ⟨s, hs, rfl, h1, h2⟩
  · rw [h1, h2, Option.bind_some, Option.bind_some, if_neg h0, if_neg h0, if_neg h0]; exact S_findb hR hi hc
  · rw [h1, h2, Option.bind_some, Option.bind_some, if_pos rfl, if_pos rfl, if_neg (show ¬ (-1000000001 : Int32) = 0 by decide)]
    rcases state_c v1 with ⟨g1, g2⟩ | ⟨t, ht, rfl, g1, g2⟩
    · rw [g1, g2, if_pos rfl, Option.bind_some, if_pos rfl]; exact S_bey hR
    rw [g1, g2, if_neg (show ¬ (1 : Int32) = 0 by decide), Option.bind_some, if_neg (show ¬ (1 : Int32) = 0 by decide)]
    rcases envoy_c hR v2 with ⟨k1, k2⟩ | ⟨k, N, hk, hN, eN, rfl, k1, k2⟩
    · rw [k1, k2, if_pos rfl, Option.bind_some, if_pos rfl]; exact S_bey hR
    · obtain ⟨s1, s2, ⟨n, hn, s3⟩, s4⟩ := Rel_RS hR s hs
      obtain ⟨m1, t1, t2, t3⟩ := thinks_ok hR
      have e1 : m_X6_read_47 300 (nI s) (nI t) (nI k) 0 0 x = m_X6_read_47 300 (nI s) (nI t) (nI k) 0 (nI 0) x := rfl
      have e2 : m_X7_read_58 300 (nI s) (nI t) (nI k) 0 0 m1 = m_X7_read_58 (203 + 1 + 16 * 6) (nI s) (nI t) (nI k) 0 (nI (16 * 0)) m1 := rfl
      rw [k1, k2, if_neg (show ¬ (1 : Int32) = 0 by decide), Option.bind_some, if_neg (show ¬ (1 : Int32) = 0 by decide), if_pos rfl, t1, Option.bind_some, e1, e2]
      exact readO s hs (nI t) k (by omega) n hn 203 6 0 300 0 x m1 (by omega) (by omega) (s2.trans s3) t2 (by rw [t3]; exact hR.1)
