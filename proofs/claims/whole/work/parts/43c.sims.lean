/-! CALLS ABOUT THE TABLE AND ENVOYS -/
theorem sim_mix (v0 : Int32) (x : pv_XT) (mm : pv_MT) (hR : Rel x mm) : ∃ (r : Int32) (x2 : pv_XT) (m2 : pv_MT), m_X6_mix v0 x = some (r, x2) ∧ m_X7_mix v0 mm = some (r, m2) ∧ Rel x2 m2 := by
  show Sim (m_X6_mix v0 x) (m_X7_mix v0 mm)
  unfold m_X6_mix m_X7_mix
  rcases mix_c v0 with ⟨h1, h2⟩ | ⟨k, hk, hk2, rfl, h1, h2⟩
  · rw [h1, h2, if_pos rfl, if_pos rfl]; exact S_bey hR
  · obtain ⟨hT, hI, hC⟩ := hR
    rw [h1, h2, if_neg (by decide), if_neg (by decide), bind_eta, show (1 : Int32) = nI 1 from rfl, becomes_ok mm _ (by omega)]
    exact ⟨_, _, _, rfl, congrArg some (Prod.ext hT.2.1 rfl), RT_mix hT _, IT_mix hI hk hk2, hC⟩
theorem sim_province (v0 : Int32) (v1 : Int32) (x : pv_XT) (mm : pv_MT) (hR : Rel x mm) : ∃ (r : Int32) (x2 : pv_XT) (m2 : pv_MT), m_X6_province v0 v1 x = some (r, x2) ∧ m_X7_province v0 v1 mm = some (r, m2) ∧ Rel x2 m2 := by
  show Sim (m_X6_province v0 v1 x) (m_X7_province v0 v1 mm)
  unfold m_X6_province m_X7_province
  rcases land_c v0 with ⟨h1, h2⟩ | ⟨k, hk, rfl, h1, h2⟩
  · rw [h1, h2, if_pos rfl]; exact S_bey hR
  · rw [h1, h2, if_neg (by decide), Option.bind_some, if_neg (show ¬ (1 : Int32) = 0 by decide)]
    rcases nob_c v1 with ⟨g1, g2⟩ | ⟨hv, g1, g2⟩
    · rw [g1, g2, if_pos rfl, if_pos rfl]; exact S_bey hR
    · obtain ⟨hT, hI, hC⟩ := hR
      rw [g1, g2, if_neg (by decide), if_neg (by decide), bind_eta, show (7 : Int32) = nI 7 from rfl, nI_add, becomes_ok mm _ (by omega), gd_nI hk (by omega), gd_nI hk (by omega), nI_clamp (by omega)]
      exact ⟨_, _, _, rfl, congrArg some (Prod.ext (hT.2.2.2.2.2.1 k hk) rfl), RT_own hT hk _, IT_own hI hv, hC⟩
theorem sim_whose (v0 : Int32) (x : pv_XT) (mm : pv_MT) (hR : Rel x mm) : ∃ (r : Int32) (x2 : pv_XT) (m2 : pv_MT), m_X6_whose v0 x = some (r, x2) ∧ m_X7_whose v0 mm = some (r, m2) ∧ Rel x2 m2 := by
  show Sim (m_X6_whose v0 x) (m_X7_whose v0 mm)
  unfold m_X6_whose m_X7_whose
  rcases land_c v0 with ⟨h1, h2⟩ | ⟨k, hk, rfl, h1, h2⟩
  · rw [h1, h2, if_pos rfl]; exact S_bey hR
  · rw [h1, h2, if_neg (by decide), Option.bind_some, if_neg (show ¬ (1 : Int32) = 0 by decide), show (7 : Int32) = nI 7 from rfl, nI_add, gd_nI hk (by omega), gd_nI (by omega) (by omega), nI_clamp (by omega), nI_clamp (by omega)]
    exact ⟨_, _, _, rfl, congrArg some (Prod.ext (hR.1.2.2.2.2.2.1 k hk) rfl), hR⟩
theorem sim_treasury (v0 : Int32) (v1 : Int32) (x : pv_XT) (mm : pv_MT) (hR : Rel x mm) : ∃ (r : Int32) (x2 : pv_XT) (m2 : pv_MT), m_X6_treasury v0 v1 x = some (r, x2) ∧ m_X7_treasury v0 v1 mm = some (r, m2) ∧ Rel x2 m2 := by
  show Sim (m_X6_treasury v0 v1 x) (m_X7_treasury v0 v1 mm)
  unfold m_X6_treasury m_X7_treasury
  rcases state_c v0 with ⟨h1, h2⟩ | ⟨k, hk, rfl, h1, h2⟩
  · rw [h1, h2, if_pos rfl]; exact S_bey hR
  · rw [h1, h2, if_neg (by decide), Option.bind_some, if_neg (show ¬ (1 : Int32) = 0 by decide)]
    rcases win_c v1 0 99999 (by omega) (by omega) with ⟨g1, g2⟩ | ⟨n, -, hn, rfl, g1, g2⟩
    · have g1' : m_X6_isWithin v1 0 99999 = 0 := g1
      have g2' : m_X7_in v1.toInt64 0 99999 = 0 := g2
      rw [g1', g2', if_pos rfl, if_pos rfl]; exact S_bey hR
    · have g1' : m_X6_isWithin (nI n) 0 99999 = 1 := g1
      have g2' : m_X7_in (nI n).toInt64 0 99999 = 1 := g2
      obtain ⟨hT, hI, hC⟩ := hR
      rw [g1', g2', if_neg (by decide), if_neg (by decide), bind_eta, show (5 : Int32) = nI 5 from rfl, nI_add, becomes_ok mm _ (by omega), gd_nI hk (by omega), gd_nI hk (by omega), nI_clamp (by omega)]
      exact ⟨_, _, _, rfl, congrArg some (Prod.ext (hT.2.2.2.2.1 k hk) rfl), RT_pur hT hk _, IT_pur hI hn, hC⟩
theorem sim_now (v0 : Int32) (x : pv_XT) (mm : pv_MT) (hR : Rel x mm) : ∃ (r : Int32) (x2 : pv_XT) (m2 : pv_MT), m_X6_now v0 x = some (r, x2) ∧ m_X7_now v0 mm = some (r, m2) ∧ Rel x2 m2 := by
  show Sim (m_X6_now v0 x) (m_X7_now v0 mm)
  obtain ⟨r0, r1, r2, r3, r4, -⟩ := id hR.1
  by_cases h0 : v0 = 0
  · subst h0; exact ⟨_, x, mm, rfl, congrArg some (Prod.ext r0 rfl), hR⟩
  by_cases h1 : v0 = 1
  · subst h1; exact ⟨_, x, mm, rfl, congrArg some (Prod.ext r1 rfl), hR⟩
  by_cases h2 : v0 = 2
  · subst h2; exact ⟨_, x, mm, rfl, congrArg some (Prod.ext (congrArg (pv_rem · 4) r0) rfl), hR⟩
  by_cases h3 : v0 = 3
  · subst h3; exact ⟨_, x, mm, rfl, congrArg some (Prod.ext (congrArg (pv_rem · 8) r0) rfl), hR⟩
  by_cases h4 : v0 = 4
  · subst h4; exact ⟨_, x, mm, rfl, congrArg some (Prod.ext (r3 0 (by omega)) rfl), hR⟩
  by_cases h5 : v0 = 5
  · subst h5; exact ⟨_, x, mm, rfl, congrArg some (Prod.ext (r3 1 (by omega)) rfl), hR⟩
  by_cases h6 : v0 = 6
  · subst h6; exact ⟨_, x, mm, rfl, congrArg some (Prod.ext (r4 0 (by omega)) rfl), hR⟩
  by_cases h7 : v0 = 7
  · subst h7; exact ⟨_, x, mm, rfl, congrArg some (Prod.ext (r4 1 (by omega)) rfl), hR⟩
  unfold m_X6_now m_X7_now
  rw [if_neg h0, if_neg h0, if_neg h1, if_neg h1, if_neg h2, if_neg h2, if_neg h3, if_neg h3, if_neg h4, if_neg h4, if_neg h5, if_neg h5, if_neg h6, if_neg h6, if_neg h7, if_neg h7]
  exact S_bey hR
theorem sim_card (v0 : Int32) (v1 : Int32) (x : pv_XT) (mm : pv_MT) (hR : Rel x mm) : ∃ (r : Int32) (x2 : pv_XT) (m2 : pv_MT), m_X6_card v0 v1 x = some (r, x2) ∧ m_X7_card v0 v1 mm = some (r, m2) ∧ Rel x2 m2 := by
  show Sim (m_X6_card v0 v1 x) (m_X7_card v0 v1 mm)
  unfold m_X6_card m_X7_card
  rw [in_eq, in_eq]
  by_cases h : m_X6_isWithin v0 0 7 = 0
  · rw [if_pos h, if_pos h]; exact S_bey hR
  · rw [if_neg h, if_neg h]
    by_cases h2 : m_X6_isWithin v1 0 9999 = 0
    · rw [if_pos h2, if_pos h2]; exact S_bey hR
    · rw [if_neg h2, if_neg h2]
      refine ⟨_, x, mm, rfl, ?_, hR⟩
      unfold m_X7_dealt
      rw [hR.1.2.1]
      rfl
theorem sim_envoy (v0 : Int32) (x : pv_XT) (mm : pv_MT) (hR : Rel x mm) : ∃ (r : Int32) (x2 : pv_XT) (m2 : pv_MT), m_X6_envoy v0 x = some (r, x2) ∧ m_X7_envoy v0 mm = some (r, m2) ∧ Rel x2 m2 := by
  show Sim (m_X6_envoy v0 x) (m_X7_envoy v0 mm)
  unfold m_X6_envoy m_X7_envoy
  rcases kind_c v0 with ⟨h1, h2⟩ | ⟨k, hk, rfl, h1, h2⟩
  · rw [h1, h2, if_pos rfl, if_pos rfl]; exact S_bey hR
  · rw [h1, h2, if_neg (show ¬ (1 : Int32) = 0 by decide), if_neg (show ¬ (1 : Int32) = 0 by decide)]
    obtain ⟨N, hN, eN, -⟩ := hR.2.1.2.2.1
    have e2 : mm.1 2 = nI N := hR.1.2.2.1.trans eN
    by_cases h8 : N = 8
    · subst h8
      have q : ¬ x.1.2.2.1 < 8 := by rw [eN]; decide
      have q2 : mm.1 2 = 8 := e2
      rw [if_neg q, if_pos q2]; exact S_full hR
    · have q : x.1.2.2.1 < 8 := by rw [eN]; exact nI_lt (b := 8) (by omega) (by omega)
      have q2 : ¬ mm.1 2 = 8 := by rw [e2]; intro q2; exact h8 (nI_inj32 (by omega) (by omega) q2)
      obtain ⟨hT, hI, hC⟩ := hR
      obtain ⟨s1, s2⟩ := seat_RT hT hI eN (by omega) hk
      rw [if_pos q, if_neg q2, bind_eta]
      unfold m_X4_seat m_X7_comesAs
      rw [if_pos q, eN, e2, gd_nI (by omega) (by omega), gd_nI (by omega) (by omega), nI_clamp (by omega), show (15 : Int32) = nI 15 from rfl, show (2 : Int32) = nI 2 from rfl, pk_mul, nI_add, nI_1, nI_1, gd_nI (by omega) (by omega), gd_nI (by omega) (by omega), nI_clamp (by omega), nI_clamp (by omega), show nI (N + 1) - 1 = nI N from pk_sub (a := N + 1) (b := 1) (by omega), show 15 + 2 * N + 1 = 16 + 2 * N by omega]
      exact ⟨_, _, _, rfl, rfl, s1, s2, hC⟩
theorem sim_of (v0 : Int32) (v1 : Int32) (x : pv_XT) (mm : pv_MT) (hR : Rel x mm) : ∃ (r : Int32) (x2 : pv_XT) (m2 : pv_MT), m_X6_of v0 v1 x = some (r, x2) ∧ m_X7_of v0 v1 mm = some (r, m2) ∧ Rel x2 m2 := by
  show Sim (m_X6_of v0 v1 x) (m_X7_of v0 v1 mm)
  unfold m_X6_of m_X7_of
  rcases envoy_c hR v0 with ⟨h1, h2⟩ | ⟨k, N, hk, hN, eN, rfl, h1, h2⟩
  · rw [h1, h2, if_pos rfl]; exact S_bey hR
  · rw [h1, h2, if_neg (by decide), Option.bind_some, if_neg (show ¬ (1 : Int32) = 0 by decide)]
    obtain ⟨r0, r1, r2, r3, r4, r5, r6, r7⟩ := id hR.1
    have e3 : mm.1 3 = x.1.2.2.2.2.2.1 0 := r3 0 (by omega)
    have e4 : mm.1 4 = x.1.2.2.2.2.2.1 1 := r3 1 (by omega)
    have inn : ∀ y0 y1 : Int32, ∀ j : Nat, j < 2 → m_X7_of_55 (nI k) (nI j) y0 y1 mm = some (mm.1 (15 + 2 * k + j), mm) := by
      intro y0 y1 j hj
      unfold m_X7_of_55
      have : ¬ (2 : Int32) ≤ nI j := nI_ge (b := 2) hj (by omega)
      rw [if_neg this, it_eq mm (by omega) hj]
      rfl
    have out : ∀ j : Nat, j < 2 → (if mm.1 3 = nI k then m_X7_of_40 (nI k) (nI j) 1 mm else m_X7_of_40 (nI k) (nI j) 0 mm) = some (mm.1 (15 + 2 * k + j), mm) := by
      intro j hj
      unfold m_X7_of_40
      rw [inn _ _ j hj, inn _ _ j hj, inn _ _ j hj, inn _ _ j hj, ite_self, ite_self]
    by_cases a0 : v1 = 0
    · subst a0
      rw [if_pos rfl, if_neg (show ¬ m_X7_in (0 : Int32).toInt64 0 2 = 0 by decide), gd_nI (by omega) (by omega), nI_clamp (by omega)]
      exact ⟨_, x, mm, rfl, (out 0 (by omega)).trans (congrArg some (Prod.ext (r6 k (by omega)) rfl)), hR⟩
    · by_cases a1 : v1 = 1
      · subst a1
        rw [if_neg a0, if_pos rfl, if_neg (show ¬ m_X7_in (1 : Int32).toInt64 0 2 = 0 by decide), gd_nI (by omega) (by omega), nI_clamp (by omega)]
        exact ⟨_, x, mm, rfl, (out 1 (by omega)).trans (congrArg some (Prod.ext (by rw [show 15 + 2 * k + 1 = 16 + 2 * k by omega]; exact r7 k (by omega)) rfl)), hR⟩
      · by_cases a2 : v1 = 2
        · subst a2
          rw [if_neg a0, if_neg a1, if_pos rfl, if_neg (show ¬ m_X7_in (2 : Int32).toInt64 0 2 = 0 by decide), e3]
          unfold m_X4_senders m_X4_senders_15 m_X7_of_40 m_X7_of_55
          rw [e4]
          have z : (2 : Int32) ≤ 2 := by decide
          by_cases b0 : x.1.2.2.2.2.2.1 0 = nI k
          · rw [if_pos b0, if_pos b0]
            by_cases b1 : x.1.2.2.2.2.2.1 1 = nI k
            · rw [if_pos b1, if_pos b1, if_pos z]; exact ⟨_, x, mm, rfl, rfl, hR⟩
            · rw [if_neg b1, if_neg b1, if_pos z]; exact ⟨_, x, mm, rfl, rfl, hR⟩
          · rw [if_neg b0, if_neg b0]
            by_cases b1 : x.1.2.2.2.2.2.1 1 = nI k
            · rw [if_pos b1, if_pos b1, if_pos z]; exact ⟨_, x, mm, rfl, rfl, hR⟩
            · rw [if_neg b1, if_neg b1, if_pos z]; exact ⟨_, x, mm, rfl, rfl, hR⟩
        · rw [if_neg a0, if_neg a1, if_neg a2]
          have z : m_X7_in v1.toInt64 0 2 = 0 := by
            rcases win_c v1 0 2 (by omega) (by omega) with ⟨g1, g2⟩ | ⟨n, -, hn, rfl, g1, g2⟩
            · exact g2
            · exfalso
              rcases (show n = 0 ∨ n = 1 ∨ n = 2 by omega) with rfl | rfl | rfl
              · exact a0 rfl
              · exact a1 rfl
              · exact a2 rfl
          rw [if_pos z]; exact S_bey hR
theorem sim_turn (v0 : Int32) (v1 : Int32) (x : pv_XT) (mm : pv_MT) (hR : Rel x mm) : ∃ (r : Int32) (x2 : pv_XT) (m2 : pv_MT), m_X6_turn v0 v1 x = some (r, x2) ∧ m_X7_turn v0 v1 mm = some (r, m2) ∧ Rel x2 m2 := by
  show Sim (m_X6_turn v0 v1 x) (m_X7_turn v0 v1 mm)
  unfold m_X6_turn m_X7_turn
  rcases envoy_c hR v0 with ⟨h1, h2⟩ | ⟨k, N, hk, hN, eN, rfl, h1, h2⟩
  · rw [h1, h2, if_pos rfl]; exact S_bey hR
  · rw [h1, h2, if_neg (by decide), Option.bind_some, if_neg (show ¬ (1 : Int32) = 0 by decide)]
    rcases kind_c v1 with ⟨g1, g2⟩ | ⟨j, hj, rfl, g1, g2⟩
    · rw [g1, g2, if_pos rfl, if_pos rfl]; exact S_bey hR
    · obtain ⟨hT, hI, hC⟩ := hR
      rw [g1, g2, if_neg (by decide), if_neg (by decide), bind_eta, show (15 : Int32) = nI 15 from rfl, show (2 : Int32) = nI 2 from rfl, pk_mul, nI_add, becomes_ok mm _ (by omega), gd_nI (by omega) (by omega), gd_nI (by omega) (by omega), nI_clamp (by omega)]
      exact ⟨_, _, _, rfl, congrArg some (Prod.ext (hT.2.2.2.2.2.2.1 k (by omega)) rfl), RT_knd hT (by omega) _, IT_knd hI hj, hC⟩
theorem sim_won (v0 : Int32) (v1 : Int32) (x : pv_XT) (mm : pv_MT) (hR : Rel x mm) : ∃ (r : Int32) (x2 : pv_XT) (m2 : pv_MT), m_X6_won v0 v1 x = some (r, x2) ∧ m_X7_won v0 v1 mm = some (r, m2) ∧ Rel x2 m2 := by
  show Sim (m_X6_won v0 v1 x) (m_X7_won v0 v1 mm)
  unfold m_X6_won m_X7_won
  rcases envoy_c hR v0 with ⟨h1, h2⟩ | ⟨k, N, hk, hN, eN, rfl, h1, h2⟩
  · rw [h1, h2, if_pos rfl]; exact S_bey hR
  · rw [h1, h2, if_neg (by decide), Option.bind_some, if_neg (show ¬ (1 : Int32) = 0 by decide)]
    rcases win_c v1 0 9999 (by omega) (by omega) with ⟨g1, g2⟩ | ⟨n, -, hn, rfl, g1, g2⟩
    · have g1' : m_X6_isWithin v1 0 9999 = 0 := g1
      have g2' : m_X7_in v1.toInt64 0 9999 = 0 := g2
      rw [g1', g2', if_pos rfl, if_pos rfl]; exact S_bey hR
    · have g1' : m_X6_isWithin (nI n) 0 9999 = 1 := g1
      have g2' : m_X7_in (nI n).toInt64 0 9999 = 1 := g2
      obtain ⟨hT, hI, hC⟩ := hR
      rw [g1', g2', if_neg (by decide), if_neg (by decide), bind_eta, show (15 : Int32) = nI 15 from rfl, show (2 : Int32) = nI 2 from rfl, pk_mul, nI_add, nI_1, show 15 + 2 * k + 1 = 16 + 2 * k by omega, becomes_ok mm _ (by omega), gd_nI (by omega) (by omega), gd_nI (by omega) (by omega), nI_clamp (by omega)]
      exact ⟨_, _, _, rfl, congrArg some (Prod.ext (hT.2.2.2.2.2.2.2 k (by omega)) rfl), RT_won hT (by omega) _, IT_won hI hn, hC⟩
theorem sim_send (v0 : Int32) (v1 : Int32) (x : pv_XT) (mm : pv_MT) (hR : Rel x mm) : ∃ (r : Int32) (x2 : pv_XT) (m2 : pv_MT), m_X6_send v0 v1 x = some (r, x2) ∧ m_X7_send v0 v1 mm = some (r, m2) ∧ Rel x2 m2 := by
  show Sim (m_X6_send v0 v1 x) (m_X7_send v0 v1 mm)
  unfold m_X6_send m_X7_send
  rcases state_c v0 with ⟨h1, h2⟩ | ⟨k, hk, rfl, h1, h2⟩
  · rw [h1, h2, if_pos rfl]; exact S_bey hR
  · rw [h1, h2, if_neg (by decide), Option.bind_some, if_neg (show ¬ (1 : Int32) = 0 by decide)]
    obtain ⟨N, hN, eN, -⟩ := hR.2.1.2.2.1
    have go : (v1 = -1 ∨ ∃ e, e < N ∧ v1 = nI e) → Sim (m_X6_send_27 (nI k) v1 x) (m_X7_send_20 (nI k) v1 mm) := by
      intro hv
      obtain ⟨hT, hI, hC⟩ := hR
      unfold m_X6_send_27 m_X7_send_20
      rw [bind_eta, show (3 : Int32) = nI 3 from rfl, nI_add, becomes_ok mm _ (by omega), gd_nI hk (by omega), gd_nI hk (by omega), nI_clamp (by omega)]
      exact ⟨_, _, _, rfl, congrArg some (Prod.ext (hT.2.2.2.1 k hk) rfl), RT_snt hT hk _, IT_snt hI eN hN hv, hC⟩
    by_cases hv : v1 = -1
    · rw [if_pos hv, if_pos hv]; exact go (Or.inl hv)
    · rw [if_neg hv, if_neg hv]
      rcases envoy_c hR v1 with ⟨g1, g2⟩ | ⟨e, N2, he, hN2, eN2, rfl, g1, g2⟩
      · rw [g1, g2, if_pos rfl, Option.bind_some, if_pos rfl]; exact S_bey hR
      · have : N = N2 := nI_inj32 (by omega) (by omega) (eN.symm.trans eN2)
        rw [g1, g2, if_neg (by decide), Option.bind_some, if_neg (by decide)]; exact go (Or.inr ⟨e, by omega, rfl⟩)
