/-! A MONTH GOES, AND SEVERAL -/
theorem goes_fin {T1 : pv_TT} {w w1 : pv_MT} {v : Int32} {M B : Nat} (hM : T1.1 = nI M) (hw : w.1 0 = nI M) (hM2 : M < 2 ^ 31) (hW : m_X7_wonBy w = some (v, w1)) (hR : RT T1 w1.1) (hI : IT T1 B) (hc : core w1 = core w) :
    ∃ w', m_X7_goes w = some w' ∧ RT (clT T1 M v) w'.1 ∧ core w' = core w := by
  have e : m_X7_goes w = m_X7_goes_23 (297 + 3) (nI 0) (upd w1.1 (7 + M % 8) v, w1.2) := by
    unfold m_X7_goes
    rw [hW]
    simp only [Option.bind_some]
    rw [hw, show (pv_rem (nI M) 8 : Int32) = nI (M % 8) from lit_rem hM2, show (7 : Int32) = nI 7 from rfl, nI_add, gd_nI (by omega) (by omega), nI_clamp (by omega)]
    rfl
  rw [e, goes_n]
  exact ⟨_, rfl, clT_RT hR hI hM, hc⟩
theorem IT_month {T : pv_TT} {B : Nat} (hI : IT T B) : ∃ M, M ≤ B ∧ T.1 = nI M := hI.1
theorem sent_cases {T : pv_TT} {B : Nat} (hI : IT T B) {s : Nat} (hs : s < 2) : (T.2.2.2.2.2.1 s = -1 ∧ T.2.2.2.2.2.1 s < 0) ∨ ∃ e, e < 8 ∧ T.2.2.2.2.2.1 s = nI e ∧ ¬ T.2.2.2.2.2.1 s < 0 := by
  obtain ⟨-, -, ⟨N, hN, eN, h⟩, -⟩ := hI
  rcases h s hs with h | ⟨e, he, h⟩
  · left; refine ⟨h, ?_⟩; rw [h]; decide
  · right; refine ⟨e, by omega, h, ?_⟩; rw [h]; exact nI_pos (by omega)
theorem vic_cases (n : Nat) : vic n = -1 ∨ vic n = 0 ∨ vic n = 1 := by
  unfold vic
  by_cases h : n = 2
  · rw [if_pos h]; exact Or.inl rfl
  · rw [if_neg h]
    by_cases h2 : n ≤ 2
    · rw [if_pos h2]; exact Or.inr (Or.inr rfl)
    · rw [if_neg h2]; exact Or.inr (Or.inl rfl)
theorem won_vic {w w1 : pv_MT} {k : Nat} (hk : k ≤ 4) (ha : m_X7_arePlaying w = some 1) (hp : m_X7_plays w = some (nI k, w1)) : m_X7_wonBy w = m_X7_wonBy_59 (vic k) w1 := by
  unfold m_X7_wonBy
  rw [ha, hp]
  simp only [Option.bind_some]
  rw [if_neg (by decide)]
  rcases (show k = 0 ∨ k = 1 ∨ k = 2 ∨ k = 3 ∨ k = 4 by omega) with rfl | rfl | rfl | rfl | rfl
  · rw [if_pos (by decide), if_neg (by decide)]; rfl
  · rw [if_pos (by decide), if_neg (by decide)]; rfl
  · rw [if_pos (by decide), if_pos (by decide)]; rfl
  · rw [if_neg (by decide)]; rfl
  · rw [if_neg (by decide)]; rfl
theorem month_ok {T : pv_TT} (g : pv_GT) {w : pv_MT} {B : Nat} (hR : RT T w.1) (hI : IT T B) (hB : B < 2 ^ 20) :
    ∃ T' g' w', (∀ n x1 x3, ¬ x1 ≤ x3 → m_X4_passMonths_2 (n + 1) x1 x3 (T, g) = m_X4_passMonths_2 n x1 (x3 + 1) (T', g')) ∧ m_X7_goes w = some w' ∧ RT T' w'.1 ∧ IT T' (B + 1) ∧ core w' = core w ∧ T'.2.2.1 = T.2.2.1 ∧ T'.1 = T.1 + 1 := by
  obtain ⟨M, hM, eM⟩ := IT_month hI
  have wM : w.1 0 = nI M := hR.1.trans eM
  have r3 : w.1 3 = T.2.2.2.2.2.1 0 := hR.2.2.2.1 0 (by omega)
  have r4 : w.1 4 = T.2.2.2.2.2.1 1 := hR.2.2.2.1 1 (by omega)
  have idle : ∀ v, (v = -1 ∨ v = 0 ∨ v = 1) → m_X4_bothSent T = some 0 → m_X4_onlySender T = some v → m_X7_wonBy w = some (v, w) → ∃ T' g' w', (∀ n x1 x3, ¬ x1 ≤ x3 → m_X4_passMonths_2 (n + 1) x1 x3 (T, g) = m_X4_passMonths_2 n x1 (x3 + 1) (T', g')) ∧ m_X7_goes w = some w' ∧ RT T' w'.1 ∧ IT T' (B + 1) ∧ core w' = core w ∧ T'.2.2.1 = T.2.2.1 ∧ T'.1 = T.1 + 1 := by
    intro v hv h1 h2 h3
    obtain ⟨w', q1, q2, q3⟩ := goes_fin eM wM (by omega) h3 hR hI rfl
    refine ⟨clT T M v, g, w', ?_, q1, q2, clT_ok hI eM hM hv, q3, rfl, rfl⟩
    intro n x1 x3 hx
    rw [m_X4_passMonths_2_s, if_neg hx, h1]
    simp only [Option.bind_some]
    rw [if_pos trivial, h2]
    simp only [Option.bind_some]
    rw [close_ok v eM (by omega)]
    rfl
  rcases sent_cases hI (s := 0) (by omega) with ⟨a, a2⟩ | ⟨e0, he0, a, a2⟩
  · rcases sent_cases hI (s := 1) (by omega) with ⟨b, b2⟩ | ⟨e1, he1, b, b2⟩
    · refine idle (-1) (Or.inl rfl) ?_ ?_ ?_
      · unfold m_X4_bothSent; rw [if_pos a2]
      · unfold m_X4_onlySender; rw [if_pos a2, if_pos b2]
      · unfold m_X7_wonBy m_X7_arePlaying; rw [r3, r4, if_pos a2]; simp only [Option.bind_some]; rw [if_pos trivial, if_pos a2, if_pos b2]
    · refine idle 1 (Or.inr (Or.inr rfl)) ?_ ?_ ?_
      · unfold m_X4_bothSent; rw [if_pos a2]
      · unfold m_X4_onlySender; rw [if_pos a2, if_neg b2]
      · unfold m_X7_wonBy m_X7_arePlaying; rw [r3, r4, if_pos a2]; simp only [Option.bind_some]; rw [if_pos trivial, if_pos a2, if_neg b2]
  · rcases sent_cases hI (s := 1) (by omega) with ⟨b, b2⟩ | ⟨e1, he1, b, b2⟩
    · refine idle 0 (Or.inr (Or.inl rfl)) ?_ ?_ ?_
      · unfold m_X4_bothSent; rw [if_neg a2, if_pos b2]
      · unfold m_X4_onlySender; rw [if_neg a2]
      · unfold m_X7_wonBy m_X7_arePlaying; rw [r3, r4, if_neg a2, if_pos b2]; simp only [Option.bind_some]; rw [if_pos trivial, if_neg a2]
    · have hs : ∀ s, s < 2 → ∃ e, e < 8 ∧ T.2.2.2.2.2.1 s = nI e := by
        intro s hs
        rcases (show s = 0 ∨ s = 1 by omega) with rfl | rfl
        · exact ⟨e0, he0, a⟩
        · exact ⟨e1, he1, b⟩
      obtain ⟨g', w1, p1, p2, -, p4, p5⟩ := play_ok (g := g) hR hI hB hs
      have hbs : m_X4_bothSent T = some 1 := by unfold m_X4_bothSent; rw [if_neg a2, if_neg b2]
      have hap : m_X7_arePlaying w = some 1 := by unfold m_X7_arePlaying; rw [r3, r4, if_neg a2, if_neg b2]
      have hvw := won_vic (nW_le g') hap p2
      have hR1 : RT T w1.1 := by rw [p4]; exact hR
      have step : ∀ T1, T1.1 = nI M → T1.2.2.1 = T.2.2.1 → m_X4_reward (vic (nW g' 4)) T = some T1 → ∀ n x1 x3, ¬ x1 ≤ x3 → m_X4_passMonths_2 (n + 1) x1 x3 (T, g) = m_X4_passMonths_2 n x1 (x3 + 1) (clT T1 M (vic (nW g' 4)), g') := by
        intro T1 h1 h2 h3 n x1 x3 hx
        rw [m_X4_passMonths_2_s, if_neg hx, hbs]
        simp only [Option.bind_some]
        rw [if_neg (by decide), p1]
        simp only [Option.bind_some]
        rw [victor_ok]
        simp only [Option.bind_some]
        rw [h3]
        simp only [Option.bind_some]
        rw [close_ok _ h1 (by omega)]
        rfl
      have prize : ∀ s, s < 2 → vic (nW g' 4) = nI s → ∃ T' g' w', (∀ n x1 x3, ¬ x1 ≤ x3 → m_X4_passMonths_2 (n + 1) x1 x3 (T, g) = m_X4_passMonths_2 n x1 (x3 + 1) (T', g')) ∧ m_X7_goes w = some w' ∧ RT T' w'.1 ∧ IT T' (B + 1) ∧ core w' = core w ∧ T'.2.2.1 = T.2.2.1 ∧ T'.1 = T.1 + 1 := by
        intro s hs2 hv
        obtain ⟨e, he, es⟩ := hs s hs2
        have hes : w1.1 (3 + s) = nI e := (hR1.2.2.2.1 s hs2).trans es
        have hwon : m_X7_wonBy w = some (vic (nW g' 4), (upd w1.1 (16 + 2 * e) (m_X7_held (w1.1 (16 + 2 * e) + 1) 0 9999), w1.2)) := by
          rw [hvw, hv]; exact won59_ok hs2 he hes
        obtain ⟨w', q1, q2, q3⟩ := goes_fin (T1 := rwT T e) eM wM (by omega) hwon (rwT_RT hR1 hI he) (rwT_IT hI he) p5
        refine ⟨clT (rwT T e) M (vic (nW g' 4)), g', w', step (rwT T e) eM rfl ?_, q1, q2, clT_ok (rwT_IT hI he) eM hM (vic_cases _), q3, rfl, rfl⟩
        rw [hv]; exact reward_ok hs2 he es
      rcases vic_cases (nW g' 4) with hv | hv | hv
      · have hwon : m_X7_wonBy w = some (vic (nW g' 4), w1) := by
          rw [hvw, hv]; unfold m_X7_wonBy_59; rw [if_pos (by decide)]
        obtain ⟨w', q1, q2, q3⟩ := goes_fin eM wM (by omega) hwon hR1 hI p5
        refine ⟨clT T M (vic (nW g' 4)), g', w', step T eM rfl ?_, q1, q2, clT_ok hI eM hM (vic_cases _), q3, rfl, rfl⟩
        rw [hv]; unfold m_X4_reward; rw [if_pos rfl]
      · exact prize 0 (by omega) hv
      · exact prize 1 (by omega) hv
/-- several months -/
theorem months_n : ∀ (k i n n2 : Nat) (T : pv_TT) (g : pv_GT) (w : pv_MT) (B : Nat), i + k < 2 ^ 31 → k < n → k < n2 → RT T w.1 → IT T B → B + k < 2 ^ 20 →
    ∃ T' g' w', m_X4_passMonths_2 n (nI (i + k)) (nI i) (T, g) = some (T', g') ∧ m_X7_goesFor_2 n2 (nI (i + k)) (nI i) w = some w' ∧ RT T' w'.1 ∧ IT T' (B + k) ∧ core w' = core w ∧ T'.2.2.1 = T.2.2.1 ∧ T'.1 = T.1 + nI k
  | 0, i, n, n2, T, g, w, B, hi, hn, hn2, hR, hI, hB => by
    obtain ⟨n, rfl⟩ : ∃ n', n = n' + 1 := ⟨n - 1, by omega⟩
    obtain ⟨n2, rfl⟩ : ∃ n', n2 = n' + 1 := ⟨n2 - 1, by omega⟩
    have h1 : nI (i + 0) ≤ nI i := nI_le (by omega) (by omega)
    rw [m_X4_passMonths_2_s, m_X7_goesFor_2_s, if_pos h1, if_pos h1]
    refine ⟨T, g, w, rfl, rfl, hR, hI, rfl, rfl, ?_⟩
    obtain ⟨M, -, eM⟩ := IT_month hI
    rw [eM, nI_add]; rfl
  | k + 1, i, n, n2, T, g, w, B, hi, hn, hn2, hR, hI, hB => by
    obtain ⟨n, rfl⟩ : ∃ n', n = n' + 1 := ⟨n - 1, by omega⟩
    obtain ⟨n2, rfl⟩ : ∃ n', n2 = n' + 1 := ⟨n2 - 1, by omega⟩
    have h1 : ¬ nI (i + (k + 1)) ≤ nI i := nI_ge (by omega) (by omega)
    obtain ⟨T1, g1, w1, q1, q2, q3, q4, q5, q6, q7⟩ := month_ok g hR hI (by omega)
    rw [q1 n _ _ h1, m_X7_goesFor_2_s, if_neg h1, q2]
    simp only [Option.bind_some]
    obtain ⟨T2, g2, w2, p1, p2, p3, p4, p5, p6, p7⟩ := months_n k (i + 1) n n2 T1 g1 w1 (B + 1) (by omega) (by omega) (by omega) q3 q4 (by omega)
    rw [nI_1, show i + (k + 1) = i + 1 + k by omega]
    refine ⟨T2, g2, w2, p1, p2, p3, by rw [show B + (k + 1) = B + 1 + k by omega]; exact p4, p5.trans q5, p6.trans q6, ?_⟩
    obtain ⟨M, -, eM⟩ := IT_month hI
    rw [p7, q7, eM, nI_1, nI_add, nI_add]
    congr 1; omega
