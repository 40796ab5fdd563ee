/-! THE TAPE FED AND WIPED; IMAGES; COUNTS -/
def xP (x : pv_XT) (P : pv_PT) : pv_XT := (x.1, x.2.1, x.2.2.1, x.2.2.2.1, P, x.2.2.2.2.2)
def mP (m : pv_MT) (t : Nat → Int32) (n : Int32) : pv_MT := (m.1, m.2.1, m.2.2.1, m.2.2.2.1, m.2.2.2.2.1, m.2.2.2.2.2.1, m.2.2.2.2.2.2.1, t, n, m.2.2.2.2.2.2.2.2.2)
theorem Rel_P {x : pv_XT} {m : pv_MT} {P : pv_PT} {t : Nat → Int32} {n : Int32} (hR : Rel x m) (hP : RP P t n) : Rel (xP x P) (mP m t n) := ⟨hR.1, hR.2.1, hR.2.2.1, hR.2.2.2.1, hP, hR.2.2.2.2.2⟩
theorem Rel_RP {x : pv_XT} {m : pv_MT} (hR : Rel x m) : RP x.2.2.2.2.1 m.2.2.2.2.2.2.2.1 m.2.2.2.2.2.2.2.2.1 := hR.2.2.2.2.1
theorem put_ok (v : Int32) {P : pv_PT} {t : Nat} (ht : t < 120) (e : P.2.1 = nI t) : m_X5_put v P = some (upd P.1 t v, nI (t + 1), P.2.2) := by
  have h : ¬ (120 : Int32) ≤ P.2.1 := by rw [e]; exact nI_ge (b := 120) ht (by omega)
  unfold m_X5_put
  rw [if_neg h, e, gd_nI ht (by omega), nI_clamp (by omega), nI_1] <;> rfl
theorem fd_x (n : Nat) (b x3 : Int32) {x : pv_XT} {P : pv_PT} (h : ¬ x3 < 0) (hp : m_X5_put ((b >>> ((8 * x3) &&& 31)) &&& 255) x.2.2.2.2.1 = some P) : m_X6_feed_41 (n + 1) b x3 x = m_X6_feed_41 n b (x3 + (-1)) (xP x P) := by
  rw [m_X6_feed_41_s, if_neg h, hp]
  rfl
theorem fd_m (n : Nat) (b x3 : Int32) {m : pv_MT} {t : Nat} (h : ¬ x3 < 0) (ht : t < 120) (e : m.2.2.2.2.2.2.2.2.1 = nI t) : m_X7_feed_39 (n + 1) b x3 m = m_X7_feed_39 n b (x3 + (-1)) (mP m (upd m.2.2.2.2.2.2.2.1 t ((b >>> ((8 * x3) &&& 31)) &&& 255)) (nI (t + 1))) := by
  rw [m_X7_feed_39_s, if_neg h, e, gd_nI ht (by omega), nI_clamp (by omega), nI_1]
  rfl
theorem feedL (b : Int32) : ∀ (k n n2 t : Nat) (x3 : Int32) (x : pv_XT) (m : pv_MT), ((k = 0 ∧ x3 = -1) ∨ ∃ j, k = j + 1 ∧ x3 = nI j) → k ≤ 4 → k < n → k < n2 → t + k ≤ 120 → m.2.2.2.2.2.2.2.2.1 = nI t → Rel x m →
    Sim (m_X6_feed_41 n b x3 x) (m_X7_feed_39 n2 b x3 m)
  | 0, n, n2, t, x3, x, m, h3, h4, hn, hn2, ht, et, hR => by
    obtain ⟨n, rfl⟩ : ∃ n', n = n' + 1 := ⟨n - 1, by omega⟩
    obtain ⟨n2, rfl⟩ : ∃ n', n2 = n' + 1 := ⟨n2 - 1, by omega⟩
    have e3 : x3 = -1 := by
      rcases h3 with ⟨-, h⟩ | ⟨j, h, -⟩
      · exact h
      · omega
    subst e3
    rw [m_X6_feed_41_s, m_X7_feed_39_s, if_pos (show (-1 : Int32) < 0 by decide), if_pos (show (-1 : Int32) < 0 by decide)]
    exact ⟨_, _, _, rfl, congrArg some (Prod.ext (Rel_RP hR).1.symm rfl), hR⟩
  | k + 1, n, n2, t, x3, x, m, h3, h4, hn, hn2, ht, et, hR => by
    obtain ⟨n, rfl⟩ : ∃ n', n = n' + 1 := ⟨n - 1, by omega⟩
    obtain ⟨n2, rfl⟩ : ∃ n', n2 = n' + 1 := ⟨n2 - 1, by omega⟩
    have e3 : x3 = nI k := by
      rcases h3 with ⟨h, -⟩ | ⟨j, h, h2⟩
      · omega
      · have : j = k := by omega
        rw [← this]; exact h2
    subst e3
    obtain ⟨p1, p2, p3⟩ := Rel_RP hR
    have h0 : ¬ nI k < 0 := nI_pos (by omega)
    rw [fd_x n b (nI k) h0 (put_ok _ (by omega) (p1.trans et)), fd_m n2 b (nI k) h0 (by omega) et]
    refine feedL b k n n2 (t + 1) (nI k + (-1)) _ _ ?_ (by omega) (by omega) (by omega) (by omega) rfl (Rel_P hR ⟨rfl, ⟨t + 1, by omega, rfl⟩, fun j hj => ?_⟩)
    · by_cases hk : k = 0
      · subst hk; exact Or.inl ⟨rfl, by decide⟩
      · obtain ⟨j, rfl⟩ : ∃ j, k = j + 1 := ⟨k - 1, by omega⟩
        exact Or.inr ⟨j, rfl, pk_m1 j⟩
    · show upd x.2.2.2.2.1.1 t _ j = upd m.2.2.2.2.2.2.2.1 t _ j
      by_cases e : j = t
      · subst e; rw [pk_us, pk_us]
      · rw [pk_un e, pk_un e]; exact p3 j hj
theorem sim_feed (v0 : Int32) (v1 : Int32) (x : pv_XT) (mm : pv_MT) (hR : Rel x mm) : ∃ (r : Int32) (x2 : pv_XT) (m2 : pv_MT), m_X6_feed v0 v1 x = some (r, x2) ∧ m_X7_feed v0 v1 mm = some (r, m2) ∧ Rel x2 m2 := by
  show Sim (m_X6_feed v0 v1 x) (m_X7_feed v0 v1 mm)
  unfold m_X6_feed m_X7_feed
  rcases win_c v1 1 4 (by omega) (by omega) with ⟨c1, c2⟩ | ⟨n, h1, hn, rfl, c1, c2⟩
  · have c1' : m_X6_isWithin v1 1 4 = 0 := c1
    have c2' : m_X7_in v1.toInt64 1 4 = 0 := c2
    rw [c1', c2', if_pos rfl, if_pos rfl]; exact S_bey hR
  · have c1' : m_X6_isWithin (nI n) 1 4 = 1 := c1
    have c2' : m_X7_in (nI n).toInt64 1 4 = 1 := c2
    obtain ⟨p1, ⟨t, ht, p2⟩, p3⟩ := Rel_RP hR
    rw [c1', c2', if_neg (show ¬ (1 : Int32) = 0 by decide), if_neg (show ¬ (1 : Int32) = 0 by decide), p1, p2, nI_add]
    by_cases q : t + n ≤ 120
    · have q1 : nI (t + n) ≤ 120 := nI_le (b := 120) q (by omega)
      rw [if_pos q1, if_pos q1]
      exact feedL v0 n 300 300 t (nI n - 1) x mm (Or.inr ⟨n - 1, by omega, pk_sub (a := n) (b := 1) h1⟩) hn (by omega) (by omega) q p2 hR
    · have q1 : ¬ nI (t + n) ≤ 120 := nI_ge (a := 120) (by omega) (by omega)
      rw [if_neg q1, if_neg q1]; exact S_full hR
theorem sim_wipe  (x : pv_XT) (mm : pv_MT) (hR : Rel x mm) : ∃ (r : Int32) (x2 : pv_XT) (m2 : pv_MT), m_X6_wipe  x = some (r, x2) ∧ m_X7_wipe  mm = some (r, m2) ∧ Rel x2 m2 := by
  obtain ⟨p1, p2, p3⟩ := Rel_RP hR
  exact ⟨_, xP x (x.2.2.2.2.1.1, 0, x.2.2.2.2.1.2.2), mP mm mm.2.2.2.2.2.2.2.1 0, rfl, congrArg some (Prod.ext p1.symm rfl), Rel_P hR ⟨rfl, ⟨0, by omega, rfl⟩, p3⟩⟩
theorem sim_image  (x : pv_XT) (mm : pv_MT) (hR : Rel x mm) : ∃ (r : Int32) (x2 : pv_XT) (m2 : pv_MT), m_X6_image  x = some (r, x2) ∧ m_X7_image  mm = some (r, m2) ∧ Rel x2 m2 := by
  obtain ⟨g, e, hg⟩ := copyAll_ok mm.1 mm.2.1
  unfold m_X6_image m_X7_image
  rw [e, become_eq]
  exact ⟨_, _, _, rfl, rfl, hR.1, hR.2.1, ⟨rfl, Or.inr rfl, fun _ => ⟨RT_cong hg (bcm_RT _ hR.1), bcm_IT _ hR.2.1⟩⟩, hR.2.2.2⟩
theorem Rel_RK {x : pv_XT} {m : pv_MT} (hR : Rel x m) : RK x.2.1 x.2.2.2.2.2.2.2 m.2.2.2.1 m.2.1 := hR.2.2.1
theorem sim_undo  (x : pv_XT) (mm : pv_MT) (hR : Rel x mm) : ∃ (r : Int32) (x2 : pv_XT) (m2 : pv_MT), m_X6_undo  x = some (r, x2) ∧ m_X7_undo  mm = some (r, m2) ∧ Rel x2 m2 := by
  show Sim (m_X6_undo x) (m_X7_undo mm)
  obtain ⟨k1, k2, k3⟩ := Rel_RK hR
  unfold m_X6_undo m_X7_undo
  rw [k1]
  rcases k2 with h | h
  · rw [if_pos h, if_pos h]; exact S_none hR
  · have h0 : ¬ mm.2.2.2.1 = 0 := by rw [h]; decide
    obtain ⟨a1, a2⟩ := k3 h
    obtain ⟨g, e, hg⟩ := copyAll_ok mm.2.1 mm.1
    rw [if_neg h0, if_neg h0, e, become_eq]
    have e2 : g 2 = x.2.1.2.2.1 := (hg 2 (by omega)).trans a1.2.2.1
    exact ⟨_, _, _, rfl, congrArg some (Prod.ext e2 rfl), RT_cong hg (bcm_RT _ a1), bcm_IT _ a2, ⟨rfl, Or.inr h, k3⟩, hR.2.2.2⟩
theorem sim_tear  (x : pv_XT) (mm : pv_MT) (hR : Rel x mm) : ∃ (r : Int32) (x2 : pv_XT) (m2 : pv_MT), m_X6_tear  x = some (r, x2) ∧ m_X7_tear  mm = some (r, m2) ∧ Rel x2 m2 := by
  obtain ⟨k1, k2, k3⟩ := Rel_RK hR
  unfold m_X6_tear m_X7_tear m_X6_tear_12 m_X7_tear_12
  rw [k1]
  have z : RK x.2.1 0 0 mm.2.1 := ⟨rfl, Or.inl rfl, fun e => absurd e (by decide)⟩
  rcases k2 with h | h
  · rw [if_pos h, if_pos h]; exact ⟨_, _, _, rfl, rfl, hR.1, hR.2.1, z, hR.2.2.2⟩
  · have h0 : ¬ mm.2.2.2.1 = 0 := by rw [h]; decide
    rw [if_neg h0, if_neg h0]; exact ⟨_, _, _, rfl, rfl, hR.1, hR.2.1, z, hR.2.2.2⟩
/-! count -/
theorem wonL (T : pv_TT) (m : pv_MT) (N : Nat) (hN : N ≤ 8) (eN : T.2.2.1 = nI N) (hR : RT T m.1) : ∀ (k i n n2 : Nat) (acc : Int32), i + k = N → k < n → k < n2 →
    ∃ r, m_X4_winsTogether_4 n acc (nI i) T = some r ∧ m_X7_allWon_4 n2 acc (nI i) m = some r
  | 0, i, n, n2, acc, hi, hn, hn2 => by
    obtain ⟨n, rfl⟩ : ∃ n', n = n' + 1 := ⟨n - 1, by omega⟩
    obtain ⟨n2, rfl⟩ : ∃ n', n2 = n' + 1 := ⟨n2 - 1, by omega⟩
    have h1 : T.2.2.1 ≤ nI i := by rw [eN]; exact nI_le (by omega) (by omega)
    have h2 : m.1 2 ≤ nI i := by rw [hR.2.2.1]; exact h1
    rw [m_X4_winsTogether_4_s, m_X7_allWon_4_s, if_pos h1, if_pos h2]
    exact ⟨_, rfl, rfl⟩
  | k + 1, i, n, n2, acc, hi, hn, hn2 => by
    obtain ⟨n, rfl⟩ : ∃ n', n = n' + 1 := ⟨n - 1, by omega⟩
    obtain ⟨n2, rfl⟩ : ∃ n', n2 = n' + 1 := ⟨n2 - 1, by omega⟩
    have h1 : ¬ T.2.2.1 ≤ nI i := by rw [eN]; exact nI_ge (by omega) (by omega)
    have h2 : ¬ m.1 2 ≤ nI i := by rw [hR.2.2.1]; exact h1
    have ei : m.1 (16 + 2 * i) = T.2.2.2.2.2.2.2 i := hR.2.2.2.2.2.2.2 i (by omega)
    rw [m_X4_winsTogether_4_s, m_X7_allWon_4_s, if_neg h1, if_neg h2, gd_nI (by omega) (by omega), nI_clamp (by omega), it_1 m (by omega), Option.bind_some, ei, nI_1]
    exact wonL T m N hN eN hR k (i + 1) n n2 _ (by omega) (by omega) (by omega)
theorem sim_count (v0 : Int32) (x : pv_XT) (mm : pv_MT) (hR : Rel x mm) : ∃ (r : Int32) (x2 : pv_XT) (m2 : pv_MT), m_X6_count v0 x = some (r, x2) ∧ m_X7_count v0 mm = some (r, m2) ∧ Rel x2 m2 := by
  show Sim (m_X6_count v0 x) (m_X7_count v0 mm)
  unfold m_X6_count m_X7_count
  by_cases h0 : v0 = 0
  · rw [if_pos h0, if_pos h0]; exact ⟨_, x, mm, rfl, congrArg some (Prod.ext hR.1.2.2.1 rfl), hR⟩
  rw [if_neg h0, if_neg h0]
  by_cases h1 : v0 = 1
  · rw [if_pos h1, if_pos h1]; exact ⟨_, x, mm, rfl, congrArg some (Prod.ext (Rel_RP hR).1.symm rfl), hR⟩
  rw [if_neg h1, if_neg h1]
  by_cases h2 : v0 = 2
  · obtain ⟨c, hc, o1, o2⟩ := bits_own hR.1 (-1)
    rw [if_pos h2, if_pos h2, o2, o1]; exact ⟨_, x, mm, rfl, rfl, hR⟩
  rw [if_neg h2, if_neg h2]
  by_cases h3 : v0 = 3
  · obtain ⟨N, hN, eN, -⟩ := hR.2.1.2.2.1
    obtain ⟨r, r1, r2⟩ := wonL x.1 mm N hN eN hR.1 N 0 300 300 0 (by omega) (by omega) (by omega)
    have e1 : m_X4_winsTogether x.1 = m_X4_winsTogether_4 300 0 (nI 0) x.1 := rfl
    have e2 : m_X7_allWon mm = m_X7_allWon_4 300 0 (nI 0) mm := rfl
    rw [if_pos h3, if_pos h3, e1, e2, r1, r2]; exact ⟨_, x, mm, rfl, rfl, hR⟩
  rw [if_neg h3, if_neg h3]
  exact S_bey hR
/-! status -/
theorem stat_c (x : Int32) : m_X6_isWithin x (-1) 6 = 0 ∨ ((x = -1 ∨ ∃ w, w < 7 ∧ x = nI w) ∧ m_X6_isWithin x (-1) 6 = 1) := by
  unfold m_X6_isWithin
  by_cases h : x < -1
  · rw [if_pos h]; exact Or.inl rfl
  · rw [if_neg h]
    by_cases h2 : 6 < x
    · rw [if_pos h2]; exact Or.inl rfl
    · rw [if_neg h2]
      refine Or.inr ⟨?_, rfl⟩
      rcases pk_ix x (n := 7) (by omega) with h3 | h3 | h3
      · left
        have g1 : ¬ x.toInt < (-1 : Int32).toInt := fun q => h ((fa_lt x (-1)).mpr q)
        have g2 : x.toInt < (0 : Int32).toInt := (fa_lt x 0).mp h3
        have a1 : (-1 : Int32).toInt = -1 := by decide
        have a2 : (0 : Int32).toInt = 0 := by decide
        rw [fa_eq]; omega
      · exfalso
        have g1 : (nI 7).toInt ≤ x.toInt := (fa_le (nI 7) x).mp h3
        have g2 : ¬ (6 : Int32).toInt < x.toInt := fun q => h2 ((fa_lt 6 x).mpr q)
        have a1 : (nI 7).toInt = 7 := by decide
        have a2 : (6 : Int32).toInt = 6 := by decide
        omega
      · exact Or.inr h3
theorem statA (x : pv_XT) (m : pv_MT) (hF : RF x.2.2.2.2.2.2.1 m.2.2.2.2.1) : ∀ (k i n n2 : Nat) (acc : Int32), i + k = 7 → k < n → k < n2 →
    ∃ r, m_X6_status_32 n acc (nI i) x = some (r, x) ∧ m_X7_status_22 n2 (-1) acc (nI i) m = some (r, m)
  | 0, i, n, n2, acc, hi, hn, hn2 => by
    obtain ⟨n, rfl⟩ : ∃ n', n = n' + 1 := ⟨n - 1, by omega⟩
    obtain ⟨n2, rfl⟩ : ∃ n', n2 = n' + 1 := ⟨n2 - 1, by omega⟩
    have h1 : (7 : Int32) ≤ nI i := nI_le (a := 7) (by omega) (by omega)
    rw [m_X6_status_32_s, m_X7_status_22_s, if_pos h1, if_pos h1]
    exact ⟨_, rfl, rfl⟩
  | k + 1, i, n, n2, acc, hi, hn, hn2 => by
    obtain ⟨n, rfl⟩ : ∃ n', n = n' + 1 := ⟨n - 1, by omega⟩
    obtain ⟨n2, rfl⟩ : ∃ n', n2 = n' + 1 := ⟨n2 - 1, by omega⟩
    have h1 : ¬ (7 : Int32) ≤ nI i := nI_ge (b := 7) (by omega) (by omega)
    have ei : x.2.2.2.2.2.2.1 i = m.2.2.2.2.1 i := hF i (by omega)
    rw [m_X6_status_32_s, m_X7_status_22_s, if_neg h1, if_neg h1, if_pos (show (-1 : Int32) < 0 by decide)]
    unfold m_X7_status_38 m_X7_status_48
    rw [gd_nI (by omega) (by omega), gd_nI (by omega) (by omega), nI_clamp (by omega), ei, nI_1]
    exact statA x m hF k (i + 1) n n2 _ (by omega) (by omega) (by omega)
theorem statB (m : pv_MT) (w : Nat) (hw : w < 7) : ∀ (k i n : Nat) (acc : Int32), i + k = 7 → k < n → m_X7_status_22 n (nI w) acc (nI i) m = some (if i ≤ w then acc + m.2.2.2.2.1 w else acc, m)
  | 0, i, n, acc, hi, hn => by
    obtain ⟨n, rfl⟩ : ∃ n', n = n' + 1 := ⟨n - 1, by omega⟩
    have h1 : (7 : Int32) ≤ nI i := nI_le (a := 7) (by omega) (by omega)
    rw [m_X7_status_22_s, if_pos h1, if_neg (show ¬ i ≤ w by omega)]
  | k + 1, i, n, acc, hi, hn => by
    obtain ⟨n, rfl⟩ : ∃ n', n = n' + 1 := ⟨n - 1, by omega⟩
    have h1 : ¬ (7 : Int32) ≤ nI i := nI_ge (b := 7) (by omega) (by omega)
    have h2 : ¬ nI w < 0 := nI_pos (by omega)
    rw [m_X7_status_22_s, if_neg h1, if_neg h2]
    unfold m_X7_status_38 m_X7_status_48
    by_cases e : w = i
    · subst e
      rw [if_pos rfl, gd_nI (by omega) (by omega), nI_clamp (by omega), nI_1, statB m w hw k (w + 1) n _ (by omega) (by omega), if_neg (show ¬ w + 1 ≤ w by omega), if_pos (Nat.le_refl w)]
    · have e2 : ¬ nI w = nI i := fun q => e (nI_inj32 (by omega) (by omega) q)
      rw [if_neg e2, nI_1, statB m w hw k (i + 1) n _ (by omega) (by omega), Int32.add_zero]
      by_cases q : i ≤ w
      · rw [if_pos q, if_pos (show i + 1 ≤ w by omega)]
      · rw [if_neg q, if_neg (show ¬ i + 1 ≤ w by omega)]
theorem sim_status (v0 : Int32) (x : pv_XT) (mm : pv_MT) (hR : Rel x mm) : ∃ (r : Int32) (x2 : pv_XT) (m2 : pv_MT), m_X6_status v0 x = some (r, x2) ∧ m_X7_status v0 mm = some (r, m2) ∧ Rel x2 m2 := by
  show Sim (m_X6_status v0 x) (m_X7_status v0 mm)
  unfold m_X6_status m_X7_status
  rw [in_eq]
  have hF : RF x.2.2.2.2.2.2.1 mm.2.2.2.2.1 := hR.2.2.2.1
  rcases stat_c v0 with h | ⟨h1, h⟩
  · rw [h, if_pos rfl, if_pos rfl]; exact S_bey hR
  · rw [h, if_neg (show ¬ (1 : Int32) = 0 by decide), if_neg (show ¬ (1 : Int32) = 0 by decide)]
    rcases h1 with rfl | ⟨w, hw, rfl⟩
    · obtain ⟨r, r1, r2⟩ := statA x mm hF 7 0 300 300 0 (by omega) (by omega) (by omega)
      have e1 : m_X6_status_32 300 0 0 x = m_X6_status_32 300 0 (nI 0) x := rfl
      have e2 : m_X7_status_22 300 (-1) 0 0 mm = m_X7_status_22 300 (-1) 0 (nI 0) mm := rfl
      rw [if_pos (show (-1 : Int32) < 0 by decide), e1, e2, r1, r2]
      exact ⟨_, _, _, rfl, rfl, hR⟩
    · have h2 : ¬ nI w < 0 := nI_pos (by omega)
      have e2 : m_X7_status_22 300 (nI w) 0 0 mm = m_X7_status_22 300 (nI w) 0 (nI 0) mm := rfl
      rw [if_neg h2, gd_nI (by omega) (by omega), nI_clamp (by omega), e2, statB mm w hw 7 0 300 0 (by omega) (by omega), if_pos (Nat.zero_le w), Int32.zero_add]
      exact ⟨_, _, _, rfl, congrArg some (Prod.ext (hF w hw).symm rfl), hR⟩
