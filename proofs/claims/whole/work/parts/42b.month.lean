/-! ONE MONTH -/
def capP (a c : Int32) : Int32 := if a + c < 99999 then a + c else 99999
def capW (a : Int32) : Int32 := if a + 1 < 9999 then a + 1 else 9999
theorem held_nI {a m : Nat} (ha : a < 2 ^ 31) (hm : m < 2 ^ 31) : m_X7_held (nI a) 0 (nI m) = nI (min a m) := by
  unfold m_X7_held
  rw [if_pos (nI_pos' ha)]
  by_cases h : a ≤ m
  · rw [if_pos (nI_le h hm), Nat.min_eq_left h]
  · rw [if_neg (nI_ge (by omega) (by omega)), Nat.min_eq_right (by omega)]
theorem capP_nI {a c : Nat} (ha : a ≤ 99999) (hc : c ≤ 8) : capP (nI a) (nI c) = nI (min (a + c) 99999) := by
  unfold capP
  rw [nI_add]
  by_cases h : a + c < 99999
  · have h2 : nI (a + c) < 99999 := nI_lt (b := 99999) h (by omega)
    rw [if_pos h2, Nat.min_eq_left (by omega)]
  · have h2 : ¬ nI (a + c) < 99999 := nI_nlt (b := 99999) (by omega) (by omega)
    rw [if_neg h2, Nat.min_eq_right (by omega)]
    rfl
theorem capP_held {a c : Nat} (ha : a ≤ 99999) (hc : c ≤ 8) : m_X7_held (nI a + nI c) 0 99999 = capP (nI a) (nI c) := by
  rw [capP_nI ha hc, nI_add]
  exact held_nI (m := 99999) (by omega) (by omega)
theorem capW_nI {a : Nat} (ha : a ≤ 9999) : capW (nI a) = nI (min (a + 1) 9999) := by
  unfold capW
  rw [nI_1]
  by_cases h : a + 1 < 9999
  · have h2 : nI (a + 1) < 9999 := nI_lt (b := 9999) h (by omega)
    rw [if_pos h2, Nat.min_eq_left (by omega)]
  · have h2 : ¬ nI (a + 1) < 9999 := nI_nlt (b := 9999) (by omega) (by omega)
    rw [if_neg h2, Nat.min_eq_right (by omega)]
    rfl
theorem capW_held {a : Nat} (ha : a ≤ 9999) : m_X7_held (nI a + 1) 0 9999 = capW (nI a) := by
  rw [capW_nI ha, nI_1]
  exact held_nI (m := 9999) (by omega) (by omega)
/-- a table behind the end of a month, won by v -/
def pur (T : pv_TT) (o : Nat → Int32) : Nat → Int32 := upd (upd T.2.2.2.2.1 0 (capP (T.2.2.2.2.1 0) (cntL o 0))) 1 (capP (T.2.2.2.2.1 1) (cntL o 1))
theorem close_n (n : Nat) (T : pv_TT) : m_X4_close_12 (n + 3) (nI 0) T = some (T.1 + 1, T.2.1, T.2.2.1, T.2.2.2.1, pur T T.2.2.2.1, T.2.2.2.2.2.1, T.2.2.2.2.2.2.1, T.2.2.2.2.2.2.2) := by
  have h0 : ¬ (2 : Int32) ≤ nI 0 := by decide
  have h1 : ¬ (2 : Int32) ≤ nI (0 + 1) := by decide
  have h2 : (2 : Int32) ≤ nI (0 + 1 + 1) := by decide
  rw [show n + 3 = (n + 2) + 1 from rfl, m_X4_close_12_s, if_neg h0, owned_ok, gd_nI (by omega) (by omega)]
  simp only [Option.bind_some]
  rw [gd_nI (by omega) (by omega), nI_clamp (by omega), nI_1]
  rw [show n + 2 = (n + 1) + 1 from rfl, m_X4_close_12_s, if_neg h1, owned_ok, gd_nI (by omega) (by omega)]
  simp only [Option.bind_some]
  rw [gd_nI (by omega) (by omega), nI_clamp (by omega), nI_1]
  rw [m_X4_close_12_s, if_pos h2]
  have e1 : upd T.2.2.2.2.1 0 (if T.2.2.2.2.1 0 + cntL T.2.2.2.1 (nI 0) < 99999 then T.2.2.2.2.1 0 + cntL T.2.2.2.1 (nI 0) else 99999) (0 + 1) = T.2.2.2.2.1 1 := pk_un (by omega)
  rw [e1]
  rfl
theorem close_ok {T : pv_TT} {M : Nat} (v : Int32) (hM : T.1 = nI M) (hM2 : M < 2 ^ 31) : m_X4_close v T = some (T.1 + 1, T.2.1, T.2.2.1, upd T.2.2.2.1 (M % 8) v, pur T (upd T.2.2.2.1 (M % 8) v), T.2.2.2.2.2.1, T.2.2.2.2.2.2.1, T.2.2.2.2.2.2.2) := by
  have hs : m_X4_stake T = nI (M % 8) := by unfold m_X4_stake; rw [hM]; exact lit_rem hM2
  unfold m_X4_close
  rw [hs, gd_nI (by omega) (by omega), nI_clamp (by omega)]
  exact close_n 297 (T.1, T.2.1, T.2.2.1, upd T.2.2.2.1 (M % 8) v, T.2.2.2.2.1, T.2.2.2.2.2.1, T.2.2.2.2.2.2.1, T.2.2.2.2.2.2.2)
/-- the reference's row behind the end of a month -/
def endM (f : Nat → Int32) (q0 q1 : Int32) : Nat → Int32 := upd (upd (upd f 5 q0) 6 q1) 0 (f 0 + 1)
theorem goes_n (n : Nat) (w : pv_MT) : m_X7_goes_23 (n + 3) (nI 0) w = some (endM w.1 (m_X7_held (w.1 5 + cntL (fun p => w.1 (7 + p)) 0) 0 99999) (m_X7_held (w.1 6 + cntL (fun p => w.1 (7 + p)) 1) 0 99999), w.2) := by
  have h0 : ¬ (2 : Int32) ≤ nI 0 := by decide
  have h1 : ¬ (2 : Int32) ≤ nI (0 + 1) := by decide
  have h2 : (2 : Int32) ≤ nI (0 + 1 + 1) := by decide
  have b1 : ∀ (w : pv_MT) (st : Int32) (k : Int32 → Option pv_MT), (Option.bind (m_X7_landsOf st w) fun u_5 => Option.bind (m_X7_bits u_5) fun u_6 => k u_6) = k (cntL (fun p => w.1 (7 + p)) st) := by
    intro w st k
    rw [landsOf_ok]
    show (Option.bind (m_X7_bits _) fun u_6 => k u_6) = _
    rw [bits_eq]
    rfl
  rw [show n + 3 = (n + 2) + 1 from rfl, m_X7_goes_23_s, if_neg h0, b1, show (5 : Int32) = nI 5 from rfl, nI_add, gd_nI (by omega) (by omega), gd_nI (by omega) (by omega), nI_clamp (by omega), nI_1]
  rw [show n + 2 = (n + 1) + 1 from rfl, m_X7_goes_23_s, if_neg h1, b1, show (5 : Int32) = nI 5 from rfl, nI_add, gd_nI (by omega) (by omega), gd_nI (by omega) (by omega), nI_clamp (by omega), nI_1]
  rw [m_X7_goes_23_s, if_pos h2]
  dsimp only
  generalize hq : m_X7_held (w.1 (5 + 0) + cntL (fun p => w.1 (7 + p)) (nI 0)) 0 99999 = q
  have e1 : (fun p => upd w.1 (5 + 0) q (7 + p)) = (fun p => w.1 (7 + p)) := funext fun p => pk_un (by omega)
  have e2 : upd w.1 (5 + 0) q (5 + (0 + 1)) = w.1 6 := pk_un (by omega)
  rw [e1, e2]
  have e3 : ∀ z, upd (upd w.1 (5 + 0) q) (5 + (0 + 1)) z 0 = w.1 0 := fun z => by rw [pk_un (by omega), pk_un (by omega)]
  rw [e3, ← hq]
  rfl
/-- a table whose month goes, won by v; it agrees with the reference's row -/
def clT (T : pv_TT) (M : Nat) (v : Int32) : pv_TT := (T.1 + 1, T.2.1, T.2.2.1, upd T.2.2.2.1 (M % 8) v, pur T (upd T.2.2.2.1 (M % 8) v), T.2.2.2.2.2.1, T.2.2.2.2.2.2.1, T.2.2.2.2.2.2.2)
theorem clT_ok {T : pv_TT} {M B : Nat} {v : Int32} (hI : IT T B) (hM : T.1 = nI M) (hMB : M ≤ B) (hv : v = -1 ∨ v = 0 ∨ v = 1) : IT (clT T M v) (B + 1) := by
  obtain ⟨-, i2, i3, i4, i5, i6, i7⟩ := hI
  refine ⟨⟨M + 1, by omega, by show T.1 + 1 = _; rw [hM, nI_1]⟩, i2, i3, fun p hp => ?_, fun s hs => ?_, i6, i7⟩
  · show upd T.2.2.2.1 (M % 8) v p = -1 ∨ upd T.2.2.2.1 (M % 8) v p = 0 ∨ upd T.2.2.2.1 (M % 8) v p = 1
    by_cases e : p = M % 8
    · subst e; rw [pk_us]; exact hv
    · rw [pk_un e]; exact i4 p hp
  · obtain ⟨g0, hg0, eg0⟩ := i5 0 (by omega)
    obtain ⟨g1, hg1, eg1⟩ := i5 1 (by omega)
    obtain ⟨c0, hc0, ec0⟩ := cntL_le (upd T.2.2.2.1 (M % 8) v) 0
    obtain ⟨c1, hc1, ec1⟩ := cntL_le (upd T.2.2.2.1 (M % 8) v) 1
    show ∃ g, g ≤ 99999 ∧ pur T (upd T.2.2.2.1 (M % 8) v) s = nI g
    unfold pur
    rcases (show s = 0 ∨ s = 1 by omega) with rfl | rfl
    · rw [pk_un (by omega), pk_us, eg0, ec0, capP_nI hg0 hc0]
      exact ⟨_, Nat.min_le_right _ _, rfl⟩
    · rw [pk_us, eg1, ec1, capP_nI hg1 hc1]
      exact ⟨_, Nat.min_le_right _ _, rfl⟩
theorem clT_RT {T : pv_TT} {f : Nat → Int32} {M B : Nat} {v : Int32} (hR : RT T f) (hI : IT T B) (hM : T.1 = nI M) : RT (clT T M v) (endM (upd f (7 + M % 8) v) (m_X7_held (upd f (7 + M % 8) v 5 + cntL (fun p => upd f (7 + M % 8) v (7 + p)) 0) 0 99999) (m_X7_held (upd f (7 + M % 8) v 6 + cntL (fun p => upd f (7 + M % 8) v (7 + p)) 1) 0 99999)) := by
  obtain ⟨r0, r1, r2, r3, r4, r5, r6, r7⟩ := hR
  obtain ⟨-, -, -, -, i5, -⟩ := hI
  obtain ⟨g0, hg0, eg0⟩ := i5 0 (by omega)
  obtain ⟨g1, hg1, eg1⟩ := i5 1 (by omega)
  have ho : ∀ p, p < 8 → upd f (7 + M % 8) v (7 + p) = upd T.2.2.2.1 (M % 8) v p := by
    intro p hp
    by_cases e : p = M % 8
    · subst e; rw [pk_us, pk_us]
    · rw [pk_un e, pk_un (by omega)]; exact r5 p hp
  have f5 : upd f (7 + M % 8) v 5 = nI g0 := by rw [pk_un (by omega)]; exact (r4 0 (by omega)).trans eg0
  have f6 : upd f (7 + M % 8) v 6 = nI g1 := by rw [pk_un (by omega)]; exact (r4 1 (by omega)).trans eg1
  have cc : ∀ st, cntL (fun p => upd f (7 + M % 8) v (7 + p)) st = cntL (upd T.2.2.2.1 (M % 8) v) st := fun st => cntL_cong ho
  obtain ⟨c0, hc0, ec0⟩ := cntL_le (upd T.2.2.2.1 (M % 8) v) 0
  obtain ⟨c1, hc1, ec1⟩ := cntL_le (upd T.2.2.2.1 (M % 8) v) 1
  rw [cc, cc, f5, f6, ec0, ec1, capP_held hg0 hc0, capP_held hg1 hc1]
  have un : ∀ (q0 q1 : Int32) (j : Nat), j ≠ 0 → j ≠ 5 → j ≠ 6 → endM (upd f (7 + M % 8) v) q0 q1 j = upd f (7 + M % 8) v j := fun q0 q1 j h0 h5 h6 => by
    unfold endM; rw [pk_un h0, pk_un h6, pk_un h5]
  refine ⟨?_, ?_, ?_, fun s hs => ?_, fun s hs => ?_, fun p hp => ?_, fun e he => ?_, fun e he => ?_⟩
  · show endM _ _ _ 0 = T.1 + 1
    unfold endM
    rw [pk_us, pk_un (by omega), r0]
  · rw [un _ _ _ (by omega) (by omega) (by omega), pk_un (by omega)]; exact r1
  · rw [un _ _ _ (by omega) (by omega) (by omega), pk_un (by omega)]; exact r2
  · rw [un _ _ _ (by omega) (by omega) (by omega), pk_un (by omega)]; exact r3 s hs
  · show _ = pur T (upd T.2.2.2.1 (M % 8) v) s
    unfold endM pur
    rw [eg0, eg1, ec0, ec1]
    rcases (show s = 0 ∨ s = 1 by omega) with rfl | rfl
    · rw [pk_un (by omega), pk_un (by omega), pk_us, pk_un (by omega), pk_us]
    · rw [pk_un (by omega), pk_us, pk_us]
  · rw [un _ _ _ (by omega) (by omega) (by omega)]; exact ho p hp
  · rw [un _ _ _ (by omega) (by omega) (by omega), pk_un (by omega)]; exact r6 e he
  · rw [un _ _ _ (by omega) (by omega) (by omega), pk_un (by omega)]; exact r7 e he
/-- the winner's envoy has won once more -/
def rwT (T : pv_TT) (e : Nat) : pv_TT := (T.1, T.2.1, T.2.2.1, T.2.2.2.1, T.2.2.2.2.1, T.2.2.2.2.2.1, T.2.2.2.2.2.2.1, upd T.2.2.2.2.2.2.2 e (capW (T.2.2.2.2.2.2.2 e)))
theorem reward_ok {T : pv_TT} {s e : Nat} (hs : s < 2) (he : e < 8) (es : T.2.2.2.2.2.1 s = nI e) : m_X4_reward (nI s) T = some (rwT T e) := by
  have hne : ¬ nI s = -1 := by rcases (show s = 0 ∨ s = 1 by omega) with rfl | rfl <;> decide
  unfold m_X4_reward
  rw [if_neg hne, gd_nI hs (by omega), nI_clamp (by omega), es, gd_nI he (by omega), gd_nI he (by omega), nI_clamp (by omega)]
  rfl
theorem rwT_IT {T : pv_TT} {e B : Nat} (hI : IT T B) (he : e < 8) : IT (rwT T e) B := by
  obtain ⟨i1, i2, i3, i4, i5, i6, i7⟩ := hI
  refine ⟨i1, i2, i3, i4, i5, i6, fun j hj => ?_⟩
  show ∃ v, v ≤ 9999 ∧ upd T.2.2.2.2.2.2.2 e (capW (T.2.2.2.2.2.2.2 e)) j = nI v
  by_cases h : j = e
  · subst h
    obtain ⟨v, hv, ev⟩ := i7 j hj
    rw [pk_us, ev, capW_nI hv]
    exact ⟨_, Nat.min_le_right _ _, rfl⟩
  · rw [pk_un h]; exact i7 j hj
theorem rwT_RT {T : pv_TT} {f : Nat → Int32} {e B : Nat} (hR : RT T f) (hI : IT T B) (he : e < 8) : RT (rwT T e) (upd f (16 + 2 * e) (m_X7_held (f (16 + 2 * e) + 1) 0 9999)) := by
  obtain ⟨r0, r1, r2, r3, r4, r5, r6, r7⟩ := hR
  obtain ⟨v, hv, ev⟩ := hI.2.2.2.2.2.2 e he
  have h1 : f (16 + 2 * e) = nI v := (r7 e he).trans ev
  rw [h1, capW_held hv]
  refine ⟨?_, ?_, ?_, fun s hs => ?_, fun s hs => ?_, fun p hp => ?_, fun j hj => ?_, fun j hj => ?_⟩
  · rw [pk_un (by omega)]; exact r0
  · rw [pk_un (by omega)]; exact r1
  · rw [pk_un (by omega)]; exact r2
  · rw [pk_un (by omega)]; exact r3 s hs
  · rw [pk_un (by omega)]; exact r4 s hs
  · rw [pk_un (by omega)]; exact r5 p hp
  · rw [pk_un (by omega)]; exact r6 j hj
  · show _ = upd T.2.2.2.2.2.2.2 e (capW (T.2.2.2.2.2.2.2 e)) j
    by_cases h : j = e
    · subst h; rw [pk_us, pk_us, ev]
    · rw [pk_un h, pk_un (by omega)]; exact r7 j hj
theorem won59_ok {w : pv_MT} {s e : Nat} (hs : s < 2) (he : e < 8) (es : w.1 (3 + s) = nI e) : m_X7_wonBy_59 (nI s) w = some (nI s, (upd w.1 (16 + 2 * e) (m_X7_held (w.1 (16 + 2 * e) + 1) 0 9999), w.2)) := by
  unfold m_X7_wonBy_59
  rw [if_neg (nI_pos (by omega)), show (3 : Int32) = nI 3 from rfl, nI_add, gd_nI (by omega) (by omega), nI_clamp (by omega), es, show (15 : Int32) = nI 15 from rfl, show (2 : Int32) = nI 2 from rfl, pk_mul, nI_add, nI_1, gd_nI (by omega) (by omega), gd_nI (by omega) (by omega), nI_clamp (by omega), show 15 + 2 * e + 1 = 16 + 2 * e by omega]
