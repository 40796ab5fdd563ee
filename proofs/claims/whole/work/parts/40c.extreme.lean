/-! THE LOWEST AND THE HIGHEST CARD: both ways find the same one -/
theorem pv_remN {a d : Nat} (ha : a < 2 ^ 31) (h0 : 0 < d) (hd : d < 2 ^ 31) : pv_rem (nI a) (nI d) = nI (a % d) := pk_rem ha h0 hd
theorem bt_1 : ∀ i, i < 32 → bt 1 i = decide (i = 0) := by decide +kernel
theorem bit0 (y : Int32) : (y &&& 1) = 1 ↔ bt y 0 = true := by
  constructor
  · intro h
    have h1 : bt (y &&& 1) 0 = bt 1 0 := by rw [h]
    rw [b_and, bt_1 0 (by omega)] at h1
    simpa using h1
  · intro h
    apply b_ext
    intro i hi
    rw [b_and, bt_1 i hi]
    by_cases h0 : i = 0
    · subst h0; simp [h]
    · simp [h0]
theorem has_eq (S : Int32) {c : Nat} (hc : c < 32) : m_X7_has S (nI c) = if bt S c = true then 1 else 0 := by
  have h : bt (pv_ushr S (nI c)) 0 = bt S (c + 0) := b_ushr c hc S 0
  unfold m_X7_has
  by_cases hb : bt S c = true
  · rw [if_pos ((bit0 _).mpr (by rw [h]; exact hb)), if_pos hb]
  · rw [if_neg (fun z => hb (by have := (bit0 _).mp z; rw [h] at this; exact this)), if_neg hb]

def iv_lowest (f : Nat → Bool) (c : Nat) (best : Int32) : Prop := (best = -1 ∧ ∀ j, j < c → f j = false) ∨ ∃ b, b < c ∧ best = nI b ∧ f b = true ∧ ∀ j, j < c → f j = true → (b % 8 < j % 8 ∨ (b % 8 = j % 8 ∧ b ≤ j))
theorem iv_lowest_one {f : Nat → Bool} {r1 r2 : Int32} (h1 : iv_lowest f 32 r1) (h2 : iv_lowest f 32 r2) : r1 = r2 := by
  rcases h1 with ⟨rfl, a1⟩ | ⟨b, b1, rfl, b2, b3⟩ <;> rcases h2 with ⟨rfl, c1⟩ | ⟨d, d1, rfl, d2, d3⟩
  · rfl
  · have := a1 d d1; rw [this] at d2; cases d2
  · have := c1 b b1; rw [this] at b2; cases b2
  · have e1 := b3 d d1 d2
    have e2 := d3 b b1 b2
    rw [show b = d by omega]
theorem m7_lowest_loop (S : Int32) : ∀ (k c n : Nat) (best : Int32), c + k = 32 → k < n → iv_lowest (bt S) c best → ∃ r, m_X7_lowest_4 n S best (nI c) = some r ∧ iv_lowest (bt S) 32 r := by
  intro k
  induction k with
  | zero =>
    intro c n best hc hn hi
    obtain ⟨n, rfl⟩ : ∃ n', n = n' + 1 := ⟨n - 1, by omega⟩
    have : c = 32 := by omega
    subst this
    refine ⟨best, ?_, hi⟩
    rw [m_X7_lowest_4_s]
    exact if_pos (by decide)
  | succ k ih =>
    intro c n best hc hn hi
    obtain ⟨n, rfl⟩ : ∃ n', n = n' + 1 := ⟨n - 1, by omega⟩
    have hstep : ∀ b2, iv_lowest (bt S) (c + 1) b2 → ∃ r, m_X7_lowest_4 n S b2 (nI c + 1) = some r ∧ iv_lowest (bt S) 32 r := fun b2 h => by
      rw [nI_1]; exact ih (c + 1) n b2 (by omega) (by omega) h
    have hlt : ¬ (32 : Int32) ≤ nI c := nI_ge (b := 32) (by omega) (by omega)
    have e : m_X7_lowest_4 (n + 1) S best (nI c) = (if m_X7_has S (nI c) = 0 then m_X7_lowest_4 n S best (nI c + 1) else if best < 0 then m_X7_lowest_4 n S (nI c) (nI c + 1) else if pv_rem best 8 ≤ pv_rem (nI c) 8 then m_X7_lowest_4 n S best (nI c + 1) else m_X7_lowest_4 n S (nI c) (nI c + 1)) := if_neg hlt
    rw [e, has_eq S (by omega)]
    by_cases hb : bt S c = true
    · rw [hb, if_neg (by decide)]
      rcases hi with ⟨rfl, a1⟩ | ⟨b, b1, rfl, b2, b3⟩
      · rw [if_pos (by decide)]
        refine hstep _ (Or.inr ⟨c, by omega, rfl, hb, fun j hj hfj => ?_⟩)
        rcases Nat.lt_or_ge j c with h | h
        · have := a1 j h; rw [this] at hfj; cases hfj
        · exact Or.inr ⟨by rw [show j = c by omega], by omega⟩
      · rw [if_neg (nI_pos (by omega)), show (8 : Int32) = nI 8 from rfl, pv_remN (by omega) (by omega) (by omega), pv_remN (by omega) (by omega) (by omega)]
        by_cases hr : b % 8 ≤ c % 8
        · rw [if_pos ((nI_leI (by omega) (by omega)).mpr hr)]
          refine hstep _ (Or.inr ⟨b, by omega, rfl, b2, fun j hj hfj => ?_⟩)
          rcases Nat.lt_or_ge j c with h | h
          · exact b3 j h hfj
          · have : j = c := by omega
            subst this
            omega
        · rw [if_neg (fun h => hr ((nI_leI (by omega) (by omega)).mp h))]
          refine hstep _ (Or.inr ⟨c, by omega, rfl, hb, fun j hj hfj => ?_⟩)
          rcases Nat.lt_or_ge j c with h | h
          · have := b3 j h hfj
            omega
          · exact Or.inr ⟨by rw [show j = c by omega], by omega⟩
    · have hbf : bt S c = false := by simpa using hb
      rw [hbf, if_pos (by decide)]
      refine hstep _ ?_
      rcases hi with ⟨rfl, a1⟩ | ⟨b, b1, rfl, b2, b3⟩
      · refine Or.inl ⟨rfl, fun j hj => ?_⟩
        rcases Nat.lt_or_ge j c with h | h
        · exact a1 j h
        · rw [show j = c by omega]; exact hbf
      · refine Or.inr ⟨b, by omega, rfl, b2, fun j hj hfj => ?_⟩
        rcases Nat.lt_or_ge j c with h | h
        · exact b3 j h hfj
        · rw [show j = c by omega, hbf] at hfj; cases hfj
theorem m7_lowest (S : Int32) : ∃ r, m_X7_lowest S = some r ∧ iv_lowest (bt S) 32 r := m7_lowest_loop S 32 0 300 (-1) (by omega) (by omega) (Or.inl ⟨rfl, fun j hj => by omega⟩)

def iv_highest (f : Nat → Bool) (c : Nat) (best : Int32) : Prop := (best = -1 ∧ ∀ j, j < c → f j = false) ∨ ∃ b, b < c ∧ best = nI b ∧ f b = true ∧ ∀ j, j < c → f j = true → (j % 8 < b % 8 ∨ (b % 8 = j % 8 ∧ b ≤ j))
theorem iv_highest_one {f : Nat → Bool} {r1 r2 : Int32} (h1 : iv_highest f 32 r1) (h2 : iv_highest f 32 r2) : r1 = r2 := by
  rcases h1 with ⟨rfl, a1⟩ | ⟨b, b1, rfl, b2, b3⟩ <;> rcases h2 with ⟨rfl, c1⟩ | ⟨d, d1, rfl, d2, d3⟩
  · rfl
  · have := a1 d d1; rw [this] at d2; cases d2
  · have := c1 b b1; rw [this] at b2; cases b2
  · have e1 := b3 d d1 d2
    have e2 := d3 b b1 b2
    rw [show b = d by omega]
theorem m7_highest_loop (S : Int32) : ∀ (k c n : Nat) (best : Int32), c + k = 32 → k < n → iv_highest (bt S) c best → ∃ r, m_X7_highest_4 n S best (nI c) = some r ∧ iv_highest (bt S) 32 r := by
  intro k
  induction k with
  | zero =>
    intro c n best hc hn hi
    obtain ⟨n, rfl⟩ : ∃ n', n = n' + 1 := ⟨n - 1, by omega⟩
    have : c = 32 := by omega
    subst this
    refine ⟨best, ?_, hi⟩
    rw [m_X7_highest_4_s]
    exact if_pos (by decide)
  | succ k ih =>
    intro c n best hc hn hi
    obtain ⟨n, rfl⟩ : ∃ n', n = n' + 1 := ⟨n - 1, by omega⟩
    have hstep : ∀ b2, iv_highest (bt S) (c + 1) b2 → ∃ r, m_X7_highest_4 n S b2 (nI c + 1) = some r ∧ iv_highest (bt S) 32 r := fun b2 h => by
      rw [nI_1]; exact ih (c + 1) n b2 (by omega) (by omega) h
    have hlt : ¬ (32 : Int32) ≤ nI c := nI_ge (b := 32) (by omega) (by omega)
    have e : m_X7_highest_4 (n + 1) S best (nI c) = (if m_X7_has S (nI c) = 0 then m_X7_highest_4 n S best (nI c + 1) else if best < 0 then m_X7_highest_4 n S (nI c) (nI c + 1) else if pv_rem (nI c) 8 ≤ pv_rem best 8 then m_X7_highest_4 n S best (nI c + 1) else m_X7_highest_4 n S (nI c) (nI c + 1)) := if_neg hlt
    rw [e, has_eq S (by omega)]
    by_cases hb : bt S c = true
    · rw [hb, if_neg (by decide)]
      rcases hi with ⟨rfl, a1⟩ | ⟨b, b1, rfl, b2, b3⟩
      · rw [if_pos (by decide)]
        refine hstep _ (Or.inr ⟨c, by omega, rfl, hb, fun j hj hfj => ?_⟩)
        rcases Nat.lt_or_ge j c with h | h
        · have := a1 j h; rw [this] at hfj; cases hfj
        · exact Or.inr ⟨by rw [show j = c by omega], by omega⟩
      · rw [if_neg (nI_pos (by omega)), show (8 : Int32) = nI 8 from rfl, pv_remN (by omega) (by omega) (by omega), pv_remN (by omega) (by omega) (by omega)]
        by_cases hr : c % 8 ≤ b % 8
        · rw [if_pos ((nI_leI (by omega) (by omega)).mpr hr)]
          refine hstep _ (Or.inr ⟨b, by omega, rfl, b2, fun j hj hfj => ?_⟩)
          rcases Nat.lt_or_ge j c with h | h
          · exact b3 j h hfj
          · have : j = c := by omega
            subst this
            omega
        · rw [if_neg (fun h => hr ((nI_leI (by omega) (by omega)).mp h))]
          refine hstep _ (Or.inr ⟨c, by omega, rfl, hb, fun j hj hfj => ?_⟩)
          rcases Nat.lt_or_ge j c with h | h
          · have := b3 j h hfj
            omega
          · exact Or.inr ⟨by rw [show j = c by omega], by omega⟩
    · have hbf : bt S c = false := by simpa using hb
      rw [hbf, if_pos (by decide)]
      refine hstep _ ?_
      rcases hi with ⟨rfl, a1⟩ | ⟨b, b1, rfl, b2, b3⟩
      · refine Or.inl ⟨rfl, fun j hj => ?_⟩
        rcases Nat.lt_or_ge j c with h | h
        · exact a1 j h
        · rw [show j = c by omega]; exact hbf
      · refine Or.inr ⟨b, by omega, rfl, b2, fun j hj hfj => ?_⟩
        rcases Nat.lt_or_ge j c with h | h
        · exact b3 j h hfj
        · rw [show j = c by omega, hbf] at hfj; cases hfj
theorem m7_highest (S : Int32) : ∃ r, m_X7_highest S = some r ∧ iv_highest (bt S) 32 r := m7_highest_loop S 32 0 300 (-1) (by omega) (by omega) (Or.inl ⟨rfl, fun j hj => by omega⟩)

def smV (r : Nat) (b0 b1 b2 b3 : Bool) : Int32 := nI (2 ^ r * (b0.toNat + 256 * b1.toNat + 65536 * b2.toNat + 16777216 * b3.toNat))
def smF (b0 b1 b2 : Bool) : Nat := if b0 then 0 else if b1 then 1 else if b2 then 2 else 3
theorem sm_0 : ∀ r : Fin 8, ∀ b0 b1 b2 b3 : Bool, smV r b0 b1 b2 b3 = 0 ↔ (b0 = false ∧ b1 = false ∧ b2 = false ∧ b3 = false) := by decide +kernel
theorem sm_1 : ∀ r : Fin 8, ∀ b0 b1 b2 b3 : Bool, (b0 = true ∨ b1 = true ∨ b2 = true ∨ b3 = true) → m_J6_bitCount_0f7a4 ((smV r b0 b1 b2 b3 &&& (-(smV r b0 b1 b2 b3))) - 1) = nI (r.val + 8 * smF b0 b1 b2) := by decide +kernel
theorem sm_m : ∀ r : Fin 8, ∀ i : Fin 32, bt ((16843009 : Int32) <<< (nI r.val &&& 31)) i.val = decide (i.val % 8 = r.val) := by decide +kernel
theorem sm_b : ∀ r : Fin 8, ∀ i : Fin 32, ∀ b0 b1 b2 b3 : Bool, bt (smV r.val b0 b1 b2 b3) i.val = (decide (i.val % 8 = r.val) && (if i.val / 8 = 0 then b0 else if i.val / 8 = 1 then b1 else if i.val / 8 = 2 then b2 else b3)) := by decide +kernel
theorem sm_eq (S : Int32) {r : Nat} (hr : r < 8) : S &&& ((16843009 : Int32) <<< (nI r &&& 31)) = smV r (bt S r) (bt S (r + 8)) (bt S (r + 16)) (bt S (r + 24)) := by
  apply b_ext
  intro i hi
  rw [b_and, sm_m ⟨r, hr⟩ ⟨i, hi⟩, sm_b ⟨r, hr⟩ ⟨i, hi⟩]
  dsimp only
  by_cases h : i % 8 = r
  · rw [decide_eq_true h, Bool.and_true, Bool.true_and]
    rcases (show i / 8 = 0 ∨ i / 8 = 1 ∨ i / 8 = 2 ∨ i / 8 = 3 by omega) with q | q | q | q
    · rw [if_pos q, show i = r by omega]
    · rw [if_neg (by omega), if_pos q, show i = r + 8 by omega]
    · rw [if_neg (by omega), if_neg (by omega), if_pos q, show i = r + 16 by omega]
    · rw [if_neg (by omega), if_neg (by omega), if_neg (by omega), show i = r + 24 by omega]
  · rw [decide_eq_false h, Bool.and_false, Bool.false_and]
/-- one rank: either none of its four cards is there, or the answer is the one of the least number -/
theorem sm_rank (S : Int32) {r : Nat} (hr : r < 8) : (S &&& ((16843009 : Int32) <<< (nI r &&& 31)) = 0 ∧ ∀ j, j < 32 → j % 8 = r → bt S j = false) ∨
    (¬ S &&& ((16843009 : Int32) <<< (nI r &&& 31)) = 0 ∧ ∃ b, b < 32 ∧ b % 8 = r ∧ bt S b = true ∧ (∀ j, j < 32 → j % 8 = r → bt S j = true → b ≤ j) ∧ m_J6_bitCount_0f7a4 (((S &&& ((16843009 : Int32) <<< (nI r &&& 31))) &&& (-(S &&& ((16843009 : Int32) <<< (nI r &&& 31))))) - 1) = nI b) := by
  rw [sm_eq S hr]
  have h0 := sm_0 ⟨r, hr⟩ (bt S r) (bt S (r + 8)) (bt S (r + 16)) (bt S (r + 24))
  have h1 := sm_1 ⟨r, hr⟩ (bt S r) (bt S (r + 8)) (bt S (r + 16)) (bt S (r + 24))
  dsimp only at h0 h1
  have hj : ∀ j, j < 32 → j % 8 = r → j = r ∨ j = r + 8 ∨ j = r + 16 ∨ j = r + 24 := fun j h2 h3 => by omega
  by_cases hz : smV r (bt S r) (bt S (r + 8)) (bt S (r + 16)) (bt S (r + 24)) = 0
  · refine Or.inl ⟨hz, fun j h2 h3 => ?_⟩
    obtain ⟨z0, z1, z2, z3⟩ := h0.mp hz
    rcases hj j h2 h3 with rfl | rfl | rfl | rfl <;> assumption
  · refine Or.inr ⟨hz, ?_⟩
    cases c0 : bt S r with
    | true =>
      rw [c0] at h1
      refine ⟨r, by omega, by omega, c0, fun j h2 h3 h4 => by omega, ?_⟩
      exact h1 (Or.inl rfl)
    | false =>
      cases c1 : bt S (r + 8) with
      | true =>
        rw [c0, c1] at h1
        refine ⟨r + 8, by omega, by omega, c1, fun j h2 h3 h4 => ?_, h1 (Or.inr (Or.inl rfl))⟩
        rcases hj j h2 h3 with rfl | rfl | rfl | rfl
        · rw [c0] at h4; cases h4
        all_goals omega
      | false =>
        cases c2 : bt S (r + 16) with
        | true =>
          rw [c0, c1, c2] at h1
          refine ⟨r + 16, by omega, by omega, c2, fun j h2 h3 h4 => ?_, h1 (Or.inr (Or.inr (Or.inl rfl)))⟩
          rcases hj j h2 h3 with rfl | rfl | rfl | rfl
          · rw [c0] at h4; cases h4
          · rw [c1] at h4; cases h4
          all_goals omega
        | false =>
          cases c3 : bt S (r + 24) with
          | true =>
            rw [c0, c1, c2, c3] at h1
            refine ⟨r + 24, by omega, by omega, c3, fun j h2 h3 h4 => ?_, h1 (Or.inr (Or.inr (Or.inr rfl)))⟩
            rcases hj j h2 h3 with rfl | rfl | rfl | rfl
            · rw [c0] at h4; cases h4
            · rw [c1] at h4; cases h4
            · rw [c2] at h4; cases h4
            · omega
          | false => exact absurd (h0.mpr ⟨c0, c1, c2, c3⟩) hz
theorem m0_lowest_loop (S : Int32) : ∀ (k r n : Nat), r + k = 8 → k < n → (∀ j, j < 32 → j % 8 < r → bt S j = false) → ∃ z, m_X0_lowest_2 n S (nI r) = some z ∧ iv_lowest (bt S) 32 z := by
  intro k
  induction k with
  | zero =>
    intro r n hr hn hf
    obtain ⟨n, rfl⟩ : ∃ n', n = n' + 1 := ⟨n - 1, by omega⟩
    have : r = 8 := by omega
    subst this
    refine ⟨-1, by rw [m_X0_lowest_2_s]; exact if_pos (by decide), Or.inl ⟨rfl, fun j hj => hf j hj (by omega)⟩⟩
  | succ k ih =>
    intro r n hr hn hf
    obtain ⟨n, rfl⟩ : ∃ n', n = n' + 1 := ⟨n - 1, by omega⟩
    have e : m_X0_lowest_2 (n + 1) S (nI r) = (if (S &&& ((16843009 : Int32) <<< (nI r &&& 31))) = 0 then m_X0_lowest_2 n S (nI r + 1) else some (m_J6_bitCount_0f7a4 (((S &&& ((16843009 : Int32) <<< (nI r &&& 31))) &&& (-(S &&& ((16843009 : Int32) <<< (nI r &&& 31))))) - 1))) := if_neg (nI_ge (b := 8) (by omega) (by omega))
    rw [e]
    rcases sm_rank S (show r < 8 by omega) with ⟨h1, h2⟩ | ⟨h1, b, b1, b2, b3, b4, b5⟩
    · rw [if_pos h1, nI_1]
      refine ih (r + 1) n (by omega) (by omega) (fun j hj hjr => ?_)
      rcases Nat.lt_or_ge (j % 8) r with h | h
      · exact hf j hj h
      · exact h2 j hj (by omega)
    · rw [if_neg h1, b5]
      refine ⟨nI b, rfl, Or.inr ⟨b, b1, rfl, b3, fun j hj hfj => ?_⟩⟩
      rcases Nat.lt_or_ge (j % 8) r with h | h
      · have := hf j hj h; rw [this] at hfj; cases hfj
      · rcases Nat.lt_or_ge r (j % 8) with q | q
        · exact Or.inl (by omega)
        · have := b4 j hj (by omega) hfj
          exact Or.inr ⟨by omega, this⟩
theorem m0_highest_loop (S : Int32) : ∀ (k n : Nat), k ≤ 8 → k < n → (∀ j, j < 32 → k ≤ j % 8 → bt S j = false) → ∃ z, m_X0_highest_3 n S (nI k + (-1)) = some z ∧ iv_highest (bt S) 32 z := by
  intro k
  induction k with
  | zero =>
    intro n hk hn hf
    obtain ⟨n, rfl⟩ : ∃ n', n = n' + 1 := ⟨n - 1, by omega⟩
    refine ⟨-1, by rw [m_X0_highest_3_s]; exact if_pos (by decide), Or.inl ⟨rfl, fun j hj => hf j hj (by omega)⟩⟩
  | succ r ih =>
    intro n hr hn hf
    obtain ⟨n, rfl⟩ : ∃ n', n = n' + 1 := ⟨n - 1, by omega⟩
    rw [pk_m1]
    have e : m_X0_highest_3 (n + 1) S (nI r) = (if (S &&& ((16843009 : Int32) <<< (nI r &&& 31))) = 0 then m_X0_highest_3 n S (nI r + (-1)) else some (m_J6_bitCount_0f7a4 (((S &&& ((16843009 : Int32) <<< (nI r &&& 31))) &&& (-(S &&& ((16843009 : Int32) <<< (nI r &&& 31))))) - 1))) := if_neg (nI_pos (by omega))
    rw [e]
    rcases sm_rank S (show r < 8 by omega) with ⟨h1, h2⟩ | ⟨h1, b, b1, b2, b3, b4, b5⟩
    · rw [if_pos h1]
      refine ih n (by omega) (by omega) (fun j hj hjr => ?_)
      rcases Nat.lt_or_ge r (j % 8) with h | h
      · exact hf j hj h
      · exact h2 j hj (by omega)
    · rw [if_neg h1, b5]
      refine ⟨nI b, rfl, Or.inr ⟨b, b1, rfl, b3, fun j hj hfj => ?_⟩⟩
      rcases Nat.lt_or_ge r (j % 8) with h | h
      · have := hf j hj h; rw [this] at hfj; cases hfj
      · rcases Nat.lt_or_ge (j % 8) r with q | q
        · exact Or.inl (by omega)
        · have := b4 j hj (by omega) hfj
          exact Or.inr ⟨by omega, this⟩
/-- the lowest card of a set, the highest one -/
theorem lowest_ok (S : Int32) : ∃ z, m_X0_lowest S = some z ∧ m_X7_lowest S = some z ∧ iv_lowest (bt S) 32 z := by
  obtain ⟨z, h1, h2⟩ := m0_lowest_loop S 8 0 300 (by omega) (by omega) (fun j _ h => by omega)
  obtain ⟨y, h3, h4⟩ := m7_lowest S
  have e := iv_lowest_one h2 h4
  subst e
  exact ⟨z, h1, h3, h2⟩
theorem highest_ok (S : Int32) : ∃ z, m_X0_highest S = some z ∧ m_X7_highest S = some z ∧ iv_highest (bt S) 32 z := by
  obtain ⟨z, h1, h2⟩ := m0_highest_loop S 8 300 (by omega) (by omega) (fun j _ h => by omega)
  obtain ⟨y, h3, h4⟩ := m7_highest S
  have e := iv_highest_one h2 h4
  subst e
  exact ⟨z, h1, h3, h2⟩
theorem iv_lowest_in {S : Int32} {z : Int32} (h : iv_lowest (bt S) 32 z) (hS : ¬ S = 0) : ∃ b, b < 32 ∧ z = nI b ∧ bt S b = true := by
  rcases h with ⟨-, h⟩ | ⟨b, b1, b2, b3, -⟩
  · exact absurd (b_ext fun i hi => by rw [h i hi, b_0]) hS
  · exact ⟨b, b1, b2, b3⟩
theorem iv_highest_in {S : Int32} {z : Int32} (h : iv_highest (bt S) 32 z) (hS : ¬ S = 0) : ∃ b, b < 32 ∧ z = nI b ∧ bt S b = true := by
  rcases h with ⟨-, h⟩ | ⟨b, b1, b2, b3, -⟩
  · exact absurd (b_ext fun i hi => by rw [h i hi, b_0]) hS
  · exact ⟨b, b1, b2, b3⟩
