/-! PROVINCES OF A STATE -/
def lnd (o : Nat → Int32) (st : Int32) : Nat → Int32
  | 0 => 0
  | k + 1 => if o k = st then lnd o st k ||| ((1 : Int32) <<< (nI k &&& 31)) else lnd o st k
theorem lnd_cong {o o2 : Nat → Int32} {st : Int32} : ∀ {k : Nat}, (∀ j, j < k → o j = o2 j) → lnd o st k = lnd o2 st k
  | 0, _ => rfl
  | k + 1, h => by
    unfold lnd
    rw [lnd_cong (k := k) (fun j hj => h j (by omega)), h k (by omega)]
theorem pow_tab : ∀ k : Fin 8, ((1 : Int32) <<< (nI k.val &&& 31)) = nI (2 ^ k.val) := by decide +kernel
theorem lnd_nI (o : Nat → Int32) (st : Int32) : ∀ k, k ≤ 8 → ∃ L, L < 256 ∧ lnd o st k = nI L
  | 0, _ => ⟨0, by omega, rfl⟩
  | k + 1, hk => by
    obtain ⟨L, hL, e⟩ := lnd_nI o st k (by omega)
    unfold lnd
    by_cases h : o k = st
    · rw [if_pos h, e, pow_tab ⟨k, by omega⟩, fa_or]
      refine ⟨_, Nat.or_lt_two_pow (n := 8) hL (Nat.pow_lt_pow_right (by omega) (by omega)), rfl⟩
    · rw [if_neg h]
      exact ⟨L, hL, e⟩
theorem ownedSet_loop {T : pv_TT} (st : Int32) : ∀ (k i n : Nat), i + k = 8 → k < n → m_X4_ownedSet_4 n st (lnd T.2.2.2.1 st i) (nI i) T = some (lnd T.2.2.2.1 st 8) := by
  intro k
  induction k with
  | zero =>
    intro i n hi hn
    obtain ⟨n, rfl⟩ : ∃ n', n = n' + 1 := ⟨n - 1, by omega⟩
    have : i = 8 := by omega
    subst this
    rw [m_X4_ownedSet_4_s]
    exact if_pos (by decide)
  | succ k ih =>
    intro i n hi hn
    obtain ⟨n, rfl⟩ : ∃ n', n = n' + 1 := ⟨n - 1, by omega⟩
    have hle : ¬ (8 : Int32) ≤ nI i := nI_ge (b := 8) (by omega) (by omega)
    have h2 := ih (i + 1) n (by omega) (by omega)
    rw [m_X4_ownedSet_4_s, if_neg hle, gd_nI (by omega) (by omega), nI_clamp (by omega)]
    unfold m_X4_ownedSet_26
    rw [nI_1, ← h2]
    show _ = m_X4_ownedSet_4 n st (if T.2.2.2.1 i = st then lnd T.2.2.2.1 st i ||| ((1 : Int32) <<< (nI i &&& 31)) else lnd T.2.2.2.1 st i) (nI (i + 1)) T
    by_cases h : T.2.2.2.1 i = st
    · rw [if_pos h, if_pos h]
    · rw [if_neg h, if_neg h]
theorem ownedSet_ok (T : pv_TT) (st : Int32) : m_X4_ownedSet st T = some (lnd T.2.2.2.1 st 8) := ownedSet_loop st 8 0 300 (by omega) (by omega)
theorem landsOf_loop {w : pv_MT} (st : Int32) : ∀ (k i n : Nat), i + k = 8 → k < n → m_X7_landsOf_4 n st (lnd (fun p => w.1 (7 + p)) st i) (nI i) w = some (lnd (fun p => w.1 (7 + p)) st 8) := by
  intro k
  induction k with
  | zero =>
    intro i n hi hn
    obtain ⟨n, rfl⟩ : ∃ n', n = n' + 1 := ⟨n - 1, by omega⟩
    have : i = 8 := by omega
    subst this
    rw [m_X7_landsOf_4_s]
    exact if_pos (by decide)
  | succ k ih =>
    intro i n hi hn
    obtain ⟨n, rfl⟩ : ∃ n', n = n' + 1 := ⟨n - 1, by omega⟩
    have hle : ¬ (8 : Int32) ≤ nI i := nI_ge (b := 8) (by omega) (by omega)
    have h2 := ih (i + 1) n (by omega) (by omega)
    rw [m_X7_landsOf_4_s, if_neg hle, show (7 : Int32) = nI 7 from rfl, nI_add, gd_nI (by omega) (by omega), nI_clamp (by omega)]
    unfold m_X7_landsOf_31
    rw [nI_1, ← h2, or_0]
    show _ = m_X7_landsOf_4 n st (if w.1 (7 + i) = st then lnd (fun p => w.1 (7 + p)) st i ||| ((1 : Int32) <<< (nI i &&& 31)) else lnd (fun p => w.1 (7 + p)) st i) (nI (i + 1)) w
    by_cases h : w.1 (7 + i) = st
    · rw [if_pos h, if_pos h]
    · rw [if_neg h, if_neg h]
theorem landsOf_ok (w : pv_MT) (st : Int32) : m_X7_landsOf st w = some (lnd (fun p => w.1 (7 + p)) st 8) := landsOf_loop st 8 0 300 (by omega) (by omega)
/-- how many provinces -/
def cntL (o : Nat → Int32) (st : Int32) : Int32 := m_J6_bitCount_0f7a4 (lnd o st 8)
theorem cntL_cong {o o2 : Nat → Int32} {st : Int32} (h : ∀ j, j < 8 → o j = o2 j) : cntL o st = cntL o2 st := by unfold cntL; rw [lnd_cong h]
theorem cntL_le (o : Nat → Int32) (st : Int32) : ∃ c, c ≤ 8 ∧ cntL o st = nI c := by
  obtain ⟨L, hL, e⟩ := lnd_nI o st 8 (by omega)
  refine ⟨pcF 32 L, ?_, by unfold cntL; rw [e, bitCount_nI L (by omega)]⟩
  have h := pcF_cat 8 24 0 L (by omega)
  rw [Nat.mul_zero, Nat.zero_add, pcF_0] at h
  have := pcF_le 8 L
  rw [show (32 : Nat) = 8 + 24 from rfl, h]
  omega
theorem owned_ok (T : pv_TT) (st : Int32) : m_X4_owned st T = some (cntL T.2.2.2.1 st) := by
  unfold m_X4_owned
  rw [ownedSet_ok]
  rfl
theorem lands_bits (w : pv_MT) (st : Int32) : (Option.bind (m_X7_landsOf st w) fun u => m_X7_bits u) = some (cntL (fun p => w.1 (7 + p)) st) := by
  rw [landsOf_ok]
  show m_X7_bits _ = _
  rw [bits_eq]
  rfl
/-- how many tricks state 0 won, who wins the month -/
theorem first_loop {g : pv_GT} : ∀ (k i n : Nat), i + k = 4 → k < n → m_X1_tricksOfFirst_4 n (nI (nW g i)) (nI i) g = some (nI (nW g 4)) := by
  intro k
  induction k with
  | zero =>
    intro i n hi hn
    obtain ⟨n, rfl⟩ : ∃ n', n = n' + 1 := ⟨n - 1, by omega⟩
    have : i = 4 := by omega
    subst this
    rw [m_X1_tricksOfFirst_4_s]
    exact if_pos (by decide)
  | succ k ih =>
    intro i n hi hn
    obtain ⟨n, rfl⟩ : ∃ n', n = n' + 1 := ⟨n - 1, by omega⟩
    have hle : ¬ (4 : Int32) ≤ nI i := nI_ge (b := 4) (by omega) (by omega)
    have h2 := ih (i + 1) n (by omega) (by omega)
    have hs : nW g (i + 1) = nW g i + (if decide (g.2.2.2.2 i = 0) = true then 1 else 0) := fb_ct_succ _ _
    rw [m_X1_tricksOfFirst_4_s, if_neg hle, gd_nI (by omega) (by omega), nI_clamp (by omega)]
    unfold m_X1_tricksOfFirst_24
    rw [nI_1 i, ← h2, hs]
    by_cases h : g.2.2.2.2 i = 0
    · rw [if_pos h, if_pos (by simpa using h), nI_1]
    · rw [if_neg h, if_neg (by simpa using h), show nI (nW g i) + 0 = nI (nW g i + 0) from nI_add _ 0]
theorem first_ok (g : pv_GT) : m_X1_tricksOfFirst g = some (nI (nW g 4)) := first_loop 4 0 300 (by omega) (by omega)
/-- who wins with so many tricks of state 0 -/
def vic (n : Nat) : Int32 := if n = 2 then -1 else if n ≤ 2 then 1 else 0
theorem nW_le (g : pv_GT) : nW g 4 ≤ 4 := fb_ct_le _ 4
theorem victor_ok (g : pv_GT) : m_X1_victor g = some (vic (nW g 4)) := by
  have hn := nW_le g
  unfold m_X1_victor vic
  rw [first_ok]
  show (if nI (nW g 4) = 2 then some (-1) else if nI (nW g 4) ≤ 2 then some 1 else some 0) = _
  rcases (show nW g 4 = 0 ∨ nW g 4 = 1 ∨ nW g 4 = 2 ∨ nW g 4 = 3 ∨ nW g 4 = 4 by omega) with h | h | h | h | h <;> rw [h] <;> decide
