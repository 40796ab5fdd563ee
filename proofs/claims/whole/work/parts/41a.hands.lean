/-! THE STATES' RELATION; HANDS -/
/-- a table and the reference's row -/
def RT (t : pv_TT) (f : Nat → Int32) : Prop := f 0 = t.1 ∧ f 1 = t.2.1 ∧ f 2 = t.2.2.1 ∧ (∀ s, s < 2 → f (3 + s) = t.2.2.2.2.2.1 s) ∧ (∀ s, s < 2 → f (5 + s) = t.2.2.2.2.1 s) ∧ (∀ p, p < 8 → f (7 + p) = t.2.2.2.1 p) ∧ (∀ e, e < 8 → f (15 + 2 * e) = t.2.2.2.2.2.2.1 e) ∧ (∀ e, e < 8 → f (16 + 2 * e) = t.2.2.2.2.2.2.2 e)
/-- what holds of every table; B: the most that its month can be -/
def IT (t : pv_TT) (B : Nat) : Prop := (∃ M, M ≤ B ∧ t.1 = nI M) ∧ (∃ X, X < 32 ∧ X % 2 = 1 ∧ t.2.1 = nI X) ∧ (∃ N, N ≤ 8 ∧ t.2.2.1 = nI N ∧ ∀ s, s < 2 → t.2.2.2.2.2.1 s = -1 ∨ ∃ e, e < N ∧ t.2.2.2.2.2.1 s = nI e) ∧ (∀ p, p < 8 → t.2.2.2.1 p = -1 ∨ t.2.2.2.1 p = 0 ∨ t.2.2.2.1 p = 1) ∧ (∀ s, s < 2 → ∃ g, g ≤ 99999 ∧ t.2.2.2.2.1 s = nI g) ∧ (∀ e, e < 8 → ∃ k, k < 6 ∧ t.2.2.2.2.2.2.1 e = nI k) ∧ (∀ e, e < 8 → ∃ v, v ≤ 9999 ∧ t.2.2.2.2.2.2.2 e = nI v)
/-- all of the reference but its row, what was played, the hands -/
def core (w : pv_MT) : (Nat → Int32) × (Nat → Int32) × Int32 × (Nat → Int32) × (Nat → Int32) × Int32 × Int32 × Int32 × Int32 × Int32 × Int32 × (Nat → Int32) × (Nat → Int32) × (Nat → Int64) := (w.2.1, w.2.2.1, w.2.2.2.1, w.2.2.2.2.1, w.2.2.2.2.2.2.2.1, w.2.2.2.2.2.2.2.2.1, w.2.2.2.2.2.2.2.2.2.1, w.2.2.2.2.2.2.2.2.2.2.1, w.2.2.2.2.2.2.2.2.2.2.2.1, w.2.2.2.2.2.2.2.2.2.2.2.2.1, w.2.2.2.2.2.2.2.2.2.2.2.2.2.1, w.2.2.2.2.2.2.2.2.2.2.2.2.2.2.1, w.2.2.2.2.2.2.2.2.2.2.2.2.2.2.2.1, w.2.2.2.2.2.2.2.2.2.2.2.2.2.2.2.2)
def cntI (h : Int32) : Nat := fb_ct (bt h) 32
theorem cnt_pos {h : Int32} (hc : 0 < cntI h) : ¬ h = 0 := by
  intro e
  subst e
  obtain ⟨k, -, hk⟩ := fb_ct_pos.mp hc
  rw [b_0] at hk
  cases hk
theorem cnt_rem {h z : Int32} (hz : inH h z) : cntI (h &&& (((1 : Int32) <<< (z &&& 31)) ^^^ (-1))) + 1 = cntI h := by
  obtain ⟨b, hb, rfl, hbt⟩ := hz
  have h1 := fb_ct_upd (bt h) false (i := b) (n := 32) hb
  rw [if_pos hbt] at h1
  have h2 : cntI (h &&& (((1 : Int32) <<< (nI b &&& 31)) ^^^ (-1))) = fb_ct (fun k => if k = b then false else bt h k) 32 := by
    apply fb_ct_cong
    intro k hk
    rw [b_and, b_xor, bt_one ⟨b, hb⟩ ⟨k, hk⟩, b_m1 k hk]
    dsimp only
    by_cases e : k = b
    · rw [if_pos e, decide_eq_true e]; simp
    · rw [if_neg e, decide_eq_false e]; simp
  rw [h2]
  unfold cntI
  simpa using h1
theorem hand_lock (w : pv_MT) (x1 : Int32) : ∀ (n : Nat) (acc i : Int32), m_X7_handOf_4 n x1 acc i w = m_X0_dealtHand_5 n (w.1 1) x1 (w.1 0) acc i
  | 0, _, _ => rfl
  | n + 1, acc, i => by
    rw [m_X7_handOf_4_s, m_X0_dealtHand_5_s]
    by_cases h : 4 ≤ i
    · rw [if_pos h, if_pos h]
    · rw [if_neg h, if_neg h]
      exact hand_lock w x1 n _ _
theorem dealt_mod {X p M : Nat} (hX : X < 32) (hp : p < 8) (hM : M < 2 ^ 20) : m_X0_dealt (nI X) (nI p) (nI M) = m_X0_dealt (nI X) (nI p) (nI (M % 32)) := by
  have hm : X * p ≤ 31 * 7 := Nat.mul_le_mul (by omega) (by omega)
  unfold m_X0_dealt
  rw [pk_mul, nI_add, nI_add, lit_rem32 (by omega), lit_rem32 (by omega)]
  congr 1
  omega
theorem hand_mod {X s M : Nat} (hX : X < 32) (hs : s < 2) (hM : M < 2 ^ 20) : ∀ (n i : Nat) (acc : Int32), i ≤ 4 → m_X0_dealtHand_5 n (nI X) (nI s) (nI M) acc (nI i) = m_X0_dealtHand_5 n (nI X) (nI s) (nI (M % 32)) acc (nI i)
  | 0, _, _, _ => rfl
  | n + 1, i, acc, hi => by
    rw [m_X0_dealtHand_5_s, m_X0_dealtHand_5_s]
    by_cases h : 4 ≤ i
    · have hle : (4 : Int32) ≤ nI i := nI_le (a := 4) h (by omega)
      rw [if_pos hle, if_pos hle]
    · have hle : ¬ (4 : Int32) ≤ nI i := nI_ge (b := 4) (by omega) (by omega)
      rw [if_neg hle, if_neg hle, show (4 : Int32) = nI 4 from rfl, pk_mul, nI_add, dealt_mod hX (by omega) hM, nI_1]
      exact hand_mod hX hs hM n (i + 1) _ (by omega)
theorem hand_tab : ∀ X : Fin 32, ∀ s : Fin 2, ∀ M : Fin 32, X.val % 2 = 1 → (m_X0_dealtHand (nI X.val) (nI s.val) (nI M.val)).map cntI = some 4 := by decide +kernel
theorem hand_ok {t : pv_TT} {w : pv_MT} {B : Nat} (hR : RT t w.1) (hI : IT t B) (hB : B < 2 ^ 20) {s : Nat} (hs : s < 2) : ∃ h, m_X4_hand (nI s) t = some h ∧ m_X7_handOf (nI s) w = some h ∧ cntI h = 4 := by
  obtain ⟨⟨M, hM, eM⟩, ⟨X, hX, hX2, eX⟩, -⟩ := hI
  obtain ⟨r0, r1, -⟩ := hR
  have ht := hand_tab ⟨X, hX⟩ ⟨s, hs⟩ ⟨M % 32, by omega⟩ hX2
  have e : m_X0_dealtHand (nI X) (nI s) (nI M) = m_X0_dealtHand (nI X) (nI s) (nI (M % 32)) := hand_mod hX hs (by omega) 300 0 0 (by omega)
  dsimp only at ht
  rw [← e] at ht
  cases hd : m_X0_dealtHand (nI X) (nI s) (nI M) with
  | none => rw [hd] at ht; cases ht
  | some h =>
    rw [hd] at ht
    refine ⟨h, ?_, ?_, Option.some.inj ht⟩
    · unfold m_X4_hand
      rw [eX, eM, hd]
      rfl
    · have := hand_lock w (nI s) 300 0 0
      rw [r0, r1, eX, eM] at this
      exact this.trans hd
